/-! X7_acceptEntries -/
theorem mX7_acceptEntries_0 : Cond.fieldLink RX7 314 "ClearingFiles$Batch" "entries" "Ljava/util/ArrayList;" ∈ wsX7_acceptEntries := by decide +kernel
theorem mX7_acceptEntries_1 : Cond.classLink RX7 151 "ClearingFiles$Entry" ∈ wsX7_acceptEntries := by decide +kernel
theorem mX7_acceptEntries_2 : Cond.fieldLink RX7 179 "ClearingFiles$Entry" "reason" "I" ∈ wsX7_acceptEntries := by decide +kernel
theorem mX7_acceptEntries_3 : Cond.fieldLink RX7 160 "ClearingFiles$Entry" "receiver" "LClearingFiles$Bank;" ∈ wsX7_acceptEntries := by decide +kernel
theorem mX7_acceptEntries_4 : Cond.fieldLink RX7 213 "ClearingFiles$Bank" "entries" "Ljava/util/ArrayList;" ∈ wsX7_acceptEntries := by decide +kernel
theorem nX7_acceptEntries_X2 : ∀ w ∈ u_ws RX2 TX2 9, w ∈ wsX7_acceptEntries := fun _ h => List.mem_cons_of_mem _ (List.mem_append_left _ (List.mem_append_left _ (List.mem_append_left _ (List.mem_append_left _ (List.mem_append_right _ h)))))
theorem nX7_acceptEntries_X3 : ∀ w ∈ u_ws RX3 TX3 9, w ∈ wsX7_acceptEntries := fun _ h => List.mem_cons_of_mem _ (List.mem_append_left _ (List.mem_append_left _ (List.mem_append_left _ (List.mem_append_right _ h))))
theorem nX7_acceptEntries_X1 : ∀ w ∈ u_ws RX1 TX1 6, w ∈ wsX7_acceptEntries := fun _ h => List.mem_cons_of_mem _ (List.mem_append_left _ (List.mem_append_left _ (List.mem_append_right _ h)))
abbrev rmX7_acceptEntries : Room := { frames := 7, cells := 21, slots := 2688, locals := 221 }
set_option maxRecDepth 100000 in
def wX7_acceptEntries_4 (o : Nat) (post : Int32 → St → Prop) : Nat → Option Nat → Int32 → Int32 → St → Prop
  | 0, _, _, _, _ => False
  | n + 1, r1, x2, x3, σ0 =>
    ∃ a3 : Nat, r1 = some a3 ∧ (sK σ0 a3 = 3 ∧ (∀ r5 : Option Nat, r5 = sR σ0 150 a3 0 → (∃ a6 : Nat, r5 = some a6 ∧ (wL_size a6 (fun (x10 : Int32) (σ8 : St) => (x10 ≤ x3 → (post x2 σ8)) ∧ (¬ x10 ≤ x3 → (sK σ8 a3 = 3 ∧ (∀ r13 : Option Nat, r13 = sR σ8 150 a3 0 → (∃ a14 : Nat, r13 = some a14 ∧ (wL_get a14 x3 (fun (r18 : Option Nat) (σ16 : St) => ∃ a19 : Nat, r18 = some a19 ∧ (sK σ16 a19 = 4 ∧ (sK σ16 a19 = 4 ∧ (((sI σ16 208 a19 0) = 0 → (sK σ16 a19 = 4 ∧ (∀ r25 : Option Nat, r25 = sR σ16 207 a19 0 → ((r25 = none → (∀ x27 : Int32, x27 = x3 + (1 : Int32) → (wX7_acceptEntries_4 o post n (some a3) x2 x27 σ16))) ∧ (¬ r25 = none → (sK σ16 a19 = 4 ∧ (∀ r30 : Option Nat, r30 = sR σ16 207 a19 0 → (∃ a31 : Nat, r30 = some a31 ∧ (sK σ16 a31 = 2 ∧ (∀ r33 : Option Nat, r33 = sR σ16 102 a31 0 → (∃ a34 : Nat, r33 = some a34 ∧ (wL_add a34 (some a19) (fun (x38 : Int32) (σ36 : St) => ∀ x39 : Int32, x39 = x2 + (1 : Int32) → (∀ x41 : Int32, x41 = x3 + (1 : Int32) → (wX7_acceptEntries_4 o post n (some a3) x39 x41 σ36))) σ16)))))))))))) ∧ (¬ (sI σ16 208 a19 0) = 0 → (sK σ16 a19 = 4 ∧ (sK σ16 o = 8 ∧ (wX7_countRefusal o (sI σ16 208 a19 0) (fun (σ45 : St) => ∀ x47 : Int32, x47 = x3 + (1 : Int32) → (wX7_acceptEntries_4 o post n (some a3) x2 x47 σ45)) σ16)))))))) σ8)))))) σ0))))
set_option maxHeartbeats 4000000 in
set_option maxRecDepth 100000 in
theorem bX7_acceptEntries_4 {p : Program} {l : Launch} {e : Env} {s : State} {m : MethodId} {args : Array Value} {below : List Frame} {meth : Method} {c : Code} {Γ : rGam} {o : Nat} {post : Int32 → St → Prop} (F : Fx Γ p s m meth c args cX7_acceptEntries 5 RX7 wsX7_acceptEntries (some .int)) : ∀ (n : Nat) (r1 : Option Nat) (x2 : Int32) (x3 : Int32) (σ0 : St) (H : Heap) (locs : List Loc) (ls : Array Slot) (cells slots : Nat), wX7_acceptEntries_4 o post n r1 x2 x3 σ0 → Rep Γ σ0 H → va_S (rA Γ) s.heap H locs → lv_has ls 5 [(0, .ref o), (1, va_rf r1), (2, .int x2), (3, .int x3)] → cells + n * 1 + 0 ≤ 21 ∧ slots + n * 128 + 0 ≤ 2688 → W p l e rmX7_acceptEntries s m args below meth c H locs cells slots (rQi Γ below post args s 21 2688) (F0 m 4 ls []) := by
  have hx := F.1.1
  have hb := F.1.2.1
  intro n
  induction n with
  | zero =>
    intro r1 x2 x3 σ0 H locs ls cells slots h
    exact absurd h (by unfold wX7_acceptEntries_4; exact id)
  | succ n ih =>
    intro r1 x2 x3 σ0 H locs ls cells slots h hR hS hl hc
    unfold wX7_acceptEntries_4 at h
    refine lv_iload_n hx hb dX7_acceptEntries_4 rfl (lv_at hl 3 rfl) ?_
    refine s_aload_n hx hb dX7_acceptEntries_5 rfl (lv_at hl 1 rfl) ?_
    obtain ⟨a3, ea3, h⟩ := h
    subst ea3
    obtain ⟨k4, h⟩ := h
    refine s_getR F hR k4 (by decide) (C := RX2) (T := TX2) (N := 9) rfl nX7_acceptEntries_X2 0 (by decide) mX7_acceptEntries_0 (f := 150) rfl dX7_acceptEntries_6 (fun r5 er5 => ?_)
    replace h := h r5 er5
    obtain ⟨a6, ea6, h⟩ := h
    subst ea6
    have k7 := h.1
    refine s_ci hS (k_runV F hR hS hl 0 [] (kL_size l Γ a6 _ _ h) gX7_acceptEntries_Jx4a65c_size_8abf5 rfl rfl rfl (by decide +kernel) ⟨Nat.le_of_ble_eq_true rfl, Nat.le_of_ble_eq_true rfl⟩ (s_recv F hR rfl (by omega) (C := RJx4a65c) (T := TJx4a65c) (N := 3) (by unfold rCi; rw [if_neg (by omega)]; rfl)) rfl (Nat.le_of_ble_eq_true rfl) dX7_acceptEntries_9 ⟨by show _ ≤ 21; omega, by show _ ≤ 2688; omega⟩) (fun x10 σ8 H locs h9 hR hS => ?_)
    refine lv_icmp_ge (tgt := 79) hx hb dX7_acceptEntries_12 (by decide) (fun c11 => ?_) (fun c11 => ?_)
    · replace h9 := h9.1 c11
      refine lv_iload_n hx hb dX7_acceptEntries_79 rfl (lv_at hl 2 rfl) ?_
      exact s_iret F hR hS h9 (by omega) dX7_acceptEntries_80
    · replace h9 := h9.2 c11
      refine lv_aload_n hx hb dX7_acceptEntries_15 rfl (lv_at hl 1 rfl) ?_
      obtain ⟨k12, h9⟩ := h9
      refine s_getR F hR k12 (by decide) (C := RX2) (T := TX2) (N := 9) rfl nX7_acceptEntries_X2 0 (by decide) mX7_acceptEntries_0 (f := 150) rfl dX7_acceptEntries_16 (fun r13 er13 => ?_)
      replace h9 := h9 r13 er13
      refine lv_iload_n hx hb dX7_acceptEntries_19 rfl (lv_at hl 3 rfl) ?_
      obtain ⟨a14, ea14, h9⟩ := h9
      subst ea14
      have k15 := h9.1
      refine s_cq hS (k_runV F hR hS hl 1 [.int x3] (kL_get l Γ a14 x3 _ _ h9) gX7_acceptEntries_Jx4a65c_get_915e3 rfl rfl rfl (by decide +kernel) ⟨Nat.le_of_ble_eq_true rfl, Nat.le_of_ble_eq_true rfl⟩ (s_recv F hR rfl (by omega) (C := RJx4a65c) (T := TJx4a65c) (N := 3) (by unfold rCi; rw [if_neg (by omega)]; rfl)) rfl (Nat.le_of_ble_eq_true rfl) dX7_acceptEntries_20 ⟨by show _ ≤ 21; omega, by show _ ≤ 2688; omega⟩) (fun r18 σ16 H locs h17 hR hS => ?_)
      obtain ⟨a19, ea19, h17⟩ := h17
      subst ea19
      obtain ⟨k20, h17⟩ := h17
      refine s_cast F hR k20 (by decide) (T := TX3) (N := 9) rfl mX7_acceptEntries_1 dX7_acceptEntries_23 ?_
      refine s_astore (r := (some a19)) (lk := [(3, .int x3)]) (lv' := [(4, .ref a19), (0, .ref o), (1, .ref a3), (2, .int x2), (3, .int x3)]) hx hb dX7_acceptEntries_26 hl (by decide) rfl (lk_1 rfl) rfl (fun ls hl21 => ?_)
      refine lv_aload hx hb dX7_acceptEntries_28 (lv_at hl21 0 rfl) ?_
      obtain ⟨k22, h17⟩ := h17
      refine s_getI F hR k22 (by decide) (C := RX3) (T := TX3) (N := 9) rfl nX7_acceptEntries_X3 8 (by decide) mX7_acceptEntries_2 (f := 208) rfl dX7_acceptEntries_30 ?_
      refine lv_if_eq (tgt := 48) hx hb dX7_acceptEntries_33 (by decide) (fun c23 => ?_) (fun c23 => ?_)
      · replace h17 := h17.1 c23
        refine lv_aload hx hb dX7_acceptEntries_48 (lv_at hl21 0 rfl) ?_
        obtain ⟨k24, h17⟩ := h17
        refine s_getR F hR k24 (by decide) (C := RX3) (T := TX3) (N := 9) rfl nX7_acceptEntries_X3 7 (by decide) mX7_acceptEntries_3 (f := 207) rfl dX7_acceptEntries_50 (fun r25 er25 => ?_)
        replace h17 := h17 r25 er25
        refine s_ifnull (r := r25) hx hb dX7_acceptEntries_53 (tgt := 73) (by decide) (fun c26 => ?_) (fun c26 => ?_)
        · replace h17 := h17.1 c26
          obtain ⟨x27, ex27⟩ : ∃ x : Int32, x = x3 + (1 : Int32) := ⟨_, rfl⟩
          replace h17 := h17 x27 ex27
          refine s_iinc (v := x27) (d := 1) (lk := [(2, .int x2)]) (lv' := [(3, .int x27), (4, .ref a19), (0, .ref o), (1, .ref a3), (2, .int x2)]) hx hb dX7_acceptEntries_73 hl21 (k := 4) rfl (by decide) (by decide) rfl (lk_1 rfl) ex27 rfl (fun ls hl28 => ?_)
          refine lv_goto (tgt := 4) hx hb dX7_acceptEntries_76 (by decide) ?_
          exact ih (some a3) x2 x27 σ16 _ _ _ _ _ h17 hR hS (lv_sub hl28 [2, 3, 4, 0] rfl) (by omega)
        · replace h17 := h17.2 c26
          refine lv_aload hx hb dX7_acceptEntries_56 (lv_at hl21 0 rfl) ?_
          obtain ⟨k29, h17⟩ := h17
          refine s_getR F hR k29 (by decide) (C := RX3) (T := TX3) (N := 9) rfl nX7_acceptEntries_X3 7 (by decide) mX7_acceptEntries_3 (f := 207) rfl dX7_acceptEntries_58 (fun r30 er30 => ?_)
          replace h17 := h17 r30 er30
          obtain ⟨a31, ea31, h17⟩ := h17
          subst ea31
          obtain ⟨k32, h17⟩ := h17
          refine s_getR F hR k32 (by decide) (C := RX1) (T := TX1) (N := 6) rfl nX7_acceptEntries_X1 2 (by decide) mX7_acceptEntries_4 (f := 102) rfl dX7_acceptEntries_61 (fun r33 er33 => ?_)
          replace h17 := h17 r33 er33
          refine lv_aload hx hb dX7_acceptEntries_64 (lv_at hl21 0 rfl) ?_
          obtain ⟨a34, ea34, h17⟩ := h17
          subst ea34
          have k35 := h17.1
          refine s_ci hS (k_runV F hR hS hl21 1 [.ref a19] (kL_add l Γ a34 (some a19) _ _ h17) gX7_acceptEntries_Jx4a65c_add_9ea2d rfl rfl rfl (by decide +kernel) ⟨Nat.le_of_ble_eq_true rfl, Nat.le_of_ble_eq_true rfl⟩ (s_recv F hR rfl (by omega) (C := RJx4a65c) (T := TJx4a65c) (N := 3) (by unfold rCi; rw [if_neg (by omega)]; rfl)) rfl (Nat.le_of_ble_eq_true rfl) dX7_acceptEntries_66 ⟨by show _ ≤ 21; omega, by show _ ≤ 2688; omega⟩) (fun x38 σ36 H locs h37 hR hS => ?_)
          refine lv_pop hx hb dX7_acceptEntries_69 rfl ?_
          obtain ⟨x39, ex39⟩ : ∃ x : Int32, x = x2 + (1 : Int32) := ⟨_, rfl⟩
          replace h37 := h37 x39 ex39
          refine s_iinc (v := x39) (d := 1) (lk := [(1, .ref a3)]) (lv' := [(2, .int x39), (4, .ref a19), (0, .ref o), (1, .ref a3), (3, .int x3)]) hx hb dX7_acceptEntries_70 hl21 (k := 3) rfl (by decide) (by decide) rfl (lk_1 rfl) ex39 rfl (fun ls hl40 => ?_)
          obtain ⟨x41, ex41⟩ : ∃ x : Int32, x = x3 + (1 : Int32) := ⟨_, rfl⟩
          replace h37 := h37 x41 ex41
          refine s_iinc (v := x41) (d := 1) (lk := [(2, .int x39)]) (lv' := [(3, .int x41), (2, .int x39), (4, .ref a19), (0, .ref o), (1, .ref a3)]) hx hb dX7_acceptEntries_73 hl40 (k := 4) rfl (by decide) (by decide) rfl (lk_1 rfl) ex41 rfl (fun ls hl42 => ?_)
          refine lv_goto (tgt := 4) hx hb dX7_acceptEntries_76 (by decide) ?_
          exact ih (some a3) x39 x41 σ36 _ _ _ _ _ h37 hR hS (lv_sub hl42 [3, 4, 1, 0] rfl) (by omega)
      · replace h17 := h17.2 c23
        refine lv_aload_n hx hb dX7_acceptEntries_36 rfl (lv_at hl21 1 rfl) ?_
        refine lv_aload hx hb dX7_acceptEntries_37 (lv_at hl21 0 rfl) ?_
        obtain ⟨k43, h17⟩ := h17
        refine s_getI F hR k43 (by decide) (C := RX3) (T := TX3) (N := 9) rfl nX7_acceptEntries_X3 8 (by decide) mX7_acceptEntries_2 (f := 208) rfl dX7_acceptEntries_39 ?_
        obtain ⟨k44, h17⟩ := h17
        refine s_cv hS (k_runV F hR hS hl21 1 [.int (sI σ16 208 a19 0)] (kX7_countRefusal l Γ o (sI σ16 208 a19 0) _ _ h17) gX7_acceptEntries_X7_countRefusal rfl rfl rfl (by decide +kernel) ⟨Nat.le_of_ble_eq_true rfl, Nat.le_of_ble_eq_true rfl⟩ (s_recv F hR k44 (by decide) (C := RX7) (T := TX7) (N := 7) rfl) rfl (Nat.le_of_ble_eq_true rfl) dX7_acceptEntries_42 ⟨by show _ ≤ 21; omega, by show _ ≤ 2688; omega⟩) (fun σ45 H locs h46 hR hS => ?_)
        refine lv_goto (tgt := 73) hx hb dX7_acceptEntries_45 (by decide) ?_
        obtain ⟨x47, ex47⟩ : ∃ x : Int32, x = x3 + (1 : Int32) := ⟨_, rfl⟩
        replace h46 := h46 x47 ex47
        refine s_iinc (v := x47) (d := 1) (lk := [(2, .int x2)]) (lv' := [(3, .int x47), (4, .ref a19), (0, .ref o), (1, .ref a3), (2, .int x2)]) hx hb dX7_acceptEntries_73 hl21 (k := 4) rfl (by decide) (by decide) rfl (lk_1 rfl) ex47 rfl (fun ls hl48 => ?_)
        refine lv_goto (tgt := 4) hx hb dX7_acceptEntries_76 (by decide) ?_
        exact ih (some a3) x2 x47 σ45 _ _ _ _ _ h46 hR hS (lv_sub hl48 [2, 3, 4, 0] rfl) (by omega)

set_option maxRecDepth 100000 in
def wX7_acceptEntries (o : Nat) (p1 : Option Nat) (post : Int32 → St → Prop) (σ0 : St) : Prop :=
  ∃ n49 : Nat, n49 ≤ 21 ∧ wX7_acceptEntries_4 o post n49 p1 (0 : Int32) (0 : Int32) σ0
set_option maxHeartbeats 4000000 in
set_option maxRecDepth 100000 in
theorem bX7_acceptEntries {p : Program} {l : Launch} {e : Env} {s : State} {m : MethodId} {args : Array Value} {below : List Frame} {meth : Method} {c : Code} {Γ : rGam} {o : Nat} {post : Int32 → St → Prop} (F : Fx Γ p s m meth c args cX7_acceptEntries 5 RX7 wsX7_acceptEntries (some .int)) {H : Heap} {locs : List Loc} {ls : Array Slot} {cells slots : Nat} {p1 : Option Nat} {σ0 : St} (h : wX7_acceptEntries o p1 post σ0) (hR : Rep Γ σ0 H) (hS : va_S (rA Γ) s.heap H locs) (hl : lv_has ls 5 [(0, .ref o), (1, va_rf p1)]) (hc : cells + 21 ≤ 21 ∧ slots + 2688 ≤ 2688) : W p l e rmX7_acceptEntries s m args below meth c H locs cells slots (rQi Γ below post args s 21 2688) (F0 m 0 ls []) := by
  have hx := F.1.1
  have hb := F.1.2.1
  unfold wX7_acceptEntries at h
  refine lv_iconst (v := 0) hx hb dX7_acceptEntries_0 (by decide) ?_
  refine s_istore_n (lk := [(1, va_rf p1)]) (lv' := [(2, .int (0 : Int32)), (0, .ref o), (1, va_rf p1)]) hx hb dX7_acceptEntries_1 rfl hl (by decide) rfl lk_r rfl (fun ls hl1 => ?_)
  refine lv_iconst (v := 0) hx hb dX7_acceptEntries_2 (by decide) ?_
  refine s_istore_n (lk := [(2, .int (0 : Int32))]) (lv' := [(3, .int (0 : Int32)), (2, .int (0 : Int32)), (0, .ref o), (1, va_rf p1)]) hx hb dX7_acceptEntries_3 rfl hl1 (by decide) rfl (lk_1 rfl) rfl (fun ls hl2 => ?_)
  obtain ⟨n49, hn, h⟩ := h
  exact bX7_acceptEntries_4 F n49 p1 (0 : Int32) (0 : Int32) σ0 _ _ _ _ _ h hR hS (lv_sub hl2 [2, 3, 1, 0] rfl) (by omega)
set_option maxHeartbeats 4000000 in
set_option maxRecDepth 100000 in
theorem kX7_acceptEntries (l : Launch) (Γ : rGam) (o : Nat) (p1 : Option Nat) (post : Int32 → St → Prop) (σ0 : St) (h : wX7_acceptEntries o p1 post σ0) : Met l yX7_acceptEntries wsX7_acceptEntries rmX7_acceptEntries (rPc Γ vwCl [.ref o, va_rf p1] (Rep Γ σ0)) (va_Qi post (fun σ' t => Rep Γ σ' t.heap) (rA Γ)) 21 2688 (rA Γ) := by
  rcases p1 with _ | p1v
  · refine Met.ofW (cc := cX7_acceptEntries) (maxL := 5) (ret := (some .int)) (by decide) rfl ?_
    intro p e s m args below meth c s₁ B hml hv
    obtain ⟨rfl, hR, hE⟩ := hv
    have F : Fx Γ p s m meth c _ cX7_acceptEntries 5 RX7 wsX7_acceptEntries (some .int) := ⟨⟨B.exec, B.bytes, hml, findClass_of_methodNamed B.named, atoms_spec (ws := wsX7_acceptEntries) B.pre⟩, hE, B.notSynchronized, B.returns⟩
    have hl := lv_entry ([.ref o, va_rf none]) (n := 5) (Nat.le_of_ble_eq_true rfl)
    rw [lg_entry_eq]
    generalize (lg_sl ([.ref o, va_rf none]) ++ List.replicate (5 - (lg_sl ([.ref o, va_rf none])).length) Slot.unset).toArray = ls at hl ⊢
    have hl : lv_has ls 5 [(0, .ref o), (1, va_rf none)] := hl
    exact bX7_acceptEntries F h hR va_S.rf hl ⟨by show _ + _ ≤ _; omega, by show _ + _ ≤ _; omega⟩
  · refine Met.ofW (cc := cX7_acceptEntries) (maxL := 5) (ret := (some .int)) (by decide) rfl ?_
    intro p e s m args below meth c s₁ B hml hv
    obtain ⟨rfl, hR, hE⟩ := hv
    have F : Fx Γ p s m meth c _ cX7_acceptEntries 5 RX7 wsX7_acceptEntries (some .int) := ⟨⟨B.exec, B.bytes, hml, findClass_of_methodNamed B.named, atoms_spec (ws := wsX7_acceptEntries) B.pre⟩, hE, B.notSynchronized, B.returns⟩
    have hl := lv_entry ([.ref o, va_rf (some p1v)]) (n := 5) (Nat.le_of_ble_eq_true rfl)
    rw [lg_entry_eq]
    generalize (lg_sl ([.ref o, va_rf (some p1v)]) ++ List.replicate (5 - (lg_sl ([.ref o, va_rf (some p1v)])).length) Slot.unset).toArray = ls at hl ⊢
    have hl : lv_has ls 5 [(0, .ref o), (1, va_rf (some p1v))] := hl
    exact bX7_acceptEntries F h hR va_S.rf hl ⟨by show _ + _ ≤ _; omega, by show _ + _ ≤ _; omega⟩
/-! X7_acceptBatches -/
theorem mX7_acceptBatches_0 : Cond.fieldLink RX7 22 "ClearingFiles" "file" "LClearingFiles$Incoming;" ∈ wsX7_acceptBatches := by decide +kernel
theorem mX7_acceptBatches_1 : Cond.fieldLink RX7 231 "ClearingFiles$Incoming" "batchCount" "I" ∈ wsX7_acceptBatches := by decide +kernel
theorem mX7_acceptBatches_2 : Cond.fieldLink RX7 234 "ClearingFiles$Incoming" "batches" "[LClearingFiles$Batch;" ∈ wsX7_acceptBatches := by decide +kernel
theorem mX7_acceptBatches_3 : Cond.fieldLink RX7 300 "ClearingFiles$Batch" "reason" "I" ∈ wsX7_acceptBatches := by decide +kernel
theorem nX7_acceptBatches_X7 : ∀ w ∈ u_ws RX7 TX7 7, w ∈ wsX7_acceptBatches := fun _ h => List.mem_cons_of_mem _ (List.mem_append_left _ (List.mem_append_left _ (List.mem_append_left _ (List.mem_append_left _ (List.mem_append_left _ (List.mem_append_right _ h))))))
theorem nX7_acceptBatches_X4 : ∀ w ∈ u_ws RX4 TX4 8, w ∈ wsX7_acceptBatches := fun _ h => List.mem_cons_of_mem _ (List.mem_append_left _ (List.mem_append_left _ (List.mem_append_left _ (List.mem_append_left _ (List.mem_append_right _ h)))))
theorem nX7_acceptBatches_X2 : ∀ w ∈ u_ws RX2 TX2 9, w ∈ wsX7_acceptBatches := fun _ h => List.mem_cons_of_mem _ (List.mem_append_left _ (List.mem_append_left _ (List.mem_append_left _ (List.mem_append_right _ h))))
abbrev rmX7_acceptBatches : Room := { frames := 8, cells := 105, slots := 13440, locals := 245 }
set_option maxRecDepth 100000 in
def wX7_acceptBatches_4 (o : Nat) (post : Int32 → St → Prop) : Nat → Int32 → Int32 → St → Prop
  | 0, _, _, _ => False
  | n + 1, x1, x2, σ0 =>
    sK σ0 o = 8 ∧ (∀ r4 : Option Nat, r4 = sR σ0 402 o 0 → (∃ a5 : Nat, r4 = some a5 ∧ (sK σ0 a5 = 5 ∧ (((sI σ0 253 a5 0) ≤ x2 → (post x1 σ0)) ∧ (¬ (sI σ0 253 a5 0) ≤ x2 → (sK σ0 o = 8 ∧ (∀ r9 : Option Nat, r9 = sR σ0 402 o 0 → (∃ a10 : Nat, r9 = some a10 ∧ (sK σ0 a10 = 5 ∧ (∀ r12 : Option Nat, r12 = sR σ0 250 a10 0 → (∃ a13 : Nat, r12 = some a13 ∧ (sK σ0 a13 = 1250 ∧ (vp_in x2 4 ∧ (∀ r16 : Option Nat, r16 = sR σ0 1250 a13 x2.toNatClampNeg → (∃ a18 : Nat, r16 = some a18 ∧ (sK σ0 a18 = 3 ∧ (((sI σ0 158 a18 0) = 0 → (sK σ0 o = 8 ∧ (wX7_acceptEntries o (some a18) (fun (x24 : Int32) (σ22 : St) => ∀ x25 : Int32, x25 = (x1 + x24) → (∀ x27 : Int32, x27 = x2 + (1 : Int32) → (wX7_acceptBatches_4 o post n x25 x27 σ22))) σ0))) ∧ (¬ (sI σ0 158 a18 0) = 0 → (sK σ0 a18 = 3 ∧ (sK σ0 o = 8 ∧ (wX7_countRefusal o (sI σ0 158 a18 0) (fun (σ31 : St) => ∀ x33 : Int32, x33 = x2 + (1 : Int32) → (wX7_acceptBatches_4 o post n x1 x33 σ31)) σ0)))))))))))))))))))))
set_option maxHeartbeats 4000000 in
set_option maxRecDepth 100000 in
theorem bX7_acceptBatches_4 {p : Program} {l : Launch} {e : Env} {s : State} {m : MethodId} {args : Array Value} {below : List Frame} {meth : Method} {c : Code} {Γ : rGam} {o : Nat} {post : Int32 → St → Prop} (F : Fx Γ p s m meth c args cX7_acceptBatches 4 RX7 wsX7_acceptBatches (some .int)) : ∀ (n : Nat) (x1 : Int32) (x2 : Int32) (σ0 : St) (H : Heap) (locs : List Loc) (ls : Array Slot) (cells slots : Nat), wX7_acceptBatches_4 o post n x1 x2 σ0 → Rep Γ σ0 H → va_S (rA Γ) s.heap H locs → lv_has ls 4 [(0, .ref o), (1, .int x1), (2, .int x2)] → cells + n * 21 + 0 ≤ 105 ∧ slots + n * 2688 + 0 ≤ 13440 → W p l e rmX7_acceptBatches s m args below meth c H locs cells slots (rQi Γ below post args s 105 13440) (F0 m 4 ls []) := by
  have hx := F.1.1
  have hb := F.1.2.1
  intro n
  induction n with
  | zero =>
    intro x1 x2 σ0 H locs ls cells slots h
    exact absurd h (by unfold wX7_acceptBatches_4; exact id)
  | succ n ih =>
    intro x1 x2 σ0 H locs ls cells slots h hR hS hl hc
    unfold wX7_acceptBatches_4 at h
    refine lv_iload_n hx hb dX7_acceptBatches_4 rfl (lv_at hl 2 rfl) ?_
    refine lv_aload_n hx hb dX7_acceptBatches_5 rfl (lv_at hl 0 rfl) ?_
    obtain ⟨k3, h⟩ := h
    refine s_getR F hR k3 (by decide) (C := RX7) (T := TX7) (N := 7) rfl nX7_acceptBatches_X7 2 (by decide) mX7_acceptBatches_0 (f := 402) rfl dX7_acceptBatches_6 (fun r4 er4 => ?_)
    replace h := h r4 er4
    obtain ⟨a5, ea5, h⟩ := h
    subst ea5
    obtain ⟨k6, h⟩ := h
    refine s_getI F hR k6 (by decide) (C := RX4) (T := TX4) (N := 8) rfl nX7_acceptBatches_X4 3 (by decide) mX7_acceptBatches_1 (f := 253) rfl dX7_acceptBatches_9 ?_
    refine lv_icmp_ge (tgt := 57) hx hb dX7_acceptBatches_12 (by decide) (fun c7 => ?_) (fun c7 => ?_)
    · replace h := h.1 c7
      refine lv_iload_n hx hb dX7_acceptBatches_57 rfl (lv_at hl 1 rfl) ?_
      exact s_iret F hR hS h (by omega) dX7_acceptBatches_58
    · replace h := h.2 c7
      refine lv_aload_n hx hb dX7_acceptBatches_15 rfl (lv_at hl 0 rfl) ?_
      obtain ⟨k8, h⟩ := h
      refine s_getR F hR k8 (by decide) (C := RX7) (T := TX7) (N := 7) rfl nX7_acceptBatches_X7 2 (by decide) mX7_acceptBatches_0 (f := 402) rfl dX7_acceptBatches_16 (fun r9 er9 => ?_)
      replace h := h r9 er9
      obtain ⟨a10, ea10, h⟩ := h
      subst ea10
      obtain ⟨k11, h⟩ := h
      refine s_getR F hR k11 (by decide) (C := RX4) (T := TX4) (N := 8) rfl nX7_acceptBatches_X4 0 (by decide) mX7_acceptBatches_2 (f := 250) rfl dX7_acceptBatches_19 (fun r12 er12 => ?_)
      replace h := h r12 er12
      refine lv_iload_n hx hb dX7_acceptBatches_22 rfl (lv_at hl 2 rfl) ?_
      obtain ⟨a13, ea13, h⟩ := h
      subst ea13
      obtain ⟨k14, h⟩ := h
      obtain ⟨z15, h⟩ := h
      refine s_aald F hR k14 (by decide) rfl z15 dX7_acceptBatches_23 (fun r16 er16 => ?_)
      replace h := h r16 er16
      refine s_astore_n (r := r16) (lk := [(2, .int x2)]) (lv' := [(3, va_rf r16), (0, .ref o), (1, .int x1), (2, .int x2)]) hx hb dX7_acceptBatches_24 rfl hl (by decide) rfl (lk_1 rfl) rfl (fun ls hl17 => ?_)
      refine s_aload_n hx hb dX7_acceptBatches_25 rfl (lv_at hl17 0 rfl) ?_
      obtain ⟨a18, ea18, h⟩ := h
      subst ea18
      obtain ⟨k19, h⟩ := h
      refine s_getI F hR k19 (by decide) (C := RX2) (T := TX2) (N := 9) rfl nX7_acceptBatches_X2 8 (by decide) mX7_acceptBatches_3 (f := 158) rfl dX7_acceptBatches_26 ?_
      refine lv_if_eq (tgt := 43) hx hb dX7_acceptBatches_29 (by decide) (fun c20 => ?_) (fun c20 => ?_)
      · replace h := h.1 c20
        refine lv_iload_n hx hb dX7_acceptBatches_43 rfl (lv_at hl17 2 rfl) ?_
        refine lv_aload_n hx hb dX7_acceptBatches_44 rfl (lv_at hl17 1 rfl) ?_
        refine lv_aload_n hx hb dX7_acceptBatches_45 rfl (lv_at hl17 0 rfl) ?_
        obtain ⟨k21, h⟩ := h
        refine s_ci hS (k_runV F hR hS hl17 1 [.ref a18] (kX7_acceptEntries l Γ o (some a18) _ _ h) gX7_acceptBatches_X7_acceptEntries rfl rfl rfl (by decide +kernel) ⟨Nat.le_of_ble_eq_true rfl, Nat.le_of_ble_eq_true rfl⟩ (s_recv F hR k21 (by decide) (C := RX7) (T := TX7) (N := 7) rfl) rfl (Nat.le_of_ble_eq_true rfl) dX7_acceptBatches_46 ⟨by show _ ≤ 105; omega, by show _ ≤ 13440; omega⟩) (fun x24 σ22 H locs h23 hR hS => ?_)
        refine lv_iadd hx hb dX7_acceptBatches_49 ?_
        refine lv_topi (fun x25 ex25 => ?_)
        replace h23 := h23 x25 ex25
        refine s_istore_n (lk := [(0, .ref o)]) (lv' := [(1, .int x25), (3, .ref a18), (0, .ref o), (2, .int x2)]) hx hb dX7_acceptBatches_50 rfl hl17 (by decide) rfl (lk_1 rfl) rfl (fun ls hl26 => ?_)
        obtain ⟨x27, ex27⟩ : ∃ x : Int32, x = x2 + (1 : Int32) := ⟨_, rfl⟩
        replace h23 := h23 x27 ex27
        refine s_iinc (v := x27) (d := 1) (lk := [(1, .int x25)]) (lv' := [(2, .int x27), (1, .int x25), (3, .ref a18), (0, .ref o)]) hx hb dX7_acceptBatches_51 hl26 (k := 3) rfl (by decide) (by decide) rfl (lk_1 rfl) ex27 rfl (fun ls hl28 => ?_)
        refine lv_goto (tgt := 4) hx hb dX7_acceptBatches_54 (by decide) ?_
        exact ih x25 x27 σ22 _ _ _ _ _ h23 hR hS (lv_sub hl28 [3, 1, 0] rfl) (by omega)
      · replace h := h.2 c20
        refine lv_aload_n hx hb dX7_acceptBatches_32 rfl (lv_at hl17 1 rfl) ?_
        refine lv_aload_n hx hb dX7_acceptBatches_33 rfl (lv_at hl17 0 rfl) ?_
        obtain ⟨k29, h⟩ := h
        refine s_getI F hR k29 (by decide) (C := RX2) (T := TX2) (N := 9) rfl nX7_acceptBatches_X2 8 (by decide) mX7_acceptBatches_3 (f := 158) rfl dX7_acceptBatches_34 ?_
        obtain ⟨k30, h⟩ := h
        refine s_cv hS (k_runV F hR hS hl17 1 [.int (sI σ0 158 a18 0)] (kX7_countRefusal l Γ o (sI σ0 158 a18 0) _ _ h) gX7_acceptBatches_X7_countRefusal rfl rfl rfl (by decide +kernel) ⟨Nat.le_of_ble_eq_true rfl, Nat.le_of_ble_eq_true rfl⟩ (s_recv F hR k30 (by decide) (C := RX7) (T := TX7) (N := 7) rfl) rfl (Nat.le_of_ble_eq_true rfl) dX7_acceptBatches_37 ⟨by show _ ≤ 105; omega, by show _ ≤ 13440; omega⟩) (fun σ31 H locs h32 hR hS => ?_)
        refine lv_goto (tgt := 51) hx hb dX7_acceptBatches_40 (by decide) ?_
        obtain ⟨x33, ex33⟩ : ∃ x : Int32, x = x2 + (1 : Int32) := ⟨_, rfl⟩
        replace h32 := h32 x33 ex33
        refine s_iinc (v := x33) (d := 1) (lk := [(1, .int x1)]) (lv' := [(2, .int x33), (3, .ref a18), (0, .ref o), (1, .int x1)]) hx hb dX7_acceptBatches_51 hl17 (k := 3) rfl (by decide) (by decide) rfl (lk_1 rfl) ex33 rfl (fun ls hl34 => ?_)
        refine lv_goto (tgt := 4) hx hb dX7_acceptBatches_54 (by decide) ?_
        exact ih x1 x33 σ31 _ _ _ _ _ h32 hR hS (lv_sub hl34 [2, 3, 0] rfl) (by omega)

set_option maxRecDepth 100000 in
def wX7_acceptBatches (o : Nat)  (post : Int32 → St → Prop) (σ0 : St) : Prop :=
  ∃ n35 : Nat, n35 ≤ 5 ∧ wX7_acceptBatches_4 o post n35 (0 : Int32) (0 : Int32) σ0
set_option maxHeartbeats 4000000 in
set_option maxRecDepth 100000 in
theorem bX7_acceptBatches {p : Program} {l : Launch} {e : Env} {s : State} {m : MethodId} {args : Array Value} {below : List Frame} {meth : Method} {c : Code} {Γ : rGam} {o : Nat} {post : Int32 → St → Prop} (F : Fx Γ p s m meth c args cX7_acceptBatches 4 RX7 wsX7_acceptBatches (some .int)) {H : Heap} {locs : List Loc} {ls : Array Slot} {cells slots : Nat}  {σ0 : St} (h : wX7_acceptBatches o  post σ0) (hR : Rep Γ σ0 H) (hS : va_S (rA Γ) s.heap H locs) (hl : lv_has ls 4 [(0, .ref o)]) (hc : cells + 105 ≤ 105 ∧ slots + 13440 ≤ 13440) : W p l e rmX7_acceptBatches s m args below meth c H locs cells slots (rQi Γ below post args s 105 13440) (F0 m 0 ls []) := by
  have hx := F.1.1
  have hb := F.1.2.1
  unfold wX7_acceptBatches at h
  refine lv_iconst (v := 0) hx hb dX7_acceptBatches_0 (by decide) ?_
  refine s_istore_n (lk := [(0, .ref o)]) (lv' := [(1, .int (0 : Int32)), (0, .ref o)]) hx hb dX7_acceptBatches_1 rfl hl (by decide) rfl (lk_1 rfl) rfl (fun ls hl1 => ?_)
  refine lv_iconst (v := 0) hx hb dX7_acceptBatches_2 (by decide) ?_
  refine s_istore_n (lk := [(1, .int (0 : Int32))]) (lv' := [(2, .int (0 : Int32)), (1, .int (0 : Int32)), (0, .ref o)]) hx hb dX7_acceptBatches_3 rfl hl1 (by decide) rfl (lk_1 rfl) rfl (fun ls hl2 => ?_)
  obtain ⟨n35, hn, h⟩ := h
  exact bX7_acceptBatches_4 F n35 (0 : Int32) (0 : Int32) σ0 _ _ _ _ _ h hR hS (lv_sub hl2 [2, 1, 0] rfl) (by omega)
set_option maxHeartbeats 4000000 in
set_option maxRecDepth 100000 in
theorem kX7_acceptBatches (l : Launch) (Γ : rGam) (o : Nat)  (post : Int32 → St → Prop) (σ0 : St) (h : wX7_acceptBatches o  post σ0) : Met l yX7_acceptBatches wsX7_acceptBatches rmX7_acceptBatches (rPc Γ vwCl [.ref o] (Rep Γ σ0)) (va_Qi post (fun σ' t => Rep Γ σ' t.heap) (rA Γ)) 105 13440 (rA Γ) := by
  refine Met.ofW (cc := cX7_acceptBatches) (maxL := 4) (ret := (some .int)) (by decide) rfl ?_
  intro p e s m args below meth c s₁ B hml hv
  obtain ⟨rfl, hR, hE⟩ := hv
  have F : Fx Γ p s m meth c _ cX7_acceptBatches 4 RX7 wsX7_acceptBatches (some .int) := ⟨⟨B.exec, B.bytes, hml, findClass_of_methodNamed B.named, atoms_spec (ws := wsX7_acceptBatches) B.pre⟩, hE, B.notSynchronized, B.returns⟩
  have hl := lv_entry ([.ref o]) (n := 4) (Nat.le_of_ble_eq_true rfl)
  rw [lg_entry_eq]
  generalize (lg_sl ([.ref o]) ++ List.replicate (4 - (lg_sl ([.ref o])).length) Slot.unset).toArray = ls at hl ⊢
  have hl : lv_has ls 4 [(0, .ref o)] := hl
  exact bX7_acceptBatches F h hR va_S.rf hl ⟨by show _ + _ ≤ _; omega, by show _ + _ ≤ _; omega⟩
/-! X7_endFile -/
theorem mX7_endFile_0 : Cond.fieldLink RX7 22 "ClearingFiles" "file" "LClearingFiles$Incoming;" ∈ wsX7_endFile := by decide +kernel
theorem nX7_endFile_X7 : ∀ w ∈ u_ws RX7 TX7 7, w ∈ wsX7_endFile := fun _ h => List.mem_cons_of_mem _ (List.mem_append_left _ (List.mem_append_left _ (List.mem_append_left _ (List.mem_append_left _ (List.mem_append_left _ (List.mem_append_left _ (List.mem_append_right _ h)))))))
abbrev rmX7_endFile : Room := { frames := 9, cells := 105, slots := 13440, locals := 268 }
set_option maxRecDepth 100000 in
def wX7_endFile (o : Nat) (p1 : Int64) (p2 : Int64) (post : Int32 → St → Prop) (σ0 : St) : Prop :=
  sK σ0 o = 8 ∧ (∀ r2 : Option Nat, r2 = sR σ0 402 o 0 → (∃ a3 : Nat, r2 = some a3 ∧ (sK σ0 a3 = 5 ∧ (wX4_end a3 (fun (σ5 : St) => sK σ5 o = 8 ∧ (wX7_reasonAgainstFile o p1 p2 (fun (x10 : Int32) (σ8 : St) => (x10 = 0 → (sK σ8 o = 8 ∧ (wX7_fileKey o (fun (x16 : Int32) (σ14 : St) => sK σ14 o = 8 ∧ (wX7_keepAsAccepted o x16 (fun (σ18 : St) => sK σ18 o = 8 ∧ (wX7_acceptBatches o (fun (x23 : Int32) (σ21 : St) => post x23 σ21) σ18)) σ14)) σ8))) ∧ (¬ x10 = 0 → (sK σ8 o = 8 ∧ (wX7_countRefusal o x10 (fun (σ25 : St) => post (-x10) σ25) σ8)))) σ5)) σ0))))
set_option maxHeartbeats 4000000 in
set_option maxRecDepth 100000 in
theorem bX7_endFile {p : Program} {l : Launch} {e : Env} {s : State} {m : MethodId} {args : Array Value} {below : List Frame} {meth : Method} {c : Code} {Γ : rGam} {o : Nat} {post : Int32 → St → Prop} (F : Fx Γ p s m meth c args cX7_endFile 6 RX7 wsX7_endFile (some .int)) {H : Heap} {locs : List Loc} {ls : Array Slot} {cells slots : Nat} {p1 : Int64} {p2 : Int64} {σ0 : St} (h : wX7_endFile o p1 p2 post σ0) (hR : Rep Γ σ0 H) (hS : va_S (rA Γ) s.heap H locs) (hl : lv_has ls 6 [(0, .ref o), (1, .long p1), (3, .long p2)]) (hc : cells + 105 ≤ 105 ∧ slots + 13440 ≤ 13440) : W p l e rmX7_endFile s m args below meth c H locs cells slots (rQi Γ below post args s 105 13440) (F0 m 0 ls []) := by
  have hx := F.1.1
  have hb := F.1.2.1
  unfold wX7_endFile at h
  refine lv_aload_n hx hb dX7_endFile_0 rfl (lv_at hl 0 rfl) ?_
  obtain ⟨k1, h⟩ := h
  refine s_getR F hR k1 (by decide) (C := RX7) (T := TX7) (N := 7) rfl nX7_endFile_X7 2 (by decide) mX7_endFile_0 (f := 402) rfl dX7_endFile_1 (fun r2 er2 => ?_)
  replace h := h r2 er2
  obtain ⟨a3, ea3, h⟩ := h
  subst ea3
  obtain ⟨k4, h⟩ := h
  refine s_cv hS (k_runV F hR hS hl 0 [] (kX4_end l Γ a3 _ _ h) gX7_endFile_X4_end rfl rfl rfl (by decide +kernel) ⟨Nat.le_of_ble_eq_true rfl, Nat.le_of_ble_eq_true rfl⟩ (s_recv F hR k4 (by decide) (C := RX4) (T := TX4) (N := 8) rfl) rfl (Nat.le_of_ble_eq_true rfl) dX7_endFile_4 ⟨by show _ ≤ 105; omega, by show _ ≤ 13440; omega⟩) (fun σ5 H locs h6 hR hS => ?_)
  refine lv_aload_n hx hb dX7_endFile_7 rfl (lv_at hl 0 rfl) ?_
  refine lv_lload_n hx hb dX7_endFile_8 rfl (lv_at hl 1 rfl) ?_
  refine lv_lload_n hx hb dX7_endFile_9 rfl (lv_at hl 2 rfl) ?_
  obtain ⟨k7, h6⟩ := h6
  refine s_ci hS (k_runV F hR hS hl 2 [.long p1, .long p2] (kX7_reasonAgainstFile l Γ o p1 p2 _ _ h6) gX7_endFile_X7_reasonAgainstFile rfl rfl rfl (by decide +kernel) ⟨Nat.le_of_ble_eq_true rfl, Nat.le_of_ble_eq_true rfl⟩ (s_recv F hR k7 (by decide) (C := RX7) (T := TX7) (N := 7) rfl) rfl (Nat.le_of_ble_eq_true rfl) dX7_endFile_10 ⟨by show _ ≤ 105; omega, by show _ ≤ 13440; omega⟩) (fun x10 σ8 H locs h9 hR hS => ?_)
  refine s_istore (lk := []) (lv' := [(5, .int x10), (0, .ref o), (1, .long p1), (3, .long p2)]) hx hb dX7_endFile_13 hl (by decide) rfl lk_0 rfl (fun ls hl11 => ?_)
  refine lv_iload hx hb dX7_endFile_15 (lv_at hl11 0 rfl) ?_
  refine lv_if_eq (tgt := 30) hx hb dX7_endFile_17 (by decide) (fun c12 => ?_) (fun c12 => ?_)
  · replace h9 := h9.1 c12
    refine lv_aload_n hx hb dX7_endFile_30 rfl (lv_at hl11 1 rfl) ?_
    refine lv_aload_n hx hb dX7_endFile_31 rfl (lv_at hl11 1 rfl) ?_
    obtain ⟨k13, h9⟩ := h9
    refine s_ci hS (k_runV F hR hS hl11 0 [] (kX7_fileKey l Γ o _ _ h9) gX7_endFile_X7_fileKey rfl rfl rfl (by decide +kernel) ⟨Nat.le_of_ble_eq_true rfl, Nat.le_of_ble_eq_true rfl⟩ (s_recv F hR k13 (by decide) (C := RX7) (T := TX7) (N := 7) rfl) rfl (Nat.le_of_ble_eq_true rfl) dX7_endFile_32 ⟨by show _ ≤ 105; omega, by show _ ≤ 13440; omega⟩) (fun x16 σ14 H locs h15 hR hS => ?_)
    obtain ⟨k17, h15⟩ := h15
    refine s_cv hS (k_runV F hR hS hl11 1 [.int x16] (kX7_keepAsAccepted l Γ o x16 _ _ h15) gX7_endFile_X7_keepAsAccepted rfl rfl rfl (by decide +kernel) ⟨Nat.le_of_ble_eq_true rfl, Nat.le_of_ble_eq_true rfl⟩ (s_recv F hR k17 (by decide) (C := RX7) (T := TX7) (N := 7) rfl) rfl (Nat.le_of_ble_eq_true rfl) dX7_endFile_35 ⟨by show _ ≤ 105; omega, by show _ ≤ 13440; omega⟩) (fun σ18 H locs h19 hR hS => ?_)
    refine lv_aload_n hx hb dX7_endFile_38 rfl (lv_at hl11 1 rfl) ?_
    obtain ⟨k20, h19⟩ := h19
    refine s_ci hS (k_runV F hR hS hl11 0 [] (kX7_acceptBatches l Γ o _ _ h19) gX7_endFile_X7_acceptBatches rfl rfl rfl (by decide +kernel) ⟨Nat.le_of_ble_eq_true rfl, Nat.le_of_ble_eq_true rfl⟩ (s_recv F hR k20 (by decide) (C := RX7) (T := TX7) (N := 7) rfl) rfl (Nat.le_of_ble_eq_true rfl) dX7_endFile_39 ⟨by show _ ≤ 105; omega, by show _ ≤ 13440; omega⟩) (fun x23 σ21 H locs h22 hR hS => ?_)
    exact s_iret F hR hS h22 (by omega) dX7_endFile_42
  · replace h9 := h9.2 c12
    refine lv_aload_n hx hb dX7_endFile_20 rfl (lv_at hl11 1 rfl) ?_
    refine lv_iload hx hb dX7_endFile_21 (lv_at hl11 0 rfl) ?_
    obtain ⟨k24, h9⟩ := h9
    refine s_cv hS (k_runV F hR hS hl11 1 [.int x10] (kX7_countRefusal l Γ o x10 _ _ h9) gX7_endFile_X7_countRefusal rfl rfl rfl (by decide +kernel) ⟨Nat.le_of_ble_eq_true rfl, Nat.le_of_ble_eq_true rfl⟩ (s_recv F hR k24 (by decide) (C := RX7) (T := TX7) (N := 7) rfl) rfl (Nat.le_of_ble_eq_true rfl) dX7_endFile_23 ⟨by show _ ≤ 105; omega, by show _ ≤ 13440; omega⟩) (fun σ25 H locs h26 hR hS => ?_)
    refine lv_iload hx hb dX7_endFile_26 (lv_at hl11 0 rfl) ?_
    refine lv_ineg hx hb dX7_endFile_28 ?_
    exact s_iret F hR hS h26 (by omega) dX7_endFile_29
set_option maxHeartbeats 4000000 in
set_option maxRecDepth 100000 in
theorem kX7_endFile (l : Launch) (Γ : rGam) (o : Nat) (p1 : Int64) (p2 : Int64) (post : Int32 → St → Prop) (σ0 : St) (h : wX7_endFile o p1 p2 post σ0) : Met l yX7_endFile wsX7_endFile rmX7_endFile (rPc Γ vwCl [.ref o, .long p1, .long p2] (Rep Γ σ0)) (va_Qi post (fun σ' t => Rep Γ σ' t.heap) (rA Γ)) 105 13440 (rA Γ) := by
  refine Met.ofW (cc := cX7_endFile) (maxL := 6) (ret := (some .int)) (by decide) rfl ?_
  intro p e s m args below meth c s₁ B hml hv
  obtain ⟨rfl, hR, hE⟩ := hv
  have F : Fx Γ p s m meth c _ cX7_endFile 6 RX7 wsX7_endFile (some .int) := ⟨⟨B.exec, B.bytes, hml, findClass_of_methodNamed B.named, atoms_spec (ws := wsX7_endFile) B.pre⟩, hE, B.notSynchronized, B.returns⟩
  have hl := lv_entry ([.ref o, .long p1, .long p2]) (n := 6) (Nat.le_of_ble_eq_true rfl)
  rw [lg_entry_eq]
  generalize (lg_sl ([.ref o, .long p1, .long p2]) ++ List.replicate (6 - (lg_sl ([.ref o, .long p1, .long p2])).length) Slot.unset).toArray = ls at hl ⊢
  have hl : lv_has ls 6 [(0, .ref o), (1, .long p1), (3, .long p2)] := hl
  exact bX7_endFile F h hR va_S.rf hl ⟨by show _ + _ ≤ _; omega, by show _ + _ ≤ _; omega⟩
/-! X7_beginBatch -/
theorem mX7_beginBatch_0 : Cond.fieldLink RX7 22 "ClearingFiles" "file" "LClearingFiles$Incoming;" ∈ wsX7_beginBatch := by decide +kernel
theorem mX7_beginBatch_1 : Cond.fieldLink RX7 231 "ClearingFiles$Incoming" "batchCount" "I" ∈ wsX7_beginBatch := by decide +kernel
theorem mX7_beginBatch_2 : Cond.fieldLink RX7 234 "ClearingFiles$Incoming" "batches" "[LClearingFiles$Batch;" ∈ wsX7_beginBatch := by decide +kernel
theorem mX7_beginBatch_3 : Cond.fieldLink RX7 243 "ClearingFiles$Incoming" "current" "LClearingFiles$Batch;" ∈ wsX7_beginBatch := by decide +kernel
theorem mX7_beginBatch_4 : Cond.fieldLink RX7 247 "ClearingFiles$Incoming" "inBatch" "Z" ∈ wsX7_beginBatch := by decide +kernel
theorem nX7_beginBatch_X7 : ∀ w ∈ u_ws RX7 TX7 7, w ∈ wsX7_beginBatch := fun _ h => List.mem_cons_of_mem _ (List.mem_append_left _ (List.mem_append_left _ (List.mem_append_left _ (List.mem_append_left _ (List.mem_append_right _ h)))))
theorem nX7_beginBatch_X4 : ∀ w ∈ u_ws RX4 TX4 8, w ∈ wsX7_beginBatch := fun _ h => List.mem_cons_of_mem _ (List.mem_append_left _ (List.mem_append_left _ (List.mem_append_left _ (List.mem_append_right _ h))))
abbrev rmX7_beginBatch : Room := { frames := 2, cells := 0, slots := 0, locals := 46 }
set_option maxRecDepth 100000 in
def wX7_beginBatch (o : Nat) (p1 : Int64) (p2 : Int64) (post : Int32 → St → Prop) (σ0 : St) : Prop :=
  sK σ0 o = 8 ∧ (∀ r2 : Option Nat, r2 = sR σ0 402 o 0 → (∃ a3 : Nat, r2 = some a3 ∧ (sK σ0 a3 = 5 ∧ (((sI σ0 253 a3 0) < (4 : Int32) → (sK σ0 o = 8 ∧ (∀ r7 : Option Nat, r7 = sR σ0 402 o 0 → (∃ a8 : Nat, r7 = some a8 ∧ (sK σ0 a8 = 5 ∧ (∀ r10 : Option Nat, r10 = sR σ0 250 a8 0 → (sK σ0 o = 8 ∧ (∀ r12 : Option Nat, r12 = sR σ0 402 o 0 → (∃ a13 : Nat, r12 = some a13 ∧ (sK σ0 a13 = 5 ∧ (∃ a15 : Nat, r10 = some a15 ∧ (sK σ0 a15 = 1250 ∧ (vp_in (sI σ0 253 a13 0) 4 ∧ (∀ r18 : Option Nat, r18 = sR σ0 1250 a15 (sI σ0 253 a13 0).toNatClampNeg → (wX7_digits p1 p2 (1 : Int32) (4 : Int32) (fun (x22 : Int32) (σ20 : St) => wX7_digits p1 p2 (5 : Int32) (8 : Int32) (fun (x25 : Int32) (σ23 : St) => wX7_digits p1 p2 (9 : Int32) (12 : Int32) (fun (x28 : Int32) (σ26 : St) => ∃ a29 : Nat, r18 = some a29 ∧ (sK σ26 a29 = 3 ∧ (wX2_begin a29 x22 x25 x28 (fun (σ31 : St) => sK σ31 o = 8 ∧ (∀ r34 : Option Nat, r34 = sR σ31 402 o 0 → (∃ a35 : Nat, r34 = some a35 ∧ (sK σ31 a35 = 5 ∧ (sK σ31 a35 = 5 ∧ (∀ σ38 : St, σ38 = uI σ31 253 a35 0 ((sI σ31 253 a35 0) + (1 : Int32)) → (sK σ38 o = 8 ∧ (∀ r40 : Option Nat, r40 = sR σ38 402 o 0 → (∃ a41 : Nat, r40 = some a41 ∧ (sK σ38 a41 = 5 ∧ (∀ σ43 : St, σ43 = uR σ38 252 a41 0 (some a29) → (sK σ43 o = 8 ∧ (∀ r45 : Option Nat, r45 = sR σ43 402 o 0 → (∃ a46 : Nat, r45 = some a46 ∧ (sK σ43 a46 = 5 ∧ (∀ σ48 : St, σ48 = uI σ43 257 a46 0 (1 : Int32) → (post (0 : Int32) σ48))))))))))))))))) σ26))) σ23) σ20) σ0))))))))))))))) ∧ (¬ (sI σ0 253 a3 0) < (4 : Int32) → (sK σ0 o = 8 ∧ (∀ r50 : Option Nat, r50 = sR σ0 402 o 0 → (∃ a51 : Nat, r50 = some a51 ∧ (sK σ0 a51 = 5 ∧ (wX4_end a51 (fun (σ53 : St) => post (-3 : Int32) σ53) σ0))))))))))
set_option maxHeartbeats 4000000 in
set_option maxRecDepth 100000 in
theorem bX7_beginBatch {p : Program} {l : Launch} {e : Env} {s : State} {m : MethodId} {args : Array Value} {below : List Frame} {meth : Method} {c : Code} {Γ : rGam} {o : Nat} {post : Int32 → St → Prop} (F : Fx Γ p s m meth c args cX7_beginBatch 6 RX7 wsX7_beginBatch (some .int)) {H : Heap} {locs : List Loc} {ls : Array Slot} {cells slots : Nat} {p1 : Int64} {p2 : Int64} {σ0 : St} (h : wX7_beginBatch o p1 p2 post σ0) (hR : Rep Γ σ0 H) (hS : va_S (rA Γ) s.heap H locs) (hl : lv_has ls 6 [(0, .ref o), (1, .long p1), (3, .long p2)]) (hc : cells ≤ 0 ∧ slots ≤ 0) : W p l e rmX7_beginBatch s m args below meth c H locs cells slots (rQi Γ below post args s 0 0) (F0 m 0 ls []) := by
  have hx := F.1.1
  have hb := F.1.2.1
  unfold wX7_beginBatch at h
  refine lv_aload_n hx hb dX7_beginBatch_0 rfl (lv_at hl 0 rfl) ?_
  obtain ⟨k1, h⟩ := h
  refine s_getR F hR k1 (by decide) (C := RX7) (T := TX7) (N := 7) rfl nX7_beginBatch_X7 2 (by decide) mX7_beginBatch_0 (f := 402) rfl dX7_beginBatch_1 (fun r2 er2 => ?_)
  replace h := h r2 er2
  obtain ⟨a3, ea3, h⟩ := h
  subst ea3
  obtain ⟨k4, h⟩ := h
  refine s_getI F hR k4 (by decide) (C := RX4) (T := TX4) (N := 8) rfl nX7_beginBatch_X4 3 (by decide) mX7_beginBatch_1 (f := 253) rfl dX7_beginBatch_4 ?_
  refine lv_iconst (v := 4) hx hb dX7_beginBatch_7 (by decide) ?_
  refine lv_icmp_lt (tgt := 21) hx hb dX7_beginBatch_8 (by decide) (fun c5 => ?_) (fun c5 => ?_)
  · replace h := h.1 c5
    refine lv_aload_n hx hb dX7_beginBatch_21 rfl (lv_at hl 0 rfl) ?_
    obtain ⟨k6, h⟩ := h
    refine s_getR F hR k6 (by decide) (C := RX7) (T := TX7) (N := 7) rfl nX7_beginBatch_X7 2 (by decide) mX7_beginBatch_0 (f := 402) rfl dX7_beginBatch_22 (fun r7 er7 => ?_)
    replace h := h r7 er7
    obtain ⟨a8, ea8, h⟩ := h
    subst ea8
    obtain ⟨k9, h⟩ := h
    refine s_getR F hR k9 (by decide) (C := RX4) (T := TX4) (N := 8) rfl nX7_beginBatch_X4 0 (by decide) mX7_beginBatch_2 (f := 250) rfl dX7_beginBatch_25 (fun r10 er10 => ?_)
    replace h := h r10 er10
    refine lv_aload_n hx hb dX7_beginBatch_28 rfl (lv_at hl 0 rfl) ?_
    obtain ⟨k11, h⟩ := h
    refine s_getR F hR k11 (by decide) (C := RX7) (T := TX7) (N := 7) rfl nX7_beginBatch_X7 2 (by decide) mX7_beginBatch_0 (f := 402) rfl dX7_beginBatch_29 (fun r12 er12 => ?_)
    replace h := h r12 er12
    obtain ⟨a13, ea13, h⟩ := h
    subst ea13
    obtain ⟨k14, h⟩ := h
    refine s_getI F hR k14 (by decide) (C := RX4) (T := TX4) (N := 8) rfl nX7_beginBatch_X4 3 (by decide) mX7_beginBatch_1 (f := 253) rfl dX7_beginBatch_32 ?_
    obtain ⟨a15, ea15, h⟩ := h
    subst ea15
    obtain ⟨k16, h⟩ := h
    obtain ⟨z17, h⟩ := h
    refine s_aald F hR k16 (by decide) rfl z17 dX7_beginBatch_35 (fun r18 er18 => ?_)
    replace h := h r18 er18
    refine s_astore (r := r18) (lk := []) (lv' := [(5, va_rf r18), (0, .ref o), (1, .long p1), (3, .long p2)]) hx hb dX7_beginBatch_36 hl (by decide) rfl lk_0 rfl (fun ls hl19 => ?_)
    refine s_aload hx hb dX7_beginBatch_38 (lv_at hl19 0 rfl) ?_
    refine lv_lload_n hx hb dX7_beginBatch_40 rfl (lv_at hl19 2 rfl) ?_
    refine lv_lload_n hx hb dX7_beginBatch_41 rfl (lv_at hl19 3 rfl) ?_
    refine lv_iconst (v := 1) hx hb dX7_beginBatch_42 (by decide) ?_
    refine lv_iconst (v := 4) hx hb dX7_beginBatch_43 (by decide) ?_
    refine s_ci hS (k_runS F hR hS hl19 4 [.long p1, .long p2, .int (1 : Int32), .int (4 : Int32)] (kX7_digits l Γ p1 p2 (1 : Int32) (4 : Int32) _ _ h) gX7_beginBatch_X7_digits rfl rfl rfl (by decide +kernel) ⟨Nat.le_of_ble_eq_true rfl, Nat.le_of_ble_eq_true rfl⟩ rfl (by simp only [List.map_cons, List.map_nil, List.sum_cons, List.sum_nil, va_cat] <;> exact Nat.le_of_ble_eq_true rfl) dX7_beginBatch_44 ⟨by show _ ≤ 0; omega, by show _ ≤ 0; omega⟩) (fun x22 σ20 H locs h21 hR hS => ?_)
    refine lv_lload_n hx hb dX7_beginBatch_47 rfl (lv_at hl19 2 rfl) ?_
    refine lv_lload_n hx hb dX7_beginBatch_48 rfl (lv_at hl19 3 rfl) ?_
    refine lv_iconst (v := 5) hx hb dX7_beginBatch_49 (by decide) ?_
    refine lv_bipush (v := 8) hx hb dX7_beginBatch_50 (by decide) ?_
    refine s_ci hS (k_runS F hR hS hl19 4 [.long p1, .long p2, .int (5 : Int32), .int (8 : Int32)] (kX7_digits l Γ p1 p2 (5 : Int32) (8 : Int32) _ _ h21) gX7_beginBatch_X7_digits rfl rfl rfl (by decide +kernel) ⟨Nat.le_of_ble_eq_true rfl, Nat.le_of_ble_eq_true rfl⟩ rfl (by simp only [List.map_cons, List.map_nil, List.sum_cons, List.sum_nil, va_cat] <;> exact Nat.le_of_ble_eq_true rfl) dX7_beginBatch_52 ⟨by show _ ≤ 0; omega, by show _ ≤ 0; omega⟩) (fun x25 σ23 H locs h24 hR hS => ?_)
    refine lv_lload_n hx hb dX7_beginBatch_55 rfl (lv_at hl19 2 rfl) ?_
    refine lv_lload_n hx hb dX7_beginBatch_56 rfl (lv_at hl19 3 rfl) ?_
    refine lv_bipush (v := 9) hx hb dX7_beginBatch_57 (by decide) ?_
    refine lv_bipush (v := 12) hx hb dX7_beginBatch_59 (by decide) ?_
    refine s_ci hS (k_runS F hR hS hl19 4 [.long p1, .long p2, .int (9 : Int32), .int (12 : Int32)] (kX7_digits l Γ p1 p2 (9 : Int32) (12 : Int32) _ _ h24) gX7_beginBatch_X7_digits rfl rfl rfl (by decide +kernel) ⟨Nat.le_of_ble_eq_true rfl, Nat.le_of_ble_eq_true rfl⟩ rfl (by simp only [List.map_cons, List.map_nil, List.sum_cons, List.sum_nil, va_cat] <;> exact Nat.le_of_ble_eq_true rfl) dX7_beginBatch_61 ⟨by show _ ≤ 0; omega, by show _ ≤ 0; omega⟩) (fun x28 σ26 H locs h27 hR hS => ?_)
    obtain ⟨a29, ea29, h27⟩ := h27
    subst ea29
    obtain ⟨k30, h27⟩ := h27
    refine s_cv hS (k_runV F hR hS hl19 3 [.int x22, .int x25, .int x28] (kX2_begin l Γ a29 x22 x25 x28 _ _ h27) gX7_beginBatch_X2_begin rfl rfl rfl (by decide +kernel) ⟨Nat.le_of_ble_eq_true rfl, Nat.le_of_ble_eq_true rfl⟩ (s_recv F hR k30 (by decide) (C := RX2) (T := TX2) (N := 9) rfl) rfl (Nat.le_of_ble_eq_true rfl) dX7_beginBatch_64 ⟨by show _ ≤ 0; omega, by show _ ≤ 0; omega⟩) (fun σ31 H locs h32 hR hS => ?_)
    refine lv_aload_n hx hb dX7_beginBatch_67 rfl (lv_at hl19 1 rfl) ?_
    obtain ⟨k33, h32⟩ := h32
    refine s_getR F hR k33 (by decide) (C := RX7) (T := TX7) (N := 7) rfl nX7_beginBatch_X7 2 (by decide) mX7_beginBatch_0 (f := 402) rfl dX7_beginBatch_68 (fun r34 er34 => ?_)
    replace h32 := h32 r34 er34
    refine lv_dup hx hb dX7_beginBatch_71 (va_cat _) ?_
    obtain ⟨a35, ea35, h32⟩ := h32
    subst ea35
    obtain ⟨k36, h32⟩ := h32
    refine s_getI F hR k36 (by decide) (C := RX4) (T := TX4) (N := 8) rfl nX7_beginBatch_X4 3 (by decide) mX7_beginBatch_1 (f := 253) rfl dX7_beginBatch_72 ?_
    refine lv_iconst (v := 1) hx hb dX7_beginBatch_75 (by decide) ?_
    refine lv_iadd hx hb dX7_beginBatch_76 ?_
    obtain ⟨k37, h32⟩ := h32
    refine s_putI (v := ((sI σ31 253 a35 0) + (1 : Int32))) F hR hS k37 (by decide) (C := RX4) (T := TX4) (N := 8) rfl nX7_beginBatch_X4 tyX4 tyX4_ok nmX4 3 (by decide) mX7_beginBatch_1 (Or.inl rfl) rfl rfl (f := 253) rfl rnd_5 dX7_beginBatch_77 (fun σ38 eσ38 H locs hR hS => ?_)
    replace h32 := h32 σ38 eσ38
    refine lv_aload_n hx hb dX7_beginBatch_80 rfl (lv_at hl19 1 rfl) ?_
    obtain ⟨k39, h32⟩ := h32
    refine s_getR F hR k39 (by decide) (C := RX7) (T := TX7) (N := 7) rfl nX7_beginBatch_X7 2 (by decide) mX7_beginBatch_0 (f := 402) rfl dX7_beginBatch_81 (fun r40 er40 => ?_)
    replace h32 := h32 r40 er40
    refine lv_aload hx hb dX7_beginBatch_84 (lv_at hl19 0 rfl) ?_
    obtain ⟨a41, ea41, h32⟩ := h32
    subst ea41
    obtain ⟨k42, h32⟩ := h32
    refine s_putR (v := (some a29)) F hR hS k42 (by decide) (C := RX4) (T := TX4) (N := 8) rfl nX7_beginBatch_X4 tyX4 tyX4_ok nmX4 2 (by decide) mX7_beginBatch_3 (Or.inl rfl) (rf_nar _ _) (rf_fit _ _) (f := 252) rfl rnd_5 dX7_beginBatch_86 (fun σ43 eσ43 H locs hR hS => ?_)
    replace h32 := h32 σ43 eσ43
    refine lv_aload_n hx hb dX7_beginBatch_89 rfl (lv_at hl19 1 rfl) ?_
    obtain ⟨k44, h32⟩ := h32
    refine s_getR F hR k44 (by decide) (C := RX7) (T := TX7) (N := 7) rfl nX7_beginBatch_X7 2 (by decide) mX7_beginBatch_0 (f := 402) rfl dX7_beginBatch_90 (fun r45 er45 => ?_)
    replace h32 := h32 r45 er45
    refine lv_iconst (v := 1) hx hb dX7_beginBatch_93 (by decide) ?_
    obtain ⟨a46, ea46, h32⟩ := h32
    subst ea46
    obtain ⟨k47, h32⟩ := h32
    refine s_putI (v := (1 : Int32)) F hR hS k47 (by decide) (C := RX4) (T := TX4) (N := 8) rfl nX7_beginBatch_X4 tyX4 tyX4_ok nmX4 7 (by decide) mX7_beginBatch_4 (Or.inl rfl) (isB.nar (v := (1 : Int32)) (by unfold isB; decide)) (isB.fit (v := (1 : Int32)) (by unfold isB; decide)) (f := 257) rfl rnd_5 dX7_beginBatch_94 (fun σ48 eσ48 H locs hR hS => ?_)
    replace h32 := h32 σ48 eσ48
    refine lv_iconst (v := 0) hx hb dX7_beginBatch_97 (by decide) ?_
    exact s_iret F hR hS h32 hc dX7_beginBatch_98
  · replace h := h.2 c5
    refine lv_aload_n hx hb dX7_beginBatch_11 rfl (lv_at hl 0 rfl) ?_
    obtain ⟨k49, h⟩ := h
    refine s_getR F hR k49 (by decide) (C := RX7) (T := TX7) (N := 7) rfl nX7_beginBatch_X7 2 (by decide) mX7_beginBatch_0 (f := 402) rfl dX7_beginBatch_12 (fun r50 er50 => ?_)
    replace h := h r50 er50
    obtain ⟨a51, ea51, h⟩ := h
    subst ea51
    obtain ⟨k52, h⟩ := h
    refine s_cv hS (k_runV F hR hS hl 0 [] (kX4_end l Γ a51 _ _ h) gX7_beginBatch_X4_end rfl rfl rfl (by decide +kernel) ⟨Nat.le_of_ble_eq_true rfl, Nat.le_of_ble_eq_true rfl⟩ (s_recv F hR k52 (by decide) (C := RX4) (T := TX4) (N := 8) rfl) rfl (Nat.le_of_ble_eq_true rfl) dX7_beginBatch_15 ⟨by show _ ≤ 0; omega, by show _ ≤ 0; omega⟩) (fun σ53 H locs h54 hR hS => ?_)
    refine lv_bipush (v := -3) hx hb dX7_beginBatch_18 (by decide) ?_
    exact s_iret F hR hS h54 hc dX7_beginBatch_20
set_option maxHeartbeats 4000000 in
set_option maxRecDepth 100000 in
theorem kX7_beginBatch (l : Launch) (Γ : rGam) (o : Nat) (p1 : Int64) (p2 : Int64) (post : Int32 → St → Prop) (σ0 : St) (h : wX7_beginBatch o p1 p2 post σ0) : Met l yX7_beginBatch wsX7_beginBatch rmX7_beginBatch (rPc Γ vwCl [.ref o, .long p1, .long p2] (Rep Γ σ0)) (va_Qi post (fun σ' t => Rep Γ σ' t.heap) (rA Γ)) 0 0 (rA Γ) := by
  refine Met.ofW (cc := cX7_beginBatch) (maxL := 6) (ret := (some .int)) (by decide) rfl ?_
  intro p e s m args below meth c s₁ B hml hv
  obtain ⟨rfl, hR, hE⟩ := hv
  have F : Fx Γ p s m meth c _ cX7_beginBatch 6 RX7 wsX7_beginBatch (some .int) := ⟨⟨B.exec, B.bytes, hml, findClass_of_methodNamed B.named, atoms_spec (ws := wsX7_beginBatch) B.pre⟩, hE, B.notSynchronized, B.returns⟩
  have hl := lv_entry ([.ref o, .long p1, .long p2]) (n := 6) (Nat.le_of_ble_eq_true rfl)
  rw [lg_entry_eq]
  generalize (lg_sl ([.ref o, .long p1, .long p2]) ++ List.replicate (6 - (lg_sl ([.ref o, .long p1, .long p2])).length) Slot.unset).toArray = ls at hl ⊢
  have hl : lv_has ls 6 [(0, .ref o), (1, .long p1), (3, .long p2)] := hl
  exact bX7_beginBatch F h hR va_S.rf hl ⟨Nat.le_refl 0, Nat.le_refl 0⟩
/-! X7_addEntry -/
theorem mX7_addEntry_0 : Cond.fieldLink RX7 22 "ClearingFiles" "file" "LClearingFiles$Incoming;" ∈ wsX7_addEntry := by decide +kernel
theorem mX7_addEntry_1 : Cond.fieldLink RX7 250 "ClearingFiles$Incoming" "totals" "LClearingFiles$Totals;" ∈ wsX7_addEntry := by decide +kernel
theorem mX7_addEntry_2 : Cond.fieldLink RX7 192 "ClearingFiles$Totals" "count" "J" ∈ wsX7_addEntry := by decide +kernel
theorem mX7_addEntry_3 : Cond.constantLong RX7 251 (20) ∈ wsX7_addEntry := by decide +kernel
theorem mX7_addEntry_4 : Cond.classLink RX7 151 RX3 ∈ wsX7_addEntry := by decide +kernel
theorem mX7_addEntry_5 : Cond.instantiable RX3 9 ∈ wsX7_addEntry := by decide +kernel
theorem mX7_addEntry_6 : Cond.initialized RX3 ∈ wsX7_addEntry := by decide +kernel
theorem mX7_addEntry_7 : Cond.instanceMethod yX3_init ∈ wsX7_addEntry := by decide +kernel
theorem mX7_addEntry_8 : Cond.fieldLink RX7 157 "ClearingFiles$Entry" "code" "I" ∈ wsX7_addEntry := by decide +kernel
theorem mX7_addEntry_9 : Cond.fieldLink RX7 254 "ClearingFiles$Entry" "routing" "I" ∈ wsX7_addEntry := by decide +kernel
theorem mX7_addEntry_10 : Cond.fieldLink RX7 170 "ClearingFiles$Entry" "account" "I" ∈ wsX7_addEntry := by decide +kernel
theorem mX7_addEntry_11 : Cond.fieldLink RX7 173 "ClearingFiles$Entry" "amount" "I" ∈ wsX7_addEntry := by decide +kernel
theorem mX7_addEntry_12 : Cond.fieldLink RX7 176 "ClearingFiles$Entry" "trace" "I" ∈ wsX7_addEntry := by decide +kernel
theorem mX7_addEntry_13 : Cond.fieldLink RX7 243 "ClearingFiles$Incoming" "current" "LClearingFiles$Batch;" ∈ wsX7_addEntry := by decide +kernel
theorem nX7_addEntry_X7 : ∀ w ∈ u_ws RX7 TX7 7, w ∈ wsX7_addEntry := fun _ h => List.mem_cons_of_mem _ (List.mem_append_left _ (List.mem_append_left _ (List.mem_append_left _ (List.mem_append_left _ (List.mem_append_left _ (List.mem_append_right _ h))))))
theorem nX7_addEntry_X4 : ∀ w ∈ u_ws RX4 TX4 8, w ∈ wsX7_addEntry := fun _ h => List.mem_cons_of_mem _ (List.mem_append_left _ (List.mem_append_left _ (List.mem_append_left _ (List.mem_append_left _ (List.mem_append_right _ h)))))
theorem nX7_addEntry_X6 : ∀ w ∈ u_ws RX6 TX6 4, w ∈ wsX7_addEntry := fun _ h => List.mem_cons_of_mem _ (List.mem_append_left _ (List.mem_append_left _ (List.mem_append_left _ (List.mem_append_right _ h))))
theorem nX7_addEntry_X3 : ∀ w ∈ u_ws RX3 TX3 9, w ∈ wsX7_addEntry := fun _ h => List.mem_cons_of_mem _ (List.mem_append_left _ (List.mem_append_left _ (List.mem_append_right _ h)))
abbrev rmX7_addEntry : Room := { frames := 8, cells := 2, slots := 137, locals := 242 }
set_option maxRecDepth 100000 in
def wX7_addEntry (o : Nat) (p1 : Int64) (p2 : Int64) (post : Int32 → St → Prop) (σ0 : St) : Prop :=
  sK σ0 o = 8 ∧ (∀ r2 : Option Nat, r2 = sR σ0 402 o 0 → (∃ a3 : Nat, r2 = some a3 ∧ (sK σ0 a3 = 5 ∧ (∀ r5 : Option Nat, r5 = sR σ0 251 a3 0 → (∃ a6 : Nat, r5 = some a6 ∧ (sK σ0 a6 = 7 ∧ (((lg_cmp (sJ σ0 350 a6 0) (20 : Int64)) < 0 → (∀ q9 : Nat, sK σ0 q9 = 0 → (∀ σ10 : St, σ10 = uN σ0 q9 4 → (wX3_init q9 (fun (σ11 : St) => wX7_digits p1 p2 (1 : Int32) (1 : Int32) (fun (x16 : Int32) (σ14 : St) => sK σ14 q9 = 4 ∧ (∀ σ18 : St, σ18 = uI σ14 200 q9 0 x16 → (wX7_digits p1 p2 (2 : Int32) (5 : Int32) (fun (x21 : Int32) (σ19 : St) => sK σ19 q9 = 4 ∧ (∀ σ23 : St, σ23 = uI σ19 201 q9 0 x21 → (wX7_digits p1 p2 (6 : Int32) (11 : Int32) (fun (x26 : Int32) (σ24 : St) => sK σ24 q9 = 4 ∧ (∀ σ28 : St, σ28 = uI σ24 202 q9 0 x26 → (wX7_digits p1 p2 (18 : Int32) (24 : Int32) (fun (x31 : Int32) (σ29 : St) => sK σ29 q9 = 4 ∧ (∀ σ33 : St, σ33 = uI σ29 203 q9 0 x31 → (wX7_digits p1 p2 (25 : Int32) (31 : Int32) (fun (x36 : Int32) (σ34 : St) => sK σ34 q9 = 4 ∧ (∀ σ38 : St, σ38 = uI σ34 204 q9 0 x36 → (sK σ38 o = 8 ∧ (∀ r40 : Option Nat, r40 = sR σ38 402 o 0 → (∃ a41 : Nat, r40 = some a41 ∧ (sK σ38 a41 = 5 ∧ (∀ r43 : Option Nat, r43 = sR σ38 252 a41 0 → (∃ a44 : Nat, r43 = some a44 ∧ (sK σ38 a44 = 3 ∧ (wX2_add a44 (some q9) (fun (σ46 : St) => sK σ46 o = 8 ∧ (∀ r49 : Option Nat, r49 = sR σ46 402 o 0 → (∃ a50 : Nat, r49 = some a50 ∧ (sK σ46 a50 = 5 ∧ (∀ r52 : Option Nat, r52 = sR σ46 251 a50 0 → (∃ a53 : Nat, r52 = some a53 ∧ (sK σ46 a53 = 7 ∧ (wX6_add a53 (some q9) (fun (σ55 : St) => post (0 : Int32) σ55) σ46)))))))) σ38)))))))))) σ33))) σ28))) σ23))) σ18))) σ11) σ10)))) ∧ (¬ (lg_cmp (sJ σ0 350 a6 0) (20 : Int64)) < 0 → (sK σ0 o = 8 ∧ (∀ r58 : Option Nat, r58 = sR σ0 402 o 0 → (∃ a59 : Nat, r58 = some a59 ∧ (sK σ0 a59 = 5 ∧ (wX4_end a59 (fun (σ61 : St) => post (-3 : Int32) σ61) σ0)))))))))))))
set_option maxHeartbeats 4000000 in
set_option maxRecDepth 100000 in
theorem bX7_addEntry {p : Program} {l : Launch} {e : Env} {s : State} {m : MethodId} {args : Array Value} {below : List Frame} {meth : Method} {c : Code} {Γ : rGam} {o : Nat} {post : Int32 → St → Prop} (F : Fx Γ p s m meth c args cX7_addEntry 6 RX7 wsX7_addEntry (some .int)) {H : Heap} {locs : List Loc} {ls : Array Slot} {cells slots : Nat} {p1 : Int64} {p2 : Int64} {σ0 : St} (h : wX7_addEntry o p1 p2 post σ0) (hR : Rep Γ σ0 H) (hS : va_S (rA Γ) s.heap H locs) (hl : lv_has ls 6 [(0, .ref o), (1, .long p1), (3, .long p2)]) (hc : cells + 2 ≤ 2 ∧ slots + 137 ≤ 137) : W p l e rmX7_addEntry s m args below meth c H locs cells slots (rQi Γ below post args s 2 137) (F0 m 0 ls []) := by
  have hx := F.1.1
  have hb := F.1.2.1
  unfold wX7_addEntry at h
  refine lv_aload_n hx hb dX7_addEntry_0 rfl (lv_at hl 0 rfl) ?_
  obtain ⟨k1, h⟩ := h
  refine s_getR F hR k1 (by decide) (C := RX7) (T := TX7) (N := 7) rfl nX7_addEntry_X7 2 (by decide) mX7_addEntry_0 (f := 402) rfl dX7_addEntry_1 (fun r2 er2 => ?_)
  replace h := h r2 er2
  obtain ⟨a3, ea3, h⟩ := h
  subst ea3
  obtain ⟨k4, h⟩ := h
  refine s_getR F hR k4 (by decide) (C := RX4) (T := TX4) (N := 8) rfl nX7_addEntry_X4 1 (by decide) mX7_addEntry_1 (f := 251) rfl dX7_addEntry_4 (fun r5 er5 => ?_)
  replace h := h r5 er5
  obtain ⟨a6, ea6, h⟩ := h
  subst ea6
  obtain ⟨k7, h⟩ := h
  refine s_getJ F hR k7 (by decide) (C := RX6) (T := TX6) (N := 4) rfl nX7_addEntry_X6 0 (by decide) mX7_addEntry_2 (f := 350) rfl dX7_addEntry_7 ?_
  refine lv_ldc2 hx hb F.1.2.2.2.1 (F.1.2.2.2.2 _ mX7_addEntry_3) dX7_addEntry_10 ?_
  refine W.lcmp hx hb dX7_addEntry_13 ?_
  refine lv_if_lt (tgt := 27) hx hb dX7_addEntry_14 (by decide) (fun c8 => ?_) (fun c8 => ?_)
  · replace h := h.1 c8
    refine s_new F hR hS 4 (by decide) (C := RX3) (T := TX3) (N := 9) rfl nX7_addEntry_X3 tyX3 tyX3_ok rdf_4 mX7_addEntry_4 mX7_addEntry_5 mX7_addEntry_6 (by show _ ≤ 2; omega) (by show _ ≤ 137; omega) dX7_addEntry_27 (fun q9 zq9 σ10 eσ10 H hR hS => ?_)
    replace h := h q9 zq9 σ10 eσ10
    refine lv_dup hx hb dX7_addEntry_30 rfl ?_
    refine s_cv hS (k_runIN F hR hS hl 0 [] (kX3_init l Γ q9 _ _ h) gX7_addEntry_X3_init_n253 rfl rfl rfl mX7_addEntry_6 (by decide +kernel) mX7_addEntry_7 rfl (by decide +kernel) ⟨Nat.le_of_ble_eq_true rfl, Nat.le_of_ble_eq_true rfl⟩ rfl (Nat.le_of_ble_eq_true rfl) dX7_addEntry_31 ⟨by show _ ≤ 2; omega, by show _ ≤ 137; omega⟩) (fun σ11 H locs h12 hR hS => ?_)
    refine s_astore (r := (some q9)) (lk := []) (lv' := [(5, .ref q9), (0, .ref o), (1, .long p1), (3, .long p2)]) hx hb dX7_addEntry_34 hl (by decide) rfl lk_0 rfl (fun ls hl13 => ?_)
    refine lv_aload hx hb dX7_addEntry_36 (lv_at hl13 0 rfl) ?_
    refine lv_lload_n hx hb dX7_addEntry_38 rfl (lv_at hl13 2 rfl) ?_
    refine lv_lload_n hx hb dX7_addEntry_39 rfl (lv_at hl13 3 rfl) ?_
    refine lv_iconst (v := 1) hx hb dX7_addEntry_40 (by decide) ?_
    refine lv_iconst (v := 1) hx hb dX7_addEntry_41 (by decide) ?_
    refine s_ci hS (k_runS F hR hS hl13 4 [.long p1, .long p2, .int (1 : Int32), .int (1 : Int32)] (kX7_digits l Γ p1 p2 (1 : Int32) (1 : Int32) _ _ h12) gX7_addEntry_X7_digits rfl rfl rfl (by decide +kernel) ⟨Nat.le_of_ble_eq_true rfl, Nat.le_of_ble_eq_true rfl⟩ rfl (Nat.le_of_ble_eq_true rfl) dX7_addEntry_42 ⟨by show _ ≤ 2; omega, by show _ ≤ 137; omega⟩) (fun x16 σ14 H locs h15 hR hS => ?_)
    obtain ⟨k17, h15⟩ := h15
    refine s_putI (v := x16) F hR hS k17 (by decide) (C := RX3) (T := TX3) (N := 9) rfl nX7_addEntry_X3 tyX3 tyX3_ok nmX3 0 (by decide) mX7_addEntry_8 (Or.inl rfl) rfl rfl (f := 200) rfl rnd_4 dX7_addEntry_45 (fun σ18 eσ18 H locs hR hS => ?_)
    replace h15 := h15 σ18 eσ18
    refine lv_aload hx hb dX7_addEntry_48 (lv_at hl13 0 rfl) ?_
    refine lv_lload_n hx hb dX7_addEntry_50 rfl (lv_at hl13 2 rfl) ?_
    refine lv_lload_n hx hb dX7_addEntry_51 rfl (lv_at hl13 3 rfl) ?_
    refine lv_iconst (v := 2) hx hb dX7_addEntry_52 (by decide) ?_
    refine lv_iconst (v := 5) hx hb dX7_addEntry_53 (by decide) ?_
    refine s_ci hS (k_runS F hR hS hl13 4 [.long p1, .long p2, .int (2 : Int32), .int (5 : Int32)] (kX7_digits l Γ p1 p2 (2 : Int32) (5 : Int32) _ _ h15) gX7_addEntry_X7_digits rfl rfl rfl (by decide +kernel) ⟨Nat.le_of_ble_eq_true rfl, Nat.le_of_ble_eq_true rfl⟩ rfl (Nat.le_of_ble_eq_true rfl) dX7_addEntry_54 ⟨by show _ ≤ 2; omega, by show _ ≤ 137; omega⟩) (fun x21 σ19 H locs h20 hR hS => ?_)
    obtain ⟨k22, h20⟩ := h20
    refine s_putI (v := x21) F hR hS k22 (by decide) (C := RX3) (T := TX3) (N := 9) rfl nX7_addEntry_X3 tyX3 tyX3_ok nmX3 1 (by decide) mX7_addEntry_9 (Or.inl rfl) rfl rfl (f := 201) rfl rnd_4 dX7_addEntry_57 (fun σ23 eσ23 H locs hR hS => ?_)
    replace h20 := h20 σ23 eσ23
    refine lv_aload hx hb dX7_addEntry_60 (lv_at hl13 0 rfl) ?_
    refine lv_lload_n hx hb dX7_addEntry_62 rfl (lv_at hl13 2 rfl) ?_
    refine lv_lload_n hx hb dX7_addEntry_63 rfl (lv_at hl13 3 rfl) ?_
    refine lv_bipush (v := 6) hx hb dX7_addEntry_64 (by decide) ?_
    refine lv_bipush (v := 11) hx hb dX7_addEntry_66 (by decide) ?_
    refine s_ci hS (k_runS F hR hS hl13 4 [.long p1, .long p2, .int (6 : Int32), .int (11 : Int32)] (kX7_digits l Γ p1 p2 (6 : Int32) (11 : Int32) _ _ h20) gX7_addEntry_X7_digits rfl rfl rfl (by decide +kernel) ⟨Nat.le_of_ble_eq_true rfl, Nat.le_of_ble_eq_true rfl⟩ rfl (Nat.le_of_ble_eq_true rfl) dX7_addEntry_68 ⟨by show _ ≤ 2; omega, by show _ ≤ 137; omega⟩) (fun x26 σ24 H locs h25 hR hS => ?_)
    obtain ⟨k27, h25⟩ := h25
    refine s_putI (v := x26) F hR hS k27 (by decide) (C := RX3) (T := TX3) (N := 9) rfl nX7_addEntry_X3 tyX3 tyX3_ok nmX3 2 (by decide) mX7_addEntry_10 (Or.inl rfl) rfl rfl (f := 202) rfl rnd_4 dX7_addEntry_71 (fun σ28 eσ28 H locs hR hS => ?_)
    replace h25 := h25 σ28 eσ28
    refine lv_aload hx hb dX7_addEntry_74 (lv_at hl13 0 rfl) ?_
    refine lv_lload_n hx hb dX7_addEntry_76 rfl (lv_at hl13 2 rfl) ?_
    refine lv_lload_n hx hb dX7_addEntry_77 rfl (lv_at hl13 3 rfl) ?_
    refine lv_bipush (v := 18) hx hb dX7_addEntry_78 (by decide) ?_
    refine lv_bipush (v := 24) hx hb dX7_addEntry_80 (by decide) ?_
    refine s_ci hS (k_runS F hR hS hl13 4 [.long p1, .long p2, .int (18 : Int32), .int (24 : Int32)] (kX7_digits l Γ p1 p2 (18 : Int32) (24 : Int32) _ _ h25) gX7_addEntry_X7_digits rfl rfl rfl (by decide +kernel) ⟨Nat.le_of_ble_eq_true rfl, Nat.le_of_ble_eq_true rfl⟩ rfl (Nat.le_of_ble_eq_true rfl) dX7_addEntry_82 ⟨by show _ ≤ 2; omega, by show _ ≤ 137; omega⟩) (fun x31 σ29 H locs h30 hR hS => ?_)
    obtain ⟨k32, h30⟩ := h30
    refine s_putI (v := x31) F hR hS k32 (by decide) (C := RX3) (T := TX3) (N := 9) rfl nX7_addEntry_X3 tyX3 tyX3_ok nmX3 3 (by decide) mX7_addEntry_11 (Or.inl rfl) rfl rfl (f := 203) rfl rnd_4 dX7_addEntry_85 (fun σ33 eσ33 H locs hR hS => ?_)
    replace h30 := h30 σ33 eσ33
    refine lv_aload hx hb dX7_addEntry_88 (lv_at hl13 0 rfl) ?_
    refine lv_lload_n hx hb dX7_addEntry_90 rfl (lv_at hl13 2 rfl) ?_
    refine lv_lload_n hx hb dX7_addEntry_91 rfl (lv_at hl13 3 rfl) ?_
    refine lv_bipush (v := 25) hx hb dX7_addEntry_92 (by decide) ?_
    refine lv_bipush (v := 31) hx hb dX7_addEntry_94 (by decide) ?_
    refine s_ci hS (k_runS F hR hS hl13 4 [.long p1, .long p2, .int (25 : Int32), .int (31 : Int32)] (kX7_digits l Γ p1 p2 (25 : Int32) (31 : Int32) _ _ h30) gX7_addEntry_X7_digits rfl rfl rfl (by decide +kernel) ⟨Nat.le_of_ble_eq_true rfl, Nat.le_of_ble_eq_true rfl⟩ rfl (Nat.le_of_ble_eq_true rfl) dX7_addEntry_96 ⟨by show _ ≤ 2; omega, by show _ ≤ 137; omega⟩) (fun x36 σ34 H locs h35 hR hS => ?_)
    obtain ⟨k37, h35⟩ := h35
    refine s_putI (v := x36) F hR hS k37 (by decide) (C := RX3) (T := TX3) (N := 9) rfl nX7_addEntry_X3 tyX3 tyX3_ok nmX3 4 (by decide) mX7_addEntry_12 (Or.inl rfl) rfl rfl (f := 204) rfl rnd_4 dX7_addEntry_99 (fun σ38 eσ38 H locs hR hS => ?_)
    replace h35 := h35 σ38 eσ38
    refine lv_aload_n hx hb dX7_addEntry_102 rfl (lv_at hl13 1 rfl) ?_
    obtain ⟨k39, h35⟩ := h35
    refine s_getR F hR k39 (by decide) (C := RX7) (T := TX7) (N := 7) rfl nX7_addEntry_X7 2 (by decide) mX7_addEntry_0 (f := 402) rfl dX7_addEntry_103 (fun r40 er40 => ?_)
    replace h35 := h35 r40 er40
    obtain ⟨a41, ea41, h35⟩ := h35
    subst ea41
    obtain ⟨k42, h35⟩ := h35
    refine s_getR F hR k42 (by decide) (C := RX4) (T := TX4) (N := 8) rfl nX7_addEntry_X4 2 (by decide) mX7_addEntry_13 (f := 252) rfl dX7_addEntry_106 (fun r43 er43 => ?_)
    replace h35 := h35 r43 er43
    refine lv_aload hx hb dX7_addEntry_109 (lv_at hl13 0 rfl) ?_
    obtain ⟨a44, ea44, h35⟩ := h35
    subst ea44
    obtain ⟨k45, h35⟩ := h35
    refine s_cv hS (k_runV F hR hS hl13 1 [.ref q9] (kX2_add l Γ a44 (some q9) _ _ h35) gX7_addEntry_X2_add rfl rfl rfl (by decide +kernel) ⟨Nat.le_of_ble_eq_true rfl, Nat.le_of_ble_eq_true rfl⟩ (s_recv F hR k45 (by decide) (C := RX2) (T := TX2) (N := 9) rfl) rfl (Nat.le_of_ble_eq_true rfl) dX7_addEntry_111 ⟨by show _ ≤ 2; omega, by show _ ≤ 137; omega⟩) (fun σ46 H locs h47 hR hS => ?_)
    refine lv_aload_n hx hb dX7_addEntry_114 rfl (lv_at hl13 1 rfl) ?_
    obtain ⟨k48, h47⟩ := h47
    refine s_getR F hR k48 (by decide) (C := RX7) (T := TX7) (N := 7) rfl nX7_addEntry_X7 2 (by decide) mX7_addEntry_0 (f := 402) rfl dX7_addEntry_115 (fun r49 er49 => ?_)
    replace h47 := h47 r49 er49
    obtain ⟨a50, ea50, h47⟩ := h47
    subst ea50
    obtain ⟨k51, h47⟩ := h47
    refine s_getR F hR k51 (by decide) (C := RX4) (T := TX4) (N := 8) rfl nX7_addEntry_X4 1 (by decide) mX7_addEntry_1 (f := 251) rfl dX7_addEntry_118 (fun r52 er52 => ?_)
    replace h47 := h47 r52 er52
    refine lv_aload hx hb dX7_addEntry_121 (lv_at hl13 0 rfl) ?_
    obtain ⟨a53, ea53, h47⟩ := h47
    subst ea53
    obtain ⟨k54, h47⟩ := h47
    refine s_cv hS (k_runV F hR hS hl13 1 [.ref q9] (kX6_add l Γ a53 (some q9) _ _ h47) gX7_addEntry_X6_add rfl rfl rfl (by decide +kernel) ⟨Nat.le_of_ble_eq_true rfl, Nat.le_of_ble_eq_true rfl⟩ (s_recv F hR k54 (by decide) (C := RX6) (T := TX6) (N := 4) rfl) rfl (Nat.le_of_ble_eq_true rfl) dX7_addEntry_123 ⟨by show _ ≤ 2; omega, by show _ ≤ 137; omega⟩) (fun σ55 H locs h56 hR hS => ?_)
    refine lv_iconst (v := 0) hx hb dX7_addEntry_126 (by decide) ?_
    exact s_iret F hR hS h56 (by omega) dX7_addEntry_127
  · replace h := h.2 c8
    refine lv_aload_n hx hb dX7_addEntry_17 rfl (lv_at hl 0 rfl) ?_
    obtain ⟨k57, h⟩ := h
    refine s_getR F hR k57 (by decide) (C := RX7) (T := TX7) (N := 7) rfl nX7_addEntry_X7 2 (by decide) mX7_addEntry_0 (f := 402) rfl dX7_addEntry_18 (fun r58 er58 => ?_)
    replace h := h r58 er58
    obtain ⟨a59, ea59, h⟩ := h
    subst ea59
    obtain ⟨k60, h⟩ := h
    refine s_cv hS (k_runV F hR hS hl 0 [] (kX4_end l Γ a59 _ _ h) gX7_addEntry_X4_end rfl rfl rfl (by decide +kernel) ⟨Nat.le_of_ble_eq_true rfl, Nat.le_of_ble_eq_true rfl⟩ (s_recv F hR k60 (by decide) (C := RX4) (T := TX4) (N := 8) rfl) rfl (Nat.le_of_ble_eq_true rfl) dX7_addEntry_21 ⟨by show _ ≤ 2; omega, by show _ ≤ 137; omega⟩) (fun σ61 H locs h62 hR hS => ?_)
    refine lv_bipush (v := -3) hx hb dX7_addEntry_24 (by decide) ?_
    exact s_iret F hR hS h62 (by omega) dX7_addEntry_26
set_option maxHeartbeats 4000000 in
set_option maxRecDepth 100000 in
theorem kX7_addEntry (l : Launch) (Γ : rGam) (o : Nat) (p1 : Int64) (p2 : Int64) (post : Int32 → St → Prop) (σ0 : St) (h : wX7_addEntry o p1 p2 post σ0) : Met l yX7_addEntry wsX7_addEntry rmX7_addEntry (rPc Γ vwCl [.ref o, .long p1, .long p2] (Rep Γ σ0)) (va_Qi post (fun σ' t => Rep Γ σ' t.heap) (rA Γ)) 2 137 (rA Γ) := by
  refine Met.ofW (cc := cX7_addEntry) (maxL := 6) (ret := (some .int)) (by decide) rfl ?_
  intro p e s m args below meth c s₁ B hml hv
  obtain ⟨rfl, hR, hE⟩ := hv
  have F : Fx Γ p s m meth c _ cX7_addEntry 6 RX7 wsX7_addEntry (some .int) := ⟨⟨B.exec, B.bytes, hml, findClass_of_methodNamed B.named, atoms_spec (ws := wsX7_addEntry) B.pre⟩, hE, B.notSynchronized, B.returns⟩
  have hl := lv_entry ([.ref o, .long p1, .long p2]) (n := 6) (Nat.le_of_ble_eq_true rfl)
  rw [lg_entry_eq]
  generalize (lg_sl ([.ref o, .long p1, .long p2]) ++ List.replicate (6 - (lg_sl ([.ref o, .long p1, .long p2])).length) Slot.unset).toArray = ls at hl ⊢
  have hl : lv_has ls 6 [(0, .ref o), (1, .long p1), (3, .long p2)] := hl
  exact bX7_addEntry F h hR va_S.rf hl ⟨by show _ + _ ≤ _; omega, by show _ + _ ≤ _; omega⟩
/-! X7_endBatch -/
theorem mX7_endBatch_0 : Cond.fieldLink RX7 22 "ClearingFiles" "file" "LClearingFiles$Incoming;" ∈ wsX7_endBatch := by decide +kernel
theorem mX7_endBatch_1 : Cond.fieldLink RX7 243 "ClearingFiles$Incoming" "current" "LClearingFiles$Batch;" ∈ wsX7_endBatch := by decide +kernel
theorem mX7_endBatch_2 : Cond.fieldLink RX7 259 "ClearingFiles$Batch" "totals" "LClearingFiles$Totals;" ∈ wsX7_endBatch := by decide +kernel
theorem mX7_endBatch_3 : Cond.fieldLink RX7 264 "ClearingFiles$Batch" "controlHolds" "Z" ∈ wsX7_endBatch := by decide +kernel
theorem mX7_endBatch_4 : Cond.fieldLink RX7 247 "ClearingFiles$Incoming" "inBatch" "Z" ∈ wsX7_endBatch := by decide +kernel
theorem nX7_endBatch_X7 : ∀ w ∈ u_ws RX7 TX7 7, w ∈ wsX7_endBatch := fun _ h => List.mem_cons_of_mem _ (List.mem_append_left _ (List.mem_append_left _ (List.mem_append_left _ (List.mem_append_right _ h))))
theorem nX7_endBatch_X4 : ∀ w ∈ u_ws RX4 TX4 8, w ∈ wsX7_endBatch := fun _ h => List.mem_cons_of_mem _ (List.mem_append_left _ (List.mem_append_left _ (List.mem_append_right _ h)))
theorem nX7_endBatch_X2 : ∀ w ∈ u_ws RX2 TX2 9, w ∈ wsX7_endBatch := fun _ h => List.mem_cons_of_mem _ (List.mem_append_left _ (List.mem_append_right _ h))
abbrev rmX7_endBatch : Room := { frames := 1, cells := 0, slots := 0, locals := 33 }
set_option maxRecDepth 100000 in
def wX7_endBatch (o : Nat) (p1 : Int64) (p2 : Int64) (post : St → Prop) (σ0 : St) : Prop :=
  sK σ0 o = 8 ∧ (∀ r2 : Option Nat, r2 = sR σ0 402 o 0 → (∃ a3 : Nat, r2 = some a3 ∧ (sK σ0 a3 = 5 ∧ (∀ r5 : Option Nat, r5 = sR σ0 252 a3 0 → (∃ a7 : Nat, r5 = some a7 ∧ (sK σ0 a7 = 3 ∧ (∀ r9 : Option Nat, r9 = sR σ0 151 a7 0 → (wX7_digits p1 p2 (1 : Int32) (4 : Int32) (fun (x12 : Int32) (σ10 : St) => wX7_digits p1 p2 (5 : Int32) (10 : Int32) (fun (x15 : Int32) (σ13 : St) => wX7_digits p1 p2 (18 : Int32) (26 : Int32) (fun (x18 : Int32) (σ16 : St) => wX7_digits p1 p2 (27 : Int32) (35 : Int32) (fun (x21 : Int32) (σ19 : St) => ∃ a22 : Nat, r9 = some a22 ∧ (sK σ19 a22 = 7 ∧ (wX6_are a22 x12 x15 x18 x21 (fun (x26 : Int32) (σ24 : St) => sK σ24 a7 = 3 ∧ (isB x26 ∧ (∀ σ29 : St, σ29 = uI σ24 157 a7 0 x26 → (sK σ29 o = 8 ∧ (∀ r31 : Option Nat, r31 = sR σ29 402 o 0 → (∃ a32 : Nat, r31 = some a32 ∧ (sK σ29 a32 = 5 ∧ (∀ σ34 : St, σ34 = uI σ29 257 a32 0 (0 : Int32) → (post σ34))))))))) σ19))) σ16) σ13) σ10) σ0))))))))
set_option maxHeartbeats 4000000 in
set_option maxRecDepth 100000 in
theorem bX7_endBatch {p : Program} {l : Launch} {e : Env} {s : State} {m : MethodId} {args : Array Value} {below : List Frame} {meth : Method} {c : Code} {Γ : rGam} {o : Nat} {post : St → Prop} (F : Fx Γ p s m meth c args cX7_endBatch 6 RX7 wsX7_endBatch none) {H : Heap} {locs : List Loc} {ls : Array Slot} {cells slots : Nat} {p1 : Int64} {p2 : Int64} {σ0 : St} (h : wX7_endBatch o p1 p2 post σ0) (hR : Rep Γ σ0 H) (hS : va_S (rA Γ) s.heap H locs) (hl : lv_has ls 6 [(0, .ref o), (1, .long p1), (3, .long p2)]) (hc : cells ≤ 0 ∧ slots ≤ 0) : W p l e rmX7_endBatch s m args below meth c H locs cells slots (rQv Γ below post args s 0 0) (F0 m 0 ls []) := by
  have hx := F.1.1
  have hb := F.1.2.1
  unfold wX7_endBatch at h
  refine lv_aload_n hx hb dX7_endBatch_0 rfl (lv_at hl 0 rfl) ?_
  obtain ⟨k1, h⟩ := h
  refine s_getR F hR k1 (by decide) (C := RX7) (T := TX7) (N := 7) rfl nX7_endBatch_X7 2 (by decide) mX7_endBatch_0 (f := 402) rfl dX7_endBatch_1 (fun r2 er2 => ?_)
  replace h := h r2 er2
  obtain ⟨a3, ea3, h⟩ := h
  subst ea3
  obtain ⟨k4, h⟩ := h
  refine s_getR F hR k4 (by decide) (C := RX4) (T := TX4) (N := 8) rfl nX7_endBatch_X4 2 (by decide) mX7_endBatch_1 (f := 252) rfl dX7_endBatch_4 (fun r5 er5 => ?_)
  replace h := h r5 er5
  refine s_astore (r := r5) (lk := []) (lv' := [(5, va_rf r5), (0, .ref o), (1, .long p1), (3, .long p2)]) hx hb dX7_endBatch_7 hl (by decide) rfl lk_0 rfl (fun ls hl6 => ?_)
  refine s_aload hx hb dX7_endBatch_9 (lv_at hl6 0 rfl) ?_
  refine s_aload hx hb dX7_endBatch_11 (lv_at hl6 0 rfl) ?_
  obtain ⟨a7, ea7, h⟩ := h
  subst ea7
  obtain ⟨k8, h⟩ := h
  refine s_getR F hR k8 (by decide) (C := RX2) (T := TX2) (N := 9) rfl nX7_endBatch_X2 1 (by decide) mX7_endBatch_2 (f := 151) rfl dX7_endBatch_13 (fun r9 er9 => ?_)
  replace h := h r9 er9
  refine lv_lload_n hx hb dX7_endBatch_16 rfl (lv_at hl6 2 rfl) ?_
  refine lv_lload_n hx hb dX7_endBatch_17 rfl (lv_at hl6 3 rfl) ?_
  refine lv_iconst (v := 1) hx hb dX7_endBatch_18 (by decide) ?_
  refine lv_iconst (v := 4) hx hb dX7_endBatch_19 (by decide) ?_
  refine s_ci hS (k_runS F hR hS hl6 4 [.long p1, .long p2, .int (1 : Int32), .int (4 : Int32)] (kX7_digits l Γ p1 p2 (1 : Int32) (4 : Int32) _ _ h) gX7_endBatch_X7_digits rfl rfl rfl (by decide +kernel) ⟨Nat.le_of_ble_eq_true rfl, Nat.le_of_ble_eq_true rfl⟩ rfl (by simp only [List.map_cons, List.map_nil, List.sum_cons, List.sum_nil, va_cat] <;> exact Nat.le_of_ble_eq_true rfl) dX7_endBatch_20 ⟨by show _ ≤ 0; omega, by show _ ≤ 0; omega⟩) (fun x12 σ10 H locs h11 hR hS => ?_)
  refine lv_lload_n hx hb dX7_endBatch_23 rfl (lv_at hl6 2 rfl) ?_
  refine lv_lload_n hx hb dX7_endBatch_24 rfl (lv_at hl6 3 rfl) ?_
  refine lv_iconst (v := 5) hx hb dX7_endBatch_25 (by decide) ?_
  refine lv_bipush (v := 10) hx hb dX7_endBatch_26 (by decide) ?_
  refine s_ci hS (k_runS F hR hS hl6 4 [.long p1, .long p2, .int (5 : Int32), .int (10 : Int32)] (kX7_digits l Γ p1 p2 (5 : Int32) (10 : Int32) _ _ h11) gX7_endBatch_X7_digits rfl rfl rfl (by decide +kernel) ⟨Nat.le_of_ble_eq_true rfl, Nat.le_of_ble_eq_true rfl⟩ rfl (by simp only [List.map_cons, List.map_nil, List.sum_cons, List.sum_nil, va_cat] <;> exact Nat.le_of_ble_eq_true rfl) dX7_endBatch_28 ⟨by show _ ≤ 0; omega, by show _ ≤ 0; omega⟩) (fun x15 σ13 H locs h14 hR hS => ?_)
  refine lv_lload_n hx hb dX7_endBatch_31 rfl (lv_at hl6 2 rfl) ?_
  refine lv_lload_n hx hb dX7_endBatch_32 rfl (lv_at hl6 3 rfl) ?_
  refine lv_bipush (v := 18) hx hb dX7_endBatch_33 (by decide) ?_
  refine lv_bipush (v := 26) hx hb dX7_endBatch_35 (by decide) ?_
  refine s_ci hS (k_runS F hR hS hl6 4 [.long p1, .long p2, .int (18 : Int32), .int (26 : Int32)] (kX7_digits l Γ p1 p2 (18 : Int32) (26 : Int32) _ _ h14) gX7_endBatch_X7_digits rfl rfl rfl (by decide +kernel) ⟨Nat.le_of_ble_eq_true rfl, Nat.le_of_ble_eq_true rfl⟩ rfl (by simp only [List.map_cons, List.map_nil, List.sum_cons, List.sum_nil, va_cat] <;> exact Nat.le_of_ble_eq_true rfl) dX7_endBatch_37 ⟨by show _ ≤ 0; omega, by show _ ≤ 0; omega⟩) (fun x18 σ16 H locs h17 hR hS => ?_)
  refine lv_lload_n hx hb dX7_endBatch_40 rfl (lv_at hl6 2 rfl) ?_
  refine lv_lload_n hx hb dX7_endBatch_41 rfl (lv_at hl6 3 rfl) ?_
  refine lv_bipush (v := 27) hx hb dX7_endBatch_42 (by decide) ?_
  refine lv_bipush (v := 35) hx hb dX7_endBatch_44 (by decide) ?_
  refine s_ci hS (k_runS F hR hS hl6 4 [.long p1, .long p2, .int (27 : Int32), .int (35 : Int32)] (kX7_digits l Γ p1 p2 (27 : Int32) (35 : Int32) _ _ h17) gX7_endBatch_X7_digits rfl rfl rfl (by decide +kernel) ⟨Nat.le_of_ble_eq_true rfl, Nat.le_of_ble_eq_true rfl⟩ rfl (by simp only [List.map_cons, List.map_nil, List.sum_cons, List.sum_nil, va_cat] <;> exact Nat.le_of_ble_eq_true rfl) dX7_endBatch_46 ⟨by show _ ≤ 0; omega, by show _ ≤ 0; omega⟩) (fun x21 σ19 H locs h20 hR hS => ?_)
  obtain ⟨a22, ea22, h20⟩ := h20
  subst ea22
  obtain ⟨k23, h20⟩ := h20
  refine s_ci hS (k_runV F hR hS hl6 4 [.int x12, .int x15, .int x18, .int x21] (kX6_are l Γ a22 x12 x15 x18 x21 _ _ h20) gX7_endBatch_X6_are rfl rfl rfl (by decide +kernel) ⟨Nat.le_of_ble_eq_true rfl, Nat.le_of_ble_eq_true rfl⟩ (s_recv F hR k23 (by decide) (C := RX6) (T := TX6) (N := 4) rfl) rfl (Nat.le_of_ble_eq_true rfl) dX7_endBatch_49 ⟨by show _ ≤ 0; omega, by show _ ≤ 0; omega⟩) (fun x26 σ24 H locs h25 hR hS => ?_)
  obtain ⟨k27, h25⟩ := h25
  obtain ⟨z28, h25⟩ := h25
  refine s_putI (v := x26) F hR hS k27 (by decide) (C := RX2) (T := TX2) (N := 9) rfl nX7_endBatch_X2 tyX2 tyX2_ok nmX2 7 (by decide) mX7_endBatch_3 (Or.inl rfl) z28.nar z28.fit (f := 157) rfl rnd_3 dX7_endBatch_52 (fun σ29 eσ29 H locs hR hS => ?_)
  replace h25 := h25 σ29 eσ29
  refine lv_aload_n hx hb dX7_endBatch_55 rfl (lv_at hl6 1 rfl) ?_
  obtain ⟨k30, h25⟩ := h25
  refine s_getR F hR k30 (by decide) (C := RX7) (T := TX7) (N := 7) rfl nX7_endBatch_X7 2 (by decide) mX7_endBatch_0 (f := 402) rfl dX7_endBatch_56 (fun r31 er31 => ?_)
  replace h25 := h25 r31 er31
  refine lv_iconst (v := 0) hx hb dX7_endBatch_59 (by decide) ?_
  obtain ⟨a32, ea32, h25⟩ := h25
  subst ea32
  obtain ⟨k33, h25⟩ := h25
  refine s_putI (v := (0 : Int32)) F hR hS k33 (by decide) (C := RX4) (T := TX4) (N := 8) rfl nX7_endBatch_X4 tyX4 tyX4_ok nmX4 7 (by decide) mX7_endBatch_4 (Or.inl rfl) (isB.nar (v := (0 : Int32)) (by unfold isB; decide)) (isB.fit (v := (0 : Int32)) (by unfold isB; decide)) (f := 257) rfl rnd_5 dX7_endBatch_60 (fun σ34 eσ34 H locs hR hS => ?_)
  replace h25 := h25 σ34 eσ34
  exact s_vret F hR hS h25 hc dX7_endBatch_63
set_option maxHeartbeats 4000000 in
set_option maxRecDepth 100000 in
theorem kX7_endBatch (l : Launch) (Γ : rGam) (o : Nat) (p1 : Int64) (p2 : Int64) (post : St → Prop) (σ0 : St) (h : wX7_endBatch o p1 p2 post σ0) : Met l yX7_endBatch wsX7_endBatch rmX7_endBatch (rPc Γ vwCl [.ref o, .long p1, .long p2] (Rep Γ σ0)) (va_Qv post (fun σ' t => Rep Γ σ' t.heap) (rA Γ)) 0 0 (rA Γ) := by
  refine Met.ofW (cc := cX7_endBatch) (maxL := 6) (ret := none) (by decide) rfl ?_
  intro p e s m args below meth c s₁ B hml hv
  obtain ⟨rfl, hR, hE⟩ := hv
  have F : Fx Γ p s m meth c _ cX7_endBatch 6 RX7 wsX7_endBatch none := ⟨⟨B.exec, B.bytes, hml, findClass_of_methodNamed B.named, atoms_spec (ws := wsX7_endBatch) B.pre⟩, hE, B.notSynchronized, B.returns⟩
  have hl := lv_entry ([.ref o, .long p1, .long p2]) (n := 6) (Nat.le_of_ble_eq_true rfl)
  rw [lg_entry_eq]
  generalize (lg_sl ([.ref o, .long p1, .long p2]) ++ List.replicate (6 - (lg_sl ([.ref o, .long p1, .long p2])).length) Slot.unset).toArray = ls at hl ⊢
  have hl : lv_has ls 6 [(0, .ref o), (1, .long p1), (3, .long p2)] := hl
  exact bX7_endBatch F h hR va_S.rf hl ⟨Nat.le_refl 0, Nat.le_refl 0⟩
/-! X7_settle -/
theorem mX7_settle_0 : Cond.fieldLink RX7 157 "ClearingFiles$Entry" "code" "I" ∈ wsX7_settle := by decide +kernel
theorem mX7_settle_1 : Cond.fieldLink RX7 173 "ClearingFiles$Entry" "amount" "I" ∈ wsX7_settle := by decide +kernel
theorem mX7_settle_2 : Cond.fieldLink RX7 160 "ClearingFiles$Entry" "receiver" "LClearingFiles$Bank;" ∈ wsX7_settle := by decide +kernel
theorem mX7_settle_3 : Cond.fieldLink RX7 210 "ClearingFiles$Bank" "ledger" "J" ∈ wsX7_settle := by decide +kernel
theorem mX7_settle_4 : Cond.fieldLink RX7 167 "ClearingFiles$Entry" "originator" "LClearingFiles$Bank;" ∈ wsX7_settle := by decide +kernel
theorem nX7_settle_X3 : ∀ w ∈ u_ws RX3 TX3 9, w ∈ wsX7_settle := fun _ h => List.mem_cons_of_mem _ (List.mem_append_left _ (List.mem_append_right _ h))
theorem nX7_settle_X1 : ∀ w ∈ u_ws RX1 TX1 6, w ∈ wsX7_settle := fun _ h => List.mem_cons_of_mem _ (List.mem_append_right _ h)
abbrev rmX7_settle : Room := { frames := 0, cells := 0, slots := 0, locals := 0 }
set_option maxRecDepth 100000 in
def wX7_settle_41 (post : St → Prop) (r0 : Option Nat) (y0 : Int64) (σ0 : St) : Prop :=
  ∃ a10 : Nat, r0 = some a10 ∧ (sK σ0 a10 = 4 ∧ (∀ r12 : Option Nat, r12 = sR σ0 207 a10 0 → (∃ a13 : Nat, r12 = some a13 ∧ (sK σ0 a13 = 2 ∧ (sK σ0 a13 = 2 ∧ (∀ σ16 : St, σ16 = uJ σ0 105 a13 0 ((sJ σ0 105 a13 0) + y0) → (sK σ16 a10 = 4 ∧ (∀ r18 : Option Nat, r18 = sR σ16 206 a10 0 → (∃ a19 : Nat, r18 = some a19 ∧ (sK σ16 a19 = 2 ∧ (sK σ16 a19 = 2 ∧ (∀ σ22 : St, σ22 = uJ σ16 105 a19 0 ((sJ σ16 105 a19 0) - y0) → (post σ22)))))))))))))
set_option maxHeartbeats 4000000 in
set_option maxRecDepth 100000 in
theorem bX7_settle_41 {p : Program} {l : Launch} {e : Env} {s : State} {m : MethodId} {args : Array Value} {below : List Frame} {meth : Method} {c : Code} {Γ : rGam} {post : St → Prop} (F : Fx Γ p s m meth c args cX7_settle 5 RX7 wsX7_settle none) {H : Heap} {locs : List Loc} {ls : Array Slot} {cells slots : Nat} {r0 : Option Nat} {y0 : Int64} {σ0 : St} (h : wX7_settle_41 post r0 y0 σ0) (hR : Rep Γ σ0 H) (hS : va_S (rA Γ) s.heap H locs) (hl : lv_has ls 5 [(0, va_rf r0)]) (hc : cells ≤ 0 ∧ slots ≤ 0) : W p l e rmX7_settle s m args below meth c H locs cells slots (rQv Γ below post args s 0 0) (F0 m 41 ls [.long y0]) := by
  have hx := F.1.1
  have hb := F.1.2.1
  unfold wX7_settle_41 at h
  refine s_lstore_n (lk := []) (lv' := [(3, .long y0), (0, va_rf r0)]) hx hb dX7_settle_41 rfl hl (by decide) rfl lk_0 rfl (fun ls hl9 => ?_)
  refine s_aload_n hx hb dX7_settle_42 rfl (lv_at hl9 1 rfl) ?_
  obtain ⟨a10, ea10, h⟩ := h
  subst ea10
  obtain ⟨k11, h⟩ := h
  refine s_getR F hR k11 (by decide) (C := RX3) (T := TX3) (N := 9) rfl nX7_settle_X3 7 (by decide) mX7_settle_2 (f := 207) rfl dX7_settle_43 (fun r12 er12 => ?_)
  replace h := h r12 er12
  refine lv_dup hx hb dX7_settle_46 (va_cat _) ?_
  obtain ⟨a13, ea13, h⟩ := h
  subst ea13
  obtain ⟨k14, h⟩ := h
  refine s_getJ F hR k14 (by decide) (C := RX1) (T := TX1) (N := 6) rfl nX7_settle_X1 5 (by decide) mX7_settle_3 (f := 105) rfl dX7_settle_47 ?_
  refine lv_lload_n hx hb dX7_settle_50 rfl (lv_at hl9 0 rfl) ?_
  refine lv_ladd hx hb dX7_settle_51 ?_
  obtain ⟨k15, h⟩ := h
  refine s_putJ (v := ((sJ σ0 105 a13 0) + y0)) F hR hS k15 (by decide) (C := RX1) (T := TX1) (N := 6) rfl nX7_settle_X1 tyX1 tyX1_ok nmX1 5 (by decide) mX7_settle_3 (Or.inl rfl) rfl rfl (f := 105) rfl rnd_2 dX7_settle_52 (fun σ16 eσ16 H locs hR hS => ?_)
  replace h := h σ16 eσ16
  refine lv_aload_n hx hb dX7_settle_55 rfl (lv_at hl9 1 rfl) ?_
  obtain ⟨k17, h⟩ := h
  refine s_getR F hR k17 (by decide) (C := RX3) (T := TX3) (N := 9) rfl nX7_settle_X3 6 (by decide) mX7_settle_4 (f := 206) rfl dX7_settle_56 (fun r18 er18 => ?_)
  replace h := h r18 er18
  refine lv_dup hx hb dX7_settle_59 (va_cat _) ?_
  obtain ⟨a19, ea19, h⟩ := h
  subst ea19
  obtain ⟨k20, h⟩ := h
  refine s_getJ F hR k20 (by decide) (C := RX1) (T := TX1) (N := 6) rfl nX7_settle_X1 5 (by decide) mX7_settle_3 (f := 105) rfl dX7_settle_60 ?_
  refine lv_lload_n hx hb dX7_settle_63 rfl (lv_at hl9 0 rfl) ?_
  refine lv_lsub hx hb dX7_settle_64 ?_
  obtain ⟨k21, h⟩ := h
  refine s_putJ (v := ((sJ σ16 105 a19 0) - y0)) F hR hS k21 (by decide) (C := RX1) (T := TX1) (N := 6) rfl nX7_settle_X1 tyX1 tyX1_ok nmX1 5 (by decide) mX7_settle_3 (Or.inl rfl) rfl rfl (f := 105) rfl rnd_2 dX7_settle_65 (fun σ22 eσ22 H locs hR hS => ?_)
  replace h := h σ22 eσ22
  exact s_vret F hR hS h hc dX7_settle_68

set_option maxRecDepth 100000 in
def wX7_settle_22 (post : St → Prop) (r0 : Option Nat) (y0 : Int32) (σ0 : St) : Prop :=
  (y0 = 0 → (∃ a7 : Nat, r0 = some a7 ∧ (sK σ0 a7 = 4 ∧ (wX7_settle_41 post (some a7) ((-(sI σ0 203 a7 0)).toInt64) σ0)))) ∧ (¬ y0 = 0 → (∃ a23 : Nat, r0 = some a23 ∧ (sK σ0 a23 = 4 ∧ (wX7_settle_41 post (some a23) ((sI σ0 203 a23 0).toInt64) σ0))))
set_option maxHeartbeats 4000000 in
set_option maxRecDepth 100000 in
theorem bX7_settle_22 {p : Program} {l : Launch} {e : Env} {s : State} {m : MethodId} {args : Array Value} {below : List Frame} {meth : Method} {c : Code} {Γ : rGam} {post : St → Prop} (F : Fx Γ p s m meth c args cX7_settle 5 RX7 wsX7_settle none) {H : Heap} {locs : List Loc} {ls : Array Slot} {cells slots : Nat} {r0 : Option Nat} {y0 : Int32} {σ0 : St} (h : wX7_settle_22 post r0 y0 σ0) (hR : Rep Γ σ0 H) (hS : va_S (rA Γ) s.heap H locs) (hl : lv_has ls 5 [(0, va_rf r0)]) (hc : cells ≤ 0 ∧ slots ≤ 0) : W p l e rmX7_settle s m args below meth c H locs cells slots (rQv Γ below post args s 0 0) (F0 m 22 ls [.int y0]) := by
  have hx := F.1.1
  have hb := F.1.2.1
  unfold wX7_settle_22 at h
  refine s_istore_n (lk := []) (lv' := [(2, .int y0), (0, va_rf r0)]) hx hb dX7_settle_22 rfl hl (by decide) rfl lk_0 rfl (fun ls hl5 => ?_)
  refine lv_iload_n hx hb dX7_settle_23 rfl (lv_at hl5 0 rfl) ?_
  refine lv_if_eq (tgt := 35) hx hb dX7_settle_24 (by decide) (fun c6 => ?_) (fun c6 => ?_)
  · replace h := h.1 c6
    refine s_aload_n hx hb dX7_settle_35 rfl (lv_at hl5 1 rfl) ?_
    obtain ⟨a7, ea7, h⟩ := h
    subst ea7
    obtain ⟨k8, h⟩ := h
    refine s_getI F hR k8 (by decide) (C := RX3) (T := TX3) (N := 9) rfl nX7_settle_X3 3 (by decide) mX7_settle_1 (f := 203) rfl dX7_settle_36 ?_
    refine lv_ineg hx hb dX7_settle_39 ?_
    refine lv_i2l hx hb dX7_settle_40 rfl ?_
    exact bX7_settle_41 F h hR hS (lv_sub hl5 [1] rfl) hc
  · replace h := h.2 c6
    refine s_aload_n hx hb dX7_settle_27 rfl (lv_at hl5 1 rfl) ?_
    obtain ⟨a23, ea23, h⟩ := h
    subst ea23
    obtain ⟨k24, h⟩ := h
    refine s_getI F hR k24 (by decide) (C := RX3) (T := TX3) (N := 9) rfl nX7_settle_X3 3 (by decide) mX7_settle_1 (f := 203) rfl dX7_settle_28 ?_
    refine lv_i2l hx hb dX7_settle_31 rfl ?_
    refine lv_goto (tgt := 41) hx hb dX7_settle_32 (by decide) ?_
    exact bX7_settle_41 F h hR hS (lv_sub hl5 [1] rfl) hc

set_option maxRecDepth 100000 in
def wX7_settle_13 (post : St → Prop) (r0 : Option Nat) (x1 : Int32) (y0 : Int32) (σ0 : St) : Prop :=
  (y0 = x1 → (wX7_settle_22 post r0 (0 : Int32) σ0)) ∧ (¬ y0 = x1 → (wX7_settle_22 post r0 (1 : Int32) σ0))
set_option maxHeartbeats 4000000 in
set_option maxRecDepth 100000 in
theorem bX7_settle_13 {p : Program} {l : Launch} {e : Env} {s : State} {m : MethodId} {args : Array Value} {below : List Frame} {meth : Method} {c : Code} {Γ : rGam} {post : St → Prop} (F : Fx Γ p s m meth c args cX7_settle 5 RX7 wsX7_settle none) {H : Heap} {locs : List Loc} {ls : Array Slot} {cells slots : Nat} {r0 : Option Nat} {x1 : Int32} {y0 : Int32} {σ0 : St} (h : wX7_settle_13 post r0 x1 y0 σ0) (hR : Rep Γ σ0 H) (hS : va_S (rA Γ) s.heap H locs) (hl : lv_has ls 5 [(0, va_rf r0), (1, .int x1)]) (hc : cells ≤ 0 ∧ slots ≤ 0) : W p l e rmX7_settle s m args below meth c H locs cells slots (rQv Γ below post args s 0 0) (F0 m 13 ls [.int y0]) := by
  have hx := F.1.1
  have hb := F.1.2.1
  unfold wX7_settle_13 at h
  refine lv_iload_n hx hb dX7_settle_13 rfl (lv_at hl 1 rfl) ?_
  refine lv_icmp_eq (tgt := 21) hx hb dX7_settle_14 (by decide) (fun c4 => ?_) (fun c4 => ?_)
  · replace h := h.1 c4
    refine lv_iconst (v := 0) hx hb dX7_settle_21 (by decide) ?_
    exact bX7_settle_22 F h hR hS (lv_sub hl [0] rfl) hc
  · replace h := h.2 c4
    refine lv_iconst (v := 1) hx hb dX7_settle_17 (by decide) ?_
    refine lv_goto (tgt := 22) hx hb dX7_settle_18 (by decide) ?_
    exact bX7_settle_22 F h hR hS (lv_sub hl [0] rfl) hc

set_option maxRecDepth 100000 in
def wX7_settle (p1 : Option Nat) (p2 : Int32) (post : St → Prop) (σ0 : St) : Prop :=
  ∃ a1 : Nat, p1 = some a1 ∧ (sK σ0 a1 = 4 ∧ (((sI σ0 200 a1 0) = (2 : Int32) → (wX7_settle_13 post (some a1) p2 (1 : Int32) σ0)) ∧ (¬ (sI σ0 200 a1 0) = (2 : Int32) → (wX7_settle_13 post (some a1) p2 (0 : Int32) σ0))))
set_option maxHeartbeats 4000000 in
set_option maxRecDepth 100000 in
theorem bX7_settle {p : Program} {l : Launch} {e : Env} {s : State} {m : MethodId} {args : Array Value} {below : List Frame} {meth : Method} {c : Code} {Γ : rGam} {post : St → Prop} (F : Fx Γ p s m meth c args cX7_settle 5 RX7 wsX7_settle none) {H : Heap} {locs : List Loc} {ls : Array Slot} {cells slots : Nat} {p1 : Option Nat} {p2 : Int32} {σ0 : St} (h : wX7_settle p1 p2 post σ0) (hR : Rep Γ σ0 H) (hS : va_S (rA Γ) s.heap H locs) (hl : lv_has ls 5 [(0, va_rf p1), (1, .int p2)]) (hc : cells ≤ 0 ∧ slots ≤ 0) : W p l e rmX7_settle s m args below meth c H locs cells slots (rQv Γ below post args s 0 0) (F0 m 0 ls []) := by
  have hx := F.1.1
  have hb := F.1.2.1
  unfold wX7_settle at h
  refine s_aload_n hx hb dX7_settle_0 rfl (lv_at hl 0 rfl) ?_
  obtain ⟨a1, ea1, h⟩ := h
  subst ea1
  obtain ⟨k2, h⟩ := h
  refine s_getI F hR k2 (by decide) (C := RX3) (T := TX3) (N := 9) rfl nX7_settle_X3 0 (by decide) mX7_settle_0 (f := 200) rfl dX7_settle_1 ?_
  refine lv_iconst (v := 2) hx hb dX7_settle_4 (by decide) ?_
  refine lv_icmp_ne (tgt := 12) hx hb dX7_settle_5 (by decide) (fun c3 => ?_) (fun c3 => ?_)
  · replace h := h.2 c3
    refine lv_iconst (v := 0) hx hb dX7_settle_12 (by decide) ?_
    exact bX7_settle_13 F h hR hS (lv_sub hl [0, 1] rfl) hc
  · replace h := h.1 c3
    refine lv_iconst (v := 1) hx hb dX7_settle_8 (by decide) ?_
    refine lv_goto (tgt := 13) hx hb dX7_settle_9 (by decide) ?_
    exact bX7_settle_13 F h hR hS (lv_sub hl [0, 1] rfl) hc
set_option maxHeartbeats 4000000 in
set_option maxRecDepth 100000 in
theorem kX7_settle (l : Launch) (Γ : rGam) (p1 : Option Nat) (p2 : Int32) (post : St → Prop) (σ0 : St) (h : wX7_settle p1 p2 post σ0) : Met l yX7_settle wsX7_settle rmX7_settle (rPc Γ vwCl [va_rf p1, .int p2] (Rep Γ σ0)) (va_Qv post (fun σ' t => Rep Γ σ' t.heap) (rA Γ)) 0 0 (rA Γ) := by
  rcases p1 with _ | p1v
  · refine Met.ofW (cc := cX7_settle) (maxL := 5) (ret := none) (by decide) rfl ?_
    intro p e s m args below meth c s₁ B hml hv
    obtain ⟨rfl, hR, hE⟩ := hv
    have F : Fx Γ p s m meth c _ cX7_settle 5 RX7 wsX7_settle none := ⟨⟨B.exec, B.bytes, hml, findClass_of_methodNamed B.named, atoms_spec (ws := wsX7_settle) B.pre⟩, hE, B.notSynchronized, B.returns⟩
    have hl := lv_entry ([va_rf none, .int p2]) (n := 5) (Nat.le_of_ble_eq_true rfl)
    rw [lg_entry_eq]
    generalize (lg_sl ([va_rf none, .int p2]) ++ List.replicate (5 - (lg_sl ([va_rf none, .int p2])).length) Slot.unset).toArray = ls at hl ⊢
    have hl : lv_has ls 5 [(0, va_rf none), (1, .int p2)] := hl
    exact bX7_settle F h hR va_S.rf hl ⟨Nat.le_refl 0, Nat.le_refl 0⟩
  · refine Met.ofW (cc := cX7_settle) (maxL := 5) (ret := none) (by decide) rfl ?_
    intro p e s m args below meth c s₁ B hml hv
    obtain ⟨rfl, hR, hE⟩ := hv
    have F : Fx Γ p s m meth c _ cX7_settle 5 RX7 wsX7_settle none := ⟨⟨B.exec, B.bytes, hml, findClass_of_methodNamed B.named, atoms_spec (ws := wsX7_settle) B.pre⟩, hE, B.notSynchronized, B.returns⟩
    have hl := lv_entry ([va_rf (some p1v), .int p2]) (n := 5) (Nat.le_of_ble_eq_true rfl)
    rw [lg_entry_eq]
    generalize (lg_sl ([va_rf (some p1v), .int p2]) ++ List.replicate (5 - (lg_sl ([va_rf (some p1v), .int p2])).length) Slot.unset).toArray = ls at hl ⊢
    have hl : lv_has ls 5 [(0, va_rf (some p1v)), (1, .int p2)] := hl
    exact bX7_settle F h hR va_S.rf hl ⟨Nat.le_refl 0, Nat.le_refl 0⟩
/-! X7_handOutReturns -/
theorem mX7_handOutReturns_0 : Cond.fieldLink RX7 214 "ClearingFiles$Bank" "returns" "Ljava/util/ArrayList;" ∈ wsX7_handOutReturns := by decide +kernel
theorem mX7_handOutReturns_1 : Cond.classLink RX7 151 "ClearingFiles$Entry" ∈ wsX7_handOutReturns := by decide +kernel
theorem mX7_handOutReturns_2 : Cond.fieldLink RX7 111 "ClearingFiles$Bank" "output" "LClearingFiles$Output;" ∈ wsX7_handOutReturns := by decide +kernel
theorem nX7_handOutReturns_X1 : ∀ w ∈ u_ws RX1 TX1 6, w ∈ wsX7_handOutReturns := fun _ h => List.mem_cons_of_mem _ (List.mem_append_left _ (List.mem_append_left _ (List.mem_append_left _ (List.mem_append_left _ (List.mem_append_right _ h)))))
abbrev rmX7_handOutReturns : Room := { frames := 8, cells := 65, slots := 8320, locals := 242 }
set_option maxRecDepth 100000 in
def wX7_handOutReturns_2 (post : St → Prop) : Nat → Option Nat → Int32 → St → Prop
  | 0, _, _, _ => False
  | n + 1, r0, x1, σ0 =>
    ∃ a2 : Nat, r0 = some a2 ∧ (sK σ0 a2 = 2 ∧ (∀ r4 : Option Nat, r4 = sR σ0 103 a2 0 → (∃ a5 : Nat, r4 = some a5 ∧ (wL_size a5 (fun (x9 : Int32) (σ7 : St) => (x9 ≤ x1 → (sK σ7 a2 = 2 ∧ (∀ r12 : Option Nat, r12 = sR σ7 103 a2 0 → (∃ a13 : Nat, r12 = some a13 ∧ (wL_clear a13 (fun (σ15 : St) => post σ15) σ7))))) ∧ (¬ x9 ≤ x1 → (sK σ7 a2 = 2 ∧ (∀ r18 : Option Nat, r18 = sR σ7 103 a2 0 → (∃ a19 : Nat, r18 = some a19 ∧ (wL_get a19 x1 (fun (r23 : Option Nat) (σ21 : St) => ∃ a24 : Nat, r23 = some a24 ∧ (sK σ21 a24 = 4 ∧ (sK σ21 a2 = 2 ∧ (∀ r28 : Option Nat, r28 = sR σ21 104 a2 0 → (∃ a29 : Nat, r28 = some a29 ∧ (sK σ21 a29 = 6 ∧ (wX5_addReturn a29 (some a24) (fun (σ31 : St) => wX7_settle (some a24) (1 : Int32) (fun (σ33 : St) => ∀ x35 : Int32, x35 = x1 + (1 : Int32) → (wX7_handOutReturns_2 post n (some a2) x35 σ33)) σ31) σ21))))))) σ7)))))) σ0))))
set_option maxHeartbeats 4000000 in
set_option maxRecDepth 100000 in
theorem bX7_handOutReturns_2 {p : Program} {l : Launch} {e : Env} {s : State} {m : MethodId} {args : Array Value} {below : List Frame} {meth : Method} {c : Code} {Γ : rGam} {post : St → Prop} (F : Fx Γ p s m meth c args cX7_handOutReturns 3 RX7 wsX7_handOutReturns none) : ∀ (n : Nat) (r0 : Option Nat) (x1 : Int32) (σ0 : St) (H : Heap) (locs : List Loc) (ls : Array Slot) (cells slots : Nat), wX7_handOutReturns_2 post n r0 x1 σ0 → Rep Γ σ0 H → va_S (rA Γ) s.heap H locs → lv_has ls 3 [(0, va_rf r0), (1, .int x1)] → cells + n * 1 + 0 ≤ 65 ∧ slots + n * 128 + 0 ≤ 8320 → W p l e rmX7_handOutReturns s m args below meth c H locs cells slots (rQv Γ below post args s 65 8320) (F0 m 2 ls []) := by
  have hx := F.1.1
  have hb := F.1.2.1
  intro n
  induction n with
  | zero =>
    intro r0 x1 σ0 H locs ls cells slots h
    exact absurd h (by unfold wX7_handOutReturns_2; exact id)
  | succ n ih =>
    intro r0 x1 σ0 H locs ls cells slots h hR hS hl hc
    unfold wX7_handOutReturns_2 at h
    refine lv_iload_n hx hb dX7_handOutReturns_2 rfl (lv_at hl 1 rfl) ?_
    refine s_aload_n hx hb dX7_handOutReturns_3 rfl (lv_at hl 0 rfl) ?_
    obtain ⟨a2, ea2, h⟩ := h
    subst ea2
    obtain ⟨k3, h⟩ := h
    refine s_getR F hR k3 (by decide) (C := RX1) (T := TX1) (N := 6) rfl nX7_handOutReturns_X1 3 (by decide) mX7_handOutReturns_0 (f := 103) rfl dX7_handOutReturns_4 (fun r4 er4 => ?_)
    replace h := h r4 er4
    obtain ⟨a5, ea5, h⟩ := h
    subst ea5
    have k6 := h.1
    refine s_ci hS (k_runV F hR hS hl 0 [] (kL_size l Γ a5 _ _ h) gX7_handOutReturns_Jx4a65c_size_8abf5 rfl rfl rfl (by decide +kernel) ⟨Nat.le_of_ble_eq_true rfl, Nat.le_of_ble_eq_true rfl⟩ (s_recv F hR rfl (by omega) (C := RJx4a65c) (T := TJx4a65c) (N := 3) (by unfold rCi; rw [if_neg (by omega)]; rfl)) rfl (Nat.le_of_ble_eq_true rfl) dX7_handOutReturns_7 ⟨by show _ ≤ 65; omega, by show _ ≤ 8320; omega⟩) (fun x9 σ7 H locs h8 hR hS => ?_)
    refine lv_icmp_ge (tgt := 44) hx hb dX7_handOutReturns_10 (by decide) (fun c10 => ?_) (fun c10 => ?_)
    · replace h8 := h8.1 c10
      refine lv_aload_n hx hb dX7_handOutReturns_44 rfl (lv_at hl 0 rfl) ?_
      obtain ⟨k11, h8⟩ := h8
      refine s_getR F hR k11 (by decide) (C := RX1) (T := TX1) (N := 6) rfl nX7_handOutReturns_X1 3 (by decide) mX7_handOutReturns_0 (f := 103) rfl dX7_handOutReturns_45 (fun r12 er12 => ?_)
      replace h8 := h8 r12 er12
      obtain ⟨a13, ea13, h8⟩ := h8
      subst ea13
      have k14 := h8.1
      refine s_cv hS (k_runV F hR hS hl 0 [] (kL_clear l Γ a13 _ _ h8) gX7_handOutReturns_Jx4a65c_clear_da8c8 rfl rfl rfl (by decide +kernel) ⟨Nat.le_of_ble_eq_true rfl, Nat.le_of_ble_eq_true rfl⟩ (s_recv F hR rfl (by omega) (C := RJx4a65c) (T := TJx4a65c) (N := 3) (by unfold rCi; rw [if_neg (by omega)]; rfl)) rfl (Nat.le_of_ble_eq_true rfl) dX7_handOutReturns_48 ⟨by show _ ≤ 65; omega, by show _ ≤ 8320; omega⟩) (fun σ15 H locs h16 hR hS => ?_)
      exact s_vret F hR hS h16 (by omega) dX7_handOutReturns_51
    · replace h8 := h8.2 c10
      refine lv_aload_n hx hb dX7_handOutReturns_13 rfl (lv_at hl 0 rfl) ?_
      obtain ⟨k17, h8⟩ := h8
      refine s_getR F hR k17 (by decide) (C := RX1) (T := TX1) (N := 6) rfl nX7_handOutReturns_X1 3 (by decide) mX7_handOutReturns_0 (f := 103) rfl dX7_handOutReturns_14 (fun r18 er18 => ?_)
      replace h8 := h8 r18 er18
      refine lv_iload_n hx hb dX7_handOutReturns_17 rfl (lv_at hl 1 rfl) ?_
      obtain ⟨a19, ea19, h8⟩ := h8
      subst ea19
      have k20 := h8.1
      refine s_cq hS (k_runV F hR hS hl 1 [.int x1] (kL_get l Γ a19 x1 _ _ h8) gX7_handOutReturns_Jx4a65c_get_915e3 rfl rfl rfl (by decide +kernel) ⟨Nat.le_of_ble_eq_true rfl, Nat.le_of_ble_eq_true rfl⟩ (s_recv F hR rfl (by omega) (C := RJx4a65c) (T := TJx4a65c) (N := 3) (by unfold rCi; rw [if_neg (by omega)]; rfl)) rfl (Nat.le_of_ble_eq_true rfl) dX7_handOutReturns_18 ⟨by show _ ≤ 65; omega, by show _ ≤ 8320; omega⟩) (fun r23 σ21 H locs h22 hR hS => ?_)
      obtain ⟨a24, ea24, h22⟩ := h22
      subst ea24
      obtain ⟨k25, h22⟩ := h22
      refine s_cast F hR k25 (by decide) (T := TX3) (N := 9) rfl mX7_handOutReturns_1 dX7_handOutReturns_21 ?_
      refine s_astore_n (r := (some a24)) (lk := [(1, .int x1)]) (lv' := [(2, .ref a24), (0, .ref a2), (1, .int x1)]) hx hb dX7_handOutReturns_24 rfl hl (by decide) rfl (lk_1 rfl) rfl (fun ls hl26 => ?_)
      refine lv_aload_n hx hb dX7_handOutReturns_25 rfl (lv_at hl26 1 rfl) ?_
      obtain ⟨k27, h22⟩ := h22
      refine s_getR F hR k27 (by decide) (C := RX1) (T := TX1) (N := 6) rfl nX7_handOutReturns_X1 4 (by decide) mX7_handOutReturns_2 (f := 104) rfl dX7_handOutReturns_26 (fun r28 er28 => ?_)
      replace h22 := h22 r28 er28
      refine lv_aload_n hx hb dX7_handOutReturns_29 rfl (lv_at hl26 0 rfl) ?_
      obtain ⟨a29, ea29, h22⟩ := h22
      subst ea29
      obtain ⟨k30, h22⟩ := h22
      refine s_cv hS (k_runV F hR hS hl26 1 [.ref a24] (kX5_addReturn l Γ a29 (some a24) _ _ h22) gX7_handOutReturns_X5_addReturn rfl rfl rfl (by decide +kernel) ⟨Nat.le_of_ble_eq_true rfl, Nat.le_of_ble_eq_true rfl⟩ (s_recv F hR k30 (by decide) (C := RX5) (T := TX5) (N := 4) rfl) rfl (Nat.le_of_ble_eq_true rfl) dX7_handOutReturns_30 ⟨by show _ ≤ 65; omega, by show _ ≤ 8320; omega⟩) (fun σ31 H locs h32 hR hS => ?_)
      refine lv_aload_n hx hb dX7_handOutReturns_33 rfl (lv_at hl26 0 rfl) ?_
      refine lv_iconst (v := 1) hx hb dX7_handOutReturns_34 (by decide) ?_
      refine s_cv hS (k_runS F hR hS hl26 2 [.ref a24, .int (1 : Int32)] (kX7_settle l Γ (some a24) (1 : Int32) _ _ h32) gX7_handOutReturns_X7_settle rfl rfl rfl (by decide +kernel) ⟨Nat.le_of_ble_eq_true rfl, Nat.le_of_ble_eq_true rfl⟩ rfl (Nat.le_of_ble_eq_true rfl) dX7_handOutReturns_35 ⟨by show _ ≤ 65; omega, by show _ ≤ 8320; omega⟩) (fun σ33 H locs h34 hR hS => ?_)
      obtain ⟨x35, ex35⟩ : ∃ x : Int32, x = x1 + (1 : Int32) := ⟨_, rfl⟩
      replace h34 := h34 x35 ex35
      refine s_iinc (v := x35) (d := 1) (lk := [(0, .ref a2)]) (lv' := [(1, .int x35), (2, .ref a24), (0, .ref a2)]) hx hb dX7_handOutReturns_38 hl26 (k := 2) rfl (by decide) (by decide) rfl (lk_1 rfl) ex35 rfl (fun ls hl36 => ?_)
      refine lv_goto (tgt := 2) hx hb dX7_handOutReturns_41 (by decide) ?_
      exact ih (some a2) x35 σ33 _ _ _ _ _ h34 hR hS (lv_sub hl36 [2, 0] rfl) (by omega)

set_option maxRecDepth 100000 in
def wX7_handOutReturns (p1 : Option Nat) (post : St → Prop) (σ0 : St) : Prop :=
  ∃ n37 : Nat, n37 ≤ 65 ∧ wX7_handOutReturns_2 post n37 p1 (0 : Int32) σ0
set_option maxHeartbeats 4000000 in
set_option maxRecDepth 100000 in
theorem bX7_handOutReturns {p : Program} {l : Launch} {e : Env} {s : State} {m : MethodId} {args : Array Value} {below : List Frame} {meth : Method} {c : Code} {Γ : rGam} {post : St → Prop} (F : Fx Γ p s m meth c args cX7_handOutReturns 3 RX7 wsX7_handOutReturns none) {H : Heap} {locs : List Loc} {ls : Array Slot} {cells slots : Nat} {p1 : Option Nat} {σ0 : St} (h : wX7_handOutReturns p1 post σ0) (hR : Rep Γ σ0 H) (hS : va_S (rA Γ) s.heap H locs) (hl : lv_has ls 3 [(0, va_rf p1)]) (hc : cells + 65 ≤ 65 ∧ slots + 8320 ≤ 8320) : W p l e rmX7_handOutReturns s m args below meth c H locs cells slots (rQv Γ below post args s 65 8320) (F0 m 0 ls []) := by
  have hx := F.1.1
  have hb := F.1.2.1
  unfold wX7_handOutReturns at h
  refine lv_iconst (v := 0) hx hb dX7_handOutReturns_0 (by decide) ?_
  refine s_istore_n (lk := [(0, va_rf p1)]) (lv' := [(1, .int (0 : Int32)), (0, va_rf p1)]) hx hb dX7_handOutReturns_1 rfl hl (by decide) rfl lk_r rfl (fun ls hl1 => ?_)
  obtain ⟨n37, hn, h⟩ := h
  exact bX7_handOutReturns_2 F n37 p1 (0 : Int32) σ0 _ _ _ _ _ h hR hS (lv_sub hl1 [1, 0] rfl) (by omega)
set_option maxHeartbeats 4000000 in
set_option maxRecDepth 100000 in
theorem kX7_handOutReturns (l : Launch) (Γ : rGam) (p1 : Option Nat) (post : St → Prop) (σ0 : St) (h : wX7_handOutReturns p1 post σ0) : Met l yX7_handOutReturns wsX7_handOutReturns rmX7_handOutReturns (rPc Γ vwCl [va_rf p1] (Rep Γ σ0)) (va_Qv post (fun σ' t => Rep Γ σ' t.heap) (rA Γ)) 65 8320 (rA Γ) := by
  rcases p1 with _ | p1v
  · refine Met.ofW (cc := cX7_handOutReturns) (maxL := 3) (ret := none) (by decide) rfl ?_
    intro p e s m args below meth c s₁ B hml hv
    obtain ⟨rfl, hR, hE⟩ := hv
    have F : Fx Γ p s m meth c _ cX7_handOutReturns 3 RX7 wsX7_handOutReturns none := ⟨⟨B.exec, B.bytes, hml, findClass_of_methodNamed B.named, atoms_spec (ws := wsX7_handOutReturns) B.pre⟩, hE, B.notSynchronized, B.returns⟩
    have hl := lv_entry ([va_rf none]) (n := 3) (Nat.le_of_ble_eq_true rfl)
    rw [lg_entry_eq]
    generalize (lg_sl ([va_rf none]) ++ List.replicate (3 - (lg_sl ([va_rf none])).length) Slot.unset).toArray = ls at hl ⊢
    have hl : lv_has ls 3 [(0, va_rf none)] := hl
    exact bX7_handOutReturns F h hR va_S.rf hl ⟨by show _ + _ ≤ _; omega, by show _ + _ ≤ _; omega⟩
  · refine Met.ofW (cc := cX7_handOutReturns) (maxL := 3) (ret := none) (by decide) rfl ?_
    intro p e s m args below meth c s₁ B hml hv
    obtain ⟨rfl, hR, hE⟩ := hv
    have F : Fx Γ p s m meth c _ cX7_handOutReturns 3 RX7 wsX7_handOutReturns none := ⟨⟨B.exec, B.bytes, hml, findClass_of_methodNamed B.named, atoms_spec (ws := wsX7_handOutReturns) B.pre⟩, hE, B.notSynchronized, B.returns⟩
    have hl := lv_entry ([va_rf (some p1v)]) (n := 3) (Nat.le_of_ble_eq_true rfl)
    rw [lg_entry_eq]
    generalize (lg_sl ([va_rf (some p1v)]) ++ List.replicate (3 - (lg_sl ([va_rf (some p1v)])).length) Slot.unset).toArray = ls at hl ⊢
    have hl : lv_has ls 3 [(0, va_rf (some p1v))] := hl
    exact bX7_handOutReturns F h hR va_S.rf hl ⟨by show _ + _ ≤ _; omega, by show _ + _ ≤ _; omega⟩
/-! X7_handOutEntries -/
theorem mX7_handOutEntries_0 : Cond.fieldLink RX7 213 "ClearingFiles$Bank" "entries" "Ljava/util/ArrayList;" ∈ wsX7_handOutEntries := by decide +kernel
theorem mX7_handOutEntries_1 : Cond.classLink RX7 151 "ClearingFiles$Entry" ∈ wsX7_handOutEntries := by decide +kernel
theorem mX7_handOutEntries_2 : Cond.fieldLink RX7 315 "ClearingFiles$Entry" "day" "I" ∈ wsX7_handOutEntries := by decide +kernel
theorem mX7_handOutEntries_3 : Cond.fieldLink RX7 37 "ClearingFiles" "today" "I" ∈ wsX7_handOutEntries := by decide +kernel
theorem mX7_handOutEntries_4 : Cond.fieldLink RX7 111 "ClearingFiles$Bank" "output" "LClearingFiles$Output;" ∈ wsX7_handOutEntries := by decide +kernel
theorem nX7_handOutEntries_X1 : ∀ w ∈ u_ws RX1 TX1 6, w ∈ wsX7_handOutEntries := fun _ h => List.mem_cons_of_mem _ (List.mem_append_left _ (List.mem_append_left _ (List.mem_append_left _ (List.mem_append_left _ (List.mem_append_left _ (List.mem_append_right _ h))))))
theorem nX7_handOutEntries_X3 : ∀ w ∈ u_ws RX3 TX3 9, w ∈ wsX7_handOutEntries := fun _ h => List.mem_cons_of_mem _ (List.mem_append_left _ (List.mem_append_left _ (List.mem_append_left _ (List.mem_append_left _ (List.mem_append_right _ h)))))
theorem nX7_handOutEntries_X7 : ∀ w ∈ u_ws RX7 TX7 7, w ∈ wsX7_handOutEntries := fun _ h => List.mem_cons_of_mem _ (List.mem_append_left _ (List.mem_append_left _ (List.mem_append_left _ (List.mem_append_right _ h))))
abbrev rmX7_handOutEntries : Room := { frames := 8, cells := 65, slots := 8320, locals := 246 }
set_option maxRecDepth 100000 in
def wX7_handOutEntries_65 (o : Nat) (post : St → Prop) : Nat → Option Nat → Int32 → St → Prop
  | 0, _, _, _ => False
  | n + 1, r1, x2, σ0 =>
    (x2 < 0 → (post σ0)) ∧ (¬ x2 < 0 → (∃ a21 : Nat, r1 = some a21 ∧ (sK σ0 a21 = 2 ∧ (∀ r23 : Option Nat, r23 = sR σ0 102 a21 0 → (∃ a24 : Nat, r23 = some a24 ∧ (wL_get a24 x2 (fun (r28 : Option Nat) (σ26 : St) => ∃ a29 : Nat, r28 = some a29 ∧ (sK σ26 a29 = 4 ∧ (sK σ26 a29 = 4 ∧ (sK σ26 o = 8 ∧ (((sI σ26 406 o 0) < (sI σ26 205 a29 0) → (∀ x34 : Int32, x34 = x2 + (-1 : Int32) → (wX7_handOutEntries_65 o post n (some a21) x34 σ26))) ∧ (¬ (sI σ26 406 o 0) < (sI σ26 205 a29 0) → (sK σ26 a21 = 2 ∧ (∀ r37 : Option Nat, r37 = sR σ26 102 a21 0 → (∃ a38 : Nat, r37 = some a38 ∧ (wL_remove a38 x2 (fun (r42 : Option Nat) (σ40 : St) => ∀ x43 : Int32, x43 = x2 + (-1 : Int32) → (wX7_handOutEntries_65 o post n (some a21) x43 σ40)) σ26)))))))))) σ0))))))
set_option maxHeartbeats 4000000 in
set_option maxRecDepth 100000 in
theorem bX7_handOutEntries_65 {p : Program} {l : Launch} {e : Env} {s : State} {m : MethodId} {args : Array Value} {below : List Frame} {meth : Method} {c : Code} {Γ : rGam} {o : Nat} {post : St → Prop} (F : Fx Γ p s m meth c args cX7_handOutEntries 4 RX7 wsX7_handOutEntries none) : ∀ (n : Nat) (r1 : Option Nat) (x2 : Int32) (σ0 : St) (H : Heap) (locs : List Loc) (ls : Array Slot) (cells slots : Nat), wX7_handOutEntries_65 o post n r1 x2 σ0 → Rep Γ σ0 H → va_S (rA Γ) s.heap H locs → lv_has ls 4 [(0, .ref o), (1, va_rf r1), (2, .int x2)] → cells + n * 0 + 0 ≤ 65 ∧ slots + n * 0 + 0 ≤ 8320 → W p l e rmX7_handOutEntries s m args below meth c H locs cells slots (rQv Γ below post args s 65 8320) (F0 m 65 ls []) := by
  have hx := F.1.1
  have hb := F.1.2.1
  intro n
  induction n with
  | zero =>
    intro r1 x2 σ0 H locs ls cells slots h
    exact absurd h (by unfold wX7_handOutEntries_65; exact id)
  | succ n ih =>
    intro r1 x2 σ0 H locs ls cells slots h hR hS hl hc
    unfold wX7_handOutEntries_65 at h
    refine lv_iload_n hx hb dX7_handOutEntries_65 rfl (lv_at hl 2 rfl) ?_
    refine lv_if_lt (tgt := 105) hx hb dX7_handOutEntries_66 (by decide) (fun c20 => ?_) (fun c20 => ?_)
    · replace h := h.1 c20
      exact s_vret F hR hS h (by omega) dX7_handOutEntries_105
    · replace h := h.2 c20
      refine s_aload_n hx hb dX7_handOutEntries_69 rfl (lv_at hl 1 rfl) ?_
      obtain ⟨a21, ea21, h⟩ := h
      subst ea21
      obtain ⟨k22, h⟩ := h
      refine s_getR F hR k22 (by decide) (C := RX1) (T := TX1) (N := 6) rfl nX7_handOutEntries_X1 2 (by decide) mX7_handOutEntries_0 (f := 102) rfl dX7_handOutEntries_70 (fun r23 er23 => ?_)
      replace h := h r23 er23
      refine lv_iload_n hx hb dX7_handOutEntries_73 rfl (lv_at hl 2 rfl) ?_
      obtain ⟨a24, ea24, h⟩ := h
      subst ea24
      have k25 := h.1
      refine s_cq hS (k_runV F hR hS hl 1 [.int x2] (kL_get l Γ a24 x2 _ _ h) gX7_handOutEntries_Jx4a65c_get_915e3 rfl rfl rfl (by decide +kernel) ⟨Nat.le_of_ble_eq_true rfl, Nat.le_of_ble_eq_true rfl⟩ (s_recv F hR rfl (by omega) (C := RJx4a65c) (T := TJx4a65c) (N := 3) (by unfold rCi; rw [if_neg (by omega)]; rfl)) rfl (Nat.le_of_ble_eq_true rfl) dX7_handOutEntries_74 ⟨by show _ ≤ 65; omega, by show _ ≤ 8320; omega⟩) (fun r28 σ26 H locs h27 hR hS => ?_)
      obtain ⟨a29, ea29, h27⟩ := h27
      subst ea29
      obtain ⟨k30, h27⟩ := h27
      refine s_cast F hR k30 (by decide) (T := TX3) (N := 9) rfl mX7_handOutEntries_1 dX7_handOutEntries_77 ?_
      obtain ⟨k31, h27⟩ := h27
      refine s_getI F hR k31 (by decide) (C := RX3) (T := TX3) (N := 9) rfl nX7_handOutEntries_X3 5 (by decide) mX7_handOutEntries_2 (f := 205) rfl dX7_handOutEntries_80 ?_
      refine lv_aload_n hx hb dX7_handOutEntries_83 rfl (lv_at hl 0 rfl) ?_
      obtain ⟨k32, h27⟩ := h27
      refine s_getI F hR k32 (by decide) (C := RX7) (T := TX7) (N := 7) rfl nX7_handOutEntries_X7 6 (by decide) mX7_handOutEntries_3 (f := 406) rfl dX7_handOutEntries_84 ?_
      refine lv_icmp_gt (tgt := 99) hx hb dX7_handOutEntries_87 (by decide) (fun c33 => ?_) (fun c33 => ?_)
      · replace h27 := h27.1 c33
        obtain ⟨x34, ex34⟩ : ∃ x : Int32, x = x2 + (-1 : Int32) := ⟨_, rfl⟩
        replace h27 := h27 x34 ex34
        refine s_iinc (v := x34) (d := -1) (lk := [(1, .ref a21)]) (lv' := [(2, .int x34), (0, .ref o), (1, .ref a21)]) hx hb dX7_handOutEntries_99 hl (k := 2) rfl (by decide) (by decide) rfl (lk_1 rfl) ex34 rfl (fun ls hl35 => ?_)
        refine lv_goto (tgt := 65) hx hb dX7_handOutEntries_102 (by decide) ?_
        exact ih (some a21) x34 σ26 _ _ _ _ _ h27 hR hS (lv_sub hl35 [1, 2, 0] rfl) (by omega)
      · replace h27 := h27.2 c33
        refine lv_aload_n hx hb dX7_handOutEntries_90 rfl (lv_at hl 1 rfl) ?_
        obtain ⟨k36, h27⟩ := h27
        refine s_getR F hR k36 (by decide) (C := RX1) (T := TX1) (N := 6) rfl nX7_handOutEntries_X1 2 (by decide) mX7_handOutEntries_0 (f := 102) rfl dX7_handOutEntries_91 (fun r37 er37 => ?_)
        replace h27 := h27 r37 er37
        refine lv_iload_n hx hb dX7_handOutEntries_94 rfl (lv_at hl 2 rfl) ?_
        obtain ⟨a38, ea38, h27⟩ := h27
        subst ea38
        have k39 := h27.1
        refine s_cq hS (k_runV F hR hS hl 1 [.int x2] (kL_remove l Γ a38 x2 _ _ h27) gX7_handOutEntries_Jx4a65c_remove_915e3 rfl rfl rfl (by decide +kernel) ⟨Nat.le_of_ble_eq_true rfl, Nat.le_of_ble_eq_true rfl⟩ (s_recv F hR rfl (by omega) (C := RJx4a65c) (T := TJx4a65c) (N := 3) (by unfold rCi; rw [if_neg (by omega)]; rfl)) rfl (Nat.le_of_ble_eq_true rfl) dX7_handOutEntries_95 ⟨by show _ ≤ 65; omega, by show _ ≤ 8320; omega⟩) (fun r42 σ40 H locs h41 hR hS => ?_)
        refine lv_pop hx hb dX7_handOutEntries_98 (va_cat _) ?_
        obtain ⟨x43, ex43⟩ : ∃ x : Int32, x = x2 + (-1 : Int32) := ⟨_, rfl⟩
        replace h41 := h41 x43 ex43
        refine s_iinc (v := x43) (d := -1) (lk := [(1, .ref a21)]) (lv' := [(2, .int x43), (0, .ref o), (1, .ref a21)]) hx hb dX7_handOutEntries_99 hl (k := 2) rfl (by decide) (by decide) rfl (lk_1 rfl) ex43 rfl (fun ls hl44 => ?_)
        refine lv_goto (tgt := 65) hx hb dX7_handOutEntries_102 (by decide) ?_
        exact ih (some a21) x43 σ40 _ _ _ _ _ h41 hR hS (lv_sub hl44 [1, 2, 0] rfl) (by omega)

set_option maxRecDepth 100000 in
def wX7_handOutEntries_2 (o : Nat) (post : St → Prop) : Nat → Option Nat → Int32 → St → Prop
  | 0, _, _, _ => False
  | n + 1, r1, x2, σ0 =>
    ∃ a2 : Nat, r1 = some a2 ∧ (sK σ0 a2 = 2 ∧ (∀ r4 : Option Nat, r4 = sR σ0 102 a2 0 → (∃ a5 : Nat, r4 = some a5 ∧ (wL_size a5 (fun (x9 : Int32) (σ7 : St) => (x9 ≤ x2 → (sK σ7 a2 = 2 ∧ (∀ r12 : Option Nat, r12 = sR σ7 102 a2 0 → (∃ a13 : Nat, r12 = some a13 ∧ (wL_size a13 (fun (x17 : Int32) (σ15 : St) => ∀ x18 : Int32, x18 = (x17 - (1 : Int32)) → (∃ n45 : Nat, wX7_handOutEntries_65 o post n45 (some a2) x18 σ15)) σ7))))) ∧ (¬ x9 ≤ x2 → (sK σ7 a2 = 2 ∧ (∀ r47 : Option Nat, r47 = sR σ7 102 a2 0 → (∃ a48 : Nat, r47 = some a48 ∧ (wL_get a48 x2 (fun (r52 : Option Nat) (σ50 : St) => ∃ a53 : Nat, r52 = some a53 ∧ (sK σ50 a53 = 4 ∧ (sK σ50 a53 = 4 ∧ (sK σ50 o = 8 ∧ (((sI σ50 406 o 0) < (sI σ50 205 a53 0) → (∀ x59 : Int32, x59 = x2 + (1 : Int32) → (wX7_handOutEntries_2 o post n (some a2) x59 σ50))) ∧ (¬ (sI σ50 406 o 0) < (sI σ50 205 a53 0) → (sK σ50 a2 = 2 ∧ (∀ r62 : Option Nat, r62 = sR σ50 104 a2 0 → (∃ a63 : Nat, r62 = some a63 ∧ (sK σ50 a63 = 6 ∧ (wX5_addEntry a63 (some a53) (fun (σ65 : St) => wX7_settle (some a53) (0 : Int32) (fun (σ67 : St) => ∀ x69 : Int32, x69 = x2 + (1 : Int32) → (wX7_handOutEntries_2 o post n (some a2) x69 σ67)) σ65) σ50))))))))))) σ7)))))) σ0))))
set_option maxHeartbeats 4000000 in
set_option maxRecDepth 100000 in
theorem bX7_handOutEntries_2 {p : Program} {l : Launch} {e : Env} {s : State} {m : MethodId} {args : Array Value} {below : List Frame} {meth : Method} {c : Code} {Γ : rGam} {o : Nat} {post : St → Prop} (F : Fx Γ p s m meth c args cX7_handOutEntries 4 RX7 wsX7_handOutEntries none) : ∀ (n : Nat) (r1 : Option Nat) (x2 : Int32) (σ0 : St) (H : Heap) (locs : List Loc) (ls : Array Slot) (cells slots : Nat), wX7_handOutEntries_2 o post n r1 x2 σ0 → Rep Γ σ0 H → va_S (rA Γ) s.heap H locs → lv_has ls 4 [(0, .ref o), (1, va_rf r1), (2, .int x2)] → cells + n * 1 + 0 ≤ 65 ∧ slots + n * 128 + 0 ≤ 8320 → W p l e rmX7_handOutEntries s m args below meth c H locs cells slots (rQv Γ below post args s 65 8320) (F0 m 2 ls []) := by
  have hx := F.1.1
  have hb := F.1.2.1
  intro n
  induction n with
  | zero =>
    intro r1 x2 σ0 H locs ls cells slots h
    exact absurd h (by unfold wX7_handOutEntries_2; exact id)
  | succ n ih =>
    intro r1 x2 σ0 H locs ls cells slots h hR hS hl hc
    unfold wX7_handOutEntries_2 at h
    refine lv_iload_n hx hb dX7_handOutEntries_2 rfl (lv_at hl 2 rfl) ?_
    refine s_aload_n hx hb dX7_handOutEntries_3 rfl (lv_at hl 1 rfl) ?_
    obtain ⟨a2, ea2, h⟩ := h
    subst ea2
    obtain ⟨k3, h⟩ := h
    refine s_getR F hR k3 (by decide) (C := RX1) (T := TX1) (N := 6) rfl nX7_handOutEntries_X1 2 (by decide) mX7_handOutEntries_0 (f := 102) rfl dX7_handOutEntries_4 (fun r4 er4 => ?_)
    replace h := h r4 er4
    obtain ⟨a5, ea5, h⟩ := h
    subst ea5
    have k6 := h.1
    refine s_ci hS (k_runV F hR hS hl 0 [] (kL_size l Γ a5 _ _ h) gX7_handOutEntries_Jx4a65c_size_8abf5 rfl rfl rfl (by decide +kernel) ⟨Nat.le_of_ble_eq_true rfl, Nat.le_of_ble_eq_true rfl⟩ (s_recv F hR rfl (by omega) (C := RJx4a65c) (T := TJx4a65c) (N := 3) (by unfold rCi; rw [if_neg (by omega)]; rfl)) rfl (Nat.le_of_ble_eq_true rfl) dX7_handOutEntries_7 ⟨by show _ ≤ 65; omega, by show _ ≤ 8320; omega⟩) (fun x9 σ7 H locs h8 hR hS => ?_)
    refine lv_icmp_ge (tgt := 55) hx hb dX7_handOutEntries_10 (by decide) (fun c10 => ?_) (fun c10 => ?_)
    · replace h8 := h8.1 c10
      refine lv_aload_n hx hb dX7_handOutEntries_55 rfl (lv_at hl 1 rfl) ?_
      obtain ⟨k11, h8⟩ := h8
      refine s_getR F hR k11 (by decide) (C := RX1) (T := TX1) (N := 6) rfl nX7_handOutEntries_X1 2 (by decide) mX7_handOutEntries_0 (f := 102) rfl dX7_handOutEntries_56 (fun r12 er12 => ?_)
      replace h8 := h8 r12 er12
      obtain ⟨a13, ea13, h8⟩ := h8
      subst ea13
      have k14 := h8.1
      refine s_ci hS (k_runV F hR hS hl 0 [] (kL_size l Γ a13 _ _ h8) gX7_handOutEntries_Jx4a65c_size_8abf5 rfl rfl rfl (by decide +kernel) ⟨Nat.le_of_ble_eq_true rfl, Nat.le_of_ble_eq_true rfl⟩ (s_recv F hR rfl (by omega) (C := RJx4a65c) (T := TJx4a65c) (N := 3) (by unfold rCi; rw [if_neg (by omega)]; rfl)) rfl (Nat.le_of_ble_eq_true rfl) dX7_handOutEntries_59 ⟨by show _ ≤ 65; omega, by show _ ≤ 8320; omega⟩) (fun x17 σ15 H locs h16 hR hS => ?_)
      refine lv_iconst (v := 1) hx hb dX7_handOutEntries_62 (by decide) ?_
      refine lv_isub hx hb dX7_handOutEntries_63 ?_
      refine lv_topi (fun x18 ex18 => ?_)
      replace h16 := h16 x18 ex18
      refine s_istore_n (lk := [(1, .ref a2)]) (lv' := [(2, .int x18), (0, .ref o), (1, .ref a2)]) hx hb dX7_handOutEntries_64 rfl hl (by decide) rfl (lk_1 rfl) rfl (fun ls hl19 => ?_)
      obtain ⟨n45, h16⟩ := h16
      exact bX7_handOutEntries_65 F n45 (some a2) x18 σ15 _ _ _ _ _ h16 hR hS (lv_sub hl19 [1, 2, 0] rfl) (by omega)
    · replace h8 := h8.2 c10
      refine lv_aload_n hx hb dX7_handOutEntries_13 rfl (lv_at hl 1 rfl) ?_
      obtain ⟨k46, h8⟩ := h8
      refine s_getR F hR k46 (by decide) (C := RX1) (T := TX1) (N := 6) rfl nX7_handOutEntries_X1 2 (by decide) mX7_handOutEntries_0 (f := 102) rfl dX7_handOutEntries_14 (fun r47 er47 => ?_)
      replace h8 := h8 r47 er47
      refine lv_iload_n hx hb dX7_handOutEntries_17 rfl (lv_at hl 2 rfl) ?_
      obtain ⟨a48, ea48, h8⟩ := h8
      subst ea48
      have k49 := h8.1
      refine s_cq hS (k_runV F hR hS hl 1 [.int x2] (kL_get l Γ a48 x2 _ _ h8) gX7_handOutEntries_Jx4a65c_get_915e3 rfl rfl rfl (by decide +kernel) ⟨Nat.le_of_ble_eq_true rfl, Nat.le_of_ble_eq_true rfl⟩ (s_recv F hR rfl (by omega) (C := RJx4a65c) (T := TJx4a65c) (N := 3) (by unfold rCi; rw [if_neg (by omega)]; rfl)) rfl (Nat.le_of_ble_eq_true rfl) dX7_handOutEntries_18 ⟨by show _ ≤ 65; omega, by show _ ≤ 8320; omega⟩) (fun r52 σ50 H locs h51 hR hS => ?_)
      obtain ⟨a53, ea53, h51⟩ := h51
      subst ea53
      obtain ⟨k54, h51⟩ := h51
      refine s_cast F hR k54 (by decide) (T := TX3) (N := 9) rfl mX7_handOutEntries_1 dX7_handOutEntries_21 ?_
      refine s_astore_n (r := (some a53)) (lk := [(2, .int x2)]) (lv' := [(3, .ref a53), (0, .ref o), (1, .ref a2), (2, .int x2)]) hx hb dX7_handOutEntries_24 rfl hl (by decide) rfl (lk_1 rfl) rfl (fun ls hl55 => ?_)
      refine lv_aload_n hx hb dX7_handOutEntries_25 rfl (lv_at hl55 0 rfl) ?_
      obtain ⟨k56, h51⟩ := h51
      refine s_getI F hR k56 (by decide) (C := RX3) (T := TX3) (N := 9) rfl nX7_handOutEntries_X3 5 (by decide) mX7_handOutEntries_2 (f := 205) rfl dX7_handOutEntries_26 ?_
      refine lv_aload_n hx hb dX7_handOutEntries_29 rfl (lv_at hl55 1 rfl) ?_
      obtain ⟨k57, h51⟩ := h51
      refine s_getI F hR k57 (by decide) (C := RX7) (T := TX7) (N := 7) rfl nX7_handOutEntries_X7 6 (by decide) mX7_handOutEntries_3 (f := 406) rfl dX7_handOutEntries_30 ?_
      refine lv_icmp_gt (tgt := 49) hx hb dX7_handOutEntries_33 (by decide) (fun c58 => ?_) (fun c58 => ?_)
      · replace h51 := h51.1 c58
        obtain ⟨x59, ex59⟩ : ∃ x : Int32, x = x2 + (1 : Int32) := ⟨_, rfl⟩
        replace h51 := h51 x59 ex59
        refine s_iinc (v := x59) (d := 1) (lk := [(1, .ref a2)]) (lv' := [(2, .int x59), (3, .ref a53), (0, .ref o), (1, .ref a2)]) hx hb dX7_handOutEntries_49 hl55 (k := 3) rfl (by decide) (by decide) rfl (lk_1 rfl) ex59 rfl (fun ls hl60 => ?_)
        refine lv_goto (tgt := 2) hx hb dX7_handOutEntries_52 (by decide) ?_
        exact ih (some a2) x59 σ50 _ _ _ _ _ h51 hR hS (lv_sub hl60 [2, 3, 0] rfl) (by omega)
      · replace h51 := h51.2 c58
        refine lv_aload_n hx hb dX7_handOutEntries_36 rfl (lv_at hl55 2 rfl) ?_
        obtain ⟨k61, h51⟩ := h51
        refine s_getR F hR k61 (by decide) (C := RX1) (T := TX1) (N := 6) rfl nX7_handOutEntries_X1 4 (by decide) mX7_handOutEntries_4 (f := 104) rfl dX7_handOutEntries_37 (fun r62 er62 => ?_)
        replace h51 := h51 r62 er62
        refine lv_aload_n hx hb dX7_handOutEntries_40 rfl (lv_at hl55 0 rfl) ?_
        obtain ⟨a63, ea63, h51⟩ := h51
        subst ea63
        obtain ⟨k64, h51⟩ := h51
        refine s_cv hS (k_runV F hR hS hl55 1 [.ref a53] (kX5_addEntry l Γ a63 (some a53) _ _ h51) gX7_handOutEntries_X5_addEntry rfl rfl rfl (by decide +kernel) ⟨Nat.le_of_ble_eq_true rfl, Nat.le_of_ble_eq_true rfl⟩ (s_recv F hR k64 (by decide) (C := RX5) (T := TX5) (N := 4) rfl) rfl (Nat.le_of_ble_eq_true rfl) dX7_handOutEntries_41 ⟨by show _ ≤ 65; omega, by show _ ≤ 8320; omega⟩) (fun σ65 H locs h66 hR hS => ?_)
        refine lv_aload_n hx hb dX7_handOutEntries_44 rfl (lv_at hl55 0 rfl) ?_
        refine lv_iconst (v := 0) hx hb dX7_handOutEntries_45 (by decide) ?_
        refine s_cv hS (k_runS F hR hS hl55 2 [.ref a53, .int (0 : Int32)] (kX7_settle l Γ (some a53) (0 : Int32) _ _ h66) gX7_handOutEntries_X7_settle rfl rfl rfl (by decide +kernel) ⟨Nat.le_of_ble_eq_true rfl, Nat.le_of_ble_eq_true rfl⟩ rfl (Nat.le_of_ble_eq_true rfl) dX7_handOutEntries_46 ⟨by show _ ≤ 65; omega, by show _ ≤ 8320; omega⟩) (fun σ67 H locs h68 hR hS => ?_)
        obtain ⟨x69, ex69⟩ : ∃ x : Int32, x = x2 + (1 : Int32) := ⟨_, rfl⟩
        replace h68 := h68 x69 ex69
        refine s_iinc (v := x69) (d := 1) (lk := [(1, .ref a2)]) (lv' := [(2, .int x69), (3, .ref a53), (0, .ref o), (1, .ref a2)]) hx hb dX7_handOutEntries_49 hl55 (k := 3) rfl (by decide) (by decide) rfl (lk_1 rfl) ex69 rfl (fun ls hl70 => ?_)
        refine lv_goto (tgt := 2) hx hb dX7_handOutEntries_52 (by decide) ?_
        exact ih (some a2) x69 σ67 _ _ _ _ _ h68 hR hS (lv_sub hl70 [2, 3, 0] rfl) (by omega)

set_option maxRecDepth 100000 in
def wX7_handOutEntries (o : Nat) (p1 : Option Nat) (post : St → Prop) (σ0 : St) : Prop :=
  ∃ n71 : Nat, n71 ≤ 65 ∧ wX7_handOutEntries_2 o post n71 p1 (0 : Int32) σ0
set_option maxHeartbeats 4000000 in
set_option maxRecDepth 100000 in
theorem bX7_handOutEntries {p : Program} {l : Launch} {e : Env} {s : State} {m : MethodId} {args : Array Value} {below : List Frame} {meth : Method} {c : Code} {Γ : rGam} {o : Nat} {post : St → Prop} (F : Fx Γ p s m meth c args cX7_handOutEntries 4 RX7 wsX7_handOutEntries none) {H : Heap} {locs : List Loc} {ls : Array Slot} {cells slots : Nat} {p1 : Option Nat} {σ0 : St} (h : wX7_handOutEntries o p1 post σ0) (hR : Rep Γ σ0 H) (hS : va_S (rA Γ) s.heap H locs) (hl : lv_has ls 4 [(0, .ref o), (1, va_rf p1)]) (hc : cells + 65 ≤ 65 ∧ slots + 8320 ≤ 8320) : W p l e rmX7_handOutEntries s m args below meth c H locs cells slots (rQv Γ below post args s 65 8320) (F0 m 0 ls []) := by
  have hx := F.1.1
  have hb := F.1.2.1
  unfold wX7_handOutEntries at h
  refine lv_iconst (v := 0) hx hb dX7_handOutEntries_0 (by decide) ?_
  refine s_istore_n (lk := [(1, va_rf p1)]) (lv' := [(2, .int (0 : Int32)), (0, .ref o), (1, va_rf p1)]) hx hb dX7_handOutEntries_1 rfl hl (by decide) rfl lk_r rfl (fun ls hl1 => ?_)
  obtain ⟨n71, hn, h⟩ := h
  exact bX7_handOutEntries_2 F n71 p1 (0 : Int32) σ0 _ _ _ _ _ h hR hS (lv_sub hl1 [1, 2, 0] rfl) (by omega)
set_option maxHeartbeats 4000000 in
set_option maxRecDepth 100000 in
theorem kX7_handOutEntries (l : Launch) (Γ : rGam) (o : Nat) (p1 : Option Nat) (post : St → Prop) (σ0 : St) (h : wX7_handOutEntries o p1 post σ0) : Met l yX7_handOutEntries wsX7_handOutEntries rmX7_handOutEntries (rPc Γ vwCl [.ref o, va_rf p1] (Rep Γ σ0)) (va_Qv post (fun σ' t => Rep Γ σ' t.heap) (rA Γ)) 65 8320 (rA Γ) := by
  rcases p1 with _ | p1v
  · refine Met.ofW (cc := cX7_handOutEntries) (maxL := 4) (ret := none) (by decide) rfl ?_
    intro p e s m args below meth c s₁ B hml hv
    obtain ⟨rfl, hR, hE⟩ := hv
    have F : Fx Γ p s m meth c _ cX7_handOutEntries 4 RX7 wsX7_handOutEntries none := ⟨⟨B.exec, B.bytes, hml, findClass_of_methodNamed B.named, atoms_spec (ws := wsX7_handOutEntries) B.pre⟩, hE, B.notSynchronized, B.returns⟩
    have hl := lv_entry ([.ref o, va_rf none]) (n := 4) (Nat.le_of_ble_eq_true rfl)
    rw [lg_entry_eq]
    generalize (lg_sl ([.ref o, va_rf none]) ++ List.replicate (4 - (lg_sl ([.ref o, va_rf none])).length) Slot.unset).toArray = ls at hl ⊢
    have hl : lv_has ls 4 [(0, .ref o), (1, va_rf none)] := hl
    exact bX7_handOutEntries F h hR va_S.rf hl ⟨by show _ + _ ≤ _; omega, by show _ + _ ≤ _; omega⟩
  · refine Met.ofW (cc := cX7_handOutEntries) (maxL := 4) (ret := none) (by decide) rfl ?_
    intro p e s m args below meth c s₁ B hml hv
    obtain ⟨rfl, hR, hE⟩ := hv
    have F : Fx Γ p s m meth c _ cX7_handOutEntries 4 RX7 wsX7_handOutEntries none := ⟨⟨B.exec, B.bytes, hml, findClass_of_methodNamed B.named, atoms_spec (ws := wsX7_handOutEntries) B.pre⟩, hE, B.notSynchronized, B.returns⟩
    have hl := lv_entry ([.ref o, va_rf (some p1v)]) (n := 4) (Nat.le_of_ble_eq_true rfl)
    rw [lg_entry_eq]
    generalize (lg_sl ([.ref o, va_rf (some p1v)]) ++ List.replicate (4 - (lg_sl ([.ref o, va_rf (some p1v)])).length) Slot.unset).toArray = ls at hl ⊢
    have hl : lv_has ls 4 [(0, .ref o), (1, va_rf (some p1v))] := hl
    exact bX7_handOutEntries F h hR va_S.rf hl ⟨by show _ + _ ≤ _; omega, by show _ + _ ≤ _; omega⟩
/-! X7_sendBack -/
theorem mX7_sendBack_0 : Cond.fieldLink RX7 179 "ClearingFiles$Entry" "reason" "I" ∈ wsX7_sendBack := by decide +kernel
theorem mX7_sendBack_1 : Cond.fieldLink RX7 167 "ClearingFiles$Entry" "originator" "LClearingFiles$Bank;" ∈ wsX7_sendBack := by decide +kernel
theorem mX7_sendBack_2 : Cond.fieldLink RX7 214 "ClearingFiles$Bank" "returns" "Ljava/util/ArrayList;" ∈ wsX7_sendBack := by decide +kernel
theorem nX7_sendBack_X3 : ∀ w ∈ u_ws RX3 TX3 9, w ∈ wsX7_sendBack := fun _ h => List.mem_cons_of_mem _ (List.mem_append_left _ (List.mem_append_left _ (List.mem_append_left _ (List.mem_append_right _ h))))
theorem nX7_sendBack_X1 : ∀ w ∈ u_ws RX1 TX1 6, w ∈ wsX7_sendBack := fun _ h => List.mem_cons_of_mem _ (List.mem_append_left _ (List.mem_append_left _ (List.mem_append_right _ h)))
abbrev rmX7_sendBack : Room := { frames := 7, cells := 1, slots := 128, locals := 221 }
set_option maxRecDepth 100000 in
def wX7_sendBack (o : Nat) (p1 : Option Nat) (post : St → Prop) (σ0 : St) : Prop :=
  ∃ a1 : Nat, p1 = some a1 ∧ (sK σ0 a1 = 4 ∧ (sK σ0 o = 8 ∧ (wX7_countRefusal o (sI σ0 208 a1 0) (fun (σ4 : St) => sK σ4 a1 = 4 ∧ (∀ r7 : Option Nat, r7 = sR σ4 206 a1 0 → (∃ a8 : Nat, r7 = some a8 ∧ (sK σ4 a8 = 2 ∧ (∀ r10 : Option Nat, r10 = sR σ4 103 a8 0 → (∃ a11 : Nat, r10 = some a11 ∧ (wL_size a11 (fun (x15 : Int32) (σ13 : St) => ((512 : Int32) ≤ x15 → (post σ13)) ∧ (¬ (512 : Int32) ≤ x15 → (sK σ13 a1 = 4 ∧ (∀ r18 : Option Nat, r18 = sR σ13 206 a1 0 → (∃ a19 : Nat, r18 = some a19 ∧ (sK σ13 a19 = 2 ∧ (∀ r21 : Option Nat, r21 = sR σ13 103 a19 0 → (∃ a22 : Nat, r21 = some a22 ∧ (wL_add a22 (some a1) (fun (x26 : Int32) (σ24 : St) => post σ24) σ13))))))))) σ4))))))) σ0)))
set_option maxHeartbeats 4000000 in
set_option maxRecDepth 100000 in
theorem bX7_sendBack {p : Program} {l : Launch} {e : Env} {s : State} {m : MethodId} {args : Array Value} {below : List Frame} {meth : Method} {c : Code} {Γ : rGam} {o : Nat} {post : St → Prop} (F : Fx Γ p s m meth c args cX7_sendBack 2 RX7 wsX7_sendBack none) {H : Heap} {locs : List Loc} {ls : Array Slot} {cells slots : Nat} {p1 : Option Nat} {σ0 : St} (h : wX7_sendBack o p1 post σ0) (hR : Rep Γ σ0 H) (hS : va_S (rA Γ) s.heap H locs) (hl : lv_has ls 2 [(0, .ref o), (1, va_rf p1)]) (hc : cells + 1 ≤ 1 ∧ slots + 128 ≤ 128) : W p l e rmX7_sendBack s m args below meth c H locs cells slots (rQv Γ below post args s 1 128) (F0 m 0 ls []) := by
  have hx := F.1.1
  have hb := F.1.2.1
  unfold wX7_sendBack at h
  refine lv_aload_n hx hb dX7_sendBack_0 rfl (lv_at hl 0 rfl) ?_
  refine s_aload_n hx hb dX7_sendBack_1 rfl (lv_at hl 1 rfl) ?_
  obtain ⟨a1, ea1, h⟩ := h
  subst ea1
  obtain ⟨k2, h⟩ := h
  refine s_getI F hR k2 (by decide) (C := RX3) (T := TX3) (N := 9) rfl nX7_sendBack_X3 8 (by decide) mX7_sendBack_0 (f := 208) rfl dX7_sendBack_2 ?_
  obtain ⟨k3, h⟩ := h
  refine s_cv hS (k_runV F hR hS hl 1 [.int (sI σ0 208 a1 0)] (kX7_countRefusal l Γ o (sI σ0 208 a1 0) _ _ h) gX7_sendBack_X7_countRefusal rfl rfl rfl (by decide +kernel) ⟨Nat.le_of_ble_eq_true rfl, Nat.le_of_ble_eq_true rfl⟩ (s_recv F hR k3 (by decide) (C := RX7) (T := TX7) (N := 7) rfl) rfl (Nat.le_of_ble_eq_true rfl) dX7_sendBack_5 ⟨by show _ ≤ 1; omega, by show _ ≤ 128; omega⟩) (fun σ4 H locs h5 hR hS => ?_)
  refine lv_aload_n hx hb dX7_sendBack_8 rfl (lv_at hl 1 rfl) ?_
  obtain ⟨k6, h5⟩ := h5
  refine s_getR F hR k6 (by decide) (C := RX3) (T := TX3) (N := 9) rfl nX7_sendBack_X3 6 (by decide) mX7_sendBack_1 (f := 206) rfl dX7_sendBack_9 (fun r7 er7 => ?_)
  replace h5 := h5 r7 er7
  obtain ⟨a8, ea8, h5⟩ := h5
  subst ea8
  obtain ⟨k9, h5⟩ := h5
  refine s_getR F hR k9 (by decide) (C := RX1) (T := TX1) (N := 6) rfl nX7_sendBack_X1 3 (by decide) mX7_sendBack_2 (f := 103) rfl dX7_sendBack_12 (fun r10 er10 => ?_)
  replace h5 := h5 r10 er10
  obtain ⟨a11, ea11, h5⟩ := h5
  subst ea11
  have k12 := h5.1
  refine s_ci hS (k_runV F hR hS hl 0 [] (kL_size l Γ a11 _ _ h5) gX7_sendBack_Jx4a65c_size_8abf5 rfl rfl rfl (by decide +kernel) ⟨Nat.le_of_ble_eq_true rfl, Nat.le_of_ble_eq_true rfl⟩ (s_recv F hR rfl (by omega) (C := RJx4a65c) (T := TJx4a65c) (N := 3) (by unfold rCi; rw [if_neg (by omega)]; rfl)) rfl (Nat.le_of_ble_eq_true rfl) dX7_sendBack_15 ⟨by show _ ≤ 1; omega, by show _ ≤ 128; omega⟩) (fun x15 σ13 H locs h14 hR hS => ?_)
  refine lv_sipush (v := 512) hx hb dX7_sendBack_18 (by decide) ?_
  refine lv_icmp_ge (tgt := 36) hx hb dX7_sendBack_21 (by decide) (fun c16 => ?_) (fun c16 => ?_)
  · replace h14 := h14.1 c16
    exact s_vret F hR hS h14 (by omega) dX7_sendBack_36
  · replace h14 := h14.2 c16
    refine lv_aload_n hx hb dX7_sendBack_24 rfl (lv_at hl 1 rfl) ?_
    obtain ⟨k17, h14⟩ := h14
    refine s_getR F hR k17 (by decide) (C := RX3) (T := TX3) (N := 9) rfl nX7_sendBack_X3 6 (by decide) mX7_sendBack_1 (f := 206) rfl dX7_sendBack_25 (fun r18 er18 => ?_)
    replace h14 := h14 r18 er18
    obtain ⟨a19, ea19, h14⟩ := h14
    subst ea19
    obtain ⟨k20, h14⟩ := h14
    refine s_getR F hR k20 (by decide) (C := RX1) (T := TX1) (N := 6) rfl nX7_sendBack_X1 3 (by decide) mX7_sendBack_2 (f := 103) rfl dX7_sendBack_28 (fun r21 er21 => ?_)
    replace h14 := h14 r21 er21
    refine lv_aload_n hx hb dX7_sendBack_31 rfl (lv_at hl 1 rfl) ?_
    obtain ⟨a22, ea22, h14⟩ := h14
    subst ea22
    have k23 := h14.1
    refine s_ci hS (k_runV F hR hS hl 1 [.ref a1] (kL_add l Γ a22 (some a1) _ _ h14) gX7_sendBack_Jx4a65c_add_9ea2d rfl rfl rfl (by decide +kernel) ⟨Nat.le_of_ble_eq_true rfl, Nat.le_of_ble_eq_true rfl⟩ (s_recv F hR rfl (by omega) (C := RJx4a65c) (T := TJx4a65c) (N := 3) (by unfold rCi; rw [if_neg (by omega)]; rfl)) rfl (Nat.le_of_ble_eq_true rfl) dX7_sendBack_32 ⟨by show _ ≤ 1; omega, by show _ ≤ 128; omega⟩) (fun x26 σ24 H locs h25 hR hS => ?_)
    refine lv_pop hx hb dX7_sendBack_35 rfl ?_
    exact s_vret F hR hS h25 (by omega) dX7_sendBack_36
set_option maxHeartbeats 4000000 in
set_option maxRecDepth 100000 in
theorem kX7_sendBack (l : Launch) (Γ : rGam) (o : Nat) (p1 : Option Nat) (post : St → Prop) (σ0 : St) (h : wX7_sendBack o p1 post σ0) : Met l yX7_sendBack wsX7_sendBack rmX7_sendBack (rPc Γ vwCl [.ref o, va_rf p1] (Rep Γ σ0)) (va_Qv post (fun σ' t => Rep Γ σ' t.heap) (rA Γ)) 1 128 (rA Γ) := by
  rcases p1 with _ | p1v
  · refine Met.ofW (cc := cX7_sendBack) (maxL := 2) (ret := none) (by decide) rfl ?_
    intro p e s m args below meth c s₁ B hml hv
    obtain ⟨rfl, hR, hE⟩ := hv
    have F : Fx Γ p s m meth c _ cX7_sendBack 2 RX7 wsX7_sendBack none := ⟨⟨B.exec, B.bytes, hml, findClass_of_methodNamed B.named, atoms_spec (ws := wsX7_sendBack) B.pre⟩, hE, B.notSynchronized, B.returns⟩
    have hl := lv_entry ([.ref o, va_rf none]) (n := 2) (Nat.le_of_ble_eq_true rfl)
    rw [lg_entry_eq]
    generalize (lg_sl ([.ref o, va_rf none]) ++ List.replicate (2 - (lg_sl ([.ref o, va_rf none])).length) Slot.unset).toArray = ls at hl ⊢
    have hl : lv_has ls 2 [(0, .ref o), (1, va_rf none)] := hl
    exact bX7_sendBack F h hR va_S.rf hl ⟨by show _ + _ ≤ _; omega, by show _ + _ ≤ _; omega⟩
  · refine Met.ofW (cc := cX7_sendBack) (maxL := 2) (ret := none) (by decide) rfl ?_
    intro p e s m args below meth c s₁ B hml hv
    obtain ⟨rfl, hR, hE⟩ := hv
    have F : Fx Γ p s m meth c _ cX7_sendBack 2 RX7 wsX7_sendBack none := ⟨⟨B.exec, B.bytes, hml, findClass_of_methodNamed B.named, atoms_spec (ws := wsX7_sendBack) B.pre⟩, hE, B.notSynchronized, B.returns⟩
    have hl := lv_entry ([.ref o, va_rf (some p1v)]) (n := 2) (Nat.le_of_ble_eq_true rfl)
    rw [lg_entry_eq]
    generalize (lg_sl ([.ref o, va_rf (some p1v)]) ++ List.replicate (2 - (lg_sl ([.ref o, va_rf (some p1v)])).length) Slot.unset).toArray = ls at hl ⊢
    have hl : lv_has ls 2 [(0, .ref o), (1, va_rf (some p1v))] := hl
    exact bX7_sendBack F h hR va_S.rf hl ⟨by show _ + _ ≤ _; omega, by show _ + _ ≤ _; omega⟩
/-! X7_reasonToSendBack -/
theorem mX7_reasonToSendBack_0 : Cond.fieldLink RX7 170 "ClearingFiles$Entry" "account" "I" ∈ wsX7_reasonToSendBack := by decide +kernel
theorem mX7_reasonToSendBack_1 : Cond.fieldLink RX7 75 "ClearingFiles$Account" "isShut" "Z" ∈ wsX7_reasonToSendBack := by decide +kernel
theorem mX7_reasonToSendBack_2 : Cond.fieldLink RX7 157 "ClearingFiles$Entry" "code" "I" ∈ wsX7_reasonToSendBack := by decide +kernel
theorem mX7_reasonToSendBack_3 : Cond.fieldLink RX7 207 "ClearingFiles$Account" "balance" "J" ∈ wsX7_reasonToSendBack := by decide +kernel
theorem mX7_reasonToSendBack_4 : Cond.fieldLink RX7 173 "ClearingFiles$Entry" "amount" "I" ∈ wsX7_reasonToSendBack := by decide +kernel
theorem nX7_reasonToSendBack_X3 : ∀ w ∈ u_ws RX3 TX3 9, w ∈ wsX7_reasonToSendBack := fun _ h => List.mem_cons_of_mem _ (List.mem_append_left _ (List.mem_append_right _ h))
theorem nX7_reasonToSendBack_X0 : ∀ w ∈ u_ws RX0 TX0 4, w ∈ wsX7_reasonToSendBack := fun _ h => List.mem_cons_of_mem _ (List.mem_append_right _ h)
abbrev rmX7_reasonToSendBack : Room := { frames := 1, cells := 0, slots := 0, locals := 24 }
set_option maxRecDepth 100000 in
def wX7_reasonToSendBack (p1 : Option Nat) (p2 : Option Nat) (post : Int32 → St → Prop) (σ0 : St) : Prop :=
  ∃ a1 : Nat, p1 = some a1 ∧ (sK σ0 a1 = 4 ∧ (wX7_isRight (sI σ0 202 a1 0) (6 : Int32) (fun (x5 : Int32) (σ3 : St) => (x5 = 0 → (post (4 : Int32) σ3)) ∧ (¬ x5 = 0 → ((p2 = none → (post (3 : Int32) σ3)) ∧ (¬ p2 = none → (∃ a8 : Nat, p2 = some a8 ∧ (sK σ3 a8 = 1 ∧ (((sI σ3 53 a8 0) = 0 → (sK σ3 a1 = 4 ∧ (((sI σ3 200 a1 0) = (7 : Int32) → (sK σ3 a8 = 1 ∧ (sK σ3 a1 = 4 ∧ ((0 ≤ (lg_cmp (sJ σ3 52 a8 0) ((sI σ3 203 a1 0).toInt64)) → (post (0 : Int32) σ3)) ∧ (¬ 0 ≤ (lg_cmp (sJ σ3 52 a8 0) ((sI σ3 203 a1 0).toInt64)) → (post (1 : Int32) σ3)))))) ∧ (¬ (sI σ3 200 a1 0) = (7 : Int32) → (post (0 : Int32) σ3))))) ∧ (¬ (sI σ3 53 a8 0) = 0 → (post (2 : Int32) σ3))))))))) σ0))
set_option maxHeartbeats 4000000 in
set_option maxRecDepth 100000 in
theorem bX7_reasonToSendBack {p : Program} {l : Launch} {e : Env} {s : State} {m : MethodId} {args : Array Value} {below : List Frame} {meth : Method} {c : Code} {Γ : rGam} {post : Int32 → St → Prop} (F : Fx Γ p s m meth c args cX7_reasonToSendBack 2 RX7 wsX7_reasonToSendBack (some .int)) {H : Heap} {locs : List Loc} {ls : Array Slot} {cells slots : Nat} {p1 : Option Nat} {p2 : Option Nat} {σ0 : St} (h : wX7_reasonToSendBack p1 p2 post σ0) (hR : Rep Γ σ0 H) (hS : va_S (rA Γ) s.heap H locs) (hl : lv_has ls 2 [(0, va_rf p1), (1, va_rf p2)]) (hc : cells ≤ 0 ∧ slots ≤ 0) : W p l e rmX7_reasonToSendBack s m args below meth c H locs cells slots (rQi Γ below post args s 0 0) (F0 m 0 ls []) := by
  have hx := F.1.1
  have hb := F.1.2.1
  unfold wX7_reasonToSendBack at h
  refine s_aload_n hx hb dX7_reasonToSendBack_0 rfl (lv_at hl 0 rfl) ?_
  obtain ⟨a1, ea1, h⟩ := h
  subst ea1
  obtain ⟨k2, h⟩ := h
  refine s_getI F hR k2 (by decide) (C := RX3) (T := TX3) (N := 9) rfl nX7_reasonToSendBack_X3 2 (by decide) mX7_reasonToSendBack_0 (f := 202) rfl dX7_reasonToSendBack_1 ?_
  refine lv_bipush (v := 6) hx hb dX7_reasonToSendBack_4 (by decide) ?_
  refine s_ci hS (k_runS F hR hS hl 2 [.int (sI σ0 202 a1 0), .int (6 : Int32)] (kX7_isRight l Γ (sI σ0 202 a1 0) (6 : Int32) _ _ h) gX7_reasonToSendBack_X7_isRight rfl rfl rfl (by decide +kernel) ⟨Nat.le_of_ble_eq_true rfl, Nat.le_of_ble_eq_true rfl⟩ rfl (Nat.le_of_ble_eq_true rfl) dX7_reasonToSendBack_6 ⟨by show _ ≤ 0; omega, by show _ ≤ 0; omega⟩) (fun x5 σ3 H locs h4 hR hS => ?_)
  refine lv_if_ne (tgt := 14) hx hb dX7_reasonToSendBack_9 (by decide) (fun c6 => ?_) (fun c6 => ?_)
  · replace h4 := h4.2 c6
    refine s_aload_n hx hb dX7_reasonToSendBack_14 rfl (lv_at hl 1 rfl) ?_
    refine s_ifnonnull (r := p2) hx hb dX7_reasonToSendBack_15 (tgt := 20) (by decide) (fun c7 => ?_) (fun c7 => ?_)
    · replace h4 := h4.2 c7
      refine s_aload_n hx hb dX7_reasonToSendBack_20 rfl (lv_at hl 1 rfl) ?_
      obtain ⟨a8, ea8, h4⟩ := h4
      subst ea8
      obtain ⟨k9, h4⟩ := h4
      refine s_getI F hR k9 (by decide) (C := RX0) (T := TX0) (N := 4) rfl nX7_reasonToSendBack_X0 3 (by decide) mX7_reasonToSendBack_1 (f := 53) rfl dX7_reasonToSendBack_21 ?_
      refine lv_if_eq (tgt := 29) hx hb dX7_reasonToSendBack_24 (by decide) (fun c10 => ?_) (fun c10 => ?_)
      · replace h4 := h4.1 c10
        refine lv_aload_n hx hb dX7_reasonToSendBack_29 rfl (lv_at hl 0 rfl) ?_
        obtain ⟨k11, h4⟩ := h4
        refine s_getI F hR k11 (by decide) (C := RX3) (T := TX3) (N := 9) rfl nX7_reasonToSendBack_X3 0 (by decide) mX7_reasonToSendBack_2 (f := 200) rfl dX7_reasonToSendBack_30 ?_
        refine lv_bipush (v := 7) hx hb dX7_reasonToSendBack_33 (by decide) ?_
        refine lv_icmp_ne (tgt := 55) hx hb dX7_reasonToSendBack_35 (by decide) (fun c12 => ?_) (fun c12 => ?_)
        · replace h4 := h4.2 c12
          refine lv_iconst (v := 0) hx hb dX7_reasonToSendBack_55 (by decide) ?_
          exact s_iret F hR hS h4 hc dX7_reasonToSendBack_56
        · replace h4 := h4.1 c12
          refine lv_aload_n hx hb dX7_reasonToSendBack_38 rfl (lv_at hl 1 rfl) ?_
          obtain ⟨k13, h4⟩ := h4
          refine s_getJ F hR k13 (by decide) (C := RX0) (T := TX0) (N := 4) rfl nX7_reasonToSendBack_X0 2 (by decide) mX7_reasonToSendBack_3 (f := 52) rfl dX7_reasonToSendBack_39 ?_
          refine lv_aload_n hx hb dX7_reasonToSendBack_42 rfl (lv_at hl 0 rfl) ?_
          obtain ⟨k14, h4⟩ := h4
          refine s_getI F hR k14 (by decide) (C := RX3) (T := TX3) (N := 9) rfl nX7_reasonToSendBack_X3 3 (by decide) mX7_reasonToSendBack_4 (f := 203) rfl dX7_reasonToSendBack_43 ?_
          refine lv_i2l hx hb dX7_reasonToSendBack_46 rfl ?_
          refine W.lcmp hx hb dX7_reasonToSendBack_47 ?_
          refine lv_if_ge (tgt := 55) hx hb dX7_reasonToSendBack_48 (by decide) (fun c15 => ?_) (fun c15 => ?_)
          · replace h4 := h4.1 c15
            refine lv_iconst (v := 0) hx hb dX7_reasonToSendBack_55 (by decide) ?_
            exact s_iret F hR hS h4 hc dX7_reasonToSendBack_56
          · replace h4 := h4.2 c15
            refine lv_iconst (v := 1) hx hb dX7_reasonToSendBack_51 (by decide) ?_
            refine lv_goto (tgt := 56) hx hb dX7_reasonToSendBack_52 (by decide) ?_
            exact s_iret F hR hS h4 hc dX7_reasonToSendBack_56
      · replace h4 := h4.2 c10
        refine lv_iconst (v := 2) hx hb dX7_reasonToSendBack_27 (by decide) ?_
        exact s_iret F hR hS h4 hc dX7_reasonToSendBack_28
    · replace h4 := h4.1 c7
      refine lv_iconst (v := 3) hx hb dX7_reasonToSendBack_18 (by decide) ?_
      exact s_iret F hR hS h4 hc dX7_reasonToSendBack_19
  · replace h4 := h4.1 c6
    refine lv_iconst (v := 4) hx hb dX7_reasonToSendBack_12 (by decide) ?_
    exact s_iret F hR hS h4 hc dX7_reasonToSendBack_13
set_option maxHeartbeats 4000000 in
set_option maxRecDepth 100000 in
theorem kX7_reasonToSendBack (l : Launch) (Γ : rGam) (p1 : Option Nat) (p2 : Option Nat) (post : Int32 → St → Prop) (σ0 : St) (h : wX7_reasonToSendBack p1 p2 post σ0) : Met l yX7_reasonToSendBack wsX7_reasonToSendBack rmX7_reasonToSendBack (rPc Γ vwCl [va_rf p1, va_rf p2] (Rep Γ σ0)) (va_Qi post (fun σ' t => Rep Γ σ' t.heap) (rA Γ)) 0 0 (rA Γ) := by
  rcases p1 with _ | p1v
  · rcases p2 with _ | p2v
    · refine Met.ofW (cc := cX7_reasonToSendBack) (maxL := 2) (ret := (some .int)) (by decide) rfl ?_
      intro p e s m args below meth c s₁ B hml hv
      obtain ⟨rfl, hR, hE⟩ := hv
      have F : Fx Γ p s m meth c _ cX7_reasonToSendBack 2 RX7 wsX7_reasonToSendBack (some .int) := ⟨⟨B.exec, B.bytes, hml, findClass_of_methodNamed B.named, atoms_spec (ws := wsX7_reasonToSendBack) B.pre⟩, hE, B.notSynchronized, B.returns⟩
      have hl := lv_entry ([va_rf none, va_rf none]) (n := 2) (Nat.le_of_ble_eq_true rfl)
      rw [lg_entry_eq]
      generalize (lg_sl ([va_rf none, va_rf none]) ++ List.replicate (2 - (lg_sl ([va_rf none, va_rf none])).length) Slot.unset).toArray = ls at hl ⊢
      have hl : lv_has ls 2 [(0, va_rf none), (1, va_rf none)] := hl
      exact bX7_reasonToSendBack F h hR va_S.rf hl ⟨Nat.le_refl 0, Nat.le_refl 0⟩
    · refine Met.ofW (cc := cX7_reasonToSendBack) (maxL := 2) (ret := (some .int)) (by decide) rfl ?_
      intro p e s m args below meth c s₁ B hml hv
      obtain ⟨rfl, hR, hE⟩ := hv
      have F : Fx Γ p s m meth c _ cX7_reasonToSendBack 2 RX7 wsX7_reasonToSendBack (some .int) := ⟨⟨B.exec, B.bytes, hml, findClass_of_methodNamed B.named, atoms_spec (ws := wsX7_reasonToSendBack) B.pre⟩, hE, B.notSynchronized, B.returns⟩
      have hl := lv_entry ([va_rf none, va_rf (some p2v)]) (n := 2) (Nat.le_of_ble_eq_true rfl)
      rw [lg_entry_eq]
      generalize (lg_sl ([va_rf none, va_rf (some p2v)]) ++ List.replicate (2 - (lg_sl ([va_rf none, va_rf (some p2v)])).length) Slot.unset).toArray = ls at hl ⊢
      have hl : lv_has ls 2 [(0, va_rf none), (1, va_rf (some p2v))] := hl
      exact bX7_reasonToSendBack F h hR va_S.rf hl ⟨Nat.le_refl 0, Nat.le_refl 0⟩
  · rcases p2 with _ | p2v
    · refine Met.ofW (cc := cX7_reasonToSendBack) (maxL := 2) (ret := (some .int)) (by decide) rfl ?_
      intro p e s m args below meth c s₁ B hml hv
      obtain ⟨rfl, hR, hE⟩ := hv
      have F : Fx Γ p s m meth c _ cX7_reasonToSendBack 2 RX7 wsX7_reasonToSendBack (some .int) := ⟨⟨B.exec, B.bytes, hml, findClass_of_methodNamed B.named, atoms_spec (ws := wsX7_reasonToSendBack) B.pre⟩, hE, B.notSynchronized, B.returns⟩
      have hl := lv_entry ([va_rf (some p1v), va_rf none]) (n := 2) (Nat.le_of_ble_eq_true rfl)
      rw [lg_entry_eq]
      generalize (lg_sl ([va_rf (some p1v), va_rf none]) ++ List.replicate (2 - (lg_sl ([va_rf (some p1v), va_rf none])).length) Slot.unset).toArray = ls at hl ⊢
      have hl : lv_has ls 2 [(0, va_rf (some p1v)), (1, va_rf none)] := hl
      exact bX7_reasonToSendBack F h hR va_S.rf hl ⟨Nat.le_refl 0, Nat.le_refl 0⟩
    · refine Met.ofW (cc := cX7_reasonToSendBack) (maxL := 2) (ret := (some .int)) (by decide) rfl ?_
      intro p e s m args below meth c s₁ B hml hv
      obtain ⟨rfl, hR, hE⟩ := hv
      have F : Fx Γ p s m meth c _ cX7_reasonToSendBack 2 RX7 wsX7_reasonToSendBack (some .int) := ⟨⟨B.exec, B.bytes, hml, findClass_of_methodNamed B.named, atoms_spec (ws := wsX7_reasonToSendBack) B.pre⟩, hE, B.notSynchronized, B.returns⟩
      have hl := lv_entry ([va_rf (some p1v), va_rf (some p2v)]) (n := 2) (Nat.le_of_ble_eq_true rfl)
      rw [lg_entry_eq]
      generalize (lg_sl ([va_rf (some p1v), va_rf (some p2v)]) ++ List.replicate (2 - (lg_sl ([va_rf (some p1v), va_rf (some p2v)])).length) Slot.unset).toArray = ls at hl ⊢
      have hl : lv_has ls 2 [(0, va_rf (some p1v)), (1, va_rf (some p2v))] := hl
      exact bX7_reasonToSendBack F h hR va_S.rf hl ⟨Nat.le_refl 0, Nat.le_refl 0⟩
/-! X7_postOrSendBack -/
theorem mX7_postOrSendBack_0 : Cond.fieldLink RX7 160 "ClearingFiles$Entry" "receiver" "LClearingFiles$Bank;" ∈ wsX7_postOrSendBack := by decide +kernel
theorem mX7_postOrSendBack_1 : Cond.fieldLink RX7 170 "ClearingFiles$Entry" "account" "I" ∈ wsX7_postOrSendBack := by decide +kernel
theorem mX7_postOrSendBack_2 : Cond.fieldLink RX7 179 "ClearingFiles$Entry" "reason" "I" ∈ wsX7_postOrSendBack := by decide +kernel
theorem mX7_postOrSendBack_3 : Cond.fieldLink RX7 207 "ClearingFiles$Account" "balance" "J" ∈ wsX7_postOrSendBack := by decide +kernel
theorem mX7_postOrSendBack_4 : Cond.fieldLink RX7 157 "ClearingFiles$Entry" "code" "I" ∈ wsX7_postOrSendBack := by decide +kernel
theorem mX7_postOrSendBack_5 : Cond.fieldLink RX7 173 "ClearingFiles$Entry" "amount" "I" ∈ wsX7_postOrSendBack := by decide +kernel
theorem nX7_postOrSendBack_X3 : ∀ w ∈ u_ws RX3 TX3 9, w ∈ wsX7_postOrSendBack := fun _ h => List.mem_cons_of_mem _ (List.mem_append_left _ (List.mem_append_left _ (List.mem_append_left _ (List.mem_append_left _ (List.mem_append_right _ h)))))
theorem nX7_postOrSendBack_X0 : ∀ w ∈ u_ws RX0 TX0 4, w ∈ wsX7_postOrSendBack := fun _ h => List.mem_cons_of_mem _ (List.mem_append_left _ (List.mem_append_left _ (List.mem_append_left _ (List.mem_append_right _ h))))
abbrev rmX7_postOrSendBack : Room := { frames := 8, cells := 1, slots := 128, locals := 242 }
set_option maxRecDepth 100000 in
def wX7_postOrSendBack_33 (o : Nat) (post : Int32 → St → Prop) (r1 : Option Nat) (σ0 : St) : Prop :=
  sK σ0 o = 8 ∧ (wX7_sendBack o r1 (fun (σ18 : St) => post (0 : Int32) σ18) σ0)
set_option maxHeartbeats 4000000 in
set_option maxRecDepth 100000 in
theorem bX7_postOrSendBack_33 {p : Program} {l : Launch} {e : Env} {s : State} {m : MethodId} {args : Array Value} {below : List Frame} {meth : Method} {c : Code} {Γ : rGam} {o : Nat} {post : Int32 → St → Prop} (F : Fx Γ p s m meth c args cX7_postOrSendBack 3 RX7 wsX7_postOrSendBack (some .boolean)) {H : Heap} {locs : List Loc} {ls : Array Slot} {cells slots : Nat} {r1 : Option Nat} {σ0 : St} (h : wX7_postOrSendBack_33 o post r1 σ0) (hR : Rep Γ σ0 H) (hS : va_S (rA Γ) s.heap H locs) (hl : lv_has ls 3 [(0, .ref o), (1, va_rf r1)]) (hc : cells + 1 ≤ 1 ∧ slots + 128 ≤ 128) : W p l e rmX7_postOrSendBack s m args below meth c H locs cells slots (rQi Γ below post args s 1 128) (F0 m 33 ls []) := by
  have hx := F.1.1
  have hb := F.1.2.1
  unfold wX7_postOrSendBack_33 at h
  refine lv_aload_n hx hb dX7_postOrSendBack_33 rfl (lv_at hl 0 rfl) ?_
  refine s_aload_n hx hb dX7_postOrSendBack_34 rfl (lv_at hl 1 rfl) ?_
  obtain ⟨k17, h⟩ := h
  refine s_cv hS (k_runV F hR hS hl 1 [va_rf r1] (kX7_sendBack l Γ o r1 _ _ h) gX7_postOrSendBack_X7_sendBack rfl rfl rfl (by decide +kernel) ⟨Nat.le_of_ble_eq_true rfl, Nat.le_of_ble_eq_true rfl⟩ (s_recv F hR k17 (by decide) (C := RX7) (T := TX7) (N := 7) rfl) rfl (Nat.le_of_ble_eq_true rfl) dX7_postOrSendBack_35 ⟨by show _ ≤ 1; omega, by show _ ≤ 128; omega⟩) (fun σ18 H locs h19 hR hS => ?_)
  refine lv_iconst (v := 0) hx hb dX7_postOrSendBack_38 (by decide) ?_
  exact s_zret F hR hS (by unfold isB; decide) h19 (by omega) dX7_postOrSendBack_39

set_option maxRecDepth 100000 in
def wX7_postOrSendBack_67 (o : Nat) (post : Int32 → St → Prop) (q0 : Option Nat) (y1 : Int64) (y2 : Int64) (σ0 : St) : Prop :=
  ∃ a26 : Nat, q0 = some a26 ∧ (sK σ0 a26 = 1 ∧ (∀ σ28 : St, σ28 = uJ σ0 52 a26 0 (y1 + y2) → (post (1 : Int32) σ28)))
set_option maxHeartbeats 4000000 in
set_option maxRecDepth 100000 in
theorem bX7_postOrSendBack_67 {p : Program} {l : Launch} {e : Env} {s : State} {m : MethodId} {args : Array Value} {below : List Frame} {meth : Method} {c : Code} {Γ : rGam} {o : Nat} {post : Int32 → St → Prop} (F : Fx Γ p s m meth c args cX7_postOrSendBack 3 RX7 wsX7_postOrSendBack (some .boolean)) {H : Heap} {locs : List Loc} {ls : Array Slot} {cells slots : Nat} {q0 : Option Nat} {y1 : Int64} {y2 : Int64} {σ0 : St} (h : wX7_postOrSendBack_67 o post q0 y1 y2 σ0) (hR : Rep Γ σ0 H) (hS : va_S (rA Γ) s.heap H locs) (hl : lv_has ls 3 [(0, .ref o)]) (hc : cells + 0 ≤ 1 ∧ slots + 0 ≤ 128) : W p l e rmX7_postOrSendBack s m args below meth c H locs cells slots (rQi Γ below post args s 1 128) (F0 m 67 ls [.long y2, .long y1, va_rf q0]) := by
  have hx := F.1.1
  have hb := F.1.2.1
  unfold wX7_postOrSendBack_67 at h
  refine lv_ladd hx hb dX7_postOrSendBack_67 ?_
  obtain ⟨a26, ea26, h⟩ := h
  subst ea26
  obtain ⟨k27, h⟩ := h
  refine s_putJ (v := (y1 + y2)) F hR hS k27 (by decide) (C := RX0) (T := TX0) (N := 4) rfl nX7_postOrSendBack_X0 tyX0 tyX0_ok nmX0 2 (by decide) mX7_postOrSendBack_3 (Or.inl rfl) rfl rfl (f := 52) rfl rnd_1 dX7_postOrSendBack_68 (fun σ28 eσ28 H locs hR hS => ?_)
  replace h := h σ28 eσ28
  refine lv_iconst (v := 1) hx hb dX7_postOrSendBack_71 (by decide) ?_
  exact s_zret F hR hS (by unfold isB; decide) h (by omega) dX7_postOrSendBack_72

set_option maxRecDepth 100000 in
def wX7_postOrSendBack (o : Nat) (p1 : Option Nat) (post : Int32 → St → Prop) (σ0 : St) : Prop :=
  ∃ a1 : Nat, p1 = some a1 ∧ (sK σ0 a1 = 4 ∧ (∀ r3 : Option Nat, r3 = sR σ0 207 a1 0 → (sK σ0 a1 = 4 ∧ (sK σ0 o = 8 ∧ (wX7_accountOf o r3 (sI σ0 202 a1 0) (fun (r8 : Option Nat) (σ6 : St) => wX7_reasonToSendBack (some a1) r8 (fun (x12 : Int32) (σ10 : St) => sK σ10 a1 = 4 ∧ (∀ σ14 : St, σ14 = uI σ10 208 a1 0 x12 → (sK σ14 a1 = 4 ∧ (((sI σ14 208 a1 0) = 0 → ((r8 = none → (wX7_postOrSendBack_33 o post (some a1) σ14)) ∧ (¬ r8 = none → (∃ a21 : Nat, r8 = some a21 ∧ (sK σ14 a21 = 1 ∧ (sK σ14 a1 = 4 ∧ (((sI σ14 200 a1 0) = (2 : Int32) → (sK σ14 a1 = 4 ∧ (wX7_postOrSendBack_67 o post (some a21) (sJ σ14 52 a21 0) ((sI σ14 203 a1 0).toInt64) σ14))) ∧ (¬ (sI σ14 200 a1 0) = (2 : Int32) → (sK σ14 a1 = 4 ∧ (wX7_postOrSendBack_67 o post (some a21) (sJ σ14 52 a21 0) ((-(sI σ14 203 a1 0)).toInt64) σ14)))))))))) ∧ (¬ (sI σ14 208 a1 0) = 0 → (wX7_postOrSendBack_33 o post (some a1) σ14)))))) σ6) σ0)))))
set_option maxHeartbeats 4000000 in
set_option maxRecDepth 100000 in
theorem bX7_postOrSendBack {p : Program} {l : Launch} {e : Env} {s : State} {m : MethodId} {args : Array Value} {below : List Frame} {meth : Method} {c : Code} {Γ : rGam} {o : Nat} {post : Int32 → St → Prop} (F : Fx Γ p s m meth c args cX7_postOrSendBack 3 RX7 wsX7_postOrSendBack (some .boolean)) {H : Heap} {locs : List Loc} {ls : Array Slot} {cells slots : Nat} {p1 : Option Nat} {σ0 : St} (h : wX7_postOrSendBack o p1 post σ0) (hR : Rep Γ σ0 H) (hS : va_S (rA Γ) s.heap H locs) (hl : lv_has ls 3 [(0, .ref o), (1, va_rf p1)]) (hc : cells + 1 ≤ 1 ∧ slots + 128 ≤ 128) : W p l e rmX7_postOrSendBack s m args below meth c H locs cells slots (rQi Γ below post args s 1 128) (F0 m 0 ls []) := by
  have hx := F.1.1
  have hb := F.1.2.1
  unfold wX7_postOrSendBack at h
  refine lv_aload_n hx hb dX7_postOrSendBack_0 rfl (lv_at hl 0 rfl) ?_
  refine s_aload_n hx hb dX7_postOrSendBack_1 rfl (lv_at hl 1 rfl) ?_
  obtain ⟨a1, ea1, h⟩ := h
  subst ea1
  obtain ⟨k2, h⟩ := h
  refine s_getR F hR k2 (by decide) (C := RX3) (T := TX3) (N := 9) rfl nX7_postOrSendBack_X3 7 (by decide) mX7_postOrSendBack_0 (f := 207) rfl dX7_postOrSendBack_2 (fun r3 er3 => ?_)
  replace h := h r3 er3
  refine lv_aload_n hx hb dX7_postOrSendBack_5 rfl (lv_at hl 1 rfl) ?_
  obtain ⟨k4, h⟩ := h
  refine s_getI F hR k4 (by decide) (C := RX3) (T := TX3) (N := 9) rfl nX7_postOrSendBack_X3 2 (by decide) mX7_postOrSendBack_1 (f := 202) rfl dX7_postOrSendBack_6 ?_
  obtain ⟨k5, h⟩ := h
  refine s_cq hS (k_runV F hR hS hl 2 [va_rf r3, .int (sI σ0 202 a1 0)] (kX7_accountOf l Γ o r3 (sI σ0 202 a1 0) _ _ h) gX7_postOrSendBack_X7_accountOf rfl rfl rfl (by decide +kernel) ⟨Nat.le_of_ble_eq_true rfl, Nat.le_of_ble_eq_true rfl⟩ (s_recv F hR k5 (by decide) (C := RX7) (T := TX7) (N := 7) rfl) rfl (Nat.le_of_ble_eq_true rfl) dX7_postOrSendBack_9 ⟨by show _ ≤ 1; omega, by show _ ≤ 128; omega⟩) (fun r8 σ6 H locs h7 hR hS => ?_)
  refine s_astore_n (r := r8) (lk := [(1, .ref a1)]) (lv' := [(2, va_rf r8), (0, .ref o), (1, .ref a1)]) hx hb dX7_postOrSendBack_12 rfl hl (by decide) rfl (lk_1 rfl) rfl (fun ls hl9 => ?_)
  refine lv_aload_n hx hb dX7_postOrSendBack_13 rfl (lv_at hl9 2 rfl) ?_
  refine lv_aload_n hx hb dX7_postOrSendBack_14 rfl (lv_at hl9 2 rfl) ?_
  refine s_aload_n hx hb dX7_postOrSendBack_15 rfl (lv_at hl9 0 rfl) ?_
  refine s_ci hS (k_runS F hR hS hl9 2 [.ref a1, va_rf r8] (kX7_reasonToSendBack l Γ (some a1) r8 _ _ h7) gX7_postOrSendBack_X7_reasonToSendBack rfl rfl rfl (by decide +kernel) ⟨Nat.le_of_ble_eq_true rfl, Nat.le_of_ble_eq_true rfl⟩ rfl (Nat.le_of_ble_eq_true rfl) dX7_postOrSendBack_16 ⟨by show _ ≤ 1; omega, by show _ ≤ 128; omega⟩) (fun x12 σ10 H locs h11 hR hS => ?_)
  obtain ⟨k13, h11⟩ := h11
  refine s_putI (v := x12) F hR hS k13 (by decide) (C := RX3) (T := TX3) (N := 9) rfl nX7_postOrSendBack_X3 tyX3 tyX3_ok nmX3 8 (by decide) mX7_postOrSendBack_2 (Or.inl rfl) rfl rfl (f := 208) rfl rnd_4 dX7_postOrSendBack_19 (fun σ14 eσ14 H locs hR hS => ?_)
  replace h11 := h11 σ14 eσ14
  refine lv_aload_n hx hb dX7_postOrSendBack_22 rfl (lv_at hl9 2 rfl) ?_
  obtain ⟨k15, h11⟩ := h11
  refine s_getI F hR k15 (by decide) (C := RX3) (T := TX3) (N := 9) rfl nX7_postOrSendBack_X3 8 (by decide) mX7_postOrSendBack_2 (f := 208) rfl dX7_postOrSendBack_23 ?_
  refine lv_if_ne (tgt := 33) hx hb dX7_postOrSendBack_26 (by decide) (fun c16 => ?_) (fun c16 => ?_)
  · replace h11 := h11.2 c16
    exact bX7_postOrSendBack_33 F h11 hR hS (lv_sub hl9 [1, 2] rfl) (by omega)
  · replace h11 := h11.1 c16
    refine s_aload_n hx hb dX7_postOrSendBack_29 rfl (lv_at hl9 0 rfl) ?_
    refine s_ifnonnull (r := r8) hx hb dX7_postOrSendBack_30 (tgt := 40) (by decide) (fun c20 => ?_) (fun c20 => ?_)
    · replace h11 := h11.2 c20
      refine s_aload_n hx hb dX7_postOrSendBack_40 rfl (lv_at hl9 0 rfl) ?_
      refine lv_dup hx hb dX7_postOrSendBack_41 (va_cat _) ?_
      obtain ⟨a21, ea21, h11⟩ := h11
      subst ea21
      obtain ⟨k22, h11⟩ := h11
      refine s_getJ F hR k22 (by decide) (C := RX0) (T := TX0) (N := 4) rfl nX7_postOrSendBack_X0 2 (by decide) mX7_postOrSendBack_3 (f := 52) rfl dX7_postOrSendBack_42 ?_
      refine lv_aload_n hx hb dX7_postOrSendBack_45 rfl (lv_at hl9 2 rfl) ?_
      obtain ⟨k23, h11⟩ := h11
      refine s_getI F hR k23 (by decide) (C := RX3) (T := TX3) (N := 9) rfl nX7_postOrSendBack_X3 0 (by decide) mX7_postOrSendBack_4 (f := 200) rfl dX7_postOrSendBack_46 ?_
      refine lv_iconst (v := 2) hx hb dX7_postOrSendBack_49 (by decide) ?_
      refine lv_icmp_ne (tgt := 61) hx hb dX7_postOrSendBack_50 (by decide) (fun c24 => ?_) (fun c24 => ?_)
      · replace h11 := h11.2 c24
        refine lv_aload_n hx hb dX7_postOrSendBack_61 rfl (lv_at hl9 2 rfl) ?_
        obtain ⟨k25, h11⟩ := h11
        refine s_getI F hR k25 (by decide) (C := RX3) (T := TX3) (N := 9) rfl nX7_postOrSendBack_X3 3 (by decide) mX7_postOrSendBack_5 (f := 203) rfl dX7_postOrSendBack_62 ?_
        refine lv_ineg hx hb dX7_postOrSendBack_65 ?_
        refine lv_i2l hx hb dX7_postOrSendBack_66 rfl ?_
        exact bX7_postOrSendBack_67 F h11 hR hS (lv_sub hl9 [1] rfl) (by omega)
      · replace h11 := h11.1 c24
        refine lv_aload_n hx hb dX7_postOrSendBack_53 rfl (lv_at hl9 2 rfl) ?_
        obtain ⟨k29, h11⟩ := h11
        refine s_getI F hR k29 (by decide) (C := RX3) (T := TX3) (N := 9) rfl nX7_postOrSendBack_X3 3 (by decide) mX7_postOrSendBack_5 (f := 203) rfl dX7_postOrSendBack_54 ?_
        refine lv_i2l hx hb dX7_postOrSendBack_57 rfl ?_
        refine lv_goto (tgt := 67) hx hb dX7_postOrSendBack_58 (by decide) ?_
        exact bX7_postOrSendBack_67 F h11 hR hS (lv_sub hl9 [1] rfl) (by omega)
    · replace h11 := h11.1 c20
      exact bX7_postOrSendBack_33 F h11 hR hS (lv_sub hl9 [1, 2] rfl) (by omega)
set_option maxHeartbeats 4000000 in
set_option maxRecDepth 100000 in
theorem kX7_postOrSendBack (l : Launch) (Γ : rGam) (o : Nat) (p1 : Option Nat) (post : Int32 → St → Prop) (σ0 : St) (h : wX7_postOrSendBack o p1 post σ0) : Met l yX7_postOrSendBack wsX7_postOrSendBack rmX7_postOrSendBack (rPc Γ vwCl [.ref o, va_rf p1] (Rep Γ σ0)) (va_Qi post (fun σ' t => Rep Γ σ' t.heap) (rA Γ)) 1 128 (rA Γ) := by
  rcases p1 with _ | p1v
  · refine Met.ofW (cc := cX7_postOrSendBack) (maxL := 3) (ret := (some .boolean)) (by decide) rfl ?_
    intro p e s m args below meth c s₁ B hml hv
    obtain ⟨rfl, hR, hE⟩ := hv
    have F : Fx Γ p s m meth c _ cX7_postOrSendBack 3 RX7 wsX7_postOrSendBack (some .boolean) := ⟨⟨B.exec, B.bytes, hml, findClass_of_methodNamed B.named, atoms_spec (ws := wsX7_postOrSendBack) B.pre⟩, hE, B.notSynchronized, B.returns⟩
    have hl := lv_entry ([.ref o, va_rf none]) (n := 3) (Nat.le_of_ble_eq_true rfl)
    rw [lg_entry_eq]
    generalize (lg_sl ([.ref o, va_rf none]) ++ List.replicate (3 - (lg_sl ([.ref o, va_rf none])).length) Slot.unset).toArray = ls at hl ⊢
    have hl : lv_has ls 3 [(0, .ref o), (1, va_rf none)] := hl
    exact bX7_postOrSendBack F h hR va_S.rf hl ⟨by show _ + _ ≤ _; omega, by show _ + _ ≤ _; omega⟩
  · refine Met.ofW (cc := cX7_postOrSendBack) (maxL := 3) (ret := (some .boolean)) (by decide) rfl ?_
    intro p e s m args below meth c s₁ B hml hv
    obtain ⟨rfl, hR, hE⟩ := hv
    have F : Fx Γ p s m meth c _ cX7_postOrSendBack 3 RX7 wsX7_postOrSendBack (some .boolean) := ⟨⟨B.exec, B.bytes, hml, findClass_of_methodNamed B.named, atoms_spec (ws := wsX7_postOrSendBack) B.pre⟩, hE, B.notSynchronized, B.returns⟩
    have hl := lv_entry ([.ref o, va_rf (some p1v)]) (n := 3) (Nat.le_of_ble_eq_true rfl)
    rw [lg_entry_eq]
    generalize (lg_sl ([.ref o, va_rf (some p1v)]) ++ List.replicate (3 - (lg_sl ([.ref o, va_rf (some p1v)])).length) Slot.unset).toArray = ls at hl ⊢
    have hl : lv_has ls 3 [(0, .ref o), (1, va_rf (some p1v))] := hl
    exact bX7_postOrSendBack F h hR va_S.rf hl ⟨by show _ + _ ≤ _; omega, by show _ + _ ≤ _; omega⟩
/-! X7_init -/
theorem mX7_init_0 : Cond.methodLink RX7 1 objectInit ∈ wsX7_init := by decide +kernel
theorem mX7_init_1 : Cond.instanceMethod objectInit ∈ wsX7_init := by decide +kernel
theorem mX7_init_2 : Cond.code objectInit ⟨#[0xb1]⟩ 1 none ∈ wsX7_init := by decide +kernel
theorem mX7_init_3 : Cond.classLink RX7 7 RJx4a65c ∈ wsX7_init := by decide +kernel
theorem mX7_init_4 : Cond.instantiable RJx4a65c 3 ∈ wsX7_init := by decide +kernel
theorem mX7_init_5 : Cond.initialized RJx4a65c ∈ wsX7_init := by decide +kernel
theorem mX7_init_6 : Cond.instanceMethod yJx4a65c_init_da8c8 ∈ wsX7_init := by decide +kernel
theorem mX7_init_7 : Cond.methodLink RX7 9 yJx4a65c_init_da8c8 ∈ wsX7_init := by decide +kernel
theorem mX7_init_8 : Cond.fieldLink RX7 10 "ClearingFiles" "banks" "Ljava/util/ArrayList;" ∈ wsX7_init := by decide +kernel
theorem mX7_init_9 : Cond.fieldLink RX7 16 "ClearingFiles" "accounts" "Ljava/util/ArrayList;" ∈ wsX7_init := by decide +kernel
theorem mX7_init_10 : Cond.classLink RX7 19 RX4 ∈ wsX7_init := by decide +kernel
theorem mX7_init_11 : Cond.instantiable RX4 8 ∈ wsX7_init := by decide +kernel
theorem mX7_init_12 : Cond.initialized RX4 ∈ wsX7_init := by decide +kernel
theorem mX7_init_13 : Cond.instanceMethod yX4_init ∈ wsX7_init := by decide +kernel
theorem mX7_init_14 : Cond.methodLink RX7 21 yX4_init ∈ wsX7_init := by decide +kernel
theorem mX7_init_15 : Cond.fieldLink RX7 22 "ClearingFiles" "file" "LClearingFiles$Incoming;" ∈ wsX7_init := by decide +kernel
theorem mX7_init_16 : Cond.arrayClass .int ∈ wsX7_init := by decide +kernel
theorem mX7_init_17 : Cond.fieldLink RX7 26 "ClearingFiles" "acceptedFiles" "[I" ∈ wsX7_init := by decide +kernel
theorem mX7_init_18 : Cond.fieldLink RX7 30 "ClearingFiles" "acceptedCount" "I" ∈ wsX7_init := by decide +kernel
theorem mX7_init_19 : Cond.fieldLink RX7 34 "ClearingFiles" "refusals" "[I" ∈ wsX7_init := by decide +kernel
theorem mX7_init_20 : Cond.fieldLink RX7 37 "ClearingFiles" "today" "I" ∈ wsX7_init := by decide +kernel
theorem nX7_init_Jx4a65c : ∀ w ∈ u_ws RJx4a65c TJx4a65c 3, w ∈ wsX7_init := fun _ h => List.mem_cons_of_mem _ (List.mem_append_left _ (List.mem_append_left _ (List.mem_append_left _ (List.mem_append_left _ (List.mem_append_right _ h)))))
theorem nX7_init_X7 : ∀ w ∈ u_ws RX7 TX7 7, w ∈ wsX7_init := fun _ h => List.mem_cons_of_mem _ (List.mem_append_left _ (List.mem_append_left _ (List.mem_append_left _ (List.mem_append_right _ h))))
theorem nX7_init_X4 : ∀ w ∈ u_ws RX4 TX4 8, w ∈ wsX7_init := fun _ h => List.mem_cons_of_mem _ (List.mem_append_left _ (List.mem_append_left _ (List.mem_append_right _ h)))
abbrev rmX7_init : Room := { frames := 6, cells := 22, slots := 392, locals := 141 }
set_option maxRecDepth 100000 in
def wX7_init (o : Nat)  (post : St → Prop) (σ0 : St) : Prop :=
  ∀ q1 : Nat, sK σ0 q1 = 0 → (∀ σ2 : St, σ2 = uN σ0 q1 19 → (wL_init q1 20 (fun (σ3 : St) => sK σ3 o = 8 ∧ (∀ σ6 : St, σ6 = uR σ3 400 o 0 (some q1) → (∀ q7 : Nat, sK σ6 q7 = 0 → (∀ σ8 : St, σ8 = uN σ6 q7 19 → (wL_init q7 21 (fun (σ9 : St) => sK σ9 o = 8 ∧ (∀ σ12 : St, σ12 = uR σ9 401 o 0 (some q7) → (∀ q13 : Nat, sK σ12 q13 = 0 → (∀ σ14 : St, σ14 = uN σ12 q13 5 → (wX4_init q13 (fun (σ15 : St) => sK σ15 o = 8 ∧ (∀ σ18 : St, σ18 = uR σ15 402 o 0 (some q13) → (∀ q19 : Nat, sK σ18 q19 = 0 → (∀ σ20 : St, σ20 = uN σ18 q19 1403 → (sK σ20 o = 8 ∧ (∀ σ22 : St, σ22 = uR σ20 403 o 0 (some q19) → (sK σ22 o = 8 ∧ (∀ σ24 : St, σ24 = uI σ22 404 o 0 (0 : Int32) → (∀ q25 : Nat, sK σ24 q25 = 0 → (∀ σ26 : St, σ26 = uN σ24 q25 1405 → (sK σ26 o = 8 ∧ (∀ σ28 : St, σ28 = uR σ26 405 o 0 (some q25) → (sK σ28 o = 8 ∧ (∀ σ30 : St, σ30 = uI σ28 406 o 0 (0 : Int32) → (post σ30))))))))))))))) σ14))))) σ8))))) σ2))
set_option maxHeartbeats 4000000 in
set_option maxRecDepth 100000 in
theorem bX7_init {p : Program} {l : Launch} {e : Env} {s : State} {m : MethodId} {args : Array Value} {below : List Frame} {meth : Method} {c : Code} {Γ : rGam} {o : Nat} {post : St → Prop} (F : Fx Γ p s m meth c args cX7_init 1 RX7 wsX7_init none) (hN : meth.name = "<init>") {H : Heap} {locs : List Loc} {ls : Array Slot} {cells slots : Nat}  {σ0 : St} (h : wX7_init o  post σ0) (hR : Rep Γ σ0 H) (hS : va_S (rA Γ) s.heap H locs) (hl : lv_has ls 1 [(0, .ref o)]) (hc : cells + 22 ≤ 22 ∧ slots + 392 ≤ 392) : W p l e rmX7_init s m args below meth c H locs cells slots (rQv Γ below post args s 22 392) (F0 m 0 ls []) := by
  have hx := F.1.1
  have hb := F.1.2.1
  unfold wX7_init at h
  refine lv_aload_n hx hb dX7_init_0 rfl (lv_at hl 0 rfl) ?_
  refine W.objInit hx hb F.1.2.2.2.1 (F.1.2.2.2.2 _ mX7_init_0) (F.1.2.2.2.2 _ mX7_init_1) (F.1.2.2.2.2 _ mX7_init_2) rfl (by rw [F.1.2.2.1]; exact hl.1) rfl dX7_init_1 (Nat.le_of_ble_eq_true rfl) (Nat.le_of_ble_eq_true rfl) ?_
  refine W.eq (g2 := F0 m 4 ls []) rfl ?_
  refine lv_aload_n hx hb dX7_init_4 rfl (lv_at hl 0 rfl) ?_
  refine s_new F hR hS 19 (by decide) (C := RJx4a65c) (T := TJx4a65c) (N := 3) rfl nX7_init_Jx4a65c tyJx4a65c tyJx4a65c_ok rdf_19 mX7_init_3 mX7_init_4 mX7_init_5 (by show _ ≤ 22; omega) (by show _ ≤ 392; omega) dX7_init_5 (fun q1 zq1 σ2 eσ2 H hR hS => ?_)
  replace h := h q1 zq1 σ2 eσ2
  refine lv_dup hx hb dX7_init_8 rfl ?_
  refine s_cv hS (k_runI F hR hS hl 0 [] (kL_init l Γ q1 20 _ _ h) gX7_init_Jx4a65c_init_da8c8 rfl rfl rfl mX7_init_5 mX7_init_7 mX7_init_6 rfl (by decide +kernel) ⟨Nat.le_of_ble_eq_true rfl, Nat.le_of_ble_eq_true rfl⟩ rfl (Nat.le_of_ble_eq_true rfl) dX7_init_9 ⟨by show _ ≤ 22; omega, by show _ ≤ 392; omega⟩) (fun σ3 H locs h4 hR hS => ?_)
  obtain ⟨k5, h4⟩ := h4
  refine s_putR (v := (some q1)) F hR hS k5 (by decide) (C := RX7) (T := TX7) (N := 7) rfl nX7_init_X7 tyX7 tyX7_ok nmX7 0 (by decide) mX7_init_8 (Or.inr ⟨rfl, hN, rfl⟩) (rf_nar _ _) (rf_fit _ _) (f := 400) rfl rnd_8 dX7_init_12 (fun σ6 eσ6 H locs hR hS => ?_)
  replace h4 := h4 σ6 eσ6
  refine lv_aload_n hx hb dX7_init_15 rfl (lv_at hl 0 rfl) ?_
  refine s_new F hR hS 19 (by decide) (C := RJx4a65c) (T := TJx4a65c) (N := 3) rfl nX7_init_Jx4a65c tyJx4a65c tyJx4a65c_ok rdf_19 mX7_init_3 mX7_init_4 mX7_init_5 (by show _ ≤ 22; omega) (by show _ ≤ 392; omega) dX7_init_16 (fun q7 zq7 σ8 eσ8 H hR hS => ?_)
  replace h4 := h4 q7 zq7 σ8 eσ8
  refine lv_dup hx hb dX7_init_19 rfl ?_
  refine s_cv hS (k_runI F hR hS hl 0 [] (kL_init l Γ q7 21 _ _ h4) gX7_init_Jx4a65c_init_da8c8 rfl rfl rfl mX7_init_5 mX7_init_7 mX7_init_6 rfl (by decide +kernel) ⟨Nat.le_of_ble_eq_true rfl, Nat.le_of_ble_eq_true rfl⟩ rfl (Nat.le_of_ble_eq_true rfl) dX7_init_20 ⟨by show _ ≤ 22; omega, by show _ ≤ 392; omega⟩) (fun σ9 H locs h10 hR hS => ?_)
  obtain ⟨k11, h10⟩ := h10
  refine s_putR (v := (some q7)) F hR hS k11 (by decide) (C := RX7) (T := TX7) (N := 7) rfl nX7_init_X7 tyX7 tyX7_ok nmX7 1 (by decide) mX7_init_9 (Or.inr ⟨rfl, hN, rfl⟩) (rf_nar _ _) (rf_fit _ _) (f := 401) rfl rnd_8 dX7_init_23 (fun σ12 eσ12 H locs hR hS => ?_)
  replace h10 := h10 σ12 eσ12
  refine lv_aload_n hx hb dX7_init_26 rfl (lv_at hl 0 rfl) ?_
  refine s_new F hR hS 5 (by decide) (C := RX4) (T := TX4) (N := 8) rfl nX7_init_X4 tyX4 tyX4_ok rdf_5 mX7_init_10 mX7_init_11 mX7_init_12 (by show _ ≤ 22; omega) (by show _ ≤ 392; omega) dX7_init_27 (fun q13 zq13 σ14 eσ14 H hR hS => ?_)
  replace h10 := h10 q13 zq13 σ14 eσ14
  refine lv_dup hx hb dX7_init_30 rfl ?_
  refine s_cv hS (k_runI F hR hS hl 0 [] (kX4_init l Γ q13 _ _ h10) gX7_init_X4_init rfl rfl rfl mX7_init_12 mX7_init_14 mX7_init_13 rfl (by decide +kernel) ⟨Nat.le_of_ble_eq_true rfl, Nat.le_of_ble_eq_true rfl⟩ rfl (Nat.le_of_ble_eq_true rfl) dX7_init_31 ⟨by show _ ≤ 22; omega, by show _ ≤ 392; omega⟩) (fun σ15 H locs h16 hR hS => ?_)
  obtain ⟨k17, h16⟩ := h16
  refine s_putR (v := (some q13)) F hR hS k17 (by decide) (C := RX7) (T := TX7) (N := 7) rfl nX7_init_X7 tyX7 tyX7_ok nmX7 2 (by decide) mX7_init_15 (Or.inr ⟨rfl, hN, rfl⟩) (rf_nar _ _) (rf_fit _ _) (f := 402) rfl rnd_8 dX7_init_34 (fun σ18 eσ18 H locs hR hS => ?_)
  replace h16 := h16 σ18 eσ18
  refine lv_aload_n hx hb dX7_init_37 rfl (lv_at hl 0 rfl) ?_
  refine lv_sipush (v := 256) hx hb dX7_init_38 (by decide) ?_
  refine s_newI F hR hS 1403 (by decide) rfl mX7_init_16 (by decide) (by decide) (by show _ ≤ 22; omega) (by show _ ≤ 392; omega) dX7_init_41 (fun q19 zq19 σ20 eσ20 H hR hS => ?_)
  replace h16 := h16 q19 zq19 σ20 eσ20
  obtain ⟨k21, h16⟩ := h16
  refine s_putR (v := (some q19)) F hR hS k21 (by decide) (C := RX7) (T := TX7) (N := 7) rfl nX7_init_X7 tyX7 tyX7_ok nmX7 3 (by decide) mX7_init_17 (Or.inr ⟨rfl, hN, rfl⟩) (rf_narA _ _) (rf_fitA _ _) (f := 403) rfl rnd_8 dX7_init_43 (fun σ22 eσ22 H locs hR hS => ?_)
  replace h16 := h16 σ22 eσ22
  refine lv_aload_n hx hb dX7_init_46 rfl (lv_at hl 0 rfl) ?_
  refine lv_iconst (v := 0) hx hb dX7_init_47 (by decide) ?_
  obtain ⟨k23, h16⟩ := h16
  refine s_putI (v := (0 : Int32)) F hR hS k23 (by decide) (C := RX7) (T := TX7) (N := 7) rfl nX7_init_X7 tyX7 tyX7_ok nmX7 4 (by decide) mX7_init_18 (Or.inl rfl) rfl rfl (f := 404) rfl rnd_8 dX7_init_48 (fun σ24 eσ24 H locs hR hS => ?_)
  replace h16 := h16 σ24 eσ24
  refine lv_aload_n hx hb dX7_init_51 rfl (lv_at hl 0 rfl) ?_
  refine lv_bipush (v := 34) hx hb dX7_init_52 (by decide) ?_
  refine s_newI F hR hS 1405 (by decide) rfl mX7_init_16 (by decide) (by decide) (by show _ ≤ 22; omega) (by show _ ≤ 392; omega) dX7_init_54 (fun q25 zq25 σ26 eσ26 H hR hS => ?_)
  replace h16 := h16 q25 zq25 σ26 eσ26
  obtain ⟨k27, h16⟩ := h16
  refine s_putR (v := (some q25)) F hR hS k27 (by decide) (C := RX7) (T := TX7) (N := 7) rfl nX7_init_X7 tyX7 tyX7_ok nmX7 5 (by decide) mX7_init_19 (Or.inr ⟨rfl, hN, rfl⟩) (rf_narA _ _) (rf_fitA _ _) (f := 405) rfl rnd_8 dX7_init_56 (fun σ28 eσ28 H locs hR hS => ?_)
  replace h16 := h16 σ28 eσ28
  refine lv_aload_n hx hb dX7_init_59 rfl (lv_at hl 0 rfl) ?_
  refine lv_iconst (v := 0) hx hb dX7_init_60 (by decide) ?_
  obtain ⟨k29, h16⟩ := h16
  refine s_putI (v := (0 : Int32)) F hR hS k29 (by decide) (C := RX7) (T := TX7) (N := 7) rfl nX7_init_X7 tyX7 tyX7_ok nmX7 6 (by decide) mX7_init_20 (Or.inl rfl) rfl rfl (f := 406) rfl rnd_8 dX7_init_61 (fun σ30 eσ30 H locs hR hS => ?_)
  replace h16 := h16 σ30 eσ30
  exact s_vret F hR hS h16 (by omega) dX7_init_64
set_option maxHeartbeats 4000000 in
set_option maxRecDepth 100000 in
theorem kX7_init (l : Launch) (Γ : rGam) (o : Nat)  (post : St → Prop) (σ0 : St) (h : wX7_init o  post σ0) : Met l yX7_init wsX7_init rmX7_init (rPc Γ vwCl [.ref o] (Rep Γ σ0)) (va_Qv post (fun σ' t => Rep Γ σ' t.heap) (rA Γ)) 22 392 (rA Γ) := by
  refine Met.ofW (cc := cX7_init) (maxL := 1) (ret := none) (by decide) rfl ?_
  intro p e s m args below meth c s₁ B hml hv
  obtain ⟨rfl, hR, hE⟩ := hv
  have F : Fx Γ p s m meth c _ cX7_init 1 RX7 wsX7_init none := ⟨⟨B.exec, B.bytes, hml, findClass_of_methodNamed B.named, atoms_spec (ws := wsX7_init) B.pre⟩, hE, B.notSynchronized, B.returns⟩
  have hN : meth.name = "<init>" := (name_of_methodNamed B.named B.method).1
  have hl := lv_entry ([.ref o]) (n := 1) (Nat.le_of_ble_eq_true rfl)
  rw [lg_entry_eq]
  generalize (lg_sl ([.ref o]) ++ List.replicate (1 - (lg_sl ([.ref o])).length) Slot.unset).toArray = ls at hl ⊢
  have hl : lv_has ls 1 [(0, .ref o)] := hl
  exact bX7_init F hN h hR va_S.rf hl ⟨by show _ + _ ≤ _; omega, by show _ + _ ≤ _; omega⟩
