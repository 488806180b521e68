abbrev rmX8_within : Room := { frames := 0, cells := 0, slots := 0, locals := 0 }
def wX8_within (p1 : Int32) (p2 : Int32) (post : Int32 → St → Prop) (σ0 : St) : Prop :=
  (p1 < 0 → (post (0 : Int32) σ0)) ∧ (¬ p1 < 0 → ((p2 ≤ p1 → (post (0 : Int32) σ0)) ∧ (¬ p2 ≤ p1 → (post (1 : Int32) σ0))))
set_option maxHeartbeats 4000000 in
set_option maxRecDepth 100000 in
theorem bX8_within {p : Program} {l : Launch} {e : Env} {s : State} {m : MethodId} {args : Array Value} {below : List Frame} {meth : Method} {c : Code} {Γ : rGam} {post : Int32 → St → Prop} (F : Fx Γ p s m meth c args cX8_within 2 RX8 wsX8_within (some .boolean)) {H : Heap} {locs : List Loc} {ls : Array Slot} {cells slots : Nat} {p1 : Int32} {p2 : Int32} {σ0 : St} (h : wX8_within p1 p2 post σ0) (hR : Rep Γ σ0 H) (hS : va_S (rA Γ) s.heap H locs) (hl : lv_has ls 2 [(0, .int p1), (1, .int p2)]) (hc : cells ≤ 0 ∧ slots ≤ 0) : W p l e rmX8_within s m args below meth c H locs cells slots (rQi Γ below post args s 0 0) (F0 m 0 ls []) := by
  have hx := F.1.1
  have hb := F.1.2.1
  unfold wX8_within at h
  refine lv_iload_n hx hb dX8_within_0 rfl (lv_at hl 0 rfl) ?_
  refine lv_if_lt (tgt := 13) hx hb dX8_within_1 (by decide) (fun c1 => ?_) (fun c1 => ?_)
  · have h := h.1 c1
    refine lv_iconst (v := 0) hx hb dX8_within_13 (by decide) ?_
    exact s_zret F hR hS (by unfold isB; decide) h hc dX8_within_14
  · have h := h.2 c1
    refine lv_iload_n hx hb dX8_within_4 rfl (lv_at hl 0 rfl) ?_
    refine lv_iload_n hx hb dX8_within_5 rfl (lv_at hl 1 rfl) ?_
    refine lv_icmp_ge (tgt := 13) hx hb dX8_within_6 (by decide) (fun c2 => ?_) (fun c2 => ?_)
    · have h := h.1 c2
      refine lv_iconst (v := 0) hx hb dX8_within_13 (by decide) ?_
      exact s_zret F hR hS (by unfold isB; decide) h hc dX8_within_14
    · have h := h.2 c2
      refine lv_iconst (v := 1) hx hb dX8_within_9 (by decide) ?_
      refine lv_goto (tgt := 14) hx hb dX8_within_10 (by decide) ?_
      exact s_zret F hR hS (by unfold isB; decide) h hc dX8_within_14
set_option maxHeartbeats 4000000 in
set_option maxRecDepth 100000 in
theorem kX8_within (l : Launch) (Γ : rGam) (p1 : Int32) (p2 : Int32) (post : Int32 → St → Prop) (σ0 : St) (h : wX8_within p1 p2 post σ0) : Met l yX8_within wsX8_within rmX8_within (rPc Γ vwCl [.int p1, .int p2] (Rep Γ σ0)) (va_Qi post (fun σ' t => Rep Γ σ' t.heap) (rA Γ)) 0 0 (rA Γ) := by
  refine Met.ofW (cc := cX8_within) (maxL := 2) (ret := (some .boolean)) (by decide) rfl ?_
  intro p e s m args below meth c s₁ B hml hv
  obtain ⟨rfl, hR, hE⟩ := hv
  have F : Fx Γ p s m meth c _ cX8_within 2 RX8 wsX8_within (some .boolean) := ⟨⟨B.exec, B.bytes, hml, findClass_of_methodNamed B.named, atoms_spec (ws := wsX8_within) B.pre⟩, hE, B.notSynchronized, B.returns⟩
  have hl := lv_entry ([.int p1, .int p2]) (n := 2) (Nat.le_of_ble_eq_true rfl)
  rw [lg_entry_eq]
  generalize (lg_sl ([.int p1, .int p2]) ++ List.replicate (2 - (lg_sl ([.int p1, .int p2])).length) Slot.unset).toArray = ls at hl ⊢
  have hl : lv_has ls 2 [(0, .int p1), (1, .int p2)] := hl
  exact bX8_within F h hR va_S.rf hl ⟨Nat.le_refl 0, Nat.le_refl 0⟩
abbrev rmX8_right : Room := { frames := 0, cells := 0, slots := 0, locals := 0 }
def wX8_right_39 (k9 : Int32 → Int32 → Int32 → St → Prop) (post : Int32 → St → Prop) (x2 : Int32) (x3 : Int32) (x4 : Int32) (y0 : Int32) (σ0 : St) : Prop :=
  ∀ x6 : Int32, x6 = (x2 + (y0 * (x3 - x3 / (10 : Int32) * (10 : Int32)))) → (∀ x7 : Int32, x7 = (x3 / (10 : Int32)) → (∀ x8 : Int32, x8 = x4 + (-1 : Int32) → (k9 x6 x7 x8 σ0)))
set_option maxHeartbeats 4000000 in
set_option maxRecDepth 100000 in
theorem bX8_right_39 {p : Program} {l : Launch} {e : Env} {s : State} {m : MethodId} {args : Array Value} {below : List Frame} {meth : Method} {c : Code} {Γ : rGam} {post : Int32 → St → Prop} (F : Fx Γ p s m meth c args cX8_right 6 RX8 wsX8_right (some .boolean)) {k9 : Int32 → Int32 → Int32 → St → Prop} (hk9 : ∀ (x2 : Int32) (x3 : Int32) (x4 : Int32) (σ0 : St) (H : Heap) (locs : List Loc) (ls : Array Slot) (cells slots : Nat), k9 x2 x3 x4 σ0 → Rep Γ σ0 H → va_S (rA Γ) s.heap H locs → lv_has ls 6 [(2, .int x2), (3, .int x3), (4, .int x4)] → cells ≤ 0 ∧ slots ≤ 0 → W p l e rmX8_right s m args below meth c H locs cells slots (rQi Γ below post args s 0 0) (F0 m 9 ls [])) {H : Heap} {locs : List Loc} {ls : Array Slot} {cells slots : Nat} {x2 : Int32} {x3 : Int32} {x4 : Int32} {y0 : Int32} {σ0 : St} (h : wX8_right_39 k9 post x2 x3 x4 y0 σ0) (hR : Rep Γ σ0 H) (hS : va_S (rA Γ) s.heap H locs) (hl : lv_has ls 6 [(2, .int x2), (3, .int x3), (4, .int x4)]) (hc : cells ≤ 0 ∧ slots ≤ 0) : W p l e rmX8_right s m args below meth c H locs cells slots (rQi Γ below post args s 0 0) (F0 m 39 ls [.int y0]) := by
  have hx := F.1.1
  have hb := F.1.2.1
  unfold wX8_right_39 at h
  refine s_istore (lk := [(4, .int x4)]) (lv' := [(5, .int y0), (2, .int x2), (3, .int x3), (4, .int x4)]) hx hb dX8_right_39 hl (by decide) rfl (lk_1 rfl) rfl (fun ls hl => ?_)
  refine lv_iload_n hx hb dX8_right_41 rfl (lv_at hl 1 rfl) ?_
  refine lv_iload hx hb dX8_right_42 (lv_at hl 0 rfl) ?_
  refine lv_iload_n hx hb dX8_right_44 rfl (lv_at hl 2 rfl) ?_
  refine lv_bipush (v := 10) hx hb dX8_right_45 (by decide) ?_
  refine lv_irem hx hb dX8_right_47 (by decide) ?_
  refine lv_imul hx hb dX8_right_48 ?_
  refine lv_iadd hx hb dX8_right_49 ?_
  refine lv_topi (fun x6 ex6 => ?_)
  have h := h x6 ex6
  refine s_istore_n (lk := []) (lv' := [(2, .int x6), (5, .int y0), (3, .int x3), (4, .int x4)]) hx hb dX8_right_50 rfl hl (by decide) rfl lk_0 rfl (fun ls hl => ?_)
  refine lv_iload_n hx hb dX8_right_51 rfl (lv_at hl 2 rfl) ?_
  refine lv_bipush (v := 10) hx hb dX8_right_52 (by decide) ?_
  refine lv_idiv hx hb dX8_right_54 (by decide) ?_
  refine lv_topi (fun x7 ex7 => ?_)
  have h := h x7 ex7
  refine s_istore_n (lk := [(2, .int x6)]) (lv' := [(3, .int x7), (2, .int x6), (5, .int y0), (4, .int x4)]) hx hb dX8_right_55 rfl hl (by decide) rfl (lk_1 rfl) rfl (fun ls hl => ?_)
  obtain ⟨x8, ex8⟩ : ∃ x : Int32, x = x4 + (-1 : Int32) := ⟨_, rfl⟩
  have h := h x8 ex8
  refine s_iinc (v := x8) (d := -1) (lk := [(3, .int x7)]) (lv' := [(4, .int x8), (3, .int x7), (2, .int x6), (5, .int y0)]) hx hb dX8_right_56 hl (k := 3) rfl (by decide) (by decide) rfl (lk_1 rfl) ex8 rfl (fun ls hl => ?_)
  refine lv_goto (tgt := 9) hx hb dX8_right_59 (by decide) ?_
  exact hk9 x6 x7 x8 σ0 _ _ _ _ _ h hR hS (lv_sub hl [2, 1, 0] rfl) hc

def wX8_right_9 (post : Int32 → St → Prop) : Nat → Int32 → Int32 → Int32 → St → Prop
  | 0, _, _, _, _ => False
  | n + 1, x2, x3, x4, σ0 =>
    (x4 < 0 → (((x2 - x2 / (10 : Int32) * (10 : Int32)) = 0 → (post (1 : Int32) σ0)) ∧ (¬ (x2 - x2 / (10 : Int32) * (10 : Int32)) = 0 → (post (0 : Int32) σ0)))) ∧ (¬ x4 < 0 → (((x4 - x4 / (3 : Int32) * (3 : Int32)) = 0 → (wX8_right_39 (wX8_right_9 post n) post x2 x3 x4 (3 : Int32) σ0)) ∧ (¬ (x4 - x4 / (3 : Int32) * (3 : Int32)) = 0 → (((x4 - x4 / (3 : Int32) * (3 : Int32)) = (1 : Int32) → (wX8_right_39 (wX8_right_9 post n) post x2 x3 x4 (7 : Int32) σ0)) ∧ (¬ (x4 - x4 / (3 : Int32) * (3 : Int32)) = (1 : Int32) → (wX8_right_39 (wX8_right_9 post n) post x2 x3 x4 (1 : Int32) σ0))))))
set_option maxHeartbeats 4000000 in
set_option maxRecDepth 100000 in
theorem bX8_right_9 {p : Program} {l : Launch} {e : Env} {s : State} {m : MethodId} {args : Array Value} {below : List Frame} {meth : Method} {c : Code} {Γ : rGam} {post : Int32 → St → Prop} (F : Fx Γ p s m meth c args cX8_right 6 RX8 wsX8_right (some .boolean)) : ∀ (n : Nat) (x2 : Int32) (x3 : Int32) (x4 : Int32) (σ0 : St) (H : Heap) (locs : List Loc) (ls : Array Slot) (cells slots : Nat), wX8_right_9 post n x2 x3 x4 σ0 → Rep Γ σ0 H → va_S (rA Γ) s.heap H locs → lv_has ls 6 [(2, .int x2), (3, .int x3), (4, .int x4)] → cells ≤ 0 ∧ slots ≤ 0 → W p l e rmX8_right s m args below meth c H locs cells slots (rQi Γ below post args s 0 0) (F0 m 9 ls []) := by
  have hx := F.1.1
  have hb := F.1.2.1
  intro n
  induction n with
  | zero =>
    intro x2 x3 x4 σ0 H locs ls cells slots h
    exact absurd h (by unfold wX8_right_9; exact id)
  | succ n ih =>
    intro x2 x3 x4 σ0 H locs ls cells slots h hR hS hl hc
    unfold wX8_right_9 at h
    refine lv_iload hx hb dX8_right_9 (lv_at hl 2 rfl) ?_
    refine lv_if_lt (tgt := 62) hx hb dX8_right_11 (by decide) (fun c2 => ?_) (fun c2 => ?_)
    · have h := h.1 c2
      refine lv_iload_n hx hb dX8_right_62 rfl (lv_at hl 0 rfl) ?_
      refine lv_bipush (v := 10) hx hb dX8_right_63 (by decide) ?_
      refine lv_irem hx hb dX8_right_65 (by decide) ?_
      refine lv_if_ne (tgt := 73) hx hb dX8_right_66 (by decide) (fun c3 => ?_) (fun c3 => ?_)
      · have h := h.2 c3
        refine lv_iconst (v := 0) hx hb dX8_right_73 (by decide) ?_
        exact s_zret F hR hS (by unfold isB; decide) h hc dX8_right_74
      · have h := h.1 c3
        refine lv_iconst (v := 1) hx hb dX8_right_69 (by decide) ?_
        refine lv_goto (tgt := 74) hx hb dX8_right_70 (by decide) ?_
        exact s_zret F hR hS (by unfold isB; decide) h hc dX8_right_74
    · have h := h.2 c2
      refine lv_iload hx hb dX8_right_14 (lv_at hl 2 rfl) ?_
      refine lv_iconst (v := 3) hx hb dX8_right_16 (by decide) ?_
      refine lv_irem hx hb dX8_right_17 (by decide) ?_
      refine lv_if_ne (tgt := 25) hx hb dX8_right_18 (by decide) (fun c4 => ?_) (fun c4 => ?_)
      · have h := h.2 c4
        refine lv_iload hx hb dX8_right_25 (lv_at hl 2 rfl) ?_
        refine lv_iconst (v := 3) hx hb dX8_right_27 (by decide) ?_
        refine lv_irem hx hb dX8_right_28 (by decide) ?_
        refine lv_iconst (v := 1) hx hb dX8_right_29 (by decide) ?_
        refine lv_icmp_ne (tgt := 38) hx hb dX8_right_30 (by decide) (fun c5 => ?_) (fun c5 => ?_)
        · have h := h.2 c5
          refine lv_iconst (v := 1) hx hb dX8_right_38 (by decide) ?_
          exact bX8_right_39 F (fun x2 x3 x4 σ0 H locs ls cells slots h hR hS hl hc => ih x2 x3 x4 σ0 H locs ls cells slots h hR hS hl hc) h hR hS (lv_sub hl [0, 1, 2] rfl) hc
        · have h := h.1 c5
          refine lv_bipush (v := 7) hx hb dX8_right_33 (by decide) ?_
          refine lv_goto (tgt := 39) hx hb dX8_right_35 (by decide) ?_
          exact bX8_right_39 F (fun x2 x3 x4 σ0 H locs ls cells slots h hR hS hl hc => ih x2 x3 x4 σ0 H locs ls cells slots h hR hS hl hc) h hR hS (lv_sub hl [0, 1, 2] rfl) hc
      · have h := h.1 c4
        refine lv_iconst (v := 3) hx hb dX8_right_21 (by decide) ?_
        refine lv_goto (tgt := 39) hx hb dX8_right_22 (by decide) ?_
        exact bX8_right_39 F (fun x2 x3 x4 σ0 H locs ls cells slots h hR hS hl hc => ih x2 x3 x4 σ0 H locs ls cells slots h hR hS hl hc) h hR hS (lv_sub hl [0, 1, 2] rfl) hc

def wX8_right (p1 : Int32) (p2 : Int32) (post : Int32 → St → Prop) (σ0 : St) : Prop :=
  ∀ x1 : Int32, x1 = (p2 - (1 : Int32)) → (∃ n9 : Nat, wX8_right_9 post n9 (0 : Int32) p1 x1 σ0)
set_option maxHeartbeats 4000000 in
set_option maxRecDepth 100000 in
theorem bX8_right {p : Program} {l : Launch} {e : Env} {s : State} {m : MethodId} {args : Array Value} {below : List Frame} {meth : Method} {c : Code} {Γ : rGam} {post : Int32 → St → Prop} (F : Fx Γ p s m meth c args cX8_right 6 RX8 wsX8_right (some .boolean)) {H : Heap} {locs : List Loc} {ls : Array Slot} {cells slots : Nat} {p1 : Int32} {p2 : Int32} {σ0 : St} (h : wX8_right p1 p2 post σ0) (hR : Rep Γ σ0 H) (hS : va_S (rA Γ) s.heap H locs) (hl : lv_has ls 6 [(0, .int p1), (1, .int p2)]) (hc : cells ≤ 0 ∧ slots ≤ 0) : W p l e rmX8_right s m args below meth c H locs cells slots (rQi Γ below post args s 0 0) (F0 m 0 ls []) := by
  have hx := F.1.1
  have hb := F.1.2.1
  unfold wX8_right at h
  refine lv_iconst (v := 0) hx hb dX8_right_0 (by decide) ?_
  refine s_istore_n (lk := [(1, .int p2)]) (lv' := [(2, .int (0 : Int32)), (0, .int p1), (1, .int p2)]) hx hb dX8_right_1 rfl hl (by decide) rfl (lk_1 rfl) rfl (fun ls hl => ?_)
  refine lv_iload_n hx hb dX8_right_2 rfl (lv_at hl 1 rfl) ?_
  refine s_istore_n (lk := [(2, .int (0 : Int32))]) (lv' := [(3, .int p1), (2, .int (0 : Int32)), (0, .int p1), (1, .int p2)]) hx hb dX8_right_3 rfl hl (by decide) rfl (lk_1 rfl) rfl (fun ls hl => ?_)
  refine lv_iload_n hx hb dX8_right_4 rfl (lv_at hl 3 rfl) ?_
  refine lv_iconst (v := 1) hx hb dX8_right_5 (by decide) ?_
  refine lv_isub hx hb dX8_right_6 ?_
  refine lv_topi (fun x1 ex1 => ?_)
  have h := h x1 ex1
  refine s_istore (lk := [(3, .int p1)]) (lv' := [(4, .int x1), (3, .int p1), (2, .int (0 : Int32)), (0, .int p1), (1, .int p2)]) hx hb dX8_right_7 hl (by decide) rfl (lk_1 rfl) rfl (fun ls hl => ?_)
  obtain ⟨n9, h⟩ := h
  exact bX8_right_9 F n9 (0 : Int32) p1 x1 σ0 _ _ _ _ _ h hR hS (lv_sub hl [2, 1, 0] rfl) hc
set_option maxHeartbeats 4000000 in
set_option maxRecDepth 100000 in
theorem kX8_right (l : Launch) (Γ : rGam) (p1 : Int32) (p2 : Int32) (post : Int32 → St → Prop) (σ0 : St) (h : wX8_right p1 p2 post σ0) : Met l yX8_right wsX8_right rmX8_right (rPc Γ vwCl [.int p1, .int p2] (Rep Γ σ0)) (va_Qi post (fun σ' t => Rep Γ σ' t.heap) (rA Γ)) 0 0 (rA Γ) := by
  refine Met.ofW (cc := cX8_right) (maxL := 6) (ret := (some .boolean)) (by decide) rfl ?_
  intro p e s m args below meth c s₁ B hml hv
  obtain ⟨rfl, hR, hE⟩ := hv
  have F : Fx Γ p s m meth c _ cX8_right 6 RX8 wsX8_right (some .boolean) := ⟨⟨B.exec, B.bytes, hml, findClass_of_methodNamed B.named, atoms_spec (ws := wsX8_right) B.pre⟩, hE, B.notSynchronized, B.returns⟩
  have hl := lv_entry ([.int p1, .int p2]) (n := 6) (Nat.le_of_ble_eq_true rfl)
  rw [lg_entry_eq]
  generalize (lg_sl ([.int p1, .int p2]) ++ List.replicate (6 - (lg_sl ([.int p1, .int p2])).length) Slot.unset).toArray = ls at hl ⊢
  have hl : lv_has ls 6 [(0, .int p1), (1, .int p2)] := hl
  exact bX8_right F h hR va_S.rf hl ⟨Nat.le_refl 0, Nat.le_refl 0⟩
theorem mX8_bankOf_0 : Cond.fieldLink RX8 119 "ClearingFilesModel" "banks" "I" ∈ wsX8_bankOf := by decide +kernel
theorem mX8_bankOf_1 : Cond.fieldLink RX8 7 "ClearingFilesModel" "routings" "[I" ∈ wsX8_bankOf := by decide +kernel
theorem nX8_bankOf_X8 : ∀ w ∈ u_ws RX8 TX8 46, w ∈ wsX8_bankOf := fun _ h => List.mem_cons_of_mem _ (List.mem_append_right _ h)
abbrev rmX8_bankOf : Room := { frames := 0, cells := 0, slots := 0, locals := 0 }
def wX8_bankOf_2 (o : Nat) (post : Int32 → St → Prop) : Nat → Int32 → Int32 → St → Prop
  | 0, _, _, _ => False
  | n + 1, x1, x2, σ0 =>
    sK σ0 o = 9 ∧ (((sI σ0 450 o 0) ≤ x2 → (post (-1 : Int32) σ0)) ∧ (¬ (sI σ0 450 o 0) ≤ x2 → (sK σ0 o = 9 ∧ (∀ r4 : Option Nat, r4 = sR σ0 451 o 0 → (∃ a5 : Nat, r4 = some a5 ∧ (sK σ0 a5 = 1451 ∧ (vp_in x2 5 ∧ (((sI σ0 1451 a5 x2.toNatClampNeg) = x1 → (post x2 σ0)) ∧ (¬ (sI σ0 1451 a5 x2.toNatClampNeg) = x1 → (∀ x9 : Int32, x9 = x2 + (1 : Int32) → (wX8_bankOf_2 o post n x1 x9 σ0)))))))))))
set_option maxHeartbeats 4000000 in
set_option maxRecDepth 100000 in
theorem bX8_bankOf_2 {p : Program} {l : Launch} {e : Env} {s : State} {m : MethodId} {args : Array Value} {below : List Frame} {meth : Method} {c : Code} {Γ : rGam} {o : Nat} {post : Int32 → St → Prop} (F : Fx Γ p s m meth c args cX8_bankOf 3 RX8 wsX8_bankOf (some .int)) : ∀ (n : Nat) (x1 : Int32) (x2 : Int32) (σ0 : St) (H : Heap) (locs : List Loc) (ls : Array Slot) (cells slots : Nat), wX8_bankOf_2 o post n x1 x2 σ0 → Rep Γ σ0 H → va_S (rA Γ) s.heap H locs → lv_has ls 3 [(0, .ref o), (1, .int x1), (2, .int x2)] → cells ≤ 0 ∧ slots ≤ 0 → W p l e rmX8_bankOf s m args below meth c H locs cells slots (rQi Γ below post args s 0 0) (F0 m 2 ls []) := by
  have hx := F.1.1
  have hb := F.1.2.1
  intro n
  induction n with
  | zero =>
    intro x1 x2 σ0 H locs ls cells slots h
    exact absurd h (by unfold wX8_bankOf_2; exact id)
  | succ n ih =>
    intro x1 x2 σ0 H locs ls cells slots h hR hS hl hc
    unfold wX8_bankOf_2 at h
    refine lv_iload_n hx hb dX8_bankOf_2 rfl (lv_at hl 2 rfl) ?_
    refine lv_aload_n hx hb dX8_bankOf_3 rfl (lv_at hl 0 rfl) ?_
    obtain ⟨k1, h⟩ := h
    refine s_getI F hR k1 (by decide) (C := RX8) (T := TX8) (N := 46) rfl nX8_bankOf_X8 0 (by decide) mX8_bankOf_0 (f := 450) rfl dX8_bankOf_4 ?_
    refine lv_icmp_ge (tgt := 28) hx hb dX8_bankOf_7 (by decide) (fun c2 => ?_) (fun c2 => ?_)
    · have h := h.1 c2
      refine lv_iconst (v := -1) hx hb dX8_bankOf_28 (by decide) ?_
      exact s_iret F hR hS h hc dX8_bankOf_29
    · have h := h.2 c2
      refine lv_aload_n hx hb dX8_bankOf_10 rfl (lv_at hl 0 rfl) ?_
      obtain ⟨k3, h⟩ := h
      refine s_getR F hR k3 (by decide) (C := RX8) (T := TX8) (N := 46) rfl nX8_bankOf_X8 1 (by decide) mX8_bankOf_1 (f := 451) rfl dX8_bankOf_11 (fun r4 er4 => ?_)
      have h := h r4 er4
      refine lv_iload_n hx hb dX8_bankOf_14 rfl (lv_at hl 2 rfl) ?_
      obtain ⟨a5, ea5, h⟩ := h
      subst ea5
      obtain ⟨k6, h⟩ := h
      obtain ⟨z7, h⟩ := h
      refine s_iald F hR k6 (by decide) rfl z7 dX8_bankOf_15 ?_
      refine lv_iload_n hx hb dX8_bankOf_16 rfl (lv_at hl 1 rfl) ?_
      refine lv_icmp_ne (tgt := 22) hx hb dX8_bankOf_17 (by decide) (fun c8 => ?_) (fun c8 => ?_)
      · have h := h.2 c8
        obtain ⟨x9, ex9⟩ : ∃ x : Int32, x = x2 + (1 : Int32) := ⟨_, rfl⟩
        have h := h x9 ex9
        refine s_iinc (v := x9) (d := 1) (lk := [(1, .int x1)]) (lv' := [(2, .int x9), (0, .ref o), (1, .int x1)]) hx hb dX8_bankOf_22 hl (k := 2) rfl (by decide) (by decide) rfl (lk_1 rfl) ex9 rfl (fun ls hl => ?_)
        refine lv_goto (tgt := 2) hx hb dX8_bankOf_25 (by decide) ?_
        exact ih x1 x9 σ0 _ _ _ _ _ h hR hS (lv_sub hl [1, 2, 0] rfl) hc
      · have h := h.1 c8
        refine lv_iload_n hx hb dX8_bankOf_20 rfl (lv_at hl 2 rfl) ?_
        exact s_iret F hR hS h hc dX8_bankOf_21

def wX8_bankOf (o : Nat) (p1 : Int32) (post : Int32 → St → Prop) (σ0 : St) : Prop :=
  ∃ n10 : Nat, wX8_bankOf_2 o post n10 p1 (0 : Int32) σ0
set_option maxHeartbeats 4000000 in
set_option maxRecDepth 100000 in
theorem bX8_bankOf {p : Program} {l : Launch} {e : Env} {s : State} {m : MethodId} {args : Array Value} {below : List Frame} {meth : Method} {c : Code} {Γ : rGam} {o : Nat} {post : Int32 → St → Prop} (F : Fx Γ p s m meth c args cX8_bankOf 3 RX8 wsX8_bankOf (some .int)) {H : Heap} {locs : List Loc} {ls : Array Slot} {cells slots : Nat} {p1 : Int32} {σ0 : St} (h : wX8_bankOf o p1 post σ0) (hR : Rep Γ σ0 H) (hS : va_S (rA Γ) s.heap H locs) (hl : lv_has ls 3 [(0, .ref o), (1, .int p1)]) (hc : cells ≤ 0 ∧ slots ≤ 0) : W p l e rmX8_bankOf s m args below meth c H locs cells slots (rQi Γ below post args s 0 0) (F0 m 0 ls []) := by
  have hx := F.1.1
  have hb := F.1.2.1
  unfold wX8_bankOf at h
  refine lv_iconst (v := 0) hx hb dX8_bankOf_0 (by decide) ?_
  refine s_istore_n (lk := [(1, .int p1)]) (lv' := [(2, .int (0 : Int32)), (0, .ref o), (1, .int p1)]) hx hb dX8_bankOf_1 rfl hl (by decide) rfl (lk_1 rfl) rfl (fun ls hl => ?_)
  obtain ⟨n10, h⟩ := h
  exact bX8_bankOf_2 F n10 p1 (0 : Int32) σ0 _ _ _ _ _ h hR hS (lv_sub hl [1, 2, 0] rfl) hc
set_option maxHeartbeats 4000000 in
set_option maxRecDepth 100000 in
theorem kX8_bankOf (l : Launch) (Γ : rGam) (o : Nat) (p1 : Int32) (post : Int32 → St → Prop) (σ0 : St) (h : wX8_bankOf o p1 post σ0) : Met l yX8_bankOf wsX8_bankOf rmX8_bankOf (rPc Γ vwCl [.ref o, .int p1] (Rep Γ σ0)) (va_Qi post (fun σ' t => Rep Γ σ' t.heap) (rA Γ)) 0 0 (rA Γ) := by
  refine Met.ofW (cc := cX8_bankOf) (maxL := 3) (ret := (some .int)) (by decide) rfl ?_
  intro p e s m args below meth c s₁ B hml hv
  obtain ⟨rfl, hR, hE⟩ := hv
  have F : Fx Γ p s m meth c _ cX8_bankOf 3 RX8 wsX8_bankOf (some .int) := ⟨⟨B.exec, B.bytes, hml, findClass_of_methodNamed B.named, atoms_spec (ws := wsX8_bankOf) B.pre⟩, hE, B.notSynchronized, B.returns⟩
  have hl := lv_entry ([.ref o, .int p1]) (n := 3) (Nat.le_of_ble_eq_true rfl)
  rw [lg_entry_eq]
  generalize (lg_sl ([.ref o, .int p1]) ++ List.replicate (3 - (lg_sl ([.ref o, .int p1])).length) Slot.unset).toArray = ls at hl ⊢
  have hl : lv_has ls 3 [(0, .ref o), (1, .int p1)] := hl
  exact bX8_bankOf F h hR va_S.rf hl ⟨Nat.le_refl 0, Nat.le_refl 0⟩
theorem mX8_digits_0 : Cond.constantLong RX8 117 (10) ∈ wsX8_digits := by decide +kernel
abbrev rmX8_digits : Room := { frames := 0, cells := 0, slots := 0, locals := 0 }
def wX8_digits_35 (post : Int32 → St → Prop) : Nat → Int32 → Int64 → Int64 → Int32 → St → Prop
  | 0, _, _, _, _, _ => False
  | n + 1, x3, x4, x6, x8, σ0 =>
    (x3 ≤ x8 → (¬ x6 = 0 ∧ (post ((x4 - x4 / x6 * x6).toInt32) σ0))) ∧ (¬ x3 ≤ x8 → (∀ x5 : Int64, x5 = (x6 * (10 : Int64)) → (∀ x6 : Int32, x6 = x8 + (1 : Int32) → (wX8_digits_35 post n x3 x4 x5 x6 σ0))))
set_option maxHeartbeats 4000000 in
set_option maxRecDepth 100000 in
theorem bX8_digits_35 {p : Program} {l : Launch} {e : Env} {s : State} {m : MethodId} {args : Array Value} {below : List Frame} {meth : Method} {c : Code} {Γ : rGam} {post : Int32 → St → Prop} (F : Fx Γ p s m meth c args cX8_digits 9 RX8 wsX8_digits (some .int)) : ∀ (n : Nat) (x3 : Int32) (x4 : Int64) (x6 : Int64) (x8 : Int32) (σ0 : St) (H : Heap) (locs : List Loc) (ls : Array Slot) (cells slots : Nat), wX8_digits_35 post n x3 x4 x6 x8 σ0 → Rep Γ σ0 H → va_S (rA Γ) s.heap H locs → lv_has ls 9 [(3, .int x3), (4, .long x4), (6, .long x6), (8, .int x8)] → cells ≤ 0 ∧ slots ≤ 0 → W p l e rmX8_digits s m args below meth c H locs cells slots (rQi Γ below post args s 0 0) (F0 m 35 ls []) := by
  have hx := F.1.1
  have hb := F.1.2.1
  intro n
  induction n with
  | zero =>
    intro x3 x4 x6 x8 σ0 H locs ls cells slots h
    exact absurd h (by unfold wX8_digits_35; exact id)
  | succ n ih =>
    intro x3 x4 x6 x8 σ0 H locs ls cells slots h hR hS hl hc
    unfold wX8_digits_35 at h
    refine lv_iload hx hb dX8_digits_35 (lv_at hl 3 rfl) ?_
    refine lv_iload_n hx hb dX8_digits_37 rfl (lv_at hl 0 rfl) ?_
    refine lv_icmp_ge (tgt := 55) hx hb dX8_digits_38 (by decide) (fun c3 => ?_) (fun c3 => ?_)
    · have h := h.1 c3
      refine lv_lload hx hb dX8_digits_55 (lv_at hl 1 rfl) ?_
      refine lv_lload hx hb dX8_digits_57 (lv_at hl 2 rfl) ?_
      obtain ⟨z4, h⟩ := h
      refine lv_lrem hx hb dX8_digits_59 z4 ?_
      refine lv_l2i hx hb dX8_digits_60 rfl ?_
      exact s_iret F hR hS h hc dX8_digits_61
    · have h := h.2 c3
      refine lv_lload hx hb dX8_digits_41 (lv_at hl 2 rfl) ?_
      refine lv_ldc2 hx hb F.1.2.2.2.1 (F.1.2.2.2.2 _ mX8_digits_0) dX8_digits_43 ?_
      refine lv_lmul hx hb dX8_digits_46 ?_
      refine lv_topl (fun x5 ex5 => ?_)
      have h := h x5 ex5
      refine s_lstore (lk := []) (lv' := [(6, .long x5), (3, .int x3), (4, .long x4), (8, .int x8)]) hx hb dX8_digits_47 hl (by decide) rfl lk_0 rfl (fun ls hl => ?_)
      obtain ⟨x6, ex6⟩ : ∃ x : Int32, x = x8 + (1 : Int32) := ⟨_, rfl⟩
      have h := h x6 ex6
      refine s_iinc (v := x6) (d := 1) (lk := []) (lv' := [(8, .int x6), (6, .long x5), (3, .int x3), (4, .long x4)]) hx hb dX8_digits_49 hl (k := 3) rfl (by decide) (by decide) rfl lk_0 ex6 rfl (fun ls hl => ?_)
      refine lv_goto (tgt := 35) hx hb dX8_digits_52 (by decide) ?_
      exact ih x3 x4 x5 x6 σ0 _ _ _ _ _ h hR hS (lv_sub hl [2, 3, 1, 0] rfl) hc

def wX8_digits_8 (post : Int32 → St → Prop) : Nat → Int32 → Int64 → Int32 → St → Prop
  | 0, _, _, _, _ => False
  | n + 1, x3, x4, x6, σ0 =>
    ((18 : Int32) ≤ x6 → (∃ n7 : Nat, wX8_digits_35 post n7 x3 x4 (1 : Int64) (0 : Int32) σ0)) ∧ (¬ (18 : Int32) ≤ x6 → (∀ x8 : Int64, x8 = (x4 / (10 : Int64)) → (∀ x9 : Int32, x9 = x6 + (1 : Int32) → (wX8_digits_8 post n x3 x8 x9 σ0))))
set_option maxHeartbeats 4000000 in
set_option maxRecDepth 100000 in
theorem bX8_digits_8 {p : Program} {l : Launch} {e : Env} {s : State} {m : MethodId} {args : Array Value} {below : List Frame} {meth : Method} {c : Code} {Γ : rGam} {post : Int32 → St → Prop} (F : Fx Γ p s m meth c args cX8_digits 9 RX8 wsX8_digits (some .int)) : ∀ (n : Nat) (x3 : Int32) (x4 : Int64) (x6 : Int32) (σ0 : St) (H : Heap) (locs : List Loc) (ls : Array Slot) (cells slots : Nat), wX8_digits_8 post n x3 x4 x6 σ0 → Rep Γ σ0 H → va_S (rA Γ) s.heap H locs → lv_has ls 9 [(3, .int x3), (4, .long x4), (6, .int x6)] → cells ≤ 0 ∧ slots ≤ 0 → W p l e rmX8_digits s m args below meth c H locs cells slots (rQi Γ below post args s 0 0) (F0 m 8 ls []) := by
  have hx := F.1.1
  have hb := F.1.2.1
  intro n
  induction n with
  | zero =>
    intro x3 x4 x6 σ0 H locs ls cells slots h
    exact absurd h (by unfold wX8_digits_8; exact id)
  | succ n ih =>
    intro x3 x4 x6 σ0 H locs ls cells slots h hR hS hl hc
    unfold wX8_digits_8 at h
    refine lv_iload hx hb dX8_digits_8 (lv_at hl 2 rfl) ?_
    refine lv_bipush (v := 18) hx hb dX8_digits_10 (by decide) ?_
    refine lv_icmp_ge (tgt := 29) hx hb dX8_digits_12 (by decide) (fun c2 => ?_) (fun c2 => ?_)
    · have h := h.1 c2
      refine lv_lconst (v := 1) hx hb dX8_digits_29 (by decide) ?_
      refine s_lstore (lk := []) (lv' := [(6, .long (1 : Int64)), (3, .int x3), (4, .long x4)]) hx hb dX8_digits_30 hl (by decide) rfl lk_0 rfl (fun ls hl => ?_)
      refine lv_iconst (v := 0) hx hb dX8_digits_32 (by decide) ?_
      refine s_istore (lk := []) (lv' := [(8, .int (0 : Int32)), (6, .long (1 : Int64)), (3, .int x3), (4, .long x4)]) hx hb dX8_digits_33 hl (by decide) rfl lk_0 rfl (fun ls hl => ?_)
      obtain ⟨n7, h⟩ := h
      exact bX8_digits_35 F n7 x3 x4 (1 : Int64) (0 : Int32) σ0 _ _ _ _ _ h hR hS (lv_sub hl [2, 3, 1, 0] rfl) hc
    · have h := h.2 c2
      refine lv_lload hx hb dX8_digits_15 (lv_at hl 1 rfl) ?_
      refine lv_ldc2 hx hb F.1.2.2.2.1 (F.1.2.2.2.2 _ mX8_digits_0) dX8_digits_17 ?_
      refine lv_ldiv hx hb dX8_digits_20 (by decide) ?_
      refine lv_topl (fun x8 ex8 => ?_)
      have h := h x8 ex8
      refine s_lstore (lk := [(3, .int x3)]) (lv' := [(4, .long x8), (3, .int x3), (6, .int x6)]) hx hb dX8_digits_21 hl (by decide) rfl (lk_1 rfl) rfl (fun ls hl => ?_)
      obtain ⟨x9, ex9⟩ : ∃ x : Int32, x = x6 + (1 : Int32) := ⟨_, rfl⟩
      have h := h x9 ex9
      refine s_iinc (v := x9) (d := 1) (lk := []) (lv' := [(6, .int x9), (4, .long x8), (3, .int x3)]) hx hb dX8_digits_23 hl (k := 2) rfl (by decide) (by decide) rfl lk_0 ex9 rfl (fun ls hl => ?_)
      refine lv_goto (tgt := 8) hx hb dX8_digits_26 (by decide) ?_
      exact ih x3 x8 x9 σ0 _ _ _ _ _ h hR hS (lv_sub hl [2, 1, 0] rfl) hc

def wX8_digits (p1 : Int64) (p2 : Int32) (p3 : Int32) (post : Int32 → St → Prop) (σ0 : St) : Prop :=
  ∀ x1 : Int32, x1 = (p2 + p3) → (∃ n10 : Nat, wX8_digits_8 post n10 p3 p1 x1 σ0)
set_option maxHeartbeats 4000000 in
set_option maxRecDepth 100000 in
theorem bX8_digits {p : Program} {l : Launch} {e : Env} {s : State} {m : MethodId} {args : Array Value} {below : List Frame} {meth : Method} {c : Code} {Γ : rGam} {post : Int32 → St → Prop} (F : Fx Γ p s m meth c args cX8_digits 9 RX8 wsX8_digits (some .int)) {H : Heap} {locs : List Loc} {ls : Array Slot} {cells slots : Nat} {p1 : Int64} {p2 : Int32} {p3 : Int32} {σ0 : St} (h : wX8_digits p1 p2 p3 post σ0) (hR : Rep Γ σ0 H) (hS : va_S (rA Γ) s.heap H locs) (hl : lv_has ls 9 [(0, .long p1), (2, .int p2), (3, .int p3)]) (hc : cells ≤ 0 ∧ slots ≤ 0) : W p l e rmX8_digits s m args below meth c H locs cells slots (rQi Γ below post args s 0 0) (F0 m 0 ls []) := by
  have hx := F.1.1
  have hb := F.1.2.1
  unfold wX8_digits at h
  refine lv_lload_n hx hb dX8_digits_0 rfl (lv_at hl 0 rfl) ?_
  refine s_lstore (lk := [(3, .int p3)]) (lv' := [(4, .long p1), (0, .long p1), (2, .int p2), (3, .int p3)]) hx hb dX8_digits_1 hl (by decide) rfl (lk_1 rfl) rfl (fun ls hl => ?_)
  refine lv_iload_n hx hb dX8_digits_3 rfl (lv_at hl 2 rfl) ?_
  refine lv_iload_n hx hb dX8_digits_4 rfl (lv_at hl 3 rfl) ?_
  refine lv_iadd hx hb dX8_digits_5 ?_
  refine lv_topi (fun x1 ex1 => ?_)
  have h := h x1 ex1
  refine s_istore (lk := []) (lv' := [(6, .int x1), (4, .long p1), (0, .long p1), (2, .int p2), (3, .int p3)]) hx hb dX8_digits_6 hl (by decide) rfl lk_0 rfl (fun ls hl => ?_)
  obtain ⟨n10, h⟩ := h
  exact bX8_digits_8 F n10 p3 p1 x1 σ0 _ _ _ _ _ h hR hS (lv_sub hl [4, 1, 0] rfl) hc
set_option maxHeartbeats 4000000 in
set_option maxRecDepth 100000 in
theorem kX8_digits (l : Launch) (Γ : rGam) (p1 : Int64) (p2 : Int32) (p3 : Int32) (post : Int32 → St → Prop) (σ0 : St) (h : wX8_digits p1 p2 p3 post σ0) : Met l yX8_digits wsX8_digits rmX8_digits (rPc Γ vwCl [.long p1, .int p2, .int p3] (Rep Γ σ0)) (va_Qi post (fun σ' t => Rep Γ σ' t.heap) (rA Γ)) 0 0 (rA Γ) := by
  refine Met.ofW (cc := cX8_digits) (maxL := 9) (ret := (some .int)) (by decide) rfl ?_
  intro p e s m args below meth c s₁ B hml hv
  obtain ⟨rfl, hR, hE⟩ := hv
  have F : Fx Γ p s m meth c _ cX8_digits 9 RX8 wsX8_digits (some .int) := ⟨⟨B.exec, B.bytes, hml, findClass_of_methodNamed B.named, atoms_spec (ws := wsX8_digits) B.pre⟩, hE, B.notSynchronized, B.returns⟩
  have hl := lv_entry ([.long p1, .int p2, .int p3]) (n := 9) (Nat.le_of_ble_eq_true rfl)
  rw [lg_entry_eq]
  generalize (lg_sl ([.long p1, .int p2, .int p3]) ++ List.replicate (9 - (lg_sl ([.long p1, .int p2, .int p3])).length) Slot.unset).toArray = ls at hl ⊢
  have hl : lv_has ls 9 [(0, .long p1), (2, .int p2), (3, .int p3)] := hl
  exact bX8_digits F h hR va_S.rf hl ⟨Nat.le_refl 0, Nat.le_refl 0⟩
