/-! X8_within -/
abbrev rmX8_within : Room := { frames := 0, cells := 0, slots := 0, locals := 0 }
set_option maxRecDepth 100000 in
def wX8_within (p1 : Int32) (p2 : Int32) (post : Int32 → St → Prop) (σ0 : St) : Prop :=
  (p1 < 0 → (post (0 : Int32) σ0)) ∧ (¬ p1 < 0 → ((p2 ≤ p1 → (post (0 : Int32) σ0)) ∧ (¬ p2 ≤ p1 → (post (1 : Int32) σ0))))
set_option maxHeartbeats 4000000 in
set_option maxRecDepth 100000 in
theorem bX8_within {p : Program} {l : Launch} {e : Env} {s : State} {m : MethodId} {args : Array Value} {below : List Frame} {meth : Method} {c : Code} {Γ : rGam} {post : Int32 → St → Prop} (F : Fx Γ p s m meth c args cX8_within 2 RX8 wsX8_within (some .boolean)) {H : Heap} {locs : List Loc} {ls : Array Slot} {cells slots : Nat} {p1 : Int32} {p2 : Int32} {σ0 : St} (h : wX8_within p1 p2 post σ0) (hR : Rep Γ σ0 H) (hS : va_S (rA Γ) s.heap H locs) (hl : lv_has ls 2 [(0, .int p1), (1, .int p2)]) (hc : cells ≤ 0 ∧ slots ≤ 0) : W p l e rmX8_within s m args below meth c H locs cells slots (rQi Γ below post args s 0 0) (F0 m 0 ls []) := by
  have hx := F.1.1
  have hb := F.1.2.1
  unfold wX8_within at h
  refine lv_iload_n hx hb dX8_within_0 rfl (lv_at hl 0 rfl) ?_
  refine lv_if_lt (tgt := 13) hx hb dX8_within_1 (by decide) (fun c1 => ?_) (fun c1 => ?_)
  · replace h := h.1 c1
    refine lv_iconst (v := 0) hx hb dX8_within_13 (by decide) ?_
    exact s_zret F hR hS (by unfold isB; decide) h hc dX8_within_14
  · replace h := h.2 c1
    refine lv_iload_n hx hb dX8_within_4 rfl (lv_at hl 0 rfl) ?_
    refine lv_iload_n hx hb dX8_within_5 rfl (lv_at hl 1 rfl) ?_
    refine lv_icmp_ge (tgt := 13) hx hb dX8_within_6 (by decide) (fun c2 => ?_) (fun c2 => ?_)
    · replace h := h.1 c2
      refine lv_iconst (v := 0) hx hb dX8_within_13 (by decide) ?_
      exact s_zret F hR hS (by unfold isB; decide) h hc dX8_within_14
    · replace h := h.2 c2
      refine lv_iconst (v := 1) hx hb dX8_within_9 (by decide) ?_
      refine lv_goto (tgt := 14) hx hb dX8_within_10 (by decide) ?_
      exact s_zret F hR hS (by unfold isB; decide) h hc dX8_within_14
set_option maxHeartbeats 4000000 in
set_option maxRecDepth 100000 in
theorem kX8_within (l : Launch) (Γ : rGam) (p1 : Int32) (p2 : Int32) (post : Int32 → St → Prop) (σ0 : St) (h : wX8_within p1 p2 post σ0) : Met l yX8_within wsX8_within rmX8_within (rPc Γ vwCl [.int p1, .int p2] (Rep Γ σ0)) (va_Qi post (fun σ' t => Rep Γ σ' t.heap) (rA Γ)) 0 0 (rA Γ) := by
  refine Met.ofW (cc := cX8_within) (maxL := 2) (ret := (some .boolean)) (by decide) rfl ?_
  intro p e s m args below meth c s₁ B hml hv
  obtain ⟨rfl, hR, hE⟩ := hv
  have F : Fx Γ p s m meth c _ cX8_within 2 RX8 wsX8_within (some .boolean) := ⟨⟨B.exec, B.bytes, hml, findClass_of_methodNamed B.named, atoms_spec (ws := wsX8_within) B.pre⟩, hE, B.notSynchronized, B.returns⟩
  have hl := lv_entry ([.int p1, .int p2]) (n := 2) (Nat.le_of_ble_eq_true rfl)
  rw [lg_entry_eq]
  generalize (lg_sl ([.int p1, .int p2]) ++ List.replicate (2 - (lg_sl ([.int p1, .int p2])).length) Slot.unset).toArray = ls at hl ⊢
  have hl : lv_has ls 2 [(0, .int p1), (1, .int p2)] := hl
  exact bX8_within F h hR va_S.rf hl ⟨Nat.le_refl 0, Nat.le_refl 0⟩
/-! X8_right -/
abbrev rmX8_right : Room := { frames := 0, cells := 0, slots := 0, locals := 0 }
set_option maxRecDepth 100000 in
def wX8_right_39 (k9 : Int32 → Int32 → Int32 → St → Prop) (post : Int32 → St → Prop) (x2 : Int32) (x3 : Int32) (x4 : Int32) (y0 : Int32) (σ0 : St) : Prop :=
  ∀ x10 : Int32, x10 = (x2 + (y0 * (x3 - x3 / (10 : Int32) * (10 : Int32)))) → (∀ x12 : Int32, x12 = (x3 / (10 : Int32)) → (∀ x14 : Int32, x14 = x4 + (-1 : Int32) → (k9 x10 x12 x14 σ0)))
set_option maxHeartbeats 4000000 in
set_option maxRecDepth 100000 in
theorem bX8_right_39 {p : Program} {l : Launch} {e : Env} {s : State} {m : MethodId} {args : Array Value} {below : List Frame} {meth : Method} {c : Code} {Γ : rGam} {post : Int32 → St → Prop} (F : Fx Γ p s m meth c args cX8_right 6 RX8 wsX8_right (some .boolean)) {k9 : Int32 → Int32 → Int32 → St → Prop} (hk9 : ∀ (x2 : Int32) (x3 : Int32) (x4 : Int32) (σ0 : St) (H : Heap) (locs : List Loc) (ls : Array Slot) (cells slots : Nat), k9 x2 x3 x4 σ0 → Rep Γ σ0 H → va_S (rA Γ) s.heap H locs → lv_has ls 6 [(2, .int x2), (3, .int x3), (4, .int x4)] → cells ≤ 0 ∧ slots ≤ 0 → W p l e rmX8_right s m args below meth c H locs cells slots (rQi Γ below post args s 0 0) (F0 m 9 ls [])) {H : Heap} {locs : List Loc} {ls : Array Slot} {cells slots : Nat} {x2 : Int32} {x3 : Int32} {x4 : Int32} {y0 : Int32} {σ0 : St} (h : wX8_right_39 k9 post x2 x3 x4 y0 σ0) (hR : Rep Γ σ0 H) (hS : va_S (rA Γ) s.heap H locs) (hl : lv_has ls 6 [(2, .int x2), (3, .int x3), (4, .int x4)]) (hc : cells ≤ 0 ∧ slots ≤ 0) : W p l e rmX8_right s m args below meth c H locs cells slots (rQi Γ below post args s 0 0) (F0 m 39 ls [.int y0]) := by
  have hx := F.1.1
  have hb := F.1.2.1
  unfold wX8_right_39 at h
  refine s_istore (lk := [(4, .int x4)]) (lv' := [(5, .int y0), (2, .int x2), (3, .int x3), (4, .int x4)]) hx hb dX8_right_39 hl (by decide) rfl (lk_1 rfl) rfl (fun ls hl9 => ?_)
  refine lv_iload_n hx hb dX8_right_41 rfl (lv_at hl9 1 rfl) ?_
  refine lv_iload hx hb dX8_right_42 (lv_at hl9 0 rfl) ?_
  refine lv_iload_n hx hb dX8_right_44 rfl (lv_at hl9 2 rfl) ?_
  refine lv_bipush (v := 10) hx hb dX8_right_45 (by decide) ?_
  refine lv_irem hx hb dX8_right_47 (by decide) ?_
  refine lv_imul hx hb dX8_right_48 ?_
  refine lv_iadd hx hb dX8_right_49 ?_
  refine lv_topi (fun x10 ex10 => ?_)
  replace h := h x10 ex10
  refine s_istore_n (lk := []) (lv' := [(2, .int x10), (5, .int y0), (3, .int x3), (4, .int x4)]) hx hb dX8_right_50 rfl hl9 (by decide) rfl lk_0 rfl (fun ls hl11 => ?_)
  refine lv_iload_n hx hb dX8_right_51 rfl (lv_at hl11 2 rfl) ?_
  refine lv_bipush (v := 10) hx hb dX8_right_52 (by decide) ?_
  refine lv_idiv hx hb dX8_right_54 (by decide) ?_
  refine lv_topi (fun x12 ex12 => ?_)
  replace h := h x12 ex12
  refine s_istore_n (lk := [(2, .int x10)]) (lv' := [(3, .int x12), (2, .int x10), (5, .int y0), (4, .int x4)]) hx hb dX8_right_55 rfl hl11 (by decide) rfl (lk_1 rfl) rfl (fun ls hl13 => ?_)
  obtain ⟨x14, ex14⟩ : ∃ x : Int32, x = x4 + (-1 : Int32) := ⟨_, rfl⟩
  replace h := h x14 ex14
  refine s_iinc (v := x14) (d := -1) (lk := [(3, .int x12)]) (lv' := [(4, .int x14), (3, .int x12), (2, .int x10), (5, .int y0)]) hx hb dX8_right_56 hl13 (k := 3) rfl (by decide) (by decide) rfl (lk_1 rfl) ex14 rfl (fun ls hl15 => ?_)
  refine lv_goto (tgt := 9) hx hb dX8_right_59 (by decide) ?_
  exact hk9 x10 x12 x14 σ0 _ _ _ _ _ h hR hS (lv_sub hl15 [2, 1, 0] rfl) hc

set_option maxRecDepth 100000 in
def wX8_right_9 (post : Int32 → St → Prop) : Nat → Int32 → Int32 → Int32 → St → Prop
  | 0, _, _, _, _ => False
  | n + 1, x2, x3, x4, σ0 =>
    (x4 < 0 → (((x2 - x2 / (10 : Int32) * (10 : Int32)) = 0 → (post (1 : Int32) σ0)) ∧ (¬ (x2 - x2 / (10 : Int32) * (10 : Int32)) = 0 → (post (0 : Int32) σ0)))) ∧ (¬ x4 < 0 → (((x4 - x4 / (3 : Int32) * (3 : Int32)) = 0 → (wX8_right_39 (wX8_right_9 post n) post x2 x3 x4 (3 : Int32) σ0)) ∧ (¬ (x4 - x4 / (3 : Int32) * (3 : Int32)) = 0 → (((x4 - x4 / (3 : Int32) * (3 : Int32)) = (1 : Int32) → (wX8_right_39 (wX8_right_9 post n) post x2 x3 x4 (7 : Int32) σ0)) ∧ (¬ (x4 - x4 / (3 : Int32) * (3 : Int32)) = (1 : Int32) → (wX8_right_39 (wX8_right_9 post n) post x2 x3 x4 (1 : Int32) σ0))))))
set_option maxHeartbeats 4000000 in
set_option maxRecDepth 100000 in
theorem bX8_right_9 {p : Program} {l : Launch} {e : Env} {s : State} {m : MethodId} {args : Array Value} {below : List Frame} {meth : Method} {c : Code} {Γ : rGam} {post : Int32 → St → Prop} (F : Fx Γ p s m meth c args cX8_right 6 RX8 wsX8_right (some .boolean)) : ∀ (n : Nat) (x2 : Int32) (x3 : Int32) (x4 : Int32) (σ0 : St) (H : Heap) (locs : List Loc) (ls : Array Slot) (cells slots : Nat), wX8_right_9 post n x2 x3 x4 σ0 → Rep Γ σ0 H → va_S (rA Γ) s.heap H locs → lv_has ls 6 [(2, .int x2), (3, .int x3), (4, .int x4)] → cells ≤ 0 ∧ slots ≤ 0 → W p l e rmX8_right s m args below meth c H locs cells slots (rQi Γ below post args s 0 0) (F0 m 9 ls []) := by
  have hx := F.1.1
  have hb := F.1.2.1
  intro n
  induction n with
  | zero =>
    intro x2 x3 x4 σ0 H locs ls cells slots h
    exact absurd h (by unfold wX8_right_9; exact id)
  | succ n ih =>
    intro x2 x3 x4 σ0 H locs ls cells slots h hR hS hl hc
    unfold wX8_right_9 at h
    refine lv_iload hx hb dX8_right_9 (lv_at hl 2 rfl) ?_
    refine lv_if_lt (tgt := 62) hx hb dX8_right_11 (by decide) (fun c5 => ?_) (fun c5 => ?_)
    · replace h := h.1 c5
      refine lv_iload_n hx hb dX8_right_62 rfl (lv_at hl 0 rfl) ?_
      refine lv_bipush (v := 10) hx hb dX8_right_63 (by decide) ?_
      refine lv_irem hx hb dX8_right_65 (by decide) ?_
      refine lv_if_ne (tgt := 73) hx hb dX8_right_66 (by decide) (fun c6 => ?_) (fun c6 => ?_)
      · replace h := h.2 c6
        refine lv_iconst (v := 0) hx hb dX8_right_73 (by decide) ?_
        exact s_zret F hR hS (by unfold isB; decide) h hc dX8_right_74
      · replace h := h.1 c6
        refine lv_iconst (v := 1) hx hb dX8_right_69 (by decide) ?_
        refine lv_goto (tgt := 74) hx hb dX8_right_70 (by decide) ?_
        exact s_zret F hR hS (by unfold isB; decide) h hc dX8_right_74
    · replace h := h.2 c5
      refine lv_iload hx hb dX8_right_14 (lv_at hl 2 rfl) ?_
      refine lv_iconst (v := 3) hx hb dX8_right_16 (by decide) ?_
      refine lv_irem hx hb dX8_right_17 (by decide) ?_
      refine lv_if_ne (tgt := 25) hx hb dX8_right_18 (by decide) (fun c7 => ?_) (fun c7 => ?_)
      · replace h := h.2 c7
        refine lv_iload hx hb dX8_right_25 (lv_at hl 2 rfl) ?_
        refine lv_iconst (v := 3) hx hb dX8_right_27 (by decide) ?_
        refine lv_irem hx hb dX8_right_28 (by decide) ?_
        refine lv_iconst (v := 1) hx hb dX8_right_29 (by decide) ?_
        refine lv_icmp_ne (tgt := 38) hx hb dX8_right_30 (by decide) (fun c8 => ?_) (fun c8 => ?_)
        · replace h := h.2 c8
          refine lv_iconst (v := 1) hx hb dX8_right_38 (by decide) ?_
          exact bX8_right_39 F (fun x2 x3 x4 σ0 H locs ls cells slots h hR hS hl hc => ih x2 x3 x4 σ0 H locs ls cells slots h hR hS hl hc) h hR hS (lv_sub hl [0, 1, 2] rfl) hc
        · replace h := h.1 c8
          refine lv_bipush (v := 7) hx hb dX8_right_33 (by decide) ?_
          refine lv_goto (tgt := 39) hx hb dX8_right_35 (by decide) ?_
          exact bX8_right_39 F (fun x2 x3 x4 σ0 H locs ls cells slots h hR hS hl hc => ih x2 x3 x4 σ0 H locs ls cells slots h hR hS hl hc) h hR hS (lv_sub hl [0, 1, 2] rfl) hc
      · replace h := h.1 c7
        refine lv_iconst (v := 3) hx hb dX8_right_21 (by decide) ?_
        refine lv_goto (tgt := 39) hx hb dX8_right_22 (by decide) ?_
        exact bX8_right_39 F (fun x2 x3 x4 σ0 H locs ls cells slots h hR hS hl hc => ih x2 x3 x4 σ0 H locs ls cells slots h hR hS hl hc) h hR hS (lv_sub hl [0, 1, 2] rfl) hc

set_option maxRecDepth 100000 in
def wX8_right (p1 : Int32) (p2 : Int32) (post : Int32 → St → Prop) (σ0 : St) : Prop :=
  ∀ x3 : Int32, x3 = (p2 - (1 : Int32)) → (∃ n16 : Nat, wX8_right_9 post n16 (0 : Int32) p1 x3 σ0)
set_option maxHeartbeats 4000000 in
set_option maxRecDepth 100000 in
theorem bX8_right {p : Program} {l : Launch} {e : Env} {s : State} {m : MethodId} {args : Array Value} {below : List Frame} {meth : Method} {c : Code} {Γ : rGam} {post : Int32 → St → Prop} (F : Fx Γ p s m meth c args cX8_right 6 RX8 wsX8_right (some .boolean)) {H : Heap} {locs : List Loc} {ls : Array Slot} {cells slots : Nat} {p1 : Int32} {p2 : Int32} {σ0 : St} (h : wX8_right p1 p2 post σ0) (hR : Rep Γ σ0 H) (hS : va_S (rA Γ) s.heap H locs) (hl : lv_has ls 6 [(0, .int p1), (1, .int p2)]) (hc : cells ≤ 0 ∧ slots ≤ 0) : W p l e rmX8_right s m args below meth c H locs cells slots (rQi Γ below post args s 0 0) (F0 m 0 ls []) := by
  have hx := F.1.1
  have hb := F.1.2.1
  unfold wX8_right at h
  refine lv_iconst (v := 0) hx hb dX8_right_0 (by decide) ?_
  refine s_istore_n (lk := [(1, .int p2)]) (lv' := [(2, .int (0 : Int32)), (0, .int p1), (1, .int p2)]) hx hb dX8_right_1 rfl hl (by decide) rfl (lk_1 rfl) rfl (fun ls hl1 => ?_)
  refine lv_iload_n hx hb dX8_right_2 rfl (lv_at hl1 1 rfl) ?_
  refine s_istore_n (lk := [(2, .int (0 : Int32))]) (lv' := [(3, .int p1), (2, .int (0 : Int32)), (0, .int p1), (1, .int p2)]) hx hb dX8_right_3 rfl hl1 (by decide) rfl (lk_1 rfl) rfl (fun ls hl2 => ?_)
  refine lv_iload_n hx hb dX8_right_4 rfl (lv_at hl2 3 rfl) ?_
  refine lv_iconst (v := 1) hx hb dX8_right_5 (by decide) ?_
  refine lv_isub hx hb dX8_right_6 ?_
  refine lv_topi (fun x3 ex3 => ?_)
  replace h := h x3 ex3
  refine s_istore (lk := [(3, .int p1)]) (lv' := [(4, .int x3), (3, .int p1), (2, .int (0 : Int32)), (0, .int p1), (1, .int p2)]) hx hb dX8_right_7 hl2 (by decide) rfl (lk_1 rfl) rfl (fun ls hl4 => ?_)
  obtain ⟨n16, h⟩ := h
  exact bX8_right_9 F n16 (0 : Int32) p1 x3 σ0 _ _ _ _ _ h hR hS (lv_sub hl4 [2, 1, 0] rfl) hc
set_option maxHeartbeats 4000000 in
set_option maxRecDepth 100000 in
theorem kX8_right (l : Launch) (Γ : rGam) (p1 : Int32) (p2 : Int32) (post : Int32 → St → Prop) (σ0 : St) (h : wX8_right p1 p2 post σ0) : Met l yX8_right wsX8_right rmX8_right (rPc Γ vwCl [.int p1, .int p2] (Rep Γ σ0)) (va_Qi post (fun σ' t => Rep Γ σ' t.heap) (rA Γ)) 0 0 (rA Γ) := by
  refine Met.ofW (cc := cX8_right) (maxL := 6) (ret := (some .boolean)) (by decide) rfl ?_
  intro p e s m args below meth c s₁ B hml hv
  obtain ⟨rfl, hR, hE⟩ := hv
  have F : Fx Γ p s m meth c _ cX8_right 6 RX8 wsX8_right (some .boolean) := ⟨⟨B.exec, B.bytes, hml, findClass_of_methodNamed B.named, atoms_spec (ws := wsX8_right) B.pre⟩, hE, B.notSynchronized, B.returns⟩
  have hl := lv_entry ([.int p1, .int p2]) (n := 6) (Nat.le_of_ble_eq_true rfl)
  rw [lg_entry_eq]
  generalize (lg_sl ([.int p1, .int p2]) ++ List.replicate (6 - (lg_sl ([.int p1, .int p2])).length) Slot.unset).toArray = ls at hl ⊢
  have hl : lv_has ls 6 [(0, .int p1), (1, .int p2)] := hl
  exact bX8_right F h hR va_S.rf hl ⟨Nat.le_refl 0, Nat.le_refl 0⟩
/-! X8_digits -/
theorem mX8_digits_0 : Cond.constantLong RX8 117 (10) ∈ wsX8_digits := by decide +kernel
abbrev rmX8_digits : Room := { frames := 0, cells := 0, slots := 0, locals := 0 }
set_option maxRecDepth 100000 in
def wX8_digits_35 (post : Int32 → St → Prop) : Nat → Int32 → Int64 → Int64 → Int32 → St → Prop
  | 0, _, _, _, _, _ => False
  | n + 1, x3, x4, x6, x8, σ0 =>
    (x3 ≤ x8 → (¬ x6 = 0 ∧ (post ((x4 - x4 / x6 * x6).toInt32) σ0))) ∧ (¬ x3 ≤ x8 → (∀ x9 : Int64, x9 = (x6 * (10 : Int64)) → (∀ x11 : Int32, x11 = x8 + (1 : Int32) → (wX8_digits_35 post n x3 x4 x9 x11 σ0))))
set_option maxHeartbeats 4000000 in
set_option maxRecDepth 100000 in
theorem bX8_digits_35 {p : Program} {l : Launch} {e : Env} {s : State} {m : MethodId} {args : Array Value} {below : List Frame} {meth : Method} {c : Code} {Γ : rGam} {post : Int32 → St → Prop} (F : Fx Γ p s m meth c args cX8_digits 9 RX8 wsX8_digits (some .int)) : ∀ (n : Nat) (x3 : Int32) (x4 : Int64) (x6 : Int64) (x8 : Int32) (σ0 : St) (H : Heap) (locs : List Loc) (ls : Array Slot) (cells slots : Nat), wX8_digits_35 post n x3 x4 x6 x8 σ0 → Rep Γ σ0 H → va_S (rA Γ) s.heap H locs → lv_has ls 9 [(3, .int x3), (4, .long x4), (6, .long x6), (8, .int x8)] → cells ≤ 0 ∧ slots ≤ 0 → W p l e rmX8_digits s m args below meth c H locs cells slots (rQi Γ below post args s 0 0) (F0 m 35 ls []) := by
  have hx := F.1.1
  have hb := F.1.2.1
  intro n
  induction n with
  | zero =>
    intro x3 x4 x6 x8 σ0 H locs ls cells slots h
    exact absurd h (by unfold wX8_digits_35; exact id)
  | succ n ih =>
    intro x3 x4 x6 x8 σ0 H locs ls cells slots h hR hS hl hc
    unfold wX8_digits_35 at h
    refine lv_iload hx hb dX8_digits_35 (lv_at hl 3 rfl) ?_
    refine lv_iload_n hx hb dX8_digits_37 rfl (lv_at hl 0 rfl) ?_
    refine lv_icmp_ge (tgt := 55) hx hb dX8_digits_38 (by decide) (fun c7 => ?_) (fun c7 => ?_)
    · replace h := h.1 c7
      refine lv_lload hx hb dX8_digits_55 (lv_at hl 1 rfl) ?_
      refine lv_lload hx hb dX8_digits_57 (lv_at hl 2 rfl) ?_
      obtain ⟨z8, h⟩ := h
      refine lv_lrem hx hb dX8_digits_59 z8 ?_
      refine lv_l2i hx hb dX8_digits_60 rfl ?_
      exact s_iret F hR hS h hc dX8_digits_61
    · replace h := h.2 c7
      refine lv_lload hx hb dX8_digits_41 (lv_at hl 2 rfl) ?_
      refine lv_ldc2 hx hb F.1.2.2.2.1 (F.1.2.2.2.2 _ mX8_digits_0) dX8_digits_43 ?_
      refine lv_lmul hx hb dX8_digits_46 ?_
      refine lv_topl (fun x9 ex9 => ?_)
      replace h := h x9 ex9
      refine s_lstore (lk := []) (lv' := [(6, .long x9), (3, .int x3), (4, .long x4), (8, .int x8)]) hx hb dX8_digits_47 hl (by decide) rfl lk_0 rfl (fun ls hl10 => ?_)
      obtain ⟨x11, ex11⟩ : ∃ x : Int32, x = x8 + (1 : Int32) := ⟨_, rfl⟩
      replace h := h x11 ex11
      refine s_iinc (v := x11) (d := 1) (lk := []) (lv' := [(8, .int x11), (6, .long x9), (3, .int x3), (4, .long x4)]) hx hb dX8_digits_49 hl10 (k := 3) rfl (by decide) (by decide) rfl lk_0 ex11 rfl (fun ls hl12 => ?_)
      refine lv_goto (tgt := 35) hx hb dX8_digits_52 (by decide) ?_
      exact ih x3 x4 x9 x11 σ0 _ _ _ _ _ h hR hS (lv_sub hl12 [2, 3, 1, 0] rfl) hc

set_option maxRecDepth 100000 in
def wX8_digits_8 (post : Int32 → St → Prop) : Nat → Int32 → Int64 → Int32 → St → Prop
  | 0, _, _, _, _ => False
  | n + 1, x3, x4, x6, σ0 =>
    ((18 : Int32) ≤ x6 → (∃ n13 : Nat, wX8_digits_35 post n13 x3 x4 (1 : Int64) (0 : Int32) σ0)) ∧ (¬ (18 : Int32) ≤ x6 → (∀ x14 : Int64, x14 = (x4 / (10 : Int64)) → (∀ x16 : Int32, x16 = x6 + (1 : Int32) → (wX8_digits_8 post n x3 x14 x16 σ0))))
set_option maxHeartbeats 4000000 in
set_option maxRecDepth 100000 in
theorem bX8_digits_8 {p : Program} {l : Launch} {e : Env} {s : State} {m : MethodId} {args : Array Value} {below : List Frame} {meth : Method} {c : Code} {Γ : rGam} {post : Int32 → St → Prop} (F : Fx Γ p s m meth c args cX8_digits 9 RX8 wsX8_digits (some .int)) : ∀ (n : Nat) (x3 : Int32) (x4 : Int64) (x6 : Int32) (σ0 : St) (H : Heap) (locs : List Loc) (ls : Array Slot) (cells slots : Nat), wX8_digits_8 post n x3 x4 x6 σ0 → Rep Γ σ0 H → va_S (rA Γ) s.heap H locs → lv_has ls 9 [(3, .int x3), (4, .long x4), (6, .int x6)] → cells ≤ 0 ∧ slots ≤ 0 → W p l e rmX8_digits s m args below meth c H locs cells slots (rQi Γ below post args s 0 0) (F0 m 8 ls []) := by
  have hx := F.1.1
  have hb := F.1.2.1
  intro n
  induction n with
  | zero =>
    intro x3 x4 x6 σ0 H locs ls cells slots h
    exact absurd h (by unfold wX8_digits_8; exact id)
  | succ n ih =>
    intro x3 x4 x6 σ0 H locs ls cells slots h hR hS hl hc
    unfold wX8_digits_8 at h
    refine lv_iload hx hb dX8_digits_8 (lv_at hl 2 rfl) ?_
    refine lv_bipush (v := 18) hx hb dX8_digits_10 (by decide) ?_
    refine lv_icmp_ge (tgt := 29) hx hb dX8_digits_12 (by decide) (fun c4 => ?_) (fun c4 => ?_)
    · replace h := h.1 c4
      refine lv_lconst (v := 1) hx hb dX8_digits_29 (by decide) ?_
      refine s_lstore (lk := []) (lv' := [(6, .long (1 : Int64)), (3, .int x3), (4, .long x4)]) hx hb dX8_digits_30 hl (by decide) rfl lk_0 rfl (fun ls hl5 => ?_)
      refine lv_iconst (v := 0) hx hb dX8_digits_32 (by decide) ?_
      refine s_istore (lk := []) (lv' := [(8, .int (0 : Int32)), (6, .long (1 : Int64)), (3, .int x3), (4, .long x4)]) hx hb dX8_digits_33 hl5 (by decide) rfl lk_0 rfl (fun ls hl6 => ?_)
      obtain ⟨n13, h⟩ := h
      exact bX8_digits_35 F n13 x3 x4 (1 : Int64) (0 : Int32) σ0 _ _ _ _ _ h hR hS (lv_sub hl6 [2, 3, 1, 0] rfl) hc
    · replace h := h.2 c4
      refine lv_lload hx hb dX8_digits_15 (lv_at hl 1 rfl) ?_
      refine lv_ldc2 hx hb F.1.2.2.2.1 (F.1.2.2.2.2 _ mX8_digits_0) dX8_digits_17 ?_
      refine lv_ldiv hx hb dX8_digits_20 (by decide) ?_
      refine lv_topl (fun x14 ex14 => ?_)
      replace h := h x14 ex14
      refine s_lstore (lk := [(3, .int x3)]) (lv' := [(4, .long x14), (3, .int x3), (6, .int x6)]) hx hb dX8_digits_21 hl (by decide) rfl (lk_1 rfl) rfl (fun ls hl15 => ?_)
      obtain ⟨x16, ex16⟩ : ∃ x : Int32, x = x6 + (1 : Int32) := ⟨_, rfl⟩
      replace h := h x16 ex16
      refine s_iinc (v := x16) (d := 1) (lk := []) (lv' := [(6, .int x16), (4, .long x14), (3, .int x3)]) hx hb dX8_digits_23 hl15 (k := 2) rfl (by decide) (by decide) rfl lk_0 ex16 rfl (fun ls hl17 => ?_)
      refine lv_goto (tgt := 8) hx hb dX8_digits_26 (by decide) ?_
      exact ih x3 x14 x16 σ0 _ _ _ _ _ h hR hS (lv_sub hl17 [2, 1, 0] rfl) hc

set_option maxRecDepth 100000 in
def wX8_digits (p1 : Int64) (p2 : Int32) (p3 : Int32) (post : Int32 → St → Prop) (σ0 : St) : Prop :=
  ∀ x2 : Int32, x2 = (p2 + p3) → (∃ n18 : Nat, wX8_digits_8 post n18 p3 p1 x2 σ0)
set_option maxHeartbeats 4000000 in
set_option maxRecDepth 100000 in
theorem bX8_digits {p : Program} {l : Launch} {e : Env} {s : State} {m : MethodId} {args : Array Value} {below : List Frame} {meth : Method} {c : Code} {Γ : rGam} {post : Int32 → St → Prop} (F : Fx Γ p s m meth c args cX8_digits 9 RX8 wsX8_digits (some .int)) {H : Heap} {locs : List Loc} {ls : Array Slot} {cells slots : Nat} {p1 : Int64} {p2 : Int32} {p3 : Int32} {σ0 : St} (h : wX8_digits p1 p2 p3 post σ0) (hR : Rep Γ σ0 H) (hS : va_S (rA Γ) s.heap H locs) (hl : lv_has ls 9 [(0, .long p1), (2, .int p2), (3, .int p3)]) (hc : cells ≤ 0 ∧ slots ≤ 0) : W p l e rmX8_digits s m args below meth c H locs cells slots (rQi Γ below post args s 0 0) (F0 m 0 ls []) := by
  have hx := F.1.1
  have hb := F.1.2.1
  unfold wX8_digits at h
  refine lv_lload_n hx hb dX8_digits_0 rfl (lv_at hl 0 rfl) ?_
  refine s_lstore (lk := [(3, .int p3)]) (lv' := [(4, .long p1), (0, .long p1), (2, .int p2), (3, .int p3)]) hx hb dX8_digits_1 hl (by decide) rfl (lk_1 rfl) rfl (fun ls hl1 => ?_)
  refine lv_iload_n hx hb dX8_digits_3 rfl (lv_at hl1 2 rfl) ?_
  refine lv_iload_n hx hb dX8_digits_4 rfl (lv_at hl1 3 rfl) ?_
  refine lv_iadd hx hb dX8_digits_5 ?_
  refine lv_topi (fun x2 ex2 => ?_)
  replace h := h x2 ex2
  refine s_istore (lk := []) (lv' := [(6, .int x2), (4, .long p1), (0, .long p1), (2, .int p2), (3, .int p3)]) hx hb dX8_digits_6 hl1 (by decide) rfl lk_0 rfl (fun ls hl3 => ?_)
  obtain ⟨n18, h⟩ := h
  exact bX8_digits_8 F n18 p3 p1 x2 σ0 _ _ _ _ _ h hR hS (lv_sub hl3 [4, 1, 0] rfl) hc
set_option maxHeartbeats 4000000 in
set_option maxRecDepth 100000 in
theorem kX8_digits (l : Launch) (Γ : rGam) (p1 : Int64) (p2 : Int32) (p3 : Int32) (post : Int32 → St → Prop) (σ0 : St) (h : wX8_digits p1 p2 p3 post σ0) : Met l yX8_digits wsX8_digits rmX8_digits (rPc Γ vwCl [.long p1, .int p2, .int p3] (Rep Γ σ0)) (va_Qi post (fun σ' t => Rep Γ σ' t.heap) (rA Γ)) 0 0 (rA Γ) := by
  refine Met.ofW (cc := cX8_digits) (maxL := 9) (ret := (some .int)) (by decide) rfl ?_
  intro p e s m args below meth c s₁ B hml hv
  obtain ⟨rfl, hR, hE⟩ := hv
  have F : Fx Γ p s m meth c _ cX8_digits 9 RX8 wsX8_digits (some .int) := ⟨⟨B.exec, B.bytes, hml, findClass_of_methodNamed B.named, atoms_spec (ws := wsX8_digits) B.pre⟩, hE, B.notSynchronized, B.returns⟩
  have hl := lv_entry ([.long p1, .int p2, .int p3]) (n := 9) (Nat.le_of_ble_eq_true rfl)
  rw [lg_entry_eq]
  generalize (lg_sl ([.long p1, .int p2, .int p3]) ++ List.replicate (9 - (lg_sl ([.long p1, .int p2, .int p3])).length) Slot.unset).toArray = ls at hl ⊢
  have hl : lv_has ls 9 [(0, .long p1), (2, .int p2), (3, .int p3)] := hl
  exact bX8_digits F h hR va_S.rf hl ⟨Nat.le_refl 0, Nat.le_refl 0⟩
/-! X8_bankOf -/
theorem mX8_bankOf_0 : Cond.fieldLink RX8 119 "ClearingFilesModel" "banks" "I" ∈ wsX8_bankOf := by decide +kernel
theorem mX8_bankOf_1 : Cond.fieldLink RX8 7 "ClearingFilesModel" "routings" "[I" ∈ wsX8_bankOf := by decide +kernel
theorem nX8_bankOf_X8 : ∀ w ∈ u_ws RX8 TX8 46, w ∈ wsX8_bankOf := fun _ h => List.mem_cons_of_mem _ (List.mem_append_right _ h)
abbrev rmX8_bankOf : Room := { frames := 0, cells := 0, slots := 0, locals := 0 }
set_option maxRecDepth 100000 in
def wX8_bankOf_2 (o : Nat) (post : Int32 → St → Prop) : Nat → Int32 → Int32 → St → Prop
  | 0, _, _, _ => False
  | n + 1, x1, x2, σ0 =>
    sK σ0 o = 9 ∧ (((sI σ0 450 o 0) ≤ x2 → (post (-1 : Int32) σ0)) ∧ (¬ (sI σ0 450 o 0) ≤ x2 → (sK σ0 o = 9 ∧ (∀ r5 : Option Nat, r5 = sR σ0 451 o 0 → (∃ a6 : Nat, r5 = some a6 ∧ (sK σ0 a6 = 1451 ∧ (vp_in x2 5 ∧ (((sI σ0 1451 a6 x2.toNatClampNeg) = x1 → (post x2 σ0)) ∧ (¬ (sI σ0 1451 a6 x2.toNatClampNeg) = x1 → (∀ x10 : Int32, x10 = x2 + (1 : Int32) → (wX8_bankOf_2 o post n x1 x10 σ0)))))))))))
set_option maxHeartbeats 4000000 in
set_option maxRecDepth 100000 in
theorem bX8_bankOf_2 {p : Program} {l : Launch} {e : Env} {s : State} {m : MethodId} {args : Array Value} {below : List Frame} {meth : Method} {c : Code} {Γ : rGam} {o : Nat} {post : Int32 → St → Prop} (F : Fx Γ p s m meth c args cX8_bankOf 3 RX8 wsX8_bankOf (some .int)) : ∀ (n : Nat) (x1 : Int32) (x2 : Int32) (σ0 : St) (H : Heap) (locs : List Loc) (ls : Array Slot) (cells slots : Nat), wX8_bankOf_2 o post n x1 x2 σ0 → Rep Γ σ0 H → va_S (rA Γ) s.heap H locs → lv_has ls 3 [(0, .ref o), (1, .int x1), (2, .int x2)] → cells ≤ 0 ∧ slots ≤ 0 → W p l e rmX8_bankOf s m args below meth c H locs cells slots (rQi Γ below post args s 0 0) (F0 m 2 ls []) := by
  have hx := F.1.1
  have hb := F.1.2.1
  intro n
  induction n with
  | zero =>
    intro x1 x2 σ0 H locs ls cells slots h
    exact absurd h (by unfold wX8_bankOf_2; exact id)
  | succ n ih =>
    intro x1 x2 σ0 H locs ls cells slots h hR hS hl hc
    unfold wX8_bankOf_2 at h
    refine lv_iload_n hx hb dX8_bankOf_2 rfl (lv_at hl 2 rfl) ?_
    refine lv_aload_n hx hb dX8_bankOf_3 rfl (lv_at hl 0 rfl) ?_
    obtain ⟨k2, h⟩ := h
    refine s_getI F hR k2 (by decide) (C := RX8) (T := TX8) (N := 46) rfl nX8_bankOf_X8 0 (by decide) mX8_bankOf_0 (f := 450) rfl dX8_bankOf_4 ?_
    refine lv_icmp_ge (tgt := 28) hx hb dX8_bankOf_7 (by decide) (fun c3 => ?_) (fun c3 => ?_)
    · replace h := h.1 c3
      refine lv_iconst (v := -1) hx hb dX8_bankOf_28 (by decide) ?_
      exact s_iret F hR hS h hc dX8_bankOf_29
    · replace h := h.2 c3
      refine lv_aload_n hx hb dX8_bankOf_10 rfl (lv_at hl 0 rfl) ?_
      obtain ⟨k4, h⟩ := h
      refine s_getR F hR k4 (by decide) (C := RX8) (T := TX8) (N := 46) rfl nX8_bankOf_X8 1 (by decide) mX8_bankOf_1 (f := 451) rfl dX8_bankOf_11 (fun r5 er5 => ?_)
      replace h := h r5 er5
      refine lv_iload_n hx hb dX8_bankOf_14 rfl (lv_at hl 2 rfl) ?_
      obtain ⟨a6, ea6, h⟩ := h
      subst ea6
      obtain ⟨k7, h⟩ := h
      obtain ⟨z8, h⟩ := h
      refine s_iald F hR k7 (by decide) rfl z8 dX8_bankOf_15 ?_
      refine lv_iload_n hx hb dX8_bankOf_16 rfl (lv_at hl 1 rfl) ?_
      refine lv_icmp_ne (tgt := 22) hx hb dX8_bankOf_17 (by decide) (fun c9 => ?_) (fun c9 => ?_)
      · replace h := h.2 c9
        obtain ⟨x10, ex10⟩ : ∃ x : Int32, x = x2 + (1 : Int32) := ⟨_, rfl⟩
        replace h := h x10 ex10
        refine s_iinc (v := x10) (d := 1) (lk := [(1, .int x1)]) (lv' := [(2, .int x10), (0, .ref o), (1, .int x1)]) hx hb dX8_bankOf_22 hl (k := 2) rfl (by decide) (by decide) rfl (lk_1 rfl) ex10 rfl (fun ls hl11 => ?_)
        refine lv_goto (tgt := 2) hx hb dX8_bankOf_25 (by decide) ?_
        exact ih x1 x10 σ0 _ _ _ _ _ h hR hS (lv_sub hl11 [1, 2, 0] rfl) hc
      · replace h := h.1 c9
        refine lv_iload_n hx hb dX8_bankOf_20 rfl (lv_at hl 2 rfl) ?_
        exact s_iret F hR hS h hc dX8_bankOf_21

set_option maxRecDepth 100000 in
def wX8_bankOf (o : Nat) (p1 : Int32) (post : Int32 → St → Prop) (σ0 : St) : Prop :=
  ∃ n12 : Nat, wX8_bankOf_2 o post n12 p1 (0 : Int32) σ0
set_option maxHeartbeats 4000000 in
set_option maxRecDepth 100000 in
theorem bX8_bankOf {p : Program} {l : Launch} {e : Env} {s : State} {m : MethodId} {args : Array Value} {below : List Frame} {meth : Method} {c : Code} {Γ : rGam} {o : Nat} {post : Int32 → St → Prop} (F : Fx Γ p s m meth c args cX8_bankOf 3 RX8 wsX8_bankOf (some .int)) {H : Heap} {locs : List Loc} {ls : Array Slot} {cells slots : Nat} {p1 : Int32} {σ0 : St} (h : wX8_bankOf o p1 post σ0) (hR : Rep Γ σ0 H) (hS : va_S (rA Γ) s.heap H locs) (hl : lv_has ls 3 [(0, .ref o), (1, .int p1)]) (hc : cells ≤ 0 ∧ slots ≤ 0) : W p l e rmX8_bankOf s m args below meth c H locs cells slots (rQi Γ below post args s 0 0) (F0 m 0 ls []) := by
  have hx := F.1.1
  have hb := F.1.2.1
  unfold wX8_bankOf at h
  refine lv_iconst (v := 0) hx hb dX8_bankOf_0 (by decide) ?_
  refine s_istore_n (lk := [(1, .int p1)]) (lv' := [(2, .int (0 : Int32)), (0, .ref o), (1, .int p1)]) hx hb dX8_bankOf_1 rfl hl (by decide) rfl (lk_1 rfl) rfl (fun ls hl1 => ?_)
  obtain ⟨n12, h⟩ := h
  exact bX8_bankOf_2 F n12 p1 (0 : Int32) σ0 _ _ _ _ _ h hR hS (lv_sub hl1 [1, 2, 0] rfl) hc
set_option maxHeartbeats 4000000 in
set_option maxRecDepth 100000 in
theorem kX8_bankOf (l : Launch) (Γ : rGam) (o : Nat) (p1 : Int32) (post : Int32 → St → Prop) (σ0 : St) (h : wX8_bankOf o p1 post σ0) : Met l yX8_bankOf wsX8_bankOf rmX8_bankOf (rPc Γ vwCl [.ref o, .int p1] (Rep Γ σ0)) (va_Qi post (fun σ' t => Rep Γ σ' t.heap) (rA Γ)) 0 0 (rA Γ) := by
  refine Met.ofW (cc := cX8_bankOf) (maxL := 3) (ret := (some .int)) (by decide) rfl ?_
  intro p e s m args below meth c s₁ B hml hv
  obtain ⟨rfl, hR, hE⟩ := hv
  have F : Fx Γ p s m meth c _ cX8_bankOf 3 RX8 wsX8_bankOf (some .int) := ⟨⟨B.exec, B.bytes, hml, findClass_of_methodNamed B.named, atoms_spec (ws := wsX8_bankOf) B.pre⟩, hE, B.notSynchronized, B.returns⟩
  have hl := lv_entry ([.ref o, .int p1]) (n := 3) (Nat.le_of_ble_eq_true rfl)
  rw [lg_entry_eq]
  generalize (lg_sl ([.ref o, .int p1]) ++ List.replicate (3 - (lg_sl ([.ref o, .int p1])).length) Slot.unset).toArray = ls at hl ⊢
  have hl : lv_has ls 3 [(0, .ref o), (1, .int p1)] := hl
  exact bX8_bankOf F h hR va_S.rf hl ⟨Nat.le_refl 0, Nat.le_refl 0⟩
/-! X8_accountOf -/
theorem mX8_accountOf_0 : Cond.fieldLink RX8 134 "ClearingFilesModel" "accounts" "I" ∈ wsX8_accountOf := by decide +kernel
theorem mX8_accountOf_1 : Cond.fieldLink RX8 17 "ClearingFilesModel" "owner" "[I" ∈ wsX8_accountOf := by decide +kernel
theorem mX8_accountOf_2 : Cond.fieldLink RX8 20 "ClearingFilesModel" "number" "[I" ∈ wsX8_accountOf := by decide +kernel
theorem nX8_accountOf_X8 : ∀ w ∈ u_ws RX8 TX8 46, w ∈ wsX8_accountOf := fun _ h => List.mem_cons_of_mem _ (List.mem_append_right _ h)
abbrev rmX8_accountOf : Room := { frames := 0, cells := 0, slots := 0, locals := 0 }
set_option maxRecDepth 100000 in
def wX8_accountOf_2 (o : Nat) (post : Int32 → St → Prop) : Nat → Int32 → Int32 → Int32 → St → Prop
  | 0, _, _, _, _ => False
  | n + 1, x1, x2, x3, σ0 =>
    sK σ0 o = 9 ∧ (((sI σ0 454 o 0) ≤ x3 → (post (-1 : Int32) σ0)) ∧ (¬ (sI σ0 454 o 0) ≤ x3 → (sK σ0 o = 9 ∧ (∀ r5 : Option Nat, r5 = sR σ0 455 o 0 → (∃ a6 : Nat, r5 = some a6 ∧ (sK σ0 a6 = 1455 ∧ (vp_in x3 12 ∧ (((sI σ0 1455 a6 x3.toNatClampNeg) = x1 → (sK σ0 o = 9 ∧ (∀ r13 : Option Nat, r13 = sR σ0 456 o 0 → (∃ a14 : Nat, r13 = some a14 ∧ (sK σ0 a14 = 1456 ∧ (vp_in x3 12 ∧ (((sI σ0 1456 a14 x3.toNatClampNeg) = x2 → (post x3 σ0)) ∧ (¬ (sI σ0 1456 a14 x3.toNatClampNeg) = x2 → (∀ x18 : Int32, x18 = x3 + (1 : Int32) → (wX8_accountOf_2 o post n x1 x2 x18 σ0)))))))))) ∧ (¬ (sI σ0 1455 a6 x3.toNatClampNeg) = x1 → (∀ x10 : Int32, x10 = x3 + (1 : Int32) → (wX8_accountOf_2 o post n x1 x2 x10 σ0)))))))))))
set_option maxHeartbeats 4000000 in
set_option maxRecDepth 100000 in
theorem bX8_accountOf_2 {p : Program} {l : Launch} {e : Env} {s : State} {m : MethodId} {args : Array Value} {below : List Frame} {meth : Method} {c : Code} {Γ : rGam} {o : Nat} {post : Int32 → St → Prop} (F : Fx Γ p s m meth c args cX8_accountOf 4 RX8 wsX8_accountOf (some .int)) : ∀ (n : Nat) (x1 : Int32) (x2 : Int32) (x3 : Int32) (σ0 : St) (H : Heap) (locs : List Loc) (ls : Array Slot) (cells slots : Nat), wX8_accountOf_2 o post n x1 x2 x3 σ0 → Rep Γ σ0 H → va_S (rA Γ) s.heap H locs → lv_has ls 4 [(0, .ref o), (1, .int x1), (2, .int x2), (3, .int x3)] → cells ≤ 0 ∧ slots ≤ 0 → W p l e rmX8_accountOf s m args below meth c H locs cells slots (rQi Γ below post args s 0 0) (F0 m 2 ls []) := by
  have hx := F.1.1
  have hb := F.1.2.1
  intro n
  induction n with
  | zero =>
    intro x1 x2 x3 σ0 H locs ls cells slots h
    exact absurd h (by unfold wX8_accountOf_2; exact id)
  | succ n ih =>
    intro x1 x2 x3 σ0 H locs ls cells slots h hR hS hl hc
    unfold wX8_accountOf_2 at h
    refine lv_iload_n hx hb dX8_accountOf_2 rfl (lv_at hl 3 rfl) ?_
    refine lv_aload_n hx hb dX8_accountOf_3 rfl (lv_at hl 0 rfl) ?_
    obtain ⟨k2, h⟩ := h
    refine s_getI F hR k2 (by decide) (C := RX8) (T := TX8) (N := 46) rfl nX8_accountOf_X8 4 (by decide) mX8_accountOf_0 (f := 454) rfl dX8_accountOf_4 ?_
    refine lv_icmp_ge (tgt := 38) hx hb dX8_accountOf_7 (by decide) (fun c3 => ?_) (fun c3 => ?_)
    · replace h := h.1 c3
      refine lv_iconst (v := -1) hx hb dX8_accountOf_38 (by decide) ?_
      exact s_iret F hR hS h hc dX8_accountOf_39
    · replace h := h.2 c3
      refine lv_aload_n hx hb dX8_accountOf_10 rfl (lv_at hl 0 rfl) ?_
      obtain ⟨k4, h⟩ := h
      refine s_getR F hR k4 (by decide) (C := RX8) (T := TX8) (N := 46) rfl nX8_accountOf_X8 5 (by decide) mX8_accountOf_1 (f := 455) rfl dX8_accountOf_11 (fun r5 er5 => ?_)
      replace h := h r5 er5
      refine lv_iload_n hx hb dX8_accountOf_14 rfl (lv_at hl 3 rfl) ?_
      obtain ⟨a6, ea6, h⟩ := h
      subst ea6
      obtain ⟨k7, h⟩ := h
      obtain ⟨z8, h⟩ := h
      refine s_iald F hR k7 (by decide) rfl z8 dX8_accountOf_15 ?_
      refine lv_iload_n hx hb dX8_accountOf_16 rfl (lv_at hl 1 rfl) ?_
      refine lv_icmp_ne (tgt := 32) hx hb dX8_accountOf_17 (by decide) (fun c9 => ?_) (fun c9 => ?_)
      · replace h := h.2 c9
        obtain ⟨x10, ex10⟩ : ∃ x : Int32, x = x3 + (1 : Int32) := ⟨_, rfl⟩
        replace h := h x10 ex10
        refine s_iinc (v := x10) (d := 1) (lk := [(2, .int x2)]) (lv' := [(3, .int x10), (0, .ref o), (1, .int x1), (2, .int x2)]) hx hb dX8_accountOf_32 hl (k := 3) rfl (by decide) (by decide) rfl (lk_1 rfl) ex10 rfl (fun ls hl11 => ?_)
        refine lv_goto (tgt := 2) hx hb dX8_accountOf_35 (by decide) ?_
        exact ih x1 x2 x10 σ0 _ _ _ _ _ h hR hS (lv_sub hl11 [1, 2, 3, 0] rfl) hc
      · replace h := h.1 c9
        refine lv_aload_n hx hb dX8_accountOf_20 rfl (lv_at hl 0 rfl) ?_
        obtain ⟨k12, h⟩ := h
        refine s_getR F hR k12 (by decide) (C := RX8) (T := TX8) (N := 46) rfl nX8_accountOf_X8 6 (by decide) mX8_accountOf_2 (f := 456) rfl dX8_accountOf_21 (fun r13 er13 => ?_)
        replace h := h r13 er13
        refine lv_iload_n hx hb dX8_accountOf_24 rfl (lv_at hl 3 rfl) ?_
        obtain ⟨a14, ea14, h⟩ := h
        subst ea14
        obtain ⟨k15, h⟩ := h
        obtain ⟨z16, h⟩ := h
        refine s_iald F hR k15 (by decide) rfl z16 dX8_accountOf_25 ?_
        refine lv_iload_n hx hb dX8_accountOf_26 rfl (lv_at hl 2 rfl) ?_
        refine lv_icmp_ne (tgt := 32) hx hb dX8_accountOf_27 (by decide) (fun c17 => ?_) (fun c17 => ?_)
        · replace h := h.2 c17
          obtain ⟨x18, ex18⟩ : ∃ x : Int32, x = x3 + (1 : Int32) := ⟨_, rfl⟩
          replace h := h x18 ex18
          refine s_iinc (v := x18) (d := 1) (lk := [(2, .int x2)]) (lv' := [(3, .int x18), (0, .ref o), (1, .int x1), (2, .int x2)]) hx hb dX8_accountOf_32 hl (k := 3) rfl (by decide) (by decide) rfl (lk_1 rfl) ex18 rfl (fun ls hl19 => ?_)
          refine lv_goto (tgt := 2) hx hb dX8_accountOf_35 (by decide) ?_
          exact ih x1 x2 x18 σ0 _ _ _ _ _ h hR hS (lv_sub hl19 [1, 2, 3, 0] rfl) hc
        · replace h := h.1 c17
          refine lv_iload_n hx hb dX8_accountOf_30 rfl (lv_at hl 3 rfl) ?_
          exact s_iret F hR hS h hc dX8_accountOf_31

set_option maxRecDepth 100000 in
def wX8_accountOf (o : Nat) (p1 : Int32) (p2 : Int32) (post : Int32 → St → Prop) (σ0 : St) : Prop :=
  ∃ n20 : Nat, wX8_accountOf_2 o post n20 p1 p2 (0 : Int32) σ0
set_option maxHeartbeats 4000000 in
set_option maxRecDepth 100000 in
theorem bX8_accountOf {p : Program} {l : Launch} {e : Env} {s : State} {m : MethodId} {args : Array Value} {below : List Frame} {meth : Method} {c : Code} {Γ : rGam} {o : Nat} {post : Int32 → St → Prop} (F : Fx Γ p s m meth c args cX8_accountOf 4 RX8 wsX8_accountOf (some .int)) {H : Heap} {locs : List Loc} {ls : Array Slot} {cells slots : Nat} {p1 : Int32} {p2 : Int32} {σ0 : St} (h : wX8_accountOf o p1 p2 post σ0) (hR : Rep Γ σ0 H) (hS : va_S (rA Γ) s.heap H locs) (hl : lv_has ls 4 [(0, .ref o), (1, .int p1), (2, .int p2)]) (hc : cells ≤ 0 ∧ slots ≤ 0) : W p l e rmX8_accountOf s m args below meth c H locs cells slots (rQi Γ below post args s 0 0) (F0 m 0 ls []) := by
  have hx := F.1.1
  have hb := F.1.2.1
  unfold wX8_accountOf at h
  refine lv_iconst (v := 0) hx hb dX8_accountOf_0 (by decide) ?_
  refine s_istore_n (lk := [(2, .int p2)]) (lv' := [(3, .int (0 : Int32)), (0, .ref o), (1, .int p1), (2, .int p2)]) hx hb dX8_accountOf_1 rfl hl (by decide) rfl (lk_1 rfl) rfl (fun ls hl1 => ?_)
  obtain ⟨n20, h⟩ := h
  exact bX8_accountOf_2 F n20 p1 p2 (0 : Int32) σ0 _ _ _ _ _ h hR hS (lv_sub hl1 [1, 2, 3, 0] rfl) hc
set_option maxHeartbeats 4000000 in
set_option maxRecDepth 100000 in
theorem kX8_accountOf (l : Launch) (Γ : rGam) (o : Nat) (p1 : Int32) (p2 : Int32) (post : Int32 → St → Prop) (σ0 : St) (h : wX8_accountOf o p1 p2 post σ0) : Met l yX8_accountOf wsX8_accountOf rmX8_accountOf (rPc Γ vwCl [.ref o, .int p1, .int p2] (Rep Γ σ0)) (va_Qi post (fun σ' t => Rep Γ σ' t.heap) (rA Γ)) 0 0 (rA Γ) := by
  refine Met.ofW (cc := cX8_accountOf) (maxL := 4) (ret := (some .int)) (by decide) rfl ?_
  intro p e s m args below meth c s₁ B hml hv
  obtain ⟨rfl, hR, hE⟩ := hv
  have F : Fx Γ p s m meth c _ cX8_accountOf 4 RX8 wsX8_accountOf (some .int) := ⟨⟨B.exec, B.bytes, hml, findClass_of_methodNamed B.named, atoms_spec (ws := wsX8_accountOf) B.pre⟩, hE, B.notSynchronized, B.returns⟩
  have hl := lv_entry ([.ref o, .int p1, .int p2]) (n := 4) (Nat.le_of_ble_eq_true rfl)
  rw [lg_entry_eq]
  generalize (lg_sl ([.ref o, .int p1, .int p2]) ++ List.replicate (4 - (lg_sl ([.ref o, .int p1, .int p2])).length) Slot.unset).toArray = ls at hl ⊢
  have hl : lv_has ls 4 [(0, .ref o), (1, .int p1), (2, .int p2)] := hl
  exact bX8_accountOf F h hR va_S.rf hl ⟨Nat.le_refl 0, Nat.le_refl 0⟩
/-! X8_day -/
theorem mX8_day_0 : Cond.fieldLink RX8 143 "ClearingFilesModel" "today" "I" ∈ wsX8_day := by decide +kernel
theorem nX8_day_X8 : ∀ w ∈ u_ws RX8 TX8 46, w ∈ wsX8_day := fun _ h => List.mem_cons_of_mem _ (List.mem_append_right _ h)
abbrev rmX8_day : Room := { frames := 0, cells := 0, slots := 0, locals := 0 }
set_option maxRecDepth 100000 in
def wX8_day (o : Nat)  (post : Int32 → St → Prop) (σ0 : St) : Prop :=
  sK σ0 o = 9 ∧ (sK σ0 o = 9 ∧ (∀ σ3 : St, σ3 = uI σ0 453 o 0 ((sI σ0 453 o 0) + (1 : Int32)) → (sK σ3 o = 9 ∧ (post (sI σ3 453 o 0) σ3))))
set_option maxHeartbeats 4000000 in
set_option maxRecDepth 100000 in
theorem bX8_day {p : Program} {l : Launch} {e : Env} {s : State} {m : MethodId} {args : Array Value} {below : List Frame} {meth : Method} {c : Code} {Γ : rGam} {o : Nat} {post : Int32 → St → Prop} (F : Fx Γ p s m meth c args cX8_day 1 RX8 wsX8_day (some .int)) {H : Heap} {locs : List Loc} {ls : Array Slot} {cells slots : Nat}  {σ0 : St} (h : wX8_day o  post σ0) (hR : Rep Γ σ0 H) (hS : va_S (rA Γ) s.heap H locs) (hl : lv_has ls 1 [(0, .ref o)]) (hc : cells ≤ 0 ∧ slots ≤ 0) : W p l e rmX8_day s m args below meth c H locs cells slots (rQi Γ below post args s 0 0) (F0 m 0 ls []) := by
  have hx := F.1.1
  have hb := F.1.2.1
  unfold wX8_day at h
  refine lv_aload_n hx hb dX8_day_0 rfl (lv_at hl 0 rfl) ?_
  refine lv_dup hx hb dX8_day_1 rfl ?_
  obtain ⟨k1, h⟩ := h
  refine s_getI F hR k1 (by decide) (C := RX8) (T := TX8) (N := 46) rfl nX8_day_X8 3 (by decide) mX8_day_0 (f := 453) rfl dX8_day_2 ?_
  refine lv_iconst (v := 1) hx hb dX8_day_5 (by decide) ?_
  refine lv_iadd hx hb dX8_day_6 ?_
  obtain ⟨k2, h⟩ := h
  refine s_putI (v := ((sI σ0 453 o 0) + (1 : Int32))) F hR hS k2 (by decide) (C := RX8) (T := TX8) (N := 46) rfl nX8_day_X8 tyX8 tyX8_ok nmX8 3 (by decide) mX8_day_0 (Or.inl rfl) rfl rfl (f := 453) rfl rnd_9 dX8_day_7 (fun σ3 eσ3 H locs hR hS => ?_)
  replace h := h σ3 eσ3
  refine lv_aload_n hx hb dX8_day_10 rfl (lv_at hl 0 rfl) ?_
  obtain ⟨k4, h⟩ := h
  refine s_getI F hR k4 (by decide) (C := RX8) (T := TX8) (N := 46) rfl nX8_day_X8 3 (by decide) mX8_day_0 (f := 453) rfl dX8_day_11 ?_
  exact s_iret F hR hS h hc dX8_day_14
set_option maxHeartbeats 4000000 in
set_option maxRecDepth 100000 in
theorem kX8_day (l : Launch) (Γ : rGam) (o : Nat)  (post : Int32 → St → Prop) (σ0 : St) (h : wX8_day o  post σ0) : Met l yX8_day wsX8_day rmX8_day (rPc Γ vwCl [.ref o] (Rep Γ σ0)) (va_Qi post (fun σ' t => Rep Γ σ' t.heap) (rA Γ)) 0 0 (rA Γ) := by
  refine Met.ofW (cc := cX8_day) (maxL := 1) (ret := (some .int)) (by decide) rfl ?_
  intro p e s m args below meth c s₁ B hml hv
  obtain ⟨rfl, hR, hE⟩ := hv
  have F : Fx Γ p s m meth c _ cX8_day 1 RX8 wsX8_day (some .int) := ⟨⟨B.exec, B.bytes, hml, findClass_of_methodNamed B.named, atoms_spec (ws := wsX8_day) B.pre⟩, hE, B.notSynchronized, B.returns⟩
  have hl := lv_entry ([.ref o]) (n := 1) (Nat.le_of_ble_eq_true rfl)
  rw [lg_entry_eq]
  generalize (lg_sl ([.ref o]) ++ List.replicate (1 - (lg_sl ([.ref o])).length) Slot.unset).toArray = ls at hl ⊢
  have hl : lv_has ls 1 [(0, .ref o)] := hl
  exact bX8_day F h hR va_S.rf hl ⟨Nat.le_refl 0, Nat.le_refl 0⟩
/-! X8_total -/
theorem mX8_total_0 : Cond.fieldLink RX8 164 "ClearingFilesModel" "entries" "I" ∈ wsX8_total := by decide +kernel
theorem mX8_total_1 : Cond.fieldLink RX8 54 "ClearingFilesModel" "inCode" "[I" ∈ wsX8_total := by decide +kernel
theorem mX8_total_2 : Cond.fieldLink RX8 63 "ClearingFilesModel" "inAmount" "[I" ∈ wsX8_total := by decide +kernel
theorem mX8_total_3 : Cond.fieldLink RX8 57 "ClearingFilesModel" "inRouting" "[I" ∈ wsX8_total := by decide +kernel
theorem mX8_total_4 : Cond.fieldLink RX8 51 "ClearingFilesModel" "inBatch" "[I" ∈ wsX8_total := by decide +kernel
theorem nX8_total_X8 : ∀ w ∈ u_ws RX8 TX8 46, w ∈ wsX8_total := fun _ h => List.mem_cons_of_mem _ (List.mem_append_right _ h)
abbrev rmX8_total : Room := { frames := 0, cells := 0, slots := 0, locals := 0 }
set_option maxRecDepth 100000 in
def wX8_total_98 (k5 : Int32 → Int32 → Int64 → Int32 → St → Prop) (o : Nat) (post : Int64 → St → Prop) (x1 : Int32) (x2 : Int32) (x3 : Int64) (x5 : Int32) (y0 : Int64) (σ0 : St) : Prop :=
  ∀ x11 : Int64, x11 = (x3 + y0) → (∀ x13 : Int32, x13 = x5 + (1 : Int32) → (k5 x1 x2 x11 x13 σ0))
set_option maxHeartbeats 4000000 in
set_option maxRecDepth 100000 in
theorem bX8_total_98 {p : Program} {l : Launch} {e : Env} {s : State} {m : MethodId} {args : Array Value} {below : List Frame} {meth : Method} {c : Code} {Γ : rGam} {o : Nat} {post : Int64 → St → Prop} (F : Fx Γ p s m meth c args cX8_total 8 RX8 wsX8_total (some .long)) {k5 : Int32 → Int32 → Int64 → Int32 → St → Prop} (hk5 : ∀ (x1 : Int32) (x2 : Int32) (x3 : Int64) (x5 : Int32) (σ0 : St) (H : Heap) (locs : List Loc) (ls : Array Slot) (cells slots : Nat), k5 x1 x2 x3 x5 σ0 → Rep Γ σ0 H → va_S (rA Γ) s.heap H locs → lv_has ls 8 [(0, .ref o), (1, .int x1), (2, .int x2), (3, .long x3), (5, .int x5)] → cells ≤ 0 ∧ slots ≤ 0 → W p l e rmX8_total s m args below meth c H locs cells slots (rQl Γ below post args s 0 0) (F0 m 5 ls [])) {H : Heap} {locs : List Loc} {ls : Array Slot} {cells slots : Nat} {x1 : Int32} {x2 : Int32} {x3 : Int64} {x5 : Int32} {y0 : Int64} {σ0 : St} (h : wX8_total_98 k5 o post x1 x2 x3 x5 y0 σ0) (hR : Rep Γ σ0 H) (hS : va_S (rA Γ) s.heap H locs) (hl : lv_has ls 8 [(0, .ref o), (1, .int x1), (2, .int x2), (3, .long x3), (5, .int x5)]) (hc : cells ≤ 0 ∧ slots ≤ 0) : W p l e rmX8_total s m args below meth c H locs cells slots (rQl Γ below post args s 0 0) (F0 m 98 ls [.long y0]) := by
  have hx := F.1.1
  have hb := F.1.2.1
  unfold wX8_total_98 at h
  refine s_lstore (lk := [(5, .int x5)]) (lv' := [(6, .long y0), (0, .ref o), (1, .int x1), (2, .int x2), (3, .long x3), (5, .int x5)]) hx hb dX8_total_98 hl (by decide) rfl (lk_1 rfl) rfl (fun ls hl10 => ?_)
  refine lv_lload_n hx hb dX8_total_100 rfl (lv_at hl10 4 rfl) ?_
  refine lv_lload hx hb dX8_total_101 (lv_at hl10 0 rfl) ?_
  refine lv_ladd hx hb dX8_total_103 ?_
  refine lv_topl (fun x11 ex11 => ?_)
  replace h := h x11 ex11
  refine s_lstore_n (lk := [(2, .int x2)]) (lv' := [(3, .long x11), (6, .long y0), (0, .ref o), (1, .int x1), (2, .int x2), (5, .int x5)]) hx hb dX8_total_104 rfl hl10 (by decide) rfl (lk_1 rfl) rfl (fun ls hl12 => ?_)
  obtain ⟨x13, ex13⟩ : ∃ x : Int32, x = x5 + (1 : Int32) := ⟨_, rfl⟩
  replace h := h x13 ex13
  refine s_iinc (v := x13) (d := 1) (lk := []) (lv' := [(5, .int x13), (3, .long x11), (6, .long y0), (0, .ref o), (1, .int x1), (2, .int x2)]) hx hb dX8_total_105 hl12 (k := 5) rfl (by decide) (by decide) rfl lk_0 ex13 rfl (fun ls hl14 => ?_)
  refine lv_goto (tgt := 5) hx hb dX8_total_108 (by decide) ?_
  exact hk5 x1 x2 x11 x13 σ0 _ _ _ _ _ h hR hS (lv_sub hl14 [3, 4, 5, 1, 0] rfl) hc

set_option maxRecDepth 100000 in
def wX8_total_97 (k5 : Int32 → Int32 → Int64 → Int32 → St → Prop) (o : Nat) (post : Int64 → St → Prop) (x1 : Int32) (x2 : Int32) (x3 : Int64) (x5 : Int32) (σ0 : St) : Prop :=
  wX8_total_98 k5 o post x1 x2 x3 x5 (0 : Int64) σ0
set_option maxHeartbeats 4000000 in
set_option maxRecDepth 100000 in
theorem bX8_total_97 {p : Program} {l : Launch} {e : Env} {s : State} {m : MethodId} {args : Array Value} {below : List Frame} {meth : Method} {c : Code} {Γ : rGam} {o : Nat} {post : Int64 → St → Prop} (F : Fx Γ p s m meth c args cX8_total 8 RX8 wsX8_total (some .long)) {k5 : Int32 → Int32 → Int64 → Int32 → St → Prop} (hk5 : ∀ (x1 : Int32) (x2 : Int32) (x3 : Int64) (x5 : Int32) (σ0 : St) (H : Heap) (locs : List Loc) (ls : Array Slot) (cells slots : Nat), k5 x1 x2 x3 x5 σ0 → Rep Γ σ0 H → va_S (rA Γ) s.heap H locs → lv_has ls 8 [(0, .ref o), (1, .int x1), (2, .int x2), (3, .long x3), (5, .int x5)] → cells ≤ 0 ∧ slots ≤ 0 → W p l e rmX8_total s m args below meth c H locs cells slots (rQl Γ below post args s 0 0) (F0 m 5 ls [])) {H : Heap} {locs : List Loc} {ls : Array Slot} {cells slots : Nat} {x1 : Int32} {x2 : Int32} {x3 : Int64} {x5 : Int32} {σ0 : St} (h : wX8_total_97 k5 o post x1 x2 x3 x5 σ0) (hR : Rep Γ σ0 H) (hS : va_S (rA Γ) s.heap H locs) (hl : lv_has ls 8 [(0, .ref o), (1, .int x1), (2, .int x2), (3, .long x3), (5, .int x5)]) (hc : cells ≤ 0 ∧ slots ≤ 0) : W p l e rmX8_total s m args below meth c H locs cells slots (rQl Γ below post args s 0 0) (F0 m 97 ls []) := by
  have hx := F.1.1
  have hb := F.1.2.1
  unfold wX8_total_97 at h
  refine lv_lconst (v := 0) hx hb dX8_total_97 (by decide) ?_
  exact bX8_total_98 F hk5 h hR hS (lv_sub hl [0, 1, 2, 3, 4] rfl) hc

set_option maxRecDepth 100000 in
def wX8_total_86 (k5 : Int32 → Int32 → Int64 → Int32 → St → Prop) (o : Nat) (post : Int64 → St → Prop) (x1 : Int32) (x2 : Int32) (x3 : Int64) (x5 : Int32) (σ0 : St) : Prop :=
  sK σ0 o = 9 ∧ (∀ r22 : Option Nat, r22 = sR σ0 475 o 0 → (∃ a23 : Nat, r22 = some a23 ∧ (sK σ0 a23 = 1475 ∧ (vp_in x5 20 ∧ (wX8_total_98 k5 o post x1 x2 x3 x5 ((sI σ0 1475 a23 x5.toNatClampNeg).toInt64) σ0)))))
set_option maxHeartbeats 4000000 in
set_option maxRecDepth 100000 in
theorem bX8_total_86 {p : Program} {l : Launch} {e : Env} {s : State} {m : MethodId} {args : Array Value} {below : List Frame} {meth : Method} {c : Code} {Γ : rGam} {o : Nat} {post : Int64 → St → Prop} (F : Fx Γ p s m meth c args cX8_total 8 RX8 wsX8_total (some .long)) {k5 : Int32 → Int32 → Int64 → Int32 → St → Prop} (hk5 : ∀ (x1 : Int32) (x2 : Int32) (x3 : Int64) (x5 : Int32) (σ0 : St) (H : Heap) (locs : List Loc) (ls : Array Slot) (cells slots : Nat), k5 x1 x2 x3 x5 σ0 → Rep Γ σ0 H → va_S (rA Γ) s.heap H locs → lv_has ls 8 [(0, .ref o), (1, .int x1), (2, .int x2), (3, .long x3), (5, .int x5)] → cells ≤ 0 ∧ slots ≤ 0 → W p l e rmX8_total s m args below meth c H locs cells slots (rQl Γ below post args s 0 0) (F0 m 5 ls [])) {H : Heap} {locs : List Loc} {ls : Array Slot} {cells slots : Nat} {x1 : Int32} {x2 : Int32} {x3 : Int64} {x5 : Int32} {σ0 : St} (h : wX8_total_86 k5 o post x1 x2 x3 x5 σ0) (hR : Rep Γ σ0 H) (hS : va_S (rA Γ) s.heap H locs) (hl : lv_has ls 8 [(0, .ref o), (1, .int x1), (2, .int x2), (3, .long x3), (5, .int x5)]) (hc : cells ≤ 0 ∧ slots ≤ 0) : W p l e rmX8_total s m args below meth c H locs cells slots (rQl Γ below post args s 0 0) (F0 m 86 ls []) := by
  have hx := F.1.1
  have hb := F.1.2.1
  unfold wX8_total_86 at h
  refine lv_aload_n hx hb dX8_total_86 rfl (lv_at hl 0 rfl) ?_
  obtain ⟨k21, h⟩ := h
  refine s_getR F hR k21 (by decide) (C := RX8) (T := TX8) (N := 46) rfl nX8_total_X8 25 (by decide) mX8_total_2 (f := 475) rfl dX8_total_87 (fun r22 er22 => ?_)
  replace h := h r22 er22
  refine lv_iload hx hb dX8_total_90 (lv_at hl 4 rfl) ?_
  obtain ⟨a23, ea23, h⟩ := h
  subst ea23
  obtain ⟨k24, h⟩ := h
  obtain ⟨z25, h⟩ := h
  refine s_iald F hR k24 (by decide) rfl z25 dX8_total_92 ?_
  refine lv_i2l hx hb dX8_total_93 rfl ?_
  refine lv_goto (tgt := 98) hx hb dX8_total_94 (by decide) ?_
  exact bX8_total_98 F hk5 h hR hS (lv_sub hl [0, 1, 2, 3, 4] rfl) hc

set_option maxRecDepth 100000 in
def wX8_total_70 (k5 : Int32 → Int32 → Int64 → Int32 → St → Prop) (o : Nat) (post : Int64 → St → Prop) (x1 : Int32) (x2 : Int32) (x3 : Int64) (x5 : Int32) (σ0 : St) : Prop :=
  (x2 = (3 : Int32) → (sK σ0 o = 9 ∧ (∀ r16 : Option Nat, r16 = sR σ0 472 o 0 → (∃ a17 : Nat, r16 = some a17 ∧ (sK σ0 a17 = 1472 ∧ (vp_in x5 20 ∧ (((sI σ0 1472 a17 x5.toNatClampNeg) = (2 : Int32) → (wX8_total_86 k5 o post x1 x2 x3 x5 σ0)) ∧ (¬ (sI σ0 1472 a17 x5.toNatClampNeg) = (2 : Int32) → (wX8_total_97 k5 o post x1 x2 x3 x5 σ0))))))))) ∧ (¬ x2 = (3 : Int32) → (wX8_total_97 k5 o post x1 x2 x3 x5 σ0))
set_option maxHeartbeats 4000000 in
set_option maxRecDepth 100000 in
theorem bX8_total_70 {p : Program} {l : Launch} {e : Env} {s : State} {m : MethodId} {args : Array Value} {below : List Frame} {meth : Method} {c : Code} {Γ : rGam} {o : Nat} {post : Int64 → St → Prop} (F : Fx Γ p s m meth c args cX8_total 8 RX8 wsX8_total (some .long)) {k5 : Int32 → Int32 → Int64 → Int32 → St → Prop} (hk5 : ∀ (x1 : Int32) (x2 : Int32) (x3 : Int64) (x5 : Int32) (σ0 : St) (H : Heap) (locs : List Loc) (ls : Array Slot) (cells slots : Nat), k5 x1 x2 x3 x5 σ0 → Rep Γ σ0 H → va_S (rA Γ) s.heap H locs → lv_has ls 8 [(0, .ref o), (1, .int x1), (2, .int x2), (3, .long x3), (5, .int x5)] → cells ≤ 0 ∧ slots ≤ 0 → W p l e rmX8_total s m args below meth c H locs cells slots (rQl Γ below post args s 0 0) (F0 m 5 ls [])) {H : Heap} {locs : List Loc} {ls : Array Slot} {cells slots : Nat} {x1 : Int32} {x2 : Int32} {x3 : Int64} {x5 : Int32} {σ0 : St} (h : wX8_total_70 k5 o post x1 x2 x3 x5 σ0) (hR : Rep Γ σ0 H) (hS : va_S (rA Γ) s.heap H locs) (hl : lv_has ls 8 [(0, .ref o), (1, .int x1), (2, .int x2), (3, .long x3), (5, .int x5)]) (hc : cells ≤ 0 ∧ slots ≤ 0) : W p l e rmX8_total s m args below meth c H locs cells slots (rQl Γ below post args s 0 0) (F0 m 70 ls []) := by
  have hx := F.1.1
  have hb := F.1.2.1
  unfold wX8_total_70 at h
  refine lv_iload_n hx hb dX8_total_70 rfl (lv_at hl 2 rfl) ?_
  refine lv_iconst (v := 3) hx hb dX8_total_71 (by decide) ?_
  refine lv_icmp_ne (tgt := 97) hx hb dX8_total_72 (by decide) (fun c9 => ?_) (fun c9 => ?_)
  · replace h := h.2 c9
    exact bX8_total_97 F hk5 h hR hS (lv_sub hl [0, 1, 2, 3, 4] rfl) hc
  · replace h := h.1 c9
    refine lv_aload_n hx hb dX8_total_75 rfl (lv_at hl 0 rfl) ?_
    obtain ⟨k15, h⟩ := h
    refine s_getR F hR k15 (by decide) (C := RX8) (T := TX8) (N := 46) rfl nX8_total_X8 22 (by decide) mX8_total_1 (f := 472) rfl dX8_total_76 (fun r16 er16 => ?_)
    replace h := h r16 er16
    refine lv_iload hx hb dX8_total_79 (lv_at hl 4 rfl) ?_
    obtain ⟨a17, ea17, h⟩ := h
    subst ea17
    obtain ⟨k18, h⟩ := h
    obtain ⟨z19, h⟩ := h
    refine s_iald F hR k18 (by decide) rfl z19 dX8_total_81 ?_
    refine lv_iconst (v := 2) hx hb dX8_total_82 (by decide) ?_
    refine lv_icmp_ne (tgt := 97) hx hb dX8_total_83 (by decide) (fun c20 => ?_) (fun c20 => ?_)
    · replace h := h.2 c20
      exact bX8_total_97 F hk5 h hR hS (lv_sub hl [0, 1, 2, 3, 4] rfl) hc
    · replace h := h.1 c20
      exact bX8_total_86 F hk5 h hR hS (lv_sub hl [0, 1, 2, 3, 4] rfl) hc

set_option maxRecDepth 100000 in
def wX8_total_29 (k5 : Int32 → Int32 → Int64 → Int32 → St → Prop) (o : Nat) (post : Int64 → St → Prop) (x1 : Int32) (x2 : Int32) (x3 : Int64) (x5 : Int32) (σ0 : St) : Prop :=
  (x2 = 0 → (wX8_total_98 k5 o post x1 x2 x3 x5 (1 : Int64) σ0)) ∧ (¬ x2 = 0 → ((x2 = (1 : Int32) → (sK σ0 o = 9 ∧ (∀ r33 : Option Nat, r33 = sR σ0 473 o 0 → (∃ a34 : Nat, r33 = some a34 ∧ (sK σ0 a34 = 1473 ∧ (vp_in x5 20 ∧ (wX8_total_98 k5 o post x1 x2 x3 x5 ((sI σ0 1473 a34 x5.toNatClampNeg).toInt64) σ0))))))) ∧ (¬ x2 = (1 : Int32) → ((x2 = (2 : Int32) → (sK σ0 o = 9 ∧ (∀ r27 : Option Nat, r27 = sR σ0 472 o 0 → (∃ a28 : Nat, r27 = some a28 ∧ (sK σ0 a28 = 1472 ∧ (vp_in x5 20 ∧ (((sI σ0 1472 a28 x5.toNatClampNeg) = (7 : Int32) → (wX8_total_86 k5 o post x1 x2 x3 x5 σ0)) ∧ (¬ (sI σ0 1472 a28 x5.toNatClampNeg) = (7 : Int32) → (wX8_total_70 k5 o post x1 x2 x3 x5 σ0))))))))) ∧ (¬ x2 = (2 : Int32) → (wX8_total_70 k5 o post x1 x2 x3 x5 σ0))))))
set_option maxHeartbeats 4000000 in
set_option maxRecDepth 100000 in
theorem bX8_total_29 {p : Program} {l : Launch} {e : Env} {s : State} {m : MethodId} {args : Array Value} {below : List Frame} {meth : Method} {c : Code} {Γ : rGam} {o : Nat} {post : Int64 → St → Prop} (F : Fx Γ p s m meth c args cX8_total 8 RX8 wsX8_total (some .long)) {k5 : Int32 → Int32 → Int64 → Int32 → St → Prop} (hk5 : ∀ (x1 : Int32) (x2 : Int32) (x3 : Int64) (x5 : Int32) (σ0 : St) (H : Heap) (locs : List Loc) (ls : Array Slot) (cells slots : Nat), k5 x1 x2 x3 x5 σ0 → Rep Γ σ0 H → va_S (rA Γ) s.heap H locs → lv_has ls 8 [(0, .ref o), (1, .int x1), (2, .int x2), (3, .long x3), (5, .int x5)] → cells ≤ 0 ∧ slots ≤ 0 → W p l e rmX8_total s m args below meth c H locs cells slots (rQl Γ below post args s 0 0) (F0 m 5 ls [])) {H : Heap} {locs : List Loc} {ls : Array Slot} {cells slots : Nat} {x1 : Int32} {x2 : Int32} {x3 : Int64} {x5 : Int32} {σ0 : St} (h : wX8_total_29 k5 o post x1 x2 x3 x5 σ0) (hR : Rep Γ σ0 H) (hS : va_S (rA Γ) s.heap H locs) (hl : lv_has ls 8 [(0, .ref o), (1, .int x1), (2, .int x2), (3, .long x3), (5, .int x5)]) (hc : cells ≤ 0 ∧ slots ≤ 0) : W p l e rmX8_total s m args below meth c H locs cells slots (rQl Γ below post args s 0 0) (F0 m 29 ls []) := by
  have hx := F.1.1
  have hb := F.1.2.1
  unfold wX8_total_29 at h
  refine lv_iload_n hx hb dX8_total_29 rfl (lv_at hl 2 rfl) ?_
  refine lv_if_ne (tgt := 37) hx hb dX8_total_30 (by decide) (fun c6 => ?_) (fun c6 => ?_)
  · replace h := h.2 c6
    refine lv_iload_n hx hb dX8_total_37 rfl (lv_at hl 2 rfl) ?_
    refine lv_iconst (v := 1) hx hb dX8_total_38 (by decide) ?_
    refine lv_icmp_ne (tgt := 53) hx hb dX8_total_39 (by decide) (fun c7 => ?_) (fun c7 => ?_)
    · replace h := h.2 c7
      refine lv_iload_n hx hb dX8_total_53 rfl (lv_at hl 2 rfl) ?_
      refine lv_iconst (v := 2) hx hb dX8_total_54 (by decide) ?_
      refine lv_icmp_ne (tgt := 70) hx hb dX8_total_55 (by decide) (fun c8 => ?_) (fun c8 => ?_)
      · replace h := h.2 c8
        exact bX8_total_70 F hk5 h hR hS (lv_sub hl [0, 1, 2, 3, 4] rfl) hc
      · replace h := h.1 c8
        refine lv_aload_n hx hb dX8_total_58 rfl (lv_at hl 0 rfl) ?_
        obtain ⟨k26, h⟩ := h
        refine s_getR F hR k26 (by decide) (C := RX8) (T := TX8) (N := 46) rfl nX8_total_X8 22 (by decide) mX8_total_1 (f := 472) rfl dX8_total_59 (fun r27 er27 => ?_)
        replace h := h r27 er27
        refine lv_iload hx hb dX8_total_62 (lv_at hl 4 rfl) ?_
        obtain ⟨a28, ea28, h⟩ := h
        subst ea28
        obtain ⟨k29, h⟩ := h
        obtain ⟨z30, h⟩ := h
        refine s_iald F hR k29 (by decide) rfl z30 dX8_total_64 ?_
        refine lv_bipush (v := 7) hx hb dX8_total_65 (by decide) ?_
        refine lv_icmp_eq (tgt := 86) hx hb dX8_total_67 (by decide) (fun c31 => ?_) (fun c31 => ?_)
        · replace h := h.1 c31
          exact bX8_total_86 F hk5 h hR hS (lv_sub hl [0, 1, 2, 3, 4] rfl) hc
        · replace h := h.2 c31
          exact bX8_total_70 F hk5 h hR hS (lv_sub hl [0, 1, 2, 3, 4] rfl) hc
    · replace h := h.1 c7
      refine lv_aload_n hx hb dX8_total_42 rfl (lv_at hl 0 rfl) ?_
      obtain ⟨k32, h⟩ := h
      refine s_getR F hR k32 (by decide) (C := RX8) (T := TX8) (N := 46) rfl nX8_total_X8 23 (by decide) mX8_total_3 (f := 473) rfl dX8_total_43 (fun r33 er33 => ?_)
      replace h := h r33 er33
      refine lv_iload hx hb dX8_total_46 (lv_at hl 4 rfl) ?_
      obtain ⟨a34, ea34, h⟩ := h
      subst ea34
      obtain ⟨k35, h⟩ := h
      obtain ⟨z36, h⟩ := h
      refine s_iald F hR k35 (by decide) rfl z36 dX8_total_48 ?_
      refine lv_i2l hx hb dX8_total_49 rfl ?_
      refine lv_goto (tgt := 98) hx hb dX8_total_50 (by decide) ?_
      exact bX8_total_98 F hk5 h hR hS (lv_sub hl [0, 1, 2, 3, 4] rfl) hc
  · replace h := h.1 c6
    refine lv_lconst (v := 1) hx hb dX8_total_33 (by decide) ?_
    refine lv_goto (tgt := 98) hx hb dX8_total_34 (by decide) ?_
    exact bX8_total_98 F hk5 h hR hS (lv_sub hl [0, 1, 2, 3, 4] rfl) hc

set_option maxRecDepth 100000 in
def wX8_total_5 (o : Nat) (post : Int64 → St → Prop) : Nat → Int32 → Int32 → Int64 → Int32 → St → Prop
  | 0, _, _, _, _, _ => False
  | n + 1, x1, x2, x3, x5, σ0 =>
    sK σ0 o = 9 ∧ (((sI σ0 463 o 0) ≤ x5 → (post x3 σ0)) ∧ (¬ (sI σ0 463 o 0) ≤ x5 → ((x1 < 0 → (wX8_total_29 (wX8_total_5 o post n) o post x1 x2 x3 x5 σ0)) ∧ (¬ x1 < 0 → (sK σ0 o = 9 ∧ (∀ r38 : Option Nat, r38 = sR σ0 471 o 0 → (∃ a39 : Nat, r38 = some a39 ∧ (sK σ0 a39 = 1471 ∧ (vp_in x5 20 ∧ (((sI σ0 1471 a39 x5.toNatClampNeg) = x1 → (wX8_total_29 (wX8_total_5 o post n) o post x1 x2 x3 x5 σ0)) ∧ (¬ (sI σ0 1471 a39 x5.toNatClampNeg) = x1 → (∀ x43 : Int32, x43 = x5 + (1 : Int32) → (wX8_total_5 o post n x1 x2 x3 x43 σ0)))))))))))))
set_option maxHeartbeats 4000000 in
set_option maxRecDepth 100000 in
theorem bX8_total_5 {p : Program} {l : Launch} {e : Env} {s : State} {m : MethodId} {args : Array Value} {below : List Frame} {meth : Method} {c : Code} {Γ : rGam} {o : Nat} {post : Int64 → St → Prop} (F : Fx Γ p s m meth c args cX8_total 8 RX8 wsX8_total (some .long)) : ∀ (n : Nat) (x1 : Int32) (x2 : Int32) (x3 : Int64) (x5 : Int32) (σ0 : St) (H : Heap) (locs : List Loc) (ls : Array Slot) (cells slots : Nat), wX8_total_5 o post n x1 x2 x3 x5 σ0 → Rep Γ σ0 H → va_S (rA Γ) s.heap H locs → lv_has ls 8 [(0, .ref o), (1, .int x1), (2, .int x2), (3, .long x3), (5, .int x5)] → cells ≤ 0 ∧ slots ≤ 0 → W p l e rmX8_total s m args below meth c H locs cells slots (rQl Γ below post args s 0 0) (F0 m 5 ls []) := by
  have hx := F.1.1
  have hb := F.1.2.1
  intro n
  induction n with
  | zero =>
    intro x1 x2 x3 x5 σ0 H locs ls cells slots h
    exact absurd h (by unfold wX8_total_5; exact id)
  | succ n ih =>
    intro x1 x2 x3 x5 σ0 H locs ls cells slots h hR hS hl hc
    unfold wX8_total_5 at h
    refine lv_iload hx hb dX8_total_5 (lv_at hl 4 rfl) ?_
    refine lv_aload_n hx hb dX8_total_7 rfl (lv_at hl 0 rfl) ?_
    obtain ⟨k3, h⟩ := h
    refine s_getI F hR k3 (by decide) (C := RX8) (T := TX8) (N := 46) rfl nX8_total_X8 13 (by decide) mX8_total_0 (f := 463) rfl dX8_total_8 ?_
    refine lv_icmp_ge (tgt := 111) hx hb dX8_total_11 (by decide) (fun c4 => ?_) (fun c4 => ?_)
    · replace h := h.1 c4
      refine lv_lload_n hx hb dX8_total_111 rfl (lv_at hl 3 rfl) ?_
      exact s_lret F hR hS h hc dX8_total_112
    · replace h := h.2 c4
      refine lv_iload_n hx hb dX8_total_14 rfl (lv_at hl 1 rfl) ?_
      refine lv_if_lt (tgt := 29) hx hb dX8_total_15 (by decide) (fun c5 => ?_) (fun c5 => ?_)
      · replace h := h.1 c5
        exact bX8_total_29 F (fun x1 x2 x3 x5 σ0 H locs ls cells slots h hR hS hl hc => ih x1 x2 x3 x5 σ0 H locs ls cells slots h hR hS hl hc) h hR hS (lv_sub hl [0, 1, 2, 3, 4] rfl) hc
      · replace h := h.2 c5
        refine lv_aload_n hx hb dX8_total_18 rfl (lv_at hl 0 rfl) ?_
        obtain ⟨k37, h⟩ := h
        refine s_getR F hR k37 (by decide) (C := RX8) (T := TX8) (N := 46) rfl nX8_total_X8 21 (by decide) mX8_total_4 (f := 471) rfl dX8_total_19 (fun r38 er38 => ?_)
        replace h := h r38 er38
        refine lv_iload hx hb dX8_total_22 (lv_at hl 4 rfl) ?_
        obtain ⟨a39, ea39, h⟩ := h
        subst ea39
        obtain ⟨k40, h⟩ := h
        obtain ⟨z41, h⟩ := h
        refine s_iald F hR k40 (by decide) rfl z41 dX8_total_24 ?_
        refine lv_iload_n hx hb dX8_total_25 rfl (lv_at hl 1 rfl) ?_
        refine lv_icmp_ne (tgt := 105) hx hb dX8_total_26 (by decide) (fun c42 => ?_) (fun c42 => ?_)
        · replace h := h.2 c42
          obtain ⟨x43, ex43⟩ : ∃ x : Int32, x = x5 + (1 : Int32) := ⟨_, rfl⟩
          replace h := h x43 ex43
          refine s_iinc (v := x43) (d := 1) (lk := []) (lv' := [(5, .int x43), (0, .ref o), (1, .int x1), (2, .int x2), (3, .long x3)]) hx hb dX8_total_105 hl (k := 4) rfl (by decide) (by decide) rfl lk_0 ex43 rfl (fun ls hl44 => ?_)
          refine lv_goto (tgt := 5) hx hb dX8_total_108 (by decide) ?_
          exact ih x1 x2 x3 x43 σ0 _ _ _ _ _ h hR hS (lv_sub hl44 [1, 2, 3, 4, 0] rfl) hc
        · replace h := h.1 c42
          exact bX8_total_29 F (fun x1 x2 x3 x5 σ0 H locs ls cells slots h hR hS hl hc => ih x1 x2 x3 x5 σ0 H locs ls cells slots h hR hS hl hc) h hR hS (lv_sub hl [0, 1, 2, 3, 4] rfl) hc

set_option maxRecDepth 100000 in
def wX8_total (o : Nat) (p1 : Int32) (p2 : Int32) (post : Int64 → St → Prop) (σ0 : St) : Prop :=
  ∃ n45 : Nat, wX8_total_5 o post n45 p1 p2 (0 : Int64) (0 : Int32) σ0
set_option maxHeartbeats 4000000 in
set_option maxRecDepth 100000 in
theorem bX8_total {p : Program} {l : Launch} {e : Env} {s : State} {m : MethodId} {args : Array Value} {below : List Frame} {meth : Method} {c : Code} {Γ : rGam} {o : Nat} {post : Int64 → St → Prop} (F : Fx Γ p s m meth c args cX8_total 8 RX8 wsX8_total (some .long)) {H : Heap} {locs : List Loc} {ls : Array Slot} {cells slots : Nat} {p1 : Int32} {p2 : Int32} {σ0 : St} (h : wX8_total o p1 p2 post σ0) (hR : Rep Γ σ0 H) (hS : va_S (rA Γ) s.heap H locs) (hl : lv_has ls 8 [(0, .ref o), (1, .int p1), (2, .int p2)]) (hc : cells ≤ 0 ∧ slots ≤ 0) : W p l e rmX8_total s m args below meth c H locs cells slots (rQl Γ below post args s 0 0) (F0 m 0 ls []) := by
  have hx := F.1.1
  have hb := F.1.2.1
  unfold wX8_total at h
  refine lv_lconst (v := 0) hx hb dX8_total_0 (by decide) ?_
  refine s_lstore_n (lk := [(2, .int p2)]) (lv' := [(3, .long (0 : Int64)), (0, .ref o), (1, .int p1), (2, .int p2)]) hx hb dX8_total_1 rfl hl (by decide) rfl (lk_1 rfl) rfl (fun ls hl1 => ?_)
  refine lv_iconst (v := 0) hx hb dX8_total_2 (by decide) ?_
  refine s_istore (lk := []) (lv' := [(5, .int (0 : Int32)), (3, .long (0 : Int64)), (0, .ref o), (1, .int p1), (2, .int p2)]) hx hb dX8_total_3 hl1 (by decide) rfl lk_0 rfl (fun ls hl2 => ?_)
  obtain ⟨n45, h⟩ := h
  exact bX8_total_5 F n45 p1 p2 (0 : Int64) (0 : Int32) σ0 _ _ _ _ _ h hR hS (lv_sub hl2 [2, 3, 4, 1, 0] rfl) hc
set_option maxHeartbeats 4000000 in
set_option maxRecDepth 100000 in
theorem kX8_total (l : Launch) (Γ : rGam) (o : Nat) (p1 : Int32) (p2 : Int32) (post : Int64 → St → Prop) (σ0 : St) (h : wX8_total o p1 p2 post σ0) : Met l yX8_total wsX8_total rmX8_total (rPc Γ vwCl [.ref o, .int p1, .int p2] (Rep Γ σ0)) (va_Ql post (fun σ' t => Rep Γ σ' t.heap) (rA Γ)) 0 0 (rA Γ) := by
  refine Met.ofW (cc := cX8_total) (maxL := 8) (ret := (some .long)) (by decide) rfl ?_
  intro p e s m args below meth c s₁ B hml hv
  obtain ⟨rfl, hR, hE⟩ := hv
  have F : Fx Γ p s m meth c _ cX8_total 8 RX8 wsX8_total (some .long) := ⟨⟨B.exec, B.bytes, hml, findClass_of_methodNamed B.named, atoms_spec (ws := wsX8_total) B.pre⟩, hE, B.notSynchronized, B.returns⟩
  have hl := lv_entry ([.ref o, .int p1, .int p2]) (n := 8) (Nat.le_of_ble_eq_true rfl)
  rw [lg_entry_eq]
  generalize (lg_sl ([.ref o, .int p1, .int p2]) ++ List.replicate (8 - (lg_sl ([.ref o, .int p1, .int p2])).length) Slot.unset).toArray = ls at hl ⊢
  have hl : lv_has ls 8 [(0, .ref o), (1, .int p1), (2, .int p2)] := hl
  exact bX8_total F h hR va_S.rf hl ⟨Nat.le_refl 0, Nat.le_refl 0⟩
/-! X8_waitingInAll -/
theorem mX8_waitingInAll_0 : Cond.fieldLink RX8 182 "ClearingFilesModel" "rows" "I" ∈ wsX8_waitingInAll := by decide +kernel
theorem mX8_waitingInAll_1 : Cond.fieldLink RX8 93 "ClearingFilesModel" "state" "[I" ∈ wsX8_waitingInAll := by decide +kernel
theorem nX8_waitingInAll_X8 : ∀ w ∈ u_ws RX8 TX8 46, w ∈ wsX8_waitingInAll := fun _ h => List.mem_cons_of_mem _ (List.mem_append_right _ h)
abbrev rmX8_waitingInAll : Room := { frames := 0, cells := 0, slots := 0, locals := 0 }
set_option maxRecDepth 100000 in
def wX8_waitingInAll_28 (k4 : Int32 → Int32 → St → Prop) (o : Nat) (post : Int32 → St → Prop) (x2 : Int32) (y0 : Int32) (σ0 : St) : Prop :=
  ∀ x12 : Int32, x12 = x2 + (1 : Int32) → (k4 y0 x12 σ0)
set_option maxHeartbeats 4000000 in
set_option maxRecDepth 100000 in
theorem bX8_waitingInAll_28 {p : Program} {l : Launch} {e : Env} {s : State} {m : MethodId} {args : Array Value} {below : List Frame} {meth : Method} {c : Code} {Γ : rGam} {o : Nat} {post : Int32 → St → Prop} (F : Fx Γ p s m meth c args cX8_waitingInAll 3 RX8 wsX8_waitingInAll (some .int)) {k4 : Int32 → Int32 → St → Prop} (hk4 : ∀ (x1 : Int32) (x2 : Int32) (σ0 : St) (H : Heap) (locs : List Loc) (ls : Array Slot) (cells slots : Nat), k4 x1 x2 σ0 → Rep Γ σ0 H → va_S (rA Γ) s.heap H locs → lv_has ls 3 [(0, .ref o), (1, .int x1), (2, .int x2)] → cells ≤ 0 ∧ slots ≤ 0 → W p l e rmX8_waitingInAll s m args below meth c H locs cells slots (rQi Γ below post args s 0 0) (F0 m 4 ls [])) {H : Heap} {locs : List Loc} {ls : Array Slot} {cells slots : Nat} {x2 : Int32} {y0 : Int32} {σ0 : St} (h : wX8_waitingInAll_28 k4 o post x2 y0 σ0) (hR : Rep Γ σ0 H) (hS : va_S (rA Γ) s.heap H locs) (hl : lv_has ls 3 [(0, .ref o), (2, .int x2)]) (hc : cells ≤ 0 ∧ slots ≤ 0) : W p l e rmX8_waitingInAll s m args below meth c H locs cells slots (rQi Γ below post args s 0 0) (F0 m 28 ls [.int y0]) := by
  have hx := F.1.1
  have hb := F.1.2.1
  unfold wX8_waitingInAll_28 at h
  refine s_istore_n (lk := [(0, .ref o)]) (lv' := [(1, .int y0), (0, .ref o), (2, .int x2)]) hx hb dX8_waitingInAll_28 rfl hl (by decide) rfl (lk_1 rfl) rfl (fun ls hl11 => ?_)
  obtain ⟨x12, ex12⟩ : ∃ x : Int32, x = x2 + (1 : Int32) := ⟨_, rfl⟩
  replace h := h x12 ex12
  refine s_iinc (v := x12) (d := 1) (lk := [(1, .int y0)]) (lv' := [(2, .int x12), (1, .int y0), (0, .ref o)]) hx hb dX8_waitingInAll_29 hl11 (k := 2) rfl (by decide) (by decide) rfl (lk_1 rfl) ex12 rfl (fun ls hl13 => ?_)
  refine lv_goto (tgt := 4) hx hb dX8_waitingInAll_32 (by decide) ?_
  exact hk4 y0 x12 σ0 _ _ _ _ _ h hR hS (lv_sub hl13 [2, 1, 0] rfl) hc

set_option maxRecDepth 100000 in
def wX8_waitingInAll_4 (o : Nat) (post : Int32 → St → Prop) : Nat → Int32 → Int32 → St → Prop
  | 0, _, _, _ => False
  | n + 1, x1, x2, σ0 =>
    sK σ0 o = 9 ∧ (((sI σ0 479 o 0) ≤ x2 → (post x1 σ0)) ∧ (¬ (sI σ0 479 o 0) ≤ x2 → (sK σ0 o = 9 ∧ (∀ r6 : Option Nat, r6 = sR σ0 487 o 0 → (∃ a7 : Nat, r6 = some a7 ∧ (sK σ0 a7 = 1487 ∧ (vp_in x2 512 ∧ (((sI σ0 1487 a7 x2.toNatClampNeg) = 0 → (wX8_waitingInAll_28 (wX8_waitingInAll_4 o post n) o post x2 (x1 + (1 : Int32)) σ0)) ∧ (¬ (sI σ0 1487 a7 x2.toNatClampNeg) = 0 → (wX8_waitingInAll_28 (wX8_waitingInAll_4 o post n) o post x2 x1 σ0))))))))))
set_option maxHeartbeats 4000000 in
set_option maxRecDepth 100000 in
theorem bX8_waitingInAll_4 {p : Program} {l : Launch} {e : Env} {s : State} {m : MethodId} {args : Array Value} {below : List Frame} {meth : Method} {c : Code} {Γ : rGam} {o : Nat} {post : Int32 → St → Prop} (F : Fx Γ p s m meth c args cX8_waitingInAll 3 RX8 wsX8_waitingInAll (some .int)) : ∀ (n : Nat) (x1 : Int32) (x2 : Int32) (σ0 : St) (H : Heap) (locs : List Loc) (ls : Array Slot) (cells slots : Nat), wX8_waitingInAll_4 o post n x1 x2 σ0 → Rep Γ σ0 H → va_S (rA Γ) s.heap H locs → lv_has ls 3 [(0, .ref o), (1, .int x1), (2, .int x2)] → cells ≤ 0 ∧ slots ≤ 0 → W p l e rmX8_waitingInAll s m args below meth c H locs cells slots (rQi Γ below post args s 0 0) (F0 m 4 ls []) := by
  have hx := F.1.1
  have hb := F.1.2.1
  intro n
  induction n with
  | zero =>
    intro x1 x2 σ0 H locs ls cells slots h
    exact absurd h (by unfold wX8_waitingInAll_4; exact id)
  | succ n ih =>
    intro x1 x2 σ0 H locs ls cells slots h hR hS hl hc
    unfold wX8_waitingInAll_4 at h
    refine lv_iload_n hx hb dX8_waitingInAll_4 rfl (lv_at hl 2 rfl) ?_
    refine lv_aload_n hx hb dX8_waitingInAll_5 rfl (lv_at hl 0 rfl) ?_
    obtain ⟨k3, h⟩ := h
    refine s_getI F hR k3 (by decide) (C := RX8) (T := TX8) (N := 46) rfl nX8_waitingInAll_X8 29 (by decide) mX8_waitingInAll_0 (f := 479) rfl dX8_waitingInAll_6 ?_
    refine lv_icmp_ge (tgt := 35) hx hb dX8_waitingInAll_9 (by decide) (fun c4 => ?_) (fun c4 => ?_)
    · replace h := h.1 c4
      refine lv_iload_n hx hb dX8_waitingInAll_35 rfl (lv_at hl 1 rfl) ?_
      exact s_iret F hR hS h hc dX8_waitingInAll_36
    · replace h := h.2 c4
      refine lv_aload_n hx hb dX8_waitingInAll_12 rfl (lv_at hl 0 rfl) ?_
      obtain ⟨k5, h⟩ := h
      refine s_getR F hR k5 (by decide) (C := RX8) (T := TX8) (N := 46) rfl nX8_waitingInAll_X8 37 (by decide) mX8_waitingInAll_1 (f := 487) rfl dX8_waitingInAll_13 (fun r6 er6 => ?_)
      replace h := h r6 er6
      refine lv_iload_n hx hb dX8_waitingInAll_16 rfl (lv_at hl 2 rfl) ?_
      obtain ⟨a7, ea7, h⟩ := h
      subst ea7
      obtain ⟨k8, h⟩ := h
      obtain ⟨z9, h⟩ := h
      refine s_iald F hR k8 (by decide) rfl z9 dX8_waitingInAll_17 ?_
      refine lv_if_ne (tgt := 27) hx hb dX8_waitingInAll_18 (by decide) (fun c10 => ?_) (fun c10 => ?_)
      · replace h := h.2 c10
        refine lv_iload_n hx hb dX8_waitingInAll_27 rfl (lv_at hl 1 rfl) ?_
        exact bX8_waitingInAll_28 F (fun x1 x2 σ0 H locs ls cells slots h hR hS hl hc => ih x1 x2 σ0 H locs ls cells slots h hR hS hl hc) h hR hS (lv_sub hl [0, 2] rfl) hc
      · replace h := h.1 c10
        refine lv_iload_n hx hb dX8_waitingInAll_21 rfl (lv_at hl 1 rfl) ?_
        refine lv_iconst (v := 1) hx hb dX8_waitingInAll_22 (by decide) ?_
        refine lv_iadd hx hb dX8_waitingInAll_23 ?_
        refine lv_goto (tgt := 28) hx hb dX8_waitingInAll_24 (by decide) ?_
        exact bX8_waitingInAll_28 F (fun x1 x2 σ0 H locs ls cells slots h hR hS hl hc => ih x1 x2 σ0 H locs ls cells slots h hR hS hl hc) h hR hS (lv_sub hl [0, 2] rfl) hc

set_option maxRecDepth 100000 in
def wX8_waitingInAll (o : Nat)  (post : Int32 → St → Prop) (σ0 : St) : Prop :=
  ∃ n14 : Nat, wX8_waitingInAll_4 o post n14 (0 : Int32) (0 : Int32) σ0
set_option maxHeartbeats 4000000 in
set_option maxRecDepth 100000 in
theorem bX8_waitingInAll {p : Program} {l : Launch} {e : Env} {s : State} {m : MethodId} {args : Array Value} {below : List Frame} {meth : Method} {c : Code} {Γ : rGam} {o : Nat} {post : Int32 → St → Prop} (F : Fx Γ p s m meth c args cX8_waitingInAll 3 RX8 wsX8_waitingInAll (some .int)) {H : Heap} {locs : List Loc} {ls : Array Slot} {cells slots : Nat}  {σ0 : St} (h : wX8_waitingInAll o  post σ0) (hR : Rep Γ σ0 H) (hS : va_S (rA Γ) s.heap H locs) (hl : lv_has ls 3 [(0, .ref o)]) (hc : cells ≤ 0 ∧ slots ≤ 0) : W p l e rmX8_waitingInAll s m args below meth c H locs cells slots (rQi Γ below post args s 0 0) (F0 m 0 ls []) := by
  have hx := F.1.1
  have hb := F.1.2.1
  unfold wX8_waitingInAll at h
  refine lv_iconst (v := 0) hx hb dX8_waitingInAll_0 (by decide) ?_
  refine s_istore_n (lk := [(0, .ref o)]) (lv' := [(1, .int (0 : Int32)), (0, .ref o)]) hx hb dX8_waitingInAll_1 rfl hl (by decide) rfl (lk_1 rfl) rfl (fun ls hl1 => ?_)
  refine lv_iconst (v := 0) hx hb dX8_waitingInAll_2 (by decide) ?_
  refine s_istore_n (lk := [(1, .int (0 : Int32))]) (lv' := [(2, .int (0 : Int32)), (1, .int (0 : Int32)), (0, .ref o)]) hx hb dX8_waitingInAll_3 rfl hl1 (by decide) rfl (lk_1 rfl) rfl (fun ls hl2 => ?_)
  obtain ⟨n14, h⟩ := h
  exact bX8_waitingInAll_4 F n14 (0 : Int32) (0 : Int32) σ0 _ _ _ _ _ h hR hS (lv_sub hl2 [2, 1, 0] rfl) hc
set_option maxHeartbeats 4000000 in
set_option maxRecDepth 100000 in
theorem kX8_waitingInAll (l : Launch) (Γ : rGam) (o : Nat)  (post : Int32 → St → Prop) (σ0 : St) (h : wX8_waitingInAll o  post σ0) : Met l yX8_waitingInAll wsX8_waitingInAll rmX8_waitingInAll (rPc Γ vwCl [.ref o] (Rep Γ σ0)) (va_Qi post (fun σ' t => Rep Γ σ' t.heap) (rA Γ)) 0 0 (rA Γ) := by
  refine Met.ofW (cc := cX8_waitingInAll) (maxL := 3) (ret := (some .int)) (by decide) rfl ?_
  intro p e s m args below meth c s₁ B hml hv
  obtain ⟨rfl, hR, hE⟩ := hv
  have F : Fx Γ p s m meth c _ cX8_waitingInAll 3 RX8 wsX8_waitingInAll (some .int) := ⟨⟨B.exec, B.bytes, hml, findClass_of_methodNamed B.named, atoms_spec (ws := wsX8_waitingInAll) B.pre⟩, hE, B.notSynchronized, B.returns⟩
  have hl := lv_entry ([.ref o]) (n := 3) (Nat.le_of_ble_eq_true rfl)
  rw [lg_entry_eq]
  generalize (lg_sl ([.ref o]) ++ List.replicate (3 - (lg_sl ([.ref o])).length) Slot.unset).toArray = ls at hl ⊢
  have hl : lv_has ls 3 [(0, .ref o)] := hl
  exact bX8_waitingInAll F h hR va_S.rf hl ⟨Nat.le_refl 0, Nat.le_refl 0⟩
/-! X8_allDone -/
theorem mX8_allDone_0 : Cond.fieldLink RX8 102 "ClearingFilesModel" "outCount" "[I" ∈ wsX8_allDone := by decide +kernel
theorem mX8_allDone_1 : Cond.fieldLink RX8 111 "ClearingFilesModel" "outDone" "[I" ∈ wsX8_allDone := by decide +kernel
theorem nX8_allDone_X8 : ∀ w ∈ u_ws RX8 TX8 46, w ∈ wsX8_allDone := fun _ h => List.mem_cons_of_mem _ (List.mem_append_right _ h)
abbrev rmX8_allDone : Room := { frames := 0, cells := 0, slots := 0, locals := 0 }
set_option maxRecDepth 100000 in
def wX8_allDone_38 (k4 : Int32 → Int32 → Int32 → St → Prop) (o : Nat) (post : Int32 → St → Prop) (x1 : Int32) (x3 : Int32) (y0 : Int32) (σ0 : St) : Prop :=
  ∀ x11 : Int32, x11 = x3 + (1 : Int32) → (k4 x1 y0 x11 σ0)
set_option maxHeartbeats 4000000 in
set_option maxRecDepth 100000 in
theorem bX8_allDone_38 {p : Program} {l : Launch} {e : Env} {s : State} {m : MethodId} {args : Array Value} {below : List Frame} {meth : Method} {c : Code} {Γ : rGam} {o : Nat} {post : Int32 → St → Prop} (F : Fx Γ p s m meth c args cX8_allDone 4 RX8 wsX8_allDone (some .boolean)) {k4 : Int32 → Int32 → Int32 → St → Prop} (hk4 : ∀ (x1 : Int32) (x2 : Int32) (x3 : Int32) (σ0 : St) (H : Heap) (locs : List Loc) (ls : Array Slot) (cells slots : Nat), k4 x1 x2 x3 σ0 → Rep Γ σ0 H → va_S (rA Γ) s.heap H locs → lv_has ls 4 [(0, .ref o), (1, .int x1), (2, .int x2), (3, .int x3)] → cells ≤ 0 ∧ slots ≤ 0 → W p l e rmX8_allDone s m args below meth c H locs cells slots (rQi Γ below post args s 0 0) (F0 m 4 ls [])) {H : Heap} {locs : List Loc} {ls : Array Slot} {cells slots : Nat} {x1 : Int32} {x3 : Int32} {y0 : Int32} {σ0 : St} (h : wX8_allDone_38 k4 o post x1 x3 y0 σ0) (hR : Rep Γ σ0 H) (hS : va_S (rA Γ) s.heap H locs) (hl : lv_has ls 4 [(0, .ref o), (1, .int x1), (3, .int x3)]) (hc : cells ≤ 0 ∧ slots ≤ 0) : W p l e rmX8_allDone s m args below meth c H locs cells slots (rQi Γ below post args s 0 0) (F0 m 38 ls [.int y0]) := by
  have hx := F.1.1
  have hb := F.1.2.1
  unfold wX8_allDone_38 at h
  refine s_istore_n (lk := [(1, .int x1)]) (lv' := [(2, .int y0), (0, .ref o), (1, .int x1), (3, .int x3)]) hx hb dX8_allDone_38 rfl hl (by decide) rfl (lk_1 rfl) rfl (fun ls hl10 => ?_)
  obtain ⟨x11, ex11⟩ : ∃ x : Int32, x = x3 + (1 : Int32) := ⟨_, rfl⟩
  replace h := h x11 ex11
  refine s_iinc (v := x11) (d := 1) (lk := [(2, .int y0)]) (lv' := [(3, .int x11), (2, .int y0), (0, .ref o), (1, .int x1)]) hx hb dX8_allDone_39 hl10 (k := 3) rfl (by decide) (by decide) rfl (lk_1 rfl) ex11 rfl (fun ls hl12 => ?_)
  refine lv_goto (tgt := 4) hx hb dX8_allDone_42 (by decide) ?_
  exact hk4 x1 y0 x11 σ0 _ _ _ _ _ h hR hS (lv_sub hl12 [2, 3, 1, 0] rfl) hc

set_option maxRecDepth 100000 in
def wX8_allDone_37 (k4 : Int32 → Int32 → Int32 → St → Prop) (o : Nat) (post : Int32 → St → Prop) (x1 : Int32) (x3 : Int32) (σ0 : St) : Prop :=
  wX8_allDone_38 k4 o post x1 x3 (0 : Int32) σ0
set_option maxHeartbeats 4000000 in
set_option maxRecDepth 100000 in
theorem bX8_allDone_37 {p : Program} {l : Launch} {e : Env} {s : State} {m : MethodId} {args : Array Value} {below : List Frame} {meth : Method} {c : Code} {Γ : rGam} {o : Nat} {post : Int32 → St → Prop} (F : Fx Γ p s m meth c args cX8_allDone 4 RX8 wsX8_allDone (some .boolean)) {k4 : Int32 → Int32 → Int32 → St → Prop} (hk4 : ∀ (x1 : Int32) (x2 : Int32) (x3 : Int32) (σ0 : St) (H : Heap) (locs : List Loc) (ls : Array Slot) (cells slots : Nat), k4 x1 x2 x3 σ0 → Rep Γ σ0 H → va_S (rA Γ) s.heap H locs → lv_has ls 4 [(0, .ref o), (1, .int x1), (2, .int x2), (3, .int x3)] → cells ≤ 0 ∧ slots ≤ 0 → W p l e rmX8_allDone s m args below meth c H locs cells slots (rQi Γ below post args s 0 0) (F0 m 4 ls [])) {H : Heap} {locs : List Loc} {ls : Array Slot} {cells slots : Nat} {x1 : Int32} {x3 : Int32} {σ0 : St} (h : wX8_allDone_37 k4 o post x1 x3 σ0) (hR : Rep Γ σ0 H) (hS : va_S (rA Γ) s.heap H locs) (hl : lv_has ls 4 [(0, .ref o), (1, .int x1), (3, .int x3)]) (hc : cells ≤ 0 ∧ slots ≤ 0) : W p l e rmX8_allDone s m args below meth c H locs cells slots (rQi Γ below post args s 0 0) (F0 m 37 ls []) := by
  have hx := F.1.1
  have hb := F.1.2.1
  unfold wX8_allDone_37 at h
  refine lv_iconst (v := 0) hx hb dX8_allDone_37 (by decide) ?_
  exact bX8_allDone_38 F hk4 h hR hS (lv_sub hl [0, 1, 2] rfl) hc

set_option maxRecDepth 100000 in
def wX8_allDone_4 (o : Nat) (post : Int32 → St → Prop) : Nat → Int32 → Int32 → Int32 → St → Prop
  | 0, _, _, _, _ => False
  | n + 1, x1, x2, x3, σ0 =>
    sK σ0 o = 9 ∧ (∀ r4 : Option Nat, r4 = sR σ0 491 o 0 → (∃ a5 : Nat, r4 = some a5 ∧ (sK σ0 a5 = 1491 ∧ (vp_in x1 5 ∧ (((sI σ0 1491 a5 x1.toNatClampNeg) ≤ x3 → (isB x2 ∧ post x2 σ0)) ∧ (¬ (sI σ0 1491 a5 x1.toNatClampNeg) ≤ x3 → ((x2 = 0 → (wX8_allDone_37 (wX8_allDone_4 o post n) o post x1 x3 σ0)) ∧ (¬ x2 = 0 → (sK σ0 o = 9 ∧ (∀ r14 : Option Nat, r14 = sR σ0 494 o 0 → (∃ a15 : Nat, r14 = some a15 ∧ (sK σ0 a15 = 1494 ∧ (vp_in (((512 : Int32) * x1) + x3) 2560 ∧ (((sI σ0 1494 a15 (((512 : Int32) * x1) + x3).toNatClampNeg) ≤ 0 → (wX8_allDone_37 (wX8_allDone_4 o post n) o post x1 x3 σ0)) ∧ (¬ (sI σ0 1494 a15 (((512 : Int32) * x1) + x3).toNatClampNeg) ≤ 0 → (wX8_allDone_38 (wX8_allDone_4 o post n) o post x1 x3 (1 : Int32) σ0))))))))))))))))
set_option maxHeartbeats 4000000 in
set_option maxRecDepth 100000 in
theorem bX8_allDone_4 {p : Program} {l : Launch} {e : Env} {s : State} {m : MethodId} {args : Array Value} {below : List Frame} {meth : Method} {c : Code} {Γ : rGam} {o : Nat} {post : Int32 → St → Prop} (F : Fx Γ p s m meth c args cX8_allDone 4 RX8 wsX8_allDone (some .boolean)) : ∀ (n : Nat) (x1 : Int32) (x2 : Int32) (x3 : Int32) (σ0 : St) (H : Heap) (locs : List Loc) (ls : Array Slot) (cells slots : Nat), wX8_allDone_4 o post n x1 x2 x3 σ0 → Rep Γ σ0 H → va_S (rA Γ) s.heap H locs → lv_has ls 4 [(0, .ref o), (1, .int x1), (2, .int x2), (3, .int x3)] → cells ≤ 0 ∧ slots ≤ 0 → W p l e rmX8_allDone s m args below meth c H locs cells slots (rQi Γ below post args s 0 0) (F0 m 4 ls []) := by
  have hx := F.1.1
  have hb := F.1.2.1
  intro n
  induction n with
  | zero =>
    intro x1 x2 x3 σ0 H locs ls cells slots h
    exact absurd h (by unfold wX8_allDone_4; exact id)
  | succ n ih =>
    intro x1 x2 x3 σ0 H locs ls cells slots h hR hS hl hc
    unfold wX8_allDone_4 at h
    refine lv_iload_n hx hb dX8_allDone_4 rfl (lv_at hl 3 rfl) ?_
    refine lv_aload_n hx hb dX8_allDone_5 rfl (lv_at hl 0 rfl) ?_
    obtain ⟨k3, h⟩ := h
    refine s_getR F hR k3 (by decide) (C := RX8) (T := TX8) (N := 46) rfl nX8_allDone_X8 41 (by decide) mX8_allDone_0 (f := 491) rfl dX8_allDone_6 (fun r4 er4 => ?_)
    replace h := h r4 er4
    refine lv_iload_n hx hb dX8_allDone_9 rfl (lv_at hl 1 rfl) ?_
    obtain ⟨a5, ea5, h⟩ := h
    subst ea5
    obtain ⟨k6, h⟩ := h
    obtain ⟨z7, h⟩ := h
    refine s_iald F hR k6 (by decide) rfl z7 dX8_allDone_10 ?_
    refine lv_icmp_ge (tgt := 45) hx hb dX8_allDone_11 (by decide) (fun c8 => ?_) (fun c8 => ?_)
    · replace h := h.1 c8
      refine lv_iload_n hx hb dX8_allDone_45 rfl (lv_at hl 2 rfl) ?_
      exact s_zret F hR hS h.1 h.2 hc dX8_allDone_46
    · replace h := h.2 c8
      refine lv_iload_n hx hb dX8_allDone_14 rfl (lv_at hl 2 rfl) ?_
      refine lv_if_eq (tgt := 37) hx hb dX8_allDone_15 (by decide) (fun c9 => ?_) (fun c9 => ?_)
      · replace h := h.1 c9
        exact bX8_allDone_37 F (fun x1 x2 x3 σ0 H locs ls cells slots h hR hS hl hc => ih x1 x2 x3 σ0 H locs ls cells slots h hR hS hl hc) h hR hS (lv_sub hl [0, 1, 3] rfl) hc
      · replace h := h.2 c9
        refine lv_aload_n hx hb dX8_allDone_18 rfl (lv_at hl 0 rfl) ?_
        obtain ⟨k13, h⟩ := h
        refine s_getR F hR k13 (by decide) (C := RX8) (T := TX8) (N := 46) rfl nX8_allDone_X8 44 (by decide) mX8_allDone_1 (f := 494) rfl dX8_allDone_19 (fun r14 er14 => ?_)
        replace h := h r14 er14
        refine lv_sipush (v := 512) hx hb dX8_allDone_22 (by decide) ?_
        refine lv_iload_n hx hb dX8_allDone_25 rfl (lv_at hl 1 rfl) ?_
        refine lv_imul hx hb dX8_allDone_26 ?_
        refine lv_iload_n hx hb dX8_allDone_27 rfl (lv_at hl 3 rfl) ?_
        refine lv_iadd hx hb dX8_allDone_28 ?_
        obtain ⟨a15, ea15, h⟩ := h
        subst ea15
        obtain ⟨k16, h⟩ := h
        obtain ⟨z17, h⟩ := h
        refine s_iald F hR k16 (by decide) rfl z17 dX8_allDone_29 ?_
        refine lv_if_le (tgt := 37) hx hb dX8_allDone_30 (by decide) (fun c18 => ?_) (fun c18 => ?_)
        · replace h := h.1 c18
          exact bX8_allDone_37 F (fun x1 x2 x3 σ0 H locs ls cells slots h hR hS hl hc => ih x1 x2 x3 σ0 H locs ls cells slots h hR hS hl hc) h hR hS (lv_sub hl [0, 1, 3] rfl) hc
        · replace h := h.2 c18
          refine lv_iconst (v := 1) hx hb dX8_allDone_33 (by decide) ?_
          refine lv_goto (tgt := 38) hx hb dX8_allDone_34 (by decide) ?_
          exact bX8_allDone_38 F (fun x1 x2 x3 σ0 H locs ls cells slots h hR hS hl hc => ih x1 x2 x3 σ0 H locs ls cells slots h hR hS hl hc) h hR hS (lv_sub hl [0, 1, 3] rfl) hc

set_option maxRecDepth 100000 in
def wX8_allDone (o : Nat) (p1 : Int32) (post : Int32 → St → Prop) (σ0 : St) : Prop :=
  ∃ n19 : Nat, wX8_allDone_4 o post n19 p1 (1 : Int32) (0 : Int32) σ0
set_option maxHeartbeats 4000000 in
set_option maxRecDepth 100000 in
theorem bX8_allDone {p : Program} {l : Launch} {e : Env} {s : State} {m : MethodId} {args : Array Value} {below : List Frame} {meth : Method} {c : Code} {Γ : rGam} {o : Nat} {post : Int32 → St → Prop} (F : Fx Γ p s m meth c args cX8_allDone 4 RX8 wsX8_allDone (some .boolean)) {H : Heap} {locs : List Loc} {ls : Array Slot} {cells slots : Nat} {p1 : Int32} {σ0 : St} (h : wX8_allDone o p1 post σ0) (hR : Rep Γ σ0 H) (hS : va_S (rA Γ) s.heap H locs) (hl : lv_has ls 4 [(0, .ref o), (1, .int p1)]) (hc : cells ≤ 0 ∧ slots ≤ 0) : W p l e rmX8_allDone s m args below meth c H locs cells slots (rQi Γ below post args s 0 0) (F0 m 0 ls []) := by
  have hx := F.1.1
  have hb := F.1.2.1
  unfold wX8_allDone at h
  refine lv_iconst (v := 1) hx hb dX8_allDone_0 (by decide) ?_
  refine s_istore_n (lk := [(1, .int p1)]) (lv' := [(2, .int (1 : Int32)), (0, .ref o), (1, .int p1)]) hx hb dX8_allDone_1 rfl hl (by decide) rfl (lk_1 rfl) rfl (fun ls hl1 => ?_)
  refine lv_iconst (v := 0) hx hb dX8_allDone_2 (by decide) ?_
  refine s_istore_n (lk := [(2, .int (1 : Int32))]) (lv' := [(3, .int (0 : Int32)), (2, .int (1 : Int32)), (0, .ref o), (1, .int p1)]) hx hb dX8_allDone_3 rfl hl1 (by decide) rfl (lk_1 rfl) rfl (fun ls hl2 => ?_)
  obtain ⟨n19, h⟩ := h
  exact bX8_allDone_4 F n19 p1 (1 : Int32) (0 : Int32) σ0 _ _ _ _ _ h hR hS (lv_sub hl2 [2, 3, 1, 0] rfl) hc
set_option maxHeartbeats 4000000 in
set_option maxRecDepth 100000 in
theorem kX8_allDone (l : Launch) (Γ : rGam) (o : Nat) (p1 : Int32) (post : Int32 → St → Prop) (σ0 : St) (h : wX8_allDone o p1 post σ0) : Met l yX8_allDone wsX8_allDone rmX8_allDone (rPc Γ vwCl [.ref o, .int p1] (Rep Γ σ0)) (va_Qi post (fun σ' t => Rep Γ σ' t.heap) (rA Γ)) 0 0 (rA Γ) := by
  refine Met.ofW (cc := cX8_allDone) (maxL := 4) (ret := (some .boolean)) (by decide) rfl ?_
  intro p e s m args below meth c s₁ B hml hv
  obtain ⟨rfl, hR, hE⟩ := hv
  have F : Fx Γ p s m meth c _ cX8_allDone 4 RX8 wsX8_allDone (some .boolean) := ⟨⟨B.exec, B.bytes, hml, findClass_of_methodNamed B.named, atoms_spec (ws := wsX8_allDone) B.pre⟩, hE, B.notSynchronized, B.returns⟩
  have hl := lv_entry ([.ref o, .int p1]) (n := 4) (Nat.le_of_ble_eq_true rfl)
  rw [lg_entry_eq]
  generalize (lg_sl ([.ref o, .int p1]) ++ List.replicate (4 - (lg_sl ([.ref o, .int p1])).length) Slot.unset).toArray = ls at hl ⊢
  have hl : lv_has ls 4 [(0, .ref o), (1, .int p1)] := hl
  exact bX8_allDone F h hR va_S.rf hl ⟨Nat.le_refl 0, Nat.le_refl 0⟩
/-! X8_before -/
theorem mX8_before_0 : Cond.fieldLink RX8 90 "ClearingFilesModel" "due" "[I" ∈ wsX8_before := by decide +kernel
theorem mX8_before_1 : Cond.fieldLink RX8 75 "ClearingFilesModel" "giver" "[I" ∈ wsX8_before := by decide +kernel
theorem mX8_before_2 : Cond.fieldLink RX8 99 "ClearingFilesModel" "back" "[I" ∈ wsX8_before := by decide +kernel
theorem nX8_before_X8 : ∀ w ∈ u_ws RX8 TX8 46, w ∈ wsX8_before := fun _ h => List.mem_cons_of_mem _ (List.mem_append_right _ h)
abbrev rmX8_before : Room := { frames := 0, cells := 0, slots := 0, locals := 0 }
set_option maxRecDepth 100000 in
def wX8_before (o : Nat) (p1 : Int32) (p2 : Int32) (p3 : Int32) (post : Int32 → St → Prop) (σ0 : St) : Prop :=
  (p3 = 0 → (sK σ0 o = 9 ∧ (∀ r3 : Option Nat, r3 = sR σ0 486 o 0 → (∃ a4 : Nat, r3 = some a4 ∧ (sK σ0 a4 = 1486 ∧ (vp_in p1 512 ∧ (sK σ0 o = 9 ∧ (∀ r8 : Option Nat, r8 = sR σ0 486 o 0 → (∃ a9 : Nat, r8 = some a9 ∧ (sK σ0 a9 = 1486 ∧ (vp_in p2 512 ∧ (((sI σ0 1486 a4 p1.toNatClampNeg) = (sI σ0 1486 a9 p2.toNatClampNeg) → (sK σ0 o = 9 ∧ (∀ r14 : Option Nat, r14 = sR σ0 481 o 0 → (∃ a15 : Nat, r14 = some a15 ∧ (sK σ0 a15 = 1481 ∧ (vp_in p1 512 ∧ (sK σ0 o = 9 ∧ (∀ r19 : Option Nat, r19 = sR σ0 481 o 0 → (∃ a20 : Nat, r19 = some a20 ∧ (sK σ0 a20 = 1481 ∧ (vp_in p2 512 ∧ (((sI σ0 1481 a20 p2.toNatClampNeg) < (sI σ0 1481 a15 p1.toNatClampNeg) → (post (0 : Int32) σ0)) ∧ (¬ (sI σ0 1481 a20 p2.toNatClampNeg) < (sI σ0 1481 a15 p1.toNatClampNeg) → (post (1 : Int32) σ0)))))))))))))) ∧ (¬ (sI σ0 1486 a4 p1.toNatClampNeg) = (sI σ0 1486 a9 p2.toNatClampNeg) → (sK σ0 o = 9 ∧ (∀ r25 : Option Nat, r25 = sR σ0 486 o 0 → (∃ a26 : Nat, r25 = some a26 ∧ (sK σ0 a26 = 1486 ∧ (vp_in p1 512 ∧ (sK σ0 o = 9 ∧ (∀ r30 : Option Nat, r30 = sR σ0 486 o 0 → (∃ a31 : Nat, r30 = some a31 ∧ (sK σ0 a31 = 1486 ∧ (vp_in p2 512 ∧ (((sI σ0 1486 a31 p2.toNatClampNeg) ≤ (sI σ0 1486 a26 p1.toNatClampNeg) → (post (0 : Int32) σ0)) ∧ (¬ (sI σ0 1486 a31 p2.toNatClampNeg) ≤ (sI σ0 1486 a26 p1.toNatClampNeg) → (post (1 : Int32) σ0)))))))))))))))))))))))))) ∧ (¬ p3 = 0 → (sK σ0 o = 9 ∧ (∀ r36 : Option Nat, r36 = sR σ0 489 o 0 → (∃ a37 : Nat, r36 = some a37 ∧ (sK σ0 a37 = 1489 ∧ (vp_in p1 512 ∧ (sK σ0 o = 9 ∧ (∀ r41 : Option Nat, r41 = sR σ0 489 o 0 → (∃ a42 : Nat, r41 = some a42 ∧ (sK σ0 a42 = 1489 ∧ (vp_in p2 512 ∧ (((sI σ0 1489 a42 p2.toNatClampNeg) ≤ (sI σ0 1489 a37 p1.toNatClampNeg) → (post (0 : Int32) σ0)) ∧ (¬ (sI σ0 1489 a42 p2.toNatClampNeg) ≤ (sI σ0 1489 a37 p1.toNatClampNeg) → (post (1 : Int32) σ0))))))))))))))
set_option maxHeartbeats 4000000 in
set_option maxRecDepth 100000 in
theorem bX8_before {p : Program} {l : Launch} {e : Env} {s : State} {m : MethodId} {args : Array Value} {below : List Frame} {meth : Method} {c : Code} {Γ : rGam} {o : Nat} {post : Int32 → St → Prop} (F : Fx Γ p s m meth c args cX8_before 4 RX8 wsX8_before (some .boolean)) {H : Heap} {locs : List Loc} {ls : Array Slot} {cells slots : Nat} {p1 : Int32} {p2 : Int32} {p3 : Int32} {σ0 : St} (h : wX8_before o p1 p2 p3 post σ0) (hR : Rep Γ σ0 H) (hS : va_S (rA Γ) s.heap H locs) (hl : lv_has ls 4 [(0, .ref o), (1, .int p1), (2, .int p2), (3, .int p3)]) (hc : cells ≤ 0 ∧ slots ≤ 0) : W p l e rmX8_before s m args below meth c H locs cells slots (rQi Γ below post args s 0 0) (F0 m 0 ls []) := by
  have hx := F.1.1
  have hb := F.1.2.1
  unfold wX8_before at h
  refine lv_iload_n hx hb dX8_before_0 rfl (lv_at hl 3 rfl) ?_
  refine lv_if_eq (tgt := 25) hx hb dX8_before_1 (by decide) (fun c1 => ?_) (fun c1 => ?_)
  · replace h := h.1 c1
    refine lv_aload_n hx hb dX8_before_25 rfl (lv_at hl 0 rfl) ?_
    obtain ⟨k2, h⟩ := h
    refine s_getR F hR k2 (by decide) (C := RX8) (T := TX8) (N := 46) rfl nX8_before_X8 36 (by decide) mX8_before_0 (f := 486) rfl dX8_before_26 (fun r3 er3 => ?_)
    replace h := h r3 er3
    refine lv_iload_n hx hb dX8_before_29 rfl (lv_at hl 1 rfl) ?_
    obtain ⟨a4, ea4, h⟩ := h
    subst ea4
    obtain ⟨k5, h⟩ := h
    obtain ⟨z6, h⟩ := h
    refine s_iald F hR k5 (by decide) rfl z6 dX8_before_30 ?_
    refine lv_aload_n hx hb dX8_before_31 rfl (lv_at hl 0 rfl) ?_
    obtain ⟨k7, h⟩ := h
    refine s_getR F hR k7 (by decide) (C := RX8) (T := TX8) (N := 46) rfl nX8_before_X8 36 (by decide) mX8_before_0 (f := 486) rfl dX8_before_32 (fun r8 er8 => ?_)
    replace h := h r8 er8
    refine lv_iload_n hx hb dX8_before_35 rfl (lv_at hl 2 rfl) ?_
    obtain ⟨a9, ea9, h⟩ := h
    subst ea9
    obtain ⟨k10, h⟩ := h
    obtain ⟨z11, h⟩ := h
    refine s_iald F hR k10 (by decide) rfl z11 dX8_before_36 ?_
    refine lv_icmp_eq (tgt := 63) hx hb dX8_before_37 (by decide) (fun c12 => ?_) (fun c12 => ?_)
    · replace h := h.1 c12
      refine lv_aload_n hx hb dX8_before_63 rfl (lv_at hl 0 rfl) ?_
      obtain ⟨k13, h⟩ := h
      refine s_getR F hR k13 (by decide) (C := RX8) (T := TX8) (N := 46) rfl nX8_before_X8 31 (by decide) mX8_before_1 (f := 481) rfl dX8_before_64 (fun r14 er14 => ?_)
      replace h := h r14 er14
      refine lv_iload_n hx hb dX8_before_67 rfl (lv_at hl 1 rfl) ?_
      obtain ⟨a15, ea15, h⟩ := h
      subst ea15
      obtain ⟨k16, h⟩ := h
      obtain ⟨z17, h⟩ := h
      refine s_iald F hR k16 (by decide) rfl z17 dX8_before_68 ?_
      refine lv_aload_n hx hb dX8_before_69 rfl (lv_at hl 0 rfl) ?_
      obtain ⟨k18, h⟩ := h
      refine s_getR F hR k18 (by decide) (C := RX8) (T := TX8) (N := 46) rfl nX8_before_X8 31 (by decide) mX8_before_1 (f := 481) rfl dX8_before_70 (fun r19 er19 => ?_)
      replace h := h r19 er19
      refine lv_iload_n hx hb dX8_before_73 rfl (lv_at hl 2 rfl) ?_
      obtain ⟨a20, ea20, h⟩ := h
      subst ea20
      obtain ⟨k21, h⟩ := h
      obtain ⟨z22, h⟩ := h
      refine s_iald F hR k21 (by decide) rfl z22 dX8_before_74 ?_
      refine lv_icmp_gt (tgt := 82) hx hb dX8_before_75 (by decide) (fun c23 => ?_) (fun c23 => ?_)
      · replace h := h.1 c23
        refine lv_iconst (v := 0) hx hb dX8_before_82 (by decide) ?_
        exact s_zret F hR hS (by unfold isB; decide) h hc dX8_before_83
      · replace h := h.2 c23
        refine lv_iconst (v := 1) hx hb dX8_before_78 (by decide) ?_
        refine lv_goto (tgt := 83) hx hb dX8_before_79 (by decide) ?_
        exact s_zret F hR hS (by unfold isB; decide) h hc dX8_before_83
    · replace h := h.2 c12
      refine lv_aload_n hx hb dX8_before_40 rfl (lv_at hl 0 rfl) ?_
      obtain ⟨k24, h⟩ := h
      refine s_getR F hR k24 (by decide) (C := RX8) (T := TX8) (N := 46) rfl nX8_before_X8 36 (by decide) mX8_before_0 (f := 486) rfl dX8_before_41 (fun r25 er25 => ?_)
      replace h := h r25 er25
      refine lv_iload_n hx hb dX8_before_44 rfl (lv_at hl 1 rfl) ?_
      obtain ⟨a26, ea26, h⟩ := h
      subst ea26
      obtain ⟨k27, h⟩ := h
      obtain ⟨z28, h⟩ := h
      refine s_iald F hR k27 (by decide) rfl z28 dX8_before_45 ?_
      refine lv_aload_n hx hb dX8_before_46 rfl (lv_at hl 0 rfl) ?_
      obtain ⟨k29, h⟩ := h
      refine s_getR F hR k29 (by decide) (C := RX8) (T := TX8) (N := 46) rfl nX8_before_X8 36 (by decide) mX8_before_0 (f := 486) rfl dX8_before_47 (fun r30 er30 => ?_)
      replace h := h r30 er30
      refine lv_iload_n hx hb dX8_before_50 rfl (lv_at hl 2 rfl) ?_
      obtain ⟨a31, ea31, h⟩ := h
      subst ea31
      obtain ⟨k32, h⟩ := h
      obtain ⟨z33, h⟩ := h
      refine s_iald F hR k32 (by decide) rfl z33 dX8_before_51 ?_
      refine lv_icmp_ge (tgt := 59) hx hb dX8_before_52 (by decide) (fun c34 => ?_) (fun c34 => ?_)
      · replace h := h.1 c34
        refine lv_iconst (v := 0) hx hb dX8_before_59 (by decide) ?_
        refine lv_goto (tgt := 83) hx hb dX8_before_60 (by decide) ?_
        exact s_zret F hR hS (by unfold isB; decide) h hc dX8_before_83
      · replace h := h.2 c34
        refine lv_iconst (v := 1) hx hb dX8_before_55 (by decide) ?_
        refine lv_goto (tgt := 83) hx hb dX8_before_56 (by decide) ?_
        exact s_zret F hR hS (by unfold isB; decide) h hc dX8_before_83
  · replace h := h.2 c1
    refine lv_aload_n hx hb dX8_before_4 rfl (lv_at hl 0 rfl) ?_
    obtain ⟨k35, h⟩ := h
    refine s_getR F hR k35 (by decide) (C := RX8) (T := TX8) (N := 46) rfl nX8_before_X8 39 (by decide) mX8_before_2 (f := 489) rfl dX8_before_5 (fun r36 er36 => ?_)
    replace h := h r36 er36
    refine lv_iload_n hx hb dX8_before_8 rfl (lv_at hl 1 rfl) ?_
    obtain ⟨a37, ea37, h⟩ := h
    subst ea37
    obtain ⟨k38, h⟩ := h
    obtain ⟨z39, h⟩ := h
    refine s_iald F hR k38 (by decide) rfl z39 dX8_before_9 ?_
    refine lv_aload_n hx hb dX8_before_10 rfl (lv_at hl 0 rfl) ?_
    obtain ⟨k40, h⟩ := h
    refine s_getR F hR k40 (by decide) (C := RX8) (T := TX8) (N := 46) rfl nX8_before_X8 39 (by decide) mX8_before_2 (f := 489) rfl dX8_before_11 (fun r41 er41 => ?_)
    replace h := h r41 er41
    refine lv_iload_n hx hb dX8_before_14 rfl (lv_at hl 2 rfl) ?_
    obtain ⟨a42, ea42, h⟩ := h
    subst ea42
    obtain ⟨k43, h⟩ := h
    obtain ⟨z44, h⟩ := h
    refine s_iald F hR k43 (by decide) rfl z44 dX8_before_15 ?_
    refine lv_icmp_ge (tgt := 23) hx hb dX8_before_16 (by decide) (fun c45 => ?_) (fun c45 => ?_)
    · replace h := h.1 c45
      refine lv_iconst (v := 0) hx hb dX8_before_23 (by decide) ?_
      exact s_zret F hR hS (by unfold isB; decide) h hc dX8_before_24
    · replace h := h.2 c45
      refine lv_iconst (v := 1) hx hb dX8_before_19 (by decide) ?_
      refine lv_goto (tgt := 24) hx hb dX8_before_20 (by decide) ?_
      exact s_zret F hR hS (by unfold isB; decide) h hc dX8_before_24
set_option maxHeartbeats 4000000 in
set_option maxRecDepth 100000 in
theorem kX8_before (l : Launch) (Γ : rGam) (o : Nat) (p1 : Int32) (p2 : Int32) (p3 : Int32) (post : Int32 → St → Prop) (σ0 : St) (h : wX8_before o p1 p2 p3 post σ0) : Met l yX8_before wsX8_before rmX8_before (rPc Γ vwCl [.ref o, .int p1, .int p2, .int p3] (Rep Γ σ0)) (va_Qi post (fun σ' t => Rep Γ σ' t.heap) (rA Γ)) 0 0 (rA Γ) := by
  refine Met.ofW (cc := cX8_before) (maxL := 4) (ret := (some .boolean)) (by decide) rfl ?_
  intro p e s m args below meth c s₁ B hml hv
  obtain ⟨rfl, hR, hE⟩ := hv
  have F : Fx Γ p s m meth c _ cX8_before 4 RX8 wsX8_before (some .boolean) := ⟨⟨B.exec, B.bytes, hml, findClass_of_methodNamed B.named, atoms_spec (ws := wsX8_before) B.pre⟩, hE, B.notSynchronized, B.returns⟩
  have hl := lv_entry ([.ref o, .int p1, .int p2, .int p3]) (n := 4) (Nat.le_of_ble_eq_true rfl)
  rw [lg_entry_eq]
  generalize (lg_sl ([.ref o, .int p1, .int p2, .int p3]) ++ List.replicate (4 - (lg_sl ([.ref o, .int p1, .int p2, .int p3])).length) Slot.unset).toArray = ls at hl ⊢
  have hl : lv_has ls 4 [(0, .ref o), (1, .int p1), (2, .int p2), (3, .int p3)] := hl
  exact bX8_before F h hR va_S.rf hl ⟨Nat.le_refl 0, Nat.le_refl 0⟩
/-! X8_items -/
theorem mX8_items_0 : Cond.fieldLink RX8 119 "ClearingFilesModel" "banks" "I" ∈ wsX8_items := by decide +kernel
theorem mX8_items_1 : Cond.fieldLink RX8 102 "ClearingFilesModel" "outCount" "[I" ∈ wsX8_items := by decide +kernel
theorem nX8_items_X8 : ∀ w ∈ u_ws RX8 TX8 46, w ∈ wsX8_items := fun _ h => List.mem_cons_of_mem _ (List.mem_append_right _ h)
abbrev rmX8_items : Room := { frames := 1, cells := 0, slots := 0, locals := 21 }
set_option maxRecDepth 100000 in
def wX8_items (o : Nat) (p1 : Int32) (post : Int32 → St → Prop) (σ0 : St) : Prop :=
  sK σ0 o = 9 ∧ (wX8_within p1 (sI σ0 450 o 0) (fun (x4 : Int32) (σ2 : St) => (x4 = 0 → (post (-1 : Int32) σ2)) ∧ (¬ x4 = 0 → (sK σ2 o = 9 ∧ (∀ r7 : Option Nat, r7 = sR σ2 491 o 0 → (∃ a8 : Nat, r7 = some a8 ∧ (sK σ2 a8 = 1491 ∧ (vp_in p1 5 ∧ (post (sI σ2 1491 a8 p1.toNatClampNeg) σ2)))))))) σ0)
set_option maxHeartbeats 4000000 in
set_option maxRecDepth 100000 in
theorem bX8_items {p : Program} {l : Launch} {e : Env} {s : State} {m : MethodId} {args : Array Value} {below : List Frame} {meth : Method} {c : Code} {Γ : rGam} {o : Nat} {post : Int32 → St → Prop} (F : Fx Γ p s m meth c args cX8_items 2 RX8 wsX8_items (some .int)) {H : Heap} {locs : List Loc} {ls : Array Slot} {cells slots : Nat} {p1 : Int32} {σ0 : St} (h : wX8_items o p1 post σ0) (hR : Rep Γ σ0 H) (hS : va_S (rA Γ) s.heap H locs) (hl : lv_has ls 2 [(0, .ref o), (1, .int p1)]) (hc : cells ≤ 0 ∧ slots ≤ 0) : W p l e rmX8_items s m args below meth c H locs cells slots (rQi Γ below post args s 0 0) (F0 m 0 ls []) := by
  have hx := F.1.1
  have hb := F.1.2.1
  unfold wX8_items at h
  refine lv_iload_n hx hb dX8_items_0 rfl (lv_at hl 1 rfl) ?_
  refine lv_aload_n hx hb dX8_items_1 rfl (lv_at hl 0 rfl) ?_
  obtain ⟨k1, h⟩ := h
  refine s_getI F hR k1 (by decide) (C := RX8) (T := TX8) (N := 46) rfl nX8_items_X8 0 (by decide) mX8_items_0 (f := 450) rfl dX8_items_2 ?_
  refine s_ci hS (k_runS F hR hS hl 2 [.int p1, .int (sI σ0 450 o 0)] (kX8_within l Γ p1 (sI σ0 450 o 0) _ _ h) gX8_items_X8_within rfl rfl rfl (by decide +kernel) ⟨Nat.le_of_ble_eq_true rfl, Nat.le_of_ble_eq_true rfl⟩ rfl (Nat.le_of_ble_eq_true rfl) dX8_items_5 ⟨by show _ ≤ 0; omega, by show _ ≤ 0; omega⟩) (fun x4 σ2 H locs h3 hR hS => ?_)
  refine lv_if_eq (tgt := 20) hx hb dX8_items_8 (by decide) (fun c5 => ?_) (fun c5 => ?_)
  · replace h3 := h3.1 c5
    refine lv_iconst (v := -1) hx hb dX8_items_20 (by decide) ?_
    exact s_iret F hR hS h3 hc dX8_items_21
  · replace h3 := h3.2 c5
    refine lv_aload_n hx hb dX8_items_11 rfl (lv_at hl 0 rfl) ?_
    obtain ⟨k6, h3⟩ := h3
    refine s_getR F hR k6 (by decide) (C := RX8) (T := TX8) (N := 46) rfl nX8_items_X8 41 (by decide) mX8_items_1 (f := 491) rfl dX8_items_12 (fun r7 er7 => ?_)
    replace h3 := h3 r7 er7
    refine lv_iload_n hx hb dX8_items_15 rfl (lv_at hl 1 rfl) ?_
    obtain ⟨a8, ea8, h3⟩ := h3
    subst ea8
    obtain ⟨k9, h3⟩ := h3
    obtain ⟨z10, h3⟩ := h3
    refine s_iald F hR k9 (by decide) rfl z10 dX8_items_16 ?_
    refine lv_goto (tgt := 21) hx hb dX8_items_17 (by decide) ?_
    exact s_iret F hR hS h3 hc dX8_items_21
set_option maxHeartbeats 4000000 in
set_option maxRecDepth 100000 in
theorem kX8_items (l : Launch) (Γ : rGam) (o : Nat) (p1 : Int32) (post : Int32 → St → Prop) (σ0 : St) (h : wX8_items o p1 post σ0) : Met l yX8_items wsX8_items rmX8_items (rPc Γ vwCl [.ref o, .int p1] (Rep Γ σ0)) (va_Qi post (fun σ' t => Rep Γ σ' t.heap) (rA Γ)) 0 0 (rA Γ) := by
  refine Met.ofW (cc := cX8_items) (maxL := 2) (ret := (some .int)) (by decide) rfl ?_
  intro p e s m args below meth c s₁ B hml hv
  obtain ⟨rfl, hR, hE⟩ := hv
  have F : Fx Γ p s m meth c _ cX8_items 2 RX8 wsX8_items (some .int) := ⟨⟨B.exec, B.bytes, hml, findClass_of_methodNamed B.named, atoms_spec (ws := wsX8_items) B.pre⟩, hE, B.notSynchronized, B.returns⟩
  have hl := lv_entry ([.ref o, .int p1]) (n := 2) (Nat.le_of_ble_eq_true rfl)
  rw [lg_entry_eq]
  generalize (lg_sl ([.ref o, .int p1]) ++ List.replicate (2 - (lg_sl ([.ref o, .int p1])).length) Slot.unset).toArray = ls at hl ⊢
  have hl : lv_has ls 2 [(0, .ref o), (1, .int p1)] := hl
  exact bX8_items F h hR va_S.rf hl ⟨Nat.le_refl 0, Nat.le_refl 0⟩
/-! X8_rejected -/
theorem mX8_rejected_0 : Cond.fieldLink RX8 114 "ClearingFilesModel" "tally" "[I" ∈ wsX8_rejected := by decide +kernel
theorem nX8_rejected_X8 : ∀ w ∈ u_ws RX8 TX8 46, w ∈ wsX8_rejected := fun _ h => List.mem_cons_of_mem _ (List.mem_append_right _ h)
abbrev rmX8_rejected : Room := { frames := 0, cells := 0, slots := 0, locals := 0 }
set_option maxRecDepth 100000 in
def wX8_rejected_51 (o : Nat) (post : Int32 → St → Prop) (x1 : Int32) (y0 : Int32) (σ0 : St) : Prop :=
  (y0 = 0 → (post (0 : Int32) σ0)) ∧ (¬ y0 = 0 → (sK σ0 o = 9 ∧ (∀ r8 : Option Nat, r8 = sR σ0 495 o 0 → (∃ a9 : Nat, r8 = some a9 ∧ (sK σ0 a9 = 1495 ∧ (vp_in x1 40 ∧ (post (sI σ0 1495 a9 x1.toNatClampNeg) σ0)))))))
set_option maxHeartbeats 4000000 in
set_option maxRecDepth 100000 in
theorem bX8_rejected_51 {p : Program} {l : Launch} {e : Env} {s : State} {m : MethodId} {args : Array Value} {below : List Frame} {meth : Method} {c : Code} {Γ : rGam} {o : Nat} {post : Int32 → St → Prop} (F : Fx Γ p s m meth c args cX8_rejected 3 RX8 wsX8_rejected (some .int)) {H : Heap} {locs : List Loc} {ls : Array Slot} {cells slots : Nat} {x1 : Int32} {y0 : Int32} {σ0 : St} (h : wX8_rejected_51 o post x1 y0 σ0) (hR : Rep Γ σ0 H) (hS : va_S (rA Γ) s.heap H locs) (hl : lv_has ls 3 [(0, .ref o), (1, .int x1)]) (hc : cells ≤ 0 ∧ slots ≤ 0) : W p l e rmX8_rejected s m args below meth c H locs cells slots (rQi Γ below post args s 0 0) (F0 m 51 ls [.int y0]) := by
  have hx := F.1.1
  have hb := F.1.2.1
  unfold wX8_rejected_51 at h
  refine s_istore_n (lk := [(1, .int x1)]) (lv' := [(2, .int y0), (0, .ref o), (1, .int x1)]) hx hb dX8_rejected_51 rfl hl (by decide) rfl (lk_1 rfl) rfl (fun ls hl5 => ?_)
  refine lv_iload_n hx hb dX8_rejected_52 rfl (lv_at hl5 0 rfl) ?_
  refine lv_if_eq (tgt := 65) hx hb dX8_rejected_53 (by decide) (fun c6 => ?_) (fun c6 => ?_)
  · replace h := h.1 c6
    refine lv_iconst (v := 0) hx hb dX8_rejected_65 (by decide) ?_
    exact s_iret F hR hS h hc dX8_rejected_66
  · replace h := h.2 c6
    refine lv_aload_n hx hb dX8_rejected_56 rfl (lv_at hl5 1 rfl) ?_
    obtain ⟨k7, h⟩ := h
    refine s_getR F hR k7 (by decide) (C := RX8) (T := TX8) (N := 46) rfl nX8_rejected_X8 45 (by decide) mX8_rejected_0 (f := 495) rfl dX8_rejected_57 (fun r8 er8 => ?_)
    replace h := h r8 er8
    refine lv_iload_n hx hb dX8_rejected_60 rfl (lv_at hl5 2 rfl) ?_
    obtain ⟨a9, ea9, h⟩ := h
    subst ea9
    obtain ⟨k10, h⟩ := h
    obtain ⟨z11, h⟩ := h
    refine s_iald F hR k10 (by decide) rfl z11 dX8_rejected_61 ?_
    refine lv_goto (tgt := 66) hx hb dX8_rejected_62 (by decide) ?_
    exact s_iret F hR hS h hc dX8_rejected_66

set_option maxRecDepth 100000 in
def wX8_rejected_50 (o : Nat) (post : Int32 → St → Prop) (x1 : Int32) (σ0 : St) : Prop :=
  wX8_rejected_51 o post x1 (0 : Int32) σ0
set_option maxHeartbeats 4000000 in
set_option maxRecDepth 100000 in
theorem bX8_rejected_50 {p : Program} {l : Launch} {e : Env} {s : State} {m : MethodId} {args : Array Value} {below : List Frame} {meth : Method} {c : Code} {Γ : rGam} {o : Nat} {post : Int32 → St → Prop} (F : Fx Γ p s m meth c args cX8_rejected 3 RX8 wsX8_rejected (some .int)) {H : Heap} {locs : List Loc} {ls : Array Slot} {cells slots : Nat} {x1 : Int32} {σ0 : St} (h : wX8_rejected_50 o post x1 σ0) (hR : Rep Γ σ0 H) (hS : va_S (rA Γ) s.heap H locs) (hl : lv_has ls 3 [(0, .ref o), (1, .int x1)]) (hc : cells ≤ 0 ∧ slots ≤ 0) : W p l e rmX8_rejected s m args below meth c H locs cells slots (rQi Γ below post args s 0 0) (F0 m 50 ls []) := by
  have hx := F.1.1
  have hb := F.1.2.1
  unfold wX8_rejected_50 at h
  refine lv_iconst (v := 0) hx hb dX8_rejected_50 (by decide) ?_
  exact bX8_rejected_51 F h hR hS (lv_sub hl [0, 1] rfl) hc

set_option maxRecDepth 100000 in
def wX8_rejected_34 (o : Nat) (post : Int32 → St → Prop) (x1 : Int32) (σ0 : St) : Prop :=
  (x1 < (30 : Int32) → (wX8_rejected_50 o post x1 σ0)) ∧ (¬ x1 < (30 : Int32) → (((33 : Int32) < x1 → (wX8_rejected_50 o post x1 σ0)) ∧ (¬ (33 : Int32) < x1 → (wX8_rejected_51 o post x1 (1 : Int32) σ0))))
set_option maxHeartbeats 4000000 in
set_option maxRecDepth 100000 in
theorem bX8_rejected_34 {p : Program} {l : Launch} {e : Env} {s : State} {m : MethodId} {args : Array Value} {below : List Frame} {meth : Method} {c : Code} {Γ : rGam} {o : Nat} {post : Int32 → St → Prop} (F : Fx Γ p s m meth c args cX8_rejected 3 RX8 wsX8_rejected (some .int)) {H : Heap} {locs : List Loc} {ls : Array Slot} {cells slots : Nat} {x1 : Int32} {σ0 : St} (h : wX8_rejected_34 o post x1 σ0) (hR : Rep Γ σ0 H) (hS : va_S (rA Γ) s.heap H locs) (hl : lv_has ls 3 [(0, .ref o), (1, .int x1)]) (hc : cells ≤ 0 ∧ slots ≤ 0) : W p l e rmX8_rejected s m args below meth c H locs cells slots (rQi Γ below post args s 0 0) (F0 m 34 ls []) := by
  have hx := F.1.1
  have hb := F.1.2.1
  unfold wX8_rejected_34 at h
  refine lv_iload_n hx hb dX8_rejected_34 rfl (lv_at hl 1 rfl) ?_
  refine lv_bipush (v := 30) hx hb dX8_rejected_35 (by decide) ?_
  refine lv_icmp_lt (tgt := 50) hx hb dX8_rejected_37 (by decide) (fun c4 => ?_) (fun c4 => ?_)
  · replace h := h.1 c4
    exact bX8_rejected_50 F h hR hS (lv_sub hl [0, 1] rfl) hc
  · replace h := h.2 c4
    refine lv_iload_n hx hb dX8_rejected_40 rfl (lv_at hl 1 rfl) ?_
    refine lv_bipush (v := 33) hx hb dX8_rejected_41 (by decide) ?_
    refine lv_icmp_gt (tgt := 50) hx hb dX8_rejected_43 (by decide) (fun c12 => ?_) (fun c12 => ?_)
    · replace h := h.1 c12
      exact bX8_rejected_50 F h hR hS (lv_sub hl [0, 1] rfl) hc
    · replace h := h.2 c12
      refine lv_iconst (v := 1) hx hb dX8_rejected_46 (by decide) ?_
      refine lv_goto (tgt := 51) hx hb dX8_rejected_47 (by decide) ?_
      exact bX8_rejected_51 F h hR hS (lv_sub hl [0, 1] rfl) hc

set_option maxRecDepth 100000 in
def wX8_rejected_22 (o : Nat) (post : Int32 → St → Prop) (x1 : Int32) (σ0 : St) : Prop :=
  (x1 < (20 : Int32) → (wX8_rejected_34 o post x1 σ0)) ∧ (¬ x1 < (20 : Int32) → ((x1 ≤ (24 : Int32) → (wX8_rejected_51 o post x1 (1 : Int32) σ0)) ∧ (¬ x1 ≤ (24 : Int32) → (wX8_rejected_34 o post x1 σ0))))
set_option maxHeartbeats 4000000 in
set_option maxRecDepth 100000 in
theorem bX8_rejected_22 {p : Program} {l : Launch} {e : Env} {s : State} {m : MethodId} {args : Array Value} {below : List Frame} {meth : Method} {c : Code} {Γ : rGam} {o : Nat} {post : Int32 → St → Prop} (F : Fx Γ p s m meth c args cX8_rejected 3 RX8 wsX8_rejected (some .int)) {H : Heap} {locs : List Loc} {ls : Array Slot} {cells slots : Nat} {x1 : Int32} {σ0 : St} (h : wX8_rejected_22 o post x1 σ0) (hR : Rep Γ σ0 H) (hS : va_S (rA Γ) s.heap H locs) (hl : lv_has ls 3 [(0, .ref o), (1, .int x1)]) (hc : cells ≤ 0 ∧ slots ≤ 0) : W p l e rmX8_rejected s m args below meth c H locs cells slots (rQi Γ below post args s 0 0) (F0 m 22 ls []) := by
  have hx := F.1.1
  have hb := F.1.2.1
  unfold wX8_rejected_22 at h
  refine lv_iload_n hx hb dX8_rejected_22 rfl (lv_at hl 1 rfl) ?_
  refine lv_bipush (v := 20) hx hb dX8_rejected_23 (by decide) ?_
  refine lv_icmp_lt (tgt := 34) hx hb dX8_rejected_25 (by decide) (fun c3 => ?_) (fun c3 => ?_)
  · replace h := h.1 c3
    exact bX8_rejected_34 F h hR hS (lv_sub hl [0, 1] rfl) hc
  · replace h := h.2 c3
    refine lv_iload_n hx hb dX8_rejected_28 rfl (lv_at hl 1 rfl) ?_
    refine lv_bipush (v := 24) hx hb dX8_rejected_29 (by decide) ?_
    refine lv_icmp_le (tgt := 46) hx hb dX8_rejected_31 (by decide) (fun c13 => ?_) (fun c13 => ?_)
    · replace h := h.1 c13
      refine lv_iconst (v := 1) hx hb dX8_rejected_46 (by decide) ?_
      refine lv_goto (tgt := 51) hx hb dX8_rejected_47 (by decide) ?_
      exact bX8_rejected_51 F h hR hS (lv_sub hl [0, 1] rfl) hc
    · replace h := h.2 c13
      exact bX8_rejected_34 F h hR hS (lv_sub hl [0, 1] rfl) hc

set_option maxRecDepth 100000 in
def wX8_rejected_10 (o : Nat) (post : Int32 → St → Prop) (x1 : Int32) (σ0 : St) : Prop :=
  (x1 < (10 : Int32) → (wX8_rejected_22 o post x1 σ0)) ∧ (¬ x1 < (10 : Int32) → ((x1 ≤ (13 : Int32) → (wX8_rejected_51 o post x1 (1 : Int32) σ0)) ∧ (¬ x1 ≤ (13 : Int32) → (wX8_rejected_22 o post x1 σ0))))
set_option maxHeartbeats 4000000 in
set_option maxRecDepth 100000 in
theorem bX8_rejected_10 {p : Program} {l : Launch} {e : Env} {s : State} {m : MethodId} {args : Array Value} {below : List Frame} {meth : Method} {c : Code} {Γ : rGam} {o : Nat} {post : Int32 → St → Prop} (F : Fx Γ p s m meth c args cX8_rejected 3 RX8 wsX8_rejected (some .int)) {H : Heap} {locs : List Loc} {ls : Array Slot} {cells slots : Nat} {x1 : Int32} {σ0 : St} (h : wX8_rejected_10 o post x1 σ0) (hR : Rep Γ σ0 H) (hS : va_S (rA Γ) s.heap H locs) (hl : lv_has ls 3 [(0, .ref o), (1, .int x1)]) (hc : cells ≤ 0 ∧ slots ≤ 0) : W p l e rmX8_rejected s m args below meth c H locs cells slots (rQi Γ below post args s 0 0) (F0 m 10 ls []) := by
  have hx := F.1.1
  have hb := F.1.2.1
  unfold wX8_rejected_10 at h
  refine lv_iload_n hx hb dX8_rejected_10 rfl (lv_at hl 1 rfl) ?_
  refine lv_bipush (v := 10) hx hb dX8_rejected_11 (by decide) ?_
  refine lv_icmp_lt (tgt := 22) hx hb dX8_rejected_13 (by decide) (fun c2 => ?_) (fun c2 => ?_)
  · replace h := h.1 c2
    exact bX8_rejected_22 F h hR hS (lv_sub hl [0, 1] rfl) hc
  · replace h := h.2 c2
    refine lv_iload_n hx hb dX8_rejected_16 rfl (lv_at hl 1 rfl) ?_
    refine lv_bipush (v := 13) hx hb dX8_rejected_17 (by decide) ?_
    refine lv_icmp_le (tgt := 46) hx hb dX8_rejected_19 (by decide) (fun c14 => ?_) (fun c14 => ?_)
    · replace h := h.1 c14
      refine lv_iconst (v := 1) hx hb dX8_rejected_46 (by decide) ?_
      refine lv_goto (tgt := 51) hx hb dX8_rejected_47 (by decide) ?_
      exact bX8_rejected_51 F h hR hS (lv_sub hl [0, 1] rfl) hc
    · replace h := h.2 c14
      exact bX8_rejected_22 F h hR hS (lv_sub hl [0, 1] rfl) hc

set_option maxRecDepth 100000 in
def wX8_rejected (o : Nat) (p1 : Int32) (post : Int32 → St → Prop) (σ0 : St) : Prop :=
  (p1 < (1 : Int32) → (wX8_rejected_10 o post p1 σ0)) ∧ (¬ p1 < (1 : Int32) → ((p1 ≤ (4 : Int32) → (wX8_rejected_51 o post p1 (1 : Int32) σ0)) ∧ (¬ p1 ≤ (4 : Int32) → (wX8_rejected_10 o post p1 σ0))))
set_option maxHeartbeats 4000000 in
set_option maxRecDepth 100000 in
theorem bX8_rejected {p : Program} {l : Launch} {e : Env} {s : State} {m : MethodId} {args : Array Value} {below : List Frame} {meth : Method} {c : Code} {Γ : rGam} {o : Nat} {post : Int32 → St → Prop} (F : Fx Γ p s m meth c args cX8_rejected 3 RX8 wsX8_rejected (some .int)) {H : Heap} {locs : List Loc} {ls : Array Slot} {cells slots : Nat} {p1 : Int32} {σ0 : St} (h : wX8_rejected o p1 post σ0) (hR : Rep Γ σ0 H) (hS : va_S (rA Γ) s.heap H locs) (hl : lv_has ls 3 [(0, .ref o), (1, .int p1)]) (hc : cells ≤ 0 ∧ slots ≤ 0) : W p l e rmX8_rejected s m args below meth c H locs cells slots (rQi Γ below post args s 0 0) (F0 m 0 ls []) := by
  have hx := F.1.1
  have hb := F.1.2.1
  unfold wX8_rejected at h
  refine lv_iload_n hx hb dX8_rejected_0 rfl (lv_at hl 1 rfl) ?_
  refine lv_iconst (v := 1) hx hb dX8_rejected_1 (by decide) ?_
  refine lv_icmp_lt (tgt := 10) hx hb dX8_rejected_2 (by decide) (fun c1 => ?_) (fun c1 => ?_)
  · replace h := h.1 c1
    exact bX8_rejected_10 F h hR hS (lv_sub hl [0, 1] rfl) hc
  · replace h := h.2 c1
    refine lv_iload_n hx hb dX8_rejected_5 rfl (lv_at hl 1 rfl) ?_
    refine lv_iconst (v := 4) hx hb dX8_rejected_6 (by decide) ?_
    refine lv_icmp_le (tgt := 46) hx hb dX8_rejected_7 (by decide) (fun c15 => ?_) (fun c15 => ?_)
    · replace h := h.1 c15
      refine lv_iconst (v := 1) hx hb dX8_rejected_46 (by decide) ?_
      refine lv_goto (tgt := 51) hx hb dX8_rejected_47 (by decide) ?_
      exact bX8_rejected_51 F h hR hS (lv_sub hl [0, 1] rfl) hc
    · replace h := h.2 c15
      exact bX8_rejected_10 F h hR hS (lv_sub hl [0, 1] rfl) hc
set_option maxHeartbeats 4000000 in
set_option maxRecDepth 100000 in
theorem kX8_rejected (l : Launch) (Γ : rGam) (o : Nat) (p1 : Int32) (post : Int32 → St → Prop) (σ0 : St) (h : wX8_rejected o p1 post σ0) : Met l yX8_rejected wsX8_rejected rmX8_rejected (rPc Γ vwCl [.ref o, .int p1] (Rep Γ σ0)) (va_Qi post (fun σ' t => Rep Γ σ' t.heap) (rA Γ)) 0 0 (rA Γ) := by
  refine Met.ofW (cc := cX8_rejected) (maxL := 3) (ret := (some .int)) (by decide) rfl ?_
  intro p e s m args below meth c s₁ B hml hv
  obtain ⟨rfl, hR, hE⟩ := hv
  have F : Fx Γ p s m meth c _ cX8_rejected 3 RX8 wsX8_rejected (some .int) := ⟨⟨B.exec, B.bytes, hml, findClass_of_methodNamed B.named, atoms_spec (ws := wsX8_rejected) B.pre⟩, hE, B.notSynchronized, B.returns⟩
  have hl := lv_entry ([.ref o, .int p1]) (n := 3) (Nat.le_of_ble_eq_true rfl)
  rw [lg_entry_eq]
  generalize (lg_sl ([.ref o, .int p1]) ++ List.replicate (3 - (lg_sl ([.ref o, .int p1])).length) Slot.unset).toArray = ls at hl ⊢
  have hl : lv_has ls 3 [(0, .ref o), (1, .int p1)] := hl
  exact bX8_rejected F h hR va_S.rf hl ⟨Nat.le_refl 0, Nat.le_refl 0⟩
