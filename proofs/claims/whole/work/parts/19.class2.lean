/-! X7_isHalf -/
theorem mX7_isHalf_0 : Cond.constantLong RX7 217 (999999999999999999) ∈ wsX7_isHalf := by decide +kernel
abbrev rmX7_isHalf : Room := { frames := 0, cells := 0, slots := 0, locals := 0 }
set_option maxRecDepth 100000 in
def wX7_isHalf (p1 : Int64) (post : Int32 → St → Prop) (σ0 : St) : Prop :=
  ((lg_cmp p1 (0 : Int64)) < 0 → (post (0 : Int32) σ0)) ∧ (¬ (lg_cmp p1 (0 : Int64)) < 0 → ((0 < (lg_cmp p1 (999999999999999999 : Int64)) → (post (0 : Int32) σ0)) ∧ (¬ 0 < (lg_cmp p1 (999999999999999999 : Int64)) → (post (1 : Int32) σ0))))
set_option maxHeartbeats 4000000 in
set_option maxRecDepth 100000 in
theorem bX7_isHalf {p : Program} {l : Launch} {e : Env} {s : State} {m : MethodId} {args : Array Value} {below : List Frame} {meth : Method} {c : Code} {Γ : rGam} {post : Int32 → St → Prop} (F : Fx Γ p s m meth c args cX7_isHalf 2 RX7 wsX7_isHalf (some .boolean)) {H : Heap} {locs : List Loc} {ls : Array Slot} {cells slots : Nat} {p1 : Int64} {σ0 : St} (h : wX7_isHalf p1 post σ0) (hR : Rep Γ σ0 H) (hS : va_S (rA Γ) s.heap H locs) (hl : lv_has ls 2 [(0, .long p1)]) (hc : cells ≤ 0 ∧ slots ≤ 0) : W p l e rmX7_isHalf s m args below meth c H locs cells slots (rQi Γ below post args s 0 0) (F0 m 0 ls []) := by
  have hx := F.1.1
  have hb := F.1.2.1
  unfold wX7_isHalf at h
  refine lv_lload_n hx hb dX7_isHalf_0 rfl (lv_at hl 0 rfl) ?_
  refine lv_lconst (v := 0) hx hb dX7_isHalf_1 (by decide) ?_
  refine W.lcmp hx hb dX7_isHalf_2 ?_
  refine lv_if_lt (tgt := 18) hx hb dX7_isHalf_3 (by decide) (fun c1 => ?_) (fun c1 => ?_)
  · replace h := h.1 c1
    refine lv_iconst (v := 0) hx hb dX7_isHalf_18 (by decide) ?_
    exact s_zret F hR hS (by unfold isB; decide) h hc dX7_isHalf_19
  · replace h := h.2 c1
    refine lv_lload_n hx hb dX7_isHalf_6 rfl (lv_at hl 0 rfl) ?_
    refine lv_ldc2 hx hb F.1.2.2.2.1 (F.1.2.2.2.2 _ mX7_isHalf_0) dX7_isHalf_7 ?_
    refine W.lcmp hx hb dX7_isHalf_10 ?_
    refine lv_if_gt (tgt := 18) hx hb dX7_isHalf_11 (by decide) (fun c2 => ?_) (fun c2 => ?_)
    · replace h := h.1 c2
      refine lv_iconst (v := 0) hx hb dX7_isHalf_18 (by decide) ?_
      exact s_zret F hR hS (by unfold isB; decide) h hc dX7_isHalf_19
    · replace h := h.2 c2
      refine lv_iconst (v := 1) hx hb dX7_isHalf_14 (by decide) ?_
      refine lv_goto (tgt := 19) hx hb dX7_isHalf_15 (by decide) ?_
      exact s_zret F hR hS (by unfold isB; decide) h hc dX7_isHalf_19
set_option maxHeartbeats 4000000 in
set_option maxRecDepth 100000 in
theorem kX7_isHalf (l : Launch) (Γ : rGam) (p1 : Int64) (post : Int32 → St → Prop) (σ0 : St) (h : wX7_isHalf p1 post σ0) : Met l yX7_isHalf wsX7_isHalf rmX7_isHalf (rPc Γ vwCl [.long p1] (Rep Γ σ0)) (va_Qi post (fun σ' t => Rep Γ σ' t.heap) (rA Γ)) 0 0 (rA Γ) := by
  refine Met.ofW (cc := cX7_isHalf) (maxL := 2) (ret := (some .boolean)) (by decide) rfl ?_
  intro p e s m args below meth c s₁ B hml hv
  obtain ⟨rfl, hR, hE⟩ := hv
  have F : Fx Γ p s m meth c _ cX7_isHalf 2 RX7 wsX7_isHalf (some .boolean) := ⟨⟨B.exec, B.bytes, hml, findClass_of_methodNamed B.named, atoms_spec (ws := wsX7_isHalf) B.pre⟩, hE, B.notSynchronized, B.returns⟩
  have hl := lv_entry ([.long p1]) (n := 2) (Nat.le_of_ble_eq_true rfl)
  rw [lg_entry_eq]
  generalize (lg_sl ([.long p1]) ++ List.replicate (2 - (lg_sl ([.long p1])).length) Slot.unset).toArray = ls at hl ⊢
  have hl : lv_has ls 2 [(0, .long p1)] := hl
  exact bX7_isHalf F h hR va_S.rf hl ⟨Nat.le_refl 0, Nat.le_refl 0⟩
/-! X7_digits -/
theorem mX7_digits_0 : Cond.constantLong RX7 219 (10) ∈ wsX7_digits := by decide +kernel
abbrev rmX7_digits : Room := { frames := 0, cells := 0, slots := 0, locals := 0 }
set_option maxRecDepth 100000 in
def wX7_digits_71 (post : Int32 → St → Prop) : Nat → Int32 → Int64 → Int64 → Int64 → Int32 → St → Prop
  | 0, _, _, _, _, _, _ => False
  | n + 1, x4, x7, x9, x11, x13, σ0 =>
    (x13 < x4 → (post x9.toInt32 σ0)) ∧ (¬ x13 < x4 → (∀ x12 : Int64, x12 = (x9 + ((x7 - x7 / (10 : Int64) * (10 : Int64)) * x11)) → (∀ x14 : Int64, x14 = (x11 * (10 : Int64)) → (∀ x16 : Int64, x16 = (x7 / (10 : Int64)) → (∀ x18 : Int32, x18 = x13 + (-1 : Int32) → (wX7_digits_71 post n x4 x16 x12 x14 x18 σ0))))))
set_option maxHeartbeats 4000000 in
set_option maxRecDepth 100000 in
theorem bX7_digits_71 {p : Program} {l : Launch} {e : Env} {s : State} {m : MethodId} {args : Array Value} {below : List Frame} {meth : Method} {c : Code} {Γ : rGam} {post : Int32 → St → Prop} (F : Fx Γ p s m meth c args cX7_digits 14 RX7 wsX7_digits (some .int)) : ∀ (n : Nat) (x4 : Int32) (x7 : Int64) (x9 : Int64) (x11 : Int64) (x13 : Int32) (σ0 : St) (H : Heap) (locs : List Loc) (ls : Array Slot) (cells slots : Nat), wX7_digits_71 post n x4 x7 x9 x11 x13 σ0 → Rep Γ σ0 H → va_S (rA Γ) s.heap H locs → lv_has ls 14 [(4, .int x4), (7, .long x7), (9, .long x9), (11, .long x11), (13, .int x13)] → cells ≤ 0 ∧ slots ≤ 0 → W p l e rmX7_digits s m args below meth c H locs cells slots (rQi Γ below post args s 0 0) (F0 m 71 ls []) := by
  have hx := F.1.1
  have hb := F.1.2.1
  intro n
  induction n with
  | zero =>
    intro x4 x7 x9 x11 x13 σ0 H locs ls cells slots h
    exact absurd h (by unfold wX7_digits_71; exact id)
  | succ n ih =>
    intro x4 x7 x9 x11 x13 σ0 H locs ls cells slots h hR hS hl hc
    unfold wX7_digits_71 at h
    refine lv_iload hx hb dX7_digits_71 (lv_at hl 4 rfl) ?_
    refine lv_iload hx hb dX7_digits_73 (lv_at hl 0 rfl) ?_
    refine lv_icmp_lt (tgt := 114) hx hb dX7_digits_75 (by decide) (fun c11 => ?_) (fun c11 => ?_)
    · replace h := h.1 c11
      refine lv_lload hx hb dX7_digits_114 (lv_at hl 2 rfl) ?_
      refine lv_l2i hx hb dX7_digits_116 rfl ?_
      exact s_iret F hR hS h hc dX7_digits_117
    · replace h := h.2 c11
      refine lv_lload hx hb dX7_digits_78 (lv_at hl 2 rfl) ?_
      refine lv_lload hx hb dX7_digits_80 (lv_at hl 1 rfl) ?_
      refine lv_ldc2 hx hb F.1.2.2.2.1 (F.1.2.2.2.2 _ mX7_digits_0) dX7_digits_82 ?_
      refine lv_lrem hx hb dX7_digits_85 (by decide) ?_
      refine lv_lload hx hb dX7_digits_86 (lv_at hl 3 rfl) ?_
      refine lv_lmul hx hb dX7_digits_88 ?_
      refine lv_ladd hx hb dX7_digits_89 ?_
      refine lv_topl (fun x12 ex12 => ?_)
      replace h := h x12 ex12
      refine s_lstore (lk := []) (lv' := [(9, .long x12), (4, .int x4), (7, .long x7), (11, .long x11), (13, .int x13)]) hx hb dX7_digits_90 hl (by decide) rfl lk_0 rfl (fun ls hl13 => ?_)
      refine lv_lload hx hb dX7_digits_92 (lv_at hl13 3 rfl) ?_
      refine lv_ldc2 hx hb F.1.2.2.2.1 (F.1.2.2.2.2 _ mX7_digits_0) dX7_digits_94 ?_
      refine lv_lmul hx hb dX7_digits_97 ?_
      refine lv_topl (fun x14 ex14 => ?_)
      replace h := h x14 ex14
      refine s_lstore (lk := []) (lv' := [(11, .long x14), (9, .long x12), (4, .int x4), (7, .long x7), (13, .int x13)]) hx hb dX7_digits_98 hl13 (by decide) rfl lk_0 rfl (fun ls hl15 => ?_)
      refine lv_lload hx hb dX7_digits_100 (lv_at hl15 3 rfl) ?_
      refine lv_ldc2 hx hb F.1.2.2.2.1 (F.1.2.2.2.2 _ mX7_digits_0) dX7_digits_102 ?_
      refine lv_ldiv hx hb dX7_digits_105 (by decide) ?_
      refine lv_topl (fun x16 ex16 => ?_)
      replace h := h x16 ex16
      refine s_lstore (lk := []) (lv' := [(7, .long x16), (11, .long x14), (9, .long x12), (4, .int x4), (13, .int x13)]) hx hb dX7_digits_106 hl15 (by decide) rfl lk_0 rfl (fun ls hl17 => ?_)
      obtain ⟨x18, ex18⟩ : ∃ x : Int32, x = x13 + (-1 : Int32) := ⟨_, rfl⟩
      replace h := h x18 ex18
      refine s_iinc (v := x18) (d := -1) (lk := []) (lv' := [(13, .int x18), (7, .long x16), (11, .long x14), (9, .long x12), (4, .int x4)]) hx hb dX7_digits_108 hl17 (k := 4) rfl (by decide) (by decide) rfl lk_0 ex18 rfl (fun ls hl19 => ?_)
      refine lv_goto (tgt := 71) hx hb dX7_digits_111 (by decide) ?_
      exact ih x4 x16 x12 x14 x18 σ0 _ _ _ _ _ h hR hS (lv_sub hl19 [4, 1, 3, 2, 0] rfl) hc

set_option maxRecDepth 100000 in
def wX7_digits_40 (post : Int32 → St → Prop) : Nat → Int32 → Int32 → Int64 → Int32 → St → Prop
  | 0, _, _, _, _, _ => False
  | n + 1, x4, x5, x7, x9, σ0 =>
    (x9 ≤ x5 → (∃ n20 : Nat, wX7_digits_71 post n20 x4 x7 (0 : Int64) (1 : Int64) x5 σ0)) ∧ (¬ x9 ≤ x5 → (∀ x21 : Int64, x21 = (x7 / (10 : Int64)) → (∀ x23 : Int32, x23 = x9 + (-1 : Int32) → (wX7_digits_40 post n x4 x5 x21 x23 σ0))))
set_option maxHeartbeats 4000000 in
set_option maxRecDepth 100000 in
theorem bX7_digits_40 {p : Program} {l : Launch} {e : Env} {s : State} {m : MethodId} {args : Array Value} {below : List Frame} {meth : Method} {c : Code} {Γ : rGam} {post : Int32 → St → Prop} (F : Fx Γ p s m meth c args cX7_digits 14 RX7 wsX7_digits (some .int)) : ∀ (n : Nat) (x4 : Int32) (x5 : Int32) (x7 : Int64) (x9 : Int32) (σ0 : St) (H : Heap) (locs : List Loc) (ls : Array Slot) (cells slots : Nat), wX7_digits_40 post n x4 x5 x7 x9 σ0 → Rep Γ σ0 H → va_S (rA Γ) s.heap H locs → lv_has ls 14 [(4, .int x4), (5, .int x5), (7, .long x7), (9, .int x9)] → cells ≤ 0 ∧ slots ≤ 0 → W p l e rmX7_digits s m args below meth c H locs cells slots (rQi Γ below post args s 0 0) (F0 m 40 ls []) := by
  have hx := F.1.1
  have hb := F.1.2.1
  intro n
  induction n with
  | zero =>
    intro x4 x5 x7 x9 σ0 H locs ls cells slots h
    exact absurd h (by unfold wX7_digits_40; exact id)
  | succ n ih =>
    intro x4 x5 x7 x9 σ0 H locs ls cells slots h hR hS hl hc
    unfold wX7_digits_40 at h
    refine lv_iload hx hb dX7_digits_40 (lv_at hl 3 rfl) ?_
    refine lv_iload hx hb dX7_digits_42 (lv_at hl 1 rfl) ?_
    refine lv_icmp_le (tgt := 61) hx hb dX7_digits_44 (by decide) (fun c7 => ?_) (fun c7 => ?_)
    · replace h := h.1 c7
      refine lv_lconst (v := 0) hx hb dX7_digits_61 (by decide) ?_
      refine s_lstore (lk := []) (lv' := [(9, .long (0 : Int64)), (4, .int x4), (5, .int x5), (7, .long x7)]) hx hb dX7_digits_62 hl (by decide) rfl lk_0 rfl (fun ls hl8 => ?_)
      refine lv_lconst (v := 1) hx hb dX7_digits_64 (by decide) ?_
      refine s_lstore (lk := []) (lv' := [(11, .long (1 : Int64)), (9, .long (0 : Int64)), (4, .int x4), (5, .int x5), (7, .long x7)]) hx hb dX7_digits_65 hl8 (by decide) rfl lk_0 rfl (fun ls hl9 => ?_)
      refine lv_iload hx hb dX7_digits_67 (lv_at hl9 3 rfl) ?_
      refine s_istore (lk := []) (lv' := [(13, .int x5), (11, .long (1 : Int64)), (9, .long (0 : Int64)), (4, .int x4), (5, .int x5), (7, .long x7)]) hx hb dX7_digits_69 hl9 (by decide) rfl lk_0 rfl (fun ls hl10 => ?_)
      obtain ⟨n20, h⟩ := h
      exact bX7_digits_71 F n20 x4 x7 (0 : Int64) (1 : Int64) x5 σ0 _ _ _ _ _ h hR hS (lv_sub hl10 [3, 5, 2, 1, 0] rfl) hc
    · replace h := h.2 c7
      refine lv_lload hx hb dX7_digits_47 (lv_at hl 2 rfl) ?_
      refine lv_ldc2 hx hb F.1.2.2.2.1 (F.1.2.2.2.2 _ mX7_digits_0) dX7_digits_49 ?_
      refine lv_ldiv hx hb dX7_digits_52 (by decide) ?_
      refine lv_topl (fun x21 ex21 => ?_)
      replace h := h x21 ex21
      refine s_lstore (lk := []) (lv' := [(7, .long x21), (4, .int x4), (5, .int x5), (9, .int x9)]) hx hb dX7_digits_53 hl (by decide) rfl lk_0 rfl (fun ls hl22 => ?_)
      obtain ⟨x23, ex23⟩ : ∃ x : Int32, x = x9 + (-1 : Int32) := ⟨_, rfl⟩
      replace h := h x23 ex23
      refine s_iinc (v := x23) (d := -1) (lk := []) (lv' := [(9, .int x23), (7, .long x21), (4, .int x4), (5, .int x5)]) hx hb dX7_digits_55 hl22 (k := 3) rfl (by decide) (by decide) rfl lk_0 ex23 rfl (fun ls hl24 => ?_)
      refine lv_goto (tgt := 40) hx hb dX7_digits_58 (by decide) ?_
      exact ih x4 x5 x21 x23 σ0 _ _ _ _ _ h hR hS (lv_sub hl24 [2, 3, 1, 0] rfl) hc

set_option maxRecDepth 100000 in
def wX7_digits_38 (post : Int32 → St → Prop) (x4 : Int32) (x5 : Int32) (x7 : Int64) (y0 : Int32) (σ0 : St) : Prop :=
  ∃ n25 : Nat, wX7_digits_40 post n25 x4 x5 x7 y0 σ0
set_option maxHeartbeats 4000000 in
set_option maxRecDepth 100000 in
theorem bX7_digits_38 {p : Program} {l : Launch} {e : Env} {s : State} {m : MethodId} {args : Array Value} {below : List Frame} {meth : Method} {c : Code} {Γ : rGam} {post : Int32 → St → Prop} (F : Fx Γ p s m meth c args cX7_digits 14 RX7 wsX7_digits (some .int)) {H : Heap} {locs : List Loc} {ls : Array Slot} {cells slots : Nat} {x4 : Int32} {x5 : Int32} {x7 : Int64} {y0 : Int32} {σ0 : St} (h : wX7_digits_38 post x4 x5 x7 y0 σ0) (hR : Rep Γ σ0 H) (hS : va_S (rA Γ) s.heap H locs) (hl : lv_has ls 14 [(4, .int x4), (5, .int x5), (7, .long x7)]) (hc : cells ≤ 0 ∧ slots ≤ 0) : W p l e rmX7_digits s m args below meth c H locs cells slots (rQi Γ below post args s 0 0) (F0 m 38 ls [.int y0]) := by
  have hx := F.1.1
  have hb := F.1.2.1
  unfold wX7_digits_38 at h
  refine s_istore (lk := []) (lv' := [(9, .int y0), (4, .int x4), (5, .int x5), (7, .long x7)]) hx hb dX7_digits_38 hl (by decide) rfl lk_0 rfl (fun ls hl6 => ?_)
  obtain ⟨n25, h⟩ := h
  exact bX7_digits_40 F n25 x4 x5 x7 y0 σ0 _ _ _ _ _ h hR hS (lv_sub hl6 [1, 2, 3, 0] rfl) hc

set_option maxRecDepth 100000 in
def wX7_digits_24 (post : Int32 → St → Prop) (x4 : Int32) (x5 : Int32) (x6 : Int32) (y0 : Int64) (σ0 : St) : Prop :=
  (x6 = 0 → (wX7_digits_38 post x4 x5 y0 (35 : Int32) σ0)) ∧ (¬ x6 = 0 → (wX7_digits_38 post x4 x5 y0 (17 : Int32) σ0))
set_option maxHeartbeats 4000000 in
set_option maxRecDepth 100000 in
theorem bX7_digits_24 {p : Program} {l : Launch} {e : Env} {s : State} {m : MethodId} {args : Array Value} {below : List Frame} {meth : Method} {c : Code} {Γ : rGam} {post : Int32 → St → Prop} (F : Fx Γ p s m meth c args cX7_digits 14 RX7 wsX7_digits (some .int)) {H : Heap} {locs : List Loc} {ls : Array Slot} {cells slots : Nat} {x4 : Int32} {x5 : Int32} {x6 : Int32} {y0 : Int64} {σ0 : St} (h : wX7_digits_24 post x4 x5 x6 y0 σ0) (hR : Rep Γ σ0 H) (hS : va_S (rA Γ) s.heap H locs) (hl : lv_has ls 14 [(4, .int x4), (5, .int x5), (6, .int x6)]) (hc : cells ≤ 0 ∧ slots ≤ 0) : W p l e rmX7_digits s m args below meth c H locs cells slots (rQi Γ below post args s 0 0) (F0 m 24 ls [.long y0]) := by
  have hx := F.1.1
  have hb := F.1.2.1
  unfold wX7_digits_24 at h
  refine s_lstore (lk := [(6, .int x6)]) (lv' := [(7, .long y0), (4, .int x4), (5, .int x5), (6, .int x6)]) hx hb dX7_digits_24 hl (by decide) rfl (lk_1 rfl) rfl (fun ls hl4 => ?_)
  refine lv_iload hx hb dX7_digits_26 (lv_at hl4 3 rfl) ?_
  refine lv_if_eq (tgt := 36) hx hb dX7_digits_28 (by decide) (fun c5 => ?_) (fun c5 => ?_)
  · replace h := h.1 c5
    refine lv_bipush (v := 35) hx hb dX7_digits_36 (by decide) ?_
    exact bX7_digits_38 F h hR hS (lv_sub hl4 [1, 2, 0] rfl) hc
  · replace h := h.2 c5
    refine lv_bipush (v := 17) hx hb dX7_digits_31 (by decide) ?_
    refine lv_goto (tgt := 38) hx hb dX7_digits_33 (by decide) ?_
    exact bX7_digits_38 F h hR hS (lv_sub hl4 [1, 2, 0] rfl) hc

set_option maxRecDepth 100000 in
def wX7_digits_12 (post : Int32 → St → Prop) (x0 : Int64) (x2 : Int64) (x4 : Int32) (x5 : Int32) (y0 : Int32) (σ0 : St) : Prop :=
  (y0 = 0 → (wX7_digits_24 post x4 x5 y0 x2 σ0)) ∧ (¬ y0 = 0 → (wX7_digits_24 post x4 x5 y0 x0 σ0))
set_option maxHeartbeats 4000000 in
set_option maxRecDepth 100000 in
theorem bX7_digits_12 {p : Program} {l : Launch} {e : Env} {s : State} {m : MethodId} {args : Array Value} {below : List Frame} {meth : Method} {c : Code} {Γ : rGam} {post : Int32 → St → Prop} (F : Fx Γ p s m meth c args cX7_digits 14 RX7 wsX7_digits (some .int)) {H : Heap} {locs : List Loc} {ls : Array Slot} {cells slots : Nat} {x0 : Int64} {x2 : Int64} {x4 : Int32} {x5 : Int32} {y0 : Int32} {σ0 : St} (h : wX7_digits_12 post x0 x2 x4 x5 y0 σ0) (hR : Rep Γ σ0 H) (hS : va_S (rA Γ) s.heap H locs) (hl : lv_has ls 14 [(0, .long x0), (2, .long x2), (4, .int x4), (5, .int x5)]) (hc : cells ≤ 0 ∧ slots ≤ 0) : W p l e rmX7_digits s m args below meth c H locs cells slots (rQi Γ below post args s 0 0) (F0 m 12 ls [.int y0]) := by
  have hx := F.1.1
  have hb := F.1.2.1
  unfold wX7_digits_12 at h
  refine s_istore (lk := [(5, .int x5)]) (lv' := [(6, .int y0), (0, .long x0), (2, .long x2), (4, .int x4), (5, .int x5)]) hx hb dX7_digits_12 hl (by decide) rfl (lk_1 rfl) rfl (fun ls hl2 => ?_)
  refine lv_iload hx hb dX7_digits_14 (lv_at hl2 0 rfl) ?_
  refine lv_if_eq (tgt := 23) hx hb dX7_digits_16 (by decide) (fun c3 => ?_) (fun c3 => ?_)
  · replace h := h.1 c3
    refine lv_lload_n hx hb dX7_digits_23 rfl (lv_at hl2 2 rfl) ?_
    exact bX7_digits_24 F h hR hS (lv_sub hl2 [3, 4, 0] rfl) hc
  · replace h := h.2 c3
    refine lv_lload_n hx hb dX7_digits_19 rfl (lv_at hl2 1 rfl) ?_
    refine lv_goto (tgt := 24) hx hb dX7_digits_20 (by decide) ?_
    exact bX7_digits_24 F h hR hS (lv_sub hl2 [3, 4, 0] rfl) hc

set_option maxRecDepth 100000 in
def wX7_digits (p1 : Int64) (p2 : Int64) (p3 : Int32) (p4 : Int32) (post : Int32 → St → Prop) (σ0 : St) : Prop :=
  ((18 : Int32) ≤ p4 → (wX7_digits_12 post p1 p2 p3 p4 (0 : Int32) σ0)) ∧ (¬ (18 : Int32) ≤ p4 → (wX7_digits_12 post p1 p2 p3 p4 (1 : Int32) σ0))
set_option maxHeartbeats 4000000 in
set_option maxRecDepth 100000 in
theorem bX7_digits {p : Program} {l : Launch} {e : Env} {s : State} {m : MethodId} {args : Array Value} {below : List Frame} {meth : Method} {c : Code} {Γ : rGam} {post : Int32 → St → Prop} (F : Fx Γ p s m meth c args cX7_digits 14 RX7 wsX7_digits (some .int)) {H : Heap} {locs : List Loc} {ls : Array Slot} {cells slots : Nat} {p1 : Int64} {p2 : Int64} {p3 : Int32} {p4 : Int32} {σ0 : St} (h : wX7_digits p1 p2 p3 p4 post σ0) (hR : Rep Γ σ0 H) (hS : va_S (rA Γ) s.heap H locs) (hl : lv_has ls 14 [(0, .long p1), (2, .long p2), (4, .int p3), (5, .int p4)]) (hc : cells ≤ 0 ∧ slots ≤ 0) : W p l e rmX7_digits s m args below meth c H locs cells slots (rQi Γ below post args s 0 0) (F0 m 0 ls []) := by
  have hx := F.1.1
  have hb := F.1.2.1
  unfold wX7_digits at h
  refine lv_iload hx hb dX7_digits_0 (lv_at hl 3 rfl) ?_
  refine lv_bipush (v := 18) hx hb dX7_digits_2 (by decide) ?_
  refine lv_icmp_ge (tgt := 11) hx hb dX7_digits_4 (by decide) (fun c1 => ?_) (fun c1 => ?_)
  · replace h := h.1 c1
    refine lv_iconst (v := 0) hx hb dX7_digits_11 (by decide) ?_
    exact bX7_digits_12 F h hR hS (lv_sub hl [0, 1, 2, 3] rfl) hc
  · replace h := h.2 c1
    refine lv_iconst (v := 1) hx hb dX7_digits_7 (by decide) ?_
    refine lv_goto (tgt := 12) hx hb dX7_digits_8 (by decide) ?_
    exact bX7_digits_12 F h hR hS (lv_sub hl [0, 1, 2, 3] rfl) hc
set_option maxHeartbeats 4000000 in
set_option maxRecDepth 100000 in
theorem kX7_digits (l : Launch) (Γ : rGam) (p1 : Int64) (p2 : Int64) (p3 : Int32) (p4 : Int32) (post : Int32 → St → Prop) (σ0 : St) (h : wX7_digits p1 p2 p3 p4 post σ0) : Met l yX7_digits wsX7_digits rmX7_digits (rPc Γ vwCl [.long p1, .long p2, .int p3, .int p4] (Rep Γ σ0)) (va_Qi post (fun σ' t => Rep Γ σ' t.heap) (rA Γ)) 0 0 (rA Γ) := by
  refine Met.ofW (cc := cX7_digits) (maxL := 14) (ret := (some .int)) (by decide) rfl ?_
  intro p e s m args below meth c s₁ B hml hv
  obtain ⟨rfl, hR, hE⟩ := hv
  have F : Fx Γ p s m meth c _ cX7_digits 14 RX7 wsX7_digits (some .int) := ⟨⟨B.exec, B.bytes, hml, findClass_of_methodNamed B.named, atoms_spec (ws := wsX7_digits) B.pre⟩, hE, B.notSynchronized, B.returns⟩
  have hl := lv_entry ([.long p1, .long p2, .int p3, .int p4]) (n := 14) (Nat.le_of_ble_eq_true rfl)
  rw [lg_entry_eq]
  generalize (lg_sl ([.long p1, .long p2, .int p3, .int p4]) ++ List.replicate (14 - (lg_sl ([.long p1, .long p2, .int p3, .int p4])).length) Slot.unset).toArray = ls at hl ⊢
  have hl : lv_has ls 14 [(0, .long p1), (2, .long p2), (4, .int p3), (5, .int p4)] := hl
  exact bX7_digits F h hR va_S.rf hl ⟨Nat.le_refl 0, Nat.le_refl 0⟩
/-! X7_isRight -/
theorem mX7_isRight_0 : Cond.fieldLink RX7 221 "ClearingFiles" "WEIGHTS" "[I" ∈ wsX7_isRight := by decide +kernel
abbrev rmX7_isRight : Room := { frames := 0, cells := 0, slots := 0, locals := 0 }
set_option maxRecDepth 100000 in
def wX7_isRight_9 (post : Int32 → St → Prop) : Nat → Int32 → Int32 → Int32 → St → Prop
  | 0, _, _, _, _ => False
  | n + 1, x2, x3, x4, σ0 =>
    (x4 < 0 → (((x3 - x3 / (10 : Int32) * (10 : Int32)) = 0 → (post (1 : Int32) σ0)) ∧ (¬ (x3 - x3 / (10 : Int32) * (10 : Int32)) = 0 → (post (0 : Int32) σ0)))) ∧ (¬ x4 < 0 → (vp_in (x4 - x4 / (3 : Int32) * (3 : Int32)) 3 ∧ (∀ x8 : Int32, x8 = (x3 + ((x2 - x2 / (10 : Int32) * (10 : Int32)) * (rWi (x4 - x4 / (3 : Int32) * (3 : Int32)).toNatClampNeg))) → (∀ x10 : Int32, x10 = (x2 / (10 : Int32)) → (∀ x12 : Int32, x12 = x4 + (-1 : Int32) → (wX7_isRight_9 post n x10 x8 x12 σ0))))))
set_option maxHeartbeats 4000000 in
set_option maxRecDepth 100000 in
theorem bX7_isRight_9 {p : Program} {l : Launch} {e : Env} {s : State} {m : MethodId} {args : Array Value} {below : List Frame} {meth : Method} {c : Code} {Γ : rGam} {post : Int32 → St → Prop} (F : Fx Γ p s m meth c args cX7_isRight 5 RX7 wsX7_isRight (some .boolean)) : ∀ (n : Nat) (x2 : Int32) (x3 : Int32) (x4 : Int32) (σ0 : St) (H : Heap) (locs : List Loc) (ls : Array Slot) (cells slots : Nat), wX7_isRight_9 post n x2 x3 x4 σ0 → Rep Γ σ0 H → va_S (rA Γ) s.heap H locs → lv_has ls 5 [(2, .int x2), (3, .int x3), (4, .int x4)] → cells ≤ 0 ∧ slots ≤ 0 → W p l e rmX7_isRight s m args below meth c H locs cells slots (rQi Γ below post args s 0 0) (F0 m 9 ls []) := by
  have hx := F.1.1
  have hb := F.1.2.1
  intro n
  induction n with
  | zero =>
    intro x2 x3 x4 σ0 H locs ls cells slots h
    exact absurd h (by unfold wX7_isRight_9; exact id)
  | succ n ih =>
    intro x2 x3 x4 σ0 H locs ls cells slots h hR hS hl hc
    unfold wX7_isRight_9 at h
    refine lv_iload hx hb dX7_isRight_9 (lv_at hl 2 rfl) ?_
    refine lv_if_lt (tgt := 41) hx hb dX7_isRight_11 (by decide) (fun c5 => ?_) (fun c5 => ?_)
    · replace h := h.1 c5
      refine lv_iload_n hx hb dX7_isRight_41 rfl (lv_at hl 1 rfl) ?_
      refine lv_bipush (v := 10) hx hb dX7_isRight_42 (by decide) ?_
      refine lv_irem hx hb dX7_isRight_44 (by decide) ?_
      refine lv_if_ne (tgt := 52) hx hb dX7_isRight_45 (by decide) (fun c6 => ?_) (fun c6 => ?_)
      · replace h := h.2 c6
        refine lv_iconst (v := 0) hx hb dX7_isRight_52 (by decide) ?_
        exact s_zret F hR hS (by unfold isB; decide) h hc dX7_isRight_53
      · replace h := h.1 c6
        refine lv_iconst (v := 1) hx hb dX7_isRight_48 (by decide) ?_
        refine lv_goto (tgt := 53) hx hb dX7_isRight_49 (by decide) ?_
        exact s_zret F hR hS (by unfold isB; decide) h hc dX7_isRight_53
    · replace h := h.2 c5
      refine lv_iload_n hx hb dX7_isRight_14 rfl (lv_at hl 1 rfl) ?_
      refine lv_iload_n hx hb dX7_isRight_15 rfl (lv_at hl 0 rfl) ?_
      refine lv_bipush (v := 10) hx hb dX7_isRight_16 (by decide) ?_
      refine lv_irem hx hb dX7_isRight_18 (by decide) ?_
      refine s_getW F hS mX7_isRight_0 dX7_isRight_19 ?_
      refine lv_iload hx hb dX7_isRight_22 (lv_at hl 2 rfl) ?_
      refine lv_iconst (v := 3) hx hb dX7_isRight_24 (by decide) ?_
      refine lv_irem hx hb dX7_isRight_25 (by decide) ?_
      obtain ⟨z7, h⟩ := h
      refine s_iaW F hS z7 dX7_isRight_26 ?_
      refine lv_imul hx hb dX7_isRight_27 ?_
      refine lv_iadd hx hb dX7_isRight_28 ?_
      refine lv_topi (fun x8 ex8 => ?_)
      replace h := h x8 ex8
      refine s_istore_n (lk := [(2, .int x2)]) (lv' := [(3, .int x8), (2, .int x2), (4, .int x4)]) hx hb dX7_isRight_29 rfl hl (by decide) rfl (lk_1 rfl) rfl (fun ls hl9 => ?_)
      refine lv_iload_n hx hb dX7_isRight_30 rfl (lv_at hl9 1 rfl) ?_
      refine lv_bipush (v := 10) hx hb dX7_isRight_31 (by decide) ?_
      refine lv_idiv hx hb dX7_isRight_33 (by decide) ?_
      refine lv_topi (fun x10 ex10 => ?_)
      replace h := h x10 ex10
      refine s_istore_n (lk := []) (lv' := [(2, .int x10), (3, .int x8), (4, .int x4)]) hx hb dX7_isRight_34 rfl hl9 (by decide) rfl lk_0 rfl (fun ls hl11 => ?_)
      obtain ⟨x12, ex12⟩ : ∃ x : Int32, x = x4 + (-1 : Int32) := ⟨_, rfl⟩
      replace h := h x12 ex12
      refine s_iinc (v := x12) (d := -1) (lk := [(3, .int x8)]) (lv' := [(4, .int x12), (2, .int x10), (3, .int x8)]) hx hb dX7_isRight_35 hl11 (k := 2) rfl (by decide) (by decide) rfl (lk_1 rfl) ex12 rfl (fun ls hl13 => ?_)
      refine lv_goto (tgt := 9) hx hb dX7_isRight_38 (by decide) ?_
      exact ih x10 x8 x12 σ0 _ _ _ _ _ h hR hS (lv_sub hl13 [1, 2, 0] rfl) hc

set_option maxRecDepth 100000 in
def wX7_isRight (p1 : Int32) (p2 : Int32) (post : Int32 → St → Prop) (σ0 : St) : Prop :=
  ∀ x3 : Int32, x3 = (p2 - (1 : Int32)) → (∃ n14 : Nat, wX7_isRight_9 post n14 p1 (0 : Int32) x3 σ0)
set_option maxHeartbeats 4000000 in
set_option maxRecDepth 100000 in
theorem bX7_isRight {p : Program} {l : Launch} {e : Env} {s : State} {m : MethodId} {args : Array Value} {below : List Frame} {meth : Method} {c : Code} {Γ : rGam} {post : Int32 → St → Prop} (F : Fx Γ p s m meth c args cX7_isRight 5 RX7 wsX7_isRight (some .boolean)) {H : Heap} {locs : List Loc} {ls : Array Slot} {cells slots : Nat} {p1 : Int32} {p2 : Int32} {σ0 : St} (h : wX7_isRight p1 p2 post σ0) (hR : Rep Γ σ0 H) (hS : va_S (rA Γ) s.heap H locs) (hl : lv_has ls 5 [(0, .int p1), (1, .int p2)]) (hc : cells ≤ 0 ∧ slots ≤ 0) : W p l e rmX7_isRight s m args below meth c H locs cells slots (rQi Γ below post args s 0 0) (F0 m 0 ls []) := by
  have hx := F.1.1
  have hb := F.1.2.1
  unfold wX7_isRight at h
  refine lv_iload_n hx hb dX7_isRight_0 rfl (lv_at hl 0 rfl) ?_
  refine s_istore_n (lk := [(1, .int p2)]) (lv' := [(2, .int p1), (0, .int p1), (1, .int p2)]) hx hb dX7_isRight_1 rfl hl (by decide) rfl (lk_1 rfl) rfl (fun ls hl1 => ?_)
  refine lv_iconst (v := 0) hx hb dX7_isRight_2 (by decide) ?_
  refine s_istore_n (lk := [(2, .int p1)]) (lv' := [(3, .int (0 : Int32)), (2, .int p1), (0, .int p1), (1, .int p2)]) hx hb dX7_isRight_3 rfl hl1 (by decide) rfl (lk_1 rfl) rfl (fun ls hl2 => ?_)
  refine lv_iload_n hx hb dX7_isRight_4 rfl (lv_at hl2 3 rfl) ?_
  refine lv_iconst (v := 1) hx hb dX7_isRight_5 (by decide) ?_
  refine lv_isub hx hb dX7_isRight_6 ?_
  refine lv_topi (fun x3 ex3 => ?_)
  replace h := h x3 ex3
  refine s_istore (lk := [(3, .int (0 : Int32))]) (lv' := [(4, .int x3), (3, .int (0 : Int32)), (2, .int p1), (0, .int p1), (1, .int p2)]) hx hb dX7_isRight_7 hl2 (by decide) rfl (lk_1 rfl) rfl (fun ls hl4 => ?_)
  obtain ⟨n14, h⟩ := h
  exact bX7_isRight_9 F n14 p1 (0 : Int32) x3 σ0 _ _ _ _ _ h hR hS (lv_sub hl4 [2, 1, 0] rfl) hc
set_option maxHeartbeats 4000000 in
set_option maxRecDepth 100000 in
theorem kX7_isRight (l : Launch) (Γ : rGam) (p1 : Int32) (p2 : Int32) (post : Int32 → St → Prop) (σ0 : St) (h : wX7_isRight p1 p2 post σ0) : Met l yX7_isRight wsX7_isRight rmX7_isRight (rPc Γ vwCl [.int p1, .int p2] (Rep Γ σ0)) (va_Qi post (fun σ' t => Rep Γ σ' t.heap) (rA Γ)) 0 0 (rA Γ) := by
  refine Met.ofW (cc := cX7_isRight) (maxL := 5) (ret := (some .boolean)) (by decide) rfl ?_
  intro p e s m args below meth c s₁ B hml hv
  obtain ⟨rfl, hR, hE⟩ := hv
  have F : Fx Γ p s m meth c _ cX7_isRight 5 RX7 wsX7_isRight (some .boolean) := ⟨⟨B.exec, B.bytes, hml, findClass_of_methodNamed B.named, atoms_spec (ws := wsX7_isRight) B.pre⟩, hE, B.notSynchronized, B.returns⟩
  have hl := lv_entry ([.int p1, .int p2]) (n := 5) (Nat.le_of_ble_eq_true rfl)
  rw [lg_entry_eq]
  generalize (lg_sl ([.int p1, .int p2]) ++ List.replicate (5 - (lg_sl ([.int p1, .int p2])).length) Slot.unset).toArray = ls at hl ⊢
  have hl : lv_has ls 5 [(0, .int p1), (1, .int p2)] := hl
  exact bX7_isRight F h hR va_S.rf hl ⟨Nat.le_refl 0, Nat.le_refl 0⟩
/-! X7_bankAt -/
theorem mX7_bankAt_0 : Cond.fieldLink RX7 10 "ClearingFiles" "banks" "Ljava/util/ArrayList;" ∈ wsX7_bankAt := by decide +kernel
theorem mX7_bankAt_1 : Cond.classLink RX7 52 "ClearingFiles$Bank" ∈ wsX7_bankAt := by decide +kernel
theorem nX7_bankAt_X7 : ∀ w ∈ u_ws RX7 TX7 7, w ∈ wsX7_bankAt := fun _ h => List.mem_cons_of_mem _ (List.mem_append_left _ (List.mem_append_right _ h))
abbrev rmX7_bankAt : Room := { frames := 3, cells := 0, slots := 0, locals := 101 }
set_option maxRecDepth 100000 in
def wX7_bankAt (o : Nat) (p1 : Int32) (post : Option Nat → St → Prop) (σ0 : St) : Prop :=
  (p1 < 0 → (post none σ0)) ∧ (¬ p1 < 0 → (sK σ0 o = 8 ∧ (∀ r3 : Option Nat, r3 = sR σ0 400 o 0 → (∃ a4 : Nat, r3 = some a4 ∧ (wL_size a4 (fun (x8 : Int32) (σ6 : St) => (p1 < x8 → (sK σ6 o = 8 ∧ (∀ r11 : Option Nat, r11 = sR σ6 400 o 0 → (∃ a12 : Nat, r11 = some a12 ∧ (wL_get a12 p1 (fun (r16 : Option Nat) (σ14 : St) => ∃ a17 : Nat, r16 = some a17 ∧ (sK σ14 a17 = 2 ∧ (post (some a17) σ14))) σ6))))) ∧ (¬ p1 < x8 → (post none σ6))) σ0)))))
set_option maxHeartbeats 4000000 in
set_option maxRecDepth 100000 in
theorem bX7_bankAt {p : Program} {l : Launch} {e : Env} {s : State} {m : MethodId} {args : Array Value} {below : List Frame} {meth : Method} {c : Code} {Γ : rGam} {o : Nat} {post : Option Nat → St → Prop} (F : Fx Γ p s m meth c args cX7_bankAt 2 RX7 wsX7_bankAt (some (.object "ClearingFiles$Bank"))) {H : Heap} {locs : List Loc} {ls : Array Slot} {cells slots : Nat} {p1 : Int32} {σ0 : St} (h : wX7_bankAt o p1 post σ0) (hR : Rep Γ σ0 H) (hS : va_S (rA Γ) s.heap H locs) (hl : lv_has ls 2 [(0, .ref o), (1, .int p1)]) (hc : cells ≤ 0 ∧ slots ≤ 0) : W p l e rmX7_bankAt s m args below meth c H locs cells slots (rQq Γ below post args s 0 0) (F0 m 0 ls []) := by
  have hx := F.1.1
  have hb := F.1.2.1
  unfold wX7_bankAt at h
  refine lv_iload_n hx hb dX7_bankAt_0 rfl (lv_at hl 1 rfl) ?_
  refine lv_if_lt (tgt := 15) hx hb dX7_bankAt_1 (by decide) (fun c1 => ?_) (fun c1 => ?_)
  · replace h := h.1 c1
    refine lv_null hx hb dX7_bankAt_15 ?_
    refine lv_goto (tgt := 30) hx hb dX7_bankAt_16 (by decide) ?_
    exact s_aret (r := none) F hR hS h hc dX7_bankAt_30
  · replace h := h.2 c1
    refine lv_iload_n hx hb dX7_bankAt_4 rfl (lv_at hl 1 rfl) ?_
    refine lv_aload_n hx hb dX7_bankAt_5 rfl (lv_at hl 0 rfl) ?_
    obtain ⟨k2, h⟩ := h
    refine s_getR F hR k2 (by decide) (C := RX7) (T := TX7) (N := 7) rfl nX7_bankAt_X7 0 (by decide) mX7_bankAt_0 (f := 400) rfl dX7_bankAt_6 (fun r3 er3 => ?_)
    replace h := h r3 er3
    obtain ⟨a4, ea4, h⟩ := h
    subst ea4
    have k5 := h.1
    refine s_ci hS (k_runV F hR hS hl 0 [] (kL_size l Γ a4 _ _ h) gX7_bankAt_Jx4a65c_size_8abf5 rfl rfl rfl (by decide +kernel) ⟨Nat.le_of_ble_eq_true rfl, Nat.le_of_ble_eq_true rfl⟩ (s_recv F hR rfl (by omega) (C := RJx4a65c) (T := TJx4a65c) (N := 3) (by unfold rCi; rw [if_neg (by omega)]; rfl)) rfl (Nat.le_of_ble_eq_true rfl) dX7_bankAt_9 ⟨by show _ ≤ 0; omega, by show _ ≤ 0; omega⟩) (fun x8 σ6 H locs h7 hR hS => ?_)
    refine lv_icmp_lt (tgt := 19) hx hb dX7_bankAt_12 (by decide) (fun c9 => ?_) (fun c9 => ?_)
    · replace h7 := h7.1 c9
      refine lv_aload_n hx hb dX7_bankAt_19 rfl (lv_at hl 0 rfl) ?_
      obtain ⟨k10, h7⟩ := h7
      refine s_getR F hR k10 (by decide) (C := RX7) (T := TX7) (N := 7) rfl nX7_bankAt_X7 0 (by decide) mX7_bankAt_0 (f := 400) rfl dX7_bankAt_20 (fun r11 er11 => ?_)
      replace h7 := h7 r11 er11
      refine lv_iload_n hx hb dX7_bankAt_23 rfl (lv_at hl 1 rfl) ?_
      obtain ⟨a12, ea12, h7⟩ := h7
      subst ea12
      have k13 := h7.1
      refine s_cq hS (k_runV F hR hS hl 1 [.int p1] (kL_get l Γ a12 p1 _ _ h7) gX7_bankAt_Jx4a65c_get_915e3 rfl rfl rfl (by decide +kernel) ⟨Nat.le_of_ble_eq_true rfl, Nat.le_of_ble_eq_true rfl⟩ (s_recv F hR rfl (by omega) (C := RJx4a65c) (T := TJx4a65c) (N := 3) (by unfold rCi; rw [if_neg (by omega)]; rfl)) rfl (Nat.le_of_ble_eq_true rfl) dX7_bankAt_24 ⟨by show _ ≤ 0; omega, by show _ ≤ 0; omega⟩) (fun r16 σ14 H locs h15 hR hS => ?_)
      obtain ⟨a17, ea17, h15⟩ := h15
      subst ea17
      obtain ⟨k18, h15⟩ := h15
      refine s_cast F hR k18 (by decide) (T := TX1) (N := 6) rfl mX7_bankAt_1 dX7_bankAt_27 ?_
      exact s_aret (r := (some a17)) F hR hS h15 hc dX7_bankAt_30
    · replace h7 := h7.2 c9
      refine lv_null hx hb dX7_bankAt_15 ?_
      refine lv_goto (tgt := 30) hx hb dX7_bankAt_16 (by decide) ?_
      exact s_aret (r := none) F hR hS h7 hc dX7_bankAt_30
set_option maxHeartbeats 4000000 in
set_option maxRecDepth 100000 in
theorem kX7_bankAt (l : Launch) (Γ : rGam) (o : Nat) (p1 : Int32) (post : Option Nat → St → Prop) (σ0 : St) (h : wX7_bankAt o p1 post σ0) : Met l yX7_bankAt wsX7_bankAt rmX7_bankAt (rPc Γ vwCl [.ref o, .int p1] (Rep Γ σ0)) (va_Qq post (fun σ' t => Rep Γ σ' t.heap) (rA Γ)) 0 0 (rA Γ) := by
  refine Met.ofW (cc := cX7_bankAt) (maxL := 2) (ret := (some (.object "ClearingFiles$Bank"))) (by decide) rfl ?_
  intro p e s m args below meth c s₁ B hml hv
  obtain ⟨rfl, hR, hE⟩ := hv
  have F : Fx Γ p s m meth c _ cX7_bankAt 2 RX7 wsX7_bankAt (some (.object "ClearingFiles$Bank")) := ⟨⟨B.exec, B.bytes, hml, findClass_of_methodNamed B.named, atoms_spec (ws := wsX7_bankAt) B.pre⟩, hE, B.notSynchronized, B.returns⟩
  have hl := lv_entry ([.ref o, .int p1]) (n := 2) (Nat.le_of_ble_eq_true rfl)
  rw [lg_entry_eq]
  generalize (lg_sl ([.ref o, .int p1]) ++ List.replicate (2 - (lg_sl ([.ref o, .int p1])).length) Slot.unset).toArray = ls at hl ⊢
  have hl : lv_has ls 2 [(0, .ref o), (1, .int p1)] := hl
  exact bX7_bankAt F h hR va_S.rf hl ⟨Nat.le_refl 0, Nat.le_refl 0⟩
/-! X7_bankWithRouting -/
theorem mX7_bankWithRouting_0 : Cond.fieldLink RX7 10 "ClearingFiles" "banks" "Ljava/util/ArrayList;" ∈ wsX7_bankWithRouting := by decide +kernel
theorem mX7_bankWithRouting_1 : Cond.classLink RX7 52 "ClearingFiles$Bank" ∈ wsX7_bankWithRouting := by decide +kernel
theorem mX7_bankWithRouting_2 : Cond.fieldLink RX7 224 "ClearingFiles$Bank" "routing" "I" ∈ wsX7_bankWithRouting := by decide +kernel
theorem nX7_bankWithRouting_X7 : ∀ w ∈ u_ws RX7 TX7 7, w ∈ wsX7_bankWithRouting := fun _ h => List.mem_cons_of_mem _ (List.mem_append_left _ (List.mem_append_left _ (List.mem_append_right _ h)))
theorem nX7_bankWithRouting_X1 : ∀ w ∈ u_ws RX1 TX1 6, w ∈ wsX7_bankWithRouting := fun _ h => List.mem_cons_of_mem _ (List.mem_append_left _ (List.mem_append_right _ h))
abbrev rmX7_bankWithRouting : Room := { frames := 3, cells := 0, slots := 0, locals := 101 }
set_option maxRecDepth 100000 in
def wX7_bankWithRouting_2 (o : Nat) (post : Option Nat → St → Prop) : Nat → Int32 → Int32 → St → Prop
  | 0, _, _, _ => False
  | n + 1, x1, x2, σ0 =>
    sK σ0 o = 8 ∧ (∀ r3 : Option Nat, r3 = sR σ0 400 o 0 → (∃ a4 : Nat, r3 = some a4 ∧ (wL_size a4 (fun (x8 : Int32) (σ6 : St) => (x8 ≤ x2 → (post none σ6)) ∧ (¬ x8 ≤ x2 → (sK σ6 o = 8 ∧ (∀ r11 : Option Nat, r11 = sR σ6 400 o 0 → (∃ a12 : Nat, r11 = some a12 ∧ (wL_get a12 x2 (fun (r16 : Option Nat) (σ14 : St) => ∃ a17 : Nat, r16 = some a17 ∧ (sK σ14 a17 = 2 ∧ (sK σ14 a17 = 2 ∧ (((sI σ14 101 a17 0) = x1 → (sK σ14 o = 8 ∧ (∀ r24 : Option Nat, r24 = sR σ14 400 o 0 → (∃ a25 : Nat, r24 = some a25 ∧ (wL_get a25 x2 (fun (r29 : Option Nat) (σ27 : St) => ∃ a30 : Nat, r29 = some a30 ∧ (sK σ27 a30 = 2 ∧ (post (some a30) σ27))) σ14))))) ∧ (¬ (sI σ14 101 a17 0) = x1 → (∀ x21 : Int32, x21 = x2 + (1 : Int32) → (wX7_bankWithRouting_2 o post n x1 x21 σ14))))))) σ6)))))) σ0)))
set_option maxHeartbeats 4000000 in
set_option maxRecDepth 100000 in
theorem bX7_bankWithRouting_2 {p : Program} {l : Launch} {e : Env} {s : State} {m : MethodId} {args : Array Value} {below : List Frame} {meth : Method} {c : Code} {Γ : rGam} {o : Nat} {post : Option Nat → St → Prop} (F : Fx Γ p s m meth c args cX7_bankWithRouting 3 RX7 wsX7_bankWithRouting (some (.object "ClearingFiles$Bank"))) : ∀ (n : Nat) (x1 : Int32) (x2 : Int32) (σ0 : St) (H : Heap) (locs : List Loc) (ls : Array Slot) (cells slots : Nat), wX7_bankWithRouting_2 o post n x1 x2 σ0 → Rep Γ σ0 H → va_S (rA Γ) s.heap H locs → lv_has ls 3 [(0, .ref o), (1, .int x1), (2, .int x2)] → cells ≤ 0 ∧ slots ≤ 0 → W p l e rmX7_bankWithRouting s m args below meth c H locs cells slots (rQq Γ below post args s 0 0) (F0 m 2 ls []) := by
  have hx := F.1.1
  have hb := F.1.2.1
  intro n
  induction n with
  | zero =>
    intro x1 x2 σ0 H locs ls cells slots h
    exact absurd h (by unfold wX7_bankWithRouting_2; exact id)
  | succ n ih =>
    intro x1 x2 σ0 H locs ls cells slots h hR hS hl hc
    unfold wX7_bankWithRouting_2 at h
    refine lv_iload_n hx hb dX7_bankWithRouting_2 rfl (lv_at hl 2 rfl) ?_
    refine lv_aload_n hx hb dX7_bankWithRouting_3 rfl (lv_at hl 0 rfl) ?_
    obtain ⟨k2, h⟩ := h
    refine s_getR F hR k2 (by decide) (C := RX7) (T := TX7) (N := 7) rfl nX7_bankWithRouting_X7 0 (by decide) mX7_bankWithRouting_0 (f := 400) rfl dX7_bankWithRouting_4 (fun r3 er3 => ?_)
    replace h := h r3 er3
    obtain ⟨a4, ea4, h⟩ := h
    subst ea4
    have k5 := h.1
    refine s_ci hS (k_runV F hR hS hl 0 [] (kL_size l Γ a4 _ _ h) gX7_bankWithRouting_Jx4a65c_size_8abf5 rfl rfl rfl (by decide +kernel) ⟨Nat.le_of_ble_eq_true rfl, Nat.le_of_ble_eq_true rfl⟩ (s_recv F hR rfl (by omega) (C := RJx4a65c) (T := TJx4a65c) (N := 3) (by unfold rCi; rw [if_neg (by omega)]; rfl)) rfl (Nat.le_of_ble_eq_true rfl) dX7_bankWithRouting_7 ⟨by show _ ≤ 0; omega, by show _ ≤ 0; omega⟩) (fun x8 σ6 H locs h7 hR hS => ?_)
    refine lv_icmp_ge (tgt := 49) hx hb dX7_bankWithRouting_10 (by decide) (fun c9 => ?_) (fun c9 => ?_)
    · replace h7 := h7.1 c9
      refine lv_null hx hb dX7_bankWithRouting_49 ?_
      exact s_aret (r := none) F hR hS h7 hc dX7_bankWithRouting_50
    · replace h7 := h7.2 c9
      refine lv_aload_n hx hb dX7_bankWithRouting_13 rfl (lv_at hl 0 rfl) ?_
      obtain ⟨k10, h7⟩ := h7
      refine s_getR F hR k10 (by decide) (C := RX7) (T := TX7) (N := 7) rfl nX7_bankWithRouting_X7 0 (by decide) mX7_bankWithRouting_0 (f := 400) rfl dX7_bankWithRouting_14 (fun r11 er11 => ?_)
      replace h7 := h7 r11 er11
      refine lv_iload_n hx hb dX7_bankWithRouting_17 rfl (lv_at hl 2 rfl) ?_
      obtain ⟨a12, ea12, h7⟩ := h7
      subst ea12
      have k13 := h7.1
      refine s_cq hS (k_runV F hR hS hl 1 [.int x2] (kL_get l Γ a12 x2 _ _ h7) gX7_bankWithRouting_Jx4a65c_get_915e3 rfl rfl rfl (by decide +kernel) ⟨Nat.le_of_ble_eq_true rfl, Nat.le_of_ble_eq_true rfl⟩ (s_recv F hR rfl (by omega) (C := RJx4a65c) (T := TJx4a65c) (N := 3) (by unfold rCi; rw [if_neg (by omega)]; rfl)) rfl (Nat.le_of_ble_eq_true rfl) dX7_bankWithRouting_18 ⟨by show _ ≤ 0; omega, by show _ ≤ 0; omega⟩) (fun r16 σ14 H locs h15 hR hS => ?_)
      obtain ⟨a17, ea17, h15⟩ := h15
      subst ea17
      obtain ⟨k18, h15⟩ := h15
      refine s_cast F hR k18 (by decide) (T := TX1) (N := 6) rfl mX7_bankWithRouting_1 dX7_bankWithRouting_21 ?_
      obtain ⟨k19, h15⟩ := h15
      refine s_getI F hR k19 (by decide) (C := RX1) (T := TX1) (N := 6) rfl nX7_bankWithRouting_X1 1 (by decide) mX7_bankWithRouting_2 (f := 101) rfl dX7_bankWithRouting_24 ?_
      refine lv_iload_n hx hb dX7_bankWithRouting_27 rfl (lv_at hl 1 rfl) ?_
      refine lv_icmp_ne (tgt := 43) hx hb dX7_bankWithRouting_28 (by decide) (fun c20 => ?_) (fun c20 => ?_)
      · replace h15 := h15.2 c20
        obtain ⟨x21, ex21⟩ : ∃ x : Int32, x = x2 + (1 : Int32) := ⟨_, rfl⟩
        replace h15 := h15 x21 ex21
        refine s_iinc (v := x21) (d := 1) (lk := [(1, .int x1)]) (lv' := [(2, .int x21), (0, .ref o), (1, .int x1)]) hx hb dX7_bankWithRouting_43 hl (k := 2) rfl (by decide) (by decide) rfl (lk_1 rfl) ex21 rfl (fun ls hl22 => ?_)
        refine lv_goto (tgt := 2) hx hb dX7_bankWithRouting_46 (by decide) ?_
        exact ih x1 x21 σ14 _ _ _ _ _ h15 hR hS (lv_sub hl22 [1, 2, 0] rfl) hc
      · replace h15 := h15.1 c20
        refine lv_aload_n hx hb dX7_bankWithRouting_31 rfl (lv_at hl 0 rfl) ?_
        obtain ⟨k23, h15⟩ := h15
        refine s_getR F hR k23 (by decide) (C := RX7) (T := TX7) (N := 7) rfl nX7_bankWithRouting_X7 0 (by decide) mX7_bankWithRouting_0 (f := 400) rfl dX7_bankWithRouting_32 (fun r24 er24 => ?_)
        replace h15 := h15 r24 er24
        refine lv_iload_n hx hb dX7_bankWithRouting_35 rfl (lv_at hl 2 rfl) ?_
        obtain ⟨a25, ea25, h15⟩ := h15
        subst ea25
        have k26 := h15.1
        refine s_cq hS (k_runV F hR hS hl 1 [.int x2] (kL_get l Γ a25 x2 _ _ h15) gX7_bankWithRouting_Jx4a65c_get_915e3 rfl rfl rfl (by decide +kernel) ⟨Nat.le_of_ble_eq_true rfl, Nat.le_of_ble_eq_true rfl⟩ (s_recv F hR rfl (by omega) (C := RJx4a65c) (T := TJx4a65c) (N := 3) (by unfold rCi; rw [if_neg (by omega)]; rfl)) rfl (Nat.le_of_ble_eq_true rfl) dX7_bankWithRouting_36 ⟨by show _ ≤ 0; omega, by show _ ≤ 0; omega⟩) (fun r29 σ27 H locs h28 hR hS => ?_)
        obtain ⟨a30, ea30, h28⟩ := h28
        subst ea30
        obtain ⟨k31, h28⟩ := h28
        refine s_cast F hR k31 (by decide) (T := TX1) (N := 6) rfl mX7_bankWithRouting_1 dX7_bankWithRouting_39 ?_
        exact s_aret (r := (some a30)) F hR hS h28 hc dX7_bankWithRouting_42

set_option maxRecDepth 100000 in
def wX7_bankWithRouting (o : Nat) (p1 : Int32) (post : Option Nat → St → Prop) (σ0 : St) : Prop :=
  ∃ n32 : Nat, wX7_bankWithRouting_2 o post n32 p1 (0 : Int32) σ0
set_option maxHeartbeats 4000000 in
set_option maxRecDepth 100000 in
theorem bX7_bankWithRouting {p : Program} {l : Launch} {e : Env} {s : State} {m : MethodId} {args : Array Value} {below : List Frame} {meth : Method} {c : Code} {Γ : rGam} {o : Nat} {post : Option Nat → St → Prop} (F : Fx Γ p s m meth c args cX7_bankWithRouting 3 RX7 wsX7_bankWithRouting (some (.object "ClearingFiles$Bank"))) {H : Heap} {locs : List Loc} {ls : Array Slot} {cells slots : Nat} {p1 : Int32} {σ0 : St} (h : wX7_bankWithRouting o p1 post σ0) (hR : Rep Γ σ0 H) (hS : va_S (rA Γ) s.heap H locs) (hl : lv_has ls 3 [(0, .ref o), (1, .int p1)]) (hc : cells ≤ 0 ∧ slots ≤ 0) : W p l e rmX7_bankWithRouting s m args below meth c H locs cells slots (rQq Γ below post args s 0 0) (F0 m 0 ls []) := by
  have hx := F.1.1
  have hb := F.1.2.1
  unfold wX7_bankWithRouting at h
  refine lv_iconst (v := 0) hx hb dX7_bankWithRouting_0 (by decide) ?_
  refine s_istore_n (lk := [(1, .int p1)]) (lv' := [(2, .int (0 : Int32)), (0, .ref o), (1, .int p1)]) hx hb dX7_bankWithRouting_1 rfl hl (by decide) rfl (lk_1 rfl) rfl (fun ls hl1 => ?_)
  obtain ⟨n32, h⟩ := h
  exact bX7_bankWithRouting_2 F n32 p1 (0 : Int32) σ0 _ _ _ _ _ h hR hS (lv_sub hl1 [1, 2, 0] rfl) hc
set_option maxHeartbeats 4000000 in
set_option maxRecDepth 100000 in
theorem kX7_bankWithRouting (l : Launch) (Γ : rGam) (o : Nat) (p1 : Int32) (post : Option Nat → St → Prop) (σ0 : St) (h : wX7_bankWithRouting o p1 post σ0) : Met l yX7_bankWithRouting wsX7_bankWithRouting rmX7_bankWithRouting (rPc Γ vwCl [.ref o, .int p1] (Rep Γ σ0)) (va_Qq post (fun σ' t => Rep Γ σ' t.heap) (rA Γ)) 0 0 (rA Γ) := by
  refine Met.ofW (cc := cX7_bankWithRouting) (maxL := 3) (ret := (some (.object "ClearingFiles$Bank"))) (by decide) rfl ?_
  intro p e s m args below meth c s₁ B hml hv
  obtain ⟨rfl, hR, hE⟩ := hv
  have F : Fx Γ p s m meth c _ cX7_bankWithRouting 3 RX7 wsX7_bankWithRouting (some (.object "ClearingFiles$Bank")) := ⟨⟨B.exec, B.bytes, hml, findClass_of_methodNamed B.named, atoms_spec (ws := wsX7_bankWithRouting) B.pre⟩, hE, B.notSynchronized, B.returns⟩
  have hl := lv_entry ([.ref o, .int p1]) (n := 3) (Nat.le_of_ble_eq_true rfl)
  rw [lg_entry_eq]
  generalize (lg_sl ([.ref o, .int p1]) ++ List.replicate (3 - (lg_sl ([.ref o, .int p1])).length) Slot.unset).toArray = ls at hl ⊢
  have hl : lv_has ls 3 [(0, .ref o), (1, .int p1)] := hl
  exact bX7_bankWithRouting F h hR va_S.rf hl ⟨Nat.le_refl 0, Nat.le_refl 0⟩
/-! X7_accountOf -/
theorem mX7_accountOf_0 : Cond.fieldLink RX7 16 "ClearingFiles" "accounts" "Ljava/util/ArrayList;" ∈ wsX7_accountOf := by decide +kernel
theorem mX7_accountOf_1 : Cond.classLink RX7 70 "ClearingFiles$Account" ∈ wsX7_accountOf := by decide +kernel
theorem mX7_accountOf_2 : Cond.fieldLink RX7 227 "ClearingFiles$Account" "bank" "LClearingFiles$Bank;" ∈ wsX7_accountOf := by decide +kernel
theorem mX7_accountOf_3 : Cond.fieldLink RX7 230 "ClearingFiles$Account" "number" "I" ∈ wsX7_accountOf := by decide +kernel
theorem nX7_accountOf_X7 : ∀ w ∈ u_ws RX7 TX7 7, w ∈ wsX7_accountOf := fun _ h => List.mem_cons_of_mem _ (List.mem_append_left _ (List.mem_append_left _ (List.mem_append_right _ h)))
theorem nX7_accountOf_X0 : ∀ w ∈ u_ws RX0 TX0 4, w ∈ wsX7_accountOf := fun _ h => List.mem_cons_of_mem _ (List.mem_append_left _ (List.mem_append_right _ h))
abbrev rmX7_accountOf : Room := { frames := 3, cells := 0, slots := 0, locals := 101 }
set_option maxRecDepth 100000 in
def wX7_accountOf_2 (o : Nat) (post : Option Nat → St → Prop) : Nat → Option Nat → Int32 → Int32 → St → Prop
  | 0, _, _, _, _ => False
  | n + 1, r1, x2, x3, σ0 =>
    sK σ0 o = 8 ∧ (∀ r3 : Option Nat, r3 = sR σ0 401 o 0 → (∃ a4 : Nat, r3 = some a4 ∧ (wL_size a4 (fun (x8 : Int32) (σ6 : St) => (x8 ≤ x3 → (post none σ6)) ∧ (¬ x8 ≤ x3 → (sK σ6 o = 8 ∧ (∀ r11 : Option Nat, r11 = sR σ6 401 o 0 → (∃ a12 : Nat, r11 = some a12 ∧ (wL_get a12 x3 (fun (r16 : Option Nat) (σ14 : St) => ∃ a17 : Nat, r16 = some a17 ∧ (sK σ14 a17 = 1 ∧ (sK σ14 a17 = 1 ∧ (∀ r21 : Option Nat, r21 = sR σ14 50 a17 0 → ((r21 = r1 → (sK σ14 a17 = 1 ∧ (((sI σ14 51 a17 0) = x2 → (post (some a17) σ14)) ∧ (¬ (sI σ14 51 a17 0) = x2 → (∀ x27 : Int32, x27 = x3 + (1 : Int32) → (wX7_accountOf_2 o post n r1 x2 x27 σ14)))))) ∧ (¬ r21 = r1 → (∀ x23 : Int32, x23 = x3 + (1 : Int32) → (wX7_accountOf_2 o post n r1 x2 x23 σ14)))))))) σ6)))))) σ0)))
set_option maxHeartbeats 4000000 in
set_option maxRecDepth 100000 in
theorem bX7_accountOf_2 {p : Program} {l : Launch} {e : Env} {s : State} {m : MethodId} {args : Array Value} {below : List Frame} {meth : Method} {c : Code} {Γ : rGam} {o : Nat} {post : Option Nat → St → Prop} (F : Fx Γ p s m meth c args cX7_accountOf 5 RX7 wsX7_accountOf (some (.object "ClearingFiles$Account"))) : ∀ (n : Nat) (r1 : Option Nat) (x2 : Int32) (x3 : Int32) (σ0 : St) (H : Heap) (locs : List Loc) (ls : Array Slot) (cells slots : Nat), wX7_accountOf_2 o post n r1 x2 x3 σ0 → Rep Γ σ0 H → va_S (rA Γ) s.heap H locs → lv_has ls 5 [(0, .ref o), (1, va_rf r1), (2, .int x2), (3, .int x3)] → cells ≤ 0 ∧ slots ≤ 0 → W p l e rmX7_accountOf s m args below meth c H locs cells slots (rQq Γ below post args s 0 0) (F0 m 2 ls []) := by
  have hx := F.1.1
  have hb := F.1.2.1
  intro n
  induction n with
  | zero =>
    intro r1 x2 x3 σ0 H locs ls cells slots h
    exact absurd h (by unfold wX7_accountOf_2; exact id)
  | succ n ih =>
    intro r1 x2 x3 σ0 H locs ls cells slots h hR hS hl hc
    unfold wX7_accountOf_2 at h
    refine lv_iload_n hx hb dX7_accountOf_2 rfl (lv_at hl 3 rfl) ?_
    refine lv_aload_n hx hb dX7_accountOf_3 rfl (lv_at hl 0 rfl) ?_
    obtain ⟨k2, h⟩ := h
    refine s_getR F hR k2 (by decide) (C := RX7) (T := TX7) (N := 7) rfl nX7_accountOf_X7 1 (by decide) mX7_accountOf_0 (f := 401) rfl dX7_accountOf_4 (fun r3 er3 => ?_)
    replace h := h r3 er3
    obtain ⟨a4, ea4, h⟩ := h
    subst ea4
    have k5 := h.1
    refine s_ci hS (k_runV F hR hS hl 0 [] (kL_size l Γ a4 _ _ h) gX7_accountOf_Jx4a65c_size_8abf5 rfl rfl rfl (by decide +kernel) ⟨Nat.le_of_ble_eq_true rfl, Nat.le_of_ble_eq_true rfl⟩ (s_recv F hR rfl (by omega) (C := RJx4a65c) (T := TJx4a65c) (N := 3) (by unfold rCi; rw [if_neg (by omega)]; rfl)) rfl (Nat.le_of_ble_eq_true rfl) dX7_accountOf_7 ⟨by show _ ≤ 0; omega, by show _ ≤ 0; omega⟩) (fun x8 σ6 H locs h7 hR hS => ?_)
    refine lv_icmp_ge (tgt := 53) hx hb dX7_accountOf_10 (by decide) (fun c9 => ?_) (fun c9 => ?_)
    · replace h7 := h7.1 c9
      refine lv_null hx hb dX7_accountOf_53 ?_
      exact s_aret (r := none) F hR hS h7 hc dX7_accountOf_54
    · replace h7 := h7.2 c9
      refine lv_aload_n hx hb dX7_accountOf_13 rfl (lv_at hl 0 rfl) ?_
      obtain ⟨k10, h7⟩ := h7
      refine s_getR F hR k10 (by decide) (C := RX7) (T := TX7) (N := 7) rfl nX7_accountOf_X7 1 (by decide) mX7_accountOf_0 (f := 401) rfl dX7_accountOf_14 (fun r11 er11 => ?_)
      replace h7 := h7 r11 er11
      refine lv_iload_n hx hb dX7_accountOf_17 rfl (lv_at hl 3 rfl) ?_
      obtain ⟨a12, ea12, h7⟩ := h7
      subst ea12
      have k13 := h7.1
      refine s_cq hS (k_runV F hR hS hl 1 [.int x3] (kL_get l Γ a12 x3 _ _ h7) gX7_accountOf_Jx4a65c_get_915e3 rfl rfl rfl (by decide +kernel) ⟨Nat.le_of_ble_eq_true rfl, Nat.le_of_ble_eq_true rfl⟩ (s_recv F hR rfl (by omega) (C := RJx4a65c) (T := TJx4a65c) (N := 3) (by unfold rCi; rw [if_neg (by omega)]; rfl)) rfl (Nat.le_of_ble_eq_true rfl) dX7_accountOf_18 ⟨by show _ ≤ 0; omega, by show _ ≤ 0; omega⟩) (fun r16 σ14 H locs h15 hR hS => ?_)
      obtain ⟨a17, ea17, h15⟩ := h15
      subst ea17
      obtain ⟨k18, h15⟩ := h15
      refine s_cast F hR k18 (by decide) (T := TX0) (N := 4) rfl mX7_accountOf_1 dX7_accountOf_21 ?_
      refine s_astore (r := (some a17)) (lk := [(3, .int x3)]) (lv' := [(4, .ref a17), (0, .ref o), (1, va_rf r1), (2, .int x2), (3, .int x3)]) hx hb dX7_accountOf_24 hl (by decide) rfl (lk_1 rfl) rfl (fun ls hl19 => ?_)
      refine lv_aload hx hb dX7_accountOf_26 (lv_at hl19 0 rfl) ?_
      obtain ⟨k20, h15⟩ := h15
      refine s_getR F hR k20 (by decide) (C := RX0) (T := TX0) (N := 4) rfl nX7_accountOf_X0 0 (by decide) mX7_accountOf_2 (f := 50) rfl dX7_accountOf_28 (fun r21 er21 => ?_)
      replace h15 := h15 r21 er21
      refine s_aload_n hx hb dX7_accountOf_31 rfl (lv_at hl19 2 rfl) ?_
      refine lv_acmp_ne (rx := r21) (ry := r1) (tgt := 47) hx hb dX7_accountOf_32 (by decide) (fun c22 => ?_) (fun c22 => ?_)
      · replace h15 := h15.2 c22
        obtain ⟨x23, ex23⟩ : ∃ x : Int32, x = x3 + (1 : Int32) := ⟨_, rfl⟩
        replace h15 := h15 x23 ex23
        refine s_iinc (v := x23) (d := 1) (lk := [(2, .int x2)]) (lv' := [(3, .int x23), (4, .ref a17), (0, .ref o), (1, va_rf r1), (2, .int x2)]) hx hb dX7_accountOf_47 hl19 (k := 4) rfl (by decide) (by decide) rfl (lk_1 rfl) ex23 rfl (fun ls hl24 => ?_)
        refine lv_goto (tgt := 2) hx hb dX7_accountOf_50 (by decide) ?_
        exact ih r1 x2 x23 σ14 _ _ _ _ _ h15 hR hS (lv_sub hl24 [2, 3, 4, 0] rfl) hc
      · replace h15 := h15.1 c22
        refine lv_aload hx hb dX7_accountOf_35 (lv_at hl19 0 rfl) ?_
        obtain ⟨k25, h15⟩ := h15
        refine s_getI F hR k25 (by decide) (C := RX0) (T := TX0) (N := 4) rfl nX7_accountOf_X0 1 (by decide) mX7_accountOf_3 (f := 51) rfl dX7_accountOf_37 ?_
        refine lv_iload_n hx hb dX7_accountOf_40 rfl (lv_at hl19 3 rfl) ?_
        refine lv_icmp_ne (tgt := 47) hx hb dX7_accountOf_41 (by decide) (fun c26 => ?_) (fun c26 => ?_)
        · replace h15 := h15.2 c26
          obtain ⟨x27, ex27⟩ : ∃ x : Int32, x = x3 + (1 : Int32) := ⟨_, rfl⟩
          replace h15 := h15 x27 ex27
          refine s_iinc (v := x27) (d := 1) (lk := [(2, .int x2)]) (lv' := [(3, .int x27), (4, .ref a17), (0, .ref o), (1, va_rf r1), (2, .int x2)]) hx hb dX7_accountOf_47 hl19 (k := 4) rfl (by decide) (by decide) rfl (lk_1 rfl) ex27 rfl (fun ls hl28 => ?_)
          refine lv_goto (tgt := 2) hx hb dX7_accountOf_50 (by decide) ?_
          exact ih r1 x2 x27 σ14 _ _ _ _ _ h15 hR hS (lv_sub hl28 [2, 3, 4, 0] rfl) hc
        · replace h15 := h15.1 c26
          refine lv_aload hx hb dX7_accountOf_44 (lv_at hl19 0 rfl) ?_
          exact s_aret (r := (some a17)) F hR hS h15 hc dX7_accountOf_46

set_option maxRecDepth 100000 in
def wX7_accountOf (o : Nat) (p1 : Option Nat) (p2 : Int32) (post : Option Nat → St → Prop) (σ0 : St) : Prop :=
  ∃ n29 : Nat, wX7_accountOf_2 o post n29 p1 p2 (0 : Int32) σ0
set_option maxHeartbeats 4000000 in
set_option maxRecDepth 100000 in
theorem bX7_accountOf {p : Program} {l : Launch} {e : Env} {s : State} {m : MethodId} {args : Array Value} {below : List Frame} {meth : Method} {c : Code} {Γ : rGam} {o : Nat} {post : Option Nat → St → Prop} (F : Fx Γ p s m meth c args cX7_accountOf 5 RX7 wsX7_accountOf (some (.object "ClearingFiles$Account"))) {H : Heap} {locs : List Loc} {ls : Array Slot} {cells slots : Nat} {p1 : Option Nat} {p2 : Int32} {σ0 : St} (h : wX7_accountOf o p1 p2 post σ0) (hR : Rep Γ σ0 H) (hS : va_S (rA Γ) s.heap H locs) (hl : lv_has ls 5 [(0, .ref o), (1, va_rf p1), (2, .int p2)]) (hc : cells ≤ 0 ∧ slots ≤ 0) : W p l e rmX7_accountOf s m args below meth c H locs cells slots (rQq Γ below post args s 0 0) (F0 m 0 ls []) := by
  have hx := F.1.1
  have hb := F.1.2.1
  unfold wX7_accountOf at h
  refine lv_iconst (v := 0) hx hb dX7_accountOf_0 (by decide) ?_
  refine s_istore_n (lk := [(2, .int p2)]) (lv' := [(3, .int (0 : Int32)), (0, .ref o), (1, va_rf p1), (2, .int p2)]) hx hb dX7_accountOf_1 rfl hl (by decide) rfl (lk_1 rfl) rfl (fun ls hl1 => ?_)
  obtain ⟨n29, h⟩ := h
  exact bX7_accountOf_2 F n29 p1 p2 (0 : Int32) σ0 _ _ _ _ _ h hR hS (lv_sub hl1 [1, 2, 3, 0] rfl) hc
set_option maxHeartbeats 4000000 in
set_option maxRecDepth 100000 in
theorem kX7_accountOf (l : Launch) (Γ : rGam) (o : Nat) (p1 : Option Nat) (p2 : Int32) (post : Option Nat → St → Prop) (σ0 : St) (h : wX7_accountOf o p1 p2 post σ0) : Met l yX7_accountOf wsX7_accountOf rmX7_accountOf (rPc Γ vwCl [.ref o, va_rf p1, .int p2] (Rep Γ σ0)) (va_Qq post (fun σ' t => Rep Γ σ' t.heap) (rA Γ)) 0 0 (rA Γ) := by
  rcases p1 with _ | p1v
  · refine Met.ofW (cc := cX7_accountOf) (maxL := 5) (ret := (some (.object "ClearingFiles$Account"))) (by decide) rfl ?_
    intro p e s m args below meth c s₁ B hml hv
    obtain ⟨rfl, hR, hE⟩ := hv
    have F : Fx Γ p s m meth c _ cX7_accountOf 5 RX7 wsX7_accountOf (some (.object "ClearingFiles$Account")) := ⟨⟨B.exec, B.bytes, hml, findClass_of_methodNamed B.named, atoms_spec (ws := wsX7_accountOf) B.pre⟩, hE, B.notSynchronized, B.returns⟩
    have hl := lv_entry ([.ref o, va_rf none, .int p2]) (n := 5) (Nat.le_of_ble_eq_true rfl)
    rw [lg_entry_eq]
    generalize (lg_sl ([.ref o, va_rf none, .int p2]) ++ List.replicate (5 - (lg_sl ([.ref o, va_rf none, .int p2])).length) Slot.unset).toArray = ls at hl ⊢
    have hl : lv_has ls 5 [(0, .ref o), (1, va_rf none), (2, .int p2)] := hl
    exact bX7_accountOf F h hR va_S.rf hl ⟨Nat.le_refl 0, Nat.le_refl 0⟩
  · refine Met.ofW (cc := cX7_accountOf) (maxL := 5) (ret := (some (.object "ClearingFiles$Account"))) (by decide) rfl ?_
    intro p e s m args below meth c s₁ B hml hv
    obtain ⟨rfl, hR, hE⟩ := hv
    have F : Fx Γ p s m meth c _ cX7_accountOf 5 RX7 wsX7_accountOf (some (.object "ClearingFiles$Account")) := ⟨⟨B.exec, B.bytes, hml, findClass_of_methodNamed B.named, atoms_spec (ws := wsX7_accountOf) B.pre⟩, hE, B.notSynchronized, B.returns⟩
    have hl := lv_entry ([.ref o, va_rf (some p1v), .int p2]) (n := 5) (Nat.le_of_ble_eq_true rfl)
    rw [lg_entry_eq]
    generalize (lg_sl ([.ref o, va_rf (some p1v), .int p2]) ++ List.replicate (5 - (lg_sl ([.ref o, va_rf (some p1v), .int p2])).length) Slot.unset).toArray = ls at hl ⊢
    have hl : lv_has ls 5 [(0, .ref o), (1, va_rf (some p1v)), (2, .int p2)] := hl
    exact bX7_accountOf F h hR va_S.rf hl ⟨Nat.le_refl 0, Nat.le_refl 0⟩
/-! X7_countRefusal -/
theorem mX7_countRefusal_0 : Cond.fieldLink RX7 34 "ClearingFiles" "refusals" "[I" ∈ wsX7_countRefusal := by decide +kernel
theorem nX7_countRefusal_X7 : ∀ w ∈ u_ws RX7 TX7 7, w ∈ wsX7_countRefusal := fun _ h => List.mem_cons_of_mem _ (List.mem_append_right _ h)
abbrev rmX7_countRefusal : Room := { frames := 0, cells := 0, slots := 0, locals := 0 }
set_option maxRecDepth 100000 in
def wX7_countRefusal (o : Nat) (p1 : Int32) (post : St → Prop) (σ0 : St) : Prop :=
  (p1 < 0 → (post σ0)) ∧ (¬ p1 < 0 → (sK σ0 o = 8 ∧ (∀ r3 : Option Nat, r3 = sR σ0 405 o 0 → (∃ a4 : Nat, r3 = some a4 ∧ (sK σ0 a4 = 1405 ∧ (((34 : Int32) ≤ p1 → (post σ0)) ∧ (¬ (34 : Int32) ≤ p1 → (sK σ0 o = 8 ∧ (∀ r8 : Option Nat, r8 = sR σ0 405 o 0 → (∃ a9 : Nat, r8 = some a9 ∧ (sK σ0 a9 = 1405 ∧ (vp_in p1 34 ∧ (sK σ0 a9 = 1405 ∧ (vp_in p1 34 ∧ (∀ σ14 : St, σ14 = uI σ0 1405 a9 (p1.toNatClampNeg) ((sI σ0 1405 a9 p1.toNatClampNeg) + (1 : Int32)) → (post σ14))))))))))))))))
set_option maxHeartbeats 4000000 in
set_option maxRecDepth 100000 in
theorem bX7_countRefusal {p : Program} {l : Launch} {e : Env} {s : State} {m : MethodId} {args : Array Value} {below : List Frame} {meth : Method} {c : Code} {Γ : rGam} {o : Nat} {post : St → Prop} (F : Fx Γ p s m meth c args cX7_countRefusal 2 RX7 wsX7_countRefusal none) {H : Heap} {locs : List Loc} {ls : Array Slot} {cells slots : Nat} {p1 : Int32} {σ0 : St} (h : wX7_countRefusal o p1 post σ0) (hR : Rep Γ σ0 H) (hS : va_S (rA Γ) s.heap H locs) (hl : lv_has ls 2 [(0, .ref o), (1, .int p1)]) (hc : cells ≤ 0 ∧ slots ≤ 0) : W p l e rmX7_countRefusal s m args below meth c H locs cells slots (rQv Γ below post args s 0 0) (F0 m 0 ls []) := by
  have hx := F.1.1
  have hb := F.1.2.1
  unfold wX7_countRefusal at h
  refine lv_iload_n hx hb dX7_countRefusal_0 rfl (lv_at hl 1 rfl) ?_
  refine lv_if_lt (tgt := 23) hx hb dX7_countRefusal_1 (by decide) (fun c1 => ?_) (fun c1 => ?_)
  · replace h := h.1 c1
    exact s_vret F hR hS h hc dX7_countRefusal_23
  · replace h := h.2 c1
    refine lv_iload_n hx hb dX7_countRefusal_4 rfl (lv_at hl 1 rfl) ?_
    refine lv_aload_n hx hb dX7_countRefusal_5 rfl (lv_at hl 0 rfl) ?_
    obtain ⟨k2, h⟩ := h
    refine s_getR F hR k2 (by decide) (C := RX7) (T := TX7) (N := 7) rfl nX7_countRefusal_X7 5 (by decide) mX7_countRefusal_0 (f := 405) rfl dX7_countRefusal_6 (fun r3 er3 => ?_)
    replace h := h r3 er3
    obtain ⟨a4, ea4, h⟩ := h
    subst ea4
    obtain ⟨k5, h⟩ := h
    refine s_alen F hR k5 (by decide) (t0 := 0) rfl rfl dX7_countRefusal_9 ?_
    refine lv_icmp_ge (tgt := 23) hx hb dX7_countRefusal_10 (by decide) (fun c6 => ?_) (fun c6 => ?_)
    · replace h := h.1 c6
      exact s_vret F hR hS h hc dX7_countRefusal_23
    · replace h := h.2 c6
      refine lv_aload_n hx hb dX7_countRefusal_13 rfl (lv_at hl 0 rfl) ?_
      obtain ⟨k7, h⟩ := h
      refine s_getR F hR k7 (by decide) (C := RX7) (T := TX7) (N := 7) rfl nX7_countRefusal_X7 5 (by decide) mX7_countRefusal_0 (f := 405) rfl dX7_countRefusal_14 (fun r8 er8 => ?_)
      replace h := h r8 er8
      refine lv_iload_n hx hb dX7_countRefusal_17 rfl (lv_at hl 1 rfl) ?_
      refine lv_dup2_11 hx hb dX7_countRefusal_18 rfl (va_cat _) ?_
      obtain ⟨a9, ea9, h⟩ := h
      subst ea9
      obtain ⟨k10, h⟩ := h
      obtain ⟨z11, h⟩ := h
      refine s_iald F hR k10 (by decide) rfl z11 dX7_countRefusal_19 ?_
      refine lv_iconst (v := 1) hx hb dX7_countRefusal_20 (by decide) ?_
      refine lv_iadd hx hb dX7_countRefusal_21 ?_
      obtain ⟨k12, h⟩ := h
      obtain ⟨z13, h⟩ := h
      refine s_iast F hR hS k12 (by decide) rfl z13 dX7_countRefusal_22 (fun σ14 eσ14 H locs hR hS => ?_)
      replace h := h σ14 eσ14
      exact s_vret F hR hS h hc dX7_countRefusal_23
set_option maxHeartbeats 4000000 in
set_option maxRecDepth 100000 in
theorem kX7_countRefusal (l : Launch) (Γ : rGam) (o : Nat) (p1 : Int32) (post : St → Prop) (σ0 : St) (h : wX7_countRefusal o p1 post σ0) : Met l yX7_countRefusal wsX7_countRefusal rmX7_countRefusal (rPc Γ vwCl [.ref o, .int p1] (Rep Γ σ0)) (va_Qv post (fun σ' t => Rep Γ σ' t.heap) (rA Γ)) 0 0 (rA Γ) := by
  refine Met.ofW (cc := cX7_countRefusal) (maxL := 2) (ret := none) (by decide) rfl ?_
  intro p e s m args below meth c s₁ B hml hv
  obtain ⟨rfl, hR, hE⟩ := hv
  have F : Fx Γ p s m meth c _ cX7_countRefusal 2 RX7 wsX7_countRefusal none := ⟨⟨B.exec, B.bytes, hml, findClass_of_methodNamed B.named, atoms_spec (ws := wsX7_countRefusal) B.pre⟩, hE, B.notSynchronized, B.returns⟩
  have hl := lv_entry ([.ref o, .int p1]) (n := 2) (Nat.le_of_ble_eq_true rfl)
  rw [lg_entry_eq]
  generalize (lg_sl ([.ref o, .int p1]) ++ List.replicate (2 - (lg_sl ([.ref o, .int p1])).length) Slot.unset).toArray = ls at hl ⊢
  have hl : lv_has ls 2 [(0, .ref o), (1, .int p1)] := hl
  exact bX7_countRefusal F h hR va_S.rf hl ⟨Nat.le_refl 0, Nat.le_refl 0⟩
/-! X7_fileKey -/
theorem mX7_fileKey_0 : Cond.fieldLink RX7 22 "ClearingFiles" "file" "LClearingFiles$Incoming;" ∈ wsX7_fileKey := by decide +kernel
theorem mX7_fileKey_1 : Cond.fieldLink RX7 283 "ClearingFiles$Incoming" "sender" "I" ∈ wsX7_fileKey := by decide +kernel
theorem mX7_fileKey_2 : Cond.fieldLink RX7 295 "ClearingFiles$Incoming" "number" "I" ∈ wsX7_fileKey := by decide +kernel
theorem nX7_fileKey_X7 : ∀ w ∈ u_ws RX7 TX7 7, w ∈ wsX7_fileKey := fun _ h => List.mem_cons_of_mem _ (List.mem_append_left _ (List.mem_append_right _ h))
theorem nX7_fileKey_X4 : ∀ w ∈ u_ws RX4 TX4 8, w ∈ wsX7_fileKey := fun _ h => List.mem_cons_of_mem _ (List.mem_append_right _ h)
abbrev rmX7_fileKey : Room := { frames := 0, cells := 0, slots := 0, locals := 0 }
set_option maxRecDepth 100000 in
def wX7_fileKey (o : Nat)  (post : Int32 → St → Prop) (σ0 : St) : Prop :=
  sK σ0 o = 8 ∧ (∀ r2 : Option Nat, r2 = sR σ0 402 o 0 → (∃ a3 : Nat, r2 = some a3 ∧ (sK σ0 a3 = 5 ∧ (sK σ0 o = 8 ∧ (∀ r6 : Option Nat, r6 = sR σ0 402 o 0 → (∃ a7 : Nat, r6 = some a7 ∧ (sK σ0 a7 = 5 ∧ (post (((sI σ0 254 a3 0) * (10000 : Int32)) + (sI σ0 255 a7 0)) σ0))))))))
set_option maxHeartbeats 4000000 in
set_option maxRecDepth 100000 in
theorem bX7_fileKey {p : Program} {l : Launch} {e : Env} {s : State} {m : MethodId} {args : Array Value} {below : List Frame} {meth : Method} {c : Code} {Γ : rGam} {o : Nat} {post : Int32 → St → Prop} (F : Fx Γ p s m meth c args cX7_fileKey 1 RX7 wsX7_fileKey (some .int)) {H : Heap} {locs : List Loc} {ls : Array Slot} {cells slots : Nat}  {σ0 : St} (h : wX7_fileKey o  post σ0) (hR : Rep Γ σ0 H) (hS : va_S (rA Γ) s.heap H locs) (hl : lv_has ls 1 [(0, .ref o)]) (hc : cells ≤ 0 ∧ slots ≤ 0) : W p l e rmX7_fileKey s m args below meth c H locs cells slots (rQi Γ below post args s 0 0) (F0 m 0 ls []) := by
  have hx := F.1.1
  have hb := F.1.2.1
  unfold wX7_fileKey at h
  refine lv_aload_n hx hb dX7_fileKey_0 rfl (lv_at hl 0 rfl) ?_
  obtain ⟨k1, h⟩ := h
  refine s_getR F hR k1 (by decide) (C := RX7) (T := TX7) (N := 7) rfl nX7_fileKey_X7 2 (by decide) mX7_fileKey_0 (f := 402) rfl dX7_fileKey_1 (fun r2 er2 => ?_)
  replace h := h r2 er2
  obtain ⟨a3, ea3, h⟩ := h
  subst ea3
  obtain ⟨k4, h⟩ := h
  refine s_getI F hR k4 (by decide) (C := RX4) (T := TX4) (N := 8) rfl nX7_fileKey_X4 4 (by decide) mX7_fileKey_1 (f := 254) rfl dX7_fileKey_4 ?_
  refine lv_sipush (v := 10000) hx hb dX7_fileKey_7 (by decide) ?_
  refine lv_imul hx hb dX7_fileKey_10 ?_
  refine lv_aload_n hx hb dX7_fileKey_11 rfl (lv_at hl 0 rfl) ?_
  obtain ⟨k5, h⟩ := h
  refine s_getR F hR k5 (by decide) (C := RX7) (T := TX7) (N := 7) rfl nX7_fileKey_X7 2 (by decide) mX7_fileKey_0 (f := 402) rfl dX7_fileKey_12 (fun r6 er6 => ?_)
  replace h := h r6 er6
  obtain ⟨a7, ea7, h⟩ := h
  subst ea7
  obtain ⟨k8, h⟩ := h
  refine s_getI F hR k8 (by decide) (C := RX4) (T := TX4) (N := 8) rfl nX7_fileKey_X4 5 (by decide) mX7_fileKey_2 (f := 255) rfl dX7_fileKey_15 ?_
  refine lv_iadd hx hb dX7_fileKey_18 ?_
  exact s_iret F hR hS h hc dX7_fileKey_19
set_option maxHeartbeats 4000000 in
set_option maxRecDepth 100000 in
theorem kX7_fileKey (l : Launch) (Γ : rGam) (o : Nat)  (post : Int32 → St → Prop) (σ0 : St) (h : wX7_fileKey o  post σ0) : Met l yX7_fileKey wsX7_fileKey rmX7_fileKey (rPc Γ vwCl [.ref o] (Rep Γ σ0)) (va_Qi post (fun σ' t => Rep Γ σ' t.heap) (rA Γ)) 0 0 (rA Γ) := by
  refine Met.ofW (cc := cX7_fileKey) (maxL := 1) (ret := (some .int)) (by decide) rfl ?_
  intro p e s m args below meth c s₁ B hml hv
  obtain ⟨rfl, hR, hE⟩ := hv
  have F : Fx Γ p s m meth c _ cX7_fileKey 1 RX7 wsX7_fileKey (some .int) := ⟨⟨B.exec, B.bytes, hml, findClass_of_methodNamed B.named, atoms_spec (ws := wsX7_fileKey) B.pre⟩, hE, B.notSynchronized, B.returns⟩
  have hl := lv_entry ([.ref o]) (n := 1) (Nat.le_of_ble_eq_true rfl)
  rw [lg_entry_eq]
  generalize (lg_sl ([.ref o]) ++ List.replicate (1 - (lg_sl ([.ref o])).length) Slot.unset).toArray = ls at hl ⊢
  have hl : lv_has ls 1 [(0, .ref o)] := hl
  exact bX7_fileKey F h hR va_S.rf hl ⟨Nat.le_refl 0, Nat.le_refl 0⟩
/-! X7_wasAccepted -/
theorem mX7_wasAccepted_0 : Cond.fieldLink RX7 30 "ClearingFiles" "acceptedCount" "I" ∈ wsX7_wasAccepted := by decide +kernel
theorem mX7_wasAccepted_1 : Cond.fieldLink RX7 26 "ClearingFiles" "acceptedFiles" "[I" ∈ wsX7_wasAccepted := by decide +kernel
theorem nX7_wasAccepted_X7 : ∀ w ∈ u_ws RX7 TX7 7, w ∈ wsX7_wasAccepted := fun _ h => List.mem_cons_of_mem _ (List.mem_append_right _ h)
abbrev rmX7_wasAccepted : Room := { frames := 0, cells := 0, slots := 0, locals := 0 }
set_option maxRecDepth 100000 in
def wX7_wasAccepted_2 (o : Nat) (post : Int32 → St → Prop) : Nat → Int32 → Int32 → St → Prop
  | 0, _, _, _ => False
  | n + 1, x1, x2, σ0 =>
    sK σ0 o = 8 ∧ (((sI σ0 404 o 0) ≤ x2 → (post (0 : Int32) σ0)) ∧ (¬ (sI σ0 404 o 0) ≤ x2 → (sK σ0 o = 8 ∧ (∀ r5 : Option Nat, r5 = sR σ0 403 o 0 → (∃ a6 : Nat, r5 = some a6 ∧ (sK σ0 a6 = 1403 ∧ (vp_in x2 256 ∧ (((sI σ0 1403 a6 x2.toNatClampNeg) = x1 → (post (1 : Int32) σ0)) ∧ (¬ (sI σ0 1403 a6 x2.toNatClampNeg) = x1 → (∀ x10 : Int32, x10 = x2 + (1 : Int32) → (wX7_wasAccepted_2 o post n x1 x10 σ0)))))))))))
set_option maxHeartbeats 4000000 in
set_option maxRecDepth 100000 in
theorem bX7_wasAccepted_2 {p : Program} {l : Launch} {e : Env} {s : State} {m : MethodId} {args : Array Value} {below : List Frame} {meth : Method} {c : Code} {Γ : rGam} {o : Nat} {post : Int32 → St → Prop} (F : Fx Γ p s m meth c args cX7_wasAccepted 3 RX7 wsX7_wasAccepted (some .boolean)) : ∀ (n : Nat) (x1 : Int32) (x2 : Int32) (σ0 : St) (H : Heap) (locs : List Loc) (ls : Array Slot) (cells slots : Nat), wX7_wasAccepted_2 o post n x1 x2 σ0 → Rep Γ σ0 H → va_S (rA Γ) s.heap H locs → lv_has ls 3 [(0, .ref o), (1, .int x1), (2, .int x2)] → cells ≤ 0 ∧ slots ≤ 0 → W p l e rmX7_wasAccepted s m args below meth c H locs cells slots (rQi Γ below post args s 0 0) (F0 m 2 ls []) := by
  have hx := F.1.1
  have hb := F.1.2.1
  intro n
  induction n with
  | zero =>
    intro x1 x2 σ0 H locs ls cells slots h
    exact absurd h (by unfold wX7_wasAccepted_2; exact id)
  | succ n ih =>
    intro x1 x2 σ0 H locs ls cells slots h hR hS hl hc
    unfold wX7_wasAccepted_2 at h
    refine lv_iload_n hx hb dX7_wasAccepted_2 rfl (lv_at hl 2 rfl) ?_
    refine lv_aload_n hx hb dX7_wasAccepted_3 rfl (lv_at hl 0 rfl) ?_
    obtain ⟨k2, h⟩ := h
    refine s_getI F hR k2 (by decide) (C := RX7) (T := TX7) (N := 7) rfl nX7_wasAccepted_X7 4 (by decide) mX7_wasAccepted_0 (f := 404) rfl dX7_wasAccepted_4 ?_
    refine lv_icmp_ge (tgt := 28) hx hb dX7_wasAccepted_7 (by decide) (fun c3 => ?_) (fun c3 => ?_)
    · replace h := h.1 c3
      refine lv_iconst (v := 0) hx hb dX7_wasAccepted_28 (by decide) ?_
      exact s_zret F hR hS (by unfold isB; decide) h hc dX7_wasAccepted_29
    · replace h := h.2 c3
      refine lv_aload_n hx hb dX7_wasAccepted_10 rfl (lv_at hl 0 rfl) ?_
      obtain ⟨k4, h⟩ := h
      refine s_getR F hR k4 (by decide) (C := RX7) (T := TX7) (N := 7) rfl nX7_wasAccepted_X7 3 (by decide) mX7_wasAccepted_1 (f := 403) rfl dX7_wasAccepted_11 (fun r5 er5 => ?_)
      replace h := h r5 er5
      refine lv_iload_n hx hb dX7_wasAccepted_14 rfl (lv_at hl 2 rfl) ?_
      obtain ⟨a6, ea6, h⟩ := h
      subst ea6
      obtain ⟨k7, h⟩ := h
      obtain ⟨z8, h⟩ := h
      refine s_iald F hR k7 (by decide) rfl z8 dX7_wasAccepted_15 ?_
      refine lv_iload_n hx hb dX7_wasAccepted_16 rfl (lv_at hl 1 rfl) ?_
      refine lv_icmp_ne (tgt := 22) hx hb dX7_wasAccepted_17 (by decide) (fun c9 => ?_) (fun c9 => ?_)
      · replace h := h.2 c9
        obtain ⟨x10, ex10⟩ : ∃ x : Int32, x = x2 + (1 : Int32) := ⟨_, rfl⟩
        replace h := h x10 ex10
        refine s_iinc (v := x10) (d := 1) (lk := [(1, .int x1)]) (lv' := [(2, .int x10), (0, .ref o), (1, .int x1)]) hx hb dX7_wasAccepted_22 hl (k := 2) rfl (by decide) (by decide) rfl (lk_1 rfl) ex10 rfl (fun ls hl11 => ?_)
        refine lv_goto (tgt := 2) hx hb dX7_wasAccepted_25 (by decide) ?_
        exact ih x1 x10 σ0 _ _ _ _ _ h hR hS (lv_sub hl11 [1, 2, 0] rfl) hc
      · replace h := h.1 c9
        refine lv_iconst (v := 1) hx hb dX7_wasAccepted_20 (by decide) ?_
        exact s_zret F hR hS (by unfold isB; decide) h hc dX7_wasAccepted_21

set_option maxRecDepth 100000 in
def wX7_wasAccepted (o : Nat) (p1 : Int32) (post : Int32 → St → Prop) (σ0 : St) : Prop :=
  ∃ n12 : Nat, wX7_wasAccepted_2 o post n12 p1 (0 : Int32) σ0
set_option maxHeartbeats 4000000 in
set_option maxRecDepth 100000 in
theorem bX7_wasAccepted {p : Program} {l : Launch} {e : Env} {s : State} {m : MethodId} {args : Array Value} {below : List Frame} {meth : Method} {c : Code} {Γ : rGam} {o : Nat} {post : Int32 → St → Prop} (F : Fx Γ p s m meth c args cX7_wasAccepted 3 RX7 wsX7_wasAccepted (some .boolean)) {H : Heap} {locs : List Loc} {ls : Array Slot} {cells slots : Nat} {p1 : Int32} {σ0 : St} (h : wX7_wasAccepted o p1 post σ0) (hR : Rep Γ σ0 H) (hS : va_S (rA Γ) s.heap H locs) (hl : lv_has ls 3 [(0, .ref o), (1, .int p1)]) (hc : cells ≤ 0 ∧ slots ≤ 0) : W p l e rmX7_wasAccepted s m args below meth c H locs cells slots (rQi Γ below post args s 0 0) (F0 m 0 ls []) := by
  have hx := F.1.1
  have hb := F.1.2.1
  unfold wX7_wasAccepted at h
  refine lv_iconst (v := 0) hx hb dX7_wasAccepted_0 (by decide) ?_
  refine s_istore_n (lk := [(1, .int p1)]) (lv' := [(2, .int (0 : Int32)), (0, .ref o), (1, .int p1)]) hx hb dX7_wasAccepted_1 rfl hl (by decide) rfl (lk_1 rfl) rfl (fun ls hl1 => ?_)
  obtain ⟨n12, h⟩ := h
  exact bX7_wasAccepted_2 F n12 p1 (0 : Int32) σ0 _ _ _ _ _ h hR hS (lv_sub hl1 [1, 2, 0] rfl) hc
set_option maxHeartbeats 4000000 in
set_option maxRecDepth 100000 in
theorem kX7_wasAccepted (l : Launch) (Γ : rGam) (o : Nat) (p1 : Int32) (post : Int32 → St → Prop) (σ0 : St) (h : wX7_wasAccepted o p1 post σ0) : Met l yX7_wasAccepted wsX7_wasAccepted rmX7_wasAccepted (rPc Γ vwCl [.ref o, .int p1] (Rep Γ σ0)) (va_Qi post (fun σ' t => Rep Γ σ' t.heap) (rA Γ)) 0 0 (rA Γ) := by
  refine Met.ofW (cc := cX7_wasAccepted) (maxL := 3) (ret := (some .boolean)) (by decide) rfl ?_
  intro p e s m args below meth c s₁ B hml hv
  obtain ⟨rfl, hR, hE⟩ := hv
  have F : Fx Γ p s m meth c _ cX7_wasAccepted 3 RX7 wsX7_wasAccepted (some .boolean) := ⟨⟨B.exec, B.bytes, hml, findClass_of_methodNamed B.named, atoms_spec (ws := wsX7_wasAccepted) B.pre⟩, hE, B.notSynchronized, B.returns⟩
  have hl := lv_entry ([.ref o, .int p1]) (n := 3) (Nat.le_of_ble_eq_true rfl)
  rw [lg_entry_eq]
  generalize (lg_sl ([.ref o, .int p1]) ++ List.replicate (3 - (lg_sl ([.ref o, .int p1])).length) Slot.unset).toArray = ls at hl ⊢
  have hl : lv_has ls 3 [(0, .ref o), (1, .int p1)] := hl
  exact bX7_wasAccepted F h hR va_S.rf hl ⟨Nat.le_refl 0, Nat.le_refl 0⟩
/-! X7_keepAsAccepted -/
theorem mX7_keepAsAccepted_0 : Cond.fieldLink RX7 30 "ClearingFiles" "acceptedCount" "I" ∈ wsX7_keepAsAccepted := by decide +kernel
theorem mX7_keepAsAccepted_1 : Cond.fieldLink RX7 26 "ClearingFiles" "acceptedFiles" "[I" ∈ wsX7_keepAsAccepted := by decide +kernel
theorem nX7_keepAsAccepted_X7 : ∀ w ∈ u_ws RX7 TX7 7, w ∈ wsX7_keepAsAccepted := fun _ h => List.mem_cons_of_mem _ (List.mem_append_right _ h)
abbrev rmX7_keepAsAccepted : Room := { frames := 0, cells := 0, slots := 0, locals := 0 }
set_option maxRecDepth 100000 in
def wX7_keepAsAccepted (o : Nat) (p1 : Int32) (post : St → Prop) (σ0 : St) : Prop :=
  sK σ0 o = 8 ∧ (sK σ0 o = 8 ∧ (∀ r3 : Option Nat, r3 = sR σ0 403 o 0 → (∃ a4 : Nat, r3 = some a4 ∧ (sK σ0 a4 = 1403 ∧ (((256 : Int32) ≤ (sI σ0 404 o 0) → (post σ0)) ∧ (¬ (256 : Int32) ≤ (sI σ0 404 o 0) → (sK σ0 o = 8 ∧ (∀ r8 : Option Nat, r8 = sR σ0 403 o 0 → (sK σ0 o = 8 ∧ (∃ a10 : Nat, r8 = some a10 ∧ (sK σ0 a10 = 1403 ∧ (vp_in (sI σ0 404 o 0) 256 ∧ (∀ σ13 : St, σ13 = uI σ0 1403 a10 ((sI σ0 404 o 0).toNatClampNeg) p1 → (sK σ13 o = 8 ∧ (sK σ13 o = 8 ∧ (∀ σ16 : St, σ16 = uI σ13 404 o 0 ((sI σ13 404 o 0) + (1 : Int32)) → (post σ16)))))))))))))))))
set_option maxHeartbeats 4000000 in
set_option maxRecDepth 100000 in
theorem bX7_keepAsAccepted {p : Program} {l : Launch} {e : Env} {s : State} {m : MethodId} {args : Array Value} {below : List Frame} {meth : Method} {c : Code} {Γ : rGam} {o : Nat} {post : St → Prop} (F : Fx Γ p s m meth c args cX7_keepAsAccepted 2 RX7 wsX7_keepAsAccepted none) {H : Heap} {locs : List Loc} {ls : Array Slot} {cells slots : Nat} {p1 : Int32} {σ0 : St} (h : wX7_keepAsAccepted o p1 post σ0) (hR : Rep Γ σ0 H) (hS : va_S (rA Γ) s.heap H locs) (hl : lv_has ls 2 [(0, .ref o), (1, .int p1)]) (hc : cells ≤ 0 ∧ slots ≤ 0) : W p l e rmX7_keepAsAccepted s m args below meth c H locs cells slots (rQv Γ below post args s 0 0) (F0 m 0 ls []) := by
  have hx := F.1.1
  have hb := F.1.2.1
  unfold wX7_keepAsAccepted at h
  refine lv_aload_n hx hb dX7_keepAsAccepted_0 rfl (lv_at hl 0 rfl) ?_
  obtain ⟨k1, h⟩ := h
  refine s_getI F hR k1 (by decide) (C := RX7) (T := TX7) (N := 7) rfl nX7_keepAsAccepted_X7 4 (by decide) mX7_keepAsAccepted_0 (f := 404) rfl dX7_keepAsAccepted_1 ?_
  refine lv_aload_n hx hb dX7_keepAsAccepted_4 rfl (lv_at hl 0 rfl) ?_
  obtain ⟨k2, h⟩ := h
  refine s_getR F hR k2 (by decide) (C := RX7) (T := TX7) (N := 7) rfl nX7_keepAsAccepted_X7 3 (by decide) mX7_keepAsAccepted_1 (f := 403) rfl dX7_keepAsAccepted_5 (fun r3 er3 => ?_)
  replace h := h r3 er3
  obtain ⟨a4, ea4, h⟩ := h
  subst ea4
  obtain ⟨k5, h⟩ := h
  refine s_alen F hR k5 (by decide) (t0 := 0) rfl rfl dX7_keepAsAccepted_8 ?_
  refine lv_icmp_ge (tgt := 32) hx hb dX7_keepAsAccepted_9 (by decide) (fun c6 => ?_) (fun c6 => ?_)
  · replace h := h.1 c6
    exact s_vret F hR hS h hc dX7_keepAsAccepted_32
  · replace h := h.2 c6
    refine lv_aload_n hx hb dX7_keepAsAccepted_12 rfl (lv_at hl 0 rfl) ?_
    obtain ⟨k7, h⟩ := h
    refine s_getR F hR k7 (by decide) (C := RX7) (T := TX7) (N := 7) rfl nX7_keepAsAccepted_X7 3 (by decide) mX7_keepAsAccepted_1 (f := 403) rfl dX7_keepAsAccepted_13 (fun r8 er8 => ?_)
    replace h := h r8 er8
    refine lv_aload_n hx hb dX7_keepAsAccepted_16 rfl (lv_at hl 0 rfl) ?_
    obtain ⟨k9, h⟩ := h
    refine s_getI F hR k9 (by decide) (C := RX7) (T := TX7) (N := 7) rfl nX7_keepAsAccepted_X7 4 (by decide) mX7_keepAsAccepted_0 (f := 404) rfl dX7_keepAsAccepted_17 ?_
    refine lv_iload_n hx hb dX7_keepAsAccepted_20 rfl (lv_at hl 1 rfl) ?_
    obtain ⟨a10, ea10, h⟩ := h
    subst ea10
    obtain ⟨k11, h⟩ := h
    obtain ⟨z12, h⟩ := h
    refine s_iast F hR hS k11 (by decide) rfl z12 dX7_keepAsAccepted_21 (fun σ13 eσ13 H locs hR hS => ?_)
    replace h := h σ13 eσ13
    refine lv_aload_n hx hb dX7_keepAsAccepted_22 rfl (lv_at hl 0 rfl) ?_
    refine lv_dup hx hb dX7_keepAsAccepted_23 rfl ?_
    obtain ⟨k14, h⟩ := h
    refine s_getI F hR k14 (by decide) (C := RX7) (T := TX7) (N := 7) rfl nX7_keepAsAccepted_X7 4 (by decide) mX7_keepAsAccepted_0 (f := 404) rfl dX7_keepAsAccepted_24 ?_
    refine lv_iconst (v := 1) hx hb dX7_keepAsAccepted_27 (by decide) ?_
    refine lv_iadd hx hb dX7_keepAsAccepted_28 ?_
    obtain ⟨k15, h⟩ := h
    refine s_putI (v := ((sI σ13 404 o 0) + (1 : Int32))) F hR hS k15 (by decide) (C := RX7) (T := TX7) (N := 7) rfl nX7_keepAsAccepted_X7 tyX7 tyX7_ok nmX7 4 (by decide) mX7_keepAsAccepted_0 (Or.inl rfl) rfl rfl (f := 404) rfl rnd_8 dX7_keepAsAccepted_29 (fun σ16 eσ16 H locs hR hS => ?_)
    replace h := h σ16 eσ16
    exact s_vret F hR hS h hc dX7_keepAsAccepted_32
set_option maxHeartbeats 4000000 in
set_option maxRecDepth 100000 in
theorem kX7_keepAsAccepted (l : Launch) (Γ : rGam) (o : Nat) (p1 : Int32) (post : St → Prop) (σ0 : St) (h : wX7_keepAsAccepted o p1 post σ0) : Met l yX7_keepAsAccepted wsX7_keepAsAccepted rmX7_keepAsAccepted (rPc Γ vwCl [.ref o, .int p1] (Rep Γ σ0)) (va_Qv post (fun σ' t => Rep Γ σ' t.heap) (rA Γ)) 0 0 (rA Γ) := by
  refine Met.ofW (cc := cX7_keepAsAccepted) (maxL := 2) (ret := none) (by decide) rfl ?_
  intro p e s m args below meth c s₁ B hml hv
  obtain ⟨rfl, hR, hE⟩ := hv
  have F : Fx Γ p s m meth c _ cX7_keepAsAccepted 2 RX7 wsX7_keepAsAccepted none := ⟨⟨B.exec, B.bytes, hml, findClass_of_methodNamed B.named, atoms_spec (ws := wsX7_keepAsAccepted) B.pre⟩, hE, B.notSynchronized, B.returns⟩
  have hl := lv_entry ([.ref o, .int p1]) (n := 2) (Nat.le_of_ble_eq_true rfl)
  rw [lg_entry_eq]
  generalize (lg_sl ([.ref o, .int p1]) ++ List.replicate (2 - (lg_sl ([.ref o, .int p1])).length) Slot.unset).toArray = ls at hl ⊢
  have hl : lv_has ls 2 [(0, .ref o), (1, .int p1)] := hl
  exact bX7_keepAsAccepted F h hR va_S.rf hl ⟨Nat.le_refl 0, Nat.le_refl 0⟩
/-! X7_waitingInAll -/
theorem mX7_waitingInAll_0 : Cond.fieldLink RX7 10 "ClearingFiles" "banks" "Ljava/util/ArrayList;" ∈ wsX7_waitingInAll := by decide +kernel
theorem mX7_waitingInAll_1 : Cond.classLink RX7 52 "ClearingFiles$Bank" ∈ wsX7_waitingInAll := by decide +kernel
theorem mX7_waitingInAll_2 : Cond.fieldLink RX7 213 "ClearingFiles$Bank" "entries" "Ljava/util/ArrayList;" ∈ wsX7_waitingInAll := by decide +kernel
theorem nX7_waitingInAll_X7 : ∀ w ∈ u_ws RX7 TX7 7, w ∈ wsX7_waitingInAll := fun _ h => List.mem_cons_of_mem _ (List.mem_append_left _ (List.mem_append_left _ (List.mem_append_right _ h)))
theorem nX7_waitingInAll_X1 : ∀ w ∈ u_ws RX1 TX1 6, w ∈ wsX7_waitingInAll := fun _ h => List.mem_cons_of_mem _ (List.mem_append_left _ (List.mem_append_right _ h))
abbrev rmX7_waitingInAll : Room := { frames := 3, cells := 0, slots := 0, locals := 101 }
set_option maxRecDepth 100000 in
def wX7_waitingInAll_4 (o : Nat) (post : Int32 → St → Prop) : Nat → Int32 → Int32 → St → Prop
  | 0, _, _, _ => False
  | n + 1, x1, x2, σ0 =>
    sK σ0 o = 8 ∧ (∀ r4 : Option Nat, r4 = sR σ0 400 o 0 → (∃ a5 : Nat, r4 = some a5 ∧ (wL_size a5 (fun (x9 : Int32) (σ7 : St) => (x9 ≤ x2 → (post x1 σ7)) ∧ (¬ x9 ≤ x2 → (sK σ7 o = 8 ∧ (∀ r12 : Option Nat, r12 = sR σ7 400 o 0 → (∃ a13 : Nat, r12 = some a13 ∧ (wL_get a13 x2 (fun (r17 : Option Nat) (σ15 : St) => ∃ a18 : Nat, r17 = some a18 ∧ (sK σ15 a18 = 2 ∧ (sK σ15 a18 = 2 ∧ (∀ r21 : Option Nat, r21 = sR σ15 102 a18 0 → (∃ a22 : Nat, r21 = some a22 ∧ (wL_size a22 (fun (x26 : Int32) (σ24 : St) => ∀ x27 : Int32, x27 = (x1 + x26) → (∀ x29 : Int32, x29 = x2 + (1 : Int32) → (wX7_waitingInAll_4 o post n x27 x29 σ24))) σ15)))))) σ7)))))) σ0)))
set_option maxHeartbeats 4000000 in
set_option maxRecDepth 100000 in
theorem bX7_waitingInAll_4 {p : Program} {l : Launch} {e : Env} {s : State} {m : MethodId} {args : Array Value} {below : List Frame} {meth : Method} {c : Code} {Γ : rGam} {o : Nat} {post : Int32 → St → Prop} (F : Fx Γ p s m meth c args cX7_waitingInAll 3 RX7 wsX7_waitingInAll (some .int)) : ∀ (n : Nat) (x1 : Int32) (x2 : Int32) (σ0 : St) (H : Heap) (locs : List Loc) (ls : Array Slot) (cells slots : Nat), wX7_waitingInAll_4 o post n x1 x2 σ0 → Rep Γ σ0 H → va_S (rA Γ) s.heap H locs → lv_has ls 3 [(0, .ref o), (1, .int x1), (2, .int x2)] → cells ≤ 0 ∧ slots ≤ 0 → W p l e rmX7_waitingInAll s m args below meth c H locs cells slots (rQi Γ below post args s 0 0) (F0 m 4 ls []) := by
  have hx := F.1.1
  have hb := F.1.2.1
  intro n
  induction n with
  | zero =>
    intro x1 x2 σ0 H locs ls cells slots h
    exact absurd h (by unfold wX7_waitingInAll_4; exact id)
  | succ n ih =>
    intro x1 x2 σ0 H locs ls cells slots h hR hS hl hc
    unfold wX7_waitingInAll_4 at h
    refine lv_iload_n hx hb dX7_waitingInAll_4 rfl (lv_at hl 2 rfl) ?_
    refine lv_aload_n hx hb dX7_waitingInAll_5 rfl (lv_at hl 0 rfl) ?_
    obtain ⟨k3, h⟩ := h
    refine s_getR F hR k3 (by decide) (C := RX7) (T := TX7) (N := 7) rfl nX7_waitingInAll_X7 0 (by decide) mX7_waitingInAll_0 (f := 400) rfl dX7_waitingInAll_6 (fun r4 er4 => ?_)
    replace h := h r4 er4
    obtain ⟨a5, ea5, h⟩ := h
    subst ea5
    have k6 := h.1
    refine s_ci hS (k_runV F hR hS hl 0 [] (kL_size l Γ a5 _ _ h) gX7_waitingInAll_Jx4a65c_size_8abf5 rfl rfl rfl (by decide +kernel) ⟨Nat.le_of_ble_eq_true rfl, Nat.le_of_ble_eq_true rfl⟩ (s_recv F hR rfl (by omega) (C := RJx4a65c) (T := TJx4a65c) (N := 3) (by unfold rCi; rw [if_neg (by omega)]; rfl)) rfl (Nat.le_of_ble_eq_true rfl) dX7_waitingInAll_9 ⟨by show _ ≤ 0; omega, by show _ ≤ 0; omega⟩) (fun x9 σ7 H locs h8 hR hS => ?_)
    refine lv_icmp_ge (tgt := 41) hx hb dX7_waitingInAll_12 (by decide) (fun c10 => ?_) (fun c10 => ?_)
    · replace h8 := h8.1 c10
      refine lv_iload_n hx hb dX7_waitingInAll_41 rfl (lv_at hl 1 rfl) ?_
      exact s_iret F hR hS h8 hc dX7_waitingInAll_42
    · replace h8 := h8.2 c10
      refine lv_iload_n hx hb dX7_waitingInAll_15 rfl (lv_at hl 1 rfl) ?_
      refine lv_aload_n hx hb dX7_waitingInAll_16 rfl (lv_at hl 0 rfl) ?_
      obtain ⟨k11, h8⟩ := h8
      refine s_getR F hR k11 (by decide) (C := RX7) (T := TX7) (N := 7) rfl nX7_waitingInAll_X7 0 (by decide) mX7_waitingInAll_0 (f := 400) rfl dX7_waitingInAll_17 (fun r12 er12 => ?_)
      replace h8 := h8 r12 er12
      refine lv_iload_n hx hb dX7_waitingInAll_20 rfl (lv_at hl 2 rfl) ?_
      obtain ⟨a13, ea13, h8⟩ := h8
      subst ea13
      have k14 := h8.1
      refine s_cq hS (k_runV F hR hS hl 1 [.int x2] (kL_get l Γ a13 x2 _ _ h8) gX7_waitingInAll_Jx4a65c_get_915e3 rfl rfl rfl (by decide +kernel) ⟨Nat.le_of_ble_eq_true rfl, Nat.le_of_ble_eq_true rfl⟩ (s_recv F hR rfl (by omega) (C := RJx4a65c) (T := TJx4a65c) (N := 3) (by unfold rCi; rw [if_neg (by omega)]; rfl)) rfl (Nat.le_of_ble_eq_true rfl) dX7_waitingInAll_21 ⟨by show _ ≤ 0; omega, by show _ ≤ 0; omega⟩) (fun r17 σ15 H locs h16 hR hS => ?_)
      obtain ⟨a18, ea18, h16⟩ := h16
      subst ea18
      obtain ⟨k19, h16⟩ := h16
      refine s_cast F hR k19 (by decide) (T := TX1) (N := 6) rfl mX7_waitingInAll_1 dX7_waitingInAll_24 ?_
      obtain ⟨k20, h16⟩ := h16
      refine s_getR F hR k20 (by decide) (C := RX1) (T := TX1) (N := 6) rfl nX7_waitingInAll_X1 2 (by decide) mX7_waitingInAll_2 (f := 102) rfl dX7_waitingInAll_27 (fun r21 er21 => ?_)
      replace h16 := h16 r21 er21
      obtain ⟨a22, ea22, h16⟩ := h16
      subst ea22
      have k23 := h16.1
      refine s_ci hS (k_runV F hR hS hl 0 [] (kL_size l Γ a22 _ _ h16) gX7_waitingInAll_Jx4a65c_size_8abf5 rfl rfl rfl (by decide +kernel) ⟨Nat.le_of_ble_eq_true rfl, Nat.le_of_ble_eq_true rfl⟩ (s_recv F hR rfl (by omega) (C := RJx4a65c) (T := TJx4a65c) (N := 3) (by unfold rCi; rw [if_neg (by omega)]; rfl)) rfl (Nat.le_of_ble_eq_true rfl) dX7_waitingInAll_30 ⟨by show _ ≤ 0; omega, by show _ ≤ 0; omega⟩) (fun x26 σ24 H locs h25 hR hS => ?_)
      refine lv_iadd hx hb dX7_waitingInAll_33 ?_
      refine lv_topi (fun x27 ex27 => ?_)
      replace h25 := h25 x27 ex27
      refine s_istore_n (lk := [(0, .ref o)]) (lv' := [(1, .int x27), (0, .ref o), (2, .int x2)]) hx hb dX7_waitingInAll_34 rfl hl (by decide) rfl (lk_1 rfl) rfl (fun ls hl28 => ?_)
      obtain ⟨x29, ex29⟩ : ∃ x : Int32, x = x2 + (1 : Int32) := ⟨_, rfl⟩
      replace h25 := h25 x29 ex29
      refine s_iinc (v := x29) (d := 1) (lk := [(1, .int x27)]) (lv' := [(2, .int x29), (1, .int x27), (0, .ref o)]) hx hb dX7_waitingInAll_35 hl28 (k := 2) rfl (by decide) (by decide) rfl (lk_1 rfl) ex29 rfl (fun ls hl30 => ?_)
      refine lv_goto (tgt := 4) hx hb dX7_waitingInAll_38 (by decide) ?_
      exact ih x27 x29 σ24 _ _ _ _ _ h25 hR hS (lv_sub hl30 [2, 1, 0] rfl) hc

set_option maxRecDepth 100000 in
def wX7_waitingInAll (o : Nat)  (post : Int32 → St → Prop) (σ0 : St) : Prop :=
  ∃ n31 : Nat, wX7_waitingInAll_4 o post n31 (0 : Int32) (0 : Int32) σ0
set_option maxHeartbeats 4000000 in
set_option maxRecDepth 100000 in
theorem bX7_waitingInAll {p : Program} {l : Launch} {e : Env} {s : State} {m : MethodId} {args : Array Value} {below : List Frame} {meth : Method} {c : Code} {Γ : rGam} {o : Nat} {post : Int32 → St → Prop} (F : Fx Γ p s m meth c args cX7_waitingInAll 3 RX7 wsX7_waitingInAll (some .int)) {H : Heap} {locs : List Loc} {ls : Array Slot} {cells slots : Nat}  {σ0 : St} (h : wX7_waitingInAll o  post σ0) (hR : Rep Γ σ0 H) (hS : va_S (rA Γ) s.heap H locs) (hl : lv_has ls 3 [(0, .ref o)]) (hc : cells ≤ 0 ∧ slots ≤ 0) : W p l e rmX7_waitingInAll s m args below meth c H locs cells slots (rQi Γ below post args s 0 0) (F0 m 0 ls []) := by
  have hx := F.1.1
  have hb := F.1.2.1
  unfold wX7_waitingInAll at h
  refine lv_iconst (v := 0) hx hb dX7_waitingInAll_0 (by decide) ?_
  refine s_istore_n (lk := [(0, .ref o)]) (lv' := [(1, .int (0 : Int32)), (0, .ref o)]) hx hb dX7_waitingInAll_1 rfl hl (by decide) rfl (lk_1 rfl) rfl (fun ls hl1 => ?_)
  refine lv_iconst (v := 0) hx hb dX7_waitingInAll_2 (by decide) ?_
  refine s_istore_n (lk := [(1, .int (0 : Int32))]) (lv' := [(2, .int (0 : Int32)), (1, .int (0 : Int32)), (0, .ref o)]) hx hb dX7_waitingInAll_3 rfl hl1 (by decide) rfl (lk_1 rfl) rfl (fun ls hl2 => ?_)
  obtain ⟨n31, h⟩ := h
  exact bX7_waitingInAll_4 F n31 (0 : Int32) (0 : Int32) σ0 _ _ _ _ _ h hR hS (lv_sub hl2 [2, 1, 0] rfl) hc
set_option maxHeartbeats 4000000 in
set_option maxRecDepth 100000 in
theorem kX7_waitingInAll (l : Launch) (Γ : rGam) (o : Nat)  (post : Int32 → St → Prop) (σ0 : St) (h : wX7_waitingInAll o  post σ0) : Met l yX7_waitingInAll wsX7_waitingInAll rmX7_waitingInAll (rPc Γ vwCl [.ref o] (Rep Γ σ0)) (va_Qi post (fun σ' t => Rep Γ σ' t.heap) (rA Γ)) 0 0 (rA Γ) := by
  refine Met.ofW (cc := cX7_waitingInAll) (maxL := 3) (ret := (some .int)) (by decide) rfl ?_
  intro p e s m args below meth c s₁ B hml hv
  obtain ⟨rfl, hR, hE⟩ := hv
  have F : Fx Γ p s m meth c _ cX7_waitingInAll 3 RX7 wsX7_waitingInAll (some .int) := ⟨⟨B.exec, B.bytes, hml, findClass_of_methodNamed B.named, atoms_spec (ws := wsX7_waitingInAll) B.pre⟩, hE, B.notSynchronized, B.returns⟩
  have hl := lv_entry ([.ref o]) (n := 3) (Nat.le_of_ble_eq_true rfl)
  rw [lg_entry_eq]
  generalize (lg_sl ([.ref o]) ++ List.replicate (3 - (lg_sl ([.ref o])).length) Slot.unset).toArray = ls at hl ⊢
  have hl : lv_has ls 3 [(0, .ref o)] := hl
  exact bX7_waitingInAll F h hR va_S.rf hl ⟨Nat.le_refl 0, Nat.le_refl 0⟩
/-! X7_reasonAgainstEntry -/
theorem mX7_reasonAgainstEntry_0 : Cond.fieldLink RX7 254 "ClearingFiles$Entry" "routing" "I" ∈ wsX7_reasonAgainstEntry := by decide +kernel
theorem mX7_reasonAgainstEntry_1 : Cond.fieldLink RX7 160 "ClearingFiles$Entry" "receiver" "LClearingFiles$Bank;" ∈ wsX7_reasonAgainstEntry := by decide +kernel
theorem mX7_reasonAgainstEntry_2 : Cond.fieldLink RX7 157 "ClearingFiles$Entry" "code" "I" ∈ wsX7_reasonAgainstEntry := by decide +kernel
theorem mX7_reasonAgainstEntry_3 : Cond.fieldLink RX7 173 "ClearingFiles$Entry" "amount" "I" ∈ wsX7_reasonAgainstEntry := by decide +kernel
theorem nX7_reasonAgainstEntry_X3 : ∀ w ∈ u_ws RX3 TX3 9, w ∈ wsX7_reasonAgainstEntry := fun _ h => List.mem_cons_of_mem _ (List.mem_append_right _ h)
abbrev rmX7_reasonAgainstEntry : Room := { frames := 1, cells := 0, slots := 0, locals := 24 }
set_option maxRecDepth 100000 in
def wX7_reasonAgainstEntry_44 (post : Int32 → St → Prop) (r0 : Option Nat) (σ0 : St) : Prop :=
  ∃ a12 : Nat, r0 = some a12 ∧ (sK σ0 a12 = 4 ∧ (((sI σ0 203 a12 0) = 0 → (post (33 : Int32) σ0)) ∧ (¬ (sI σ0 203 a12 0) = 0 → (post (0 : Int32) σ0))))
set_option maxHeartbeats 4000000 in
set_option maxRecDepth 100000 in
theorem bX7_reasonAgainstEntry_44 {p : Program} {l : Launch} {e : Env} {s : State} {m : MethodId} {args : Array Value} {below : List Frame} {meth : Method} {c : Code} {Γ : rGam} {post : Int32 → St → Prop} (F : Fx Γ p s m meth c args cX7_reasonAgainstEntry 1 RX7 wsX7_reasonAgainstEntry (some .int)) {H : Heap} {locs : List Loc} {ls : Array Slot} {cells slots : Nat} {r0 : Option Nat} {σ0 : St} (h : wX7_reasonAgainstEntry_44 post r0 σ0) (hR : Rep Γ σ0 H) (hS : va_S (rA Γ) s.heap H locs) (hl : lv_has ls 1 [(0, va_rf r0)]) (hc : cells ≤ 0 ∧ slots ≤ 0) : W p l e rmX7_reasonAgainstEntry s m args below meth c H locs cells slots (rQi Γ below post args s 0 0) (F0 m 44 ls []) := by
  have hx := F.1.1
  have hb := F.1.2.1
  unfold wX7_reasonAgainstEntry_44 at h
  refine s_aload_n hx hb dX7_reasonAgainstEntry_44 rfl (lv_at hl 0 rfl) ?_
  obtain ⟨a12, ea12, h⟩ := h
  subst ea12
  obtain ⟨k13, h⟩ := h
  refine s_getI F hR k13 (by decide) (C := RX3) (T := TX3) (N := 9) rfl nX7_reasonAgainstEntry_X3 3 (by decide) mX7_reasonAgainstEntry_3 (f := 203) rfl dX7_reasonAgainstEntry_45 ?_
  refine lv_if_ne (tgt := 56) hx hb dX7_reasonAgainstEntry_48 (by decide) (fun c14 => ?_) (fun c14 => ?_)
  · replace h := h.2 c14
    refine lv_iconst (v := 0) hx hb dX7_reasonAgainstEntry_56 (by decide) ?_
    exact s_iret F hR hS h hc dX7_reasonAgainstEntry_57
  · replace h := h.1 c14
    refine lv_bipush (v := 33) hx hb dX7_reasonAgainstEntry_51 (by decide) ?_
    refine lv_goto (tgt := 57) hx hb dX7_reasonAgainstEntry_53 (by decide) ?_
    exact s_iret F hR hS h hc dX7_reasonAgainstEntry_57

set_option maxRecDepth 100000 in
def wX7_reasonAgainstEntry (p1 : Option Nat) (post : Int32 → St → Prop) (σ0 : St) : Prop :=
  ∃ a1 : Nat, p1 = some a1 ∧ (sK σ0 a1 = 4 ∧ (wX7_isRight (sI σ0 201 a1 0) (4 : Int32) (fun (x5 : Int32) (σ3 : St) => (x5 = 0 → (post (30 : Int32) σ3)) ∧ (¬ x5 = 0 → (sK σ3 a1 = 4 ∧ (∀ r8 : Option Nat, r8 = sR σ3 207 a1 0 → ((r8 = none → (post (31 : Int32) σ3)) ∧ (¬ r8 = none → (sK σ3 a1 = 4 ∧ (((sI σ3 200 a1 0) = (2 : Int32) → (wX7_reasonAgainstEntry_44 post (some a1) σ3)) ∧ (¬ (sI σ3 200 a1 0) = (2 : Int32) → (sK σ3 a1 = 4 ∧ (((sI σ3 200 a1 0) = (7 : Int32) → (wX7_reasonAgainstEntry_44 post (some a1) σ3)) ∧ (¬ (sI σ3 200 a1 0) = (7 : Int32) → (post (32 : Int32) σ3))))))))))))) σ0))
set_option maxHeartbeats 4000000 in
set_option maxRecDepth 100000 in
theorem bX7_reasonAgainstEntry {p : Program} {l : Launch} {e : Env} {s : State} {m : MethodId} {args : Array Value} {below : List Frame} {meth : Method} {c : Code} {Γ : rGam} {post : Int32 → St → Prop} (F : Fx Γ p s m meth c args cX7_reasonAgainstEntry 1 RX7 wsX7_reasonAgainstEntry (some .int)) {H : Heap} {locs : List Loc} {ls : Array Slot} {cells slots : Nat} {p1 : Option Nat} {σ0 : St} (h : wX7_reasonAgainstEntry p1 post σ0) (hR : Rep Γ σ0 H) (hS : va_S (rA Γ) s.heap H locs) (hl : lv_has ls 1 [(0, va_rf p1)]) (hc : cells ≤ 0 ∧ slots ≤ 0) : W p l e rmX7_reasonAgainstEntry s m args below meth c H locs cells slots (rQi Γ below post args s 0 0) (F0 m 0 ls []) := by
  have hx := F.1.1
  have hb := F.1.2.1
  unfold wX7_reasonAgainstEntry at h
  refine s_aload_n hx hb dX7_reasonAgainstEntry_0 rfl (lv_at hl 0 rfl) ?_
  obtain ⟨a1, ea1, h⟩ := h
  subst ea1
  obtain ⟨k2, h⟩ := h
  refine s_getI F hR k2 (by decide) (C := RX3) (T := TX3) (N := 9) rfl nX7_reasonAgainstEntry_X3 1 (by decide) mX7_reasonAgainstEntry_0 (f := 201) rfl dX7_reasonAgainstEntry_1 ?_
  refine lv_iconst (v := 4) hx hb dX7_reasonAgainstEntry_4 (by decide) ?_
  refine s_ci hS (k_runS F hR hS hl 2 [.int (sI σ0 201 a1 0), .int (4 : Int32)] (kX7_isRight l Γ (sI σ0 201 a1 0) (4 : Int32) _ _ h) gX7_reasonAgainstEntry_X7_isRight rfl rfl rfl (by decide +kernel) ⟨Nat.le_of_ble_eq_true rfl, Nat.le_of_ble_eq_true rfl⟩ rfl (Nat.le_of_ble_eq_true rfl) dX7_reasonAgainstEntry_5 ⟨by show _ ≤ 0; omega, by show _ ≤ 0; omega⟩) (fun x5 σ3 H locs h4 hR hS => ?_)
  refine lv_if_ne (tgt := 14) hx hb dX7_reasonAgainstEntry_8 (by decide) (fun c6 => ?_) (fun c6 => ?_)
  · replace h4 := h4.2 c6
    refine lv_aload_n hx hb dX7_reasonAgainstEntry_14 rfl (lv_at hl 0 rfl) ?_
    obtain ⟨k7, h4⟩ := h4
    refine s_getR F hR k7 (by decide) (C := RX3) (T := TX3) (N := 9) rfl nX7_reasonAgainstEntry_X3 7 (by decide) mX7_reasonAgainstEntry_1 (f := 207) rfl dX7_reasonAgainstEntry_15 (fun r8 er8 => ?_)
    replace h4 := h4 r8 er8
    refine s_ifnonnull (r := r8) hx hb dX7_reasonAgainstEntry_18 (tgt := 24) (by decide) (fun c9 => ?_) (fun c9 => ?_)
    · replace h4 := h4.2 c9
      refine lv_aload_n hx hb dX7_reasonAgainstEntry_24 rfl (lv_at hl 0 rfl) ?_
      obtain ⟨k10, h4⟩ := h4
      refine s_getI F hR k10 (by decide) (C := RX3) (T := TX3) (N := 9) rfl nX7_reasonAgainstEntry_X3 0 (by decide) mX7_reasonAgainstEntry_2 (f := 200) rfl dX7_reasonAgainstEntry_25 ?_
      refine lv_iconst (v := 2) hx hb dX7_reasonAgainstEntry_28 (by decide) ?_
      refine lv_icmp_eq (tgt := 44) hx hb dX7_reasonAgainstEntry_29 (by decide) (fun c11 => ?_) (fun c11 => ?_)
      · replace h4 := h4.1 c11
        exact bX7_reasonAgainstEntry_44 F h4 hR hS (lv_sub hl [0] rfl) hc
      · replace h4 := h4.2 c11
        refine lv_aload_n hx hb dX7_reasonAgainstEntry_32 rfl (lv_at hl 0 rfl) ?_
        obtain ⟨k15, h4⟩ := h4
        refine s_getI F hR k15 (by decide) (C := RX3) (T := TX3) (N := 9) rfl nX7_reasonAgainstEntry_X3 0 (by decide) mX7_reasonAgainstEntry_2 (f := 200) rfl dX7_reasonAgainstEntry_33 ?_
        refine lv_bipush (v := 7) hx hb dX7_reasonAgainstEntry_36 (by decide) ?_
        refine lv_icmp_eq (tgt := 44) hx hb dX7_reasonAgainstEntry_38 (by decide) (fun c16 => ?_) (fun c16 => ?_)
        · replace h4 := h4.1 c16
          exact bX7_reasonAgainstEntry_44 F h4 hR hS (lv_sub hl [0] rfl) hc
        · replace h4 := h4.2 c16
          refine lv_bipush (v := 32) hx hb dX7_reasonAgainstEntry_41 (by decide) ?_
          exact s_iret F hR hS h4 hc dX7_reasonAgainstEntry_43
    · replace h4 := h4.1 c9
      refine lv_bipush (v := 31) hx hb dX7_reasonAgainstEntry_21 (by decide) ?_
      exact s_iret F hR hS h4 hc dX7_reasonAgainstEntry_23
  · replace h4 := h4.1 c6
    refine lv_bipush (v := 30) hx hb dX7_reasonAgainstEntry_11 (by decide) ?_
    exact s_iret F hR hS h4 hc dX7_reasonAgainstEntry_13
set_option maxHeartbeats 4000000 in
set_option maxRecDepth 100000 in
theorem kX7_reasonAgainstEntry (l : Launch) (Γ : rGam) (p1 : Option Nat) (post : Int32 → St → Prop) (σ0 : St) (h : wX7_reasonAgainstEntry p1 post σ0) : Met l yX7_reasonAgainstEntry wsX7_reasonAgainstEntry rmX7_reasonAgainstEntry (rPc Γ vwCl [va_rf p1] (Rep Γ σ0)) (va_Qi post (fun σ' t => Rep Γ σ' t.heap) (rA Γ)) 0 0 (rA Γ) := by
  rcases p1 with _ | p1v
  · refine Met.ofW (cc := cX7_reasonAgainstEntry) (maxL := 1) (ret := (some .int)) (by decide) rfl ?_
    intro p e s m args below meth c s₁ B hml hv
    obtain ⟨rfl, hR, hE⟩ := hv
    have F : Fx Γ p s m meth c _ cX7_reasonAgainstEntry 1 RX7 wsX7_reasonAgainstEntry (some .int) := ⟨⟨B.exec, B.bytes, hml, findClass_of_methodNamed B.named, atoms_spec (ws := wsX7_reasonAgainstEntry) B.pre⟩, hE, B.notSynchronized, B.returns⟩
    have hl := lv_entry ([va_rf none]) (n := 1) (Nat.le_of_ble_eq_true rfl)
    rw [lg_entry_eq]
    generalize (lg_sl ([va_rf none]) ++ List.replicate (1 - (lg_sl ([va_rf none])).length) Slot.unset).toArray = ls at hl ⊢
    have hl : lv_has ls 1 [(0, va_rf none)] := hl
    exact bX7_reasonAgainstEntry F h hR va_S.rf hl ⟨Nat.le_refl 0, Nat.le_refl 0⟩
  · refine Met.ofW (cc := cX7_reasonAgainstEntry) (maxL := 1) (ret := (some .int)) (by decide) rfl ?_
    intro p e s m args below meth c s₁ B hml hv
    obtain ⟨rfl, hR, hE⟩ := hv
    have F : Fx Γ p s m meth c _ cX7_reasonAgainstEntry 1 RX7 wsX7_reasonAgainstEntry (some .int) := ⟨⟨B.exec, B.bytes, hml, findClass_of_methodNamed B.named, atoms_spec (ws := wsX7_reasonAgainstEntry) B.pre⟩, hE, B.notSynchronized, B.returns⟩
    have hl := lv_entry ([va_rf (some p1v)]) (n := 1) (Nat.le_of_ble_eq_true rfl)
    rw [lg_entry_eq]
    generalize (lg_sl ([va_rf (some p1v)]) ++ List.replicate (1 - (lg_sl ([va_rf (some p1v)])).length) Slot.unset).toArray = ls at hl ⊢
    have hl : lv_has ls 1 [(0, va_rf (some p1v))] := hl
    exact bX7_reasonAgainstEntry F h hR va_S.rf hl ⟨Nat.le_refl 0, Nat.le_refl 0⟩
/-! X7_reasonAgainstBatch -/
theorem mX7_reasonAgainstBatch_0 : Cond.fieldLink RX7 306 "ClearingFiles$Batch" "originator" "I" ∈ wsX7_reasonAgainstBatch := by decide +kernel
theorem mX7_reasonAgainstBatch_1 : Cond.fieldLink RX7 305 "ClearingFiles$Batch" "number" "I" ∈ wsX7_reasonAgainstBatch := by decide +kernel
theorem mX7_reasonAgainstBatch_2 : Cond.fieldLink RX7 308 "ClearingFiles$Batch" "day" "I" ∈ wsX7_reasonAgainstBatch := by decide +kernel
theorem mX7_reasonAgainstBatch_3 : Cond.fieldLink RX7 37 "ClearingFiles" "today" "I" ∈ wsX7_reasonAgainstBatch := by decide +kernel
theorem mX7_reasonAgainstBatch_4 : Cond.fieldLink RX7 264 "ClearingFiles$Batch" "controlHolds" "Z" ∈ wsX7_reasonAgainstBatch := by decide +kernel
theorem mX7_reasonAgainstBatch_5 : Cond.fieldLink RX7 311 "ClearingFiles$Batch" "tracesGrow" "Z" ∈ wsX7_reasonAgainstBatch := by decide +kernel
theorem nX7_reasonAgainstBatch_X2 : ∀ w ∈ u_ws RX2 TX2 9, w ∈ wsX7_reasonAgainstBatch := fun _ h => List.mem_cons_of_mem _ (List.mem_append_left _ (List.mem_append_left _ (List.mem_append_left _ (List.mem_append_right _ h))))
theorem nX7_reasonAgainstBatch_X7 : ∀ w ∈ u_ws RX7 TX7 7, w ∈ wsX7_reasonAgainstBatch := fun _ h => List.mem_cons_of_mem _ (List.mem_append_left _ (List.mem_append_left _ (List.mem_append_right _ h)))
abbrev rmX7_reasonAgainstBatch : Room := { frames := 4, cells := 0, slots := 0, locals := 123 }
set_option maxRecDepth 100000 in
def wX7_reasonAgainstBatch (o : Nat) (p1 : Option Nat) (p2 : Int32) (post : Int32 → St → Prop) (σ0 : St) : Prop :=
  ∃ a1 : Nat, p1 = some a1 ∧ (sK σ0 a1 = 3 ∧ (sK σ0 o = 8 ∧ (wX7_bankWithRouting o (sI σ0 152 a1 0) (fun (r6 : Option Nat) (σ4 : St) => (r6 = none → (post (20 : Int32) σ4)) ∧ (¬ r6 = none → (sK σ4 a1 = 3 ∧ ((p2 < (sI σ4 153 a1 0) → (sK σ4 a1 = 3 ∧ (sK σ4 o = 8 ∧ (((sI σ4 406 o 0) ≤ (sI σ4 154 a1 0) → (sK σ4 a1 = 3 ∧ (((sI σ4 157 a1 0) = 0 → (post (23 : Int32) σ4)) ∧ (¬ (sI σ4 157 a1 0) = 0 → (sK σ4 a1 = 3 ∧ (((sI σ4 156 a1 0) = 0 → (post (24 : Int32) σ4)) ∧ (¬ (sI σ4 156 a1 0) = 0 → (post (0 : Int32) σ4)))))))) ∧ (¬ (sI σ4 406 o 0) ≤ (sI σ4 154 a1 0) → (post (22 : Int32) σ4)))))) ∧ (¬ p2 < (sI σ4 153 a1 0) → (post (21 : Int32) σ4)))))) σ0)))
set_option maxHeartbeats 4000000 in
set_option maxRecDepth 100000 in
theorem bX7_reasonAgainstBatch {p : Program} {l : Launch} {e : Env} {s : State} {m : MethodId} {args : Array Value} {below : List Frame} {meth : Method} {c : Code} {Γ : rGam} {o : Nat} {post : Int32 → St → Prop} (F : Fx Γ p s m meth c args cX7_reasonAgainstBatch 3 RX7 wsX7_reasonAgainstBatch (some .int)) {H : Heap} {locs : List Loc} {ls : Array Slot} {cells slots : Nat} {p1 : Option Nat} {p2 : Int32} {σ0 : St} (h : wX7_reasonAgainstBatch o p1 p2 post σ0) (hR : Rep Γ σ0 H) (hS : va_S (rA Γ) s.heap H locs) (hl : lv_has ls 3 [(0, .ref o), (1, va_rf p1), (2, .int p2)]) (hc : cells ≤ 0 ∧ slots ≤ 0) : W p l e rmX7_reasonAgainstBatch s m args below meth c H locs cells slots (rQi Γ below post args s 0 0) (F0 m 0 ls []) := by
  have hx := F.1.1
  have hb := F.1.2.1
  unfold wX7_reasonAgainstBatch at h
  refine lv_aload_n hx hb dX7_reasonAgainstBatch_0 rfl (lv_at hl 0 rfl) ?_
  refine s_aload_n hx hb dX7_reasonAgainstBatch_1 rfl (lv_at hl 1 rfl) ?_
  obtain ⟨a1, ea1, h⟩ := h
  subst ea1
  obtain ⟨k2, h⟩ := h
  refine s_getI F hR k2 (by decide) (C := RX2) (T := TX2) (N := 9) rfl nX7_reasonAgainstBatch_X2 2 (by decide) mX7_reasonAgainstBatch_0 (f := 152) rfl dX7_reasonAgainstBatch_2 ?_
  obtain ⟨k3, h⟩ := h
  refine s_cq hS (k_runV F hR hS hl 1 [.int (sI σ0 152 a1 0)] (kX7_bankWithRouting l Γ o (sI σ0 152 a1 0) _ _ h) gX7_reasonAgainstBatch_X7_bankWithRouting rfl rfl rfl (by decide +kernel) ⟨Nat.le_of_ble_eq_true rfl, Nat.le_of_ble_eq_true rfl⟩ (s_recv F hR k3 (by decide) (C := RX7) (T := TX7) (N := 7) rfl) rfl (Nat.le_of_ble_eq_true rfl) dX7_reasonAgainstBatch_5 ⟨by show _ ≤ 0; omega, by show _ ≤ 0; omega⟩) (fun r6 σ4 H locs h5 hR hS => ?_)
  refine s_ifnonnull (r := r6) hx hb dX7_reasonAgainstBatch_8 (tgt := 14) (by decide) (fun c7 => ?_) (fun c7 => ?_)
  · replace h5 := h5.2 c7
    refine lv_aload_n hx hb dX7_reasonAgainstBatch_14 rfl (lv_at hl 1 rfl) ?_
    obtain ⟨k8, h5⟩ := h5
    refine s_getI F hR k8 (by decide) (C := RX2) (T := TX2) (N := 9) rfl nX7_reasonAgainstBatch_X2 3 (by decide) mX7_reasonAgainstBatch_1 (f := 153) rfl dX7_reasonAgainstBatch_15 ?_
    refine lv_iload_n hx hb dX7_reasonAgainstBatch_18 rfl (lv_at hl 2 rfl) ?_
    refine lv_icmp_gt (tgt := 25) hx hb dX7_reasonAgainstBatch_19 (by decide) (fun c9 => ?_) (fun c9 => ?_)
    · replace h5 := h5.1 c9
      refine lv_aload_n hx hb dX7_reasonAgainstBatch_25 rfl (lv_at hl 1 rfl) ?_
      obtain ⟨k10, h5⟩ := h5
      refine s_getI F hR k10 (by decide) (C := RX2) (T := TX2) (N := 9) rfl nX7_reasonAgainstBatch_X2 4 (by decide) mX7_reasonAgainstBatch_2 (f := 154) rfl dX7_reasonAgainstBatch_26 ?_
      refine lv_aload_n hx hb dX7_reasonAgainstBatch_29 rfl (lv_at hl 0 rfl) ?_
      obtain ⟨k11, h5⟩ := h5
      refine s_getI F hR k11 (by decide) (C := RX7) (T := TX7) (N := 7) rfl nX7_reasonAgainstBatch_X7 6 (by decide) mX7_reasonAgainstBatch_3 (f := 406) rfl dX7_reasonAgainstBatch_30 ?_
      refine lv_icmp_ge (tgt := 39) hx hb dX7_reasonAgainstBatch_33 (by decide) (fun c12 => ?_) (fun c12 => ?_)
      · replace h5 := h5.1 c12
        refine lv_aload_n hx hb dX7_reasonAgainstBatch_39 rfl (lv_at hl 1 rfl) ?_
        obtain ⟨k13, h5⟩ := h5
        refine s_getI F hR k13 (by decide) (C := RX2) (T := TX2) (N := 9) rfl nX7_reasonAgainstBatch_X2 7 (by decide) mX7_reasonAgainstBatch_4 (f := 157) rfl dX7_reasonAgainstBatch_40 ?_
        refine lv_if_ne (tgt := 49) hx hb dX7_reasonAgainstBatch_43 (by decide) (fun c14 => ?_) (fun c14 => ?_)
        · replace h5 := h5.2 c14
          refine lv_aload_n hx hb dX7_reasonAgainstBatch_49 rfl (lv_at hl 1 rfl) ?_
          obtain ⟨k15, h5⟩ := h5
          refine s_getI F hR k15 (by decide) (C := RX2) (T := TX2) (N := 9) rfl nX7_reasonAgainstBatch_X2 6 (by decide) mX7_reasonAgainstBatch_5 (f := 156) rfl dX7_reasonAgainstBatch_50 ?_
          refine lv_if_eq (tgt := 60) hx hb dX7_reasonAgainstBatch_53 (by decide) (fun c16 => ?_) (fun c16 => ?_)
          · replace h5 := h5.1 c16
            refine lv_bipush (v := 24) hx hb dX7_reasonAgainstBatch_60 (by decide) ?_
            exact s_iret F hR hS h5 hc dX7_reasonAgainstBatch_62
          · replace h5 := h5.2 c16
            refine lv_iconst (v := 0) hx hb dX7_reasonAgainstBatch_56 (by decide) ?_
            refine lv_goto (tgt := 62) hx hb dX7_reasonAgainstBatch_57 (by decide) ?_
            exact s_iret F hR hS h5 hc dX7_reasonAgainstBatch_62
        · replace h5 := h5.1 c14
          refine lv_bipush (v := 23) hx hb dX7_reasonAgainstBatch_46 (by decide) ?_
          exact s_iret F hR hS h5 hc dX7_reasonAgainstBatch_48
      · replace h5 := h5.2 c12
        refine lv_bipush (v := 22) hx hb dX7_reasonAgainstBatch_36 (by decide) ?_
        exact s_iret F hR hS h5 hc dX7_reasonAgainstBatch_38
    · replace h5 := h5.2 c9
      refine lv_bipush (v := 21) hx hb dX7_reasonAgainstBatch_22 (by decide) ?_
      exact s_iret F hR hS h5 hc dX7_reasonAgainstBatch_24
  · replace h5 := h5.1 c7
    refine lv_bipush (v := 20) hx hb dX7_reasonAgainstBatch_11 (by decide) ?_
    exact s_iret F hR hS h5 hc dX7_reasonAgainstBatch_13
set_option maxHeartbeats 4000000 in
set_option maxRecDepth 100000 in
theorem kX7_reasonAgainstBatch (l : Launch) (Γ : rGam) (o : Nat) (p1 : Option Nat) (p2 : Int32) (post : Int32 → St → Prop) (σ0 : St) (h : wX7_reasonAgainstBatch o p1 p2 post σ0) : Met l yX7_reasonAgainstBatch wsX7_reasonAgainstBatch rmX7_reasonAgainstBatch (rPc Γ vwCl [.ref o, va_rf p1, .int p2] (Rep Γ σ0)) (va_Qi post (fun σ' t => Rep Γ σ' t.heap) (rA Γ)) 0 0 (rA Γ) := by
  rcases p1 with _ | p1v
  · refine Met.ofW (cc := cX7_reasonAgainstBatch) (maxL := 3) (ret := (some .int)) (by decide) rfl ?_
    intro p e s m args below meth c s₁ B hml hv
    obtain ⟨rfl, hR, hE⟩ := hv
    have F : Fx Γ p s m meth c _ cX7_reasonAgainstBatch 3 RX7 wsX7_reasonAgainstBatch (some .int) := ⟨⟨B.exec, B.bytes, hml, findClass_of_methodNamed B.named, atoms_spec (ws := wsX7_reasonAgainstBatch) B.pre⟩, hE, B.notSynchronized, B.returns⟩
    have hl := lv_entry ([.ref o, va_rf none, .int p2]) (n := 3) (Nat.le_of_ble_eq_true rfl)
    rw [lg_entry_eq]
    generalize (lg_sl ([.ref o, va_rf none, .int p2]) ++ List.replicate (3 - (lg_sl ([.ref o, va_rf none, .int p2])).length) Slot.unset).toArray = ls at hl ⊢
    have hl : lv_has ls 3 [(0, .ref o), (1, va_rf none), (2, .int p2)] := hl
    exact bX7_reasonAgainstBatch F h hR va_S.rf hl ⟨Nat.le_refl 0, Nat.le_refl 0⟩
  · refine Met.ofW (cc := cX7_reasonAgainstBatch) (maxL := 3) (ret := (some .int)) (by decide) rfl ?_
    intro p e s m args below meth c s₁ B hml hv
    obtain ⟨rfl, hR, hE⟩ := hv
    have F : Fx Γ p s m meth c _ cX7_reasonAgainstBatch 3 RX7 wsX7_reasonAgainstBatch (some .int) := ⟨⟨B.exec, B.bytes, hml, findClass_of_methodNamed B.named, atoms_spec (ws := wsX7_reasonAgainstBatch) B.pre⟩, hE, B.notSynchronized, B.returns⟩
    have hl := lv_entry ([.ref o, va_rf (some p1v), .int p2]) (n := 3) (Nat.le_of_ble_eq_true rfl)
    rw [lg_entry_eq]
    generalize (lg_sl ([.ref o, va_rf (some p1v), .int p2]) ++ List.replicate (3 - (lg_sl ([.ref o, va_rf (some p1v), .int p2])).length) Slot.unset).toArray = ls at hl ⊢
    have hl : lv_has ls 3 [(0, .ref o), (1, va_rf (some p1v)), (2, .int p2)] := hl
    exact bX7_reasonAgainstBatch F h hR va_S.rf hl ⟨Nat.le_refl 0, Nat.le_refl 0⟩
/-! X7_judgeEntries -/
theorem mX7_judgeEntries_0 : Cond.fieldLink RX7 314 "ClearingFiles$Batch" "entries" "Ljava/util/ArrayList;" ∈ wsX7_judgeEntries := by decide +kernel
theorem mX7_judgeEntries_1 : Cond.classLink RX7 151 "ClearingFiles$Entry" ∈ wsX7_judgeEntries := by decide +kernel
theorem mX7_judgeEntries_2 : Cond.fieldLink RX7 308 "ClearingFiles$Batch" "day" "I" ∈ wsX7_judgeEntries := by decide +kernel
theorem mX7_judgeEntries_3 : Cond.fieldLink RX7 315 "ClearingFiles$Entry" "day" "I" ∈ wsX7_judgeEntries := by decide +kernel
theorem mX7_judgeEntries_4 : Cond.fieldLink RX7 306 "ClearingFiles$Batch" "originator" "I" ∈ wsX7_judgeEntries := by decide +kernel
theorem mX7_judgeEntries_5 : Cond.fieldLink RX7 167 "ClearingFiles$Entry" "originator" "LClearingFiles$Bank;" ∈ wsX7_judgeEntries := by decide +kernel
theorem mX7_judgeEntries_6 : Cond.fieldLink RX7 254 "ClearingFiles$Entry" "routing" "I" ∈ wsX7_judgeEntries := by decide +kernel
theorem mX7_judgeEntries_7 : Cond.fieldLink RX7 160 "ClearingFiles$Entry" "receiver" "LClearingFiles$Bank;" ∈ wsX7_judgeEntries := by decide +kernel
theorem mX7_judgeEntries_8 : Cond.fieldLink RX7 179 "ClearingFiles$Entry" "reason" "I" ∈ wsX7_judgeEntries := by decide +kernel
theorem nX7_judgeEntries_X2 : ∀ w ∈ u_ws RX2 TX2 9, w ∈ wsX7_judgeEntries := fun _ h => List.mem_cons_of_mem _ (List.mem_append_left _ (List.mem_append_left _ (List.mem_append_left _ (List.mem_append_left _ (List.mem_append_right _ h)))))
theorem nX7_judgeEntries_X3 : ∀ w ∈ u_ws RX3 TX3 9, w ∈ wsX7_judgeEntries := fun _ h => List.mem_cons_of_mem _ (List.mem_append_left _ (List.mem_append_left _ (List.mem_append_left _ (List.mem_append_right _ h))))
abbrev rmX7_judgeEntries : Room := { frames := 4, cells := 0, slots := 0, locals := 123 }
set_option maxRecDepth 100000 in
def wX7_judgeEntries_4 (o : Nat) (post : Int32 → St → Prop) : Nat → Option Nat → Int32 → Int32 → St → Prop
  | 0, _, _, _, _ => False
  | n + 1, r1, x2, x3, σ0 =>
    ∃ a3 : Nat, r1 = some a3 ∧ (sK σ0 a3 = 3 ∧ (∀ r5 : Option Nat, r5 = sR σ0 150 a3 0 → (∃ a6 : Nat, r5 = some a6 ∧ (wL_size a6 (fun (x10 : Int32) (σ8 : St) => (x10 ≤ x3 → (post x2 σ8)) ∧ (¬ x10 ≤ x3 → (sK σ8 a3 = 3 ∧ (∀ r13 : Option Nat, r13 = sR σ8 150 a3 0 → (∃ a14 : Nat, r13 = some a14 ∧ (wL_get a14 x3 (fun (r18 : Option Nat) (σ16 : St) => ∃ a19 : Nat, r18 = some a19 ∧ (sK σ16 a19 = 4 ∧ (sK σ16 a3 = 3 ∧ (sK σ16 a19 = 4 ∧ (∀ σ24 : St, σ24 = uI σ16 205 a19 0 (sI σ16 154 a3 0) → (sK σ24 a3 = 3 ∧ (sK σ24 o = 8 ∧ (wX7_bankWithRouting o (sI σ24 152 a3 0) (fun (r29 : Option Nat) (σ27 : St) => sK σ27 a19 = 4 ∧ (∀ σ31 : St, σ31 = uR σ27 206 a19 0 r29 → (sK σ31 a19 = 4 ∧ (sK σ31 o = 8 ∧ (wX7_bankWithRouting o (sI σ31 201 a19 0) (fun (r36 : Option Nat) (σ34 : St) => sK σ34 a19 = 4 ∧ (∀ σ38 : St, σ38 = uR σ34 207 a19 0 r36 → (wX7_reasonAgainstEntry (some a19) (fun (x41 : Int32) (σ39 : St) => sK σ39 a19 = 4 ∧ (∀ σ43 : St, σ43 = uI σ39 208 a19 0 x41 → (sK σ43 a19 = 4 ∧ (((sI σ43 208 a19 0) = 0 → (∀ x48 : Int32, x48 = x2 + (1 : Int32) → (∀ x50 : Int32, x50 = x3 + (1 : Int32) → (wX7_judgeEntries_4 o post n (some a3) x48 x50 σ43)))) ∧ (¬ (sI σ43 208 a19 0) = 0 → (∀ x46 : Int32, x46 = x3 + (1 : Int32) → (wX7_judgeEntries_4 o post n (some a3) x2 x46 σ43))))))) σ38))) σ31))))) σ24)))))))) σ8)))))) σ0))))
set_option maxHeartbeats 4000000 in
set_option maxRecDepth 100000 in
theorem bX7_judgeEntries_4 {p : Program} {l : Launch} {e : Env} {s : State} {m : MethodId} {args : Array Value} {below : List Frame} {meth : Method} {c : Code} {Γ : rGam} {o : Nat} {post : Int32 → St → Prop} (F : Fx Γ p s m meth c args cX7_judgeEntries 5 RX7 wsX7_judgeEntries (some .int)) : ∀ (n : Nat) (r1 : Option Nat) (x2 : Int32) (x3 : Int32) (σ0 : St) (H : Heap) (locs : List Loc) (ls : Array Slot) (cells slots : Nat), wX7_judgeEntries_4 o post n r1 x2 x3 σ0 → Rep Γ σ0 H → va_S (rA Γ) s.heap H locs → lv_has ls 5 [(0, .ref o), (1, va_rf r1), (2, .int x2), (3, .int x3)] → cells ≤ 0 ∧ slots ≤ 0 → W p l e rmX7_judgeEntries s m args below meth c H locs cells slots (rQi Γ below post args s 0 0) (F0 m 4 ls []) := by
  have hx := F.1.1
  have hb := F.1.2.1
  intro n
  induction n with
  | zero =>
    intro r1 x2 x3 σ0 H locs ls cells slots h
    exact absurd h (by unfold wX7_judgeEntries_4; exact id)
  | succ n ih =>
    intro r1 x2 x3 σ0 H locs ls cells slots h hR hS hl hc
    unfold wX7_judgeEntries_4 at h
    refine lv_iload_n hx hb dX7_judgeEntries_4 rfl (lv_at hl 3 rfl) ?_
    refine s_aload_n hx hb dX7_judgeEntries_5 rfl (lv_at hl 1 rfl) ?_
    obtain ⟨a3, ea3, h⟩ := h
    subst ea3
    obtain ⟨k4, h⟩ := h
    refine s_getR F hR k4 (by decide) (C := RX2) (T := TX2) (N := 9) rfl nX7_judgeEntries_X2 0 (by decide) mX7_judgeEntries_0 (f := 150) rfl dX7_judgeEntries_6 (fun r5 er5 => ?_)
    replace h := h r5 er5
    obtain ⟨a6, ea6, h⟩ := h
    subst ea6
    have k7 := h.1
    refine s_ci hS (k_runV F hR hS hl 0 [] (kL_size l Γ a6 _ _ h) gX7_judgeEntries_Jx4a65c_size_8abf5 rfl rfl rfl (by decide +kernel) ⟨Nat.le_of_ble_eq_true rfl, Nat.le_of_ble_eq_true rfl⟩ (s_recv F hR rfl (by omega) (C := RJx4a65c) (T := TJx4a65c) (N := 3) (by unfold rCi; rw [if_neg (by omega)]; rfl)) rfl (Nat.le_of_ble_eq_true rfl) dX7_judgeEntries_9 ⟨by show _ ≤ 0; omega, by show _ ≤ 0; omega⟩) (fun x10 σ8 H locs h9 hR hS => ?_)
    refine lv_icmp_ge (tgt := 91) hx hb dX7_judgeEntries_12 (by decide) (fun c11 => ?_) (fun c11 => ?_)
    · replace h9 := h9.1 c11
      refine lv_iload_n hx hb dX7_judgeEntries_91 rfl (lv_at hl 2 rfl) ?_
      exact s_iret F hR hS h9 hc dX7_judgeEntries_92
    · replace h9 := h9.2 c11
      refine lv_aload_n hx hb dX7_judgeEntries_15 rfl (lv_at hl 1 rfl) ?_
      obtain ⟨k12, h9⟩ := h9
      refine s_getR F hR k12 (by decide) (C := RX2) (T := TX2) (N := 9) rfl nX7_judgeEntries_X2 0 (by decide) mX7_judgeEntries_0 (f := 150) rfl dX7_judgeEntries_16 (fun r13 er13 => ?_)
      replace h9 := h9 r13 er13
      refine lv_iload_n hx hb dX7_judgeEntries_19 rfl (lv_at hl 3 rfl) ?_
      obtain ⟨a14, ea14, h9⟩ := h9
      subst ea14
      have k15 := h9.1
      refine s_cq hS (k_runV F hR hS hl 1 [.int x3] (kL_get l Γ a14 x3 _ _ h9) gX7_judgeEntries_Jx4a65c_get_915e3 rfl rfl rfl (by decide +kernel) ⟨Nat.le_of_ble_eq_true rfl, Nat.le_of_ble_eq_true rfl⟩ (s_recv F hR rfl (by omega) (C := RJx4a65c) (T := TJx4a65c) (N := 3) (by unfold rCi; rw [if_neg (by omega)]; rfl)) rfl (Nat.le_of_ble_eq_true rfl) dX7_judgeEntries_20 ⟨by show _ ≤ 0; omega, by show _ ≤ 0; omega⟩) (fun r18 σ16 H locs h17 hR hS => ?_)
      obtain ⟨a19, ea19, h17⟩ := h17
      subst ea19
      obtain ⟨k20, h17⟩ := h17
      refine s_cast F hR k20 (by decide) (T := TX3) (N := 9) rfl mX7_judgeEntries_1 dX7_judgeEntries_23 ?_
      refine s_astore (r := (some a19)) (lk := [(3, .int x3)]) (lv' := [(4, .ref a19), (0, .ref o), (1, .ref a3), (2, .int x2), (3, .int x3)]) hx hb dX7_judgeEntries_26 hl (by decide) rfl (lk_1 rfl) rfl (fun ls hl21 => ?_)
      refine lv_aload hx hb dX7_judgeEntries_28 (lv_at hl21 0 rfl) ?_
      refine lv_aload_n hx hb dX7_judgeEntries_30 rfl (lv_at hl21 2 rfl) ?_
      obtain ⟨k22, h17⟩ := h17
      refine s_getI F hR k22 (by decide) (C := RX2) (T := TX2) (N := 9) rfl nX7_judgeEntries_X2 4 (by decide) mX7_judgeEntries_2 (f := 154) rfl dX7_judgeEntries_31 ?_
      obtain ⟨k23, h17⟩ := h17
      refine s_putI (v := (sI σ16 154 a3 0)) F hR hS k23 (by decide) (C := RX3) (T := TX3) (N := 9) rfl nX7_judgeEntries_X3 tyX3 tyX3_ok nmX3 5 (by decide) mX7_judgeEntries_3 (Or.inl rfl) rfl rfl (f := 205) rfl rnd_4 dX7_judgeEntries_34 (fun σ24 eσ24 H locs hR hS => ?_)
      replace h17 := h17 σ24 eσ24
      refine lv_aload hx hb dX7_judgeEntries_37 (lv_at hl21 0 rfl) ?_
      refine lv_aload_n hx hb dX7_judgeEntries_39 rfl (lv_at hl21 1 rfl) ?_
      refine lv_aload_n hx hb dX7_judgeEntries_40 rfl (lv_at hl21 2 rfl) ?_
      obtain ⟨k25, h17⟩ := h17
      refine s_getI F hR k25 (by decide) (C := RX2) (T := TX2) (N := 9) rfl nX7_judgeEntries_X2 2 (by decide) mX7_judgeEntries_4 (f := 152) rfl dX7_judgeEntries_41 ?_
      obtain ⟨k26, h17⟩ := h17
      refine s_cq hS (k_runV F hR hS hl21 1 [.int (sI σ24 152 a3 0)] (kX7_bankWithRouting l Γ o (sI σ24 152 a3 0) _ _ h17) gX7_judgeEntries_X7_bankWithRouting rfl rfl rfl (by decide +kernel) ⟨Nat.le_of_ble_eq_true rfl, Nat.le_of_ble_eq_true rfl⟩ (s_recv F hR k26 (by decide) (C := RX7) (T := TX7) (N := 7) rfl) rfl (Nat.le_of_ble_eq_true rfl) dX7_judgeEntries_44 ⟨by show _ ≤ 0; omega, by show _ ≤ 0; omega⟩) (fun r29 σ27 H locs h28 hR hS => ?_)
      obtain ⟨k30, h28⟩ := h28
      refine s_putR (v := r29) F hR hS k30 (by decide) (C := RX3) (T := TX3) (N := 9) rfl nX7_judgeEntries_X3 tyX3 tyX3_ok nmX3 6 (by decide) mX7_judgeEntries_5 (Or.inl rfl) (rf_nar _ _) (rf_fit _ _) (f := 206) rfl rnd_4 dX7_judgeEntries_47 (fun σ31 eσ31 H locs hR hS => ?_)
      replace h28 := h28 σ31 eσ31
      refine lv_aload hx hb dX7_judgeEntries_50 (lv_at hl21 0 rfl) ?_
      refine lv_aload_n hx hb dX7_judgeEntries_52 rfl (lv_at hl21 1 rfl) ?_
      refine lv_aload hx hb dX7_judgeEntries_53 (lv_at hl21 0 rfl) ?_
      obtain ⟨k32, h28⟩ := h28
      refine s_getI F hR k32 (by decide) (C := RX3) (T := TX3) (N := 9) rfl nX7_judgeEntries_X3 1 (by decide) mX7_judgeEntries_6 (f := 201) rfl dX7_judgeEntries_55 ?_
      obtain ⟨k33, h28⟩ := h28
      refine s_cq hS (k_runV F hR hS hl21 1 [.int (sI σ31 201 a19 0)] (kX7_bankWithRouting l Γ o (sI σ31 201 a19 0) _ _ h28) gX7_judgeEntries_X7_bankWithRouting rfl rfl rfl (by decide +kernel) ⟨Nat.le_of_ble_eq_true rfl, Nat.le_of_ble_eq_true rfl⟩ (s_recv F hR k33 (by decide) (C := RX7) (T := TX7) (N := 7) rfl) rfl (Nat.le_of_ble_eq_true rfl) dX7_judgeEntries_58 ⟨by show _ ≤ 0; omega, by show _ ≤ 0; omega⟩) (fun r36 σ34 H locs h35 hR hS => ?_)
      obtain ⟨k37, h35⟩ := h35
      refine s_putR (v := r36) F hR hS k37 (by decide) (C := RX3) (T := TX3) (N := 9) rfl nX7_judgeEntries_X3 tyX3 tyX3_ok nmX3 7 (by decide) mX7_judgeEntries_7 (Or.inl rfl) (rf_nar _ _) (rf_fit _ _) (f := 207) rfl rnd_4 dX7_judgeEntries_61 (fun σ38 eσ38 H locs hR hS => ?_)
      replace h35 := h35 σ38 eσ38
      refine lv_aload hx hb dX7_judgeEntries_64 (lv_at hl21 0 rfl) ?_
      refine lv_aload hx hb dX7_judgeEntries_66 (lv_at hl21 0 rfl) ?_
      refine s_ci hS (k_runS F hR hS hl21 1 [.ref a19] (kX7_reasonAgainstEntry l Γ (some a19) _ _ h35) gX7_judgeEntries_X7_reasonAgainstEntry rfl rfl rfl (by decide +kernel) ⟨Nat.le_of_ble_eq_true rfl, Nat.le_of_ble_eq_true rfl⟩ rfl (Nat.le_of_ble_eq_true rfl) dX7_judgeEntries_68 ⟨by show _ ≤ 0; omega, by show _ ≤ 0; omega⟩) (fun x41 σ39 H locs h40 hR hS => ?_)
      obtain ⟨k42, h40⟩ := h40
      refine s_putI (v := x41) F hR hS k42 (by decide) (C := RX3) (T := TX3) (N := 9) rfl nX7_judgeEntries_X3 tyX3 tyX3_ok nmX3 8 (by decide) mX7_judgeEntries_8 (Or.inl rfl) rfl rfl (f := 208) rfl rnd_4 dX7_judgeEntries_71 (fun σ43 eσ43 H locs hR hS => ?_)
      replace h40 := h40 σ43 eσ43
      refine lv_aload hx hb dX7_judgeEntries_74 (lv_at hl21 0 rfl) ?_
      obtain ⟨k44, h40⟩ := h40
      refine s_getI F hR k44 (by decide) (C := RX3) (T := TX3) (N := 9) rfl nX7_judgeEntries_X3 8 (by decide) mX7_judgeEntries_8 (f := 208) rfl dX7_judgeEntries_76 ?_
      refine lv_if_ne (tgt := 85) hx hb dX7_judgeEntries_79 (by decide) (fun c45 => ?_) (fun c45 => ?_)
      · replace h40 := h40.2 c45
        obtain ⟨x46, ex46⟩ : ∃ x : Int32, x = x3 + (1 : Int32) := ⟨_, rfl⟩
        replace h40 := h40 x46 ex46
        refine s_iinc (v := x46) (d := 1) (lk := [(2, .int x2)]) (lv' := [(3, .int x46), (4, .ref a19), (0, .ref o), (1, .ref a3), (2, .int x2)]) hx hb dX7_judgeEntries_85 hl21 (k := 4) rfl (by decide) (by decide) rfl (lk_1 rfl) ex46 rfl (fun ls hl47 => ?_)
        refine lv_goto (tgt := 4) hx hb dX7_judgeEntries_88 (by decide) ?_
        exact ih (some a3) x2 x46 σ43 _ _ _ _ _ h40 hR hS (lv_sub hl47 [2, 3, 4, 0] rfl) hc
      · replace h40 := h40.1 c45
        obtain ⟨x48, ex48⟩ : ∃ x : Int32, x = x2 + (1 : Int32) := ⟨_, rfl⟩
        replace h40 := h40 x48 ex48
        refine s_iinc (v := x48) (d := 1) (lk := [(1, .ref a3)]) (lv' := [(2, .int x48), (4, .ref a19), (0, .ref o), (1, .ref a3), (3, .int x3)]) hx hb dX7_judgeEntries_82 hl21 (k := 3) rfl (by decide) (by decide) rfl (lk_1 rfl) ex48 rfl (fun ls hl49 => ?_)
        obtain ⟨x50, ex50⟩ : ∃ x : Int32, x = x3 + (1 : Int32) := ⟨_, rfl⟩
        replace h40 := h40 x50 ex50
        refine s_iinc (v := x50) (d := 1) (lk := [(2, .int x48)]) (lv' := [(3, .int x50), (2, .int x48), (4, .ref a19), (0, .ref o), (1, .ref a3)]) hx hb dX7_judgeEntries_85 hl49 (k := 4) rfl (by decide) (by decide) rfl (lk_1 rfl) ex50 rfl (fun ls hl51 => ?_)
        refine lv_goto (tgt := 4) hx hb dX7_judgeEntries_88 (by decide) ?_
        exact ih (some a3) x48 x50 σ43 _ _ _ _ _ h40 hR hS (lv_sub hl51 [3, 4, 1, 0] rfl) hc

set_option maxRecDepth 100000 in
def wX7_judgeEntries (o : Nat) (p1 : Option Nat) (post : Int32 → St → Prop) (σ0 : St) : Prop :=
  ∃ n52 : Nat, wX7_judgeEntries_4 o post n52 p1 (0 : Int32) (0 : Int32) σ0
set_option maxHeartbeats 4000000 in
set_option maxRecDepth 100000 in
theorem bX7_judgeEntries {p : Program} {l : Launch} {e : Env} {s : State} {m : MethodId} {args : Array Value} {below : List Frame} {meth : Method} {c : Code} {Γ : rGam} {o : Nat} {post : Int32 → St → Prop} (F : Fx Γ p s m meth c args cX7_judgeEntries 5 RX7 wsX7_judgeEntries (some .int)) {H : Heap} {locs : List Loc} {ls : Array Slot} {cells slots : Nat} {p1 : Option Nat} {σ0 : St} (h : wX7_judgeEntries o p1 post σ0) (hR : Rep Γ σ0 H) (hS : va_S (rA Γ) s.heap H locs) (hl : lv_has ls 5 [(0, .ref o), (1, va_rf p1)]) (hc : cells ≤ 0 ∧ slots ≤ 0) : W p l e rmX7_judgeEntries s m args below meth c H locs cells slots (rQi Γ below post args s 0 0) (F0 m 0 ls []) := by
  have hx := F.1.1
  have hb := F.1.2.1
  unfold wX7_judgeEntries at h
  refine lv_iconst (v := 0) hx hb dX7_judgeEntries_0 (by decide) ?_
  refine s_istore_n (lk := [(1, va_rf p1)]) (lv' := [(2, .int (0 : Int32)), (0, .ref o), (1, va_rf p1)]) hx hb dX7_judgeEntries_1 rfl hl (by decide) rfl lk_r rfl (fun ls hl1 => ?_)
  refine lv_iconst (v := 0) hx hb dX7_judgeEntries_2 (by decide) ?_
  refine s_istore_n (lk := [(2, .int (0 : Int32))]) (lv' := [(3, .int (0 : Int32)), (2, .int (0 : Int32)), (0, .ref o), (1, va_rf p1)]) hx hb dX7_judgeEntries_3 rfl hl1 (by decide) rfl (lk_1 rfl) rfl (fun ls hl2 => ?_)
  obtain ⟨n52, h⟩ := h
  exact bX7_judgeEntries_4 F n52 p1 (0 : Int32) (0 : Int32) σ0 _ _ _ _ _ h hR hS (lv_sub hl2 [2, 3, 1, 0] rfl) hc
set_option maxHeartbeats 4000000 in
set_option maxRecDepth 100000 in
theorem kX7_judgeEntries (l : Launch) (Γ : rGam) (o : Nat) (p1 : Option Nat) (post : Int32 → St → Prop) (σ0 : St) (h : wX7_judgeEntries o p1 post σ0) : Met l yX7_judgeEntries wsX7_judgeEntries rmX7_judgeEntries (rPc Γ vwCl [.ref o, va_rf p1] (Rep Γ σ0)) (va_Qi post (fun σ' t => Rep Γ σ' t.heap) (rA Γ)) 0 0 (rA Γ) := by
  rcases p1 with _ | p1v
  · refine Met.ofW (cc := cX7_judgeEntries) (maxL := 5) (ret := (some .int)) (by decide) rfl ?_
    intro p e s m args below meth c s₁ B hml hv
    obtain ⟨rfl, hR, hE⟩ := hv
    have F : Fx Γ p s m meth c _ cX7_judgeEntries 5 RX7 wsX7_judgeEntries (some .int) := ⟨⟨B.exec, B.bytes, hml, findClass_of_methodNamed B.named, atoms_spec (ws := wsX7_judgeEntries) B.pre⟩, hE, B.notSynchronized, B.returns⟩
    have hl := lv_entry ([.ref o, va_rf none]) (n := 5) (Nat.le_of_ble_eq_true rfl)
    rw [lg_entry_eq]
    generalize (lg_sl ([.ref o, va_rf none]) ++ List.replicate (5 - (lg_sl ([.ref o, va_rf none])).length) Slot.unset).toArray = ls at hl ⊢
    have hl : lv_has ls 5 [(0, .ref o), (1, va_rf none)] := hl
    exact bX7_judgeEntries F h hR va_S.rf hl ⟨Nat.le_refl 0, Nat.le_refl 0⟩
  · refine Met.ofW (cc := cX7_judgeEntries) (maxL := 5) (ret := (some .int)) (by decide) rfl ?_
    intro p e s m args below meth c s₁ B hml hv
    obtain ⟨rfl, hR, hE⟩ := hv
    have F : Fx Γ p s m meth c _ cX7_judgeEntries 5 RX7 wsX7_judgeEntries (some .int) := ⟨⟨B.exec, B.bytes, hml, findClass_of_methodNamed B.named, atoms_spec (ws := wsX7_judgeEntries) B.pre⟩, hE, B.notSynchronized, B.returns⟩
    have hl := lv_entry ([.ref o, va_rf (some p1v)]) (n := 5) (Nat.le_of_ble_eq_true rfl)
    rw [lg_entry_eq]
    generalize (lg_sl ([.ref o, va_rf (some p1v)]) ++ List.replicate (5 - (lg_sl ([.ref o, va_rf (some p1v)])).length) Slot.unset).toArray = ls at hl ⊢
    have hl : lv_has ls 5 [(0, .ref o), (1, va_rf (some p1v))] := hl
    exact bX7_judgeEntries F h hR va_S.rf hl ⟨Nat.le_refl 0, Nat.le_refl 0⟩
/-! X7_judgeBatches -/
theorem mX7_judgeBatches_0 : Cond.fieldLink RX7 22 "ClearingFiles" "file" "LClearingFiles$Incoming;" ∈ wsX7_judgeBatches := by decide +kernel
theorem mX7_judgeBatches_1 : Cond.fieldLink RX7 231 "ClearingFiles$Incoming" "batchCount" "I" ∈ wsX7_judgeBatches := by decide +kernel
theorem mX7_judgeBatches_2 : Cond.fieldLink RX7 234 "ClearingFiles$Incoming" "batches" "[LClearingFiles$Batch;" ∈ wsX7_judgeBatches := by decide +kernel
theorem mX7_judgeBatches_3 : Cond.fieldLink RX7 300 "ClearingFiles$Batch" "reason" "I" ∈ wsX7_judgeBatches := by decide +kernel
theorem mX7_judgeBatches_4 : Cond.fieldLink RX7 305 "ClearingFiles$Batch" "number" "I" ∈ wsX7_judgeBatches := by decide +kernel
theorem nX7_judgeBatches_X7 : ∀ w ∈ u_ws RX7 TX7 7, w ∈ wsX7_judgeBatches := fun _ h => List.mem_cons_of_mem _ (List.mem_append_left _ (List.mem_append_left _ (List.mem_append_left _ (List.mem_append_left _ (List.mem_append_left _ (List.mem_append_right _ h))))))
theorem nX7_judgeBatches_X4 : ∀ w ∈ u_ws RX4 TX4 8, w ∈ wsX7_judgeBatches := fun _ h => List.mem_cons_of_mem _ (List.mem_append_left _ (List.mem_append_left _ (List.mem_append_left _ (List.mem_append_left _ (List.mem_append_right _ h)))))
theorem nX7_judgeBatches_X2 : ∀ w ∈ u_ws RX2 TX2 9, w ∈ wsX7_judgeBatches := fun _ h => List.mem_cons_of_mem _ (List.mem_append_left _ (List.mem_append_left _ (List.mem_append_left _ (List.mem_append_right _ h))))
abbrev rmX7_judgeBatches : Room := { frames := 5, cells := 0, slots := 0, locals := 147 }
set_option maxRecDepth 100000 in
def wX7_judgeBatches_57 (k6 : Int32 → Int32 → Int32 → St → Prop) (o : Nat) (post : Int32 → St → Prop) (x1 : Int32) (x3 : Int32) (r4 : Option Nat) (σ0 : St) : Prop :=
  ∃ a28 : Nat, r4 = some a28 ∧ (sK σ0 a28 = 3 ∧ (∀ x30 : Int32, x30 = (sI σ0 153 a28 0) → (∀ x32 : Int32, x32 = x3 + (1 : Int32) → (k6 x1 x30 x32 σ0))))
set_option maxHeartbeats 4000000 in
set_option maxRecDepth 100000 in
theorem bX7_judgeBatches_57 {p : Program} {l : Launch} {e : Env} {s : State} {m : MethodId} {args : Array Value} {below : List Frame} {meth : Method} {c : Code} {Γ : rGam} {o : Nat} {post : Int32 → St → Prop} (F : Fx Γ p s m meth c args cX7_judgeBatches 5 RX7 wsX7_judgeBatches (some .int)) {k6 : Int32 → Int32 → Int32 → St → Prop} (hk6 : ∀ (x1 : Int32) (x2 : Int32) (x3 : Int32) (σ0 : St) (H : Heap) (locs : List Loc) (ls : Array Slot) (cells slots : Nat), k6 x1 x2 x3 σ0 → Rep Γ σ0 H → va_S (rA Γ) s.heap H locs → lv_has ls 5 [(0, .ref o), (1, .int x1), (2, .int x2), (3, .int x3)] → cells ≤ 0 ∧ slots ≤ 0 → W p l e rmX7_judgeBatches s m args below meth c H locs cells slots (rQi Γ below post args s 0 0) (F0 m 6 ls [])) {H : Heap} {locs : List Loc} {ls : Array Slot} {cells slots : Nat} {x1 : Int32} {x3 : Int32} {r4 : Option Nat} {σ0 : St} (h : wX7_judgeBatches_57 k6 o post x1 x3 r4 σ0) (hR : Rep Γ σ0 H) (hS : va_S (rA Γ) s.heap H locs) (hl : lv_has ls 5 [(0, .ref o), (1, .int x1), (3, .int x3), (4, va_rf r4)]) (hc : cells ≤ 0 ∧ slots ≤ 0) : W p l e rmX7_judgeBatches s m args below meth c H locs cells slots (rQi Γ below post args s 0 0) (F0 m 57 ls []) := by
  have hx := F.1.1
  have hb := F.1.2.1
  unfold wX7_judgeBatches_57 at h
  refine s_aload hx hb dX7_judgeBatches_57 (lv_at hl 3 rfl) ?_
  obtain ⟨a28, ea28, h⟩ := h
  subst ea28
  obtain ⟨k29, h⟩ := h
  refine s_getI F hR k29 (by decide) (C := RX2) (T := TX2) (N := 9) rfl nX7_judgeBatches_X2 3 (by decide) mX7_judgeBatches_4 (f := 153) rfl dX7_judgeBatches_59 ?_
  refine lv_topi (fun x30 ex30 => ?_)
  replace h := h x30 ex30
  refine s_istore_n (lk := [(1, .int x1)]) (lv' := [(2, .int x30), (0, .ref o), (1, .int x1), (3, .int x3), (4, .ref a28)]) hx hb dX7_judgeBatches_62 rfl hl (by decide) rfl (lk_1 rfl) rfl (fun ls hl31 => ?_)
  obtain ⟨x32, ex32⟩ : ∃ x : Int32, x = x3 + (1 : Int32) := ⟨_, rfl⟩
  replace h := h x32 ex32
  refine s_iinc (v := x32) (d := 1) (lk := [(2, .int x30)]) (lv' := [(3, .int x32), (2, .int x30), (0, .ref o), (1, .int x1), (4, .ref a28)]) hx hb dX7_judgeBatches_63 hl31 (k := 3) rfl (by decide) (by decide) rfl (lk_1 rfl) ex32 rfl (fun ls hl33 => ?_)
  refine lv_goto (tgt := 6) hx hb dX7_judgeBatches_66 (by decide) ?_
  exact hk6 x1 x30 x32 σ0 _ _ _ _ _ h hR hS (lv_sub hl33 [2, 3, 1, 0] rfl) hc

set_option maxRecDepth 100000 in
def wX7_judgeBatches_6 (o : Nat) (post : Int32 → St → Prop) : Nat → Int32 → Int32 → Int32 → St → Prop
  | 0, _, _, _, _ => False
  | n + 1, x1, x2, x3, σ0 =>
    sK σ0 o = 8 ∧ (∀ r5 : Option Nat, r5 = sR σ0 402 o 0 → (∃ a6 : Nat, r5 = some a6 ∧ (sK σ0 a6 = 5 ∧ (((sI σ0 253 a6 0) ≤ x3 → (post x1 σ0)) ∧ (¬ (sI σ0 253 a6 0) ≤ x3 → (sK σ0 o = 8 ∧ (∀ r10 : Option Nat, r10 = sR σ0 402 o 0 → (∃ a11 : Nat, r10 = some a11 ∧ (sK σ0 a11 = 5 ∧ (∀ r13 : Option Nat, r13 = sR σ0 250 a11 0 → (∃ a14 : Nat, r13 = some a14 ∧ (sK σ0 a14 = 1250 ∧ (vp_in x3 4 ∧ (∀ r17 : Option Nat, r17 = sR σ0 1250 a14 x3.toNatClampNeg → (sK σ0 o = 8 ∧ (wX7_reasonAgainstBatch o r17 x2 (fun (x22 : Int32) (σ20 : St) => ∃ a23 : Nat, r17 = some a23 ∧ (sK σ20 a23 = 3 ∧ (∀ σ25 : St, σ25 = uI σ20 158 a23 0 x22 → (sK σ25 a23 = 3 ∧ (((sI σ25 158 a23 0) = 0 → (sK σ25 o = 8 ∧ (wX7_judgeEntries o (some a23) (fun (x37 : Int32) (σ35 : St) => ∀ x38 : Int32, x38 = (x1 + x37) → (wX7_judgeBatches_57 (wX7_judgeBatches_6 o post n) o post x38 x3 (some a23) σ35)) σ25))) ∧ (¬ (sI σ25 158 a23 0) = 0 → (wX7_judgeBatches_57 (wX7_judgeBatches_6 o post n) o post x1 x3 (some a23) σ25))))))) σ0))))))))))))))))
set_option maxHeartbeats 4000000 in
set_option maxRecDepth 100000 in
theorem bX7_judgeBatches_6 {p : Program} {l : Launch} {e : Env} {s : State} {m : MethodId} {args : Array Value} {below : List Frame} {meth : Method} {c : Code} {Γ : rGam} {o : Nat} {post : Int32 → St → Prop} (F : Fx Γ p s m meth c args cX7_judgeBatches 5 RX7 wsX7_judgeBatches (some .int)) : ∀ (n : Nat) (x1 : Int32) (x2 : Int32) (x3 : Int32) (σ0 : St) (H : Heap) (locs : List Loc) (ls : Array Slot) (cells slots : Nat), wX7_judgeBatches_6 o post n x1 x2 x3 σ0 → Rep Γ σ0 H → va_S (rA Γ) s.heap H locs → lv_has ls 5 [(0, .ref o), (1, .int x1), (2, .int x2), (3, .int x3)] → cells ≤ 0 ∧ slots ≤ 0 → W p l e rmX7_judgeBatches s m args below meth c H locs cells slots (rQi Γ below post args s 0 0) (F0 m 6 ls []) := by
  have hx := F.1.1
  have hb := F.1.2.1
  intro n
  induction n with
  | zero =>
    intro x1 x2 x3 σ0 H locs ls cells slots h
    exact absurd h (by unfold wX7_judgeBatches_6; exact id)
  | succ n ih =>
    intro x1 x2 x3 σ0 H locs ls cells slots h hR hS hl hc
    unfold wX7_judgeBatches_6 at h
    refine lv_iload_n hx hb dX7_judgeBatches_6 rfl (lv_at hl 3 rfl) ?_
    refine lv_aload_n hx hb dX7_judgeBatches_7 rfl (lv_at hl 0 rfl) ?_
    obtain ⟨k4, h⟩ := h
    refine s_getR F hR k4 (by decide) (C := RX7) (T := TX7) (N := 7) rfl nX7_judgeBatches_X7 2 (by decide) mX7_judgeBatches_0 (f := 402) rfl dX7_judgeBatches_8 (fun r5 er5 => ?_)
    replace h := h r5 er5
    obtain ⟨a6, ea6, h⟩ := h
    subst ea6
    obtain ⟨k7, h⟩ := h
    refine s_getI F hR k7 (by decide) (C := RX4) (T := TX4) (N := 8) rfl nX7_judgeBatches_X4 3 (by decide) mX7_judgeBatches_1 (f := 253) rfl dX7_judgeBatches_11 ?_
    refine lv_icmp_ge (tgt := 69) hx hb dX7_judgeBatches_14 (by decide) (fun c8 => ?_) (fun c8 => ?_)
    · replace h := h.1 c8
      refine lv_iload_n hx hb dX7_judgeBatches_69 rfl (lv_at hl 1 rfl) ?_
      exact s_iret F hR hS h hc dX7_judgeBatches_70
    · replace h := h.2 c8
      refine lv_aload_n hx hb dX7_judgeBatches_17 rfl (lv_at hl 0 rfl) ?_
      obtain ⟨k9, h⟩ := h
      refine s_getR F hR k9 (by decide) (C := RX7) (T := TX7) (N := 7) rfl nX7_judgeBatches_X7 2 (by decide) mX7_judgeBatches_0 (f := 402) rfl dX7_judgeBatches_18 (fun r10 er10 => ?_)
      replace h := h r10 er10
      obtain ⟨a11, ea11, h⟩ := h
      subst ea11
      obtain ⟨k12, h⟩ := h
      refine s_getR F hR k12 (by decide) (C := RX4) (T := TX4) (N := 8) rfl nX7_judgeBatches_X4 0 (by decide) mX7_judgeBatches_2 (f := 250) rfl dX7_judgeBatches_21 (fun r13 er13 => ?_)
      replace h := h r13 er13
      refine lv_iload_n hx hb dX7_judgeBatches_24 rfl (lv_at hl 3 rfl) ?_
      obtain ⟨a14, ea14, h⟩ := h
      subst ea14
      obtain ⟨k15, h⟩ := h
      obtain ⟨z16, h⟩ := h
      refine s_aald F hR k15 (by decide) rfl z16 dX7_judgeBatches_25 (fun r17 er17 => ?_)
      replace h := h r17 er17
      refine s_astore (r := r17) (lk := [(3, .int x3)]) (lv' := [(4, va_rf r17), (0, .ref o), (1, .int x1), (2, .int x2), (3, .int x3)]) hx hb dX7_judgeBatches_26 hl (by decide) rfl (lk_1 rfl) rfl (fun ls hl18 => ?_)
      refine s_aload hx hb dX7_judgeBatches_28 (lv_at hl18 0 rfl) ?_
      refine lv_aload_n hx hb dX7_judgeBatches_30 rfl (lv_at hl18 1 rfl) ?_
      refine s_aload hx hb dX7_judgeBatches_31 (lv_at hl18 0 rfl) ?_
      refine lv_iload_n hx hb dX7_judgeBatches_33 rfl (lv_at hl18 3 rfl) ?_
      obtain ⟨k19, h⟩ := h
      refine s_ci hS (k_runV F hR hS hl18 2 [va_rf r17, .int x2] (kX7_reasonAgainstBatch l Γ o r17 x2 _ _ h) gX7_judgeBatches_X7_reasonAgainstBatch rfl rfl rfl (by decide +kernel) ⟨Nat.le_of_ble_eq_true rfl, Nat.le_of_ble_eq_true rfl⟩ (s_recv F hR k19 (by decide) (C := RX7) (T := TX7) (N := 7) rfl) rfl (by simp only [List.map_cons, List.map_nil, List.sum_cons, List.sum_nil, va_cat] <;> exact Nat.le_of_ble_eq_true rfl) dX7_judgeBatches_34 ⟨by show _ ≤ 0; omega, by show _ ≤ 0; omega⟩) (fun x22 σ20 H locs h21 hR hS => ?_)
      obtain ⟨a23, ea23, h21⟩ := h21
      subst ea23
      obtain ⟨k24, h21⟩ := h21
      refine s_putI (v := x22) F hR hS k24 (by decide) (C := RX2) (T := TX2) (N := 9) rfl nX7_judgeBatches_X2 tyX2 tyX2_ok nmX2 8 (by decide) mX7_judgeBatches_3 (Or.inl rfl) rfl rfl (f := 158) rfl rnd_3 dX7_judgeBatches_37 (fun σ25 eσ25 H locs hR hS => ?_)
      replace h21 := h21 σ25 eσ25
      refine lv_aload hx hb dX7_judgeBatches_40 (lv_at hl18 0 rfl) ?_
      obtain ⟨k26, h21⟩ := h21
      refine s_getI F hR k26 (by decide) (C := RX2) (T := TX2) (N := 9) rfl nX7_judgeBatches_X2 8 (by decide) mX7_judgeBatches_3 (f := 158) rfl dX7_judgeBatches_42 ?_
      refine lv_if_ne (tgt := 57) hx hb dX7_judgeBatches_45 (by decide) (fun c27 => ?_) (fun c27 => ?_)
      · replace h21 := h21.2 c27
        exact bX7_judgeBatches_57 F (fun x1 x2 x3 σ0 H locs ls cells slots h hR hS hl hc => ih x1 x2 x3 σ0 H locs ls cells slots h hR hS hl hc) h21 hR hS (lv_sub hl18 [1, 2, 4, 0] rfl) hc
      · replace h21 := h21.1 c27
        refine lv_iload_n hx hb dX7_judgeBatches_48 rfl (lv_at hl18 2 rfl) ?_
        refine lv_aload_n hx hb dX7_judgeBatches_49 rfl (lv_at hl18 1 rfl) ?_
        refine lv_aload hx hb dX7_judgeBatches_50 (lv_at hl18 0 rfl) ?_
        obtain ⟨k34, h21⟩ := h21
        refine s_ci hS (k_runV F hR hS hl18 1 [.ref a23] (kX7_judgeEntries l Γ o (some a23) _ _ h21) gX7_judgeBatches_X7_judgeEntries rfl rfl rfl (by decide +kernel) ⟨Nat.le_of_ble_eq_true rfl, Nat.le_of_ble_eq_true rfl⟩ (s_recv F hR k34 (by decide) (C := RX7) (T := TX7) (N := 7) rfl) rfl (Nat.le_of_ble_eq_true rfl) dX7_judgeBatches_52 ⟨by show _ ≤ 0; omega, by show _ ≤ 0; omega⟩) (fun x37 σ35 H locs h36 hR hS => ?_)
        refine lv_iadd hx hb dX7_judgeBatches_55 ?_
        refine lv_topi (fun x38 ex38 => ?_)
        replace h36 := h36 x38 ex38
        refine s_istore_n (lk := [(0, .ref o)]) (lv' := [(1, .int x38), (4, .ref a23), (0, .ref o), (2, .int x2), (3, .int x3)]) hx hb dX7_judgeBatches_56 rfl hl18 (by decide) rfl (lk_1 rfl) rfl (fun ls hl39 => ?_)
        exact bX7_judgeBatches_57 F (fun x1 x2 x3 σ0 H locs ls cells slots h hR hS hl hc => ih x1 x2 x3 σ0 H locs ls cells slots h hR hS hl hc) h36 hR hS (lv_sub hl39 [2, 0, 4, 1] rfl) hc

set_option maxRecDepth 100000 in
def wX7_judgeBatches (o : Nat)  (post : Int32 → St → Prop) (σ0 : St) : Prop :=
  ∃ n40 : Nat, wX7_judgeBatches_6 o post n40 (0 : Int32) (-1 : Int32) (0 : Int32) σ0
set_option maxHeartbeats 4000000 in
set_option maxRecDepth 100000 in
theorem bX7_judgeBatches {p : Program} {l : Launch} {e : Env} {s : State} {m : MethodId} {args : Array Value} {below : List Frame} {meth : Method} {c : Code} {Γ : rGam} {o : Nat} {post : Int32 → St → Prop} (F : Fx Γ p s m meth c args cX7_judgeBatches 5 RX7 wsX7_judgeBatches (some .int)) {H : Heap} {locs : List Loc} {ls : Array Slot} {cells slots : Nat}  {σ0 : St} (h : wX7_judgeBatches o  post σ0) (hR : Rep Γ σ0 H) (hS : va_S (rA Γ) s.heap H locs) (hl : lv_has ls 5 [(0, .ref o)]) (hc : cells ≤ 0 ∧ slots ≤ 0) : W p l e rmX7_judgeBatches s m args below meth c H locs cells slots (rQi Γ below post args s 0 0) (F0 m 0 ls []) := by
  have hx := F.1.1
  have hb := F.1.2.1
  unfold wX7_judgeBatches at h
  refine lv_iconst (v := 0) hx hb dX7_judgeBatches_0 (by decide) ?_
  refine s_istore_n (lk := [(0, .ref o)]) (lv' := [(1, .int (0 : Int32)), (0, .ref o)]) hx hb dX7_judgeBatches_1 rfl hl (by decide) rfl (lk_1 rfl) rfl (fun ls hl1 => ?_)
  refine lv_iconst (v := -1) hx hb dX7_judgeBatches_2 (by decide) ?_
  refine s_istore_n (lk := [(1, .int (0 : Int32))]) (lv' := [(2, .int (-1 : Int32)), (1, .int (0 : Int32)), (0, .ref o)]) hx hb dX7_judgeBatches_3 rfl hl1 (by decide) rfl (lk_1 rfl) rfl (fun ls hl2 => ?_)
  refine lv_iconst (v := 0) hx hb dX7_judgeBatches_4 (by decide) ?_
  refine s_istore_n (lk := [(2, .int (-1 : Int32))]) (lv' := [(3, .int (0 : Int32)), (2, .int (-1 : Int32)), (1, .int (0 : Int32)), (0, .ref o)]) hx hb dX7_judgeBatches_5 rfl hl2 (by decide) rfl (lk_1 rfl) rfl (fun ls hl3 => ?_)
  obtain ⟨n40, h⟩ := h
  exact bX7_judgeBatches_6 F n40 (0 : Int32) (-1 : Int32) (0 : Int32) σ0 _ _ _ _ _ h hR hS (lv_sub hl3 [3, 2, 1, 0] rfl) hc
set_option maxHeartbeats 4000000 in
set_option maxRecDepth 100000 in
theorem kX7_judgeBatches (l : Launch) (Γ : rGam) (o : Nat)  (post : Int32 → St → Prop) (σ0 : St) (h : wX7_judgeBatches o  post σ0) : Met l yX7_judgeBatches wsX7_judgeBatches rmX7_judgeBatches (rPc Γ vwCl [.ref o] (Rep Γ σ0)) (va_Qi post (fun σ' t => Rep Γ σ' t.heap) (rA Γ)) 0 0 (rA Γ) := by
  refine Met.ofW (cc := cX7_judgeBatches) (maxL := 5) (ret := (some .int)) (by decide) rfl ?_
  intro p e s m args below meth c s₁ B hml hv
  obtain ⟨rfl, hR, hE⟩ := hv
  have F : Fx Γ p s m meth c _ cX7_judgeBatches 5 RX7 wsX7_judgeBatches (some .int) := ⟨⟨B.exec, B.bytes, hml, findClass_of_methodNamed B.named, atoms_spec (ws := wsX7_judgeBatches) B.pre⟩, hE, B.notSynchronized, B.returns⟩
  have hl := lv_entry ([.ref o]) (n := 5) (Nat.le_of_ble_eq_true rfl)
  rw [lg_entry_eq]
  generalize (lg_sl ([.ref o]) ++ List.replicate (5 - (lg_sl ([.ref o])).length) Slot.unset).toArray = ls at hl ⊢
  have hl : lv_has ls 5 [(0, .ref o)] := hl
  exact bX7_judgeBatches F h hR va_S.rf hl ⟨Nat.le_refl 0, Nat.le_refl 0⟩
/-! X7_reasonAgainstFile -/
theorem mX7_reasonAgainstFile_0 : Cond.fieldLink RX7 22 "ClearingFiles" "file" "LClearingFiles$Incoming;" ∈ wsX7_reasonAgainstFile := by decide +kernel
theorem mX7_reasonAgainstFile_1 : Cond.fieldLink RX7 283 "ClearingFiles$Incoming" "sender" "I" ∈ wsX7_reasonAgainstFile := by decide +kernel
theorem mX7_reasonAgainstFile_2 : Cond.fieldLink RX7 231 "ClearingFiles$Incoming" "batchCount" "I" ∈ wsX7_reasonAgainstFile := by decide +kernel
theorem mX7_reasonAgainstFile_3 : Cond.fieldLink RX7 250 "ClearingFiles$Incoming" "totals" "LClearingFiles$Totals;" ∈ wsX7_reasonAgainstFile := by decide +kernel
theorem nX7_reasonAgainstFile_X7 : ∀ w ∈ u_ws RX7 TX7 7, w ∈ wsX7_reasonAgainstFile := fun _ h => List.mem_cons_of_mem _ (List.mem_append_left _ (List.mem_append_left _ (List.mem_append_left _ (List.mem_append_left _ (List.mem_append_left _ (List.mem_append_left _ (List.mem_append_right _ h)))))))
theorem nX7_reasonAgainstFile_X4 : ∀ w ∈ u_ws RX4 TX4 8, w ∈ wsX7_reasonAgainstFile := fun _ h => List.mem_cons_of_mem _ (List.mem_append_left _ (List.mem_append_left _ (List.mem_append_left _ (List.mem_append_left _ (List.mem_append_left _ (List.mem_append_right _ h))))))
abbrev rmX7_reasonAgainstFile : Room := { frames := 6, cells := 0, slots := 0, locals := 171 }
set_option maxRecDepth 100000 in
def wX7_reasonAgainstFile (o : Nat) (p1 : Int64) (p2 : Int64) (post : Int32 → St → Prop) (σ0 : St) : Prop :=
  sK σ0 o = 8 ∧ (∀ r2 : Option Nat, r2 = sR σ0 402 o 0 → (∃ a3 : Nat, r2 = some a3 ∧ (sK σ0 a3 = 5 ∧ (sK σ0 o = 8 ∧ (wX7_bankWithRouting o (sI σ0 254 a3 0) (fun (r8 : Option Nat) (σ6 : St) => (r8 = none → (post (10 : Int32) σ6)) ∧ (¬ r8 = none → (sK σ6 o = 8 ∧ (wX7_fileKey o (fun (x13 : Int32) (σ11 : St) => sK σ11 o = 8 ∧ (wX7_wasAccepted o x13 (fun (x17 : Int32) (σ15 : St) => (x17 = 0 → (sK σ15 o = 8 ∧ (∀ r20 : Option Nat, r20 = sR σ15 402 o 0 → (∃ a21 : Nat, r20 = some a21 ∧ (sK σ15 a21 = 5 ∧ (wX7_digits p1 p2 (1 : Int32) (4 : Int32) (fun (x25 : Int32) (σ23 : St) => ((sI σ15 253 a21 0) = x25 → (sK σ23 o = 8 ∧ (∀ r28 : Option Nat, r28 = sR σ23 402 o 0 → (∃ a29 : Nat, r28 = some a29 ∧ (sK σ23 a29 = 5 ∧ (∀ r31 : Option Nat, r31 = sR σ23 251 a29 0 → (wX7_digits p1 p2 (5 : Int32) (8 : Int32) (fun (x34 : Int32) (σ32 : St) => wX7_digits p1 p2 (9 : Int32) (14 : Int32) (fun (x37 : Int32) (σ35 : St) => wX7_digits p1 p2 (18 : Int32) (26 : Int32) (fun (x40 : Int32) (σ38 : St) => wX7_digits p1 p2 (27 : Int32) (35 : Int32) (fun (x43 : Int32) (σ41 : St) => ∃ a44 : Nat, r31 = some a44 ∧ (sK σ41 a44 = 7 ∧ (wX6_are a44 x34 x37 x40 x43 (fun (x48 : Int32) (σ46 : St) => (x48 = 0 → (post (12 : Int32) σ46)) ∧ (¬ x48 = 0 → (sK σ46 o = 8 ∧ (wX7_waitingInAll o (fun (x53 : Int32) (σ51 : St) => sK σ51 o = 8 ∧ (wX7_judgeBatches o (fun (x57 : Int32) (σ55 : St) => ((x53 + x57) ≤ (40 : Int32) → (post (0 : Int32) σ55)) ∧ (¬ (x53 + x57) ≤ (40 : Int32) → (post (13 : Int32) σ55))) σ51)) σ46)))) σ41))) σ38) σ35) σ32) σ23))))))) ∧ (¬ (sI σ15 253 a21 0) = x25 → (post (12 : Int32) σ23))) σ15)))))) ∧ (¬ x17 = 0 → (post (11 : Int32) σ15))) σ11)) σ6)))) σ0)))))
set_option maxHeartbeats 4000000 in
set_option maxRecDepth 100000 in
theorem bX7_reasonAgainstFile {p : Program} {l : Launch} {e : Env} {s : State} {m : MethodId} {args : Array Value} {below : List Frame} {meth : Method} {c : Code} {Γ : rGam} {o : Nat} {post : Int32 → St → Prop} (F : Fx Γ p s m meth c args cX7_reasonAgainstFile 5 RX7 wsX7_reasonAgainstFile (some .int)) {H : Heap} {locs : List Loc} {ls : Array Slot} {cells slots : Nat} {p1 : Int64} {p2 : Int64} {σ0 : St} (h : wX7_reasonAgainstFile o p1 p2 post σ0) (hR : Rep Γ σ0 H) (hS : va_S (rA Γ) s.heap H locs) (hl : lv_has ls 5 [(0, .ref o), (1, .long p1), (3, .long p2)]) (hc : cells ≤ 0 ∧ slots ≤ 0) : W p l e rmX7_reasonAgainstFile s m args below meth c H locs cells slots (rQi Γ below post args s 0 0) (F0 m 0 ls []) := by
  have hx := F.1.1
  have hb := F.1.2.1
  unfold wX7_reasonAgainstFile at h
  refine lv_aload_n hx hb dX7_reasonAgainstFile_0 rfl (lv_at hl 0 rfl) ?_
  refine lv_aload_n hx hb dX7_reasonAgainstFile_1 rfl (lv_at hl 0 rfl) ?_
  obtain ⟨k1, h⟩ := h
  refine s_getR F hR k1 (by decide) (C := RX7) (T := TX7) (N := 7) rfl nX7_reasonAgainstFile_X7 2 (by decide) mX7_reasonAgainstFile_0 (f := 402) rfl dX7_reasonAgainstFile_2 (fun r2 er2 => ?_)
  replace h := h r2 er2
  obtain ⟨a3, ea3, h⟩ := h
  subst ea3
  obtain ⟨k4, h⟩ := h
  refine s_getI F hR k4 (by decide) (C := RX4) (T := TX4) (N := 8) rfl nX7_reasonAgainstFile_X4 4 (by decide) mX7_reasonAgainstFile_1 (f := 254) rfl dX7_reasonAgainstFile_5 ?_
  obtain ⟨k5, h⟩ := h
  refine s_cq hS (k_runV F hR hS hl 1 [.int (sI σ0 254 a3 0)] (kX7_bankWithRouting l Γ o (sI σ0 254 a3 0) _ _ h) gX7_reasonAgainstFile_X7_bankWithRouting rfl rfl rfl (by decide +kernel) ⟨Nat.le_of_ble_eq_true rfl, Nat.le_of_ble_eq_true rfl⟩ (s_recv F hR k5 (by decide) (C := RX7) (T := TX7) (N := 7) rfl) rfl (Nat.le_of_ble_eq_true rfl) dX7_reasonAgainstFile_8 ⟨by show _ ≤ 0; omega, by show _ ≤ 0; omega⟩) (fun r8 σ6 H locs h7 hR hS => ?_)
  refine s_ifnonnull (r := r8) hx hb dX7_reasonAgainstFile_11 (tgt := 17) (by decide) (fun c9 => ?_) (fun c9 => ?_)
  · replace h7 := h7.2 c9
    refine lv_aload_n hx hb dX7_reasonAgainstFile_17 rfl (lv_at hl 0 rfl) ?_
    refine lv_aload_n hx hb dX7_reasonAgainstFile_18 rfl (lv_at hl 0 rfl) ?_
    obtain ⟨k10, h7⟩ := h7
    refine s_ci hS (k_runV F hR hS hl 0 [] (kX7_fileKey l Γ o _ _ h7) gX7_reasonAgainstFile_X7_fileKey rfl rfl rfl (by decide +kernel) ⟨Nat.le_of_ble_eq_true rfl, Nat.le_of_ble_eq_true rfl⟩ (s_recv F hR k10 (by decide) (C := RX7) (T := TX7) (N := 7) rfl) rfl (Nat.le_of_ble_eq_true rfl) dX7_reasonAgainstFile_19 ⟨by show _ ≤ 0; omega, by show _ ≤ 0; omega⟩) (fun x13 σ11 H locs h12 hR hS => ?_)
    obtain ⟨k14, h12⟩ := h12
    refine s_ci hS (k_runV F hR hS hl 1 [.int x13] (kX7_wasAccepted l Γ o x13 _ _ h12) gX7_reasonAgainstFile_X7_wasAccepted rfl rfl rfl (by decide +kernel) ⟨Nat.le_of_ble_eq_true rfl, Nat.le_of_ble_eq_true rfl⟩ (s_recv F hR k14 (by decide) (C := RX7) (T := TX7) (N := 7) rfl) rfl (Nat.le_of_ble_eq_true rfl) dX7_reasonAgainstFile_22 ⟨by show _ ≤ 0; omega, by show _ ≤ 0; omega⟩) (fun x17 σ15 H locs h16 hR hS => ?_)
    refine lv_if_eq (tgt := 31) hx hb dX7_reasonAgainstFile_25 (by decide) (fun c18 => ?_) (fun c18 => ?_)
    · replace h16 := h16.1 c18
      refine lv_aload_n hx hb dX7_reasonAgainstFile_31 rfl (lv_at hl 0 rfl) ?_
      obtain ⟨k19, h16⟩ := h16
      refine s_getR F hR k19 (by decide) (C := RX7) (T := TX7) (N := 7) rfl nX7_reasonAgainstFile_X7 2 (by decide) mX7_reasonAgainstFile_0 (f := 402) rfl dX7_reasonAgainstFile_32 (fun r20 er20 => ?_)
      replace h16 := h16 r20 er20
      obtain ⟨a21, ea21, h16⟩ := h16
      subst ea21
      obtain ⟨k22, h16⟩ := h16
      refine s_getI F hR k22 (by decide) (C := RX4) (T := TX4) (N := 8) rfl nX7_reasonAgainstFile_X4 3 (by decide) mX7_reasonAgainstFile_2 (f := 253) rfl dX7_reasonAgainstFile_35 ?_
      refine lv_lload_n hx hb dX7_reasonAgainstFile_38 rfl (lv_at hl 1 rfl) ?_
      refine lv_lload_n hx hb dX7_reasonAgainstFile_39 rfl (lv_at hl 2 rfl) ?_
      refine lv_iconst (v := 1) hx hb dX7_reasonAgainstFile_40 (by decide) ?_
      refine lv_iconst (v := 4) hx hb dX7_reasonAgainstFile_41 (by decide) ?_
      refine s_ci hS (k_runS F hR hS hl 4 [.long p1, .long p2, .int (1 : Int32), .int (4 : Int32)] (kX7_digits l Γ p1 p2 (1 : Int32) (4 : Int32) _ _ h16) gX7_reasonAgainstFile_X7_digits rfl rfl rfl (by decide +kernel) ⟨Nat.le_of_ble_eq_true rfl, Nat.le_of_ble_eq_true rfl⟩ rfl (Nat.le_of_ble_eq_true rfl) dX7_reasonAgainstFile_42 ⟨by show _ ≤ 0; omega, by show _ ≤ 0; omega⟩) (fun x25 σ23 H locs h24 hR hS => ?_)
      refine lv_icmp_eq (tgt := 51) hx hb dX7_reasonAgainstFile_45 (by decide) (fun c26 => ?_) (fun c26 => ?_)
      · replace h24 := h24.1 c26
        refine lv_aload_n hx hb dX7_reasonAgainstFile_51 rfl (lv_at hl 0 rfl) ?_
        obtain ⟨k27, h24⟩ := h24
        refine s_getR F hR k27 (by decide) (C := RX7) (T := TX7) (N := 7) rfl nX7_reasonAgainstFile_X7 2 (by decide) mX7_reasonAgainstFile_0 (f := 402) rfl dX7_reasonAgainstFile_52 (fun r28 er28 => ?_)
        replace h24 := h24 r28 er28
        obtain ⟨a29, ea29, h24⟩ := h24
        subst ea29
        obtain ⟨k30, h24⟩ := h24
        refine s_getR F hR k30 (by decide) (C := RX4) (T := TX4) (N := 8) rfl nX7_reasonAgainstFile_X4 1 (by decide) mX7_reasonAgainstFile_3 (f := 251) rfl dX7_reasonAgainstFile_55 (fun r31 er31 => ?_)
        replace h24 := h24 r31 er31
        refine lv_lload_n hx hb dX7_reasonAgainstFile_58 rfl (lv_at hl 1 rfl) ?_
        refine lv_lload_n hx hb dX7_reasonAgainstFile_59 rfl (lv_at hl 2 rfl) ?_
        refine lv_iconst (v := 5) hx hb dX7_reasonAgainstFile_60 (by decide) ?_
        refine lv_bipush (v := 8) hx hb dX7_reasonAgainstFile_61 (by decide) ?_
        refine s_ci hS (k_runS F hR hS hl 4 [.long p1, .long p2, .int (5 : Int32), .int (8 : Int32)] (kX7_digits l Γ p1 p2 (5 : Int32) (8 : Int32) _ _ h24) gX7_reasonAgainstFile_X7_digits rfl rfl rfl (by decide +kernel) ⟨Nat.le_of_ble_eq_true rfl, Nat.le_of_ble_eq_true rfl⟩ rfl (by simp only [List.map_cons, List.map_nil, List.sum_cons, List.sum_nil, va_cat] <;> exact Nat.le_of_ble_eq_true rfl) dX7_reasonAgainstFile_63 ⟨by show _ ≤ 0; omega, by show _ ≤ 0; omega⟩) (fun x34 σ32 H locs h33 hR hS => ?_)
        refine lv_lload_n hx hb dX7_reasonAgainstFile_66 rfl (lv_at hl 1 rfl) ?_
        refine lv_lload_n hx hb dX7_reasonAgainstFile_67 rfl (lv_at hl 2 rfl) ?_
        refine lv_bipush (v := 9) hx hb dX7_reasonAgainstFile_68 (by decide) ?_
        refine lv_bipush (v := 14) hx hb dX7_reasonAgainstFile_70 (by decide) ?_
        refine s_ci hS (k_runS F hR hS hl 4 [.long p1, .long p2, .int (9 : Int32), .int (14 : Int32)] (kX7_digits l Γ p1 p2 (9 : Int32) (14 : Int32) _ _ h33) gX7_reasonAgainstFile_X7_digits rfl rfl rfl (by decide +kernel) ⟨Nat.le_of_ble_eq_true rfl, Nat.le_of_ble_eq_true rfl⟩ rfl (by simp only [List.map_cons, List.map_nil, List.sum_cons, List.sum_nil, va_cat] <;> exact Nat.le_of_ble_eq_true rfl) dX7_reasonAgainstFile_72 ⟨by show _ ≤ 0; omega, by show _ ≤ 0; omega⟩) (fun x37 σ35 H locs h36 hR hS => ?_)
        refine lv_lload_n hx hb dX7_reasonAgainstFile_75 rfl (lv_at hl 1 rfl) ?_
        refine lv_lload_n hx hb dX7_reasonAgainstFile_76 rfl (lv_at hl 2 rfl) ?_
        refine lv_bipush (v := 18) hx hb dX7_reasonAgainstFile_77 (by decide) ?_
        refine lv_bipush (v := 26) hx hb dX7_reasonAgainstFile_79 (by decide) ?_
        refine s_ci hS (k_runS F hR hS hl 4 [.long p1, .long p2, .int (18 : Int32), .int (26 : Int32)] (kX7_digits l Γ p1 p2 (18 : Int32) (26 : Int32) _ _ h36) gX7_reasonAgainstFile_X7_digits rfl rfl rfl (by decide +kernel) ⟨Nat.le_of_ble_eq_true rfl, Nat.le_of_ble_eq_true rfl⟩ rfl (by simp only [List.map_cons, List.map_nil, List.sum_cons, List.sum_nil, va_cat] <;> exact Nat.le_of_ble_eq_true rfl) dX7_reasonAgainstFile_81 ⟨by show _ ≤ 0; omega, by show _ ≤ 0; omega⟩) (fun x40 σ38 H locs h39 hR hS => ?_)
        refine lv_lload_n hx hb dX7_reasonAgainstFile_84 rfl (lv_at hl 1 rfl) ?_
        refine lv_lload_n hx hb dX7_reasonAgainstFile_85 rfl (lv_at hl 2 rfl) ?_
        refine lv_bipush (v := 27) hx hb dX7_reasonAgainstFile_86 (by decide) ?_
        refine lv_bipush (v := 35) hx hb dX7_reasonAgainstFile_88 (by decide) ?_
        refine s_ci hS (k_runS F hR hS hl 4 [.long p1, .long p2, .int (27 : Int32), .int (35 : Int32)] (kX7_digits l Γ p1 p2 (27 : Int32) (35 : Int32) _ _ h39) gX7_reasonAgainstFile_X7_digits rfl rfl rfl (by decide +kernel) ⟨Nat.le_of_ble_eq_true rfl, Nat.le_of_ble_eq_true rfl⟩ rfl (by simp only [List.map_cons, List.map_nil, List.sum_cons, List.sum_nil, va_cat] <;> exact Nat.le_of_ble_eq_true rfl) dX7_reasonAgainstFile_90 ⟨by show _ ≤ 0; omega, by show _ ≤ 0; omega⟩) (fun x43 σ41 H locs h42 hR hS => ?_)
        obtain ⟨a44, ea44, h42⟩ := h42
        subst ea44
        obtain ⟨k45, h42⟩ := h42
        refine s_ci hS (k_runV F hR hS hl 4 [.int x34, .int x37, .int x40, .int x43] (kX6_are l Γ a44 x34 x37 x40 x43 _ _ h42) gX7_reasonAgainstFile_X6_are rfl rfl rfl (by decide +kernel) ⟨Nat.le_of_ble_eq_true rfl, Nat.le_of_ble_eq_true rfl⟩ (s_recv F hR k45 (by decide) (C := RX6) (T := TX6) (N := 4) rfl) rfl (Nat.le_of_ble_eq_true rfl) dX7_reasonAgainstFile_93 ⟨by show _ ≤ 0; omega, by show _ ≤ 0; omega⟩) (fun x48 σ46 H locs h47 hR hS => ?_)
        refine lv_if_ne (tgt := 102) hx hb dX7_reasonAgainstFile_96 (by decide) (fun c49 => ?_) (fun c49 => ?_)
        · replace h47 := h47.2 c49
          refine lv_aload_n hx hb dX7_reasonAgainstFile_102 rfl (lv_at hl 0 rfl) ?_
          obtain ⟨k50, h47⟩ := h47
          refine s_ci hS (k_runV F hR hS hl 0 [] (kX7_waitingInAll l Γ o _ _ h47) gX7_reasonAgainstFile_X7_waitingInAll rfl rfl rfl (by decide +kernel) ⟨Nat.le_of_ble_eq_true rfl, Nat.le_of_ble_eq_true rfl⟩ (s_recv F hR k50 (by decide) (C := RX7) (T := TX7) (N := 7) rfl) rfl (Nat.le_of_ble_eq_true rfl) dX7_reasonAgainstFile_103 ⟨by show _ ≤ 0; omega, by show _ ≤ 0; omega⟩) (fun x53 σ51 H locs h52 hR hS => ?_)
          refine lv_aload_n hx hb dX7_reasonAgainstFile_106 rfl (lv_at hl 0 rfl) ?_
          obtain ⟨k54, h52⟩ := h52
          refine s_ci hS (k_runV F hR hS hl 0 [] (kX7_judgeBatches l Γ o _ _ h52) gX7_reasonAgainstFile_X7_judgeBatches rfl rfl rfl (by decide +kernel) ⟨Nat.le_of_ble_eq_true rfl, Nat.le_of_ble_eq_true rfl⟩ (s_recv F hR k54 (by decide) (C := RX7) (T := TX7) (N := 7) rfl) rfl (Nat.le_of_ble_eq_true rfl) dX7_reasonAgainstFile_107 ⟨by show _ ≤ 0; omega, by show _ ≤ 0; omega⟩) (fun x57 σ55 H locs h56 hR hS => ?_)
          refine lv_iadd hx hb dX7_reasonAgainstFile_110 ?_
          refine lv_bipush (v := 40) hx hb dX7_reasonAgainstFile_111 (by decide) ?_
          refine lv_icmp_le (tgt := 121) hx hb dX7_reasonAgainstFile_113 (by decide) (fun c58 => ?_) (fun c58 => ?_)
          · replace h56 := h56.1 c58
            refine lv_iconst (v := 0) hx hb dX7_reasonAgainstFile_121 (by decide) ?_
            exact s_iret F hR hS h56 hc dX7_reasonAgainstFile_122
          · replace h56 := h56.2 c58
            refine lv_bipush (v := 13) hx hb dX7_reasonAgainstFile_116 (by decide) ?_
            refine lv_goto (tgt := 122) hx hb dX7_reasonAgainstFile_118 (by decide) ?_
            exact s_iret F hR hS h56 hc dX7_reasonAgainstFile_122
        · replace h47 := h47.1 c49
          refine lv_bipush (v := 12) hx hb dX7_reasonAgainstFile_99 (by decide) ?_
          exact s_iret F hR hS h47 hc dX7_reasonAgainstFile_101
      · replace h24 := h24.2 c26
        refine lv_bipush (v := 12) hx hb dX7_reasonAgainstFile_48 (by decide) ?_
        exact s_iret F hR hS h24 hc dX7_reasonAgainstFile_50
    · replace h16 := h16.2 c18
      refine lv_bipush (v := 11) hx hb dX7_reasonAgainstFile_28 (by decide) ?_
      exact s_iret F hR hS h16 hc dX7_reasonAgainstFile_30
  · replace h7 := h7.1 c9
    refine lv_bipush (v := 10) hx hb dX7_reasonAgainstFile_14 (by decide) ?_
    exact s_iret F hR hS h7 hc dX7_reasonAgainstFile_16
set_option maxHeartbeats 4000000 in
set_option maxRecDepth 100000 in
theorem kX7_reasonAgainstFile (l : Launch) (Γ : rGam) (o : Nat) (p1 : Int64) (p2 : Int64) (post : Int32 → St → Prop) (σ0 : St) (h : wX7_reasonAgainstFile o p1 p2 post σ0) : Met l yX7_reasonAgainstFile wsX7_reasonAgainstFile rmX7_reasonAgainstFile (rPc Γ vwCl [.ref o, .long p1, .long p2] (Rep Γ σ0)) (va_Qi post (fun σ' t => Rep Γ σ' t.heap) (rA Γ)) 0 0 (rA Γ) := by
  refine Met.ofW (cc := cX7_reasonAgainstFile) (maxL := 5) (ret := (some .int)) (by decide) rfl ?_
  intro p e s m args below meth c s₁ B hml hv
  obtain ⟨rfl, hR, hE⟩ := hv
  have F : Fx Γ p s m meth c _ cX7_reasonAgainstFile 5 RX7 wsX7_reasonAgainstFile (some .int) := ⟨⟨B.exec, B.bytes, hml, findClass_of_methodNamed B.named, atoms_spec (ws := wsX7_reasonAgainstFile) B.pre⟩, hE, B.notSynchronized, B.returns⟩
  have hl := lv_entry ([.ref o, .long p1, .long p2]) (n := 5) (Nat.le_of_ble_eq_true rfl)
  rw [lg_entry_eq]
  generalize (lg_sl ([.ref o, .long p1, .long p2]) ++ List.replicate (5 - (lg_sl ([.ref o, .long p1, .long p2])).length) Slot.unset).toArray = ls at hl ⊢
  have hl : lv_has ls 5 [(0, .ref o), (1, .long p1), (3, .long p2)] := hl
  exact bX7_reasonAgainstFile F h hR va_S.rf hl ⟨Nat.le_refl 0, Nat.le_refl 0⟩
