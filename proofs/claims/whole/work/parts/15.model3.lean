/-! X8_fileFault -/
theorem mX8_fileFault_0 : Cond.fieldLink RX8 155 "ClearingFilesModel" "sender" "I" ∈ wsX8_fileFault := by decide +kernel
theorem mX8_fileFault_1 : Cond.fieldLink RX8 191 "ClearingFilesModel" "fileCount" "I" ∈ wsX8_fileFault := by decide +kernel
theorem mX8_fileFault_2 : Cond.fieldLink RX8 161 "ClearingFilesModel" "batches" "I" ∈ wsX8_fileFault := by decide +kernel
theorem mX8_fileFault_3 : Cond.fieldLink RX8 164 "ClearingFilesModel" "entries" "I" ∈ wsX8_fileFault := by decide +kernel
theorem mX8_fileFault_4 : Cond.fieldLink RX8 69 "ClearingFilesModel" "files" "[I" ∈ wsX8_fileFault := by decide +kernel
theorem mX8_fileFault_5 : Cond.fieldLink RX8 158 "ClearingFilesModel" "fileNumber" "I" ∈ wsX8_fileFault := by decide +kernel
theorem nX8_fileFault_X8 : ∀ w ∈ u_ws RX8 TX8 46, w ∈ wsX8_fileFault := fun _ h => List.mem_cons_of_mem _ (List.mem_append_right _ h)
abbrev rmX8_fileFault : Room := { frames := 3, cells := 0, slots := 0, locals := 71 }
set_option maxRecDepth 100000 in
def wX8_fileFault_110 (o : Nat) (post : Int32 → St → Prop) (x3 : Int64) (y0 : Int32) (σ0 : St) : Prop :=
  (y0 = 0 → (post (12 : Int32) σ0)) ∧ (¬ y0 = 0 → (wX8_digits x3 (0 : Int32) (9 : Int32) (fun (x20 : Int32) (σ18 : St) => sK σ18 o = 9 ∧ (wX8_total o (-1 : Int32) (2 : Int32) (fun (x24 : Int64) (σ22 : St) => ((lg_cmp x20.toInt64 x24) = 0 → (wX8_digits x3 (9 : Int32) (9 : Int32) (fun (x28 : Int32) (σ26 : St) => sK σ26 o = 9 ∧ (wX8_total o (-1 : Int32) (3 : Int32) (fun (x32 : Int64) (σ30 : St) => ((lg_cmp x28.toInt64 x32) = 0 → (sK σ30 o = 9 ∧ (wX8_waitingInAll o (fun (x37 : Int32) (σ35 : St) => sK σ35 o = 9 ∧ (wX8_goodEntries o (fun (x41 : Int32) (σ39 : St) => ((x37 + x41) ≤ (40 : Int32) → (post (0 : Int32) σ39)) ∧ (¬ (x37 + x41) ≤ (40 : Int32) → (post (13 : Int32) σ39))) σ35)) σ30))) ∧ (¬ (lg_cmp x28.toInt64 x32) = 0 → (post (12 : Int32) σ30))) σ26)) σ22)) ∧ (¬ (lg_cmp x20.toInt64 x24) = 0 → (post (12 : Int32) σ22))) σ18)) σ0))
set_option maxHeartbeats 4000000 in
set_option maxRecDepth 100000 in
theorem bX8_fileFault_110 {p : Program} {l : Launch} {e : Env} {s : State} {m : MethodId} {args : Array Value} {below : List Frame} {meth : Method} {c : Code} {Γ : rGam} {o : Nat} {post : Int32 → St → Prop} (F : Fx Γ p s m meth c args cX8_fileFault 7 RX8 wsX8_fileFault (some .int)) {H : Heap} {locs : List Loc} {ls : Array Slot} {cells slots : Nat} {x3 : Int64} {y0 : Int32} {σ0 : St} (h : wX8_fileFault_110 o post x3 y0 σ0) (hR : Rep Γ σ0 H) (hS : va_S (rA Γ) s.heap H locs) (hl : lv_has ls 7 [(0, .ref o), (3, .long x3)]) (hc : cells ≤ 0 ∧ slots ≤ 0) : W p l e rmX8_fileFault s m args below meth c H locs cells slots (rQi Γ below post args s 0 0) (F0 m 110 ls [.int y0]) := by
  have hx := F.1.1
  have hb := F.1.2.1
  unfold wX8_fileFault_110 at h
  refine s_istore (lk := []) (lv' := [(6, .int y0), (0, .ref o), (3, .long x3)]) hx hb dX8_fileFault_110 hl (by decide) rfl lk_0 rfl (fun ls hl16 => ?_)
  refine lv_iload hx hb dX8_fileFault_112 (lv_at hl16 0 rfl) ?_
  refine lv_if_eq (tgt := 154) hx hb dX8_fileFault_114 (by decide) (fun c17 => ?_) (fun c17 => ?_)
  · replace h := h.1 c17
    refine lv_bipush (v := 12) hx hb dX8_fileFault_154 (by decide) ?_
    exact s_iret F hR hS h hc dX8_fileFault_156
  · replace h := h.2 c17
    refine lv_lload_n hx hb dX8_fileFault_117 rfl (lv_at hl16 2 rfl) ?_
    refine lv_iconst (v := 0) hx hb dX8_fileFault_118 (by decide) ?_
    refine lv_bipush (v := 9) hx hb dX8_fileFault_119 (by decide) ?_
    refine s_ci hS (k_runS F hR hS hl16 3 [.long x3, .int (0 : Int32), .int (9 : Int32)] (kX8_digits l Γ x3 (0 : Int32) (9 : Int32) _ _ h) gX8_fileFault_X8_digits rfl rfl rfl (by decide +kernel) ⟨Nat.le_of_ble_eq_true rfl, Nat.le_of_ble_eq_true rfl⟩ rfl (Nat.le_of_ble_eq_true rfl) dX8_fileFault_121 ⟨by show _ ≤ 0; omega, by show _ ≤ 0; omega⟩) (fun x20 σ18 H locs h19 hR hS => ?_)
    refine lv_i2l hx hb dX8_fileFault_124 rfl ?_
    refine lv_aload_n hx hb dX8_fileFault_125 rfl (lv_at hl16 1 rfl) ?_
    refine lv_iconst (v := -1) hx hb dX8_fileFault_126 (by decide) ?_
    refine lv_iconst (v := 2) hx hb dX8_fileFault_127 (by decide) ?_
    obtain ⟨k21, h19⟩ := h19
    refine s_cl hS (k_runV F hR hS hl16 2 [.int (-1 : Int32), .int (2 : Int32)] (kX8_total l Γ o (-1 : Int32) (2 : Int32) _ _ h19) gX8_fileFault_X8_total rfl rfl rfl (by decide +kernel) ⟨Nat.le_of_ble_eq_true rfl, Nat.le_of_ble_eq_true rfl⟩ (s_recv F hR k21 (by decide) (C := RX8) (T := TX8) (N := 46) rfl) rfl (Nat.le_of_ble_eq_true rfl) dX8_fileFault_128 ⟨by show _ ≤ 0; omega, by show _ ≤ 0; omega⟩) (fun x24 σ22 H locs h23 hR hS => ?_)
    refine W.lcmp hx hb dX8_fileFault_131 ?_
    refine lv_if_ne (tgt := 154) hx hb dX8_fileFault_132 (by decide) (fun c25 => ?_) (fun c25 => ?_)
    · replace h23 := h23.2 c25
      refine lv_bipush (v := 12) hx hb dX8_fileFault_154 (by decide) ?_
      exact s_iret F hR hS h23 hc dX8_fileFault_156
    · replace h23 := h23.1 c25
      refine lv_lload_n hx hb dX8_fileFault_135 rfl (lv_at hl16 2 rfl) ?_
      refine lv_bipush (v := 9) hx hb dX8_fileFault_136 (by decide) ?_
      refine lv_bipush (v := 9) hx hb dX8_fileFault_138 (by decide) ?_
      refine s_ci hS (k_runS F hR hS hl16 3 [.long x3, .int (9 : Int32), .int (9 : Int32)] (kX8_digits l Γ x3 (9 : Int32) (9 : Int32) _ _ h23) gX8_fileFault_X8_digits rfl rfl rfl (by decide +kernel) ⟨Nat.le_of_ble_eq_true rfl, Nat.le_of_ble_eq_true rfl⟩ rfl (Nat.le_of_ble_eq_true rfl) dX8_fileFault_140 ⟨by show _ ≤ 0; omega, by show _ ≤ 0; omega⟩) (fun x28 σ26 H locs h27 hR hS => ?_)
      refine lv_i2l hx hb dX8_fileFault_143 rfl ?_
      refine lv_aload_n hx hb dX8_fileFault_144 rfl (lv_at hl16 1 rfl) ?_
      refine lv_iconst (v := -1) hx hb dX8_fileFault_145 (by decide) ?_
      refine lv_iconst (v := 3) hx hb dX8_fileFault_146 (by decide) ?_
      obtain ⟨k29, h27⟩ := h27
      refine s_cl hS (k_runV F hR hS hl16 2 [.int (-1 : Int32), .int (3 : Int32)] (kX8_total l Γ o (-1 : Int32) (3 : Int32) _ _ h27) gX8_fileFault_X8_total rfl rfl rfl (by decide +kernel) ⟨Nat.le_of_ble_eq_true rfl, Nat.le_of_ble_eq_true rfl⟩ (s_recv F hR k29 (by decide) (C := RX8) (T := TX8) (N := 46) rfl) rfl (Nat.le_of_ble_eq_true rfl) dX8_fileFault_147 ⟨by show _ ≤ 0; omega, by show _ ≤ 0; omega⟩) (fun x32 σ30 H locs h31 hR hS => ?_)
      refine W.lcmp hx hb dX8_fileFault_150 ?_
      refine lv_if_eq (tgt := 157) hx hb dX8_fileFault_151 (by decide) (fun c33 => ?_) (fun c33 => ?_)
      · replace h31 := h31.1 c33
        refine lv_aload_n hx hb dX8_fileFault_157 rfl (lv_at hl16 1 rfl) ?_
        obtain ⟨k34, h31⟩ := h31
        refine s_ci hS (k_runV F hR hS hl16 0 [] (kX8_waitingInAll l Γ o _ _ h31) gX8_fileFault_X8_waitingInAll rfl rfl rfl (by decide +kernel) ⟨Nat.le_of_ble_eq_true rfl, Nat.le_of_ble_eq_true rfl⟩ (s_recv F hR k34 (by decide) (C := RX8) (T := TX8) (N := 46) rfl) rfl (Nat.le_of_ble_eq_true rfl) dX8_fileFault_158 ⟨by show _ ≤ 0; omega, by show _ ≤ 0; omega⟩) (fun x37 σ35 H locs h36 hR hS => ?_)
        refine lv_aload_n hx hb dX8_fileFault_161 rfl (lv_at hl16 1 rfl) ?_
        obtain ⟨k38, h36⟩ := h36
        refine s_ci hS (k_runV F hR hS hl16 0 [] (kX8_goodEntries l Γ o _ _ h36) gX8_fileFault_X8_goodEntries rfl rfl rfl (by decide +kernel) ⟨Nat.le_of_ble_eq_true rfl, Nat.le_of_ble_eq_true rfl⟩ (s_recv F hR k38 (by decide) (C := RX8) (T := TX8) (N := 46) rfl) rfl (Nat.le_of_ble_eq_true rfl) dX8_fileFault_162 ⟨by show _ ≤ 0; omega, by show _ ≤ 0; omega⟩) (fun x41 σ39 H locs h40 hR hS => ?_)
        refine lv_iadd hx hb dX8_fileFault_165 ?_
        refine lv_bipush (v := 40) hx hb dX8_fileFault_166 (by decide) ?_
        refine lv_icmp_le (tgt := 176) hx hb dX8_fileFault_168 (by decide) (fun c42 => ?_) (fun c42 => ?_)
        · replace h40 := h40.1 c42
          refine lv_iconst (v := 0) hx hb dX8_fileFault_176 (by decide) ?_
          exact s_iret F hR hS h40 hc dX8_fileFault_177
        · replace h40 := h40.2 c42
          refine lv_bipush (v := 13) hx hb dX8_fileFault_171 (by decide) ?_
          refine lv_goto (tgt := 177) hx hb dX8_fileFault_173 (by decide) ?_
          exact s_iret F hR hS h40 hc dX8_fileFault_177
      · replace h31 := h31.2 c33
        refine lv_bipush (v := 12) hx hb dX8_fileFault_154 (by decide) ?_
        exact s_iret F hR hS h31 hc dX8_fileFault_156

set_option maxRecDepth 100000 in
def wX8_fileFault_109 (o : Nat) (post : Int32 → St → Prop) (x3 : Int64) (σ0 : St) : Prop :=
  wX8_fileFault_110 o post x3 (0 : Int32) σ0
set_option maxHeartbeats 4000000 in
set_option maxRecDepth 100000 in
theorem bX8_fileFault_109 {p : Program} {l : Launch} {e : Env} {s : State} {m : MethodId} {args : Array Value} {below : List Frame} {meth : Method} {c : Code} {Γ : rGam} {o : Nat} {post : Int32 → St → Prop} (F : Fx Γ p s m meth c args cX8_fileFault 7 RX8 wsX8_fileFault (some .int)) {H : Heap} {locs : List Loc} {ls : Array Slot} {cells slots : Nat} {x3 : Int64} {σ0 : St} (h : wX8_fileFault_109 o post x3 σ0) (hR : Rep Γ σ0 H) (hS : va_S (rA Γ) s.heap H locs) (hl : lv_has ls 7 [(0, .ref o), (3, .long x3)]) (hc : cells ≤ 0 ∧ slots ≤ 0) : W p l e rmX8_fileFault s m args below meth c H locs cells slots (rQi Γ below post args s 0 0) (F0 m 109 ls []) := by
  have hx := F.1.1
  have hb := F.1.2.1
  unfold wX8_fileFault_109 at h
  refine lv_iconst (v := 0) hx hb dX8_fileFault_109 (by decide) ?_
  exact bX8_fileFault_110 F h hR hS (lv_sub hl [0, 1] rfl) hc

set_option maxRecDepth 100000 in
def wX8_fileFault_21 (o : Nat) (post : Int32 → St → Prop) : Nat → Int64 → Int64 → Int32 → Int32 → St → Prop
  | 0, _, _, _, _, _ => False
  | n + 1, x1, x3, x5, x6, σ0 =>
    sK σ0 o = 9 ∧ (((sI σ0 478 o 0) ≤ x6 → (wX8_digits x1 (1 : Int32) (4 : Int32) (fun (x13 : Int32) (σ11 : St) => sK σ11 o = 9 ∧ ((x13 = (sI σ11 462 o 0) → (wX8_digits x1 (5 : Int32) (4 : Int32) (fun (x45 : Int32) (σ43 : St) => sK σ43 o = 9 ∧ ((x45 = (sI σ43 463 o 0) → (wX8_digits x1 (9 : Int32) (6 : Int32) (fun (x50 : Int32) (σ48 : St) => sK σ48 o = 9 ∧ (wX8_total o (-1 : Int32) (1 : Int32) (fun (x54 : Int64) (σ52 : St) => ((lg_cmp x50.toInt64 x54) = 0 → (wX8_fileFault_110 o post x3 (1 : Int32) σ52)) ∧ (¬ (lg_cmp x50.toInt64 x54) = 0 → (wX8_fileFault_109 o post x3 σ52))) σ48)) σ43)) ∧ (¬ x45 = (sI σ43 463 o 0) → (wX8_fileFault_109 o post x3 σ43)))) σ11)) ∧ (¬ x13 = (sI σ11 462 o 0) → (wX8_fileFault_109 o post x3 σ11)))) σ0)) ∧ (¬ (sI σ0 478 o 0) ≤ x6 → (sK σ0 o = 9 ∧ (∀ r57 : Option Nat, r57 = sR σ0 477 o 0 → (∃ a58 : Nat, r57 = some a58 ∧ (sK σ0 a58 = 1477 ∧ (vp_in x6 256 ∧ (sK σ0 o = 9 ∧ (((sI σ0 1477 a58 x6.toNatClampNeg) = (((10000 : Int32) * x5) + (sI σ0 461 o 0)) → (post (11 : Int32) σ0)) ∧ (¬ (sI σ0 1477 a58 x6.toNatClampNeg) = (((10000 : Int32) * x5) + (sI σ0 461 o 0)) → (∀ x63 : Int32, x63 = x6 + (1 : Int32) → (wX8_fileFault_21 o post n x1 x3 x5 x63 σ0))))))))))))
set_option maxHeartbeats 4000000 in
set_option maxRecDepth 100000 in
theorem bX8_fileFault_21 {p : Program} {l : Launch} {e : Env} {s : State} {m : MethodId} {args : Array Value} {below : List Frame} {meth : Method} {c : Code} {Γ : rGam} {o : Nat} {post : Int32 → St → Prop} (F : Fx Γ p s m meth c args cX8_fileFault 7 RX8 wsX8_fileFault (some .int)) : ∀ (n : Nat) (x1 : Int64) (x3 : Int64) (x5 : Int32) (x6 : Int32) (σ0 : St) (H : Heap) (locs : List Loc) (ls : Array Slot) (cells slots : Nat), wX8_fileFault_21 o post n x1 x3 x5 x6 σ0 → Rep Γ σ0 H → va_S (rA Γ) s.heap H locs → lv_has ls 7 [(0, .ref o), (1, .long x1), (3, .long x3), (5, .int x5), (6, .int x6)] → cells ≤ 0 ∧ slots ≤ 0 → W p l e rmX8_fileFault s m args below meth c H locs cells slots (rQi Γ below post args s 0 0) (F0 m 21 ls []) := by
  have hx := F.1.1
  have hb := F.1.2.1
  intro n
  induction n with
  | zero =>
    intro x1 x3 x5 x6 σ0 H locs ls cells slots h
    exact absurd h (by unfold wX8_fileFault_21; exact id)
  | succ n ih =>
    intro x1 x3 x5 x6 σ0 H locs ls cells slots h hR hS hl hc
    unfold wX8_fileFault_21 at h
    refine lv_iload hx hb dX8_fileFault_21 (lv_at hl 4 rfl) ?_
    refine lv_aload_n hx hb dX8_fileFault_23 rfl (lv_at hl 0 rfl) ?_
    obtain ⟨k9, h⟩ := h
    refine s_getI F hR k9 (by decide) (C := RX8) (T := TX8) (N := 46) rfl nX8_fileFault_X8 28 (by decide) mX8_fileFault_1 (f := 478) rfl dX8_fileFault_24 ?_
    refine lv_icmp_ge (tgt := 60) hx hb dX8_fileFault_27 (by decide) (fun c10 => ?_) (fun c10 => ?_)
    · replace h := h.1 c10
      refine lv_lload_n hx hb dX8_fileFault_60 rfl (lv_at hl 1 rfl) ?_
      refine lv_iconst (v := 1) hx hb dX8_fileFault_61 (by decide) ?_
      refine lv_iconst (v := 4) hx hb dX8_fileFault_62 (by decide) ?_
      refine s_ci hS (k_runS F hR hS hl 3 [.long x1, .int (1 : Int32), .int (4 : Int32)] (kX8_digits l Γ x1 (1 : Int32) (4 : Int32) _ _ h) gX8_fileFault_X8_digits rfl rfl rfl (by decide +kernel) ⟨Nat.le_of_ble_eq_true rfl, Nat.le_of_ble_eq_true rfl⟩ rfl (Nat.le_of_ble_eq_true rfl) dX8_fileFault_63 ⟨by show _ ≤ 0; omega, by show _ ≤ 0; omega⟩) (fun x13 σ11 H locs h12 hR hS => ?_)
      refine lv_aload_n hx hb dX8_fileFault_66 rfl (lv_at hl 0 rfl) ?_
      obtain ⟨k14, h12⟩ := h12
      refine s_getI F hR k14 (by decide) (C := RX8) (T := TX8) (N := 46) rfl nX8_fileFault_X8 12 (by decide) mX8_fileFault_2 (f := 462) rfl dX8_fileFault_67 ?_
      refine lv_icmp_ne (tgt := 109) hx hb dX8_fileFault_70 (by decide) (fun c15 => ?_) (fun c15 => ?_)
      · replace h12 := h12.2 c15
        exact bX8_fileFault_109 F h12 hR hS (lv_sub hl [0, 2] rfl) hc
      · replace h12 := h12.1 c15
        refine lv_lload_n hx hb dX8_fileFault_73 rfl (lv_at hl 1 rfl) ?_
        refine lv_iconst (v := 5) hx hb dX8_fileFault_74 (by decide) ?_
        refine lv_iconst (v := 4) hx hb dX8_fileFault_75 (by decide) ?_
        refine s_ci hS (k_runS F hR hS hl 3 [.long x1, .int (5 : Int32), .int (4 : Int32)] (kX8_digits l Γ x1 (5 : Int32) (4 : Int32) _ _ h12) gX8_fileFault_X8_digits rfl rfl rfl (by decide +kernel) ⟨Nat.le_of_ble_eq_true rfl, Nat.le_of_ble_eq_true rfl⟩ rfl (Nat.le_of_ble_eq_true rfl) dX8_fileFault_76 ⟨by show _ ≤ 0; omega, by show _ ≤ 0; omega⟩) (fun x45 σ43 H locs h44 hR hS => ?_)
        refine lv_aload_n hx hb dX8_fileFault_79 rfl (lv_at hl 0 rfl) ?_
        obtain ⟨k46, h44⟩ := h44
        refine s_getI F hR k46 (by decide) (C := RX8) (T := TX8) (N := 46) rfl nX8_fileFault_X8 13 (by decide) mX8_fileFault_3 (f := 463) rfl dX8_fileFault_80 ?_
        refine lv_icmp_ne (tgt := 109) hx hb dX8_fileFault_83 (by decide) (fun c47 => ?_) (fun c47 => ?_)
        · replace h44 := h44.2 c47
          exact bX8_fileFault_109 F h44 hR hS (lv_sub hl [0, 2] rfl) hc
        · replace h44 := h44.1 c47
          refine lv_lload_n hx hb dX8_fileFault_86 rfl (lv_at hl 1 rfl) ?_
          refine lv_bipush (v := 9) hx hb dX8_fileFault_87 (by decide) ?_
          refine lv_bipush (v := 6) hx hb dX8_fileFault_89 (by decide) ?_
          refine s_ci hS (k_runS F hR hS hl 3 [.long x1, .int (9 : Int32), .int (6 : Int32)] (kX8_digits l Γ x1 (9 : Int32) (6 : Int32) _ _ h44) gX8_fileFault_X8_digits rfl rfl rfl (by decide +kernel) ⟨Nat.le_of_ble_eq_true rfl, Nat.le_of_ble_eq_true rfl⟩ rfl (Nat.le_of_ble_eq_true rfl) dX8_fileFault_91 ⟨by show _ ≤ 0; omega, by show _ ≤ 0; omega⟩) (fun x50 σ48 H locs h49 hR hS => ?_)
          refine lv_i2l hx hb dX8_fileFault_94 rfl ?_
          refine lv_aload_n hx hb dX8_fileFault_95 rfl (lv_at hl 0 rfl) ?_
          refine lv_iconst (v := -1) hx hb dX8_fileFault_96 (by decide) ?_
          refine lv_iconst (v := 1) hx hb dX8_fileFault_97 (by decide) ?_
          obtain ⟨k51, h49⟩ := h49
          refine s_cl hS (k_runV F hR hS hl 2 [.int (-1 : Int32), .int (1 : Int32)] (kX8_total l Γ o (-1 : Int32) (1 : Int32) _ _ h49) gX8_fileFault_X8_total rfl rfl rfl (by decide +kernel) ⟨Nat.le_of_ble_eq_true rfl, Nat.le_of_ble_eq_true rfl⟩ (s_recv F hR k51 (by decide) (C := RX8) (T := TX8) (N := 46) rfl) rfl (Nat.le_of_ble_eq_true rfl) dX8_fileFault_98 ⟨by show _ ≤ 0; omega, by show _ ≤ 0; omega⟩) (fun x54 σ52 H locs h53 hR hS => ?_)
          refine W.lcmp hx hb dX8_fileFault_101 ?_
          refine lv_if_ne (tgt := 109) hx hb dX8_fileFault_102 (by decide) (fun c55 => ?_) (fun c55 => ?_)
          · replace h53 := h53.2 c55
            exact bX8_fileFault_109 F h53 hR hS (lv_sub hl [0, 2] rfl) hc
          · replace h53 := h53.1 c55
            refine lv_iconst (v := 1) hx hb dX8_fileFault_105 (by decide) ?_
            refine lv_goto (tgt := 110) hx hb dX8_fileFault_106 (by decide) ?_
            exact bX8_fileFault_110 F h53 hR hS (lv_sub hl [0, 2] rfl) hc
    · replace h := h.2 c10
      refine lv_aload_n hx hb dX8_fileFault_30 rfl (lv_at hl 0 rfl) ?_
      obtain ⟨k56, h⟩ := h
      refine s_getR F hR k56 (by decide) (C := RX8) (T := TX8) (N := 46) rfl nX8_fileFault_X8 27 (by decide) mX8_fileFault_4 (f := 477) rfl dX8_fileFault_31 (fun r57 er57 => ?_)
      replace h := h r57 er57
      refine lv_iload hx hb dX8_fileFault_34 (lv_at hl 4 rfl) ?_
      obtain ⟨a58, ea58, h⟩ := h
      subst ea58
      obtain ⟨k59, h⟩ := h
      obtain ⟨z60, h⟩ := h
      refine s_iald F hR k59 (by decide) rfl z60 dX8_fileFault_36 ?_
      refine lv_sipush (v := 10000) hx hb dX8_fileFault_37 (by decide) ?_
      refine lv_iload hx hb dX8_fileFault_40 (lv_at hl 3 rfl) ?_
      refine lv_imul hx hb dX8_fileFault_42 ?_
      refine lv_aload_n hx hb dX8_fileFault_43 rfl (lv_at hl 0 rfl) ?_
      obtain ⟨k61, h⟩ := h
      refine s_getI F hR k61 (by decide) (C := RX8) (T := TX8) (N := 46) rfl nX8_fileFault_X8 11 (by decide) mX8_fileFault_5 (f := 461) rfl dX8_fileFault_44 ?_
      refine lv_iadd hx hb dX8_fileFault_47 ?_
      refine lv_icmp_ne (tgt := 54) hx hb dX8_fileFault_48 (by decide) (fun c62 => ?_) (fun c62 => ?_)
      · replace h := h.2 c62
        obtain ⟨x63, ex63⟩ : ∃ x : Int32, x = x6 + (1 : Int32) := ⟨_, rfl⟩
        replace h := h x63 ex63
        refine s_iinc (v := x63) (d := 1) (lk := [(5, .int x5)]) (lv' := [(6, .int x63), (0, .ref o), (1, .long x1), (3, .long x3), (5, .int x5)]) hx hb dX8_fileFault_54 hl (k := 4) rfl (by decide) (by decide) rfl (lk_1 rfl) ex63 rfl (fun ls hl64 => ?_)
        refine lv_goto (tgt := 21) hx hb dX8_fileFault_57 (by decide) ?_
        exact ih x1 x3 x5 x63 σ0 _ _ _ _ _ h hR hS (lv_sub hl64 [1, 2, 3, 4, 0] rfl) hc
      · replace h := h.1 c62
        refine lv_bipush (v := 11) hx hb dX8_fileFault_51 (by decide) ?_
        exact s_iret F hR hS h hc dX8_fileFault_53

set_option maxRecDepth 100000 in
def wX8_fileFault (o : Nat) (p1 : Int64) (p2 : Int64) (post : Int32 → St → Prop) (σ0 : St) : Prop :=
  sK σ0 o = 9 ∧ (sK σ0 o = 9 ∧ (wX8_bankOf o (sI σ0 460 o 0) (fun (x5 : Int32) (σ3 : St) => (0 ≤ x5 → (∃ n65 : Nat, wX8_fileFault_21 o post n65 p1 p2 x5 (0 : Int32) σ3)) ∧ (¬ 0 ≤ x5 → (post (10 : Int32) σ3))) σ0))
set_option maxHeartbeats 4000000 in
set_option maxRecDepth 100000 in
theorem bX8_fileFault {p : Program} {l : Launch} {e : Env} {s : State} {m : MethodId} {args : Array Value} {below : List Frame} {meth : Method} {c : Code} {Γ : rGam} {o : Nat} {post : Int32 → St → Prop} (F : Fx Γ p s m meth c args cX8_fileFault 7 RX8 wsX8_fileFault (some .int)) {H : Heap} {locs : List Loc} {ls : Array Slot} {cells slots : Nat} {p1 : Int64} {p2 : Int64} {σ0 : St} (h : wX8_fileFault o p1 p2 post σ0) (hR : Rep Γ σ0 H) (hS : va_S (rA Γ) s.heap H locs) (hl : lv_has ls 7 [(0, .ref o), (1, .long p1), (3, .long p2)]) (hc : cells ≤ 0 ∧ slots ≤ 0) : W p l e rmX8_fileFault s m args below meth c H locs cells slots (rQi Γ below post args s 0 0) (F0 m 0 ls []) := by
  have hx := F.1.1
  have hb := F.1.2.1
  unfold wX8_fileFault at h
  refine lv_aload_n hx hb dX8_fileFault_0 rfl (lv_at hl 0 rfl) ?_
  refine lv_aload_n hx hb dX8_fileFault_1 rfl (lv_at hl 0 rfl) ?_
  obtain ⟨k1, h⟩ := h
  refine s_getI F hR k1 (by decide) (C := RX8) (T := TX8) (N := 46) rfl nX8_fileFault_X8 10 (by decide) mX8_fileFault_0 (f := 460) rfl dX8_fileFault_2 ?_
  obtain ⟨k2, h⟩ := h
  refine s_ci hS (k_runV F hR hS hl 1 [.int (sI σ0 460 o 0)] (kX8_bankOf l Γ o (sI σ0 460 o 0) _ _ h) gX8_fileFault_X8_bankOf rfl rfl rfl (by decide +kernel) ⟨Nat.le_of_ble_eq_true rfl, Nat.le_of_ble_eq_true rfl⟩ (s_recv F hR k2 (by decide) (C := RX8) (T := TX8) (N := 46) rfl) rfl (Nat.le_of_ble_eq_true rfl) dX8_fileFault_5 ⟨by show _ ≤ 0; omega, by show _ ≤ 0; omega⟩) (fun x5 σ3 H locs h4 hR hS => ?_)
  refine s_istore (lk := []) (lv' := [(5, .int x5), (0, .ref o), (1, .long p1), (3, .long p2)]) hx hb dX8_fileFault_8 hl (by decide) rfl lk_0 rfl (fun ls hl6 => ?_)
  refine lv_iload hx hb dX8_fileFault_10 (lv_at hl6 0 rfl) ?_
  refine lv_if_ge (tgt := 18) hx hb dX8_fileFault_12 (by decide) (fun c7 => ?_) (fun c7 => ?_)
  · replace h4 := h4.1 c7
    refine lv_iconst (v := 0) hx hb dX8_fileFault_18 (by decide) ?_
    refine s_istore (lk := [(5, .int x5)]) (lv' := [(6, .int (0 : Int32)), (5, .int x5), (0, .ref o), (1, .long p1), (3, .long p2)]) hx hb dX8_fileFault_19 hl6 (by decide) rfl (lk_1 rfl) rfl (fun ls hl8 => ?_)
    obtain ⟨n65, h4⟩ := h4
    exact bX8_fileFault_21 F n65 p1 p2 x5 (0 : Int32) σ3 _ _ _ _ _ h4 hR hS (lv_sub hl8 [2, 3, 4, 1, 0] rfl) hc
  · replace h4 := h4.2 c7
    refine lv_bipush (v := 10) hx hb dX8_fileFault_15 (by decide) ?_
    exact s_iret F hR hS h4 hc dX8_fileFault_17
set_option maxHeartbeats 4000000 in
set_option maxRecDepth 100000 in
theorem kX8_fileFault (l : Launch) (Γ : rGam) (o : Nat) (p1 : Int64) (p2 : Int64) (post : Int32 → St → Prop) (σ0 : St) (h : wX8_fileFault o p1 p2 post σ0) : Met l yX8_fileFault wsX8_fileFault rmX8_fileFault (rPc Γ vwCl [.ref o, .long p1, .long p2] (Rep Γ σ0)) (va_Qi post (fun σ' t => Rep Γ σ' t.heap) (rA Γ)) 0 0 (rA Γ) := by
  refine Met.ofW (cc := cX8_fileFault) (maxL := 7) (ret := (some .int)) (by decide) rfl ?_
  intro p e s m args below meth c s₁ B hml hv
  obtain ⟨rfl, hR, hE⟩ := hv
  have F : Fx Γ p s m meth c _ cX8_fileFault 7 RX8 wsX8_fileFault (some .int) := ⟨⟨B.exec, B.bytes, hml, findClass_of_methodNamed B.named, atoms_spec (ws := wsX8_fileFault) B.pre⟩, hE, B.notSynchronized, B.returns⟩
  have hl := lv_entry ([.ref o, .long p1, .long p2]) (n := 7) (Nat.le_of_ble_eq_true rfl)
  rw [lg_entry_eq]
  generalize (lg_sl ([.ref o, .long p1, .long p2]) ++ List.replicate (7 - (lg_sl ([.ref o, .long p1, .long p2])).length) Slot.unset).toArray = ls at hl ⊢
  have hl : lv_has ls 7 [(0, .ref o), (1, .long p1), (3, .long p2)] := hl
  exact bX8_fileFault F h hR va_S.rf hl ⟨Nat.le_refl 0, Nat.le_refl 0⟩
/-! X8_accept -/
theorem mX8_accept_0 : Cond.fieldLink RX8 51 "ClearingFilesModel" "inBatch" "[I" ∈ wsX8_accept := by decide +kernel
theorem mX8_accept_1 : Cond.fieldLink RX8 72 "ClearingFilesModel" "code" "[I" ∈ wsX8_accept := by decide +kernel
theorem mX8_accept_2 : Cond.fieldLink RX8 182 "ClearingFilesModel" "rows" "I" ∈ wsX8_accept := by decide +kernel
theorem mX8_accept_3 : Cond.fieldLink RX8 54 "ClearingFilesModel" "inCode" "[I" ∈ wsX8_accept := by decide +kernel
theorem mX8_accept_4 : Cond.fieldLink RX8 75 "ClearingFilesModel" "giver" "[I" ∈ wsX8_accept := by decide +kernel
theorem mX8_accept_5 : Cond.fieldLink RX8 30 "ClearingFilesModel" "from" "[I" ∈ wsX8_accept := by decide +kernel
theorem mX8_accept_6 : Cond.fieldLink RX8 78 "ClearingFilesModel" "taker" "[I" ∈ wsX8_accept := by decide +kernel
theorem mX8_accept_7 : Cond.fieldLink RX8 57 "ClearingFilesModel" "inRouting" "[I" ∈ wsX8_accept := by decide +kernel
theorem mX8_accept_8 : Cond.fieldLink RX8 81 "ClearingFilesModel" "account" "[I" ∈ wsX8_accept := by decide +kernel
theorem mX8_accept_9 : Cond.fieldLink RX8 60 "ClearingFilesModel" "inAccount" "[I" ∈ wsX8_accept := by decide +kernel
theorem mX8_accept_10 : Cond.fieldLink RX8 84 "ClearingFilesModel" "amount" "[I" ∈ wsX8_accept := by decide +kernel
theorem mX8_accept_11 : Cond.fieldLink RX8 63 "ClearingFilesModel" "inAmount" "[I" ∈ wsX8_accept := by decide +kernel
theorem mX8_accept_12 : Cond.fieldLink RX8 87 "ClearingFilesModel" "trace" "[I" ∈ wsX8_accept := by decide +kernel
theorem mX8_accept_13 : Cond.fieldLink RX8 66 "ClearingFilesModel" "inTrace" "[I" ∈ wsX8_accept := by decide +kernel
theorem mX8_accept_14 : Cond.fieldLink RX8 90 "ClearingFilesModel" "due" "[I" ∈ wsX8_accept := by decide +kernel
theorem mX8_accept_15 : Cond.fieldLink RX8 36 "ClearingFilesModel" "batchDay" "[I" ∈ wsX8_accept := by decide +kernel
theorem mX8_accept_16 : Cond.fieldLink RX8 93 "ClearingFilesModel" "state" "[I" ∈ wsX8_accept := by decide +kernel
theorem nX8_accept_X8 : ∀ w ∈ u_ws RX8 TX8 46, w ∈ wsX8_accept := fun _ h => List.mem_cons_of_mem _ (List.mem_append_right _ h)
abbrev rmX8_accept : Room := { frames := 1, cells := 0, slots := 0, locals := 22 }
set_option maxRecDepth 100000 in
def wX8_accept (o : Nat) (p1 : Int32) (post : St → Prop) (σ0 : St) : Prop :=
  sK σ0 o = 9 ∧ (∀ r2 : Option Nat, r2 = sR σ0 471 o 0 → (∃ a3 : Nat, r2 = some a3 ∧ (sK σ0 a3 = 1471 ∧ (vp_in p1 20 ∧ (∀ x6 : Int32, x6 = (sI σ0 1471 a3 p1.toNatClampNeg) → (sK σ0 o = 9 ∧ (∀ r9 : Option Nat, r9 = sR σ0 480 o 0 → (sK σ0 o = 9 ∧ (sK σ0 o = 9 ∧ (∀ r12 : Option Nat, r12 = sR σ0 472 o 0 → (∃ a13 : Nat, r12 = some a13 ∧ (sK σ0 a13 = 1472 ∧ (vp_in p1 20 ∧ (∃ a16 : Nat, r9 = some a16 ∧ (sK σ0 a16 = 1480 ∧ (vp_in (sI σ0 479 o 0) 512 ∧ (∀ σ19 : St, σ19 = uI σ0 1480 a16 ((sI σ0 479 o 0).toNatClampNeg) (sI σ0 1472 a13 p1.toNatClampNeg) → (sK σ19 o = 9 ∧ (∀ r21 : Option Nat, r21 = sR σ19 481 o 0 → (sK σ19 o = 9 ∧ (sK σ19 o = 9 ∧ (∀ r24 : Option Nat, r24 = sR σ19 464 o 0 → (∃ a25 : Nat, r24 = some a25 ∧ (sK σ19 a25 = 1464 ∧ (vp_in x6 4 ∧ (sK σ19 o = 9 ∧ (wX8_bankOf o (sI σ19 1464 a25 x6.toNatClampNeg) (fun (x31 : Int32) (σ29 : St) => ∃ a32 : Nat, r21 = some a32 ∧ (sK σ29 a32 = 1481 ∧ (vp_in (sI σ19 479 o 0) 512 ∧ (∀ σ35 : St, σ35 = uI σ29 1481 a32 ((sI σ19 479 o 0).toNatClampNeg) x31 → (sK σ35 o = 9 ∧ (∀ r37 : Option Nat, r37 = sR σ35 482 o 0 → (sK σ35 o = 9 ∧ (sK σ35 o = 9 ∧ (∀ r40 : Option Nat, r40 = sR σ35 473 o 0 → (∃ a41 : Nat, r40 = some a41 ∧ (sK σ35 a41 = 1473 ∧ (vp_in p1 20 ∧ (sK σ35 o = 9 ∧ (wX8_bankOf o (sI σ35 1473 a41 p1.toNatClampNeg) (fun (x47 : Int32) (σ45 : St) => ∃ a48 : Nat, r37 = some a48 ∧ (sK σ45 a48 = 1482 ∧ (vp_in (sI σ35 479 o 0) 512 ∧ (∀ σ51 : St, σ51 = uI σ45 1482 a48 ((sI σ35 479 o 0).toNatClampNeg) x47 → (sK σ51 o = 9 ∧ (∀ r53 : Option Nat, r53 = sR σ51 483 o 0 → (sK σ51 o = 9 ∧ (sK σ51 o = 9 ∧ (∀ r56 : Option Nat, r56 = sR σ51 474 o 0 → (∃ a57 : Nat, r56 = some a57 ∧ (sK σ51 a57 = 1474 ∧ (vp_in p1 20 ∧ (∃ a60 : Nat, r53 = some a60 ∧ (sK σ51 a60 = 1483 ∧ (vp_in (sI σ51 479 o 0) 512 ∧ (∀ σ63 : St, σ63 = uI σ51 1483 a60 ((sI σ51 479 o 0).toNatClampNeg) (sI σ51 1474 a57 p1.toNatClampNeg) → (sK σ63 o = 9 ∧ (∀ r65 : Option Nat, r65 = sR σ63 484 o 0 → (sK σ63 o = 9 ∧ (sK σ63 o = 9 ∧ (∀ r68 : Option Nat, r68 = sR σ63 475 o 0 → (∃ a69 : Nat, r68 = some a69 ∧ (sK σ63 a69 = 1475 ∧ (vp_in p1 20 ∧ (∃ a72 : Nat, r65 = some a72 ∧ (sK σ63 a72 = 1484 ∧ (vp_in (sI σ63 479 o 0) 512 ∧ (∀ σ75 : St, σ75 = uI σ63 1484 a72 ((sI σ63 479 o 0).toNatClampNeg) (sI σ63 1475 a69 p1.toNatClampNeg) → (sK σ75 o = 9 ∧ (∀ r77 : Option Nat, r77 = sR σ75 485 o 0 → (sK σ75 o = 9 ∧ (sK σ75 o = 9 ∧ (∀ r80 : Option Nat, r80 = sR σ75 476 o 0 → (∃ a81 : Nat, r80 = some a81 ∧ (sK σ75 a81 = 1476 ∧ (vp_in p1 20 ∧ (∃ a84 : Nat, r77 = some a84 ∧ (sK σ75 a84 = 1485 ∧ (vp_in (sI σ75 479 o 0) 512 ∧ (∀ σ87 : St, σ87 = uI σ75 1485 a84 ((sI σ75 479 o 0).toNatClampNeg) (sI σ75 1476 a81 p1.toNatClampNeg) → (sK σ87 o = 9 ∧ (∀ r89 : Option Nat, r89 = sR σ87 486 o 0 → (sK σ87 o = 9 ∧ (sK σ87 o = 9 ∧ (∀ r92 : Option Nat, r92 = sR σ87 466 o 0 → (∃ a93 : Nat, r92 = some a93 ∧ (sK σ87 a93 = 1466 ∧ (vp_in x6 4 ∧ (∃ a96 : Nat, r89 = some a96 ∧ (sK σ87 a96 = 1486 ∧ (vp_in (sI σ87 479 o 0) 512 ∧ (∀ σ99 : St, σ99 = uI σ87 1486 a96 ((sI σ87 479 o 0).toNatClampNeg) (sI σ87 1466 a93 x6.toNatClampNeg) → (sK σ99 o = 9 ∧ (∀ r101 : Option Nat, r101 = sR σ99 487 o 0 → (sK σ99 o = 9 ∧ (∃ a103 : Nat, r101 = some a103 ∧ (sK σ99 a103 = 1487 ∧ (vp_in (sI σ99 479 o 0) 512 ∧ (∀ σ106 : St, σ106 = uI σ99 1487 a103 ((sI σ99 479 o 0).toNatClampNeg) (0 : Int32) → (sK σ106 o = 9 ∧ (sK σ106 o = 9 ∧ (∀ σ109 : St, σ109 = uI σ106 479 o 0 ((sI σ106 479 o 0) + (1 : Int32)) → (post σ109))))))))))))))))))))))))))))))))))))))))))))))))))))))))))))))) σ35)))))))))))))) σ19)))))))))))))))))))))))))))
set_option maxHeartbeats 4000000 in
set_option maxRecDepth 100000 in
theorem bX8_accept {p : Program} {l : Launch} {e : Env} {s : State} {m : MethodId} {args : Array Value} {below : List Frame} {meth : Method} {c : Code} {Γ : rGam} {o : Nat} {post : St → Prop} (F : Fx Γ p s m meth c args cX8_accept 3 RX8 wsX8_accept none) {H : Heap} {locs : List Loc} {ls : Array Slot} {cells slots : Nat} {p1 : Int32} {σ0 : St} (h : wX8_accept o p1 post σ0) (hR : Rep Γ σ0 H) (hS : va_S (rA Γ) s.heap H locs) (hl : lv_has ls 3 [(0, .ref o), (1, .int p1)]) (hc : cells ≤ 0 ∧ slots ≤ 0) : W p l e rmX8_accept s m args below meth c H locs cells slots (rQv Γ below post args s 0 0) (F0 m 0 ls []) := by
  have hx := F.1.1
  have hb := F.1.2.1
  unfold wX8_accept at h
  refine lv_aload_n hx hb dX8_accept_0 rfl (lv_at hl 0 rfl) ?_
  obtain ⟨k1, h⟩ := h
  refine s_getR F hR k1 (by decide) (C := RX8) (T := TX8) (N := 46) rfl nX8_accept_X8 21 (by decide) mX8_accept_0 (f := 471) rfl dX8_accept_1 (fun r2 er2 => ?_)
  replace h := h r2 er2
  refine lv_iload_n hx hb dX8_accept_4 rfl (lv_at hl 1 rfl) ?_
  obtain ⟨a3, ea3, h⟩ := h
  subst ea3
  obtain ⟨k4, h⟩ := h
  obtain ⟨z5, h⟩ := h
  refine s_iald F hR k4 (by decide) rfl z5 dX8_accept_5 ?_
  refine lv_topi (fun x6 ex6 => ?_)
  replace h := h x6 ex6
  refine s_istore_n (lk := [(1, .int p1)]) (lv' := [(2, .int x6), (0, .ref o), (1, .int p1)]) hx hb dX8_accept_6 rfl hl (by decide) rfl (lk_1 rfl) rfl (fun ls hl7 => ?_)
  refine lv_aload_n hx hb dX8_accept_7 rfl (lv_at hl7 1 rfl) ?_
  obtain ⟨k8, h⟩ := h
  refine s_getR F hR k8 (by decide) (C := RX8) (T := TX8) (N := 46) rfl nX8_accept_X8 30 (by decide) mX8_accept_1 (f := 480) rfl dX8_accept_8 (fun r9 er9 => ?_)
  replace h := h r9 er9
  refine lv_aload_n hx hb dX8_accept_11 rfl (lv_at hl7 1 rfl) ?_
  obtain ⟨k10, h⟩ := h
  refine s_getI F hR k10 (by decide) (C := RX8) (T := TX8) (N := 46) rfl nX8_accept_X8 29 (by decide) mX8_accept_2 (f := 479) rfl dX8_accept_12 ?_
  refine lv_aload_n hx hb dX8_accept_15 rfl (lv_at hl7 1 rfl) ?_
  obtain ⟨k11, h⟩ := h
  refine s_getR F hR k11 (by decide) (C := RX8) (T := TX8) (N := 46) rfl nX8_accept_X8 22 (by decide) mX8_accept_3 (f := 472) rfl dX8_accept_16 (fun r12 er12 => ?_)
  replace h := h r12 er12
  refine lv_iload_n hx hb dX8_accept_19 rfl (lv_at hl7 2 rfl) ?_
  obtain ⟨a13, ea13, h⟩ := h
  subst ea13
  obtain ⟨k14, h⟩ := h
  obtain ⟨z15, h⟩ := h
  refine s_iald F hR k14 (by decide) rfl z15 dX8_accept_20 ?_
  obtain ⟨a16, ea16, h⟩ := h
  subst ea16
  obtain ⟨k17, h⟩ := h
  obtain ⟨z18, h⟩ := h
  refine s_iast F hR hS k17 (by decide) rfl z18 dX8_accept_21 (fun σ19 eσ19 H locs hR hS => ?_)
  replace h := h σ19 eσ19
  refine lv_aload_n hx hb dX8_accept_22 rfl (lv_at hl7 1 rfl) ?_
  obtain ⟨k20, h⟩ := h
  refine s_getR F hR k20 (by decide) (C := RX8) (T := TX8) (N := 46) rfl nX8_accept_X8 31 (by decide) mX8_accept_4 (f := 481) rfl dX8_accept_23 (fun r21 er21 => ?_)
  replace h := h r21 er21
  refine lv_aload_n hx hb dX8_accept_26 rfl (lv_at hl7 1 rfl) ?_
  obtain ⟨k22, h⟩ := h
  refine s_getI F hR k22 (by decide) (C := RX8) (T := TX8) (N := 46) rfl nX8_accept_X8 29 (by decide) mX8_accept_2 (f := 479) rfl dX8_accept_27 ?_
  refine lv_aload_n hx hb dX8_accept_30 rfl (lv_at hl7 1 rfl) ?_
  refine lv_aload_n hx hb dX8_accept_31 rfl (lv_at hl7 1 rfl) ?_
  obtain ⟨k23, h⟩ := h
  refine s_getR F hR k23 (by decide) (C := RX8) (T := TX8) (N := 46) rfl nX8_accept_X8 14 (by decide) mX8_accept_5 (f := 464) rfl dX8_accept_32 (fun r24 er24 => ?_)
  replace h := h r24 er24
  refine lv_iload_n hx hb dX8_accept_35 rfl (lv_at hl7 0 rfl) ?_
  obtain ⟨a25, ea25, h⟩ := h
  subst ea25
  obtain ⟨k26, h⟩ := h
  obtain ⟨z27, h⟩ := h
  refine s_iald F hR k26 (by decide) rfl z27 dX8_accept_36 ?_
  obtain ⟨k28, h⟩ := h
  refine s_ci hS (k_runV F hR hS hl7 1 [.int (sI σ19 1464 a25 x6.toNatClampNeg)] (kX8_bankOf l Γ o (sI σ19 1464 a25 x6.toNatClampNeg) _ _ h) gX8_accept_X8_bankOf rfl rfl rfl (by decide +kernel) ⟨Nat.le_of_ble_eq_true rfl, Nat.le_of_ble_eq_true rfl⟩ (s_recv F hR k28 (by decide) (C := RX8) (T := TX8) (N := 46) rfl) rfl (by simp only [List.map_cons, List.map_nil, List.sum_cons, List.sum_nil, va_cat] <;> exact Nat.le_of_ble_eq_true rfl) dX8_accept_37 ⟨by show _ ≤ 0; omega, by show _ ≤ 0; omega⟩) (fun x31 σ29 H locs h30 hR hS => ?_)
  obtain ⟨a32, ea32, h30⟩ := h30
  subst ea32
  obtain ⟨k33, h30⟩ := h30
  obtain ⟨z34, h30⟩ := h30
  refine s_iast F hR hS k33 (by decide) rfl z34 dX8_accept_40 (fun σ35 eσ35 H locs hR hS => ?_)
  replace h30 := h30 σ35 eσ35
  refine lv_aload_n hx hb dX8_accept_41 rfl (lv_at hl7 1 rfl) ?_
  obtain ⟨k36, h30⟩ := h30
  refine s_getR F hR k36 (by decide) (C := RX8) (T := TX8) (N := 46) rfl nX8_accept_X8 32 (by decide) mX8_accept_6 (f := 482) rfl dX8_accept_42 (fun r37 er37 => ?_)
  replace h30 := h30 r37 er37
  refine lv_aload_n hx hb dX8_accept_45 rfl (lv_at hl7 1 rfl) ?_
  obtain ⟨k38, h30⟩ := h30
  refine s_getI F hR k38 (by decide) (C := RX8) (T := TX8) (N := 46) rfl nX8_accept_X8 29 (by decide) mX8_accept_2 (f := 479) rfl dX8_accept_46 ?_
  refine lv_aload_n hx hb dX8_accept_49 rfl (lv_at hl7 1 rfl) ?_
  refine lv_aload_n hx hb dX8_accept_50 rfl (lv_at hl7 1 rfl) ?_
  obtain ⟨k39, h30⟩ := h30
  refine s_getR F hR k39 (by decide) (C := RX8) (T := TX8) (N := 46) rfl nX8_accept_X8 23 (by decide) mX8_accept_7 (f := 473) rfl dX8_accept_51 (fun r40 er40 => ?_)
  replace h30 := h30 r40 er40
  refine lv_iload_n hx hb dX8_accept_54 rfl (lv_at hl7 2 rfl) ?_
  obtain ⟨a41, ea41, h30⟩ := h30
  subst ea41
  obtain ⟨k42, h30⟩ := h30
  obtain ⟨z43, h30⟩ := h30
  refine s_iald F hR k42 (by decide) rfl z43 dX8_accept_55 ?_
  obtain ⟨k44, h30⟩ := h30
  refine s_ci hS (k_runV F hR hS hl7 1 [.int (sI σ35 1473 a41 p1.toNatClampNeg)] (kX8_bankOf l Γ o (sI σ35 1473 a41 p1.toNatClampNeg) _ _ h30) gX8_accept_X8_bankOf rfl rfl rfl (by decide +kernel) ⟨Nat.le_of_ble_eq_true rfl, Nat.le_of_ble_eq_true rfl⟩ (s_recv F hR k44 (by decide) (C := RX8) (T := TX8) (N := 46) rfl) rfl (by simp only [List.map_cons, List.map_nil, List.sum_cons, List.sum_nil, va_cat] <;> exact Nat.le_of_ble_eq_true rfl) dX8_accept_56 ⟨by show _ ≤ 0; omega, by show _ ≤ 0; omega⟩) (fun x47 σ45 H locs h46 hR hS => ?_)
  obtain ⟨a48, ea48, h46⟩ := h46
  subst ea48
  obtain ⟨k49, h46⟩ := h46
  obtain ⟨z50, h46⟩ := h46
  refine s_iast F hR hS k49 (by decide) rfl z50 dX8_accept_59 (fun σ51 eσ51 H locs hR hS => ?_)
  replace h46 := h46 σ51 eσ51
  refine lv_aload_n hx hb dX8_accept_60 rfl (lv_at hl7 1 rfl) ?_
  obtain ⟨k52, h46⟩ := h46
  refine s_getR F hR k52 (by decide) (C := RX8) (T := TX8) (N := 46) rfl nX8_accept_X8 33 (by decide) mX8_accept_8 (f := 483) rfl dX8_accept_61 (fun r53 er53 => ?_)
  replace h46 := h46 r53 er53
  refine lv_aload_n hx hb dX8_accept_64 rfl (lv_at hl7 1 rfl) ?_
  obtain ⟨k54, h46⟩ := h46
  refine s_getI F hR k54 (by decide) (C := RX8) (T := TX8) (N := 46) rfl nX8_accept_X8 29 (by decide) mX8_accept_2 (f := 479) rfl dX8_accept_65 ?_
  refine lv_aload_n hx hb dX8_accept_68 rfl (lv_at hl7 1 rfl) ?_
  obtain ⟨k55, h46⟩ := h46
  refine s_getR F hR k55 (by decide) (C := RX8) (T := TX8) (N := 46) rfl nX8_accept_X8 24 (by decide) mX8_accept_9 (f := 474) rfl dX8_accept_69 (fun r56 er56 => ?_)
  replace h46 := h46 r56 er56
  refine lv_iload_n hx hb dX8_accept_72 rfl (lv_at hl7 2 rfl) ?_
  obtain ⟨a57, ea57, h46⟩ := h46
  subst ea57
  obtain ⟨k58, h46⟩ := h46
  obtain ⟨z59, h46⟩ := h46
  refine s_iald F hR k58 (by decide) rfl z59 dX8_accept_73 ?_
  obtain ⟨a60, ea60, h46⟩ := h46
  subst ea60
  obtain ⟨k61, h46⟩ := h46
  obtain ⟨z62, h46⟩ := h46
  refine s_iast F hR hS k61 (by decide) rfl z62 dX8_accept_74 (fun σ63 eσ63 H locs hR hS => ?_)
  replace h46 := h46 σ63 eσ63
  refine lv_aload_n hx hb dX8_accept_75 rfl (lv_at hl7 1 rfl) ?_
  obtain ⟨k64, h46⟩ := h46
  refine s_getR F hR k64 (by decide) (C := RX8) (T := TX8) (N := 46) rfl nX8_accept_X8 34 (by decide) mX8_accept_10 (f := 484) rfl dX8_accept_76 (fun r65 er65 => ?_)
  replace h46 := h46 r65 er65
  refine lv_aload_n hx hb dX8_accept_79 rfl (lv_at hl7 1 rfl) ?_
  obtain ⟨k66, h46⟩ := h46
  refine s_getI F hR k66 (by decide) (C := RX8) (T := TX8) (N := 46) rfl nX8_accept_X8 29 (by decide) mX8_accept_2 (f := 479) rfl dX8_accept_80 ?_
  refine lv_aload_n hx hb dX8_accept_83 rfl (lv_at hl7 1 rfl) ?_
  obtain ⟨k67, h46⟩ := h46
  refine s_getR F hR k67 (by decide) (C := RX8) (T := TX8) (N := 46) rfl nX8_accept_X8 25 (by decide) mX8_accept_11 (f := 475) rfl dX8_accept_84 (fun r68 er68 => ?_)
  replace h46 := h46 r68 er68
  refine lv_iload_n hx hb dX8_accept_87 rfl (lv_at hl7 2 rfl) ?_
  obtain ⟨a69, ea69, h46⟩ := h46
  subst ea69
  obtain ⟨k70, h46⟩ := h46
  obtain ⟨z71, h46⟩ := h46
  refine s_iald F hR k70 (by decide) rfl z71 dX8_accept_88 ?_
  obtain ⟨a72, ea72, h46⟩ := h46
  subst ea72
  obtain ⟨k73, h46⟩ := h46
  obtain ⟨z74, h46⟩ := h46
  refine s_iast F hR hS k73 (by decide) rfl z74 dX8_accept_89 (fun σ75 eσ75 H locs hR hS => ?_)
  replace h46 := h46 σ75 eσ75
  refine lv_aload_n hx hb dX8_accept_90 rfl (lv_at hl7 1 rfl) ?_
  obtain ⟨k76, h46⟩ := h46
  refine s_getR F hR k76 (by decide) (C := RX8) (T := TX8) (N := 46) rfl nX8_accept_X8 35 (by decide) mX8_accept_12 (f := 485) rfl dX8_accept_91 (fun r77 er77 => ?_)
  replace h46 := h46 r77 er77
  refine lv_aload_n hx hb dX8_accept_94 rfl (lv_at hl7 1 rfl) ?_
  obtain ⟨k78, h46⟩ := h46
  refine s_getI F hR k78 (by decide) (C := RX8) (T := TX8) (N := 46) rfl nX8_accept_X8 29 (by decide) mX8_accept_2 (f := 479) rfl dX8_accept_95 ?_
  refine lv_aload_n hx hb dX8_accept_98 rfl (lv_at hl7 1 rfl) ?_
  obtain ⟨k79, h46⟩ := h46
  refine s_getR F hR k79 (by decide) (C := RX8) (T := TX8) (N := 46) rfl nX8_accept_X8 26 (by decide) mX8_accept_13 (f := 476) rfl dX8_accept_99 (fun r80 er80 => ?_)
  replace h46 := h46 r80 er80
  refine lv_iload_n hx hb dX8_accept_102 rfl (lv_at hl7 2 rfl) ?_
  obtain ⟨a81, ea81, h46⟩ := h46
  subst ea81
  obtain ⟨k82, h46⟩ := h46
  obtain ⟨z83, h46⟩ := h46
  refine s_iald F hR k82 (by decide) rfl z83 dX8_accept_103 ?_
  obtain ⟨a84, ea84, h46⟩ := h46
  subst ea84
  obtain ⟨k85, h46⟩ := h46
  obtain ⟨z86, h46⟩ := h46
  refine s_iast F hR hS k85 (by decide) rfl z86 dX8_accept_104 (fun σ87 eσ87 H locs hR hS => ?_)
  replace h46 := h46 σ87 eσ87
  refine lv_aload_n hx hb dX8_accept_105 rfl (lv_at hl7 1 rfl) ?_
  obtain ⟨k88, h46⟩ := h46
  refine s_getR F hR k88 (by decide) (C := RX8) (T := TX8) (N := 46) rfl nX8_accept_X8 36 (by decide) mX8_accept_14 (f := 486) rfl dX8_accept_106 (fun r89 er89 => ?_)
  replace h46 := h46 r89 er89
  refine lv_aload_n hx hb dX8_accept_109 rfl (lv_at hl7 1 rfl) ?_
  obtain ⟨k90, h46⟩ := h46
  refine s_getI F hR k90 (by decide) (C := RX8) (T := TX8) (N := 46) rfl nX8_accept_X8 29 (by decide) mX8_accept_2 (f := 479) rfl dX8_accept_110 ?_
  refine lv_aload_n hx hb dX8_accept_113 rfl (lv_at hl7 1 rfl) ?_
  obtain ⟨k91, h46⟩ := h46
  refine s_getR F hR k91 (by decide) (C := RX8) (T := TX8) (N := 46) rfl nX8_accept_X8 16 (by decide) mX8_accept_15 (f := 466) rfl dX8_accept_114 (fun r92 er92 => ?_)
  replace h46 := h46 r92 er92
  refine lv_iload_n hx hb dX8_accept_117 rfl (lv_at hl7 0 rfl) ?_
  obtain ⟨a93, ea93, h46⟩ := h46
  subst ea93
  obtain ⟨k94, h46⟩ := h46
  obtain ⟨z95, h46⟩ := h46
  refine s_iald F hR k94 (by decide) rfl z95 dX8_accept_118 ?_
  obtain ⟨a96, ea96, h46⟩ := h46
  subst ea96
  obtain ⟨k97, h46⟩ := h46
  obtain ⟨z98, h46⟩ := h46
  refine s_iast F hR hS k97 (by decide) rfl z98 dX8_accept_119 (fun σ99 eσ99 H locs hR hS => ?_)
  replace h46 := h46 σ99 eσ99
  refine lv_aload_n hx hb dX8_accept_120 rfl (lv_at hl7 1 rfl) ?_
  obtain ⟨k100, h46⟩ := h46
  refine s_getR F hR k100 (by decide) (C := RX8) (T := TX8) (N := 46) rfl nX8_accept_X8 37 (by decide) mX8_accept_16 (f := 487) rfl dX8_accept_121 (fun r101 er101 => ?_)
  replace h46 := h46 r101 er101
  refine lv_aload_n hx hb dX8_accept_124 rfl (lv_at hl7 1 rfl) ?_
  obtain ⟨k102, h46⟩ := h46
  refine s_getI F hR k102 (by decide) (C := RX8) (T := TX8) (N := 46) rfl nX8_accept_X8 29 (by decide) mX8_accept_2 (f := 479) rfl dX8_accept_125 ?_
  refine lv_iconst (v := 0) hx hb dX8_accept_128 (by decide) ?_
  obtain ⟨a103, ea103, h46⟩ := h46
  subst ea103
  obtain ⟨k104, h46⟩ := h46
  obtain ⟨z105, h46⟩ := h46
  refine s_iast F hR hS k104 (by decide) rfl z105 dX8_accept_129 (fun σ106 eσ106 H locs hR hS => ?_)
  replace h46 := h46 σ106 eσ106
  refine lv_aload_n hx hb dX8_accept_130 rfl (lv_at hl7 1 rfl) ?_
  refine lv_dup hx hb dX8_accept_131 rfl ?_
  obtain ⟨k107, h46⟩ := h46
  refine s_getI F hR k107 (by decide) (C := RX8) (T := TX8) (N := 46) rfl nX8_accept_X8 29 (by decide) mX8_accept_2 (f := 479) rfl dX8_accept_132 ?_
  refine lv_iconst (v := 1) hx hb dX8_accept_135 (by decide) ?_
  refine lv_iadd hx hb dX8_accept_136 ?_
  obtain ⟨k108, h46⟩ := h46
  refine s_putI (v := ((sI σ106 479 o 0) + (1 : Int32))) F hR hS k108 (by decide) (C := RX8) (T := TX8) (N := 46) rfl nX8_accept_X8 tyX8 tyX8_ok nmX8 29 (by decide) mX8_accept_2 (Or.inl rfl) rfl rfl (f := 479) rfl rnd_9 dX8_accept_137 (fun σ109 eσ109 H locs hR hS => ?_)
  replace h46 := h46 σ109 eσ109
  exact s_vret F hR hS h46 hc dX8_accept_140
set_option maxHeartbeats 4000000 in
set_option maxRecDepth 100000 in
theorem kX8_accept (l : Launch) (Γ : rGam) (o : Nat) (p1 : Int32) (post : St → Prop) (σ0 : St) (h : wX8_accept o p1 post σ0) : Met l yX8_accept wsX8_accept rmX8_accept (rPc Γ vwCl [.ref o, .int p1] (Rep Γ σ0)) (va_Qv post (fun σ' t => Rep Γ σ' t.heap) (rA Γ)) 0 0 (rA Γ) := by
  refine Met.ofW (cc := cX8_accept) (maxL := 3) (ret := none) (by decide) rfl ?_
  intro p e s m args below meth c s₁ B hml hv
  obtain ⟨rfl, hR, hE⟩ := hv
  have F : Fx Γ p s m meth c _ cX8_accept 3 RX8 wsX8_accept none := ⟨⟨B.exec, B.bytes, hml, findClass_of_methodNamed B.named, atoms_spec (ws := wsX8_accept) B.pre⟩, hE, B.notSynchronized, B.returns⟩
  have hl := lv_entry ([.ref o, .int p1]) (n := 3) (Nat.le_of_ble_eq_true rfl)
  rw [lg_entry_eq]
  generalize (lg_sl ([.ref o, .int p1]) ++ List.replicate (3 - (lg_sl ([.ref o, .int p1])).length) Slot.unset).toArray = ls at hl ⊢
  have hl : lv_has ls 3 [(0, .ref o), (1, .int p1)] := hl
  exact bX8_accept F h hR va_S.rf hl ⟨Nat.le_refl 0, Nat.le_refl 0⟩
/-! X8_ended -/
theorem mX8_ended_0 : Cond.fieldLink RX8 69 "ClearingFilesModel" "files" "[I" ∈ wsX8_ended := by decide +kernel
theorem mX8_ended_1 : Cond.fieldLink RX8 191 "ClearingFilesModel" "fileCount" "I" ∈ wsX8_ended := by decide +kernel
theorem mX8_ended_2 : Cond.fieldLink RX8 155 "ClearingFilesModel" "sender" "I" ∈ wsX8_ended := by decide +kernel
theorem mX8_ended_3 : Cond.fieldLink RX8 158 "ClearingFilesModel" "fileNumber" "I" ∈ wsX8_ended := by decide +kernel
theorem mX8_ended_4 : Cond.fieldLink RX8 161 "ClearingFilesModel" "batches" "I" ∈ wsX8_ended := by decide +kernel
theorem mX8_ended_5 : Cond.fieldLink RX8 164 "ClearingFilesModel" "entries" "I" ∈ wsX8_ended := by decide +kernel
theorem mX8_ended_6 : Cond.fieldLink RX8 51 "ClearingFilesModel" "inBatch" "[I" ∈ wsX8_ended := by decide +kernel
theorem mX8_ended_7 : Cond.fieldLink RX8 114 "ClearingFilesModel" "tally" "[I" ∈ wsX8_ended := by decide +kernel
theorem nX8_ended_X8 : ∀ w ∈ u_ws RX8 TX8 46, w ∈ wsX8_ended := fun _ h => List.mem_cons_of_mem _ (List.mem_append_right _ h)
abbrev rmX8_ended : Room := { frames := 4, cells := 0, slots := 0, locals := 97 }
set_option maxRecDepth 100000 in
def wX8_ended_103 (o : Nat) (post : Int32 → St → Prop) : Nat → Int32 → Int32 → St → Prop
  | 0, _, _, _ => False
  | n + 1, x6, x7, σ0 =>
    sK σ0 o = 9 ∧ (((sI σ0 463 o 0) ≤ x7 → (post x6 σ0)) ∧ (¬ (sI σ0 463 o 0) ≤ x7 → (sK σ0 o = 9 ∧ (∀ r31 : Option Nat, r31 = sR σ0 471 o 0 → (∃ a32 : Nat, r31 = some a32 ∧ (sK σ0 a32 = 1471 ∧ (vp_in x7 20 ∧ (sK σ0 o = 9 ∧ (wX8_batchFault o (sI σ0 1471 a32 x7.toNatClampNeg) (fun (x38 : Int32) (σ36 : St) => (x38 = 0 → (sK σ36 o = 9 ∧ (wX8_entryFault o x7 (fun (x45 : Int32) (σ43 : St) => sK σ43 o = 9 ∧ (∀ r48 : Option Nat, r48 = sR σ43 495 o 0 → (∃ a49 : Nat, r48 = some a49 ∧ (sK σ43 a49 = 1495 ∧ (vp_in x45 40 ∧ (sK σ43 a49 = 1495 ∧ (vp_in x45 40 ∧ (∀ σ54 : St, σ54 = uI σ43 1495 a49 (x45.toNatClampNeg) ((sI σ43 1495 a49 x45.toNatClampNeg) + (1 : Int32)) → ((x45 = 0 → (sK σ54 o = 9 ∧ (wX8_accept o x7 (fun (σ59 : St) => ∀ x61 : Int32, x61 = x6 + (1 : Int32) → (∀ x63 : Int32, x63 = x7 + (1 : Int32) → (wX8_ended_103 o post n x61 x63 σ59))) σ54))) ∧ (¬ x45 = 0 → (∀ x56 : Int32, x56 = x7 + (1 : Int32) → (wX8_ended_103 o post n x6 x56 σ54)))))))))))) σ36))) ∧ (¬ x38 = 0 → (∀ x40 : Int32, x40 = x7 + (1 : Int32) → (wX8_ended_103 o post n x6 x40 σ36)))) σ0)))))))))
set_option maxHeartbeats 4000000 in
set_option maxRecDepth 100000 in
theorem bX8_ended_103 {p : Program} {l : Launch} {e : Env} {s : State} {m : MethodId} {args : Array Value} {below : List Frame} {meth : Method} {c : Code} {Γ : rGam} {o : Nat} {post : Int32 → St → Prop} (F : Fx Γ p s m meth c args cX8_ended 9 RX8 wsX8_ended (some .int)) : ∀ (n : Nat) (x6 : Int32) (x7 : Int32) (σ0 : St) (H : Heap) (locs : List Loc) (ls : Array Slot) (cells slots : Nat), wX8_ended_103 o post n x6 x7 σ0 → Rep Γ σ0 H → va_S (rA Γ) s.heap H locs → lv_has ls 9 [(0, .ref o), (6, .int x6), (7, .int x7)] → cells ≤ 0 ∧ slots ≤ 0 → W p l e rmX8_ended s m args below meth c H locs cells slots (rQi Γ below post args s 0 0) (F0 m 103 ls []) := by
  have hx := F.1.1
  have hb := F.1.2.1
  intro n
  induction n with
  | zero =>
    intro x6 x7 σ0 H locs ls cells slots h
    exact absurd h (by unfold wX8_ended_103; exact id)
  | succ n ih =>
    intro x6 x7 σ0 H locs ls cells slots h hR hS hl hc
    unfold wX8_ended_103 at h
    refine lv_iload hx hb dX8_ended_103 (lv_at hl 2 rfl) ?_
    refine lv_aload_n hx hb dX8_ended_105 rfl (lv_at hl 0 rfl) ?_
    obtain ⟨k28, h⟩ := h
    refine s_getI F hR k28 (by decide) (C := RX8) (T := TX8) (N := 46) rfl nX8_ended_X8 13 (by decide) mX8_ended_5 (f := 463) rfl dX8_ended_106 ?_
    refine lv_icmp_ge (tgt := 165) hx hb dX8_ended_109 (by decide) (fun c29 => ?_) (fun c29 => ?_)
    · replace h := h.1 c29
      refine lv_iload hx hb dX8_ended_165 (lv_at hl 1 rfl) ?_
      exact s_iret F hR hS h hc dX8_ended_167
    · replace h := h.2 c29
      refine lv_aload_n hx hb dX8_ended_112 rfl (lv_at hl 0 rfl) ?_
      refine lv_aload_n hx hb dX8_ended_113 rfl (lv_at hl 0 rfl) ?_
      obtain ⟨k30, h⟩ := h
      refine s_getR F hR k30 (by decide) (C := RX8) (T := TX8) (N := 46) rfl nX8_ended_X8 21 (by decide) mX8_ended_6 (f := 471) rfl dX8_ended_114 (fun r31 er31 => ?_)
      replace h := h r31 er31
      refine lv_iload hx hb dX8_ended_117 (lv_at hl 2 rfl) ?_
      obtain ⟨a32, ea32, h⟩ := h
      subst ea32
      obtain ⟨k33, h⟩ := h
      obtain ⟨z34, h⟩ := h
      refine s_iald F hR k33 (by decide) rfl z34 dX8_ended_119 ?_
      obtain ⟨k35, h⟩ := h
      refine s_ci hS (k_runV F hR hS hl 1 [.int (sI σ0 1471 a32 x7.toNatClampNeg)] (kX8_batchFault l Γ o (sI σ0 1471 a32 x7.toNatClampNeg) _ _ h) gX8_ended_X8_batchFault rfl rfl rfl (by decide +kernel) ⟨Nat.le_of_ble_eq_true rfl, Nat.le_of_ble_eq_true rfl⟩ (s_recv F hR k35 (by decide) (C := RX8) (T := TX8) (N := 46) rfl) rfl (Nat.le_of_ble_eq_true rfl) dX8_ended_120 ⟨by show _ ≤ 0; omega, by show _ ≤ 0; omega⟩) (fun x38 σ36 H locs h37 hR hS => ?_)
      refine lv_if_ne (tgt := 159) hx hb dX8_ended_123 (by decide) (fun c39 => ?_) (fun c39 => ?_)
      · replace h37 := h37.2 c39
        obtain ⟨x40, ex40⟩ : ∃ x : Int32, x = x7 + (1 : Int32) := ⟨_, rfl⟩
        replace h37 := h37 x40 ex40
        refine s_iinc (v := x40) (d := 1) (lk := [(6, .int x6)]) (lv' := [(7, .int x40), (0, .ref o), (6, .int x6)]) hx hb dX8_ended_159 hl (k := 2) rfl (by decide) (by decide) rfl (lk_1 rfl) ex40 rfl (fun ls hl41 => ?_)
        refine lv_goto (tgt := 103) hx hb dX8_ended_162 (by decide) ?_
        exact ih x6 x40 σ36 _ _ _ _ _ h37 hR hS (lv_sub hl41 [1, 2, 0] rfl) hc
      · replace h37 := h37.1 c39
        refine lv_aload_n hx hb dX8_ended_126 rfl (lv_at hl 0 rfl) ?_
        refine lv_iload hx hb dX8_ended_127 (lv_at hl 2 rfl) ?_
        obtain ⟨k42, h37⟩ := h37
        refine s_ci hS (k_runV F hR hS hl 1 [.int x7] (kX8_entryFault l Γ o x7 _ _ h37) gX8_ended_X8_entryFault rfl rfl rfl (by decide +kernel) ⟨Nat.le_of_ble_eq_true rfl, Nat.le_of_ble_eq_true rfl⟩ (s_recv F hR k42 (by decide) (C := RX8) (T := TX8) (N := 46) rfl) rfl (Nat.le_of_ble_eq_true rfl) dX8_ended_129 ⟨by show _ ≤ 0; omega, by show _ ≤ 0; omega⟩) (fun x45 σ43 H locs h44 hR hS => ?_)
        refine s_istore (lk := [(7, .int x7)]) (lv' := [(8, .int x45), (0, .ref o), (6, .int x6), (7, .int x7)]) hx hb dX8_ended_132 hl (by decide) rfl (lk_1 rfl) rfl (fun ls hl46 => ?_)
        refine lv_aload_n hx hb dX8_ended_134 rfl (lv_at hl46 1 rfl) ?_
        obtain ⟨k47, h44⟩ := h44
        refine s_getR F hR k47 (by decide) (C := RX8) (T := TX8) (N := 46) rfl nX8_ended_X8 45 (by decide) mX8_ended_7 (f := 495) rfl dX8_ended_135 (fun r48 er48 => ?_)
        replace h44 := h44 r48 er48
        refine lv_iload hx hb dX8_ended_138 (lv_at hl46 0 rfl) ?_
        refine lv_dup2_11 hx hb dX8_ended_140 rfl (va_cat _) ?_
        obtain ⟨a49, ea49, h44⟩ := h44
        subst ea49
        obtain ⟨k50, h44⟩ := h44
        obtain ⟨z51, h44⟩ := h44
        refine s_iald F hR k50 (by decide) rfl z51 dX8_ended_141 ?_
        refine lv_iconst (v := 1) hx hb dX8_ended_142 (by decide) ?_
        refine lv_iadd hx hb dX8_ended_143 ?_
        obtain ⟨k52, h44⟩ := h44
        obtain ⟨z53, h44⟩ := h44
        refine s_iast F hR hS k52 (by decide) rfl z53 dX8_ended_144 (fun σ54 eσ54 H locs hR hS => ?_)
        replace h44 := h44 σ54 eσ54
        refine lv_iload hx hb dX8_ended_145 (lv_at hl46 0 rfl) ?_
        refine lv_if_ne (tgt := 159) hx hb dX8_ended_147 (by decide) (fun c55 => ?_) (fun c55 => ?_)
        · replace h44 := h44.2 c55
          obtain ⟨x56, ex56⟩ : ∃ x : Int32, x = x7 + (1 : Int32) := ⟨_, rfl⟩
          replace h44 := h44 x56 ex56
          refine s_iinc (v := x56) (d := 1) (lk := [(6, .int x6)]) (lv' := [(7, .int x56), (8, .int x45), (0, .ref o), (6, .int x6)]) hx hb dX8_ended_159 hl46 (k := 3) rfl (by decide) (by decide) rfl (lk_1 rfl) ex56 rfl (fun ls hl57 => ?_)
          refine lv_goto (tgt := 103) hx hb dX8_ended_162 (by decide) ?_
          exact ih x6 x56 σ54 _ _ _ _ _ h44 hR hS (lv_sub hl57 [2, 3, 0] rfl) hc
        · replace h44 := h44.1 c55
          refine lv_aload_n hx hb dX8_ended_150 rfl (lv_at hl46 1 rfl) ?_
          refine lv_iload hx hb dX8_ended_151 (lv_at hl46 3 rfl) ?_
          obtain ⟨k58, h44⟩ := h44
          refine s_cv hS (k_runV F hR hS hl46 1 [.int x7] (kX8_accept l Γ o x7 _ _ h44) gX8_ended_X8_accept rfl rfl rfl (by decide +kernel) ⟨Nat.le_of_ble_eq_true rfl, Nat.le_of_ble_eq_true rfl⟩ (s_recv F hR k58 (by decide) (C := RX8) (T := TX8) (N := 46) rfl) rfl (Nat.le_of_ble_eq_true rfl) dX8_ended_153 ⟨by show _ ≤ 0; omega, by show _ ≤ 0; omega⟩) (fun σ59 H locs h60 hR hS => ?_)
          obtain ⟨x61, ex61⟩ : ∃ x : Int32, x = x6 + (1 : Int32) := ⟨_, rfl⟩
          replace h60 := h60 x61 ex61
          refine s_iinc (v := x61) (d := 1) (lk := []) (lv' := [(6, .int x61), (8, .int x45), (0, .ref o), (7, .int x7)]) hx hb dX8_ended_156 hl46 (k := 2) rfl (by decide) (by decide) rfl lk_0 ex61 rfl (fun ls hl62 => ?_)
          obtain ⟨x63, ex63⟩ : ∃ x : Int32, x = x7 + (1 : Int32) := ⟨_, rfl⟩
          replace h60 := h60 x63 ex63
          refine s_iinc (v := x63) (d := 1) (lk := [(6, .int x61)]) (lv' := [(7, .int x63), (6, .int x61), (8, .int x45), (0, .ref o)]) hx hb dX8_ended_159 hl62 (k := 3) rfl (by decide) (by decide) rfl (lk_1 rfl) ex63 rfl (fun ls hl64 => ?_)
          refine lv_goto (tgt := 103) hx hb dX8_ended_162 (by decide) ?_
          exact ih x61 x63 σ59 _ _ _ _ _ h60 hR hS (lv_sub hl64 [3, 1, 0] rfl) hc

set_option maxRecDepth 100000 in
def wX8_ended_67 (o : Nat) (post : Int32 → St → Prop) : Nat → Int32 → St → Prop
  | 0, _, _ => False
  | n + 1, x6, σ0 =>
    sK σ0 o = 9 ∧ (((sI σ0 462 o 0) ≤ x6 → (∃ n65 : Nat, wX8_ended_103 o post n65 (0 : Int32) (0 : Int32) σ0)) ∧ (¬ (sI σ0 462 o 0) ≤ x6 → (sK σ0 o = 9 ∧ (∀ r67 : Option Nat, r67 = sR σ0 495 o 0 → (sK σ0 o = 9 ∧ (wX8_batchFault o x6 (fun (x71 : Int32) (σ69 : St) => ∃ a72 : Nat, r67 = some a72 ∧ (sK σ69 a72 = 1495 ∧ (vp_in x71 40 ∧ (sK σ69 a72 = 1495 ∧ (vp_in x71 40 ∧ (∀ σ77 : St, σ77 = uI σ69 1495 a72 (x71.toNatClampNeg) ((sI σ69 1495 a72 x71.toNatClampNeg) + (1 : Int32)) → (∀ x78 : Int32, x78 = x6 + (1 : Int32) → (wX8_ended_67 o post n x78 σ77)))))))) σ0))))))
set_option maxHeartbeats 4000000 in
set_option maxRecDepth 100000 in
theorem bX8_ended_67 {p : Program} {l : Launch} {e : Env} {s : State} {m : MethodId} {args : Array Value} {below : List Frame} {meth : Method} {c : Code} {Γ : rGam} {o : Nat} {post : Int32 → St → Prop} (F : Fx Γ p s m meth c args cX8_ended 9 RX8 wsX8_ended (some .int)) : ∀ (n : Nat) (x6 : Int32) (σ0 : St) (H : Heap) (locs : List Loc) (ls : Array Slot) (cells slots : Nat), wX8_ended_67 o post n x6 σ0 → Rep Γ σ0 H → va_S (rA Γ) s.heap H locs → lv_has ls 9 [(0, .ref o), (6, .int x6)] → cells ≤ 0 ∧ slots ≤ 0 → W p l e rmX8_ended s m args below meth c H locs cells slots (rQi Γ below post args s 0 0) (F0 m 67 ls []) := by
  have hx := F.1.1
  have hb := F.1.2.1
  intro n
  induction n with
  | zero =>
    intro x6 σ0 H locs ls cells slots h
    exact absurd h (by unfold wX8_ended_67; exact id)
  | succ n ih =>
    intro x6 σ0 H locs ls cells slots h hR hS hl hc
    unfold wX8_ended_67 at h
    refine lv_iload hx hb dX8_ended_67 (lv_at hl 1 rfl) ?_
    refine lv_aload_n hx hb dX8_ended_69 rfl (lv_at hl 0 rfl) ?_
    obtain ⟨k24, h⟩ := h
    refine s_getI F hR k24 (by decide) (C := RX8) (T := TX8) (N := 46) rfl nX8_ended_X8 12 (by decide) mX8_ended_4 (f := 462) rfl dX8_ended_70 ?_
    refine lv_icmp_ge (tgt := 97) hx hb dX8_ended_73 (by decide) (fun c25 => ?_) (fun c25 => ?_)
    · replace h := h.1 c25
      refine lv_iconst (v := 0) hx hb dX8_ended_97 (by decide) ?_
      refine s_istore (lk := []) (lv' := [(6, .int (0 : Int32)), (0, .ref o)]) hx hb dX8_ended_98 hl (by decide) rfl lk_0 rfl (fun ls hl26 => ?_)
      refine lv_iconst (v := 0) hx hb dX8_ended_100 (by decide) ?_
      refine s_istore (lk := [(6, .int (0 : Int32))]) (lv' := [(7, .int (0 : Int32)), (6, .int (0 : Int32)), (0, .ref o)]) hx hb dX8_ended_101 hl26 (by decide) rfl (lk_1 rfl) rfl (fun ls hl27 => ?_)
      obtain ⟨n65, h⟩ := h
      exact bX8_ended_103 F n65 (0 : Int32) (0 : Int32) σ0 _ _ _ _ _ h hR hS (lv_sub hl27 [2, 1, 0] rfl) hc
    · replace h := h.2 c25
      refine lv_aload_n hx hb dX8_ended_76 rfl (lv_at hl 0 rfl) ?_
      obtain ⟨k66, h⟩ := h
      refine s_getR F hR k66 (by decide) (C := RX8) (T := TX8) (N := 46) rfl nX8_ended_X8 45 (by decide) mX8_ended_7 (f := 495) rfl dX8_ended_77 (fun r67 er67 => ?_)
      replace h := h r67 er67
      refine lv_aload_n hx hb dX8_ended_80 rfl (lv_at hl 0 rfl) ?_
      refine lv_iload hx hb dX8_ended_81 (lv_at hl 1 rfl) ?_
      obtain ⟨k68, h⟩ := h
      refine s_ci hS (k_runV F hR hS hl 1 [.int x6] (kX8_batchFault l Γ o x6 _ _ h) gX8_ended_X8_batchFault rfl rfl rfl (by decide +kernel) ⟨Nat.le_of_ble_eq_true rfl, Nat.le_of_ble_eq_true rfl⟩ (s_recv F hR k68 (by decide) (C := RX8) (T := TX8) (N := 46) rfl) rfl (by simp only [List.map_cons, List.map_nil, List.sum_cons, List.sum_nil, va_cat] <;> exact Nat.le_of_ble_eq_true rfl) dX8_ended_83 ⟨by show _ ≤ 0; omega, by show _ ≤ 0; omega⟩) (fun x71 σ69 H locs h70 hR hS => ?_)
      refine lv_dup2_11 hx hb dX8_ended_86 rfl (va_cat _) ?_
      obtain ⟨a72, ea72, h70⟩ := h70
      subst ea72
      obtain ⟨k73, h70⟩ := h70
      obtain ⟨z74, h70⟩ := h70
      refine s_iald F hR k73 (by decide) rfl z74 dX8_ended_87 ?_
      refine lv_iconst (v := 1) hx hb dX8_ended_88 (by decide) ?_
      refine lv_iadd hx hb dX8_ended_89 ?_
      obtain ⟨k75, h70⟩ := h70
      obtain ⟨z76, h70⟩ := h70
      refine s_iast F hR hS k75 (by decide) rfl z76 dX8_ended_90 (fun σ77 eσ77 H locs hR hS => ?_)
      replace h70 := h70 σ77 eσ77
      obtain ⟨x78, ex78⟩ : ∃ x : Int32, x = x6 + (1 : Int32) := ⟨_, rfl⟩
      replace h70 := h70 x78 ex78
      refine s_iinc (v := x78) (d := 1) (lk := []) (lv' := [(6, .int x78), (0, .ref o)]) hx hb dX8_ended_91 hl (k := 1) rfl (by decide) (by decide) rfl lk_0 ex78 rfl (fun ls hl79 => ?_)
      refine lv_goto (tgt := 67) hx hb dX8_ended_94 (by decide) ?_
      exact ih x78 σ77 _ _ _ _ _ h70 hR hS (lv_sub hl79 [1, 0] rfl) hc

set_option maxRecDepth 100000 in
def wX8_ended (o : Nat) (p1 : Int64) (p2 : Int64) (post : Int32 → St → Prop) (σ0 : St) : Prop :=
  sK σ0 o = 9 ∧ (wX8_fileFault o p1 p2 (fun (x4 : Int32) (σ2 : St) => (x4 ≤ 0 → (sK σ2 o = 9 ∧ (∀ r8 : Option Nat, r8 = sR σ2 477 o 0 → (sK σ2 o = 9 ∧ (sK σ2 o = 9 ∧ (sK σ2 o = 9 ∧ (wX8_bankOf o (sI σ2 460 o 0) (fun (x14 : Int32) (σ12 : St) => sK σ12 o = 9 ∧ (∃ a16 : Nat, r8 = some a16 ∧ (sK σ12 a16 = 1477 ∧ (vp_in (sI σ2 478 o 0) 256 ∧ (∀ σ19 : St, σ19 = uI σ12 1477 a16 ((sI σ2 478 o 0).toNatClampNeg) (((10000 : Int32) * x14) + (sI σ12 461 o 0)) → (sK σ19 o = 9 ∧ (sK σ19 o = 9 ∧ (∀ σ22 : St, σ22 = uI σ19 478 o 0 ((sI σ19 478 o 0) + (1 : Int32)) → (∃ n80 : Nat, wX8_ended_67 o post n80 (0 : Int32) σ22))))))))) σ2))))))) ∧ (¬ x4 ≤ 0 → (sK σ2 o = 9 ∧ (∀ r82 : Option Nat, r82 = sR σ2 495 o 0 → (∃ a83 : Nat, r82 = some a83 ∧ (sK σ2 a83 = 1495 ∧ (vp_in x4 40 ∧ (sK σ2 a83 = 1495 ∧ (vp_in x4 40 ∧ (∀ σ88 : St, σ88 = uI σ2 1495 a83 (x4.toNatClampNeg) ((sI σ2 1495 a83 x4.toNatClampNeg) + (1 : Int32)) → (post (-x4) σ88))))))))))) σ0)
set_option maxHeartbeats 4000000 in
set_option maxRecDepth 100000 in
theorem bX8_ended {p : Program} {l : Launch} {e : Env} {s : State} {m : MethodId} {args : Array Value} {below : List Frame} {meth : Method} {c : Code} {Γ : rGam} {o : Nat} {post : Int32 → St → Prop} (F : Fx Γ p s m meth c args cX8_ended 9 RX8 wsX8_ended (some .int)) {H : Heap} {locs : List Loc} {ls : Array Slot} {cells slots : Nat} {p1 : Int64} {p2 : Int64} {σ0 : St} (h : wX8_ended o p1 p2 post σ0) (hR : Rep Γ σ0 H) (hS : va_S (rA Γ) s.heap H locs) (hl : lv_has ls 9 [(0, .ref o), (1, .long p1), (3, .long p2)]) (hc : cells ≤ 0 ∧ slots ≤ 0) : W p l e rmX8_ended s m args below meth c H locs cells slots (rQi Γ below post args s 0 0) (F0 m 0 ls []) := by
  have hx := F.1.1
  have hb := F.1.2.1
  unfold wX8_ended at h
  refine lv_aload_n hx hb dX8_ended_0 rfl (lv_at hl 0 rfl) ?_
  refine lv_lload_n hx hb dX8_ended_1 rfl (lv_at hl 1 rfl) ?_
  refine lv_lload_n hx hb dX8_ended_2 rfl (lv_at hl 2 rfl) ?_
  obtain ⟨k1, h⟩ := h
  refine s_ci hS (k_runV F hR hS hl 2 [.long p1, .long p2] (kX8_fileFault l Γ o p1 p2 _ _ h) gX8_ended_X8_fileFault rfl rfl rfl (by decide +kernel) ⟨Nat.le_of_ble_eq_true rfl, Nat.le_of_ble_eq_true rfl⟩ (s_recv F hR k1 (by decide) (C := RX8) (T := TX8) (N := 46) rfl) rfl (Nat.le_of_ble_eq_true rfl) dX8_ended_3 ⟨by show _ ≤ 0; omega, by show _ ≤ 0; omega⟩) (fun x4 σ2 H locs h3 hR hS => ?_)
  refine s_istore (lk := []) (lv' := [(5, .int x4), (0, .ref o), (1, .long p1), (3, .long p2)]) hx hb dX8_ended_6 hl (by decide) rfl lk_0 rfl (fun ls hl5 => ?_)
  refine lv_iload hx hb dX8_ended_8 (lv_at hl5 0 rfl) ?_
  refine lv_if_le (tgt := 28) hx hb dX8_ended_10 (by decide) (fun c6 => ?_) (fun c6 => ?_)
  · replace h3 := h3.1 c6
    refine lv_aload_n hx hb dX8_ended_28 rfl (lv_at hl5 1 rfl) ?_
    obtain ⟨k7, h3⟩ := h3
    refine s_getR F hR k7 (by decide) (C := RX8) (T := TX8) (N := 46) rfl nX8_ended_X8 27 (by decide) mX8_ended_0 (f := 477) rfl dX8_ended_29 (fun r8 er8 => ?_)
    replace h3 := h3 r8 er8
    refine lv_aload_n hx hb dX8_ended_32 rfl (lv_at hl5 1 rfl) ?_
    obtain ⟨k9, h3⟩ := h3
    refine s_getI F hR k9 (by decide) (C := RX8) (T := TX8) (N := 46) rfl nX8_ended_X8 28 (by decide) mX8_ended_1 (f := 478) rfl dX8_ended_33 ?_
    refine lv_sipush (v := 10000) hx hb dX8_ended_36 (by decide) ?_
    refine lv_aload_n hx hb dX8_ended_39 rfl (lv_at hl5 1 rfl) ?_
    refine lv_aload_n hx hb dX8_ended_40 rfl (lv_at hl5 1 rfl) ?_
    obtain ⟨k10, h3⟩ := h3
    refine s_getI F hR k10 (by decide) (C := RX8) (T := TX8) (N := 46) rfl nX8_ended_X8 10 (by decide) mX8_ended_2 (f := 460) rfl dX8_ended_41 ?_
    obtain ⟨k11, h3⟩ := h3
    refine s_ci hS (k_runV F hR hS hl5 1 [.int (sI σ2 460 o 0)] (kX8_bankOf l Γ o (sI σ2 460 o 0) _ _ h3) gX8_ended_X8_bankOf rfl rfl rfl (by decide +kernel) ⟨Nat.le_of_ble_eq_true rfl, Nat.le_of_ble_eq_true rfl⟩ (s_recv F hR k11 (by decide) (C := RX8) (T := TX8) (N := 46) rfl) rfl (by simp only [List.map_cons, List.map_nil, List.sum_cons, List.sum_nil, va_cat] <;> exact Nat.le_of_ble_eq_true rfl) dX8_ended_44 ⟨by show _ ≤ 0; omega, by show _ ≤ 0; omega⟩) (fun x14 σ12 H locs h13 hR hS => ?_)
    refine lv_imul hx hb dX8_ended_47 ?_
    refine lv_aload_n hx hb dX8_ended_48 rfl (lv_at hl5 1 rfl) ?_
    obtain ⟨k15, h13⟩ := h13
    refine s_getI F hR k15 (by decide) (C := RX8) (T := TX8) (N := 46) rfl nX8_ended_X8 11 (by decide) mX8_ended_3 (f := 461) rfl dX8_ended_49 ?_
    refine lv_iadd hx hb dX8_ended_52 ?_
    obtain ⟨a16, ea16, h13⟩ := h13
    subst ea16
    obtain ⟨k17, h13⟩ := h13
    obtain ⟨z18, h13⟩ := h13
    refine s_iast F hR hS k17 (by decide) rfl z18 dX8_ended_53 (fun σ19 eσ19 H locs hR hS => ?_)
    replace h13 := h13 σ19 eσ19
    refine lv_aload_n hx hb dX8_ended_54 rfl (lv_at hl5 1 rfl) ?_
    refine lv_dup hx hb dX8_ended_55 rfl ?_
    obtain ⟨k20, h13⟩ := h13
    refine s_getI F hR k20 (by decide) (C := RX8) (T := TX8) (N := 46) rfl nX8_ended_X8 28 (by decide) mX8_ended_1 (f := 478) rfl dX8_ended_56 ?_
    refine lv_iconst (v := 1) hx hb dX8_ended_59 (by decide) ?_
    refine lv_iadd hx hb dX8_ended_60 ?_
    obtain ⟨k21, h13⟩ := h13
    refine s_putI (v := ((sI σ19 478 o 0) + (1 : Int32))) F hR hS k21 (by decide) (C := RX8) (T := TX8) (N := 46) rfl nX8_ended_X8 tyX8 tyX8_ok nmX8 28 (by decide) mX8_ended_1 (Or.inl rfl) rfl rfl (f := 478) rfl rnd_9 dX8_ended_61 (fun σ22 eσ22 H locs hR hS => ?_)
    replace h13 := h13 σ22 eσ22
    refine lv_iconst (v := 0) hx hb dX8_ended_64 (by decide) ?_
    refine s_istore (lk := [(5, .int x4)]) (lv' := [(6, .int (0 : Int32)), (5, .int x4), (0, .ref o), (1, .long p1), (3, .long p2)]) hx hb dX8_ended_65 hl5 (by decide) rfl (lk_1 rfl) rfl (fun ls hl23 => ?_)
    obtain ⟨n80, h13⟩ := h13
    exact bX8_ended_67 F n80 (0 : Int32) σ22 _ _ _ _ _ h13 hR hS (lv_sub hl23 [2, 0] rfl) hc
  · replace h3 := h3.2 c6
    refine lv_aload_n hx hb dX8_ended_13 rfl (lv_at hl5 1 rfl) ?_
    obtain ⟨k81, h3⟩ := h3
    refine s_getR F hR k81 (by decide) (C := RX8) (T := TX8) (N := 46) rfl nX8_ended_X8 45 (by decide) mX8_ended_7 (f := 495) rfl dX8_ended_14 (fun r82 er82 => ?_)
    replace h3 := h3 r82 er82
    refine lv_iload hx hb dX8_ended_17 (lv_at hl5 0 rfl) ?_
    refine lv_dup2_11 hx hb dX8_ended_19 rfl (va_cat _) ?_
    obtain ⟨a83, ea83, h3⟩ := h3
    subst ea83
    obtain ⟨k84, h3⟩ := h3
    obtain ⟨z85, h3⟩ := h3
    refine s_iald F hR k84 (by decide) rfl z85 dX8_ended_20 ?_
    refine lv_iconst (v := 1) hx hb dX8_ended_21 (by decide) ?_
    refine lv_iadd hx hb dX8_ended_22 ?_
    obtain ⟨k86, h3⟩ := h3
    obtain ⟨z87, h3⟩ := h3
    refine s_iast F hR hS k86 (by decide) rfl z87 dX8_ended_23 (fun σ88 eσ88 H locs hR hS => ?_)
    replace h3 := h3 σ88 eσ88
    refine lv_iload hx hb dX8_ended_24 (lv_at hl5 0 rfl) ?_
    refine lv_ineg hx hb dX8_ended_26 ?_
    exact s_iret F hR hS h3 hc dX8_ended_27
set_option maxHeartbeats 4000000 in
set_option maxRecDepth 100000 in
theorem kX8_ended (l : Launch) (Γ : rGam) (o : Nat) (p1 : Int64) (p2 : Int64) (post : Int32 → St → Prop) (σ0 : St) (h : wX8_ended o p1 p2 post σ0) : Met l yX8_ended wsX8_ended rmX8_ended (rPc Γ vwCl [.ref o, .long p1, .long p2] (Rep Γ σ0)) (va_Qi post (fun σ' t => Rep Γ σ' t.heap) (rA Γ)) 0 0 (rA Γ) := by
  refine Met.ofW (cc := cX8_ended) (maxL := 9) (ret := (some .int)) (by decide) rfl ?_
  intro p e s m args below meth c s₁ B hml hv
  obtain ⟨rfl, hR, hE⟩ := hv
  have F : Fx Γ p s m meth c _ cX8_ended 9 RX8 wsX8_ended (some .int) := ⟨⟨B.exec, B.bytes, hml, findClass_of_methodNamed B.named, atoms_spec (ws := wsX8_ended) B.pre⟩, hE, B.notSynchronized, B.returns⟩
  have hl := lv_entry ([.ref o, .long p1, .long p2]) (n := 9) (Nat.le_of_ble_eq_true rfl)
  rw [lg_entry_eq]
  generalize (lg_sl ([.ref o, .long p1, .long p2]) ++ List.replicate (9 - (lg_sl ([.ref o, .long p1, .long p2])).length) Slot.unset).toArray = ls at hl ⊢
  have hl : lv_has ls 9 [(0, .ref o), (1, .long p1), (3, .long p2)] := hl
  exact bX8_ended F h hR va_S.rf hl ⟨Nat.le_refl 0, Nat.le_refl 0⟩
/-! X8_put -/
theorem mX8_put_0 : Cond.constantLong RX8 146 (999999999999999999) ∈ wsX8_put := by decide +kernel
theorem mX8_put_1 : Cond.fieldLink RX8 152 "ClearingFilesModel" "stage" "I" ∈ wsX8_put := by decide +kernel
theorem mX8_put_2 : Cond.fieldLink RX8 161 "ClearingFilesModel" "batches" "I" ∈ wsX8_put := by decide +kernel
theorem mX8_put_3 : Cond.fieldLink RX8 39 "ClearingFilesModel" "saysCount" "[I" ∈ wsX8_put := by decide +kernel
theorem mX8_put_4 : Cond.fieldLink RX8 42 "ClearingFilesModel" "saysHash" "[I" ∈ wsX8_put := by decide +kernel
theorem mX8_put_5 : Cond.fieldLink RX8 45 "ClearingFilesModel" "saysDebits" "[I" ∈ wsX8_put := by decide +kernel
theorem mX8_put_6 : Cond.fieldLink RX8 48 "ClearingFilesModel" "saysCredits" "[I" ∈ wsX8_put := by decide +kernel
theorem mX8_put_7 : Cond.fieldLink RX8 155 "ClearingFilesModel" "sender" "I" ∈ wsX8_put := by decide +kernel
theorem mX8_put_8 : Cond.fieldLink RX8 158 "ClearingFilesModel" "fileNumber" "I" ∈ wsX8_put := by decide +kernel
theorem mX8_put_9 : Cond.fieldLink RX8 164 "ClearingFilesModel" "entries" "I" ∈ wsX8_put := by decide +kernel
theorem nX8_put_X8 : ∀ w ∈ u_ws RX8 TX8 46, w ∈ wsX8_put := fun _ h => List.mem_cons_of_mem _ (List.mem_append_right _ h)
abbrev rmX8_put : Room := { frames := 5, cells := 0, slots := 0, locals := 125 }
set_option maxRecDepth 100000 in
def wX8_put_222 (o : Nat) (post : Int32 → St → Prop) (x1 : Int64) (x3 : Int64) (x7 : Int32) (x8 : Int32) (σ0 : St) : Prop :=
  (x7 = (9 : Int32) → ((x8 = (1 : Int32) → (sK σ0 o = 9 ∧ (wX8_ended o x1 x3 (fun (x24 : Int32) (σ22 : St) => post x24 σ22) σ0))) ∧ (¬ x8 = (1 : Int32) → (post (-2 : Int32) σ0)))) ∧ (¬ x7 = (9 : Int32) → (post (-2 : Int32) σ0))
set_option maxHeartbeats 4000000 in
set_option maxRecDepth 100000 in
theorem bX8_put_222 {p : Program} {l : Launch} {e : Env} {s : State} {m : MethodId} {args : Array Value} {below : List Frame} {meth : Method} {c : Code} {Γ : rGam} {o : Nat} {post : Int32 → St → Prop} (F : Fx Γ p s m meth c args cX8_put 10 RX8 wsX8_put (some .int)) {H : Heap} {locs : List Loc} {ls : Array Slot} {cells slots : Nat} {x1 : Int64} {x3 : Int64} {x7 : Int32} {x8 : Int32} {σ0 : St} (h : wX8_put_222 o post x1 x3 x7 x8 σ0) (hR : Rep Γ σ0 H) (hS : va_S (rA Γ) s.heap H locs) (hl : lv_has ls 10 [(0, .ref o), (1, .long x1), (3, .long x3), (7, .int x7), (8, .int x8)]) (hc : cells ≤ 0 ∧ slots ≤ 0) : W p l e rmX8_put s m args below meth c H locs cells slots (rQi Γ below post args s 0 0) (F0 m 222 ls []) := by
  have hx := F.1.1
  have hb := F.1.2.1
  unfold wX8_put_222 at h
  refine lv_iload hx hb dX8_put_222 (lv_at hl 3 rfl) ?_
  refine lv_bipush (v := 9) hx hb dX8_put_224 (by decide) ?_
  refine lv_icmp_ne (tgt := 244) hx hb dX8_put_226 (by decide) (fun c19 => ?_) (fun c19 => ?_)
  · replace h := h.2 c19
    refine lv_bipush (v := -2) hx hb dX8_put_244 (by decide) ?_
    exact s_iret F hR hS h hc dX8_put_246
  · replace h := h.1 c19
    refine lv_iload hx hb dX8_put_229 (lv_at hl 4 rfl) ?_
    refine lv_iconst (v := 1) hx hb dX8_put_231 (by decide) ?_
    refine lv_icmp_ne (tgt := 244) hx hb dX8_put_232 (by decide) (fun c20 => ?_) (fun c20 => ?_)
    · replace h := h.2 c20
      refine lv_bipush (v := -2) hx hb dX8_put_244 (by decide) ?_
      exact s_iret F hR hS h hc dX8_put_246
    · replace h := h.1 c20
      refine lv_aload_n hx hb dX8_put_235 rfl (lv_at hl 0 rfl) ?_
      refine lv_lload_n hx hb dX8_put_236 rfl (lv_at hl 1 rfl) ?_
      refine lv_lload_n hx hb dX8_put_237 rfl (lv_at hl 2 rfl) ?_
      obtain ⟨k21, h⟩ := h
      refine s_ci hS (k_runV F hR hS hl 2 [.long x1, .long x3] (kX8_ended l Γ o x1 x3 _ _ h) gX8_put_X8_ended rfl rfl rfl (by decide +kernel) ⟨Nat.le_of_ble_eq_true rfl, Nat.le_of_ble_eq_true rfl⟩ (s_recv F hR k21 (by decide) (C := RX8) (T := TX8) (N := 46) rfl) rfl (Nat.le_of_ble_eq_true rfl) dX8_put_238 ⟨by show _ ≤ 0; omega, by show _ ≤ 0; omega⟩) (fun x24 σ22 H locs h23 hR hS => ?_)
      refine lv_goto (tgt := 246) hx hb dX8_put_241 (by decide) ?_
      exact s_iret F hR hS h23 hc dX8_put_246

set_option maxRecDepth 100000 in
def wX8_put_138 (o : Nat) (post : Int32 → St → Prop) (x1 : Int64) (x3 : Int64) (x7 : Int32) (x8 : Int32) (σ0 : St) : Prop :=
  (x7 = (8 : Int32) → ((x8 = (2 : Int32) → (sK σ0 o = 9 ∧ (∀ x27 : Int32, x27 = ((sI σ0 462 o 0) - (1 : Int32)) → (sK σ0 o = 9 ∧ (∀ r30 : Option Nat, r30 = sR σ0 467 o 0 → (wX8_digits x1 (1 : Int32) (4 : Int32) (fun (x33 : Int32) (σ31 : St) => ∃ a34 : Nat, r30 = some a34 ∧ (sK σ31 a34 = 1467 ∧ (vp_in x27 4 ∧ (∀ σ37 : St, σ37 = uI σ31 1467 a34 (x27.toNatClampNeg) x33 → (sK σ37 o = 9 ∧ (∀ r39 : Option Nat, r39 = sR σ37 468 o 0 → (wX8_digits x1 (5 : Int32) (6 : Int32) (fun (x42 : Int32) (σ40 : St) => ∃ a43 : Nat, r39 = some a43 ∧ (sK σ40 a43 = 1468 ∧ (vp_in x27 4 ∧ (∀ σ46 : St, σ46 = uI σ40 1468 a43 (x27.toNatClampNeg) x42 → (sK σ46 o = 9 ∧ (∀ r48 : Option Nat, r48 = sR σ46 469 o 0 → (wX8_digits x3 (0 : Int32) (9 : Int32) (fun (x51 : Int32) (σ49 : St) => ∃ a52 : Nat, r48 = some a52 ∧ (sK σ49 a52 = 1469 ∧ (vp_in x27 4 ∧ (∀ σ55 : St, σ55 = uI σ49 1469 a52 (x27.toNatClampNeg) x51 → (sK σ55 o = 9 ∧ (∀ r57 : Option Nat, r57 = sR σ55 470 o 0 → (wX8_digits x3 (9 : Int32) (9 : Int32) (fun (x60 : Int32) (σ58 : St) => ∃ a61 : Nat, r57 = some a61 ∧ (sK σ58 a61 = 1470 ∧ (vp_in x27 4 ∧ (∀ σ64 : St, σ64 = uI σ58 1470 a61 (x27.toNatClampNeg) x60 → (sK σ64 o = 9 ∧ (∀ σ66 : St, σ66 = uI σ64 459 o 0 (1 : Int32) → (post (0 : Int32) σ66))))))) σ55))))))) σ46))))))) σ37))))))) σ0)))))) ∧ (¬ x8 = (2 : Int32) → (wX8_put_222 o post x1 x3 x7 x8 σ0)))) ∧ (¬ x7 = (8 : Int32) → (wX8_put_222 o post x1 x3 x7 x8 σ0))
set_option maxHeartbeats 4000000 in
set_option maxRecDepth 100000 in
theorem bX8_put_138 {p : Program} {l : Launch} {e : Env} {s : State} {m : MethodId} {args : Array Value} {below : List Frame} {meth : Method} {c : Code} {Γ : rGam} {o : Nat} {post : Int32 → St → Prop} (F : Fx Γ p s m meth c args cX8_put 10 RX8 wsX8_put (some .int)) {H : Heap} {locs : List Loc} {ls : Array Slot} {cells slots : Nat} {x1 : Int64} {x3 : Int64} {x7 : Int32} {x8 : Int32} {σ0 : St} (h : wX8_put_138 o post x1 x3 x7 x8 σ0) (hR : Rep Γ σ0 H) (hS : va_S (rA Γ) s.heap H locs) (hl : lv_has ls 10 [(0, .ref o), (1, .long x1), (3, .long x3), (7, .int x7), (8, .int x8)]) (hc : cells ≤ 0 ∧ slots ≤ 0) : W p l e rmX8_put s m args below meth c H locs cells slots (rQi Γ below post args s 0 0) (F0 m 138 ls []) := by
  have hx := F.1.1
  have hb := F.1.2.1
  unfold wX8_put_138 at h
  refine lv_iload hx hb dX8_put_138 (lv_at hl 3 rfl) ?_
  refine lv_bipush (v := 8) hx hb dX8_put_140 (by decide) ?_
  refine lv_icmp_ne (tgt := 222) hx hb dX8_put_142 (by decide) (fun c18 => ?_) (fun c18 => ?_)
  · replace h := h.2 c18
    exact bX8_put_222 F h hR hS (lv_sub hl [0, 1, 2, 3, 4] rfl) hc
  · replace h := h.1 c18
    refine lv_iload hx hb dX8_put_145 (lv_at hl 4 rfl) ?_
    refine lv_iconst (v := 2) hx hb dX8_put_147 (by decide) ?_
    refine lv_icmp_ne (tgt := 222) hx hb dX8_put_148 (by decide) (fun c25 => ?_) (fun c25 => ?_)
    · replace h := h.2 c25
      exact bX8_put_222 F h hR hS (lv_sub hl [0, 1, 2, 3, 4] rfl) hc
    · replace h := h.1 c25
      refine lv_aload_n hx hb dX8_put_151 rfl (lv_at hl 0 rfl) ?_
      obtain ⟨k26, h⟩ := h
      refine s_getI F hR k26 (by decide) (C := RX8) (T := TX8) (N := 46) rfl nX8_put_X8 12 (by decide) mX8_put_2 (f := 462) rfl dX8_put_152 ?_
      refine lv_iconst (v := 1) hx hb dX8_put_155 (by decide) ?_
      refine lv_isub hx hb dX8_put_156 ?_
      refine lv_topi (fun x27 ex27 => ?_)
      replace h := h x27 ex27
      refine s_istore (lk := [(8, .int x8)]) (lv' := [(9, .int x27), (0, .ref o), (1, .long x1), (3, .long x3), (7, .int x7), (8, .int x8)]) hx hb dX8_put_157 hl (by decide) rfl (lk_1 rfl) rfl (fun ls hl28 => ?_)
      refine lv_aload_n hx hb dX8_put_159 rfl (lv_at hl28 1 rfl) ?_
      obtain ⟨k29, h⟩ := h
      refine s_getR F hR k29 (by decide) (C := RX8) (T := TX8) (N := 46) rfl nX8_put_X8 17 (by decide) mX8_put_3 (f := 467) rfl dX8_put_160 (fun r30 er30 => ?_)
      replace h := h r30 er30
      refine lv_iload hx hb dX8_put_163 (lv_at hl28 0 rfl) ?_
      refine lv_lload_n hx hb dX8_put_165 rfl (lv_at hl28 2 rfl) ?_
      refine lv_iconst (v := 1) hx hb dX8_put_166 (by decide) ?_
      refine lv_iconst (v := 4) hx hb dX8_put_167 (by decide) ?_
      refine s_ci hS (k_runS F hR hS hl28 3 [.long x1, .int (1 : Int32), .int (4 : Int32)] (kX8_digits l Γ x1 (1 : Int32) (4 : Int32) _ _ h) gX8_put_X8_digits rfl rfl rfl (by decide +kernel) ⟨Nat.le_of_ble_eq_true rfl, Nat.le_of_ble_eq_true rfl⟩ rfl (by simp only [List.map_cons, List.map_nil, List.sum_cons, List.sum_nil, va_cat] <;> exact Nat.le_of_ble_eq_true rfl) dX8_put_168 ⟨by show _ ≤ 0; omega, by show _ ≤ 0; omega⟩) (fun x33 σ31 H locs h32 hR hS => ?_)
      obtain ⟨a34, ea34, h32⟩ := h32
      subst ea34
      obtain ⟨k35, h32⟩ := h32
      obtain ⟨z36, h32⟩ := h32
      refine s_iast F hR hS k35 (by decide) rfl z36 dX8_put_171 (fun σ37 eσ37 H locs hR hS => ?_)
      replace h32 := h32 σ37 eσ37
      refine lv_aload_n hx hb dX8_put_172 rfl (lv_at hl28 1 rfl) ?_
      obtain ⟨k38, h32⟩ := h32
      refine s_getR F hR k38 (by decide) (C := RX8) (T := TX8) (N := 46) rfl nX8_put_X8 18 (by decide) mX8_put_4 (f := 468) rfl dX8_put_173 (fun r39 er39 => ?_)
      replace h32 := h32 r39 er39
      refine lv_iload hx hb dX8_put_176 (lv_at hl28 0 rfl) ?_
      refine lv_lload_n hx hb dX8_put_178 rfl (lv_at hl28 2 rfl) ?_
      refine lv_iconst (v := 5) hx hb dX8_put_179 (by decide) ?_
      refine lv_bipush (v := 6) hx hb dX8_put_180 (by decide) ?_
      refine s_ci hS (k_runS F hR hS hl28 3 [.long x1, .int (5 : Int32), .int (6 : Int32)] (kX8_digits l Γ x1 (5 : Int32) (6 : Int32) _ _ h32) gX8_put_X8_digits rfl rfl rfl (by decide +kernel) ⟨Nat.le_of_ble_eq_true rfl, Nat.le_of_ble_eq_true rfl⟩ rfl (by simp only [List.map_cons, List.map_nil, List.sum_cons, List.sum_nil, va_cat] <;> exact Nat.le_of_ble_eq_true rfl) dX8_put_182 ⟨by show _ ≤ 0; omega, by show _ ≤ 0; omega⟩) (fun x42 σ40 H locs h41 hR hS => ?_)
      obtain ⟨a43, ea43, h41⟩ := h41
      subst ea43
      obtain ⟨k44, h41⟩ := h41
      obtain ⟨z45, h41⟩ := h41
      refine s_iast F hR hS k44 (by decide) rfl z45 dX8_put_185 (fun σ46 eσ46 H locs hR hS => ?_)
      replace h41 := h41 σ46 eσ46
      refine lv_aload_n hx hb dX8_put_186 rfl (lv_at hl28 1 rfl) ?_
      obtain ⟨k47, h41⟩ := h41
      refine s_getR F hR k47 (by decide) (C := RX8) (T := TX8) (N := 46) rfl nX8_put_X8 19 (by decide) mX8_put_5 (f := 469) rfl dX8_put_187 (fun r48 er48 => ?_)
      replace h41 := h41 r48 er48
      refine lv_iload hx hb dX8_put_190 (lv_at hl28 0 rfl) ?_
      refine lv_lload_n hx hb dX8_put_192 rfl (lv_at hl28 3 rfl) ?_
      refine lv_iconst (v := 0) hx hb dX8_put_193 (by decide) ?_
      refine lv_bipush (v := 9) hx hb dX8_put_194 (by decide) ?_
      refine s_ci hS (k_runS F hR hS hl28 3 [.long x3, .int (0 : Int32), .int (9 : Int32)] (kX8_digits l Γ x3 (0 : Int32) (9 : Int32) _ _ h41) gX8_put_X8_digits rfl rfl rfl (by decide +kernel) ⟨Nat.le_of_ble_eq_true rfl, Nat.le_of_ble_eq_true rfl⟩ rfl (by simp only [List.map_cons, List.map_nil, List.sum_cons, List.sum_nil, va_cat] <;> exact Nat.le_of_ble_eq_true rfl) dX8_put_196 ⟨by show _ ≤ 0; omega, by show _ ≤ 0; omega⟩) (fun x51 σ49 H locs h50 hR hS => ?_)
      obtain ⟨a52, ea52, h50⟩ := h50
      subst ea52
      obtain ⟨k53, h50⟩ := h50
      obtain ⟨z54, h50⟩ := h50
      refine s_iast F hR hS k53 (by decide) rfl z54 dX8_put_199 (fun σ55 eσ55 H locs hR hS => ?_)
      replace h50 := h50 σ55 eσ55
      refine lv_aload_n hx hb dX8_put_200 rfl (lv_at hl28 1 rfl) ?_
      obtain ⟨k56, h50⟩ := h50
      refine s_getR F hR k56 (by decide) (C := RX8) (T := TX8) (N := 46) rfl nX8_put_X8 20 (by decide) mX8_put_6 (f := 470) rfl dX8_put_201 (fun r57 er57 => ?_)
      replace h50 := h50 r57 er57
      refine lv_iload hx hb dX8_put_204 (lv_at hl28 0 rfl) ?_
      refine lv_lload_n hx hb dX8_put_206 rfl (lv_at hl28 3 rfl) ?_
      refine lv_bipush (v := 9) hx hb dX8_put_207 (by decide) ?_
      refine lv_bipush (v := 9) hx hb dX8_put_209 (by decide) ?_
      refine s_ci hS (k_runS F hR hS hl28 3 [.long x3, .int (9 : Int32), .int (9 : Int32)] (kX8_digits l Γ x3 (9 : Int32) (9 : Int32) _ _ h50) gX8_put_X8_digits rfl rfl rfl (by decide +kernel) ⟨Nat.le_of_ble_eq_true rfl, Nat.le_of_ble_eq_true rfl⟩ rfl (by simp only [List.map_cons, List.map_nil, List.sum_cons, List.sum_nil, va_cat] <;> exact Nat.le_of_ble_eq_true rfl) dX8_put_211 ⟨by show _ ≤ 0; omega, by show _ ≤ 0; omega⟩) (fun x60 σ58 H locs h59 hR hS => ?_)
      obtain ⟨a61, ea61, h59⟩ := h59
      subst ea61
      obtain ⟨k62, h59⟩ := h59
      obtain ⟨z63, h59⟩ := h59
      refine s_iast F hR hS k62 (by decide) rfl z63 dX8_put_214 (fun σ64 eσ64 H locs hR hS => ?_)
      replace h59 := h59 σ64 eσ64
      refine lv_aload_n hx hb dX8_put_215 rfl (lv_at hl28 1 rfl) ?_
      refine lv_iconst (v := 1) hx hb dX8_put_216 (by decide) ?_
      obtain ⟨k65, h59⟩ := h59
      refine s_putI (v := (1 : Int32)) F hR hS k65 (by decide) (C := RX8) (T := TX8) (N := 46) rfl nX8_put_X8 tyX8 tyX8_ok nmX8 9 (by decide) mX8_put_1 (Or.inl rfl) rfl rfl (f := 459) rfl rnd_9 dX8_put_217 (fun σ66 eσ66 H locs hR hS => ?_)
      replace h59 := h59 σ66 eσ66
      refine lv_iconst (v := 0) hx hb dX8_put_220 (by decide) ?_
      exact s_iret F hR hS h59 hc dX8_put_221

set_option maxRecDepth 100000 in
def wX8_put_118 (o : Nat) (post : Int32 → St → Prop) (x1 : Int64) (x3 : Int64) (x7 : Int32) (x8 : Int32) (σ0 : St) : Prop :=
  (x7 = (6 : Int32) → ((x8 = (2 : Int32) → (sK σ0 o = 9 ∧ (wX8_entry o x1 x3 (fun (x71 : Int32) (σ69 : St) => post x71 σ69) σ0))) ∧ (¬ x8 = (2 : Int32) → (wX8_put_138 o post x1 x3 x7 x8 σ0)))) ∧ (¬ x7 = (6 : Int32) → (wX8_put_138 o post x1 x3 x7 x8 σ0))
set_option maxHeartbeats 4000000 in
set_option maxRecDepth 100000 in
theorem bX8_put_118 {p : Program} {l : Launch} {e : Env} {s : State} {m : MethodId} {args : Array Value} {below : List Frame} {meth : Method} {c : Code} {Γ : rGam} {o : Nat} {post : Int32 → St → Prop} (F : Fx Γ p s m meth c args cX8_put 10 RX8 wsX8_put (some .int)) {H : Heap} {locs : List Loc} {ls : Array Slot} {cells slots : Nat} {x1 : Int64} {x3 : Int64} {x7 : Int32} {x8 : Int32} {σ0 : St} (h : wX8_put_118 o post x1 x3 x7 x8 σ0) (hR : Rep Γ σ0 H) (hS : va_S (rA Γ) s.heap H locs) (hl : lv_has ls 10 [(0, .ref o), (1, .long x1), (3, .long x3), (7, .int x7), (8, .int x8)]) (hc : cells ≤ 0 ∧ slots ≤ 0) : W p l e rmX8_put s m args below meth c H locs cells slots (rQi Γ below post args s 0 0) (F0 m 118 ls []) := by
  have hx := F.1.1
  have hb := F.1.2.1
  unfold wX8_put_118 at h
  refine lv_iload hx hb dX8_put_118 (lv_at hl 3 rfl) ?_
  refine lv_bipush (v := 6) hx hb dX8_put_120 (by decide) ?_
  refine lv_icmp_ne (tgt := 138) hx hb dX8_put_122 (by decide) (fun c17 => ?_) (fun c17 => ?_)
  · replace h := h.2 c17
    exact bX8_put_138 F h hR hS (lv_sub hl [0, 1, 2, 3, 4] rfl) hc
  · replace h := h.1 c17
    refine lv_iload hx hb dX8_put_125 (lv_at hl 4 rfl) ?_
    refine lv_iconst (v := 2) hx hb dX8_put_127 (by decide) ?_
    refine lv_icmp_ne (tgt := 138) hx hb dX8_put_128 (by decide) (fun c67 => ?_) (fun c67 => ?_)
    · replace h := h.2 c67
      exact bX8_put_138 F h hR hS (lv_sub hl [0, 1, 2, 3, 4] rfl) hc
    · replace h := h.1 c67
      refine lv_aload_n hx hb dX8_put_131 rfl (lv_at hl 0 rfl) ?_
      refine lv_lload_n hx hb dX8_put_132 rfl (lv_at hl 1 rfl) ?_
      refine lv_lload_n hx hb dX8_put_133 rfl (lv_at hl 2 rfl) ?_
      obtain ⟨k68, h⟩ := h
      refine s_ci hS (k_runV F hR hS hl 2 [.long x1, .long x3] (kX8_entry l Γ o x1 x3 _ _ h) gX8_put_X8_entry rfl rfl rfl (by decide +kernel) ⟨Nat.le_of_ble_eq_true rfl, Nat.le_of_ble_eq_true rfl⟩ (s_recv F hR k68 (by decide) (C := RX8) (T := TX8) (N := 46) rfl) rfl (Nat.le_of_ble_eq_true rfl) dX8_put_134 ⟨by show _ ≤ 0; omega, by show _ ≤ 0; omega⟩) (fun x71 σ69 H locs h70 hR hS => ?_)
      exact s_iret F hR hS h70 hc dX8_put_137

set_option maxRecDepth 100000 in
def wX8_put_100 (o : Nat) (post : Int32 → St → Prop) (x1 : Int64) (x3 : Int64) (x7 : Int32) (x8 : Int32) (σ0 : St) : Prop :=
  (x7 = (5 : Int32) → ((x8 = (1 : Int32) → (sK σ0 o = 9 ∧ (wX8_batch o x1 (fun (x76 : Int32) (σ74 : St) => post x76 σ74) σ0))) ∧ (¬ x8 = (1 : Int32) → (wX8_put_118 o post x1 x3 x7 x8 σ0)))) ∧ (¬ x7 = (5 : Int32) → (wX8_put_118 o post x1 x3 x7 x8 σ0))
set_option maxHeartbeats 4000000 in
set_option maxRecDepth 100000 in
theorem bX8_put_100 {p : Program} {l : Launch} {e : Env} {s : State} {m : MethodId} {args : Array Value} {below : List Frame} {meth : Method} {c : Code} {Γ : rGam} {o : Nat} {post : Int32 → St → Prop} (F : Fx Γ p s m meth c args cX8_put 10 RX8 wsX8_put (some .int)) {H : Heap} {locs : List Loc} {ls : Array Slot} {cells slots : Nat} {x1 : Int64} {x3 : Int64} {x7 : Int32} {x8 : Int32} {σ0 : St} (h : wX8_put_100 o post x1 x3 x7 x8 σ0) (hR : Rep Γ σ0 H) (hS : va_S (rA Γ) s.heap H locs) (hl : lv_has ls 10 [(0, .ref o), (1, .long x1), (3, .long x3), (7, .int x7), (8, .int x8)]) (hc : cells ≤ 0 ∧ slots ≤ 0) : W p l e rmX8_put s m args below meth c H locs cells slots (rQi Γ below post args s 0 0) (F0 m 100 ls []) := by
  have hx := F.1.1
  have hb := F.1.2.1
  unfold wX8_put_100 at h
  refine lv_iload hx hb dX8_put_100 (lv_at hl 3 rfl) ?_
  refine lv_iconst (v := 5) hx hb dX8_put_102 (by decide) ?_
  refine lv_icmp_ne (tgt := 118) hx hb dX8_put_103 (by decide) (fun c16 => ?_) (fun c16 => ?_)
  · replace h := h.2 c16
    exact bX8_put_118 F h hR hS (lv_sub hl [0, 1, 2, 3, 4] rfl) hc
  · replace h := h.1 c16
    refine lv_iload hx hb dX8_put_106 (lv_at hl 4 rfl) ?_
    refine lv_iconst (v := 1) hx hb dX8_put_108 (by decide) ?_
    refine lv_icmp_ne (tgt := 118) hx hb dX8_put_109 (by decide) (fun c72 => ?_) (fun c72 => ?_)
    · replace h := h.2 c72
      exact bX8_put_118 F h hR hS (lv_sub hl [0, 1, 2, 3, 4] rfl) hc
    · replace h := h.1 c72
      refine lv_aload_n hx hb dX8_put_112 rfl (lv_at hl 0 rfl) ?_
      refine lv_lload_n hx hb dX8_put_113 rfl (lv_at hl 1 rfl) ?_
      obtain ⟨k73, h⟩ := h
      refine s_ci hS (k_runV F hR hS hl 1 [.long x1] (kX8_batch l Γ o x1 _ _ h) gX8_put_X8_batch rfl rfl rfl (by decide +kernel) ⟨Nat.le_of_ble_eq_true rfl, Nat.le_of_ble_eq_true rfl⟩ (s_recv F hR k73 (by decide) (C := RX8) (T := TX8) (N := 46) rfl) rfl (Nat.le_of_ble_eq_true rfl) dX8_put_114 ⟨by show _ ≤ 0; omega, by show _ ≤ 0; omega⟩) (fun x76 σ74 H locs h75 hR hS => ?_)
      exact s_iret F hR hS h75 hc dX8_put_117

set_option maxRecDepth 100000 in
def wX8_put (o : Nat) (p1 : Int64) (p2 : Int64) (post : Int32 → St → Prop) (σ0 : St) : Prop :=
  ((lg_cmp p1 (0 : Int64)) < 0 → (post (-1 : Int32) σ0)) ∧ (¬ (lg_cmp p1 (0 : Int64)) < 0 → ((0 < (lg_cmp p1 (999999999999999999 : Int64)) → (post (-1 : Int32) σ0)) ∧ (¬ 0 < (lg_cmp p1 (999999999999999999 : Int64)) → (((lg_cmp p2 (0 : Int64)) < 0 → (post (-1 : Int32) σ0)) ∧ (¬ (lg_cmp p2 (0 : Int64)) < 0 → (((lg_cmp p2 (999999999999999999 : Int64)) ≤ 0 → (wX8_digits p1 (0 : Int32) (1 : Int32) (fun (x8 : Int32) (σ6 : St) => sK σ6 o = 9 ∧ (∀ x11 : Int32, x11 = (sI σ6 459 o 0) → (sK σ6 o = 9 ∧ (∀ σ14 : St, σ14 = uI σ6 459 o 0 (0 : Int32) → ((x8 = (1 : Int32) → ((x11 = 0 → (wX8_digits p1 (1 : Int32) (4 : Int32) (fun (x80 : Int32) (σ78 : St) => sK σ78 o = 9 ∧ (∀ σ82 : St, σ82 = uI σ78 460 o 0 x80 → (wX8_digits p1 (5 : Int32) (4 : Int32) (fun (x85 : Int32) (σ83 : St) => sK σ83 o = 9 ∧ (∀ σ87 : St, σ87 = uI σ83 461 o 0 x85 → (sK σ87 o = 9 ∧ (∀ σ89 : St, σ89 = uI σ87 462 o 0 (0 : Int32) → (sK σ89 o = 9 ∧ (∀ σ91 : St, σ91 = uI σ89 463 o 0 (0 : Int32) → (sK σ91 o = 9 ∧ (∀ σ93 : St, σ93 = uI σ91 459 o 0 (1 : Int32) → (post (0 : Int32) σ93))))))))) σ82))) σ14)) ∧ (¬ x11 = 0 → (wX8_put_100 o post p1 p2 x8 x11 σ14)))) ∧ (¬ x8 = (1 : Int32) → (wX8_put_100 o post p1 p2 x8 x11 σ14))))))) σ0)) ∧ (¬ (lg_cmp p2 (999999999999999999 : Int64)) ≤ 0 → (post (-1 : Int32) σ0))))))))
set_option maxHeartbeats 4000000 in
set_option maxRecDepth 100000 in
theorem bX8_put {p : Program} {l : Launch} {e : Env} {s : State} {m : MethodId} {args : Array Value} {below : List Frame} {meth : Method} {c : Code} {Γ : rGam} {o : Nat} {post : Int32 → St → Prop} (F : Fx Γ p s m meth c args cX8_put 10 RX8 wsX8_put (some .int)) {H : Heap} {locs : List Loc} {ls : Array Slot} {cells slots : Nat} {p1 : Int64} {p2 : Int64} {σ0 : St} (h : wX8_put o p1 p2 post σ0) (hR : Rep Γ σ0 H) (hS : va_S (rA Γ) s.heap H locs) (hl : lv_has ls 10 [(0, .ref o), (1, .long p1), (3, .long p2)]) (hc : cells ≤ 0 ∧ slots ≤ 0) : W p l e rmX8_put s m args below meth c H locs cells slots (rQi Γ below post args s 0 0) (F0 m 0 ls []) := by
  have hx := F.1.1
  have hb := F.1.2.1
  unfold wX8_put at h
  refine lv_ldc2 hx hb F.1.2.2.2.1 (F.1.2.2.2.2 _ mX8_put_0) dX8_put_0 ?_
  refine s_lstore (lk := []) (lv' := [(5, .long (999999999999999999 : Int64)), (0, .ref o), (1, .long p1), (3, .long p2)]) hx hb dX8_put_3 hl (by decide) rfl lk_0 rfl (fun ls hl1 => ?_)
  refine lv_lload_n hx hb dX8_put_5 rfl (lv_at hl1 2 rfl) ?_
  refine lv_lconst (v := 0) hx hb dX8_put_6 (by decide) ?_
  refine W.lcmp hx hb dX8_put_7 ?_
  refine lv_if_lt (tgt := 31) hx hb dX8_put_8 (by decide) (fun c2 => ?_) (fun c2 => ?_)
  · replace h := h.1 c2
    refine lv_iconst (v := -1) hx hb dX8_put_31 (by decide) ?_
    exact s_iret F hR hS h hc dX8_put_32
  · replace h := h.2 c2
    refine lv_lload_n hx hb dX8_put_11 rfl (lv_at hl1 2 rfl) ?_
    refine lv_lload hx hb dX8_put_12 (lv_at hl1 0 rfl) ?_
    refine W.lcmp hx hb dX8_put_14 ?_
    refine lv_if_gt (tgt := 31) hx hb dX8_put_15 (by decide) (fun c3 => ?_) (fun c3 => ?_)
    · replace h := h.1 c3
      refine lv_iconst (v := -1) hx hb dX8_put_31 (by decide) ?_
      exact s_iret F hR hS h hc dX8_put_32
    · replace h := h.2 c3
      refine lv_lload_n hx hb dX8_put_18 rfl (lv_at hl1 3 rfl) ?_
      refine lv_lconst (v := 0) hx hb dX8_put_19 (by decide) ?_
      refine W.lcmp hx hb dX8_put_20 ?_
      refine lv_if_lt (tgt := 31) hx hb dX8_put_21 (by decide) (fun c4 => ?_) (fun c4 => ?_)
      · replace h := h.1 c4
        refine lv_iconst (v := -1) hx hb dX8_put_31 (by decide) ?_
        exact s_iret F hR hS h hc dX8_put_32
      · replace h := h.2 c4
        refine lv_lload_n hx hb dX8_put_24 rfl (lv_at hl1 3 rfl) ?_
        refine lv_lload hx hb dX8_put_25 (lv_at hl1 0 rfl) ?_
        refine W.lcmp hx hb dX8_put_27 ?_
        refine lv_if_le (tgt := 33) hx hb dX8_put_28 (by decide) (fun c5 => ?_) (fun c5 => ?_)
        · replace h := h.1 c5
          refine lv_lload_n hx hb dX8_put_33 rfl (lv_at hl1 2 rfl) ?_
          refine lv_iconst (v := 0) hx hb dX8_put_34 (by decide) ?_
          refine lv_iconst (v := 1) hx hb dX8_put_35 (by decide) ?_
          refine s_ci hS (k_runS F hR hS hl1 3 [.long p1, .int (0 : Int32), .int (1 : Int32)] (kX8_digits l Γ p1 (0 : Int32) (1 : Int32) _ _ h) gX8_put_X8_digits rfl rfl rfl (by decide +kernel) ⟨Nat.le_of_ble_eq_true rfl, Nat.le_of_ble_eq_true rfl⟩ rfl (Nat.le_of_ble_eq_true rfl) dX8_put_36 ⟨by show _ ≤ 0; omega, by show _ ≤ 0; omega⟩) (fun x8 σ6 H locs h7 hR hS => ?_)
          refine s_istore (lk := []) (lv' := [(7, .int x8), (5, .long (999999999999999999 : Int64)), (0, .ref o), (1, .long p1), (3, .long p2)]) hx hb dX8_put_39 hl1 (by decide) rfl lk_0 rfl (fun ls hl9 => ?_)
          refine lv_aload_n hx hb dX8_put_41 rfl (lv_at hl9 2 rfl) ?_
          obtain ⟨k10, h7⟩ := h7
          refine s_getI F hR k10 (by decide) (C := RX8) (T := TX8) (N := 46) rfl nX8_put_X8 9 (by decide) mX8_put_1 (f := 459) rfl dX8_put_42 ?_
          refine lv_topi (fun x11 ex11 => ?_)
          replace h7 := h7 x11 ex11
          refine s_istore (lk := [(7, .int x8)]) (lv' := [(8, .int x11), (7, .int x8), (5, .long (999999999999999999 : Int64)), (0, .ref o), (1, .long p1), (3, .long p2)]) hx hb dX8_put_45 hl9 (by decide) rfl (lk_1 rfl) rfl (fun ls hl12 => ?_)
          refine lv_aload_n hx hb dX8_put_47 rfl (lv_at hl12 3 rfl) ?_
          refine lv_iconst (v := 0) hx hb dX8_put_48 (by decide) ?_
          obtain ⟨k13, h7⟩ := h7
          refine s_putI (v := (0 : Int32)) F hR hS k13 (by decide) (C := RX8) (T := TX8) (N := 46) rfl nX8_put_X8 tyX8 tyX8_ok nmX8 9 (by decide) mX8_put_1 (Or.inl rfl) rfl rfl (f := 459) rfl rnd_9 dX8_put_49 (fun σ14 eσ14 H locs hR hS => ?_)
          replace h7 := h7 σ14 eσ14
          refine lv_iload hx hb dX8_put_52 (lv_at hl12 1 rfl) ?_
          refine lv_iconst (v := 1) hx hb dX8_put_54 (by decide) ?_
          refine lv_icmp_ne (tgt := 100) hx hb dX8_put_55 (by decide) (fun c15 => ?_) (fun c15 => ?_)
          · replace h7 := h7.2 c15
            exact bX8_put_100 F h7 hR hS (lv_sub hl12 [3, 4, 5, 1, 0] rfl) hc
          · replace h7 := h7.1 c15
            refine lv_iload hx hb dX8_put_58 (lv_at hl12 0 rfl) ?_
            refine lv_if_ne (tgt := 100) hx hb dX8_put_60 (by decide) (fun c77 => ?_) (fun c77 => ?_)
            · replace h7 := h7.2 c77
              exact bX8_put_100 F h7 hR hS (lv_sub hl12 [3, 4, 5, 1, 0] rfl) hc
            · replace h7 := h7.1 c77
              refine lv_aload_n hx hb dX8_put_63 rfl (lv_at hl12 3 rfl) ?_
              refine lv_lload_n hx hb dX8_put_64 rfl (lv_at hl12 4 rfl) ?_
              refine lv_iconst (v := 1) hx hb dX8_put_65 (by decide) ?_
              refine lv_iconst (v := 4) hx hb dX8_put_66 (by decide) ?_
              refine s_ci hS (k_runS F hR hS hl12 3 [.long p1, .int (1 : Int32), .int (4 : Int32)] (kX8_digits l Γ p1 (1 : Int32) (4 : Int32) _ _ h7) gX8_put_X8_digits rfl rfl rfl (by decide +kernel) ⟨Nat.le_of_ble_eq_true rfl, Nat.le_of_ble_eq_true rfl⟩ rfl (Nat.le_of_ble_eq_true rfl) dX8_put_67 ⟨by show _ ≤ 0; omega, by show _ ≤ 0; omega⟩) (fun x80 σ78 H locs h79 hR hS => ?_)
              obtain ⟨k81, h79⟩ := h79
              refine s_putI (v := x80) F hR hS k81 (by decide) (C := RX8) (T := TX8) (N := 46) rfl nX8_put_X8 tyX8 tyX8_ok nmX8 10 (by decide) mX8_put_7 (Or.inl rfl) rfl rfl (f := 460) rfl rnd_9 dX8_put_70 (fun σ82 eσ82 H locs hR hS => ?_)
              replace h79 := h79 σ82 eσ82
              refine lv_aload_n hx hb dX8_put_73 rfl (lv_at hl12 3 rfl) ?_
              refine lv_lload_n hx hb dX8_put_74 rfl (lv_at hl12 4 rfl) ?_
              refine lv_iconst (v := 5) hx hb dX8_put_75 (by decide) ?_
              refine lv_iconst (v := 4) hx hb dX8_put_76 (by decide) ?_
              refine s_ci hS (k_runS F hR hS hl12 3 [.long p1, .int (5 : Int32), .int (4 : Int32)] (kX8_digits l Γ p1 (5 : Int32) (4 : Int32) _ _ h79) gX8_put_X8_digits rfl rfl rfl (by decide +kernel) ⟨Nat.le_of_ble_eq_true rfl, Nat.le_of_ble_eq_true rfl⟩ rfl (Nat.le_of_ble_eq_true rfl) dX8_put_77 ⟨by show _ ≤ 0; omega, by show _ ≤ 0; omega⟩) (fun x85 σ83 H locs h84 hR hS => ?_)
              obtain ⟨k86, h84⟩ := h84
              refine s_putI (v := x85) F hR hS k86 (by decide) (C := RX8) (T := TX8) (N := 46) rfl nX8_put_X8 tyX8 tyX8_ok nmX8 11 (by decide) mX8_put_8 (Or.inl rfl) rfl rfl (f := 461) rfl rnd_9 dX8_put_80 (fun σ87 eσ87 H locs hR hS => ?_)
              replace h84 := h84 σ87 eσ87
              refine lv_aload_n hx hb dX8_put_83 rfl (lv_at hl12 3 rfl) ?_
              refine lv_iconst (v := 0) hx hb dX8_put_84 (by decide) ?_
              obtain ⟨k88, h84⟩ := h84
              refine s_putI (v := (0 : Int32)) F hR hS k88 (by decide) (C := RX8) (T := TX8) (N := 46) rfl nX8_put_X8 tyX8 tyX8_ok nmX8 12 (by decide) mX8_put_2 (Or.inl rfl) rfl rfl (f := 462) rfl rnd_9 dX8_put_85 (fun σ89 eσ89 H locs hR hS => ?_)
              replace h84 := h84 σ89 eσ89
              refine lv_aload_n hx hb dX8_put_88 rfl (lv_at hl12 3 rfl) ?_
              refine lv_iconst (v := 0) hx hb dX8_put_89 (by decide) ?_
              obtain ⟨k90, h84⟩ := h84
              refine s_putI (v := (0 : Int32)) F hR hS k90 (by decide) (C := RX8) (T := TX8) (N := 46) rfl nX8_put_X8 tyX8 tyX8_ok nmX8 13 (by decide) mX8_put_9 (Or.inl rfl) rfl rfl (f := 463) rfl rnd_9 dX8_put_90 (fun σ91 eσ91 H locs hR hS => ?_)
              replace h84 := h84 σ91 eσ91
              refine lv_aload_n hx hb dX8_put_93 rfl (lv_at hl12 3 rfl) ?_
              refine lv_iconst (v := 1) hx hb dX8_put_94 (by decide) ?_
              obtain ⟨k92, h84⟩ := h84
              refine s_putI (v := (1 : Int32)) F hR hS k92 (by decide) (C := RX8) (T := TX8) (N := 46) rfl nX8_put_X8 tyX8 tyX8_ok nmX8 9 (by decide) mX8_put_1 (Or.inl rfl) rfl rfl (f := 459) rfl rnd_9 dX8_put_95 (fun σ93 eσ93 H locs hR hS => ?_)
              replace h84 := h84 σ93 eσ93
              refine lv_iconst (v := 0) hx hb dX8_put_98 (by decide) ?_
              exact s_iret F hR hS h84 hc dX8_put_99
        · replace h := h.2 c5
          refine lv_iconst (v := -1) hx hb dX8_put_31 (by decide) ?_
          exact s_iret F hR hS h hc dX8_put_32
set_option maxHeartbeats 4000000 in
set_option maxRecDepth 100000 in
theorem kX8_put (l : Launch) (Γ : rGam) (o : Nat) (p1 : Int64) (p2 : Int64) (post : Int32 → St → Prop) (σ0 : St) (h : wX8_put o p1 p2 post σ0) : Met l yX8_put wsX8_put rmX8_put (rPc Γ vwCl [.ref o, .long p1, .long p2] (Rep Γ σ0)) (va_Qi post (fun σ' t => Rep Γ σ' t.heap) (rA Γ)) 0 0 (rA Γ) := by
  refine Met.ofW (cc := cX8_put) (maxL := 10) (ret := (some .int)) (by decide) rfl ?_
  intro p e s m args below meth c s₁ B hml hv
  obtain ⟨rfl, hR, hE⟩ := hv
  have F : Fx Γ p s m meth c _ cX8_put 10 RX8 wsX8_put (some .int) := ⟨⟨B.exec, B.bytes, hml, findClass_of_methodNamed B.named, atoms_spec (ws := wsX8_put) B.pre⟩, hE, B.notSynchronized, B.returns⟩
  have hl := lv_entry ([.ref o, .long p1, .long p2]) (n := 10) (Nat.le_of_ble_eq_true rfl)
  rw [lg_entry_eq]
  generalize (lg_sl ([.ref o, .long p1, .long p2]) ++ List.replicate (10 - (lg_sl ([.ref o, .long p1, .long p2])).length) Slot.unset).toArray = ls at hl ⊢
  have hl : lv_has ls 10 [(0, .ref o), (1, .long p1), (3, .long p2)] := hl
  exact bX8_put F h hR va_S.rf hl ⟨Nat.le_refl 0, Nat.le_refl 0⟩
/-! X8_take -/
theorem mX8_take_0 : Cond.fieldLink RX8 102 "ClearingFilesModel" "outCount" "[I" ∈ wsX8_take := by decide +kernel
theorem mX8_take_1 : Cond.fieldLink RX8 105 "ClearingFilesModel" "outRow" "[I" ∈ wsX8_take := by decide +kernel
theorem mX8_take_2 : Cond.fieldLink RX8 108 "ClearingFilesModel" "outReturn" "[Z" ∈ wsX8_take := by decide +kernel
theorem mX8_take_3 : Cond.fieldLink RX8 111 "ClearingFilesModel" "outDone" "[I" ∈ wsX8_take := by decide +kernel
theorem mX8_take_4 : Cond.fieldLink RX8 93 "ClearingFilesModel" "state" "[I" ∈ wsX8_take := by decide +kernel
theorem mX8_take_5 : Cond.fieldLink RX8 72 "ClearingFilesModel" "code" "[I" ∈ wsX8_take := by decide +kernel
theorem mX8_take_6 : Cond.fieldLink RX8 84 "ClearingFilesModel" "amount" "[I" ∈ wsX8_take := by decide +kernel
theorem mX8_take_7 : Cond.fieldLink RX8 13 "ClearingFilesModel" "ledgers" "[J" ∈ wsX8_take := by decide +kernel
theorem mX8_take_8 : Cond.fieldLink RX8 75 "ClearingFilesModel" "giver" "[I" ∈ wsX8_take := by decide +kernel
theorem mX8_take_9 : Cond.fieldLink RX8 78 "ClearingFilesModel" "taker" "[I" ∈ wsX8_take := by decide +kernel
theorem nX8_take_X8 : ∀ w ∈ u_ws RX8 TX8 46, w ∈ wsX8_take := fun _ h => List.mem_cons_of_mem _ (List.mem_append_right _ h)
abbrev rmX8_take : Room := { frames := 0, cells := 0, slots := 0, locals := 0 }
set_option maxRecDepth 100000 in
def wX8_take_100 (o : Nat) (post : St → Prop) (x2 : Int32) (y0 : Int64) (σ0 : St) : Prop :=
  sK σ0 o = 9 ∧ (∀ r56 : Option Nat, r56 = sR σ0 452 o 0 → (sK σ0 o = 9 ∧ (∀ r58 : Option Nat, r58 = sR σ0 481 o 0 → (∃ a59 : Nat, r58 = some a59 ∧ (sK σ0 a59 = 1481 ∧ (vp_in x2 512 ∧ (∃ a62 : Nat, r56 = some a62 ∧ (sK σ0 a62 = 1452 ∧ (vp_in (sI σ0 1481 a59 x2.toNatClampNeg) 5 ∧ (sK σ0 a62 = 1452 ∧ (vp_in (sI σ0 1481 a59 x2.toNatClampNeg) 5 ∧ (∀ σ67 : St, σ67 = uJ σ0 1452 a62 ((sI σ0 1481 a59 x2.toNatClampNeg).toNatClampNeg) ((sJ σ0 1452 a62 (sI σ0 1481 a59 x2.toNatClampNeg).toNatClampNeg) - y0) → (sK σ67 o = 9 ∧ (∀ r69 : Option Nat, r69 = sR σ67 452 o 0 → (sK σ67 o = 9 ∧ (∀ r71 : Option Nat, r71 = sR σ67 482 o 0 → (∃ a72 : Nat, r71 = some a72 ∧ (sK σ67 a72 = 1482 ∧ (vp_in x2 512 ∧ (∃ a75 : Nat, r69 = some a75 ∧ (sK σ67 a75 = 1452 ∧ (vp_in (sI σ67 1482 a72 x2.toNatClampNeg) 5 ∧ (sK σ67 a75 = 1452 ∧ (vp_in (sI σ67 1482 a72 x2.toNatClampNeg) 5 ∧ (∀ σ80 : St, σ80 = uJ σ67 1452 a75 ((sI σ67 1482 a72 x2.toNatClampNeg).toNatClampNeg) ((sJ σ67 1452 a75 (sI σ67 1482 a72 x2.toNatClampNeg).toNatClampNeg) + y0) → (post σ80))))))))))))))))))))))))))
set_option maxHeartbeats 4000000 in
set_option maxRecDepth 100000 in
theorem bX8_take_100 {p : Program} {l : Launch} {e : Env} {s : State} {m : MethodId} {args : Array Value} {below : List Frame} {meth : Method} {c : Code} {Γ : rGam} {o : Nat} {post : St → Prop} (F : Fx Γ p s m meth c args cX8_take 7 RX8 wsX8_take none) {H : Heap} {locs : List Loc} {ls : Array Slot} {cells slots : Nat} {x2 : Int32} {y0 : Int64} {σ0 : St} (h : wX8_take_100 o post x2 y0 σ0) (hR : Rep Γ σ0 H) (hS : va_S (rA Γ) s.heap H locs) (hl : lv_has ls 7 [(0, .ref o), (2, .int x2)]) (hc : cells ≤ 0 ∧ slots ≤ 0) : W p l e rmX8_take s m args below meth c H locs cells slots (rQv Γ below post args s 0 0) (F0 m 100 ls [.long y0]) := by
  have hx := F.1.1
  have hb := F.1.2.1
  unfold wX8_take_100 at h
  refine s_lstore (lk := []) (lv' := [(5, .long y0), (0, .ref o), (2, .int x2)]) hx hb dX8_take_100 hl (by decide) rfl lk_0 rfl (fun ls hl54 => ?_)
  refine lv_aload_n hx hb dX8_take_102 rfl (lv_at hl54 1 rfl) ?_
  obtain ⟨k55, h⟩ := h
  refine s_getR F hR k55 (by decide) (C := RX8) (T := TX8) (N := 46) rfl nX8_take_X8 2 (by decide) mX8_take_7 (f := 452) rfl dX8_take_103 (fun r56 er56 => ?_)
  replace h := h r56 er56
  refine lv_aload_n hx hb dX8_take_106 rfl (lv_at hl54 1 rfl) ?_
  obtain ⟨k57, h⟩ := h
  refine s_getR F hR k57 (by decide) (C := RX8) (T := TX8) (N := 46) rfl nX8_take_X8 31 (by decide) mX8_take_8 (f := 481) rfl dX8_take_107 (fun r58 er58 => ?_)
  replace h := h r58 er58
  refine lv_iload_n hx hb dX8_take_110 rfl (lv_at hl54 2 rfl) ?_
  obtain ⟨a59, ea59, h⟩ := h
  subst ea59
  obtain ⟨k60, h⟩ := h
  obtain ⟨z61, h⟩ := h
  refine s_iald F hR k60 (by decide) rfl z61 dX8_take_111 ?_
  refine lv_dup2_11 hx hb dX8_take_112 rfl (va_cat _) ?_
  obtain ⟨a62, ea62, h⟩ := h
  subst ea62
  obtain ⟨k63, h⟩ := h
  obtain ⟨z64, h⟩ := h
  refine s_lald F hR k63 (by decide) rfl z64 dX8_take_113 ?_
  refine lv_lload hx hb dX8_take_114 (lv_at hl54 0 rfl) ?_
  refine lv_lsub hx hb dX8_take_116 ?_
  obtain ⟨k65, h⟩ := h
  obtain ⟨z66, h⟩ := h
  refine s_last F hR hS k65 (by decide) rfl z66 dX8_take_117 (fun σ67 eσ67 H locs hR hS => ?_)
  replace h := h σ67 eσ67
  refine lv_aload_n hx hb dX8_take_118 rfl (lv_at hl54 1 rfl) ?_
  obtain ⟨k68, h⟩ := h
  refine s_getR F hR k68 (by decide) (C := RX8) (T := TX8) (N := 46) rfl nX8_take_X8 2 (by decide) mX8_take_7 (f := 452) rfl dX8_take_119 (fun r69 er69 => ?_)
  replace h := h r69 er69
  refine lv_aload_n hx hb dX8_take_122 rfl (lv_at hl54 1 rfl) ?_
  obtain ⟨k70, h⟩ := h
  refine s_getR F hR k70 (by decide) (C := RX8) (T := TX8) (N := 46) rfl nX8_take_X8 32 (by decide) mX8_take_9 (f := 482) rfl dX8_take_123 (fun r71 er71 => ?_)
  replace h := h r71 er71
  refine lv_iload_n hx hb dX8_take_126 rfl (lv_at hl54 2 rfl) ?_
  obtain ⟨a72, ea72, h⟩ := h
  subst ea72
  obtain ⟨k73, h⟩ := h
  obtain ⟨z74, h⟩ := h
  refine s_iald F hR k73 (by decide) rfl z74 dX8_take_127 ?_
  refine lv_dup2_11 hx hb dX8_take_128 rfl (va_cat _) ?_
  obtain ⟨a75, ea75, h⟩ := h
  subst ea75
  obtain ⟨k76, h⟩ := h
  obtain ⟨z77, h⟩ := h
  refine s_lald F hR k76 (by decide) rfl z77 dX8_take_129 ?_
  refine lv_lload hx hb dX8_take_130 (lv_at hl54 0 rfl) ?_
  refine lv_ladd hx hb dX8_take_132 ?_
  obtain ⟨k78, h⟩ := h
  obtain ⟨z79, h⟩ := h
  refine s_last F hR hS k78 (by decide) rfl z79 dX8_take_133 (fun σ80 eσ80 H locs hR hS => ?_)
  replace h := h σ80 eσ80
  exact s_vret F hR hS h hc dX8_take_134

set_option maxRecDepth 100000 in
def wX8_take_78 (o : Nat) (post : St → Prop) (x2 : Int32) (x3 : Int32) (y0 : Int32) (σ0 : St) : Prop :=
  (y0 = x3 → (sK σ0 o = 9 ∧ (∀ r50 : Option Nat, r50 = sR σ0 484 o 0 → (∃ a51 : Nat, r50 = some a51 ∧ (sK σ0 a51 = 1484 ∧ (vp_in x2 512 ∧ (wX8_take_100 o post x2 ((-(sI σ0 1484 a51 x2.toNatClampNeg)).toInt64) σ0))))))) ∧ (¬ y0 = x3 → (sK σ0 o = 9 ∧ (∀ r82 : Option Nat, r82 = sR σ0 484 o 0 → (∃ a83 : Nat, r82 = some a83 ∧ (sK σ0 a83 = 1484 ∧ (vp_in x2 512 ∧ (wX8_take_100 o post x2 ((sI σ0 1484 a83 x2.toNatClampNeg).toInt64) σ0)))))))
set_option maxHeartbeats 4000000 in
set_option maxRecDepth 100000 in
theorem bX8_take_78 {p : Program} {l : Launch} {e : Env} {s : State} {m : MethodId} {args : Array Value} {below : List Frame} {meth : Method} {c : Code} {Γ : rGam} {o : Nat} {post : St → Prop} (F : Fx Γ p s m meth c args cX8_take 7 RX8 wsX8_take none) {H : Heap} {locs : List Loc} {ls : Array Slot} {cells slots : Nat} {x2 : Int32} {x3 : Int32} {y0 : Int32} {σ0 : St} (h : wX8_take_78 o post x2 x3 y0 σ0) (hR : Rep Γ σ0 H) (hS : va_S (rA Γ) s.heap H locs) (hl : lv_has ls 7 [(0, .ref o), (2, .int x2), (3, .int x3)]) (hc : cells ≤ 0 ∧ slots ≤ 0) : W p l e rmX8_take s m args below meth c H locs cells slots (rQv Γ below post args s 0 0) (F0 m 78 ls [.int y0]) := by
  have hx := F.1.1
  have hb := F.1.2.1
  unfold wX8_take_78 at h
  refine lv_iload_n hx hb dX8_take_78 rfl (lv_at hl 2 rfl) ?_
  refine lv_icmp_eq (tgt := 92) hx hb dX8_take_79 (by decide) (fun c48 => ?_) (fun c48 => ?_)
  · replace h := h.1 c48
    refine lv_aload_n hx hb dX8_take_92 rfl (lv_at hl 0 rfl) ?_
    obtain ⟨k49, h⟩ := h
    refine s_getR F hR k49 (by decide) (C := RX8) (T := TX8) (N := 46) rfl nX8_take_X8 34 (by decide) mX8_take_6 (f := 484) rfl dX8_take_93 (fun r50 er50 => ?_)
    replace h := h r50 er50
    refine lv_iload_n hx hb dX8_take_96 rfl (lv_at hl 1 rfl) ?_
    obtain ⟨a51, ea51, h⟩ := h
    subst ea51
    obtain ⟨k52, h⟩ := h
    obtain ⟨z53, h⟩ := h
    refine s_iald F hR k52 (by decide) rfl z53 dX8_take_97 ?_
    refine lv_ineg hx hb dX8_take_98 ?_
    refine lv_i2l hx hb dX8_take_99 rfl ?_
    exact bX8_take_100 F h hR hS (lv_sub hl [0, 1] rfl) hc
  · replace h := h.2 c48
    refine lv_aload_n hx hb dX8_take_82 rfl (lv_at hl 0 rfl) ?_
    obtain ⟨k81, h⟩ := h
    refine s_getR F hR k81 (by decide) (C := RX8) (T := TX8) (N := 46) rfl nX8_take_X8 34 (by decide) mX8_take_6 (f := 484) rfl dX8_take_83 (fun r82 er82 => ?_)
    replace h := h r82 er82
    refine lv_iload_n hx hb dX8_take_86 rfl (lv_at hl 1 rfl) ?_
    obtain ⟨a83, ea83, h⟩ := h
    subst ea83
    obtain ⟨k84, h⟩ := h
    obtain ⟨z85, h⟩ := h
    refine s_iald F hR k84 (by decide) rfl z85 dX8_take_87 ?_
    refine lv_i2l hx hb dX8_take_88 rfl ?_
    refine lv_goto (tgt := 100) hx hb dX8_take_89 (by decide) ?_
    exact bX8_take_100 F h hR hS (lv_sub hl [0, 1] rfl) hc

set_option maxRecDepth 100000 in
def wX8_take_62 (o : Nat) (post : St → Prop) (x2 : Int32) (x3 : Int32) (q0 : Option Nat) (y1 : Int32) (y2 : Int32) (σ0 : St) : Prop :=
  ∃ a38 : Nat, q0 = some a38 ∧ (sK σ0 a38 = 1487 ∧ (vp_in y1 512 ∧ (∀ σ41 : St, σ41 = uI σ0 1487 a38 (y1.toNatClampNeg) y2 → (sK σ41 o = 9 ∧ (∀ r43 : Option Nat, r43 = sR σ41 480 o 0 → (∃ a44 : Nat, r43 = some a44 ∧ (sK σ41 a44 = 1480 ∧ (vp_in x2 512 ∧ (((sI σ41 1480 a44 x2.toNatClampNeg) = (2 : Int32) → (wX8_take_78 o post x2 x3 (1 : Int32) σ41)) ∧ (¬ (sI σ41 1480 a44 x2.toNatClampNeg) = (2 : Int32) → (wX8_take_78 o post x2 x3 (0 : Int32) σ41)))))))))))
set_option maxHeartbeats 4000000 in
set_option maxRecDepth 100000 in
theorem bX8_take_62 {p : Program} {l : Launch} {e : Env} {s : State} {m : MethodId} {args : Array Value} {below : List Frame} {meth : Method} {c : Code} {Γ : rGam} {o : Nat} {post : St → Prop} (F : Fx Γ p s m meth c args cX8_take 7 RX8 wsX8_take none) {H : Heap} {locs : List Loc} {ls : Array Slot} {cells slots : Nat} {x2 : Int32} {x3 : Int32} {q0 : Option Nat} {y1 : Int32} {y2 : Int32} {σ0 : St} (h : wX8_take_62 o post x2 x3 q0 y1 y2 σ0) (hR : Rep Γ σ0 H) (hS : va_S (rA Γ) s.heap H locs) (hl : lv_has ls 7 [(0, .ref o), (2, .int x2), (3, .int x3)]) (hc : cells ≤ 0 ∧ slots ≤ 0) : W p l e rmX8_take s m args below meth c H locs cells slots (rQv Γ below post args s 0 0) (F0 m 62 ls [.int y2, .int y1, va_rf q0]) := by
  have hx := F.1.1
  have hb := F.1.2.1
  unfold wX8_take_62 at h
  obtain ⟨a38, ea38, h⟩ := h
  subst ea38
  obtain ⟨k39, h⟩ := h
  obtain ⟨z40, h⟩ := h
  refine s_iast F hR hS k39 (by decide) rfl z40 dX8_take_62 (fun σ41 eσ41 H locs hR hS => ?_)
  replace h := h σ41 eσ41
  refine lv_aload_n hx hb dX8_take_63 rfl (lv_at hl 0 rfl) ?_
  obtain ⟨k42, h⟩ := h
  refine s_getR F hR k42 (by decide) (C := RX8) (T := TX8) (N := 46) rfl nX8_take_X8 30 (by decide) mX8_take_5 (f := 480) rfl dX8_take_64 (fun r43 er43 => ?_)
  replace h := h r43 er43
  refine lv_iload_n hx hb dX8_take_67 rfl (lv_at hl 1 rfl) ?_
  obtain ⟨a44, ea44, h⟩ := h
  subst ea44
  obtain ⟨k45, h⟩ := h
  obtain ⟨z46, h⟩ := h
  refine s_iald F hR k45 (by decide) rfl z46 dX8_take_68 ?_
  refine lv_iconst (v := 2) hx hb dX8_take_69 (by decide) ?_
  refine lv_icmp_ne (tgt := 77) hx hb dX8_take_70 (by decide) (fun c47 => ?_) (fun c47 => ?_)
  · replace h := h.2 c47
    refine lv_iconst (v := 0) hx hb dX8_take_77 (by decide) ?_
    exact bX8_take_78 F h hR hS (lv_sub hl [0, 1, 2] rfl) hc
  · replace h := h.1 c47
    refine lv_iconst (v := 1) hx hb dX8_take_73 (by decide) ?_
    refine lv_goto (tgt := 78) hx hb dX8_take_74 (by decide) ?_
    exact bX8_take_78 F h hR hS (lv_sub hl [0, 1, 2] rfl) hc

set_option maxRecDepth 100000 in
def wX8_take (o : Nat) (p1 : Int32) (p2 : Int32) (p3 : Int32) (post : St → Prop) (σ0 : St) : Prop :=
  sK σ0 o = 9 ∧ (∀ r2 : Option Nat, r2 = sR σ0 491 o 0 → (∃ a3 : Nat, r2 = some a3 ∧ (sK σ0 a3 = 1491 ∧ (vp_in p1 5 ∧ (∀ x6 : Int32, x6 = (((512 : Int32) * p1) + (sI σ0 1491 a3 p1.toNatClampNeg)) → (sK σ0 o = 9 ∧ (∀ r9 : Option Nat, r9 = sR σ0 492 o 0 → (∃ a10 : Nat, r9 = some a10 ∧ (sK σ0 a10 = 1492 ∧ (vp_in x6 2560 ∧ (∀ σ13 : St, σ13 = uI σ0 1492 a10 (x6.toNatClampNeg) p2 → (sK σ13 o = 9 ∧ (∀ r15 : Option Nat, r15 = sR σ13 493 o 0 → (∃ a16 : Nat, r15 = some a16 ∧ (sK σ13 a16 = 1493 ∧ (vp_in x6 2560 ∧ (isB p3 ∧ (∀ σ20 : St, σ20 = uI σ13 1493 a16 (x6.toNatClampNeg) p3 → (sK σ20 o = 9 ∧ (∀ r22 : Option Nat, r22 = sR σ20 494 o 0 → (∃ a23 : Nat, r22 = some a23 ∧ (sK σ20 a23 = 1494 ∧ (vp_in x6 2560 ∧ (∀ σ26 : St, σ26 = uI σ20 1494 a23 (x6.toNatClampNeg) (0 : Int32) → (sK σ26 o = 9 ∧ (∀ r28 : Option Nat, r28 = sR σ26 491 o 0 → (∃ a29 : Nat, r28 = some a29 ∧ (sK σ26 a29 = 1491 ∧ (vp_in p1 5 ∧ (sK σ26 a29 = 1491 ∧ (vp_in p1 5 ∧ (∀ σ34 : St, σ34 = uI σ26 1491 a29 (p1.toNatClampNeg) ((sI σ26 1491 a29 p1.toNatClampNeg) + (1 : Int32)) → (sK σ34 o = 9 ∧ (∀ r36 : Option Nat, r36 = sR σ34 487 o 0 → ((p3 = 0 → (wX8_take_62 o post p2 p3 r36 p2 (1 : Int32) σ34)) ∧ (¬ p3 = 0 → (wX8_take_62 o post p2 p3 r36 p2 (3 : Int32) σ34)))))))))))))))))))))))))))))))))))))
set_option maxHeartbeats 4000000 in
set_option maxRecDepth 100000 in
theorem bX8_take {p : Program} {l : Launch} {e : Env} {s : State} {m : MethodId} {args : Array Value} {below : List Frame} {meth : Method} {c : Code} {Γ : rGam} {o : Nat} {post : St → Prop} (F : Fx Γ p s m meth c args cX8_take 7 RX8 wsX8_take none) {H : Heap} {locs : List Loc} {ls : Array Slot} {cells slots : Nat} {p1 : Int32} {p2 : Int32} {p3 : Int32} {σ0 : St} (h : wX8_take o p1 p2 p3 post σ0) (hR : Rep Γ σ0 H) (hS : va_S (rA Γ) s.heap H locs) (hl : lv_has ls 7 [(0, .ref o), (1, .int p1), (2, .int p2), (3, .int p3)]) (hc : cells ≤ 0 ∧ slots ≤ 0) : W p l e rmX8_take s m args below meth c H locs cells slots (rQv Γ below post args s 0 0) (F0 m 0 ls []) := by
  have hx := F.1.1
  have hb := F.1.2.1
  unfold wX8_take at h
  refine lv_sipush (v := 512) hx hb dX8_take_0 (by decide) ?_
  refine lv_iload_n hx hb dX8_take_3 rfl (lv_at hl 1 rfl) ?_
  refine lv_imul hx hb dX8_take_4 ?_
  refine lv_aload_n hx hb dX8_take_5 rfl (lv_at hl 0 rfl) ?_
  obtain ⟨k1, h⟩ := h
  refine s_getR F hR k1 (by decide) (C := RX8) (T := TX8) (N := 46) rfl nX8_take_X8 41 (by decide) mX8_take_0 (f := 491) rfl dX8_take_6 (fun r2 er2 => ?_)
  replace h := h r2 er2
  refine lv_iload_n hx hb dX8_take_9 rfl (lv_at hl 1 rfl) ?_
  obtain ⟨a3, ea3, h⟩ := h
  subst ea3
  obtain ⟨k4, h⟩ := h
  obtain ⟨z5, h⟩ := h
  refine s_iald F hR k4 (by decide) rfl z5 dX8_take_10 ?_
  refine lv_iadd hx hb dX8_take_11 ?_
  refine lv_topi (fun x6 ex6 => ?_)
  replace h := h x6 ex6
  refine s_istore (lk := [(3, .int p3)]) (lv' := [(4, .int x6), (0, .ref o), (1, .int p1), (2, .int p2), (3, .int p3)]) hx hb dX8_take_12 hl (by decide) rfl (lk_1 rfl) rfl (fun ls hl7 => ?_)
  refine lv_aload_n hx hb dX8_take_14 rfl (lv_at hl7 1 rfl) ?_
  obtain ⟨k8, h⟩ := h
  refine s_getR F hR k8 (by decide) (C := RX8) (T := TX8) (N := 46) rfl nX8_take_X8 42 (by decide) mX8_take_1 (f := 492) rfl dX8_take_15 (fun r9 er9 => ?_)
  replace h := h r9 er9
  refine lv_iload hx hb dX8_take_18 (lv_at hl7 0 rfl) ?_
  refine lv_iload_n hx hb dX8_take_20 rfl (lv_at hl7 3 rfl) ?_
  obtain ⟨a10, ea10, h⟩ := h
  subst ea10
  obtain ⟨k11, h⟩ := h
  obtain ⟨z12, h⟩ := h
  refine s_iast F hR hS k11 (by decide) rfl z12 dX8_take_21 (fun σ13 eσ13 H locs hR hS => ?_)
  replace h := h σ13 eσ13
  refine lv_aload_n hx hb dX8_take_22 rfl (lv_at hl7 1 rfl) ?_
  obtain ⟨k14, h⟩ := h
  refine s_getR F hR k14 (by decide) (C := RX8) (T := TX8) (N := 46) rfl nX8_take_X8 43 (by decide) mX8_take_2 (f := 493) rfl dX8_take_23 (fun r15 er15 => ?_)
  replace h := h r15 er15
  refine lv_iload hx hb dX8_take_26 (lv_at hl7 0 rfl) ?_
  refine lv_iload_n hx hb dX8_take_28 rfl (lv_at hl7 4 rfl) ?_
  obtain ⟨a16, ea16, h⟩ := h
  subst ea16
  obtain ⟨k17, h⟩ := h
  obtain ⟨z18, h⟩ := h
  obtain ⟨z19, h⟩ := h
  refine s_zast F hR hS k17 (by decide) rfl z18 z19 dX8_take_29 (fun σ20 eσ20 H locs hR hS => ?_)
  replace h := h σ20 eσ20
  refine lv_aload_n hx hb dX8_take_30 rfl (lv_at hl7 1 rfl) ?_
  obtain ⟨k21, h⟩ := h
  refine s_getR F hR k21 (by decide) (C := RX8) (T := TX8) (N := 46) rfl nX8_take_X8 44 (by decide) mX8_take_3 (f := 494) rfl dX8_take_31 (fun r22 er22 => ?_)
  replace h := h r22 er22
  refine lv_iload hx hb dX8_take_34 (lv_at hl7 0 rfl) ?_
  refine lv_iconst (v := 0) hx hb dX8_take_36 (by decide) ?_
  obtain ⟨a23, ea23, h⟩ := h
  subst ea23
  obtain ⟨k24, h⟩ := h
  obtain ⟨z25, h⟩ := h
  refine s_iast F hR hS k24 (by decide) rfl z25 dX8_take_37 (fun σ26 eσ26 H locs hR hS => ?_)
  replace h := h σ26 eσ26
  refine lv_aload_n hx hb dX8_take_38 rfl (lv_at hl7 1 rfl) ?_
  obtain ⟨k27, h⟩ := h
  refine s_getR F hR k27 (by decide) (C := RX8) (T := TX8) (N := 46) rfl nX8_take_X8 41 (by decide) mX8_take_0 (f := 491) rfl dX8_take_39 (fun r28 er28 => ?_)
  replace h := h r28 er28
  refine lv_iload_n hx hb dX8_take_42 rfl (lv_at hl7 2 rfl) ?_
  refine lv_dup2_11 hx hb dX8_take_43 rfl (va_cat _) ?_
  obtain ⟨a29, ea29, h⟩ := h
  subst ea29
  obtain ⟨k30, h⟩ := h
  obtain ⟨z31, h⟩ := h
  refine s_iald F hR k30 (by decide) rfl z31 dX8_take_44 ?_
  refine lv_iconst (v := 1) hx hb dX8_take_45 (by decide) ?_
  refine lv_iadd hx hb dX8_take_46 ?_
  obtain ⟨k32, h⟩ := h
  obtain ⟨z33, h⟩ := h
  refine s_iast F hR hS k32 (by decide) rfl z33 dX8_take_47 (fun σ34 eσ34 H locs hR hS => ?_)
  replace h := h σ34 eσ34
  refine lv_aload_n hx hb dX8_take_48 rfl (lv_at hl7 1 rfl) ?_
  obtain ⟨k35, h⟩ := h
  refine s_getR F hR k35 (by decide) (C := RX8) (T := TX8) (N := 46) rfl nX8_take_X8 37 (by decide) mX8_take_4 (f := 487) rfl dX8_take_49 (fun r36 er36 => ?_)
  replace h := h r36 er36
  refine lv_iload_n hx hb dX8_take_52 rfl (lv_at hl7 3 rfl) ?_
  refine lv_iload_n hx hb dX8_take_53 rfl (lv_at hl7 4 rfl) ?_
  refine lv_if_eq (tgt := 61) hx hb dX8_take_54 (by decide) (fun c37 => ?_) (fun c37 => ?_)
  · replace h := h.1 c37
    refine lv_iconst (v := 1) hx hb dX8_take_61 (by decide) ?_
    exact bX8_take_62 F h hR hS (lv_sub hl7 [1, 3, 4] rfl) hc
  · replace h := h.2 c37
    refine lv_iconst (v := 3) hx hb dX8_take_57 (by decide) ?_
    refine lv_goto (tgt := 62) hx hb dX8_take_58 (by decide) ?_
    exact bX8_take_62 F h hR hS (lv_sub hl7 [1, 3, 4] rfl) hc
set_option maxHeartbeats 4000000 in
set_option maxRecDepth 100000 in
theorem kX8_take (l : Launch) (Γ : rGam) (o : Nat) (p1 : Int32) (p2 : Int32) (p3 : Int32) (post : St → Prop) (σ0 : St) (h : wX8_take o p1 p2 p3 post σ0) : Met l yX8_take wsX8_take rmX8_take (rPc Γ vwCl [.ref o, .int p1, .int p2, .int p3] (Rep Γ σ0)) (va_Qv post (fun σ' t => Rep Γ σ' t.heap) (rA Γ)) 0 0 (rA Γ) := by
  refine Met.ofW (cc := cX8_take) (maxL := 7) (ret := none) (by decide) rfl ?_
  intro p e s m args below meth c s₁ B hml hv
  obtain ⟨rfl, hR, hE⟩ := hv
  have F : Fx Γ p s m meth c _ cX8_take 7 RX8 wsX8_take none := ⟨⟨B.exec, B.bytes, hml, findClass_of_methodNamed B.named, atoms_spec (ws := wsX8_take) B.pre⟩, hE, B.notSynchronized, B.returns⟩
  have hl := lv_entry ([.ref o, .int p1, .int p2, .int p3]) (n := 7) (Nat.le_of_ble_eq_true rfl)
  rw [lg_entry_eq]
  generalize (lg_sl ([.ref o, .int p1, .int p2, .int p3]) ++ List.replicate (7 - (lg_sl ([.ref o, .int p1, .int p2, .int p3])).length) Slot.unset).toArray = ls at hl ⊢
  have hl : lv_has ls 7 [(0, .ref o), (1, .int p1), (2, .int p2), (3, .int p3)] := hl
  exact bX8_take F h hR va_S.rf hl ⟨Nat.le_refl 0, Nat.le_refl 0⟩
/-! X8_first -/
theorem mX8_first_0 : Cond.fieldLink RX8 182 "ClearingFilesModel" "rows" "I" ∈ wsX8_first := by decide +kernel
theorem mX8_first_1 : Cond.fieldLink RX8 93 "ClearingFilesModel" "state" "[I" ∈ wsX8_first := by decide +kernel
theorem mX8_first_2 : Cond.fieldLink RX8 78 "ClearingFilesModel" "taker" "[I" ∈ wsX8_first := by decide +kernel
theorem mX8_first_3 : Cond.fieldLink RX8 90 "ClearingFilesModel" "due" "[I" ∈ wsX8_first := by decide +kernel
theorem mX8_first_4 : Cond.fieldLink RX8 143 "ClearingFilesModel" "today" "I" ∈ wsX8_first := by decide +kernel
theorem mX8_first_5 : Cond.fieldLink RX8 75 "ClearingFilesModel" "giver" "[I" ∈ wsX8_first := by decide +kernel
theorem nX8_first_X8 : ∀ w ∈ u_ws RX8 TX8 46, w ∈ wsX8_first := fun _ h => List.mem_cons_of_mem _ (List.mem_append_right _ h)
abbrev rmX8_first : Room := { frames := 1, cells := 0, slots := 0, locals := 23 }
set_option maxRecDepth 100000 in
def wX8_first_111 (k10 : Int32 → Int32 → Int32 → Int32 → St → Prop) (o : Nat) (post : Int32 → St → Prop) (x1 : Int32) (x2 : Int32) (x4 : Int32) (σ0 : St) : Prop :=
  ∀ x19 : Int32, x19 = x4 + (-1 : Int32) → (k10 x1 x2 x4 x19 σ0)
set_option maxHeartbeats 4000000 in
set_option maxRecDepth 100000 in
theorem bX8_first_111 {p : Program} {l : Launch} {e : Env} {s : State} {m : MethodId} {args : Array Value} {below : List Frame} {meth : Method} {c : Code} {Γ : rGam} {o : Nat} {post : Int32 → St → Prop} (F : Fx Γ p s m meth c args cX8_first 6 RX8 wsX8_first (some .int)) {k10 : Int32 → Int32 → Int32 → Int32 → St → Prop} (hk10 : ∀ (x1 : Int32) (x2 : Int32) (x3 : Int32) (x4 : Int32) (σ0 : St) (H : Heap) (locs : List Loc) (ls : Array Slot) (cells slots : Nat), k10 x1 x2 x3 x4 σ0 → Rep Γ σ0 H → va_S (rA Γ) s.heap H locs → lv_has ls 6 [(0, .ref o), (1, .int x1), (2, .int x2), (3, .int x3), (4, .int x4)] → cells ≤ 0 ∧ slots ≤ 0 → W p l e rmX8_first s m args below meth c H locs cells slots (rQi Γ below post args s 0 0) (F0 m 10 ls [])) {H : Heap} {locs : List Loc} {ls : Array Slot} {cells slots : Nat} {x1 : Int32} {x2 : Int32} {x4 : Int32} {σ0 : St} (h : wX8_first_111 k10 o post x1 x2 x4 σ0) (hR : Rep Γ σ0 H) (hS : va_S (rA Γ) s.heap H locs) (hl : lv_has ls 6 [(0, .ref o), (1, .int x1), (2, .int x2), (4, .int x4)]) (hc : cells ≤ 0 ∧ slots ≤ 0) : W p l e rmX8_first s m args below meth c H locs cells slots (rQi Γ below post args s 0 0) (F0 m 111 ls []) := by
  have hx := F.1.1
  have hb := F.1.2.1
  unfold wX8_first_111 at h
  refine lv_iload hx hb dX8_first_111 (lv_at hl 3 rfl) ?_
  refine s_istore_n (lk := [(2, .int x2)]) (lv' := [(3, .int x4), (0, .ref o), (1, .int x1), (2, .int x2), (4, .int x4)]) hx hb dX8_first_113 rfl hl (by decide) rfl (lk_1 rfl) rfl (fun ls hl18 => ?_)
  obtain ⟨x19, ex19⟩ : ∃ x : Int32, x = x4 + (-1 : Int32) := ⟨_, rfl⟩
  replace h := h x19 ex19
  refine s_iinc (v := x19) (d := -1) (lk := [(3, .int x4)]) (lv' := [(4, .int x19), (3, .int x4), (0, .ref o), (1, .int x1), (2, .int x2)]) hx hb dX8_first_114 hl18 (k := 4) rfl (by decide) (by decide) rfl (lk_1 rfl) ex19 rfl (fun ls hl20 => ?_)
  refine lv_goto (tgt := 10) hx hb dX8_first_117 (by decide) ?_
  exact hk10 x1 x2 x4 x19 σ0 _ _ _ _ _ h hR hS (lv_sub hl20 [2, 3, 4, 1, 0] rfl) hc

set_option maxRecDepth 100000 in
def wX8_first_89 (k10 : Int32 → Int32 → Int32 → Int32 → St → Prop) (o : Nat) (post : Int32 → St → Prop) (x1 : Int32) (x2 : Int32) (x3 : Int32) (x4 : Int32) (y0 : Int32) (σ0 : St) : Prop :=
  (y0 = 0 → (∀ x15 : Int32, x15 = x4 + (-1 : Int32) → (k10 x1 x2 x3 x15 σ0))) ∧ (¬ y0 = 0 → ((x3 < 0 → (wX8_first_111 k10 o post x1 x2 x4 σ0)) ∧ (¬ x3 < 0 → (sK σ0 o = 9 ∧ (wX8_before o x4 x3 x2 (fun (x24 : Int32) (σ22 : St) => (x24 = 0 → (∀ x26 : Int32, x26 = x4 + (-1 : Int32) → (k10 x1 x2 x3 x26 σ22))) ∧ (¬ x24 = 0 → (wX8_first_111 k10 o post x1 x2 x4 σ22))) σ0)))))
set_option maxHeartbeats 4000000 in
set_option maxRecDepth 100000 in
theorem bX8_first_89 {p : Program} {l : Launch} {e : Env} {s : State} {m : MethodId} {args : Array Value} {below : List Frame} {meth : Method} {c : Code} {Γ : rGam} {o : Nat} {post : Int32 → St → Prop} (F : Fx Γ p s m meth c args cX8_first 6 RX8 wsX8_first (some .int)) {k10 : Int32 → Int32 → Int32 → Int32 → St → Prop} (hk10 : ∀ (x1 : Int32) (x2 : Int32) (x3 : Int32) (x4 : Int32) (σ0 : St) (H : Heap) (locs : List Loc) (ls : Array Slot) (cells slots : Nat), k10 x1 x2 x3 x4 σ0 → Rep Γ σ0 H → va_S (rA Γ) s.heap H locs → lv_has ls 6 [(0, .ref o), (1, .int x1), (2, .int x2), (3, .int x3), (4, .int x4)] → cells ≤ 0 ∧ slots ≤ 0 → W p l e rmX8_first s m args below meth c H locs cells slots (rQi Γ below post args s 0 0) (F0 m 10 ls [])) {H : Heap} {locs : List Loc} {ls : Array Slot} {cells slots : Nat} {x1 : Int32} {x2 : Int32} {x3 : Int32} {x4 : Int32} {y0 : Int32} {σ0 : St} (h : wX8_first_89 k10 o post x1 x2 x3 x4 y0 σ0) (hR : Rep Γ σ0 H) (hS : va_S (rA Γ) s.heap H locs) (hl : lv_has ls 6 [(0, .ref o), (1, .int x1), (2, .int x2), (3, .int x3), (4, .int x4)]) (hc : cells ≤ 0 ∧ slots ≤ 0) : W p l e rmX8_first s m args below meth c H locs cells slots (rQi Γ below post args s 0 0) (F0 m 89 ls [.int y0]) := by
  have hx := F.1.1
  have hb := F.1.2.1
  unfold wX8_first_89 at h
  refine s_istore (lk := [(4, .int x4)]) (lv' := [(5, .int y0), (0, .ref o), (1, .int x1), (2, .int x2), (3, .int x3), (4, .int x4)]) hx hb dX8_first_89 hl (by decide) rfl (lk_1 rfl) rfl (fun ls hl13 => ?_)
  refine lv_iload hx hb dX8_first_91 (lv_at hl13 0 rfl) ?_
  refine lv_if_eq (tgt := 114) hx hb dX8_first_93 (by decide) (fun c14 => ?_) (fun c14 => ?_)
  · replace h := h.1 c14
    obtain ⟨x15, ex15⟩ : ∃ x : Int32, x = x4 + (-1 : Int32) := ⟨_, rfl⟩
    replace h := h x15 ex15
    refine s_iinc (v := x15) (d := -1) (lk := [(3, .int x3)]) (lv' := [(4, .int x15), (5, .int y0), (0, .ref o), (1, .int x1), (2, .int x2), (3, .int x3)]) hx hb dX8_first_114 hl13 (k := 5) rfl (by decide) (by decide) rfl (lk_1 rfl) ex15 rfl (fun ls hl16 => ?_)
    refine lv_goto (tgt := 10) hx hb dX8_first_117 (by decide) ?_
    exact hk10 x1 x2 x3 x15 σ0 _ _ _ _ _ h hR hS (lv_sub hl16 [2, 3, 4, 5, 0] rfl) hc
  · replace h := h.2 c14
    refine lv_iload_n hx hb dX8_first_96 rfl (lv_at hl13 4 rfl) ?_
    refine lv_if_lt (tgt := 111) hx hb dX8_first_97 (by decide) (fun c17 => ?_) (fun c17 => ?_)
    · replace h := h.1 c17
      exact bX8_first_111 F hk10 h hR hS (lv_sub hl13 [1, 2, 3, 5] rfl) hc
    · replace h := h.2 c17
      refine lv_aload_n hx hb dX8_first_100 rfl (lv_at hl13 1 rfl) ?_
      refine lv_iload hx hb dX8_first_101 (lv_at hl13 5 rfl) ?_
      refine lv_iload_n hx hb dX8_first_103 rfl (lv_at hl13 4 rfl) ?_
      refine lv_iload_n hx hb dX8_first_104 rfl (lv_at hl13 3 rfl) ?_
      obtain ⟨k21, h⟩ := h
      refine s_ci hS (k_runV F hR hS hl13 3 [.int x4, .int x3, .int x2] (kX8_before l Γ o x4 x3 x2 _ _ h) gX8_first_X8_before rfl rfl rfl (by decide +kernel) ⟨Nat.le_of_ble_eq_true rfl, Nat.le_of_ble_eq_true rfl⟩ (s_recv F hR k21 (by decide) (C := RX8) (T := TX8) (N := 46) rfl) rfl (Nat.le_of_ble_eq_true rfl) dX8_first_105 ⟨by show _ ≤ 0; omega, by show _ ≤ 0; omega⟩) (fun x24 σ22 H locs h23 hR hS => ?_)
      refine lv_if_eq (tgt := 114) hx hb dX8_first_108 (by decide) (fun c25 => ?_) (fun c25 => ?_)
      · replace h23 := h23.1 c25
        obtain ⟨x26, ex26⟩ : ∃ x : Int32, x = x4 + (-1 : Int32) := ⟨_, rfl⟩
        replace h23 := h23 x26 ex26
        refine s_iinc (v := x26) (d := -1) (lk := [(3, .int x3)]) (lv' := [(4, .int x26), (5, .int y0), (0, .ref o), (1, .int x1), (2, .int x2), (3, .int x3)]) hx hb dX8_first_114 hl13 (k := 5) rfl (by decide) (by decide) rfl (lk_1 rfl) ex26 rfl (fun ls hl27 => ?_)
        refine lv_goto (tgt := 10) hx hb dX8_first_117 (by decide) ?_
        exact hk10 x1 x2 x3 x26 σ22 _ _ _ _ _ h23 hR hS (lv_sub hl27 [2, 3, 4, 5, 0] rfl) hc
      · replace h23 := h23.2 c25
        exact bX8_first_111 F hk10 h23 hR hS (lv_sub hl13 [1, 2, 3, 5] rfl) hc

set_option maxRecDepth 100000 in
def wX8_first_88 (k10 : Int32 → Int32 → Int32 → Int32 → St → Prop) (o : Nat) (post : Int32 → St → Prop) (x1 : Int32) (x2 : Int32) (x3 : Int32) (x4 : Int32) (σ0 : St) : Prop :=
  wX8_first_89 k10 o post x1 x2 x3 x4 (0 : Int32) σ0
set_option maxHeartbeats 4000000 in
set_option maxRecDepth 100000 in
theorem bX8_first_88 {p : Program} {l : Launch} {e : Env} {s : State} {m : MethodId} {args : Array Value} {below : List Frame} {meth : Method} {c : Code} {Γ : rGam} {o : Nat} {post : Int32 → St → Prop} (F : Fx Γ p s m meth c args cX8_first 6 RX8 wsX8_first (some .int)) {k10 : Int32 → Int32 → Int32 → Int32 → St → Prop} (hk10 : ∀ (x1 : Int32) (x2 : Int32) (x3 : Int32) (x4 : Int32) (σ0 : St) (H : Heap) (locs : List Loc) (ls : Array Slot) (cells slots : Nat), k10 x1 x2 x3 x4 σ0 → Rep Γ σ0 H → va_S (rA Γ) s.heap H locs → lv_has ls 6 [(0, .ref o), (1, .int x1), (2, .int x2), (3, .int x3), (4, .int x4)] → cells ≤ 0 ∧ slots ≤ 0 → W p l e rmX8_first s m args below meth c H locs cells slots (rQi Γ below post args s 0 0) (F0 m 10 ls [])) {H : Heap} {locs : List Loc} {ls : Array Slot} {cells slots : Nat} {x1 : Int32} {x2 : Int32} {x3 : Int32} {x4 : Int32} {σ0 : St} (h : wX8_first_88 k10 o post x1 x2 x3 x4 σ0) (hR : Rep Γ σ0 H) (hS : va_S (rA Γ) s.heap H locs) (hl : lv_has ls 6 [(0, .ref o), (1, .int x1), (2, .int x2), (3, .int x3), (4, .int x4)]) (hc : cells ≤ 0 ∧ slots ≤ 0) : W p l e rmX8_first s m args below meth c H locs cells slots (rQi Γ below post args s 0 0) (F0 m 88 ls []) := by
  have hx := F.1.1
  have hb := F.1.2.1
  unfold wX8_first_88 at h
  refine lv_iconst (v := 0) hx hb dX8_first_88 (by decide) ?_
  exact bX8_first_89 F hk10 h hR hS (lv_sub hl [0, 1, 2, 3, 4] rfl) hc

set_option maxRecDepth 100000 in
def wX8_first_10 (o : Nat) (post : Int32 → St → Prop) : Nat → Int32 → Int32 → Int32 → Int32 → St → Prop
  | 0, _, _, _, _, _ => False
  | n + 1, x1, x2, x3, x4, σ0 =>
    (x4 < 0 → (post x3 σ0)) ∧ (¬ x4 < 0 → ((x2 = 0 → (sK σ0 o = 9 ∧ (∀ r8 : Option Nat, r8 = sR σ0 487 o 0 → (∃ a9 : Nat, r8 = some a9 ∧ (sK σ0 a9 = 1487 ∧ (vp_in x4 512 ∧ (((sI σ0 1487 a9 x4.toNatClampNeg) = 0 → (sK σ0 o = 9 ∧ (∀ r29 : Option Nat, r29 = sR σ0 482 o 0 → (∃ a30 : Nat, r29 = some a30 ∧ (sK σ0 a30 = 1482 ∧ (vp_in x4 512 ∧ (((sI σ0 1482 a30 x4.toNatClampNeg) = x1 → (sK σ0 o = 9 ∧ (∀ r35 : Option Nat, r35 = sR σ0 486 o 0 → (∃ a36 : Nat, r35 = some a36 ∧ (sK σ0 a36 = 1486 ∧ (vp_in x4 512 ∧ (sK σ0 o = 9 ∧ (((sI σ0 453 o 0) < (sI σ0 1486 a36 x4.toNatClampNeg) → (wX8_first_88 (wX8_first_10 o post n) o post x1 x2 x3 x4 σ0)) ∧ (¬ (sI σ0 453 o 0) < (sI σ0 1486 a36 x4.toNatClampNeg) → (wX8_first_89 (wX8_first_10 o post n) o post x1 x2 x3 x4 (1 : Int32) σ0)))))))))) ∧ (¬ (sI σ0 1482 a30 x4.toNatClampNeg) = x1 → (wX8_first_88 (wX8_first_10 o post n) o post x1 x2 x3 x4 σ0))))))))) ∧ (¬ (sI σ0 1487 a9 x4.toNatClampNeg) = 0 → (wX8_first_88 (wX8_first_10 o post n) o post x1 x2 x3 x4 σ0))))))))) ∧ (¬ x2 = 0 → (sK σ0 o = 9 ∧ (∀ r42 : Option Nat, r42 = sR σ0 487 o 0 → (∃ a43 : Nat, r42 = some a43 ∧ (sK σ0 a43 = 1487 ∧ (vp_in x4 512 ∧ (((sI σ0 1487 a43 x4.toNatClampNeg) = (2 : Int32) → (sK σ0 o = 9 ∧ (∀ r48 : Option Nat, r48 = sR σ0 481 o 0 → (∃ a49 : Nat, r48 = some a49 ∧ (sK σ0 a49 = 1481 ∧ (vp_in x4 512 ∧ (((sI σ0 1481 a49 x4.toNatClampNeg) = x1 → (wX8_first_89 (wX8_first_10 o post n) o post x1 x2 x3 x4 (1 : Int32) σ0)) ∧ (¬ (sI σ0 1481 a49 x4.toNatClampNeg) = x1 → (wX8_first_89 (wX8_first_10 o post n) o post x1 x2 x3 x4 (0 : Int32) σ0))))))))) ∧ (¬ (sI σ0 1487 a43 x4.toNatClampNeg) = (2 : Int32) → (wX8_first_89 (wX8_first_10 o post n) o post x1 x2 x3 x4 (0 : Int32) σ0)))))))))))
set_option maxHeartbeats 4000000 in
set_option maxRecDepth 100000 in
theorem bX8_first_10 {p : Program} {l : Launch} {e : Env} {s : State} {m : MethodId} {args : Array Value} {below : List Frame} {meth : Method} {c : Code} {Γ : rGam} {o : Nat} {post : Int32 → St → Prop} (F : Fx Γ p s m meth c args cX8_first 6 RX8 wsX8_first (some .int)) : ∀ (n : Nat) (x1 : Int32) (x2 : Int32) (x3 : Int32) (x4 : Int32) (σ0 : St) (H : Heap) (locs : List Loc) (ls : Array Slot) (cells slots : Nat), wX8_first_10 o post n x1 x2 x3 x4 σ0 → Rep Γ σ0 H → va_S (rA Γ) s.heap H locs → lv_has ls 6 [(0, .ref o), (1, .int x1), (2, .int x2), (3, .int x3), (4, .int x4)] → cells ≤ 0 ∧ slots ≤ 0 → W p l e rmX8_first s m args below meth c H locs cells slots (rQi Γ below post args s 0 0) (F0 m 10 ls []) := by
  have hx := F.1.1
  have hb := F.1.2.1
  intro n
  induction n with
  | zero =>
    intro x1 x2 x3 x4 σ0 H locs ls cells slots h
    exact absurd h (by unfold wX8_first_10; exact id)
  | succ n ih =>
    intro x1 x2 x3 x4 σ0 H locs ls cells slots h hR hS hl hc
    unfold wX8_first_10 at h
    refine lv_iload hx hb dX8_first_10 (lv_at hl 4 rfl) ?_
    refine lv_if_lt (tgt := 120) hx hb dX8_first_12 (by decide) (fun c5 => ?_) (fun c5 => ?_)
    · replace h := h.1 c5
      refine lv_iload_n hx hb dX8_first_120 rfl (lv_at hl 3 rfl) ?_
      exact s_iret F hR hS h hc dX8_first_121
    · replace h := h.2 c5
      refine lv_iload_n hx hb dX8_first_15 rfl (lv_at hl 2 rfl) ?_
      refine lv_if_eq (tgt := 49) hx hb dX8_first_16 (by decide) (fun c6 => ?_) (fun c6 => ?_)
      · replace h := h.1 c6
        refine lv_aload_n hx hb dX8_first_49 rfl (lv_at hl 0 rfl) ?_
        obtain ⟨k7, h⟩ := h
        refine s_getR F hR k7 (by decide) (C := RX8) (T := TX8) (N := 46) rfl nX8_first_X8 37 (by decide) mX8_first_1 (f := 487) rfl dX8_first_50 (fun r8 er8 => ?_)
        replace h := h r8 er8
        refine lv_iload hx hb dX8_first_53 (lv_at hl 4 rfl) ?_
        obtain ⟨a9, ea9, h⟩ := h
        subst ea9
        obtain ⟨k10, h⟩ := h
        obtain ⟨z11, h⟩ := h
        refine s_iald F hR k10 (by decide) rfl z11 dX8_first_55 ?_
        refine lv_if_ne (tgt := 88) hx hb dX8_first_56 (by decide) (fun c12 => ?_) (fun c12 => ?_)
        · replace h := h.2 c12
          exact bX8_first_88 F (fun x1 x2 x3 x4 σ0 H locs ls cells slots h hR hS hl hc => ih x1 x2 x3 x4 σ0 H locs ls cells slots h hR hS hl hc) h hR hS (lv_sub hl [0, 1, 2, 3, 4] rfl) hc
        · replace h := h.1 c12
          refine lv_aload_n hx hb dX8_first_59 rfl (lv_at hl 0 rfl) ?_
          obtain ⟨k28, h⟩ := h
          refine s_getR F hR k28 (by decide) (C := RX8) (T := TX8) (N := 46) rfl nX8_first_X8 32 (by decide) mX8_first_2 (f := 482) rfl dX8_first_60 (fun r29 er29 => ?_)
          replace h := h r29 er29
          refine lv_iload hx hb dX8_first_63 (lv_at hl 4 rfl) ?_
          obtain ⟨a30, ea30, h⟩ := h
          subst ea30
          obtain ⟨k31, h⟩ := h
          obtain ⟨z32, h⟩ := h
          refine s_iald F hR k31 (by decide) rfl z32 dX8_first_65 ?_
          refine lv_iload_n hx hb dX8_first_66 rfl (lv_at hl 1 rfl) ?_
          refine lv_icmp_ne (tgt := 88) hx hb dX8_first_67 (by decide) (fun c33 => ?_) (fun c33 => ?_)
          · replace h := h.2 c33
            exact bX8_first_88 F (fun x1 x2 x3 x4 σ0 H locs ls cells slots h hR hS hl hc => ih x1 x2 x3 x4 σ0 H locs ls cells slots h hR hS hl hc) h hR hS (lv_sub hl [0, 1, 2, 3, 4] rfl) hc
          · replace h := h.1 c33
            refine lv_aload_n hx hb dX8_first_70 rfl (lv_at hl 0 rfl) ?_
            obtain ⟨k34, h⟩ := h
            refine s_getR F hR k34 (by decide) (C := RX8) (T := TX8) (N := 46) rfl nX8_first_X8 36 (by decide) mX8_first_3 (f := 486) rfl dX8_first_71 (fun r35 er35 => ?_)
            replace h := h r35 er35
            refine lv_iload hx hb dX8_first_74 (lv_at hl 4 rfl) ?_
            obtain ⟨a36, ea36, h⟩ := h
            subst ea36
            obtain ⟨k37, h⟩ := h
            obtain ⟨z38, h⟩ := h
            refine s_iald F hR k37 (by decide) rfl z38 dX8_first_76 ?_
            refine lv_aload_n hx hb dX8_first_77 rfl (lv_at hl 0 rfl) ?_
            obtain ⟨k39, h⟩ := h
            refine s_getI F hR k39 (by decide) (C := RX8) (T := TX8) (N := 46) rfl nX8_first_X8 3 (by decide) mX8_first_4 (f := 453) rfl dX8_first_78 ?_
            refine lv_icmp_gt (tgt := 88) hx hb dX8_first_81 (by decide) (fun c40 => ?_) (fun c40 => ?_)
            · replace h := h.1 c40
              exact bX8_first_88 F (fun x1 x2 x3 x4 σ0 H locs ls cells slots h hR hS hl hc => ih x1 x2 x3 x4 σ0 H locs ls cells slots h hR hS hl hc) h hR hS (lv_sub hl [0, 1, 2, 3, 4] rfl) hc
            · replace h := h.2 c40
              refine lv_iconst (v := 1) hx hb dX8_first_84 (by decide) ?_
              refine lv_goto (tgt := 89) hx hb dX8_first_85 (by decide) ?_
              exact bX8_first_89 F (fun x1 x2 x3 x4 σ0 H locs ls cells slots h hR hS hl hc => ih x1 x2 x3 x4 σ0 H locs ls cells slots h hR hS hl hc) h hR hS (lv_sub hl [0, 1, 2, 3, 4] rfl) hc
      · replace h := h.2 c6
        refine lv_aload_n hx hb dX8_first_19 rfl (lv_at hl 0 rfl) ?_
        obtain ⟨k41, h⟩ := h
        refine s_getR F hR k41 (by decide) (C := RX8) (T := TX8) (N := 46) rfl nX8_first_X8 37 (by decide) mX8_first_1 (f := 487) rfl dX8_first_20 (fun r42 er42 => ?_)
        replace h := h r42 er42
        refine lv_iload hx hb dX8_first_23 (lv_at hl 4 rfl) ?_
        obtain ⟨a43, ea43, h⟩ := h
        subst ea43
        obtain ⟨k44, h⟩ := h
        obtain ⟨z45, h⟩ := h
        refine s_iald F hR k44 (by decide) rfl z45 dX8_first_25 ?_
        refine lv_iconst (v := 2) hx hb dX8_first_26 (by decide) ?_
        refine lv_icmp_ne (tgt := 45) hx hb dX8_first_27 (by decide) (fun c46 => ?_) (fun c46 => ?_)
        · replace h := h.2 c46
          refine lv_iconst (v := 0) hx hb dX8_first_45 (by decide) ?_
          refine lv_goto (tgt := 89) hx hb dX8_first_46 (by decide) ?_
          exact bX8_first_89 F (fun x1 x2 x3 x4 σ0 H locs ls cells slots h hR hS hl hc => ih x1 x2 x3 x4 σ0 H locs ls cells slots h hR hS hl hc) h hR hS (lv_sub hl [0, 1, 2, 3, 4] rfl) hc
        · replace h := h.1 c46
          refine lv_aload_n hx hb dX8_first_30 rfl (lv_at hl 0 rfl) ?_
          obtain ⟨k47, h⟩ := h
          refine s_getR F hR k47 (by decide) (C := RX8) (T := TX8) (N := 46) rfl nX8_first_X8 31 (by decide) mX8_first_5 (f := 481) rfl dX8_first_31 (fun r48 er48 => ?_)
          replace h := h r48 er48
          refine lv_iload hx hb dX8_first_34 (lv_at hl 4 rfl) ?_
          obtain ⟨a49, ea49, h⟩ := h
          subst ea49
          obtain ⟨k50, h⟩ := h
          obtain ⟨z51, h⟩ := h
          refine s_iald F hR k50 (by decide) rfl z51 dX8_first_36 ?_
          refine lv_iload_n hx hb dX8_first_37 rfl (lv_at hl 1 rfl) ?_
          refine lv_icmp_ne (tgt := 45) hx hb dX8_first_38 (by decide) (fun c52 => ?_) (fun c52 => ?_)
          · replace h := h.2 c52
            refine lv_iconst (v := 0) hx hb dX8_first_45 (by decide) ?_
            refine lv_goto (tgt := 89) hx hb dX8_first_46 (by decide) ?_
            exact bX8_first_89 F (fun x1 x2 x3 x4 σ0 H locs ls cells slots h hR hS hl hc => ih x1 x2 x3 x4 σ0 H locs ls cells slots h hR hS hl hc) h hR hS (lv_sub hl [0, 1, 2, 3, 4] rfl) hc
          · replace h := h.1 c52
            refine lv_iconst (v := 1) hx hb dX8_first_41 (by decide) ?_
            refine lv_goto (tgt := 89) hx hb dX8_first_42 (by decide) ?_
            exact bX8_first_89 F (fun x1 x2 x3 x4 σ0 H locs ls cells slots h hR hS hl hc => ih x1 x2 x3 x4 σ0 H locs ls cells slots h hR hS hl hc) h hR hS (lv_sub hl [0, 1, 2, 3, 4] rfl) hc

set_option maxRecDepth 100000 in
def wX8_first (o : Nat) (p1 : Int32) (p2 : Int32) (post : Int32 → St → Prop) (σ0 : St) : Prop :=
  sK σ0 o = 9 ∧ (∀ x3 : Int32, x3 = ((sI σ0 479 o 0) - (1 : Int32)) → (∃ n53 : Nat, wX8_first_10 o post n53 p1 p2 (-1 : Int32) x3 σ0))
set_option maxHeartbeats 4000000 in
set_option maxRecDepth 100000 in
theorem bX8_first {p : Program} {l : Launch} {e : Env} {s : State} {m : MethodId} {args : Array Value} {below : List Frame} {meth : Method} {c : Code} {Γ : rGam} {o : Nat} {post : Int32 → St → Prop} (F : Fx Γ p s m meth c args cX8_first 6 RX8 wsX8_first (some .int)) {H : Heap} {locs : List Loc} {ls : Array Slot} {cells slots : Nat} {p1 : Int32} {p2 : Int32} {σ0 : St} (h : wX8_first o p1 p2 post σ0) (hR : Rep Γ σ0 H) (hS : va_S (rA Γ) s.heap H locs) (hl : lv_has ls 6 [(0, .ref o), (1, .int p1), (2, .int p2)]) (hc : cells ≤ 0 ∧ slots ≤ 0) : W p l e rmX8_first s m args below meth c H locs cells slots (rQi Γ below post args s 0 0) (F0 m 0 ls []) := by
  have hx := F.1.1
  have hb := F.1.2.1
  unfold wX8_first at h
  refine lv_iconst (v := -1) hx hb dX8_first_0 (by decide) ?_
  refine s_istore_n (lk := [(2, .int p2)]) (lv' := [(3, .int (-1 : Int32)), (0, .ref o), (1, .int p1), (2, .int p2)]) hx hb dX8_first_1 rfl hl (by decide) rfl (lk_1 rfl) rfl (fun ls hl1 => ?_)
  refine lv_aload_n hx hb dX8_first_2 rfl (lv_at hl1 1 rfl) ?_
  obtain ⟨k2, h⟩ := h
  refine s_getI F hR k2 (by decide) (C := RX8) (T := TX8) (N := 46) rfl nX8_first_X8 29 (by decide) mX8_first_0 (f := 479) rfl dX8_first_3 ?_
  refine lv_iconst (v := 1) hx hb dX8_first_6 (by decide) ?_
  refine lv_isub hx hb dX8_first_7 ?_
  refine lv_topi (fun x3 ex3 => ?_)
  replace h := h x3 ex3
  refine s_istore (lk := [(3, .int (-1 : Int32))]) (lv' := [(4, .int x3), (3, .int (-1 : Int32)), (0, .ref o), (1, .int p1), (2, .int p2)]) hx hb dX8_first_8 hl1 (by decide) rfl (lk_1 rfl) rfl (fun ls hl4 => ?_)
  obtain ⟨n53, h⟩ := h
  exact bX8_first_10 F n53 p1 p2 (-1 : Int32) x3 σ0 _ _ _ _ _ h hR hS (lv_sub hl4 [2, 3, 4, 1, 0] rfl) hc
set_option maxHeartbeats 4000000 in
set_option maxRecDepth 100000 in
theorem kX8_first (l : Launch) (Γ : rGam) (o : Nat) (p1 : Int32) (p2 : Int32) (post : Int32 → St → Prop) (σ0 : St) (h : wX8_first o p1 p2 post σ0) : Met l yX8_first wsX8_first rmX8_first (rPc Γ vwCl [.ref o, .int p1, .int p2] (Rep Γ σ0)) (va_Qi post (fun σ' t => Rep Γ σ' t.heap) (rA Γ)) 0 0 (rA Γ) := by
  refine Met.ofW (cc := cX8_first) (maxL := 6) (ret := (some .int)) (by decide) rfl ?_
  intro p e s m args below meth c s₁ B hml hv
  obtain ⟨rfl, hR, hE⟩ := hv
  have F : Fx Γ p s m meth c _ cX8_first 6 RX8 wsX8_first (some .int) := ⟨⟨B.exec, B.bytes, hml, findClass_of_methodNamed B.named, atoms_spec (ws := wsX8_first) B.pre⟩, hE, B.notSynchronized, B.returns⟩
  have hl := lv_entry ([.ref o, .int p1, .int p2]) (n := 6) (Nat.le_of_ble_eq_true rfl)
  rw [lg_entry_eq]
  generalize (lg_sl ([.ref o, .int p1, .int p2]) ++ List.replicate (6 - (lg_sl ([.ref o, .int p1, .int p2])).length) Slot.unset).toArray = ls at hl ⊢
  have hl : lv_has ls 6 [(0, .ref o), (1, .int p1), (2, .int p2)] := hl
  exact bX8_first F h hR va_S.rf hl ⟨Nat.le_refl 0, Nat.le_refl 0⟩
/-! X8_window -/
theorem mX8_window_0 : Cond.fieldLink RX8 119 "ClearingFilesModel" "banks" "I" ∈ wsX8_window := by decide +kernel
theorem mX8_window_1 : Cond.fieldLink RX8 102 "ClearingFilesModel" "outCount" "[I" ∈ wsX8_window := by decide +kernel
theorem nX8_window_X8 : ∀ w ∈ u_ws RX8 TX8 46, w ∈ wsX8_window := fun _ h => List.mem_cons_of_mem _ (List.mem_append_right _ h)
abbrev rmX8_window : Room := { frames := 2, cells := 0, slots := 0, locals := 48 }
set_option maxRecDepth 100000 in
def wX8_window_56 (k33 : Int32 → Int32 → St → Prop) (o : Nat) (post : Int32 → St → Prop) : Nat → Int32 → Int32 → Int32 → Int32 → St → Prop
  | 0, _, _, _, _, _ => False
  | n + 1, x1, x2, x3, x4, σ0 =>
    (x4 < 0 → (∀ x32 : Int32, x32 = x2 + (1 : Int32) → (k33 x1 x32 σ0))) ∧ (¬ x4 < 0 → (sK σ0 o = 9 ∧ (wX8_take o x1 x4 x3 (fun (σ35 : St) => sK σ35 o = 9 ∧ (wX8_first o x1 x3 (fun (x40 : Int32) (σ38 : St) => wX8_window_56 k33 o post n x1 x2 x3 x40 σ38) σ35)) σ0)))
set_option maxHeartbeats 4000000 in
set_option maxRecDepth 100000 in
theorem bX8_window_56 {p : Program} {l : Launch} {e : Env} {s : State} {m : MethodId} {args : Array Value} {below : List Frame} {meth : Method} {c : Code} {Γ : rGam} {o : Nat} {post : Int32 → St → Prop} (F : Fx Γ p s m meth c args cX8_window 5 RX8 wsX8_window (some .int)) {k33 : Int32 → Int32 → St → Prop} (hk33 : ∀ (x1 : Int32) (x2 : Int32) (σ0 : St) (H : Heap) (locs : List Loc) (ls : Array Slot) (cells slots : Nat), k33 x1 x2 σ0 → Rep Γ σ0 H → va_S (rA Γ) s.heap H locs → lv_has ls 5 [(0, .ref o), (1, .int x1), (2, .int x2)] → cells ≤ 0 ∧ slots ≤ 0 → W p l e rmX8_window s m args below meth c H locs cells slots (rQi Γ below post args s 0 0) (F0 m 33 ls [])) : ∀ (n : Nat) (x1 : Int32) (x2 : Int32) (x3 : Int32) (x4 : Int32) (σ0 : St) (H : Heap) (locs : List Loc) (ls : Array Slot) (cells slots : Nat), wX8_window_56 k33 o post n x1 x2 x3 x4 σ0 → Rep Γ σ0 H → va_S (rA Γ) s.heap H locs → lv_has ls 5 [(0, .ref o), (1, .int x1), (2, .int x2), (3, .int x3), (4, .int x4)] → cells ≤ 0 ∧ slots ≤ 0 → W p l e rmX8_window s m args below meth c H locs cells slots (rQi Γ below post args s 0 0) (F0 m 56 ls []) := by
  have hx := F.1.1
  have hb := F.1.2.1
  intro n
  induction n with
  | zero =>
    intro x1 x2 x3 x4 σ0 H locs ls cells slots h
    exact absurd h (by unfold wX8_window_56; exact id)
  | succ n ih =>
    intro x1 x2 x3 x4 σ0 H locs ls cells slots h hR hS hl hc
    unfold wX8_window_56 at h
    refine lv_iload hx hb dX8_window_56 (lv_at hl 4 rfl) ?_
    refine lv_if_lt (tgt := 80) hx hb dX8_window_58 (by decide) (fun c31 => ?_) (fun c31 => ?_)
    · replace h := h.1 c31
      obtain ⟨x32, ex32⟩ : ∃ x : Int32, x = x2 + (1 : Int32) := ⟨_, rfl⟩
      replace h := h x32 ex32
      refine s_iinc (v := x32) (d := 1) (lk := [(1, .int x1)]) (lv' := [(2, .int x32), (0, .ref o), (1, .int x1), (3, .int x3), (4, .int x4)]) hx hb dX8_window_80 hl (k := 2) rfl (by decide) (by decide) rfl (lk_1 rfl) ex32 rfl (fun ls hl33 => ?_)
      refine lv_goto (tgt := 33) hx hb dX8_window_83 (by decide) ?_
      exact hk33 x1 x32 σ0 _ _ _ _ _ h hR hS (lv_sub hl33 [1, 2, 0] rfl) hc
    · replace h := h.2 c31
      refine lv_aload_n hx hb dX8_window_61 rfl (lv_at hl 0 rfl) ?_
      refine lv_iload_n hx hb dX8_window_62 rfl (lv_at hl 1 rfl) ?_
      refine lv_iload hx hb dX8_window_63 (lv_at hl 4 rfl) ?_
      refine lv_iload_n hx hb dX8_window_65 rfl (lv_at hl 3 rfl) ?_
      obtain ⟨k34, h⟩ := h
      refine s_cv hS (k_runV F hR hS hl 3 [.int x1, .int x4, .int x3] (kX8_take l Γ o x1 x4 x3 _ _ h) gX8_window_X8_take rfl rfl rfl (by decide +kernel) ⟨Nat.le_of_ble_eq_true rfl, Nat.le_of_ble_eq_true rfl⟩ (s_recv F hR k34 (by decide) (C := RX8) (T := TX8) (N := 46) rfl) rfl (Nat.le_of_ble_eq_true rfl) dX8_window_66 ⟨by show _ ≤ 0; omega, by show _ ≤ 0; omega⟩) (fun σ35 H locs h36 hR hS => ?_)
      refine lv_aload_n hx hb dX8_window_69 rfl (lv_at hl 0 rfl) ?_
      refine lv_iload_n hx hb dX8_window_70 rfl (lv_at hl 1 rfl) ?_
      refine lv_iload_n hx hb dX8_window_71 rfl (lv_at hl 3 rfl) ?_
      obtain ⟨k37, h36⟩ := h36
      refine s_ci hS (k_runV F hR hS hl 2 [.int x1, .int x3] (kX8_first l Γ o x1 x3 _ _ h36) gX8_window_X8_first rfl rfl rfl (by decide +kernel) ⟨Nat.le_of_ble_eq_true rfl, Nat.le_of_ble_eq_true rfl⟩ (s_recv F hR k37 (by decide) (C := RX8) (T := TX8) (N := 46) rfl) rfl (Nat.le_of_ble_eq_true rfl) dX8_window_72 ⟨by show _ ≤ 0; omega, by show _ ≤ 0; omega⟩) (fun x40 σ38 H locs h39 hR hS => ?_)
      refine s_istore (lk := [(3, .int x3)]) (lv' := [(4, .int x40), (0, .ref o), (1, .int x1), (2, .int x2), (3, .int x3)]) hx hb dX8_window_75 hl (by decide) rfl (lk_1 rfl) rfl (fun ls hl41 => ?_)
      refine lv_goto (tgt := 56) hx hb dX8_window_77 (by decide) ?_
      exact ih x1 x2 x3 x40 σ38 _ _ _ _ _ h39 hR hS (lv_sub hl41 [1, 2, 3, 4, 0] rfl) hc

set_option maxRecDepth 100000 in
def wX8_window_47 (k33 : Int32 → Int32 → St → Prop) (o : Nat) (post : Int32 → St → Prop) (x1 : Int32) (x2 : Int32) (y0 : Int32) (σ0 : St) : Prop :=
  sK σ0 o = 9 ∧ (wX8_first o x1 y0 (fun (x29 : Int32) (σ27 : St) => ∃ n42 : Nat, wX8_window_56 k33 o post n42 x1 x2 y0 x29 σ27) σ0)
set_option maxHeartbeats 4000000 in
set_option maxRecDepth 100000 in
theorem bX8_window_47 {p : Program} {l : Launch} {e : Env} {s : State} {m : MethodId} {args : Array Value} {below : List Frame} {meth : Method} {c : Code} {Γ : rGam} {o : Nat} {post : Int32 → St → Prop} (F : Fx Γ p s m meth c args cX8_window 5 RX8 wsX8_window (some .int)) {k33 : Int32 → Int32 → St → Prop} (hk33 : ∀ (x1 : Int32) (x2 : Int32) (σ0 : St) (H : Heap) (locs : List Loc) (ls : Array Slot) (cells slots : Nat), k33 x1 x2 σ0 → Rep Γ σ0 H → va_S (rA Γ) s.heap H locs → lv_has ls 5 [(0, .ref o), (1, .int x1), (2, .int x2)] → cells ≤ 0 ∧ slots ≤ 0 → W p l e rmX8_window s m args below meth c H locs cells slots (rQi Γ below post args s 0 0) (F0 m 33 ls [])) {H : Heap} {locs : List Loc} {ls : Array Slot} {cells slots : Nat} {x1 : Int32} {x2 : Int32} {y0 : Int32} {σ0 : St} (h : wX8_window_47 k33 o post x1 x2 y0 σ0) (hR : Rep Γ σ0 H) (hS : va_S (rA Γ) s.heap H locs) (hl : lv_has ls 5 [(0, .ref o), (1, .int x1), (2, .int x2)]) (hc : cells ≤ 0 ∧ slots ≤ 0) : W p l e rmX8_window s m args below meth c H locs cells slots (rQi Γ below post args s 0 0) (F0 m 47 ls [.int y0]) := by
  have hx := F.1.1
  have hb := F.1.2.1
  unfold wX8_window_47 at h
  refine s_istore_n (lk := [(2, .int x2)]) (lv' := [(3, .int y0), (0, .ref o), (1, .int x1), (2, .int x2)]) hx hb dX8_window_47 rfl hl (by decide) rfl (lk_1 rfl) rfl (fun ls hl25 => ?_)
  refine lv_aload_n hx hb dX8_window_48 rfl (lv_at hl25 1 rfl) ?_
  refine lv_iload_n hx hb dX8_window_49 rfl (lv_at hl25 2 rfl) ?_
  refine lv_iload_n hx hb dX8_window_50 rfl (lv_at hl25 0 rfl) ?_
  obtain ⟨k26, h⟩ := h
  refine s_ci hS (k_runV F hR hS hl25 2 [.int x1, .int y0] (kX8_first l Γ o x1 y0 _ _ h) gX8_window_X8_first rfl rfl rfl (by decide +kernel) ⟨Nat.le_of_ble_eq_true rfl, Nat.le_of_ble_eq_true rfl⟩ (s_recv F hR k26 (by decide) (C := RX8) (T := TX8) (N := 46) rfl) rfl (Nat.le_of_ble_eq_true rfl) dX8_window_51 ⟨by show _ ≤ 0; omega, by show _ ≤ 0; omega⟩) (fun x29 σ27 H locs h28 hR hS => ?_)
  refine s_istore (lk := [(3, .int y0)]) (lv' := [(4, .int x29), (3, .int y0), (0, .ref o), (1, .int x1), (2, .int x2)]) hx hb dX8_window_54 hl25 (by decide) rfl (lk_1 rfl) rfl (fun ls hl30 => ?_)
  obtain ⟨n42, h28⟩ := h28
  exact bX8_window_56 F hk33 n42 x1 x2 y0 x29 σ27 _ _ _ _ _ h28 hR hS (lv_sub hl30 [2, 3, 4, 1, 0] rfl) hc

set_option maxRecDepth 100000 in
def wX8_window_33 (o : Nat) (post : Int32 → St → Prop) : Nat → Int32 → Int32 → St → Prop
  | 0, _, _, _ => False
  | n + 1, x1, x2, σ0 =>
    ((2 : Int32) ≤ x2 → (sK σ0 o = 9 ∧ (∀ r20 : Option Nat, r20 = sR σ0 491 o 0 → (∃ a21 : Nat, r20 = some a21 ∧ (sK σ0 a21 = 1491 ∧ (vp_in x1 5 ∧ (post (sI σ0 1491 a21 x1.toNatClampNeg) σ0))))))) ∧ (¬ (2 : Int32) ≤ x2 → ((x2 = 0 → (wX8_window_47 (wX8_window_33 o post n) o post x1 x2 (1 : Int32) σ0)) ∧ (¬ x2 = 0 → (wX8_window_47 (wX8_window_33 o post n) o post x1 x2 (0 : Int32) σ0))))
set_option maxHeartbeats 4000000 in
set_option maxRecDepth 100000 in
theorem bX8_window_33 {p : Program} {l : Launch} {e : Env} {s : State} {m : MethodId} {args : Array Value} {below : List Frame} {meth : Method} {c : Code} {Γ : rGam} {o : Nat} {post : Int32 → St → Prop} (F : Fx Γ p s m meth c args cX8_window 5 RX8 wsX8_window (some .int)) : ∀ (n : Nat) (x1 : Int32) (x2 : Int32) (σ0 : St) (H : Heap) (locs : List Loc) (ls : Array Slot) (cells slots : Nat), wX8_window_33 o post n x1 x2 σ0 → Rep Γ σ0 H → va_S (rA Γ) s.heap H locs → lv_has ls 5 [(0, .ref o), (1, .int x1), (2, .int x2)] → cells ≤ 0 ∧ slots ≤ 0 → W p l e rmX8_window s m args below meth c H locs cells slots (rQi Γ below post args s 0 0) (F0 m 33 ls []) := by
  have hx := F.1.1
  have hb := F.1.2.1
  intro n
  induction n with
  | zero =>
    intro x1 x2 σ0 H locs ls cells slots h
    exact absurd h (by unfold wX8_window_33; exact id)
  | succ n ih =>
    intro x1 x2 σ0 H locs ls cells slots h hR hS hl hc
    unfold wX8_window_33 at h
    refine lv_iload_n hx hb dX8_window_33 rfl (lv_at hl 2 rfl) ?_
    refine lv_iconst (v := 2) hx hb dX8_window_34 (by decide) ?_
    refine lv_icmp_ge (tgt := 86) hx hb dX8_window_35 (by decide) (fun c18 => ?_) (fun c18 => ?_)
    · replace h := h.1 c18
      refine lv_aload_n hx hb dX8_window_86 rfl (lv_at hl 0 rfl) ?_
      obtain ⟨k19, h⟩ := h
      refine s_getR F hR k19 (by decide) (C := RX8) (T := TX8) (N := 46) rfl nX8_window_X8 41 (by decide) mX8_window_1 (f := 491) rfl dX8_window_87 (fun r20 er20 => ?_)
      replace h := h r20 er20
      refine lv_iload_n hx hb dX8_window_90 rfl (lv_at hl 1 rfl) ?_
      obtain ⟨a21, ea21, h⟩ := h
      subst ea21
      obtain ⟨k22, h⟩ := h
      obtain ⟨z23, h⟩ := h
      refine s_iald F hR k22 (by decide) rfl z23 dX8_window_91 ?_
      exact s_iret F hR hS h hc dX8_window_92
    · replace h := h.2 c18
      refine lv_iload_n hx hb dX8_window_38 rfl (lv_at hl 2 rfl) ?_
      refine lv_if_ne (tgt := 46) hx hb dX8_window_39 (by decide) (fun c24 => ?_) (fun c24 => ?_)
      · replace h := h.2 c24
        refine lv_iconst (v := 0) hx hb dX8_window_46 (by decide) ?_
        exact bX8_window_47 F (fun x1 x2 σ0 H locs ls cells slots h hR hS hl hc => ih x1 x2 σ0 H locs ls cells slots h hR hS hl hc) h hR hS (lv_sub hl [0, 1, 2] rfl) hc
      · replace h := h.1 c24
        refine lv_iconst (v := 1) hx hb dX8_window_42 (by decide) ?_
        refine lv_goto (tgt := 47) hx hb dX8_window_43 (by decide) ?_
        exact bX8_window_47 F (fun x1 x2 σ0 H locs ls cells slots h hR hS hl hc => ih x1 x2 σ0 H locs ls cells slots h hR hS hl hc) h hR hS (lv_sub hl [0, 1, 2] rfl) hc

set_option maxRecDepth 100000 in
def wX8_window (o : Nat) (p1 : Int32) (post : Int32 → St → Prop) (σ0 : St) : Prop :=
  sK σ0 o = 9 ∧ (wX8_within p1 (sI σ0 450 o 0) (fun (x4 : Int32) (σ2 : St) => (x4 = 0 → (post (-1 : Int32) σ2)) ∧ (¬ x4 = 0 → (sK σ2 o = 9 ∧ (wX8_allDone o p1 (fun (x9 : Int32) (σ7 : St) => (x9 = 0 → (post (-4 : Int32) σ7)) ∧ (¬ x9 = 0 → (sK σ7 o = 9 ∧ (∀ r12 : Option Nat, r12 = sR σ7 491 o 0 → (∃ a13 : Nat, r12 = some a13 ∧ (sK σ7 a13 = 1491 ∧ (vp_in p1 5 ∧ (∀ σ16 : St, σ16 = uI σ7 1491 a13 (p1.toNatClampNeg) (0 : Int32) → (∃ n43 : Nat, wX8_window_33 o post n43 p1 (0 : Int32) σ16))))))))) σ2)))) σ0)
set_option maxHeartbeats 4000000 in
set_option maxRecDepth 100000 in
theorem bX8_window {p : Program} {l : Launch} {e : Env} {s : State} {m : MethodId} {args : Array Value} {below : List Frame} {meth : Method} {c : Code} {Γ : rGam} {o : Nat} {post : Int32 → St → Prop} (F : Fx Γ p s m meth c args cX8_window 5 RX8 wsX8_window (some .int)) {H : Heap} {locs : List Loc} {ls : Array Slot} {cells slots : Nat} {p1 : Int32} {σ0 : St} (h : wX8_window o p1 post σ0) (hR : Rep Γ σ0 H) (hS : va_S (rA Γ) s.heap H locs) (hl : lv_has ls 5 [(0, .ref o), (1, .int p1)]) (hc : cells ≤ 0 ∧ slots ≤ 0) : W p l e rmX8_window s m args below meth c H locs cells slots (rQi Γ below post args s 0 0) (F0 m 0 ls []) := by
  have hx := F.1.1
  have hb := F.1.2.1
  unfold wX8_window at h
  refine lv_iload_n hx hb dX8_window_0 rfl (lv_at hl 1 rfl) ?_
  refine lv_aload_n hx hb dX8_window_1 rfl (lv_at hl 0 rfl) ?_
  obtain ⟨k1, h⟩ := h
  refine s_getI F hR k1 (by decide) (C := RX8) (T := TX8) (N := 46) rfl nX8_window_X8 0 (by decide) mX8_window_0 (f := 450) rfl dX8_window_2 ?_
  refine s_ci hS (k_runS F hR hS hl 2 [.int p1, .int (sI σ0 450 o 0)] (kX8_within l Γ p1 (sI σ0 450 o 0) _ _ h) gX8_window_X8_within rfl rfl rfl (by decide +kernel) ⟨Nat.le_of_ble_eq_true rfl, Nat.le_of_ble_eq_true rfl⟩ rfl (Nat.le_of_ble_eq_true rfl) dX8_window_5 ⟨by show _ ≤ 0; omega, by show _ ≤ 0; omega⟩) (fun x4 σ2 H locs h3 hR hS => ?_)
  refine lv_if_ne (tgt := 13) hx hb dX8_window_8 (by decide) (fun c5 => ?_) (fun c5 => ?_)
  · replace h3 := h3.2 c5
    refine lv_aload_n hx hb dX8_window_13 rfl (lv_at hl 0 rfl) ?_
    refine lv_iload_n hx hb dX8_window_14 rfl (lv_at hl 1 rfl) ?_
    obtain ⟨k6, h3⟩ := h3
    refine s_ci hS (k_runV F hR hS hl 1 [.int p1] (kX8_allDone l Γ o p1 _ _ h3) gX8_window_X8_allDone rfl rfl rfl (by decide +kernel) ⟨Nat.le_of_ble_eq_true rfl, Nat.le_of_ble_eq_true rfl⟩ (s_recv F hR k6 (by decide) (C := RX8) (T := TX8) (N := 46) rfl) rfl (Nat.le_of_ble_eq_true rfl) dX8_window_15 ⟨by show _ ≤ 0; omega, by show _ ≤ 0; omega⟩) (fun x9 σ7 H locs h8 hR hS => ?_)
    refine lv_if_ne (tgt := 24) hx hb dX8_window_18 (by decide) (fun c10 => ?_) (fun c10 => ?_)
    · replace h8 := h8.2 c10
      refine lv_aload_n hx hb dX8_window_24 rfl (lv_at hl 0 rfl) ?_
      obtain ⟨k11, h8⟩ := h8
      refine s_getR F hR k11 (by decide) (C := RX8) (T := TX8) (N := 46) rfl nX8_window_X8 41 (by decide) mX8_window_1 (f := 491) rfl dX8_window_25 (fun r12 er12 => ?_)
      replace h8 := h8 r12 er12
      refine lv_iload_n hx hb dX8_window_28 rfl (lv_at hl 1 rfl) ?_
      refine lv_iconst (v := 0) hx hb dX8_window_29 (by decide) ?_
      obtain ⟨a13, ea13, h8⟩ := h8
      subst ea13
      obtain ⟨k14, h8⟩ := h8
      obtain ⟨z15, h8⟩ := h8
      refine s_iast F hR hS k14 (by decide) rfl z15 dX8_window_30 (fun σ16 eσ16 H locs hR hS => ?_)
      replace h8 := h8 σ16 eσ16
      refine lv_iconst (v := 0) hx hb dX8_window_31 (by decide) ?_
      refine s_istore_n (lk := [(1, .int p1)]) (lv' := [(2, .int (0 : Int32)), (0, .ref o), (1, .int p1)]) hx hb dX8_window_32 rfl hl (by decide) rfl (lk_1 rfl) rfl (fun ls hl17 => ?_)
      obtain ⟨n43, h8⟩ := h8
      exact bX8_window_33 F n43 p1 (0 : Int32) σ16 _ _ _ _ _ h8 hR hS (lv_sub hl17 [1, 2, 0] rfl) hc
    · replace h8 := h8.1 c10
      refine lv_bipush (v := -4) hx hb dX8_window_21 (by decide) ?_
      exact s_iret F hR hS h8 hc dX8_window_23
  · replace h3 := h3.1 c5
    refine lv_iconst (v := -1) hx hb dX8_window_11 (by decide) ?_
    exact s_iret F hR hS h3 hc dX8_window_12
set_option maxHeartbeats 4000000 in
set_option maxRecDepth 100000 in
theorem kX8_window (l : Launch) (Γ : rGam) (o : Nat) (p1 : Int32) (post : Int32 → St → Prop) (σ0 : St) (h : wX8_window o p1 post σ0) : Met l yX8_window wsX8_window rmX8_window (rPc Γ vwCl [.ref o, .int p1] (Rep Γ σ0)) (va_Qi post (fun σ' t => Rep Γ σ' t.heap) (rA Γ)) 0 0 (rA Γ) := by
  refine Met.ofW (cc := cX8_window) (maxL := 5) (ret := (some .int)) (by decide) rfl ?_
  intro p e s m args below meth c s₁ B hml hv
  obtain ⟨rfl, hR, hE⟩ := hv
  have F : Fx Γ p s m meth c _ cX8_window 5 RX8 wsX8_window (some .int) := ⟨⟨B.exec, B.bytes, hml, findClass_of_methodNamed B.named, atoms_spec (ws := wsX8_window) B.pre⟩, hE, B.notSynchronized, B.returns⟩
  have hl := lv_entry ([.ref o, .int p1]) (n := 5) (Nat.le_of_ble_eq_true rfl)
  rw [lg_entry_eq]
  generalize (lg_sl ([.ref o, .int p1]) ++ List.replicate (5 - (lg_sl ([.ref o, .int p1])).length) Slot.unset).toArray = ls at hl ⊢
  have hl : lv_has ls 5 [(0, .ref o), (1, .int p1)] := hl
  exact bX8_window F h hR va_S.rf hl ⟨Nat.le_refl 0, Nat.le_refl 0⟩
