/-! THE CLAIM OUT OF ONE WALK OF THE LAW'S BODY. Your part is whole_start (and what it stands on); all else here is the same for every law, but numbers. -/
def R_law : String := "ClearingFilesLaw"
def lw_P (b : Addr) (xs : List Int32) (args : Array Value) (s : State) : Prop := args = #[.ref b] ∧ s.IntsAt b xs ∧ xs.length ≤ 320 ∧ (Jvm.Cond.and given_1 narrow_1).before args s = true
def lw_Q (_ : Array Value) (s : State) (o : Outcome) (t : State) : Prop := o = .returned (some (.int 1)) ∧ Framed s o t [] 600000 7302250
def lw_Z (below : List Frame) (a : Array Value) (s : State) : State → Prop := fun t => ∃ o, t.status = .running ∧ Ended t below o ∧ lw_Q a s o t
/-- the law's own end, with 1 on the stack, nothing written that was there before, its room as the claim has it -/
theorem lw_ret {p : Program} {l : Launch} {e : Env} {s : State} {m : MethodId} {below : List Frame} {meth : Method} {c : Code} {b : Nat} (hx : p.tables.exec = Jvm.exec) (hb : c.code = code) (hr : meth.sig.returnType = ret) (hlocks : meth.locks = false) {pc : Nat} {H : Heap} {ls : Array Slot} (hdg : decode code pc = .ok (.ireturn, 1)) : W p l e room_1 s m #[Value.ref b] below meth c H [] 600000 7302250 (lw_Z below #[Value.ref b] s) (F0 m pc ls [.int 1]) := by
  intro T hT X
  obtain ⟨fs, hret, hrun, hended, hW, hframe⟩ := X.leave (v := some (.int 1)) (hlocks := hlocks) (fun h => by rw [hr] at h; cases h)
  have hmeth' : T.vm.method? m = some meth := X.method'
  refine ⟨T.setFrames fs, ?_, .returned (some (.int 1)), hrun, hended, rfl, ⟨_, rfl⟩, hW, hframe⟩
  jvm_step X.here [X.here.top, hx, hb, hdg, hmeth', hr, ret, narrow_b1]
  (try refine ⟨rfl, ?_⟩); (try refine ⟨rfl, ?_⟩)
  first | (intro acts; rw [hret _ acts rfl rfl rfl]) | rw [hret _ _ rfl rfl rfl]
  exact Steps.refl _
/-- what holds at the law's entry: the machine, the code, the tables' words (any of lw_tbl by 'hts w (by decide +kernel)'), the script of L ints xs at the cell b, what the Statement gives of the start (any of its parts by flat_of_before) -/
def lw_At (p : Program) (s : State) (m : MethodId) (meth : Method) (c : Code) (b L : Nat) (xs : Nat → Int32) : Prop :=
  p.tables.exec = Jvm.exec ∧ c.code = code ∧ meth.sig.returnType = ret ∧ c.maxLocals = 4 ∧ s.vm.findClass R_law = some m.cls ∧ (∀ w ∈ lw_tbl, w.before #[Value.ref b] s = true) ∧ va_X b L xs s s.heap ∧ b < s.heap.size ∧ meth.locks = false ∧ (Jvm.Cond.and given_1 narrow_1).before #[Value.ref b] s = true
/-! the law's walk, over any invariant of the abstract memory -/
def lawJ (x y : Int32) : Int64 := x.toInt64 <<< ((32 : Int32).toInt64 &&& 63) ||| (y.toInt64 &&& 4294967295)
def sZ : St := (fun _ => 0, fun _ _ _ => 0, fun _ _ _ => 0, fun _ _ _ => none, fun _ => [])
def law_join (cx mx : Nat) (Φ : St → Prop) (x1 : Int32) (σ : St) : Prop := wX7_join cx x1 (fun (r : Int32) (σ1 : St) => sK σ1 mx = 9 ∧ wX8_join mx x1 (fun (r' : Int32) (σ2 : St) => r = r' ∧ Φ σ2) σ1) σ
def law_open (cx mx : Nat) (Φ : St → Prop) (x1 x2 x3 : Int32) (σ : St) : Prop := wX7_open cx x1 x2 x3 (fun (r : Int32) (σ1 : St) => sK σ1 mx = 9 ∧ wX8_open mx x1 x2 x3 (fun (r' : Int32) (σ2 : St) => r = r' ∧ Φ σ2) σ1) σ
def law_shut (cx mx : Nat) (Φ : St → Prop) (x1 x2 : Int32) (σ : St) : Prop := wX7_shut cx x1 x2 (fun (r : Int32) (σ1 : St) => sK σ1 mx = 9 ∧ wX8_shut mx x1 x2 (fun (r' : Int32) (σ2 : St) => r = r' ∧ Φ σ2) σ1) σ
def law_day (cx mx : Nat) (Φ : St → Prop) (σ : St) : Prop := wX7_day cx  (fun (r : Int32) (σ1 : St) => sK σ1 mx = 9 ∧ wX8_day mx  (fun (r' : Int32) (σ2 : St) => r = r' ∧ Φ σ2) σ1) σ
def law_put (cx mx : Nat) (Φ : St → Prop) (x1 x2 x3 x4 : Int32) (σ : St) : Prop := wX7_put cx (lawJ x1 x2) (lawJ x3 x4) (fun (r : Int32) (σ1 : St) => sK σ1 mx = 9 ∧ wX8_put mx (lawJ x1 x2) (lawJ x3 x4) (fun (r' : Int32) (σ2 : St) => r = r' ∧ Φ σ2) σ1) σ
def law_window (cx mx : Nat) (Φ : St → Prop) (x1 : Int32) (σ : St) : Prop := wX7_window cx x1 (fun (r : Int32) (σ1 : St) => sK σ1 mx = 9 ∧ wX8_window mx x1 (fun (r' : Int32) (σ2 : St) => r = r' ∧ Φ σ2) σ1) σ
def law_post (cx mx : Nat) (Φ : St → Prop) (x1 x2 : Int32) (σ : St) : Prop := wX7_post cx x1 x2 (fun (r : Int32) (σ1 : St) => sK σ1 mx = 9 ∧ wX8_post mx x1 x2 (fun (r' : Int32) (σ2 : St) => r = r' ∧ Φ σ2) σ1) σ
def law_items (cx mx : Nat) (Φ : St → Prop) (x1 : Int32) (σ : St) : Prop := wX7_items cx x1 (fun (r : Int32) (σ1 : St) => sK σ1 mx = 9 ∧ wX8_items mx x1 (fun (r' : Int32) (σ2 : St) => r = r' ∧ Φ σ2) σ1) σ
def law_item (cx mx : Nat) (Φ : St → Prop) (x1 x2 x3 : Int32) (σ : St) : Prop := wX7_item cx x1 x2 x3 (fun (r : Int32) (σ1 : St) => sK σ1 mx = 9 ∧ wX8_item mx x1 x2 x3 (fun (r' : Int32) (σ2 : St) => r = r' ∧ Φ σ2) σ1) σ
def law_control (cx mx : Nat) (Φ : St → Prop) (x1 x2 : Int32) (σ : St) : Prop := wX7_control cx x1 x2 (fun (r : Int64) (σ1 : St) => sK σ1 mx = 9 ∧ wX8_control mx x1 x2 (fun (r' : Int64) (σ2 : St) => r = r' ∧ Φ σ2) σ1) σ
def law_balance (cx mx : Nat) (Φ : St → Prop) (x1 x2 : Int32) (σ : St) : Prop := wX7_balance cx x1 x2 (fun (r : Int64) (σ1 : St) => sK σ1 mx = 9 ∧ wX8_balance mx x1 x2 (fun (r' : Int64) (σ2 : St) => r = r' ∧ Φ σ2) σ1) σ
def law_ledger (cx mx : Nat) (Φ : St → Prop) (x1 : Int32) (σ : St) : Prop := wX7_ledger cx x1 (fun (r : Int64) (σ1 : St) => sK σ1 mx = 9 ∧ wX8_ledger mx x1 (fun (r' : Int64) (σ2 : St) => r = r' ∧ Φ σ2) σ1) σ
def law_rejected (cx mx : Nat) (Φ : St → Prop) (x1 : Int32) (σ : St) : Prop := wX7_rejected cx x1 (fun (r : Int32) (σ1 : St) => sK σ1 mx = 9 ∧ wX8_rejected mx x1 (fun (r' : Int32) (σ2 : St) => r = r' ∧ Φ σ2) σ1) σ
def law_waiting (cx mx : Nat) (Φ : St → Prop) (x1 x2 : Int32) (σ : St) : Prop := wX7_waiting cx x1 x2 (fun (r : Int32) (σ1 : St) => sK σ1 mx = 9 ∧ wX8_waiting mx x1 x2 (fun (r' : Int32) (σ2 : St) => r = r' ∧ Φ σ2) σ1) σ
def lawW (cx mx : Nat) (Φ : St → Prop) (x1 x2 x3 x4 : Int32) (σ : St) : Prop := law_join cx mx Φ x1 σ ∧ law_open cx mx Φ x1 x2 x3 σ ∧ law_shut cx mx Φ x1 x2 σ ∧ law_day cx mx Φ σ ∧ law_put cx mx Φ x1 x2 x3 x4 σ ∧ law_window cx mx Φ x1 σ ∧ law_post cx mx Φ x1 x2 σ ∧ law_items cx mx Φ x1 σ ∧ law_item cx mx Φ x1 x2 x3 σ ∧ law_control cx mx Φ x1 x2 σ ∧ law_balance cx mx Φ x1 x2 σ ∧ law_ledger cx mx Φ x1 σ ∧ law_rejected cx mx Φ x1 σ ∧ law_waiting cx mx Φ x1 x2 σ ∧ Φ σ
theorem lawCmp (x : Int64) : lg_cmp x x = 0 := by unfold lg_cmp; simp
set_option maxHeartbeats 4000000 in
set_option maxRecDepth 100000 in
theorem law_walk_join {p : Program} {l : Launch} {e : Env} {s : State} {m : MethodId} {below : List Frame} {meth : Method} {c : Code} {Γ : rGam} {b L : Nat} {xs : Nat → Int32} (F : Fx Γ p s m meth c #[Value.ref b] cL_law 4 RL wsL_law ret) (hX : va_X b L xs s s.heap) (hbl : b < s.heap.size) (hbA : ¬ rA Γ b) {Inv : Nat → Nat → Nat → St → Prop} {cx mx n : Nat} {σ : St} {H : Heap} {locs : List Loc} {ls : Array Slot} {cells slots : Nat} (hn : 5 * n + 5 ≤ L) (hL : L ≤ 320) (hk8 : sK σ cx = 8) (hw : law_join cx mx (Inv cx mx (n + 1)) (xs (5 * n + 1)) σ) (hR : Rep Γ σ H) (hS : va_S (rA Γ) s.heap H locs) (hl : lv_has ls 4 [(3, .int (nI (5 * n))), (2, .ref mx), (1, .ref cx), (0, .ref b)]) (hc : cells + 130 ≤ 600000 ∧ slots + 16640 ≤ 7302250) (tail : ∀ (σ2 : St) (H : Heap) (locs : List Loc) (ls : Array Slot) (cells2 slots2 : Nat), Inv cx mx (n + 1) σ2 → Rep Γ σ2 H → va_S (rA Γ) s.heap H locs → lv_has ls 4 [(3, .int (nI (5 * n))), (2, .ref mx), (1, .ref cx), (0, .ref b)] → cells2 ≤ cells + 130 ∧ slots2 ≤ slots + 16640 → W p l e room_1 s m #[Value.ref b] below meth c H locs cells2 slots2 (lw_Z below #[Value.ref b] s) (F0 m 579 ls [])) : W p l e room_1 s m #[Value.ref b] below meth c H locs cells slots (lw_Z below #[Value.ref b] s) (F0 m 104 ls []) := by
  have hx := F.1.1
  have hb := F.1.2.1
  have hts := F.1.2.2.2.2
  have hown := F.1.2.2.2.1
  refine lv_aload_n hx hb dL_law_104 rfl (lv_at hl 2 rfl) ?_
  refine lv_aload_n hx hb dL_law_105 rfl (lv_at hl 3 rfl) ?_
  refine lv_iload_n hx hb dL_law_106 rfl (lv_at hl 0 rfl) ?_
  refine lv_iconst (v := 1) hx hb dL_law_107 (by decide) ?_
  refine lv_iadd hx hb dL_law_108 ?_
  rw [show nI (5 * n) + 1 = nI (5 * n + 1) from nI_add (5 * n) 1]
  refine va_sld hx hb hX hbl hbA hS (vp_in_nI (by omega) (by omega)) dL_law_109 ?_
  rw [nI_clamp (show 5 * n + 1 < 2 ^ 31 by omega)]
  refine s_ci hS (k_runV F hR hS hl 1 [.int (xs (5 * n + 1))] (kX7_join l Γ cx (xs (5 * n + 1)) _ _ hw) gL_law_X7_join rfl rfl rfl (by decide +kernel) ⟨Nat.le_of_ble_eq_true rfl, Nat.le_of_ble_eq_true rfl⟩ (s_recv F hR hk8 (by decide) (C := RX7) (T := TX7) (N := 7) rfl) rfl (Nat.le_of_ble_eq_true rfl) dL_law_110 ⟨by show _ ≤ 600000; omega, by show _ ≤ 7302250; omega⟩) (fun r σ1 H locs hp hR hS => ?_)
  have hk9 := hp.1
  refine lv_aload_n hx hb dL_law_113 rfl (lv_at hl 1 rfl) ?_
  refine lv_aload_n hx hb dL_law_114 rfl (lv_at hl 3 rfl) ?_
  refine lv_iload_n hx hb dL_law_115 rfl (lv_at hl 0 rfl) ?_
  refine lv_iconst (v := 1) hx hb dL_law_116 (by decide) ?_
  refine lv_iadd hx hb dL_law_117 ?_
  rw [show nI (5 * n) + 1 = nI (5 * n + 1) from nI_add (5 * n) 1]
  refine va_sld hx hb hX hbl hbA hS (vp_in_nI (by omega) (by omega)) dL_law_118 ?_
  rw [nI_clamp (show 5 * n + 1 < 2 ^ 31 by omega)]
  refine s_ci hS (k_runV F hR hS hl 1 [.int (xs (5 * n + 1))] (kX8_join l Γ mx (xs (5 * n + 1)) _ _ hp.2) gL_law_X8_join rfl rfl rfl (by decide +kernel) ⟨Nat.le_of_ble_eq_true rfl, Nat.le_of_ble_eq_true rfl⟩ (s_recv F hR hk9 (by decide) (C := RX8) (T := TX8) (N := 46) rfl) rfl (Nat.le_of_ble_eq_true rfl) dL_law_119 ⟨by show _ ≤ 600000; omega, by show _ ≤ 7302250; omega⟩) (fun r' σ2 H locs hq hR hS => ?_)
  obtain ⟨hrr, hI⟩ := hq
  refine lv_icmp_eq (tgt := 579) hx hb dL_law_122 (by decide) (fun _ => ?_) (fun z => absurd hrr z)
  exact tail σ2 H locs ls _ _ hI hR hS hl ⟨by show _ ≤ _; omega, by show _ ≤ _; omega⟩
set_option maxHeartbeats 4000000 in
set_option maxRecDepth 100000 in
theorem law_walk_open {p : Program} {l : Launch} {e : Env} {s : State} {m : MethodId} {below : List Frame} {meth : Method} {c : Code} {Γ : rGam} {b L : Nat} {xs : Nat → Int32} (F : Fx Γ p s m meth c #[Value.ref b] cL_law 4 RL wsL_law ret) (hX : va_X b L xs s s.heap) (hbl : b < s.heap.size) (hbA : ¬ rA Γ b) {Inv : Nat → Nat → Nat → St → Prop} {cx mx n : Nat} {σ : St} {H : Heap} {locs : List Loc} {ls : Array Slot} {cells slots : Nat} (hn : 5 * n + 5 ≤ L) (hL : L ≤ 320) (hk8 : sK σ cx = 8) (hw : law_open cx mx (Inv cx mx (n + 1)) (xs (5 * n + 1)) (xs (5 * n + 2)) (xs (5 * n + 3)) σ) (hR : Rep Γ σ H) (hS : va_S (rA Γ) s.heap H locs) (hl : lv_has ls 4 [(3, .int (nI (5 * n))), (2, .ref mx), (1, .ref cx), (0, .ref b)]) (hc : cells + 130 ≤ 600000 ∧ slots + 16640 ≤ 7302250) (tail : ∀ (σ2 : St) (H : Heap) (locs : List Loc) (ls : Array Slot) (cells2 slots2 : Nat), Inv cx mx (n + 1) σ2 → Rep Γ σ2 H → va_S (rA Γ) s.heap H locs → lv_has ls 4 [(3, .int (nI (5 * n))), (2, .ref mx), (1, .ref cx), (0, .ref b)] → cells2 ≤ cells + 130 ∧ slots2 ≤ slots + 16640 → W p l e room_1 s m #[Value.ref b] below meth c H locs cells2 slots2 (lw_Z below #[Value.ref b] s) (F0 m 579 ls [])) : W p l e room_1 s m #[Value.ref b] below meth c H locs cells slots (lw_Z below #[Value.ref b] s) (F0 m 127 ls []) := by
  have hx := F.1.1
  have hb := F.1.2.1
  have hts := F.1.2.2.2.2
  have hown := F.1.2.2.2.1
  refine lv_aload_n hx hb dL_law_127 rfl (lv_at hl 2 rfl) ?_
  refine lv_aload_n hx hb dL_law_128 rfl (lv_at hl 3 rfl) ?_
  refine lv_iload_n hx hb dL_law_129 rfl (lv_at hl 0 rfl) ?_
  refine lv_iconst (v := 1) hx hb dL_law_130 (by decide) ?_
  refine lv_iadd hx hb dL_law_131 ?_
  rw [show nI (5 * n) + 1 = nI (5 * n + 1) from nI_add (5 * n) 1]
  refine va_sld hx hb hX hbl hbA hS (vp_in_nI (by omega) (by omega)) dL_law_132 ?_
  rw [nI_clamp (show 5 * n + 1 < 2 ^ 31 by omega)]
  refine lv_aload_n hx hb dL_law_133 rfl (lv_at hl 3 rfl) ?_
  refine lv_iload_n hx hb dL_law_134 rfl (lv_at hl 0 rfl) ?_
  refine lv_iconst (v := 2) hx hb dL_law_135 (by decide) ?_
  refine lv_iadd hx hb dL_law_136 ?_
  rw [show nI (5 * n) + 2 = nI (5 * n + 2) from nI_add (5 * n) 2]
  refine va_sld hx hb hX hbl hbA hS (vp_in_nI (by omega) (by omega)) dL_law_137 ?_
  rw [nI_clamp (show 5 * n + 2 < 2 ^ 31 by omega)]
  refine lv_aload_n hx hb dL_law_138 rfl (lv_at hl 3 rfl) ?_
  refine lv_iload_n hx hb dL_law_139 rfl (lv_at hl 0 rfl) ?_
  refine lv_iconst (v := 3) hx hb dL_law_140 (by decide) ?_
  refine lv_iadd hx hb dL_law_141 ?_
  rw [show nI (5 * n) + 3 = nI (5 * n + 3) from nI_add (5 * n) 3]
  refine va_sld hx hb hX hbl hbA hS (vp_in_nI (by omega) (by omega)) dL_law_142 ?_
  rw [nI_clamp (show 5 * n + 3 < 2 ^ 31 by omega)]
  refine s_ci hS (k_runV F hR hS hl 3 [.int (xs (5 * n + 1)), .int (xs (5 * n + 2)), .int (xs (5 * n + 3))] (kX7_open l Γ cx (xs (5 * n + 1)) (xs (5 * n + 2)) (xs (5 * n + 3)) _ _ hw) gL_law_X7_open rfl rfl rfl (by decide +kernel) ⟨Nat.le_of_ble_eq_true rfl, Nat.le_of_ble_eq_true rfl⟩ (s_recv F hR hk8 (by decide) (C := RX7) (T := TX7) (N := 7) rfl) rfl (Nat.le_of_ble_eq_true rfl) dL_law_143 ⟨by show _ ≤ 600000; omega, by show _ ≤ 7302250; omega⟩) (fun r σ1 H locs hp hR hS => ?_)
  have hk9 := hp.1
  refine lv_aload_n hx hb dL_law_146 rfl (lv_at hl 1 rfl) ?_
  refine lv_aload_n hx hb dL_law_147 rfl (lv_at hl 3 rfl) ?_
  refine lv_iload_n hx hb dL_law_148 rfl (lv_at hl 0 rfl) ?_
  refine lv_iconst (v := 1) hx hb dL_law_149 (by decide) ?_
  refine lv_iadd hx hb dL_law_150 ?_
  rw [show nI (5 * n) + 1 = nI (5 * n + 1) from nI_add (5 * n) 1]
  refine va_sld hx hb hX hbl hbA hS (vp_in_nI (by omega) (by omega)) dL_law_151 ?_
  rw [nI_clamp (show 5 * n + 1 < 2 ^ 31 by omega)]
  refine lv_aload_n hx hb dL_law_152 rfl (lv_at hl 3 rfl) ?_
  refine lv_iload_n hx hb dL_law_153 rfl (lv_at hl 0 rfl) ?_
  refine lv_iconst (v := 2) hx hb dL_law_154 (by decide) ?_
  refine lv_iadd hx hb dL_law_155 ?_
  rw [show nI (5 * n) + 2 = nI (5 * n + 2) from nI_add (5 * n) 2]
  refine va_sld hx hb hX hbl hbA hS (vp_in_nI (by omega) (by omega)) dL_law_156 ?_
  rw [nI_clamp (show 5 * n + 2 < 2 ^ 31 by omega)]
  refine lv_aload_n hx hb dL_law_157 rfl (lv_at hl 3 rfl) ?_
  refine lv_iload_n hx hb dL_law_158 rfl (lv_at hl 0 rfl) ?_
  refine lv_iconst (v := 3) hx hb dL_law_159 (by decide) ?_
  refine lv_iadd hx hb dL_law_160 ?_
  rw [show nI (5 * n) + 3 = nI (5 * n + 3) from nI_add (5 * n) 3]
  refine va_sld hx hb hX hbl hbA hS (vp_in_nI (by omega) (by omega)) dL_law_161 ?_
  rw [nI_clamp (show 5 * n + 3 < 2 ^ 31 by omega)]
  refine s_ci hS (k_runV F hR hS hl 3 [.int (xs (5 * n + 1)), .int (xs (5 * n + 2)), .int (xs (5 * n + 3))] (kX8_open l Γ mx (xs (5 * n + 1)) (xs (5 * n + 2)) (xs (5 * n + 3)) _ _ hp.2) gL_law_X8_open rfl rfl rfl (by decide +kernel) ⟨Nat.le_of_ble_eq_true rfl, Nat.le_of_ble_eq_true rfl⟩ (s_recv F hR hk9 (by decide) (C := RX8) (T := TX8) (N := 46) rfl) rfl (Nat.le_of_ble_eq_true rfl) dL_law_162 ⟨by show _ ≤ 600000; omega, by show _ ≤ 7302250; omega⟩) (fun r' σ2 H locs hq hR hS => ?_)
  obtain ⟨hrr, hI⟩ := hq
  refine lv_icmp_eq (tgt := 579) hx hb dL_law_165 (by decide) (fun _ => ?_) (fun z => absurd hrr z)
  exact tail σ2 H locs ls _ _ hI hR hS hl ⟨by show _ ≤ _; omega, by show _ ≤ _; omega⟩
set_option maxHeartbeats 4000000 in
set_option maxRecDepth 100000 in
theorem law_walk_shut {p : Program} {l : Launch} {e : Env} {s : State} {m : MethodId} {below : List Frame} {meth : Method} {c : Code} {Γ : rGam} {b L : Nat} {xs : Nat → Int32} (F : Fx Γ p s m meth c #[Value.ref b] cL_law 4 RL wsL_law ret) (hX : va_X b L xs s s.heap) (hbl : b < s.heap.size) (hbA : ¬ rA Γ b) {Inv : Nat → Nat → Nat → St → Prop} {cx mx n : Nat} {σ : St} {H : Heap} {locs : List Loc} {ls : Array Slot} {cells slots : Nat} (hn : 5 * n + 5 ≤ L) (hL : L ≤ 320) (hk8 : sK σ cx = 8) (hw : law_shut cx mx (Inv cx mx (n + 1)) (xs (5 * n + 1)) (xs (5 * n + 2)) σ) (hR : Rep Γ σ H) (hS : va_S (rA Γ) s.heap H locs) (hl : lv_has ls 4 [(3, .int (nI (5 * n))), (2, .ref mx), (1, .ref cx), (0, .ref b)]) (hc : cells + 130 ≤ 600000 ∧ slots + 16640 ≤ 7302250) (tail : ∀ (σ2 : St) (H : Heap) (locs : List Loc) (ls : Array Slot) (cells2 slots2 : Nat), Inv cx mx (n + 1) σ2 → Rep Γ σ2 H → va_S (rA Γ) s.heap H locs → lv_has ls 4 [(3, .int (nI (5 * n))), (2, .ref mx), (1, .ref cx), (0, .ref b)] → cells2 ≤ cells + 130 ∧ slots2 ≤ slots + 16640 → W p l e room_1 s m #[Value.ref b] below meth c H locs cells2 slots2 (lw_Z below #[Value.ref b] s) (F0 m 579 ls [])) : W p l e room_1 s m #[Value.ref b] below meth c H locs cells slots (lw_Z below #[Value.ref b] s) (F0 m 170 ls []) := by
  have hx := F.1.1
  have hb := F.1.2.1
  have hts := F.1.2.2.2.2
  have hown := F.1.2.2.2.1
  refine lv_aload_n hx hb dL_law_170 rfl (lv_at hl 2 rfl) ?_
  refine lv_aload_n hx hb dL_law_171 rfl (lv_at hl 3 rfl) ?_
  refine lv_iload_n hx hb dL_law_172 rfl (lv_at hl 0 rfl) ?_
  refine lv_iconst (v := 1) hx hb dL_law_173 (by decide) ?_
  refine lv_iadd hx hb dL_law_174 ?_
  rw [show nI (5 * n) + 1 = nI (5 * n + 1) from nI_add (5 * n) 1]
  refine va_sld hx hb hX hbl hbA hS (vp_in_nI (by omega) (by omega)) dL_law_175 ?_
  rw [nI_clamp (show 5 * n + 1 < 2 ^ 31 by omega)]
  refine lv_aload_n hx hb dL_law_176 rfl (lv_at hl 3 rfl) ?_
  refine lv_iload_n hx hb dL_law_177 rfl (lv_at hl 0 rfl) ?_
  refine lv_iconst (v := 2) hx hb dL_law_178 (by decide) ?_
  refine lv_iadd hx hb dL_law_179 ?_
  rw [show nI (5 * n) + 2 = nI (5 * n + 2) from nI_add (5 * n) 2]
  refine va_sld hx hb hX hbl hbA hS (vp_in_nI (by omega) (by omega)) dL_law_180 ?_
  rw [nI_clamp (show 5 * n + 2 < 2 ^ 31 by omega)]
  refine s_ci hS (k_runV F hR hS hl 2 [.int (xs (5 * n + 1)), .int (xs (5 * n + 2))] (kX7_shut l Γ cx (xs (5 * n + 1)) (xs (5 * n + 2)) _ _ hw) gL_law_X7_shut rfl rfl rfl (by decide +kernel) ⟨Nat.le_of_ble_eq_true rfl, Nat.le_of_ble_eq_true rfl⟩ (s_recv F hR hk8 (by decide) (C := RX7) (T := TX7) (N := 7) rfl) rfl (Nat.le_of_ble_eq_true rfl) dL_law_181 ⟨by show _ ≤ 600000; omega, by show _ ≤ 7302250; omega⟩) (fun r σ1 H locs hp hR hS => ?_)
  have hk9 := hp.1
  refine lv_aload_n hx hb dL_law_184 rfl (lv_at hl 1 rfl) ?_
  refine lv_aload_n hx hb dL_law_185 rfl (lv_at hl 3 rfl) ?_
  refine lv_iload_n hx hb dL_law_186 rfl (lv_at hl 0 rfl) ?_
  refine lv_iconst (v := 1) hx hb dL_law_187 (by decide) ?_
  refine lv_iadd hx hb dL_law_188 ?_
  rw [show nI (5 * n) + 1 = nI (5 * n + 1) from nI_add (5 * n) 1]
  refine va_sld hx hb hX hbl hbA hS (vp_in_nI (by omega) (by omega)) dL_law_189 ?_
  rw [nI_clamp (show 5 * n + 1 < 2 ^ 31 by omega)]
  refine lv_aload_n hx hb dL_law_190 rfl (lv_at hl 3 rfl) ?_
  refine lv_iload_n hx hb dL_law_191 rfl (lv_at hl 0 rfl) ?_
  refine lv_iconst (v := 2) hx hb dL_law_192 (by decide) ?_
  refine lv_iadd hx hb dL_law_193 ?_
  rw [show nI (5 * n) + 2 = nI (5 * n + 2) from nI_add (5 * n) 2]
  refine va_sld hx hb hX hbl hbA hS (vp_in_nI (by omega) (by omega)) dL_law_194 ?_
  rw [nI_clamp (show 5 * n + 2 < 2 ^ 31 by omega)]
  refine s_ci hS (k_runV F hR hS hl 2 [.int (xs (5 * n + 1)), .int (xs (5 * n + 2))] (kX8_shut l Γ mx (xs (5 * n + 1)) (xs (5 * n + 2)) _ _ hp.2) gL_law_X8_shut rfl rfl rfl (by decide +kernel) ⟨Nat.le_of_ble_eq_true rfl, Nat.le_of_ble_eq_true rfl⟩ (s_recv F hR hk9 (by decide) (C := RX8) (T := TX8) (N := 46) rfl) rfl (Nat.le_of_ble_eq_true rfl) dL_law_195 ⟨by show _ ≤ 600000; omega, by show _ ≤ 7302250; omega⟩) (fun r' σ2 H locs hq hR hS => ?_)
  obtain ⟨hrr, hI⟩ := hq
  refine lv_icmp_eq (tgt := 579) hx hb dL_law_198 (by decide) (fun _ => ?_) (fun z => absurd hrr z)
  exact tail σ2 H locs ls _ _ hI hR hS hl ⟨by show _ ≤ _; omega, by show _ ≤ _; omega⟩
set_option maxHeartbeats 4000000 in
set_option maxRecDepth 100000 in
theorem law_walk_day {p : Program} {l : Launch} {e : Env} {s : State} {m : MethodId} {below : List Frame} {meth : Method} {c : Code} {Γ : rGam} {b L : Nat} {xs : Nat → Int32} (F : Fx Γ p s m meth c #[Value.ref b] cL_law 4 RL wsL_law ret) (hX : va_X b L xs s s.heap) (hbl : b < s.heap.size) (hbA : ¬ rA Γ b) {Inv : Nat → Nat → Nat → St → Prop} {cx mx n : Nat} {σ : St} {H : Heap} {locs : List Loc} {ls : Array Slot} {cells slots : Nat} (hn : 5 * n + 5 ≤ L) (hL : L ≤ 320) (hk8 : sK σ cx = 8) (hw : law_day cx mx (Inv cx mx (n + 1))  σ) (hR : Rep Γ σ H) (hS : va_S (rA Γ) s.heap H locs) (hl : lv_has ls 4 [(3, .int (nI (5 * n))), (2, .ref mx), (1, .ref cx), (0, .ref b)]) (hc : cells + 130 ≤ 600000 ∧ slots + 16640 ≤ 7302250) (tail : ∀ (σ2 : St) (H : Heap) (locs : List Loc) (ls : Array Slot) (cells2 slots2 : Nat), Inv cx mx (n + 1) σ2 → Rep Γ σ2 H → va_S (rA Γ) s.heap H locs → lv_has ls 4 [(3, .int (nI (5 * n))), (2, .ref mx), (1, .ref cx), (0, .ref b)] → cells2 ≤ cells + 130 ∧ slots2 ≤ slots + 16640 → W p l e room_1 s m #[Value.ref b] below meth c H locs cells2 slots2 (lw_Z below #[Value.ref b] s) (F0 m 579 ls [])) : W p l e room_1 s m #[Value.ref b] below meth c H locs cells slots (lw_Z below #[Value.ref b] s) (F0 m 203 ls []) := by
  have hx := F.1.1
  have hb := F.1.2.1
  have hts := F.1.2.2.2.2
  have hown := F.1.2.2.2.1
  refine lv_aload_n hx hb dL_law_203 rfl (lv_at hl 2 rfl) ?_
  refine s_ci hS (k_runV F hR hS hl 0 [] (kX7_day l Γ cx  _ _ hw) gL_law_X7_day rfl rfl rfl (by decide +kernel) ⟨Nat.le_of_ble_eq_true rfl, Nat.le_of_ble_eq_true rfl⟩ (s_recv F hR hk8 (by decide) (C := RX7) (T := TX7) (N := 7) rfl) rfl (Nat.le_of_ble_eq_true rfl) dL_law_204 ⟨by show _ ≤ 600000; omega, by show _ ≤ 7302250; omega⟩) (fun r σ1 H locs hp hR hS => ?_)
  have hk9 := hp.1
  refine lv_aload_n hx hb dL_law_207 rfl (lv_at hl 1 rfl) ?_
  refine s_ci hS (k_runV F hR hS hl 0 [] (kX8_day l Γ mx  _ _ hp.2) gL_law_X8_day rfl rfl rfl (by decide +kernel) ⟨Nat.le_of_ble_eq_true rfl, Nat.le_of_ble_eq_true rfl⟩ (s_recv F hR hk9 (by decide) (C := RX8) (T := TX8) (N := 46) rfl) rfl (Nat.le_of_ble_eq_true rfl) dL_law_208 ⟨by show _ ≤ 600000; omega, by show _ ≤ 7302250; omega⟩) (fun r' σ2 H locs hq hR hS => ?_)
  obtain ⟨hrr, hI⟩ := hq
  refine lv_icmp_eq (tgt := 579) hx hb dL_law_211 (by decide) (fun _ => ?_) (fun z => absurd hrr z)
  exact tail σ2 H locs ls _ _ hI hR hS hl ⟨by show _ ≤ _; omega, by show _ ≤ _; omega⟩
set_option maxHeartbeats 4000000 in
set_option maxRecDepth 100000 in
theorem law_walk_put {p : Program} {l : Launch} {e : Env} {s : State} {m : MethodId} {below : List Frame} {meth : Method} {c : Code} {Γ : rGam} {b L : Nat} {xs : Nat → Int32} (F : Fx Γ p s m meth c #[Value.ref b] cL_law 4 RL wsL_law ret) (hX : va_X b L xs s s.heap) (hbl : b < s.heap.size) (hbA : ¬ rA Γ b) {Inv : Nat → Nat → Nat → St → Prop} {cx mx n : Nat} {σ : St} {H : Heap} {locs : List Loc} {ls : Array Slot} {cells slots : Nat} (hn : 5 * n + 5 ≤ L) (hL : L ≤ 320) (hk8 : sK σ cx = 8) (hw : law_put cx mx (Inv cx mx (n + 1)) (xs (5 * n + 1)) (xs (5 * n + 2)) (xs (5 * n + 3)) (xs (5 * n + 4)) σ) (hR : Rep Γ σ H) (hS : va_S (rA Γ) s.heap H locs) (hl : lv_has ls 4 [(3, .int (nI (5 * n))), (2, .ref mx), (1, .ref cx), (0, .ref b)]) (hc : cells + 130 ≤ 600000 ∧ slots + 16640 ≤ 7302250) (tail : ∀ (σ2 : St) (H : Heap) (locs : List Loc) (ls : Array Slot) (cells2 slots2 : Nat), Inv cx mx (n + 1) σ2 → Rep Γ σ2 H → va_S (rA Γ) s.heap H locs → lv_has ls 4 [(3, .int (nI (5 * n))), (2, .ref mx), (1, .ref cx), (0, .ref b)] → cells2 ≤ cells + 130 ∧ slots2 ≤ slots + 16640 → W p l e room_1 s m #[Value.ref b] below meth c H locs cells2 slots2 (lw_Z below #[Value.ref b] s) (F0 m 579 ls [])) : W p l e room_1 s m #[Value.ref b] below meth c H locs cells slots (lw_Z below #[Value.ref b] s) (F0 m 216 ls []) := by
  have hx := F.1.1
  have hb := F.1.2.1
  have hts := F.1.2.2.2.2
  have hown := F.1.2.2.2.1
  refine lv_aload_n hx hb dL_law_216 rfl (lv_at hl 2 rfl) ?_
  refine lv_aload_n hx hb dL_law_217 rfl (lv_at hl 3 rfl) ?_
  refine lv_iload_n hx hb dL_law_218 rfl (lv_at hl 0 rfl) ?_
  refine lv_iconst (v := 1) hx hb dL_law_219 (by decide) ?_
  refine lv_iadd hx hb dL_law_220 ?_
  rw [show nI (5 * n) + 1 = nI (5 * n + 1) from nI_add (5 * n) 1]
  refine va_sld hx hb hX hbl hbA hS (vp_in_nI (by omega) (by omega)) dL_law_221 ?_
  rw [nI_clamp (show 5 * n + 1 < 2 ^ 31 by omega)]
  refine lv_i2l hx hb dL_law_222 rfl ?_
  refine lv_bipush (v := 32) hx hb dL_law_223 (by decide) ?_
  refine lv_lshl hx hb dL_law_225 rfl ?_
  refine lv_aload_n hx hb dL_law_226 rfl (lv_at hl 3 rfl) ?_
  refine lv_iload_n hx hb dL_law_227 rfl (lv_at hl 0 rfl) ?_
  refine lv_iconst (v := 2) hx hb dL_law_228 (by decide) ?_
  refine lv_iadd hx hb dL_law_229 ?_
  rw [show nI (5 * n) + 2 = nI (5 * n + 2) from nI_add (5 * n) 2]
  refine va_sld hx hb hX hbl hbA hS (vp_in_nI (by omega) (by omega)) dL_law_230 ?_
  rw [nI_clamp (show 5 * n + 2 < 2 ^ 31 by omega)]
  refine lv_i2l hx hb dL_law_231 rfl ?_
  refine lv_ldc2 hx hb hown (hts _ (by decide +kernel : Cond.constantLong RL 33 (4294967295) ∈ wsL_law)) dL_law_232 ?_
  refine lv_land hx hb dL_law_235 ?_
  refine lv_lor hx hb dL_law_236 ?_
  rw [show (xs (5 * n + 1)).toInt64 <<< ((32 : Int32).toInt64 &&& 63) ||| ((xs (5 * n + 2)).toInt64 &&& 4294967295) = lawJ (xs (5 * n + 1)) (xs (5 * n + 2)) from rfl]
  refine lv_aload_n hx hb dL_law_237 rfl (lv_at hl 3 rfl) ?_
  refine lv_iload_n hx hb dL_law_238 rfl (lv_at hl 0 rfl) ?_
  refine lv_iconst (v := 3) hx hb dL_law_239 (by decide) ?_
  refine lv_iadd hx hb dL_law_240 ?_
  rw [show nI (5 * n) + 3 = nI (5 * n + 3) from nI_add (5 * n) 3]
  refine va_sld hx hb hX hbl hbA hS (vp_in_nI (by omega) (by omega)) dL_law_241 ?_
  rw [nI_clamp (show 5 * n + 3 < 2 ^ 31 by omega)]
  refine lv_i2l hx hb dL_law_242 rfl ?_
  refine lv_bipush (v := 32) hx hb dL_law_243 (by decide) ?_
  refine lv_lshl hx hb dL_law_245 rfl ?_
  refine lv_aload_n hx hb dL_law_246 rfl (lv_at hl 3 rfl) ?_
  refine lv_iload_n hx hb dL_law_247 rfl (lv_at hl 0 rfl) ?_
  refine lv_iconst (v := 4) hx hb dL_law_248 (by decide) ?_
  refine lv_iadd hx hb dL_law_249 ?_
  rw [show nI (5 * n) + 4 = nI (5 * n + 4) from nI_add (5 * n) 4]
  refine va_sld hx hb hX hbl hbA hS (vp_in_nI (by omega) (by omega)) dL_law_250 ?_
  rw [nI_clamp (show 5 * n + 4 < 2 ^ 31 by omega)]
  refine lv_i2l hx hb dL_law_251 rfl ?_
  refine lv_ldc2 hx hb hown (hts _ (by decide +kernel : Cond.constantLong RL 33 (4294967295) ∈ wsL_law)) dL_law_252 ?_
  refine lv_land hx hb dL_law_255 ?_
  refine lv_lor hx hb dL_law_256 ?_
  rw [show (xs (5 * n + 3)).toInt64 <<< ((32 : Int32).toInt64 &&& 63) ||| ((xs (5 * n + 4)).toInt64 &&& 4294967295) = lawJ (xs (5 * n + 3)) (xs (5 * n + 4)) from rfl]
  refine s_ci hS (k_runV F hR hS hl 2 [.long (lawJ (xs (5 * n + 1)) (xs (5 * n + 2))), .long (lawJ (xs (5 * n + 3)) (xs (5 * n + 4)))] (kX7_put l Γ cx (lawJ (xs (5 * n + 1)) (xs (5 * n + 2))) (lawJ (xs (5 * n + 3)) (xs (5 * n + 4))) _ _ hw) gL_law_X7_put rfl rfl rfl (by decide +kernel) ⟨Nat.le_of_ble_eq_true rfl, Nat.le_of_ble_eq_true rfl⟩ (s_recv F hR hk8 (by decide) (C := RX7) (T := TX7) (N := 7) rfl) rfl (Nat.le_of_ble_eq_true rfl) dL_law_257 ⟨by show _ ≤ 600000; omega, by show _ ≤ 7302250; omega⟩) (fun r σ1 H locs hp hR hS => ?_)
  have hk9 := hp.1
  refine lv_aload_n hx hb dL_law_260 rfl (lv_at hl 1 rfl) ?_
  refine lv_aload_n hx hb dL_law_261 rfl (lv_at hl 3 rfl) ?_
  refine lv_iload_n hx hb dL_law_262 rfl (lv_at hl 0 rfl) ?_
  refine lv_iconst (v := 1) hx hb dL_law_263 (by decide) ?_
  refine lv_iadd hx hb dL_law_264 ?_
  rw [show nI (5 * n) + 1 = nI (5 * n + 1) from nI_add (5 * n) 1]
  refine va_sld hx hb hX hbl hbA hS (vp_in_nI (by omega) (by omega)) dL_law_265 ?_
  rw [nI_clamp (show 5 * n + 1 < 2 ^ 31 by omega)]
  refine lv_i2l hx hb dL_law_266 rfl ?_
  refine lv_bipush (v := 32) hx hb dL_law_267 (by decide) ?_
  refine lv_lshl hx hb dL_law_269 rfl ?_
  refine lv_aload_n hx hb dL_law_270 rfl (lv_at hl 3 rfl) ?_
  refine lv_iload_n hx hb dL_law_271 rfl (lv_at hl 0 rfl) ?_
  refine lv_iconst (v := 2) hx hb dL_law_272 (by decide) ?_
  refine lv_iadd hx hb dL_law_273 ?_
  rw [show nI (5 * n) + 2 = nI (5 * n + 2) from nI_add (5 * n) 2]
  refine va_sld hx hb hX hbl hbA hS (vp_in_nI (by omega) (by omega)) dL_law_274 ?_
  rw [nI_clamp (show 5 * n + 2 < 2 ^ 31 by omega)]
  refine lv_i2l hx hb dL_law_275 rfl ?_
  refine lv_ldc2 hx hb hown (hts _ (by decide +kernel : Cond.constantLong RL 33 (4294967295) ∈ wsL_law)) dL_law_276 ?_
  refine lv_land hx hb dL_law_279 ?_
  refine lv_lor hx hb dL_law_280 ?_
  rw [show (xs (5 * n + 1)).toInt64 <<< ((32 : Int32).toInt64 &&& 63) ||| ((xs (5 * n + 2)).toInt64 &&& 4294967295) = lawJ (xs (5 * n + 1)) (xs (5 * n + 2)) from rfl]
  refine lv_aload_n hx hb dL_law_281 rfl (lv_at hl 3 rfl) ?_
  refine lv_iload_n hx hb dL_law_282 rfl (lv_at hl 0 rfl) ?_
  refine lv_iconst (v := 3) hx hb dL_law_283 (by decide) ?_
  refine lv_iadd hx hb dL_law_284 ?_
  rw [show nI (5 * n) + 3 = nI (5 * n + 3) from nI_add (5 * n) 3]
  refine va_sld hx hb hX hbl hbA hS (vp_in_nI (by omega) (by omega)) dL_law_285 ?_
  rw [nI_clamp (show 5 * n + 3 < 2 ^ 31 by omega)]
  refine lv_i2l hx hb dL_law_286 rfl ?_
  refine lv_bipush (v := 32) hx hb dL_law_287 (by decide) ?_
  refine lv_lshl hx hb dL_law_289 rfl ?_
  refine lv_aload_n hx hb dL_law_290 rfl (lv_at hl 3 rfl) ?_
  refine lv_iload_n hx hb dL_law_291 rfl (lv_at hl 0 rfl) ?_
  refine lv_iconst (v := 4) hx hb dL_law_292 (by decide) ?_
  refine lv_iadd hx hb dL_law_293 ?_
  rw [show nI (5 * n) + 4 = nI (5 * n + 4) from nI_add (5 * n) 4]
  refine va_sld hx hb hX hbl hbA hS (vp_in_nI (by omega) (by omega)) dL_law_294 ?_
  rw [nI_clamp (show 5 * n + 4 < 2 ^ 31 by omega)]
  refine lv_i2l hx hb dL_law_295 rfl ?_
  refine lv_ldc2 hx hb hown (hts _ (by decide +kernel : Cond.constantLong RL 33 (4294967295) ∈ wsL_law)) dL_law_296 ?_
  refine lv_land hx hb dL_law_299 ?_
  refine lv_lor hx hb dL_law_300 ?_
  rw [show (xs (5 * n + 3)).toInt64 <<< ((32 : Int32).toInt64 &&& 63) ||| ((xs (5 * n + 4)).toInt64 &&& 4294967295) = lawJ (xs (5 * n + 3)) (xs (5 * n + 4)) from rfl]
  refine s_ci hS (k_runV F hR hS hl 2 [.long (lawJ (xs (5 * n + 1)) (xs (5 * n + 2))), .long (lawJ (xs (5 * n + 3)) (xs (5 * n + 4)))] (kX8_put l Γ mx (lawJ (xs (5 * n + 1)) (xs (5 * n + 2))) (lawJ (xs (5 * n + 3)) (xs (5 * n + 4))) _ _ hp.2) gL_law_X8_put rfl rfl rfl (by decide +kernel) ⟨Nat.le_of_ble_eq_true rfl, Nat.le_of_ble_eq_true rfl⟩ (s_recv F hR hk9 (by decide) (C := RX8) (T := TX8) (N := 46) rfl) rfl (Nat.le_of_ble_eq_true rfl) dL_law_301 ⟨by show _ ≤ 600000; omega, by show _ ≤ 7302250; omega⟩) (fun r' σ2 H locs hq hR hS => ?_)
  obtain ⟨hrr, hI⟩ := hq
  refine lv_icmp_eq (tgt := 579) hx hb dL_law_304 (by decide) (fun _ => ?_) (fun z => absurd hrr z)
  exact tail σ2 H locs ls _ _ hI hR hS hl ⟨by show _ ≤ _; omega, by show _ ≤ _; omega⟩
set_option maxHeartbeats 4000000 in
set_option maxRecDepth 100000 in
theorem law_walk_window {p : Program} {l : Launch} {e : Env} {s : State} {m : MethodId} {below : List Frame} {meth : Method} {c : Code} {Γ : rGam} {b L : Nat} {xs : Nat → Int32} (F : Fx Γ p s m meth c #[Value.ref b] cL_law 4 RL wsL_law ret) (hX : va_X b L xs s s.heap) (hbl : b < s.heap.size) (hbA : ¬ rA Γ b) {Inv : Nat → Nat → Nat → St → Prop} {cx mx n : Nat} {σ : St} {H : Heap} {locs : List Loc} {ls : Array Slot} {cells slots : Nat} (hn : 5 * n + 5 ≤ L) (hL : L ≤ 320) (hk8 : sK σ cx = 8) (hw : law_window cx mx (Inv cx mx (n + 1)) (xs (5 * n + 1)) σ) (hR : Rep Γ σ H) (hS : va_S (rA Γ) s.heap H locs) (hl : lv_has ls 4 [(3, .int (nI (5 * n))), (2, .ref mx), (1, .ref cx), (0, .ref b)]) (hc : cells + 130 ≤ 600000 ∧ slots + 16640 ≤ 7302250) (tail : ∀ (σ2 : St) (H : Heap) (locs : List Loc) (ls : Array Slot) (cells2 slots2 : Nat), Inv cx mx (n + 1) σ2 → Rep Γ σ2 H → va_S (rA Γ) s.heap H locs → lv_has ls 4 [(3, .int (nI (5 * n))), (2, .ref mx), (1, .ref cx), (0, .ref b)] → cells2 ≤ cells + 130 ∧ slots2 ≤ slots + 16640 → W p l e room_1 s m #[Value.ref b] below meth c H locs cells2 slots2 (lw_Z below #[Value.ref b] s) (F0 m 579 ls [])) : W p l e room_1 s m #[Value.ref b] below meth c H locs cells slots (lw_Z below #[Value.ref b] s) (F0 m 309 ls []) := by
  have hx := F.1.1
  have hb := F.1.2.1
  have hts := F.1.2.2.2.2
  have hown := F.1.2.2.2.1
  refine lv_aload_n hx hb dL_law_309 rfl (lv_at hl 2 rfl) ?_
  refine lv_aload_n hx hb dL_law_310 rfl (lv_at hl 3 rfl) ?_
  refine lv_iload_n hx hb dL_law_311 rfl (lv_at hl 0 rfl) ?_
  refine lv_iconst (v := 1) hx hb dL_law_312 (by decide) ?_
  refine lv_iadd hx hb dL_law_313 ?_
  rw [show nI (5 * n) + 1 = nI (5 * n + 1) from nI_add (5 * n) 1]
  refine va_sld hx hb hX hbl hbA hS (vp_in_nI (by omega) (by omega)) dL_law_314 ?_
  rw [nI_clamp (show 5 * n + 1 < 2 ^ 31 by omega)]
  refine s_ci hS (k_runV F hR hS hl 1 [.int (xs (5 * n + 1))] (kX7_window l Γ cx (xs (5 * n + 1)) _ _ hw) gL_law_X7_window rfl rfl rfl (by decide +kernel) ⟨Nat.le_of_ble_eq_true rfl, Nat.le_of_ble_eq_true rfl⟩ (s_recv F hR hk8 (by decide) (C := RX7) (T := TX7) (N := 7) rfl) rfl (Nat.le_of_ble_eq_true rfl) dL_law_315 ⟨by show _ ≤ 600000; omega, by show _ ≤ 7302250; omega⟩) (fun r σ1 H locs hp hR hS => ?_)
  have hk9 := hp.1
  refine lv_aload_n hx hb dL_law_318 rfl (lv_at hl 1 rfl) ?_
  refine lv_aload_n hx hb dL_law_319 rfl (lv_at hl 3 rfl) ?_
  refine lv_iload_n hx hb dL_law_320 rfl (lv_at hl 0 rfl) ?_
  refine lv_iconst (v := 1) hx hb dL_law_321 (by decide) ?_
  refine lv_iadd hx hb dL_law_322 ?_
  rw [show nI (5 * n) + 1 = nI (5 * n + 1) from nI_add (5 * n) 1]
  refine va_sld hx hb hX hbl hbA hS (vp_in_nI (by omega) (by omega)) dL_law_323 ?_
  rw [nI_clamp (show 5 * n + 1 < 2 ^ 31 by omega)]
  refine s_ci hS (k_runV F hR hS hl 1 [.int (xs (5 * n + 1))] (kX8_window l Γ mx (xs (5 * n + 1)) _ _ hp.2) gL_law_X8_window rfl rfl rfl (by decide +kernel) ⟨Nat.le_of_ble_eq_true rfl, Nat.le_of_ble_eq_true rfl⟩ (s_recv F hR hk9 (by decide) (C := RX8) (T := TX8) (N := 46) rfl) rfl (Nat.le_of_ble_eq_true rfl) dL_law_324 ⟨by show _ ≤ 600000; omega, by show _ ≤ 7302250; omega⟩) (fun r' σ2 H locs hq hR hS => ?_)
  obtain ⟨hrr, hI⟩ := hq
  refine lv_icmp_eq (tgt := 579) hx hb dL_law_327 (by decide) (fun _ => ?_) (fun z => absurd hrr z)
  exact tail σ2 H locs ls _ _ hI hR hS hl ⟨by show _ ≤ _; omega, by show _ ≤ _; omega⟩
set_option maxHeartbeats 4000000 in
set_option maxRecDepth 100000 in
theorem law_walk_post {p : Program} {l : Launch} {e : Env} {s : State} {m : MethodId} {below : List Frame} {meth : Method} {c : Code} {Γ : rGam} {b L : Nat} {xs : Nat → Int32} (F : Fx Γ p s m meth c #[Value.ref b] cL_law 4 RL wsL_law ret) (hX : va_X b L xs s s.heap) (hbl : b < s.heap.size) (hbA : ¬ rA Γ b) {Inv : Nat → Nat → Nat → St → Prop} {cx mx n : Nat} {σ : St} {H : Heap} {locs : List Loc} {ls : Array Slot} {cells slots : Nat} (hn : 5 * n + 5 ≤ L) (hL : L ≤ 320) (hk8 : sK σ cx = 8) (hw : law_post cx mx (Inv cx mx (n + 1)) (xs (5 * n + 1)) (xs (5 * n + 2)) σ) (hR : Rep Γ σ H) (hS : va_S (rA Γ) s.heap H locs) (hl : lv_has ls 4 [(3, .int (nI (5 * n))), (2, .ref mx), (1, .ref cx), (0, .ref b)]) (hc : cells + 130 ≤ 600000 ∧ slots + 16640 ≤ 7302250) (tail : ∀ (σ2 : St) (H : Heap) (locs : List Loc) (ls : Array Slot) (cells2 slots2 : Nat), Inv cx mx (n + 1) σ2 → Rep Γ σ2 H → va_S (rA Γ) s.heap H locs → lv_has ls 4 [(3, .int (nI (5 * n))), (2, .ref mx), (1, .ref cx), (0, .ref b)] → cells2 ≤ cells + 130 ∧ slots2 ≤ slots + 16640 → W p l e room_1 s m #[Value.ref b] below meth c H locs cells2 slots2 (lw_Z below #[Value.ref b] s) (F0 m 579 ls [])) : W p l e room_1 s m #[Value.ref b] below meth c H locs cells slots (lw_Z below #[Value.ref b] s) (F0 m 332 ls []) := by
  have hx := F.1.1
  have hb := F.1.2.1
  have hts := F.1.2.2.2.2
  have hown := F.1.2.2.2.1
  refine lv_aload_n hx hb dL_law_332 rfl (lv_at hl 2 rfl) ?_
  refine lv_aload_n hx hb dL_law_333 rfl (lv_at hl 3 rfl) ?_
  refine lv_iload_n hx hb dL_law_334 rfl (lv_at hl 0 rfl) ?_
  refine lv_iconst (v := 1) hx hb dL_law_335 (by decide) ?_
  refine lv_iadd hx hb dL_law_336 ?_
  rw [show nI (5 * n) + 1 = nI (5 * n + 1) from nI_add (5 * n) 1]
  refine va_sld hx hb hX hbl hbA hS (vp_in_nI (by omega) (by omega)) dL_law_337 ?_
  rw [nI_clamp (show 5 * n + 1 < 2 ^ 31 by omega)]
  refine lv_aload_n hx hb dL_law_338 rfl (lv_at hl 3 rfl) ?_
  refine lv_iload_n hx hb dL_law_339 rfl (lv_at hl 0 rfl) ?_
  refine lv_iconst (v := 2) hx hb dL_law_340 (by decide) ?_
  refine lv_iadd hx hb dL_law_341 ?_
  rw [show nI (5 * n) + 2 = nI (5 * n + 2) from nI_add (5 * n) 2]
  refine va_sld hx hb hX hbl hbA hS (vp_in_nI (by omega) (by omega)) dL_law_342 ?_
  rw [nI_clamp (show 5 * n + 2 < 2 ^ 31 by omega)]
  refine s_ci hS (k_runV F hR hS hl 2 [.int (xs (5 * n + 1)), .int (xs (5 * n + 2))] (kX7_post l Γ cx (xs (5 * n + 1)) (xs (5 * n + 2)) _ _ hw) gL_law_X7_post rfl rfl rfl (by decide +kernel) ⟨Nat.le_of_ble_eq_true rfl, Nat.le_of_ble_eq_true rfl⟩ (s_recv F hR hk8 (by decide) (C := RX7) (T := TX7) (N := 7) rfl) rfl (Nat.le_of_ble_eq_true rfl) dL_law_343 ⟨by show _ ≤ 600000; omega, by show _ ≤ 7302250; omega⟩) (fun r σ1 H locs hp hR hS => ?_)
  have hk9 := hp.1
  refine lv_aload_n hx hb dL_law_346 rfl (lv_at hl 1 rfl) ?_
  refine lv_aload_n hx hb dL_law_347 rfl (lv_at hl 3 rfl) ?_
  refine lv_iload_n hx hb dL_law_348 rfl (lv_at hl 0 rfl) ?_
  refine lv_iconst (v := 1) hx hb dL_law_349 (by decide) ?_
  refine lv_iadd hx hb dL_law_350 ?_
  rw [show nI (5 * n) + 1 = nI (5 * n + 1) from nI_add (5 * n) 1]
  refine va_sld hx hb hX hbl hbA hS (vp_in_nI (by omega) (by omega)) dL_law_351 ?_
  rw [nI_clamp (show 5 * n + 1 < 2 ^ 31 by omega)]
  refine lv_aload_n hx hb dL_law_352 rfl (lv_at hl 3 rfl) ?_
  refine lv_iload_n hx hb dL_law_353 rfl (lv_at hl 0 rfl) ?_
  refine lv_iconst (v := 2) hx hb dL_law_354 (by decide) ?_
  refine lv_iadd hx hb dL_law_355 ?_
  rw [show nI (5 * n) + 2 = nI (5 * n + 2) from nI_add (5 * n) 2]
  refine va_sld hx hb hX hbl hbA hS (vp_in_nI (by omega) (by omega)) dL_law_356 ?_
  rw [nI_clamp (show 5 * n + 2 < 2 ^ 31 by omega)]
  refine s_ci hS (k_runV F hR hS hl 2 [.int (xs (5 * n + 1)), .int (xs (5 * n + 2))] (kX8_post l Γ mx (xs (5 * n + 1)) (xs (5 * n + 2)) _ _ hp.2) gL_law_X8_post rfl rfl rfl (by decide +kernel) ⟨Nat.le_of_ble_eq_true rfl, Nat.le_of_ble_eq_true rfl⟩ (s_recv F hR hk9 (by decide) (C := RX8) (T := TX8) (N := 46) rfl) rfl (Nat.le_of_ble_eq_true rfl) dL_law_357 ⟨by show _ ≤ 600000; omega, by show _ ≤ 7302250; omega⟩) (fun r' σ2 H locs hq hR hS => ?_)
  obtain ⟨hrr, hI⟩ := hq
  refine lv_icmp_eq (tgt := 579) hx hb dL_law_360 (by decide) (fun _ => ?_) (fun z => absurd hrr z)
  exact tail σ2 H locs ls _ _ hI hR hS hl ⟨by show _ ≤ _; omega, by show _ ≤ _; omega⟩
set_option maxHeartbeats 4000000 in
set_option maxRecDepth 100000 in
theorem law_walk_items {p : Program} {l : Launch} {e : Env} {s : State} {m : MethodId} {below : List Frame} {meth : Method} {c : Code} {Γ : rGam} {b L : Nat} {xs : Nat → Int32} (F : Fx Γ p s m meth c #[Value.ref b] cL_law 4 RL wsL_law ret) (hX : va_X b L xs s s.heap) (hbl : b < s.heap.size) (hbA : ¬ rA Γ b) {Inv : Nat → Nat → Nat → St → Prop} {cx mx n : Nat} {σ : St} {H : Heap} {locs : List Loc} {ls : Array Slot} {cells slots : Nat} (hn : 5 * n + 5 ≤ L) (hL : L ≤ 320) (hk8 : sK σ cx = 8) (hw : law_items cx mx (Inv cx mx (n + 1)) (xs (5 * n + 1)) σ) (hR : Rep Γ σ H) (hS : va_S (rA Γ) s.heap H locs) (hl : lv_has ls 4 [(3, .int (nI (5 * n))), (2, .ref mx), (1, .ref cx), (0, .ref b)]) (hc : cells + 130 ≤ 600000 ∧ slots + 16640 ≤ 7302250) (tail : ∀ (σ2 : St) (H : Heap) (locs : List Loc) (ls : Array Slot) (cells2 slots2 : Nat), Inv cx mx (n + 1) σ2 → Rep Γ σ2 H → va_S (rA Γ) s.heap H locs → lv_has ls 4 [(3, .int (nI (5 * n))), (2, .ref mx), (1, .ref cx), (0, .ref b)] → cells2 ≤ cells + 130 ∧ slots2 ≤ slots + 16640 → W p l e room_1 s m #[Value.ref b] below meth c H locs cells2 slots2 (lw_Z below #[Value.ref b] s) (F0 m 579 ls [])) : W p l e room_1 s m #[Value.ref b] below meth c H locs cells slots (lw_Z below #[Value.ref b] s) (F0 m 365 ls []) := by
  have hx := F.1.1
  have hb := F.1.2.1
  have hts := F.1.2.2.2.2
  have hown := F.1.2.2.2.1
  refine lv_aload_n hx hb dL_law_365 rfl (lv_at hl 2 rfl) ?_
  refine lv_aload_n hx hb dL_law_366 rfl (lv_at hl 3 rfl) ?_
  refine lv_iload_n hx hb dL_law_367 rfl (lv_at hl 0 rfl) ?_
  refine lv_iconst (v := 1) hx hb dL_law_368 (by decide) ?_
  refine lv_iadd hx hb dL_law_369 ?_
  rw [show nI (5 * n) + 1 = nI (5 * n + 1) from nI_add (5 * n) 1]
  refine va_sld hx hb hX hbl hbA hS (vp_in_nI (by omega) (by omega)) dL_law_370 ?_
  rw [nI_clamp (show 5 * n + 1 < 2 ^ 31 by omega)]
  refine s_ci hS (k_runV F hR hS hl 1 [.int (xs (5 * n + 1))] (kX7_items l Γ cx (xs (5 * n + 1)) _ _ hw) gL_law_X7_items rfl rfl rfl (by decide +kernel) ⟨Nat.le_of_ble_eq_true rfl, Nat.le_of_ble_eq_true rfl⟩ (s_recv F hR hk8 (by decide) (C := RX7) (T := TX7) (N := 7) rfl) rfl (Nat.le_of_ble_eq_true rfl) dL_law_371 ⟨by show _ ≤ 600000; omega, by show _ ≤ 7302250; omega⟩) (fun r σ1 H locs hp hR hS => ?_)
  have hk9 := hp.1
  refine lv_aload_n hx hb dL_law_374 rfl (lv_at hl 1 rfl) ?_
  refine lv_aload_n hx hb dL_law_375 rfl (lv_at hl 3 rfl) ?_
  refine lv_iload_n hx hb dL_law_376 rfl (lv_at hl 0 rfl) ?_
  refine lv_iconst (v := 1) hx hb dL_law_377 (by decide) ?_
  refine lv_iadd hx hb dL_law_378 ?_
  rw [show nI (5 * n) + 1 = nI (5 * n + 1) from nI_add (5 * n) 1]
  refine va_sld hx hb hX hbl hbA hS (vp_in_nI (by omega) (by omega)) dL_law_379 ?_
  rw [nI_clamp (show 5 * n + 1 < 2 ^ 31 by omega)]
  refine s_ci hS (k_runV F hR hS hl 1 [.int (xs (5 * n + 1))] (kX8_items l Γ mx (xs (5 * n + 1)) _ _ hp.2) gL_law_X8_items rfl rfl rfl (by decide +kernel) ⟨Nat.le_of_ble_eq_true rfl, Nat.le_of_ble_eq_true rfl⟩ (s_recv F hR hk9 (by decide) (C := RX8) (T := TX8) (N := 46) rfl) rfl (Nat.le_of_ble_eq_true rfl) dL_law_380 ⟨by show _ ≤ 600000; omega, by show _ ≤ 7302250; omega⟩) (fun r' σ2 H locs hq hR hS => ?_)
  obtain ⟨hrr, hI⟩ := hq
  refine lv_icmp_eq (tgt := 579) hx hb dL_law_383 (by decide) (fun _ => ?_) (fun z => absurd hrr z)
  exact tail σ2 H locs ls _ _ hI hR hS hl ⟨by show _ ≤ _; omega, by show _ ≤ _; omega⟩
set_option maxHeartbeats 4000000 in
set_option maxRecDepth 100000 in
theorem law_walk_item {p : Program} {l : Launch} {e : Env} {s : State} {m : MethodId} {below : List Frame} {meth : Method} {c : Code} {Γ : rGam} {b L : Nat} {xs : Nat → Int32} (F : Fx Γ p s m meth c #[Value.ref b] cL_law 4 RL wsL_law ret) (hX : va_X b L xs s s.heap) (hbl : b < s.heap.size) (hbA : ¬ rA Γ b) {Inv : Nat → Nat → Nat → St → Prop} {cx mx n : Nat} {σ : St} {H : Heap} {locs : List Loc} {ls : Array Slot} {cells slots : Nat} (hn : 5 * n + 5 ≤ L) (hL : L ≤ 320) (hk8 : sK σ cx = 8) (hw : law_item cx mx (Inv cx mx (n + 1)) (xs (5 * n + 1)) (xs (5 * n + 2)) (xs (5 * n + 3)) σ) (hR : Rep Γ σ H) (hS : va_S (rA Γ) s.heap H locs) (hl : lv_has ls 4 [(3, .int (nI (5 * n))), (2, .ref mx), (1, .ref cx), (0, .ref b)]) (hc : cells + 130 ≤ 600000 ∧ slots + 16640 ≤ 7302250) (tail : ∀ (σ2 : St) (H : Heap) (locs : List Loc) (ls : Array Slot) (cells2 slots2 : Nat), Inv cx mx (n + 1) σ2 → Rep Γ σ2 H → va_S (rA Γ) s.heap H locs → lv_has ls 4 [(3, .int (nI (5 * n))), (2, .ref mx), (1, .ref cx), (0, .ref b)] → cells2 ≤ cells + 130 ∧ slots2 ≤ slots + 16640 → W p l e room_1 s m #[Value.ref b] below meth c H locs cells2 slots2 (lw_Z below #[Value.ref b] s) (F0 m 579 ls [])) : W p l e room_1 s m #[Value.ref b] below meth c H locs cells slots (lw_Z below #[Value.ref b] s) (F0 m 388 ls []) := by
  have hx := F.1.1
  have hb := F.1.2.1
  have hts := F.1.2.2.2.2
  have hown := F.1.2.2.2.1
  refine lv_aload_n hx hb dL_law_388 rfl (lv_at hl 2 rfl) ?_
  refine lv_aload_n hx hb dL_law_389 rfl (lv_at hl 3 rfl) ?_
  refine lv_iload_n hx hb dL_law_390 rfl (lv_at hl 0 rfl) ?_
  refine lv_iconst (v := 1) hx hb dL_law_391 (by decide) ?_
  refine lv_iadd hx hb dL_law_392 ?_
  rw [show nI (5 * n) + 1 = nI (5 * n + 1) from nI_add (5 * n) 1]
  refine va_sld hx hb hX hbl hbA hS (vp_in_nI (by omega) (by omega)) dL_law_393 ?_
  rw [nI_clamp (show 5 * n + 1 < 2 ^ 31 by omega)]
  refine lv_aload_n hx hb dL_law_394 rfl (lv_at hl 3 rfl) ?_
  refine lv_iload_n hx hb dL_law_395 rfl (lv_at hl 0 rfl) ?_
  refine lv_iconst (v := 2) hx hb dL_law_396 (by decide) ?_
  refine lv_iadd hx hb dL_law_397 ?_
  rw [show nI (5 * n) + 2 = nI (5 * n + 2) from nI_add (5 * n) 2]
  refine va_sld hx hb hX hbl hbA hS (vp_in_nI (by omega) (by omega)) dL_law_398 ?_
  rw [nI_clamp (show 5 * n + 2 < 2 ^ 31 by omega)]
  refine lv_aload_n hx hb dL_law_399 rfl (lv_at hl 3 rfl) ?_
  refine lv_iload_n hx hb dL_law_400 rfl (lv_at hl 0 rfl) ?_
  refine lv_iconst (v := 3) hx hb dL_law_401 (by decide) ?_
  refine lv_iadd hx hb dL_law_402 ?_
  rw [show nI (5 * n) + 3 = nI (5 * n + 3) from nI_add (5 * n) 3]
  refine va_sld hx hb hX hbl hbA hS (vp_in_nI (by omega) (by omega)) dL_law_403 ?_
  rw [nI_clamp (show 5 * n + 3 < 2 ^ 31 by omega)]
  refine s_ci hS (k_runV F hR hS hl 3 [.int (xs (5 * n + 1)), .int (xs (5 * n + 2)), .int (xs (5 * n + 3))] (kX7_item l Γ cx (xs (5 * n + 1)) (xs (5 * n + 2)) (xs (5 * n + 3)) _ _ hw) gL_law_X7_item rfl rfl rfl (by decide +kernel) ⟨Nat.le_of_ble_eq_true rfl, Nat.le_of_ble_eq_true rfl⟩ (s_recv F hR hk8 (by decide) (C := RX7) (T := TX7) (N := 7) rfl) rfl (Nat.le_of_ble_eq_true rfl) dL_law_404 ⟨by show _ ≤ 600000; omega, by show _ ≤ 7302250; omega⟩) (fun r σ1 H locs hp hR hS => ?_)
  have hk9 := hp.1
  refine lv_aload_n hx hb dL_law_407 rfl (lv_at hl 1 rfl) ?_
  refine lv_aload_n hx hb dL_law_408 rfl (lv_at hl 3 rfl) ?_
  refine lv_iload_n hx hb dL_law_409 rfl (lv_at hl 0 rfl) ?_
  refine lv_iconst (v := 1) hx hb dL_law_410 (by decide) ?_
  refine lv_iadd hx hb dL_law_411 ?_
  rw [show nI (5 * n) + 1 = nI (5 * n + 1) from nI_add (5 * n) 1]
  refine va_sld hx hb hX hbl hbA hS (vp_in_nI (by omega) (by omega)) dL_law_412 ?_
  rw [nI_clamp (show 5 * n + 1 < 2 ^ 31 by omega)]
  refine lv_aload_n hx hb dL_law_413 rfl (lv_at hl 3 rfl) ?_
  refine lv_iload_n hx hb dL_law_414 rfl (lv_at hl 0 rfl) ?_
  refine lv_iconst (v := 2) hx hb dL_law_415 (by decide) ?_
  refine lv_iadd hx hb dL_law_416 ?_
  rw [show nI (5 * n) + 2 = nI (5 * n + 2) from nI_add (5 * n) 2]
  refine va_sld hx hb hX hbl hbA hS (vp_in_nI (by omega) (by omega)) dL_law_417 ?_
  rw [nI_clamp (show 5 * n + 2 < 2 ^ 31 by omega)]
  refine lv_aload_n hx hb dL_law_418 rfl (lv_at hl 3 rfl) ?_
  refine lv_iload_n hx hb dL_law_419 rfl (lv_at hl 0 rfl) ?_
  refine lv_iconst (v := 3) hx hb dL_law_420 (by decide) ?_
  refine lv_iadd hx hb dL_law_421 ?_
  rw [show nI (5 * n) + 3 = nI (5 * n + 3) from nI_add (5 * n) 3]
  refine va_sld hx hb hX hbl hbA hS (vp_in_nI (by omega) (by omega)) dL_law_422 ?_
  rw [nI_clamp (show 5 * n + 3 < 2 ^ 31 by omega)]
  refine s_ci hS (k_runV F hR hS hl 3 [.int (xs (5 * n + 1)), .int (xs (5 * n + 2)), .int (xs (5 * n + 3))] (kX8_item l Γ mx (xs (5 * n + 1)) (xs (5 * n + 2)) (xs (5 * n + 3)) _ _ hp.2) gL_law_X8_item rfl rfl rfl (by decide +kernel) ⟨Nat.le_of_ble_eq_true rfl, Nat.le_of_ble_eq_true rfl⟩ (s_recv F hR hk9 (by decide) (C := RX8) (T := TX8) (N := 46) rfl) rfl (Nat.le_of_ble_eq_true rfl) dL_law_423 ⟨by show _ ≤ 600000; omega, by show _ ≤ 7302250; omega⟩) (fun r' σ2 H locs hq hR hS => ?_)
  obtain ⟨hrr, hI⟩ := hq
  refine lv_icmp_eq (tgt := 579) hx hb dL_law_426 (by decide) (fun _ => ?_) (fun z => absurd hrr z)
  exact tail σ2 H locs ls _ _ hI hR hS hl ⟨by show _ ≤ _; omega, by show _ ≤ _; omega⟩
set_option maxHeartbeats 4000000 in
set_option maxRecDepth 100000 in
theorem law_walk_control {p : Program} {l : Launch} {e : Env} {s : State} {m : MethodId} {below : List Frame} {meth : Method} {c : Code} {Γ : rGam} {b L : Nat} {xs : Nat → Int32} (F : Fx Γ p s m meth c #[Value.ref b] cL_law 4 RL wsL_law ret) (hX : va_X b L xs s s.heap) (hbl : b < s.heap.size) (hbA : ¬ rA Γ b) {Inv : Nat → Nat → Nat → St → Prop} {cx mx n : Nat} {σ : St} {H : Heap} {locs : List Loc} {ls : Array Slot} {cells slots : Nat} (hn : 5 * n + 5 ≤ L) (hL : L ≤ 320) (hk8 : sK σ cx = 8) (hw : law_control cx mx (Inv cx mx (n + 1)) (xs (5 * n + 1)) (xs (5 * n + 2)) σ) (hR : Rep Γ σ H) (hS : va_S (rA Γ) s.heap H locs) (hl : lv_has ls 4 [(3, .int (nI (5 * n))), (2, .ref mx), (1, .ref cx), (0, .ref b)]) (hc : cells + 130 ≤ 600000 ∧ slots + 16640 ≤ 7302250) (tail : ∀ (σ2 : St) (H : Heap) (locs : List Loc) (ls : Array Slot) (cells2 slots2 : Nat), Inv cx mx (n + 1) σ2 → Rep Γ σ2 H → va_S (rA Γ) s.heap H locs → lv_has ls 4 [(3, .int (nI (5 * n))), (2, .ref mx), (1, .ref cx), (0, .ref b)] → cells2 ≤ cells + 130 ∧ slots2 ≤ slots + 16640 → W p l e room_1 s m #[Value.ref b] below meth c H locs cells2 slots2 (lw_Z below #[Value.ref b] s) (F0 m 579 ls [])) : W p l e room_1 s m #[Value.ref b] below meth c H locs cells slots (lw_Z below #[Value.ref b] s) (F0 m 431 ls []) := by
  have hx := F.1.1
  have hb := F.1.2.1
  have hts := F.1.2.2.2.2
  have hown := F.1.2.2.2.1
  refine lv_aload_n hx hb dL_law_431 rfl (lv_at hl 2 rfl) ?_
  refine lv_aload_n hx hb dL_law_432 rfl (lv_at hl 3 rfl) ?_
  refine lv_iload_n hx hb dL_law_433 rfl (lv_at hl 0 rfl) ?_
  refine lv_iconst (v := 1) hx hb dL_law_434 (by decide) ?_
  refine lv_iadd hx hb dL_law_435 ?_
  rw [show nI (5 * n) + 1 = nI (5 * n + 1) from nI_add (5 * n) 1]
  refine va_sld hx hb hX hbl hbA hS (vp_in_nI (by omega) (by omega)) dL_law_436 ?_
  rw [nI_clamp (show 5 * n + 1 < 2 ^ 31 by omega)]
  refine lv_aload_n hx hb dL_law_437 rfl (lv_at hl 3 rfl) ?_
  refine lv_iload_n hx hb dL_law_438 rfl (lv_at hl 0 rfl) ?_
  refine lv_iconst (v := 2) hx hb dL_law_439 (by decide) ?_
  refine lv_iadd hx hb dL_law_440 ?_
  rw [show nI (5 * n) + 2 = nI (5 * n + 2) from nI_add (5 * n) 2]
  refine va_sld hx hb hX hbl hbA hS (vp_in_nI (by omega) (by omega)) dL_law_441 ?_
  rw [nI_clamp (show 5 * n + 2 < 2 ^ 31 by omega)]
  refine s_cl hS (k_runV F hR hS hl 2 [.int (xs (5 * n + 1)), .int (xs (5 * n + 2))] (kX7_control l Γ cx (xs (5 * n + 1)) (xs (5 * n + 2)) _ _ hw) gL_law_X7_control rfl rfl rfl (by decide +kernel) ⟨Nat.le_of_ble_eq_true rfl, Nat.le_of_ble_eq_true rfl⟩ (s_recv F hR hk8 (by decide) (C := RX7) (T := TX7) (N := 7) rfl) rfl (Nat.le_of_ble_eq_true rfl) dL_law_442 ⟨by show _ ≤ 600000; omega, by show _ ≤ 7302250; omega⟩) (fun r σ1 H locs hp hR hS => ?_)
  have hk9 := hp.1
  refine lv_aload_n hx hb dL_law_445 rfl (lv_at hl 1 rfl) ?_
  refine lv_aload_n hx hb dL_law_446 rfl (lv_at hl 3 rfl) ?_
  refine lv_iload_n hx hb dL_law_447 rfl (lv_at hl 0 rfl) ?_
  refine lv_iconst (v := 1) hx hb dL_law_448 (by decide) ?_
  refine lv_iadd hx hb dL_law_449 ?_
  rw [show nI (5 * n) + 1 = nI (5 * n + 1) from nI_add (5 * n) 1]
  refine va_sld hx hb hX hbl hbA hS (vp_in_nI (by omega) (by omega)) dL_law_450 ?_
  rw [nI_clamp (show 5 * n + 1 < 2 ^ 31 by omega)]
  refine lv_aload_n hx hb dL_law_451 rfl (lv_at hl 3 rfl) ?_
  refine lv_iload_n hx hb dL_law_452 rfl (lv_at hl 0 rfl) ?_
  refine lv_iconst (v := 2) hx hb dL_law_453 (by decide) ?_
  refine lv_iadd hx hb dL_law_454 ?_
  rw [show nI (5 * n) + 2 = nI (5 * n + 2) from nI_add (5 * n) 2]
  refine va_sld hx hb hX hbl hbA hS (vp_in_nI (by omega) (by omega)) dL_law_455 ?_
  rw [nI_clamp (show 5 * n + 2 < 2 ^ 31 by omega)]
  refine s_cl hS (k_runV F hR hS hl 2 [.int (xs (5 * n + 1)), .int (xs (5 * n + 2))] (kX8_control l Γ mx (xs (5 * n + 1)) (xs (5 * n + 2)) _ _ hp.2) gL_law_X8_control rfl rfl rfl (by decide +kernel) ⟨Nat.le_of_ble_eq_true rfl, Nat.le_of_ble_eq_true rfl⟩ (s_recv F hR hk9 (by decide) (C := RX8) (T := TX8) (N := 46) rfl) rfl (Nat.le_of_ble_eq_true rfl) dL_law_456 ⟨by show _ ≤ 600000; omega, by show _ ≤ 7302250; omega⟩) (fun r' σ2 H locs hq hR hS => ?_)
  obtain ⟨hrr, hI⟩ := hq
  refine W.lcmp hx hb dL_law_459 ?_
  refine lv_if_eq (tgt := 579) hx hb dL_law_460 (by decide) (fun _ => ?_) (fun z => absurd (by rw [hrr, lawCmp]) z)
  exact tail σ2 H locs ls _ _ hI hR hS hl ⟨by show _ ≤ _; omega, by show _ ≤ _; omega⟩
set_option maxHeartbeats 4000000 in
set_option maxRecDepth 100000 in
theorem law_walk_balance {p : Program} {l : Launch} {e : Env} {s : State} {m : MethodId} {below : List Frame} {meth : Method} {c : Code} {Γ : rGam} {b L : Nat} {xs : Nat → Int32} (F : Fx Γ p s m meth c #[Value.ref b] cL_law 4 RL wsL_law ret) (hX : va_X b L xs s s.heap) (hbl : b < s.heap.size) (hbA : ¬ rA Γ b) {Inv : Nat → Nat → Nat → St → Prop} {cx mx n : Nat} {σ : St} {H : Heap} {locs : List Loc} {ls : Array Slot} {cells slots : Nat} (hn : 5 * n + 5 ≤ L) (hL : L ≤ 320) (hk8 : sK σ cx = 8) (hw : law_balance cx mx (Inv cx mx (n + 1)) (xs (5 * n + 1)) (xs (5 * n + 2)) σ) (hR : Rep Γ σ H) (hS : va_S (rA Γ) s.heap H locs) (hl : lv_has ls 4 [(3, .int (nI (5 * n))), (2, .ref mx), (1, .ref cx), (0, .ref b)]) (hc : cells + 130 ≤ 600000 ∧ slots + 16640 ≤ 7302250) (tail : ∀ (σ2 : St) (H : Heap) (locs : List Loc) (ls : Array Slot) (cells2 slots2 : Nat), Inv cx mx (n + 1) σ2 → Rep Γ σ2 H → va_S (rA Γ) s.heap H locs → lv_has ls 4 [(3, .int (nI (5 * n))), (2, .ref mx), (1, .ref cx), (0, .ref b)] → cells2 ≤ cells + 130 ∧ slots2 ≤ slots + 16640 → W p l e room_1 s m #[Value.ref b] below meth c H locs cells2 slots2 (lw_Z below #[Value.ref b] s) (F0 m 579 ls [])) : W p l e room_1 s m #[Value.ref b] below meth c H locs cells slots (lw_Z below #[Value.ref b] s) (F0 m 465 ls []) := by
  have hx := F.1.1
  have hb := F.1.2.1
  have hts := F.1.2.2.2.2
  have hown := F.1.2.2.2.1
  refine lv_aload_n hx hb dL_law_465 rfl (lv_at hl 2 rfl) ?_
  refine lv_aload_n hx hb dL_law_466 rfl (lv_at hl 3 rfl) ?_
  refine lv_iload_n hx hb dL_law_467 rfl (lv_at hl 0 rfl) ?_
  refine lv_iconst (v := 1) hx hb dL_law_468 (by decide) ?_
  refine lv_iadd hx hb dL_law_469 ?_
  rw [show nI (5 * n) + 1 = nI (5 * n + 1) from nI_add (5 * n) 1]
  refine va_sld hx hb hX hbl hbA hS (vp_in_nI (by omega) (by omega)) dL_law_470 ?_
  rw [nI_clamp (show 5 * n + 1 < 2 ^ 31 by omega)]
  refine lv_aload_n hx hb dL_law_471 rfl (lv_at hl 3 rfl) ?_
  refine lv_iload_n hx hb dL_law_472 rfl (lv_at hl 0 rfl) ?_
  refine lv_iconst (v := 2) hx hb dL_law_473 (by decide) ?_
  refine lv_iadd hx hb dL_law_474 ?_
  rw [show nI (5 * n) + 2 = nI (5 * n + 2) from nI_add (5 * n) 2]
  refine va_sld hx hb hX hbl hbA hS (vp_in_nI (by omega) (by omega)) dL_law_475 ?_
  rw [nI_clamp (show 5 * n + 2 < 2 ^ 31 by omega)]
  refine s_cl hS (k_runV F hR hS hl 2 [.int (xs (5 * n + 1)), .int (xs (5 * n + 2))] (kX7_balance l Γ cx (xs (5 * n + 1)) (xs (5 * n + 2)) _ _ hw) gL_law_X7_balance rfl rfl rfl (by decide +kernel) ⟨Nat.le_of_ble_eq_true rfl, Nat.le_of_ble_eq_true rfl⟩ (s_recv F hR hk8 (by decide) (C := RX7) (T := TX7) (N := 7) rfl) rfl (Nat.le_of_ble_eq_true rfl) dL_law_476 ⟨by show _ ≤ 600000; omega, by show _ ≤ 7302250; omega⟩) (fun r σ1 H locs hp hR hS => ?_)
  have hk9 := hp.1
  refine lv_aload_n hx hb dL_law_479 rfl (lv_at hl 1 rfl) ?_
  refine lv_aload_n hx hb dL_law_480 rfl (lv_at hl 3 rfl) ?_
  refine lv_iload_n hx hb dL_law_481 rfl (lv_at hl 0 rfl) ?_
  refine lv_iconst (v := 1) hx hb dL_law_482 (by decide) ?_
  refine lv_iadd hx hb dL_law_483 ?_
  rw [show nI (5 * n) + 1 = nI (5 * n + 1) from nI_add (5 * n) 1]
  refine va_sld hx hb hX hbl hbA hS (vp_in_nI (by omega) (by omega)) dL_law_484 ?_
  rw [nI_clamp (show 5 * n + 1 < 2 ^ 31 by omega)]
  refine lv_aload_n hx hb dL_law_485 rfl (lv_at hl 3 rfl) ?_
  refine lv_iload_n hx hb dL_law_486 rfl (lv_at hl 0 rfl) ?_
  refine lv_iconst (v := 2) hx hb dL_law_487 (by decide) ?_
  refine lv_iadd hx hb dL_law_488 ?_
  rw [show nI (5 * n) + 2 = nI (5 * n + 2) from nI_add (5 * n) 2]
  refine va_sld hx hb hX hbl hbA hS (vp_in_nI (by omega) (by omega)) dL_law_489 ?_
  rw [nI_clamp (show 5 * n + 2 < 2 ^ 31 by omega)]
  refine s_cl hS (k_runV F hR hS hl 2 [.int (xs (5 * n + 1)), .int (xs (5 * n + 2))] (kX8_balance l Γ mx (xs (5 * n + 1)) (xs (5 * n + 2)) _ _ hp.2) gL_law_X8_balance rfl rfl rfl (by decide +kernel) ⟨Nat.le_of_ble_eq_true rfl, Nat.le_of_ble_eq_true rfl⟩ (s_recv F hR hk9 (by decide) (C := RX8) (T := TX8) (N := 46) rfl) rfl (Nat.le_of_ble_eq_true rfl) dL_law_490 ⟨by show _ ≤ 600000; omega, by show _ ≤ 7302250; omega⟩) (fun r' σ2 H locs hq hR hS => ?_)
  obtain ⟨hrr, hI⟩ := hq
  refine W.lcmp hx hb dL_law_493 ?_
  refine lv_if_eq (tgt := 579) hx hb dL_law_494 (by decide) (fun _ => ?_) (fun z => absurd (by rw [hrr, lawCmp]) z)
  exact tail σ2 H locs ls _ _ hI hR hS hl ⟨by show _ ≤ _; omega, by show _ ≤ _; omega⟩
set_option maxHeartbeats 4000000 in
set_option maxRecDepth 100000 in
theorem law_walk_ledger {p : Program} {l : Launch} {e : Env} {s : State} {m : MethodId} {below : List Frame} {meth : Method} {c : Code} {Γ : rGam} {b L : Nat} {xs : Nat → Int32} (F : Fx Γ p s m meth c #[Value.ref b] cL_law 4 RL wsL_law ret) (hX : va_X b L xs s s.heap) (hbl : b < s.heap.size) (hbA : ¬ rA Γ b) {Inv : Nat → Nat → Nat → St → Prop} {cx mx n : Nat} {σ : St} {H : Heap} {locs : List Loc} {ls : Array Slot} {cells slots : Nat} (hn : 5 * n + 5 ≤ L) (hL : L ≤ 320) (hk8 : sK σ cx = 8) (hw : law_ledger cx mx (Inv cx mx (n + 1)) (xs (5 * n + 1)) σ) (hR : Rep Γ σ H) (hS : va_S (rA Γ) s.heap H locs) (hl : lv_has ls 4 [(3, .int (nI (5 * n))), (2, .ref mx), (1, .ref cx), (0, .ref b)]) (hc : cells + 130 ≤ 600000 ∧ slots + 16640 ≤ 7302250) (tail : ∀ (σ2 : St) (H : Heap) (locs : List Loc) (ls : Array Slot) (cells2 slots2 : Nat), Inv cx mx (n + 1) σ2 → Rep Γ σ2 H → va_S (rA Γ) s.heap H locs → lv_has ls 4 [(3, .int (nI (5 * n))), (2, .ref mx), (1, .ref cx), (0, .ref b)] → cells2 ≤ cells + 130 ∧ slots2 ≤ slots + 16640 → W p l e room_1 s m #[Value.ref b] below meth c H locs cells2 slots2 (lw_Z below #[Value.ref b] s) (F0 m 579 ls [])) : W p l e room_1 s m #[Value.ref b] below meth c H locs cells slots (lw_Z below #[Value.ref b] s) (F0 m 499 ls []) := by
  have hx := F.1.1
  have hb := F.1.2.1
  have hts := F.1.2.2.2.2
  have hown := F.1.2.2.2.1
  refine lv_aload_n hx hb dL_law_499 rfl (lv_at hl 2 rfl) ?_
  refine lv_aload_n hx hb dL_law_500 rfl (lv_at hl 3 rfl) ?_
  refine lv_iload_n hx hb dL_law_501 rfl (lv_at hl 0 rfl) ?_
  refine lv_iconst (v := 1) hx hb dL_law_502 (by decide) ?_
  refine lv_iadd hx hb dL_law_503 ?_
  rw [show nI (5 * n) + 1 = nI (5 * n + 1) from nI_add (5 * n) 1]
  refine va_sld hx hb hX hbl hbA hS (vp_in_nI (by omega) (by omega)) dL_law_504 ?_
  rw [nI_clamp (show 5 * n + 1 < 2 ^ 31 by omega)]
  refine s_cl hS (k_runV F hR hS hl 1 [.int (xs (5 * n + 1))] (kX7_ledger l Γ cx (xs (5 * n + 1)) _ _ hw) gL_law_X7_ledger rfl rfl rfl (by decide +kernel) ⟨Nat.le_of_ble_eq_true rfl, Nat.le_of_ble_eq_true rfl⟩ (s_recv F hR hk8 (by decide) (C := RX7) (T := TX7) (N := 7) rfl) rfl (Nat.le_of_ble_eq_true rfl) dL_law_505 ⟨by show _ ≤ 600000; omega, by show _ ≤ 7302250; omega⟩) (fun r σ1 H locs hp hR hS => ?_)
  have hk9 := hp.1
  refine lv_aload_n hx hb dL_law_508 rfl (lv_at hl 1 rfl) ?_
  refine lv_aload_n hx hb dL_law_509 rfl (lv_at hl 3 rfl) ?_
  refine lv_iload_n hx hb dL_law_510 rfl (lv_at hl 0 rfl) ?_
  refine lv_iconst (v := 1) hx hb dL_law_511 (by decide) ?_
  refine lv_iadd hx hb dL_law_512 ?_
  rw [show nI (5 * n) + 1 = nI (5 * n + 1) from nI_add (5 * n) 1]
  refine va_sld hx hb hX hbl hbA hS (vp_in_nI (by omega) (by omega)) dL_law_513 ?_
  rw [nI_clamp (show 5 * n + 1 < 2 ^ 31 by omega)]
  refine s_cl hS (k_runV F hR hS hl 1 [.int (xs (5 * n + 1))] (kX8_ledger l Γ mx (xs (5 * n + 1)) _ _ hp.2) gL_law_X8_ledger rfl rfl rfl (by decide +kernel) ⟨Nat.le_of_ble_eq_true rfl, Nat.le_of_ble_eq_true rfl⟩ (s_recv F hR hk9 (by decide) (C := RX8) (T := TX8) (N := 46) rfl) rfl (Nat.le_of_ble_eq_true rfl) dL_law_514 ⟨by show _ ≤ 600000; omega, by show _ ≤ 7302250; omega⟩) (fun r' σ2 H locs hq hR hS => ?_)
  obtain ⟨hrr, hI⟩ := hq
  refine W.lcmp hx hb dL_law_517 ?_
  refine lv_if_eq (tgt := 579) hx hb dL_law_518 (by decide) (fun _ => ?_) (fun z => absurd (by rw [hrr, lawCmp]) z)
  exact tail σ2 H locs ls _ _ hI hR hS hl ⟨by show _ ≤ _; omega, by show _ ≤ _; omega⟩
set_option maxHeartbeats 4000000 in
set_option maxRecDepth 100000 in
theorem law_walk_rejected {p : Program} {l : Launch} {e : Env} {s : State} {m : MethodId} {below : List Frame} {meth : Method} {c : Code} {Γ : rGam} {b L : Nat} {xs : Nat → Int32} (F : Fx Γ p s m meth c #[Value.ref b] cL_law 4 RL wsL_law ret) (hX : va_X b L xs s s.heap) (hbl : b < s.heap.size) (hbA : ¬ rA Γ b) {Inv : Nat → Nat → Nat → St → Prop} {cx mx n : Nat} {σ : St} {H : Heap} {locs : List Loc} {ls : Array Slot} {cells slots : Nat} (hn : 5 * n + 5 ≤ L) (hL : L ≤ 320) (hk8 : sK σ cx = 8) (hw : law_rejected cx mx (Inv cx mx (n + 1)) (xs (5 * n + 1)) σ) (hR : Rep Γ σ H) (hS : va_S (rA Γ) s.heap H locs) (hl : lv_has ls 4 [(3, .int (nI (5 * n))), (2, .ref mx), (1, .ref cx), (0, .ref b)]) (hc : cells + 130 ≤ 600000 ∧ slots + 16640 ≤ 7302250) (tail : ∀ (σ2 : St) (H : Heap) (locs : List Loc) (ls : Array Slot) (cells2 slots2 : Nat), Inv cx mx (n + 1) σ2 → Rep Γ σ2 H → va_S (rA Γ) s.heap H locs → lv_has ls 4 [(3, .int (nI (5 * n))), (2, .ref mx), (1, .ref cx), (0, .ref b)] → cells2 ≤ cells + 130 ∧ slots2 ≤ slots + 16640 → W p l e room_1 s m #[Value.ref b] below meth c H locs cells2 slots2 (lw_Z below #[Value.ref b] s) (F0 m 579 ls [])) : W p l e room_1 s m #[Value.ref b] below meth c H locs cells slots (lw_Z below #[Value.ref b] s) (F0 m 523 ls []) := by
  have hx := F.1.1
  have hb := F.1.2.1
  have hts := F.1.2.2.2.2
  have hown := F.1.2.2.2.1
  refine lv_aload_n hx hb dL_law_523 rfl (lv_at hl 2 rfl) ?_
  refine lv_aload_n hx hb dL_law_524 rfl (lv_at hl 3 rfl) ?_
  refine lv_iload_n hx hb dL_law_525 rfl (lv_at hl 0 rfl) ?_
  refine lv_iconst (v := 1) hx hb dL_law_526 (by decide) ?_
  refine lv_iadd hx hb dL_law_527 ?_
  rw [show nI (5 * n) + 1 = nI (5 * n + 1) from nI_add (5 * n) 1]
  refine va_sld hx hb hX hbl hbA hS (vp_in_nI (by omega) (by omega)) dL_law_528 ?_
  rw [nI_clamp (show 5 * n + 1 < 2 ^ 31 by omega)]
  refine s_ci hS (k_runV F hR hS hl 1 [.int (xs (5 * n + 1))] (kX7_rejected l Γ cx (xs (5 * n + 1)) _ _ hw) gL_law_X7_rejected rfl rfl rfl (by decide +kernel) ⟨Nat.le_of_ble_eq_true rfl, Nat.le_of_ble_eq_true rfl⟩ (s_recv F hR hk8 (by decide) (C := RX7) (T := TX7) (N := 7) rfl) rfl (Nat.le_of_ble_eq_true rfl) dL_law_529 ⟨by show _ ≤ 600000; omega, by show _ ≤ 7302250; omega⟩) (fun r σ1 H locs hp hR hS => ?_)
  have hk9 := hp.1
  refine lv_aload_n hx hb dL_law_532 rfl (lv_at hl 1 rfl) ?_
  refine lv_aload_n hx hb dL_law_533 rfl (lv_at hl 3 rfl) ?_
  refine lv_iload_n hx hb dL_law_534 rfl (lv_at hl 0 rfl) ?_
  refine lv_iconst (v := 1) hx hb dL_law_535 (by decide) ?_
  refine lv_iadd hx hb dL_law_536 ?_
  rw [show nI (5 * n) + 1 = nI (5 * n + 1) from nI_add (5 * n) 1]
  refine va_sld hx hb hX hbl hbA hS (vp_in_nI (by omega) (by omega)) dL_law_537 ?_
  rw [nI_clamp (show 5 * n + 1 < 2 ^ 31 by omega)]
  refine s_ci hS (k_runV F hR hS hl 1 [.int (xs (5 * n + 1))] (kX8_rejected l Γ mx (xs (5 * n + 1)) _ _ hp.2) gL_law_X8_rejected rfl rfl rfl (by decide +kernel) ⟨Nat.le_of_ble_eq_true rfl, Nat.le_of_ble_eq_true rfl⟩ (s_recv F hR hk9 (by decide) (C := RX8) (T := TX8) (N := 46) rfl) rfl (Nat.le_of_ble_eq_true rfl) dL_law_538 ⟨by show _ ≤ 600000; omega, by show _ ≤ 7302250; omega⟩) (fun r' σ2 H locs hq hR hS => ?_)
  obtain ⟨hrr, hI⟩ := hq
  refine lv_icmp_eq (tgt := 579) hx hb dL_law_541 (by decide) (fun _ => ?_) (fun z => absurd hrr z)
  exact tail σ2 H locs ls _ _ hI hR hS hl ⟨by show _ ≤ _; omega, by show _ ≤ _; omega⟩
set_option maxHeartbeats 4000000 in
set_option maxRecDepth 100000 in
theorem law_walk_waiting {p : Program} {l : Launch} {e : Env} {s : State} {m : MethodId} {below : List Frame} {meth : Method} {c : Code} {Γ : rGam} {b L : Nat} {xs : Nat → Int32} (F : Fx Γ p s m meth c #[Value.ref b] cL_law 4 RL wsL_law ret) (hX : va_X b L xs s s.heap) (hbl : b < s.heap.size) (hbA : ¬ rA Γ b) {Inv : Nat → Nat → Nat → St → Prop} {cx mx n : Nat} {σ : St} {H : Heap} {locs : List Loc} {ls : Array Slot} {cells slots : Nat} (hn : 5 * n + 5 ≤ L) (hL : L ≤ 320) (hk8 : sK σ cx = 8) (hw : law_waiting cx mx (Inv cx mx (n + 1)) (xs (5 * n + 1)) (xs (5 * n + 2)) σ) (hR : Rep Γ σ H) (hS : va_S (rA Γ) s.heap H locs) (hl : lv_has ls 4 [(3, .int (nI (5 * n))), (2, .ref mx), (1, .ref cx), (0, .ref b)]) (hc : cells + 130 ≤ 600000 ∧ slots + 16640 ≤ 7302250) (tail : ∀ (σ2 : St) (H : Heap) (locs : List Loc) (ls : Array Slot) (cells2 slots2 : Nat), Inv cx mx (n + 1) σ2 → Rep Γ σ2 H → va_S (rA Γ) s.heap H locs → lv_has ls 4 [(3, .int (nI (5 * n))), (2, .ref mx), (1, .ref cx), (0, .ref b)] → cells2 ≤ cells + 130 ∧ slots2 ≤ slots + 16640 → W p l e room_1 s m #[Value.ref b] below meth c H locs cells2 slots2 (lw_Z below #[Value.ref b] s) (F0 m 579 ls [])) : W p l e room_1 s m #[Value.ref b] below meth c H locs cells slots (lw_Z below #[Value.ref b] s) (F0 m 546 ls []) := by
  have hx := F.1.1
  have hb := F.1.2.1
  have hts := F.1.2.2.2.2
  have hown := F.1.2.2.2.1
  refine lv_aload_n hx hb dL_law_546 rfl (lv_at hl 2 rfl) ?_
  refine lv_aload_n hx hb dL_law_547 rfl (lv_at hl 3 rfl) ?_
  refine lv_iload_n hx hb dL_law_548 rfl (lv_at hl 0 rfl) ?_
  refine lv_iconst (v := 1) hx hb dL_law_549 (by decide) ?_
  refine lv_iadd hx hb dL_law_550 ?_
  rw [show nI (5 * n) + 1 = nI (5 * n + 1) from nI_add (5 * n) 1]
  refine va_sld hx hb hX hbl hbA hS (vp_in_nI (by omega) (by omega)) dL_law_551 ?_
  rw [nI_clamp (show 5 * n + 1 < 2 ^ 31 by omega)]
  refine lv_aload_n hx hb dL_law_552 rfl (lv_at hl 3 rfl) ?_
  refine lv_iload_n hx hb dL_law_553 rfl (lv_at hl 0 rfl) ?_
  refine lv_iconst (v := 2) hx hb dL_law_554 (by decide) ?_
  refine lv_iadd hx hb dL_law_555 ?_
  rw [show nI (5 * n) + 2 = nI (5 * n + 2) from nI_add (5 * n) 2]
  refine va_sld hx hb hX hbl hbA hS (vp_in_nI (by omega) (by omega)) dL_law_556 ?_
  rw [nI_clamp (show 5 * n + 2 < 2 ^ 31 by omega)]
  refine s_ci hS (k_runV F hR hS hl 2 [.int (xs (5 * n + 1)), .int (xs (5 * n + 2))] (kX7_waiting l Γ cx (xs (5 * n + 1)) (xs (5 * n + 2)) _ _ hw) gL_law_X7_waiting rfl rfl rfl (by decide +kernel) ⟨Nat.le_of_ble_eq_true rfl, Nat.le_of_ble_eq_true rfl⟩ (s_recv F hR hk8 (by decide) (C := RX7) (T := TX7) (N := 7) rfl) rfl (Nat.le_of_ble_eq_true rfl) dL_law_557 ⟨by show _ ≤ 600000; omega, by show _ ≤ 7302250; omega⟩) (fun r σ1 H locs hp hR hS => ?_)
  have hk9 := hp.1
  refine lv_aload_n hx hb dL_law_560 rfl (lv_at hl 1 rfl) ?_
  refine lv_aload_n hx hb dL_law_561 rfl (lv_at hl 3 rfl) ?_
  refine lv_iload_n hx hb dL_law_562 rfl (lv_at hl 0 rfl) ?_
  refine lv_iconst (v := 1) hx hb dL_law_563 (by decide) ?_
  refine lv_iadd hx hb dL_law_564 ?_
  rw [show nI (5 * n) + 1 = nI (5 * n + 1) from nI_add (5 * n) 1]
  refine va_sld hx hb hX hbl hbA hS (vp_in_nI (by omega) (by omega)) dL_law_565 ?_
  rw [nI_clamp (show 5 * n + 1 < 2 ^ 31 by omega)]
  refine lv_aload_n hx hb dL_law_566 rfl (lv_at hl 3 rfl) ?_
  refine lv_iload_n hx hb dL_law_567 rfl (lv_at hl 0 rfl) ?_
  refine lv_iconst (v := 2) hx hb dL_law_568 (by decide) ?_
  refine lv_iadd hx hb dL_law_569 ?_
  rw [show nI (5 * n) + 2 = nI (5 * n + 2) from nI_add (5 * n) 2]
  refine va_sld hx hb hX hbl hbA hS (vp_in_nI (by omega) (by omega)) dL_law_570 ?_
  rw [nI_clamp (show 5 * n + 2 < 2 ^ 31 by omega)]
  refine s_ci hS (k_runV F hR hS hl 2 [.int (xs (5 * n + 1)), .int (xs (5 * n + 2))] (kX8_waiting l Γ mx (xs (5 * n + 1)) (xs (5 * n + 2)) _ _ hp.2) gL_law_X8_waiting rfl rfl rfl (by decide +kernel) ⟨Nat.le_of_ble_eq_true rfl, Nat.le_of_ble_eq_true rfl⟩ (s_recv F hR hk9 (by decide) (C := RX8) (T := TX8) (N := 46) rfl) rfl (Nat.le_of_ble_eq_true rfl) dL_law_571 ⟨by show _ ≤ 600000; omega, by show _ ≤ 7302250; omega⟩) (fun r' σ2 H locs hq hR hS => ?_)
  obtain ⟨hrr, hI⟩ := hq
  refine lv_icmp_eq (tgt := 579) hx hb dL_law_574 (by decide) (fun _ => ?_) (fun z => absurd hrr z)
  exact tail σ2 H locs ls _ _ hI hR hS hl ⟨by show _ ≤ _; omega, by show _ ≤ _; omega⟩
set_option maxHeartbeats 4000000 in
set_option maxRecDepth 100000 in
theorem law_loop {p : Program} {l : Launch} {e : Env} {s : State} {m : MethodId} {below : List Frame} {meth : Method} {c : Code} {Γ : rGam} {b L : Nat} {xs : Nat → Int32} (F : Fx Γ p s m meth c #[Value.ref b] cL_law 4 RL wsL_law ret) (hX : va_X b L xs s s.heap) (hbl : b < s.heap.size) (hbA : ¬ rA Γ b) {Inv : Nat → Nat → Nat → St → Prop} (hstep : ∀ cx mx n σ, n < 64 → Inv cx mx n σ → sK σ cx = 8 ∧ ∀ x1 x2 x3 x4, lawW cx mx (Inv cx mx (n + 1)) x1 x2 x3 x4 σ) (hL : L ≤ 320) (hΓ : Γ.2.1 = s.heap.size) {cx mx : Nat} : ∀ (d n : Nat) (σ : St) (H : Heap) (locs : List Loc) (ls : Array Slot) (cells slots : Nat), n + d = 65 → Inv cx mx n σ → Rep Γ σ H → va_S (rA Γ) s.heap H locs → lv_has ls 4 [(3, .int (nI (5 * n))), (2, .ref mx), (1, .ref cx), (0, .ref b)] → cells ≤ 60 + n * 130 ∧ slots ≤ 13752 + n * 16640 → 5 * n ≤ L + 4 → W p l e room_1 s m #[Value.ref b] below meth c H locs cells slots (lw_Z below #[Value.ref b] s) (F0 m 18 ls []) := by
  have hx := F.1.1
  have hb := F.1.2.1
  have hts := F.1.2.2.2.2
  have hown := F.1.2.2.2.1
  intro d
  induction d with
  | zero =>
    intro n σ H locs ls cells slots hnd hI hR hS hl hc hn5
    omega
  | succ d ih =>
    intro n σ H locs ls cells slots hnd hI hR hS hl hc hn5
    refine lv_iload_n hx hb dL_law_18 rfl (lv_at hl 0 rfl) ?_
    refine lv_aload_n hx hb dL_law_19 rfl (lv_at hl 3 rfl) ?_
    refine va_slen hx hb hX hbl hbA hS dL_law_20 ?_
    refine lv_iconst (v := 5) hx hb dL_law_21 (by decide) ?_
    refine lv_isub hx hb dL_law_22 ?_
    have hsub : (Int32.ofNat L - 5).toInt = (L : Int) - 5 := pk_sub_toInt (a := L) (b := 5) (by omega) (by omega)
    have hn31 : (nI (5 * n)).toInt = ((5 * n : Nat) : Int) := nI_toInt (by omega)
    refine lv_icmp_gt (tgt := 585) hx hb dL_law_23 (by decide) (fun _ => ?_) (fun z => ?_)
    · refine lv_iconst (v := 1) hx hb dL_law_585 (by decide) ?_
      refine va_forget (fun q hq => by rw [← hΓ]; exact hS.2.2 q hq) ?_
      refine W.widen (k := 600000) (n := 7302250) (by omega) (by omega) ?_
      exact lw_ret hx hb F.2.2.2 F.2.2.1 dL_law_586
    · rw [Int32.lt_iff_toInt_lt, hsub, hn31] at z
      have hn : 5 * n + 5 ≤ L := by omega
      obtain ⟨hk8, hW⟩ := hstep cx mx n σ (by omega) hI
      have tail : ∀ (σ2 : St) (H : Heap) (locs : List Loc) (ls : Array Slot) (cells2 slots2 : Nat), Inv cx mx (n + 1) σ2 → Rep Γ σ2 H → va_S (rA Γ) s.heap H locs → lv_has ls 4 [(3, .int (nI (5 * n))), (2, .ref mx), (1, .ref cx), (0, .ref b)] → cells2 ≤ cells + 130 ∧ slots2 ≤ slots + 16640 → W p l e room_1 s m #[Value.ref b] below meth c H locs cells2 slots2 (lw_Z below #[Value.ref b] s) (F0 m 579 ls []) := by
        intro σ2 H locs ls cells2 slots2 hI hR hS hl hc2
        refine lv_iinc (k := 0) (v := nI (5 * (n + 1))) (lv' := [(3, .int (nI (5 * (n + 1)))), (2, .ref mx), (1, .ref cx), (0, .ref b)]) hx hb dL_law_579 hl rfl (nI_add (5 * n) 5) (by decide) rfl (fun ls hl => ?_)
        refine lv_goto (tgt := 18) hx hb dL_law_582 (by decide) ?_
        exact ih (n + 1) σ2 H locs ls cells2 slots2 (by omega) hI hR hS hl ⟨by omega, by omega⟩ (by omega)
      refine lv_aload_n hx hb dL_law_26 rfl (lv_at hl 3 rfl) ?_
      refine lv_iload_n hx hb dL_law_27 rfl (lv_at hl 0 rfl) ?_
      refine va_sld hx hb hX hbl hbA hS (vp_in_nI (by omega) (by omega)) dL_law_28 ?_
      refine lv_bipush (v := 15) hx hb dL_law_29 (by decide) ?_
      refine lv_iand hx hb dL_law_31 ?_
      generalize xs (nI (5 * n)).toNatClampNeg &&& (15 : Int32) = kk
      have hWW := hW (xs (5 * n + 1)) (xs (5 * n + 2)) (xs (5 * n + 3)) (xs (5 * n + 4))
      obtain ⟨w0, w1, w2, w3, w4, w5, w6, w7, w8, w9, w10, w11, w12, w13, wD⟩ := hWW
      by_cases c0 : kk = 0
      · refine lv_tableIn (off := 72) (tgt := 104) hx hb dL_law_32 (by rw [c0]; decide) (by rw [c0]; decide) (by rw [c0]; decide) (by decide) ?_
        exact law_walk_join F hX hbl hbA hn hL hk8 w0 hR hS hl ⟨by omega, by omega⟩ tail
      have t0 : ¬ kk.toInt = 0 := lv_neT c0 (by decide)
      by_cases c1 : kk = 1
      · refine lv_tableIn (off := 95) (tgt := 127) hx hb dL_law_32 (by rw [c1]; decide) (by rw [c1]; decide) (by rw [c1]; decide) (by decide) ?_
        exact law_walk_open F hX hbl hbA hn hL hk8 w1 hR hS hl ⟨by omega, by omega⟩ tail
      have t1 : ¬ kk.toInt = 1 := lv_neT c1 (by decide)
      by_cases c2 : kk = 2
      · refine lv_tableIn (off := 138) (tgt := 170) hx hb dL_law_32 (by rw [c2]; decide) (by rw [c2]; decide) (by rw [c2]; decide) (by decide) ?_
        exact law_walk_shut F hX hbl hbA hn hL hk8 w2 hR hS hl ⟨by omega, by omega⟩ tail
      have t2 : ¬ kk.toInt = 2 := lv_neT c2 (by decide)
      by_cases c3 : kk = 3
      · refine lv_tableIn (off := 171) (tgt := 203) hx hb dL_law_32 (by rw [c3]; decide) (by rw [c3]; decide) (by rw [c3]; decide) (by decide) ?_
        exact law_walk_day F hX hbl hbA hn hL hk8 w3 hR hS hl ⟨by omega, by omega⟩ tail
      have t3 : ¬ kk.toInt = 3 := lv_neT c3 (by decide)
      by_cases c4 : kk = 4
      · refine lv_tableIn (off := 184) (tgt := 216) hx hb dL_law_32 (by rw [c4]; decide) (by rw [c4]; decide) (by rw [c4]; decide) (by decide) ?_
        exact law_walk_put F hX hbl hbA hn hL hk8 w4 hR hS hl ⟨by omega, by omega⟩ tail
      have t4 : ¬ kk.toInt = 4 := lv_neT c4 (by decide)
      by_cases c5 : kk = 5
      · refine lv_tableIn (off := 277) (tgt := 309) hx hb dL_law_32 (by rw [c5]; decide) (by rw [c5]; decide) (by rw [c5]; decide) (by decide) ?_
        exact law_walk_window F hX hbl hbA hn hL hk8 w5 hR hS hl ⟨by omega, by omega⟩ tail
      have t5 : ¬ kk.toInt = 5 := lv_neT c5 (by decide)
      by_cases c6 : kk = 6
      · refine lv_tableIn (off := 300) (tgt := 332) hx hb dL_law_32 (by rw [c6]; decide) (by rw [c6]; decide) (by rw [c6]; decide) (by decide) ?_
        exact law_walk_post F hX hbl hbA hn hL hk8 w6 hR hS hl ⟨by omega, by omega⟩ tail
      have t6 : ¬ kk.toInt = 6 := lv_neT c6 (by decide)
      by_cases c7 : kk = 7
      · refine lv_tableIn (off := 333) (tgt := 365) hx hb dL_law_32 (by rw [c7]; decide) (by rw [c7]; decide) (by rw [c7]; decide) (by decide) ?_
        exact law_walk_items F hX hbl hbA hn hL hk8 w7 hR hS hl ⟨by omega, by omega⟩ tail
      have t7 : ¬ kk.toInt = 7 := lv_neT c7 (by decide)
      by_cases c8 : kk = 8
      · refine lv_tableIn (off := 356) (tgt := 388) hx hb dL_law_32 (by rw [c8]; decide) (by rw [c8]; decide) (by rw [c8]; decide) (by decide) ?_
        exact law_walk_item F hX hbl hbA hn hL hk8 w8 hR hS hl ⟨by omega, by omega⟩ tail
      have t8 : ¬ kk.toInt = 8 := lv_neT c8 (by decide)
      by_cases c9 : kk = 9
      · refine lv_tableIn (off := 399) (tgt := 431) hx hb dL_law_32 (by rw [c9]; decide) (by rw [c9]; decide) (by rw [c9]; decide) (by decide) ?_
        exact law_walk_control F hX hbl hbA hn hL hk8 w9 hR hS hl ⟨by omega, by omega⟩ tail
      have t9 : ¬ kk.toInt = 9 := lv_neT c9 (by decide)
      by_cases c10 : kk = 10
      · refine lv_tableIn (off := 433) (tgt := 465) hx hb dL_law_32 (by rw [c10]; decide) (by rw [c10]; decide) (by rw [c10]; decide) (by decide) ?_
        exact law_walk_balance F hX hbl hbA hn hL hk8 w10 hR hS hl ⟨by omega, by omega⟩ tail
      have t10 : ¬ kk.toInt = 10 := lv_neT c10 (by decide)
      by_cases c11 : kk = 11
      · refine lv_tableIn (off := 467) (tgt := 499) hx hb dL_law_32 (by rw [c11]; decide) (by rw [c11]; decide) (by rw [c11]; decide) (by decide) ?_
        exact law_walk_ledger F hX hbl hbA hn hL hk8 w11 hR hS hl ⟨by omega, by omega⟩ tail
      have t11 : ¬ kk.toInt = 11 := lv_neT c11 (by decide)
      by_cases c12 : kk = 12
      · refine lv_tableIn (off := 491) (tgt := 523) hx hb dL_law_32 (by rw [c12]; decide) (by rw [c12]; decide) (by rw [c12]; decide) (by decide) ?_
        exact law_walk_rejected F hX hbl hbA hn hL hk8 w12 hR hS hl ⟨by omega, by omega⟩ tail
      have t12 : ¬ kk.toInt = 12 := lv_neT c12 (by decide)
      by_cases c13 : kk = 13
      · refine lv_tableIn (off := 514) (tgt := 546) hx hb dL_law_32 (by rw [c13]; decide) (by rw [c13]; decide) (by rw [c13]; decide) (by decide) ?_
        exact law_walk_waiting F hX hbl hbA hn hL hk8 w13 hR hS hl ⟨by omega, by omega⟩ tail
      have t13 : ¬ kk.toInt = 13 := lv_neT c13 (by decide)
      exact lv_tableOut (tgt := 579) hx hb dL_law_32 (by omega) (by decide) (tail σ H locs ls cells slots wD hR hS hl ⟨by omega, by omega⟩)
set_option maxHeartbeats 4000000 in
set_option maxRecDepth 100000 in
theorem law_begin {p : Program} {l : Launch} {e : Env} {s : State} {m : MethodId} {below : List Frame} {meth : Method} {c : Code} {Γ : rGam} {b L : Nat} {xs : Nat → Int32} (F : Fx Γ p s m meth c #[Value.ref b] cL_law 4 RL wsL_law ret) (hX : va_X b L xs s s.heap) (hbl : b < s.heap.size) (hbA : ¬ rA Γ b) {Inv : Nat → Nat → Nat → St → Prop} (hinit : ∀ q, wX7_init q (fun σ1 => ∀ q', sK σ1 q' = 0 → wX8_init q' (Inv q q' 0) (uN σ1 q' 9)) (uN sZ q 8)) (hstep : ∀ cx mx n σ, n < 64 → Inv cx mx n σ → sK σ cx = 8 ∧ ∀ x1 x2 x3 x4, lawW cx mx (Inv cx mx (n + 1)) x1 x2 x3 x4 σ) (hL : L ≤ 320) (hΓ : Γ.2.1 = s.heap.size) (hR : Rep Γ sZ s.heap) : W p l e room_1 s m #[Value.ref b] below meth c s.heap [] 0 0 (lw_Z below #[Value.ref b] s) (entryFrame m ([Value.ref b] : List Value).toArray 4) := by
  have hx := F.1.1
  have hb := F.1.2.1
  have hts := F.1.2.2.2.2
  have hown := F.1.2.2.2.1
  have hS : va_S (rA Γ) s.heap s.heap [] := va_S.rf
  have hl := lv_entry ([.ref b]) (n := 4) (Nat.le_of_ble_eq_true rfl)
  rw [lg_entry_eq]
  generalize (lg_sl ([.ref b]) ++ List.replicate (4 - (lg_sl ([.ref b])).length) Slot.unset).toArray = ls at hl ⊢
  have hl : lv_has ls 4 [(0, .ref b)] := hl
  refine s_new F hR hS 8 (by decide) (C := RX7) (T := TX7) (N := 7) rfl inlX7 tyX7 tyX7_ok rdf_8 (hts _ (by decide +kernel : Cond.classLink RL 7 RX7 ∈ wsL_law) |> fun _ => (by decide +kernel : Cond.classLink RL 7 RX7 ∈ wsL_law)) (by decide +kernel) (by decide +kernel) (Nat.le_of_ble_eq_true rfl) (Nat.le_of_ble_eq_true rfl) dL_law_0 (fun q hq σ1 e1 H hR hS => ?_)
  subst e1
  refine lv_dup hx hb dL_law_3 rfl ?_
  refine s_cv hS (k_runI F hR hS hl 0 [] (kX7_init l Γ q _ _ (hinit q)) gL_law_X7_init rfl rfl rfl (by decide +kernel) (by decide +kernel) (by decide +kernel) rfl (by decide +kernel) ⟨Nat.le_of_ble_eq_true rfl, Nat.le_of_ble_eq_true rfl⟩ rfl (Nat.le_of_ble_eq_true rfl) dL_law_4 ⟨Nat.le_of_ble_eq_true rfl, Nat.le_of_ble_eq_true rfl⟩) (fun σ1 H locs h1 hR hS => ?_)
  refine s_astore_n (r := some q) (lk := [(0, .ref b)]) (lv' := [(1, .ref q), (0, .ref b)]) hx hb dL_law_7 rfl hl (by decide) rfl (lk_1 rfl) rfl (fun ls hl => ?_)
  refine s_new F hR hS 9 (by decide) (C := RX8) (T := TX8) (N := 46) rfl inlX8 tyX8 tyX8_ok rdf_9 (by decide +kernel : Cond.classLink RL 10 RX8 ∈ wsL_law) (by decide +kernel) (by decide +kernel) (Nat.le_of_ble_eq_true rfl) (Nat.le_of_ble_eq_true rfl) dL_law_8 (fun q' hq' σ2 e2 H hR hS => ?_)
  subst e2
  refine lv_dup hx hb dL_law_11 rfl ?_
  refine s_cv hS (k_runI F hR hS hl 0 [] (kX8_init l Γ q' _ _ (h1 q' hq')) gL_law_X8_init rfl rfl rfl (by decide +kernel) (by decide +kernel) (by decide +kernel) rfl (by decide +kernel) ⟨Nat.le_of_ble_eq_true rfl, Nat.le_of_ble_eq_true rfl⟩ rfl (Nat.le_of_ble_eq_true rfl) dL_law_12 ⟨Nat.le_of_ble_eq_true rfl, Nat.le_of_ble_eq_true rfl⟩) (fun σ2 H locs h2 hR hS => ?_)
  refine s_astore_n (r := some q') (lk := [(1, .ref q)]) (lv' := [(2, .ref q'), (1, .ref q), (0, .ref b)]) hx hb dL_law_15 rfl hl (by decide) rfl (lk_1 rfl) rfl (fun ls hl => ?_)
  refine lv_iconst (v := 0) hx hb dL_law_16 (by decide) ?_
  refine s_istore_n (lk := [(2, .ref q')]) (lv' := [(3, .int 0), (2, .ref q'), (1, .ref q), (0, .ref b)]) hx hb dL_law_17 rfl hl (by decide) rfl (lk_1 rfl) rfl (fun ls hl => ?_)
  exact law_loop F hX hbl hbA hstep hL hΓ 65 0 σ2 H locs ls _ _ rfl h2 hR hS hl ⟨Nat.le_of_ble_eq_true rfl, Nat.le_of_ble_eq_true rfl⟩ (by omega)
theorem pr_arr {ty : FieldType} {args : Array Value} {s : State} (hty : ∀ C, ty ≠ .object C) (h : (Cond.arrayClass ty).before args s = true) : ∃ cA : ClassId, ArrOfT s cA ty ∧ va_RA s cA ty := by
  obtain ⟨cA, kA, comp, h1, h2, h3⟩ := Cond.arrayClass_spec h
  refine ⟨cA, fun n z => ⟨fun k h => (by cases h), kA, h2, comp, h3⟩, ?_⟩
  cases ty with
  | object C => exact absurd rfl (hty C)
  | _ => exact h1
theorem pr_arrO {C : String} {args : Array Value} {s : State} (h : (Cond.arrayOver (.object C)).before args s = true) : ∃ cA : ClassId, ArrOfT s cA (.object C) ∧ va_RA s cA (.object C) := by
  obtain ⟨comp, cA, kA, h1, h2, h3, h4, h5⟩ := Cond.arrayOver_spec h
  exact ⟨cA, fun n z => ⟨fun k h => (by cases h), kA, h3, comp, h4⟩, kA, comp, h3, h4, h1, h5⟩
set_option maxHeartbeats 4000000 in
set_option maxRecDepth 100000 in
theorem law_env {p : Program} {s : State} {m : MethodId} {meth : Method} {c : Code} {b L : Nat} {xs : Nat → Int32} (C0 : lw_At p s m meth c b L xs) : ∃ Γ : rGam, Γ.2.1 = s.heap.size ∧ rEv Γ vwCl s := by
  obtain ⟨hx, hb, hr, hml, hown, hts, hX, hbl, hlocks, hgv⟩ := id C0
  have hg := flat_of_before _ hgv
  have hA : ∀ a : Nat, a < s.heap.size → ¬ (fun q : Nat => s.heap.size ≤ q) a := fun a h => Nat.not_le.mpr h
  obtain ⟨c0, i0, hKn0⟩ := u_known (C := RJx4a65c) (T := TJx4a65c) (N := 3) (n := 3) hts inLtJx4a65c (hts _ (wsL_law_in _ (by decide +kernel : Cond.instantiable RJx4a65c 3 ∈ wsL_law)))
  obtain ⟨c1, i1, hKn1⟩ := u_known (C := RX0) (T := TX0) (N := 4) (n := 4) hts inLtX0 (hts _ (wsL_law_in _ (by decide +kernel : Cond.instantiable RX0 4 ∈ wsL_law)))
  obtain ⟨c2, i2, hKn2⟩ := u_known (C := RX1) (T := TX1) (N := 6) (n := 6) hts inLtX1 (hts _ (wsL_law_in _ (by decide +kernel : Cond.instantiable RX1 6 ∈ wsL_law)))
  obtain ⟨c3, i3, hKn3⟩ := u_known (C := RX2) (T := TX2) (N := 9) (n := 9) hts inLtX2 (hts _ (wsL_law_in _ (by decide +kernel : Cond.instantiable RX2 9 ∈ wsL_law)))
  obtain ⟨c4, i4, hKn4⟩ := u_known (C := RX3) (T := TX3) (N := 9) (n := 9) hts inLtX3 (hts _ (wsL_law_in _ (by decide +kernel : Cond.instantiable RX3 9 ∈ wsL_law)))
  obtain ⟨c5, i5, hKn5⟩ := u_known (C := RX4) (T := TX4) (N := 8) (n := 8) hts inLtX4 (hts _ (wsL_law_in _ (by decide +kernel : Cond.instantiable RX4 8 ∈ wsL_law)))
  obtain ⟨c6, i6, hKn6⟩ := u_known (C := RX5) (T := TX5) (N := 4) (n := 4) hts inLtX5 (hts _ (wsL_law_in _ (by decide +kernel : Cond.instantiable RX5 4 ∈ wsL_law)))
  obtain ⟨c7, i7, hKn7⟩ := u_known (C := RX6) (T := TX6) (N := 4) (n := 4) hts inLtX6 (hts _ (wsL_law_in _ (by decide +kernel : Cond.instantiable RX6 4 ∈ wsL_law)))
  obtain ⟨c8, i8, hKn8⟩ := u_known (C := RX7) (T := TX7) (N := 7) (n := 7) hts inLtX7 (hts _ (wsL_law_in _ (by decide +kernel : Cond.instantiable RX7 7 ∈ wsL_law)))
  obtain ⟨c9, i9, hKn9⟩ := u_known (C := RX8) (T := TX8) (N := 46) (n := 46) hts inLtX8 (hts _ (wsL_law_in _ (by decide +kernel : Cond.instantiable RX8 46 ∈ wsL_law)))
  obtain ⟨dC, dI, hKc⟩ : ∃ (dC : Nat → ClassId) (dI : Nat → Nat → Nat), ∀ (k : Nat) (q : vw_C), vwCl[k]? = some q → u_Kn s q.1 q.2.1 q.2.2 (dC k) (dI k) := by
    refine ⟨fun k => if k = 0 then c0 else if k = 1 then c1 else if k = 2 then c2 else if k = 3 then c3 else if k = 4 then c4 else if k = 5 then c5 else if k = 6 then c6 else if k = 7 then c7 else if k = 8 then c8 else c9, fun k => if k = 0 then i0 else if k = 1 then i1 else if k = 2 then i2 else if k = 3 then i3 else if k = 4 then i4 else if k = 5 then i5 else if k = 6 then i6 else if k = 7 then i7 else if k = 8 then i8 else i9, ?_⟩
    intro k q hq
    match k, hq with
    | 0, hq => cases hq; exact hKn0
    | 1, hq => cases hq; exact hKn1
    | 2, hq => cases hq; exact hKn2
    | 3, hq => cases hq; exact hKn3
    | 4, hq => cases hq; exact hKn4
    | 5, hq => cases hq; exact hKn5
    | 6, hq => cases hq; exact hKn6
    | 7, hq => cases hq; exact hKn7
    | 8, hq => cases hq; exact hKn8
    | 9, hq => cases hq; exact hKn9
    | k + 10, hq => simp at hq
  obtain ⟨a0, ha0⟩ := pr_arr (ty := .int) (fun _ h => by cases h) (hts _ (wsL_law_in _ (by decide +kernel : Cond.arrayClass .int ∈ wsL_law)))
  obtain ⟨a1, ha1⟩ := pr_arr (ty := .long) (fun _ h => by cases h) (hts _ (wsL_law_in _ (by decide +kernel : Cond.arrayClass .long ∈ wsL_law)))
  obtain ⟨a2, ha2⟩ := pr_arr (ty := .boolean) (fun _ h => by cases h) (hts _ (wsL_law_in _ (by decide +kernel : Cond.arrayClass .boolean ∈ wsL_law)))
  have hO3 : (Cond.arrayOver (.object "ClearingFiles$Batch")).before #[Value.ref b] s = true := hts _ (by decide +kernel)
  have hO4 : (Cond.arrayOver (.object "java/lang/Object")).before #[Value.ref b] s = true := hts _ (by decide +kernel)
  obtain ⟨a3, ha3⟩ := pr_arrO hO3
  obtain ⟨a4, ha4⟩ := pr_arrO hO4
  obtain ⟨t0, e0, hT0⟩ := va_Tof (N := 0) (f := fun _ => .null) (A := fun q : Nat => s.heap.size ≤ q) (by decide) (hg (.arrayOf (.static "java/util/ArrayList" "DEFAULTCAPACITY_EMPTY_ELEMENTDATA" "[Ljava/lang/Object;") (.object "java/lang/Object")) (by decide +kernel)) (va_eqt (hg (.eq (.length (.static "java/util/ArrayList" "DEFAULTCAPACITY_EMPTY_ELEMENTDATA" "[Ljava/lang/Object;")) (.int 0)) (by decide +kernel))) (fun j hj => absurd hj (Nat.not_lt_zero j)) hA
  obtain ⟨t1, e1, hT1⟩ := va_Tof (N := 3) (f := rWt) (A := fun q : Nat => s.heap.size ≤ q) (by decide) (hg (.arrayOf (.static "ClearingFiles" "WEIGHTS" "[I") .int) (by decide +kernel)) (va_eqt (hg (.eq (.length (.static "ClearingFiles" "WEIGHTS" "[I")) (.int 3)) (by decide +kernel))) (fun j hj => by
    match j, hj with
    | 0, _ => exact va_eqt (hg (.eq (.elem (.static "ClearingFiles" "WEIGHTS" "[I") (.int 0)) (.int 3)) (by decide +kernel))
    | 1, _ => exact va_eqt (hg (.eq (.elem (.static "ClearingFiles" "WEIGHTS" "[I") (.int 1)) (.int 7)) (by decide +kernel))
    | 2, _ => exact va_eqt (hg (.eq (.elem (.static "ClearingFiles" "WEIGHTS" "[I") (.int 2)) (.int 1)) (by decide +kernel))
    | j + 3, h => omega) hA
  obtain ⟨mi, hMi⟩ := va_Mi.of (C := "[Ljava/lang/Object;") (hg (.isRef (.mirror "[Ljava/lang/Object;")) (by decide +kernel))
  have hZ0 := va_Zof (A := fun q : Nat => s.heap.size ≤ q) (hts (.laysStatic "java/util/ArrayList" "DEFAULTCAPACITY_EMPTY_ELEMENTDATA" "[Ljava/lang/Object;") (by decide +kernel)) (hts (.initialized "java/util/ArrayList") (by decide +kernel)) e0 hA
  have hZ1 := va_Zof (A := fun q : Nat => s.heap.size ≤ q) (hts (.laysStatic "ClearingFiles" "WEIGHTS" "[I") (by decide +kernel)) (hts (.initialized "ClearingFiles") (by decide +kernel)) e1 hA
  refine ⟨((dC, dI), s.heap.size, fun k => if k = 0 then a0 else if k = 1 then a1 else if k = 2 then a2 else if k = 3 then a3 else a4, fun k => if k = 0 then t0 else if k = 1 then t1 else mi), rfl, ⟨hKc, fun k q hq => ?_⟩, Nat.le_refl _, hZ0, hT0, hZ1, hT1, hMi, va_Dc.of (hts (.declares ⟨"java/lang/Object", "getClass", "()Ljava/lang/Class;"⟩) (by decide +kernel)), va_AO.of hO4, va_AO.of hO3, va_Nw.of rfl (hts (.castable "ClearingFiles$Bank" "java/lang/Object") (by decide +kernel)), va_Nw.of rfl (hts (.castable "ClearingFiles$Account" "java/lang/Object") (by decide +kernel)), va_Nw.of rfl (hts (.castable "ClearingFiles$Entry" "java/lang/Object") (by decide +kernel)), va_Nw.of rfl (hts (.castable "[Ljava/lang/Object;" "java/lang/Object") (by decide +kernel)), fun q hq => ?_⟩
  · match k, hq with
    | 0, hq => cases hq; exact ha0
    | 1, hq => cases hq; exact ha1
    | 2, hq => cases hq; exact ha2
    | 3, hq => cases hq; exact ha3
    | 4, hq => cases hq; exact ha4
    | k + 5, hq => simp at hq
  · rcases List.mem_cons.mp hq with rfl | hq
    · exact va_Nw.of rfl (hts (.methodLinkNest RX1 21 yX5_init "ClearingFiles") (by decide +kernel))
    rcases List.mem_cons.mp hq with rfl | hq
    · exact va_Nw.of rfl (hts (.methodLinkNest RX2 18 yX6_init "ClearingFiles") (by decide +kernel))
    rcases List.mem_cons.mp hq with rfl | hq
    · exact va_Nw.of rfl (hts (.methodLinkNest RX4 19 yX6_init "ClearingFiles") (by decide +kernel))
    rcases List.mem_cons.mp hq with rfl | hq
    · exact va_Nw.of rfl (hts (.methodLinkNest RX4 24 yX2_init "ClearingFiles") (by decide +kernel))
    rcases List.mem_cons.mp hq with rfl | hq
    · exact va_Nw.of rfl (hts (.methodLinkNest RX5 18 yX6_init "ClearingFiles") (by decide +kernel))
    rcases List.mem_cons.mp hq with rfl | hq
    · exact va_Nw.of rfl (hts (.methodLinkNest RX7 253 yX3_init "ClearingFiles") (by decide +kernel))
    · exact absurd hq List.not_mem_nil
theorem Rep_start {Γ : rGam} {H : Heap} : Rep Γ sZ H := by
  refine ⟨(fun _ => 0, fun _ => 0, fun _ => 0, fun _ => 0), ⟨fun a h => ?_, fun a b h => ?_⟩, [], fun k q h => by simp at h, ⟨fun i j p q h => by simp at h, fun k q h => by simp at h⟩, fun a e h => ?_⟩
  · exact absurd h.1 (by show ¬ 20 ≤ 0; omega)
  · exact absurd h (by show ¬ 0 = a + 1; omega)
  · simp [rGs, sK, sZ] at h
/-- THE LAW, from its entry, over an invariant that begins and is kept -/
theorem law_whole {p : Program} {e : Env} {s : State} {m : MethodId} {below : List Frame} {meth : Method} {c : Code} (l : Launch) {b L : Nat} {xs : Nat → Int32} {Inv : Nat → Nat → Nat → St → Prop} (hinit : ∀ q, wX7_init q (fun σ1 => ∀ q', sK σ1 q' = 0 → wX8_init q' (Inv q q' 0) (uN σ1 q' 9)) (uN sZ q 8)) (hstep : ∀ cx mx n σ, n < 64 → Inv cx mx n σ → sK σ cx = 8 ∧ ∀ x1 x2 x3 x4, lawW cx mx (Inv cx mx (n + 1)) x1 x2 x3 x4 σ) (hL : L ≤ 320) (C0 : lw_At p s m meth c b L xs) : W p l e room_1 s m #[Value.ref b] below meth c s.heap [] 0 0 (lw_Z below #[Value.ref b] s) (entryFrame m ([Value.ref b] : List Value).toArray 4) := by
  obtain ⟨Γ, hΓ, hE⟩ := law_env C0
  obtain ⟨hx, hb, hr, hml, hown, hts, hX, hbl, hlocks, hgv⟩ := id C0
  exact law_begin ⟨⟨hx, hb, hml, hown, fun w h => hts w (wsL_law_in w h)⟩, hE, hlocks, hr⟩ hX hbl (by show ¬ Γ.2.1 ≤ b; omega) hinit hstep hL hΓ Rep_start
