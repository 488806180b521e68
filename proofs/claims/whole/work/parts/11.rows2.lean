theorem va_cat (r : Option Nat) : (va_rf r).category = 1 := by cases r <;> rfl
theorem ls_keep {ls : Array Slot} {nL i : Nat} {v : Value} {lv lv' lk : List (Nat × Value)} (hk : lv.filter (fun q => q.1 + 1 == i) = lk) (hw : ∀ q ∈ lk, q.2.category = 1) (hl : (i, v) :: lv.filter (fun q => !(q.1 == i)) = lv') (h : lv_has ls nL ((i, v) :: lv.filter (fun q => !(q.1 == i) && !(q.1 + 1 == i && q.2.category == 2)))) : lv_has ls nL lv' := by
  subst hl
  refine ⟨h.1, h.2.1, fun q hq => h.2.2 q ?_⟩
  rcases List.mem_cons.mp hq with rfl | hq
  · exact List.mem_cons_self
  · obtain ⟨hq1, hq2⟩ := List.mem_filter.mp hq
    refine List.mem_cons_of_mem _ (List.mem_filter.mpr ⟨hq1, ?_⟩)
    by_cases hi : q.1 + 1 = i
    · have h1 : q ∈ lk := by rw [← hk]; exact List.mem_filter.mpr ⟨hq1, by simp [hi]⟩
      simp only [hq2, hw q h1, Bool.true_and]
      simp
    · simp only [hq2, Bool.true_and]
      simp [hi]
theorem ls_keep2 {ls : Array Slot} {nL i : Nat} {v : Value} {lv lv' lk : List (Nat × Value)} (hk : lv.filter (fun q => q.1 + 1 == i) = lk) (hw : ∀ q ∈ lk, q.2.category = 1) (hl : (i, v) :: lv.filter (fun q => !(q.1 == i) && !(q.1 == i + 1)) = lv') (h : lv_has ls nL ((i, v) :: lv.filter (fun q => !(q.1 == i) && (!(q.1 == i + 1) && !(q.1 + 1 == i && q.2.category == 2))))) : lv_has ls nL lv' := by
  subst hl
  refine ⟨h.1, h.2.1, fun q hq => h.2.2 q ?_⟩
  rcases List.mem_cons.mp hq with rfl | hq
  · exact List.mem_cons_self
  · obtain ⟨hq1, hq2⟩ := List.mem_filter.mp hq
    refine List.mem_cons_of_mem _ (List.mem_filter.mpr ⟨hq1, ?_⟩)
    rw [← Bool.and_assoc, hq2, Bool.true_and]
    by_cases hi : q.1 + 1 = i
    · have h1 : q ∈ lk := by rw [← hk]; exact List.mem_filter.mpr ⟨hq1, by simp [hi]⟩
      simp [hw q h1]
    · simp [hi]
theorem lk_0 : ∀ q ∈ ([] : List (Nat × Value)), q.2.category = 1 := fun _ h => absurd h List.not_mem_nil
theorem lk_r {i : Nat} {r : Option Nat} : ∀ q ∈ [(i, va_rf r)], q.2.category = 1 := fun q h => by rw [List.mem_singleton.mp h]; exact va_cat r
theorem lk_1 {i : Nat} {v : Value} (h0 : v.category = 1) : ∀ q ∈ [(i, v)], q.2.category = 1 := fun q h => by rw [List.mem_singleton.mp h]; exact h0
section RT
variable {p : Program} {l : Launch} {e : Env} {R : Room} {s : State} {m : MethodId} {args : Array Value} {below : List Frame} {meth : Method} {c : Code} {H : Heap} {locs : List Loc} {cells slots : Nat} {Q : State → Prop}
variable {cc : ByteArray} {nL : Nat} {own : String} {ws : List Cond} {rt : Option FieldType} {pc : Nat} {ls : Array Slot} {rest : List Value} {Γ : rGam} {σ : St} {a : Nat}
theorem s_aload_n (hexec : p.tables.exec = Jvm.exec) (hb : c.code = cc) {k : Fin 4} {i : Nat} {r : Option Nat} (hdg : decode cc pc = .ok (.aload_n k, 1)) (hi : (k : Nat) = i) (hl : ls[i]? = some (.val (va_rf r)))
    (kk : W p l e R s m args below meth c H locs cells slots Q (F0 m (pc + 1) ls (va_rf r :: rest))) : W p l e R s m args below meth c H locs cells slots Q (F0 m pc ls rest) := by
  cases r with
  | none => exact lv_aload_nN hexec hb hdg hi hl kk
  | some x => exact lv_aload_n hexec hb hdg hi hl kk
theorem s_aload (hexec : p.tables.exec = Jvm.exec) (hb : c.code = cc) {i : Nat} {r : Option Nat} (hdg : decode cc pc = .ok (.aload i, 2)) (hl : ls[i]? = some (.val (va_rf r)))
    (kk : W p l e R s m args below meth c H locs cells slots Q (F0 m (pc + 2) ls (va_rf r :: rest))) : W p l e R s m args below meth c H locs cells slots Q (F0 m pc ls rest) := by
  cases r with
  | none => exact lv_aloadN hexec hb hdg hl kk
  | some x => exact lv_aload hexec hb hdg hl kk
theorem s_istore_n (hexec : p.tables.exec = Jvm.exec) (hb : c.code = cc) {k : Fin 4} {i : Nat} {x : Int32} {lv lv' lk : List (Nat × Value)} (hdg : decode cc pc = .ok (.istore_n k, 1)) (hi : (k : Nat) = i) (h : lv_has ls nL lv) (hn : i < nL) (hk : lv.filter (fun q => q.1 + 1 == i) = lk) (hw : ∀ q ∈ lk, q.2.category = 1) (hl : (i, Value.int x) :: lv.filter (fun q => !(q.1 == i)) = lv')
    (kk : ∀ ls' : Array Slot, lv_has ls' nL lv' → W p l e R s m args below meth c H locs cells slots Q (F0 m (pc + 1) ls' rest)) : W p l e R s m args below meth c H locs cells slots Q (F0 m pc ls (.int x :: rest)) :=
  lv_istore_n hexec hb hdg hi h hn rfl fun ls' h' => kk ls' (ls_keep hk hw hl h')
theorem s_istore (hexec : p.tables.exec = Jvm.exec) (hb : c.code = cc) {i : Nat} {x : Int32} {lv lv' lk : List (Nat × Value)} (hdg : decode cc pc = .ok (.istore i, 2)) (h : lv_has ls nL lv) (hn : i < nL) (hk : lv.filter (fun q => q.1 + 1 == i) = lk) (hw : ∀ q ∈ lk, q.2.category = 1) (hl : (i, Value.int x) :: lv.filter (fun q => !(q.1 == i)) = lv')
    (kk : ∀ ls' : Array Slot, lv_has ls' nL lv' → W p l e R s m args below meth c H locs cells slots Q (F0 m (pc + 2) ls' rest)) : W p l e R s m args below meth c H locs cells slots Q (F0 m pc ls (.int x :: rest)) :=
  lv_istore hexec hb hdg h hn rfl fun ls' h' => kk ls' (ls_keep hk hw hl h')
theorem s_astore_n (hexec : p.tables.exec = Jvm.exec) (hb : c.code = cc) {k : Fin 4} {i : Nat} {r : Option Nat} {lv lv' lk : List (Nat × Value)} (hdg : decode cc pc = .ok (.astore_n k, 1)) (hi : (k : Nat) = i) (h : lv_has ls nL lv) (hn : i < nL) (hk : lv.filter (fun q => q.1 + 1 == i) = lk) (hw : ∀ q ∈ lk, q.2.category = 1) (hl : (i, va_rf r) :: lv.filter (fun q => !(q.1 == i)) = lv')
    (kk : ∀ ls' : Array Slot, lv_has ls' nL lv' → W p l e R s m args below meth c H locs cells slots Q (F0 m (pc + 1) ls' rest)) : W p l e R s m args below meth c H locs cells slots Q (F0 m pc ls (va_rf r :: rest)) := by
  cases r with
  | none => exact lv_astore_nN hexec hb hdg hi h hn rfl fun ls' h' => kk ls' (ls_keep hk hw hl h')
  | some x => exact lv_astore_n hexec hb hdg hi h hn rfl fun ls' h' => kk ls' (ls_keep hk hw hl h')
theorem s_astore (hexec : p.tables.exec = Jvm.exec) (hb : c.code = cc) {i : Nat} {r : Option Nat} {lv lv' lk : List (Nat × Value)} (hdg : decode cc pc = .ok (.astore i, 2)) (h : lv_has ls nL lv) (hn : i < nL) (hk : lv.filter (fun q => q.1 + 1 == i) = lk) (hw : ∀ q ∈ lk, q.2.category = 1) (hl : (i, va_rf r) :: lv.filter (fun q => !(q.1 == i)) = lv')
    (kk : ∀ ls' : Array Slot, lv_has ls' nL lv' → W p l e R s m args below meth c H locs cells slots Q (F0 m (pc + 2) ls' rest)) : W p l e R s m args below meth c H locs cells slots Q (F0 m pc ls (va_rf r :: rest)) := by
  cases r with
  | none => exact lv_astoreN hexec hb hdg h hn rfl fun ls' h' => kk ls' (ls_keep hk hw hl h')
  | some x => exact lv_astore hexec hb hdg h hn rfl fun ls' h' => kk ls' (ls_keep hk hw hl h')
theorem s_lstore_n (hexec : p.tables.exec = Jvm.exec) (hb : c.code = cc) {k : Fin 4} {i : Nat} {x : Int64} {lv lv' lk : List (Nat × Value)} (hdg : decode cc pc = .ok (.lstore_n k, 1)) (hi : (k : Nat) = i) (h : lv_has ls nL lv) (hn : i + 1 < nL) (hk : lv.filter (fun q => q.1 + 1 == i) = lk) (hw : ∀ q ∈ lk, q.2.category = 1) (hl : (i, Value.long x) :: lv.filter (fun q => !(q.1 == i) && !(q.1 == i + 1)) = lv')
    (kk : ∀ ls' : Array Slot, lv_has ls' nL lv' → W p l e R s m args below meth c H locs cells slots Q (F0 m (pc + 1) ls' rest)) : W p l e R s m args below meth c H locs cells slots Q (F0 m pc ls (.long x :: rest)) :=
  lv_lstore_n hexec hb hdg hi h hn rfl fun ls' h' => kk ls' (ls_keep2 hk hw hl h')
theorem s_lstore (hexec : p.tables.exec = Jvm.exec) (hb : c.code = cc) {i : Nat} {x : Int64} {lv lv' lk : List (Nat × Value)} (hdg : decode cc pc = .ok (.lstore i, 2)) (h : lv_has ls nL lv) (hn : i + 1 < nL) (hk : lv.filter (fun q => q.1 + 1 == i) = lk) (hw : ∀ q ∈ lk, q.2.category = 1) (hl : (i, Value.long x) :: lv.filter (fun q => !(q.1 == i) && !(q.1 == i + 1)) = lv')
    (kk : ∀ ls' : Array Slot, lv_has ls' nL lv' → W p l e R s m args below meth c H locs cells slots Q (F0 m (pc + 2) ls' rest)) : W p l e R s m args below meth c H locs cells slots Q (F0 m pc ls (.long x :: rest)) :=
  lv_lstore hexec hb hdg h hn rfl fun ls' h' => kk ls' (ls_keep2 hk hw hl h')
theorem s_iinc (hexec : p.tables.exec = Jvm.exec) (hb : c.code = cc) {i k : Nat} {n : Int} {x d : Int32} {lv lv' lk : List (Nat × Value)} (hdg : decode cc pc = .ok (.iinc i n, 3)) (h : lv_has ls nL lv) (hkk : lv[k]? = some (i, .int x)) (hd : Int32.ofInt n = d) (hn : i < nL) (hk : lv.filter (fun q => q.1 + 1 == i) = lk) (hw : ∀ q ∈ lk, q.2.category = 1) {v : Int32} (ev : v = x + d) (hl : (i, Value.int v) :: lv.filter (fun q => !(q.1 == i)) = lv')
    (kk : ∀ ls' : Array Slot, lv_has ls' nL lv' → W p l e R s m args below meth c H locs cells slots Q (F0 m (pc + 3) ls' rest)) : W p l e R s m args below meth c H locs cells slots Q (F0 m pc ls rest) :=
  lv_iinc (v := v) hexec hb hdg h hkk (by rw [hd, ev]) hn rfl fun ls' h' => kk ls' (ls_keep hk hw hl h')
theorem s_ifnull (hexec : p.tables.exec = Jvm.exec) (hb : c.code = cc) {r : Option Nat} {off : Int} {tgt : Nat} (hdg : decode cc pc = .ok (.ifnull off, 3)) (ht : (pc : Int) + off = (tgt : Int))
    (kt : r = none → W p l e R s m args below meth c H locs cells slots Q (F0 m tgt ls rest)) (kf : ¬ r = none → W p l e R s m args below meth c H locs cells slots Q (F0 m (pc + 3) ls rest)) : W p l e R s m args below meth c H locs cells slots Q (F0 m pc ls (va_rf r :: rest)) := by
  cases r with
  | none => exact lv_ifnullN hexec hb hdg ht (kt rfl)
  | some x => exact lv_ifnull hexec hb hdg (kf (by simp))
theorem s_ifnonnull (hexec : p.tables.exec = Jvm.exec) (hb : c.code = cc) {r : Option Nat} {off : Int} {tgt : Nat} (hdg : decode cc pc = .ok (.ifnonnull off, 3)) (ht : (pc : Int) + off = (tgt : Int))
    (kt : ¬ r = none → W p l e R s m args below meth c H locs cells slots Q (F0 m tgt ls rest)) (kf : r = none → W p l e R s m args below meth c H locs cells slots Q (F0 m (pc + 3) ls rest)) : W p l e R s m args below meth c H locs cells slots Q (F0 m pc ls (va_rf r :: rest)) := by
  cases r with
  | none => exact lv_ifnonnullN hexec hb hdg (kf rfl)
  | some x => exact lv_ifnonnull hexec hb hdg ht (kt (by simp))
theorem s_getW (F : Fx Γ p s m meth c args cc nL own ws rt) (hS : va_S (rA Γ) s.heap H locs) {index : Nat} (hlink : Cond.fieldLink own index "ClearingFiles" "WEIGHTS" "[I" ∈ ws) (hdg : decode cc pc = .ok (.getstatic index, 3))
    (kk : W p l e R s m args below meth c H locs cells slots Q (F0 m (pc + 3) ls (.ref (Γ.2.2.2 1) :: rest))) : W p l e R s m args below meth c H locs cells slots Q (F0 m pc ls rest) :=
  va_gets F.1.1 F.1.2.1 F.2.1.2.2.2.2.1 hS F.1.2.2.2.1 (F.1.2.2.2.2 _ hlink) (fun _ h => h) hdg kk
def rWi (j : Nat) : Int32 := match j with
  | 0 => 3
  | 1 => 7
  | _ => 1
theorem rWt_i : ∀ j : Nat, rWt j = .int (rWi j)
  | 0 => rfl
  | 1 => rfl
  | _ + 2 => rfl
theorem s_iaW (F : Fx Γ p s m meth c args cc nL own ws rt) (hS : va_S (rA Γ) s.heap H locs) {i : Int32} (hin : vp_in i 3) (hdg : decode cc pc = .ok (.iaload, 1))
    (kk : W p l e R s m args below meth c H locs cells slots Q (F0 m (pc + 1) ls (.int (rWi i.toNatClampNeg) :: rest))) : W p l e R s m args below meth c H locs cells slots Q (F0 m pc ls (.int i :: .ref (Γ.2.2.2 1) :: rest)) :=
  va_ti F.1.1 F.1.2.1 F.2.1.2.2.2.2.2.1 hS hin (v := .int (rWi i.toNatClampNeg)) (rWt_i _) hdg kk
theorem s_iret (F : Fx Γ p s m meth c args cc nL own ws (some .int)) (hR : Rep Γ σ H) (hS : va_S (rA Γ) s.heap H locs) {v : Int32} {post : Int32 → St → Prop} (h : post v σ) {mc ms : Nat} (hc : cells ≤ mc ∧ slots ≤ ms) (hdg : decode cc pc = .ok (.ireturn, 1)) : W p l e R s m args below meth c H locs cells slots (rQi Γ below post args s mc ms) (F0 m pc ls [.int v]) := by
  refine W.widen hc.1 hc.2 ?_
  exact W.iret (v := v) F.1.1 F.1.2.1 F.2.2.2 (fun t ht hW => ⟨⟨v, σ, rfl, h, by subst ht; exact hR⟩, hS.F ht⟩) hS.2.2 hdg F.2.2.1
theorem s_zret (F : Fx Γ p s m meth c args cc nL own ws (some .boolean)) (hR : Rep Γ σ H) (hS : va_S (rA Γ) s.heap H locs) {v : Int32} {post : Int32 → St → Prop} (hv : isB v) (h : post v σ) {mc ms : Nat} (hc : cells ≤ mc ∧ slots ≤ ms) (hdg : decode cc pc = .ok (.ireturn, 1)) : W p l e R s m args below meth c H locs cells slots (rQi Γ below post args s mc ms) (F0 m pc ls [.int v]) := by
  refine W.widen hc.1 hc.2 ?_
  exact W.zret (v := v) F.1.1 F.1.2.1 F.2.2.2 hv.nar (fun t ht hW => ⟨⟨v, σ, rfl, h, by subst ht; exact hR⟩, hS.F ht⟩) hS.2.2 hdg F.2.2.1
theorem s_lret (F : Fx Γ p s m meth c args cc nL own ws (some .long)) (hR : Rep Γ σ H) (hS : va_S (rA Γ) s.heap H locs) {v : Int64} {post : Int64 → St → Prop} (h : post v σ) {mc ms : Nat} (hc : cells ≤ mc ∧ slots ≤ ms) (hdg : decode cc pc = .ok (.lreturn, 1)) : W p l e R s m args below meth c H locs cells slots (rQl Γ below post args s mc ms) (F0 m pc ls [.long v]) := by
  refine W.widen hc.1 hc.2 ?_
  exact W.lret (v := v) F.1.1 F.1.2.1 F.2.2.2 (fun t ht hW => ⟨⟨v, σ, rfl, h, by subst ht; exact hR⟩, hS.F ht⟩) hS.2.2 hdg F.2.2.1
theorem s_vret (F : Fx Γ p s m meth c args cc nL own ws none) (hR : Rep Γ σ H) (hS : va_S (rA Γ) s.heap H locs) {post : St → Prop} (h : post σ) {mc ms : Nat} (hc : cells ≤ mc ∧ slots ≤ ms) (hdg : decode cc pc = .ok (.return_, 1)) : W p l e R s m args below meth c H locs cells slots (rQv Γ below post args s mc ms) (F0 m pc ls []) := by
  refine W.widen hc.1 hc.2 ?_
  exact W.vret F.1.1 F.1.2.1 F.2.2.2 (fun t ht hW => ⟨⟨σ, rfl, h, by subst ht; exact hR⟩, hS.F ht⟩) hS.2.2 hdg F.2.2.1
theorem s_aret {C : String} (F : Fx Γ p s m meth c args cc nL own ws (some (.object C))) (hR : Rep Γ σ H) (hS : va_S (rA Γ) s.heap H locs) {r : Option Nat} {post : Option Nat → St → Prop} (h : post r σ) {mc ms : Nat} (hc : cells ≤ mc ∧ slots ≤ ms) (hdg : decode cc pc = .ok (.areturn, 1)) : W p l e R s m args below meth c H locs cells slots (rQq Γ below post args s mc ms) (F0 m pc ls [va_rf r]) := by
  refine W.widen hc.1 hc.2 ?_
  exact W.aret (v := va_rf r) F.1.1 F.1.2.1 F.2.2.2 (Or.inl ⟨C, rfl⟩) (va_rf_or r) (fun t ht hW => ⟨⟨r, σ, rfl, h, by subst ht; exact hR⟩, hS.F ht⟩) hS.2.2 hdg F.2.2.1
theorem k_ev (F : Fx Γ p s m meth c args cc nL own ws rt) (hS : va_S (rA Γ) s.heap H locs) {U : State} (hU : U.heap = H) (hW : s.WarmedH U.vm) : rEv Γ vwCl U :=
  rEv.moved hW (fun q h1 h2 => by rw [hU]; exact hS.2.1 q h1 h2) (by rw [hU]; exact hS.1) F.2.1
theorem g_recv {G : rG} (hE : rEv Γ vwCl s) (hP : rW Γ vwCl G H) {b ci : Nat} {q : vw_C} {fs : List Value} (hc : vwCl[ci]? = some q) (he : G b = some (.inr (ci, fs))) : ∃ cell : Cell, H[b]? = some cell ∧ cell.vm.isStatics = false ∧ s.vm.findClass q.1 = some cell.cls := by
  obtain ⟨w, hP, -, hG⟩ := hP
  obtain ⟨k, hk⟩ := hG b _ he
  exact va_recv hE.1 hP hc hk
theorem s_recv (F : Fx Γ p s m meth c args cc nL own ws rt) (hR : Rep Γ σ H) {b t : Nat} (hk : sK σ b = t) (ht : 0 < t ∧ t < 23) {C : String} {T : u_T} {N : Nat} (hc : vwCl[rCi t]? = some (C, T, N)) : ∃ cell : Cell, H[b]? = some cell ∧ cell.vm.isStatics = false ∧ s.vm.findClass C = some cell.cls := by
  obtain ⟨X, -, hG⟩ := hR
  by_cases h : 20 ≤ t ∧ t < 23
  · refine g_recv F.2.1 hG (q := (C, T, N)) hc (fs := [.int (X.1 b), .ref (X.2.1 b), .int (nI (sL σ b).length)]) ?_
    have e : rCi t = 0 := by unfold rCi; rw [if_neg (by omega)]
    rw [e]
    simp only [rGs, hk]
    rw [if_neg (by omega), if_pos h]
  · exact g_recv F.2.1 hG (q := (C, T, N)) hc (fs := (rFl t).map (rFv σ b)) (by rw [rGs_ob hk (by omega) h, rEnt, if_pos (by omega)])
theorem k_runV (F : Fx Γ p s m meth c args cc nL own ws rt) {P : Heap → Prop} (hR : P H) (hS : va_S (rA Γ) s.heap H locs) {lv : List (Nat × Value)} (hl : lv_has ls nL lv) {y : MethodName} {C : String} {index maxL mc ms b : Nat} {bytes : ByteArray} {ret : Option FieldType} {wy wy' : List Cond} {rm : Room} {Qc : Array Value → State → Outcome → State → Prop} (n : Nat) (As : List Value) (hM : Met l y wy rm (rPc Γ vwCl (.ref b :: As) P) Qc mc ms (rA Γ)) (hG : GoodIn ws (wsV own index C y wy)) (hw : wy = Cond.code y bytes maxL ret :: wy') (hrc : rm.cells = mc) (hrs : rm.slots = ms) (hd : y.cls = C ∧ y.cls ≠ "java/lang/invoke/MethodHandle" ∧ y.cls ≠ "java/lang/invoke/VarHandle" ∧ (parseMethodDescriptor y.desc).map (fun d => d.parameters.length) = some n) (hRm : rm.frames + 1 ≤ R.frames ∧ 8 + (maxL + 11) + rm.locals ≤ R.locals) (hrv : ∃ cell : Cell, H[b]? = some cell ∧ cell.vm.isStatics = false ∧ s.vm.findClass C = some cell.cls) (hn : As.length = n) (hst : (rest.map fun v => v.category).sum ≤ 8) (hdg : decode cc pc = .ok (.invokevirtual index, 3)) (hf : cells + mc ≤ R.cells ∧ slots + ms ≤ R.slots) :
    va_Run p l e R s m args below meth c H locs cells slots mc ms (F0 m pc ls (As.reverse ++ .ref b :: rest)) rest (Qc (Value.ref b :: As).toArray) (rA Γ) :=
  va_runV (As := As) (rest := rest) F.1 hM (cwV n F.1.2.2.2.2 hG hw hrc hrs hd hRm) ⟨rPc_blind, hrv, fun U hU hW => ⟨rfl, by rw [hU]; exact hR, k_ev F hS hU hW⟩⟩ rfl hn hl.1 rfl (lv_room hst) hdg hf
theorem k_runS (F : Fx Γ p s m meth c args cc nL own ws rt) {P : Heap → Prop} (hR : P H) (hS : va_S (rA Γ) s.heap H locs) {lv : List (Nat × Value)} (hl : lv_has ls nL lv) {y : MethodName} {index maxL mc ms : Nat} {bytes : ByteArray} {ret : Option FieldType} {wy wy' : List Cond} {rm : Room} {Qc : Array Value → State → Outcome → State → Prop} (n : Nat) (As : List Value) (hM : Met l y wy rm (rPc Γ vwCl As P) Qc mc ms (rA Γ)) (hG : GoodIn ws (va_wsS own index y wy)) (hw : wy = Cond.code y bytes maxL ret :: wy') (hrc : rm.cells = mc) (hrs : rm.slots = ms) (hd : y.cls ≠ "java/lang/invoke/MethodHandle" ∧ y.cls ≠ "java/lang/invoke/VarHandle" ∧ (parseMethodDescriptor y.desc).map (fun d => d.parameters.length) = some n) (hRm : rm.frames + 1 ≤ R.frames ∧ 8 + (maxL + 11) + rm.locals ≤ R.locals) (hn : As.length = n) (hst : (rest.map fun v => v.category).sum ≤ 8) (hdg : decode cc pc = .ok (.invokestatic index, 3)) (hf : cells + mc ≤ R.cells ∧ slots + ms ≤ R.slots) :
    va_Run p l e R s m args below meth c H locs cells slots mc ms (F0 m pc ls (As.reverse ++ rest)) rest (Qc As.toArray) (rA Γ) :=
  va_runS (As := As) (rest := rest) F.1 hM (va_cwS n F.1.2.2.2.2 hG hw hrc hrs hd hRm) ⟨rPc_blind, fun U hU hW => ⟨rfl, by rw [hU]; exact hR, k_ev F hS hU hW⟩⟩ rfl hn hl.1 rfl (lv_room hst) hdg hf
theorem k_runI (F : Fx Γ p s m meth c args cc nL own ws rt) {P : Heap → Prop} (hR : P H) (hS : va_S (rA Γ) s.heap H locs) {lv : List (Nat × Value)} (hl : lv_has ls nL lv) {y : MethodName} {index maxL mc ms b : Nat} {bytes : ByteArray} {wy wy' : List Cond} {rm : Room} {Qc : Array Value → State → Outcome → State → Prop} (n : Nat) (As : List Value) (hM : Met l y wy rm (rPc Γ vwCl (.ref b :: As) P) Qc mc ms (rA Γ)) (hG : GoodIn ws wy) (hw : wy = Cond.code y bytes maxL none :: wy') (hrc : rm.cells = mc) (hrs : rm.slots = ms) (hini : Cond.initialized y.cls ∈ ws) (hlk : Cond.methodLink own index y ∈ ws) (him : Cond.instanceMethod y ∈ ws) (hy1 : y.name = "<init>") (hd : y.cls ≠ "java/lang/invoke/MethodHandle" ∧ y.cls ≠ "java/lang/invoke/VarHandle" ∧ (parseMethodDescriptor y.desc).map (fun d => d.parameters.length) = some n) (hRm : rm.frames + 1 ≤ R.frames ∧ 8 + (maxL + 11) + rm.locals ≤ R.locals) (hn : As.length = n) (hst : (rest.map fun v => v.category).sum ≤ 8) (hdg : decode cc pc = .ok (.invokespecial index, 3)) (hf : cells + mc ≤ R.cells ∧ slots + ms ≤ R.slots) :
    va_Run p l e R s m args below meth c H locs cells slots mc ms (F0 m pc ls (As.reverse ++ .ref b :: rest)) rest (Qc (Value.ref b :: As).toArray) (rA Γ) :=
  va_runI (As := As) (rest := rest) F.1 hM (cwI n F.1.2.2.2.2 hG hw hrc hrs (F.1.2.2.2.2 _ hini) (F.1.2.2.2.2 _ hlk) (F.1.2.2.2.2 _ him) hy1 hd hRm) ⟨rPc_blind, fun U hU hW => ⟨rfl, by rw [hU]; exact hR, k_ev F hS hU hW⟩⟩ rfl hn hl.1 rfl (lv_room hst) hdg hf
variable {st0 : List Value} {aa : Array Value} {mc ms : Nat}
theorem s_ci {post : Int32 → St → Prop} (hS : va_S (rA Γ) s.heap H locs) (hr : va_Run p l e R s m args below meth c H locs cells slots mc ms (F0 m pc ls st0) rest (va_Qi post (fun σ' t => Rep Γ σ' t.heap) (rA Γ) aa) (rA Γ))
    (kk : ∀ (r : Int32) (σ' : St) (H1 : Heap) (locs1 : List Loc), post r σ' → Rep Γ σ' H1 → va_S (rA Γ) s.heap H1 locs1 → W p l e R s m args below meth c H1 locs1 (cells + mc) (slots + ms) Q (F0 m (pc + 3) ls (.int r :: rest))) : W p l e R s m args below meth c H locs cells slots Q (F0 m pc ls st0) :=
  va_calli hr hS (fun _ _ h => h) (fun _ h => h) fun r u t H1 locs1 ht _ hp hB _ _ hS1 => kk r u H1 locs1 hp (by rw [← ht]; exact hB) hS1
theorem s_cl {post : Int64 → St → Prop} (hS : va_S (rA Γ) s.heap H locs) (hr : va_Run p l e R s m args below meth c H locs cells slots mc ms (F0 m pc ls st0) rest (va_Ql post (fun σ' t => Rep Γ σ' t.heap) (rA Γ) aa) (rA Γ))
    (kk : ∀ (r : Int64) (σ' : St) (H1 : Heap) (locs1 : List Loc), post r σ' → Rep Γ σ' H1 → va_S (rA Γ) s.heap H1 locs1 → W p l e R s m args below meth c H1 locs1 (cells + mc) (slots + ms) Q (F0 m (pc + 3) ls (.long r :: rest))) : W p l e R s m args below meth c H locs cells slots Q (F0 m pc ls st0) :=
  va_calll hr hS (fun _ _ h => h) (fun _ h => h) fun r u t H1 locs1 ht _ hp hB _ _ hS1 => kk r u H1 locs1 hp (by rw [← ht]; exact hB) hS1
theorem s_cv {post : St → Prop} (hS : va_S (rA Γ) s.heap H locs) (hr : va_Run p l e R s m args below meth c H locs cells slots mc ms (F0 m pc ls st0) rest (va_Qv post (fun σ' t => Rep Γ σ' t.heap) (rA Γ) aa) (rA Γ))
    (kk : ∀ (σ' : St) (H1 : Heap) (locs1 : List Loc), post σ' → Rep Γ σ' H1 → va_S (rA Γ) s.heap H1 locs1 → W p l e R s m args below meth c H1 locs1 (cells + mc) (slots + ms) Q (F0 m (pc + 3) ls rest)) : W p l e R s m args below meth c H locs cells slots Q (F0 m pc ls st0) :=
  va_callv hr hS (fun _ _ h => h) (fun _ h => h) fun u t H1 locs1 ht _ hp hB _ _ hS1 => kk u H1 locs1 hp (by rw [← ht]; exact hB) hS1
theorem s_cq {post : Option Nat → St → Prop} (hS : va_S (rA Γ) s.heap H locs) (hr : va_Run p l e R s m args below meth c H locs cells slots mc ms (F0 m pc ls st0) rest (va_Qq post (fun σ' t => Rep Γ σ' t.heap) (rA Γ) aa) (rA Γ))
    (kk : ∀ (r : Option Nat) (σ' : St) (H1 : Heap) (locs1 : List Loc), post r σ' → Rep Γ σ' H1 → va_S (rA Γ) s.heap H1 locs1 → W p l e R s m args below meth c H1 locs1 (cells + mc) (slots + ms) Q (F0 m (pc + 3) ls (va_rf r :: rest))) : W p l e R s m args below meth c H locs cells slots Q (F0 m pc ls st0) :=
  va_callq hr hS (fun _ _ h => h) (fun _ h => h) fun r u t H1 locs1 ht _ hp hB _ _ hS1 => kk r u H1 locs1 hp (by rw [← ht]; exact hB) hS1
end RT
