/-! THE WORLD AS ONE ABSTRACT MEMORY. rG: what each cell of ours holds, by its address; rW: the heap holds it. All our cells lie at or above the base. -/
abbrev rGam : Type := va_G × Nat × (Nat → ClassId) × (Nat → Nat)
abbrev rG : Type := Nat → Option va_E
def rup (G : rG) (a : Nat) (e : va_E) : rG := fun b => if b = a then some e else G b
abbrev rA (Γ : rGam) : Nat → Prop := fun q => Γ.2.1 ≤ q
abbrev rTy (Γ : rGam) : List (ClassId × FieldType) := [(Γ.2.2.1 0, .int), (Γ.2.2.1 1, .long), (Γ.2.2.1 2, .boolean), (Γ.2.2.1 3, .object "ClearingFiles$Batch"), (Γ.2.2.1 4, .object "java/lang/Object")]
def rW (Γ : rGam) (cl : List vw_C) (G : rG) (H : Heap) : Prop := ∃ ws : va_W, va_P Γ.1 cl ws H ∧ va_D (rA Γ) ws ∧ ∀ a e, G a = some e → ∃ k : Nat, ws[k]? = some (a, e)
def rWt (j : Nat) : Value := match j with
  | 0 => .int 3
  | 1 => .int 7
  | _ => .int 1
def rNl : List (String × Nat × MethodName) := [(RX1, 21, yX5_init), (RX2, 18, yX6_init), (RX4, 19, yX6_init), (RX4, 24, yX2_init), (RX5, 18, yX6_init), (RX7, 253, yX3_init)]
/-- what never changes: the classes, the statics -/
def rEv (Γ : rGam) (cl : List vw_C) (U : State) : Prop :=
  va_K Γ.1 cl (rTy Γ) U ∧ Γ.2.1 ≤ U.heap.size ∧
  va_Z "java/util/ArrayList" "DEFAULTCAPACITY_EMPTY_ELEMENTDATA" "[Ljava/lang/Object;" (.ref (Γ.2.2.2 0)) (rA Γ) U U.heap ∧
  va_T (.object "java/lang/Object") (Γ.2.2.2 0) 0 (fun _ => .null) (rA Γ) U U.heap ∧
  va_Z "ClearingFiles" "WEIGHTS" "[I" (.ref (Γ.2.2.2 1)) (rA Γ) U U.heap ∧
  va_T .int (Γ.2.2.2 1) 3 rWt (rA Γ) U U.heap ∧
  va_Mi "[Ljava/lang/Object;" (Γ.2.2.2 2) U ∧ va_Dc U ∧ va_AO "java/lang/Object" U ∧ va_AO "ClearingFiles$Batch" U ∧
  va_Nw (.castable "ClearingFiles$Bank" "java/lang/Object") U ∧ va_Nw (.castable "ClearingFiles$Account" "java/lang/Object") U ∧ va_Nw (.castable "ClearingFiles$Entry" "java/lang/Object") U ∧ va_Nw (.castable "[Ljava/lang/Object;" "java/lang/Object") U ∧ ∀ q ∈ rNl, va_Nw (.methodLinkNest q.1 q.2.1 q.2.2 "ClearingFiles") U
theorem rup_self (G : rG) (a : Nat) (e : va_E) : rup G a e a = some e := by simp [rup]
theorem rup_ne (G : rG) {a b : Nat} (e : va_E) (h : b ≠ a) : rup G a e b = G b := by simp [rup, h]
theorem rW.lt {Γ : rGam} {cl : List vw_C} {G : rG} {H : Heap} (h : rW Γ cl G H) {a : Nat} {e : va_E} (ha : G a = some e) : a < H.size := by
  obtain ⟨ws, hP, -, hG⟩ := h
  obtain ⟨k, hk⟩ := hG a e ha
  exact (hP k _ hk).lt
theorem rW.base {Γ : rGam} {cl : List vw_C} {G : rG} {H : Heap} (h : rW Γ cl G H) {a : Nat} {e : va_E} (ha : G a = some e) : Γ.2.1 ≤ a := by
  obtain ⟨ws, -, hD, hG⟩ := h
  obtain ⟨k, hk⟩ := hG a e ha
  exact hD.2 k _ hk
theorem rW.mono {Γ : rGam} {cl : List vw_C} {G G' : rG} {H : Heap} (h : rW Γ cl G H) (hg : ∀ a e, G' a = some e → G a = some e) : rW Γ cl G' H := by
  obtain ⟨ws, hP, hD, hG⟩ := h
  exact ⟨ws, hP, hD, fun a e ha => hG a e (hg a e ha)⟩
theorem rW.set {Γ : rGam} {cl : List vw_C} {G : rG} {H1 : Heap} {ws : va_W} {k a : Nat} {e0 e : va_E} (hD0 : va_D (rA Γ) ws) (hk : ws[k]? = some (a, e0)) (hG : ∀ a e, G a = some e → ∃ k : Nat, ws[k]? = some (a, e)) (hP : va_P Γ.1 cl (ws.set k (a, e)) H1) (hD : va_D (rA Γ) (ws.set k (a, e))) : rW Γ cl (rup G a e) H1 := by
  refine ⟨_, hP, hD, fun b e' hb => ?_⟩
  have hlt : k < ws.length := (List.getElem?_eq_some_iff.mp hk).1
  by_cases h : b = a
  · subst h
    rw [rup_self] at hb
    cases hb
    exact ⟨k, by simp [List.getElem?_set, hlt]⟩
  · rw [rup_ne _ _ h] at hb
    obtain ⟨j, hj⟩ := hG b e' hb
    refine ⟨j, ?_⟩
    have : k ≠ j := fun q => by subst q; rw [hk] at hj; cases hj; exact h rfl
    rw [List.getElem?_set_ne this]
    exact hj
theorem rW.push {Γ : rGam} {cl : List vw_C} {G : rG} {H1 : Heap} {ws : va_W} {a : Nat} {e : va_E} (hG : ∀ a e, G a = some e → ∃ k : Nat, ws[k]? = some (a, e)) (hP : va_P Γ.1 cl (ws ++ [(a, e)]) H1) (hD : va_D (rA Γ) (ws ++ [(a, e)])) : rW Γ cl (rup G a e) H1 ∧ G a = none := by
  constructor
  · refine ⟨_, hP, hD, fun b e' hb => ?_⟩
    by_cases h : b = a
    · subst h
      rw [rup_self] at hb
      cases hb
      exact ⟨ws.length, by simp⟩
    · rw [rup_ne _ _ h] at hb
      obtain ⟨j, hj⟩ := hG b e' hb
      refine ⟨j, ?_⟩
      rw [List.getElem?_append_left (List.getElem?_eq_some_iff.mp hj).1]
      exact hj
  · cases hn : G a with
    | none => rfl
    | some e' =>
      obtain ⟨j, hj⟩ := hG a e' hn
      have hjl : j < ws.length := (List.getElem?_eq_some_iff.mp hj).1
      have := hD.1 j ws.length (a, e') (a, e) (by rw [List.getElem?_append_left hjl]; exact hj) (by simp) rfl
      omega
theorem rEv.moved {Γ : rGam} {cl : List vw_C} {u U : State} (hW : u.WarmedH U.vm) (hb : ∀ q : Nat, q < u.heap.size → ¬ rA Γ q → U.heap[q]? = u.heap[q]?) (hz : u.heap.size ≤ U.heap.size) (h : rEv Γ cl u) : rEv Γ cl U := by
  obtain ⟨h1, h2, h3, h4, h5, h6, h7, h8, h9, h10, h11, h12, h13, h14, h15⟩ := h
  exact ⟨va_K.moved hW.alike h1, Nat.le_trans h2 hz, va_Z.moved hW.alike (h3.kept hb), va_T.moved hW.alike (h4.kept hb), va_Z.moved hW.alike (h5.kept hb), va_T.moved hW.alike (h6.kept hb), va_Mi.moved hW.alike h7, va_Dc.moved hW.alike h8, va_AO.moved hW.alike h9, va_AO.moved hW.alike h10, va_Nw.warmC hW h11, va_Nw.warmC hW h12, va_Nw.warmC hW h13, va_Nw.warmC hW h14, fun q hq => va_Nw.warmM hW (h15 q hq)⟩
/-- a method's start, its ends -/
def rPc (Γ : rGam) (cl : List vw_C) (av : List Value) (P : Heap → Prop) : Array Value → State → Prop := va_Pc av (fun U => P U.heap ∧ rEv Γ cl U)
theorem rPc_blind {Γ : rGam} {cl : List vw_C} {av : List Value} {P : Heap → Prop} : FrameBlind (rPc Γ cl av P) := fun a U g mk q => by
  obtain ⟨q0, q1, q2⟩ := q
  exact ⟨q0, q1, rEv.moved (u := U) (U := U.calling g mk a) (State.WarmedH.refl U) (fun _ _ _ => rfl) (Nat.le_refl _) q2⟩
section RG
variable {p : Program} {l : Launch} {e : Env} {R : Room} {s : State} {m : MethodId} {args : Array Value} {below : List Frame} {meth : Method} {c : Code} {H : Heap} {locs : List Loc} {cells slots : Nat} {Q : State → Prop}
variable {cc : ByteArray} {pc : Nat} {ls : Array Slot} {rest : List Value} {Γ : rGam} {cl : List vw_C} {G : rG} {a : Nat}
theorem g_get (hexec : p.tables.exec = Jvm.exec) (hb : c.code = cc) {own ref C : String} {T : u_T} {N ci index : Nat} {Ts : List Cond} (hts : ∀ w ∈ Ts, w.before args s = true) (hin : ∀ w ∈ u_ws C T N, w ∈ Ts) (hown : s.vm.findClass own = some m.cls) (hE : rEv Γ cl s) (hP : rW Γ cl G H) {fs : List Value} (he : G a = some (.inr (ci, fs))) (hc : cl[ci]? = some (C, T, N)) (k : Nat) (hk : k < N) (hlink : (Cond.fieldLink own index ref (T k).2.1 (T k).2.2.1).before args s = true) (hsame : ∀ x, s.fieldFound? (T k).1 (T k).2.1 (T k).2.2.1 = some x → s.fieldFound? ref (T k).2.1 (T k).2.2.1 = some x) {v : Value} (hv : fs[k]? = some v) (hdg : decode cc pc = .ok (.getfield index, 3))
    (kk : W p l e R s m args below meth c H locs cells slots Q (F0 m (pc + 3) ls (v :: rest))) : W p l e R s m args below meth c H locs cells slots Q (F0 m pc ls (.ref a :: rest)) := by
  obtain ⟨ws, hP, -, hG⟩ := hP
  obtain ⟨q0, hq⟩ := hG a _ he
  exact va_get hexec hb hts hin hown hE.1 hP q0 hq hc k hk hlink hsame hv hdg kk
theorem g_put (hexec : p.tables.exec = Jvm.exec) (hb : c.code = cc) {own ref C : String} {T : u_T} {N ci index : Nat} {Ts : List Cond} (hts : ∀ w ∈ Ts, w.before args s = true) (hin : ∀ w ∈ u_ws C T N, w ∈ Ts) (ty0 : Nat → FieldType) (hty : ∀ k, k < N → parseFieldDescriptor (T k).2.2.1 = some (ty0 k)) (hnm : ∀ a, a < N → ∀ b, b < N → a ≠ b → (T a).2.1 ≠ (T b).2.1) (hown : s.vm.findClass own = some m.cls) (hE : rEv Γ cl s) (hP : rW Γ cl G H) (hS0 : va_S (rA Γ) s.heap H locs) {fs : List Value} (he : G a = some (.inr (ci, fs))) (hc : cl[ci]? = some (C, T, N)) (k : Nat) (hk : k < N) (hlink : (Cond.fieldLink own index ref (T k).2.1 (T k).2.2.1).before args s = true) (hsame : ∀ x, s.fieldFound? (T k).1 (T k).2.1 (T k).2.2.1 = some x → s.fieldFound? ref (T k).2.1 (T k).2.2.1 = some x) (hfin : (T k).2.2.2 = false) {v : Value} (hn : narrow (ty0 k) v = v) (hfit : fits (ty0 k) v = true) (hl : k < fs.length)
    (hdg : decode cc pc = .ok (.putfield index, 3)) (kk : ∀ (H1 : Heap) (locs1 : List Loc), rW Γ cl (rup G a (.inr (ci, fs.set k v))) H1 → va_S (rA Γ) s.heap H1 locs1 → W p l e R s m args below meth c H1 locs1 cells slots Q (F0 m (pc + 3) ls rest)) : W p l e R s m args below meth c H locs cells slots Q (F0 m pc ls (v :: .ref a :: rest)) := by
  obtain ⟨ws, hP, hD, hG⟩ := hP
  obtain ⟨q0, hq⟩ := hG a _ he
  exact va_put hexec hb hts hin ty0 hty hnm hown hE.1 hP hD hS0 q0 hq hc k hk hlink hsame hfin (hty k hk) hn hfit hl hdg fun H1 locs1 hP1 hD1 hS1 => kk H1 locs1 (rW.set hD hq hG hP1 hD1) hS1
theorem g_putF (hexec : p.tables.exec = Jvm.exec) (hb : c.code = cc) {own ref C : String} {T : u_T} {N ci index : Nat} {Ts : List Cond} (hts : ∀ w ∈ Ts, w.before args s = true) (hin : ∀ w ∈ u_ws C T N, w ∈ Ts) (ty0 : Nat → FieldType) (hty : ∀ k, k < N → parseFieldDescriptor (T k).2.2.1 = some (ty0 k)) (hnm : ∀ a, a < N → ∀ b, b < N → a ≠ b → (T a).2.1 ≠ (T b).2.1) (hown : s.vm.findClass own = some m.cls) (hE : rEv Γ cl s) (hP : rW Γ cl G H) (hS0 : va_S (rA Γ) s.heap H locs) {fs : List Value} (he : G a = some (.inr (ci, fs))) (hc : cl[ci]? = some (C, T, N)) (k : Nat) (hk : k < N) (hlink : (Cond.fieldLink own index ref (T k).2.1 (T k).2.2.1).before args s = true) (hsame : ∀ x, s.fieldFound? (T k).1 (T k).2.1 (T k).2.2.1 = some x → s.fieldFound? ref (T k).2.1 (T k).2.2.1 = some x) (hfin : (T k).2.2.2 = true) (hin2 : meth.name = "<init>") (hdecl : (T k).1 = own) {v : Value} (hn : narrow (ty0 k) v = v) (hfit : fits (ty0 k) v = true) (hl : k < fs.length)
    (hdg : decode cc pc = .ok (.putfield index, 3)) (kk : ∀ (H1 : Heap) (locs1 : List Loc), rW Γ cl (rup G a (.inr (ci, fs.set k v))) H1 → va_S (rA Γ) s.heap H1 locs1 → W p l e R s m args below meth c H1 locs1 cells slots Q (F0 m (pc + 3) ls rest)) : W p l e R s m args below meth c H locs cells slots Q (F0 m pc ls (v :: .ref a :: rest)) := by
  obtain ⟨ws, hP, hD, hG⟩ := hP
  obtain ⟨q0, hq⟩ := hG a _ he
  exact va_putF hexec hb hts hin ty0 hty hnm hown hE.1 hP hD hS0 q0 hq hc k hk hlink hsame hfin hin2 hdecl (hty k hk) hn hfit hl hdg fun H1 locs1 hP1 hD1 hS1 => kk H1 locs1 (rW.set hD hq hG hP1 hD1) hS1
theorem g_iald (hexec : p.tables.exec = Jvm.exec) (hb : c.code = cc) (hE : rEv Γ cl s) (hP : rW Γ cl G H) {n : Nat} {f : Nat → Int32} (ha : G a = some (.inl (Γ.2.2.1 0, n, .inl f))) {i : Int32} (hin : vp_in i n) (hdg : decode cc pc = .ok (.iaload, 1))
    (kk : W p l e R s m args below meth c H locs cells slots Q (F0 m (pc + 1) ls (.int (f i.toNatClampNeg) :: rest))) : W p l e R s m args below meth c H locs cells slots Q (F0 m pc ls (.int i :: .ref a :: rest)) := by
  obtain ⟨ws, hP, -, hG⟩ := hP
  obtain ⟨q0, hq⟩ := hG a _ ha
  exact va_iald hexec hb hE.1 hP q0 0 hq rfl hin hdg kk
theorem g_zald (hexec : p.tables.exec = Jvm.exec) (hb : c.code = cc) (hE : rEv Γ cl s) (hP : rW Γ cl G H) {n : Nat} {f : Nat → Int32} (ha : G a = some (.inl (Γ.2.2.1 2, n, .inl f))) {i : Int32} (hin : vp_in i n) (hdg : decode cc pc = .ok (.baload, 1))
    (kk : W p l e R s m args below meth c H locs cells slots Q (F0 m (pc + 1) ls (.int (f i.toNatClampNeg) :: rest))) : W p l e R s m args below meth c H locs cells slots Q (F0 m pc ls (.int i :: .ref a :: rest)) := by
  obtain ⟨ws, hP, -, hG⟩ := hP
  obtain ⟨q0, hq⟩ := hG a _ ha
  exact va_zald hexec hb hE.1 hP q0 2 hq rfl hin hdg kk
theorem g_lald (hexec : p.tables.exec = Jvm.exec) (hb : c.code = cc) (hE : rEv Γ cl s) (hP : rW Γ cl G H) {n : Nat} {f : Nat → Int64} (ha : G a = some (.inl (Γ.2.2.1 1, n, .inr (.inl f)))) {i : Int32} (hin : vp_in i n) (hdg : decode cc pc = .ok (.laload, 1))
    (kk : W p l e R s m args below meth c H locs cells slots Q (F0 m (pc + 1) ls (.long (f i.toNatClampNeg) :: rest))) : W p l e R s m args below meth c H locs cells slots Q (F0 m pc ls (.int i :: .ref a :: rest)) := by
  obtain ⟨ws, hP, -, hG⟩ := hP
  obtain ⟨q0, hq⟩ := hG a _ ha
  exact va_lald hexec hb hE.1 hP q0 1 hq rfl hin hdg kk
theorem g_aald (hexec : p.tables.exec = Jvm.exec) (hb : c.code = cc) (hE : rEv Γ cl s) (hP : rW Γ cl G H) (t0 : Nat) {cA : ClassId} {C : String} (ht : (rTy Γ)[t0]? = some (cA, .object C)) {n : Nat} {f : Nat → Option Nat} (ha : G a = some (.inl (cA, n, .inr (.inr (.inr (.inr f)))))) {i : Int32} (hin : vp_in i n) (hdg : decode cc pc = .ok (.aaload, 1))
    (kk : W p l e R s m args below meth c H locs cells slots Q (F0 m (pc + 1) ls (va_rf (f i.toNatClampNeg) :: rest))) : W p l e R s m args below meth c H locs cells slots Q (F0 m pc ls (.int i :: .ref a :: rest)) := by
  obtain ⟨ws, hP, -, hG⟩ := hP
  obtain ⟨q0, hq⟩ := hG a _ ha
  exact va_aldq hexec hb hE.1 hP q0 t0 hq ht hin hdg kk
theorem g_alen (hexec : p.tables.exec = Jvm.exec) (hb : c.code = cc) (hE : rEv Γ cl s) (hP : rW Γ cl G H) (t0 : Nat) {cA : ClassId} {ty : FieldType} (ht : (rTy Γ)[t0]? = some (cA, ty)) {x : vp_A} (ha : G a = some (.inl (cA, x))) {v : Int32} (hv : nI x.1 = v) (hdg : decode cc pc = .ok (.arraylength, 1))
    (kk : W p l e R s m args below meth c H locs cells slots Q (F0 m (pc + 1) ls (.int v :: rest))) : W p l e R s m args below meth c H locs cells slots Q (F0 m pc ls (.ref a :: rest)) := by
  obtain ⟨ws, hP, -, hG⟩ := hP
  obtain ⟨q0, hq⟩ := hG a _ ha
  exact va_alen hexec hb hE.1 hP q0 t0 hq ht hv hdg kk
theorem g_iast (hexec : p.tables.exec = Jvm.exec) (hb : c.code = cc) (hE : rEv Γ cl s) (hP : rW Γ cl G H) (hS : va_S (rA Γ) s.heap H locs) {n : Nat} {f : Nat → Int32} (ha : G a = some (.inl (Γ.2.2.1 0, n, .inl f))) {i x : Int32} (hin : vp_in i n) (hdg : decode cc pc = .ok (.iastore, 1))
    (kk : ∀ (H1 : Heap) (locs1 : List Loc), rW Γ cl (rup G a (.inl (Γ.2.2.1 0, n, .inl (upd f i.toNatClampNeg x)))) H1 → va_S (rA Γ) s.heap H1 locs1 → W p l e R s m args below meth c H1 locs1 cells slots Q (F0 m (pc + 1) ls rest)) : W p l e R s m args below meth c H locs cells slots Q (F0 m pc ls (.int x :: .int i :: .ref a :: rest)) := by
  obtain ⟨ws, hP, hD, hG⟩ := hP
  obtain ⟨q0, hq⟩ := hG a _ ha
  exact va_iast hexec hb hE.1 hP hD hS q0 0 hq rfl hin hdg fun H1 locs1 hP1 hD1 hS1 => kk H1 locs1 (rW.set hD hq hG hP1 hD1) hS1
theorem g_zast (hexec : p.tables.exec = Jvm.exec) (hb : c.code = cc) (hE : rEv Γ cl s) (hP : rW Γ cl G H) (hS : va_S (rA Γ) s.heap H locs) {n : Nat} {f : Nat → Int32} (ha : G a = some (.inl (Γ.2.2.1 2, n, .inl f))) {i x : Int32} (hin : vp_in i n) (hdg : decode cc pc = .ok (.bastore, 1))
    (kk : ∀ (H1 : Heap) (locs1 : List Loc), rW Γ cl (rup G a (.inl (Γ.2.2.1 2, n, .inl (upd f i.toNatClampNeg (vp_nar .boolean x))))) H1 → va_S (rA Γ) s.heap H1 locs1 → W p l e R s m args below meth c H1 locs1 cells slots Q (F0 m (pc + 1) ls rest)) : W p l e R s m args below meth c H locs cells slots Q (F0 m pc ls (.int x :: .int i :: .ref a :: rest)) := by
  obtain ⟨ws, hP, hD, hG⟩ := hP
  obtain ⟨q0, hq⟩ := hG a _ ha
  exact va_zast hexec hb hE.1 hP hD hS q0 2 hq rfl hin hdg fun H1 locs1 hP1 hD1 hS1 => kk H1 locs1 (rW.set hD hq hG hP1 hD1) hS1
theorem g_last (hexec : p.tables.exec = Jvm.exec) (hb : c.code = cc) (hE : rEv Γ cl s) (hP : rW Γ cl G H) (hS : va_S (rA Γ) s.heap H locs) {n : Nat} {f : Nat → Int64} (ha : G a = some (.inl (Γ.2.2.1 1, n, .inr (.inl f)))) {i : Int32} {x : Int64} (hin : vp_in i n) (hdg : decode cc pc = .ok (.lastore, 1))
    (kk : ∀ (H1 : Heap) (locs1 : List Loc), rW Γ cl (rup G a (.inl (Γ.2.2.1 1, n, .inr (.inl (vp_updL f i.toNatClampNeg x))))) H1 → va_S (rA Γ) s.heap H1 locs1 → W p l e R s m args below meth c H1 locs1 cells slots Q (F0 m (pc + 1) ls rest)) : W p l e R s m args below meth c H locs cells slots Q (F0 m pc ls (.long x :: .int i :: .ref a :: rest)) := by
  obtain ⟨ws, hP, hD, hG⟩ := hP
  obtain ⟨q0, hq⟩ := hG a _ ha
  exact va_last hexec hb hE.1 hP hD hS q0 1 hq rfl hin hdg fun H1 locs1 hP1 hD1 hS1 => kk H1 locs1 (rW.set hD hq hG hP1 hD1) hS1
theorem g_aast (hexec : p.tables.exec = Jvm.exec) (hb : c.code = cc) (hE : rEv Γ cl s) (hP : rW Γ cl G H) (hS : va_S (rA Γ) s.heap H locs) (t0 ci : Nat) {E : String} {cA : ClassId} {r : vw_C} {n v : Nat} {vs : List Value} {f : Nat → Option Nat} (ha : G a = some (.inl (cA, n, .inr (.inr (.inr (.inr f)))))) (ht : (rTy Γ)[t0]? = some (cA, .object E)) (hca : va_Nw (.castable r.1 E) s) (hv : G v = some (.inr (ci, vs))) (hc : cl[ci]? = some r) {i : Int32} (hin : vp_in i n) (hdg : decode cc pc = .ok (.aastore, 1))
    (kk : ∀ (H1 : Heap) (locs1 : List Loc), rW Γ cl (rup G a (.inl (cA, n, .inr (.inr (.inr (.inr (va_up f i.toNatClampNeg (some v)))))))) H1 → va_S (rA Γ) s.heap H1 locs1 → W p l e R s m args below meth c H1 locs1 cells slots Q (F0 m (pc + 1) ls rest)) : W p l e R s m args below meth c H locs cells slots Q (F0 m pc ls (.ref v :: .int i :: .ref a :: rest)) := by
  obtain ⟨ws, hP, hD, hG⟩ := hP
  obtain ⟨q0, hq⟩ := hG a _ ha
  obtain ⟨qk, hqk⟩ := hG v _ hv
  exact va_astqO hexec hb hE.1 hP hD hS q0 t0 qk ci hq ht hca hqk hc hin hdg fun H1 locs1 hP1 hD1 hS1 => kk H1 locs1 (rW.set hD hq hG hP1 hD1) hS1
theorem g_aastS (hexec : p.tables.exec = Jvm.exec) (hb : c.code = cc) (hE : rEv Γ cl s) (hP : rW Γ cl G H) (hS : va_S (rA Γ) s.heap H locs) (t0 ci : Nat) {cA : ClassId} {r : vw_C} {n v : Nat} {vs : List Value} {f : Nat → Option Nat} (ha : G a = some (.inl (cA, n, .inr (.inr (.inr (.inr f)))))) (ht : (rTy Γ)[t0]? = some (cA, .object r.1)) (hv : G v = some (.inr (ci, vs))) (hc : cl[ci]? = some r) {i : Int32} (hin : vp_in i n) (hdg : decode cc pc = .ok (.aastore, 1))
    (kk : ∀ (H1 : Heap) (locs1 : List Loc), rW Γ cl (rup G a (.inl (cA, n, .inr (.inr (.inr (.inr (va_up f i.toNatClampNeg (some v)))))))) H1 → va_S (rA Γ) s.heap H1 locs1 → W p l e R s m args below meth c H1 locs1 cells slots Q (F0 m (pc + 1) ls rest)) : W p l e R s m args below meth c H locs cells slots Q (F0 m pc ls (.ref v :: .int i :: .ref a :: rest)) := by
  obtain ⟨ws, hP, hD, hG⟩ := hP
  obtain ⟨q0, hq⟩ := hG a _ ha
  obtain ⟨qk, hqk⟩ := hG v _ hv
  exact va_astq hexec hb hE.1 hP hD hS q0 t0 qk ci hq ht hqk hc hin hdg fun H1 locs1 hP1 hD1 hS1 => kk H1 locs1 (rW.set hD hq hG hP1 hD1) hS1
theorem g_aastN (hexec : p.tables.exec = Jvm.exec) (hb : c.code = cc) (hE : rEv Γ cl s) (hP : rW Γ cl G H) (hS : va_S (rA Γ) s.heap H locs) (t0 : Nat) {C : String} {cA : ClassId} {n : Nat} {f : Nat → Option Nat} (ha : G a = some (.inl (cA, n, .inr (.inr (.inr (.inr f)))))) (ht : (rTy Γ)[t0]? = some (cA, .object C)) {i : Int32} (hin : vp_in i n) (hdg : decode cc pc = .ok (.aastore, 1))
    (kk : ∀ (H1 : Heap) (locs1 : List Loc), rW Γ cl (rup G a (.inl (cA, n, .inr (.inr (.inr (.inr (va_up f i.toNatClampNeg none))))))) H1 → va_S (rA Γ) s.heap H1 locs1 → W p l e R s m args below meth c H1 locs1 cells slots Q (F0 m (pc + 1) ls rest)) : W p l e R s m args below meth c H locs cells slots Q (F0 m pc ls (.null :: .int i :: .ref a :: rest)) := by
  obtain ⟨ws, hP, hD, hG⟩ := hP
  obtain ⟨q0, hq⟩ := hG a _ ha
  exact va_astqN hexec hb hE.1 hP hD hS q0 t0 hq ht hin hdg fun H1 locs1 hP1 hD1 hS1 => kk H1 locs1 (rW.set hD hq hG hP1 hD1) hS1
theorem g_new (hexec : p.tables.exec = Jvm.exec) (hb : c.code = cc) {own C : String} {T : u_T} {N ci index : Nat} {Ts : List Cond} (hts : ∀ w ∈ Ts, w.before args s = true) (hin : ∀ w ∈ u_ws C T N, w ∈ Ts) (ty : Nat → FieldType) (hty : ∀ k, k < N → parseFieldDescriptor (T k).2.2.1 = some (ty k)) (hown : s.vm.findClass own = some m.cls) (hcl : (Cond.classLink own index C).before args s = true) (hinst : (Cond.instantiable C N).before args s = true) (hini : (Cond.initialized C).before args s = true)
    (hE : rEv Γ cl s) (hP : rW Γ cl G H) (hS : va_S (rA Γ) s.heap H locs) (hc : cl[ci]? = some (C, T, N)) {fs : List Value} (hfs : ∀ j, j < N → defaultValue (ty j) = vp_V fs j) (hcells : cells + 1 ≤ R.cells) (hslots : slots + N ≤ R.slots) (hdg : decode cc pc = .ok (.new index, 3))
    (kk : ∀ (q : Nat) (H1 : Heap), G q = none → Γ.2.1 ≤ q → rW Γ cl (rup G q (.inr (ci, fs))) H1 → va_S (rA Γ) s.heap H1 locs →
      W p l e R s m args below meth c H1 locs (cells + 1) (slots + N) Q (F0 m (pc + 3) ls (.ref q :: rest))) : W p l e R s m args below meth c H locs cells slots Q (F0 m pc ls rest) := by
  obtain ⟨ws, hP, hD, hG⟩ := hP
  refine va_new hexec hb hts hin ty hty hown hcl hinst hini hE.1 hP hD hS (fun q hq => Nat.le_trans hE.2.1 hq) hc hfs hcells hslots hdg fun q H1 hP1 hD1 hS1 => ?_
  obtain ⟨h1, h2⟩ := rW.push hG hP1 hD1
  exact kk q H1 h2 (h1.base (rup_self _ _ _)) h1 hS1
end RG
