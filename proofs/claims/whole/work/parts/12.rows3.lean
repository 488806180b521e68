theorem va_RA_uniq {U : State} {c1 c2 : ClassId} {ty : FieldType} (h1 : va_RA U c1 ty) (h2 : va_RA U c2 ty) : c1 = c2 := by
  cases ty with
  | object C =>
    obtain ⟨_, _, _, _, _, h⟩ := h1
    obtain ⟨_, _, _, _, _, h'⟩ := h2
    exact Option.some.inj (h.symm.trans h')
  | _ =>
    have h1' : U.vm.findClass _ = some c1 := h1
    have h2' : U.vm.findClass _ = some c2 := h2
    exact Option.some.inj (h1'.symm.trans h2')
theorem rf_nar (C : String) (r : Option Nat) : narrow (.object C) (va_rf r) = va_rf r := by cases r <;> rfl
theorem rf_narA (t : FieldType) (r : Option Nat) : narrow (.array t) (va_rf r) = va_rf r := by cases r <;> rfl
theorem rf_fit (C : String) (r : Option Nat) : fits (.object C) (va_rf r) = true := by cases r <;> rfl
theorem rf_fitA (t : FieldType) (r : Option Nat) : fits (.array t) (va_rf r) = true := by cases r <;> rfl
section RU
variable {p : Program} {l : Launch} {e : Env} {R : Room} {s : State} {m : MethodId} {args : Array Value} {below : List Frame} {meth : Method} {c : Code} {H : Heap} {locs : List Loc} {cells slots : Nat} {Q : State → Prop}
variable {cc : ByteArray} {nL : Nat} {own : String} {ws : List Cond} {rt : Option FieldType} {pc : Nat} {ls : Array Slot} {rest : List Value} {Γ : rGam} {σ : St} {a : Nat}
theorem s_newG (F : Fx Γ p s m meth c args cc nL own ws rt) (hR : Rep Γ σ H) (hS : va_S (rA Γ) s.heap H locs) {t n : Nat} (ht : 100 ≤ t) {atype : ArrayType} (harr : Cond.arrayClass (newarray.typeOf atype) ∈ ws) {ty : FieldType} (hty : newarray.typeOf atype = ty) (t0 : Nat) {cA0 : ClassId} (htt : (rTy Γ)[t0]? = some (cA0, ty)) {a0 : vp_A} (ha : ∀ cA : ClassId, vp_cell cA a0 = arrV cA n (fun _ => defaultValue ty)) (he : ∀ q, rAe Γ (uN σ q t) t q (rAr t) = .inl (cA0, a0)) {i : Int32} (hi : i = nI n) (hn : n < 100000) (hb8 : n * componentBytes ty ≤ 536870912) (hcells : cells + 1 ≤ R.cells) (hslots : slots + n ≤ R.slots) (hdg : decode cc pc = .ok (.newarray atype, 2))
    (kk : ∀ q : Nat, sK σ q = 0 → ∀ σ' : St, σ' = uN σ q t → ∀ H1 : Heap, Rep Γ σ' H1 → va_S (rA Γ) s.heap H1 locs → W p l e R s m args below meth c H1 locs (cells + 1) (slots + n) Q (F0 m (pc + 2) ls (.ref q :: rest))) : W p l e R s m args below meth c H locs cells slots Q (F0 m pc ls (.int i :: rest)) := by
  obtain ⟨X, hW, hG⟩ := hR
  obtain ⟨w, hP, hD, hGw⟩ := hG
  subst hi
  refine va_newa F.1.1 F.1.2.1 (F.1.2.2.2.2 _ harr) hty F.2.1.1 hP hD hS (fun q hq => Nat.le_trans F.2.1.2.1 hq) ha (nI_pos (by omega)) (nI_clamp (by omega)) hb8 hcells hslots hdg fun q cA H1 hK1 hP1 hD1 hS1 => ?_
  have e1 : cA = cA0 := va_RA_uniq (hK1.2 5 (cA, ty) rfl).2 (F.2.1.1.2 t0 _ htt).2
  subst e1
  obtain ⟨h1, h2⟩ := rW.push hGw hP1 hD1
  obtain ⟨w1, w2, w3⟩ := rGs_new hW h2 (t := t) (by omega) (by omega)
  refine kk q w1 _ rfl H1 ⟨X, w2, ?_⟩ hS1
  rw [w3, rEnt, if_neg (by omega), he q]
  exact h1
theorem s_newI (F : Fx Γ p s m meth c args cc nL own ws rt) (hR : Rep Γ σ H) (hS : va_S (rA Γ) s.heap H locs) (t : Nat) {n : Nat} (ht : 100 ≤ t) (hr : rAr t = (0, n)) (harr : Cond.arrayClass .int ∈ ws) {i : Int32} (hi : i = nI n) (hn : n < 100000) (hcells : cells + 1 ≤ R.cells) (hslots : slots + n ≤ R.slots) (hdg : decode cc pc = .ok (.newarray .int, 2))
    (kk : ∀ q : Nat, sK σ q = 0 → ∀ σ' : St, σ' = uN σ q t → ∀ H1 : Heap, Rep Γ σ' H1 → va_S (rA Γ) s.heap H1 locs → W p l e R s m args below meth c H1 locs (cells + 1) (slots + n) Q (F0 m (pc + 2) ls (.ref q :: rest))) : W p l e R s m args below meth c H locs cells slots Q (F0 m pc ls (.int i :: rest)) :=
  s_newG F hR hS ht (atype := .int) harr rfl 0 rfl (a0 := (n, .inl (fun _ => 0))) (fun _ => rfl) (fun q => by rw [hr]; simp only [rAe]; simp [sI, uN]) hi hn (by show n * 4 ≤ _; omega) hcells hslots hdg kk
theorem s_newJ (F : Fx Γ p s m meth c args cc nL own ws rt) (hR : Rep Γ σ H) (hS : va_S (rA Γ) s.heap H locs) (t : Nat) {n : Nat} (ht : 100 ≤ t) (hr : rAr t = (1, n)) (harr : Cond.arrayClass .long ∈ ws) {i : Int32} (hi : i = nI n) (hn : n < 100000) (hcells : cells + 1 ≤ R.cells) (hslots : slots + n ≤ R.slots) (hdg : decode cc pc = .ok (.newarray .long, 2))
    (kk : ∀ q : Nat, sK σ q = 0 → ∀ σ' : St, σ' = uN σ q t → ∀ H1 : Heap, Rep Γ σ' H1 → va_S (rA Γ) s.heap H1 locs → W p l e R s m args below meth c H1 locs (cells + 1) (slots + n) Q (F0 m (pc + 2) ls (.ref q :: rest))) : W p l e R s m args below meth c H locs cells slots Q (F0 m pc ls (.int i :: rest)) :=
  s_newG F hR hS ht (atype := .long) harr rfl 1 rfl (a0 := (n, .inr (.inl (fun _ => 0)))) (fun _ => rfl) (fun q => by rw [hr]; simp only [rAe]; simp [sJ, uN]) hi hn (by show n * 8 ≤ _; omega) hcells hslots hdg kk
theorem s_newZ (F : Fx Γ p s m meth c args cc nL own ws rt) (hR : Rep Γ σ H) (hS : va_S (rA Γ) s.heap H locs) (t : Nat) {n : Nat} (ht : 100 ≤ t) (hr : rAr t = (2, n)) (harr : Cond.arrayClass .boolean ∈ ws) {i : Int32} (hi : i = nI n) (hn : n < 100000) (hcells : cells + 1 ≤ R.cells) (hslots : slots + n ≤ R.slots) (hdg : decode cc pc = .ok (.newarray .boolean, 2))
    (kk : ∀ q : Nat, sK σ q = 0 → ∀ σ' : St, σ' = uN σ q t → ∀ H1 : Heap, Rep Γ σ' H1 → va_S (rA Γ) s.heap H1 locs → W p l e R s m args below meth c H1 locs (cells + 1) (slots + n) Q (F0 m (pc + 2) ls (.ref q :: rest))) : W p l e R s m args below meth c H locs cells slots Q (F0 m pc ls (.int i :: rest)) :=
  s_newG F hR hS ht (atype := .boolean) harr rfl 2 rfl (a0 := (n, .inl (fun _ => 0))) (fun _ => rfl) (fun q => by rw [hr]; simp only [rAe]; simp [sI, uN]) hi hn (by show n * 1 ≤ _; omega) hcells hslots hdg kk
theorem s_newB (F : Fx Γ p s m meth c args cc nL own ws rt) (hR : Rep Γ σ H) (hS : va_S (rA Γ) s.heap H locs) (t : Nat) {n index : Nat} (ht : 100 ≤ t) (hr : rAr t = (3, n)) (hcl : Cond.classLink own index "ClearingFiles$Batch" ∈ ws) {i : Int32} (hi : i = nI n) (hn : n < 100000) (hcells : cells + 1 ≤ R.cells) (hslots : slots + n ≤ R.slots) (hdg : decode cc pc = .ok (.anewarray index, 3))
    (kk : ∀ q : Nat, sK σ q = 0 → ∀ σ' : St, σ' = uN σ q t → ∀ H1 : Heap, Rep Γ σ' H1 → va_S (rA Γ) s.heap H1 locs → W p l e R s m args below meth c H1 locs (cells + 1) (slots + n) Q (F0 m (pc + 3) ls (.ref q :: rest))) : W p l e R s m args below meth c H locs cells slots Q (F0 m pc ls (.int i :: rest)) := by
  obtain ⟨X, hW, hG⟩ := hR
  obtain ⟨w, hP, hD, hGw⟩ := hG
  subst hi
  refine va_newq F.1.1 F.1.2.1 F.1.2.2.2.1 (F.1.2.2.2.2 _ hcl) F.2.1.2.2.2.2.2.2.2.2.2.1 F.2.1.1 hP hD hS (fun q hq => Nat.le_trans F.2.1.2.1 hq) (nI_pos (by omega)) (nI_clamp (by omega)) (by omega) hcells hslots hdg fun q cA H1 hK1 hP1 hD1 hS1 => ?_
  have e1 : cA = Γ.2.2.1 3 := va_RA_uniq (hK1.2 5 (cA, .object "ClearingFiles$Batch") rfl).2 (F.2.1.1.2 3 _ rfl).2
  subst e1
  obtain ⟨h1, h2⟩ := rW.push hGw hP1 hD1
  obtain ⟨w1, w2, w3⟩ := rGs_new hW h2 (t := t) (by omega) (by omega)
  refine kk q w1 _ rfl H1 ⟨X, w2, ?_⟩ hS1
  rw [w3, rEnt, if_neg (by omega), hr]
  have e2 : rAe Γ (uN σ q t) t q (3, n) = .inl (Γ.2.2.1 3, n, .inr (.inr (.inr (.inr (fun _ => none))))) := by simp [rAe, sR, uN]
  rw [e2]
  exact h1
theorem s_cast (F : Fx Γ p s m meth c args cc nL own ws rt) (hR : Rep Γ σ H) {t : Nat} (hk : sK σ a = t) (ht : 0 < t ∧ t < 10) {C : String} {T : u_T} {N index : Nat} (hc : vwCl[rCi t]? = some (C, T, N)) (hlink : Cond.classLink own index C ∈ ws) (hdg : decode cc pc = .ok (.checkcast index, 3))
    (kk : W p l e R s m args below meth c H locs cells slots Q (F0 m (pc + 3) ls (.ref a :: rest))) : W p l e R s m args below meth c H locs cells slots Q (F0 m pc ls (.ref a :: rest)) :=
  va_castS F.1.1 F.1.2.1 F.1.2.2.2.1 (F.1.2.2.2.2 _ hlink) (F.2.1.1.1 _ _ hc).2 (s_recv F hR hk (by omega) hc) hdg kk
theorem s_alen (F : Fx Γ p s m meth c args cc nL own ws rt) (hR : Rep Γ σ H) {t : Nat} (hk : sK σ a = t) (ht : 100 ≤ t) (t0 : Nat) {n : Nat} (hr : rAr t = (t0, n)) {v : Int32} (hv : nI n = v) (hdg : decode cc pc = .ok (.arraylength, 1))
    (kk : W p l e R s m args below meth c H locs cells slots Q (F0 m (pc + 1) ls (.int v :: rest))) : W p l e R s m args below meth c H locs cells slots Q (F0 m pc ls (.ref a :: rest)) := by
  obtain ⟨X, -, hG⟩ := hR
  have he : rGs Γ σ X a = some (rAe Γ σ t a (t0, n)) := by rw [rGs_ob hk (by omega) (by omega), rEnt, if_neg (by omega), hr]
  match t0, he with
  | 0, he => exact g_alen F.1.1 F.1.2.1 F.2.1 hG 0 rfl he hv hdg kk
  | 1, he => exact g_alen F.1.1 F.1.2.1 F.2.1 hG 1 rfl he hv hdg kk
  | 2, he => exact g_alen F.1.1 F.1.2.1 F.2.1 hG 2 rfl he hv hdg kk
  | _ + 3, he => exact g_alen F.1.1 F.1.2.1 F.2.1 hG 3 rfl he hv hdg kk
theorem k_runIN (F : Fx Γ p s m meth c args cc nL own ws rt) {P : Heap → Prop} (hR : P H) (hS : va_S (rA Γ) s.heap H locs) {lv : List (Nat × Value)} (hl : lv_has ls nL lv) {y : MethodName} {index maxL mc ms b : Nat} {bytes : ByteArray} {wy wy' : List Cond} {rm : Room} {Qc : Array Value → State → Outcome → State → Prop} (n : Nat) (As : List Value) (hM : Met l y wy rm (rPc Γ vwCl (.ref b :: As) P) Qc mc ms (rA Γ)) (hG : GoodIn ws wy) (hw : wy = Cond.code y bytes maxL none :: wy') (hrc : rm.cells = mc) (hrs : rm.slots = ms) (hini : Cond.initialized y.cls ∈ ws) (hlk : (own, index, y) ∈ rNl) (him : Cond.instanceMethod y ∈ ws) (hy1 : y.name = "<init>") (hd : y.cls ≠ "java/lang/invoke/MethodHandle" ∧ y.cls ≠ "java/lang/invoke/VarHandle" ∧ (parseMethodDescriptor y.desc).map (fun d => d.parameters.length) = some n) (hRm : rm.frames + 1 ≤ R.frames ∧ 8 + (maxL + 11) + rm.locals ≤ R.locals) (hn : As.length = n) (hst : (rest.map fun v => v.category).sum ≤ 8) (hdg : decode cc pc = .ok (.invokespecial index, 3)) (hf : cells + mc ≤ R.cells ∧ slots + ms ≤ R.slots) :
    va_Run p l e R s m args below meth c H locs cells slots mc ms (F0 m pc ls (As.reverse ++ .ref b :: rest)) rest (Qc (Value.ref b :: As).toArray) (rA Γ) :=
  va_runIN (As := As) (rest := rest) F.1 hM ⟨va_cnB n F.1.2.2.2.2 hG hw hrc hrs (F.2.1.2.2.2.2.2.2.2.2.2.2.2.2.2.2 _ hlk) (F.1.2.2.2.2 _ hini) hd hRm, hy1, F.1.2.2.2.2 _ him⟩ ⟨rPc_blind, fun U hU hW => ⟨rfl, by rw [hU]; exact hR, k_ev F hS hU hW⟩⟩ rfl hn hl.1 rfl (lv_room hst) hdg hf
end RU
theorem rnd_1 : ((rFl 1).map Prod.snd).Nodup := by decide +kernel
theorem rnd_2 : ((rFl 2).map Prod.snd).Nodup := by decide +kernel
theorem rnd_3 : ((rFl 3).map Prod.snd).Nodup := by decide +kernel
theorem rnd_4 : ((rFl 4).map Prod.snd).Nodup := by decide +kernel
theorem rnd_5 : ((rFl 5).map Prod.snd).Nodup := by decide +kernel
theorem rnd_6 : ((rFl 6).map Prod.snd).Nodup := by decide +kernel
theorem rnd_7 : ((rFl 7).map Prod.snd).Nodup := by decide +kernel
theorem rnd_8 : ((rFl 8).map Prod.snd).Nodup := by decide +kernel
theorem rnd_9 : ((rFl 9).map Prod.snd).Nodup := by decide +kernel
theorem rnd_19 : ((rFl 19).map Prod.snd).Nodup := by decide +kernel
