/-! ArrayList's members, over the abstract memory -/
def wL_init (a t : Nat) (post : St → Prop) (σ : St) : Prop := sK σ a = 19 ∧ sI σ 952 a 0 = 0 ∧ (20 ≤ t ∧ t < 23) ∧ post (uT σ a t)
def wL_size (a : Nat) (post : Int32 → St → Prop) (σ : St) : Prop := (20 ≤ sK σ a ∧ sK σ a < 23) ∧ post (nI (sL σ a).length) σ
def wL_get (a : Nat) (i : Int32) (post : Option Nat → St → Prop) (σ : St) : Prop := (20 ≤ sK σ a ∧ sK σ a < 23) ∧ ∃ x, (sL σ a)[i.toNatClampNeg]? = some x ∧ ¬ i < 0 ∧ post (some x) σ
def wL_add (a : Nat) (x : Option Nat) (post : Int32 → St → Prop) (σ : St) : Prop := (20 ≤ sK σ a ∧ sK σ a < 23) ∧ ∃ y, x = some y ∧ sK σ y = rElt (sK σ a) ∧ (sL σ a).length < 65 ∧ post 1 (uL σ a (sL σ a ++ [y]))
def wL_addAt (a : Nat) (i : Int32) (x : Option Nat) (post : St → Prop) (σ : St) : Prop := (20 ≤ sK σ a ∧ sK σ a < 23) ∧ ∃ y, x = some y ∧ sK σ y = rElt (sK σ a) ∧ ¬ i < 0 ∧ i.toNatClampNeg ≤ (sL σ a).length ∧ (sL σ a).length < 65 ∧ post (uL σ a ((sL σ a).take i.toNatClampNeg ++ y :: (sL σ a).drop i.toNatClampNeg))
def wL_remove (a : Nat) (i : Int32) (post : Option Nat → St → Prop) (σ : St) : Prop := (20 ≤ sK σ a ∧ sK σ a < 23) ∧ ∃ x, (sL σ a)[i.toNatClampNeg]? = some x ∧ ¬ i < 0 ∧ post (some x) (uL σ a ((sL σ a).eraseIdx i.toNatClampNeg))
def wL_clear (a : Nat) (post : St → Prop) (σ : St) : Prop := (20 ≤ sK σ a ∧ sK σ a < 23) ∧ post (uL σ a [])
abbrev rmL_init : Room := { frames := 3, cells := 0, slots := 0, locals := 80 }
abbrev rmL_size : Room := { frames := 0, cells := 0, slots := 0, locals := 0 }
abbrev rmL_get : Room := { frames := 2, cells := 0, slots := 0, locals := 80 }
abbrev rmL_add : Room := { frames := 6, cells := 1, slots := 128, locals := 200 }
abbrev rmL_addAt : Room := { frames := 6, cells := 1, slots := 128, locals := 200 }
abbrev rmL_remove : Room := { frames := 3, cells := 0, slots := 0, locals := 100 }
abbrev rmL_clear : Room := { frames := 0, cells := 0, slots := 0, locals := 0 }
theorem rGs_ls {Γ : rGam} {σ : St} {X : rHid} {a : Nat} (h : 20 ≤ sK σ a ∧ sK σ a < 23) : rGs Γ σ X a = some (.inr (0, [.int (X.1 a), .ref (X.2.1 a), .int (nI (sL σ a).length)])) := by
  simp only [rGs]
  rw [if_neg (by omega), if_pos h]
theorem rGs_bk {Γ : rGam} {σ : St} {X : rHid} {a b : Nat} (h0 : sK σ b = 0) (h1 : X.2.2.2 b = a + 1) : rGs Γ σ X b = some (.inl (Γ.2.2.1 4, X.2.2.1 a, .inr (.inr (.inr (.inr (fun i => (sL σ a)[i]?)))))) := by
  simp [rGs, h0, h1]
theorem rup_rup (G : rG) (a : Nat) (e e' : va_E) : rup (rup G a e) a e' = rup G a e' := by
  funext z
  by_cases h : z = a <;> simp [rup, h]
theorem rup_comm (G : rG) {a b : Nat} (h : a ≠ b) (e e' : va_E) : rup (rup G a e) b e' = rup (rup G b e') a e := by
  funext z
  by_cases h1 : z = a
  · subst h1
    simp [rup, h]
  · simp [rup, h1]
theorem lt_of_vp {i : Int32} {n : Nat} (h0 : ¬ i < 0) (h : i.toNatClampNeg < n) (hn : n < 2 ^ 31) : i < nI n := by
  obtain ⟨j, hj, rfl⟩ := nI_of h0
  rw [nI_clamp hj] at h
  exact nI_lt h hn
section GJ
variable {p : Program} {l : Launch} {e : Env} {R : Room} {s : State} {m : MethodId} {args : Array Value} {below : List Frame} {meth : Method} {c : Code} {H : Heap} {locs : List Loc} {cells slots : Nat} {Q : State → Prop}
variable {cc : ByteArray} {nL : Nat} {own : String} {ws : List Cond} {rt : Option FieldType} {pc : Nat} {ls : Array Slot} {rest : List Value} {Γ : rGam} {a : Nat} {G : rG}
variable {st0 : List Value} {aa : Array Value} {mc ms : Nat}
theorem g_ci {S : Type} {post : Int32 → S → Prop} {B : S → Heap → Prop} (hS : va_S (rA Γ) s.heap H locs) (hr : va_Run p l e R s m args below meth c H locs cells slots mc ms (F0 m pc ls st0) rest (va_Qi post (fun u t => B u t.heap) (rA Γ) aa) (rA Γ))
    (kk : ∀ (r : Int32) (u : S) (H1 : Heap) (locs1 : List Loc), post r u → B u H1 → va_S (rA Γ) s.heap H1 locs1 → W p l e R s m args below meth c H1 locs1 (cells + mc) (slots + ms) Q (F0 m (pc + 3) ls (.int r :: rest))) : W p l e R s m args below meth c H locs cells slots Q (F0 m pc ls st0) :=
  va_calli hr hS (fun _ _ h => h) (fun _ h => h) fun r u t H1 locs1 ht _ hp hB _ _ hS1 => kk r u H1 locs1 hp (by rw [← ht]; exact hB) hS1
theorem g_cq {S : Type} {post : Option Nat → S → Prop} {B : S → Heap → Prop} (hS : va_S (rA Γ) s.heap H locs) (hr : va_Run p l e R s m args below meth c H locs cells slots mc ms (F0 m pc ls st0) rest (va_Qq post (fun u t => B u t.heap) (rA Γ) aa) (rA Γ))
    (kk : ∀ (r : Option Nat) (u : S) (H1 : Heap) (locs1 : List Loc), post r u → B u H1 → va_S (rA Γ) s.heap H1 locs1 → W p l e R s m args below meth c H1 locs1 (cells + mc) (slots + ms) Q (F0 m (pc + 3) ls (va_rf r :: rest))) : W p l e R s m args below meth c H locs cells slots Q (F0 m pc ls st0) :=
  va_callq hr hS (fun _ _ h => h) (fun _ h => h) fun r u t H1 locs1 ht _ hp hB _ _ hS1 => kk r u H1 locs1 hp (by rw [← ht]; exact hB) hS1
theorem g_cv {S : Type} {post : S → Prop} {B : S → Heap → Prop} (hS : va_S (rA Γ) s.heap H locs) (hr : va_Run p l e R s m args below meth c H locs cells slots mc ms (F0 m pc ls st0) rest (va_Qv post (fun u t => B u t.heap) (rA Γ) aa) (rA Γ))
    (kk : ∀ (u : S) (H1 : Heap) (locs1 : List Loc), post u → B u H1 → va_S (rA Γ) s.heap H1 locs1 → W p l e R s m args below meth c H1 locs1 (cells + mc) (slots + ms) Q (F0 m (pc + 3) ls rest)) : W p l e R s m args below meth c H locs cells slots Q (F0 m pc ls st0) :=
  va_callv hr hS (fun _ _ h => h) (fun _ h => h) fun u t H1 locs1 ht _ hp hB _ _ hS1 => kk u H1 locs1 hp (by rw [← ht]; exact hB) hS1
theorem g_iret {S : Type} (F : Fx Γ p s m meth c args cc nL own ws (some .int)) (u : S) {B : S → Heap → Prop} (hB : B u H) (hS : va_S (rA Γ) s.heap H locs) {v : Int32} {post : Int32 → S → Prop} (h : post v u) {mc ms : Nat} (hc : cells ≤ mc ∧ slots ≤ ms) (hdg : decode cc pc = .ok (.ireturn, 1)) : W p l e R s m args below meth c H locs cells slots (MQ below (va_Qi post (fun u t => B u t.heap) (rA Γ)) args s mc ms (rA Γ)) (F0 m pc ls [.int v]) := by
  refine W.widen hc.1 hc.2 ?_
  exact W.iret (v := v) F.1.1 F.1.2.1 F.2.2.2 (fun t ht hW => ⟨⟨v, u, rfl, h, by subst ht; exact hB⟩, hS.F ht⟩) hS.2.2 hdg F.2.2.1
theorem g_vret {S : Type} (F : Fx Γ p s m meth c args cc nL own ws none) (u : S) {B : S → Heap → Prop} (hB : B u H) (hS : va_S (rA Γ) s.heap H locs) {post : S → Prop} (h : post u) {mc ms : Nat} (hc : cells ≤ mc ∧ slots ≤ ms) (hdg : decode cc pc = .ok (.return_, 1)) : W p l e R s m args below meth c H locs cells slots (MQ below (va_Qv post (fun u t => B u t.heap) (rA Γ)) args s mc ms (rA Γ)) (F0 m pc ls []) := by
  refine W.widen hc.1 hc.2 ?_
  exact W.vret F.1.1 F.1.2.1 F.2.2.2 (fun t ht hW => ⟨⟨u, rfl, h, by subst ht; exact hB⟩, hS.F ht⟩) hS.2.2 hdg F.2.2.1
theorem g_aret {S : Type} {C : String} (F : Fx Γ p s m meth c args cc nL own ws (some (.object C))) (u : S) {B : S → Heap → Prop} (hB : B u H) (hS : va_S (rA Γ) s.heap H locs) {r : Option Nat} {post : Option Nat → S → Prop} (h : post r u) {mc ms : Nat} (hc : cells ≤ mc ∧ slots ≤ ms) (hdg : decode cc pc = .ok (.areturn, 1)) : W p l e R s m args below meth c H locs cells slots (MQ below (va_Qq post (fun u t => B u t.heap) (rA Γ)) args s mc ms (rA Γ)) (F0 m pc ls [va_rf r]) := by
  refine W.widen hc.1 hc.2 ?_
  exact W.aret (v := va_rf r) F.1.1 F.1.2.1 F.2.2.2 (Or.inl ⟨C, rfl⟩) (va_rf_or r) (fun t ht hW => ⟨⟨r, u, rfl, h, by subst ht; exact hB⟩, hS.F ht⟩) hS.2.2 hdg F.2.2.1
theorem g_aretA {S : Type} {ty : FieldType} (F : Fx Γ p s m meth c args cc nL own ws (some (.array ty))) (u : S) {B : S → Heap → Prop} (hB : B u H) (hS : va_S (rA Γ) s.heap H locs) {r : Option Nat} {post : Option Nat → S → Prop} (h : post r u) {mc ms : Nat} (hc : cells ≤ mc ∧ slots ≤ ms) (hdg : decode cc pc = .ok (.areturn, 1)) : W p l e R s m args below meth c H locs cells slots (MQ below (va_Qq post (fun u t => B u t.heap) (rA Γ)) args s mc ms (rA Γ)) (F0 m pc ls [va_rf r]) := by
  refine W.widen hc.1 hc.2 ?_
  exact W.aret (v := va_rf r) F.1.1 F.1.2.1 F.2.2.2 (Or.inr ⟨ty, rfl⟩) (va_rf_or r) (fun t ht hW => ⟨⟨r, u, rfl, h, by subst ht; exact hB⟩, hS.F ht⟩) hS.2.2 hdg F.2.2.1
theorem g_arec (hE : rEv Γ vwCl s) (hP : rW Γ vwCl G H) {b n : Nat} {f : Nat → Option Nat} (hB : G b = some (.inl (Γ.2.2.1 4, n, .inr (.inr (.inr (.inr f)))))) : ∃ cell : Cell, H[b]? = some cell ∧ cell.vm.isStatics = false ∧ s.vm.findClass "[Ljava/lang/Object;" = some cell.cls := by
  obtain ⟨w, hP, -, hG⟩ := hP
  obtain ⟨k, hk⟩ := hG b _ hB
  obtain ⟨_, _, _, _, _, h⟩ := (hE.1.2 4 _ rfl).2
  have h : s.vm.findClass "[Ljava/lang/Object;" = some (Γ.2.2.1 4) := h
  exact ⟨_, hP k _ hk, rfl, h⟩
theorem g_newq (hexec : p.tables.exec = Jvm.exec) (hb : c.code = cc) {index : Nat} (hown : s.vm.findClass own = some m.cls) (hclink : (Cond.classLink own index "java/lang/Object").before args s = true) (hE : rEv Γ vwCl s) (hP : rW Γ vwCl G H) (hS : va_S (rA Γ) s.heap H locs)
    {n : Int32} {N' : Nat} (hn : ¬ n < 0) (hN : n.toNatClampNeg = N') (hbytes : N' * 4 ≤ 536870912) (hcells : cells + 1 ≤ R.cells) (hslots : slots + N' ≤ R.slots) (hdg : decode cc pc = .ok (.anewarray index, 3))
    (kk : ∀ (q : Nat) (H1 : Heap), G q = none → Γ.2.1 ≤ q → rW Γ vwCl (rup G q (.inl (Γ.2.2.1 4, N', .inr (.inr (.inr (.inr (fun _ => none))))))) H1 → va_S (rA Γ) s.heap H1 locs → W p l e R s m args below meth c H1 locs (cells + 1) (slots + N') Q (F0 m (pc + 3) ls (.ref q :: rest))) : W p l e R s m args below meth c H locs cells slots Q (F0 m pc ls (.int n :: rest)) := by
  obtain ⟨w, hP, hD, hGw⟩ := hP
  refine va_newq hexec hb hown hclink hE.2.2.2.2.2.2.2.2.1 hE.1 hP hD hS (fun q hq => Nat.le_trans hE.2.1 hq) hn hN hbytes hcells hslots hdg fun q cA H1 hK1 hP1 hD1 hS1 => ?_
  have e1 : cA = Γ.2.2.1 4 := va_RA_uniq (hK1.2 5 (cA, .object "java/lang/Object") rfl).2 (hE.1.2 4 _ rfl).2
  subst e1
  obtain ⟨h1, h2⟩ := rW.push hGw hP1 hD1
  exact kk q H1 h2 (h1.base (rup_self _ _ _)) h1 hS1
theorem g_copyq (hexec : p.tables.exec = Jvm.exec) (hb : c.code = cc) (hml : c.maxLocals = ls.size) {index : Nat} (hown : s.vm.findClass own = some m.cls) (hlink : (Cond.methodLink own index arraycopyName).before args s = true) (hnat : (Cond.native arraycopyName).before args s = true) (hstat : (Cond.static arraycopyName).before args s = true) (hini : (Cond.initialized "java/lang/System").before args s = true)
    (hE : rEv Γ vwCl s) (hP : rW Γ vwCl G H) (hS : va_S (rA Γ) s.heap H locs) {a0 n0 n1 : Nat} {f g : Nat → Option Nat} (ha0 : G a0 = some (.inl (Γ.2.2.1 4, n0, .inr (.inr (.inr (.inr f)))))) (ha1 : G a = some (.inl (Γ.2.2.1 4, n1, .inr (.inr (.inr (.inr g))))))
    {sp dp n : Int32} (h1 : ¬ sp < 0) (h2 : ¬ dp < 0) (h3 : ¬ n < 0) (h4 : sp.toNatClampNeg + n.toNatClampNeg ≤ n0) (h5 : dp.toNatClampNeg + n.toNatClampNeg ≤ n1) (ci : Nat) (r : vw_C) (hc : vwCl[ci]? = some r) (hca : r.1 = "ClearingFiles$Bank" ∨ r.1 = "ClearingFiles$Account" ∨ r.1 = "ClearingFiles$Entry") (hel : ∀ i : Nat, i < n.toNatClampNeg → ∀ y : Nat, f (sp.toNatClampNeg + i) = some y → ∃ vs, G y = some (.inr (ci, vs)))
    (hframes : 1 ≤ R.frames) (hlocals : (rest.map fun v => v.category).sum + (nativeFrameWords "java/lang/System" "arraycopy" 5 + 11) ≤ R.locals) (hdg : decode cc pc = .ok (.invokestatic index, 3))
    (kk : ∀ (H1 : Heap) (locs1 : List Loc), rW Γ vwCl (rup G a (.inl (Γ.2.2.1 4, n1, .inr (.inr (.inr (.inr (va_cpy f g sp.toNatClampNeg dp.toNatClampNeg n.toNatClampNeg))))))) H1 → va_S (rA Γ) s.heap H1 locs1 → W p l e R s m args below meth c H1 locs1 cells slots Q (F0 m (pc + 3) ls rest)) : W p l e R s m args below meth c H locs cells slots Q (F0 m pc ls (.int n :: .int dp :: .ref a :: .int sp :: .ref a0 :: rest)) := by
  have hP0 := hP
  obtain ⟨w, hP, hD, hGw⟩ := hP
  obtain ⟨q0, hq0⟩ := hGw a0 _ ha0
  obtain ⟨q1, hq1⟩ := hGw a _ ha1
  refine va_copyq hexec hb hml hown hlink hnat hstat hini hE.1 hP hD hS q0 q1 4 4 hq0 hq1 rfl rfl h1 h2 h3 h4 h5 (C := r.1) (fun i hi y hy => ?_) (fun comp c0 e1 e2 => ?_) hframes hlocals hdg fun H1 locs1 hP1 hD1 hS1 => kk H1 locs1 (rW.set hD hq1 hGw hP1 hD1) hS1
  · obtain ⟨vs, hv⟩ := hel i hi y hy
    exact g_recv hE hP0 hc hv
  · have hcs : va_Nw (.castable r.1 "java/lang/Object") s := by
      rcases hca with h | h | h <;> rw [h]
      · exact hE.2.2.2.2.2.2.2.2.2.2.1
      · exact hE.2.2.2.2.2.2.2.2.2.2.2.1
      · exact hE.2.2.2.2.2.2.2.2.2.2.2.2.1
    obtain ⟨c1, t1, f1, f2, f3⟩ := Cond.castable_spec (va_Nw.use (A := args) rfl hcs)
    cases e1.symm.trans f2
    cases e2.symm.trans f1
    exact f3
end GJ
theorem elt_cls {Γ : rGam} {σ : St} {X : rHid} {a : Nat} (hk : 20 ≤ sK σ a ∧ sK σ a < 23) : ∃ (ci : Nat) (r : vw_C), vwCl[ci]? = some r ∧ (r.1 = "ClearingFiles$Bank" ∨ r.1 = "ClearingFiles$Account" ∨ r.1 = "ClearingFiles$Entry") ∧ ∀ y, sK σ y = rElt (sK σ a) → ∃ vs, rGs Γ σ X y = some (.inr (ci, vs)) := by
  have h : sK σ a = 20 ∨ sK σ a = 21 ∨ sK σ a = 22 := by omega
  have key : ∀ (t y : Nat), sK σ y = t → 0 < t → t < 20 → rGs Γ σ X y = some (.inr (rCi t, (rFl t).map (rFv σ y))) := fun t y h h0 h1 => by rw [rGs_ob h (by omega) (by omega), rEnt, if_pos (by omega)]
  rcases h with h | h | h <;> rw [h]
  · exact ⟨2, (RX1, TX1, 6), rfl, Or.inl rfl, fun y hy => ⟨_, key 2 y hy (by decide) (by decide)⟩⟩
  · exact ⟨1, (RX0, TX0, 4), rfl, Or.inr (Or.inl rfl), fun y hy => ⟨_, key 1 y hy (by decide) (by decide)⟩⟩
  · exact ⟨4, (RX3, TX3, 9), rfl, Or.inr (Or.inr rfl), fun y hy => ⟨_, key 4 y hy (by decide) (by decide)⟩⟩
theorem rEnt_uL {Γ : rGam} {σ : St} {a : Nat} {l : List Nat} (t b : Nat) : rEnt Γ (uL σ a l) t b = rEnt Γ σ t b := rfl
theorem Rep_upd {Γ : rGam} {σ : St} {X : rHid} {a b n : Nat} {m : Int32} {l : List Nat} {G : rG} {H : Heap} (hW : rWf Γ σ X) (hk : 20 ≤ sK σ a ∧ sK σ a < 23) (hb : sK σ b = 0) (ho : X.2.2.2 b = 0 ∨ X.2.2.2 b = a + 1) (hl : l.length ≤ n) (hn : n < 100000) (hn0 : 10 ≤ n) (he : ∀ x ∈ l, sK σ x = rElt (sK σ a)) (hG : rW Γ vwCl G H) (hA : G a = some (.inr (0, [.int m, .ref b, .int (nI l.length)]))) (hB : G b = some (.inl (Γ.2.2.1 4, n, .inr (.inr (.inr (.inr (fun i => l[i]?))))))) (hO : ∀ z, z ≠ a → z ≠ b → G z = rGs Γ σ X z) : Rep Γ (uL σ a l) H := by
  have hba : b ≠ a := fun e => by rw [e] at hb; omega
  have hLa : sL (uL σ a l) a = l := by simp [sL, uL]
  have hLn : ∀ z, z ≠ a → sL (uL σ a l) z = sL σ z := fun z hz => by simp [sL, uL, hz]
  have hKn : ∀ z, sK (uL σ a l) z = sK σ z := fun _ => rfl
  refine ⟨(fun z => if z = a then m else X.1 z, fun z => if z = a then b else X.2.1 z, fun z => if z = a then n else X.2.2.1 z, fun z => if z = b then a + 1 else if X.2.2.2 z = a + 1 then 0 else X.2.2.2 z), ⟨fun a2 h2 => ?_, fun a2 b2 h2 => ?_⟩, hG.mono fun z e hz => ?_⟩
  · rw [hKn] at h2
    by_cases e2 : a2 = a
    · subst e2
      simp only [hLa, if_true]
      exact ⟨hl, hn, he, Or.inr ⟨trivial, hb, hn0⟩⟩
    · simp only [hLn a2 e2, e2, if_false]
      obtain ⟨w1, w2, w3, w4⟩ := hW.1 a2 h2
      refine ⟨w1, w2, w3, ?_⟩
      rcases w4 with w4 | ⟨w4, w5, w6⟩
      · exact Or.inl w4
      · refine Or.inr ⟨?_, w5, w6⟩
        have hne : X.2.1 a2 ≠ b := fun e => by
          rw [e] at w4
          rcases ho with ho | ho <;> omega
        rw [if_neg hne, if_neg (by omega)]
        exact w4
  · rw [hKn]
    by_cases e2 : b2 = b
    · subst e2
      simp only [if_true] at h2
      have : a2 = a := by omega
      subst this
      simp only [if_true]
      exact ⟨trivial, hk⟩
    · simp only [e2, if_false] at h2
      by_cases e3 : X.2.2.2 b2 = a + 1
      · rw [if_pos e3] at h2
        omega
      · rw [if_neg e3] at h2
        have hne : a2 ≠ a := fun e => e3 (by rw [h2, e])
        simp only [hne, if_false]
        exact hW.2 a2 b2 h2
  · by_cases e1 : z = a
    · subst e1
      simp only [rGs, hKn, hLa, if_true] at hz
      rw [if_neg (by omega), if_pos hk] at hz
      rw [hA]
      exact hz
    · by_cases e2 : z = b
      · subst e2
        simp only [rGs, hKn, hb, if_true] at hz
        rw [if_neg (by omega)] at hz
        simp only [Nat.add_sub_cancel, hLa, if_true] at hz
        rw [hB]
        exact hz
      · rw [hO z e1 e2]
        simp only [rGs, hKn, e1, e2, if_false, rEnt_uL] at hz ⊢
        by_cases h0 : sK σ z = 0
        · simp only [h0, if_true] at hz ⊢
          by_cases h3 : X.2.2.2 z = a + 1
          · rw [if_pos h3] at hz
            simp at hz
          · rw [if_neg h3] at hz
            by_cases h4 : X.2.2.2 z = 0
            · simp [h4] at hz
            · have hne : X.2.2.2 z - 1 ≠ a := by omega
              simp only [h4, if_false, hne, hLn _ hne] at hz ⊢
              exact hz
        · simp only [h0, if_false, hLn z e1] at hz ⊢
          exact hz
/-- a list without an array of its own stays so -/
theorem Rep_upd0 {Γ : rGam} {σ : St} {X : rHid} {a : Nat} {m : Int32} {G : rG} {H : Heap} (hW : rWf Γ σ X) (hk : 20 ≤ sK σ a ∧ sK σ a < 23) (hb : X.2.1 a = Γ.2.2.2 0 ∧ X.2.2.1 a = 0) (hG : rW Γ vwCl G H) (hA : G a = some (.inr (0, [.int m, .ref (X.2.1 a), .int (nI 0)]))) (hO : ∀ z, z ≠ a → G z = rGs Γ σ X z) : Rep Γ (uL σ a []) H := by
  have hLa : sL (uL σ a []) a = [] := by simp [sL, uL]
  have hLn : ∀ z, z ≠ a → sL (uL σ a []) z = sL σ z := fun z hz => by simp [sL, uL, hz]
  have hKn : ∀ z, sK (uL σ a []) z = sK σ z := fun _ => rfl
  have hl0 : sL σ a = [] := by
    have := (hW.1 a hk).1
    rw [hb.2] at this
    exact List.eq_nil_of_length_eq_zero (by omega)
  have hLe : ∀ z, sL (uL σ a []) z = sL σ z := fun z => by
    by_cases e : z = a
    · subst e
      rw [hLa, hl0]
    · exact hLn z e
  refine ⟨(fun z => if z = a then m else X.1 z, X.2), ?_, hG.mono fun z e hz => ?_⟩
  · unfold rWf
    simp only [hKn, hLe]
    exact hW
  · by_cases e1 : z = a
    · subst e1
      simp only [rGs, hKn, hLa, if_true] at hz
      rw [if_neg (by omega), if_pos hk] at hz
      rw [hA]
      exact hz
    · rw [hO z e1]
      simp only [rGs, hKn, e1, if_false, rEnt_uL, hLe] at hz ⊢
      exact hz
theorem Rep_init {Γ : rGam} {σ : St} {X : rHid} {a t : Nat} {G : rG} {H : Heap} (hW : rWf Γ σ X) (hk : sK σ a = 19) (ht : 20 ≤ t ∧ t < 23) (hG : rW Γ vwCl G H) (hA : G a = some (.inr (0, [.int 0, .ref (Γ.2.2.2 0), .int (nI 0)]))) (hO : ∀ z, z ≠ a → G z = rGs Γ σ X z) : Rep Γ (uT σ a t) H := by
  have hLa : sL (uT σ a t) a = [] := by simp [sL, uT]
  have hLn : ∀ z, z ≠ a → sL (uT σ a t) z = sL σ z := fun z hz => by simp [sL, uT, hz]
  have hKa : sK (uT σ a t) a = t := by simp [sK, uT]
  have hKn : ∀ z, z ≠ a → sK (uT σ a t) z = sK σ z := fun z hz => by simp [sK, uT, hz]
  have hEn : ∀ t0 z, rEnt Γ (uT σ a t) t0 z = rEnt Γ σ t0 z := fun _ _ => rfl
  refine ⟨(fun z => if z = a then 0 else X.1 z, fun z => if z = a then Γ.2.2.2 0 else X.2.1 z, fun z => if z = a then 0 else X.2.2.1 z, X.2.2.2), ⟨fun a2 h2 => ?_, fun a2 b2 h2 => ?_⟩, hG.mono fun z e hz => ?_⟩
  · by_cases e2 : a2 = a
    · subst e2
      simp only [hLa, hKa, if_true]
      exact ⟨Nat.le_refl 0, by omega, fun _ h => absurd h List.not_mem_nil, Or.inl ⟨trivial, trivial⟩⟩
    · rw [hKn a2 e2] at h2
      simp only [hLn a2 e2, hKn a2 e2, e2, if_false]
      obtain ⟨w1, w2, w3, w4⟩ := hW.1 a2 h2
      refine ⟨w1, w2, fun x hx => ?_, ?_⟩
      · have h3 := w3 x hx
        have h4 : rElt (sK σ a2) ≠ 19 := by unfold rElt; split <;> (try split) <;> decide
        rw [hKn x (fun e => by rw [e, hk] at h3; exact h4 h3.symm)]
        exact h3
      · rcases w4 with w4 | ⟨w4, w5, w6⟩
        · exact Or.inl w4
        · refine Or.inr ⟨w4, ?_, w6⟩
          rw [hKn _ (fun e => by rw [e, hk] at w5; omega)]
          exact w5
  · obtain ⟨w1, w2⟩ := hW.2 a2 b2 h2
    have hne : a2 ≠ a := fun e => by rw [e, hk] at w2; omega
    simp only [hne, if_false, hKn a2 hne]
    exact ⟨w1, w2⟩
  · by_cases e1 : z = a
    · subst e1
      simp only [rGs, hKa, hLa, if_true] at hz
      rw [if_neg (by omega), if_pos ht] at hz
      rw [hA]
      exact hz
    · rw [hO z e1]
      simp only [rGs, hKn z e1, hLn z e1, e1, if_false, hEn] at hz ⊢
      by_cases h0 : sK σ z = 0
      · simp only [h0, if_true] at hz ⊢
        by_cases h4 : X.2.2.2 z = 0
        · simp [h4] at hz
        · have h5 := (hW.2 (X.2.2.2 z - 1) z (by omega)).2
          have hne : X.2.2.2 z - 1 ≠ a := fun e => by rw [e, hk] at h5; omega
          simp only [h4, if_false, hne, hLn _ hne] at hz ⊢
          exact hz
      · simp only [h0, if_false] at hz ⊢
        exact hz
theorem rEv_cast {Γ : rGam} {s : State} (hE : rEv Γ vwCl s) {C : String} (hca : C = "ClearingFiles$Bank" ∨ C = "ClearingFiles$Account" ∨ C = "ClearingFiles$Entry") : va_Nw (.castable C "java/lang/Object") s := by
  rcases hca with h | h | h <;> rw [h]
  · exact hE.2.2.2.2.2.2.2.2.2.2.1
  · exact hE.2.2.2.2.2.2.2.2.2.2.2.1
  · exact hE.2.2.2.2.2.2.2.2.2.2.2.2.1
set_option maxHeartbeats 4000000 in
set_option maxRecDepth 100000 in
theorem kJ3 (l : Launch) (Γ : rGam) (P : Heap → Prop) (i n : Int32) (h0 : ¬ i < 0) (h1 : i < n) : Met l yJ3_checkIndex_8e157 wsJ3_checkIndex_8e157 { frames := 0, cells := 0, slots := 0, locals := 0 } (rPc Γ vwCl [.int i, .int n, .null] P) (va_Qi (fun r (_ : Unit) => r = i) (fun _ t => P t.heap) (rA Γ)) 0 0 (rA Γ) := by
  refine Met.ofW (cc := cJ3_checkIndex_8e157) (maxL := 3) (ret := (some .int)) (by decide) rfl ?_
  intro p e s m args below meth c s₁ B hml hv
  obtain ⟨rfl, hP, hE⟩ := hv
  have F : Fx Γ p s m meth c _ cJ3_checkIndex_8e157 3 RJ3 wsJ3_checkIndex_8e157 (some .int) := ⟨⟨B.exec, B.bytes, hml, findClass_of_methodNamed B.named, atoms_spec (ws := wsJ3_checkIndex_8e157) B.pre⟩, hE, B.notSynchronized, B.returns⟩
  have hx := F.1.1
  have hb := F.1.2.1
  have hts := F.1.2.2.2.2
  have hown := F.1.2.2.2.1
  have hS : va_S (rA Γ) s.heap s.heap [] := va_S.rf
  have hl := lv_entry ([.int i, .int n, .null]) (n := 3) (Nat.le_of_ble_eq_true rfl)
  rw [lg_entry_eq]
  generalize (lg_sl ([.int i, .int n, .null]) ++ List.replicate (3 - (lg_sl ([.int i, .int n, .null])).length) Slot.unset).toArray = ls at hl ⊢
  have hl : lv_has ls 3 [(0, .int i), (1, .int n), (2, .null)] := hl
  refine lv_iload_n hx hb dJ3_checkIndex_8e157_0 rfl (lv_at hl 0 rfl) ?_
  refine lv_if_lt (tgt := 9) hx hb dJ3_checkIndex_8e157_1 (by decide) (fun c => absurd c h0) (fun _ => ?_)
  refine lv_iload_n hx hb dJ3_checkIndex_8e157_4 rfl (lv_at hl 0 rfl) ?_
  refine lv_iload_n hx hb dJ3_checkIndex_8e157_5 rfl (lv_at hl 1 rfl) ?_
  refine lv_icmp_lt (tgt := 16) hx hb dJ3_checkIndex_8e157_6 (by decide) (fun _ => ?_) (fun c => absurd h1 c)
  refine lv_iload_n hx hb dJ3_checkIndex_8e157_16 rfl (lv_at hl 0 rfl) ?_
  exact g_iret F () hP hS rfl ⟨Nat.le_refl 0, Nat.le_refl 0⟩ dJ3_checkIndex_8e157_17
set_option maxHeartbeats 4000000 in
set_option maxRecDepth 100000 in
theorem kJ15 (l : Launch) (Γ : rGam) (P : Heap → Prop) (i n : Int32) (h0 : ¬ i < 0) (h1 : i < n) : Met l yJ15_checkIndex_7cf53 wsJ15_checkIndex_7cf53 { frames := 1, cells := 0, slots := 0, locals := 22 } (rPc Γ vwCl [.int i, .int n] P) (va_Qi (fun r (_ : Unit) => r = i) (fun _ t => P t.heap) (rA Γ)) 0 0 (rA Γ) := by
  refine Met.ofW (cc := cJ15_checkIndex_7cf53) (maxL := 2) (ret := (some .int)) (by decide) rfl ?_
  intro p e s m args below meth c s₁ B hml hv
  obtain ⟨rfl, hP, hE⟩ := hv
  have F : Fx Γ p s m meth c _ cJ15_checkIndex_7cf53 2 RJ15 wsJ15_checkIndex_7cf53 (some .int) := ⟨⟨B.exec, B.bytes, hml, findClass_of_methodNamed B.named, atoms_spec (ws := wsJ15_checkIndex_7cf53) B.pre⟩, hE, B.notSynchronized, B.returns⟩
  have hx := F.1.1
  have hb := F.1.2.1
  have hts := F.1.2.2.2.2
  have hown := F.1.2.2.2.1
  have hS : va_S (rA Γ) s.heap s.heap [] := va_S.rf
  have hl := lv_entry ([.int i, .int n]) (n := 2) (Nat.le_of_ble_eq_true rfl)
  rw [lg_entry_eq]
  generalize (lg_sl ([.int i, .int n]) ++ List.replicate (2 - (lg_sl ([.int i, .int n])).length) Slot.unset).toArray = ls at hl ⊢
  have hl : lv_has ls 2 [(0, .int i), (1, .int n)] := hl
  refine lv_iload_n hx hb dJ15_checkIndex_7cf53_0 rfl (lv_at hl 0 rfl) ?_
  refine lv_iload_n hx hb dJ15_checkIndex_7cf53_1 rfl (lv_at hl 1 rfl) ?_
  refine lv_null hx hb dJ15_checkIndex_7cf53_2 ?_
  refine g_ci hS (k_runS F hP hS hl 3 [.int i, .int n, .null] (kJ3 l Γ P i n h0 h1) gJ15_checkIndex_7cf53_J3_checkIndex_8e157 rfl rfl rfl (by decide +kernel) ⟨Nat.le_of_ble_eq_true rfl, Nat.le_of_ble_eq_true rfl⟩ rfl (Nat.le_of_ble_eq_true rfl) dJ15_checkIndex_7cf53_3 ⟨Nat.le_refl 0, Nat.le_refl 0⟩) (fun r u H locs h hP hS => ?_)
  exact g_iret F () hP hS h ⟨Nat.le_refl 0, Nat.le_refl 0⟩ dJ15_checkIndex_7cf53_6
set_option maxHeartbeats 4000000 in
set_option maxRecDepth 100000 in
theorem kJ_el (l : Launch) (Γ : rGam) (G : rG) {a b n : Nat} {m z : Int32} {f : Nat → Option Nat} (hA : G a = some (.inr (0, [.int m, .ref b, .int z]))) (hB : G b = some (.inl (Γ.2.2.1 4, n, .inr (.inr (.inr (.inr f)))))) (i : Int32) (hi : vp_in i n) : Met l yJx4a65c_elementData_915e3 wsJx4a65c_elementData_915e3 { frames := 0, cells := 0, slots := 0, locals := 0 } (rPc Γ vwCl [.ref a, .int i] (rW Γ vwCl G)) (va_Qq (fun r (_ : Unit) => r = f i.toNatClampNeg) (fun _ t => rW Γ vwCl G t.heap) (rA Γ)) 0 0 (rA Γ) := by
  refine Met.ofW (cc := cJx4a65c_elementData_915e3) (maxL := 2) (ret := (some (.object "java/lang/Object"))) (by decide) rfl ?_
  intro p e s m args below meth c s₁ B hml hv
  obtain ⟨rfl, hP, hE⟩ := hv
  have F : Fx Γ p s m meth c _ cJx4a65c_elementData_915e3 2 RJx4a65c wsJx4a65c_elementData_915e3 (some (.object "java/lang/Object")) := ⟨⟨B.exec, B.bytes, hml, findClass_of_methodNamed B.named, atoms_spec (ws := wsJx4a65c_elementData_915e3) B.pre⟩, hE, B.notSynchronized, B.returns⟩
  have hx := F.1.1
  have hb := F.1.2.1
  have hts := F.1.2.2.2.2
  have hown := F.1.2.2.2.1
  have hS : va_S (rA Γ) s.heap s.heap [] := va_S.rf
  have hl := lv_entry ([.ref a, .int i]) (n := 2) (Nat.le_of_ble_eq_true rfl)
  rw [lg_entry_eq]
  generalize (lg_sl ([.ref a, .int i]) ++ List.replicate (2 - (lg_sl ([.ref a, .int i])).length) Slot.unset).toArray = ls at hl ⊢
  have hl : lv_has ls 2 [(0, .ref a), (1, .int i)] := hl
  refine lv_aload_n hx hb dJx4a65c_elementData_915e3_0 rfl (lv_at hl 0 rfl) ?_
  refine g_get (C := RJx4a65c) (T := TJx4a65c) (N := 3) hx hb hts (fun _ h => List.mem_cons_of_mem _ (List.mem_append_right _ h)) hown F.2.1 hP hA rfl 1 (by decide) (hts (.fieldLink RJx4a65c 9 "java/util/ArrayList" "elementData" "[Ljava/lang/Object;") (by decide +kernel)) (fun _ h => h) (v := .ref b) rfl dJx4a65c_elementData_915e3_1 ?_
  refine lv_iload_n hx hb dJx4a65c_elementData_915e3_4 rfl (lv_at hl 1 rfl) ?_
  refine g_aald hx hb F.2.1 hP 4 (C := "java/lang/Object") rfl hB hi dJx4a65c_elementData_915e3_5 ?_
  exact g_aret F () hP hS rfl ⟨Nat.le_refl 0, Nat.le_refl 0⟩ dJx4a65c_elementData_915e3_6
set_option maxHeartbeats 4000000 in
set_option maxRecDepth 100000 in
theorem kL_size (l : Launch) (Γ : rGam) (a : Nat) (post : Int32 → St → Prop) (σ : St) (h : wL_size a post σ) : Met l yJx4a65c_size_8abf5 wsJx4a65c_size_8abf5 rmL_size (rPc Γ vwCl [.ref a] (Rep Γ σ)) (va_Qi post (fun σ' t => Rep Γ σ' t.heap) (rA Γ)) 0 0 (rA Γ) := by
  refine Met.ofW (cc := cJx4a65c_size_8abf5) (maxL := 1) (ret := (some .int)) (by decide) rfl ?_
  intro p e s m args below meth c s₁ B hml hv
  obtain ⟨rfl, hR, hE⟩ := hv
  have F : Fx Γ p s m meth c _ cJx4a65c_size_8abf5 1 RJx4a65c wsJx4a65c_size_8abf5 (some .int) := ⟨⟨B.exec, B.bytes, hml, findClass_of_methodNamed B.named, atoms_spec (ws := wsJx4a65c_size_8abf5) B.pre⟩, hE, B.notSynchronized, B.returns⟩
  have hx := F.1.1
  have hb := F.1.2.1
  have hts := F.1.2.2.2.2
  have hown := F.1.2.2.2.1
  have hS : va_S (rA Γ) s.heap s.heap [] := va_S.rf
  have hl := lv_entry ([.ref a]) (n := 1) (Nat.le_of_ble_eq_true rfl)
  rw [lg_entry_eq]
  generalize (lg_sl ([.ref a]) ++ List.replicate (1 - (lg_sl ([.ref a])).length) Slot.unset).toArray = ls at hl ⊢
  have hl : lv_has ls 1 [(0, .ref a)] := hl
  obtain ⟨X, hW, hP⟩ := id hR
  refine lv_aload_n hx hb dJx4a65c_size_8abf5_0 rfl (lv_at hl 0 rfl) ?_
  refine g_get (C := RJx4a65c) (T := TJx4a65c) (N := 3) hx hb hts (fun _ h => List.mem_cons_of_mem _ (List.mem_append_right _ h)) hown F.2.1 hP (rGs_ls h.1) rfl 2 (by decide) (hts (.fieldLink RJx4a65c 48 "java/util/ArrayList" "size" "I") (by decide +kernel)) (fun _ h => h) (v := .int (nI (sL σ a).length)) rfl dJx4a65c_size_8abf5_1 ?_
  exact s_iret F hR hS h.2 ⟨Nat.le_refl 0, Nat.le_refl 0⟩ dJx4a65c_size_8abf5_4
set_option maxHeartbeats 4000000 in
set_option maxRecDepth 100000 in
theorem kL_get (l : Launch) (Γ : rGam) (a : Nat) (i : Int32) (post : Option Nat → St → Prop) (σ : St) (h : wL_get a i post σ) : Met l yJx4a65c_get_915e3 wsJx4a65c_get_915e3 rmL_get (rPc Γ vwCl [.ref a, .int i] (Rep Γ σ)) (va_Qq post (fun σ' t => Rep Γ σ' t.heap) (rA Γ)) 0 0 (rA Γ) := by
  obtain ⟨hk, x, hxi, hi0, hpost⟩ := h
  refine Met.ofW (cc := cJx4a65c_get_915e3) (maxL := 2) (ret := (some (.object "java/lang/Object"))) (by decide) rfl ?_
  intro p e s m args below meth c s₁ B hml hv
  obtain ⟨rfl, hR, hE⟩ := hv
  have F : Fx Γ p s m meth c _ cJx4a65c_get_915e3 2 RJx4a65c wsJx4a65c_get_915e3 (some (.object "java/lang/Object")) := ⟨⟨B.exec, B.bytes, hml, findClass_of_methodNamed B.named, atoms_spec (ws := wsJx4a65c_get_915e3) B.pre⟩, hE, B.notSynchronized, B.returns⟩
  have hx := F.1.1
  have hb := F.1.2.1
  have hts := F.1.2.2.2.2
  have hown := F.1.2.2.2.1
  have hS : va_S (rA Γ) s.heap s.heap [] := va_S.rf
  have hl := lv_entry ([.ref a, .int i]) (n := 2) (Nat.le_of_ble_eq_true rfl)
  rw [lg_entry_eq]
  generalize (lg_sl ([.ref a, .int i]) ++ List.replicate (2 - (lg_sl ([.ref a, .int i])).length) Slot.unset).toArray = ls at hl ⊢
  have hl : lv_has ls 2 [(0, .ref a), (1, .int i)] := hl
  obtain ⟨X, hW, hP⟩ := hR
  have hlt : i.toNatClampNeg < (sL σ a).length := (List.getElem?_eq_some_iff.mp hxi).1
  obtain ⟨w1, w2, w3, w4⟩ := hW.1 a hk
  have w4 : X.2.2.2 (X.2.1 a) = a + 1 ∧ sK σ (X.2.1 a) = 0 ∧ 10 ≤ X.2.2.1 a := by
    rcases w4 with ⟨-, w4⟩ | w4
    · omega
    · exact w4
  have hin : vp_in i (X.2.2.1 a) := fun z => z.elim hi0 (fun z => by omega)
  have hiL : i < nI (sL σ a).length := lt_of_vp hi0 hlt (by omega)
  refine lv_iload_n hx hb dJx4a65c_get_915e3_0 rfl (lv_at hl 1 rfl) ?_
  refine lv_aload_n hx hb dJx4a65c_get_915e3_1 rfl (lv_at hl 0 rfl) ?_
  refine g_get (C := RJx4a65c) (T := TJx4a65c) (N := 3) hx hb hts (fun _ h => List.mem_cons_of_mem _ (List.mem_append_right _ h)) hown F.2.1 hP (rGs_ls hk) rfl 2 (by decide) (hts (.fieldLink RJx4a65c 48 "java/util/ArrayList" "size" "I") (by decide +kernel)) (fun _ h => h) (v := .int (nI (sL σ a).length)) rfl dJx4a65c_get_915e3_2 ?_
  refine g_ci hS (k_runS F hP hS hl 2 [.int i, .int (nI (sL σ a).length)] (kJ15 l Γ (rW Γ vwCl (rGs Γ σ X)) i _ hi0 hiL) gJx4a65c_get_915e3_J15_checkIndex_7cf53 rfl rfl rfl (by decide +kernel) ⟨Nat.le_of_ble_eq_true rfl, Nat.le_of_ble_eq_true rfl⟩ rfl (Nat.le_of_ble_eq_true rfl) dJx4a65c_get_915e3_5 ⟨Nat.le_refl 0, Nat.le_refl 0⟩) (fun r u H locs h hP hS => ?_)
  refine lv_pop hx hb dJx4a65c_get_915e3_8 rfl ?_
  refine lv_aload_n hx hb dJx4a65c_get_915e3_9 rfl (lv_at hl 0 rfl) ?_
  refine lv_iload_n hx hb dJx4a65c_get_915e3_10 rfl (lv_at hl 1 rfl) ?_
  refine g_cq hS (k_runV F hP hS hl 1 [.int i] (kJ_el l Γ (rGs Γ σ X) (rGs_ls hk) (rGs_bk w4.2.1 w4.1) i hin) gJx4a65c_get_915e3_Jx4a65c_elementData_915e3 rfl rfl rfl (by decide +kernel) ⟨Nat.le_of_ble_eq_true rfl, Nat.le_of_ble_eq_true rfl⟩ (g_recv (q := (RJx4a65c, TJx4a65c, 3)) F.2.1 hP rfl (rGs_ls hk)) rfl (Nat.le_of_ble_eq_true rfl) dJx4a65c_get_915e3_11 ⟨Nat.le_refl 0, Nat.le_refl 0⟩) (fun r u H locs h hP hS => ?_)
  have hr : r = some x := h.trans hxi
  subst hr
  exact s_aret (r := some x) F ⟨X, hW, hP⟩ hS hpost ⟨Nat.le_refl 0, Nat.le_refl 0⟩ dJx4a65c_get_915e3_14
set_option maxHeartbeats 4000000 in
set_option maxRecDepth 100000 in
theorem kJ_nl (l : Launch) (Γ : rGam) (P : Heap → Prop) (n g h : Nat) (hn : n < 200000) (hg : g < 200000) (hh : h < 200000) (h1 : 0 < g) : Met l yJ8_newLength_cabcc wsJ8_newLength_cabcc { frames := 1, cells := 0, slots := 0, locals := 30 } (rPc Γ vwCl [.int (nI n), .int (nI g), .int (nI h)] P) (va_Qi (fun r (_ : Unit) => r = nI (n + max g h)) (fun _ t => P t.heap) (rA Γ)) 0 0 (rA Γ) := by
  refine Met.ofW (cc := cJ8_newLength_cabcc) (maxL := 4) (ret := (some .int)) (by decide) rfl ?_
  intro p e s m args below meth c s₁ B hml hv
  obtain ⟨rfl, hP, hE⟩ := hv
  have F : Fx Γ p s m meth c _ cJ8_newLength_cabcc 4 RJ8 wsJ8_newLength_cabcc (some .int) := ⟨⟨B.exec, B.bytes, hml, findClass_of_methodNamed B.named, atoms_spec (ws := wsJ8_newLength_cabcc) B.pre⟩, hE, B.notSynchronized, B.returns⟩
  have hx := F.1.1
  have hb := F.1.2.1
  have hts := F.1.2.2.2.2
  have hown := F.1.2.2.2.1
  have hS : va_S (rA Γ) s.heap s.heap [] := va_S.rf
  have hl := lv_entry ([.int (nI n), .int (nI g), .int (nI h)]) (n := 4) (Nat.le_of_ble_eq_true rfl)
  rw [lg_entry_eq]
  generalize (lg_sl ([.int (nI n), .int (nI g), .int (nI h)]) ++ List.replicate (4 - (lg_sl ([.int (nI n), .int (nI g), .int (nI h)])).length) Slot.unset).toArray = ls at hl ⊢
  have hl : lv_has ls 4 [(0, .int (nI n)), (1, .int (nI g)), (2, .int (nI h))] := hl
  have em : (if nI g < nI h then nI h else nI g) = nI (max g h) := by
    by_cases c : g < h
    · rw [if_pos (nI_lt c (by omega)), Nat.max_eq_right (by omega)]
    · rw [if_neg (nI_nlt (by omega) (by omega)), Nat.max_eq_left (by omega)]
  have hm : max g h < 200000 := by omega
  have hm0 : 0 < max g h := by omega
  refine lv_iload_n hx hb dJ8_newLength_cabcc_0 rfl (lv_at hl 0 rfl) ?_
  refine lv_iload_n hx hb dJ8_newLength_cabcc_1 rfl (lv_at hl 1 rfl) ?_
  refine lv_iload_n hx hb dJ8_newLength_cabcc_2 rfl (lv_at hl 2 rfl) ?_
  refine va_mmax hx hb (F.1.2.2.1.trans hl.1.symm) hown (hts _ (by decide +kernel : Cond.methodLink RJ8 194 Lib.Math.max.name ∈ wsJ8_newLength_cabcc)) (hts _ (by decide +kernel : Cond.static Lib.Math.max.name ∈ wsJ8_newLength_cabcc)) (hts _ (by decide +kernel : Cond.initialized "java/lang/Math" ∈ wsJ8_newLength_cabcc)) (hts _ (by decide +kernel : Cond.code Lib.Math.max.name Lib.Math.max.code 2 (some .int) ∈ wsJ8_newLength_cabcc)) (Nat.le_of_ble_eq_true rfl) (Nat.le_of_ble_eq_true rfl) (Nat.zero_le _) (Nat.zero_le _) dJ8_newLength_cabcc_3 ?_
  refine lv_iadd hx hb dJ8_newLength_cabcc_6 ?_
  rw [em, nI_add]
  refine s_istore_n (lk := [(2, .int (nI h))]) (lv' := [(3, .int (nI (n + max g h))), (0, .int (nI n)), (1, .int (nI g)), (2, .int (nI h))]) hx hb dJ8_newLength_cabcc_7 rfl hl (by decide) rfl (lk_1 rfl) rfl (fun ls hl => ?_)
  refine lv_iconst (v := 0) hx hb dJ8_newLength_cabcc_8 (by decide) ?_
  refine lv_iload_n hx hb dJ8_newLength_cabcc_9 rfl (lv_at hl 0 rfl) ?_
  refine lv_icmp_ge (tgt := 21) hx hb dJ8_newLength_cabcc_10 (by decide) (fun c => absurd c (nI_nle (by omega) (by omega))) (fun _ => ?_)
  refine lv_iload_n hx hb dJ8_newLength_cabcc_13 rfl (lv_at hl 0 rfl) ?_
  refine lv_ldc hx hb hown (hts _ (by decide +kernel : Cond.constant RJ8 200 (2147483639) ∈ wsJ8_newLength_cabcc)) dJ8_newLength_cabcc_14 ?_
  refine lv_icmp_gt (tgt := 21) hx hb dJ8_newLength_cabcc_16 (by decide) (fun c => absurd c (show ¬ nI 2147483639 < nI (n + max g h) from nI_nlt (by omega) (by decide))) (fun _ => ?_)
  refine lv_iload_n hx hb dJ8_newLength_cabcc_19 rfl (lv_at hl 0 rfl) ?_
  exact g_iret F () hP hS rfl ⟨Nat.le_refl 0, Nat.le_refl 0⟩ dJ8_newLength_cabcc_20
set_option maxHeartbeats 4000000 in
set_option maxRecDepth 100000 in
theorem kJ_c3 (l : Launch) (Γ : rGam) (G : rG) {b n : Nat} {f : Nat → Option Nat} (hB : G b = some (.inl (Γ.2.2.1 4, n, .inr (.inr (.inr (.inr f)))))) (ci : Nat) (r : vw_C) (hc : vwCl[ci]? = some r) (hE0 : ∀ i y, i < n → f i = some y → ∃ vs, G y = some (.inr (ci, vs))) (hca : r.1 = "ClearingFiles$Bank" ∨ r.1 = "ClearingFiles$Account" ∨ r.1 = "ClearingFiles$Entry") (N : Nat) (hnN : n ≤ N) (hN : N ≤ 128) : Met l yJ7_copyOf_6403c wsJ7_copyOf_6403c { frames := 1, cells := 1, slots := 128, locals := 40 } (rPc Γ vwCl [.ref b, .int (nI N), .ref (Γ.2.2.2 2)] (rW Γ vwCl G)) (va_Qq (fun r (q : Nat) => r = some q ∧ G q = none ∧ Γ.2.1 ≤ q) (fun q t => rW Γ vwCl (rup G q (.inl (Γ.2.2.1 4, N, .inr (.inr (.inr (.inr (va_cpy f (fun _ => none) 0 0 n))))))) t.heap) (rA Γ)) 1 128 (rA Γ) := by
  refine Met.ofW (cc := cJ7_copyOf_6403c) (maxL := 4) (ret := (some (.array (.object "java/lang/Object")))) (by decide) rfl ?_
  intro p e s m args below meth c s₁ B hml hv
  obtain ⟨rfl, hP, hE⟩ := hv
  have F : Fx Γ p s m meth c _ cJ7_copyOf_6403c 4 RJ7 wsJ7_copyOf_6403c (some (.array (.object "java/lang/Object"))) := ⟨⟨B.exec, B.bytes, hml, findClass_of_methodNamed B.named, atoms_spec (ws := wsJ7_copyOf_6403c) B.pre⟩, hE, B.notSynchronized, B.returns⟩
  have hx := F.1.1
  have hb := F.1.2.1
  have hts := F.1.2.2.2.2
  have hown := F.1.2.2.2.1
  have hS : va_S (rA Γ) s.heap s.heap [] := va_S.rf
  have hl := lv_entry ([.ref b, .int (nI N), .ref (Γ.2.2.2 2)]) (n := 4) (Nat.le_of_ble_eq_true rfl)
  rw [lg_entry_eq]
  generalize (lg_sl ([.ref b, .int (nI N), .ref (Γ.2.2.2 2)]) ++ List.replicate (4 - (lg_sl ([.ref b, .int (nI N), .ref (Γ.2.2.2 2)])).length) Slot.unset).toArray = ls at hl ⊢
  have hl : lv_has ls 4 [(0, .ref b), (1, .int (nI N)), (2, .ref (Γ.2.2.2 2))] := hl
  refine lv_aload_n hx hb dJ7_copyOf_6403c_0 rfl (lv_at hl 2 rfl) ?_
  refine va_ldcM hx hb hown (hts _ (by decide +kernel : Cond.classLink RJ7 110 "[Ljava/lang/Object;" ∈ wsJ7_copyOf_6403c)) F.2.1.2.2.2.2.2.2.1 dJ7_copyOf_6403c_1 ?_
  refine lv_acmp_ne (rx := some (Γ.2.2.2 2)) (ry := some (Γ.2.2.2 2)) (tgt := 13) hx hb dJ7_copyOf_6403c_3 (by decide) (fun c => absurd rfl c) (fun _ => ?_)
  refine lv_iload_n hx hb dJ7_copyOf_6403c_6 rfl (lv_at hl 1 rfl) ?_
  refine g_newq hx hb hown (hts _ (by decide +kernel : Cond.classLink RJ7 2 "java/lang/Object" ∈ wsJ7_copyOf_6403c)) F.2.1 hP hS (nI_pos (by omega)) (nI_clamp (by omega)) (by omega) (by show 0 + 1 ≤ 1; omega) (by show 0 + N ≤ 128; omega) dJ7_copyOf_6403c_7 (fun q H hq hqb hP hS => ?_)
  refine lv_goto (tgt := 24) hx hb dJ7_copyOf_6403c_10 (by decide) ?_
  refine s_astore_n (r := some q) (lk := [(2, .ref (Γ.2.2.2 2))]) (lv' := [(3, .ref q), (0, .ref b), (1, .int (nI N)), (2, .ref (Γ.2.2.2 2))]) hx hb dJ7_copyOf_6403c_24 rfl hl (by decide) rfl (lk_1 rfl) rfl (fun ls hl => ?_)
  refine lv_aload_n hx hb dJ7_copyOf_6403c_25 rfl (lv_at hl 1 rfl) ?_
  refine lv_iconst (v := 0) hx hb dJ7_copyOf_6403c_26 (by decide) ?_
  refine lv_aload_n hx hb dJ7_copyOf_6403c_27 rfl (lv_at hl 0 rfl) ?_
  refine lv_iconst (v := 0) hx hb dJ7_copyOf_6403c_28 (by decide) ?_
  refine lv_aload_n hx hb dJ7_copyOf_6403c_29 rfl (lv_at hl 1 rfl) ?_
  have hbq : b ≠ q := fun e => by rw [e, hq] at hB; cases hB
  have hB1 : rup G q (.inl (Γ.2.2.1 4, N, .inr (.inr (.inr (.inr (fun _ => none)))))) b = some (.inl (Γ.2.2.1 4, n, .inr (.inr (.inr (.inr f))))) := (rup_ne _ _ hbq).trans hB
  refine g_alen hx hb F.2.1 hP 4 rfl hB1 rfl dJ7_copyOf_6403c_30 ?_
  refine lv_iload_n hx hb dJ7_copyOf_6403c_31 rfl (lv_at hl 2 rfl) ?_
  refine va_mmin hx hb (F.1.2.2.1.trans hl.1.symm) hown (hts _ (by decide +kernel : Cond.methodLink RJ7 304 Lib.Math.min.name ∈ wsJ7_copyOf_6403c)) (hts _ (by decide +kernel : Cond.static Lib.Math.min.name ∈ wsJ7_copyOf_6403c)) (hts _ (by decide +kernel : Cond.initialized "java/lang/Math" ∈ wsJ7_copyOf_6403c)) (hts _ (by decide +kernel : Cond.code Lib.Math.min.name Lib.Math.min.code 2 (some .int) ∈ wsJ7_copyOf_6403c)) (Nat.le_of_ble_eq_true rfl) (Nat.le_of_ble_eq_true rfl) (by show 0 + 1 ≤ 1; omega) (by show 0 + _ ≤ 128; omega) dJ7_copyOf_6403c_32 ?_
  have em : (if nI N < nI n then nI N else nI n) = nI n := if_neg (nI_nlt hnN (by omega))
  rw [em]
  refine g_copyq hx hb (F.1.2.2.1.trans hl.1.symm) hown (hts _ (by decide +kernel : Cond.methodLink RJ7 150 arraycopyName ∈ wsJ7_copyOf_6403c)) (hts _ (by decide +kernel : Cond.native arraycopyName ∈ wsJ7_copyOf_6403c)) (hts _ (by decide +kernel : Cond.static arraycopyName ∈ wsJ7_copyOf_6403c)) (hts _ (by decide +kernel : Cond.initialized "java/lang/System" ∈ wsJ7_copyOf_6403c)) F.2.1 hP hS hB1 (rup_self _ _ _) (by decide) (by decide) (nI_pos (by omega)) (by rw [nI_clamp (by omega)]; simp) (by rw [nI_clamp (by omega)]; simpa using hnN) ci r hc hca (fun i hi y hy => by
    rw [nI_clamp (by omega)] at hi
    obtain ⟨vs, hv⟩ := hE0 i y hi (by simpa using hy)
    exact ⟨vs, (rup_ne _ _ (fun e => by rw [e, hq] at hv; cases hv)).trans hv⟩) (Nat.le_of_ble_eq_true rfl) (Nat.le_of_ble_eq_true rfl) dJ7_copyOf_6403c_35 (fun H locs hP hS => ?_)
  refine lv_aload_n hx hb dJ7_copyOf_6403c_38 rfl (lv_at hl 0 rfl) ?_
  refine g_aretA (r := some q) F q ?_ hS ⟨rfl, hq, hqb⟩ ⟨by show 0 + 1 ≤ 1; omega, by show 0 + N ≤ 128; omega⟩ dJ7_copyOf_6403c_39
  rw [nI_clamp (by omega)] at hP
  rw [rup_rup] at hP
  exact hP
set_option maxHeartbeats 4000000 in
set_option maxRecDepth 100000 in
theorem kJ_c2 (l : Launch) (Γ : rGam) (G : rG) {b n : Nat} {f : Nat → Option Nat} (hB : G b = some (.inl (Γ.2.2.1 4, n, .inr (.inr (.inr (.inr f)))))) (ci : Nat) (r : vw_C) (hc : vwCl[ci]? = some r) (hE0 : ∀ i y, i < n → f i = some y → ∃ vs, G y = some (.inr (ci, vs))) (hca : r.1 = "ClearingFiles$Bank" ∨ r.1 = "ClearingFiles$Account" ∨ r.1 = "ClearingFiles$Entry") (N : Nat) (hnN : n ≤ N) (hN : N ≤ 128) : Met l yJ7_copyOf_1904c wsJ7_copyOf_1904c { frames := 2, cells := 1, slots := 128, locals := 63 } (rPc Γ vwCl [.ref b, .int (nI N)] (rW Γ vwCl G)) (va_Qq (fun r (q : Nat) => r = some q ∧ G q = none ∧ Γ.2.1 ≤ q) (fun q t => rW Γ vwCl (rup G q (.inl (Γ.2.2.1 4, N, .inr (.inr (.inr (.inr (va_cpy f (fun _ => none) 0 0 n))))))) t.heap) (rA Γ)) 1 128 (rA Γ) := by
  refine Met.ofW (cc := cJ7_copyOf_1904c) (maxL := 2) (ret := (some (.array (.object "java/lang/Object")))) (by decide) rfl ?_
  intro p e s m args below meth c s₁ B hml hv
  obtain ⟨rfl, hP, hE⟩ := hv
  have F : Fx Γ p s m meth c _ cJ7_copyOf_1904c 2 RJ7 wsJ7_copyOf_1904c (some (.array (.object "java/lang/Object"))) := ⟨⟨B.exec, B.bytes, hml, findClass_of_methodNamed B.named, atoms_spec (ws := wsJ7_copyOf_1904c) B.pre⟩, hE, B.notSynchronized, B.returns⟩
  have hx := F.1.1
  have hb := F.1.2.1
  have hts := F.1.2.2.2.2
  have hown := F.1.2.2.2.1
  have hS : va_S (rA Γ) s.heap s.heap [] := va_S.rf
  have hl := lv_entry ([.ref b, .int (nI N)]) (n := 2) (Nat.le_of_ble_eq_true rfl)
  rw [lg_entry_eq]
  generalize (lg_sl ([.ref b, .int (nI N)]) ++ List.replicate (2 - (lg_sl ([.ref b, .int (nI N)])).length) Slot.unset).toArray = ls at hl ⊢
  have hl : lv_has ls 2 [(0, .ref b), (1, .int (nI N))] := hl
  refine lv_aload_n hx hb dJ7_copyOf_1904c_0 rfl (lv_at hl 0 rfl) ?_
  refine lv_iload_n hx hb dJ7_copyOf_1904c_1 rfl (lv_at hl 1 rfl) ?_
  refine lv_aload_n hx hb dJ7_copyOf_1904c_2 rfl (lv_at hl 0 rfl) ?_
  refine va_getC hx hb (F.1.2.2.1.trans hl.1.symm) hown (hts _ (by decide +kernel : Cond.methodLink RJ7 86 ⟨"java/lang/Object", "getClass", "()Ljava/lang/Class;"⟩ ∈ wsJ7_copyOf_1904c)) (va_Dc.use F.2.1.2.2.2.2.2.2.2.1) (hts _ (by decide +kernel : Cond.selects "[Ljava/lang/Object;" ⟨"java/lang/Object", "getClass", "()Ljava/lang/Class;"⟩ ⟨"java/lang/Object", "getClass", "()Ljava/lang/Class;"⟩ ∈ wsJ7_copyOf_1904c)) (hts _ (by decide +kernel : Cond.instanceMethod ⟨"java/lang/Object", "getClass", "()Ljava/lang/Class;"⟩ ∈ wsJ7_copyOf_1904c)) (hts _ (by decide +kernel : Cond.native ⟨"java/lang/Object", "getClass", "()Ljava/lang/Class;"⟩ ∈ wsJ7_copyOf_1904c)) F.2.1.2.2.2.2.2.2.1 (g_arec F.2.1 hP hB) (Nat.le_of_ble_eq_true rfl) (Nat.le_of_ble_eq_true rfl) dJ7_copyOf_1904c_3 ?_
  refine g_cq hS (k_runS F hP hS hl 3 [.ref b, .int (nI N), .ref (Γ.2.2.2 2)] (kJ_c3 l Γ G hB ci r hc hE0 hca N hnN hN) gJ7_copyOf_1904c_J7_copyOf_6403c rfl rfl rfl (by decide +kernel) ⟨Nat.le_of_ble_eq_true rfl, Nat.le_of_ble_eq_true rfl⟩ rfl (Nat.le_of_ble_eq_true rfl) dJ7_copyOf_1904c_6 ⟨Nat.le_of_ble_eq_true rfl, Nat.le_of_ble_eq_true rfl⟩) (fun r u H locs h hP hS => ?_)
  exact g_aretA F u hP hS h ⟨Nat.le_of_ble_eq_true rfl, Nat.le_of_ble_eq_true rfl⟩ dJ7_copyOf_1904c_9
set_option maxHeartbeats 4000000 in
set_option maxRecDepth 100000 in
theorem kJ_growI (l : Launch) (Γ : rGam) (G : rG) {a b w : Nat} {mm : Int32} {f : Nat → Option Nat} (hA : G a = some (.inr (0, [.int mm, .ref b, .int (nI w)]))) (hBB : (b = Γ.2.2.2 0 ∧ w = 0) ∨ (G b = some (.inl (Γ.2.2.1 4, w, .inr (.inr (.inr (.inr f))))) ∧ 10 ≤ w)) (hw : w < 65) (hf : ∀ i, w ≤ i → f i = none) (ci : Nat) (r : vw_C) (hc : vwCl[ci]? = some r) (hca : r.1 = "ClearingFiles$Bank" ∨ r.1 = "ClearingFiles$Account" ∨ r.1 = "ClearingFiles$Entry") (hE0 : ∀ i y, i < w → f i = some y → ∃ vs, G y = some (.inr (ci, vs))) : Met l yJx4a65c_grow_92f84 wsJx4a65c_grow_92f84 { frames := 3, cells := 1, slots := 128, locals := 84 } (rPc Γ vwCl [.ref a, .int (nI (w + 1))] (rW Γ vwCl G)) (va_Qq (fun r (u : Nat × Nat) => r = some u.1 ∧ G u.1 = none ∧ w < u.2 ∧ 10 ≤ u.2 ∧ u.2 ≤ 128) (fun u t => rW Γ vwCl (rup (rup G u.1 (.inl (Γ.2.2.1 4, u.2, .inr (.inr (.inr (.inr f)))))) a (.inr (0, [.int mm, .ref u.1, .int (nI w)]))) t.heap) (rA Γ)) 1 128 (rA Γ) := by
  refine Met.ofW (cc := cJx4a65c_grow_92f84) (maxL := 4) (ret := (some (.array (.object "java/lang/Object")))) (by decide) rfl ?_
  intro p e s m args below meth c s₁ B hml hv
  obtain ⟨rfl, hP, hE⟩ := hv
  have F : Fx Γ p s m meth c _ cJx4a65c_grow_92f84 4 RJx4a65c wsJx4a65c_grow_92f84 (some (.array (.object "java/lang/Object"))) := ⟨⟨B.exec, B.bytes, hml, findClass_of_methodNamed B.named, atoms_spec (ws := wsJx4a65c_grow_92f84) B.pre⟩, hE, B.notSynchronized, B.returns⟩
  have hx := F.1.1
  have hb := F.1.2.1
  have hts := F.1.2.2.2.2
  have hown := F.1.2.2.2.1
  have hS : va_S (rA Γ) s.heap s.heap [] := va_S.rf
  have hl := lv_entry ([.ref a, .int (nI (w + 1))]) (n := 4) (Nat.le_of_ble_eq_true rfl)
  rw [lg_entry_eq]
  generalize (lg_sl ([.ref a, .int (nI (w + 1))]) ++ List.replicate (4 - (lg_sl ([.ref a, .int (nI (w + 1))])).length) Slot.unset).toArray = ls at hl ⊢
  have hl : lv_has ls 4 [(0, .ref a), (1, .int (nI (w + 1)))] := hl
  refine lv_aload_n hx hb dJx4a65c_grow_92f84_0 rfl (lv_at hl 0 rfl) ?_
  refine g_get (ref := "java/util/ArrayList") (C := RJx4a65c) (T := TJx4a65c) (N := 3) hx hb hts (fun _ h => List.mem_cons_of_mem _ (List.mem_append_right _ h)) hown F.2.1 hP hA rfl 1 (by decide) (hts (.fieldLink RJx4a65c 9 "java/util/ArrayList" "elementData" "[Ljava/lang/Object;") (by decide +kernel)) (fun _ h => h) (v := .ref b) rfl dJx4a65c_grow_92f84_1 ?_
  rcases hBB with ⟨rfl, rfl⟩ | ⟨hB, h10⟩
  · refine va_tlen hx hb F.2.1.2.2.2.1 hS (v := 0) (by decide) dJx4a65c_grow_92f84_4 ?_
    refine s_istore_n (lk := [(1, .int (nI (0 + 1)))]) (lv' := [(2, .int 0), (0, .ref a), (1, .int (nI (0 + 1)))]) hx hb dJx4a65c_grow_92f84_5 rfl hl (by decide) rfl (lk_1 rfl) rfl (fun ls hl => ?_)
    refine lv_iload_n hx hb dJx4a65c_grow_92f84_6 rfl (lv_at hl 0 rfl) ?_
    refine lv_if_gt (tgt := 20) hx hb dJx4a65c_grow_92f84_7 (by decide) (fun z => absurd z (by decide)) (fun _ => ?_)
    refine lv_aload_n hx hb dJx4a65c_grow_92f84_10 rfl (lv_at hl 1 rfl) ?_
    refine g_get (ref := "java/util/ArrayList") (C := RJx4a65c) (T := TJx4a65c) (N := 3) hx hb hts (fun _ h => List.mem_cons_of_mem _ (List.mem_append_right _ h)) hown F.2.1 hP hA rfl 1 (by decide) (hts (.fieldLink RJx4a65c 9 "java/util/ArrayList" "elementData" "[Ljava/lang/Object;") (by decide +kernel)) (fun _ h => h) (v := .ref (Γ.2.2.2 0)) rfl dJx4a65c_grow_92f84_11 ?_
    refine va_gets hx hb F.2.1.2.2.1 hS hown (hts (.fieldLink RJx4a65c 39 "java/util/ArrayList" "DEFAULTCAPACITY_EMPTY_ELEMENTDATA" "[Ljava/lang/Object;") (by decide +kernel)) (fun _ h => h) dJx4a65c_grow_92f84_14 ?_
    refine lv_acmp_eq (rx := some (Γ.2.2.2 0)) (ry := some (Γ.2.2.2 0)) (tgt := 45) hx hb dJx4a65c_grow_92f84_17 (by decide) (fun _ => ?_) (fun z => absurd rfl z)
    refine lv_aload_n hx hb dJx4a65c_grow_92f84_45 rfl (lv_at hl 1 rfl) ?_
    refine lv_bipush (v := 10) hx hb dJx4a65c_grow_92f84_46 (by decide) ?_
    refine lv_iload_n hx hb dJx4a65c_grow_92f84_48 rfl (lv_at hl 2 rfl) ?_
    refine va_mmax hx hb (F.1.2.2.1.trans hl.1.symm) hown (hts _ (by decide +kernel : Cond.methodLink RJx4a65c 79 Lib.Math.max.name ∈ wsJx4a65c_grow_92f84)) (hts _ (by decide +kernel : Cond.static Lib.Math.max.name ∈ wsJx4a65c_grow_92f84)) (hts _ (by decide +kernel : Cond.initialized "java/lang/Math" ∈ wsJx4a65c_grow_92f84)) (hts _ (by decide +kernel : Cond.code Lib.Math.max.name Lib.Math.max.code 2 (some .int) ∈ wsJx4a65c_grow_92f84)) (Nat.le_of_ble_eq_true rfl) (Nat.le_of_ble_eq_true rfl) (Nat.zero_le _) (Nat.zero_le _) dJx4a65c_grow_92f84_49 ?_
    rw [show (if (10 : Int32) < nI (0 + 1) then nI (0 + 1) else 10) = nI 10 from by decide]
    refine g_newq hx hb hown (hts _ (by decide +kernel : Cond.classLink RJx4a65c 7 "java/lang/Object" ∈ wsJx4a65c_grow_92f84)) F.2.1 hP hS (N' := 10) (by decide) (by decide) (by omega) (by show 0 + 1 ≤ 1; omega) (by show 0 + 10 ≤ 128; omega) dJx4a65c_grow_92f84_52 (fun q H hq hqb hP hS => ?_)
    refine lv_dup_x1 hx hb dJx4a65c_grow_92f84_55 rfl rfl ?_
    have haq : a ≠ q := fun z => by rw [z, hq] at hA; cases hA
    refine g_put (ref := "java/util/ArrayList") (C := RJx4a65c) (T := TJx4a65c) (N := 3) hx hb hts (fun _ h => List.mem_cons_of_mem _ (List.mem_append_right _ h)) tyJx4a65c tyJx4a65c_ok nmJx4a65c hown F.2.1 hP hS ((rup_ne _ _ haq).trans hA) rfl 1 (by decide) (hts (.fieldLink RJx4a65c 9 "java/util/ArrayList" "elementData" "[Ljava/lang/Object;") (by decide +kernel)) (fun _ h => h) rfl (v := .ref q) rfl rfl (Nat.le_of_ble_eq_true rfl) dJx4a65c_grow_92f84_56 (fun H locs hP hS => ?_)
    have ef : f = fun _ => none := funext fun i => hf i (Nat.zero_le i)
    subst ef
    exact g_aretA (r := some q) F (q, 10) hP hS ⟨rfl, hq, Nat.le_of_ble_eq_true rfl, Nat.le_of_ble_eq_true rfl, Nat.le_of_ble_eq_true rfl⟩ ⟨by show 0 + 1 ≤ 1; omega, by show 0 + 10 ≤ 128; omega⟩ dJx4a65c_grow_92f84_59
  · refine g_alen hx hb F.2.1 hP 4 rfl hB rfl dJx4a65c_grow_92f84_4 ?_
    refine s_istore_n (lk := [(1, .int (nI (w + 1)))]) (lv' := [(2, .int (nI w)), (0, .ref a), (1, .int (nI (w + 1)))]) hx hb dJx4a65c_grow_92f84_5 rfl hl (by decide) rfl (lk_1 rfl) rfl (fun ls hl => ?_)
    refine lv_iload_n hx hb dJx4a65c_grow_92f84_6 rfl (lv_at hl 0 rfl) ?_
    refine lv_if_gt (tgt := 20) hx hb dJx4a65c_grow_92f84_7 (by decide) (fun _ => ?_) (fun z => absurd (nI_lt (a := 0) (b := w) (by omega) (by omega)) z)
    refine lv_iload_n hx hb dJx4a65c_grow_92f84_20 rfl (lv_at hl 0 rfl) ?_
    refine lv_iload_n hx hb dJx4a65c_grow_92f84_21 rfl (lv_at hl 2 rfl) ?_
    refine lv_iload_n hx hb dJx4a65c_grow_92f84_22 rfl (lv_at hl 0 rfl) ?_
    refine lv_isub hx hb dJx4a65c_grow_92f84_23 ?_
    rw [pk_sub (a := w + 1) (b := w) (by omega), show w + 1 - w = 1 by omega]
    refine lv_iload_n hx hb dJx4a65c_grow_92f84_24 rfl (lv_at hl 0 rfl) ?_
    refine lv_iconst (v := 1) hx hb dJx4a65c_grow_92f84_25 (by decide) ?_
    refine lv_ishr hx hb dJx4a65c_grow_92f84_26 ?_
    have es : nI w >>> ((1 : Int32) &&& 31) = nI (w / 2) := by
      have z := pk_shrN (n := w) (by omega) ((1 : Int32) &&& 31) 1 (by decide)
      rw [Nat.pow_one] at z
      exact z
    rw [es]
    refine g_ci hS (k_runS F hP hS hl 3 [.int (nI w), .int (nI 1), .int (nI (w / 2))] (kJ_nl l Γ (rW Γ vwCl G) w 1 (w / 2) (by omega) (by omega) (by omega) (by omega)) gJx4a65c_grow_92f84_J8_newLength_cabcc rfl rfl rfl (by decide +kernel) ⟨Nat.le_of_ble_eq_true rfl, Nat.le_of_ble_eq_true rfl⟩ rfl (Nat.le_of_ble_eq_true rfl) dJx4a65c_grow_92f84_27 ⟨Nat.zero_le _, Nat.zero_le _⟩) (fun x u H locs h hP hS => ?_)
    subst h
    have hN1 : w < w + max 1 (w / 2) := by omega
    have hN2 : w + max 1 (w / 2) ≤ 128 := by omega
    generalize w + max 1 (w / 2) = N at hN1 hN2 ⊢
    refine s_istore_n (lk := [(2, .int (nI w))]) (lv' := [(3, .int (nI N)), (2, .int (nI w)), (0, .ref a), (1, .int (nI (w + 1)))]) hx hb dJx4a65c_grow_92f84_30 rfl hl (by decide) rfl (lk_1 rfl) rfl (fun ls hl => ?_)
    refine lv_aload_n hx hb dJx4a65c_grow_92f84_31 rfl (lv_at hl 2 rfl) ?_
    refine lv_aload_n hx hb dJx4a65c_grow_92f84_32 rfl (lv_at hl 2 rfl) ?_
    refine g_get (ref := "java/util/ArrayList") (C := RJx4a65c) (T := TJx4a65c) (N := 3) hx hb hts (fun _ h => List.mem_cons_of_mem _ (List.mem_append_right _ h)) hown F.2.1 hP hA rfl 1 (by decide) (hts (.fieldLink RJx4a65c 9 "java/util/ArrayList" "elementData" "[Ljava/lang/Object;") (by decide +kernel)) (fun _ h => h) (v := .ref b) rfl dJx4a65c_grow_92f84_33 ?_
    refine lv_iload_n hx hb dJx4a65c_grow_92f84_36 rfl (lv_at hl 0 rfl) ?_
    refine g_cq hS (k_runS F hP hS hl 2 [.ref b, .int (nI N)] (kJ_c2 l Γ G hB ci r hc hE0 hca N (by omega) hN2) gJx4a65c_grow_92f84_J7_copyOf_1904c rfl rfl rfl (by decide +kernel) ⟨Nat.le_of_ble_eq_true rfl, Nat.le_of_ble_eq_true rfl⟩ rfl (Nat.le_of_ble_eq_true rfl) dJx4a65c_grow_92f84_37 ⟨Nat.le_of_ble_eq_true rfl, Nat.le_of_ble_eq_true rfl⟩) (fun x q H locs h hP hS => ?_)
    obtain ⟨rfl, hq, hqb⟩ := h
    have ef : va_cpy f (fun _ => none) 0 0 w = f := by
      funext i
      unfold va_cpy
      by_cases z : i < w
      · rw [if_pos (by omega)]
        simp
      · rw [if_neg (by omega)]
        exact (hf i (by omega)).symm
    rw [ef] at hP
    refine lv_dup_x1 hx hb dJx4a65c_grow_92f84_40 rfl rfl ?_
    have haq : a ≠ q := fun z => by rw [z, hq] at hA; cases hA
    refine g_put (ref := "java/util/ArrayList") (C := RJx4a65c) (T := TJx4a65c) (N := 3) hx hb hts (fun _ h => List.mem_cons_of_mem _ (List.mem_append_right _ h)) tyJx4a65c tyJx4a65c_ok nmJx4a65c hown F.2.1 hP hS ((rup_ne _ _ haq).trans hA) rfl 1 (by decide) (hts (.fieldLink RJx4a65c 9 "java/util/ArrayList" "elementData" "[Ljava/lang/Object;") (by decide +kernel)) (fun _ h => h) rfl (v := .ref q) rfl rfl (Nat.le_of_ble_eq_true rfl) dJx4a65c_grow_92f84_41 (fun H locs hP hS => ?_)
    exact g_aretA (r := some q) F (q, N) hP hS ⟨rfl, hq, hN1, by show 10 ≤ N; omega, hN2⟩ ⟨Nat.le_of_ble_eq_true rfl, Nat.le_of_ble_eq_true rfl⟩ dJx4a65c_grow_92f84_44

set_option maxHeartbeats 4000000 in
set_option maxRecDepth 100000 in
theorem kJ_grow (l : Launch) (Γ : rGam) (G : rG) {a b w : Nat} {mm : Int32} {f : Nat → Option Nat} (hA : G a = some (.inr (0, [.int mm, .ref b, .int (nI w)]))) (hBB : (b = Γ.2.2.2 0 ∧ w = 0) ∨ (G b = some (.inl (Γ.2.2.1 4, w, .inr (.inr (.inr (.inr f))))) ∧ 10 ≤ w)) (hw : w < 65) (hf : ∀ i, w ≤ i → f i = none) (ci : Nat) (r : vw_C) (hc : vwCl[ci]? = some r) (hca : r.1 = "ClearingFiles$Bank" ∨ r.1 = "ClearingFiles$Account" ∨ r.1 = "ClearingFiles$Entry") (hE0 : ∀ i y, i < w → f i = some y → ∃ vs, G y = some (.inr (ci, vs))) : Met l yJx4a65c_grow_d5877 wsJx4a65c_grow_d5877 { frames := 4, cells := 1, slots := 128, locals := 107 } (rPc Γ vwCl [.ref a] (rW Γ vwCl G)) (va_Qq (fun r (u : Nat × Nat) => r = some u.1 ∧ G u.1 = none ∧ w < u.2 ∧ 10 ≤ u.2 ∧ u.2 ≤ 128) (fun u t => rW Γ vwCl (rup (rup G u.1 (.inl (Γ.2.2.1 4, u.2, .inr (.inr (.inr (.inr f)))))) a (.inr (0, [.int mm, .ref u.1, .int (nI w)]))) t.heap) (rA Γ)) 1 128 (rA Γ) := by
  refine Met.ofW (cc := cJx4a65c_grow_d5877) (maxL := 1) (ret := (some (.array (.object "java/lang/Object")))) (by decide) rfl ?_
  intro p e s m args below meth c s₁ B hml hv
  obtain ⟨rfl, hP, hE⟩ := hv
  have F : Fx Γ p s m meth c _ cJx4a65c_grow_d5877 1 RJx4a65c wsJx4a65c_grow_d5877 (some (.array (.object "java/lang/Object"))) := ⟨⟨B.exec, B.bytes, hml, findClass_of_methodNamed B.named, atoms_spec (ws := wsJx4a65c_grow_d5877) B.pre⟩, hE, B.notSynchronized, B.returns⟩
  have hx := F.1.1
  have hb := F.1.2.1
  have hts := F.1.2.2.2.2
  have hown := F.1.2.2.2.1
  have hS : va_S (rA Γ) s.heap s.heap [] := va_S.rf
  have hl := lv_entry ([.ref a]) (n := 1) (Nat.le_of_ble_eq_true rfl)
  rw [lg_entry_eq]
  generalize (lg_sl ([.ref a]) ++ List.replicate (1 - (lg_sl ([.ref a])).length) Slot.unset).toArray = ls at hl ⊢
  have hl : lv_has ls 1 [(0, .ref a)] := hl
  refine lv_aload_n hx hb dJx4a65c_grow_d5877_0 rfl (lv_at hl 0 rfl) ?_
  refine lv_aload_n hx hb dJx4a65c_grow_d5877_1 rfl (lv_at hl 0 rfl) ?_
  refine g_get (ref := "java/util/ArrayList") (C := RJx4a65c) (T := TJx4a65c) (N := 3) hx hb hts (fun _ h => List.mem_cons_of_mem _ (List.mem_append_right _ h)) hown F.2.1 hP hA rfl 2 (by decide) (hts (.fieldLink RJx4a65c 48 "java/util/ArrayList" "size" "I") (by decide +kernel)) (fun _ h => h) (v := .int (nI w)) rfl dJx4a65c_grow_d5877_2 ?_
  refine lv_iconst (v := 1) hx hb dJx4a65c_grow_d5877_5 (by decide) ?_
  refine lv_iadd hx hb dJx4a65c_grow_d5877_6 ?_
  rw [nI_1]
  refine g_cq hS (k_runV F hP hS hl 1 [.int (nI (w + 1))] (kJ_growI l Γ G hA hBB hw hf ci r hc hca hE0) gJx4a65c_grow_d5877_Jx4a65c_grow_92f84 rfl rfl rfl (by decide +kernel) ⟨Nat.le_of_ble_eq_true rfl, Nat.le_of_ble_eq_true rfl⟩ (g_recv (q := (RJx4a65c, TJx4a65c, 3)) F.2.1 hP rfl hA) rfl (Nat.le_of_ble_eq_true rfl) dJx4a65c_grow_d5877_7 ⟨Nat.le_of_ble_eq_true rfl, Nat.le_of_ble_eq_true rfl⟩) (fun x u H locs h hP hS => ?_)
  exact g_aretA F u hP hS h ⟨Nat.le_of_ble_eq_true rfl, Nat.le_of_ble_eq_true rfl⟩ dJx4a65c_grow_d5877_10

set_option maxHeartbeats 4000000 in
set_option maxRecDepth 100000 in
theorem kJ_add3 (l : Launch) (Γ : rGam) (G : rG) {a b w n x : Nat} {mm : Int32} {f : Nat → Option Nat} {vs0 : List Value} (hA : G a = some (.inr (0, [.int mm, .ref b, .int (nI w)]))) (hBB : (b = Γ.2.2.2 0 ∧ w = 0 ∧ n = 0) ∨ (G b = some (.inl (Γ.2.2.1 4, n, .inr (.inr (.inr (.inr f))))) ∧ 10 ≤ n ∧ n < 100000 ∧ w ≤ n)) (hw : w < 65) (hf : ∀ i, w ≤ i → f i = none) (ci : Nat) (r : vw_C) (hc : vwCl[ci]? = some r) (hca : r.1 = "ClearingFiles$Bank" ∨ r.1 = "ClearingFiles$Account" ∨ r.1 = "ClearingFiles$Entry") (hX : G x = some (.inr (ci, vs0))) (hE0 : ∀ i y, i < w → f i = some y → ∃ vs, G y = some (.inr (ci, vs))) : Met l yJx4a65c_add_72be8 wsJx4a65c_add_72be8 { frames := 5, cells := 1, slots := 128, locals := 130 } (rPc Γ vwCl [.ref a, .ref x, .ref b, .int (nI w)] (rW Γ vwCl G)) (va_Qv (fun (u : Nat × Nat) => (u.1 = b ∧ u.2 = n ∧ w < n) ∨ (G u.1 = none ∧ w < u.2 ∧ 10 ≤ u.2 ∧ u.2 ≤ 128)) (fun u t => rW Γ vwCl (rup (rup G u.1 (.inl (Γ.2.2.1 4, u.2, .inr (.inr (.inr (.inr (va_up f w (some x)))))))) a (.inr (0, [.int mm, .ref u.1, .int (nI (w + 1))]))) t.heap) (rA Γ)) 1 128 (rA Γ) := by
  refine Met.ofW (cc := cJx4a65c_add_72be8) (maxL := 4) (ret := none) (by decide) rfl ?_
  intro p e s m args below meth c s₁ B hml hv
  obtain ⟨rfl, hP, hE⟩ := hv
  have F : Fx Γ p s m meth c _ cJx4a65c_add_72be8 4 RJx4a65c wsJx4a65c_add_72be8 none := ⟨⟨B.exec, B.bytes, hml, findClass_of_methodNamed B.named, atoms_spec (ws := wsJx4a65c_add_72be8) B.pre⟩, hE, B.notSynchronized, B.returns⟩
  have hx := F.1.1
  have hb := F.1.2.1
  have hts := F.1.2.2.2.2
  have hown := F.1.2.2.2.1
  have hS : va_S (rA Γ) s.heap s.heap [] := va_S.rf
  have hl := lv_entry ([.ref a, .ref x, .ref b, .int (nI w)]) (n := 4) (Nat.le_of_ble_eq_true rfl)
  rw [lg_entry_eq]
  generalize (lg_sl ([.ref a, .ref x, .ref b, .int (nI w)]) ++ List.replicate (4 - (lg_sl ([.ref a, .ref x, .ref b, .int (nI w)])).length) Slot.unset).toArray = ls at hl ⊢
  have hl : lv_has ls 4 [(0, .ref a), (1, .ref x), (2, .ref b), (3, .int (nI w))] := hl
  have hcs : va_Nw (.castable r.1 "java/lang/Object") s := rEv_cast hE hca
  have tail : ∀ (b' n' : Nat) (G1 : rG) (H : Heap) (locs : List Loc) (ls : Array Slot) (cells slots : Nat), G1 a = some (.inr (0, [.int mm, .ref b', .int (nI w)])) → G1 b' = some (.inl (Γ.2.2.1 4, n', .inr (.inr (.inr (.inr f))))) → b' ≠ a → w < n' → n' < 100000 → G1 x = some (.inr (ci, vs0)) → rup (rup G1 b' (.inl (Γ.2.2.1 4, n', .inr (.inr (.inr (.inr (va_up f w (some x)))))))) a (.inr (0, [.int mm, .ref b', .int (nI (w + 1))])) = rup (rup G b' (.inl (Γ.2.2.1 4, n', .inr (.inr (.inr (.inr (va_up f w (some x)))))))) a (.inr (0, [.int mm, .ref b', .int (nI (w + 1))])) → ((b' = b ∧ n' = n ∧ w < n) ∨ (G b' = none ∧ w < n' ∧ 10 ≤ n' ∧ n' ≤ 128)) → rW Γ vwCl G1 H → va_S (rA Γ) s.heap H locs → lv_has ls 4 [(0, .ref a), (1, .ref x), (2, .ref b'), (3, .int (nI w))] → cells ≤ 1 ∧ slots ≤ 128 → W p l e (headSpec wsJx4a65c_add_72be8 { frames := 5, cells := 1, slots := 128, locals := 130 }).room s m #[.ref a, .ref x, .ref b, .int (nI w)] below meth c H locs cells slots (MQ below (va_Qv (fun (u : Nat × Nat) => (u.1 = b ∧ u.2 = n ∧ w < n) ∨ (G u.1 = none ∧ w < u.2 ∧ 10 ≤ u.2 ∧ u.2 ≤ 128)) (fun u t => rW Γ vwCl (rup (rup G u.1 (.inl (Γ.2.2.1 4, u.2, .inr (.inr (.inr (.inr (va_up f w (some x)))))))) a (.inr (0, [.int mm, .ref u.1, .int (nI (w + 1))]))) t.heap) (rA Γ)) #[.ref a, .ref x, .ref b, .int (nI w)] s 1 128 (rA Γ)) (F0 m 11 ls []) := by
    intro b' n' G1 H locs ls cells slots hA1 hB1 hba hwn hn hX1 hEq hpost hP hS hl hcs2
    refine lv_aload_n hx hb dJx4a65c_add_72be8_11 rfl (lv_at hl 2 rfl) ?_
    refine lv_iload_n hx hb dJx4a65c_add_72be8_12 rfl (lv_at hl 3 rfl) ?_
    refine lv_aload_n hx hb dJx4a65c_add_72be8_13 rfl (lv_at hl 1 rfl) ?_
    refine g_aast hx hb F.2.1 hP hS 4 ci hB1 rfl hcs hX1 hc (vp_in_nI hwn (by omega)) dJx4a65c_add_72be8_14 (fun H locs hP hS => ?_)
    rw [nI_clamp (by omega)] at hP
    refine lv_aload_n hx hb dJx4a65c_add_72be8_15 rfl (lv_at hl 0 rfl) ?_
    refine lv_iload_n hx hb dJx4a65c_add_72be8_16 rfl (lv_at hl 3 rfl) ?_
    refine lv_iconst (v := 1) hx hb dJx4a65c_add_72be8_17 (by decide) ?_
    refine lv_iadd hx hb dJx4a65c_add_72be8_18 ?_
    rw [nI_1]
    refine g_put (ref := "java/util/ArrayList") (C := RJx4a65c) (T := TJx4a65c) (N := 3) hx hb hts (fun _ h => List.mem_cons_of_mem _ (List.mem_append_right _ h)) tyJx4a65c tyJx4a65c_ok nmJx4a65c hown F.2.1 hP hS ((rup_ne _ _ (Ne.symm hba)).trans hA1) rfl 2 (by decide) (hts (.fieldLink RJx4a65c 48 "java/util/ArrayList" "size" "I") (by decide +kernel)) (fun _ h => h) rfl (v := .int (nI (w + 1))) rfl rfl (Nat.le_of_ble_eq_true rfl) dJx4a65c_add_72be8_19 (fun H locs hP hS => ?_)
    exact g_vret F (b', n') (by rw [← hEq]; exact hP) hS hpost hcs2 dJx4a65c_add_72be8_22
  refine lv_iload_n hx hb dJx4a65c_add_72be8_0 rfl (lv_at hl 3 rfl) ?_
  refine lv_aload_n hx hb dJx4a65c_add_72be8_1 rfl (lv_at hl 2 rfl) ?_
  have grow : ∀ (hBB : (b = Γ.2.2.2 0 ∧ w = 0) ∨ (G b = some (.inl (Γ.2.2.1 4, w, .inr (.inr (.inr (.inr f))))) ∧ 10 ≤ w)) , W p l e (headSpec wsJx4a65c_add_72be8 { frames := 5, cells := 1, slots := 128, locals := 130 }).room s m #[.ref a, .ref x, .ref b, .int (nI w)] below meth c s.heap [] 0 0 (MQ below (va_Qv (fun (u : Nat × Nat) => (u.1 = b ∧ u.2 = n ∧ w < n) ∨ (G u.1 = none ∧ w < u.2 ∧ 10 ≤ u.2 ∧ u.2 ≤ 128)) (fun u t => rW Γ vwCl (rup (rup G u.1 (.inl (Γ.2.2.1 4, u.2, .inr (.inr (.inr (.inr (va_up f w (some x)))))))) a (.inr (0, [.int mm, .ref u.1, .int (nI (w + 1))]))) t.heap) (rA Γ)) #[.ref a, .ref x, .ref b, .int (nI w)] s 1 128 (rA Γ)) (F0 m 6 ls []) := by
    intro hBB
    refine lv_aload_n hx hb dJx4a65c_add_72be8_6 rfl (lv_at hl 0 rfl) ?_
    refine g_cq hS (k_runV F hP hS hl 0 [] (kJ_grow l Γ G hA hBB hw hf ci r hc hca hE0) gJx4a65c_add_72be8_Jx4a65c_grow_d5877 rfl rfl rfl (by decide +kernel) ⟨Nat.le_of_ble_eq_true rfl, Nat.le_of_ble_eq_true rfl⟩ (g_recv (q := (RJx4a65c, TJx4a65c, 3)) F.2.1 hP rfl hA) rfl (Nat.le_of_ble_eq_true rfl) dJx4a65c_add_72be8_7 ⟨Nat.le_of_ble_eq_true rfl, Nat.le_of_ble_eq_true rfl⟩) (fun y u H locs h hP hS => ?_)
    obtain ⟨q, N⟩ := u
    obtain ⟨rfl, hq, hN1, hN2, hN3⟩ := h
    dsimp only at hq hN1 hN2 hN3 hP
    have haq : q ≠ a := fun z => by rw [z, hA] at hq; cases hq
    have hxa : x ≠ a := fun z => by
      rw [z, hA] at hX
      have h1 := (Prod.mk.inj (Sum.inr.inj (Option.some.inj hX))).1
      subst h1
      have h2 := Option.some.inj hc
      subst h2
      rcases hca with h | h | h <;> exact absurd h (by decide +kernel)
    have hxq : x ≠ q := fun z => by rw [z, hq] at hX; cases hX
    refine s_astore_n (r := some q) (lk := [(1, .ref x)]) (lv' := [(2, .ref q), (0, .ref a), (1, .ref x), (3, .int (nI w))]) hx hb dJx4a65c_add_72be8_10 rfl hl (by decide) rfl (lk_1 rfl) rfl (fun ls hl => ?_)
    refine tail q N _ _ _ _ _ _ (rup_self _ _ _) ((rup_ne _ _ haq).trans (rup_self _ _ _)) haq hN1 (by omega) ((rup_ne _ _ hxa).trans ((rup_ne _ _ hxq).trans hX)) ?_ (Or.inr ⟨hq, hN1, hN2, hN3⟩) hP hS (lv_sub hl [1, 2, 0, 3] rfl) ⟨Nat.le_of_ble_eq_true rfl, Nat.le_of_ble_eq_true rfl⟩
    rw [rup_comm _ (Ne.symm haq), rup_rup, rup_rup]
  rcases hBB with ⟨rfl, rfl, rfl⟩ | ⟨hB, h10, hn, hwn⟩
  · refine va_tlen hx hb F.2.1.2.2.2.1 hS (v := 0) (by decide) dJx4a65c_add_72be8_2 ?_
    refine lv_icmp_ne (tgt := 11) hx hb dJx4a65c_add_72be8_3 (by decide) (fun z => absurd (by decide) z) (fun _ => ?_)
    exact grow (Or.inl ⟨rfl, rfl⟩)
  · refine g_alen hx hb F.2.1 hP 4 rfl hB rfl dJx4a65c_add_72be8_2 ?_
    refine lv_icmp_ne (tgt := 11) hx hb dJx4a65c_add_72be8_3 (by decide) (fun z => ?_) (fun z => ?_)
    · have hlt : w < n := by
        rcases Nat.lt_or_ge w n with h | h
        · exact h
        · exact absurd (by rw [Nat.le_antisymm hwn h]) z
      have hba : b ≠ a := fun z => by rw [z, hA] at hB; cases hB
      exact tail b n G _ _ _ _ _ hA hB hba hlt hn hX rfl (Or.inl ⟨rfl, rfl, hlt⟩) hP hS hl ⟨Nat.zero_le _, Nat.zero_le _⟩
    · have e1 : w = n := (nI_eq (by omega) (by omega)).mp z
      subst e1
      exact grow (Or.inr ⟨hB, h10⟩)

