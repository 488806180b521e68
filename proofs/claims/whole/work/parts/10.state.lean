/-! THE ABSTRACT MEMORY: kinds, ints, longs, references, lists; by field (or array's kind), address, place -/
abbrev St : Type := (Nat → Nat) × (Nat → Nat → Nat → Int32) × (Nat → Nat → Nat → Int64) × (Nat → Nat → Nat → Option Nat) × (Nat → List Nat)
def sK (σ : St) (a : Nat) : Nat := σ.1 a
def sI (σ : St) (f a i : Nat) : Int32 := σ.2.1 f a i
def sJ (σ : St) (f a i : Nat) : Int64 := σ.2.2.1 f a i
def sR (σ : St) (f a i : Nat) : Option Nat := σ.2.2.2.1 f a i
def sL (σ : St) (a : Nat) : List Nat := σ.2.2.2.2 a
def uI (σ : St) (f a i : Nat) (v : Int32) : St := (σ.1, (fun g b j => if g = f ∧ b = a ∧ j = i then v else σ.2.1 g b j), σ.2.2)
def uJ (σ : St) (f a i : Nat) (v : Int64) : St := (σ.1, σ.2.1, (fun g b j => if g = f ∧ b = a ∧ j = i then v else σ.2.2.1 g b j), σ.2.2.2)
def uR (σ : St) (f a i : Nat) (v : Option Nat) : St := (σ.1, σ.2.1, σ.2.2.1, (fun g b j => if g = f ∧ b = a ∧ j = i then v else σ.2.2.2.1 g b j), σ.2.2.2.2)
def uL (σ : St) (a : Nat) (v : List Nat) : St := (σ.1, σ.2.1, σ.2.2.1, σ.2.2.2.1, (fun b => if b = a then v else σ.2.2.2.2 b))
/-- a new cell of kind t at q, all of it 0 or null -/
def uN (σ : St) (q t : Nat) : St := ((fun b => if b = q then t else σ.1 b), (fun g b j => if b = q then 0 else σ.2.1 g b j), (fun g b j => if b = q then 0 else σ.2.2.1 g b j), (fun g b j => if b = q then none else σ.2.2.2.1 g b j), (fun b => if b = q then [] else σ.2.2.2.2 b))
/-- a raw list becomes a list of kind t -/
def uT (σ : St) (q t : Nat) : St := ((fun b => if b = q then t else σ.1 b), σ.2.1, σ.2.2.1, σ.2.2.2.1, (fun b => if b = q then [] else σ.2.2.2.2 b))
def isB (v : Int32) : Prop := v = 0 ∨ v = 1
theorem isB.nar {v : Int32} (h : isB v) : narrow .boolean (.int v) = .int v := by rcases h with rfl | rfl <;> decide
theorem isB.fit {v : Int32} (h : isB v) : fits .boolean (.int v) = true := by rcases h with rfl | rfl <;> decide
theorem isB.vnar {v : Int32} (h : isB v) : vp_nar .boolean v = v := by rcases h with rfl | rfl <;> decide
def rElt (t : Nat) : Nat := if t = 20 then 2 else if t = 21 then 1 else 4
def rCi (t : Nat) : Nat := if t < 10 then t else 0
def rFl (t : Nat) : List (Nat × Nat) := match t with
  | 1 => [(2, 50), (0, 51), (1, 52), (0, 53)]
  | 2 => [(0, 100), (0, 101), (2, 102), (2, 103), (2, 104), (1, 105)]
  | 3 => [(2, 150), (2, 151), (0, 152), (0, 153), (0, 154), (0, 155), (0, 156), (0, 157), (0, 158)]
  | 4 => [(0, 200), (0, 201), (0, 202), (0, 203), (0, 204), (0, 205), (2, 206), (2, 207), (0, 208)]
  | 5 => [(2, 250), (2, 251), (2, 252), (0, 253), (0, 254), (0, 255), (0, 256), (0, 257)]
  | 6 => [(2, 300), (2, 301), (0, 302), (0, 303)]
  | 7 => [(1, 350), (1, 351), (1, 352), (1, 353)]
  | 8 => [(2, 400), (2, 401), (2, 402), (2, 403), (0, 404), (2, 405), (0, 406)]
  | 9 => [(0, 450), (2, 451), (2, 452), (0, 453), (0, 454), (2, 455), (2, 456), (2, 457), (2, 458), (0, 459), (0, 460), (0, 461), (0, 462), (0, 463), (2, 464), (2, 465), (2, 466), (2, 467), (2, 468), (2, 469), (2, 470), (2, 471), (2, 472), (2, 473), (2, 474), (2, 475), (2, 476), (2, 477), (0, 478), (0, 479), (2, 480), (2, 481), (2, 482), (2, 483), (2, 484), (2, 485), (2, 486), (2, 487), (2, 488), (2, 489), (0, 490), (2, 491), (2, 492), (2, 493), (2, 494), (2, 495)]
  | 19 => [(0, 950), (2, 951), (0, 952)]
  | _ => []
/-- arrays: what they hold (0 ints, 1 longs, 2 booleans, 3 batches), and how many -/
def rAr (t : Nat) : Nat × Nat := match t with
  | 1250 => (3, 4)
  | 1403 => (0, 256)
  | 1405 => (0, 34)
  | 1451 => (0, 5)
  | 1452 => (1, 5)
  | 1455 => (0, 12)
  | 1456 => (0, 12)
  | 1457 => (1, 12)
  | 1458 => (2, 12)
  | 1464 => (0, 4)
  | 1465 => (0, 4)
  | 1466 => (0, 4)
  | 1467 => (0, 4)
  | 1468 => (0, 4)
  | 1469 => (0, 4)
  | 1470 => (0, 4)
  | 1471 => (0, 20)
  | 1472 => (0, 20)
  | 1473 => (0, 20)
  | 1474 => (0, 20)
  | 1475 => (0, 20)
  | 1476 => (0, 20)
  | 1477 => (0, 256)
  | 1480 => (0, 512)
  | 1481 => (0, 512)
  | 1482 => (0, 512)
  | 1483 => (0, 512)
  | 1484 => (0, 512)
  | 1485 => (0, 512)
  | 1486 => (0, 512)
  | 1487 => (0, 512)
  | 1488 => (0, 512)
  | 1489 => (0, 512)
  | 1491 => (0, 5)
  | 1492 => (0, 2560)
  | 1493 => (2, 2560)
  | 1494 => (0, 2560)
  | 1495 => (0, 40)
  | _ => (0, 0)
def rFv (σ : St) (a : Nat) (d : Nat × Nat) : Value := match d.1 with
  | 0 => .int (sI σ d.2 a 0)
  | 1 => .long (sJ σ d.2 a 0)
  | _ => va_rf (sR σ d.2 a 0)
def rDf (d : Nat × Nat) : Value := match d.1 with
  | 0 => .int 0
  | 1 => .long 0
  | _ => .null
def rAe (Γ : rGam) (σ : St) (t a : Nat) (x : Nat × Nat) : va_E := match x.1 with
  | 0 => .inl (Γ.2.2.1 0, x.2, .inl (fun i => sI σ t a i))
  | 1 => .inl (Γ.2.2.1 1, x.2, .inr (.inl (fun i => sJ σ t a i)))
  | 2 => .inl (Γ.2.2.1 2, x.2, .inl (fun i => sI σ t a i))
  | _ => .inl (Γ.2.2.1 3, x.2, .inr (.inr (.inr (.inr (fun i => sR σ t a i)))))
def rEnt (Γ : rGam) (σ : St) (t a : Nat) : va_E := if t < 100 then .inr (rCi t, (rFl t).map (rFv σ a)) else rAe Γ σ t a (rAr t)
/-- what the abstract memory leaves out: of each list its count of changes, its array, that array's length; of each such array its list + 1 -/
abbrev rHid : Type := (Nat → Int32) × (Nat → Nat) × (Nat → Nat) × (Nat → Nat)
def rGs (Γ : rGam) (σ : St) (X : rHid) : rG := fun b =>
  if sK σ b = 0 then (if X.2.2.2 b = 0 then none else some (.inl (Γ.2.2.1 4, X.2.2.1 (X.2.2.2 b - 1), .inr (.inr (.inr (.inr (fun i => (sL σ (X.2.2.2 b - 1))[i]?)))))))
  else if 20 ≤ sK σ b ∧ sK σ b < 23 then some (.inr (0, [.int (X.1 b), .ref (X.2.1 b), .int (nI (sL σ b).length)]))
  else some (rEnt Γ σ (sK σ b) b)
def rWf (Γ : rGam) (σ : St) (X : rHid) : Prop := (∀ a, 20 ≤ sK σ a ∧ sK σ a < 23 → (sL σ a).length ≤ X.2.2.1 a ∧ X.2.2.1 a < 100000 ∧ (∀ x ∈ sL σ a, sK σ x = rElt (sK σ a)) ∧ ((X.2.1 a = Γ.2.2.2 0 ∧ X.2.2.1 a = 0) ∨ (X.2.2.2 (X.2.1 a) = a + 1 ∧ sK σ (X.2.1 a) = 0 ∧ 10 ≤ X.2.2.1 a))) ∧ ∀ a b, X.2.2.2 b = a + 1 → X.2.1 a = b ∧ 20 ≤ sK σ a ∧ sK σ a < 23
def Rep (Γ : rGam) (σ : St) (H : Heap) : Prop := ∃ X : rHid, rWf Γ σ X ∧ rW Γ vwCl (rGs Γ σ X) H
theorem rElt_ne (t : Nat) : rElt t ≠ 0 := by unfold rElt; split <;> (try split) <;> decide
theorem rGs_ob {Γ : rGam} {σ : St} {X : rHid} {a t : Nat} (hk : sK σ a = t) (h0 : t ≠ 0) (h1 : ¬ (20 ≤ t ∧ t < 23)) : rGs Γ σ X a = some (rEnt Γ σ t a) := by
  subst hk
  simp [rGs, h0, h1]
theorem rGs_up {Γ : rGam} {σ σ' : St} {X : rHid} {a t : Nat} (hk : sK σ a = t) (h0 : t ≠ 0) (h1 : ¬ (20 ≤ t ∧ t < 23)) (hK : ∀ b, sK σ' b = sK σ b) (hL : ∀ b, sL σ' b = sL σ b) (ho : ∀ b, b ≠ a → ∀ t', rEnt Γ σ' t' b = rEnt Γ σ t' b) : rGs Γ σ' X = rup (rGs Γ σ X) a (rEnt Γ σ' t a) := by
  funext b
  by_cases hb : b = a
  · subst hb
    rw [rup_self]
    exact rGs_ob ((hK b).trans hk) h0 h1
  · rw [rup_ne _ _ hb]
    simp only [rGs, hK, hL, ho b hb]
theorem rWf_up {Γ : rGam} {σ σ' : St} {X : rHid} (hK : ∀ b, sK σ' b = sK σ b) (hL : ∀ b, sL σ' b = sL σ b) (h : rWf Γ σ X) : rWf Γ σ' X := by
  unfold rWf
  simp only [hK, hL]
  exact h
theorem rFl_put {fl : List (Nat × Nat)} {k ty f : Nat} {g g' : Nat × Nat → Value} {v : Value} (hk : fl[k]? = some (ty, f)) (hnd : (fl.map Prod.snd).Nodup) (h1 : g' (ty, f) = v) (h2 : ∀ d : Nat × Nat, d.2 ≠ f → g' d = g d) : fl.map g' = (fl.map g).set k v := by
  have hlt : k < fl.length := (List.getElem?_eq_some_iff.mp hk).1
  apply List.ext_getElem?
  intro j
  by_cases hj : j = k
  · subst hj
    rw [List.getElem?_map, hk, List.getElem?_set_self (by simpa using hlt)]
    simp [h1]
  · rw [List.getElem?_set_ne (Ne.symm hj)]
    simp only [List.getElem?_map]
    cases hd : fl[j]? with
    | none => rfl
    | some d =>
      simp only [Option.map_some, Option.some.injEq]
      refine h2 d fun e => hj ?_
      have e1 : (fl.map Prod.snd)[j]? = some f := by simp [hd, e]
      have e2 : (fl.map Prod.snd)[k]? = some f := by simp [hk]
      have hjl : j < (fl.map Prod.snd).length := (List.getElem?_eq_some_iff.mp e1).1
      exact (List.getElem?_inj hjl hnd).mp (e1.trans e2.symm)
theorem rEnt_uI {Γ : rGam} {σ : St} {f a i : Nat} {v : Int32} {b : Nat} (hb : b ≠ a) (t : Nat) : rEnt Γ (uI σ f a i v) t b = rEnt Γ σ t b := by
  have e1 : ∀ g j, sI (uI σ f a i v) g b j = sI σ g b j := fun g j => by simp [sI, uI, hb]
  have e2 : ∀ d, rFv (uI σ f a i v) b d = rFv σ b d := fun d => by unfold rFv; rw [e1]; rfl
  have e3 : rFv (uI σ f a i v) b = rFv σ b := funext e2
  unfold rEnt
  rw [e3]
  unfold rAe
  simp only [e1]
  rfl
theorem rEnt_uJ {Γ : rGam} {σ : St} {f a i : Nat} {v : Int64} {b : Nat} (hb : b ≠ a) (t : Nat) : rEnt Γ (uJ σ f a i v) t b = rEnt Γ σ t b := by
  have e1 : ∀ g j, sJ (uJ σ f a i v) g b j = sJ σ g b j := fun g j => by simp [sJ, uJ, hb]
  have e2 : ∀ d, rFv (uJ σ f a i v) b d = rFv σ b d := fun d => by unfold rFv; rw [e1]; rfl
  have e3 : rFv (uJ σ f a i v) b = rFv σ b := funext e2
  unfold rEnt
  rw [e3]
  unfold rAe
  simp only [e1]
  rfl
theorem rEnt_uR {Γ : rGam} {σ : St} {f a i : Nat} {v : Option Nat} {b : Nat} (hb : b ≠ a) (t : Nat) : rEnt Γ (uR σ f a i v) t b = rEnt Γ σ t b := by
  have e1 : ∀ g j, sR (uR σ f a i v) g b j = sR σ g b j := fun g j => by simp [sR, uR, hb]
  have e2 : ∀ d, rFv (uR σ f a i v) b d = rFv σ b d := fun d => by unfold rFv; rw [e1]; rfl
  have e3 : rFv (uR σ f a i v) b = rFv σ b := funext e2
  unfold rEnt
  rw [e3]
  unfold rAe
  simp only [e1]
  rfl
theorem rEnt_uN {Γ : rGam} {σ : St} {q t0 : Nat} {b : Nat} (hb : b ≠ q) (t : Nat) : rEnt Γ (uN σ q t0) t b = rEnt Γ σ t b := by
  have e1 : ∀ g j, sI (uN σ q t0) g b j = sI σ g b j := fun g j => by simp [sI, uN, hb]
  have e2 : ∀ g j, sJ (uN σ q t0) g b j = sJ σ g b j := fun g j => by simp [sJ, uN, hb]
  have e3 : ∀ g j, sR (uN σ q t0) g b j = sR σ g b j := fun g j => by simp [sR, uN, hb]
  have e4 : rFv (uN σ q t0) b = rFv σ b := funext fun d => by unfold rFv; rw [e1, e2, e3]
  unfold rEnt
  rw [e4]
  unfold rAe
  simp only [e1, e2, e3]
theorem rEnt_newO {Γ : rGam} {σ : St} {q t0 : Nat} (ht : t0 < 100) : rEnt Γ (uN σ q t0) t0 q = .inr (rCi t0, (rFl t0).map rDf) := by
  have e4 : rFv (uN σ q t0) q = rDf := funext fun d => by unfold rFv rDf; simp [sI, sJ, sR, uN, va_rf]
  unfold rEnt
  rw [if_pos ht, e4]
theorem rGs_new {Γ : rGam} {σ : St} {X : rHid} {q t : Nat} (hW : rWf Γ σ X) (hq : rGs Γ σ X q = none) (h0 : t ≠ 0) (h1 : ¬ (20 ≤ t ∧ t < 23)) : sK σ q = 0 ∧ rWf Γ (uN σ q t) X ∧ rGs Γ (uN σ q t) X = rup (rGs Γ σ X) q (rEnt Γ (uN σ q t) t q) := by
  have hk : sK σ q = 0 := by
    by_cases hk : sK σ q = 0
    · exact hk
    · simp only [rGs, hk, if_false] at hq
      split at hq <;> cases hq
  have hx : X.2.2.2 q = 0 := by
    by_cases hx : X.2.2.2 q = 0
    · exact hx
    · simp [rGs, hk, hx] at hq
  have hKq : sK (uN σ q t) q = t := by simp [sK, uN]
  have hKn : ∀ b, b ≠ q → sK (uN σ q t) b = sK σ b := fun b hb => by simp [sK, uN, hb]
  have hLn : ∀ b, b ≠ q → sL (uN σ q t) b = sL σ b := fun b hb => by simp [sL, uN, hb]
  have hne : ∀ b, sK σ b ≠ 0 → b ≠ q := fun b hb e => hb (by rw [e]; exact hk)
  refine ⟨hk, ⟨fun a ha => ?_, fun a b hab => ?_⟩, ?_⟩
  · have haq : a ≠ q := fun e => by rw [e, hKq] at ha; exact h1 ha
    rw [hKn a haq] at ha ⊢
    rw [hLn a haq]
    obtain ⟨w1, w2, w3, w4⟩ := hW.1 a ha
    refine ⟨w1, w2, fun x hx => ?_, ?_⟩
    · have := w3 x hx
      rw [hKn x (hne x (by rw [this]; exact rElt_ne _))]
      exact this
    · rcases w4 with w4 | ⟨w4, w5, w6⟩
      · exact Or.inl w4
      · refine Or.inr ⟨w4, ?_, w6⟩
        rw [hKn _ (fun e => by rw [e, hx] at w4; omega)]
        exact w5
  · obtain ⟨w1, w2⟩ := hW.2 a b hab
    rw [hKn a (hne a (by omega))]
    exact ⟨w1, w2⟩
  · funext b
    by_cases hb : b = q
    · subst hb
      rw [rup_self]
      exact rGs_ob hKq h0 h1
    · rw [rup_ne _ _ hb]
      simp only [rGs, hKn b hb, hLn b hb, rEnt_uN hb]
      by_cases hb0 : sK σ b = 0
      · simp only [hb0, if_true]
        by_cases hb1 : X.2.2.2 b = 0
        · simp [hb1]
        · have h3 := (hW.2 (X.2.2.2 b - 1) b (by omega)).2
          rw [hLn _ (hne _ (by omega))]
      · simp only [hb0, if_false]
/-- what a method's body knows all the time -/
def Fx (Γ : rGam) (p : Program) (s : State) (m : MethodId) (meth : Method) (c : Code) (args : Array Value) (cc : ByteArray) (nL : Nat) (own : String) (ws : List Cond) (rt : Option FieldType) : Prop := CallFix p m c cc nL s args ws own ∧ rEv Γ vwCl s ∧ meth.locks = false ∧ meth.sig.returnType = rt
abbrev rQi (Γ : rGam) (below : List Frame) (post : Int32 → St → Prop) (args : Array Value) (s : State) (mc ms : Nat) : State → Prop := MQ below (va_Qi post (fun σ' t => Rep Γ σ' t.heap) (rA Γ)) args s mc ms (rA Γ)
abbrev rQl (Γ : rGam) (below : List Frame) (post : Int64 → St → Prop) (args : Array Value) (s : State) (mc ms : Nat) : State → Prop := MQ below (va_Ql post (fun σ' t => Rep Γ σ' t.heap) (rA Γ)) args s mc ms (rA Γ)
abbrev rQv (Γ : rGam) (below : List Frame) (post : St → Prop) (args : Array Value) (s : State) (mc ms : Nat) : State → Prop := MQ below (va_Qv post (fun σ' t => Rep Γ σ' t.heap) (rA Γ)) args s mc ms (rA Γ)
abbrev rQq (Γ : rGam) (below : List Frame) (post : Option Nat → St → Prop) (args : Array Value) (s : State) (mc ms : Nat) : State → Prop := MQ below (va_Qq post (fun σ' t => Rep Γ σ' t.heap) (rA Γ)) args s mc ms (rA Γ)
section RS
variable {p : Program} {l : Launch} {e : Env} {R : Room} {s : State} {m : MethodId} {args : Array Value} {below : List Frame} {meth : Method} {c : Code} {H : Heap} {locs : List Loc} {cells slots : Nat} {Q : State → Prop}
variable {cc : ByteArray} {nL : Nat} {own : String} {ws : List Cond} {rt : Option FieldType} {pc : Nat} {ls : Array Slot} {rest : List Value} {Γ : rGam} {σ : St} {a : Nat}
theorem s_getI (F : Fx Γ p s m meth c args cc nL own ws rt) (hR : Rep Γ σ H) {t : Nat} (hk : sK σ a = t) (ht : 0 < t ∧ t < 20) {C : String} {T : u_T} {N index : Nat} (hc : vwCl[rCi t]? = some (C, T, N)) (hin : ∀ w ∈ u_ws C T N, w ∈ ws) (k : Nat) (hkN : k < N) (hlink : Cond.fieldLink own index (T k).1 (T k).2.1 (T k).2.2.1 ∈ ws) {f : Nat} (hf : (rFl t)[k]? = some (0, f)) (hdg : decode cc pc = .ok (.getfield index, 3))
    (kk : W p l e R s m args below meth c H locs cells slots Q (F0 m (pc + 3) ls (.int (sI σ f a 0) :: rest))) : W p l e R s m args below meth c H locs cells slots Q (F0 m pc ls (.ref a :: rest)) := by
  obtain ⟨X, -, hG⟩ := hR
  refine g_get F.1.1 F.1.2.1 F.1.2.2.2.2 hin F.1.2.2.2.1 F.2.1 hG (ci := rCi t) (fs := (rFl t).map (rFv σ a)) ?_ hc k hkN (F.1.2.2.2.2 _ hlink) (fun _ h => h) (v := .int (sI σ f a 0)) ?_ hdg kk
  · rw [rGs_ob hk (by omega) (by omega), rEnt, if_pos (by omega)]
  · rw [List.getElem?_map, hf]; rfl
theorem s_getJ (F : Fx Γ p s m meth c args cc nL own ws rt) (hR : Rep Γ σ H) {t : Nat} (hk : sK σ a = t) (ht : 0 < t ∧ t < 20) {C : String} {T : u_T} {N index : Nat} (hc : vwCl[rCi t]? = some (C, T, N)) (hin : ∀ w ∈ u_ws C T N, w ∈ ws) (k : Nat) (hkN : k < N) (hlink : Cond.fieldLink own index (T k).1 (T k).2.1 (T k).2.2.1 ∈ ws) {f : Nat} (hf : (rFl t)[k]? = some (1, f)) (hdg : decode cc pc = .ok (.getfield index, 3))
    (kk : W p l e R s m args below meth c H locs cells slots Q (F0 m (pc + 3) ls (.long (sJ σ f a 0) :: rest))) : W p l e R s m args below meth c H locs cells slots Q (F0 m pc ls (.ref a :: rest)) := by
  obtain ⟨X, -, hG⟩ := hR
  refine g_get F.1.1 F.1.2.1 F.1.2.2.2.2 hin F.1.2.2.2.1 F.2.1 hG (ci := rCi t) (fs := (rFl t).map (rFv σ a)) ?_ hc k hkN (F.1.2.2.2.2 _ hlink) (fun _ h => h) (v := .long (sJ σ f a 0)) ?_ hdg kk
  · rw [rGs_ob hk (by omega) (by omega), rEnt, if_pos (by omega)]
  · rw [List.getElem?_map, hf]; rfl
theorem s_getR (F : Fx Γ p s m meth c args cc nL own ws rt) (hR : Rep Γ σ H) {t : Nat} (hk : sK σ a = t) (ht : 0 < t ∧ t < 20) {C : String} {T : u_T} {N index : Nat} (hc : vwCl[rCi t]? = some (C, T, N)) (hin : ∀ w ∈ u_ws C T N, w ∈ ws) (k : Nat) (hkN : k < N) (hlink : Cond.fieldLink own index (T k).1 (T k).2.1 (T k).2.2.1 ∈ ws) {f : Nat} (hf : (rFl t)[k]? = some (2, f)) (hdg : decode cc pc = .ok (.getfield index, 3))
    (kk : ∀ r : Option Nat, r = sR σ f a 0 → W p l e R s m args below meth c H locs cells slots Q (F0 m (pc + 3) ls (va_rf r :: rest))) : W p l e R s m args below meth c H locs cells slots Q (F0 m pc ls (.ref a :: rest)) := by
  obtain ⟨X, -, hG⟩ := hR
  refine g_get F.1.1 F.1.2.1 F.1.2.2.2.2 hin F.1.2.2.2.1 F.2.1 hG (ci := rCi t) (fs := (rFl t).map (rFv σ a)) ?_ hc k hkN (F.1.2.2.2.2 _ hlink) (fun _ h => h) (v := va_rf (sR σ f a 0)) ?_ hdg (kk _ rfl)
  · rw [rGs_ob hk (by omega) (by omega), rEnt, if_pos (by omega)]
  · rw [List.getElem?_map, hf]; rfl
theorem s_putG (F : Fx Γ p s m meth c args cc nL own ws rt) (hR : Rep Γ σ H) (hS : va_S (rA Γ) s.heap H locs) {t : Nat} (hk : sK σ a = t) (ht : 0 < t ∧ t < 20) {C : String} {T : u_T} {N index : Nat} (hc : vwCl[rCi t]? = some (C, T, N)) (hin : ∀ w ∈ u_ws C T N, w ∈ ws) (ty0 : Nat → FieldType) (hty : ∀ k, k < N → parseFieldDescriptor (T k).2.2.1 = some (ty0 k)) (hnm : ∀ a, a < N → ∀ b, b < N → a ≠ b → (T a).2.1 ≠ (T b).2.1) (k : Nat) (hkN : k < N) (hlink : Cond.fieldLink own index (T k).1 (T k).2.1 (T k).2.2.1 ∈ ws) (hfin : (T k).2.2.2 = false ∨ ((T k).2.2.2 = true ∧ meth.name = "<init>" ∧ (T k).1 = own)) {v : Value} (hn : narrow (ty0 k) v = v) (hfit : fits (ty0 k) v = true) {x : Nat × Nat} (hf : (rFl t)[k]? = some x) (hnd : ((rFl t).map Prod.snd).Nodup) {σ' : St} (hK : ∀ b, sK σ' b = sK σ b) (hL : ∀ b, sL σ' b = sL σ b) (ho : ∀ b, b ≠ a → ∀ t', rEnt Γ σ' t' b = rEnt Γ σ t' b) (h1 : rFv σ' a x = v) (h2 : ∀ d : Nat × Nat, d.2 ≠ x.2 → rFv σ' a d = rFv σ a d) (hdg : decode cc pc = .ok (.putfield index, 3))
    (kk : ∀ (H1 : Heap) (locs1 : List Loc), Rep Γ σ' H1 → va_S (rA Γ) s.heap H1 locs1 → W p l e R s m args below meth c H1 locs1 cells slots Q (F0 m (pc + 3) ls rest)) : W p l e R s m args below meth c H locs cells slots Q (F0 m pc ls (v :: .ref a :: rest)) := by
  obtain ⟨X, hW, hG⟩ := hR
  have he : rGs Γ σ X a = some (.inr (rCi t, (rFl t).map (rFv σ a))) := by rw [rGs_ob hk (by omega) (by omega), rEnt, if_pos (by omega)]
  have hl : k < ((rFl t).map (rFv σ a)).length := by rw [List.length_map]; exact (List.getElem?_eq_some_iff.mp hf).1
  have hfl : (rFl t).map (rFv σ' a) = ((rFl t).map (rFv σ a)).set k v := rFl_put (ty := x.1) (f := x.2) hf hnd h1 h2
  have hkk : ∀ (H1 : Heap) (locs1 : List Loc), rW Γ vwCl (rup (rGs Γ σ X) a (.inr (rCi t, ((rFl t).map (rFv σ a)).set k v))) H1 → va_S (rA Γ) s.heap H1 locs1 → W p l e R s m args below meth c H1 locs1 cells slots Q (F0 m (pc + 3) ls rest) := fun H1 locs1 h h' => by
    refine kk H1 locs1 ⟨X, rWf_up hK hL hW, ?_⟩ h'
    rw [rGs_up hk (by omega) (by omega) hK hL ho, rEnt, if_pos (by omega), hfl]
    exact h
  rcases hfin with hfin | ⟨hfin, hin2, hdecl⟩
  · exact g_put F.1.1 F.1.2.1 F.1.2.2.2.2 hin ty0 hty hnm F.1.2.2.2.1 F.2.1 hG hS he hc k hkN (F.1.2.2.2.2 _ hlink) (fun _ h => h) hfin hn hfit hl hdg hkk
  · exact g_putF F.1.1 F.1.2.1 F.1.2.2.2.2 hin ty0 hty hnm F.1.2.2.2.1 F.2.1 hG hS he hc k hkN (F.1.2.2.2.2 _ hlink) (fun _ h => h) hfin hin2 hdecl hn hfit hl hdg hkk
theorem s_putI (F : Fx Γ p s m meth c args cc nL own ws rt) (hR : Rep Γ σ H) (hS : va_S (rA Γ) s.heap H locs) {t : Nat} (hk : sK σ a = t) (ht : 0 < t ∧ t < 20) {C : String} {T : u_T} {N index : Nat} (hc : vwCl[rCi t]? = some (C, T, N)) (hin : ∀ w ∈ u_ws C T N, w ∈ ws) (ty0 : Nat → FieldType) (hty : ∀ k, k < N → parseFieldDescriptor (T k).2.2.1 = some (ty0 k)) (hnm : ∀ a, a < N → ∀ b, b < N → a ≠ b → (T a).2.1 ≠ (T b).2.1) (k : Nat) (hkN : k < N) (hlink : Cond.fieldLink own index (T k).1 (T k).2.1 (T k).2.2.1 ∈ ws) (hfin : (T k).2.2.2 = false ∨ ((T k).2.2.2 = true ∧ meth.name = "<init>" ∧ (T k).1 = own)) {v : Int32} (hn : narrow (ty0 k) (.int v) = .int v) (hfit : fits (ty0 k) (.int v) = true) {f : Nat} (hf : (rFl t)[k]? = some (0, f)) (hnd : ((rFl t).map Prod.snd).Nodup) (hdg : decode cc pc = .ok (.putfield index, 3))
    (kk : ∀ (σ' : St), σ' = uI σ f a 0 v → ∀ (H1 : Heap) (locs1 : List Loc), Rep Γ σ' H1 → va_S (rA Γ) s.heap H1 locs1 → W p l e R s m args below meth c H1 locs1 cells slots Q (F0 m (pc + 3) ls rest)) : W p l e R s m args below meth c H locs cells slots Q (F0 m pc ls (.int v :: .ref a :: rest)) :=
  s_putG F hR hS hk ht hc hin ty0 hty hnm k hkN hlink hfin hn hfit hf hnd (σ' := uI σ f a 0 v) (fun _ => rfl) (fun _ => rfl) (fun _ hb t' => rEnt_uI hb t') (by simp [rFv, sI, uI]) (fun d hd => by unfold rFv; split <;> first | rfl | (simp [sI, uI]; exact fun z => absurd z hd)) hdg (kk _ rfl)
theorem s_putJ (F : Fx Γ p s m meth c args cc nL own ws rt) (hR : Rep Γ σ H) (hS : va_S (rA Γ) s.heap H locs) {t : Nat} (hk : sK σ a = t) (ht : 0 < t ∧ t < 20) {C : String} {T : u_T} {N index : Nat} (hc : vwCl[rCi t]? = some (C, T, N)) (hin : ∀ w ∈ u_ws C T N, w ∈ ws) (ty0 : Nat → FieldType) (hty : ∀ k, k < N → parseFieldDescriptor (T k).2.2.1 = some (ty0 k)) (hnm : ∀ a, a < N → ∀ b, b < N → a ≠ b → (T a).2.1 ≠ (T b).2.1) (k : Nat) (hkN : k < N) (hlink : Cond.fieldLink own index (T k).1 (T k).2.1 (T k).2.2.1 ∈ ws) (hfin : (T k).2.2.2 = false ∨ ((T k).2.2.2 = true ∧ meth.name = "<init>" ∧ (T k).1 = own)) {v : Int64} (hn : narrow (ty0 k) (.long v) = .long v) (hfit : fits (ty0 k) (.long v) = true) {f : Nat} (hf : (rFl t)[k]? = some (1, f)) (hnd : ((rFl t).map Prod.snd).Nodup) (hdg : decode cc pc = .ok (.putfield index, 3))
    (kk : ∀ (σ' : St), σ' = uJ σ f a 0 v → ∀ (H1 : Heap) (locs1 : List Loc), Rep Γ σ' H1 → va_S (rA Γ) s.heap H1 locs1 → W p l e R s m args below meth c H1 locs1 cells slots Q (F0 m (pc + 3) ls rest)) : W p l e R s m args below meth c H locs cells slots Q (F0 m pc ls (.long v :: .ref a :: rest)) :=
  s_putG F hR hS hk ht hc hin ty0 hty hnm k hkN hlink hfin hn hfit hf hnd (σ' := uJ σ f a 0 v) (fun _ => rfl) (fun _ => rfl) (fun _ hb t' => rEnt_uJ hb t') (by simp [rFv, sJ, uJ]) (fun d hd => by unfold rFv; split <;> first | rfl | (simp [sJ, uJ]; exact fun z => absurd z hd)) hdg (kk _ rfl)
theorem s_putR (F : Fx Γ p s m meth c args cc nL own ws rt) (hR : Rep Γ σ H) (hS : va_S (rA Γ) s.heap H locs) {t : Nat} (hk : sK σ a = t) (ht : 0 < t ∧ t < 20) {C : String} {T : u_T} {N index : Nat} (hc : vwCl[rCi t]? = some (C, T, N)) (hin : ∀ w ∈ u_ws C T N, w ∈ ws) (ty0 : Nat → FieldType) (hty : ∀ k, k < N → parseFieldDescriptor (T k).2.2.1 = some (ty0 k)) (hnm : ∀ a, a < N → ∀ b, b < N → a ≠ b → (T a).2.1 ≠ (T b).2.1) (k : Nat) (hkN : k < N) (hlink : Cond.fieldLink own index (T k).1 (T k).2.1 (T k).2.2.1 ∈ ws) (hfin : (T k).2.2.2 = false ∨ ((T k).2.2.2 = true ∧ meth.name = "<init>" ∧ (T k).1 = own)) {v : Option Nat} (hn : narrow (ty0 k) (va_rf v) = va_rf v) (hfit : fits (ty0 k) (va_rf v) = true) {f : Nat} (hf : (rFl t)[k]? = some (2, f)) (hnd : ((rFl t).map Prod.snd).Nodup) (hdg : decode cc pc = .ok (.putfield index, 3))
    (kk : ∀ (σ' : St), σ' = uR σ f a 0 v → ∀ (H1 : Heap) (locs1 : List Loc), Rep Γ σ' H1 → va_S (rA Γ) s.heap H1 locs1 → W p l e R s m args below meth c H1 locs1 cells slots Q (F0 m (pc + 3) ls rest)) : W p l e R s m args below meth c H locs cells slots Q (F0 m pc ls (va_rf v :: .ref a :: rest)) :=
  s_putG F hR hS hk ht hc hin ty0 hty hnm k hkN hlink hfin hn hfit hf hnd (σ' := uR σ f a 0 v) (fun _ => rfl) (fun _ => rfl) (fun _ hb t' => rEnt_uR hb t') (by simp [rFv, sR, uR]) (fun d hd => by have hd' : ¬ d.2 = f := hd; unfold rFv; split <;> first | rfl | (simp [sR, uR, hd'])) hdg (kk _ rfl)
theorem s_iald (F : Fx Γ p s m meth c args cc nL own ws rt) (hR : Rep Γ σ H) {t n : Nat} (hk : sK σ a = t) (ht : 100 ≤ t) (hr : rAr t = (0, n)) {i : Int32} (hin : vp_in i n) (hdg : decode cc pc = .ok (.iaload, 1))
    (kk : W p l e R s m args below meth c H locs cells slots Q (F0 m (pc + 1) ls (.int (sI σ t a i.toNatClampNeg) :: rest))) : W p l e R s m args below meth c H locs cells slots Q (F0 m pc ls (.int i :: .ref a :: rest)) := by
  obtain ⟨X, -, hG⟩ := hR
  exact g_iald F.1.1 F.1.2.1 F.2.1 hG (n := n) (f := fun i => sI σ t a i) (by rw [rGs_ob hk (by omega) (by omega), rEnt, if_neg (by omega), hr]; rfl) hin hdg kk
theorem s_zald (F : Fx Γ p s m meth c args cc nL own ws rt) (hR : Rep Γ σ H) {t n : Nat} (hk : sK σ a = t) (ht : 100 ≤ t) (hr : rAr t = (2, n)) {i : Int32} (hin : vp_in i n) (hdg : decode cc pc = .ok (.baload, 1))
    (kk : W p l e R s m args below meth c H locs cells slots Q (F0 m (pc + 1) ls (.int (sI σ t a i.toNatClampNeg) :: rest))) : W p l e R s m args below meth c H locs cells slots Q (F0 m pc ls (.int i :: .ref a :: rest)) := by
  obtain ⟨X, -, hG⟩ := hR
  exact g_zald F.1.1 F.1.2.1 F.2.1 hG (n := n) (f := fun i => sI σ t a i) (by rw [rGs_ob hk (by omega) (by omega), rEnt, if_neg (by omega), hr]; rfl) hin hdg kk
theorem s_lald (F : Fx Γ p s m meth c args cc nL own ws rt) (hR : Rep Γ σ H) {t n : Nat} (hk : sK σ a = t) (ht : 100 ≤ t) (hr : rAr t = (1, n)) {i : Int32} (hin : vp_in i n) (hdg : decode cc pc = .ok (.laload, 1))
    (kk : W p l e R s m args below meth c H locs cells slots Q (F0 m (pc + 1) ls (.long (sJ σ t a i.toNatClampNeg) :: rest))) : W p l e R s m args below meth c H locs cells slots Q (F0 m pc ls (.int i :: .ref a :: rest)) := by
  obtain ⟨X, -, hG⟩ := hR
  exact g_lald F.1.1 F.1.2.1 F.2.1 hG (n := n) (f := fun i => sJ σ t a i) (by rw [rGs_ob hk (by omega) (by omega), rEnt, if_neg (by omega), hr]; rfl) hin hdg kk
theorem s_aald (F : Fx Γ p s m meth c args cc nL own ws rt) (hR : Rep Γ σ H) {t n : Nat} (hk : sK σ a = t) (ht : 100 ≤ t) (hr : rAr t = (3, n)) {i : Int32} (hin : vp_in i n) (hdg : decode cc pc = .ok (.aaload, 1))
    (kk : ∀ r : Option Nat, r = sR σ t a i.toNatClampNeg → W p l e R s m args below meth c H locs cells slots Q (F0 m (pc + 1) ls (va_rf r :: rest))) : W p l e R s m args below meth c H locs cells slots Q (F0 m pc ls (.int i :: .ref a :: rest)) := by
  obtain ⟨X, -, hG⟩ := hR
  exact g_aald F.1.1 F.1.2.1 F.2.1 hG 3 (C := "ClearingFiles$Batch") rfl (n := n) (f := fun i => sR σ t a i) (by rw [rGs_ob hk (by omega) (by omega), rEnt, if_neg (by omega), hr]; rfl) hin hdg (kk _ rfl)
theorem rArr_up {t : Nat} {σ' : St} {H1 : Heap} {X : rHid} {e : va_E} (hk : sK σ a = t) (ht : 100 ≤ t) (hW : rWf Γ σ X) (hK : ∀ b, sK σ' b = sK σ b) (hL : ∀ b, sL σ' b = sL σ b) (ho : ∀ b, b ≠ a → ∀ t', rEnt Γ σ' t' b = rEnt Γ σ t' b) (he : rAe Γ σ' t a (rAr t) = e) (h : rW Γ vwCl (rup (rGs Γ σ X) a e) H1) : Rep Γ σ' H1 := by
  refine ⟨X, rWf_up hK hL hW, ?_⟩
  rw [rGs_up hk (by omega) (by omega) hK hL ho, rEnt, if_neg (by omega), he]
  exact h
theorem s_iast (F : Fx Γ p s m meth c args cc nL own ws rt) (hR : Rep Γ σ H) (hS : va_S (rA Γ) s.heap H locs) {t n : Nat} (hk : sK σ a = t) (ht : 100 ≤ t) (hr : rAr t = (0, n)) {i x : Int32} (hin : vp_in i n) (hdg : decode cc pc = .ok (.iastore, 1))
    (kk : ∀ σ' : St, σ' = uI σ t a i.toNatClampNeg x → ∀ (H1 : Heap) (locs1 : List Loc), Rep Γ σ' H1 → va_S (rA Γ) s.heap H1 locs1 → W p l e R s m args below meth c H1 locs1 cells slots Q (F0 m (pc + 1) ls rest)) : W p l e R s m args below meth c H locs cells slots Q (F0 m pc ls (.int x :: .int i :: .ref a :: rest)) := by
  obtain ⟨X, hW, hG⟩ := hR
  refine g_iast F.1.1 F.1.2.1 F.2.1 hG hS (n := n) (f := fun i => sI σ t a i) (by rw [rGs_ob hk (by omega) (by omega), rEnt, if_neg (by omega), hr]; rfl) hin hdg fun H1 locs1 h h' => kk _ rfl H1 locs1 (rArr_up hk ht hW (fun _ => rfl) (fun _ => rfl) (fun _ hb t' => rEnt_uI hb t') ?_ h) h'
  rw [hr]
  simp only [rAe]
  congr 3
  congr 1
  funext j
  simp [sI, uI, upd]
theorem s_zast (F : Fx Γ p s m meth c args cc nL own ws rt) (hR : Rep Γ σ H) (hS : va_S (rA Γ) s.heap H locs) {t n : Nat} (hk : sK σ a = t) (ht : 100 ≤ t) (hr : rAr t = (2, n)) {i x : Int32} (hin : vp_in i n) (hx : isB x) (hdg : decode cc pc = .ok (.bastore, 1))
    (kk : ∀ σ' : St, σ' = uI σ t a i.toNatClampNeg x → ∀ (H1 : Heap) (locs1 : List Loc), Rep Γ σ' H1 → va_S (rA Γ) s.heap H1 locs1 → W p l e R s m args below meth c H1 locs1 cells slots Q (F0 m (pc + 1) ls rest)) : W p l e R s m args below meth c H locs cells slots Q (F0 m pc ls (.int x :: .int i :: .ref a :: rest)) := by
  obtain ⟨X, hW, hG⟩ := hR
  refine g_zast F.1.1 F.1.2.1 F.2.1 hG hS (n := n) (f := fun i => sI σ t a i) (by rw [rGs_ob hk (by omega) (by omega), rEnt, if_neg (by omega), hr]; rfl) hin hdg fun H1 locs1 h h' => kk _ rfl H1 locs1 (rArr_up hk ht hW (fun _ => rfl) (fun _ => rfl) (fun _ hb t' => rEnt_uI hb t') ?_ h) h'
  rw [hr, hx.vnar]
  simp only [rAe]
  congr 3
  congr 1
  funext j
  simp [sI, uI, upd]
theorem s_last (F : Fx Γ p s m meth c args cc nL own ws rt) (hR : Rep Γ σ H) (hS : va_S (rA Γ) s.heap H locs) {t n : Nat} (hk : sK σ a = t) (ht : 100 ≤ t) (hr : rAr t = (1, n)) {i : Int32} {x : Int64} (hin : vp_in i n) (hdg : decode cc pc = .ok (.lastore, 1))
    (kk : ∀ σ' : St, σ' = uJ σ t a i.toNatClampNeg x → ∀ (H1 : Heap) (locs1 : List Loc), Rep Γ σ' H1 → va_S (rA Γ) s.heap H1 locs1 → W p l e R s m args below meth c H1 locs1 cells slots Q (F0 m (pc + 1) ls rest)) : W p l e R s m args below meth c H locs cells slots Q (F0 m pc ls (.long x :: .int i :: .ref a :: rest)) := by
  obtain ⟨X, hW, hG⟩ := hR
  refine g_last F.1.1 F.1.2.1 F.2.1 hG hS (n := n) (f := fun i => sJ σ t a i) (by rw [rGs_ob hk (by omega) (by omega), rEnt, if_neg (by omega), hr]; rfl) hin hdg fun H1 locs1 h h' => kk _ rfl H1 locs1 (rArr_up hk ht hW (fun _ => rfl) (fun _ => rfl) (fun _ hb t' => rEnt_uJ hb t') ?_ h) h'
  rw [hr]
  simp only [rAe]
  congr 3
  exact congrArg Sum.inr (congrArg Sum.inl (funext fun j => by simp [sJ, uJ, vp_updL]))
theorem s_aast (F : Fx Γ p s m meth c args cc nL own ws rt) (hR : Rep Γ σ H) (hS : va_S (rA Γ) s.heap H locs) {t n : Nat} (hk : sK σ a = t) (ht : 100 ≤ t) (hr : rAr t = (3, n)) {i : Int32} {x : Nat} (hin : vp_in i n) (hx : sK σ x = 3) (hdg : decode cc pc = .ok (.aastore, 1))
    (kk : ∀ σ' : St, σ' = uR σ t a i.toNatClampNeg (some x) → ∀ (H1 : Heap) (locs1 : List Loc), Rep Γ σ' H1 → va_S (rA Γ) s.heap H1 locs1 → W p l e R s m args below meth c H1 locs1 cells slots Q (F0 m (pc + 1) ls rest)) : W p l e R s m args below meth c H locs cells slots Q (F0 m pc ls (.ref x :: .int i :: .ref a :: rest)) := by
  obtain ⟨X, hW, hG⟩ := hR
  refine g_aastS F.1.1 F.1.2.1 F.2.1 hG hS 3 3 (r := (RX2, TX2, 9)) (n := n) (f := fun i => sR σ t a i) (by rw [rGs_ob hk (by omega) (by omega), rEnt, if_neg (by omega), hr]; rfl) rfl (v := x) (vs := (rFl 3).map (rFv σ x)) (by rw [rGs_ob hx (by omega) (by omega), rEnt, if_pos (by omega)]; rfl) rfl hin hdg fun H1 locs1 h h' => kk _ rfl H1 locs1 (rArr_up hk ht hW (fun _ => rfl) (fun _ => rfl) (fun _ hb t' => rEnt_uR hb t') ?_ h) h'
  rw [hr]
  simp only [rAe]
  congr 7
  funext j
  simp [sR, uR, va_up]
theorem s_new (F : Fx Γ p s m meth c args cc nL own ws rt) (hR : Rep Γ σ H) (hS : va_S (rA Γ) s.heap H locs) (t : Nat) (ht : 0 < t ∧ t < 20) {C : String} {T : u_T} {N index : Nat} (hc : vwCl[rCi t]? = some (C, T, N)) (hin : ∀ w ∈ u_ws C T N, w ∈ ws) (ty0 : Nat → FieldType) (hty : ∀ k, k < N → parseFieldDescriptor (T k).2.2.1 = some (ty0 k)) (hdf : ∀ j, j < N → defaultValue (ty0 j) = vp_V ((rFl t).map rDf) j) (hcl : Cond.classLink own index C ∈ ws) (hinst : Cond.instantiable C N ∈ ws) (hini : Cond.initialized C ∈ ws) (hcells : cells + 1 ≤ R.cells) (hslots : slots + N ≤ R.slots) (hdg : decode cc pc = .ok (.new index, 3))
    (kk : ∀ q : Nat, sK σ q = 0 → ∀ σ' : St, σ' = uN σ q t → ∀ H1 : Heap, Rep Γ σ' H1 → va_S (rA Γ) s.heap H1 locs → W p l e R s m args below meth c H1 locs (cells + 1) (slots + N) Q (F0 m (pc + 3) ls (.ref q :: rest))) : W p l e R s m args below meth c H locs cells slots Q (F0 m pc ls rest) := by
  obtain ⟨X, hW, hG⟩ := hR
  refine g_new F.1.1 F.1.2.1 F.1.2.2.2.2 hin ty0 hty F.1.2.2.2.1 (F.1.2.2.2.2 _ hcl) (F.1.2.2.2.2 _ hinst) (F.1.2.2.2.2 _ hini) F.2.1 hG hS (ci := rCi t) hc hdf hcells hslots hdg fun q H1 hq hb h h' => ?_
  obtain ⟨w1, w2, w3⟩ := rGs_new hW hq (t := t) (by omega) (by omega)
  refine kk q w1 _ rfl H1 ⟨X, w2, ?_⟩ h'
  rw [w3, rEnt_newO (by omega)]
  exact h
end RS
theorem rdf_1 : ∀ j, j < 4 → defaultValue (tyX0 j) = vp_V ((rFl 1).map rDf) j := fun j hj => by rcases (show j = 0 ∨ j = 1 ∨ j = 2 ∨ j = 3 by omega) with rfl | rfl | rfl | rfl <;> rfl
theorem rdf_2 : ∀ j, j < 6 → defaultValue (tyX1 j) = vp_V ((rFl 2).map rDf) j := fun j hj => by rcases (show j = 0 ∨ j = 1 ∨ j = 2 ∨ j = 3 ∨ j = 4 ∨ j = 5 by omega) with rfl | rfl | rfl | rfl | rfl | rfl <;> rfl
theorem rdf_3 : ∀ j, j < 9 → defaultValue (tyX2 j) = vp_V ((rFl 3).map rDf) j := fun j hj => by rcases (show j = 0 ∨ j = 1 ∨ j = 2 ∨ j = 3 ∨ j = 4 ∨ j = 5 ∨ j = 6 ∨ j = 7 ∨ j = 8 by omega) with rfl | rfl | rfl | rfl | rfl | rfl | rfl | rfl | rfl <;> rfl
theorem rdf_4 : ∀ j, j < 9 → defaultValue (tyX3 j) = vp_V ((rFl 4).map rDf) j := fun j hj => by rcases (show j = 0 ∨ j = 1 ∨ j = 2 ∨ j = 3 ∨ j = 4 ∨ j = 5 ∨ j = 6 ∨ j = 7 ∨ j = 8 by omega) with rfl | rfl | rfl | rfl | rfl | rfl | rfl | rfl | rfl <;> rfl
theorem rdf_5 : ∀ j, j < 8 → defaultValue (tyX4 j) = vp_V ((rFl 5).map rDf) j := fun j hj => by rcases (show j = 0 ∨ j = 1 ∨ j = 2 ∨ j = 3 ∨ j = 4 ∨ j = 5 ∨ j = 6 ∨ j = 7 by omega) with rfl | rfl | rfl | rfl | rfl | rfl | rfl | rfl <;> rfl
theorem rdf_6 : ∀ j, j < 4 → defaultValue (tyX5 j) = vp_V ((rFl 6).map rDf) j := fun j hj => by rcases (show j = 0 ∨ j = 1 ∨ j = 2 ∨ j = 3 by omega) with rfl | rfl | rfl | rfl <;> rfl
theorem rdf_7 : ∀ j, j < 4 → defaultValue (tyX6 j) = vp_V ((rFl 7).map rDf) j := fun j hj => by rcases (show j = 0 ∨ j = 1 ∨ j = 2 ∨ j = 3 by omega) with rfl | rfl | rfl | rfl <;> rfl
theorem rdf_8 : ∀ j, j < 7 → defaultValue (tyX7 j) = vp_V ((rFl 8).map rDf) j := fun j hj => by rcases (show j = 0 ∨ j = 1 ∨ j = 2 ∨ j = 3 ∨ j = 4 ∨ j = 5 ∨ j = 6 by omega) with rfl | rfl | rfl | rfl | rfl | rfl | rfl <;> rfl
theorem rdf_9 : ∀ j, j < 46 → defaultValue (tyX8 j) = vp_V ((rFl 9).map rDf) j := fun j hj => by rcases (show j = 0 ∨ j = 1 ∨ j = 2 ∨ j = 3 ∨ j = 4 ∨ j = 5 ∨ j = 6 ∨ j = 7 ∨ j = 8 ∨ j = 9 ∨ j = 10 ∨ j = 11 ∨ j = 12 ∨ j = 13 ∨ j = 14 ∨ j = 15 ∨ j = 16 ∨ j = 17 ∨ j = 18 ∨ j = 19 ∨ j = 20 ∨ j = 21 ∨ j = 22 ∨ j = 23 ∨ j = 24 ∨ j = 25 ∨ j = 26 ∨ j = 27 ∨ j = 28 ∨ j = 29 ∨ j = 30 ∨ j = 31 ∨ j = 32 ∨ j = 33 ∨ j = 34 ∨ j = 35 ∨ j = 36 ∨ j = 37 ∨ j = 38 ∨ j = 39 ∨ j = 40 ∨ j = 41 ∨ j = 42 ∨ j = 43 ∨ j = 44 ∨ j = 45 by omega) with rfl | rfl | rfl | rfl | rfl | rfl | rfl | rfl | rfl | rfl | rfl | rfl | rfl | rfl | rfl | rfl | rfl | rfl | rfl | rfl | rfl | rfl | rfl | rfl | rfl | rfl | rfl | rfl | rfl | rfl | rfl | rfl | rfl | rfl | rfl | rfl | rfl | rfl | rfl | rfl | rfl | rfl | rfl | rfl | rfl | rfl <;> rfl
theorem rdf_19 : ∀ j, j < 3 → defaultValue (tyJx4a65c j) = vp_V ((rFl 19).map rDf) j := fun j hj => by rcases (show j = 0 ∨ j = 1 ∨ j = 2 by omega) with rfl | rfl | rfl <;> rfl
