/-! THE INVARIANT: the class's cells against the model's view.
G: what is counted: .1 of 0 banks, 1 accounts, 2 stage, 3 batches, 4 entries of the file, 5 files, 6 rows, 7 backs; .2.1 of 0 an account's bank, 1 a row's giver, 2 its taker, 3 a file's bank, 4 its number, 5 an output's returns, 6 its items done; .2.2 of 0 a bank's returns, 1 its output.
L: where what lies: 0 the fixed ones, 1 batches, 2 their entries, 3 their totals, 4 banks, 5 their waiting, 6 their returns, 7 their outputs, 8 the outputs' entries, 9 their totals, 10 accounts, 11 rows, 12 entries of the file under way -/
abbrev LY : Type := Nat → Nat → Nat
abbrev GH : Type := (Nat → Nat) × (Nat → Nat → Nat) × (Nat → Nat → List Nat)
def kd (t i : Nat) : Nat := match t with
  | 0 => (match i with
    | 0 => 20
    | 1 => 21
    | 2 => 5
    | 3 => 1403
    | 4 => 1405
    | 5 => 1250
    | _ => 7)
  | 1 => 3
  | 2 => 22
  | 3 => 7
  | 4 => 2
  | 5 => 22
  | 6 => 22
  | 7 => 6
  | 8 => 22
  | 9 => 7
  | 10 => 1
  | _ => 4
def cnt (G : GH) (t : Nat) : Nat := match t with
  | 0 => 7
  | 1 => 4
  | 2 => 4
  | 3 => 4
  | 4 => G.1 0
  | 5 => G.1 0
  | 6 => G.1 0
  | 7 => G.1 0
  | 8 => G.1 0
  | 9 => G.1 0
  | 10 => G.1 1
  | 11 => G.1 6
  | 12 => if G.1 2 = 0 then 0 else G.1 4
  | _ => 0
theorem kd_c (t i : Nat) : cTag (kd t i) := by
  unfold kd cTag mTag
  split
  · split <;> decide
  all_goals decide
def TT (σ : St) (a : Nat) (s : Nat → Int64) : Prop := sJ σ 350 a 0 = s 0 ∧ sJ σ 351 a 0 = s 1 ∧ sJ σ 352 a 0 = s 2 ∧ sJ σ 353 a 0 = s 3
def cK (L : LY) (cx : Nat) (σ : St) (G : GH) : Prop := sK σ cx = 8 ∧ (∀ t i, i < cnt G t → sK σ (L t i) = kd t i) ∧ ∀ t i t' i', i < cnt G t → i' < cnt G t' → L t i = L t' i' → t = t' ∧ i = i'
def cF (L : LY) (cx : Nat) (σ : St) : Prop := sR σ 400 cx 0 = some (L 0 0) ∧ sR σ 401 cx 0 = some (L 0 1) ∧ sR σ 402 cx 0 = some (L 0 2) ∧ sR σ 403 cx 0 = some (L 0 3) ∧ sR σ 405 cx 0 = some (L 0 4) ∧ sR σ 250 (L 0 2) 0 = some (L 0 5) ∧ sR σ 251 (L 0 2) 0 = some (L 0 6) ∧ ∀ k, k < 4 → sR σ 1250 (L 0 5) k = some (L 1 k) ∧ sR σ 150 (L 1 k) 0 = some (L 2 k) ∧ sR σ 151 (L 1 k) 0 = some (L 3 k)
def cB (L : LY) (σ : St) (V : MV) (G : GH) : Prop := sL σ (L 0 0) = (List.range (G.1 0)).map (L 4) ∧ ∀ b, b < G.1 0 → sI σ 100 (L 4 b) 0 = nI b ∧ sI σ 101 (L 4 b) 0 = V.2.1 1451 b ∧ sR σ 102 (L 4 b) 0 = some (L 5 b) ∧ sR σ 103 (L 4 b) 0 = some (L 6 b) ∧ sR σ 104 (L 4 b) 0 = some (L 7 b) ∧ sR σ 300 (L 7 b) 0 = some (L 8 b) ∧ sR σ 301 (L 7 b) 0 = some (L 9 b)
def cL (L : LY) (σ : St) (V : MV) (G : GH) : Prop := ∀ b, b < G.1 0 → sJ σ 105 (L 4 b) 0 = V.2.2 1452 b
def cA (L : LY) (σ : St) (V : MV) (G : GH) : Prop := sL σ (L 0 1) = (List.range (G.1 1)).map (L 10) ∧ ∀ i, i < G.1 1 → sR σ 50 (L 10 i) 0 = some (L 4 (G.2.1 0 i)) ∧ sI σ 51 (L 10 i) 0 = V.2.1 1456 i
def cAb (L : LY) (σ : St) (V : MV) (G : GH) : Prop := ∀ i, i < G.1 1 → sJ σ 52 (L 10 i) 0 = V.2.2 1457 i
def cAs (L : LY) (σ : St) (V : MV) (G : GH) : Prop := ∀ i, i < G.1 1 → sI σ 53 (L 10 i) 0 = V.2.1 1458 i
def cS (cx : Nat) (σ : St) (V : MV) : Prop := sI σ 406 cx 0 = V.1 453
def cN (L : LY) (cx : Nat) (σ : St) (V : MV) (G : GH) : Prop := sI σ 404 cx 0 = nI (G.1 5) ∧ ∀ f, f < G.1 5 → sI σ 1403 (L 0 3) f = V.2.1 1451 (G.2.1 3 f) * 10000 + nI (G.2.1 4 f)
def cT (L : LY) (σ : St) (V : MV) : Prop := ∀ k, k < 34 → (kno k → sI σ 1405 (L 0 4) k = V.2.1 1495 k) ∧ (¬ kno k → sI σ 1405 (L 0 4) k = 0)
def cG (L : LY) (σ : St) (G : GH) : Prop := (G.1 2 = 0 → sI σ 256 (L 0 2) 0 = 0) ∧ (G.1 2 ≠ 0 → sI σ 256 (L 0 2) 0 = 1 ∧ (G.1 2 = 2 → sI σ 257 (L 0 2) 0 = 1) ∧ (G.1 2 ≠ 2 → sI σ 257 (L 0 2) 0 = 0))
/-- a batch's control says what is so -/
def sayb (V : MV) (ne k : Nat) : Prop := (V.2.1 1467 k).toInt64 = tot (ep V 0) (inB V (nI k) ne) ∧ (V.2.1 1468 k).toInt64 = tot (ep V 1) (inB V (nI k) ne) ∧ (V.2.1 1469 k).toInt64 = tot (ep V 2) (inB V (nI k) ne) ∧ (V.2.1 1470 k).toInt64 = tot (ep V 3) (inB V (nI k) ne)
/-- the file under way -/
def FD (L : LY) (σ : St) (V : MV) (st nt ne : Nat) : Prop := sI σ 253 (L 0 2) 0 = nI nt ∧ sI σ 254 (L 0 2) 0 = V.1 460 ∧ sI σ 255 (L 0 2) 0 = V.1 461 ∧ (st = 2 → sR σ 252 (L 0 2) 0 = some (L 1 (nt - 1))) ∧ TT σ (L 0 6) (fun w => tot (ep V w) (inB V (-1) ne)) ∧
  (∀ k, k < nt → sI σ 152 (L 1 k) 0 = V.2.1 1464 k ∧ sI σ 153 (L 1 k) 0 = V.2.1 1465 k ∧ sI σ 154 (L 1 k) 0 = V.2.1 1466 k ∧ sL σ (L 2 k) = (inB V (nI k) ne).map (L 12) ∧ TT σ (L 3 k) (fun w => tot (ep V w) (inB V (nI k) ne)) ∧ sI σ 156 (L 1 k) 0 = bI (gw V (nI k) ne) ∧ (¬ (st = 2 ∧ k = nt - 1) → (sayb V ne k → sI σ 157 (L 1 k) 0 = 1) ∧ (¬ sayb V ne k → sI σ 157 (L 1 k) 0 = 0))) ∧
  (st = 2 → sI σ 155 (L 1 (nt - 1)) 0 = if 0 < ne ∧ V.2.1 1471 (ne - 1) = nI (nt - 1) then V.2.1 1476 (ne - 1) else -1) ∧
  ∀ e, e < ne → sI σ 200 (L 12 e) 0 = V.2.1 1472 e ∧ sI σ 201 (L 12 e) 0 = V.2.1 1473 e ∧ sI σ 202 (L 12 e) 0 = V.2.1 1474 e ∧ sI σ 203 (L 12 e) 0 = V.2.1 1475 e ∧ sI σ 204 (L 12 e) 0 = V.2.1 1476 e
def cE (L : LY) (σ : St) (V : MV) (G : GH) : Prop := G.1 2 ≠ 0 → FD L σ V (G.1 2) (G.1 3) (G.1 4)
def cR (L : LY) (σ : St) (V : MV) (G : GH) : Prop := ∀ r, r < G.1 6 → sI σ 200 (L 11 r) 0 = V.2.1 1480 r ∧ sI σ 201 (L 11 r) 0 = V.2.1 1451 (G.2.1 2 r) ∧ sI σ 202 (L 11 r) 0 = V.2.1 1483 r ∧ sI σ 203 (L 11 r) 0 = V.2.1 1484 r ∧ sI σ 204 (L 11 r) 0 = V.2.1 1485 r ∧ sI σ 205 (L 11 r) 0 = V.2.1 1486 r ∧ sR σ 206 (L 11 r) 0 = some (L 4 (G.2.1 1 r)) ∧ sR σ 207 (L 11 r) 0 = some (L 4 (G.2.1 2 r))
def cRr (L : LY) (σ : St) (V : MV) (G : GH) : Prop := ∀ r, r < G.1 6 → sI σ 208 (L 11 r) 0 = V.2.1 1488 r
def cW (L : LY) (σ : St) (V : MV) (G : GH) : Prop := ∀ b, b < G.1 0 → sL σ (L 5 b) = ((List.range (G.1 6)).filter (wtB V b)).map (L 11) ∧ sL σ (L 6 b) = (G.2.2 0 b).map (L 11)
def cO (L : LY) (σ : St) (V : MV) (G : GH) : Prop := ∀ b, b < G.1 0 → sL σ (L 8 b) = (G.2.2 1 b).map (L 11) ∧ sI σ 302 (L 7 b) 0 = nI (G.2.1 5 b) ∧ TT σ (L 9 b) (fun w => tot (outp V w) (G.2.2 1 b))
def cD (L : LY) (σ : St) (G : GH) : Prop := ∀ b, b < G.1 0 → sI σ 303 (L 7 b) 0 = nI (G.2.1 6 b)
def CI (L : LY) (cx : Nat) (σ : St) (V : MV) (G : GH) : Prop := cK L cx σ G ∧ cF L cx σ ∧ cB L σ V G ∧ cL L σ V G ∧ cA L σ V G ∧ cAb L σ V G ∧ cAs L σ V G ∧ cS cx σ V ∧ cN L cx σ V G ∧ cT L σ V ∧ cG L σ G ∧ cE L σ V G ∧ cR L σ V G ∧ cRr L σ V G ∧ cW L σ V G ∧ cO L σ V G ∧ cD L σ G
section CI
variable {L : LY} {cx : Nat} {σ σ' : St} {V : MV} {G : GH}
theorem cK.knd (h : cK L cx σ G) (t i : Nat) (hi : i < cnt G t) : sK σ (L t i) = kd t i := h.2.1 t i hi
theorem cK.ne (h : cK L cx σ G) {t i t' i' : Nat} (hi : i < cnt G t) (hi' : i' < cnt G t') (hne : ¬ (t = t' ∧ i = i')) : L t i ≠ L t' i' := fun e => hne (h.2.2 t i t' i' hi hi' e)
theorem FD.ag {st nt ne : Nat} (h : FD L σ V st nt ne) (hI : ∀ t i, t ≤ 3 → i < cnt G t → ∀ f j, sI σ' f (L t i) j = sI σ f (L t i) j) (hJ : ∀ t i, t ≤ 3 → i < cnt G t → ∀ f j, sJ σ' f (L t i) j = sJ σ f (L t i) j) (hR : ∀ t i, t ≤ 3 → i < cnt G t → ∀ f j, sR σ' f (L t i) j = sR σ f (L t i) j) (hL : ∀ t i, t ≤ 3 → i < cnt G t → sL σ' (L t i) = sL σ (L t i)) (h4 : nt ≤ 4) (h0 : st = 2 → 0 < nt) (hE : ∀ e, e < ne → ∀ f, sI σ' f (L 12 e) 0 = sI σ f (L 12 e) 0) : FD L σ' V st nt ne := by
  have c02 : 2 < cnt G 0 := by show 2 < 7; omega
  have c06 : 6 < cnt G 0 := by show 6 < 7; omega
  have c1 : ∀ k, k < nt → k < cnt G 1 := fun k hk => by show k < 4; omega
  have c2 : ∀ k, k < nt → k < cnt G 2 := fun k hk => by show k < 4; omega
  have c3 : ∀ k, k < nt → k < cnt G 3 := fun k hk => by show k < 4; omega
  obtain ⟨a1, a2, a3, a4, a5, a6, a7, a8⟩ := h
  refine ⟨?_, ?_, ?_, ?_, ?_, ?_, ?_, ?_⟩
  · rw [hI 0 2 (by omega) c02]; exact a1
  · rw [hI 0 2 (by omega) c02]; exact a2
  · rw [hI 0 2 (by omega) c02]; exact a3
  · rw [hR 0 2 (by omega) c02]; exact a4
  · unfold TT; rw [hJ 0 6 (by omega) c06, hJ 0 6 (by omega) c06, hJ 0 6 (by omega) c06, hJ 0 6 (by omega) c06]; exact a5
  · intro k hk
    unfold TT
    rw [hI 1 k (by omega) (c1 k hk), hI 1 k (by omega) (c1 k hk), hI 1 k (by omega) (c1 k hk), hI 1 k (by omega) (c1 k hk), hI 1 k (by omega) (c1 k hk), hL 2 k (by omega) (c2 k hk), hJ 3 k (by omega) (c3 k hk), hJ 3 k (by omega) (c3 k hk), hJ 3 k (by omega) (c3 k hk), hJ 3 k (by omega) (c3 k hk)]
    exact a6 k hk
  · intro hs
    have := h0 hs
    rw [hI 1 (nt - 1) (by omega) (c1 _ (by omega))]
    exact a7 hs
  · intro e he
    rw [hE e he, hE e he, hE e he, hE e he, hE e he]
    exact a8 e he
theorem CI.agP (h : CI L cx σ V G) (hI : ∀ t i, i < cnt G t → ∀ f j, sI σ' f (L t i) j = sI σ f (L t i) j) (hJ : ∀ t i, i < cnt G t → ∀ f j, sJ σ' f (L t i) j = sJ σ f (L t i) j) (hR : ∀ t i, i < cnt G t → ∀ f j, sR σ' f (L t i) j = sR σ f (L t i) j) (hL : ∀ t i, i < cnt G t → sL σ' (L t i) = sL σ (L t i)) (hK : ∀ t i, i < cnt G t → sK σ' (L t i) = sK σ (L t i)) (hx : sK σ' cx = sK σ cx) (hxI : ∀ f, sI σ' f cx 0 = sI σ f cx 0) (hxR : ∀ f, sR σ' f cx 0 = sR σ f cx 0) (h4 : G.1 3 ≤ 4) (h0 : G.1 2 = 2 → 0 < G.1 3) : CI L cx σ' V G := by
  obtain ⟨a1, a2, a3, a4, a5, a6, a7, a8, a9, a10, a11, a12, a13, a14, a15, a16, a17⟩ := h
  have c0 : ∀ i, i < 7 → i < cnt G 0 := fun i hi => hi
  refine ⟨⟨hx.trans a1.1, fun t i hi => (hK t i hi).trans (a1.2.1 t i hi), a1.2.2⟩, ?_, ?_, ?_, ?_, ?_, ?_, ?_, ?_, ?_, ?_, ?_, ?_, ?_, ?_, ?_, ?_⟩
  · unfold cF
    rw [hxR, hxR, hxR, hxR, hxR, hR 0 2 (c0 2 (by omega)), hR 0 2 (c0 2 (by omega))]
    refine ⟨a2.1, a2.2.1, a2.2.2.1, a2.2.2.2.1, a2.2.2.2.2.1, a2.2.2.2.2.2.1, a2.2.2.2.2.2.2.1, fun k hk => ?_⟩
    rw [hR 0 5 (c0 5 (by omega)), hR 1 k hk, hR 1 k hk]
    exact a2.2.2.2.2.2.2.2 k hk
  · refine ⟨by rw [hL 0 0 (c0 0 (by omega))]; exact a3.1, fun b hb => ?_⟩
    rw [hI 4 b hb, hI 4 b hb, hR 4 b hb, hR 4 b hb, hR 4 b hb, hR 7 b hb, hR 7 b hb]
    exact a3.2 b hb
  · intro b hb; rw [hJ 4 b hb]; exact a4 b hb
  · refine ⟨by rw [hL 0 1 (c0 1 (by omega))]; exact a5.1, fun i hi => ?_⟩
    rw [hR 10 i hi, hI 10 i hi]
    exact a5.2 i hi
  · intro i hi; rw [hJ 10 i hi]; exact a6 i hi
  · intro i hi; rw [hI 10 i hi]; exact a7 i hi
  · unfold cS; rw [hxI]; exact a8
  · refine ⟨by rw [hxI]; exact a9.1, fun f hf => ?_⟩
    rw [hI 0 3 (c0 3 (by omega))]
    exact a9.2 f hf
  · intro k hk; rw [hI 0 4 (c0 4 (by omega))]; exact a10 k hk
  · unfold cG; rw [hI 0 2 (c0 2 (by omega)), hI 0 2 (c0 2 (by omega))]; exact a11
  · intro hs
    refine FD.ag (G := G) (a12 hs) (fun t i _ => hI t i) (fun t i _ => hJ t i) (fun t i _ => hR t i) (fun t i _ => hL t i) h4 h0 (fun e he f => hI 12 e (by show e < if G.1 2 = 0 then 0 else G.1 4; rw [if_neg hs]; exact he) f 0)
  · intro r hr
    rw [hI 11 r hr, hI 11 r hr, hI 11 r hr, hI 11 r hr, hI 11 r hr, hI 11 r hr, hR 11 r hr, hR 11 r hr]
    exact a13 r hr
  · intro r hr; rw [hI 11 r hr]; exact a14 r hr
  · intro b hb; rw [hL 5 b hb, hL 6 b hb]; exact a15 b hb
  · intro b hb
    unfold TT
    rw [hL 8 b hb, hI 7 b hb, hJ 9 b hb, hJ 9 b hb, hJ 9 b hb, hJ 9 b hb]
    exact a16 b hb
  · intro b hb; rw [hI 7 b hb]; exact a17 b hb
theorem CI.ag {P : Nat → Prop} (h : CI L cx σ V G) (g : AG P σ σ') (hP : ∀ t, cTag t → P t) (h4 : G.1 3 ≤ 4) (h0 : G.1 2 = 2 → 0 < G.1 3) : CI L cx σ' V G := by
  have k : ∀ t i, i < cnt G t → P (sK σ (L t i)) := fun t i hi => hP _ (by rw [h.1.2.1 t i hi]; exact kd_c t i)
  have kx : P (sK σ cx) := hP _ (by rw [h.1.1]; unfold cTag mTag; decide)
  exact h.agP (fun t i hi f j => (g _ (k t i hi)).2.1 f j) (fun t i hi f j => (g _ (k t i hi)).2.2.1 f j) (fun t i hi f j => (g _ (k t i hi)).2.2.2.1 f j) (fun t i hi => (g _ (k t i hi)).2.2.2.2) (fun t i hi => (g _ (k t i hi)).1) (g _ kx).1 (fun f => (g _ kx).2.1 f 0) (fun f => (g _ kx).2.2.2.1 f 0) h4 h0
end CI
/-- what the view keeps -/
def wN (V : MV) (G : GH) (n : Nat) : Prop := V.1 450 = nI (G.1 0) ∧ G.1 0 ≤ 5 ∧ V.1 454 = nI (G.1 1) ∧ G.1 1 ≤ 12 ∧ V.1 459 = nI (G.1 2) ∧ G.1 2 ≤ 2 ∧ V.1 462 = nI (G.1 3) ∧ G.1 3 ≤ 4 ∧ V.1 463 = nI (G.1 4) ∧ G.1 4 ≤ 20 ∧ V.1 478 = nI (G.1 5) ∧ G.1 5 ≤ n ∧ V.1 479 = nI (G.1 6) ∧ G.1 6 ≤ n ∧ V.1 490 = nI (G.1 7) ∧ G.1 7 ≤ 40 * n ∧ (G.1 2 ≠ 0 → G.1 6 + G.1 4 ≤ n) ∧ (G.1 2 = 2 → 0 < G.1 3)
def wB (V : MV) (G : GH) : Prop := (∀ b, b < G.1 0 → ∃ x, x < 10000 ∧ V.2.1 1451 b = nI x) ∧ (∀ b b', b < G.1 0 → b' < G.1 0 → V.2.1 1451 b = V.2.1 1451 b' → b = b') ∧ ∀ b, G.1 0 ≤ b → V.2.2 1452 b = 0 ∧ G.2.2 1 b = [] ∧ G.2.1 5 b = 0 ∧ G.2.1 6 b = 0
def wA (V : MV) (G : GH) : Prop := (∀ i, i < G.1 1 → V.2.1 1455 i = nI (G.2.1 0 i) ∧ G.2.1 0 i < G.1 0) ∧ ∀ i, G.1 1 ≤ i → V.2.1 1458 i = 0
def wE (V : MV) (G : GH) : Prop := G.1 2 ≠ 0 → (∃ x, x < 10000 ∧ V.1 460 = nI x) ∧ (∃ x, x < 10000 ∧ V.1 461 = nI x) ∧ (∀ e, e < G.1 4 → (∃ k, k < G.1 3 ∧ V.2.1 1471 e = nI k) ∧ (∃ x, x < 10000000 ∧ V.2.1 1475 e = nI x) ∧ ∃ x, x < 10000000 ∧ V.2.1 1476 e = nI x) ∧ (∀ e e', e ≤ e' → e' < G.1 4 → V.2.1 1471 e ≤ V.2.1 1471 e') ∧ ∀ b, b < G.1 3 → ∃ x, x < 10000 ∧ V.2.1 1465 b = nI x
def wF (V : MV) (G : GH) : Prop := ∀ f, f < G.1 5 → V.2.1 1477 f = nI (10000 * G.2.1 3 f + G.2.1 4 f) ∧ G.2.1 3 f < G.1 0 ∧ G.2.1 4 f < 10000
def wR (V : MV) (G : GH) : Prop := (∀ r, r < G.1 6 → V.2.1 1481 r = nI (G.2.1 1 r) ∧ G.2.1 1 r < G.1 0 ∧ V.2.1 1482 r = nI (G.2.1 2 r) ∧ G.2.1 2 r < G.1 0 ∧ (∃ x, x < 10000000 ∧ V.2.1 1484 r = nI x) ∧ (V.2.1 1480 r = 2 ∨ V.2.1 1480 r = 7)) ∧ ∀ r, (G.1 6 ≤ r ∨ V.2.1 1487 r = 0) → V.2.1 1488 r = 0
def wT (V : MV) (G : GH) : Prop := ∀ b, (∀ r, r ∈ G.2.2 0 b ↔ r < G.1 6 ∧ V.2.1 1487 r = 2 ∧ G.2.1 1 r = b) ∧ (G.2.2 0 b).Pairwise (fun r s => V.2.1 1489 r < V.2.1 1489 s) ∧ ∀ r, r ∈ G.2.2 0 b → ∃ k, k < G.1 7 ∧ V.2.1 1489 r = nI k
def wO (V : MV) (G : GH) : Prop := ∀ b, V.2.1 1491 b = nI (G.2.2 1 b).length ∧ (G.2.2 1 b).Nodup ∧ (∀ r, r ∈ G.2.2 1 b → r < G.1 6) ∧ G.2.1 5 b ≤ (G.2.2 1 b).length ∧ G.2.1 6 b ≤ (G.2.2 1 b).length ∧
  ∀ k r, (G.2.2 1 b)[k]? = some r → V.2.1 1492 (512 * b + k) = nI r ∧ V.2.1 1493 (512 * b + k) = (if k < G.2.1 5 b then 1 else 0) ∧ V.2.1 1494 (512 * b + k) = (if k < G.2.1 6 b then (if k < G.2.1 5 b ∨ V.2.1 1488 r = 0 then 1 else 2) else 0) ∧ (k < G.2.1 5 b → V.2.1 1487 r = 3) ∧ (G.2.1 5 b ≤ k → G.2.1 2 r = b ∧ V.2.1 1487 r ≠ 0 ∧ (G.2.1 6 b ≤ k → V.2.1 1487 r = 1 ∧ V.2.1 1488 r = 0))
def WF (V : MV) (G : GH) (n : Nat) : Prop := wN V G n ∧ wB V G ∧ wA V G ∧ wE V G ∧ wF V G ∧ wR V G ∧ wT V G ∧ wO V G
def Inv (cx mx n : Nat) (σ : St) : Prop := ∃ (A : Nat → Nat) (V : MV) (G : GH) (L : LY), MI mx A V σ ∧ WF V G n ∧ CI L cx σ V G
theorem WF.le {V : MV} {G : GH} {n : Nat} (h : WF V G n) : WF V G (n + 1) := by
  obtain ⟨⟨a1, a2, a3, a4, a5, a6, a7, a8, a9, a10, a11, a12, a13, a14, a15, a16, a17, a18⟩, h2⟩ := h
  exact ⟨⟨a1, a2, a3, a4, a5, a6, a7, a8, a9, a10, a11, by omega, a13, by omega, a15, by omega, fun z => by have := a17 z; omega, a18⟩, h2⟩
/-- a list of different numbers below n has at most n -/
theorem nodup_len : ∀ (n : Nat) (l : List Nat), l.Nodup → (∀ x, x ∈ l → x < n) → l.length ≤ n := by
  intro n
  induction n with
  | zero =>
    intro l _ h
    cases l with
    | nil => exact Nat.le_refl _
    | cons x l => exact absurd (h x List.mem_cons_self) (Nat.not_lt_zero x)
  | succ n ih =>
    intro l hn h
    by_cases hm : n ∈ l
    · have h1 := ih (l.erase n) (hn.erase n) (fun x hx => by
        have h2 := h x (List.mem_of_mem_erase hx)
        have h3 : x ≠ n := fun e => by rw [e] at hx; exact (List.Nodup.not_mem_erase hn) hx
        omega)
      rw [List.length_erase_of_mem hm] at h1
      omega
    · have h1 := ih l hn (fun x hx => by
        have h2 := h x hx
        have h3 : x ≠ n := fun e => by rw [e] at hx; exact hm hx
        omega)
      omega
