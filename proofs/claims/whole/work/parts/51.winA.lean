/-! PUT, put together; WINDOW: the class's start, the returns -/
section WA
variable {L : LY} {cx mx : Nat} {A : Nat → Nat} {σ σ' σ'' : St} {V V' : MV} {G : GH} {n b : Nat}
theorem h_put {x1 x2 x3 x4 : Int32} (hn : n < 64) (I : Inv cx mx n σ) : law_put cx mx (Inv cx mx (n + 1)) x1 x2 x3 x4 σ := by
  obtain ⟨A, V, G, L, M, W, C⟩ := I
  have I' : Inv cx mx (n + 1) σ := ⟨A, V, G, L, M, W.le, C⟩
  unfold law_put
  generalize lawJ x1 x2 = p
  generalize lawJ x3 x4 = q
  refine c_put C W hn p q (fun z => ⟨M.mx, m_put' M W hn p q (fun _ => ⟨rfl, I'⟩) (fun h l hh hl e1 e2 => ?_)⟩) (fun h l hh hl e1 e2 σ1 L' G' C1 W1 g1 => ⟨(M.ag g1).mx, m_put' (M.ag g1) W hn p q (fun z => ?_) (fun h' l' hh' hl' e1' e2' σ2 M2 g2 => ?_)⟩)
  · exfalso
    rcases z with (z | z) | z | z
    · rw [e1] at z; exact (half_t hh).1 z
    · rw [e1] at z; exact (half_t hh).2 z
    · rw [e2] at z; exact (half_t hl).1 z
    · rw [e2] at z; exact (half_t hl).2 z
  · exfalso
    rcases z with (z | z) | z | z
    · rw [e1] at z; exact (half_t hh).1 z
    · rw [e1] at z; exact (half_t hh).2 z
    · rw [e2] at z; exact (half_t hl).1 z
    · rw [e2] at z; exact (half_t hl).2 z
  · have q1 : h' = h := (pk_lEQ (Nat.lt_trans hh' (by decide)) (Nat.lt_trans hh (by decide))).mp (e1'.symm.trans e1)
    have q2 : l' = l := (pk_lEQ (Nat.lt_trans hl' (by decide)) (Nat.lt_trans hl (by decide))).mp (e2'.symm.trans e2)
    subst q1
    subst q2
    exact ⟨rfl, A, _, G', L', M2, W1, C1.ag g2 (fun t h => h) W1.1.2.2.2.2.2.2.2.1 W1.1.2.2.2.2.2.2.2.2.2.2.2.2.2.2.2.2.2⟩
/-- what a row moves in bank x's ledger -/
def ct (V : MV) (G : GH) (ret : Bool) (x r : Nat) : Int64 := (if G.2.1 2 r = x then gnV V r ret else 0) - (if G.2.1 1 r = x then gnV V r ret else 0)
/-- the cells that a window of bank b changes -/
def wM (L : LY) (G : GH) (b a : Nat) : Prop := a = L 7 b ∨ a = L 8 b ∨ a = L 9 b ∨ a = L 5 b ∨ a = L 6 b ∨ ∃ x, x < G.1 0 ∧ a = L 4 x
/-- a window of bank b under way: what has gone out, how many returns, the ledgers, what waits, what is to be returned -/
def WI (L : LY) (V : MV) (G : GH) (b : Nat) (σ σ' : St) (outs : List Nat) (rts : Nat) (led : Nat → Int64) (Q R : List Nat) : Prop := AX (wM L G b) σ σ' ∧ sK σ' = sK σ ∧ sR σ' = sR σ ∧ (∀ g a j, g ≠ 302 → g ≠ 303 → sI σ' g a j = sI σ g a j) ∧ sI σ' 302 (L 7 b) 0 = nI rts ∧ sI σ' 303 (L 7 b) 0 = 0 ∧ (∀ f a j, f ≠ 105 → a ≠ L 9 b → sJ σ' f a j = sJ σ f a j) ∧ (∀ x, x < G.1 0 → sJ σ' 105 (L 4 x) 0 = led x) ∧ TT σ' (L 9 b) (fun w => tot (outp V w) outs) ∧ sL σ' (L 8 b) = outs.map (L 11) ∧ sL σ' (L 5 b) = Q.map (L 11) ∧ sL σ' (L 6 b) = R.map (L 11) ∧ ∀ a, a ≠ L 8 b → a ≠ L 5 b → a ≠ L 6 b → sL σ' a = sL σ a
theorem pt_outp (C : CI L cx σ V G) (W : WF V G n) {r : Nat} (hr : r < G.1 6) (hI : ∀ g, g ≠ 302 → g ≠ 303 → sI σ' g (L 11 r) 0 = sI σ g (L 11 r) 0) (w : Nat) : pt σ' (L 11 r) w = outp V w r := by
  have h5 := W.1.2.1
  obtain ⟨c0, c1, c2, c3, c4, c5, c6, c7⟩ := C.r r hr
  obtain ⟨w1, w2, w3, w4, _⟩ := W.2.2.2.2.2.1.1 r hr
  unfold pt outp
  rw [hI 201 (by decide) (by decide), hI 200 (by decide) (by decide), hI 203 (by decide) (by decide), c0, c1, c3, w3, nI_clamp (by omega)]
theorem clk {outs Q R : List Nat} {rts : Nat} {led : Nat → Int64} (C : CI L cx σ V G) (h : WI L V G b σ σ' outs rts led Q R) : cK L cx σ' G := cK.kk C.k h.2.1
/-- a row's money moves -/
theorem x_settle (C : CI L cx σ V G) (W : WF V G n) (hb : b < G.1 0) {outs Q R : List Nat} {rts : Nat} {led : Nat → Int64} (h : WI L V G b σ σ' outs rts led Q R) {r : Nat} (hr : r < G.1 6) {ret : Bool} {post : St → Prop} (hp : ∀ s, WI L V G b σ s outs rts (fun x => led x + ct V G ret x r) Q R → post s) : wX7_settle (some (L 11 r)) (bI ret) post σ' := by
  obtain ⟨a1, a2, a3, a4, a5, a6, a7, a8, a9, a10, a11, a12, a13⟩ := h
  obtain ⟨c0, c1, c2, c3, c4, c5, c6, c7⟩ := C.r r hr
  obtain ⟨w1, w2, w3, w4, _⟩ := W.2.2.2.2.2.1.1 r hr
  have kr : sK σ' (L 11 r) = 4 := by rw [a2]; exact C.k.knd 11 r hr
  have kt : sK σ' (L 4 (G.2.1 2 r)) = 2 := by rw [a2]; exact C.k.knd 4 _ w4
  have kg : sK σ' (L 4 (G.2.1 1 r)) = 2 := by rw [a2]; exact C.k.knd 4 _ w2
  have v0 : sI σ' 200 (L 11 r) 0 = V.2.1 1480 r := by rw [a4 _ _ _ (by decide) (by decide)]; exact c0
  have v3 : sI σ' 203 (L 11 r) 0 = V.2.1 1484 r := by rw [a4 _ _ _ (by decide) (by decide)]; exact c3
  have r6 : sR σ' 206 (L 11 r) 0 = some (L 4 (G.2.1 1 r)) := by rw [a3]; exact c6
  have r7 : sR σ' 207 (L 11 r) 0 = some (L 4 (G.2.1 2 r)) := by rw [a3]; exact c7
  have k41 : ∀ gn, gn = gnV V r ret → wX7_settle_41 post (some (L 11 r)) gn σ' := fun gn eg => by
    unfold wX7_settle_41
    refine ⟨L 11 r, rfl, kr, nm_R r7 ⟨kt, kt, fun s1 e1 => ?_⟩⟩
    have kr1 : sK s1 (L 11 r) = 4 := by rw [e1]; exact kr
    have kg1 : sK s1 (L 4 (G.2.1 1 r)) = 2 := by rw [e1]; exact kg
    have r61 : sR s1 206 (L 11 r) 0 = some (L 4 (G.2.1 1 r)) := by rw [e1]; exact r6
    refine ⟨kr1, nm_R r61 ⟨kg1, kg1, fun s2 e2 => ?_⟩⟩
    rw [a8 _ w4] at e1
    have q4 : ∀ x y, x < G.1 0 → y < G.1 0 → (L 4 x = L 4 y ↔ x = y) := fun x y hx hy => ⟨fun z => (C.k.2.2 4 x 4 y hx hy z).2, fun z => by rw [z]⟩
    have n49 : ∀ x, x < G.1 0 → L 4 x ≠ L 9 b := fun x hx => C.k.ne (t := 4) (t' := 9) hx hb (fun z => absurd z.1 (by decide))
    refine hp s2 ⟨?_, by rw [e2, e1]; exact a2, by rw [e2, e1]; exact a3, fun g a j n1 n2 => by rw [e2, e1]; exact a4 g a j n1 n2, by rw [e2, e1]; exact a5, by rw [e2, e1]; exact a6, fun f a j n1 n2 => ?_, fun x hx => ?_, ?_, by rw [e2, e1]; exact a10, by rw [e2, e1]; exact a11, by rw [e2, e1]; exact a12, fun a m1 m2 m3 => by rw [e2, e1]; exact a13 a m1 m2 m3⟩
    · rw [e2, e1]
      exact (a1.uJ (Or.inr (Or.inr (Or.inr (Or.inr (Or.inr ⟨_, w4, rfl⟩)))))).uJ (Or.inr (Or.inr (Or.inr (Or.inr (Or.inr ⟨_, w2, rfl⟩)))))
    · rw [e2, sJ_uJ, if_neg (fun z => n1 z.1), e1, sJ_uJ, if_neg (fun z => n1 z.1)]
      exact a7 f a j n1 n2
    · have s1v : ∀ y, y < G.1 0 → sJ s1 105 (L 4 y) 0 = led y + (if G.2.1 2 r = y then gnV V r ret else 0) := fun y hy => by
        rw [e1, sJ_uJ, eg]
        by_cases c : G.2.1 2 r = y
        · rw [if_pos ⟨rfl, by rw [c], rfl⟩, if_pos c, c]
        · rw [if_neg (fun z => c ((q4 _ _ hy w4).mp z.2.1).symm), if_neg c, a8 y hy, Int64.add_zero]
      have s2v : sJ s2 105 (L 4 x) 0 = sJ s1 105 (L 4 x) 0 - (if G.2.1 1 r = x then gnV V r ret else 0) := by
        rw [e2, sJ_uJ, eg]
        by_cases c : G.2.1 1 r = x
        · rw [if_pos ⟨rfl, by rw [c], rfl⟩, if_pos c, c]
        · rw [if_neg (fun z => c ((q4 _ _ hx w2).mp z.2.1).symm), if_neg c, Int64.sub_zero]
      rw [s2v, s1v x hx]
      unfold ct
      grind
    · obtain ⟨t0, t1, t2, t3⟩ := a9
      have hJ : ∀ f, f ≠ 105 → sJ s2 f (L 9 b) 0 = sJ σ' f (L 9 b) 0 := fun f hf => by
        rw [e2, sJ_uJ, if_neg (fun z => hf z.1), e1, sJ_uJ, if_neg (fun z => hf z.1)]
      refine ⟨?_, ?_, ?_, ?_⟩
      · rw [hJ 350 (by decide)]; exact t0
      · rw [hJ 351 (by decide)]; exact t1
      · rw [hJ 352 (by decide)]; exact t2
      · rw [hJ 353 (by decide)]; exact t3
  have k22 : ∀ y : Int32, ((y = 0 ∧ ((V.2.1 1480 r = 2) ↔ ret = true)) ∨ (y = 1 ∧ ¬ ((V.2.1 1480 r = 2) ↔ ret = true))) → wX7_settle_22 post (some (L 11 r)) y σ' := fun y hy => by
    unfold wX7_settle_22
    rcases hy with ⟨hy, hc⟩ | ⟨hy, hc⟩
    · refine br_t hy ⟨L 11 r, rfl, kr, k41 _ ?_⟩
      unfold gnV
      rw [if_pos hc, v3]
    · refine br_f (by rw [hy]; decide) ⟨L 11 r, rfl, kr, k41 _ ?_⟩
      unfold gnV
      rw [if_neg hc, v3]
  unfold wX7_settle
  refine ⟨L 11 r, rfl, kr, ?_⟩
  rw [v0]
  by_cases c2 : V.2.1 1480 r = 2
  · refine br_t c2 ?_
    unfold wX7_settle_13
    cases ret with
    | true => exact br_t rfl (k22 0 (Or.inl ⟨rfl, ⟨fun _ => rfl, fun _ => c2⟩⟩))
    | false => exact br_f (by decide) (k22 1 (Or.inr ⟨rfl, fun z => absurd (z.mp c2) (by decide)⟩))
  · refine br_f c2 ?_
    unfold wX7_settle_13
    cases ret with
    | true => exact br_f (by decide) (k22 1 (Or.inr ⟨rfl, fun z => c2 (z.mpr rfl)⟩))
    | false => exact br_t rfl (k22 0 (Or.inl ⟨rfl, ⟨fun z => absurd z c2, fun z => absurd z (by decide)⟩⟩))
end WA
