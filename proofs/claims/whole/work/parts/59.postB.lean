/-! POST: one item, the class -/
section PPB
variable {L : LY} {cx mx : Nat} {A : Nat → Nat} {σ σ' s : St} {V V' U : MV} {G : GH} {n N b k d r a g p w : Nat}
theorem CI.cv (C : CI L cx σ V G) (h1 : ∀ t, t ≠ 1494 → V'.2.1 t = V.2.1 t) (h2 : V'.2.2 = V.2.2) (h3 : V'.1 = V.1) : CI L cx σ V' G := by
  obtain ⟨a1, a2, a3, a4, a5, a6, a7, a8, a9, a10, a11, a12, a13, a14, a15, a16, a17⟩ := C
  have e51 := h1 1451 (by decide)
  refine ⟨a1, a2, ?_, ?_, ?_, ?_, ?_, ?_, ?_, ?_, a11, fun z => ?_, ?_, ?_, fun i hi => ?_, fun i hi => ?_, a17⟩
  · unfold cB; rw [e51]; exact a3
  · unfold cL; rw [h2]; exact a4
  · unfold cA; rw [h1 1456 (by decide)]; exact a5
  · unfold cAb; rw [h2]; exact a6
  · unfold cAs; rw [h1 1458 (by decide)]; exact a7
  · unfold cS; rw [h3]; exact a8
  · unfold cN; rw [e51]; exact a9
  · unfold cT; rw [h1 1495 (by decide)]; exact a10
  · exact FD.tr2 (a12 z) (fun _ _ _ _ _ => rfl) (fun _ _ _ _ => rfl) rfl (fun _ _ => rfl) (fun _ _ _ _ => rfl) (fun _ _ => rfl) (fun t ht => h1 t (by omega)) h3
  · unfold cR; rw [h1 1480 (by decide), e51, h1 1483 (by decide), h1 1484 (by decide), h1 1485 (by decide), h1 1486 (by decide)]; exact a13
  · unfold cRr; rw [h1 1488 (by decide)]; exact a14
  · have e : wtB V' i = wtB V i := by
      funext q
      unfold wtB
      rw [h1 1487 (by decide), h1 1482 (by decide)]
    rw [e]
    exact a15 i hi
  · have e : ∀ w, outp V' w = outp V w := fun w => by
      funext q
      exact outp_congr (by rw [e51]) (by rw [h1 1482 (by decide)]) (by rw [h1 1480 (by decide)]) (by rw [h1 1484 (by decide)])
    obtain ⟨o1, o2, o3⟩ := a16 i hi
    refine ⟨o1, o2, ?_⟩
    unfold TT at o3 ⊢
    dsimp only at o3 ⊢
    rw [e, e, e, e]
    exact o3
theorem CI.posted (C : CI L cx σ V G) (hr : r < G.1 6) (ha : a < G.1 1) (h88 : V.2.1 1488 r = 0) (h4 : G.1 3 ≤ 4) {x : Int64} : CI L cx (uJ (uI σ 208 (L 11 r) 0 0) 52 (L 10 a) 0 x) (mJ V 1457 a x) G := by
  have K := C.k
  obtain ⟨a1, a2, a3, a4, a5, a6, a7, a8, a9, a10, a11, a12, a13, a14, a15, a16, a17⟩ := C
  refine ⟨a1, a2, ⟨a3.1, fun i hi => ?_⟩, fun i hi => ?_, ⟨a5.1, fun i hi => ?_⟩, fun i hi => ?_, fun i hi => ?_, ?_, ⟨?_, fun f hf => ?_⟩, fun j hj => ?_, ?_, fun z => ?_, fun q hq => ?_, fun q hq => ?_, a15, fun i hi => ?_, fun i hi => ?_⟩
  · rw [sI_uJ, sI_ne (by decide), sI_ne (by decide)]; exact a3.2 i hi
  · rw [sJ_uJ, if_neg (fun z => absurd z.1 (by decide)), mJ_3, if_neg (fun z => absurd z.1 (by decide))]; exact a4 i hi
  · rw [sI_uJ, sI_ne (by decide)]; exact a5.2 i hi
  · rw [sJ_uJ, mJ_3]
    by_cases c : i = a
    · rw [if_pos ⟨rfl, by rw [c], rfl⟩, if_pos ⟨rfl, c⟩]
    · rw [if_neg (fun z => K.ne (t := 10) (t' := 10) hi ha (fun z => c z.2) z.2.1), if_neg (fun z => c z.2)]
      exact a6 i hi
  · rw [sI_uJ, sI_ne (by decide)]; exact a7 i hi
  · unfold cS; rw [sI_uJ, sI_ne (by decide)]; exact a8
  · rw [sI_uJ, sI_ne (by decide)]; exact a9.1
  · rw [sI_uJ, sI_ne (by decide)]; exact a9.2 f hf
  · rw [sI_uJ, sI_ne (by decide)]; exact a10 j hj
  · unfold cG at a11 ⊢; rw [sI_uJ, sI_ne (by decide), sI_ne (by decide)]; exact a11
  · obtain ⟨d1, d2, d3, d4, d5, d6, d7, d8⟩ := a12 z
    have nJ : ∀ f t i, f ≠ 52 → sJ (uJ (uI σ 208 (L 11 r) 0 0) 52 (L 10 a) 0 x) f (L t i) 0 = sJ σ f (L t i) 0 := fun f t i hf => by
      rw [sJ_uJ, if_neg (fun z => hf z.1)]
      rfl
    have nI' : ∀ f a j, f ≠ 208 → sI (uJ (uI σ 208 (L 11 r) 0 0) 52 (L 10 a) 0 x) f a j = sI σ f a j := fun f a j hf => by
      rw [sI_uJ, sI_ne hf]
    refine ⟨d1, d2, d3, d4, ?_, fun k hk => ?_, d7, d8⟩
    · unfold TT at d5 ⊢; rw [nJ _ _ _ (by decide), nJ _ _ _ (by decide), nJ _ _ _ (by decide), nJ _ _ _ (by decide)]; exact d5
    · have := d6 k hk
      unfold TT at this ⊢
      rw [nJ _ _ _ (by decide), nJ _ _ _ (by decide), nJ _ _ _ (by decide), nJ _ _ _ (by decide)]
      exact this
  · rw [sI_uJ, sI_ne (by decide), sI_ne (by decide), sI_ne (by decide), sI_ne (by decide), sI_ne (by decide), sI_ne (by decide)]; exact a13 q hq
  · rw [sI_uJ, sI_uI]
    by_cases c : q = r
    · rw [if_pos ⟨rfl, by rw [c], rfl⟩, c]
      exact h88.symm
    · rw [if_neg (fun z => K.ne (t := 11) (t' := 11) hq hr (fun z => c z.2) z.2.1)]
      exact a14 q hq
  · obtain ⟨o1, o2, o3⟩ := a16 i hi
    refine ⟨o1, by rw [sI_uJ, sI_ne (by decide)]; exact o2, ?_⟩
    unfold TT at o3 ⊢
    rw [sJ_uJ, if_neg (fun z => absurd z.1 (by decide)), sJ_uJ, if_neg (fun z => absurd z.1 (by decide)), sJ_uJ, if_neg (fun z => absurd z.1 (by decide)), sJ_uJ, if_neg (fun z => absurd z.1 (by decide))]
    exact o3
  · rw [sI_uJ, sI_ne (by decide)]; exact a17 i hi
/-- the counts with one row to be returned more -/
def bR (G : GH) (g r : Nat) : GH := ((fun t => if t = 7 then G.1 7 + 1 else G.1 t), G.2.1, (fun t i => if t = 0 ∧ i = g then G.2.2 0 g ++ [r] else G.2.2 t i))
theorem bR_bG : gD (bG G b k g r) b d = bR (gD G b d) g r := by
  unfold gD bG bR
  refine Prod.ext rfl (Prod.ext ?_ rfl)
  funext t i
  show (if t = 6 ∧ i = b then d else if t = 6 ∧ i = b then k + 1 else G.2.1 t i) = if t = 6 ∧ i = b then d else G.2.1 t i
  by_cases c : t = 6 ∧ i = b
  · rw [if_pos c, if_pos c]
  · rw [if_neg c, if_neg c, if_neg c]
theorem CI.back (C : CI L cx σ V G) (hr : r < G.1 6) (hg : g < G.1 0) (h87 : V.2.1 1487 r = 1) (hw : kno w) (h4 : G.1 3 ≤ 4) : CI L cx (uL (uI (uI σ 208 (L 11 r) 0 (nI w)) 1405 (L 0 4) w (sI σ 1405 (L 0 4) w + 1)) (L 6 g) (sL σ (L 6 g) ++ [L 11 r])) (bV V p r w) (bR G g r) := by
  have K := C.k
  have hw34 : w < 34 := by unfold kno at hw; omega
  have oo : ∀ t, t ≠ 1494 → t ≠ 1495 → t ≠ 1487 → t ≠ 1488 → t ≠ 1489 → (bV V p r w).2.1 t = V.2.1 t := fun t h4 h5 h7 h8 h9 => bV_o h4 h5 h7 h8 h9
  have e88 : ∀ q, (bV V p r w).2.1 1488 q = if q = r then nI w else V.2.1 1488 q := fun q => bV_88
  have e87 : ∀ q, (bV V p r w).2.1 1487 q = if q = r then 2 else V.2.1 1487 q := fun q => bV_87
  have e95 : ∀ q, (bV V p r w).2.1 1495 q = V.2.1 1495 q + nI (if q = w then 1 else 0) := fun q => bV_95
  have es : ∀ f, (bV V p r w).1 f = if f = 490 then V.1 490 + 1 else V.1 f := fun f => bV_s
  have ej : (bV V p r w).2.2 = V.2.2 := bV_j
  generalize bV V p r w = V' at *
  have e51 := oo 1451 (by decide) (by decide) (by decide) (by decide) (by decide)
  obtain ⟨a1, a2, a3, a4, a5, a6, a7, a8, a9, a10, a11, a12, a13, a14, a15, a16, a17⟩ := C
  have n6 : ∀ t i, i < cnt G t → ¬ (t = 6 ∧ i = g) → ¬ L t i = L 6 g := fun t i hi hn => K.ne hi hg (t' := 6) hn
  have nL : ∀ t i, i < cnt G t → ¬ (t = 6 ∧ i = g) → sL (uL (uI (uI σ 208 (L 11 r) 0 (nI w)) 1405 (L 0 4) w (sI σ 1405 (L 0 4) w + 1)) (L 6 g) (sL σ (L 6 g) ++ [L 11 r])) (L t i) = sL σ (L t i) := fun t i hi hn => by
    rw [sL_uL, if_neg (n6 t i hi hn)]
    rfl
  have nI' : ∀ f a j, f ≠ 208 → f ≠ 1405 → sI (uL (uI (uI σ 208 (L 11 r) 0 (nI w)) 1405 (L 0 4) w (sI σ 1405 (L 0 4) w + 1)) (L 6 g) (sL σ (L 6 g) ++ [L 11 r])) f a j = sI σ f a j := fun f a j h1 h2 => by
    rw [sI_uL, sI_ne h2, sI_ne h1]
  have v5 : ∀ q, sI (uL (uI (uI σ 208 (L 11 r) 0 (nI w)) 1405 (L 0 4) w (sI σ 1405 (L 0 4) w + 1)) (L 6 g) (sL σ (L 6 g) ++ [L 11 r])) 1405 (L 0 4) q = sI σ 1405 (L 0 4) q + nI (if q = w then 1 else 0) := fun q => by
    rw [sI_uL, sI_uI]
    by_cases c : q = w
    · rw [if_pos ⟨rfl, rfl, c⟩, if_pos c, c]; rfl
    · rw [if_neg (fun z => c z.2.2), if_neg c, nI_0, Int32.add_zero, sI_ne (by decide)]
  have v8 : ∀ q, q < G.1 6 → sI (uL (uI (uI σ 208 (L 11 r) 0 (nI w)) 1405 (L 0 4) w (sI σ 1405 (L 0 4) w + 1)) (L 6 g) (sL σ (L 6 g) ++ [L 11 r])) 208 (L 11 q) 0 = if q = r then nI w else sI σ 208 (L 11 q) 0 := fun q hq => by
    rw [sI_uL, sI_ne (by decide), sI_uI]
    by_cases c : q = r
    · rw [if_pos ⟨rfl, by rw [c], rfl⟩, if_pos c]
    · rw [if_neg (fun z => K.ne (t := 11) (t' := 11) hq hr (fun z => c z.2) z.2.1), if_neg c]
  have hsl : sL (uL (uI (uI σ 208 (L 11 r) 0 (nI w)) 1405 (L 0 4) w (sI σ 1405 (L 0 4) w + 1)) (L 6 g) (sL σ (L 6 g) ++ [L 11 r])) (L 6 g) = sL σ (L 6 g) ++ [L 11 r] := by rw [sL_uL, if_pos rfl]
  have hK : sK (uL (uI (uI σ 208 (L 11 r) 0 (nI w)) 1405 (L 0 4) w (sI σ 1405 (L 0 4) w + 1)) (L 6 g) (sL σ (L 6 g) ++ [L 11 r])) = sK σ := rfl
  have hR : sR (uL (uI (uI σ 208 (L 11 r) 0 (nI w)) 1405 (L 0 4) w (sI σ 1405 (L 0 4) w + 1)) (L 6 g) (sL σ (L 6 g) ++ [L 11 r])) = sR σ := rfl
  have hJ : sJ (uL (uI (uI σ 208 (L 11 r) 0 (nI w)) 1405 (L 0 4) w (sI σ 1405 (L 0 4) w + 1)) (L 6 g) (sL σ (L 6 g) ++ [L 11 r])) = sJ σ := rfl
  generalize uL (uI (uI σ 208 (L 11 r) 0 (nI w)) 1405 (L 0 4) w (sI σ 1405 (L 0 4) w + 1)) (L 6 g) (sL σ (L 6 g) ++ [L 11 r]) = s at *
  have ct' : ∀ t, cnt (bR G g r) t = cnt G t := fun t => by
    match t with
    | 0 => rfl
    | 1 => rfl
    | 2 => rfl
    | 3 => rfl
    | 4 => rfl
    | 5 => rfl
    | 6 => rfl
    | 7 => rfl
    | 8 => rfl
    | 9 => rfl
    | 10 => rfl
    | 11 => rfl
    | 12 => rfl
    | _ + 13 => rfl
  refine ⟨?_, ?_, ⟨?_, fun i hi => ?_⟩, fun i hi => ?_, ⟨?_, fun i hi => ?_⟩, fun i hi => ?_, fun i hi => ?_, ?_, ⟨?_, fun f hf => ?_⟩, fun j hj => ⟨fun z => ?_, fun z => ?_⟩, ?_, fun z => ?_, fun q hq => ?_, fun q hq => ?_, fun i hi => ⟨?_, ?_⟩, fun i hi => ?_, fun i hi => ?_⟩
  · unfold cK at a1 ⊢
    rw [hK]
    simp only [ct']
    exact a1
  · unfold cF at a2 ⊢; rw [hR]; exact a2
  · rw [nL 0 0 (show 0 < 7 by omega) (by omega)]; exact a3.1
  · rw [nI' _ _ _ (by decide) (by decide), nI' _ _ _ (by decide) (by decide), hR, e51]; exact a3.2 i hi
  · rw [hJ, ej]; exact a4 i hi
  · rw [nL 0 1 (show 1 < 7 by omega) (by omega)]; exact a5.1
  · rw [hR, nI' _ _ _ (by decide) (by decide), oo 1456 (by decide) (by decide) (by decide) (by decide) (by decide)]; exact a5.2 i hi
  · rw [hJ, ej]; exact a6 i hi
  · rw [nI' _ _ _ (by decide) (by decide), oo 1458 (by decide) (by decide) (by decide) (by decide) (by decide)]; exact a7 i hi
  · unfold cS; rw [nI' _ _ _ (by decide) (by decide), es, if_neg (by decide)]; exact a8
  · rw [nI' _ _ _ (by decide) (by decide)]; exact a9.1
  · rw [nI' _ _ _ (by decide) (by decide), e51]; exact a9.2 f hf
  · rw [v5, e95, (a10 j hj).1 z]
  · rw [v5, (a10 j hj).2 z, if_neg (fun e => z (by rw [e]; exact hw))]; rfl
  · unfold cG at a11 ⊢; rw [nI' _ _ _ (by decide) (by decide), nI' _ _ _ (by decide) (by decide)]; exact a11
  · exact (a12 z).tr3 (fun t i _ q hq => nI' _ _ _ hq.2 (by omega)) (fun e _ q hq => nI' _ _ _ hq.2 (by omega)) hR (fun f _ => by rw [hJ]) (fun k _ f _ => by rw [hJ]) (fun k hk => nL 2 k (show k < 4 by have : k < G.1 3 := hk; omega) (by omega)) (fun t ht => oo t (by omega) (by omega) (by omega) (by omega) (by omega)) (by rw [es, if_neg (by decide)]) (by rw [es, if_neg (by decide)])
  · rw [nI' _ _ _ (by decide) (by decide), nI' _ _ _ (by decide) (by decide), nI' _ _ _ (by decide) (by decide), nI' _ _ _ (by decide) (by decide), nI' _ _ _ (by decide) (by decide), nI' _ _ _ (by decide) (by decide), hR, e51, oo 1480 (by decide) (by decide) (by decide) (by decide) (by decide), oo 1483 (by decide) (by decide) (by decide) (by decide) (by decide), oo 1484 (by decide) (by decide) (by decide) (by decide) (by decide), oo 1485 (by decide) (by decide) (by decide) (by decide) (by decide), oo 1486 (by decide) (by decide) (by decide) (by decide) (by decide)]
    exact a13 q hq
  · rw [v8 q hq, e88]
    by_cases c : q = r
    · rw [if_pos c, if_pos c]
    · rw [if_neg c, if_neg c]; exact a14 q hq
  · have hi : i < G.1 0 := hi
    rw [nL 5 i hi (by omega), (a15 i hi).1]
    congr 1
    refine List.filter_congr (fun q hq => ?_)
    unfold wtB
    rw [e87, oo 1482 (by decide) (by decide) (by decide) (by decide) (by decide)]
    by_cases c : q = r
    · rw [if_pos c, c, h87, decide_eq_false (fun z => absurd z.1 (by decide)), decide_eq_false (fun z => absurd z.1 (by decide))]
    · rw [if_neg c]
  · have hi : i < G.1 0 := hi
    show _ = ((bR G g r).2.2 0 i).map (L 11)
    have : (bR G g r).2.2 0 i = if i = g then G.2.2 0 g ++ [r] else G.2.2 0 i := by
      show (if 0 = 0 ∧ i = g then G.2.2 0 g ++ [r] else G.2.2 0 i) = _
      by_cases c : i = g
      · rw [if_pos ⟨rfl, c⟩, if_pos c]
      · rw [if_neg (fun z => c z.2), if_neg c]
    rw [this]
    by_cases c : i = g
    · rw [if_pos c, c, hsl, (a15 g hg).2, List.map_append]; rfl
    · rw [if_neg c, nL 6 i hi (fun z => c z.2)]; exact (a15 i hi).2
  · have hi : i < G.1 0 := hi
    have : (bR G g r).2.2 1 i = G.2.2 1 i := by
      show (if 1 = 0 ∧ i = g then G.2.2 0 g ++ [r] else G.2.2 1 i) = _
      rw [if_neg (fun z => absurd z.1 (by decide))]
    rw [this]
    have e : ∀ w, outp V' w = outp V w := fun w => by
      funext q
      exact outp_congr (by rw [e51]) (by rw [oo 1482 (by decide) (by decide) (by decide) (by decide) (by decide)]) (by rw [oo 1480 (by decide) (by decide) (by decide) (by decide) (by decide)]) (by rw [oo 1484 (by decide) (by decide) (by decide) (by decide) (by decide)])
    obtain ⟨o1, o2, o3⟩ := a16 i hi
    rw [nL 8 i hi (by omega), nI' _ _ _ (by decide) (by decide)]
    refine ⟨o1, o2, ?_⟩
    unfold TT at o3 ⊢
    dsimp only at o3 ⊢
    rw [e, e, e, e, hJ]
    exact o3
  · rw [nI' _ _ _ (by decide) (by decide)]; exact a17 i hi
end PPB
