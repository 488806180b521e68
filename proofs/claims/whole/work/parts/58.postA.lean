/-! POST: one item -/
section PPA
variable {L : LY} {cx mx : Nat} {A : Nat → Nat} {σ σ' s : St} {V V' U : MV} {G : GH} {n N b k d r : Nat}
/-- the items done, set -/
def gD (G : GH) (b d : Nat) : GH := (G.1, (fun k i => if k = 6 ∧ i = b then d else G.2.1 k i), G.2.2)
theorem gD_6 {i : Nat} : (gD G b d).2.1 6 i = if i = b then d else G.2.1 6 i := by
  show (if 6 = 6 ∧ i = b then d else G.2.1 6 i) = _
  by_cases c : i = b
  · rw [if_pos ⟨rfl, c⟩, if_pos c]
  · rw [if_neg (fun z => c z.2), if_neg c]
theorem gD_o {t i : Nat} (h : t ≠ 6) : (gD G b d).2.1 t i = G.2.1 t i := by
  show (if t = 6 ∧ i = b then d else G.2.1 t i) = _
  rw [if_neg (fun z => h z.1)]
theorem gD_gD {d' : Nat} : gD (gD G b d') b d = gD G b d := by
  unfold gD
  refine Prod.ext rfl (Prod.ext ?_ rfl)
  funext t i
  show (if t = 6 ∧ i = b then d else if t = 6 ∧ i = b then d' else G.2.1 t i) = if t = 6 ∧ i = b then d else G.2.1 t i
  by_cases c : t = 6 ∧ i = b
  · rw [if_pos c, if_pos c]
  · rw [if_neg c, if_neg c, if_neg c]
/-- the class's count of items done, written -/
theorem CI.done (C : CI L cx σ V (gD G b d)) (hb : b < G.1 0) (hk : G.2.1 6 b = k) : CI L cx (uI σ 303 (L 7 b) 0 (nI k)) V G := by
  have K := C.k
  obtain ⟨a1, a2, a3, a4, a5, a6, a7, a8, a9, a10, a11, a12, a13, a14, a15, a16, a17⟩ := C
  refine ⟨a1, a2, ⟨a3.1, fun i hi => ?_⟩, a4, ⟨a5.1, fun i hi => ?_⟩, a6, fun i hi => ?_, ?_, ⟨?_, fun f hf => ?_⟩, fun j hj => ?_, ?_, fun z => ?_, fun r hr => ?_, fun r hr => ?_, a15, fun i hi => ?_, fun i hi => ?_⟩
  · rw [sI_ne (by decide), sI_ne (by decide)]; exact a3.2 i hi
  · rw [sI_ne (by decide)]; exact a5.2 i hi
  · rw [sI_ne (by decide)]; exact a7 i hi
  · unfold cS; rw [sI_ne (by decide)]; exact a8
  · rw [sI_ne (by decide)]; exact a9.1
  · rw [sI_ne (by decide)]; exact a9.2 f hf
  · rw [sI_ne (by decide)]; exact a10 j hj
  · unfold cG at a11 ⊢; rw [sI_ne (by decide), sI_ne (by decide)]; exact a11
  · exact FD.tr2 (a12 z) (fun t i _ g hg => by rw [sI_ne (by omega)]) (fun e _ g hg => by rw [sI_ne (by omega)]) rfl (fun _ _ => rfl) (fun _ _ _ _ => rfl) (fun _ _ => rfl) (fun _ _ => rfl) rfl
  · rw [sI_ne (by decide), sI_ne (by decide), sI_ne (by decide), sI_ne (by decide), sI_ne (by decide), sI_ne (by decide)]; exact a13 r hr
  · rw [sI_ne (by decide)]; exact a14 r hr
  · rw [sI_ne (by decide)]; exact a16 i hi
  · rw [sI_uI]
    by_cases c : i = b
    · rw [if_pos ⟨rfl, by rw [c], rfl⟩, c, hk]
    · have hi : i < G.1 0 := hi
      rw [if_neg (fun z => K.ne (t := 7) (t' := 7) hi hb (fun z => c z.2) z.2.1)]
      have := a17 i hi
      rw [gD_6, if_neg c] at this
      exact this
/-- an item of an output, from the well-formed view -/
theorem item_at (W : WF V G N) (hk : G.2.1 6 b = k) (hr : (G.2.2 1 b)[k]? = some r) : r < G.1 6 ∧ V.2.1 1492 (512 * b + k) = nI r ∧ V.2.1 1493 (512 * b + k) = (if k < G.2.1 5 b then 1 else 0) ∧ (G.2.1 5 b ≤ k → G.2.1 2 r = b ∧ V.2.1 1487 r = 1 ∧ V.2.1 1488 r = 0) := by
  obtain ⟨o1, o2, o3, o4, o5, o6⟩ := W.2.2.2.2.2.2.2 b
  obtain ⟨v1, v2, v3, v4, v5⟩ := o6 k r hr
  refine ⟨o3 r (List.mem_of_getElem? hr), v1, v2, fun z => ?_⟩
  obtain ⟨z1, z2, z3⟩ := v5 z
  obtain ⟨z4, z5⟩ := z3 (by omega)
  exact ⟨z1, z4, z5⟩
/-- the view well-formed again when an item is done: v is its mark -/
theorem WF.mark (W : WF V G N) (hN : N ≤ 64) (hk : G.2.1 6 b = k) (hr : (G.2.2 1 b)[k]? = some r) (hv : k < G.2.1 5 b ∨ V.2.1 1488 r = 0) : WF (mA V 1494 (512 * b + k) 1) (gD G b (k + 1)) N := by
  have hnr : G.1 6 ≤ N := W.1.2.2.2.2.2.2.2.2.2.2.2.2.2.1
  obtain ⟨a1, b2, b3, b4, b5, b6, b7, b8⟩ := W
  have hkl : k < (G.2.2 1 b).length := (List.getElem?_eq_some_iff.mp hr).1
  have hol : ∀ b', (G.2.2 1 b').length ≤ G.1 6 := fun b' => by
    obtain ⟨v1, v2, v3, v4, v5, v6⟩ := b8 b'
    exact nodup_len _ _ v2 v3
  have oo : ∀ t, t ≠ 1494 → (mA V 1494 (512 * b + k) 1).2.1 t = V.2.1 t := fun t ht => mA_o ht
  have e94 : ∀ p, (mA V 1494 (512 * b + k) 1).2.1 1494 p = if p = 512 * b + k then 1 else V.2.1 1494 p := fun p => by
    rw [mA_2]
    by_cases c : p = 512 * b + k
    · rw [if_pos ⟨rfl, c⟩, if_pos c]
    · rw [if_neg (fun z => c z.2), if_neg c]
  have s1 : (mA V 1494 (512 * b + k) 1).1 = V.1 := rfl
  have s2 : (mA V 1494 (512 * b + k) 1).2.2 = V.2.2 := rfl
  generalize mA V 1494 (512 * b + k) 1 = V' at *
  refine ⟨by unfold wN; rw [s1]; exact a1, ⟨?_, ?_, fun b' hb' => ?_⟩, ?_, ?_, ?_, ?_, fun b' => ?_, fun b' => ?_⟩
  · rw [oo _ (by decide)]; exact b2.1
  · rw [oo _ (by decide)]; exact b2.2.1
  · have hb' : G.1 0 ≤ b' := hb'
    obtain ⟨c1, c2, c3, c4⟩ := b2.2.2 b' hb'
    rw [s2, gD_o (by decide), gD_6]
    refine ⟨c1, c2, c3, ?_⟩
    by_cases c : b' = b
    · rw [c] at c2
      rw [c2] at hkl
      exact absurd hkl (Nat.not_lt_zero k)
    · rw [if_neg c]; exact c4
  · unfold wA at b3 ⊢; rw [oo _ (by decide), oo _ (by decide)]; exact b3
  · intro z
    rw [s1, oo _ (by decide), oo _ (by decide), oo _ (by decide), oo _ (by decide)]
    exact b4 z
  · unfold wF at b5 ⊢; rw [oo _ (by decide)]; exact b5
  · unfold wR at b6 ⊢; rw [oo _ (by decide), oo _ (by decide), oo _ (by decide), oo _ (by decide), oo _ (by decide), oo _ (by decide)]; exact b6
  · rw [oo _ (by decide), oo _ (by decide)]; exact b7 b'
  · obtain ⟨o1, o2, o3, o4, o5, o6⟩ := b8 b'
    rw [oo 1491 (by decide), gD_o (by decide), gD_6, oo 1492 (by decide), oo 1493 (by decide), oo 1487 (by decide), oo 1488 (by decide)]
    refine ⟨o1, o2, o3, o4, ?_, fun j r' hj => ?_⟩
    · show _ ≤ (G.2.2 1 b').length
      by_cases c : b' = b
      · rw [if_pos c, c]; omega
      · rw [if_neg c]; exact o5
    · replace hj : (G.2.2 1 b')[j]? = some r' := hj
      have hjl : j < 512 := by
        have h1 := (List.getElem?_eq_some_iff.mp hj).1
        have h2 := hol b'
        omega
      have hkl2 := hol b
      obtain ⟨v1, v2, v3, v4, v5⟩ := o6 j r' hj
      rw [e94]
      by_cases c : b' = b
      · rw [if_pos c]
        subst c
        by_cases c2 : j = k
        · subst c2
          rw [hr] at hj
          cases hj
          rw [if_pos rfl, if_pos (Nat.lt_succ_self _), if_pos hv]
          exact ⟨v1, v2, rfl, v4, fun z => ⟨(v5 z).1, (v5 z).2.1, fun z2 => by omega⟩⟩
        · rw [if_neg (show ¬ 512 * b' + j = 512 * b' + k by omega), v3, hk]
          refine ⟨v1, v2, ?_, v4, fun z => ⟨(v5 z).1, (v5 z).2.1, fun z2 => (v5 z).2.2 (by omega)⟩⟩
          by_cases c3 : j < k
          · rw [if_pos c3, if_pos (show j < k + 1 by omega)]
          · rw [if_neg c3, if_neg (show ¬ j < k + 1 by omega)]
      · rw [if_neg c, if_neg (show ¬ 512 * b' + j = 512 * b + k by omega)]
        exact ⟨v1, v2, v3, v4, v5⟩
/-- an entry sent back: the counts -/
def bG (G : GH) (b k g r : Nat) : GH := ((fun t => if t = 7 then G.1 7 + 1 else G.1 t), (fun t i => if t = 6 ∧ i = b then k + 1 else G.2.1 t i), (fun t i => if t = 0 ∧ i = g then G.2.2 0 g ++ [r] else G.2.2 t i))
def bV (V : MV) (p r w : Nat) : MV := mS (mA (mA (mA (tlV (mA (mA V 1494 p 1) 1494 p 2) w) 1488 r (nI w)) 1487 r 2) 1489 r (V.1 490)) 490 (V.1 490 + 1)
theorem bV_o {p w t : Nat} (h4 : t ≠ 1494) (h5 : t ≠ 1495) (h7 : t ≠ 1487) (h8 : t ≠ 1488) (h9 : t ≠ 1489) : (bV V p r w).2.1 t = V.2.1 t := (mA_o h9).trans ((mA_o h7).trans ((mA_o h8).trans ((mA_o h5).trans ((mA_o h4).trans (mA_o h4)))))
theorem bV_94 {p w q : Nat} : (bV V p r w).2.1 1494 q = if q = p then 2 else V.2.1 1494 q := by
  show (mA (mA (mA (tlV (mA (mA V 1494 p 1) 1494 p 2) w) 1488 r (nI w)) 1487 r 2) 1489 r (V.1 490)).2.1 1494 q = _
  rw [mA_o (by decide), mA_o (by decide), mA_o (by decide), tl_o (by decide), mA_2]
  by_cases c : q = p
  · rw [if_pos ⟨rfl, c⟩, if_pos c]
  · rw [if_neg (fun z => c z.2), if_neg c, mA_2, if_neg (fun z => c z.2)]
theorem bV_88 {p w q : Nat} : (bV V p r w).2.1 1488 q = if q = r then nI w else V.2.1 1488 q := by
  show (mA (mA (mA (tlV (mA (mA V 1494 p 1) 1494 p 2) w) 1488 r (nI w)) 1487 r 2) 1489 r (V.1 490)).2.1 1488 q = _
  rw [mA_o (by decide), mA_o (by decide), mA_2]
  by_cases c : q = r
  · rw [if_pos ⟨rfl, c⟩, if_pos c]
  · rw [if_neg (fun z => c z.2), if_neg c, tl_o (by decide), mA_o (by decide), mA_o (by decide)]
theorem bV_87 {p w q : Nat} : (bV V p r w).2.1 1487 q = if q = r then 2 else V.2.1 1487 q := by
  show (mA (mA (mA (tlV (mA (mA V 1494 p 1) 1494 p 2) w) 1488 r (nI w)) 1487 r 2) 1489 r (V.1 490)).2.1 1487 q = _
  rw [mA_o (by decide), mA_2]
  by_cases c : q = r
  · rw [if_pos ⟨rfl, c⟩, if_pos c]
  · rw [if_neg (fun z => c z.2), if_neg c, mA_o (by decide), tl_o (by decide), mA_o (by decide), mA_o (by decide)]
theorem bV_89 {p w q : Nat} : (bV V p r w).2.1 1489 q = if q = r then V.1 490 else V.2.1 1489 q := by
  show (mA (mA (mA (tlV (mA (mA V 1494 p 1) 1494 p 2) w) 1488 r (nI w)) 1487 r 2) 1489 r (V.1 490)).2.1 1489 q = _
  rw [mA_2]
  by_cases c : q = r
  · rw [if_pos ⟨rfl, c⟩, if_pos c]
  · rw [if_neg (fun z => c z.2), if_neg c, mA_o (by decide), mA_o (by decide), tl_o (by decide), mA_o (by decide), mA_o (by decide)]
theorem bV_95 {p w q : Nat} : (bV V p r w).2.1 1495 q = V.2.1 1495 q + nI (if q = w then 1 else 0) := by
  show (mA (mA (mA (tlV (mA (mA V 1494 p 1) 1494 p 2) w) 1488 r (nI w)) 1487 r 2) 1489 r (V.1 490)).2.1 1495 q = _
  rw [mA_o (by decide), mA_o (by decide), mA_o (by decide), tl_at, mA_o (by decide), mA_o (by decide)]
theorem bV_s {p w f : Nat} : (bV V p r w).1 f = if f = 490 then V.1 490 + 1 else V.1 f := rfl
theorem bV_j {p w : Nat} : (bV V p r w).2.2 = V.2.2 := rfl
theorem bG_6 {g i : Nat} : (bG G b k g r).2.1 6 i = if i = b then k + 1 else G.2.1 6 i := by
  show (if 6 = 6 ∧ i = b then k + 1 else G.2.1 6 i) = _
  by_cases c : i = b
  · rw [if_pos ⟨rfl, c⟩, if_pos c]
  · rw [if_neg (fun z => c z.2), if_neg c]
theorem bG_o {g t i : Nat} (h : t ≠ 6) : (bG G b k g r).2.1 t i = G.2.1 t i := by
  show (if t = 6 ∧ i = b then k + 1 else G.2.1 t i) = _
  rw [if_neg (fun z => h z.1)]
theorem bG_r {g i : Nat} : (bG G b k g r).2.2 0 i = if i = g then G.2.2 0 g ++ [r] else G.2.2 0 i := by
  show (if 0 = 0 ∧ i = g then G.2.2 0 g ++ [r] else G.2.2 0 i) = _
  by_cases c : i = g
  · rw [if_pos ⟨rfl, c⟩, if_pos c]
  · rw [if_neg (fun z => c z.2), if_neg c]
theorem bG_l {g i : Nat} : (bG G b k g r).2.2 1 i = G.2.2 1 i := by
  show (if 1 = 0 ∧ i = g then G.2.2 0 g ++ [r] else G.2.2 1 i) = _
  rw [if_neg (fun z => absurd z.1 (by decide))]
theorem WF.back (W : WF V G N) (hN : N ≤ 64) (h7 : G.1 7 < 40 * N) (hk : G.2.1 6 b = k) (hr : (G.2.2 1 b)[k]? = some r) (h5b : G.2.1 5 b ≤ k) {w : Nat} (hw0 : 0 < w) (hw : w < 34) : WF (bV V (512 * b + k) r w) (bG G b k (G.2.1 1 r) r) N := by
  have hnr : G.1 6 ≤ N := W.1.2.2.2.2.2.2.2.2.2.2.2.2.2.1
  obtain ⟨i1, i2, i3, i4⟩ := item_at W hk hr
  obtain ⟨i5, i6, i7⟩ := i4 h5b
  obtain ⟨⟨a1, a2, a3, a4, a5, a6, a7, a8, a9, a10, a11, a12, a13, a14, a15, a16, a17, a18⟩, b2, b3, b4, b5, b6, b7, b8⟩ := W
  have hkl : k < (G.2.2 1 b).length := (List.getElem?_eq_some_iff.mp hr).1
  have hol : ∀ b', (G.2.2 1 b').length ≤ G.1 6 := fun b' => by
    obtain ⟨v1, v2, v3, v4, v5, v6⟩ := b8 b'
    exact nodup_len _ _ v2 v3
  have oo : ∀ t, t ≠ 1494 → t ≠ 1495 → t ≠ 1487 → t ≠ 1488 → t ≠ 1489 → (bV V (512 * b + k) r w).2.1 t = V.2.1 t := fun t h4 h5 h7 h8 h9 => bV_o h4 h5 h7 h8 h9
  have e94 : ∀ q, (bV V (512 * b + k) r w).2.1 1494 q = if q = 512 * b + k then 2 else V.2.1 1494 q := fun q => bV_94
  have e88 : ∀ q, (bV V (512 * b + k) r w).2.1 1488 q = if q = r then nI w else V.2.1 1488 q := fun q => bV_88
  have e87 : ∀ q, (bV V (512 * b + k) r w).2.1 1487 q = if q = r then 2 else V.2.1 1487 q := fun q => bV_87
  have e89 : ∀ q, (bV V (512 * b + k) r w).2.1 1489 q = if q = r then V.1 490 else V.2.1 1489 q := fun q => bV_89
  have es : ∀ f, (bV V (512 * b + k) r w).1 f = if f = 490 then V.1 490 + 1 else V.1 f := fun f => bV_s
  have ej : (bV V (512 * b + k) r w).2.2 = V.2.2 := bV_j
  generalize bV V (512 * b + k) r w = V' at *
  refine ⟨⟨?_, a2, ?_, a4, ?_, a6, ?_, a8, ?_, a10, ?_, a12, ?_, a14, ?_, ?_, a17, a18⟩, ⟨?_, ?_, fun b' hb' => ?_⟩, ?_, ?_, ?_, ⟨fun q hq => ?_, fun q hq => ?_⟩, fun b' => ⟨fun q => ?_, ?_, fun q hq => ?_⟩, fun b' => ?_⟩
  · rw [es, if_neg (by decide)]; exact a1
  · rw [es, if_neg (by decide)]; exact a3
  · rw [es, if_neg (by decide)]; exact a5
  · rw [es, if_neg (by decide)]; exact a7
  · rw [es, if_neg (by decide)]; exact a9
  · rw [es, if_neg (by decide)]; exact a11
  · rw [es, if_neg (by decide)]; exact a13
  · rw [es, if_pos rfl, a15, nI_1]; rfl
  · show G.1 7 + 1 ≤ _; omega
  · rw [oo _ (by decide) (by decide) (by decide) (by decide) (by decide)]; exact b2.1
  · rw [oo _ (by decide) (by decide) (by decide) (by decide) (by decide)]; exact b2.2.1
  · have hb' : G.1 0 ≤ b' := hb'
    obtain ⟨c1, c2, c3, c4⟩ := b2.2.2 b' hb'
    rw [ej, bG_o (by decide), bG_6, bG_l]
    refine ⟨c1, c2, c3, ?_⟩
    by_cases c : b' = b
    · rw [c] at c2
      rw [c2] at hkl
      exact absurd hkl (Nat.not_lt_zero k)
    · rw [if_neg c]; exact c4
  · unfold wA at b3 ⊢; rw [oo _ (by decide) (by decide) (by decide) (by decide) (by decide), oo _ (by decide) (by decide) (by decide) (by decide) (by decide)]; exact b3
  · intro z
    rw [es, es, if_neg (by decide), if_neg (by decide), oo _ (by decide) (by decide) (by decide) (by decide) (by decide), oo _ (by decide) (by decide) (by decide) (by decide) (by decide), oo _ (by decide) (by decide) (by decide) (by decide) (by decide), oo _ (by decide) (by decide) (by decide) (by decide) (by decide)]
    exact b4 z
  · unfold wF at b5 ⊢; rw [oo _ (by decide) (by decide) (by decide) (by decide) (by decide)]; exact b5
  · rw [oo _ (by decide) (by decide) (by decide) (by decide) (by decide), oo _ (by decide) (by decide) (by decide) (by decide) (by decide), oo _ (by decide) (by decide) (by decide) (by decide) (by decide), oo _ (by decide) (by decide) (by decide) (by decide) (by decide)]
    exact b6.1 q hq
  · have hq : G.1 6 ≤ q ∨ V'.2.1 1487 q = 0 := hq
    rw [e88]
    by_cases c : q = r
    · exfalso
      rw [c, e87, if_pos rfl] at hq
      rcases hq with hq | hq
      · omega
      · exact absurd hq (by decide)
    · rw [if_neg c]
      rw [e87, if_neg c] at hq
      exact b6.2 q hq
  · obtain ⟨t1, t2, t3⟩ := b7 b'
    rw [bG_r, bG_o (by decide), e87]
    show q ∈ _ ↔ q < G.1 6 ∧ _
    by_cases c : b' = G.2.1 1 r
    · rw [if_pos c, List.mem_append, List.mem_singleton, ← c, t1 q]
      by_cases c2 : q = r
      · rw [if_pos c2, c2]
        exact ⟨fun _ => ⟨i1, rfl, c.symm⟩, fun _ => Or.inr rfl⟩
      · rw [if_neg c2]
        exact ⟨fun z => z.resolve_right c2, fun z => Or.inl z⟩
    · rw [if_neg c, t1 q]
      by_cases c2 : q = r
      · rw [if_pos c2, c2]
        exact ⟨fun z => absurd z.2.2.symm c, fun z => absurd z.2.2.symm c⟩
      · rw [if_neg c2]
  · obtain ⟨t1, t2, t3⟩ := b7 b'
    have hnm : ∀ q, q ∈ G.2.2 0 b' → q ≠ r := fun q hq z => by
      have := ((t1 q).mp hq).2.1
      rw [z, i6] at this
      exact absurd this (by decide)
    have old : (G.2.2 0 b').Pairwise (fun x y => V'.2.1 1489 x < V'.2.1 1489 y) := List.Pairwise.imp_of_mem (fun {x y} hx hy z => by
      rw [e89, e89, if_neg (hnm x hx), if_neg (hnm y hy)]
      exact z) t2
    rw [bG_r]
    by_cases c : b' = G.2.1 1 r
    · rw [if_pos c, ← c, List.pairwise_append]
      refine ⟨old, List.pairwise_singleton _ _, fun x hx y hy => ?_⟩
      rw [List.mem_singleton.mp hy, e89, e89, if_neg (hnm x hx), if_pos rfl]
      obtain ⟨j, hj, ej⟩ := t3 x hx
      rw [ej, a15]
      exact nI_lt hj (by omega)
    · rw [if_neg c]
      exact old
  · obtain ⟨t1, t2, t3⟩ := b7 b'
    rw [bG_r] at hq
    rw [e89]
    show ∃ j, j < G.1 7 + 1 ∧ _
    by_cases c2 : q = r
    · rw [if_pos c2]
      exact ⟨G.1 7, Nat.lt_succ_self _, a15⟩
    · rw [if_neg c2]
      by_cases c : b' = G.2.1 1 r
      · rw [if_pos c, List.mem_append, List.mem_singleton, ← c] at hq
        obtain ⟨j, hj, ej⟩ := t3 q (hq.resolve_right c2)
        exact ⟨j, by omega, ej⟩
      · rw [if_neg c] at hq
        obtain ⟨j, hj, ej⟩ := t3 q hq
        exact ⟨j, by omega, ej⟩
  · obtain ⟨o1, o2, o3, o4, o5, o6⟩ := b8 b'
    rw [oo 1491 (by decide) (by decide) (by decide) (by decide) (by decide), bG_l, bG_o (by decide), bG_6, oo 1492 (by decide) (by decide) (by decide) (by decide) (by decide), oo 1493 (by decide) (by decide) (by decide) (by decide) (by decide)]
    refine ⟨o1, o2, o3, o4, ?_, fun j q hj => ?_⟩
    · by_cases c : b' = b
      · rw [if_pos c, c]; omega
      · rw [if_neg c]; exact o5
    · have hjl : j < 512 := by
        have h1 := (List.getElem?_eq_some_iff.mp hj).1
        have h2 := hol b'
        omega
      have hkl2 := hol b
      obtain ⟨v1, v2, v3, v4, v5⟩ := o6 j q hj
      rw [e94, e87, e88, bG_o (by decide)]
      by_cases c : b' = b
      · rw [if_pos c]
        subst c
        by_cases c2 : j = k
        · subst c2
          rw [hr] at hj
          cases hj
          rw [if_pos rfl, if_pos (Nat.lt_succ_self _), if_pos rfl, if_pos rfl, if_neg (show ¬ (j < G.2.1 5 b' ∨ nI w = 0) from fun z => by
            rcases z with z | z
            · omega
            · exact nI_ne0 hw0 (by omega) z)]
          exact ⟨v1, v2, rfl, fun z => by omega, fun z => ⟨i5, by decide, fun z2 => by omega⟩⟩
        · have hqr : q ≠ r := fun z => by
            rw [z] at hj
            obtain ⟨h1, h2⟩ := List.getElem?_eq_some_iff.mp hj
            obtain ⟨h3, h4⟩ := List.getElem?_eq_some_iff.mp hr
            exact c2 ((List.getElem_inj o2).mp (h2.trans h4.symm))
          rw [if_neg (show ¬ 512 * b' + j = 512 * b' + k by omega), if_neg hqr, if_neg hqr, v3, hk]
          refine ⟨v1, v2, ?_, v4, fun z => ⟨(v5 z).1, (v5 z).2.1, fun z2 => (v5 z).2.2 (by omega)⟩⟩
          by_cases c3 : j < k
          · rw [if_pos c3, if_pos (show j < k + 1 by omega)]
          · rw [if_neg c3, if_neg (show ¬ j < k + 1 by omega)]
      · have hqr : q ≠ r := fun z => by
          subst z
          by_cases c3 : j < G.2.1 5 b'
          · have := v4 c3
            rw [i6] at this
            exact absurd this (by decide)
          · exact c ((v5 (by omega)).1.symm.trans i5)
        rw [if_neg c, if_neg (show ¬ 512 * b' + j = 512 * b + k by omega), if_neg hqr, if_neg hqr]
        exact ⟨v1, v2, v3, v4, v5⟩
end PPA
