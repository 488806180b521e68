/-! PUT: a file's end, the invariant after it -/
section PL
variable {L : LY} {cx mx : Nat} {σ σ' s1 s3 : St} {V V' U : MV} {G : GH} {n b y : Nat}
/-- the entry that a new row is made of -/
def gE (V : MV) (G : GH) (i : Nat) : Nat := (((List.range (G.1 4)).filter (good V (G.1 0) (G.1 4)))[i - G.1 6]?).getD 0
def gF (V : MV) (G : GH) (b y : Nat) : GH := ((fun k => if k = 2 then 0 else if k = 5 then G.1 5 + 1 else if k = 6 then G.1 6 + cntL (good V (G.1 0) (G.1 4)) (G.1 4) else G.1 k), (fun k i => if k = 1 ∧ G.1 6 ≤ i then (bk V (G.1 0) (V.2.1 1464 (ibn V (gE V G i)))).getD 0 else if k = 2 ∧ G.1 6 ≤ i then (bk V (G.1 0) (V.2.1 1473 (gE V G i))).getD 0 else if k = 3 ∧ i = G.1 5 then b else if k = 4 ∧ i = G.1 5 then y else G.2.1 k i), G.2.2)
def lF (L : LY) (V : MV) (G : GH) : LY := fun t i => if t = 11 ∧ G.1 6 ≤ i then L 12 (gE V G i) else L t i
theorem gE_at {e : Nat} (he : e < G.1 4) (hg : good V (G.1 0) (G.1 4) e = true) : gE V G (G.1 6 + cntL (good V (G.1 0) (G.1 4)) e) = e := by
  unfold gE
  rw [Nat.add_sub_cancel_left, filt_get he hg]
  rfl
theorem row_cs {i : Nat} (h : i < G.1 6 + cntL (good V (G.1 0) (G.1 4)) (G.1 4)) : i < G.1 6 ∨ ∃ e, e < G.1 4 ∧ good V (G.1 0) (G.1 4) e = true ∧ i = G.1 6 + cntL (good V (G.1 0) (G.1 4)) e := by
  by_cases c : i < G.1 6
  · exact Or.inl c
  · obtain ⟨e, h1, h2, h3⟩ := cntL_idx (show i - G.1 6 < cntL (good V (G.1 0) (G.1 4)) (G.1 4) by omega)
    exact Or.inr ⟨e, h1, h2, by omega⟩
theorem lF_o {t i : Nat} (h : t ≠ 11 ∨ i < G.1 6) : lF L V G t i = L t i := if_neg (fun z => by omega)
theorem lF_e {e : Nat} (he : e < G.1 4) (hg : good V (G.1 0) (G.1 4) e = true) : lF L V G 11 (G.1 6 + cntL (good V (G.1 0) (G.1 4)) e) = L 12 e := by
  unfold lF
  rw [if_pos ⟨rfl, Nat.le_add_right _ _⟩, gE_at he hg]
theorem bf_0 {nb ne k : Nat} (h : bf V nb ne k = 0) : ∃ o, o < nb ∧ bk V nb (V.2.1 1464 k) = some o := by
  cases hb : bk V nb (V.2.1 1464 k) with
  | some o => exact ⟨o, by have := (fnd_some hb).2.1; omega, rfl⟩
  | none =>
    unfold bf at h
    rw [if_pos hb] at h
    exact absurd h (by decide)
/-- a good entry's banks -/
theorem good_bk {e : Nat} (hg : good V (G.1 0) (G.1 4) e = true) : ∃ o t, o < G.1 0 ∧ t < G.1 0 ∧ bk V (G.1 0) (V.2.1 1464 (ibn V e)) = some o ∧ bk V (G.1 0) (V.2.1 1473 e) = some t ∧ V.2.1 1451 t = V.2.1 1473 e := by
  obtain ⟨h1, h2⟩ := of_decide_eq_true hg
  obtain ⟨o, ho, eo⟩ := bf_0 h1
  obtain ⟨t, ht, et⟩ := ef_0 h2
  exact ⟨o, t, ho, ht, eo, et, of_decide_eq_true (fnd_some et).2.2.1⟩
theorem bf_kno (V : MV) (nb ne k : Nat) : bf V nb ne k = 0 ∨ kno (bf V nb ne k) := by
  unfold bf kno
  repeat' split <;> try omega
theorem ef_kno (V : MV) (nb e : Nat) : ef V nb e = 0 ∨ kno (ef V nb e) := by
  unfold ef kno
  repeat' split <;> try omega
theorem tal_kno {nb ne k : Nat} {B P : List Nat} (hk : ¬ kno k) (h0 : 0 < k) : tal V nb ne B P k = 0 := by
  unfold tal
  have e1 : B.filter (fun b => decide (bf V nb ne b = k)) = [] := by
    rw [List.filter_eq_nil_iff]
    intro x _ z
    have z := of_decide_eq_true z
    rcases bf_kno V nb ne x with h | h
    · omega
    · rw [z] at h; exact hk h
  have e2 : P.filter (fun e => decide (bf V nb ne (ibn V e) = 0 ∧ ef V nb e = k)) = [] := by
    rw [List.filter_eq_nil_iff]
    intro x _ z
    have z := (of_decide_eq_true z).2
    rcases ef_kno V nb x with h | h
    · omega
    · rw [z] at h; exact hk h
  rw [e1, e2]
  rfl
theorem cK.fin (K : cK L cx σ G) (hst : G.1 2 ≠ 0) : cK (lF L V G) cx σ (gF V G b y) := by
  have l12 : ∀ e, e < G.1 4 → e < cnt G 12 := fun e he => by show e < if G.1 2 = 0 then 0 else G.1 4; rw [if_neg hst]; exact he
  have cs : ∀ t i, i < cnt (gF V G b y) t → (i < cnt G t ∧ t ≠ 12 ∧ lF L V G t i = L t i) ∨ (t = 11 ∧ ∃ e, e < G.1 4 ∧ good V (G.1 0) (G.1 4) e = true ∧ i = G.1 6 + cntL (good V (G.1 0) (G.1 4)) e ∧ lF L V G t i = L 12 e) := fun t i hi => by
    match t, hi with
    | 0, hi => exact Or.inl ⟨hi, by decide, lF_o (Or.inl (by decide))⟩
    | 1, hi => exact Or.inl ⟨hi, by decide, lF_o (Or.inl (by decide))⟩
    | 2, hi => exact Or.inl ⟨hi, by decide, lF_o (Or.inl (by decide))⟩
    | 3, hi => exact Or.inl ⟨hi, by decide, lF_o (Or.inl (by decide))⟩
    | 4, hi => exact Or.inl ⟨hi, by decide, lF_o (Or.inl (by decide))⟩
    | 5, hi => exact Or.inl ⟨hi, by decide, lF_o (Or.inl (by decide))⟩
    | 6, hi => exact Or.inl ⟨hi, by decide, lF_o (Or.inl (by decide))⟩
    | 7, hi => exact Or.inl ⟨hi, by decide, lF_o (Or.inl (by decide))⟩
    | 8, hi => exact Or.inl ⟨hi, by decide, lF_o (Or.inl (by decide))⟩
    | 9, hi => exact Or.inl ⟨hi, by decide, lF_o (Or.inl (by decide))⟩
    | 10, hi => exact Or.inl ⟨hi, by decide, lF_o (Or.inl (by decide))⟩
    | 11, hi =>
      rcases row_cs (V := V) (G := G) hi with h | ⟨e, h1, h2, h3⟩
      · exact Or.inl ⟨h, by decide, lF_o (Or.inr h)⟩
      · exact Or.inr ⟨rfl, e, h1, h2, h3, by rw [h3]; exact lF_e h1 h2⟩
    | 12, hi => exact absurd hi (Nat.not_lt_zero i)
    | _ + 13, hi => exact absurd hi (Nat.not_lt_zero i)
  refine ⟨K.1, fun t i hi => ?_, fun t i t' i' hi hi' he => ?_⟩
  · rcases cs t i hi with ⟨h1, h2, h3⟩ | ⟨h1, e, h2, h3, h4, h5⟩
    · rw [h3]; exact K.knd t i h1
    · rw [h5, K.knd 12 e (l12 e h2), h1]; rfl
  · rcases cs t i hi with ⟨h1, h2, h3⟩ | ⟨h1, e, h2, h3, h4, h5⟩ <;> rcases cs t' i' hi' with ⟨g1, g2, g3⟩ | ⟨g1, e', g2, g3, g4, g5⟩
    · rw [h3, g3] at he
      exact K.2.2 t i t' i' h1 g1 he
    · rw [h3, g5] at he
      exact absurd (K.2.2 t i 12 e' h1 (l12 e' g2) he).1 h2
    · rw [h5, g3] at he
      exact absurd (K.2.2 12 e t' i' (l12 e h2) g1 he).1.symm g2
    · rw [h5, g5] at he
      have := (K.2.2 12 e 12 e' (l12 e h2) (l12 e' g2) he).2
      subst this
      exact ⟨by rw [h1, g1], by rw [h4, g4]⟩
theorem gF_u (k i : Nat) : (gF V G b y).2.1 k i = if k = 1 ∧ G.1 6 ≤ i then (bk V (G.1 0) (V.2.1 1464 (ibn V (gE V G i)))).getD 0 else if k = 2 ∧ G.1 6 ≤ i then (bk V (G.1 0) (V.2.1 1473 (gE V G i))).getD 0 else if k = 3 ∧ i = G.1 5 then b else if k = 4 ∧ i = G.1 5 then y else G.2.1 k i := rfl
theorem gF_1o {i : Nat} (h : i < G.1 6) : (gF V G b y).2.1 1 i = G.2.1 1 i := by
  rw [gF_u, if_neg (fun z => by omega)]
  rfl
theorem gF_2o {i : Nat} (h : i < G.1 6) : (gF V G b y).2.1 2 i = G.2.1 2 i := by
  rw [gF_u, if_neg (fun z => absurd z.1 (by decide)), if_neg (fun z => by omega)]
  rfl
theorem gF_1e {e o : Nat} (he : e < G.1 4) (hg : good V (G.1 0) (G.1 4) e = true) (ho : bk V (G.1 0) (V.2.1 1464 (ibn V e)) = some o) : (gF V G b y).2.1 1 (G.1 6 + cntL (good V (G.1 0) (G.1 4)) e) = o := by
  rw [gF_u, if_pos ⟨rfl, Nat.le_add_right _ _⟩, gE_at he hg, ho]
  rfl
theorem gF_2e {e t : Nat} (he : e < G.1 4) (hg : good V (G.1 0) (G.1 4) e = true) (ht : bk V (G.1 0) (V.2.1 1473 e) = some t) : (gF V G b y).2.1 2 (G.1 6 + cntL (good V (G.1 0) (G.1 4)) e) = t := by
  rw [gF_u, if_neg (fun z => absurd z.1 (by decide)), if_pos ⟨rfl, Nat.le_add_right _ _⟩, gE_at he hg, ht]
  rfl
theorem gF_3 {f : Nat} : (gF V G b y).2.1 3 f = if f = G.1 5 then b else G.2.1 3 f := by
  rw [gF_u, if_neg (fun z => absurd z.1 (by decide)), if_neg (fun z => absurd z.1 (by decide))]
  by_cases c : f = G.1 5
  · rw [if_pos ⟨rfl, c⟩, if_pos c]
  · rw [if_neg (fun z => c z.2), if_neg c]; rfl
theorem gF_4 {f : Nat} : (gF V G b y).2.1 4 f = if f = G.1 5 then y else G.2.1 4 f := by
  rw [gF_u, if_neg (fun z => absurd z.1 (by decide)), if_neg (fun z => absurd z.1 (by decide)), if_neg (fun z => absurd z.1 (by decide))]
  by_cases c : f = G.1 5
  · rw [if_pos ⟨rfl, c⟩, if_pos c]
  · rw [if_neg (fun z => c z.2), if_neg c]
theorem WF.fin (W : WF V G n) (hn : n < 64) (hst : G.1 2 ≠ 0) (hb : bk V (G.1 0) (V.1 460) = some b) (hy : V.1 461 = nI y) (hy4 : y < 10000) (hU : FE (mS V 459 0) U (G.1 0) (G.1 3) (G.1 4) (G.1 5) (G.1 6)) : WF U (gF V G b y) (n + 1) := by
  obtain ⟨u1, u2, u3, u4, u5, u6, u7, u8, u9, u10⟩ := hU.v
  obtain ⟨⟨a1, a2, a3, a4, a5, a6, a7, a8, a9, a10, a11, a12, a13, a14, a15, a16, a17, a18⟩, b2, b3, b4, b5, b6, b7, b8⟩ := W
  have wE := b4 hst
  have hnr := a17 hst
  have hcl := cntL_le (good V (G.1 0) (G.1 4)) (G.1 4)
  have hb1 : b < G.1 0 := by have := (fnd_some hb).2.1; omega
  have e51 : U.2.1 1451 = V.2.1 1451 := u5 _ (by decide) (by decide) (by decide)
  have e88 : U.2.1 1488 = V.2.1 1488 := u5 _ (by decide) (by decide) (by decide)
  refine ⟨⟨?_, a2, ?_, a4, ?_, Nat.zero_le _, ?_, a8, ?_, a10, u2, Nat.succ_le_succ a12, u1, ?_, ?_, ?_, fun z => absurd rfl z, fun z => absurd z (by show ¬ 0 = 2; decide)⟩, ⟨?_, ?_, ?_⟩, ⟨?_, ?_⟩, fun z => absurd rfl z, fun f hf => ?_, ⟨fun r hr => ?_, fun r hr => ?_⟩, fun b' => ⟨fun r => ?_, ?_, ?_⟩, fun b' => ?_⟩
  · rw [u3 450 (by decide) (by decide) (by decide)]; exact a1
  · rw [u3 454 (by decide) (by decide) (by decide)]; exact a3
  · rw [u10]; exact nI_0.symm
  · rw [u3 462 (by decide) (by decide) (by decide)]; exact a7
  · rw [u3 463 (by decide) (by decide) (by decide)]; exact a9
  · show G.1 6 + _ ≤ n + 1; omega
  · rw [u3 490 (by decide) (by decide) (by decide)]; exact a15
  · show G.1 7 ≤ _; omega
  · rw [e51]; exact b2.1
  · rw [e51]; exact b2.2.1
  · rw [u4]; exact b2.2.2
  · rw [u5 1455 (by decide) (by decide) (by decide)]; exact b3.1
  · rw [u5 1458 (by decide) (by decide) (by decide)]; exact b3.2
  · rw [gF_3, gF_4, u6]
    by_cases c : f = G.1 5
    · rw [if_pos c, if_pos c, if_pos c, hb, hy]
      refine ⟨?_, hb1, hy4⟩
      rw [← nI_add]
      exact congrArg (fun t => t + nI y) (show nI 10000 * nI b = nI (10000 * b) from (Int32.ofNat_mul 10000 b).symm)
    · rw [if_neg c, if_neg c, if_neg c]
      have hf : f < G.1 5 + 1 := hf
      exact b5 f (by omega)
  · rcases row_cs (V := V) (G := G) hr with h | ⟨e, h1, h2, h3⟩
    · rw [gF_1o h, gF_2o h, u7 1481 r h (by decide) (by decide), u7 1482 r h (by decide) (by decide), u7 1484 r h (by decide) (by decide), u7 1480 r h (by decide) (by decide)]
      exact b6.1 r h
    · obtain ⟨o, t, ho, ht, eo, et, _⟩ := good_bk h2
      obtain ⟨r0, r1, r2, r3, r4, r5, r6, r7⟩ := u8 e h1 h2
      rw [h3, gF_1e h1 h2 eo, gF_2e h1 h2 et, r1, r2, r4, r0, eo, et]
      refine ⟨rfl, ho, rfl, ht, (wE.2.2.1 e h1).2.1, ?_⟩
      have hef := (of_decide_eq_true h2).2
      unfold ef at hef
      by_cases c1 : ¬ rgt (V.2.1 1473 e) 4
      · rw [if_pos c1] at hef; omega
      · rw [if_neg c1, if_neg (by rw [et]; simp)] at hef
        by_cases c2 : ¬ V.2.1 1472 e = 2 ∧ ¬ V.2.1 1472 e = 7
        · rw [if_pos c2] at hef; omega
        · by_cases c3 : V.2.1 1472 e = 2
          · exact Or.inl c3
          · by_cases c4 : V.2.1 1472 e = 7
            · exact Or.inr c4
            · exact absurd ⟨c3, c4⟩ c2
  · rw [e88]
    have hr : G.1 6 + cntL (good V (G.1 0) (G.1 4)) (G.1 4) ≤ r ∨ U.2.1 1487 r = 0 := hr
    by_cases c : G.1 6 ≤ r
    · exact b6.2 r (Or.inl c)
    · rcases hr with hr | hr
      · omega
      · rw [u7 1487 r (by omega) (by decide) (by decide)] at hr
        exact b6.2 r (Or.inr hr)
  · obtain ⟨t1, t2, t3⟩ := b7 b'
    show r ∈ G.2.2 0 b' ↔ r < G.1 6 + cntL (good V (G.1 0) (G.1 4)) (G.1 4) ∧ U.2.1 1487 r = 2 ∧ (gF V G b y).2.1 1 r = b'
    rw [t1 r]
    constructor
    · intro ⟨h1, h2, h3⟩
      refine ⟨by omega, ?_, ?_⟩
      · rw [u7 1487 r h1 (by decide) (by decide)]; exact h2
      · rw [gF_1o h1]; exact h3
    · intro ⟨h1, h2, h3⟩
      rcases row_cs (V := V) (G := G) h1 with h | ⟨e, g1, g2, g3⟩
      · rw [u7 1487 r h (by decide) (by decide)] at h2
        rw [gF_1o h] at h3
        exact ⟨h, h2, h3⟩
      · have := (u8 e g1 g2).2.2.2.2.2.2.2
        rw [← g3, h2] at this
        exact absurd this (by decide)
  · obtain ⟨t1, t2, t3⟩ := b7 b'
    rw [u5 1489 (by decide) (by decide) (by decide)]
    exact t2
  · obtain ⟨t1, t2, t3⟩ := b7 b'
    rw [u5 1489 (by decide) (by decide) (by decide)]
    exact t3
  · obtain ⟨o1, o2, o3, o4, o5, o6⟩ := b8 b'
    rw [u5 1491 (by decide) (by decide) (by decide), u5 1492 (by decide) (by decide) (by decide), u5 1493 (by decide) (by decide) (by decide), u5 1494 (by decide) (by decide) (by decide), e88]
    refine ⟨o1, o2, fun r hr => ?_, o4, o5, fun k r hk => ?_⟩
    · have := o3 r hr
      show r < G.1 6 + _
      omega
    · have hr := o3 r (List.mem_of_getElem? hk)
      rw [u7 1487 r hr (by decide) (by decide), gF_2o hr]
      exact o6 k r hk
end PL
