/-! WINDOW: the invariant after it -/
section WGG
variable {L : LY} {cx mx : Nat} {A : Nat → Nat} {σ σ' s : St} {V V' U : MV} {G : GH} {n b : Nat} {S : List Nat}
/-- a file under way, seen from another state and view that are the same for it -/
theorem FD.tr3 {st nt ne : Nat} (D : FD L σ V st nt ne) (hI : ∀ t i, t ≤ 3 → ∀ g, (g < 300 ∧ g ≠ 208) → sI σ' g (L t i) 0 = sI σ g (L t i) 0) (hIe : ∀ e, e < ne → ∀ g, (g < 300 ∧ g ≠ 208) → sI σ' g (L 12 e) 0 = sI σ g (L 12 e) 0) (hR : sR σ' = sR σ) (hJ : ∀ f, 350 ≤ f → sJ σ' f (L 0 6) 0 = sJ σ f (L 0 6) 0) (hJ3 : ∀ k, k < nt → ∀ f, 350 ≤ f → sJ σ' f (L 3 k) 0 = sJ σ f (L 3 k) 0) (hL : ∀ k, k < nt → sL σ' (L 2 k) = sL σ (L 2 k)) (h1 : ∀ t, t ≤ 1476 → V'.2.1 t = V.2.1 t) (h2 : V'.1 460 = V.1 460) (h2' : V'.1 461 = V.1 461) : FD L σ' V' st nt ne := by
  obtain ⟨d1, d2, d3, d4, d5, d6, d7, d8⟩ := D
  have eep := ep_c (h1 1472 (by decide)) (h1 1473 (by decide)) (h1 1475 (by decide))
  have einB := inB_c (h1 1471 (by decide))
  have egw := gw_c (h1 1471 (by decide)) (h1 1476 (by decide))
  refine ⟨?_, ?_, ?_, fun z => ?_, ?_, fun k hk => ?_, fun z => ?_, fun e he => ?_⟩
  · rw [hI 0 2 (by decide) _ (by decide)]; exact d1
  · rw [hI 0 2 (by decide) _ (by decide), h2]; exact d2
  · rw [hI 0 2 (by decide) _ (by decide), h2']; exact d3
  · rw [hR]; exact d4 z
  · unfold TT at d5 ⊢
    dsimp only at d5 ⊢
    rw [hJ _ (by decide), hJ _ (by decide), hJ _ (by decide), hJ _ (by decide), eep, eep, eep, eep, einB]
    exact d5
  · have := d6 k hk
    unfold TT sayb at this ⊢
    dsimp only at this ⊢
    rw [hI 1 k (by decide) _ (by decide), hI 1 k (by decide) _ (by decide), hI 1 k (by decide) _ (by decide), hI 1 k (by decide) _ (by decide), hI 1 k (by decide) _ (by decide), hJ3 k hk _ (by decide), hJ3 k hk _ (by decide), hJ3 k hk _ (by decide), hJ3 k hk _ (by decide), hL k hk, eep, eep, eep, eep, einB, egw, h1 1464 (by decide), h1 1465 (by decide), h1 1466 (by decide), h1 1467 (by decide), h1 1468 (by decide), h1 1469 (by decide), h1 1470 (by decide)]
    exact this
  · rw [hI 1 _ (by decide) _ (by decide), h1 1471 (by decide), h1 1476 (by decide)]
    exact d7 z
  · rw [hIe e he _ (by decide), hIe e he _ (by decide), hIe e he _ (by decide), hIe e he _ (by decide), hIe e he _ (by decide), h1 1472 (by decide), h1 1473 (by decide), h1 1474 (by decide), h1 1475 (by decide), h1 1476 (by decide)]
    exact d8 e he
theorem FD.tr2 {st nt ne : Nat} (D : FD L σ V st nt ne) (hI : ∀ t i, t ≤ 3 → ∀ g, (g < 300 ∧ g ≠ 208) → sI σ' g (L t i) 0 = sI σ g (L t i) 0) (hIe : ∀ e, e < ne → ∀ g, (g < 300 ∧ g ≠ 208) → sI σ' g (L 12 e) 0 = sI σ g (L 12 e) 0) (hR : sR σ' = sR σ) (hJ : ∀ f, 350 ≤ f → sJ σ' f (L 0 6) 0 = sJ σ f (L 0 6) 0) (hJ3 : ∀ k, k < nt → ∀ f, 350 ≤ f → sJ σ' f (L 3 k) 0 = sJ σ f (L 3 k) 0) (hL : ∀ k, k < nt → sL σ' (L 2 k) = sL σ (L 2 k)) (h1 : ∀ t, t ≤ 1476 → V'.2.1 t = V.2.1 t) (h2 : V'.1 = V.1) : FD L σ' V' st nt ne := D.tr3 hI hIe hR hJ hJ3 hL h1 (by rw [h2]) (by rw [h2])
theorem CI.win (C : CI L cx σ V G) (W : WF V G n) (hb : b < G.1 0) (hP : S.Perm ((wQ V G b).filter (due V))) (h : WI L V G b σ s (G.2.2 0 b ++ S) (G.2.2 0 b).length (fun x => V.2.2 1452 x + tot (ct V G true x) (G.2.2 0 b) + tot (ct V G false x) ((wQ V G b).filter (due V))) ((wQ V G b).filter (fun r => !due V r)) []) (hU : WU V G b S U) : CI L cx s U (wG G b S) := by
  obtain ⟨u1, u2, u3, u4, u5, u6, u7, u8, u9, u10, u11⟩ := hU
  obtain ⟨x1, x2, x3, x4, x5, x6, x7, x8, x9, x10, x11, x12, x13⟩ := h
  have h5 := W.1.2.1
  have K := C.k
  have h4 := W.1.2.2.2.2.2.2.2.1
  obtain ⟨t1, t2, t3⟩ := W.2.2.2.2.2.2.1 b
  have hS : ∀ r, r ∈ S → r < G.1 6 ∧ cnd V false b r := fun r hr => (cS_mem V G b r).mp (hP.mem_iff.mp hr)
  have e51 := u2 1451 (by decide) (by decide)
  have eo : ∀ w, outp U w = outp V w := fun w => by
    funext r
    exact outp_congr (by rw [e51]) (by rw [u2 1482 (by decide) (by decide)]) (by rw [u2 1480 (by decide) (by decide)]) (by rw [u2 1484 (by decide) (by decide)])
  have iL : ∀ t i, i < cnt G t → ¬ ((t = 8 ∨ t = 5 ∨ t = 6) ∧ i = b) → sL s (L t i) = sL σ (L t i) := fun t i hi hn => x13 _ (K.ne hi hb (t' := 8) (fun z => hn (by omega))) (K.ne hi hb (t' := 5) (fun z => hn (by omega))) (K.ne hi hb (t' := 6) (fun z => hn (by omega)))
  have iJ : ∀ t i, i < cnt G t → ¬ (t = 9 ∧ i = b) → ∀ f, f ≠ 105 → sJ s f (L t i) 0 = sJ σ f (L t i) 0 := fun t i hi hn f hf => x7 f _ 0 hf (K.ne hi hb (t' := 9) hn)
  have iI7 : ∀ i, i < G.1 0 → i ≠ b → ∀ g, sI s g (L 7 i) 0 = sI σ g (L 7 i) 0 := fun i hi hn g => (x1 (L 7 i) (fun z => by
    rcases z with z | z | z | z | z | ⟨y, hy, z⟩
    · exact hn (K.2.2 7 i 7 b hi hb z).2
    · exact absurd (K.2.2 7 i 8 b hi hb z).1 (by decide)
    · exact absurd (K.2.2 7 i 9 b hi hb z).1 (by decide)
    · exact absurd (K.2.2 7 i 5 b hi hb z).1 (by decide)
    · exact absurd (K.2.2 7 i 6 b hi hb z).1 (by decide)
    · exact absurd (K.2.2 7 i 4 y hi hy z).1 (by decide))).2.1 g 0
  have hJ := C.e
  obtain ⟨a1, a2, a3, a4, a5, a6, a7, a8, a9, a10, a11, a12, a13, a14, a15, a16, a17⟩ := C
  refine ⟨cK.kk (σ := σ) a1 x2, ?_, ⟨?_, fun i hi => ?_⟩, fun i hi => ?_, ⟨?_, fun i hi => ?_⟩, fun i hi => ?_, fun i hi => ?_, ?_, ⟨?_, fun f hf => ?_⟩, fun k hk => ?_, ?_, fun z => ?_, fun r hr => ?_, fun r hr => ?_, fun i hi => ⟨?_, ?_⟩, fun i hi => ?_, fun i hi => ?_⟩
  · unfold cF at a2 ⊢; rw [x3]; exact a2
  · rw [iL 0 0 (show 0 < 7 by omega) (by omega)]; exact a3.1
  · rw [x4 _ _ _ (by decide) (by decide), x4 _ _ _ (by decide) (by decide), x3, e51]; exact a3.2 i hi
  · rw [x8 i hi, u11, tot_perm _ hP]
  · rw [iL 0 1 (show 1 < 7 by omega) (by omega)]; exact a5.1
  · rw [x4 _ _ _ (by decide) (by decide), x3, u2 1456 (by decide) (by decide)]; exact a5.2 i hi
  · rw [iJ 10 i hi (by omega) 52 (by decide), u10 1457 (by decide)]; exact a6 i hi
  · rw [x4 _ _ _ (by decide) (by decide), u2 1458 (by decide) (by decide)]; exact a7 i hi
  · unfold cS; rw [x4 _ _ _ (by decide) (by decide), u1]; exact a8
  · rw [x4 _ _ _ (by decide) (by decide)]; exact a9.1
  · rw [x4 _ _ _ (by decide) (by decide), e51, wG_o (by decide) (by decide), wG_o (by decide) (by decide)]; exact a9.2 f hf
  · rw [x4 _ _ _ (by decide) (by decide), u2 1495 (by decide) (by decide)]; exact a10 k hk
  · unfold cG at a11 ⊢; rw [x4 _ _ _ (by decide) (by decide), x4 _ _ _ (by decide) (by decide)]; exact a11
  · refine FD.tr2 (hJ z) (fun t i _ g hg => x4 _ _ _ (by omega) (by omega)) (fun e _ g hg => x4 _ _ _ (by omega) (by omega)) x3 (fun f hf => iJ 0 6 (show 6 < 7 by omega) (by omega) f (by omega)) (fun k hk f hf => iJ 3 k (show k < 4 by have : k < G.1 3 := hk; omega) (by omega) f (by omega)) (fun k hk => iL 2 k (show k < 4 by have : k < G.1 3 := hk; omega) (by omega)) (fun t ht => u2 t (by omega) (by omega)) u1
  · rw [x4 _ _ _ (by decide) (by decide), x4 _ _ _ (by decide) (by decide), x4 _ _ _ (by decide) (by decide), x4 _ _ _ (by decide) (by decide), x4 _ _ _ (by decide) (by decide), x4 _ _ _ (by decide) (by decide), x3, e51, u2 1480 (by decide) (by decide), u2 1483 (by decide) (by decide), u2 1484 (by decide) (by decide), u2 1485 (by decide) (by decide), u2 1486 (by decide) (by decide), wG_o (by decide) (by decide), wG_o (by decide) (by decide)]
    exact a13 r hr
  · rw [x4 _ _ _ (by decide) (by decide), u2 1488 (by decide) (by decide)]; exact a14 r hr
  · have hi : i < G.1 0 := hi
    by_cases c : i = b
    · subst c
      rw [x11]
      congr 1
      unfold wQ
      rw [List.filter_filter]
      refine List.filter_congr (fun r hr => ?_)
      have hrn := List.mem_range.mp hr
      by_cases hrs : r ∈ S
      · rcases (hS r hrs).2 with ⟨z, _⟩ | ⟨_, z1, z2, z3⟩
        · cases z
        · have e1 : due V r = true := by unfold due; rw [decide_eq_false (Int32.not_lt.mpr z3)]; rfl
          have e2 : wtB U i r = false := by
            unfold wtB
            rw [u8 r hrs]
            exact decide_eq_false (fun z => absurd z.1 (by decide))
          rw [e1, e2]
          rfl
      · by_cases hrr : r ∈ G.2.2 0 i
        · have e1 : wtB V i r = false := by
            unfold wtB
            rw [((t1 r).mp hrr).2.1]
            exact decide_eq_false (fun z => absurd z.1 (by decide))
          have e2 : wtB U i r = false := by
            unfold wtB
            rw [u7 r hrr hrs]
            exact decide_eq_false (fun z => absurd z.1 (by decide))
          rw [e1, e2, Bool.and_false]
        · have e2 : wtB U i r = wtB V i r := by
            unfold wtB
            rw [u9 r hrr hrs, u2 1482 (by decide) (by decide)]
          rw [e2]
          by_cases hw : wtB V i r = true
          · have hd : due V r = false := by
              by_cases hd : due V r = true
              · exact absurd (hP.mem_iff.mpr (List.mem_filter.mpr ⟨List.mem_filter.mpr ⟨hr, hw⟩, hd⟩)) hrs
              · simpa using hd
            rw [hd, hw]
            rfl
          · have hw : wtB V i r = false := by simpa using hw
            rw [hw, Bool.and_false]
    · rw [iL 5 i hi (by omega), (a15 i hi).1]
      congr 1
      refine List.filter_congr (fun r hr => ?_)
      have hrn := List.mem_range.mp hr
      by_cases hrs : r ∈ S
      · rcases (hS r hrs).2 with ⟨z, _⟩ | ⟨_, z1, z2, z3⟩
        · cases z
        · unfold wtB
          rw [u2 1482 (by decide) (by decide), z2, decide_eq_false (fun z => c ((nI_eq (by omega) (by omega)).mp z.2).symm), decide_eq_false (fun z => c ((nI_eq (by omega) (by omega)).mp z.2).symm)]
      · by_cases hrr : r ∈ G.2.2 0 b
        · unfold wtB
          rw [u7 r hrr hrs, ((t1 r).mp hrr).2.1, decide_eq_false (fun z => absurd z.1 (by decide)), decide_eq_false (fun z => absurd z.1 (by decide))]
        · unfold wtB
          rw [u9 r hrr hrs, u2 1482 (by decide) (by decide)]
  · have hi : i < G.1 0 := hi
    rw [wG_r]
    by_cases c : i = b
    · rw [if_pos c, c, x12]
    · rw [if_neg c, iL 6 i hi (by omega)]
      exact (a15 i hi).2
  · have hi : i < G.1 0 := hi
    rw [wG_l, wG_5]
    by_cases c : i = b
    · subst c
      rw [if_pos rfl, if_pos rfl]
      refine ⟨x10, x5, ?_⟩
      unfold TT at x9 ⊢
      dsimp only at x9 ⊢
      rw [eo, eo, eo, eo]
      exact x9
    · rw [if_neg c, if_neg c, iL 8 i hi (by omega), iI7 i hi c]
      obtain ⟨o1, o2, o3⟩ := a16 i hi
      refine ⟨o1, o2, ?_⟩
      unfold TT at o3 ⊢
      dsimp only at o3 ⊢
      rw [eo, eo, eo, eo, iJ 9 i hi (by omega) 350 (by decide), iJ 9 i hi (by omega) 351 (by decide), iJ 9 i hi (by omega) 352 (by decide), iJ 9 i hi (by omega) 353 (by decide)]
      exact o3
  · have hi : i < G.1 0 := hi
    rw [wG_6]
    by_cases c : i = b
    · rw [if_pos c, c, x6]; exact nI_0.symm
    · rw [if_neg c, iI7 i hi c]
      exact a17 i hi
theorem WF.win (W : WF V G n) (hn : n < 64) (hb : b < G.1 0) (hP : S.Perm ((wQ V G b).filter (due V))) (hU : WU V G b S U) : WF U (wG G b S) (n + 1) := by
  have hnr : G.1 6 ≤ n := W.1.2.2.2.2.2.2.2.2.2.2.2.2.2.1
  obtain ⟨wl1, wl2, wl3⟩ := win_len W hP
  obtain ⟨u1, u2, u3, u4, u5, u6, u7, u8, u9, u10, u11⟩ := hU
  have hS : ∀ r, r ∈ S → r < G.1 6 ∧ cnd V false b r := fun r hr => (cS_mem V G b r).mp (hP.mem_iff.mp hr)
  have hS0 : ∀ r, r ∈ S → V.2.1 1487 r = 0 ∧ V.2.1 1482 r = nI b := fun r hr => by
    rcases (hS r hr).2 with ⟨z, _⟩ | ⟨_, z1, z2, z3⟩
    · cases z
    · exact ⟨z1, z2⟩
  have hol : ∀ b', (G.2.2 1 b').length ≤ G.1 6 := fun b' => by
    obtain ⟨v1, v2, v3, v4, v5, v6⟩ := W.2.2.2.2.2.2.2 b'
    exact nodup_len _ _ v2 v3
  have h5 := W.1.2.1
  have hRd : ∀ r, r ∈ G.2.2 0 b → r ∉ S := fun r hr hs => by
    rw [List.nodup_append] at wl1
    exact wl1.2.2 r hr r hs rfl
  have wTb := W.2.2.2.2.2.2.1
  have wR0 := W.2.2.2.2.2.1
  obtain ⟨⟨a1, a2, a3, a4, a5, a6, a7, a8, a9, a10, a11, a12, a13, a14, a15, a16, a17, a18⟩, b2, b3, b4, b5, b6, b7, b8⟩ := W.le
  refine ⟨?_, ⟨?_, ?_, fun b' hb' => ?_⟩, ?_, ?_, ?_, ⟨?_, fun r hr => ?_⟩, fun b' => ?_, fun b' => ?_⟩
  · unfold wN; rw [u1]; exact ⟨a1, a2, a3, a4, a5, a6, a7, a8, a9, a10, a11, a12, a13, a14, a15, a16, a17, a18⟩
  · rw [u2 1451 (by decide) (by decide)]; exact b2.1
  · rw [u2 1451 (by decide) (by decide)]; exact b2.2.1
  · have hb' : G.1 0 ≤ b' := hb'
    obtain ⟨c1, c2, c3, c4⟩ := b2.2.2 b' hb'
    rw [u11, wG_l, wG_5, wG_6, if_neg (by omega), if_neg (by omega), if_neg (by omega), c1]
    refine ⟨?_, c2, c3, c4⟩
    have z : ∀ (ret : Bool) (l : List Nat), (∀ r, r ∈ l → r < G.1 6) → tot (ct V G ret b') l = 0 := fun ret l hl => by
      induction l with
      | nil => rfl
      | cons x l ih =>
        obtain ⟨w1, w2, w3, w4, _⟩ := wR0.1 x (hl x List.mem_cons_self)
        rw [tot_cons, ih (fun r hr => hl r (List.mem_cons_of_mem _ hr))]
        unfold ct
        rw [if_neg (by omega), if_neg (by omega)]
        decide
    rw [z true _ (fun r hr => wl2 r (List.mem_append_left _ hr)), z false _ (fun r hr => wl2 r (List.mem_append_right _ hr))]
    decide
  · unfold wA at b3 ⊢; rw [u2 1455 (by decide) (by decide), u2 1458 (by decide) (by decide)]; exact b3
  · intro z
    have := b4 z
    rw [u1, u2 1471 (by decide) (by decide), u2 1475 (by decide) (by decide), u2 1476 (by decide) (by decide), u2 1465 (by decide) (by decide)]
    exact this
  · unfold wF at b5 ⊢; rw [u2 1477 (by decide) (by decide)]; exact b5
  · intro r hr
    rw [u2 1481 (by decide) (by decide), u2 1482 (by decide) (by decide), u2 1484 (by decide) (by decide), u2 1480 (by decide) (by decide)]
    exact b6.1 r hr
  · rw [u2 1488 (by decide) (by decide)]
    have hr : G.1 6 ≤ r ∨ U.2.1 1487 r = 0 := hr
    by_cases c1 : r ∈ S
    · exact b6.2 r (Or.inr (hS0 r c1).1)
    · by_cases c2 : r ∈ G.2.2 0 b
      · rcases hr with hr | hr
        · exact b6.2 r (Or.inl hr)
        · rw [u7 r c2 c1] at hr
          exact absurd hr (by decide)
      · rw [u9 r c2 c1] at hr
        exact b6.2 r hr
  · obtain ⟨t1, t2, t3⟩ := wTb b'
    rw [wG_r]
    by_cases c : b' = b
    · rw [if_pos c]
      refine ⟨fun r => ⟨fun z => (by cases z), fun ⟨h1, h2, h3⟩ => ?_⟩, List.Pairwise.nil, fun r hr => (by cases hr)⟩
      exfalso
      rw [wG_o (by decide) (by decide)] at h3
      by_cases c1 : r ∈ S
      · rw [u8 r c1] at h2; exact absurd h2 (by decide)
      · by_cases c2 : r ∈ G.2.2 0 b
        · rw [u7 r c2 c1] at h2; exact absurd h2 (by decide)
        · rw [u9 r c2 c1] at h2
          rw [c] at t1 h3
          exact c2 ((t1 r).mpr ⟨h1, h2, h3⟩)
    · rw [if_neg c, u2 1489 (by decide) (by decide)]
      refine ⟨fun r => ?_, t2, t3⟩
      rw [t1 r, wG_o (by decide) (by decide)]
      show r < G.1 6 ∧ _ ↔ r < G.1 6 ∧ _
      constructor
      · intro ⟨h1, h2, h3⟩
        refine ⟨h1, ?_, h3⟩
        rw [u9 r (fun z => ?_) (fun z => ?_)]
        · exact h2
        · have := ((wTb b).1 r).mp z
          omega
        · have := (hS0 r z).1
          rw [h2] at this
          exact absurd this (by decide)
      · intro ⟨h1, h2, h3⟩
        refine ⟨h1, ?_, h3⟩
        by_cases c1 : r ∈ S
        · rw [u8 r c1] at h2; exact absurd h2 (by decide)
        · by_cases c2 : r ∈ G.2.2 0 b
          · rw [u7 r c2 c1] at h2; exact absurd h2 (by decide)
          · rw [u9 r c2 c1] at h2
            exact h2
  · rw [wG_l, wG_5, wG_6]
    by_cases c : b' = b
    · rw [if_pos c, if_pos c, if_pos c, c]
      refine ⟨u3, wl1, wl2, by rw [List.length_append]; omega, Nat.zero_le _, fun k r hk => ?_⟩
      obtain ⟨v1, v2, v3⟩ := u5 k r hk
      rw [v1, v2, v3, if_neg (Nat.not_lt_zero k), wG_o (by decide) (by decide)]
      refine ⟨rfl, rfl, rfl, fun z => ?_, fun z => ?_⟩
      · rw [List.getElem?_append_left z] at hk
        have hr := List.mem_of_getElem? hk
        exact u7 r hr (hRd r hr)
      · rw [List.getElem?_append_right z] at hk
        have hr := List.mem_of_getElem? hk
        obtain ⟨z0, z2⟩ := hS0 r hr
        obtain ⟨w1, w2, w3, w4, _⟩ := wR0.1 r (hS r hr).1
        rw [w3, nI_eq (by omega) (by omega)] at z2
        rw [u8 r hr, u2 1488 (by decide) (by decide)]
        exact ⟨z2, by decide, fun _ => ⟨rfl, wR0.2 r (Or.inr z0)⟩⟩
    · rw [if_neg c, if_neg c, if_neg c, u4 b' c]
      obtain ⟨o1, o2, o3, o4, o5, o6⟩ := b8 b'
      refine ⟨o1, o2, o3, o4, o5, fun k r hk => ?_⟩
      have hkl : k < 512 := by
        have h1 := (List.getElem?_eq_some_iff.mp hk).1
        have h2 := hol b'
        omega
      obtain ⟨p1, p2, p3⟩ := u6 (512 * b' + k) (by omega)
      obtain ⟨v1, v2, v3, v4, v5⟩ := o6 k r hk
      rw [p1, p2, p3, u2 1488 (by decide) (by decide), wG_o (by decide) (by decide)]
      have hrn := o3 r (List.mem_of_getElem? hk)
      refine ⟨v1, v2, v3, fun z => ?_, fun z => ?_⟩
      · have z3 := v4 z
        rw [u9 r (fun hz => ?_) (fun hz => ?_)]
        · exact z3
        · have := ((wTb b).1 r).mp hz
          rw [this.2.1] at z3
          exact absurd z3 (by decide)
        · have := (hS0 r hz).1
          rw [this] at z3
          exact absurd z3 (by decide)
      · obtain ⟨z1, z2, z3⟩ := v5 z
        have hns : r ∉ S := fun hz => by
          have := (hS0 r hz).1
          exact z2 this
        refine ⟨z1, ?_, fun z4 => ?_⟩
        · by_cases c2 : r ∈ G.2.2 0 b
          · rw [u7 r c2 hns]; decide
          · rw [u9 r c2 hns]; exact z2
        · obtain ⟨y1, y2⟩ := z3 z4
          refine ⟨?_, y2⟩
          rw [u9 r (fun hz => ?_) hns]
          · exact y1
          · have := ((wTb b).1 r).mp hz
            rw [this.2.1] at y1
            exact absurd y1 (by decide)
theorem h_window {x1 : Int32} (hn : n < 64) (I : Inv cx mx n σ) : law_window cx mx (Inv cx mx (n + 1)) x1 σ := by
  obtain ⟨A, V, G, L, M, W, C⟩ := I
  have I' : Inv cx mx (n + 1) σ := ⟨A, V, G, L, M, W.le, C⟩
  have wn := W.1
  have h5 := wn.2.1
  have hnr : G.1 6 ≤ n := wn.2.2.2.2.2.2.2.2.2.2.2.2.2.1
  have hrows : ∀ r, r < G.1 6 → ∃ g t, g < 5 ∧ t < 5 ∧ V.2.1 1481 r = nI g ∧ V.2.1 1482 r = nI t := fun r hr => by
    obtain ⟨w1, w2, w3, w4, _⟩ := W.2.2.2.2.2.1.1 r hr
    exact ⟨_, _, by omega, by omega, w1, w3⟩
  have hst : ∀ b, (∀ k, k < (G.2.2 1 b).length → ¬ V.2.1 1494 (512 * b + k) ≤ 0) ↔ (G.2.2 1 b).length ≤ G.2.1 6 b := fun b => by
    obtain ⟨v1, v2, v3, v4, v5, v6⟩ := W.2.2.2.2.2.2.2 b
    constructor
    · intro h
      rcases Nat.lt_or_ge (G.2.1 6 b) (G.2.2 1 b).length with c | c
      · exfalso
        obtain ⟨r, hr⟩ : ∃ r, (G.2.2 1 b)[G.2.1 6 b]? = some r := ⟨_, List.getElem?_eq_getElem c⟩
        have := (v6 _ r hr).2.2.1
        rw [if_neg (Nat.lt_irrefl _)] at this
        have h2 := h _ c
        rw [this] at h2
        exact h2 (by decide)
      · exact c
    · intro h k hk z
      obtain ⟨r, hr⟩ : ∃ r, (G.2.2 1 b)[k]? = some r := ⟨_, List.getElem?_eq_getElem hk⟩
      have := (v6 _ r hr).2.2.1
      rw [if_pos (by omega)] at this
      rw [this] at z
      split at z
      · exact absurd z (by decide)
      · exact absurd z (by decide)
  unfold law_window
  refine c_window C W hn x1 (fun h => ⟨M.mx, m_window M (nr := G.1 6) (len := 0) x1 wn.1 h5 (by omega) (fun _ => ⟨rfl, I'⟩) (fun b hb e => absurd e (h b hb))⟩) (fun b hb e hop => ⟨M.mx, m_window M (nr := G.1 6) (len := 0) x1 wn.1 h5 (by omega) (fun h => absurd e (h b hb)) (fun b' hb' e' => ?_)⟩) (fun b hb e hcl s S hS hP w => ?_)
  · have : b' = b := by rw [e, nI_eq (by omega) (by omega)] at e'; exact e'.symm
    subst this
    have hqs : ((wQ V G b').filter (due V)).Pairwise (fun r s => r < s) := List.Pairwise.filter _ (List.Pairwise.filter _ List.pairwise_lt_range)
    obtain ⟨S, hS, hP⟩ := sort_ex W _ (List.Pairwise.imp (fun {x y} z e => by omega) hqs) (fun r hr => ((cS_mem V G b' r).mp hr).1)
    obtain ⟨wl1, wl2, wl3⟩ := win_len W hP
    have hol : (G.2.2 1 b').length ≤ G.1 6 := by
      obtain ⟨v1, v2, v3, v4, v5, v6⟩ := W.2.2.2.2.2.2.2 b'
      exact nodup_len _ _ v2 v3
    exact ⟨_, _, S, (W.2.2.2.2.2.2.2 b').1, by omega, SC_R W hb, SC_S hS hP, by omega, wn.2.2.2.2.2.2.2.2.2.2.2.2.1, hrows, fun _ => ⟨rfl, I'⟩, fun z => absurd ((hst b').mp z) (by omega)⟩
  · obtain ⟨wl1, wl2, wl3⟩ := win_len W hP
    have hol : (G.2.2 1 b).length ≤ G.1 6 := by
      obtain ⟨v1, v2, v3, v4, v5, v6⟩ := W.2.2.2.2.2.2.2 b
      exact nodup_len _ _ v2 v3
    have g1 : AG mTag σ s := w.1.toAG (fun a ha => by
      rcases ha with z | z | z | z | z | ⟨y, hy, z⟩ <;> rw [z]
      · rw [C.k.knd 7 b hb]; exact (kd_c 7 b).2
      · rw [C.k.knd 8 b hb]; exact (kd_c 8 b).2
      · rw [C.k.knd 9 b hb]; exact (kd_c 9 b).2
      · rw [C.k.knd 5 b hb]; exact (kd_c 5 b).2
      · rw [C.k.knd 6 b hb]; exact (kd_c 6 b).2
      · rw [C.k.knd 4 y hy]; exact (kd_c 4 y).2)
    have hWU := WU.mk' (b := b) (S := S) W (fun r hr => wl2 r (List.mem_append_left _ hr)) (fun r hr => wl2 r (List.mem_append_right _ hr)) (by omega)
    refine ⟨(M.ag g1).mx, m_window (M.ag g1) (nr := G.1 6) (len := 0) x1 wn.1 h5 (by omega) (fun h => absurd e (h b hb)) (fun b' hb' e' => ?_)⟩
    have : b' = b := by rw [e, nI_eq (by omega) (by omega)] at e'; exact e'.symm
    subst this
    refine ⟨_, _, S, (W.2.2.2.2.2.2.2 b').1, by omega, SC_R W hb, SC_S hS hP, by omega, wn.2.2.2.2.2.2.2.2.2.2.2.2.1, hrows, fun z => absurd ((hst b').mpr hcl) z, fun _ σ2 M2 g2 => ⟨rfl, A, _, _, L, M2, WF.win W hn hb hP hWU, ?_⟩⟩
    exact (CI.win C W hb hP w hWU).ag g2 (fun t h => h) wn.2.2.2.2.2.2.2.1 wn.2.2.2.2.2.2.2.2.2.2.2.2.2.2.2.2.2
end WGG
