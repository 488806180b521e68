/-! PUT: a file's end, the class's whole step -/
section PM
variable {L : LY} {cx mx : Nat} {σ σ' s1 s3 : St} {V V' U : MV} {G : GH} {n b y : Nat}
theorem FD.tr {nt ne : Nat} (D : FD L σ V 1 nt ne) (hI : ∀ g a j, (g < 158 ∨ 200 ≤ g) → (g < 205 ∨ 250 ≤ g) → g < 256 → sI σ' g a j = sI σ g a j) (hJ : sJ σ' = sJ σ) (hL : ∀ k, k < nt → sL σ' (L 2 k) = sL σ (L 2 k)) : FD L σ' V 1 nt ne := by
  obtain ⟨d1, d2, d3, d4, d5, d6, d7, d8⟩ := D
  refine ⟨?_, ?_, ?_, fun z => absurd z (by decide), ?_, fun k hk => ?_, fun z => absurd z (by decide), fun e he => ?_⟩
  · rw [hI _ _ _ (by decide) (by decide) (by decide)]; exact d1
  · rw [hI _ _ _ (by decide) (by decide) (by decide)]; exact d2
  · rw [hI _ _ _ (by decide) (by decide) (by decide)]; exact d3
  · unfold TT at d5 ⊢; rw [hJ]; exact d5
  · have := d6 k hk
    unfold TT at this ⊢
    rw [hI _ _ _ (by decide) (by decide) (by decide), hI _ _ _ (by decide) (by decide) (by decide), hI _ _ _ (by decide) (by decide) (by decide), hI _ _ _ (by decide) (by decide) (by decide), hI _ _ _ (by decide) (by decide) (by decide), hJ, hL k hk]
    exact this
  · rw [hI _ _ _ (by decide) (by decide) (by decide), hI _ _ _ (by decide) (by decide) (by decide), hI _ _ _ (by decide) (by decide) (by decide), hI _ _ _ (by decide) (by decide) (by decide), hI _ _ _ (by decide) (by decide) (by decide)]
    exact d8 e he
theorem CI.fin (E : EI L cx s1 V G) (W : WF V G n) (hn : n < 64) (hst : G.1 2 ≠ 0) (h256 : sI s1 256 (L 0 2) 0 = 0) (hJ : JF L s1 V (G.1 0) (G.1 4) (G.1 3)) (hb : bk V (G.1 0) (V.1 460) = some b) (hy : V.1 461 = nI y) (hU : FE (mS V 459 0) U (G.1 0) (G.1 3) (G.1 4) (G.1 5) (G.1 6)) (hA : AccI L V G (uI (uI s1 1403 (L 0 3) (G.1 5) (V.1 460 * 10000 + V.1 461)) 404 cx 0 (nI (G.1 5 + 1))) s3 (List.range (G.1 3)) (List.range (G.1 4))) : CI (lF L V G) cx s3 U (gF V G b y) := by
  obtain ⟨u1, u2, u3, u4, u5, u6, u7, u8, u9, u10⟩ := hU.v
  obtain ⟨K, F, ⟨a1, a2, a3, a4, a5, a6, a7, a8, a9, a10, a11, a12, a13⟩, D⟩ := E
  obtain ⟨x1, x2, x3, x4, x5, x6, x7, x8, x9⟩ := hA
  have h4 := W.1.2.2.2.2.2.2.2.1
  have h5 := W.1.2.1
  have hb1 : b < G.1 0 := by have := (fnd_some hb).2.1; omega
  have hb2 : V.2.1 1451 b = V.1 460 := of_decide_eq_true (fnd_some hb).2.2.1
  have wE := W.2.2.2.1 hst
  have hE : ∀ e, e < G.1 4 → ∃ k, k < G.1 3 ∧ V.2.1 1471 e = nI k := fun e he => (wE.2.2.1 e he).1
  have K3 : cK L cx s3 G := cK.kk (σ := s1) K (by rw [x2]; rfl)
  have e51 : U.2.1 1451 = V.2.1 1451 := u5 _ (by decide) (by decide) (by decide)
  have iI : ∀ g a j, g ≠ 1403 → g ≠ 404 → g ≠ 1405 → sI s3 g a j = sI s1 g a j := fun g a j n1 n2 n3 => by
    rw [x3 g a j n3, sI_ne n2, sI_ne n1]
  have iR : sR s3 = sR s1 := by rw [x4]; rfl
  have iJ : sJ s3 = sJ s1 := by rw [x5]; rfl
  have iL : ∀ t i, i < cnt G t → t ≠ 5 → sL s3 (L t i) = sL s1 (L t i) := fun t i hi ht => by
    rw [x6 (L t i) (fun b' hb' => K.ne hi hb' (t' := 5) (fun z => ht z.1))]
    rfl
  have iL5 : ∀ b', b' < G.1 0 → sL s3 (L 5 b') = sL s1 (L 5 b') ++ ((List.range (G.1 4)).filter (gt V (G.1 0) (G.1 4) b')).map (L 12) := fun b' hb' => by
    rw [x7 b' hb']
    rfl
  have f0 : ∀ i, lF L V G 0 i = L 0 i := fun i => lF_o (Or.inl (by decide))
  have f4 : lF L V G 4 = L 4 := funext (fun i => lF_o (Or.inl (by decide)))
  have f5 : ∀ i, lF L V G 5 i = L 5 i := fun i => lF_o (Or.inl (by decide))
  have f6 : ∀ i, lF L V G 6 i = L 6 i := fun i => lF_o (Or.inl (by decide))
  have f7 : ∀ i, lF L V G 7 i = L 7 i := fun i => lF_o (Or.inl (by decide))
  have f8 : ∀ i, lF L V G 8 i = L 8 i := fun i => lF_o (Or.inl (by decide))
  have f9 : ∀ i, lF L V G 9 i = L 9 i := fun i => lF_o (Or.inl (by decide))
  have f10 : lF L V G 10 = L 10 := funext (fun i => lF_o (Or.inl (by decide)))
  have f1 : ∀ i, lF L V G 1 i = L 1 i := fun i => lF_o (Or.inl (by decide))
  have f2 : ∀ i, lF L V G 2 i = L 2 i := fun i => lF_o (Or.inl (by decide))
  have f3 : ∀ i, lF L V G 3 i = L 3 i := fun i => lF_o (Or.inl (by decide))
  have f11 : ∀ i, i < G.1 6 → lF L V G 11 i = L 11 i := fun i hi => lF_o (Or.inr hi)
  -- a judged good entry
  have hj : ∀ e, e < G.1 4 → good V (G.1 0) (G.1 4) e = true → JE L s1 V (G.1 0) e (ibn V e) := fun e he hg => by
    obtain ⟨l1, l2⟩ := ibn_lt hE h4 he
    refine (hJ _ l1).2 (of_decide_eq_true hg).1 e ?_
    rw [inB_ibn hE h4 (by omega)]
    exact List.mem_filter.mpr ⟨List.mem_range.mpr he, decide_eq_true rfl⟩
  refine ⟨cK.fin K3 hst, ?_, ⟨?_, fun i hi => ?_⟩, fun i hi => ?_, ⟨?_, fun i hi => ?_⟩, fun i hi => ?_, fun i hi => ?_, ?_, ⟨?_, fun f hf => ?_⟩, fun k hk => ⟨fun hk2 => ?_, fun hk2 => ?_⟩, ⟨fun _ => ?_, fun z => absurd rfl z⟩, fun z => absurd rfl z, fun r hr => ?_, fun r hr => ?_, fun i hi => ⟨?_, ?_⟩, fun i hi => ?_, fun i hi => ?_⟩
  · unfold cF at F ⊢
    rw [iR]
    simp only [f0, f1, f2, f3]
    exact F
  · rw [f0, iL 0 0 (show 0 < 7 by omega) (by decide), f4]
    exact a1.1
  · have hi : i < G.1 0 := hi
    rw [f4, f5, f6, f7, f8, f9, iR, iI _ _ _ (by decide) (by decide) (by decide), iI _ _ _ (by decide) (by decide) (by decide), e51]
    exact a1.2 i hi
  · rw [f4, iJ, u4]
    exact a2 i hi
  · rw [f0, iL 0 1 (show 1 < 7 by omega) (by decide), f10]
    exact a3.1
  · rw [f10, iR, iI _ _ _ (by decide) (by decide) (by decide), u5 1456 (by decide) (by decide) (by decide), f4]
    exact a3.2 i hi
  · rw [f10, iJ, u4]
    exact a4 i hi
  · rw [f10, iI _ _ _ (by decide) (by decide) (by decide), u5 1458 (by decide) (by decide) (by decide)]
    exact a5 i hi
  · unfold cS
    rw [iI _ _ _ (by decide) (by decide) (by decide), u3 453 (by decide) (by decide) (by decide)]
    exact a6
  · rw [x3 _ _ _ (by decide), sI_uI, if_pos ⟨rfl, rfl, rfl⟩]
    rfl
  · rw [f0, x3 _ _ _ (by decide), sI_ne (by decide), sI_uI, gF_3, gF_4, e51]
    have hf : f < G.1 5 + 1 := hf
    by_cases c : f = G.1 5
    · rw [if_pos ⟨rfl, rfl, c⟩, if_pos c, if_pos c, hb2, hy]
    · rw [if_neg (fun z => c z.2.2), if_neg c, if_neg c]
      exact a7.2 f (by omega)
  · have h0 : 0 < k := by unfold kno at hk2; omega
    rw [f0, x8 k hk h0, sI_ne (by decide), sI_ne (by decide), (a8 k hk).1 hk2, u9]
  · rw [f0]
    by_cases h0 : k = 0
    · rw [h0, x9, sI_ne (by decide), sI_ne (by decide)]
      rw [h0] at hk2
      exact (a8 0 (by decide)).2 hk2
    · rw [x8 k hk (by omega), sI_ne (by decide), sI_ne (by decide), (a8 k hk).2 hk2, tal_kno hk2 (by omega)]
      rfl
  · rw [f0, iI _ _ _ (by decide) (by decide) (by decide)]
    exact h256
  · rw [iI _ _ _ (by decide) (by decide) (by decide), iI _ _ _ (by decide) (by decide) (by decide), iI _ _ _ (by decide) (by decide) (by decide), iI _ _ _ (by decide) (by decide) (by decide), iI _ _ _ (by decide) (by decide) (by decide), iI _ _ _ (by decide) (by decide) (by decide), iR, e51, f4]
    rcases row_cs (V := V) (G := G) hr with h | ⟨e, h1, h2, h3⟩
    · rw [f11 r h, gF_1o h, gF_2o h, u7 1480 r h (by decide) (by decide), u7 1483 r h (by decide) (by decide), u7 1484 r h (by decide) (by decide), u7 1485 r h (by decide) (by decide), u7 1486 r h (by decide) (by decide)]
      exact a9 r h
    · obtain ⟨o, t, ho, ht, eo, et, e5⟩ := good_bk h2
      obtain ⟨r0, r1, r2, r3, r4, r5, r6, r7⟩ := u8 e h1 h2
      obtain ⟨v0, v1, v2, v3, v4⟩ := D.2.2.2.2.2.2.2 e h1
      obtain ⟨j0, j1, j2, j3⟩ := hj e h1 h2
      rw [h3, lF_e h1 h2, gF_1e h1 h2 eo, gF_2e h1 h2 et, r0, r3, r4, r5, r6, v0, v1, v2, v3, v4, j0, j1, j2, eo, et, e5]
      exact ⟨rfl, rfl, rfl, rfl, rfl, rfl, rfl, rfl⟩
  · rw [iI _ _ _ (by decide) (by decide) (by decide), u5 1488 (by decide) (by decide) (by decide)]
    rcases row_cs (V := V) (G := G) hr with h | ⟨e, h1, h2, h3⟩
    · rw [f11 r h]; exact a10 r h
    · obtain ⟨j0, j1, j2, j3⟩ := hj e h1 h2
      rw [h3, lF_e h1 h2, j3, (of_decide_eq_true h2).2, W.2.2.2.2.2.1.2 _ (Or.inl (Nat.le_add_right _ _))]
      exact nI_0
  · have hi : i < G.1 0 := hi
    rw [f5, iL5 i hi, (a11 i hi).1]
    have main : ∀ m, m ≤ G.1 4 → ((List.range (G.1 6)).filter (wtB V i)).map (L 11) ++ ((List.range m).filter (gt V (G.1 0) (G.1 4) i)).map (L 12) = ((List.range (G.1 6 + cntL (good V (G.1 0) (G.1 4)) m)).filter (wtB U i)).map (lF L V G 11) := by
      intro m
      induction m with
      | zero =>
        intro _
        rw [List.range_zero, List.filter_nil, List.map_nil, List.append_nil]
        show _ = ((List.range (G.1 6)).filter (wtB U i)).map (lF L V G 11)
        have e1 : (List.range (G.1 6)).filter (wtB U i) = (List.range (G.1 6)).filter (wtB V i) := List.filter_congr (fun r hr => by
          have hr := List.mem_range.mp hr
          unfold wtB
          rw [u7 1487 r hr (by decide) (by decide), u7 1482 r hr (by decide) (by decide)])
        rw [e1]
        exact List.map_congr_left (fun r hr => (f11 r (List.mem_range.mp (List.mem_filter.mp hr).1)).symm)
      | succ m ih =>
        intro hm
        rw [List.range_succ, List.filter_append, List.map_append, ← List.append_assoc, ih (by omega), cntL_succ, List.filter_cons, List.filter_nil]
        by_cases hg : good V (G.1 0) (G.1 4) m = true
        · obtain ⟨o, t, ho, ht, eo, et, e5⟩ := good_bk hg
          obtain ⟨r0, r1, r2, r3, r4, r5, r6, r7⟩ := u8 m (by omega) hg
          have ew : wtB U i (G.1 6 + cntL (good V (G.1 0) (G.1 4)) m) = decide (t = i) := by
            unfold wtB
            rw [r7, r2, et, decide_eq_decide]
            exact ⟨fun z => (nI_eq (by omega) (by omega)).mp z.2, fun z => ⟨rfl, by rw [z]; rfl⟩⟩
          have eg : gt V (G.1 0) (G.1 4) i m = decide (t = i) := by
            unfold gt
            rw [hg, et, Bool.true_and, decide_eq_decide]
            exact ⟨fun z => Option.some.inj z, fun z => by rw [z]⟩
          rw [if_pos hg, ← Nat.add_assoc, List.range_succ, List.filter_append, List.map_append, List.filter_cons, List.filter_nil, ew, eg]
          by_cases c : t = i
          · rw [if_pos (decide_eq_true c), if_pos (decide_eq_true c), List.map_singleton, List.map_singleton, lF_e (by omega) hg]
          · rw [if_neg (by simpa using c), if_neg (by simpa using c)]
            rfl
        · have eg : gt V (G.1 0) (G.1 4) i m = false := by
            unfold gt
            have : good V (G.1 0) (G.1 4) m = false := by simpa using hg
            rw [this]
            rfl
          rw [if_neg hg, eg, if_neg (by decide), Nat.add_zero]
          exact List.append_nil _
    exact main (G.1 4) (Nat.le_refl _)
  · have hi : i < G.1 0 := hi
    rw [f6, iL 6 i hi (by decide), (a11 i hi).2]
    show _ = (G.2.2 0 i).map (lF L V G 11)
    exact List.map_congr_left (fun r hr => (f11 r (((W.2.2.2.2.2.2.1 i).1 r).mp hr).1).symm)
  · have hi : i < G.1 0 := hi
    obtain ⟨o1, o2, o3⟩ := a12 i hi
    have hm : ∀ r, r ∈ G.2.2 1 i → r < G.1 6 := (W.2.2.2.2.2.2.2 i).2.2.1
    rw [f7, f8, f9, iL 8 i hi (by decide), iI _ _ _ (by decide) (by decide) (by decide), o1]
    refine ⟨?_, o2, ?_⟩
    · show _ = (G.2.2 1 i).map (lF L V G 11)
      exact List.map_congr_left (fun r hr => (f11 r (hm r hr)).symm)
    · have eo : ∀ w, tot (outp U w) (G.2.2 1 i) = tot (outp V w) (G.2.2 1 i) := fun w => tot_congr (fun r hr => by
        have hr := hm r hr
        exact outp_congr (by rw [e51]) (u7 1482 r hr (by decide) (by decide)) (u7 1480 r hr (by decide) (by decide)) (u7 1484 r hr (by decide) (by decide)))
      obtain ⟨t0, t1, t2, t3⟩ := o3
      refine ⟨?_, ?_, ?_, ?_⟩
      · rw [iJ]; exact t0.trans (eo 0).symm
      · rw [iJ]; exact t1.trans (eo 1).symm
      · rw [iJ]; exact t2.trans (eo 2).symm
      · rw [iJ]; exact t3.trans (eo 3).symm
  · rw [f7, iI _ _ _ (by decide) (by decide) (by decide)]
    exact a13 i hi
theorem CI.rej (E : EI L cx s1 V G) (h256 : sI s1 256 (L 0 2) 0 = 0) {k : Nat} (hk : kno k) : CI L cx (uI s1 1405 (L 0 4) k (sI s1 1405 (L 0 4) k + 1)) (tlV (mS V 459 0) k) (fG G 0 (G.1 3) (G.1 4)) := by
  obtain ⟨K, F, ⟨a1, a2, a3, a4, a5, a6, a7, a8, a9, a10, a11, a12, a13⟩, D⟩ := E
  have K3 : cK L cx (uI s1 1405 (L 0 4) k (sI s1 1405 (L 0 4) k + 1)) G := cK.kk (σ := s1) K rfl
  have tlo : ∀ t, t ≠ 1495 → (tlV (mS V 459 0) k).2.1 t = V.2.1 t := fun t ht => tl_o ht
  have v453 : (tlV (mS V 459 0) k).1 453 = V.1 453 := rfl
  have tla : ∀ k', (tlV (mS V 459 0) k).2.1 1495 k' = V.2.1 1495 k' + nI (if k' = k then 1 else 0) := fun k' => tl_at
  have v2 : (tlV (mS V 459 0) k).2.2 = V.2.2 := rfl
  generalize tlV (mS V 459 0) k = V' at *
  have e51 := tlo 1451 (by decide)
  refine ⟨K3.fG' 0 _ _ (Nat.zero_le _), F, ⟨a1.1, fun i hi => ?_⟩, fun i hi => ?_, ⟨a3.1, fun i hi => ?_⟩, fun i hi => ?_, fun i hi => ?_, ?_, ⟨?_, fun f hf => ?_⟩, fun k' hk' => ⟨fun hk2 => ?_, fun hk2 => ?_⟩, ⟨fun _ => ?_, fun z => absurd rfl z⟩, fun z => absurd rfl z, fun r hr => ?_, fun r hr => ?_, fun i hi => ⟨?_, (a11 i hi).2⟩, fun i hi => ?_, fun i hi => ?_⟩
  · rw [sI_ne (by decide), sI_ne (by decide), e51]; exact a1.2 i hi
  · rw [v2]; exact a2 i hi
  · rw [sI_ne (by decide), tlo 1456 (by decide)]; exact a3.2 i hi
  · rw [v2]; exact a4 i hi
  · rw [sI_ne (by decide), tlo 1458 (by decide)]; exact a5 i hi
  · unfold cS; rw [sI_ne (by decide), v453]; exact a6
  · rw [sI_ne (by decide)]; exact a7.1
  · rw [sI_ne (by decide), e51]; exact a7.2 f hf
  · rw [sI_uI, tla]
    by_cases c : k' = k
    · rw [if_pos ⟨rfl, rfl, c⟩, if_pos c, c, (a8 k (by rw [← c]; exact hk')).1 hk]; rfl
    · rw [if_neg (fun z => c z.2.2), if_neg c, nI_0, Int32.add_zero]
      exact (a8 k' hk').1 hk2
  · rw [sI_uI, if_neg (fun z => hk2 (by rw [z.2.2]; exact hk))]
    exact (a8 k' hk').2 hk2
  · rw [sI_ne (by decide)]; exact h256
  · rw [sI_ne (by decide), sI_ne (by decide), sI_ne (by decide), sI_ne (by decide), sI_ne (by decide), sI_ne (by decide), tlo 1480 (by decide), e51, tlo 1483 (by decide), tlo 1484 (by decide), tlo 1485 (by decide), tlo 1486 (by decide)]
    exact a9 r hr
  · rw [sI_ne (by decide), tlo 1488 (by decide)]; exact a10 r hr
  · have e : wtB V' i = wtB V i := by
      funext r
      unfold wtB
      rw [tlo 1487 (by decide), tlo 1482 (by decide)]
    rw [e]
    exact (a11 i hi).1
  · have e : ∀ w, outp V' w = outp V w := fun w => by
      funext r
      exact outp_congr (by rw [e51]) (by rw [tlo 1482 (by decide)]) (by rw [tlo 1480 (by decide)]) (by rw [tlo 1484 (by decide)])
    obtain ⟨o1, o2, o3⟩ := a12 i hi
    rw [sI_ne (by decide)]
    refine ⟨o1, o2, ?_⟩
    unfold TT at o3 ⊢
    dsimp only at o3 ⊢
    rw [e, e, e, e]
    exact o3
  · rw [sI_ne (by decide)]; exact a13 i hi
theorem ff_kno (V : MV) (nb nt ne nf nr h l : Nat) : ff V nb nt ne nf nr h l = 0 ∨ kno (ff V nb nt ne nf nr h l) := by
  unfold ff kno
  cases bk V nb (V.1 460) with
  | none => dsimp only; omega
  | some b => dsimp only; repeat' split <;> try omega
end PM
