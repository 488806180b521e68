/-! PUT: an entry, the class's side -/
section PE
variable {L : LY} {cx mx : Nat} {σ σ' : St} {V V' : MV} {G : GH} {n : Nat}
theorem x_entry (C : CI L cx σ V G) (W : WF V G n) (hst : G.1 2 = 2) {h l : Nat} (hh : h < 2 ^ 63) (hl : l < 2 ^ 63) {post : Int32 → St → Prop} (hfull : G.1 4 = 20 → ∀ σ', CI L cx σ' (mS V 459 0) (fG G 0 (G.1 3) (G.1 4)) → AG mTag σ σ' → post (-3) σ') (hp : G.1 4 < 20 → ∀ σ' q, CI (lE L G q) cx σ' (entV (G.1 3) (G.1 4) h l (mS V 459 0)) (fG G 2 (G.1 3) (G.1 4 + 1)) → AG mTag σ σ' → post 0 σ') : wX7_addEntry cx (lN h) (lN l) post σ := by
  have h4 := W.1.2.2.2.2.2.2.2.1
  have h20 := W.1.2.2.2.2.2.2.2.2.2.1
  have h0 := W.1.2.2.2.2.2.2.2.2.2.2.2.2.2.2.2.2.2
  have hnt0 := h0 hst
  have hne0 : G.1 2 ≠ 0 := by omega
  have hK := C.k
  have k2 : sK σ (L 0 2) = 5 := hK.fix 2 (by decide)
  have k6 : sK σ (L 0 6) = 7 := hK.fix 6 (by decide)
  have c2 : 2 < cnt G 0 := by show 2 < 7; omega
  have c6 : 6 < cnt G 0 := by show 6 < 7; omega
  have c12 : cnt G 12 = G.1 4 := by show (if G.1 2 = 0 then 0 else G.1 4) = _; rw [if_neg hne0]
  have r2 := C.f.2.2.1
  have r251 := C.f.2.2.2.2.2.2.1
  have t350 : sJ σ 350 (L 0 6) 0 = lN (G.1 4) := by
    have := (C.e hne0).2.2.2.2.1.1
    dsimp only at this
    rw [this, tot_one, inB_all, List.length_range]
  unfold wX7_addEntry
  refine ⟨hK.1, nm_R r2 ⟨k2, nm_R r251 ⟨k6, ?_⟩⟩⟩
  rw [lg_cmp_lt, t350]
  by_cases hlt : G.1 4 < 20
  rotate_left
  · exact br_f (fun z => hlt ((lN_lt (b := 20) (by omega) (by decide)).mp z)) ⟨hK.1, nm_R r2 ⟨k2, x_end C (fun s C1 g1 => hfull (by omega) s C1 g1)⟩⟩
  refine br_t ((lN_lt (b := 20) (by omega) (by decide)).mpr hlt) (fun q hq s0 e0 => ?_)
  have kq0 : sK s0 q = 4 := by rw [e0, sK_uN, if_pos rfl]
  unfold wX3_init
  refine c_digitsH hh (lN l) 1 1 (by decide) (by decide) (by decide) ⟨kq0, fun s1 e1 => ?_⟩
  have kq1 : sK s1 q = 4 := by rw [e1]; exact kq0
  refine c_digitsH hh (lN l) 2 4 (by decide) (by decide) (by decide) ⟨kq1, fun s2 e2 => ?_⟩
  have kq2 : sK s2 q = 4 := by rw [e2]; exact kq1
  refine c_digitsH hh (lN l) 6 6 (by decide) (by decide) (by decide) ⟨kq2, fun s3 e3 => ?_⟩
  have kq3 : sK s3 q = 4 := by rw [e3]; exact kq2
  refine c_digitsL hl (lN h) 0 7 (by decide) (by decide) (by decide) ⟨kq3, fun s4 e4 => ?_⟩
  have kq4 : sK s4 q = 4 := by rw [e4]; exact kq3
  refine c_digitsL hl (lN h) 7 7 (by decide) (by decide) (by decide) ⟨kq4, fun s5 e5 => ?_⟩
  have kq : sK s5 q = 4 := by rw [e5]; exact kq4
  have hq2 : ¬ oTag (sK σ q) := fun z => z hq
  have g5 : AG oTag σ s5 := by
    rw [e5, e4, e3, e2, e1, e0]
    exact (((((AG.rfl'.uN hq2).uI hq2).uI hq2).uI hq2).uI hq2).uI hq2
  have z0 : sI s5 200 q 0 = nI (dg h 1 1) := by
    rw [e5, sI_ne (by decide), e4, sI_ne (by decide), e3, sI_ne (by decide), e2, sI_ne (by decide), e1, sI_uI, if_pos ⟨rfl, rfl, rfl⟩]
  have z1 : sI s5 201 q 0 = nI (dg h 2 4) := by
    rw [e5, sI_ne (by decide), e4, sI_ne (by decide), e3, sI_ne (by decide), e2, sI_uI, if_pos ⟨rfl, rfl, rfl⟩]
  have z2 : sI s5 202 q 0 = nI (dg h 6 6) := by
    rw [e5, sI_ne (by decide), e4, sI_ne (by decide), e3, sI_uI, if_pos ⟨rfl, rfl, rfl⟩]
  have z3 : sI s5 203 q 0 = nI (dg l 0 7) := by
    rw [e5, sI_ne (by decide), e4, sI_uI, if_pos ⟨rfl, rfl, rfl⟩]
  have z4 : sI s5 204 q 0 = nI (dg l 7 7) := by
    rw [e5, sI_uI, if_pos ⟨rfl, rfl, rfl⟩]
  clear e0 e1 e2 e3 e4 e5 kq0 kq1 kq2 kq3 kq4
  have C5 := C.ag g5 (fun t ht => Nat.ne_of_gt ht.1) h4 h0
  have gm5 : AG mTag σ s5 := g5.mono (fun t ht => by unfold oTag; unfold mTag at ht; omega)
  have hqo : ∀ t i, i < cnt G t → L t i ≠ q := fun t i hi z => by
    have := hK.knd t i hi
    rw [z, hq] at this
    have := (kd_c t i).1
    omega
  have hold : ∀ a, sK σ a ≠ 0 → sK s5 a = sK σ a := fun a ha => (g5 a ha).1
  clear g5
  have D := C5.e hne0
  have hK5 := C5.k
  obtain ⟨p, hp4⟩ : ∃ p, p = G.1 3 - 1 := ⟨_, rfl⟩
  have hpl : p < 4 := by omega
  have r402 := C5.f.2.2.1
  have kf5 : sK s5 (L 0 2) = 5 := hK5.fix 2 (by decide)
  have k65 : sK s5 (L 0 6) = 7 := hK5.fix 6 (by decide)
  have kb5 : sK s5 (L 1 p) = 3 := hK5.knd 1 p hpl
  have kc5 : sK s5 (L 2 p) = 22 := hK5.knd 2 p hpl
  have kd5 : sK s5 (L 3 p) = 7 := hK5.knd 3 p hpl
  have r252 : sR s5 252 (L 0 2) 0 = some (L 1 p) := by rw [hp4]; exact D.2.2.2.1 hst
  have r150 := (C5.f.2.2.2.2.2.2.2 p hpl).2.1
  have r151 := (C5.f.2.2.2.2.2.2.2 p hpl).2.2
  have rT := C5.f.2.2.2.2.2.2.1
  obtain ⟨d1, d2, d3, d4, d5, d6, d7, d8⟩ := D
  obtain ⟨m1, m2, m3, m4, m5, m6, m7⟩ := d6 p (by omega)
  have nbc : L 1 p ≠ L 3 p := hK.ne (t := 1) (t' := 3) hpl hpl (fun z => absurd z.1 (by decide))
  have n63 : L 0 6 ≠ L 3 p := hK.ne (t := 0) (t' := 3) c6 hpl (fun z => absurd z.1 (by decide))
  -- what the view says of the new entry
  have e71 : (entV (G.1 3) (G.1 4) h l (mS V 459 0)).2.1 1471 (G.1 4) = nI p := by rw [hp4]; exact entV_71
  have e72 : (entV (G.1 3) (G.1 4) h l (mS V 459 0)).2.1 1472 (G.1 4) = nI (dg h 1 1) := entV_72
  have e73 : (entV (G.1 3) (G.1 4) h l (mS V 459 0)).2.1 1473 (G.1 4) = nI (dg h 2 4) := entV_73
  have e74 : (entV (G.1 3) (G.1 4) h l (mS V 459 0)).2.1 1474 (G.1 4) = nI (dg h 6 6) := entV_74
  have e75 : (entV (G.1 3) (G.1 4) h l (mS V 459 0)).2.1 1475 (G.1 4) = nI (dg l 0 7) := entV_75
  have e76 : (entV (G.1 3) (G.1 4) h l (mS V 459 0)).2.1 1476 (G.1 4) = nI (dg l 7 7) := entV_76
  have eo : ∀ u, (u < 1471 ∨ 1476 < u) → (entV (G.1 3) (G.1 4) h l (mS V 459 0)).2.1 u = V.2.1 u := fun u hu => entV_o hu
  have el : ∀ u e, e ≠ G.1 4 → (entV (G.1 3) (G.1 4) h l (mS V 459 0)).2.1 u e = V.2.1 u e := fun u e he => entV_l he
  have xV : XV V (entV (G.1 3) (G.1 4) h l (mS V 459 0)) := entV_x
  have v0 : (entV (G.1 3) (G.1 4) h l (mS V 459 0)).1 460 = V.1 460 := rfl
  have v1 : (entV (G.1 3) (G.1 4) h l (mS V 459 0)).1 461 = V.1 461 := rfl
  replace hp := hp hlt
  generalize entV (G.1 3) (G.1 4) h l (mS V 459 0) = V' at *
  have epo : ∀ w e, e < G.1 4 → ep V' w e = ep V w e := fun w e he => ep_e (el _ _ (by omega)) (el _ _ (by omega)) (el _ _ (by omega)) w
  have ib : ∀ b, inB V' b (G.1 4) = inB V b (G.1 4) := fun b => inB_e (fun e he => el _ _ (by omega)) b
  have tb : ∀ w b, tot (ep V' w) (inB V b (G.1 4)) = tot (ep V w) (inB V b (G.1 4)) := fun w b => tot_congr (fun x hx => epo w x (inB_lt hx))
  have gb : ∀ b, gw V' b (G.1 4) = gw V b (G.1 4) := fun b => gw_e (fun e he => el _ _ (by omega)) (fun e he => el _ _ (by omega)) b
  have inP : ∀ k, k < 4 → inB V' (nI k) (G.1 4 + 1) = inB V (nI k) (G.1 4) ++ (if k = p then [G.1 4] else []) := fun k hk => by
    rw [inB_succ, ib, e71]
    by_cases c : k = p
    · rw [if_pos c, if_pos (Or.inr (by rw [c]))]
    · rw [if_neg c, if_neg (fun z => by
        rcases z with z | z
        · exact nI_pos (by omega) z
        · rw [nI_eq (by omega) (by omega)] at z
          omega)]
  have inM : inB V' (-1) (G.1 4 + 1) = inB V (-1) (G.1 4) ++ [G.1 4] := by
    rw [inB_succ, ib, if_pos (Or.inl (by decide))]
  have gwk : ∀ k, k < 4 → k ≠ p → gw V' (nI k) (G.1 4 + 1) = gw V (nI k) (G.1 4) := fun k hk c => by
    rw [gw_succ, gb]
    have : viol V' (nI k) (G.1 4) = false := decide_eq_false (fun z => by
      have := z.2.1
      rw [e71, nI_eq (by omega) (by omega)] at this
      omega)
    rw [this]
    simp
  have tlt : dg l 7 7 < 10000000 := dg_lt l 7 7
  have gwp : gw V' (nI p) (G.1 4 + 1) = (gw V (nI p) (G.1 4) && decide (sI s5 155 (L 1 p) 0 < nI (dg l 7 7))) := by
    rw [gw_succ, gb]
    congr 1
    have a7 : sI s5 155 (L 1 p) 0 = if 0 < G.1 4 ∧ V.2.1 1471 (G.1 4 - 1) = nI p then V.2.1 1476 (G.1 4 - 1) else -1 := by rw [hp4]; exact d7 hst
    rw [a7]
    by_cases c : 0 < G.1 4 ∧ V.2.1 1471 (G.1 4 - 1) = nI p
    · rw [if_pos c]
      by_cases c3 : V.2.1 1476 (G.1 4 - 1) < nI (dg l 7 7)
      · rw [decide_eq_true c3]
        have : viol V' (nI p) (G.1 4) = false := decide_eq_false (fun z => by
          have z4 := z.2.2.2
          rw [e76, el _ _ (show G.1 4 - 1 ≠ G.1 4 by omega)] at z4
          exact absurd z4 (Int32.not_le.mpr c3))
        rw [this]; rfl
      · rw [decide_eq_false c3]
        have : viol V' (nI p) (G.1 4) = true := decide_eq_true ⟨c.1, e71, by rw [el _ _ (show G.1 4 - 1 ≠ G.1 4 by omega)]; exact c.2, by rw [e76, el _ _ (show G.1 4 - 1 ≠ G.1 4 by omega)]; exact Int32.not_lt.mp c3⟩
        rw [this]; rfl
    · rw [if_neg c]
      have : viol V' (nI p) (G.1 4) = false := decide_eq_false (fun z => c ⟨z.1, by have := z.2.2.1; rwa [el _ _ (show G.1 4 - 1 ≠ G.1 4 by have := z.1; omega)] at this⟩)
      rw [this, decide_eq_true (show (-1 : Int32) < nI (dg l 7 7) by
        rw [Int32.lt_iff_toInt_lt, nI_toInt (by omega)]
        have : (-1 : Int32).toInt = -1 := by decide
        omega)]
      rfl
  refine ⟨hK5.1, nm_R r402 ⟨kf5, nm_R r252 ⟨kb5, ?_⟩⟩⟩
  unfold wX2_add
  refine ⟨kb5, nm_R r150 ⟨by rw [kc5]; decide, q, rfl, by rw [kq, kc5]; decide, ?_, ?_⟩⟩
  · rw [m4, List.length_map]
    have : (inB V (nI p) (G.1 4)).length ≤ G.1 4 := by
      have := List.length_filter_le (fun e => decide (nI p < 0 ∨ V.2.1 1471 e = nI p)) (List.range (G.1 4))
      rw [List.length_range] at this
      exact this
    omega
  refine ⟨kb5, nm_R r151 ⟨kd5, x_add (s := fun w => tot (ep V w) (inB V (nI p) (G.1 4))) kd5 kq m5 (fun s7 j7 t7 => ?_)⟩⟩
  have x7 : AX (fun a => a = L 1 p ∨ a = L 2 p ∨ a = L 3 p ∨ a = L 0 6) s5 s7 := (AX.rfl'.uL (Or.inr (Or.inl rfl))).trans (j7.ax (Or.inr (Or.inr (Or.inl rfl))))
  obtain ⟨j7a, j7b, j7c, j7d, j7e⟩ := j7
  have kb7 : sK s7 (L 1 p) = 3 := by rw [j7a]; exact kb5
  have kq7 : sK s7 q = 4 := by rw [j7a]; exact kq
  refine ⟨q, rfl, kq7, kb7, ?_⟩
  have i155 : sI s7 155 (L 1 p) 0 = sI s5 155 (L 1 p) 0 := by rw [j7b]; rfl
  have i204 : sI s7 204 q 0 = nI (dg l 7 7) := by rw [j7b]; exact z4
  have i156 : sI s7 156 (L 1 p) 0 = bI (gw V (nI p) (G.1 4)) := by rw [j7b]; exact m6
  rw [i155, i204]
  have main : ∀ s8, sK s8 = sK s7 → sJ s8 = sJ s7 → sR s8 = sR s7 → sL s8 = sL s7 → (∀ g a j, ¬ (g = 156 ∧ a = L 1 p) → sI s8 g a j = sI s7 g a j) → sI s8 156 (L 1 p) 0 = bI (gw V' (nI p) (G.1 4 + 1)) → wX2_add_33 (L 1 p) (fun (σ46 : St) => sK σ46 cx = 8 ∧ (∀ r49 : Option Nat, r49 = sR σ46 402 cx 0 → (∃ a50 : Nat, r49 = some a50 ∧ (sK σ46 a50 = 5 ∧ (∀ r52 : Option Nat, r52 = sR σ46 251 a50 0 → (∃ a53 : Nat, r52 = some a53 ∧ (sK σ46 a53 = 7 ∧ (wX6_add a53 (some q) (fun (σ55 : St) => post (0 : Int32) σ55) σ46)))))))) (some q) s8 := by
    intro s8 y1 y2 y3 y4 y5 y6
    unfold wX2_add_33
    have y204 : sI s8 204 q 0 = nI (dg l 7 7) := by rw [y5 _ _ _ (fun z => absurd z.1 (by decide))]; exact i204
    refine ⟨q, rfl, by rw [y1]; exact kq7, by rw [y1]; exact kb7, fun s9 e9 => ?_⟩
    rw [y204] at e9
    have x8 : AX (fun a => a = L 1 p ∨ a = L 2 p ∨ a = L 3 p ∨ a = L 0 6) s7 s8 := fun a ha => ⟨by rw [y1], fun f i => y5 f a i (fun z => ha (Or.inl z.2)), fun f i => by rw [y2], fun f i => by rw [y3], by rw [y4]⟩
    have x9 : AX (fun a => a = L 1 p ∨ a = L 2 p ∨ a = L 3 p ∨ a = L 0 6) s5 s9 := by
      rw [e9]
      exact (x7.trans x8).uI (Or.inl rfl)
    have K9 : sK s9 = sK s5 := by rw [e9]; show sK s8 = _; rw [y1, j7a]; rfl
    have R9 : sR s9 = sR s5 := by rw [e9]; show sR s8 = _; rw [y3, j7c]; rfl
    have J9 : sJ s9 = sJ s7 := by rw [e9]; show sJ s8 = _; rw [y2]
    have L9 : sL s9 = sL (uL s5 (L 2 p) (sL s5 (L 2 p) ++ [q])) := by rw [e9]; show sL s8 = _; rw [y4, j7d]
    have I9 : ∀ g a j, ¬ (a = L 1 p ∧ (g = 155 ∨ g = 156)) → sI s9 g a j = sI s5 g a j := fun g a j hn => by
      rw [e9, sI_uI, if_neg (fun z => hn ⟨z.2.1, Or.inl z.1⟩), y5 _ _ _ (fun z => hn ⟨z.2, Or.inr z.1⟩), j7b]
      rfl
    have q155 : sI s9 155 (L 1 p) 0 = nI (dg l 7 7) := by rw [e9, sI_uI, if_pos ⟨rfl, rfl, rfl⟩]
    have q156 : sI s9 156 (L 1 p) 0 = bI (gw V' (nI p) (G.1 4 + 1)) := by rw [e9, sI_ne (by decide)]; exact y6
    have t6 : TT s9 (L 0 6) (fun w => tot (ep V w) (inB V (-1) (G.1 4))) := by
      unfold TT at d5 ⊢
      rw [J9, j7e _ _ _ n63, j7e _ _ _ n63, j7e _ _ _ n63, j7e _ _ _ n63]
      exact d5
    clear e9 y1 y2 y3 y4 y5 y6 y204 x8 x7
    refine ⟨by rw [K9]; exact hK5.1, nm_R (by rw [R9]; exact r402) ⟨by rw [K9]; exact kf5, nm_R (by rw [R9]; exact rT) ⟨by rw [K9]; exact k65, x_add (by rw [K9]; exact k65) (by rw [K9]; exact kq) t6 (fun s j t => ?_)⟩⟩⟩
    have x : AX (fun a => a = L 1 p ∨ a = L 2 p ∨ a = L 3 p ∨ a = L 0 6) s5 s := x9.trans (j.ax (Or.inr (Or.inr (Or.inr rfl))))
    obtain ⟨ja, jb, jc, jd, je⟩ := j
    have qK : sK s = sK s5 := by rw [ja, K9]
    have qR : sR s = sR s5 := by rw [jc, R9]
    have mM : ∀ a, (a = L 1 p ∨ a = L 2 p ∨ a = L 3 p ∨ a = L 0 6) → fM L a := fun a z => by
      rcases z with z | z | z | z
      · exact ⟨1, p, Or.inr ⟨by omega, hpl⟩, z⟩
      · exact ⟨2, p, Or.inr ⟨by omega, hpl⟩, z⟩
      · exact ⟨3, p, Or.inr ⟨by omega, hpl⟩, z⟩
      · exact ⟨0, 6, Or.inl ⟨rfl, Or.inr rfl⟩, z⟩
    have oth : ∀ t i, i < cnt G t → ¬ (t = 0 ∧ i = 6) → ¬ ((t = 1 ∨ t = 2 ∨ t = 3) ∧ i = p) → ¬ (L t i = L 1 p ∨ L t i = L 2 p ∨ L t i = L 3 p ∨ L t i = L 0 6) := fun t i hi n1 n2 z => by
      rcases z with z | z | z | z
      · have := hK.2.2 t i 1 p hi hpl z; omega
      · have := hK.2.2 t i 2 p hi hpl z; omega
      · have := hK.2.2 t i 3 p hi hpl z; omega
      · exact n1 (hK.2.2 t i 0 6 hi c6 z)
    have xq := x q (fun z => by
      rcases z with z | z | z | z
      · exact hqo 1 p hpl z.symm
      · exact hqo 2 p hpl z.symm
      · exact hqo 3 p hpl z.symm
      · exact hqo 0 6 c6 z.symm)
    have o1 : OC (lE L G q) cx s V' G := (OC.v (OC.ax C5.k C5.oc (x.mono mM)) xV).e
    have ptq : ∀ s', sI s' 200 q 0 = nI (dg h 1 1) → sI s' 201 q 0 = nI (dg h 2 4) → sI s' 203 q 0 = nI (dg l 0 7) → ∀ w, pt s' q w = ep V' w (G.1 4) := fun s' u0 u1 u3 w => pt_ep (by rw [u0, e72]) (by rw [u1, e73]) (by rw [u3, e75]) w
    have eqk : ∀ k, k ≠ p → k < 4 → L 3 k ≠ L 0 6 := fun k _ hk => hK.ne (t := 3) (t' := 0) hk c6 (fun z => absurd z.1 (by decide))
    have le0 : ∀ i, lE L G q 0 i = L 0 i := fun i => lE_o (by decide)
    have le1 : ∀ i, lE L G q 1 i = L 1 i := fun i => lE_o (by decide)
    have le2 : ∀ i, lE L G q 2 i = L 2 i := fun i => lE_o (by decide)
    have le3 : ∀ i, lE L G q 3 i = L 3 i := fun i => lE_o (by decide)
    have leo : ∀ e, e < G.1 4 → lE L G q 12 e = L 12 e := fun e he => lE_12 (by rw [c12]; exact he)
    have leq : lE L G q 12 (G.1 4) = q := by have := lE_q (L := L) (G := G) (q := q); rwa [c12] at this
    have mapo : ∀ b, (inB V b (G.1 4)).map (lE L G q 12) = (inB V b (G.1 4)).map (L 12) := fun b => List.map_congr_left (fun e he => leo e (inB_lt he))
    refine hp s q (CI.mk' ?_ ?_ (show OC (lE L G q) cx s V' G from o1) ⟨fun z => ?_, fun _ => ⟨?_, fun _ => ?_, fun z => absurd rfl z⟩⟩ (fun _ => ?_)) (gm5.trans ((x.mono mM).toAG (fun a ha => fM.notM C5.k ha)))
    · refine cK.grow hK (fun t => decide (t = 12)) (fun _ => q) _ (fun t ht => ?_) (fun t ht => ?_) (fun t ht t' i' hi' => hqo t' i' hi') (fun t ht => ?_) (fun t t' ht ht' _ => ?_) (fun a ha => ?_)
      · have := of_decide_eq_true ht
        subst this
        rw [c12]
        rfl
      · have := of_decide_eq_false ht
        exact cnt_f G 2 _ _ t this
      · have := of_decide_eq_true ht
        subst this
        rw [qK]
        exact kq
      · exact (of_decide_eq_true ht).trans (of_decide_eq_true ht').symm
      · rw [qK]
        exact hold a ha
    · refine cF.e ?_
      have := C5.f
      unfold cF at this ⊢
      rw [qR]
      exact this
    · exact absurd z (by show ¬ 2 = 0; decide)
    · rw [le0, jb, I9 _ _ _ (fun z => absurd z.2 (by decide))]
      exact (C5.g.2 hne0).1
    · rw [le0, jb, I9 _ _ _ (fun z => absurd z.2 (by decide))]
      exact (C5.g.2 hne0).2.1 hst
    · show FD (lE L G q) s V' 2 (G.1 3) (G.1 4 + 1)
      refine ⟨?_, ?_, ?_, fun _ => ?_, ?_, fun k hk => ?_, fun _ => ?_, fun e he => ?_⟩
      · rw [le0, jb, I9 _ _ _ (fun z => absurd z.2 (by decide))]; exact d1
      · rw [le0, jb, I9 _ _ _ (fun z => absurd z.2 (by decide)), v0]; exact d2
      · rw [le0, jb, I9 _ _ _ (fun z => absurd z.2 (by decide)), v1]; exact d3
      · rw [le0, le1, qR]; exact d4 hst
      · rw [le0]
        have ee := ptq s9 (by rw [I9 _ _ _ (fun z => absurd z.2 (by decide))]; exact z0) (by rw [I9 _ _ _ (fun z => absurd z.2 (by decide))]; exact z1) (by rw [I9 _ _ _ (fun z => absurd z.2 (by decide))]; exact z3)
        unfold TT at t ⊢
        dsimp only at t ⊢
        rw [inM, tot_app, tot_app, tot_app, tot_app, tb, tb, tb, tb, ← ee, ← ee, ← ee, ← ee]
        exact t
      · rw [le1, le2, le3, inP k (by omega)]
        by_cases ck : k = p
        · have ee := ptq (uL s5 (L 2 p) (sL s5 (L 2 p) ++ [q])) z0 z1 z3
          rw [ck, if_pos rfl, jb, I9 152 _ _ (fun z => absurd z.2 (by decide)), I9 153 _ _ (fun z => absurd z.2 (by decide)), I9 154 _ _ (fun z => absurd z.2 (by decide)), q156, jd, L9, sL_uL, if_pos rfl, eo 1464 (by decide), eo 1465 (by decide), eo 1466 (by decide), List.map_append, mapo, List.map_singleton, leq, m4]
          refine ⟨m1, m2, m3, rfl, ?_, rfl, fun z => absurd ⟨rfl, hp4⟩ z⟩
          unfold TT at t7 ⊢
          dsimp only at t7 ⊢
          rw [tot_app, tot_app, tot_app, tot_app, tb, tb, tb, tb, ← ee, ← ee, ← ee, ← ee, je _ _ _ n63.symm, je _ _ _ n63.symm, je _ _ _ n63.symm, je _ _ _ n63.symm, J9]
          exact t7
        · obtain ⟨a1, a2, a3, a4, a5, a6, a7⟩ := d6 k hk
          have y1 := x (L 1 k) (oth 1 k (by show k < 4; omega) (by omega) (by omega))
          have y2 := x (L 2 k) (oth 2 k (by show k < 4; omega) (by omega) (by omega))
          have y3 := x (L 3 k) (oth 3 k (by show k < 4; omega) (by omega) (by omega))
          rw [if_neg ck, List.append_nil, y1.2.1, y1.2.1, y1.2.1, y1.2.1, y1.2.1, y2.2.2.2.2, mapo, eo 1464 (by decide), eo 1465 (by decide), eo 1466 (by decide), gwk k (by omega) ck]
          refine ⟨a1, a2, a3, a4, ?_, a6, fun _ => ?_⟩
          · unfold TT at a5 ⊢
            dsimp only at a5 ⊢
            rw [y3.2.2.1, y3.2.2.1, y3.2.2.1, y3.2.2.1, tb, tb, tb, tb]
            exact a5
          · have : sayb V' (G.1 4 + 1) k ↔ sayb V (G.1 4) k := by
              unfold sayb
              rw [inP k (by omega), if_neg ck, List.append_nil, tb, tb, tb, tb, eo 1467 (by decide), eo 1468 (by decide), eo 1469 (by decide), eo 1470 (by decide)]
            rw [this]
            exact a7 (fun z => by omega)
      · rw [le1, ← hp4, jb, q155, Nat.add_sub_cancel, if_pos ⟨Nat.succ_pos _, e71⟩, e76]
      · by_cases c : e = G.1 4
        · rw [c, leq, xq.2.1, xq.2.1, xq.2.1, xq.2.1, xq.2.1, e72, e73, e74, e75, e76]
          exact ⟨z0, z1, z2, z3, z4⟩
        · have y := x (L 12 e) (oth 12 e (by rw [c12]; omega) (by omega) (by omega))
          rw [leo e (by omega), y.2.1, y.2.1, y.2.1, y.2.1, y.2.1, el _ _ c, el _ _ c, el _ _ c, el _ _ c, el _ _ c]
          exact d8 e (by omega)
  by_cases c : sI s5 155 (L 1 p) 0 < nI (dg l 7 7)
  · refine br_t c (main s7 rfl rfl rfl rfl (fun _ _ _ _ => rfl) ?_)
    rw [i156, gwp, decide_eq_true c, Bool.and_true]
  · refine br_f c ⟨kb7, fun s8 e8 => ?_⟩
    subst e8
    refine main _ rfl rfl rfl rfl (fun g a j hn => ?_) ?_
    · rw [sI_uI, if_neg (fun z => hn ⟨z.1, z.2.1⟩)]
    · rw [sI_uI, if_pos ⟨rfl, rfl, rfl⟩, gwp, decide_eq_false c, Bool.and_false]
      rfl
end PE
