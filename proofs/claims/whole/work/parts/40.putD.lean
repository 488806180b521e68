/-! PUT: an entry -/
section PD
variable {L : LY} {cx mx : Nat} {σ σ' : St} {V V' : MV} {G : GH} {n : Nat}
theorem inB_lt {b : Int32} {ne e : Nat} (h : e ∈ inB V b ne) : e < ne := List.mem_range.mp (List.mem_filter.mp h).1
theorem inB_e {ne : Nat} (h : ∀ e, e < ne → V'.2.1 1471 e = V.2.1 1471 e) (b : Int32) : inB V' b ne = inB V b ne := by
  unfold inB
  refine List.filter_congr (fun e he => ?_)
  rw [h e (List.mem_range.mp he)]
theorem gw_e {ne : Nat} (h : ∀ e, e < ne → V'.2.1 1471 e = V.2.1 1471 e) (h' : ∀ e, e < ne → V'.2.1 1476 e = V.2.1 1476 e) (b : Int32) : gw V' b ne = gw V b ne := by
  have hv : ∀ e, e < ne → viol V' b e = viol V b e := fun e he => by
    unfold viol
    rw [h e he, h (e - 1) (by omega), h' e he, h' (e - 1) (by omega)]
  unfold gw
  rw [Bool.eq_iff_iff, List.all_eq_true, List.all_eq_true]
  constructor
  · intro z e he
    rw [← hv e (List.mem_range.mp he)]
    exact z e he
  · intro z e he
    rw [hv e (List.mem_range.mp he)]
    exact z e he
theorem ep_e {e : Nat} (h2 : V'.2.1 1472 e = V.2.1 1472 e) (h3 : V'.2.1 1473 e = V.2.1 1473 e) (h5 : V'.2.1 1475 e = V.2.1 1475 e) (w : Nat) : ep V' w e = ep V w e := by
  unfold ep
  rw [h2, h3, h5]
theorem pt_ep {q e : Nat} (h0 : sI σ 200 q 0 = V.2.1 1472 e) (h1 : sI σ 201 q 0 = V.2.1 1473 e) (h3 : sI σ 203 q 0 = V.2.1 1475 e) (w : Nat) : pt σ q w = ep V w e := by
  unfold pt ep
  rw [h0, h1, h3]
theorem tot_one : ∀ l : List Nat, tot (ep V 0) l = lN l.length := by
  intro l
  have g : ∀ (l : List Nat) (k : Nat), l.foldl (fun s e => s + ep V 0 e) (lN k) = lN (k + l.length) := by
    intro l
    induction l with
    | nil => intro k; rfl
    | cons x l ih =>
      intro k
      rw [List.foldl_cons]
      have e1 : ep V 0 x = 1 := if_pos rfl
      rw [e1, show lN k + 1 = lN (k + 1) from (Int64.ofNat_add k 1).symm, ih (k + 1), List.length_cons]
      congr 1
      omega
  have := g l 0
  rw [Nat.zero_add] at this
  exact this
theorem inB_all (ne : Nat) : inB V (-1) ne = List.range ne := by
  unfold inB
  rw [List.filter_eq_self]
  intro e _
  exact decide_eq_true (Or.inl (by decide))
/-- the layout with one entry more -/
def lE (L : LY) (G : GH) (q : Nat) : LY := gL L G (fun t => decide (t = 12)) (fun _ => q)
theorem lE_o {t i q : Nat} (ht : t ≠ 12) : lE L G q t i = L t i := if_neg (fun z => ht (of_decide_eq_true z.1))
theorem lE_12 {i q : Nat} (h : i < cnt G 12) : lE L G q 12 i = L 12 i := if_neg (fun z => by omega)
theorem lE_q {q : Nat} : lE L G q 12 (cnt G 12) = q := if_pos ⟨rfl, rfl⟩
theorem cF.e {q : Nat} (h : cF L cx σ) : cF (lE L G q) cx σ := by
  unfold cF at h ⊢
  simp only [lE_o (L := L) (G := G) (q := q) (t := 0) (by decide), lE_o (L := L) (G := G) (q := q) (t := 1) (by decide), lE_o (L := L) (G := G) (q := q) (t := 2) (by decide), lE_o (L := L) (G := G) (q := q) (t := 3) (by decide)]
  exact h
theorem OC.e {q : Nat} (h : OC L cx σ V G) : OC (lE L G q) cx σ V G := by
  obtain ⟨a1, a2, a3, a4, a5, a6, a7, a8, a9, a10, a11, a12, a13⟩ := h
  have e4 : lE L G q 4 = L 4 := funext (fun _ => lE_o (by decide))
  have e10 : lE L G q 10 = L 10 := funext (fun _ => lE_o (by decide))
  have e11 : lE L G q 11 = L 11 := funext (fun _ => lE_o (by decide))
  have e0 : lE L G q 0 = L 0 := funext (fun _ => lE_o (by decide))
  have e5 : lE L G q 5 = L 5 := funext (fun _ => lE_o (by decide))
  have e6 : lE L G q 6 = L 6 := funext (fun _ => lE_o (by decide))
  have e7 : lE L G q 7 = L 7 := funext (fun _ => lE_o (by decide))
  have e8 : lE L G q 8 = L 8 := funext (fun _ => lE_o (by decide))
  have e9 : lE L G q 9 = L 9 := funext (fun _ => lE_o (by decide))
  refine ⟨?_, ?_, ?_, ?_, ?_, a6, ?_, ?_, ?_, ?_, ?_, ?_, ?_⟩
  · unfold cB; rw [e0, e4, e5, e6, e7, e8, e9]; exact a1
  · unfold cL; rw [e4]; exact a2
  · unfold cA; rw [e0, e4, e10]; exact a3
  · unfold cAb; rw [e10]; exact a4
  · unfold cAs; rw [e10]; exact a5
  · unfold cN; rw [e0]; exact a7
  · unfold cT; rw [e0]; exact a8
  · unfold cR; rw [e4, e11]; exact a9
  · unfold cRr; rw [e11]; exact a10
  · unfold cW; rw [e5, e6, e11]; exact a11
  · unfold cO; rw [e7, e8, e9, e11]; exact a12
  · unfold cD; rw [e7]; exact a13
/-- the view after an entry -/
theorem entV_o {nt ne h l u : Nat} (hu : u < 1471 ∨ 1476 < u) : (entV nt ne h l (mS V 459 0)).2.1 u = V.2.1 u := (mA_o (by omega)).trans ((mA_o (by omega)).trans ((mA_o (by omega)).trans ((mA_o (by omega)).trans ((mA_o (by omega)).trans (mA_o (by omega))))))
theorem entV_l {nt ne h l u e : Nat} (he : e ≠ ne) : (entV nt ne h l (mS V 459 0)).2.1 u e = V.2.1 u e := by
  show (mA (mA (mA (mA (mA (mA (mS V 459 0) 1471 _ _) 1472 _ _) 1473 _ _) 1474 _ _) 1475 _ _) 1476 _ _).2.1 u e = _
  rw [mA_2, if_neg (fun z => he z.2), mA_2, if_neg (fun z => he z.2), mA_2, if_neg (fun z => he z.2), mA_2, if_neg (fun z => he z.2), mA_2, if_neg (fun z => he z.2), mA_2, if_neg (fun z => he z.2)]
  rfl
theorem entV_71 {nt ne h l : Nat} : (entV nt ne h l (mS V 459 0)).2.1 1471 ne = nI (nt - 1) := by
  show (mA (mA (mA (mA (mA (mA (mS V 459 0) 1471 _ _) 1472 _ _) 1473 _ _) 1474 _ _) 1475 _ _) 1476 _ _).2.1 1471 ne = _
  rw [mA_o (by decide), mA_o (by decide), mA_o (by decide), mA_o (by decide), mA_o (by decide), mA_2, if_pos ⟨rfl, rfl⟩]
theorem entV_72 {nt ne h l : Nat} : (entV nt ne h l (mS V 459 0)).2.1 1472 ne = nI (dg h 1 1) := by
  show (mA (mA (mA (mA (mA (mA (mS V 459 0) 1471 _ _) 1472 _ _) 1473 _ _) 1474 _ _) 1475 _ _) 1476 _ _).2.1 1472 ne = _
  rw [mA_o (by decide), mA_o (by decide), mA_o (by decide), mA_o (by decide), mA_2, if_pos ⟨rfl, rfl⟩]
theorem entV_73 {nt ne h l : Nat} : (entV nt ne h l (mS V 459 0)).2.1 1473 ne = nI (dg h 2 4) := by
  show (mA (mA (mA (mA (mA (mA (mS V 459 0) 1471 _ _) 1472 _ _) 1473 _ _) 1474 _ _) 1475 _ _) 1476 _ _).2.1 1473 ne = _
  rw [mA_o (by decide), mA_o (by decide), mA_o (by decide), mA_2, if_pos ⟨rfl, rfl⟩]
theorem entV_74 {nt ne h l : Nat} : (entV nt ne h l (mS V 459 0)).2.1 1474 ne = nI (dg h 6 6) := by
  show (mA (mA (mA (mA (mA (mA (mS V 459 0) 1471 _ _) 1472 _ _) 1473 _ _) 1474 _ _) 1475 _ _) 1476 _ _).2.1 1474 ne = _
  rw [mA_o (by decide), mA_o (by decide), mA_2, if_pos ⟨rfl, rfl⟩]
theorem entV_75 {nt ne h l : Nat} : (entV nt ne h l (mS V 459 0)).2.1 1475 ne = nI (dg l 0 7) := by
  show (mA (mA (mA (mA (mA (mA (mS V 459 0) 1471 _ _) 1472 _ _) 1473 _ _) 1474 _ _) 1475 _ _) 1476 _ _).2.1 1475 ne = _
  rw [mA_o (by decide), mA_2, if_pos ⟨rfl, rfl⟩]
theorem entV_76 {nt ne h l : Nat} : (entV nt ne h l (mS V 459 0)).2.1 1476 ne = nI (dg l 7 7) := by
  show (mA (mA (mA (mA (mA (mA (mS V 459 0) 1471 _ _) 1472 _ _) 1473 _ _) 1474 _ _) 1475 _ _) 1476 _ _).2.1 1476 ne = _
  rw [mA_2, if_pos ⟨rfl, rfl⟩]
theorem entV_x {nt ne h l : Nat} : XV V (entV nt ne h l (mS V 459 0)) := ((((((((XV.rfl'.mS' (by decide)).mA' (by decide)).mA' (by decide)).mA' (by decide)).mA' (by decide)).mA' (by decide)).mA' (by decide)).mS' (by decide)).mS' (by decide)
theorem WF.ent (W : WF V G n) (hst : G.1 2 = 2) (hne : G.1 4 < 20) (h l : Nat) : WF (entV (G.1 3) (G.1 4) h l (mS V 459 0)) (fG G 2 (G.1 3) (G.1 4 + 1)) (n + 1) := by
  have wn := W.1
  obtain ⟨a1, a2, a3, a4, a5, a6, a7, a8, a9, a10, a11, a12, a13, a14, a15, a16, a17, a18⟩ := wn
  have wE := W.2.2.2.1 (by omega)
  have h0 := a18 hst
  have v0 : (entV (G.1 3) (G.1 4) h l (mS V 459 0)).1 460 = V.1 460 := rfl
  have v1 : (entV (G.1 3) (G.1 4) h l (mS V 459 0)).1 461 = V.1 461 := rfl
  refine W.f entV_x rfl (by decide) a7 a8 rfl (by omega) (fun _ => by have := a17 (by omega); omega) (fun _ => h0) (fun _ => ?_)
  have eo : (entV (G.1 3) (G.1 4) h l (mS V 459 0)).2.1 1465 = V.2.1 1465 := entV_o (by decide)
  have e71 : (entV (G.1 3) (G.1 4) h l (mS V 459 0)).2.1 1471 (G.1 4) = nI (G.1 3 - 1) := entV_71
  have e75 : (entV (G.1 3) (G.1 4) h l (mS V 459 0)).2.1 1475 (G.1 4) = nI (dg l 0 7) := entV_75
  have e76 : (entV (G.1 3) (G.1 4) h l (mS V 459 0)).2.1 1476 (G.1 4) = nI (dg l 7 7) := entV_76
  have el : ∀ u e, e ≠ G.1 4 → (entV (G.1 3) (G.1 4) h l (mS V 459 0)).2.1 u e = V.2.1 u e := fun u e he => entV_l he
  generalize entV (G.1 3) (G.1 4) h l (mS V 459 0) = V' at *
  show (∃ x, x < 10000 ∧ V'.1 460 = nI x) ∧ (∃ x, x < 10000 ∧ V'.1 461 = nI x) ∧ (∀ e, e < G.1 4 + 1 → (∃ k, k < G.1 3 ∧ V'.2.1 1471 e = nI k) ∧ (∃ x, x < 10000000 ∧ V'.2.1 1475 e = nI x) ∧ ∃ x, x < 10000000 ∧ V'.2.1 1476 e = nI x) ∧ (∀ e e', e ≤ e' → e' < G.1 4 + 1 → V'.2.1 1471 e ≤ V'.2.1 1471 e') ∧ ∀ b, b < G.1 3 → ∃ x, x < 10000 ∧ V'.2.1 1465 b = nI x
  rw [v0, v1, eo]
  obtain ⟨w1, w2, w3, w4, w5⟩ := wE
  refine ⟨w1, w2, fun e he => ?_, fun e e' h1 h2 => ?_, w5⟩
  · by_cases c : e = G.1 4
    · subst c
      rw [e71, e75, e76]
      exact ⟨⟨_, by omega, rfl⟩, ⟨_, dg_lt l 0 7, rfl⟩, ⟨_, dg_lt l 7 7, rfl⟩⟩
    · rw [el _ _ c, el _ _ c, el _ _ c]
      exact w3 e (by omega)
  · by_cases c : e' = G.1 4
    · rw [c, e71]
      by_cases c2 : e = G.1 4
      · rw [c2, e71]
        exact nI_le (Nat.le_refl _) (by omega)
      · rw [el _ _ c2]
        obtain ⟨k, hk, ek⟩ := (w3 e (by omega)).1
        rw [ek]
        exact nI_le (by omega) (by omega)
    · rw [el _ _ c, el _ _ (show e ≠ G.1 4 by omega)]
      exact w4 e e' h1 (by omega)
end PD
