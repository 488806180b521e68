/-! THE MODEL'S METHODS over its view: a window -/
/-- row r may go out: as a return, as an entry -/
def cnd (V : MV) (ret : Bool) (b r : Nat) : Prop := (ret = true ∧ V.2.1 1487 r = 2 ∧ V.2.1 1481 r = nI b) ∨ (ret = false ∧ V.2.1 1487 r = 0 ∧ V.2.1 1482 r = nI b ∧ V.2.1 1486 r ≤ V.1 453)
/-- the model's comparison of an older row with a newer one -/
def bef (V : MV) (ret : Bool) (r s : Nat) : Prop := (ret = true ∧ V.2.1 1489 r < V.2.1 1489 s) ∨ (ret = false ∧ ((V.2.1 1486 r = V.2.1 1486 s ∧ V.2.1 1481 r ≤ V.2.1 1481 s) ∨ (¬ V.2.1 1486 r = V.2.1 1486 s ∧ V.2.1 1486 r < V.2.1 1486 s)))
/-- the order in which rows go out -/
def kls (V : MV) (ret : Bool) (m r : Nat) : Prop := (ret = true ∧ V.2.1 1489 m < V.2.1 1489 r) ∨ (ret = false ∧ (V.2.1 1486 m < V.2.1 1486 r ∨ (V.2.1 1486 m = V.2.1 1486 r ∧ (V.2.1 1481 m < V.2.1 1481 r ∨ (V.2.1 1481 m = V.2.1 1481 r ∧ m < r)))))
theorem kls_trans {V : MV} {ret : Bool} {a b c : Nat} (h : kls V ret a b) (h' : kls V ret b c) : kls V ret a c := by
  unfold kls at *
  simp only [Int32.lt_iff_toInt_lt, ← Int32.toInt_inj] at *
  rcases h with ⟨e, h⟩ | ⟨e, h⟩ <;> rcases h' with ⟨e', h'⟩ | ⟨e', h'⟩
  · exact Or.inl ⟨e, by omega⟩
  · rw [e] at e'; cases e'
  · rw [e] at e'; cases e'
  · exact Or.inr ⟨e, by omega⟩
theorem kls_asymm {V : MV} {ret : Bool} {a b : Nat} (h : kls V ret a b) (h' : kls V ret b a) : False := by
  unfold kls at *
  simp only [Int32.lt_iff_toInt_lt, ← Int32.toInt_inj] at *
  rcases h with ⟨e, h⟩ | ⟨e, h⟩ <;> rcases h' with ⟨e', h'⟩ | ⟨e', h'⟩
  · omega
  · rw [e] at e'; cases e'
  · rw [e] at e'; cases e'
  · omega
theorem kls_irr {V : MV} {ret : Bool} {a : Nat} (h : kls V ret a a) : False := kls_asymm h h
section MX
variable {mx : Nat} {A : Nat → Nat} {V : MV} {σ : St}
theorem m_before (hM : MI mx A V σ) {post : Int32 → St → Prop} {ret : Bool} {r s : Nat} (hr : r < 512) (hs : s < 512) (h1 : bef V ret r s → post 1 σ) (h0 : ¬ bef V ret r s → post 0 σ) : wX8_before mx (nI r) (nI s) (bI ret) post σ := by
  unfold wX8_before
  have er : (nI r).toNatClampNeg = r := nI_clamp (by omega)
  have es : (nI s).toNatClampNeg = s := nI_clamp (by omega)
  cases ret with
  | false =>
    refine br_t rfl ⟨hM.mx, hM.arr 1486 (by decide) ⟨vp_in_nI hr (by decide), hM.mx, hM.arr 1486 (by decide) ⟨vp_in_nI hs (by decide), ?_⟩⟩⟩
    rw [er, es, hM.rd 1486 r (by decide), hM.rd 1486 s (by decide)]
    by_cases c : V.2.1 1486 r = V.2.1 1486 s
    · refine br_t c ⟨hM.mx, hM.arr 1481 (by decide) ⟨vp_in_nI hr (by decide), hM.mx, hM.arr 1481 (by decide) ⟨vp_in_nI hs (by decide), ?_⟩⟩⟩
      rw [hM.rd 1481 r (by decide), hM.rd 1481 s (by decide)]
      by_cases c2 : V.2.1 1481 s < V.2.1 1481 r
      · refine br_t c2 (h0 (fun z => ?_))
        rcases z with ⟨z, -⟩ | ⟨-, ⟨-, z⟩ | ⟨z, -⟩⟩
        · cases z
        · exact i32_nlt.mpr z c2
        · exact z c
      · exact br_f c2 (h1 (Or.inr ⟨rfl, Or.inl ⟨c, i32_nlt.mp c2⟩⟩))
    · refine br_f c ⟨hM.mx, hM.arr 1486 (by decide) ⟨vp_in_nI hr (by decide), hM.mx, hM.arr 1486 (by decide) ⟨vp_in_nI hs (by decide), ?_⟩⟩⟩
      rw [hM.rd 1486 r (by decide), hM.rd 1486 s (by decide)]
      by_cases c2 : V.2.1 1486 s ≤ V.2.1 1486 r
      · refine br_t c2 (h0 (fun z => ?_))
        rcases z with ⟨z, -⟩ | ⟨-, ⟨z, -⟩ | ⟨-, z⟩⟩
        · cases z
        · exact c z
        · exact i32_nle.mpr z c2
      · exact br_f c2 (h1 (Or.inr ⟨rfl, Or.inr ⟨c, i32_nle.mp c2⟩⟩))
  | true =>
    refine br_f (by decide) ⟨hM.mx, hM.arr 1489 (by decide) ⟨vp_in_nI hr (by decide), hM.mx, hM.arr 1489 (by decide) ⟨vp_in_nI hs (by decide), ?_⟩⟩⟩
    rw [er, es, hM.rd 1489 r (by decide), hM.rd 1489 s (by decide)]
    by_cases c2 : V.2.1 1489 s ≤ V.2.1 1489 r
    · refine br_t c2 (h0 (fun z => ?_))
      rcases z with ⟨-, z⟩ | ⟨z, -⟩
      · exact i32_nle.mpr z c2
      · cases z
    · exact br_f c2 (h1 (Or.inl ⟨rfl, i32_nle.mp c2⟩))
/-- the least of the rows from i on -/
def lst (V : MV) (ret : Bool) (b nr i : Nat) (o : Option Nat) : Prop := (o = none ∧ ∀ r, i ≤ r → r < nr → ¬ cnd V ret b r) ∨ ∃ m, o = some m ∧ i ≤ m ∧ m < nr ∧ cnd V ret b m ∧ ∀ r, i ≤ r → r < nr → r ≠ m → cnd V ret b r → kls V ret m r
theorem m_first_10 (hM : MI mx A V σ) {post : Int32 → St → Prop} {ret : Bool} {b nr : Nat} (hb : b < 5) (h512 : nr ≤ 512) (hd : ret = true → ∀ r s, r < nr → s < nr → r ≠ s → cnd V ret b r → cnd V ret b s → ¬ V.2.1 1489 r = V.2.1 1489 s) (hp : ∀ o, lst V ret b nr 0 o → post (oI o) σ) : ∀ i o, i ≤ nr → lst V ret b nr i o → wX8_first_10 mx post (i + 1) (nI b) (bI ret) (oI o) (nI i + (-1 : Int32)) σ := by
  intro i
  induction i with
  | zero =>
    intro o hi ho
    unfold wX8_first_10
    exact br_t (show nI 0 + (-1 : Int32) < 0 by decide) (hp o ho)
  | succ i ih =>
    intro o hi ho
    have ec : nI (i + 1) + (-1 : Int32) = nI i := pk_m1 i
    rw [ec]
    have ei : (nI i).toNatClampNeg = i := nI_clamp (by omega)
    have n89f : ¬ cnd V ret b i → wX8_first_89 (wX8_first_10 mx post (i + 1)) mx post (nI b) (bI ret) (oI o) (nI i) 0 σ := fun hc => by
      unfold wX8_first_89
      refine br_t rfl (nm_e (ih o (by omega) ?_))
      rcases ho with ⟨h1, h2⟩ | ⟨m, h1, h2, h3, h4, h5⟩
      · refine Or.inl ⟨h1, fun r hr1 hr2 => ?_⟩
        by_cases e : r = i
        · rw [e]; exact hc
        · exact h2 r (by omega) hr2
      · refine Or.inr ⟨m, h1, by omega, h3, h4, fun r hr1 hr2 hr3 hr4 => ?_⟩
        by_cases e : r = i
        · rw [e] at hr4; exact absurd hr4 hc
        · exact h5 r (by omega) hr2 hr3 hr4
    have n89t : cnd V ret b i → wX8_first_89 (wX8_first_10 mx post (i + 1)) mx post (nI b) (bI ret) (oI o) (nI i) 1 σ := fun hc => by
      unfold wX8_first_89
      refine br_f (by decide) ?_
      rcases ho with ⟨h1, h2⟩ | ⟨m, h1, h2, h3, h4, h5⟩
      · subst h1
        refine br_t (show (-1 : Int32) < 0 by decide) ?_
        unfold wX8_first_111
        refine nm_e (ih (some i) (by omega) (Or.inr ⟨i, rfl, Nat.le_refl _, by omega, hc, fun r hr1 hr2 hr3 hr4 => ?_⟩))
        exact absurd hr4 (h2 r (by omega) hr2)
      · subst h1
        refine br_f (nI_pos (by omega)) ⟨hM.mx, m_before hM (by omega) (by omega) (fun hbf => ?_) (fun hbf => ?_)⟩
        · refine br_f (by decide) ?_
          unfold wX8_first_111
          have him : kls V ret i m := by
            rcases hbf with ⟨e, z⟩ | ⟨e, ⟨z1, z2⟩ | ⟨z1, z2⟩⟩
            · exact Or.inl ⟨e, z⟩
            · refine Or.inr ⟨e, Or.inr ⟨z1, ?_⟩⟩
              rw [Int32.le_iff_toInt_le] at z2
              rw [Int32.lt_iff_toInt_lt, ← Int32.toInt_inj]
              omega
            · exact Or.inr ⟨e, Or.inl z2⟩
          refine nm_e (ih (some i) (by omega) (Or.inr ⟨i, rfl, Nat.le_refl _, by omega, hc, fun r hr1 hr2 hr3 hr4 => ?_⟩))
          by_cases e : r = m
          · rw [e]; exact him
          · exact kls_trans him (h5 r (by omega) hr2 e hr4)
        · refine br_t rfl (nm_e (ih (some m) (by omega) (Or.inr ⟨m, rfl, by omega, h3, h4, fun r hr1 hr2 hr3 hr4 => ?_⟩)))
          by_cases e : r = i
          · rw [e] at hr4 hr3 ⊢
            cases ret with
            | true =>
              refine Or.inl ⟨rfl, ?_⟩
              have n1 : ¬ V.2.1 1489 i < V.2.1 1489 m := fun z => hbf (Or.inl ⟨rfl, z⟩)
              have n2 := hd rfl i m (by omega) h3 hr3 hr4 h4
              rw [Int32.lt_iff_toInt_lt] at n1 ⊢
              rw [← Int32.toInt_inj] at n2
              omega
            | false =>
              refine Or.inr ⟨rfl, ?_⟩
              by_cases c : V.2.1 1486 i = V.2.1 1486 m
              · have n1 : ¬ V.2.1 1481 i ≤ V.2.1 1481 m := fun z => hbf (Or.inr ⟨rfl, Or.inl ⟨c, z⟩⟩)
                exact Or.inr ⟨c.symm, Or.inl (i32_nle.mp n1)⟩
              · have n1 : ¬ V.2.1 1486 i < V.2.1 1486 m := fun z => hbf (Or.inr ⟨rfl, Or.inr ⟨c, z⟩⟩)
                refine Or.inl ?_
                rw [Int32.lt_iff_toInt_lt] at n1 ⊢
                rw [← Int32.toInt_inj] at c
                omega
          · exact h5 r (by omega) hr2 hr3 hr4
    unfold wX8_first_10
    refine br_f (nI_pos (by omega)) ?_
    cases ret with
    | false =>
      refine br_t rfl ⟨hM.mx, hM.arr 1487 (by decide) ⟨vp_in_nI (by omega) (by decide), ?_⟩⟩
      rw [ei, hM.rd 1487 i (by decide)]
      have nf : ¬ cnd V false b i → wX8_first_88 (wX8_first_10 mx post (i + 1)) mx post (nI b) (bI false) (oI o) (nI i) σ := fun hc => by
        unfold wX8_first_88
        exact n89f hc
      by_cases c : V.2.1 1487 i = 0
      rotate_left
      · refine br_f c (nf (fun z => ?_))
        rcases z with ⟨z, -⟩ | ⟨-, z, -⟩
        · cases z
        · exact c z
      refine br_t c ⟨hM.mx, hM.arr 1482 (by decide) ⟨vp_in_nI (by omega) (by decide), ?_⟩⟩
      rw [hM.rd 1482 i (by decide)]
      by_cases c2 : V.2.1 1482 i = nI b
      rotate_left
      · refine br_f c2 (nf (fun z => ?_))
        rcases z with ⟨z, -⟩ | ⟨-, -, z, -⟩
        · cases z
        · exact c2 z
      refine br_t c2 ⟨hM.mx, hM.arr 1486 (by decide) ⟨vp_in_nI (by omega) (by decide), hM.mx, ?_⟩⟩
      rw [hM.rd 1486 i (by decide), hM.sc]
      by_cases c3 : V.1 453 < V.2.1 1486 i
      · refine br_t c3 (nf (fun z => ?_))
        rcases z with ⟨z, -⟩ | ⟨-, -, -, z⟩
        · cases z
        · exact i32_nle.mpr c3 z
      · exact br_f c3 (n89t (Or.inr ⟨rfl, c, c2, i32_nlt.mp c3⟩))
    | true =>
      refine br_f (by decide) ⟨hM.mx, hM.arr 1487 (by decide) ⟨vp_in_nI (by omega) (by decide), ?_⟩⟩
      rw [ei, hM.rd 1487 i (by decide)]
      by_cases c : V.2.1 1487 i = 2
      rotate_left
      · refine br_f c (n89f (fun z => ?_))
        rcases z with ⟨-, z, -⟩ | ⟨z, -⟩
        · exact c z
        · cases z
      refine br_t c ⟨hM.mx, hM.arr 1481 (by decide) ⟨vp_in_nI (by omega) (by decide), ?_⟩⟩
      rw [hM.rd 1481 i (by decide)]
      by_cases c2 : V.2.1 1481 i = nI b
      · exact br_t c2 (n89t (Or.inl ⟨rfl, c, c2⟩))
      · refine br_f c2 (n89f (fun z => ?_))
        rcases z with ⟨-, -, z⟩ | ⟨z, -⟩
        · exact c2 z
        · cases z
theorem m_first (hM : MI mx A V σ) {post : Int32 → St → Prop} {ret : Bool} {b nr : Nat} (hb : b < 5) (hnr : V.1 479 = nI nr) (h512 : nr ≤ 512) (hd : ret = true → ∀ r s, r < nr → s < nr → r ≠ s → cnd V ret b r → cnd V ret b s → ¬ V.2.1 1489 r = V.2.1 1489 s) (hp : ∀ o, lst V ret b nr 0 o → post (oI o) σ) : wX8_first mx (nI b) (bI ret) post σ := by
  unfold wX8_first
  refine ⟨hM.mx, ?_⟩
  rw [hM.sc, hnr]
  refine nm_r (e' := nI nr + (-1 : Int32)) ?_ ⟨nr + 1, m_first_10 hM hb h512 hd hp nr none (Nat.le_refl _) (Or.inl ⟨rfl, fun r h1 h2 => by omega⟩)⟩
  rw [Int32.sub_eq_add_neg]
/-- the rows that may go out, in their order -/
def SC (V : MV) (ret : Bool) (b nr : Nat) (L : List Nat) : Prop := (∀ r, r ∈ L ↔ r < nr ∧ cnd V ret b r) ∧ L.Pairwise (kls V ret)
theorem SC.dist {b nr : Nat} {L : List Nat} (h : SC V true b nr L) : ∀ r s, r < nr → s < nr → r ≠ s → cnd V true b r → cnd V true b s → ¬ V.2.1 1489 r = V.2.1 1489 s := by
  intro r s hr hs hne hcr hcs
  have m1 := (h.1 r).mpr ⟨hr, hcr⟩
  have m2 := (h.1 s).mpr ⟨hs, hcs⟩
  have key : ∀ L : List Nat, L.Pairwise (kls V true) → r ∈ L → s ∈ L → kls V true r s ∨ kls V true s r := by
    intro L
    induction L with
    | nil => intro _ h1; cases h1
    | cons x L ih =>
      intro hp h1 h2
      rw [List.pairwise_cons] at hp
      rcases List.mem_cons.mp h1 with e1 | h1 <;> rcases List.mem_cons.mp h2 with e2 | h2
      · exact absurd (e1.trans e2.symm) hne
      · rw [e1]; exact Or.inl (hp.1 s h2)
      · rw [e2]; exact Or.inr (hp.1 r h1)
      · exact ih hp.2 h1 h2
  intro e
  rcases key L h.2 m1 m2 with (⟨-, z⟩ | ⟨z, -⟩) | (⟨-, z⟩ | ⟨z, -⟩)
  · rw [e, Int32.lt_iff_toInt_lt] at z
    omega
  · cases z
  · rw [e, Int32.lt_iff_toInt_lt] at z
    omega
  · cases z
theorem SC.head {ret : Bool} {b nr : Nat} {L : List Nat} (h : SC V ret b nr L) {o : Option Nat} (ho : lst V ret b nr 0 o) : o = L.head? := by
  cases L with
  | nil =>
    rcases ho with ⟨h1, -⟩ | ⟨m, h1, h2, h3, h4, h5⟩
    · exact h1
    · have := (h.1 m).mpr ⟨h3, h4⟩
      cases this
  | cons x L =>
    have hx := (h.1 x).mp List.mem_cons_self
    rcases ho with ⟨h1, h2⟩ | ⟨m, h1, h2, h3, h4, h5⟩
    · exact absurd hx.2 (h2 x (Nat.zero_le _) hx.1)
    · rw [h1]
      by_cases e : x = m
      · rw [e]; rfl
      · have k1 := h5 x (Nat.zero_le _) hx.1 e hx.2
        have hm := (h.1 m).mpr ⟨h3, h4⟩
        rcases List.mem_cons.mp hm with e2 | hm
        · exact absurd e2.symm e
        · exact absurd k1 (fun z => kls_asymm z ((List.pairwise_cons.mp h.2).1 m hm))
end MX
theorem at_b (b i : Nat) : (512 : Int32) * nI b + nI i = nI (512 * b + i) := by
  rw [show (512 : Int32) * nI b = nI (512 * b) from pk_mul 512 b, nI_add]
theorem fold_keep {α : Type} (F : MV → α) {f : MV → Nat → MV} (h : ∀ V r, F (f V r) = F V) : ∀ (l : List Nat) (V : MV), F (l.foldl f V) = F V := by
  intro l
  induction l with
  | nil => intro V; rfl
  | cons x l ih => intro V; exact (ih _).trans (h V x)
section MXb
variable {mx : Nat} {A : Nat → Nat} {V : MV} {σ : St}
theorem m_allDone_4 (hM : MI mx A V σ) {post : Int32 → St → Prop} {b len : Nat} (hb : b < 5) (hlen : V.2.1 1491 b = nI len) (h512 : len ≤ 512) (h1 : (∀ k, k < len → ¬ V.2.1 1494 (512 * b + k) ≤ 0) → post 1 σ) (h0 : (¬ ∀ k, k < len → ¬ V.2.1 1494 (512 * b + k) ≤ 0) → post 0 σ) : ∀ d i (f : Bool), i + d = len → (f = true ↔ ∀ k, k < i → ¬ V.2.1 1494 (512 * b + k) ≤ 0) → wX8_allDone_4 mx post (d + 1) (nI b) (bI f) (nI i) σ := by
  intro d
  induction d with
  | zero =>
    intro i f hi hf
    have : i = len := by omega
    subst this
    unfold wX8_allDone_4
    refine ⟨hM.mx, hM.arr 1491 (by decide) ⟨vp_in_nI hb (by decide), ?_⟩⟩
    rw [nI_clamp (show b < 2 ^ 31 by omega), hM.rd 1491 b (by decide), hlen]
    refine pk_le i i (fun _ => ?_) (fun hc => absurd hc (by omega))
    cases f with
    | true => exact ⟨Or.inr rfl, h1 (hf.mp rfl)⟩
    | false => exact ⟨Or.inl rfl, h0 (fun z => by have := hf.mpr z; cases this)⟩
  | succ d ih =>
    intro i f hi hf
    have k37 : (f = false ∨ V.2.1 1494 (512 * b + i) ≤ 0) → wX8_allDone_37 (wX8_allDone_4 mx post (d + 1)) mx post (nI b) (nI i) σ := fun hc => by
      unfold wX8_allDone_37 wX8_allDone_38
      refine nm_r (nI_1 i) (ih (i + 1) false (by omega) ⟨fun z => (by cases z), fun z => ?_⟩)
      rcases hc with hc | hc
      · have := hf.mpr (fun k hk => z k (by omega))
        rw [hc] at this
        cases this
      · exact absurd hc (z i (by omega))
    unfold wX8_allDone_4
    refine ⟨hM.mx, hM.arr 1491 (by decide) ⟨vp_in_nI hb (by decide), ?_⟩⟩
    rw [nI_clamp (show b < 2 ^ 31 by omega), hM.rd 1491 b (by decide), hlen]
    refine pk_le len i (fun hc => absurd hc (by omega)) (fun _ => ?_)
    cases f with
    | false => exact br_t rfl (k37 (Or.inl rfl))
    | true =>
      refine br_f (by decide) ⟨hM.mx, hM.arr 1494 (by decide) ⟨?_, ?_⟩⟩
      · rw [at_b]; exact vp_in_nI (by omega) (by decide)
      rw [at_b, nI_clamp (by omega), hM.rd 1494 _ (by decide)]
      by_cases c : V.2.1 1494 (512 * b + i) ≤ 0
      · exact br_t c (k37 (Or.inr c))
      · refine br_f c ?_
        unfold wX8_allDone_38
        refine nm_r (nI_1 i) (ih (i + 1) true (by omega) ⟨fun _ k hk => ?_, fun _ => rfl⟩)
        by_cases e : k = i
        · rw [e]; exact c
        · exact hf.mp rfl k (by omega)
theorem m_allDone (hM : MI mx A V σ) {post : Int32 → St → Prop} {b len : Nat} (hb : b < 5) (hlen : V.2.1 1491 b = nI len) (h512 : len ≤ 512) (h1 : (∀ k, k < len → ¬ V.2.1 1494 (512 * b + k) ≤ 0) → post 1 σ) (h0 : (¬ ∀ k, k < len → ¬ V.2.1 1494 (512 * b + k) ≤ 0) → post 0 σ) : wX8_allDone mx (nI b) post σ := ⟨len + 1, m_allDone_4 hM hb hlen h512 h1 h0 len 0 true (by omega) ⟨fun _ k hk => absurd hk (Nat.not_lt_zero k), fun _ => rfl⟩⟩
theorem bI_isB (r : Bool) : isB (bI r) := by cases r <;> first | exact Or.inl rfl | exact Or.inr rfl
theorem m_take (hM : MI mx A V σ) {post : St → Prop} {ret : Bool} {b r c g t : Nat} (hb : b < 5) (hr : r < 512) (hc : V.2.1 1491 b = nI c) (h512 : c < 512) (hg : V.2.1 1481 r = nI g) (hg5 : g < 5) (ht : V.2.1 1482 r = nI t) (ht5 : t < 5) (hp : ∀ σ', MI mx A (tkV b ret V r) σ' → AG cTag σ σ' → post σ') : wX8_take mx (nI b) (nI r) (bI ret) post σ := by
  have eb : (nI b).toNatClampNeg = b := nI_clamp (by omega)
  have er : (nI r).toNatClampNeg = r := nI_clamp (by omega)
  have ec : (V.2.1 1491 b).toNatClampNeg = c := by rw [hc, nI_clamp (by omega)]
  have eg : (V.2.1 1481 r).toNatClampNeg = g := by rw [hg, nI_clamp (by omega)]
  have et : (V.2.1 1482 r).toNatClampNeg = t := by rw [ht, nI_clamp (by omega)]
  have ea : (nI (512 * b + c)).toNatClampNeg = 512 * b + c := nI_clamp (by omega)
  have va : vp_in (nI (512 * b + c)) 2560 := vp_in_nI (by omega) (by decide)
  unfold tkV at hp
  rw [ec, eg, et] at hp
  unfold wX8_take
  refine ⟨hM.mx, hM.arr 1491 (by decide) ⟨vp_in_nI hb (by decide), nm_r (e' := nI (512 * b + c)) (by rw [eb, hM.rd 1491 b (by decide), hc, at_b]) ⟨hM.mx, hM.arr 1492 (by decide) ⟨va, ?_⟩⟩⟩⟩
  refine hM.setA AG.rfl' 1492 (by decide) ea rfl (fun σ1 h1 g1 => ⟨h1.mx, h1.arr 1493 (by decide) ⟨va, bI_isB ret, ?_⟩⟩)
  refine h1.setA g1 1493 (by decide) ea rfl (fun σ2 h2 g2 => ⟨h2.mx, h2.arr 1494 (by decide) ⟨va, ?_⟩⟩)
  refine h2.setA g2 1494 (by decide) ea rfl (fun σ3 h3 g3 => ⟨h3.mx, h3.arr 1491 (by decide) ⟨vp_in_nI hb (by decide), h3.kd 1491 (by decide), vp_in_nI hb (by decide), ?_⟩⟩)
  refine h3.setA g3 1491 (by decide) (y := V.2.1 1491 b + 1) eb (by rw [eb, h3.rd 1491 b (by decide)]; rfl) (fun σ4 h4 g4 => ⟨h4.mx, ?_⟩)
  have k62 : wX8_take_62 mx post (nI r) (bI ret) (some (A 1487)) (nI r) (if ret then 3 else 1) σ4 := by
    unfold wX8_take_62
    refine ⟨A 1487, rfl, h4.kd 1487 (by decide), vp_in_nI hr (by decide), ?_⟩
    refine h4.setA g4 1487 (by decide) er rfl (fun σ5 h5 g5 => ⟨h5.mx, h5.arr 1480 (by decide) ⟨vp_in_nI hr (by decide), ?_⟩⟩)
    rw [er, h5.rd 1480 r (by decide)]
    have e80 : (mA (mA (mA (mA (mA V 1492 (512 * b + c) (nI r)) 1493 (512 * b + c) (bI ret)) 1494 (512 * b + c) 0) 1491 b (V.2.1 1491 b + 1)) 1487 r (if ret = true then 3 else 1)).2.1 1480 r = V.2.1 1480 r := rfl
    rw [e80]
    have k100 : ∀ y0 : Int64, y0 = gnV V r ret → wX8_take_100 mx post (nI r) y0 σ5 := fun y0 hy => by
      subst hy
      unfold wX8_take_100
      refine ⟨h5.mx, fun r56 e56 => ⟨h5.mx, h5.arr 1481 (by decide) ⟨vp_in_nI hr (by decide), A 1452, e56.trans (h5.rf 1452 (by decide)), h5.kd 1452 (by decide), ?_⟩⟩⟩
      have eg5 : sI σ5 1481 (A 1481) (nI r).toNatClampNeg = nI g := by rw [er, h5.rd 1481 r (by decide)]; exact hg
      rw [eg5, nI_clamp (show g < 2 ^ 31 by omega)]
      refine ⟨vp_in_nI hg5 (by decide), h5.kd 1452 (by decide), vp_in_nI hg5 (by decide), ?_⟩
      refine h5.setJ g5 1452 (by decide) rfl (by rw [h5.rj 1452 g (by decide)]) (fun σ6 h6 g6 => ⟨h6.mx, fun r69 e69 => ⟨h6.mx, h6.arr 1482 (by decide) ⟨vp_in_nI hr (by decide), A 1452, e69.trans (h6.rf 1452 (by decide)), h6.kd 1452 (by decide), ?_⟩⟩⟩)
      have et6 : sI σ6 1482 (A 1482) (nI r).toNatClampNeg = nI t := by rw [er, h6.rd 1482 r (by decide)]; exact ht
      rw [et6, nI_clamp (show t < 2 ^ 31 by omega)]
      refine ⟨vp_in_nI ht5 (by decide), h6.kd 1452 (by decide), vp_in_nI ht5 (by decide), ?_⟩
      exact h6.setJ g6 1452 (by decide) rfl (by rw [h6.rj 1452 t (by decide)]) (fun σ7 h7 g7 => hp σ7 h7 g7)
    have k78 : ∀ f : Bool, (f = true ↔ V.2.1 1480 r = 2) → wX8_take_78 mx post (nI r) (bI ret) (bI f) σ5 := fun f hf => by
      unfold wX8_take_78
      have e84 : sI σ5 1484 (A 1484) r = V.2.1 1484 r := h5.rd 1484 r (by decide)
      by_cases c : f = ret
      · refine br_t (by rw [c]) ⟨h5.mx, h5.arr 1484 (by decide) ⟨vp_in_nI hr (by decide), ?_⟩⟩
        refine k100 _ ?_
        rw [er, e84]
        unfold gnV
        rw [if_pos (by rw [← c]; exact hf.symm)]
      · refine br_f (fun z => c (by cases f <;> cases ret <;> first | rfl | (exact absurd z (by decide)))) ⟨h5.mx, h5.arr 1484 (by decide) ⟨vp_in_nI hr (by decide), ?_⟩⟩
        refine k100 _ ?_
        rw [er, e84]
        unfold gnV
        rw [if_neg (fun z => c (by cases f <;> cases ret <;> first | rfl | simp_all))]
    by_cases c2 : V.2.1 1480 r = 2
    · exact br_t c2 (k78 true ⟨fun _ => c2, fun _ => rfl⟩)
    · exact br_f c2 (k78 false ⟨fun z => (by cases z), fun z => absurd z c2⟩)
  intro r36 e36
  have e36 : r36 = some (A 1487) := e36.trans (h4.rf 1487 (by decide))
  subst e36
  cases ret with
  | false => exact br_t rfl k62
  | true => exact br_f (by decide) k62
/-- what a window's loop needs to know -/
def WK (b nr c : Nat) (V : MV) : Prop := V.1 479 = nI nr ∧ V.2.1 1491 b = nI c ∧ ∀ r, r < nr → ∃ g t, g < 5 ∧ t < 5 ∧ V.2.1 1481 r = nI g ∧ V.2.1 1482 r = nI t
theorem WK.tk {b nr c r : Nat} {ret : Bool} (h : WK b nr c V) : WK b nr (c + 1) (tkV b ret V r) := by
  refine ⟨h.1, ?_, h.2.2⟩
  have e : (tkV b ret V r).2.1 1491 b = V.2.1 1491 b + 1 := by
    unfold tkV
    simp [mJ_2, mA_2]
  rw [e, h.2.1, nI_1]
theorem tk_1487 (b : Nat) (ret : Bool) (V : MV) (r j : Nat) : (tkV b ret V r).2.1 1487 j = if j = r then (if ret then 3 else 1) else V.2.1 1487 j := by
  unfold tkV
  show (if 1487 = 1487 ∧ j = r then _ else V.2.1 1487 j) = _
  by_cases h : j = r
  · rw [if_pos ⟨rfl, h⟩, if_pos h]
  · rw [if_neg (fun z => h z.2), if_neg h]
theorem SC.tk {ret : Bool} {b nr r : Nat} {L : List Nat} (h : SC V ret b nr (r :: L)) : SC (tkV b ret V r) ret b nr L := by
  have hp := List.pairwise_cons.mp h.2
  refine ⟨fun s => ?_, hp.2⟩
  have hc : cnd (tkV b ret V r) ret b s ↔ s ≠ r ∧ cnd V ret b s := by
    unfold cnd
    rw [tk_1487]
    by_cases e : s = r
    · subst e
      rw [if_pos rfl]
      cases ret with
      | true =>
        refine ⟨fun z => ?_, fun z => absurd rfl z.1⟩
        rcases z with ⟨-, z, -⟩ | ⟨z, -⟩
        · exact absurd z (by decide)
        · cases z
      | false =>
        refine ⟨fun z => ?_, fun z => absurd rfl z.1⟩
        rcases z with ⟨z, -⟩ | ⟨-, z, -⟩
        · cases z
        · exact absurd z (by decide)
    · rw [if_neg e]
      exact ⟨fun z => ⟨e, z⟩, fun z => z.2⟩
  rw [hc]
  constructor
  · intro hs
    obtain ⟨h1, h2⟩ := (h.1 s).mp (List.mem_cons_of_mem _ hs)
    exact ⟨h1, fun e => kls_irr (hp.1 s hs |> fun z => by rw [e] at z; exact z), h2⟩
  · intro ⟨h1, h2, h3⟩
    rcases List.mem_cons.mp ((h.1 s).mpr ⟨h1, h3⟩) with e | e
    · exact absurd e h2
    · exact e
theorem m_window_56 {σ0 : St} {k33 : Int32 → Int32 → St → Prop} {post : Int32 → St → Prop} {ret : Bool} {b nr : Nat} {x2 : Int32} (hb : b < 5) (h512 : nr ≤ 512) : ∀ (L : List Nat) (V : MV) (σ : St) (c : Nat), MI mx A V σ → AG cTag σ0 σ → SC V ret b nr L → WK b nr c V → c + L.length ≤ 512 → (∀ σ', MI mx A (L.foldl (tkV b ret) V) σ' → AG cTag σ0 σ' → k33 (nI b) (x2 + 1) σ') → wX8_window_56 k33 mx post (L.length + 1) (nI b) x2 (bI ret) (oI L.head?) σ := by
  intro L
  induction L with
  | nil =>
    intro V σ c hM g hs hw hc hp
    unfold wX8_window_56
    exact br_t (show (-1 : Int32) < 0 by decide) (nm_e (hp σ hM g))
  | cons r L ih =>
    intro V σ c hM g hs hw hc hp
    have hr := ((hs.1 r).mp List.mem_cons_self).1
    obtain ⟨gg, tt, w1, w2, w3, w4⟩ := hw.2.2 r hr
    rw [List.length_cons] at hc
    unfold wX8_window_56
    refine br_f (nI_pos (n := r) (by omega)) ⟨hM.mx, m_take (r := r) hM hb (by omega) hw.2.1 (by omega) w3 w1 w4 w2 (fun σ1 h1 g1 => ⟨h1.mx, ?_⟩)⟩
    refine m_first h1 hb (hw.tk (r := r)).1 h512 (fun e => ?_) (fun o ho => ?_)
    · subst e
      exact hs.tk.dist
    · rw [hs.tk.head ho]
      exact ih _ σ1 (c + 1) h1 (g.trans g1) hs.tk hw.tk (by omega) hp
theorem tkF_1487 (b : Nat) (ret : Bool) (j : Nat) : ∀ (L : List Nat) (V : MV), (L.foldl (tkV b ret) V).2.1 1487 j = if j ∈ L then (if ret then 3 else 1) else V.2.1 1487 j := by
  intro L
  induction L with
  | nil => intro V; simp
  | cons x L ih =>
    intro V
    show (L.foldl (tkV b ret) (tkV b ret V x)).2.1 1487 j = _
    rw [ih, tk_1487]
    by_cases h1 : j ∈ L
    · rw [if_pos h1, if_pos (List.mem_cons_of_mem _ h1)]
    · rw [if_neg h1]
      by_cases h2 : j = x
      · rw [if_pos h2, if_pos (show j ∈ x :: L by rw [h2]; exact List.mem_cons_self)]
      · rw [if_neg h2, if_neg (fun z => (List.mem_cons.mp z).elim h2 h1)]
theorem SC.after {b nr : Nat} {L D : List Nat} (hL : ∀ r, r ∈ L → V.2.1 1487 r = 2) (h : SC V false b nr D) : SC (L.foldl (tkV b true) V) false b nr D := by
  have e1 : (L.foldl (tkV b true) V).2.1 1482 = V.2.1 1482 := fold_keep (fun V => V.2.1 1482) (f := tkV b true) (fun _ _ => rfl) L V
  have e2 : (L.foldl (tkV b true) V).2.1 1486 = V.2.1 1486 := fold_keep (fun V => V.2.1 1486) (f := tkV b true) (fun _ _ => rfl) L V
  have e3 : (L.foldl (tkV b true) V).2.1 1481 = V.2.1 1481 := fold_keep (fun V => V.2.1 1481) (f := tkV b true) (fun _ _ => rfl) L V
  have e4 : (L.foldl (tkV b true) V).2.1 1489 = V.2.1 1489 := fold_keep (fun V => V.2.1 1489) (f := tkV b true) (fun _ _ => rfl) L V
  have e5 : (L.foldl (tkV b true) V).1 = V.1 := fold_keep (fun V => V.1) (f := tkV b true) (fun _ _ => rfl) L V
  refine ⟨fun r => ?_, ?_⟩
  · rw [h.1 r]
    unfold cnd
    rw [e1, e2, e5, tkF_1487]
    by_cases c : r ∈ L
    · rw [if_pos c, hL r c]
      simp
    · rw [if_neg c]
      simp
  · have ek : kls (L.foldl (tkV b true) V) false = kls V false := by
      funext m r
      unfold kls
      rw [e2, e3, e4]
    rw [ek]
    exact h.2
theorem m_window (hM : MI mx A V σ) {post : Int32 → St → Prop} {nb nr len : Nat} (p : Int32) (hnb : V.1 450 = nI nb) (h5 : nb ≤ 5) (h256 : nr ≤ 256) (hbad : (∀ k, k < nb → p ≠ nI k) → post (-1) σ)
    (hgo : ∀ b, b < nb → p = nI b → ∃ len RL DL, V.2.1 1491 b = nI len ∧ len ≤ 512 ∧ SC V true b nr RL ∧ SC V false b nr DL ∧ RL.length + DL.length ≤ 512 ∧ V.1 479 = nI nr ∧ (∀ r, r < nr → ∃ g t, g < 5 ∧ t < 5 ∧ V.2.1 1481 r = nI g ∧ V.2.1 1482 r = nI t) ∧
      ((¬ ∀ k, k < len → ¬ V.2.1 1494 (512 * b + k) ≤ 0) → post (-4) σ) ∧ ((∀ k, k < len → ¬ V.2.1 1494 (512 * b + k) ≤ 0) → ∀ σ', MI mx A (DL.foldl (tkV b false) (RL.foldl (tkV b true) (mA V 1491 b 0))) σ' → AG cTag σ σ' → post (nI (RL.length + DL.length)) σ')) : wX8_window mx p post σ := by
  unfold wX8_window
  refine ⟨hM.mx, ?_⟩
  rw [hM.sc, hnb]
  rcases nI_lt_cases p nb (by omega) with ⟨b, hb, rfl⟩ | hr
  rotate_left
  · refine m_within_f hr (br_t rfl (hbad (fun k hk e => ?_)))
    subst e
    rcases hr with h | ⟨h, h2⟩
    · exact nI_pos (n := k) (by omega) h
    · exact nI_ge hk (by omega) h2
  obtain ⟨len, RL, DL, q1, q2, q3, q4, q5, q6, q7, q8, q9⟩ := hgo b hb rfl
  refine m_within_t hb (by omega) rfl (br_f (by decide) ⟨hM.mx, m_allDone hM (by omega) q1 q2 (fun hd => ?_) (fun hd => br_t rfl (q8 hd))⟩)
  refine br_f (by decide) ⟨hM.mx, hM.arr 1491 (by decide) ⟨vp_in_nI (by omega) (by decide), ?_⟩⟩
  rw [nI_clamp (show b < 2 ^ 31 by omega)]
  refine hM.setA AG.rfl' 1491 (by decide) rfl rfl (fun σ1 h1 g1 => ⟨3, ?_⟩)
  have s1 : SC (mA V 1491 b 0) true b nr RL := q3
  have s2 : SC (mA V 1491 b 0) false b nr DL := q4
  have w1 : WK b nr 0 (mA V 1491 b 0) := ⟨q6, by rw [mA_2, if_pos ⟨rfl, rfl⟩]; exact nI_0.symm, q7⟩
  have hRL : ∀ r, r ∈ RL → (mA V 1491 b 0).2.1 1487 r = 2 := fun r hr => by
    rcases ((s1.1 r).mp hr).2 with ⟨-, z, -⟩ | ⟨z, -⟩
    · exact z
    · cases z
  have wf : ∀ (ret : Bool) (L : List Nat) (V : MV) (c : Nat), WK b nr c V → WK b nr (c + L.length) (L.foldl (tkV b ret) V) := by
    intro ret L
    induction L with
    | nil => intro V c h; exact h
    | cons x L ih =>
      intro V c h
      have := ih _ (c + 1) (h.tk (ret := ret) (r := x))
      rw [List.length_cons, show c + (L.length + 1) = c + 1 + L.length by omega]
      exact this
  have w2 := wf true RL _ 0 w1
  have w3 := wf false DL _ _ w2
  show wX8_window_33 mx post (2 + 1) (nI b) (nI 0) σ1
  unfold wX8_window_33
  refine br_f (show ¬ nI 2 ≤ nI 0 by decide) (br_t rfl ?_)
  unfold wX8_window_47
  refine ⟨h1.mx, m_first (ret := true) h1 (by omega) w1.1 (by omega) (fun _ => s1.dist) (fun o ho => ⟨RL.length + 1, ?_⟩)⟩
  rw [s1.head ho]
  refine m_window_56 (ret := true) (by omega) (by omega) RL _ σ1 0 h1 g1 s1 w1 (by omega) (fun σ2 h2 g2 => ?_)
  show wX8_window_33 mx post (1 + 1) (nI b) (nI 0 + 1) σ2
  rw [nI_1]
  unfold wX8_window_33
  refine br_f (show ¬ nI 2 ≤ nI (0 + 1) by decide) (br_f (by decide) ?_)
  have s3 := SC.after hRL s2
  unfold wX8_window_47
  refine ⟨h2.mx, m_first (ret := false) h2 (by omega) w2.1 (by omega) (fun z => (by cases z)) (fun o ho => ⟨DL.length + 1, ?_⟩)⟩
  rw [s3.head ho]
  refine m_window_56 (ret := false) (by omega) (by omega) DL _ σ2 _ h2 g2 s3 w2 (by omega) (fun σ3 h3 g3 => ?_)
  show wX8_window_33 mx post (0 + 1) (nI b) (nI (0 + 1) + 1) σ3
  rw [nI_1]
  unfold wX8_window_33
  refine br_t (show nI 2 ≤ nI (0 + 1 + 1) by decide) ⟨h3.mx, h3.arr 1491 (by decide) ⟨vp_in_nI (by omega) (by decide), ?_⟩⟩
  rw [nI_clamp (show b < 2 ^ 31 by omega), h3.rd 1491 b (by decide), w3.2.1, Nat.zero_add]
  exact q9 hd σ3 h3 g3
end MXb
