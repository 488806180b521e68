/-! DAY, SHUT, OPEN, JOIN -/
/-- the layout with new places -/
def gL (L : LY) (G : GH) (S : Nat → Bool) (N : Nat → Nat) : LY := fun t i => if S t = true ∧ i = cnt G t then N t else L t i
section GW
variable {L : LY} {cx mx : Nat} {σ σ' : St} {V : MV} {G : GH} {n : Nat}
theorem gL_old (S : Nat → Bool) (N : Nat → Nat) {t i : Nat} (h : i < cnt G t) : gL L G S N t i = L t i := if_neg (fun z => by omega)
theorem gL_new (S : Nat → Bool) (N : Nat → Nat) {t : Nat} (h : S t = true) : gL L G S N t (cnt G t) = N t := if_pos ⟨h, rfl⟩
theorem cK.grow (h : cK L cx σ G) (S : Nat → Bool) (N : Nat → Nat) (G' : GH) (hc : ∀ t, S t = true → cnt G' t = cnt G t + 1) (hc' : ∀ t, S t = false → cnt G' t = cnt G t) (hN0 : ∀ t, S t = true → ∀ t' i', i' < cnt G t' → L t' i' ≠ N t) (hNk : ∀ t, S t = true → sK σ' (N t) = kd t (cnt G t)) (hNi : ∀ t t', S t = true → S t' = true → N t = N t' → t = t') (hold : ∀ a, sK σ a ≠ 0 → sK σ' a = sK σ a) : cK (gL L G S N) cx σ' G' := by
  have cs : ∀ t i, i < cnt G' t → (i < cnt G t) ∨ (S t = true ∧ i = cnt G t) := fun t i hi => by
    cases hs : S t with
    | true =>
      rw [hc t hs] at hi
      rcases Nat.lt_or_ge i (cnt G t) with h1 | h1
      · exact Or.inl h1
      · exact Or.inr ⟨rfl, by omega⟩
    | false =>
      rw [hc' t hs] at hi
      exact Or.inl hi
  refine ⟨by rw [hold cx (by rw [h.1]; decide)]; exact h.1, fun t i hi => ?_, fun t i t' i' hi hi' e => ?_⟩
  · rcases cs t i hi with h1 | ⟨h1, h2⟩
    · rw [gL_old S N h1, hold _ (by rw [h.knd t i h1]; exact Nat.ne_of_gt (kd_c t i).1)]
      exact h.knd t i h1
    · subst h2
      rw [gL_new S N h1]
      exact hNk t h1
  · rcases cs t i hi with h1 | ⟨h1, h2⟩ <;> rcases cs t' i' hi' with h1' | ⟨h1', h2'⟩
    · rw [gL_old S N h1, gL_old S N h1'] at e
      exact h.2.2 t i t' i' h1 h1' e
    · subst h2'
      rw [gL_old S N h1, gL_new S N h1'] at e
      exact absurd e (hN0 t' h1' t i h1)
    · subst h2
      rw [gL_new S N h1, gL_old S N h1'] at e
      exact absurd e.symm (hN0 t h1 t' i' h1')
    · subst h2
      subst h2'
      rw [gL_new S N h1, gL_new S N h1'] at e
      have := hNi t t' h1 h1' e
      subst this
      exact ⟨rfl, rfl⟩
theorem c_day (C : CI L cx σ V G) {post : Int32 → St → Prop} (hp : ∀ σ', CI L cx σ' (mS V 453 (V.1 453 + 1)) G → AG mTag σ σ' → post (V.1 453 + 1) σ') : wX7_day cx post σ := by
  unfold wX7_day
  refine ⟨C.k.1, C.k.1, fun σ3 e => ?_⟩
  subst e
  have hx : sI (uI σ 406 cx 0 (sI σ 406 cx 0 + 1)) 406 cx 0 = V.1 453 + 1 := by rw [sI_uI, if_pos ⟨rfl, rfl, rfl⟩, show sI σ 406 cx 0 = V.1 453 from C.s]
  refine ⟨C.k.1, ?_⟩
  rw [hx]
  obtain ⟨a1, a2, a3, a4, a5, a6, a7, a8, a9, a10, a11, a12, a13, a14, a15, a16, a17⟩ := C
  exact hp _ ⟨a1, a2, a3, a4, a5, a6, a7, hx, a9, a10, a11, a12, a13, a14, a15, a16, a17⟩ (AG.rfl'.uI (by rw [a1.1]; unfold mTag; decide))
theorem h_day (I : Inv cx mx n σ) : law_day cx mx (Inv cx mx (n + 1)) σ := by
  obtain ⟨A, V, G, L, M, W, C⟩ := I
  unfold law_day
  refine c_day C (fun σ1 C1 g1 => ⟨(M.ag g1).mx, m_day (M.ag g1) (fun σ2 M2 g2 => ⟨rfl, A, _, G, L, M2, W.le, ?_⟩)⟩)
  exact C1.ag g2 (fun t h => h) W.1.2.2.2.2.2.2.2.1 W.1.2.2.2.2.2.2.2.2.2.2.2.2.2.2.2.2.2
theorem c_shut (C : CI L cx σ V G) (wa : wA V G) (h5 : G.1 0 ≤ 5) (h12 : G.1 1 ≤ 12) {post : Int32 → St → Prop} (p w : Int32) (hbad : (∀ a, ac V (G.1 1) p w = some a → ¬ V.2.1 1458 a = 0) → post 0 σ) (hp : ∀ a, ac V (G.1 1) p w = some a → V.2.1 1458 a = 0 → ∀ σ', CI L cx σ' (mA V 1458 a 1) G → AG mTag σ σ' → post 1 σ') : wX7_shut cx p w post σ := by
  unfold wX7_shut
  refine ⟨C.k.1, c_bankAt C.k C.f C.b h5 p (fun h => ⟨C.k.1, c_accountOf_n C.k C.f C.a wa h5 h12 h (br_t rfl (hbad (fun a ha => ?_)))⟩) (fun b hb e => ⟨C.k.1, c_accountOf C.k C.f C.a wa h5 h12 hb ?_⟩)⟩
  · rw [ac_none wa h] at ha; cases ha
  subst e
  cases ha : ac V (G.1 1) (nI b) w with
  | none => exact br_t rfl (hbad (fun a h => by rw [ha] at h; cases h))
  | some a =>
    have h := (fnd_some ha).2.1
    have ha1 : a < G.1 1 := by omega
    have k10 := C.k.knd 10 a ha1
    refine br_f (by simp) ⟨L 10 a, rfl, k10, ?_⟩
    rw [C.as a ha1]
    by_cases c : V.2.1 1458 a = 0
    rotate_left
    · exact br_f c (hbad (fun a' h' => by rw [ha] at h'; cases h'; exact c))
    refine br_t c ⟨k10, fun σ1 e1 => ?_⟩
    subst e1
    have hne : ∀ i, i < G.1 1 → i ≠ a → L 10 i ≠ L 10 a := fun i hi h => C.k.ne hi ha1 (fun z => h z.2)
    refine hp a ha c _ ?_ (AG.rfl'.uI (by rw [k10]; exact (kd_c 10 a).2))
    obtain ⟨a1, a2, a3, a4, a5, a6, a7, a8, a9, a10, a11, a12, a13, a14, a15, a16, a17⟩ := C
    refine ⟨a1, a2, a3, a4, a5, a6, fun i hi => ?_, a8, a9, a10, a11, a12, a13, a14, a15, a16, a17⟩
    rw [sI_uI, mA_2]
    by_cases e : i = a
    · rw [if_pos ⟨rfl, by rw [e], rfl⟩, if_pos ⟨rfl, e⟩]
    · rw [if_neg (fun z => hne i hi e z.2.1), if_neg (fun z => e z.2)]
      exact a7 i hi
theorem h_shut {x1 x2 : Int32} (I : Inv cx mx n σ) : law_shut cx mx (Inv cx mx (n + 1)) x1 x2 σ := by
  obtain ⟨A, V, G, L, M, W, C⟩ := I
  have I' : Inv cx mx (n + 1) σ := ⟨A, V, G, L, M, W.le, C⟩
  have wn := W.1
  unfold law_shut
  refine c_shut C W.2.2.1 wn.2.1 wn.2.2.2.1 x1 x2 (fun h => ⟨M.mx, m_shut M wn.2.2.1 wn.2.2.2.1 x1 x2 (fun _ => ⟨rfl, I'⟩) (fun a ha hc => absurd hc (h a ha))⟩) (fun a ha hc σ1 C1 g1 => ⟨(M.ag g1).mx, m_shut (M.ag g1) wn.2.2.1 wn.2.2.2.1 x1 x2 (fun h => absurd hc (h a ha)) (fun a' ha' hc' σ2 M2 g2 => ?_)⟩)
  rw [ha] at ha'
  cases ha'
  refine ⟨rfl, A, _, G, L, M2, ?_, C1.ag g2 (fun t h => h) W.1.2.2.2.2.2.2.2.1 W.1.2.2.2.2.2.2.2.2.2.2.2.2.2.2.2.2.2⟩
  have hlt := (fnd_some ha).2.1
  obtain ⟨b1, b2, b3, b4, b5, b6, b7, b8⟩ := W.le
  refine ⟨b1, b2, ⟨b3.1, fun i hi => ?_⟩, b4, b5, b6, b7, b8⟩
  rw [mA_2, if_neg (fun z => by omega)]
  exact b3.2 i hi
/-- the counts with one account more -/
def oG (G : GH) (b : Nat) : GH := ((fun k => if k = 1 then G.1 1 + 1 else G.1 k), (fun k i => if k = 0 ∧ i = G.1 1 then b else G.2.1 k i), G.2.2)
theorem c_open (C : CI L cx σ V G) (W : WF V G n) {post : Int32 → St → Prop} (p w x : Int32) (hbad : ((∀ k, k < G.1 0 → p ≠ nI k) ∨ (∀ k, k < 1000000 → w ≠ nI k) ∨ ¬ rgt w 6 ∨ (∀ k, k < 1000001 → x ≠ nI k) ∨ ac V (G.1 1) p w ≠ none ∨ G.1 1 = 12) → post 0 σ) (hp : ∀ b, b < G.1 0 → p = nI b → (∃ k, k < 1000000 ∧ w = nI k) → rgt w 6 → (∃ k, k < 1000001 ∧ x = nI k) → ac V (G.1 1) p w = none → G.1 1 < 12 → ∀ σ' L', CI L' cx σ' (openV (G.1 1) p w x V) (oG G b) → AG mTag σ σ' → post 1 σ') : wX7_open cx p w x post σ := by
  have wa := W.2.2.1
  have h5 := W.1.2.1
  have h12 := W.1.2.2.2.1
  unfold wX7_open
  refine ⟨C.k.1, c_bankAt C.k C.f C.b h5 p (fun h => br_t rfl (hbad (Or.inl h))) (fun b hb e => br_f (by simp) ?_)⟩
  rcases nI_lt_cases w 1000000 (by decide) with ⟨kw, hkw, rfl⟩ | hr
  rotate_left
  · have hn := nI_no (by decide) hr
    rcases hr with h | ⟨h, h2⟩
    · exact br_t h (hbad (Or.inr (Or.inl hn)))
    · refine br_f h (br_f (fun z => ?_) (hbad (Or.inr (Or.inl hn))))
      rw [Int32.le_iff_toInt_le] at z h2
      have e1 : (999999 : Int32).toInt = 999999 := by decide
      have e2 : (nI 1000000).toInt = 1000000 := by decide
      omega
  refine br_f (nI_pos (by omega)) (br_t (show nI kw ≤ nI 999999 from nI_le (by omega) (by decide)) (c_right (n := 6) (by decide) (by decide) ⟨fun c => br_f (by decide) ?_, fun c => br_t rfl (hbad (Or.inr (Or.inr (Or.inl c))))⟩))
  rcases nI_lt_cases x 1000001 (by decide) with ⟨kx, hkx, rfl⟩ | hr
  rotate_left
  · have hn := nI_no (by decide) hr
    rcases hr with h | ⟨h, h2⟩
    · exact br_t h (hbad (Or.inr (Or.inr (Or.inr (Or.inl hn)))))
    · refine br_f h (br_f (fun z => ?_) (hbad (Or.inr (Or.inr (Or.inr (Or.inl hn))))))
      rw [Int32.le_iff_toInt_le] at z h2
      have e1 : (1000000 : Int32).toInt = 1000000 := by decide
      have e2 : (nI 1000001).toInt = 1000001 := by decide
      omega
  refine br_f (nI_pos (by omega)) (br_t (show nI kx ≤ nI 1000000 from nI_le (by omega) (by decide)) ⟨C.k.1, c_accountOf C.k C.f C.a wa h5 h12 hb ?_⟩)
  subst e
  cases ha : ac V (G.1 1) (nI b) (nI kw) with
  | some a => exact br_f (by simp) (hbad (Or.inr (Or.inr (Or.inr (Or.inr (Or.inl (by rw [ha]; simp)))))))
  | none =>
    refine br_t rfl ⟨C.k.1, nm_R C.f.2.1 (q_size (k := G.1 1) C.k.al (by rw [C.a.1]; simp) (pk_lt (G.1 1) 12 (fun hlt => ?_) (fun hlt => hbad (Or.inr (Or.inr (Or.inr (Or.inr (Or.inr (by omega)))))))))⟩
    refine ⟨C.k.1, fun r29 e29 q hq σ1 e1 => ?_⟩
    have e29 : r29 = some (L 0 1) := e29.trans C.f.2.1
    subst e29
    subst e1
    unfold wX0_init
    have kq : sK (uN σ q 1) q = 1 := by rw [sK_uN, if_pos rfl]
    refine ⟨kq, fun σ2 e2 => ⟨by rw [e2]; exact kq, fun σ3 e3 => ⟨by rw [e3, e2]; exact kq, fun σ4 e4 => ⟨L 0 1, rfl, ?_⟩⟩⟩⟩
    have hq2 : ¬ oTag (sK σ q) := fun z => z hq
    have g4 : AG oTag σ σ4 := by
      rw [e4, e3, e2]
      exact (((AG.rfl'.uN hq2).uR hq2).uI hq2).uJ hq2
    have gm : AG mTag σ σ4 := g4.mono (fun t ht => by unfold oTag; unfold mTag at ht; omega)
    have C4 := C.ag g4 (fun t ht => Nat.ne_of_gt ht.1) W.1.2.2.2.2.2.2.2.1 W.1.2.2.2.2.2.2.2.2.2.2.2.2.2.2.2.2.2
    have k4 : sK σ4 q = 1 := by rw [e4, e3, e2]; exact kq
    have s0 : ∀ f, sI (uN σ q 1) f q 0 = 0 := fun f => by rw [sI_uN, if_pos rfl]
    have v50 : sR σ4 50 q 0 = some (L 4 b) := by rw [e4, sR_uJ, e3, sR_uI, e2, sR_uR, if_pos ⟨rfl, rfl, rfl⟩]
    have v51 : sI σ4 51 q 0 = nI kw := by rw [e4, sI_uJ, e3, sI_uI, if_pos ⟨rfl, rfl, rfl⟩]
    have v52 : sJ σ4 52 q 0 = (nI kx).toInt64 := by rw [e4, sJ_uJ, if_pos ⟨rfl, rfl, rfl⟩]
    have v53 : sI σ4 53 q 0 = 0 := by rw [e4, sI_uJ, e3, sI_ne (by decide), e2, sI_uR, s0]
    have hqo : ∀ t i, i < cnt G t → L t i ≠ q := fun t i hi z => by
      have := C.k.knd t i hi
      rw [z, hq] at this
      have := (kd_c t i).1
      omega
    clear e4 e3 e2 σ2 σ3
    refine ⟨C4.k.al, q, rfl, by rw [k4, C4.k.fix 1 (by decide)]; decide, by rw [C4.a.1]; simp; omega, ?_⟩
    have kal : ¬ mTag (sK σ4 (L 0 1)) := by rw [C4.k.fix 1 (by decide)]; exact (kd_c 0 1).2
    refine hp b hb rfl ⟨kw, hkw, rfl⟩ c ⟨kx, hkx, rfl⟩ ha hlt _ (gL L G (fun t => decide (t = 10)) (fun _ => q)) ?_ (gm.trans (AG.rfl'.uL kal))
    have no01 : ∀ t i, i < cnt G t → ¬ (t = 0 ∧ i = 1) → ¬ L t i = L 0 1 := fun t i hi h => C4.k.ne hi (show 1 < cnt G 0 by show 1 < 7; omega) h
    obtain ⟨a1, a2, a3, a4, a5, a6, a7, a8, a9, a10, a11, a12, a13, a14, a15, a16, a17⟩ := C4
    have eL : gL L G (fun t => decide (t = 10)) (fun _ => q) 10 (G.1 1) = q := gL_new (G := G) (fun t => decide (t = 10)) (fun _ => q) (t := 10) rfl
    have oL : ∀ i, i < G.1 1 → gL L G (fun t => decide (t = 10)) (fun _ => q) 10 i = L 10 i := fun i hi => gL_old (G := G) (fun t => decide (t = 10)) (fun _ => q) (t := 10) hi
    have cs : ∀ i, i < (oG G b).1 1 → i < G.1 1 ∨ i = G.1 1 := fun i hi => by
      have : i < G.1 1 + 1 := hi
      omega
    refine ⟨cK.grow a1 (fun t => decide (t = 10)) (fun _ => q) (oG G b) (fun t ht => ?_) (fun t ht => ?_) (fun t ht t' i' hi' => hqo t' i' hi') (fun t ht => ?_) (fun t t' ht ht' _ => ?_) (fun a _ => rfl), a2, ⟨?_, a3.2⟩, a4, ⟨?_, fun i hi => ?_⟩, fun i hi => ?_, fun i hi => ?_, a8, a9, a10, a11, fun hs => ?_, a13, a14, fun b' hb' => ⟨?_, ?_⟩, fun b' hb' => ⟨?_, (a16 b' hb').2⟩, a17⟩
    · have := of_decide_eq_true ht; subst this; rfl
    · have := of_decide_eq_false ht
      match t, this with
      | 0, _ => rfl
      | 1, _ => rfl
      | 2, _ => rfl
      | 3, _ => rfl
      | 4, _ => rfl
      | 5, _ => rfl
      | 6, _ => rfl
      | 7, _ => rfl
      | 8, _ => rfl
      | 9, _ => rfl
      | 10, h => exact absurd rfl h
      | 11, _ => rfl
      | 12, _ => rfl
      | _ + 13, _ => rfl
    · have := of_decide_eq_true ht; subst this; exact k4
    · exact (of_decide_eq_true ht).trans (of_decide_eq_true ht').symm
    · show sL (uL σ4 (L 0 1) (sL σ4 (L 0 1) ++ [q])) (L 0 0) = _
      rw [sL_uL, if_neg (no01 0 0 (by show 0 < 7; omega) (by omega))]
      exact a3.1
    · show sL (uL σ4 (L 0 1) (sL σ4 (L 0 1) ++ [q])) (L 0 1) = (List.range (G.1 1 + 1)).map _
      rw [sL_uL, if_pos rfl, a5.1, List.range_succ, List.map_append, List.map_singleton, eL]
      congr 1
      exact List.map_congr_left (fun i hi => (oL i (List.mem_range.mp hi)).symm)
    · rcases cs i hi with h | h
      · rw [oL i h]
        have hne : ¬ i = G.1 1 := by omega
        show sR σ4 50 (L 10 i) 0 = some (L 4 (if 0 = 0 ∧ i = G.1 1 then b else G.2.1 0 i)) ∧ sI σ4 51 (L 10 i) 0 = (if 1456 = 1456 ∧ i = G.1 1 then nI kw else V.2.1 1456 i)
        rw [if_neg (fun z => hne z.2), if_neg (fun z => hne z.2)]
        exact a5.2 i h
      · subst h
        rw [eL]
        show sR σ4 50 q 0 = some (L 4 (if 0 = 0 ∧ G.1 1 = G.1 1 then b else G.2.1 0 (G.1 1))) ∧ sI σ4 51 q 0 = (if 1456 = 1456 ∧ G.1 1 = G.1 1 then nI kw else V.2.1 1456 (G.1 1))
        rw [if_pos ⟨rfl, rfl⟩, if_pos ⟨rfl, rfl⟩]
        exact ⟨v50, v51⟩
    · show sJ σ4 52 (gL L G (fun t => decide (t = 10)) (fun _ => q) 10 i) 0 = (if 1457 = 1457 ∧ i = G.1 1 then (nI kx).toInt64 else V.2.2 1457 i)
      rcases cs i hi with h | h
      · rw [oL i h, if_neg (fun z => by omega)]
        exact a6 i h
      · subst h
        rw [eL, if_pos ⟨rfl, rfl⟩]
        exact v52
    · show sI σ4 53 (gL L G (fun t => decide (t = 10)) (fun _ => q) 10 i) 0 = V.2.1 1458 i
      rcases cs i hi with h | h
      · rw [oL i h]
        exact a7 i h
      · subst h
        rw [eL, v53]
        exact (wa.2 _ (Nat.le_refl _)).symm
    · obtain ⟨b1, b2, b3, b4, b5, b6, b7⟩ := a12 hs
      refine ⟨b1, b2, b3, b4, b5, fun k hk => ?_, b7⟩
      obtain ⟨d1, d2, d3, d4, d5⟩ := b6 k hk
      refine ⟨d1, d2, d3, ?_, d5⟩
      show sL (uL σ4 (L 0 1) (sL σ4 (L 0 1) ++ [q])) (L 2 k) = _
      have hk4 : k < 4 := by
        have h1 : k < G.1 3 := hk
        have h2 := W.1.2.2.2.2.2.2.2.1
        omega
      rw [sL_uL, if_neg (no01 2 k hk4 (by omega))]
      exact d4
    · show sL (uL σ4 (L 0 1) (sL σ4 (L 0 1) ++ [q])) (L 5 b') = _
      rw [sL_uL, if_neg (no01 5 b' hb' (by omega))]
      exact (a15 b' hb').1
    · show sL (uL σ4 (L 0 1) (sL σ4 (L 0 1) ++ [q])) (L 6 b') = _
      rw [sL_uL, if_neg (no01 6 b' hb' (by omega))]
      exact (a15 b' hb').2
    · show sL (uL σ4 (L 0 1) (sL σ4 (L 0 1) ++ [q])) (L 8 b') = _
      rw [sL_uL, if_neg (no01 8 b' hb' (by omega))]
      exact (a16 b' hb').1
theorem h_open {x1 x2 x3 : Int32} (I : Inv cx mx n σ) : law_open cx mx (Inv cx mx (n + 1)) x1 x2 x3 σ := by
  obtain ⟨A, V, G, L, M, W, C⟩ := I
  have I' : Inv cx mx (n + 1) σ := ⟨A, V, G, L, M, W.le, C⟩
  have wn := W.1
  have h5 := wn.2.1
  unfold law_open
  refine c_open C W x1 x2 x3 (fun h => ⟨M.mx, m_open M wn.1 h5 wn.2.2.1 wn.2.2.2.1 x1 x2 x3 (fun _ => ⟨rfl, I'⟩) (fun ⟨b, hb, e⟩ ⟨kw, hkw, ew⟩ hr ⟨kx, hkx, ex⟩ ha h12 => ?_)⟩) (fun b hb e hw hr hx ha h12 σ1 L' C1 g1 => ⟨(M.ag g1).mx, m_open (M.ag g1) wn.1 h5 wn.2.2.1 wn.2.2.2.1 x1 x2 x3 (fun h => ?_) (fun _ _ _ _ _ _ σ2 M2 g2 => ⟨rfl, A, _, _, L', M2, ?_, C1.ag g2 (fun t h => h) W.1.2.2.2.2.2.2.2.1 W.1.2.2.2.2.2.2.2.2.2.2.2.2.2.2.2.2.2⟩)⟩)
  · exfalso
    rcases h with h | h | h | h | h | h
    · exact h b hb e
    · exact h kw hkw ew
    · exact h hr
    · exact h kx hkx ex
    · exact h ha
    · omega
  · exfalso
    rcases h with h | h | h | h | h | h
    · exact h b hb e
    · obtain ⟨k, hk, ek⟩ := hw; exact h k hk ek
    · exact h hr
    · obtain ⟨k, hk, ek⟩ := hx; exact h k hk ek
    · exact h ha
    · omega
  · obtain ⟨b1, b2, b3, b4, b5, b6, b7, b8⟩ := W.le
    obtain ⟨w1, w2, w3, w4, w5⟩ := b1
    refine ⟨⟨w1, w2, rfl, h12, w5⟩, b2, ⟨fun i hi => ?_, fun i hi => ?_⟩, b4, b5, b6, b7, b8⟩
    · have hi : i < G.1 1 + 1 := hi
      show (if 1455 = 1455 ∧ i = G.1 1 then x1 else V.2.1 1455 i) = nI (if 0 = 0 ∧ i = G.1 1 then b else G.2.1 0 i) ∧ (if 0 = 0 ∧ i = G.1 1 then b else G.2.1 0 i) < G.1 0
      by_cases e2 : i = G.1 1
      · rw [if_pos ⟨rfl, e2⟩, if_pos ⟨rfl, e2⟩]
        exact ⟨e, hb⟩
      · rw [if_neg (fun z => e2 z.2), if_neg (fun z => e2 z.2)]
        exact b3.1 i (by omega)
    · exact b3.2 i (by have hi : G.1 1 + 1 ≤ i := hi; omega)
end GW
