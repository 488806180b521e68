/-! THE MODEL'S METHODS over its view: those that write -/
theorem MI.setA {mx : Nat} {A : Nat → Nat} {V : MV} {σ0 σ : St} (h : MI mx A V σ) (g : AG cTag σ0 σ) (t : Nat) (ht : mArr t) {i i' : Nat} {x y : Int32} (hi : i = i') (hx : x = y) {P : St → Prop} (k : ∀ σ', MI mx A (mA V t i' y) σ' → AG cTag σ0 σ' → P σ') : ∀ σ', σ' = uI σ t (A t) i x → P σ' := fun σ' e => by
  subst hi
  subst hx
  subst e
  exact k _ (h.uA t i x ht) (g.trans (AG.rfl'.uI (h.notA t ht)))
theorem MI.setJ {mx : Nat} {A : Nat → Nat} {V : MV} {σ0 σ : St} (h : MI mx A V σ) (g : AG cTag σ0 σ) (t : Nat) (ht : mArr t) {i i' : Nat} {x y : Int64} (hi : i = i') (hx : x = y) {P : St → Prop} (k : ∀ σ', MI mx A (mJ V t i' y) σ' → AG cTag σ0 σ' → P σ') : ∀ σ', σ' = uJ σ t (A t) i x → P σ' := fun σ' e => by
  subst hi
  subst hx
  subst e
  exact k _ (h.wJ t i x ht) (g.trans (AG.rfl'.uJ (h.notA t ht)))
theorem MI.setS {mx : Nat} {A : Nat → Nat} {V : MV} {σ0 σ : St} (h : MI mx A V σ) (g : AG cTag σ0 σ) (f : Nat) (hf : f < 1000) {x y : Int32} (hx : x = y) {P : St → Prop} (k : ∀ σ', MI mx A (mS V f y) σ' → AG cTag σ0 σ' → P σ') : ∀ σ', σ' = uI σ f mx 0 x → P σ' := fun σ' e => by
  subst hx
  subst e
  exact k _ (h.uS f x hf) (g.trans (AG.rfl'.uI h.not))
section MW
variable {mx : Nat} {A : Nat → Nat} {V : MV} {σ : St}
theorem m_day (hM : MI mx A V σ) {post : Int32 → St → Prop} (hp : ∀ σ', MI mx A (mS V 453 (V.1 453 + 1)) σ' → AG cTag σ σ' → post (V.1 453 + 1) σ') : wX8_day mx post σ := by
  unfold wX8_day
  refine ⟨hM.mx, hM.mx, hM.setS AG.rfl' 453 (by decide) (by rw [hM.sc]) (fun σ1 h1 g1 => ⟨h1.mx, ?_⟩)⟩
  rw [h1.sc, mS_1, if_pos rfl]
  exact hp σ1 h1 g1
theorem m_join (hM : MI mx A V σ) {post : Int32 → St → Prop} {nb : Nat} (hnb : V.1 450 = nI nb) (h5 : nb ≤ 5) (r : Int32) (hbad : ((∀ k, k < 10000 → r ≠ nI k) ∨ ¬ rgt r 4 ∨ bk V nb r ≠ none) → post (-1) σ) (hfull : (∃ k, k < 10000 ∧ r = nI k) → rgt r 4 → bk V nb r = none → nb = 5 → post (-3) σ) (hp : (∃ k, k < 10000 ∧ r = nI k) → rgt r 4 → bk V nb r = none → nb < 5 → ∀ σ', MI mx A (mS (mA V 1451 nb r) 450 (nI (nb + 1))) σ' → AG cTag σ σ' → post (nI nb) σ') : wX8_join mx r post σ := by
  unfold wX8_join
  rcases nI_lt_cases r 10000 (by decide) with ⟨k, hk, rfl⟩ | hr
  rotate_left
  · refine m_within_f (y := 10000) (hr.elim Or.inl (fun z => Or.inr z)) (br_t rfl (hbad (Or.inl (fun k hk e => ?_))))
    rcases hr with h | ⟨h, h2⟩
    · exact nI_pos (n := k) (by omega) (by rw [← e]; exact h)
    · exact nI_ge (a := k) (b := 10000) hk (by decide) (by rw [← e]; exact h2)
  have hk2 : ∃ k', k' < 10000 ∧ nI k = nI k' := ⟨k, hk, rfl⟩
  refine m_within_t (n := 10000) hk (by decide) rfl (br_f (by decide) ?_)
  refine m_right (n := 4) (by decide) (by decide) ⟨fun c => ?_, fun c => br_t rfl (hbad (Or.inr (Or.inl c)))⟩
  refine br_f (by decide) ⟨hM.mx, m_bankOf hM hnb h5 ?_⟩
  cases hb : bk V nb (nI k) with
  | some b =>
    have hb5 : b < 5 := by have := (fnd_some hb).2.1; omega
    exact br_f (nI_pos (by omega)) (hbad (Or.inr (Or.inr (by rw [hb]; simp))))
  | none =>
    refine br_t (show (-1 : Int32) < 0 by decide) ⟨hM.mx, pk_eq nb 5 (fun h => hfull hk2 c hb h) (fun h => ?_) (hx := (hM.sc 450).trans hnb)⟩
    refine ⟨hM.mx, fun r17 e17 => ⟨hM.mx, A 1451, e17.trans (hM.rf 1451 (by decide)), hM.kd 1451 (by decide), ?_, ?_⟩⟩
    · rw [hM.sc, hnb]; exact vp_in_nI (by omega) (by decide)
    refine hM.setA AG.rfl' 1451 (by decide) (i' := nb) (by rw [hM.sc, hnb, nI_clamp (by omega)]) rfl (fun σ1 h1 g1 => ⟨h1.mx, h1.mx, ?_⟩)
    refine h1.setS g1 450 (by decide) (y := nI (nb + 1)) (by rw [h1.sc]; show V.1 450 + 1 = _; rw [hnb, nI_1]) (fun σ2 h2 g2 => ⟨h2.mx, ?_⟩)
    rw [h2.sc, show (mS (mA V 1451 nb (nI k)) 450 (nI (nb + 1))).1 450 = nI (nb + 1) from rfl, show nI (nb + 1) - (1 : Int32) = nI nb from pk_sub (b := 1) (by omega)]
    exact hp hk2 c hb (by omega) σ2 h2 g2

def openV (na : Nat) (b w x : Int32) (V : MV) : MV := mS (mJ (mA (mA V 1455 na b) 1456 na w) 1457 na x.toInt64) 454 (nI (na + 1))
theorem m_open_43 (hM : MI mx A V σ) {post : Int32 → St → Prop} {na : Nat} (hna : V.1 454 = nI na) (h12 : na ≤ 12) (b w x : Int32) (hbad : (ac V na b w ≠ none ∨ na = 12) → post 0 σ) (hp : ac V na b w = none → na < 12 → ∀ σ', MI mx A (openV na b w x V) σ' → AG cTag σ σ' → post 1 σ') : wX8_open_43 mx post b w x 1 σ := by
  unfold wX8_open_43
  refine br_f (by decide) ⟨hM.mx, m_accountOf hM hna h12 ?_⟩
  cases ha : ac V na b w with
  | some a =>
    have := (fnd_some ha).2.1
    exact br_t (nI_pos' (by omega)) (hbad (Or.inl (by rw [ha]; simp)))
  | none =>
    refine br_f (show ¬ (0 : Int32) ≤ -1 by decide) ⟨hM.mx, pk_eq na 12 (fun h => hbad (Or.inr h)) (fun h => ?_) (hx := (hM.sc 454).trans hna)⟩
    refine ⟨hM.mx, fun r16 e16 => ⟨hM.mx, A 1455, e16.trans (hM.rf 1455 (by decide)), hM.kd 1455 (by decide), by rw [hM.sc, hna]; exact vp_in_nI (by omega) (by decide), ?_⟩⟩
    refine hM.setA AG.rfl' 1455 (by decide) (i' := na) (by rw [hM.sc, hna, nI_clamp (by omega)]) rfl (fun σ1 h1 g1 => ⟨h1.mx, fun r23 e23 => ⟨h1.mx, A 1456, e23.trans (h1.rf 1456 (by decide)), h1.kd 1456 (by decide), by rw [h1.sc, mA_1, hna]; exact vp_in_nI (by omega) (by decide), ?_⟩⟩)
    refine h1.setA g1 1456 (by decide) (i' := na) (by rw [h1.sc, mA_1, hna, nI_clamp (by omega)]) rfl (fun σ2 h2 g2 => ⟨h2.mx, fun r30 e30 => ⟨h2.mx, A 1457, e30.trans (h2.rf 1457 (by decide)), h2.kd 1457 (by decide), by rw [h2.sc, mA_1, mA_1, hna]; exact vp_in_nI (by omega) (by decide), ?_⟩⟩)
    refine h2.setJ g2 1457 (by decide) (i' := na) (by rw [h2.sc, mA_1, mA_1, hna, nI_clamp (by omega)]) rfl (fun σ3 h3 g3 => ⟨h3.mx, h3.mx, ?_⟩)
    exact h3.setS g3 454 (by decide) (y := nI (na + 1)) (by rw [h3.sc]; show V.1 454 + 1 = _; rw [hna, nI_1]) (fun σ4 h4 g4 => hp ha (by omega) σ4 h4 g4)
theorem m_open (hM : MI mx A V σ) {post : Int32 → St → Prop} {nb na : Nat} (hnb : V.1 450 = nI nb) (h5 : nb ≤ 5) (hna : V.1 454 = nI na) (h12 : na ≤ 12) (b w x : Int32) (hbad : ((∀ k, k < nb → b ≠ nI k) ∨ (∀ k, k < 1000000 → w ≠ nI k) ∨ ¬ rgt w 6 ∨ (∀ k, k < 1000001 → x ≠ nI k) ∨ ac V na b w ≠ none ∨ na = 12) → post 0 σ) (hp : (∃ k, k < nb ∧ b = nI k) → (∃ k, k < 1000000 ∧ w = nI k) → rgt w 6 → (∃ k, k < 1000001 ∧ x = nI k) → ac V na b w = none → na < 12 → ∀ σ', MI mx A (openV na b w x V) σ' → AG cTag σ σ' → post 1 σ') : wX8_open mx b w x post σ := by
  have no : ∀ {y : Int32} {n : Nat}, n < 2 ^ 31 → (y < 0 ∨ (¬ y < 0 ∧ nI n ≤ y)) → ∀ k, k < n → y ≠ nI k := fun hn h k hk e => by
    subst e
    rcases h with h | ⟨h, h2⟩
    · exact nI_pos (by omega) h
    · exact nI_ge hk hn h2
  have k42 : post 0 σ → wX8_open_42 mx post b w x σ := fun h => by
    unfold wX8_open_42 wX8_open_43
    exact br_t rfl h
  unfold wX8_open
  refine ⟨hM.mx, ?_⟩
  rw [hM.sc, hnb]
  rcases nI_lt_cases b nb (by omega) with ⟨kb, hkb, rfl⟩ | hr
  rotate_left
  · exact m_within_f hr (br_t rfl (k42 (hbad (Or.inl (no (by omega) hr)))))
  refine m_within_t hkb (by omega) rfl (br_f (by decide) ?_)
  rcases nI_lt_cases w 1000000 (by decide) with ⟨kw, hkw, rfl⟩ | hr
  rotate_left
  · exact m_within_f (y := 1000000) hr (br_t rfl (k42 (hbad (Or.inr (Or.inl (no (by decide) hr))))))
  refine m_within_t (n := 1000000) hkw (by decide) rfl (br_f (by decide) ?_)
  refine m_right (n := 6) (by decide) (by decide) ⟨fun c => br_f (by decide) ?_, fun c => br_t rfl (k42 (hbad (Or.inr (Or.inr (Or.inl c)))))⟩
  rcases nI_lt_cases x 1000001 (by decide) with ⟨kx, hkx, rfl⟩ | hr
  rotate_left
  · exact m_within_f (y := 1000001) hr (br_t rfl (k42 (hbad (Or.inr (Or.inr (Or.inr (Or.inl (no (by decide) hr))))))))
  refine m_within_t (n := 1000001) hkx (by decide) rfl (br_f (by decide) ?_)
  exact m_open_43 hM hna h12 _ _ _ (fun h => hbad (Or.inr (Or.inr (Or.inr (Or.inr h))))) (fun h1 h2 => hp ⟨kb, hkb, rfl⟩ ⟨kw, hkw, rfl⟩ c ⟨kx, hkx, rfl⟩ h1 h2)
theorem m_shut (hM : MI mx A V σ) {post : Int32 → St → Prop} {na : Nat} (hna : V.1 454 = nI na) (h12 : na ≤ 12) (b w : Int32) (hbad : (∀ a, ac V na b w = some a → ¬ V.2.1 1458 a = 0) → post 0 σ) (hp : ∀ a, ac V na b w = some a → V.2.1 1458 a = 0 → ∀ σ', MI mx A (mA V 1458 a 1) σ' → AG cTag σ σ' → post 1 σ') : wX8_shut mx b w post σ := by
  unfold wX8_shut
  refine ⟨hM.mx, m_accountOf hM hna h12 ?_⟩
  cases ha : ac V na b w with
  | none => exact br_t (show (-1 : Int32) < 0 by decide) (hbad (fun a h => by rw [ha] at h; cases h))
  | some a =>
    have ha12 : a < 12 := by have := (fnd_some ha).2.1; omega
    rw [show oI (some a) = nI a from rfl]
    refine br_f (nI_pos (by omega)) ⟨hM.mx, hM.arr 1458 (by decide) ⟨vp_in_nI ha12 (by decide), ?_⟩⟩
    rw [nI_clamp (by omega), hM.rd 1458 a (by decide)]
    by_cases c : V.2.1 1458 a = 0
    · refine br_t c ⟨hM.mx, hM.arr 1458 (by decide) ⟨vp_in_nI ha12 (by decide), Or.inr rfl, ?_⟩⟩
      exact hM.setA AG.rfl' 1458 (by decide) (i' := a) (by first | rfl | rw [nI_clamp (by omega)]) rfl (fun σ1 h1 g1 => hp a ha c σ1 h1 g1)
    · exact br_f c (hbad (fun a' h => by rw [ha] at h; cases h; exact c))

def batV (nt h : Nat) (V : MV) : MV := mS (mS (mA (mA (mA V 1464 nt (nI (dg h 1 4))) 1465 nt (nI (dg h 5 4))) 1466 nt (nI (dg h 9 4))) 462 (nI (nt + 1))) 459 2
theorem m_batch (hM : MI mx A V σ) {post : Int32 → St → Prop} {nt h : Nat} (hh : h < 2 ^ 63) (hnt : V.1 462 = nI nt) (h4 : nt ≤ 4) (hfull : nt = 4 → post (-3) σ) (hp : nt < 4 → ∀ σ', MI mx A (batV nt h V) σ' → AG cTag σ σ' → post 0 σ') : wX8_batch mx (lN h) post σ := by
  unfold wX8_batch
  refine ⟨hM.mx, pk_eq nt 4 hfull (fun hne => ?_) (hx := (hM.sc 462).trans hnt)⟩
  refine ⟨hM.mx, fun r4 e4 => ⟨hM.mx, m_digits hh 1 4 (by decide) (by decide) ⟨A 1464, e4.trans (hM.rf 1464 (by decide)), hM.kd 1464 (by decide), by rw [hM.sc, hnt]; exact vp_in_nI (by omega) (by decide), ?_⟩⟩⟩
  refine hM.setA AG.rfl' 1464 (by decide) (i' := nt) (by rw [hM.sc, hnt, nI_clamp (by omega)]) rfl (fun σ1 h1 g1 => ⟨h1.mx, fun r14 e14 => ⟨h1.mx, m_digits hh 5 4 (by decide) (by decide) ⟨A 1465, e14.trans (h1.rf 1465 (by decide)), h1.kd 1465 (by decide), by rw [h1.sc, mA_1, hnt]; exact vp_in_nI (by omega) (by decide), ?_⟩⟩⟩)
  refine h1.setA g1 1465 (by decide) (i' := nt) (by rw [h1.sc, mA_1, hnt, nI_clamp (by omega)]) rfl (fun σ2 h2 g2 => ⟨h2.mx, fun r24 e24 => ⟨h2.mx, m_digits hh 9 4 (by decide) (by decide) ⟨A 1466, e24.trans (h2.rf 1466 (by decide)), h2.kd 1466 (by decide), by rw [h2.sc, mA_1, mA_1, hnt]; exact vp_in_nI (by omega) (by decide), ?_⟩⟩⟩)
  refine h2.setA g2 1466 (by decide) (i' := nt) (by rw [h2.sc, mA_1, mA_1, hnt, nI_clamp (by omega)]) rfl (fun σ3 h3 g3 => ⟨h3.mx, h3.mx, ?_⟩)
  refine h3.setS g3 462 (by decide) (y := nI (nt + 1)) (by rw [h3.sc]; show V.1 462 + 1 = _; rw [hnt, nI_1]) (fun σ4 h4 g4 => ⟨h4.mx, ?_⟩)
  exact h4.setS g4 459 (by decide) rfl (fun σ5 h5 g5 => hp (by omega) σ5 h5 g5)

def entV (nt ne h l : Nat) (V : MV) : MV := mS (mS (mA (mA (mA (mA (mA (mA V 1471 ne (nI (nt - 1))) 1472 ne (nI (dg h 1 1))) 1473 ne (nI (dg h 2 4))) 1474 ne (nI (dg h 6 6))) 1475 ne (nI (dg l 0 7))) 1476 ne (nI (dg l 7 7))) 463 (nI (ne + 1))) 459 2
theorem m_entry (hM : MI mx A V σ) {post : Int32 → St → Prop} {nt ne h l : Nat} (hh : h < 2 ^ 63) (hl : l < 2 ^ 63) (hnt : V.1 462 = nI nt) (h0 : 0 < nt) (hne : V.1 463 = nI ne) (h20 : ne ≤ 20) (hfull : ne = 20 → post (-3) σ) (hp : ne < 20 → ∀ σ', MI mx A (entV nt ne h l V) σ' → AG cTag σ σ' → post 0 σ') : wX8_entry mx (lN h) (lN l) post σ := by
  unfold wX8_entry
  refine ⟨hM.mx, pk_eq ne 20 hfull (fun hx => ?_) (hx := (hM.sc 463).trans hne)⟩
  refine ⟨hM.mx, fun r0 e0 => ⟨hM.mx, hM.mx, A 1471, e0.trans (hM.rf 1471 (by decide)), hM.kd 1471 (by decide), by rw [hM.sc, hne]; exact vp_in_nI (by omega) (by decide), ?_⟩⟩
  refine hM.setA AG.rfl' 1471 (by decide) (i' := ne) (y := nI (nt - 1)) (by rw [hM.sc, hne, nI_clamp (by omega)]) (by rw [hM.sc, hnt]; exact pk_sub (b := 1) (by omega)) (fun σ1 h1 g1 => ?_)
  refine ⟨h1.mx, fun r1 e1 => ⟨h1.mx, m_digits hh 1 1 (by decide) (by decide) ⟨A 1472, e1.trans (h1.rf 1472 (by decide)), h1.kd 1472 (by decide), by rw [h1.sc, mA_1, hne]; exact vp_in_nI (by omega) (by decide), ?_⟩⟩⟩
  refine h1.setA g1 1472 (by decide) (i' := ne) (by rw [h1.sc, mA_1, hne, nI_clamp (by omega)]) rfl (fun σ2 h2 g2 => ?_)
  refine ⟨h2.mx, fun r2 e2 => ⟨h2.mx, m_digits hh 2 4 (by decide) (by decide) ⟨A 1473, e2.trans (h2.rf 1473 (by decide)), h2.kd 1473 (by decide), by rw [h2.sc, mA_1, mA_1, hne]; exact vp_in_nI (by omega) (by decide), ?_⟩⟩⟩
  refine h2.setA g2 1473 (by decide) (i' := ne) (by rw [h2.sc, mA_1, mA_1, hne, nI_clamp (by omega)]) rfl (fun σ3 h3 g3 => ?_)
  refine ⟨h3.mx, fun r3 e3 => ⟨h3.mx, m_digits hh 6 6 (by decide) (by decide) ⟨A 1474, e3.trans (h3.rf 1474 (by decide)), h3.kd 1474 (by decide), by rw [h3.sc, mA_1, mA_1, mA_1, hne]; exact vp_in_nI (by omega) (by decide), ?_⟩⟩⟩
  refine h3.setA g3 1474 (by decide) (i' := ne) (by rw [h3.sc, mA_1, mA_1, mA_1, hne, nI_clamp (by omega)]) rfl (fun σ4 h4 g4 => ?_)
  refine ⟨h4.mx, fun r4 e4 => ⟨h4.mx, m_digits hl 0 7 (by decide) (by decide) ⟨A 1475, e4.trans (h4.rf 1475 (by decide)), h4.kd 1475 (by decide), by rw [h4.sc, mA_1, mA_1, mA_1, mA_1, hne]; exact vp_in_nI (by omega) (by decide), ?_⟩⟩⟩
  refine h4.setA g4 1475 (by decide) (i' := ne) (by rw [h4.sc, mA_1, mA_1, mA_1, mA_1, hne, nI_clamp (by omega)]) rfl (fun σ5 h5 g5 => ?_)
  refine ⟨h5.mx, fun r5 e5 => ⟨h5.mx, m_digits hl 7 7 (by decide) (by decide) ⟨A 1476, e5.trans (h5.rf 1476 (by decide)), h5.kd 1476 (by decide), by rw [h5.sc, mA_1, mA_1, mA_1, mA_1, mA_1, hne]; exact vp_in_nI (by omega) (by decide), ?_⟩⟩⟩
  refine h5.setA g5 1476 (by decide) (i' := ne) (by rw [h5.sc, mA_1, mA_1, mA_1, mA_1, mA_1, hne, nI_clamp (by omega)]) rfl (fun σ6 h6 g6 => ?_)
  refine ⟨h6.mx, h6.mx, h6.setS g6 463 (by decide) (y := nI (ne + 1)) (by rw [h6.sc]; show V.1 463 + 1 = _; rw [hne, nI_1]) (fun σ8 h8 g8 => ⟨h8.mx, ?_⟩)⟩
  exact h8.setS g8 459 (by decide) rfl (fun σ9 h9 g9 => hp (by omega) σ9 h9 g9)
theorem m_accept (hM : MI mx A V σ) {post : St → Prop} {nb nr e : Nat} (hnb : V.1 450 = nI nb) (h5 : nb ≤ 5) (hnr : V.1 479 = nI nr) (h512 : nr < 512) (he : e < 20) (hib : V.2.1 1471 e = nI (ibn V e) ∧ ibn V e < 4) (hp : ∀ σ', MI mx A (accV nb V e) σ' → AG cTag σ σ' → post σ') : wX8_accept mx (nI e) post σ := by
  have hr : (V.1 479).toNatClampNeg = nr := by rw [hnr, nI_clamp (by omega)]
  unfold accV at hp
  rw [hr] at hp
  have hce : (nI e).toNatClampNeg = e := nI_clamp (by omega)
  have hcb : (nI (ibn V e)).toNatClampNeg = ibn V e := nI_clamp (by omega)
  generalize hb : ibn V e = b at hib hcb hp
  unfold wX8_accept
  refine ⟨hM.mx, hM.arr 1471 (by decide) ⟨vp_in_nI he (by decide), ?_⟩⟩
  refine nm_r (e' := nI b) (by rw [hce, hM.rd 1471 e (by decide)]; exact hib.1) ⟨hM.mx, ?_⟩
  refine fun r0 e0 => ⟨hM.mx, hM.mx, hM.arr 1472 (by decide) ⟨vp_in_nI he (by decide), A 1480, e0.trans (hM.rf 1480 (by decide)), hM.kd 1480 (by decide), by rw [hM.sc, hnr]; exact vp_in_nI h512 (by decide), ?_⟩⟩
  refine hM.setA AG.rfl' 1480 (by decide) (i' := nr) (y := V.2.1 1472 e) (by rw [hM.sc]; exact hr) (by rw [hce]; exact hM.rd 1472 e (by decide)) (fun σ1 h1 g1 => ?_)
  refine ⟨h1.mx, fun r1 e1 => ⟨h1.mx, h1.mx, h1.arr 1464 (by decide) ⟨vp_in_nI hib.2 (by decide), h1.mx, m_bankOf h1 (nb := nb) (by rw [mA_1]; exact hnb) h5 ⟨A 1481, e1.trans (h1.rf 1481 (by decide)), h1.kd 1481 (by decide), by rw [h1.sc, mA_1, hnr]; exact vp_in_nI h512 (by decide), ?_⟩⟩⟩⟩
  refine h1.setA g1 1481 (by decide) (i' := nr) (y := oI (bk V nb (V.2.1 1464 b))) (by rw [h1.sc, mA_1]; exact hr) (by rw [hcb, h1.rd 1464 b (by decide)]; rfl) (fun σ2 h2 g2 => ?_)
  refine ⟨h2.mx, fun r2 e2 => ⟨h2.mx, h2.mx, h2.arr 1473 (by decide) ⟨vp_in_nI he (by decide), h2.mx, m_bankOf h2 (nb := nb) (by rw [mA_1, mA_1]; exact hnb) h5 ⟨A 1482, e2.trans (h2.rf 1482 (by decide)), h2.kd 1482 (by decide), by rw [h2.sc, mA_1, mA_1, hnr]; exact vp_in_nI h512 (by decide), ?_⟩⟩⟩⟩
  refine h2.setA g2 1482 (by decide) (i' := nr) (y := oI (bk V nb (V.2.1 1473 e))) (by rw [h2.sc, mA_1, mA_1]; exact hr) (by rw [hce, h2.rd 1473 e (by decide)]; rfl) (fun σ3 h3 g3 => ?_)
  refine ⟨h3.mx, fun r3 e3 => ⟨h3.mx, h3.mx, h3.arr 1474 (by decide) ⟨vp_in_nI he (by decide), A 1483, e3.trans (h3.rf 1483 (by decide)), h3.kd 1483 (by decide), by rw [h3.sc, mA_1, mA_1, mA_1, hnr]; exact vp_in_nI h512 (by decide), ?_⟩⟩⟩
  refine h3.setA g3 1483 (by decide) (i' := nr) (y := V.2.1 1474 e) (by rw [h3.sc, mA_1, mA_1, mA_1]; exact hr) (by rw [hce]; exact h3.rd 1474 e (by decide)) (fun σ4 h4 g4 => ?_)
  refine ⟨h4.mx, fun r4 e4 => ⟨h4.mx, h4.mx, h4.arr 1475 (by decide) ⟨vp_in_nI he (by decide), A 1484, e4.trans (h4.rf 1484 (by decide)), h4.kd 1484 (by decide), by rw [h4.sc, mA_1, mA_1, mA_1, mA_1, hnr]; exact vp_in_nI h512 (by decide), ?_⟩⟩⟩
  refine h4.setA g4 1484 (by decide) (i' := nr) (y := V.2.1 1475 e) (by rw [h4.sc, mA_1, mA_1, mA_1, mA_1]; exact hr) (by rw [hce]; exact h4.rd 1475 e (by decide)) (fun σ5 h5 g5 => ?_)
  refine ⟨h5.mx, fun r5 e5 => ⟨h5.mx, h5.mx, h5.arr 1476 (by decide) ⟨vp_in_nI he (by decide), A 1485, e5.trans (h5.rf 1485 (by decide)), h5.kd 1485 (by decide), by rw [h5.sc, mA_1, mA_1, mA_1, mA_1, mA_1, hnr]; exact vp_in_nI h512 (by decide), ?_⟩⟩⟩
  refine h5.setA g5 1485 (by decide) (i' := nr) (y := V.2.1 1476 e) (by rw [h5.sc, mA_1, mA_1, mA_1, mA_1, mA_1]; exact hr) (by rw [hce]; exact h5.rd 1476 e (by decide)) (fun σ6 h6 g6 => ?_)
  refine ⟨h6.mx, fun r6 e6 => ⟨h6.mx, h6.mx, h6.arr 1466 (by decide) ⟨vp_in_nI hib.2 (by decide), A 1486, e6.trans (h6.rf 1486 (by decide)), h6.kd 1486 (by decide), by rw [h6.sc, mA_1, mA_1, mA_1, mA_1, mA_1, mA_1, hnr]; exact vp_in_nI h512 (by decide), ?_⟩⟩⟩
  refine h6.setA g6 1486 (by decide) (i' := nr) (y := V.2.1 1466 b) (by rw [h6.sc, mA_1, mA_1, mA_1, mA_1, mA_1, mA_1]; exact hr) (by rw [hcb]; exact h6.rd 1466 b (by decide)) (fun σ7 h7 g7 => ?_)
  refine ⟨h7.mx, fun r7 e7 => ⟨h7.mx, A 1487, e7.trans (h7.rf 1487 (by decide)), h7.kd 1487 (by decide), by rw [h7.sc, mA_1, mA_1, mA_1, mA_1, mA_1, mA_1, mA_1, hnr]; exact vp_in_nI h512 (by decide), ?_⟩⟩
  refine h7.setA g7 1487 (by decide) (i' := nr) (by rw [h7.sc, mA_1, mA_1, mA_1, mA_1, mA_1, mA_1, mA_1]; exact hr) rfl (fun σ8 h8 g8 => ⟨h8.mx, h8.mx, ?_⟩)
  exact h8.setS g8 479 (by decide) (y := V.1 479 + 1) (by rw [h8.sc]; rfl) (fun σ10 h10 g10 => hp σ10 h10 g10)
end MW
