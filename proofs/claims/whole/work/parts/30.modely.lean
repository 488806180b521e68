/-! THE MODEL'S METHODS over its view: items done, looks -/
section MY
variable {mx : Nat} {A : Nat → Nat} {V : MV} {σ : St}
theorem wy_lt (V : MV) (na r : Nat) : wy V na r < 5 := by
  unfold wy
  split
  · decide
  · cases ac V na (V.2.1 1482 r) (V.2.1 1483 r) with
    | none => exact (by decide : 3 < 5)
    | some a => dsimp only; repeat' split <;> try decide
theorem m_backFault (hM : MI mx A V σ) {post : Int32 → St → Prop} {na r : Nat} (hna : V.1 454 = nI na) (h12 : na ≤ 12) (hr : r < 512) (hp : post (nI (wy V na r)) σ) : wX8_backFault mx (nI r) post σ := by
  unfold wy at hp
  have er : (nI r).toNatClampNeg = r := nI_clamp (by omega)
  unfold wX8_backFault
  refine ⟨hM.mx, hM.arr 1483 (by decide) ⟨vp_in_nI hr (by decide), ?_⟩⟩
  rw [er, hM.rd 1483 r (by decide)]
  refine m_right (n := 6) (by decide) (by decide) ⟨fun c => ?_, fun c => ?_⟩
  rotate_left
  · rw [if_pos c] at hp
    exact br_t rfl hp
  rw [if_neg (fun z => z c)] at hp
  refine br_f (by decide) ⟨hM.mx, hM.arr 1482 (by decide) ⟨vp_in_nI hr (by decide), hM.mx, hM.arr 1483 (by decide) ⟨vp_in_nI hr (by decide), hM.mx, ?_⟩⟩⟩
  rw [hM.rd 1482 r (by decide), hM.rd 1483 r (by decide)]
  refine m_accountOf hM hna h12 ?_
  cases ha : ac V na (V.2.1 1482 r) (V.2.1 1483 r) with
  | none =>
    rw [ha] at hp
    exact br_f (show ¬ (0 : Int32) ≤ -1 by decide) hp
  | some a =>
    rw [ha] at hp
    dsimp only at hp
    have ha12 : a < 12 := by have := (fnd_some ha).2.1; omega
    have ea : (nI a).toNatClampNeg = a := nI_clamp (by omega)
    rw [show oI (some a) = nI a from rfl]
    refine br_t (nI_pos' (by omega)) ⟨hM.mx, hM.arr 1458 (by decide) ⟨vp_in_nI ha12 (by decide), ?_⟩⟩
    rw [ea, hM.rd 1458 a (by decide)]
    by_cases c2 : V.2.1 1458 a = 0
    rotate_left
    · rw [if_pos c2] at hp
      exact br_f c2 hp
    rw [if_neg (fun z => z c2)] at hp
    refine br_t c2 ⟨hM.mx, hM.arr 1480 (by decide) ⟨vp_in_nI hr (by decide), ?_⟩⟩
    rw [hM.rd 1480 r (by decide)]
    by_cases c7 : V.2.1 1480 r = 7
    rotate_left
    · rw [if_neg (fun z => c7 z.1)] at hp
      exact br_f c7 hp
    refine br_t c7 ⟨hM.mx, hM.arr 1457 (by decide) ⟨vp_in_nI ha12 (by decide), hM.mx, hM.arr 1484 (by decide) ⟨vp_in_nI hr (by decide), ?_⟩⟩⟩
    rw [hM.rj 1457 a (by decide), hM.rd 1484 r (by decide), lg_cmp_ge]
    by_cases c8 : V.2.2 1457 a < (V.2.1 1484 r).toInt64
    · rw [if_pos ⟨c7, c8⟩] at hp
      refine br_f (fun z => ?_) hp
      rw [Int64.le_iff_toInt_le] at z
      rw [Int64.lt_iff_toInt_lt] at c8
      omega
    · rw [if_neg (fun z => c8 z.2)] at hp
      refine br_t ?_ hp
      rw [Int64.lt_iff_toInt_lt] at c8
      rw [Int64.le_iff_toInt_le]
      omega
theorem m_does (hM : MI mx A V σ) {post : Int32 → St → Prop} {na p r : Nat} (hna : V.1 454 = nI na) (h12 : na ≤ 12) (hp25 : p < 2560) (hpr : V.2.1 1492 p = nI r) (hr : r < 512) (hp : ∀ σ', MI mx A (doV na V p).2 σ' → AG cTag σ σ' → post (doV na V p).1 σ') : wX8_does mx (nI p) post σ := by
  have ep : (nI p).toNatClampNeg = p := nI_clamp (by omega)
  have er : (nI r).toNatClampNeg = r := nI_clamp (by omega)
  unfold doV at hp
  rw [hpr, er] at hp
  dsimp only at hp
  unfold wX8_does
  refine ⟨hM.mx, hM.arr 1492 (by decide) ⟨vp_in_nI hp25 (by decide), nm_r (e' := nI r) (by rw [ep, hM.rd 1492 p (by decide)]; exact hpr) ⟨hM.mx, hM.arr 1494 (by decide) ⟨vp_in_nI hp25 (by decide), ?_⟩⟩⟩⟩
  refine hM.setA AG.rfl' 1494 (by decide) ep rfl (fun σ1 h1 g1 => ⟨h1.mx, h1.arr 1493 (by decide) ⟨vp_in_nI hp25 (by decide), ?_⟩⟩)
  rw [ep, h1.rd 1493 p (by decide), show (mA V 1494 p 1).2.1 1493 p = V.2.1 1493 p from rfl]
  by_cases c : V.2.1 1493 p = 0
  rotate_left
  · rw [if_pos c] at hp
    exact br_f c (hp σ1 h1 g1)
  rw [if_neg (fun z => z c)] at hp
  refine br_t c ⟨h1.mx, m_backFault h1 hna h12 hr ?_⟩
  have ew : wy (mA V 1494 p 1) na r = wy V na r := rfl
  rw [ew]
  have hw := wy_lt V na r
  refine pk_le (wy V na r) 0 (fun c0 => ?_) (fun c0 => ?_) (ha := by omega)
  · rw [if_neg (by omega)] at hp
    refine ⟨h1.mx, h1.arr 1482 (by decide) ⟨vp_in_nI hr (by decide), h1.mx, h1.arr 1483 (by decide) ⟨vp_in_nI hr (by decide), h1.mx, ?_⟩⟩⟩
    rw [er, h1.rd 1482 r (by decide), h1.rd 1483 r (by decide)]
    refine m_accountOf h1 hna h12 ?_
    show _ ∧ _
    have eac : ac (mA V 1494 p 1) na ((mA V 1494 p 1).2.1 1482 r) ((mA V 1494 p 1).2.1 1483 r) = ac V na (V.2.1 1482 r) (V.2.1 1483 r) := rfl
    rw [eac]
    cases ha : ac V na (V.2.1 1482 r) (V.2.1 1483 r) with
    | none =>
      exfalso
      unfold wy at c0
      rw [ha] at c0
      by_cases q : ¬ rgt (V.2.1 1483 r) 6
      · rw [if_pos q] at c0; omega
      · rw [if_neg q] at c0; dsimp only at c0; omega
    | some a =>
      rw [ha] at hp
      dsimp only at hp
      have ha12 : a < 12 := by have := (fnd_some ha).2.1; omega
      have ea : (nI a).toNatClampNeg = a := nI_clamp (by omega)
      rw [show oI (some a) = nI a from rfl]
      have k155 : ∀ y : Int64, y = amtV V r (V.2.2 1457 a) → wX8_does_155 mx post (some (A 1457)) (nI a) y σ1 := fun y hy => by
        subst hy
        unfold wX8_does_155
        exact ⟨A 1457, rfl, h1.kd 1457 (by decide), vp_in_nI ha12 (by decide), h1.setJ g1 1457 (by decide) ea rfl (fun σ2 h2 g2 => hp σ2 h2 g2)⟩
      refine ⟨h1.mx, fun r42 e42 => ?_⟩
      have e42 : r42 = some (A 1457) := e42.trans (h1.rf 1457 (by decide))
      subst e42
      refine ⟨h1.mx, h1.arr 1480 (by decide) ⟨vp_in_nI hr (by decide), ?_⟩⟩
      rw [ea, h1.rd 1480 r (by decide), show (mA V 1494 p 1).2.1 1480 r = V.2.1 1480 r from rfl]
      by_cases c2 : V.2.1 1480 r = 2
      · refine br_t c2 ⟨h1.mx, h1.arr 1457 (by decide) ⟨vp_in_nI ha12 (by decide), h1.mx, h1.arr 1484 (by decide) ⟨vp_in_nI hr (by decide), ?_⟩⟩⟩
        refine k155 _ ?_
        rw [h1.rj 1457 a (by decide), h1.rd 1484 r (by decide)]
        unfold amtV
        rw [if_pos c2]
        rfl
      · refine br_f c2 ⟨h1.mx, h1.arr 1457 (by decide) ⟨vp_in_nI ha12 (by decide), h1.mx, h1.arr 1484 (by decide) ⟨vp_in_nI hr (by decide), ?_⟩⟩⟩
        refine k155 _ ?_
        rw [h1.rj 1457 a (by decide), h1.rd 1484 r (by decide)]
        unfold amtV
        rw [if_neg c2]
        rfl
  · rw [if_pos (by omega)] at hp
    refine ⟨h1.mx, h1.arr 1494 (by decide) ⟨vp_in_nI hp25 (by decide), ?_⟩⟩
    refine h1.setA g1 1494 (by decide) rfl rfl (fun σ2 h2 g2 => ⟨h2.mx, fun r80 e80 => ⟨A 1495, e80.trans (h2.rf 1495 (by decide)), m_tal h2 g2 (by omega) (fun σ3 h3 g3 => ⟨h3.mx, h3.arr 1488 (by decide) ⟨vp_in_nI hr (by decide), ?_⟩⟩)⟩⟩)
    refine h3.setA g3 1488 (by decide) er rfl (fun σ4 h4 g4 => ⟨h4.mx, h4.arr 1487 (by decide) ⟨vp_in_nI hr (by decide), ?_⟩⟩)
    refine h4.setA g4 1487 (by decide) er rfl (fun σ5 h5 g5 => ⟨h5.mx, fun r100 e100 => ⟨h5.mx, A 1489, e100.trans (h5.rf 1489 (by decide)), h5.kd 1489 (by decide), vp_in_nI hr (by decide), ?_⟩⟩)
    refine h5.setA g5 1489 (by decide) (y := V.1 490) er (by rw [h5.sc]; rfl) (fun σ6 h6 g6 => ⟨h6.mx, h6.mx, ?_⟩)
    exact h6.setS g6 490 (by decide) (y := V.1 490 + 1) (by rw [h6.sc]; rfl) (fun σ7 h7 g7 => hp σ7 h7 g7)
theorem doV_A (na : Nat) (V : MV) (p t : Nat) (h4 : t ≠ 1494) (h5 : t ≠ 1495) (h7 : t ≠ 1487) (h8 : t ≠ 1488) (h9 : t ≠ 1489) : (doV na V p).2.2.1 t = V.2.1 t := by
  funext j
  unfold doV
  dsimp only
  split
  · simp [mA_2, h4]
  · split
    · simp [mA_2, mS_2, tlV, h4, h5, h7, h8, h9]
    · split <;> simp [mA_2, mJ_2, h4]
theorem doV_S (na : Nat) (V : MV) (p f : Nat) (h : f ≠ 490) : (doV na V p).2.1 f = V.1 f := by
  unfold doV
  dsimp only
  split
  · rfl
  · split
    · simp [mA_1, mS_1, tlV, h]
    · split <;> rfl
theorem doV_4 (na : Nat) (V : MV) (p j : Nat) (h : j ≠ p) : (doV na V p).2.2.1 1494 j = V.2.1 1494 j := by
  unfold doV
  dsimp only
  split
  · simp [mA_2, h]
  · split
    · simp [mA_2, mS_2, tlV, h]
    · split <;> simp [mA_2, mJ_2, h]
/-- m items done one after the other, from k on -/
def dps (na b : Nat) : Nat → Nat → Int32 × MV → Int32 × MV
  | 0, _, s => s
  | m + 1, k, s => dps na b m (k + 1) (s.1 + (doV na s.2 (512 * b + k)).1, (doV na s.2 (512 * b + k)).2)
def PW (na b len k : Nat) (V : MV) : Prop := V.2.1 1491 b = nI len ∧ V.1 454 = nI na ∧ (∀ j, j < len → ∃ r, r < 512 ∧ V.2.1 1492 (512 * b + j) = nI r) ∧ ∀ j, k ≤ j → j < len → V.2.1 1494 (512 * b + j) = 0
theorem PW.next {na b len k : Nat} (h : PW na b len k V) : PW na b len (k + 1) (doV na V (512 * b + k)).2 := by
  obtain ⟨h1, h2, h3, h4⟩ := h
  refine ⟨?_, ?_, fun j hj => ?_, fun j h5 h6 => ?_⟩
  · rw [doV_A na V _ 1491 (by decide) (by decide) (by decide) (by decide) (by decide)]; exact h1
  · rw [doV_S na V _ 454 (by decide)]; exact h2
  · rw [doV_A na V _ 1492 (by decide) (by decide) (by decide) (by decide) (by decide)]; exact h3 j hj
  · rw [doV_4 na V _ _ (by omega)]; exact h4 j (by omega) h6
theorem m_post_do {σ0 : St} {post : Int32 → St → Prop} {na b len : Nat} (hb : b < 5) (h12 : na ≤ 12) (h512 : len ≤ 512) : ∀ d k left (V : MV) (σ : St) (s : Int32), k + d = len → left ≤ 40 → MI mx A V σ → AG cTag σ0 σ → PW na b len k V → (∀ σ', MI mx A (dps na b (min left d) k (s, V)).2 σ' → AG cTag σ0 σ' → post (dps na b (min left d) k (s, V)).1 σ') → wX8_post_32 mx post (d + 1) (nI b) s (nI left) (nI k) σ := by
  intro d
  induction d with
  | zero =>
    intro k left V σ s hk hl hM g hw hp
    rw [Nat.min_zero] at hp
    unfold wX8_post_32
    refine ⟨hM.mx, hM.arr 1491 (by decide) ⟨vp_in_nI hb (by decide), ?_⟩⟩
    rw [nI_clamp (show b < 2 ^ 31 by omega), hM.rd 1491 b (by decide), hw.1]
    exact pk_le len k (fun _ => hp σ hM g) (fun hc => absurd hc (by omega))
  | succ d ih =>
    intro k left V σ s hk hl hM g hw hp
    unfold wX8_post_32
    refine ⟨hM.mx, hM.arr 1491 (by decide) ⟨vp_in_nI hb (by decide), ?_⟩⟩
    rw [nI_clamp (show b < 2 ^ 31 by omega), hM.rd 1491 b (by decide), hw.1]
    refine pk_le len k (fun hc => absurd hc (by omega)) (fun _ => pk_le left 0 (fun hc => ?_) (fun hc => ⟨hM.mx, hM.arr 1494 (by decide) ⟨?_, ?_⟩⟩))
    · have : left = 0 := by omega
      subst this
      rw [Nat.zero_min] at hp
      exact hp σ hM g
    · rw [at_b]; exact vp_in_nI (by omega) (by decide)
    · rw [at_b, nI_clamp (show 512 * b + k < 2 ^ 31 by omega), hM.rd 1494 _ (by decide)]
      obtain ⟨r, hr, hr2⟩ := hw.2.2.1 k (by omega)
      refine br_t (hw.2.2.2 k (Nat.le_refl _) (by omega)) ⟨hM.mx, m_does hM hw.2.1 h12 (by omega) hr2 hr (fun σ1 h1 g1 => ?_)⟩
      obtain ⟨l2, rfl⟩ : ∃ l2, left = l2 + 1 := ⟨left - 1, by omega⟩
      refine nm_e (nm_r (pk_m1 l2) (nm_r (nI_1 k) (ih (k + 1) l2 _ σ1 _ (by omega) (by omega) h1 (g.trans g1) hw.next ?_)))
      rw [show min (l2 + 1) (d + 1) = min l2 d + 1 by omega] at hp
      exact hp
theorem m_post (hM : MI mx A V σ) {post : Int32 → St → Prop} {nb na : Nat} (p n : Int32) (hnb : V.1 450 = nI nb) (h5 : nb ≤ 5) (hna : V.1 454 = nI na) (h12 : na ≤ 12) (hbad : ((∀ k, k < nb → p ≠ nI k) ∨ ∀ m, 1 ≤ m → m ≤ 40 → n ≠ nI m) → post (-1) σ)
    (hgo : ∀ b m, b < nb → p = nI b → 1 ≤ m → m ≤ 40 → n = nI m → ∃ len dn, len ≤ 512 ∧ dn ≤ len ∧ PW na b len dn V ∧ (∀ j, j < dn → ¬ V.2.1 1494 (512 * b + j) = 0) ∧ ∀ σ', MI mx A (dps na b (min m (len - dn)) dn (0, V)).2 σ' → AG cTag σ σ' → post (dps na b (min m (len - dn)) dn (0, V)).1 σ') : wX8_post mx p n post σ := by
  unfold wX8_post
  refine ⟨hM.mx, ?_⟩
  rw [hM.sc, hnb]
  rcases nI_lt_cases p nb (by omega) with ⟨b, hb, rfl⟩ | hr
  rotate_left
  · refine m_within_f hr (br_t rfl (hbad (Or.inl (fun k hk e => ?_))))
    subst e
    rcases hr with h | ⟨h, h2⟩
    · exact nI_pos (n := k) (by omega) h
    · exact nI_ge hk (by omega) h2
  refine m_within_t hb (by omega) rfl (br_f (by decide) ?_)
  by_cases c1 : n < 1
  · refine br_t c1 (hbad (Or.inr (fun m h1 h2 e => ?_)))
    subst e
    exact nI_nlt (a := m) (b := 1) h1 (by omega) c1
  refine br_f c1 ?_
  by_cases c2 : n ≤ 40
  rotate_left
  · refine br_f c2 (hbad (Or.inr (fun m h1 h2 e => ?_)))
    subst e
    exact c2 (nI_le (b := 40) h2 (by decide))
  refine br_t c2 ?_
  obtain ⟨m, hm31, rfl⟩ := nI_of (x := n) (fun z => by
    rw [Int32.lt_iff_toInt_lt] at z c1
    have e1 : (1 : Int32).toInt = 1 := by decide
    have e0 : (0 : Int32).toInt = 0 := by decide
    omega)
  have h1 : 1 ≤ m := by
    rcases Nat.lt_or_ge m 1 with h | h
    · exact absurd (nI_lt (b := 1) h (by decide)) c1
    · exact h
  have h40 : m ≤ 40 := (nI_leI (b := 40) hm31 (by decide)).mp c2
  obtain ⟨len, dn, q1, q2, q3, q4, q5⟩ := hgo b m hb rfl h1 h40 rfl
  have skip : ∀ d k, k + d = dn → wX8_post_32 mx post (d + (len - dn + 1)) (nI b) 0 (nI m) (nI k) σ := by
    intro d
    induction d with
    | zero =>
      intro k hk
      have hk : k = dn := by omega
      subst hk
      rw [Nat.zero_add]
      exact m_post_do (by omega) h12 q1 (len - k) k m V σ 0 (by omega) h40 hM AG.rfl' q3 q5
    | succ d ih =>
      intro k hk
      rw [show d + 1 + (len - dn + 1) = d + (len - dn + 1) + 1 by omega]
      unfold wX8_post_32
      refine ⟨hM.mx, hM.arr 1491 (by decide) ⟨vp_in_nI (by omega) (by decide), ?_⟩⟩
      rw [nI_clamp (show b < 2 ^ 31 by omega), hM.rd 1491 b (by decide), q3.1]
      refine pk_le len k (fun hc => absurd hc (by omega)) (fun _ => pk_le m 0 (fun hc => absurd hc (by omega)) (fun hc => ⟨hM.mx, hM.arr 1494 (by decide) ⟨?_, ?_⟩⟩))
      · rw [at_b]; exact vp_in_nI (by omega) (by decide)
      · rw [at_b, nI_clamp (show 512 * b + k < 2 ^ 31 by omega), hM.rd 1494 _ (by decide)]
        exact br_f (q4 k (by omega)) (nm_r (nI_1 k) (ih (k + 1) (by omega)))
  exact ⟨dn + (len - dn + 1), skip dn 0 (by omega)⟩
end MY
