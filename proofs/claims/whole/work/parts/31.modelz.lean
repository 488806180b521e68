/-! THE MODEL'S METHODS over its view: looks; the model made -/
def outp (V : MV) (w r : Nat) : Int64 := if w = 0 then 1 else if w = 1 then (V.2.1 1451 (V.2.1 1482 r).toNatClampNeg).toInt64 else if w = 2 ∧ V.2.1 1480 r = 7 then (V.2.1 1484 r).toInt64 else if w = 3 ∧ V.2.1 1480 r = 2 then (V.2.1 1484 r).toInt64 else 0
def itm (V : MV) (p r w : Nat) : Int32 := if w = 0 then V.2.1 1480 r else if w = 1 then (if V.2.1 1493 p = 0 then V.2.1 1481 r else V.2.1 1482 r) else if w = 2 then V.2.1 1483 r else if w = 3 then V.2.1 1484 r else if w = 4 then V.2.1 1485 r else if w = 5 then (if V.2.1 1493 p = 0 then 0 else V.2.1 1488 r) else V.2.1 1494 p
theorem nI_no {y : Int32} {n : Nat} (hn : n < 2 ^ 31) (h : y < 0 ∨ (¬ y < 0 ∧ nI n ≤ y)) : ∀ k, k < n → y ≠ nI k := fun k hk e => by
  subst e
  rcases h with h | ⟨h, h2⟩
  · exact nI_pos (n := k) (by omega) h
  · exact nI_ge hk hn h2
section MZ
variable {mx : Nat} {A : Nat → Nat} {V : MV} {σ : St}
theorem m_items (hM : MI mx A V σ) {post : Int32 → St → Prop} {nb : Nat} (p : Int32) (hnb : V.1 450 = nI nb) (h5 : nb ≤ 5) (hbad : (∀ k, k < nb → p ≠ nI k) → post (-1) σ) (hgo : ∀ b, b < nb → p = nI b → post (V.2.1 1491 b) σ) : wX8_items mx p post σ := by
  unfold wX8_items
  refine ⟨hM.mx, ?_⟩
  rw [hM.sc, hnb]
  rcases nI_lt_cases p nb (by omega) with ⟨b, hb, rfl⟩ | hr
  · refine m_within_t hb (by omega) rfl (br_f (by decide) ⟨hM.mx, hM.arr 1491 (by decide) ⟨vp_in_nI (by omega) (by decide), ?_⟩⟩)
    rw [nI_clamp (show b < 2 ^ 31 by omega), hM.rd 1491 b (by decide)]
    exact hgo b hb rfl
  · exact m_within_f hr (br_t rfl (hbad (nI_no (by omega) hr)))
theorem m_ledger (hM : MI mx A V σ) {post : Int64 → St → Prop} {nb : Nat} (p : Int32) (hnb : V.1 450 = nI nb) (h5 : nb ≤ 5) (hbad : (∀ k, k < nb → p ≠ nI k) → post 0 σ) (hgo : ∀ b, b < nb → p = nI b → post (V.2.2 1452 b) σ) : wX8_ledger mx p post σ := by
  unfold wX8_ledger
  refine ⟨hM.mx, ?_⟩
  rw [hM.sc, hnb]
  rcases nI_lt_cases p nb (by omega) with ⟨b, hb, rfl⟩ | hr
  · refine m_within_t hb (by omega) rfl (br_f (by decide) ⟨hM.mx, hM.arr 1452 (by decide) ⟨vp_in_nI (by omega) (by decide), ?_⟩⟩)
    rw [nI_clamp (show b < 2 ^ 31 by omega), hM.rj 1452 b (by decide)]
    exact hgo b hb rfl
  · exact m_within_f hr (br_t rfl (hbad (nI_no (by omega) hr)))
theorem m_balance (hM : MI mx A V σ) {post : Int64 → St → Prop} {na : Nat} (b w : Int32) (hna : V.1 454 = nI na) (h12 : na ≤ 12) (hbad : ac V na b w = none → post (-1) σ) (hgo : ∀ a, ac V na b w = some a → post (V.2.2 1457 a) σ) : wX8_balance mx b w post σ := by
  unfold wX8_balance
  refine ⟨hM.mx, m_accountOf hM hna h12 ?_⟩
  cases ha : ac V na b w with
  | none => exact br_f (show ¬ (0 : Int32) ≤ -1 by decide) (hbad ha)
  | some a =>
    have ha12 : a < 12 := by have := (fnd_some ha).2.1; omega
    rw [show oI (some a) = nI a from rfl]
    refine br_t (nI_pos' (by omega)) ⟨hM.mx, hM.arr 1457 (by decide) ⟨vp_in_nI ha12 (by decide), ?_⟩⟩
    rw [nI_clamp (by omega), hM.rj 1457 a (by decide)]
    exact hgo a ha
def kno (k : Nat) : Prop := (1 ≤ k ∧ k ≤ 4) ∨ (10 ≤ k ∧ k ≤ 13) ∨ (20 ≤ k ∧ k ≤ 24) ∨ (30 ≤ k ∧ k ≤ 33)
theorem m_rejected (hM : MI mx A V σ) {post : Int32 → St → Prop} (p : Int32) (hbad : (∀ k, kno k → p ≠ nI k) → post 0 σ) (hgo : ∀ k, kno k → p = nI k → post (V.2.1 1495 k) σ) : wX8_rejected mx p post σ := by
  have k50 : (∀ k, kno k → p ≠ nI k) → wX8_rejected_50 mx post p σ := fun h => by
    unfold wX8_rejected_50 wX8_rejected_51
    exact br_t rfl (hbad h)
  have k51 : ∀ k, kno k → p = nI k → wX8_rejected_51 mx post p 1 σ := fun k hk e => by
    have hk40 : k < 40 := by unfold kno at hk; omega
    subst e
    unfold wX8_rejected_51
    refine br_f (by decide) ⟨hM.mx, hM.arr 1495 (by decide) ⟨vp_in_nI hk40 (by decide), ?_⟩⟩
    rw [nI_clamp (by omega), hM.rd 1495 k (by decide)]
    exact hgo k hk rfl
  rcases nI_lt_cases p 34 (by decide) with ⟨j, hj, rfl⟩ | hr
  · have no : ¬ kno j → ∀ k, kno k → nI j ≠ nI k := fun h k hk e => by
      have hk40 : k < 40 := by unfold kno at hk; omega
      rw [nI_eq (by omega) (by omega)] at e
      rw [e] at h
      exact h hk
    have a34 : (kno j → 30 ≤ j) → wX8_rejected_34 mx post (nI j) σ := fun h => by
      unfold wX8_rejected_34
      refine pk_lt j 30 (fun c => k50 (no (fun z => by have := h z; omega))) (fun c => pk_lt 33 j (fun c2 => absurd c2 (by omega)) (fun c2 => k51 j (by unfold kno; omega) rfl))
    have a22 : (kno j → 20 ≤ j) → wX8_rejected_22 mx post (nI j) σ := fun h => by
      unfold wX8_rejected_22
      refine pk_lt j 20 (fun c => a34 (fun z => by have := h z; omega)) (fun c => pk_le j 24 (fun c2 => k51 j (by unfold kno; omega) rfl) (fun c2 => a34 (fun z => by unfold kno at z; omega)))
    have a10 : (kno j → 10 ≤ j) → wX8_rejected_10 mx post (nI j) σ := fun h => by
      unfold wX8_rejected_10
      refine pk_lt j 10 (fun c => a22 (fun z => by have := h z; omega)) (fun c => pk_le j 13 (fun c2 => k51 j (by unfold kno; omega) rfl) (fun c2 => a22 (fun z => by unfold kno at z; omega)))
    unfold wX8_rejected
    exact pk_lt j 1 (fun c => a10 (fun z => by unfold kno at z; omega)) (fun c => pk_le j 4 (fun c2 => k51 j (by unfold kno; omega) rfl) (fun c2 => a10 (fun z => by unfold kno at z; omega)))
  · have hn : ∀ k, kno k → p ≠ nI k := fun k hk => nI_no (by decide) hr k (by unfold kno at hk; omega)
    have e34 : (34 : Int32).toInt = 34 := by decide
    unfold wX8_rejected wX8_rejected_10 wX8_rejected_22 wX8_rejected_34
    rcases hr with h | ⟨h, h2⟩
    · have lt : ∀ y : Int32, ¬ y < 0 → p < y := fun y hy => by
        rw [Int32.lt_iff_toInt_lt] at *
        omega
      exact br_t (lt 1 (by decide)) (br_t (lt 10 (by decide)) (br_t (lt 20 (by decide)) (br_t (lt 30 (by decide)) (k50 hn))))
    · have nl : ∀ y : Int32, y < 34 → ¬ p < y := fun y hy z => by
        rw [Int32.lt_iff_toInt_lt] at *
        rw [Int32.le_iff_toInt_le, show nI 34 = (34 : Int32) from rfl] at h2
        omega
      have gt : ∀ y : Int32, y < 34 → ¬ p ≤ y := fun y hy z => by
        rw [Int32.lt_iff_toInt_lt] at hy
        rw [Int32.le_iff_toInt_le] at z
        rw [Int32.le_iff_toInt_le, show nI 34 = (34 : Int32) from rfl] at h2
        omega
      have g33 : (33 : Int32) < p := by
        have := gt 33 (by decide)
        rw [Int32.le_iff_toInt_le] at this
        rw [Int32.lt_iff_toInt_lt]
        omega
      exact br_f (nl 1 (by decide)) (br_f (gt 4 (by decide)) (br_f (nl 10 (by decide)) (br_f (gt 13 (by decide)) (br_f (nl 20 (by decide)) (br_f (gt 24 (by decide)) (br_f (nl 30 (by decide)) (br_t g33 (k50 hn))))))))
theorem m_item (hM : MI mx A V σ) {post : Int32 → St → Prop} {nb : Nat} (p k w : Int32) (hnb : V.1 450 = nI nb) (h5 : nb ≤ 5) (hbad : ((∀ b, b < nb → p ≠ nI b) ∨ (∃ b len, b < nb ∧ p = nI b ∧ V.2.1 1491 b = nI len ∧ ∀ j, j < len → k ≠ nI j) ∨ (∀ j, j < 7 → w ≠ nI j)) → post (-1) σ) (hlen : ∀ b, b < nb → ∃ len, len ≤ 512 ∧ V.2.1 1491 b = nI len) (hgo : ∀ b j x len, b < nb → p = nI b → V.2.1 1491 b = nI len → len ≤ 512 → j < len → k = nI j → x < 7 → w = nI x → ∃ r, r < 512 ∧ V.2.1 1492 (512 * b + j) = nI r ∧ post (itm V (512 * b + j) r x) σ) : wX8_item mx p k w post σ := by
  unfold wX8_item
  refine ⟨hM.mx, ?_⟩
  rw [hM.sc, hnb]
  rcases nI_lt_cases p nb (by omega) with ⟨b, hb, rfl⟩ | hr
  rotate_left
  · exact m_within_f hr (br_t rfl (hbad (Or.inl (nI_no (by omega) hr))))
  obtain ⟨len, hl512, hlen⟩ := hlen b hb
  refine m_within_t hb (by omega) rfl (br_f (by decide) ⟨hM.mx, hM.arr 1491 (by decide) ⟨vp_in_nI (by omega) (by decide), ?_⟩⟩)
  rw [nI_clamp (show b < 2 ^ 31 by omega), hM.rd 1491 b (by decide), hlen]
  rcases nI_lt_cases k len (by omega) with ⟨j, hj, rfl⟩ | hr
  rotate_left
  · exact m_within_f hr (br_t rfl (hbad (Or.inr (Or.inl ⟨b, len, hb, rfl, hlen, nI_no (by omega) hr⟩))))
  refine m_within_t hj (by omega) rfl (br_f (by decide) ?_)
  rcases nI_lt_cases w 7 (by decide) with ⟨x, hx, rfl⟩ | hr
  rotate_left
  · exact m_within_f (y := 7) hr (br_t rfl (hbad (Or.inr (Or.inr (nI_no (by decide) hr)))))
  refine m_within_t (n := 7) hx (by decide) rfl (br_f (by decide) ?_)
  obtain ⟨r, hr, hr2, hp⟩ := hgo b j x len hb rfl hlen hl512 hj rfl hx rfl
  have ea : (nI (512 * b + j)).toNatClampNeg = 512 * b + j := nI_clamp (by omega)
  have er : (nI r).toNatClampNeg = r := nI_clamp (by omega)
  have va : vp_in (nI (512 * b + j)) 2560 := vp_in_nI (by omega) (by decide)
  have vr : vp_in (nI r) 512 := vp_in_nI hr (by decide)
  refine nm_r (at_b b j) ⟨hM.mx, hM.arr 1492 (by decide) ⟨va, nm_r (e' := nI r) (by rw [ea, hM.rd 1492 _ (by decide)]; exact hr2) ?_⟩⟩
  rw [ea, er]
  refine pk_eq x 0 (fun c => ⟨hM.mx, hM.arr 1480 (by decide) ⟨vr, ?_⟩⟩) (fun c0 => ?_)
  · rw [hM.rd 1480 r (by decide)]
    subst c
    exact hp
  refine pk_eq x 1 (fun c => ⟨hM.mx, hM.arr 1493 (by decide) ⟨va, ?_⟩⟩) (fun c1 => ?_)
  · rw [hM.rd 1493 _ (by decide)]
    subst c
    unfold itm at hp
    rw [if_neg (by decide), if_pos rfl] at hp
    by_cases q : V.2.1 1493 (512 * b + j) = 0
    · rw [if_pos q] at hp
      refine br_t q ⟨hM.mx, hM.arr 1481 (by decide) ⟨vr, ?_⟩⟩
      rw [hM.rd 1481 r (by decide)]
      exact hp
    · rw [if_neg q] at hp
      refine br_f q ⟨hM.mx, hM.arr 1482 (by decide) ⟨vr, ?_⟩⟩
      rw [hM.rd 1482 r (by decide)]
      exact hp
  refine pk_eq x 2 (fun c => ⟨hM.mx, hM.arr 1483 (by decide) ⟨vr, ?_⟩⟩) (fun c2 => ?_)
  · rw [hM.rd 1483 r (by decide)]
    subst c
    exact hp
  refine pk_eq x 3 (fun c => ⟨hM.mx, hM.arr 1484 (by decide) ⟨vr, ?_⟩⟩) (fun c3 => ?_)
  · rw [hM.rd 1484 r (by decide)]
    subst c
    exact hp
  refine pk_eq x 4 (fun c => ⟨hM.mx, hM.arr 1485 (by decide) ⟨vr, ?_⟩⟩) (fun c4 => ?_)
  · rw [hM.rd 1485 r (by decide)]
    subst c
    exact hp
  refine pk_eq x 5 (fun c => ⟨hM.mx, hM.arr 1493 (by decide) ⟨va, ?_⟩⟩) (fun c5 => ⟨hM.mx, hM.arr 1494 (by decide) ⟨va, ?_⟩⟩)
  · rw [hM.rd 1493 _ (by decide)]
    subst c
    have hp : post (if V.2.1 1493 (512 * b + j) = 0 then 0 else V.2.1 1488 r) σ := hp
    by_cases q : V.2.1 1493 (512 * b + j) = 0
    · rw [if_pos q] at hp
      exact br_t q hp
    · rw [if_neg q] at hp
      refine br_f q ⟨hM.mx, hM.arr 1488 (by decide) ⟨vr, ?_⟩⟩
      rw [hM.rd 1488 r (by decide)]
      exact hp
  · rw [hM.rd 1494 _ (by decide)]
    unfold itm at hp
    rw [if_neg c0, if_neg c1, if_neg c2, if_neg c3, if_neg c4, if_neg c5] at hp
    exact hp
theorem m_control_28 (hM : MI mx A V σ) {post : Int64 → St → Prop} {b w : Nat} (hb : b < 5) (hw : w < 4) (L : List Nat) (h512 : L.length ≤ 512) (hlen : V.2.1 1491 b = nI L.length) (hL : ∀ k r, L[k]? = some r → V.2.1 1492 (512 * b + k) = nI r ∧ r < 512 ∧ ∃ t, t < 5 ∧ V.2.1 1482 r = nI t) (hp : post (tot (outp V w) L) σ) : ∀ d i, i + d = L.length → wX8_control_28 mx post (d + 1) (nI b) (nI w) (tot (outp V w) (L.take i)) (nI i) σ := by
  intro d
  induction d with
  | zero =>
    intro i hi
    unfold wX8_control_28
    refine ⟨hM.mx, hM.arr 1491 (by decide) ⟨vp_in_nI hb (by decide), ?_⟩⟩
    rw [nI_clamp (show b < 2 ^ 31 by omega), hM.rd 1491 b (by decide), hlen]
    refine pk_le L.length i (fun _ => ?_) (fun hc => absurd hc (by omega))
    rw [List.take_of_length_le (by omega)]
    exact hp
  | succ d ih =>
    intro i hi
    have nx := ih (i + 1) (by omega)
    have hlt : i < L.length := by omega
    have hr := List.getElem?_eq_getElem hlt
    generalize L[i] = r at hr
    obtain ⟨q1, q2, t, q3, q4⟩ := hL i r hr
    have etk : L.take (i + 1) = L.take i ++ [r] := by rw [List.take_add_one, hr]; rfl
    rw [etk, tot_app] at nx
    have ea : (nI (512 * b + i)).toNatClampNeg = 512 * b + i := nI_clamp (by omega)
    have er : (nI r).toNatClampNeg = r := nI_clamp (by omega)
    have vr : vp_in (nI r) 512 := vp_in_nI q2 (by decide)
    have k129 : ∀ y : Int64, y = outp V w r → wX8_control_129 (wX8_control_28 mx post (d + 1)) mx post (nI b) (nI w) (nI i) (tot (outp V w) (L.take i)) y σ := fun y hy => by
      unfold wX8_control_129
      rw [hy]
      exact nm_e (nm_r (nI_1 i) nx)
    have k117 : (V.2.1 1484 r).toInt64 = outp V w r → wX8_control_117 (wX8_control_28 mx post (d + 1)) mx post (nI b) (nI w) (nI i) (nI r) (tot (outp V w) (L.take i)) σ := fun hy => by
      unfold wX8_control_117
      refine ⟨hM.mx, hM.arr 1484 (by decide) ⟨vr, ?_⟩⟩
      rw [er, hM.rd 1484 r (by decide)]
      exact k129 _ hy
    have k101 : (¬ (w = 2 ∧ V.2.1 1480 r = 7)) → 2 ≤ w → wX8_control_101 (wX8_control_28 mx post (d + 1)) mx post (nI b) (nI w) (nI i) (nI r) (tot (outp V w) (L.take i)) σ := fun hy hw2 => by
      unfold wX8_control_101 wX8_control_128
      refine pk_eq w 3 (fun h3 => ⟨hM.mx, hM.arr 1480 (by decide) ⟨vr, ?_⟩⟩) (fun h3 => ?_)
      · rw [er, hM.rd 1480 r (by decide)]
        by_cases c : V.2.1 1480 r = 2
        · exact br_t c (k117 (by unfold outp; rw [if_neg (by omega), if_neg (by omega), if_neg hy, if_pos ⟨h3, c⟩]))
        · exact br_f c (k129 _ (by unfold outp; rw [if_neg (by omega), if_neg (by omega), if_neg hy, if_neg (fun z => c z.2)]))
      · exact k129 _ (by unfold outp; rw [if_neg (by omega), if_neg (by omega), if_neg hy, if_neg (fun z => h3 z.1)])
    unfold wX8_control_28
    refine ⟨hM.mx, hM.arr 1491 (by decide) ⟨vp_in_nI hb (by decide), ?_⟩⟩
    rw [nI_clamp (show b < 2 ^ 31 by omega), hM.rd 1491 b (by decide), hlen]
    refine pk_le L.length i (fun hc => absurd hc (by omega)) (fun _ => ⟨hM.mx, hM.arr 1492 (by decide) ⟨?_, ?_⟩⟩)
    · rw [at_b]; exact vp_in_nI (by omega) (by decide)
    refine nm_r (e' := nI r) (by rw [at_b, ea, hM.rd 1492 _ (by decide)]; exact q1) ?_
    refine pk_eq w 0 (fun h0 => k129 _ (by unfold outp; rw [if_pos h0])) (fun h0 => ?_)
    refine pk_eq w 1 (fun h1 => ⟨hM.mx, fun r51 e51 => ⟨hM.mx, hM.arr 1482 (by decide) ⟨vr, A 1451, e51.trans (hM.rf 1451 (by decide)), hM.kd 1451 (by decide), ?_⟩⟩⟩) (fun h1 => ?_)
    · have e5 : sI σ 1482 (A 1482) (nI r).toNatClampNeg = nI t := by rw [er, hM.rd 1482 r (by decide)]; exact q4
      rw [e5, nI_clamp (show t < 2 ^ 31 by omega)]
      refine ⟨vp_in_nI q3 (by decide), k129 _ ?_⟩
      rw [hM.rd 1451 t (by decide)]
      unfold outp
      rw [if_neg h0, if_pos h1, q4, nI_clamp (show t < 2 ^ 31 by omega)]
    · refine pk_eq w 2 (fun h2 => ⟨hM.mx, hM.arr 1480 (by decide) ⟨vr, ?_⟩⟩) (fun h2 => k101 (fun z => h2 z.1) (by omega))
      rw [er, hM.rd 1480 r (by decide)]
      by_cases c : V.2.1 1480 r = 7
      · exact br_t c (k117 (by unfold outp; rw [if_neg h0, if_neg h1, if_pos ⟨h2, c⟩]))
      · exact br_f c (k101 (fun z => c z.2) (by omega))
theorem m_control (hM : MI mx A V σ) {post : Int64 → St → Prop} {nb : Nat} (p w : Int32) (hnb : V.1 450 = nI nb) (h5 : nb ≤ 5) (hbad : ((∀ b, b < nb → p ≠ nI b) ∨ (∀ j, j < 4 → w ≠ nI j)) → post (-1) σ) (hgo : ∀ b x, b < nb → p = nI b → x < 4 → w = nI x → ∃ L : List Nat, L.length ≤ 512 ∧ V.2.1 1491 b = nI L.length ∧ (∀ k r, L[k]? = some r → V.2.1 1492 (512 * b + k) = nI r ∧ r < 512 ∧ ∃ t, t < 5 ∧ V.2.1 1482 r = nI t) ∧ post (tot (outp V x) L) σ) : wX8_control mx p w post σ := by
  unfold wX8_control
  refine ⟨hM.mx, ?_⟩
  rw [hM.sc, hnb]
  rcases nI_lt_cases p nb (by omega) with ⟨b, hb, rfl⟩ | hr
  rotate_left
  · exact m_within_f hr (br_t rfl (hbad (Or.inl (nI_no (by omega) hr))))
  refine m_within_t hb (by omega) rfl (br_f (by decide) ?_)
  rcases nI_lt_cases w 4 (by decide) with ⟨x, hx, rfl⟩ | hr
  rotate_left
  · exact m_within_f (y := 4) hr (br_t rfl (hbad (Or.inr (nI_no (by decide) hr))))
  obtain ⟨L, q1, q2, q3, q4⟩ := hgo b x hb rfl hx rfl
  refine m_within_t (n := 4) hx (by decide) rfl (br_f (by decide) ⟨L.length + 1, ?_⟩)
  exact m_control_28 hM (by omega) hx L q1 q2 q3 q4 L.length 0 (by omega)
def wtB (V : MV) (b : Nat) (r : Nat) : Bool := decide (V.2.1 1487 r = 0 ∧ V.2.1 1482 r = nI b)
def rtB (V : MV) (b : Nat) (r : Nat) : Bool := decide (V.2.1 1487 r = 2 ∧ V.2.1 1481 r = nI b)
theorem m_waiting_26 (hM : MI mx A V σ) {post : Int32 → St → Prop} {nr b w : Nat} (hw : w < 2) (hnr : V.1 479 = nI nr) (h512 : nr ≤ 512) (hp : post (nI (cntL (fun r => if w = 0 then wtB V b r else rtB V b r) nr)) σ) : ∀ d i, i + d = nr → wX8_waiting_26 mx post (d + 1) (nI b) (nI w) (nI (cntL (fun r => if w = 0 then wtB V b r else rtB V b r) i)) (nI i) σ := by
  intro d
  induction d with
  | zero =>
    intro i hi
    have : i = nr := by omega
    subst this
    unfold wX8_waiting_26
    exact ⟨hM.mx, pk_le i i (fun _ => hp) (fun h => absurd h (by omega)) (hx := (hM.sc 479).trans hnr)⟩
  | succ d ih =>
    intro i hi
    have nx := ih (i + 1) (by omega)
    rw [cntL_succ] at nx
    have ei : (nI i).toNatClampNeg = i := nI_clamp (by omega)
    generalize cntL (fun r => if w = 0 then wtB V b r else rtB V b r) i = cc at nx
    have k0 : (if w = 0 then wtB V b i else rtB V b i) = false → wX8_waiting_95 (wX8_waiting_26 mx post (d + 1)) mx post (nI b) (nI w) (nI cc) (nI i) 0 σ := fun hc => by
      rw [if_neg (by rw [hc]; decide), Nat.add_zero] at nx
      unfold wX8_waiting_95 wX8_waiting_109
      exact br_t rfl (nm_r (nI_1 i) nx)
    have k1 : (if w = 0 then wtB V b i else rtB V b i) = true → wX8_waiting_95 (wX8_waiting_26 mx post (d + 1)) mx post (nI b) (nI w) (nI cc) (nI i) 1 σ := fun hc => by
      rw [if_pos hc] at nx
      unfold wX8_waiting_95 wX8_waiting_109
      refine br_f (by decide) (nm_r (nI_1 i) ?_)
      rw [nI_1]
      exact nx
    unfold wX8_waiting_26
    refine ⟨hM.mx, pk_le nr i (fun h => absurd h (by omega)) (fun _ => ?_) (hx := (hM.sc 479).trans hnr)⟩
    refine pk_eq w 0 (fun h0 => ⟨hM.mx, hM.arr 1487 (by decide) ⟨vp_in_nI (by omega) (by decide), ?_⟩⟩) (fun h0 => ⟨hM.mx, hM.arr 1487 (by decide) ⟨vp_in_nI (by omega) (by decide), ?_⟩⟩)
    · rw [ei, hM.rd 1487 i (by decide)]
      rw [if_pos h0] at k0 k1
      by_cases c : V.2.1 1487 i = 0
      · refine br_t c ⟨hM.mx, hM.arr 1482 (by decide) ⟨vp_in_nI (by omega) (by decide), ?_⟩⟩
        rw [hM.rd 1482 i (by decide)]
        by_cases c2 : V.2.1 1482 i = nI b
        · exact br_t c2 (k1 (decide_eq_true ⟨c, c2⟩))
        · exact br_f c2 (k0 (decide_eq_false (fun z => c2 z.2)))
      · exact br_f c (k0 (decide_eq_false (fun z => c z.1)))
    · rw [ei, hM.rd 1487 i (by decide)]
      rw [if_neg h0] at k0 k1
      by_cases c : V.2.1 1487 i = 2
      · refine br_t c ⟨hM.mx, hM.arr 1481 (by decide) ⟨vp_in_nI (by omega) (by decide), ?_⟩⟩
        rw [hM.rd 1481 i (by decide)]
        by_cases c2 : V.2.1 1481 i = nI b
        · exact br_t c2 (k1 (decide_eq_true ⟨c, c2⟩))
        · refine br_f c2 ?_
          unfold wX8_waiting_94
          exact k0 (decide_eq_false (fun z => c2 z.2))
      · refine br_f c ?_
        unfold wX8_waiting_94
        exact k0 (decide_eq_false (fun z => c z.1))
theorem m_waiting (hM : MI mx A V σ) {post : Int32 → St → Prop} {nb nr : Nat} (p w : Int32) (hnb : V.1 450 = nI nb) (h5 : nb ≤ 5) (hnr : V.1 479 = nI nr) (h512 : nr ≤ 512) (hbad : ((∀ b, b < nb → p ≠ nI b) ∨ (∀ j, j < 2 → w ≠ nI j)) → post (-1) σ) (hgo : ∀ b x, b < nb → p = nI b → x < 2 → w = nI x → post (nI (cntL (fun r => if x = 0 then wtB V b r else rtB V b r) nr)) σ) : wX8_waiting mx p w post σ := by
  unfold wX8_waiting
  refine ⟨hM.mx, ?_⟩
  rw [hM.sc, hnb]
  rcases nI_lt_cases p nb (by omega) with ⟨b, hb, rfl⟩ | hr
  rotate_left
  · exact m_within_f hr (br_t rfl (hbad (Or.inl (nI_no (by omega) hr))))
  refine m_within_t hb (by omega) rfl (br_f (by decide) ?_)
  rcases nI_lt_cases w 2 (by decide) with ⟨x, hx, rfl⟩ | hr
  rotate_left
  · exact m_within_f (y := 2) hr (br_t rfl (hbad (Or.inr (nI_no (by decide) hr))))
  refine m_within_t (n := 2) hx (by decide) rfl (br_f (by decide) ⟨nr + 1, ?_⟩)
  exact m_waiting_26 hM hx hnr h512 (hgo b x hb rfl hx rfl) nr 0 (by omega)
/-! the model made -/
def V0 : MV := (fun _ => 0, fun _ _ => 0, fun _ _ => 0)
def PI (mx : Nat) (A : Nat → Nat) (D : List Nat) (σ : St) : Prop := sK σ mx = 9 ∧ (∀ t, t ∈ D → sR σ (t - 1000) mx 0 = some (A t) ∧ sK σ (A t) = t ∧ ∀ i, sI σ t (A t) i = 0 ∧ sJ σ t (A t) i = 0) ∧ ∀ f, sI σ f mx 0 = 0
theorem PI.step {A : Nat → Nat} {D : List Nat} {σ0 σ : St} {P : St → Prop} (h : PI mx A D σ) (g : AG cTag σ0 σ) (t : Nat) (ht : 1451 ≤ t) (hD : ∀ u ∈ D, u ≠ t ∧ 1451 ≤ u) (k : ∀ (A' : Nat → Nat) (σ' : St), PI mx A' (t :: D) σ' → AG cTag σ0 σ' → P σ') : ∀ q, sK σ q = 0 → ∀ σ2, σ2 = uN σ q t → sK σ2 mx = 9 ∧ ∀ σ4, σ4 = uR σ2 (t - 1000) mx 0 (some q) → P σ4 := by
  intro q hq σ2 e2
  subst e2
  obtain ⟨h1, h2, h3⟩ := h
  have hmq : ¬ mx = q := fun e => by rw [e, hq] at h1; omega
  have hk : sK (uN σ q t) mx = 9 := by rw [sK_uN, if_neg hmq]; exact h1
  refine ⟨hk, fun σ4 e4 => ?_⟩
  subst e4
  refine k (fun u => if u = t then q else A u) _ ⟨hk, fun u hu => ?_, fun f => ?_⟩ ((g.trans (AG.rfl'.uN (fun z => by rw [hq] at z; exact absurd z.1 (by decide)))).trans (AG.rfl'.uR (fun z => by rw [hk] at z; exact z.2 (Or.inl rfl))))
  · rcases List.mem_cons.mp hu with e | hu
    · subst e
      simp only [if_true]
      refine ⟨?_, ?_, fun i => ?_⟩
      · rw [sR_uR, if_pos ⟨rfl, rfl, rfl⟩]
      · rw [sK_uR, sK_uN, if_pos rfl]
      · rw [sI_uR, sI_uN, if_pos rfl, sJ_uR, sJ_uN, if_pos rfl]
        exact ⟨rfl, rfl⟩
    · obtain ⟨d1, d2⟩ := hD u hu
      obtain ⟨w1, w2, w3⟩ := h2 u hu
      have hne : ¬ A u = q := fun e => by rw [e, hq] at w2; omega
      simp only [if_neg d1]
      refine ⟨?_, ?_, fun i => ?_⟩
      · rw [sR_uR, if_neg (fun z => by omega), sR_uN, if_neg hmq]; exact w1
      · rw [sK_uR, sK_uN, if_neg hne]; exact w2
      · rw [sI_uR, sI_uN, if_neg hne, sJ_uR, sJ_uN, if_neg hne]; exact w3 i
  · rw [sI_uR, sI_uN, if_neg hmq]; exact h3 f
theorem m_init {post : St → Prop} (hk : sK σ mx = 9) (h0 : ∀ f, sI σ f mx 0 = 0) (hp : ∀ (A : Nat → Nat) (σ' : St), MI mx A V0 σ' → AG cTag σ σ' → post σ') : wX8_init mx post σ := by
  unfold wX8_init
  have p0 : PI mx (fun _ => 0) [] σ := ⟨hk, fun t h => absurd h List.not_mem_nil, h0⟩
  have g0 : AG cTag σ σ := AG.rfl'
  refine p0.step g0 1451 (by decide) (by decide) (fun A1 σ1 p1 g1 => ?_)
  refine p1.step g1 1452 (by decide) (by decide) (fun A2 σ2 p2 g2 => ?_)
  refine p2.step g2 1455 (by decide) (by decide) (fun A3 σ3 p3 g3 => ?_)
  refine p3.step g3 1456 (by decide) (by decide) (fun A4 σ4 p4 g4 => ?_)
  refine p4.step g4 1457 (by decide) (by decide) (fun A5 σ5 p5 g5 => ?_)
  refine p5.step g5 1458 (by decide) (by decide) (fun A6 σ6 p6 g6 => ?_)
  refine p6.step g6 1464 (by decide) (by decide) (fun A7 σ7 p7 g7 => ?_)
  refine p7.step g7 1465 (by decide) (by decide) (fun A8 σ8 p8 g8 => ?_)
  refine p8.step g8 1466 (by decide) (by decide) (fun A9 σ9 p9 g9 => ?_)
  refine p9.step g9 1467 (by decide) (by decide) (fun A10 σ10 p10 g10 => ?_)
  refine p10.step g10 1468 (by decide) (by decide) (fun A11 σ11 p11 g11 => ?_)
  refine p11.step g11 1469 (by decide) (by decide) (fun A12 σ12 p12 g12 => ?_)
  refine p12.step g12 1470 (by decide) (by decide) (fun A13 σ13 p13 g13 => ?_)
  refine p13.step g13 1471 (by decide) (by decide) (fun A14 σ14 p14 g14 => ?_)
  refine p14.step g14 1472 (by decide) (by decide) (fun A15 σ15 p15 g15 => ?_)
  refine p15.step g15 1473 (by decide) (by decide) (fun A16 σ16 p16 g16 => ?_)
  refine p16.step g16 1474 (by decide) (by decide) (fun A17 σ17 p17 g17 => ?_)
  refine p17.step g17 1475 (by decide) (by decide) (fun A18 σ18 p18 g18 => ?_)
  refine p18.step g18 1476 (by decide) (by decide) (fun A19 σ19 p19 g19 => ?_)
  refine p19.step g19 1477 (by decide) (by decide) (fun A20 σ20 p20 g20 => ?_)
  refine p20.step g20 1480 (by decide) (by decide) (fun A21 σ21 p21 g21 => ?_)
  refine p21.step g21 1481 (by decide) (by decide) (fun A22 σ22 p22 g22 => ?_)
  refine p22.step g22 1482 (by decide) (by decide) (fun A23 σ23 p23 g23 => ?_)
  refine p23.step g23 1483 (by decide) (by decide) (fun A24 σ24 p24 g24 => ?_)
  refine p24.step g24 1484 (by decide) (by decide) (fun A25 σ25 p25 g25 => ?_)
  refine p25.step g25 1485 (by decide) (by decide) (fun A26 σ26 p26 g26 => ?_)
  refine p26.step g26 1486 (by decide) (by decide) (fun A27 σ27 p27 g27 => ?_)
  refine p27.step g27 1487 (by decide) (by decide) (fun A28 σ28 p28 g28 => ?_)
  refine p28.step g28 1488 (by decide) (by decide) (fun A29 σ29 p29 g29 => ?_)
  refine p29.step g29 1489 (by decide) (by decide) (fun A30 σ30 p30 g30 => ?_)
  refine p30.step g30 1491 (by decide) (by decide) (fun A31 σ31 p31 g31 => ?_)
  refine p31.step g31 1492 (by decide) (by decide) (fun A32 σ32 p32 g32 => ?_)
  refine p32.step g32 1493 (by decide) (by decide) (fun A33 σ33 p33 g33 => ?_)
  refine p33.step g33 1494 (by decide) (by decide) (fun A34 σ34 p34 g34 => ?_)
  refine p34.step g34 1495 (by decide) (by decide) (fun A35 σ35 p35 g35 => ?_)
  refine hp A35 σ35 ⟨p35.1, fun t ht => ?_, p35.2.2, fun t i ht => ?_, fun t i ht => ?_⟩ g35
  · have := p35.2.1 t (by simp only [mArr, List.mem_cons, List.not_mem_nil, or_false] at ht ⊢; omega)
    exact ⟨this.1, this.2.1⟩
  · exact ((p35.2.1 t (by simp only [mArr, List.mem_cons, List.not_mem_nil, or_false] at ht ⊢; omega)).2.2 i).1
  · exact ((p35.2.1 t (by simp only [mArr, List.mem_cons, List.not_mem_nil, or_false] at ht ⊢; omega)).2.2 i).2
end MZ
