/-! THE MODEL'S METHODS over its view: those that only look -/
section MQ
variable {mx : Nat} {A : Nat → Nat} {V : MV} {σ : St}
theorem m_within_t {post : Int32 → St → Prop} {k n : Nat} {y : Int32} (hk : k < n) (hn : n < 2 ^ 31) (hy : y = nI n) (hp : post 1 σ) : wX8_within (nI k) y post σ := by
  subst hy
  unfold wX8_within
  exact br_f (nI_pos (by omega)) (br_f (nI_ge hk hn) hp)
theorem m_within_f {post : Int32 → St → Prop} {x y : Int32} (h : x < 0 ∨ (¬ x < 0 ∧ y ≤ x)) (hp : post 0 σ) : wX8_within x y post σ := by
  unfold wX8_within
  rcases h with h | ⟨h, h2⟩
  · exact br_t h hp
  · exact br_f h (br_t h2 hp)
theorem m_bankOf_2 (hM : MI mx A V σ) {post : Int32 → St → Prop} {nb : Nat} (hnb : V.1 450 = nI nb) (h5 : nb ≤ 5) (r : Int32) : ∀ d i, i + d = nb → post (oI (fnd (fun b => decide (V.2.1 1451 b = r)) d i)) σ → wX8_bankOf_2 mx post (d + 1) r (nI i) σ := by
  intro d
  induction d with
  | zero =>
    intro i hi hp
    unfold wX8_bankOf_2
    exact ⟨hM.mx, pk_le nb i (fun _ => hp) (fun h => absurd h (by omega)) (hx := (hM.sc 450).trans hnb)⟩
  | succ d ih =>
    intro i hi hp
    unfold wX8_bankOf_2
    refine ⟨hM.mx, pk_le nb i (fun h => absurd h (by omega)) (fun _ => ⟨hM.mx, hM.arr 1451 (by decide) ⟨vp_in_nI (by omega) (by decide), ?_⟩⟩) (hx := (hM.sc 450).trans hnb)⟩
    rw [nI_clamp (by omega), hM.rd 1451 i (by decide)]
    unfold fnd at hp
    by_cases c : V.2.1 1451 i = r
    · rw [if_pos (decide_eq_true c)] at hp
      exact br_t c hp
    · rw [if_neg (by simpa using c)] at hp
      exact br_f c (nm_r (nI_1 i) (ih (i + 1) (by omega) hp))
theorem m_bankOf (hM : MI mx A V σ) {post : Int32 → St → Prop} {nb : Nat} (hnb : V.1 450 = nI nb) (h5 : nb ≤ 5) {r : Int32} (hp : post (oI (bk V nb r)) σ) : wX8_bankOf mx r post σ := ⟨nb + 1, m_bankOf_2 hM hnb h5 r nb 0 (by omega) hp⟩
theorem m_accountOf_2 (hM : MI mx A V σ) {post : Int32 → St → Prop} {na : Nat} (hna : V.1 454 = nI na) (h12 : na ≤ 12) (b w : Int32) : ∀ d i, i + d = na → post (oI (fnd (fun a => decide (V.2.1 1455 a = b ∧ V.2.1 1456 a = w)) d i)) σ → wX8_accountOf_2 mx post (d + 1) b w (nI i) σ := by
  intro d
  induction d with
  | zero =>
    intro i hi hp
    unfold wX8_accountOf_2
    exact ⟨hM.mx, pk_le na i (fun _ => hp) (fun h => absurd h (by omega)) (hx := (hM.sc 454).trans hna)⟩
  | succ d ih =>
    intro i hi hp
    unfold wX8_accountOf_2
    refine ⟨hM.mx, pk_le na i (fun h => absurd h (by omega)) (fun _ => ⟨hM.mx, hM.arr 1455 (by decide) ⟨vp_in_nI (by omega) (by decide), ?_⟩⟩) (hx := (hM.sc 454).trans hna)⟩
    rw [nI_clamp (by omega), hM.rd 1455 i (by decide)]
    unfold fnd at hp
    by_cases c : V.2.1 1455 i = b
    · refine br_t c ⟨hM.mx, hM.arr 1456 (by decide) ⟨vp_in_nI (by omega) (by decide), ?_⟩⟩
      rw [hM.rd 1456 i (by decide)]
      by_cases c2 : V.2.1 1456 i = w
      · rw [if_pos (decide_eq_true ⟨c, c2⟩)] at hp
        exact br_t c2 hp
      · rw [if_neg (by simp [c2])] at hp
        exact br_f c2 (nm_r (nI_1 i) (ih (i + 1) (by omega) hp))
    · rw [if_neg (by simp [c])] at hp
      exact br_f c (nm_r (nI_1 i) (ih (i + 1) (by omega) hp))
theorem m_accountOf (hM : MI mx A V σ) {post : Int32 → St → Prop} {na : Nat} (hna : V.1 454 = nI na) (h12 : na ≤ 12) {b w : Int32} (hp : post (oI (ac V na b w)) σ) : wX8_accountOf mx b w post σ := ⟨na + 1, m_accountOf_2 hM hna h12 b w na 0 (by omega) hp⟩
/-! sums over the file under way -/
theorem m_total_5 (hM : MI mx A V σ) {post : Int64 → St → Prop} {ne w : Nat} (hne : V.1 463 = nI ne) (h20 : ne ≤ 20) (b : Int32) (hw : w < 4) (hp : post (tot (ep V w) (inB V b ne)) σ) : ∀ d i, i + d = ne → wX8_total_5 mx post (d + 1) b (nI w) (tot (ep V w) (inB V b i)) (nI i) σ := by
  intro d
  induction d with
  | zero =>
    intro i hi
    have : i = ne := by omega
    subst this
    unfold wX8_total_5
    exact ⟨hM.mx, pk_le i i (fun _ => hp) (fun h => absurd h (by omega)) (hx := (hM.sc 463).trans hne)⟩
  | succ d ih =>
    intro i hi
    unfold wX8_total_5
    refine ⟨hM.mx, pk_le ne i (fun h => absurd h (by omega)) (fun _ => ?_) (hx := (hM.sc 463).trans hne)⟩
    have nx := ih (i + 1) (by omega)
    have key : (b < 0 ∨ V.2.1 1471 i = b) → wX8_total_29 (wX8_total_5 mx post (d + 1)) mx post b (nI w) (tot (ep V w) (inB V b i)) (nI i) σ := by
      intro hb
      rw [inB_succ, if_pos hb, tot_app] at nx
      have k98 : ∀ y : Int64, y = ep V w i → wX8_total_98 (wX8_total_5 mx post (d + 1)) mx post b (nI w) (tot (ep V w) (inB V b i)) (nI i) y σ := fun y hy => by
        unfold wX8_total_98
        rw [hy]
        exact nm_e (nm_r (nI_1 i) nx)
      have k86 : (V.2.1 1475 i).toInt64 = ep V w i → wX8_total_86 (wX8_total_5 mx post (d + 1)) mx post b (nI w) (tot (ep V w) (inB V b i)) (nI i) σ := fun hy => by
        unfold wX8_total_86
        refine ⟨hM.mx, hM.arr 1475 (by decide) ⟨vp_in_nI (by omega) (by decide), ?_⟩⟩
        rw [nI_clamp (by omega), hM.rd 1475 i (by decide)]
        exact k98 _ hy
      have k70 : (¬ (w = 2 ∧ V.2.1 1472 i = 7)) → 2 ≤ w → wX8_total_70 (wX8_total_5 mx post (d + 1)) mx post b (nI w) (tot (ep V w) (inB V b i)) (nI i) σ := fun hy hw2 => by
        unfold wX8_total_70
        refine pk_eq w 3 (fun h3 => ⟨hM.mx, hM.arr 1472 (by decide) ⟨vp_in_nI (by omega) (by decide), ?_⟩⟩) (fun h3 => ?_)
        · rw [nI_clamp (by omega), hM.rd 1472 i (by decide)]
          by_cases c : V.2.1 1472 i = 2
          · exact br_t c (k86 (by unfold ep; rw [if_neg (by omega), if_neg (by omega), if_neg hy, if_pos ⟨h3, c⟩]))
          · exact br_f c (k98 _ (by unfold ep; rw [if_neg (by omega), if_neg (by omega), if_neg hy, if_neg (fun z => c z.2)]))
        · exact k98 _ (by unfold ep; rw [if_neg (by omega), if_neg (by omega), if_neg hy, if_neg (fun z => h3 z.1)])
      unfold wX8_total_29
      refine pk_eq w 0 (fun h0 => k98 _ (by unfold ep; rw [if_pos h0])) (fun h0 => ?_)
      refine pk_eq w 1 (fun h1 => ⟨hM.mx, hM.arr 1473 (by decide) ⟨vp_in_nI (by omega) (by decide), ?_⟩⟩) (fun h1 => ?_)
      · rw [nI_clamp (by omega), hM.rd 1473 i (by decide)]
        exact k98 _ (by unfold ep; rw [if_neg h0, if_pos h1])
      · refine pk_eq w 2 (fun h2 => ⟨hM.mx, hM.arr 1472 (by decide) ⟨vp_in_nI (by omega) (by decide), ?_⟩⟩) (fun h2 => k70 (fun z => h2 z.1) (by omega))
        rw [nI_clamp (by omega), hM.rd 1472 i (by decide)]
        by_cases c : V.2.1 1472 i = 7
        · exact br_t c (k86 (by unfold ep; rw [if_neg h0, if_neg h1, if_pos ⟨h2, c⟩]))
        · exact br_f c (k70 (fun z => c z.2) (by omega))
    by_cases hb : b < 0
    · exact br_t hb (key (Or.inl hb))
    · refine br_f hb ⟨hM.mx, hM.arr 1471 (by decide) ⟨vp_in_nI (by omega) (by decide), ?_⟩⟩
      rw [nI_clamp (by omega), hM.rd 1471 i (by decide)]
      by_cases c : V.2.1 1471 i = b
      · exact br_t c (key (Or.inr c))
      · rw [inB_succ, if_neg (fun z => z.elim hb c), List.append_nil] at nx
        exact br_f c (nm_r (nI_1 i) nx)
theorem m_total (hM : MI mx A V σ) {post : Int64 → St → Prop} {ne w : Nat} (hne : V.1 463 = nI ne) (h20 : ne ≤ 20) {b : Int32} (hw : w < 4) (hp : post (tot (ep V w) (inB V b ne)) σ) : wX8_total mx b (nI w) post σ := ⟨ne + 1, m_total_5 hM hne h20 b hw hp ne 0 (by omega)⟩
theorem m_batchFault_129 (hM : MI mx A V σ) {post : Int32 → St → Prop} {ne : Nat} (hne : V.1 463 = nI ne) (h20 : ne ≤ 20) (b : Int32) : ∀ d i, i + d = ne ∨ (i = 1 ∧ ne = 0 ∧ d = 0) → 0 < i → ((∀ e, i ≤ e → e < ne → viol V b e = false) → post 0 σ) → ((¬ ∀ e, i ≤ e → e < ne → viol V b e = false) → post 24 σ) → wX8_batchFault_129 mx post (d + 1) b (nI i) σ := by
  intro d
  induction d with
  | zero =>
    intro i hi h0 hp hq
    unfold wX8_batchFault_129
    exact ⟨hM.mx, pk_le ne i (fun _ => hp (fun e h1 h2 => by omega)) (fun h => absurd h (by omega)) (hx := (hM.sc 463).trans hne)⟩
  | succ d ih =>
    intro i hi h0 hp hq
    unfold wX8_batchFault_129
    refine ⟨hM.mx, pk_le ne i (fun h => absurd h (by omega)) (fun _ => ⟨hM.mx, hM.arr 1471 (by decide) ⟨vp_in_nI (by omega) (by decide), ?_⟩⟩) (hx := (hM.sc 463).trans hne)⟩
    rw [nI_clamp (by omega), hM.rd 1471 i (by decide)]
    have nx : viol V b i = false → wX8_batchFault_129 mx post (d + 1) b (nI (i + 1)) σ := fun hv => ih (i + 1) (by omega) (by omega) (fun h => hp (fun e h1 h2 => by
        by_cases he : e = i
        · rw [he]; exact hv
        · exact h e (by omega) h2)) (fun h => hq (fun h2 => h (fun e h3 h4 => h2 e (by omega) h4)))
    have em1 : nI i - (1 : Int32) = nI (i - 1) := pk_sub (b := 1) h0
    by_cases c : V.2.1 1471 i = b
    · refine br_t c ⟨hM.mx, hM.arr 1471 (by decide) ⟨?_, ?_⟩⟩
      · rw [em1]; exact vp_in_nI (by omega) (by decide)
      rw [em1, nI_clamp (show i - 1 < 2 ^ 31 by omega), hM.rd 1471 (i - 1) (by decide)]
      by_cases c2 : V.2.1 1471 (i - 1) = b
      · refine br_t c2 ⟨hM.mx, hM.arr 1476 (by decide) ⟨vp_in_nI (by omega) (by decide), ⟨hM.mx, hM.arr 1476 (by decide) ⟨vp_in_nI (by omega) (by decide), ?_⟩⟩⟩⟩
        rw [hM.rd 1476 i (by decide), hM.rd 1476 (i - 1) (by decide)]
        by_cases c3 : V.2.1 1476 (i - 1) < V.2.1 1476 i
        · exact br_t c3 (nm_r (nI_1 i) (nx (decide_eq_false (fun z => i32_nle.mpr c3 z.2.2.2))))
        · refine br_f c3 (hq (fun h => ?_))
          have := h i (Nat.le_refl _) (by omega)
          unfold viol at this
          exact absurd ⟨h0, c, c2, i32_nlt.mp c3⟩ (of_decide_eq_false this)
      · exact br_f c2 (nm_r (nI_1 i) (nx (decide_eq_false (fun z => c2 z.2.2.1))))
    · exact br_f c (nm_r (nI_1 i) (nx (decide_eq_false (fun z => c z.2.1))))
theorem gw_iff (V : MV) (b : Int32) (ne : Nat) : gw V b ne = true ↔ ∀ e, 1 ≤ e → e < ne → viol V b e = false := by
  unfold gw
  rw [List.all_eq_true]
  constructor
  · intro h e h1 h2
    have := h e (List.mem_range.mpr h2)
    simpa using this
  · intro h e he
    rw [List.mem_range] at he
    by_cases h0 : e = 0
    · subst h0
      have : viol V b 0 = false := decide_eq_false (fun z => by omega)
      simp [this]
    · simp [h e (by omega) he]
theorem m_batchFault (hM : MI mx A V σ) {post : Int32 → St → Prop} {nb nt ne b : Nat} (hnb : V.1 450 = nI nb) (h5 : nb ≤ 5) (h4 : b < 4) (hne : V.1 463 = nI ne) (h20 : ne ≤ 20) (hp : post (nI (bf V nb ne b)) σ) : wX8_batchFault mx (nI b) post σ := by
  have k40 : ¬ bk V nb (V.2.1 1464 b) = none → ¬ (0 < b ∧ V.2.1 1465 b ≤ V.2.1 1465 (b - 1)) → wX8_batchFault_40 mx post (nI b) σ := fun q1 q2 => by
    unfold bf at hp
    rw [if_neg q1, if_neg q2] at hp
    unfold wX8_batchFault_40
    refine ⟨hM.mx, hM.arr 1466 (by decide) ⟨vp_in_nI (by omega) (by decide), ⟨hM.mx, ?_⟩⟩⟩
    rw [nI_clamp (by omega), hM.rd 1466 b (by decide), hM.sc 453]
    by_cases c : V.2.1 1466 b < V.1 453
    · rw [if_pos c] at hp
      exact br_f (i32_nle.mpr c) hp
    rw [if_neg c] at hp
    refine br_t (i32_nlt.mp c) ⟨hM.mx, hM.arr 1467 (by decide) ⟨vp_in_nI (by omega) (by decide), ⟨hM.mx, ?_⟩⟩⟩
    rw [hM.rd 1467 b (by decide)]
    refine m_total (w := 0) hM hne h20 (by decide) ?_
    rw [lg_cmp_eq]
    by_cases s1 : (V.2.1 1467 b).toInt64 = tot (ep V 0) (inB V (nI b) ne)
    rotate_left
    · rw [if_pos (fun z => s1 z.1)] at hp
      exact br_f s1 hp
    refine br_t s1 ⟨hM.mx, hM.arr 1468 (by decide) ⟨vp_in_nI (by omega) (by decide), ⟨hM.mx, ?_⟩⟩⟩
    rw [hM.rd 1468 b (by decide)]
    refine m_total (w := 1) hM hne h20 (by decide) ?_
    rw [lg_cmp_eq]
    by_cases s2 : (V.2.1 1468 b).toInt64 = tot (ep V 1) (inB V (nI b) ne)
    rotate_left
    · rw [if_pos (fun z => s2 z.2.1)] at hp
      exact br_f s2 hp
    refine br_t s2 ⟨hM.mx, hM.arr 1469 (by decide) ⟨vp_in_nI (by omega) (by decide), ⟨hM.mx, ?_⟩⟩⟩
    rw [hM.rd 1469 b (by decide)]
    refine m_total (w := 2) hM hne h20 (by decide) ?_
    rw [lg_cmp_eq]
    by_cases s3 : (V.2.1 1469 b).toInt64 = tot (ep V 2) (inB V (nI b) ne)
    rotate_left
    · rw [if_pos (fun z => s3 z.2.2.1)] at hp
      exact br_f s3 hp
    refine br_t s3 ⟨hM.mx, hM.arr 1470 (by decide) ⟨vp_in_nI (by omega) (by decide), ⟨hM.mx, ?_⟩⟩⟩
    rw [hM.rd 1470 b (by decide)]
    refine m_total (w := 3) hM hne h20 (by decide) ?_
    rw [lg_cmp_eq]
    by_cases s4 : (V.2.1 1470 b).toInt64 = tot (ep V 3) (inB V (nI b) ne)
    rotate_left
    · rw [if_pos (fun z => s4 z.2.2.2)] at hp
      exact br_f s4 hp
    rw [if_neg (fun z => z ⟨s1, s2, s3, s4⟩)] at hp
    refine br_t s4 ⟨(ne - 1) + 1, m_batchFault_129 hM hne h20 (nI b) (ne - 1) 1 (by omega) (by omega) (fun h => ?_) (fun h => ?_)⟩
    · rw [if_neg (by rw [(gw_iff V (nI b) ne).mpr h]; decide)] at hp
      exact hp
    · rw [if_pos (by rw [← Bool.not_eq_true, gw_iff]; exact h)] at hp
      exact hp
  unfold wX8_batchFault
  refine ⟨hM.mx, hM.arr 1464 (by decide) ⟨vp_in_nI (by omega) (by decide), ⟨hM.mx, ?_⟩⟩⟩
  rw [nI_clamp (by omega), hM.rd 1464 b (by decide)]
  refine m_bankOf hM hnb h5 ?_
  cases hk : bk V nb (V.2.1 1464 b) with
  | none =>
    unfold bf at hp
    rw [if_pos hk] at hp
    exact br_f (show ¬ (0 : Int32) ≤ -1 by decide) hp
  | some k =>
    have hkn : ¬ bk V nb (V.2.1 1464 b) = none := by rw [hk]; simp
    have hk5 : k < 5 := by have := (fnd_some hk).2.1; omega
    refine br_t (nI_pos' (by omega)) ?_
    refine pk_le b 0 (fun h0 => k40 hkn (by omega)) (fun h0 => ?_)
    refine ⟨hM.mx, hM.arr 1465 (by decide) ⟨vp_in_nI (by omega) (by decide), ⟨hM.mx, hM.arr 1465 (by decide) ⟨?_, ?_⟩⟩⟩⟩
    · rw [show nI b - (1 : Int32) = nI (b - 1) from pk_sub (b := 1) h0]; exact vp_in_nI (by omega) (by decide)
    rw [show nI b - (1 : Int32) = nI (b - 1) from pk_sub (b := 1) h0, nI_clamp (show b - 1 < 2 ^ 31 by omega), hM.rd 1465 b (by decide), hM.rd 1465 (b - 1) (by decide)]
    by_cases c : V.2.1 1465 (b - 1) < V.2.1 1465 b
    · exact br_t c (k40 hkn (fun z => i32_nle.mpr c z.2))
    · refine br_f c ?_
      unfold bf at hp
      rw [if_neg hkn, if_pos ⟨h0, i32_nlt.mp c⟩] at hp
      exact hp
theorem m_entryFault (hM : MI mx A V σ) {post : Int32 → St → Prop} {nb e : Nat} (hnb : V.1 450 = nI nb) (h5 : nb ≤ 5) (he : e < 20) (hp : post (nI (ef V nb e)) σ) : wX8_entryFault mx (nI e) post σ := by
  unfold ef at hp
  unfold wX8_entryFault
  refine ⟨hM.mx, hM.arr 1473 (by decide) ⟨vp_in_nI (by omega) (by decide), ?_⟩⟩
  rw [nI_clamp (by omega), hM.rd 1473 e (by decide)]
  refine m_right (n := 4) (by decide) (by decide) ⟨fun c => ?_, fun c => ?_⟩
  rotate_left
  · rw [if_pos c] at hp
    exact br_t rfl hp
  rw [if_neg (fun z => z c)] at hp
  refine br_f (by decide) ⟨hM.mx, hM.arr 1473 (by decide) ⟨vp_in_nI (by omega) (by decide), ⟨hM.mx, ?_⟩⟩⟩
  rw [hM.rd 1473 e (by decide)]
  refine m_bankOf hM hnb h5 ?_
  cases hk : bk V nb (V.2.1 1473 e) with
  | none =>
    rw [if_pos hk] at hp
    exact br_f (show ¬ (0 : Int32) ≤ -1 by decide) hp
  | some k =>
    rw [if_neg (by rw [hk]; simp)] at hp
    have hk5 : k < 5 := by have := (fnd_some hk).2.1; omega
    have k58 : (V.2.1 1472 e = 2 ∨ V.2.1 1472 e = 7) → wX8_entryFault_58 mx post (nI e) σ := fun h => by
      rw [if_neg (fun z => h.elim z.1 z.2)] at hp
      unfold wX8_entryFault_58
      refine ⟨hM.mx, hM.arr 1475 (by decide) ⟨vp_in_nI (by omega) (by decide), ?_⟩⟩
      rw [nI_clamp (by omega), hM.rd 1475 e (by decide)]
      by_cases c : V.2.1 1475 e = 0
      · rw [if_pos c] at hp
        exact br_t c hp
      · rw [if_neg c] at hp
        exact br_f c hp
    refine br_t (nI_pos' (by omega)) ⟨hM.mx, hM.arr 1472 (by decide) ⟨vp_in_nI (by omega) (by decide), ?_⟩⟩
    rw [hM.rd 1472 e (by decide)]
    by_cases c2 : V.2.1 1472 e = 2
    · exact br_t c2 (k58 (Or.inl c2))
    refine br_f c2 ⟨hM.mx, hM.arr 1472 (by decide) ⟨vp_in_nI (by omega) (by decide), ?_⟩⟩
    rw [hM.rd 1472 e (by decide)]
    by_cases c7 : V.2.1 1472 e = 7
    · exact br_t c7 (k58 (Or.inr c7))
    · rw [if_pos ⟨c2, c7⟩] at hp
      exact br_f c7 hp
theorem m_waitingInAll_4 (hM : MI mx A V σ) {post : Int32 → St → Prop} {nr : Nat} (hnr : V.1 479 = nI nr) (h512 : nr ≤ 512) (hp : post (nI (cntL (fun r => decide (V.2.1 1487 r = 0)) nr)) σ) : ∀ d i, i + d = nr → wX8_waitingInAll_4 mx post (d + 1) (nI (cntL (fun r => decide (V.2.1 1487 r = 0)) i)) (nI i) σ := by
  intro d
  induction d with
  | zero =>
    intro i hi
    have : i = nr := by omega
    subst this
    unfold wX8_waitingInAll_4
    exact ⟨hM.mx, pk_le i i (fun _ => hp) (fun h => absurd h (by omega)) (hx := (hM.sc 479).trans hnr)⟩
  | succ d ih =>
    intro i hi
    unfold wX8_waitingInAll_4
    refine ⟨hM.mx, pk_le nr i (fun h => absurd h (by omega)) (fun _ => ⟨hM.mx, hM.arr 1487 (by decide) ⟨vp_in_nI (by omega) (by decide), ?_⟩⟩) (hx := (hM.sc 479).trans hnr)⟩
    rw [nI_clamp (by omega), hM.rd 1487 i (by decide)]
    have nx := ih (i + 1) (by omega)
    rw [cntL_succ] at nx
    by_cases c : V.2.1 1487 i = 0
    · rw [if_pos (decide_eq_true c)] at nx
      refine br_t c ?_
      unfold wX8_waitingInAll_28
      refine nm_r (nI_1 i) ?_
      rw [nI_1]
      exact nx
    · rw [if_neg (by simpa using c), Nat.add_zero] at nx
      refine br_f c ?_
      unfold wX8_waitingInAll_28
      exact nm_r (nI_1 i) nx
theorem m_waitingInAll (hM : MI mx A V σ) {post : Int32 → St → Prop} {nr : Nat} (hnr : V.1 479 = nI nr) (h512 : nr ≤ 512) (hp : post (nI (cntL (fun r => decide (V.2.1 1487 r = 0)) nr)) σ) : wX8_waitingInAll mx post σ := ⟨nr + 1, m_waitingInAll_4 hM hnr h512 hp nr 0 (by omega)⟩
theorem m_goodEntries_4 (hM : MI mx A V σ) {post : Int32 → St → Prop} {nb nt ne : Nat} (hnb : V.1 450 = nI nb) (h5 : nb ≤ 5) (hne : V.1 463 = nI ne) (h20 : ne ≤ 20) (hib : ∀ e, e < ne → V.2.1 1471 e = nI (ibn V e) ∧ ibn V e < 4) (hp : post (nI (cntL (good V nb ne) ne)) σ) : ∀ d i, i + d = ne → wX8_goodEntries_4 mx post (d + 1) (nI (cntL (good V nb ne) i)) (nI i) σ := by
  intro d
  induction d with
  | zero =>
    intro i hi
    have : i = ne := by omega
    subst this
    unfold wX8_goodEntries_4
    exact ⟨hM.mx, pk_le i i (fun _ => hp) (fun h => absurd h (by omega)) (hx := (hM.sc 463).trans hne)⟩
  | succ d ih =>
    intro i hi
    unfold wX8_goodEntries_4
    refine ⟨hM.mx, pk_le ne i (fun h => absurd h (by omega)) (fun _ => ⟨hM.mx, hM.arr 1471 (by decide) ⟨vp_in_nI (by omega) (by decide), ⟨hM.mx, ?_⟩⟩⟩) (hx := (hM.sc 463).trans hne)⟩
    rw [nI_clamp (by omega), hM.rd 1471 i (by decide), (hib i (by omega)).1]
    have nx := ih (i + 1) (by omega)
    rw [cntL_succ] at nx
    refine m_batchFault (nt := nt) hM hnb h5 (hib i (by omega)).2 hne h20 ?_
    have hbf : bf V nb ne (ibn V i) < 2 ^ 31 := by unfold bf; repeat' split <;> try decide
    have hef : ef V nb i < 2 ^ 31 := by unfold ef; repeat' split <;> try decide
    refine pk_eq _ 0 (fun c => ⟨hM.mx, m_entryFault hM hnb h5 (by omega) ?_⟩) (fun c => ?_) (ha := hbf)
    · refine pk_eq _ 0 (fun c2 => ?_) (fun c2 => ?_) (ha := hef)
      · rw [if_pos (show good V nb ne i = true from decide_eq_true ⟨c, c2⟩)] at nx
        unfold wX8_goodEntries_40
        refine nm_r (nI_1 i) ?_
        rw [nI_1]
        exact nx
      · rw [if_neg (by simp [good, c2]), Nat.add_zero] at nx
        unfold wX8_goodEntries_39 wX8_goodEntries_40
        exact nm_r (nI_1 i) nx
    · rw [if_neg (by simp [good, c]), Nat.add_zero] at nx
      unfold wX8_goodEntries_39 wX8_goodEntries_40
      exact nm_r (nI_1 i) nx
theorem m_goodEntries (hM : MI mx A V σ) {post : Int32 → St → Prop} {nb nt ne : Nat} (hnb : V.1 450 = nI nb) (h5 : nb ≤ 5) (hne : V.1 463 = nI ne) (h20 : ne ≤ 20) (hib : ∀ e, e < ne → V.2.1 1471 e = nI (ibn V e) ∧ ibn V e < 4) (hp : post (nI (cntL (good V nb ne) ne)) σ) : wX8_goodEntries mx post σ := ⟨ne + 1, m_goodEntries_4 (nt := nt) hM hnb h5 hne h20 hib hp ne 0 (by omega)⟩
end MQ
