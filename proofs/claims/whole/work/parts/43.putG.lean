/-! PUT: a file's end, the batches and entries judged -/
section PG
variable {L : LY} {cx mx : Nat} {σ σ' σ'' : St} {V V' : MV} {G : GH} {n : Nat}
def JM (L : LY) (G : GH) (a : Nat) : Prop := (∃ k, k < 4 ∧ a = L 1 k) ∨ ∃ e, e < G.1 4 ∧ a = L 12 e
def JA (L : LY) (G : GH) (σ σ' : St) : Prop := sK σ' = sK σ ∧ sJ σ' = sJ σ ∧ sL σ' = sL σ ∧ (∀ g a j, g ≠ 158 → g ≠ 205 → g ≠ 208 → sI σ' g a j = sI σ g a j) ∧ (∀ g a j, g ≠ 206 → g ≠ 207 → sR σ' g a j = sR σ g a j) ∧ AX (JM L G) σ σ'
theorem JA.rfl' : JA L G σ σ := ⟨rfl, rfl, rfl, fun _ _ _ _ _ _ => rfl, fun _ _ _ _ _ => rfl, AX.rfl'⟩
theorem JA.trans (h : JA L G σ σ') (h' : JA L G σ' σ'') : JA L G σ σ'' := by
  obtain ⟨a1, a2, a3, a4, a5, a6⟩ := h
  obtain ⟨b1, b2, b3, b4, b5, b6⟩ := h'
  exact ⟨b1.trans a1, b2.trans a2, b3.trans a3, fun g a j n1 n2 n3 => (b4 g a j n1 n2 n3).trans (a4 g a j n1 n2 n3), fun g a j n1 n2 => (b5 g a j n1 n2).trans (a5 g a j n1 n2), a6.trans b6⟩
theorem JA.uI {g a j : Nat} {v : Int32} (h : JA L G σ σ') (hg : g = 158 ∨ g = 205 ∨ g = 208) (ha : JM L G a) : JA L G σ (uI σ' g a j v) := by
  obtain ⟨a1, a2, a3, a4, a5, a6⟩ := h
  refine ⟨a1, a2, a3, fun g' a' j' n1 n2 n3 => ?_, a5, a6.uI ha⟩
  rw [sI_ne (by rcases hg with e | e | e <;> rw [e] <;> assumption)]
  exact a4 g' a' j' n1 n2 n3
theorem JA.uR {g a j : Nat} {v : Option Nat} (h : JA L G σ σ') (hg : g = 206 ∨ g = 207) (ha : JM L G a) : JA L G σ (uR σ' g a j v) := by
  obtain ⟨a1, a2, a3, a4, a5, a6⟩ := h
  refine ⟨a1, a2, a3, a4, fun g' a' j' n1 n2 => ?_, a6.uR ha⟩
  rw [sR_uR, if_neg (fun z => by rcases hg with e | e <;> (rw [e] at z; omega))]
  exact a5 g' a' j' n1 n2
theorem JM.not (K : cK L cx σ G) (hst : G.1 2 ≠ 0) {t i : Nat} (hi : i < cnt G t) (h : (t = 0 ∧ (i = 0 ∨ i = 1 ∨ i = 3 ∨ i = 4)) ∨ (4 ≤ t ∧ t ≤ 11)) : ¬ JM L G (L t i) := fun z => by
  rcases z with ⟨k, hk, ek⟩ | ⟨e, he, ee⟩
  · have := K.2.2 t i 1 k hi hk ek
    omega
  · have := K.2.2 t i 12 e hi (by show e < if G.1 2 = 0 then 0 else G.1 4; rw [if_neg hst]; exact he) ee
    omega
theorem JM.ncx (K : cK L cx σ G) (hst : G.1 2 ≠ 0) : ¬ JM L G cx := fun z => by
  have h8 := K.1
  rcases z with ⟨k, hk, ek⟩ | ⟨e, he, ee⟩
  · rw [ek, K.knd 1 k hk] at h8
    exact absurd h8 (by show ¬ 3 = 8; decide)
  · rw [ee, K.knd 12 e (by show e < if G.1 2 = 0 then 0 else G.1 4; rw [if_neg hst]; exact he)] at h8
    exact absurd h8 (by show ¬ 4 = 8; decide)
theorem JM.notM (K : cK L cx σ G) (hst : G.1 2 ≠ 0) {a : Nat} (h : JM L G a) : ¬ mTag (sK σ a) := by
  rcases h with ⟨k, hk, ek⟩ | ⟨e, he, ee⟩
  · rw [ek, K.knd 1 k hk]
    exact (kd_c 1 k).2
  · rw [ee, K.knd 12 e (by show e < if G.1 2 = 0 then 0 else G.1 4; rw [if_neg hst]; exact he)]
    exact (kd_c 12 e).2
theorem EI.ja (E : EI L cx σ V G) (hst : G.1 2 ≠ 0) (j : JA L G σ σ') : EI L cx σ' V G := by
  obtain ⟨K, F, O, D⟩ := E
  obtain ⟨a1, a2, a3, a4, a5, a6⟩ := j
  refine ⟨cK.kk K a1, ?_, OC.ax2 O a6 (fun t i hi h => JM.not K hst hi h) (JM.ncx K hst), ?_⟩
  · unfold cF at F ⊢
    rw [a5 _ _ _ (by decide) (by decide), a5 _ _ _ (by decide) (by decide), a5 _ _ _ (by decide) (by decide), a5 _ _ _ (by decide) (by decide), a5 _ _ _ (by decide) (by decide), a5 _ _ _ (by decide) (by decide), a5 _ _ _ (by decide) (by decide)]
    obtain ⟨f1, f2, f3, f4, f5, f6, f7, f8⟩ := F
    refine ⟨f1, f2, f3, f4, f5, f6, f7, fun k hk => ?_⟩
    rw [a5 _ _ _ (by decide) (by decide), a5 _ _ _ (by decide) (by decide), a5 _ _ _ (by decide) (by decide)]
    exact f8 k hk
  · obtain ⟨d1, d2, d3, d4, d5, d6, d7, d8⟩ := D
    refine ⟨?_, ?_, ?_, fun z => absurd z (by decide), ?_, fun k hk => ?_, fun z => absurd z (by decide), fun e he => ?_⟩
    · rw [a4 _ _ _ (by decide) (by decide) (by decide)]; exact d1
    · rw [a4 _ _ _ (by decide) (by decide) (by decide)]; exact d2
    · rw [a4 _ _ _ (by decide) (by decide) (by decide)]; exact d3
    · unfold TT at d5 ⊢; rw [a2]; exact d5
    · have := d6 k hk
      unfold TT at this ⊢
      rw [a4 _ _ _ (by decide) (by decide) (by decide), a4 _ _ _ (by decide) (by decide) (by decide), a4 _ _ _ (by decide) (by decide) (by decide), a4 _ _ _ (by decide) (by decide) (by decide), a4 _ _ _ (by decide) (by decide) (by decide), a2, a3]
      exact this
    · rw [a4 _ _ _ (by decide) (by decide) (by decide), a4 _ _ _ (by decide) (by decide) (by decide), a4 _ _ _ (by decide) (by decide) (by decide), a4 _ _ _ (by decide) (by decide) (by decide), a4 _ _ _ (by decide) (by decide) (by decide)]
      exact d8 e he
/-- a batch against its reasons -/
theorem c_reasonBatch (E : EI L cx σ V G) (W : WF V G n) (hst : G.1 2 ≠ 0) {k : Nat} (hk : k < G.1 3) {post : Int32 → St → Prop} (hp : post (nI (bf V (G.1 0) (G.1 4) k)) σ) : wX7_reasonAgainstBatch cx (some (L 1 k)) (if k = 0 then -1 else V.2.1 1465 (k - 1)) post σ := by
  obtain ⟨K, F, O, D⟩ := E
  have h5 := W.1.2.1
  have h4 := W.1.2.2.2.2.2.2.2.1
  have k1 : sK σ (L 1 k) = 3 := K.knd 1 k (by show k < 4; omega)
  obtain ⟨m1, m2, m3, m4, m5, m6, m7⟩ := D.2.2.2.2.2.1 k hk
  have m7 := m7 (fun z => absurd z.1 (by decide))
  obtain ⟨x, hx, ex⟩ := (W.2.2.2.1 hst).2.2.2.2 k hk
  have S : sI σ 406 cx 0 = V.1 453 := O.2.2.2.2.2.1
  unfold wX7_reasonAgainstBatch
  refine ⟨L 1 k, rfl, k1, K.1, ?_⟩
  rw [m1]
  refine c_bankWithRouting K F O.1 h5 ?_
  unfold bf at hp
  cases hb : bk V (G.1 0) (V.2.1 1464 k) with
  | none => rw [if_pos hb] at hp; exact br_t rfl hp
  | some b =>
    rw [if_neg (by rw [hb]; simp)] at hp
    refine br_f (by simp) ⟨k1, ?_⟩
    rw [m2, m3, m6, S]
    have c21 : (if k = 0 then -1 else V.2.1 1465 (k - 1)) < V.2.1 1465 k ↔ ¬ (0 < k ∧ V.2.1 1465 k ≤ V.2.1 1465 (k - 1)) := by
      by_cases c : k = 0
      · rw [if_pos c]
        constructor
        · intro _ z; omega
        · intro _
          rw [ex, Int32.lt_iff_toInt_lt, nI_toInt (by omega)]
          have : (-1 : Int32).toInt = -1 := by decide
          omega
      · rw [if_neg c]
        constructor
        · intro z1 z2
          exact absurd z2.2 (Int32.not_le.mpr z1)
        · intro z
          exact Int32.not_le.mp (fun z2 => z ⟨by omega, z2⟩)
    by_cases c : 0 < k ∧ V.2.1 1465 k ≤ V.2.1 1465 (k - 1)
    · rw [if_pos c] at hp
      exact br_f (fun z => (c21.mp z) c) hp
    rw [if_neg c] at hp
    refine br_t (c21.mpr c) ⟨k1, K.1, ?_⟩
    by_cases c2 : V.2.1 1466 k < V.1 453
    · rw [if_pos c2] at hp
      exact br_f (Int32.not_le.mpr c2) hp
    rw [if_neg c2] at hp
    refine br_t (Int32.not_lt.mp c2) ⟨k1, ?_⟩
    unfold sayb at m7
    by_cases c3 : (V.2.1 1467 k).toInt64 = tot (ep V 0) (inB V (nI k) (G.1 4)) ∧ (V.2.1 1468 k).toInt64 = tot (ep V 1) (inB V (nI k) (G.1 4)) ∧ (V.2.1 1469 k).toInt64 = tot (ep V 2) (inB V (nI k) (G.1 4)) ∧ (V.2.1 1470 k).toInt64 = tot (ep V 3) (inB V (nI k) (G.1 4))
    rotate_left
    · rw [if_pos c3] at hp
      exact br_t (m7.2 c3) hp
    rw [if_neg (fun z => z c3)] at hp
    refine br_f (by rw [m7.1 c3]; decide) ⟨k1, ?_⟩
    by_cases c4 : gw V (nI k) (G.1 4) = false
    · rw [if_pos c4] at hp
      exact br_t (by rw [c4]; rfl) hp
    · rw [if_neg c4] at hp
      have c4 : gw V (nI k) (G.1 4) = true := by simpa using c4
      exact br_f (by rw [c4]; decide) hp
/-- an entry against its reasons -/
theorem c_reasonEntry {a e nb : Nat} (hk : sK σ a = 4) (h0 : sI σ 200 a 0 = V.2.1 1472 e) (h1 : sI σ 201 a 0 = V.2.1 1473 e) (h3 : sI σ 203 a 0 = V.2.1 1475 e) (h7 : sR σ 207 a 0 = (bk V nb (V.2.1 1473 e)).map (L 4)) {post : Int32 → St → Prop} (hp : post (nI (ef V nb e)) σ) : wX7_reasonAgainstEntry (some a) post σ := by
  unfold wX7_reasonAgainstEntry
  refine ⟨a, rfl, hk, c_right (n := 4) (by decide) (by decide) ?_⟩
  rw [h1]
  unfold ef at hp
  by_cases c : rgt (V.2.1 1473 e) 4
  rotate_left
  · rw [if_pos c] at hp
    exact ⟨fun z => absurd z c, fun _ => br_t rfl hp⟩
  rw [if_neg (fun z => z c)] at hp
  refine ⟨fun _ => br_f (by decide) ⟨hk, nm_o h7 ?_⟩, fun z => absurd c z⟩
  cases hb : bk V nb (V.2.1 1473 e) with
  | none => rw [if_pos hb] at hp; exact br_t rfl hp
  | some b =>
    rw [if_neg (by rw [hb]; simp)] at hp
    refine br_f (by simp) ⟨hk, ?_⟩
    have k44 : (V.2.1 1472 e = 2 ∨ V.2.1 1472 e = 7) → wX7_reasonAgainstEntry_44 post (some a) σ := fun c2 => by
      rw [if_neg (fun z => by rcases c2 with c2 | c2 <;> (first | exact z.1 c2 | exact z.2 c2))] at hp
      unfold wX7_reasonAgainstEntry_44
      refine ⟨a, rfl, hk, ?_⟩
      rw [h3]
      by_cases c3 : V.2.1 1475 e = 0
      · rw [if_pos c3] at hp
        exact br_t c3 hp
      · rw [if_neg c3] at hp
        exact br_f c3 hp
    rw [h0]
    by_cases c2 : V.2.1 1472 e = 2
    · exact br_t c2 (k44 (Or.inl c2))
    · refine br_f c2 ⟨hk, ?_⟩
      by_cases c7 : V.2.1 1472 e = 7
      · exact br_t c7 (k44 (Or.inr c7))
      · rw [if_pos ⟨c2, c7⟩] at hp
        exact br_f c7 hp
/-- an entry judged -/
def JE (L : LY) (σ : St) (V : MV) (nb e k : Nat) : Prop := sI σ 205 (L 12 e) 0 = V.2.1 1466 k ∧ sR σ 206 (L 12 e) 0 = (bk V nb (V.2.1 1464 k)).map (L 4) ∧ sR σ 207 (L 12 e) 0 = (bk V nb (V.2.1 1473 e)).map (L 4) ∧ sI σ 208 (L 12 e) 0 = nI (ef V nb e)
theorem JE.of {σ σ' : St} {nb e k : Nat} (h : JE L σ V nb e k) (hI : ∀ g, sI σ' g (L 12 e) 0 = sI σ g (L 12 e) 0) (hR : ∀ g, sR σ' g (L 12 e) 0 = sR σ g (L 12 e) 0) : JE L σ' V nb e k := by
  unfold JE at h ⊢
  rw [hI, hI, hR, hR]
  exact h
theorem c_judgeEntries (E : EI L cx σ V G) (W : WF V G n) (hst : G.1 2 ≠ 0) {k : Nat} (hk : k < G.1 3) {post : Int32 → St → Prop} (hp : ∀ σ', JA L G σ σ' → AX (fun a => ∃ e, e ∈ inB V (nI k) (G.1 4) ∧ a = L 12 e) σ σ' → (∀ e, e ∈ inB V (nI k) (G.1 4) → JE L σ' V (G.1 0) e k) → post (nI ((inB V (nI k) (G.1 4)).filter (fun e => decide (ef V (G.1 0) e = 0))).length) σ') : wX7_judgeEntries cx (some (L 1 k)) post σ := by
  have h5 := W.1.2.1
  have h4 := W.1.2.2.2.2.2.2.2.1
  have h20 := W.1.2.2.2.2.2.2.2.2.2.1
  have K0 := E.1
  have hmem : ∀ e, e ∈ inB V (nI k) (G.1 4) → e < G.1 4 := fun e he => inB_lt he
  have hlen20 : (inB V (nI k) (G.1 4)).length ≤ 20 := by
    have := List.length_filter_le (fun e => decide (nI k < 0 ∨ V.2.1 1471 e = nI k)) (List.range (G.1 4))
    rw [List.length_range] at this
    exact Nat.le_trans this h20
  have l12 : ∀ e, e < G.1 4 → e < cnt G 12 := fun e he => by show e < if G.1 2 = 0 then 0 else G.1 4; rw [if_neg hst]; exact he
  generalize hl : inB V (nI k) (G.1 4) = l at *
  have loop : ∀ d i σ', i + d = l.length → JA L G σ σ' → AX (fun a => ∃ e, e ∈ l ∧ a = L 12 e) σ σ' → (∀ e, e ∈ l.take i → JE L σ' V (G.1 0) e k) → wX7_judgeEntries_4 cx post (d + 1) (some (L 1 k)) (nI ((l.take i).filter (fun e => decide (ef V (G.1 0) e = 0))).length) (nI i) σ' := by
    intro d
    induction d with
    | zero =>
      intro i σ' hi j x he
      have E' := E.ja hst j
      obtain ⟨K, F, O, D⟩ := E'
      have k1 : sK σ' (L 1 k) = 3 := K.knd 1 k (by show k < 4; omega)
      obtain ⟨m1, m2, m3, m4, m5, m6, m7⟩ := D.2.2.2.2.2.1 k hk
      rw [hl] at m4
      unfold wX7_judgeEntries_4
      refine ⟨L 1 k, rfl, k1, nm_R (F.2.2.2.2.2.2.2 k (by omega)).2.1 (q_size (k := l.length) (K.ls 2 k (by omega) (by show k < 4; omega)) (by rw [m4]; simp) (pk_le l.length i (fun _ => ?_) (fun h => absurd h (by omega))))⟩
      rw [List.take_of_length_le (by omega)] at he ⊢
      exact hp σ' j x he
    | succ d ih =>
      intro i σ' hi j x he
      have E' := E.ja hst j
      have E1 := E'
      obtain ⟨K, F, O, D⟩ := E'
      have k1 : sK σ' (L 1 k) = 3 := K.knd 1 k (by show k < 4; omega)
      obtain ⟨m1, m2, m3, m4, m5, m6, m7⟩ := D.2.2.2.2.2.1 k hk
      rw [hl] at m4
      have hil : i < l.length := by omega
      obtain ⟨e, hei⟩ : ∃ e, l[i]? = some e := ⟨l[i], List.getElem?_eq_getElem hil⟩
      have hel : e ∈ l := List.mem_of_getElem? hei
      have hen : e < G.1 4 := hmem e hel
      have hJM : JM L G (L 12 e) := Or.inr ⟨e, hen, rfl⟩
      have ka : sK σ' (L 12 e) = 4 := K.knd 12 e (l12 e hen)
      obtain ⟨v0, v1, v2, v3, v4⟩ := D.2.2.2.2.2.2.2 e hen
      have nae : L 1 k ≠ L 12 e := K.ne (t := 1) (t' := 12) (show k < cnt G 1 by show k < 4; omega) (l12 e hen) (fun z => absurd z.1 (by decide))
      unfold wX7_judgeEntries_4
      refine ⟨L 1 k, rfl, k1, nm_R (F.2.2.2.2.2.2.2 k (by omega)).2.1 (q_size (k := l.length) (K.ls 2 k (by omega) (by show k < 4; omega)) (by rw [m4]; simp) (pk_le l.length i (fun h => absurd h (by omega)) (fun _ => ?_)))⟩
      refine ⟨k1, nm_R (F.2.2.2.2.2.2.2 k (by omega)).2.1 (q_get (K.ls 2 k (by omega) (by show k < 4; omega)) (by omega) (x := L 12 e) (by rw [m4, List.getElem?_map, hei]; rfl) ⟨L 12 e, rfl, ka, k1, ka, fun s1 z1 => ?_⟩)⟩
      have j1 : JA L G σ' s1 := by rw [z1]; exact JA.rfl'.uI (by omega) hJM
      have E2 := E1.ja hst j1
      have u1 : sI s1 205 (L 12 e) 0 = V.2.1 1466 k := by rw [z1, sI_uI, if_pos ⟨rfl, rfl, rfl⟩]; exact m3
      have w1 : ∀ a, a ≠ L 12 e → (∀ g, sI s1 g a 0 = sI σ' g a 0) ∧ ∀ g, sR s1 g a 0 = sR σ' g a 0 := fun a ha => ⟨fun g => by rw [z1, sI_uI, if_neg (fun z => ha z.2.1)], fun g => by rw [z1, sR_uI]⟩
      have x1 : AX (fun a => ∃ e, e ∈ l ∧ a = L 12 e) σ s1 := by rw [z1]; exact x.uI ⟨e, hel, rfl⟩
      refine ⟨by rw [j1.1]; exact k1, by rw [j1.1]; exact K.1, ?_⟩
      rw [(E2.2.2.2.2.2.2.2.2.1 k hk).1]
      refine c_bankWithRouting E2.1 E2.2.1 E2.2.2.1.1 h5 ⟨by rw [j1.1]; exact ka, fun s2 z2 => ?_⟩
      have j2 : JA L G σ' s2 := by rw [z2]; exact j1.uR (by omega) hJM
      have E3 := E1.ja hst j2
      have u2 : sR s2 206 (L 12 e) 0 = (bk V (G.1 0) (V.2.1 1464 k)).map (L 4) := by rw [z2, sR_uR, if_pos ⟨rfl, rfl, rfl⟩]
      have u1' : sI s2 205 (L 12 e) 0 = V.2.1 1466 k := by rw [z2, sI_uR]; exact u1
      have w2 : ∀ a, a ≠ L 12 e → (∀ g, sI s2 g a 0 = sI σ' g a 0) ∧ ∀ g, sR s2 g a 0 = sR σ' g a 0 := fun a ha => ⟨fun g => by rw [z2, sI_uR]; exact (w1 a ha).1 g, fun g => by rw [z2, sR_uR, if_neg (fun z => ha z.2.1)]; exact (w1 a ha).2 g⟩
      have x2 : AX (fun a => ∃ e, e ∈ l ∧ a = L 12 e) σ s2 := by rw [z2]; exact x1.uR ⟨e, hel, rfl⟩
      refine ⟨by rw [j2.1]; exact ka, by rw [j2.1]; exact K.1, ?_⟩
      rw [(E3.2.2.2.2.2.2.2.2.2.2 e hen).2.1]
      refine c_bankWithRouting E3.1 E3.2.1 E3.2.2.1.1 h5 ⟨by rw [j2.1]; exact ka, fun s3 z3 => ?_⟩
      have j3 : JA L G σ' s3 := by rw [z3]; exact j2.uR (by omega) hJM
      have E4 := E1.ja hst j3
      have u3 : sR s3 207 (L 12 e) 0 = (bk V (G.1 0) (V.2.1 1473 e)).map (L 4) := by rw [z3, sR_uR, if_pos ⟨rfl, rfl, rfl⟩]
      have u2' : sR s3 206 (L 12 e) 0 = (bk V (G.1 0) (V.2.1 1464 k)).map (L 4) := by rw [z3, sR_uR, if_neg (fun z => absurd z.1 (by decide))]; exact u2
      have u1'' : sI s3 205 (L 12 e) 0 = V.2.1 1466 k := by rw [z3, sI_uR]; exact u1'
      have w3 : ∀ a, a ≠ L 12 e → (∀ g, sI s3 g a 0 = sI σ' g a 0) ∧ ∀ g, sR s3 g a 0 = sR σ' g a 0 := fun a ha => ⟨fun g => by rw [z3, sI_uR]; exact (w2 a ha).1 g, fun g => by rw [z3, sR_uR, if_neg (fun z => ha z.2.1)]; exact (w2 a ha).2 g⟩
      have x3 : AX (fun a => ∃ e, e ∈ l ∧ a = L 12 e) σ s3 := by rw [z3]; exact x2.uR ⟨e, hel, rfl⟩
      obtain ⟨y0, y1, y2, y3, y4⟩ := E4.2.2.2.2.2.2.2.2.2.2 e hen
      refine c_reasonEntry (V := V) (e := e) (nb := G.1 0) (L := L) (by rw [j3.1]; exact ka) y0 y1 y3 u3 ⟨by rw [j3.1]; exact ka, fun s4 z4 => ?_⟩
      have j4 : JA L G σ' s4 := by rw [z4]; exact j3.uI (by omega) hJM
      have u4 : sI s4 208 (L 12 e) 0 = nI (ef V (G.1 0) e) := by rw [z4, sI_uI, if_pos ⟨rfl, rfl, rfl⟩]
      have w4 : ∀ a, a ≠ L 12 e → (∀ g, sI s4 g a 0 = sI σ' g a 0) ∧ ∀ g, sR s4 g a 0 = sR σ' g a 0 := fun a ha => ⟨fun g => by rw [z4, sI_uI, if_neg (fun z => ha z.2.1)]; exact (w3 a ha).1 g, fun g => by rw [z4, sR_uI]; exact (w3 a ha).2 g⟩
      have x4 : AX (fun a => ∃ e, e ∈ l ∧ a = L 12 e) σ s4 := by rw [z4]; exact x3.uI ⟨e, hel, rfl⟩
      have je : JE L s4 V (G.1 0) e k := by
        refine ⟨?_, ?_, ?_, u4⟩
        · rw [z4, sI_ne (by decide)]; exact u1''
        · rw [z4, sR_uI]; exact u2'
        · rw [z4, sR_uI]; exact u3
      have he4 : ∀ e', e' ∈ l.take (i + 1) → JE L s4 V (G.1 0) e' k := fun e' h' => by
        rw [List.take_add_one, hei] at h'
        by_cases c : e' = e
        · rw [c]; exact je
        · have h2 : e' ∈ l.take i := by
            rcases List.mem_append.mp h' with h' | h'
            · exact h'
            · exact absurd (List.mem_singleton.mp h') c
          have hl2 : e' ∈ l := List.mem_of_mem_take h2
          have := w4 (L 12 e') (K.ne (t := 12) (t' := 12) (l12 e' (hmem e' hl2)) (l12 e hen) (fun z => c z.2))
          exact (he e' h2).of this.1 this.2
      have nx := ih (i + 1) s4 (by omega) (j.trans j4) x4 he4
      rw [List.take_add_one, hei, Option.toList_some, List.filter_append, List.length_append] at nx
      refine ⟨by rw [j4.1]; exact ka, ?_⟩
      rw [u4]
      have h33 := ef_lt V (G.1 0) e
      refine pk_eq _ 0 (fun c => ?_) (fun c => ?_) (ha := by omega)
      · rw [List.filter_cons, if_pos (decide_eq_true c)] at nx
        exact nm_r (nI_1 _) (nm_r (nI_1 i) nx)
      · rw [List.filter_cons, if_neg (by simpa using c)] at nx
        exact nm_r (nI_1 i) nx
  have := loop l.length 0 σ (by omega) JA.rfl' AX.rfl' (fun e he => absurd he (by rw [List.take_zero]; exact List.not_mem_nil))
  rw [List.take_zero] at this
  exact ⟨l.length + 1, this⟩
end PG
