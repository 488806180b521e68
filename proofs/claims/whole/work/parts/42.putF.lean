/-! PUT: a file's end, looks -/
section PF
variable {L : LY} {cx mx : Nat} {σ σ' : St} {V V' : MV} {G : GH} {n : Nat}
theorem OC.ax2 {M : Nat → Prop} (h : OC L cx σ V G) (g : AX M σ σ') (hM : ∀ t i, i < cnt G t → ((t = 0 ∧ (i = 0 ∨ i = 1 ∨ i = 3 ∨ i = 4)) ∨ (4 ≤ t ∧ t ≤ 11)) → ¬ M (L t i)) (hx : ¬ M cx) : OC L cx σ' V G := by
  obtain ⟨a1, a2, a3, a4, a5, a6, a7, a8, a9, a10, a11, a12, a13⟩ := h
  have k : ∀ t i, i < cnt G t → ((t = 0 ∧ (i = 0 ∨ i = 1 ∨ i = 3 ∨ i = 4)) ∨ (4 ≤ t ∧ t ≤ 11)) → _ := fun t i hi hn => g (L t i) (hM t i hi hn)
  have kx := g cx hx
  have hI : ∀ t i, (4 ≤ t ∧ t ≤ 11) → i < cnt G t → ∀ f j, sI σ' f (L t i) j = sI σ f (L t i) j := fun t i ht hi => (k t i hi (by omega)).2.1
  have hJ : ∀ t i, (4 ≤ t ∧ t ≤ 11) → i < cnt G t → ∀ f j, sJ σ' f (L t i) j = sJ σ f (L t i) j := fun t i ht hi => (k t i hi (by omega)).2.2.1
  have hR : ∀ t i, (4 ≤ t ∧ t ≤ 11) → i < cnt G t → ∀ f j, sR σ' f (L t i) j = sR σ f (L t i) j := fun t i ht hi => (k t i hi (by omega)).2.2.2.1
  have hL : ∀ t i, (4 ≤ t ∧ t ≤ 11) → i < cnt G t → sL σ' (L t i) = sL σ (L t i) := fun t i ht hi => (k t i hi (by omega)).2.2.2.2
  have c0 : ∀ i, i < 7 → i < cnt G 0 := fun i hi => hi
  refine ⟨⟨?_, fun b hb => ?_⟩, fun b hb => ?_, ⟨?_, fun i hi => ?_⟩, fun i hi => ?_, fun i hi => ?_, ?_, ⟨?_, fun f hf => ?_⟩, fun j hj => ?_, fun r hr => ?_, fun r hr => ?_, fun b hb => ?_, fun b hb => ?_, fun b hb => ?_⟩
  · rw [(k 0 0 (c0 0 (by omega)) (by omega)).2.2.2.2]; exact a1.1
  · rw [hI 4 b (by omega) hb, hI 4 b (by omega) hb, hR 4 b (by omega) hb, hR 4 b (by omega) hb, hR 4 b (by omega) hb, hR 7 b (by omega) hb, hR 7 b (by omega) hb]
    exact a1.2 b hb
  · rw [hJ 4 b (by omega) hb]; exact a2 b hb
  · rw [(k 0 1 (c0 1 (by omega)) (by omega)).2.2.2.2]; exact a3.1
  · rw [hR 10 i (by omega) hi, hI 10 i (by omega) hi]; exact a3.2 i hi
  · rw [hJ 10 i (by omega) hi]; exact a4 i hi
  · rw [hI 10 i (by omega) hi]; exact a5 i hi
  · unfold cS; rw [kx.2.1]; exact a6
  · rw [kx.2.1]; exact a7.1
  · rw [(k 0 3 (c0 3 (by omega)) (by omega)).2.1]; exact a7.2 f hf
  · rw [(k 0 4 (c0 4 (by omega)) (by omega)).2.1]; exact a8 j hj
  · rw [hI 11 r (by omega) hr, hI 11 r (by omega) hr, hI 11 r (by omega) hr, hI 11 r (by omega) hr, hI 11 r (by omega) hr, hI 11 r (by omega) hr, hR 11 r (by omega) hr, hR 11 r (by omega) hr]
    exact a9 r hr
  · rw [hI 11 r (by omega) hr]; exact a10 r hr
  · rw [hL 5 b (by omega) hb, hL 6 b (by omega) hb]; exact a11 b hb
  · unfold TT
    rw [hL 8 b (by omega) hb, hI 7 b (by omega) hb, hJ 9 b (by omega) hb, hJ 9 b (by omega) hb, hJ 9 b (by omega) hb, hJ 9 b (by omega) hb]
    exact a12 b hb
  · rw [hI 7 b (by omega) hb]; exact a13 b hb
/-- the file that ends -/
def EI (L : LY) (cx : Nat) (σ : St) (V : MV) (G : GH) : Prop := cK L cx σ G ∧ cF L cx σ ∧ OC L cx σ V G ∧ FD L σ V 1 (G.1 3) (G.1 4)
theorem c_fileKey (E : EI L cx σ V G) {post : Int32 → St → Prop} (hp : post (V.1 460 * 10000 + V.1 461) σ) : wX7_fileKey cx post σ := by
  obtain ⟨K, F, O, D⟩ := E
  have k2 : sK σ (L 0 2) = 5 := K.fix 2 (by decide)
  unfold wX7_fileKey
  refine ⟨K.1, nm_R F.2.2.1 ⟨k2, K.1, nm_R F.2.2.1 ⟨k2, ?_⟩⟩⟩
  rw [D.2.1, D.2.2.1]
  exact hp
/-- a file's key and the model's -/
theorem key_eq (wb : wB V G) (wf : wF V G) (h5 : G.1 0 ≤ 5) {f b x y : Nat} (hf : f < G.1 5) (hb : b < G.1 0) (hx : V.2.1 1451 b = nI x) (hx4 : x < 10000) (hy4 : y < 10000) : (V.2.1 1451 (G.2.1 3 f) * 10000 + nI (G.2.1 4 f) = nI x * 10000 + nI y) ↔ V.2.1 1477 f = 10000 * nI b + nI y := by
  obtain ⟨f1, f2, f3⟩ := wf f hf
  obtain ⟨z, hz, ez⟩ := wb.1 _ f2
  rw [f1, ez]
  have e1 : ∀ a c : Nat, nI a * 10000 + nI c = nI (a * 10000 + c) := fun a c => by
    rw [← nI_add]
    exact congrArg (fun t => t + nI c) (show nI a * nI 10000 = nI (a * 10000) from (Int32.ofNat_mul a 10000).symm)
  have e2 : ∀ a c : Nat, 10000 * nI a + nI c = nI (10000 * a + c) := fun a c => by
    rw [← nI_add]
    exact congrArg (fun t => t + nI c) (show nI 10000 * nI a = nI (10000 * a) from (Int32.ofNat_mul 10000 a).symm)
  rw [e1, e1, e2, nI_eq (by omega) (by omega), nI_eq (by omega) (by omega)]
  constructor
  · intro h
    have h1 : z = x := by omega
    have h2 : G.2.1 4 f = y := by omega
    have h3 : G.2.1 3 f = b := wb.2.1 _ _ f2 hb (by rw [ez, hx, h1])
    omega
  · intro h
    have h1 : G.2.1 3 f = b := by omega
    have h2 : G.2.1 4 f = y := by omega
    have h3 : nI z = nI x := by rw [← ez, ← hx, h1]
    rw [nI_eq (by omega) (by omega)] at h3
    omega
theorem c_wasAccepted (E : EI L cx σ V G) (wb : wB V G) (wf : wF V G) (h5 : G.1 0 ≤ 5) (h256 : G.1 5 < 256) {b x y : Nat} (hb : b < G.1 0) (hx : V.2.1 1451 b = nI x) (hx4 : x < 10000) (hy4 : y < 10000) {post : Int32 → St → Prop} (h1 : fnd (fun f => decide (V.2.1 1477 f = 10000 * nI b + nI y)) (G.1 5) 0 ≠ none → post 1 σ) (h0 : fnd (fun f => decide (V.2.1 1477 f = 10000 * nI b + nI y)) (G.1 5) 0 = none → post 0 σ) : wX7_wasAccepted cx (nI x * 10000 + nI y) post σ := by
  obtain ⟨K, F, O, D⟩ := E
  have k3 : sK σ (L 0 3) = 1403 := K.fix 3 (by decide)
  have N := O.2.2.2.2.2.2.1
  have loop : ∀ d i, i + d = G.1 5 → (∀ f, f < i → ¬ V.2.1 1477 f = 10000 * nI b + nI y) → wX7_wasAccepted_2 cx post (d + 1) (nI x * 10000 + nI y) (nI i) σ := by
    intro d
    induction d with
    | zero =>
      intro i hi hf
      unfold wX7_wasAccepted_2
      refine ⟨K.1, ?_⟩
      rw [N.1]
      exact pk_le (G.1 5) i (fun _ => h0 (fnd_none.mpr (fun j _ h2 => decide_eq_false (hf j (by omega))))) (fun hc => absurd hc (by omega))
    | succ d ih =>
      intro i hi hf
      unfold wX7_wasAccepted_2
      refine ⟨K.1, ?_⟩
      rw [N.1]
      refine pk_le (G.1 5) i (fun hc => absurd hc (by omega)) (fun _ => ⟨K.1, nm_R F.2.2.2.1 ⟨k3, vp_in_nI (by omega) (by decide), ?_⟩⟩)
      rw [nI_clamp (by omega), N.2 i (by omega)]
      by_cases c : V.2.1 1477 i = 10000 * nI b + nI y
      · refine br_t ((key_eq wb wf h5 (by omega) hb hx hx4 hy4).mpr c) (h1 (fun z => ?_))
        exact absurd c (of_decide_eq_false (fnd_none.mp z i (Nat.zero_le _) (by omega)))
      · refine br_f (fun z => c ((key_eq wb wf h5 (by omega) hb hx hx4 hy4).mp z)) (nm_r (nI_1 i) (ih (i + 1) (by omega) (fun f hf2 => ?_)))
        by_cases he : f = i
        · rw [he]; exact c
        · exact hf f (by omega)
  exact ⟨G.1 5 + 1, loop (G.1 5) 0 (by omega) (fun f hf => absurd hf (Nat.not_lt_zero f))⟩
/-- those with a mark below k + 1 -/
theorem len_lt (l : List Nat) (p : Nat → Bool) (g : Nat → Nat) (k : Nat) : (l.filter (fun r => p r && decide (g r < k + 1))).length = (l.filter (fun r => p r && decide (g r < k))).length + (l.filter (fun r => p r && decide (g r = k))).length := by
  induction l with
  | nil => rfl
  | cons x l ih =>
    rw [List.filter_cons, List.filter_cons, List.filter_cons]
    by_cases hp : p x = true
    rotate_left
    · have hp : p x = false := by simpa using hp
      rw [hp]
      exact ih
    rw [hp, Bool.true_and, Bool.true_and, Bool.true_and]
    by_cases c1 : g x < k
    · rw [if_pos (by rw [decide_eq_true_eq]; omega), if_pos (by rw [decide_eq_true_eq]; omega), if_neg (by rw [decide_eq_true_eq]; omega), List.length_cons, List.length_cons, ih]
      omega
    · by_cases c2 : g x = k
      · rw [if_pos (by rw [decide_eq_true_eq]; omega), if_neg (by rw [decide_eq_true_eq]; omega), if_pos (by rw [decide_eq_true_eq]; omega), List.length_cons, List.length_cons, ih]
        omega
      · rw [if_neg (by rw [decide_eq_true_eq]; omega), if_neg (by rw [decide_eq_true_eq]; omega), if_neg (by rw [decide_eq_true_eq]; omega), ih]
theorem len_0 (l : List Nat) (p : Nat → Bool) (g : Nat → Nat) : (l.filter (fun r => p r && decide (g r < 0))).length = 0 := by
  rw [List.length_eq_zero_iff, List.filter_eq_nil_iff]
  intro x _ h
  simp at h
theorem c_waitingInAll (E : EI L cx σ V G) (wr : wR V G) (h5 : G.1 0 ≤ 5) {post : Int32 → St → Prop} (hp : post (nI (cntL (fun r => decide (V.2.1 1487 r = 0)) (G.1 6))) σ) : wX7_waitingInAll cx post σ := by
  obtain ⟨K, F, O, D⟩ := E
  have B := O.1
  have hlen : (sL σ (L 0 0)).length = G.1 0 := by rw [B.1]; simp
  have hget : ∀ i, i < G.1 0 → (sL σ (L 0 0))[i]? = some (L 4 i) := fun i hi => by
    rw [B.1, List.getElem?_map, List.getElem?_range hi]
    rfl
  have hW := O.2.2.2.2.2.2.2.2.2.2.1
  have e1 : ∀ i, i < G.1 0 → (sL σ (L 5 i)).length = ((List.range (G.1 6)).filter (fun r => decide (V.2.1 1487 r = 0) && decide (G.2.1 2 r = i))).length := fun i hi => by
    rw [(hW i hi).1, List.length_map]
    congr 1
    refine List.filter_congr (fun r hr => ?_)
    obtain ⟨w1, w2, w3, w4, _⟩ := wr.1 r (List.mem_range.mp hr)
    unfold wtB
    rw [w3, Bool.decide_and]
    congr 1
    rw [decide_eq_decide]
    exact nI_eq (by omega) (by omega)
  have e2 : cntL (fun r => decide (V.2.1 1487 r = 0)) (G.1 6) = ((List.range (G.1 6)).filter (fun r => decide (V.2.1 1487 r = 0) && decide (G.2.1 2 r < G.1 0))).length := by
    unfold cntL
    congr 1
    refine List.filter_congr (fun r hr => ?_)
    obtain ⟨w1, w2, w3, w4, _⟩ := wr.1 r (List.mem_range.mp hr)
    rw [decide_eq_true w4, Bool.and_true]
  rw [e2] at hp
  have loop : ∀ d i, i + d = G.1 0 → wX7_waitingInAll_4 cx post (d + 1) (nI ((List.range (G.1 6)).filter (fun r => decide (V.2.1 1487 r = 0) && decide (G.2.1 2 r < i))).length) (nI i) σ := by
    intro d
    induction d with
    | zero =>
      intro i hi
      have : i = G.1 0 := by omega
      subst this
      unfold wX7_waitingInAll_4
      exact ⟨K.1, nm_R F.1 (q_size K.bl hlen (pk_le (G.1 0) (G.1 0) (fun _ => hp) (fun h => absurd h (by omega))))⟩
    | succ d ih =>
      intro i hi
      have hib : i < G.1 0 := by omega
      unfold wX7_waitingInAll_4
      refine ⟨K.1, nm_R F.1 (q_size K.bl hlen (pk_le (G.1 0) i (fun h => absurd h (by omega)) (fun _ => ⟨K.1, nm_R F.1 (q_get K.bl (by omega) (hget i hib) ⟨L 4 i, rfl, K.knd 4 i hib, K.knd 4 i hib, nm_R (B.2 i hib).2.2.1 (q_size (K.ls 5 i (by omega) hib) (e1 i hib) ?_)⟩)⟩)))⟩
      refine nm_r (by rw [nI_add]) (nm_r (nI_1 i) ?_)
      have := ih (i + 1) (by omega)
      rw [len_lt] at this
      exact this
  have := loop (G.1 0) 0 (by omega)
  rw [len_0] at this
  exact ⟨G.1 0 + 1, this⟩
/-- a refusal counted -/
theorem c_countRefusal (K : cK L cx σ G) (F : cF L cx σ) {k : Nat} (hk : k < 34) {post : St → Prop} (hp : post (uI σ 1405 (L 0 4) k (sI σ 1405 (L 0 4) k + 1))) : wX7_countRefusal cx (nI k) post σ := by
  have k4 : sK σ (L 0 4) = 1405 := K.fix 4 (by decide)
  unfold wX7_countRefusal
  refine br_f (nI_pos (by omega)) ⟨K.1, nm_R F.2.2.2.2.1 ⟨k4, pk_le 34 k (fun h => absurd h (by omega)) (fun _ => ⟨K.1, nm_R F.2.2.2.2.1 ⟨k4, vp_in_nI hk (by decide), k4, vp_in_nI hk (by decide), fun s e => ?_⟩⟩)⟩⟩
  rw [nI_clamp (by omega)] at e
  rw [e]
  exact hp
end PF
