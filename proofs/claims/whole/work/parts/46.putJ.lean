/-! PUT: a file's end, all its batches; the model's fold -/
section PJ
variable {L : LY} {cx mx : Nat} {σ σ' σ'' : St} {V V' : MV} {G : GH} {n : Nat}
theorem range_sorted {ne : Nat} (g : Nat → Nat) (h : ∀ a b, a < b → b < ne → g a ≤ g b) : (List.range ne).Pairwise (fun a b => g a ≤ g b) := by
  rw [List.pairwise_iff_getElem]
  intro i j hi hj hij
  rw [List.getElem_range, List.getElem_range]
  rw [List.length_range] at hj
  exact h i j hij hj
theorem c_acceptBatches (K : cK L cx σ G) (F : cF L cx σ) (O : cB L σ V G) (Wt : cW L σ V G) (D : FD L σ V 1 (G.1 3) (G.1 4)) (W : WF V G n) (hn : n < 64) (hst : G.1 2 ≠ 0) (hJ : JF L σ V (G.1 0) (G.1 4) (G.1 3)) {post : Int32 → St → Prop} (hp : ∀ σ', AccI L V G σ σ' (List.range (G.1 3)) (List.range (G.1 4)) → post (nI (cntL (good V (G.1 0) (G.1 4)) (G.1 4))) σ') : wX7_acceptBatches cx post σ := by
  have h5 := W.1.2.1
  have h4 := W.1.2.2.2.2.2.2.2.1
  have h20 := W.1.2.2.2.2.2.2.2.2.2.1
  obtain ⟨_, _, wE3, wE4, _⟩ := W.2.2.2.1 hst
  have hE : ∀ e, e < G.1 4 → ∃ k, k < G.1 3 ∧ V.2.1 1471 e = nI k := fun e he => (wE3 e he).1
  have hsort : (List.range (G.1 4)).Pairwise (fun a b => ibn V a ≤ ibn V b) := range_sorted _ (fun a b hab hb => by
    have := wE4 a b (by omega) hb
    obtain ⟨l1, e1⟩ := ibn_lt hE h4 (show a < G.1 4 by omega)
    obtain ⟨l2, e2⟩ := ibn_lt hE h4 hb
    rw [e1, e2] at this
    exact (nI_leI (by omega) (by omega)).mp this)
  have hstep : ∀ i, i < 4 → (List.range (G.1 4)).filter (fun e => decide (ibn V e < i + 1)) = (List.range (G.1 4)).filter (fun e => decide (ibn V e < i)) ++ inB V (nI i) (G.1 4) := fun i hi => by
    rw [filt_lt (ibn V) i _ hsort, inB_ibn hE h4 hi]
  have hfin : (List.range (G.1 4)).filter (fun e => decide (ibn V e < G.1 3)) = List.range (G.1 4) := by
    rw [List.filter_eq_self]
    intro e he
    exact decide_eq_true (ibn_lt hE h4 (List.mem_range.mp he)).1
  have h0 : (List.range (G.1 4)).filter (fun e => decide (ibn V e < 0)) = [] := by
    rw [List.filter_eq_nil_iff]
    intro e _ z
    exact absurd (of_decide_eq_true z) (Nat.not_lt_zero _)
  have hib : ∀ i, i < 4 → ∀ e, e ∈ inB V (nI i) (G.1 4) → ibn V e = i := fun i hi e he => by
    rw [inB_ibn hE h4 hi] at he
    exact of_decide_eq_true (List.mem_filter.mp he).2
  have loop : ∀ d i s, i + d = G.1 3 → AccI L V G σ s (List.range i) ((List.range (G.1 4)).filter (fun e => decide (ibn V e < i))) → wX7_acceptBatches_4 cx post (d + 1) (nI (((List.range (G.1 4)).filter (fun e => decide (ibn V e < i))).filter (good V (G.1 0) (G.1 4))).length) (nI i) s := by
    intro d
    induction d with
    | zero =>
      intro i s hi H
      have : i = G.1 3 := by omega
      subst this
      have H2 := H
      obtain ⟨a1, a2, a3, a4, a5, a6, a7, a8, a9⟩ := H2
      have k2 : sK s (L 0 2) = 5 := by rw [a2]; exact K.fix 2 (by decide)
      unfold wX7_acceptBatches_4
      refine ⟨by rw [a2]; exact K.1, nm_R (by rw [a4]; exact F.2.2.1) ⟨k2, ?_⟩⟩
      rw [a3 _ _ _ (by decide), D.1]
      refine pk_le (G.1 3) (G.1 3) (fun _ => ?_) (fun h => absurd h (by omega))
      rw [hfin] at H ⊢
      exact hp s H
    | succ d ih =>
      intro i s hi H
      have hit : i < G.1 3 := by omega
      have H2 := H
      obtain ⟨a1, a2, a3, a4, a5, a6, a7, a8, a9⟩ := H2
      have k2 : sK s (L 0 2) = 5 := by rw [a2]; exact K.fix 2 (by decide)
      have k5 : sK s (L 0 5) = 1250 := by rw [a2]; exact K.fix 5 (by decide)
      have k1 : sK s (L 1 i) = 3 := by rw [a2]; exact K.knd 1 i (by show i < 4; omega)
      obtain ⟨j1, j2⟩ := hJ i hit
      have hbf := bf_lt34 V (G.1 0) (G.1 4) i
      have hP := hstep i (by omega)
      have hPl : ((List.range (G.1 4)).filter (fun e => decide (ibn V e < i))).length + (inB V (nI i) (G.1 4)).length ≤ G.1 4 := by
        have := List.length_filter_le (fun e => decide (ibn V e < i + 1)) (List.range (G.1 4))
        rw [hP, List.length_append, List.length_range] at this
        exact this
      have nx := ih (i + 1)
      rw [hP, List.range_succ, List.filter_append, List.length_append] at nx
      unfold wX7_acceptBatches_4
      refine ⟨by rw [a2]; exact K.1, nm_R (by rw [a4]; exact F.2.2.1) ⟨k2, ?_⟩⟩
      rw [a3 253 _ _ (by decide), D.1]
      refine pk_le (G.1 3) i (fun h => absurd h (by omega)) (fun _ => ⟨by rw [a2]; exact K.1, nm_R (by rw [a4]; exact F.2.2.1) ⟨k2, nm_R (by rw [a4]; exact F.2.2.2.2.2.1) ⟨k5, vp_in_nI (by omega) (by decide), ?_⟩⟩⟩)
      rw [nI_clamp (by omega)]
      refine nm_R (by rw [a4]; exact (F.2.2.2.2.2.2.2 i (by omega)).1) ⟨k1, ?_⟩
      rw [a3 158 _ _ (by decide), j1]
      refine pk_eq _ 0 (fun c => ⟨by rw [a2]; exact K.1, ?_⟩) (fun c => ⟨k1, by rw [a2]; exact K.1, ?_⟩) (ha := by omega)
      · refine c_acceptEntries K F O Wt D W hn hst hit c (j2 c) (hib i (by omega)) hPl H (fun s2 H3 => nm_r (nI_add _ _) (nm_r (nI_1 i) (nx s2 (by omega) ?_)))
        have := H3.none' (B' := [i]) (P' := []) (fun _ _ => rfl) (fun k _ h0 => by
          unfold tal
          rw [List.filter_cons, if_neg (by rw [c, decide_eq_true_eq]; omega)]
          rfl)
        rw [List.append_nil] at this
        exact this
      · have hg : ∀ e, e ∈ inB V (nI i) (G.1 4) → good V (G.1 0) (G.1 4) e = false := fun e he => decide_eq_false (fun z => by
          have := z.1
          rw [hib i (by omega) e he] at this
          exact c this)
        have hgn : (inB V (nI i) (G.1 4)).filter (good V (G.1 0) (G.1 4)) = [] := by
          rw [List.filter_eq_nil_iff]
          intro e he
          rw [hg e he]
          simp
        rw [hgn, List.length_nil, Nat.add_zero] at nx
        refine c_countRefusal (cK.kk K a2) (by unfold cF; rw [a4]; exact F) hbf (nm_r (nI_1 i) (nx _ (by omega) (H.ref K hbf (by omega) (fun b _ => ?_) (fun k _ h0 => ?_))))
        · rw [List.filter_eq_nil_iff]
          intro e he
          unfold gt
          rw [hg e he]
          simp
        · unfold tal
          have e1 : (inB V (nI i) (G.1 4)).filter (fun e => decide (bf V (G.1 0) (G.1 4) (ibn V e) = 0 ∧ ef V (G.1 0) e = k)) = [] := by
            rw [List.filter_eq_nil_iff]
            intro e he z
            have := (of_decide_eq_true z).1
            rw [hib i (by omega) e he] at this
            exact c this
          rw [e1, List.filter_cons]
          by_cases c2 : k = bf V (G.1 0) (G.1 4) i
          · rw [if_pos (decide_eq_true c2.symm), if_pos c2]; rfl
          · rw [if_neg (by rw [decide_eq_true_eq]; exact fun z => c2 z.symm), if_neg c2]; rfl
  have := loop (G.1 3) 0 σ (by omega) (by rw [h0]; exact AccI.rfl')
  rw [h0] at this
  exact ⟨G.1 3 + 1, by omega, this⟩
/-- the file kept -/
theorem c_keep (K : cK L cx σ G) (F : cF L cx σ) {nf : Nat} (h4 : sI σ 404 cx 0 = nI nf) (hnf : nf < 256) (x : Int32) {post : St → Prop} (hp : post (uI (uI σ 1403 (L 0 3) nf x) 404 cx 0 (nI (nf + 1)))) : wX7_keepAsAccepted cx x post σ := by
  have k3 : sK σ (L 0 3) = 1403 := K.fix 3 (by decide)
  unfold wX7_keepAsAccepted
  rw [h4]
  refine ⟨K.1, K.1, nm_R F.2.2.2.1 ⟨k3, pk_le 256 nf (fun h => absurd h (by omega)) (fun _ => ⟨K.1, nm_o F.2.2.2.1 ⟨K.1, L 0 3, rfl, k3, vp_in_nI hnf (by decide), fun s e => ?_⟩⟩)⟩⟩
  rw [nI_clamp (by omega)] at e
  refine ⟨by rw [e]; exact K.1, by rw [e]; exact K.1, fun s2 e2 => ?_⟩
  have e4 : sI s 404 cx 0 = nI nf := by rw [e, sI_ne (by decide)]; exact h4
  rw [e4, nI_1] at e2
  rw [e2, e]
  exact hp
/-! the model's fold -/
theorem cntL_idx {p : Nat → Bool} : ∀ {n j : Nat}, j < cntL p n → ∃ e, e < n ∧ p e = true ∧ cntL p e = j := by
  intro n
  induction n with
  | zero => intro j h; exact absurd h (Nat.not_lt_zero j)
  | succ n ih =>
    intro j h
    rw [cntL_succ] at h
    by_cases c : j < cntL p n
    · obtain ⟨e, h1, h2, h3⟩ := ih c
      exact ⟨e, by omega, h2, h3⟩
    · by_cases hp : p n = true
      · rw [if_pos hp] at h
        exact ⟨n, Nat.lt_succ_self n, hp, by omega⟩
      · rw [if_neg hp] at h
        omega
theorem cntL_mono {p : Nat → Bool} {a b : Nat} (h : a ≤ b) : cntL p a ≤ cntL p b := by
  induction b with
  | zero => have : a = 0 := by omega
            subst this; exact Nat.le_refl _
  | succ b ih =>
    rw [cntL_succ]
    by_cases c : a ≤ b
    · have := ih c; omega
    · have : a = b + 1 := by omega
      subst this
      rw [cntL_succ]
      exact Nat.le_refl _
theorem cntL_lt {p : Nat → Bool} {a b : Nat} (h : a < b) (hp : p a = true) : cntL p a < cntL p b := by
  have h1 : cntL p (a + 1) ≤ cntL p b := cntL_mono h
  rw [cntL_succ, if_pos hp] at h1
  omega
theorem cntL_inj {p : Nat → Bool} {a b : Nat} (ha : p a = true) (hb : p b = true) (h : cntL p a = cntL p b) : a = b := by
  rcases Nat.lt_trichotomy a b with c | c | c
  · have := cntL_lt c ha; omega
  · exact c
  · have := cntL_lt c hb; omega
/-- the good entries, by their place -/
theorem filt_get {p : Nat → Bool} : ∀ {n e : Nat}, e < n → p e = true → ((List.range n).filter p)[cntL p e]? = some e := by
  intro n
  induction n with
  | zero => intro e h; exact absurd h (Nat.not_lt_zero e)
  | succ n ih =>
    intro e h hp
    rw [List.range_succ, List.filter_append]
    by_cases c : e < n
    · rw [List.getElem?_append_left (cntL_lt c hp)]
      exact ih c hp
    · have : e = n := by omega
      subst this
      rw [List.getElem?_append_right (show ((List.range e).filter p).length ≤ cntL p e from Nat.le_refl _), show cntL p e - ((List.range e).filter p).length = 0 from Nat.sub_self _, List.filter_cons, if_pos hp]
      rfl
end PJ
