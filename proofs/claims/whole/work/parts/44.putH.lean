/-! PUT: a file's end, its reason -/
section PH
variable {L : LY} {cx mx : Nat} {σ σ' σ'' : St} {V V' : MV} {G : GH} {n : Nat}
theorem inB_ibn {nt ne i : Nat} (h : ∀ e, e < ne → ∃ k, k < nt ∧ V.2.1 1471 e = nI k) (h4 : nt ≤ 4) (hi : i < 4) : inB V (nI i) ne = (List.range ne).filter (fun e => decide (ibn V e = i)) := by
  unfold inB
  refine List.filter_congr (fun e he => ?_)
  obtain ⟨k, hk, ek⟩ := h e (List.mem_range.mp he)
  rw [decide_eq_decide]
  unfold ibn
  rw [ek, nI_clamp (by omega), nI_eq (by omega) (by omega)]
  constructor
  · intro z
    rcases z with z | z
    · exact absurd z (nI_pos (by omega))
    · exact z
  · exact fun z => Or.inr z
theorem ibn_lt {nt ne e : Nat} (h : ∀ e, e < ne → ∃ k, k < nt ∧ V.2.1 1471 e = nI k) (h4 : nt ≤ 4) (he : e < ne) : ibn V e < nt ∧ V.2.1 1471 e = nI (ibn V e) := by
  obtain ⟨k, hk, ek⟩ := h e he
  unfold ibn
  rw [ek, nI_clamp (by omega)]
  exact ⟨hk, rfl⟩
/-- the batches below i judged -/
def JF (L : LY) (σ : St) (V : MV) (nb ne i : Nat) : Prop := ∀ k, k < i → sI σ 158 (L 1 k) 0 = nI (bf V nb ne k) ∧ (bf V nb ne k = 0 → ∀ e, e ∈ inB V (nI k) ne → JE L σ V nb e k)
theorem c_judgeBatches (E : EI L cx σ V G) (W : WF V G n) (hst : G.1 2 ≠ 0) {post : Int32 → St → Prop} (hp : ∀ σ', JA L G σ σ' → JF L σ' V (G.1 0) (G.1 4) (G.1 3) → post (nI (cntL (good V (G.1 0) (G.1 4)) (G.1 4))) σ') : wX7_judgeBatches cx post σ := by
  have h5 := W.1.2.1
  have h4 := W.1.2.2.2.2.2.2.2.1
  have h20 := W.1.2.2.2.2.2.2.2.2.2.1
  have K0 := E.1
  have c2 : 2 < cnt G 0 := by show 2 < 7; omega
  have hE : ∀ e, e < G.1 4 → ∃ k, k < G.1 3 ∧ V.2.1 1471 e = nI k := fun e he => ((W.2.2.2.1 hst).2.2.1 e he).1
  have l12 : ∀ e, e < G.1 4 → e < cnt G 12 := fun e he => by show e < if G.1 2 = 0 then 0 else G.1 4; rw [if_neg hst]; exact he
  have fin : (List.range (G.1 4)).filter (fun e => good V (G.1 0) (G.1 4) e && decide (ibn V e < G.1 3)) = (List.range (G.1 4)).filter (good V (G.1 0) (G.1 4)) := List.filter_congr (fun e he => by
    rw [decide_eq_true (ibn_lt hE h4 (List.mem_range.mp he)).1, Bool.and_true])
  have loop : ∀ d i σ', i + d = G.1 3 → JA L G σ σ' → JF L σ' V (G.1 0) (G.1 4) i → wX7_judgeBatches_6 cx post (d + 1) (nI ((List.range (G.1 4)).filter (fun e => good V (G.1 0) (G.1 4) e && decide (ibn V e < i))).length) (if i = 0 then -1 else V.2.1 1465 (i - 1)) (nI i) σ' := by
    intro d
    induction d with
    | zero =>
      intro i σ' hi j hj
      have E' := E.ja hst j
      obtain ⟨K, F, O, D⟩ := E'
      have k2 : sK σ' (L 0 2) = 5 := K.fix 2 (by decide)
      have : i = G.1 3 := by omega
      subst this
      unfold wX7_judgeBatches_6
      refine ⟨K.1, nm_R F.2.2.1 ⟨k2, ?_⟩⟩
      rw [D.1]
      refine pk_le (G.1 3) (G.1 3) (fun _ => ?_) (fun h => absurd h (by omega))
      rw [fin]
      exact hp σ' j hj
    | succ d ih =>
      intro i σ' hi j hj
      have E' := E.ja hst j
      have E1 := E'
      obtain ⟨K, F, O, D⟩ := E'
      have hit : i < G.1 3 := by omega
      have k2 : sK σ' (L 0 2) = 5 := K.fix 2 (by decide)
      have k5 : sK σ' (L 0 5) = 1250 := K.fix 5 (by decide)
      have k1 : sK σ' (L 1 i) = 3 := K.knd 1 i (by show i < 4; omega)
      unfold wX7_judgeBatches_6
      refine ⟨K.1, nm_R F.2.2.1 ⟨k2, ?_⟩⟩
      rw [D.1]
      refine pk_le (G.1 3) i (fun h => absurd h (by omega)) (fun _ => ⟨K.1, nm_R F.2.2.1 ⟨k2, nm_R F.2.2.2.2.2.1 ⟨k5, vp_in_nI (by omega) (by decide), ?_⟩⟩⟩)
      rw [nI_clamp (by omega)]
      refine nm_o (F.2.2.2.2.2.2.2 i (by omega)).1 ⟨K.1, c_reasonBatch E1 W hst hit ⟨L 1 i, rfl, k1, fun s1 z1 => ?_⟩⟩
      have hJM : JM L G (L 1 i) := Or.inl ⟨i, by omega, rfl⟩
      have j1 : JA L G σ' s1 := by rw [z1]; exact JA.rfl'.uI (by omega) hJM
      have u1 : sI s1 158 (L 1 i) 0 = nI (bf V (G.1 0) (G.1 4) i) := by rw [z1, sI_uI, if_pos ⟨rfl, rfl, rfl⟩]
      have n1 : ∀ k, k < 4 → k ≠ i → L 1 k ≠ L 1 i := fun k hk hne => K.ne (t := 1) (t' := 1) hk (show i < 4 by omega) (fun z => hne z.2)
      have n12 : ∀ k e, k < 4 → e < G.1 4 → L 1 k ≠ L 12 e := fun k e hk he => K.ne (t := 1) (t' := 12) hk (l12 e he) (fun z => absurd z.1 (by decide))
      have hj1 : ∀ k, k < i → sI s1 158 (L 1 k) 0 = nI (bf V (G.1 0) (G.1 4) k) ∧ (bf V (G.1 0) (G.1 4) k = 0 → ∀ e, e ∈ inB V (nI k) (G.1 4) → JE L s1 V (G.1 0) e k) := fun k hk => by
        obtain ⟨a1, a2⟩ := hj k hk
        refine ⟨?_, fun hb e he => (a2 hb e he).of (fun g => ?_) (fun g => ?_)⟩
        · rw [z1, sI_uI, if_neg (fun z => n1 k (by omega) (by omega) z.2.1)]; exact a1
        · rw [z1, sI_uI, if_neg (fun z => n12 i e (by omega) (inB_lt he) z.2.1.symm)]
        · rw [z1, sR_uI]
      clear z1
      have E2 := E1.ja hst j1
      have hbf := bf_lt V (G.1 0) (G.1 4) i
      refine ⟨by rw [j1.1]; exact k1, ?_⟩
      rw [u1]
      have nx := ih (i + 1)
      rw [len_lt, if_neg (Nat.succ_ne_zero i), Nat.add_sub_cancel] at nx
      have eq1 : (List.range (G.1 4)).filter (fun e => good V (G.1 0) (G.1 4) e && decide (ibn V e = i)) = (inB V (nI i) (G.1 4)).filter (fun e => good V (G.1 0) (G.1 4) e) := by
        rw [inB_ibn hE h4 (by omega), List.filter_filter]
      rw [eq1] at nx
      have hib : ∀ e, e ∈ inB V (nI i) (G.1 4) → ibn V e = i := fun e he => by
        rw [inB_ibn hE h4 (by omega)] at he
        exact of_decide_eq_true (List.mem_filter.mp he).2
      have tail : ∀ (m : Nat) s2, m = ((inB V (nI i) (G.1 4)).filter (fun e => good V (G.1 0) (G.1 4) e)).length → JA L G σ' s2 → JF L s2 V (G.1 0) (G.1 4) (i + 1) → wX7_judgeBatches_57 (wX7_judgeBatches_6 cx post (d + 1)) cx post (nI ((List.range (G.1 4)).filter (fun e => good V (G.1 0) (G.1 4) e && decide (ibn V e < i))).length + nI m) (nI i) (some (L 1 i)) s2 := fun m s2 hm j2 hf => by
        have E3 := E1.ja hst j2
        unfold wX7_judgeBatches_57
        refine ⟨L 1 i, rfl, by rw [j2.1]; exact k1, nm_r (E3.2.2.2.2.2.2.2.2.1 i hit).2.1 (nm_r (nI_1 i) ?_)⟩
        rw [nI_add, hm]
        exact nx s2 (by omega) (j.trans j2) hf
      refine pk_eq _ 0 (fun c => ⟨by rw [j1.1]; exact K.1, c_judgeEntries E2 W hst hit (fun s2 j2 x2 he => ?_)⟩) (fun c => ?_) (ha := by omega)
      · refine nm_r rfl (tail _ s2 ?_ (j1.trans j2) (fun k hk => ?_))
        · congr 1
          refine List.filter_congr (fun e he => ?_)
          unfold good
          rw [hib e he, decide_eq_decide]
          exact ⟨fun z => ⟨c, z⟩, fun z => z.2⟩
        · by_cases ck : k = i
          · subst ck
            refine ⟨?_, fun _ => he⟩
            rw [(x2 (L 1 k) (fun ⟨e, he, ee⟩ => n12 k e (by omega) (inB_lt he) ee)).2.1]
            exact u1
          · obtain ⟨a1, a2⟩ := hj1 k (by omega)
            refine ⟨?_, fun hb e he => ?_⟩
            · rw [(x2 (L 1 k) (fun ⟨e, he, ee⟩ => n12 k e (by omega) (inB_lt he) ee)).2.1]
              exact a1
            · have hxe := x2 (L 12 e) (fun ⟨e', he', ee⟩ => by
                have := (K.2.2 12 e 12 e' (l12 e (inB_lt he)) (l12 e' (inB_lt he')) ee).2
                subst this
                have h1 := hib e he'
                rw [inB_ibn hE h4 (by omega)] at he
                exact ck ((of_decide_eq_true (List.mem_filter.mp he).2).symm.trans h1))
              exact (a2 hb e he).of (fun g => hxe.2.1 g 0) (fun g => hxe.2.2.2.1 g 0)
      · have h0 : (inB V (nI i) (G.1 4)).filter (fun e => good V (G.1 0) (G.1 4) e) = [] := by
          rw [List.filter_eq_nil_iff]
          intro e he z
          have z1 := (of_decide_eq_true z).1
          rw [hib e he] at z1
          exact c z1
        have := tail 0 s1 (by rw [h0]; rfl) j1 (fun k hk => by
          by_cases ck : k = i
          · subst ck
            exact ⟨u1, fun z => absurd z c⟩
          · exact hj1 k (by omega))
        rw [nI_0, Int32.add_zero] at this
        exact this
  have := loop (G.1 3) 0 σ (by omega) JA.rfl' (fun k hk => absurd hk (Nat.not_lt_zero k))
  rw [len_0] at this
  exact ⟨G.1 3 + 1, this⟩
theorem c_reasonFile (E : EI L cx σ V G) (W : WF V G n) (hn : n < 64) (hst : G.1 2 ≠ 0) {h l : Nat} (hh : h < 2 ^ 63) (hl : l < 2 ^ 63) {post : Int32 → St → Prop} (hp : ∀ σ', JA L G σ σ' → (ff V (G.1 0) (G.1 3) (G.1 4) (G.1 5) (G.1 6) h l = 0 → JF L σ' V (G.1 0) (G.1 4) (G.1 3)) → post (nI (ff V (G.1 0) (G.1 3) (G.1 4) (G.1 5) (G.1 6) h l)) σ') : wX7_reasonAgainstFile cx (lN h) (lN l) post σ := by
  have E1 := E
  obtain ⟨K, F, O, D⟩ := E
  have h5 := W.1.2.1
  have h4 := W.1.2.2.2.2.2.2.2.1
  have h20 := W.1.2.2.2.2.2.2.2.2.2.1
  have hnf := W.1.2.2.2.2.2.2.2.2.2.2.2.1
  have hnr := W.1.2.2.2.2.2.2.2.2.2.2.2.2.2.1
  obtain ⟨⟨x, hx, ex⟩, ⟨y, hy, ey⟩, wE⟩ := W.2.2.2.1 hst
  have k2 : sK σ (L 0 2) = 5 := K.fix 2 (by decide)
  have k6 : sK σ (L 0 6) = 7 := K.fix 6 (by decide)
  unfold wX7_reasonAgainstFile
  refine ⟨K.1, nm_R F.2.2.1 ⟨k2, K.1, ?_⟩⟩
  rw [D.2.1]
  refine c_bankWithRouting K F O.1 h5 ?_
  unfold ff at hp
  cases hb : bk V (G.1 0) (V.1 460) with
  | none =>
    rw [hb] at hp
    dsimp only at hp
    exact br_t rfl (hp σ JA.rfl' (fun z => absurd z (by decide)))
  | some b =>
    rw [hb] at hp
    dsimp only at hp
    obtain ⟨_, b1, b2, _⟩ := fnd_some hb
    have b1 : b < G.1 0 := by omega
    have b2 : V.2.1 1451 b = V.1 460 := of_decide_eq_true b2
    refine br_f (by simp) ⟨K.1, c_fileKey E1 ⟨K.1, ?_⟩⟩
    rw [ex, ey]
    rw [ey] at hp
    refine c_wasAccepted E1 W.2.1 W.2.2.2.2.1 h5 (by omega) b1 (b2.trans ex) hx hy (fun z => ?_) (fun z => ?_)
    · rw [if_pos z] at hp
      exact br_f (by decide) (hp σ JA.rfl' (fun z => absurd z (by decide)))
    rw [if_neg (fun u => u z)] at hp
    refine br_t rfl ⟨K.1, nm_R F.2.2.1 ⟨k2, c_digitsH hh (lN l) 1 4 (by decide) (by decide) (by decide) ?_⟩⟩
    rw [D.1]
    have t0 : tot (ep V 0) (inB V (-1) (G.1 4)) = lN (G.1 4) := by rw [tot_one, inB_all, List.length_range]
    have d5 : dg h 5 4 < 10000 := dg_lt h 5 4
    have d1 : dg h 1 4 < 10000 := dg_lt h 1 4
    have c5 : (nI (dg h 5 4)).toInt64 = tot (ep V 0) (inB V (-1) (G.1 4)) ↔ dg h 5 4 = G.1 4 := by
      rw [t0, nI_l (by omega), lN_eq (by omega) (by omega)]
    refine pk_eq (G.1 3) (dg h 1 4) (fun c1 => ?_) (fun c1 => ?_)
    rotate_left
    · rw [if_pos (fun u => c1 u.1.symm)] at hp
      exact hp σ JA.rfl' (fun z => absurd z (by decide))
    refine ⟨K.1, nm_R F.2.2.1 ⟨k2, fun r31 e31 => c_digitsH hh (lN l) 5 4 (by decide) (by decide) (by decide) (c_digitsH hh (lN l) 9 6 (by decide) (by decide) (by decide) (c_digitsL hl (lN h) 0 9 (by decide) (by decide) (by decide) (c_digitsL hl (lN h) 9 9 (by decide) (by decide) (by decide) ⟨L 0 6, e31.trans F.2.2.2.2.2.2.1, k6, x_are k6 D.2.2.2.2.1 (fun u => ?_) (fun u => ?_)⟩)))⟩⟩
    rotate_left
    · rw [if_pos (fun v => u ⟨c5.mpr v.2.1, v.2.2⟩)] at hp
      exact br_t rfl (hp σ JA.rfl' (fun z => absurd z (by decide)))
    rw [if_neg (fun v => v ⟨c1.symm, c5.mp u.1, u.2⟩)] at hp
    refine br_f (by decide) ⟨K.1, c_waitingInAll E1 W.2.2.2.2.2.1 h5 ⟨K.1, c_judgeBatches E1 W hst (fun s j hf => ?_)⟩⟩
    have w1 := cntL_le (fun r => decide (V.2.1 1487 r = 0)) (G.1 6)
    have w2 := cntL_le (good V (G.1 0) (G.1 4)) (G.1 4)
    have hp := hp s j
    rw [nI_add]
    refine pk_le _ 40 (fun c => ?_) (fun c => ?_)
    · rw [if_neg (by omega)] at hp
      exact hp (fun _ => hf)
    · rw [if_pos c] at hp
      exact hp (fun z => absurd z (by decide))
end PH
