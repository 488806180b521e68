/-! PUT: a file's end, what is accepted -/
section PI
variable {L : LY} {cx mx : Nat} {σ σ' σ'' : St} {V V' : MV} {G : GH} {n : Nat} {B P : List Nat}
def gt (V : MV) (nb ne b e : Nat) : Bool := good V nb ne e && decide (bk V nb (V.2.1 1473 e) = some b)
def tal (V : MV) (nb ne : Nat) (B P : List Nat) (k : Nat) : Nat := (B.filter (fun b => decide (bf V nb ne b = k))).length + (P.filter (fun e => decide (bf V nb ne (ibn V e) = 0 ∧ ef V nb e = k))).length
def AM (L : LY) (G : GH) (a : Nat) : Prop := a = L 0 4 ∨ ∃ b, b < G.1 0 ∧ a = L 5 b
/-- what has been accepted: the batches B, the entries P -/
def AccI (L : LY) (V : MV) (G : GH) (σ σ' : St) (B P : List Nat) : Prop := AX (AM L G) σ σ' ∧ sK σ' = sK σ ∧ (∀ g a j, g ≠ 1405 → sI σ' g a j = sI σ g a j) ∧ sR σ' = sR σ ∧ sJ σ' = sJ σ ∧ (∀ a, (∀ b, b < G.1 0 → a ≠ L 5 b) → sL σ' a = sL σ a) ∧ (∀ b, b < G.1 0 → sL σ' (L 5 b) = sL σ (L 5 b) ++ (P.filter (gt V (G.1 0) (G.1 4) b)).map (L 12)) ∧ (∀ k, k < 34 → 0 < k → sI σ' 1405 (L 0 4) k = sI σ 1405 (L 0 4) k + nI (tal V (G.1 0) (G.1 4) B P k)) ∧ sI σ' 1405 (L 0 4) 0 = sI σ 1405 (L 0 4) 0
theorem AccI.rfl' : AccI L V G σ σ [] [] := ⟨AX.rfl', rfl, fun _ _ _ _ => rfl, rfl, rfl, fun _ _ => rfl, fun b _ => by simp, fun k _ _ => by
  show _ = _ + nI 0
  rw [nI_0, Int32.add_zero], rfl⟩
theorem tal_app (nb ne : Nat) (B B' P P' : List Nat) (k : Nat) : tal V nb ne (B ++ B') (P ++ P') k = tal V nb ne B P k + tal V nb ne B' P' k := by
  unfold tal
  rw [List.filter_append, List.filter_append, List.length_append, List.length_append]
  omega
theorem nI_addA (x : Int32) (a b : Nat) : x + nI a + nI b = x + nI (a + b) := by rw [Int32.add_assoc, nI_add]
/-- nothing seen of it -/
theorem AccI.none' (h : AccI L V G σ σ' B P) {B' P' : List Nat} (h1 : ∀ b, b < G.1 0 → P'.filter (gt V (G.1 0) (G.1 4) b) = []) (h2 : ∀ k, k < 34 → 0 < k → tal V (G.1 0) (G.1 4) B' P' k = 0) : AccI L V G σ σ' (B ++ B') (P ++ P') := by
  obtain ⟨a1, a2, a3, a4, a5, a6, a7, a8, a9⟩ := h
  refine ⟨a1, a2, a3, a4, a5, a6, fun b hb => ?_, fun k hk h0 => ?_, a9⟩
  · rw [List.filter_append, h1 b hb, List.append_nil]
    exact a7 b hb
  · rw [tal_app, h2 k hk h0, Nat.add_zero]
    exact a8 k hk h0
/-- one refusal -/
theorem AccI.ref (K : cK L cx σ G) (h : AccI L V G σ σ' B P) {B' P' : List Nat} {r : Nat} (hr : r < 34) (hr0 : 0 < r) (h1 : ∀ b, b < G.1 0 → P'.filter (gt V (G.1 0) (G.1 4) b) = []) (h2 : ∀ k, k < 34 → 0 < k → tal V (G.1 0) (G.1 4) B' P' k = if k = r then 1 else 0) : AccI L V G σ (uI σ' 1405 (L 0 4) r (sI σ' 1405 (L 0 4) r + 1)) (B ++ B') (P ++ P') := by
  obtain ⟨a1, a2, a3, a4, a5, a6, a7, a8, a9⟩ := h
  refine ⟨a1.uI (Or.inl rfl), a2, fun g a j hg => ?_, a4, a5, a6, fun b hb => ?_, fun k hk h0 => ?_, ?_⟩
  · rw [sI_ne hg]; exact a3 g a j hg
  · rw [List.filter_append, h1 b hb, List.append_nil]
    exact a7 b hb
  · rw [tal_app, h2 k hk h0, sI_uI]
    by_cases c : k = r
    · subst c
      rw [if_pos ⟨rfl, rfl, rfl⟩, if_pos rfl, a8 k hk h0, ← nI_addA]
      rfl
    · rw [if_neg (fun z => c z.2.2), if_neg c, Nat.add_zero]
      exact a8 k hk h0
  · rw [sI_uI, if_neg (fun z => by omega)]
    exact a9
theorem tal_one (nb ne e k : Nat) : tal V nb ne [] [e] k = if bf V nb ne (ibn V e) = 0 ∧ ef V nb e = k then 1 else 0 := by
  unfold tal
  rw [List.filter_cons]
  by_cases c : bf V nb ne (ibn V e) = 0 ∧ ef V nb e = k
  · rw [if_pos (decide_eq_true c), if_pos c]; rfl
  · rw [if_neg (by simpa using c), if_neg c]; rfl
/-- one entry that waits -/
theorem AccI.acc (K : cK L cx σ G) (hst : G.1 2 ≠ 0) (h : AccI L V G σ σ' B P) {e b : Nat} (he : e < G.1 4) (hb : b < G.1 0) (hg : good V (G.1 0) (G.1 4) e = true) (hbk : bk V (G.1 0) (V.2.1 1473 e) = some b) : AccI L V G σ (uL σ' (L 5 b) (sL σ' (L 5 b) ++ [L 12 e])) B (P ++ [e]) := by
  obtain ⟨a1, a2, a3, a4, a5, a6, a7, a8, a9⟩ := h
  refine ⟨a1.uL (Or.inr ⟨b, hb, rfl⟩), a2, a3, a4, a5, fun a ha => ?_, fun b' hb' => ?_, fun k hk h0 => ?_, a9⟩
  · rw [sL_uL, if_neg (ha b hb)]
    exact a6 a ha
  · rw [sL_uL, List.filter_append]
    by_cases c : b' = b
    · subst c
      rw [if_pos rfl, a7 b' hb', List.filter_cons, if_pos (by unfold gt; rw [hg, hbk]; simp), List.map_append, List.append_assoc]
      rfl
    · rw [if_neg (K.ne hb' hb (t := 5) (t' := 5) (fun z => c z.2)), List.filter_cons, if_neg (by unfold gt; rw [hbk]; simp; intro _; omega), List.filter_nil, List.append_nil]
      exact a7 b' hb'
  · have e1 : tal V (G.1 0) (G.1 4) B (P ++ [e]) k = tal V (G.1 0) (G.1 4) B P k := by
      have := tal_app (V := V) (G.1 0) (G.1 4) B [] P [e] k
      rw [List.append_nil, tal_one, if_neg (fun z => by
        have := (of_decide_eq_true hg).2
        omega), Nat.add_zero] at this
      exact this
    rw [e1]
    exact a8 k hk h0
theorem bf_lt34 (V : MV) (nb ne b : Nat) : bf V nb ne b < 34 := by unfold bf; repeat' split <;> try decide
theorem ef_lt34 (V : MV) (nb e : Nat) : ef V nb e < 34 := by unfold ef; repeat' split <;> try decide
theorem ff_lt34 (V : MV) (nb nt ne nf nr h l : Nat) : ff V nb nt ne nf nr h l < 34 := by
  unfold ff
  cases bk V nb (V.1 460) with
  | none => exact (by decide : 10 < 34)
  | some b => dsimp only; repeat' split <;> try decide
theorem ef_0 {nb e : Nat} (h : ef V nb e = 0) : ∃ b, b < nb ∧ bk V nb (V.2.1 1473 e) = some b := by
  cases hb : bk V nb (V.2.1 1473 e) with
  | some b => exact ⟨b, by have := (fnd_some hb).2.1; omega, rfl⟩
  | none =>
    unfold ef at h
    split at h
    · omega
    · first
        | exact absurd h (by decide)
        | (rw [if_pos hb] at h; omega)
theorem c_acceptEntries (K : cK L cx σ G) (F : cF L cx σ) (O : cB L σ V G) (Wt : cW L σ V G) (D : FD L σ V 1 (G.1 3) (G.1 4)) (W : WF V G n) (hn : n < 64) (hst : G.1 2 ≠ 0) {k : Nat} (hk : k < G.1 3) (hbf : bf V (G.1 0) (G.1 4) k = 0) (hJ : ∀ e, e ∈ inB V (nI k) (G.1 4) → JE L σ V (G.1 0) e k) (hib : ∀ e, e ∈ inB V (nI k) (G.1 4) → ibn V e = k) (hlen : P.length + (inB V (nI k) (G.1 4)).length ≤ G.1 4) (H : AccI L V G σ σ' B P) {post : Int32 → St → Prop} (hp : ∀ σ'', AccI L V G σ σ'' B (P ++ inB V (nI k) (G.1 4)) → post (nI ((inB V (nI k) (G.1 4)).filter (good V (G.1 0) (G.1 4))).length) σ'') : wX7_acceptEntries cx (some (L 1 k)) post σ' := by
  have h5 := W.1.2.1
  have h4 := W.1.2.2.2.2.2.2.2.1
  have h20 := W.1.2.2.2.2.2.2.2.2.2.1
  have hnr := W.1.2.2.2.2.2.2.2.2.2.2.2.2.2.2.2.2.1 hst
  have k1 : sK σ (L 1 k) = 3 := K.knd 1 k (by show k < 4; omega)
  have hmem : ∀ e, e ∈ inB V (nI k) (G.1 4) → e < G.1 4 := fun e he => inB_lt he
  obtain ⟨m1, m2, m3, m4, m5, m6, m7⟩ := D.2.2.2.2.2.1 k hk
  have r150 := (F.2.2.2.2.2.2.2 k (by omega)).2.1
  have kl := K.ls 2 k (by omega) (show k < 4 by omega)
  have l12 : ∀ e, e < G.1 4 → e < cnt G 12 := fun e he => by show e < if G.1 2 = 0 then 0 else G.1 4; rw [if_neg hst]; exact he
  have n25 : ∀ b, b < G.1 0 → L 2 k ≠ L 5 b := fun b hb => K.ne (t := 2) (t' := 5) (show k < 4 by omega) hb (fun z => absurd z.1 (by decide))
  generalize hl : inB V (nI k) (G.1 4) = l at *
  have loop : ∀ d i s, i + d = l.length → AccI L V G σ s B (P ++ l.take i) → wX7_acceptEntries_4 cx post (d + 1) (some (L 1 k)) (nI ((l.take i).filter (good V (G.1 0) (G.1 4))).length) (nI i) s := by
    intro d
    induction d with
    | zero =>
      intro i s hi H
      have H2 := H
      obtain ⟨a1, a2, a3, a4, a5, a6, a7, a8, a9⟩ := H2
      unfold wX7_acceptEntries_4
      refine ⟨L 1 k, rfl, by rw [a2]; exact k1, nm_R (by rw [a4]; exact r150) (q_size (k := l.length) (by rw [a2]; exact kl) (by rw [a6 _ n25, m4]; simp) (pk_le l.length i (fun _ => ?_) (fun h => absurd h (by omega))))⟩
      rw [List.take_of_length_le (by omega)] at H ⊢
      exact hp s H
    | succ d ih =>
      intro i s hi H
      have H2 := H
      obtain ⟨a1, a2, a3, a4, a5, a6, a7, a8, a9⟩ := H2
      have hil : i < l.length := by omega
      obtain ⟨e, hei⟩ : ∃ e, l[i]? = some e := ⟨l[i], List.getElem?_eq_getElem hil⟩
      have hel : e ∈ l := List.mem_of_getElem? hei
      have hen : e < G.1 4 := hmem e hel
      have ka : sK s (L 12 e) = 4 := by rw [a2]; exact K.knd 12 e (l12 e hen)
      obtain ⟨q1, q2, q3, q4⟩ := hJ e hel
      have q4' : sI s 208 (L 12 e) 0 = nI (ef V (G.1 0) e) := (a3 _ _ _ (by decide)).trans q4
      have hef := ef_lt34 V (G.1 0) e
      have nx := ih (i + 1)
      rw [List.take_add_one, hei, Option.toList_some, List.filter_append, List.length_append, ← List.append_assoc] at nx
      have hgood : good V (G.1 0) (G.1 4) e = decide (ef V (G.1 0) e = 0) := by
        unfold good
        rw [hib e hel, decide_eq_decide]
        exact ⟨fun z => z.2, fun z => ⟨hbf, z⟩⟩
      unfold wX7_acceptEntries_4
      refine ⟨L 1 k, rfl, by rw [a2]; exact k1, nm_R (by rw [a4]; exact r150) (q_size (k := l.length) (by rw [a2]; exact kl) (by rw [a6 _ n25, m4]; simp) (pk_le l.length i (fun h => absurd h (by omega)) (fun _ => ⟨by rw [a2]; exact k1, nm_R (by rw [a4]; exact r150) (q_get (by rw [a2]; exact kl) (by omega) (x := L 12 e) (by rw [a6 _ n25, m4, List.getElem?_map, hei]; rfl) ⟨L 12 e, rfl, ka, ka, ?_⟩)⟩)))⟩
      rw [q4']
      refine pk_eq _ 0 (fun c => ⟨ka, ?_⟩) (fun c => ⟨ka, by rw [a2]; exact K.1, c_countRefusal (cK.kk K a2) (by unfold cF; rw [a4]; exact F) hef ?_⟩) (ha := by omega)
      · obtain ⟨b, hb, ebk⟩ := ef_0 c
        have hg : good V (G.1 0) (G.1 4) e = true := by rw [hgood]; exact decide_eq_true c
        have r207 : sR s 207 (L 12 e) 0 = some (L 4 b) := by rw [a4, q3, ebk]; rfl
        refine nm_o r207 (br_f (by simp) ⟨ka, nm_R r207 ⟨by rw [a2]; exact K.knd 4 b hb, nm_R (by rw [a4]; exact (O.2 b hb).2.2.1) ⟨by rw [a2]; exact K.ls 5 b (by omega) hb, L 12 e, rfl, by rw [ka, a2, K.knd 5 b hb]; rfl, ?_, ?_⟩⟩⟩)
        · rw [a7 b hb, (Wt b hb).1, List.length_append, List.length_map, List.length_map]
          have z1 := List.length_filter_le (wtB V b) (List.range (G.1 6))
          have z2 := List.length_filter_le (gt V (G.1 0) (G.1 4) b) (P ++ l.take i)
          rw [List.length_range] at z1
          rw [List.length_append, List.length_take] at z2
          omega
        · have H3 := H.acc K hst hen hb hg ebk
          have nx2 := nx _ (by omega) H3
          rw [List.filter_cons, if_pos hg] at nx2
          exact nm_r (nI_1 _) (nm_r (nI_1 i) nx2)
      · have hg : good V (G.1 0) (G.1 4) e = false := by rw [hgood]; exact decide_eq_false c
        have H3 := H.ref K hef (by omega) (B' := []) (P' := [e]) (fun b hb => by rw [List.filter_cons, if_neg (by unfold gt; rw [hg]; simp)]; rfl) (fun k' _ _ => by
          rw [tal_one, hib e hel]
          by_cases c2 : k' = ef V (G.1 0) e
          · rw [if_pos ⟨hbf, c2.symm⟩, if_pos c2]
          · rw [if_neg (fun z => c2 z.2.symm), if_neg c2])
        rw [List.append_nil] at H3
        have nx2 := nx _ (by omega) H3
        rw [List.filter_cons, if_neg (by rw [hg]; simp)] at nx2
        exact nm_r (nI_1 i) nx2
  have := loop l.length 0 σ' (by omega) (by rw [List.take_zero, List.append_nil]; exact H)
  rw [List.take_zero] at this
  exact ⟨l.length + 1, by omega, this⟩
/-- a sorted list, in parts -/
theorem filt_lt (g : Nat → Nat) (i : Nat) : ∀ l : List Nat, l.Pairwise (fun a b => g a ≤ g b) → l.filter (fun e => decide (g e < i + 1)) = l.filter (fun e => decide (g e < i)) ++ l.filter (fun e => decide (g e = i)) := by
  intro l
  induction l with
  | nil => intro _; rfl
  | cons x l ih =>
    intro hp
    obtain ⟨h1, h2⟩ := List.pairwise_cons.mp hp
    rw [List.filter_cons, List.filter_cons, List.filter_cons, ih h2]
    by_cases c1 : g x < i
    · rw [if_pos (by rw [decide_eq_true_eq]; omega), if_pos (by rw [decide_eq_true_eq]; omega), if_neg (by rw [decide_eq_true_eq]; omega)]
      rfl
    · have hnil : l.filter (fun e => decide (g e < i)) = [] := by
        rw [List.filter_eq_nil_iff]
        intro y hy z
        have := h1 y hy
        have := of_decide_eq_true z
        omega
      rw [hnil]
      by_cases c2 : g x = i
      · rw [if_pos (by rw [decide_eq_true_eq]; omega), if_neg (by rw [decide_eq_true_eq]; omega), if_pos (by rw [decide_eq_true_eq]; omega)]
        rfl
      · rw [if_neg (by rw [decide_eq_true_eq]; omega), if_neg (by rw [decide_eq_true_eq]; omega), if_neg (by rw [decide_eq_true_eq]; omega)]
end PI
