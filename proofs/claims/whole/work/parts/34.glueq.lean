/-! THE LOOKS: class and model answer alike, and the invariant is kept -/
def cit (V : MV) (G : GH) (b j r w : Nat) : Int32 := if w = 0 then V.2.1 1480 r else if w = 1 then (if j < G.2.1 5 b then nI (G.2.1 2 r) else nI (G.2.1 1 r)) else if w = 2 then V.2.1 1483 r else if w = 3 then V.2.1 1484 r else if w = 4 then V.2.1 1485 r else if w = 5 then (if j < G.2.1 5 b then V.2.1 1488 r else 0) else (if j < G.2.1 6 b then (if j < G.2.1 5 b ∨ V.2.1 1488 r = 0 then 1 else 2) else 0)
section GQ
variable {L : LY} {cx mx : Nat} {σ : St} {V : MV} {G : GH} {n : Nat}
theorem c_isReturn (C : CI L cx σ V G) {post : Int32 → St → Prop} {b j : Nat} (hb : b < G.1 0) (hj : j < 2 ^ 31) (hn : G.2.1 5 b < 2 ^ 31) (h1 : j < G.2.1 5 b → post 1 σ) (h0 : ¬ j < G.2.1 5 b → post 0 σ) : wX5_isReturn (L 7 b) (nI j) post σ := by
  unfold wX5_isReturn
  refine ⟨C.k.knd 7 b hb, pk_le (G.2.1 5 b) j (fun c => h0 (by omega)) (fun c => h1 c) (hx := (C.o b hb).2.1)⟩
theorem c_item (C : CI L cx σ V G) (W : WF V G n) (hn : n ≤ 64) {post : Int32 → St → Prop} (p k w : Int32) (hbad : ((∀ b, b < G.1 0 → p ≠ nI b) ∨ (∃ b, b < G.1 0 ∧ p = nI b ∧ ∀ j, j < (G.2.2 1 b).length → k ≠ nI j) ∨ (∀ j, j < 7 → w ≠ nI j)) → post (-1) σ) (hgo : ∀ b j x r, b < G.1 0 → p = nI b → k = nI j → (G.2.2 1 b)[j]? = some r → x < 7 → w = nI x → post (cit V G b j r x) σ) : wX7_item cx p k w post σ := by
  obtain ⟨wn, wb, wa, we, wf, wr, wt, wo⟩ := W
  have h5 := wn.2.1
  have hnr : G.1 6 ≤ 64 := by have := wn.2.2.2.2.2.2.2.2.2.2.2.2.2.1; omega
  have b7 : ∀ b, b < G.1 0 → sR σ 104 (L 4 b) 0 = some (L 7 b) := fun b hb => (C.b.2 b hb).2.2.2.2.1
  unfold wX7_item
  refine ⟨C.k.1, c_bankAt C.k C.f C.b h5 p (fun h => br_t rfl (hbad (Or.inl h))) (fun b hb e => br_f (by simp) ?_)⟩
  have hlen := nodup_len (G.1 6) _ (wo b).2.1 (wo b).2.2.1
  rcases nI_lt_cases k (G.2.2 1 b).length (by omega) with ⟨j, hj, rfl⟩ | hr
  rotate_left
  · have hn := nI_no (by omega) hr
    have hbd := hbad (Or.inr (Or.inl ⟨b, hb, e, hn⟩))
    rcases hr with h | ⟨h, h2⟩
    · exact br_t h hbd
    · exact br_f h ⟨L 4 b, rfl, C.k.knd 4 b hb, nm_R (b7 b hb) ⟨C.k.knd 7 b hb, c_out_size C hb (br_f (i32_nlt.mpr h2) hbd)⟩⟩
  have hjr := List.getElem?_eq_getElem hj
  generalize (G.2.2 1 b)[j] = r at hjr
  have hrm : r < G.1 6 := (wo b).2.2.1 r (List.mem_of_getElem? hjr)
  have g := hgo b j
  refine br_f (nI_pos (by omega)) ⟨L 4 b, rfl, C.k.knd 4 b hb, nm_R (b7 b hb) ⟨C.k.knd 7 b hb, c_out_size C hb (br_t (nI_lt hj (by omega)) ⟨C.k.knd 4 b hb, nm_R (b7 b hb) ⟨C.k.knd 7 b hb, nm_R (C.b.2 b hb).2.2.2.2.2.1 (q_get (C.k.ls 8 b (by omega) hb) (by omega) (x := L 11 r) (by rw [(C.o b hb).1, List.getElem?_map, hjr]; rfl) ⟨L 11 r, rfl, C.k.knd 11 r hrm, C.k.knd 4 b hb, nm_R (b7 b hb) ⟨C.k.knd 7 b hb, ?_⟩⟩)⟩⟩)⟩⟩
  obtain ⟨r0, r1, r2, r3, r4, r5, r6, r7⟩ := C.r r hrm
  obtain ⟨w1, w2, w3, w4, w5, w6⟩ := wr.1 r hrm
  have hnret := (wo b).2.2.2.1
  have hdn := (wo b).2.2.2.2.1
  have main : ∀ (ret : Bool), (ret = true ↔ j < G.2.1 5 b) → (w = 0 → sK σ (L 11 r) = 4 ∧ post (sI σ 200 (L 11 r) 0) σ) ∧ (¬ w = 0 → ((w = 1 → ((bI ret = 0 → (sK σ (L 11 r) = 4 ∧ (∀ r43 : Option Nat, r43 = sR σ 206 (L 11 r) 0 → (∃ a44 : Nat, r43 = some a44 ∧ (sK σ a44 = 2 ∧ (post (sI σ 100 a44 0) σ)))))) ∧ (¬ bI ret = 0 → (sK σ (L 11 r) = 4 ∧ (∀ r47 : Option Nat, r47 = sR σ 207 (L 11 r) 0 → (∃ a48 : Nat, r47 = some a48 ∧ (sK σ a48 = 2 ∧ (post (sI σ 100 a48 0) σ)))))))) ∧ (¬ w = 1 → ((w = 2 → (sK σ (L 11 r) = 4 ∧ (post (sI σ 202 (L 11 r) 0) σ))) ∧ (¬ w = 2 → ((w = 3 → (sK σ (L 11 r) = 4 ∧ (post (sI σ 203 (L 11 r) 0) σ))) ∧ (¬ w = 3 → ((w = 4 → (sK σ (L 11 r) = 4 ∧ (post (sI σ 204 (L 11 r) 0) σ))) ∧ (¬ w = 4 → ((w = 5 → ((bI ret = 0 → (post (0 : Int32) σ)) ∧ (¬ bI ret = 0 → (sK σ (L 11 r) = 4 ∧ (post (sI σ 208 (L 11 r) 0) σ))))) ∧ (¬ w = 5 → ((w = 6 → (sK σ (L 4 b) = 2 ∧ (∀ r61 : Option Nat, r61 = sR σ 104 (L 4 b) 0 → (∃ a62 : Nat, r61 = some a62 ∧ (sK σ a62 = 6 ∧ (wX5_stateOf a62 (nI j) (fun (x66 : Int32) (σ64 : St) => post x66 σ64) σ)))))) ∧ (¬ w = 6 → (post (-1 : Int32) σ)))))))))))))) := by
    intro ret hret
    have k4 := C.k.knd 11 r hrm
    refine br_c (fun c => ⟨k4, ?_⟩) (fun c0 => ?_)
    · have := g 0 r hb e rfl hjr (by decide) c
      rw [r0]; exact this
    refine br_c (fun c => ?_) (fun c1 => ?_)
    · have := g 1 r hb e rfl hjr (by decide) c
      unfold cit at this
      rw [if_neg (by decide), if_pos rfl] at this
      cases ret with
      | false =>
        rw [if_neg (fun z => by have := hret.mpr z; cases this)] at this
        exact br_t rfl ⟨k4, nm_R r6 ⟨C.k.knd 4 _ w2, by rw [(C.b.2 _ w2).1]; exact this⟩⟩
      | true =>
        rw [if_pos (hret.mp rfl)] at this
        exact br_f (by decide) ⟨k4, nm_R r7 ⟨C.k.knd 4 _ w4, by rw [(C.b.2 _ w4).1]; exact this⟩⟩
    refine br_c (fun c => ⟨k4, ?_⟩) (fun c2 => ?_)
    · have := g 2 r hb e rfl hjr (by decide) c
      rw [r2]; exact this
    refine br_c (fun c => ⟨k4, ?_⟩) (fun c3 => ?_)
    · have := g 3 r hb e rfl hjr (by decide) c
      rw [r3]; exact this
    refine br_c (fun c => ⟨k4, ?_⟩) (fun c4 => ?_)
    · have := g 4 r hb e rfl hjr (by decide) c
      rw [r4]; exact this
    refine br_c (fun c => ?_) (fun c5 => ?_)
    · have := g 5 r hb e rfl hjr (by decide) c
      unfold cit at this
      rw [if_neg (by decide), if_neg (by decide), if_neg (by decide), if_neg (by decide), if_neg (by decide), if_pos rfl] at this
      cases ret with
      | false =>
        rw [if_neg (fun z => by have := hret.mpr z; cases this)] at this
        exact br_t rfl this
      | true =>
        rw [if_pos (hret.mp rfl)] at this
        exact br_f (by decide) ⟨k4, by rw [C.rr r hrm]; exact this⟩
    refine br_c (fun c => ⟨C.k.knd 4 b hb, nm_R (b7 b hb) ⟨C.k.knd 7 b hb, ?_⟩⟩) (fun c6 => hbad (Or.inr (Or.inr (fun x hx ex => ?_))))
    · have := g 6 r hb e rfl hjr (by decide) c
      unfold cit at this
      rw [if_neg (by decide), if_neg (by decide), if_neg (by decide), if_neg (by decide), if_neg (by decide), if_neg (by decide)] at this
      unfold wX5_stateOf
      refine ⟨C.k.knd 7 b hb, pk_lt j (G.2.1 6 b) (fun cd => ⟨C.k.knd 7 b hb, c_isReturn C hb (by omega) (by omega) (fun cr => br_f (by decide) ?_) (fun cr => br_t rfl ?_)⟩) (fun cd => ?_) (hy := C.d b hb)⟩
      · rw [if_pos cd, if_pos (Or.inl cr)] at this
        exact this
      · rw [if_pos cd] at this
        refine ⟨C.k.knd 7 b hb, nm_R (C.b.2 b hb).2.2.2.2.2.1 (q_get (C.k.ls 8 b (by omega) hb) (by omega) (x := L 11 r) (by rw [(C.o b hb).1, List.getElem?_map, hjr]; rfl) ⟨L 11 r, rfl, k4, k4, ?_⟩)⟩
        rw [C.rr r hrm]
        by_cases c8 : V.2.1 1488 r = 0
        · rw [if_pos (Or.inr c8)] at this
          exact br_t c8 this
        · rw [if_neg (fun z => z.elim cr c8)] at this
          exact br_f c8 this
      · rw [if_neg (by omega)] at this
        exact this
    · rcases (show x = 0 ∨ x = 1 ∨ x = 2 ∨ x = 3 ∨ x = 4 ∨ x = 5 ∨ x = 6 by omega) with z | z | z | z | z | z | z <;> subst z
      · exact c0 ex
      · exact c1 ex
      · exact c2 ex
      · exact c3 ex
      · exact c4 ex
      · exact c5 ex
      · exact c6 ex
  refine c_isReturn C hb (by omega) (by omega) (fun cr => ?_) (fun cr => ?_)
  · exact main true ⟨fun _ => cr, fun _ => rfl⟩
  · exact main false ⟨fun z => (by cases z), fun z => absurd z cr⟩
theorem h_items {x1 : Int32} (I : Inv cx mx n σ) : law_items cx mx (Inv cx mx (n + 1)) x1 σ := by
  obtain ⟨A, V, G, L, M, W, C⟩ := I
  have I' : Inv cx mx (n + 1) σ := ⟨A, V, G, L, M, W.le, C⟩
  obtain ⟨wn, wb, wa, we, wf, wr, wt, wo⟩ := W
  unfold law_items
  refine c_items C wn.2.1 x1 (fun h => ⟨M.mx, m_items M x1 wn.1 wn.2.1 (fun _ => ⟨rfl, I'⟩) (fun b hb e => absurd e (h b hb))⟩) (fun b hb e => ⟨M.mx, m_items M x1 wn.1 wn.2.1 (fun h => absurd e (h b hb)) (fun b' hb' e' => ⟨?_, I'⟩)⟩)
  have eb : b = b' := (nI_eq (by have := wn.2.1; omega) (by have := wn.2.1; omega)).mp (e.symm.trans e')
  rw [← eb, (wo b).1]
theorem h_ledger {x1 : Int32} (I : Inv cx mx n σ) : law_ledger cx mx (Inv cx mx (n + 1)) x1 σ := by
  obtain ⟨A, V, G, L, M, W, C⟩ := I
  have I' : Inv cx mx (n + 1) σ := ⟨A, V, G, L, M, W.le, C⟩
  obtain ⟨wn, wb, wa, we, wf, wr, wt, wo⟩ := W
  unfold law_ledger
  refine c_ledger C wn.2.1 x1 (fun h => ⟨M.mx, m_ledger M x1 wn.1 wn.2.1 (fun _ => ⟨rfl, I'⟩) (fun b hb e => absurd e (h b hb))⟩) (fun b hb e => ⟨M.mx, m_ledger M x1 wn.1 wn.2.1 (fun h => absurd e (h b hb)) (fun b' hb' e' => ⟨?_, I'⟩)⟩)
  have eb : b = b' := (nI_eq (by have := wn.2.1; omega) (by have := wn.2.1; omega)).mp (e.symm.trans e')
  rw [← eb]
theorem h_balance {x1 x2 : Int32} (I : Inv cx mx n σ) : law_balance cx mx (Inv cx mx (n + 1)) x1 x2 σ := by
  obtain ⟨A, V, G, L, M, W, C⟩ := I
  have I' : Inv cx mx (n + 1) σ := ⟨A, V, G, L, M, W.le, C⟩
  obtain ⟨wn, wb, wa, we, wf, wr, wt, wo⟩ := W
  unfold law_balance
  refine c_balance C wa wn.2.1 wn.2.2.2.1 x1 x2 (fun h => ⟨M.mx, m_balance M x1 x2 wn.2.2.1 wn.2.2.2.1 (fun _ => ⟨rfl, I'⟩) (fun a ha => ?_)⟩) (fun a h => ⟨M.mx, m_balance M x1 x2 wn.2.2.1 wn.2.2.2.1 (fun ha => ?_) (fun a' ha => ⟨?_, I'⟩)⟩)
  · rw [h] at ha; cases ha
  · rw [h] at ha; cases ha
  · rw [h] at ha; cases ha; rfl
theorem h_rejected {x1 : Int32} (I : Inv cx mx n σ) : law_rejected cx mx (Inv cx mx (n + 1)) x1 σ := by
  obtain ⟨A, V, G, L, M, W, C⟩ := I
  have I' : Inv cx mx (n + 1) σ := ⟨A, V, G, L, M, W.le, C⟩
  unfold law_rejected
  refine c_rejected C x1 (fun h => ⟨M.mx, m_rejected M x1 (fun _ => ⟨rfl, I'⟩) (fun k hk e => absurd e (h k hk))⟩) (fun k hk e => ⟨M.mx, m_rejected M x1 (fun h => absurd e (h k hk)) (fun k' hk' e' => ⟨?_, I'⟩)⟩)
  have h1 : k < 40 := by unfold kno at hk; omega
  have h2 : k' < 40 := by unfold kno at hk'; omega
  have eb : k = k' := (nI_eq (by omega) (by omega)).mp (e.symm.trans e')
  rw [← eb]
theorem h_control {x1 x2 : Int32} (hn : n < 64) (I : Inv cx mx n σ) : law_control cx mx (Inv cx mx (n + 1)) x1 x2 σ := by
  obtain ⟨A, V, G, L, M, W, C⟩ := I
  have I' : Inv cx mx (n + 1) σ := ⟨A, V, G, L, M, W.le, C⟩
  obtain ⟨wn, wb, wa, we, wf, wr, wt, wo⟩ := W
  have h5 := wn.2.1
  have hnr : G.1 6 ≤ 64 := by have := wn.2.2.2.2.2.2.2.2.2.2.2.2.2.1; omega
  have dat : ∀ b, b < G.1 0 → ∃ L : List Nat, L = G.2.2 1 b ∧ L.length ≤ 512 ∧ V.2.1 1491 b = nI L.length ∧ (∀ k r, L[k]? = some r → V.2.1 1492 (512 * b + k) = nI r ∧ r < 512 ∧ ∃ t, t < 5 ∧ V.2.1 1482 r = nI t) := fun b hb => by
    have hlen := nodup_len (G.1 6) _ (wo b).2.1 (wo b).2.2.1
    refine ⟨_, rfl, by omega, (wo b).1, fun k r hkr => ?_⟩
    have hr := (wo b).2.2.1 r (List.mem_of_getElem? hkr)
    obtain ⟨w1, w2, w3, w4, w5⟩ := wr.1 r hr
    exact ⟨((wo b).2.2.2.2.2 k r hkr).1, by omega, _, by omega, w3⟩
  unfold law_control
  refine c_control C h5 x1 x2 (fun h => ⟨M.mx, m_control M x1 x2 wn.1 h5 (fun _ => ⟨rfl, I'⟩) (fun b x hb e hx ex => ?_)⟩) (fun b x hb e hx ex => ⟨M.mx, m_control M x1 x2 wn.1 h5 (fun h => ?_) (fun b' x' hb' e' hx' ex' => ?_)⟩)
  · rcases h with h | h
    · exact absurd e (h b hb)
    · exact absurd ex (h x hx)
  · rcases h with h | h
    · exact absurd e (h b hb)
    · exact absurd ex (h x hx)
  · have eb : b = b' := (nI_eq (by omega) (by omega)).mp (e.symm.trans e')
    have exx : x = x' := (nI_eq (by omega) (by omega)).mp (ex.symm.trans ex')
    subst eb
    subst exx
    obtain ⟨L', e1, e2, e3, e4⟩ := dat b hb
    exact ⟨L', e2, e3, e4, by rw [e1], I'⟩
theorem h_waiting {x1 x2 : Int32} (hn : n < 64) (I : Inv cx mx n σ) : law_waiting cx mx (Inv cx mx (n + 1)) x1 x2 σ := by
  obtain ⟨A, V, G, L, M, W, C⟩ := I
  have I' : Inv cx mx (n + 1) σ := ⟨A, V, G, L, M, W.le, C⟩
  obtain ⟨wn, wb, wa, we, wf, wr, wt, wo⟩ := W
  have h5 := wn.2.1
  have e479 := wn.2.2.2.2.2.2.2.2.2.2.2.2.1
  have hnr : G.1 6 ≤ 64 := by have := wn.2.2.2.2.2.2.2.2.2.2.2.2.2.1; omega
  unfold law_waiting
  refine c_waiting C wt wr h5 x1 x2 (fun h => ⟨M.mx, m_waiting M x1 x2 wn.1 h5 e479 (by omega) (fun _ => ⟨rfl, I'⟩) (fun b x hb e hx ex => ?_)⟩) (fun b x hb e hx ex => ⟨M.mx, m_waiting M x1 x2 wn.1 h5 e479 (by omega) (fun h => ?_) (fun b' x' hb' e' hx' ex' => ⟨?_, I'⟩)⟩)
  · rcases h with h | h
    · exact absurd e (h b hb)
    · exact absurd ex (h x hx)
  · rcases h with h | h
    · exact absurd e (h b hb)
    · exact absurd ex (h x hx)
  · have eb : b = b' := (nI_eq (by omega) (by omega)).mp (e.symm.trans e')
    have exx : x = x' := (nI_eq (by omega) (by omega)).mp (ex.symm.trans ex')
    subst eb
    subst exx
    congr 1
    by_cases c : x = 0
    · rw [if_pos c]
      simp only [if_pos c]
    · rw [if_neg c]
      simp only [if_neg c]
      have key : ∀ (l1 l2 : List Nat), l1.Nodup → l2.Nodup → (∀ r, r ∈ l1 ↔ r ∈ l2) → l1.length = l2.length := fun l1 l2 d1 d2 hm => ((List.perm_ext_iff_of_nodup d1 d2).mpr hm).length_eq
      refine key _ _ ?_ (List.Pairwise.filter _ List.nodup_range) (fun r => ?_)
      · refine (wt b).2.1.imp (fun {r s} h e => ?_)
        rw [e, Int32.lt_iff_toInt_lt] at h
        omega
      · rw [(wt b).1 r, List.mem_filter, List.mem_range]
        unfold rtB
        rw [decide_eq_true_iff]
        constructor
        · intro ⟨z1, z2, z3⟩
          exact ⟨z1, z2, by rw [(wr.1 r z1).1, z3]⟩
        · intro ⟨z1, z2, z3⟩
          refine ⟨z1, z2, ?_⟩
          have w1 := wr.1 r z1
          exact (nI_eq (by omega) (by omega)).mp (w1.1.symm.trans z3)
theorem h_item {x1 x2 x3 : Int32} (hn : n < 64) (I : Inv cx mx n σ) : law_item cx mx (Inv cx mx (n + 1)) x1 x2 x3 σ := by
  obtain ⟨A, V, G, L, M, W, C⟩ := I
  have I' : Inv cx mx (n + 1) σ := ⟨A, V, G, L, M, W.le, C⟩
  have W0 := W
  obtain ⟨wn, wb, wa, we, wf, wr, wt, wo⟩ := W
  have h5 := wn.2.1
  have hnr : G.1 6 ≤ 64 := by have := wn.2.2.2.2.2.2.2.2.2.2.2.2.2.1; omega
  have hlen : ∀ b, (G.2.2 1 b).length ≤ 64 := fun b => by have := nodup_len (G.1 6) _ (wo b).2.1 (wo b).2.2.1; omega
  have hln : ∀ b, b < G.1 0 → ∃ len, len ≤ 512 ∧ V.2.1 1491 b = nI len := fun b hb => ⟨_, by have := hlen b; omega, (wo b).1⟩
  unfold law_item
  refine c_item C W0 (by omega) x1 x2 x3 (fun h => ⟨M.mx, m_item M x1 x2 x3 wn.1 h5 (fun _ => ⟨rfl, I'⟩) hln (fun b j x len hb e hl hl2 hj ej hx ex => ?_)⟩) (fun b j x r hb e ej hjr hx ex => ⟨M.mx, m_item M x1 x2 x3 wn.1 h5 (fun h => ?_) hln (fun b' j' x' len hb' e' hl hl2 hj' ej' hx' ex' => ?_)⟩)
  · rcases h with h | ⟨b', hb', e', h⟩ | h
    · exact absurd e (h b hb)
    · have eb : b = b' := (nI_eq (by omega) (by omega)).mp (e.symm.trans e')
      subst eb
      have := hlen b
      have el : len = (G.2.2 1 b).length := (nI_eq (by omega) (by omega)).mp (hl.symm.trans (wo b).1)
      exact absurd ej (h j (by omega))
    · exact absurd ex (h x hx)
  · have hj := (List.getElem?_eq_some_iff.mp hjr).1
    rcases h with h | ⟨b', len, hb', e', hl, h⟩ | h
    · exact absurd e (h b hb)
    · have eb : b = b' := (nI_eq (by omega) (by omega)).mp (e.symm.trans e')
      subst eb
      have h64 := hlen b
      obtain ⟨l2, q1, q2⟩ := hln b hb
      by_cases hc : j < len
      · exact absurd ej (h j hc)
      · exfalso
        have h3 : nI len = nI (G.2.2 1 b).length := hl.symm.trans (wo b).1
        have h4 : ((len : Nat) : Int) = len := rfl
        rw [nI_eq (by omega) (by omega)] at h3
        omega
    · exact absurd ex (h x hx)
  · have hj := (List.getElem?_eq_some_iff.mp hjr).1
    have h64 := hlen b
    have eb : b = b' := (nI_eq (by omega) (by omega)).mp (e.symm.trans e')
    have exx : x = x' := (nI_eq (by omega) (by omega)).mp (ex.symm.trans ex')
    have ejj : j = j' := (nI_eq (by omega) (by omega)).mp (ej.symm.trans ej')
    subst eb
    subst exx
    subst ejj
    have hr := (wo b).2.2.1 r (List.mem_of_getElem? hjr)
    obtain ⟨o1, o2, o3, o4, o5⟩ := (wo b).2.2.2.2.2 j r hjr
    obtain ⟨w1, w2, w3, w4, w5, w6⟩ := wr.1 r hr
    refine ⟨r, by omega, o1, ?_, I'⟩
    unfold cit itm
    rw [o2, o3, w1, w3]
    by_cases c : j < G.2.1 5 b
    · simp only [if_pos c, true_or, if_true]
      rw [if_neg (show ¬ (1 : Int32) = 0 by decide), if_neg (show ¬ (1 : Int32) = 0 by decide)]
    · simp [c]
end GQ
