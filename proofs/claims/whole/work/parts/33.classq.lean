/-! THE CLASS'S METHODS over the invariant: looks -/
theorem nm_R {x : Option Nat} {a : Nat} {P : Nat → Prop} (h : x = some a) (hp : P a) : ∀ r : Option Nat, r = x → ∃ b : Nat, r = some b ∧ P b := fun _ e => ⟨a, e.trans h, hp⟩
theorem nm_o {x y : Option Nat} {P : Option Nat → Prop} (h : x = y) (hp : P y) : ∀ r : Option Nat, r = x → P r := fun _ e => by rw [e, h]; exact hp
section CQ
variable {L : LY} {cx : Nat} {σ : St} {V : MV} {G : GH}
theorem q_size {post : Int32 → St → Prop} {a k : Nat} (hk : 20 ≤ sK σ a ∧ sK σ a < 23) (hl : (sL σ a).length = k) (hp : post (nI k) σ) : wL_size a post σ := ⟨hk, by rw [hl]; exact hp⟩
theorem q_get {post : Option Nat → St → Prop} {a k x : Nat} (hk : 20 ≤ sK σ a ∧ sK σ a < 23) (h31 : k < 2 ^ 31) (hx : (sL σ a)[k]? = some x) (hp : post (some x) σ) : wL_get a (nI k) post σ := ⟨hk, x, by rw [nI_clamp h31]; exact hx, nI_pos h31, hp⟩
theorem CI.k (C : CI L cx σ V G) : cK L cx σ G := C.1
theorem CI.f (C : CI L cx σ V G) : cF L cx σ := C.2.1
theorem CI.b (C : CI L cx σ V G) : cB L σ V G := C.2.2.1
theorem CI.l (C : CI L cx σ V G) : cL L σ V G := C.2.2.2.1
theorem CI.a (C : CI L cx σ V G) : cA L σ V G := C.2.2.2.2.1
theorem CI.ab (C : CI L cx σ V G) : cAb L σ V G := C.2.2.2.2.2.1
theorem CI.as (C : CI L cx σ V G) : cAs L σ V G := C.2.2.2.2.2.2.1
theorem CI.s (C : CI L cx σ V G) : cS cx σ V := C.2.2.2.2.2.2.2.1
theorem CI.n (C : CI L cx σ V G) : cN L cx σ V G := C.2.2.2.2.2.2.2.2.1
theorem CI.t (C : CI L cx σ V G) : cT L σ V := C.2.2.2.2.2.2.2.2.2.1
theorem CI.g (C : CI L cx σ V G) : cG L σ G := C.2.2.2.2.2.2.2.2.2.2.1
theorem CI.e (C : CI L cx σ V G) : cE L σ V G := C.2.2.2.2.2.2.2.2.2.2.2.1
theorem CI.r (C : CI L cx σ V G) : cR L σ V G := C.2.2.2.2.2.2.2.2.2.2.2.2.1
theorem CI.rr (C : CI L cx σ V G) : cRr L σ V G := C.2.2.2.2.2.2.2.2.2.2.2.2.2.1
theorem CI.w (C : CI L cx σ V G) : cW L σ V G := C.2.2.2.2.2.2.2.2.2.2.2.2.2.2.1
theorem CI.o (C : CI L cx σ V G) : cO L σ V G := C.2.2.2.2.2.2.2.2.2.2.2.2.2.2.2.1
theorem CI.d (C : CI L cx σ V G) : cD L σ G := C.2.2.2.2.2.2.2.2.2.2.2.2.2.2.2.2
theorem cK.fix (h : cK L cx σ G) (i : Nat) (hi : i < 7) : sK σ (L 0 i) = kd 0 i := h.2.1 0 i hi
theorem cK.bl (h : cK L cx σ G) : 20 ≤ sK σ (L 0 0) ∧ sK σ (L 0 0) < 23 := by rw [h.fix 0 (by decide)]; decide
theorem cK.al (h : cK L cx σ G) : 20 ≤ sK σ (L 0 1) ∧ sK σ (L 0 1) < 23 := by rw [h.fix 1 (by decide)]; decide
theorem cK.ls (h : cK L cx σ G) (t i : Nat) (ht : t = 2 ∨ t = 5 ∨ t = 6 ∨ t = 8) (hi : i < cnt G t) : 20 ≤ sK σ (L t i) ∧ sK σ (L t i) < 23 := by
  rw [h.knd t i hi]
  rcases ht with e | e | e | e <;> subst e <;> exact ⟨(by decide : 20 ≤ 22), (by decide : 22 < 23)⟩
theorem c_bankAt (k : cK L cx σ G) (f : cF L cx σ) (hb : cB L σ V G) (h5 : G.1 0 ≤ 5) {post : Option Nat → St → Prop} (p : Int32) (hbad : (∀ k, k < G.1 0 → p ≠ nI k) → post none σ) (hgo : ∀ b, b < G.1 0 → p = nI b → post (some (L 4 b)) σ) : wX7_bankAt cx p post σ := by
  have hlen : (sL σ (L 0 0)).length = G.1 0 := by rw [hb.1]; simp
  unfold wX7_bankAt
  rcases nI_lt_cases p (G.1 0) (by omega) with ⟨b, hb2, rfl⟩ | hr
  · refine br_f (nI_pos (by omega)) ⟨k.1, nm_R f.1 (q_size k.bl hlen ?_)⟩
    refine br_t (nI_lt hb2 (by omega)) ⟨k.1, nm_R f.1 (q_get k.bl (by omega) (x := L 4 b) ?_ ⟨L 4 b, rfl, k.knd 4 b hb2, hgo b hb2 rfl⟩)⟩
    rw [hb.1, List.getElem?_map, List.getElem?_range hb2]
    rfl
  · have hn := nI_no (by omega) hr
    rcases hr with h | ⟨h, h2⟩
    · exact br_t h (hbad hn)
    · exact br_f h ⟨k.1, nm_R f.1 (q_size k.bl hlen (br_f (i32_nlt.mpr h2) (hbad hn)))⟩
theorem c_bankWithRouting_2 (k : cK L cx σ G) (f : cF L cx σ) (hb : cB L σ V G) (h5 : G.1 0 ≤ 5) {post : Option Nat → St → Prop} (r : Int32) : ∀ d i, i + d = G.1 0 → post ((fnd (fun b => decide (V.2.1 1451 b = r)) d i).map (L 4)) σ → wX7_bankWithRouting_2 cx post (d + 1) r (nI i) σ := by
  have hlen : (sL σ (L 0 0)).length = G.1 0 := by rw [hb.1]; simp
  have hget : ∀ i, i < G.1 0 → (sL σ (L 0 0))[i]? = some (L 4 i) := fun i hi => by
    rw [hb.1, List.getElem?_map, List.getElem?_range hi]
    rfl
  intro d
  induction d with
  | zero =>
    intro i hi hp
    unfold wX7_bankWithRouting_2
    exact ⟨k.1, nm_R f.1 (q_size k.bl hlen (pk_le (G.1 0) i (fun _ => hp) (fun h => absurd h (by omega))))⟩
  | succ d ih =>
    intro i hi hp
    have hib : i < G.1 0 := by omega
    unfold wX7_bankWithRouting_2
    refine ⟨k.1, nm_R f.1 (q_size k.bl hlen (pk_le (G.1 0) i (fun h => absurd h (by omega)) (fun _ => ⟨k.1, nm_R f.1 (q_get k.bl (by omega) (hget i hib) ⟨L 4 i, rfl, k.knd 4 i hib, k.knd 4 i hib, ?_⟩)⟩)))⟩
    rw [(hb.2 i hib).2.1]
    unfold fnd at hp
    by_cases c : V.2.1 1451 i = r
    · rw [if_pos (decide_eq_true c)] at hp
      exact br_t c ⟨k.1, nm_R f.1 (q_get k.bl (by omega) (hget i hib) ⟨L 4 i, rfl, k.knd 4 i hib, hp⟩)⟩
    · rw [if_neg (by simpa using c)] at hp
      exact br_f c (nm_r (nI_1 i) (ih (i + 1) (by omega) hp))
theorem c_bankWithRouting (k : cK L cx σ G) (f : cF L cx σ) (hb : cB L σ V G) (h5 : G.1 0 ≤ 5) {post : Option Nat → St → Prop} {r : Int32} (hp : post ((bk V (G.1 0) r).map (L 4)) σ) : wX7_bankWithRouting cx r post σ := ⟨G.1 0 + 1, c_bankWithRouting_2 k f hb h5 r (G.1 0) 0 (by omega) hp⟩
theorem c_accountOf_2 (k : cK L cx σ G) (f : cF L cx σ) (ha : cA L σ V G) (wa : wA V G) (h5 : G.1 0 ≤ 5) (h12 : G.1 1 ≤ 12) {post : Option Nat → St → Prop} (rb : Option Nat) (b : Int32) (w : Int32) (hrb : ∀ i, i < G.1 1 → (rb = some (L 4 (G.2.1 0 i)) ↔ V.2.1 1455 i = b)) : ∀ d i, i + d = G.1 1 → post ((fnd (fun a => decide (V.2.1 1455 a = b ∧ V.2.1 1456 a = w)) d i).map (L 10)) σ → wX7_accountOf_2 cx post (d + 1) rb w (nI i) σ := by
  have hlen : (sL σ (L 0 1)).length = G.1 1 := by rw [ha.1]; simp
  have hget : ∀ i, i < G.1 1 → (sL σ (L 0 1))[i]? = some (L 10 i) := fun i hi => by
    rw [ha.1, List.getElem?_map, List.getElem?_range hi]
    rfl
  intro d
  induction d with
  | zero =>
    intro i hi hp
    unfold wX7_accountOf_2
    exact ⟨k.1, nm_R f.2.1 (q_size k.al hlen (pk_le (G.1 1) i (fun _ => hp) (fun h => absurd h (by omega))))⟩
  | succ d ih =>
    intro i hi hp
    have hib : i < G.1 1 := by omega
    unfold wX7_accountOf_2
    refine ⟨k.1, nm_R f.2.1 (q_size k.al hlen (pk_le (G.1 1) i (fun h => absurd h (by omega)) (fun _ => ⟨k.1, nm_R f.2.1 (q_get k.al (by omega) (hget i hib) ⟨L 10 i, rfl, k.knd 10 i hib, k.knd 10 i hib, nm_o (ha.2 i hib).1 ?_⟩)⟩)))⟩
    rw [(ha.2 i hib).2]
    unfold fnd at hp
    by_cases c : V.2.1 1455 i = b
    · refine br_t ((hrb i hib).mpr c).symm ⟨k.knd 10 i hib, ?_⟩
      by_cases c2 : V.2.1 1456 i = w
      · rw [if_pos (decide_eq_true ⟨c, c2⟩)] at hp
        exact br_t c2 hp
      · rw [if_neg (by simp [c2])] at hp
        exact br_f c2 (nm_r (nI_1 i) (ih (i + 1) (by omega) hp))
    · rw [if_neg (by simp [c])] at hp
      exact br_f (fun z => c ((hrb i hib).mp z.symm)) (nm_r (nI_1 i) (ih (i + 1) (by omega) hp))
theorem c_accountOf (k : cK L cx σ G) (f : cF L cx σ) (ha : cA L σ V G) (wa : wA V G) (h5 : G.1 0 ≤ 5) (h12 : G.1 1 ≤ 12) {post : Option Nat → St → Prop} {b : Nat} {w : Int32} (hb : b < G.1 0) (hp : post ((ac V (G.1 1) (nI b) w).map (L 10)) σ) : wX7_accountOf cx (some (L 4 b)) w post σ := by
  refine ⟨G.1 1 + 1, c_accountOf_2 k f ha wa h5 h12 _ (nI b) w (fun i hi => ?_) (G.1 1) 0 (by omega) hp⟩
  obtain ⟨e1, e2⟩ := wa.1 i hi
  rw [e1, nI_eq (by omega) (by omega)]
  constructor
  · intro z
    exact (k.2.2 4 b 4 _ hb e2 (Option.some.inj z)).2.symm
  · intro z
    rw [z]
theorem c_accountOf_n (k : cK L cx σ G) (f : cF L cx σ) (ha : cA L σ V G) (wa : wA V G) (h5 : G.1 0 ≤ 5) (h12 : G.1 1 ≤ 12) {post : Option Nat → St → Prop} {b w : Int32} (hb : ∀ k, k < G.1 0 → b ≠ nI k) (hp : post none σ) : wX7_accountOf cx none w post σ := by
  refine ⟨G.1 1 + 1, c_accountOf_2 k f ha wa h5 h12 none b w (fun i hi => ?_) (G.1 1) 0 (by omega) ?_⟩
  · obtain ⟨e1, e2⟩ := wa.1 i hi
    exact ⟨fun z => (by cases z), fun z => absurd (z.symm.trans e1) (hb _ e2)⟩
  · have : fnd (fun a => decide (V.2.1 1455 a = b ∧ V.2.1 1456 a = w)) (G.1 1) 0 = none := fnd_none.mpr (fun j _ h2 => decide_eq_false (fun z => by
      obtain ⟨e1, e2⟩ := wa.1 j (by omega)
      exact hb _ e2 (z.1.symm.trans e1)))
    rw [this]
    exact hp
theorem ac_none {b w : Int32} (wa : wA V G) (hb : ∀ k, k < G.1 0 → b ≠ nI k) : ac V (G.1 1) b w = none := fnd_none.mpr (fun j _ h2 => decide_eq_false (fun z => by
  obtain ⟨e1, e2⟩ := wa.1 j (by omega)
  exact hb _ e2 (z.1.symm.trans e1)))
theorem c_out_size (C : CI L cx σ V G) {post : Int32 → St → Prop} {b : Nat} (hb : b < G.1 0) (hp : post (nI (G.2.2 1 b).length) σ) : wX5_size (L 7 b) post σ := by
  unfold wX5_size
  exact ⟨C.k.knd 7 b hb, nm_R (C.b.2 b hb).2.2.2.2.2.1 (q_size (C.k.ls 8 b (by omega) hb) (by rw [(C.o b hb).1]; simp) hp)⟩
theorem c_items (C : CI L cx σ V G) (h5 : G.1 0 ≤ 5) {post : Int32 → St → Prop} (p : Int32) (hbad : (∀ k, k < G.1 0 → p ≠ nI k) → post (-1) σ) (hgo : ∀ b, b < G.1 0 → p = nI b → post (nI (G.2.2 1 b).length) σ) : wX7_items cx p post σ := by
  unfold wX7_items
  refine ⟨C.k.1, c_bankAt C.k C.f C.b h5 p (fun h => br_t rfl (hbad h)) (fun b hb e => br_f (by simp) ⟨L 4 b, rfl, C.k.knd 4 b hb, nm_R (C.b.2 b hb).2.2.2.2.1 ⟨C.k.knd 7 b hb, c_out_size C hb (hgo b hb e)⟩⟩)⟩
theorem c_ledger (C : CI L cx σ V G) (h5 : G.1 0 ≤ 5) {post : Int64 → St → Prop} (p : Int32) (hbad : (∀ k, k < G.1 0 → p ≠ nI k) → post 0 σ) (hgo : ∀ b, b < G.1 0 → p = nI b → post (V.2.2 1452 b) σ) : wX7_ledger cx p post σ := by
  unfold wX7_ledger
  refine ⟨C.k.1, c_bankAt C.k C.f C.b h5 p (fun h => br_t rfl (hbad h)) (fun b hb e => br_f (by simp) ⟨L 4 b, rfl, C.k.knd 4 b hb, ?_⟩)⟩
  rw [C.l b hb]
  exact hgo b hb e
theorem c_balance (C : CI L cx σ V G) (wa : wA V G) (h5 : G.1 0 ≤ 5) (h12 : G.1 1 ≤ 12) {post : Int64 → St → Prop} (p w : Int32) (hbad : ac V (G.1 1) p w = none → post (-1) σ) (hgo : ∀ a, ac V (G.1 1) p w = some a → post (V.2.2 1457 a) σ) : wX7_balance cx p w post σ := by
  unfold wX7_balance
  refine ⟨C.k.1, c_bankAt C.k C.f C.b h5 p (fun h => ⟨C.k.1, c_accountOf_n C.k C.f C.a wa h5 h12 h (br_t rfl (hbad (ac_none wa h)))⟩) (fun b hb e => ⟨C.k.1, c_accountOf C.k C.f C.a wa h5 h12 hb ?_⟩)⟩
  subst e
  cases ha : ac V (G.1 1) (nI b) w with
  | none => exact br_t rfl (hbad ha)
  | some a =>
    have h := (fnd_some ha).2.1
    have ha1 : a < G.1 1 := by omega
    refine br_f (by simp) ⟨L 10 a, rfl, C.k.knd 10 a ha1, ?_⟩
    rw [C.ab a ha1]
    exact hgo a ha
theorem c_rejected (C : CI L cx σ V G) {post : Int32 → St → Prop} (p : Int32) (hbad : (∀ k, kno k → p ≠ nI k) → post 0 σ) (hgo : ∀ k, kno k → p = nI k → post (V.2.1 1495 k) σ) : wX7_rejected cx p post σ := by
  unfold wX7_rejected
  rcases nI_lt_cases p 34 (by decide) with ⟨k, hk, rfl⟩ | hr
  · refine br_f (nI_pos (by omega)) ⟨C.k.1, nm_R C.f.2.2.2.2.1 ⟨C.k.fix 4 (by decide), br_t (show nI k < nI 34 from nI_lt hk (by decide)) ⟨C.k.1, nm_R C.f.2.2.2.2.1 ⟨C.k.fix 4 (by decide), vp_in_nI hk (by decide), ?_⟩⟩⟩⟩
    rw [nI_clamp (by omega)]
    by_cases c : kno k
    · rw [(C.t k hk).1 c]
      exact hgo k c rfl
    · rw [(C.t k hk).2 c]
      refine hbad (fun j hj e => ?_)
      have hj40 : j < 40 := by unfold kno at hj; omega
      rw [nI_eq (by omega) (by omega)] at e
      rw [e] at c
      exact c hj
  · have hn : ∀ k, kno k → p ≠ nI k := fun k hk => nI_no (by decide) hr k (by unfold kno at hk; omega)
    rcases hr with h | ⟨h, h2⟩
    · exact br_t h (hbad hn)
    · exact br_f h ⟨C.k.1, nm_R C.f.2.2.2.2.1 ⟨C.k.fix 4 (by decide), br_f (i32_nlt.mpr h2) (hbad hn)⟩⟩
theorem c_waiting (C : CI L cx σ V G) (wt : wT V G) (wr : wR V G) (h5 : G.1 0 ≤ 5) {post : Int32 → St → Prop} (p w : Int32) (hbad : ((∀ b, b < G.1 0 → p ≠ nI b) ∨ (∀ j, j < 2 → w ≠ nI j)) → post (-1) σ) (hgo : ∀ b x, b < G.1 0 → p = nI b → x < 2 → w = nI x → post (nI (if x = 0 then cntL (wtB V b) (G.1 6) else (G.2.2 0 b).length)) σ) : wX7_waiting cx p w post σ := by
  unfold wX7_waiting
  refine ⟨C.k.1, c_bankAt C.k C.f C.b h5 p (fun h => br_t rfl (hbad (Or.inl h))) (fun b hb e => br_f (by simp) ?_)⟩
  rcases nI_lt_cases w 2 (by decide) with ⟨x, hx, rfl⟩ | hr
  · have hg := hgo b x hb e hx rfl
    refine br_f (nI_pos (by omega)) (br_t (show nI x ≤ nI 1 from nI_le (by omega) (by decide)) (pk_eq x 0 (fun c => ?_) (fun c => ?_)))
    · rw [if_pos c] at hg
      exact ⟨L 4 b, rfl, C.k.knd 4 b hb, nm_R (C.b.2 b hb).2.2.1 (q_size (C.k.ls 5 b (by omega) hb) (by rw [(C.w b hb).1, List.length_map]; rfl) hg)⟩
    · rw [if_neg c] at hg
      exact ⟨L 4 b, rfl, C.k.knd 4 b hb, nm_R (C.b.2 b hb).2.2.2.1 (q_size (C.k.ls 6 b (by omega) hb) (by rw [(C.w b hb).2, List.length_map]) hg)⟩
  · have hn := nI_no (by decide) hr
    rcases hr with h | ⟨h, h2⟩
    · exact br_t h (hbad (Or.inr hn))
    · refine br_f h (br_f (fun z => ?_) (hbad (Or.inr hn)))
      rw [Int32.le_iff_toInt_le] at z h2
      have e1 : (1 : Int32).toInt = 1 := by decide
      have e2 : (nI 2).toInt = 2 := by decide
      omega
theorem c_control (C : CI L cx σ V G) (h5 : G.1 0 ≤ 5) {post : Int64 → St → Prop} (p w : Int32) (hbad : ((∀ b, b < G.1 0 → p ≠ nI b) ∨ (∀ j, j < 4 → w ≠ nI j)) → post (-1) σ) (hgo : ∀ b x, b < G.1 0 → p = nI b → x < 4 → w = nI x → post (tot (outp V x) (G.2.2 1 b)) σ) : wX7_control cx p w post σ := by
  unfold wX7_control
  refine ⟨C.k.1, c_bankAt C.k C.f C.b h5 p (fun h => br_t rfl (hbad (Or.inl h))) (fun b hb e => br_f (by simp) ⟨L 4 b, rfl, C.k.knd 4 b hb, nm_R (C.b.2 b hb).2.2.2.2.1 ⟨C.k.knd 7 b hb, nm_o (C.b.2 b hb).2.2.2.2.2.2 ?_⟩⟩)⟩
  obtain ⟨-, -, t0, t1, t2, t3⟩ := C.o b hb
  by_cases c0 : w = 0
  · exact br_t c0 ⟨L 9 b, rfl, C.k.knd 9 b hb, by rw [t0]; exact hgo b 0 hb e (by decide) c0⟩
  refine br_f c0 ?_
  by_cases c1 : w = 1
  · exact br_t c1 ⟨L 9 b, rfl, C.k.knd 9 b hb, by rw [t1]; exact hgo b 1 hb e (by decide) c1⟩
  refine br_f c1 ?_
  by_cases c2 : w = 2
  · exact br_t c2 ⟨L 9 b, rfl, C.k.knd 9 b hb, by rw [t2]; exact hgo b 2 hb e (by decide) c2⟩
  refine br_f c2 ?_
  by_cases c3 : w = 3
  · exact br_t c3 ⟨L 9 b, rfl, C.k.knd 9 b hb, by rw [t3]; exact hgo b 3 hb e (by decide) c3⟩
  refine br_f c3 (hbad (Or.inr (fun j hj ej => ?_)))
  rcases (show j = 0 ∨ j = 1 ∨ j = 2 ∨ j = 3 by omega) with z | z | z | z <;> subst z
  · exact c0 ej
  · exact c1 ej
  · exact c2 ej
  · exact c3 ej
end CQ
