/-! JOIN -/
section GJN
variable {L : LY} {cx mx : Nat} {σ σ' : St} {V : MV} {G : GH} {n : Nat}
theorem outp_congr {V V' : MV} {w r : Nat} (h1 : V'.2.1 1451 (V.2.1 1482 r).toNatClampNeg = V.2.1 1451 (V.2.1 1482 r).toNatClampNeg) (h82 : V'.2.1 1482 r = V.2.1 1482 r) (h80 : V'.2.1 1480 r = V.2.1 1480 r) (h84 : V'.2.1 1484 r = V.2.1 1484 r) : outp V' w r = outp V w r := by
  unfold outp
  rw [h82, h80, h84, h1]
theorem tot_congr {f g : Nat → Int64} {l : List Nat} (h : ∀ x, x ∈ l → f x = g x) : tot f l = tot g l := by
  unfold tot
  generalize (0 : Int64) = s0
  induction l generalizing s0 with
  | nil => rfl
  | cons x l ih =>
    rw [List.foldl_cons, List.foldl_cons, h x List.mem_cons_self]
    exact ih (fun y hy => h y (List.mem_cons_of_mem _ hy)) _
/-- a new bank's cells: the bank q, its waiting a, its returns b, its output c with entries d and totals e -/
def BN (σ σ' : St) (x r : Int32) (q a b c d e : Nat) : Prop := AG oTag σ σ' ∧ (sK σ q = 0 ∧ sK σ a = 0 ∧ sK σ b = 0 ∧ sK σ c = 0 ∧ sK σ d = 0 ∧ sK σ e = 0) ∧ (sK σ' q = 2 ∧ sK σ' a = 22 ∧ sK σ' b = 22 ∧ sK σ' c = 6 ∧ sK σ' d = 22 ∧ sK σ' e = 7) ∧ (a ≠ b ∧ a ≠ d ∧ b ≠ d) ∧ (sI σ' 100 q 0 = x ∧ sI σ' 101 q 0 = r ∧ sR σ' 102 q 0 = some a ∧ sR σ' 103 q 0 = some b ∧ sR σ' 104 q 0 = some c ∧ sR σ' 300 c 0 = some d ∧ sR σ' 301 c 0 = some e) ∧ (sL σ' a = [] ∧ sL σ' b = [] ∧ sL σ' d = []) ∧ sJ σ' 105 q 0 = 0 ∧ TT σ' e (fun _ => 0) ∧ sI σ' 302 c 0 = 0 ∧ sI σ' 303 c 0 = 0
set_option maxHeartbeats 1000000 in
theorem n_bank {post : St → Prop} {q : Nat} {x r : Int32} (hq : sK σ q = 0) (hp : ∀ σ' a b c d e, BN σ σ' x r q a b c d e → post σ') : wX1_init q x r post (uN σ q 2) := by
  unfold wX1_init
  intro a ha s e0
  subst e0
  have naq : a ≠ q := fun z => by rw [z, sK_uN, if_pos rfl] at ha; cases ha
  have ka : sK σ a = 0 := by rw [sK_uN, if_neg naq] at ha; exact ha
  refine ⟨by rw [sK_uN, if_pos rfl], by rw [sI_uN, if_pos rfl], by decide, ?_⟩
  refine ⟨by rw [sK_uT, if_neg naq.symm, sK_uN, if_neg naq.symm, sK_uN, if_pos rfl], fun s e0 => ?_⟩
  subst e0
  intro b hb s e0
  subst e0
  simp only [sK_uR, sK_uT, sK_uN] at hb
  have nba : b ≠ a := fun z => by rw [if_pos z] at hb; cases hb
  rw [if_neg nba, if_neg nba] at hb
  have nbq : b ≠ q := fun z => by rw [if_pos z] at hb; cases hb
  rw [if_neg nbq] at hb
  refine ⟨by rw [sK_uN, if_pos rfl], by rw [sI_uN, if_pos rfl], by decide, ?_⟩
  refine ⟨by simp [sK_uT, sK_uN, sK_uR, nbq.symm, naq.symm], fun s e0 => ?_⟩
  subst e0
  intro c hc s e0
  subst e0
  simp only [sK_uR, sK_uT, sK_uN] at hc
  have ncb : c ≠ b := fun z => by rw [if_pos z] at hc; cases hc
  rw [if_neg ncb, if_neg ncb] at hc
  have nca : c ≠ a := fun z => by rw [if_pos z] at hc; cases hc
  rw [if_neg nca, if_neg nca] at hc
  have ncq : c ≠ q := fun z => by rw [if_pos z] at hc; cases hc
  rw [if_neg ncq] at hc
  unfold wX5_init
  intro d hd s e0
  subst e0
  simp only [sK_uR, sK_uT, sK_uN] at hd
  have ndc : d ≠ c := fun z => by rw [if_pos z] at hd; cases hd
  rw [if_neg ndc] at hd
  have ndb : d ≠ b := fun z => by rw [if_pos z] at hd; cases hd
  rw [if_neg ndb, if_neg ndb] at hd
  have nda : d ≠ a := fun z => by rw [if_pos z] at hd; cases hd
  rw [if_neg nda, if_neg nda] at hd
  have ndq : d ≠ q := fun z => by rw [if_pos z] at hd; cases hd
  rw [if_neg ndq] at hd
  refine ⟨by rw [sK_uN, if_pos rfl], by rw [sI_uN, if_pos rfl], by decide, ?_⟩
  refine ⟨by simp [sK_uT, sK_uN, sK_uR, ndc.symm], fun s e0 => ?_⟩
  subst e0
  intro e he s e0
  subst e0
  simp only [sK_uR, sK_uT, sK_uN] at he
  have ned : e ≠ d := fun z => by rw [if_pos z] at he; cases he
  rw [if_neg ned, if_neg ned] at he
  have nec : e ≠ c := fun z => by rw [if_pos z] at he; cases he
  rw [if_neg nec] at he
  have neb : e ≠ b := fun z => by rw [if_pos z] at he; cases he
  rw [if_neg neb, if_neg neb] at he
  have nea : e ≠ a := fun z => by rw [if_pos z] at he; cases he
  rw [if_neg nea, if_neg nea] at he
  have neq : e ≠ q := fun z => by rw [if_pos z] at he; cases he
  rw [if_neg neq] at he
  unfold wX6_init
  refine ⟨by simp [sK_uT, sK_uN, sK_uR, ndc.symm, nec.symm], fun s e0 => ?_⟩
  subst e0
  refine ⟨by simp [sK_uT, sK_uN, sK_uR, nec.symm, ndc.symm, ncq.symm, nbq.symm, naq.symm, neq.symm, ndq.symm], fun s e0 => ?_⟩
  subst e0
  refine ⟨by simp [sK_uT, sK_uN, sK_uR, nec.symm, ndc.symm, ncq.symm, nbq.symm, naq.symm, neq.symm, ndq.symm], fun s e0 => ?_⟩
  subst e0
  refine ⟨by simp [sK_uT, sK_uN, sK_uR, sK_uI, nec.symm, ndc.symm, ncq.symm, nbq.symm, naq.symm, neq.symm, ndq.symm], fun s e0 => ?_⟩
  subst e0
  have z : ∀ {y : Nat}, sK σ y = 0 → ¬ oTag (sK σ y) := fun h z => z h
  refine hp _ a b c d e ⟨?_, ⟨hq, ka, hb, hc, hd, he⟩, ?_, ⟨nba.symm, nda.symm, ndb.symm⟩, ?_, ?_, ?_, ?_, ?_, ?_⟩
  · exact (((((((((((((((AG.rfl'.uN (z hq)).uN (z ka)).uT (z ka)).uR (z hq)).uN (z hb)).uT (z hb)).uR (z hq)).uN (z hc)).uN (z hd)).uT (z hd)).uR (z hc)).uN (z he)).uR (z hc)).uR (z hq)).uI (z hq)).uI (z hq)
  · simp [sK_uT, sK_uN, sK_uR, sK_uI, nec.symm, ndc.symm, ncq.symm, nbq.symm, naq.symm, neq.symm, ndq.symm, nba, nba.symm, nca, nca.symm, ncb, ncb.symm, nda, nda.symm, ndb, ndb.symm, nea.symm, neb.symm, ned.symm]
  · simp [sI_uT, sI_uN, sI_uR, sI_uI, sR_uT, sR_uN, sR_uR, sR_uI, nec.symm, ndc.symm, ncq, ncq.symm, nbq.symm, naq.symm, neq.symm, ndq.symm, nba, nba.symm, nca, nca.symm, ncb, ncb.symm, nda, nda.symm, ndb, ndb.symm, nea.symm, neb.symm, ned.symm]
  · simp [sL_uT, sL_uN, sL_uR, sL_uI, nec.symm, ndc.symm, ncq, ncq.symm, nbq.symm, naq.symm, neq.symm, ndq.symm, nba, nba.symm, nca, nca.symm, ncb, ncb.symm, nda, nda.symm, ndb, ndb.symm, nea.symm, neb.symm, ned.symm]
  · simp [sJ_uT, sJ_uN, sJ_uR, sJ_uI]
  · simp [TT, sJ_uT, sJ_uN, sJ_uR, sJ_uI]
  · simp [sI_uT, sI_uN, sI_uR, sI_uI]
  · simp [sI_uT, sI_uN, sI_uR, sI_uI]
/-- the counts with one bank more -/
def jG (G : GH) : GH := ((fun k => if k = 0 then G.1 0 + 1 else G.1 k), G.2)
def jS (t : Nat) : Bool := decide (4 ≤ t ∧ t ≤ 9)
def jN (q a b c d e : Nat) (t : Nat) : Nat := match t with
  | 4 => q
  | 5 => a
  | 6 => b
  | 7 => c
  | 8 => d
  | _ => e
def joV (nb : Nat) (r : Int32) (V : MV) : MV := mS (mA V 1451 nb r) 450 (nI (nb + 1))
theorem jS_cases {t : Nat} (h : jS t = true) : t = 4 ∨ t = 5 ∨ t = 6 ∨ t = 7 ∨ t = 8 ∨ t = 9 := by
  have := of_decide_eq_true h
  omega
set_option maxHeartbeats 1000000 in
set_option maxRecDepth 100000 in
theorem CI.join (C : CI L cx σ V G) (W : WF V G n) {q a b c d e : Nat} {r : Int32} (B : BN σ σ' (nI (G.1 0)) r q a b c d e) : CI (gL L G jS (jN q a b c d e)) cx (uL σ' (L 0 0) (sL σ' (L 0 0) ++ [q])) (joV (G.1 0) r V) (jG G) := by
  obtain ⟨g, ⟨z1, z2, z3, z4, z5, z6⟩, ⟨k1, k2, k3, k4, k5, k6⟩, ⟨n1, n2, n3⟩, ⟨f1, f2, f3, f4, f5, f6, f7⟩, ⟨l1, l2, l3⟩, j1, t1, i1, i2⟩ := B
  have hnt := W.1.2.2.2.2.2.2.2.1
  have C1 := C.ag g (fun t ht => Nat.ne_of_gt ht.1) hnt W.1.2.2.2.2.2.2.2.2.2.2.2.2.2.2.2.2.2
  have fr : ∀ t i, i < cnt G t → ∀ u, sK σ u = 0 → L t i ≠ u := fun t i hi u hu z => by
    have h1 := C.k.knd t i hi
    rw [z, hu] at h1
    have := (kd_c t i).1
    omega
  have no00 : ∀ t i, i < cnt G t → ¬ (t = 0 ∧ i = 0) → ¬ L t i = L 0 0 := fun t i hi h => C.k.ne hi (show 0 < cnt G 0 by show 0 < 7; omega) h
  have n00 : ∀ u, sK σ u = 0 → ¬ u = L 0 0 := fun u hu z => fr 0 0 (by show 0 < 7; omega) u hu z.symm
  have hgone := W.2.1.2.2 (G.1 0) (Nat.le_refl _)
  obtain ⟨a1, a2, a3, a4, a5, a6, a7, a8, a9, a10, a11, a12, a13, a14, a15, a16, a17⟩ := C1
  have eL : ∀ t, jS t = true → ∀ i, i = G.1 0 → cnt G t = G.1 0 → gL L G jS (jN q a b c d e) t i = jN q a b c d e t := fun t ht i hi hc => if_pos ⟨ht, by rw [hc]; exact hi⟩
  have oL : ∀ t i, i < cnt G t → gL L G jS (jN q a b c d e) t i = L t i := fun t i hi => gL_old jS _ hi
  have cs : ∀ i, i < (jG G).1 0 → i < G.1 0 ∨ i = G.1 0 := fun i hi => by
    have : i < G.1 0 + 1 := hi
    omega
  have e51 : ∀ i, i < G.1 0 → (joV (G.1 0) r V).2.1 1451 i = V.2.1 1451 i := fun i hi => by
    show (if 1451 = 1451 ∧ i = G.1 0 then r else V.2.1 1451 i) = _
    rw [if_neg (fun z => by omega)]
  refine ⟨cK.grow (σ := σ') a1 jS (jN q a b c d e) (jG G) (fun t ht => ?_) (fun t ht => ?_) (fun t ht t' i' hi' => ?_) (fun t ht => ?_) (fun t t' ht ht' he => ?_) (fun u _ => rfl), a2, ⟨?_, fun i hi => ?_⟩, fun i hi => ?_, ⟨?_, fun i hi => ?_⟩, a6, a7, a8, ⟨a9.1, fun f hf => ?_⟩, a10, a11, fun hs => ?_, fun r' hr' => ?_, a14, fun i hi => ?_, fun i hi => ?_, fun i hi => ?_⟩
  · rcases jS_cases ht with h | h | h | h | h | h <;> subst h <;> rfl
  · have := of_decide_eq_false ht
    match t, this with
    | 0, _ => rfl
    | 1, _ => rfl
    | 2, _ => rfl
    | 3, _ => rfl
    | 4, h => exact absurd ⟨by omega, by omega⟩ h
    | 5, h => exact absurd ⟨by omega, by omega⟩ h
    | 6, h => exact absurd ⟨by omega, by omega⟩ h
    | 7, h => exact absurd ⟨by omega, by omega⟩ h
    | 8, h => exact absurd ⟨by omega, by omega⟩ h
    | 9, h => exact absurd ⟨by omega, by omega⟩ h
    | 10, _ => rfl
    | 11, _ => rfl
    | 12, _ => rfl
    | _ + 13, _ => rfl
  · rcases jS_cases ht with h | h | h | h | h | h <;> subst h
    · exact fr t' i' hi' q z1
    · exact fr t' i' hi' a z2
    · exact fr t' i' hi' b z3
    · exact fr t' i' hi' c z4
    · exact fr t' i' hi' d z5
    · exact fr t' i' hi' e z6
  · rcases jS_cases ht with h | h | h | h | h | h <;> subst h
    · exact k1
    · exact k2
    · exact k3
    · exact k4
    · exact k5
    · exact k6
  · have key : ∀ u v : Nat, sK σ' u ≠ sK σ' v → u ≠ v := fun u v h z => h (by rw [z])
    rcases jS_cases ht with h | h | h | h | h | h <;> subst h <;> rcases jS_cases ht' with h' | h' | h' | h' | h' | h' <;> subst h' <;> first
      | rfl
      | (exfalso; revert he; show ¬ (_ = _); first | exact n1 | exact n1.symm | exact n2 | exact n2.symm | exact n3 | exact n3.symm | (refine key _ _ ?_; show sK σ' _ ≠ sK σ' _; simp only [jN, k1, k2, k3, k4, k5, k6]; decide))
  · show sL (uL σ' (L 0 0) (sL σ' (L 0 0) ++ [q])) (L 0 0) = (List.range (G.1 0 + 1)).map _
    rw [sL_uL, if_pos rfl, a3.1, List.range_succ, List.map_append, List.map_singleton, eL 4 rfl _ rfl rfl]
    congr 1
    exact List.map_congr_left (fun i hi => (oL 4 i (List.mem_range.mp hi)).symm)
  · rcases cs i hi with h | h
    · rw [oL 4 i h, oL 5 i h, oL 6 i h, oL 7 i h, oL 8 i h, oL 9 i h]
      have e2 : (joV (G.1 0) r V).2.1 1451 i = V.2.1 1451 i := by
        show (if 1451 = 1451 ∧ i = G.1 0 then r else V.2.1 1451 i) = _
        rw [if_neg (fun z => by omega)]
      rw [e2]
      exact a3.2 i h
    · subst h
      rw [eL 4 rfl _ rfl rfl, eL 5 rfl _ rfl rfl, eL 6 rfl _ rfl rfl, eL 7 rfl _ rfl rfl, eL 8 rfl _ rfl rfl, eL 9 rfl _ rfl rfl]
      have e2 : (joV (G.1 0) r V).2.1 1451 (G.1 0) = r := by
        show (if 1451 = 1451 ∧ G.1 0 = G.1 0 then r else V.2.1 1451 (G.1 0)) = _
        rw [if_pos ⟨rfl, rfl⟩]
      rw [e2]
      exact ⟨f1, f2, f3, f4, f5, f6, f7⟩
  · rcases cs i hi with h | h
    · rw [oL 4 i h]; exact a4 i h
    · subst h
      rw [eL 4 rfl _ rfl rfl]
      show sJ σ' 105 q 0 = V.2.2 1452 (G.1 0)
      rw [j1, hgone.1]
  · show sL (uL σ' (L 0 0) (sL σ' (L 0 0) ++ [q])) (L 0 1) = _
    rw [sL_uL, if_neg (no00 0 1 (by show 1 < 7; omega) (by omega))]
    exact a5.1
  · show sR σ' 50 (L 10 i) 0 = some (gL L G jS (jN q a b c d e) 4 (G.2.1 0 i)) ∧ sI σ' 51 (L 10 i) 0 = V.2.1 1456 i
    rw [oL 4 _ (W.2.2.1.1 i hi).2]
    exact a5.2 i hi
  · show sI σ' 1403 (L 0 3) f = (joV (G.1 0) r V).2.1 1451 (G.2.1 3 f) * 10000 + nI (G.2.1 4 f)
    rw [e51 _ (W.2.2.2.2.1 f hf).2.1]
    exact a9.2 f hf
  · obtain ⟨b1, b2, b3, b4, b5, b6, b7⟩ := a12 hs
    refine ⟨b1, b2, b3, b4, b5, fun k hk => ?_, b7⟩
    obtain ⟨d1, d2, d3, d4, d5⟩ := b6 k hk
    refine ⟨d1, d2, d3, ?_, d5⟩
    show sL (uL σ' (L 0 0) (sL σ' (L 0 0) ++ [q])) (L 2 k) = _
    have hk4 : k < 4 := by
      have h1 : k < G.1 3 := hk
      omega
    rw [sL_uL, if_neg (no00 2 k hk4 (by omega))]
    exact d4
  · show sI σ' 200 (L 11 r') 0 = V.2.1 1480 r' ∧ sI σ' 201 (L 11 r') 0 = (joV (G.1 0) r V).2.1 1451 (G.2.1 2 r') ∧ sI σ' 202 (L 11 r') 0 = V.2.1 1483 r' ∧ sI σ' 203 (L 11 r') 0 = V.2.1 1484 r' ∧ sI σ' 204 (L 11 r') 0 = V.2.1 1485 r' ∧ sI σ' 205 (L 11 r') 0 = V.2.1 1486 r' ∧ sR σ' 206 (L 11 r') 0 = some (gL L G jS (jN q a b c d e) 4 (G.2.1 1 r')) ∧ sR σ' 207 (L 11 r') 0 = some (gL L G jS (jN q a b c d e) 4 (G.2.1 2 r'))
    obtain ⟨w1, w2, w3, w4, w5⟩ := W.2.2.2.2.2.1.1 r' hr'
    rw [e51 _ w4, oL 4 _ w2, oL 4 _ w4]
    exact a13 r' hr'
  · rcases cs i hi with h | h
    · rw [oL 5 i h, oL 6 i h]
      rw [sL_uL, if_neg (no00 5 i h (by omega)), sL_uL, if_neg (no00 6 i h (by omega))]
      exact a15 i h
    · subst h
      rw [eL 5 rfl _ rfl rfl, eL 6 rfl _ rfl rfl]
      show sL (uL σ' (L 0 0) (sL σ' (L 0 0) ++ [q])) a = _ ∧ sL (uL σ' (L 0 0) (sL σ' (L 0 0) ++ [q])) b = _
      rw [sL_uL, if_neg (n00 a z2), sL_uL, if_neg (n00 b z3), l1, l2]
      constructor
      · symm
        rw [List.map_eq_nil_iff, List.filter_eq_nil_iff]
        intro r' hr' hc
        have h1 := of_decide_eq_true hc
        have hr2 : r' < G.1 6 := List.mem_range.mp hr'
        obtain ⟨w1, w2, w3, w4, w5⟩ := W.2.2.2.2.2.1.1 r' hr2
        have := h1.2
        have h3 : nI (G.2.1 2 r') = nI (G.1 0) := w3.symm.trans this
        have h5 := W.1.2.1
        rw [nI_eq (by omega) (by omega)] at h3
        omega
      · symm
        show (G.2.2 0 (G.1 0)).map _ = []
        rw [List.map_eq_nil_iff]
        cases hl : G.2.2 0 (G.1 0) with
        | nil => rfl
        | cons x l =>
          have hx := ((W.2.2.2.2.2.2.1 (G.1 0)).1 x).mp (by rw [hl]; exact List.mem_cons_self)
          obtain ⟨w1, w2, w3⟩ := W.2.2.2.2.2.1.1 x hx.1
          omega
  · rcases cs i hi with h | h
    · rw [oL 7 i h, oL 8 i h, oL 9 i h]
      rw [sL_uL, if_neg (no00 8 i h (by omega))]
      obtain ⟨o1, o2, o3⟩ := a16 i h
      refine ⟨o1, o2, ?_⟩
      have e5 : ∀ w, tot (outp (joV (G.1 0) r V) w) (G.2.2 1 i) = tot (outp V w) (G.2.2 1 i) := fun w => tot_congr (fun r' hr' => by
        have hr2 := (W.2.2.2.2.2.2.2 i).2.2.1 r' hr'
        obtain ⟨w1, w2, w3, w4, w5⟩ := W.2.2.2.2.2.1.1 r' hr2
        have h5 := W.1.2.1
        refine outp_congr (e51 _ ?_) rfl rfl rfl
        rw [w3, nI_clamp (by omega)]
        exact w4)
      obtain ⟨q0, q1, q2, q3⟩ := o3
      exact ⟨q0.trans (e5 0).symm, q1.trans (e5 1).symm, q2.trans (e5 2).symm, q3.trans (e5 3).symm⟩
    · subst h
      rw [eL 7 rfl _ rfl rfl, eL 8 rfl _ rfl rfl, eL 9 rfl _ rfl rfl]
      show sL (uL σ' (L 0 0) (sL σ' (L 0 0) ++ [q])) d = (G.2.2 1 (G.1 0)).map _ ∧ sI σ' 302 c 0 = nI (G.2.1 5 (G.1 0)) ∧ TT σ' e (fun w => tot (outp (joV (G.1 0) r V) w) (G.2.2 1 (G.1 0)))
      rw [sL_uL, if_neg (n00 d z5), l3, hgone.2.1, hgone.2.2.1, i1]
      exact ⟨rfl, nI_0.symm, t1⟩
  · rcases cs i hi with h | h
    · rw [oL 7 i h]; exact a17 i h
    · subst h
      rw [eL 7 rfl _ rfl rfl]
      show sI σ' 303 c 0 = nI (G.2.1 6 (G.1 0))
      rw [hgone.2.2.2, i2]
      exact nI_0.symm
theorem c_join (C : CI L cx σ V G) (W : WF V G n) {post : Int32 → St → Prop} (r : Int32) (hbad : ((∀ k, k < 10000 → r ≠ nI k) ∨ ¬ rgt r 4 ∨ bk V (G.1 0) r ≠ none) → post (-1) σ) (hfull : (∃ k, k < 10000 ∧ r = nI k) → rgt r 4 → bk V (G.1 0) r = none → G.1 0 = 5 → post (-3) σ) (hp : (∃ k, k < 10000 ∧ r = nI k) → rgt r 4 → bk V (G.1 0) r = none → G.1 0 < 5 → ∀ σ' L', CI L' cx σ' (joV (G.1 0) r V) (jG G) → AG mTag σ σ' → post (nI (G.1 0)) σ') : wX7_join cx r post σ := by
  have h5 := W.1.2.1
  unfold wX7_join
  rcases nI_lt_cases r 10000 (by decide) with ⟨kw, hkw, rfl⟩ | hr
  rotate_left
  · have hn := nI_no (by decide) hr
    rcases hr with h | ⟨h, h2⟩
    · exact br_t h (hbad (Or.inl hn))
    · refine br_f h (br_t ?_ (hbad (Or.inl hn)))
      rw [Int32.le_iff_toInt_le] at h2
      rw [Int32.lt_iff_toInt_lt]
      have e1 : (9999 : Int32).toInt = 9999 := by decide
      have e2 : (nI 10000).toInt = 10000 := by decide
      omega
  have hk2 : ∃ k', k' < 10000 ∧ nI kw = nI k' := ⟨kw, hkw, rfl⟩
  refine br_f (nI_pos (by omega)) (br_f (show ¬ nI 9999 < nI kw from nI_nlt (by omega) (by decide)) (c_right (n := 4) (by decide) (by decide) ⟨fun c => br_f (by decide) ⟨C.k.1, c_bankWithRouting C.k C.f C.b h5 ?_⟩, fun c => br_t rfl (hbad (Or.inr (Or.inl c)))⟩))
  cases hb : bk V (G.1 0) (nI kw) with
  | some b => exact br_f (by simp) (hbad (Or.inr (Or.inr (by rw [hb]; simp))))
  | none =>
    refine br_t rfl ⟨C.k.1, nm_R C.f.1 (q_size (k := G.1 0) C.k.bl (by rw [C.b.1]; simp) (pk_lt (G.1 0) 5 (fun hlt => ?_) (fun hlt => hfull hk2 c hb (by omega))))⟩
    refine ⟨C.k.1, nm_R C.f.1 (q_size (k := G.1 0) C.k.bl (by rw [C.b.1]; simp) ⟨C.k.1, fun r29 e29 q hq σ1 e1 => ?_⟩)⟩
    have e29 : r29 = some (L 0 0) := e29.trans C.f.1
    subst e29
    subst e1
    refine n_bank hq (fun σ' a b c' d e B => ⟨L 0 0, rfl, ?_⟩)
    have g := B.1
    have gm : AG mTag σ σ' := g.mono (fun t ht => by unfold oTag; unfold mTag at ht; omega)
    have k0 : sK σ' (L 0 0) = 20 := by
      have := (g (L 0 0) (by rw [C.k.fix 0 (by decide)]; exact Nat.ne_of_gt (kd_c 0 0).1)).1
      rw [this, C.k.fix 0 (by decide)]; rfl
    have l0 : sL σ' (L 0 0) = sL σ (L 0 0) := (g (L 0 0) (by rw [C.k.fix 0 (by decide)]; exact Nat.ne_of_gt (kd_c 0 0).1)).2.2.2.2
    refine ⟨by rw [k0]; decide, q, rfl, by rw [k0, B.2.2.1.1]; decide, by rw [l0, C.b.1]; simp; omega, ?_⟩
    exact hp hk2 c hb hlt _ _ (C.join W B) (gm.trans (AG.rfl'.uL (by rw [k0]; unfold mTag; decide)))
theorem h_join {x1 : Int32} (I : Inv cx mx n σ) : law_join cx mx (Inv cx mx (n + 1)) x1 σ := by
  obtain ⟨A, V, G, L, M, W, C⟩ := I
  have I' : Inv cx mx (n + 1) σ := ⟨A, V, G, L, M, W.le, C⟩
  have wn := W.1
  have h5 := wn.2.1
  unfold law_join
  refine c_join C W x1 (fun h => ⟨M.mx, m_join M wn.1 h5 x1 (fun _ => ⟨rfl, I'⟩) (fun ⟨k, hk, ek⟩ hr hb _ => ?_) (fun ⟨k, hk, ek⟩ hr hb _ => ?_)⟩) (fun ⟨k, hk, ek⟩ hr hb hf => ⟨M.mx, m_join M wn.1 h5 x1 (fun h => ?_) (fun _ _ _ _ => ⟨rfl, I'⟩) (fun _ _ _ hlt => by omega)⟩) (fun ⟨k, hk, ek⟩ hr hb hlt σ1 L' C1 g1 => ⟨(M.ag g1).mx, m_join (M.ag g1) wn.1 h5 x1 (fun h => ?_) (fun _ _ _ hf => by omega) (fun _ _ _ _ σ2 M2 g2 => ⟨rfl, A, _, _, L', M2, ?_, C1.ag g2 (fun t h => h) W.1.2.2.2.2.2.2.2.1 W.1.2.2.2.2.2.2.2.2.2.2.2.2.2.2.2.2.2⟩)⟩)
  · exfalso
    rcases h with h | h | h
    · exact h k hk ek
    · exact h hr
    · exact h hb
  · exfalso
    rcases h with h | h | h
    · exact h k hk ek
    · exact h hr
    · exact h hb
  · exfalso
    rcases h with h | h | h
    · exact h k hk ek
    · exact h hr
    · exact h hb
  · exfalso
    rcases h with h | h | h
    · exact h k hk ek
    · exact h hr
    · exact h hb
  · obtain ⟨b1, b2, b3, b4, b5, b6, b7, b8⟩ := W.le
    obtain ⟨w1, w2, w3⟩ := b1
    have hb' := fnd_none.mp hb
    have e51 : ∀ b, (joV (G.1 0) x1 V).2.1 1451 b = if b = G.1 0 then x1 else V.2.1 1451 b := fun b => by
      show (if 1451 = 1451 ∧ b = G.1 0 then x1 else V.2.1 1451 b) = _
      by_cases e : b = G.1 0
      · rw [if_pos ⟨rfl, e⟩, if_pos e]
      · rw [if_neg (fun z => e z.2), if_neg e]
    have cs : ∀ i, i < (jG G).1 0 → i < G.1 0 ∨ i = G.1 0 := fun i hi => by
      have : i < G.1 0 + 1 := hi
      omega
    refine ⟨⟨rfl, by show G.1 0 + 1 ≤ 5; omega, w3⟩, ⟨fun b hb2 => ?_, fun b b' hb2 hb3 e => ?_, fun b hb2 => ?_⟩, ⟨fun i hi => ?_, b3.2⟩, b4, fun f hf => ?_, ⟨fun r' hr' => ?_, b6.2⟩, b7, b8⟩
    · show ∃ x, x < 10000 ∧ (joV (G.1 0) x1 V).2.1 1451 b = nI x
      rw [e51]
      rcases cs b hb2 with h | h
      · rw [if_neg (by omega)]; exact b2.1 b h
      · rw [if_pos h]; exact ⟨k, hk, ek⟩
    · change (joV (G.1 0) x1 V).2.1 1451 b = (joV (G.1 0) x1 V).2.1 1451 b' at e
      rw [e51, e51] at e
      rcases cs b hb2 with h | h <;> rcases cs b' hb3 with h' | h'
      · rw [if_neg (by omega), if_neg (by omega)] at e
        exact b2.2.1 b b' h h' e
      · rw [if_neg (by omega), if_pos h'] at e
        exact absurd e (of_decide_eq_false (hb' b (Nat.zero_le _) (by omega)))
      · rw [if_pos h, if_neg (by omega)] at e
        exact absurd e.symm (of_decide_eq_false (hb' b' (Nat.zero_le _) (by omega)))
      · omega
    · have hb2 : G.1 0 + 1 ≤ b := hb2
      exact b2.2.2 b (by omega)
    · obtain ⟨c1, c2⟩ := b3.1 i hi
      exact ⟨c1, by show _ < G.1 0 + 1; have : G.2.1 0 i < G.1 0 := c2; exact Nat.lt_succ_of_lt this⟩
    · obtain ⟨c1, c2, c3⟩ := b5 f hf
      exact ⟨c1, Nat.lt_succ_of_lt c2, c3⟩
    · obtain ⟨c1, c2, c3, c4, c5⟩ := b6.1 r' hr'
      exact ⟨c1, Nat.lt_succ_of_lt c2, c3, Nat.lt_succ_of_lt c4, c5⟩
end GJN
