/-! WINDOW: what the model's folds make of the view -/
section WE
variable {V U U0 : MV} {G : GH} {n b m : Nat} {ret : Bool}
/-- what handing out the list l makes of the view U0, where m have gone out already -/
def TF (V : MV) (G : GH) (ret : Bool) (b m : Nat) (l : List Nat) (U0 U : MV) : Prop := U.1 = U0.1 ∧ (∀ t, t ≠ 1487 → (t < 1491 ∨ 1494 < t) → U.2.1 t = U0.2.1 t) ∧ U.2.1 1491 b = nI (m + l.length) ∧ (∀ b', b' ≠ b → U.2.1 1491 b' = U0.2.1 1491 b') ∧ (∀ j r, l[j]? = some r → U.2.1 1492 (512 * b + m + j) = nI r ∧ U.2.1 1493 (512 * b + m + j) = bI ret ∧ U.2.1 1494 (512 * b + m + j) = 0) ∧ (∀ p, (p < 512 * b + m ∨ 512 * b + m + l.length ≤ p) → U.2.1 1492 p = U0.2.1 1492 p ∧ U.2.1 1493 p = U0.2.1 1493 p ∧ U.2.1 1494 p = U0.2.1 1494 p) ∧ (∀ r, r ∈ l → U.2.1 1487 r = if ret = true then 3 else 1) ∧ (∀ r, r ∉ l → U.2.1 1487 r = U0.2.1 1487 r) ∧ (∀ t, t ≠ 1452 → U.2.2 t = U0.2.2 t) ∧ ∀ x, U.2.2 1452 x = U0.2.2 1452 x + tot (ct V G ret x) l
theorem mJ_at {t i x : Nat} {y : Int64} : (mJ V t i y).2.2 t x = if x = i then y else V.2.2 t x := by
  show (if t = t ∧ x = i then y else V.2.2 t x) = _
  by_cases c : x = i
  · rw [if_pos ⟨rfl, c⟩, if_pos c]
  · rw [if_neg (fun z => c z.2), if_neg c]
theorem gnV_c {r : Nat} (h0 : U.2.1 1480 r = V.2.1 1480 r) (h4 : U.2.1 1484 r = V.2.1 1484 r) : gnV U r ret = gnV V r ret := by
  unfold gnV
  rw [h0, h4]
theorem tk_one {r : Nat} (h91 : U.2.1 1491 b = nI m) (hm : m < 512) (h0 : U.2.1 1480 r = V.2.1 1480 r) (h4 : U.2.1 1484 r = V.2.1 1484 r) (h1 : U.2.1 1481 r = nI (G.2.1 1 r)) (h2 : U.2.1 1482 r = nI (G.2.1 2 r)) (hg : G.2.1 1 r < 2 ^ 31) (ht : G.2.1 2 r < 2 ^ 31) : TF V G ret b m [r] U (tkV b ret U r) := by
  unfold tkV
  rw [h91, nI_clamp (by omega), h1, h2, nI_clamp hg, nI_clamp ht, gnV_c (V := V) h0 h4, nI_1]
  refine ⟨rfl, fun t n1 n2 => ?_, ?_, fun b' hb' => ?_, fun j r' hj => ?_, fun p hp => ?_, fun r' hr' => ?_, fun r' hr' => ?_, fun t ht => ?_, fun x => ?_⟩
  · show (mA (mA (mA (mA (mA U 1492 (512 * b + m) (nI r)) 1493 (512 * b + m) (bI ret)) 1494 (512 * b + m) 0) 1491 b (nI (m + 1))) 1487 r (if ret = true then 3 else 1)).2.1 t = _
    rw [mA_o n1, mA_o (by omega), mA_o (by omega), mA_o (by omega), mA_o (by omega)]
  · show (mA (mA (mA (mA (mA U 1492 (512 * b + m) (nI r)) 1493 (512 * b + m) (bI ret)) 1494 (512 * b + m) 0) 1491 b (nI (m + 1))) 1487 r (if ret = true then 3 else 1)).2.1 1491 b = _
    rw [mA_o (by decide), mA_at]
    rfl
  · show (mA (mA (mA (mA (mA U 1492 (512 * b + m) (nI r)) 1493 (512 * b + m) (bI ret)) 1494 (512 * b + m) 0) 1491 b (nI (m + 1))) 1487 r (if ret = true then 3 else 1)).2.1 1491 b' = _
    rw [mA_o (by decide), mA_2, if_neg (fun z => hb' z.2), mA_o (by decide), mA_o (by decide), mA_o (by decide)]
  · have hj0 : j = 0 ∧ r' = r := by
      cases j with
      | zero => exact ⟨rfl, (Option.some.inj hj).symm⟩
      | succ j => cases hj
    obtain ⟨e1, e2⟩ := hj0
    subst e1
    subst e2
    refine ⟨?_, ?_, ?_⟩
    · show (mA (mA (mA (mA (mA U 1492 (512 * b + m) (nI r')) 1493 (512 * b + m) (bI ret)) 1494 (512 * b + m) 0) 1491 b (nI (m + 1))) 1487 r' (if ret = true then 3 else 1)).2.1 1492 (512 * b + m) = _
      rw [mA_o (by decide), mA_o (by decide), mA_o (by decide), mA_o (by decide), mA_at]
    · show (mA (mA (mA (mA (mA U 1492 (512 * b + m) (nI r')) 1493 (512 * b + m) (bI ret)) 1494 (512 * b + m) 0) 1491 b (nI (m + 1))) 1487 r' (if ret = true then 3 else 1)).2.1 1493 (512 * b + m) = _
      rw [mA_o (by decide), mA_o (by decide), mA_o (by decide), mA_at]
    · show (mA (mA (mA (mA (mA U 1492 (512 * b + m) (nI r')) 1493 (512 * b + m) (bI ret)) 1494 (512 * b + m) 0) 1491 b (nI (m + 1))) 1487 r' (if ret = true then 3 else 1)).2.1 1494 (512 * b + m) = _
      rw [mA_o (by decide), mA_o (by decide), mA_at]
  · have hne : p ≠ 512 * b + m := by
      have hp : p < 512 * b + m ∨ 512 * b + m + 1 ≤ p := hp
      omega
    refine ⟨?_, ?_, ?_⟩
    · show (mA (mA (mA (mA (mA U 1492 (512 * b + m) (nI r)) 1493 (512 * b + m) (bI ret)) 1494 (512 * b + m) 0) 1491 b (nI (m + 1))) 1487 r (if ret = true then 3 else 1)).2.1 1492 p = _
      rw [mA_o (by decide), mA_o (by decide), mA_o (by decide), mA_o (by decide), mA_2, if_neg (fun z => hne z.2)]
    · show (mA (mA (mA (mA (mA U 1492 (512 * b + m) (nI r)) 1493 (512 * b + m) (bI ret)) 1494 (512 * b + m) 0) 1491 b (nI (m + 1))) 1487 r (if ret = true then 3 else 1)).2.1 1493 p = _
      rw [mA_o (by decide), mA_o (by decide), mA_o (by decide), mA_2, if_neg (fun z => hne z.2), mA_o (by decide)]
    · show (mA (mA (mA (mA (mA U 1492 (512 * b + m) (nI r)) 1493 (512 * b + m) (bI ret)) 1494 (512 * b + m) 0) 1491 b (nI (m + 1))) 1487 r (if ret = true then 3 else 1)).2.1 1494 p = _
      rw [mA_o (by decide), mA_o (by decide), mA_2, if_neg (fun z => hne z.2), mA_o (by decide), mA_o (by decide)]
  · have : r' = r := List.mem_singleton.mp hr'
    subst this
    show (mA (mA (mA (mA (mA U 1492 (512 * b + m) (nI r')) 1493 (512 * b + m) (bI ret)) 1494 (512 * b + m) 0) 1491 b (nI (m + 1))) 1487 r' (if ret = true then 3 else 1)).2.1 1487 r' = _
    rw [mA_at]
  · have : r' ≠ r := fun z => hr' (by rw [z]; exact List.mem_singleton.mpr rfl)
    show (mA (mA (mA (mA (mA U 1492 (512 * b + m) (nI r)) 1493 (512 * b + m) (bI ret)) 1494 (512 * b + m) 0) 1491 b (nI (m + 1))) 1487 r (if ret = true then 3 else 1)).2.1 1487 r' = _
    rw [mA_2, if_neg (fun z => this z.2), mA_o (by decide), mA_o (by decide), mA_o (by decide), mA_o (by decide)]
  · funext x
    show (if t = 1452 ∧ x = _ then _ else if t = 1452 ∧ x = _ then _ else U.2.2 t x) = _
    rw [if_neg (fun z => ht z.1), if_neg (fun z => ht z.1)]
  · have e1 : ∀ (X : MV) (y g : Int64) (i k : Nat), (mJ (mJ X 1452 i (X.2.2 1452 i - g)) 1452 k ((mJ X 1452 i (X.2.2 1452 i - g)).2.2 1452 k + g)).2.2 1452 x = X.2.2 1452 x + ((if k = x then g else 0) - (if i = x then g else 0)) := fun X y g i k => by
      rw [mJ_at, mJ_at, mJ_at]
      grind
    refine (e1 _ 0 _ _ _).trans ?_
    rw [tot_cons]
    show U.2.2 1452 x + _ = U.2.2 1452 x + (_ + 0)
    rw [Int64.add_zero]
    rfl
theorem TF.nil (h91 : U.2.1 1491 b = nI m) : TF V G ret b m [] U U := ⟨rfl, fun _ _ _ => rfl, h91, fun _ _ => rfl, fun j r hj => (by cases hj), fun _ _ => ⟨rfl, rfl, rfl⟩, fun r hr => (by cases hr), fun _ _ => rfl, fun _ _ => rfl, fun x => by
  show _ = _ + 0
  rw [Int64.add_zero]⟩
theorem TF.cons {l : List Nat} {r : Nat} {U1 : MV} (h : TF V G ret b m [r] U0 U1) (h' : TF V G ret b (m + 1) l U1 U) : TF V G ret b m (r :: l) U0 U := by
  obtain ⟨a1, a2, a3, a4, a5, a6, a7, a8, a9, a10⟩ := h
  obtain ⟨b1, b2, b3, b4, b5, b6, b7, b8, b9, b10⟩ := h'
  refine ⟨b1.trans a1, fun t n1 n2 => (b2 t n1 n2).trans (a2 t n1 n2), ?_, fun b' hb' => (b4 b' hb').trans (a4 b' hb'), fun j r' hj => ?_, fun p hp => ?_, fun r' hr' => ?_, fun r' hr' => ?_, fun t ht => (b9 t ht).trans (a9 t ht), fun x => ?_⟩
  · rw [b3, List.length_cons, Nat.add_assoc, Nat.add_comm 1]
  · cases j with
    | zero =>
      cases hj
      obtain ⟨c1, c2, c3⟩ := b6 (512 * b + m + 0) (Or.inl (by omega))
      rw [c1, c2, c3]
      exact a5 0 r rfl
    | succ j =>
      have := b5 j r' hj
      rw [show 512 * b + (m + 1) + j = 512 * b + m + (j + 1) by omega] at this
      exact this
  · have hp : p < 512 * b + m ∨ 512 * b + m + (l.length + 1) ≤ p := hp
    obtain ⟨c1, c2, c3⟩ := b6 p (by omega)
    obtain ⟨d1, d2, d3⟩ := a6 p (by
      show p < 512 * b + m ∨ 512 * b + m + 1 ≤ p
      omega)
    exact ⟨c1.trans d1, c2.trans d2, c3.trans d3⟩
  · by_cases c : r' ∈ l
    · exact b7 r' c
    · rw [b8 r' c]
      refine a7 r' ?_
      rcases List.mem_cons.mp hr' with e | e
      · rw [e]; exact List.mem_singleton.mpr rfl
      · exact absurd e c
  · rw [b8 r' (fun z => hr' (List.mem_cons_of_mem _ z))]
    exact a8 r' (fun z => hr' (by rw [List.mem_singleton.mp z]; exact List.mem_cons_self))
  · rw [b10, a10, tot_cons, tot_cons]
    show U0.2.2 1452 x + (_ + 0) + _ = _
    grind
theorem tk_fold (wr : wR V G) (h5 : G.1 0 ≤ 5) : ∀ (l : List Nat) (m : Nat) (U : MV), (∀ r, r ∈ l → r < G.1 6) → m + l.length ≤ 512 → U.2.1 1491 b = nI m → (∀ t, t ≠ 1487 → (t < 1491 ∨ 1494 < t) → U.2.1 t = V.2.1 t) → TF V G ret b m l U (l.foldl (tkV b ret) U) := by
  intro l
  induction l with
  | nil => intro m U _ _ h91 _; exact TF.nil h91
  | cons r l ih =>
    intro m U hl hm h91 hU
    rw [List.length_cons] at hm
    obtain ⟨w1, w2, w3, w4, _⟩ := wr.1 r (hl r List.mem_cons_self)
    have T := tk_one (V := V) (G := G) (ret := ret) (b := b) (m := m) (r := r) (U := U) h91 (by omega) (by rw [hU 1480 (by decide) (by decide)]) (by rw [hU 1484 (by decide) (by decide)]) (by rw [hU 1481 (by decide) (by decide)]; exact w1) (by rw [hU 1482 (by decide) (by decide)]; exact w3) (by omega) (by omega)
    rw [List.foldl_cons]
    exact TF.cons T (ih (m + 1) _ (fun r' hr' => hl r' (List.mem_cons_of_mem _ hr')) (by omega) T.2.2.1 (fun t n1 n2 => (T.2.1 t n1 n2).trans (hU t n1 n2)))
end WE
