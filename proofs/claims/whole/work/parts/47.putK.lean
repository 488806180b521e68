/-! PUT: what the model's file end makes of the view -/
section PK
variable {V V' W : MV} {nb nt ne nf nr : Nat}
/-- a row made of an entry -/
def RF (V U : MV) (nb e r : Nat) : Prop := U.2.1 1480 r = V.2.1 1472 e ∧ U.2.1 1481 r = oI (bk V nb (V.2.1 1464 (ibn V e))) ∧ U.2.1 1482 r = oI (bk V nb (V.2.1 1473 e)) ∧ U.2.1 1483 r = V.2.1 1474 e ∧ U.2.1 1484 r = V.2.1 1475 e ∧ U.2.1 1485 r = V.2.1 1476 e ∧ U.2.1 1486 r = V.2.1 1466 (ibn V e) ∧ U.2.1 1487 r = 0
theorem mA_at {t i : Nat} {x : Int32} : (mA V t i x).2.1 t i = x := by rw [mA_2, if_pos ⟨rfl, rfl⟩]
theorem acc_o {e r : Nat} (hr : V.1 479 = nI r) (h31 : r < 2 ^ 31) {t x : Nat} (h : (t < 1480 ∨ 1487 < t) ∨ x ≠ r) : (accV nb V e).2.1 t x = V.2.1 t x := by
  unfold accV
  rw [hr, nI_clamp h31]
  show (mA (mA (mA (mA (mA (mA (mA (mA V 1480 r _) 1481 r _) 1482 r _) 1483 r _) 1484 r _) 1485 r _) 1486 r _) 1487 r _).2.1 t x = _
  rw [mA_2, if_neg (fun z => by omega), mA_2, if_neg (fun z => by omega), mA_2, if_neg (fun z => by omega), mA_2, if_neg (fun z => by omega), mA_2, if_neg (fun z => by omega), mA_2, if_neg (fun z => by omega), mA_2, if_neg (fun z => by omega), mA_2, if_neg (fun z => by omega)]
theorem acc_r {e r : Nat} (hF : FV V V') (hr : V'.1 479 = nI r) (h31 : r < 2 ^ 31) : RF V (accV nb V' e) nb e r := by
  unfold RF accV
  rw [hr, nI_clamp h31, hF.ibn', hF.bk', hF.bk', hF.1 1464 (by decide), hF.1 1472 (by decide), hF.1 1473 (by decide), hF.1 1474 (by decide), hF.1 1475 (by decide), hF.1 1476 (by decide), hF.1 1466 (by decide)]
  refine ⟨?_, ?_, ?_, ?_, ?_, ?_, ?_, ?_⟩
  · show (mA (mA (mA (mA (mA (mA (mA (mA V' 1480 r _) 1481 r _) 1482 r _) 1483 r _) 1484 r _) 1485 r _) 1486 r _) 1487 r _).2.1 1480 r = _
    rw [mA_o (by decide), mA_o (by decide), mA_o (by decide), mA_o (by decide), mA_o (by decide), mA_o (by decide), mA_o (by decide), mA_at]
  · show (mA (mA (mA (mA (mA (mA (mA (mA V' 1480 r _) 1481 r _) 1482 r _) 1483 r _) 1484 r _) 1485 r _) 1486 r _) 1487 r _).2.1 1481 r = _
    rw [mA_o (by decide), mA_o (by decide), mA_o (by decide), mA_o (by decide), mA_o (by decide), mA_o (by decide), mA_at]
  · show (mA (mA (mA (mA (mA (mA (mA (mA V' 1480 r _) 1481 r _) 1482 r _) 1483 r _) 1484 r _) 1485 r _) 1486 r _) 1487 r _).2.1 1482 r = _
    rw [mA_o (by decide), mA_o (by decide), mA_o (by decide), mA_o (by decide), mA_o (by decide), mA_at]
  · show (mA (mA (mA (mA (mA (mA (mA (mA V' 1480 r _) 1481 r _) 1482 r _) 1483 r _) 1484 r _) 1485 r _) 1486 r _) 1487 r _).2.1 1483 r = _
    rw [mA_o (by decide), mA_o (by decide), mA_o (by decide), mA_o (by decide), mA_at]
  · show (mA (mA (mA (mA (mA (mA (mA (mA V' 1480 r _) 1481 r _) 1482 r _) 1483 r _) 1484 r _) 1485 r _) 1486 r _) 1487 r _).2.1 1484 r = _
    rw [mA_o (by decide), mA_o (by decide), mA_o (by decide), mA_at]
  · show (mA (mA (mA (mA (mA (mA (mA (mA V' 1480 r _) 1481 r _) 1482 r _) 1483 r _) 1484 r _) 1485 r _) 1486 r _) 1487 r _).2.1 1485 r = _
    rw [mA_o (by decide), mA_o (by decide), mA_at]
  · show (mA (mA (mA (mA (mA (mA (mA (mA V' 1480 r _) 1481 r _) 1482 r _) 1483 r _) 1484 r _) 1485 r _) 1486 r _) 1487 r _).2.1 1486 r = _
    rw [mA_o (by decide), mA_at]
  · show (mA (mA (mA (mA (mA (mA (mA (mA V' 1480 r _) 1481 r _) 1482 r _) 1483 r _) 1484 r _) 1485 r _) 1486 r _) 1487 r _).2.1 1487 r = _
    rw [mA_at]
/-- what the entries below i have made of the view W -/
def FA (V W U : MV) (nb ne nr i : Nat) : Prop := FV V U ∧ U.1 479 = nI (nr + cntL (good V nb ne) i) ∧ (∀ f, f ≠ 479 → U.1 f = W.1 f) ∧ U.2.2 = W.2.2 ∧ (∀ t, (t < 1480 ∨ 1487 < t) → t ≠ 1495 → U.2.1 t = W.2.1 t) ∧ (∀ t r, (r < nr ∨ nr + cntL (good V nb ne) i ≤ r) → t ≠ 1495 → U.2.1 t r = W.2.1 t r) ∧ (∀ e, e < i → good V nb ne e = true → RF V U nb e (nr + cntL (good V nb ne) e)) ∧ ∀ k, U.2.1 1495 k = W.2.1 1495 k + nI (cntL (fun e => decide (bf V nb ne (ibn V e) = 0 ∧ ef V nb e = k)) i)
theorem RF.of {U U' : MV} {e r : Nat} (h : RF V U nb e r) (hh : ∀ t, 1480 ≤ t → t ≤ 1487 → U'.2.1 t r = U.2.1 t r) : RF V U' nb e r := by
  unfold RF at h ⊢
  rw [hh 1480 (by decide) (by decide), hh 1481 (by decide) (by decide), hh 1482 (by decide) (by decide), hh 1483 (by decide) (by decide), hh 1484 (by decide) (by decide), hh 1485 (by decide) (by decide), hh 1486 (by decide) (by decide), hh 1487 (by decide) (by decide)]
  exact h
theorem tl_at {U : MV} {k k' : Nat} : (tlV U k).2.1 1495 k' = U.2.1 1495 k' + nI (if k' = k then 1 else 0) := by
  unfold tlV
  rw [mA_2]
  by_cases c : k' = k
  · rw [if_pos ⟨rfl, c⟩, if_pos c, c]; rfl
  · rw [if_neg (fun z => c z.2), if_neg c, nI_0, Int32.add_zero]
theorem tl_o {U : MV} {k t : Nat} (h : t ≠ 1495) : (tlV U k).2.1 t = U.2.1 t := mA_o h
theorem st_fold (hF : FV V W) (hr : W.1 479 = nI nr) (h31 : nr + ne < 2 ^ 31) : ∀ i, i ≤ ne → FA V W ((List.range i).foldl (stE V nb ne) W) nb ne nr i := by
  intro i
  induction i with
  | zero =>
    intro _
    refine ⟨hF, hr, fun _ _ => rfl, rfl, fun _ _ _ => rfl, fun _ _ _ _ => rfl, fun e he => absurd he (Nat.not_lt_zero e), fun k => ?_⟩
    show _ = _ + nI 0
    rw [nI_0, Int32.add_zero]
    rfl
  | succ i ih =>
    intro hi
    have A := ih (by omega)
    rw [List.range_succ, List.foldl_append]
    generalize (List.range i).foldl (stE V nb ne) W = U at A
    obtain ⟨a0, a1, a2, a3, a4, a5, a6, a7⟩ := A
    have hc := cntL_le (good V nb ne) i
    have hF' : FV V (stE V nb ne U i) := a0.stE' nb ne i
    show FA V W (stE V nb ne U i) nb ne nr (i + 1)
    revert hF'
    unfold stE FA
    intro hF'
    rw [cntL_succ]
    refine ⟨hF', ?_⟩
    clear hF'
    by_cases c1 : bf V nb ne (ibn V i) = 0
    rotate_left
    · have hg : good V nb ne i = false := decide_eq_false (fun z => c1 z.1)
      rw [if_neg c1, if_neg (by rw [hg]; simp), Nat.add_zero]
      refine ⟨a1, a2, a3, a4, a5, fun e he hge => ?_, fun k => ?_⟩
      · by_cases c : e = i
        · subst c; rw [hg] at hge; cases hge
        · exact a6 e (by omega) hge
      · rw [cntL_succ, if_neg (by rw [decide_eq_true_eq]; exact fun z => c1 z.1), Nat.add_zero]
        exact a7 k
    rw [if_pos c1]
    by_cases c2 : ef V nb i = 0
    rotate_left
    · have hg : good V nb ne i = false := decide_eq_false (fun z => c2 z.2)
      rw [if_neg c2, if_neg (by rw [hg]; simp), Nat.add_zero]
      refine ⟨a1, a2, a3, fun t ht hn => (tl_o hn).trans (a4 t ht hn), fun t r hr hn => ?_, fun e he hge => ?_, fun k => ?_⟩
      · rw [tl_o hn]; exact a5 t r hr hn
      · by_cases c : e = i
        · subst c; rw [hg] at hge; cases hge
        · exact (a6 e (by omega) hge).of (fun t h1 h2 => by rw [tl_o (by omega)])
      · rw [tl_at, a7, cntL_succ, ← nI_addA]
        congr 2
        by_cases c : k = ef V nb i
        · rw [if_pos c, if_pos (by rw [decide_eq_true_eq]; exact ⟨c1, c.symm⟩)]
        · rw [if_neg c, if_neg (by rw [decide_eq_true_eq]; exact fun z => c z.2.symm)]
    have hg : good V nb ne i = true := decide_eq_true ⟨c1, c2⟩
    rw [if_pos c2, if_pos hg]
    have hr1 : (tlV U (ef V nb i)).1 479 = nI (nr + cntL (good V nb ne) i) := a1
    have h31' : nr + cntL (good V nb ne) i < 2 ^ 31 := by omega
    refine ⟨?_, fun f hf => ?_, a3, fun t ht hn => ?_, fun t r hr hn => ?_, fun e he hge => ?_, fun k => ?_⟩
    · show (mS (mA (mA (mA (mA (mA (mA (mA (mA (tlV U (ef V nb i)) 1480 _ _) 1481 _ _) 1482 _ _) 1483 _ _) 1484 _ _) 1485 _ _) 1486 _ _) 1487 _ _) 479 _).1 479 = _
      rw [mS_1, if_pos rfl, hr1, nI_1]
      rfl
    · show (mS (mA (mA (mA (mA (mA (mA (mA (mA (tlV U (ef V nb i)) 1480 _ _) 1481 _ _) 1482 _ _) 1483 _ _) 1484 _ _) 1485 _ _) 1486 _ _) 1487 _ _) 479 _).1 f = _
      rw [mS_1, if_neg hf]
      exact a2 f hf
    · funext x
      rw [acc_o hr1 h31' (Or.inl ht), tl_o hn, a4 t ht hn]
    · rw [acc_o hr1 h31' (Or.inr (by omega)), tl_o hn]
      exact a5 t r (by omega) hn
    · by_cases c : e = i
      · subst c
        exact acc_r (a0.tl _) hr1 h31'
      · have hlt : cntL (good V nb ne) e < cntL (good V nb ne) i := cntL_lt (by omega) hge
        exact (a6 e (by omega) hge).of (fun t h1 h2 => by rw [acc_o hr1 h31' (Or.inr (by omega)), tl_o (by omega)])
    · rw [acc_o hr1 h31' (Or.inl (by decide)), tl_at, a7, cntL_succ, ← nI_addA]
      congr 2
      by_cases c : k = ef V nb i
      · rw [if_pos c, if_pos (by rw [decide_eq_true_eq]; exact ⟨c1, c.symm⟩)]
      · rw [if_neg c, if_neg (by rw [decide_eq_true_eq]; exact fun z => c z.2.symm)]
/-- the batches counted -/
theorem tb_fold (W : MV) : ∀ i, ((List.range i).foldl (tlB V nb ne) W).1 = W.1 ∧ ((List.range i).foldl (tlB V nb ne) W).2.2 = W.2.2 ∧ (∀ t, t ≠ 1495 → ((List.range i).foldl (tlB V nb ne) W).2.1 t = W.2.1 t) ∧ ∀ k, ((List.range i).foldl (tlB V nb ne) W).2.1 1495 k = W.2.1 1495 k + nI (cntL (fun b => decide (bf V nb ne b = k)) i) := by
  intro i
  induction i with
  | zero => exact ⟨rfl, rfl, fun _ _ => rfl, fun k => by
      show _ = _ + nI 0
      rw [nI_0, Int32.add_zero]
      rfl⟩
  | succ i ih =>
    rw [List.range_succ, List.foldl_append]
    generalize (List.range i).foldl (tlB V nb ne) W = U at ih
    obtain ⟨a1, a2, a3, a4⟩ := ih
    refine ⟨a1, a2, fun t ht => (tl_o ht).trans (a3 t ht), fun k => ?_⟩
    show (tlV U (bf V nb ne i)).2.1 1495 k = _
    rw [tl_at, a4, cntL_succ, ← nI_addA]
    congr 2
    by_cases c : k = bf V nb ne i
    · rw [if_pos c, if_pos (by rw [decide_eq_true_eq]; exact c.symm)]
    · rw [if_neg c, if_neg (by rw [decide_eq_true_eq]; exact fun z => c z.symm)]
/-- what a file's end has made of the view -/
def FE (V U : MV) (nb nt ne nf nr : Nat) : Prop := U.1 479 = nI (nr + cntL (good V nb ne) ne) ∧ U.1 478 = nI (nf + 1) ∧ (∀ f, f ≠ 479 → f ≠ 478 → U.1 f = V.1 f) ∧ U.2.2 = V.2.2 ∧ (∀ t, (t < 1480 ∨ 1487 < t) → t ≠ 1495 → t ≠ 1477 → U.2.1 t = V.2.1 t) ∧ (∀ f, U.2.1 1477 f = if f = nf then 10000 * oI (bk V nb (V.1 460)) + V.1 461 else V.2.1 1477 f) ∧ (∀ t r, r < nr → t ≠ 1495 → t ≠ 1477 → U.2.1 t r = V.2.1 t r) ∧ (∀ e, e < ne → good V nb ne e = true → RF V U nb e (nr + cntL (good V nb ne) e)) ∧ ∀ k, U.2.1 1495 k = V.2.1 1495 k + nI (tal V nb ne (List.range nt) (List.range ne) k)
theorem en_fold (hr : V.1 479 = nI nr) (h31 : nr + ne < 2 ^ 31) : FE V (enV V nb nt ne nf) nb nt ne nf nr := by
  obtain ⟨b1, b2, b3, b4⟩ := tb_fold (V := V) (nb := nb) (ne := ne) (fiV V nb nf) nt
  have hFW : FV V ((List.range nt).foldl (tlB V nb ne) (fiV V nb nf)) := FV.fold (fun V' e h => h.tlB' nb ne e) _ _ (FV.fi V nb nf)
  have A := st_fold (V := V) (W := (List.range nt).foldl (tlB V nb ne) (fiV V nb nf)) (nb := nb) (nr := nr) hFW (by rw [b1]; exact hr) h31 ne (Nat.le_refl _)
  unfold enV
  generalize (List.range nt).foldl (tlB V nb ne) (fiV V nb nf) = W at *
  generalize (List.range ne).foldl (stE V nb ne) W = U at *
  obtain ⟨a0, a1, a2, a3, a4, a5, a6, a7⟩ := A
  have f77 : ∀ t, t ≠ 1477 → (fiV V nb nf).2.1 t = V.2.1 t := fun t ht => mA_o ht
  refine ⟨a1, ?_, fun f h1 h2 => ?_, a3.trans b2, fun t h1 h2 h3 => ?_, fun f => ?_, fun t r h1 h2 h3 => ?_, a6, fun k => ?_⟩
  · rw [a2 478 (by decide), b1]
    show (mS (mA V 1477 nf _) 478 _).1 478 = _
    rw [mS_1, if_pos rfl]
  · rw [a2 f h1, b1]
    show (mS (mA V 1477 nf _) 478 _).1 f = _
    rw [mS_1, if_neg h2]
    rfl
  · rw [a4 t h1 h2, b3 t h2, f77 t h3]
  · rw [a4 1477 (by decide) (by decide), b3 1477 (by decide)]
    show (mA V 1477 nf _).2.1 1477 f = _
    rw [mA_2]
    by_cases c : f = nf
    · rw [if_pos ⟨rfl, c⟩, if_pos c]
    · rw [if_neg (fun z => c z.2), if_neg c]
  · rw [a5 t r (Or.inl h1) h2, b3 t h2, f77 t h3]
  · rw [a7, b4, f77 1495 (by decide), nI_addA]
    rfl
/-- without the stage -/
theorem FE.v {U : MV} (h : FE (mS V 459 0) U nb nt ne nf nr) : U.1 479 = nI (nr + cntL (good V nb ne) ne) ∧ U.1 478 = nI (nf + 1) ∧ (∀ f, f ≠ 479 → f ≠ 478 → f ≠ 459 → U.1 f = V.1 f) ∧ U.2.2 = V.2.2 ∧ (∀ t, (t < 1480 ∨ 1487 < t) → t ≠ 1495 → t ≠ 1477 → U.2.1 t = V.2.1 t) ∧ (∀ f, U.2.1 1477 f = if f = nf then 10000 * oI (bk V nb (V.1 460)) + V.1 461 else V.2.1 1477 f) ∧ (∀ t r, r < nr → t ≠ 1495 → t ≠ 1477 → U.2.1 t r = V.2.1 t r) ∧ (∀ e, e < ne → good V nb ne e = true → RF V U nb e (nr + cntL (good V nb ne) e)) ∧ (∀ k, U.2.1 1495 k = V.2.1 1495 k + nI (tal V nb ne (List.range nt) (List.range ne) k)) ∧ U.1 459 = 0 := by
  obtain ⟨a1, a2, a3, a4, a5, a6, a7, a8, a9⟩ := h
  have eg : good (mS V 459 0) nb ne = good V nb ne := rfl
  refine ⟨a1, a2, fun f h1 h2 h3 => ?_, a4, a5, a6, a7, a8, a9, ?_⟩
  · rw [a3 f h1 h2, mS_1, if_neg h3]
  · rw [a3 459 (by decide) (by decide), mS_1, if_pos rfl]
end PK
