/-! WINDOW: the start, the returns -/
section WB
variable {L : LY} {cx mx : Nat} {A : Nat → Nat} {σ σ' σ'' : St} {V V' : MV} {G : GH} {n b : Nat} {outs outs' Q R : List Nat} {rts : Nat} {led : Nat → Int64}
/-- the list of what waits for bank b -/
def wQ (V : MV) (G : GH) (b : Nat) : List Nat := (List.range (G.1 6)).filter (wtB V b)
theorem wM.not (K : cK L cx σ G) (hb : b < G.1 0) {r : Nat} (hr : r < G.1 6) : ¬ wM L G b (L 11 r) := fun z => by
  rcases z with z | z | z | z | z | ⟨x, hx, z⟩
  · exact absurd (K.2.2 11 r 7 b hr hb z).1 (by decide)
  · exact absurd (K.2.2 11 r 8 b hr hb z).1 (by decide)
  · exact absurd (K.2.2 11 r 9 b hr hb z).1 (by decide)
  · exact absurd (K.2.2 11 r 5 b hr hb z).1 (by decide)
  · exact absurd (K.2.2 11 r 6 b hr hb z).1 (by decide)
  · exact absurd (K.2.2 11 r 4 x hr hx z).1 (by decide)
theorem x_outclear (C : CI L cx σ V G) (hb : b < G.1 0) {post : St → Prop} (hp : ∀ s, WI L V G b σ s [] 0 (fun x => V.2.2 1452 x) (wQ V G b) (G.2.2 0 b) → post s) : wX5_clear (L 7 b) post σ := by
  have k7 : sK σ (L 7 b) = 6 := C.k.knd 7 b hb
  have k9 : sK σ (L 9 b) = 7 := C.k.knd 9 b hb
  obtain ⟨b1, b2, b3, b4, b5, b6, b7⟩ := C.b.2 b hb
  have n85 : L 5 b ≠ L 8 b := C.k.ne (t := 5) (t' := 8) hb hb (fun z => absurd z.1 (by decide))
  have n86 : L 6 b ≠ L 8 b := C.k.ne (t := 6) (t' := 8) hb hb (fun z => absurd z.1 (by decide))
  have n94 : ∀ x, x < G.1 0 → L 4 x ≠ L 9 b := fun x hx => C.k.ne (t := 4) (t' := 9) hx hb (fun z => absurd z.1 (by decide))
  unfold wX5_clear
  refine ⟨k7, nm_R b6 ⟨C.k.ls 8 b (by omega) hb, k7, nm_R b7 ⟨k9, x_clear k9 (fun s1 j1 t1 => ?_)⟩⟩⟩
  have x1 : AX (wM L G b) σ s1 := (AX.rfl'.uL (Or.inr (Or.inl rfl))).trans (j1.ax (Or.inr (Or.inr (Or.inl rfl))))
  obtain ⟨ja, jb, jc, jd, je⟩ := j1
  have k71 : sK s1 (L 7 b) = 6 := by rw [ja]; exact k7
  refine ⟨k71, fun s2 e2 => ⟨by rw [e2]; exact k71, fun s3 e3 => hp s3 ?_⟩⟩
  refine ⟨?_, by rw [e3, e2]; show sK s1 = _; rw [ja]; rfl, by rw [e3, e2]; show sR s1 = _; rw [jc]; rfl, fun g a j n1 n2 => ?_, ?_, ?_, fun f a j n1 n2 => ?_, fun x hx => ?_, ?_, ?_, ?_, ?_, fun a m1 m2 m3 => ?_⟩
  · rw [e3, e2]; exact (x1.uI (Or.inl rfl)).uI (Or.inl rfl)
  · rw [e3, sI_ne n2, e2, sI_ne n1, jb]; rfl
  · rw [e3, sI_ne (by decide), e2, sI_uI, if_pos ⟨rfl, rfl, rfl⟩]; exact nI_0.symm
  · rw [e3, sI_uI, if_pos ⟨rfl, rfl, rfl⟩]
  · rw [e3, e2]; exact je f a j n2
  · rw [e3, e2]; exact (je 105 (L 4 x) 0 (n94 x hx)).trans (C.l x hx)
  · rw [e3, e2]; exact t1
  · rw [e3, e2]; show sL s1 _ = _; rw [jd, sL_uL, if_pos rfl]; rfl
  · rw [e3, e2]; show sL s1 _ = _; rw [jd, sL_uL, if_neg n85]; exact (C.w b hb).1
  · rw [e3, e2]; show sL s1 _ = _; rw [jd, sL_uL, if_neg n86]; exact (C.w b hb).2
  · rw [e3, e2]; show sL s1 _ = _; rw [jd, sL_uL, if_neg m1]
theorem x_put9 (C : CI L cx σ V G) (W : WF V G n) (hb : b < G.1 0) (h : WI L V G b σ σ' outs rts led Q R) {r : Nat} (hr : r < G.1 6) (ht : ∀ w, tot (outp V w) outs' = tot (outp V w) outs + outp V w r) {post : St → Prop} (hp : ∀ s, WI L V G b σ s outs' rts led Q R → post s) : wX6_add (L 9 b) (some (L 11 r)) post (uL σ' (L 8 b) (outs'.map (L 11))) := by
  obtain ⟨a1, a2, a3, a4, a5, a6, a7, a8, a9, a10, a11, a12, a13⟩ := h
  have n85 : L 5 b ≠ L 8 b := C.k.ne (t := 5) (t' := 8) hb hb (fun z => absurd z.1 (by decide))
  have n86 : L 6 b ≠ L 8 b := C.k.ne (t := 6) (t' := 8) hb hb (fun z => absurd z.1 (by decide))
  have n94 : ∀ x, x < G.1 0 → L 4 x ≠ L 9 b := fun x hx => C.k.ne (t := 4) (t' := 9) hx hb (fun z => absurd z.1 (by decide))
  refine x_add (show sK σ' (L 9 b) = 7 by rw [a2]; exact C.k.knd 9 b hb) (show sK σ' (L 11 r) = 4 by rw [a2]; exact C.k.knd 11 r hr) (s := fun w => tot (outp V w) outs) a9 (fun s1 j1 t1 => hp s1 ?_)
  have x1 : AX (wM L G b) σ s1 := (a1.uL (Or.inr (Or.inl rfl))).trans (j1.ax (Or.inr (Or.inr (Or.inl rfl))))
  obtain ⟨ja, jb, jc, jd, je⟩ := j1
  have ptq : ∀ w, pt (uL σ' (L 8 b) (outs'.map (L 11))) (L 11 r) w = outp V w r := pt_outp C W hr (fun g n1 n2 => a4 g _ _ n1 n2)
  refine ⟨x1, by rw [ja]; exact a2, by rw [jc]; exact a3, fun g a j n1 n2 => by rw [jb]; exact a4 g a j n1 n2, by rw [jb]; exact a5, by rw [jb]; exact a6, fun f a j n1 n2 => (je f a j n2).trans (a7 f a j n1 n2), fun x hx => (je 105 (L 4 x) 0 (n94 x hx)).trans (a8 x hx), ?_, ?_, ?_, ?_, fun a m1 m2 m3 => ?_⟩
  · unfold TT at t1 ⊢
    dsimp only at t1 ⊢
    rw [ptq, ptq, ptq, ptq] at t1
    rw [ht, ht, ht, ht]
    exact t1
  · rw [jd, sL_uL, if_pos rfl]
  · rw [jd, sL_uL, if_neg n85]; exact a11
  · rw [jd, sL_uL, if_neg n86]; exact a12
  · rw [jd, sL_uL, if_neg m1]; exact a13 a m1 m2 m3
theorem x_addReturn (C : CI L cx σ V G) (W : WF V G n) (hb : b < G.1 0) (h : WI L V G b σ σ' outs rts led Q R) (h65 : outs.length < 65) {r : Nat} (hr : r < G.1 6) {post : St → Prop} (hp : ∀ s, WI L V G b σ s (outs ++ [r]) (rts + 1) led Q R → post s) : wX5_addReturn (L 7 b) (some (L 11 r)) post σ' := by
  have h' := h
  obtain ⟨a1, a2, a3, a4, a5, a6, a7, a8, a9, a10, a11, a12, a13⟩ := h'
  have k7 : sK σ' (L 7 b) = 6 := by rw [a2]; exact C.k.knd 7 b hb
  have k9 : sK σ' (L 9 b) = 7 := by rw [a2]; exact C.k.knd 9 b hb
  obtain ⟨b1, b2, b3, b4, b5, b6, b7⟩ := C.b.2 b hb
  unfold wX5_addReturn
  refine ⟨k7, nm_R (by rw [a3]; exact b6) ⟨by rw [a2]; exact C.k.ls 8 b (by omega) hb, L 11 r, rfl, by rw [a2, C.k.knd 11 r hr, C.k.knd 8 b hb]; rfl, by rw [a10, List.length_map]; exact h65, k7, nm_R (show sR σ' 301 (L 7 b) 0 = some (L 9 b) by rw [a3]; exact b7) ⟨k9, ?_⟩⟩⟩
  rw [a10, show outs.map (L 11) ++ [L 11 r] = (outs ++ [r]).map (L 11) by rw [List.map_append]; rfl]
  refine x_put9 C W hb h hr (fun w => tot_app _ _ _) (fun s hs => ?_)
  obtain ⟨c1, c2, c3, c4, c5, c6, c7, c8, c9, c10, c11, c12, c13⟩ := hs
  have k7s : sK s (L 7 b) = 6 := by rw [c2]; exact C.k.knd 7 b hb
  refine ⟨k7s, k7s, fun s2 e2 => hp s2 ?_⟩
  rw [c5, nI_1] at e2
  refine ⟨?_, by rw [e2]; exact c2, by rw [e2]; exact c3, fun g a j n1 n2 => ?_, ?_, ?_, by rw [e2]; exact c7, by rw [e2]; exact c8, by rw [e2]; exact c9, by rw [e2]; exact c10, by rw [e2]; exact c11, by rw [e2]; exact c12, by rw [e2]; exact c13⟩
  · rw [e2]; exact c1.uI (Or.inl rfl)
  · rw [e2, sI_ne n1]; exact c4 g a j n1 n2
  · rw [e2, sI_uI, if_pos ⟨rfl, rfl, rfl⟩]
  · rw [e2, sI_ne (by decide)]; exact c6
theorem x_handOutReturns (C : CI L cx σ V G) (W : WF V G n) (hb : b < G.1 0) (h : WI L V G b σ σ' [] 0 (fun x => V.2.2 1452 x) Q R) (hR : ∀ r, r ∈ R → r < G.1 6) (h64 : R.length < 65) {post : St → Prop} (hp : ∀ s, WI L V G b σ s R R.length (fun x => V.2.2 1452 x + tot (ct V G true x) R) Q [] → post s) : wX7_handOutReturns (some (L 4 b)) post σ' := by
  obtain ⟨b1, b2, b3, b4, b5, b6, b7⟩ := C.b.2 b hb
  have loop : ∀ d i s, i + d = R.length → WI L V G b σ s (R.take i) i (fun x => V.2.2 1452 x + tot (ct V G true x) (R.take i)) Q R → wX7_handOutReturns_2 post (d + 1) (some (L 4 b)) (nI i) s := by
    intro d
    induction d with
    | zero =>
      intro i s hi h
      have h' := h
      obtain ⟨a1, a2, a3, a4, a5, a6, a7, a8, a9, a10, a11, a12, a13⟩ := h'
      have k4 : sK s (L 4 b) = 2 := by rw [a2]; exact C.k.knd 4 b hb
      have kl : 20 ≤ sK s (L 6 b) ∧ sK s (L 6 b) < 23 := by rw [a2]; exact C.k.ls 6 b (by omega) hb
      unfold wX7_handOutReturns_2
      refine ⟨L 4 b, rfl, k4, nm_R (by rw [a3]; exact b4) (q_size (k := R.length) kl (by rw [a12]; simp) (pk_le R.length i (fun _ => ⟨k4, nm_R (by rw [a3]; exact b4) ⟨kl, hp _ ?_⟩⟩) (fun h => absurd h (by omega))))⟩
      have hi2 : i = R.length := by omega
      subst hi2
      rw [List.take_length] at h a10 a9 a8
      have n68 : L 8 b ≠ L 6 b := C.k.ne (t := 8) (t' := 6) hb hb (fun z => absurd z.1 (by decide))
      have n65 : L 5 b ≠ L 6 b := C.k.ne (t := 5) (t' := 6) hb hb (fun z => absurd z.1 (by decide))
      refine ⟨a1.uL (Or.inr (Or.inr (Or.inr (Or.inr (Or.inl rfl))))), a2, a3, a4, a5, a6, a7, a8, a9, ?_, ?_, ?_, fun a m1 m2 m3 => ?_⟩
      · rw [sL_uL, if_neg n68]; exact a10
      · rw [sL_uL, if_neg n65]; exact a11
      · rw [sL_uL, if_pos rfl]; rfl
      · rw [sL_uL, if_neg m3]; exact a13 a m1 m2 m3
    | succ d ih =>
      intro i s hi h
      have h' := h
      obtain ⟨a1, a2, a3, a4, a5, a6, a7, a8, a9, a10, a11, a12, a13⟩ := h'
      have k4 : sK s (L 4 b) = 2 := by rw [a2]; exact C.k.knd 4 b hb
      have k7 : sK s (L 7 b) = 6 := by rw [a2]; exact C.k.knd 7 b hb
      have kl : 20 ≤ sK s (L 6 b) ∧ sK s (L 6 b) < 23 := by rw [a2]; exact C.k.ls 6 b (by omega) hb
      have hil : i < R.length := by omega
      obtain ⟨r, hri⟩ : ∃ r, R[i]? = some r := ⟨R[i], List.getElem?_eq_getElem hil⟩
      have hr : r < G.1 6 := hR r (List.mem_of_getElem? hri)
      have kr : sK s (L 11 r) = 4 := by rw [a2]; exact C.k.knd 11 r hr
      have nx := ih (i + 1)
      have et : R.take (i + 1) = R.take i ++ [r] := by rw [List.take_add_one, hri]; rfl
      rw [et] at nx
      unfold wX7_handOutReturns_2
      refine ⟨L 4 b, rfl, k4, nm_R (by rw [a3]; exact b4) (q_size (k := R.length) kl (by rw [a12]; simp) (pk_le R.length i (fun h => absurd h (by omega)) (fun _ => ⟨k4, nm_R (by rw [a3]; exact b4) (q_get kl (by omega) (x := L 11 r) (by rw [a12, List.getElem?_map, hri]; rfl) ⟨L 11 r, rfl, kr, k4, nm_R (by rw [a3]; exact b5) ⟨k7, ?_⟩⟩)⟩)))⟩
      refine x_addReturn C W hb h (by rw [List.length_take]; omega) hr (fun s2 h2 => ?_)
      refine x_settle (ret := true) C W hb h2 hr (fun s3 h3 => nm_r (nI_1 i) (nx s3 (by omega) ?_))
      have e : (fun x => V.2.2 1452 x + tot (ct V G true x) (R.take i) + ct V G true x r) = fun x => V.2.2 1452 x + tot (ct V G true x) (R.take i ++ [r]) := by
        funext x
        rw [tot_app, Int64.add_assoc]
      rw [← e]
      exact h3
  have e0 : (fun x => V.2.2 1452 x + tot (ct V G true x) (R.take 0)) = fun x => V.2.2 1452 x := by
    funext x
    show V.2.2 1452 x + 0 = _
    rw [Int64.add_zero]
  have := loop R.length 0 σ' (by omega) (by rw [e0]; exact h)
  exact ⟨R.length + 1, by omega, this⟩
/-- a list put together -/
theorem tot_cons (f : Nat → Int64) (x : Nat) (l : List Nat) : tot f (x :: l) = f x + tot f l := by
  have g : ∀ (l : List Nat) (s : Int64), l.foldl (fun s e => s + f e) s = s + tot f l := by
    intro l
    induction l with
    | nil => intro s; show s = s + 0; rw [Int64.add_zero]
    | cons y l ih =>
      intro s
      unfold tot
      rw [List.foldl_cons, List.foldl_cons, ih, ih, Int64.zero_add, Int64.add_assoc]
  show List.foldl _ _ (x :: l) = _
  rw [List.foldl_cons, g, Int64.zero_add]
theorem tot_app2 (f : Nat → Int64) (l l' : List Nat) : tot f (l ++ l') = tot f l + tot f l' := by
  induction l with
  | nil => rw [List.nil_append]; show _ = 0 + _; rw [Int64.zero_add]
  | cons x l ih => rw [List.cons_append, tot_cons, tot_cons, ih, Int64.add_assoc]
theorem tot_perm (f : Nat → Int64) {l l' : List Nat} (h : l.Perm l') : tot f l = tot f l' := by
  induction h with
  | nil => rfl
  | cons x _ ih => rw [tot_cons, tot_cons, ih]
  | swap x y l =>
    rw [tot_cons, tot_cons, tot_cons, tot_cons]
    grind
  | trans _ _ ih1 ih2 => exact ih1.trans ih2
end WB
