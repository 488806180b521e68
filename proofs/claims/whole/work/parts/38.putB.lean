/-! PUT: a batch's header, a batch's control -/
/-- two views that differ in the file under way alone -/
def XV (V V' : MV) : Prop := (∀ t, t < 1464 ∨ 1476 < t → V'.2.1 t = V.2.1 t) ∧ V'.2.2 = V.2.2 ∧ ∀ f, f < 459 ∨ 463 < f → V'.1 f = V.1 f
theorem XV.rfl' {V : MV} : XV V V := ⟨fun _ _ => rfl, rfl, fun _ _ => rfl⟩
theorem XV.mA' {V V' : MV} (h : XV V V') {t i : Nat} {x : Int32} (ht : 1464 ≤ t ∧ t ≤ 1476) : XV V (mA V' t i x) := ⟨fun u hu => by
  funext j
  rw [mA_2, if_neg (fun z => by omega), h.1 u hu], h.2.1, h.2.2⟩
theorem XV.mS' {V V' : MV} (h : XV V V') {f : Nat} {x : Int32} (hf : 459 ≤ f ∧ f ≤ 463) : XV V (mS V' f x) := ⟨h.1, h.2.1, fun g hg => by
  rw [mS_1, if_neg (fun z => by omega), h.2.2 g hg]⟩
section PB
variable {L : LY} {cx mx : Nat} {σ σ' : St} {V V' : MV} {G : GH} {n : Nat}
theorem OC.v (o : OC L cx σ V G) (x : XV V V') : OC L cx σ V' G := by
  obtain ⟨a1, a2, a3, a4, a5, a6, a7, a8, a9, a10, a11, a12, a13⟩ := o
  obtain ⟨h1, h2, h3⟩ := x
  have e51 := h1 1451 (by decide)
  have e82 := h1 1482 (by decide)
  have e80 := h1 1480 (by decide)
  have e84 := h1 1484 (by decide)
  refine ⟨?_, ?_, ?_, ?_, ?_, ?_, ?_, ?_, ?_, ?_, fun b hb => ?_, fun b hb => ?_, a13⟩
  · unfold cB; rw [e51]; exact a1
  · unfold cL; rw [h2]; exact a2
  · unfold cA; rw [h1 1456 (by decide)]; exact a3
  · unfold cAb; rw [h2]; exact a4
  · unfold cAs; rw [h1 1458 (by decide)]; exact a5
  · unfold cS; rw [h3 453 (by decide)]; exact a6
  · unfold cN; rw [e51]; exact a7
  · unfold cT; rw [h1 1495 (by decide)]; exact a8
  · unfold cR; rw [e80, e51, h1 1483 (by decide), e84, h1 1485 (by decide), h1 1486 (by decide)]; exact a9
  · unfold cRr; rw [h1 1488 (by decide)]; exact a10
  · have e : wtB V' b = wtB V b := by
      funext r
      unfold wtB
      rw [h1 1487 (by decide), e82]
    rw [e]
    exact a11 b hb
  · have e : ∀ w, outp V' w = outp V w := fun w => by
      funext r
      exact outp_congr (by rw [e51]) (by rw [e82]) (by rw [e80]) (by rw [e84])
    obtain ⟨o1, o2, o3⟩ := a12 b hb
    refine ⟨o1, o2, ?_⟩
    unfold TT at o3 ⊢
    dsimp only at o3 ⊢
    rw [e, e, e, e]
    exact o3
theorem WF.f (W : WF V G n) (x : XV V V') {st nt ne : Nat} (hst : V'.1 459 = nI st) (h2 : st ≤ 2) (hnt : V'.1 462 = nI nt) (h4 : nt ≤ 4) (hne : V'.1 463 = nI ne) (h20 : ne ≤ 20) (hr : st ≠ 0 → G.1 6 + ne ≤ n + 1) (h0 : st = 2 → 0 < nt) (he : wE V' (fG G st nt ne)) : WF V' (fG G st nt ne) (n + 1) := by
  obtain ⟨⟨a1, a2, a3, a4, a5, a6, a7, a8, a9, a10, a11, a12, a13, a14, a15, a16, a17, a18⟩, b2, b3, b4, b5, b6, b7, b8⟩ := W.le
  obtain ⟨h1, hj, h3⟩ := x
  refine ⟨⟨?_, a2, ?_, a4, hst, h2, hnt, h4, hne, h20, ?_, a12, ?_, a14, ?_, a16, hr, h0⟩, ?_, ?_, he, ?_, ?_, ?_, ?_⟩
  · rw [h3 450 (by decide)]; exact a1
  · rw [h3 454 (by decide)]; exact a3
  · rw [h3 478 (by decide)]; exact a11
  · rw [h3 479 (by decide)]; exact a13
  · rw [h3 490 (by decide)]; exact a15
  · unfold wB at b2 ⊢; rw [h1 1451 (by decide), hj]; exact b2
  · unfold wA at b3 ⊢; rw [h1 1455 (by decide), h1 1458 (by decide)]; exact b3
  · unfold wF at b5 ⊢; rw [h1 1477 (by decide)]; exact b5
  · unfold wR at b6 ⊢; rw [h1 1480 (by decide), h1 1481 (by decide), h1 1482 (by decide), h1 1484 (by decide), h1 1487 (by decide), h1 1488 (by decide)]; exact b6
  · unfold wT at b7 ⊢; rw [h1 1487 (by decide), h1 1489 (by decide)]; exact b7
  · unfold wO at b8 ⊢; rw [h1 1487 (by decide), h1 1488 (by decide), h1 1491 (by decide), h1 1492 (by decide), h1 1493 (by decide), h1 1494 (by decide)]; exact b8
theorem mA_o {t i u : Nat} {x : Int32} (h : u ≠ t) : (mA V t i x).2.1 u = V.2.1 u := by
  funext j
  rw [mA_2, if_neg (fun z => h z.1)]
theorem ep_c (h72 : V'.2.1 1472 = V.2.1 1472) (h73 : V'.2.1 1473 = V.2.1 1473) (h75 : V'.2.1 1475 = V.2.1 1475) (w : Nat) : ep V' w = ep V w := by
  funext e
  unfold ep
  rw [h72, h73, h75]
theorem inB_c (h71 : V'.2.1 1471 = V.2.1 1471) (b : Int32) (ne : Nat) : inB V' b ne = inB V b ne := by
  unfold inB
  rw [h71]
theorem gw_c (h71 : V'.2.1 1471 = V.2.1 1471) (h76 : V'.2.1 1476 = V.2.1 1476) (b : Int32) (ne : Nat) : gw V' b ne = gw V b ne := by
  unfold gw viol
  rw [h71, h76]
/-- no entry of a batch to come -/
theorem inB_new {k ne : Nat} (hk : k < 2 ^ 31) (h : ∀ e, e < ne → ∃ j, j < k ∧ V.2.1 1471 e = nI j) : inB V (nI k) ne = [] := by
  unfold inB
  rw [List.filter_eq_nil_iff]
  intro e he hc
  obtain ⟨j, hj, ej⟩ := h e (List.mem_range.mp he)
  rcases of_decide_eq_true hc with z | z
  · exact nI_pos hk z
  · rw [ej, nI_eq (by omega) hk] at z
    omega
theorem gw_new {k ne : Nat} (hk : k < 2 ^ 31) (h : ∀ e, e < ne → ∃ j, j < k ∧ V.2.1 1471 e = nI j) : gw V (nI k) ne = true := by
  unfold gw
  rw [List.all_eq_true]
  intro e he
  obtain ⟨j, hj, ej⟩ := h e (List.mem_range.mp he)
  unfold viol
  simp only [Bool.not_eq_true', decide_eq_false_iff_not]
  intro z
  have := z.2.1
  rw [ej, nI_eq (by omega) hk] at this
  omega
theorem x_begin (C : CI L cx σ V G) (W : WF V G n) (hst : G.1 2 = 1) (hnt : G.1 3 < 4) {h : Nat} {post : St → Prop} (hp : ∀ σ', CI L cx σ' (batV (G.1 3) h (mS V 459 0)) (fG G 2 (G.1 3 + 1) (G.1 4)) → AG mTag σ σ' → post σ') : wX2_begin (L 1 (G.1 3)) (nI (dg h 1 4)) (nI (dg h 5 4)) (nI (dg h 9 4)) (fun σ31 => sK σ31 cx = 8 ∧ (∀ r34 : Option Nat, r34 = sR σ31 402 cx 0 → (∃ a35 : Nat, r34 = some a35 ∧ (sK σ31 a35 = 5 ∧ (sK σ31 a35 = 5 ∧ (∀ σ38 : St, σ38 = uI σ31 253 a35 0 ((sI σ31 253 a35 0) + (1 : Int32)) → (sK σ38 cx = 8 ∧ (∀ r40 : Option Nat, r40 = sR σ38 402 cx 0 → (∃ a41 : Nat, r40 = some a41 ∧ (sK σ38 a41 = 5 ∧ (∀ σ43 : St, σ43 = uR σ38 252 a41 0 (some (L 1 (G.1 3))) → (sK σ43 cx = 8 ∧ (∀ r45 : Option Nat, r45 = sR σ43 402 cx 0 → (∃ a46 : Nat, r45 = some a46 ∧ (sK σ43 a46 = 5 ∧ (∀ σ48 : St, σ48 = uI σ43 257 a46 0 (1 : Int32) → (post σ48))))))))))))))))) σ := by
  have hne0 : G.1 2 ≠ 0 := by omega
  have D := C.e hne0
  have F := C.f
  have hK := C.k
  have c2 : 2 < cnt G 0 := by show 2 < 7; omega
  have c6 : 6 < cnt G 0 := by show 6 < 7; omega
  have c5 : 5 < cnt G 0 := by show 5 < 7; omega
  have kb : sK σ (L 1 (G.1 3)) = 3 := hK.knd 1 _ hnt
  have kc : sK σ (L 2 (G.1 3)) = 22 := hK.knd 2 _ hnt
  have kd' : sK σ (L 3 (G.1 3)) = 7 := hK.knd 3 _ hnt
  have kf : sK σ (L 0 2) = 5 := hK.fix 2 (by decide)
  have nfb : L 0 2 ≠ L 1 (G.1 3) := hK.ne c2 hnt (fun z => absurd z.1 (by decide))
  have nfc : L 0 2 ≠ L 2 (G.1 3) := hK.ne c2 hnt (fun z => absurd z.1 (by decide))
  have nbd : L 1 (G.1 3) ≠ L 3 (G.1 3) := hK.ne (t := 1) (t' := 3) hnt hnt (fun z => absurd z.1 (by decide))
  obtain ⟨f1, f2, f3, f4, f5, f6, f7, f8⟩ := F
  have r150 := (f8 _ hnt).2.1
  have r151 := (f8 _ hnt).2.2
  have wE := W.2.2.2.1 hne0
  have D1 : sI σ 253 (L 0 2) 0 = nI (G.1 3) := D.1
  generalize hb : L 1 (G.1 3) = b at *
  generalize hc : L 2 (G.1 3) = c at *
  generalize hd : L 3 (G.1 3) = d at *
  generalize hf : L 0 2 = f at *
  unfold wX2_begin
  refine ⟨kb, fun s e => ?_⟩
  subst e
  refine ⟨kb, fun s e => ?_⟩
  subst e
  refine ⟨kb, fun s e => ?_⟩
  subst e
  refine ⟨kb, nm_R r150 ⟨show 20 ≤ sK σ c ∧ sK σ c < 23 by rw [kc]; decide, ?_⟩⟩
  refine ⟨kb, nm_R r151 ⟨kd', x_clear kd' (fun s1 j1 t1 => ?_)⟩⟩
  have x1 : AX (fun a => a = f ∨ a = b ∨ a = c ∨ a = d) σ s1 := ((((AX.rfl'.uI (Or.inr (Or.inl rfl))).uI (Or.inr (Or.inl rfl))).uI (Or.inr (Or.inl rfl))).uL (Or.inr (Or.inr (Or.inl rfl)))).trans (j1.ax (Or.inr (Or.inr (Or.inr rfl))))
  obtain ⟨j1a, j1b, j1c, j1d, j1e⟩ := j1
  have kb1 : sK s1 b = 3 := by rw [j1a]; exact kb
  have kf1 : sK s1 f = 5 := by rw [j1a]; exact kf
  have kx1 : sK s1 cx = 8 := by rw [j1a]; exact hK.1
  have rx1 : sR s1 402 cx 0 = some f := by rw [j1c]; exact f3
  refine ⟨kb1, fun s e => ?_⟩
  subst e
  refine ⟨kb1, fun s e => ?_⟩
  subst e
  refine ⟨kx1, nm_R rx1 ⟨kf1, kf1, fun s e => ?_⟩⟩
  subst e
  refine ⟨kx1, nm_R rx1 ⟨kf1, fun s e => ?_⟩⟩
  subst e
  refine ⟨kx1, nm_R (by rw [sR_uR, if_neg (fun z => absurd z.1 (by decide))]; exact rx1) ⟨kf1, fun s e => ?_⟩⟩
  have x2 : AX (fun a => a = f ∨ a = b ∨ a = c ∨ a = d) σ s := by
    rw [e]
    exact ((((x1.uI (Or.inr (Or.inl rfl))).uI (Or.inr (Or.inl rfl))).uI (Or.inl rfl)).uR (Or.inl rfl)).uI (Or.inl rfl)
  have oth : ∀ t i, i < cnt G t → ¬ (t = 0 ∧ i = 2) → ¬ ((t = 1 ∨ t = 2 ∨ t = 3) ∧ i = G.1 3) → ¬ (L t i = f ∨ L t i = b ∨ L t i = c ∨ L t i = d) := fun t i hi n1 n2 z => by
    rcases z with z | z | z | z
    · rw [← hf] at z; exact n1 (hK.2.2 t i 0 2 hi c2 z)
    · rw [← hb] at z; have := hK.2.2 t i 1 (G.1 3) hi hnt z; omega
    · rw [← hc] at z; have := hK.2.2 t i 2 (G.1 3) hi hnt z; omega
    · rw [← hd] at z; have := hK.2.2 t i 3 (G.1 3) hi hnt z; omega
  have m2 : ∀ a, (a = f ∨ a = b ∨ a = c ∨ a = d) → fM L a := fun a z => by
    rcases z with z | z | z | z
    · exact ⟨0, 2, Or.inl ⟨rfl, Or.inl rfl⟩, z.trans hf.symm⟩
    · exact ⟨1, G.1 3, Or.inr ⟨by omega, hnt⟩, z.trans hb.symm⟩
    · exact ⟨2, G.1 3, Or.inr ⟨by omega, hnt⟩, z.trans hc.symm⟩
    · exact ⟨3, G.1 3, Or.inr ⟨by omega, hnt⟩, z.trans hd.symm⟩
  have xV : XV V (batV (G.1 3) h (mS V 459 0)) := (((((XV.rfl'.mS' (by decide)).mA' (by decide)).mA' (by decide)).mA' (by decide)).mS' (by decide)).mS' (by decide)
  have vI : ∀ g a j, ¬ (a = b ∧ j = 0) → ¬ (a = f ∧ j = 0) → sI s g a j = sI σ g a j := fun g a j n1 n2 => by
    subst e
    simp only [sI_uI, sI_uR, sI_uL, j1b]
    repeat rw [if_neg (by rintro ⟨_, h2, h3⟩; first | exact n1 ⟨h2, h3⟩ | exact n2 ⟨h2, h3⟩)]
  have q152 : sI s 152 b 0 = nI (dg h 1 4) := by subst e; simp [sI_uI, sI_uR, sI_uL, j1b]
  have q153 : sI s 153 b 0 = nI (dg h 5 4) := by subst e; simp [sI_uI, sI_uR, sI_uL, j1b]
  have q154 : sI s 154 b 0 = nI (dg h 9 4) := by subst e; simp [sI_uI, sI_uR, sI_uL, j1b]
  have q155 : sI s 155 b 0 = -1 := by subst e; simp [sI_uI, sI_uR, sI_uL, j1b]
  have q156 : sI s 156 b 0 = 1 := by subst e; simp [sI_uI, sI_uR, sI_uL, j1b]
  have q253 : sI s 253 f 0 = nI (G.1 3 + 1) := by
    subst e
    rw [← nI_1, ← D1]
    simp [sI_uI, sI_uR, sI_uL, j1b, nfb]
  have q254 : sI s 254 f 0 = sI σ 254 f 0 := by subst e; simp [sI_uI, sI_uR, sI_uL, j1b, nfb]
  have q255 : sI s 255 f 0 = sI σ 255 f 0 := by subst e; simp [sI_uI, sI_uR, sI_uL, j1b, nfb]
  have q256 : sI s 256 f 0 = sI σ 256 f 0 := by subst e; simp [sI_uI, sI_uR, sI_uL, j1b, nfb]
  have q257 : sI s 257 f 0 = 1 := by subst e; simp [sI_uI]
  have q252 : sR s 252 f 0 = some b := by subst e; simp [sR_uI, sR_uR]
  have qR : ∀ g a j, g ≠ 252 → sR s g a j = sR σ g a j := fun g a j hg => by
    subst e
    rw [sR_uI, sR_uR, if_neg (fun z => hg z.1), sR_uI, sR_uI, sR_uI, j1c]
    rfl
  have qL : sL s c = [] := by
    subst e
    rw [sL_uI, sL_uR, sL_uI, sL_uI, sL_uI, j1d, sL_uL, if_pos rfl]
  have qT : TT s d (fun _ => 0) := by
    subst e
    exact t1
  have qK : sK s = sK σ := by
    subst e
    show sK s1 = _
    rw [j1a]
    rfl
  clear e j1a j1b j1c j1d j1e t1 x1
  subst hb hc hd hf
  have e71 : (batV (G.1 3) h (mS V 459 0)).2.1 1471 = V.2.1 1471 := (mA_o (by decide)).trans ((mA_o (by decide)).trans (mA_o (by decide)))
  have e72 : (batV (G.1 3) h (mS V 459 0)).2.1 1472 = V.2.1 1472 := (mA_o (by decide)).trans ((mA_o (by decide)).trans (mA_o (by decide)))
  have e73 : (batV (G.1 3) h (mS V 459 0)).2.1 1473 = V.2.1 1473 := (mA_o (by decide)).trans ((mA_o (by decide)).trans (mA_o (by decide)))
  have e74 : (batV (G.1 3) h (mS V 459 0)).2.1 1474 = V.2.1 1474 := (mA_o (by decide)).trans ((mA_o (by decide)).trans (mA_o (by decide)))
  have e75 : (batV (G.1 3) h (mS V 459 0)).2.1 1475 = V.2.1 1475 := (mA_o (by decide)).trans ((mA_o (by decide)).trans (mA_o (by decide)))
  have e76 : (batV (G.1 3) h (mS V 459 0)).2.1 1476 = V.2.1 1476 := (mA_o (by decide)).trans ((mA_o (by decide)).trans (mA_o (by decide)))
  have e67 : (batV (G.1 3) h (mS V 459 0)).2.1 1467 = V.2.1 1467 := (mA_o (by decide)).trans ((mA_o (by decide)).trans (mA_o (by decide)))
  have e68 : (batV (G.1 3) h (mS V 459 0)).2.1 1468 = V.2.1 1468 := (mA_o (by decide)).trans ((mA_o (by decide)).trans (mA_o (by decide)))
  have e69 : (batV (G.1 3) h (mS V 459 0)).2.1 1469 = V.2.1 1469 := (mA_o (by decide)).trans ((mA_o (by decide)).trans (mA_o (by decide)))
  have e70 : (batV (G.1 3) h (mS V 459 0)).2.1 1470 = V.2.1 1470 := (mA_o (by decide)).trans ((mA_o (by decide)).trans (mA_o (by decide)))
  have e64 : ∀ k, (batV (G.1 3) h (mS V 459 0)).2.1 1464 k = if k = G.1 3 then nI (dg h 1 4) else V.2.1 1464 k := fun k => by
    show (mA (mA (mA (mS V 459 0) 1464 _ _) 1465 _ _) 1466 _ _).2.1 1464 k = _
    rw [mA_o (by decide), mA_o (by decide), mA_2]
    by_cases c : k = G.1 3
    · rw [if_pos ⟨rfl, c⟩, if_pos c]
    · rw [if_neg (fun z => c z.2), if_neg c]; rfl
  have e65 : ∀ k, (batV (G.1 3) h (mS V 459 0)).2.1 1465 k = if k = G.1 3 then nI (dg h 5 4) else V.2.1 1465 k := fun k => by
    show (mA (mA (mA (mS V 459 0) 1464 _ _) 1465 _ _) 1466 _ _).2.1 1465 k = _
    rw [mA_o (by decide), mA_2]
    by_cases c : k = G.1 3
    · rw [if_pos ⟨rfl, c⟩, if_pos c]
    · rw [if_neg (fun z => c z.2), if_neg c, mA_o (by decide)]; rfl
  have e66 : ∀ k, (batV (G.1 3) h (mS V 459 0)).2.1 1466 k = if k = G.1 3 then nI (dg h 9 4) else V.2.1 1466 k := fun k => by
    show (mA (mA (mA (mS V 459 0) 1464 _ _) 1465 _ _) 1466 _ _).2.1 1466 k = _
    rw [mA_2]
    by_cases c : k = G.1 3
    · rw [if_pos ⟨rfl, c⟩, if_pos c]
    · rw [if_neg (fun z => c z.2), if_neg c, mA_o (by decide), mA_o (by decide)]; rfl
  have eep := ep_c e72 e73 e75
  have einB := inB_c e71
  have egw := gw_c e71 e76
  have o1 := OC.v (OC.ax C.k C.oc (x2.mono m2)) xV
  have v0 : (batV (G.1 3) h (mS V 459 0)).1 460 = V.1 460 := rfl
  have v1 : (batV (G.1 3) h (mS V 459 0)).1 461 = V.1 461 := rfl
  generalize batV (G.1 3) h (mS V 459 0) = V' at *
  have hnew : ∀ e, e < G.1 4 → ∃ j, j < G.1 3 ∧ V.2.1 1471 e = nI j := fun e he => (wE.2.2.1 e he).1
  refine hp s (CI.mk' (cK.kk (C.k.fG' 2 _ _ ?_) qK) ?_ (show OC L cx s V' G from o1) ⟨fun z => ?_, fun _ => ⟨?_, fun _ => q257, fun z => absurd rfl z⟩⟩ (fun _ => ?_)) ((x2.mono m2).toAG (fun a ha => fM.notM C.k ha))
  · show (if 2 = 0 then 0 else G.1 4) ≤ (if G.1 2 = 0 then 0 else G.1 4)
    rw [if_neg (by decide), if_neg hne0]
    exact Nat.le_refl _
  · unfold cF
    rw [qR _ _ _ (by decide), qR _ _ _ (by decide), qR _ _ _ (by decide), qR _ _ _ (by decide), qR _ _ _ (by decide), qR _ _ _ (by decide), qR _ _ _ (by decide)]
    refine ⟨f1, f2, f3, f4, f5, f6, f7, fun k hk => ?_⟩
    rw [qR _ _ _ (by decide), qR _ _ _ (by decide), qR _ _ _ (by decide)]
    exact f8 k hk
  · exact absurd z (by show ¬ 2 = 0; decide)
  · rw [q256]
    exact (C.g.2 hne0).1
  · show FD L s V' 2 (G.1 3 + 1) (G.1 4)
    obtain ⟨d1, d2, d3, d4, d5, d6, d7, d8⟩ := D
    refine ⟨q253, ?_, ?_, fun _ => q252, ?_, fun k hk => ?_, fun _ => ?_, fun e he => ?_⟩
    · rw [q254, v0]; exact d2
    · rw [q255, v1]; exact d3
    · have z := x2 (L 0 6) (oth 0 6 c6 (by omega) (by omega))
      unfold TT at d5 ⊢
      dsimp only at d5 ⊢
      rw [z.2.2.1, z.2.2.1, z.2.2.1, z.2.2.1, eep, eep, eep, eep, einB]
      exact d5
    · by_cases ck : k = G.1 3
      · subst ck
        rw [q152, q153, q154, qL, q156, e64, e65, e66, if_pos rfl, if_pos rfl, if_pos rfl, einB, egw, inB_new (by omega) hnew, gw_new (by omega) hnew]
        exact ⟨rfl, rfl, rfl, rfl, qT, rfl, fun z => absurd ⟨rfl, by omega⟩ z⟩
      · have hk' : k < G.1 3 := by omega
        obtain ⟨a1, a2, a3, a4, a5, a6, a7⟩ := d6 k hk'
        have z1 := x2 (L 1 k) (oth 1 k (by show k < 4; omega) (by omega) (by omega))
        have z2 := x2 (L 2 k) (oth 2 k (by show k < 4; omega) (by omega) (by omega))
        have z3 := x2 (L 3 k) (oth 3 k (by show k < 4; omega) (by omega) (by omega))
        unfold TT at a5 ⊢
        unfold sayb at a7 ⊢
        dsimp only at a5 ⊢
        rw [z1.2.1, z1.2.1, z1.2.1, z1.2.1, z1.2.1, z2.2.2.2.2, z3.2.2.1, z3.2.2.1, z3.2.2.1, z3.2.2.1, e64, e65, e66, if_neg ck, if_neg ck, if_neg ck, einB, egw, eep, eep, eep, eep, e67, e68, e69, e70]
        exact ⟨a1, a2, a3, a4, a5, a6, fun _ => a7 (fun z => by omega)⟩
    · show sI s 155 (L 1 (G.1 3)) 0 = _
      rw [q155, if_neg (fun z => by
        obtain ⟨j, hj, ej⟩ := hnew (G.1 4 - 1) (by omega)
        have z2 := z.2
        rw [e71, ej] at z2
        have : j = G.1 3 := (nI_eq (by omega) (by omega)).mp z2
        omega)]
    · have z := x2 (L 12 e) (oth 12 e (by show e < if G.1 2 = 0 then 0 else G.1 4; rw [if_neg hne0]; exact he) (by omega) (by omega))
      rw [z.2.1, z.2.1, z.2.1, z.2.1, z.2.1, e72, e73, e74, e75, e76]
      exact d8 e he
end PB
