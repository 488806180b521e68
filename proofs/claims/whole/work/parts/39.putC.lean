/-! PUT: a batch's header and control, the whole step -/
section PC
variable {L : LY} {cx mx : Nat} {σ σ' : St} {V V' : MV} {G : GH} {n : Nat}
theorem x_batch (C : CI L cx σ V G) (W : WF V G n) (hst : G.1 2 = 1) {h : Nat} (hh : h < 2 ^ 63) (lo : Int64) {post : Int32 → St → Prop} (hfull : G.1 3 = 4 → ∀ σ', CI L cx σ' (mS V 459 0) (fG G 0 (G.1 3) (G.1 4)) → AG mTag σ σ' → post (-3) σ') (hp : G.1 3 < 4 → ∀ σ', CI L cx σ' (batV (G.1 3) h (mS V 459 0)) (fG G 2 (G.1 3 + 1) (G.1 4)) → AG mTag σ σ' → post 0 σ') : wX7_beginBatch cx (lN h) lo post σ := by
  have h4 := W.1.2.2.2.2.2.2.2.1
  have k2 : sK σ (L 0 2) = 5 := C.k.fix 2 (by decide)
  have k5 : sK σ (L 0 5) = 1250 := C.k.fix 5 (by decide)
  have D1 : sI σ 253 (L 0 2) 0 = nI (G.1 3) := (C.e (by omega)).1
  have r2 := C.f.2.2.1
  unfold wX7_beginBatch
  refine ⟨C.k.1, nm_R r2 ⟨k2, ?_⟩⟩
  rw [D1]
  refine pk_lt (G.1 3) 4 (fun hlt => ?_) (fun hge => ⟨C.k.1, nm_R r2 ⟨k2, x_end C (fun s C1 g1 => hfull (by omega) s C1 g1)⟩⟩)
  refine ⟨C.k.1, nm_R r2 ⟨k2, fun r10 e10 => ⟨C.k.1, nm_R r2 ⟨k2, L 0 5, e10.trans C.f.2.2.2.2.2.1, k5, ?_⟩⟩⟩⟩
  rw [D1]
  refine ⟨vp_in_nI hlt (by decide), ?_⟩
  rw [nI_clamp (by omega)]
  refine fun r18 e18 => c_digitsH hh lo 1 4 (by decide) (by decide) (by decide) (c_digitsH hh lo 5 4 (by decide) (by decide) (by decide) (c_digitsH hh lo 9 4 (by decide) (by decide) (by decide) ⟨L 1 (G.1 3), e18.trans (C.f.2.2.2.2.2.2.2 _ hlt).1, C.k.knd 1 _ hlt, ?_⟩))
  exact x_begin C W hst hlt (fun s C1 g1 => hp hlt s C1 g1)
theorem WF.batch (W : WF V G n) (hst : G.1 2 = 1) (hnt : G.1 3 < 4) (h : Nat) : WF (batV (G.1 3) h (mS V 459 0)) (fG G 2 (G.1 3 + 1) (G.1 4)) (n + 1) := by
  have wn := W.1
  obtain ⟨a1, a2, a3, a4, a5, a6, a7, a8, a9, a10, a11, a12, a13, a14, a15, a16, a17, a18⟩ := wn
  have wE := W.2.2.2.1 (by omega)
  have xV : XV V (batV (G.1 3) h (mS V 459 0)) := (((((XV.rfl'.mS' (by decide)).mA' (by decide)).mA' (by decide)).mA' (by decide)).mS' (by decide)).mS' (by decide)
  have e71 : (batV (G.1 3) h (mS V 459 0)).2.1 1471 = V.2.1 1471 := (mA_o (by decide)).trans ((mA_o (by decide)).trans (mA_o (by decide)))
  have e75 : (batV (G.1 3) h (mS V 459 0)).2.1 1475 = V.2.1 1475 := (mA_o (by decide)).trans ((mA_o (by decide)).trans (mA_o (by decide)))
  have e76 : (batV (G.1 3) h (mS V 459 0)).2.1 1476 = V.2.1 1476 := (mA_o (by decide)).trans ((mA_o (by decide)).trans (mA_o (by decide)))
  have e65 : ∀ k, (batV (G.1 3) h (mS V 459 0)).2.1 1465 k = if k = G.1 3 then nI (dg h 5 4) else V.2.1 1465 k := fun k => by
    show (mA (mA (mA (mS V 459 0) 1464 _ _) 1465 _ _) 1466 _ _).2.1 1465 k = _
    rw [mA_o (by decide), mA_2]
    by_cases c : k = G.1 3
    · rw [if_pos ⟨rfl, c⟩, if_pos c]
    · rw [if_neg (fun z => c z.2), if_neg c, mA_o (by decide)]; rfl
  have v0 : (batV (G.1 3) h (mS V 459 0)).1 460 = V.1 460 := rfl
  have v1 : (batV (G.1 3) h (mS V 459 0)).1 461 = V.1 461 := rfl
  refine W.f xV rfl (by decide) rfl (by omega) a9 a10 (fun _ => by have := a17 (by omega); omega) (fun _ => Nat.succ_pos _) (fun _ => ?_)
  generalize batV (G.1 3) h (mS V 459 0) = V' at *
  show (∃ x, x < 10000 ∧ V'.1 460 = nI x) ∧ (∃ x, x < 10000 ∧ V'.1 461 = nI x) ∧ (∀ e, e < G.1 4 → (∃ k, k < G.1 3 + 1 ∧ V'.2.1 1471 e = nI k) ∧ (∃ x, x < 10000000 ∧ V'.2.1 1475 e = nI x) ∧ ∃ x, x < 10000000 ∧ V'.2.1 1476 e = nI x) ∧ (∀ e e', e ≤ e' → e' < G.1 4 → V'.2.1 1471 e ≤ V'.2.1 1471 e') ∧ ∀ b, b < G.1 3 + 1 → ∃ x, x < 10000 ∧ V'.2.1 1465 b = nI x
  rw [v0, v1, e71, e75, e76]
  obtain ⟨w1, w2, w3, w4, w5⟩ := wE
  refine ⟨w1, w2, fun e he => ⟨?_, (w3 e he).2⟩, w4, fun b hb => ?_⟩
  · obtain ⟨k, hk, ek⟩ := (w3 e he).1
    exact ⟨k, by omega, ek⟩
  · rw [e65]
    by_cases c : b = G.1 3
    · rw [if_pos c]
      exact ⟨_, dg_lt h 5 4, rfl⟩
    · rw [if_neg c]
      exact w5 b (by omega)
/-- totals against a control -/
theorem x_are {a : Nat} {s : Nat → Int64} {x y z w : Int32} (hk : sK σ a = 7) (ht : TT σ a s) {post : Int32 → St → Prop} (hy : (x.toInt64 = s 0 ∧ y.toInt64 = s 1 ∧ z.toInt64 = s 2 ∧ w.toInt64 = s 3) → post 1 σ) (hn : ¬ (x.toInt64 = s 0 ∧ y.toInt64 = s 1 ∧ z.toInt64 = s 2 ∧ w.toInt64 = s 3) → post 0 σ) : wX6_are a x y z w post σ := by
  obtain ⟨t0, t1, t2, t3⟩ := ht
  unfold wX6_are
  simp only [lg_cmp_eq]
  rw [t0, t1, t2, t3]
  refine ⟨hk, ?_⟩
  by_cases c0 : s 0 = x.toInt64
  rotate_left
  · exact br_f c0 (hn (fun u => c0 u.1.symm))
  refine br_t c0 ⟨hk, ?_⟩
  by_cases c1 : s 1 = y.toInt64
  rotate_left
  · exact br_f c1 (hn (fun u => c1 u.2.1.symm))
  refine br_t c1 ⟨hk, ?_⟩
  by_cases c2 : s 2 = z.toInt64
  rotate_left
  · exact br_f c2 (hn (fun u => c2 u.2.2.1.symm))
  refine br_t c2 ⟨hk, ?_⟩
  by_cases c3 : s 3 = w.toInt64
  rotate_left
  · exact br_f c3 (hn (fun u => c3 u.2.2.2.symm))
  exact br_t c3 (hy ⟨c0.symm, c1.symm, c2.symm, c3.symm⟩)
theorem x_control (C : CI L cx σ V G) (W : WF V G n) (hst : G.1 2 = 2) {h l : Nat} (hh : h < 2 ^ 63) (hl : l < 2 ^ 63) {post : St → Prop} (hp : ∀ σ', CI L cx σ' (sayV (G.1 3) h l (mS V 459 0)) (fG G 1 (G.1 3) (G.1 4)) → AG mTag σ σ' → post σ') : wX7_endBatch cx (lN h) (lN l) post σ := by
  have h4 := W.1.2.2.2.2.2.2.2.1
  have h0 := W.1.2.2.2.2.2.2.2.2.2.2.2.2.2.2.2.2.2 hst
  have hne0 : G.1 2 ≠ 0 := by omega
  have hK := C.k
  have k2 : sK σ (L 0 2) = 5 := hK.fix 2 (by decide)
  have c2 : 2 < cnt G 0 := by show 2 < 7; omega
  have c6 : 6 < cnt G 0 := by show 6 < 7; omega
  have D := C.e hne0
  have r2 := C.f.2.2.1
  obtain ⟨p, hp4⟩ : ∃ p, p = G.1 3 - 1 := ⟨_, rfl⟩
  have hpl : p < 4 := by omega
  have r252 : sR σ 252 (L 0 2) 0 = some (L 1 p) := by rw [hp4]; exact D.2.2.2.1 hst
  have k1 : sK σ (L 1 p) = 3 := hK.knd 1 p hpl
  have k3 : sK σ (L 3 p) = 7 := hK.knd 3 p hpl
  have r151 := (C.f.2.2.2.2.2.2.2 p hpl).2.2
  have nfb : L 0 2 ≠ L 1 p := hK.ne c2 hpl (fun z => absurd z.1 (by decide))
  have tt := (D.2.2.2.2.2.1 p (by omega)).2.2.2.2.1
  unfold wX7_endBatch
  refine ⟨hK.1, nm_R r2 ⟨k2, fun r5 e5 => ⟨L 1 p, e5.trans r252, k1, fun r9 e9 => ?_⟩⟩⟩
  refine c_digitsH hh (lN l) 1 4 (by decide) (by decide) (by decide) (c_digitsH hh (lN l) 5 6 (by decide) (by decide) (by decide) (c_digitsL hl (lN h) 0 9 (by decide) (by decide) (by decide) (c_digitsL hl (lN h) 9 9 (by decide) (by decide) (by decide) ⟨L 3 p, e9.trans r151, k3, ?_⟩)))
  have xV : XV V (sayV (G.1 3) h l (mS V 459 0)) := (((((XV.rfl'.mS' (by decide)).mA' (by decide)).mA' (by decide)).mA' (by decide)).mA' (by decide)).mS' (by decide)
  have eo : ∀ u, (u < 1467 ∨ 1470 < u) → (sayV (G.1 3) h l (mS V 459 0)).2.1 u = V.2.1 u := fun u hu => (mA_o (by omega)).trans ((mA_o (by omega)).trans ((mA_o (by omega)).trans (mA_o (by omega))))
  have e67 : ∀ k, (sayV (G.1 3) h l (mS V 459 0)).2.1 1467 k = if k = p then nI (dg h 1 4) else V.2.1 1467 k := fun k => by
    show (mA (mA (mA (mA (mS V 459 0) 1467 _ _) 1468 _ _) 1469 _ _) 1470 _ _).2.1 1467 k = _
    rw [mA_o (by decide), mA_o (by decide), mA_o (by decide), mA_2, ← hp4]
    by_cases c : k = p
    · rw [if_pos ⟨rfl, c⟩, if_pos c]
    · rw [if_neg (fun z => c z.2), if_neg c]; rfl
  have e68 : ∀ k, (sayV (G.1 3) h l (mS V 459 0)).2.1 1468 k = if k = p then nI (dg h 5 6) else V.2.1 1468 k := fun k => by
    show (mA (mA (mA (mA (mS V 459 0) 1467 _ _) 1468 _ _) 1469 _ _) 1470 _ _).2.1 1468 k = _
    rw [mA_o (by decide), mA_o (by decide), mA_2, ← hp4]
    by_cases c : k = p
    · rw [if_pos ⟨rfl, c⟩, if_pos c]
    · rw [if_neg (fun z => c z.2), if_neg c, mA_o (by decide)]; rfl
  have e69 : ∀ k, (sayV (G.1 3) h l (mS V 459 0)).2.1 1469 k = if k = p then nI (dg l 0 9) else V.2.1 1469 k := fun k => by
    show (mA (mA (mA (mA (mS V 459 0) 1467 _ _) 1468 _ _) 1469 _ _) 1470 _ _).2.1 1469 k = _
    rw [mA_o (by decide), mA_2, ← hp4]
    by_cases c : k = p
    · rw [if_pos ⟨rfl, c⟩, if_pos c]
    · rw [if_neg (fun z => c z.2), if_neg c, mA_o (by decide), mA_o (by decide)]; rfl
  have e70 : ∀ k, (sayV (G.1 3) h l (mS V 459 0)).2.1 1470 k = if k = p then nI (dg l 9 9) else V.2.1 1470 k := fun k => by
    show (mA (mA (mA (mA (mS V 459 0) 1467 _ _) 1468 _ _) 1469 _ _) 1470 _ _).2.1 1470 k = _
    rw [mA_2, ← hp4]
    by_cases c : k = p
    · rw [if_pos ⟨rfl, c⟩, if_pos c]
    · rw [if_neg (fun z => c z.2), if_neg c, mA_o (by decide), mA_o (by decide), mA_o (by decide)]; rfl
  have v0 : (sayV (G.1 3) h l (mS V 459 0)).1 460 = V.1 460 := rfl
  have v1 : (sayV (G.1 3) h l (mS V 459 0)).1 461 = V.1 461 := rfl
  generalize sayV (G.1 3) h l (mS V 459 0) = V' at *
  have eep := ep_c (eo 1472 (by decide)) (eo 1473 (by decide)) (eo 1475 (by decide))
  have einB := inB_c (eo 1471 (by decide))
  have egw := gw_c (eo 1471 (by decide)) (eo 1476 (by decide))
  have say : sayb V' (G.1 4) p ↔ ((nI (dg h 1 4)).toInt64 = tot (ep V 0) (inB V (nI p) (G.1 4)) ∧ (nI (dg h 5 6)).toInt64 = tot (ep V 1) (inB V (nI p) (G.1 4)) ∧ (nI (dg l 0 9)).toInt64 = tot (ep V 2) (inB V (nI p) (G.1 4)) ∧ (nI (dg l 9 9)).toInt64 = tot (ep V 3) (inB V (nI p) (G.1 4))) := by
    unfold sayb
    rw [e67, e68, e69, e70, if_pos rfl, if_pos rfl, if_pos rfl, if_pos rfl, eep, eep, eep, eep, einB]
  have main : ∀ x : Int32, ((x = 1 ∧ sayb V' (G.1 4) p) ∨ (x = 0 ∧ ¬ sayb V' (G.1 4) p)) → sK σ (L 1 p) = 3 ∧ (isB x ∧ (∀ σ29 : St, σ29 = uI σ 157 (L 1 p) 0 x → (sK σ29 cx = 8 ∧ (∀ r31 : Option Nat, r31 = sR σ29 402 cx 0 → (∃ a32 : Nat, r31 = some a32 ∧ (sK σ29 a32 = 5 ∧ (∀ σ34 : St, σ34 = uI σ29 257 a32 0 (0 : Int32) → (post σ34)))))))) := fun x hx => by
    refine ⟨k1, ?_, fun s e => ?_⟩
    · rcases hx with z | z
      · exact Or.inr z.1
      · exact Or.inl z.1
    subst e
    refine ⟨hK.1, nm_R r2 ⟨k2, fun s e => ?_⟩⟩
    have x2 : AX (fun a => a = L 0 2 ∨ a = L 1 p) σ s := by
      rw [e]
      exact (AX.rfl'.uI (Or.inr rfl)).uI (Or.inl rfl)
    have m2 : ∀ a, (a = L 0 2 ∨ a = L 1 p) → fM L a := fun a z => by
      rcases z with z | z
      · exact ⟨0, 2, Or.inl ⟨rfl, Or.inl rfl⟩, z⟩
      · exact ⟨1, p, Or.inr ⟨by omega, hpl⟩, z⟩
    have oth : ∀ t i, i < cnt G t → ¬ (t = 0 ∧ i = 2) → ¬ (t = 1 ∧ i = p) → ¬ (L t i = L 0 2 ∨ L t i = L 1 p) := fun t i hi n1 n2 z => by
      rcases z with z | z
      · exact n1 (hK.2.2 t i 0 2 hi c2 z)
      · exact n2 (hK.2.2 t i 1 p hi hpl z)
    have q257 : sI s 257 (L 0 2) 0 = 0 := by subst e; rw [sI_uI, if_pos ⟨rfl, rfl, rfl⟩]
    have q157 : sI s 157 (L 1 p) 0 = x := by subst e; rw [sI_ne (by decide), sI_uI, if_pos ⟨rfl, rfl, rfl⟩]
    have qI : ∀ g a j, g ≠ 257 → g ≠ 157 → sI s g a j = sI σ g a j := fun g a j n1 n2 => by
      subst e
      rw [sI_ne n1, sI_ne n2]
    have q1 : ∀ k, k ≠ p → k < 4 → sI s 157 (L 1 k) 0 = sI σ 157 (L 1 k) 0 := fun k hk hk4 => (x2 (L 1 k) (oth 1 k hk4 (by omega) (by omega))).2.1 157 0
    have qR : sR s = sR σ := by subst e; rfl
    have qJ : sJ s = sJ σ := by subst e; rfl
    have qL : sL s = sL σ := by subst e; rfl
    have qK : sK s = sK σ := by subst e; rfl
    have o1 := OC.v (OC.ax C.k C.oc (x2.mono m2)) xV
    clear e
    refine hp s (CI.mk' (cK.kk (hK.fG' 1 _ _ ?_) qK) ?_ (show OC L cx s V' G from o1) ⟨fun z => ?_, fun _ => ⟨?_, fun z => ?_, fun _ => q257⟩⟩ (fun _ => ?_)) ((x2.mono m2).toAG (fun a ha => fM.notM C.k ha))
    · show (if 1 = 0 then 0 else G.1 4) ≤ (if G.1 2 = 0 then 0 else G.1 4)
      rw [if_neg (by decide), if_neg hne0]
      exact Nat.le_refl _
    · unfold cF
      rw [qR]
      exact C.f
    · exact absurd z (by show ¬ 1 = 0; decide)
    · rw [qI _ _ _ (by decide) (by decide)]
      exact (C.g.2 hne0).1
    · exact absurd z (by show ¬ 1 = 2; decide)
    · show FD L s V' 1 (G.1 3) (G.1 4)
      obtain ⟨d1, d2, d3, d4, d5, d6, d7, d8⟩ := D
      refine ⟨?_, ?_, ?_, fun z => absurd z (by decide), ?_, fun k hk => ?_, fun z => absurd z (by decide), fun e he => ?_⟩
      · rw [qI _ _ _ (by decide) (by decide)]; exact d1
      · rw [qI _ _ _ (by decide) (by decide), v0]; exact d2
      · rw [qI _ _ _ (by decide) (by decide), v1]; exact d3
      · unfold TT at d5 ⊢
        dsimp only at d5 ⊢
        rw [qJ, eep, eep, eep, eep, einB]
        exact d5
      · obtain ⟨a1, a2, a3, a4, a5, a6, a7⟩ := d6 k hk
        rw [qI 152 _ _ (by decide) (by decide), qI 153 _ _ (by decide) (by decide), qI 154 _ _ (by decide) (by decide), qI 156 _ _ (by decide) (by decide), qL, eo 1464 (by decide), eo 1465 (by decide), eo 1466 (by decide), einB, egw]
        refine ⟨a1, a2, a3, a4, ?_, a6, fun _ => ?_⟩
        · unfold TT at a5 ⊢
          dsimp only at a5 ⊢
          rw [qJ, eep, eep, eep, eep]
          exact a5
        · by_cases ck : k = p
          · rw [ck, q157]
            rcases hx with ⟨z1, z2⟩ | ⟨z1, z2⟩
            · exact ⟨fun _ => z1, fun z => absurd z2 z⟩
            · exact ⟨fun z => absurd z z2, fun _ => z1⟩
          · rw [q1 k ck (by omega)]
            have : sayb V' (G.1 4) k ↔ sayb V (G.1 4) k := by
              unfold sayb
              rw [e67, e68, e69, e70, if_neg ck, if_neg ck, if_neg ck, if_neg ck, eep, eep, eep, eep, einB]
            rw [this]
            exact a7 (fun z => by omega)
      · rw [qI _ _ _ (by decide) (by decide), qI _ _ _ (by decide) (by decide), qI _ _ _ (by decide) (by decide), qI _ _ _ (by decide) (by decide), qI _ _ _ (by decide) (by decide), eo 1472 (by decide), eo 1473 (by decide), eo 1474 (by decide), eo 1475 (by decide), eo 1476 (by decide)]
        exact d8 e he
  exact x_are k3 tt (fun z => main 1 (Or.inl ⟨rfl, say.mpr z⟩)) (fun z => main 0 (Or.inr ⟨rfl, fun u => z (say.mp u)⟩))
theorem WF.say' (W : WF V G n) (hst : G.1 2 = 2) (h l : Nat) : WF (sayV (G.1 3) h l (mS V 459 0)) (fG G 1 (G.1 3) (G.1 4)) (n + 1) := by
  have wn := W.1
  obtain ⟨a1, a2, a3, a4, a5, a6, a7, a8, a9, a10, a11, a12, a13, a14, a15, a16, a17, a18⟩ := wn
  have wE := W.2.2.2.1 (by omega)
  have xV : XV V (sayV (G.1 3) h l (mS V 459 0)) := (((((XV.rfl'.mS' (by decide)).mA' (by decide)).mA' (by decide)).mA' (by decide)).mA' (by decide)).mS' (by decide)
  have eo : ∀ u, (u < 1467 ∨ 1470 < u) → (sayV (G.1 3) h l (mS V 459 0)).2.1 u = V.2.1 u := fun u hu => (mA_o (by omega)).trans ((mA_o (by omega)).trans ((mA_o (by omega)).trans (mA_o (by omega))))
  have v0 : (sayV (G.1 3) h l (mS V 459 0)).1 460 = V.1 460 := rfl
  have v1 : (sayV (G.1 3) h l (mS V 459 0)).1 461 = V.1 461 := rfl
  refine W.f xV rfl (by decide) a7 a8 a9 a10 (fun _ => by have := a17 (by omega); omega) (fun z => absurd z (by decide)) (fun _ => ?_)
  generalize sayV (G.1 3) h l (mS V 459 0) = V' at *
  show (∃ x, x < 10000 ∧ V'.1 460 = nI x) ∧ (∃ x, x < 10000 ∧ V'.1 461 = nI x) ∧ (∀ e, e < G.1 4 → (∃ k, k < G.1 3 ∧ V'.2.1 1471 e = nI k) ∧ (∃ x, x < 10000000 ∧ V'.2.1 1475 e = nI x) ∧ ∃ x, x < 10000000 ∧ V'.2.1 1476 e = nI x) ∧ (∀ e e', e ≤ e' → e' < G.1 4 → V'.2.1 1471 e ≤ V'.2.1 1471 e') ∧ ∀ b, b < G.1 3 → ∃ x, x < 10000 ∧ V'.2.1 1465 b = nI x
  rw [v0, v1, eo 1471 (by decide), eo 1475 (by decide), eo 1476 (by decide), eo 1465 (by decide)]
  exact wE
end PC
