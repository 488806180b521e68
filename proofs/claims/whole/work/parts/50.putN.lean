/-! PUT: the whole call -/
section PN
variable {L : LY} {cx mx : Nat} {A : Nat → Nat} {σ σ' : St} {V : MV} {G : GH} {n : Nat}
theorem WF.rej (W : WF V G n) (k : Nat) : WF (tlV (mS V 459 0) k) (fG G 0 (G.1 3) (G.1 4)) (n + 1) := by
  obtain ⟨⟨a1, a2, a3, a4, a5, a6, a7, a8, a9, a10, a11, a12, a13, a14, a15, a16, a17, a18⟩, b2, b3, b4, b5, b6, b7, b8⟩ := W.end'.le
  exact ⟨⟨a1, a2, a3, a4, a5, a6, a7, a8, a9, a10, a11, a12, a13, a14, a15, a16, a17, a18⟩, b2, b3, fun z => absurd rfl z, b5, b6, b7, b8⟩
theorem x_endFile (C : CI L cx σ V G) (W : WF V G n) (hn : n < 64) (hst : G.1 2 = 1) {h l : Nat} (hh : h < 2 ^ 63) (hl : l < 2 ^ 63) {post : Int32 → St → Prop} (hbad : ff V (G.1 0) (G.1 3) (G.1 4) (G.1 5) (G.1 6) h l ≠ 0 → ∀ σ', CI L cx σ' (tlV (mS V 459 0) (ff V (G.1 0) (G.1 3) (G.1 4) (G.1 5) (G.1 6) h l)) (fG G 0 (G.1 3) (G.1 4)) → AG mTag σ σ' → post (-(nI (ff V (G.1 0) (G.1 3) (G.1 4) (G.1 5) (G.1 6) h l))) σ') (hp : ff V (G.1 0) (G.1 3) (G.1 4) (G.1 5) (G.1 6) h l = 0 → ∀ σ' L' G', CI L' cx σ' (enV (mS V 459 0) (G.1 0) (G.1 3) (G.1 4) (G.1 5)) G' → WF (enV (mS V 459 0) (G.1 0) (G.1 3) (G.1 4) (G.1 5)) G' (n + 1) → AG mTag σ σ' → post (nI (cntL (good V (G.1 0) (G.1 4)) (G.1 4))) σ') : wX7_endFile cx (lN h) (lN l) post σ := by
  have hne0 : G.1 2 ≠ 0 := by omega
  have k2 : sK σ (L 0 2) = 5 := C.k.fix 2 (by decide)
  have h5 := W.1.2.1
  have h4 := W.1.2.2.2.2.2.2.2.1
  have h20 := W.1.2.2.2.2.2.2.2.2.2.1
  have hnf := W.1.2.2.2.2.2.2.2.2.2.2.2.1
  have hnr := W.1.2.2.2.2.2.2.2.2.2.2.2.2.2.1
  have m2 : fM L (L 0 2) := ⟨0, 2, Or.inl ⟨rfl, Or.inl rfl⟩, rfl⟩
  have g1 : AG mTag σ (uI σ 256 (L 0 2) 0 0) := AG.rfl'.uI (by rw [k2]; exact (kd_c 0 2).2)
  have D0 : FD L σ V 1 (G.1 3) (G.1 4) := by have := C.e hne0; rwa [hst] at this
  have E1 : EI L cx (uI σ 256 (L 0 2) 0 0) V G := ⟨C.k, C.f, OC.ax C.k C.oc (AX.rfl'.uI m2), D0.tr (fun g a j _ _ hg => by rw [sI_ne (by omega)]) rfl (fun _ _ => rfl)⟩
  have z1 : sI (uI σ 256 (L 0 2) 0 0) 256 (L 0 2) 0 = 0 := by rw [sI_uI, if_pos ⟨rfl, rfl, rfl⟩]
  unfold wX7_endFile
  refine ⟨C.k.1, nm_R C.f.2.2.1 ⟨k2, ?_⟩⟩
  unfold wX4_end
  refine ⟨k2, fun s1 e1 => ?_⟩
  rw [← e1] at g1 E1 z1
  clear e1
  refine ⟨E1.1.1, c_reasonFile E1 W hn hne0 hh hl (fun s2 j2 hJ => ?_)⟩
  have E2 := E1.ja hne0 j2
  have z2 : sI s2 256 (L 0 2) 0 = 0 := by rw [j2.2.2.2.1 _ _ _ (by decide) (by decide) (by decide)]; exact z1
  have g2 : AG mTag σ s2 := g1.trans (j2.2.2.2.2.2.toAG (fun a ha => JM.notM E1.1 hne0 ha))
  have hff := ff_lt34 V (G.1 0) (G.1 3) (G.1 4) (G.1 5) (G.1 6) h l
  have hkno := ff_kno V (G.1 0) (G.1 3) (G.1 4) (G.1 5) (G.1 6) h l
  have hbk : ff V (G.1 0) (G.1 3) (G.1 4) (G.1 5) (G.1 6) h l = 0 → ∃ b, bk V (G.1 0) (V.1 460) = some b := fun z => by
    cases hb : bk V (G.1 0) (V.1 460) with
    | some b => exact ⟨b, rfl⟩
    | none =>
      unfold ff at z
      rw [hb] at z
      dsimp only at z
      exact absurd z (by decide)
  generalize ff V (G.1 0) (G.1 3) (G.1 4) (G.1 5) (G.1 6) h l = r at *
  refine pk_eq r 0 (fun c => ⟨E2.1.1, c_fileKey E2 ⟨E2.1.1, c_keep E2.1 E2.2.1 E2.2.2.1.2.2.2.2.2.2.1.1 (by omega) _ ⟨E2.1.1, ?_⟩⟩⟩) (fun c => ⟨E2.1.1, c_countRefusal E2.1 E2.2.1 hff (hbad c _ (CI.rej E2 z2 (hkno.resolve_left c)) (g2.trans (AG.rfl'.uI (by rw [E2.1.fix 4 (by decide)]; exact (kd_c 0 4).2))))⟩)
  obtain ⟨b, hb⟩ := hbk c
  obtain ⟨y, hy4, hy⟩ := (W.2.2.2.1 hne0).2.1
  have nx3 : L 0 3 ≠ L 0 2 := E2.1.ne (show 3 < 7 by omega) (show 2 < 7 by omega) (t := 0) (t' := 0) (fun z => absurd z.2 (by decide))
  have iI : ∀ g a j, g ≠ 1403 → g ≠ 404 → sI (uI (uI s2 1403 (L 0 3) (G.1 5) (V.1 460 * 10000 + V.1 461)) 404 cx 0 (nI (G.1 5 + 1))) g a j = sI s2 g a j := fun g a j n1 n2 => by rw [sI_ne n2, sI_ne n1]
  have O3 : cB L (uI (uI s2 1403 (L 0 3) (G.1 5) (V.1 460 * 10000 + V.1 461)) 404 cx 0 (nI (G.1 5 + 1))) V G := by
    have := E2.2.2.1.1
    unfold cB at this ⊢
    refine ⟨this.1, fun i hi => ?_⟩
    rw [iI _ _ _ (by decide) (by decide), iI _ _ _ (by decide) (by decide)]
    exact this.2 i hi
  have D3 := E2.2.2.2.tr (σ' := uI (uI s2 1403 (L 0 3) (G.1 5) (V.1 460 * 10000 + V.1 461)) 404 cx 0 (nI (G.1 5 + 1))) (fun g a j _ _ hg => iI g a j (by omega) (by omega)) rfl (fun _ _ => rfl)
  have J3 : JF L (uI (uI s2 1403 (L 0 3) (G.1 5) (V.1 460 * 10000 + V.1 461)) 404 cx 0 (nI (G.1 5 + 1))) V (G.1 0) (G.1 4) (G.1 3) := fun k hk => by
    obtain ⟨q1, q2⟩ := hJ c k hk
    refine ⟨by rw [iI _ _ _ (by decide) (by decide)]; exact q1, fun hz e he => ?_⟩
    have := q2 hz e he
    unfold JE at this ⊢
    rw [iI _ _ _ (by decide) (by decide), iI _ _ _ (by decide) (by decide)]
    exact this
  refine c_acceptBatches (σ := uI (uI s2 1403 (L 0 3) (G.1 5) (V.1 460 * 10000 + V.1 461)) 404 cx 0 (nI (G.1 5 + 1))) E2.1 E2.2.1 O3 E2.2.2.1.2.2.2.2.2.2.2.2.2.2.1 D3 W hn hne0 J3 (fun s3 hA => ?_)
  have hFE := en_fold (V := mS V 459 0) (nb := G.1 0) (nt := G.1 3) (ne := G.1 4) (nf := G.1 5) (nr := G.1 6) W.1.2.2.2.2.2.2.2.2.2.2.2.2.1 (by omega)
  refine hp c s3 _ _ (CI.fin E2 W hn hne0 z2 (hJ c) hb hy hFE hA) (W.fin hn hne0 hb hy hy4 hFE) (g2.trans ?_)
  have g3 : AG mTag s2 (uI (uI s2 1403 (L 0 3) (G.1 5) (V.1 460 * 10000 + V.1 461)) 404 cx 0 (nI (G.1 5 + 1))) := (AG.rfl'.uI (by rw [E2.1.fix 3 (by decide)]; exact (kd_c 0 3).2)).uI (by rw [E2.1.1]; unfold mTag; decide)
  refine g3.trans (hA.1.toAG (fun a ha => ?_))
  rcases ha with e | ⟨b', hb', e⟩
  · rw [e]
    show ¬ mTag (sK s2 (L 0 4))
    rw [E2.1.fix 4 (by decide)]
    exact (kd_c 0 4).2
  · rw [e]
    show ¬ mTag (sK s2 (L 5 b'))
    rw [E2.1.knd 5 b' hb']
    exact (kd_c 5 b').2
/-- put, as one function -/
def ptV (V : MV) (nb st nt ne nf nr h l : Nat) : Int32 × MV :=
  if dg h 0 1 = 1 ∧ st = 0 then (0, hdV h (mS V 459 0))
  else if dg h 0 1 = 5 ∧ st = 1 then (if nt = 4 then (-3, mS V 459 0) else (0, batV nt h (mS V 459 0)))
  else if dg h 0 1 = 6 ∧ st = 2 then (if ne = 20 then (-3, mS V 459 0) else (0, entV nt ne h l (mS V 459 0)))
  else if dg h 0 1 = 8 ∧ st = 2 then (0, sayV nt h l (mS V 459 0))
  else if dg h 0 1 = 9 ∧ st = 1 then (if ff (mS V 459 0) nb nt ne nf nr h l = 0 then (nI (cntL (good (mS V 459 0) nb ne) ne), enV (mS V 459 0) nb nt ne nf) else (-(nI (ff (mS V 459 0) nb nt ne nf nr h l)), tlV (mS V 459 0) (ff (mS V 459 0) nb nt ne nf nr h l)))
  else (-2, mS V 459 0)
theorem ptV_1 {nb st nt ne nf nr h l : Nat} (c : dg h 0 1 = 1) (c2 : st = 0) : ptV V nb st nt ne nf nr h l = (0, hdV h (mS V 459 0)) := if_pos ⟨c, c2⟩
theorem ptV_5 {nb st nt ne nf nr h l : Nat} (c : dg h 0 1 = 5) (c2 : st = 1) : ptV V nb st nt ne nf nr h l = if nt = 4 then (-3, mS V 459 0) else (0, batV nt h (mS V 459 0)) := (if_neg (fun z => by omega)).trans (if_pos ⟨c, c2⟩)
theorem ptV_6 {nb st nt ne nf nr h l : Nat} (c : dg h 0 1 = 6) (c2 : st = 2) : ptV V nb st nt ne nf nr h l = if ne = 20 then (-3, mS V 459 0) else (0, entV nt ne h l (mS V 459 0)) := (if_neg (fun z => by omega)).trans ((if_neg (fun z => by omega)).trans (if_pos ⟨c, c2⟩))
theorem ptV_8 {nb st nt ne nf nr h l : Nat} (c : dg h 0 1 = 8) (c2 : st = 2) : ptV V nb st nt ne nf nr h l = (0, sayV nt h l (mS V 459 0)) := (if_neg (fun z => by omega)).trans ((if_neg (fun z => by omega)).trans ((if_neg (fun z => by omega)).trans (if_pos ⟨c, c2⟩)))
theorem ptV_9 {nb st nt ne nf nr h l : Nat} (c : dg h 0 1 = 9) (c2 : st = 1) : ptV V nb st nt ne nf nr h l = if ff (mS V 459 0) nb nt ne nf nr h l = 0 then (nI (cntL (good (mS V 459 0) nb ne) ne), enV (mS V 459 0) nb nt ne nf) else (-(nI (ff (mS V 459 0) nb nt ne nf nr h l)), tlV (mS V 459 0) (ff (mS V 459 0) nb nt ne nf nr h l)) := (if_neg (fun z => by omega)).trans ((if_neg (fun z => by omega)).trans ((if_neg (fun z => by omega)).trans ((if_neg (fun z => by omega)).trans (if_pos ⟨c, c2⟩))))
theorem ptV_0 {nb st nt ne nf nr h l : Nat} (c1 : ¬ (dg h 0 1 = 1 ∧ st = 0)) (c5 : ¬ (dg h 0 1 = 5 ∧ st = 1)) (c6 : ¬ (dg h 0 1 = 6 ∧ st = 2)) (c8 : ¬ (dg h 0 1 = 8 ∧ st = 2)) (c9 : ¬ (dg h 0 1 = 9 ∧ st = 1)) : ptV V nb st nt ne nf nr h l = (-2, mS V 459 0) := (if_neg c1).trans ((if_neg c5).trans ((if_neg c6).trans ((if_neg c8).trans (if_neg c9))))
theorem m_put' (hM : MI mx A V σ) (W : WF V G n) (hn : n < 64) {post : Int32 → St → Prop} (p q : Int64) (hbad : ((p < 0 ∨ 999999999999999999 < p) ∨ q < 0 ∨ 999999999999999999 < q) → post (-1) σ) (hp : ∀ h l, h < 10 ^ 18 → l < 10 ^ 18 → p = lN h → q = lN l → ∀ σ', MI mx A (ptV V (G.1 0) (G.1 2) (G.1 3) (G.1 4) (G.1 5) (G.1 6) h l).2 σ' → AG cTag σ σ' → post (ptV V (G.1 0) (G.1 2) (G.1 3) (G.1 4) (G.1 5) (G.1 6) h l).1 σ') : wX8_put mx p q post σ := by
  have wE := W.2.2.2.1
  obtain ⟨a1, a2, a3, a4, a5, a6, a7, a8, a9, a10, a11, a12, a13, a14, a15, a16, a17, a18⟩ := W.1
  refine m_put hM p q a1 a2 a5 a6 a7 a8 a9 a10 a11 (by omega) a13 (by omega) (fun hs e he => ?_) a18 hbad (fun h l hh hl e1 e2 => ?_)
  · obtain ⟨l1, l2⟩ := ibn_lt (fun e he => ((wE hs).2.2.1 e he).1) a8 he
    exact ⟨l2, by omega⟩
  have hp := hp h l hh hl e1 e2
  refine ⟨fun c c2 σ' M g => ?_, fun c c2 c3 σ' M g => ?_, fun c c2 c3 σ' M g => ?_, fun c c2 c3 σ' M g => ?_, fun c c2 c3 σ' M g => ?_, fun c c2 σ' M g => ?_, fun c c2 c3 σ' M g => ?_, fun c c2 c3 σ' M g => ?_, fun n1 n5 n6 n8 n9 σ' M g => ?_⟩
  · rw [ptV_1 c c2] at hp; exact hp σ' M g
  · rw [ptV_5 c c2, if_pos c3] at hp; exact hp σ' M g
  · rw [ptV_5 c c2, if_neg (by omega)] at hp; exact hp σ' M g
  · rw [ptV_6 c c2, if_pos c3] at hp; exact hp σ' M g
  · rw [ptV_6 c c2, if_neg (by omega)] at hp; exact hp σ' M g
  · rw [ptV_8 c c2] at hp; exact hp σ' M g
  · rw [ptV_9 c c2, if_neg c3] at hp; exact hp σ' M g
  · rw [ptV_9 c c2, if_pos c3] at hp; exact hp σ' M g
  · rw [ptV_0 n1 n5 n6 n8 n9] at hp; exact hp σ' M g
theorem c_half (p : Int64) {post : Int32 → St → Prop} (h0 : (p < 0 ∨ 999999999999999999 < p) → post 0 σ) (h1 : ∀ h, h < 10 ^ 18 → p = lN h → post 1 σ) : wX7_isHalf p post σ := by
  unfold wX7_isHalf
  simp only [lg_cmp_lt, lg_cmp_gt]
  rcases half_cases p with ⟨h, hh, rfl⟩ | hx | hx
  · exact br_f (half_t hh).1 (br_f (half_t hh).2 (h1 h hh rfl))
  · exact br_t hx (h0 (Or.inl hx))
  · by_cases c : p < 0
    · exact br_t c (h0 (Or.inl c))
    · exact br_f c (br_t hx (h0 (Or.inr hx)))
/-- what the file under way allows -/
theorem c_allows (C : CI L cx σ V G) (h2 : G.1 2 ≤ 2) {k : Nat} (hk : k < 10) {post : Int32 → St → Prop} (hy : ((k = 1 ∧ G.1 2 = 0) ∨ (k = 5 ∧ G.1 2 = 1) ∨ (k = 9 ∧ G.1 2 = 1) ∨ (k = 6 ∧ G.1 2 = 2) ∨ (k = 8 ∧ G.1 2 = 2)) → post 1 σ) (hno : ¬ ((k = 1 ∧ G.1 2 = 0) ∨ (k = 5 ∧ G.1 2 = 1) ∨ (k = 9 ∧ G.1 2 = 1) ∨ (k = 6 ∧ G.1 2 = 2) ∨ (k = 8 ∧ G.1 2 = 2)) → post 0 σ) : wX4_allows (L 0 2) (nI k) post σ := by
  have k2 : sK σ (L 0 2) = 5 := C.k.fix 2 (by decide)
  obtain ⟨g1, g2⟩ := C.g
  unfold wX4_allows
  refine ⟨k2, ?_⟩
  by_cases c0 : G.1 2 = 0
  · rw [g1 c0]
    exact br_t rfl (pk_eq k 1 (fun c => hy (Or.inl ⟨c, c0⟩)) (fun c => hno (by omega)))
  · obtain ⟨g3, g4, g5⟩ := g2 c0
    rw [g3]
    refine br_f (by decide) ⟨k2, ?_⟩
    by_cases c2 : G.1 2 = 2
    · rw [g4 c2]
      exact br_f (by decide) (pk_eq k 6 (fun c => hy (by omega)) (fun c => pk_eq k 8 (fun c => hy (by omega)) (fun c => hno (by omega))))
    · rw [g5 c2]
      exact br_t rfl (pk_eq k 5 (fun c => hy (by omega)) (fun c => pk_eq k 9 (fun c => hy (by omega)) (fun c => hno (by omega))))
theorem c_put (C : CI L cx σ V G) (W : WF V G n) (hn : n < 64) {post : Int32 → St → Prop} (p q : Int64) (hbad : ((p < 0 ∨ 999999999999999999 < p) ∨ q < 0 ∨ 999999999999999999 < q) → post (-1) σ) (hp : ∀ h l, h < 10 ^ 18 → l < 10 ^ 18 → p = lN h → q = lN l → ∀ σ' L' G', CI L' cx σ' (ptV V (G.1 0) (G.1 2) (G.1 3) (G.1 4) (G.1 5) (G.1 6) h l).2 G' → WF (ptV V (G.1 0) (G.1 2) (G.1 3) (G.1 4) (G.1 5) (G.1 6) h l).2 G' (n + 1) → AG mTag σ σ' → post (ptV V (G.1 0) (G.1 2) (G.1 3) (G.1 4) (G.1 5) (G.1 6) h l).1 σ') : wX7_put cx p q post σ := by
  have h2 := W.1.2.2.2.2.2.1
  have h4 := W.1.2.2.2.2.2.2.2.1
  have h20 := W.1.2.2.2.2.2.2.2.2.2.1
  unfold wX7_put
  refine c_half p (fun z => br_t rfl (hbad (Or.inl z))) (fun h hh eh => br_f (by decide) (c_half q (fun z => br_t rfl (hbad (Or.inr z))) (fun l hl el => br_f (by decide) ?_)))
  have hq := hp h l hh hl eh el
  clear hp hbad
  subst eh
  subst el
  have hh63 : h < 2 ^ 63 := Nat.lt_trans hh (by decide)
  have hl63 : l < 2 ^ 63 := Nat.lt_trans hl (by decide)
  have hd := dg_lt h 0 1
  have k2 : sK σ (L 0 2) = 5 := C.k.fix 2 (by decide)
  have r2 := C.f.2.2.1
  refine c_digitsH hh63 (lN l) 0 1 (by decide) (by decide) (by decide) ⟨C.k.1, nm_R r2 ⟨k2, c_allows C h2 hd (fun hy => br_f (by decide) ?_) (fun hno => br_t rfl ⟨C.k.1, nm_R r2 ⟨k2, x_end C (fun s C1 g1 => ?_)⟩⟩)⟩⟩
  rotate_left
  · rw [ptV_0 (by omega) (by omega) (by omega) (by omega) (by omega)] at hq
    exact hq s L _ C1 W.end'.le g1
  refine pk_eq (dg h 0 1) 1 (fun c => ?_) (fun c1 => ?_) (ha := by omega)
  · have c0 : G.1 2 = 0 := by omega
    rw [ptV_1 c c0] at hq
    refine ⟨C.k.1, fun r23 e23 => c_digitsH hh63 (lN l) 1 4 (by decide) (by decide) (by decide) (c_digitsH hh63 (lN l) 5 4 (by decide) (by decide) (by decide) ⟨L 0 2, e23.trans r2, k2, ?_⟩)⟩
    exact x_header C W (fun s G' C1 W1 g1 => hq s L G' C1 W1 g1)
  refine pk_eq (dg h 0 1) 5 (fun c => ⟨C.k.1, ?_⟩) (fun c5 => ?_) (ha := by omega)
  · have c0 : G.1 2 = 1 := by omega
    rw [ptV_5 c c0] at hq
    refine x_batch C W c0 hh63 (lN l) (fun z s C1 g1 => ?_) (fun z s C1 g1 => ?_)
    · rw [if_pos z] at hq
      exact hq s L _ C1 W.end'.le g1
    · rw [if_neg (by omega)] at hq
      exact hq s L _ C1 (W.batch c0 z h) g1
  refine pk_eq (dg h 0 1) 6 (fun c => ⟨C.k.1, ?_⟩) (fun c6 => ?_) (ha := by omega)
  · have c0 : G.1 2 = 2 := by omega
    rw [ptV_6 c c0] at hq
    refine x_entry C W c0 hh63 hl63 (fun z s C1 g1 => ?_) (fun z s q C1 g1 => ?_)
    · rw [if_pos z] at hq
      exact hq s L _ C1 W.end'.le g1
    · rw [if_neg (by omega)] at hq
      exact hq s _ _ C1 (W.ent c0 z h l) g1
  refine pk_eq (dg h 0 1) 8 (fun c => ⟨C.k.1, ?_⟩) (fun c8 => ⟨C.k.1, ?_⟩) (ha := by omega)
  · have c0 : G.1 2 = 2 := by omega
    rw [ptV_8 c c0] at hq
    exact x_control C W c0 hh63 hl63 (fun s C1 g1 => hq s L _ C1 (W.say' c0 h l) g1)
  · have c0 : G.1 2 = 1 := by omega
    rw [ptV_9 (by omega) c0] at hq
    have eff : ff (mS V 459 0) (G.1 0) (G.1 3) (G.1 4) (G.1 5) (G.1 6) h l = ff V (G.1 0) (G.1 3) (G.1 4) (G.1 5) (G.1 6) h l := rfl
    have egd : good (mS V 459 0) (G.1 0) (G.1 4) = good V (G.1 0) (G.1 4) := rfl
    rw [eff, egd] at hq
    refine x_endFile C W hn c0 hh63 hl63 (fun z s C1 g1 => ?_) (fun z s L' G' C1 W1 g1 => ?_)
    · rw [if_neg z] at hq
      exact hq s L _ C1 (W.rej _) g1
    · rw [if_pos z] at hq
      exact hq s L' G' C1 W1 g1
end PN
