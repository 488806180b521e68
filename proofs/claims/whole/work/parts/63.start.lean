/-! THE START, put together, and THE WHOLE -/
section STT
variable {σ σ' σ0 s : St} {o a1 q mx : Nat}
/-- the layout at the start -/
def lI (q1 q7 q13 q19 q25 a1 a5 : Nat) (B l T : Nat → Nat) : LY := fun t i => match t with
  | 0 => (match i with
    | 0 => q1
    | 1 => q7
    | 2 => q13
    | 3 => q19
    | 4 => q25
    | 5 => a1
    | _ => a5)
  | 1 => B i
  | 2 => l i
  | _ => T i
theorem i_class {post : St → Prop} (hp : ∀ s L, CI L q s V0 G0 → post s) : wX7_init q post (uN sZ q 8) := by
  have zz : Zr (uN sZ q 8) := Zr.uN ⟨fun _ _ _ => rfl, fun _ => rfl⟩
  unfold wX7_init
  intro q1 h1 s1 e1
  have n1 : q1 ≠ q := fun z => by rw [z, sK_uN, if_pos rfl] at h1; cases h1
  refine ⟨by rw [e1, sK_uN, if_pos rfl], by rw [e1, sI_uN, if_pos rfl], by decide, ?_⟩
  have k2 : ∀ a, sK (uT s1 q1 20) a = if a = q1 then 20 else if a = q then 8 else 0 := fun a => by
    rw [sK_uT, e1, sK_uN, sK_uN]
    by_cases h : a = q1
    · rw [if_pos h, if_pos h]
    · rw [if_neg h, if_neg h, if_neg h]; rfl
  have z2 : Zr (uT s1 q1 20) := by rw [e1]; exact zz.uN.uT
  refine ⟨by rw [k2, if_neg n1.symm, if_pos rfl], fun s3 e3 => ?_⟩
  have k3 : ∀ a, sK s3 a = if a = q1 then 20 else if a = q then 8 else 0 := fun a => by rw [e3]; exact k2 a
  have r3 : sR s3 400 q 0 = some q1 := by rw [e3, sR_uR, if_pos ⟨rfl, rfl, rfl⟩]
  have z3 : Zr s3 := by rw [e3]; exact z2.uR
  clear e1 e3 k2 z2 zz
  intro q7 h7 s4 e4
  have n71 : q7 ≠ q1 := fun z => by rw [k3, if_pos z] at h7; cases h7
  have n7q : q7 ≠ q := fun z => by rw [k3, if_neg n71, if_pos z] at h7; cases h7
  refine ⟨by rw [e4, sK_uN, if_pos rfl], by rw [e4, sI_uN, if_pos rfl], by decide, ?_⟩
  have k5 : ∀ a, sK (uT s4 q7 21) a = if a = q7 then 21 else if a = q1 then 20 else if a = q then 8 else 0 := fun a => by
    rw [sK_uT, e4, sK_uN, k3]
    by_cases h : a = q7
    · rw [if_pos h, if_pos h]
    · rw [if_neg h, if_neg h, if_neg h]
  have z5 : Zr (uT s4 q7 21) := by rw [e4]; exact z3.uN.uT
  have r5 : sR (uT s4 q7 21) 400 q 0 = some q1 := by rw [sR_uT, e4, sR_uN, if_neg n7q.symm]; exact r3
  refine ⟨by rw [k5, if_neg n7q.symm, if_neg n1.symm, if_pos rfl], fun s6 e6 => ?_⟩
  have k6 : ∀ a, sK s6 a = if a = q7 then 21 else if a = q1 then 20 else if a = q then 8 else 0 := fun a => by rw [e6]; exact k5 a
  have r6 : sR s6 400 q 0 = some q1 := by rw [e6, sR_uR, if_neg (fun z => absurd z.1 (by decide))]; exact r5
  have r61 : sR s6 401 q 0 = some q7 := by rw [e6, sR_uR, if_pos ⟨rfl, rfl, rfl⟩]
  have z6 : Zr s6 := by rw [e6]; exact z5.uR
  clear e4 e6 k5 z5 r5 k3 r3 z3
  intro f hf s7 e7
  have nf7 : f ≠ q7 := fun z => by rw [k6, if_pos z] at hf; cases hf
  have nf1 : f ≠ q1 := fun z => by rw [k6, if_neg nf7, if_pos z] at hf; cases hf
  have nfq : f ≠ q := fun z => by rw [k6, if_neg nf7, if_neg nf1, if_pos z] at hf; cases hf
  unfold wX4_init
  intro a ha s8 e8
  have k7 : ∀ x, sK s7 x = if x = f then 5 else if x = q7 then 21 else if x = q1 then 20 else if x = q then 8 else 0 := fun x => by rw [e7, sK_uN, k6]
  have naf : a ≠ f := fun z => by rw [k7, if_pos z] at ha; cases ha
  have na7 : a ≠ q7 := fun z => by rw [k7, if_neg naf, if_pos z] at ha; cases ha
  have na1 : a ≠ q1 := fun z => by rw [k7, if_neg naf, if_neg na7, if_pos z] at ha; cases ha
  have naq : a ≠ q := fun z => by rw [k7, if_neg naf, if_neg na7, if_neg na1, if_pos z] at ha; cases ha
  have k8 : ∀ x, sK s8 x = if x = a then 1250 else if x = f then 5 else if x = q7 then 21 else if x = q1 then 20 else if x = q then 8 else 0 := fun x => by rw [e8, sK_uN, k7]
  refine ⟨by rw [k8, if_neg naf.symm, if_pos rfl], fun s9 e9 => ?_⟩
  have k9 : ∀ x, sK s9 x = if x = a then 1250 else if x = f then 5 else if x = q7 then 21 else if x = q1 then 20 else if x = q then 8 else 0 := fun x => by rw [e9]; exact k8 x
  intro t ht s10 e10
  have nta : t ≠ a := fun z => by rw [k9, if_pos z] at ht; cases ht
  have ntf : t ≠ f := fun z => by rw [k9, if_neg nta, if_pos z] at ht; cases ht
  have nt7 : t ≠ q7 := fun z => by rw [k9, if_neg nta, if_neg ntf, if_pos z] at ht; cases ht
  have nt1 : t ≠ q1 := fun z => by rw [k9, if_neg nta, if_neg ntf, if_neg nt7, if_pos z] at ht; cases ht
  have ntq : t ≠ q := fun z => by rw [k9, if_neg nta, if_neg ntf, if_neg nt7, if_neg nt1, if_pos z] at ht; cases ht
  have k10 : ∀ x, sK s10 x = if x = t then 7 else if x = a then 1250 else if x = f then 5 else if x = q7 then 21 else if x = q1 then 20 else if x = q then 8 else 0 := fun x => by rw [e10, sK_uN, k9]
  unfold wX6_init
  refine ⟨by rw [k10, if_neg ntf.symm, if_neg naf.symm, if_pos rfl], fun s11 e11 => ?_⟩
  have k11 : ∀ x, sK s11 x = if x = t then 7 else if x = a then 1250 else if x = f then 5 else if x = q7 then 21 else if x = q1 then 20 else if x = q then 8 else 0 := fun x => by rw [e11]; exact k10 x
  have z11 : Zr s11 := by
    rw [e11, e10, e9, e8, e7]
    exact ((((z6.uN).uN).uR).uN).uR
  have kt : sK s11 t = 7 := by rw [k11, if_pos rfl]
  have ka : sK s11 a = 1250 := by rw [k11, if_neg nta.symm, if_pos rfl]
  have kf : sK s11 f = 5 := by rw [k11, if_neg ntf.symm, if_neg naf.symm, if_pos rfl]
  have kq7 : sK s11 q7 = 21 := by rw [k11, if_neg nt7.symm, if_neg na7.symm, if_neg nf7.symm, if_pos rfl]
  have kq1 : sK s11 q1 = 20 := by rw [k11, if_neg nt1.symm, if_neg na1.symm, if_neg nf1.symm, if_neg n71.symm, if_pos rfl]
  have kq : sK s11 q = 8 := by rw [k11, if_neg ntq.symm, if_neg naq.symm, if_neg nfq.symm, if_neg n7q.symm, if_neg n1.symm, if_pos rfl]
  have rr : ∀ g, g ≠ 250 → g ≠ 251 → sR s11 g q 0 = sR s6 g q 0 := fun g g0 g1 => by
    rw [e11, sR_uR, if_neg (fun z => g1 z.1), e10, sR_uN, if_neg ntq.symm, e9, sR_uR, if_neg (fun z => g0 z.1), e8, sR_uN, if_neg naq.symm, e7, sR_uN, if_neg nfq.symm]
  have r400 : sR s11 400 q 0 = some q1 := (rr 400 (by decide) (by decide)).trans r6
  have r401 : sR s11 401 q 0 = some q7 := (rr 401 (by decide) (by decide)).trans r61
  have r250 : sR s11 250 f 0 = some a := by rw [e11, sR_uR, if_neg (fun z => absurd z.1 (by decide)), e10, sR_uN, if_neg ntf.symm, e9, sR_uR, if_pos ⟨rfl, rfl, rfl⟩]
  have r251 : sR s11 251 f 0 = some t := by rw [e11, sR_uR, if_pos ⟨rfl, rfl, rfl⟩]
  clear e7 e8 e9 e10 e11 k6 k7 k8 k9 k10 k11 rr r6 r61 z6
  refine ⟨5, by decide, i_loop (σ0 := s11) (a1 := a) kf ka r250 (fun s B l T H => ?_) 4 0 s11 (fun _ => 0) (fun _ => 0) (fun _ => 0) rfl ⟨z11, fun _ _ => rfl, fun _ _ _ _ _ _ => rfl, fun k hk => absurd hk (Nat.not_lt_zero k), fun k k' hk => absurd hk (Nat.not_lt_zero k)⟩⟩
  obtain ⟨z, m1, p1, b1, j1⟩ := H
  have mq : sK s q = 8 := by rw [m1 q (by rw [kq]; decide)]; exact kq
  have mf : sK s f = 5 := by rw [m1 f (by rw [kf]; decide)]; exact kf
  have ma : sK s a = 1250 := by rw [m1 a (by rw [ka]; decide)]; exact ka
  have mt : sK s t = 7 := by rw [m1 t (by rw [kt]; decide)]; exact kt
  have m7 : sK s q7 = 21 := by rw [m1 q7 (by rw [kq7]; decide)]; exact kq7
  have m1' : sK s q1 = 20 := by rw [m1 q1 (by rw [kq1]; decide)]; exact kq1
  have p400 : sR s 400 q 0 = some q1 := by rw [p1 400 q 0 (by rw [kq]; decide) (fun z => absurd z.1 (by decide)) (by decide)]; exact r400
  have p401 : sR s 401 q 0 = some q7 := by rw [p1 401 q 0 (by rw [kq]; decide) (fun z => absurd z.1 (by decide)) (by decide)]; exact r401
  have p250 : sR s 250 f 0 = some a := by rw [p1 250 f 0 (by rw [kf]; decide) (fun z => absurd z.1 (by decide)) (by decide)]; exact r250
  have p251 : sR s 251 f 0 = some t := by rw [p1 251 f 0 (by rw [kf]; decide) (fun z => absurd z.1 (by decide)) (by decide)]; exact r251
  refine ⟨mq, fun s13 e13 => ?_⟩
  intro q19 h19 s14 e14
  have k13 : sK s13 = sK s := by rw [e13]; rfl
  rw [k13] at h19
  have nz : ∀ x, sK s x ≠ 0 → x ≠ q19 := fun x hx z => hx (by rw [z]; exact h19)
  have k14 : ∀ x, sK s14 x = if x = q19 then 1403 else sK s x := fun x => by rw [e14, sK_uN, k13]
  have k14o : ∀ x, sK s x ≠ 0 → sK s14 x = sK s x := fun x hx => by rw [k14, if_neg (nz x hx)]
  refine ⟨by rw [k14o q (by rw [mq]; decide)]; exact mq, fun s15 e15 => ?_⟩
  have k15 : sK s15 = sK s14 := by rw [e15]; rfl
  refine ⟨by rw [k15, k14o q (by rw [mq]; decide)]; exact mq, fun s16 e16 => ?_⟩
  have k16 : sK s16 = sK s14 := by rw [e16]; exact k15
  intro q25 h25 s17 e17
  rw [k16] at h25
  have n2519 : q25 ≠ q19 := fun z => by rw [k14, if_pos z] at h25; cases h25
  have h25s : sK s q25 = 0 := by rw [k14, if_neg n2519] at h25; exact h25
  have nz2 : ∀ x, sK s x ≠ 0 → x ≠ q25 := fun x hx z => hx (by rw [z]; exact h25s)
  have k17 : ∀ x, sK s17 x = if x = q25 then 1405 else sK s14 x := fun x => by rw [e17, sK_uN, k16]
  have k17o : ∀ x, sK s x ≠ 0 → sK s17 x = sK s x := fun x hx => by rw [k17, if_neg (nz2 x hx), k14o x hx]
  have kq17 : sK s17 q = 8 := by rw [k17o q (by rw [mq]; decide)]; exact mq
  refine ⟨kq17, fun s18 e18 => ⟨by rw [e18]; exact kq17, fun s19 e19 => ?_⟩⟩
  have k19 : sK s19 = sK s17 := by rw [e19, e18]; rfl
  have z19 : Zr s19 := by
    rw [e19, e18, e17, e16, e15, e14, e13]
    exact ((((((((z.uR).uR).uN).uR).uI).uN).uR).uI)
  have R19 : ∀ g x j, sK s x ≠ 0 → g ≠ 252 → g ≠ 402 → g ≠ 403 → g ≠ 405 → sR s19 g x j = sR s g x j := fun g x j hx g1 g2 g3 g4 => by
    rw [e19, sR_uI, e18, sR_uR, if_neg (fun z => g4 z.1), e17, sR_uN, if_neg (nz2 x hx), e16, sR_uI, e15, sR_uR, if_neg (fun z => g3 z.1), e14, sR_uN, if_neg (nz x hx), e13, sR_uR, if_neg (fun z => g2 z.1), sR_uR, if_neg (fun z => g1 z.1)]
  have nq25 : q ≠ q25 := nz2 q (by rw [mq]; decide)
  have nq19 : q ≠ q19 := nz q (by rw [mq]; decide)
  have r402 : sR s19 402 q 0 = some f := by
    rw [e19, sR_uI, e18, sR_uR, if_neg (fun z => absurd z.1 (by decide)), e17, sR_uN, if_neg nq25, e16, sR_uI, e15, sR_uR, if_neg (fun z => absurd z.1 (by decide)), e14, sR_uN, if_neg nq19, e13, sR_uR, if_pos ⟨rfl, rfl, rfl⟩]
  have r403 : sR s19 403 q 0 = some q19 := by
    rw [e19, sR_uI, e18, sR_uR, if_neg (fun z => absurd z.1 (by decide)), e17, sR_uN, if_neg nq25, e16, sR_uI, e15, sR_uR, if_pos ⟨rfl, rfl, rfl⟩]
  have r405 : sR s19 405 q 0 = some q25 := by
    rw [e19, sR_uI, e18, sR_uR, if_pos ⟨rfl, rfl, rfl⟩]
  clear e13 e14 e15 e16 e17 e18 e19
  have ko : ∀ x, sK s x ≠ 0 → sK s19 x = sK s x := fun x hx => by rw [k19, k17o x hx]
  have K19 : sK s19 q19 = 1403 := by rw [k19, k17, if_neg n2519.symm, k14, if_pos rfl]
  have K25 : sK s19 q25 = 1405 := by rw [k19, k17, if_pos rfl]
  have kB : ∀ k, k < 4 → sK s19 (B k) = 3 ∧ sK s19 (l k) = 22 ∧ sK s19 (T k) = 7 := fun k hk => by
    obtain ⟨⟨c1, c2, c3⟩, _⟩ := b1 k hk
    exact ⟨(ko _ (by rw [c1]; decide)).trans c1, (ko _ (by rw [c2]; decide)).trans c2, (ko _ (by rw [c3]; decide)).trans c3⟩
  have nTt : ∀ k, k < 4 → T k ≠ t := fun k hk z => by
    have := (b1 k hk).2.2.2.2
    rw [z, kt] at this
    cases this
  have K1 : sK s19 q1 = 20 := (ko _ (by rw [m1']; decide)).trans m1'
  have K7 : sK s19 q7 = 21 := (ko _ (by rw [m7]; decide)).trans m7
  have Kf : sK s19 f = 5 := (ko _ (by rw [mf]; decide)).trans mf
  have Ka : sK s19 a = 1250 := (ko _ (by rw [ma]; decide)).trans ma
  have Kt : sK s19 t = 7 := (ko _ (by rw [mt]; decide)).trans mt
  have Kq : sK s19 q = 8 := (ko _ (by rw [mq]; decide)).trans mq
  have i7 : ∀ i, i < 7 → i = 0 ∨ i = 1 ∨ i = 2 ∨ i = 3 ∨ i = 4 ∨ i = 5 ∨ i = 6 := fun i hi => by omega
  have cs : ∀ t' i, i < cnt G0 t' → (t' = 0 ∧ i < 7) ∨ (t' = 1 ∧ i < 4) ∨ (t' = 2 ∧ i < 4) ∨ (t' = 3 ∧ i < 4) := fun t' i hi => by
    match t', hi with
    | 0, hi => exact Or.inl ⟨rfl, hi⟩
    | 1, hi => exact Or.inr (Or.inl ⟨rfl, hi⟩)
    | 2, hi => exact Or.inr (Or.inr (Or.inl ⟨rfl, hi⟩))
    | 3, hi => exact Or.inr (Or.inr (Or.inr ⟨rfl, hi⟩))
    | 4, hi => exact absurd hi (Nat.not_lt_zero i)
    | 5, hi => exact absurd hi (Nat.not_lt_zero i)
    | 6, hi => exact absurd hi (Nat.not_lt_zero i)
    | 7, hi => exact absurd hi (Nat.not_lt_zero i)
    | 8, hi => exact absurd hi (Nat.not_lt_zero i)
    | 9, hi => exact absurd hi (Nat.not_lt_zero i)
    | 10, hi => exact absurd hi (Nat.not_lt_zero i)
    | 11, hi => exact absurd hi (Nat.not_lt_zero i)
    | 12, hi => exact absurd hi (Nat.not_lt_zero i)
    | _ + 13, hi => exact absurd hi (Nat.not_lt_zero i)
  have kinds : ∀ t' i, i < cnt G0 t' → sK s19 (lI q1 q7 f q19 q25 a t B l T t' i) = kd t' i := fun t' i hi => by
    rcases cs t' i hi with ⟨e, h⟩ | ⟨e, h⟩ | ⟨e, h⟩ | ⟨e, h⟩ <;> subst e
    · rcases i7 i h with e | e | e | e | e | e | e <;> subst e
      · exact K1
      · exact K7
      · exact Kf
      · exact K19
      · exact K25
      · exact Ka
      · exact Kt
    · exact (kB i h).1
    · exact (kB i h).2.1
    · exact (kB i h).2.2
  refine hp s19 (lI q1 q7 f q19 q25 a t B l T) ⟨⟨Kq, kinds, fun t' i t'' i' hi hi' he => ?_⟩, ?_, ⟨z19.2 _, fun b hb => absurd hb (Nat.not_lt_zero b)⟩, fun b hb => absurd hb (Nat.not_lt_zero b), ⟨z19.2 _, fun b hb => absurd hb (Nat.not_lt_zero b)⟩, fun b hb => absurd hb (Nat.not_lt_zero b), fun b hb => absurd hb (Nat.not_lt_zero b), z19.1 _ _ _, ⟨(z19.1 _ _ _).trans nI_0.symm, fun b hb => absurd hb (Nat.not_lt_zero b)⟩, fun k hk => ⟨fun _ => z19.1 _ _ _, fun _ => z19.1 _ _ _⟩, ⟨fun _ => z19.1 _ _ _, fun z => absurd rfl z⟩, fun z => absurd rfl z, fun b hb => absurd hb (Nat.not_lt_zero b), fun b hb => absurd hb (Nat.not_lt_zero b), fun b hb => absurd hb (Nat.not_lt_zero b), fun b hb => absurd hb (Nat.not_lt_zero b), fun b hb => absurd hb (Nat.not_lt_zero b)⟩
  · have hkd : kd t' i = kd t'' i' := by rw [← kinds t' i hi, ← kinds t'' i' hi', he]
    rcases cs t' i hi with ⟨e, h⟩ | ⟨e, h⟩ | ⟨e, h⟩ | ⟨e, h⟩ <;> subst e <;> rcases cs t'' i' hi' with ⟨e, h'⟩ | ⟨e, h'⟩ | ⟨e, h'⟩ | ⟨e, h'⟩ <;> subst e
    · rcases i7 i h with e | e | e | e | e | e | e <;> subst e <;> rcases i7 i' h' with e | e | e | e | e | e | e <;> subst e <;> first | exact ⟨rfl, rfl⟩ | exact absurd hkd (by decide)
    · rcases i7 i h with e | e | e | e | e | e | e <;> subst e <;> exact absurd hkd (by show ¬ _ = 3; decide)
    · rcases i7 i h with e | e | e | e | e | e | e <;> subst e <;> exact absurd hkd (by show ¬ _ = 22; decide)
    · rcases i7 i h with e | e | e | e | e | e | e <;> subst e <;> first | exact absurd hkd (by show ¬ _ = 7; decide) | exact absurd he.symm (nTt i' h')
    · rcases i7 i' h' with e | e | e | e | e | e | e <;> subst e <;> exact absurd hkd (by show ¬ 3 = _; decide)
    · exact ⟨rfl, (j1 i i' h h').1 he⟩
    · exact absurd hkd (by show ¬ 3 = 22; decide)
    · exact absurd hkd (by show ¬ 3 = 7; decide)
    · rcases i7 i' h' with e | e | e | e | e | e | e <;> subst e <;> exact absurd hkd (by show ¬ 22 = _; decide)
    · exact absurd hkd (by show ¬ 22 = 3; decide)
    · exact ⟨rfl, (j1 i i' h h').2.1 he⟩
    · exact absurd hkd (by show ¬ 22 = 7; decide)
    · rcases i7 i' h' with e | e | e | e | e | e | e <;> subst e <;> first | exact absurd hkd (by show ¬ 7 = _; decide) | exact absurd he (nTt i h)
    · exact absurd hkd (by show ¬ 7 = 3; decide)
    · exact absurd hkd (by show ¬ 7 = 22; decide)
    · exact ⟨rfl, (j1 i i' h h').2.2 he⟩
  · have sq : sK s q ≠ 0 := by rw [mq]; decide
    have sf : sK s f ≠ 0 := by rw [mf]; decide
    have sa : sK s a ≠ 0 := by rw [ma]; decide
    refine ⟨?_, ?_, r402, r403, r405, ?_, ?_, fun k hk => ⟨?_, ?_, ?_⟩⟩
    · rw [R19 400 q 0 sq (by decide) (by decide) (by decide) (by decide)]; exact p400
    · rw [R19 401 q 0 sq (by decide) (by decide) (by decide) (by decide)]; exact p401
    · exact (R19 250 f 0 sf (by decide) (by decide) (by decide) (by decide)).trans p250
    · exact (R19 251 f 0 sf (by decide) (by decide) (by decide) (by decide)).trans p251
    · exact (R19 1250 a k sa (by decide) (by decide) (by decide) (by decide)).trans (b1 k hk).2.1.1
    · exact (R19 150 (B k) 0 (by rw [(b1 k hk).1.1]; decide) (by decide) (by decide) (by decide) (by decide)).trans (b1 k hk).2.1.2.1
    · exact (R19 151 (B k) 0 (by rw [(b1 k hk).1.1]; decide) (by decide) (by decide) (by decide) (by decide)).trans (b1 k hk).2.1.2.2
theorem h_init (q : Nat) : wX7_init q (fun σ1 => ∀ q', sK σ1 q' = 0 → wX8_init q' (Inv q q' 0) (uN σ1 q' 9)) (uN sZ q 8) := by
  refine i_class (fun s L C q' hq' => m_init (by rw [sK_uN, if_pos rfl]) (fun f => by rw [sI_uN, if_pos rfl]) (fun A s' M g => ⟨A, V0, G0, L, M, WF.zero, ?_⟩))
  have g0 : AG oTag s (uN s q' 9) := AG.rfl'.uN (fun z => z hq')
  exact (C.ag g0 (fun t ht => Nat.ne_of_gt ht.1) (Nat.zero_le _) (fun z => absurd z (by show ¬ 0 = 2; decide))).ag g (fun t h => h) (Nat.zero_le _) (fun z => absurd z (by show ¬ 0 = 2; decide))
theorem h_step (cx mx n : Nat) (σ : St) (hn : n < 64) (I : Inv cx mx n σ) : sK σ cx = 8 ∧ ∀ x1 x2 x3 x4, lawW cx mx (Inv cx mx (n + 1)) x1 x2 x3 x4 σ := by
  have I2 := I
  obtain ⟨A, V, G, L, M, W, C⟩ := I2
  exact ⟨C.k.1, fun x1 x2 x3 x4 => ⟨h_join I, h_open I, h_shut I, h_day I, h_put hn I, h_window hn I, h_post hn I, h_items I, h_item hn I, h_control hn I, h_balance I, h_ledger I, h_rejected I, h_waiting hn I, A, V, G, L, M, W.le, C⟩⟩
end STT
