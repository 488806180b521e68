/-! PUT: what changes the file under way alone -/
/-- σ' is as σ but at some cells -/
def AX (M : Nat → Prop) (σ σ' : St) : Prop := ∀ a, ¬ M a → sK σ' a = sK σ a ∧ (∀ f i, sI σ' f a i = sI σ f a i) ∧ (∀ f i, sJ σ' f a i = sJ σ f a i) ∧ (∀ f i, sR σ' f a i = sR σ f a i) ∧ sL σ' a = sL σ a
theorem AX.rfl' {M : Nat → Prop} {σ : St} : AX M σ σ := fun _ _ => ⟨rfl, fun _ _ => rfl, fun _ _ => rfl, fun _ _ => rfl, rfl⟩
theorem AX.trans {M : Nat → Prop} {σ σ' σ'' : St} (h : AX M σ σ') (h' : AX M σ' σ'') : AX M σ σ'' := fun a ha => by
  obtain ⟨h1, h2, h3, h4, h5⟩ := h a ha
  obtain ⟨k1, k2, k3, k4, k5⟩ := h' a ha
  exact ⟨k1.trans h1, fun f i => (k2 f i).trans (h2 f i), fun f i => (k3 f i).trans (h3 f i), fun f i => (k4 f i).trans (h4 f i), k5.trans h5⟩
theorem AX.mono {M M' : Nat → Prop} {σ σ' : St} (h : AX M σ σ') (hm : ∀ a, M a → M' a) : AX M' σ σ' := fun a ha => h a (fun z => ha (hm a z))
theorem AX.uI {M : Nat → Prop} {σ σ' : St} (h : AX M σ σ') {f a i : Nat} {v : Int32} (ha : M a) : AX M σ (uI σ' f a i v) := fun b hb => by
  obtain ⟨h1, h2, h3, h4, h5⟩ := h b hb
  refine ⟨h1, fun g j => ?_, h3, h4, h5⟩
  rw [sI_uI, if_neg (fun z => hb (by rw [z.2.1]; exact ha))]
  exact h2 g j
theorem AX.uJ {M : Nat → Prop} {σ σ' : St} (h : AX M σ σ') {f a i : Nat} {v : Int64} (ha : M a) : AX M σ (uJ σ' f a i v) := fun b hb => by
  obtain ⟨h1, h2, h3, h4, h5⟩ := h b hb
  refine ⟨h1, h2, fun g j => ?_, h4, h5⟩
  rw [sJ_uJ, if_neg (fun z => hb (by rw [z.2.1]; exact ha))]
  exact h3 g j
theorem AX.uR {M : Nat → Prop} {σ σ' : St} (h : AX M σ σ') {f a i : Nat} {v : Option Nat} (ha : M a) : AX M σ (uR σ' f a i v) := fun b hb => by
  obtain ⟨h1, h2, h3, h4, h5⟩ := h b hb
  refine ⟨h1, h2, h3, fun g j => ?_, h5⟩
  rw [sR_uR, if_neg (fun z => hb (by rw [z.2.1]; exact ha))]
  exact h4 g j
theorem AX.uL {M : Nat → Prop} {σ σ' : St} (h : AX M σ σ') {a : Nat} {v : List Nat} (ha : M a) : AX M σ (uL σ' a v) := fun b hb => by
  obtain ⟨h1, h2, h3, h4, h5⟩ := h b hb
  refine ⟨h1, h2, h3, h4, ?_⟩
  rw [sL_uL, if_neg (fun z => hb (by rw [z]; exact ha))]
  exact h5
theorem AX.toAG {M P : Nat → Prop} {σ σ' : St} (h : AX M σ σ') (hm : ∀ a, M a → ¬ P (sK σ a)) : AG P σ σ' := fun a ha => h a (fun z => hm a z ha)
/-- one cell's longs alone have changed -/
def JX (a : Nat) (σ σ' : St) : Prop := sK σ' = sK σ ∧ sI σ' = sI σ ∧ sR σ' = sR σ ∧ sL σ' = sL σ ∧ ∀ f b j, b ≠ a → sJ σ' f b j = sJ σ f b j
theorem JX.ax {a : Nat} {σ σ' : St} (h : JX a σ σ') {M : Nat → Prop} (hm : M a) : AX M σ σ' := fun b hb => by
  obtain ⟨h1, h2, h3, h4, h5⟩ := h
  rw [h1, h2, h3, h4]
  exact ⟨rfl, fun _ _ => rfl, fun f i => h5 f b i (fun z => hb (by rw [z]; exact hm)), fun _ _ => rfl, rfl⟩
theorem JX.rfl' {a : Nat} {σ : St} : JX a σ σ := ⟨rfl, rfl, rfl, rfl, fun _ _ _ _ => rfl⟩
theorem JX.uJ {a : Nat} {σ σ' : St} (h : JX a σ σ') {f i : Nat} {v : Int64} : JX a σ (uJ σ' f a i v) := by
  obtain ⟨h1, h2, h3, h4, h5⟩ := h
  refine ⟨h1, h2, h3, h4, fun g b j hb => ?_⟩
  rw [sJ_uJ, if_neg (fun z => hb z.2.1)]
  exact h5 g b j hb
theorem x_clear {σ : St} {post : St → Prop} {a : Nat} (hk : sK σ a = 7) (hp : ∀ σ', JX a σ σ' → TT σ' a (fun _ => 0) → post σ') : wX6_clear a post σ := by
  unfold wX6_clear
  refine ⟨hk, fun s e => ?_⟩
  subst e
  refine ⟨hk, fun s e => ?_⟩
  subst e
  refine ⟨hk, fun s e => ?_⟩
  subst e
  refine ⟨hk, fun s e => ?_⟩
  subst e
  refine hp _ (((JX.rfl'.uJ).uJ).uJ).uJ ?_
  refine ⟨?_, ?_, ?_, ?_⟩ <;> simp [sJ_uJ]
/-- what an entry's cell adds to totals -/
def pt (σ : St) (e w : Nat) : Int64 := if w = 0 then 1 else if w = 1 then (sI σ 201 e 0).toInt64 else if w = 2 ∧ sI σ 200 e 0 = 7 then (sI σ 203 e 0).toInt64 else if w = 3 ∧ sI σ 200 e 0 = 2 then (sI σ 203 e 0).toInt64 else 0
theorem pt_0 (σ : St) (e : Nat) : pt σ e 0 = 1 := if_pos rfl
theorem pt_1 (σ : St) (e : Nat) : pt σ e 1 = (sI σ 201 e 0).toInt64 := (if_neg (by decide)).trans (if_pos rfl)
theorem pt_2 (σ : St) (e : Nat) : pt σ e 2 = if sI σ 200 e 0 = 7 then (sI σ 203 e 0).toInt64 else 0 := by
  unfold pt
  rw [if_neg (by decide), if_neg (by decide)]
  by_cases h : sI σ 200 e 0 = 7
  · rw [if_pos ⟨rfl, h⟩, if_pos h]
  · rw [if_neg (fun z => h z.2), if_neg (by intro z; exact absurd z.1 (by decide)), if_neg h]
theorem pt_3 (σ : St) (e : Nat) : pt σ e 3 = if sI σ 200 e 0 = 2 then (sI σ 203 e 0).toInt64 else 0 := by
  unfold pt
  rw [if_neg (by decide), if_neg (by decide), if_neg (by intro z; exact absurd z.1 (by decide))]
  by_cases h : sI σ 200 e 0 = 2
  · rw [if_pos ⟨rfl, h⟩, if_pos h]
  · rw [if_neg (fun z => h z.2), if_neg h]
/-- one step on a totals cell -/
theorem x_step {σ0 σ σ' : St} {a f : Nat} {v : Int64} (h : JX a σ0 σ) (e : σ' = uJ σ f a 0 v) : JX a σ0 σ' ∧ sJ σ' f a 0 = v ∧ ∀ g, g ≠ f → sJ σ' g a 0 = sJ σ g a 0 := by
  subst e
  refine ⟨h.uJ, by rw [sJ_uJ, if_pos ⟨rfl, rfl, rfl⟩], fun g hg => ?_⟩
  rw [sJ_uJ, if_neg (fun z => hg z.1)]
theorem x_add {σ : St} {post : St → Prop} {a e : Nat} {s : Nat → Int64} (hk : sK σ a = 7) (he : sK σ e = 4) (ht : TT σ a s) (hp : ∀ σ', JX a σ σ' → TT σ' a (fun w => s w + pt σ e w) → post σ') : wX6_add a (some e) post σ := by
  obtain ⟨t0, t1, t2, t3⟩ := ht
  unfold wX6_add
  refine ⟨hk, hk, fun s1 e1 => ?_⟩
  obtain ⟨j1, v1, o1⟩ := x_step JX.rfl' e1
  clear e1
  refine ⟨by rw [j1.1]; exact hk, e, rfl, by rw [j1.1]; exact he, by rw [j1.1]; exact hk, fun s2 e2 => ?_⟩
  obtain ⟨j2, v2, o2⟩ := x_step j1 e2
  clear e2
  have hk2 : sK s2 a = 7 := by rw [j2.1]; exact hk
  have he2 : sK s2 e = 4 := by rw [j2.1]; exact he
  have u0 : sJ s2 350 a 0 = s 0 + pt σ e 0 := by
    rw [o2 350 (by decide), v1, t0, pt_0]
  have u1 : sJ s2 351 a 0 = s 1 + pt σ e 1 := by
    rw [v2, j1.2.1, o1 351 (by decide), t1, pt_1]
  have u2 : sJ s2 352 a 0 = s 2 := by
    rw [o2 352 (by decide), o1 352 (by decide), t2]
  have u3 : sJ s2 353 a 0 = s 3 := by
    rw [o2 353 (by decide), o1 353 (by decide), t3]
  refine ⟨he2, ?_⟩
  rw [j2.2.1]
  by_cases c7 : sI σ 200 e 0 = 7
  · refine br_t c7 ⟨hk2, he2, hk2, fun s3 e3 => ?_⟩
    obtain ⟨j3, v3, o3⟩ := x_step j2 e3
    have c2 : ¬ sI σ 200 e 0 = 2 := fun z => by rw [c7] at z; exact absurd z (by decide)
    refine hp _ j3 ⟨?_, ?_, ?_, ?_⟩
    · exact (o3 350 (by decide)).trans u0
    · exact (o3 351 (by decide)).trans u1
    · show _ = s 2 + pt σ e 2
      rw [v3, u2, pt_2, if_pos c7]
    · show _ = s 3 + pt σ e 3
      rw [o3 353 (by decide), u3, pt_3, if_neg c2, Int64.add_zero]
  · refine br_f c7 ⟨he2, ?_⟩
    by_cases c2 : sI σ 200 e 0 = 2
    · refine br_t c2 ⟨hk2, he2, hk2, fun s3 e3 => ?_⟩
      obtain ⟨j3, v3, o3⟩ := x_step j2 e3
      refine hp _ j3 ⟨?_, ?_, ?_, ?_⟩
      · exact (o3 350 (by decide)).trans u0
      · exact (o3 351 (by decide)).trans u1
      · show _ = s 2 + pt σ e 2
        rw [o3 352 (by decide), u2, pt_2, if_neg c7, Int64.add_zero]
      · show _ = s 3 + pt σ e 3
        rw [v3, u3, pt_3, if_pos c2]
    · refine br_f c2 (hp _ j2 ⟨u0, u1, ?_, ?_⟩)
      · show _ = s 2 + pt σ e 2
        rw [u2, pt_2, if_neg c7, Int64.add_zero]
      · show _ = s 3 + pt σ e 3
        rw [u3, pt_3, if_neg c2, Int64.add_zero]
/-- the outside of the file under way -/
def OC (L : LY) (cx : Nat) (σ : St) (V : MV) (G : GH) : Prop := cB L σ V G ∧ cL L σ V G ∧ cA L σ V G ∧ cAb L σ V G ∧ cAs L σ V G ∧ cS cx σ V ∧ cN L cx σ V G ∧ cT L σ V ∧ cR L σ V G ∧ cRr L σ V G ∧ cW L σ V G ∧ cO L σ V G ∧ cD L σ G
/-- the cells of the file under way, but its entries -/
def fM (L : LY) (a : Nat) : Prop := ∃ t i, ((t = 0 ∧ (i = 2 ∨ i = 6)) ∨ ((t = 1 ∨ t = 2 ∨ t = 3) ∧ i < 4)) ∧ a = L t i
section PA
variable {L : LY} {cx mx : Nat} {σ σ' : St} {V : MV} {G : GH} {n : Nat}
theorem CI.oc (C : CI L cx σ V G) : OC L cx σ V G := ⟨C.b, C.l, C.a, C.ab, C.as, C.s, C.n, C.t, C.r, C.rr, C.w, C.o, C.d⟩
theorem fM.at' (C : cK L cx σ G) {a : Nat} (h : fM L a) : ∃ t i, i < cnt G t ∧ ((t = 0 ∧ (i = 2 ∨ i = 6)) ∨ ((t = 1 ∨ t = 2 ∨ t = 3) ∧ i < 4)) ∧ a = L t i := by
  obtain ⟨t, i, h1, h2⟩ := h
  refine ⟨t, i, ?_, h1, h2⟩
  rcases h1 with ⟨e, e2⟩ | ⟨e | e | e, e2⟩ <;> subst e
  · show i < 7; omega
  · exact e2
  · exact e2
  · exact e2
theorem fM.not (C : cK L cx σ G) {t i : Nat} (hi : i < cnt G t) (h : ¬ ((t = 0 ∧ (i = 2 ∨ i = 6)) ∨ ((t = 1 ∨ t = 2 ∨ t = 3) ∧ i < 4))) : ¬ fM L (L t i) := fun z => by
  obtain ⟨t', i', h1, h2, h3⟩ := fM.at' C z
  obtain ⟨e1, e2⟩ := C.2.2 t i t' i' hi h1 h3
  subst e1
  subst e2
  exact h h2
theorem fM.ncx (C : cK L cx σ G) : ¬ fM L cx := fun z => by
  obtain ⟨t', i', h1, h2, h3⟩ := fM.at' C z
  have := C.knd t' i' h1
  rw [← h3, C.1] at this
  rcases h2 with ⟨e, e2 | e2⟩ | ⟨e | e | e, e2⟩ <;> subst e
  · subst e2; exact absurd this (by decide)
  · subst e2; exact absurd this (by decide)
  · exact absurd this (by show ¬ 8 = 3; decide)
  · exact absurd this (by show ¬ 8 = 22; decide)
  · exact absurd this (by show ¬ 8 = 7; decide)
theorem fM.notM (C : cK L cx σ G) {a : Nat} (h : fM L a) : ¬ mTag (sK σ a) := by
  obtain ⟨t, i, h1, h2, h3⟩ := fM.at' C h
  rw [h3, C.knd t i h1]
  exact (kd_c t i).2
theorem OC.ax (C : cK L cx σ G) (h : OC L cx σ V G) (g : AX (fM L) σ σ') : OC L cx σ' V G := by
  obtain ⟨a1, a2, a3, a4, a5, a6, a7, a8, a9, a10, a11, a12, a13⟩ := h
  have k : ∀ t i, i < cnt G t → ¬ ((t = 0 ∧ (i = 2 ∨ i = 6)) ∨ ((t = 1 ∨ t = 2 ∨ t = 3) ∧ i < 4)) → _ := fun t i hi hn => g (L t i) (fM.not C hi hn)
  have kx := g cx (fM.ncx C)
  have hI : ∀ t i, 4 ≤ t → i < cnt G t → ∀ f j, sI σ' f (L t i) j = sI σ f (L t i) j := fun t i ht hi => (k t i hi (by omega)).2.1
  have hJ : ∀ t i, 4 ≤ t → i < cnt G t → ∀ f j, sJ σ' f (L t i) j = sJ σ f (L t i) j := fun t i ht hi => (k t i hi (by omega)).2.2.1
  have hR : ∀ t i, 4 ≤ t → i < cnt G t → ∀ f j, sR σ' f (L t i) j = sR σ f (L t i) j := fun t i ht hi => (k t i hi (by omega)).2.2.2.1
  have hL : ∀ t i, 4 ≤ t → i < cnt G t → sL σ' (L t i) = sL σ (L t i) := fun t i ht hi => (k t i hi (by omega)).2.2.2.2
  have c0 : ∀ i, i < 7 → i < cnt G 0 := fun i hi => hi
  refine ⟨⟨?_, fun b hb => ?_⟩, fun b hb => ?_, ⟨?_, fun i hi => ?_⟩, fun i hi => ?_, fun i hi => ?_, ?_, ⟨?_, fun f hf => ?_⟩, fun j hj => ?_, fun r hr => ?_, fun r hr => ?_, fun b hb => ?_, fun b hb => ?_, fun b hb => ?_⟩
  · rw [(k 0 0 (c0 0 (by omega)) (by omega)).2.2.2.2]; exact a1.1
  · rw [hI 4 b (by omega) hb, hI 4 b (by omega) hb, hR 4 b (by omega) hb, hR 4 b (by omega) hb, hR 4 b (by omega) hb, hR 7 b (by omega) hb, hR 7 b (by omega) hb]
    exact a1.2 b hb
  · rw [hJ 4 b (by omega) hb]; exact a2 b hb
  · rw [(k 0 1 (c0 1 (by omega)) (by omega)).2.2.2.2]; exact a3.1
  · rw [hR 10 i (by omega) hi, hI 10 i (by omega) hi]; exact a3.2 i hi
  · rw [hJ 10 i (by omega) hi]; exact a4 i hi
  · rw [hI 10 i (by omega) hi]; exact a5 i hi
  · unfold cS; rw [kx.2.1]; exact a6
  · rw [kx.2.1]; exact a7.1
  · rw [(k 0 3 (c0 3 (by omega)) (by omega)).2.1]; exact a7.2 f hf
  · rw [(k 0 4 (c0 4 (by omega)) (by omega)).2.1]; exact a8 j hj
  · rw [hI 11 r (by omega) hr, hI 11 r (by omega) hr, hI 11 r (by omega) hr, hI 11 r (by omega) hr, hI 11 r (by omega) hr, hI 11 r (by omega) hr, hR 11 r (by omega) hr, hR 11 r (by omega) hr]
    exact a9 r hr
  · rw [hI 11 r (by omega) hr]; exact a10 r hr
  · rw [hL 5 b (by omega) hb, hL 6 b (by omega) hb]; exact a11 b hb
  · unfold TT
    rw [hL 8 b (by omega) hb, hI 7 b (by omega) hb, hJ 9 b (by omega) hb, hJ 9 b (by omega) hb, hJ 9 b (by omega) hb, hJ 9 b (by omega) hb]
    exact a12 b hb
  · rw [hI 7 b (by omega) hb]; exact a13 b hb
/-- put together again -/
theorem CI.mk' {V' : MV} {G' : GH} (k : cK L cx σ G') (f : cF L cx σ) (o : OC L cx σ V' G') (g : cG L σ G') (e : cE L σ V' G') : CI L cx σ V' G' := by
  obtain ⟨a1, a2, a3, a4, a5, a6, a7, a8, a9, a10, a11, a12, a13⟩ := o
  exact ⟨k, f, a1, a2, a3, a4, a5, a6, a7, a8, g, e, a9, a10, a11, a12, a13⟩
/-- the counts at another stage of the file -/
def fG (G : GH) (st nt ne : Nat) : GH := ((fun k => if k = 2 then st else if k = 3 then nt else if k = 4 then ne else G.1 k), G.2)
theorem cnt_f (G : GH) (st nt ne t : Nat) (ht : t ≠ 12) : cnt (fG G st nt ne) t = cnt G t := by
  match t, ht with
  | 0, _ => rfl
  | 1, _ => rfl
  | 2, _ => rfl
  | 3, _ => rfl
  | 4, _ => rfl
  | 5, _ => rfl
  | 6, _ => rfl
  | 7, _ => rfl
  | 8, _ => rfl
  | 9, _ => rfl
  | 10, _ => rfl
  | 11, _ => rfl
  | 12, h => exact absurd rfl h
  | _ + 13, _ => rfl
theorem cK.fG' (h : cK L cx σ G) (st nt ne : Nat) (he : (if st = 0 then 0 else ne) ≤ cnt G 12) : cK L cx σ (fG G st nt ne) := by
  have c : ∀ t i, i < cnt (fG G st nt ne) t → i < cnt G t := fun t i hi => by
    by_cases e : t = 12
    · subst e
      have hi : i < (if st = 0 then 0 else ne) := hi
      omega
    · rw [cnt_f G st nt ne t e] at hi
      exact hi
  exact ⟨h.1, fun t i hi => h.2.1 t i (c t i hi), fun t i t' i' hi hi' => h.2.2 t i t' i' (c t i hi) (c t' i' hi')⟩
theorem cK.kk (h : cK L cx σ G) (e : sK σ' = sK σ) : cK L cx σ' G := by
  unfold cK
  rw [e]
  exact h
theorem WF.end' (W : WF V G n) : WF (mS V 459 0) (fG G 0 (G.1 3) (G.1 4)) n := by
  obtain ⟨⟨a1, a2, a3, a4, a5, a6, a7, a8, a9, a10, a11, a12, a13, a14, a15, a16, a17, a18⟩, b2, b3, b4, b5, b6, b7, b8⟩ := W
  exact ⟨⟨a1, a2, a3, a4, nI_0.symm, Nat.zero_le _, a7, a8, a9, a10, a11, a12, a13, a14, a15, a16, fun z => absurd rfl z, fun z => absurd z (by show ¬ 0 = 2; decide)⟩, b2, b3, fun z => absurd rfl z, b5, b6, b7, b8⟩
theorem CI.end' (C : CI L cx σ V G) : CI L cx (uI σ 256 (L 0 2) 0 0) (mS V 459 0) (fG G 0 (G.1 3) (G.1 4)) := by
  refine CI.mk' (C.k.fG' 0 _ _ (Nat.zero_le _)) C.f ?_ ⟨fun _ => ?_, fun z => absurd rfl z⟩ (fun z => absurd rfl z)
  · show OC L cx _ V G
    exact OC.ax C.k C.oc (AX.rfl'.uI ⟨0, 2, Or.inl ⟨rfl, Or.inl rfl⟩, rfl⟩)
  · rw [sI_uI, if_pos ⟨rfl, rfl, rfl⟩]
theorem x_end (C : CI L cx σ V G) {post : St → Prop} (hp : ∀ σ', CI L cx σ' (mS V 459 0) (fG G 0 (G.1 3) (G.1 4)) → AG mTag σ σ' → post σ') : wX4_end (L 0 2) post σ := by
  unfold wX4_end
  have k2 := C.k.fix 2 (by decide)
  refine ⟨k2, fun s e => ?_⟩
  subst e
  exact hp _ C.end' (AG.rfl'.uI (by rw [k2]; exact (kd_c 0 2).2))
/-- a header: the file begins -/
theorem x_header (C : CI L cx σ V G) (W : WF V G n) {post : St → Prop} {h : Nat} (hp : ∀ σ' G', CI L cx σ' (hdV h (mS V 459 0)) G' → WF (hdV h (mS V 459 0)) G' (n + 1) → AG mTag σ σ' → post σ') : wX4_begin (L 0 2) (nI (dg h 1 4)) (nI (dg h 5 4)) post σ := by
  have k2 : sK σ (L 0 2) = 5 := C.k.fix 2 (by decide)
  have k6 : sK σ (L 0 6) = 7 := C.k.fix 6 (by decide)
  have m2 : fM L (L 0 2) := ⟨0, 2, Or.inl ⟨rfl, Or.inl rfl⟩, rfl⟩
  have m6 : fM L (L 0 6) := ⟨0, 6, Or.inl ⟨rfl, Or.inr rfl⟩, rfl⟩
  unfold wX4_begin
  refine ⟨k2, fun s e => ?_⟩
  subst e
  refine ⟨k2, fun s e => ?_⟩
  subst e
  refine ⟨k2, nm_R C.f.2.2.2.2.2.2.1 ⟨k6, x_clear k6 (fun s1 j1 t1 => ?_)⟩⟩
  have x1 : AX (fM L) σ s1 := ((AX.rfl'.uI m2).uI m2).trans (j1.ax m6)
  obtain ⟨j1a, j1b, j1c, j1d, j1e⟩ := j1
  have e2 : sK s1 (L 0 2) = 5 := by rw [j1a]; exact k2
  refine ⟨e2, fun s e => ?_⟩
  subst e
  refine ⟨e2, fun s e => ?_⟩
  subst e
  refine ⟨e2, fun s e => ?_⟩
  subst e
  have x2 := ((x1.uI (f := 253) (i := 0) (v := 0) m2).uI (f := 257) (i := 0) (v := 0) m2).uI (f := 256) (i := 0) (v := 1) m2
  refine hp _ (fG G 1 0 0) (CI.mk' (cK.kk (σ := σ) (C.k.fG' 1 0 0 (Nat.zero_le _)) ?_) ?_ (show OC L cx _ V G from OC.ax C.k C.oc x2) ⟨fun z => ?_, fun _ => ⟨?_, fun z => ?_, fun _ => ?_⟩⟩ (fun _ => ?_)) ?_ (x2.toAG (fun a ha => fM.notM C.k ha))
  · show sK s1 = sK σ
    rw [j1a]; rfl
  · have hf := C.f
    unfold cF at hf ⊢
    show sR s1 400 cx 0 = _ ∧ sR s1 401 cx 0 = _ ∧ sR s1 402 cx 0 = _ ∧ sR s1 403 cx 0 = _ ∧ sR s1 405 cx 0 = _ ∧ sR s1 250 (L 0 2) 0 = _ ∧ sR s1 251 (L 0 2) 0 = _ ∧ ∀ k, k < 4 → sR s1 1250 (L 0 5) k = _ ∧ sR s1 150 (L 1 k) 0 = _ ∧ sR s1 151 (L 1 k) 0 = _
    rw [j1c]
    exact hf
  · exact absurd z (by show ¬ 1 = 0; decide)
  · rw [sI_uI, if_pos ⟨rfl, rfl, rfl⟩]
  · exact absurd z (by show ¬ 1 = 2; decide)
  · rw [sI_ne (by decide), sI_uI, if_pos ⟨rfl, rfl, rfl⟩]
  · refine ⟨?_, ?_, ?_, fun z => absurd z (by show ¬ 1 = 2; decide), ?_, fun k hk => absurd hk (Nat.not_lt_zero k), fun z => absurd z (by show ¬ 1 = 2; decide), fun e he => absurd he (Nat.not_lt_zero e)⟩
    · rw [sI_ne (by decide), sI_ne (by decide), sI_uI, if_pos ⟨rfl, rfl, rfl⟩]
      exact nI_0.symm
    · rw [sI_ne (by decide), sI_ne (by decide), sI_ne (by decide), j1b, sI_ne (by decide), sI_uI, if_pos ⟨rfl, rfl, rfl⟩]
      rfl
    · rw [sI_ne (by decide), sI_ne (by decide), sI_ne (by decide), j1b, sI_uI, if_pos ⟨rfl, rfl, rfl⟩]
      rfl
    · exact t1
  · obtain ⟨⟨a1, a2, a3, a4, a5, a6, a7, a8, a9, a10, a11, a12, a13, a14, a15, a16, a17, a18⟩, b2, b3, b4, b5, b6, b7, b8⟩ := W.le
    refine ⟨⟨a1, a2, a3, a4, rfl, by show 1 ≤ 2; decide, nI_0.symm, Nat.zero_le _, nI_0.symm, Nat.zero_le _, a11, a12, a13, a14, a15, a16, fun _ => a14, fun z => absurd z (by show ¬ 1 = 2; decide)⟩, b2, b3, fun _ => ⟨⟨_, dg_lt h 1 4, rfl⟩, ⟨_, dg_lt h 5 4, rfl⟩, fun e he => absurd he (Nat.not_lt_zero e), fun e e' _ he => absurd he (Nat.not_lt_zero e'), fun b hb => absurd hb (Nat.not_lt_zero b)⟩, b5, b6, b7, b8⟩
end PA
