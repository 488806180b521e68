/-! WINDOW, put together -/
section WFF
variable {L : LY} {cx mx : Nat} {A : Nat → Nat} {σ σ' s : St} {V V' U : MV} {G : GH} {n b : Nat} {S : List Nat}
def wG (G : GH) (b : Nat) (S : List Nat) : GH := (G.1, (fun k i => if k = 5 ∧ i = b then (G.2.2 0 b).length else if k = 6 ∧ i = b then 0 else G.2.1 k i), (fun k i => if k = 0 ∧ i = b then [] else if k = 1 ∧ i = b then G.2.2 0 b ++ S else G.2.2 k i))
theorem wG_5 {i : Nat} : (wG G b S).2.1 5 i = if i = b then (G.2.2 0 b).length else G.2.1 5 i := by
  show (if 5 = 5 ∧ i = b then (G.2.2 0 b).length else if 5 = 6 ∧ i = b then 0 else G.2.1 5 i) = _
  by_cases c : i = b
  · rw [if_pos ⟨rfl, c⟩, if_pos c]
  · rw [if_neg (fun z => c z.2), if_neg (fun z => c z.2), if_neg c]
theorem wG_6 {i : Nat} : (wG G b S).2.1 6 i = if i = b then 0 else G.2.1 6 i := by
  show (if 6 = 5 ∧ i = b then (G.2.2 0 b).length else if 6 = 6 ∧ i = b then 0 else G.2.1 6 i) = _
  rw [if_neg (fun z => absurd z.1 (by decide))]
  by_cases c : i = b
  · rw [if_pos ⟨rfl, c⟩, if_pos c]
  · rw [if_neg (fun z => c z.2), if_neg c]
theorem wG_o {k i : Nat} (h5 : k ≠ 5) (h6 : k ≠ 6) : (wG G b S).2.1 k i = G.2.1 k i := by
  show (if k = 5 ∧ i = b then (G.2.2 0 b).length else if k = 6 ∧ i = b then 0 else G.2.1 k i) = _
  rw [if_neg (fun z => h5 z.1), if_neg (fun z => h6 z.1)]
theorem wG_r {i : Nat} : (wG G b S).2.2 0 i = if i = b then [] else G.2.2 0 i := by
  show (if 0 = 0 ∧ i = b then [] else if 0 = 1 ∧ i = b then G.2.2 0 b ++ S else G.2.2 0 i) = _
  by_cases c : i = b
  · rw [if_pos ⟨rfl, c⟩, if_pos c]
  · rw [if_neg (fun z => c z.2), if_neg (fun z => c z.2), if_neg c]
theorem wG_l {i : Nat} : (wG G b S).2.2 1 i = if i = b then G.2.2 0 b ++ S else G.2.2 1 i := by
  show (if 1 = 0 ∧ i = b then [] else if 1 = 1 ∧ i = b then G.2.2 0 b ++ S else G.2.2 1 i) = _
  rw [if_neg (fun z => absurd z.1 (by decide))]
  by_cases c : i = b
  · rw [if_pos ⟨rfl, c⟩, if_pos c]
  · rw [if_neg (fun z => c z.2), if_neg c]
/-- what a window has made of the view -/
def WU (V : MV) (G : GH) (b : Nat) (S : List Nat) (U : MV) : Prop := U.1 = V.1 ∧ (∀ t, t ≠ 1487 → (t < 1491 ∨ 1494 < t) → U.2.1 t = V.2.1 t) ∧ U.2.1 1491 b = nI (G.2.2 0 b ++ S).length ∧ (∀ b', b' ≠ b → U.2.1 1491 b' = V.2.1 1491 b') ∧ (∀ k r, (G.2.2 0 b ++ S)[k]? = some r → U.2.1 1492 (512 * b + k) = nI r ∧ U.2.1 1493 (512 * b + k) = (if k < (G.2.2 0 b).length then 1 else 0) ∧ U.2.1 1494 (512 * b + k) = 0) ∧ (∀ p, (p < 512 * b ∨ 512 * b + 512 ≤ p) → U.2.1 1492 p = V.2.1 1492 p ∧ U.2.1 1493 p = V.2.1 1493 p ∧ U.2.1 1494 p = V.2.1 1494 p) ∧ (∀ r, r ∈ G.2.2 0 b → r ∉ S → U.2.1 1487 r = 3) ∧ (∀ r, r ∈ S → U.2.1 1487 r = 1) ∧ (∀ r, r ∉ G.2.2 0 b → r ∉ S → U.2.1 1487 r = V.2.1 1487 r) ∧ (∀ t, t ≠ 1452 → U.2.2 t = V.2.2 t) ∧ ∀ x, U.2.2 1452 x = V.2.2 1452 x + tot (ct V G true x) (G.2.2 0 b) + tot (ct V G false x) S
theorem WU.mk' (W : WF V G n) (hR : ∀ r, r ∈ G.2.2 0 b → r < G.1 6) (hS : ∀ r, r ∈ S → r < G.1 6) (hl : (G.2.2 0 b).length + S.length ≤ 512) : WU V G b S (S.foldl (tkV b false) ((G.2.2 0 b).foldl (tkV b true) (mA V 1491 b 0))) := by
  have h5 := W.1.2.1
  have wr := W.2.2.2.2.2.1
  have T1 := tk_fold (ret := true) (b := b) wr h5 (G.2.2 0 b) 0 (mA V 1491 b 0) hR (by omega) (by rw [mA_at]; exact nI_0.symm) (fun t n1 n2 => mA_o (by omega))
  generalize (G.2.2 0 b).foldl (tkV b true) (mA V 1491 b 0) = U1 at *
  obtain ⟨a1, a2, a3, a4, a5, a6, a7, a8, a9, a10⟩ := T1
  have T2 := tk_fold (ret := false) (b := b) wr h5 S (G.2.2 0 b).length U1 hS (by omega) (by rw [a3, Nat.zero_add]) (fun t n1 n2 => (a2 t n1 n2).trans (mA_o (by omega)))
  generalize S.foldl (tkV b false) U1 = U at *
  obtain ⟨b1, b2, b3, b4, b5, b6, b7, b8, b9, b10⟩ := T2
  rw [Nat.add_zero] at a6
  refine ⟨b1.trans a1, fun t n1 n2 => (b2 t n1 n2).trans ((a2 t n1 n2).trans (mA_o (by omega))), by rw [b3, List.length_append], fun b' hb' => ?_, fun k r hk => ?_, fun p hp => ?_, fun r hr hn => ?_, fun r hr => b7 r hr, fun r hr hn => ?_, fun t ht => (b9 t ht).trans (a9 t ht), fun x => ?_⟩
  · rw [b4 b' hb', a4 b' hb', mA_2, if_neg (fun z => hb' z.2)]
  · by_cases c : k < (G.2.2 0 b).length
    · rw [List.getElem?_append_left c] at hk
      obtain ⟨c1, c2, c3⟩ := b6 (512 * b + k) (Or.inl (by omega))
      rw [c1, c2, c3, if_pos c]
      have := a5 k r hk
      rw [Nat.add_zero] at this
      exact this
    · rw [List.getElem?_append_right (by omega)] at hk
      have := b5 (k - (G.2.2 0 b).length) r hk
      rw [show 512 * b + (G.2.2 0 b).length + (k - (G.2.2 0 b).length) = 512 * b + k by omega] at this
      rw [if_neg c]
      exact this
  · obtain ⟨c1, c2, c3⟩ := b6 p (by omega)
    obtain ⟨d1, d2, d3⟩ := a6 p (by omega)
    rw [c1, c2, c3, d1, d2, d3]
    exact ⟨by rw [mA_o (by decide)], by rw [mA_o (by decide)], by rw [mA_o (by decide)]⟩
  · rw [b8 r hn]; exact a7 r hr
  · rw [b8 r hn, a8 r hr, mA_o (by decide)]
  · rw [b10, a10]
    rfl
theorem cS_mem (V : MV) (G : GH) (b r : Nat) : r ∈ (wQ V G b).filter (due V) ↔ r < G.1 6 ∧ cnd V false b r := by
  unfold wQ
  rw [List.mem_filter, List.mem_filter, List.mem_range]
  unfold wtB due cnd
  simp only [decide_eq_true_eq, Bool.not_eq_true', decide_eq_false_iff_not, Int32.not_lt]
  constructor
  · intro ⟨⟨h1, h2, h3⟩, h4⟩
    exact ⟨h1, Or.inr ⟨by trivial, h2, h3, h4⟩⟩
  · intro ⟨h1, h2⟩
    rcases h2 with ⟨h2, _⟩ | ⟨_, h2, h3, h4⟩
    · cases h2
    · exact ⟨⟨h1, h2, h3⟩, h4⟩
theorem SC_R (W : WF V G n) (hb : b < G.1 0) : SC V true b (G.1 6) (G.2.2 0 b) := by
  have h5 := W.1.2.1
  obtain ⟨t1, t2, t3⟩ := W.2.2.2.2.2.2.1 b
  refine ⟨fun r => ?_, List.Pairwise.imp (fun {x y} z => Or.inl ⟨rfl, z⟩) t2⟩
  rw [t1 r]
  constructor
  · intro ⟨h1, h2, h3⟩
    refine ⟨h1, Or.inl ⟨rfl, h2, ?_⟩⟩
    rw [(W.2.2.2.2.2.1.1 r h1).1, h3]
  · intro ⟨h1, h2⟩
    rcases h2 with ⟨_, h2, h3⟩ | ⟨h2, _⟩
    · refine ⟨h1, h2, ?_⟩
      obtain ⟨w1, w2, _⟩ := W.2.2.2.2.2.1.1 r h1
      rw [w1, nI_eq (by omega) (by omega)] at h3
      exact h3
    · cases h2
theorem SC_S (hS : S.Pairwise (kls V false)) (hP : S.Perm ((wQ V G b).filter (due V))) : SC V false b (G.1 6) S := ⟨fun r => by rw [hP.mem_iff, cS_mem], hS⟩
/-- any rows can be sorted -/
theorem sort_ex (W : WF V G n) : ∀ Q : List Nat, Q.Nodup → (∀ r, r ∈ Q → r < G.1 6) → ∃ S : List Nat, S.Pairwise (kls V false) ∧ S.Perm Q := by
  have tot : ∀ r s, r < G.1 6 → s < G.1 6 → r ≠ s → kls V false r s ∨ kls V false s r := fun r s hr hs hne => by
    rcases Nat.lt_or_ge s r with c | c
    · by_cases g : gb V G r s
      · exact Or.inl ((gb_kls W hr c).1 g)
      · exact Or.inr ((gb_kls W hr c).2 g)
    · have c : r < s := by omega
      by_cases g : gb V G s r
      · exact Or.inr ((gb_kls W hs c).1 g)
      · exact Or.inl ((gb_kls W hs c).2 g)
  have ins : ∀ (S : List Nat) (r : Nat), S.Pairwise (kls V false) → r ∉ S → r < G.1 6 → (∀ s, s ∈ S → s < G.1 6) → ∃ S' : List Nat, S'.Pairwise (kls V false) ∧ S'.Perm (r :: S) := by
    intro S
    induction S with
    | nil => intro r _ _ _ _; exact ⟨[r], List.pairwise_singleton _ _, List.Perm.refl _⟩
    | cons x S ih =>
      intro r hS hr hrn hm
      obtain ⟨p1, p2⟩ := List.pairwise_cons.mp hS
      rcases tot r x hrn (hm x List.mem_cons_self) (fun z => hr (by rw [z]; exact List.mem_cons_self)) with c | c
      · refine ⟨r :: x :: S, List.pairwise_cons.mpr ⟨fun y hy => ?_, hS⟩, List.Perm.refl _⟩
        rcases List.mem_cons.mp hy with e | hy
        · rw [e]; exact c
        · exact kls_trans c (p1 y hy)
      · obtain ⟨S', q1, q2⟩ := ih r p2 (fun z => hr (List.mem_cons_of_mem _ z)) hrn (fun s hs => hm s (List.mem_cons_of_mem _ hs))
        refine ⟨x :: S', List.pairwise_cons.mpr ⟨fun y hy => ?_, q1⟩, ?_⟩
        · rcases List.mem_cons.mp (q2.mem_iff.mp hy) with e | hy
          · rw [e]; exact c
          · exact p1 y hy
        · exact (q2.cons x).trans (List.Perm.swap r x S)
  intro Q
  induction Q with
  | nil => intro _ _; exact ⟨[], List.Pairwise.nil, List.Perm.refl _⟩
  | cons x Q ih =>
    intro hnd hm
    obtain ⟨p1, p2⟩ := List.nodup_cons.mp hnd
    obtain ⟨S, s1, s2⟩ := ih p2 (fun r hr => hm r (List.mem_cons_of_mem _ hr))
    obtain ⟨S', q1, q2⟩ := ins S x s1 (fun z => p1 (s2.mem_iff.mp z)) (hm x List.mem_cons_self) (fun s hs => hm s (List.mem_cons_of_mem _ (s2.mem_iff.mp hs)))
    exact ⟨S', q1, q2.trans (s2.cons x)⟩
/-- what is handed out, each once -/
theorem win_len (W : WF V G n) (hP : S.Perm ((wQ V G b).filter (due V))) : (G.2.2 0 b ++ S).Nodup ∧ (∀ r, r ∈ G.2.2 0 b ++ S → r < G.1 6) ∧ (G.2.2 0 b).length + S.length ≤ G.1 6 := by
  obtain ⟨t1, t2, t3⟩ := W.2.2.2.2.2.2.1 b
  have hrm : ∀ r, r ∈ G.2.2 0 b → r < G.1 6 := fun r hr => ((t1 r).mp hr).1
  have hrnd : (G.2.2 0 b).Nodup := by
    refine List.Pairwise.imp (fun {x y} z e => ?_) t2
    rw [e] at z
    exact absurd z Int32.lt_irrefl
  have hqs : ((wQ V G b).filter (due V)).Pairwise (fun r s => r < s) := List.Pairwise.filter _ (List.Pairwise.filter _ List.pairwise_lt_range)
  have hqnd : S.Nodup := hP.nodup_iff.mpr (List.Pairwise.imp (fun {x y} z e => by omega) hqs)
  have hsm : ∀ r, r ∈ S → r < G.1 6 ∧ cnd V false b r := fun r hr => (cS_mem V G b r).mp (hP.mem_iff.mp hr)
  have hdis : (G.2.2 0 b ++ S).Nodup := by
    refine List.nodup_append.mpr ⟨hrnd, hqnd, fun x hx y hy e => ?_⟩
    subst e
    have h2 := ((t1 x).mp hx).2.1
    rcases (hsm x hy).2 with ⟨z, _⟩ | ⟨_, z, _⟩
    · cases z
    · rw [h2] at z
      exact absurd z (by decide)
  have hm : ∀ r, r ∈ G.2.2 0 b ++ S → r < G.1 6 := fun r hx => by
    rcases List.mem_append.mp hx with hx | hx
    · exact hrm r hx
    · exact (hsm r hx).1
  refine ⟨hdis, hm, ?_⟩
  have := nodup_len _ _ hdis hm
  rw [List.length_append] at this
  exact this
end WFF
