/-! WINDOW: the entries -/
section WC
variable {L : LY} {cx mx : Nat} {A : Nat → Nat} {σ σ' σ'' : St} {V V' : MV} {G : GH} {n b : Nat} {outs outs' Q R : List Nat} {rts : Nat} {led : Nat → Int64}
/-- the class's comparison -/
def gb (V : MV) (G : GH) (r s : Nat) : Prop := V.2.1 1486 r < V.2.1 1486 s ∨ (V.2.1 1486 r = V.2.1 1486 s ∧ G.2.1 1 r < G.2.1 1 s)
theorem x_goesBefore (C : CI L cx σ V G) (W : WF V G n) (h : WI L V G b σ σ' outs rts led Q R) {r s : Nat} (hr : r < G.1 6) (hs : s < G.1 6) {post : Int32 → St → Prop} (h1 : gb V G r s → post 1 σ') (h0 : ¬ gb V G r s → post 0 σ') : wX3_goesBefore (L 11 r) (some (L 11 s)) post σ' := by
  obtain ⟨a1, a2, a3, a4, a5, a6, a7, a8, a9, a10, a11, a12, a13⟩ := h
  have h5 := W.1.2.1
  obtain ⟨c0, c1, c2, c3, c4, c5, c6, c7⟩ := C.r r hr
  obtain ⟨e0, e1, e2, e3, e4, e5, e6, e7⟩ := C.r s hs
  obtain ⟨w1, w2, w3, w4, _⟩ := W.2.2.2.2.2.1.1 r hr
  obtain ⟨y1, y2, y3, y4, _⟩ := W.2.2.2.2.2.1.1 s hs
  have kr : sK σ' (L 11 r) = 4 := by rw [a2]; exact C.k.knd 11 r hr
  have ks : sK σ' (L 11 s) = 4 := by rw [a2]; exact C.k.knd 11 s hs
  have kgr : sK σ' (L 4 (G.2.1 1 r)) = 2 := by rw [a2]; exact C.k.knd 4 _ w2
  have kgs : sK σ' (L 4 (G.2.1 1 s)) = 2 := by rw [a2]; exact C.k.knd 4 _ y2
  unfold wX3_goesBefore
  refine ⟨kr, L 11 s, rfl, ks, ?_⟩
  rw [a4 205 _ _ (by decide) (by decide), a4 205 _ _ (by decide) (by decide), c5, e5]
  by_cases c : V.2.1 1486 r = V.2.1 1486 s
  · refine br_t c ⟨kr, nm_R (by rw [a3]; exact c6) ⟨kgr, ks, nm_R (by rw [a3]; exact e6) ⟨kgs, ?_⟩⟩⟩
    rw [a4 100 _ _ (by decide) (by decide), a4 100 _ _ (by decide) (by decide), (C.b.2 _ w2).1, (C.b.2 _ y2).1]
    refine pk_le (G.2.1 1 s) (G.2.1 1 r) (fun c2 => h0 (fun z => ?_)) (fun c2 => h1 (Or.inr ⟨c, c2⟩))
    rcases z with z | ⟨_, z⟩
    · rw [c] at z; exact absurd z Int32.lt_irrefl
    · omega
  · refine br_f c ⟨kr, ks, ?_⟩
    by_cases c2 : V.2.1 1486 s ≤ V.2.1 1486 r
    · refine br_t c2 (h0 (fun z => ?_))
      rcases z with z | ⟨z, _⟩
      · exact absurd c2 (Int32.not_le.mpr z)
      · exact c z
    · exact br_f c2 (h1 (Or.inl (Int32.not_le.mp c2)))
theorem x_addEntry (C : CI L cx σ V G) (W : WF V G n) (hb : b < G.1 0) (h : WI L V G b σ σ' outs rts led Q R) (h65 : outs.length < 65) (hm : ∀ s, s ∈ outs → s < G.1 6) (hrt : rts ≤ outs.length) {r : Nat} (hr : r < G.1 6) {post : St → Prop} (hp : ∀ p s, rts ≤ p → p ≤ outs.length → (∀ j s, p ≤ j → outs[j]? = some s → gb V G r s) → (rts < p → ∀ s, outs[p - 1]? = some s → ¬ gb V G r s) → WI L V G b σ s (outs.take p ++ r :: outs.drop p) rts led Q R → post s) : wX5_addEntry (L 7 b) (some (L 11 r)) post σ' := by
  have h' := h
  obtain ⟨a1, a2, a3, a4, a5, a6, a7, a8, a9, a10, a11, a12, a13⟩ := h'
  have k7 : sK σ' (L 7 b) = 6 := by rw [a2]; exact C.k.knd 7 b hb
  have k9 : sK σ' (L 9 b) = 7 := by rw [a2]; exact C.k.knd 9 b hb
  have kr : sK σ' (L 11 r) = 4 := by rw [a2]; exact C.k.knd 11 r hr
  have kl : 20 ≤ sK σ' (L 8 b) ∧ sK σ' (L 8 b) < 23 := by rw [a2]; exact C.k.ls 8 b (by omega) hb
  obtain ⟨b1, b2, b3, b4, b5, b6, b7⟩ := C.b.2 b hb
  have hl : (sL σ' (L 8 b)).length = outs.length := by rw [a10, List.length_map]
  have k42 : ∀ p, rts ≤ p → p ≤ outs.length → (∀ j s, p ≤ j → outs[j]? = some s → gb V G r s) → (rts < p → ∀ s, outs[p - 1]? = some s → ¬ gb V G r s) → wX5_addEntry_42 (L 7 b) post (some (L 11 r)) (nI p) σ' := fun p p1 p2 p3 p4 => by
    unfold wX5_addEntry_42
    refine ⟨k7, nm_R (by rw [a3]; exact b6) ⟨kl, L 11 r, rfl, by rw [kr, a2, C.k.knd 8 b hb]; rfl, nI_pos (by omega), by rw [nI_clamp (by omega), hl]; exact p2, by rw [hl]; exact h65, k7, nm_R (show sR σ' 301 (L 7 b) 0 = some (L 9 b) by rw [a3]; exact b7) ⟨k9, ?_⟩⟩⟩
    rw [nI_clamp (by omega), a10, ← List.map_take, ← List.map_drop, ← List.map_cons, ← List.map_append]
    refine x_put9 C W hb h hr (fun w => ?_) (fun s hs => hp p s p1 p2 p3 p4 hs)
    rw [tot_app2, tot_cons]
    have : tot (outp V w) outs = tot (outp V w) (outs.take p) + tot (outp V w) (outs.drop p) := by rw [← tot_app2, List.take_append_drop]
    rw [this]
    grind
  have loop : ∀ d p, rts + d = p → p ≤ outs.length → (∀ j s, p ≤ j → outs[j]? = some s → gb V G r s) → wX5_addEntry_8 (L 7 b) post (d + 1) (some (L 11 r)) (nI p) σ' := by
    intro d
    induction d with
    | zero =>
      intro p hd p2 p3
      unfold wX5_addEntry_8
      refine ⟨k7, ?_⟩
      rw [a5]
      exact pk_le p rts (fun _ => k42 p (by omega) p2 p3 (fun z => by omega)) (fun z => by omega)
    | succ d ih =>
      intro p hd p2 p3
      have hil : p - 1 < outs.length := by omega
      obtain ⟨s, hsi⟩ : ∃ s, outs[p - 1]? = some s := ⟨outs[p - 1], List.getElem?_eq_getElem hil⟩
      have hs : s < G.1 6 := hm s (List.mem_of_getElem? hsi)
      have ks : sK σ' (L 11 s) = 4 := by rw [a2]; exact C.k.knd 11 s hs
      unfold wX5_addEntry_8
      refine ⟨k7, ?_⟩
      rw [a5]
      refine pk_le p rts (fun z => by omega) (fun _ => ⟨k7, nm_R (by rw [a3]; exact b6) ?_⟩)
      rw [show nI p - 1 = nI (p - 1) from pk_sub (b := 1) (by omega)]
      refine q_get kl (by omega) (x := L 11 s) (by rw [a10, List.getElem?_map, hsi]; rfl) ⟨L 11 s, rfl, ks, L 11 r, rfl, kr, x_goesBefore C W h hr hs (fun z => br_f (by decide) (nm_r (nI_m1 (by omega)) (ih (p - 1) (by omega) (by omega) (fun j s' hj hj2 => ?_)))) (fun z => br_t rfl (k42 p (by omega) p2 p3 (fun _ s' hs' => ?_)))⟩
      · by_cases c : j = p - 1
        · rw [c, hsi] at hj2
          cases hj2
          exact z
        · exact p3 j s' (by omega) hj2
      · rw [hsi] at hs'
        cases hs'
        exact z
  unfold wX5_addEntry
  refine ⟨k7, nm_R (by rw [a3]; exact b6) (q_size (k := outs.length) kl hl ?_)⟩
  refine ⟨outs.length - rts + 1, loop (outs.length - rts) outs.length (by omega) (Nat.le_refl _) (fun j s hj hj2 => ?_)⟩
  rw [List.getElem?_eq_none hj] at hj2
  cases hj2
/-- an entry whose day has come -/
def due (V : MV) (r : Nat) : Bool := !decide (V.1 453 < V.2.1 1486 r)
theorem gb_kls (W : WF V G n) {r s : Nat} (hr : r < G.1 6) (hs : s < r) : (gb V G r s → kls V false r s) ∧ (¬ gb V G r s → kls V false s r) := by
  have h5 := W.1.2.1
  obtain ⟨w1, w2, w3, w4, _⟩ := W.2.2.2.2.2.1.1 r hr
  obtain ⟨y1, y2, y3, y4, _⟩ := W.2.2.2.2.2.1.1 s (by omega)
  have e : ∀ a c, a < G.1 0 → c < G.1 0 → (nI a < nI c ↔ a < c) := fun a c ha hc => nI_ltI (by omega) (by omega)
  unfold gb kls
  rw [w1, y1]
  constructor
  · intro z
    refine Or.inr ⟨rfl, ?_⟩
    rcases z with z | ⟨z1, z2⟩
    · exact Or.inl z
    · exact Or.inr ⟨z1, Or.inl ((e _ _ w2 y2).mpr z2)⟩
  · intro z
    refine Or.inr ⟨rfl, ?_⟩
    by_cases c1 : V.2.1 1486 s < V.2.1 1486 r
    · exact Or.inl c1
    · by_cases c2 : V.2.1 1486 r < V.2.1 1486 s
      · exact absurd (Or.inl c2) z
      · have c3 : V.2.1 1486 r = V.2.1 1486 s := by
          rw [Int32.lt_iff_toInt_lt] at c1 c2
          rw [← Int32.toInt_inj]
          omega
        refine Or.inr ⟨c3.symm, ?_⟩
        by_cases c4 : G.2.1 1 s < G.2.1 1 r
        · exact Or.inl ((e _ _ y2 w2).mpr c4)
        · refine Or.inr ⟨?_, hs⟩
          have : ¬ G.2.1 1 r < G.2.1 1 s := fun z2 => z (Or.inr ⟨c3, z2⟩)
          rw [show G.2.1 1 s = G.2.1 1 r by omega]
/-- sorted in -/
theorem ins_sorted (W : WF V G n) {S : List Nat} {r p : Nat} (hS : S.Pairwise (kls V false)) (hr : r < G.1 6) (hlt : ∀ s, s ∈ S → s < r) (h1 : ∀ j s, p ≤ j → S[j]? = some s → gb V G r s) (h2 : 0 < p → ∀ s, S[p - 1]? = some s → ¬ gb V G r s) (hp : p ≤ S.length) : (S.take p ++ r :: S.drop p).Pairwise (kls V false) := by
  have hd : ∀ s, s ∈ S.drop p → kls V false r s := fun s hs => by
    obtain ⟨j, hj⟩ := List.getElem?_of_mem hs
    rw [List.getElem?_drop] at hj
    exact (gb_kls W hr (hlt s (List.mem_of_mem_drop hs))).1 (h1 (p + j) s (by omega) hj)
  have ht : ∀ s, s ∈ S.take p → kls V false s r := fun s hs => by
    obtain ⟨j, hj⟩ := List.getElem?_of_mem hs
    have hjp : j < p := by
      have := (List.getElem?_eq_some_iff.mp hj).1
      rw [List.length_take] at this
      omega
    rw [List.getElem?_take_of_lt hjp] at hj
    obtain ⟨m, hm⟩ : ∃ m, S[p - 1]? = some m := ⟨S[p - 1], List.getElem?_eq_getElem (by omega)⟩
    have hmr := (gb_kls W hr (hlt m (List.mem_of_getElem? hm))).2 (h2 (by omega) m hm)
    by_cases c : j = p - 1
    · rw [c, hm] at hj
      cases hj
      exact hmr
    · have := List.pairwise_iff_getElem.mp hS j (p - 1) (by omega) (by omega) (by omega)
      rw [List.getElem?_eq_getElem (by omega)] at hj hm
      cases hj
      cases hm
      exact kls_trans this hmr
  rw [List.pairwise_append]
  have hs2 := hS
  rw [← List.take_append_drop p S, List.pairwise_append] at hs2
  obtain ⟨p1, p2, p3⟩ := hs2
  refine ⟨p1, List.pairwise_cons.mpr ⟨hd, p2⟩, fun x hx y hy => ?_⟩
  rcases List.mem_cons.mp hy with e | hy
  · rw [e]; exact ht x hx
  · exact p3 x hx y hy
theorem ins_perm {S : List Nat} {r p : Nat} : (S.take p ++ r :: S.drop p).Perm (S ++ [r]) := by
  have h1 : (S.take p ++ r :: S.drop p).Perm (r :: (S.take p ++ S.drop p)) := List.perm_middle
  rw [List.take_append_drop] at h1
  have h2 : (r :: S).Perm (S ++ [r]) := by
    have := List.perm_append_comm (l₁ := [r]) (l₂ := S)
    exact this
  exact h1.trans h2
end WC
