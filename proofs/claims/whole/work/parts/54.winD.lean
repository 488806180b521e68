/-! WINDOW: the entries handed out, and taken off -/
section WD
variable {L : LY} {cx mx : Nat} {A : Nat → Nat} {σ σ' σ'' : St} {V V' : MV} {G : GH} {n b : Nat} {outs outs' Q R : List Nat} {rts : Nat} {led : Nat → Int64}
/-- taken off, from the last to the first -/
theorem x_takeOff (C : CI L cx σ V G) (hb : b < G.1 0) {post : St → Prop} (hQ : ∀ r, r ∈ Q → r < G.1 6) (h64 : Q.length < 65) (hp : ∀ s, WI L V G b σ s outs rts led (Q.filter (fun r => !due V r)) R → post s) : ∀ k s, k ≤ Q.length → WI L V G b σ s outs rts led (Q.take k ++ (Q.drop k).filter (fun r => !due V r)) R → wX7_handOutEntries_65 cx post (k + 1) (some (L 4 b)) (nI k - 1) s := by
  obtain ⟨b1, b2, b3, b4, b5, b6, b7⟩ := C.b.2 b hb
  intro k
  induction k with
  | zero =>
    intro s _ h
    unfold wX7_handOutEntries_65
    refine br_t (by decide) (hp s ?_)
    rw [List.take_zero, List.drop_zero, List.nil_append] at h
    exact h
  | succ k ih =>
    intro s hk h
    have h' := h
    obtain ⟨a1, a2, a3, a4, a5, a6, a7, a8, a9, a10, a11, a12, a13⟩ := h'
    have k4 : sK s (L 4 b) = 2 := by rw [a2]; exact C.k.knd 4 b hb
    have kl : 20 ≤ sK s (L 5 b) ∧ sK s (L 5 b) < 23 := by rw [a2]; exact C.k.ls 5 b (by omega) hb
    have hkl : k < Q.length := by omega
    obtain ⟨r, hr⟩ : ∃ r, Q[k]? = some r := ⟨Q[k], List.getElem?_eq_getElem hkl⟩
    have hrn : r < G.1 6 := hQ r (List.mem_of_getElem? hr)
    have kr : sK s (L 11 r) = 4 := by rw [a2]; exact C.k.knd 11 r hrn
    have et : Q.take (k + 1) = Q.take k ++ [r] := by rw [List.take_add_one, hr]; rfl
    have ed : Q.drop k = r :: Q.drop (k + 1) := by
      have h2 := List.getElem?_eq_some_iff.mp hr
      obtain ⟨h3, h4⟩ := h2
      rw [← h4]
      exact List.drop_eq_getElem_cons h3
    have hget : (sL s (L 5 b))[k]? = some (L 11 r) := by
      rw [a11, List.getElem?_map, et, List.append_assoc, List.getElem?_append_right (by rw [List.length_take]; omega), List.length_take, Nat.min_eq_left (by omega), Nat.sub_self]
      rfl
    have nx := ih
    rw [ed, List.filter_cons] at nx
    rw [et, List.append_assoc] at h a11
    unfold wX7_handOutEntries_65
    rw [show nI (k + 1) - 1 = nI k from nI_pred k]
    refine br_f (nI_pos (by omega)) ⟨L 4 b, rfl, k4, nm_R (by rw [a3]; exact b3) (q_get kl (by omega) hget ⟨L 11 r, rfl, kr, kr, by rw [a2]; exact C.k.1, ?_⟩)⟩
    rw [a4 _ _ _ (by decide) (by decide), a4 _ _ _ (by decide) (by decide), show sI σ 406 cx 0 = V.1 453 from C.s, (C.r r hrn).2.2.2.2.2.1]
    by_cases c : V.1 453 < V.2.1 1486 r
    · have hd : (!due V r) = true := by unfold due; rw [decide_eq_true c]; rfl
      rw [if_pos hd] at nx
      exact br_t c (nm_r (Int32.sub_eq_add_neg _ _).symm (nx s (by omega) h))
    · have hd : (!due V r) = false := by unfold due; rw [decide_eq_false c]; rfl
      rw [if_neg (by rw [hd]; decide)] at nx
      refine br_f c ⟨k4, nm_R (by rw [a3]; exact b3) ⟨kl, L 11 r, by rw [nI_clamp (by omega)]; exact hget, nI_pos (by omega), nm_r (Int32.sub_eq_add_neg _ _).symm (nx _ (by omega) ?_)⟩⟩
      have n85 : L 8 b ≠ L 5 b := C.k.ne (t := 8) (t' := 5) hb hb (fun z => absurd z.1 (by decide))
      have n65 : L 6 b ≠ L 5 b := C.k.ne (t := 6) (t' := 5) hb hb (fun z => absurd z.1 (by decide))
      refine ⟨a1.uL (Or.inr (Or.inr (Or.inr (Or.inl rfl)))), a2, a3, a4, a5, a6, a7, a8, a9, ?_, ?_, ?_, fun a m1 m2 m3 => ?_⟩
      · rw [sL_uL, if_neg n85]; exact a10
      · rw [sL_uL, if_pos rfl, a11, nI_clamp (by omega), List.map_append, List.map_append, List.map_append, List.eraseIdx_append_of_length_le (by rw [List.length_map, List.length_take]; omega), List.length_map, List.length_take, Nat.min_eq_left (by omega), Nat.sub_self]
        rfl
      · rw [sL_uL, if_neg n65]; exact a12
      · rw [sL_uL, if_neg m2]; exact a13 a m1 m2 m3
theorem x_handOutEntries (C : CI L cx σ V G) (W : WF V G n) (hb : b < G.1 0) {RL : List Nat} (h : WI L V G b σ σ' RL RL.length led Q R) (hRL : ∀ r, r ∈ RL → r < G.1 6) (hQ : ∀ r, r ∈ Q → r < G.1 6) (hQs : Q.Pairwise (fun r s => r < s)) (h64 : RL.length + Q.length < 65) {post : St → Prop} (hp : ∀ s S, S.Pairwise (kls V false) → S.Perm (Q.filter (due V)) → WI L V G b σ s (RL ++ S) RL.length (fun x => led x + tot (ct V G false x) (Q.filter (due V))) (Q.filter (fun r => !due V r)) R → post s) : wX7_handOutEntries cx (some (L 4 b)) post σ' := by
  obtain ⟨b1, b2, b3, b4, b5, b6, b7⟩ := C.b.2 b hb
  have loop : ∀ d i s S, i + d = Q.length → S.Pairwise (kls V false) → S.Perm ((Q.take i).filter (due V)) → WI L V G b σ s (RL ++ S) RL.length (fun x => led x + tot (ct V G false x) ((Q.take i).filter (due V))) Q R → wX7_handOutEntries_2 cx post (d + 1) (some (L 4 b)) (nI i) s := by
    intro d
    induction d with
    | zero =>
      intro i s S hi hS hP h
      have h' := h
      obtain ⟨a1, a2, a3, a4, a5, a6, a7, a8, a9, a10, a11, a12, a13⟩ := h'
      have k4 : sK s (L 4 b) = 2 := by rw [a2]; exact C.k.knd 4 b hb
      have kl : 20 ≤ sK s (L 5 b) ∧ sK s (L 5 b) < 23 := by rw [a2]; exact C.k.ls 5 b (by omega) hb
      have hlq : (sL s (L 5 b)).length = Q.length := by rw [a11, List.length_map]
      have hi2 : i = Q.length := by omega
      subst hi2
      rw [List.take_length] at hP h
      unfold wX7_handOutEntries_2
      refine ⟨L 4 b, rfl, k4, nm_R (by rw [a3]; exact b3) (q_size kl hlq (pk_le Q.length Q.length (fun _ => ⟨k4, nm_R (by rw [a3]; exact b3) (q_size kl hlq (nm_r rfl ⟨Q.length + 1, ?_⟩))⟩) (fun h => absurd h (by omega))))⟩
      refine x_takeOff C hb hQ (by omega) (fun s2 h2 => hp s2 S hS hP h2) Q.length s (Nat.le_refl _) ?_
      rw [List.take_length, List.drop_length, List.filter_nil, List.append_nil]
      exact h
    | succ d ih =>
      intro i s S hi hS hP h
      have h' := h
      obtain ⟨a1, a2, a3, a4, a5, a6, a7, a8, a9, a10, a11, a12, a13⟩ := h'
      have k4 : sK s (L 4 b) = 2 := by rw [a2]; exact C.k.knd 4 b hb
      have k7 : sK s (L 7 b) = 6 := by rw [a2]; exact C.k.knd 7 b hb
      have kl : 20 ≤ sK s (L 5 b) ∧ sK s (L 5 b) < 23 := by rw [a2]; exact C.k.ls 5 b (by omega) hb
      have hlq : (sL s (L 5 b)).length = Q.length := by rw [a11, List.length_map]
      have hil : i < Q.length := by omega
      obtain ⟨r, hri⟩ : ∃ r, Q[i]? = some r := ⟨Q[i], List.getElem?_eq_getElem hil⟩
      have hr : r < G.1 6 := hQ r (List.mem_of_getElem? hri)
      have kr : sK s (L 11 r) = 4 := by rw [a2]; exact C.k.knd 11 r hr
      have et : Q.take (i + 1) = Q.take i ++ [r] := by rw [List.take_add_one, hri]; rfl
      have nx := ih (i + 1)
      rw [et, List.filter_append, List.filter_cons, List.filter_nil] at nx
      unfold wX7_handOutEntries_2
      refine ⟨L 4 b, rfl, k4, nm_R (by rw [a3]; exact b3) (q_size kl hlq (pk_le Q.length i (fun h => absurd h (by omega)) (fun _ => ⟨k4, nm_R (by rw [a3]; exact b3) (q_get kl (by omega) (x := L 11 r) (by rw [a11, List.getElem?_map, hri]; rfl) ⟨L 11 r, rfl, kr, kr, by rw [a2]; exact C.k.1, ?_⟩)⟩)))⟩
      rw [a4 _ _ _ (by decide) (by decide), a4 _ _ _ (by decide) (by decide), show sI σ 406 cx 0 = V.1 453 from C.s, (C.r r hr).2.2.2.2.2.1]
      by_cases c : V.1 453 < V.2.1 1486 r
      · have hd : due V r = false := by unfold due; rw [decide_eq_true c]; rfl
        rw [if_neg (by rw [hd]; decide), List.append_nil] at nx
        exact br_t c (nm_r (nI_1 i) (nx s S (by omega) hS hP h))
      · have hd : due V r = true := by unfold due; rw [decide_eq_false c]; rfl
        rw [if_pos hd] at nx
        have hSQ : ∀ x, x ∈ S → x ∈ Q.take i := fun x hx => (List.mem_filter.mp (hP.mem_iff.mp hx)).1
        have hSl : S.length ≤ i := by
          have h1 := hP.length_eq
          have h2 := List.length_filter_le (due V) (Q.take i)
          rw [List.length_take] at h2
          omega
        have hlt : ∀ x, x ∈ S → x < r := fun x hx => by
          have hx2 := hSQ x hx
          obtain ⟨j, hj⟩ := List.getElem?_of_mem hx2
          have hji : j < i := by
            have := (List.getElem?_eq_some_iff.mp hj).1
            rw [List.length_take] at this
            omega
          rw [List.getElem?_take_of_lt hji] at hj
          have := List.pairwise_iff_getElem.mp hQs j i (by omega) hil hji
          rw [List.getElem?_eq_getElem (by omega)] at hj hri
          cases hj
          cases hri
          exact this
        refine br_f c ⟨k4, nm_R (by rw [a3]; exact b5) ⟨k7, ?_⟩⟩
        refine x_addEntry C W hb h (by rw [List.length_append]; omega) (fun x hx => ?_) (by rw [List.length_append]; omega) hr (fun p s2 p1 p2 p3 p4 h2 => ?_)
        · rcases List.mem_append.mp hx with hx | hx
          · exact hRL x hx
          · exact hQ x (List.mem_of_mem_take (hSQ x hx))
        · rw [List.length_append] at p2
          have e1 : (RL ++ S).take p ++ r :: (RL ++ S).drop p = RL ++ (S.take (p - RL.length) ++ r :: S.drop (p - RL.length)) := by
            rw [List.take_append, List.drop_append, List.take_of_length_le (by omega), List.drop_of_length_le (by omega), List.nil_append, List.append_assoc]
          rw [e1] at h2
          refine x_settle (ret := false) C W hb h2 hr (fun s3 h3 => nm_r (nI_1 i) (nx s3 (S.take (p - RL.length) ++ r :: S.drop (p - RL.length)) (by omega) (ins_sorted (p := p - RL.length) W hS hr hlt (fun j s' hj hj2 => ?_) (fun hp0 s' hs' => ?_) (by omega)) ?_ ?_))
          · exact p3 (RL.length + j) s' (by omega) (by rw [List.getElem?_append_right (by omega), Nat.add_sub_cancel_left]; exact hj2)
          · exact p4 (by omega) s' (by rw [List.getElem?_append_right (by omega), show p - 1 - RL.length = p - RL.length - 1 by omega]; exact hs')
          · exact ins_perm.trans (hP.append_right [r])
          · have e : (fun x => led x + tot (ct V G false x) ((Q.take i).filter (due V)) + ct V G false x r) = fun x => led x + tot (ct V G false x) ((Q.take i).filter (due V) ++ [r]) := by
              funext x
              rw [tot_app, Int64.add_assoc]
            rw [← e]
            exact h3
  have e0 : (fun x => led x + tot (ct V G false x) ((Q.take 0).filter (due V))) = led := by
    funext x
    show led x + 0 = _
    rw [Int64.add_zero]
  have := loop Q.length 0 σ' [] (by omega) List.Pairwise.nil (List.Perm.refl _) (by rw [e0, List.append_nil]; exact h)
  exact ⟨Q.length + 1, by omega, this⟩
theorem c_window (C : CI L cx σ V G) (W : WF V G n) (hn : n < 64) {post : Int32 → St → Prop} (p : Int32) (hbad : (∀ k, k < G.1 0 → p ≠ nI k) → post (-1) σ) (hopen : ∀ b, b < G.1 0 → p = nI b → G.2.1 6 b < (G.2.2 1 b).length → post (-4) σ) (hp : ∀ b, b < G.1 0 → p = nI b → (G.2.2 1 b).length ≤ G.2.1 6 b → ∀ s S, S.Pairwise (kls V false) → S.Perm ((wQ V G b).filter (due V)) → WI L V G b σ s (G.2.2 0 b ++ S) (G.2.2 0 b).length (fun x => V.2.2 1452 x + tot (ct V G true x) (G.2.2 0 b) + tot (ct V G false x) ((wQ V G b).filter (due V))) ((wQ V G b).filter (fun r => !due V r)) [] → post (nI ((G.2.2 0 b).length + S.length)) s) : wX7_window cx p post σ := by
  have h5 := W.1.2.1
  have hnr : G.1 6 ≤ n := W.1.2.2.2.2.2.2.2.2.2.2.2.2.2.1
  unfold wX7_window
  refine ⟨C.k.1, c_bankAt C.k C.f C.b h5 p (fun z => br_t rfl (hbad z)) (fun b hb e => br_f (by simp) ?_)⟩
  obtain ⟨b1, b2, b3, b4, b5, b6, b7⟩ := C.b.2 b hb
  have k4 : sK σ (L 4 b) = 2 := C.k.knd 4 b hb
  have k7 : sK σ (L 7 b) = 6 := C.k.knd 7 b hb
  obtain ⟨o1, o2, o3⟩ := C.o b hb
  obtain ⟨v1, v2, v3, v4, v5, v6⟩ := W.2.2.2.2.2.2.2 b
  obtain ⟨t1, t2, t3⟩ := W.2.2.2.2.2.2.1 b
  have hol : (G.2.2 1 b).length ≤ G.1 6 := nodup_len _ _ v2 v3
  have hrm : ∀ r, r ∈ G.2.2 0 b → r < G.1 6 := fun r hr => ((t1 r).mp hr).1
  have hrnd : (G.2.2 0 b).Nodup := by
    refine List.Pairwise.imp (fun {x y} z e => ?_) t2
    rw [e] at z
    exact absurd z Int32.lt_irrefl
  -- what waits and what is to be returned: together no more than the rows
  have hqm : ∀ r, r ∈ wQ V G b → r < G.1 6 := fun r hr => List.mem_range.mp (List.mem_filter.mp hr).1
  have hqs : (wQ V G b).Pairwise (fun r s => r < s) := List.Pairwise.filter _ List.pairwise_lt_range
  have hqnd : (wQ V G b).Nodup := List.Pairwise.imp (fun {x y} z e => by omega) hqs
  have hdis : (G.2.2 0 b ++ wQ V G b).Nodup := by
    refine List.nodup_append.mpr ⟨hrnd, hqnd, fun x hx y hy e => ?_⟩
    subst e
    have h2 := ((t1 x).mp hx).2.1
    have h3 := (of_decide_eq_true (List.mem_filter.mp hy).2).1
    rw [h2] at h3
    exact absurd h3 (by decide)
  have hlen := nodup_len _ _ hdis (fun x hx => by
    rcases List.mem_append.mp hx with hx | hx
    · exact hrm x hx
    · exact hqm x hx)
  rw [List.length_append] at hlen
  refine ⟨L 4 b, rfl, k4, nm_R b5 ⟨k7, ?_⟩⟩
  unfold wX5_isDone
  refine ⟨k7, k7, nm_R b6 (q_size (k := (G.2.2 1 b).length) (C.k.ls 8 b (by omega) hb) (by rw [o1]; simp) ?_)⟩
  rw [C.d b hb]
  refine pk_lt (G.2.1 6 b) (G.2.2 1 b).length (fun z => br_t rfl (hopen b hb e z)) (fun z => br_f (by decide) ⟨k4, nm_R b5 ⟨k7, ?_⟩⟩)
  refine x_outclear C hb (fun s1 w1 => x_handOutReturns C W hb w1 hrm (by omega) (fun s2 w2 => ⟨by rw [w2.2.1]; exact C.k.1, x_handOutEntries C W hb w2 hrm hqm hqs (by omega) (fun s3 S hS hP w3 => ?_)⟩))
  have k4' : sK s3 (L 4 b) = 2 := by rw [w3.2.1]; exact k4
  have k7' : sK s3 (L 7 b) = 6 := by rw [w3.2.1]; exact k7
  refine ⟨k4', nm_R (by rw [w3.2.2.1]; exact b5) ⟨k7', ?_⟩⟩
  unfold wX5_size
  refine ⟨k7', nm_R (by rw [w3.2.2.1]; exact b6) (q_size (k := (G.2.2 0 b).length + S.length) (by rw [w3.2.1]; exact C.k.ls 8 b (by omega) hb) (by rw [w3.2.2.2.2.2.2.2.2.2.1, List.length_map, List.length_append]) ?_)⟩
  exact hp b hb e z s3 S hS hP w3
end WD
