/-! POST, the call -/
section PPD
variable {L : LY} {cx mx : Nat} {A : Nat → Nat} {σ σ' s : St} {V V' U : MV} {G : GH} {n N b k d r a g p w : Nat}
theorem gD_self : gD G b (G.2.1 6 b) = G := by
  unfold gD
  refine Prod.ext rfl (Prod.ext ?_ rfl)
  funext t i
  show (if t = 6 ∧ i = b then G.2.1 6 b else G.2.1 t i) = G.2.1 t i
  by_cases c : t = 6 ∧ i = b
  · rw [if_pos c, c.1, c.2]
  · rw [if_neg c]
theorem c_post (C : CI L cx σ V G) (W : WF V G n) (hn : n < 64) {post : Int32 → St → Prop} (p q : Int32) (hbad : ((∀ k, k < G.1 0 → p ≠ nI k) ∨ ∀ m, 1 ≤ m → m ≤ 40 → q ≠ nI m) → post (-1) σ) (hp : ∀ b m, b < G.1 0 → p = nI b → 1 ≤ m → m ≤ 40 → q = nI m → ∀ s G', CI L cx s (dps (G.1 1) b (min m ((G.2.2 1 b).length - G.2.1 6 b)) (G.2.1 6 b) (0, V)).2 G' → WF (dps (G.1 1) b (min m ((G.2.2 1 b).length - G.2.1 6 b)) (G.2.1 6 b) (0, V)).2 G' (n + 1) → AG mTag σ s → post (dps (G.1 1) b (min m ((G.2.2 1 b).length - G.2.1 6 b)) (G.2.1 6 b) (0, V)).1 s) : wX7_post cx p q post σ := by
  have h5 := W.1.2.1
  have hnr : G.1 6 ≤ n := W.1.2.2.2.2.2.2.2.2.2.2.2.2.2.1
  have h7 : G.1 7 ≤ 40 * n := W.1.2.2.2.2.2.2.2.2.2.2.2.2.2.2.2.1
  unfold wX7_post
  refine ⟨C.k.1, c_bankAt C.k C.f C.b h5 p (fun z => br_t rfl (hbad (Or.inl z))) (fun b hb e => br_f (by simp) ?_)⟩
  rcases nI_lt_cases q 41 (by decide) with ⟨m, hm, rfl⟩ | hr
  rotate_left
  · have hq := nI_no (by decide) hr
    have hb2 := hbad (Or.inr (fun m _ h2 => hq m (by omega)))
    rcases hr with h | ⟨h, h2⟩
    · refine br_t ?_ hb2
      rw [Int32.lt_iff_toInt_lt] at h ⊢
      have e0 : (0 : Int32).toInt = 0 := by decide
      have e1 : (1 : Int32).toInt = 1 := by decide
      omega
    · refine br_f (fun z => ?_) (br_f (fun z => ?_) hb2)
      · rw [Int32.le_iff_toInt_le] at h2
        rw [Int32.lt_iff_toInt_lt] at z
        have e1 : (1 : Int32).toInt = 1 := by decide
        have e2 : (nI 41).toInt = 41 := by decide
        omega
      · rw [Int32.le_iff_toInt_le] at h2 z
        have e1 : (40 : Int32).toInt = 40 := by decide
        have e2 : (nI 41).toInt = 41 := by decide
        omega
  refine pk_lt m 1 (fun c => hbad (Or.inr (fun m' h1 h2 e' => by
    rw [nI_eq (by omega) (by omega)] at e'
    omega))) (fun c1 => pk_le m 40 (fun c40 => ?_) (fun z => by omega))
  obtain ⟨b1, b2, b3, b4, b5, b6, b7⟩ := C.b.2 b hb
  obtain ⟨v1, v2, v3, v4, v5, v6⟩ := W.2.2.2.2.2.2.2 b
  have hol : (G.2.2 1 b).length ≤ G.1 6 := nodup_len _ _ v2 v3
  have k4 : sK σ (L 4 b) = 2 := C.k.knd 4 b hb
  have k7 : sK σ (L 7 b) = 6 := C.k.knd 7 b hb
  refine ⟨L 4 b, rfl, k4, nm_R b5 ⟨k7, k7, c_out_size C hb ?_⟩⟩
  rw [C.d b hb]
  have e1 : (if nI (G.2.2 1 b).length < nI (G.2.1 6 b) + nI m then nI (G.2.2 1 b).length else nI (G.2.1 6 b) + nI m) = nI (G.2.1 6 b + min m ((G.2.2 1 b).length - G.2.1 6 b)) := by
    rw [nI_add]
    by_cases c : (G.2.2 1 b).length < G.2.1 6 b + m
    · rw [if_pos (nI_lt c (by omega))]
      congr 1
      omega
    · rw [if_neg (nI_nlt (by omega) (by omega))]
      congr 1
      omega
  refine nm_r e1 ⟨k7, nm_r rfl ⟨min m ((G.2.2 1 b).length - G.2.1 6 b) + 1, by omega, ?_⟩⟩
  exact x_items (cap := 0) (N := n + 1) (dn := G.2.1 6 b) (by omega) _ _ V G σ 0 W.le (by rw [gD_self]; exact C) AG.rfl' hb rfl (by omega) (by omega) (hp b m hb e c1 c40 rfl)
theorem h_post {x1 x2 : Int32} (hn : n < 64) (I : Inv cx mx n σ) : law_post cx mx (Inv cx mx (n + 1)) x1 x2 σ := by
  obtain ⟨A, V, G, L, M, W, C⟩ := I
  have I' : Inv cx mx (n + 1) σ := ⟨A, V, G, L, M, W.le, C⟩
  have wn := W.1
  have h5 := wn.2.1
  have hnr : G.1 6 ≤ n := wn.2.2.2.2.2.2.2.2.2.2.2.2.2.1
  unfold law_post
  refine c_post C W hn x1 x2 (fun h => ⟨M.mx, m_post M x1 x2 wn.1 h5 wn.2.2.1 wn.2.2.2.1 (fun _ => ⟨rfl, I'⟩) (fun b m hb e h1 h40 e2 => ?_)⟩) (fun b m hb e h1 h40 e2 s G' C1 W1 g1 => ⟨(M.ag g1).mx, m_post (M.ag g1) x1 x2 wn.1 h5 wn.2.2.1 wn.2.2.2.1 (fun h => ?_) (fun b' m' hb' e' h1' h40' e2' => ?_)⟩)
  · exfalso
    rcases h with h | h
    · exact h b hb e
    · exact h m h1 h40 e2
  · exfalso
    rcases h with h | h
    · exact h b hb e
    · exact h m h1 h40 e2
  · have q1 : b' = b := by rw [e, nI_eq (by omega) (by omega)] at e'; exact e'.symm
    have q2 : m' = m := by rw [e2, nI_eq (by omega) (by omega)] at e2'; exact e2'.symm
    subst q1
    subst q2
    obtain ⟨v1, v2, v3, v4, v5, v6⟩ := W.2.2.2.2.2.2.2 b'
    have hol : (G.2.2 1 b').length ≤ G.1 6 := nodup_len _ _ v2 v3
    refine ⟨(G.2.2 1 b').length, G.2.1 6 b', by omega, v5, ⟨v1, wn.2.2.1, fun j hj => ?_, fun j h1 h2 => ?_⟩, fun j hj => ?_, fun σ2 M2 g2 => ⟨rfl, A, _, G', L, M2, W1, C1.ag g2 (fun t h => h) W1.1.2.2.2.2.2.2.2.1 W1.1.2.2.2.2.2.2.2.2.2.2.2.2.2.2.2.2.2⟩⟩
    · obtain ⟨r, hr⟩ : ∃ r, (G.2.2 1 b')[j]? = some r := ⟨_, List.getElem?_eq_getElem hj⟩
      have := v3 r (List.mem_of_getElem? hr)
      exact ⟨r, by omega, (v6 j r hr).1⟩
    · obtain ⟨r, hr⟩ : ∃ r, (G.2.2 1 b')[j]? = some r := ⟨_, List.getElem?_eq_getElem h2⟩
      rw [(v6 j r hr).2.2.1, if_neg (by omega)]
    · obtain ⟨r, hr⟩ : ∃ r, (G.2.2 1 b')[j]? = some r := ⟨_, List.getElem?_eq_getElem (by omega)⟩
      rw [(v6 j r hr).2.2.1, if_pos hj]
      split <;> decide
end PPD
