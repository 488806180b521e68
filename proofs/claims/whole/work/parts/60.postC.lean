/-! POST, put together -/
section PPC
variable {L : LY} {cx mx : Nat} {A : Nat → Nat} {σ σ' s : St} {V V' U : MV} {G : GH} {n N b k d r a g p w : Nat}
theorem wy_cs (V : MV) (na r : Nat) : wy V na r = 0 ∨ kno (wy V na r) := by
  unfold wy kno
  split
  · omega
  · cases ac V na (V.2.1 1482 r) (V.2.1 1483 r) with
    | none => dsimp only; omega
    | some a => dsimp only; repeat' split <;> try omega
theorem wy_0 {na : Nat} (h : wy V na r = 0) : ∃ a, a < na ∧ ac V na (V.2.1 1482 r) (V.2.1 1483 r) = some a := by
  cases ha : ac V na (V.2.1 1482 r) (V.2.1 1483 r) with
  | some a => exact ⟨a, by have := (fnd_some ha).2.1; omega, rfl⟩
  | none =>
    unfold wy at h
    rw [ha] at h
    split at h
    · omega
    · dsimp only at h; omega
theorem x_reason (C : CI L cx σ V G) (hr : r < G.1 6) {post : Int32 → St → Prop} (hp : post (nI (wy V (G.1 1) r)) σ) : wX7_reasonToSendBack (some (L 11 r)) ((ac V (G.1 1) (V.2.1 1482 r) (V.2.1 1483 r)).map (L 10)) post σ := by
  obtain ⟨c0, c1, c2, c3, c4, c5, c6, c7⟩ := C.r r hr
  have kr : sK σ (L 11 r) = 4 := C.k.knd 11 r hr
  unfold wX7_reasonToSendBack
  refine ⟨L 11 r, rfl, kr, c_right (n := 6) (by decide) (by decide) ?_⟩
  rw [c2]
  unfold wy at hp
  by_cases c : rgt (V.2.1 1483 r) 6
  rotate_left
  · rw [if_pos c] at hp
    exact ⟨fun z => absurd z c, fun _ => br_t rfl hp⟩
  rw [if_neg (fun z => z c)] at hp
  refine ⟨fun _ => br_f (by decide) ?_, fun z => absurd c z⟩
  cases ha : ac V (G.1 1) (V.2.1 1482 r) (V.2.1 1483 r) with
  | none =>
    rw [ha] at hp
    exact br_t rfl hp
  | some a =>
    rw [ha] at hp
    dsimp only at hp
    have han : a < G.1 1 := by have := (fnd_some ha).2.1; omega
    have ka : sK σ (L 10 a) = 1 := C.k.knd 10 a han
    refine br_f (by simp) ⟨L 10 a, rfl, ka, ?_⟩
    rw [C.as a han]
    by_cases cs : V.2.1 1458 a = 0
    rotate_left
    · rw [if_pos cs] at hp
      exact br_f cs hp
    rw [if_neg (fun z => z cs)] at hp
    refine br_t cs ⟨kr, ?_⟩
    rw [c0]
    by_cases c7' : V.2.1 1480 r = 7
    · refine br_t c7' ⟨ka, kr, ?_⟩
      rw [lg_cmp_ge, C.ab a han, c3]
      by_cases cl : V.2.2 1457 a < (V.2.1 1484 r).toInt64
      · rw [if_pos ⟨c7', cl⟩] at hp
        exact br_f (Int64.not_le.mpr cl) hp
      · rw [if_neg (fun z => cl z.2)] at hp
        exact br_t (Int64.not_lt.mp cl) hp
    · rw [if_neg (fun z => c7' z.1)] at hp
      exact br_f c7' hp
theorem neg_l {x : Nat} (h : x < 10000000) : (-(nI x)).toInt64 = -(nI x).toInt64 := by
  rw [← Int64.toInt_inj, Int32.toInt_toInt64, Int64.toInt_neg, Int32.toInt_neg, Int32.toInt_toInt64, nI_toInt (by omega)]
  rw [Int.bmod_eq_of_le (by omega) (by omega), Int.bmod_eq_of_le (by omega) (by omega)]
theorem x_one (C : CI L cx σ V G) (wa : wA V G) (wr : wR V G) (h5 : G.1 0 ≤ 5) (h12 : G.1 1 ≤ 12) (h4 : G.1 3 ≤ 4) (hr : r < G.1 6) (h87 : V.2.1 1487 r = 1) (h88 : V.2.1 1488 r = 0) (hl : (G.2.2 0 (G.2.1 1 r)).length < 65) {post : Int32 → St → Prop} (hpost : wy V (G.1 1) r = 0 → ∀ a, ac V (G.1 1) (V.2.1 1482 r) (V.2.1 1483 r) = some a → ∀ s, CI L cx s (mJ V 1457 a (amtV V r (V.2.2 1457 a))) G → AG mTag σ s → post 1 s) (hback : wy V (G.1 1) r ≠ 0 → ∀ s, CI L cx s (bV V p r (wy V (G.1 1) r)) (bR G (G.2.1 1 r) r) → AG mTag σ s → post 0 s) : wX7_postOrSendBack cx (some (L 11 r)) post σ := by
  obtain ⟨c0, c1, c2, c3, c4, c5, c6, c7⟩ := C.r r hr
  obtain ⟨w1, w2, w3, w4, ⟨x, hx, ex⟩, w6⟩ := wr.1 r hr
  have K := C.k
  have kr : sK σ (L 11 r) = 4 := K.knd 11 r hr
  have mr : ¬ mTag (sK σ (L 11 r)) := by rw [kr]; exact (kd_c 11 r).2
  unfold wX7_postOrSendBack
  refine ⟨L 11 r, rfl, kr, nm_o c7 ⟨kr, K.1, c_accountOf K C.f C.a wa h5 h12 w4 ?_⟩⟩
  rw [← w3, c2]
  refine x_reason C hr ⟨kr, fun s1 e1 => ⟨by rw [e1]; exact kr, ?_⟩⟩
  have v8 : sI s1 208 (L 11 r) 0 = nI (wy V (G.1 1) r) := by rw [e1, sI_uI, if_pos ⟨rfl, rfl, rfl⟩]
  rw [v8]
  have hw5 := wy_lt V (G.1 1) r
  have hwk := wy_cs V (G.1 1) r
  have k33 : wy V (G.1 1) r ≠ 0 → wX7_postOrSendBack_33 cx post (some (L 11 r)) s1 := fun hw => by
    unfold wX7_postOrSendBack_33
    have K1 : cK L cx s1 G := cK.kk K (by rw [e1]; rfl)
    have F1 : cF L cx s1 := by rw [e1]; exact C.f
    have kr1 : sK s1 (L 11 r) = 4 := by rw [e1]; exact kr
    refine ⟨K1.1, ?_⟩
    unfold wX7_sendBack
    refine ⟨L 11 r, rfl, kr1, K1.1, ?_⟩
    rw [v8]
    refine c_countRefusal K1 F1 (by omega) ⟨kr1, nm_R (show sR _ 206 (L 11 r) 0 = some (L 4 (G.2.1 1 r)) by rw [e1]; exact c6) ⟨by rw [e1]; exact K.knd 4 _ w2, ?_⟩⟩
    have r103 := (C.b.2 _ w2).2.2.2.1
    have kl := K.ls 6 (G.2.1 1 r) (by omega) w2
    have hlen : (sL σ (L 6 (G.2.1 1 r))).length = (G.2.2 0 (G.2.1 1 r)).length := by rw [(C.w _ w2).2, List.length_map]
    subst e1
    refine nm_R r103 (q_size (k := (G.2.2 0 (G.2.1 1 r)).length) kl hlen (pk_le 512 (G.2.2 0 (G.2.1 1 r)).length (fun h => absurd h (by omega)) (fun _ => ⟨kr, nm_R c6 ⟨K.knd 4 _ w2, nm_R r103 ⟨kl, L 11 r, rfl, ?_, ?_, ?_⟩⟩⟩)))
    · show sK σ (L 11 r) = rElt (sK σ (L 6 (G.2.1 1 r)))
      rw [kr, K.knd 6 _ w2]; rfl
    · show (sL σ (L 6 (G.2.1 1 r))).length < 65
      omega
    · have hb := CI.back (p := p) C hr w2 h87 (hwk.resolve_left hw) h4
      have e5 : sI (uI σ 208 (L 11 r) 0 (nI (wy V (G.1 1) r))) 1405 (L 0 4) (wy V (G.1 1) r) = sI σ 1405 (L 0 4) (wy V (G.1 1) r) := by rw [sI_ne (by decide)]
      rw [e5]
      refine hback hw _ hb (((AG.rfl'.uI mr).uI ?_).uL ?_)
      · show ¬ mTag (sK σ (L 0 4))
        rw [K.fix 4 (by decide)]; exact (kd_c 0 4).2
      · show ¬ mTag (sK σ (L 6 (G.2.1 1 r)))
        rw [K.knd 6 _ w2]; exact (kd_c 6 _).2
  refine pk_eq (wy V (G.1 1) r) 0 (fun c => ?_) (fun c => k33 c)
  obtain ⟨a, han, ha⟩ := wy_0 c
  rw [ha]
  have ka : sK σ (L 10 a) = 1 := K.knd 10 a han
  rw [c] at e1
  have k67 : ∀ y2, sJ σ 52 (L 10 a) 0 + y2 = amtV V r (V.2.2 1457 a) → wX7_postOrSendBack_67 cx post (some (L 10 a)) (sJ s1 52 (L 10 a) 0) y2 s1 := fun y2 hy => by
    unfold wX7_postOrSendBack_67
    refine ⟨L 10 a, rfl, by rw [e1]; exact ka, fun s2 e2 => ?_⟩
    have e3 : s2 = uJ (uI σ 208 (L 11 r) 0 0) 52 (L 10 a) 0 (amtV V r (V.2.2 1457 a)) := by
      rw [e2, e1, ← hy]
      rfl
    rw [e3]
    refine hpost c a ha _ (CI.posted C hr han h88 h4) ((AG.rfl'.uI mr).uJ ?_)
    show ¬ mTag (sK σ (L 10 a))
    rw [ka]
    exact (kd_c 10 a).2
  refine br_f (by simp) ⟨L 10 a, rfl, by rw [e1]; exact ka, by rw [e1]; exact kr, ?_⟩
  have v0 : sI s1 200 (L 11 r) 0 = V.2.1 1480 r := by rw [e1, sI_ne (by decide)]; exact c0
  have v3 : sI s1 203 (L 11 r) 0 = V.2.1 1484 r := by rw [e1, sI_ne (by decide)]; exact c3
  rw [v0, v3]
  by_cases c2' : V.2.1 1480 r = 2
  · refine br_t c2' ⟨by rw [e1]; exact kr, k67 _ ?_⟩
    unfold amtV
    rw [if_pos c2', C.ab a han]
  · refine br_f c2' ⟨by rw [e1]; exact kr, k67 _ ?_⟩
    unfold amtV
    rw [if_neg c2', C.ab a han, ex, neg_l hx]
    exact (Int64.sub_eq_add_neg _ _).symm
theorem doV_ret {na : Nat} (h93 : ¬ V.2.1 1493 p = 0) : doV na V p = (0, mA V 1494 p 1) := by
  unfold doV
  dsimp only
  rw [if_pos h93]
theorem doV_back {na : Nat} (h92 : V.2.1 1492 p = nI r) (h31 : r < 2 ^ 31) (h93 : V.2.1 1493 p = 0) (hw : wy V na r ≠ 0) : doV na V p = (0, bV V p r (wy V na r)) := by
  unfold doV
  dsimp only
  rw [h92, nI_clamp h31, if_neg (fun z => z h93), if_pos hw]
  rfl
theorem doV_post {na : Nat} (h92 : V.2.1 1492 p = nI r) (h31 : r < 2 ^ 31) (h93 : V.2.1 1493 p = 0) (hw : wy V na r = 0) (ha : ac V na (V.2.1 1482 r) (V.2.1 1483 r) = some a) : doV na V p = (1, mJ (mA V 1494 p 1) 1457 a (amtV V r (V.2.2 1457 a))) := by
  unfold doV
  dsimp only
  rw [h92, nI_clamp h31, if_neg (fun z => z h93), if_neg (fun z => z hw), ha]
theorem WF.mj (W : WF V G N) {x : Int64} : WF (mJ V 1457 a x) G N := by
  obtain ⟨a1, b2, b3, b4, b5, b6, b7, b8⟩ := W
  refine ⟨a1, ⟨b2.1, b2.2.1, fun b' hb' => ?_⟩, b3, b4, b5, b6, b7, b8⟩
  obtain ⟨c1, c2⟩ := b2.2.2 b' hb'
  refine ⟨?_, c2⟩
  rw [mJ_3, if_neg (fun z => absurd z.1 (by decide))]
  exact c1
/-- the items of one post -/
theorem x_items {σ0 : St} {b dn cap : Nat} {post : Int32 → St → Prop} (hN : N ≤ 64) : ∀ (c k : Nat) (V : MV) (G : GH) (σ : St) (sm : Int32), WF V G N → CI L cx σ V (gD G b dn) → AG mTag σ0 σ → b < G.1 0 → G.2.1 6 b = k → k + c ≤ (G.2.2 1 b).length → G.1 7 + c ≤ 40 * N → (∀ s G', CI L cx s (dps (G.1 1) b c k (sm, V)).2 G' → WF (dps (G.1 1) b c k (sm, V)).2 G' N → AG mTag σ0 s → post (dps (G.1 1) b c k (sm, V)).1 s) → wX7_post_56 cx post (c + 1) (some (L 7 b)) (nI (k + c)) sm (nI k) σ := by
  intro c
  induction c with
  | zero =>
    intro k V G σ sm W C g0 hb hk hkc h7 hp
    have hnr : G.1 6 ≤ N := W.1.2.2.2.2.2.2.2.2.2.2.2.2.2.1
    have hol : (G.2.2 1 b).length ≤ G.1 6 := by
      obtain ⟨v1, v2, v3, v4, v5, v6⟩ := W.2.2.2.2.2.2.2 b
      exact nodup_len _ _ v2 v3
    have k7 : sK σ (L 7 b) = 6 := C.k.knd 7 b hb
    unfold wX7_post_56
    refine pk_le (k + 0) k (fun _ => ⟨L 7 b, rfl, k7, fun s e => ?_⟩) (fun z => by omega)
    rw [e]
    exact hp _ G (C.done hb hk) W (g0.trans (AG.rfl'.uI (by rw [k7]; exact (kd_c 7 b).2)))
  | succ c ih =>
    intro k V G σ sm W C g0 hb hk hkc h7 hp
    have hnr : G.1 6 ≤ N := W.1.2.2.2.2.2.2.2.2.2.2.2.2.2.1
    have h5 := W.1.2.1
    have h12 := W.1.2.2.2.1
    have h4 := W.1.2.2.2.2.2.2.2.1
    obtain ⟨v1, v2, v3, v4, v5, v6⟩ := W.2.2.2.2.2.2.2 b
    have hol : (G.2.2 1 b).length ≤ G.1 6 := nodup_len _ _ v2 v3
    have k7 : sK σ (L 7 b) = 6 := C.k.knd 7 b hb
    have hkl : k < (G.2.2 1 b).length := by omega
    obtain ⟨r, hr⟩ : ∃ r, (G.2.2 1 b)[k]? = some r := ⟨_, List.getElem?_eq_getElem hkl⟩
    obtain ⟨i1, i2, i3, i4⟩ := item_at W hk hr
    have kr : sK σ (L 11 r) = 4 := C.k.knd 11 r i1
    rw [show k + (c + 1) = k + 1 + c by omega]
    unfold wX7_post_56
    refine pk_le (k + 1 + c) k (fun z => by omega) (fun _ => ⟨L 7 b, rfl, k7, c_isReturn (G := gD G b dn) C hb (by omega) (show G.2.1 5 b < 2 ^ 31 by omega) (fun hret => ?_) (fun hret => ?_)⟩)
    · have hret : k < G.2.1 5 b := hret
      have e93 : ¬ V.2.1 1493 (512 * b + k) = 0 := by rw [i3, if_pos hret]; decide
      have hd := doV_ret (na := G.1 1) e93
      refine br_f (by decide) (nm_r (nI_1 k) (ih (k + 1) _ (gD G b (k + 1)) σ sm (W.mark hN hk hr (Or.inl hret)) ?_ g0 hb (by rw [gD_6, if_pos rfl]) (show k + 1 + c ≤ (G.2.2 1 b).length by omega) (show G.1 7 + c ≤ 40 * N by omega) (fun s G' C' W' g' => ?_)))
      · rw [gD_gD]
        exact C.cv (fun t ht => mA_o ht) rfl rfl
      · have hp := hp s G'
        unfold dps at hp
        dsimp only at hp
        rw [hd] at hp
        dsimp only at hp
        rw [Int32.add_zero] at hp
        exact hp C' W' g'
    · have hret : ¬ k < G.2.1 5 b := hret
      have e93 : V.2.1 1493 (512 * b + k) = 0 := by rw [i3, if_neg hret]
      obtain ⟨i5, i6, i7⟩ := i4 (by omega)
      have hrn : r ∉ G.2.2 0 (G.2.1 1 r) := fun z => by
        have := ((W.2.2.2.2.2.2.1 (G.2.1 1 r)).1 r).mp z
        rw [i6] at this
        exact absurd this.2.1 (by decide)
      have hbl : (G.2.2 0 (G.2.1 1 r)).length ≤ G.1 6 := by
        obtain ⟨t1, t2, t3⟩ := W.2.2.2.2.2.2.1 (G.2.1 1 r)
        refine nodup_len _ _ (List.Pairwise.imp (fun {x y} z e => ?_) t2) (fun x hx => ((t1 x).mp hx).1)
        rw [e] at z
        exact absurd z Int32.lt_irrefl
      refine br_t rfl ⟨k7, nm_R (C.b.2 b hb).2.2.2.2.2.1 (q_get (C.k.ls 8 b (by omega) hb) (by omega) (x := L 11 r) (by rw [(C.o b hb).1, List.getElem?_map]; show ((G.2.2 1 b)[k]?).map _ = _; rw [hr]; rfl) ⟨L 11 r, rfl, kr, C.k.1, ?_⟩)⟩
      refine x_one (G := gD G b dn) (p := 512 * b + k) C W.2.2.1 W.2.2.2.2.2.1 h5 h12 h4 i1 i6 i7 (show (G.2.2 0 (G.2.1 1 r)).length < 65 by omega) (fun hw a ha s C1 g1 => ?_) (fun hw s C1 g1 => ?_)
      · have hd := doV_post (na := G.1 1) i2 (by omega) e93 hw ha
        refine br_f (by decide) (nm_r rfl (nm_r (nI_1 k) (ih (k + 1) (mJ (mA V 1494 (512 * b + k) 1) 1457 a (amtV V r (V.2.2 1457 a))) (gD G b (k + 1)) s (sm + 1) (W.mark hN hk hr (Or.inr i7)).mj ?_ (g0.trans g1) hb (by rw [gD_6, if_pos rfl]) (show k + 1 + c ≤ (G.2.2 1 b).length by omega) (show G.1 7 + c ≤ 40 * N by omega) (fun s' G' C' W' g' => ?_))))
        · rw [gD_gD]
          exact C1.cv (fun t ht => mA_o ht) rfl rfl
        · have hp := hp s' G'
          unfold dps at hp
          dsimp only at hp
          rw [hd] at hp
          exact hp C' W' g'
      · have hd := doV_back (na := G.1 1) i2 (by omega) e93 hw
        have hw5 := wy_lt V (G.1 1) r
        refine br_t rfl (nm_r (nI_1 k) (ih (k + 1) _ (bG G b k (G.2.1 1 r) r) s sm (W.back hN (by omega) hk hr (by omega) (Nat.pos_of_ne_zero hw) (show wy V (G.1 1) r < 34 by omega)) ?_ (g0.trans g1) hb (by rw [bG_6, if_pos rfl]) (by rw [bG_l]; omega) (show G.1 7 + 1 + c ≤ 40 * N by omega) (fun s' G' C' W' g' => ?_)))
        · rw [bR_bG]
          exact C1
        · have hp := hp s' G'
          unfold dps at hp
          dsimp only at hp
          rw [hd] at hp
          dsimp only at hp
          rw [Int32.add_zero] at hp
          exact hp C' W' g'
end PPC
