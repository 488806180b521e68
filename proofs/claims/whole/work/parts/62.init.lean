/-! THE START -/
section INI
variable {σ σ' σ0 s : St} {o a1 q mx : Nat}
/-- all numbers zero, all lists empty -/
def Zr (σ : St) : Prop := (∀ g a j, sI σ g a j = 0) ∧ ∀ a, sL σ a = []
theorem Zr.uN (h : Zr σ) {q t : Nat} : Zr (uN σ q t) := ⟨fun g a j => by
  rw [sI_uN]
  by_cases c : a = q
  · rw [if_pos c]
  · rw [if_neg c]; exact h.1 g a j, fun a => by
  rw [sL_uN]
  by_cases c : a = q
  · rw [if_pos c]
  · rw [if_neg c]; exact h.2 a⟩
theorem Zr.uT (h : Zr σ) {q t : Nat} : Zr (uT σ q t) := ⟨h.1, fun a => by
  rw [sL_uT]
  by_cases c : a = q
  · rw [if_pos c]
  · rw [if_neg c]; exact h.2 a⟩
theorem Zr.uR (h : Zr σ) {f a i : Nat} {v : Option Nat} : Zr (uR σ f a i v) := h
theorem Zr.uI (h : Zr σ) {f a i : Nat} : Zr (uI σ f a i 0) := ⟨fun g b j => by
  rw [sI_uI]
  by_cases c : g = f ∧ b = a ∧ j = i
  · rw [if_pos c]
  · rw [if_neg c]; exact h.1 g b j, h.2⟩
/-- the batches below i are made -/
def BI (σ0 σ : St) (a1 i : Nat) (B l T : Nat → Nat) : Prop := Zr σ ∧ (∀ a, sK σ0 a ≠ 0 → sK σ a = sK σ0 a) ∧ (∀ g a j, sK σ0 a ≠ 0 → ¬ (g = 1250 ∧ a = a1) → g ≠ 252 → sR σ g a j = sR σ0 g a j) ∧ (∀ k, k < i → (sK σ (B k) = 3 ∧ sK σ (l k) = 22 ∧ sK σ (T k) = 7) ∧ (sR σ 1250 a1 k = some (B k) ∧ sR σ 150 (B k) 0 = some (l k) ∧ sR σ 151 (B k) 0 = some (T k)) ∧ sK σ0 (B k) = 0 ∧ sK σ0 (l k) = 0 ∧ sK σ0 (T k) = 0) ∧ ∀ k k', k < i → k' < i → (B k = B k' → k = k') ∧ (l k = l k' → k = k') ∧ (T k = T k' → k = k')
theorem i_loop {post : St → Prop} (ho : sK σ0 o = 5) (ha : sK σ0 a1 = 1250) (hr : sR σ0 250 o 0 = some a1) (hp : ∀ s B l T, BI σ0 s a1 4 B l T → post (uR s 252 o 0 (some (B 0)))) : ∀ d i σ B l T, i + d = 4 → BI σ0 σ a1 i B l T → wX4_init_25 o post (d + 1) (nI i) σ := by
  intro d
  induction d with
  | zero =>
    intro i σ B l T hi H
    have h4 : i = 4 := by omega
    subst h4
    have H' := H
    obtain ⟨z, k1, r1, b1, j1⟩ := H
    have ko : sK σ o = 5 := by rw [k1 o (by rw [ho]; decide)]; exact ho
    have ka : sK σ a1 = 1250 := by rw [k1 a1 (by rw [ha]; decide)]; exact ha
    have kr : sR σ 250 o 0 = some a1 := by rw [r1 250 o 0 (by rw [ho]; decide) (fun z => absurd z.1 (by decide)) (by decide)]; exact hr
    unfold wX4_init_25
    refine ⟨ko, nm_R kr ⟨ka, br_t (by decide) ⟨ko, nm_R kr ⟨ka, show vp_in (nI 0) 4 from vp_in_nI (by decide) (by decide), nm_o (b1 0 (by decide)).2.1.1 ⟨ko, fun s e => ?_⟩⟩⟩⟩⟩
    rw [e]
    exact hp σ B l T H'
  | succ d ih =>
    intro i σ B l T hi H
    obtain ⟨z, k1, r1, b1, j1⟩ := H
    have ko : sK σ o = 5 := by rw [k1 o (by rw [ho]; decide)]; exact ho
    have ka : sK σ a1 = 1250 := by rw [k1 a1 (by rw [ha]; decide)]; exact ha
    have kr : sR σ 250 o 0 = some a1 := by rw [r1 250 o 0 (by rw [ho]; decide) (fun z => absurd z.1 (by decide)) (by decide)]; exact hr
    unfold wX4_init_25
    refine ⟨ko, nm_R kr ⟨ka, br_f (show ¬ nI 4 ≤ nI i from nI_ge (by omega) (by decide)) ⟨ko, nm_o kr (fun b hb s1 e1 => ?_)⟩⟩⟩
    unfold wX2_init
    intro c hc s2 e2
    have k1b : sK s1 b = 3 := by rw [e1, sK_uN, if_pos rfl]
    have nbc : c ≠ b := fun z => by rw [z, k1b] at hc; cases hc
    have hc0 : sK σ c = 0 := by rw [e1, sK_uN, if_neg nbc] at hc; exact hc
    refine ⟨by rw [e2, sK_uN, if_pos rfl], by rw [e2, sI_uN, if_pos rfl], by decide, ?_⟩
    have k3 : ∀ a, sK (uT s2 c 22) a = if a = c then 22 else if a = b then 3 else sK σ a := fun a => by
      rw [sK_uT, e2, sK_uN, e1, sK_uN]
      by_cases h : a = c
      · rw [if_pos h, if_pos h]
      · rw [if_neg h, if_neg h, if_neg h]
    refine ⟨by rw [k3, if_neg nbc.symm, if_pos rfl], fun s4 e4 => ?_⟩
    intro t ht s5 e5
    have k4 : ∀ a, sK s4 a = if a = c then 22 else if a = b then 3 else sK σ a := fun a => by rw [e4]; exact k3 a
    have ntc : t ≠ c := fun z => by rw [z, k4, if_pos rfl] at ht; cases ht
    have ntb : t ≠ b := fun z => by rw [z, k4, if_neg nbc.symm, if_pos rfl] at ht; cases ht
    have ht0 : sK σ t = 0 := by rw [k4, if_neg ntc, if_neg ntb] at ht; exact ht
    unfold wX6_init
    have k5 : ∀ a, sK s5 a = if a = t then 7 else if a = c then 22 else if a = b then 3 else sK σ a := fun a => by rw [e5, sK_uN, k4]
    refine ⟨by rw [k5, if_neg ntb.symm, if_neg nbc.symm, if_pos rfl], fun s6 e6 => ?_⟩
    have k6 : ∀ a, sK s6 a = if a = t then 7 else if a = c then 22 else if a = b then 3 else sK σ a := fun a => by rw [e6]; exact k5 a
    have nz : ∀ a, sK σ a ≠ 0 → a ≠ t ∧ a ≠ c ∧ a ≠ b := fun a h => ⟨fun z => h (by rw [z]; exact ht0), fun z => h (by rw [z]; exact hc0), fun z => h (by rw [z]; exact hb)⟩
    have k6o : ∀ a, sK σ a ≠ 0 → sK s6 a = sK σ a := fun a h => by
      obtain ⟨h1, h2, h3⟩ := nz a h
      rw [k6, if_neg h1, if_neg h2, if_neg h3]
    refine ⟨a1, rfl, by rw [k6o a1 (by rw [ka]; decide)]; exact ka, vp_in_nI (by omega) (by decide), by rw [k6, if_neg ntb.symm, if_neg nbc.symm, if_pos rfl], fun s7 e7 => nm_r (nI_1 i) ?_⟩
    rw [nI_clamp (by omega)] at e7
    have k7 : sK s7 = sK s6 := by rw [e7]; rfl
    have r7o : ∀ g a j, sK σ a ≠ 0 → ¬ (g = 1250 ∧ a = a1 ∧ j = i) → sR s7 g a j = sR σ g a j := fun g a j h hn => by
      obtain ⟨h1, h2, h3⟩ := nz a h
      rw [e7, sR_uR, if_neg hn, e6, sR_uR, if_neg (fun z => h3 z.2.1), e5, sR_uN, if_neg h1, e4, sR_uR, if_neg (fun z => h3 z.2.1), sR_uT, e2, sR_uN, if_neg h2, e1, sR_uN, if_neg h3]
    have nba : b ≠ a1 := fun z => by rw [z, ka] at hb; cases hb
    refine ih (i + 1) s7 (fun k => if k = i then b else B k) (fun k => if k = i then c else l k) (fun k => if k = i then t else T k) (by omega) ⟨?_, fun a h => ?_, fun g a j h hn h2 => ?_, fun k hk => ?_, fun k k' hk hk' => ?_⟩
    · rw [e7, e6, e5, e4, e2, e1]
      exact ((((z.uN.uN).uT).uR).uN).uR.uR
    · have h1 := k1 a h
      rw [k7, k6o a (by rw [h1]; exact h)]
      exact h1
    · have h1 := k1 a h
      rw [r7o g a j (by rw [h1]; exact h) (fun z => hn ⟨z.1, z.2.1⟩)]
      exact r1 g a j h hn h2
    · dsimp only
      by_cases ck : k = i
      · rw [if_pos ck, if_pos ck, if_pos ck, k7, k6, k6, k6, if_neg ntb.symm, if_neg nbc.symm, if_pos rfl, if_neg ntc.symm, if_pos rfl, if_pos rfl, ck]
        refine ⟨⟨rfl, rfl, rfl⟩, ⟨?_, ?_, ?_⟩, ?_, ?_, ?_⟩
        · rw [e7, sR_uR, if_pos ⟨rfl, rfl, rfl⟩]
        · rw [e7, sR_uR, if_neg (fun z => absurd z.1 (by decide)), e6, sR_uR, if_neg (fun z => absurd z.1 (by decide)), e5, sR_uN, if_neg ntb.symm, e4, sR_uR, if_pos ⟨rfl, rfl, rfl⟩]
        · rw [e7, sR_uR, if_neg (fun z => absurd z.1 (by decide)), e6, sR_uR, if_pos ⟨rfl, rfl, rfl⟩]
        · exact Classical.byContradiction (fun h => by have := k1 b h; rw [hb] at this; exact h this.symm)
        · exact Classical.byContradiction (fun h => by have := k1 c h; rw [hc0] at this; exact h this.symm)
        · exact Classical.byContradiction (fun h => by have := k1 t h; rw [ht0] at this; exact h this.symm)
      · rw [if_neg ck, if_neg ck, if_neg ck, k7]
        obtain ⟨⟨c1, c2, c3⟩, ⟨c4, c5, c6⟩, c7⟩ := b1 k (by omega)
        rw [k6o (B k) (by rw [c1]; decide), k6o (l k) (by rw [c2]; decide), k6o (T k) (by rw [c3]; decide), r7o 1250 a1 k (by rw [ka]; decide) (fun z => ck z.2.2), r7o 150 (B k) 0 (by rw [c1]; decide) (fun z => absurd z.1 (by decide)), r7o 151 (B k) 0 (by rw [c1]; decide) (fun z => absurd z.1 (by decide))]
        exact ⟨⟨c1, c2, c3⟩, ⟨c4, c5, c6⟩, c7⟩
    · have old : ∀ k, k < i + 1 → k ≠ i → b ≠ B k ∧ c ≠ l k ∧ t ≠ T k := fun k hk hne => by
        obtain ⟨⟨c1, c2, c3⟩, _⟩ := b1 k (by omega)
        exact ⟨fun z => (by rw [← z, hb] at c1; cases c1), fun z => (by rw [← z, hc0] at c2; cases c2), fun z => (by rw [← z, ht0] at c3; cases c3)⟩
      by_cases ck : k = i <;> by_cases ck' : k' = i
      · exact ⟨fun _ => ck.trans ck'.symm, fun _ => ck.trans ck'.symm, fun _ => ck.trans ck'.symm⟩
      · obtain ⟨h1, h2, h3⟩ := old k' hk' ck'
        simp only [if_pos ck, if_neg ck']
        exact ⟨fun z => absurd z h1, fun z => absurd z h2, fun z => absurd z h3⟩
      · obtain ⟨h1, h2, h3⟩ := old k hk ck
        simp only [if_neg ck, if_pos ck']
        exact ⟨fun z => absurd z.symm h1, fun z => absurd z.symm h2, fun z => absurd z.symm h3⟩
      · simp only [if_neg ck, if_neg ck']
        exact j1 k k' (by omega) (by omega)
def G0 : GH := (fun _ => 0, fun _ _ => 0, fun _ _ => [])
theorem WF.zero : WF V0 G0 0 := by
  refine ⟨⟨nI_0.symm, Nat.zero_le _, nI_0.symm, Nat.zero_le _, nI_0.symm, Nat.zero_le _, nI_0.symm, Nat.zero_le _, nI_0.symm, Nat.zero_le _, nI_0.symm, Nat.zero_le _, nI_0.symm, Nat.zero_le _, nI_0.symm, Nat.zero_le _, fun z => absurd rfl z, fun z => absurd z (by show ¬ 0 = 2; decide)⟩, ⟨fun b hb => absurd hb (Nat.not_lt_zero b), fun b b' hb => absurd hb (Nat.not_lt_zero b), fun b _ => ⟨rfl, rfl, rfl, rfl⟩⟩, ⟨fun i hi => absurd hi (Nat.not_lt_zero i), fun _ _ => rfl⟩, fun z => absurd rfl z, fun f hf => absurd hf (Nat.not_lt_zero f), ⟨fun r hr => absurd hr (Nat.not_lt_zero r), fun _ _ => rfl⟩, fun b => ⟨fun r => ⟨fun z => absurd z List.not_mem_nil, fun z => absurd z.1 (Nat.not_lt_zero r)⟩, List.Pairwise.nil, fun r hr => absurd hr List.not_mem_nil⟩, fun b => ⟨nI_0.symm, List.nodup_nil, fun r hr => absurd hr List.not_mem_nil, Nat.le_refl _, Nat.le_refl _, fun k r hk => by
    have : (([] : List Nat))[k]? = some r := hk
    rw [List.getElem?_nil] at this
    cases this⟩⟩
end INI
