/-! THE ABSTRACT MEMORY: what updates leave; a model's view; numbers -/
theorem sK_uI (σ : St) (f a i : Nat) (v : Int32) : sK (uI σ f a i v) = sK σ := rfl
theorem sK_uJ (σ : St) (f a i : Nat) (v : Int64) : sK (uJ σ f a i v) = sK σ := rfl
theorem sK_uR (σ : St) (f a i : Nat) (v : Option Nat) : sK (uR σ f a i v) = sK σ := rfl
theorem sK_uL (σ : St) (a : Nat) (v : List Nat) : sK (uL σ a v) = sK σ := rfl
theorem sK_uN (σ : St) (q t b : Nat) : sK (uN σ q t) b = if b = q then t else sK σ b := rfl
theorem sK_uT (σ : St) (q t b : Nat) : sK (uT σ q t) b = if b = q then t else sK σ b := rfl
theorem sI_uI (σ : St) (f a i g b j : Nat) (v : Int32) : sI (uI σ f a i v) g b j = if g = f ∧ b = a ∧ j = i then v else sI σ g b j := rfl
theorem sI_uJ (σ : St) (f a i : Nat) (v : Int64) : sI (uJ σ f a i v) = sI σ := rfl
theorem sI_uR (σ : St) (f a i : Nat) (v : Option Nat) : sI (uR σ f a i v) = sI σ := rfl
theorem sI_uL (σ : St) (a : Nat) (v : List Nat) : sI (uL σ a v) = sI σ := rfl
theorem sI_uN (σ : St) (q t g b j : Nat) : sI (uN σ q t) g b j = if b = q then 0 else sI σ g b j := rfl
theorem sI_uT (σ : St) (q t : Nat) : sI (uT σ q t) = sI σ := rfl
theorem sJ_uI (σ : St) (f a i : Nat) (v : Int32) : sJ (uI σ f a i v) = sJ σ := rfl
theorem sJ_uJ (σ : St) (f a i g b j : Nat) (v : Int64) : sJ (uJ σ f a i v) g b j = if g = f ∧ b = a ∧ j = i then v else sJ σ g b j := rfl
theorem sJ_uR (σ : St) (f a i : Nat) (v : Option Nat) : sJ (uR σ f a i v) = sJ σ := rfl
theorem sJ_uL (σ : St) (a : Nat) (v : List Nat) : sJ (uL σ a v) = sJ σ := rfl
theorem sJ_uN (σ : St) (q t g b j : Nat) : sJ (uN σ q t) g b j = if b = q then 0 else sJ σ g b j := rfl
theorem sJ_uT (σ : St) (q t : Nat) : sJ (uT σ q t) = sJ σ := rfl
theorem sR_uI (σ : St) (f a i : Nat) (v : Int32) : sR (uI σ f a i v) = sR σ := rfl
theorem sR_uJ (σ : St) (f a i : Nat) (v : Int64) : sR (uJ σ f a i v) = sR σ := rfl
theorem sR_uR (σ : St) (f a i g b j : Nat) (v : Option Nat) : sR (uR σ f a i v) g b j = if g = f ∧ b = a ∧ j = i then v else sR σ g b j := rfl
theorem sR_uL (σ : St) (a : Nat) (v : List Nat) : sR (uL σ a v) = sR σ := rfl
theorem sR_uN (σ : St) (q t g b j : Nat) : sR (uN σ q t) g b j = if b = q then none else sR σ g b j := rfl
theorem sR_uT (σ : St) (q t : Nat) : sR (uT σ q t) = sR σ := rfl
theorem sL_uI (σ : St) (f a i : Nat) (v : Int32) : sL (uI σ f a i v) = sL σ := rfl
theorem sL_uJ (σ : St) (f a i : Nat) (v : Int64) : sL (uJ σ f a i v) = sL σ := rfl
theorem sL_uR (σ : St) (f a i : Nat) (v : Option Nat) : sL (uR σ f a i v) = sL σ := rfl
theorem sL_uL (σ : St) (a b : Nat) (v : List Nat) : sL (uL σ a v) b = if b = a then v else sL σ b := rfl
theorem sL_uN (σ : St) (q t b : Nat) : sL (uN σ q t) b = if b = q then [] else sL σ b := rfl
theorem sL_uT (σ : St) (q t b : Nat) : sL (uT σ q t) b = if b = q then [] else sL σ b := rfl
theorem sI_ne {σ : St} {f a i g : Nat} {v : Int32} (h : ¬ g = f) : sI (uI σ f a i v) g = sI σ g := by
  funext b j
  rw [sI_uI, if_neg (fun z => h z.1)]
theorem sJ_ne {σ : St} {f a i g : Nat} {v : Int64} (h : ¬ g = f) : sJ (uJ σ f a i v) g = sJ σ g := by
  funext b j
  rw [sJ_uJ, if_neg (fun z => h z.1)]
theorem sR_ne {σ : St} {f a i g : Nat} {v : Option Nat} (h : ¬ g = f) : sR (uR σ f a i v) g = sR σ g := by
  funext b j
  rw [sR_uR, if_neg (fun z => h z.1)]
/-- σ' is as σ at the cells of a kind -/
def AG (P : Nat → Prop) (σ σ' : St) : Prop := ∀ a, P (sK σ a) → sK σ' a = sK σ a ∧ (∀ f i, sI σ' f a i = sI σ f a i) ∧ (∀ f i, sJ σ' f a i = sJ σ f a i) ∧ (∀ f i, sR σ' f a i = sR σ f a i) ∧ sL σ' a = sL σ a
def mTag (t : Nat) : Prop := t = 9 ∨ 1451 ≤ t
def cTag (t : Nat) : Prop := 0 < t ∧ ¬ mTag t
def oTag (t : Nat) : Prop := t ≠ 0
theorem AG.rfl' {P : Nat → Prop} {σ : St} : AG P σ σ := fun _ _ => ⟨rfl, fun _ _ => rfl, fun _ _ => rfl, fun _ _ => rfl, rfl⟩
theorem AG.trans {P : Nat → Prop} {σ σ' σ'' : St} (h : AG P σ σ') (h' : AG P σ' σ'') : AG P σ σ'' := fun a ha => by
  obtain ⟨h1, h2, h3, h4, h5⟩ := h a ha
  obtain ⟨k1, k2, k3, k4, k5⟩ := h' a (by rw [h1]; exact ha)
  exact ⟨k1.trans h1, fun f i => (k2 f i).trans (h2 f i), fun f i => (k3 f i).trans (h3 f i), fun f i => (k4 f i).trans (h4 f i), k5.trans h5⟩
theorem AG.mono {P Q : Nat → Prop} {σ σ' : St} (h : AG P σ σ') (hq : ∀ t, Q t → P t) : AG Q σ σ' := fun a ha => h a (hq _ ha)
theorem AG.uI {P : Nat → Prop} {σ σ' : St} (h : AG P σ σ') {f a i : Nat} {v : Int32} (ha : ¬ P (sK σ a)) : AG P σ (uI σ' f a i v) := fun b hb => by
  obtain ⟨h1, h2, h3, h4, h5⟩ := h b hb
  refine ⟨h1, fun g j => ?_, h3, h4, h5⟩
  rw [sI_uI, if_neg (fun z => ha (by rw [← z.2.1]; exact hb))]
  exact h2 g j
theorem AG.uJ {P : Nat → Prop} {σ σ' : St} (h : AG P σ σ') {f a i : Nat} {v : Int64} (ha : ¬ P (sK σ a)) : AG P σ (uJ σ' f a i v) := fun b hb => by
  obtain ⟨h1, h2, h3, h4, h5⟩ := h b hb
  refine ⟨h1, h2, fun g j => ?_, h4, h5⟩
  rw [sJ_uJ, if_neg (fun z => ha (by rw [← z.2.1]; exact hb))]
  exact h3 g j
theorem AG.uR {P : Nat → Prop} {σ σ' : St} (h : AG P σ σ') {f a i : Nat} {v : Option Nat} (ha : ¬ P (sK σ a)) : AG P σ (uR σ' f a i v) := fun b hb => by
  obtain ⟨h1, h2, h3, h4, h5⟩ := h b hb
  refine ⟨h1, h2, h3, fun g j => ?_, h5⟩
  rw [sR_uR, if_neg (fun z => ha (by rw [← z.2.1]; exact hb))]
  exact h4 g j
theorem AG.uL {P : Nat → Prop} {σ σ' : St} (h : AG P σ σ') {a : Nat} {v : List Nat} (ha : ¬ P (sK σ a)) : AG P σ (uL σ' a v) := fun b hb => by
  obtain ⟨h1, h2, h3, h4, h5⟩ := h b hb
  refine ⟨h1, h2, h3, h4, ?_⟩
  rw [sL_uL, if_neg (fun z => ha (by rw [← z]; exact hb))]
  exact h5
theorem AG.uN {P : Nat → Prop} {σ σ' : St} (h : AG P σ σ') {q t : Nat} (ha : ¬ P (sK σ q)) : AG P σ (uN σ' q t) := fun b hb => by
  obtain ⟨h1, h2, h3, h4, h5⟩ := h b hb
  have hne : ¬ b = q := fun z => ha (by rw [← z]; exact hb)
  refine ⟨?_, fun g j => ?_, fun g j => ?_, fun g j => ?_, ?_⟩
  · rw [sK_uN, if_neg hne]; exact h1
  · rw [sI_uN, if_neg hne]; exact h2 g j
  · rw [sJ_uN, if_neg hne]; exact h3 g j
  · rw [sR_uN, if_neg hne]; exact h4 g j
  · rw [sL_uN, if_neg hne]; exact h5
theorem AG.uT {P : Nat → Prop} {σ σ' : St} (h : AG P σ σ') {q t : Nat} (ha : ¬ P (sK σ q)) : AG P σ (uT σ' q t) := fun b hb => by
  obtain ⟨h1, h2, h3, h4, h5⟩ := h b hb
  have hne : ¬ b = q := fun z => ha (by rw [← z]; exact hb)
  refine ⟨?_, h2, h3, h4, ?_⟩
  · rw [sK_uT, if_neg hne]; exact h1
  · rw [sL_uT, if_neg hne]; exact h5
/-- the model's view: its numbers by field, its int and long arrays by kind -/
abbrev MV : Type := (Nat → Int32) × (Nat → Nat → Int32) × (Nat → Nat → Int64)
def mS (V : MV) (f : Nat) (x : Int32) : MV := ((fun g => if g = f then x else V.1 g), V.2)
def mA (V : MV) (t i : Nat) (x : Int32) : MV := (V.1, (fun g j => if g = t ∧ j = i then x else V.2.1 g j), V.2.2)
def mJ (V : MV) (t i : Nat) (x : Int64) : MV := (V.1, V.2.1, (fun g j => if g = t ∧ j = i then x else V.2.2 g j))
theorem mS_1 (V : MV) (f g : Nat) (x : Int32) : (mS V f x).1 g = if g = f then x else V.1 g := rfl
theorem mS_2 (V : MV) (f : Nat) (x : Int32) : (mS V f x).2 = V.2 := rfl
theorem mA_1 (V : MV) (t i : Nat) (x : Int32) : (mA V t i x).1 = V.1 := rfl
theorem mA_2 (V : MV) (t i g j : Nat) (x : Int32) : (mA V t i x).2.1 g j = if g = t ∧ j = i then x else V.2.1 g j := rfl
theorem mA_3 (V : MV) (t i : Nat) (x : Int32) : (mA V t i x).2.2 = V.2.2 := rfl
theorem mJ_1 (V : MV) (t i : Nat) (x : Int64) : (mJ V t i x).1 = V.1 := rfl
theorem mJ_2 (V : MV) (t i : Nat) (x : Int64) : (mJ V t i x).2.1 = V.2.1 := rfl
theorem mJ_3 (V : MV) (t i g j : Nat) (x : Int64) : (mJ V t i x).2.2 g j = if g = t ∧ j = i then x else V.2.2 g j := rfl
abbrev mArr (t : Nat) : Prop := t ∈ [1451, 1452, 1455, 1456, 1457, 1458, 1464, 1465, 1466, 1467, 1468, 1469, 1470, 1471, 1472, 1473, 1474, 1475, 1476, 1477, 1480, 1481, 1482, 1483, 1484, 1485, 1486, 1487, 1488, 1489, 1491, 1492, 1493, 1494, 1495]
theorem mArr.ge {t : Nat} (h : mArr t) : 1451 ≤ t := by
  unfold mArr at h
  simp only [List.mem_cons, List.not_mem_nil, or_false] at h
  omega
/-- the memory holds the model with view V at mx, its arrays at A -/
def MI (mx : Nat) (A : Nat → Nat) (V : MV) (σ : St) : Prop :=
  sK σ mx = 9 ∧ (∀ t, mArr t → sR σ (t - 1000) mx 0 = some (A t) ∧ sK σ (A t) = t) ∧ (∀ f, sI σ f mx 0 = V.1 f) ∧ (∀ t i, mArr t → sI σ t (A t) i = V.2.1 t i) ∧ (∀ t i, mArr t → sJ σ t (A t) i = V.2.2 t i)
theorem MI.ag {mx : Nat} {A : Nat → Nat} {V : MV} {σ σ' : St} (h : MI mx A V σ) (g : AG mTag σ σ') : MI mx A V σ' := by
  obtain ⟨h1, h2, h3, h4, h5⟩ := h
  obtain ⟨g1, g2, g3, g4, g5⟩ := g mx (Or.inl h1)
  have ga : ∀ t, mArr t → _ := fun t ht => g (A t) (by rw [(h2 t ht).2]; exact Or.inr ht.ge)
  exact ⟨g1.trans h1, fun t ht => ⟨(g4 _ _).trans (h2 t ht).1, (ga t ht).1.trans (h2 t ht).2⟩, fun f => (g2 f 0).trans (h3 f), fun t i ht => ((ga t ht).2.1 t i).trans (h4 t i ht), fun t i ht => ((ga t ht).2.2.1 t i).trans (h5 t i ht)⟩
theorem MI.uS {mx : Nat} {A : Nat → Nat} {V : MV} {σ : St} (h : MI mx A V σ) (f : Nat) (x : Int32) (hf : f < 1000) : MI mx A (mS V f x) (uI σ f mx 0 x) := by
  obtain ⟨h1, h2, h3, h4, h5⟩ := h
  refine ⟨h1, h2, fun g => ?_, fun t i ht => ?_, h5⟩
  · rw [sI_uI, mS_1]
    by_cases hg : g = f
    · rw [if_pos ⟨hg, rfl, rfl⟩, if_pos hg]
    · rw [if_neg (fun z => hg z.1), if_neg hg]
      exact h3 g
  · have := ht.ge
    rw [sI_uI, if_neg (fun z => by omega)]
    exact h4 t i ht
theorem MI.uA {mx : Nat} {A : Nat → Nat} {V : MV} {σ : St} (h : MI mx A V σ) (t : Nat) (i : Nat) (x : Int32) (ht : mArr t) : MI mx A (mA V t i x) (uI σ t (A t) i x) := by
  obtain ⟨h1, h2, h3, h4, h5⟩ := h
  have hne : ∀ g, ¬ (g = t ∧ mx = A t ∧ (0 : Nat) = i) := fun g z => by
    have e1 := (h2 t ht).2
    rw [← z.2.1, h1] at e1
    have := ht.ge
    omega
  refine ⟨h1, h2, fun g => ?_, fun t' i' ht' => ?_, h5⟩
  · rw [sI_uI, if_neg (hne g)]
    exact h3 g
  · rw [sI_uI, mA_2]
    by_cases hg : t' = t ∧ i' = i
    · rw [if_pos ⟨hg.1, by rw [hg.1], hg.2⟩, if_pos hg]
    · rw [if_neg (fun z => hg ⟨z.1, z.2.2⟩), if_neg hg]
      exact h4 t' i' ht'
theorem MI.wJ {mx : Nat} {A : Nat → Nat} {V : MV} {σ : St} (h : MI mx A V σ) (t : Nat) (i : Nat) (x : Int64) (ht : mArr t) : MI mx A (mJ V t i x) (uJ σ t (A t) i x) := by
  obtain ⟨h1, h2, h3, h4, h5⟩ := h
  refine ⟨h1, h2, h3, h4, fun t' i' ht' => ?_⟩
  rw [sJ_uJ, mJ_3]
  by_cases hg : t' = t ∧ i' = i
  · rw [if_pos ⟨hg.1, by rw [hg.1], hg.2⟩, if_pos hg]
  · rw [if_neg (fun z => hg ⟨z.1, z.2.2⟩), if_neg hg]
    exact h5 t' i' ht'
theorem MI.mx {mx : Nat} {A : Nat → Nat} {V : MV} {σ : St} (h : MI mx A V σ) : sK σ mx = 9 := h.1
theorem MI.not {mx : Nat} {A : Nat → Nat} {V : MV} {σ : St} (h : MI mx A V σ) : ¬ cTag (sK σ mx) := fun z => z.2 (Or.inl h.1)
theorem MI.notA {mx : Nat} {A : Nat → Nat} {V : MV} {σ : St} (h : MI mx A V σ) (t : Nat) (ht : mArr t) : ¬ cTag (sK σ (A t)) := fun z => z.2 (Or.inr (by rw [(h.2.1 t ht).2]; exact ht.ge))
/-- reading an array of the model -/
theorem MI.arr {mx : Nat} {A : Nat → Nat} {V : MV} {σ : St} (h : MI mx A V σ) (t : Nat) (ht : mArr t) {P : Nat → Prop} (hp : P (A t)) : ∀ r : Option Nat, r = sR σ (t - 1000) mx 0 → ∃ a : Nat, r = some a ∧ sK σ a = t ∧ P a := fun r hr => ⟨A t, hr.trans (h.2.1 t ht).1, (h.2.1 t ht).2, hp⟩
/-- the first place below a bound where p holds -/
def fnd (p : Nat → Bool) : Nat → Nat → Option Nat
  | 0, _ => none
  | d + 1, i => if p i then some i else fnd p d (i + 1)
theorem fnd_some {p : Nat → Bool} : ∀ {d i k : Nat}, fnd p d i = some k → i ≤ k ∧ k < i + d ∧ p k = true ∧ ∀ j, i ≤ j → j < k → p j = false := by
  intro d
  induction d with
  | zero => intro i k h; cases h
  | succ d ih =>
    intro i k h
    unfold fnd at h
    by_cases hp : p i = true
    · rw [if_pos hp] at h
      cases h
      exact ⟨Nat.le_refl _, by omega, hp, fun j h1 h2 => by omega⟩
    · rw [if_neg hp] at h
      obtain ⟨h1, h2, h3, h4⟩ := ih h
      refine ⟨by omega, by omega, h3, fun j h5 h6 => ?_⟩
      by_cases hj : j = i
      · subst hj; simpa using hp
      · exact h4 j (by omega) h6
theorem fnd_none {p : Nat → Bool} : ∀ {d i : Nat}, fnd p d i = none ↔ ∀ j, i ≤ j → j < i + d → p j = false := by
  intro d
  induction d with
  | zero => intro i; exact ⟨fun _ j h1 h2 => by omega, fun _ => rfl⟩
  | succ d ih =>
    intro i
    unfold fnd
    by_cases hp : p i = true
    · rw [if_pos hp]
      exact ⟨fun h => (by cases h), fun h => (by rw [h i (Nat.le_refl _) (by omega)] at hp; cases hp)⟩
    · rw [if_neg hp, ih]
      refine ⟨fun h j h1 h2 => ?_, fun h j h1 h2 => h j (by omega) (by omega)⟩
      by_cases hj : j = i
      · subst hj; simpa using hp
      · exact h j (by omega) (by omega)
theorem fnd_eq {p : Nat → Bool} {d k : Nat} (hk : k < d) (hp : p k = true) (hq : ∀ j, j < k → p j = false) : fnd p d 0 = some k := by
  cases h : fnd p d 0 with
  | none =>
    have := fnd_none.mp h k (Nat.zero_le _) (by omega)
    rw [hp] at this; cases this
  | some k' =>
    obtain ⟨h1, h2, h3, h4⟩ := fnd_some h
    rcases Nat.lt_trichotomy k k' with h5 | h5 | h5
    · have := h4 k (Nat.zero_le _) h5; rw [hp] at this; cases this
    · rw [h5]
    · have := hq k' h5; rw [h3] at this; cases this
theorem fnd_congr {p q : Nat → Bool} : ∀ {d i : Nat}, (∀ j, i ≤ j → j < i + d → p j = q j) → fnd p d i = fnd q d i := by
  intro d
  induction d with
  | zero => intro i _; rfl
  | succ d ih =>
    intro i h
    unfold fnd
    rw [h i (Nat.le_refl _) (by omega), ih (fun j h1 h2 => h j (by omega) (by omega))]
def oI (o : Option Nat) : Int32 := match o with
  | some k => nI k
  | none => -1
/-! numbers out of digits -/
def dg (h : Nat) (k n : Nat) : Nat := h / 10 ^ (18 - (k + n)) % 10 ^ n
/-- the sum that says whether a number is right -/
def rgS : Nat → Int32 → Int32 → Int32
  | 0, s, _ => s
  | p + 1, s, x => rgS p (s + (x - x / 10 * 10) * (if p % 3 = 0 then 3 else if p % 3 = 1 then 7 else 1)) (x / 10)
abbrev rgt (x : Int32) (n : Nat) : Prop := rgS n 0 x - rgS n 0 x / 10 * 10 = 0
theorem nI_lt_cases (x : Int32) (n : Nat) (hn : n < 2 ^ 31) : (∃ k, k < n ∧ x = nI k) ∨ (x < 0 ∨ (¬ x < 0 ∧ nI n ≤ x)) := by
  by_cases h0 : x < 0
  · exact Or.inr (Or.inl h0)
  · obtain ⟨k, hk, rfl⟩ := nI_of h0
    by_cases h : k < n
    · exact Or.inl ⟨k, h, rfl⟩
    · exact Or.inr (Or.inr ⟨h0, nI_le (by omega) hk⟩)
theorem i32_nle {x y : Int32} : ¬ x ≤ y ↔ y < x := by
  rw [Int32.le_iff_toInt_le, Int32.lt_iff_toInt_lt]; omega
theorem i32_nlt {x y : Int32} : ¬ x < y ↔ y ≤ x := by
  rw [Int32.le_iff_toInt_le, Int32.lt_iff_toInt_lt]; omega
theorem nI_m1 {p : Nat} (h : 0 < p) : nI p + (-1 : Int32) = nI (p - 1) := by
  obtain ⟨q, rfl⟩ : ∃ q, p = q + 1 := ⟨p - 1, by omega⟩
  rw [← nI_1, Nat.add_sub_cancel, Int32.add_assoc, show (1 : Int32) + -1 = 0 from by decide, Int32.add_zero]
/-! digits: the model's way -/
theorem lN10 : (10 : Int64) = lN 10 := rfl
theorem mdig_35 {post : Int32 → St → Prop} {σ : St} {c n : Nat} (hc : c < 2 ^ 63) (hn : n ≤ 9) (hp : post (nI (c % 10 ^ n)) σ) : ∀ (d k : Nat), k + d = n → wX8_digits_35 post (d + 1) (nI n) (lN c) (lN (10 ^ k)) (nI k) σ := by
  have hpow : 10 ^ n ≤ 10 ^ 9 := Nat.pow_le_pow_right (by omega) hn
  have h9 : (10 : Nat) ^ 9 = 1000000000 := by decide
  intro d
  induction d with
  | zero =>
    intro k hk
    have hk : k = n := by omega
    subst hk
    unfold wX8_digits_35
    refine br_t (nI_le (Nat.le_refl _) (by omega)) ⟨?_, ?_⟩
    · intro z
      have := (pk_lEQ (a := 10 ^ k) (b := 0) (by omega) (by decide)).mp z
      have : 0 < 10 ^ k := Nat.pow_pos (by omega)
      omega
    · rw [pk_lRem hc (Nat.pow_pos (by omega)) (by omega), lN_i]
      exact hp
  | succ d ih =>
    intro k hk
    unfold wX8_digits_35
    refine br_f (nI_ge (by omega) (by omega)) ?_
    refine nm_r (e' := lN (10 ^ (k + 1))) (by rw [lN10, lN_mul, Nat.pow_succ]) ?_
    refine nm_r (nI_1 k) ?_
    exact ih (k + 1) (by omega)
theorem mdig_8 {post : Int32 → St → Prop} {σ : St} {n : Nat} (hn : n ≤ 9) : ∀ (d j c : Nat), c < 2 ^ 63 → j + d = 18 → post (nI (c / 10 ^ d % 10 ^ n)) σ → wX8_digits_8 post (d + 1) (nI n) (lN c) (nI j) σ := by
  intro d
  induction d with
  | zero =>
    intro j c hc hj hp
    unfold wX8_digits_8
    refine br_t (show nI 18 ≤ nI j from nI_le (by omega) (by omega)) ⟨n + 1, ?_⟩
    exact mdig_35 (post := post) hc hn (by simpa using hp) n 0 (by omega)
  | succ d ih =>
    intro j c hc hj hp
    unfold wX8_digits_8
    refine br_f (show ¬ nI 18 ≤ nI j from nI_ge (by omega) (by decide)) ?_
    refine nm_r (e' := lN (c / 10)) (by rw [lN10, pk_lDiv hc (by decide) (by decide)]) ?_
    refine nm_r (nI_1 j) ?_
    refine ih (j + 1) (c / 10) (Nat.lt_of_le_of_lt (Nat.div_le_self _ _) hc) (by omega) ?_
    rw [Nat.div_div_eq_div_mul, Nat.mul_comm 10, ← Nat.pow_succ]
    exact hp
theorem m_digits {post : Int32 → St → Prop} {σ : St} {h : Nat} (hh : h < 2 ^ 63) (k n : Nat) (hn : n ≤ 9) (hk : k + n ≤ 18) (hp : post (nI (dg h k n)) σ) : wX8_digits (lN h) (nI k) (nI n) post σ := by
  unfold wX8_digits
  refine nm_r (nI_add k n) ⟨18 - (k + n) + 1, ?_⟩
  exact mdig_8 hn (18 - (k + n)) (k + n) h hh (by omega) hp
/-! digits: the class's way -/
theorem cdig_71 {post : Int32 → St → Prop} {σ : St} {first : Nat} (hf : first < 40) : ∀ (d : Nat) (r num w : Nat) (j : Int32), d ≤ 9 → r < 2 ^ 63 → num < 10 ^ w → w + d ≤ 9 → j = nI (first + d) + (-1 : Int32) → post (nI (num + r % 10 ^ d * 10 ^ w)) σ → wX7_digits_71 post (d + 1) (nI first) (lN r) (lN num) (lN (10 ^ w)) j σ := by
  intro d
  induction d with
  | zero =>
    intro r num w j hd hr hnum hw hj hp
    unfold wX7_digits_71
    refine br_t ?_ ?_
    · rw [hj, Nat.add_zero, Int32.lt_iff_toInt_lt, Int32.toInt_add, nI_toInt (by omega), show (-1 : Int32).toInt = -1 from by decide]
      rw [Int.bmod_eq_of_le (by omega) (by omega)]; omega
    · rw [lN_i]
      simpa [Nat.mod_one] using hp
  | succ d ih =>
    intro r num w j hd hr hnum hw hj hp
    have hj2 : j = nI (first + d) := by rw [hj, nI_m1 (by omega)]; rfl
    unfold wX7_digits_71
    refine br_f (by rw [hj2]; exact nI_nlt (by omega) (by omega)) ?_
    refine nm_r (e' := lN (num + r % 10 * 10 ^ w)) (by rw [lN10, pk_lRem hr (by decide) (by decide), lN_mul, lN_add]) ?_
    refine nm_r (e' := lN (10 ^ (w + 1))) (by rw [lN10, lN_mul, Nat.pow_succ]) ?_
    refine nm_r (e' := lN (r / 10)) (by rw [lN10, pk_lDiv hr (by decide) (by decide)]) ?_
    refine nm_e ?_
    refine ih (r / 10) _ (w + 1) _ (by omega) (Nat.lt_of_le_of_lt (Nat.div_le_self _ _) hr) ?_ (by omega) (by rw [hj2]) ?_
    · have h1 : r % 10 < 10 := Nat.mod_lt _ (by omega)
      have h2 : r % 10 * 10 ^ w ≤ 9 * 10 ^ w := Nat.mul_le_mul_right _ (by omega)
      rw [Nat.pow_succ]
      omega
    · have e : num + r % 10 * 10 ^ w + r / 10 % 10 ^ d * 10 ^ (w + 1) = num + r % 10 ^ (d + 1) * 10 ^ w := by
        rw [Nat.pow_succ 10 d, Nat.mul_comm (10 ^ d) 10, Nat.mod_mul, Nat.add_mul, Nat.pow_succ 10 w, Nat.add_assoc]
        congr 2
        rw [Nat.mul_comm (10 ^ w) 10, ← Nat.mul_assoc, Nat.mul_comm (r / 10 % 10 ^ d) 10]
      rw [e]
      exact hp
theorem cdig_40 {post : Int32 → St → Prop} {σ : St} {first n : Nat} (hf : first + n < 40) (hn0 : 0 < n) (hn : n ≤ 9) : ∀ (d r : Nat) (j : Nat), r < 2 ^ 63 → j = first + n - 1 + d → j < 36 → post (nI (r / 10 ^ d % 10 ^ n)) σ → wX7_digits_40 post (d + 1) (nI first) (nI (first + n - 1)) (lN r) (nI j) σ := by
  intro d
  induction d with
  | zero =>
    intro r j hr hj hj36 hp
    unfold wX7_digits_40
    refine br_t (nI_le (by omega) (by omega)) ⟨n + 1, ?_⟩
    refine cdig_71 (by omega) n r 0 0 _ hn hr (by omega) (by omega) (by rw [nI_m1 (by omega)]) ?_
    simpa using hp
  | succ d ih =>
    intro r j hr hj hj36 hp
    unfold wX7_digits_40
    refine br_f (nI_ge (by omega) (by omega)) ?_
    refine nm_r (e' := lN (r / 10)) (by rw [lN10, pk_lDiv hr (by decide) (by decide)]) ?_
    refine nm_r (nI_m1 (by omega)) ?_
    refine ih (r / 10) (j - 1) (Nat.lt_of_le_of_lt (Nat.div_le_self _ _) hr) (by omega) (by omega) ?_
    rw [Nat.div_div_eq_div_mul, Nat.mul_comm 10, ← Nat.pow_succ]
    exact hp
/-- digits k .. k + n - 1 of the first half -/
theorem c_digitsH {post : Int32 → St → Prop} {σ : St} {h : Nat} (hh : h < 2 ^ 63) (lo : Int64) (k n : Nat) (hn0 : 0 < n) (hn : n ≤ 9) (hk : k + n ≤ 18) (hp : post (nI (dg h k n)) σ) : wX7_digits (lN h) lo (nI k) (nI (k + n - 1)) post σ := by
  unfold wX7_digits
  refine br_f (show ¬ nI 18 ≤ nI (k + n - 1) from nI_ge (by omega) (by decide)) ?_
  unfold wX7_digits_12
  refine br_f (by decide) ?_
  unfold wX7_digits_24
  refine br_f (by decide) ?_
  unfold wX7_digits_38
  refine ⟨18 - (k + n) + 1, ?_⟩
  exact cdig_40 (by omega) hn0 hn (18 - (k + n)) h 17 hh (by omega) (by omega) hp
/-- of the second half -/
theorem c_digitsL {post : Int32 → St → Prop} {σ : St} {h : Nat} (hh : h < 2 ^ 63) (hi : Int64) (k n : Nat) (hn0 : 0 < n) (hn : n ≤ 9) (hk : k + n ≤ 18) (hp : post (nI (dg h k n)) σ) : wX7_digits hi (lN h) (nI (18 + k)) (nI (18 + k + n - 1)) post σ := by
  unfold wX7_digits
  refine br_t (show nI 18 ≤ nI (18 + k + n - 1) from nI_le (by omega) (by omega)) ?_
  unfold wX7_digits_12
  refine br_t rfl ?_
  unfold wX7_digits_24
  refine br_t rfl ?_
  unfold wX7_digits_38
  refine ⟨18 - (k + n) + 1, ?_⟩
  exact cdig_40 (by omega) hn0 hn (18 - (k + n)) h 35 hh (by omega) (by omega) hp
theorem dg_lt (h k n : Nat) : dg h k n < 10 ^ n := Nat.mod_lt _ (Nat.pow_pos (by omega))
/-! right numbers -/
theorem nI_m3 (p : Nat) (hp : p < 2 ^ 31) : nI p - nI p / 3 * 3 = nI (p % 3) := pk_rem (d := 3) hp (by decide) (by decide)
theorem m_right_9 {post : Int32 → St → Prop} {σ : St} : ∀ (p : Nat) (x s : Int32) (j : Int32), p < 40 → j = nI p + (-1 : Int32) → ((rgS p s x - rgS p s x / 10 * 10 = 0 → post 1 σ) ∧ (¬ rgS p s x - rgS p s x / 10 * 10 = 0 → post 0 σ)) → wX8_right_9 post (p + 1) s x j σ := by
  intro p
  induction p with
  | zero =>
    intro x s j hp hj h
    unfold wX8_right_9
    exact br_t (by rw [hj]; decide) h
  | succ p ih =>
    intro x s j hp hj h
    have hj2 : j = nI p := by rw [hj, nI_m1 (by omega)]; rfl
    subst hj2
    unfold wX8_right_9
    refine br_f (nI_pos (by omega)) ?_
    rw [nI_m3 p (by omega)]
    have key : ∀ y : Int32, y = (if p % 3 = 0 then 3 else if p % 3 = 1 then 7 else 1) → wX8_right_39 (wX8_right_9 post (p + 1)) post s x (nI p) y σ := by
      intro y hy
      unfold wX8_right_39
      refine nm_e (nm_e (nm_e ?_))
      refine ih (x / 10) _ _ (by omega) rfl ?_
      rw [hy, Int32.mul_comm]
      exact h
    have h3 : p % 3 < 3 := Nat.mod_lt _ (by omega)
    refine br_c (fun z => key 3 ?_) (fun z => br_c (fun z2 => key 7 ?_) (fun z2 => key 1 ?_))
    · rw [if_pos ((nI_eq (b := 0) (by omega) (by decide)).mp z)]
    · rw [if_neg (fun q => z (by rw [q]; rfl)), if_pos ((nI_eq (b := 1) (by omega) (by decide)).mp z2)]
    · rw [if_neg (fun q => z (by rw [q]; rfl)), if_neg (fun q => z2 (by rw [q]; rfl))]
theorem m_right {post : Int32 → St → Prop} {σ : St} {x : Int32} {n : Nat} (hn0 : 0 < n) (hn : n < 40) (h : (rgt x n → post 1 σ) ∧ (¬ rgt x n → post 0 σ)) : wX8_right x (nI n) post σ := by
  unfold wX8_right
  refine nm_r (show nI n - 1 = nI (n - 1) from pk_sub (b := 1) (by omega)) ⟨n + 1, ?_⟩
  exact m_right_9 n x 0 _ hn (by rw [nI_m1 hn0]) h
theorem c_right_9 {post : Int32 → St → Prop} {σ : St} : ∀ (p : Nat) (x s : Int32) (j : Int32), p < 40 → j = nI p + (-1 : Int32) → ((rgS p s x - rgS p s x / 10 * 10 = 0 → post 1 σ) ∧ (¬ rgS p s x - rgS p s x / 10 * 10 = 0 → post 0 σ)) → wX7_isRight_9 post (p + 1) x s j σ := by
  intro p
  induction p with
  | zero =>
    intro x s j hp hj h
    unfold wX7_isRight_9
    exact br_t (by rw [hj]; decide) h
  | succ p ih =>
    intro x s j hp hj h
    have hj2 : j = nI p := by rw [hj, nI_m1 (by omega)]; rfl
    subst hj2
    unfold wX7_isRight_9
    refine br_f (nI_pos (by omega)) ?_
    have h3 : p % 3 < 3 := Nat.mod_lt _ (by omega)
    rw [nI_m3 p (by omega)]
    refine ⟨vp_in_nI h3 (by decide), ?_⟩
    refine nm_e (nm_e (nm_e ?_))
    refine ih (x / 10) _ _ (by omega) rfl ?_
    rw [nI_clamp (by omega)]
    have e : rWi (p % 3) = (if p % 3 = 0 then 3 else if p % 3 = 1 then 7 else 1) := by
      rcases (show p % 3 = 0 ∨ p % 3 = 1 ∨ p % 3 = 2 by omega) with q | q | q <;> rw [q] <;> rfl
    rw [e]
    exact h
theorem c_right {post : Int32 → St → Prop} {σ : St} {x : Int32} {n : Nat} (hn0 : 0 < n) (hn : n < 40) (h : (rgt x n → post 1 σ) ∧ (¬ rgt x n → post 0 σ)) : wX7_isRight x (nI n) post σ := by
  unfold wX7_isRight
  refine nm_r (show nI n - 1 = nI (n - 1) from pk_sub (b := 1) (by omega)) ⟨n + 1, ?_⟩
  exact c_right_9 n x 0 _ hn (by rw [nI_m1 hn0]) h
theorem MI.sc {mx : Nat} {A : Nat → Nat} {V : MV} {σ : St} (h : MI mx A V σ) (f : Nat) : sI σ f mx 0 = V.1 f := h.2.2.1 f
theorem MI.rd {mx : Nat} {A : Nat → Nat} {V : MV} {σ : St} (h : MI mx A V σ) (t i : Nat) (ht : mArr t) : sI σ t (A t) i = V.2.1 t i := h.2.2.2.1 t i ht
theorem MI.rj {mx : Nat} {A : Nat → Nat} {V : MV} {σ : St} (h : MI mx A V σ) (t i : Nat) (ht : mArr t) : sJ σ t (A t) i = V.2.2 t i := h.2.2.2.2 t i ht
theorem MI.rf {mx : Nat} {A : Nat → Nat} {V : MV} {σ : St} (h : MI mx A V σ) (t : Nat) (ht : mArr t) : sR σ (t - 1000) mx 0 = some (A t) := (h.2.1 t ht).1
theorem MI.kd {mx : Nat} {A : Nat → Nat} {V : MV} {σ : St} (h : MI mx A V σ) (t : Nat) (ht : mArr t) : sK σ (A t) = t := (h.2.1 t ht).2
