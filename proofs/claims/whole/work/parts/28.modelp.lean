/-! THE MODEL'S METHODS over its view: a file's end, put -/
/-- the banks, the accounts, the file under way are the same -/
def FV (V V' : MV) : Prop := (∀ t, t ≤ 1476 → V'.2.1 t = V.2.1 t) ∧ ∀ f, f ≤ 463 → V'.1 f = V.1 f
theorem FV.rfl' {V : MV} : FV V V := ⟨fun _ _ => rfl, fun _ _ => rfl⟩
theorem FV.trans {V V' V'' : MV} (h : FV V V') (h' : FV V' V'') : FV V V'' := ⟨fun t ht => (h'.1 t ht).trans (h.1 t ht), fun f hf => (h'.2 f hf).trans (h.2 f hf)⟩
theorem FV.mA' {V V' : MV} (h : FV V V') {t i : Nat} {x : Int32} (ht : 1476 < t) : FV V (mA V' t i x) := ⟨fun u hu => by
  funext j
  rw [mA_2, if_neg (fun z => by omega), h.1 u hu], h.2⟩
theorem FV.mS' {V V' : MV} (h : FV V V') {f : Nat} {x : Int32} (hf : 463 < f) : FV V (mS V' f x) := ⟨h.1, fun g hg => by
  rw [mS_1, if_neg (fun z => by omega), h.2 g hg]⟩
theorem FV.tl {V V' : MV} (h : FV V V') (k : Nat) : FV V (tlV V' k) := h.mA' (by decide)
theorem FV.acc {V V' : MV} (h : FV V V') (nb e : Nat) : FV V (accV nb V' e) := by
  unfold accV
  exact ((((((((h.mA' (by decide)).mA' (by decide)).mA' (by decide)).mA' (by decide)).mA' (by decide)).mA' (by decide)).mA' (by decide)).mA' (by decide)).mS' (by decide)
theorem FV.bk' {V V' : MV} (h : FV V V') (nb : Nat) (r : Int32) : bk V' nb r = bk V nb r := by
  show fnd (fun b => decide (V'.2.1 1451 b = r)) nb 0 = _
  rw [h.1 1451 (by decide)]
theorem FV.inB' {V V' : MV} (h : FV V V') (b : Int32) (ne : Nat) : inB V' b ne = inB V b ne := by
  unfold inB
  rw [h.1 1471 (by decide)]
theorem FV.ep' {V V' : MV} (h : FV V V') (w : Nat) : ep V' w = ep V w := by
  funext e
  unfold ep
  rw [h.1 1473 (by decide), h.1 1472 (by decide), h.1 1475 (by decide)]
theorem FV.gw' {V V' : MV} (h : FV V V') (b : Int32) (ne : Nat) : gw V' b ne = gw V b ne := by
  unfold gw viol
  rw [h.1 1471 (by decide), h.1 1476 (by decide)]
theorem FV.bf' {V V' : MV} (h : FV V V') (nb ne b : Nat) : bf V' nb ne b = bf V nb ne b := by
  unfold bf
  rw [h.bk', h.gw', h.inB', h.ep', h.ep', h.ep', h.ep', h.1 1464 (by decide), h.1 1465 (by decide), h.1 1466 (by decide), h.1 1467 (by decide), h.1 1468 (by decide), h.1 1469 (by decide), h.1 1470 (by decide), h.2 453 (by decide)]
theorem FV.ef' {V V' : MV} (h : FV V V') (nb e : Nat) : ef V' nb e = ef V nb e := by
  unfold ef
  rw [h.bk', h.1 1473 (by decide), h.1 1472 (by decide), h.1 1475 (by decide)]
theorem FV.ibn' {V V' : MV} (h : FV V V') (e : Nat) : ibn V' e = ibn V e := by
  unfold ibn
  rw [h.1 1471 (by decide)]
theorem FV.good' {V V' : MV} (h : FV V V') (nb ne e : Nat) : good V' nb ne e = good V nb ne e := by
  unfold good
  rw [h.bf', h.ef', h.ibn']
theorem bf_lt (V : MV) (nb ne b : Nat) : bf V nb ne b < 40 := by unfold bf; repeat' split <;> try decide
theorem ef_lt (V : MV) (nb e : Nat) : ef V nb e < 40 := by unfold ef; repeat' split <;> try decide
theorem ff_lt (V : MV) (nb nt ne nf nr h l : Nat) : ff V nb nt ne nf nr h l < 40 := by
  unfold ff
  cases bk V nb (V.1 460) with
  | none => exact (by decide : 10 < 40)
  | some b => dsimp only; repeat' split <;> try decide
section MP
variable {mx : Nat} {A : Nat → Nat} {V : MV} {σ : St}
theorem m_fileFault (hM : MI mx A V σ) {post : Int32 → St → Prop} {nb nt ne nf nr h l : Nat} (hh : h < 2 ^ 63) (hl : l < 2 ^ 63) (hnb : V.1 450 = nI nb) (h5 : nb ≤ 5) (hnt : V.1 462 = nI nt) (h4 : nt ≤ 4) (hne : V.1 463 = nI ne) (h20 : ne ≤ 20) (hnf : V.1 478 = nI nf) (h256 : nf ≤ 256) (hnr : V.1 479 = nI nr) (h512 : nr ≤ 512) (hib : ∀ e, e < ne → V.2.1 1471 e = nI (ibn V e) ∧ ibn V e < 4) (hp : post (nI (ff V nb nt ne nf nr h l)) σ) : wX8_fileFault mx (lN h) (lN l) post σ := by
  unfold wX8_fileFault
  refine ⟨hM.mx, hM.mx, ?_⟩
  rw [hM.sc]
  refine m_bankOf hM hnb h5 ?_
  cases hb : bk V nb (V.1 460) with
  | none =>
    unfold ff at hp
    rw [hb] at hp
    exact br_f (show ¬ (0 : Int32) ≤ -1 by decide) hp
  | some b =>
    unfold ff at hp
    rw [hb] at hp
    have hb5 : b < 5 := by have := (fnd_some hb).2.1; omega
    refine br_t (nI_pos' (by omega)) ?_
    show ∃ n65 : Nat, wX8_fileFault_21 mx post n65 (lN h) (lN l) (nI b) (0 : Int32) σ
    have tail : fnd (fun f => decide (V.2.1 1477 f = 10000 * nI b + V.1 461)) nf 0 = none → wX8_digits (lN h) 1 4 (fun (x13 : Int32) (σ11 : St) => sK σ11 mx = 9 ∧ ((x13 = (sI σ11 462 mx 0) → (wX8_digits (lN h) (5 : Int32) (4 : Int32) (fun (x45 : Int32) (σ43 : St) => sK σ43 mx = 9 ∧ ((x45 = (sI σ43 463 mx 0) → (wX8_digits (lN h) (9 : Int32) (6 : Int32) (fun (x50 : Int32) (σ48 : St) => sK σ48 mx = 9 ∧ (wX8_total mx (-1 : Int32) (1 : Int32) (fun (x54 : Int64) (σ52 : St) => ((lg_cmp x50.toInt64 x54) = 0 → (wX8_fileFault_110 mx post (lN l) (1 : Int32) σ52)) ∧ (¬ (lg_cmp x50.toInt64 x54) = 0 → (wX8_fileFault_109 mx post (lN l) σ52))) σ48)) σ43)) ∧ (¬ x45 = (sI σ43 463 mx 0) → (wX8_fileFault_109 mx post (lN l) σ43)))) σ11)) ∧ (¬ x13 = (sI σ11 462 mx 0) → (wX8_fileFault_109 mx post (lN l) σ11)))) σ := by
      intro hn
      dsimp only at hp
      rw [if_neg (fun z => z hn)] at hp
      have h12 : ¬ (dg h 1 4 = nt ∧ dg h 5 4 = ne ∧ (nI (dg h 9 6)).toInt64 = tot (ep V 1) (inB V (-1) ne) ∧ (nI (dg l 0 9)).toInt64 = tot (ep V 2) (inB V (-1) ne) ∧ (nI (dg l 9 9)).toInt64 = tot (ep V 3) (inB V (-1) ne)) → post 12 σ := fun hc => by
        rw [if_pos hc] at hp
        exact hp
      have k109 : ¬ (dg h 1 4 = nt ∧ dg h 5 4 = ne ∧ (nI (dg h 9 6)).toInt64 = tot (ep V 1) (inB V (-1) ne) ∧ (nI (dg l 0 9)).toInt64 = tot (ep V 2) (inB V (-1) ne) ∧ (nI (dg l 9 9)).toInt64 = tot (ep V 3) (inB V (-1) ne)) → wX8_fileFault_109 mx post (lN l) σ := fun hc => by
        unfold wX8_fileFault_109 wX8_fileFault_110
        exact br_t rfl (h12 hc)
      have d1 := dg_lt h 1 4
      have d2 := dg_lt h 5 4
      refine m_digits hh 1 4 (by decide) (by decide) ⟨hM.mx, pk_eq (dg h 1 4) nt (fun c1 => ?_) (fun c1 => k109 (fun z => c1 z.1)) (hy := (hM.sc 462).trans hnt) (ha := by omega)⟩
      refine m_digits hh 5 4 (by decide) (by decide) ⟨hM.mx, pk_eq (dg h 5 4) ne (fun c2 => ?_) (fun c2 => k109 (fun z => c2 z.2.1)) (hy := (hM.sc 463).trans hne) (ha := by omega)⟩
      refine m_digits hh 9 6 (by decide) (by decide) ⟨hM.mx, m_total (w := 1) hM hne h20 (by decide) ?_⟩
      rw [lg_cmp_eq]
      by_cases c3 : (nI (dg h 9 6)).toInt64 = tot (ep V 1) (inB V (-1) ne)
      rotate_left
      · exact br_f c3 (k109 (fun z => c3 z.2.2.1))
      refine br_t c3 ?_
      unfold wX8_fileFault_110
      refine br_f (by decide) (m_digits hl 0 9 (by decide) (by decide) ⟨hM.mx, m_total (w := 2) hM hne h20 (by decide) ?_⟩)
      rw [lg_cmp_eq]
      by_cases c4 : (nI (dg l 0 9)).toInt64 = tot (ep V 2) (inB V (-1) ne)
      rotate_left
      · exact br_f c4 (h12 (fun z => c4 z.2.2.2.1))
      refine br_t c4 (m_digits hl 9 9 (by decide) (by decide) ⟨hM.mx, m_total (w := 3) hM hne h20 (by decide) ?_⟩)
      rw [lg_cmp_eq]
      by_cases c5 : (nI (dg l 9 9)).toInt64 = tot (ep V 3) (inB V (-1) ne)
      rotate_left
      · exact br_f c5 (h12 (fun z => c5 z.2.2.2.2))
      rw [if_neg (fun z => z ⟨c1, c2, c3, c4, c5⟩)] at hp
      refine br_t c5 ⟨hM.mx, m_waitingInAll hM hnr h512 ⟨hM.mx, m_goodEntries (nt := nt) hM hnb h5 hne h20 hib ?_⟩⟩
      have w1 := cntL_le (fun r => decide (V.2.1 1487 r = 0)) nr
      have w2 := cntL_le (good V nb ne) ne
      rw [nI_add]
      refine pk_le _ 40 (fun c => ?_) (fun c => ?_)
      · rw [if_neg (by omega)] at hp; exact hp
      · rw [if_pos c] at hp; exact hp
    have loop : ∀ d i, i + d = nf → (∀ f, f < i → ¬ V.2.1 1477 f = 10000 * nI b + V.1 461) → wX8_fileFault_21 mx post (d + 1) (lN h) (lN l) (nI b) (nI i) σ := by
      intro d
      induction d with
      | zero =>
        intro i hi hf
        unfold wX8_fileFault_21
        refine ⟨hM.mx, pk_le nf i (fun _ => tail (fnd_none.mpr (fun j h1 h2 => decide_eq_false (hf j (by omega))))) (fun hc => absurd hc (by omega)) (hx := (hM.sc 478).trans hnf)⟩
      | succ d ih =>
        intro i hi hf
        unfold wX8_fileFault_21
        refine ⟨hM.mx, pk_le nf i (fun hc => absurd hc (by omega)) (fun _ => ⟨hM.mx, hM.arr 1477 (by decide) ⟨vp_in_nI (by omega) (by decide), hM.mx, ?_⟩⟩) (hx := (hM.sc 478).trans hnf)⟩
        rw [nI_clamp (by omega), hM.rd 1477 i (by decide), hM.sc]
        by_cases c : V.2.1 1477 i = 10000 * nI b + V.1 461
        · refine br_t c ?_
          dsimp only at hp
          rw [if_pos (fun z => by
            have := fnd_none.mp z i (Nat.zero_le _) (by omega)
            exact absurd c (of_decide_eq_false this))] at hp
          exact hp
        · exact br_f c (nm_r (nI_1 i) (ih (i + 1) (by omega) (fun f hf2 => by
            by_cases he : f = i
            · rw [he]; exact c
            · exact hf f (by omega))))
    exact ⟨nf + 1, loop nf 0 (by omega) (fun f hf => absurd hf (Nat.not_lt_zero f))⟩
/-- a tally one higher -/
theorem m_tal (hM : MI mx A V σ) {σ0 : St} (g : AG cTag σ0 σ) {k : Nat} (hk : k < 40) {P : St → Prop} (hp : ∀ σ', MI mx A (tlV V k) σ' → AG cTag σ0 σ' → P σ') : sK σ (A 1495) = 1495 ∧ (vp_in (nI k) 40 ∧ (sK σ (A 1495) = 1495 ∧ (vp_in (nI k) 40 ∧ (∀ σ' : St, σ' = uI σ 1495 (A 1495) ((nI k).toNatClampNeg) ((sI σ 1495 (A 1495) (nI k).toNatClampNeg) + (1 : Int32)) → P σ')))) := by
  refine ⟨hM.kd 1495 (by decide), vp_in_nI hk (by decide), hM.kd 1495 (by decide), vp_in_nI hk (by decide), ?_⟩
  rw [nI_clamp (by omega)]
  exact hM.setA g 1495 (by decide) rfl (by rw [hM.rd 1495 k (by decide)]) hp
def stE (V0 : MV) (nb ne : Nat) (V : MV) (e : Nat) : MV := if bf V0 nb ne (ibn V0 e) = 0 then (if ef V0 nb e = 0 then accV nb (tlV V (ef V0 nb e)) e else tlV V (ef V0 nb e)) else V
def tlB (V0 : MV) (nb ne : Nat) (V : MV) (b : Nat) : MV := tlV V (bf V0 nb ne b)
def fiV (V : MV) (nb nf : Nat) : MV := mS (mA V 1477 nf (10000 * oI (bk V nb (V.1 460)) + V.1 461)) 478 (nI (nf + 1))
def enV (V : MV) (nb nt ne nf : Nat) : MV := (List.range ne).foldl (stE V nb ne) ((List.range nt).foldl (tlB V nb ne) (fiV V nb nf))
theorem FV.fi (V : MV) (nb nf : Nat) : FV V (fiV V nb nf) := (FV.rfl'.mA' (by decide)).mS' (by decide)
theorem FV.stE' {V V' : MV} (h : FV V V') (nb ne e : Nat) : FV V (stE V nb ne V' e) := by
  unfold stE
  split
  · split
    · exact (h.tl _).acc nb e
    · exact h.tl _
  · exact h
theorem FV.tlB' {V V' : MV} (h : FV V V') (nb ne b : Nat) : FV V (tlB V nb ne V' b) := h.tl _
theorem FV.fold {V : MV} {f : MV → Nat → MV} (hf : ∀ V' e, FV V V' → FV V (f V' e)) : ∀ (l : List Nat) (V' : MV), FV V V' → FV V (l.foldl f V') := by
  intro l
  induction l with
  | nil => intro V' h; exact h
  | cons x l ih => intro V' h; exact ih _ (hf V' x h)
theorem acc_479 (nb : Nat) (V : MV) (e : Nat) : (accV nb V e).1 479 = V.1 479 + 1 := rfl
theorem m_ended_103 {σ0 : St} {post : Int32 → St → Prop} {nb nt ne nr : Nat} {W : MV} (hnb : V.1 450 = nI nb) (h5 : nb ≤ 5) (hne : V.1 463 = nI ne) (h20 : ne ≤ 20) (h480 : nr ≤ 480) (hib : ∀ e, e < ne → V.2.1 1471 e = nI (ibn V e) ∧ ibn V e < 4) (hp : ∀ σ', MI mx A ((List.range ne).foldl (stE V nb ne) W) σ' → AG cTag σ0 σ' → post (nI (cntL (good V nb ne) ne)) σ') : ∀ d i σ, i + d = ne → MI mx A ((List.range i).foldl (stE V nb ne) W) σ → AG cTag σ0 σ → FV V ((List.range i).foldl (stE V nb ne) W) → ((List.range i).foldl (stE V nb ne) W).1 479 = nI (nr + cntL (good V nb ne) i) → wX8_ended_103 mx post (d + 1) (nI (cntL (good V nb ne) i)) (nI i) σ := by
  intro d
  induction d with
  | zero =>
    intro i σ hi hM g hF hr
    have : i = ne := by omega
    subst this
    unfold wX8_ended_103
    exact ⟨hM.mx, pk_le i i (fun _ => hp σ hM g) (fun hc => absurd hc (by omega)) (hx := (hM.sc 463).trans ((hF.2 463 (by decide)).trans hne))⟩
  | succ d ih =>
    intro i σ hi hM g hF hr
    have nx := ih (i + 1)
    rw [List.range_succ, List.foldl_append] at nx
    have w2 := cntL_le (good V nb ne) i
    generalize (List.range i).foldl (stE V nb ne) W = V' at hM hF hr nx
    replace nx := fun σ => nx σ (by omega)
    change ∀ σ, MI mx A (stE V nb ne V' i) σ → AG cTag σ0 σ → FV V (stE V nb ne V' i) → (stE V nb ne V' i).1 479 = _ → _ at nx
    rw [cntL_succ] at nx
    unfold wX8_ended_103
    refine ⟨hM.mx, pk_le ne i (fun hc => absurd hc (by omega)) (fun _ => ⟨hM.mx, hM.arr 1471 (by decide) ⟨vp_in_nI (by omega) (by decide), hM.mx, ?_⟩⟩) (hx := (hM.sc 463).trans ((hF.2 463 (by decide)).trans hne))⟩
    rw [nI_clamp (by omega), hM.rd 1471 i (by decide), hF.1 1471 (by decide), (hib i (by omega)).1]
    have hb := (hib i (by omega)).2
    have hbf := bf_lt V nb ne (ibn V i)
    have hef := ef_lt V nb i
    refine m_batchFault (nt := nt) hM ((hF.2 450 (by decide)).trans hnb) h5 hb ((hF.2 463 (by decide)).trans hne) h20 ?_
    rw [hF.bf']
    refine pk_eq _ 0 (fun c => ⟨hM.mx, m_entryFault hM ((hF.2 450 (by decide)).trans hnb) h5 (by omega) ?_⟩) (fun c => ?_) (ha := by omega)
    · rw [hF.ef']
      refine ⟨hM.mx, fun r e => ⟨A 1495, e.trans (hM.rf 1495 (by decide)), m_tal hM g hef (fun σ1 h1 g1 => ?_)⟩⟩
      refine pk_eq _ 0 (fun c2 => ⟨h1.mx, ?_⟩) (fun c2 => ?_) (ha := by omega)
      · have e1 : stE V nb ne V' i = accV nb (tlV V' (ef V nb i)) i := by unfold stE; rw [if_pos c, if_pos c2]
        rw [e1, if_pos (show good V nb ne i = true from decide_eq_true ⟨c, c2⟩)] at nx
        have hF1 := hF.tl (ef V nb i)
        refine m_accept (nr := nr + cntL (good V nb ne) i) h1 ((hF1.2 450 (by decide)).trans hnb) h5 hr (by omega) (by omega) ?_ (fun σ2 h2 g2 => ?_)
        · rw [hF1.ibn', hF1.1 1471 (by decide)]
          exact hib i (by omega)
        · refine nm_r (nI_1 _) (nm_r (nI_1 i) (nx σ2 h2 (g1.trans g2) (hF1.acc nb i) ?_))
          rw [acc_479]
          show V'.1 479 + 1 = _
          rw [hr, nI_1]
          rfl
      · have e1 : stE V nb ne V' i = tlV V' (ef V nb i) := by unfold stE; rw [if_pos c, if_neg c2]
        rw [e1, if_neg (by simp [good, c2]), Nat.add_zero] at nx
        exact nm_r (nI_1 i) (nx σ1 h1 g1 (hF.tl _) hr)
    · have e1 : stE V nb ne V' i = V' := by unfold stE; rw [if_neg c]
      rw [e1, if_neg (by simp [good, c]), Nat.add_zero] at nx
      exact nm_r (nI_1 i) (nx σ hM g hF hr)
theorem m_ended_67 {σ0 : St} {post : Int32 → St → Prop} {nb nt ne nr : Nat} {W : MV} (hnb : V.1 450 = nI nb) (h5 : nb ≤ 5) (hnt : V.1 462 = nI nt) (h4 : nt ≤ 4) (hne : V.1 463 = nI ne) (h20 : ne ≤ 20) (h480 : nr ≤ 480) (hib : ∀ e, e < ne → V.2.1 1471 e = nI (ibn V e) ∧ ibn V e < 4) (hW : W.1 479 = nI nr) (hFW : FV V W) (hp : ∀ σ', MI mx A ((List.range ne).foldl (stE V nb ne) ((List.range nt).foldl (tlB V nb ne) W)) σ' → AG cTag σ0 σ' → post (nI (cntL (good V nb ne) ne)) σ') : ∀ d i σ, i + d = nt → MI mx A ((List.range i).foldl (tlB V nb ne) W) σ → AG cTag σ0 σ → wX8_ended_67 mx post (d + 1) (nI i) σ := by
  have hFi : ∀ i, FV V ((List.range i).foldl (tlB V nb ne) W) := fun i => FV.fold (fun V' e h => h.tlB' nb ne e) _ _ hFW
  have h479 : ∀ i, ((List.range i).foldl (tlB V nb ne) W).1 479 = nI nr := fun i => by
    induction i with
    | zero => exact hW
    | succ i ih => rw [List.range_succ, List.foldl_append]; exact ih
  intro d
  induction d with
  | zero =>
    intro i σ hi hM g
    have : i = nt := by omega
    subst this
    unfold wX8_ended_67
    refine ⟨hM.mx, pk_le i i (fun _ => ⟨ne + 1, m_ended_103 (nr := nr) (nt := i) hnb h5 hne h20 h480 hib hp ne 0 σ (by omega) hM g (hFi i) (h479 i)⟩) (fun hc => absurd hc (by omega)) (hx := (hM.sc 462).trans (((hFi i).2 462 (by decide)).trans hnt))⟩
  | succ d ih =>
    intro i σ hi hM g
    have nx := ih (i + 1)
    rw [List.range_succ, List.foldl_append] at nx
    have hF := hFi i
    generalize (List.range i).foldl (tlB V nb ne) W = V' at hM hF nx
    replace nx := fun σ => nx σ (by omega)
    change ∀ σ, MI mx A (tlV V' (bf V nb ne i)) σ → _ at nx
    have hbf := bf_lt V nb ne i
    unfold wX8_ended_67
    refine ⟨hM.mx, pk_le nt i (fun hc => absurd hc (by omega)) (fun _ => ⟨hM.mx, fun r e => ⟨hM.mx, m_batchFault (nt := nt) hM ((hF.2 450 (by decide)).trans hnb) h5 (by omega) ((hF.2 463 (by decide)).trans hne) h20 ?_⟩⟩) (hx := (hM.sc 462).trans ((hF.2 462 (by decide)).trans hnt))⟩
    rw [hF.bf']
    exact ⟨A 1495, e.trans (hM.rf 1495 (by decide)), m_tal hM g hbf (fun σ1 h1 g1 => nm_r (nI_1 i) (nx σ1 h1 g1))⟩
theorem m_ended (hM : MI mx A V σ) {post : Int32 → St → Prop} {nb nt ne nf nr h l : Nat} (hh : h < 2 ^ 63) (hl : l < 2 ^ 63) (hnb : V.1 450 = nI nb) (h5 : nb ≤ 5) (hnt : V.1 462 = nI nt) (h4 : nt ≤ 4) (hne : V.1 463 = nI ne) (h20 : ne ≤ 20) (hnf : V.1 478 = nI nf) (h256 : nf < 256) (hnr : V.1 479 = nI nr) (h480 : nr ≤ 480) (hib : ∀ e, e < ne → V.2.1 1471 e = nI (ibn V e) ∧ ibn V e < 4) (hbad : ff V nb nt ne nf nr h l ≠ 0 → ∀ σ', MI mx A (tlV V (ff V nb nt ne nf nr h l)) σ' → AG cTag σ σ' → post (-(nI (ff V nb nt ne nf nr h l))) σ') (hp : ff V nb nt ne nf nr h l = 0 → ∀ σ', MI mx A (enV V nb nt ne nf) σ' → AG cTag σ σ' → post (nI (cntL (good V nb ne) ne)) σ') : wX8_ended mx (lN h) (lN l) post σ := by
  unfold wX8_ended
  have hff := ff_lt V nb nt ne nf nr h l
  refine ⟨hM.mx, m_fileFault hM hh hl hnb h5 hnt h4 hne h20 hnf (by omega) hnr (by omega) hib ?_⟩
  refine pk_le (ff V nb nt ne nf nr h l) 0 (fun c => ⟨hM.mx, fun r8 e8 => ⟨hM.mx, hM.mx, hM.mx, ?_⟩⟩) (fun c => ⟨hM.mx, fun r e => ⟨A 1495, e.trans (hM.rf 1495 (by decide)), m_tal hM AG.rfl' hff (fun σ1 h1 g1 => hbad (by omega) σ1 h1 g1)⟩⟩) (ha := by omega)
  rw [hM.sc]
  refine m_bankOf hM hnb h5 ⟨hM.mx, A 1477, e8.trans (hM.rf 1477 (by decide)), hM.kd 1477 (by decide), ?_, ?_⟩
  · rw [hM.sc, hnf]; exact vp_in_nI (by omega) (by decide)
  refine hM.setA AG.rfl' 1477 (by decide) (i' := nf) (y := 10000 * oI (bk V nb (V.1 460)) + V.1 461) (by rw [hM.sc, hnf, nI_clamp (by omega)]) (by rw [hM.sc]) (fun σ1 h1 g1 => ⟨h1.mx, h1.mx, ?_⟩)
  refine h1.setS g1 478 (by decide) (y := nI (nf + 1)) (by rw [h1.sc]; show V.1 478 + 1 = _; rw [hnf, nI_1]) (fun σ2 h2 g2 => ?_)
  exact ⟨nt + 1, m_ended_67 (nr := nr) (W := fiV V nb nf) hnb h5 hnt h4 hne h20 h480 hib hnr (FV.fi V nb nf) (fun σ3 h3 g3 => hp (by omega) σ3 h3 g3) nt 0 σ2 (by omega) h2 g2⟩
def hdV (h : Nat) (V : MV) : MV := mS (mS (mS (mS (mS V 460 (nI (dg h 1 4))) 461 (nI (dg h 5 4))) 462 0) 463 0) 459 1
def sayV (nt h l : Nat) (V : MV) : MV := mS (mA (mA (mA (mA V 1467 (nt - 1) (nI (dg h 1 4))) 1468 (nt - 1) (nI (dg h 5 6))) 1469 (nt - 1) (nI (dg l 0 9))) 1470 (nt - 1) (nI (dg l 9 9))) 459 1
theorem half_cases (x : Int64) : (∃ h : Nat, h < 10 ^ 18 ∧ x = lN h) ∨ x < 0 ∨ (999999999999999999 : Int64) < x := by
  by_cases h0 : x < 0
  · exact Or.inr (Or.inl h0)
  · obtain ⟨k, hk, rfl⟩ := pk_lOf h0
    by_cases h : k < 10 ^ 18
    · exact Or.inl ⟨k, h, rfl⟩
    · exact Or.inr (Or.inr ((pk_lLT (a := 999999999999999999) (by decide) hk).mpr (by omega)))
theorem half_t {h : Nat} (hh : h < 10 ^ 18) : ¬ lN h < 0 ∧ ¬ (999999999999999999 : Int64) < lN h := by
  have h63 : h < 2 ^ 63 := Nat.lt_trans hh (by decide)
  refine ⟨fun z => ?_, fun z => ?_⟩
  · have := (pk_lLT (b := 0) h63 (by decide)).mp z
    omega
  · have := (pk_lLT (a := 999999999999999999) (by decide) h63).mp z
    omega
theorem m_put (hM : MI mx A V σ) {post : Int32 → St → Prop} {nb st nt ne nf nr : Nat} (p q : Int64) (hnb : V.1 450 = nI nb) (h5 : nb ≤ 5) (hst : V.1 459 = nI st) (h2 : st ≤ 2) (hnt : V.1 462 = nI nt) (h4 : nt ≤ 4) (hne : V.1 463 = nI ne) (h20 : ne ≤ 20) (hnf : V.1 478 = nI nf) (h256 : nf < 256) (hnr : V.1 479 = nI nr) (h480 : nr ≤ 480) (hib : st ≠ 0 → ∀ e, e < ne → V.2.1 1471 e = nI (ibn V e) ∧ ibn V e < 4) (h0 : st = 2 → 0 < nt)
    (hbad : ((p < 0 ∨ 999999999999999999 < p) ∨ q < 0 ∨ 999999999999999999 < q) → post (-1) σ)
    (hgo : ∀ h l, h < 10 ^ 18 → l < 10 ^ 18 → p = lN h → q = lN l →
      (dg h 0 1 = 1 → st = 0 → ∀ σ', MI mx A (hdV h (mS V 459 0)) σ' → AG cTag σ σ' → post 0 σ') ∧
      (dg h 0 1 = 5 → st = 1 → nt = 4 → ∀ σ', MI mx A (mS V 459 0) σ' → AG cTag σ σ' → post (-3) σ') ∧
      (dg h 0 1 = 5 → st = 1 → nt < 4 → ∀ σ', MI mx A (batV nt h (mS V 459 0)) σ' → AG cTag σ σ' → post 0 σ') ∧
      (dg h 0 1 = 6 → st = 2 → ne = 20 → ∀ σ', MI mx A (mS V 459 0) σ' → AG cTag σ σ' → post (-3) σ') ∧
      (dg h 0 1 = 6 → st = 2 → ne < 20 → ∀ σ', MI mx A (entV nt ne h l (mS V 459 0)) σ' → AG cTag σ σ' → post 0 σ') ∧
      (dg h 0 1 = 8 → st = 2 → ∀ σ', MI mx A (sayV nt h l (mS V 459 0)) σ' → AG cTag σ σ' → post 0 σ') ∧
      (dg h 0 1 = 9 → st = 1 → ff (mS V 459 0) nb nt ne nf nr h l ≠ 0 → ∀ σ', MI mx A (tlV (mS V 459 0) (ff (mS V 459 0) nb nt ne nf nr h l)) σ' → AG cTag σ σ' → post (-(nI (ff (mS V 459 0) nb nt ne nf nr h l))) σ') ∧
      (dg h 0 1 = 9 → st = 1 → ff (mS V 459 0) nb nt ne nf nr h l = 0 → ∀ σ', MI mx A (enV (mS V 459 0) nb nt ne nf) σ' → AG cTag σ σ' → post (nI (cntL (good (mS V 459 0) nb ne) ne)) σ') ∧
      ((¬ (dg h 0 1 = 1 ∧ st = 0)) → (¬ (dg h 0 1 = 5 ∧ st = 1)) → (¬ (dg h 0 1 = 6 ∧ st = 2)) → (¬ (dg h 0 1 = 8 ∧ st = 2)) → (¬ (dg h 0 1 = 9 ∧ st = 1)) → ∀ σ', MI mx A (mS V 459 0) σ' → AG cTag σ σ' → post (-2) σ')) : wX8_put mx p q post σ := by
  unfold wX8_put
  simp only [lg_cmp_lt, lg_cmp_gt, lg_cmp_le]
  rcases half_cases p with ⟨h, hh, rfl⟩ | hx | hx
  rotate_left
  · exact br_t hx (hbad (Or.inl (Or.inl hx)))
  · by_cases c : p < 0
    · exact br_t c (hbad (Or.inl (Or.inl c)))
    · exact br_f c (br_t hx (hbad (Or.inl (Or.inr hx))))
  refine br_f (half_t hh).1 (br_f (half_t hh).2 ?_)
  rcases half_cases q with ⟨l, hl, rfl⟩ | hx | hx
  rotate_left
  · exact br_t hx (hbad (Or.inr (Or.inl hx)))
  · by_cases c : q < 0
    · exact br_t c (hbad (Or.inr (Or.inl c)))
    · refine br_f c (br_f (fun z => ?_) (hbad (Or.inr (Or.inr hx))))
      rw [Int64.le_iff_toInt_le] at z
      rw [Int64.lt_iff_toInt_lt] at hx
      omega
  refine br_f (half_t hl).1 (br_t ?_ ?_)
  · have := (half_t hl).2
    rw [Int64.lt_iff_toInt_lt] at this
    rw [Int64.le_iff_toInt_le]
    omega
  have hh63 : h < 2 ^ 63 := Nat.lt_trans hh (by decide)
  have hl63 : l < 2 ^ 63 := Nat.lt_trans hl (by decide)
  have hdt := dg_lt h 0 1
  obtain ⟨q1, q2, q3, q4, q5, q6, q7, q8, q9⟩ := hgo h l hh hl rfl rfl
  refine m_digits hh63 0 1 (by decide) (by decide) ⟨hM.mx, nm_r ((hM.sc 459).trans hst) ⟨hM.mx, hM.setS AG.rfl' 459 (by decide) rfl (fun σ1 h1 g1 => ?_)⟩⟩
  have k222 : (¬ (dg h 0 1 = 1 ∧ st = 0)) → (¬ (dg h 0 1 = 5 ∧ st = 1)) → (¬ (dg h 0 1 = 6 ∧ st = 2)) → (¬ (dg h 0 1 = 8 ∧ st = 2)) → wX8_put_222 mx post (lN h) (lN l) (nI (dg h 0 1)) (nI st) σ1 := fun n1 n2 n3 n4 => by
    unfold wX8_put_222
    refine pk_eq _ 9 (fun c => pk_eq st 1 (fun c2 => ⟨h1.mx, ?_⟩) (fun c2 => q9 n1 n2 n3 n4 (fun z => c2 z.2) σ1 h1 g1)) (fun c => q9 n1 n2 n3 n4 (fun z => c z.1) σ1 h1 g1) (ha := by omega)
    exact m_ended (nr := nr) h1 hh63 hl63 hnb h5 hnt h4 hne h20 hnf h256 hnr h480 (hib (by omega)) (fun z σ2 a2 g2 => q7 c c2 z σ2 a2 (g1.trans g2)) (fun z σ2 a2 g2 => q8 c c2 z σ2 a2 (g1.trans g2))
  have k138 : (¬ (dg h 0 1 = 1 ∧ st = 0)) → (¬ (dg h 0 1 = 5 ∧ st = 1)) → (¬ (dg h 0 1 = 6 ∧ st = 2)) → wX8_put_138 mx post (lN h) (lN l) (nI (dg h 0 1)) (nI st) σ1 := fun n1 n2 n3 => by
    unfold wX8_put_138
    refine pk_eq _ 8 (fun c => pk_eq st 2 (fun c2 => ⟨h1.mx, ?_⟩) (fun c2 => k222 n1 n2 n3 (fun z => c2 z.2))) (fun c => k222 n1 n2 n3 (fun z => c z.1)) (ha := by omega)
    have ht0 := h0 c2
    refine nm_r (e' := nI (nt - 1)) (by rw [h1.sc, mS_1, if_neg (by decide), hnt]; exact pk_sub (b := 1) (by omega)) ⟨h1.mx, fun r30 e30 => m_digits hh63 1 4 (by decide) (by decide) ⟨A 1467, e30.trans (h1.rf 1467 (by decide)), h1.kd 1467 (by decide), vp_in_nI (by omega) (by decide), ?_⟩⟩
    have hcl : (nI (nt - 1)).toNatClampNeg = nt - 1 := nI_clamp (by omega)
    refine h1.setA g1 1467 (by decide) hcl rfl (fun σ2 a2 g2 => ⟨a2.mx, fun r39 e39 => m_digits hh63 5 6 (by decide) (by decide) ⟨A 1468, e39.trans (a2.rf 1468 (by decide)), a2.kd 1468 (by decide), vp_in_nI (by omega) (by decide), ?_⟩⟩)
    refine a2.setA g2 1468 (by decide) hcl rfl (fun σ3 a3 g3 => ⟨a3.mx, fun r48 e48 => m_digits hl63 0 9 (by decide) (by decide) ⟨A 1469, e48.trans (a3.rf 1469 (by decide)), a3.kd 1469 (by decide), vp_in_nI (by omega) (by decide), ?_⟩⟩)
    refine a3.setA g3 1469 (by decide) hcl rfl (fun σ4 a4 g4 => ⟨a4.mx, fun r57 e57 => m_digits hl63 9 9 (by decide) (by decide) ⟨A 1470, e57.trans (a4.rf 1470 (by decide)), a4.kd 1470 (by decide), vp_in_nI (by omega) (by decide), ?_⟩⟩)
    refine a4.setA g4 1470 (by decide) hcl rfl (fun σ5 a5 g5 => ⟨a5.mx, ?_⟩)
    exact a5.setS g5 459 (by decide) rfl (fun σ6 a6 g6 => q6 c c2 σ6 a6 g6)
  have k118 : (¬ (dg h 0 1 = 1 ∧ st = 0)) → (¬ (dg h 0 1 = 5 ∧ st = 1)) → wX8_put_118 mx post (lN h) (lN l) (nI (dg h 0 1)) (nI st) σ1 := fun n1 n2 => by
    unfold wX8_put_118
    refine pk_eq _ 6 (fun c => pk_eq st 2 (fun c2 => ⟨h1.mx, ?_⟩) (fun c2 => k138 n1 n2 (fun z => c2 z.2))) (fun c => k138 n1 n2 (fun z => c z.1)) (ha := by omega)
    exact m_entry h1 hh63 hl63 hnt (h0 c2) hne h20 (fun z => q4 c c2 z σ1 h1 g1) (fun z σ2 a2 g2 => q5 c c2 z σ2 a2 (g1.trans g2))
  have k100 : (¬ (dg h 0 1 = 1 ∧ st = 0)) → wX8_put_100 mx post (lN h) (lN l) (nI (dg h 0 1)) (nI st) σ1 := fun n1 => by
    unfold wX8_put_100
    refine pk_eq _ 5 (fun c => pk_eq st 1 (fun c2 => ⟨h1.mx, ?_⟩) (fun c2 => k118 n1 (fun z => c2 z.2))) (fun c => k118 n1 (fun z => c z.1)) (ha := by omega)
    exact m_batch h1 hh63 hnt h4 (fun z => q2 c c2 z σ1 h1 g1) (fun z σ2 a2 g2 => q3 c c2 z σ2 a2 (g1.trans g2))
  refine pk_eq _ 1 (fun c => pk_eq st 0 (fun c2 => ?_) (fun c2 => k100 (fun z => c2 z.2))) (fun c => k100 (fun z => c z.1)) (ha := by omega)
  refine m_digits hh63 1 4 (by decide) (by decide) ⟨h1.mx, h1.setS g1 460 (by decide) rfl (fun σ2 a2 g2 => ?_)⟩
  refine m_digits hh63 5 4 (by decide) (by decide) ⟨a2.mx, a2.setS g2 461 (by decide) rfl (fun σ3 a3 g3 => ⟨a3.mx, ?_⟩)⟩
  refine a3.setS g3 462 (by decide) rfl (fun σ4 a4 g4 => ⟨a4.mx, ?_⟩)
  refine a4.setS g4 463 (by decide) rfl (fun σ5 a5 g5 => ⟨a5.mx, ?_⟩)
  exact a5.setS g5 459 (by decide) rfl (fun σ6 a6 g6 => q1 c c2 σ6 a6 g6)
end MP
