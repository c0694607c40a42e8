/-! which span a place lies in -/
def ovr (pl : Nat → Int32) (p q : Nat) (x : Int) : Prop := (pl p).toInt ≤ x ∧ x ≤ (pl q).toInt
/-- the first span over a place -/
def fst (np : Nat) (st pl : Nat → Int32) (x : Int) (i p q : Nat) : Prop := spn np st i p q ∧ ovr pl p q x ∧ ∀ i' p' q', spn np st i' p' q' → i' < i → ¬ ovr pl p' q' x
def nov (np : Nat) (st pl : Nat → Int32) (x : Int) : Prop := ∀ i p q, spn np st i p q → ¬ ovr pl p q x
theorem fst_uniq {np : Nat} {st pl : Nat → Int32} {x : Int} {i p q i' p' q' : Nat} (h : fst np st pl x i p q) (h' : fst np st pl x i' p' q') : i = i' ∧ p = p' ∧ q = q' := by
  have e : i = i' := by
    rcases Nat.lt_trichotomy i i' with c | c | c
    · exact absurd h.2.1 (h'.2.2 i p q h.1 c)
    · exact c
    · exact absurd h'.2.1 (h.2.2 i' p' q' h'.1 c)
  subst e
  exact ⟨rfl, spn_uniq h.1 h'.1⟩
theorem fst_nov {np : Nat} {st pl : Nat → Int32} {x : Int} {i p q : Nat} (h : fst np st pl x i p q) (h' : nov np st pl x) : False := h' i p q h.1 h.2.1
theorem fst_congr {np : Nat} {st st' pl pl' : Nat → Int32} (hs : ∀ i, i < np → st i = st' i) (hp : ∀ i, i < np → pl i = pl' i) {x : Int} {i p q : Nat} (h : fst np st pl x i p q) : fst np st' pl' x i p q := by
  obtain ⟨h1, h2, h3⟩ := h
  have b1 := h1.1
  have b2 := h1.2.1
  refine ⟨spn_congr hs h1, ?_, fun i' p' q' h4 h5 h6 => ?_⟩
  · unfold ovr at h2 ⊢; rw [← hp p (by omega), ← hp q b2]; exact h2
  · have c1 := h4.1
    have c2 := h4.2.1
    refine h3 i' p' q' (spn_congr (fun i hi => (hs i hi).symm) h4) h5 ?_
    unfold ovr at h6 ⊢; rw [hp p' (by omega), hp q' c2]; exact h6
theorem nov_congr {np : Nat} {st st' pl pl' : Nat → Int32} (hs : ∀ i, i < np → st i = st' i) (hp : ∀ i, i < np → pl i = pl' i) {x : Int} (h : nov np st pl x) : nov np st' pl' x := by
  intro i p q h4 h6
  have c1 := h4.1
  have c2 := h4.2.1
  refine h i p q (spn_congr (fun i hi => (hs i hi).symm) h4) ?_
  unfold ovr at h6 ⊢; rw [hp p (by omega), hp q c2]; exact h6
theorem q8_spanEnd {Q : Int32 → Prop} {np : Nat} (hnp : np ≤ 40) {st pl : Nat → Int32} {x : Int32} (h1 : ∀ i p q, fst np st pl x.toInt i p q → Q (nI q)) (h0 : nov np st pl x.toInt → Q (-6)) : wp_X8_spanEnd Q (nI np) pl st x := by
  unfold wp_X8_spanEnd
  have main : ∀ (d k : Nat) (y : Int32), k + d = np → ((cnt st k = 0 ∧ y = -6) ∨ ∃ p, p < k ∧ ¬ st p = 0 ∧ cnt st p + 1 = cnt st k ∧ y = nI p) → (∀ i p q, spn np st i p q → q < k → ¬ ovr pl p q x.toInt) → ∃ n, wl_X8_spanEnd_5 Q (nI np) pl st n x y (nI k) := by
    intro d
    induction d with
    | zero =>
      intro k y hk hy hno
      refine ⟨1, ?_⟩
      show wb_X8_spanEnd_5 Q _ _ _ _ _ _ _
      unfold wb_X8_spanEnd_5
      have e : k = np := by omega
      subst e
      exact ⟨fun _ => h0 (fun i p q h => hno i p q h h.2.1), fun q => absurd (nI_le (Nat.le_refl k) (by omega)) q⟩
    | succ d ih =>
      intro k y hk hy hno
      have hin : vp_in (nI k) 40 := vp_nI (by omega) (by omega)
      by_cases hs : st k = 0
      · obtain ⟨n, hn⟩ := ih (k + 1) y (by omega) (by
          rcases hy with ⟨q1, q2⟩ | ⟨p, q1, q2, q3, q4⟩
          · exact Or.inl ⟨by rw [cnt_s0 hs]; exact q1, q2⟩
          · exact Or.inr ⟨p, by omega, q2, by rw [cnt_s0 hs]; exact q3, q4⟩) (fun i p q h hq => hno i p q h (by
            rcases Nat.lt_or_ge q k with w | w
            · exact w
            · exact absurd (by rw [show q = k by omega]; exact hs) h.2.2.2.1))
        refine ⟨n + 1, ?_⟩
        show wb_X8_spanEnd_5 Q _ _ _ _ _ _ _
        unfold wb_X8_spanEnd_5 wb_X8_spanEnd_50
        refine ⟨fun q => absurd q (nI_ge (by omega) (by omega)), fun _ => ⟨hin, ?_⟩⟩
        rw [cl_nI (by omega)]
        exact ⟨fun _ z hz => by rw [hz, nI_1]; exact hn, fun q => absurd hs q⟩
      · -- a mast at k
        by_cases ho : ∃ p, p < k ∧ ¬ st p = 0 ∧ cnt st p + 1 = cnt st k ∧ y = nI p ∧ ovr pl p k x.toInt
        · obtain ⟨p, q1, q2, q3, q4, q5⟩ := ho
          refine ⟨1, ?_⟩
          show wb_X8_spanEnd_5 Q _ _ _ _ _ _ _
          unfold wb_X8_spanEnd_5
          refine ⟨fun q => absurd q (nI_ge (by omega) (by omega)), fun _ => ⟨hin, ?_⟩⟩
          rw [cl_nI (show k < 2147483648 by omega)]
          refine ⟨fun q => absurd q hs, fun _ => ⟨fun q => absurd q (by rw [q4]; exact nI_pos (by omega)), fun _ => ⟨by rw [q4]; exact vp_nI (by omega) (by omega), ?_⟩⟩⟩
          rw [q4, cl_nI (by omega)]
          refine ⟨fun q => absurd ((x_lt _ _).mp q) (by have := q5.1; omega), fun _ => ⟨hin, fun q => absurd ((x_lt _ _).mp q) (by have := q5.2; omega), fun _ => ?_⟩⟩
          refine h1 (cnt st p) p k ⟨⟨q1, by omega, q2, hs, rfl, by omega⟩, q5, fun i' p' q' h4 h5 => hno i' p' q' h4 ?_⟩
          rcases Nat.lt_or_ge q' k with w | w
          · exact w
          · have m1 := cnt_mono' (st := st) w
            have m2 := h4.2.2.2.2.2
            omega
        · obtain ⟨n, hn⟩ := ih (k + 1) (nI k) (by omega) (Or.inr ⟨k, by omega, hs, by rw [cnt_s1 hs], rfl⟩) (fun i p q h hq hov => by
            rcases Nat.lt_or_ge q k with w | w
            · exact hno i p q h w hov
            · have e : q = k := by omega
              subst e
              obtain ⟨s1, s2, s3, s4, s5, s6⟩ := h
              rcases hy with ⟨r1, r2⟩ | ⟨p', r1, r2, r3, r4⟩
              · omega
              · have e2 : p = p' := cnt_inj s3 r2 (by omega)
                subst e2
                exact ho ⟨p, r1, r2, r3, r4, hov⟩)
          refine ⟨n + 1, ?_⟩
          show wb_X8_spanEnd_5 Q _ _ _ _ _ _ _
          unfold wb_X8_spanEnd_5
          have go : wb_X8_spanEnd_48 Q (nI np) pl st (wl_X8_spanEnd_5 Q (nI np) pl st n) x (nI k) := by
            unfold wb_X8_spanEnd_48 wb_X8_spanEnd_50
            intro z hz
            rw [hz, nI_1]; exact hn
          refine ⟨fun q => absurd q (nI_ge (by omega) (by omega)), fun _ => ⟨hin, ?_⟩⟩
          rw [cl_nI (show k < 2147483648 by omega)]
          refine ⟨fun q => absurd q hs, fun _ => ⟨fun _ => go, fun hneg => ?_⟩⟩
          rcases hy with ⟨r1, r2⟩ | ⟨p, r1, r2, r3, r4⟩
          · exact absurd (by rw [r2]; decide) hneg
          · refine ⟨by rw [r4]; exact vp_nI (by omega) (by omega), ?_⟩
            rw [r4, cl_nI (by omega)]
            refine ⟨fun _ => go, fun c1 => ⟨hin, fun _ => go, fun c2 => absurd ⟨p, r1, r2, r3, r4, ?_, ?_⟩ ho⟩⟩
            · rw [x_lt] at c1; omega
            · rw [x_lt] at c2; omega
  have := main np 0 (-6) (by omega) (Or.inl ⟨rfl, rfl⟩) (fun i p q _ h => absurd h (Nat.not_lt_zero _))
  exact this
/-! the component's spans -/
theorem q2_spans {Q : Int32 → Prop} {c : Nat} (hc : c ≤ 40) (hq : Q (nI (c - 1))) : wp_X2_spans Q (nI c) := by
  unfold wp_X2_spans
  refine ⟨fun h => ?_, fun h => ?_⟩
  · rw [x_le, zt_1, nI_t (by omega)] at h
    rw [show c - 1 = 0 by omega] at hq; exact hq
  · rw [x_le, zt_1, nI_t (by omega)] at h
    obtain ⟨c', rfl⟩ : ∃ c', c = c' + 1 := ⟨c - 1, by omega⟩
    rw [nI_pred]; exact hq
theorem mp_at {np : Nat} {st mp : Nat → Int32} (hm : mpOk np st mp) {i p q : Nat} (h : spn np st i p q) : mp i = nI p ∧ mp (i + 1) = nI q := by
  obtain ⟨h1, h2, h3, h4, h5, h6⟩ := h
  have a := hm p (by omega) h3
  have b := hm q h2 h4
  rw [h5] at a
  rw [h6] at b
  exact ⟨a, b⟩
theorem q2_spanBegin {Q : Int32 → Prop} {np : Nat} (hnp : np ≤ 40) {st mp pl : Nat → Int32} (hm : mpOk np st mp) {i p q : Nat} (h : spn np st i p q) (hq : Q (pl p)) : wp_X2_spanBegin Q pl mp (nI i) := by
  have hi : i < 40 := by have := spn_lt h; have := cnt_le st np; omega
  have hp : p < 40 := by have := h.1; have := h.2.1; omega
  unfold wp_X2_spanBegin
  refine ⟨vp_nI hi (by omega), ?_⟩
  rw [cl_nI (by omega), (mp_at hm h).1]
  refine ⟨vp_nI hp (by omega), ?_⟩
  rw [cl_nI (by omega)]; exact hq
theorem q2_spanEnd {Q : Int32 → Prop} {np : Nat} (hnp : np ≤ 40) {st mp pl : Nat → Int32} (hm : mpOk np st mp) {i p q : Nat} (h : spn np st i p q) (hq : Q (pl q)) : wp_X2_spanEnd Q pl mp (nI i) := by
  have hi : i + 1 < 40 := by have := spn_lt h; have := cnt_le st np; omega
  have hp : q < 40 := by have := h.2.1; omega
  unfold wp_X2_spanEnd
  rw [nI_1]
  refine ⟨vp_nI hi (by omega), ?_⟩
  rw [cl_nI (by omega), (mp_at hm h).2]
  refine ⟨vp_nI hp (by omega), ?_⟩
  rw [cl_nI (by omega)]; exact hq
theorem side_l {x : Int32} (h : -400 ≤ x.toInt ∧ x.toInt ≤ 400) : ((2000 : Int32) * x).toInt64 = lI (2000 * x.toInt) := by
  have e : (2000 : Int32).toInt = 2000 := rfl
  rw [x_l, x_mul (by rw [e]; omega), e]
theorem q4_lay {Q : Int32 → Int32 → Int64 → Int64 → Prop} {pl : Nat → Int32} {ta : Nat → Int64} {v1 v2 : Int32} {v3 v4 : Int64} {p q : Nat} {s t : Int32} (hp : p < 40) (hq : q < 40) {A : Int → Int} (e1 : ta p = lI (A (pl p).toInt)) (e2 : ta q = lI (A (pl q).toInt)) (hs : -400 ≤ s.toInt ∧ s.toInt ≤ 400) (ht : -400 ≤ t.toInt ∧ t.toInt ≤ 400)
    (h : Q (pl p) (pl q) (lI (A (pl p).toInt + 2000 * s.toInt)) (lI (A (pl q).toInt + 2000 * t.toInt))) : wp_X4_lay Q pl ta v1 v2 v3 v4 (nI p) s (nI q) t := by
  unfold wp_X4_lay
  have i1 : vp_in (nI p) 40 := vp_nI hp (by omega)
  have i2 : vp_in (nI q) 40 := vp_nI hq (by omega)
  refine ⟨i1, fun x2 r2 => ⟨i2, fun x4 r4 => ⟨i1, fun x6 r6 => ⟨i2, fun x8 r8 => ?_⟩⟩⟩⟩
  rw [cl_nI (by omega)] at r2 r4 r6 r8
  rw [e1, side_l hs, lI_add] at r6
  rw [e2, side_l ht, lI_add] at r8
  rw [r2, r4, r6, r8]; exact h
theorem q7_laySpan {Q : Int32 → Int32 → Int64 → Int64 → Prop} {np : Nat} (hnp : np ≤ 40) {st mp pl sd : Nat → Int32} {ta : Nat → Int64} {v1 v2 : Int32} {v3 v4 : Int64} (hm : mpOk np st mp) {A : Int → Int} (hta : ∀ i, i < np → ta i = lI (A (pl i).toInt)) (hsd : ∀ i, i < np → -400 ≤ (sd i).toInt ∧ (sd i).toInt ≤ 400) {i p q : Nat} (h : spn np st i p q)
    (hq : Q (pl p) (pl q) (lI (A (pl p).toInt + 2000 * (sd p).toInt)) (lI (A (pl q).toInt + 2000 * (sd q).toInt))) : wp_X7_laySpan Q pl ta sd mp v1 v2 v3 v4 (nI i) := by
  have hi : i + 1 < 40 := by have := spn_lt h; have := cnt_le st np; omega
  have hpq := h.1
  have hqn := h.2.1
  obtain ⟨m1, m2⟩ := mp_at hm h
  unfold wp_X7_laySpan
  rw [nI_1]
  refine ⟨vp_nI (by omega) (by omega), fun x2 r2 => ⟨vp_nI hi (by omega), fun x4 r4 => ?_⟩⟩
  rw [cl_nI (by omega), m1] at r2
  rw [cl_nI (by omega), m2] at r4
  rw [r2, r4]
  refine ⟨vp_nI (by omega) (by omega), vp_nI (by omega) (by omega), ?_⟩
  rw [cl_nI (show p < 2147483648 by omega), cl_nI (show q < 2147483648 by omega)]
  exact q4_lay (by omega) (by omega) (hta p (by omega)) (hta q hqn) (hsd p (by omega)) (hsd q hqn) hq
theorem q7_laySpanOver {Q : Int32 → Int32 → Int32 → Int64 → Int64 → Prop} {np : Nat} (hnp : np ≤ 40) {st mp pl sd : Nat → Int32} {ta : Nat → Int64} {v1 v2 : Int32} {v3 v4 : Int64} (hm : mpOk np st mp) {A : Int → Int} (hta : ∀ i, i < np → ta i = lI (A (pl i).toInt)) (hsd : ∀ i, i < np → -400 ≤ (sd i).toInt ∧ (sd i).toInt ≤ 400) {x : Int32}
    (h1 : ∀ i p q, fst np st pl x.toInt i p q → Q 1 (pl p) (pl q) (lI (A (pl p).toInt + 2000 * (sd p).toInt)) (lI (A (pl q).toInt + 2000 * (sd q).toInt))) (h0 : nov np st pl x.toInt → Q 0 v1 v2 v3 v4) : wp_X7_laySpanOver Q (nI (cnt st np)) pl ta sd mp v1 v2 v3 v4 x := by
  have hc := cnt_le st np
  unfold wp_X7_laySpanOver
  have main : ∀ (d i : Nat), i + d = cnt st np - 1 → (∀ i' p q, spn np st i' p q → i' < i → ¬ ovr pl p q x.toInt) → ∃ n, wl_X7_laySpanOver_2 Q (nI (cnt st np)) pl ta sd mp n v1 v2 v3 v4 x (nI i) := by
    intro d
    induction d with
    | zero =>
      intro i hi hno
      refine ⟨1, ?_⟩
      show wb_X7_laySpanOver_2 Q _ _ _ _ _ _ _ _ _ _ _ _
      unfold wb_X7_laySpanOver_2
      refine q2_spans (by omega) ⟨fun _ => ⟨b_01, h0 (fun i' p q h => hno i' p q h (by have := spn_lt h; omega))⟩, fun q => absurd (nI_le (show cnt st np - 1 ≤ i by omega) (by omega)) q⟩
    | succ d ih =>
      intro i hi hno
      obtain ⟨p, q, hs⟩ := spn_ex (np := np) (st := st) (i := i) (by omega)
      by_cases ho : ovr pl p q x.toInt
      · refine ⟨1, ?_⟩
        show wb_X7_laySpanOver_2 Q _ _ _ _ _ _ _ _ _ _ _ _
        unfold wb_X7_laySpanOver_2
        refine q2_spans (by omega) ⟨fun z => absurd z (nI_ge (by omega) (by omega)), fun _ => q2_spanBegin hnp hm hs ⟨fun z => absurd ((x_lt _ _).mp z) (by have := ho.1; omega), fun _ => q2_spanEnd hnp hm hs ⟨fun z => absurd ((x_lt _ _).mp z) (by have := ho.2; omega), fun _ => q7_laySpan hnp hm hta hsd hs ⟨b_11, h1 i p q ⟨hs, ho, hno⟩⟩⟩⟩⟩
      · obtain ⟨n, hn⟩ := ih (i + 1) (by omega) (fun i' p' q' h' hlt => by
          rcases Nat.lt_or_ge i' i with w | w
          · exact hno i' p' q' h' w
          · have e : i' = i := by omega
            subst e
            obtain ⟨e1, e2⟩ := spn_uniq h' hs
            rw [e1, e2]; exact ho)
        refine ⟨n + 1, ?_⟩
        show wb_X7_laySpanOver_2 Q _ _ _ _ _ _ _ _ _ _ _ _
        unfold wb_X7_laySpanOver_2 wb_X7_laySpanOver_44
        refine q2_spans (by omega) ⟨fun z => absurd z (nI_ge (by omega) (by omega)), fun _ => q2_spanBegin hnp hm hs ⟨fun _ y hy => by rw [hy, nI_1]; exact hn, fun c1 => q2_spanEnd hnp hm hs ⟨fun _ y hy => by rw [hy, nI_1]; exact hn, fun c2 => absurd ⟨?_, ?_⟩ ho⟩⟩⟩
        · rw [x_lt] at c1; omega
        · rw [x_lt] at c2; omega
  exact main (cnt st np - 1) 0 (by omega) (fun i' p q _ h => absurd h (Nat.not_lt_zero _))
