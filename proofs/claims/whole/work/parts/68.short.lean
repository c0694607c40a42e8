/-! shortOne -/
def shrt (np : Nat) (st pl : Nat → Int32) (T o D ld hg : Int32) (k i : Nat) : Prop := ∃ p q, spn np st k p q ∧ drU hg.toInt T.toInt o.toInt D.toInt ld.toInt ((pl q).toInt - (pl p).toInt) (i : Int) < 100 * sgL T.toInt D.toInt
theorem q7_shortOne {Q : Int32 → Prop} {np d0 : Nat} (hnp : np ≤ 40) {st mp pl : Nat → Int32} (hm : mpOk np st mp) (hpl : ∀ i, i < np → 0 ≤ (pl i).toInt ∧ (pl i).toInt ≤ 4000) {T o D ld hg : Int32} (hc : crOk T o D ld hg) (hd : D.toInt = (d0 : Int))
    (h1 : ∀ k i, k < 40 → i < d0 → shrt np st pl T o D ld hg k i → (∀ k' i', i' < d0 → (k' < k ∨ (k' = k ∧ i' < i)) → ¬ shrt np st pl T o D ld hg k' i') → Q (nI (100 * k + i))) (h0 : (∀ k i, i < d0 → ¬ shrt np st pl T o D ld hg k i) → Q (-6)) : wp_X7_shortOne Q (nI (cnt st np)) pl mp T o D ld hg := by
  have hcl := cnt_le st np
  have hD : 1 ≤ D.toInt ∧ D.toInt ≤ 12 := ⟨hc.2.2.2.2.1, hc.2.2.2.2.2.1⟩
  have hL := sgL_b hc
  have eD : D = nI d0 := x_nI hd
  unfold wp_X7_shortOne
  -- the droppers of one span
  have inner : ∀ (K2 : Int32 → Prop) (k p q : Nat), spn np st k p q → k < 40 → (∀ k' i', i' < d0 → k' < k → ¬ shrt np st pl T o D ld hg k' i') → ∀ (L : Int32), L.toInt = (pl q).toInt - (pl p).toInt → ∀ (d i : Nat), i + d = d0 → (∀ i', i' < i → ¬ shrt np st pl T o D ld hg k i') → ((∀ i', i' < d0 → ¬ shrt np st pl T o D ld hg k i') → K2 (nI (k + 1))) → ∃ n, wl_X7_shortOne_24 Q (nI (cnt st np)) pl mp T o D ld hg K2 n (nI k) L (nI i) := by
    intro K2 k p q hs hk40 hbef L tL d
    have bL := hpl p (by have := hs.1; have := hs.2.1; omega)
    have bL2 := hpl q hs.2.1
    induction d with
    | zero =>
      intro i hi hno hK
      refine ⟨1, ?_⟩
      show wb_X7_shortOne_24 Q _ _ _ _ _ _ _ _ _ _ _ _ _
      unfold wb_X7_shortOne_24
      have e : i = d0 := by omega
      subst e
      refine ⟨fun _ x5 e5 => ?_, fun h => absurd (by rw [eD]; exact nI_le (Nat.le_refl _) (by omega)) h⟩
      rw [e5, nI_1]; exact hK hno
    | succ d ih =>
      intro i hi hno hK
      have hik : 0 ≤ (nI i).toInt ∧ (nI i).toInt < D.toInt := by rw [nI_t (by omega), hd]; omega
      have bU := drU_b hc (l := L.toInt) (i := (nI i).toInt) (by omega) hik
      have eU : drU hg.toInt T.toInt o.toInt D.toInt ld.toInt L.toInt (nI i).toInt = drU hg.toInt T.toInt o.toInt D.toInt ld.toInt ((pl q).toInt - (pl p).toInt) (i : Int) := by rw [tL, nI_t (by omega)]
      by_cases c : shrt np st pl T o D ld hg k i
      · refine ⟨1, ?_⟩
        show wb_X7_shortOne_24 Q _ _ _ _ _ _ _ _ _ _ _ _ _
        unfold wb_X7_shortOne_24
        refine ⟨fun h => absurd h (by rw [eD]; exact nI_ge (by omega) (by omega)), fun _ => q0_lengthUpper hD hik (q0_lower ⟨fun h => ?_, fun _ => ?_⟩)⟩
        · exfalso
          rw [show (100 : Int64) = lI 100 from rfl, lI_mul, lI_le (by omega) (by omega), eU] at h
          obtain ⟨p', q', hs', hlt⟩ := c
          obtain ⟨e1, e2⟩ := spn_uniq hs' hs
          subst e1 e2
          omega
        · rw [show (100 : Int32) = nI 100 from rfl, pk_mul, nI_add]
          exact h1 k i hk40 (by omega) c (fun k' i' q1 q2 => by
            rcases q2 with w | ⟨w1, w2⟩
            · exact hbef k' i' q1 w
            · subst w1; exact hno i' w2)
      · obtain ⟨n, hn⟩ := ih (i + 1) (by omega) (fun i' hi' => by
          rcases Nat.lt_or_ge i' i with w | w
          · exact hno i' w
          · rw [show i' = i by omega]; exact c) hK
        refine ⟨n + 1, ?_⟩
        show wb_X7_shortOne_24 Q _ _ _ _ _ _ _ _ _ _ _ _ _
        unfold wb_X7_shortOne_24
        refine ⟨fun h => absurd h (by rw [eD]; exact nI_ge (by omega) (by omega)), fun _ => q0_lengthUpper hD hik (q0_lower ⟨fun h x9 e9 => ?_, fun h => absurd ?_ c⟩)⟩
        · rw [e9, nI_1]; exact hn
        · rw [show (100 : Int64) = lI 100 from rfl, lI_mul, lI_le (by omega) (by omega), eU] at h
          exact ⟨p, q, hs, by omega⟩
  have main : ∀ (d k : Nat), k + d = cnt st np - 1 → (∀ k' i', i' < d0 → k' < k → ¬ shrt np st pl T o D ld hg k' i') → ∃ n, wl_X7_shortOne_2 Q (nI (cnt st np)) pl mp T o D ld hg n (nI k) := by
    intro d
    induction d with
    | zero =>
      intro k hk hno
      refine ⟨1, ?_⟩
      show wb_X7_shortOne_2 Q _ _ _ _ _ _ _ _ _ _
      unfold wb_X7_shortOne_2
      refine q2_spans (by omega) ⟨fun _ => h0 (fun k' i' q1 ⟨p, q, hs, hlt⟩ => hno k' i' q1 (by have := spn_lt hs; omega) ⟨p, q, hs, hlt⟩), fun h => absurd (nI_le (show cnt st np - 1 ≤ k by omega) (by omega)) h⟩
    | succ d ih =>
      intro k hk hno
      obtain ⟨p, q, hs⟩ := spn_ex (np := np) (st := st) (i := k) (by omega)
      have bL := hpl p (by have := hs.1; have := hs.2.1; omega)
      have bL2 := hpl q hs.2.1
      obtain ⟨n, hn⟩ : ∃ n, (∀ i', i' < d0 → ¬ shrt np st pl T o D ld hg k i') → wl_X7_shortOne_2 Q (nI (cnt st np)) pl mp T o D ld hg n (nI (k + 1)) := by
        by_cases c : ∀ i', i' < d0 → ¬ shrt np st pl T o D ld hg k i'
        · obtain ⟨n, hn⟩ := ih (k + 1) (by omega) (fun k' i' q1 q2 => by
            rcases Nat.lt_or_ge k' k with w | w
            · exact hno k' i' q1 w
            · rw [show k' = k by omega]; exact c i' q1)
          exact ⟨n, fun _ => hn⟩
        · exact ⟨0, fun q => absurd q c⟩
      refine ⟨n + 1, ?_⟩
      show wb_X7_shortOne_2 Q _ _ _ _ _ _ _ _ _ _
      unfold wb_X7_shortOne_2
      refine q2_spans (by omega) ⟨fun h => absurd h (nI_ge (by omega) (by omega)), fun _ => ?_⟩
      unfold wp_X2_spanLength
      refine q2_spanEnd hnp hm hs (q2_spanBegin hnp hm hs ?_)
      exact inner _ k p q hs (by omega) hno _ (x_sub (by omega)) d0 0 (by omega) (fun i' h => absurd h (Nat.not_lt_zero _)) hn
  exact main (cnt st np - 1) 0 (by omega) (fun k' i' _ h => absurd h (Nat.not_lt_zero _))
theorem q8_shortOne {Q : Int32 → Prop} {np d0 : Nat} (hnp : np ≤ 40) {st pl : Nat → Int32} (hpl : ∀ i, i < np → 0 ≤ (pl i).toInt ∧ (pl i).toInt ≤ 4000) {T o D ld hg : Int32} (hc : crOk T o D ld hg) (hd : D.toInt = (d0 : Int))
    (h1 : ∀ k i, k < 40 → i < d0 → shrt np st pl T o D ld hg k i → (∀ k' i', i' < d0 → (k' < k ∨ (k' = k ∧ i' < i)) → ¬ shrt np st pl T o D ld hg k' i') → Q (nI (100 * k + i))) (h0 : (∀ k i, i < d0 → ¬ shrt np st pl T o D ld hg k i) → Q (-6)) : wp_X8_shortOne Q (nI np) pl st T o D ld hg := by
  have hcl := cnt_le st np
  have hD : 1 ≤ D.toInt ∧ D.toInt ≤ 12 := ⟨hc.2.2.2.2.1, hc.2.2.2.2.2.1⟩
  have hL := sgL_b hc
  have eD : D = nI d0 := x_nI hd
  unfold wp_X8_shortOne
  refine q8_masts hnp (fun x2 e2 => ?_)
  have t2 : x2.toInt = (cnt st np : Int) - 1 := by rw [e2, x_sub (by rw [nI_t (by omega), zt_1]; omega), nI_t (by omega), zt_1]
  have inner : ∀ (K9 : Int32 → Int32 → Prop) (k p q : Nat), spn np st k p q → k < 40 → (∀ k' i', i' < d0 → k' < k → ¬ shrt np st pl T o D ld hg k' i') → ∀ (L : Int32), L.toInt = (pl q).toInt - (pl p).toInt → ∀ (d i : Nat), i + d = d0 → (∀ i', i' < i → ¬ shrt np st pl T o D ld hg k i') → ((∀ i', i' < d0 → ¬ shrt np st pl T o D ld hg k i') → K9 x2 (nI (k + 1))) → ∃ n, wl_X8_shortOne_42 Q (nI np) pl st T o D ld hg K9 n x2 (nI k) L (nI i) := by
    intro K9 k p q hs hk40 hbef L tL d
    have bL := hpl p (by have := hs.1; have := hs.2.1; omega)
    have bL2 := hpl q hs.2.1
    induction d with
    | zero =>
      intro i hi hno hK
      refine ⟨1, ?_⟩
      show wb_X8_shortOne_42 Q _ _ _ _ _ _ _ _ _ _ _ _ _ _
      unfold wb_X8_shortOne_42
      have e : i = d0 := by omega
      subst e
      refine ⟨fun _ x5 e5 => ?_, fun h => absurd (by rw [eD]; exact nI_le (Nat.le_refl _) (by omega)) h⟩
      rw [e5, nI_1]; exact hK hno
    | succ d ih =>
      intro i hi hno hK
      have hik : 0 ≤ (nI i).toInt ∧ (nI i).toInt < D.toInt := by rw [nI_t (by omega), hd]; omega
      have bU := drU_b hc (l := L.toInt) (i := (nI i).toInt) (by omega) hik
      have eU : drU hg.toInt T.toInt o.toInt D.toInt ld.toInt L.toInt (nI i).toInt = drU hg.toInt T.toInt o.toInt D.toInt ld.toInt ((pl q).toInt - (pl p).toInt) (i : Int) := by rw [tL, nI_t (by omega)]
      by_cases c : shrt np st pl T o D ld hg k i
      · refine ⟨1, ?_⟩
        show wb_X8_shortOne_42 Q _ _ _ _ _ _ _ _ _ _ _ _ _ _
        unfold wb_X8_shortOne_42
        refine ⟨fun h => absurd h (by rw [eD]; exact nI_ge (by omega) (by omega)), fun _ => q8_dropUpper hD hik (q8_sagLower ⟨fun h => ?_, fun _ => ?_⟩)⟩
        · exfalso
          rw [show (100 : Int64) = lI 100 from rfl, lI_mul, lI_le (by omega) (by omega), eU] at h
          obtain ⟨p', q', hs', hlt⟩ := c
          obtain ⟨e1, e2⟩ := spn_uniq hs' hs
          subst e1 e2
          omega
        · rw [show (100 : Int32) = nI 100 from rfl, pk_mul, nI_add]
          exact h1 k i hk40 (by omega) c (fun k' i' q1 q2 => by
            rcases q2 with w | ⟨w1, w2⟩
            · exact hbef k' i' q1 w
            · subst w1; exact hno i' w2)
      · obtain ⟨n, hn⟩ := ih (i + 1) (by omega) (fun i' hi' => by
          rcases Nat.lt_or_ge i' i with w | w
          · exact hno i' w
          · rw [show i' = i by omega]; exact c) hK
        refine ⟨n + 1, ?_⟩
        show wb_X8_shortOne_42 Q _ _ _ _ _ _ _ _ _ _ _ _ _ _
        unfold wb_X8_shortOne_42
        refine ⟨fun h => absurd h (by rw [eD]; exact nI_ge (by omega) (by omega)), fun _ => q8_dropUpper hD hik (q8_sagLower ⟨fun h x9 e9 => ?_, fun h => absurd ?_ c⟩)⟩
        · rw [e9, nI_1]; exact hn
        · rw [show (100 : Int64) = lI 100 from rfl, lI_mul, lI_le (by omega) (by omega), eU] at h
          exact ⟨p, q, hs, by omega⟩
  have main : ∀ (d k : Nat), k + d = cnt st np - 1 → (∀ k' i', i' < d0 → k' < k → ¬ shrt np st pl T o D ld hg k' i') → ∃ n, wl_X8_shortOne_9 Q (nI np) pl st T o D ld hg n x2 (nI k) := by
    intro d
    induction d with
    | zero =>
      intro k hk hno
      refine ⟨1, ?_⟩
      show wb_X8_shortOne_9 Q _ _ _ _ _ _ _ _ _ _ _
      unfold wb_X8_shortOne_9
      refine ⟨fun _ => h0 (fun k' i' q1 ⟨p, q, hs, hlt⟩ => hno k' i' q1 (by have := spn_lt hs; omega) ⟨p, q, hs, hlt⟩), fun h => absurd ?_ h⟩
      rw [x_le, t2, nI_t (by omega)]; omega
    | succ d ih =>
      intro k hk hno
      obtain ⟨p, q, hs⟩ := spn_ex (np := np) (st := st) (i := k) (by omega)
      have bL := hpl p (by have := hs.1; have := hs.2.1; omega)
      have bL2 := hpl q hs.2.1
      have hpq := hs.1
      have hqn := hs.2.1
      obtain ⟨n, hn⟩ : ∃ n, (∀ i', i' < d0 → ¬ shrt np st pl T o D ld hg k i') → wl_X8_shortOne_9 Q (nI np) pl st T o D ld hg n x2 (nI (k + 1)) := by
        by_cases c : ∀ i', i' < d0 → ¬ shrt np st pl T o D ld hg k i'
        · obtain ⟨n, hn⟩ := ih (k + 1) (by omega) (fun k' i' q1 q2 => by
            rcases Nat.lt_or_ge k' k with w | w
            · exact hno k' i' q1 w
            · rw [show k' = k by omega]; exact c i' q1)
          exact ⟨n, fun _ => hn⟩
        · exact ⟨0, fun q => absurd q c⟩
      refine ⟨n + 1, ?_⟩
      show wb_X8_shortOne_9 Q _ _ _ _ _ _ _ _ _ _ _
      unfold wb_X8_shortOne_9
      refine ⟨fun h => absurd ((x_le _ _).mp h) (by rw [t2, nI_t (by omega)]; omega), fun _ => ?_⟩
      refine q8_endOf hnp (fun i p' q' ei hs2 => ?_) (fun hno => absurd (by omega) (hno k (nI_t (by omega)))) (by rw [nI_t (by omega)]; omega)
      have ei' : k = i := (nI_eq (by omega) (by have := spn_lt hs2; omega)).mp ei
      subst ei'
      obtain ⟨e1, e2⟩ := spn_uniq hs2 hs
      subst e1 e2
      refine ⟨vp_nI (by omega) (by omega), q8_mastBefore hnp hs ⟨vp_nI (by omega) (by omega), fun x8 e8 => ?_⟩⟩
      rw [cl_nI (by omega), cl_nI (by omega)] at e8
      exact inner _ k _ _ hs (by omega) hno x8 (by rw [e8, x_sub (by omega)]) d0 0 (by omega) (fun i' h => absurd h (Nat.not_lt_zero _)) hn
  exact main (cnt st np - 1) 0 (by omega) (fun k' i' _ h => absurd h (Nat.not_lt_zero _))
theorem r_shortOne {J0 : Prop} {E : Int} (hE4 : E ≤ 4000) {np : Nat} {pl pr sd st pl' pr' sd' st' mp : Nat → Int32} (hp : pgOk E np pl pr sd st pl' pr' sd' st') (hm : mpOk np st mp) {T o D ld hg : Int32} (hc : crOk T o D ld hg) (hJ : J0) : wp_X7_shortOne (fun r1 => wp_X8_shortOne (fun r2 => r1 = r2 ∧ J0) (nI np) pl' st' T o D ld hg) (nI (cnt st np)) pl mp T o D ld hg := by
  have hnp := hp.1
  have cst : ∀ i, i < np → st i = st' i := fun i hi => (hp.2.1 i hi).2.2.2.1
  have cpl : ∀ i, i < np → pl i = pl' i := fun i hi => (hp.2.1 i hi).1
  obtain ⟨d0, hd⟩ : ∃ d0 : Nat, D.toInt = (d0 : Int) := ⟨D.toInt.toNat, by have := hc.2.2.2.2.1; omega⟩
  have hpl : ∀ i, i < np → 0 ≤ (pl i).toInt ∧ (pl i).toInt ≤ 4000 := fun i hi => by
    obtain ⟨-, -, -, -, -, -, q7, q8, -⟩ := hp.2.1 i hi
    omega
  have hpl' : ∀ i, i < np → 0 ≤ (pl' i).toInt ∧ (pl' i).toInt ≤ 4000 := fun i hi => by rw [← cpl i hi]; exact hpl i hi
  have iff : ∀ k i, shrt np st pl T o D ld hg k i ↔ shrt np st' pl' T o D ld hg k i := fun k i => by
    constructor
    · rintro ⟨p, q, hs, hlt⟩
      refine ⟨p, q, spn_congr cst hs, ?_⟩
      rw [← cpl p (by have := hs.1; have := hs.2.1; omega), ← cpl q hs.2.1]; exact hlt
    · rintro ⟨p, q, hs, hlt⟩
      refine ⟨p, q, spn_congr (fun i hi => (cst i hi).symm) hs, ?_⟩
      rw [cpl p (by have := hs.1; have := hs.2.1; omega), cpl q hs.2.1]; exact hlt
  refine q7_shortOne hnp hm hpl hc hd (fun k i hk hi h1 h2 => q8_shortOne hnp hpl' hc hd (fun k2 i2 hk2 hi2 h3 h4 => ⟨?_, hJ⟩) (fun hno => absurd ((iff _ _).mp h1) (hno k i hi))) (fun hno => q8_shortOne hnp hpl' hc hd (fun k2 i2 _ hi2 h3 _ => absurd ((iff _ _).mpr h3) (hno k2 i2 hi2)) (fun _ => ⟨rfl, hJ⟩))
  have e : k = k2 ∧ i = i2 := by
    rcases Nat.lt_trichotomy k k2 with w | w | w
    · exact absurd ((iff _ _).mp h1) (h4 k i hi (Or.inl w))
    · subst w
      rcases Nat.lt_trichotomy i i2 with v | v | v
      · exact absurd ((iff _ _).mp h1) (h4 k i hi (Or.inr ⟨rfl, v⟩))
      · exact ⟨rfl, v⟩
      · exact absurd ((iff _ _).mpr h3) (h2 k i2 hi2 (Or.inr ⟨rfl, v⟩))
    · exact absurd ((iff _ _).mpr h3) (h2 k2 i2 hi2 (Or.inl w))
  rw [e.1, e.2]
