/-! off, kept, spanKept, worst -/
def LnOk (E : Int) (ln : Int32) (nb np : Nat) (fa fb fk ga gb gk pl pr sd st pl' pr' sd' st' mp : Nat → Int32) (ta : Nat → Int64) (isL : Int32) (fs : Nat → Int64) (wd pu bw sy rc : Int32) : Prop :=
  ln.toInt = E ∧ 100 ≤ E ∧ IvB E nb fa fb fk ga gb gk ∧ pgOk E np pl pr sd st pl' pr' sd' st' ∧ mpOk np st mp ∧ taOk nb fa fb fk np pl ta ∧ ldOk E nb ga gb gk isL fs ∧ swOk wd pu bw sy rc
theorem rmI_t {wd pu bw sy rc : Int32} (h : swOk wd pu bw sy rc) : (rmI bw sy).toInt = 2000 * (bw.toInt - sy.toInt) := by
  obtain ⟨w1, w2, w3, w4, w5, w6, w7, w8, w9, -⟩ := h
  exact iI_t (by omega)
theorem ln_span {E : Int} {ln : Int32} {nb np : Nat} {fa fb fk ga gb gk pl pr sd st pl' pr' sd' st' mp : Nat → Int32} {ta : Nat → Int64} {isL : Int32} {fs : Nat → Int64} {wd pu bw sy rc : Int32} (h : LnOk E ln nb np fa fb fk ga gb gk pl pr sd st pl' pr' sd' st' mp ta isL fs wd pu bw sy rc) {i p q : Nat} (hs : spn np st i p q) :
    lyOk E nb fa fb fk wd pu (rmI bw sy) (pl p) (pl q) ((fun z => asd fa fb fk z nb) (pl p).toInt + 2000 * (sd p).toInt) ((fun z => asd fa fb fk z nb) (pl q).toInt + 2000 * (sd q).toInt) ∧ spS (fun z => asd fa fb fk z nb) (pl' p).toInt (sd' p).toInt (pl' q).toInt (sd' q).toInt ∧ (pl' q).toInt ≤ E ∧ spn np st' i p q ∧ pl p = pl' p ∧ pl q = pl' q ∧ sd p = sd' p ∧ sd q = sd' q := by
  obtain ⟨hE, hE0, hB, hp, hm, hta, hL, hw⟩ := h
  have hpq := hs.1
  have hqn := hs.2.1
  obtain ⟨a1, a2, a3, a4, a5, a6, a7, a8, a9, a10, a11, a12⟩ := hp.2.1 p (by omega)
  obtain ⟨b1, b2, b3, b4, b5, b6, b7, b8, b9, b10, b11, b12⟩ := hp.2.1 q hqn
  have hlt := hp.2.2 p q hpq hqn
  have hE4 := hB.1.2.1
  have sp := spS_of hB.1 (x0 := (pl p).toInt) (s0 := (sd p).toInt) (x1 := (pl q).toInt) (s1 := (sd q).toInt) a7 hlt (by omega) ⟨a11, a12⟩ ⟨b11, b12⟩
  have hr := rmI_t hw
  obtain ⟨w1, w2, w3, w4, w5, w6, w7, w8, w9, -⟩ := hw
  refine ⟨⟨hB.1, hB.2.1, sp, w1, w2, w3, w4, by omega, by omega⟩, ?_, by rw [← b1]; exact b8, spn_congr (fun i hi => (hp.2.1 i hi).2.2.2.1) hs, a1, b1, a3, b3⟩
  rw [← a1, ← b1, ← a3, ← b3]; exact sp
/-- a place of the first span over it isn't kept -/
abbrev kpS (nb : Nat) (fa fb fk : Nat → Int32) (pl sd : Nat → Int32) (wd pu bw sy : Int32) (p q : Nat) (x : Int) : Prop := kpt (fun z => asd fa fb fk z nb) wd.toInt pu.toInt (2000 * (bw.toInt - sy.toInt)) (pl p).toInt (pl q).toInt ((fun z => asd fa fb fk z nb) (pl p).toInt + 2000 * (sd p).toInt) ((fun z => asd fa fb fk z nb) (pl q).toInt + 2000 * (sd q).toInt) x
theorem q8_isKeptAt {Q : Int32 → Int32 → (Nat → Int64) → Prop} {E : Int} {ln : Int32} {nb np : Nat} {fa fb fk ga gb gk pl pr sd st pl' pr' sd' st' mp : Nat → Int32} {ta : Nat → Int64} {isL : Int32} {fs : Nat → Int64} {wd pu bw sy rc : Int32} (h : LnOk E ln nb np fa fb fk ga gb gk pl pr sd st pl' pr' sd' st' mp ta isL fs wd pu bw sy rc) {i p q : Nat} (hs : spn np st i p q) {x : Int32} (hx : (pl p).toInt ≤ x.toInt ∧ x.toInt ≤ (pl q).toInt)
    (h1 : kpS nb fa fb fk pl sd wd pu bw sy p q x.toInt → ∀ isL' fs', ldOk E nb ga gb gk isL' fs' → Q 1 isL' fs') (h0 : ¬ kpS nb fa fb fk pl sd wd pu bw sy p q x.toInt → ∀ isL' fs', ldOk E nb ga gb gk isL' fs' → Q 0 isL' fs') :
    wp_X8_isKeptAt Q ln (nI nb) ga gb gk isL fs pl' st' sd' wd pu bw sy x (nI q) := by
  obtain ⟨l1, l2, l3, l4, l5, l6, l7, l8⟩ := ln_span h hs
  obtain ⟨hE, hE0, hB, hp, hm, hta, hL, hw⟩ := h
  have hnp := hp.1
  have hpq := hs.1
  have hqn := hs.2.1
  unfold wp_X8_isKeptAt
  refine q8_mastBefore hnp l4 ⟨vp_nI (by omega) (by omega), vp_nI (by omega) (by omega), vp_nI (by omega) (by omega), vp_nI (by omega) (by omega), ?_⟩
  rw [cl_nI (show p < 2147483648 by omega), cl_nI (show q < 2147483648 by omega)]
  rw [l5, l6] at hx
  have e : ∀ x : Int, kpS nb fa fb fk pl sd wd pu bw sy p q x ↔ kpt (fun z => asd fa fb fk z nb) wd.toInt pu.toInt (2000 * (bw.toInt - sy.toInt)) (pl' p).toInt (pl' q).toInt ((fun z => asd fa fb fk z nb) (pl' p).toInt + 2000 * (sd' p).toInt) ((fun z => asd fa fb fk z nb) (pl' q).toInt + 2000 * (sd' q).toInt) x := fun x => by
    show kpt _ _ _ _ _ _ _ _ _ ↔ _
    rw [l5, l6, l7, l8]
  exact q8_isKept hE (by omega) hB.2.2.1 (A := fun z => asd fa fb fk z nb) (fun x => hB.2.2.2.1 x) hL hw l2 l3 hx (fun k i2 f2 ld => ⟨b_11, h1 ((e _).mpr k) _ _ ld⟩) (fun k i2 f2 ld => ⟨b_01, h0 (fun z => k ((e _).mp z)) _ _ ld⟩)
theorem ln_sub {E : Int} {ln : Int32} {nb np : Nat} {fa fb fk ga gb gk pl pr sd st pl' pr' sd' st' mp : Nat → Int32} {ta : Nat → Int64} {isL : Int32} {fs : Nat → Int64} {wd pu bw sy rc : Int32} (h : LnOk E ln nb np fa fb fk ga gb gk pl pr sd st pl' pr' sd' st' mp ta isL fs wd pu bw sy rc) : (∀ i, i < np → st i = st' i) ∧ (∀ i, i < np → pl i = pl' i) ∧ (∀ i, i < np → ta i = lI ((fun z => asd fa fb fk z nb) (pl i).toInt)) ∧ (∀ i, i < np → -400 ≤ (sd i).toInt ∧ (sd i).toInt ≤ 400) := by
  obtain ⟨hE, hE0, hB, hp, hm, hta, hL, hw⟩ := h
  exact ⟨fun i hi => (hp.2.1 i hi).2.2.2.1, fun i hi => (hp.2.1 i hi).1, hta, fun i hi => ⟨(hp.2.1 i hi).2.2.2.2.2.2.2.2.2.2.1, (hp.2.1 i hi).2.2.2.2.2.2.2.2.2.2.2⟩⟩
theorem r_kept {J : Int32 → Int32 → Int64 → Int64 → Int32 → (Nat → Int64) → Prop} {E : Int} {ln : Int32} {nb np : Nat} {fa fb fk ga gb gk pl pr sd st pl' pr' sd' st' mp : Nat → Int32} {ta : Nat → Int64} {isL : Int32} {fs : Nat → Int64} {wd pu bw sy rc : Int32} (h : LnOk E ln nb np fa fb fk ga gb gk pl pr sd st pl' pr' sd' st' mp ta isL fs wd pu bw sy rc) {v1 v2 : Int32} {v3 v4 : Int64} {x : Int32} (hJ : ∀ m1 m2 m3 m4 n1 n2, ldOk E nb ga gb gk n1 n2 → J m1 m2 m3 m4 n1 n2) :
    wp_X7_kept (fun r1 m1 m2 m3 m4 => wp_X8_kept (fun r2 n1 n2 => r1 = r2 ∧ J m1 m2 m3 m4 n1 n2) ln (nI nb) ga gb gk isL fs (nI np) pl' st' sd' wd pu bw sy x) (nI nb) fa fb fk (nI (cnt st np)) pl ta sd mp wd pu (rmI bw sy) v1 v2 v3 v4 x := by
  obtain ⟨c1, c2, c3, c4⟩ := ln_sub h
  have hh := h
  obtain ⟨hE, hE0, hB, hp, hm, hta, hL, hw⟩ := h
  have hnp := hp.1
  have hr := rmI_t hw
  unfold wp_X7_kept wp_X8_kept
  refine q7_laySpanOver (A := fun z => asd fa fb fk z nb) hnp hm c3 c4 (fun i p q hf => ⟨fun z => absurd z n10, fun _ => ?_⟩) (fun hn => ⟨fun _ => ?_, fun z => absurd rfl z⟩)
  · obtain ⟨l1, -⟩ := ln_span hh hf.1
    have hq40 := hf.1.2.1
    refine q4_keepsPlace l1 hf.2.1 (fun k => ⟨fun z => absurd z n10, fun _ => ?_⟩) (fun k => ⟨fun _ => ?_, fun z => absurd rfl z⟩)
    · rw [hr] at k
      refine q8_spanEnd hnp (fun i' p' q' hf' => ?_) (fun hn => absurd (nov_congr (fun i hi => (c1 i hi).symm) (fun i hi => (c2 i hi).symm) hn) (fun z => fst_nov hf z))
      obtain ⟨-, -, e⟩ := fst_uniq hf (fst_congr (fun i hi => (c1 i hi).symm) (fun i hi => (c2 i hi).symm) hf')
      subst e
      exact ⟨fun _ => q8_isKeptAt hh hf.1 hf.2.1 (fun _ n1 n2 ld => ⟨fun z => absurd z n10, fun _ => ⟨rfl, hJ _ _ _ _ _ _ ld⟩⟩) (fun z => absurd k z), fun z => absurd (nI_pos' (by omega)) z⟩
    · rw [hr] at k
      refine q8_spanEnd hnp (fun i' p' q' hf' => ?_) (fun hn => absurd (nov_congr (fun i hi => (c1 i hi).symm) (fun i hi => (c2 i hi).symm) hn) (fun z => fst_nov hf z))
      obtain ⟨-, -, e⟩ := fst_uniq hf (fst_congr (fun i hi => (c1 i hi).symm) (fun i hi => (c2 i hi).symm) hf')
      subst e
      exact ⟨fun _ => q8_isKeptAt hh hf.1 hf.2.1 (fun z => absurd z k) (fun _ n1 n2 ld => ⟨fun _ => ⟨rfl, hJ _ _ _ _ _ _ ld⟩, fun z => absurd rfl z⟩), fun z => absurd (nI_pos' (by omega)) z⟩
  · exact q8_spanEnd hnp (fun i' p' q' hf' => absurd hn (fun z => fst_nov (fst_congr (fun i hi => (c1 i hi).symm) (fun i hi => (c2 i hi).symm) hf') z)) (fun _ => ⟨fun z => absurd z (by decide), fun _ => ⟨rfl, hJ _ _ _ _ _ _ hL⟩⟩)
theorem r_off {J : Int32 → Int32 → Int64 → Int64 → Int32 → (Nat → Int64) → Prop} {E : Int} {ln : Int32} {nb np : Nat} {fa fb fk ga gb gk pl pr sd st pl' pr' sd' st' mp : Nat → Int32} {ta : Nat → Int64} {isL : Int32} {fs : Nat → Int64} {wd pu bw sy rc : Int32} (h : LnOk E ln nb np fa fb fk ga gb gk pl pr sd st pl' pr' sd' st' mp ta isL fs wd pu bw sy rc) {v1 v2 : Int32} {v3 v4 : Int64} {x w : Int32} (hJ : ∀ m1 m2 m3 m4 n1 n2, ldOk E nb ga gb gk n1 n2 → J m1 m2 m3 m4 n1 n2) :
    wp_X7_off (fun r1 m1 m2 m3 m4 => wp_X8_off (fun r2 n1 n2 => r1 = r2 ∧ J m1 m2 m3 m4 n1 n2) ln (nI nb) ga gb gk isL fs (nI np) pl' st' sd' x w) (nI nb) fa fb fk (nI (cnt st np)) pl ta sd mp v1 v2 v3 v4 x w := by
  obtain ⟨c1, c2, c3, c4⟩ := ln_sub h
  have hh := h
  obtain ⟨hE, hE0, hB, hp, hm, hta, hL, hw⟩ := h
  have hnp := hp.1
  have hE4 := hB.1.2.1
  unfold wp_X7_off wp_X8_off
  refine q7_laySpanOver (A := fun z => asd fa fb fk z nb) hnp hm c3 c4 (fun i p q hf => ⟨fun z => absurd z n10, fun _ => ?_⟩) (fun hn => ⟨fun _ => ?_, fun z => absurd rfl z⟩)
  · obtain ⟨l1, l2, l3, l4, l5, l6, l7, l8⟩ := ln_span hh hf.1
    have hpq := hf.1.1
    have hqn := hf.1.2.1
    have sp := l1.2.2.1
    have hx := hf.2.1
    have md : ∀ (X : Int32 → Prop), X (nI q) → wp_X8_spanEnd X (nI np) pl' st' x := fun X hX => q8_spanEnd hnp (fun i' p' q' hf' => by
      obtain ⟨-, -, e⟩ := fst_uniq hf (fst_congr (fun i hi => (c1 i hi).symm) (fun i hi => (c2 i hi).symm) hf')
      subst e; exact hX) (fun hn => absurd (nov_congr (fun i hi => (c1 i hi).symm) (fun i hi => (c2 i hi).symm) hn) (fun z => fst_nov hf z))
    refine q7_if 0 1 rfl rfl (fun r => ?_) (fun r => md _ ⟨fun _ => q8_if 0 1 rfl rfl (fun z => absurd z r) (fun _ => ⟨rfl, hJ _ _ _ _ _ _ hL⟩), fun z => absurd (nI_pos' (by omega)) z⟩)
    refine q4_offUpper hB.1 hB.2.1 ⟨sp.1, sp.2.2.1⟩ hx ?_
    unfold wp_X4_decimetres
    have ob := off_b (A := fun z => asd fa fb fk z nb) sp hx (ly_A l1 hx.2)
    dsimp only at ob
    have s1 := sp.1
    have s2 := sp.2.1
    have s3 := sp.2.2.1
    show wp_X7_part _ _ (pl q - pl p).toInt64 w
    rw [x_l (pl q - pl p), x_sub (by omega)]
    refine q7_part (by omega) (by omega) (md _ ⟨fun _ => q8_if 0 1 rfl rfl (fun _ => ?_) (fun z => absurd r z), fun z => absurd (nI_pos' (by omega)) z⟩)
    refine q8_mastBefore hnp l4 ⟨vp_nI (by omega) (by omega), vp_nI (by omega) (by omega), vp_nI (by omega) (by omega), vp_nI (by omega) (by omega), ?_⟩
    rw [cl_nI (show p < 2147483648 by omega), cl_nI (show q < 2147483648 by omega), ← l5, ← l6, ← l7, ← l8]
    have hq' := (hp.2.1 q hqn).2.2.2.2.2.2.2.1
    have hx1 := hx.1
    have hx2 := hx.2
    refine q8_offTimes hE (by omega) hB.2.2.1 (A := fun z => asd fa fb fk z nb) (fun x => hB.2.2.2.1 x) hL (by omega) (by omega) (by omega) (fun n1 n2 ld => ⟨vp_nI (by omega) (by omega), vp_nI (by omega) (by omega), ?_⟩)
    rw [x_l, x_sub (by omega)]
    exact q8_part (by omega) (by omega) ⟨rfl, hJ _ _ _ _ _ _ ld⟩
  · exact q8_spanEnd hnp (fun i' p' q' hf' => absurd hn (fun z => fst_nov (fst_congr (fun i hi => (c1 i hi).symm) (fun i hi => (c2 i hi).symm) hf') z)) (fun _ => ⟨fun z => absurd z (by decide), fun _ => ⟨rfl, hJ _ _ _ _ _ _ hL⟩⟩)
theorem r_spanKept {J : Int32 → Int32 → Int64 → Int64 → Int32 → (Nat → Int64) → Prop} {E : Int} {ln : Int32} {nb np : Nat} {fa fb fk ga gb gk pl pr sd st pl' pr' sd' st' mp : Nat → Int32} {ta : Nat → Int64} {isL : Int32} {fs : Nat → Int64} {wd pu bw sy rc : Int32} (h : LnOk E ln nb np fa fb fk ga gb gk pl pr sd st pl' pr' sd' st' mp ta isL fs wd pu bw sy rc) {v1 v2 : Int32} {v3 v4 : Int64} {x : Int32} (hJ : ∀ m1 m2 m3 m4 n1 n2, ldOk E nb ga gb gk n1 n2 → J m1 m2 m3 m4 n1 n2) :
    wp_X7_spanKept (fun r1 m1 m2 m3 m4 => wp_X8_spanKept (fun r2 n1 n2 => r1 = r2 ∧ J m1 m2 m3 m4 n1 n2) ln (nI nb) ga gb gk isL fs (nI np) pl' st' sd' wd pu bw sy rc x) (nI nb) fa fb fk (nI (cnt st np)) pl ta sd mp wd pu (rmI bw sy) rc v1 v2 v3 v4 x := by
  obtain ⟨c1, c2, c3, c4⟩ := ln_sub h
  have hh := h
  obtain ⟨hE, hE0, hB, hp, hm, hta, hL, hw⟩ := h
  have hnp := hp.1
  have hr := rmI_t hw
  have hcl := cnt_le st np
  have hcn : cnt st' np = cnt st np := pg_cnt hp np (Nat.le_refl _)
  unfold wp_X7_spanKept wp_X2_hasSpan wp_X8_spanKept
  have no : (∀ i : Nat, x.toInt = (i : Int) → ¬ i + 1 < cnt st np) → ∀ (Q : Int32 → Int32 → (Nat → Int64) → Prop), Q (-1) isL fs → (0 ≤ x → wp_X8_endOf (fun r2 => wb_X8_spanKept_14 Q ln (nI nb) ga gb gk (nI np) pl' st' sd' wd pu bw sy rc isL fs r2) (nI np) st' x) ∧ (¬ 0 ≤ x → wb_X8_spanKept_14 Q ln (nI nb) ga gb gk (nI np) pl' st' sd' wd pu bw sy rc isL fs (-6)) := by
    intro hx Q hQ
    have six : wb_X8_spanKept_14 Q ln (nI nb) ga gb gk (nI np) pl' st' sd' wd pu bw sy rc isL fs (-6) := by
      unfold wb_X8_spanKept_14
      exact ⟨fun z => absurd z (by decide), fun _ => hQ⟩
    refine ⟨fun h0 => q8_endOf hnp (fun i p q e hs => ?_) (fun _ => six) (by rw [x_le, zt_0] at h0; exact h0), fun _ => six⟩
    have l := spn_lt hs
    exact absurd (by omega) (hx i (by rw [e]; exact nI_t (by omega)))
  refine ⟨fun z => ⟨b_01, fun _ => no (fun i hi => by rw [x_lt, zt_0] at z; omega) _ ⟨rfl, hJ _ _ _ _ _ _ hL⟩, fun q => absurd rfl q⟩, fun z => q2_spans (by omega) ⟨fun q => ⟨b_01, fun _ => no (fun i hi => by rw [x_le, nI_t (by omega)] at q; omega) _ ⟨rfl, hJ _ _ _ _ _ _ hL⟩, fun q => absurd rfl q⟩, fun q => ⟨b_11, fun y => absurd y n10, fun _ => ?_⟩⟩⟩
  have hx0 : 0 ≤ x.toInt := by rw [x_lt, zt_0] at z; omega
  obtain ⟨i, ei⟩ : ∃ i : Nat, x.toInt = (i : Int) := ⟨x.toInt.toNat, by omega⟩
  have hi : i + 1 < cnt st np := by rw [x_le, nI_t (by omega)] at q; omega
  have ex : x = nI i := x_nI ei
  obtain ⟨p, qq, hs⟩ := spn_ex hi
  obtain ⟨l1, l2, l3, l4, l5, l6, l7, l8⟩ := ln_span hh hs
  have hpq := hs.1
  have hqn := hs.2.1
  rw [ex]
  refine q7_laySpan (A := fun z => asd fa fb fk z nb) hnp hm c3 c4 hs ?_
  have md : ∀ (Q : Int32 → Int32 → (Nat → Int64) → Prop), (spK (fun z => asd fa fb fk z nb) wd.toInt pu.toInt (2000 * (bw.toInt - sy.toInt)) rc.toInt (pl p).toInt (pl qq).toInt ((fun z => asd fa fb fk z nb) (pl p).toInt + 2000 * (sd p).toInt) ((fun z => asd fa fb fk z nb) (pl qq).toInt + 2000 * (sd qq).toInt) → ∀ n1 n2, ldOk E nb ga gb gk n1 n2 → Q 1 n1 n2) → (¬ spK (fun z => asd fa fb fk z nb) wd.toInt pu.toInt (2000 * (bw.toInt - sy.toInt)) rc.toInt (pl p).toInt (pl qq).toInt ((fun z => asd fa fb fk z nb) (pl p).toInt + 2000 * (sd p).toInt) ((fun z => asd fa fb fk z nb) (pl qq).toInt + 2000 * (sd qq).toInt) → ∀ n1 n2, ldOk E nb ga gb gk n1 n2 → Q 0 n1 n2) →
      (0 ≤ nI i → wp_X8_endOf (fun r2 => wb_X8_spanKept_14 Q ln (nI nb) ga gb gk (nI np) pl' st' sd' wd pu bw sy rc isL fs r2) (nI np) st' (nI i)) ∧ (¬ 0 ≤ nI i → wb_X8_spanKept_14 Q ln (nI nb) ga gb gk (nI np) pl' st' sd' wd pu bw sy rc isL fs (-6)) := by
    intro Q k1 k0
    refine ⟨fun _ => q8_endOf hnp (fun i' p' q' e hs' => ?_) (fun hno => absurd (by rw [hcn]; exact hi) (hno i (nI_t (by omega)))) (by rw [nI_t (by omega)]; omega), fun y => absurd (nI_pos' (by omega)) y⟩
    have ei' : i = i' := (nI_eq (by omega) (by have := spn_lt hs'; omega)).mp e
    subst ei'
    obtain ⟨e1, e2⟩ := spn_uniq l4 hs'
    subst e1 e2
    unfold wb_X8_spanKept_14
    refine ⟨fun _ => q8_mastBefore hnp l4 ⟨vp_nI (by omega) (by omega), vp_nI (by omega) (by omega), vp_nI (by omega) (by omega), vp_nI (by omega) (by omega), ?_⟩, fun y => absurd (nI_pos' (by omega)) y⟩
    rw [cl_nI (show p < 2147483648 by omega), cl_nI (show qq < 2147483648 by omega), ← l5, ← l6, ← l7, ← l8]
    rw [← l5, ← l6, ← l7, ← l8] at l2
    rw [← l6] at l3
    exact q8_isSpanKept hE (by omega) hB.2.2.1 (A := fun z => asd fa fb fk z nb) (fun x => hB.2.2.2.1 x) hL hw l2 l3 (fun k n1 n2 ld => ⟨fun y => absurd y n10, fun _ => k1 k _ _ ld⟩) (fun k n1 n2 ld => ⟨fun _ => k0 k _ _ ld, fun y => absurd rfl y⟩)
  refine q4_isKept l1 (fun k => ⟨fun y => absurd y n10, fun _ => ?_⟩) (fun k => ⟨fun _ => ?_, fun y => absurd rfl y⟩)
  · rw [hr] at k
    exact md _ (fun _ n1 n2 ld => ⟨rfl, hJ _ _ _ _ _ _ ld⟩) (fun y => absurd k y)
  · rw [hr] at k
    exact md _ (fun y => absurd y k) (fun _ n1 n2 ld => ⟨rfl, hJ _ _ _ _ _ _ ld⟩)
