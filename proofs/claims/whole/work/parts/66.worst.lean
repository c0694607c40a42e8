/-! the first place that isn't kept -/
theorem kpt_mast {A : Int → Int} {wd pl rm x0 x1 s0 s1 : Int} (h : x0 < x1) (hpl : 0 < pl) : (kpt A wd pl rm x0 x1 (A x0 + 2000 * s0) (A x1 + 2000 * s1) x1 ↔ (2000 * s1 ≤ rm ∧ -(2000 * s1) ≤ rm)) ∧ (kpt A wd pl rm x0 x1 (A x0 + 2000 * s0) (A x1 + 2000 * s1) x0 ↔ (2000 * s0 ≤ rm ∧ -(2000 * s0) ≤ rm)) := by
  have hm : 0 < (x1 - x0) * pl := Int.mul_pos (by omega) hpl
  have sg : ∀ z : Int, (x1 - x0) * pl * z ≤ 0 ↔ z ≤ 0 := fun z => by
    constructor
    · intro q
      rcases Int.lt_or_le 0 z with c | c
      · have := Int.mul_pos hm c; omega
      · exact c
    · intro q
      have := Int.mul_nonneg (show 0 ≤ (x1 - x0) * pl by omega) (show 0 ≤ -z by omega)
      rw [Int.mul_neg] at this; omega
  have e1 : exG A wd pl rm x0 x1 (A x0 + 2000 * s0) (A x1 + 2000 * s1) 1 x1 = (x1 - x0) * pl * (2000 * s1 - rm) := by unfold exG exS offT; grind
  have e2 : exG A wd pl rm x0 x1 (A x0 + 2000 * s0) (A x1 + 2000 * s1) (-1) x1 = (x1 - x0) * pl * (-(2000 * s1) - rm) := by unfold exG exS offT; grind
  have e3 : exG A wd pl rm x0 x1 (A x0 + 2000 * s0) (A x1 + 2000 * s1) 1 x0 = (x1 - x0) * pl * (2000 * s0 - rm) := by unfold exG exS offT; grind
  have e4 : exG A wd pl rm x0 x1 (A x0 + 2000 * s0) (A x1 + 2000 * s1) (-1) x0 = (x1 - x0) * pl * (-(2000 * s0) - rm) := by unfold exG exS offT; grind
  unfold kpt
  rw [e1, e2, e3, e4, sg, sg, sg, sg]
  omega
theorem q4_firstNotKept {Q : Int32 → Prop} {E : Int} {nb : Nat} {fa fb fk : Nat → Int32} {wd pl rm b e : Int32} {W0 W1 : Int} (h : lyOk E nb fa fb fk wd pl rm b e W0 W1)
    (h1 : ∀ x : Int32, b.toInt ≤ x.toInt → x.toInt ≤ e.toInt → ¬ kpt (fun z => asd fa fb fk z nb) wd.toInt pl.toInt rm.toInt b.toInt e.toInt W0 W1 x.toInt → (∀ y, b.toInt ≤ y → y < x.toInt → kpt (fun z => asd fa fb fk z nb) wd.toInt pl.toInt rm.toInt b.toInt e.toInt W0 W1 y) → Q x)
    (h0 : (∀ y, b.toInt ≤ y → y ≤ e.toInt → kpt (fun z => asd fa fb fk z nb) wd.toInt pl.toInt rm.toInt b.toInt e.toInt W0 W1 y) → Q (-6)) : wp_X4_firstNotKept Q (nI nb) fa fb fk wd pl rm b e (lI W0) (lI W1) := by
  have s1 := h.2.2.1.1
  have s2 := h.2.2.1.2.1
  have s3 := h.2.2.1.2.2.1
  unfold wp_X4_firstNotKept
  have main : ∀ (d : Nat) (x : Int32), b.toInt ≤ x.toInt → x.toInt + d = e.toInt + 1 → (∀ y, b.toInt ≤ y → y < x.toInt → kpt (fun z => asd fa fb fk z nb) wd.toInt pl.toInt rm.toInt b.toInt e.toInt W0 W1 y) → ∃ n, wl_X4_firstNotKept_5 Q (nI nb) fa fb fk wd pl rm b e (lI W0) (lI W1) n x := by
    intro d
    induction d with
    | zero =>
      intro x hx hd hk
      refine ⟨1, ?_⟩
      show wb_X4_firstNotKept_5 Q _ _ _ _ _ _ _ _ _ _ _ _ _
      unfold wb_X4_firstNotKept_5
      exact ⟨fun _ => h0 (fun y q1 q2 => hk y q1 (by omega)), fun q => absurd ((x_lt _ _).mpr (by omega)) q⟩
    | succ d ih =>
      intro x hx hd hk
      by_cases c : kpt (fun z => asd fa fb fk z nb) wd.toInt pl.toInt rm.toInt b.toInt e.toInt W0 W1 x.toInt
      · have t1 : (x + 1).toInt = x.toInt + 1 := by rw [x_add (by rw [zt_1]; omega), zt_1]
        obtain ⟨n, hn⟩ := ih (x + 1) (by omega) (by omega) (fun y q1 q2 => by
          rcases Int.lt_or_le y x.toInt with w | w
          · exact hk y q1 w
          · rw [show y = x.toInt by omega]; exact c)
        refine ⟨n + 1, ?_⟩
        show wb_X4_firstNotKept_5 Q _ _ _ _ _ _ _ _ _ _ _ _ _
        unfold wb_X4_firstNotKept_5
        exact ⟨fun q => absurd ((x_lt _ _).mp q) (by omega), fun _ => q4_keepsPlace h (by omega) (fun _ => ⟨fun q => absurd q n10, fun _ y hy => by rw [hy]; exact hn⟩) (fun q => absurd c q)⟩
      · refine ⟨1, ?_⟩
        show wb_X4_firstNotKept_5 Q _ _ _ _ _ _ _ _ _ _ _ _ _
        unfold wb_X4_firstNotKept_5
        exact ⟨fun q => absurd ((x_lt _ _).mp q) (by omega), fun _ => q4_keepsPlace h (by omega) (fun q => absurd q c) (fun _ => ⟨fun _ => h1 x hx (by omega) c hk, fun q => absurd rfl q⟩)⟩
  exact main (e.toInt + 1 - b.toInt).toNat b (Int.le_refl _) (by omega) (fun y q1 q2 => absurd q2 (by omega))
/-- a place, in the first span over it, isn't kept -/
def badP (nb np : Nat) (fa fb fk st pl sd : Nat → Int32) (wd pu bw sy : Int32) (x : Int) : Prop := ∃ i p q, fst np st pl x i p q ∧ ¬ kpS nb fa fb fk pl sd wd pu bw sy p q x
theorem r_worst {J : Int32 → Int32 → Int64 → Int64 → Int32 → (Nat → Int64) → Prop} {E : Int} {ln : Int32} {nb np : Nat} {fa fb fk ga gb gk pl pr sd st pl' pr' sd' st' mp : Nat → Int32} {ta : Nat → Int64} {isL : Int32} {fs : Nat → Int64} {wd pu bw sy rc : Int32} (h : LnOk E ln nb np fa fb fk ga gb gk pl pr sd st pl' pr' sd' st' mp ta isL fs wd pu bw sy rc) {v1 v2 : Int32} {v3 v4 : Int64} (hJ : ∀ m1 m2 m3 m4 n1 n2, ldOk E nb ga gb gk n1 n2 → J m1 m2 m3 m4 n1 n2) :
    wp_X7_worst (fun r1 m1 m2 m3 m4 => wp_X8_worst (fun r2 n1 n2 => r1 = r2 ∧ J m1 m2 m3 m4 n1 n2) ln (nI nb) ga gb gk isL fs (nI np) pl' st' sd' wd pu bw sy) (nI nb) fa fb fk (nI (cnt st np)) pl ta sd mp wd pu (rmI bw sy) v1 v2 v3 v4 := by
  obtain ⟨c1, c2, c3, c4⟩ := ln_sub h
  have hh := h
  obtain ⟨hE, hE0, hB, hp, hm, hta, hL, hw⟩ := h
  have hnp := hp.1
  have hr := rmI_t hw
  have hcl := cnt_le st np
  have hE4 := hB.1.2.1
  have hpu : 0 < pu.toInt := by have := hw.2.2.1; omega
  -- the model: the least bad place
  have md : ∀ (Q : Int32 → Int32 → (Nat → Int64) → Prop), (∀ x : Int32, 0 ≤ x.toInt → badP nb np fa fb fk st pl sd wd pu bw sy x.toInt → (∀ y, 0 ≤ y → y < x.toInt → ¬ badP nb np fa fb fk st pl sd wd pu bw sy y) → ∀ n1 n2, ldOk E nb ga gb gk n1 n2 → Q x n1 n2) → ((∀ y, 0 ≤ y → y ≤ E → ¬ badP nb np fa fb fk st pl sd wd pu bw sy y) → ∀ n1 n2, ldOk E nb ga gb gk n1 n2 → Q (-6) n1 n2) → wp_X8_worst Q ln (nI nb) ga gb gk isL fs (nI np) pl' st' sd' wd pu bw sy := by
    intro Q k1 k0
    unfold wp_X8_worst
    have main : ∀ (d : Nat), ∃ n, ∀ (x i2 : Int32) (f2 : Nat → Int64), 0 ≤ x.toInt → x.toInt + d = E + 1 → (∀ y, 0 ≤ y → y < x.toInt → ¬ badP nb np fa fb fk st pl sd wd pu bw sy y) → ldOk E nb ga gb gk i2 f2 → wl_X8_worst_2 Q ln (nI nb) ga gb gk (nI np) pl' st' sd' wd pu bw sy n i2 f2 x := by
      intro d
      induction d with
      | zero =>
        refine ⟨1, fun x i2 f2 hx hd hk l2 => ?_⟩
        show wb_X8_worst_2 Q _ _ _ _ _ _ _ _ _ _ _ _ _ _ _ _ _
        unfold wb_X8_worst_2
        exact ⟨fun _ => k0 (fun y q1 q2 => hk y q1 (by omega)) _ _ l2, fun q => absurd ((x_lt _ _).mpr (by omega)) q⟩
      | succ d ih =>
        obtain ⟨n, hn⟩ := ih
        refine ⟨n + 1, fun x i2 f2 hx hd hk l2 => ?_⟩
        have t1 : (x + 1).toInt = x.toInt + 1 := by rw [x_add (by rw [zt_1]; omega), zt_1]
        show wb_X8_worst_2 Q _ _ _ _ _ _ _ _ _ _ _ _ _ _ _ _ _
        unfold wb_X8_worst_2 wb_X8_worst_31
        have go : ¬ badP nb np fa fb fk st pl sd wd pu bw sy x.toInt → ∀ i3 f3, ldOk E nb ga gb gk i3 f3 → wl_X8_worst_2 Q ln (nI nb) ga gb gk (nI np) pl' st' sd' wd pu bw sy n i3 f3 (x + 1) := fun hb i3 f3 l3 => hn (x + 1) i3 f3 (by omega) (by omega) (fun y q1 q2 => by
          rcases Int.lt_or_le y x.toInt with w | w
          · exact hk y q1 w
          · rw [show y = x.toInt by omega]; exact hb) l3
        refine ⟨fun q => absurd ((x_lt _ _).mp q) (by omega), fun _ => q8_spanEnd hnp (fun i p q hf' => ?_) (fun hno => ⟨fun _ y hy => ?_, fun q => absurd (by decide) q⟩)⟩
        · have hf := fst_congr (fun i hi => (c1 i hi).symm) (fun i hi => (c2 i hi).symm) hf'
          have hqn := hf.1.2.1
          have hh2 : LnOk E ln nb np fa fb fk ga gb gk pl pr sd st pl' pr' sd' st' mp ta i2 f2 wd pu bw sy rc := ⟨hE, hE0, hB, hp, hm, hta, l2, hw⟩
          refine ⟨fun z => absurd z (nI_pos (by omega)), fun _ => q8_isKeptAt hh2 hf.1 hf.2.1 (fun kx i3 f3 l3 => ⟨fun z => absurd z n10, fun _ y hy => ?_⟩) (fun kx i3 f3 l3 => ⟨fun _ => k1 x hx ⟨i, p, q, hf, kx⟩ hk _ _ l3, fun z => absurd rfl z⟩)⟩
          rw [hy]
          refine go (fun ⟨i', p', q', hf2, hk2⟩ => ?_) _ _ l3
          obtain ⟨-, e1, e2⟩ := fst_uniq hf hf2
          subst e1 e2
          exact hk2 kx
        · rw [hy]
          exact go (fun ⟨i', p', q', hf2, hk2⟩ => fst_nov hf2 (nov_congr (fun i hi => (c1 i hi).symm) (fun i hi => (c2 i hi).symm) hno)) _ _ l2
    obtain ⟨n, hn⟩ := main (E + 1).toNat
    exact ⟨n, hn 0 isL fs (by decide) (by rw [zt_0]; omega) (fun y q1 q2 => absurd q2 (by rw [zt_0]; omega)) hL⟩
  -- places of pegs are in order
  have mono : ∀ a b : Nat, a ≤ b → b < np → (pl a).toInt ≤ (pl b).toInt := fun a b q1 q2 => by
    rcases Nat.lt_or_ge a b with w | w
    · have := hp.2.2 a b w q2; omega
    · rw [show a = b by omega]; exact Int.le_refl _
  unfold wp_X7_worst
  have main : ∀ (d i : Nat) (v1 v2 : Int32) (v3 v4 : Int64), i + d = cnt st np - 1 → (∀ i' p q, spn np st i' p q → i' < i → ∀ x, (pl p).toInt ≤ x → x ≤ (pl q).toInt → kpS nb fa fb fk pl sd wd pu bw sy p q x) → ∃ n, wl_X7_worst_2 (fun r1 m1 m2 m3 m4 => wp_X8_worst (fun r2 n1 n2 => r1 = r2 ∧ J m1 m2 m3 m4 n1 n2) ln (nI nb) ga gb gk isL fs (nI np) pl' st' sd' wd pu bw sy) (nI nb) fa fb fk (nI (cnt st np)) pl ta sd mp wd pu (rmI bw sy) n v1 v2 v3 v4 (nI i) := by
    intro d
    induction d with
    | zero =>
      intro i v1 v2 v3 v4 hi hk
      refine ⟨1, ?_⟩
      show wb_X7_worst_2 _ _ _ _ _ _ _ _ _ _ _ _ _ _ _ _ _ _ _
      unfold wb_X7_worst_2
      refine q2_spans (by omega) ⟨fun _ => md _ (fun x _ ⟨i', p, q, hf, hb⟩ => absurd (hk i' p q hf.1 (by have := spn_lt hf.1; omega) _ hf.2.1.1 hf.2.1.2) hb) (fun _ n1 n2 ld => ⟨rfl, hJ _ _ _ _ _ _ ld⟩), fun q => absurd (nI_le (show cnt st np - 1 ≤ i by omega) (by omega)) q⟩
    | succ d ih =>
      intro i v1 v2 v3 v4 hi hk
      obtain ⟨p, q, hs⟩ := spn_ex (np := np) (st := st) (i := i) (by omega)
      obtain ⟨l1, -⟩ := ln_span hh hs
      have hpq := hs.1
      have hqn := hs.2.1
      have plt := hp.2.2 p q hpq hqn
      have p0 := (hp.2.1 p (by omega)).2.2.2.2.2.2.1
      have qE := (hp.2.1 q hqn).2.2.2.2.2.2.2.1
      -- a fuel for the rest, if this span is kept
      obtain ⟨n, hn⟩ : ∃ n, (∀ x, (pl p).toInt ≤ x → x ≤ (pl q).toInt → kpS nb fa fb fk pl sd wd pu bw sy p q x) → wl_X7_worst_2 (fun r1 m1 m2 m3 m4 => wp_X8_worst (fun r2 n1 n2 => r1 = r2 ∧ J m1 m2 m3 m4 n1 n2) ln (nI nb) ga gb gk isL fs (nI np) pl' st' sd' wd pu bw sy) (nI nb) fa fb fk (nI (cnt st np)) pl ta sd mp wd pu (rmI bw sy) n (pl p) (pl q) (lI ((fun z => asd fa fb fk z nb) (pl p).toInt + 2000 * (sd p).toInt)) (lI ((fun z => asd fa fb fk z nb) (pl q).toInt + 2000 * (sd q).toInt)) (nI (i + 1)) := by
        by_cases c : ∀ x, (pl p).toInt ≤ x → x ≤ (pl q).toInt → kpS nb fa fb fk pl sd wd pu bw sy p q x
        · obtain ⟨n, hn⟩ := ih (i + 1) (pl p) (pl q) (lI ((fun z => asd fa fb fk z nb) (pl p).toInt + 2000 * (sd p).toInt)) (lI ((fun z => asd fa fb fk z nb) (pl q).toInt + 2000 * (sd q).toInt)) (by omega) (fun i' p' q' h' hlt => by
            rcases Nat.lt_or_ge i' i with w | w
            · exact hk i' p' q' h' w
            · have e : i' = i := by omega
              subst e
              obtain ⟨e1, e2⟩ := spn_uniq h' hs
              rw [e1, e2]; exact c)
          exact ⟨n, fun _ => hn⟩
        · exact ⟨0, fun q => absurd q c⟩
      refine ⟨n + 1, ?_⟩
      show wb_X7_worst_2 _ _ _ _ _ _ _ _ _ _ _ _ _ _ _ _ _ _ _
      unfold wb_X7_worst_2
      refine q2_spans (by omega) ⟨fun z => absurd z (nI_ge (by omega) (by omega)), fun _ => q7_laySpan (A := fun z => asd fa fb fk z nb) hnp hm c3 c4 hs (q4_firstNotKept l1 (fun x q1 q2 q3 q4 => ⟨fun z => ?_, fun _ => ?_⟩) (fun q => ⟨fun _ y hy => ?_, fun z => absurd rfl z⟩))⟩
      · exfalso
        rw [z] at q1
        have : (-6 : Int32).toInt = -6 := rfl
        omega
      · rw [hr] at q3 q4
        -- x is the least bad place
        have hsp : ∀ i' p' q', spn np st i' p' q' → i < i' → (pl q).toInt ≤ (pl p').toInt := fun i' p' q' h' hlt => by
          refine mono q p' ?_ (by have := h'.1; have := h'.2.1; omega)
          rcases Nat.lt_or_ge p' q with w | w
          · have m1 := cnt_lt w h'.2.2.1
            have m2 := h'.2.2.2.2.1
            have m3 := hs.2.2.2.2.2
            omega
          · exact w
        have hfx : fst np st pl x.toInt i p q := by
          refine ⟨hs, ⟨q1, q2⟩, fun i' p' q' h' hlt ho => ?_⟩
          -- an earlier span over x: x is the mast between
          have kx := hk i' p' q' h' hlt x.toInt ho.1 ho.2
          have hq' : (pl q').toInt ≤ (pl p).toInt := by
            refine mono q' p ?_ (by omega)
            rcases Nat.lt_or_ge p q' with w | w
            · have m1 := cnt_lt w hs.2.2.1
              have m2 := h'.2.2.2.2.2
              have m3 := hs.2.2.2.2.1
              omega
            · exact w
          have ho2 := ho.2
          have ex : x.toInt = (pl p).toInt := by omega
          have eq : q' = p := by
            rcases Nat.lt_trichotomy q' p with w | w | w
            · have := hp.2.2 q' p w (by omega); omega
            · exact w
            · have := hp.2.2 p q' w h'.2.1; omega
          subst eq
          have plt' := hp.2.2 p' q' h'.1 h'.2.1
          have k1 := (kpt_mast (A := fun z => asd fa fb fk z nb) (wd := wd.toInt) (rm := 2000 * (bw.toInt - sy.toInt)) (s0 := (sd p').toInt) (s1 := (sd q').toInt) plt' hpu).1
          have k2 := (kpt_mast (A := fun z => asd fa fb fk z nb) (wd := wd.toInt) (rm := 2000 * (bw.toInt - sy.toInt)) (s0 := (sd q').toInt) (s1 := (sd q).toInt) plt hpu).2
          rw [ex] at kx q3
          exact q3 (k2.mpr (k1.mp kx))
        have hbx : badP nb np fa fb fk st pl sd wd pu bw sy x.toInt := ⟨i, p, q, hfx, q3⟩
        have least : ∀ y, y < x.toInt → ¬ badP nb np fa fb fk st pl sd wd pu bw sy y := fun y hy ⟨i', p', q', hf, hb⟩ => by
          rcases Nat.lt_trichotomy i' i with w | w | w
          · exact hb (hk i' p' q' hf.1 w _ hf.2.1.1 hf.2.1.2)
          · subst w
            obtain ⟨e1, e2⟩ := spn_uniq hf.1 hs
            subst e1 e2
            exact hb (q4 y hf.2.1.1 hy)
          · have m1 := hsp i' p' q' hf.1 w
            have m2 := hf.2.1.1
            omega
        refine md _ (fun x2 x20 hb2 hl2 n1 n2 ld => ⟨?_, hJ _ _ _ _ _ _ ld⟩) (fun hno => absurd hbx (hno x.toInt (by omega) (by omega)))
        rw [x_eq]
        rcases Int.lt_trichotomy x.toInt x2.toInt with w | w | w
        · exact absurd hbx (hl2 x.toInt (by omega) w)
        · exact w
        · exact absurd hb2 (least x2.toInt w)
      · rw [hy, nI_1]
        rw [hr] at q
        exact hn q
  exact main (cnt st np - 1) 0 v1 v2 v3 v4 (by omega) (fun i' p q _ hlt => absurd hlt (Nat.not_lt_zero _))
