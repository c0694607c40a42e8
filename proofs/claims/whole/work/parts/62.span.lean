/-! the contact wire of one span -/
theorem q4_offUpper {Q : Int64 → Prop} {E : Int} {nb : Nat} {fa fb fk : Nat → Int32} (hB : bnOk E nb fa fb fk) (hS : bnSo nb fa fb) {b e x : Int32} {W0 W1 : Int} (hbe : 0 ≤ b.toInt ∧ e.toInt ≤ 4000) (hx : b.toInt ≤ x.toInt ∧ x.toInt ≤ e.toInt)
    (hq : Q (lI (offT (fun z => asd fa fb fk z nb) b.toInt e.toInt W0 W1 x.toInt))) : wp_X4_offUpper Q (nI nb) fa fb fk b e (lI W0) (lI W1) x := by
  unfold wp_X4_offUpper
  refine q6_asideOf hB hS (by omega) ?_
  rw [x_l (e - x), x_l (x - b), x_l (e - b), x_sub (by omega), x_sub (by omega), x_sub (by omega), lI_mul, lI_mul, lI_mul, lI_add, lI_sub]
  exact hq
theorem q4_excess {Q : Int64 → Prop} {wd pl rm b e x : Int32} {o : Int} (hbe : 0 ≤ b.toInt ∧ e.toInt ≤ 4000) (hx : b.toInt ≤ x.toInt ∧ x.toInt ≤ e.toInt)
    (hq : Q (lI (exS wd.toInt pl.toInt rm.toInt b.toInt e.toInt o x.toInt))) : wp_X4_excess Q wd pl rm b e x (lI o) := by
  unfold wp_X4_excess
  intro x1 e1 x2 e2
  rw [x_l wd, x_l (x - b), x_l (e - x), x_sub (by omega), x_sub (by omega), lI_mul, lI_mul] at e1
  rw [x_l, x_l, lI_mul] at e2
  rw [e1, e2, x_l pl, x_l (e - b), x_sub (by omega), lI_mul, lI_sub, lI_mul, lI_add]
  exact hq
/-- what a span's rows say, for the rows below -/
def lyOk (E : Int) (nb : Nat) (fa fb fk : Nat → Int32) (wd pl rm b e : Int32) (W0 W1 : Int) : Prop := bnOk E nb fa fb fk ∧ bnSo nb fa fb ∧ spI b.toInt e.toInt W0 W1 ∧ swI wd.toInt pl.toInt rm.toInt
theorem ly_A {E : Int} {nb : Nat} {fa fb fk : Nat → Int32} {wd pl rm b e : Int32} {W0 W1 : Int} (h : lyOk E nb fa fb fk wd pl rm b e W0 W1) {x : Int} (hx : x ≤ e.toInt) : -6400000000 ≤ asd fa fb fk x nb ∧ asd fa fb fk x nb ≤ 6400000000 := asd_bb h.1 (by have := h.2.2.1.2.2.1; omega)
theorem q4_keepsPlace {Q : Int32 → Prop} {E : Int} {nb : Nat} {fa fb fk : Nat → Int32} {wd pl rm b e : Int32} {W0 W1 : Int} (h : lyOk E nb fa fb fk wd pl rm b e W0 W1) {x : Int32} (hx : b.toInt ≤ x.toInt ∧ x.toInt ≤ e.toInt)
    (h1 : kpt (fun z => asd fa fb fk z nb) wd.toInt pl.toInt rm.toInt b.toInt e.toInt W0 W1 x.toInt → Q 1) (h0 : ¬ kpt (fun z => asd fa fb fk z nb) wd.toInt pl.toInt rm.toInt b.toInt e.toInt W0 W1 x.toInt → Q 0) : wp_X4_keepsPlace Q (nI nb) fa fb fk wd pl rm b e (lI W0) (lI W1) x := by
  have hA := ly_A h hx.2
  obtain ⟨hB, hS, hsp, hsw⟩ := h
  have ho := off_b (A := fun z => asd fa fb fk z nb) hsp hx hA
  have hbe : 0 ≤ b.toInt ∧ e.toInt ≤ 4000 := ⟨hsp.1, hsp.2.2.1⟩
  unfold wp_X4_keepsPlace
  refine q4_offUpper hB hS hbe hx (fun x2 e2 => ?_)
  have e2' : x2 = lI ((offT (fun z => asd fa fb fk z nb) b.toInt e.toInt W0 W1 x.toInt).natAbs : Int) := by
    rw [e2]
    have hc : (0 : Int64) < lI (offT (fun z => asd fa fb fk z nb) b.toInt e.toInt W0 W1 x.toInt) ↔ 0 < offT (fun z => asd fa fb fk z nb) b.toInt e.toInt W0 W1 x.toInt := by rw [l_0, lI_lt (by omega) (by omega)]
    by_cases c : (0 : Int64) < lI (offT (fun z => asd fa fb fk z nb) b.toInt e.toInt W0 W1 x.toInt)
    · rw [if_pos c]; have := hc.mp c; congr 1; omega
    · rw [if_neg c, lI_neg]; have : ¬ 0 < offT (fun z => asd fa fb fk z nb) b.toInt e.toInt W0 W1 x.toInt := fun q => c (hc.mpr q); congr 1; omega
  rw [e2']
  refine q4_excess hbe hx ?_
  have hk := kpt_abs (A := fun z => asd fa fb fk z nb) (wd := wd.toInt) (rm := rm.toInt) (x0 := b.toInt) (x1 := e.toInt) (W0 := W0) (W1 := W1) (x := x.toInt) (show 0 < pl.toInt by have := hsw.2.2.1; omega)
  have hb := exS_b hsp hsw hx (o := ((offT (fun z => asd fa fb fk z nb) b.toInt e.toInt W0 W1 x.toInt).natAbs : Int)) (by omega)
  refine ⟨fun c => ⟨b_01, h0 (fun q => ?_)⟩, fun c => ⟨b_11, h1 ?_⟩⟩
  · rw [l_0, lI_lt (by omega) (by omega)] at c
    have := hk.mp q; omega
  · rw [l_0, lI_lt (by omega) (by omega)] at c
    exact hk.mpr (by omega)
theorem q4_keepsTop {Q : Int32 → Prop} {E : Int} {nb : Nat} {fa fb fk : Nat → Int32} {wd pl rm b e : Int32} {W0 W1 : Int} (h : lyOk E nb fa fb fk wd pl rm b e W0 W1) {f t c s : Int32} {sg : Int} (hsg : sg = 1 ∨ sg = -1) (hs : s.toInt = sg) (hc : -50 ≤ c.toInt ∧ c.toInt ≤ 50)
    (hf : b.toInt ≤ f.toInt ∧ f.toInt ≤ t.toInt ∧ t.toInt ≤ e.toInt) (hst : strt (fun z => asd fa fb fk z nb) f.toInt t.toInt c.toInt)
    (kf : exG (fun z => asd fa fb fk z nb) wd.toInt pl.toInt rm.toInt b.toInt e.toInt W0 W1 sg f.toInt ≤ 0) (kt : exG (fun z => asd fa fb fk z nb) wd.toInt pl.toInt rm.toInt b.toInt e.toInt W0 W1 sg t.toInt ≤ 0)
    (h1 : (∀ x, f.toInt ≤ x → x ≤ t.toInt → exG (fun z => asd fa fb fk z nb) wd.toInt pl.toInt rm.toInt b.toInt e.toInt W0 W1 sg x ≤ 0) → Q 1)
    (h0 : (∃ x, f.toInt ≤ x ∧ x ≤ t.toInt ∧ 0 < exG (fun z => asd fa fb fk z nb) wd.toInt pl.toInt rm.toInt b.toInt e.toInt W0 W1 sg x) → Q 0) : wp_X4_keepsTop Q (nI nb) fa fb fk wd pl rm b e (lI W0) (lI W1) f t c s := by
  have hh := h
  obtain ⟨hB, hS, hsp, hsw⟩ := h
  have hbe : 0 ≤ b.toInt ∧ e.toInt ≤ 4000 := ⟨hsp.1, hsp.2.2.1⟩
  have hlt := hsp.2.1
  obtain ⟨s1, s2, s3, s4, s5, s6⟩ := id hsw
  obtain ⟨R, S, hq⟩ := ex_quad (wd := wd.toInt) (pl := pl.toInt) (rm := rm.toInt) (x0 := b.toInt) (x1 := e.toInt) (w0 := W0) (w1 := W1) (sg := sg) hst
  -- the fall
  have hsc : (s * c).toInt = sg * c.toInt := by rw [x_mul (by rw [hs]; rcases hsg with rfl | rfl <;> omega), hs]
  have bsc : -50 ≤ sg * c.toInt ∧ sg * c.toInt ≤ 50 := by rcases hsg with rfl | rfl <;> omega
  have bscp := ab_mul (a := sg * c.toInt) (b := pl.toInt) (A := 50) (B := 20000) (by omega) (by omega)
  have hscp : (s * c * pl).toInt = sg * c.toInt * pl.toInt := by rw [x_mul (by rw [hsc]; omega), hsc]
  have hsum : (s * c * pl + wd).toInt = sg * c.toInt * pl.toInt + wd.toInt := by rw [x_add (by rw [hscp]; omega), hscp]
  have bF := ab_mul (a := e.toInt - b.toInt) (b := sg * c.toInt * pl.toInt + wd.toInt) (A := 4000) (B := 1000500) (by omega) (by omega)
  unfold wp_X4_keepsTop
  intro x1 e1
  have e1' : x1 = lI (-2 * -((e.toInt - b.toInt) * (sg * c.toInt * pl.toInt + wd.toInt))) := by
    rw [e1, x_l, x_l, hsum, x_sub (by omega), l_2, lI_mul, lI_mul]
    congr 1
    rw [Int.mul_assoc]; omega
  generalize hP : -((e.toInt - b.toInt) * (sg * c.toInt * pl.toInt + wd.toInt)) = P at hq e1'
  have bP : -4002000000 ≤ P ∧ P ≤ 4002000000 := by omega
  -- in the stretch
  have ex : ∀ x : Int, f.toInt ≤ x → x ≤ t.toInt → exG (fun z => asd fa fb fk z nb) wd.toInt pl.toInt rm.toInt b.toInt e.toInt W0 W1 sg x = qd P R S x := hq
  have all : (∀ x, f.toInt ≤ x → x ≤ t.toInt → qd P R S x ≤ 0) → Q 1 := fun g => h1 (fun x q1 q2 => by rw [ex x q1 q2]; exact g x q1 q2)
  rw [ex _ (Int.le_refl _) hf.2.1] at kf
  rw [ex _ hf.2.1 (Int.le_refl _)] at kt
  have one : ∀ y : Int32, ∀ (Q2 : Int64 → Prop), f.toInt ≤ y.toInt → y.toInt ≤ t.toInt → Q2 (lI (qd P R S y.toInt)) → wp_X4_offUpper (fun r => wp_X4_excess Q2 wd pl rm b e y (s.toInt64 * r)) (nI nb) fa fb fk b e (lI W0) (lI W1) y := by
    intro y Q2 q1 q2 q3
    refine q4_offUpper hB hS hbe (by omega) ?_
    rw [x_l, hs, lI_mul]
    refine q4_excess hbe (by omega) ?_
    rw [← ex _ q1 q2] at q3
    exact q3
  have bnd : ∀ x : Int, f.toInt ≤ x → x ≤ t.toInt → -1700000000000000000 ≤ qd P R S x ∧ qd P R S x ≤ 1700000000000000000 := fun x q1 q2 => by
    rw [← ex x q1 q2]
    exact exG_b hsp hsw (by omega) (ly_A hh (by omega)) hsg
  refine ⟨fun c1 => ⟨b_11, ?_⟩, fun c1 => ⟨fun c2 => ?_, fun c2 => ⟨b_11, ?_⟩⟩⟩
  · rw [e1', l_0, lI_le (by omega) (by omega)] at c1
    exact all (fun x q1 q2 => qd_convex (by omega) kf kt q1 q2)
  · rw [e1', l_0, lI_le (by omega) (by omega)] at c1
    have hP0 : P < 0 := by omega
    have two : f.toInt + 2 ≤ t.toInt := by
      rw [x_le, zt_2, x_sub (by omega)] at c2; omega
    have tf1 : (f + 1).toInt = f.toInt + 1 := by rw [x_add (by rw [zt_1]; omega), zt_1]
    refine one (f + 1) _ (by rw [tf1]; omega) (by rw [tf1]; omega) (one f _ (Int.le_refl _) hf.2.1 (fun x9 e9 => ?_))
    rw [tf1] at e9
    have b1 := bnd (f.toInt + 1) (by omega) (by omega)
    have b2 := bnd f.toInt (Int.le_refl _) hf.2.1
    rw [lI_sub] at e9
    generalize hr : qd P R S (f.toInt + 1) - qd P R S f.toInt = r at e9
    refine ⟨fun c3 => ?_, fun c3 => ⟨b_11, ?_⟩⟩
    · rw [e9, l_0, lI_lt (by omega) (by omega)] at c3
      have hne : ¬ x1 = 0 := by rw [e1', l_0, lI_eq (by omega) (by omega)]; omega
      refine ⟨hne, fun x12 e12 => ?_⟩
      rw [e9, e1', l_1, lI_add, lI_sub, lI_div (by omega) (by omega), Int.tdiv_eq_ediv_of_nonneg (by omega)] at e12
      -- steps
      generalize hst2 : (r + -2 * P - 1) / (-2 * P) = st at e12
      have d1 : -2 * P * ((r + -2 * P - 1) / (-2 * P)) + (r + -2 * P - 1) % (-2 * P) = r + -2 * P - 1 := Int.mul_ediv_add_emod _ _
      have d2 : 0 ≤ (r + -2 * P - 1) % (-2 * P) := Int.emod_nonneg _ (by omega)
      have d3 : (r + -2 * P - 1) % (-2 * P) < -2 * P := Int.emod_lt_of_pos _ (by omega)
      rw [hst2] at d1
      have m1 : (st - 1) * (-2 * P) = -2 * P * st - -2 * P := by rw [Int.sub_mul, Int.mul_comm]; omega
      have m2 : st * (-2 * P) = -2 * P * st := Int.mul_comm _ _
      have t1 : (st - 1) * (-2 * P) < qd P R S (f.toInt + 1) - qd P R S f.toInt := by rw [hr, m1]; omega
      have t2 : qd P R S (f.toInt + 1) - qd P R S f.toInt ≤ st * (-2 * P) := by rw [hr, m2]; omega
      have st0 : 0 < st := by
        rcases Int.lt_or_le 0 st with q | q
        · exact q
        · have := Int.mul_le_mul_of_nonneg_left q (show 0 ≤ -2 * P by omega); omega
      have stb : st ≤ 3500000000000000000 := by
        rcases Int.lt_or_le 3500000000000000000 st with q | q
        · have h7 : 2 * st ≤ -2 * P * st := Int.mul_le_mul_of_nonneg_right (by omega) (by omega)
          omega
        · exact q
      rw [x_l, x_sub (by omega), e12]
      refine ⟨fun c4 => ?_, fun c4 => ⟨b_11, ?_⟩⟩
      · rw [lI_lt (by omega) (by omega)] at c4
        intro x14 e14
        rw [lI_i (by omega)] at e14
        have t14 : x14.toInt = f.toInt + st := by rw [e14, x_add (by rw [iI_t (by omega)]; omega), iI_t (by omega)]
        refine one x14 _ (by rw [t14]; omega) (by rw [t14]; omega) ?_
        rw [t14]
        have b3 := bnd (f.toInt + st) (by omega) (by omega)
        refine ⟨fun c5 => ⟨b_01, h0 ⟨f.toInt + st, by omega, by omega, ?_⟩⟩, fun c5 => ⟨b_11, all (fun x q1 q2 => ?_)⟩⟩
        · rw [l_0, lI_lt (by omega) (by omega)] at c5
          rw [ex _ (by omega) (by omega)]; exact c5
        · rw [l_0, lI_lt (by omega) (by omega)] at c5
          have := qd_top (x := x) (show P ≤ 0 by omega) t1 t2
          omega
      · rw [lI_lt (by omega) (by omega)] at c4
        exact all (fun x q1 q2 => by have := qd_up (show P ≤ 0 by omega) t1 (show t.toInt - f.toInt ≤ st by omega) q1 q2; omega)
    · rw [e9, l_0, lI_lt (by omega) (by omega)] at c3
      exact all (fun x q1 q2 => by have := qd_down (show P ≤ 0 by omega) (show qd P R S (f.toInt + 1) - qd P R S f.toInt ≤ 0 by omega) q1; omega)
  · rw [x_le, zt_2, x_sub (by omega)] at c2
    refine all (fun x q1 q2 => ?_)
    rcases (show x = f.toInt ∨ x = t.toInt by omega) with q | q
    · rw [q]; exact kf
    · rw [q]; exact kt
theorem q4_keepsStretch {Q : Int32 → Prop} {E : Int} {nb : Nat} {fa fb fk : Nat → Int32} {wd pl rm b e : Int32} {W0 W1 : Int} (h : lyOk E nb fa fb fk wd pl rm b e W0 W1) {f t c : Int32} (hc : -50 ≤ c.toInt ∧ c.toInt ≤ 50)
    (hf : b.toInt ≤ f.toInt ∧ f.toInt ≤ t.toInt ∧ t.toInt ≤ e.toInt) (hst : strt (fun z => asd fa fb fk z nb) f.toInt t.toInt c.toInt)
    (h1 : (∀ x, f.toInt ≤ x → x ≤ t.toInt → kpt (fun z => asd fa fb fk z nb) wd.toInt pl.toInt rm.toInt b.toInt e.toInt W0 W1 x) → Q 1)
    (h0 : (∃ x, f.toInt ≤ x ∧ x ≤ t.toInt ∧ ¬ kpt (fun z => asd fa fb fk z nb) wd.toInt pl.toInt rm.toInt b.toInt e.toInt W0 W1 x) → Q 0) : wp_X4_keepsStretch Q (nI nb) fa fb fk wd pl rm b e (lI W0) (lI W1) f t c := by
  unfold wp_X4_keepsStretch
  refine q4_keepsPlace h (by omega) (fun k1 => ⟨fun q => absurd q n10, fun _ => ?_⟩) (fun k1 => ⟨fun _ => ⟨b_01, h0 ⟨_, Int.le_refl _, hf.2.1, k1⟩⟩, fun q => absurd rfl q⟩)
  refine q4_keepsPlace h (by omega) (fun k2 => ⟨fun q => absurd q n10, fun _ => ?_⟩) (fun k2 => ⟨fun _ => ⟨b_01, h0 ⟨_, hf.2.1, Int.le_refl _, k2⟩⟩, fun q => absurd rfl q⟩)
  refine q4_keepsTop h (sg := 1) (Or.inl rfl) rfl hc hf hst k1.1 k2.1 (fun g1 => ⟨fun q => absurd q n10, fun _ => ?_⟩) (fun ⟨x, q1, q2, q3⟩ => ⟨fun _ => ⟨b_01, h0 ⟨x, q1, q2, fun q => by have := q.1; omega⟩⟩, fun q => absurd rfl q⟩)
  exact q4_keepsTop h (sg := -1) (Or.inr rfl) rfl hc hf hst k1.2 k2.2 (fun g2 => ⟨fun q => absurd q n10, fun _ => ⟨b_11, h1 (fun x q1 q2 => ⟨g1 x q1 q2, g2 x q1 q2⟩)⟩⟩) (fun ⟨x, q1, q2, q3⟩ => ⟨fun _ => ⟨b_01, h0 ⟨x, q1, q2, fun q => by have := q.2; omega⟩⟩, fun q => absurd rfl q⟩)
/-- a span is kept -/
def spK (A : Int → Int) (wd pl rm rc x0 x1 w0 w1 : Int) : Prop := x1 - x0 ≤ rc ∧ ∀ x, x0 ≤ x → x ≤ x1 → kpt A wd pl rm x0 x1 w0 w1 x
theorem q4_isKept {Q : Int32 → Prop} {E : Int} {nb : Nat} {fa fb fk : Nat → Int32} {wd pl rm rc b e : Int32} {W0 W1 : Int} (h : lyOk E nb fa fb fk wd pl rm b e W0 W1)
    (h1 : spK (fun z => asd fa fb fk z nb) wd.toInt pl.toInt rm.toInt rc.toInt b.toInt e.toInt W0 W1 → Q 1) (h0 : ¬ spK (fun z => asd fa fb fk z nb) wd.toInt pl.toInt rm.toInt rc.toInt b.toInt e.toInt W0 W1 → Q 0) : wp_X4_isKept Q (nI nb) fa fb fk wd pl rm rc b e (lI W0) (lI W1) := by
  have hh := h
  obtain ⟨hB, hS, hsp, hsw⟩ := h
  have hlt := hsp.2.1
  have hb0 := hsp.1
  have he4 := hsp.2.2.1
  have hn8 := hB.1
  unfold wp_X4_isKept
  refine ⟨fun hr => ?_, fun hr => ⟨b_01, h0 (fun q => hr ?_)⟩⟩
  rotate_left
  · rw [x_le, x_sub (by omega)]; exact q.1
  rw [x_le, x_sub (by omega)] at hr
  have bad : ∀ x, b.toInt ≤ x → x ≤ e.toInt → ¬ kpt (fun z => asd fa fb fk z nb) wd.toInt pl.toInt rm.toInt b.toInt e.toInt W0 W1 x → Q 0 := fun x q1 q2 q3 => h0 (fun q => q3 (q.2 x q1 q2))
  -- the end of the walk
  have fin : ∀ y : Int32, b.toInt ≤ y.toInt ∧ y.toInt ≤ e.toInt → (b.toInt < y.toInt → ∀ x, b.toInt ≤ x → x ≤ y.toInt → kpt (fun z => asd fa fb fk z nb) wd.toInt pl.toInt rm.toInt b.toInt e.toInt W0 W1 x) → (y.toInt < e.toInt → ∀ i, i < nb → (fb i).toInt ≤ y.toInt) → wb_X4_isKept_169 Q (nI nb) fa fb fk wd pl rm rc b e (lI W0) (lI W1) y := by
    intro y hy k1 k2
    unfold wb_X4_isKept_169
    refine ⟨fun c => ⟨b_11, h1 ⟨hr, fun x q1 q2 => k1 ?_ x q1 ?_⟩⟩, fun c => ?_⟩
    · rw [x_le] at c; omega
    · rw [x_le] at c; omega
    · rw [x_le] at c
      refine q4_keepsStretch hh (by decide) ⟨hy.1, by omega, Int.le_refl _⟩ ?_ (fun g => ⟨fun q => absurd q n10, fun _ => ⟨b_11, h1 ⟨hr, fun x q1 q2 => ?_⟩⟩⟩) (fun ⟨x, q1, q2, q3⟩ => ⟨fun _ => ⟨b_01, bad x (by omega) q2 q3⟩, fun q => absurd rfl q⟩)
      · exact strt_gap nb (fun i hi => ⟨(hB.2.2 i hi).2.1, Or.inl (k2 (by omega) i hi)⟩)
      · rcases Int.lt_or_le y.toInt x with d | d
        · exact g x (by omega) q2
        · by_cases z : b.toInt < y.toInt
          · exact k1 z x q1 d
          · exact g x (by omega) q2
  have main : ∀ (d i : Nat) (y : Int32), i + d = nb → b.toInt ≤ y.toInt ∧ y.toInt ≤ e.toInt → (b.toInt < y.toInt → ∀ x, b.toInt ≤ x → x ≤ y.toInt → kpt (fun z => asd fa fb fk z nb) wd.toInt pl.toInt rm.toInt b.toInt e.toInt W0 W1 x) → (y.toInt < e.toInt → ∀ j, j < i → (fb j).toInt ≤ y.toInt) → ∃ n, wl_X4_isKept_28 Q (nI nb) fa fb fk wd pl rm rc b e (lI W0) (lI W1) n y (nI i) := by
    intro d
    induction d with
    | zero =>
      intro i y hi hy k1 k2
      refine ⟨1, ?_⟩
      show wb_X4_isKept_28 Q _ _ _ _ _ _ _ _ _ _ _ _ _ _ _
      unfold wb_X4_isKept_28
      have ei : i = nb := by omega
      subst ei
      exact ⟨fun _ => fin y hy k1 k2, fun q => absurd (nI_le (Nat.le_refl i) (by omega)) q⟩
    | succ d ih =>
      intro i y hi hy k1 k2
      by_cases ce : e.toInt ≤ y.toInt
      · refine ⟨1, ?_⟩
        show wb_X4_isKept_28 Q _ _ _ _ _ _ _ _ _ _ _ _ _ _ _
        unfold wb_X4_isKept_28
        exact ⟨fun q => absurd q (nI_ge (by omega) (by omega)), fun _ => ⟨fun _ => fin y hy k1 (fun q => absurd q (by omega)), fun q => absurd ((x_le _ _).mpr ce) q⟩⟩
      · obtain ⟨b1, b2, b3, b4, b5⟩ := hB.2.2 i (by omega)
        have hin : vp_in (nI i) 8 := vp_nI (by omega) (by omega)
        have hcl : (nI i).toNatClampNeg = i := cl_nI (by omega)
        -- the two ends of the bend, within the span
        obtain ⟨bb, hbb⟩ : ∃ z : Int32, z = if e ≤ fa i then e else fa i := ⟨_, rfl⟩
        obtain ⟨be, hbe⟩ : ∃ z : Int32, z = if e ≤ fb i then e else fb i := ⟨_, rfl⟩
        have tbb : bb.toInt = if e.toInt ≤ (fa i).toInt then e.toInt else (fa i).toInt := by
          rw [hbb]
          by_cases c : e ≤ fa i
          · rw [if_pos c, if_pos ((x_le _ _).mp c)]
          · rw [if_neg c, if_neg (fun q => c ((x_le _ _).mpr q))]
        have tbe : be.toInt = if e.toInt ≤ (fb i).toInt then e.toInt else (fb i).toInt := by
          rw [hbe]
          by_cases c : e ≤ fb i
          · rw [if_pos c, if_pos ((x_le _ _).mp c)]
          · rw [if_neg c, if_neg (fun q => c ((x_le _ _).mpr q))]
        have cbb : (bb.toInt = e.toInt ∧ e.toInt ≤ (fa i).toInt) ∨ (bb.toInt = (fa i).toInt ∧ (fa i).toInt < e.toInt) := by
          rw [tbb]; split <;> omega
        have cbe : (be.toInt = e.toInt ∧ e.toInt ≤ (fb i).toInt) ∨ (be.toInt = (fb i).toInt ∧ (fb i).toInt < e.toInt) := by
          rw [tbe]; split <;> omega
        have later : ∀ j, i < j → j < nb → (fb i).toInt ≤ (fa j).toInt := fun j q1 q2 => by
          have m1 := hS i (by omega)
          have m2 := bn_mono hB hS (j - (i + 1)) (i + 1) (by omega)
          rw [show i + 1 + (j - (i + 1)) = j by omega] at m2
          omega
        obtain ⟨y1, hy1⟩ : ∃ z : Int32, z = if bb ≤ y then y else bb := ⟨_, rfl⟩
        obtain ⟨y2, hy2⟩ : ∃ z : Int32, z = if be ≤ y1 then y1 else be := ⟨_, rfl⟩
        obtain ⟨n, hn⟩ : ∃ n, (b.toInt ≤ y2.toInt ∧ y2.toInt ≤ e.toInt → (b.toInt < y2.toInt → ∀ x, b.toInt ≤ x → x ≤ y2.toInt → kpt (fun z => asd fa fb fk z nb) wd.toInt pl.toInt rm.toInt b.toInt e.toInt W0 W1 x) → (y2.toInt < e.toInt → ∀ j, j < i + 1 → (fb j).toInt ≤ y2.toInt) → wl_X4_isKept_28 Q (nI nb) fa fb fk wd pl rm rc b e (lI W0) (lI W1) n y2 (nI (i + 1))) := by
          by_cases g : (b.toInt ≤ y2.toInt ∧ y2.toInt ≤ e.toInt) ∧ (b.toInt < y2.toInt → ∀ x, b.toInt ≤ x → x ≤ y2.toInt → kpt (fun z => asd fa fb fk z nb) wd.toInt pl.toInt rm.toInt b.toInt e.toInt W0 W1 x) ∧ (y2.toInt < e.toInt → ∀ j, j < i + 1 → (fb j).toInt ≤ y2.toInt)
          · obtain ⟨n, hn⟩ := ih (i + 1) y2 (by omega) g.1 g.2.1 g.2.2
            exact ⟨n, fun _ _ _ => hn⟩
          · exact ⟨0, fun g1 g2 g3 => absurd ⟨g1, g2, g3⟩ g⟩
        have g163 : b.toInt ≤ y2.toInt ∧ y2.toInt ≤ e.toInt → (b.toInt < y2.toInt → ∀ x, b.toInt ≤ x → x ≤ y2.toInt → kpt (fun z => asd fa fb fk z nb) wd.toInt pl.toInt rm.toInt b.toInt e.toInt W0 W1 x) → (y2.toInt < e.toInt → ∀ j, j < i + 1 → (fb j).toInt ≤ y2.toInt) → wb_X4_isKept_163 Q (nI nb) fa fb fk wd pl rm rc b e (lI W0) (lI W1) (wl_X4_isKept_28 Q (nI nb) fa fb fk wd pl rm rc b e (lI W0) (lI W1) n) y2 (nI i) := by
          intro q1 q2 q3
          unfold wb_X4_isKept_163
          intro z hz
          rw [hz, nI_1]
          exact hn q1 q2 q3
        have g133 : b.toInt ≤ y1.toInt ∧ y1.toInt ≤ e.toInt → (b.toInt < y1.toInt → ∀ x, b.toInt ≤ x → x ≤ y1.toInt → kpt (fun z => asd fa fb fk z nb) wd.toInt pl.toInt rm.toInt b.toInt e.toInt W0 W1 x) → (y1.toInt < e.toInt → (fa i).toInt ≤ y1.toInt ∧ ∀ j, j < i → (fb j).toInt ≤ y1.toInt) → wb_X4_isKept_133 Q (nI nb) fa fb fk wd pl rm rc b e (lI W0) (lI W1) (wl_X4_isKept_28 Q (nI nb) fa fb fk wd pl rm rc b e (lI W0) (lI W1) n) y1 (nI i) be := by
          intro q1 q2 q3
          unfold wb_X4_isKept_133
          refine ⟨fun c => ?_, fun c => ⟨hin, ?_⟩⟩
          · rw [if_pos c] at hy2
            rw [← hy2]
            rw [← hy2] at q1 q2 q3 c
            rw [x_le] at c
            refine g163 q1 q2 (fun z j hj => ?_)
            rcases Nat.lt_or_ge j i with w | w
            · exact (q3 z).2 j w
            · rw [show j = i by omega]; omega
          · rw [if_neg c] at hy2
            rw [x_le] at c
            have ylt : y1.toInt < e.toInt := by omega
            obtain ⟨r1, r2⟩ := q3 ylt
            rw [hcl]
            refine q4_keepsStretch hh ⟨b4, b5⟩ ⟨q1.1, by omega, by omega⟩ ?_ (fun g => ⟨fun q => absurd q n10, fun _ => ?_⟩) (fun ⟨x, p1, p2, p3⟩ => ⟨fun _ => ⟨b_01, bad x (by omega) (by omega) p3⟩, fun q => absurd rfl q⟩)
            · refine strt_bend ⟨b2, r1, by omega⟩ nb (by omega) (fun j hj hne => ⟨(hB.2.2 j hj).2.1, ?_⟩)
              rcases Nat.lt_or_ge j i with w | w
              · exact Or.inl (r2 j w)
              · have := later j (by omega) hj
                exact Or.inr (by omega)
            · rw [← hy2]
              rw [← hy2] at g cbe
              refine g163 (by omega) (fun _ x p1 p2 => ?_) (fun z j hj => ?_)
              · rcases Int.lt_or_le y1.toInt x with w | w
                · exact g x (by omega) p2
                · by_cases z : b.toInt < y1.toInt
                  · exact q2 z x p1 w
                  · exact g x (by omega) p2
              · rcases Nat.lt_or_ge j i with w | w
                · have := r2 j w; omega
                · rw [show j = i by omega]; omega
        have g112 : wb_X4_isKept_112 Q (nI nb) fa fb fk wd pl rm rc b e (lI W0) (lI W1) (wl_X4_isKept_28 Q (nI nb) fa fb fk wd pl rm rc b e (lI W0) (lI W1) n) y (nI i) bb be := by
          unfold wb_X4_isKept_112
          refine ⟨fun c => ?_, fun c => ?_⟩
          · rw [if_pos c] at hy1
            rw [← hy1]
            rw [← hy1] at hy k1 k2 c ce
            rw [x_le] at c
            exact g133 hy k1 (fun z => ⟨by omega, k2 z⟩)
          · rw [if_neg c] at hy1
            rw [x_le] at c
            refine q4_keepsStretch hh (by decide) ⟨hy.1, by omega, by omega⟩ ?_ (fun g => ⟨fun q => absurd q n10, fun _ => ?_⟩) (fun ⟨x, p1, p2, p3⟩ => ⟨fun _ => ⟨b_01, bad x (by omega) (by omega) p3⟩, fun q => absurd rfl q⟩)
            · refine strt_gap nb (fun j hj => ⟨(hB.2.2 j hj).2.1, ?_⟩)
              rcases Nat.lt_or_ge j i with w | w
              · exact Or.inl (k2 (by omega) j w)
              · have := bn_mono hB hS (j - i) i (by omega)
                rw [show i + (j - i) = j by omega] at this
                exact Or.inr (by omega)
            · rw [← hy1]
              rw [← hy1] at g cbb
              refine g133 (by omega) (fun _ x p1 p2 => ?_) (fun z => ⟨by omega, fun j hj => ?_⟩)
              · rcases Int.lt_or_le y.toInt x with w | w
                · exact g x (by omega) p2
                · by_cases z : b.toInt < y.toInt
                  · exact k1 z x p1 w
                  · exact g x (by omega) p2
              · have := k2 (by omega) j hj; omega
        refine ⟨n + 1, ?_⟩
        show wb_X4_isKept_28 Q _ _ _ _ _ _ _ _ _ _ _ _ _ _ _
        unfold wb_X4_isKept_28 wb_X4_isKept_79
        refine ⟨fun q => absurd q (nI_ge (by omega) (by omega)), fun _ => ⟨fun q => absurd ((x_le _ _).mp q) ce, fun _ => ⟨hin, ?_⟩⟩⟩
        rw [hcl]
        refine ⟨fun c => ⟨hin, fun c2 => ?_, fun c2 => ⟨hin, ?_⟩⟩, fun c => ⟨hin, hin, fun c2 => ?_, fun c2 => ⟨hin, ?_⟩⟩⟩
        · rw [if_pos c] at hbb; rw [if_pos c2] at hbe; rw [hbb, hbe] at g112; exact g112
        · rw [if_pos c] at hbb; rw [if_neg c2] at hbe; rw [hbb, hbe] at g112; exact g112
        · rw [if_neg c] at hbb; rw [if_pos c2] at hbe; rw [hbb, hbe] at g112; exact g112
        · rw [if_neg c] at hbb; rw [if_neg c2] at hbe; rw [hbb, hbe] at g112; exact g112
  exact main nb 0 b (by omega) ⟨Int.le_refl _, by omega⟩ (fun q => absurd q (Int.lt_irrefl _)) (fun _ j hj => absurd hj (Nat.not_lt_zero _))
