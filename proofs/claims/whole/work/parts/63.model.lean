/-! the model's spans -/
theorem q8_offTimes {Q : Int64 → Int32 → (Nat → Int64) → Prop} {ln : Int32} {E : Int} (hE : ln.toInt = E) (hE0 : 0 ≤ E) {nb : Nat} {ga gb gk : Nat → Int32} (hB : bnOk E nb ga gb gk) {A : Int → Int} (hA : ∀ x, asd ga gb gk x nb = A x) {isL : Int32} {fs : Nat → Int64} (hL : ldOk E nb ga gb gk isL fs) {a s c t x : Int32}
    (ha : 0 ≤ a.toInt ∧ a.toInt ≤ E) (hc : 0 ≤ c.toInt ∧ c.toInt ≤ E) (hx : 0 ≤ x.toInt ∧ x.toInt ≤ E)
    (hq : ∀ isL' fs', ldOk E nb ga gb gk isL' fs' → Q (lI (offT A a.toInt c.toInt (A a.toInt + 2000 * s.toInt) (A c.toInt + 2000 * t.toInt) x.toInt)) isL' fs') : wp_X8_offTimes Q ln (nI nb) ga gb gk isL fs a s c t x := by
  have hE4 := hB.2.1
  unfold wp_X8_offTimes
  refine q8_asideAt hE hE0 hB hL ha (fun i1 f1 l1 x4 e4 => q8_asideAt hE hE0 hB l1 hc (fun i2 f2 l2 x8 e8 x9 e9 => q8_asideAt hE hE0 hB l2 hx (fun i3 f3 l3 => ?_)))
  rw [x_l, show (2000 : Int64) = lI 2000 from rfl, lI_mul, lI_add, hA] at e4 e8
  rw [x_l, x_sub (by omega)] at e9
  rw [e4, e8, e9, x_l, x_sub (by omega), lI_mul, lI_sub, lI_mul, lI_mul, lI_add, lI_sub, hA]
  have := hq i3 f3 l3
  rw [show offT A a.toInt c.toInt (A a.toInt + 2000 * s.toInt) (A c.toInt + 2000 * t.toInt) x.toInt = (A a.toInt + 2000 * s.toInt) * (c.toInt - a.toInt) + (A c.toInt + 2000 * t.toInt - (A a.toInt + 2000 * s.toInt)) * (x.toInt - a.toInt) - A x.toInt * (c.toInt - a.toInt) by unfold offT; grind] at this
  exact this
/-- a span between two places, with sides -/
def spS (A : Int → Int) (x0 s0 x1 s1 : Int) : Prop := spI x0 x1 (A x0 + 2000 * s0) (A x1 + 2000 * s1)
theorem spS_of {E : Int} {nb : Nat} {fa fb fk : Nat → Int32} (hB : bnOk E nb fa fb fk) {x0 s0 x1 s1 : Int} (h0 : 0 ≤ x0) (h1 : x0 < x1) (h2 : x1 ≤ 4000) (hs0 : -400 ≤ s0 ∧ s0 ≤ 400) (hs1 : -400 ≤ s1 ∧ s1 ≤ 400) : spS (fun z => asd fa fb fk z nb) x0 s0 x1 s1 := by
  have b0 := asd_bb hB (show x0 ≤ 4000 by omega)
  have b1 := asd_bb hB h2
  unfold spS spI
  show 0 ≤ x0 ∧ x0 < x1 ∧ x1 ≤ 4000 ∧ -6400800000 ≤ asd fa fb fk x0 nb + 2000 * s0 ∧ asd fa fb fk x0 nb + 2000 * s0 ≤ 6400800000 ∧ -6400800000 ≤ asd fa fb fk x1 nb + 2000 * s1 ∧ asd fa fb fk x1 nb + 2000 * s1 ≤ 6400800000
  omega
theorem q8_isKept {Q : Int32 → Int32 → (Nat → Int64) → Prop} {ln : Int32} {E : Int} (hE : ln.toInt = E) (hE0 : 0 ≤ E) {nb : Nat} {ga gb gk : Nat → Int32} (hB : bnOk E nb ga gb gk) {A : Int → Int} (hA : ∀ x, asd ga gb gk x nb = A x) {isL : Int32} {fs : Nat → Int64} (hL : ldOk E nb ga gb gk isL fs) {wd pl bw sy rc : Int32} (hw : swOk wd pl bw sy rc) {a s c t x : Int32}
    (hsp : spS A a.toInt s.toInt c.toInt t.toInt) (hcE : c.toInt ≤ E) (hx : a.toInt ≤ x.toInt ∧ x.toInt ≤ c.toInt)
    (h1 : kpt A wd.toInt pl.toInt (2000 * (bw.toInt - sy.toInt)) a.toInt c.toInt (A a.toInt + 2000 * s.toInt) (A c.toInt + 2000 * t.toInt) x.toInt → ∀ isL' fs', ldOk E nb ga gb gk isL' fs' → Q 1 isL' fs')
    (h0 : ¬ kpt A wd.toInt pl.toInt (2000 * (bw.toInt - sy.toInt)) a.toInt c.toInt (A a.toInt + 2000 * s.toInt) (A c.toInt + 2000 * t.toInt) x.toInt → ∀ isL' fs', ldOk E nb ga gb gk isL' fs' → Q 0 isL' fs') :
    wp_X8_isKept Q ln (nI nb) ga gb gk isL fs wd pl bw sy a s c t x := by
  have hE4 := hB.2.1
  have hsp' := hsp
  obtain ⟨p1, p2, p3, -⟩ := hsp
  obtain ⟨w1, w2, w3, w4, w5, w6, w7, w8, w9, -⟩ := hw
  have hsw : swI wd.toInt pl.toInt (2000 * (bw.toInt - sy.toInt)) := ⟨w1, w2, w3, w4, by omega, by omega⟩
  have hAx : -6400000000 ≤ A x.toInt ∧ A x.toInt ≤ 6400000000 := by rw [← hA]; exact asd_bb hB (by omega)
  have ho := off_b hsp' hx hAx
  unfold wp_X8_isKept
  intro x1 e1
  rw [x_l, x_sub (by omega)] at e1
  refine q8_offTimes hE hE0 hB hA hL (by omega) (by omega) (by omega) (fun i2 f2 l2 x5 e5 x6 e6 => ?_)
  rw [x_l wd, x_l (x - a), x_l (c - x), x_sub (by omega), x_sub (by omega), lI_mul, lI_mul] at e5
  rw [x_l, x_sub (by omega), show (2000 : Int64) = lI 2000 from rfl, lI_mul] at e6
  have hk := kpt_abs (A := A) (wd := wd.toInt) (rm := 2000 * (bw.toInt - sy.toInt)) (x0 := a.toInt) (x1 := c.toInt) (W0 := A a.toInt + 2000 * s.toInt) (W1 := A c.toInt + 2000 * t.toInt) (x := x.toInt) (show 0 < pl.toInt by omega)
  generalize hof : offT A a.toInt c.toInt (A a.toInt + 2000 * s.toInt) (A c.toInt + 2000 * t.toInt) x.toInt = o at ho hk
  have hb := exS_b hsp' hsw hx (o := (o.natAbs : Int)) (by omega)
  have fin : ∀ k : Int64, k = lI (o.natAbs : Int) → wb_X8_isKept_69 Q ln (nI nb) ga gb gk wd pl bw sy i2 f2 x1 x5 x6 k := by
    intro k ek
    unfold wb_X8_isKept_69
    rw [e1, e5, e6, ek, x_l pl, lI_mul, lI_mul, lI_mul, lI_mul, lI_add]
    have a1 := ab_mul (a := 2000 * (bw.toInt - sy.toInt)) (b := c.toInt - a.toInt) (A := 2000000) (B := 4000) (by omega) (by omega)
    have a2 := ab_mul (a := 2000 * (bw.toInt - sy.toInt) * (c.toInt - a.toInt)) (b := pl.toInt) (A := 8000000000) (B := 20000) (by omega) (by omega)
    have ee : exS wd.toInt pl.toInt (2000 * (bw.toInt - sy.toInt)) a.toInt c.toInt (o.natAbs : Int) x.toInt = (o.natAbs : Int) * pl.toInt + wd.toInt * (x.toInt - a.toInt) * (c.toInt - x.toInt) * (c.toInt - a.toInt) - 2000 * (bw.toInt - sy.toInt) * (c.toInt - a.toInt) * pl.toInt := by
      unfold exS; grind
    rw [ee] at hb hk
    rw [lI_lt (by omega) (by omega)]
    exact ⟨fun q => ⟨b_01, h0 (fun z => by have := hk.mp z; omega) _ _ l2⟩, fun q => ⟨b_11, h1 (hk.mpr (by omega)) _ _ l2⟩⟩
  refine ⟨fun q => fin _ ?_, fun q => fin _ ?_⟩
  · rw [l_0, lI_le (by omega) (by omega)] at q
    congr 1; omega
  · rw [l_0, lI_le (by omega) (by omega)] at q
    rw [lI_neg]; congr 1; omega
theorem q8_isSpanKept {Q : Int32 → Int32 → (Nat → Int64) → Prop} {ln : Int32} {E : Int} (hE : ln.toInt = E) (hE0 : 0 ≤ E) {nb : Nat} {ga gb gk : Nat → Int32} (hB : bnOk E nb ga gb gk) {A : Int → Int} (hA : ∀ x, asd ga gb gk x nb = A x) {isL : Int32} {fs : Nat → Int64} (hL : ldOk E nb ga gb gk isL fs) {wd pl bw sy rc : Int32} (hw : swOk wd pl bw sy rc) {a s c t : Int32}
    (hsp : spS A a.toInt s.toInt c.toInt t.toInt) (hcE : c.toInt ≤ E)
    (h1 : spK A wd.toInt pl.toInt (2000 * (bw.toInt - sy.toInt)) rc.toInt a.toInt c.toInt (A a.toInt + 2000 * s.toInt) (A c.toInt + 2000 * t.toInt) → ∀ isL' fs', ldOk E nb ga gb gk isL' fs' → Q 1 isL' fs')
    (h0 : ¬ spK A wd.toInt pl.toInt (2000 * (bw.toInt - sy.toInt)) rc.toInt a.toInt c.toInt (A a.toInt + 2000 * s.toInt) (A c.toInt + 2000 * t.toInt) → ∀ isL' fs', ldOk E nb ga gb gk isL' fs' → Q 0 isL' fs') :
    wp_X8_isSpanKept Q ln (nI nb) ga gb gk isL fs wd pl bw sy rc a s c t := by
  have hE4 := hB.2.1
  have hsp' := hsp
  obtain ⟨p1, p2, p3, -⟩ := hsp
  unfold wp_X8_isSpanKept
  refine ⟨fun hr => ?_, fun hr => ⟨b_01, h0 (fun q => hr ?_) _ _ hL⟩⟩
  rotate_left
  · rw [x_le, x_sub (by omega)]; exact q.1
  rw [x_le, x_sub (by omega)] at hr
  -- the fuel must serve every table: by the number of places left
  have main : ∀ (d : Nat), ∃ n, ∀ (x : Int32) (i2 : Int32) (f2 : Nat → Int64), a.toInt ≤ x.toInt → x.toInt + d = c.toInt + 1 → (∀ y, a.toInt ≤ y → y < x.toInt → kpt A wd.toInt pl.toInt (2000 * (bw.toInt - sy.toInt)) a.toInt c.toInt (A a.toInt + 2000 * s.toInt) (A c.toInt + 2000 * t.toInt) y) → ldOk E nb ga gb gk i2 f2 → wl_X8_isSpanKept_15 Q ln (nI nb) ga gb gk wd pl bw sy rc n i2 f2 a s c t x := by
    intro d
    induction d with
    | zero =>
      refine ⟨1, fun x i2 f2 hx hd hk l2 => ?_⟩
      show wb_X8_isSpanKept_15 Q _ _ _ _ _ _ _ _ _ _ _ _ _ _ _ _ _ _
      unfold wb_X8_isSpanKept_15
      refine ⟨fun _ => ⟨b_11, h1 ⟨hr, fun y q1 q2 => hk y q1 (by omega)⟩ _ _ l2⟩, fun q => absurd ?_ q⟩
      rw [x_lt]; omega
    | succ d ih =>
      obtain ⟨n, hn⟩ := ih
      refine ⟨n + 1, fun x i2 f2 hx hd hk l2 => ?_⟩
      show wb_X8_isSpanKept_15 Q _ _ _ _ _ _ _ _ _ _ _ _ _ _ _ _ _ _
      unfold wb_X8_isSpanKept_15
      refine ⟨fun q => absurd ((x_lt _ _).mp q) (by omega), fun _ => ?_⟩
      refine q8_isKept hE hE0 hB hA l2 hw hsp' hcE (by omega) (fun kx i3 f3 l3 => ⟨fun q => absurd q n10, fun _ y hy => ?_⟩) (fun kx i3 f3 l3 => ⟨fun _ => ⟨b_01, h0 (fun q => kx (q.2 _ (by omega) (by omega))) _ _ l3⟩, fun q => absurd rfl q⟩)
      have ty : y.toInt = x.toInt + 1 := by rw [hy, x_add (by rw [zt_1]; omega), zt_1]
      refine hn y i3 f3 (by omega) (by omega) (fun z q1 q2 => ?_) l3
      rcases Int.lt_or_le z x.toInt with w | w
      · exact hk z q1 w
      · rw [show z = x.toInt by omega]; exact kx
  obtain ⟨n, hn⟩ := main (c.toInt + 1 - a.toInt).toNat
  exact ⟨n, hn a isL fs (Int.le_refl _) (by omega) (fun y q1 q2 => absurd q2 (by omega)) hL⟩
/-! spans by their masts -/
def spn (np : Nat) (st : Nat → Int32) (i p q : Nat) : Prop := p < q ∧ q < np ∧ ¬ st p = 0 ∧ ¬ st q = 0 ∧ cnt st p = i ∧ cnt st q = i + 1
theorem spn_ex {np : Nat} {st : Nat → Int32} {i : Nat} (h : i + 1 < cnt st np) : ∃ p q, spn np st i p q := by
  obtain ⟨p, p1, p2, p3⟩ := cnt_surj (st := st) np i (by omega)
  obtain ⟨q, q1, q2, q3⟩ := cnt_surj (st := st) np (i + 1) h
  refine ⟨p, q, ?_, q1, p2, q2, p3, q3⟩
  rcases Nat.lt_or_ge p q with c | c
  · exact c
  · have := cnt_mono' (st := st) c; omega
theorem spn_lt {np : Nat} {st : Nat → Int32} {i p q : Nat} (h : spn np st i p q) : i + 1 < cnt st np := by
  obtain ⟨h1, h2, h3, h4, h5, h6⟩ := h
  have := cnt_lt h2 h4; omega
theorem spn_gap {np : Nat} {st : Nat → Int32} {i p q : Nat} (h : spn np st i p q) : ∀ r, p < r → r < q → st r = 0 := by
  obtain ⟨h1, h2, h3, h4, h5, h6⟩ := h
  intro r q1 q2
  by_cases c : st r = 0
  · exact c
  · have a1 := cnt_lt q1 h3
    have a2 := cnt_lt q2 c
    omega
theorem spn_uniq {np : Nat} {st : Nat → Int32} {i p q p' q' : Nat} (h : spn np st i p q) (h' : spn np st i p' q') : p = p' ∧ q = q' := by
  obtain ⟨h1, h2, h3, h4, h5, h6⟩ := h
  obtain ⟨k1, k2, k3, k4, k5, k6⟩ := h'
  exact ⟨cnt_inj h3 k3 (by omega), cnt_inj h4 k4 (by omega)⟩
theorem spn_congr {np : Nat} {st st' : Nat → Int32} (h : ∀ i, i < np → st i = st' i) {i p q : Nat} : spn np st i p q → spn np st' i p q := by
  rintro ⟨h1, h2, h3, h4, h5, h6⟩
  have c : ∀ k, k ≤ np → cnt st k = cnt st' k := fun k hk => cnt_congr k (fun i hi => h i (by omega))
  refine ⟨h1, h2, ?_, ?_, ?_, ?_⟩
  · rw [← h p (by omega)]; exact h3
  · rw [← h q h2]; exact h4
  · rw [← c p (by omega)]; exact h5
  · rw [← c q (by omega)]; exact h6
theorem q8_mastBefore {Q : Int32 → Prop} {np : Nat} (hnp : np ≤ 40) {st : Nat → Int32} {i p q : Nat} (h : spn np st i p q) (hq : Q (nI p)) : wp_X8_mastBefore Q st (nI q) := by
  have hg := spn_gap h
  obtain ⟨h1, h2, h3, h4, h5, h6⟩ := h
  unfold wp_X8_mastBefore
  intro x1 e1
  have main : ∀ d k : Nat, p + d = k → k < q → ∃ n, wl_X8_mastBefore_4 Q st n (nI k) := by
    intro d
    induction d with
    | zero =>
      intro k hk hkq
      refine ⟨1, ?_⟩
      show wb_X8_mastBefore_4 Q _ _ _
      unfold wb_X8_mastBefore_4
      have e : k = p := by omega
      subst e
      refine ⟨vp_nI (by omega) (by omega), ?_⟩
      rw [cl_nI (by omega)]
      exact ⟨fun z => absurd z h3, fun _ => hq⟩
    | succ d ih =>
      intro k hk hkq
      obtain ⟨k', rfl⟩ : ∃ k', k = k' + 1 := ⟨k - 1, by omega⟩
      obtain ⟨n, hn⟩ := ih k' (by omega) (by omega)
      refine ⟨n + 1, ?_⟩
      show wb_X8_mastBefore_4 Q _ _ _
      unfold wb_X8_mastBefore_4
      refine ⟨vp_nI (by omega) (by omega), ?_⟩
      rw [cl_nI (by omega)]
      refine ⟨fun _ y hy => ?_, fun z => absurd (hg (k' + 1) (by omega) hkq) z⟩
      rw [hy, pk_m1]
      exact hn
  obtain ⟨q', rfl⟩ : ∃ q', q = q' + 1 := ⟨q - 1, by omega⟩
  rw [nI_pred] at e1
  rw [e1]
  exact main (q' - p) q' (by omega) (by omega)
theorem q8_endOf {Q : Int32 → Prop} {np : Nat} (hnp : np ≤ 40) {st : Nat → Int32} {x : Int32} (h1 : ∀ i p q, x = nI i → spn np st i p q → Q (nI q)) (h0 : (∀ i : Nat, x.toInt = (i : Int) → ¬ i + 1 < cnt st np) → Q (-6)) (hx : 0 ≤ x.toInt) : wp_X8_endOf Q (nI np) st x := by
  unfold wp_X8_endOf
  have cmp : ∀ c : Nat, c ≤ 40 → (nI c = x + 1 ↔ (c : Int) = x.toInt + 1) := fun c hc => by
    constructor
    · intro e
      have e2 : x = iI ((c : Int) - 1) := by
        have : x = (x + 1) - 1 := by
          rw [iI_of x, show (1 : Int32) = iI 1 from rfl, iI_add, iI_sub]; congr 1; omega
        rw [this, ← e, nI_iI, show (1 : Int32) = iI 1 from rfl, iI_sub]
      rw [e2, iI_t (by omega)]; omega
    · intro e
      rw [iI_of x, show (1 : Int32) = iI 1 from rfl, iI_add, nI_iI, e]
  have main : ∀ (d k : Nat), k + d = np → ((cnt st k : Int) ≤ x.toInt + 1) → ∃ n, wl_X8_endOf_4 Q (nI np) st n x (iI ((cnt st k : Int) - 1)) (nI k) := by
    intro d
    induction d with
    | zero =>
      intro k hk hc
      refine ⟨1, ?_⟩
      show wb_X8_endOf_4 Q _ _ _ _ _ _
      unfold wb_X8_endOf_4
      have e : k = np := by omega
      subst e
      exact ⟨fun _ => h0 (fun i hi => by omega), fun q => absurd (nI_le (Nat.le_refl k) (by omega)) q⟩
    | succ d ih =>
      intro k hk hc
      have hck := cnt_le st k
      have hin : vp_in (nI k) 40 := vp_nI (by omega) (by omega)
      by_cases hs : st k = 0
      · obtain ⟨n, hn⟩ := ih (k + 1) (by omega) (by rw [cnt_s0 hs]; exact hc)
        refine ⟨n + 1, ?_⟩
        show wb_X8_endOf_4 Q _ _ _ _ _ _
        unfold wb_X8_endOf_4 wb_X8_endOf_27 wb_X8_endOf_47
        refine ⟨fun q => absurd q (nI_ge (by omega) (by omega)), fun _ => ⟨hin, ?_⟩⟩
        rw [cl_nI (by omega)]
        refine ⟨fun _ y hy => ⟨hin, fun _ z hz => ?_, fun q => absurd hs q⟩, fun q => absurd hs q⟩
        rw [hz, hy, nI_1, show (0 : Int32) = iI 0 from rfl, iI_add, Int.add_zero, ← cnt_s0 hs]
        exact hn
      · by_cases he : (cnt st k : Int) = x.toInt + 1
        · refine ⟨1, ?_⟩
          show wb_X8_endOf_4 Q _ _ _ _ _ _
          unfold wb_X8_endOf_4 wb_X8_endOf_27
          refine ⟨fun q => absurd q (nI_ge (by omega) (by omega)), fun _ => ⟨hin, ?_⟩⟩
          rw [cl_nI (by omega)]
          refine ⟨fun q => absurd q hs, fun _ y hy => ⟨hin, fun q => absurd q hs, fun _ => ?_⟩⟩
          have ey : y = nI (cnt st k) := by rw [hy, show (1 : Int32) = iI 1 from rfl, iI_add, nI_iI]; congr 1; omega
          rw [ey]
          refine ⟨fun _ => ?_, fun q => absurd ((cmp _ (by omega)).mpr he) q⟩
          obtain ⟨p, p1, p2, p3⟩ := cnt_surj (st := st) k (cnt st k - 1) (by omega)
          exact h1 (cnt st k - 1) p k (x_nI (by omega)) ⟨p1, by omega, p2, hs, p3, by omega⟩
        · obtain ⟨n, hn⟩ := ih (k + 1) (by omega) (by rw [cnt_s1 hs]; omega)
          refine ⟨n + 1, ?_⟩
          show wb_X8_endOf_4 Q _ _ _ _ _ _
          unfold wb_X8_endOf_4 wb_X8_endOf_27 wb_X8_endOf_47
          refine ⟨fun q => absurd q (nI_ge (by omega) (by omega)), fun _ => ⟨hin, ?_⟩⟩
          rw [cl_nI (by omega)]
          refine ⟨fun q => absurd q hs, fun _ y hy => ⟨hin, fun q => absurd q hs, fun _ => ?_⟩⟩
          have ey : y = nI (cnt st k) := by rw [hy, show (1 : Int32) = iI 1 from rfl, iI_add, nI_iI]; congr 1; omega
          rw [ey]
          refine ⟨fun q => absurd ((cmp _ (by omega)).mp q) he, fun _ z hz => ?_⟩
          rw [hz, nI_1, nI_iI (cnt st k), show ((cnt st k : Nat) : Int) = ((cnt st (k + 1) : Nat) : Int) - 1 by rw [cnt_s1 hs]; omega]
          exact hn
  have := main np 0 (by omega) (by show ((0 : Nat) : Int) ≤ _; omega)
  exact this
