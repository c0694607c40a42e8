/-! the carrier -/
def crOk (T o D ld hg : Int32) : Prop := 1000 ≤ T.toInt ∧ T.toInt ≤ 20000 ∧ 1 ≤ o.toInt ∧ o.toInt ≤ 50 ∧ 1 ≤ D.toInt ∧ D.toInt ≤ 12 ∧ 1 ≤ ld.toInt ∧ ld.toInt ≤ 2000 ∧ 500 ≤ hg.toInt ∧ hg.toInt ≤ 3000
def sgT (D i k : Int) : Int := (if 2 * k + 1 < 2 * i + 1 then 2 * k + 1 else 2 * i + 1) * (2 * D - (if 2 * i + 1 < 2 * k + 1 then 2 * k + 1 else 2 * i + 1))
def sgS (D i : Int) : Nat → Int
  | 0 => 0
  | k + 1 => sgS D i k + sgT D i k
def sgU (o D ld l i : Int) : Int := o * l * l * (2 * i + 1) * (2 * D - (2 * i + 1)) + 2 * ld * l * sgS D i D.toNat
def sgL (T D : Int) : Int := 8 * D * D * T
theorem sgT_b {D i k : Int} (hD : D ≤ 12) (hi : 0 ≤ i ∧ i < D) (hk : 0 ≤ k ∧ k < D) : -576 ≤ sgT D i k ∧ sgT D i k ≤ 576 := by
  unfold sgT
  have := ab_mul (a := if 2 * k + 1 < 2 * i + 1 then 2 * k + 1 else 2 * i + 1) (b := 2 * D - (if 2 * i + 1 < 2 * k + 1 then 2 * k + 1 else 2 * i + 1)) (A := 24) (B := 24) (by split <;> omega) (by split <;> omega)
  omega
theorem sgS_b {D i : Int} (hD : D ≤ 12) (hi : 0 ≤ i ∧ i < D) : ∀ k : Nat, (k : Int) ≤ D → -(576 * (k : Int)) ≤ sgS D i k ∧ sgS D i k ≤ 576 * (k : Int) := by
  intro k
  induction k with
  | zero => intro _; simp [sgS]
  | succ k ih =>
    intro hk
    have h1 := ih (by omega)
    have h2 := sgT_b (k := (k : Int)) hD hi (by omega)
    have e : sgS D i (k + 1) = sgS D i k + sgT D i k := rfl
    rw [e]
    omega
theorem sgL_b {T o D ld hg : Int32} (h : crOk T o D ld hg) : 0 < sgL T.toInt D.toInt ∧ sgL T.toInt D.toInt ≤ 23040000 := by
  obtain ⟨h1, h2, -, -, h5, h6, -⟩ := h
  unfold sgL
  have a1 : 8 ≤ 8 * D.toInt ∧ 8 * D.toInt ≤ 96 := by omega
  have a2 : 8 ≤ 8 * D.toInt * D.toInt ∧ 8 * D.toInt * D.toInt ≤ 1152 := by
    constructor
    · have := Int.mul_le_mul a1.1 h5 (by omega) (by omega); omega
    · have := Int.mul_le_mul a1.2 h6 (by omega) (by omega); omega
  constructor
  · exact Int.mul_pos (by omega) (by omega)
  · have := Int.mul_le_mul a2.2 h2 (by omega) (by omega); omega
theorem sgU_b {T o D ld hg : Int32} (h : crOk T o D ld hg) {l i : Int} (hl : -4000 ≤ l ∧ l ≤ 4000) (hi : 0 ≤ i ∧ i < D.toInt) : -1000000000000 ≤ sgU o.toInt D.toInt ld.toInt l i ∧ sgU o.toInt D.toInt ld.toInt l i ≤ 1000000000000 := by
  obtain ⟨h1, h2, h3, h4, h5, h6, h7, h8, -⟩ := h
  unfold sgU
  have a1 := ab_mul (a := o.toInt) (b := l) (A := 50) (B := 4000) (by omega) (by omega)
  have a2 := ab_mul (a := o.toInt * l) (b := l) (A := 200000) (B := 4000) (by omega) (by omega)
  have a3 := ab_mul (a := o.toInt * l * l) (b := 2 * i + 1) (A := 800000000) (B := 24) (by omega) (by omega)
  have a4 := ab_mul (a := o.toInt * l * l * (2 * i + 1)) (b := 2 * D.toInt - (2 * i + 1)) (A := 19200000000) (B := 24) (by omega) (by omega)
  have a5 := ab_mul (a := 2 * ld.toInt) (b := l) (A := 4000) (B := 4000) (by omega) (by omega)
  have a6 := sgS_b (D := D.toInt) (i := i) h6 hi D.toInt.toNat (by omega)
  have a7 := ab_mul (a := 2 * ld.toInt * l) (b := sgS D.toInt i D.toInt.toNat) (A := 16000000) (B := 6912) (by omega) (by omega)
  omega
theorem q0_lower {Q : Int64 → Prop} {T D : Int32} (hq : Q (lI (sgL T.toInt D.toInt))) : wp_X0_lower Q T D := by
  unfold wp_X0_lower
  rw [x_l, x_l, l_8, lI_mul, lI_mul, lI_mul]
  exact hq
theorem q8_sagLower {Q : Int64 → Prop} {T D : Int32} (hq : Q (lI (sgL T.toInt D.toInt))) : wp_X8_sagLower Q T D := by
  unfold wp_X8_sagLower
  rw [x_l, x_l, l_8, lI_mul, lI_mul, lI_mul]
  exact hq
theorem q0_sagUpper {Q : Int64 → Prop} {o D ld p1 p2 : Int32} (hD : 1 ≤ D.toInt ∧ D.toInt ≤ 12) (hi : 0 ≤ p2.toInt ∧ p2.toInt < D.toInt) (hq : Q (lI (sgU o.toInt D.toInt ld.toInt p1.toInt p2.toInt))) : wp_X0_sagUpper Q o D ld p1 p2 := by
  unfold wp_X0_sagUpper
  intro x1 e1 x2 e2
  have t1 : x1.toInt = 2 * D.toInt := by rw [e1, x_mul (by rw [zt_2]; omega), zt_2]
  have t2 : x2.toInt = 2 * p2.toInt + 1 := by
    have h : ((2 : Int32) * p2).toInt = 2 * p2.toInt := by rw [x_mul (by rw [zt_2]; omega), zt_2]
    rw [e2, x_add (by rw [h, zt_1]; omega), h, zt_1]
  obtain ⟨d, hd⟩ : ∃ d : Nat, D.toInt = d := ⟨D.toInt.toNat, by omega⟩
  have eD : D = nI d := x_nI hd
  have main : ∀ (e k : Nat), k + e = d → ∃ n, wl_X0_sagUpper_20 Q o D ld n p1 x1 x2 (lI (sgS D.toInt p2.toInt k)) (nI k) := by
    intro e
    induction e with
    | zero =>
      intro k hk
      refine ⟨1, ?_⟩
      show wb_X0_sagUpper_20 Q _ _ _ _ _ _ _ _ _
      unfold wb_X0_sagUpper_20
      have ek : k = D.toInt.toNat := by omega
      refine ⟨fun _ x4 e4 => ?_, fun h => absurd ?_ h⟩
      · rw [e4, x_l o, x_l p1, x_l x2, x_l ld, x_l (x1 - x2), x_sub (by rw [t1, t2]; omega), t1, t2, ek, l_2]
        simp only [lI_mul, lI_add]
        exact hq
      · rw [eD]; exact nI_le (by omega) (by omega)
    | succ e ih =>
      intro k hk
      obtain ⟨n, hn⟩ := ih (k + 1) (by omega)
      refine ⟨n + 1, ?_⟩
      show wb_X0_sagUpper_20 Q _ _ _ _ _ _ _ _ _
      unfold wb_X0_sagUpper_20
      refine ⟨fun h => absurd h (by rw [eD]; exact nI_ge (by omega) (by omega)), fun _ x5 e5 x6 e6 x7 e7 x8 e8 x9 e9 => ?_⟩
      have tk : (nI k).toInt = (k : Int) := nI_t (by omega)
      have t5 : x5.toInt = 2 * (k : Int) + 1 := by
        have h : ((2 : Int32) * nI k).toInt = 2 * (k : Int) := by rw [x_mul (by rw [zt_2, tk]; omega), zt_2, tk]
        rw [e5, x_add (by rw [h, zt_1]; omega), h, zt_1]
      have t6 : x6.toInt = if 2 * (k : Int) + 1 < 2 * p2.toInt + 1 then 2 * (k : Int) + 1 else 2 * p2.toInt + 1 := by
        rw [e6]
        by_cases c : x5 < x2
        · rw [if_pos c]; rw [x_lt, t5, t2] at c; rw [if_pos c]; exact t5
        · rw [if_neg c]; rw [x_lt, t5, t2] at c; rw [if_neg c]; exact t2
      have t7 : x7.toInt = if 2 * p2.toInt + 1 < 2 * (k : Int) + 1 then 2 * (k : Int) + 1 else 2 * p2.toInt + 1 := by
        rw [e7]
        by_cases c : x2 < x5
        · rw [if_pos c]; rw [x_lt, t5, t2] at c; rw [if_pos c]; exact t5
        · rw [if_neg c]; rw [x_lt, t5, t2] at c; rw [if_neg c]; exact t2
      have b7 : 1 ≤ x7.toInt ∧ x7.toInt ≤ 23 := by rw [t7]; split <;> omega
      have b6 : 1 ≤ x6.toInt ∧ x6.toInt ≤ 23 := by rw [t6]; split <;> omega
      have s1 : (x1 - x7).toInt = 2 * D.toInt - x7.toInt := by rw [x_sub (by rw [t1]; omega), t1]
      have bb := ab_mul (a := x6.toInt) (b := (x1 - x7).toInt) (A := 24) (B := 24) (by omega) (by rw [s1]; omega)
      have s2 : (x6 * (x1 - x7)).toInt = sgT D.toInt p2.toInt k := by
        rw [x_mul (by omega), s1, t6, t7]; rfl
      rw [x_l, s2, lI_add] at e8
      rw [e8, e9, nI_1]
      exact hn
  exact main d 0 (by omega)
theorem q8_sagUpper {Q : Int64 → Prop} {o D ld p1 p2 : Int32} (hD : 1 ≤ D.toInt ∧ D.toInt ≤ 12) (hi : 0 ≤ p2.toInt ∧ p2.toInt < D.toInt) (hq : Q (lI (sgU o.toInt D.toInt ld.toInt p1.toInt p2.toInt))) : wp_X8_sagUpper Q o D ld p1 p2 := by
  unfold wp_X8_sagUpper
  intro x1 e1 x2 e2 x3 e3
  rw [x_l, l_2, l_1, lI_mul, lI_add] at e1
  rw [x_l, l_2, lI_mul] at e2
  rw [x_l, x_l, e1, e2, lI_sub, lI_mul, lI_mul, lI_mul, lI_mul] at e3
  obtain ⟨d, hd⟩ : ∃ d : Nat, D.toInt = d := ⟨D.toInt.toNat, by omega⟩
  have eD : D = nI d := x_nI hd
  have main : ∀ (e k : Nat), k + e = d → ∃ n, wl_X8_sagUpper_43 Q o D ld n p1 x1 x2 (lI (o.toInt * p1.toInt * p1.toInt * (2 * p2.toInt + 1) * (2 * D.toInt - (2 * p2.toInt + 1)) + 2 * ld.toInt * p1.toInt * sgS D.toInt p2.toInt k)) (nI k) := by
    intro e
    induction e with
    | zero =>
      intro k hk
      refine ⟨1, ?_⟩
      show wb_X8_sagUpper_43 Q _ _ _ _ _ _ _ _ _
      unfold wb_X8_sagUpper_43
      have ek : k = D.toInt.toNat := by omega
      refine ⟨fun _ => ?_, fun h => absurd ?_ h⟩
      · rw [ek]; exact hq
      · rw [eD]; exact nI_le (by omega) (by omega)
    | succ e ih =>
      intro k hk
      obtain ⟨n, hn⟩ := ih (k + 1) (by omega)
      refine ⟨n + 1, ?_⟩
      show wb_X8_sagUpper_43 Q _ _ _ _ _ _ _ _ _
      unfold wb_X8_sagUpper_43
      have tk : (nI k).toInt = (k : Int) := nI_t (by omega)
      refine ⟨fun h => absurd h (by rw [eD]; exact nI_ge (by omega) (by omega)), fun _ x5 e5 => ?_⟩
      rw [x_l, tk, l_2, l_1, lI_mul, lI_add] at e5
      have fin : ∀ v : Int64, v = lI (sgT D.toInt p2.toInt k) → wb_X8_sagUpper_87 Q o D ld (wl_X8_sagUpper_43 Q o D ld n) p1 x1 x2 (lI (o.toInt * p1.toInt * p1.toInt * (2 * p2.toInt + 1) * (2 * D.toInt - (2 * p2.toInt + 1)) + 2 * ld.toInt * p1.toInt * sgS D.toInt p2.toInt k)) (nI k) v := by
        intro v hv
        unfold wb_X8_sagUpper_87
        intro x7 e7 x8 e8
        rw [x_l, x_l, l_2, hv, lI_mul, lI_mul, lI_mul, lI_add] at e7
        rw [e7, e8, nI_1]
        have : o.toInt * p1.toInt * p1.toInt * (2 * p2.toInt + 1) * (2 * D.toInt - (2 * p2.toInt + 1)) + 2 * ld.toInt * p1.toInt * sgS D.toInt p2.toInt k + 2 * ld.toInt * p1.toInt * sgT D.toInt p2.toInt k = o.toInt * p1.toInt * p1.toInt * (2 * p2.toInt + 1) * (2 * D.toInt - (2 * p2.toInt + 1)) + 2 * ld.toInt * p1.toInt * sgS D.toInt p2.toInt (k + 1) := by
          show _ = _ + 2 * ld.toInt * p1.toInt * (sgS D.toInt p2.toInt k + sgT D.toInt p2.toInt k)
          rw [Int.add_assoc, ← Int.mul_add]
        rw [this]
        exact hn
      rw [e1, e5, e2]
      refine ⟨fun h => ?_, fun h => ?_⟩
      · rw [← e1, ← e2]
        refine fin _ ?_
        rw [lI_lt (by omega) (by omega)] at h
        rw [e1, e2, lI_sub, lI_mul]
        congr 1
        unfold sgT
        rw [if_neg (by omega), if_pos (by omega)]
      · rw [← e1, ← e2]
        refine fin _ ?_
        rw [lI_lt (by omega) (by omega)] at h
        rw [e1, e2, lI_sub, lI_mul]
        congr 1
        unfold sgT
        by_cases c : 2 * (k : Int) + 1 < 2 * p2.toInt + 1
        · rw [if_pos c, if_neg (by omega)]
        · rw [if_neg c, if_neg (by omega)]
          have : 2 * (k : Int) + 1 = 2 * p2.toInt + 1 := by omega
          rw [this]
  rw [e3]
  have := main d 0 (by omega)
  simp only [sgS, Int.mul_zero, Int.add_zero] at this
  exact this
def drU (hg T o D ld l i : Int) : Int := hg * sgL T D - sgU o D ld l i
theorem drU_b {T o D ld hg : Int32} (h : crOk T o D ld hg) {l i : Int} (hl : -4000 ≤ l ∧ l ≤ 4000) (hi : 0 ≤ i ∧ i < D.toInt) : -2000000000000 ≤ drU hg.toInt T.toInt o.toInt D.toInt ld.toInt l i ∧ drU hg.toInt T.toInt o.toInt D.toInt ld.toInt l i ≤ 2000000000000 := by
  have a := sgU_b h hl hi
  have b := sgL_b h
  obtain ⟨h1, h2, h3, h4, h5, h6, h7, h8, h9, h10⟩ := h
  have c := ab_mul (a := hg.toInt) (b := sgL T.toInt D.toInt) (A := 3000) (B := 23040000) (by omega) (by omega)
  unfold drU
  omega
theorem q0_lengthUpper {Q : Int64 → Prop} {T o D ld hg p1 p2 : Int32} (hD : 1 ≤ D.toInt ∧ D.toInt ≤ 12) (hi : 0 ≤ p2.toInt ∧ p2.toInt < D.toInt) (hq : Q (lI (drU hg.toInt T.toInt o.toInt D.toInt ld.toInt p1.toInt p2.toInt))) : wp_X0_lengthUpper Q T o D ld hg p1 p2 := by
  unfold wp_X0_lengthUpper
  refine q0_lower (q0_sagUpper hD hi ?_)
  rw [x_l, lI_mul, lI_sub]
  exact hq
theorem q8_dropUpper {Q : Int64 → Prop} {T o D ld hg p1 p2 : Int32} (hD : 1 ≤ D.toInt ∧ D.toInt ≤ 12) (hi : 0 ≤ p2.toInt ∧ p2.toInt < D.toInt) (hq : Q (lI (drU hg.toInt T.toInt o.toInt D.toInt ld.toInt p1.toInt p2.toInt))) : wp_X8_dropUpper Q T o D ld hg p1 p2 := by
  unfold wp_X8_dropUpper
  refine q8_sagLower (q8_sagUpper hD hi ?_)
  rw [x_l, lI_mul, lI_sub]
  exact hq
theorem lI_div {a b : Int} (ha : -9223372036854775808 ≤ a ∧ a < 9223372036854775808) (hb : -9223372036854775808 ≤ b ∧ b < 9223372036854775808) : lI a / lI b = lI (a.tdiv b) := by
  have e1 : Int64.minValue.toInt = -9223372036854775808 := rfl
  have e2 : Int64.maxValue.toInt = 9223372036854775807 := rfl
  exact (Int64.ofInt_tdiv (by omega) (by omega) (by omega) (by omega)).symm
theorem xor_neg (x y : Int64) : 0 ≤ (x ^^^ y) ↔ (0 ≤ x.toInt ↔ 0 ≤ y.toInt) := by
  have h : ∀ z : Int64, z.toBitVec.msb = decide (z.toInt < 0) := fun z => BitVec.msb_eq_toInt
  have hz : (0 : Int64) ≤ (x ^^^ y) ↔ ¬ (x ^^^ y).toInt < 0 := by
    rw [Int64.le_iff_toInt_le]
    have : (0 : Int64).toInt = 0 := rfl
    omega
  have hm : (x ^^^ y).toBitVec.msb = (x.toBitVec.msb ^^ y.toBitVec.msb) := by
    rw [Int64.toBitVec_xor, BitVec.msb_xor]
  rw [hz]
  have h1 := h (x ^^^ y)
  rw [hm, h x, h y] at h1
  by_cases c1 : x.toInt < 0 <;> by_cases c2 : y.toInt < 0 <;> by_cases c3 : (x ^^^ y).toInt < 0 <;> simp [c1, c2, c3] at h1 ⊢ <;> omega
theorem q9_floorDiv {Q : Int64 → Prop} {a b : Int} (ha : -4611686018427387904 ≤ a ∧ a ≤ 4611686018427387904) (hb : 0 < b ∧ b ≤ 33554432) (hq : Q (lI (a / b))) : wp_J9_floorDiv_f86c9 Q (lI a) (lI b) := by
  unfold wp_J9_floorDiv_f86c9
  have hne : ¬ lI b = 0 := by
    rw [l_0, lI_eq (by omega) (by omega)]; omega
  refine ⟨hne, fun x2 e2 => ?_⟩
  rw [lI_div (by omega) (by omega)] at e2
  have hx := xor_neg (lI a) (lI b)
  rw [lI_t (by omega), lI_t (by omega)] at hx
  have hdm : b * (a / b) + a % b = a := Int.mul_ediv_add_emod a b
  have hm0 : 0 ≤ a % b := Int.emod_nonneg a (by omega)
  have hm1 : a % b < b := Int.emod_lt_of_pos a hb.1
  have ht : a.tdiv b = a / b + if 0 ≤ a ∨ b ∣ a then 0 else Int.sign b := Int.tdiv_eq_ediv
  have hsb : Int.sign b = 1 := Int.sign_eq_one_of_pos hb.1
  refine ⟨fun h => ?_, fun h => ?_⟩
  · have h0 : 0 ≤ a := (hx.mp h).mpr (by omega)
    rw [e2, Int.tdiv_eq_ediv_of_nonneg h0]
    exact hq
  · have h0 : a < 0 := by
      rcases Int.lt_or_le a 0 with q | q
      · exact q
      · exact absurd (hx.mpr ⟨fun _ => by omega, fun _ => q⟩) h
    have key : (x2 * lI b) = lI a ↔ b ∣ a := by
      rw [e2, lI_mul]
      constructor
      · intro e
        by_cases hd : b ∣ a
        · exact hd
        · exfalso
          rw [ht, if_neg (by intro q; rcases q with q | q; omega; exact hd q), hsb] at e
          have hmp : a % b ≠ 0 := fun q => hd (Int.dvd_of_emod_eq_zero q)
          have e3 : (a / b + 1) * b = a - a % b + b := by rw [Int.add_mul, Int.mul_comm (a / b) b]; omega
          rw [e3, lI_eq (by omega) (by omega)] at e
          omega
      · intro hd
        rw [ht, if_pos (Or.inr hd), Int.add_zero, Int.ediv_mul_cancel hd]
    refine ⟨fun e => ?_, fun e => ?_⟩
    · have hd := key.mp e
      rw [e2, ht, if_pos (Or.inr hd), Int.add_zero]
      exact hq
    · have hd : ¬ b ∣ a := fun q => e (key.mpr q)
      rw [e2, ht, if_neg (by intro q; rcases q with q | q; omega; exact hd q), hsb, l_1, lI_sub]
      have : a / b + 1 - 1 = a / b := by omega
      rw [this]
      exact hq
/-- up to whole millimetres -/
def cutI (u w : Int) : Int := -((-u) / w)
theorem cut_b {u w : Int} (hu : -2000000000000 ≤ u ∧ u ≤ 2000000000000) (hw : 0 < w ∧ w ≤ 23040000) : -2000000000001 ≤ cutI u w ∧ cutI u w ≤ 2000000000001 := by
  unfold cutI
  have h1 : w * ((-u) / w) + (-u) % w = -u := Int.mul_ediv_add_emod (-u) w
  have h2 : 0 ≤ (-u) % w := Int.emod_nonneg (-u) (by omega)
  have h3 : (-u) % w < w := Int.emod_lt_of_pos (-u) hw.1
  have hle : (-u) / w ≤ 2000000000000 := Int.le_trans (Int.ediv_le_ediv hw.1 (show -u ≤ 2000000000000 by omega)) (Int.ediv_le_self _ (by omega))
  have hge : -2000000000000 ≤ (-u) / w := by
    rw [Int.le_ediv_iff_mul_le hw.1]
    have : (2000000000000 : Int) * 1 ≤ 2000000000000 * w := Int.mul_le_mul_of_nonneg_left (by omega) (by omega)
    omega
  omega
theorem q0_cutUp {Q : Int32 → Prop} {T o D ld hg p1 p2 : Int32} (h : crOk T o D ld hg) (hl : -4000 ≤ p1.toInt ∧ p1.toInt ≤ 4000) (hi : 0 ≤ p2.toInt ∧ p2.toInt < D.toInt) (hq : Q (iI (cutI (drU hg.toInt T.toInt o.toInt D.toInt ld.toInt p1.toInt p2.toInt) (sgL T.toInt D.toInt)))) : wp_X0_cutUp Q T o D ld hg p1 p2 := by
  have hD : 1 ≤ D.toInt ∧ D.toInt ≤ 12 := ⟨h.2.2.2.2.1, h.2.2.2.2.2.1⟩
  have b1 := sgL_b h
  have b2 := drU_b h hl hi
  have b3 := cut_b b2 b1
  unfold wp_X0_cutUp
  refine q0_lower ⟨fun _ => q0_lengthUpper hD hi ?_, fun c => absurd ?_ c⟩
  · rw [lI_neg]
    refine q9_floorDiv (by omega) (by omega) ?_
    rw [lI_neg, lI_i (by unfold cutI at b3; omega)]
    exact hq
  · rw [l_0, lI_lt (by omega) (by omega)]; omega
theorem q8_cutOf {Q : Int32 → Prop} {T o D ld hg p1 p2 : Int32} (h : crOk T o D ld hg) (hl : -4000 ≤ p1.toInt ∧ p1.toInt ≤ 4000) (hi : 0 ≤ p2.toInt ∧ p2.toInt < D.toInt) (hq : Q (iI (cutI (drU hg.toInt T.toInt o.toInt D.toInt ld.toInt p1.toInt p2.toInt) (sgL T.toInt D.toInt)))) : wp_X8_cutOf Q T o D ld hg p1 p2 := by
  have hD : 1 ≤ D.toInt ∧ D.toInt ≤ 12 := ⟨h.2.2.2.2.1, h.2.2.2.2.2.1⟩
  have b1 := sgL_b h
  have b2 := drU_b h hl hi
  have b3 := cut_b b2 b1
  unfold wp_X8_cutOf
  refine q8_dropUpper hD hi (q8_sagLower ?_)
  generalize drU hg.toInt T.toInt o.toInt D.toInt ld.toInt p1.toInt p2.toInt = u at b2 b3 hq ⊢
  generalize sgL T.toInt D.toInt = w at b1 b3 hq ⊢
  have hne : ¬ lI w = 0 := by rw [l_0, lI_eq (by omega) (by omega)]; omega
  refine ⟨hne, fun x4 e4 => ⟨hne, ?_⟩⟩
  rw [lI_div (by omega) (by omega)] at e4 ⊢
  rw [lI_mul, lI_sub, l_0]
  have hdm : w * (u / w) + u % w = u := Int.mul_ediv_add_emod u w
  have hm0 : 0 ≤ u % w := Int.emod_nonneg u (by omega)
  have hm1 : u % w < w := Int.emod_lt_of_pos u b1.1
  have ht : u.tdiv w = u / w + if 0 ≤ u ∨ w ∣ u then 0 else Int.sign w := Int.tdiv_eq_ediv
  have hsw : Int.sign w = 1 := Int.sign_eq_one_of_pos b1.1
  -- the cut, by cases
  have hc : cutI u w = if u % w = 0 then u / w else u / w + 1 := by
    unfold cutI
    have k1 : w * ((-u) / w) + (-u) % w = -u := Int.mul_ediv_add_emod (-u) w
    have k2 : 0 ≤ (-u) % w := Int.emod_nonneg (-u) (by omega)
    have k3 : (-u) % w < w := Int.emod_lt_of_pos (-u) b1.1
    have k4 : w * ((-u) / w + u / w) = -((-u) % w + u % w) := by rw [Int.mul_add]; omega
    by_cases z : u % w = 0
    · rw [if_pos z]
      have : (-u) / w + u / w = 0 := by
        rcases Int.lt_trichotomy ((-u) / w + u / w) 0 with q | q | q
        · have := Int.mul_le_mul_of_nonneg_left (show (-u) / w + u / w ≤ -1 by omega) (show 0 ≤ w by omega); omega
        · exact q
        · have := Int.mul_le_mul_of_nonneg_left (show 1 ≤ (-u) / w + u / w by omega) (show 0 ≤ w by omega); omega
      omega
    · rw [if_neg z]
      have : (-u) / w + u / w = -1 := by
        rcases Int.lt_trichotomy ((-u) / w + u / w) (-1) with q | q | q
        · have := Int.mul_le_mul_of_nonneg_left (show (-u) / w + u / w ≤ -2 by omega) (show 0 ≤ w by omega); omega
        · exact q
        · have := Int.mul_le_mul_of_nonneg_left (show 0 ≤ (-u) / w + u / w by omega) (show 0 ≤ w by omega); omega
      omega
  have hdv : w ∣ u ↔ u % w = 0 := ⟨Int.emod_eq_zero_of_dvd, Int.dvd_of_emod_eq_zero⟩
  have hcm : u / w * w = u - u % w := by rw [Int.mul_comm]; omega
  rw [e4, ht]
  by_cases z : u % w = 0
  · rw [hc, if_pos z] at hq b3
    rw [if_pos (Or.inr (hdv.mpr z)), Int.add_zero, hcm]
    refine ⟨fun _ => ?_, fun c => absurd ?_ c⟩
    · rw [lI_i (by omega)]; exact hq
    · rw [lI_le (by omega) (by omega)]; omega
  · rw [hc, if_neg z] at hq b3
    by_cases s : 0 ≤ u
    · rw [if_pos (Or.inl s), Int.add_zero, hcm]
      refine ⟨fun c => absurd c ?_, fun _ => ?_⟩
      · rw [lI_le (by omega) (by omega)]; omega
      · rw [l_1, lI_add, lI_i (by omega)]; exact hq
    · rw [if_neg (by intro q; rcases q with q | q; exact s q; exact z (hdv.mp q)), hsw, Int.add_mul, hcm]
      refine ⟨fun _ => ?_, fun c => absurd ?_ c⟩
      · rw [lI_i (by omega)]; exact hq
      · rw [lI_le (by omega) (by omega)]; omega
