/-! parabolas over stretches of whole places -/
def qd (P R S x : Int) : Int := P * x * x + R * x + S
theorem qd_convex {P R S f t x : Int} (hP : 0 ≤ P) (hf : qd P R S f ≤ 0) (ht : qd P R S t ≤ 0) (h1 : f ≤ x) (h2 : x ≤ t) : qd P R S x ≤ 0 := by
  by_cases c : f = t
  · have : x = f := by omega
    rw [this]; exact hf
  · have e : (t - x) * qd P R S f + (x - f) * qd P R S t - (t - f) * qd P R S x = P * (t - f) * ((x - f) * (t - x)) := by
      unfold qd; grind
    have p1 : 0 ≤ P * (t - f) := Int.mul_nonneg hP (by omega)
    have p2 : 0 ≤ (x - f) * (t - x) := Int.mul_nonneg (by omega) (by omega)
    have p3 := Int.mul_nonneg p1 p2
    have p4 : 0 ≤ (t - x) * (-qd P R S f) := Int.mul_nonneg (by omega) (by omega)
    have p5 : 0 ≤ (x - f) * (-qd P R S t) := Int.mul_nonneg (by omega) (by omega)
    rw [Int.mul_neg] at p4 p5
    have p6 : (t - f) * qd P R S x ≤ 0 := by omega
    rcases Int.lt_or_le 0 (qd P R S x) with q | q
    · have := Int.mul_pos (show 0 < t - f by omega) q; omega
    · exact q
theorem qd_diff (P R S f j k : Int) : 2 * (qd P R S (f + j) - qd P R S (f + k)) = (j - k) * (2 * (qd P R S (f + 1) - qd P R S f) - (-2 * P) * (j + k - 1)) := by
  unfold qd; grind
/-- the slope isn't above 0 at the beginning: the beginning is the top -/
theorem qd_down {P R S f x : Int} (hP : P ≤ 0) (hr : qd P R S (f + 1) - qd P R S f ≤ 0) (h : f ≤ x) : qd P R S x ≤ qd P R S f := by
  have e := qd_diff P R S f (x - f) 0
  rw [show f + (x - f) = x by omega, show f + 0 = f by omega, show x - f - 0 = x - f by omega, show x - f + 0 - 1 = x - f - 1 by omega] at e
  by_cases c : x = f
  · rw [c]; exact Int.le_refl _
  · have p1 : 0 ≤ (-2 * P) * (x - f - 1) := Int.mul_nonneg (by omega) (by omega)
    have p2 : 0 ≤ (x - f) * (-(2 * (qd P R S (f + 1) - qd P R S f) - (-2 * P) * (x - f - 1))) := Int.mul_nonneg (by omega) (by omega)
    rw [Int.mul_neg] at p2
    omega
/-- the top is where the slope comes to 0, or below -/
theorem qd_top {P R S f x st : Int} (hP : P ≤ 0) (h1 : (st - 1) * (-2 * P) < qd P R S (f + 1) - qd P R S f) (h2 : qd P R S (f + 1) - qd P R S f ≤ st * (-2 * P)) : qd P R S x ≤ qd P R S (f + st) := by
  have e := qd_diff P R S f st (x - f)
  rw [show f + (x - f) = x by omega] at e
  generalize qd P R S (f + 1) - qd P R S f = r at h1 h2 e
  have hF : 0 ≤ -2 * P := by omega
  generalize -2 * P = F at h1 h2 e hF
  rcases Int.lt_trichotomy (x - f) st with c | c | c
  · have p0 : F * (st + (x - f) - 1) ≤ F * (2 * (st - 1)) := Int.mul_le_mul_of_nonneg_left (by omega) hF
    have p1 : F * (2 * (st - 1)) = 2 * ((st - 1) * F) := by grind
    have p2 : 0 ≤ (st - (x - f)) * (2 * r - F * (st + (x - f) - 1)) := Int.mul_nonneg (by omega) (by omega)
    omega
  · rw [show f + st = x by omega]; exact Int.le_refl _
  · have p0 : F * (2 * st) ≤ F * (st + (x - f) - 1) := Int.mul_le_mul_of_nonneg_left (by omega) hF
    have p1 : F * (2 * st) = 2 * (st * F) := by grind
    have p2 : 0 ≤ (-(st - (x - f))) * (-(2 * r - F * (st + (x - f) - 1))) := Int.mul_nonneg (by omega) (by omega)
    rw [Int.neg_mul_neg] at p2
    omega
/-- the top lies behind the stretch: its end is the highest -/
theorem qd_up {P R S f t x st : Int} (hP : P ≤ 0) (h1 : (st - 1) * (-2 * P) < qd P R S (f + 1) - qd P R S f) (hst : t - f ≤ st) (hx : f ≤ x) (hxt : x ≤ t) : qd P R S x ≤ qd P R S t := by
  have e := qd_diff P R S f (t - f) (x - f)
  rw [show f + (x - f) = x by omega, show f + (t - f) = t by omega] at e
  generalize qd P R S (f + 1) - qd P R S f = r at h1 e
  have hF : 0 ≤ -2 * P := by omega
  generalize -2 * P = F at h1 e hF
  by_cases c : x = t
  · rw [c]; exact Int.le_refl _
  · have p0 : F * (t - f + (x - f) - 1) ≤ F * (2 * (st - 1)) := Int.mul_le_mul_of_nonneg_left (by omega) hF
    have p1 : F * (2 * (st - 1)) = 2 * ((st - 1) * F) := by grind
    have p2 : 0 ≤ (t - f - (x - f)) * (2 * r - F * (t - f + (x - f) - 1)) := Int.mul_nonneg (by omega) (by omega)
    omega
/-! OFF and what goes beyond the room -/
def offT (A : Int → Int) (x0 x1 w0 w1 x : Int) : Int := w0 * (x1 - x) + w1 * (x - x0) - A x * (x1 - x0)
def exS (wd pl rm x0 x1 off x : Int) : Int := off * pl + (wd * (x - x0) * (x1 - x) - rm * pl) * (x1 - x0)
def exG (A : Int → Int) (wd pl rm x0 x1 w0 w1 sg x : Int) : Int := exS wd pl rm x0 x1 (sg * offT A x0 x1 w0 w1 x) x
def kpt (A : Int → Int) (wd pl rm x0 x1 w0 w1 x : Int) : Prop := exG A wd pl rm x0 x1 w0 w1 1 x ≤ 0 ∧ exG A wd pl rm x0 x1 w0 w1 (-1) x ≤ 0
/-- on a stretch of one curve -/
def strt (A : Int → Int) (f t c : Int) : Prop := ∃ al be : Int, ∀ x, f ≤ x → x ≤ t → A x = c * x * x + al * x + be
theorem ex_quad {A : Int → Int} {wd pl rm x0 x1 w0 w1 sg f t c : Int} (h : strt A f t c) : ∃ R S : Int, ∀ x, f ≤ x → x ≤ t → exG A wd pl rm x0 x1 w0 w1 sg x = qd (-((x1 - x0) * (sg * c * pl + wd))) R S x := by
  obtain ⟨al, be, h⟩ := h
  refine ⟨sg * (-w0 + w1 - al * (x1 - x0)) * pl + wd * (x0 + x1) * (x1 - x0), sg * (w0 * x1 - w1 * x0 - be * (x1 - x0)) * pl - wd * x0 * x1 * (x1 - x0) - rm * pl * (x1 - x0), fun x h1 h2 => ?_⟩
  unfold exG exS offT qd
  rw [h x h1 h2]
  grind
