/-! the track over a stretch, and bounds -/
theorem sq_b {z : Int} (h : z ≤ 4000) : 0 ≤ sq z ∧ sq z ≤ 16000000 := by
  unfold sq
  split
  · have := ab_mul (a := z) (b := z) (A := 4000) (B := 4000) (by omega) (by omega)
    exact ⟨Int.mul_nonneg (by omega) (by omega), by omega⟩
  · omega
theorem asd_b {E : Int} {nb : Nat} {fa fb fk : Nat → Int32} (hB : bnOk E nb fa fb fk) {x : Int} (hx : x ≤ 4000) : ∀ n : Nat, n ≤ nb → -(800000000 * (n : Int)) ≤ asd fa fb fk x n ∧ asd fa fb fk x n ≤ 800000000 * (n : Int) := by
  intro n
  induction n with
  | zero => intro _; simp [asd]
  | succ n ih =>
    intro hn
    have h1 := ih (by omega)
    obtain ⟨b1, b2, b3, b4, b5⟩ := hB.2.2 n (by omega)
    have s1 := sq_b (z := x - (fa n).toInt) (by omega)
    have s2 := sq_b (z := x - (fb n).toInt) (by omega)
    have t := ab_mul (a := (fk n).toInt) (b := sq (x - (fa n).toInt) - sq (x - (fb n).toInt)) (A := 50) (B := 16000000) (by omega) (by omega)
    show _ ≤ asd fa fb fk x n + (fk n).toInt * (sq (x - (fa n).toInt) - sq (x - (fb n).toInt)) ∧ asd fa fb fk x n + (fk n).toInt * (sq (x - (fa n).toInt) - sq (x - (fb n).toInt)) ≤ _
    omega
theorem asd_bb {E : Int} {nb : Nat} {fa fb fk : Nat → Int32} (hB : bnOk E nb fa fb fk) {x : Int} (hx : x ≤ 4000) : -6400000000 ≤ asd fa fb fk x nb ∧ asd fa fb fk x nb ≤ 6400000000 := by
  have := asd_b hB hx nb (Nat.le_refl _)
  have := hB.1
  omega
theorem strt_add {A B : Int → Int} {f t c d : Int} (h1 : strt A f t c) (h2 : strt B f t d) : strt (fun x => A x + B x) f t (c + d) := by
  obtain ⟨a1, b1, h1⟩ := h1
  obtain ⟨a2, b2, h2⟩ := h2
  refine ⟨a1 + a2, b1 + b2, fun x q1 q2 => ?_⟩
  show A x + B x = _
  rw [h1 x q1 q2, h2 x q1 q2]
  grind
theorem strt_far {a b k f t : Int} (hab : a < b) (h : b ≤ f ∨ t ≤ a) : strt (fun x => k * (sq (x - a) - sq (x - b))) f t 0 := by
  rcases h with h | h
  · refine ⟨k * (2 * (b - a)), k * (a * a - b * b), fun x q1 q2 => ?_⟩
    show k * (sq (x - a) - sq (x - b)) = _
    rw [sq_pos (by omega)]
    by_cases c : x = b
    · rw [sq_le (by omega), c]; grind
    · rw [sq_pos (by omega)]; grind
  · refine ⟨0, 0, fun x q1 q2 => ?_⟩
    show k * (sq (x - a) - sq (x - b)) = _
    rw [sq_le (by omega), sq_le (by omega)]; grind
theorem strt_in {a b k f t : Int} (hab : a < b) (h1 : a ≤ f) (h2 : t ≤ b) : strt (fun x => k * (sq (x - a) - sq (x - b))) f t k := by
  refine ⟨k * (-2 * a), k * (a * a), fun x q1 q2 => ?_⟩
  show k * (sq (x - a) - sq (x - b)) = _
  rw [sq_le (show x - b ≤ 0 by omega)]
  by_cases c : x = a
  · rw [sq_le (by omega), c]; grind
  · rw [sq_pos (by omega)]; grind
theorem strt_gap {fa fb fk : Nat → Int32} {f t : Int} : ∀ n, (∀ i, i < n → (fa i).toInt < (fb i).toInt ∧ ((fb i).toInt ≤ f ∨ t ≤ (fa i).toInt)) → strt (fun x => asd fa fb fk x n) f t 0 := by
  intro n
  induction n with
  | zero => intro _; exact ⟨0, 0, fun x _ _ => by show (0 : Int) = _; grind⟩
  | succ n ih =>
    intro h
    have h1 := ih (fun i hi => h i (by omega))
    obtain ⟨q1, q2⟩ := h n (by omega)
    exact strt_add h1 (strt_far (k := (fk n).toInt) q1 q2)
theorem strt_bend {fa fb fk : Nat → Int32} {f t : Int} {m : Nat} (hm : (fa m).toInt < (fb m).toInt ∧ (fa m).toInt ≤ f ∧ t ≤ (fb m).toInt) : ∀ n, m < n → (∀ i, i < n → i ≠ m → (fa i).toInt < (fb i).toInt ∧ ((fb i).toInt ≤ f ∨ t ≤ (fa i).toInt)) → strt (fun x => asd fa fb fk x n) f t (fk m).toInt := by
  intro n
  induction n with
  | zero => intro h; exact absurd h (Nat.not_lt_zero _)
  | succ n ih =>
    intro h hall
    by_cases c : m = n
    · subst c
      have h1 := strt_gap (fa := fa) (fb := fb) (fk := fk) (f := f) (t := t) m (fun i hi => hall i (by omega) (by omega))
      have h2 := strt_add h1 (strt_in (k := (fk m).toInt) hm.1 hm.2.1 hm.2.2)
      rw [Int.zero_add] at h2
      exact h2
    · have h1 := ih (by omega) (fun i hi hne => hall i (by omega) hne)
      obtain ⟨q1, q2⟩ := hall n (by omega) (fun q => c q.symm)
      have h2 := strt_add h1 (strt_far (k := (fk n).toInt) q1 q2)
      rw [Int.add_zero] at h2
      exact h2
/-- a span, laid: its ends, and the wire there -/
def spI (x0 x1 W0 W1 : Int) : Prop := 0 ≤ x0 ∧ x0 < x1 ∧ x1 ≤ 4000 ∧ -6400800000 ≤ W0 ∧ W0 ≤ 6400800000 ∧ -6400800000 ≤ W1 ∧ W1 ≤ 6400800000
/-- wind, pull, room -/
def swI (wd pl rm : Int) : Prop := 0 ≤ wd ∧ wd ≤ 500 ∧ 1000 ≤ pl ∧ pl ≤ 20000 ∧ 0 ≤ rm ∧ rm ≤ 2000000
theorem off_b {A : Int → Int} {x0 x1 W0 W1 x : Int} (h : spI x0 x1 W0 W1) (hx : x0 ≤ x ∧ x ≤ x1) (hA : -6400000000 ≤ A x ∧ A x ≤ 6400000000) : -80000000000000 ≤ offT A x0 x1 W0 W1 x ∧ offT A x0 x1 W0 W1 x ≤ 80000000000000 := by
  obtain ⟨h1, h2, h3, h4, h5, h6, h7⟩ := h
  have a1 := ab_mul (a := W0) (b := x1 - x) (A := 6400800000) (B := 4000) (by omega) (by omega)
  have a2 := ab_mul (a := W1) (b := x - x0) (A := 6400800000) (B := 4000) (by omega) (by omega)
  have a3 := ab_mul (a := A x) (b := x1 - x0) (A := 6400000000) (B := 4000) (by omega) (by omega)
  unfold offT
  omega
theorem exS_b {wd pl rm x0 x1 W0 W1 o x : Int} (h : spI x0 x1 W0 W1) (hs : swI wd pl rm) (hx : x0 ≤ x ∧ x ≤ x1) (ho : -80000000000000 ≤ o ∧ o ≤ 80000000000000) : -1700000000000000000 ≤ exS wd pl rm x0 x1 o x ∧ exS wd pl rm x0 x1 o x ≤ 1700000000000000000 := by
  obtain ⟨h1, h2, h3, -⟩ := h
  obtain ⟨s1, s2, s3, s4, s5, s6⟩ := hs
  have a1 := ab_mul (a := o) (b := pl) (A := 80000000000000) (B := 20000) (by omega) (by omega)
  have a2 := ab_mul (a := wd) (b := x - x0) (A := 500) (B := 4000) (by omega) (by omega)
  have a3 := ab_mul (a := wd * (x - x0)) (b := x1 - x) (A := 2000000) (B := 4000) (by omega) (by omega)
  have a4 := ab_mul (a := rm) (b := pl) (A := 2000000) (B := 20000) (by omega) (by omega)
  have a5 := ab_mul (a := wd * (x - x0) * (x1 - x) - rm * pl) (b := x1 - x0) (A := 48000000000) (B := 4000) (by omega) (by omega)
  unfold exS
  omega
theorem exG_b {A : Int → Int} {wd pl rm x0 x1 W0 W1 sg x : Int} (h : spI x0 x1 W0 W1) (hs : swI wd pl rm) (hx : x0 ≤ x ∧ x ≤ x1) (hA : -6400000000 ≤ A x ∧ A x ≤ 6400000000) (hsg : sg = 1 ∨ sg = -1) : -1700000000000000000 ≤ exG A wd pl rm x0 x1 W0 W1 sg x ∧ exG A wd pl rm x0 x1 W0 W1 sg x ≤ 1700000000000000000 := by
  have o := off_b h hx hA
  exact exS_b h hs hx (by rcases hsg with rfl | rfl <;> omega)
/-- kept: by the size of OFF -/
theorem kpt_abs {A : Int → Int} {wd pl rm x0 x1 W0 W1 x : Int} (hpl : 0 < pl) : kpt A wd pl rm x0 x1 W0 W1 x ↔ exS wd pl rm x0 x1 ((offT A x0 x1 W0 W1 x).natAbs : Int) x ≤ 0 := by
  unfold kpt exG exS
  generalize offT A x0 x1 W0 W1 x = o
  generalize (wd * (x - x0) * (x1 - x) - rm * pl) * (x1 - x0) = z
  rw [Int.one_mul, Int.neg_one_mul]
  rcases Int.le_total 0 o with c | c
  · have e : ((o.natAbs : Nat) : Int) = o := by omega
    rw [e]
    have := Int.mul_nonneg c (show 0 ≤ pl by omega)
    rw [Int.neg_mul]
    omega
  · have e : ((o.natAbs : Nat) : Int) = -o := by omega
    rw [e]
    have := Int.mul_nonneg (show 0 ≤ -o by omega) (show 0 ≤ pl by omega)
    rw [Int.neg_mul] at this ⊢
    omega
