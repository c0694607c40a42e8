/-! ASIDE -/
def sq (z : Int) : Int := if 0 < z then z * z else 0
def asd (fa fb fk : Nat → Int32) (x : Int) : Nat → Int
  | 0 => 0
  | n + 1 => asd fa fb fk x n + (fk n).toInt * (sq (x - (fa n).toInt) - sq (x - (fb n).toInt))
theorem sq_le {z : Int} (h : z ≤ 0) : sq z = 0 := if_neg (by omega)
theorem sq_pos {z : Int} (h : 0 < z) : sq z = z * z := if_pos h
/-- the bends of one side: in order of places, apart, within the line -/
def bnOk (E : Int) (nb : Nat) (fa fb fk : Nat → Int32) : Prop := nb ≤ 8 ∧ E ≤ 4000 ∧ ∀ i, i < nb → 0 ≤ (fa i).toInt ∧ (fa i).toInt < (fb i).toInt ∧ (fb i).toInt ≤ E ∧ -50 ≤ (fk i).toInt ∧ (fk i).toInt ≤ 50
def bnSo (nb : Nat) (fa fb : Nat → Int32) : Prop := ∀ i, i + 1 < nb → (fb i).toInt ≤ (fa (i + 1)).toInt
theorem bn_mono {E : Int} {nb : Nat} {fa fb fk : Nat → Int32} (h : bnOk E nb fa fb fk) (hs : bnSo nb fa fb) : ∀ d i, i + d < nb → (fa i).toInt ≤ (fa (i + d)).toInt := by
  intro d
  induction d with
  | zero => intro i _; exact Int.le_refl _
  | succ d ih =>
    intro i hi
    have h1 := ih i (by omega)
    have h2 := hs (i + d) (by omega)
    have h3 := (h.2.2 (i + d) (by omega)).2.1
    have e : i + (d + 1) = i + d + 1 := by omega
    rw [e]
    omega
theorem asd_tail {fa fb fk : Nat → Int32} {x : Int} {i : Nat} : ∀ d, (∀ j, i ≤ j → j < i + d → x ≤ (fa j).toInt ∧ (fa j).toInt < (fb j).toInt) → asd fa fb fk x (i + d) = asd fa fb fk x i := by
  intro d
  induction d with
  | zero => intro _; rfl
  | succ d ih =>
    intro h
    show asd fa fb fk x (i + d) + (fk (i + d)).toInt * (sq (x - (fa (i + d)).toInt) - sq (x - (fb (i + d)).toInt)) = _
    rw [ih (fun j h1 h2 => h j h1 (by omega))]
    have h1 := h (i + d) (by omega) (by omega)
    rw [sq_le (by omega), sq_le (by omega)]
    simp
theorem q6_asideOf {Q : Int64 → Prop} {E : Int} {nb : Nat} {fa fb fk : Nat → Int32} (hB : bnOk E nb fa fb fk) (hS : bnSo nb fa fb) {x : Int32} (hx : 0 ≤ x.toInt ∧ x.toInt ≤ 4000) (hq : Q (lI (asd fa fb fk x.toInt nb))) : wp_X6_asideOf Q (nI nb) fa fb fk x := by
  unfold wp_X6_asideOf
  have hn8 := hB.1
  have main : ∀ (d i : Nat), i + d = nb → ∃ n, wl_X6_asideOf_5 Q (nI nb) fa fb fk n x (lI (asd fa fb fk x.toInt i)) (nI i) := by
    intro d
    induction d with
    | zero =>
      intro i hi
      refine ⟨1, ?_⟩
      show wb_X6_asideOf_5 Q _ _ _ _ _ _ _ _
      unfold wb_X6_asideOf_5
      have e : i = nb := by omega
      subst e
      exact ⟨fun _ => hq, fun h => absurd (nI_le (Nat.le_refl i) (by omega)) h⟩
    | succ d ih =>
      intro i hi
      obtain ⟨n, hn⟩ := ih (i + 1) (by omega)
      refine ⟨n + 1, ?_⟩
      show wb_X6_asideOf_5 Q _ _ _ _ _ _ _ _
      unfold wb_X6_asideOf_5
      have hin : vp_in (nI i) 8 := vp_nI (by omega) (by omega)
      have hcl : (nI i).toNatClampNeg = i := cl_nI (by omega)
      obtain ⟨b1, b2, b3, b4, b5⟩ := hB.2.2 i (by omega)
      have hE := hB.2.1
      refine ⟨fun h => absurd h (nI_ge (by omega) (by omega)), fun _ => ⟨hin, ?_⟩⟩
      rw [hcl]
      refine ⟨fun h => ?_, fun h => ⟨hin, fun y hy => ⟨hin, ?_⟩⟩⟩
      · rw [x_le] at h
        have e := asd_tail (fa := fa) (fb := fb) (fk := fk) (x := x.toInt) (i := i) (d + 1) (fun j h1 h2 => by
          have h3 := bn_mono hB hS (j - i) i (by omega)
          rw [show i + (j - i) = j by omega] at h3
          have h4 := (hB.2.2 j (by omega)).2.1
          omega)
        rw [show i + (d + 1) = nb by omega] at e
        rw [e] at hq
        exact hq
      · rw [x_le] at h
        have e5 : y = lI (x.toInt - (fa i).toInt) := by
          rw [hy, x_l, x_sub (by omega)]
        have fin : ∀ k : Int64, k = lI (if (fb i).toInt < x.toInt then x.toInt - (fb i).toInt else 0) → wb_X6_asideOf_62 Q (nI nb) fa fb fk (wl_X6_asideOf_5 Q (nI nb) fa fb fk n) x (lI (asd fa fb fk x.toInt i)) (nI i) y k := by
          intro k hk
          unfold wb_X6_asideOf_62
          refine ⟨hin, fun z hz w hw => ?_⟩
          rw [hcl] at hz
          have ez : z = lI (asd fa fb fk x.toInt (i + 1)) := by
            rw [hz, e5, hk, x_l, lI_mul, lI_mul, lI_sub, lI_mul, lI_add]
            congr 1
            show _ = asd fa fb fk x.toInt i + _
            congr 2
            rw [sq_pos (by omega)]
            congr 1
            by_cases hb : (fb i).toInt < x.toInt
            · rw [if_pos hb, sq_pos (by omega)]
            · rw [if_neg hb, sq_le (by omega)]; rfl
          rw [ez, hw, nI_1]
          exact hn
        refine ⟨fun h2 => fin _ ?_, fun h2 => ⟨hin, fin _ ?_⟩⟩
        · rw [x_le] at h2
          rw [if_neg (by omega)]; rfl
        · rw [x_le] at h2
          rw [if_pos (by omega), x_l, x_sub (by omega)]
  exact main nb 0 (by omega)
/-- the table of ASIDE: laid, or not yet -/
def ldOk (E : Int) (nb : Nat) (fa fb fk : Nat → Int32) (isL : Int32) (fs : Nat → Int64) : Prop := isL = 0 ∨ (isL = 1 ∧ ∀ y : Nat, (y : Int) ≤ E → fs y = lI (asd fa fb fk y nb))
theorem q8_square {Q : Int64 → Prop} {x : Int32} (hq : Q (lI (sq x.toInt))) : wp_X8_square Q x := by
  unfold wp_X8_square
  refine ⟨fun h => ?_, fun h => ?_⟩
  · rw [x_le, zt_0] at h; rw [sq_le h] at hq; exact hq
  · rw [x_le, zt_0] at h; rw [sq_pos (by omega)] at hq; rw [x_l, lI_mul]; exact hq
theorem q8_asideAt {Q : Int64 → Int32 → (Nat → Int64) → Prop} {v8_length : Int32} {E : Int} (hE : v8_length.toInt = E) (hE0 : 0 ≤ E) {nb : Nat} {fa fb fk : Nat → Int32} (hB : bnOk E nb fa fb fk) {isL : Int32} {fs : Nat → Int64} (hL : ldOk E nb fa fb fk isL fs) {x : Int32} (hx : 0 ≤ x.toInt ∧ x.toInt ≤ E) (hq : ∀ isL' fs', ldOk E nb fa fb fk isL' fs' → Q (lI (asd fa fb fk x.toInt nb)) isL' fs') : wp_X8_asideAt Q v8_length (nI nb) fa fb fk isL fs x := by
  unfold wp_X8_asideAt
  have hE4 := hB.2.1
  have hn8 := hB.1
  have fin : ∀ isL' fs', isL' = 1 → (∀ y : Nat, (y : Int) ≤ E → fs' y = lI (asd fa fb fk y nb)) → wb_X8_asideAt_91 Q v8_length (nI nb) fa fb fk isL' fs' x := by
    intro isL' fs' h1 h2
    unfold wb_X8_asideAt_91
    have ex := x_of0 hx.1
    have hc : x.toNatClampNeg = x.toInt.toNat := by rw [ex, cl_nI (by omega), ← ex]
    refine ⟨vp_in_iff.mpr (by omega), ?_⟩
    rw [hc, h2 _ (by omega), show ((x.toInt.toNat : Nat) : Int) = x.toInt by omega]
    exact hq _ _ (Or.inr ⟨h1, h2⟩)
  refine ⟨fun h0 => ?_, fun h0 => ?_⟩
  · -- lay the table
    have inner : ∀ (K : Int32 → (Nat → Int64) → Int32 → Int32 → Prop) (y : Nat), (y : Int) ≤ E → ∀ (d i : Nat) (g : Nat → Int64), i + d = nb → g y = lI (asd fa fb fk y i) → (∀ g' : Nat → Int64, (∀ j, j ≠ y → g' j = g j) → g' y = lI (asd fa fb fk y nb) → K isL g' x (nI (y + 1))) → ∃ n, wl_X8_asideAt_26 Q v8_length (nI nb) fa fb fk K n isL g x (nI y) (nI i) := by
      intro K y hy d
      induction d with
      | zero =>
        intro i g hi hg hk
        refine ⟨1, ?_⟩
        show wb_X8_asideAt_26 Q _ _ _ _ _ _ _ _ _ _ _ _
        unfold wb_X8_asideAt_26
        have e : i = nb := by omega
        subst e
        refine ⟨fun _ z hz => ?_, fun h => absurd (nI_le (Nat.le_refl i) (by omega)) h⟩
        rw [hz, nI_1]
        exact hk g (fun j _ => rfl) hg
      | succ d ih =>
        intro i g hi hg hk
        have hiy : vp_in (nI y) 4001 := vp_nI (by omega) (by omega)
        have hii : vp_in (nI i) 8 := vp_nI (by omega) (by omega)
        have hcy : (nI y).toNatClampNeg = y := cl_nI (by omega)
        have hci : (nI i).toNatClampNeg = i := cl_nI (by omega)
        obtain ⟨b1, b2, b3, b4, b5⟩ := hB.2.2 i (by omega)
        obtain ⟨n, hn⟩ := ih (i + 1) (vp_updL g y (lI (asd fa fb fk y (i + 1)))) (by omega) pk_uLs (fun g' h1 h2 => hk g' (fun j hj => by rw [h1 j hj, pk_uLn hj]) h2)
        refine ⟨n + 1, ?_⟩
        show wb_X8_asideAt_26 Q _ _ _ _ _ _ _ _ _ _ _ _
        unfold wb_X8_asideAt_26
        refine ⟨fun h => absurd h (nI_ge (by omega) (by omega)), fun _ => ⟨hiy, hii, hii, ?_⟩⟩
        rw [hci, hcy]
        refine q8_square ⟨hii, q8_square (fun z hz => ⟨hiy, fun g2 hg2 w hw => ?_⟩)⟩
        rw [x_sub (by rw [nI_t (by omega)]; omega), x_sub (by rw [nI_t (by omega)]; omega), nI_t (by omega), hg, x_l, lI_sub, lI_mul, lI_add] at hz
        rw [hg2, hw, nI_1, hz]
        exact hn
    have outer : ∀ (d y : Nat) (g : Nat → Int64), (y : Int) + d = E + 1 → (∀ j : Nat, j < y → g j = lI (asd fa fb fk j nb)) → ∃ n, wl_X8_asideAt_9 Q v8_length (nI nb) fa fb fk n isL g x (nI y) := by
      intro d
      induction d with
      | zero =>
        intro y g hy hg
        refine ⟨1, ?_⟩
        show wb_X8_asideAt_9 Q _ _ _ _ _ _ _ _ _ _
        unfold wb_X8_asideAt_9
        refine ⟨fun _ => fin _ _ rfl (fun j hj => hg j (by omega)), fun h => absurd ?_ h⟩
        rw [x_lt, nI_t (by omega), hE]
        omega
      | succ d ih =>
        intro y g hy hg
        have hiy : vp_in (nI y) 4001 := vp_nI (by omega) (by omega)
        have hcy : (nI y).toNatClampNeg = y := cl_nI (by omega)
        -- the rest, as a family over tables
        have rest : ∀ g' : Nat → Int64, (∀ j, j ≠ y → g' j = vp_updL g y 0 j) → g' y = lI (asd fa fb fk y nb) → ∃ n, wl_X8_asideAt_9 Q v8_length (nI nb) fa fb fk n isL g' x (nI (y + 1)) := by
          intro g' h1 h2
          refine ih (y + 1) g' (by omega) (fun j hj => ?_)
          by_cases e : j = y
          · rw [e]; exact h2
          · rw [h1 j e, pk_uLn e]; exact hg j (by omega)
        -- one depth for all: the final table is one
        have one : ∃ gF : Nat → Int64, gF = (fun j => if j = y then lI (asd fa fb fk y nb) else g j) := ⟨_, rfl⟩
        obtain ⟨gF, hgF⟩ := one
        obtain ⟨n, hn⟩ := rest gF (fun j hj => by rw [hgF, pk_uLn hj]; exact if_neg hj) (by rw [hgF]; exact if_pos rfl)
        have inn := inner (wl_X8_asideAt_9 Q v8_length (nI nb) fa fb fk n) y (by omega) nb 0 (vp_updL g y 0) (by omega) pk_uLs (fun g' h1 h2 => by
          have e : g' = gF := by
            funext j
            rw [hgF]
            by_cases e : j = y
            · rw [e, h2]; exact (if_pos rfl).symm
            · rw [h1 j e, pk_uLn e]; exact (if_neg e).symm
          rw [e]; exact hn)
        refine ⟨n + 1, ?_⟩
        show wb_X8_asideAt_9 Q _ _ _ _ _ _ _ _ _ _
        unfold wb_X8_asideAt_9
        refine ⟨fun h => ?_, fun _ => ⟨hiy, fun g5 hg5 => ?_⟩⟩
        · rw [x_lt, nI_t (by omega), hE] at h; omega
        · rw [hcy] at hg5
          rw [hg5]
          exact inn
    exact outer (E + 1).toNat 0 fs (by omega) (fun j hj => by omega)
  · rcases hL with h1 | ⟨h1, h2⟩
    · exact absurd h1 h0
    · exact fin _ _ h1 h2
