/-! the simple calls -/
theorem q7_if {A B : Prop} {a b c : Int32} (lo hi : Int) (hb : b.toInt = lo) (hc : c.toInt = hi) (hB : lo ≤ a.toInt ∧ a.toInt ≤ hi → B) (hA : ¬ (lo ≤ a.toInt ∧ a.toInt ≤ hi) → A) : wp_X7_within (fun r => (r = 0 → A) ∧ (¬ r = 0 → B)) a b c := by
  subst hb hc
  exact q7_within (fun h => ⟨fun e => absurd e n10, fun _ => hB h⟩) (fun h => ⟨fun _ => hA h, fun e => absurd rfl e⟩)
theorem q8_if {A B : Prop} {a b c : Int32} (lo hi : Int) (hb : b.toInt = lo) (hc : c.toInt = hi) (hB : lo ≤ a.toInt ∧ a.toInt ≤ hi → B) (hA : ¬ (lo ≤ a.toInt ∧ a.toInt ≤ hi) → A) : wp_X8_in (fun r => (r = 0 → A) ∧ (¬ r = 0 → B)) a b c := by
  subst hb hc
  exact q8_in (fun h => ⟨fun e => absurd e n10, fun _ => hB h⟩) (fun h => ⟨fun _ => hA h, fun e => absurd rfl e⟩)
theorem q7_carrier {Q : Int32 → Int32 → Int32 → Int32 → Int32 → Int32 → Prop} {T o D ld hg a b c d e : Int32} (h1 : crOk a b c d e → Q 1 a b c d e) (h0 : ¬ crOk a b c d e → Q (-2) T o D ld hg) : wp_X7_carrier Q T o D ld hg a b c d e := by
  have f57 : ∀ y k : Int32, (¬ y = 0 → ¬ k = 0 → 500 ≤ e.toInt ∧ e.toInt ≤ 3000 → crOk a b c d e) → (crOk a b c d e → ¬ y = 0 ∧ ¬ k = 0) → wb_X7_carrier_57 Q T o D ld hg a b c d e y k := by
    intro y k g1 g2
    unfold wb_X7_carrier_57
    refine ⟨fun z => h0 (fun h => (g2 h).1 z), fun z => ⟨fun w => h0 (fun h => (g2 h).2 w), fun w => q7_if 500 3000 rfl rfl (fun r => h1 (g1 z w r)) (fun r => h0 (fun h => r ⟨h.2.2.2.2.2.2.2.2.1, h.2.2.2.2.2.2.2.2.2⟩))⟩⟩
  have f28 : ∀ y : Int32, (¬ y = 0 → (1000 ≤ a.toInt ∧ a.toInt ≤ 20000) ∧ (1 ≤ b.toInt ∧ b.toInt ≤ 50)) → (crOk a b c d e → ¬ y = 0) → wb_X7_carrier_28 Q T o D ld hg a b c d e y := by
    intro y g1 g2
    unfold wb_X7_carrier_28 wb_X7_carrier_56
    refine q7_if 1 12 rfl rfl (fun r => q7_if 1 2000 rfl rfl (fun s => ?_) (fun s => ?_)) (fun r => ?_)
    · exact f57 _ _ (fun z _ t => ⟨(g1 z).1.1, (g1 z).1.2, (g1 z).2.1, (g1 z).2.2, r.1, r.2, s.1, s.2, t.1, t.2⟩) (fun h => ⟨g2 h, n10⟩)
    · exact f57 _ _ (fun z w => absurd rfl w) (fun h => absurd ⟨h.2.2.2.2.2.2.1, h.2.2.2.2.2.2.2.1⟩ s)
    · exact f57 _ _ (fun z w => absurd rfl w) (fun h => absurd ⟨h.2.2.2.2.1, h.2.2.2.2.2.1⟩ r)
  unfold wp_X7_carrier wb_X7_carrier_27
  refine q7_if 1000 20000 rfl rfl (fun r => q7_if 1 50 rfl rfl (fun s => ?_) (fun s => ?_)) (fun r => ?_)
  · exact f28 _ (fun _ => ⟨r, s⟩) (fun _ => n10)
  · exact f28 _ (fun z => absurd rfl z) (fun h => absurd ⟨h.2.2.1, h.2.2.2.1⟩ s)
  · exact f28 _ (fun z => absurd rfl z) (fun h => absurd ⟨h.1, h.2.1⟩ r)
theorem q8_carrier {Q : Int32 → Int32 → Int32 → Int32 → Int32 → Int32 → Prop} {T o D ld hg a b c d e : Int32} (h1 : crOk a b c d e → Q 1 a b c d e) (h0 : ¬ crOk a b c d e → Q (-2) T o D ld hg) : wp_X8_carrier Q T o D ld hg a b c d e := by
  have f0 : ¬ crOk a b c d e → wb_X8_carrier_63 Q T o D ld hg a b c d e := fun h => by
    unfold wb_X8_carrier_63 wb_X8_carrier_64
    exact ⟨fun _ => h0 h, fun z => absurd rfl z⟩
  unfold wp_X8_carrier
  refine q8_if 1000 20000 rfl rfl (fun r => q8_if 1 50 rfl rfl (fun s => q8_if 1 12 rfl rfl (fun t => q8_if 1 2000 rfl rfl (fun u => q8_if 500 3000 rfl rfl (fun v => ?_) (fun v => ?_)) (fun u => ?_)) (fun t => ?_)) (fun s => ?_)) (fun r => ?_)
  · unfold wb_X8_carrier_64
    exact ⟨fun z => absurd z n10, fun _ => h1 ⟨r.1, r.2, s.1, s.2, t.1, t.2, u.1, u.2, v.1, v.2⟩⟩
  · exact f0 (fun h => v ⟨h.2.2.2.2.2.2.2.2.1, h.2.2.2.2.2.2.2.2.2⟩)
  · exact f0 (fun h => u ⟨h.2.2.2.2.2.2.1, h.2.2.2.2.2.2.2.1⟩)
  · exact f0 (fun h => t ⟨h.2.2.2.2.1, h.2.2.2.2.2.1⟩)
  · exact f0 (fun h => s ⟨h.2.2.1, h.2.2.2.1⟩)
  · exact f0 (fun h => r ⟨h.1, h.2.1⟩)
def swOk (w p b s r : Int32) : Prop := 0 ≤ w.toInt ∧ w.toInt ≤ 500 ∧ 1000 ≤ p.toInt ∧ p.toInt ≤ 20000 ∧ 100 ≤ b.toInt ∧ b.toInt ≤ 1000 ∧ 0 ≤ s.toInt ∧ s.toInt ≤ 99 ∧ s.toInt < b.toInt ∧ 20 ≤ r.toInt ∧ r.toInt ≤ 800
def rmI (b s : Int32) : Int32 := iI (2000 * (b.toInt - s.toInt))
theorem q7_bow {Q : Int32 → Int32 → Int32 → Int32 → Int32 → Prop} {v1 v2 v3 v4 a b c d e : Int32} (h1 : swOk a b c d e → Q 1 a b (rmI c d) e) (h0 : ¬ swOk a b c d e → Q (-2) v1 v2 v3 v4) : wp_X7_bow Q v1 v2 v3 v4 a b c d e := by
  have f65 : ∀ y k : Int32, (¬ y = 0 → ¬ k = 0 → 20 ≤ e.toInt ∧ e.toInt ≤ 800 → swOk a b c d e) → (swOk a b c d e → ¬ y = 0 ∧ ¬ k = 0) → wb_X7_bow_65 Q v1 v2 v3 v4 a b c d e y k := by
    intro y k g1 g2
    unfold wb_X7_bow_65
    refine ⟨fun z => h0 (fun h => (g2 h).1 z), fun z => ⟨fun w => h0 (fun h => (g2 h).2 w), fun w => q7_if 20 800 rfl rfl (fun r x hx => ?_) (fun r => h0 (fun h => r ⟨h.2.2.2.2.2.2.2.2.2.1, h.2.2.2.2.2.2.2.2.2.2⟩))⟩⟩
    have h := g1 z w r
    have e : x = rmI c d := by
      rw [hx, iI_of c, iI_of d, iI_sub, show (2000 : Int32) = iI 2000 from rfl, iI_mul]
      unfold rmI
      rw [iI_t (iI_rng c), iI_t (iI_rng d)]
    rw [e]
    exact h1 h
  have f29 : ∀ y : Int32, (¬ y = 0 → (0 ≤ a.toInt ∧ a.toInt ≤ 500) ∧ (1000 ≤ b.toInt ∧ b.toInt ≤ 20000)) → (swOk a b c d e → ¬ y = 0) → wb_X7_bow_29 Q v1 v2 v3 v4 a b c d e y := by
    intro y g1 g2
    unfold wb_X7_bow_29 wb_X7_bow_64
    refine q7_if 100 1000 rfl rfl (fun r => q7_if 0 99 rfl rfl (fun s => ⟨fun t => ?_, fun t => ?_⟩) (fun s => ?_)) (fun r => ?_)
    · rw [x_le] at t
      exact f65 _ _ (fun z w => absurd rfl w) (fun h => absurd h.2.2.2.2.2.2.2.2.1 (by omega))
    · rw [x_le] at t
      exact f65 _ _ (fun z _ q => ⟨(g1 z).1.1, (g1 z).1.2, (g1 z).2.1, (g1 z).2.2, r.1, r.2, s.1, s.2, by omega, q.1, q.2⟩) (fun h => ⟨g2 h, n10⟩)
    · exact f65 _ _ (fun z w => absurd rfl w) (fun h => absurd ⟨h.2.2.2.2.2.2.1, h.2.2.2.2.2.2.2.1⟩ s)
    · exact f65 _ _ (fun z w => absurd rfl w) (fun h => absurd ⟨h.2.2.2.2.1, h.2.2.2.2.2.1⟩ r)
  unfold wp_X7_bow wb_X7_bow_28
  refine q7_if 0 500 rfl rfl (fun r => q7_if 1000 20000 rfl rfl (fun s => ?_) (fun s => ?_)) (fun r => ?_)
  · exact f29 _ (fun _ => ⟨r, s⟩) (fun _ => n10)
  · exact f29 _ (fun z => absurd rfl z) (fun h => absurd ⟨h.2.2.1, h.2.2.2.1⟩ s)
  · exact f29 _ (fun z => absurd rfl z) (fun h => absurd ⟨h.1, h.2.1⟩ r)
theorem q8_bow {Q : Int32 → Int32 → Int32 → Int32 → Int32 → Int32 → Prop} {v1 v2 v3 v4 v5 a b c d e : Int32} (h1 : swOk a b c d e → Q 1 a b c d e) (h0 : ¬ swOk a b c d e → Q (-2) v1 v2 v3 v4 v5) : wp_X8_bow Q v1 v2 v3 v4 v5 a b c d e := by
  have f0 : ¬ swOk a b c d e → wb_X8_bow_64 Q v1 v2 v3 v4 v5 a b c d e := fun h => by
    unfold wb_X8_bow_64 wb_X8_bow_65
    exact ⟨fun _ => h0 h, fun z => absurd rfl z⟩
  unfold wp_X8_bow
  refine q8_if 0 500 rfl rfl (fun r => q8_if 1000 20000 rfl rfl (fun s => q8_if 100 1000 rfl rfl (fun t => q8_if 0 99 rfl rfl (fun u => q8_if 20 800 rfl rfl (fun v => ?_) (fun v => ?_)) (fun u => ?_)) (fun t => ?_)) (fun s => ?_)) (fun r => ?_)
  · unfold wb_X8_bow_65
    refine ⟨fun z => absurd z n10, fun _ => ⟨fun z => ?_, fun z => ?_⟩⟩
    · rw [x_lt] at z
      exact h1 ⟨r.1, r.2, s.1, s.2, t.1, t.2, u.1, u.2, z, v.1, v.2⟩
    · rw [x_lt] at z
      exact h0 (fun h => z h.2.2.2.2.2.2.2.2.1)
  · exact f0 (fun h => v ⟨h.2.2.2.2.2.2.2.2.2.1, h.2.2.2.2.2.2.2.2.2.2⟩)
  · exact f0 (fun h => u ⟨h.2.2.2.2.2.2.1, h.2.2.2.2.2.2.2.1⟩)
  · exact f0 (fun h => t ⟨h.2.2.2.2.1, h.2.2.2.2.2.1⟩)
  · exact f0 (fun h => s ⟨h.2.2.1, h.2.2.2.1⟩)
  · exact f0 (fun h => r ⟨h.1, h.2.1⟩)
/-! sag, dropper, cut, bears, heat -/
def rfD (D a b c : Int32) : Int32 := if 0 ≤ b.toInt ∧ b.toInt < D.toInt then (if (1 ≤ a.toInt ∧ a.toInt ≤ 800) ∧ (0 ≤ c.toInt ∧ c.toInt ≤ 1) then 0 else -2) else -1
theorem q7_refusal {Q : Int32 → Prop} {D a b c : Int32} (hq : Q (rfD D a b c)) : wp_X7_refusalOfDropper Q D a b c := by
  unfold wp_X7_refusalOfDropper
  unfold rfD at hq
  refine ⟨fun h => ?_, fun h => ⟨fun h' => ?_, fun h' => ?_⟩⟩
  · rw [x_lt, zt_0] at h
    rw [if_neg (by omega)] at hq; exact hq
  · rw [x_lt, zt_0] at h
    rw [x_lt] at h'
    rw [if_pos (by omega)] at hq
    refine q7_if 1 800 rfl rfl (fun r => q7_if 0 1 rfl rfl (fun s => ?_) (fun s => ?_)) (fun r => ?_)
    · rw [if_pos ⟨r, s⟩] at hq; exact hq
    · rw [if_neg (fun q => s q.2)] at hq; exact hq
    · rw [if_neg (fun q => r q.1)] at hq; exact hq
  · rw [x_lt, zt_0] at h
    rw [x_lt] at h'
    rw [if_neg (by omega)] at hq; exact hq
theorem q8_barsSag {Q : Int64 → Prop} {D a b c : Int32} (hD : 1 ≤ D.toInt ∧ D.toInt ≤ 12) (hq : Q (if rfD D a b c = 0 then 0 else (-1000000000000000 : Int64) + (rfD D a b c).toInt64)) : wp_X8_barsSag Q D a b c := by
  unfold wp_X8_barsSag
  have e1 : (D - 1).toInt = D.toInt - 1 := by rw [x_sub (by rw [zt_1]; omega), zt_1]
  have e : ∀ v : Int32, rfD D a b c = v → Q (if v = 0 then 0 else (-1000000000000000 : Int64) + v.toInt64) := fun v hv => by rw [hv] at hq; exact hq
  refine q8_if 0 (D.toInt - 1) rfl e1 (fun q => q8_if 1 800 rfl rfl (fun r => q8_if 0 1 rfl rfl (fun s => ?_) (fun s => ?_)) (fun r => ?_)) (fun q => ?_)
  · exact e 0 (by unfold rfD; rw [if_pos (show 0 ≤ b.toInt ∧ b.toInt < D.toInt by omega), if_pos ⟨r, s⟩])
  · exact e (-2) (by unfold rfD; rw [if_pos (show 0 ≤ b.toInt ∧ b.toInt < D.toInt by omega), if_neg (fun z => s z.2)])
  · exact e (-2) (by unfold rfD; rw [if_pos (show 0 ≤ b.toInt ∧ b.toInt < D.toInt by omega), if_neg (fun z => r z.1)])
  · exact e (-1) (by unfold rfD; rw [if_neg (show ¬ (0 ≤ b.toInt ∧ b.toInt < D.toInt) by omega)])
theorem rfD_0 {D a b c : Int32} (h : rfD D a b c = 0) : (0 ≤ b.toInt ∧ b.toInt < D.toInt) ∧ (1 ≤ a.toInt ∧ a.toInt ≤ 800) ∧ (0 ≤ c.toInt ∧ c.toInt ≤ 1) := by
  unfold rfD at h
  split at h
  · split at h
    · rename_i q r; exact ⟨q, r⟩
    · exact absurd h (by decide)
  · exact absurd h (by decide)
theorem rfD_n {D a b c : Int32} (h : ¬ rfD D a b c = 0) : ¬ (0 : Int64) ≤ (-1000000000000000 : Int64) + (rfD D a b c).toInt64 := by
  unfold rfD at h ⊢
  split at h
  · split at h
    · exact absurd rfl h
    · rename_i q r; rw [if_pos q, if_neg r]; decide
  · rename_i q; rw [if_neg q]; decide
theorem r_sag {J0 : Prop} {T o D ld hg a b c : Int32} (h : crOk T o D ld hg) (hJ : J0) : wp_X7_sag (fun r1 => wp_X8_sag (fun r2 => r1 = r2 ∧ J0) T o D ld a b c) T o D ld a b c := by
  have hD : 1 ≤ D.toInt ∧ D.toInt ≤ 12 := ⟨h.2.2.2.2.1, h.2.2.2.2.2.1⟩
  have hL := sgL_b h
  unfold wp_X7_sag wp_X8_sag
  refine q7_refusal ⟨fun z => ?_, fun z => ?_⟩
  · obtain ⟨z1, z2, z3⟩ := rfD_0 z
    have hU := sgU_b h (l := a.toInt) (i := b.toInt) (by omega) z1
    refine q0_sagUpper hD z1 (q0_lower (q7_part (by omega) (by omega) ?_))
    refine q8_barsSag hD ?_
    rw [if_pos z]
    exact ⟨fun _ => q8_sagUpper hD z1 (q8_sagLower (q8_part (by omega) (by omega) ⟨rfl, hJ⟩)), fun q => absurd (by decide) q⟩
  · refine q8_barsSag hD ?_
    rw [if_neg z]
    exact ⟨fun q => absurd q (rfD_n z), fun _ => ⟨rfl, hJ⟩⟩
theorem r_dropper {J0 : Prop} {T o D ld hg a b c : Int32} (h : crOk T o D ld hg) (hJ : J0) : wp_X7_dropper (fun r1 => wp_X8_dropper (fun r2 => r1 = r2 ∧ J0) T o D ld hg a b c) T o D ld hg a b c := by
  have hD : 1 ≤ D.toInt ∧ D.toInt ≤ 12 := ⟨h.2.2.2.2.1, h.2.2.2.2.2.1⟩
  have hL := sgL_b h
  unfold wp_X7_dropper wp_X8_dropper
  refine q7_refusal ⟨fun z => ?_, fun z => ?_⟩
  · obtain ⟨z1, z2, z3⟩ := rfD_0 z
    have hU := drU_b h (l := a.toInt) (i := b.toInt) (by omega) z1
    refine q0_lengthUpper hD z1 (q0_lower (q7_part (by omega) (by omega) ?_))
    refine q8_barsSag hD ?_
    rw [if_pos z]
    exact ⟨fun _ => q8_dropUpper hD z1 (q8_sagLower (q8_part (by omega) (by omega) ⟨rfl, hJ⟩)), fun q => absurd (by decide) q⟩
  · refine q8_barsSag hD ?_
    rw [if_neg z]
    exact ⟨fun q => absurd q (rfD_n z), fun _ => ⟨rfl, hJ⟩⟩
theorem r_cut {J0 : Prop} {T o D ld hg a b : Int32} (h : crOk T o D ld hg) (hJ : J0) : wp_X7_cut (fun r1 => wp_X8_cut (fun r2 => r1 = r2 ∧ J0) T o D ld hg a b) T o D ld hg a b := by
  have hD : 1 ≤ D.toInt ∧ D.toInt ≤ 12 := ⟨h.2.2.2.2.1, h.2.2.2.2.2.1⟩
  have e1 : (D - 1).toInt = D.toInt - 1 := by rw [x_sub (by rw [zt_1]; omega), zt_1]
  unfold wp_X7_cut wp_X8_cut
  refine q7_refusal ⟨fun z => ?_, fun z => ?_⟩
  · obtain ⟨z1, z2, z3⟩ := rfD_0 z
    refine q0_cutUp h (by omega) z1 (q8_if 0 (D.toInt - 1) rfl e1 (fun q => q8_if 1 800 rfl rfl (fun r => q8_cutOf h (by omega) z1 ⟨rfl, hJ⟩) (fun r => absurd z2 r)) (fun q => absurd (by omega) q))
  · unfold rfD at z ⊢
    refine q8_if 0 (D.toInt - 1) rfl e1 (fun q => ?_) (fun q => ?_)
    · rw [if_pos (show 0 ≤ b.toInt ∧ b.toInt < D.toInt by omega)] at z ⊢
      refine q8_if 1 800 rfl rfl (fun r => absurd (if_pos ⟨r, by decide⟩) z) (fun r => ?_)
      rw [if_neg (fun s => r s.1)]
      exact ⟨rfl, hJ⟩
    · rw [if_neg (show ¬ (0 ≤ b.toInt ∧ b.toInt < D.toInt) by omega)]
      exact ⟨rfl, hJ⟩
theorem r_bears {J0 : Prop} {T o D ld hg a b : Int32} (h : crOk T o D ld hg) (hJ : J0) : wp_X7_bears (fun r1 => wp_X8_bears (fun r2 => r1 = r2 ∧ J0) o D ld a b) o D ld a b := by
  obtain ⟨h1, h2, h3, h4, h5, h6, h7, h8, h9, h10⟩ := h
  unfold wp_X7_bears wp_X8_bears wp_X0_weight
  have fin : (1 ≤ a.toInt ∧ a.toInt ≤ 800) → (o.toInt64 * a.toInt64 + D.toInt64 * ld.toInt64 = lI (o.toInt * a.toInt + D.toInt * ld.toInt)) ∧ -100000 ≤ o.toInt * a.toInt + D.toInt * ld.toInt ∧ o.toInt * a.toInt + D.toInt * ld.toInt ≤ 100000 := fun z => by
    have a1 := ab_mul (a := o.toInt) (b := a.toInt) (A := 50) (B := 800) (by omega) (by omega)
    have a2 := ab_mul (a := D.toInt) (b := ld.toInt) (A := 12) (B := 2000) (by omega) (by omega)
    exact ⟨by rw [x_l, x_l, x_l, x_l, lI_mul, lI_mul, lI_add], by omega, by omega⟩
  refine q7_if 1 800 rfl rfl (fun r => q7_if 0 1 rfl rfl (fun s => ?_) (fun s => ?_)) (fun r => ?_)
  · obtain ⟨e, b1, b2⟩ := fin r
    rw [e, l_2]
    refine q7_part (by omega) (by omega) (q8_if 1 800 rfl rfl (fun _ => q8_if 0 1 rfl rfl (fun _ => q8_part (by omega) (by omega) ⟨rfl, hJ⟩) (fun q => absurd s q)) (fun q => absurd r q))
  · exact q8_if 1 800 rfl rfl (fun _ => q8_if 0 1 rfl rfl (fun q => absurd q s) (fun _ => ⟨rfl, hJ⟩)) (fun q => absurd r q)
  · exact q8_if 1 800 rfl rfl (fun q => absurd q r) (fun _ => ⟨rfl, hJ⟩)
theorem r_heat {J0 : Prop} {a b c : Int32} (hJ : J0) : wp_X7_heat (fun r1 => wp_X8_heat (fun r2 => r1 = r2 ∧ J0) a b c) a b c := by
  unfold wp_X7_heat wp_X8_heat
  have fin : (0 ≤ a.toInt ∧ a.toInt ≤ 8000) → (-40 ≤ b.toInt ∧ b.toInt ≤ 80) → (a.toInt64 * (b - 10).toInt64 * 17 = lI (a.toInt * (b.toInt - 10) * 17)) ∧ -100000000 ≤ a.toInt * (b.toInt - 10) * 17 ∧ a.toInt * (b.toInt - 10) * 17 ≤ 100000000 := fun z w => by
    have e10 : (10 : Int32).toInt = 10 := rfl
    have a1 := ab_mul (a := a.toInt) (b := b.toInt - 10) (A := 8000) (B := 80) (by omega) (by omega)
    exact ⟨by rw [x_l, x_l, x_sub (by rw [e10]; omega), e10, show (17 : Int64) = lI 17 from rfl, lI_mul, lI_mul], by omega, by omega⟩
  refine q7_if 0 8000 rfl rfl (fun r => q7_if (-40) 80 rfl rfl (fun s => q7_if 0 1 rfl rfl (fun t => ?_) (fun t => ?_)) (fun s => ?_)) (fun r => ?_)
  · obtain ⟨e, b1, b2⟩ := fin r s
    rw [e, show (10000 : Int64) = lI 10000 from rfl]
    refine q7_part (by omega) (by omega) (q8_if 0 8000 rfl rfl (fun _ => q8_if (-40) 80 rfl rfl (fun _ => q8_if 0 1 rfl rfl (fun _ => q8_part (by omega) (by omega) ⟨rfl, hJ⟩) (fun q => absurd t q)) (fun q => absurd s q)) (fun q => absurd r q))
  · exact q8_if 0 8000 rfl rfl (fun _ => q8_if (-40) 80 rfl rfl (fun _ => q8_if 0 1 rfl rfl (fun q => absurd q t) (fun _ => ⟨rfl, hJ⟩)) (fun q => absurd s q)) (fun q => absurd r q)
  · exact q8_if 0 8000 rfl rfl (fun _ => q8_if (-40) 80 rfl rfl (fun q => absurd q s) (fun _ => ⟨rfl, hJ⟩)) (fun q => absurd r q)
  · exact q8_if 0 8000 rfl rfl (fun q => absurd q r) (fun _ => ⟨rfl, hJ⟩)
