/-! within, fractions -/
theorem q7_within {Q : Int32 → Prop} {a b c : Int32} (h1 : b.toInt ≤ a.toInt ∧ a.toInt ≤ c.toInt → Q 1) (h0 : ¬ (b.toInt ≤ a.toInt ∧ a.toInt ≤ c.toInt) → Q 0) : wp_X7_within Q a b c := by
  unfold wp_X7_within
  refine ⟨fun h => ⟨b_01, h0 ?_⟩, fun h => ⟨fun h' => ⟨b_01, h0 ?_⟩, fun h' => ⟨b_11, h1 ?_⟩⟩⟩
  · rw [x_lt] at h; omega
  · rw [x_lt] at h'; omega
  · rw [x_lt] at h h'; omega
theorem q8_in {Q : Int32 → Prop} {a b c : Int32} (h1 : b.toInt ≤ a.toInt ∧ a.toInt ≤ c.toInt → Q 1) (h0 : ¬ (b.toInt ≤ a.toInt ∧ a.toInt ≤ c.toInt) → Q 0) : wp_X8_in Q a b c := by
  unfold wp_X8_in
  refine ⟨fun h => ⟨b_01, h0 ?_⟩, fun h => ⟨fun h' => ⟨b_01, h0 ?_⟩, fun h' => ⟨b_11, h1 ?_⟩⟩⟩
  · rw [x_lt] at h; omega
  · rw [x_lt] at h'; omega
  · rw [x_lt] at h h'; omega
theorem lN_ne0 {b : Nat} (h : 0 < b) (hb : b < 2 ^ 63) : ¬ lN b = 0 := by
  intro e
  have := (pk_lEQ (a := b) (b := 0) hb (by omega)).mp e
  omega
theorem gcd_step (a b : Nat) : Nat.gcd a b = Nat.gcd b (a % b) := by
  rw [Nat.gcd_comm a b, Nat.gcd_rec b a, Nat.gcd_comm]
theorem q8_gcd {Q : Int64 → Prop} : ∀ (b a : Nat), a < 2 ^ 63 → b < 2 ^ 63 → Q (lN (Nat.gcd a b)) → ∃ n, wl_X8_common_17 Q n (lN a) (lN b) := by
  intro b
  induction b using Nat.strongRecOn with
  | _ b ih =>
    intro a ha hb hq
    by_cases h0 : b = 0
    · subst h0
      refine ⟨1, ?_⟩
      show wb_X8_common_17 Q _ _ _
      unfold wb_X8_common_17
      rw [Nat.gcd_zero_right] at hq
      exact ⟨fun _ => hq, fun h => absurd rfl h⟩
    · have hlt : a % b < b := Nat.mod_lt _ (by omega)
      rw [gcd_step] at hq
      obtain ⟨n, hn⟩ := ih (a % b) hlt b hb (by omega) hq
      refine ⟨n + 1, ?_⟩
      show wb_X8_common_17 Q _ _ _
      unfold wb_X8_common_17
      have hne : ¬ lN b = 0 := lN_ne0 (by omega) hb
      refine ⟨fun h => absurd h hne, fun _ => ⟨hne, fun x hx => ?_⟩⟩
      rw [pk_lRem ha (by omega) hb] at hx
      rw [hx]
      exact hn
theorem q7_gcd {Q : Int64 → Prop} : ∀ (j a b k : Nat), a < 2 ^ 63 → b < 2 ^ j → j ≤ 40 → k + 2 * j + 1 ≤ 100 → Q (lN (Nat.gcd a b)) → ∃ n, wl_X7_commonDivisor_3 Q n (lN a) (lN b) (nI k) := by
  intro j
  have hk100 : ∀ k : Nat, k < 100 → ¬ (100 : Int32) ≤ nI k := fun k hk h => by
    rw [x_le, nI_t (by omega)] at h
    have : (100 : Int32).toInt = 100 := rfl
    omega
  have stop : ∀ (a k : Nat), k < 100 → Q (lN a) → wl_X7_commonDivisor_3 Q 1 (lN a) (lN 0) (nI k) := fun a k hk hq => by
    show wb_X7_commonDivisor_3 Q _ _ _ _
    unfold wb_X7_commonDivisor_3
    exact ⟨fun h => absurd h (hk100 k hk), fun _ => ⟨fun _ => hq, fun h => absurd rfl h⟩⟩
  have step : ∀ (n a b k : Nat), k < 100 → 0 < b → a < 2 ^ 63 → b < 2 ^ 63 → wl_X7_commonDivisor_3 Q n (lN b) (lN (a % b)) (nI (k + 1)) → wl_X7_commonDivisor_3 Q (n + 1) (lN a) (lN b) (nI k) := fun n a b k hk h0 ha hb hn => by
    show wb_X7_commonDivisor_3 Q _ _ _ _
    unfold wb_X7_commonDivisor_3
    have hne : ¬ lN b = 0 := lN_ne0 h0 hb
    refine ⟨fun h => absurd h (hk100 k hk), fun _ => ⟨fun h => absurd h hne, fun _ => ⟨hne, fun x hx y hy => ?_⟩⟩⟩
    rw [pk_lRem ha h0 hb] at hx
    rw [hx, hy, nI_1]
    exact hn
  induction j with
  | zero =>
    intro a b k ha hb hj hk hq
    have h0 : b = 0 := by simpa using hb
    subst h0
    rw [Nat.gcd_zero_right] at hq
    exact ⟨1, stop a k (by omega) hq⟩
  | succ j ih =>
    intro a b k ha hb hj hk hq
    have hb63 : b < 2 ^ 63 := Nat.lt_of_lt_of_le hb (Nat.pow_le_pow_right (by omega) (by omega))
    by_cases h0 : b = 0
    · subst h0
      rw [Nat.gcd_zero_right] at hq
      exact ⟨1, stop a k (by omega) hq⟩
    · rw [gcd_step] at hq
      have hlt : a % b < b := Nat.mod_lt _ (by omega)
      by_cases h1 : a % b = 0
      · rw [h1, Nat.gcd_zero_right] at hq
        refine ⟨2, step 1 a b k (by omega) (by omega) ha hb63 ?_⟩
        rw [h1]
        exact stop b (k + 1) (by omega) hq
      · rw [gcd_step] at hq
        have hm : b % (a % b) < a % b := Nat.mod_lt _ (by omega)
        have hm2 : b % (a % b) + (a % b) ≤ b := by
          have h3 := Nat.div_add_mod b (a % b)
          have h4 : 1 ≤ b / (a % b) := (Nat.one_le_div_iff (by omega)).mpr (by omega)
          have h5 : (a % b) * 1 ≤ (a % b) * (b / (a % b)) := Nat.mul_le_mul_left _ h4
          omega
        have hp : b % (a % b) < 2 ^ j := by
          have : 2 ^ (j + 1) = 2 * 2 ^ j := by rw [Nat.pow_succ]; omega
          omega
        obtain ⟨n, hn⟩ := ih (a % b) (b % (a % b)) (k + 2) (by omega) hp (by omega) (by omega) hq
        exact ⟨n + 2, step (n + 1) a b k (by omega) (by omega) ha hb63 (step n b (a % b) (k + 1) (by omega) (by omega) hb63 (by omega) hn)⟩
def gG (u d : Int) : Nat := Nat.gcd u.natAbs d.natAbs
def gP (u d : Int) (w : Int32) : Int64 := if w = 0 then lI u / lN (gG u d) else lI d / lN (gG u d)
theorem lN_lI (n : Nat) : lN n = lI (n : Int) := Int64.ofInt_eq_ofNat.symm
theorem gG_pos {u d : Int} (hd : 0 < d) (hd2 : d ≤ 33554432) : 0 < gG u d ∧ gG u d < 2 ^ 63 := by
  have h1 : 0 < d.natAbs := by omega
  have h2 : gG u d ≤ d.natAbs := Nat.gcd_le_right _ h1
  exact ⟨Nat.gcd_pos_of_pos_right _ h1, by omega⟩
theorem q7_part {Q : Int64 → Prop} {u d : Int} {w : Int32} (hu : -4611686018427387904 ≤ u ∧ u ≤ 4611686018427387904) (hd : 0 < d ∧ d ≤ 33554432) (hq : Q (gP u d w)) : wp_X7_part Q (lI u) (lI d) w := by
  unfold wp_X7_part
  intro x hx
  have hx' : x = lN u.natAbs := by
    rw [hx, lN_lI]
    have hc : (0 : Int64) < lI u ↔ 0 < u := by rw [l_0, lI_lt (by omega) (by omega)]
    by_cases c : (0 : Int64) < lI u
    · rw [if_pos c]; have := hc.mp c; congr 1; omega
    · rw [if_neg c, lI_neg]; have : ¬ 0 < u := fun q => c (hc.mpr q); congr 1; omega
  rw [hx', show lI d = lN d.natAbs by rw [lN_lI]; congr 1; omega]
  unfold wp_X7_commonDivisor
  obtain ⟨hg, hg2⟩ := gG_pos (u := u) hd.1 hd.2
  refine q7_gcd 26 _ _ 0 (by omega) (by omega) (by omega) (by omega) ?_
  have hne : ¬ lN (Nat.gcd u.natAbs d.natAbs) = 0 := lN_ne0 hg hg2
  refine ⟨fun h => absurd h hne, fun _ => ⟨fun h => ⟨hne, ?_⟩, fun h => ⟨hne, ?_⟩⟩⟩
  · unfold gP at hq; rw [if_pos h] at hq; exact hq
  · unfold gP at hq; rw [if_neg h] at hq
    rw [show lI d = lN d.natAbs by rw [lN_lI]; congr 1; omega] at hq
    exact hq
theorem q8_part {Q : Int64 → Prop} {u d : Int} {w : Int32} (hu : -4611686018427387904 ≤ u ∧ u ≤ 4611686018427387904) (hd : 0 < d ∧ d ≤ 33554432) (hq : Q (gP u d w)) : wp_X8_part Q (lI u) (lI d) w := by
  unfold wp_X8_part wp_X8_common wb_X8_common_12
  obtain ⟨hg, hg2⟩ := gG_pos (u := u) hd.1 hd.2
  have hne : ¬ lN (Nat.gcd u.natAbs d.natAbs) = 0 := lN_ne0 hg hg2
  have hD : lI d = lN d.natAbs := by rw [lN_lI]; congr 1; omega
  have key : ∃ n, wl_X8_common_17 (fun r1 => (w = 0 → ¬ r1 = 0 ∧ Q (lI u / r1)) ∧ (¬ w = 0 → ¬ r1 = 0 ∧ Q (lI d / r1))) n (lN u.natAbs) (lN d.natAbs) := by
    refine q8_gcd _ _ (by omega) (by omega) ⟨fun h => ⟨hne, ?_⟩, fun h => ⟨hne, ?_⟩⟩
    · unfold gP at hq; rw [if_pos h] at hq; exact hq
    · unfold gP at hq; rw [if_neg h] at hq; exact hq
  rw [hD] at key ⊢
  refine ⟨fun h => ?_, fun h => ?_⟩
  · rw [l_0, lI_le (by omega) (by omega)] at h
    rw [show lI u = lN u.natAbs by rw [lN_lI]; congr 1; omega] at key ⊢
    exact key
  · rw [l_0, lI_le (by omega) (by omega)] at h
    have e : -lI u = lN u.natAbs := by rw [lN_lI, lI_neg]; congr 1; omega
    rw [e]
    exact key
