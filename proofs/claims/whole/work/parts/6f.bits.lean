/-! sets of pieces as numbers -/
theorem nI_bv (n : Nat) : (nI n).toBitVec = BitVec.ofNat 32 n := rfl
theorem nI_and (a b : Nat) : nI a &&& nI b = nI (a &&& b) := by
  apply Int32.toBitVec_inj.mp
  rw [Int32.toBitVec_and, nI_bv, nI_bv, nI_bv, BitVec.ofNat_and]
theorem nI_xor (a b : Nat) : nI a ^^^ nI b = nI (a ^^^ b) := by
  apply Int32.toBitVec_inj.mp
  rw [Int32.toBitVec_xor, nI_bv, nI_bv, nI_bv, BitVec.ofNat_xor]
theorem sh_i : ∀ i, i < 15 → (1 : Int32) <<< (nI i &&& 31) = nI (2 ^ i) := by decide +kernel
theorem sh_m : ∀ i, i < 15 → ((nI i &&& 31).toBitVec.smod 32).toNat = i := by decide +kernel
theorem p2_le {i M : Nat} (h : i ≤ M) : 2 ^ i ≤ 2 ^ M := Nat.pow_le_pow_right (by omega) h
theorem p2_14 {M : Nat} (h : M ≤ 14) : 2 ^ M ≤ 16384 := p2_le (M := 14) h
theorem p2_1 (M : Nat) : 1 ≤ 2 ^ M := Nat.one_le_two_pow
theorem and_2 (S i : Nat) : S &&& 2 ^ i = if S.testBit i = true then 2 ^ i else 0 := by
  apply Nat.eq_of_testBit_eq
  intro j
  rw [Nat.testBit_and]
  by_cases c : i = j
  · subst c
    rw [Nat.testBit_two_pow_self]
    by_cases d : S.testBit i = true
    · rw [if_pos d, Nat.testBit_two_pow_self, d]; rfl
    · rw [if_neg d, Nat.zero_testBit]
      cases h : S.testBit i with
      | false => rfl
      | true => exact absurd h d
  · rw [Nat.testBit_two_pow_of_ne c]
    by_cases d : S.testBit i = true
    · rw [if_pos d, Nat.testBit_two_pow_of_ne c]; simp
    · rw [if_neg d, Nat.zero_testBit]; simp
theorem bt_and {S i : Nat} (hS : S < 16384) (hi : i < 14) : (nI S &&& nI (2 ^ i) = 0) ↔ ¬ S.testBit i = true := by
  have h14 := p2_14 (M := i) (by omega)
  have h1 := p2_1 i
  rw [nI_and, and_2, show (0 : Int32) = nI 0 from rfl]
  by_cases d : S.testBit i = true
  · rw [if_pos d, nI_eq (by omega) (by omega)]
    constructor
    · intro z; omega
    · intro z; exact absurd d z
  · rw [if_neg d]
    exact ⟨fun _ => d, fun _ => rfl⟩
theorem bt_shr {S i : Nat} (hS : S < 16384) (hi : i < 14) : ((nI S >>> (nI i &&& 31)) &&& 1 = 1) ↔ S.testBit i = true := by
  rw [pk_shrN (by omega) _ i (sh_m i (by omega)), show (1 : Int32) = nI 1 from rfl, nI_and, Nat.and_one_is_mod, Nat.testBit_eq_decide_div_mod_eq]
  have : S / 2 ^ i % 2 < 2 := Nat.mod_lt _ (by omega)
  rw [nI_eq (by omega) (by omega)]
  simp
theorem bt_lt {S i : Nat} (hb : S.testBit i = true) : S ^^^ 2 ^ i < S := by
  have e : (S ^^^ 2 ^ i) / 2 ^ i = S / 2 ^ i ^^^ 1 := by rw [Nat.xor_div_two_pow, Nat.div_self (Nat.two_pow_pos i)]
  have odd : S / 2 ^ i % 2 = 1 := by
    rw [Nat.testBit_eq_decide_div_mod_eq] at hb
    exact of_decide_eq_true hb
  have y1 : (S / 2 ^ i ^^^ 1) / 2 = S / 2 ^ i / 2 := by
    rw [Nat.xor_div_two]
    show S / 2 ^ i / 2 ^^^ 0 = _
    rw [Nat.xor_zero]
  have y2 : ¬ (S / 2 ^ i ^^^ 1) % 2 = 1 := by
    rw [Nat.xor_mod_two_eq_one]
    intro h
    exact h ⟨fun _ => rfl, fun _ => odd⟩
  rcases Nat.lt_or_ge (S ^^^ 2 ^ i) S with c | c
  · exact c
  · exfalso
    have m : S / 2 ^ i ≤ (S ^^^ 2 ^ i) / 2 ^ i := Nat.div_le_div_right c
    rw [e] at m
    omega
theorem bt_clr {S i : Nat} (hb : S.testBit i = true) : nI S &&& (nI (2 ^ i) ^^^ (-1)) = nI (S ^^^ 2 ^ i) := by
  apply Int32.toBitVec_inj.mp
  rw [Int32.toBitVec_and, Int32.toBitVec_xor, nI_bv, nI_bv, nI_bv, show (-1 : Int32).toBitVec = BitVec.allOnes 32 from rfl, BitVec.xor_allOnes, BitVec.ofNat_xor]
  apply BitVec.eq_of_getLsbD_eq
  intro j hj
  rw [BitVec.getLsbD_and, BitVec.getLsbD_not, BitVec.getLsbD_xor, BitVec.getLsbD_ofNat, BitVec.getLsbD_ofNat]
  by_cases c : j = i
  · subst c
    rw [hb, Nat.testBit_two_pow_self]; simp [hj]
  · rw [Nat.testBit_two_pow_of_ne (by omega)]; simp [hj]
def bc (S : Nat) : Nat → Nat
  | 0 => 0
  | j + 1 => bc S j + (if S.testBit j = true then 1 else 0)
theorem bc_le (S : Nat) : ∀ j, bc S j ≤ j := by
  intro j
  induction j with
  | zero => exact Nat.le_refl _
  | succ j ih =>
    show bc S j + (if S.testBit j = true then 1 else 0) ≤ _
    by_cases c : S.testBit j = true
    · rw [if_pos c]; omega
    · rw [if_neg c]; omega
theorem bc_x {S i : Nat} (hb : S.testBit i = true) : ∀ j, bc (S ^^^ 2 ^ i) j + (if i < j then 1 else 0) = bc S j := by
  intro j
  induction j with
  | zero => rfl
  | succ j ih =>
    show bc (S ^^^ 2 ^ i) j + (if (S ^^^ 2 ^ i).testBit j = true then 1 else 0) + (if i < j + 1 then 1 else 0) = bc S j + (if S.testBit j = true then 1 else 0)
    rw [← ih]
    by_cases c : j = i
    · subst c
      have : (S ^^^ 2 ^ j).testBit j = false := by rw [Nat.testBit_xor, hb, Nat.testBit_two_pow_self]; rfl
      rw [this, if_neg (by decide), if_pos (by omega), if_neg (by omega), if_pos hb]
    · have : (S ^^^ 2 ^ i).testBit j = S.testBit j := by rw [Nat.testBit_xor, Nat.testBit_two_pow_of_ne (by omega)]; simp
      rw [this]
      by_cases d : i < j
      · rw [if_pos (show i < j + 1 by omega), if_pos d]; omega
      · rw [if_neg (show ¬ i < j + 1 by omega), if_neg d]
        omega
theorem bt_ex {S M : Nat} (h0 : 0 < S) (hM : S < 2 ^ M) : ∃ i, i < M ∧ S.testBit i = true := by
  obtain ⟨i, hi⟩ := Nat.exists_testBit_of_ne_zero (show S ≠ 0 by omega)
  refine ⟨i, ?_, hi⟩
  rcases Nat.lt_or_ge i M with c | c
  · exact c
  · rw [Nat.testBit_lt_two_pow (Nat.lt_of_lt_of_le hM (p2_le c))] at hi
    exact absurd hi (by decide)
/-! the fewest bars for each set -/
def bw (bar v z : Nat) : Nat := if v % 32768 + z ≤ bar then v + z else (v / 32768 + 1) * 32768 + z
def mnl (bar : Nat) (z V : Nat → Nat) (S : Nat) : Nat → Nat
  | 0 => 2147483647
  | j + 1 => if S.testBit j = true then (if bw bar (V (S ^^^ 2 ^ j)) (z j) < mnl bar z V S j then bw bar (V (S ^^^ 2 ^ j)) (z j) else mnl bar z V S j) else mnl bar z V S j
def vt (bar M : Nat) (z : Nat → Nat) : Nat → Nat → Nat
  | 0, _ => 32768
  | k + 1, S => if S = k then (if k = 0 then 32768 else mnl bar z (vt bar M z k) k M) else vt bar M z k S
theorem mnl_le {bar : Nat} {z V : Nat → Nat} {S : Nat} : ∀ j i, i < j → S.testBit i = true → mnl bar z V S j ≤ bw bar (V (S ^^^ 2 ^ i)) (z i) := by
  intro j
  induction j with
  | zero => exact fun i h => absurd h (Nat.not_lt_zero _)
  | succ j ih =>
    intro i hi hb
    show (if S.testBit j = true then (if bw bar (V (S ^^^ 2 ^ j)) (z j) < mnl bar z V S j then bw bar (V (S ^^^ 2 ^ j)) (z j) else mnl bar z V S j) else mnl bar z V S j) ≤ _
    by_cases e : i = j
    · subst e
      rw [if_pos hb]
      by_cases c : bw bar (V (S ^^^ 2 ^ i)) (z i) < mnl bar z V S i
      · rw [if_pos c]; omega
      · rw [if_neg c]; omega
    · have := ih i (by omega) hb
      by_cases d : S.testBit j = true
      · rw [if_pos d]
        by_cases c : bw bar (V (S ^^^ 2 ^ j)) (z j) < mnl bar z V S j
        · rw [if_pos c]; omega
        · rw [if_neg c]; omega
      · rw [if_neg d]; omega
theorem mnl_ex {bar : Nat} {z V : Nat → Nat} {S : Nat} : ∀ j, mnl bar z V S j = 2147483647 ∨ ∃ i, i < j ∧ S.testBit i = true ∧ mnl bar z V S j = bw bar (V (S ^^^ 2 ^ i)) (z i) := by
  intro j
  induction j with
  | zero => exact Or.inl rfl
  | succ j ih =>
    show (if S.testBit j = true then (if bw bar (V (S ^^^ 2 ^ j)) (z j) < mnl bar z V S j then bw bar (V (S ^^^ 2 ^ j)) (z j) else mnl bar z V S j) else mnl bar z V S j) = _ ∨ ∃ i, i < j + 1 ∧ S.testBit i = true ∧ (if S.testBit j = true then (if bw bar (V (S ^^^ 2 ^ j)) (z j) < mnl bar z V S j then bw bar (V (S ^^^ 2 ^ j)) (z j) else mnl bar z V S j) else mnl bar z V S j) = _
    have up : mnl bar z V S j = 2147483647 ∨ ∃ i, i < j + 1 ∧ S.testBit i = true ∧ mnl bar z V S j = bw bar (V (S ^^^ 2 ^ i)) (z i) := by
      rcases ih with q | ⟨i, q1, q2, q3⟩
      · exact Or.inl q
      · exact Or.inr ⟨i, by omega, q2, q3⟩
    by_cases d : S.testBit j = true
    · rw [if_pos d]
      by_cases c : bw bar (V (S ^^^ 2 ^ j)) (z j) < mnl bar z V S j
      · rw [if_pos c]; exact Or.inr ⟨j, by omega, d, rfl⟩
      · rw [if_neg c]; exact up
    · rw [if_neg d]; exact up
def vOk (bar B v : Nat) : Prop := 32768 ≤ v ∧ v / 32768 ≤ B ∧ v % 32768 ≤ bar
theorem bw_ok {bar v z B : Nat} (hbar : bar ≤ 20000) (hz : z ≤ bar) (h : vOk bar B v) : vOk bar (B + 1) (bw bar v z) := by
  obtain ⟨h1, h2, h3⟩ := h
  unfold bw vOk
  by_cases c : v % 32768 + z ≤ bar
  · rw [if_pos c]; omega
  · rw [if_neg c]; omega
theorem vt_b {bar M : Nat} {z : Nat → Nat} (hM : M ≤ 14) (hbar : bar ≤ 20000) (hz : ∀ j, j < M → 1 ≤ z j ∧ z j ≤ bar) : ∀ k S, S < k → k ≤ 2 ^ M → vOk bar (bc S M + 1) (vt bar M z k S) := by
  intro k
  induction k with
  | zero => exact fun S h => absurd h (Nat.not_lt_zero _)
  | succ k ih =>
    intro S hS hk
    show vOk _ _ (if S = k then (if k = 0 then 32768 else mnl bar z (vt bar M z k) k M) else vt bar M z k S)
    by_cases c : S = k
    · subst c
      rw [if_pos rfl]
      by_cases d : S = 0
      · rw [if_pos d]; unfold vOk; omega
      · rw [if_neg d]
        have cand : ∀ i, i < M → S.testBit i = true → vOk bar (bc S M + 1) (bw bar (vt bar M z S (S ^^^ 2 ^ i)) (z i)) := fun i hi hb => by
          have a := ih (S ^^^ 2 ^ i) (bt_lt hb) (by omega)
          have e := bc_x hb M
          rw [if_pos hi] at e
          rw [← e]
          exact bw_ok hbar (hz i hi).2 a
        rcases mnl_ex (bar := bar) (z := z) (V := vt bar M z S) (S := S) M with q | ⟨i, q1, q2, q3⟩
        · exfalso
          obtain ⟨i, i1, i2⟩ := bt_ex (S := S) (M := M) (by omega) (by omega)
          have a := mnl_le (bar := bar) (z := z) (V := vt bar M z S) M i i1 i2
          obtain ⟨c1, c2, c3⟩ := cand i i1 i2
          have := bc_le S M
          omega
        · rw [q3]; exact cand i q1 q2
    · rw [if_neg c]; exact ih S (by omega) (by omega)
theorem vt_s {bar M : Nat} {z : Nat → Nat} {k S : Nat} (h : S < k) : vt bar M z (k + 1) S = vt bar M z k S := if_neg (by omega)
theorem vt_k {bar M : Nat} {z : Nat → Nat} {k : Nat} (h : 0 < k) : vt bar M z (k + 1) k = mnl bar z (vt bar M z k) k M := by
  show (if k = k then (if k = 0 then 32768 else mnl bar z (vt bar M z k) k M) else vt bar M z k k) = _
  rw [if_pos rfl, if_neg (by omega)]
theorem vt_0 {bar M : Nat} {z : Nat → Nat} : ∀ k, vt bar M z k 0 = 32768 := by
  intro k
  induction k with
  | zero => rfl
  | succ k ih =>
    show (if 0 = k then (if k = 0 then 32768 else mnl bar z (vt bar M z k) k M) else vt bar M z k 0) = _
    by_cases c : 0 = k
    · rw [if_pos c, if_pos c.symm]
    · rw [if_neg c]; exact ih
