/-! the component's saw -/
theorem q3_with {Q : Int32 → Prop} {bar v z : Nat} (hv : v ≤ 1000000) (hz : z ≤ 20000) (hbar : bar ≤ 20000) (hq : Q (nI (bw bar v z))) : wp_X3_withPiece Q (nI v) (nI z) (nI bar) := by
  unfold wp_X3_withPiece
  rw [show (32768 : Int32) = nI 32768 from rfl, pk_rem (by omega) (by omega) (by omega), pk_div (by omega) (by omega) (by omega), nI_add, nI_add, nI_1, pk_mul, nI_add]
  unfold bw at hq
  by_cases c : v % 32768 + z ≤ bar
  · rw [if_pos c] at hq
    exact ⟨fun h => absurd h (nI_nlt c (by omega)), fun _ => hq⟩
  · rw [if_neg c] at hq
    exact ⟨fun _ => hq, fun h => absurd (nI_lt (by omega) (by omega)) h⟩
theorem vt_small {bar M : Nat} {z : Nat → Nat} (hM : M ≤ 14) (hbar : bar ≤ 20000) (hz : ∀ j, j < M → 1 ≤ z j ∧ z j ≤ bar) {k S : Nat} (hS : S < k) (hk : k ≤ 2 ^ M) : vt bar M z k S ≤ 600000 := by
  obtain ⟨h1, h2, h3⟩ := vt_b hM hbar hz k S hS hk
  have := bc_le S M
  omega
theorem mnl_b {bar : Nat} {z V : Nat → Nat} {S : Nat} : ∀ j, mnl bar z V S j ≤ 2147483647 := by
  intro j
  induction j with
  | zero => exact Nat.le_refl _
  | succ j ih =>
    show (if S.testBit j = true then (if bw bar (V (S ^^^ 2 ^ j)) (z j) < mnl bar z V S j then bw bar (V (S ^^^ 2 ^ j)) (z j) else mnl bar z V S j) else mnl bar z V S j) ≤ _
    by_cases d : S.testBit j = true
    · rw [if_pos d]
      by_cases c : bw bar (V (S ^^^ 2 ^ j)) (z j) < mnl bar z V S j
      · rw [if_pos c]; omega
      · rw [if_neg c]; exact ih
    · rw [if_neg d]; exact ih
theorem mnl_1 {bar : Nat} {z V : Nat → Nat} {S j : Nat} (h : S.testBit j = true) : mnl bar z V S (j + 1) = if bw bar (V (S ^^^ 2 ^ j)) (z j) < mnl bar z V S j then bw bar (V (S ^^^ 2 ^ j)) (z j) else mnl bar z V S j := if_pos h
theorem mnl_0 {bar : Nat} {z V : Nat → Nat} {S j : Nat} (h : ¬ S.testBit j = true) : mnl bar z V S (j + 1) = mnl bar z V S j := if_neg h
theorem q3_leastOf {Q : Int32 → Prop} {bar M n3 k : Nat} {z : Nat → Nat} (hM : M ≤ 14) (hbar : bar ≤ 20000) (hz : ∀ j, j < M → 1 ≤ z j ∧ z j ≤ bar) {pc B : Nat → Int32} (hpc : ∀ j, j < M → pc j = nI (z j)) (hk : k < 2 ^ M) (hn : 2 ^ M ≤ n3) (hn2 : n3 ≤ 16384) (hB : ∀ S, S < k → B S = nI (vt bar M z k S)) (hq : Q (nI (mnl bar z (vt bar M z k) k M))) : wp_X3_leastOf Q (nI M) pc B n3 (nI k) (nI bar) := by
  have h14 := p2_14 hM
  unfold wp_X3_leastOf
  have main : ∀ d i, i + d = M → ∃ n, wl_X3_leastOf_6 Q (nI M) pc B n3 n (nI k) (nI bar) (nI (mnl bar z (vt bar M z k) k i)) (nI i) := by
    intro d
    induction d with
    | zero =>
      intro i hi
      have e : i = M := by omega
      subst e
      refine ⟨1, ?_⟩
      show wb_X3_leastOf_6 Q _ _ _ _ _ _ _ _ _
      unfold wb_X3_leastOf_6
      exact ⟨fun _ => hq, fun h => absurd (nI_le (Nat.le_refl _) (by omega)) h⟩
    | succ d ih =>
      intro i hi
      obtain ⟨n, hn'⟩ := ih (i + 1) (by omega)
      refine ⟨n + 1, ?_⟩
      show wb_X3_leastOf_6 Q _ _ _ _ _ _ _ _ _
      unfold wb_X3_leastOf_6 wb_X3_leastOf_51
      rw [sh_i i (by omega), nI_xor]
      refine ⟨fun h => absurd h (nI_ge (by omega) (by omega)), fun _ => ⟨fun h => ?_, fun h => ?_⟩⟩
      · have hb := (bt_and (by omega) (by omega)).mp h
        intro x3 e3
        rw [e3, nI_1]
        rw [mnl_0 hb] at hn'
        exact hn'
      · have hb : k.testBit i = true := Classical.byContradiction (fun w => h ((bt_and (by omega) (by omega)).mpr w))
        have hlt := bt_lt hb
        have hv := vt_small hM hbar hz hlt (by omega)
        have hzi := hz i (by omega)
        refine ⟨vp_nI (by omega) (by omega), vp_nI (by omega) (by omega), ?_⟩
        rw [cl_nI (by omega), cl_nI (by omega), hB _ hlt, hpc i (by omega)]
        refine q3_with (by omega) (by omega) hbar (fun x7 e7 x3 e3 => ?_)
        rw [mnl_1 hb] at hn'
        have hm := mnl_b (bar := bar) (z := z) (V := vt bar M z k) (S := k) i
        have hbw : bw bar (vt bar M z k (k ^^^ 2 ^ i)) (z i) ≤ 700000 := by
          have a := vt_b hM hbar hz k _ hlt (by omega)
          obtain ⟨c1, c2, c3⟩ := bw_ok hbar hzi.2 a
          have := bc_le (k ^^^ 2 ^ i) M
          omega
        have e7' : x7 = nI (if bw bar (vt bar M z k (k ^^^ 2 ^ i)) (z i) < mnl bar z (vt bar M z k) k i then bw bar (vt bar M z k (k ^^^ 2 ^ i)) (z i) else mnl bar z (vt bar M z k) k i) := by
          rw [e7]
          by_cases c : bw bar (vt bar M z k (k ^^^ 2 ^ i)) (z i) < mnl bar z (vt bar M z k) k i
          · rw [if_pos c, if_pos (nI_lt c (by omega))]
          · rw [if_neg c, if_neg (nI_nlt (by omega) (by omega))]
        rw [e7', e3, nI_1]
        exact hn'
  exact main M 0 (by omega)
theorem q3_fewest {Q : Int32 → (Nat → Int32) → Nat → Prop} {bar M n3 mc ms : Nat} {z : Nat → Nat} (hM : M ≤ 14) (hM0 : 1 ≤ M) (hbar : bar ≤ 20000) (hz : ∀ j, j < M → 1 ≤ z j ∧ z j ≤ bar) {pc B : Nat → Int32} (hpc : ∀ j, j < M → pc j = nI (z j)) (hn0 : n3 ≤ 16384) (hroom : n3 < 2 ^ M → 1 ≤ mc ∧ 2 ^ M ≤ ms) (hq : ∀ B' n', (2 ^ M ≤ n3 ∧ n' = n3 ∨ n3 < 2 ^ M ∧ n' = 2 ^ M) → Q (nI (vt bar M z (2 ^ M) (2 ^ M - 1) / 32768)) B' n') : wp_X3_fewestBars Q mc ms (nI M) pc B n3 (nI bar) := by
  have h14 := p2_14 hM
  have h1 := p2_1 M
  have h2 : 2 ≤ 2 ^ M := p2_le (i := 1) hM0
  have main : ∀ n3, 2 ^ M ≤ n3 → n3 ≤ 16384 → (∀ B', Q (nI (vt bar M z (2 ^ M) (2 ^ M - 1) / 32768)) B' n3) → ∀ d k (B : Nat → Int32), k + d = 2 ^ M → 0 < k → (∀ S, S < k → B S = nI (vt bar M z k S)) → ∃ n, wl_X3_fewestBars_33 Q mc ms (nI M) pc n B n3 (nI bar) (nI (2 ^ M)) (nI k) := by
    intro n3 hn hn2 hq d
    induction d with
    | zero =>
      intro k B hk hk0 hB
      have e : k = 2 ^ M := by omega
      refine ⟨1, ?_⟩
      show wb_X3_fewestBars_33 Q _ _ _ _ _ _ _ _ _ _
      unfold wb_X3_fewestBars_33
      have ep : nI (2 ^ M) - 1 = nI (2 ^ M - 1) := by
        obtain ⟨m, em⟩ : ∃ m, 2 ^ M = m + 1 := ⟨2 ^ M - 1, by omega⟩
        rw [em]; exact nI_pred m
      have hv := vt_small hM hbar hz (show 2 ^ M - 1 < 2 ^ M by omega) (Nat.le_refl _)
      rw [ep, cl_nI (by omega), hB _ (by omega), e, show (32768 : Int32) = nI 32768 from rfl, pk_div (by omega) (by omega) (by omega)]
      exact ⟨fun _ => ⟨vp_nI (by omega) (by omega), hq _⟩, fun h => absurd (nI_le (Nat.le_refl _) (by omega)) h⟩
    | succ d ih =>
      intro k B hk hk0 hB
      obtain ⟨n, hn'⟩ := ih (k + 1) (upd B k (nI (mnl bar z (vt bar M z k) k M))) (by omega) (by omega) (fun S hS => by
        by_cases c : S = k
        · subst c; rw [pk_us, vt_k hk0]
        · rw [pk_un c, hB S (by omega), vt_s (by omega)])
      refine ⟨n + 1, ?_⟩
      show wb_X3_fewestBars_33 Q _ _ _ _ _ _ _ _ _ _
      unfold wb_X3_fewestBars_33
      refine ⟨fun h => absurd h (nI_ge (by omega) (by omega)), fun _ => q3_leastOf hM hbar hz hpc (by omega) hn hn2 hB ⟨vp_nI (by omega) (by omega), fun g10 e10 x11 e11 => ?_⟩⟩
      rw [cl_nI (by omega)] at e10
      rw [e10, e11, nI_1]
      exact hn'
  have go : ∀ n3 (B : Nat → Int32), 2 ^ M ≤ n3 → n3 ≤ 16384 → (∀ B', Q (nI (vt bar M z (2 ^ M) (2 ^ M - 1) / 32768)) B' n3) → wb_X3_fewestBars_23 Q mc ms (nI M) pc B n3 (nI bar) (nI (2 ^ M)) := by
    intro n3 B hn hn2 hq
    unfold wb_X3_fewestBars_23
    refine ⟨vp_nI (n := 0) (by omega) (by omega), fun g4 e4 => ?_⟩
    refine main n3 hn hn2 hq (2 ^ M - 1) 1 g4 (by omega) (by omega) (fun S hS => ?_)
    have e : S = 0 := by omega
    subst e
    rw [e4, show ((0 : Int32).toNatClampNeg) = 0 from rfl, pk_us, vt_0]; rfl
  unfold wp_X3_fewestBars
  intro x1 e1
  rw [sh_i M (by omega)] at e1
  rw [e1]
  refine ⟨fun h => ?_, fun h => ⟨⟨nI_pos (by omega), ?_⟩, ?_⟩⟩
  · have h' : 2 ^ M ≤ n3 := (nI_leI (by omega) (by omega)).mp h
    exact go n3 B h' hn0 (fun B' => hq B' n3 (Or.inl ⟨h', rfl⟩))
  · have h' : n3 < 2 ^ M := by
      rcases Nat.lt_or_ge n3 (2 ^ M) with c | c
      · exact c
      · exact absurd (nI_le c (by omega)) h
    rw [cl_nI (by omega)]
    exact ⟨by omega, (hroom h').1, (hroom h').2⟩
  · have h' : n3 < 2 ^ M := by
      rcases Nat.lt_or_ge n3 (2 ^ M) with c | c
      · exact c
      · exact absurd (nI_le c (by omega)) h
    rw [cl_nI (by omega)]
    exact go (2 ^ M) (fun _ => 0) (Nat.le_refl _) h14 (fun B' => hq B' _ (Or.inr ⟨h', rfl⟩))
