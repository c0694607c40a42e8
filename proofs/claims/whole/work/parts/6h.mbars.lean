/-! the model's bars -/
def mnm (m : Nat) : Nat := if m < 3244032 then m else 3244032
theorem mnm_0 : mnm 2147483647 = 3244032 := if_neg (by omega)
theorem mnm_s {c m : Nat} (hc : c < 3244032) : mnm (if c < m then c else m) = if c < mnm m then c else mnm m := by
  unfold mnm
  by_cases h : c < m
  · rw [if_pos h, if_pos hc]
    by_cases h2 : m < 3244032
    · rw [if_pos h2, if_pos h]
    · rw [if_neg h2, if_pos hc]
  · rw [if_neg h]
    have h2 : m < 3244032 := by omega
    rw [if_pos h2, if_neg h]
theorem q8_334 {Q : Int32 → (Nat → Int32) → (Nat → Int32) → (Nat → Int32) → Prop} {vp vT vo vD vl vh : Int32} {pl st : Nat → Int32} {K194 : (Nat → Int32) → (Nat → Int32) → (Nat → Int32) → Int32 → Int32 → Int32 → Prop} {K223 : (Nat → Int32) → (Nat → Int32) → (Nat → Int32) → Int32 → Int32 → Int32 → Int32 → Prop} {sz fw us : Nat → Int32} {x y : Int32} {k i c m : Nat} (hk : k < 16384) (hc : c < 3244032) (hm : m ≤ 3244032) (e1 : fw k = nI (m / 32768)) (e2 : us k = nI (m % 32768))
    (hK : ∀ fw' us', (∀ S, S ≠ k → fw' S = fw S ∧ us' S = us S) → fw' k = nI ((if c < m then c else m) / 32768) → us' k = nI ((if c < m then c else m) % 32768) → K223 sz fw' us' x y (nI k) (nI (i + 1))) :
    wb_X8_bars_334 Q vp pl st vT vo vD vl vh K194 K223 sz fw us x y (nI k) (nI i) (nI (c / 32768)) (nI (c % 32768)) := by
  have ik : vp_in (nI k) 16384 := vp_nI (by omega) (by omega)
  have ck : (nI k).toNatClampNeg = k := cl_nI (by omega)
  have keep : ¬ c < m → ∀ x26 : Int32, x26 = nI i + 1 → K223 sz fw us x y (nI k) x26 := by
    intro h x26 e26
    rw [e26, nI_1]
    rw [if_neg h] at hK
    exact hK fw us (fun S _ => ⟨rfl, rfl⟩) e1 e2
  have take : c < m → ∀ g38 : Nat → Int32, g38 = upd fw k (nI (c / 32768)) → ∀ g40 : Nat → Int32, g40 = upd us k (nI (c % 32768)) → ∀ x26 : Int32, x26 = nI i + 1 → K223 sz g38 g40 x y (nI k) x26 := by
    intro h g38 e38 g40 e40 x26 e26
    rw [e26, nI_1]
    rw [if_pos h] at hK
    exact hK g38 g40 (fun S hS => by rw [e38, e40, pk_un hS, pk_un hS]; exact ⟨rfl, rfl⟩) (by rw [e38, pk_us]) (by rw [e40, pk_us])
  unfold wb_X8_bars_334 wb_X8_bars_372 wb_X8_bars_390
  rw [ck, e1, e2]
  refine ⟨ik, fun h => ⟨ik, fun g38 e38 => ⟨ik, fun g40 e40 => take ?_ g38 e38 g40 e40⟩⟩, fun h => ⟨ik, fun h2 => ⟨ik, fun h3 => keep ?_, fun h3 => ⟨ik, fun g38 e38 => ⟨ik, fun g40 e40 => take ?_ g38 e38 g40 e40⟩⟩⟩, fun h2 => keep ?_⟩⟩
  · rw [nI_ltI (by omega) (by omega)] at h; omega
  · rw [nI_eq (by omega) (by omega)] at h2
    rw [nI_leI (by omega) (by omega)] at h3
    omega
  · rw [nI_eq (by omega) (by omega)] at h2
    rw [nI_leI (by omega) (by omega)] at h3
    omega
  · rw [nI_ltI (by omega) (by omega)] at h
    rw [nI_eq (by omega) (by omega)] at h2
    omega
/-- the tables below a set -/
def tb (bar M : Nat) (z : Nat → Nat) (k : Nat) (fw us : Nat → Int32) : Prop := (fw 0 = 0 ∧ us 0 = nI bar) ∧ ∀ S, 0 < S → S < k → fw S = nI (vt bar M z k S / 32768) ∧ us S = nI (vt bar M z k S % 32768)
theorem q8_set {Q : Int32 → (Nat → Int32) → (Nat → Int32) → (Nat → Int32) → Prop} {vp vT vo vD vl vh : Int32} {pl st : Nat → Int32} {K194 : (Nat → Int32) → (Nat → Int32) → (Nat → Int32) → Int32 → Int32 → Int32 → Prop} {bar M k : Nat} {z : Nat → Nat} (hM : M ≤ 14) (hbar : bar ≤ 20000) (hz : ∀ j, j < M → 1 ≤ z j ∧ z j ≤ bar) {sz : Nat → Int32} (hsz : ∀ j, j < M → sz j = nI (z j)) (hk0 : 0 < k) (hk : k < 2 ^ M)
    (hK : ∀ fw us, tb bar M z (k + 1) fw us → K194 sz fw us (nI bar) (nI M) (nI (k + 1))) :
    ∀ d, ∃ n, ∀ i (fw us : Nat → Int32), i + d = M → tb bar M z k fw us → fw k = nI (mnm (mnl bar z (vt bar M z k) k i) / 32768) → us k = nI (mnm (mnl bar z (vt bar M z k) k i) % 32768) → wl_X8_bars_223 Q vp pl st vT vo vD vl vh K194 n sz fw us (nI bar) (nI M) (nI k) (nI i) := by
  have h14 := p2_14 hM
  have cand : ∀ i, i < M → k.testBit i = true → vOk bar 16 (bw bar (vt bar M z k (k ^^^ 2 ^ i)) (z i)) := fun i hi hb => by
    have a := vt_b hM hbar hz k _ (bt_lt hb) (by omega)
    obtain ⟨c1, c2, c3⟩ := bw_ok hbar (hz i hi).2 a
    have e := bc_x hb M
    rw [if_pos hi] at e
    have := bc_le k M
    exact ⟨c1, by omega, c3⟩
  intro d
  induction d with
  | zero =>
    refine ⟨1, fun i fw us hi ht e1 e2 => ?_⟩
    have e : i = M := by omega
    subst e
    show wb_X8_bars_223 Q _ _ _ _ _ _ _ _ _ _ _ _ _ _ _ _ _
    unfold wb_X8_bars_223
    refine ⟨fun _ x24 e24 => ?_, fun h => absurd (nI_le (Nat.le_refl _) (by omega)) h⟩
    rw [e24, nI_1]
    have hlt : mnm (mnl bar z (vt bar i z k) k i) = vt bar i z (k + 1) k := by
      obtain ⟨j, j1, j2⟩ := bt_ex hk0 hk
      have a := mnl_le (bar := bar) (z := z) (V := vt bar i z k) i j j1 j2
      obtain ⟨c1, c2, c3⟩ := cand j j1 j2
      rw [vt_k hk0]
      unfold mnm
      rw [if_pos (by omega)]
    rw [hlt] at e1 e2
    refine hK fw us ⟨ht.1, fun S hS0 hS => ?_⟩
    by_cases c : S = k
    · subst c; exact ⟨e1, e2⟩
    · rw [vt_s (by omega)]; exact ht.2 S hS0 (by omega)
  | succ d ih =>
    obtain ⟨n, hn⟩ := ih
    refine ⟨n + 1, fun i fw us hi ht e1 e2 => ?_⟩
    have ii : vp_in (nI i) 14 := vp_nI (by omega) (by omega)
    have ci : (nI i).toNatClampNeg = i := cl_nI (by omega)
    show wb_X8_bars_223 Q _ _ _ _ _ _ _ _ _ _ _ _ _ _ _ _ _
    unfold wb_X8_bars_223
    refine ⟨fun h => absurd h (nI_ge (by omega) (by omega)), fun _ => ⟨fun h => ?_, fun h => ?_⟩⟩
    · have hb := (bt_shr (by omega) (by omega)).mp h
      have hlt := bt_lt hb
      have hzi := hz i (by omega)
      have cd := cand i (by omega) hb
      obtain ⟨cd1, cd2, cd3⟩ := cd
      intro x27 e27
      rw [sh_i i (by omega), bt_clr hb] at e27
      have il : vp_in (nI (k ^^^ 2 ^ i)) 16384 := vp_nI (by omega) (by omega)
      have cl : (nI (k ^^^ 2 ^ i)).toNatClampNeg = k ^^^ 2 ^ i := cl_nI (by omega)
      have mm : mnm (mnl bar z (vt bar M z k) k i) ≤ 3244032 := by
        unfold mnm
        by_cases w : mnl bar z (vt bar M z k) k i < 3244032
        · rw [if_pos w]; omega
        · rw [if_neg w]; omega
      -- the end of each way
      have fin : wb_X8_bars_334 Q vp pl st vT vo vD vl vh K194 (wl_X8_bars_223 Q vp pl st vT vo vD vl vh K194 n) sz fw us (nI bar) (nI M) (nI k) (nI i) (nI (bw bar (vt bar M z k (k ^^^ 2 ^ i)) (z i) / 32768)) (nI (bw bar (vt bar M z k (k ^^^ 2 ^ i)) (z i) % 32768)) := by
        refine q8_334 (by omega) (by omega) mm e1 e2 (fun fw' us' hs k1 k2 => ?_)
        refine hn (i + 1) fw' us' (by omega) ⟨?_, fun S hS0 hS => ?_⟩ ?_ ?_
        · obtain ⟨q1, q2⟩ := hs 0 (by omega)
          rw [q1, q2]; exact ht.1
        · obtain ⟨q1, q2⟩ := hs S (by omega)
          rw [q1, q2]; exact ht.2 S hS0 hS
        · rw [mnl_1 hb, mnm_s (by omega)]; exact k1
        · rw [mnl_1 hb, mnm_s (by omega)]; exact k2
      unfold wb_X8_bars_276 wb_X8_bars_302
      rw [e27, cl, ci, hsz i (by omega)]
      refine ⟨il, ii, ?_⟩
      rcases Nat.eq_zero_or_pos (k ^^^ 2 ^ i) with q0 | q0
      · rw [q0, ht.1.1, ht.1.2, nI_add]
        rw [q0, vt_0] at fin
        have eb : bw bar 32768 (z i) = 32768 + z i := by
          unfold bw
          rw [if_pos (by omega)]
        rw [eb, show (32768 + z i) / 32768 = 1 by omega, show (32768 + z i) % 32768 = z i by omega] at fin
        refine ⟨fun _ => ⟨fun _ => ⟨by rw [← q0]; exact il, fun _ => ⟨ii, fin⟩, fun w => absurd rfl w⟩, fun w => absurd rfl w⟩, fun w => absurd (nI_lt (by omega) (by omega)) w⟩
      · obtain ⟨t1, t2⟩ := ht.2 _ q0 hlt
        rw [t1, t2, nI_add, nI_1]
        unfold bw at fin
        have hv := vt_small hM hbar hz hlt (by omega)
        generalize vt bar M z k (k ^^^ 2 ^ i) = v at fin hv ⊢
        refine ⟨fun w => ?_, fun w => ?_⟩
        · rw [nI_ltI (by omega) (by omega)] at w
          rw [if_neg (by omega), show ((v / 32768 + 1) * 32768 + z i) / 32768 = v / 32768 + 1 by omega, show ((v / 32768 + 1) * 32768 + z i) % 32768 = z i by omega] at fin
          exact ⟨fun _ => ⟨il, fun _ => ⟨ii, fin⟩, fun u => absurd rfl u⟩, fun u => absurd rfl u⟩
        · rw [nI_ltI (by omega) (by omega)] at w
          rw [if_pos (by omega), show (v + z i) / 32768 = v / 32768 by omega, show (v + z i) % 32768 = v % 32768 + z i by omega] at fin
          exact ⟨fun u => absurd u n10, fun _ => ⟨il, fun u => absurd u n10, fun _ => ⟨il, ii, fin⟩⟩⟩
    · have hb : ¬ k.testBit i = true := fun w => h ((bt_shr (by omega) (by omega)).mpr w)
      unfold wb_X8_bars_390
      intro x26 e26
      rw [e26, nI_1]
      refine hn (i + 1) fw us (by omega) ht ?_ ?_
      · rw [mnl_0 hb]; exact e1
      · rw [mnl_0 hb]; exact e2
theorem q8_sets {Q : Int32 → (Nat → Int32) → (Nat → Int32) → (Nat → Int32) → Prop} {vp vT vo vD vl vh : Int32} {pl st : Nat → Int32} {bar M : Nat} {z : Nat → Nat} (hM : M ≤ 14) (hM0 : 1 ≤ M) (hbar : bar ≤ 20000) (hz : ∀ j, j < M → 1 ≤ z j ∧ z j ≤ bar) {sz : Nat → Int32} (hsz : ∀ j, j < M → sz j = nI (z j)) (hq : ∀ fw us, Q (nI (vt bar M z (2 ^ M) (2 ^ M - 1) / 32768)) sz fw us) :
    ∀ d, ∃ n, ∀ k (fw us : Nat → Int32), k + d = 2 ^ M → 0 < k → tb bar M z k fw us → wl_X8_bars_194 Q vp pl st vT vo vD vl vh n sz fw us (nI bar) (nI M) (nI k) := by
  have h14 := p2_14 hM
  have h1 := p2_1 M
  have h2 : 2 ≤ 2 ^ M := p2_le (i := 1) hM0
  intro d
  induction d with
  | zero =>
    refine ⟨1, fun k fw us hk hk0 hI => ?_⟩
    have e : k = 2 ^ M := by omega
    show wb_X8_bars_194 Q _ _ _ _ _ _ _ _ _ _ _ _ _ _ _
    unfold wb_X8_bars_194
    rw [sh_i M (by omega)]
    have ep : nI (2 ^ M) - 1 = nI (2 ^ M - 1) := by
      obtain ⟨m, em⟩ : ∃ m, 2 ^ M = m + 1 := ⟨2 ^ M - 1, by omega⟩
      rw [em]; exact nI_pred m
    rw [ep, cl_nI (by omega), (hI.2 (2 ^ M - 1) (by omega) (by omega)).1, e]
    exact ⟨fun _ => ⟨vp_nI (by omega) (by omega), hq _ _⟩, fun h => absurd (nI_le (Nat.le_refl _) (by omega)) h⟩
  | succ d ih =>
    obtain ⟨n, hn⟩ := ih
    refine ⟨n + 1, fun k fw us hk hk0 hI => ?_⟩
    have ik : vp_in (nI k) 16384 := vp_nI (by omega) (by omega)
    show wb_X8_bars_194 Q _ _ _ _ _ _ _ _ _ _ _ _ _ _ _
    unfold wb_X8_bars_194
    rw [sh_i M (by omega), cl_nI (show k < 2147483648 by omega)]
    refine ⟨fun h => absurd h (nI_ge (by omega) (by omega)), fun _ => ⟨ik, fun g20 e20 => ⟨ik, fun g22 e22 => ?_⟩⟩⟩
    obtain ⟨n2, hn2⟩ := q8_set (Q := Q) (vp := vp) (vT := vT) (vo := vo) (vD := vD) (vl := vl) (vh := vh) (pl := pl) (st := st) hM hbar hz hsz hk0 (by omega) (fun fw us ht => hn (k + 1) fw us (by omega) (by omega) ht) M
    refine ⟨n2, hn2 0 g20 g22 (by omega) ⟨?_, fun S hS0 hS => ?_⟩ ?_ ?_⟩
    · rw [e20, e22, pk_un (by omega), pk_un (by omega)]; exact hI.1
    · rw [e20, e22, pk_un (by omega), pk_un (by omega)]; exact hI.2 S hS0 hS
    · rw [e20, pk_us]
      show (99 : Int32) = nI (mnm 2147483647 / 32768)
      rw [mnm_0]; rfl
    · rw [e22, pk_us]
      show (0 : Int32) = nI (mnm 2147483647 % 32768)
      rw [mnm_0]; rfl
