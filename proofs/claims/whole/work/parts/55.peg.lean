/-! pegs and masts -/
theorem nar0 : vp_nar .boolean (0 : Int32) = 0 := rfl
theorem nar1 : vp_nar .boolean (1 : Int32) = 1 := rfl
def cnt (st : Nat → Int32) : Nat → Nat
  | 0 => 0
  | n + 1 => cnt st n + (if st n = 0 then 0 else 1)
theorem cnt_s0 {st : Nat → Int32} {n : Nat} (h : st n = 0) : cnt st (n + 1) = cnt st n := by
  show cnt st n + _ = _; rw [if_pos h]; rfl
theorem cnt_s1 {st : Nat → Int32} {n : Nat} (h : ¬ st n = 0) : cnt st (n + 1) = cnt st n + 1 := by
  show cnt st n + _ = _; rw [if_neg h]
theorem cnt_le (st : Nat → Int32) : ∀ n, cnt st n ≤ n := by
  intro n
  induction n with
  | zero => exact Nat.le_refl _
  | succ n ih =>
    by_cases h : st n = 0
    · rw [cnt_s0 h]; omega
    · rw [cnt_s1 h]; omega
theorem cnt_mono (st : Nat → Int32) : ∀ d n, cnt st n ≤ cnt st (n + d) := by
  intro d
  induction d with
  | zero => intro n; exact Nat.le_refl _
  | succ d ih =>
    intro n
    have := ih n
    by_cases h : st (n + d) = 0
    · rw [← Nat.add_assoc, cnt_s0 h]; exact this
    · rw [← Nat.add_assoc, cnt_s1 h]; omega
theorem cnt_mono' {st : Nat → Int32} {a b : Nat} (h : a ≤ b) : cnt st a ≤ cnt st b := by
  have := cnt_mono st (b - a) a
  rw [show a + (b - a) = b by omega] at this
  exact this
theorem cnt_congr {st st' : Nat → Int32} : ∀ n, (∀ i, i < n → st i = st' i) → cnt st n = cnt st' n := by
  intro n
  induction n with
  | zero => intro _; rfl
  | succ n ih =>
    intro h
    show cnt st n + _ = cnt st' n + _
    rw [ih (fun i hi => h i (by omega)), h n (by omega)]
theorem cnt_lt {st : Nat → Int32} {p n : Nat} (h : p < n) (hs : ¬ st p = 0) : cnt st p < cnt st n := by
  have h1 := cnt_mono' (st := st) (show p + 1 ≤ n by omega)
  rw [cnt_s1 hs] at h1
  omega
theorem cnt_surj {st : Nat → Int32} : ∀ n j, j < cnt st n → ∃ p, p < n ∧ ¬ st p = 0 ∧ cnt st p = j := by
  intro n
  induction n with
  | zero => intro j h; exact absurd h (Nat.not_lt_zero _)
  | succ n ih =>
    intro j h
    by_cases hs : st n = 0
    · rw [cnt_s0 hs] at h
      obtain ⟨p, h1, h2, h3⟩ := ih j h
      exact ⟨p, by omega, h2, h3⟩
    · rw [cnt_s1 hs] at h
      by_cases e : j = cnt st n
      · exact ⟨n, by omega, hs, e.symm⟩
      · obtain ⟨p, h1, h2, h3⟩ := ih j (by omega)
        exact ⟨p, by omega, h2, h3⟩
theorem cnt_inj {st : Nat → Int32} {p q : Nat} (hp : ¬ st p = 0) (hq : ¬ st q = 0) (h : cnt st p = cnt st q) : p = q := by
  rcases Nat.lt_trichotomy p q with c | c | c
  · have := cnt_lt c hp; omega
  · exact c
  · have := cnt_lt c hq; omega
theorem cnt_0 {st : Nat → Int32} {n : Nat} (h : cnt st n = 0) : ∀ i, i < n → st i = 0 := by
  intro i hi
  by_cases c : st i = 0
  · exact c
  · have := cnt_lt hi c; omega
/-- the masts in order: the row that says which peg each stands at -/
def mpOk (np : Nat) (st mp : Nat → Int32) : Prop := ∀ p, p < np → ¬ st p = 0 → mp (cnt st p) = nI p
theorem q8_masts {Q : Int32 → Prop} {np : Nat} (hnp : np ≤ 40) {st : Nat → Int32} (hq : Q (nI (cnt st np))) : wp_X8_masts Q (nI np) st := by
  unfold wp_X8_masts
  have main : ∀ (d k : Nat), k + d = np → ∃ n, wl_X8_masts_4 Q (nI np) st n (nI (cnt st k)) (nI k) := by
    intro d
    induction d with
    | zero =>
      intro k hk
      refine ⟨1, ?_⟩
      show wb_X8_masts_4 Q _ _ _ _ _
      unfold wb_X8_masts_4
      have e : k = np := by omega
      subst e
      exact ⟨fun _ => hq, fun h => absurd (nI_le (Nat.le_refl k) (by omega)) h⟩
    | succ d ih =>
      intro k hk
      obtain ⟨n, hn⟩ := ih (k + 1) (by omega)
      refine ⟨n + 1, ?_⟩
      show wb_X8_masts_4 Q _ _ _ _ _
      unfold wb_X8_masts_4
      refine ⟨fun h => absurd h (nI_ge (by omega) (by omega)), fun _ => ⟨vp_nI (by omega) (by omega), ?_⟩⟩
      rw [cl_nI (by omega)]
      refine ⟨fun h => ?_, fun h => ?_⟩
      · unfold wb_X8_masts_27
        intro x hx y hy
        rw [hx, hy, nI_1, z0, nI_add, Nat.add_zero, ← cnt_s0 h]
        exact hn
      · unfold wb_X8_masts_27
        intro x hx y hy
        rw [hx, hy, nI_1, nI_1, ← cnt_s1 h]
        exact hn
  exact main np 0 (by omega)
theorem q2_listMasts {Q : Int32 → (Nat → Int32) → Prop} {np : Nat} (hnp : np ≤ 40) {v : Int32} {st mp : Nat → Int32} (hq : ∀ mp', mpOk np st mp' → Q (nI (cnt st np)) mp') : wp_X2_listMasts Q (nI np) v st mp := by
  unfold wp_X2_listMasts
  have main : ∀ (d k : Nat) (mp : Nat → Int32), k + d = np → mpOk k st mp → ∃ n, wl_X2_listMasts_7 Q (nI np) st n (nI (cnt st k)) mp (nI k) := by
    intro d
    induction d with
    | zero =>
      intro k mp hk hm
      refine ⟨1, ?_⟩
      show wb_X2_listMasts_7 Q _ _ _ _ _ _
      unfold wb_X2_listMasts_7
      have e : k = np := by omega
      subst e
      exact ⟨fun _ => hq mp hm, fun h => absurd (nI_le (Nat.le_refl k) (by omega)) h⟩
    | succ d ih =>
      intro k mp hk hm
      have hc := cnt_le st k
      by_cases hs : st k = 0
      · obtain ⟨n, hn⟩ := ih (k + 1) mp (by omega) (fun p hp hps => hm p (by
          rcases Nat.lt_or_ge p k with c | c
          · exact c
          · exact absurd (by rw [show p = k by omega]; exact hs) hps) hps)
        refine ⟨n + 1, ?_⟩
        show wb_X2_listMasts_7 Q _ _ _ _ _ _
        unfold wb_X2_listMasts_7
        refine ⟨fun h => absurd h (nI_ge (by omega) (by omega)), fun _ => ⟨vp_nI (by omega) (by omega), ?_⟩⟩
        rw [cl_nI (by omega)]
        refine ⟨fun _ => ?_, fun h => absurd hs h⟩
        unfold wb_X2_listMasts_44
        intro y hy
        rw [hy, nI_1, ← cnt_s0 hs]
        exact hn
      · obtain ⟨n, hn⟩ := ih (k + 1) (upd mp (cnt st k) (nI k)) (by omega) (fun p hp hps => by
          rcases Nat.lt_or_ge p k with c | c
          · have := cnt_lt c hps
            rw [pk_un (by omega)]
            exact hm p c hps
          · have e : p = k := by omega
            rw [e, pk_us])
        refine ⟨n + 1, ?_⟩
        show wb_X2_listMasts_7 Q _ _ _ _ _ _
        unfold wb_X2_listMasts_7
        refine ⟨fun h => absurd h (nI_ge (by omega) (by omega)), fun _ => ⟨vp_nI (by omega) (by omega), ?_⟩⟩
        rw [cl_nI (show k < 2147483648 by omega)]
        refine ⟨fun h => absurd h hs, fun _ => ⟨vp_nI (by omega) (by omega), fun g hg x hx => ?_⟩⟩
        rw [cl_nI (by omega)] at hg
        unfold wb_X2_listMasts_44
        intro y hy
        rw [hy, nI_1, hg, hx, nI_1, ← cnt_s1 hs]
        exact hn
  exact main np 0 mp (by omega) (fun p hp => absurd hp (Nat.not_lt_zero _))
theorem q2_has {A B : Prop} {np : Nat} (hnp : np ≤ 40) {p : Int32} (hB : ∀ k : Nat, k < np → p = nI k → B) (hA : (∀ k : Nat, k < np → ¬ p = nI k) → ¬ (0 ≤ p.toInt ∧ p.toInt < np) → A) : wp_X2_has (fun r => (r = 0 → A) ∧ (¬ r = 0 → B)) (nI np) p := by
  unfold wp_X2_has
  refine ⟨fun h => ⟨b_01, ⟨fun _ => hA (fun k hk e => ?_) ?_, fun e => absurd rfl e⟩⟩, fun h => ⟨fun h' => ⟨b_01, ⟨fun _ => hA (fun k hk e => ?_) ?_, fun e => absurd rfl e⟩⟩, fun h' => ⟨b_11, ⟨fun e => absurd e n10, fun _ => ?_⟩⟩⟩⟩
  · rw [e, x_lt, zt_0, nI_t (by omega)] at h; omega
  · rw [x_lt, zt_0] at h; omega
  · rw [e] at h'; exact nI_ge hk (by omega) h'
  · rw [x_le, nI_t (by omega)] at h'; omega
  · rw [x_lt, zt_0] at h
    rw [x_le, nI_t (by omega)] at h'
    exact hB p.toInt.toNat (by omega) (x_of0 (by omega))
theorem q8_isPeg {A B : Prop} {np : Nat} (hnp : np ≤ 40) {p : Int32} (hB : ∀ k : Nat, k < np → p = nI k → B) (hA : ¬ (0 ≤ p.toInt ∧ p.toInt < np) → A) : wp_X8_isPeg (fun r => (r = 0 → A) ∧ (¬ r = 0 → B)) (nI np) p := by
  unfold wp_X8_isPeg
  have e1 : (nI np - 1).toInt = (np : Int) - 1 := by
    rw [x_sub (by rw [nI_t (by omega), zt_1]; omega), nI_t (by omega), zt_1]
  refine q8_in (fun h => ⟨b_11, ⟨fun e => absurd e n10, fun _ => ?_⟩⟩) (fun h => ⟨b_01, ⟨fun _ => hA ?_, fun e => absurd rfl e⟩⟩)
  · rw [zt_0, e1] at h
    exact hB p.toInt.toNat (by omega) (x_of0 (by omega))
  · rw [zt_0, e1] at h; omega
/-- the pegs of both sides -/
def pgOk (E : Int) (np : Nat) (pl pr sd st pl' pr' sd' st' : Nat → Int32) : Prop := np ≤ 40 ∧ (∀ i, i < np → pl i = pl' i ∧ pr i = pr' i ∧ sd i = sd' i ∧ st i = st' i ∧ (st i = 0 ∨ st i = 1) ∧ (st i = 0 → sd i = 0) ∧ 0 ≤ (pl i).toInt ∧ (pl i).toInt ≤ E ∧ 1 ≤ (pr i).toInt ∧ (pr i).toInt ≤ 1000 ∧ -400 ≤ (sd i).toInt ∧ (sd i).toInt ≤ 400) ∧ ∀ i j, i < j → j < np → (pl i).toInt < (pl j).toInt
theorem pg_cnt {E : Int} {np : Nat} {pl pr sd st pl' pr' sd' st' : Nat → Int32} (h : pgOk E np pl pr sd st pl' pr' sd' st') : ∀ k, k ≤ np → cnt st' k = cnt st k := fun k hk => cnt_congr k (fun i hi => ((h.2.1 i (by omega)).2.2.2.1).symm)
theorem r_mast {J : Int32 → (Nat → Int32) → (Nat → Int32) → (Nat → Int32) → (Nat → Int32) → (Nat → Int32) → Prop} {E : Int} {np : Nat} {pl pr sd st pl' pr' sd' st' mp : Nat → Int32} {ms : Int32} (h : pgOk E np pl pr sd st pl' pr' sd' st')
    {a b : Int32} (hJ0 : J ms sd st mp sd' st') (hJ : ∀ sd2 st2 mp2 sd2' st2', pgOk E np pl pr sd2 st2 pl' pr' sd2' st2' → mpOk np st2 mp2 → J (nI (cnt st2 np)) sd2 st2 mp2 sd2' st2') :
    wp_X7_mast (fun r1 m1 m2 m3 m4 => wp_X8_mast (fun r2 n1 n2 => r1 = r2 ∧ J m1 m2 m3 m4 n2 n1) (nI np) st' sd' a b) (nI np) ms sd st mp a b := by
  have hnp := h.1
  unfold wp_X7_mast wp_X8_mast
  refine q2_has hnp (fun k hk ea => ?_) (fun _ hk => q8_isPeg hnp (fun k hk' e => absurd (by rw [e, nI_t (by omega)]; omega) hk) (fun _ => ⟨rfl, hJ0⟩))
  refine q7_if (-400) 400 rfl rfl (fun hb => ?_) (fun hb => q8_isPeg hnp (fun _ _ _ => q8_if (-400) 400 rfl rfl (fun q => absurd q hb) (fun _ => ⟨rfl, hJ0⟩)) (fun q => absurd (by rw [ea, nI_t (by omega)]; omega) q))
  unfold wp_X2_raise
  have hin : vp_in a 40 := by rw [ea]; exact vp_nI (by omega) (by omega)
  have hcl : a.toNatClampNeg = k := by rw [ea]; exact cl_nI (by omega)
  refine ⟨hin, fun g1 e1 => ⟨hin, fun g2 e2 => q2_listMasts hnp (fun mp' hmp => ?_)⟩⟩
  rw [hcl, nar1] at e1
  rw [hcl] at e2
  refine q8_isPeg hnp (fun _ _ _ => q8_if (-400) 400 rfl rfl (fun _ => ⟨hin, fun g3 e3 => ⟨hin, fun g4 e4 => ?_⟩⟩) (fun q => absurd hb q)) (fun q => absurd (by rw [ea, nI_t (by omega)]; omega) q)
  rw [hcl, nar1] at e3
  rw [hcl] at e4
  have hpg : pgOk E np pl pr g2 g1 pl' pr' g4 g3 := by
    refine ⟨hnp, fun i hi => ?_, h.2.2⟩
    obtain ⟨q1, q2, q3, q4, q5, q6, q7, q8, q9, q10, q11, q12⟩ := h.2.1 i hi
    by_cases c : i = k
    · subst c
      rw [e1, e2, e3, e4, pk_us, pk_us, pk_us, pk_us]
      exact ⟨q1, q2, rfl, rfl, Or.inr rfl, fun z => absurd z n10, q7, q8, q9, q10, hb.1, hb.2⟩
    · rw [e1, e2, e3, e4, pk_un c, pk_un c, pk_un c, pk_un c]
      exact ⟨q1, q2, q3, q4, q5, q6, q7, q8, q9, q10, q11, q12⟩
  refine q8_masts hnp ⟨?_, hJ _ _ _ _ _ hpg hmp⟩
  rw [pg_cnt hpg np (Nat.le_refl _)]
theorem r_fell {J : Int32 → (Nat → Int32) → (Nat → Int32) → (Nat → Int32) → (Nat → Int32) → (Nat → Int32) → Prop} {E : Int} {np : Nat} {pl pr sd st pl' pr' sd' st' mp : Nat → Int32} {ms : Int32} (h : pgOk E np pl pr sd st pl' pr' sd' st')
    {a : Int32} (hJ0 : J ms sd st mp sd' st') (hJ : ∀ sd2 st2 mp2 sd2' st2', pgOk E np pl pr sd2 st2 pl' pr' sd2' st2' → mpOk np st2 mp2 → J (nI (cnt st2 np)) sd2 st2 mp2 sd2' st2') :
    wp_X7_fell (fun r1 m1 m2 m3 m4 => wp_X8_fell (fun r2 n1 n2 => r1 = r2 ∧ J m1 m2 m3 m4 n2 n1) (nI np) st' sd' a) (nI np) ms sd st mp a := by
  have hnp := h.1
  unfold wp_X7_fell wp_X8_fell
  refine q2_has hnp (fun k hk ea => ?_) (fun _ hk => q8_isPeg hnp (fun k hk' e => absurd (by rw [e, nI_t (by omega)]; omega) hk) (fun _ => ⟨rfl, hJ0⟩))
  have hin : vp_in a 40 := by rw [ea]; exact vp_nI (by omega) (by omega)
  have hcl : a.toNatClampNeg = k := by rw [ea]; exact cl_nI (by omega)
  have hpeg : ¬ ¬ (0 ≤ a.toInt ∧ a.toInt < np) := fun q => q (by rw [ea, nI_t (by omega)]; omega)
  have hst := (h.2.1 k hk).2.2.2.1
  refine ⟨hin, ?_⟩
  rw [hcl]
  refine ⟨fun z => q8_isPeg hnp (fun _ _ _ => ⟨hin, ⟨fun _ => ⟨rfl, hJ0⟩, fun q => absurd (by rw [← hst]; exact z) q⟩⟩) (fun q => absurd q hpeg), fun z => ?_⟩
  unfold wp_X2_takeDown
  refine ⟨hin, fun g1 e1 => ⟨hin, fun g2 e2 => q2_listMasts hnp (fun mp' hmp => ?_)⟩⟩
  rw [hcl, nar0] at e1
  rw [hcl] at e2
  refine q8_isPeg hnp (fun _ _ _ => ⟨hin, ⟨fun q => absurd (by rw [hst]; exact q) z, fun _ => ⟨hin, fun g3 e3 => ⟨hin, fun g4 e4 => ?_⟩⟩⟩⟩) (fun q => absurd q hpeg)
  rw [nar0] at e3
  have hpg : pgOk E np pl pr g2 g1 pl' pr' g4 g3 := by
    refine ⟨hnp, fun i hi => ?_, h.2.2⟩
    obtain ⟨q1, q2, q3, q4, q5, q6, q7, q8, q9, q10, q11, q12⟩ := h.2.1 i hi
    by_cases c : i = k
    · subst c
      rw [e1, e2, e3, e4, pk_us, pk_us, pk_us, pk_us]
      exact ⟨q1, q2, rfl, rfl, Or.inl rfl, fun _ => rfl, q7, q8, q9, q10, by decide, by decide⟩
    · rw [e1, e2, e3, e4, pk_un c, pk_un c, pk_un c, pk_un c]
      exact ⟨q1, q2, q3, q4, q5, q6, q7, q8, q9, q10, q11, q12⟩
  refine q8_masts hnp ⟨?_, hJ _ _ _ _ _ hpg hmp⟩
  rw [pg_cnt hpg np (Nat.le_refl _)]
theorem r_about {J0 : Prop} {E : Int} {np : Nat} {pl pr sd st pl' pr' sd' st' : Nat → Int32} (h : pgOk E np pl pr sd st pl' pr' sd' st') {a b : Int32} (hJ : J0) :
    wp_X7_about (fun r1 => wp_X8_about (fun r2 => r1 = r2 ∧ J0) (nI np) pl' pr' st' sd' a b) (nI np) pl pr sd st a b := by
  have hnp := h.1
  unfold wp_X7_about wp_X8_about
  refine q2_has hnp (fun k hk ea => ?_) (fun _ hk => q8_isPeg hnp (fun k hk' e => absurd (by rw [e, nI_t (by omega)]; omega) hk) (fun _ => ⟨rfl, hJ⟩))
  have hin : vp_in a 40 := by rw [ea]; exact vp_nI (by omega) (by omega)
  have hcl : a.toNatClampNeg = k := by rw [ea]; exact cl_nI (by omega)
  have hpeg : ¬ ¬ (0 ≤ a.toInt ∧ a.toInt < np) := fun q => q (by rw [ea, nI_t (by omega)]; omega)
  obtain ⟨q1, q2, q3, q4, q5, q6, -⟩ := h.2.1 k hk
  rw [hcl]
  refine ⟨fun z => q8_isPeg hnp (fun _ _ _ => ⟨fun _ => ⟨rfl, hJ⟩, fun y => absurd z (by omega), fun y => absurd z (by omega), fun y => absurd z (by omega), fun y => absurd z (by omega)⟩) (fun q => absurd q hpeg), fun z => ⟨hin, ?_⟩, fun z => ⟨hin, ?_⟩, fun z => ⟨hin, fun y => ?_, fun y => ?_⟩, fun z => ⟨hin, ?_⟩⟩
  · exact q8_isPeg hnp (fun _ _ _ => ⟨fun y => absurd y (by omega), fun _ => ⟨hin, q1, hJ⟩, fun y => absurd y (by omega), fun y => absurd y (by omega), fun y => absurd y (by omega)⟩) (fun q => absurd q hpeg)
  · exact q8_isPeg hnp (fun _ _ _ => ⟨fun y => absurd y (by omega), fun y => absurd y (by omega), fun _ => ⟨hin, q2, hJ⟩, fun y => absurd y (by omega), fun y => absurd y (by omega)⟩) (fun q => absurd q hpeg)
  · exact q8_isPeg hnp (fun _ _ _ => ⟨fun y => absurd y (by omega), fun y => absurd y (by omega), fun y => absurd y (by omega), fun _ => ⟨hin, fun _ => ⟨rfl, hJ⟩, fun w => absurd (by rw [← q4]; exact y) w⟩, fun y => absurd y (by omega)⟩) (fun q => absurd q hpeg)
  · exact q8_isPeg hnp (fun _ _ _ => ⟨fun y => absurd y (by omega), fun y => absurd y (by omega), fun y => absurd y (by omega), fun _ => ⟨hin, fun w => absurd (by rw [q4]; exact w) y, fun _ => ⟨rfl, hJ⟩⟩, fun y => absurd y (by omega)⟩) (fun q => absurd q hpeg)
  · exact q8_isPeg hnp (fun _ _ _ => ⟨fun y => absurd y (by omega), fun y => absurd y (by omega), fun y => absurd y (by omega), fun y => absurd y (by omega), fun _ => ⟨hin, fun w => ⟨q6 (by rw [q4]; exact w), hJ⟩, fun _ => ⟨hin, q3, hJ⟩⟩⟩) (fun q => absurd q hpeg)
