/-! price, told, shortOne -/
def psum (st pr : Nat → Int32) : Nat → Int32
  | 0 => 0
  | k + 1 => if st k = 0 then psum st pr k else psum st pr k + pr k
theorem psum_0 {st pr : Nat → Int32} {k : Nat} (h : st k = 0) : psum st pr (k + 1) = psum st pr k := if_pos h
theorem psum_1 {st pr : Nat → Int32} {k : Nat} (h : ¬ st k = 0) : psum st pr (k + 1) = psum st pr k + pr k := if_neg h
theorem psum_congr {st pr st' pr' : Nat → Int32} : ∀ n, (∀ i, i < n → st i = st' i ∧ pr i = pr' i) → psum st pr n = psum st' pr' n := by
  intro n
  induction n with
  | zero => intro _; rfl
  | succ n ih =>
    intro h
    obtain ⟨h1, h2⟩ := h n (by omega)
    have e := ih (fun i hi => h i (by omega))
    by_cases c : st n = 0
    · rw [psum_0 c, psum_0 (by rw [← h1]; exact c), e]
    · rw [psum_1 c, psum_1 (by rw [← h1]; exact c), e, h2]
theorem q2_price {Q : Int32 → Prop} {np : Nat} (hnp : np ≤ 40) {st mp pr : Nat → Int32} (hm : mpOk np st mp) (hq : Q (psum st pr np)) : wp_X2_priceOfMasts Q (nI (cnt st np)) pr mp := by
  have hc := cnt_le st np
  unfold wp_X2_priceOfMasts
  have main : ∀ (d k : Nat), k + d = np → ∃ n, wl_X2_priceOfMasts_4 Q (nI (cnt st np)) pr mp n (psum st pr k) (nI (cnt st k)) := by
    intro d
    induction d with
    | zero =>
      intro k hk
      refine ⟨1, ?_⟩
      show wb_X2_priceOfMasts_4 Q _ _ _ _ _ _
      unfold wb_X2_priceOfMasts_4
      have e : k = np := by omega
      subst e
      exact ⟨fun _ => hq, fun h => absurd (nI_le (Nat.le_refl _) (by omega)) h⟩
    | succ d ih =>
      intro k hk
      obtain ⟨n, hn⟩ := ih (k + 1) (by omega)
      by_cases hs : st k = 0
      · rw [psum_0 hs, cnt_s0 hs] at hn
        exact ⟨n, hn⟩
      · have hlt := cnt_lt (show k < np by omega) hs
        refine ⟨n + 1, ?_⟩
        show wb_X2_priceOfMasts_4 Q _ _ _ _ _ _
        unfold wb_X2_priceOfMasts_4
        refine ⟨fun h => absurd h (nI_ge hlt (by omega)), fun _ => ⟨vp_nI (by omega) (by omega), ?_⟩⟩
        rw [cl_nI (by omega), hm k (by omega) hs]
        refine ⟨vp_nI (by omega) (by omega), fun x4 e4 x5 e5 => ?_⟩
        rw [cl_nI (by omega)] at e4
        rw [e4, e5, nI_1, ← psum_1 hs, ← cnt_s1 hs]
        exact hn
  exact main np 0 (by omega)
theorem q8_price {Q : Int32 → Prop} {np : Nat} (hnp : np ≤ 40) {st pr : Nat → Int32} (hq : Q (psum st pr np)) : wp_X8_price Q (nI np) pr st := by
  unfold wp_X8_price
  have main : ∀ (d k : Nat), k + d = np → ∃ n, wl_X8_price_4 Q (nI np) pr st n (psum st pr k) (nI k) := by
    intro d
    induction d with
    | zero =>
      intro k hk
      refine ⟨1, ?_⟩
      show wb_X8_price_4 Q _ _ _ _ _ _
      unfold wb_X8_price_4
      have e : k = np := by omega
      subst e
      exact ⟨fun _ => hq, fun h => absurd (nI_le (Nat.le_refl _) (by omega)) h⟩
    | succ d ih =>
      intro k hk
      obtain ⟨n, hn⟩ := ih (k + 1) (by omega)
      have hin : vp_in (nI k) 40 := vp_nI (by omega) (by omega)
      refine ⟨n + 1, ?_⟩
      show wb_X8_price_4 Q _ _ _ _ _ _
      unfold wb_X8_price_4 wb_X8_price_32
      refine ⟨fun h => absurd h (nI_ge (by omega) (by omega)), fun _ => ⟨hin, ?_⟩⟩
      rw [cl_nI (by omega)]
      refine ⟨fun hs x4 e4 x5 e5 => ?_, fun hs => ⟨hin, fun x4 e4 x5 e5 => ?_⟩⟩
      · rw [e4, e5, nI_1, Int32.add_zero, ← psum_0 (pr := pr) hs]; exact hn
      · rw [e4, e5, nI_1, ← psum_1 hs]; exact hn
  exact main np 0 (by omega)
theorem r_price {J0 : Prop} {E : Int} {np : Nat} {pl pr sd st pl' pr' sd' st' mp : Nat → Int32} (hp : pgOk E np pl pr sd st pl' pr' sd' st') (hm : mpOk np st mp) (hJ : J0) : wp_X7_price (fun r1 => wp_X8_price (fun r2 => r1 = r2 ∧ J0) (nI np) pr' st') (nI (cnt st np)) pr mp := by
  unfold wp_X7_price
  exact q2_price hp.1 hm (q8_price hp.1 ⟨psum_congr np (fun i hi => ⟨(hp.2.1 i hi).2.2.2.1, (hp.2.1 i hi).2.1⟩), hJ⟩)
theorem r_told {J0 : Prop} {E : Int} {np : Nat} {e b D : Int32} {pl pr sd st pl' pr' sd' st' mp : Nat → Int32} (hp : pgOk E np pl pr sd st pl' pr' sd' st') (hm : mpOk np st mp) {x : Int32} (hJ : J0) : wp_X7_told (fun r1 => wp_X8_told (fun r2 => r1 = r2 ∧ J0) e b (nI np) pl' st' D x) e b (nI np) (nI (cnt st np)) pl mp D x := by
  have hnp := hp.1
  have hc := cnt_le st np
  have hcn : cnt st' np = cnt st np := pg_cnt hp np (Nat.le_refl _)
  have cst : ∀ i, i < np → st i = st' i := fun i hi => (hp.2.1 i hi).2.2.2.1
  have cpl : ∀ i, i < np → pl i = pl' i := fun i hi => (hp.2.1 i hi).1
  unfold wp_X7_told wp_X8_told
  have N : ∀ {P : Prop} {a b : Int}, x.toInt = a → a ≠ b → x.toInt = b → P := fun h1 h2 h3 => absurd (h1.symm.trans h3) h2
  refine ⟨fun z => q8_masts hnp ⟨fun _ => ⟨rfl, hJ⟩, fun y => absurd z (by omega), fun y => absurd z (by omega), fun y => absurd z (by omega), fun y => absurd z (by omega), fun y => absurd z (by omega), fun y => absurd z (by omega), fun y => absurd z (by omega)⟩,
    fun z => q8_masts hnp ⟨fun y => absurd y (by omega), fun _ => ⟨rfl, hJ⟩, N z (by decide), N z (by decide), N z (by decide), N z (by decide), N z (by decide), N z (by decide)⟩,
    fun z => q8_masts hnp ⟨fun y => absurd y (by omega), N z (by decide), fun _ => ⟨rfl, hJ⟩, N z (by decide), N z (by decide), N z (by decide), N z (by decide), N z (by decide)⟩,
    fun z => q8_masts hnp ⟨fun y => absurd y (by omega), N z (by decide), N z (by decide), fun _ => ⟨by rw [hcn], hJ⟩, N z (by decide), N z (by decide), N z (by decide), N z (by decide)⟩,
    fun z => q2_spans (by omega) (q8_masts hnp ⟨fun y => absurd y (by omega), N z (by decide), N z (by decide), N z (by decide), fun _ => ⟨fun y => ⟨?_, hJ⟩, fun y => ⟨?_, hJ⟩⟩, N z (by decide), N z (by decide), N z (by decide)⟩),
    fun z => q8_masts hnp ⟨fun y => absurd y (by omega), N z (by decide), N z (by decide), N z (by decide), N z (by decide), fun _ => ⟨rfl, hJ⟩, N z (by decide), N z (by decide)⟩,
    fun z => q8_masts hnp ⟨fun y => absurd y (by omega), N z (by decide), N z (by decide), N z (by decide), N z (by decide), N z (by decide), fun _ => ⟨rfl, hJ⟩, N z (by decide)⟩,
    fun z => ?_⟩
  · rw [x_le, zt_0, nI_t (by omega), hcn] at y
    rw [show cnt st np - 1 = 0 by omega]; rfl
  · rw [x_le, zt_0, nI_t (by omega), hcn] at y
    obtain ⟨c', e'⟩ : ∃ c', cnt st np = c' + 1 := ⟨cnt st np - 1, by omega⟩
    rw [hcn, e', nI_pred]; rfl
  · unfold wp_X2_lengthOfSpans
    have six : ∀ (Q : Int32 → Prop), Q 0 → wb_X8_told_99 Q e b (nI np) pl' st' D (-6) := fun Q hQ => by
      unfold wb_X8_told_99
      exact ⟨fun y => absurd y (by decide), fun _ => hQ⟩
    refine q2_spans (by omega) ⟨fun y => ?_, fun y => q2_spans (by omega) ?_⟩
    · rw [x_le, zt_0, nI_t (by omega)] at y
      exact q8_masts hnp ⟨fun y => absurd y (by omega), N z (by decide), N z (by decide), N z (by decide), N z (by decide), N z (by decide), N z (by decide), fun _ => ⟨fun _ => six _ ⟨rfl, hJ⟩, fun q => absurd (by rw [x_le, zt_1, nI_t (by omega)]; omega) q⟩⟩
    · rw [x_le, zt_0, nI_t (by omega)] at y
      obtain ⟨c', e'⟩ : ∃ c', cnt st np = c' + 2 := ⟨cnt st np - 2, by omega⟩
      obtain ⟨p, q, hs⟩ := spn_ex (np := np) (st := st) (i := c') (by omega)
      obtain ⟨p0, q0, hs0⟩ := spn_ex (np := np) (st := st) (i := 0) (by omega)
      have hs' := spn_congr cst hs
      have hs0' := spn_congr cst hs0
      have hqn := hs.2.1
      have hp0n : p0 < np := by have := hs0.1; have := hs0.2.1; omega
      rw [show cnt st np - 1 = c' + 1 by omega, nI_pred]
      refine q2_spanEnd hnp hm hs ?_
      rw [z0]
      refine q2_spanBegin hnp hm hs0 ?_
      refine q8_masts hnp ⟨fun y => absurd y (by omega), N z (by decide), N z (by decide), N z (by decide), N z (by decide), N z (by decide), N z (by decide), fun _ => ⟨fun w => absurd ((x_le _ _).mp w) (by rw [zt_1, nI_t (by omega)]; omega), fun _ => ?_⟩⟩
      rw [hcn, e', show nI (c' + 2) - 2 = nI c' by rw [nI_iI, nI_iI, show (2 : Int32) = iI 2 from rfl, iI_sub]; congr 1; omega]
      refine q8_endOf hnp (fun i p' q' ei hs2 => ?_) (fun hno => absurd (by rw [hcn]; omega) (hno c' (nI_t (by omega)))) (by rw [nI_t (by omega)]; omega)
      have ei' : c' = i := (nI_eq (by omega) (by have := spn_lt hs2; omega)).mp ei
      subst ei'
      obtain ⟨e1, e2⟩ := spn_uniq hs2 hs'
      subst e1 e2
      unfold wb_X8_told_99
      refine ⟨fun _ => ⟨vp_nI (by omega) (by omega), ?_⟩, fun y => absurd (nI_pos' (by omega)) y⟩
      refine q8_endOf hnp (fun i p2 q2 ei hs3 => ?_) (fun hno => absurd (by rw [hcn]; omega) (hno 0 rfl)) (by decide)
      have ei' : 0 = i := (nI_eq (by omega) (by have := spn_lt hs3; omega)).mp ei
      subst ei'
      refine q8_mastBefore hnp hs3 ⟨vp_nI (by have := hs3.1; have := hs3.2.1; omega) (by omega), ?_⟩
      obtain ⟨e1, e2⟩ := spn_uniq hs3 hs0'
      subst e1 e2
      rw [cl_nI (by omega), cl_nI (by omega), ← cpl _ hqn, ← cpl _ hp0n]
      exact ⟨rfl, hJ⟩
