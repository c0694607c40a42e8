/-! bars: the pieces -/
def pcs (pl mp : Nat → Int32) (T o D ld hg : Int32) (F d0 j : Nat) : Int32 := iI (cutI (drU hg.toInt T.toInt o.toInt D.toInt ld.toInt ((pl (mp (F + j / d0 + 1)).toNatClampNeg).toInt - (pl (mp (F + j / d0)).toNatClampNeg).toInt) ((j % d0 : Nat) : Int)) (sgL T.toInt D.toInt))
theorem pcs_at {np : Nat} (hnp : np ≤ 40) {st mp pl : Nat → Int32} (hm : mpOk np st mp) {T o D ld hg : Int32} {F d0 j p q : Nat} (h : spn np st (F + j / d0) p q) : pcs pl mp T o D ld hg F d0 j = iI (cutI (drU hg.toInt T.toInt o.toInt D.toInt ld.toInt ((pl q).toInt - (pl p).toInt) ((j % d0 : Nat) : Int)) (sgL T.toInt D.toInt)) := by
  obtain ⟨m1, m2⟩ := mp_at hm h
  have hpq := h.1
  have hqn := h.2.1
  unfold pcs
  rw [m1, m2, cl_nI (by omega), cl_nI (by omega)]
def gdp (bar : Int32) (v : Int32) : Prop := 1 ≤ v.toInt ∧ v.toInt ≤ bar.toInt
theorem dm {d0 e i : Nat} (hi : i < d0) : (e * d0 + i) / d0 = e ∧ (e * d0 + i) % d0 = i := by
  constructor
  · rw [Nat.add_comm, Nat.add_mul_div_right _ _ (by omega), Nat.div_eq_of_lt hi, Nat.zero_add]
  · rw [Nat.add_comm, Nat.add_mul_mod_self_right, Nat.mod_eq_of_lt hi]
theorem q7_pieces {Q : Int32 → Int32 → (Nat → Int32) → (Nat → Int32) → Nat → Prop} {mc ms np d0 F G M n3 : Nat} (hnp : np ≤ 40) {st mp pl : Nat → Int32} (hm : mpOk np st mp) (hpl : ∀ i, i < np → 0 ≤ (pl i).toInt ∧ (pl i).toInt ≤ 4000) {T o D ld hg bar : Int32} (hc : crOk T o D ld hg) (hd : D.toInt = (d0 : Int)) (hFG : F ≤ G) (hG : G + 1 < cnt st np) (eM : M = (G - F + 1) * d0) (hM : M ≤ 14) {pc0 B : Nat → Int32}
    (hQ0 : (∃ j, j < M ∧ ¬ gdp bar (pcs pl mp T o D ld hg F d0 j)) → ∀ c p, Q (-5) c p B n3)
    (hQ1 : (∀ j, j < M → gdp bar (pcs pl mp T o D ld hg F d0 j)) → ∀ p, (∀ j, j < M → p j = pcs pl mp T o D ld hg F d0 j) → wp_X3_fewestBars (fun r10 m11 m12 => Q r10 (nI M) p m11 m12) mc ms (nI M) p B n3 bar) :
    ∃ n, wl_X7_bars_76 Q mc ms (nI (cnt st np)) pl mp T o D ld hg n 0 pc0 B n3 (nI G) bar (nI F) := by
  have hcl := cnt_le st np
  have hD : 1 ≤ D.toInt ∧ D.toInt ≤ 12 := ⟨hc.2.2.2.2.1, hc.2.2.2.2.2.1⟩
  have eD : D = nI d0 := x_nI hd
  have inner : ∀ (K76 : Int32 → (Nat → Int32) → (Nat → Int32) → Nat → Int32 → Int32 → Int32 → Prop) (e : Nat), F + e ≤ G → (∀ p', (∀ j, j < (e + 1) * d0 → p' j = pcs pl mp T o D ld hg F d0 j ∧ gdp bar (pcs pl mp T o D ld hg F d0 j)) → K76 (nI ((e + 1) * d0)) p' B n3 (nI G) bar (nI (F + e + 1))) → ∀ d i (p' : Nat → Int32), i + d = d0 → (∀ j, j < e * d0 + i → p' j = pcs pl mp T o D ld hg F d0 j ∧ gdp bar (pcs pl mp T o D ld hg F d0 j)) → ∃ n, wl_X7_bars_85 Q mc ms (nI (cnt st np)) pl mp T o D ld hg K76 n (nI (e * d0 + i)) p' B n3 (nI G) bar (nI (F + e)) (nI i) := by
    intro K76 e he hK d
    have e1 : (e + 1) * d0 = e * d0 + d0 := Nat.succ_mul e d0
    have e2 : (e + 1) * d0 ≤ M := by rw [eM]; exact Nat.mul_le_mul_right _ (by omega)
    obtain ⟨p, q, hs⟩ := spn_ex (np := np) (st := st) (i := F + e) (by omega)
    have bL := hpl p (by have := hs.1; have := hs.2.1; omega)
    have bL2 := hpl q hs.2.1
    induction d with
    | zero =>
      intro i p' hi hI
      have ei : i = d0 := by omega
      subst ei
      refine ⟨1, ?_⟩
      show wb_X7_bars_85 Q _ _ _ _ _ _ _ _ _ _ _ _ _ _ _ _ _ _ _ _
      unfold wb_X7_bars_85
      refine ⟨fun _ x15 e15 => ?_, fun h => absurd (by rw [eD]; exact nI_le (Nat.le_refl _) (by omega)) h⟩
      rw [e15, nI_1, ← e1]
      exact hK p' (fun j hj => hI j (by omega))
    | succ d ih =>
      intro i p' hi hI
      obtain ⟨dm1, dm2⟩ := dm (d0 := d0) (e := e) (i := i) (by omega)
      have hs' : spn np st (F + (e * d0 + i) / d0) p q := by rw [dm1]; exact hs
      have pe := pcs_at hnp hm (pl := pl) (T := T) (o := o) (D := D) (ld := ld) (hg := hg) hs'
      rw [dm2] at pe
      have tL : (pl q - pl p).toInt = (pl q).toInt - (pl p).toInt := x_sub (by omega)
      -- the piece
      have cut : ∀ (Q2 : Int32 → Prop), Q2 (pcs pl mp T o D ld hg F d0 (e * d0 + i)) → wp_X2_spanLength (fun r16 => wp_X0_cutUp Q2 T o D ld hg r16 (nI i)) pl mp (nI (F + e)) := by
        intro Q2 h2
        unfold wp_X2_spanLength
        refine q2_spanEnd hnp hm hs (q2_spanBegin hnp hm hs (q0_cutUp hc (by rw [tL]; omega) (by rw [nI_t (by omega), hd]; omega) ?_))
        rw [tL, nI_t (by omega), ← pe]; exact h2
      by_cases g : gdp bar (pcs pl mp T o D ld hg F d0 (e * d0 + i))
      · obtain ⟨n, hn⟩ := ih (i + 1) (upd p' (e * d0 + i) (pcs pl mp T o D ld hg F d0 (e * d0 + i))) (by omega) (fun j hj => by
          by_cases c : j = e * d0 + i
          · subst c; rw [pk_us]; exact ⟨rfl, g⟩
          · rw [pk_un c]; exact hI j (by omega))
        refine ⟨n + 1, ?_⟩
        show wb_X7_bars_85 Q _ _ _ _ _ _ _ _ _ _ _ _ _ _ _ _ _ _ _ _
        unfold wb_X7_bars_85 wp_X3_take
        refine ⟨fun h => absurd h (by rw [eD]; exact nI_ge (by omega) (by omega)), fun _ => cut _ ⟨fun h => absurd h ?_, fun _ => ⟨fun _ => ⟨fun h => absurd h (nI_pos (by omega)), fun _ => ⟨fun h => absurd h (nI_ge (a := e * d0 + i) (b := 14) (by omega) (by omega)), fun _ => ⟨vp_nI (by omega) (by omega), fun g4 e4 x5 e5 x23 e23 => ?_⟩⟩⟩, fun h => absurd ?_ h⟩⟩⟩
        · rw [x_lt, zt_1]; have := g.1; omega
        · rw [cl_nI (by omega)] at e4
          rw [e4, e5, e23, nI_1, nI_1]
          exact hn
        · rw [x_le]; exact g.2
      · refine ⟨1, ?_⟩
        have bad := hQ0 ⟨e * d0 + i, by omega, g⟩
        show wb_X7_bars_85 Q _ _ _ _ _ _ _ _ _ _ _ _ _ _ _ _ _ _ _ _
        unfold wb_X7_bars_85
        refine ⟨fun h => absurd h (by rw [eD]; exact nI_ge (by omega) (by omega)), fun _ => cut _ ⟨fun _ => bad _ _, fun h1 => ⟨fun h2 => absurd ⟨?_, ?_⟩ g, fun _ => bad _ _⟩⟩⟩
        · rw [x_lt, zt_1] at h1; omega
        · rw [x_le] at h2; exact h2
  have outer : ∀ d, ∃ n, ∀ e (p' : Nat → Int32), e + d = G - F + 1 → (∀ j, j < e * d0 → p' j = pcs pl mp T o D ld hg F d0 j ∧ gdp bar (pcs pl mp T o D ld hg F d0 j)) → wl_X7_bars_76 Q mc ms (nI (cnt st np)) pl mp T o D ld hg n (nI (e * d0)) p' B n3 (nI G) bar (nI (F + e)) := by
    intro d
    induction d with
    | zero =>
      refine ⟨1, fun e p' he hI => ?_⟩
      show wb_X7_bars_76 Q _ _ _ _ _ _ _ _ _ _ _ _ _ _ _ _ _ _
      unfold wb_X7_bars_76
      have ee : e * d0 = M := by rw [eM, show e = G - F + 1 by omega]
      rw [ee] at hI ⊢
      exact ⟨fun _ => hQ1 (fun j hj => (hI j hj).2) p' (fun j hj => (hI j hj).1), fun h => absurd (nI_lt (by omega) (by omega)) h⟩
    | succ d ih =>
      obtain ⟨n, hn⟩ := ih
      refine ⟨n + 1, fun e p' he hI => ?_⟩
      show wb_X7_bars_76 Q _ _ _ _ _ _ _ _ _ _ _ _ _ _ _ _ _ _
      unfold wb_X7_bars_76
      refine ⟨fun h => absurd h (nI_nlt (by omega) (by omega)), fun _ => ?_⟩
      exact inner _ e (by omega) (fun p2 h2 => hn (e + 1) p2 (by omega) h2) d0 0 p' (by omega) hI
  obtain ⟨n, hn⟩ := outer (G - F + 1)
  have := hn 0 pc0 (by omega) (fun j hj => absurd hj (by omega))
  rw [Nat.zero_mul] at this
  exact ⟨n, this⟩
theorem q8_pieces {Q : Int32 → (Nat → Int32) → (Nat → Int32) → (Nat → Int32) → Prop} {np d0 F G M : Nat} (hnp : np ≤ 40) {st mp pl st' pl' : Nat → Int32} (hm : mpOk np st mp) (cst : ∀ i, i < np → st i = st' i) (cpl : ∀ i, i < np → pl i = pl' i) (hpl : ∀ i, i < np → 0 ≤ (pl i).toInt ∧ (pl i).toInt ≤ 4000) {T o D ld hg bar : Int32} (hc : crOk T o D ld hg) (hd : D.toInt = (d0 : Int)) (hFG : F ≤ G) (hG : G + 1 < cnt st np) (eM : M = (G - F + 1) * d0) (hM : M ≤ 14) {sz0 fw us : Nat → Int32}
    (hQ0 : (∃ j, j < M ∧ ¬ gdp bar (pcs pl mp T o D ld hg F d0 j)) → ∀ s, Q (-5) s fw us)
    (hQ1 : (∀ j, j < M → gdp bar (pcs pl mp T o D ld hg F d0 j)) → ∀ s, (∀ j, j < M → s j = pcs pl mp T o D ld hg F d0 j) → ∃ n, wl_X8_bars_194 Q (nI np) pl' st' T o D ld hg n s (upd fw 0 0) (upd us 0 bar) bar (nI M) 1) :
    ∃ n, wl_X8_bars_77 Q (nI np) pl' st' T o D ld hg n sz0 fw us (nI F) bar (nI M) 1 0 := by
  have hcl := cnt_le st np
  have hD : 1 ≤ D.toInt ∧ D.toInt ≤ 12 := ⟨hc.2.2.2.2.1, hc.2.2.2.2.2.1⟩
  have eD : D = nI d0 := x_nI hd
  have main : ∀ d i (sz : Nat → Int32) (can : Int32), i + d = M → (∀ j, j < i → sz j = pcs pl mp T o D ld hg F d0 j) → ((can = 1 ∧ ∀ j, j < i → gdp bar (pcs pl mp T o D ld hg F d0 j)) ∨ (can = 0 ∧ ∃ j, j < i ∧ ¬ gdp bar (pcs pl mp T o D ld hg F d0 j))) → ∃ n, wl_X8_bars_77 Q (nI np) pl' st' T o D ld hg n sz fw us (nI F) bar (nI M) can (nI i) := by
    intro d
    induction d with
    | zero =>
      intro i sz can hi hI hcan
      have ei : i = M := by omega
      subst ei
      refine ⟨1, ?_⟩
      show wb_X8_bars_77 Q _ _ _ _ _ _ _ _ _ _ _ _ _ _ _ _ _
      unfold wb_X8_bars_77
      refine ⟨fun _ => ?_, fun h => absurd (nI_le (Nat.le_refl _) (by omega)) h⟩
      rcases hcan with ⟨h1, h2⟩ | ⟨h1, h2⟩
      · rw [h1]
        refine ⟨fun h => absurd h n10, fun _ => ⟨vp_nI (n := 0) (by omega) (by omega), fun g14 e14 => ⟨vp_nI (n := 0) (by omega) (by omega), fun g16 e16 => ?_⟩⟩⟩
        rw [e14, e16]
        exact hQ1 h2 sz hI
      · rw [h1]
        exact ⟨fun _ => hQ0 h2 sz, fun h => absurd rfl h⟩
    | succ d ih =>
      intro i sz can hi hI hcan
      have hid : i / d0 ≤ G - F := by
        have : i / d0 < G - F + 1 := Nat.div_lt_of_lt_mul (by rw [Nat.mul_comm, ← eM]; omega)
        omega
      have him : i % d0 < d0 := Nat.mod_lt _ (by omega)
      have ii : vp_in (nI i) 14 := vp_nI (by omega) (by omega)
      have ci : (nI i).toNatClampNeg = i := cl_nI (by omega)
      obtain ⟨p, q, hs⟩ := spn_ex (np := np) (st := st) (i := F + i / d0) (by omega)
      have hpq := hs.1
      have hqn := hs.2.1
      have bL := hpl p (by omega)
      have bL2 := hpl q hqn
      have hs' := spn_congr cst hs
      have pe := pcs_at hnp hm (pl := pl) (T := T) (o := o) (D := D) (ld := ld) (hg := hg) hs
      have hD0 : ¬ D = 0 := by rw [x_eq, zt_0]; omega
      have tL : (pl' q - pl' p).toInt = (pl q).toInt - (pl p).toInt := by rw [← cpl p (by omega), ← cpl q hqn]; exact x_sub (by omega)
      -- the rest of the body
      have fin : ∀ can2, ((can2 = 1 ∧ ∀ j, j < i + 1 → gdp bar (pcs pl mp T o D ld hg F d0 j)) ∨ (can2 = 0 ∧ ∃ j, j < i + 1 ∧ ¬ gdp bar (pcs pl mp T o D ld hg F d0 j))) → ∃ n, wl_X8_bars_77 Q (nI np) pl' st' T o D ld hg n (upd sz i (pcs pl mp T o D ld hg F d0 i)) fw us (nI F) bar (nI M) can2 (nI (i + 1)) := fun can2 h2 => ih (i + 1) _ can2 (by omega) (fun j hj => by
        by_cases c : j = i
        · subst c; rw [pk_us]
        · rw [pk_un c]; exact hI j (by omega)) h2
      have body : ∀ (K : (Nat → Int32) → (Nat → Int32) → (Nat → Int32) → Int32 → Int32 → Int32 → Int32 → Int32 → Prop), (∀ can2, ((can2 = 1 ∧ ∀ j, j < i + 1 → gdp bar (pcs pl mp T o D ld hg F d0 j)) ∨ (can2 = 0 ∧ ∃ j, j < i + 1 ∧ ¬ gdp bar (pcs pl mp T o D ld hg F d0 j))) → K (upd sz i (pcs pl mp T o D ld hg F d0 i)) fw us (nI F) bar (nI M) can2 (nI (i + 1))) → wb_X8_bars_77 Q (nI np) pl' st' T o D ld hg K sz fw us (nI F) bar (nI M) can (nI i) := by
        intro K hK
        unfold wb_X8_bars_77 wb_X8_bars_160 wb_X8_bars_161
        refine ⟨fun h => absurd h (nI_ge (by omega) (by omega)), fun _ => ⟨hD0, ?_⟩⟩
        have e1 : nI F + nI i / D = nI (F + i / d0) := by rw [eD, pk_div (by omega) (by omega) (by omega), nI_add]
        have e2 : nI i - nI i / D * D = nI (i % d0) := by rw [eD, pk_rem (by omega) (by omega) (by omega)]
        rw [e1, e2, ci]
        refine q8_endOf hnp (fun i' p' q' ei hs2 => ?_) (fun hno => absurd (spn_lt hs') (hno _ (nI_t (by omega)))) (by rw [nI_t (by omega)]; exact Int.natCast_nonneg _)
        have ei' : F + i / d0 = i' := (nI_eq (by omega) (by have := spn_lt hs2; have := cnt_le st' np; omega)).mp ei
        subst ei'
        obtain ⟨q1, q2⟩ := spn_uniq hs2 hs'
        subst q1 q2
        refine ⟨vp_nI (by omega) (by omega), q8_mastBefore hnp hs' ⟨vp_nI (by omega) (by omega), hD0, ?_⟩⟩
        rw [cl_nI (by omega), cl_nI (by omega)]
        refine q8_cutOf hc (by rw [tL]; omega) (by rw [nI_t (by omega), hd]; omega) ?_
        rw [tL, nI_t (by omega), ← pe]
        refine ⟨ii, fun g56 e56 => ?_⟩
        rw [e56, pk_us]
        have nx : nI i + 1 = nI (i + 1) := nI_1 i
        rcases hcan with ⟨h1, h2⟩ | ⟨h1, h2⟩
        · rw [h1]
          refine ⟨fun h => absurd h n10, fun _ => ⟨ii, ?_⟩⟩
          refine q8_if 1 bar.toInt rfl rfl (fun g x58 e58 => ?_) (fun g x58 e58 => ?_)
          · rw [e58, nx]
            refine hK 1 (Or.inl ⟨rfl, fun j hj => ?_⟩)
            by_cases c : j = i
            · subst c; exact g
            · exact h2 j (by omega)
          · rw [e58, nx]
            exact hK 0 (Or.inr ⟨rfl, i, by omega, g⟩)
        · rw [h1]
          refine ⟨fun _ x58 e58 => ?_, fun h => absurd rfl h⟩
          rw [e58, nx]
          obtain ⟨j, j1, j2⟩ := h2
          exact hK 0 (Or.inr ⟨rfl, j, by omega, j2⟩)
      -- one fuel for the way that is taken
      obtain ⟨can3, h3⟩ : ∃ can3 : Int32, (can3 = 1 ∧ ∀ j, j < i + 1 → gdp bar (pcs pl mp T o D ld hg F d0 j)) ∨ (can3 = 0 ∧ ∃ j, j < i + 1 ∧ ¬ gdp bar (pcs pl mp T o D ld hg F d0 j)) := by
        by_cases c : ∀ j, j < i + 1 → gdp bar (pcs pl mp T o D ld hg F d0 j)
        · exact ⟨1, Or.inl ⟨rfl, c⟩⟩
        · refine ⟨0, Or.inr ⟨rfl, Classical.byContradiction (fun w => c (fun j hj => Classical.byContradiction (fun v => w ⟨j, hj, v⟩)))⟩⟩
      obtain ⟨n, hn⟩ := fin can3 h3
      refine ⟨n + 1, body _ (fun can2 h2 => ?_)⟩
      have ec : can2 = can3 := by
        rcases h2 with ⟨a1, a2⟩ | ⟨a1, j, a2, a3⟩ <;> rcases h3 with ⟨b1, b2⟩ | ⟨b1, j', b2, b3⟩
        · rw [a1, b1]
        · exact absurd (a2 j' b2) b3
        · exact absurd (b2 j a2) a3
        · rw [a1, b1]
      rw [ec]; exact hn
  exact main M 0 sz0 1 (by omega) (fun j hj => absurd hj (by omega)) (Or.inl ⟨rfl, fun j hj => absurd hj (by omega)⟩)
theorem q2_hasSpan {A B : Prop} {c : Nat} (hc : c ≤ 40) {x : Int32} (hB : 0 ≤ x.toInt ∧ x.toInt + 1 < (c : Int) → B) (hA : ¬ (0 ≤ x.toInt ∧ x.toInt + 1 < (c : Int)) → A) : wp_X2_hasSpan (fun r => (r = 0 → A) ∧ (¬ r = 0 → B)) (nI c) x := by
  unfold wp_X2_hasSpan
  refine ⟨fun h => ⟨b_01, fun _ => hA ?_, fun z => absurd rfl z⟩, fun h => q2_spans hc ⟨fun h2 => ⟨b_01, fun _ => hA ?_, fun z => absurd rfl z⟩, fun h2 => ⟨b_11, fun z => absurd z n10, fun _ => hB ?_⟩⟩⟩
  · rw [x_lt, zt_0] at h; omega
  · rw [x_le, nI_t (by omega)] at h2
    rw [x_lt, zt_0] at h; omega
  · rw [x_le, nI_t (by omega)] at h2
    rw [x_lt, zt_0] at h; omega
/-- all that lets the saw be used -/
def Ful (np : Nat) (st pl mp : Nat → Int32) (T o D ld hg x y bar : Int32) (d0 F G M : Nat) : Prop := x = nI F ∧ y = nI G ∧ F ≤ G ∧ G + 1 < cnt st np ∧ (100 ≤ bar.toInt ∧ bar.toInt ≤ 20000) ∧ M = (G - F + 1) * d0 ∧ M ≤ 14 ∧ ∀ j, j < M → gdp bar (pcs pl mp T o D ld hg F d0 j)
theorem q_bars {J : Int32 → (Nat → Int32) → (Nat → Int32) → Nat → (Nat → Int32) → (Nat → Int32) → (Nat → Int32) → Prop} {E : Int} (hE4 : E ≤ 4000) {np d0 n3 mc ms : Nat} {pl pr sd st pl' pr' sd' st' mp : Nat → Int32} (hp : pgOk E np pl pr sd st pl' pr' sd' st') (hm : mpOk np st mp) {T o D ld hg : Int32} (hc : crOk T o D ld hg) (hd : D.toInt = (d0 : Int)) {c0 x y bar : Int32} {pc0 B sz fw us : Nat → Int32} (hn3 : ∃ j, j ≤ 14 ∧ n3 = 2 ^ j)
    (hms : ms = 0 ∨ ∃ F G M, Ful np st pl mp T o D ld hg x y bar d0 F G M ∧ n3 < 2 ^ M ∧ ms = 2 ^ M)
    (hroom : ∀ F G M, Ful np st pl mp T o D ld hg x y bar d0 F G M → n3 < 2 ^ M → 1 ≤ mc ∧ 2 ^ M ≤ ms)
    (hJ : ∀ c p b n' s f u, (∃ j, j ≤ 14 ∧ n' = 2 ^ j) → J c p b n' s f u) :
    wp_X7_bars (fun r1 c p b n' => wp_X8_bars (fun r2 s f u => r1 = r2 ∧ (J c p b n' s f u ∧ 2 * n3 + ms ≤ 2 * n')) (nI np) pl' st' T o D ld hg sz fw us x y bar) mc ms (nI (cnt st np)) pl mp T o D ld hg c0 pc0 B n3 x y bar := by
  have hnp := hp.1
  have hcl := cnt_le st np
  have hcn : cnt st' np = cnt st np := pg_cnt hp np (Nat.le_refl _)
  have cst : ∀ i, i < np → st i = st' i := fun i hi => (hp.2.1 i hi).2.2.2.1
  have cpl : ∀ i, i < np → pl i = pl' i := fun i hi => (hp.2.1 i hi).1
  have hpl : ∀ i, i < np → 0 ≤ (pl i).toInt ∧ (pl i).toInt ≤ 4000 := fun i hi => by
    obtain ⟨-, -, -, -, -, -, q7, q8, -⟩ := hp.2.1 i hi
    omega
  have hD : 1 ≤ D.toInt ∧ D.toInt ≤ 12 := ⟨hc.2.2.2.2.1, hc.2.2.2.2.2.1⟩
  have eD : D = nI d0 := x_nI hd
  -- an end without the saw
  have out : (∀ F G M, ¬ Ful np st pl mp T o D ld hg x y bar d0 F G M) → ∀ c p b s f u, J c p b n3 s f u ∧ 2 * n3 + ms ≤ 2 * n3 := by
    intro hno c p b s f u
    refine ⟨hJ _ _ _ _ _ _ _ hn3, ?_⟩
    rcases hms with q | ⟨F, G, M, q, -⟩
    · omega
    · exact absurd q (hno F G M)
  have fx : ∀ F G M, Ful np st pl mp T o D ld hg x y bar d0 F G M → x.toInt = (F : Int) ∧ y.toInt = (G : Int) ∧ F ≤ G ∧ G + 1 < cnt st np := by
    rintro F G M ⟨q1, q2, q3, q4, -⟩
    exact ⟨by rw [q1]; exact nI_t (by omega), by rw [q2]; exact nI_t (by omega), q3, q4⟩
  -- the model's first part
  have m8 : ∀ (Q : Int32 → (Nat → Int32) → (Nat → Int32) → (Nat → Int32) → Prop),
      (¬ (0 ≤ x.toInt ∧ x.toInt ≤ (cnt st np : Int) - 2) → Q (-1) sz fw us) → (¬ (x.toInt ≤ y.toInt ∧ y.toInt ≤ (cnt st np : Int) - 2) → Q (-1) sz fw us) → (0 ≤ x.toInt ∧ x.toInt ≤ (cnt st np : Int) - 2 → x.toInt ≤ y.toInt ∧ y.toInt ≤ (cnt st np : Int) - 2 → (¬ (100 ≤ bar.toInt ∧ bar.toInt ≤ 20000) → Q (-2) sz fw us) ∧ (100 ≤ bar.toInt ∧ bar.toInt ≤ 20000 → ((y - x + 1) * D ≤ 14 → ∃ n, wl_X8_bars_77 Q (nI np) pl' st' T o D ld hg n sz fw us x bar ((y - x + 1) * D) 1 0) ∧ (¬ (y - x + 1) * D ≤ 14 → Q (-4) sz fw us))) → wp_X8_bars Q (nI np) pl' st' T o D ld hg sz fw us x y bar := by
    intro Q a1 a2 a3
    unfold wp_X8_bars
    refine q8_masts hnp (fun x2 e2 => ?_)
    rw [hcn] at e2
    have t2 : (x2 - 1).toInt = (cnt st np : Int) - 2 := by
      have t : x2.toInt = (cnt st np : Int) - 1 := by rw [e2, x_sub (by rw [nI_t (by omega), zt_1]; omega), nI_t (by omega), zt_1]
      rw [x_sub (by rw [t, zt_1]; omega), t, zt_1]; omega
    refine q8_if 0 ((cnt st np : Int) - 2) rfl t2 (fun b1 => ?_) a1
    refine q8_if x.toInt ((cnt st np : Int) - 2) rfl t2 (fun b2 => ?_) a2
    refine q8_if 100 20000 rfl rfl (fun b3 x9 e9 => ?_) (a3 b1 b2).1
    rw [e9]
    exact (a3 b1 b2).2 b3
  unfold wp_X7_bars
  refine q2_hasSpan (by omega) (fun hx => ?_) (fun hx => m8 _ (fun _ => ⟨rfl, out (fun F G M q => by have := fx F G M q; omega) _ _ _ _ _ _⟩) (fun _ => ⟨rfl, out (fun F G M q => by have := fx F G M q; omega) _ _ _ _ _ _⟩) (fun b1 => absurd ⟨b1.1, by omega⟩ hx))
  refine q2_hasSpan (by omega) (fun hy => ?_) (fun hy => m8 _ (fun _ => ⟨rfl, out (fun F G M q => by have := fx F G M q; omega) _ _ _ _ _ _⟩) (fun _ => ⟨rfl, out (fun F G M q => by have := fx F G M q; omega) _ _ _ _ _ _⟩) (fun b1 b2 => absurd ⟨by omega, by omega⟩ hy))
  refine ⟨fun hxy => ?_, fun hxy => m8 _ (fun b => absurd ⟨hx.1, by omega⟩ b) (fun _ => ⟨rfl, out (fun F G M q => by have := fx F G M q; rw [x_le] at hxy; omega) _ _ _ _ _ _⟩) (fun b1 b2 => absurd ((x_le _ _).mpr b2.1) hxy)⟩
  rw [x_le] at hxy
  have m9 : ∀ (Q : Int32 → (Nat → Int32) → (Nat → Int32) → (Nat → Int32) → Prop), ((¬ (100 ≤ bar.toInt ∧ bar.toInt ≤ 20000) → Q (-2) sz fw us) ∧ (100 ≤ bar.toInt ∧ bar.toInt ≤ 20000 → ((y - x + 1) * D ≤ 14 → ∃ n, wl_X8_bars_77 Q (nI np) pl' st' T o D ld hg n sz fw us x bar ((y - x + 1) * D) 1 0) ∧ (¬ (y - x + 1) * D ≤ 14 → Q (-4) sz fw us))) → wp_X8_bars Q (nI np) pl' st' T o D ld hg sz fw us x y bar := fun Q a3 => m8 Q (fun b => absurd ⟨hx.1, by omega⟩ b) (fun b => absurd ⟨hxy, by omega⟩ b) (fun _ _ => a3)
  refine q7_if 100 20000 rfl rfl (fun hbar => ?_) (fun hbar => m9 _ ⟨fun _ => ⟨rfl, out (fun F G M q => absurd q.2.2.2.2.1 hbar) _ _ _ _ _ _⟩, fun b => absurd b hbar⟩)
  -- numbers
  obtain ⟨F, hF⟩ : ∃ F : Nat, x.toInt = (F : Int) := ⟨x.toInt.toNat, by omega⟩
  obtain ⟨G, hG⟩ : ∃ G : Nat, y.toInt = (G : Int) := ⟨y.toInt.toNat, by omega⟩
  obtain ⟨br, hbr⟩ : ∃ br : Nat, bar.toInt = (br : Int) := ⟨bar.toInt.toNat, by omega⟩
  have ex : x = nI F := x_nI hF
  have ey : y = nI G := x_nI hG
  have eb : bar = nI br := x_nI hbr
  have hFG : F ≤ G := by omega
  have hGc : G + 1 < cnt st np := by omega
  have eM : (y - x + 1) * D = nI ((G - F + 1) * d0) := by rw [ex, ey, eD, pk_sub hFG, nI_1, pk_mul]
  have mul_b : (G - F + 1) * d0 ≤ 40 * 12 := Nat.mul_le_mul (by omega) (by omega)
  have fu : ∀ F' G' M, Ful np st pl mp T o D ld hg x y bar d0 F' G' M → F' = F ∧ G' = G ∧ M = (G - F + 1) * d0 := by
    intro F' G' M q
    have := fx F' G' M q
    have e1 : F' = F := by omega
    have e2 : G' = G := by omega
    exact ⟨e1, e2, by rw [q.2.2.2.2.2.1, e1, e2]⟩
  rw [eM] at m9 ⊢
  refine ⟨fun h14 => ?_, fun h14 => m9 _ ⟨fun b => absurd hbar b, fun _ => ⟨fun b => absurd b h14, fun _ => ⟨rfl, out (fun F' G' M q => ?_) _ _ _ _ _ _⟩⟩⟩⟩
  rotate_left
  · have e := (fu F' G' M q).2.2
    have := q.2.2.2.2.2.2.1
    refine h14 ?_
    rw [show (14 : Int32) = nI 14 from rfl, nI_leI (by omega) (by omega)]
    omega
  have hM : (G - F + 1) * d0 ≤ 14 := by rw [show (14 : Int32) = nI 14 from rfl, nI_leI (by omega) (by omega)] at h14; exact h14
  have hM1 : 1 ≤ (G - F + 1) * d0 := Nat.mul_pos (by omega) (by omega)
  generalize eMM : (G - F + 1) * d0 = M at *
  rw [ex, ey]
  refine q7_pieces hnp hm hpl hc hd hFG hGc eMM.symm hM (fun hbad c p => ?_) (fun hgood p hpp => ?_)
  · rw [← ex, ← ey]
    refine m9 _ ⟨fun b => absurd hbar b, fun _ => ⟨fun _ => ?_, fun b => absurd h14 b⟩⟩
    rw [ex]
    refine q8_pieces hnp hm cst cpl hpl hc hd hFG hGc eMM.symm hM (fun _ s => ⟨rfl, out (fun F' G' M' q => ?_) _ _ _ _ _ _⟩) (fun hgood => ?_)
    · obtain ⟨j, j1, j2⟩ := hbad
      obtain ⟨e1, e2, e3⟩ := fu F' G' M' q
      subst e1 e2 e3
      exact j2 (q.2.2.2.2.2.2.2 j j1)
    · obtain ⟨j, j1, j2⟩ := hbad
      exact absurd (hgood j j1) j2
  · have full : Ful np st pl mp T o D ld hg x y bar d0 F G M := ⟨ex, ey, hFG, hGc, hbar, eMM.symm, hM, hgood⟩
    have hz : ∀ j, j < M → 1 ≤ (pcs pl mp T o D ld hg F d0 j).toInt.toNat ∧ (pcs pl mp T o D ld hg F d0 j).toInt.toNat ≤ br := fun j hj => by
      have := hgood j hj
      unfold gdp at this
      omega
    have hpz : ∀ j, j < M → pcs pl mp T o D ld hg F d0 j = nI ((pcs pl mp T o D ld hg F d0 j).toInt.toNat) := fun j hj => x_of0 (by have := (hgood j hj).1; omega)
    have hn16 : n3 ≤ 16384 := by obtain ⟨j, j1, j2⟩ := hn3; rw [j2]; exact p2_14 j1
    rw [← ex, ← ey, eb]
    refine q3_fewest (z := fun j => (pcs pl mp T o D ld hg F d0 j).toInt.toNat) hM hM1 (by omega) hz (fun j hj => by rw [hpp j hj]; exact hpz j hj) hn16 (fun h => hroom F G M full h) (fun B' n' hn' => ?_)
    rw [← eb]
    refine m9 _ ⟨fun b => absurd hbar b, fun _ => ⟨fun _ => ?_, fun b => absurd h14 b⟩⟩
    rw [ex]
    refine q8_pieces hnp hm cst cpl hpl hc hd hFG hGc eMM.symm hM (fun ⟨j, j1, j2⟩ => absurd (hgood j j1) j2) (fun _ s hss => ?_)
    rw [eb]
    have g1 : ∃ j, j ≤ 14 ∧ n' = 2 ^ j := by
      rcases hn' with ⟨_, q⟩ | ⟨_, q⟩
      · rw [q]; exact hn3
      · exact ⟨M, hM, q⟩
    have g2 : 2 * n3 + ms ≤ 2 * n' := by
      rcases hn' with ⟨q0, q⟩ | ⟨q0, q⟩
      · rw [q]
        rcases hms with w | ⟨F', G', M', w1, w2, w3⟩
        · omega
        · rw [(fu F' G' M' w1).2.2] at w2; omega
      · rw [q]
        have hms2 : ms ≤ 2 ^ M := by
          rcases hms with w | ⟨F', G', M', w1, w2, w3⟩
          · omega
          · rw [(fu F' G' M' w1).2.2] at w3; omega
        obtain ⟨j, j1, j2⟩ := hn3
        have hjM : j < M := by
          rcases Nat.lt_or_ge j M with w | w
          · exact w
          · have := p2_le w; omega
        have a1 : 2 ^ (j + 1) ≤ 2 ^ M := p2_le hjM
        have a2 : 2 ^ (j + 1) = 2 ^ j * 2 := rfl
        omega
    obtain ⟨n, hn⟩ := q8_sets (vp := nI np) (vT := T) (vo := o) (vD := D) (vl := ld) (vh := hg) (pl := pl') (st := st') (z := fun j => (pcs pl mp T o D ld hg F d0 j).toInt.toNat) hM hM1 (show br ≤ 20000 by omega) hz (sz := s) (fun j hj => by rw [hss j hj]; exact hpz j hj) (Q := fun r2 s f u => nI (vt br M (fun j => (pcs pl mp T o D ld hg F d0 j).toInt.toNat) (2 ^ M) (2 ^ M - 1) / 32768) = r2 ∧ (J (nI M) p B' n' s f u ∧ 2 * n3 + ms ≤ 2 * n')) (fun f u => ⟨rfl, hJ _ _ _ _ _ _ _ g1, g2⟩) (2 ^ M - 1)
    have h1 := p2_1 M
    exact ⟨n, hn 1 _ _ (by omega) (by omega) ⟨⟨pk_us, pk_us⟩, fun S q1 q2 => absurd q2 (by omega)⟩⟩
theorem r_bars {J : Int32 → (Nat → Int32) → (Nat → Int32) → Nat → (Nat → Int32) → (Nat → Int32) → (Nat → Int32) → Prop} {E : Int} (hE4 : E ≤ 4000) {np n3 : Nat} {pl pr sd st pl' pr' sd' st' mp : Nat → Int32} (hp : pgOk E np pl pr sd st pl' pr' sd' st') (hm : mpOk np st mp) {T o D ld hg : Int32} (hc : crOk T o D ld hg) {c0 x y bar : Int32} {pc0 B sz fw us : Nat → Int32} (hn3 : ∃ j, j ≤ 14 ∧ n3 = 2 ^ j)
    (hJ : ∀ c p b n' s f u, (∃ j, j ≤ 14 ∧ n' = 2 ^ j) → J c p b n' s f u) :
    ∃ mc ms, mc ≤ 1 ∧ 2 * n3 + ms ≤ 32768 ∧ wp_X7_bars (fun r1 c p b n' => wp_X8_bars (fun r2 s f u => r1 = r2 ∧ (J c p b n' s f u ∧ 2 * n3 + ms ≤ 2 * n')) (nI np) pl' st' T o D ld hg sz fw us x y bar) mc ms (nI (cnt st np)) pl mp T o D ld hg c0 pc0 B n3 x y bar := by
  obtain ⟨d0, hd⟩ : ∃ d0 : Nat, D.toInt = (d0 : Int) := ⟨D.toInt.toNat, by have := hc.2.2.2.2.1; omega⟩
  have hcl := cnt_le st np
  have hnp := hp.1
  have hn16 : n3 ≤ 16384 := by obtain ⟨j, j1, j2⟩ := hn3; rw [j2]; exact p2_14 j1
  by_cases h : ∃ F G M, Ful np st pl mp T o D ld hg x y bar d0 F G M ∧ n3 < 2 ^ M
  · obtain ⟨F, G, M, h1, h2⟩ := h
    have h14 := p2_14 h1.2.2.2.2.2.2.1
    obtain ⟨j, j1, j2⟩ := hn3
    have hjM : j < M := by
      rcases Nat.lt_or_ge j M with w | w
      · exact w
      · have := p2_le w; omega
    have a1 : 2 ^ (j + 1) ≤ 2 ^ M := p2_le hjM
    have a2 : 2 ^ (j + 1) = 2 ^ j * 2 := rfl
    refine ⟨1, 2 ^ M, Nat.le_refl _, by omega, q_bars hE4 hp hm hc hd ⟨j, j1, j2⟩ (Or.inr ⟨F, G, M, h1, h2, rfl⟩) (fun F' G' M' k1 k2 => ⟨Nat.le_refl _, ?_⟩) hJ⟩
    have e1 : F = F' := (nI_eq (by have := h1.2.2.1; have := h1.2.2.2.1; omega) (by have := k1.2.2.1; have := k1.2.2.2.1; omega)).mp (h1.1.symm.trans k1.1)
    have e2 : G = G' := (nI_eq (by have := h1.2.2.2.1; omega) (by have := k1.2.2.2.1; omega)).mp (h1.2.1.symm.trans k1.2.1)
    have e3 : M' = M := by rw [k1.2.2.2.2.2.1, h1.2.2.2.2.2.1, e1, e2]
    rw [e3]; exact Nat.le_refl _
  · exact ⟨0, 0, by omega, by omega, q_bars hE4 hp hm hc hd hn3 (Or.inl rfl) (fun F' G' M' k1 k2 => absurd ⟨F', G', M', k1, k2⟩ h) hJ⟩
