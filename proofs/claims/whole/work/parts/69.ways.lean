/-! states: a mast with one of three sides -/
def sdS (S : Int) (a : Nat) : Int := (((a % 3 : Nat) : Int) - 1) * S
theorem sdS_b {S : Int} (h : 0 ≤ S ∧ S ≤ 400) (a : Nat) : -400 ≤ sdS S a ∧ sdS S a ≤ 400 := by
  have h3 : a % 3 < 3 := Nat.mod_lt _ (by omega)
  unfold sdS
  rcases (show a % 3 = 0 ∨ a % 3 = 1 ∨ a % 3 = 2 by omega) with q | q | q <;> rw [q] <;> omega
theorem sd_t {s : Int32} {S : Int} (hs : s.toInt = S) (hS : 0 ≤ S ∧ S ≤ 400) {a : Nat} (ha : a < 120) : (((nI a - nI a / 3 * 3) - 1) * s).toInt = sdS S a := by
  rw [show (3 : Int32) = nI 3 from rfl, pk_rem (by omega) (by omega) (by omega)]
  have e : (nI (a % 3) - 1).toInt = ((a % 3 : Nat) : Int) - 1 := by rw [x_sub (by rw [nI_t (by omega), zt_1]; omega), nI_t (by omega), zt_1]
  have b := sdS_b hS a
  unfold sdS at b
  rw [x_mul (by rw [e, hs]; omega), e, hs]; rfl
theorem st_div {a : Nat} (ha : a < 120) : nI a / 3 = nI (a / 3) := pk_div (d := 3) (by omega) (by omega) (by omega)
/-- a span from one state to another is kept -/
def edg (nb : Nat) (fa fb fk pl : Nat → Int32) (wd pu bw sy rc : Int32) (S : Int) (a b : Nat) : Prop :=
  spK (fun z => asd fa fb fk z nb) wd.toInt pu.toInt (2000 * (bw.toInt - sy.toInt)) rc.toInt (pl (a / 3)).toInt (pl (b / 3)).toInt ((fun z => asd fa fb fk z nb) (pl (a / 3)).toInt + 2000 * sdS S a) ((fun z => asd fa fb fk z nb) (pl (b / 3)).toInt + 2000 * sdS S b)
theorem ed_span {E : Int} {ln : Int32} {nb np : Nat} {fa fb fk ga gb gk pl pr sd st pl' pr' sd' st' mp : Nat → Int32} {ta : Nat → Int64} {isL : Int32} {fs : Nat → Int64} {wd pu bw sy rc : Int32} (h : LnOk E ln nb np fa fb fk ga gb gk pl pr sd st pl' pr' sd' st' mp ta isL fs wd pu bw sy rc) {a b : Nat} (hab : a / 3 < b / 3) (hb : b / 3 < np) {S : Int} (hS : 0 ≤ S ∧ S ≤ 400) :
    spS (fun z => asd fa fb fk z nb) (pl (a / 3)).toInt (sdS S a) (pl (b / 3)).toInt (sdS S b) ∧ (pl (b / 3)).toInt ≤ E ∧ pl (a / 3) = pl' (a / 3) ∧ pl (b / 3) = pl' (b / 3) := by
  obtain ⟨hE, hE0, hB, hp, hm, hta, hL, hw⟩ := h
  obtain ⟨a1, a2, a3, a4, a5, a6, a7, a8, a9, a10, a11, a12⟩ := hp.2.1 (a / 3) (by omega)
  obtain ⟨b1, b2, b3, b4, b5, b6, b7, b8, b9, b10, b11, b12⟩ := hp.2.1 (b / 3) hb
  have hlt := hp.2.2 (a / 3) (b / 3) hab hb
  have hE4 := hB.1.2.1
  exact ⟨spS_of hB.1 a7 hlt (by omega) (sdS_b hS a) (sdS_b hS b), b8, a1, b1⟩
theorem q1_edge {E : Int} {ln : Int32} {nb np : Nat} {fa fb fk ga gb gk pl pr sd st pl' pr' sd' st' mp : Nat → Int32} {ta : Nat → Int64} {isL : Int32} {fs : Nat → Int64} {wd pu bw sy rc : Int32} (h : LnOk E ln nb np fa fb fk ga gb gk pl pr sd st pl' pr' sd' st' mp ta isL fs wd pu bw sy rc) {a b : Nat} (hab : a / 3 < b / 3) (hb : b / 3 < np) {s : Int32} {S : Int} (hs : s.toInt = S) (hS : 0 ≤ S ∧ S ≤ 400) {v1 v2 : Int32} {v3 v4 : Int64} {Q : Int32 → Int32 → Int64 → Int64 → Int32 → Prop}
    (h1 : edg nb fa fb fk pl wd pu bw sy rc S a b → ∀ m1 m2 m3 m4, Q m1 m2 m3 m4 1) (h0 : ¬ edg nb fa fb fk pl wd pu bw sy rc S a b → ∀ m1 m2 m3 m4, Q m1 m2 m3 m4 0) :
    wp_X1_layBetween (fun m1 m2 m3 m4 => wp_X4_isKept (fun r => Q m1 m2 m3 m4 r) (nI nb) fa fb fk wd pu (rmI bw sy) rc m1 m2 m3 m4) pl ta v1 v2 v3 v4 s (nI a) (nI b) := by
  obtain ⟨sp, -, -, -⟩ := ed_span h hab hb hS
  obtain ⟨c1, c2, c3, c4⟩ := ln_sub h
  obtain ⟨hE, hE0, hB, hp, hm, hta, hL, hw⟩ := h
  have hnp := hp.1
  have ha120 : a < 120 := by omega
  have hb120 : b < 120 := by omega
  have t0 := sd_t hs hS ha120
  have t1 := sd_t hs hS hb120
  have b0 := sdS_b hS a
  have b1 := sdS_b hS b
  have hr := rmI_t hw
  unfold wp_X1_layBetween wp_X1_sideOf
  generalize ((nI a - nI a / 3 * 3) - 1) * s = s0 at t0 ⊢
  generalize ((nI b - nI b / 3 * 3) - 1) * s = s1 at t1 ⊢
  rw [st_div ha120, st_div hb120]
  refine q4_lay (A := fun z => asd fa fb fk z nb) (by omega) (by omega) (c3 _ (by omega)) (c3 _ hb) (by omega) (by omega) ?_
  rw [t0, t1]
  obtain ⟨w1, w2, w3, w4, w5, w6, w7, w8, w9, -⟩ := hw
  refine q4_isKept ⟨hB.1, hB.2.1, sp, w1, w2, w3, w4, by omega, by omega⟩ (fun k => h1 ?_ _ _ _ _) (fun k => h0 (fun k2 => k ?_) _ _ _ _)
  · rw [hr] at k; exact k
  · rw [hr]; exact k2
theorem q8_edge {E : Int} {ln : Int32} {nb np : Nat} {fa fb fk ga gb gk pl pr sd st pl' pr' sd' st' mp : Nat → Int32} {ta : Nat → Int64} {isL : Int32} {fs : Nat → Int64} {wd pu bw sy rc : Int32} (h : LnOk E ln nb np fa fb fk ga gb gk pl pr sd st pl' pr' sd' st' mp ta isL fs wd pu bw sy rc) {a b : Nat} (hab : a / 3 < b / 3) (hb : b / 3 < np) {s0 s1 : Int32} {S : Int} (hS : 0 ≤ S ∧ S ≤ 400) (t0 : s0.toInt = sdS S a) (t1 : s1.toInt = sdS S b) {isL2 : Int32} {fs2 : Nat → Int64} (hL2 : ldOk E nb ga gb gk isL2 fs2) {Q : Int32 → Int32 → (Nat → Int64) → Prop}
    (h1 : edg nb fa fb fk pl wd pu bw sy rc S a b → ∀ n1 n2, ldOk E nb ga gb gk n1 n2 → Q 1 n1 n2) (h0 : ¬ edg nb fa fb fk pl wd pu bw sy rc S a b → ∀ n1 n2, ldOk E nb ga gb gk n1 n2 → Q 0 n1 n2) :
    wp_X8_isSpanKept Q ln (nI nb) ga gb gk isL2 fs2 wd pu bw sy rc (pl' (a / 3)) s0 (pl' (b / 3)) s1 := by
  obtain ⟨sp, l3, l5, l6⟩ := ed_span h hab hb hS
  obtain ⟨hE, hE0, hB, hp, hm, hta, hL, hw⟩ := h
  rw [← t0, ← t1] at sp
  rw [← l5, ← l6]
  refine q8_isSpanKept hE (by omega) hB.2.2.1 (A := fun z => asd fa fb fk z nb) (fun x => hB.2.2.2.1 x) hL2 hw sp l3 (fun k => h1 ?_) (fun k => h0 (fun k2 => k ?_))
  · rw [t0, t1] at k; exact k
  · rw [t0, t1]; exact k2
/-! ways -/
def wsm (d : Nat → Nat → Int32) (p q : Nat) : Nat → Int32
  | 0 => 0
  | j + 1 => wsm d p q j + d (3 * p + j / 3) (3 * q + j % 3)
theorem wsm_s (d : Nat → Nat → Int32) (p q k m : Nat) (hm : m < 3) : wsm d p q (3 * k + (m + 1)) = wsm d p q (3 * k + m) + d (3 * p + k) (3 * q + m) := by
  show wsm d p q (3 * k + m) + d (3 * p + (3 * k + m) / 3) (3 * q + (3 * k + m) % 3) = _
  rw [show (3 * k + m) / 3 = k by omega, show (3 * k + m) % 3 = m by omega]
theorem q1_ways {E : Int} {ln : Int32} {nb np : Nat} {fa fb fk ga gb gk pl pr sd st pl' pr' sd' st' mp : Nat → Int32} {ta : Nat → Int64} {isL : Int32} {fs : Nat → Int64} {wd pu bw sy rc : Int32} (h : LnOk E ln nb np fa fb fk ga gb gk pl pr sd st pl' pr' sd' st' mp ta isL fs wd pu bw sy rc) {p q : Nat} (hpq : p < q) (hq : q < np) {s u : Int32} {S : Int} (hs : s.toInt = S) (hS : 0 ≤ S ∧ S ≤ 400) {v1 v2 : Int32} {v3 v4 : Int64} {d : Nat → Nat → Int32}
    (d1 : ∀ a b, edg nb fa fb fk pl wd pu bw sy rc S a b → d a b = 1) (d0 : ∀ a b, ¬ edg nb fa fb fk pl wd pu bw sy rc S a b → d a b = 0) {Q : Int32 → Int32 → Int32 → Int64 → Int64 → Int32 → Prop} (hQ : ∀ m1 m2 m3 m4, Q (wsm d p q 9) m1 m2 m3 m4 s) :
    wp_X1_countSpans Q (nI nb) fa fb fk pl ta wd pu (rmI bw sy) rc v1 v2 v3 v4 u (nI p) (nI q) s := by
  have hnp := h.2.2.2.1.1
  unfold wp_X1_countSpans
  have inner : ∀ (K11 : Int32 → Int32 → Int64 → Int64 → Int32 → Int32 → Int32 → Int32 → Int32 → Prop) (k : Nat), k < 3 → (∀ m1 m2 m3 m4, K11 m1 m2 m3 m4 s (nI p) (nI q) (wsm d p q (3 * (k + 1))) (nI (k + 1))) → ∀ (e m : Nat), m + e = 3 → ∃ n, ∀ m1 m2 m3 m4, wl_X1_countSpans_20 Q (nI nb) fa fb fk pl ta wd pu (rmI bw sy) rc K11 n m1 m2 m3 m4 s (nI p) (nI q) (wsm d p q (3 * k + m)) (nI k) (nI m) := by
    intro K11 k hk hK e
    induction e with
    | zero =>
      intro m hm
      refine ⟨1, fun m1 m2 m3 m4 => ?_⟩
      show wb_X1_countSpans_20 Q _ _ _ _ _ _ _ _ _ _ _ _ _ _ _ _ _ _ _ _ _ _
      unfold wb_X1_countSpans_20
      have e3 : m = 3 := by omega
      subst e3
      refine ⟨fun _ x3 e3 => ?_, fun z => absurd (nI_le (a := 3) (b := 3) (Nat.le_refl _) (by omega)) z⟩
      rw [e3, nI_1]; exact hK _ _ _ _
    | succ e ih =>
      intro m hm
      obtain ⟨n, hn⟩ := ih (m + 1) (by omega)
      refine ⟨n + 1, fun m1 m2 m3 m4 => ?_⟩
      show wb_X1_countSpans_20 Q _ _ _ _ _ _ _ _ _ _ _ _ _ _ _ _ _ _ _ _ _ _
      unfold wb_X1_countSpans_20 wb_X1_countSpans_55
      refine ⟨fun z => absurd z (nI_ge (a := m) (b := 3) (by omega) (by omega)), fun _ => ?_⟩
      rw [show (3 : Int32) = nI 3 from rfl, pk_mul, pk_mul, nI_add, nI_add]
      have ws := wsm_s d p q k m (by omega)
      refine q1_edge h (a := 3 * p + k) (b := 3 * q + m) (by omega) (by omega) hs hS (fun ed r1 r2 r3 r4 => ⟨fun z => absurd z n10, fun _ x12 e12 x11 e11 => ?_⟩) (fun ed r1 r2 r3 r4 => ⟨fun _ x11 e11 => ?_, fun z => absurd rfl z⟩)
      · rw [d1 _ _ ed] at ws
        rw [e12, e11, nI_1, ← ws]; exact hn _ _ _ _
      · rw [d0 _ _ ed, Int32.add_zero] at ws
        rw [e11, nI_1, ← ws]; exact hn _ _ _ _
  have outer : ∀ (e k : Nat), k + e = 3 → ∃ n, ∀ m1 m2 m3 m4, wl_X1_countSpans_11 Q (nI nb) fa fb fk pl ta wd pu (rmI bw sy) rc n m1 m2 m3 m4 s (nI p) (nI q) (wsm d p q (3 * k)) (nI k) := by
    intro e
    induction e with
    | zero =>
      intro k hk
      refine ⟨1, fun m1 m2 m3 m4 => ?_⟩
      show wb_X1_countSpans_11 Q _ _ _ _ _ _ _ _ _ _ _ _ _ _ _ _ _ _ _ _
      unfold wb_X1_countSpans_11
      have e3 : k = 3 := by omega
      subst e3
      exact ⟨fun _ => hQ _ _ _ _, fun z => absurd (nI_le (a := 3) (b := 3) (Nat.le_refl _) (by omega)) z⟩
    | succ e ih =>
      intro k hk
      obtain ⟨n, hn⟩ := ih (k + 1) (by omega)
      refine ⟨n + 1, fun m1 m2 m3 m4 => ?_⟩
      show wb_X1_countSpans_11 Q _ _ _ _ _ _ _ _ _ _ _ _ _ _ _ _ _ _ _ _
      unfold wb_X1_countSpans_11
      refine ⟨fun z => absurd z (nI_ge (a := k) (b := 3) (by omega) (by omega)), fun _ => ?_⟩
      obtain ⟨n2, hn2⟩ := inner _ k (by omega) hn 3 0 (by omega)
      exact ⟨n2, hn2 _ _ _ _⟩
  obtain ⟨n, hn⟩ := outer 3 0 (by omega)
  exact ⟨n, hn _ _ _ _⟩
theorem sd_m {s : Int32} {S : Int} (hs : s.toInt = S) (hS : 0 ≤ S ∧ S ≤ 400) {p k : Nat} (hk : k < 3) : (iI ((k : Int) - 1) * s).toInt = sdS S (3 * p + k) := by
  have b := sdS_b hS (3 * p + k)
  unfold sdS at b ⊢
  rw [show (3 * p + k) % 3 = k by omega] at b ⊢
  rw [x_mul (by rw [iI_t (by omega), hs]; omega), iI_t (by omega), hs]
theorem q8_ways {E : Int} {ln : Int32} {nb np : Nat} {fa fb fk ga gb gk pl pr sd st pl' pr' sd' st' mp : Nat → Int32} {ta : Nat → Int64} {isL : Int32} {fs : Nat → Int64} {wd pu bw sy rc : Int32} (h : LnOk E ln nb np fa fb fk ga gb gk pl pr sd st pl' pr' sd' st' mp ta isL fs wd pu bw sy rc) {p q : Nat} (hpq : p < q) (hq : q < np) {s : Int32} {S : Int} (hs : s.toInt = S) (hS : 0 ≤ S ∧ S ≤ 400) {d : Nat → Nat → Int32}
    (d1 : ∀ a b, edg nb fa fb fk pl wd pu bw sy rc S a b → d a b = 1) (d0 : ∀ a b, ¬ edg nb fa fb fk pl wd pu bw sy rc S a b → d a b = 0) {Q : Int32 → Int32 → (Nat → Int64) → Prop} (hQ : ∀ n1 n2, ldOk E nb ga gb gk n1 n2 → Q (wsm d p q 9) n1 n2) :
    ∃ n, wl_X8_ways_46 Q ln (nI nb) ga gb gk (nI np) pl' wd pu bw sy rc n isL fs (nI p) (nI q) s 0 (-1) := by
  have hnp := h.2.2.2.1.1
  have hL := h.2.2.2.2.2.2.1
  have up : ∀ k : Nat, iI ((k : Int) - 1) + 1 = iI (((k + 1 : Nat) : Int) - 1) := fun k => by
    rw [show (1 : Int32) = iI 1 from rfl, iI_add]; congr 1; omega
  have cmp : ∀ k : Nat, k < 10 → ((1 : Int32) < iI ((k : Int) - 1) ↔ 3 ≤ k) := fun k hk => by
    rw [show (1 : Int32) = iI 1 from rfl, iI_lt (by omega) (by omega)]; omega
  have inner : ∀ (K46 : Int32 → (Nat → Int64) → Int32 → Int32 → Int32 → Int32 → Int32 → Prop) (k : Nat), k < 3 → (∀ n1 n2, ldOk E nb ga gb gk n1 n2 → K46 n1 n2 (nI p) (nI q) s (wsm d p q (3 * (k + 1))) (iI (((k + 1 : Nat) : Int) - 1))) → ∀ (e m : Nat), m + e = 3 → ∃ n, ∀ n1 n2, ldOk E nb ga gb gk n1 n2 → wl_X8_ways_55 Q ln (nI nb) ga gb gk (nI np) pl' wd pu bw sy rc K46 n n1 n2 (nI p) (nI q) s (wsm d p q (3 * k + m)) (iI ((k : Int) - 1)) (iI ((m : Int) - 1)) := by
    intro K46 k hk hK e
    induction e with
    | zero =>
      intro m hm
      refine ⟨1, fun n1 n2 l => ?_⟩
      show wb_X8_ways_55 Q _ _ _ _ _ _ _ _ _ _ _ _ _ _ _ _ _ _ _ _ _ _
      unfold wb_X8_ways_55
      have e3 : m = 3 := by omega
      subst e3
      refine ⟨fun _ x3 e3 => ?_, fun z => absurd ((cmp 3 (by omega)).mpr (by omega)) z⟩
      rw [e3, up]; exact hK _ _ l
    | succ e ih =>
      intro m hm
      obtain ⟨n, hn⟩ := ih (m + 1) (by omega)
      refine ⟨n + 1, fun n1 n2 l => ?_⟩
      show wb_X8_ways_55 Q _ _ _ _ _ _ _ _ _ _ _ _ _ _ _ _ _ _ _ _ _ _
      unfold wb_X8_ways_55 wb_X8_ways_95
      refine ⟨fun z => absurd ((cmp m (by omega)).mp z) (by omega), fun _ => ⟨vp_nI (by omega) (by omega), vp_nI (by omega) (by omega), ?_⟩⟩
      rw [cl_nI (show p < 2147483648 by omega), cl_nI (show q < 2147483648 by omega)]
      have ws := wsm_s d p q k m (by omega)
      have go := q8_edge h (a := 3 * p + k) (b := 3 * q + m) (by omega) (by omega) hS (sd_m hs hS (p := p) hk) (sd_m hs hS (p := q) (k := m) (by omega)) l (Q := fun r13 m14 m15 => ((r13 = 0 → (∀ x17 : Int32, x17 = (wsm d p q (3 * k + m) + 0) → (∀ x18 : Int32, x18 = iI ((m : Int) - 1) + (1 : Int32) → (wl_X8_ways_55 Q ln (nI nb) ga gb gk (nI np) pl' wd pu bw sy rc K46 n m14 m15 (nI p) (nI q) s x17 (iI ((k : Int) - 1)) x18)))) ∧ (¬ r13 = 0 → (∀ x17 : Int32, x17 = (wsm d p q (3 * k + m) + 1) → (∀ x18 : Int32, x18 = iI ((m : Int) - 1) + (1 : Int32) → (wl_X8_ways_55 Q ln (nI nb) ga gb gk (nI np) pl' wd pu bw sy rc K46 n m14 m15 (nI p) (nI q) s x17 (iI ((k : Int) - 1)) x18))))))
        (fun ed r1 r2 l2 => ⟨fun z => absurd z n10, fun _ x12 e12 x11 e11 => ?_⟩) (fun ed r1 r2 l2 => ⟨fun _ x12 e12 x11 e11 => ?_, fun z => absurd rfl z⟩)
      · rw [show (3 * p + k) / 3 = p by omega, show (3 * q + m) / 3 = q by omega] at go
        exact go
      · rw [d1 _ _ ed] at ws
        rw [e12, e11, up, ← ws]; exact hn _ _ l2
      · rw [d0 _ _ ed] at ws
        rw [e12, e11, up, ← ws]; exact hn _ _ l2
  have outer : ∀ (e k : Nat), k + e = 3 → ∃ n, ∀ n1 n2, ldOk E nb ga gb gk n1 n2 → wl_X8_ways_46 Q ln (nI nb) ga gb gk (nI np) pl' wd pu bw sy rc n n1 n2 (nI p) (nI q) s (wsm d p q (3 * k)) (iI ((k : Int) - 1)) := by
    intro e
    induction e with
    | zero =>
      intro k hk
      refine ⟨1, fun n1 n2 l => ?_⟩
      show wb_X8_ways_46 Q _ _ _ _ _ _ _ _ _ _ _ _ _ _ _ _ _ _ _ _
      unfold wb_X8_ways_46
      have e3 : k = 3 := by omega
      subst e3
      exact ⟨fun _ => hQ _ _ l, fun z => absurd ((cmp 3 (by omega)).mpr (by omega)) z⟩
    | succ e ih =>
      intro k hk
      obtain ⟨n, hn⟩ := ih (k + 1) (by omega)
      refine ⟨n + 1, fun n1 n2 l => ?_⟩
      show wb_X8_ways_46 Q _ _ _ _ _ _ _ _ _ _ _ _ _ _ _ _ _ _ _ _
      unfold wb_X8_ways_46
      refine ⟨fun z => absurd ((cmp k (by omega)).mp z) (by omega), fun _ => ?_⟩
      obtain ⟨n2, hn2⟩ := inner _ k (by omega) hn 3 0 (by omega)
      exact ⟨n2, hn2 _ _ l⟩
  obtain ⟨n, hn⟩ := outer 3 0 (by omega)
  exact ⟨n, hn _ _ hL⟩
theorem ed_dec (e : Nat → Nat → Prop) : ∃ d : Nat → Nat → Int32, (∀ a b, e a b → d a b = 1) ∧ (∀ a b, ¬ e a b → d a b = 0) := by
  classical
  exact ⟨fun a b => if e a b then 1 else 0, fun a b h => if_pos h, fun a b h => if_neg h⟩
theorem r_ways {J : Int32 → Int32 → Int64 → Int64 → Int32 → Int32 → (Nat → Int64) → Prop} {E : Int} {ln : Int32} {nb np : Nat} {fa fb fk ga gb gk pl pr sd st pl' pr' sd' st' mp : Nat → Int32} {ta : Nat → Int64} {isL : Int32} {fs : Nat → Int64} {wd pu bw sy rc : Int32} (h : LnOk E ln nb np fa fb fk ga gb gk pl pr sd st pl' pr' sd' st' mp ta isL fs wd pu bw sy rc) {v1 v2 : Int32} {v3 v4 : Int64} {u x y s : Int32} (hJ : ∀ m1 m2 m3 m4 m5 n1 n2, ldOk E nb ga gb gk n1 n2 → J m1 m2 m3 m4 m5 n1 n2) :
    wp_X7_ways (fun r1 m1 m2 m3 m4 m5 => wp_X8_ways (fun r2 n1 n2 => r1 = r2 ∧ J m1 m2 m3 m4 m5 n1 n2) ln (nI nb) ga gb gk isL fs (nI np) pl' wd pu bw sy rc x y s) (nI nb) fa fb fk (nI np) pl ta wd pu (rmI bw sy) rc v1 v2 v3 v4 u x y s := by
  have hnp := h.2.2.2.1.1
  have hL := h.2.2.2.2.2.2.1
  obtain ⟨d, d1, d0⟩ := ed_dec (edg nb fa fb fk pl wd pu bw sy rc s.toInt)
  unfold wp_X7_ways wp_X8_ways
  refine q2_has hnp (fun p hp ex => ?_) (fun _ hk => q8_isPeg hnp (fun k hk' e => absurd (by rw [e, nI_t (by omega)]; omega) hk) (fun _ => ⟨rfl, hJ _ _ _ _ _ _ _ hL⟩))
  have px : ∀ {A B : Prop}, B → wp_X8_isPeg (fun r => (r = 0 → A) ∧ (¬ r = 0 → B)) (nI np) x := fun hB => q8_isPeg hnp (fun _ _ _ => hB) (fun q => absurd (by rw [ex, nI_t (by omega)]; omega) q)
  refine q2_has hnp (fun q hq ey => ?_) (fun _ hk => px (q8_isPeg hnp (fun k hk' e => absurd (by rw [e, nI_t (by omega)]; omega) hk) (fun _ => ⟨rfl, hJ _ _ _ _ _ _ _ hL⟩)))
  have py : ∀ {A B : Prop}, B → wp_X8_isPeg (fun r => (r = 0 → A) ∧ (¬ r = 0 → B)) (nI np) y := fun hB => q8_isPeg hnp (fun _ _ _ => hB) (fun q => absurd (by rw [ey, nI_t (by omega)]; omega) q)
  refine q7_if 0 400 rfl rfl (fun hS => ?_) (fun hS => px (py (q8_if 0 400 rfl rfl (fun z => absurd z hS) (fun _ => ⟨rfl, hJ _ _ _ _ _ _ _ hL⟩))))
  refine ⟨fun hlt => ?_, fun hlt => px (py (q8_if 0 400 rfl rfl (fun _ => ⟨fun z => absurd z hlt, fun _ => ⟨rfl, hJ _ _ _ _ _ _ _ hL⟩⟩) (fun z => absurd hS z)))⟩
  have hpq : p < q := by rw [ex, ey, nI_ltI (by omega) (by omega)] at hlt; exact hlt
  have e2 := ex
  have e3 := ey
  subst e2 e3
  refine q1_ways h hpq hq rfl hS d1 d0 (fun m1 m2 m3 m4 => ?_)
  refine px (py (q8_if 0 400 rfl rfl (fun _ => ⟨fun _ => ?_, fun z => absurd hlt z⟩) (fun z => absurd hS z)))
  exact q8_ways h hpq hq rfl hS d1 d0 (fun n1 n2 l => ⟨rfl, hJ _ _ _ _ _ _ _ l⟩)
