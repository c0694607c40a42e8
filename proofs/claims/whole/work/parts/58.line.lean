/-! length, clear, aside, peg -/
theorem q6_has {A B : Prop} {e p : Int32} (hB : 0 ≤ p.toInt ∧ p.toInt ≤ e.toInt → B) (hA : ¬ (0 ≤ p.toInt ∧ p.toInt ≤ e.toInt) → A) : wp_X6_has (fun r => (r = 0 → A) ∧ (¬ r = 0 → B)) e p := by
  unfold wp_X6_has
  refine ⟨fun h => ⟨b_01, fun _ => hA ?_, fun q => absurd rfl q⟩, fun h => ⟨fun h' => ⟨b_01, fun _ => hA ?_, fun q => absurd rfl q⟩, fun h' => ⟨b_11, fun q => absurd q n10, fun _ => hB ?_⟩⟩⟩
  · rw [x_lt, zt_0] at h; omega
  · rw [x_lt] at h'; omega
  · rw [x_lt, zt_0] at h; rw [x_lt] at h'; omega
theorem r_length {J : Int32 → Int32 → Int32 → Int32 → Int32 → Prop} {np : Nat} (hnp : np ≤ 40) {e b isL a : Int32} (hJ0 : J e b e b isL) (hJ : np = 0 → 100 ≤ a.toInt ∧ a.toInt ≤ 4000 → J a 0 a 0 0) :
    wp_X7_length (fun r1 m1 m2 => wp_X8_length (fun r2 n1 n2 n3 => r1 = r2 ∧ J m1 m2 n1 n2 n3) e b isL (nI np) a) e b (nI np) a := by
  unfold wp_X7_length wp_X8_length
  refine q7_if 100 4000 rfl rfl (fun r => ⟨fun h => q8_if 100 4000 rfl rfl (fun _ => ⟨fun _ => ⟨rfl, hJ ?_ r⟩, fun q => absurd h q⟩) (fun q => absurd r q), fun h => q8_if 100 4000 rfl rfl (fun _ => ⟨fun q => absurd q h, fun _ => ⟨rfl, hJ0⟩⟩) (fun q => absurd r q)⟩) (fun r => q8_if 100 4000 rfl rfl (fun q => absurd q r) (fun _ => ⟨rfl, hJ0⟩))
  rw [x_le, zt_0, nI_t (by omega)] at h
  omega
theorem r_clear {J : Int32 → Int32 → Int32 → Int32 → Int32 → Int32 → (Nat → Int32) → (Nat → Int32) → Prop} {b c m isL : Int32} {st sd : Nat → Int32} (hJ : ∀ st' sd', J 0 0 0 0 0 0 st' sd') :
    wp_X7_clear (fun r1 m1 m2 m3 => wp_X8_clear (fun r2 n1 n2 n3 n4 n5 => r1 = r2 ∧ J m1 m2 m3 n1 n2 n3 n4 n5) b isL c st sd) b c m := by
  unfold wp_X7_clear wp_X8_clear
  have main : ∀ (d k : Nat) (st sd : Nat → Int32), k + d = 40 → ∃ n, wl_X8_clear_7 (fun r2 n1 n2 n3 n4 n5 => c = r2 ∧ J 0 0 0 n1 n2 n3 n4 n5) n b isL c st sd c (nI k) := by
    intro d
    induction d with
    | zero =>
      intro k st sd hk
      refine ⟨1, ?_⟩
      show wb_X8_clear_7 _ _ _ _ _ _ _ _ _
      unfold wb_X8_clear_7
      have e : k = 40 := by omega
      subst e
      exact ⟨fun _ => ⟨rfl, hJ _ _⟩, fun q => absurd (by decide) q⟩
    | succ d ih =>
      intro k st sd hk
      have hin : vp_in (nI k) 40 := vp_nI (by omega) (by omega)
      obtain ⟨n, hn⟩ := ih (k + 1) (upd st k (vp_nar .boolean 0)) (upd sd k 0) (by omega)
      refine ⟨n + 1, ?_⟩
      show wb_X8_clear_7 _ _ _ _ _ _ _ _ _
      unfold wb_X8_clear_7
      refine ⟨fun q => absurd q (by rw [show (40 : Int32) = nI 40 from rfl]; exact nI_ge (by omega) (by omega)), fun _ => ⟨hin, fun g1 e1 => ⟨hin, fun g2 e2 y hy => ?_⟩⟩⟩
      rw [cl_nI (by omega)] at e1 e2
      rw [hy, nI_1, e1, e2]
      exact hn
  exact main 40 0 st sd (by omega)
theorem r_aside {J : Int32 → (Nat → Int64) → Prop} {E : Int} {nb : Nat} {ln isL a : Int32} (hE : ln.toInt = E) (hE0 : 0 ≤ E) {fa fb fk ga gb gk : Nat → Int32} {fs : Nat → Int64} (h : IvB E nb fa fb fk ga gb gk) (hL : ldOk E nb ga gb gk isL fs) (hJ : ∀ isL' fs', ldOk E nb ga gb gk isL' fs' → J isL' fs') :
    wp_X7_aside (fun r1 => wp_X8_aside (fun r2 n1 n2 => r1 = r2 ∧ J n1 n2) ln (nI nb) ga gb gk isL fs a) ln (nI nb) fa fb fk a := by
  have h4 := h.1.2.1
  unfold wp_X7_aside wp_X8_aside
  refine q6_has (fun r => ?_) (fun r => q8_if 0 ln.toInt rfl rfl (fun q => absurd q r) (fun _ => ⟨rfl, hJ _ _ hL⟩))
  refine q6_asideOf h.1 h.2.1 (by omega) (q8_if 0 ln.toInt rfl rfl (fun _ => q8_asideAt hE hE0 h.2.2.1 hL (by omega) (fun isL' fs' hl => ⟨?_, hJ _ _ hl⟩)) (fun q => absurd r q))
  rw [h.2.2.2.1]
theorem pg_add {E : Int} {np n : Nat} {pl pr sd st pl' pr' sd' st' : Nat → Int32} (h : pgOk E np pl pr sd st pl' pr' sd' st') (hnp : np < 40) (h0 : cnt st np = 0) {x c : Int32} (hx : 0 ≤ x.toInt ∧ x.toInt ≤ E) (hc : 1 ≤ c.toInt ∧ c.toInt ≤ 1000) (h1 : n ≤ np) (h2 : ∀ i, i < n → (pl i).toInt < x.toInt) (h3 : n < np → x.toInt < (pl n).toInt) :
    pgOk E (np + 1) (ins pl np n x) (ins pr np n c) (upd sd np 0) (upd st np 0) (ins pl' np n x) (ins pr' np n c) (upd sd' np 0) (upd st' np 0) ∧ cnt (upd st np 0) (np + 1) = 0 := by
  have hz := cnt_0 h0
  refine ⟨⟨by omega, fun i hi => ?_, fun i j hij hj => ?_⟩, ?_⟩
  · have side : upd sd np 0 i = upd sd' np 0 i ∧ upd st np 0 i = upd st' np 0 i ∧ upd st np 0 i = 0 ∧ upd sd np 0 i = 0 := by
      by_cases c : i = np
      · subst c; rw [pk_us, pk_us, pk_us, pk_us]; exact ⟨rfl, rfl, rfl, rfl⟩
      · rw [pk_un c, pk_un c, pk_un c, pk_un c]
        obtain ⟨q1, q2, q3, q4, q5, q6, -⟩ := h.2.1 i (by omega)
        exact ⟨q3, q4, hz i (by omega), q6 (hz i (by omega))⟩
    have plc : ins pl np n x i = ins pl' np n x i ∧ ins pr np n c i = ins pr' np n c i ∧ 0 ≤ (ins pl np n x i).toInt ∧ (ins pl np n x i).toInt ≤ E ∧ 1 ≤ (ins pr np n c i).toInt ∧ (ins pr np n c i).toInt ≤ 1000 := by
      rcases Nat.lt_trichotomy i n with d | d | d
      · rw [ins_lo _ _ d, ins_lo _ _ d, ins_lo _ _ d, ins_lo _ _ d]
        obtain ⟨q1, q2, q3, q4, q5, q6, q7, q8, q9, q10, -⟩ := h.2.1 i (by omega)
        exact ⟨q1, q2, q7, q8, q9, q10⟩
      · subst d; rw [ins_at, ins_at, ins_at, ins_at]; exact ⟨rfl, rfl, hx.1, hx.2, hc.1, hc.2⟩
      · rw [ins_hi _ _ d (by omega), ins_hi _ _ d (by omega), ins_hi _ _ d (by omega), ins_hi _ _ d (by omega)]
        obtain ⟨q1, q2, q3, q4, q5, q6, q7, q8, q9, q10, -⟩ := h.2.1 (i - 1) (by omega)
        exact ⟨q1, q2, q7, q8, q9, q10⟩
    obtain ⟨s1, s2, s3, s4⟩ := side
    obtain ⟨p1, p2, p3, p4, p5, p6⟩ := plc
    exact ⟨p1, p2, s1, s2, Or.inl s3, fun _ => s4, p3, p4, p5, p6, by rw [s4]; decide, by rw [s4]; decide⟩
  · rcases Nat.lt_trichotomy j n with d | d | d
    · rw [ins_lo _ _ d, ins_lo _ _ (show i < n by omega)]; exact h.2.2 i j hij (by omega)
    · subst d; rw [ins_at, ins_lo _ _ hij]; exact h2 i hij
    · rw [ins_hi _ _ d (by omega)]
      rcases Nat.lt_trichotomy i n with f | f | f
      · rw [ins_lo _ _ f]; exact h.2.2 i (j - 1) (by omega) (by omega)
      · subst f; rw [ins_at]
        have h4 := h3 (by omega)
        by_cases g : j - 1 = i
        · rw [g]; exact h4
        · have := h.2.2 i (j - 1) (by omega) (by omega); omega
      · rw [ins_hi _ _ f (by omega)]; exact h.2.2 (i - 1) (j - 1) (by omega) (by omega)
  · have : ∀ m, m ≤ np + 1 → cnt (upd st np 0) m = 0 := by
      intro m
      induction m with
      | zero => intro _; rfl
      | succ m ih =>
        intro hm
        rw [cnt_s0]
        · exact ih (by omega)
        · by_cases c : m = np
          · subst c; exact pk_us
          · rw [pk_un c]; exact hz m (by omega)
    exact this _ (Nat.le_refl _)
theorem r_peg {J : Int32 → (Nat → Int32) → (Nat → Int32) → (Nat → Int64) → (Nat → Int32) → (Nat → Int32) → Int32 → (Nat → Int32) → (Nat → Int32) → (Nat → Int32) → (Nat → Int32) → Prop} {E : Int} {nb np : Nat} {ln : Int32} (hE : ln.toInt = E) (hE4 : E ≤ 4000) {fa fb fk : Nat → Int32} (hB : bnOk E nb fa fb fk) (hS : bnSo nb fa fb)
    {pl pr sd st pl' pr' sd' st' : Nat → Int32} {ta : Nat → Int64} (h : pgOk E np pl pr sd st pl' pr' sd' st') (hta : taOk nb fa fb fk np pl ta) {x c : Int32}
    (hJ0 : J (nI np) pl pr ta sd st (nI np) pl' pr' st' sd')
    (hJ : np < 40 → ∀ pl2 pr2 ta2 sd2 st2 pl2' pr2' st2' sd2', pgOk E (np + 1) pl2 pr2 sd2 st2 pl2' pr2' sd2' st2' → taOk nb fa fb fk (np + 1) pl2 ta2 → cnt st np = 0 → cnt st2 (np + 1) = 0 → J (nI (np + 1)) pl2 pr2 ta2 sd2 st2 (nI (np + 1)) pl2' pr2' st2' sd2') :
    wp_X7_peg (fun r1 m1 m2 m3 m4 m5 m6 => wp_X8_peg (fun r2 n1 n2 n3 n4 n5 => r1 = r2 ∧ J m1 m2 m3 m4 m5 m6 n1 n2 n3 n4 n5) ln (nI np) pl' pr' st' sd' x c) ln (nI nb) fa fb fk (nI np) (nI (cnt st np)) pl pr ta sd st x c := by
  have hnp := h.1
  have hcl := cnt_le st np
  have hcn : cnt st' np = cnt st np := pg_cnt h np (Nat.le_refl _)
  have hpl : ∀ i, i < np → pl' i = pl i := fun i hi => ((h.2.1 i hi).1).symm
  unfold wp_X7_peg
  have no : ∀ v : Int32, (¬ ((0 ≤ x.toInt ∧ x.toInt ≤ ln.toInt) ∧ (1 ≤ c.toInt ∧ c.toInt ≤ 1000)) → v = -2) → ((0 ≤ x.toInt ∧ x.toInt ≤ ln.toInt) ∧ (1 ≤ c.toInt ∧ c.toInt ≤ 1000) → 0 < cnt st np → v = -3) → ((0 ≤ x.toInt ∧ x.toInt ≤ ln.toInt) ∧ (1 ≤ c.toInt ∧ c.toInt ≤ 1000) → cnt st np = 0 → np = 40 → v = -4) →
      ((0 ≤ x.toInt ∧ x.toInt ≤ ln.toInt) ∧ (1 ≤ c.toInt ∧ c.toInt ≤ 1000) → cnt st np = 0 → np < 40 → v = -5 ∧ ∃ n, n < np ∧ (∀ i, i < n → (pl i).toInt < x.toInt) ∧ (pl n).toInt = x.toInt) → wp_X8_peg (fun r2 n1 n2 n3 n4 n5 => v = r2 ∧ J (nI np) pl pr ta sd st n1 n2 n3 n4 n5) ln (nI np) pl' pr' st' sd' x c := by
    intro v g2 g3 g4 g5
    refine q8_peg hnp (fun q => ⟨g2 q, hJ0⟩) (fun q q2 => ⟨g3 q (by omega), hJ0⟩) (fun q q2 q3 => ⟨g4 q (by omega) q3, hJ0⟩) (fun q q2 q3 n _ _ _ => ⟨(g5 q (by omega) q3).1, hJ0⟩) (fun q q2 q3 n n1 n2 n3 => ?_)
    obtain ⟨-, m, m1, m2, m3⟩ := g5 q (by omega) q3
    exfalso
    have e : m = n := pos_uniq (pl := pl) (np := np) (x := x.toInt) (by omega) m2 (fun _ => by omega) n1 (fun i hi => by rw [← hpl i (by omega)]; exact n2 i hi) (fun hi => by have := n3 hi; rw [hpl n hi] at this; omega)
    subst e
    have := n3 m1
    rw [hpl m m1] at this
    omega
  refine q6_has (fun r => ?_) (fun r => no _ (fun _ => rfl) (fun q => absurd q.1 r) (fun q => absurd q.1 r) (fun q => absurd q.1 r))
  refine q7_if 1 1000 rfl rfl (fun s => ?_) (fun s => no _ (fun _ => rfl) (fun q => absurd q.2 s) (fun q => absurd q.2 s) (fun q => absurd q.2 s))
  refine ⟨fun hm => ?_, fun hm => no _ (fun q => absurd ⟨r, s⟩ q) (fun _ _ => rfl) (fun _ q => ?_) (fun _ q => ?_)⟩
  rotate_left
  · exact absurd (by rw [q]; decide) hm
  · exact absurd (by rw [q]; decide) hm
  have hc0 : cnt st np = 0 := by rw [x_le, zt_0, nI_t (by omega)] at hm; omega
  refine ⟨fun h40 => ?_, fun h40 => no _ (fun q => absurd ⟨r, s⟩ q) (fun _ q => absurd hc0 (by omega)) (fun _ _ _ => rfl) (fun _ _ q => absurd (by rw [show (40 : Int32) = nI 40 from rfl]; exact nI_lt q (by omega)) h40)⟩
  have hlt : np < 40 := by rw [show (40 : Int32) = nI 40 from rfl] at h40; exact (nI_ltI (by omega) (by omega)).mp h40
  refine q2_countBefore hnp (fun n n1 n2 n3 => ?_)
  have put : (n < np → x.toInt < (pl n).toInt) → wb_X7_peg_89 (fun r1 m1 m2 m3 m4 m5 m6 => wp_X8_peg (fun r2 n1 n2 n3 n4 n5 => r1 = r2 ∧ J m1 m2 m3 m4 m5 m6 n1 n2 n3 n4 n5) ln (nI np) pl' pr' st' sd' x c) ln (nI nb) fa fb fk (nI (cnt st np)) (nI np) pl pr ta sd st x c (nI n) := by
    intro n4
    unfold wb_X7_peg_89
    refine q6_asideOf hB hS (by omega) (q2_insert hlt n1 ?_)
    refine q8_peg hnp (fun q => absurd ⟨r, s⟩ q) (fun _ q => absurd hc0 (by omega)) (fun _ _ q => absurd q (by omega)) (fun _ _ _ m m1 m2 m3 => ?_) (fun _ _ _ m m1 m2 m3 => ?_)
    · exfalso
      have e : m = n := pos_uniq (pl := pl) (np := np) (x := x.toInt) (by omega) (fun i hi => by rw [← hpl i (by omega)]; exact m2 i hi) (fun hi => by rw [hpl m hi] at m3; omega) n1 n2 (fun hi => by have := n4 hi; omega)
      subst e
      have := n4 m1
      rw [hpl m m1] at m3
      omega
    · have e : m = n := pos_uniq (pl := pl) (np := np) (x := x.toInt) m1 (fun i hi => by rw [← hpl i (by omega)]; exact m2 i hi) (fun hi => by have := m3 hi; rw [hpl m hi] at this; omega) n1 n2 (fun hi => by have := n4 hi; omega)
      subst e
      have hadd := pg_add h hlt hc0 (x := x) (c := c) (by omega) s n1 n2 n4
      refine ⟨rfl, hJ hlt _ _ _ _ _ _ _ _ _ hadd.1 (fun i hi => ?_) hc0 hadd.2⟩
      rcases Nat.lt_trichotomy i m with d | d | d
      · rw [ins_lo _ _ d, ins_lo _ _ d]; exact hta i (by omega)
      · subst d; rw [ins_at, ins_at]
      · rw [ins_hi _ _ d (by omega), ins_hi _ _ d (by omega)]; exact hta (i - 1) (by omega)
  refine ⟨fun q => put (fun hi => absurd q (nI_ge hi (by omega))), fun q => ?_⟩
  have hi : n < np := by
    rcases Nat.lt_or_ge n np with d | d
    · exact d
    · exact absurd (nI_le d (by omega)) q
  refine ⟨vp_nI (by omega) (by omega), ?_⟩
  rw [cl_nI (by omega)]
  refine ⟨fun e => no _ (fun q => absurd ⟨r, s⟩ q) (fun _ q => absurd hc0 (by omega)) (fun _ _ q => absurd q (by omega)) (fun _ _ _ => ⟨rfl, n, hi, n2, (x_eq _ _).mp e⟩), fun e => put (fun _ => ?_)⟩
  have h6 := n3 hi
  have h7 : (pl n).toInt ≠ x.toInt := fun z => e ((x_eq _ _).mpr z)
  omega
