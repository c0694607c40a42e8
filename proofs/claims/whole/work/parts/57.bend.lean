/-! bends -/
def ovl (fa fb : Nat → Int32) (nb : Nat) (a b : Int) : Prop := ∃ i, i < nb ∧ a < (fb i).toInt ∧ (fa i).toInt < b
/-- the bends of both sides -/
def IvB (E : Int) (nb : Nat) (fa fb fk ga gb gk : Nat → Int32) : Prop := bnOk E nb fa fb fk ∧ bnSo nb fa fb ∧ bnOk E nb ga gb gk ∧ (∀ x : Int, asd ga gb gk x nb = asd fa fb fk x nb) ∧ ∀ a b : Int, ovl ga gb nb a b ↔ ovl fa fb nb a b
theorem q6_isBent {A B : Prop} {nb : Nat} (hnb : nb ≤ 8) {fa fb : Nat → Int32} {a b : Int32} (hB : ovl fa fb nb a.toInt b.toInt → B) (hA : ¬ ovl fa fb nb a.toInt b.toInt → A) : wp_X6_isBentWithin (fun r => (r = 0 → A) ∧ (¬ r = 0 → B)) (nI nb) fa fb a b := by
  unfold wp_X6_isBentWithin
  have main : ∀ (d i : Nat), i + d = nb → (∀ j, j < i → ¬ (a.toInt < (fb j).toInt ∧ (fa j).toInt < b.toInt)) → ∃ n, wl_X6_isBentWithin_2 (fun r => (r = 0 → A) ∧ (¬ r = 0 → B)) (nI nb) fa fb n a b (nI i) := by
    intro d
    induction d with
    | zero =>
      intro i hi hj
      refine ⟨1, ?_⟩
      show wb_X6_isBentWithin_2 _ _ _ _ _ _ _ _
      unfold wb_X6_isBentWithin_2
      have e : i = nb := by omega
      subst e
      exact ⟨fun _ => ⟨b_01, fun _ => hA (fun ⟨j, h1, h2, h3⟩ => hj j h1 ⟨h2, h3⟩), fun h => absurd rfl h⟩, fun h => absurd (nI_le (Nat.le_refl i) (by omega)) h⟩
    | succ d ih =>
      intro i hi hj
      have hin : vp_in (nI i) 8 := vp_nI (by omega) (by omega)
      by_cases c : a.toInt < (fb i).toInt ∧ (fa i).toInt < b.toInt
      · refine ⟨1, ?_⟩
        show wb_X6_isBentWithin_2 _ _ _ _ _ _ _ _
        unfold wb_X6_isBentWithin_2
        refine ⟨fun h => absurd h (nI_ge (by omega) (by omega)), fun _ => ⟨hin, ?_⟩⟩
        rw [cl_nI (by omega)]
        refine ⟨fun h => absurd ((x_le _ _).mp h) (by omega), fun _ => ⟨hin, fun h => absurd ((x_le _ _).mp h) (by omega), fun _ => ⟨b_11, fun h => absurd h n10, fun _ => hB ⟨i, by omega, c.1, c.2⟩⟩⟩⟩
      · obtain ⟨n, hn⟩ := ih (i + 1) (by omega) (fun j hj2 => by
          rcases Nat.lt_or_ge j i with q | q
          · exact hj j q
          · rw [show j = i by omega]; exact c)
        refine ⟨n + 1, ?_⟩
        show wb_X6_isBentWithin_2 _ _ _ _ _ _ _ _
        unfold wb_X6_isBentWithin_2 wb_X6_isBentWithin_32
        refine ⟨fun h => absurd h (nI_ge (by omega) (by omega)), fun _ => ⟨hin, ?_⟩⟩
        rw [cl_nI (by omega)]
        refine ⟨fun _ y hy => by rw [hy, nI_1]; exact hn, fun h => ⟨hin, fun _ y hy => by rw [hy, nI_1]; exact hn, fun h2 => absurd ⟨?_, ?_⟩ c⟩⟩
        · rw [x_le] at h; omega
        · rw [x_le] at h2; omega
  exact main nb 0 (by omega) (fun j hj => absurd hj (Nat.not_lt_zero _))
theorem q6_insert {Q : Int32 → (Nat → Int32) → (Nat → Int32) → (Nat → Int32) → Prop} {nb : Nat} (hnb : nb < 8) {fa fb fk : Nat → Int32} {a b k : Int32}
    (hq : ∀ n, n ≤ nb → (0 < n → (fa (n - 1)).toInt ≤ a.toInt) → (∀ i, n ≤ i → i < nb → a.toInt < (fa i).toInt) → Q (nI (nb + 1)) (ins fa nb n a) (ins fb nb n b) (ins fk nb n k)) : wp_X6_insert Q (nI nb) fa fb fk a b k := by
  unfold wp_X6_insert
  have h8 : nI nb < (8 : Int32) := by rw [show (8 : Int32) = nI 8 from rfl]; exact nI_lt hnb (by omega)
  refine ⟨fun _ => ?_, fun h => absurd h8 h⟩
  have put : ∀ n, n ≤ nb → (0 < n → (fa (n - 1)).toInt ≤ a.toInt) → (∀ i, n ≤ i → i < nb → a.toInt < (fa i).toInt) → wb_X6_insert_88 Q (nI nb) (shf fa nb n) (shf fb nb n) (shf fk nb n) a b k (nI n) := by
    intro n h1 h2 h3
    unfold wb_X6_insert_88
    have hin : vp_in (nI n) 8 := vp_nI (by omega) (by omega)
    refine ⟨hin, fun g4 e4 => ⟨hin, fun g6 e6 => ⟨hin, fun g8 e8 y hy => ?_⟩⟩⟩
    rw [cl_nI (by omega)] at e4 e6 e8
    rw [hy, nI_1, e4, e6, e8, ins_u, ins_u, ins_u]
    exact hq n h1 h2 h3
  have main : ∀ (j : Nat), j ≤ nb → (∀ i, j ≤ i → i < nb → a.toInt < (fa i).toInt) → ∃ z, wl_X6_insert_16 Q z (nI nb) (shf fa nb j) (shf fb nb j) (shf fk nb j) a b k (nI j) := by
    intro j
    induction j with
    | zero =>
      intro h1 h3
      refine ⟨1, ?_⟩
      show wb_X6_insert_16 Q _ _ _ _ _ _ _ _ _
      unfold wb_X6_insert_16
      exact ⟨fun _ => put 0 h1 (fun h => absurd h (Nat.lt_irrefl _)) h3, fun h => absurd (by decide) h⟩
    | succ j ih =>
      intro h1 h3
      have e1 : nI (j + 1) - 1 = nI j := nI_pred j
      have i1 : vp_in (nI j) 8 := vp_nI (by omega) (by omega)
      have i2 : vp_in (nI (j + 1)) 8 := vp_nI (by omega) (by omega)
      by_cases c : (fa j).toInt ≤ a.toInt
      · refine ⟨1, ?_⟩
        show wb_X6_insert_16 Q _ _ _ _ _ _ _ _ _
        unfold wb_X6_insert_16
        rw [e1]
        refine ⟨fun h => absurd h (nI_nle (by omega) (by omega)), fun _ => ⟨i1, ?_⟩⟩
        rw [cl_nI (by omega), shf_at]
        exact ⟨fun _ => put (j + 1) h1 (fun _ => c) h3, fun h => absurd ((x_le _ _).mpr c) h⟩
      · obtain ⟨z, hz⟩ := ih (by omega) (fun i hi hi2 => by
          rcases Nat.lt_or_ge j i with q | q
          · exact h3 i (by omega) hi2
          · rw [show i = j by omega]; omega)
        refine ⟨z + 1, ?_⟩
        show wb_X6_insert_16 Q _ _ _ _ _ _ _ _ _
        unfold wb_X6_insert_16
        rw [e1]
        refine ⟨fun h => absurd h (nI_nle (by omega) (by omega)), fun _ => ⟨i1, ?_⟩⟩
        rw [cl_nI (show j < 2147483648 by omega), cl_nI (show j + 1 < 2147483648 by omega), shf_at, shf_at, shf_at]
        refine ⟨fun h => absurd ((x_le _ _).mp h) c, fun _ => ⟨i1, fun x13 e13 => ⟨i2, fun g15 e15 => ⟨i1, fun x17 e17 => ⟨i2, fun g19 e19 => ⟨i1, fun x21 e21 => ⟨i2, fun g23 e23 x24 e24 => ?_⟩⟩⟩⟩⟩⟩⟩
        rw [e24, pk_m1, e15, e13, e19, e17, e23, e21, shf_s _ h1, shf_s _ h1, shf_s _ h1]
        exact hz
  have := main nb (Nat.le_refl _) (fun i hi hi2 => absurd hi2 (by omega))
  rw [shf_0, shf_0, shf_0] at this
  exact this
theorem asd_congr {fa fb fk ga gb gk : Nat → Int32} {x : Int} : ∀ n, (∀ i, i < n → fa i = ga i ∧ fb i = gb i ∧ fk i = gk i) → asd fa fb fk x n = asd ga gb gk x n := by
  intro n
  induction n with
  | zero => intro _; rfl
  | succ n ih =>
    intro h
    obtain ⟨h1, h2, h3⟩ := h n (by omega)
    show asd fa fb fk x n + (fk n).toInt * (sq (x - (fa n).toInt) - sq (x - (fb n).toInt)) = asd ga gb gk x n + (gk n).toInt * (sq (x - (ga n).toInt) - sq (x - (gb n).toInt))
    rw [ih (fun i hi => h i (by omega)), h1, h2, h3]
theorem asd_ins {fa fb fk : Nat → Int32} {nb n : Nat} {a b k : Int32} {x : Int} (hn : n ≤ nb) : ∀ m, n ≤ m → m ≤ nb → asd (ins fa nb n a) (ins fb nb n b) (ins fk nb n k) x (m + 1) = asd fa fb fk x m + k.toInt * (sq (x - a.toInt) - sq (x - b.toInt)) := by
  intro m
  induction m with
  | zero =>
    intro h1 h2
    have e : n = 0 := by omega
    subst e
    show asd (ins fa nb 0 a) (ins fb nb 0 b) (ins fk nb 0 k) x 0 + (ins fk nb 0 k 0).toInt * (sq (x - (ins fa nb 0 a 0).toInt) - sq (x - (ins fb nb 0 b 0).toInt)) = _
    rw [ins_at, ins_at, ins_at]
    rfl
  | succ m ih =>
    intro h1 h2
    by_cases c : n = m + 1
    · subst c
      show asd (ins fa nb (m + 1) a) (ins fb nb (m + 1) b) (ins fk nb (m + 1) k) x (m + 1) + (ins fk nb (m + 1) k (m + 1)).toInt * (sq (x - (ins fa nb (m + 1) a (m + 1)).toInt) - sq (x - (ins fb nb (m + 1) b (m + 1)).toInt)) = _
      rw [ins_at, ins_at, ins_at, asd_congr (ga := fa) (gb := fb) (gk := fk) (m + 1) (fun i hi => ⟨ins_lo _ _ hi, ins_lo _ _ hi, ins_lo _ _ hi⟩)]
    · have h3 := ih (by omega) (by omega)
      show asd (ins fa nb n a) (ins fb nb n b) (ins fk nb n k) x (m + 1) + (ins fk nb n k (m + 1)).toInt * (sq (x - (ins fa nb n a (m + 1)).toInt) - sq (x - (ins fb nb n b (m + 1)).toInt)) = (asd fa fb fk x m + (fk m).toInt * (sq (x - (fa m).toInt) - sq (x - (fb m).toInt))) + _
      rw [h3, ins_hi _ _ (by omega) h2, ins_hi _ _ (by omega) h2, ins_hi _ _ (by omega) h2]
      show _ = _
      rw [show m + 1 - 1 = m by omega]
      omega
theorem ovl_ins {fa fb : Nat → Int32} {nb n : Nat} {a b : Int32} (hn : n ≤ nb) (p q : Int) : ovl (ins fa nb n a) (ins fb nb n b) (nb + 1) p q ↔ ovl fa fb nb p q ∨ (p < b.toInt ∧ a.toInt < q) := by
  constructor
  · rintro ⟨i, h1, h2, h3⟩
    rcases Nat.lt_trichotomy i n with c | c | c
    · rw [ins_lo _ _ c] at h2 h3; exact Or.inl ⟨i, by omega, h2, h3⟩
    · subst c; rw [ins_at] at h2 h3; exact Or.inr ⟨h2, h3⟩
    · rw [ins_hi _ _ c (by omega)] at h2 h3; exact Or.inl ⟨i - 1, by omega, h2, h3⟩
  · rintro (⟨i, h1, h2, h3⟩ | ⟨h2, h3⟩)
    · by_cases c : i < n
      · exact ⟨i, by omega, by rw [ins_lo _ _ c]; exact h2, by rw [ins_lo _ _ c]; exact h3⟩
      · exact ⟨i + 1, by omega, by rw [ins_hi _ _ (by omega) (by omega)]; exact h2, by rw [ins_hi _ _ (by omega) (by omega)]; exact h3⟩
    · exact ⟨n, by omega, by rw [ins_at]; exact h2, by rw [ins_at]; exact h3⟩
theorem ovl_app {fa fb : Nat → Int32} {nb : Nat} {a b : Int32} (p q : Int) : ovl (upd fa nb a) (upd fb nb b) (nb + 1) p q ↔ ovl fa fb nb p q ∨ (p < b.toInt ∧ a.toInt < q) := by
  constructor
  · rintro ⟨i, h1, h2, h3⟩
    by_cases c : i = nb
    · subst c; rw [pk_us] at h2 h3; exact Or.inr ⟨h2, h3⟩
    · rw [pk_un c] at h2 h3; exact Or.inl ⟨i, by omega, h2, h3⟩
  · rintro (⟨i, h1, h2, h3⟩ | ⟨h2, h3⟩)
    · exact ⟨i, by omega, by rw [pk_un (by omega)]; exact h2, by rw [pk_un (by omega)]; exact h3⟩
    · exact ⟨nb, by omega, by rw [pk_us]; exact h2, by rw [pk_us]; exact h3⟩
theorem IvB_add {E : Int} {nb n : Nat} {fa fb fk ga gb gk : Nat → Int32} (h : IvB E nb fa fb fk ga gb gk) (hnb : nb < 8) {a b k : Int32} (hab : 0 ≤ a.toInt ∧ a.toInt < b.toInt ∧ b.toInt ≤ E) (hk : -50 ≤ k.toInt ∧ k.toInt ≤ 50) (hno : ¬ ovl fa fb nb a.toInt b.toInt)
    (h1 : n ≤ nb) (h2 : 0 < n → (fa (n - 1)).toInt ≤ a.toInt) (h3 : ∀ i, n ≤ i → i < nb → a.toInt < (fa i).toInt) :
    IvB E (nb + 1) (ins fa nb n a) (ins fb nb n b) (ins fk nb n k) (upd ga nb a) (upd gb nb b) (upd gk nb k) := by
  obtain ⟨b1, b2, b3, b4, b5⟩ := h
  have far : ∀ i, i < nb → b.toInt ≤ (fa i).toInt ∨ (fb i).toInt ≤ a.toInt := fun i hi => by
    rcases Int.lt_or_le (fa i).toInt b.toInt with c | c
    · rcases Int.lt_or_le a.toInt (fb i).toInt with d | d
      · exact absurd ⟨i, hi, d, c⟩ hno
      · exact Or.inr d
    · exact Or.inl c
  refine ⟨⟨by omega, b1.2.1, fun i hi => ?_⟩, fun i hi => ?_, ⟨by omega, b1.2.1, fun i hi => ?_⟩, fun x => ?_, fun p q => ?_⟩
  · rcases Nat.lt_trichotomy i n with c | c | c
    · rw [ins_lo _ _ c, ins_lo _ _ c, ins_lo _ _ c]; exact b1.2.2 i (by omega)
    · subst c; rw [ins_at, ins_at, ins_at]; exact ⟨hab.1, hab.2.1, hab.2.2, hk.1, hk.2⟩
    · rw [ins_hi _ _ c (by omega), ins_hi _ _ c (by omega), ins_hi _ _ c (by omega)]; exact b1.2.2 (i - 1) (by omega)
  · rcases Nat.lt_trichotomy (i + 1) n with c | c | c
    · rw [ins_lo _ _ (show i < n by omega), ins_lo _ _ c]; exact b2 i (by omega)
    · rw [ins_lo _ _ (show i < n by omega), c, ins_at]
      have h4 := h2 (by omega)
      rw [show n - 1 = i by omega] at h4
      rcases far i (by omega) with f | f
      · omega
      · exact f
    · by_cases d : i = n
      · subst d
        rw [ins_at, ins_hi _ _ (by omega) (by omega)]
        have h4 := h3 i (Nat.le_refl _) (by omega)
        have h5 := b1.2.2 i (by omega)
        rw [show i + 1 - 1 = i by omega]
        rcases far i (by omega) with f | f
        · exact f
        · omega
      · rw [ins_hi _ _ (show n < i by omega) (by omega), ins_hi _ _ (show n < i + 1 by omega) (by omega)]
        have := b2 (i - 1) (by omega)
        rw [show i - 1 + 1 = i by omega] at this
        rw [show i + 1 - 1 = i by omega]
        exact this
  · by_cases c : i = nb
    · subst c; rw [pk_us, pk_us, pk_us]; exact ⟨hab.1, hab.2.1, hab.2.2, hk.1, hk.2⟩
    · rw [pk_un c, pk_un c, pk_un c]; exact b3.2.2 i (by omega)
  · show asd (upd ga nb a) (upd gb nb b) (upd gk nb k) x nb + (upd gk nb k nb).toInt * (sq (x - (upd ga nb a nb).toInt) - sq (x - (upd gb nb b nb).toInt)) = _
    rw [pk_us, pk_us, pk_us, asd_ins h1 nb h1 (Nat.le_refl _), asd_congr (ga := ga) (gb := gb) (gk := gk) nb (fun i hi => ⟨pk_un (by omega), pk_un (by omega), pk_un (by omega)⟩), b4]
  · rw [ovl_ins h1, ovl_app, b5]
theorem r_bend {J : Int32 → (Nat → Int32) → (Nat → Int32) → (Nat → Int32) → Int32 → (Nat → Int32) → (Nat → Int32) → (Nat → Int32) → Int32 → Prop} {E : Int} {nb np : Nat} (hnp : np ≤ 40) {ln isL : Int32} (hE : ln.toInt = E) {fa fb fk ga gb gk : Nat → Int32} (h : IvB E nb fa fb fk ga gb gk) {a b k : Int32}
    (hJ0 : J (nI nb) fa fb fk (nI nb) ga gb gk isL)
    (hJ : np = 0 → ∀ fa2 fb2 fk2 ga2 gb2 gk2, IvB E (nb + 1) fa2 fb2 fk2 ga2 gb2 gk2 → J (nI (nb + 1)) fa2 fb2 fk2 (nI (nb + 1)) ga2 gb2 gk2 0) :
    wp_X7_bend (fun r1 m1 m2 m3 m4 => wp_X8_bend (fun r2 n1 n2 n3 n4 n5 => r1 = r2 ∧ J m1 m2 m3 m4 n1 n2 n3 n4 n5) ln (nI nb) ga gb gk isL (nI np) a b k) ln (nI nb) fa fb fk (nI np) a b k := by
  have hnb := h.1.1
  have e8 : (8 : Int32) = nI 8 := rfl
  unfold wp_X7_bend wp_X8_bend
  refine ⟨fun z => ⟨fun _ => ⟨rfl, hJ0⟩, fun q => absurd z q⟩, fun z1 => ⟨fun z => ⟨fun q => absurd q z1, fun _ => ⟨fun _ => ⟨rfl, hJ0⟩, fun q => absurd z q⟩⟩, fun z2 => ⟨fun z => ⟨fun q => absurd q z1, fun _ => ⟨fun q => absurd q z2, fun _ => ⟨fun _ => ⟨rfl, hJ0⟩, fun q => absurd z q⟩⟩⟩, fun z3 => ?_⟩⟩⟩
  -- the model's first tests are passed likewise
  have pass : ∀ {X : Prop}, X → (a < 0 → (-2 : Int32) = -2 ∧ J (nI nb) fa fb fk (nI nb) ga gb gk isL) → True := fun _ _ => trivial
  refine q7_if (-50) 50 rfl rfl (fun hk => ?_) (fun hk => ⟨fun q => absurd q z1, fun _ => ⟨fun q => absurd q z2, fun _ => ⟨fun q => absurd q z3, fun _ => q8_if (-50) 50 rfl rfl (fun q => absurd q hk) (fun _ => ⟨rfl, hJ0⟩)⟩⟩⟩)
  refine ⟨fun hp => ?_, fun hp => ⟨fun q => absurd q z1, fun _ => ⟨fun q => absurd q z2, fun _ => ⟨fun q => absurd q z3, fun _ => q8_if (-50) 50 rfl rfl (fun _ => ⟨fun q => absurd q hp, fun _ => ⟨rfl, hJ0⟩⟩) (fun q => absurd hk q)⟩⟩⟩⟩
  have hp0 : np = 0 := by rw [x_le, zt_0, nI_t (by omega)] at hp; omega
  have t1 : 0 ≤ a.toInt := by rw [x_lt, zt_0] at z1; omega
  have t2 : a.toInt < b.toInt := by rw [x_le] at z2; omega
  have t3 : b.toInt ≤ E := by rw [x_lt, hE] at z3; omega
  refine ⟨fun h8 => ?_, fun h8 => ⟨fun q => absurd q z1, fun _ => ⟨fun q => absurd q z2, fun _ => ⟨fun q => absurd q z3, fun _ => q8_if (-50) 50 rfl rfl (fun _ => ⟨fun _ => ⟨fun _ => ⟨rfl, hJ0⟩, fun q => absurd ?_ q⟩, fun q => absurd hp q⟩) (fun q => absurd hk q)⟩⟩⟩⟩
  · have hlt : nb < 8 := by rw [e8] at h8; exact (nI_ltI (by omega) (by omega)).mp h8
    have hne : ¬ nI nb = (8 : Int32) := fun q => by
      rw [e8] at q; have := (nI_eq (by omega) (by omega)).mp q; omega
    -- the model's loop over the bends
    have model : ∀ (Q : Int32 → Int32 → (Nat → Int32) → (Nat → Int32) → (Nat → Int32) → Int32 → Prop), (ovl ga gb nb a.toInt b.toInt → Q (-5) (nI nb) ga gb gk isL) → (¬ ovl ga gb nb a.toInt b.toInt → Q (nI (nb + 1)) (nI (nb + 1)) (upd ga nb a) (upd gb nb b) (upd gk nb k) 0) → ∃ n, wl_X8_bend_56 Q ln (nI np) n (nI nb) ga gb gk isL a b k (nI 0) := by
      intro Q hB hA
      have main : ∀ (d i : Nat), i + d = nb → (∀ j, j < i → ¬ (a.toInt < (gb j).toInt ∧ (ga j).toInt < b.toInt)) → ∃ n, wl_X8_bend_56 Q ln (nI np) n (nI nb) ga gb gk isL a b k (nI i) := by
        intro d
        induction d with
        | zero =>
          intro i hi hj
          refine ⟨1, ?_⟩
          show wb_X8_bend_56 Q _ _ _ _ _ _ _ _ _ _ _ _
          unfold wb_X8_bend_56
          have e : i = nb := by omega
          subst e
          have hin : vp_in (nI i) 8 := vp_nI (by omega) (by omega)
          refine ⟨fun _ => ⟨hin, fun g1 e1 => ⟨hin, fun g2 e2 => ⟨hin, fun g3 e3 y hy => ?_⟩⟩⟩, fun q => absurd (nI_le (Nat.le_refl i) (by omega)) q⟩
          rw [cl_nI (by omega)] at e1 e2 e3
          rw [hy, nI_1, e1, e2, e3]
          exact hA (fun ⟨j, q1, q2, q3⟩ => hj j q1 ⟨q2, q3⟩)
        | succ d ih =>
          intro i hi hj
          have hin : vp_in (nI i) 8 := vp_nI (by omega) (by omega)
          by_cases c : a.toInt < (gb i).toInt ∧ (ga i).toInt < b.toInt
          · refine ⟨1, ?_⟩
            show wb_X8_bend_56 Q _ _ _ _ _ _ _ _ _ _ _ _
            unfold wb_X8_bend_56
            refine ⟨fun q => absurd q (nI_ge (by omega) (by omega)), fun _ => ⟨hin, ?_⟩⟩
            rw [cl_nI (show i < 2147483648 by omega)]
            exact ⟨fun q => absurd ((x_le _ _).mp q) (by omega), fun _ => ⟨hin, fun q => absurd ((x_le _ _).mp q) (by omega), fun _ => hB ⟨i, by omega, c.1, c.2⟩⟩⟩
          · obtain ⟨n, hn⟩ := ih (i + 1) (by omega) (fun j hj2 => by
              rcases Nat.lt_or_ge j i with q | q
              · exact hj j q
              · rw [show j = i by omega]; exact c)
            refine ⟨n + 1, ?_⟩
            show wb_X8_bend_56 Q _ _ _ _ _ _ _ _ _ _ _ _
            unfold wb_X8_bend_56 wb_X8_bend_90
            refine ⟨fun q => absurd q (nI_ge (by omega) (by omega)), fun _ => ⟨hin, ?_⟩⟩
            rw [cl_nI (show i < 2147483648 by omega)]
            refine ⟨fun _ y hy => by rw [hy, nI_1]; exact hn, fun q => ⟨hin, fun _ y hy => by rw [hy, nI_1]; exact hn, fun q2 => absurd ⟨?_, ?_⟩ c⟩⟩
            · rw [x_le] at q; omega
            · rw [x_le] at q2; omega
      exact main nb 0 (by omega) (fun j hj => absurd hj (Nat.not_lt_zero _))
    refine q6_isBent hnb (fun ho => ?_) (fun ho => ?_)
    · exact ⟨fun q => absurd q z1, fun _ => ⟨fun q => absurd q z2, fun _ => ⟨fun q => absurd q z3, fun _ => q8_if (-50) 50 rfl rfl (fun _ => ⟨fun _ => ⟨fun q => absurd q hne, fun _ => model _ (fun _ => ⟨rfl, hJ0⟩) (fun q => absurd ((h.2.2.2.2 _ _).mpr ho) q)⟩, fun q => absurd hp q⟩) (fun q => absurd hk q)⟩⟩⟩
    · refine q6_insert hlt (fun n n1 n2 n3 => ?_)
      have hadd := IvB_add h hlt ⟨t1, t2, t3⟩ hk ho n1 n2 n3
      exact ⟨fun q => absurd q z1, fun _ => ⟨fun q => absurd q z2, fun _ => ⟨fun q => absurd q z3, fun _ => q8_if (-50) 50 rfl rfl (fun _ => ⟨fun _ => ⟨fun q => absurd q hne, fun _ => model _ (fun q => absurd ((h.2.2.2.2 _ _).mp q) ho) (fun _ => ⟨rfl, hJ hp0 _ _ _ _ _ _ hadd⟩)⟩, fun q => absurd hp q⟩) (fun q => absurd hk q)⟩⟩⟩
  · have : ¬ nb < 8 := fun q => h8 (by rw [e8]; exact nI_lt q (by omega))
    rw [show nb = 8 by omega]; rfl
