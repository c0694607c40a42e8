/-! the model's table -/
def mIn (np : Nat) (e : Nat → Nat → Prop) (L : Nat → Int) (pa : Int) (a b : Nat) (ls ft : Nat → Int32) : Prop :=
  mOk np e L (a + 1) ls ft ∧ (∀ y, a / 3 < y / 3 → y < b → ftO np e L ft a y) ∧ ∃ c, ls a = iI c ∧ mnO (fun x => gd (3 * np) e L a x ∧ x < b) (fun x => L x + pa) c
theorem q8_table {E : Int} {ln : Int32} {nb np : Nat} {fa fb fk ga gb gk pl pr sd st pl' pr' sd' st' mp : Nat → Int32} {ta : Nat → Int64} {isL : Int32} {fs : Nat → Int64} {wd pu bw sy rc : Int32} (h : LnOk E ln nb np fa fb fk ga gb gk pl pr sd st pl' pr' sd' st' mp ta isL fs wd pu bw sy rc) {s : Int32} {S : Int} (hs : s.toInt = S) (hS : 0 ≤ S ∧ S ≤ 400) {L : Nat → Int} {nx : Nat → Nat} (hb : bsO np (edg nb fa fb fk pl wd pu bw sy rc S) pr L nx)
    {Q : Int32 → Int32 → (Nat → Int64) → (Nat → Int32) → (Nat → Int32) → (Nat → Int32) → (Nat → Int32) → Prop} {K36 : Int32 → (Nat → Int64) → (Nat → Int32) → (Nat → Int32) → (Nat → Int32) → (Nat → Int32) → Int32 → Int32 → Int32 → Prop} {a : Nat} (ha : a < 3 * np) (hl : ¬ a / 3 + 1 = np)
    (hK : ∀ n1 n2 ls ft, ldOk E nb ga gb gk n1 n2 → mOk np (edg nb fa fb fk pl wd pu bw sy rc S) L a ls ft → K36 n1 n2 st' sd' ls ft s (nI (3 * np)) (iI ((a : Int) - 1))) :
    ∀ d, ∃ n, ∀ b n1 n2 ls ft, b + d = 3 * np → 3 * (a / 3 + 1) ≤ b → ldOk E nb ga gb gk n1 n2 → mIn np (edg nb fa fb fk pl wd pu bw sy rc S) L (pr (a / 3)).toInt a b ls ft → wl_X8_choose_82 Q ln (nI nb) ga gb gk (nI np) pl' pr' wd pu bw sy rc K36 n n1 n2 st' sd' ls ft s (nI (3 * np)) (nI a) (nI b) := by
  have hp := h.2.2.2.1
  have hnp := hp.1
  have hpr : ∀ i, i < np → 1 ≤ (pr i).toInt ∧ (pr i).toInt ≤ 1000 := fun i hi => ⟨(hp.2.1 i hi).2.2.2.2.2.2.2.2.1, (hp.2.1 i hi).2.2.2.2.2.2.2.2.2.1⟩
  have hpp : ∀ i, i < np → pr i = pr' i := fun i hi => (hp.2.1 i hi).2.1
  have hpa := hpr (a / 3) (by omega)
  have lb := fun (x : Nat) (hx : x < 3 * np) => bs_b hnp hpr hb hx
  have l3' := (hb.1 a (Nat.zero_le _) ha).2.2 hl
  have ia : vp_in (nI a) 120 := vp_nI (by omega) (by omega)
  have ca : (nI a).toNatClampNeg = a := cl_nI (by omega)
  generalize he : edg nb fa fb fk pl wd pu bw sy rc S = e at hb hK l3' ⊢
  intro d
  induction d with
  | zero =>
    refine ⟨1, fun b n1 n2 ls ft hd hb3 ld hI => ?_⟩
    have eb : b = 3 * np := by omega
    subst eb
    show wb_X8_choose_82 Q _ _ _ _ _ _ _ _ _ _ _ _ _ _ _ _ _ _ _ _ _ _ _ _ _
    unfold wb_X8_choose_82
    refine ⟨fun _ x55 e55 => ?_, fun z => absurd (nI_le (Nat.le_refl _) (by omega)) z⟩
    have e55' : x55 = iI ((a : Int) - 1) := by rw [e55, nI_iI, show (-1 : Int32) = iI (-1) from rfl, iI_add]; congr 1
    rw [e55']
    refine hK _ _ _ _ ld (fun x q1 q2 => ?_)
    obtain ⟨i1, i2, c, i3, i4⟩ := hI
    rcases (show x = a ∨ a + 1 ≤ x by omega) with w | w
    · subst w
      have ec : c = L x := mnO_u (mnO_c (P' := gd (3 * np) e L x) (fun b => ⟨fun z => z.1, fun z => ⟨z, z.2.1⟩⟩) (fun _ _ => rfl) i4) l3'
      exact ⟨by rw [i3, ec], fun y g1 g2 => i2 y g1 g2⟩
    · exact i1 x w q2
  | succ d ih =>
    obtain ⟨n, hn⟩ := ih
    refine ⟨n + 1, fun b n1 n2 ls ft hd hb3 ld hI => ?_⟩
    have ib : vp_in (nI b) 120 := vp_nI (by omega) (by omega)
    have cb : (nI b).toNatClampNeg = b := cl_nI (by omega)
    have hbN : b < 3 * np := by omega
    obtain ⟨i1, i2, c, i3, i4⟩ := hI
    have lsb := (i1 b (by omega) hbN).1
    have lbb := lb b hbN
    have cbd : -1 ≤ c ∧ c ≤ 41000 := by
      refine ⟨i4.1, ?_⟩
      by_cases z : 0 ≤ c
      · obtain ⟨x, x1, x2⟩ := i4.2.2 z
        have x2' : c = L x + (pr (a / 3)).toInt := x2
        have := lb x x1.1.2.1
        omega
      · omega
    -- the two ways on
    have ftu : ∀ v : Int32, (¬ v = 0 ↔ (0 ≤ L b ∧ e a b)) → mOk np e L (a + 1) ls (upd ft (120 * a + b) v) ∧ ∀ y, a / 3 < y / 3 → y < b + 1 → ftO np e L (upd ft (120 * a + b) v) a y := by
      intro v hv
      refine ⟨fun x q1 q2 => ⟨(i1 x q1 q2).1, fun y g1 g2 => ?_⟩, fun y g1 g2 => ?_⟩
      · have := (i1 x q1 q2).2 y g1 g2
        unfold ftO at this ⊢
        rw [pk_un (by omega)]; exact this
      · unfold ftO
        by_cases w : y = b
        · subst w; rw [pk_us]; exact hv
        · have := i2 y g1 (by omega)
          unfold ftO at this
          rw [pk_un (by omega)]; exact this
    have stay : ∀ n1 n2 v ls2 z, ldOk E nb ga gb gk n1 n2 → (¬ v = 0 ↔ (0 ≤ L b ∧ e a b)) → (¬ gd (3 * np) e L a b ∨ (0 ≤ c ∧ c ≤ L b + (pr (a / 3)).toInt)) → ls2 = upd ls a (ls a) → z = nI b + 1 → wl_X8_choose_82 Q ln (nI nb) ga gb gk (nI np) pl' pr' wd pu bw sy rc K36 n n1 n2 st' sd' ls2 (upd ft (120 * a + b) v) s (nI (3 * np)) (nI a) z := by
      intro n1 n2 v ls2 z l hv hno h2 hz
      have e2 : ls2 = ls := by
        rw [h2]; funext x
        by_cases w : x = a
        · subst w; rw [pk_us]
        · rw [pk_un w]
      rw [e2, hz, nI_1]
      obtain ⟨u1, u2⟩ := ftu v hv
      refine hn (b + 1) _ _ _ _ (by omega) (by omega) l ⟨u1, u2, c, i3, ?_⟩
      by_cases g : gd (3 * np) e L a b
      · rcases hno with hno | ⟨hno1, hno2⟩
        · exact absurd g hno
        · refine mnO_hi (t := b) (fun x => ?_) i4 hno1 hno2
          constructor
          · rintro ⟨g1, g2⟩
            rcases (show x = b ∨ x < b by omega) with w | w
            · exact Or.inr w
            · exact Or.inl ⟨g1, w⟩
          · rintro (⟨g1, g2⟩ | g1)
            · exact ⟨g1, by omega⟩
            · subst g1; exact ⟨g, by omega⟩
      · refine mnO_c (fun x => ⟨fun z => ⟨z.1, by have := z.2; omega⟩, fun z => ⟨z.1, ?_⟩⟩) (fun _ _ => rfl) i4
        have := z.2
        rcases (show x = b ∨ x < b by omega) with w | w
        · subst w; exact absurd z.1 g
        · exact w
    have take : ∀ n1 n2 v ls2 z, ldOk E nb ga gb gk n1 n2 → (¬ v = 0 ↔ (0 ≤ L b ∧ e a b)) → gd (3 * np) e L a b → (c < 0 ∨ L b + (pr (a / 3)).toInt ≤ c) → ls2 = upd ls a (ls b + pr' (a / 3)) → z = nI b + 1 → wl_X8_choose_82 Q ln (nI nb) ga gb gk (nI np) pl' pr' wd pu bw sy rc K36 n n1 n2 st' sd' ls2 (upd ft (120 * a + b) v) s (nI (3 * np)) (nI a) z := by
      intro n1 n2 v ls2 z l hv g hc h2 hz
      rw [h2, hz, nI_1]
      obtain ⟨u1, u2⟩ := ftu v hv
      refine hn (b + 1) _ _ _ _ (by omega) (by omega) l ⟨fun x q1 q2 => ?_, u2, L b + (pr (a / 3)).toInt, ?_, ?_⟩
      · rw [pk_un (by omega)]; exact u1 x q1 q2
      · rw [pk_us, lsb, ← hpp _ (by omega), iI_of (pr (a / 3)), iI_add, iI_t (iI_rng _)]
      · refine mnO_lo (f := fun x => L x + (pr (a / 3)).toInt) (t := b) (fun x => ?_) i4 (by show 0 ≤ L b + (pr (a / 3)).toInt; have := g.2.2.2; omega) hc
        constructor
        · rintro ⟨g1, g2⟩
          rcases (show x = b ∨ x < b by omega) with w | w
          · exact Or.inr w
          · exact Or.inl ⟨g1, w⟩
        · rintro (⟨g1, g2⟩ | g1)
          · exact ⟨g1, by omega⟩
          · subst g1; exact ⟨g, by omega⟩
    have ix : vp_in (nI (120 * a + b)) 14400 := vp_nI (by omega) (by omega)
    have e140 : ∀ n1 n2, ldOk E nb ga gb gk n1 n2 → ¬ gd (3 * np) e L a b → wb_X8_choose_140 Q ln (nI nb) ga gb gk (nI np) pl' pr' wd pu bw sy rc K36 (wl_X8_choose_82 Q ln (nI nb) ga gb gk (nI np) pl' pr' wd pu bw sy rc K36 n) n1 n2 st' sd' ls ft s (nI (3 * np)) (nI a) (nI b) 0 := by
      intro n1 n2 l g
      unfold wb_X8_choose_140 wb_X8_choose_181 wb_X8_choose_218 wb_X8_choose_224
      rw [show (120 : Int32) = nI 120 from rfl, pk_mul, nI_add, cl_nI (show 120 * a + b < 2147483648 by omega), ca, nar0]
      refine ⟨ix, fun g59 e59 => ⟨fun _ => ⟨fun _ => ⟨ia, ia, fun g64 e64 x65 e65 => ?_⟩, fun z => absurd rfl z⟩, fun z => absurd rfl z⟩⟩
      rw [e59]
      exact stay _ _ _ _ _ l ⟨fun z => absurd rfl z, fun z => absurd ⟨by omega, hbN, z.2, z.1⟩ g⟩ (Or.inl g) e64 e65
    show wb_X8_choose_82 Q _ _ _ _ _ _ _ _ _ _ _ _ _ _ _ _ _ _ _ _ _ _ _ _ _
    unfold wb_X8_choose_82 wb_X8_choose_139
    refine ⟨fun z => absurd z (nI_ge (by omega) (by omega)), fun _ => ⟨ib, ?_⟩⟩
    rw [cb]
    refine ⟨fun hneg => e140 _ _ ld (fun g => ?_), fun hneg => ?_⟩
    · rw [lsb, x_lt, zt_0, iI_t (by omega)] at hneg
      have := g.2.2.2
      omega
    · rw [lsb, x_lt, zt_0, iI_t (by omega)] at hneg
      unfold wp_X8_sideOf
      have sa := sd_t hs hS (a := a) (by omega)
      have sb := sd_t hs hS (a := b) (by omega)
      generalize ((nI a - nI a / 3 * 3) - 1) * s = s0 at sa ⊢
      generalize ((nI b - nI b / 3 * 3) - 1) * s = s1 at sb ⊢
      rw [st_div (by omega), st_div (by omega), cl_nI (show a / 3 < 2147483648 by omega), cl_nI (show b / 3 < 2147483648 by omega)]
      refine ⟨vp_nI (by omega) (by omega), vp_nI (by omega) (by omega), ?_⟩
      refine q8_edge h (a := a) (b := b) (by omega) (by omega) hS sa sb ld (fun ed r1 r2 l => ⟨fun z => absurd z n10, fun _ => ?_⟩) (fun ed r1 r2 l => ⟨fun _ => e140 _ _ l (fun g => ed (by rw [he]; exact g.2.2.1)), fun z => absurd rfl z⟩)
      rw [he] at ed
      have g : gd (3 * np) e L a b := ⟨by omega, hbN, ed, by omega⟩
      have v1 : ¬ (1 : Int32) = 0 ↔ (0 ≤ L b ∧ e a b) := ⟨fun _ => ⟨by omega, ed⟩, fun _ => n10⟩
      unfold wb_X8_choose_140 wb_X8_choose_181 wb_X8_choose_218 wb_X8_choose_213 wb_X8_choose_224
      rw [show (120 : Int32) = nI 120 from rfl, pk_mul, nI_add, cl_nI (show 120 * a + b < 2147483648 by omega), ca, cb, nar1, st_div (by omega), cl_nI (show a / 3 < 2147483648 by omega)]
      have tp : (ls b + pr' (a / 3)).toInt = L b + (pr (a / 3)).toInt := by
        rw [lsb, ← hpp _ (by omega), x_add (by rw [iI_t (by omega)]; omega), iI_t (by omega)]
      refine ⟨ix, fun g59 e59 => ⟨fun z => absurd z n10, fun _ => ⟨ib, vp_nI (by omega) (by omega), fun z => absurd z n10, fun _ => ⟨ia, fun hc => ⟨ia, fun g64 e64 x65 e65 => ?_⟩, fun hc => ⟨ia, fun hc2 => ⟨ia, ia, fun g64 e64 x65 e65 => ?_⟩, fun hc2 => ⟨ia, fun g64 e64 x65 e65 => ?_⟩⟩⟩⟩⟩⟩
      · rw [i3, x_lt, zt_0, iI_t (by omega)] at hc
        rw [e59]
        exact take _ _ _ _ _ l v1 g (Or.inl hc) e64 e65
      · rw [i3, x_lt, zt_0, iI_t (by omega)] at hc
        rw [i3, x_le, tp, iI_t (by omega)] at hc2
        rw [e59]
        exact stay _ _ _ _ _ l v1 (Or.inr ⟨by omega, hc2⟩) e64 e65
      · rw [i3, x_le, tp, iI_t (by omega)] at hc2
        rw [e59]
        exact take _ _ _ _ _ l v1 g (Or.inr (by omega)) e64 e65
theorem q8_choose {E : Int} {ln : Int32} {nb np : Nat} {fa fb fk ga gb gk pl pr sd st pl' pr' sd' st' mp : Nat → Int32} {ta : Nat → Int64} {isL : Int32} {fs : Nat → Int64} {wd pu bw sy rc : Int32} (h : LnOk E ln nb np fa fb fk ga gb gk pl pr sd st pl' pr' sd' st' mp ta isL fs wd pu bw sy rc) (h2 : 2 ≤ np) {s : Int32} {S : Int} (hs : s.toInt = S) (hS : 0 ≤ S ∧ S ≤ 400) {L : Nat → Int} {nx : Nat → Nat} (hb : bsO np (edg nb fa fb fk pl wd pu bw sy rc S) pr L nx) {ls ft : Nat → Int32}
    {Q : Int32 → Int32 → (Nat → Int64) → (Nat → Int32) → (Nat → Int32) → (Nat → Int32) → (Nat → Int32) → Prop}
    (hQ1 : ∀ f, fsO L f → ∀ n1 n2 sd0 st0 ls ft, ldOk E nb ga gb gk n1 n2 → (∀ i, i < np → sd0 i = 0 ∧ st0 i = 0) → Q (iI (L f)) n1 n2 (rz nx np (fun _ => 1) np f st0) (rz nx np (sv s) np f sd0) ls ft)
    (hQ0 : (∀ x, x < 3 → ¬ 0 ≤ L x) → ∀ n1 n2 ls ft, ldOk E nb ga gb gk n1 n2 → Q (-5) n1 n2 st' sd' ls ft) :
    ∃ n, wl_X8_choose_36 Q ln (nI nb) ga gb gk (nI np) pl' pr' wd pu bw sy rc n isL fs st' sd' ls ft s (nI (3 * np)) (nI (3 * np) - 1) := by
  have hp := h.2.2.2.1
  have hnp := hp.1
  have hpr : ∀ i, i < np → 1 ≤ (pr i).toInt ∧ (pr i).toInt ≤ 1000 := fun i hi => ⟨(hp.2.1 i hi).2.2.2.2.2.2.2.2.1, (hp.2.1 i hi).2.2.2.2.2.2.2.2.2.1⟩
  have hpp : ∀ i, i < np → pr i = pr' i := fun i hi => (hp.2.1 i hi).2.1
  have hL := h.2.2.2.2.2.2.1
  have ep : nI np - 1 = nI (np - 1) := by
    obtain ⟨m, rfl⟩ : ∃ m, np = m + 1 := ⟨np - 1, by omega⟩
    exact nI_pred m
  have main : ∀ k, ∃ n, ∀ n1 n2 ls ft, k ≤ 3 * np → ldOk E nb ga gb gk n1 n2 → mOk np (edg nb fa fb fk pl wd pu bw sy rc S) L k ls ft → wl_X8_choose_36 Q ln (nI nb) ga gb gk (nI np) pl' pr' wd pu bw sy rc n n1 n2 st' sd' ls ft s (nI (3 * np)) (iI ((k : Int) - 1)) := by
    intro k
    induction k with
    | zero =>
      refine ⟨1, fun n1 n2 ls ft hk ld hm => ?_⟩
      show wb_X8_choose_36 Q _ _ _ _ _ _ _ _ _ _ _ _ _ _ _ _ _ _ _ _ _ _ _
      unfold wb_X8_choose_36
      have neg : iI (((0 : Nat) : Int) - 1) < 0 := by decide
      refine ⟨fun _ => ?_, fun z => absurd neg z⟩
      exact q8_first hnp h2 hpp hpr hb hm (fun f hf sd0 st0 hz => hQ1 f hf _ _ _ _ _ _ ld hz) (fun hno => hQ0 hno _ _ _ _ ld) 3 (-6) (Nat.le_refl _) (Or.inl ⟨rfl, fun x q1 q2 => absurd q2 (by omega)⟩)
    | succ k ih =>
      obtain ⟨n, hn⟩ := ih
      refine ⟨n + 1, fun n1 n2 ls ft hk ld hm => ?_⟩
      show wb_X8_choose_36 Q _ _ _ _ _ _ _ _ _ _ _ _ _ _ _ _ _ _ _ _ _ _ _
      unfold wb_X8_choose_36 wb_X8_choose_72
      have ek : iI (((k + 1 : Nat) : Int) - 1) = nI k := by rw [nI_iI]; congr 1; omega
      have ik : vp_in (nI k) 120 := vp_nI (by omega) (by omega)
      rw [ek, st_div (by omega), ep, cl_nI (show k < 2147483648 by omega), cl_nI (show np - 1 < 2147483648 by omega), nI_1, show (3 : Int32) = nI 3 from rfl, pk_mul]
      refine ⟨fun z => absurd z (nI_pos (by omega)), fun _ => ⟨fun hl => ⟨vp_nI (by omega) (by omega), ik, fun g51 e51 x53 e53 => ?_⟩, fun hl => ⟨ik, fun g51 e51 x53 e53 => ?_⟩⟩⟩
      · have hl' : k / 3 + 1 = np := by rw [nI_eq (by omega) (by omega)] at hl; omega
        refine ⟨1, ?_⟩
        show wb_X8_choose_82 Q _ _ _ _ _ _ _ _ _ _ _ _ _ _ _ _ _ _ _ _ _ _ _ _ _
        unfold wb_X8_choose_82
        rw [e53, hl']
        refine ⟨fun _ x55 e55 => ?_, fun z => absurd (nI_le (Nat.le_refl _) (by omega)) z⟩
        have e55' : x55 = iI ((k : Int) - 1) := by rw [e55, nI_iI, show (-1 : Int32) = iI (-1) from rfl, iI_add]; congr 1
        rw [e55']
        refine hn _ _ _ _ (by omega) ld (fun x q1 q2 => ?_)
        rcases (show x = k ∨ k + 1 ≤ x by omega) with w | w
        · subst w
          refine ⟨?_, fun y g1 g2 => absurd g2 (by omega)⟩
          rw [e51, pk_us, ← hpp _ (by omega), (hb.1 x (Nat.zero_le _) (by omega)).2.1 hl', show np - 1 = x / 3 by omega]
          exact iI_of _
        · rw [e51, pk_un (by omega)]; exact hm x w q2
      · have hl' : ¬ k / 3 + 1 = np := fun z => hl (by rw [nI_eq (by omega) (by omega)]; omega)
        obtain ⟨m, hm2⟩ := q8_table h hs hS hb (Q := Q) (a := k) (by omega) hl' (fun r1 r2 ls2 ft2 l hk2 => hn r1 r2 ls2 ft2 (by omega) l hk2) (3 * np - 3 * (k / 3 + 1))
        refine ⟨m, ?_⟩
        rw [e53]
        refine hm2 _ _ _ _ _ (by omega) (Nat.le_refl _) ld ⟨fun x q1 q2 => ?_, fun y q1 q2 => absurd q2 (by omega), -1, ?_, mnO_n (fun x z => ?_)⟩
        · rw [e51, pk_un (by omega)]; exact hm x q1 q2
        · rw [e51, pk_us]; rfl
        · have := z.1.1
          have := z.2
          omega
  obtain ⟨n, hn⟩ := main (3 * np)
  refine ⟨n, ?_⟩
  have e2' : nI (3 * np) - 1 = iI (((3 * np : Nat) : Int) - 1) := by rw [nI_iI, show (1 : Int32) = iI 1 from rfl, iI_sub]
  rw [e2']
  exact hn _ _ _ _ (Nat.le_refl _) hL (fun x q1 q2 => absurd q2 (by omega))
theorem r_choose {J : Int32 → (Nat → Int32) → (Nat → Int32) → (Nat → Int32) → Int32 → Int32 → Int64 → Int64 → (Nat → Int32) → (Nat → Int32) → Int32 → Int32 → Int32 → (Nat → Int64) → (Nat → Int32) → (Nat → Int32) → (Nat → Int32) → (Nat → Int32) → Prop} {E : Int} {ln : Int32} {nb np : Nat} {fa fb fk ga gb gk pl pr sd st pl' pr' sd' st' mp : Nat → Int32} {ta : Nat → Int64} {isL : Int32} {fs : Nat → Int64} {wd pu bw sy rc : Int32} (h : LnOk E ln nb np fa fb fk ga gb gk pl pr sd st pl' pr' sd' st' mp ta isL fs wd pu bw sy rc) {v1 v2 : Int32} {v3 v4 : Int64} {C X : Nat → Int32} {f0 u s : Int32} {ls ft : Nat → Int32}
    (hJ : ∀ sd2 st2 mp2 m1 m2 m3 m4 m5 m6 m7 m8 n1 n2 st2' sd2' n5 n6, pgOk E np pl pr sd2 st2 pl' pr' sd2' st2' → mpOk np st2 mp2 → ldOk E nb ga gb gk n1 n2 → J (nI (cnt st2 np)) sd2 st2 mp2 m1 m2 m3 m4 m5 m6 m7 m8 n1 n2 st2' sd2' n5 n6) :
    wp_X7_choose (fun r1 a1 a2 a3 a4 m1 m2 m3 m4 m5 m6 m7 m8 => wp_X8_choose (fun r2 n1 n2 n3 n4 n5 n6 => r1 = r2 ∧ J a1 a2 a3 a4 m1 m2 m3 m4 m5 m6 m7 m8 n1 n2 n3 n4 n5 n6) ln (nI nb) ga gb gk isL fs (nI np) pl' pr' st' sd' wd pu bw sy rc ls ft s) (nI nb) fa fb fk (nI np) (nI (cnt st np)) pl pr ta sd st mp wd pu (rmI bw sy) rc v1 v2 v3 v4 C X f0 u s := by
  have hp := h.2.2.2.1
  have hnp := hp.1
  have hpr : ∀ i, i < np → 1 ≤ (pr i).toInt ∧ (pr i).toInt ≤ 1000 := fun i hi => ⟨(hp.2.1 i hi).2.2.2.2.2.2.2.2.1, (hp.2.1 i hi).2.2.2.2.2.2.2.2.2.1⟩
  have hm := h.2.2.2.2.1
  have hL := h.2.2.2.2.2.2.1
  unfold wp_X7_choose wp_X8_choose
  refine q7_if 0 400 rfl rfl (fun hS => ?_) (fun hS => q8_if 0 400 rfl rfl (fun z => absurd z hS) (fun _ => ⟨rfl, hJ _ _ _ _ _ _ _ _ _ _ _ _ _ _ _ _ _ hp hm hL⟩))
  have i8 : ∀ {A B : Prop}, B → wp_X8_in (fun r => (r = 0 → A) ∧ (¬ r = 0 → B)) s 0 400 := fun hB => q8_if 0 400 rfl rfl (fun _ => hB) (fun z => absurd hS z)
  refine ⟨fun h2 => ?_, fun h2 => i8 ⟨fun z => absurd z h2, fun _ => ⟨rfl, hJ _ _ _ _ _ _ _ _ _ _ _ _ _ _ _ _ _ hp hm hL⟩⟩⟩
  have h2' : 2 ≤ np := by rw [x_le, zt_2, nI_t (by omega)] at h2; omega
  obtain ⟨L, nx, hb⟩ := bsO_ex (e := edg nb fa fb fk pl wd pu bw sy rc s.toInt) hpr
  -- the model's whole way
  have md : ∀ (Q : Int32 → Int32 → (Nat → Int64) → (Nat → Int32) → (Nat → Int32) → (Nat → Int32) → (Nat → Int32) → Prop), (∀ f, fsO L f → ∀ n1 n2 sd0 st0 ls ft, ldOk E nb ga gb gk n1 n2 → (∀ i, i < np → sd0 i = 0 ∧ st0 i = 0) → Q (iI (L f)) n1 n2 (rz nx np (fun _ => 1) np f st0) (rz nx np (sv s) np f sd0) ls ft) → ((∀ x, x < 3 → ¬ 0 ≤ L x) → ∀ n1 n2 ls ft, ldOk E nb ga gb gk n1 n2 → Q (-5) n1 n2 st' sd' ls ft) → ∀ x4 : Int32, x4 = 3 * nI np → ∀ x5 : Int32, x5 = x4 - 1 → ∃ n, wl_X8_choose_36 Q ln (nI nb) ga gb gk (nI np) pl' pr' wd pu bw sy rc n isL fs st' sd' ls ft s x4 x5 := by
    intro Q q1 q0 x4 e4 x5 e5
    rw [show (3 : Int32) = nI 3 from rfl, pk_mul] at e4
    rw [e5, e4]
    exact q8_choose h h2' rfl hS hb q1 q0
  refine q1_find h h2' rfl hS hb (fun f hf m1 m2 m3 m4 C' X' hI => ⟨fun z => absurd z n10, fun _ => ?_⟩) (fun hno m1 m2 m3 m4 C' X' f' => ⟨fun _ => i8 ⟨fun _ => md _ (fun f hf => absurd hf.2.1 (hno f hf.1)) (fun _ n1 n2 ls ft l => ⟨rfl, hJ _ _ _ _ _ _ _ _ _ _ _ _ _ _ _ _ _ hp hm l⟩), fun z => absurd h2 z⟩, fun z => absurd rfl z⟩)
  refine q1_raise hnp hb (fun x hx => (hI x hx).2) (by have := hf.1; omega) hf.2.1 (fun sd0 st0 mp' hz hmp => q2_price hnp hmp ?_)
  refine i8 ⟨fun _ => md _ (fun f2 hf2 n1 n2 sd0' st0' ls ft l hz' => ?_) (fun hno => absurd hf.2.1 (hno f hf.1)), fun z => absurd h2 z⟩
  have ef := fsO_u hf hf2
  subst ef
  have f3 := hf.1
  constructor
  · have hsum := rz_sum hb np f st0 (by omega) hf.2.1 (by omega) (fun i q1 q2 => (hz i q2).2)
    rw [hsum, show f / 3 = 0 by omega, iI_of (psum st0 pr 0), iI_add]
    congr 1
    show (0 : Int32).toInt + L f = L f
    rw [zt_0]; omega
  · refine hJ _ _ _ _ _ _ _ _ _ _ _ _ _ _ _ _ _ ⟨hnp, fun i hi => ?_, hp.2.2⟩ hmp l
    obtain ⟨q1, q2, q3, q4, q5, q6, q7, q8, q9, q10, q11, q12⟩ := hp.2.1 i hi
    have A := rz_A (A := fun x y => (y = 0 ∨ y = 1) ∧ (y = 0 → x = 0) ∧ -400 ≤ x.toInt ∧ x.toInt ≤ 400) hb (w := sv s) (w' := fun _ => 1) (fun a ha => by
      have t := sd_t (s := s) rfl hS (a := a) (by omega)
      have b := sdS_b hS a
      have t' : (sv s a).toInt = sdS s.toInt a := t
      exact ⟨Or.inr rfl, fun z => absurd z n10, by omega, by omega⟩) np f sd0 st0 (by omega) hf.2.1 (fun i hi => by
        obtain ⟨z1, z2⟩ := hz i hi
        rw [z1, z2, zt_0]
        exact ⟨Or.inl rfl, fun _ => rfl, by omega, by omega⟩) i hi
    refine ⟨q1, q2, ?_, ?_, A.1, A.2.1, q7, q8, q9, q10, A.2.2.1, A.2.2.2⟩
    · exact rz_c np f sd0 sd0' (by rw [(hz i hi).1, (hz' i hi).1])
    · exact rz_c np f st0 st0' (by rw [(hz i hi).2, (hz' i hi).2])
