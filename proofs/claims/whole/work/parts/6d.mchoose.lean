/-! the model's search -/
def ftO (np : Nat) (e : Nat → Nat → Prop) (L : Nat → Int) (ft : Nat → Int32) (x y : Nat) : Prop := ¬ ft (120 * x + y) = 0 ↔ (0 ≤ L y ∧ e x y)
def mOk (np : Nat) (e : Nat → Nat → Prop) (L : Nat → Int) (k : Nat) (ls ft : Nat → Int32) : Prop := ∀ x, k ≤ x → x < 3 * np → ls x = iI (L x) ∧ ∀ y, x / 3 < y / 3 → y < 3 * np → ftO np e L ft x y
theorem q8_walk {np : Nat} (hnp : np ≤ 40) {e : Nat → Nat → Prop} {pr pr' : Nat → Int32} (hpp : ∀ i, i < np → pr i = pr' i) (hpr : ∀ i, i < np → 1 ≤ (pr i).toInt ∧ (pr i).toInt ≤ 1000) {L : Nat → Int} {nx : Nat → Nat} (hb : bsO np e pr L nx) {ls ft : Nat → Int32} (hm : mOk np e L 0 ls ft) {ln vb : Int32} {ga gb gk pl' : Nat → Int32} {wd pu bw sy rc s all : Int32} {n1 : Int32} {n2 : Nat → Int64} {Q : Int32 → Int32 → (Nat → Int64) → (Nat → Int32) → (Nat → Int32) → (Nat → Int32) → (Nat → Int32) → Prop} :
    ∀ d, ∃ n, ∀ a (sd st : Nat → Int32), a < 3 * np → 0 ≤ L a → np ≤ a / 3 + 1 + d → Q all n1 n2 (rz nx np (fun _ => 1) d a st) (rz nx np (sv s) d a sd) ls ft → wl_X8_choose_359 Q ln vb ga gb gk (nI np) pl' pr' wd pu bw sy rc n n1 n2 (upd st (a / 3) 1) (upd sd (a / 3) (sv s a)) ls ft s (nI a) all := by
  have lb := fun (x : Nat) (hx : x < 3 * np) => bs_b hnp hpr hb hx
  have fin : ∀ d n a (sd st : Nat → Int32), a < 3 * np → a / 3 + 1 = np → Q all n1 n2 (rz nx np (fun _ => 1) d a st) (rz nx np (sv s) d a sd) ls ft → wl_X8_choose_359 Q ln vb ga gb gk (nI np) pl' pr' wd pu bw sy rc (n + 1) n1 n2 (upd st (a / 3) 1) (upd sd (a / 3) (sv s a)) ls ft s (nI a) all := by
    intro d n a sd st ha hl hq
    rw [rz_last hl, rz_last hl] at hq
    show wb_X8_choose_359 Q _ _ _ _ _ _ _ _ _ _ _ _ _ _ _ _ _ _ _ _ _ _ _
    unfold wb_X8_choose_359
    rw [st_div (by omega)]
    have ep : nI np - 1 = nI (np - 1) := by
      obtain ⟨m, rfl⟩ : ∃ m, np = m + 1 := ⟨np - 1, by omega⟩
      exact nI_pred m
    rw [ep]
    exact ⟨fun _ => hq, fun z => absurd (nI_le (by omega) (by omega)) z⟩
  intro d
  induction d with
  | zero => exact ⟨1, fun a sd st ha h0 hd hq => fin 0 0 a sd st ha (by omega) hq⟩
  | succ d ih =>
    obtain ⟨n, hn⟩ := ih
    refine ⟨n + 1, fun a sd st ha h0 hd hq => ?_⟩
    by_cases hl : a / 3 + 1 = np
    · exact fin (d + 1) n a sd st ha hl hq
    rw [rz_next hl, rz_next hl] at hq
    obtain ⟨⟨w1, w2, w3, w4⟩, w5, w6⟩ := hb.2 a ha hl h0
    have hpa := hpr (a / 3) (by omega)
    have la := lb a ha
    show wb_X8_choose_359 Q _ _ _ _ _ _ _ _ _ _ _ _ _ _ _ _ _ _ _ _ _ _ _
    unfold wb_X8_choose_359
    rw [st_div (by omega)]
    have ep : nI np - 1 = nI (np - 1) := by
      obtain ⟨m, rfl⟩ : ∃ m, np = m + 1 := ⟨np - 1, by omega⟩
      exact nI_pred m
    rw [ep]
    refine ⟨fun z => absurd z (nI_ge (by omega) (by omega)), fun _ x20 e20 => ?_⟩
    rw [nI_1, show (3 : Int32) = nI 3 from rfl, pk_mul] at e20
    rw [e20]
    have look : ∀ dd b, b + dd = nx a → 3 * (a / 3 + 1) ≤ b → ∃ m, wl_X8_choose_380 Q ln vb ga gb gk (nI np) pl' pr' wd pu bw sy rc (wl_X8_choose_359 Q ln vb ga gb gk (nI np) pl' pr' wd pu bw sy rc n) m n1 n2 (upd st (a / 3) 1) (upd sd (a / 3) (sv s a)) ls ft s (nI a) all (nI b) := by
      intro dd
      induction dd with
      | zero =>
        intro b hbb hb3
        have eb : b = nx a := by omega
        subst eb
        refine ⟨1, ?_⟩
        show wb_X8_choose_380 Q _ _ _ _ _ _ _ _ _ _ _ _ _ _ _ _ _ _ _ _ _ _ _ _ _
        unfold wb_X8_choose_380 wp_X8_sideOf
        rw [show ((nI (nx a) - nI (nx a) / 3 * 3) - 1) * s = sv s (nx a) from rfl]
        rw [show (120 : Int32) = nI 120 from rfl, pk_mul, nI_add, st_div (by omega), st_div (by omega), cl_nI (by omega), cl_nI (by omega), cl_nI (by omega), cl_nI (by omega), cl_nI (by omega), nar1]
        have hft := ((hm a (Nat.zero_le _) ha).2 (nx a) w1 w2).mpr ⟨w4, w3⟩
        refine ⟨vp_nI (by omega) (by omega), fun z => absurd z hft, fun _ => ⟨vp_nI (by omega) (by omega), vp_nI (by omega) (by omega), vp_nI (by omega) (by omega), fun _ => ⟨vp_nI (by omega) (by omega), fun g31 e31 => ⟨vp_nI (by omega) (by omega), fun g35 e35 => ?_⟩⟩, fun z => absurd ?_ z⟩⟩
        · rw [e31, e35]
          exact hn (nx a) _ _ w2 w4 (by omega) hq
        · rw [(hm a (Nat.zero_le _) ha).1, (hm (nx a) (Nat.zero_le _) w2).1, ← hpp _ (by omega), w5, iI_of (pr (a / 3)), iI_add, iI_t (iI_rng _)]
      | succ dd ih =>
        intro b hbb hb3
        obtain ⟨m, hm'⟩ := ih (b + 1) (by omega) (by omega)
        refine ⟨m + 1, ?_⟩
        show wb_X8_choose_380 Q _ _ _ _ _ _ _ _ _ _ _ _ _ _ _ _ _ _ _ _ _ _ _ _ _
        unfold wb_X8_choose_380 wb_X8_choose_420
        rw [show (120 : Int32) = nI 120 from rfl, pk_mul, nI_add, st_div (by omega), st_div (by omega), cl_nI (show 120 * a + b < 2147483648 by omega), cl_nI (show b < 2147483648 by omega), cl_nI (show a / 3 < 2147483648 by omega), cl_nI (show a < 2147483648 by omega)]
        refine ⟨vp_nI (by omega) (by omega), fun _ z hz => by rw [hz, nI_1]; exact hm', fun hft => ⟨vp_nI (by omega) (by omega), vp_nI (by omega) (by omega), vp_nI (by omega) (by omega), fun heq => ?_, fun _ z hz => by rw [hz, nI_1]; exact hm'⟩⟩
        exfalso
        obtain ⟨f1, f2⟩ := ((hm a (Nat.zero_le _) ha).2 b (by omega) (by omega)).mp hft
        have hbl := lb b (by omega)
        rw [(hm a (Nat.zero_le _) ha).1, (hm b (Nat.zero_le _) (by omega)).1, ← hpp _ (by omega), iI_of (pr (a / 3)), iI_add, iI_eq (by omega) (by omega)] at heq
        have := w6 b ⟨by omega, by omega, f2, f1⟩ heq.symm
        omega
    exact look (nx a - 3 * (a / 3 + 1)) (3 * (a / 3 + 1)) (by omega) (Nat.le_refl _)
/-- clears the masts, then raises the found ones -/
theorem q8_raise {np : Nat} (hnp : np ≤ 40) (h2 : 2 ≤ np) {e : Nat → Nat → Prop} {pr pr' : Nat → Int32} (hpp : ∀ i, i < np → pr i = pr' i) (hpr : ∀ i, i < np → 1 ≤ (pr i).toInt ∧ (pr i).toInt ≤ 1000) {L : Nat → Int} {nx : Nat → Nat} (hb : bsO np e pr L nx) {ls ft : Nat → Int32} (hm : mOk np e L 0 ls ft) {ln vb : Int32} {ga gb gk pl' : Nat → Int32} {wd pu bw sy rc s all : Int32} {n1 : Int32} {n2 : Nat → Int64} {Q : Int32 → Int32 → (Nat → Int64) → (Nat → Int32) → (Nat → Int32) → (Nat → Int32) → (Nat → Int32) → Prop} {f : Nat} (hf : f < 3) (hf0 : 0 ≤ L f)
    (hQ : ∀ sd0 st0, (∀ i, i < np → sd0 i = 0 ∧ st0 i = 0) → Q all n1 n2 (rz nx np (fun _ => 1) np f st0) (rz nx np (sv s) np f sd0) ls ft) :
    ∀ d k (sd st : Nat → Int32), k + d = np → (∀ i, i < k → sd i = 0 ∧ st i = 0) → ∃ n, wl_X8_choose_309 Q ln vb ga gb gk (nI np) pl' pr' wd pu bw sy rc n n1 n2 st sd ls ft s (nI f) all (nI k) := by
  intro d
  induction d with
  | zero =>
    intro k sd st hk hz
    have ek : k = np := by omega
    subst ek
    refine ⟨1, ?_⟩
    show wb_X8_choose_309 Q _ _ _ _ _ _ _ _ _ _ _ _ _ _ _ _ _ _ _ _ _ _ _ _
    unfold wb_X8_choose_309 wp_X8_sideOf
    rw [show ((nI f - nI f / 3 * 3) - 1) * s = sv s f from rfl]
    refine ⟨fun _ => ⟨vp_nI (n := 0) (by omega) (by omega), fun g13 e13 => ⟨vp_nI (n := 0) (by omega) (by omega), fun g16 e16 => ?_⟩⟩, fun z => absurd (nI_le (Nat.le_refl _) (by omega)) z⟩
    rw [show ((0 : Int32).toNatClampNeg) = f / 3 by rw [show f / 3 = 0 by omega]; rfl] at e13 e16
    rw [nar1] at e13
    rw [e13, e16]
    obtain ⟨n, hn⟩ := q8_walk hnp hpp hpr hb hm (ln := ln) (vb := vb) (ga := ga) (gb := gb) (gk := gk) (pl' := pl') (wd := wd) (pu := pu) (bw := bw) (sy := sy) (rc := rc) (s := s) (all := all) (n1 := n1) (n2 := n2) (Q := Q) k
    exact ⟨n, hn f sd st (by omega) hf0 (by omega) (hQ sd st hz)⟩
  | succ d ih =>
    intro k sd st hk hz
    obtain ⟨n, hn⟩ := ih (k + 1) (upd sd k 0) (upd st k 0) (by omega) (fun i hi => by
      by_cases c : i = k
      · subst c; exact ⟨pk_us, pk_us⟩
      · rw [pk_un c, pk_un c]; exact hz i (by omega))
    refine ⟨n + 1, ?_⟩
    show wb_X8_choose_309 Q _ _ _ _ _ _ _ _ _ _ _ _ _ _ _ _ _ _ _ _ _ _ _ _
    unfold wb_X8_choose_309
    have ik : vp_in (nI k) 40 := vp_nI (by omega) (by omega)
    refine ⟨fun z => absurd z (nI_ge (by omega) (by omega)), fun _ => ⟨ik, fun g2 e2 => ⟨ik, fun g4 e4 x18 e18 => ?_⟩⟩⟩
    rw [cl_nI (by omega), nar0] at e2
    rw [cl_nI (by omega)] at e4
    rw [e2, e4, e18, nI_1]
    exact hn
/-- the first mast -/
theorem q8_first {np : Nat} (hnp : np ≤ 40) (h2 : 2 ≤ np) {e : Nat → Nat → Prop} {pr pr' : Nat → Int32} (hpp : ∀ i, i < np → pr i = pr' i) (hpr : ∀ i, i < np → 1 ≤ (pr i).toInt ∧ (pr i).toInt ≤ 1000) {L : Nat → Int} {nx : Nat → Nat} (hb : bsO np e pr L nx) {ls ft : Nat → Int32} (hm : mOk np e L 0 ls ft) {ln vb : Int32} {ga gb gk pl' : Nat → Int32} {wd pu bw sy rc s : Int32} {n1 : Int32} {n2 : Nat → Int64} {sd st : Nat → Int32} {Q : Int32 → Int32 → (Nat → Int64) → (Nat → Int32) → (Nat → Int32) → (Nat → Int32) → (Nat → Int32) → Prop}
    (hQ1 : ∀ f, fsO L f → ∀ sd0 st0, (∀ i, i < np → sd0 i = 0 ∧ st0 i = 0) → Q (iI (L f)) n1 n2 (rz nx np (fun _ => 1) np f st0) (rz nx np (sv s) np f sd0) ls ft)
    (hQ0 : (∀ x, x < 3 → ¬ 0 ≤ L x) → Q (-5) n1 n2 st sd ls ft) :
    ∀ j at', j ≤ 3 → ((at' = -6 ∧ ∀ x, j ≤ x → x < 3 → ¬ 0 ≤ L x) ∨ ∃ f, at' = nI f ∧ j ≤ f ∧ f < 3 ∧ 0 ≤ L f ∧ ∀ x, j ≤ x → x < 3 → 0 ≤ L x → L f ≤ L x ∧ (L f = L x → f ≤ x)) → ∃ n, wl_X8_choose_243 Q ln vb ga gb gk (nI np) pl' pr' wd pu bw sy rc n n1 n2 st sd ls ft s at' (iI ((j : Int) - 1)) := by
  have lb := fun (x : Nat) (hx : x < 3 * np) => bs_b hnp hpr hb hx
  intro j
  induction j with
  | zero =>
    intro at' hj hi
    refine ⟨1, ?_⟩
    show wb_X8_choose_243 Q _ _ _ _ _ _ _ _ _ _ _ _ _ _ _ _ _ _ _ _ _ _ _
    unfold wb_X8_choose_243
    have neg : iI (((0 : Nat) : Int) - 1) < 0 := by decide
    refine ⟨fun _ => ?_, fun z => absurd neg z⟩
    rcases hi with ⟨h1, h3⟩ | ⟨f, h1, h3, h4, h5, h6⟩
    · rw [h1]
      exact ⟨fun z => absurd z (by decide), fun _ => hQ0 (fun x hx => h3 x (Nat.zero_le _) hx)⟩
    · rw [h1]
      refine ⟨fun _ => ⟨vp_nI (by omega) (by omega), fun x10 e10 => ?_⟩, fun z => absurd (nI_pos' (by omega)) z⟩
      rw [cl_nI (by omega), (hm f (Nat.zero_le _) (by omega)).1] at e10
      rw [e10]
      exact q8_raise hnp h2 hpp hpr hb hm h4 h5 (hQ1 f ⟨h4, h5, fun x hx => h6 x (Nat.zero_le _) hx⟩) np 0 sd st (by omega) (fun i hi => absurd hi (Nat.not_lt_zero _))
  | succ j ih =>
    intro at' hj hi
    have ij : vp_in (nI j) 120 := vp_nI (by omega) (by omega)
    have ej : iI (((j + 1 : Nat) : Int) - 1) = nI j := by rw [nI_iI]; congr 1; omega
    have dn : nI j + -1 = iI ((j : Int) - 1) := by rw [nI_iI, show (-1 : Int32) = iI (-1) from rfl, iI_add]; congr 1
    have lj := lb j (by omega)
    have lsj := (hm j (Nat.zero_le _) (by omega)).1
    have neg : (ls j < 0 ↔ ¬ 0 ≤ L j) := by rw [lsj, x_lt, zt_0, iI_t (by omega)]; omega
    -- the value that goes on
    by_cases c : 0 ≤ L j ∧ ∀ f, at' = nI f → f < 3 → L j ≤ L f
    · obtain ⟨n, hn⟩ := ih (nI j) (by omega) (Or.inr ⟨j, rfl, Nat.le_refl _, by omega, c.1, fun x q1 q2 q3 => by
        rcases (show x = j ∨ j + 1 ≤ x by omega) with w | w
        · subst w; exact ⟨Int.le_refl _, fun _ => Nat.le_refl _⟩
        · rcases hi with ⟨h1, h3⟩ | ⟨f, h1, h3, h4, h5, h6⟩
          · exact absurd q3 (h3 x w q2)
          · have a1 := (h6 x w q2 q3).1
            have a2 := c.2 f h1 h4
            exact ⟨by omega, fun _ => q1⟩⟩)
      refine ⟨n + 1, ?_⟩
      show wb_X8_choose_243 Q _ _ _ _ _ _ _ _ _ _ _ _ _ _ _ _ _ _ _ _ _ _ _
      unfold wb_X8_choose_243 wb_X8_choose_278 wb_X8_choose_284
      rw [ej, cl_nI (show j < 2147483648 by omega)]
      refine ⟨fun z => absurd z (nI_pos (by omega)), fun _ => ⟨ij, fun z => absurd c.1 (neg.mp z), fun _ => ⟨fun _ z hz => by rw [hz, dn]; exact hn, fun hat => ?_⟩⟩⟩
      rcases hi with ⟨h1, h3⟩ | ⟨f, h1, h3, h4, h5, h6⟩
      · rw [h1] at hat
        exact absurd (by decide) hat
      · rw [h1, cl_nI (show f < 2147483648 by omega)]
        refine ⟨ij, vp_nI (by omega) (by omega), fun z => ?_, fun _ z hz => by rw [hz, dn]; exact hn⟩
        exfalso
        have lf := lb f (by omega)
        rw [lsj, (hm f (Nat.zero_le _) (by omega)).1, iI_lt (by omega) (by omega)] at z
        have := c.2 f h1 h4
        omega
    · obtain ⟨n, hn⟩ := ih at' (by omega) (by
        rcases hi with ⟨h1, h3⟩ | ⟨f, h1, h3, h4, h5, h6⟩
        · refine Or.inl ⟨h1, fun x q1 q2 q3 => ?_⟩
          rcases (show x = j ∨ j + 1 ≤ x by omega) with w | w
          · subst w
            refine c ⟨q3, fun f hf hf3 => ?_⟩
            rw [h1] at hf
            have := congrArg Int32.toInt hf
            rw [nI_t (by omega), show (-6 : Int32).toInt = -6 from rfl] at this
            omega
          · exact h3 x w q2 q3
        · refine Or.inr ⟨f, h1, by omega, h4, h5, fun x q1 q2 q3 => ?_⟩
          rcases (show x = j ∨ j + 1 ≤ x by omega) with w | w
          · subst w
            have : ¬ L x ≤ L f := fun z => c ⟨q3, fun f' hf' hf3 => by
              have e : f' = f := by
                rw [h1] at hf'
                exact ((nI_eq (by omega) (by omega)).mp hf').symm
              rw [e]; exact z⟩
            exact ⟨by omega, fun _ => by omega⟩
          · exact h6 x w q2 q3)
      refine ⟨n + 1, ?_⟩
      show wb_X8_choose_243 Q _ _ _ _ _ _ _ _ _ _ _ _ _ _ _ _ _ _ _ _ _ _ _
      unfold wb_X8_choose_243 wb_X8_choose_283 wb_X8_choose_284
      rw [ej, cl_nI (show j < 2147483648 by omega)]
      refine ⟨fun z => absurd z (nI_pos (by omega)), fun _ => ⟨ij, fun _ z hz => by rw [hz, dn]; exact hn, fun hj0 => ?_⟩⟩
      have hj0' : 0 ≤ L j := Classical.byContradiction (fun z => hj0 (neg.mpr z))
      rcases hi with ⟨h1, h3⟩ | ⟨f, h1, h3, h4, h5, h6⟩
      · exfalso
        refine c ⟨hj0', fun f hf hf3 => ?_⟩
        rw [h1] at hf
        have := congrArg Int32.toInt hf
        rw [nI_t (by omega), show (-6 : Int32).toInt = -6 from rfl] at this
        omega
      · rw [h1] at hn ⊢
        refine ⟨fun z => absurd z (nI_pos (by omega)), fun _ => ⟨ij, vp_nI (by omega) (by omega), ?_⟩⟩
        rw [cl_nI (show f < 2147483648 by omega)]
        refine ⟨fun _ z hz => by rw [hz, dn]; exact hn, fun z => absurd ?_ c⟩
        have lf := lb f (by omega)
        rw [lsj, (hm f (Nat.zero_le _) (by omega)).1, iI_lt (by omega) (by omega)] at z
        refine ⟨hj0', fun f' hf' hf3 => ?_⟩
        have e : f' = f := by
          rw [h1] at hf'
          exact ((nI_eq (by omega) (by omega)).mp hf').symm
        rw [e]; omega
