/-! the component finds the cheapest and raises it -/
theorem q1_find {E : Int} {ln : Int32} {nb np : Nat} {fa fb fk ga gb gk pl pr sd st pl' pr' sd' st' mp : Nat → Int32} {ta : Nat → Int64} {isL : Int32} {fs : Nat → Int64} {wd pu bw sy rc : Int32} (h : LnOk E ln nb np fa fb fk ga gb gk pl pr sd st pl' pr' sd' st' mp ta isL fs wd pu bw sy rc) (h2 : 2 ≤ np) {s : Int32} {S : Int} (hs : s.toInt = S) (hS : 0 ≤ S ∧ S ≤ 400) {L : Nat → Int} {nx : Nat → Nat} (hb : bsO np (edg nb fa fb fk pl wd pu bw sy rc S) pr L nx) {v1 v2 : Int32} {v3 v4 : Int64} {C X : Nat → Int32} {f0 u : Int32}
    {Q : Int32 → Int32 → Int32 → Int64 → Int64 → (Nat → Int32) → (Nat → Int32) → Int32 → Int32 → Prop}
    (hQ1 : ∀ f, fsO L f → ∀ m1 m2 m3 m4 C' X', (∀ x, x < 3 * np → cEn (L x) (C' x) ∧ nEn np L nx x (X' x)) → Q 1 m1 m2 m3 m4 C' X' (nI f) s)
    (hQ0 : (∀ x, x < 3 → ¬ 0 ≤ L x) → ∀ m1 m2 m3 m4 C' X' f', Q 0 m1 m2 m3 m4 C' X' f' s) :
    wp_X1_findCheapest Q (nI nb) fa fb fk (nI np) pl pr ta wd pu (rmI bw sy) rc v1 v2 v3 v4 C X f0 u s := by
  have hnp := h.2.2.2.1.1
  unfold wp_X1_findCheapest
  intro x1 e1 x2 e2
  rw [show (3 : Int32) = nI 3 from rfl, pk_mul] at e1
  have second : ∀ (m1 m2 : Int32) (m3 m4 : Int64) (C X : Nat → Int32), (∀ x, x < 3 * np → cEn (L x) (C x) ∧ nEn np L nx x (X x)) → ∀ d y f, y + d = 3 → f < y → (∀ x, x < y → (C f).toInt ≤ (C x).toInt ∧ ((C f).toInt = (C x).toInt → f ≤ x)) → ∃ n, wl_X1_findCheapest_42 Q (nI nb) fa fb fk (nI np) pl pr ta wd pu (rmI bw sy) rc n m1 m2 m3 m4 C X (nI f) s (nI y) := by
    intro m1 m2 m3 m4 C X hI d
    induction d with
    | zero =>
      intro y f hy hf hm
      have ey : y = 3 := by omega
      subst ey
      refine ⟨1, ?_⟩
      show wb_X1_findCheapest_42 Q _ _ _ _ _ _ _ _ _ _ _ _ _ _ _ _ _ _ _ _ _ _
      unfold wb_X1_findCheapest_42
      refine ⟨fun _ => ⟨vp_nI (by omega) (by omega), ?_⟩, fun z => absurd (nI_le (a := 3) (b := 3) (Nat.le_refl _) (by omega)) z⟩
      rw [cl_nI (by omega)]
      refine ⟨fun hmax => ⟨b_01, hQ0 (fun x hx h0 => ?_) _ _ _ _ _ _ _⟩, fun hmax => ⟨b_11, hQ1 f ⟨hf, ?_, fun x hx h0 => ?_⟩ _ _ _ _ _ _ hI⟩⟩
      · have a1 := (hm x hx).1
        rw [hmax, mx_t] at a1
        rcases (hI x (by omega)).1 with ⟨z1, z2⟩ | ⟨z1, z2, z3⟩
        · omega
        · rw [z3, iI_t (by omega)] at a1; omega
      · exact (cEn_ne (hI f (by omega)).1 hmax).1
      · obtain ⟨k1, k2, k3⟩ := cEn_ne (hI f (by omega)).1 hmax
        obtain ⟨a1, a2⟩ := hm x hx
        rcases (hI x (by omega)).1 with ⟨z1, z2⟩ | ⟨z1, z2, z3⟩
        · omega
        · rw [k3, z3, iI_t (by omega), iI_t (by omega)] at a1 a2
          exact ⟨a1, a2⟩
    | succ d ih =>
      intro y f hy hf hm
      have iy : vp_in (nI y) 120 := vp_nI (by omega) (by omega)
      have jf : vp_in (nI f) 120 := vp_nI (by omega) (by omega)
      by_cases c : (C f).toInt ≤ (C y).toInt
      · obtain ⟨n, hn⟩ := ih (y + 1) f (by omega) (by omega) (fun x hx => by
          rcases (show x < y ∨ x = y by omega) with w | w
          · exact hm x w
          · subst w; exact ⟨c, fun _ => by omega⟩)
        refine ⟨n + 1, ?_⟩
        show wb_X1_findCheapest_42 Q _ _ _ _ _ _ _ _ _ _ _ _ _ _ _ _ _ _ _ _ _ _
        unfold wb_X1_findCheapest_42 wb_X1_findCheapest_70
        refine ⟨fun z => absurd z (nI_ge (a := y) (b := 3) (by omega) (by omega)), fun _ => ⟨iy, jf, ?_⟩⟩
        rw [cl_nI (by omega), cl_nI (by omega)]
        exact ⟨fun _ z hz => by rw [hz, nI_1]; exact hn, fun z => absurd ((x_le _ _).mpr c) z⟩
      · obtain ⟨n, hn⟩ := ih (y + 1) y (by omega) (by omega) (fun x hx => by
          rcases (show x < y ∨ x = y by omega) with w | w
          · have := hm x w; exact ⟨by omega, fun _ => by omega⟩
          · subst w; exact ⟨by omega, fun _ => by omega⟩)
        refine ⟨n + 1, ?_⟩
        show wb_X1_findCheapest_42 Q _ _ _ _ _ _ _ _ _ _ _ _ _ _ _ _ _ _ _ _ _ _
        unfold wb_X1_findCheapest_42 wb_X1_findCheapest_70
        refine ⟨fun z => absurd z (nI_ge (a := y) (b := 3) (by omega) (by omega)), fun _ => ⟨iy, jf, ?_⟩⟩
        rw [cl_nI (by omega), cl_nI (by omega)]
        exact ⟨fun z => absurd ((x_le _ _).mp z) c, fun _ z hz => by rw [hz, nI_1]; exact hn⟩
  have main : ∀ k, ∃ n, ∀ m1 m2 m3 m4 C X g, k ≤ 3 * np → (∀ x, k ≤ x → x < 3 * np → cEn (L x) (C x) ∧ nEn np L nx x (X x)) → wl_X1_findCheapest_19 Q (nI nb) fa fb fk (nI np) pl pr ta wd pu (rmI bw sy) rc n m1 m2 m3 m4 C X g s (nI (3 * np)) (iI ((k : Int) - 1)) := by
    intro k
    induction k with
    | zero =>
      refine ⟨1, fun m1 m2 m3 m4 C X g hk hI => ?_⟩
      show wb_X1_findCheapest_19 Q _ _ _ _ _ _ _ _ _ _ _ _ _ _ _ _ _ _ _ _ _ _ _
      unfold wb_X1_findCheapest_19
      have neg : iI (((0 : Nat) : Int) - 1) < 0 := by decide
      refine ⟨fun _ => ?_, fun z => absurd neg z⟩
      exact second m1 m2 m3 m4 C X (fun x hx => hI x (Nat.zero_le _) hx) 2 1 0 rfl (by omega) (fun x hx => by
        have : x = 0 := by omega
        subst this
        exact ⟨Int.le_refl _, fun _ => Nat.le_refl _⟩)
    | succ k ih =>
      obtain ⟨n, hn⟩ := ih
      refine ⟨n + 1, fun m1 m2 m3 m4 C X g hk hI => ?_⟩
      show wb_X1_findCheapest_19 Q _ _ _ _ _ _ _ _ _ _ _ _ _ _ _ _ _ _ _ _ _ _ _
      unfold wb_X1_findCheapest_19
      have ek : iI (((k + 1 : Nat) : Int) - 1) = nI k := by rw [nI_iI]; congr 1; omega
      rw [ek]
      refine ⟨fun z => absurd z (nI_pos (by omega)), fun _ => ?_⟩
      refine q1_settle h hs hS hb (by omega) (fun x q1 q2 => hI x (by omega) q2) (fun r1 r2 r3 r4 C' X' hI' x20 e20 => ?_)
      have e20' : x20 = iI ((k : Int) - 1) := by rw [e20, nI_iI, show (-1 : Int32) = iI (-1) from rfl, iI_add]; congr 1
      rw [e20']
      exact hn _ _ _ _ _ _ _ (by omega) hI'
  obtain ⟨n, hn⟩ := main (3 * np)
  refine ⟨n, ?_⟩
  have e2' : x2 = iI (((3 * np : Nat) : Int) - 1) := by rw [e2, e1, nI_iI, show (1 : Int32) = iI 1 from rfl, iI_sub]
  rw [e1, e2']
  exact hn _ _ _ _ _ _ _ (Nat.le_refl _) (fun x q1 q2 => absurd q2 (by omega))
/-- what is raised along the way of the cheapest -/
def rz (nx : Nat → Nat) (np : Nat) (w : Nat → Int32) : Nat → Nat → (Nat → Int32) → Nat → Int32
  | 0, a, f => upd f (a / 3) (w a)
  | k + 1, a, f => if a / 3 + 1 = np then upd f (a / 3) (w a) else rz nx np w k (nx a) (upd f (a / 3) (w a))
theorem rz_last {nx : Nat → Nat} {np : Nat} {w : Nat → Int32} {k a : Nat} {f : Nat → Int32} (h : a / 3 + 1 = np) : rz nx np w k a f = upd f (a / 3) (w a) := by
  cases k with
  | zero => rfl
  | succ k => exact if_pos h
theorem rz_next {nx : Nat → Nat} {np : Nat} {w : Nat → Int32} {k a : Nat} {f : Nat → Int32} (h : ¬ a / 3 + 1 = np) : rz nx np w (k + 1) a f = rz nx np w k (nx a) (upd f (a / 3) (w a)) := if_neg h
theorem upd_c {f g : Nat → Int32} {k i : Nat} {v : Int32} (h : f i = g i) : upd f k v i = upd g k v i := by
  by_cases c : i = k
  · subst c; rw [pk_us, pk_us]
  · rw [pk_un c, pk_un c]; exact h
theorem rz_c {nx : Nat → Nat} {np : Nat} {w : Nat → Int32} {i : Nat} : ∀ k a (f g : Nat → Int32), f i = g i → rz nx np w k a f i = rz nx np w k a g i := by
  intro k
  induction k with
  | zero => exact fun a f g h => upd_c h
  | succ k ih =>
    intro a f g h
    by_cases c : a / 3 + 1 = np
    · rw [rz_last c, rz_last c]; exact upd_c h
    · rw [rz_next c, rz_next c]; exact ih _ _ _ (upd_c h)
theorem rz_A {A : Int32 → Int32 → Prop} {np : Nat} {e : Nat → Nat → Prop} {pr : Nat → Int32} {L : Nat → Int} {nx : Nat → Nat} (hb : bsO np e pr L nx) {w w' : Nat → Int32} (hw : ∀ a, a < 3 * np → A (w a) (w' a)) : ∀ k a (f g : Nat → Int32), a < 3 * np → 0 ≤ L a → (∀ i, i < np → A (f i) (g i)) → ∀ i, i < np → A (rz nx np w k a f i) (rz nx np w' k a g i) := by
  have one : ∀ a (f g : Nat → Int32), a < 3 * np → (∀ i, i < np → A (f i) (g i)) → ∀ i, i < np → A (upd f (a / 3) (w a) i) (upd g (a / 3) (w' a) i) := by
    intro a f g ha h i hi
    by_cases c : i = a / 3
    · subst c; rw [pk_us, pk_us]; exact hw a ha
    · rw [pk_un c, pk_un c]; exact h i hi
  intro k
  induction k with
  | zero => exact fun a f g ha _ h => one a f g ha h
  | succ k ih =>
    intro a f g ha h0 h
    by_cases c : a / 3 + 1 = np
    · rw [rz_last c, rz_last c]; exact one a f g ha h
    · rw [rz_next c, rz_next c]
      have g1 := (hb.2 a ha c h0).1
      exact ih (nx a) _ _ g1.2.1 g1.2.2.2 (one a f g ha h)
theorem psum_z {f pr : Nat → Int32} {p : Nat} : ∀ d, (∀ i, p ≤ i → i < p + d → f i = 0) → psum f pr (p + d) = psum f pr p := by
  intro d
  induction d with
  | zero => exact fun _ => rfl
  | succ d ih =>
    intro h
    show psum f pr ((p + d) + 1) = _
    rw [psum_0 (h (p + d) (by omega) (by omega))]
    exact ih (fun i a b => h i a (by omega))
theorem rz_sum {np : Nat} {e : Nat → Nat → Prop} {pr : Nat → Int32} {L : Nat → Int} {nx : Nat → Nat} (hb : bsO np e pr L nx) : ∀ k a (f : Nat → Int32), a < 3 * np → 0 ≤ L a → np ≤ a / 3 + 1 + k → (∀ i, a / 3 ≤ i → i < np → f i = 0) → psum (rz nx np (fun _ => 1) k a f) pr np = psum f pr (a / 3) + iI (L a) := by
  have one : ∀ (f : Nat → Int32) p, psum (upd f p 1) pr (p + 1) = psum f pr p + pr p := by
    intro f p
    rw [psum_1 (by rw [pk_us]; exact n10), psum_congr p (fun i hi => ⟨pk_un (by omega), rfl⟩)]
  have last : ∀ k a (f : Nat → Int32), a < 3 * np → a / 3 + 1 = np → psum (rz nx np (fun _ => 1) k a f) pr np = psum f pr (a / 3) + iI (L a) := by
    intro k a f ha c
    rw [rz_last c]
    have := one f (a / 3)
    rw [c] at this
    rw [this, (hb.1 a (Nat.zero_le _) ha).2.1 c, ← iI_of]
  intro k
  induction k with
  | zero => exact fun a f ha h0 hk hz => last 0 a f ha (by omega)
  | succ k ih =>
    intro a f ha h0 hk hz
    by_cases c : a / 3 + 1 = np
    · exact last _ a f ha c
    · rw [rz_next c]
      obtain ⟨⟨g1, g2, g3, g4⟩, g5, -⟩ := hb.2 a ha c h0
      have ez : ∀ i, a / 3 + 1 ≤ i → i < np → upd f (a / 3) 1 i = 0 := fun i q1 q2 => by rw [pk_un (by omega)]; exact hz i (by omega) q2
      rw [ih (nx a) _ g2 g4 (by omega) (fun i q1 q2 => ez i (by omega) q2)]
      obtain ⟨d, ed⟩ : ∃ d, nx a / 3 = a / 3 + 1 + d := ⟨nx a / 3 - (a / 3 + 1), by omega⟩
      rw [ed, psum_z (p := a / 3 + 1) d (fun i q1 q2 => ez i q1 (by omega)), one, g5]
      rw [Int32.add_assoc]
      congr 1
      rw [iI_of (pr (a / 3)), iI_add, iI_t (iI_rng _), Int.add_comm]
/-- a side as a number of 32 bits -/
def sv (s : Int32) (a : Nat) : Int32 := ((nI a - nI a / 3 * 3) - 1) * s
theorem q1_raise {np : Nat} (hnp : np ≤ 40) {e : Nat → Nat → Prop} {pr : Nat → Int32} {L : Nat → Int} {nx : Nat → Nat} (hb : bsO np e pr L nx) {X : Nat → Int32} (hX : ∀ x, x < 3 * np → nEn np L nx x (X x)) {f : Nat} (hf : f < 3 * np) (hf0 : 0 ≤ L f) {s ms : Int32} {sd st mp : Nat → Int32} {Q : Int32 → (Nat → Int32) → (Nat → Int32) → (Nat → Int32) → Prop}
    (hQ : ∀ sd0 st0 mp', (∀ i, i < np → sd0 i = 0 ∧ st0 i = 0) → mpOk np (rz nx np (fun _ => 1) np f st0) mp' → Q (nI (cnt (rz nx np (fun _ => 1) np f st0) np)) (rz nx np (sv s) np f sd0) (rz nx np (fun _ => 1) np f st0) mp') :
    wp_X1_raiseFound Q (nI np) ms sd st mp X (nI f) s := by
  unfold wp_X1_raiseFound
  have walk : ∀ d, ∃ n, ∀ a j (sd st : Nat → Int32) (ms : Int32) (mp : Nat → Int32), a < 3 * np → 0 ≤ L a → np ≤ a / 3 + 1 + d → j ≤ a / 3 → (∀ mp', mpOk np (rz nx np (fun _ => 1) d a st) mp' → Q (nI (cnt (rz nx np (fun _ => 1) d a st) np)) (rz nx np (sv s) d a sd) (rz nx np (fun _ => 1) d a st) mp') → wl_X1_raiseFound_34 Q (nI np) X (nI f) s (n + 1) ms sd st mp (nI a) (nI j) := by
    -- the last mast
    have fin : ∀ n a j (sd st : Nat → Int32) (ms : Int32) (mp : Nat → Int32), a < 3 * np → a / 3 + 1 = np → j ≤ a / 3 → (∀ mp', mpOk np (upd st (a / 3) 1) mp' → Q (nI (cnt (upd st (a / 3) 1) np)) (upd sd (a / 3) (sv s a)) (upd st (a / 3) 1) mp') → wl_X1_raiseFound_34 Q (nI np) X (nI f) s (n + 2) ms sd st mp (nI a) (nI j) := by
      intro n a j sd st ms mp ha hl hj hq
      show wb_X1_raiseFound_34 Q _ _ _ _ (wl_X1_raiseFound_34 Q (nI np) X (nI f) s (n + 1)) _ _ _ _ _ _
      unfold wb_X1_raiseFound_34 wp_X1_sideOf wp_X2_raise
      refine ⟨fun z => absurd z (nI_ge (by omega) (by omega)), fun _ => ⟨fun z => absurd z (fun q => ?_), fun _ => ?_⟩⟩
      · have := congrArg Int32.toInt q
        rw [nI_t (by omega), show (-1 : Int32).toInt = -1 from rfl] at this
        omega
      show vp_in (nI a / 3) 40 ∧ ∀ g2 : Nat → Int32, g2 = upd st (nI a / 3).toNatClampNeg (vp_nar .boolean 1) → vp_in (nI a / 3) 40 ∧ ∀ g4 : Nat → Int32, g4 = upd sd (nI a / 3).toNatClampNeg (sv s a) → _
      rw [st_div (by omega), cl_nI (show a / 3 < 2147483648 by omega), cl_nI (show a < 2147483648 by omega), nar1]
      have ip : vp_in (nI (a / 3)) 40 := vp_nI (by omega) (by omega)
      refine ⟨ip, fun g2 e2 => ⟨ip, fun g4 e4 => ⟨vp_nI (by omega) (by omega), fun x13 e13 x14 e14 => ?_⟩⟩⟩
      rw [(hX a ha).1 hl] at e13
      rw [e13, e2, e4]
      show wb_X1_raiseFound_34 Q _ _ _ _ _ _ _ _ _ _ _
      unfold wb_X1_raiseFound_34 wb_X1_raiseFound_78
      have go := q2_listMasts (Q := fun m4 m5 => Q m4 (upd sd (a / 3) (sv s a)) (upd st (a / 3) 1) m5) hnp (v := ms) (st := upd st (a / 3) 1) (mp := mp) hq
      exact ⟨fun _ => go, fun _ => ⟨fun _ => go, fun z => absurd rfl z⟩⟩
    intro d
    induction d with
    | zero =>
      refine ⟨1, fun a j sd st ms mp ha h0 hd hj hq => ?_⟩
      have hl : a / 3 + 1 = np := by omega
      rw [rz_last hl, rz_last hl] at hq
      exact fin 0 a j sd st ms mp ha hl hj hq
    | succ d ih =>
      obtain ⟨n, hn⟩ := ih
      refine ⟨n + 1, fun a j sd st ms mp ha h0 hd hj hq => ?_⟩
      by_cases hl : a / 3 + 1 = np
      · rw [rz_last hl, rz_last hl] at hq
        exact fin n a j sd st ms mp ha hl hj hq
      · rw [rz_next hl, rz_next hl] at hq
        obtain ⟨⟨w1, w2, w3, w4⟩, w5, -⟩ := hb.2 a ha hl h0
        show wb_X1_raiseFound_34 Q _ _ _ _ (wl_X1_raiseFound_34 Q (nI np) X (nI f) s (n + 1)) _ _ _ _ _ _
        unfold wb_X1_raiseFound_34 wp_X1_sideOf wp_X2_raise
        refine ⟨fun z => absurd z (nI_ge (by omega) (by omega)), fun _ => ⟨fun z => absurd z (fun q => ?_), fun _ => ?_⟩⟩
        · have := congrArg Int32.toInt q
          rw [nI_t (by omega), show (-1 : Int32).toInt = -1 from rfl] at this
          omega
        show vp_in (nI a / 3) 40 ∧ ∀ g2 : Nat → Int32, g2 = upd st (nI a / 3).toNatClampNeg (vp_nar .boolean 1) → vp_in (nI a / 3) 40 ∧ ∀ g4 : Nat → Int32, g4 = upd sd (nI a / 3).toNatClampNeg (sv s a) → _
        rw [st_div (by omega), cl_nI (show a / 3 < 2147483648 by omega), cl_nI (show a < 2147483648 by omega), nar1]
        have ip : vp_in (nI (a / 3)) 40 := vp_nI (by omega) (by omega)
        refine ⟨ip, fun g2 e2 => ⟨ip, fun g4 e4 => ⟨vp_nI (by omega) (by omega), fun x13 e13 x14 e14 => ?_⟩⟩⟩
        rw [(hX a ha).2 hl h0] at e13
        rw [nI_1] at e14
        rw [e13, e14, e2, e4]
        exact hn (nx a) (j + 1) _ _ _ _ w2 w4 (by omega) (by omega) hq
  have clr : ∀ d k (sd st : Nat → Int32) (ms : Int32) (mp : Nat → Int32), k + d = np → (∀ i, i < k → sd i = 0 ∧ st i = 0) → ∃ n, wl_X1_raiseFound_2 Q (nI np) X (nI f) s n ms sd st mp (nI k) := by
    intro d
    induction d with
    | zero =>
      intro k sd st ms mp hk hz
      have ek : k = np := by omega
      subst ek
      refine ⟨1, ?_⟩
      show wb_X1_raiseFound_2 Q _ _ _ _ _ _ _ _ _ _
      unfold wb_X1_raiseFound_2
      refine ⟨fun _ => ?_, fun z => absurd (nI_le (Nat.le_refl _) (by omega)) z⟩
      obtain ⟨n, hn⟩ := walk k
      exact ⟨n + 1, hn f 0 sd st ms mp hf hf0 (by omega) (Nat.zero_le _) (fun mp' hm => hQ sd st mp' hz hm)⟩
    | succ d ih =>
      intro k sd st ms mp hk hz
      obtain ⟨n, hn⟩ := ih (k + 1) (upd sd k 0) (upd st k 0) ms mp (by omega) (fun i hi => by
        by_cases c : i = k
        · subst c; exact ⟨pk_us, pk_us⟩
        · rw [pk_un c, pk_un c]; exact hz i (by omega))
      refine ⟨n + 1, ?_⟩
      show wb_X1_raiseFound_2 Q _ _ _ _ _ _ _ _ _ _
      unfold wb_X1_raiseFound_2 wp_X2_takeDown
      have ik : vp_in (nI k) 40 := vp_nI (by omega) (by omega)
      refine ⟨fun z => absurd z (nI_ge (by omega) (by omega)), fun _ => ⟨ik, fun g2 e2 => ⟨ik, fun g4 e4 x18 e18 => ?_⟩⟩⟩
      rw [cl_nI (by omega), nar0] at e2
      rw [cl_nI (by omega)] at e4
      rw [e2, e4, e18, nI_1]
      exact hn
  exact clr np 0 sd st ms mp (by omega) (fun i hi => absurd hi (Nat.not_lt_zero _))
