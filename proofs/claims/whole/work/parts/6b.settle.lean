/-! the component's search, from the last state backwards -/
def cEn (c : Int) (v : Int32) : Prop := (c = -1 ∧ v = 2147483647) ∨ (0 ≤ c ∧ c ≤ 40000 ∧ v = iI c)
def nEn (np : Nat) (L : Nat → Int) (nx : Nat → Nat) (x : Nat) (v : Int32) : Prop := (x / 3 + 1 = np → v = -1) ∧ (¬ x / 3 + 1 = np → 0 ≤ L x → v = nI (nx x))
def sIn (np : Nat) (e : Nat → Nat → Prop) (L : Nat → Int) (nx : Nat → Nat) (pa : Int) (a t : Nat) (C X : Nat → Int32) : Prop :=
  (∀ x, a < x → x < 3 * np → cEn (L x) (C x) ∧ nEn np L nx x (X x)) ∧ ∃ c, cEn c (C a) ∧ mnO (fun x => gd (3 * np) e L a x ∧ t < x) (fun x => L x + pa) c ∧ (0 ≤ c → ∃ b, X a = nI b ∧ gd (3 * np) e L a b ∧ t < b ∧ c = L b + pa ∧ ∀ b', gd (3 * np) e L a b' → t < b' → c = L b' + pa → b ≤ b')
theorem mx_t : (2147483647 : Int32).toInt = 2147483647 := rfl
theorem cEn_ne {c : Int} {v : Int32} (h : cEn c v) (hv : ¬ v = 2147483647) : 0 ≤ c ∧ c ≤ 40000 ∧ v = iI c := by
  rcases h with ⟨h1, h2⟩ | h
  · exact absurd h2 hv
  · exact h
theorem cEn_eq {c : Int} {v : Int32} (h : cEn c v) (hv : v = 2147483647) : c = -1 := by
  rcases h with ⟨h1, h2⟩ | ⟨h1, h2, h3⟩
  · exact h1
  · exfalso
    rw [h3, x_eq, mx_t, iI_t (by omega)] at hv
    omega
theorem q1_settle {E : Int} {ln : Int32} {nb np : Nat} {fa fb fk ga gb gk pl pr sd st pl' pr' sd' st' mp : Nat → Int32} {ta : Nat → Int64} {isL : Int32} {fs : Nat → Int64} {wd pu bw sy rc : Int32} (h : LnOk E ln nb np fa fb fk ga gb gk pl pr sd st pl' pr' sd' st' mp ta isL fs wd pu bw sy rc) {s : Int32} {S : Int} (hs : s.toInt = S) (hS : 0 ≤ S ∧ S ≤ 400) {L : Nat → Int} {nx : Nat → Nat} (hb : bsO np (edg nb fa fb fk pl wd pu bw sy rc S) pr L nx) {a : Nat} (ha : a < 3 * np) {v1 v2 : Int32} {v3 v4 : Int64} {C X : Nat → Int32}
    (hI : ∀ x, a < x → x < 3 * np → cEn (L x) (C x) ∧ nEn np L nx x (X x)) {Q : Int32 → Int32 → Int64 → Int64 → (Nat → Int32) → (Nat → Int32) → Prop} (hQ : ∀ m1 m2 m3 m4 C' X', (∀ x, a ≤ x → x < 3 * np → cEn (L x) (C' x) ∧ nEn np L nx x (X' x)) → Q m1 m2 m3 m4 C' X') :
    wp_X1_settle Q (nI nb) fa fb fk (nI np) pl pr ta wd pu (rmI bw sy) rc v1 v2 v3 v4 C X s (nI a) (nI (3 * np)) := by
  have hp := h.2.2.2.1
  have hnp := hp.1
  have hpr : ∀ i, i < np → 1 ≤ (pr i).toInt ∧ (pr i).toInt ≤ 1000 := fun i hi => ⟨(hp.2.1 i hi).2.2.2.2.2.2.2.2.1, (hp.2.1 i hi).2.2.2.2.2.2.2.2.2.1⟩
  have hpa := hpr (a / 3) (by omega)
  obtain ⟨l1, l2, l3⟩ := hb.1 a (Nat.zero_le _) ha
  have lb := fun (x : Nat) (hx : x < 3 * np) => bs_b hnp hpr hb hx
  have ia : vp_in (nI a) 120 := vp_nI (by omega) (by omega)
  have ca : (nI a).toNatClampNeg = a := cl_nI (by omega)
  unfold wp_X1_settle
  intro x2 e2
  rw [st_div (by omega)] at e2
  have ep : nI np - 1 = nI (np - 1) := by
    obtain ⟨m, rfl⟩ : ∃ m, np = m + 1 := ⟨np - 1, by omega⟩
    exact nI_pred m
  have e3 : nI (3 * np) - 1 = nI (3 * np - 1) := by
    obtain ⟨m, em⟩ : ∃ m, 3 * np = m + 1 := ⟨3 * np - 1, by omega⟩
    rw [em]; exact nI_pred m
  subst e2
  rw [ep]
  refine ⟨fun hl => ⟨vp_nI (by omega) (by omega), ?_⟩, fun hl => ?_⟩
  · -- the last peg
    have hl' : a / 3 + 1 = np := by rw [nI_eq (by omega) (by omega)] at hl; omega
    unfold wb_X1_settle_36
    refine ⟨ia, fun g5 e5 => ⟨ia, fun g7 e7 x8 e8 => ⟨1, ?_⟩⟩⟩
    show wb_X1_settle_49 Q _ _ _ _ _ _ _ _ _ _ _ _ _ _ _ _ _ _ _ _ _ _ _
    unfold wb_X1_settle_49
    rw [e8, e3, nI_1, show (3 : Int32) = nI 3 from rfl, pk_mul]
    refine ⟨fun _ => hQ _ _ _ _ _ _ (fun x hx hx2 => ?_), fun z => absurd (nI_lt (by omega) (by omega)) z⟩
    rw [ca, cl_nI (by omega)] at e5
    rw [ca] at e7
    by_cases c : x = a
    · subst c
      rw [e5, e7, pk_us, pk_us]
      have := l2 hl'
      exact ⟨Or.inr ⟨by omega, by omega, by rw [this]; exact iI_of _⟩, fun _ => rfl, fun z => absurd hl' z⟩
    · rw [e5, e7, pk_un c, pk_un c]; exact hI x (by omega) hx2
  · have hl' : ¬ a / 3 + 1 = np := fun z => hl (by rw [nI_eq (by omega) (by omega)]; omega)
    have l3' := l3 hl'
    have main : ∀ d, ∃ n, ∀ t m1 m2 m3 m4 C X, t = 3 * (a / 3) + 2 + d → t < 3 * np → sIn np (edg nb fa fb fk pl wd pu bw sy rc S) L nx (pr (a / 3)).toInt a t C X → wl_X1_settle_49 Q (nI nb) fa fb fk (nI np) pl pr ta wd pu (rmI bw sy) rc s n m1 m2 m3 m4 C X (nI a) (nI (a / 3)) (nI t) := by
      intro d
      induction d with
      | zero =>
        refine ⟨1, fun t m1 m2 m3 m4 C X ht htN hs => ?_⟩
        show wb_X1_settle_49 Q _ _ _ _ _ _ _ _ _ _ _ _ _ _ _ _ _ _ _ _ _ _ _
        unfold wb_X1_settle_49
        rw [nI_1, show (3 : Int32) = nI 3 from rfl, pk_mul]
        refine ⟨fun _ => hQ _ _ _ _ _ _ (fun x hx hx2 => ?_), fun z => absurd (nI_lt (by omega) (by omega)) z⟩
        obtain ⟨s1, c, s2, s3, s4⟩ := hs
        by_cases hxa : x = a
        · subst hxa
          have ec : c = L x := mnO_u (mnO_c (P' := gd (3 * np) (edg nb fa fb fk pl wd pu bw sy rc S) L x) (fun b => ⟨fun z => z.1, fun z => ⟨z, by have := z.1; omega⟩⟩) (fun _ _ => rfl) s3) l3'
          subst ec
          refine ⟨s2, fun z => absurd z hl', fun _ h0 => ?_⟩
          obtain ⟨b, b1, b2, b3, b4, b5⟩ := s4 h0
          rw [b1, nxO_u (hb.2 x ha hl' h0) ⟨b2, b4, fun b' g1 g2 => b5 b' g1 (by have := g1.1; omega) g2⟩]
        · exact s1 x (by omega) hx2
      | succ d ih =>
        obtain ⟨n, hn⟩ := ih
        refine ⟨n + 1, fun t m1 m2 m3 m4 C X ht htN hs' => ?_⟩
        show wb_X1_settle_49 Q _ _ _ _ _ _ _ _ _ _ _ _ _ _ _ _ _ _ _ _ _ _ _
        unfold wb_X1_settle_49 wb_X1_settle_140
        obtain ⟨t', rfl⟩ : ∃ t', t = t' + 1 := ⟨t - 1, by omega⟩
        have it : vp_in (nI (t' + 1)) 120 := vp_nI (by omega) (by omega)
        have ct : (nI (t' + 1)).toNatClampNeg = t' + 1 := cl_nI (by omega)
        obtain ⟨s1, c, s2, s3, s4⟩ := hs'
        have ht1 := (s1 (t' + 1) (by omega) htN).1
        have htb := lb (t' + 1) htN
        -- what stays when the state does not count
        have stay : (∀ z, z = nI (t' + 1) + -1 → ∀ m1 m2 m3 m4, (¬ gd (3 * np) (edg nb fa fb fk pl wd pu bw sy rc S) L a (t' + 1) ∨ (0 ≤ c ∧ c < L (t' + 1) + (pr (a / 3)).toInt)) → wl_X1_settle_49 Q (nI nb) fa fb fk (nI np) pl pr ta wd pu (rmI bw sy) rc s n m1 m2 m3 m4 C X (nI a) (nI (a / 3)) z) := by
          intro z hz m1 m2 m3 m4 hno
          rw [hz, pk_m1]
          refine hn t' _ _ _ _ _ _ (by omega) (by omega) ⟨s1, c, s2, ?_, fun h0 => ?_⟩
          · rcases hno with hno | ⟨hno1, hno2⟩
            · refine mnO_c (fun b => ⟨fun z => ⟨z.1, by omega⟩, fun z => ⟨z.1, ?_⟩⟩) (fun _ _ => rfl) s3
              have := z.2
              rcases (show b = t' + 1 ∨ t' + 1 < b by omega) with w | w
              · subst w; exact absurd z.1 hno
              · exact w
            · by_cases g : gd (3 * np) (edg nb fa fb fk pl wd pu bw sy rc S) L a (t' + 1)
              · refine mnO_hi (t := t' + 1) (fun b => ?_) s3 hno1 (by show c ≤ L (t' + 1) + (pr (a / 3)).toInt; omega)
                constructor
                · rintro ⟨g1, g2⟩
                  rcases (show b = t' + 1 ∨ t' + 1 < b by omega) with w | w
                  · exact Or.inr w
                  · exact Or.inl ⟨g1, w⟩
                · rintro (⟨g1, g2⟩ | g1)
                  · exact ⟨g1, by omega⟩
                  · subst g1; exact ⟨g, by omega⟩
              · refine mnO_c (fun b => ⟨fun z => ⟨z.1, by omega⟩, fun z => ⟨z.1, ?_⟩⟩) (fun _ _ => rfl) s3
                have := z.2
                rcases (show b = t' + 1 ∨ t' + 1 < b by omega) with w | w
                · subst w; exact absurd z.1 g
                · exact w
          · obtain ⟨b, b1, b2, b3, b4, b5⟩ := s4 h0
            refine ⟨b, b1, b2, by omega, b4, fun b' g1 g2 g3 => ?_⟩
            rcases (show b' = t' + 1 ∨ t' + 1 < b' by omega) with w | w
            · subst w
              rcases hno with hno | hno
              · exact absurd g1 hno
              · omega
            · exact b5 b' g1 w g3
        rw [nI_1, show (3 : Int32) = nI 3 from rfl, pk_mul]
        refine ⟨fun z => absurd z (nI_nlt (by omega) (by omega)), fun _ => ⟨it, ?_⟩⟩
        rw [ct, ca, cl_nI (show a / 3 < 2147483648 by omega)]
        refine ⟨fun hmax z hz => stay z hz _ _ _ _ (Or.inl (fun g => ?_)), fun hmax => ⟨vp_nI (by omega) (by omega), it, fun x14 e14 => ⟨ia, ?_⟩⟩⟩
        · have := cEn_eq ht1 hmax
          have := g.2.2.2
          omega
        · obtain ⟨k1, k2, k3⟩ := cEn_ne ht1 hmax
          have e14' : x14 = iI (L (t' + 1) + (pr (a / 3)).toInt) := by
            rw [e14, k3, iI_of (pr (a / 3)), iI_add, iI_t (iI_rng _), Int.add_comm]
          have t14 : x14.toInt = L (t' + 1) + (pr (a / 3)).toInt := by rw [e14', iI_t (by omega)]
          refine ⟨fun hle => ?_, fun hle z hz => stay z hz _ _ _ _ (Or.inr ?_)⟩
          · refine q1_edge h (a := a) (b := t' + 1) (by omega) (by omega) hs hS (fun ed r1 r2 r3 r4 => ⟨fun z => absurd z n10, fun _ => ⟨ia, fun g26 e26 => ⟨ia, fun g28 e28 z hz => ?_⟩⟩⟩) (fun ed r1 r2 r3 r4 => ⟨fun _ z hz => stay z hz _ _ _ _ (Or.inl (fun g => ed g.2.2.1)), fun z => absurd rfl z⟩)
            have gt : gd (3 * np) (edg nb fa fb fk pl wd pu bw sy rc S) L a (t' + 1) := ⟨by omega, htN, ed, k1⟩
            rw [hz, pk_m1]
            refine hn t' _ _ _ _ _ _ (by omega) (by omega) ⟨fun x q1 q2 => ?_, L (t' + 1) + (pr (a / 3)).toInt, ?_, ?_, fun h0 => ⟨t' + 1, ?_, gt, by omega, rfl, fun b' g1 g2 g3 => by omega⟩⟩
            · rw [e26, e28, pk_un (by omega), pk_un (by omega)]; exact s1 x q1 q2
            · rw [e26, pk_us]
              have hmin := (l3'.2.1 _ gt)
              refine Or.inr ⟨by omega, ?_, e14'⟩
              -- by the bound of what is found
              have b1 := (hb.1 (t' + 1) (Nat.zero_le _) htN).1
              omega
            · refine mnO_lo (f := fun x => L x + (pr (a / 3)).toInt) (t := t' + 1) (fun b => ?_) s3 (by show 0 ≤ L (t' + 1) + (pr (a / 3)).toInt; omega) ?_
              · constructor
                · rintro ⟨g1, g2⟩
                  rcases (show b = t' + 1 ∨ t' + 1 < b by omega) with w | w
                  · exact Or.inr w
                  · exact Or.inl ⟨g1, w⟩
                · rintro (⟨g1, g2⟩ | g1)
                  · exact ⟨g1, by omega⟩
                  · subst g1; exact ⟨gt, by omega⟩
              · rcases s2 with ⟨z1, z2⟩ | ⟨z1, z2, z3⟩
                · exact Or.inl (by omega)
                · right
                  rw [x_le, t14, z3, iI_t (by omega)] at hle
                  exact hle
            · rw [e28, pk_us]
          · rcases s2 with ⟨z1, z2⟩ | ⟨z1, z2, z3⟩
            · exact absurd (by rw [x_le, t14, z2, mx_t]; omega) hle
            · rw [x_le, t14, z3, iI_t (by omega)] at hle
              omega
    unfold wb_X1_settle_36
    refine ⟨ia, fun g5 e5 => ⟨ia, fun g7 e7 x8 e8 => ?_⟩⟩
    rw [ca] at e5 e7
    obtain ⟨n, hn⟩ := main (3 * np - 1 - (3 * (a / 3) + 2))
    refine ⟨n, ?_⟩
    rw [e8, e3]
    refine hn _ _ _ _ _ _ _ (by omega) (by omega) ⟨fun x q1 q2 => ?_, -1, ?_, mnO_n (fun b z => ?_), fun z => absurd z (by omega)⟩
    · rw [e5, e7, pk_un (by omega), pk_un (by omega)]; exact hI x q1 q2
    · rw [e5, pk_us]; exact Or.inl ⟨rfl, rfl⟩
    · have := z.2
      have := z.1.2.1
      omega
