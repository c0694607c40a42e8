/-! the cheapest masts: what both programs look for -/
def mnO (P : Nat → Prop) (f : Nat → Int) (c : Int) : Prop := -1 ≤ c ∧ (∀ b, P b → 0 ≤ c ∧ c ≤ f b) ∧ (0 ≤ c → ∃ b, P b ∧ c = f b)
theorem mnO_u {P : Nat → Prop} {f : Nat → Int} {c c' : Int} (h : mnO P f c) (h' : mnO P f c') : c = c' := by
  obtain ⟨h1, h2, h3⟩ := h
  obtain ⟨k1, k2, k3⟩ := h'
  by_cases q : 0 ≤ c
  · obtain ⟨b, hb, e⟩ := h3 q
    have a1 := k2 b hb
    obtain ⟨b', hb', e'⟩ := k3 a1.1
    have a2 := h2 b' hb'
    omega
  · by_cases q' : 0 ≤ c'
    · obtain ⟨b', hb', e'⟩ := k3 q'
      have a2 := h2 b' hb'
      omega
    · omega
theorem mnO_c {P P' : Nat → Prop} {f f' : Nat → Int} {c : Int} (hP : ∀ b, P b ↔ P' b) (hf : ∀ b, P b → f b = f' b) (h : mnO P f c) : mnO P' f' c := by
  obtain ⟨h1, h2, h3⟩ := h
  refine ⟨h1, fun b hb => ?_, fun q => ?_⟩
  · have := (hP b).mpr hb
    rw [← hf b this]; exact h2 b this
  · obtain ⟨b, hb, e⟩ := h3 q
    exact ⟨b, (hP b).mp hb, by rw [← hf b hb]; exact e⟩
theorem mnO_n {P : Nat → Prop} {f : Nat → Int} (h : ∀ b, ¬ P b) : mnO P f (-1) := ⟨by omega, fun b hb => absurd hb (h b), fun q => absurd q (by omega)⟩
/-- one more, which counts and is the least so far -/
theorem mnO_lo {P P' : Nat → Prop} {f : Nat → Int} {c : Int} {t : Nat} (hP : ∀ b, P' b ↔ (P b ∨ b = t)) (h : mnO P f c) (h0 : 0 ≤ f t) (hc : c < 0 ∨ f t ≤ c) : mnO P' f (f t) := by
  obtain ⟨h1, h2, h3⟩ := h
  refine ⟨by omega, fun b hb => ?_, fun _ => ⟨t, (hP t).mpr (Or.inr rfl), rfl⟩⟩
  rcases (hP b).mp hb with q | q
  · have := h2 b q; omega
  · subst q; omega
/-- one more, which counts and is no less -/
theorem mnO_hi {P P' : Nat → Prop} {f : Nat → Int} {c : Int} {t : Nat} (hP : ∀ b, P' b ↔ (P b ∨ b = t)) (h : mnO P f c) (h0 : 0 ≤ c) (hc : c ≤ f t) : mnO P' f c := by
  obtain ⟨h1, h2, h3⟩ := h
  refine ⟨h1, fun b hb => ?_, fun _ => ?_⟩
  · rcases (hP b).mp hb with q | q
    · exact h2 b q
    · subst q; exact ⟨h0, hc⟩
  · obtain ⟨b, hb, e⟩ := h3 h0
    exact ⟨b, (hP b).mpr (Or.inl hb), e⟩
theorem mnO_ex {P : Nat → Prop} {f : Nat → Int} (hf : ∀ b, P b → 0 ≤ f b) : ∀ N, ∃ c, mnO (fun b => P b ∧ b < N) f c := by
  intro N
  induction N with
  | zero => exact ⟨-1, mnO_n (fun b h => absurd h.2 (Nat.not_lt_zero _))⟩
  | succ N ih =>
    obtain ⟨c, hc⟩ := ih
    by_cases q : P N
    · have hP : ∀ b, (P b ∧ b < N + 1) ↔ ((P b ∧ b < N) ∨ b = N) := fun b => by
        constructor
        · rintro ⟨a1, a2⟩
          by_cases z : b = N
          · exact Or.inr z
          · exact Or.inl ⟨a1, by omega⟩
        · rintro (⟨a1, a2⟩ | a1)
          · exact ⟨a1, by omega⟩
          · subst a1; exact ⟨q, by omega⟩
      have h0 := hf N q
      by_cases z : c < 0 ∨ f N ≤ c
      · exact ⟨_, mnO_lo hP hc h0 z⟩
      · exact ⟨c, mnO_hi hP hc (by omega) (by omega)⟩
    · refine ⟨c, mnO_c (fun b => ?_) (fun _ _ => rfl) hc⟩
      constructor
      · rintro ⟨a1, a2⟩; exact ⟨a1, by omega⟩
      · rintro ⟨a1, a2⟩
        by_cases z : b = N
        · subst z; exact absurd a1 q
        · exact ⟨a1, by omega⟩
def gd (N : Nat) (e : Nat → Nat → Prop) (L : Nat → Int) (a b : Nat) : Prop := a / 3 < b / 3 ∧ b < N ∧ e a b ∧ 0 ≤ L b
def lsO (np : Nat) (e : Nat → Nat → Prop) (pr : Nat → Int32) (L : Nat → Int) (lo : Nat) : Prop := ∀ a, lo ≤ a → a < 3 * np → L a ≤ 1000 * ((np : Int) - ((a / 3 : Nat) : Int)) ∧ (a / 3 + 1 = np → L a = (pr (a / 3)).toInt) ∧ (¬ a / 3 + 1 = np → mnO (gd (3 * np) e L a) (fun b => L b + (pr (a / 3)).toInt) (L a))
theorem lsO_ex {np : Nat} {e : Nat → Nat → Prop} {pr : Nat → Int32} (hpr : ∀ i, i < np → 1 ≤ (pr i).toInt ∧ (pr i).toInt ≤ 1000) : ∃ L, lsO np e pr L 0 := by
  have main : ∀ d lo, lo + d = 3 * np → ∃ L, lsO np e pr L lo := by
    intro d
    induction d with
    | zero => exact fun lo h => ⟨fun _ => 0, fun a h1 h2 => absurd h2 (by omega)⟩
    | succ d ih =>
      intro lo h
      obtain ⟨L, hL⟩ := ih (lo + 1) (by omega)
      have hp := hpr (lo / 3) (by omega)
      -- the value at lo
      have hv : ∃ v : Int, v ≤ 1000 * ((np : Int) - ((lo / 3 : Nat) : Int)) ∧ (lo / 3 + 1 = np → v = (pr (lo / 3)).toInt) ∧ (¬ lo / 3 + 1 = np → mnO (gd (3 * np) e L lo) (fun b => L b + (pr (lo / 3)).toInt) v) := by
        by_cases c : lo / 3 + 1 = np
        · exact ⟨(pr (lo / 3)).toInt, by omega, fun _ => rfl, fun z => absurd c z⟩
        · obtain ⟨v, hv⟩ := mnO_ex (P := gd (3 * np) e L lo) (f := fun b => L b + (pr (lo / 3)).toInt) (fun b hb => by have := hb.2.2.2; show 0 ≤ L b + (pr (lo / 3)).toInt; omega) (3 * np)
          have hv' : mnO (gd (3 * np) e L lo) (fun b => L b + (pr (lo / 3)).toInt) v := mnO_c (fun b => ⟨fun z => z.1, fun z => ⟨z, z.2.1⟩⟩) (fun _ _ => rfl) hv
          refine ⟨v, ?_, fun z => absurd z c, fun _ => hv'⟩
          by_cases q : 0 ≤ v
          · obtain ⟨b, hb, eb⟩ := hv'.2.2 q
            have hb' : v = L b + (pr (lo / 3)).toInt := eb
            obtain ⟨g1, g2, g3, g4⟩ := hb
            have := (hL b (by omega) g2).1
            omega
          · omega
      obtain ⟨v, v1, v2, v3⟩ := hv
      refine ⟨fun x => if x = lo then v else L x, fun a h1 h2 => ?_⟩
      have off : ∀ x, ¬ x = lo → (fun x => if x = lo then v else L x) x = L x := fun x hx => if_neg hx
      have at' : (fun x => if x = lo then v else L x) lo = v := if_pos rfl
      generalize (fun x => if x = lo then v else L x) = L' at off at' ⊢
      have tr : ∀ a, lo ≤ a → ∀ c, mnO (gd (3 * np) e L a) (fun b => L b + (pr (a / 3)).toInt) c → mnO (gd (3 * np) e L' a) (fun b => L' b + (pr (a / 3)).toInt) c := by
        intro a ha c hc
        refine mnO_c (fun b => ?_) (fun b hb => ?_) hc
        · unfold gd
          constructor
          · rintro ⟨g1, g2, g3, g4⟩; exact ⟨g1, g2, g3, by rw [off b (by omega)]; exact g4⟩
          · rintro ⟨g1, g2, g3, g4⟩; exact ⟨g1, g2, g3, by rw [off b (by omega)] at g4; exact g4⟩
        · show L b + _ = L' b + _
          rw [off b (by have := hb.1; omega)]
      by_cases c : a = lo
      · subst c
        rw [at']
        exact ⟨v1, v2, fun z => tr _ (Nat.le_refl _) _ (v3 z)⟩
      · rw [off a c]
        obtain ⟨k1, k2, k3⟩ := hL a (by omega) h2
        exact ⟨k1, k2, fun z => tr _ (by omega) _ (k3 z)⟩
  exact main (3 * np) 0 (by omega)
/-- the next mast: the least state that keeps the price -/
def nxO (np : Nat) (e : Nat → Nat → Prop) (pr : Nat → Int32) (L : Nat → Int) (a b : Nat) : Prop := gd (3 * np) e L a b ∧ L a = L b + (pr (a / 3)).toInt ∧ ∀ b', gd (3 * np) e L a b' → L a = L b' + (pr (a / 3)).toInt → b ≤ b'
theorem nxO_u {np : Nat} {e : Nat → Nat → Prop} {pr : Nat → Int32} {L : Nat → Int} {a b b' : Nat} (h : nxO np e pr L a b) (h' : nxO np e pr L a b') : b = b' := by
  have a1 := h.2.2 b' h'.1 h'.2.1
  have a2 := h'.2.2 b h.1 h.2.1
  omega
theorem least_ex {P : Nat → Prop} : ∀ n, P n → ∃ b, P b ∧ ∀ b', P b' → b ≤ b' := by
  intro n
  induction n using Nat.strongRecOn with
  | ind n ih =>
    intro h
    by_cases c : ∃ m, m < n ∧ P m
    · obtain ⟨m, hm, hp⟩ := c
      exact ih m hm hp
    · refine ⟨n, h, fun b' hb => ?_⟩
      rcases Nat.lt_or_ge b' n with q | q
      · exact absurd ⟨b', q, hb⟩ c
      · exact q
def bsO (np : Nat) (e : Nat → Nat → Prop) (pr : Nat → Int32) (L : Nat → Int) (nx : Nat → Nat) : Prop := lsO np e pr L 0 ∧ ∀ a, a < 3 * np → ¬ a / 3 + 1 = np → 0 ≤ L a → nxO np e pr L a (nx a)
theorem bsO_ex {np : Nat} {e : Nat → Nat → Prop} {pr : Nat → Int32} (hpr : ∀ i, i < np → 1 ≤ (pr i).toInt ∧ (pr i).toInt ≤ 1000) : ∃ L nx, bsO np e pr L nx := by
  classical
  obtain ⟨L, hL⟩ := lsO_ex (e := e) hpr
  have ex : ∀ a, a < 3 * np ∧ ¬ a / 3 + 1 = np ∧ 0 ≤ L a → ∃ b, nxO np e pr L a b := by
    rintro a ⟨h1, h2, h3⟩
    obtain ⟨b, hb, eb⟩ := ((hL a (Nat.zero_le _) h1).2.2 h2).2.2 h3
    obtain ⟨b2, hb2, hm⟩ := least_ex (P := fun b => gd (3 * np) e L a b ∧ L a = L b + (pr (a / 3)).toInt) b ⟨hb, eb⟩
    exact ⟨b2, hb2.1, hb2.2, fun b' g1 g2 => hm b' ⟨g1, g2⟩⟩
  refine ⟨L, fun a => if h : a < 3 * np ∧ ¬ a / 3 + 1 = np ∧ 0 ≤ L a then Classical.choose (ex a h) else 0, hL, fun a h1 h2 h3 => ?_⟩
  have h : a < 3 * np ∧ ¬ a / 3 + 1 = np ∧ 0 ≤ L a := ⟨h1, h2, h3⟩
  show nxO np e pr L a (if h : a < 3 * np ∧ ¬ a / 3 + 1 = np ∧ 0 ≤ L a then Classical.choose (ex a h) else 0)
  rw [dif_pos h]
  exact Classical.choose_spec (ex a h)
/-- the first mast's state -/
def fsO (L : Nat → Int) (f : Nat) : Prop := f < 3 ∧ 0 ≤ L f ∧ ∀ x, x < 3 → 0 ≤ L x → L f ≤ L x ∧ (L f = L x → f ≤ x)
theorem fsO_u {L : Nat → Int} {f f' : Nat} (h : fsO L f) (h' : fsO L f') : f = f' := by
  obtain ⟨a1, a2, a3⟩ := h
  obtain ⟨b1, b2, b3⟩ := h'
  have c1 := a3 f' b1 b2
  have c2 := b3 f a1 a2
  have e : L f = L f' := by omega
  have d1 := c1.2 e
  have d2 := c2.2 e.symm
  omega
theorem bs_b {np : Nat} (hnp : np ≤ 40) {e : Nat → Nat → Prop} {pr : Nat → Int32} (hpr : ∀ i, i < np → 1 ≤ (pr i).toInt ∧ (pr i).toInt ≤ 1000) {L : Nat → Int} {nx : Nat → Nat} (h : bsO np e pr L nx) {a : Nat} (ha : a < 3 * np) : -1 ≤ L a ∧ L a ≤ 40000 := by
  obtain ⟨k1, k2, k3⟩ := h.1 a (Nat.zero_le _) ha
  refine ⟨?_, by omega⟩
  by_cases c : a / 3 + 1 = np
  · have := hpr (a / 3) (by omega)
    have := k2 c
    omega
  · exact (k3 c).1
