/-! a new peg -/
def shf {α : Type} (f : Nat → α) (np j : Nat) : Nat → α := fun i => if j < i ∧ i ≤ np then f (i - 1) else f i
def ins {α : Type} (f : Nat → α) (np n : Nat) (v : α) : Nat → α := fun i => if i = n then v else shf f np n i
theorem shf_0 {α : Type} (f : Nat → α) (np : Nat) : shf f np np = f := by
  funext i; unfold shf; rw [if_neg (by omega)]
theorem shf_at {α : Type} (f : Nat → α) (np j : Nat) : shf f np (j + 1) j = f j := by
  unfold shf; rw [if_neg (by omega)]
theorem shf_s (f : Nat → Int32) {np j : Nat} (h : j + 1 ≤ np) : upd (shf f np (j + 1)) (j + 1) (f j) = shf f np j := by
  funext i
  by_cases c : i = j + 1
  · rw [c, pk_us]; unfold shf; rw [if_pos (by omega)]; rfl
  · rw [pk_un c]; unfold shf
    by_cases d : j + 1 < i ∧ i ≤ np
    · rw [if_pos d, if_pos (by omega)]
    · rw [if_neg d, if_neg (by omega)]
theorem shf_sL (f : Nat → Int64) {np j : Nat} (h : j + 1 ≤ np) : vp_updL (shf f np (j + 1)) (j + 1) (f j) = shf f np j := by
  funext i
  by_cases c : i = j + 1
  · rw [c, pk_uLs]; unfold shf; rw [if_pos (by omega)]; rfl
  · rw [pk_uLn c]; unfold shf
    by_cases d : j + 1 < i ∧ i ≤ np
    · rw [if_pos d, if_pos (by omega)]
    · rw [if_neg d, if_neg (by omega)]
theorem ins_u (f : Nat → Int32) (np n : Nat) (v : Int32) : upd (shf f np n) n v = ins f np n v := by
  funext i
  unfold ins
  by_cases c : i = n
  · rw [c, pk_us, if_pos rfl]
  · rw [pk_un c, if_neg c]
theorem ins_uL (f : Nat → Int64) (np n : Nat) (v : Int64) : vp_updL (shf f np n) n v = ins f np n v := by
  funext i
  unfold ins
  by_cases c : i = n
  · rw [c, pk_uLs, if_pos rfl]
  · rw [pk_uLn c, if_neg c]
theorem ins_lo {α : Type} (f : Nat → α) {np n i : Nat} (v : α) (h : i < n) : ins f np n v i = f i := by
  unfold ins shf; rw [if_neg (by omega), if_neg (by omega)]
theorem ins_at {α : Type} (f : Nat → α) (np n : Nat) (v : α) : ins f np n v n = v := if_pos rfl
theorem ins_hi {α : Type} (f : Nat → α) {np n i : Nat} (v : α) (h : n < i) (h2 : i ≤ np) : ins f np n v i = f (i - 1) := by
  unfold ins shf; rw [if_neg (by omega), if_pos ⟨h, h2⟩]
theorem pos_uniq {pl : Nat → Int32} {np n m : Nat} {x : Int} (h1 : n ≤ np) (h2 : ∀ i, i < n → (pl i).toInt < x) (h3 : n < np → x ≤ (pl n).toInt) (k1 : m ≤ np) (k2 : ∀ i, i < m → (pl i).toInt < x) (k3 : m < np → x ≤ (pl m).toInt) : n = m := by
  rcases Nat.lt_trichotomy n m with c | c | c
  · have := h3 (by omega); have := k2 n c; omega
  · exact c
  · have := k3 (by omega); have := h2 m c; omega
theorem q2_countBefore {Q : Int32 → Prop} {np : Nat} (hnp : np ≤ 40) {pl : Nat → Int32} {x : Int32} (hq : ∀ n, n ≤ np → (∀ i, i < n → (pl i).toInt < x.toInt) → (n < np → x.toInt ≤ (pl n).toInt) → Q (nI n)) : wp_X2_countBefore Q (nI np) pl x := by
  unfold wp_X2_countBefore
  have main : ∀ (d k : Nat), k + d = np → (∀ i, i < k → (pl i).toInt < x.toInt) → ∃ n, wl_X2_countBefore_2 Q (nI np) pl n x (nI k) := by
    intro d
    induction d with
    | zero =>
      intro k hk hlt
      refine ⟨1, ?_⟩
      show wb_X2_countBefore_2 Q _ _ _ _ _
      unfold wb_X2_countBefore_2
      have e : k = np := by omega
      subst e
      exact ⟨fun _ => hq k (Nat.le_refl _) hlt (fun h => absurd h (Nat.lt_irrefl _)), fun h => absurd (nI_le (Nat.le_refl k) (by omega)) h⟩
    | succ d ih =>
      intro k hk hlt
      by_cases c : x.toInt ≤ (pl k).toInt
      · refine ⟨1, ?_⟩
        show wb_X2_countBefore_2 Q _ _ _ _ _
        unfold wb_X2_countBefore_2
        refine ⟨fun h => absurd h (nI_ge (by omega) (by omega)), fun _ => ⟨vp_nI (by omega) (by omega), ?_⟩⟩
        rw [cl_nI (by omega)]
        exact ⟨fun _ => hq k (by omega) hlt (fun _ => c), fun h => absurd ((x_le _ _).mpr c) h⟩
      · obtain ⟨n, hn⟩ := ih (k + 1) (by omega) (fun i hi => by
          rcases Nat.lt_or_ge i k with q | q
          · exact hlt i q
          · rw [show i = k by omega]; omega)
        refine ⟨n + 1, ?_⟩
        show wb_X2_countBefore_2 Q _ _ _ _ _
        unfold wb_X2_countBefore_2
        refine ⟨fun h => absurd h (nI_ge (by omega) (by omega)), fun _ => ⟨vp_nI (by omega) (by omega), ?_⟩⟩
        rw [cl_nI (by omega)]
        refine ⟨fun h => absurd ((x_le _ _).mp h) c, fun _ y hy => ?_⟩
        rw [hy, nI_1]
        exact hn
  exact main np 0 (by omega) (fun i hi => absurd hi (Nat.not_lt_zero _))
theorem q2_insert {Q : Int32 → (Nat → Int32) → (Nat → Int32) → (Nat → Int64) → (Nat → Int32) → (Nat → Int32) → Prop} {np n : Nat} (hnp : np < 40) (hn : n ≤ np) {pl pr : Nat → Int32} {ta : Nat → Int64} {sd st : Nat → Int32} {x c : Int32} {t : Int64}
    (hq : Q (nI (np + 1)) (ins pl np n x) (ins pr np n c) (ins ta np n t) (upd sd np 0) (upd st np 0)) : wp_X2_insert Q (nI np) pl pr ta sd st (nI n) x c t := by
  unfold wp_X2_insert
  have h40 : ¬ (40 : Int32) ≤ nI np := by rw [show (40 : Int32) = nI 40 from rfl]; exact nI_ge hnp (by omega)
  refine ⟨fun h => absurd h h40, fun _ => ⟨fun _ => ?_, fun h => absurd (nI_pos' (by omega)) h⟩⟩
  have main : ∀ (d j : Nat), n + d = j → j ≤ np → ∃ k, wl_X2_insert_20 Q k (nI np) (shf pl np j) (shf pr np j) (shf ta np j) sd st (nI n) x c t (nI j) := by
    intro d
    induction d with
    | zero =>
      intro j hj hj2
      refine ⟨1, ?_⟩
      show wb_X2_insert_20 Q _ _ _ _ _ _ _ _ _ _ _ _
      unfold wb_X2_insert_20
      have e : j = n := by omega
      subst e
      refine ⟨fun _ => ⟨vp_nI (by omega) (by omega), fun g5 e5 => ⟨vp_nI (by omega) (by omega), fun g7 e7 => ⟨vp_nI (by omega) (by omega), fun g9 e9 => ?_⟩⟩⟩, fun h => absurd (nI_le (Nat.le_refl j) (by omega)) h⟩
      rw [cl_nI (by omega)] at e5 e7 e9
      unfold wp_X2_takeDown
      refine ⟨vp_nI (by omega) (by omega), fun g1 e1 => ⟨vp_nI (by omega) (by omega), fun g2 e2 y hy => ?_⟩⟩
      rw [cl_nI (by omega)] at e1 e2
      rw [hy, nI_1, e5, e7, e9, e1, e2, ins_u, ins_u, ins_uL, nar0]
      exact hq
    | succ d ih =>
      intro j hj hj2
      obtain ⟨j', rfl⟩ : ∃ j', j = j' + 1 := ⟨j - 1, by omega⟩
      obtain ⟨k, hk⟩ := ih j' (by omega) (by omega)
      refine ⟨k + 1, ?_⟩
      show wb_X2_insert_20 Q _ _ _ _ _ _ _ _ _ _ _ _
      unfold wb_X2_insert_20
      have e1 : nI (j' + 1) - 1 = nI j' := nI_pred j'
      rw [e1]
      have i1 : vp_in (nI j') 40 := vp_nI (by omega) (by omega)
      have i2 : vp_in (nI (j' + 1)) 40 := vp_nI (by omega) (by omega)
      refine ⟨fun h => absurd h (nI_ge (by omega) (by omega)), fun _ => ⟨i1, fun x15 e15 => ⟨i2, fun g17 e17 => ⟨i1, fun x19 e19 => ⟨i2, fun g21 e21 => ⟨i1, fun x23 e23 => ⟨i2, fun g25 e25 x26 e26 => ?_⟩⟩⟩⟩⟩⟩⟩
      rw [cl_nI (by omega)] at e15 e17 e19 e21 e23 e25
      rw [shf_at] at e15 e19 e23
      rw [e26, pk_m1, e17, e15, e21, e19, e25, e23, shf_s _ hj2, shf_s _ hj2, shf_sL _ hj2]
      exact hk
  have := main (np - n) np (by omega) (Nat.le_refl _)
  rw [shf_0, shf_0, shf_0] at this
  exact this
def taOk (nb : Nat) (fa fb fk : Nat → Int32) (np : Nat) (pl : Nat → Int32) (ta : Nat → Int64) : Prop := ∀ i, i < np → ta i = lI (asd fa fb fk (pl i).toInt nb)
theorem q8_peg {Q : Int32 → Int32 → (Nat → Int32) → (Nat → Int32) → (Nat → Int32) → (Nat → Int32) → Prop} {v8_length : Int32} {np : Nat} (hnp : np ≤ 40) {pl pr st sd : Nat → Int32} {x c : Int32}
    (h2 : ¬ ((0 ≤ x.toInt ∧ x.toInt ≤ v8_length.toInt) ∧ (1 ≤ c.toInt ∧ c.toInt ≤ 1000)) → Q (-2) (nI np) pl pr st sd)
    (h3 : (0 ≤ x.toInt ∧ x.toInt ≤ v8_length.toInt) ∧ (1 ≤ c.toInt ∧ c.toInt ≤ 1000) → 0 < cnt st np → Q (-3) (nI np) pl pr st sd)
    (h4 : (0 ≤ x.toInt ∧ x.toInt ≤ v8_length.toInt) ∧ (1 ≤ c.toInt ∧ c.toInt ≤ 1000) → cnt st np = 0 → np = 40 → Q (-4) (nI np) pl pr st sd)
    (h5 : (0 ≤ x.toInt ∧ x.toInt ≤ v8_length.toInt) ∧ (1 ≤ c.toInt ∧ c.toInt ≤ 1000) → cnt st np = 0 → np < 40 → ∀ n, n < np → (∀ i, i < n → (pl i).toInt < x.toInt) → (pl n).toInt = x.toInt → Q (-5) (nI np) pl pr st sd)
    (hq2 : (0 ≤ x.toInt ∧ x.toInt ≤ v8_length.toInt) ∧ (1 ≤ c.toInt ∧ c.toInt ≤ 1000) → cnt st np = 0 → np < 40 → ∀ n, n ≤ np → (∀ i, i < n → (pl i).toInt < x.toInt) → (n < np → x.toInt < (pl n).toInt) → Q (nI n) (nI (np + 1)) (ins pl np n x) (ins pr np n c) (upd st np 0) (upd sd np 0)) : wp_X8_peg Q v8_length (nI np) pl pr st sd x c := by
  unfold wp_X8_peg
  refine q8_if 0 v8_length.toInt rfl rfl (fun r => q8_if 1 1000 rfl rfl (fun s => ?_) (fun s => ?_)) (fun r => ?_)
  · have hc := cnt_le st np
    refine q8_masts hnp ⟨fun h => ?_, fun h => ?_⟩
    · rw [x_le, zt_0, nI_t (by omega)] at h
      have hc0 : cnt st np = 0 := by omega
      refine ⟨fun e => h4 ⟨r, s⟩ hc0 ((nI_eq (a := np) (b := 40) (by omega) (by omega)).mp e), fun e => ?_⟩
      · have h40 : np ≠ 40 := fun q => e (by rw [q]; rfl)
        intro x8 e8
        -- the place, from the last peg down
        have fin : ∀ n, n ≤ np → (∀ i, i < n → (pl i).toInt < x.toInt) → (n < np → x.toInt ≤ (pl n).toInt) → wb_X8_peg_61 Q v8_length (fun _ _ _ _ _ _ _ _ _ => False) (nI np) pl pr st sd x c (nI n) (-1) := by
          intro n k1 k2 k3
          unfold wb_X8_peg_61
          have put : (n < np → x.toInt < (pl n).toInt) → wb_X8_peg_111 Q v8_length (nI np) pl pr st sd x c (nI n) := by
            intro k4
            unfold wb_X8_peg_111
            have main : ∀ (d j : Nat), n + d = j → j ≤ np → ∃ k, wl_X8_peg_117 Q v8_length k (nI np) (shf pl np j) (shf pr np j) st sd x c (nI n) (nI j) := by
              intro d
              induction d with
              | zero =>
                intro j hj hj2
                refine ⟨1, ?_⟩
                show wb_X8_peg_117 Q _ _ _ _ _ _ _ _ _ _ _
                unfold wb_X8_peg_117
                have e : j = n := by omega
                subst e
                refine ⟨fun _ => ⟨vp_nI (by omega) (by omega), fun g1 e1 => ⟨vp_nI (by omega) (by omega), fun g2 e2 => ⟨vp_nI (by omega) (by omega), fun g3 e3 => ⟨vp_nI (by omega) (by omega), fun g4 e4 y hy => ?_⟩⟩⟩⟩, fun h => absurd (nI_le (Nat.le_refl j) (by omega)) h⟩
                rw [cl_nI (by omega)] at e1 e2 e3 e4
                rw [hy, nI_1, e1, e2, e3, e4, ins_u, ins_u, nar0]
                exact hq2 ⟨r, s⟩ hc0 (by omega) j k1 k2 k4
              | succ d ih =>
                intro j hj hj2
                obtain ⟨j', rfl⟩ : ∃ j', j = j' + 1 := ⟨j - 1, by omega⟩
                obtain ⟨k, hk⟩ := ih j' (by omega) (by omega)
                refine ⟨k + 1, ?_⟩
                show wb_X8_peg_117 Q _ _ _ _ _ _ _ _ _ _ _
                unfold wb_X8_peg_117
                have e1 : nI (j' + 1) - 1 = nI j' := nI_pred j'
                rw [e1]
                have i1 : vp_in (nI j') 40 := vp_nI (by omega) (by omega)
                have i2 : vp_in (nI (j' + 1)) 40 := vp_nI (by omega) (by omega)
                refine ⟨fun h => absurd h (nI_ge (by omega) (by omega)), fun _ => ⟨i1, fun x15 e15 => ⟨i2, fun g17 e17 => ⟨i1, fun x19 e19 => ⟨i2, fun g21 e21 x26 e26 => ?_⟩⟩⟩⟩⟩
                rw [cl_nI (by omega)] at e15 e17 e19 e21
                rw [shf_at] at e15 e19
                rw [e26, pk_m1, e17, e15, e21, e19, shf_s _ hj2, shf_s _ hj2]
                exact hk
            have := main (np - n) np (by omega) (Nat.le_refl _)
            rw [shf_0, shf_0] at this
            exact this
          refine ⟨fun _ => ⟨fun h => put (fun q => absurd h (nI_ge q (by omega))), fun h => ?_⟩, fun h => absurd (by decide) h⟩
          have hlt : n < np := by
            rcases Nat.lt_or_ge n np with q | q
            · exact q
            · exact absurd (nI_le q (by omega)) h
          refine ⟨vp_nI (by omega) (by omega), ?_⟩
          rw [cl_nI (by omega)]
          refine ⟨fun q => h5 ⟨r, s⟩ hc0 (by omega) n hlt k2 ((x_eq _ _).mp q), fun q5 => put (fun _ => ?_)⟩
          have h6 := k3 hlt
          have h7 : (pl n).toInt ≠ x.toInt := fun q => q5 ((x_eq _ _).mpr q)
          omega
        have free : ∀ (K : Int32 → (Nat → Int32) → (Nat → Int32) → (Nat → Int32) → (Nat → Int32) → Int32 → Int32 → Int32 → Int32 → Prop) (n : Nat), wb_X8_peg_61 Q v8_length (fun _ _ _ _ _ _ _ _ _ => False) (nI np) pl pr st sd x c (nI n) (-1) → wb_X8_peg_61 Q v8_length K (nI np) pl pr st sd x c (nI n) (-1) := by
          intro K n h
          unfold wb_X8_peg_61 at h ⊢
          exact ⟨h.1, fun q => absurd (by decide) q⟩
        have main : ∀ (k n : Nat), k ≤ np → n ≤ np → k ≤ n → (∀ i, k ≤ i → i < n → (pl i).toInt < x.toInt) → (n < np → x.toInt ≤ (pl n).toInt) → ∃ z, wl_X8_peg_61 Q v8_length z (nI np) pl pr st sd x c (nI n) (nI k - 1) := by
          intro k
          induction k with
          | zero =>
            intro n _ k1 _ k2 k3
            refine ⟨1, ?_⟩
            show wb_X8_peg_61 Q _ _ _ _ _ _ _ _ _ _ _
            exact free _ n (fin n k1 (fun i hi => k2 i (Nat.zero_le _) hi) k3)
          | succ k ih =>
            intro n hk k1 hkn k2 k3
            have ek : nI (k + 1) - 1 = nI k := nI_pred k
            rw [ek]
            have hin : vp_in (nI k) 40 := vp_nI (by omega) (by omega)
            by_cases c1 : (pl k).toInt < x.toInt
            · obtain ⟨z, hz⟩ := ih n (by omega) k1 (by omega) (fun i hi hi2 => by
                rcases Nat.lt_or_ge k i with q | q
                · exact k2 i (by omega) hi2
                · rw [show i = k by omega]; exact c1) k3
              refine ⟨z + 1, ?_⟩
              show wb_X8_peg_61 Q _ _ _ _ _ _ _ _ _ _ _
              unfold wb_X8_peg_61
              refine ⟨fun h => absurd h (nI_pos (by omega)), fun _ => ⟨hin, ?_⟩⟩
              rw [cl_nI (by omega)]
              refine ⟨fun _ => ?_, fun h => absurd ((x_lt _ _).mpr c1) h⟩
              unfold wb_X8_peg_83
              intro y hy
              rw [hy, show nI k + (-1 : Int32) = nI k - 1 by rw [iI_of (nI k), show (-1 : Int32) = iI (-1) from rfl, show (1 : Int32) = iI 1 from rfl, iI_add, iI_sub]; rfl]
              exact hz
            · obtain ⟨z, hz⟩ := ih k (by omega) (by omega) (Nat.le_refl _) (fun i hi hi2 => absurd hi2 (by omega)) (fun _ => by omega)
              refine ⟨z + 1, ?_⟩
              show wb_X8_peg_61 Q _ _ _ _ _ _ _ _ _ _ _
              unfold wb_X8_peg_61
              refine ⟨fun h => absurd h (nI_pos (by omega)), fun _ => ⟨hin, ?_⟩⟩
              rw [cl_nI (by omega)]
              refine ⟨fun h => absurd ((x_lt _ _).mp h) c1, fun _ => ?_⟩
              unfold wb_X8_peg_83
              intro y hy
              rw [hy, show nI k + (-1 : Int32) = nI k - 1 by rw [iI_of (nI k), show (-1 : Int32) = iI (-1) from rfl, show (1 : Int32) = iI 1 from rfl, iI_add, iI_sub]; rfl]
              exact hz
        rw [e8]
        exact main np np (Nat.le_refl _) (Nat.le_refl _) (Nat.le_refl _) (fun i hi hi2 => absurd hi2 (by omega)) (fun h => absurd h (Nat.lt_irrefl _))
    · rw [x_le, zt_0, nI_t (by omega)] at h
      exact h3 ⟨r, s⟩ (by omega)
  · exact h2 (fun q => s q.2)
  · exact h2 (fun q => r q.1)
