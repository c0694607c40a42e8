theorem inX6_has_X6 : ∀ w ∈ wsX60, w ∈ wsX6_has := fun _ h => List.mem_cons_of_mem _ (List.mem_append_right _ h)
def wp_X6_has (Q : Int32 → Prop) (v6_end : Int32) (p1 : Int32) : Prop :=
  ((p1 < 0 → (((0 : Int32) = 0 ∨ (0 : Int32) = 1) ∧ Q (0 : Int32) )) ∧ (¬ p1 < 0 → ((v6_end < p1 → (((0 : Int32) = 0 ∨ (0 : Int32) = 1) ∧ Q (0 : Int32) )) ∧ (¬ v6_end < p1 → (((1 : Int32) = 0 ∨ (1 : Int32) = 1) ∧ Q (1 : Int32) )))))
set_option maxHeartbeats 4000000 in
set_option maxRecDepth 100000 in
theorem c_X6_has (l : Launch) (dC : Nat → ClassId) (dI : Nat → Nat → Nat) (cI cJ cZ : ClassId) (a6 : Nat) (a6_from : Nat) (a6_to : Nat) (a6_curve : Nat) (sz : Nat) (v6_end : Int32) (v6_bends : Int32) (p1 : Int32) (Q : Int32 → Prop) (hw : wp_X6_has Q v6_end p1) : Met l yX6_has wsX6_has ({ frames := 0, cells := 0, slots := 0, locals := 0 } : Room) (va_Pc [.ref a6, .int p1] (fun U => U.heap.size = sz ∧ va_P (dC, dI) vwCl [(a6, .inr (6, [.int v6_end, .int v6_bends, .ref a6_from, .ref a6_to, .ref a6_curve]))] U.heap ∧ va_K (dC, dI) vwCl [(cI, .int), (cJ, .long), (cZ, .boolean)] U ∧ va_D (fun _ => True) [(a6, .inr (6, [.int v6_end, .int v6_bends, .ref a6_from, .ref a6_to, .ref a6_curve]))])) (va_Qi (fun r (u : Unit) => Q r) (fun (u : Unit) t => va_P (dC, dI) vwCl [(a6, .inr (6, [.int v6_end, .int v6_bends, .ref a6_from, .ref a6_to, .ref a6_curve]))] t.heap ∧ va_K (dC, dI) vwCl [(cI, .int), (cJ, .long), (cZ, .boolean)] t ∧ va_D (va_A [(a6, .inr (6, [.int v6_end, .int v6_bends, .ref a6_from, .ref a6_to, .ref a6_curve]))] sz) [(a6, .inr (6, [.int v6_end, .int v6_bends, .ref a6_from, .ref a6_to, .ref a6_curve]))]) (va_A [(a6, .inr (6, [.int v6_end, .int v6_bends, .ref a6_from, .ref a6_to, .ref a6_curve]))] sz)) 0 0 (va_A [(a6, .inr (6, [.int v6_end, .int v6_bends, .ref a6_from, .ref a6_to, .ref a6_curve]))] sz) := by
  refine Met.ofW (cc := cX6_has) (maxL := 2) (ret := (some .boolean)) (by decide) rfl ?_
  intro p e s m args below meth c s₁ B hml hv
  obtain ⟨rfl, hsz, hP, hK, hD0⟩ := hv
  have hx := B.exec
  have hb := B.bytes
  have hr := B.returns
  have hts := atoms_spec (ws := wsX6_has) B.pre
  have hown : s.vm.findClass RX6 = some m.cls := findClass_of_methodNamed B.named
  have hlocks := B.notSynchronized
  subst hsz
  have hD := hD0.self (sz := s.heap.size)
  generalize hAe : va_A [(a6, .inr (6, [.int v6_end, .int v6_bends, .ref a6_from, .ref a6_to, .ref a6_curve]))] s.heap.size = A at hD ⊢
  have hA : ∀ q : Nat, s.heap.size ≤ q → A q := fun q h => by rw [← hAe]; exact Or.inr h
  have hS : va_S A s.heap s.heap [] := va_S.rf
  have hP : va_P (dC, dI) vwCl [(a6, .inr (6, [.int v6_end, .int v6_bends, .ref a6_from, .ref a6_to, .ref a6_curve]))] s.heap := hP
  have lk1 := hts (.fieldLink RX6 9 "WireRow$Track" "end" "I") (by decide +kernel)
  have hl := lv_entry ([.ref a6, .int p1]) (n := 2) (Nat.le_of_ble_eq_true rfl)
  rw [lg_entry_eq]
  generalize (lg_sl ([.ref a6, .int p1]) ++ List.replicate (2 - (lg_sl ([.ref a6, .int p1])).length) Slot.unset).toArray = ls at hl ⊢
  have hl : lv_has ls 2 [(0, .ref a6), (1, .int p1)] := hl
  obtain ⟨H, hHe⟩ : ∃ H, H = s.heap := ⟨_, rfl⟩
  rw [← hHe] at hP
  have hS : va_S A s.heap H [] := by rw [hHe]; exact hS
  rw [← hHe]
  unfold wp_X6_has at hw
  refine lv_iload_n hx hb dX6_has_0 rfl (lv_at hl 1 rfl) ?_
  refine lv_if_lt (tgt := 16) hx hb dX6_has_1 (by decide) (fun c1 => ?_) (fun c1 => ?_)
  · replace hw := hw.1 (c1)
    refine lv_iconst (v := (0 : Int32)) hx hb dX6_has_16 (by decide) ?_
    have hP9 := hP.sub (ws' := [(a6, .inr (6, [.int v6_end, .int v6_bends, .ref a6_from, .ref a6_to, .ref a6_curve]))]) [0] rfl
    have hD9 := hD.sub (ws' := [(a6, .inr (6, [.int v6_end, .int v6_bends, .ref a6_from, .ref a6_to, .ref a6_curve]))]) [0] (by decide) rfl
    obtain ⟨h2, hw⟩ := hw
    exact W.zret (v := (0 : Int32)) hx hb hr (wg_bool h2) (fun t ht hW => ⟨⟨(0 : Int32), (), rfl, hw, by rw [ht]; exact hP9, va_K.moved hW.alike hK, hD9⟩, hS.F ht⟩) hS.2.2 dX6_has_17
  · replace hw := hw.2 (c1)
    refine lv_iload_n hx hb dX6_has_4 rfl (lv_at hl 1 rfl) ?_
    refine lv_aload_n hx hb dX6_has_5 rfl (lv_at hl 0 rfl) ?_
    refine va_get (D := (dC, dI)) (ci := 6) (v := .int v6_end) (C := RX6) (T := TX6) (N := 5) hx hb hts inX6_has_X6 hown hK hP 0 rfl rfl 0 (by decide) lk1 (fun _ h9 => h9) rfl dX6_has_6 ?_
    refine lv_icmp_gt (tgt := 16) hx hb dX6_has_9 (by decide) (fun c3 => ?_) (fun c3 => ?_)
    · replace hw := hw.1 (c3)
      refine lv_iconst (v := (0 : Int32)) hx hb dX6_has_16 (by decide) ?_
      have hP9 := hP.sub (ws' := [(a6, .inr (6, [.int v6_end, .int v6_bends, .ref a6_from, .ref a6_to, .ref a6_curve]))]) [0] rfl
      have hD9 := hD.sub (ws' := [(a6, .inr (6, [.int v6_end, .int v6_bends, .ref a6_from, .ref a6_to, .ref a6_curve]))]) [0] (by decide) rfl
      obtain ⟨h4, hw⟩ := hw
      exact W.zret (v := (0 : Int32)) hx hb hr (wg_bool h4) (fun t ht hW => ⟨⟨(0 : Int32), (), rfl, hw, by rw [ht]; exact hP9, va_K.moved hW.alike hK, hD9⟩, hS.F ht⟩) hS.2.2 dX6_has_17
    · replace hw := hw.2 (c3)
      refine lv_iconst (v := (1 : Int32)) hx hb dX6_has_12 (by decide) ?_
      refine lv_goto (tgt := 17) hx hb dX6_has_13 (by decide) ?_
      have hP9 := hP.sub (ws' := [(a6, .inr (6, [.int v6_end, .int v6_bends, .ref a6_from, .ref a6_to, .ref a6_curve]))]) [0] rfl
      have hD9 := hD.sub (ws' := [(a6, .inr (6, [.int v6_end, .int v6_bends, .ref a6_from, .ref a6_to, .ref a6_curve]))]) [0] (by decide) rfl
      obtain ⟨h5, hw⟩ := hw
      exact W.zret (v := (1 : Int32)) hx hb hr (wg_bool h5) (fun t ht hW => ⟨⟨(1 : Int32), (), rfl, hw, by rw [ht]; exact hP9, va_K.moved hW.alike hK, hD9⟩, hS.F ht⟩) hS.2.2 dX6_has_17

theorem inX6_isBentWithin_X6 : ∀ w ∈ wsX60, w ∈ wsX6_isBentWithin := fun _ h => List.mem_cons_of_mem _ (List.mem_append_right _ h)
def wb_X6_isBentWithin_32 (Q : Int32 → Prop) (v6_bends : Int32) (f6_from : Nat → Int32) (f6_to : Nat → Int32) (K2 : (Int32) → (Int32) → (Int32) → Prop) (y32_1 : Int32) (y32_2 : Int32) (y32_3 : Int32) : Prop :=
  (∀ x5 : Int32, x5 = y32_3 + (1 : Int32) → (K2 y32_1 y32_2 x5))
def wb_X6_isBentWithin_2 (Q : Int32 → Prop) (v6_bends : Int32) (f6_from : Nat → Int32) (f6_to : Nat → Int32) (K2 : (Int32) → (Int32) → (Int32) → Prop) (y2_1 : Int32) (y2_2 : Int32) (y2_3 : Int32) : Prop :=
  ((v6_bends ≤ y2_3 → (((0 : Int32) = 0 ∨ (0 : Int32) = 1) ∧ Q (0 : Int32) )) ∧ (¬ v6_bends ≤ y2_3 → (vp_in y2_3 8 ∧ (((f6_to y2_3.toNatClampNeg) ≤ y2_1 → (wb_X6_isBentWithin_32 Q v6_bends f6_from f6_to K2 y2_1 y2_2 y2_3)) ∧ (¬ (f6_to y2_3.toNatClampNeg) ≤ y2_1 → (vp_in y2_3 8 ∧ ((y2_2 ≤ (f6_from y2_3.toNatClampNeg) → (wb_X6_isBentWithin_32 Q v6_bends f6_from f6_to K2 y2_1 y2_2 y2_3)) ∧ (¬ y2_2 ≤ (f6_from y2_3.toNatClampNeg) → (((1 : Int32) = 0 ∨ (1 : Int32) = 1) ∧ Q (1 : Int32) )))))))))
def wl_X6_isBentWithin_2 (Q : Int32 → Prop) (v6_bends : Int32) (f6_from : Nat → Int32) (f6_to : Nat → Int32) : Nat → (Int32) → (Int32) → (Int32) → Prop
  | 0, _, _, _ => False
  | n + 1, y2_1, y2_2, y2_3 => wb_X6_isBentWithin_2 Q v6_bends f6_from f6_to  (wl_X6_isBentWithin_2 Q v6_bends f6_from f6_to  n) y2_1 y2_2 y2_3
def wp_X6_isBentWithin (Q : Int32 → Prop) (v6_bends : Int32) (f6_from : Nat → Int32) (f6_to : Nat → Int32) (p1 : Int32) (p2 : Int32) : Prop :=
  (∃ n : Nat, wl_X6_isBentWithin_2 Q v6_bends f6_from f6_to  n p1 p2 (0 : Int32))
set_option maxHeartbeats 4000000 in
set_option maxRecDepth 100000 in
theorem c_X6_isBentWithin (l : Launch) (dC : Nat → ClassId) (dI : Nat → Nat → Nat) (cI cJ cZ : ClassId) (a6 : Nat) (a6_from : Nat) (a6_to : Nat) (a6_curve : Nat) (sz : Nat) (v6_end : Int32) (v6_bends : Int32) (f6_from : Nat → Int32) (f6_to : Nat → Int32) (p1 : Int32) (p2 : Int32) (Q : Int32 → Prop) (hw : wp_X6_isBentWithin Q v6_bends f6_from f6_to p1 p2) : Met l yX6_isBentWithin wsX6_isBentWithin ({ frames := 0, cells := 0, slots := 0, locals := 0 } : Room) (va_Pc [.ref a6, .int p1, .int p2] (fun U => U.heap.size = sz ∧ va_P (dC, dI) vwCl [(a6, .inr (6, [.int v6_end, .int v6_bends, .ref a6_from, .ref a6_to, .ref a6_curve])), (a6_from, .inl (cI, 8, .inl f6_from)), (a6_to, .inl (cI, 8, .inl f6_to))] U.heap ∧ va_K (dC, dI) vwCl [(cI, .int), (cJ, .long), (cZ, .boolean)] U ∧ va_D (fun _ => True) [(a6, .inr (6, [.int v6_end, .int v6_bends, .ref a6_from, .ref a6_to, .ref a6_curve])), (a6_from, .inl (cI, 8, .inl f6_from)), (a6_to, .inl (cI, 8, .inl f6_to))])) (va_Qi (fun r (u : Unit) => Q r) (fun (u : Unit) t => va_P (dC, dI) vwCl [(a6, .inr (6, [.int v6_end, .int v6_bends, .ref a6_from, .ref a6_to, .ref a6_curve])), (a6_from, .inl (cI, 8, .inl f6_from)), (a6_to, .inl (cI, 8, .inl f6_to))] t.heap ∧ va_K (dC, dI) vwCl [(cI, .int), (cJ, .long), (cZ, .boolean)] t ∧ va_D (va_A [(a6, .inr (6, [.int v6_end, .int v6_bends, .ref a6_from, .ref a6_to, .ref a6_curve])), (a6_from, .inl (cI, 8, .inl f6_from)), (a6_to, .inl (cI, 8, .inl f6_to))] sz) [(a6, .inr (6, [.int v6_end, .int v6_bends, .ref a6_from, .ref a6_to, .ref a6_curve])), (a6_from, .inl (cI, 8, .inl f6_from)), (a6_to, .inl (cI, 8, .inl f6_to))]) (va_A [(a6, .inr (6, [.int v6_end, .int v6_bends, .ref a6_from, .ref a6_to, .ref a6_curve])), (a6_from, .inl (cI, 8, .inl f6_from)), (a6_to, .inl (cI, 8, .inl f6_to))] sz)) 0 0 (va_A [(a6, .inr (6, [.int v6_end, .int v6_bends, .ref a6_from, .ref a6_to, .ref a6_curve])), (a6_from, .inl (cI, 8, .inl f6_from)), (a6_to, .inl (cI, 8, .inl f6_to))] sz) := by
  refine Met.ofW (cc := cX6_isBentWithin) (maxL := 4) (ret := (some .boolean)) (by decide) rfl ?_
  intro p e s m args below meth c s₁ B hml hv
  obtain ⟨rfl, hsz, hP, hK, hD0⟩ := hv
  have hx := B.exec
  have hb := B.bytes
  have hr := B.returns
  have hts := atoms_spec (ws := wsX6_isBentWithin) B.pre
  have hown : s.vm.findClass RX6 = some m.cls := findClass_of_methodNamed B.named
  have hlocks := B.notSynchronized
  subst hsz
  have hD := hD0.self (sz := s.heap.size)
  generalize hAe : va_A [(a6, .inr (6, [.int v6_end, .int v6_bends, .ref a6_from, .ref a6_to, .ref a6_curve])), (a6_from, .inl (cI, 8, .inl f6_from)), (a6_to, .inl (cI, 8, .inl f6_to))] s.heap.size = A at hD ⊢
  have hA : ∀ q : Nat, s.heap.size ≤ q → A q := fun q h => by rw [← hAe]; exact Or.inr h
  have hS : va_S A s.heap s.heap [] := va_S.rf
  have hP : va_P (dC, dI) vwCl [(a6, .inr (6, [.int v6_end, .int v6_bends, .ref a6_from, .ref a6_to, .ref a6_curve])), (a6_from, .inl (cI, 8, .inl f6_from)), (a6_to, .inl (cI, 8, .inl f6_to))] s.heap := hP
  have lk1 := hts (.fieldLink RX6 25 "WireRow$Track" "bends" "I") (by decide +kernel)
  have lk2 := hts (.fieldLink RX6 19 "WireRow$Track" "to" "[I") (by decide +kernel)
  have lk3 := hts (.fieldLink RX6 15 "WireRow$Track" "from" "[I") (by decide +kernel)
  have k_2 : ∀ (n_2 : Nat) (y2_1 : Int32) (y2_2 : Int32) (y2_3 : Int32) (H : Heap) (locs : List Loc) (ls : Array Slot), va_P (dC, dI) vwCl [(a6, .inr (6, [.int v6_end, .int v6_bends, .ref a6_from, .ref a6_to, .ref a6_curve])), (a6_from, .inl (cI, 8, .inl f6_from)), (a6_to, .inl (cI, 8, .inl f6_to))] H → va_D A [(a6, .inr (6, [.int v6_end, .int v6_bends, .ref a6_from, .ref a6_to, .ref a6_curve])), (a6_from, .inl (cI, 8, .inl f6_from)), (a6_to, .inl (cI, 8, .inl f6_to))] → va_S A s.heap H locs → lv_has ls 4 [(0, .ref a6), (1, .int y2_1), (2, .int y2_2), (3, .int y2_3)] → (wl_X6_isBentWithin_2 Q v6_bends f6_from f6_to  n_2 y2_1 y2_2 y2_3) → W p l e (headSpec wsX6_isBentWithin ({ frames := 0, cells := 0, slots := 0, locals := 0 } : Room)).room s m [.ref a6, .int p1, .int p2].toArray below meth c H locs 0 0 (MQ below (va_Qi (fun r (u : Unit) => Q r) (fun (u : Unit) t => va_P (dC, dI) vwCl [(a6, .inr (6, [.int v6_end, .int v6_bends, .ref a6_from, .ref a6_to, .ref a6_curve])), (a6_from, .inl (cI, 8, .inl f6_from)), (a6_to, .inl (cI, 8, .inl f6_to))] t.heap ∧ va_K (dC, dI) vwCl [(cI, .int), (cJ, .long), (cZ, .boolean)] t ∧ va_D A [(a6, .inr (6, [.int v6_end, .int v6_bends, .ref a6_from, .ref a6_to, .ref a6_curve])), (a6_from, .inl (cI, 8, .inl f6_from)), (a6_to, .inl (cI, 8, .inl f6_to))]) A) [.ref a6, .int p1, .int p2].toArray s 0 0 A) (F0 m 2 ls []) := by
    intro n_2
    induction n_2 with
    | zero =>
      intro y2_1 y2_2 y2_3 H locs ls hP hD hS hl hw
      exact False.elim hw
    | succ n_2 ih_2 =>
      have k_32 : ∀  (y32_1 : Int32) (y32_2 : Int32) (y32_3 : Int32) (H : Heap) (locs : List Loc) (ls : Array Slot), va_P (dC, dI) vwCl [(a6, .inr (6, [.int v6_end, .int v6_bends, .ref a6_from, .ref a6_to, .ref a6_curve])), (a6_from, .inl (cI, 8, .inl f6_from)), (a6_to, .inl (cI, 8, .inl f6_to))] H → va_D A [(a6, .inr (6, [.int v6_end, .int v6_bends, .ref a6_from, .ref a6_to, .ref a6_curve])), (a6_from, .inl (cI, 8, .inl f6_from)), (a6_to, .inl (cI, 8, .inl f6_to))] → va_S A s.heap H locs → lv_has ls 4 [(0, .ref a6), (1, .int y32_1), (2, .int y32_2), (3, .int y32_3)] → (wb_X6_isBentWithin_32 Q v6_bends f6_from f6_to (wl_X6_isBentWithin_2 Q v6_bends f6_from f6_to  n_2) y32_1 y32_2 y32_3) → W p l e (headSpec wsX6_isBentWithin ({ frames := 0, cells := 0, slots := 0, locals := 0 } : Room)).room s m [.ref a6, .int p1, .int p2].toArray below meth c H locs 0 0 (MQ below (va_Qi (fun r (u : Unit) => Q r) (fun (u : Unit) t => va_P (dC, dI) vwCl [(a6, .inr (6, [.int v6_end, .int v6_bends, .ref a6_from, .ref a6_to, .ref a6_curve])), (a6_from, .inl (cI, 8, .inl f6_from)), (a6_to, .inl (cI, 8, .inl f6_to))] t.heap ∧ va_K (dC, dI) vwCl [(cI, .int), (cJ, .long), (cZ, .boolean)] t ∧ va_D A [(a6, .inr (6, [.int v6_end, .int v6_bends, .ref a6_from, .ref a6_to, .ref a6_curve])), (a6_from, .inl (cI, 8, .inl f6_from)), (a6_to, .inl (cI, 8, .inl f6_to))]) A) [.ref a6, .int p1, .int p2].toArray s 0 0 A) (F0 m 32 ls []) := by
        intro y32_1 y32_2 y32_3 H locs ls hP hD hS hl hw
        unfold wb_X6_isBentWithin_32 at hw
        obtain ⟨x5, ex5⟩ : ∃ y : Int32, y = y32_3 + (1 : Int32) := ⟨_, rfl⟩
        replace hw := hw x5 ex5
        refine lv_iinc (v := x5) (lv' := [(3, .int x5), (0, .ref a6), (1, .int y32_1), (2, .int y32_2)]) hx hb dX6_isBentWithin_32 hl (k := 3) rfl (by rw [ex5]; rfl) (by decide) rfl (fun ls hl => ?_)
        refine lv_goto (tgt := 2) hx hb dX6_isBentWithin_35 (by decide) ?_
        exact ih_2 y32_1 y32_2 x5 _ _ _ (hP.sub [0, 1, 2] rfl) (hD.sub [0, 1, 2] (by decide) rfl) hS (lv_sub hl [1, 2, 3, 0] rfl) hw
      intro y2_1 y2_2 y2_3 H locs ls hP hD hS hl hw
      replace hw : wb_X6_isBentWithin_2 Q v6_bends f6_from f6_to  (wl_X6_isBentWithin_2 Q v6_bends f6_from f6_to  n_2) y2_1 y2_2 y2_3 := hw
      unfold wb_X6_isBentWithin_2 at hw
      refine lv_iload_n hx hb dX6_isBentWithin_2 rfl (lv_at hl 3 rfl) ?_
      refine lv_aload_n hx hb dX6_isBentWithin_3 rfl (lv_at hl 0 rfl) ?_
      refine va_get (D := (dC, dI)) (ci := 6) (v := .int v6_bends) (C := RX6) (T := TX6) (N := 5) hx hb hts inX6_isBentWithin_X6 hown hK hP 0 rfl rfl 1 (by decide) lk1 (fun _ h9 => h9) rfl dX6_isBentWithin_4 ?_
      refine lv_icmp_ge (tgt := 38) hx hb dX6_isBentWithin_7 (by decide) (fun c1 => ?_) (fun c1 => ?_)
      · replace hw := hw.1 (c1)
        refine lv_iconst (v := (0 : Int32)) hx hb dX6_isBentWithin_38 (by decide) ?_
        have hP9 := hP.sub (ws' := [(a6, .inr (6, [.int v6_end, .int v6_bends, .ref a6_from, .ref a6_to, .ref a6_curve])), (a6_from, .inl (cI, 8, .inl f6_from)), (a6_to, .inl (cI, 8, .inl f6_to))]) [0, 1, 2] rfl
        have hD9 := hD.sub (ws' := [(a6, .inr (6, [.int v6_end, .int v6_bends, .ref a6_from, .ref a6_to, .ref a6_curve])), (a6_from, .inl (cI, 8, .inl f6_from)), (a6_to, .inl (cI, 8, .inl f6_to))]) [0, 1, 2] (by decide) rfl
        obtain ⟨h2, hw⟩ := hw
        exact W.zret (v := (0 : Int32)) hx hb hr (wg_bool h2) (fun t ht hW => ⟨⟨(0 : Int32), (), rfl, hw, by rw [ht]; exact hP9, va_K.moved hW.alike hK, hD9⟩, hS.F ht⟩) hS.2.2 dX6_isBentWithin_39
      · replace hw := hw.2 (c1)
        refine lv_iload_n hx hb dX6_isBentWithin_10 rfl (lv_at hl 1 rfl) ?_
        refine lv_aload_n hx hb dX6_isBentWithin_11 rfl (lv_at hl 0 rfl) ?_
        refine va_get (D := (dC, dI)) (ci := 6) (v := .ref a6_to) (C := RX6) (T := TX6) (N := 5) hx hb hts inX6_isBentWithin_X6 hown hK hP 0 rfl rfl 3 (by decide) lk2 (fun _ h9 => h9) rfl dX6_isBentWithin_12 ?_
        refine lv_iload_n hx hb dX6_isBentWithin_15 rfl (lv_at hl 3 rfl) ?_
        obtain ⟨h3, hw⟩ := hw
        refine va_iald hx hb hK hP 2 0 rfl rfl h3 dX6_isBentWithin_16 ?_
        refine lv_icmp_ge (tgt := 32) hx hb dX6_isBentWithin_17 (by decide) (fun c4 => ?_) (fun c4 => ?_)
        · replace hw := hw.1 (c4)
          exact k_32 y2_1 y2_2 y2_3 _ _ _ (hP.sub [0, 1, 2] rfl) (hD.sub [0, 1, 2] (by decide) rfl) hS (lv_sub hl [0, 1, 2, 3] rfl) hw
        · replace hw := hw.2 (c4)
          refine lv_aload_n hx hb dX6_isBentWithin_20 rfl (lv_at hl 0 rfl) ?_
          refine va_get (D := (dC, dI)) (ci := 6) (v := .ref a6_from) (C := RX6) (T := TX6) (N := 5) hx hb hts inX6_isBentWithin_X6 hown hK hP 0 rfl rfl 2 (by decide) lk3 (fun _ h9 => h9) rfl dX6_isBentWithin_21 ?_
          refine lv_iload_n hx hb dX6_isBentWithin_24 rfl (lv_at hl 3 rfl) ?_
          obtain ⟨h6, hw⟩ := hw
          refine va_iald hx hb hK hP 1 0 rfl rfl h6 dX6_isBentWithin_25 ?_
          refine lv_iload_n hx hb dX6_isBentWithin_26 rfl (lv_at hl 2 rfl) ?_
          refine lv_icmp_ge (tgt := 32) hx hb dX6_isBentWithin_27 (by decide) (fun c7 => ?_) (fun c7 => ?_)
          · replace hw := hw.1 (c7)
            exact k_32 y2_1 y2_2 y2_3 _ _ _ (hP.sub [0, 1, 2] rfl) (hD.sub [0, 1, 2] (by decide) rfl) hS (lv_sub hl [0, 1, 2, 3] rfl) hw
          · replace hw := hw.2 (c7)
            refine lv_iconst (v := (1 : Int32)) hx hb dX6_isBentWithin_30 (by decide) ?_
            have hP9 := hP.sub (ws' := [(a6, .inr (6, [.int v6_end, .int v6_bends, .ref a6_from, .ref a6_to, .ref a6_curve])), (a6_from, .inl (cI, 8, .inl f6_from)), (a6_to, .inl (cI, 8, .inl f6_to))]) [0, 1, 2] rfl
            have hD9 := hD.sub (ws' := [(a6, .inr (6, [.int v6_end, .int v6_bends, .ref a6_from, .ref a6_to, .ref a6_curve])), (a6_from, .inl (cI, 8, .inl f6_from)), (a6_to, .inl (cI, 8, .inl f6_to))]) [0, 1, 2] (by decide) rfl
            obtain ⟨h8, hw⟩ := hw
            exact W.zret (v := (1 : Int32)) hx hb hr (wg_bool h8) (fun t ht hW => ⟨⟨(1 : Int32), (), rfl, hw, by rw [ht]; exact hP9, va_K.moved hW.alike hK, hD9⟩, hS.F ht⟩) hS.2.2 dX6_isBentWithin_31
  have hl := lv_entry ([.ref a6, .int p1, .int p2]) (n := 4) (Nat.le_of_ble_eq_true rfl)
  rw [lg_entry_eq]
  generalize (lg_sl ([.ref a6, .int p1, .int p2]) ++ List.replicate (4 - (lg_sl ([.ref a6, .int p1, .int p2])).length) Slot.unset).toArray = ls at hl ⊢
  have hl : lv_has ls 4 [(0, .ref a6), (1, .int p1), (2, .int p2)] := hl
  obtain ⟨H, hHe⟩ : ∃ H, H = s.heap := ⟨_, rfl⟩
  rw [← hHe] at hP
  have hS : va_S A s.heap H [] := by rw [hHe]; exact hS
  rw [← hHe]
  unfold wp_X6_isBentWithin at hw
  refine lv_iconst (v := (0 : Int32)) hx hb dX6_isBentWithin_0 (by decide) ?_
  refine lv_istore_n (lv' := [(3, .int (0 : Int32)), (0, .ref a6), (1, .int p1), (2, .int p2)]) hx hb dX6_isBentWithin_1 rfl hl (by decide) rfl (fun ls hl => ?_)
  obtain ⟨n_2, hw⟩ := hw
  exact k_2 n_2 p1 p2 (0 : Int32) _ _ _ (hP.sub [0, 1, 2] rfl) (hD.sub [0, 1, 2] (by decide) rfl) hS (lv_sub hl [1, 2, 3, 0] rfl) hw

theorem inX6_insert_X6 : ∀ w ∈ wsX60, w ∈ wsX6_insert := fun _ h => List.mem_cons_of_mem _ (List.mem_append_right _ h)
def wb_X6_insert_88 (Q : (Int32) → (Nat → Int32) → (Nat → Int32) → (Nat → Int32) → Prop) (v6_bends_c88 : Int32) (f6_from_c88 : Nat → Int32) (f6_to_c88 : Nat → Int32) (f6_curve_c88 : Nat → Int32) (y88_1 : Int32) (y88_2 : Int32) (y88_3 : Int32) (y88_4 : Int32) : Prop :=
  (vp_in y88_4 8 ∧ (∀ g4 : Nat → Int32, g4 = upd f6_from_c88 y88_4.toNatClampNeg y88_1 → (vp_in y88_4 8 ∧ (∀ g6 : Nat → Int32, g6 = upd f6_to_c88 y88_4.toNatClampNeg y88_2 → (vp_in y88_4 8 ∧ (∀ g8 : Nat → Int32, g8 = upd f6_curve_c88 y88_4.toNatClampNeg y88_3 → (∀ x9 : Int32, x9 = (v6_bends_c88 + (1 : Int32)) → (Q x9 g4 g6 g8))))))))
def wb_X6_insert_16 (Q : (Int32) → (Nat → Int32) → (Nat → Int32) → (Nat → Int32) → Prop) (K16 : (Int32) → (Nat → Int32) → (Nat → Int32) → (Nat → Int32) → (Int32) → (Int32) → (Int32) → (Int32) → Prop) (v6_bends_c16 : Int32) (f6_from_c16 : Nat → Int32) (f6_to_c16 : Nat → Int32) (f6_curve_c16 : Nat → Int32) (y16_1 : Int32) (y16_2 : Int32) (y16_3 : Int32) (y16_4 : Int32) : Prop :=
  ((y16_4 ≤ 0 → (wb_X6_insert_88 Q  v6_bends_c16 f6_from_c16 f6_to_c16 f6_curve_c16 y16_1 y16_2 y16_3 y16_4)) ∧ (¬ y16_4 ≤ 0 → (vp_in (y16_4 - (1 : Int32)) 8 ∧ (((f6_from_c16 (y16_4 - (1 : Int32)).toNatClampNeg) ≤ y16_1 → (wb_X6_insert_88 Q  v6_bends_c16 f6_from_c16 f6_to_c16 f6_curve_c16 y16_1 y16_2 y16_3 y16_4)) ∧ (¬ (f6_from_c16 (y16_4 - (1 : Int32)).toNatClampNeg) ≤ y16_1 → (vp_in (y16_4 - (1 : Int32)) 8 ∧ (∀ x13 : Int32, x13 = (f6_from_c16 (y16_4 - (1 : Int32)).toNatClampNeg) → (vp_in y16_4 8 ∧ (∀ g15 : Nat → Int32, g15 = upd f6_from_c16 y16_4.toNatClampNeg x13 → (vp_in (y16_4 - (1 : Int32)) 8 ∧ (∀ x17 : Int32, x17 = (f6_to_c16 (y16_4 - (1 : Int32)).toNatClampNeg) → (vp_in y16_4 8 ∧ (∀ g19 : Nat → Int32, g19 = upd f6_to_c16 y16_4.toNatClampNeg x17 → (vp_in (y16_4 - (1 : Int32)) 8 ∧ (∀ x21 : Int32, x21 = (f6_curve_c16 (y16_4 - (1 : Int32)).toNatClampNeg) → (vp_in y16_4 8 ∧ (∀ g23 : Nat → Int32, g23 = upd f6_curve_c16 y16_4.toNatClampNeg x21 → (∀ x24 : Int32, x24 = y16_4 + (-1 : Int32) → (K16 v6_bends_c16 g15 g19 g23 y16_1 y16_2 y16_3 x24)))))))))))))))))))
def wl_X6_insert_16 (Q : (Int32) → (Nat → Int32) → (Nat → Int32) → (Nat → Int32) → Prop) : Nat → (Int32) → (Nat → Int32) → (Nat → Int32) → (Nat → Int32) → (Int32) → (Int32) → (Int32) → (Int32) → Prop
  | 0, _, _, _, _, _, _, _, _ => False
  | n + 1, v6_bends_c16, f6_from_c16, f6_to_c16, f6_curve_c16, y16_1, y16_2, y16_3, y16_4 => wb_X6_insert_16 Q  (wl_X6_insert_16 Q  n) v6_bends_c16 f6_from_c16 f6_to_c16 f6_curve_c16 y16_1 y16_2 y16_3 y16_4
def wp_X6_insert (Q : (Int32) → (Nat → Int32) → (Nat → Int32) → (Nat → Int32) → Prop) (v6_bends : Int32) (f6_from : Nat → Int32) (f6_to : Nat → Int32) (f6_curve : Nat → Int32) (p1 : Int32) (p2 : Int32) (p3 : Int32) : Prop :=
  ((v6_bends < (8 : Int32) → (∃ n : Nat, wl_X6_insert_16 Q  n v6_bends f6_from f6_to f6_curve p1 p2 p3 v6_bends)) ∧ (¬ v6_bends < (8 : Int32) → (Q v6_bends f6_from f6_to f6_curve)))
set_option maxHeartbeats 4000000 in
set_option maxRecDepth 100000 in
theorem c_X6_insert (l : Launch) (dC : Nat → ClassId) (dI : Nat → Nat → Nat) (cI cJ cZ : ClassId) (a6 : Nat) (a6_from : Nat) (a6_to : Nat) (a6_curve : Nat) (sz : Nat) (v6_end : Int32) (v6_bends : Int32) (f6_from : Nat → Int32) (f6_to : Nat → Int32) (f6_curve : Nat → Int32) (p1 : Int32) (p2 : Int32) (p3 : Int32) (Q : (Int32) → (Nat → Int32) → (Nat → Int32) → (Nat → Int32) → Prop) (hw : wp_X6_insert Q v6_bends f6_from f6_to f6_curve p1 p2 p3) : Met l yX6_insert wsX6_insert ({ frames := 0, cells := 0, slots := 0, locals := 0 } : Room) (va_Pc [.ref a6, .int p1, .int p2, .int p3] (fun U => U.heap.size = sz ∧ va_P (dC, dI) vwCl [(a6, .inr (6, [.int v6_end, .int v6_bends, .ref a6_from, .ref a6_to, .ref a6_curve])), (a6_from, .inl (cI, 8, .inl f6_from)), (a6_to, .inl (cI, 8, .inl f6_to)), (a6_curve, .inl (cI, 8, .inl f6_curve))] U.heap ∧ va_K (dC, dI) vwCl [(cI, .int), (cJ, .long), (cZ, .boolean)] U ∧ va_D (fun _ => True) [(a6, .inr (6, [.int v6_end, .int v6_bends, .ref a6_from, .ref a6_to, .ref a6_curve])), (a6_from, .inl (cI, 8, .inl f6_from)), (a6_to, .inl (cI, 8, .inl f6_to)), (a6_curve, .inl (cI, 8, .inl f6_curve))])) (va_Qv (fun (u : (Int32) × (Nat → Int32) × (Nat → Int32) × (Nat → Int32)) => Q u.1 u.2.1 u.2.2.1 u.2.2.2) (fun (u : (Int32) × (Nat → Int32) × (Nat → Int32) × (Nat → Int32)) t => va_P (dC, dI) vwCl [(a6, .inr (6, [.int v6_end, .int u.1, .ref a6_from, .ref a6_to, .ref a6_curve])), (a6_from, .inl (cI, 8, .inl u.2.1)), (a6_to, .inl (cI, 8, .inl u.2.2.1)), (a6_curve, .inl (cI, 8, .inl u.2.2.2))] t.heap ∧ va_K (dC, dI) vwCl [(cI, .int), (cJ, .long), (cZ, .boolean)] t ∧ va_D (va_A [(a6, .inr (6, [.int v6_end, .int v6_bends, .ref a6_from, .ref a6_to, .ref a6_curve])), (a6_from, .inl (cI, 8, .inl f6_from)), (a6_to, .inl (cI, 8, .inl f6_to)), (a6_curve, .inl (cI, 8, .inl f6_curve))] sz) [(a6, .inr (6, [.int v6_end, .int u.1, .ref a6_from, .ref a6_to, .ref a6_curve])), (a6_from, .inl (cI, 8, .inl u.2.1)), (a6_to, .inl (cI, 8, .inl u.2.2.1)), (a6_curve, .inl (cI, 8, .inl u.2.2.2))]) (va_A [(a6, .inr (6, [.int v6_end, .int v6_bends, .ref a6_from, .ref a6_to, .ref a6_curve])), (a6_from, .inl (cI, 8, .inl f6_from)), (a6_to, .inl (cI, 8, .inl f6_to)), (a6_curve, .inl (cI, 8, .inl f6_curve))] sz)) 0 0 (va_A [(a6, .inr (6, [.int v6_end, .int v6_bends, .ref a6_from, .ref a6_to, .ref a6_curve])), (a6_from, .inl (cI, 8, .inl f6_from)), (a6_to, .inl (cI, 8, .inl f6_to)), (a6_curve, .inl (cI, 8, .inl f6_curve))] sz) := by
  refine Met.ofW (cc := cX6_insert) (maxL := 5) (ret := none) (by decide) rfl ?_
  intro p e s m args below meth c s₁ B hml hv
  obtain ⟨rfl, hsz, hP, hK, hD0⟩ := hv
  have hx := B.exec
  have hb := B.bytes
  have hr := B.returns
  have hts := atoms_spec (ws := wsX6_insert) B.pre
  have hown : s.vm.findClass RX6 = some m.cls := findClass_of_methodNamed B.named
  have hlocks := B.notSynchronized
  subst hsz
  have hD := hD0.self (sz := s.heap.size)
  generalize hAe : va_A [(a6, .inr (6, [.int v6_end, .int v6_bends, .ref a6_from, .ref a6_to, .ref a6_curve])), (a6_from, .inl (cI, 8, .inl f6_from)), (a6_to, .inl (cI, 8, .inl f6_to)), (a6_curve, .inl (cI, 8, .inl f6_curve))] s.heap.size = A at hD ⊢
  have hA : ∀ q : Nat, s.heap.size ≤ q → A q := fun q h => by rw [← hAe]; exact Or.inr h
  have hS : va_S A s.heap s.heap [] := va_S.rf
  have hP : va_P (dC, dI) vwCl [(a6, .inr (6, [.int v6_end, .int v6_bends, .ref a6_from, .ref a6_to, .ref a6_curve])), (a6_from, .inl (cI, 8, .inl f6_from)), (a6_to, .inl (cI, 8, .inl f6_to)), (a6_curve, .inl (cI, 8, .inl f6_curve))] s.heap := hP
  have lk1 := hts (.fieldLink RX6 25 "WireRow$Track" "bends" "I") (by decide +kernel)
  have lk2 := hts (.fieldLink RX6 15 "WireRow$Track" "from" "[I") (by decide +kernel)
  have lk3 := hts (.fieldLink RX6 19 "WireRow$Track" "to" "[I") (by decide +kernel)
  have lk4 := hts (.fieldLink RX6 22 "WireRow$Track" "curve" "[I") (by decide +kernel)
  have k_88 : ∀  (v6_bends_c88 : Int32) (f6_from_c88 : Nat → Int32) (f6_to_c88 : Nat → Int32) (f6_curve_c88 : Nat → Int32) (y88_1 : Int32) (y88_2 : Int32) (y88_3 : Int32) (y88_4 : Int32) (H : Heap) (locs : List Loc) (ls : Array Slot), va_P (dC, dI) vwCl [(a6, .inr (6, [.int v6_end, .int v6_bends_c88, .ref a6_from, .ref a6_to, .ref a6_curve])), (a6_from, .inl (cI, 8, .inl f6_from_c88)), (a6_to, .inl (cI, 8, .inl f6_to_c88)), (a6_curve, .inl (cI, 8, .inl f6_curve_c88))] H → va_D A [(a6, .inr (6, [.int v6_end, .int v6_bends_c88, .ref a6_from, .ref a6_to, .ref a6_curve])), (a6_from, .inl (cI, 8, .inl f6_from_c88)), (a6_to, .inl (cI, 8, .inl f6_to_c88)), (a6_curve, .inl (cI, 8, .inl f6_curve_c88))] → va_S A s.heap H locs → lv_has ls 5 [(0, .ref a6), (1, .int y88_1), (2, .int y88_2), (3, .int y88_3), (4, .int y88_4)] → (wb_X6_insert_88 Q  v6_bends_c88 f6_from_c88 f6_to_c88 f6_curve_c88 y88_1 y88_2 y88_3 y88_4) → W p l e (headSpec wsX6_insert ({ frames := 0, cells := 0, slots := 0, locals := 0 } : Room)).room s m [.ref a6, .int p1, .int p2, .int p3].toArray below meth c H locs 0 0 (MQ below (va_Qv (fun (u : (Int32) × (Nat → Int32) × (Nat → Int32) × (Nat → Int32)) => Q u.1 u.2.1 u.2.2.1 u.2.2.2) (fun (u : (Int32) × (Nat → Int32) × (Nat → Int32) × (Nat → Int32)) t => va_P (dC, dI) vwCl [(a6, .inr (6, [.int v6_end, .int u.1, .ref a6_from, .ref a6_to, .ref a6_curve])), (a6_from, .inl (cI, 8, .inl u.2.1)), (a6_to, .inl (cI, 8, .inl u.2.2.1)), (a6_curve, .inl (cI, 8, .inl u.2.2.2))] t.heap ∧ va_K (dC, dI) vwCl [(cI, .int), (cJ, .long), (cZ, .boolean)] t ∧ va_D A [(a6, .inr (6, [.int v6_end, .int u.1, .ref a6_from, .ref a6_to, .ref a6_curve])), (a6_from, .inl (cI, 8, .inl u.2.1)), (a6_to, .inl (cI, 8, .inl u.2.2.1)), (a6_curve, .inl (cI, 8, .inl u.2.2.2))]) A) [.ref a6, .int p1, .int p2, .int p3].toArray s 0 0 A) (F0 m 88 ls []) := by
    intro v6_bends_c88 f6_from_c88 f6_to_c88 f6_curve_c88 y88_1 y88_2 y88_3 y88_4 H locs ls hP hD hS hl hw
    unfold wb_X6_insert_88 at hw
    refine lv_aload_n hx hb dX6_insert_88 rfl (lv_at hl 0 rfl) ?_
    refine va_get (D := (dC, dI)) (ci := 6) (v := .ref a6_from) (C := RX6) (T := TX6) (N := 5) hx hb hts inX6_insert_X6 hown hK hP 0 rfl rfl 2 (by decide) lk2 (fun _ h9 => h9) rfl dX6_insert_89 ?_
    refine lv_iload hx hb dX6_insert_92 (lv_at hl 4 rfl) ?_
    refine lv_iload_n hx hb dX6_insert_94 rfl (lv_at hl 1 rfl) ?_
    obtain ⟨h3, hw⟩ := hw
    refine va_iast hx hb hK hP hD hS 1 0 rfl rfl h3 dX6_insert_95 (fun H locs hP hD hS => ?_)
    obtain ⟨g4, eg4⟩ : ∃ y : Nat → Int32, y = upd f6_from_c88 y88_4.toNatClampNeg y88_1 := ⟨_, rfl⟩
    replace hw := hw g4 eg4
    have hP : va_P (dC, dI) vwCl [(a6, .inr (6, [.int v6_end, .int v6_bends_c88, .ref a6_from, .ref a6_to, .ref a6_curve])), (a6_from, .inl (cI, 8, .inl g4)), (a6_to, .inl (cI, 8, .inl f6_to_c88)), (a6_curve, .inl (cI, 8, .inl f6_curve_c88))] H := by rw [eg4]; exact hP
    have hD : va_D A [(a6, .inr (6, [.int v6_end, .int v6_bends_c88, .ref a6_from, .ref a6_to, .ref a6_curve])), (a6_from, .inl (cI, 8, .inl g4)), (a6_to, .inl (cI, 8, .inl f6_to_c88)), (a6_curve, .inl (cI, 8, .inl f6_curve_c88))] := by rw [eg4]; exact hD
    refine lv_aload_n hx hb dX6_insert_96 rfl (lv_at hl 0 rfl) ?_
    refine va_get (D := (dC, dI)) (ci := 6) (v := .ref a6_to) (C := RX6) (T := TX6) (N := 5) hx hb hts inX6_insert_X6 hown hK hP 0 rfl rfl 3 (by decide) lk3 (fun _ h9 => h9) rfl dX6_insert_97 ?_
    refine lv_iload hx hb dX6_insert_100 (lv_at hl 4 rfl) ?_
    refine lv_iload_n hx hb dX6_insert_102 rfl (lv_at hl 2 rfl) ?_
    obtain ⟨h5, hw⟩ := hw
    refine va_iast hx hb hK hP hD hS 2 0 rfl rfl h5 dX6_insert_103 (fun H locs hP hD hS => ?_)
    obtain ⟨g6, eg6⟩ : ∃ y : Nat → Int32, y = upd f6_to_c88 y88_4.toNatClampNeg y88_2 := ⟨_, rfl⟩
    replace hw := hw g6 eg6
    have hP : va_P (dC, dI) vwCl [(a6, .inr (6, [.int v6_end, .int v6_bends_c88, .ref a6_from, .ref a6_to, .ref a6_curve])), (a6_from, .inl (cI, 8, .inl g4)), (a6_to, .inl (cI, 8, .inl g6)), (a6_curve, .inl (cI, 8, .inl f6_curve_c88))] H := by rw [eg6]; exact hP
    have hD : va_D A [(a6, .inr (6, [.int v6_end, .int v6_bends_c88, .ref a6_from, .ref a6_to, .ref a6_curve])), (a6_from, .inl (cI, 8, .inl g4)), (a6_to, .inl (cI, 8, .inl g6)), (a6_curve, .inl (cI, 8, .inl f6_curve_c88))] := by rw [eg6]; exact hD
    refine lv_aload_n hx hb dX6_insert_104 rfl (lv_at hl 0 rfl) ?_
    refine va_get (D := (dC, dI)) (ci := 6) (v := .ref a6_curve) (C := RX6) (T := TX6) (N := 5) hx hb hts inX6_insert_X6 hown hK hP 0 rfl rfl 4 (by decide) lk4 (fun _ h9 => h9) rfl dX6_insert_105 ?_
    refine lv_iload hx hb dX6_insert_108 (lv_at hl 4 rfl) ?_
    refine lv_iload_n hx hb dX6_insert_110 rfl (lv_at hl 3 rfl) ?_
    obtain ⟨h7, hw⟩ := hw
    refine va_iast hx hb hK hP hD hS 3 0 rfl rfl h7 dX6_insert_111 (fun H locs hP hD hS => ?_)
    obtain ⟨g8, eg8⟩ : ∃ y : Nat → Int32, y = upd f6_curve_c88 y88_4.toNatClampNeg y88_3 := ⟨_, rfl⟩
    replace hw := hw g8 eg8
    have hP : va_P (dC, dI) vwCl [(a6, .inr (6, [.int v6_end, .int v6_bends_c88, .ref a6_from, .ref a6_to, .ref a6_curve])), (a6_from, .inl (cI, 8, .inl g4)), (a6_to, .inl (cI, 8, .inl g6)), (a6_curve, .inl (cI, 8, .inl g8))] H := by rw [eg8]; exact hP
    have hD : va_D A [(a6, .inr (6, [.int v6_end, .int v6_bends_c88, .ref a6_from, .ref a6_to, .ref a6_curve])), (a6_from, .inl (cI, 8, .inl g4)), (a6_to, .inl (cI, 8, .inl g6)), (a6_curve, .inl (cI, 8, .inl g8))] := by rw [eg8]; exact hD
    refine lv_aload_n hx hb dX6_insert_112 rfl (lv_at hl 0 rfl) ?_
    refine lv_dup hx hb dX6_insert_113 rfl ?_
    refine va_get (D := (dC, dI)) (ci := 6) (v := .int v6_bends_c88) (C := RX6) (T := TX6) (N := 5) hx hb hts inX6_insert_X6 hown hK hP 0 rfl rfl 1 (by decide) lk1 (fun _ h9 => h9) rfl dX6_insert_114 ?_
    refine lv_iconst (v := (1 : Int32)) hx hb dX6_insert_117 (by decide) ?_
    refine lv_iadd hx hb dX6_insert_118 ?_
    refine lv_topi (fun x9 ex9 => ?_)
    replace hw := hw x9 ex9
    refine va_put (D := (dC, dI)) (ci := 6) (v := .int x9) (ty := .int) (C := RX6) (T := TX6) (N := 5) hx hb hts inX6_insert_X6 tyX6 tyX6_ok nmX6 hown hK hP hD hS 0 rfl rfl 1 (by decide) lk1 (fun _ h9 => h9) rfl (by decide +kernel) rfl rfl (Nat.le_of_ble_eq_true rfl) dX6_insert_119 (fun H locs hP hD hS => ?_)
    have hP : va_P (dC, dI) vwCl [(a6, .inr (6, [.int v6_end, .int x9, .ref a6_from, .ref a6_to, .ref a6_curve])), (a6_from, .inl (cI, 8, .inl g4)), (a6_to, .inl (cI, 8, .inl g6)), (a6_curve, .inl (cI, 8, .inl g8))] H := hP
    have hD : va_D A [(a6, .inr (6, [.int v6_end, .int x9, .ref a6_from, .ref a6_to, .ref a6_curve])), (a6_from, .inl (cI, 8, .inl g4)), (a6_to, .inl (cI, 8, .inl g6)), (a6_curve, .inl (cI, 8, .inl g8))] := hD
    have hP9 := hP.sub (ws' := [(a6, .inr (6, [.int v6_end, .int x9, .ref a6_from, .ref a6_to, .ref a6_curve])), (a6_from, .inl (cI, 8, .inl g4)), (a6_to, .inl (cI, 8, .inl g6)), (a6_curve, .inl (cI, 8, .inl g8))]) [0, 1, 2, 3] rfl
    have hD9 := hD.sub (ws' := [(a6, .inr (6, [.int v6_end, .int x9, .ref a6_from, .ref a6_to, .ref a6_curve])), (a6_from, .inl (cI, 8, .inl g4)), (a6_to, .inl (cI, 8, .inl g6)), (a6_curve, .inl (cI, 8, .inl g8))]) [0, 1, 2, 3] (by decide) rfl
    exact W.vret hx hb hr (fun t ht hW => ⟨⟨(x9, g4, g6, g8), rfl, hw, by rw [ht]; exact hP9, va_K.moved hW.alike hK, hD9⟩, hS.F ht⟩) hS.2.2 dX6_insert_122
  have k_16 : ∀ (n_16 : Nat) (v6_bends_c16 : Int32) (f6_from_c16 : Nat → Int32) (f6_to_c16 : Nat → Int32) (f6_curve_c16 : Nat → Int32) (y16_1 : Int32) (y16_2 : Int32) (y16_3 : Int32) (y16_4 : Int32) (H : Heap) (locs : List Loc) (ls : Array Slot), va_P (dC, dI) vwCl [(a6, .inr (6, [.int v6_end, .int v6_bends_c16, .ref a6_from, .ref a6_to, .ref a6_curve])), (a6_from, .inl (cI, 8, .inl f6_from_c16)), (a6_to, .inl (cI, 8, .inl f6_to_c16)), (a6_curve, .inl (cI, 8, .inl f6_curve_c16))] H → va_D A [(a6, .inr (6, [.int v6_end, .int v6_bends_c16, .ref a6_from, .ref a6_to, .ref a6_curve])), (a6_from, .inl (cI, 8, .inl f6_from_c16)), (a6_to, .inl (cI, 8, .inl f6_to_c16)), (a6_curve, .inl (cI, 8, .inl f6_curve_c16))] → va_S A s.heap H locs → lv_has ls 5 [(0, .ref a6), (1, .int y16_1), (2, .int y16_2), (3, .int y16_3), (4, .int y16_4)] → (wl_X6_insert_16 Q  n_16 v6_bends_c16 f6_from_c16 f6_to_c16 f6_curve_c16 y16_1 y16_2 y16_3 y16_4) → W p l e (headSpec wsX6_insert ({ frames := 0, cells := 0, slots := 0, locals := 0 } : Room)).room s m [.ref a6, .int p1, .int p2, .int p3].toArray below meth c H locs 0 0 (MQ below (va_Qv (fun (u : (Int32) × (Nat → Int32) × (Nat → Int32) × (Nat → Int32)) => Q u.1 u.2.1 u.2.2.1 u.2.2.2) (fun (u : (Int32) × (Nat → Int32) × (Nat → Int32) × (Nat → Int32)) t => va_P (dC, dI) vwCl [(a6, .inr (6, [.int v6_end, .int u.1, .ref a6_from, .ref a6_to, .ref a6_curve])), (a6_from, .inl (cI, 8, .inl u.2.1)), (a6_to, .inl (cI, 8, .inl u.2.2.1)), (a6_curve, .inl (cI, 8, .inl u.2.2.2))] t.heap ∧ va_K (dC, dI) vwCl [(cI, .int), (cJ, .long), (cZ, .boolean)] t ∧ va_D A [(a6, .inr (6, [.int v6_end, .int u.1, .ref a6_from, .ref a6_to, .ref a6_curve])), (a6_from, .inl (cI, 8, .inl u.2.1)), (a6_to, .inl (cI, 8, .inl u.2.2.1)), (a6_curve, .inl (cI, 8, .inl u.2.2.2))]) A) [.ref a6, .int p1, .int p2, .int p3].toArray s 0 0 A) (F0 m 16 ls []) := by
    intro n_16
    induction n_16 with
    | zero =>
      intro v6_bends_c16 f6_from_c16 f6_to_c16 f6_curve_c16 y16_1 y16_2 y16_3 y16_4 H locs ls hP hD hS hl hw
      exact False.elim hw
    | succ n_16 ih_16 =>
      intro v6_bends_c16 f6_from_c16 f6_to_c16 f6_curve_c16 y16_1 y16_2 y16_3 y16_4 H locs ls hP hD hS hl hw
      replace hw : wb_X6_insert_16 Q  (wl_X6_insert_16 Q  n_16) v6_bends_c16 f6_from_c16 f6_to_c16 f6_curve_c16 y16_1 y16_2 y16_3 y16_4 := hw
      unfold wb_X6_insert_16 at hw
      refine lv_iload hx hb dX6_insert_16 (lv_at hl 4 rfl) ?_
      refine lv_if_le (tgt := 88) hx hb dX6_insert_18 (by decide) (fun c2 => ?_) (fun c2 => ?_)
      · replace hw := hw.1 (c2)
        exact k_88 v6_bends_c16 f6_from_c16 f6_to_c16 f6_curve_c16 y16_1 y16_2 y16_3 y16_4 _ _ _ (hP.sub [0, 1, 2, 3] rfl) (hD.sub [0, 1, 2, 3] (by decide) rfl) hS (lv_sub hl [0, 1, 2, 3, 4] rfl) hw
      · replace hw := hw.2 (c2)
        refine lv_aload_n hx hb dX6_insert_21 rfl (lv_at hl 0 rfl) ?_
        refine va_get (D := (dC, dI)) (ci := 6) (v := .ref a6_from) (C := RX6) (T := TX6) (N := 5) hx hb hts inX6_insert_X6 hown hK hP 0 rfl rfl 2 (by decide) lk2 (fun _ h9 => h9) rfl dX6_insert_22 ?_
        refine lv_iload hx hb dX6_insert_25 (lv_at hl 4 rfl) ?_
        refine lv_iconst (v := (1 : Int32)) hx hb dX6_insert_27 (by decide) ?_
        refine lv_isub hx hb dX6_insert_28 ?_
        obtain ⟨h10, hw⟩ := hw
        refine va_iald hx hb hK hP 1 0 rfl rfl h10 dX6_insert_29 ?_
        refine lv_iload_n hx hb dX6_insert_30 rfl (lv_at hl 1 rfl) ?_
        refine lv_icmp_le (tgt := 88) hx hb dX6_insert_31 (by decide) (fun c11 => ?_) (fun c11 => ?_)
        · replace hw := hw.1 (c11)
          exact k_88 v6_bends_c16 f6_from_c16 f6_to_c16 f6_curve_c16 y16_1 y16_2 y16_3 y16_4 _ _ _ (hP.sub [0, 1, 2, 3] rfl) (hD.sub [0, 1, 2, 3] (by decide) rfl) hS (lv_sub hl [0, 1, 2, 3, 4] rfl) hw
        · replace hw := hw.2 (c11)
          refine lv_aload_n hx hb dX6_insert_34 rfl (lv_at hl 0 rfl) ?_
          refine va_get (D := (dC, dI)) (ci := 6) (v := .ref a6_from) (C := RX6) (T := TX6) (N := 5) hx hb hts inX6_insert_X6 hown hK hP 0 rfl rfl 2 (by decide) lk2 (fun _ h9 => h9) rfl dX6_insert_35 ?_
          refine lv_iload hx hb dX6_insert_38 (lv_at hl 4 rfl) ?_
          refine lv_aload_n hx hb dX6_insert_40 rfl (lv_at hl 0 rfl) ?_
          refine va_get (D := (dC, dI)) (ci := 6) (v := .ref a6_from) (C := RX6) (T := TX6) (N := 5) hx hb hts inX6_insert_X6 hown hK hP 0 rfl rfl 2 (by decide) lk2 (fun _ h9 => h9) rfl dX6_insert_41 ?_
          refine lv_iload hx hb dX6_insert_44 (lv_at hl 4 rfl) ?_
          refine lv_iconst (v := (1 : Int32)) hx hb dX6_insert_46 (by decide) ?_
          refine lv_isub hx hb dX6_insert_47 ?_
          obtain ⟨h12, hw⟩ := hw
          refine va_iald hx hb hK hP 1 0 rfl rfl h12 dX6_insert_48 ?_
          refine lv_topi (fun x13 ex13 => ?_)
          replace hw := hw x13 ex13
          obtain ⟨h14, hw⟩ := hw
          refine va_iast hx hb hK hP hD hS 1 0 rfl rfl h14 dX6_insert_49 (fun H locs hP hD hS => ?_)
          obtain ⟨g15, eg15⟩ : ∃ y : Nat → Int32, y = upd f6_from_c16 y16_4.toNatClampNeg x13 := ⟨_, rfl⟩
          replace hw := hw g15 eg15
          have hP : va_P (dC, dI) vwCl [(a6, .inr (6, [.int v6_end, .int v6_bends_c16, .ref a6_from, .ref a6_to, .ref a6_curve])), (a6_from, .inl (cI, 8, .inl g15)), (a6_to, .inl (cI, 8, .inl f6_to_c16)), (a6_curve, .inl (cI, 8, .inl f6_curve_c16))] H := by rw [eg15]; exact hP
          have hD : va_D A [(a6, .inr (6, [.int v6_end, .int v6_bends_c16, .ref a6_from, .ref a6_to, .ref a6_curve])), (a6_from, .inl (cI, 8, .inl g15)), (a6_to, .inl (cI, 8, .inl f6_to_c16)), (a6_curve, .inl (cI, 8, .inl f6_curve_c16))] := by rw [eg15]; exact hD
          refine lv_aload_n hx hb dX6_insert_50 rfl (lv_at hl 0 rfl) ?_
          refine va_get (D := (dC, dI)) (ci := 6) (v := .ref a6_to) (C := RX6) (T := TX6) (N := 5) hx hb hts inX6_insert_X6 hown hK hP 0 rfl rfl 3 (by decide) lk3 (fun _ h9 => h9) rfl dX6_insert_51 ?_
          refine lv_iload hx hb dX6_insert_54 (lv_at hl 4 rfl) ?_
          refine lv_aload_n hx hb dX6_insert_56 rfl (lv_at hl 0 rfl) ?_
          refine va_get (D := (dC, dI)) (ci := 6) (v := .ref a6_to) (C := RX6) (T := TX6) (N := 5) hx hb hts inX6_insert_X6 hown hK hP 0 rfl rfl 3 (by decide) lk3 (fun _ h9 => h9) rfl dX6_insert_57 ?_
          refine lv_iload hx hb dX6_insert_60 (lv_at hl 4 rfl) ?_
          refine lv_iconst (v := (1 : Int32)) hx hb dX6_insert_62 (by decide) ?_
          refine lv_isub hx hb dX6_insert_63 ?_
          obtain ⟨h16, hw⟩ := hw
          refine va_iald hx hb hK hP 2 0 rfl rfl h16 dX6_insert_64 ?_
          refine lv_topi (fun x17 ex17 => ?_)
          replace hw := hw x17 ex17
          obtain ⟨h18, hw⟩ := hw
          refine va_iast hx hb hK hP hD hS 2 0 rfl rfl h18 dX6_insert_65 (fun H locs hP hD hS => ?_)
          obtain ⟨g19, eg19⟩ : ∃ y : Nat → Int32, y = upd f6_to_c16 y16_4.toNatClampNeg x17 := ⟨_, rfl⟩
          replace hw := hw g19 eg19
          have hP : va_P (dC, dI) vwCl [(a6, .inr (6, [.int v6_end, .int v6_bends_c16, .ref a6_from, .ref a6_to, .ref a6_curve])), (a6_from, .inl (cI, 8, .inl g15)), (a6_to, .inl (cI, 8, .inl g19)), (a6_curve, .inl (cI, 8, .inl f6_curve_c16))] H := by rw [eg19]; exact hP
          have hD : va_D A [(a6, .inr (6, [.int v6_end, .int v6_bends_c16, .ref a6_from, .ref a6_to, .ref a6_curve])), (a6_from, .inl (cI, 8, .inl g15)), (a6_to, .inl (cI, 8, .inl g19)), (a6_curve, .inl (cI, 8, .inl f6_curve_c16))] := by rw [eg19]; exact hD
          refine lv_aload_n hx hb dX6_insert_66 rfl (lv_at hl 0 rfl) ?_
          refine va_get (D := (dC, dI)) (ci := 6) (v := .ref a6_curve) (C := RX6) (T := TX6) (N := 5) hx hb hts inX6_insert_X6 hown hK hP 0 rfl rfl 4 (by decide) lk4 (fun _ h9 => h9) rfl dX6_insert_67 ?_
          refine lv_iload hx hb dX6_insert_70 (lv_at hl 4 rfl) ?_
          refine lv_aload_n hx hb dX6_insert_72 rfl (lv_at hl 0 rfl) ?_
          refine va_get (D := (dC, dI)) (ci := 6) (v := .ref a6_curve) (C := RX6) (T := TX6) (N := 5) hx hb hts inX6_insert_X6 hown hK hP 0 rfl rfl 4 (by decide) lk4 (fun _ h9 => h9) rfl dX6_insert_73 ?_
          refine lv_iload hx hb dX6_insert_76 (lv_at hl 4 rfl) ?_
          refine lv_iconst (v := (1 : Int32)) hx hb dX6_insert_78 (by decide) ?_
          refine lv_isub hx hb dX6_insert_79 ?_
          obtain ⟨h20, hw⟩ := hw
          refine va_iald hx hb hK hP 3 0 rfl rfl h20 dX6_insert_80 ?_
          refine lv_topi (fun x21 ex21 => ?_)
          replace hw := hw x21 ex21
          obtain ⟨h22, hw⟩ := hw
          refine va_iast hx hb hK hP hD hS 3 0 rfl rfl h22 dX6_insert_81 (fun H locs hP hD hS => ?_)
          obtain ⟨g23, eg23⟩ : ∃ y : Nat → Int32, y = upd f6_curve_c16 y16_4.toNatClampNeg x21 := ⟨_, rfl⟩
          replace hw := hw g23 eg23
          have hP : va_P (dC, dI) vwCl [(a6, .inr (6, [.int v6_end, .int v6_bends_c16, .ref a6_from, .ref a6_to, .ref a6_curve])), (a6_from, .inl (cI, 8, .inl g15)), (a6_to, .inl (cI, 8, .inl g19)), (a6_curve, .inl (cI, 8, .inl g23))] H := by rw [eg23]; exact hP
          have hD : va_D A [(a6, .inr (6, [.int v6_end, .int v6_bends_c16, .ref a6_from, .ref a6_to, .ref a6_curve])), (a6_from, .inl (cI, 8, .inl g15)), (a6_to, .inl (cI, 8, .inl g19)), (a6_curve, .inl (cI, 8, .inl g23))] := by rw [eg23]; exact hD
          obtain ⟨x24, ex24⟩ : ∃ y : Int32, y = y16_4 + (-1 : Int32) := ⟨_, rfl⟩
          replace hw := hw x24 ex24
          refine lv_iinc (v := x24) (lv' := [(4, .int x24), (0, .ref a6), (1, .int y16_1), (2, .int y16_2), (3, .int y16_3)]) hx hb dX6_insert_82 hl (k := 4) rfl (by rw [ex24]; rfl) (by decide) rfl (fun ls hl => ?_)
          refine lv_goto (tgt := 16) hx hb dX6_insert_85 (by decide) ?_
          exact ih_16 v6_bends_c16 g15 g19 g23 y16_1 y16_2 y16_3 x24 _ _ _ (hP.sub [0, 1, 2, 3] rfl) (hD.sub [0, 1, 2, 3] (by decide) rfl) hS (lv_sub hl [1, 2, 3, 4, 0] rfl) hw
  have hl := lv_entry ([.ref a6, .int p1, .int p2, .int p3]) (n := 5) (Nat.le_of_ble_eq_true rfl)
  rw [lg_entry_eq]
  generalize (lg_sl ([.ref a6, .int p1, .int p2, .int p3]) ++ List.replicate (5 - (lg_sl ([.ref a6, .int p1, .int p2, .int p3])).length) Slot.unset).toArray = ls at hl ⊢
  have hl : lv_has ls 5 [(0, .ref a6), (1, .int p1), (2, .int p2), (3, .int p3)] := hl
  obtain ⟨H, hHe⟩ : ∃ H, H = s.heap := ⟨_, rfl⟩
  rw [← hHe] at hP
  have hS : va_S A s.heap H [] := by rw [hHe]; exact hS
  rw [← hHe]
  unfold wp_X6_insert at hw
  refine lv_aload_n hx hb dX6_insert_0 rfl (lv_at hl 0 rfl) ?_
  refine va_get (D := (dC, dI)) (ci := 6) (v := .int v6_bends) (C := RX6) (T := TX6) (N := 5) hx hb hts inX6_insert_X6 hown hK hP 0 rfl rfl 1 (by decide) lk1 (fun _ h9 => h9) rfl dX6_insert_1 ?_
  refine lv_bipush (v := (8 : Int32)) hx hb dX6_insert_4 (by decide) ?_
  refine lv_icmp_lt (tgt := 10) hx hb dX6_insert_6 (by decide) (fun c1 => ?_) (fun c1 => ?_)
  · replace hw := hw.1 (c1)
    refine lv_aload_n hx hb dX6_insert_10 rfl (lv_at hl 0 rfl) ?_
    refine va_get (D := (dC, dI)) (ci := 6) (v := .int v6_bends) (C := RX6) (T := TX6) (N := 5) hx hb hts inX6_insert_X6 hown hK hP 0 rfl rfl 1 (by decide) lk1 (fun _ h9 => h9) rfl dX6_insert_11 ?_
    refine lv_istore (lv' := [(4, .int v6_bends), (0, .ref a6), (1, .int p1), (2, .int p2), (3, .int p3)]) hx hb dX6_insert_14 hl (by decide) rfl (fun ls hl => ?_)
    obtain ⟨n_16, hw⟩ := hw
    exact k_16 n_16 v6_bends f6_from f6_to f6_curve p1 p2 p3 v6_bends _ _ _ (hP.sub [0, 1, 2, 3] rfl) (hD.sub [0, 1, 2, 3] (by decide) rfl) hS (lv_sub hl [1, 2, 3, 4, 0] rfl) hw
  · replace hw := hw.2 (c1)
    have hP9 := hP.sub (ws' := [(a6, .inr (6, [.int v6_end, .int v6_bends, .ref a6_from, .ref a6_to, .ref a6_curve])), (a6_from, .inl (cI, 8, .inl f6_from)), (a6_to, .inl (cI, 8, .inl f6_to)), (a6_curve, .inl (cI, 8, .inl f6_curve))]) [0, 1, 2, 3] rfl
    have hD9 := hD.sub (ws' := [(a6, .inr (6, [.int v6_end, .int v6_bends, .ref a6_from, .ref a6_to, .ref a6_curve])), (a6_from, .inl (cI, 8, .inl f6_from)), (a6_to, .inl (cI, 8, .inl f6_to)), (a6_curve, .inl (cI, 8, .inl f6_curve))]) [0, 1, 2, 3] (by decide) rfl
    exact W.vret hx hb hr (fun t ht hW => ⟨⟨(v6_bends, f6_from, f6_to, f6_curve), rfl, hw, by rw [ht]; exact hP9, va_K.moved hW.alike hK, hD9⟩, hS.F ht⟩) hS.2.2 dX6_insert_9

def wp_X7_within (Q : Int32 → Prop) (p1 : Int32) (p2 : Int32) (p3 : Int32) : Prop :=
  ((p1 < p2 → (((0 : Int32) = 0 ∨ (0 : Int32) = 1) ∧ Q (0 : Int32) )) ∧ (¬ p1 < p2 → ((p3 < p1 → (((0 : Int32) = 0 ∨ (0 : Int32) = 1) ∧ Q (0 : Int32) )) ∧ (¬ p3 < p1 → (((1 : Int32) = 0 ∨ (1 : Int32) = 1) ∧ Q (1 : Int32) )))))
set_option maxHeartbeats 4000000 in
set_option maxRecDepth 100000 in
theorem c_X7_within (l : Launch) (dC : Nat → ClassId) (dI : Nat → Nat → Nat) (cI cJ cZ : ClassId) (sz : Nat) (p1 : Int32) (p2 : Int32) (p3 : Int32) (Q : Int32 → Prop) (hw : wp_X7_within Q  p1 p2 p3) : Met l yX7_within wsX7_within ({ frames := 0, cells := 0, slots := 0, locals := 0 } : Room) (va_Pc [.int p1, .int p2, .int p3] (fun U => U.heap.size = sz ∧ va_P (dC, dI) vwCl [] U.heap ∧ va_K (dC, dI) vwCl [(cI, .int), (cJ, .long), (cZ, .boolean)] U ∧ va_D (fun _ => True) [])) (va_Qi (fun r (u : Unit) => Q r) (fun (u : Unit) t => va_P (dC, dI) vwCl [] t.heap ∧ va_K (dC, dI) vwCl [(cI, .int), (cJ, .long), (cZ, .boolean)] t ∧ va_D (va_A [] sz) []) (va_A [] sz)) 0 0 (va_A [] sz) := by
  refine Met.ofW (cc := cX7_within) (maxL := 3) (ret := (some .boolean)) (by decide) rfl ?_
  intro p e s m args below meth c s₁ B hml hv
  obtain ⟨rfl, hsz, hP, hK, hD0⟩ := hv
  have hx := B.exec
  have hb := B.bytes
  have hr := B.returns
  have hts := atoms_spec (ws := wsX7_within) B.pre
  have hown : s.vm.findClass RX7 = some m.cls := findClass_of_methodNamed B.named
  have hlocks := B.notSynchronized
  subst hsz
  have hD := hD0.self (sz := s.heap.size)
  generalize hAe : va_A [] s.heap.size = A at hD ⊢
  have hA : ∀ q : Nat, s.heap.size ≤ q → A q := fun q h => by rw [← hAe]; exact Or.inr h
  have hS : va_S A s.heap s.heap [] := va_S.rf
  have hP : va_P (dC, dI) vwCl [] s.heap := hP
  have hl := lv_entry ([.int p1, .int p2, .int p3]) (n := 3) (Nat.le_of_ble_eq_true rfl)
  rw [lg_entry_eq]
  generalize (lg_sl ([.int p1, .int p2, .int p3]) ++ List.replicate (3 - (lg_sl ([.int p1, .int p2, .int p3])).length) Slot.unset).toArray = ls at hl ⊢
  have hl : lv_has ls 3 [(0, .int p1), (1, .int p2), (2, .int p3)] := hl
  obtain ⟨H, hHe⟩ : ∃ H, H = s.heap := ⟨_, rfl⟩
  rw [← hHe] at hP
  have hS : va_S A s.heap H [] := by rw [hHe]; exact hS
  rw [← hHe]
  unfold wp_X7_within at hw
  refine lv_iload_n hx hb dX7_within_0 rfl (lv_at hl 0 rfl) ?_
  refine lv_iload_n hx hb dX7_within_1 rfl (lv_at hl 1 rfl) ?_
  refine lv_icmp_lt (tgt := 14) hx hb dX7_within_2 (by decide) (fun c1 => ?_) (fun c1 => ?_)
  · replace hw := hw.1 (c1)
    refine lv_iconst (v := (0 : Int32)) hx hb dX7_within_14 (by decide) ?_
    have hP9 := hP.sub (ws' := []) [] rfl
    have hD9 := hD.sub (ws' := []) [] (by decide) rfl
    obtain ⟨h2, hw⟩ := hw
    exact W.zret (v := (0 : Int32)) hx hb hr (wg_bool h2) (fun t ht hW => ⟨⟨(0 : Int32), (), rfl, hw, by rw [ht]; exact hP9, va_K.moved hW.alike hK, hD9⟩, hS.F ht⟩) hS.2.2 dX7_within_15
  · replace hw := hw.2 (c1)
    refine lv_iload_n hx hb dX7_within_5 rfl (lv_at hl 0 rfl) ?_
    refine lv_iload_n hx hb dX7_within_6 rfl (lv_at hl 2 rfl) ?_
    refine lv_icmp_gt (tgt := 14) hx hb dX7_within_7 (by decide) (fun c3 => ?_) (fun c3 => ?_)
    · replace hw := hw.1 (c3)
      refine lv_iconst (v := (0 : Int32)) hx hb dX7_within_14 (by decide) ?_
      have hP9 := hP.sub (ws' := []) [] rfl
      have hD9 := hD.sub (ws' := []) [] (by decide) rfl
      obtain ⟨h4, hw⟩ := hw
      exact W.zret (v := (0 : Int32)) hx hb hr (wg_bool h4) (fun t ht hW => ⟨⟨(0 : Int32), (), rfl, hw, by rw [ht]; exact hP9, va_K.moved hW.alike hK, hD9⟩, hS.F ht⟩) hS.2.2 dX7_within_15
    · replace hw := hw.2 (c3)
      refine lv_iconst (v := (1 : Int32)) hx hb dX7_within_10 (by decide) ?_
      refine lv_goto (tgt := 15) hx hb dX7_within_11 (by decide) ?_
      have hP9 := hP.sub (ws' := []) [] rfl
      have hD9 := hD.sub (ws' := []) [] (by decide) rfl
      obtain ⟨h5, hw⟩ := hw
      exact W.zret (v := (1 : Int32)) hx hb hr (wg_bool h5) (fun t ht hW => ⟨⟨(1 : Int32), (), rfl, hw, by rw [ht]; exact hP9, va_K.moved hW.alike hK, hD9⟩, hS.F ht⟩) hS.2.2 dX7_within_15

theorem inX7_length_X7 : ∀ w ∈ wsX70, w ∈ wsX7_length := fun _ h => List.mem_cons_of_mem _ (List.mem_append_left _ (List.mem_append_left _ (List.mem_append_right _ h)))
theorem inX7_length_X2 : ∀ w ∈ wsX20, w ∈ wsX7_length := fun _ h => List.mem_cons_of_mem _ (List.mem_append_left _ (List.mem_append_right _ h))
theorem inX7_length_X6 : ∀ w ∈ wsX60, w ∈ wsX7_length := fun _ h => List.mem_cons_of_mem _ (List.mem_append_right _ h)
def wp_X7_length (Q : Int32 → (Int32) → (Int32) → Prop) (v6_end : Int32) (v6_bends : Int32) (v2_count : Int32) (p1 : Int32) : Prop :=
  (wp_X7_within (fun r1 => ((r1 = 0 → (Q (-2 : Int32) v6_end v6_bends)) ∧ (¬ r1 = 0 → ((v2_count ≤ 0 → (Q v6_end p1 (0 : Int32))) ∧ (¬ v2_count ≤ 0 → (Q (-3 : Int32) v6_end v6_bends)))))) p1 (100 : Int32) (4000 : Int32))
set_option maxHeartbeats 4000000 in
set_option maxRecDepth 100000 in
theorem c_X7_length (l : Launch) (dC : Nat → ClassId) (dI : Nat → Nat → Nat) (cI cJ cZ : ClassId) (a7 : Nat) (a6 : Nat) (a6_from : Nat) (a6_to : Nat) (a6_curve : Nat) (a2 : Nat) (a2_place : Nat) (a2_price : Nat) (a2_trackAside : Nat) (a2_side : Nat) (a2_stands : Nat) (a2_mastPeg : Nat) (a5 : Nat) (a4 : Nat) (a0 : Nat) (a1 : Nat) (a3 : Nat) (sz : Nat) (v6_end : Int32) (v6_bends : Int32) (v2_count : Int32) (v2_masts : Int32) (p1 : Int32) (Q : Int32 → (Int32) → (Int32) → Prop) (hw : wp_X7_length Q v6_end v6_bends v2_count p1) : Met l yX7_length wsX7_length ({ frames := 1, cells := 0, slots := 0, locals := 22 } : Room) (va_Pc [.ref a7, .int p1] (fun U => U.heap.size = sz ∧ va_P (dC, dI) vwCl [(a7, .inr (7, [.ref a6, .ref a2, .ref a5, .ref a4, .ref a0, .ref a1, .ref a3])), (a6, .inr (6, [.int v6_end, .int v6_bends, .ref a6_from, .ref a6_to, .ref a6_curve])), (a2, .inr (2, [.int v2_count, .int v2_masts, .ref a2_place, .ref a2_price, .ref a2_trackAside, .ref a2_side, .ref a2_stands, .ref a2_mastPeg]))] U.heap ∧ va_K (dC, dI) vwCl [(cI, .int), (cJ, .long), (cZ, .boolean)] U ∧ va_D (fun _ => True) [(a7, .inr (7, [.ref a6, .ref a2, .ref a5, .ref a4, .ref a0, .ref a1, .ref a3])), (a6, .inr (6, [.int v6_end, .int v6_bends, .ref a6_from, .ref a6_to, .ref a6_curve])), (a2, .inr (2, [.int v2_count, .int v2_masts, .ref a2_place, .ref a2_price, .ref a2_trackAside, .ref a2_side, .ref a2_stands, .ref a2_mastPeg]))])) (va_Qi (fun r (u : (Int32) × (Int32)) => Q r u.1 u.2) (fun (u : (Int32) × (Int32)) t => va_P (dC, dI) vwCl [(a7, .inr (7, [.ref a6, .ref a2, .ref a5, .ref a4, .ref a0, .ref a1, .ref a3])), (a6, .inr (6, [.int u.1, .int u.2, .ref a6_from, .ref a6_to, .ref a6_curve])), (a2, .inr (2, [.int v2_count, .int v2_masts, .ref a2_place, .ref a2_price, .ref a2_trackAside, .ref a2_side, .ref a2_stands, .ref a2_mastPeg]))] t.heap ∧ va_K (dC, dI) vwCl [(cI, .int), (cJ, .long), (cZ, .boolean)] t ∧ va_D (va_A [(a7, .inr (7, [.ref a6, .ref a2, .ref a5, .ref a4, .ref a0, .ref a1, .ref a3])), (a6, .inr (6, [.int v6_end, .int v6_bends, .ref a6_from, .ref a6_to, .ref a6_curve])), (a2, .inr (2, [.int v2_count, .int v2_masts, .ref a2_place, .ref a2_price, .ref a2_trackAside, .ref a2_side, .ref a2_stands, .ref a2_mastPeg]))] sz) [(a7, .inr (7, [.ref a6, .ref a2, .ref a5, .ref a4, .ref a0, .ref a1, .ref a3])), (a6, .inr (6, [.int u.1, .int u.2, .ref a6_from, .ref a6_to, .ref a6_curve])), (a2, .inr (2, [.int v2_count, .int v2_masts, .ref a2_place, .ref a2_price, .ref a2_trackAside, .ref a2_side, .ref a2_stands, .ref a2_mastPeg]))]) (va_A [(a7, .inr (7, [.ref a6, .ref a2, .ref a5, .ref a4, .ref a0, .ref a1, .ref a3])), (a6, .inr (6, [.int v6_end, .int v6_bends, .ref a6_from, .ref a6_to, .ref a6_curve])), (a2, .inr (2, [.int v2_count, .int v2_masts, .ref a2_place, .ref a2_price, .ref a2_trackAside, .ref a2_side, .ref a2_stands, .ref a2_mastPeg]))] sz)) 0 0 (va_A [(a7, .inr (7, [.ref a6, .ref a2, .ref a5, .ref a4, .ref a0, .ref a1, .ref a3])), (a6, .inr (6, [.int v6_end, .int v6_bends, .ref a6_from, .ref a6_to, .ref a6_curve])), (a2, .inr (2, [.int v2_count, .int v2_masts, .ref a2_place, .ref a2_price, .ref a2_trackAside, .ref a2_side, .ref a2_stands, .ref a2_mastPeg]))] sz) := by
  refine Met.ofW (cc := cX7_length) (maxL := 3) (ret := (some .int)) (by decide) rfl ?_
  intro p e s m args below meth c s₁ B hml hv
  obtain ⟨rfl, hsz, hP, hK, hD0⟩ := hv
  have hx := B.exec
  have hb := B.bytes
  have hr := B.returns
  have hts := atoms_spec (ws := wsX7_length) B.pre
  have hown : s.vm.findClass RX7 = some m.cls := findClass_of_methodNamed B.named
  have hlocks := B.notSynchronized
  subst hsz
  have hD := hD0.self (sz := s.heap.size)
  generalize hAe : va_A [(a7, .inr (7, [.ref a6, .ref a2, .ref a5, .ref a4, .ref a0, .ref a1, .ref a3])), (a6, .inr (6, [.int v6_end, .int v6_bends, .ref a6_from, .ref a6_to, .ref a6_curve])), (a2, .inr (2, [.int v2_count, .int v2_masts, .ref a2_place, .ref a2_price, .ref a2_trackAside, .ref a2_side, .ref a2_stands, .ref a2_mastPeg]))] s.heap.size = A at hD ⊢
  have hA : ∀ q : Nat, s.heap.size ≤ q → A q := fun q h => by rw [← hAe]; exact Or.inr h
  have hS : va_S A s.heap s.heap [] := va_S.rf
  have hP : va_P (dC, dI) vwCl [(a7, .inr (7, [.ref a6, .ref a2, .ref a5, .ref a4, .ref a0, .ref a1, .ref a3])), (a6, .inr (6, [.int v6_end, .int v6_bends, .ref a6_from, .ref a6_to, .ref a6_curve])), (a2, .inr (2, [.int v2_count, .int v2_masts, .ref a2_place, .ref a2_price, .ref a2_trackAside, .ref a2_side, .ref a2_stands, .ref a2_mastPeg]))] s.heap := hP
  have lk1 := hts (.fieldLink RX7 19 "WireRow" "pegs" "LWireRow$PegRow;") (by decide +kernel)
  have lk2 := hts (.fieldLink RX7 66 "WireRow$PegRow" "count" "I") (by decide +kernel)
  have lk3 := hts (.fieldLink RX7 10 "WireRow" "track" "LWireRow$Track;") (by decide +kernel)
  have lk4 := hts (.fieldLink RX7 70 "WireRow$Track" "end" "I") (by decide +kernel)
  have lk5 := hts (.fieldLink RX7 73 "WireRow$Track" "bends" "I") (by decide +kernel)
  have hl := lv_entry ([.ref a7, .int p1]) (n := 3) (Nat.le_of_ble_eq_true rfl)
  rw [lg_entry_eq]
  generalize (lg_sl ([.ref a7, .int p1]) ++ List.replicate (3 - (lg_sl ([.ref a7, .int p1])).length) Slot.unset).toArray = ls at hl ⊢
  have hl : lv_has ls 3 [(0, .ref a7), (1, .int p1)] := hl
  obtain ⟨H, hHe⟩ : ∃ H, H = s.heap := ⟨_, rfl⟩
  rw [← hHe] at hP
  have hS : va_S A s.heap H [] := by rw [hHe]; exact hS
  rw [← hHe]
  unfold wp_X7_length at hw
  refine lv_iload_n hx hb dX7_length_0 rfl (lv_at hl 1 rfl) ?_
  refine lv_bipush (v := (100 : Int32)) hx hb dX7_length_1 (by decide) ?_
  refine lv_sipush (v := (4000 : Int32)) hx hb dX7_length_3 (by decide) ?_
  have hPc := hP.sub (ws' := []) [] rfl
  have hDc := hD.sub (ws' := []) [] (by decide) rfl
  have hFc := va_free (wc := []) hD hS hA [] rfl
  refine va_calli (va_runS (As := [.int p1, .int (100 : Int32), .int (4000 : Int32)]) (rest := []) ⟨hx, hb, hml, hown, hts⟩ (c_X7_within l dC dI cI cJ cZ H.size p1 (100 : Int32) (4000 : Int32) _ hw) (va_cwS 3 hts gX7_length_X7_within rfl rfl rfl (by decide +kernel) ⟨Nat.le_of_ble_eq_true rfl, Nat.le_of_ble_eq_true rfl⟩) ⟨fun a U g mk q => by obtain ⟨q0, q1, qP, qK, qD⟩ := q; exact ⟨q0, q1, qP, va_K.moved (u := U) (U := U.calling g mk a) (Vm.Alike.refl U.vm) qK, qD⟩, fun U hU hW => ⟨rfl, by rw [hU], by rw [hU]; exact hPc, va_K.moved hW.alike hK, hDc.weaken (fun _ _ _ _ => trivial)⟩⟩ rfl rfl hl.1 rfl (lv_room (Nat.le_of_ble_eq_true rfl)) dX7_length_6 ⟨(Nat.zero_le _), (Nat.zero_le _)⟩) hS (fun q _ h => hFc q h) hFc (fun r1 u t H1 locs ht hvm hw hB hz1 hk1 hS => ?_)
  obtain ⟨hP1, -, hD1⟩ := hB
  try dsimp only at hw
  rw [ht] at hP1
  obtain ⟨hP, hD⟩ := va_join (wr := [(a7, .inr (7, [.ref a6, .ref a2, .ref a5, .ref a4, .ref a0, .ref a1, .ref a3])), (a6, .inr (6, [.int v6_end, .int v6_bends, .ref a6_from, .ref a6_to, .ref a6_curve])), (a2, .inr (2, [.int v2_count, .int v2_masts, .ref a2_place, .ref a2_price, .ref a2_trackAside, .ref a2_side, .ref a2_stands, .ref a2_mastPeg]))]) (w1 := []) hP hD [] [0, 1, 2] rfl rfl (by decide) (by decide) hk1 hFc hP1 hD1
  generalize H1 = H at hP hS ⊢
  have hP : va_P (dC, dI) vwCl [(a7, .inr (7, [.ref a6, .ref a2, .ref a5, .ref a4, .ref a0, .ref a1, .ref a3])), (a6, .inr (6, [.int v6_end, .int v6_bends, .ref a6_from, .ref a6_to, .ref a6_curve])), (a2, .inr (2, [.int v2_count, .int v2_masts, .ref a2_place, .ref a2_price, .ref a2_trackAside, .ref a2_side, .ref a2_stands, .ref a2_mastPeg]))] H := hP
  have hD : va_D A [(a7, .inr (7, [.ref a6, .ref a2, .ref a5, .ref a4, .ref a0, .ref a1, .ref a3])), (a6, .inr (6, [.int v6_end, .int v6_bends, .ref a6_from, .ref a6_to, .ref a6_curve])), (a2, .inr (2, [.int v2_count, .int v2_masts, .ref a2_place, .ref a2_price, .ref a2_trackAside, .ref a2_side, .ref a2_stands, .ref a2_mastPeg]))] := hD
  refine lv_if_ne (tgt := 15) hx hb dX7_length_9 (by decide) (fun c2 => ?_) (fun c2 => ?_)
  · replace hw := hw.2 (c2)
    refine lv_aload_n hx hb dX7_length_15 rfl (lv_at hl 0 rfl) ?_
    refine va_get (D := (dC, dI)) (ci := 7) (v := .ref a2) (C := RX7) (T := TX7) (N := 7) hx hb hts inX7_length_X7 hown hK hP 0 rfl rfl 1 (by decide) lk1 (fun _ h9 => h9) rfl dX7_length_16 ?_
    refine va_get (D := (dC, dI)) (ci := 2) (v := .int v2_count) (C := RX2) (T := TX2) (N := 8) hx hb hts inX7_length_X2 hown hK hP 2 rfl rfl 0 (by decide) lk2 (fun _ h9 => h9) rfl dX7_length_19 ?_
    refine lv_if_le (tgt := 28) hx hb dX7_length_22 (by decide) (fun c3 => ?_) (fun c3 => ?_)
    · replace hw := hw.1 (c3)
      refine lv_aload_n hx hb dX7_length_28 rfl (lv_at hl 0 rfl) ?_
      refine va_get (D := (dC, dI)) (ci := 7) (v := .ref a6) (C := RX7) (T := TX7) (N := 7) hx hb hts inX7_length_X7 hown hK hP 0 rfl rfl 0 (by decide) lk3 (fun _ h9 => h9) rfl dX7_length_29 ?_
      refine va_get (D := (dC, dI)) (ci := 6) (v := .int v6_end) (C := RX6) (T := TX6) (N := 5) hx hb hts inX7_length_X6 hown hK hP 1 rfl rfl 0 (by decide) lk4 (fun _ h9 => h9) rfl dX7_length_32 ?_
      refine lv_istore_n (lv' := [(2, .int v6_end), (0, .ref a7), (1, .int p1)]) hx hb dX7_length_35 rfl hl (by decide) rfl (fun ls hl => ?_)
      refine lv_aload_n hx hb dX7_length_36 rfl (lv_at hl 1 rfl) ?_
      refine va_get (D := (dC, dI)) (ci := 7) (v := .ref a6) (C := RX7) (T := TX7) (N := 7) hx hb hts inX7_length_X7 hown hK hP 0 rfl rfl 0 (by decide) lk3 (fun _ h9 => h9) rfl dX7_length_37 ?_
      refine lv_iload_n hx hb dX7_length_40 rfl (lv_at hl 2 rfl) ?_
      refine va_put (D := (dC, dI)) (ci := 6) (v := .int p1) (ty := .int) (C := RX6) (T := TX6) (N := 5) hx hb hts inX7_length_X6 tyX6 tyX6_ok nmX6 hown hK hP hD hS 1 rfl rfl 0 (by decide) lk4 (fun _ h9 => h9) rfl (by decide +kernel) rfl rfl (Nat.le_of_ble_eq_true rfl) dX7_length_41 (fun H locs hP hD hS => ?_)
      have hP : va_P (dC, dI) vwCl [(a7, .inr (7, [.ref a6, .ref a2, .ref a5, .ref a4, .ref a0, .ref a1, .ref a3])), (a6, .inr (6, [.int p1, .int v6_bends, .ref a6_from, .ref a6_to, .ref a6_curve])), (a2, .inr (2, [.int v2_count, .int v2_masts, .ref a2_place, .ref a2_price, .ref a2_trackAside, .ref a2_side, .ref a2_stands, .ref a2_mastPeg]))] H := hP
      have hD : va_D A [(a7, .inr (7, [.ref a6, .ref a2, .ref a5, .ref a4, .ref a0, .ref a1, .ref a3])), (a6, .inr (6, [.int p1, .int v6_bends, .ref a6_from, .ref a6_to, .ref a6_curve])), (a2, .inr (2, [.int v2_count, .int v2_masts, .ref a2_place, .ref a2_price, .ref a2_trackAside, .ref a2_side, .ref a2_stands, .ref a2_mastPeg]))] := hD
      refine lv_aload_n hx hb dX7_length_44 rfl (lv_at hl 1 rfl) ?_
      refine va_get (D := (dC, dI)) (ci := 7) (v := .ref a6) (C := RX7) (T := TX7) (N := 7) hx hb hts inX7_length_X7 hown hK hP 0 rfl rfl 0 (by decide) lk3 (fun _ h9 => h9) rfl dX7_length_45 ?_
      refine lv_iconst (v := (0 : Int32)) hx hb dX7_length_48 (by decide) ?_
      refine va_put (D := (dC, dI)) (ci := 6) (v := .int (0 : Int32)) (ty := .int) (C := RX6) (T := TX6) (N := 5) hx hb hts inX7_length_X6 tyX6 tyX6_ok nmX6 hown hK hP hD hS 1 rfl rfl 1 (by decide) lk5 (fun _ h9 => h9) rfl (by decide +kernel) rfl rfl (Nat.le_of_ble_eq_true rfl) dX7_length_49 (fun H locs hP hD hS => ?_)
      have hP : va_P (dC, dI) vwCl [(a7, .inr (7, [.ref a6, .ref a2, .ref a5, .ref a4, .ref a0, .ref a1, .ref a3])), (a6, .inr (6, [.int p1, .int (0 : Int32), .ref a6_from, .ref a6_to, .ref a6_curve])), (a2, .inr (2, [.int v2_count, .int v2_masts, .ref a2_place, .ref a2_price, .ref a2_trackAside, .ref a2_side, .ref a2_stands, .ref a2_mastPeg]))] H := hP
      have hD : va_D A [(a7, .inr (7, [.ref a6, .ref a2, .ref a5, .ref a4, .ref a0, .ref a1, .ref a3])), (a6, .inr (6, [.int p1, .int (0 : Int32), .ref a6_from, .ref a6_to, .ref a6_curve])), (a2, .inr (2, [.int v2_count, .int v2_masts, .ref a2_place, .ref a2_price, .ref a2_trackAside, .ref a2_side, .ref a2_stands, .ref a2_mastPeg]))] := hD
      refine lv_iload_n hx hb dX7_length_52 rfl (lv_at hl 0 rfl) ?_
      have hP9 := hP.sub (ws' := [(a7, .inr (7, [.ref a6, .ref a2, .ref a5, .ref a4, .ref a0, .ref a1, .ref a3])), (a6, .inr (6, [.int p1, .int (0 : Int32), .ref a6_from, .ref a6_to, .ref a6_curve])), (a2, .inr (2, [.int v2_count, .int v2_masts, .ref a2_place, .ref a2_price, .ref a2_trackAside, .ref a2_side, .ref a2_stands, .ref a2_mastPeg]))]) [0, 1, 2] rfl
      have hD9 := hD.sub (ws' := [(a7, .inr (7, [.ref a6, .ref a2, .ref a5, .ref a4, .ref a0, .ref a1, .ref a3])), (a6, .inr (6, [.int p1, .int (0 : Int32), .ref a6_from, .ref a6_to, .ref a6_curve])), (a2, .inr (2, [.int v2_count, .int v2_masts, .ref a2_place, .ref a2_price, .ref a2_trackAside, .ref a2_side, .ref a2_stands, .ref a2_mastPeg]))]) [0, 1, 2] (by decide) rfl
      exact W.iret (v := v6_end) hx hb hr (fun t ht hW => ⟨⟨v6_end, (p1, (0 : Int32)), rfl, hw, by rw [ht]; exact hP9, va_K.moved hW.alike hK, hD9⟩, hS.F ht⟩) hS.2.2 dX7_length_53
    · replace hw := hw.2 (c3)
      refine lv_bipush (v := (-3 : Int32)) hx hb dX7_length_25 (by decide) ?_
      have hP9 := hP.sub (ws' := [(a7, .inr (7, [.ref a6, .ref a2, .ref a5, .ref a4, .ref a0, .ref a1, .ref a3])), (a6, .inr (6, [.int v6_end, .int v6_bends, .ref a6_from, .ref a6_to, .ref a6_curve])), (a2, .inr (2, [.int v2_count, .int v2_masts, .ref a2_place, .ref a2_price, .ref a2_trackAside, .ref a2_side, .ref a2_stands, .ref a2_mastPeg]))]) [0, 1, 2] rfl
      have hD9 := hD.sub (ws' := [(a7, .inr (7, [.ref a6, .ref a2, .ref a5, .ref a4, .ref a0, .ref a1, .ref a3])), (a6, .inr (6, [.int v6_end, .int v6_bends, .ref a6_from, .ref a6_to, .ref a6_curve])), (a2, .inr (2, [.int v2_count, .int v2_masts, .ref a2_place, .ref a2_price, .ref a2_trackAside, .ref a2_side, .ref a2_stands, .ref a2_mastPeg]))]) [0, 1, 2] (by decide) rfl
      exact W.iret (v := (-3 : Int32)) hx hb hr (fun t ht hW => ⟨⟨(-3 : Int32), (v6_end, v6_bends), rfl, hw, by rw [ht]; exact hP9, va_K.moved hW.alike hK, hD9⟩, hS.F ht⟩) hS.2.2 dX7_length_27
  · replace hw := hw.1 (c2)
    refine lv_bipush (v := (-2 : Int32)) hx hb dX7_length_12 (by decide) ?_
    have hP9 := hP.sub (ws' := [(a7, .inr (7, [.ref a6, .ref a2, .ref a5, .ref a4, .ref a0, .ref a1, .ref a3])), (a6, .inr (6, [.int v6_end, .int v6_bends, .ref a6_from, .ref a6_to, .ref a6_curve])), (a2, .inr (2, [.int v2_count, .int v2_masts, .ref a2_place, .ref a2_price, .ref a2_trackAside, .ref a2_side, .ref a2_stands, .ref a2_mastPeg]))]) [0, 1, 2] rfl
    have hD9 := hD.sub (ws' := [(a7, .inr (7, [.ref a6, .ref a2, .ref a5, .ref a4, .ref a0, .ref a1, .ref a3])), (a6, .inr (6, [.int v6_end, .int v6_bends, .ref a6_from, .ref a6_to, .ref a6_curve])), (a2, .inr (2, [.int v2_count, .int v2_masts, .ref a2_place, .ref a2_price, .ref a2_trackAside, .ref a2_side, .ref a2_stands, .ref a2_mastPeg]))]) [0, 1, 2] (by decide) rfl
    exact W.iret (v := (-2 : Int32)) hx hb hr (fun t ht hW => ⟨⟨(-2 : Int32), (v6_end, v6_bends), rfl, hw, by rw [ht]; exact hP9, va_K.moved hW.alike hK, hD9⟩, hS.F ht⟩) hS.2.2 dX7_length_14

theorem inX7_bend_X7 : ∀ w ∈ wsX70, w ∈ wsX7_bend := fun _ h => List.mem_cons_of_mem _ (List.mem_append_left _ (List.mem_append_left _ (List.mem_append_right _ h)))
theorem inX7_bend_X6 : ∀ w ∈ wsX60, w ∈ wsX7_bend := fun _ h => List.mem_cons_of_mem _ (List.mem_append_left _ (List.mem_append_right _ h))
theorem inX7_bend_X2 : ∀ w ∈ wsX20, w ∈ wsX7_bend := fun _ h => List.mem_cons_of_mem _ (List.mem_append_right _ h)
def wp_X7_bend (Q : Int32 → (Int32) → (Nat → Int32) → (Nat → Int32) → (Nat → Int32) → Prop) (v6_end : Int32) (v6_bends : Int32) (f6_from : Nat → Int32) (f6_to : Nat → Int32) (f6_curve : Nat → Int32) (v2_count : Int32) (p1 : Int32) (p2 : Int32) (p3 : Int32) : Prop :=
  ((p1 < 0 → (Q (-2 : Int32) v6_bends f6_from f6_to f6_curve)) ∧ (¬ p1 < 0 → ((p2 ≤ p1 → (Q (-2 : Int32) v6_bends f6_from f6_to f6_curve)) ∧ (¬ p2 ≤ p1 → ((v6_end < p2 → (Q (-2 : Int32) v6_bends f6_from f6_to f6_curve)) ∧ (¬ v6_end < p2 → (wp_X7_within (fun r4 => ((r4 = 0 → (Q (-2 : Int32) v6_bends f6_from f6_to f6_curve)) ∧ (¬ r4 = 0 → ((v2_count ≤ 0 → ((v6_bends < (8 : Int32) → (wp_X6_isBentWithin (fun r8 => ((r8 = 0 → (wp_X6_insert (fun m11 m12 m13 m14 => (Q m11 m11 m12 m13 m14)) v6_bends f6_from f6_to f6_curve p1 p2 p3)) ∧ (¬ r8 = 0 → (Q (-5 : Int32) v6_bends f6_from f6_to f6_curve)))) v6_bends f6_from f6_to p1 p2)) ∧ (¬ v6_bends < (8 : Int32) → (Q (-4 : Int32) v6_bends f6_from f6_to f6_curve)))) ∧ (¬ v2_count ≤ 0 → (Q (-3 : Int32) v6_bends f6_from f6_to f6_curve)))))) p3 (-50 : Int32) (50 : Int32))))))))
set_option maxHeartbeats 4000000 in
set_option maxRecDepth 100000 in
theorem c_X7_bend (l : Launch) (dC : Nat → ClassId) (dI : Nat → Nat → Nat) (cI cJ cZ : ClassId) (a7 : Nat) (a6 : Nat) (a6_from : Nat) (a6_to : Nat) (a6_curve : Nat) (a2 : Nat) (a2_place : Nat) (a2_price : Nat) (a2_trackAside : Nat) (a2_side : Nat) (a2_stands : Nat) (a2_mastPeg : Nat) (a5 : Nat) (a4 : Nat) (a0 : Nat) (a1 : Nat) (a3 : Nat) (sz : Nat) (v6_end : Int32) (v6_bends : Int32) (f6_from : Nat → Int32) (f6_to : Nat → Int32) (f6_curve : Nat → Int32) (v2_count : Int32) (v2_masts : Int32) (p1 : Int32) (p2 : Int32) (p3 : Int32) (Q : Int32 → (Int32) → (Nat → Int32) → (Nat → Int32) → (Nat → Int32) → Prop) (hw : wp_X7_bend Q v6_end v6_bends f6_from f6_to f6_curve v2_count p1 p2 p3) : Met l yX7_bend wsX7_bend ({ frames := 1, cells := 0, slots := 0, locals := 24 } : Room) (va_Pc [.ref a7, .int p1, .int p2, .int p3] (fun U => U.heap.size = sz ∧ va_P (dC, dI) vwCl [(a7, .inr (7, [.ref a6, .ref a2, .ref a5, .ref a4, .ref a0, .ref a1, .ref a3])), (a6, .inr (6, [.int v6_end, .int v6_bends, .ref a6_from, .ref a6_to, .ref a6_curve])), (a6_from, .inl (cI, 8, .inl f6_from)), (a6_to, .inl (cI, 8, .inl f6_to)), (a6_curve, .inl (cI, 8, .inl f6_curve)), (a2, .inr (2, [.int v2_count, .int v2_masts, .ref a2_place, .ref a2_price, .ref a2_trackAside, .ref a2_side, .ref a2_stands, .ref a2_mastPeg]))] U.heap ∧ va_K (dC, dI) vwCl [(cI, .int), (cJ, .long), (cZ, .boolean)] U ∧ va_D (fun _ => True) [(a7, .inr (7, [.ref a6, .ref a2, .ref a5, .ref a4, .ref a0, .ref a1, .ref a3])), (a6, .inr (6, [.int v6_end, .int v6_bends, .ref a6_from, .ref a6_to, .ref a6_curve])), (a6_from, .inl (cI, 8, .inl f6_from)), (a6_to, .inl (cI, 8, .inl f6_to)), (a6_curve, .inl (cI, 8, .inl f6_curve)), (a2, .inr (2, [.int v2_count, .int v2_masts, .ref a2_place, .ref a2_price, .ref a2_trackAside, .ref a2_side, .ref a2_stands, .ref a2_mastPeg]))])) (va_Qi (fun r (u : (Int32) × (Nat → Int32) × (Nat → Int32) × (Nat → Int32)) => Q r u.1 u.2.1 u.2.2.1 u.2.2.2) (fun (u : (Int32) × (Nat → Int32) × (Nat → Int32) × (Nat → Int32)) t => va_P (dC, dI) vwCl [(a7, .inr (7, [.ref a6, .ref a2, .ref a5, .ref a4, .ref a0, .ref a1, .ref a3])), (a6, .inr (6, [.int v6_end, .int u.1, .ref a6_from, .ref a6_to, .ref a6_curve])), (a6_from, .inl (cI, 8, .inl u.2.1)), (a6_to, .inl (cI, 8, .inl u.2.2.1)), (a6_curve, .inl (cI, 8, .inl u.2.2.2)), (a2, .inr (2, [.int v2_count, .int v2_masts, .ref a2_place, .ref a2_price, .ref a2_trackAside, .ref a2_side, .ref a2_stands, .ref a2_mastPeg]))] t.heap ∧ va_K (dC, dI) vwCl [(cI, .int), (cJ, .long), (cZ, .boolean)] t ∧ va_D (va_A [(a7, .inr (7, [.ref a6, .ref a2, .ref a5, .ref a4, .ref a0, .ref a1, .ref a3])), (a6, .inr (6, [.int v6_end, .int v6_bends, .ref a6_from, .ref a6_to, .ref a6_curve])), (a6_from, .inl (cI, 8, .inl f6_from)), (a6_to, .inl (cI, 8, .inl f6_to)), (a6_curve, .inl (cI, 8, .inl f6_curve)), (a2, .inr (2, [.int v2_count, .int v2_masts, .ref a2_place, .ref a2_price, .ref a2_trackAside, .ref a2_side, .ref a2_stands, .ref a2_mastPeg]))] sz) [(a7, .inr (7, [.ref a6, .ref a2, .ref a5, .ref a4, .ref a0, .ref a1, .ref a3])), (a6, .inr (6, [.int v6_end, .int u.1, .ref a6_from, .ref a6_to, .ref a6_curve])), (a6_from, .inl (cI, 8, .inl u.2.1)), (a6_to, .inl (cI, 8, .inl u.2.2.1)), (a6_curve, .inl (cI, 8, .inl u.2.2.2)), (a2, .inr (2, [.int v2_count, .int v2_masts, .ref a2_place, .ref a2_price, .ref a2_trackAside, .ref a2_side, .ref a2_stands, .ref a2_mastPeg]))]) (va_A [(a7, .inr (7, [.ref a6, .ref a2, .ref a5, .ref a4, .ref a0, .ref a1, .ref a3])), (a6, .inr (6, [.int v6_end, .int v6_bends, .ref a6_from, .ref a6_to, .ref a6_curve])), (a6_from, .inl (cI, 8, .inl f6_from)), (a6_to, .inl (cI, 8, .inl f6_to)), (a6_curve, .inl (cI, 8, .inl f6_curve)), (a2, .inr (2, [.int v2_count, .int v2_masts, .ref a2_place, .ref a2_price, .ref a2_trackAside, .ref a2_side, .ref a2_stands, .ref a2_mastPeg]))] sz)) 0 0 (va_A [(a7, .inr (7, [.ref a6, .ref a2, .ref a5, .ref a4, .ref a0, .ref a1, .ref a3])), (a6, .inr (6, [.int v6_end, .int v6_bends, .ref a6_from, .ref a6_to, .ref a6_curve])), (a6_from, .inl (cI, 8, .inl f6_from)), (a6_to, .inl (cI, 8, .inl f6_to)), (a6_curve, .inl (cI, 8, .inl f6_curve)), (a2, .inr (2, [.int v2_count, .int v2_masts, .ref a2_place, .ref a2_price, .ref a2_trackAside, .ref a2_side, .ref a2_stands, .ref a2_mastPeg]))] sz) := by
  refine Met.ofW (cc := cX7_bend) (maxL := 4) (ret := (some .int)) (by decide) rfl ?_
  intro p e s m args below meth c s₁ B hml hv
  obtain ⟨rfl, hsz, hP, hK, hD0⟩ := hv
  have hx := B.exec
  have hb := B.bytes
  have hr := B.returns
  have hts := atoms_spec (ws := wsX7_bend) B.pre
  have hown : s.vm.findClass RX7 = some m.cls := findClass_of_methodNamed B.named
  have hlocks := B.notSynchronized
  subst hsz
  have hD := hD0.self (sz := s.heap.size)
  generalize hAe : va_A [(a7, .inr (7, [.ref a6, .ref a2, .ref a5, .ref a4, .ref a0, .ref a1, .ref a3])), (a6, .inr (6, [.int v6_end, .int v6_bends, .ref a6_from, .ref a6_to, .ref a6_curve])), (a6_from, .inl (cI, 8, .inl f6_from)), (a6_to, .inl (cI, 8, .inl f6_to)), (a6_curve, .inl (cI, 8, .inl f6_curve)), (a2, .inr (2, [.int v2_count, .int v2_masts, .ref a2_place, .ref a2_price, .ref a2_trackAside, .ref a2_side, .ref a2_stands, .ref a2_mastPeg]))] s.heap.size = A at hD ⊢
  have hA : ∀ q : Nat, s.heap.size ≤ q → A q := fun q h => by rw [← hAe]; exact Or.inr h
  have hS : va_S A s.heap s.heap [] := va_S.rf
  have hP : va_P (dC, dI) vwCl [(a7, .inr (7, [.ref a6, .ref a2, .ref a5, .ref a4, .ref a0, .ref a1, .ref a3])), (a6, .inr (6, [.int v6_end, .int v6_bends, .ref a6_from, .ref a6_to, .ref a6_curve])), (a6_from, .inl (cI, 8, .inl f6_from)), (a6_to, .inl (cI, 8, .inl f6_to)), (a6_curve, .inl (cI, 8, .inl f6_curve)), (a2, .inr (2, [.int v2_count, .int v2_masts, .ref a2_place, .ref a2_price, .ref a2_trackAside, .ref a2_side, .ref a2_stands, .ref a2_mastPeg]))] s.heap := hP
  have lk1 := hts (.fieldLink RX7 10 "WireRow" "track" "LWireRow$Track;") (by decide +kernel)
  have lk2 := hts (.fieldLink RX7 70 "WireRow$Track" "end" "I") (by decide +kernel)
  have lk3 := hts (.fieldLink RX7 19 "WireRow" "pegs" "LWireRow$PegRow;") (by decide +kernel)
  have lk4 := hts (.fieldLink RX7 66 "WireRow$PegRow" "count" "I") (by decide +kernel)
  have lk5 := hts (.fieldLink RX7 73 "WireRow$Track" "bends" "I") (by decide +kernel)
  have hl := lv_entry ([.ref a7, .int p1, .int p2, .int p3]) (n := 4) (Nat.le_of_ble_eq_true rfl)
  rw [lg_entry_eq]
  generalize (lg_sl ([.ref a7, .int p1, .int p2, .int p3]) ++ List.replicate (4 - (lg_sl ([.ref a7, .int p1, .int p2, .int p3])).length) Slot.unset).toArray = ls at hl ⊢
  have hl : lv_has ls 4 [(0, .ref a7), (1, .int p1), (2, .int p2), (3, .int p3)] := hl
  obtain ⟨H, hHe⟩ : ∃ H, H = s.heap := ⟨_, rfl⟩
  rw [← hHe] at hP
  have hS : va_S A s.heap H [] := by rw [hHe]; exact hS
  rw [← hHe]
  unfold wp_X7_bend at hw
  refine lv_iload_n hx hb dX7_bend_0 rfl (lv_at hl 1 rfl) ?_
  refine lv_if_lt (tgt := 31) hx hb dX7_bend_1 (by decide) (fun c1 => ?_) (fun c1 => ?_)
  · replace hw := hw.1 (c1)
    refine lv_bipush (v := (-2 : Int32)) hx hb dX7_bend_31 (by decide) ?_
    have hP9 := hP.sub (ws' := [(a7, .inr (7, [.ref a6, .ref a2, .ref a5, .ref a4, .ref a0, .ref a1, .ref a3])), (a6, .inr (6, [.int v6_end, .int v6_bends, .ref a6_from, .ref a6_to, .ref a6_curve])), (a6_from, .inl (cI, 8, .inl f6_from)), (a6_to, .inl (cI, 8, .inl f6_to)), (a6_curve, .inl (cI, 8, .inl f6_curve)), (a2, .inr (2, [.int v2_count, .int v2_masts, .ref a2_place, .ref a2_price, .ref a2_trackAside, .ref a2_side, .ref a2_stands, .ref a2_mastPeg]))]) [0, 1, 2, 3, 4, 5] rfl
    have hD9 := hD.sub (ws' := [(a7, .inr (7, [.ref a6, .ref a2, .ref a5, .ref a4, .ref a0, .ref a1, .ref a3])), (a6, .inr (6, [.int v6_end, .int v6_bends, .ref a6_from, .ref a6_to, .ref a6_curve])), (a6_from, .inl (cI, 8, .inl f6_from)), (a6_to, .inl (cI, 8, .inl f6_to)), (a6_curve, .inl (cI, 8, .inl f6_curve)), (a2, .inr (2, [.int v2_count, .int v2_masts, .ref a2_place, .ref a2_price, .ref a2_trackAside, .ref a2_side, .ref a2_stands, .ref a2_mastPeg]))]) [0, 1, 2, 3, 4, 5] (by decide) rfl
    exact W.iret (v := (-2 : Int32)) hx hb hr (fun t ht hW => ⟨⟨(-2 : Int32), (v6_bends, f6_from, f6_to, f6_curve), rfl, hw, by rw [ht]; exact hP9, va_K.moved hW.alike hK, hD9⟩, hS.F ht⟩) hS.2.2 dX7_bend_33
  · replace hw := hw.2 (c1)
    refine lv_iload_n hx hb dX7_bend_4 rfl (lv_at hl 1 rfl) ?_
    refine lv_iload_n hx hb dX7_bend_5 rfl (lv_at hl 2 rfl) ?_
    refine lv_icmp_ge (tgt := 31) hx hb dX7_bend_6 (by decide) (fun c2 => ?_) (fun c2 => ?_)
    · replace hw := hw.1 (c2)
      refine lv_bipush (v := (-2 : Int32)) hx hb dX7_bend_31 (by decide) ?_
      have hP9 := hP.sub (ws' := [(a7, .inr (7, [.ref a6, .ref a2, .ref a5, .ref a4, .ref a0, .ref a1, .ref a3])), (a6, .inr (6, [.int v6_end, .int v6_bends, .ref a6_from, .ref a6_to, .ref a6_curve])), (a6_from, .inl (cI, 8, .inl f6_from)), (a6_to, .inl (cI, 8, .inl f6_to)), (a6_curve, .inl (cI, 8, .inl f6_curve)), (a2, .inr (2, [.int v2_count, .int v2_masts, .ref a2_place, .ref a2_price, .ref a2_trackAside, .ref a2_side, .ref a2_stands, .ref a2_mastPeg]))]) [0, 1, 2, 3, 4, 5] rfl
      have hD9 := hD.sub (ws' := [(a7, .inr (7, [.ref a6, .ref a2, .ref a5, .ref a4, .ref a0, .ref a1, .ref a3])), (a6, .inr (6, [.int v6_end, .int v6_bends, .ref a6_from, .ref a6_to, .ref a6_curve])), (a6_from, .inl (cI, 8, .inl f6_from)), (a6_to, .inl (cI, 8, .inl f6_to)), (a6_curve, .inl (cI, 8, .inl f6_curve)), (a2, .inr (2, [.int v2_count, .int v2_masts, .ref a2_place, .ref a2_price, .ref a2_trackAside, .ref a2_side, .ref a2_stands, .ref a2_mastPeg]))]) [0, 1, 2, 3, 4, 5] (by decide) rfl
      exact W.iret (v := (-2 : Int32)) hx hb hr (fun t ht hW => ⟨⟨(-2 : Int32), (v6_bends, f6_from, f6_to, f6_curve), rfl, hw, by rw [ht]; exact hP9, va_K.moved hW.alike hK, hD9⟩, hS.F ht⟩) hS.2.2 dX7_bend_33
    · replace hw := hw.2 (c2)
      refine lv_iload_n hx hb dX7_bend_9 rfl (lv_at hl 2 rfl) ?_
      refine lv_aload_n hx hb dX7_bend_10 rfl (lv_at hl 0 rfl) ?_
      refine va_get (D := (dC, dI)) (ci := 7) (v := .ref a6) (C := RX7) (T := TX7) (N := 7) hx hb hts inX7_bend_X7 hown hK hP 0 rfl rfl 0 (by decide) lk1 (fun _ h9 => h9) rfl dX7_bend_11 ?_
      refine va_get (D := (dC, dI)) (ci := 6) (v := .int v6_end) (C := RX6) (T := TX6) (N := 5) hx hb hts inX7_bend_X6 hown hK hP 1 rfl rfl 0 (by decide) lk2 (fun _ h9 => h9) rfl dX7_bend_14 ?_
      refine lv_icmp_gt (tgt := 31) hx hb dX7_bend_17 (by decide) (fun c3 => ?_) (fun c3 => ?_)
      · replace hw := hw.1 (c3)
        refine lv_bipush (v := (-2 : Int32)) hx hb dX7_bend_31 (by decide) ?_
        have hP9 := hP.sub (ws' := [(a7, .inr (7, [.ref a6, .ref a2, .ref a5, .ref a4, .ref a0, .ref a1, .ref a3])), (a6, .inr (6, [.int v6_end, .int v6_bends, .ref a6_from, .ref a6_to, .ref a6_curve])), (a6_from, .inl (cI, 8, .inl f6_from)), (a6_to, .inl (cI, 8, .inl f6_to)), (a6_curve, .inl (cI, 8, .inl f6_curve)), (a2, .inr (2, [.int v2_count, .int v2_masts, .ref a2_place, .ref a2_price, .ref a2_trackAside, .ref a2_side, .ref a2_stands, .ref a2_mastPeg]))]) [0, 1, 2, 3, 4, 5] rfl
        have hD9 := hD.sub (ws' := [(a7, .inr (7, [.ref a6, .ref a2, .ref a5, .ref a4, .ref a0, .ref a1, .ref a3])), (a6, .inr (6, [.int v6_end, .int v6_bends, .ref a6_from, .ref a6_to, .ref a6_curve])), (a6_from, .inl (cI, 8, .inl f6_from)), (a6_to, .inl (cI, 8, .inl f6_to)), (a6_curve, .inl (cI, 8, .inl f6_curve)), (a2, .inr (2, [.int v2_count, .int v2_masts, .ref a2_place, .ref a2_price, .ref a2_trackAside, .ref a2_side, .ref a2_stands, .ref a2_mastPeg]))]) [0, 1, 2, 3, 4, 5] (by decide) rfl
        exact W.iret (v := (-2 : Int32)) hx hb hr (fun t ht hW => ⟨⟨(-2 : Int32), (v6_bends, f6_from, f6_to, f6_curve), rfl, hw, by rw [ht]; exact hP9, va_K.moved hW.alike hK, hD9⟩, hS.F ht⟩) hS.2.2 dX7_bend_33
      · replace hw := hw.2 (c3)
        refine lv_iload_n hx hb dX7_bend_20 rfl (lv_at hl 3 rfl) ?_
        refine lv_bipush (v := (-50 : Int32)) hx hb dX7_bend_21 (by decide) ?_
        refine lv_bipush (v := (50 : Int32)) hx hb dX7_bend_23 (by decide) ?_
        have hPc := hP.sub (ws' := []) [] rfl
        have hDc := hD.sub (ws' := []) [] (by decide) rfl
        have hFc := va_free (wc := []) hD hS hA [] rfl
        refine va_calli (va_runS (As := [.int p3, .int (-50 : Int32), .int (50 : Int32)]) (rest := []) ⟨hx, hb, hml, hown, hts⟩ (c_X7_within l dC dI cI cJ cZ H.size p3 (-50 : Int32) (50 : Int32) _ hw) (va_cwS 3 hts gX7_bend_X7_within rfl rfl rfl (by decide +kernel) ⟨Nat.le_of_ble_eq_true rfl, Nat.le_of_ble_eq_true rfl⟩) ⟨fun a U g mk q => by obtain ⟨q0, q1, qP, qK, qD⟩ := q; exact ⟨q0, q1, qP, va_K.moved (u := U) (U := U.calling g mk a) (Vm.Alike.refl U.vm) qK, qD⟩, fun U hU hW => ⟨rfl, by rw [hU], by rw [hU]; exact hPc, va_K.moved hW.alike hK, hDc.weaken (fun _ _ _ _ => trivial)⟩⟩ rfl rfl hl.1 rfl (lv_room (Nat.le_of_ble_eq_true rfl)) dX7_bend_25 ⟨(Nat.zero_le _), (Nat.zero_le _)⟩) hS (fun q _ h => hFc q h) hFc (fun r4 u t H1 locs ht hvm hw hB hz1 hk1 hS => ?_)
        obtain ⟨hP1, -, hD1⟩ := hB
        try dsimp only at hw
        rw [ht] at hP1
        obtain ⟨hP, hD⟩ := va_join (wr := [(a7, .inr (7, [.ref a6, .ref a2, .ref a5, .ref a4, .ref a0, .ref a1, .ref a3])), (a6, .inr (6, [.int v6_end, .int v6_bends, .ref a6_from, .ref a6_to, .ref a6_curve])), (a6_from, .inl (cI, 8, .inl f6_from)), (a6_to, .inl (cI, 8, .inl f6_to)), (a6_curve, .inl (cI, 8, .inl f6_curve)), (a2, .inr (2, [.int v2_count, .int v2_masts, .ref a2_place, .ref a2_price, .ref a2_trackAside, .ref a2_side, .ref a2_stands, .ref a2_mastPeg]))]) (w1 := []) hP hD [] [0, 1, 2, 3, 4, 5] rfl rfl (by decide) (by decide) hk1 hFc hP1 hD1
        generalize H1 = H at hP hS ⊢
        have hP : va_P (dC, dI) vwCl [(a7, .inr (7, [.ref a6, .ref a2, .ref a5, .ref a4, .ref a0, .ref a1, .ref a3])), (a6, .inr (6, [.int v6_end, .int v6_bends, .ref a6_from, .ref a6_to, .ref a6_curve])), (a6_from, .inl (cI, 8, .inl f6_from)), (a6_to, .inl (cI, 8, .inl f6_to)), (a6_curve, .inl (cI, 8, .inl f6_curve)), (a2, .inr (2, [.int v2_count, .int v2_masts, .ref a2_place, .ref a2_price, .ref a2_trackAside, .ref a2_side, .ref a2_stands, .ref a2_mastPeg]))] H := hP
        have hD : va_D A [(a7, .inr (7, [.ref a6, .ref a2, .ref a5, .ref a4, .ref a0, .ref a1, .ref a3])), (a6, .inr (6, [.int v6_end, .int v6_bends, .ref a6_from, .ref a6_to, .ref a6_curve])), (a6_from, .inl (cI, 8, .inl f6_from)), (a6_to, .inl (cI, 8, .inl f6_to)), (a6_curve, .inl (cI, 8, .inl f6_curve)), (a2, .inr (2, [.int v2_count, .int v2_masts, .ref a2_place, .ref a2_price, .ref a2_trackAside, .ref a2_side, .ref a2_stands, .ref a2_mastPeg]))] := hD
        refine lv_if_ne (tgt := 34) hx hb dX7_bend_28 (by decide) (fun c5 => ?_) (fun c5 => ?_)
        · replace hw := hw.2 (c5)
          refine lv_aload_n hx hb dX7_bend_34 rfl (lv_at hl 0 rfl) ?_
          refine va_get (D := (dC, dI)) (ci := 7) (v := .ref a2) (C := RX7) (T := TX7) (N := 7) hx hb hts inX7_bend_X7 hown hK hP 0 rfl rfl 1 (by decide) lk3 (fun _ h9 => h9) rfl dX7_bend_35 ?_
          refine va_get (D := (dC, dI)) (ci := 2) (v := .int v2_count) (C := RX2) (T := TX2) (N := 8) hx hb hts inX7_bend_X2 hown hK hP 5 rfl rfl 0 (by decide) lk4 (fun _ h9 => h9) rfl dX7_bend_38 ?_
          refine lv_if_le (tgt := 47) hx hb dX7_bend_41 (by decide) (fun c6 => ?_) (fun c6 => ?_)
          · replace hw := hw.1 (c6)
            refine lv_aload_n hx hb dX7_bend_47 rfl (lv_at hl 0 rfl) ?_
            refine va_get (D := (dC, dI)) (ci := 7) (v := .ref a6) (C := RX7) (T := TX7) (N := 7) hx hb hts inX7_bend_X7 hown hK hP 0 rfl rfl 0 (by decide) lk1 (fun _ h9 => h9) rfl dX7_bend_48 ?_
            refine va_get (D := (dC, dI)) (ci := 6) (v := .int v6_bends) (C := RX6) (T := TX6) (N := 5) hx hb hts inX7_bend_X6 hown hK hP 1 rfl rfl 1 (by decide) lk5 (fun _ h9 => h9) rfl dX7_bend_51 ?_
            refine lv_bipush (v := (8 : Int32)) hx hb dX7_bend_54 (by decide) ?_
            refine lv_icmp_lt (tgt := 62) hx hb dX7_bend_56 (by decide) (fun c7 => ?_) (fun c7 => ?_)
            · replace hw := hw.1 (c7)
              refine lv_aload_n hx hb dX7_bend_62 rfl (lv_at hl 0 rfl) ?_
              refine va_get (D := (dC, dI)) (ci := 7) (v := .ref a6) (C := RX7) (T := TX7) (N := 7) hx hb hts inX7_bend_X7 hown hK hP 0 rfl rfl 0 (by decide) lk1 (fun _ h9 => h9) rfl dX7_bend_63 ?_
              refine lv_iload_n hx hb dX7_bend_66 rfl (lv_at hl 1 rfl) ?_
              refine lv_iload_n hx hb dX7_bend_67 rfl (lv_at hl 2 rfl) ?_
              have hPc := hP.sub (ws' := [(a6, .inr (6, [.int v6_end, .int v6_bends, .ref a6_from, .ref a6_to, .ref a6_curve])), (a6_from, .inl (cI, 8, .inl f6_from)), (a6_to, .inl (cI, 8, .inl f6_to))]) [1, 2, 3] rfl
              have hDc := hD.sub (ws' := [(a6, .inr (6, [.int v6_end, .int v6_bends, .ref a6_from, .ref a6_to, .ref a6_curve])), (a6_from, .inl (cI, 8, .inl f6_from)), (a6_to, .inl (cI, 8, .inl f6_to))]) [1, 2, 3] (by decide) rfl
              have hFc := va_free (wc := [(a6, .inr (6, [.int v6_end, .int v6_bends, .ref a6_from, .ref a6_to, .ref a6_curve])), (a6_from, .inl (cI, 8, .inl f6_from)), (a6_to, .inl (cI, 8, .inl f6_to))]) hD hS hA [1, 2, 3] rfl
              refine va_calli (va_runV (As := [.int p1, .int p2]) (rest := []) ⟨hx, hb, hml, hown, hts⟩ (c_X6_isBentWithin l dC dI cI cJ cZ a6 a6_from a6_to a6_curve H.size v6_end v6_bends f6_from f6_to p1 p2 _ hw) (cwV 2 hts gX7_bend_X6_isBentWithin rfl rfl rfl (by decide +kernel) ⟨Nat.le_of_ble_eq_true rfl, Nat.le_of_ble_eq_true rfl⟩) ⟨fun a U g mk q => by obtain ⟨q0, q1, qP, qK, qD⟩ := q; exact ⟨q0, q1, qP, va_K.moved (u := U) (U := U.calling g mk a) (Vm.Alike.refl U.vm) qK, qD⟩, va_recv hK hP (ci := 6) (q0 := 1) rfl rfl, fun U hU hW => ⟨rfl, by rw [hU], by rw [hU]; exact hPc, va_K.moved hW.alike hK, hDc.weaken (fun _ _ _ _ => trivial)⟩⟩ rfl rfl hl.1 rfl (lv_room (Nat.le_of_ble_eq_true rfl)) dX7_bend_68 ⟨(Nat.zero_le _), (Nat.zero_le _)⟩) hS (fun q _ h => hFc q h) hFc (fun r8 u t H1 locs ht hvm hw hB hz1 hk1 hS => ?_)
              obtain ⟨hP1, -, hD1⟩ := hB
              try dsimp only at hw
              rw [ht] at hP1
              obtain ⟨hP, hD⟩ := va_join (wr := [(a7, .inr (7, [.ref a6, .ref a2, .ref a5, .ref a4, .ref a0, .ref a1, .ref a3])), (a6_curve, .inl (cI, 8, .inl f6_curve)), (a2, .inr (2, [.int v2_count, .int v2_masts, .ref a2_place, .ref a2_price, .ref a2_trackAside, .ref a2_side, .ref a2_stands, .ref a2_mastPeg]))]) (w1 := [(a6, .inr (6, [.int v6_end, .int v6_bends, .ref a6_from, .ref a6_to, .ref a6_curve])), (a6_from, .inl (cI, 8, .inl f6_from)), (a6_to, .inl (cI, 8, .inl f6_to))]) hP hD [1, 2, 3] [0, 4, 5] rfl rfl (by decide) (by decide) hk1 hFc hP1 hD1
              generalize H1 = H at hP hS ⊢
              have hP : va_P (dC, dI) vwCl [(a7, .inr (7, [.ref a6, .ref a2, .ref a5, .ref a4, .ref a0, .ref a1, .ref a3])), (a6_curve, .inl (cI, 8, .inl f6_curve)), (a2, .inr (2, [.int v2_count, .int v2_masts, .ref a2_place, .ref a2_price, .ref a2_trackAside, .ref a2_side, .ref a2_stands, .ref a2_mastPeg])), (a6, .inr (6, [.int v6_end, .int v6_bends, .ref a6_from, .ref a6_to, .ref a6_curve])), (a6_from, .inl (cI, 8, .inl f6_from)), (a6_to, .inl (cI, 8, .inl f6_to))] H := hP
              have hD : va_D A [(a7, .inr (7, [.ref a6, .ref a2, .ref a5, .ref a4, .ref a0, .ref a1, .ref a3])), (a6_curve, .inl (cI, 8, .inl f6_curve)), (a2, .inr (2, [.int v2_count, .int v2_masts, .ref a2_place, .ref a2_price, .ref a2_trackAside, .ref a2_side, .ref a2_stands, .ref a2_mastPeg])), (a6, .inr (6, [.int v6_end, .int v6_bends, .ref a6_from, .ref a6_to, .ref a6_curve])), (a6_from, .inl (cI, 8, .inl f6_from)), (a6_to, .inl (cI, 8, .inl f6_to))] := hD
              refine lv_if_eq (tgt := 77) hx hb dX7_bend_71 (by decide) (fun c9 => ?_) (fun c9 => ?_)
              · replace hw := hw.1 (c9)
                refine lv_aload_n hx hb dX7_bend_77 rfl (lv_at hl 0 rfl) ?_
                refine va_get (D := (dC, dI)) (ci := 7) (v := .ref a6) (C := RX7) (T := TX7) (N := 7) hx hb hts inX7_bend_X7 hown hK hP 0 rfl rfl 0 (by decide) lk1 (fun _ h9 => h9) rfl dX7_bend_78 ?_
                refine lv_iload_n hx hb dX7_bend_81 rfl (lv_at hl 1 rfl) ?_
                refine lv_iload_n hx hb dX7_bend_82 rfl (lv_at hl 2 rfl) ?_
                refine lv_iload_n hx hb dX7_bend_83 rfl (lv_at hl 3 rfl) ?_
                have hPc := hP.sub (ws' := [(a6, .inr (6, [.int v6_end, .int v6_bends, .ref a6_from, .ref a6_to, .ref a6_curve])), (a6_from, .inl (cI, 8, .inl f6_from)), (a6_to, .inl (cI, 8, .inl f6_to)), (a6_curve, .inl (cI, 8, .inl f6_curve))]) [3, 4, 5, 1] rfl
                have hDc := hD.sub (ws' := [(a6, .inr (6, [.int v6_end, .int v6_bends, .ref a6_from, .ref a6_to, .ref a6_curve])), (a6_from, .inl (cI, 8, .inl f6_from)), (a6_to, .inl (cI, 8, .inl f6_to)), (a6_curve, .inl (cI, 8, .inl f6_curve))]) [3, 4, 5, 1] (by decide) rfl
                have hFc := va_free (wc := [(a6, .inr (6, [.int v6_end, .int v6_bends, .ref a6_from, .ref a6_to, .ref a6_curve])), (a6_from, .inl (cI, 8, .inl f6_from)), (a6_to, .inl (cI, 8, .inl f6_to)), (a6_curve, .inl (cI, 8, .inl f6_curve))]) hD hS hA [3, 4, 5, 1] rfl
                refine va_callv (va_runV (As := [.int p1, .int p2, .int p3]) (rest := []) ⟨hx, hb, hml, hown, hts⟩ (c_X6_insert l dC dI cI cJ cZ a6 a6_from a6_to a6_curve H.size v6_end v6_bends f6_from f6_to f6_curve p1 p2 p3 _ hw) (cwV 3 hts gX7_bend_X6_insert rfl rfl rfl (by decide +kernel) ⟨Nat.le_of_ble_eq_true rfl, Nat.le_of_ble_eq_true rfl⟩) ⟨fun a U g mk q => by obtain ⟨q0, q1, qP, qK, qD⟩ := q; exact ⟨q0, q1, qP, va_K.moved (u := U) (U := U.calling g mk a) (Vm.Alike.refl U.vm) qK, qD⟩, va_recv hK hP (ci := 6) (q0 := 3) rfl rfl, fun U hU hW => ⟨rfl, by rw [hU], by rw [hU]; exact hPc, va_K.moved hW.alike hK, hDc.weaken (fun _ _ _ _ => trivial)⟩⟩ rfl rfl hl.1 rfl (lv_room (Nat.le_of_ble_eq_true rfl)) dX7_bend_84 ⟨(Nat.zero_le _), (Nat.zero_le _)⟩) hS (fun q _ h => hFc q h) hFc (fun u t H1 locs ht hvm hw hB hz1 hk1 hS => ?_)
                obtain ⟨m11, m12, m13, m14⟩ := u
                obtain ⟨hP1, -, hD1⟩ := hB
                try dsimp only at hw
                rw [ht] at hP1
                obtain ⟨hP, hD⟩ := va_join (wr := [(a7, .inr (7, [.ref a6, .ref a2, .ref a5, .ref a4, .ref a0, .ref a1, .ref a3])), (a2, .inr (2, [.int v2_count, .int v2_masts, .ref a2_place, .ref a2_price, .ref a2_trackAside, .ref a2_side, .ref a2_stands, .ref a2_mastPeg]))]) (w1 := [(a6, .inr (6, [.int v6_end, .int m11, .ref a6_from, .ref a6_to, .ref a6_curve])), (a6_from, .inl (cI, 8, .inl m12)), (a6_to, .inl (cI, 8, .inl m13)), (a6_curve, .inl (cI, 8, .inl m14))]) hP hD [3, 4, 5, 1] [0, 2] rfl rfl (by decide) (by decide) hk1 hFc hP1 hD1
                generalize H1 = H at hP hS ⊢
                have hP : va_P (dC, dI) vwCl [(a7, .inr (7, [.ref a6, .ref a2, .ref a5, .ref a4, .ref a0, .ref a1, .ref a3])), (a2, .inr (2, [.int v2_count, .int v2_masts, .ref a2_place, .ref a2_price, .ref a2_trackAside, .ref a2_side, .ref a2_stands, .ref a2_mastPeg])), (a6, .inr (6, [.int v6_end, .int m11, .ref a6_from, .ref a6_to, .ref a6_curve])), (a6_from, .inl (cI, 8, .inl m12)), (a6_to, .inl (cI, 8, .inl m13)), (a6_curve, .inl (cI, 8, .inl m14))] H := hP
                have hD : va_D A [(a7, .inr (7, [.ref a6, .ref a2, .ref a5, .ref a4, .ref a0, .ref a1, .ref a3])), (a2, .inr (2, [.int v2_count, .int v2_masts, .ref a2_place, .ref a2_price, .ref a2_trackAside, .ref a2_side, .ref a2_stands, .ref a2_mastPeg])), (a6, .inr (6, [.int v6_end, .int m11, .ref a6_from, .ref a6_to, .ref a6_curve])), (a6_from, .inl (cI, 8, .inl m12)), (a6_to, .inl (cI, 8, .inl m13)), (a6_curve, .inl (cI, 8, .inl m14))] := hD
                refine lv_aload_n hx hb dX7_bend_87 rfl (lv_at hl 0 rfl) ?_
                refine va_get (D := (dC, dI)) (ci := 7) (v := .ref a6) (C := RX7) (T := TX7) (N := 7) hx hb hts inX7_bend_X7 hown hK hP 0 rfl rfl 0 (by decide) lk1 (fun _ h9 => h9) rfl dX7_bend_88 ?_
                refine va_get (D := (dC, dI)) (ci := 6) (v := .int m11) (C := RX6) (T := TX6) (N := 5) hx hb hts inX7_bend_X6 hown hK hP 2 rfl rfl 1 (by decide) lk5 (fun _ h9 => h9) rfl dX7_bend_91 ?_
                have hP9 := hP.sub (ws' := [(a7, .inr (7, [.ref a6, .ref a2, .ref a5, .ref a4, .ref a0, .ref a1, .ref a3])), (a6, .inr (6, [.int v6_end, .int m11, .ref a6_from, .ref a6_to, .ref a6_curve])), (a6_from, .inl (cI, 8, .inl m12)), (a6_to, .inl (cI, 8, .inl m13)), (a6_curve, .inl (cI, 8, .inl m14)), (a2, .inr (2, [.int v2_count, .int v2_masts, .ref a2_place, .ref a2_price, .ref a2_trackAside, .ref a2_side, .ref a2_stands, .ref a2_mastPeg]))]) [0, 2, 3, 4, 5, 1] rfl
                have hD9 := hD.sub (ws' := [(a7, .inr (7, [.ref a6, .ref a2, .ref a5, .ref a4, .ref a0, .ref a1, .ref a3])), (a6, .inr (6, [.int v6_end, .int m11, .ref a6_from, .ref a6_to, .ref a6_curve])), (a6_from, .inl (cI, 8, .inl m12)), (a6_to, .inl (cI, 8, .inl m13)), (a6_curve, .inl (cI, 8, .inl m14)), (a2, .inr (2, [.int v2_count, .int v2_masts, .ref a2_place, .ref a2_price, .ref a2_trackAside, .ref a2_side, .ref a2_stands, .ref a2_mastPeg]))]) [0, 2, 3, 4, 5, 1] (by decide) rfl
                exact W.iret (v := m11) hx hb hr (fun t ht hW => ⟨⟨m11, (m11, m12, m13, m14), rfl, hw, by rw [ht]; exact hP9, va_K.moved hW.alike hK, hD9⟩, hS.F ht⟩) hS.2.2 dX7_bend_94
              · replace hw := hw.2 (c9)
                refine lv_bipush (v := (-5 : Int32)) hx hb dX7_bend_74 (by decide) ?_
                have hP9 := hP.sub (ws' := [(a7, .inr (7, [.ref a6, .ref a2, .ref a5, .ref a4, .ref a0, .ref a1, .ref a3])), (a6, .inr (6, [.int v6_end, .int v6_bends, .ref a6_from, .ref a6_to, .ref a6_curve])), (a6_from, .inl (cI, 8, .inl f6_from)), (a6_to, .inl (cI, 8, .inl f6_to)), (a6_curve, .inl (cI, 8, .inl f6_curve)), (a2, .inr (2, [.int v2_count, .int v2_masts, .ref a2_place, .ref a2_price, .ref a2_trackAside, .ref a2_side, .ref a2_stands, .ref a2_mastPeg]))]) [0, 3, 4, 5, 1, 2] rfl
                have hD9 := hD.sub (ws' := [(a7, .inr (7, [.ref a6, .ref a2, .ref a5, .ref a4, .ref a0, .ref a1, .ref a3])), (a6, .inr (6, [.int v6_end, .int v6_bends, .ref a6_from, .ref a6_to, .ref a6_curve])), (a6_from, .inl (cI, 8, .inl f6_from)), (a6_to, .inl (cI, 8, .inl f6_to)), (a6_curve, .inl (cI, 8, .inl f6_curve)), (a2, .inr (2, [.int v2_count, .int v2_masts, .ref a2_place, .ref a2_price, .ref a2_trackAside, .ref a2_side, .ref a2_stands, .ref a2_mastPeg]))]) [0, 3, 4, 5, 1, 2] (by decide) rfl
                exact W.iret (v := (-5 : Int32)) hx hb hr (fun t ht hW => ⟨⟨(-5 : Int32), (v6_bends, f6_from, f6_to, f6_curve), rfl, hw, by rw [ht]; exact hP9, va_K.moved hW.alike hK, hD9⟩, hS.F ht⟩) hS.2.2 dX7_bend_76
            · replace hw := hw.2 (c7)
              refine lv_bipush (v := (-4 : Int32)) hx hb dX7_bend_59 (by decide) ?_
              have hP9 := hP.sub (ws' := [(a7, .inr (7, [.ref a6, .ref a2, .ref a5, .ref a4, .ref a0, .ref a1, .ref a3])), (a6, .inr (6, [.int v6_end, .int v6_bends, .ref a6_from, .ref a6_to, .ref a6_curve])), (a6_from, .inl (cI, 8, .inl f6_from)), (a6_to, .inl (cI, 8, .inl f6_to)), (a6_curve, .inl (cI, 8, .inl f6_curve)), (a2, .inr (2, [.int v2_count, .int v2_masts, .ref a2_place, .ref a2_price, .ref a2_trackAside, .ref a2_side, .ref a2_stands, .ref a2_mastPeg]))]) [0, 1, 2, 3, 4, 5] rfl
              have hD9 := hD.sub (ws' := [(a7, .inr (7, [.ref a6, .ref a2, .ref a5, .ref a4, .ref a0, .ref a1, .ref a3])), (a6, .inr (6, [.int v6_end, .int v6_bends, .ref a6_from, .ref a6_to, .ref a6_curve])), (a6_from, .inl (cI, 8, .inl f6_from)), (a6_to, .inl (cI, 8, .inl f6_to)), (a6_curve, .inl (cI, 8, .inl f6_curve)), (a2, .inr (2, [.int v2_count, .int v2_masts, .ref a2_place, .ref a2_price, .ref a2_trackAside, .ref a2_side, .ref a2_stands, .ref a2_mastPeg]))]) [0, 1, 2, 3, 4, 5] (by decide) rfl
              exact W.iret (v := (-4 : Int32)) hx hb hr (fun t ht hW => ⟨⟨(-4 : Int32), (v6_bends, f6_from, f6_to, f6_curve), rfl, hw, by rw [ht]; exact hP9, va_K.moved hW.alike hK, hD9⟩, hS.F ht⟩) hS.2.2 dX7_bend_61
          · replace hw := hw.2 (c6)
            refine lv_bipush (v := (-3 : Int32)) hx hb dX7_bend_44 (by decide) ?_
            have hP9 := hP.sub (ws' := [(a7, .inr (7, [.ref a6, .ref a2, .ref a5, .ref a4, .ref a0, .ref a1, .ref a3])), (a6, .inr (6, [.int v6_end, .int v6_bends, .ref a6_from, .ref a6_to, .ref a6_curve])), (a6_from, .inl (cI, 8, .inl f6_from)), (a6_to, .inl (cI, 8, .inl f6_to)), (a6_curve, .inl (cI, 8, .inl f6_curve)), (a2, .inr (2, [.int v2_count, .int v2_masts, .ref a2_place, .ref a2_price, .ref a2_trackAside, .ref a2_side, .ref a2_stands, .ref a2_mastPeg]))]) [0, 1, 2, 3, 4, 5] rfl
            have hD9 := hD.sub (ws' := [(a7, .inr (7, [.ref a6, .ref a2, .ref a5, .ref a4, .ref a0, .ref a1, .ref a3])), (a6, .inr (6, [.int v6_end, .int v6_bends, .ref a6_from, .ref a6_to, .ref a6_curve])), (a6_from, .inl (cI, 8, .inl f6_from)), (a6_to, .inl (cI, 8, .inl f6_to)), (a6_curve, .inl (cI, 8, .inl f6_curve)), (a2, .inr (2, [.int v2_count, .int v2_masts, .ref a2_place, .ref a2_price, .ref a2_trackAside, .ref a2_side, .ref a2_stands, .ref a2_mastPeg]))]) [0, 1, 2, 3, 4, 5] (by decide) rfl
            exact W.iret (v := (-3 : Int32)) hx hb hr (fun t ht hW => ⟨⟨(-3 : Int32), (v6_bends, f6_from, f6_to, f6_curve), rfl, hw, by rw [ht]; exact hP9, va_K.moved hW.alike hK, hD9⟩, hS.F ht⟩) hS.2.2 dX7_bend_46
        · replace hw := hw.1 (c5)
          refine lv_bipush (v := (-2 : Int32)) hx hb dX7_bend_31 (by decide) ?_
          have hP9 := hP.sub (ws' := [(a7, .inr (7, [.ref a6, .ref a2, .ref a5, .ref a4, .ref a0, .ref a1, .ref a3])), (a6, .inr (6, [.int v6_end, .int v6_bends, .ref a6_from, .ref a6_to, .ref a6_curve])), (a6_from, .inl (cI, 8, .inl f6_from)), (a6_to, .inl (cI, 8, .inl f6_to)), (a6_curve, .inl (cI, 8, .inl f6_curve)), (a2, .inr (2, [.int v2_count, .int v2_masts, .ref a2_place, .ref a2_price, .ref a2_trackAside, .ref a2_side, .ref a2_stands, .ref a2_mastPeg]))]) [0, 1, 2, 3, 4, 5] rfl
          have hD9 := hD.sub (ws' := [(a7, .inr (7, [.ref a6, .ref a2, .ref a5, .ref a4, .ref a0, .ref a1, .ref a3])), (a6, .inr (6, [.int v6_end, .int v6_bends, .ref a6_from, .ref a6_to, .ref a6_curve])), (a6_from, .inl (cI, 8, .inl f6_from)), (a6_to, .inl (cI, 8, .inl f6_to)), (a6_curve, .inl (cI, 8, .inl f6_curve)), (a2, .inr (2, [.int v2_count, .int v2_masts, .ref a2_place, .ref a2_price, .ref a2_trackAside, .ref a2_side, .ref a2_stands, .ref a2_mastPeg]))]) [0, 1, 2, 3, 4, 5] (by decide) rfl
          exact W.iret (v := (-2 : Int32)) hx hb hr (fun t ht hW => ⟨⟨(-2 : Int32), (v6_bends, f6_from, f6_to, f6_curve), rfl, hw, by rw [ht]; exact hP9, va_K.moved hW.alike hK, hD9⟩, hS.F ht⟩) hS.2.2 dX7_bend_33

theorem inX7_aside_X7 : ∀ w ∈ wsX70, w ∈ wsX7_aside := fun _ h => List.mem_cons_of_mem _ (List.mem_append_left _ (List.mem_append_right _ h))
theorem inX7_aside_X6 : ∀ w ∈ wsX60, w ∈ wsX7_aside := fun _ h => List.mem_cons_of_mem _ (List.mem_append_right _ h)
def wp_X7_aside (Q : Int64 → Prop) (v6_end : Int32) (v6_bends : Int32) (f6_from : Nat → Int32) (f6_to : Nat → Int32) (f6_curve : Nat → Int32) (p1 : Int32) : Prop :=
  (wp_X6_has (fun r1 => ((r1 = 0 → (Q (-1000000000000001 : Int64) )) ∧ (¬ r1 = 0 → (wp_X6_asideOf (fun r3 => (Q r3 )) v6_bends f6_from f6_to f6_curve p1)))) v6_end p1)
set_option maxHeartbeats 4000000 in
set_option maxRecDepth 100000 in
theorem c_X7_aside (l : Launch) (dC : Nat → ClassId) (dI : Nat → Nat → Nat) (cI cJ cZ : ClassId) (a7 : Nat) (a6 : Nat) (a6_from : Nat) (a6_to : Nat) (a6_curve : Nat) (a2 : Nat) (a5 : Nat) (a4 : Nat) (a0 : Nat) (a1 : Nat) (a3 : Nat) (sz : Nat) (v6_end : Int32) (v6_bends : Int32) (f6_from : Nat → Int32) (f6_to : Nat → Int32) (f6_curve : Nat → Int32) (p1 : Int32) (Q : Int64 → Prop) (hw : wp_X7_aside Q v6_end v6_bends f6_from f6_to f6_curve p1) : Met l yX7_aside wsX7_aside ({ frames := 1, cells := 0, slots := 0, locals := 28 } : Room) (va_Pc [.ref a7, .int p1] (fun U => U.heap.size = sz ∧ va_P (dC, dI) vwCl [(a7, .inr (7, [.ref a6, .ref a2, .ref a5, .ref a4, .ref a0, .ref a1, .ref a3])), (a6, .inr (6, [.int v6_end, .int v6_bends, .ref a6_from, .ref a6_to, .ref a6_curve])), (a6_from, .inl (cI, 8, .inl f6_from)), (a6_to, .inl (cI, 8, .inl f6_to)), (a6_curve, .inl (cI, 8, .inl f6_curve))] U.heap ∧ va_K (dC, dI) vwCl [(cI, .int), (cJ, .long), (cZ, .boolean)] U ∧ va_D (fun _ => True) [(a7, .inr (7, [.ref a6, .ref a2, .ref a5, .ref a4, .ref a0, .ref a1, .ref a3])), (a6, .inr (6, [.int v6_end, .int v6_bends, .ref a6_from, .ref a6_to, .ref a6_curve])), (a6_from, .inl (cI, 8, .inl f6_from)), (a6_to, .inl (cI, 8, .inl f6_to)), (a6_curve, .inl (cI, 8, .inl f6_curve))])) (va_Ql (fun r (u : Unit) => Q r) (fun (u : Unit) t => va_P (dC, dI) vwCl [(a7, .inr (7, [.ref a6, .ref a2, .ref a5, .ref a4, .ref a0, .ref a1, .ref a3])), (a6, .inr (6, [.int v6_end, .int v6_bends, .ref a6_from, .ref a6_to, .ref a6_curve])), (a6_from, .inl (cI, 8, .inl f6_from)), (a6_to, .inl (cI, 8, .inl f6_to)), (a6_curve, .inl (cI, 8, .inl f6_curve))] t.heap ∧ va_K (dC, dI) vwCl [(cI, .int), (cJ, .long), (cZ, .boolean)] t ∧ va_D (va_A [(a7, .inr (7, [.ref a6, .ref a2, .ref a5, .ref a4, .ref a0, .ref a1, .ref a3])), (a6, .inr (6, [.int v6_end, .int v6_bends, .ref a6_from, .ref a6_to, .ref a6_curve])), (a6_from, .inl (cI, 8, .inl f6_from)), (a6_to, .inl (cI, 8, .inl f6_to)), (a6_curve, .inl (cI, 8, .inl f6_curve))] sz) [(a7, .inr (7, [.ref a6, .ref a2, .ref a5, .ref a4, .ref a0, .ref a1, .ref a3])), (a6, .inr (6, [.int v6_end, .int v6_bends, .ref a6_from, .ref a6_to, .ref a6_curve])), (a6_from, .inl (cI, 8, .inl f6_from)), (a6_to, .inl (cI, 8, .inl f6_to)), (a6_curve, .inl (cI, 8, .inl f6_curve))]) (va_A [(a7, .inr (7, [.ref a6, .ref a2, .ref a5, .ref a4, .ref a0, .ref a1, .ref a3])), (a6, .inr (6, [.int v6_end, .int v6_bends, .ref a6_from, .ref a6_to, .ref a6_curve])), (a6_from, .inl (cI, 8, .inl f6_from)), (a6_to, .inl (cI, 8, .inl f6_to)), (a6_curve, .inl (cI, 8, .inl f6_curve))] sz)) 0 0 (va_A [(a7, .inr (7, [.ref a6, .ref a2, .ref a5, .ref a4, .ref a0, .ref a1, .ref a3])), (a6, .inr (6, [.int v6_end, .int v6_bends, .ref a6_from, .ref a6_to, .ref a6_curve])), (a6_from, .inl (cI, 8, .inl f6_from)), (a6_to, .inl (cI, 8, .inl f6_to)), (a6_curve, .inl (cI, 8, .inl f6_curve))] sz) := by
  refine Met.ofW (cc := cX7_aside) (maxL := 2) (ret := (some .long)) (by decide) rfl ?_
  intro p e s m args below meth c s₁ B hml hv
  obtain ⟨rfl, hsz, hP, hK, hD0⟩ := hv
  have hx := B.exec
  have hb := B.bytes
  have hr := B.returns
  have hts := atoms_spec (ws := wsX7_aside) B.pre
  have hown : s.vm.findClass RX7 = some m.cls := findClass_of_methodNamed B.named
  have hlocks := B.notSynchronized
  subst hsz
  have hD := hD0.self (sz := s.heap.size)
  generalize hAe : va_A [(a7, .inr (7, [.ref a6, .ref a2, .ref a5, .ref a4, .ref a0, .ref a1, .ref a3])), (a6, .inr (6, [.int v6_end, .int v6_bends, .ref a6_from, .ref a6_to, .ref a6_curve])), (a6_from, .inl (cI, 8, .inl f6_from)), (a6_to, .inl (cI, 8, .inl f6_to)), (a6_curve, .inl (cI, 8, .inl f6_curve))] s.heap.size = A at hD ⊢
  have hA : ∀ q : Nat, s.heap.size ≤ q → A q := fun q h => by rw [← hAe]; exact Or.inr h
  have hS : va_S A s.heap s.heap [] := va_S.rf
  have hP : va_P (dC, dI) vwCl [(a7, .inr (7, [.ref a6, .ref a2, .ref a5, .ref a4, .ref a0, .ref a1, .ref a3])), (a6, .inr (6, [.int v6_end, .int v6_bends, .ref a6_from, .ref a6_to, .ref a6_curve])), (a6_from, .inl (cI, 8, .inl f6_from)), (a6_to, .inl (cI, 8, .inl f6_to)), (a6_curve, .inl (cI, 8, .inl f6_curve))] s.heap := hP
  have lk1 := hts (.fieldLink RX7 10 "WireRow" "track" "LWireRow$Track;") (by decide +kernel)
  have lk2 := hts (.constantLong RX7 92 (-1000000000000001)) (by decide +kernel)
  have hl := lv_entry ([.ref a7, .int p1]) (n := 2) (Nat.le_of_ble_eq_true rfl)
  rw [lg_entry_eq]
  generalize (lg_sl ([.ref a7, .int p1]) ++ List.replicate (2 - (lg_sl ([.ref a7, .int p1])).length) Slot.unset).toArray = ls at hl ⊢
  have hl : lv_has ls 2 [(0, .ref a7), (1, .int p1)] := hl
  obtain ⟨H, hHe⟩ : ∃ H, H = s.heap := ⟨_, rfl⟩
  rw [← hHe] at hP
  have hS : va_S A s.heap H [] := by rw [hHe]; exact hS
  rw [← hHe]
  unfold wp_X7_aside at hw
  refine lv_aload_n hx hb dX7_aside_0 rfl (lv_at hl 0 rfl) ?_
  refine va_get (D := (dC, dI)) (ci := 7) (v := .ref a6) (C := RX7) (T := TX7) (N := 7) hx hb hts inX7_aside_X7 hown hK hP 0 rfl rfl 0 (by decide) lk1 (fun _ h9 => h9) rfl dX7_aside_1 ?_
  refine lv_iload_n hx hb dX7_aside_4 rfl (lv_at hl 1 rfl) ?_
  have hPc := hP.sub (ws' := [(a6, .inr (6, [.int v6_end, .int v6_bends, .ref a6_from, .ref a6_to, .ref a6_curve]))]) [1] rfl
  have hDc := hD.sub (ws' := [(a6, .inr (6, [.int v6_end, .int v6_bends, .ref a6_from, .ref a6_to, .ref a6_curve]))]) [1] (by decide) rfl
  have hFc := va_free (wc := [(a6, .inr (6, [.int v6_end, .int v6_bends, .ref a6_from, .ref a6_to, .ref a6_curve]))]) hD hS hA [1] rfl
  refine va_calli (va_runV (As := [.int p1]) (rest := []) ⟨hx, hb, hml, hown, hts⟩ (c_X6_has l dC dI cI cJ cZ a6 a6_from a6_to a6_curve H.size v6_end v6_bends p1 _ hw) (cwV 1 hts gX7_aside_X6_has rfl rfl rfl (by decide +kernel) ⟨Nat.le_of_ble_eq_true rfl, Nat.le_of_ble_eq_true rfl⟩) ⟨fun a U g mk q => by obtain ⟨q0, q1, qP, qK, qD⟩ := q; exact ⟨q0, q1, qP, va_K.moved (u := U) (U := U.calling g mk a) (Vm.Alike.refl U.vm) qK, qD⟩, va_recv hK hP (ci := 6) (q0 := 1) rfl rfl, fun U hU hW => ⟨rfl, by rw [hU], by rw [hU]; exact hPc, va_K.moved hW.alike hK, hDc.weaken (fun _ _ _ _ => trivial)⟩⟩ rfl rfl hl.1 rfl (lv_room (Nat.le_of_ble_eq_true rfl)) dX7_aside_5 ⟨(Nat.zero_le _), (Nat.zero_le _)⟩) hS (fun q _ h => hFc q h) hFc (fun r1 u t H1 locs ht hvm hw hB hz1 hk1 hS => ?_)
  obtain ⟨hP1, -, hD1⟩ := hB
  try dsimp only at hw
  rw [ht] at hP1
  obtain ⟨hP, hD⟩ := va_join (wr := [(a7, .inr (7, [.ref a6, .ref a2, .ref a5, .ref a4, .ref a0, .ref a1, .ref a3])), (a6_from, .inl (cI, 8, .inl f6_from)), (a6_to, .inl (cI, 8, .inl f6_to)), (a6_curve, .inl (cI, 8, .inl f6_curve))]) (w1 := [(a6, .inr (6, [.int v6_end, .int v6_bends, .ref a6_from, .ref a6_to, .ref a6_curve]))]) hP hD [1] [0, 2, 3, 4] rfl rfl (by decide) (by decide) hk1 hFc hP1 hD1
  generalize H1 = H at hP hS ⊢
  have hP : va_P (dC, dI) vwCl [(a7, .inr (7, [.ref a6, .ref a2, .ref a5, .ref a4, .ref a0, .ref a1, .ref a3])), (a6_from, .inl (cI, 8, .inl f6_from)), (a6_to, .inl (cI, 8, .inl f6_to)), (a6_curve, .inl (cI, 8, .inl f6_curve)), (a6, .inr (6, [.int v6_end, .int v6_bends, .ref a6_from, .ref a6_to, .ref a6_curve]))] H := hP
  have hD : va_D A [(a7, .inr (7, [.ref a6, .ref a2, .ref a5, .ref a4, .ref a0, .ref a1, .ref a3])), (a6_from, .inl (cI, 8, .inl f6_from)), (a6_to, .inl (cI, 8, .inl f6_to)), (a6_curve, .inl (cI, 8, .inl f6_curve)), (a6, .inr (6, [.int v6_end, .int v6_bends, .ref a6_from, .ref a6_to, .ref a6_curve]))] := hD
  refine lv_if_eq (tgt := 22) hx hb dX7_aside_8 (by decide) (fun c2 => ?_) (fun c2 => ?_)
  · replace hw := hw.1 (c2)
    refine lv_ldc2 (v := (-1000000000000001 : Int64)) hx hb hown lk2 dX7_aside_22 ?_
    have hP9 := hP.sub (ws' := [(a7, .inr (7, [.ref a6, .ref a2, .ref a5, .ref a4, .ref a0, .ref a1, .ref a3])), (a6, .inr (6, [.int v6_end, .int v6_bends, .ref a6_from, .ref a6_to, .ref a6_curve])), (a6_from, .inl (cI, 8, .inl f6_from)), (a6_to, .inl (cI, 8, .inl f6_to)), (a6_curve, .inl (cI, 8, .inl f6_curve))]) [0, 4, 1, 2, 3] rfl
    have hD9 := hD.sub (ws' := [(a7, .inr (7, [.ref a6, .ref a2, .ref a5, .ref a4, .ref a0, .ref a1, .ref a3])), (a6, .inr (6, [.int v6_end, .int v6_bends, .ref a6_from, .ref a6_to, .ref a6_curve])), (a6_from, .inl (cI, 8, .inl f6_from)), (a6_to, .inl (cI, 8, .inl f6_to)), (a6_curve, .inl (cI, 8, .inl f6_curve))]) [0, 4, 1, 2, 3] (by decide) rfl
    exact W.lret (v := (-1000000000000001 : Int64)) hx hb hr (fun t ht hW => ⟨⟨(-1000000000000001 : Int64), (), rfl, hw, by rw [ht]; exact hP9, va_K.moved hW.alike hK, hD9⟩, hS.F ht⟩) hS.2.2 dX7_aside_25
  · replace hw := hw.2 (c2)
    refine lv_aload_n hx hb dX7_aside_11 rfl (lv_at hl 0 rfl) ?_
    refine va_get (D := (dC, dI)) (ci := 7) (v := .ref a6) (C := RX7) (T := TX7) (N := 7) hx hb hts inX7_aside_X7 hown hK hP 0 rfl rfl 0 (by decide) lk1 (fun _ h9 => h9) rfl dX7_aside_12 ?_
    refine lv_iload_n hx hb dX7_aside_15 rfl (lv_at hl 1 rfl) ?_
    have hPc := hP.sub (ws' := [(a6, .inr (6, [.int v6_end, .int v6_bends, .ref a6_from, .ref a6_to, .ref a6_curve])), (a6_from, .inl (cI, 8, .inl f6_from)), (a6_to, .inl (cI, 8, .inl f6_to)), (a6_curve, .inl (cI, 8, .inl f6_curve))]) [4, 1, 2, 3] rfl
    have hDc := hD.sub (ws' := [(a6, .inr (6, [.int v6_end, .int v6_bends, .ref a6_from, .ref a6_to, .ref a6_curve])), (a6_from, .inl (cI, 8, .inl f6_from)), (a6_to, .inl (cI, 8, .inl f6_to)), (a6_curve, .inl (cI, 8, .inl f6_curve))]) [4, 1, 2, 3] (by decide) rfl
    have hFc := va_free (wc := [(a6, .inr (6, [.int v6_end, .int v6_bends, .ref a6_from, .ref a6_to, .ref a6_curve])), (a6_from, .inl (cI, 8, .inl f6_from)), (a6_to, .inl (cI, 8, .inl f6_to)), (a6_curve, .inl (cI, 8, .inl f6_curve))]) hD hS hA [4, 1, 2, 3] rfl
    refine va_calll (va_runV (As := [.int p1]) (rest := []) ⟨hx, hb, hml, hown, hts⟩ (c_X6_asideOf l dC dI cI cJ cZ a6 a6_from a6_to a6_curve H.size v6_end v6_bends f6_from f6_to f6_curve p1 _ hw) (cwV 1 hts gX7_aside_X6_asideOf rfl rfl rfl (by decide +kernel) ⟨Nat.le_of_ble_eq_true rfl, Nat.le_of_ble_eq_true rfl⟩) ⟨fun a U g mk q => by obtain ⟨q0, q1, qP, qK, qD⟩ := q; exact ⟨q0, q1, qP, va_K.moved (u := U) (U := U.calling g mk a) (Vm.Alike.refl U.vm) qK, qD⟩, va_recv hK hP (ci := 6) (q0 := 4) rfl rfl, fun U hU hW => ⟨rfl, by rw [hU], by rw [hU]; exact hPc, va_K.moved hW.alike hK, hDc.weaken (fun _ _ _ _ => trivial)⟩⟩ rfl rfl hl.1 rfl (lv_room (Nat.le_of_ble_eq_true rfl)) dX7_aside_16 ⟨(Nat.zero_le _), (Nat.zero_le _)⟩) hS (fun q _ h => hFc q h) hFc (fun r3 u t H1 locs ht hvm hw hB hz1 hk1 hS => ?_)
    obtain ⟨hP1, -, hD1⟩ := hB
    try dsimp only at hw
    rw [ht] at hP1
    obtain ⟨hP, hD⟩ := va_join (wr := [(a7, .inr (7, [.ref a6, .ref a2, .ref a5, .ref a4, .ref a0, .ref a1, .ref a3]))]) (w1 := [(a6, .inr (6, [.int v6_end, .int v6_bends, .ref a6_from, .ref a6_to, .ref a6_curve])), (a6_from, .inl (cI, 8, .inl f6_from)), (a6_to, .inl (cI, 8, .inl f6_to)), (a6_curve, .inl (cI, 8, .inl f6_curve))]) hP hD [4, 1, 2, 3] [0] rfl rfl (by decide) (by decide) hk1 hFc hP1 hD1
    generalize H1 = H at hP hS ⊢
    have hP : va_P (dC, dI) vwCl [(a7, .inr (7, [.ref a6, .ref a2, .ref a5, .ref a4, .ref a0, .ref a1, .ref a3])), (a6, .inr (6, [.int v6_end, .int v6_bends, .ref a6_from, .ref a6_to, .ref a6_curve])), (a6_from, .inl (cI, 8, .inl f6_from)), (a6_to, .inl (cI, 8, .inl f6_to)), (a6_curve, .inl (cI, 8, .inl f6_curve))] H := hP
    have hD : va_D A [(a7, .inr (7, [.ref a6, .ref a2, .ref a5, .ref a4, .ref a0, .ref a1, .ref a3])), (a6, .inr (6, [.int v6_end, .int v6_bends, .ref a6_from, .ref a6_to, .ref a6_curve])), (a6_from, .inl (cI, 8, .inl f6_from)), (a6_to, .inl (cI, 8, .inl f6_to)), (a6_curve, .inl (cI, 8, .inl f6_curve))] := hD
    refine lv_goto (tgt := 25) hx hb dX7_aside_19 (by decide) ?_
    have hP9 := hP.sub (ws' := [(a7, .inr (7, [.ref a6, .ref a2, .ref a5, .ref a4, .ref a0, .ref a1, .ref a3])), (a6, .inr (6, [.int v6_end, .int v6_bends, .ref a6_from, .ref a6_to, .ref a6_curve])), (a6_from, .inl (cI, 8, .inl f6_from)), (a6_to, .inl (cI, 8, .inl f6_to)), (a6_curve, .inl (cI, 8, .inl f6_curve))]) [0, 1, 2, 3, 4] rfl
    have hD9 := hD.sub (ws' := [(a7, .inr (7, [.ref a6, .ref a2, .ref a5, .ref a4, .ref a0, .ref a1, .ref a3])), (a6, .inr (6, [.int v6_end, .int v6_bends, .ref a6_from, .ref a6_to, .ref a6_curve])), (a6_from, .inl (cI, 8, .inl f6_from)), (a6_to, .inl (cI, 8, .inl f6_to)), (a6_curve, .inl (cI, 8, .inl f6_curve))]) [0, 1, 2, 3, 4] (by decide) rfl
    exact W.lret (v := r3) hx hb hr (fun t ht hW => ⟨⟨r3, (), rfl, hw, by rw [ht]; exact hP9, va_K.moved hW.alike hK, hD9⟩, hS.F ht⟩) hS.2.2 dX7_aside_25
