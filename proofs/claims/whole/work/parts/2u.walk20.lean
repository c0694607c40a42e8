theorem inX8_price_X8 : ∀ w ∈ wsX80, w ∈ wsX8_price := fun _ h => List.mem_cons_of_mem _ (List.mem_append_right _ h)
def wb_X8_price_32 (Q : Int32 → Prop) (v8_pegs : Int32) (f8_cost : Nat → Int32) (f8_stands : Nat → Int32) (K4 : (Int32) → (Int32) → Prop) (y32_2 : Int32) (k32_0 : Int32) (k32_1 : Int32) : Prop :=
  (∀ x4 : Int32, x4 = (k32_1 + k32_0) → (∀ x5 : Int32, x5 = y32_2 + (1 : Int32) → (K4 x4 x5)))
def wb_X8_price_4 (Q : Int32 → Prop) (v8_pegs : Int32) (f8_cost : Nat → Int32) (f8_stands : Nat → Int32) (K4 : (Int32) → (Int32) → Prop) (y4_1 : Int32) (y4_2 : Int32) : Prop :=
  ((v8_pegs ≤ y4_2 → (Q y4_1 )) ∧ (¬ v8_pegs ≤ y4_2 → (vp_in y4_2 40 ∧ (((f8_stands y4_2.toNatClampNeg) = 0 → (wb_X8_price_32 Q v8_pegs f8_cost f8_stands K4 y4_2 (0 : Int32) y4_1)) ∧ (¬ (f8_stands y4_2.toNatClampNeg) = 0 → (vp_in y4_2 40 ∧ (wb_X8_price_32 Q v8_pegs f8_cost f8_stands K4 y4_2 (f8_cost y4_2.toNatClampNeg) y4_1)))))))
def wl_X8_price_4 (Q : Int32 → Prop) (v8_pegs : Int32) (f8_cost : Nat → Int32) (f8_stands : Nat → Int32) : Nat → (Int32) → (Int32) → Prop
  | 0, _, _ => False
  | n + 1, y4_1, y4_2 => wb_X8_price_4 Q v8_pegs f8_cost f8_stands  (wl_X8_price_4 Q v8_pegs f8_cost f8_stands  n) y4_1 y4_2
def wp_X8_price (Q : Int32 → Prop) (v8_pegs : Int32) (f8_cost : Nat → Int32) (f8_stands : Nat → Int32) : Prop :=
  (∃ n : Nat, wl_X8_price_4 Q v8_pegs f8_cost f8_stands  n (0 : Int32) (0 : Int32))
set_option maxHeartbeats 4000000 in
set_option maxRecDepth 100000 in
theorem c_X8_price (l : Launch) (dC : Nat → ClassId) (dI : Nat → Nat → Nat) (cI cJ cZ : ClassId) (a8 : Nat) (a8_bendA : Nat) (a8_bendB : Nat) (a8_curve : Nat) (a8_aside : Nat) (a8_place : Nat) (a8_cost : Nat) (a8_stands : Nat) (a8_side : Nat) (a8_least : Nat) (a8_fits : Nat) (a8_size : Nat) (a8_fewest : Nat) (a8_used : Nat) (sz : Nat) (v8_length : Int32) (v8_bends : Int32) (v8_isLaid : Int32) (v8_pegs : Int32) (f8_cost : Nat → Int32) (f8_stands : Nat → Int32) (v8_wind : Int32) (v8_pull : Int32) (v8_bow : Int32) (v8_sway : Int32) (v8_reach : Int32) (v8_tension : Int32) (v8_own : Int32) (v8_droppers : Int32) (v8_load : Int32) (v8_hang : Int32) (Q : Int32 → Prop) (hw : wp_X8_price Q v8_pegs f8_cost f8_stands ) : Met l yX8_price wsX8_price ({ frames := 0, cells := 0, slots := 0, locals := 0 } : Room) (va_Pc [.ref a8] (fun U => U.heap.size = sz ∧ va_P (dC, dI) vwCl [(a8, .inr (8, [.int v8_length, .int v8_bends, .ref a8_bendA, .ref a8_bendB, .ref a8_curve, .int v8_isLaid, .ref a8_aside, .int v8_pegs, .ref a8_place, .ref a8_cost, .ref a8_stands, .ref a8_side, .int v8_wind, .int v8_pull, .int v8_bow, .int v8_sway, .int v8_reach, .int v8_tension, .int v8_own, .int v8_droppers, .int v8_load, .int v8_hang, .ref a8_least, .ref a8_fits, .ref a8_size, .ref a8_fewest, .ref a8_used])), (a8_cost, .inl (cI, 40, .inl f8_cost)), (a8_stands, .inl (cZ, 40, .inl f8_stands))] U.heap ∧ va_K (dC, dI) vwCl [(cI, .int), (cJ, .long), (cZ, .boolean)] U ∧ va_D (fun _ => True) [(a8, .inr (8, [.int v8_length, .int v8_bends, .ref a8_bendA, .ref a8_bendB, .ref a8_curve, .int v8_isLaid, .ref a8_aside, .int v8_pegs, .ref a8_place, .ref a8_cost, .ref a8_stands, .ref a8_side, .int v8_wind, .int v8_pull, .int v8_bow, .int v8_sway, .int v8_reach, .int v8_tension, .int v8_own, .int v8_droppers, .int v8_load, .int v8_hang, .ref a8_least, .ref a8_fits, .ref a8_size, .ref a8_fewest, .ref a8_used])), (a8_cost, .inl (cI, 40, .inl f8_cost)), (a8_stands, .inl (cZ, 40, .inl f8_stands))])) (va_Qi (fun r (u : Unit) => Q r) (fun (u : Unit) t => va_P (dC, dI) vwCl [(a8, .inr (8, [.int v8_length, .int v8_bends, .ref a8_bendA, .ref a8_bendB, .ref a8_curve, .int v8_isLaid, .ref a8_aside, .int v8_pegs, .ref a8_place, .ref a8_cost, .ref a8_stands, .ref a8_side, .int v8_wind, .int v8_pull, .int v8_bow, .int v8_sway, .int v8_reach, .int v8_tension, .int v8_own, .int v8_droppers, .int v8_load, .int v8_hang, .ref a8_least, .ref a8_fits, .ref a8_size, .ref a8_fewest, .ref a8_used])), (a8_cost, .inl (cI, 40, .inl f8_cost)), (a8_stands, .inl (cZ, 40, .inl f8_stands))] t.heap ∧ va_K (dC, dI) vwCl [(cI, .int), (cJ, .long), (cZ, .boolean)] t ∧ va_D (va_A [(a8, .inr (8, [.int v8_length, .int v8_bends, .ref a8_bendA, .ref a8_bendB, .ref a8_curve, .int v8_isLaid, .ref a8_aside, .int v8_pegs, .ref a8_place, .ref a8_cost, .ref a8_stands, .ref a8_side, .int v8_wind, .int v8_pull, .int v8_bow, .int v8_sway, .int v8_reach, .int v8_tension, .int v8_own, .int v8_droppers, .int v8_load, .int v8_hang, .ref a8_least, .ref a8_fits, .ref a8_size, .ref a8_fewest, .ref a8_used])), (a8_cost, .inl (cI, 40, .inl f8_cost)), (a8_stands, .inl (cZ, 40, .inl f8_stands))] sz) [(a8, .inr (8, [.int v8_length, .int v8_bends, .ref a8_bendA, .ref a8_bendB, .ref a8_curve, .int v8_isLaid, .ref a8_aside, .int v8_pegs, .ref a8_place, .ref a8_cost, .ref a8_stands, .ref a8_side, .int v8_wind, .int v8_pull, .int v8_bow, .int v8_sway, .int v8_reach, .int v8_tension, .int v8_own, .int v8_droppers, .int v8_load, .int v8_hang, .ref a8_least, .ref a8_fits, .ref a8_size, .ref a8_fewest, .ref a8_used])), (a8_cost, .inl (cI, 40, .inl f8_cost)), (a8_stands, .inl (cZ, 40, .inl f8_stands))]) (va_A [(a8, .inr (8, [.int v8_length, .int v8_bends, .ref a8_bendA, .ref a8_bendB, .ref a8_curve, .int v8_isLaid, .ref a8_aside, .int v8_pegs, .ref a8_place, .ref a8_cost, .ref a8_stands, .ref a8_side, .int v8_wind, .int v8_pull, .int v8_bow, .int v8_sway, .int v8_reach, .int v8_tension, .int v8_own, .int v8_droppers, .int v8_load, .int v8_hang, .ref a8_least, .ref a8_fits, .ref a8_size, .ref a8_fewest, .ref a8_used])), (a8_cost, .inl (cI, 40, .inl f8_cost)), (a8_stands, .inl (cZ, 40, .inl f8_stands))] sz)) 0 0 (va_A [(a8, .inr (8, [.int v8_length, .int v8_bends, .ref a8_bendA, .ref a8_bendB, .ref a8_curve, .int v8_isLaid, .ref a8_aside, .int v8_pegs, .ref a8_place, .ref a8_cost, .ref a8_stands, .ref a8_side, .int v8_wind, .int v8_pull, .int v8_bow, .int v8_sway, .int v8_reach, .int v8_tension, .int v8_own, .int v8_droppers, .int v8_load, .int v8_hang, .ref a8_least, .ref a8_fits, .ref a8_size, .ref a8_fewest, .ref a8_used])), (a8_cost, .inl (cI, 40, .inl f8_cost)), (a8_stands, .inl (cZ, 40, .inl f8_stands))] sz) := by
  refine Met.ofW (cc := cX8_price) (maxL := 3) (ret := (some .int)) (by decide) rfl ?_
  intro p e s m args below meth c s₁ B hml hv
  obtain ⟨rfl, hsz, hP, hK, hD0⟩ := hv
  have hx := B.exec
  have hb := B.bytes
  have hr := B.returns
  have hts := atoms_spec (ws := wsX8_price) B.pre
  have hown : s.vm.findClass RX8 = some m.cls := findClass_of_methodNamed B.named
  have hlocks := B.notSynchronized
  subst hsz
  have hD := hD0.self (sz := s.heap.size)
  generalize hAe : va_A [(a8, .inr (8, [.int v8_length, .int v8_bends, .ref a8_bendA, .ref a8_bendB, .ref a8_curve, .int v8_isLaid, .ref a8_aside, .int v8_pegs, .ref a8_place, .ref a8_cost, .ref a8_stands, .ref a8_side, .int v8_wind, .int v8_pull, .int v8_bow, .int v8_sway, .int v8_reach, .int v8_tension, .int v8_own, .int v8_droppers, .int v8_load, .int v8_hang, .ref a8_least, .ref a8_fits, .ref a8_size, .ref a8_fewest, .ref a8_used])), (a8_cost, .inl (cI, 40, .inl f8_cost)), (a8_stands, .inl (cZ, 40, .inl f8_stands))] s.heap.size = A at hD ⊢
  have hA : ∀ q : Nat, s.heap.size ≤ q → A q := fun q h => by rw [← hAe]; exact Or.inr h
  have hS : va_S A s.heap s.heap [] := va_S.rf
  have hP : va_P (dC, dI) vwCl [(a8, .inr (8, [.int v8_length, .int v8_bends, .ref a8_bendA, .ref a8_bendB, .ref a8_curve, .int v8_isLaid, .ref a8_aside, .int v8_pegs, .ref a8_place, .ref a8_cost, .ref a8_stands, .ref a8_side, .int v8_wind, .int v8_pull, .int v8_bow, .int v8_sway, .int v8_reach, .int v8_tension, .int v8_own, .int v8_droppers, .int v8_load, .int v8_hang, .ref a8_least, .ref a8_fits, .ref a8_size, .ref a8_fewest, .ref a8_used])), (a8_cost, .inl (cI, 40, .inl f8_cost)), (a8_stands, .inl (cZ, 40, .inl f8_stands))] s.heap := hP
  have lk1 := hts (.fieldLink RX8 83 "WireRowModel" "pegs" "I") (by decide +kernel)
  have lk2 := hts (.fieldLink RX8 33 "WireRowModel" "stands" "[Z") (by decide +kernel)
  have lk3 := hts (.fieldLink RX8 30 "WireRowModel" "cost" "[I") (by decide +kernel)
  have k_4 : ∀ (n_4 : Nat) (y4_1 : Int32) (y4_2 : Int32) (H : Heap) (locs : List Loc) (ls : Array Slot), va_P (dC, dI) vwCl [(a8, .inr (8, [.int v8_length, .int v8_bends, .ref a8_bendA, .ref a8_bendB, .ref a8_curve, .int v8_isLaid, .ref a8_aside, .int v8_pegs, .ref a8_place, .ref a8_cost, .ref a8_stands, .ref a8_side, .int v8_wind, .int v8_pull, .int v8_bow, .int v8_sway, .int v8_reach, .int v8_tension, .int v8_own, .int v8_droppers, .int v8_load, .int v8_hang, .ref a8_least, .ref a8_fits, .ref a8_size, .ref a8_fewest, .ref a8_used])), (a8_cost, .inl (cI, 40, .inl f8_cost)), (a8_stands, .inl (cZ, 40, .inl f8_stands))] H → va_D A [(a8, .inr (8, [.int v8_length, .int v8_bends, .ref a8_bendA, .ref a8_bendB, .ref a8_curve, .int v8_isLaid, .ref a8_aside, .int v8_pegs, .ref a8_place, .ref a8_cost, .ref a8_stands, .ref a8_side, .int v8_wind, .int v8_pull, .int v8_bow, .int v8_sway, .int v8_reach, .int v8_tension, .int v8_own, .int v8_droppers, .int v8_load, .int v8_hang, .ref a8_least, .ref a8_fits, .ref a8_size, .ref a8_fewest, .ref a8_used])), (a8_cost, .inl (cI, 40, .inl f8_cost)), (a8_stands, .inl (cZ, 40, .inl f8_stands))] → va_S A s.heap H locs → lv_has ls 3 [(0, .ref a8), (1, .int y4_1), (2, .int y4_2)] → (wl_X8_price_4 Q v8_pegs f8_cost f8_stands  n_4 y4_1 y4_2) → W p l e (headSpec wsX8_price ({ frames := 0, cells := 0, slots := 0, locals := 0 } : Room)).room s m [.ref a8].toArray below meth c H locs 0 0 (MQ below (va_Qi (fun r (u : Unit) => Q r) (fun (u : Unit) t => va_P (dC, dI) vwCl [(a8, .inr (8, [.int v8_length, .int v8_bends, .ref a8_bendA, .ref a8_bendB, .ref a8_curve, .int v8_isLaid, .ref a8_aside, .int v8_pegs, .ref a8_place, .ref a8_cost, .ref a8_stands, .ref a8_side, .int v8_wind, .int v8_pull, .int v8_bow, .int v8_sway, .int v8_reach, .int v8_tension, .int v8_own, .int v8_droppers, .int v8_load, .int v8_hang, .ref a8_least, .ref a8_fits, .ref a8_size, .ref a8_fewest, .ref a8_used])), (a8_cost, .inl (cI, 40, .inl f8_cost)), (a8_stands, .inl (cZ, 40, .inl f8_stands))] t.heap ∧ va_K (dC, dI) vwCl [(cI, .int), (cJ, .long), (cZ, .boolean)] t ∧ va_D A [(a8, .inr (8, [.int v8_length, .int v8_bends, .ref a8_bendA, .ref a8_bendB, .ref a8_curve, .int v8_isLaid, .ref a8_aside, .int v8_pegs, .ref a8_place, .ref a8_cost, .ref a8_stands, .ref a8_side, .int v8_wind, .int v8_pull, .int v8_bow, .int v8_sway, .int v8_reach, .int v8_tension, .int v8_own, .int v8_droppers, .int v8_load, .int v8_hang, .ref a8_least, .ref a8_fits, .ref a8_size, .ref a8_fewest, .ref a8_used])), (a8_cost, .inl (cI, 40, .inl f8_cost)), (a8_stands, .inl (cZ, 40, .inl f8_stands))]) A) [.ref a8].toArray s 0 0 A) (F0 m 4 ls []) := by
    intro n_4
    induction n_4 with
    | zero =>
      intro y4_1 y4_2 H locs ls hP hD hS hl hw
      exact False.elim hw
    | succ n_4 ih_4 =>
      have k_32 : ∀  (y32_2 : Int32) (k32_0 : Int32) (k32_1 : Int32) (H : Heap) (locs : List Loc) (ls : Array Slot), va_P (dC, dI) vwCl [(a8, .inr (8, [.int v8_length, .int v8_bends, .ref a8_bendA, .ref a8_bendB, .ref a8_curve, .int v8_isLaid, .ref a8_aside, .int v8_pegs, .ref a8_place, .ref a8_cost, .ref a8_stands, .ref a8_side, .int v8_wind, .int v8_pull, .int v8_bow, .int v8_sway, .int v8_reach, .int v8_tension, .int v8_own, .int v8_droppers, .int v8_load, .int v8_hang, .ref a8_least, .ref a8_fits, .ref a8_size, .ref a8_fewest, .ref a8_used])), (a8_cost, .inl (cI, 40, .inl f8_cost)), (a8_stands, .inl (cZ, 40, .inl f8_stands))] H → va_D A [(a8, .inr (8, [.int v8_length, .int v8_bends, .ref a8_bendA, .ref a8_bendB, .ref a8_curve, .int v8_isLaid, .ref a8_aside, .int v8_pegs, .ref a8_place, .ref a8_cost, .ref a8_stands, .ref a8_side, .int v8_wind, .int v8_pull, .int v8_bow, .int v8_sway, .int v8_reach, .int v8_tension, .int v8_own, .int v8_droppers, .int v8_load, .int v8_hang, .ref a8_least, .ref a8_fits, .ref a8_size, .ref a8_fewest, .ref a8_used])), (a8_cost, .inl (cI, 40, .inl f8_cost)), (a8_stands, .inl (cZ, 40, .inl f8_stands))] → va_S A s.heap H locs → lv_has ls 3 [(0, .ref a8), (2, .int y32_2)] → (wb_X8_price_32 Q v8_pegs f8_cost f8_stands (wl_X8_price_4 Q v8_pegs f8_cost f8_stands  n_4) y32_2 k32_0 k32_1) → W p l e (headSpec wsX8_price ({ frames := 0, cells := 0, slots := 0, locals := 0 } : Room)).room s m [.ref a8].toArray below meth c H locs 0 0 (MQ below (va_Qi (fun r (u : Unit) => Q r) (fun (u : Unit) t => va_P (dC, dI) vwCl [(a8, .inr (8, [.int v8_length, .int v8_bends, .ref a8_bendA, .ref a8_bendB, .ref a8_curve, .int v8_isLaid, .ref a8_aside, .int v8_pegs, .ref a8_place, .ref a8_cost, .ref a8_stands, .ref a8_side, .int v8_wind, .int v8_pull, .int v8_bow, .int v8_sway, .int v8_reach, .int v8_tension, .int v8_own, .int v8_droppers, .int v8_load, .int v8_hang, .ref a8_least, .ref a8_fits, .ref a8_size, .ref a8_fewest, .ref a8_used])), (a8_cost, .inl (cI, 40, .inl f8_cost)), (a8_stands, .inl (cZ, 40, .inl f8_stands))] t.heap ∧ va_K (dC, dI) vwCl [(cI, .int), (cJ, .long), (cZ, .boolean)] t ∧ va_D A [(a8, .inr (8, [.int v8_length, .int v8_bends, .ref a8_bendA, .ref a8_bendB, .ref a8_curve, .int v8_isLaid, .ref a8_aside, .int v8_pegs, .ref a8_place, .ref a8_cost, .ref a8_stands, .ref a8_side, .int v8_wind, .int v8_pull, .int v8_bow, .int v8_sway, .int v8_reach, .int v8_tension, .int v8_own, .int v8_droppers, .int v8_load, .int v8_hang, .ref a8_least, .ref a8_fits, .ref a8_size, .ref a8_fewest, .ref a8_used])), (a8_cost, .inl (cI, 40, .inl f8_cost)), (a8_stands, .inl (cZ, 40, .inl f8_stands))]) A) [.ref a8].toArray s 0 0 A) (F0 m 32 ls [.int k32_0, .int k32_1]) := by
        intro y32_2 k32_0 k32_1 H locs ls hP hD hS hl hw
        unfold wb_X8_price_32 at hw
        refine lv_iadd hx hb dX8_price_32 ?_
        refine lv_topi (fun x4 ex4 => ?_)
        replace hw := hw x4 ex4
        refine lv_istore_n (lv' := [(1, .int x4), (0, .ref a8), (2, .int y32_2)]) hx hb dX8_price_33 rfl hl (by decide) rfl (fun ls hl => ?_)
        obtain ⟨x5, ex5⟩ : ∃ y : Int32, y = y32_2 + (1 : Int32) := ⟨_, rfl⟩
        replace hw := hw x5 ex5
        refine lv_iinc (v := x5) (lv' := [(2, .int x5), (1, .int x4), (0, .ref a8)]) hx hb dX8_price_34 hl (k := 2) rfl (by rw [ex5]; rfl) (by decide) rfl (fun ls hl => ?_)
        refine lv_goto (tgt := 4) hx hb dX8_price_37 (by decide) ?_
        exact ih_4 x4 x5 _ _ _ (hP.sub [0, 1, 2] rfl) (hD.sub [0, 1, 2] (by decide) rfl) hS (lv_sub hl [2, 1, 0] rfl) hw
      intro y4_1 y4_2 H locs ls hP hD hS hl hw
      replace hw : wb_X8_price_4 Q v8_pegs f8_cost f8_stands  (wl_X8_price_4 Q v8_pegs f8_cost f8_stands  n_4) y4_1 y4_2 := hw
      unfold wb_X8_price_4 at hw
      refine lv_iload_n hx hb dX8_price_4 rfl (lv_at hl 2 rfl) ?_
      refine lv_aload_n hx hb dX8_price_5 rfl (lv_at hl 0 rfl) ?_
      refine va_get (D := (dC, dI)) (ci := 8) (v := .int v8_pegs) (C := RX8) (T := TX8) (N := 27) hx hb hts inX8_price_X8 hown hK hP 0 rfl rfl 7 (by decide) lk1 (fun _ h9 => h9) rfl dX8_price_6 ?_
      refine lv_icmp_ge (tgt := 40) hx hb dX8_price_9 (by decide) (fun c1 => ?_) (fun c1 => ?_)
      · replace hw := hw.1 (c1)
        refine lv_iload_n hx hb dX8_price_40 rfl (lv_at hl 1 rfl) ?_
        have hP9 := hP.sub (ws' := [(a8, .inr (8, [.int v8_length, .int v8_bends, .ref a8_bendA, .ref a8_bendB, .ref a8_curve, .int v8_isLaid, .ref a8_aside, .int v8_pegs, .ref a8_place, .ref a8_cost, .ref a8_stands, .ref a8_side, .int v8_wind, .int v8_pull, .int v8_bow, .int v8_sway, .int v8_reach, .int v8_tension, .int v8_own, .int v8_droppers, .int v8_load, .int v8_hang, .ref a8_least, .ref a8_fits, .ref a8_size, .ref a8_fewest, .ref a8_used])), (a8_cost, .inl (cI, 40, .inl f8_cost)), (a8_stands, .inl (cZ, 40, .inl f8_stands))]) [0, 1, 2] rfl
        have hD9 := hD.sub (ws' := [(a8, .inr (8, [.int v8_length, .int v8_bends, .ref a8_bendA, .ref a8_bendB, .ref a8_curve, .int v8_isLaid, .ref a8_aside, .int v8_pegs, .ref a8_place, .ref a8_cost, .ref a8_stands, .ref a8_side, .int v8_wind, .int v8_pull, .int v8_bow, .int v8_sway, .int v8_reach, .int v8_tension, .int v8_own, .int v8_droppers, .int v8_load, .int v8_hang, .ref a8_least, .ref a8_fits, .ref a8_size, .ref a8_fewest, .ref a8_used])), (a8_cost, .inl (cI, 40, .inl f8_cost)), (a8_stands, .inl (cZ, 40, .inl f8_stands))]) [0, 1, 2] (by decide) rfl
        exact W.iret (v := y4_1) hx hb hr (fun t ht hW => ⟨⟨y4_1, (), rfl, hw, by rw [ht]; exact hP9, va_K.moved hW.alike hK, hD9⟩, hS.F ht⟩) hS.2.2 dX8_price_41
      · replace hw := hw.2 (c1)
        refine lv_iload_n hx hb dX8_price_12 rfl (lv_at hl 1 rfl) ?_
        refine lv_aload_n hx hb dX8_price_13 rfl (lv_at hl 0 rfl) ?_
        refine va_get (D := (dC, dI)) (ci := 8) (v := .ref a8_stands) (C := RX8) (T := TX8) (N := 27) hx hb hts inX8_price_X8 hown hK hP 0 rfl rfl 10 (by decide) lk2 (fun _ h9 => h9) rfl dX8_price_14 ?_
        refine lv_iload_n hx hb dX8_price_17 rfl (lv_at hl 2 rfl) ?_
        obtain ⟨h2, hw⟩ := hw
        refine va_zald hx hb hK hP 2 2 rfl rfl h2 dX8_price_18 ?_
        refine lv_if_eq (tgt := 31) hx hb dX8_price_19 (by decide) (fun c3 => ?_) (fun c3 => ?_)
        · replace hw := hw.1 (c3)
          refine lv_iconst (v := (0 : Int32)) hx hb dX8_price_31 (by decide) ?_
          exact k_32 y4_2 (0 : Int32) y4_1 _ _ _ (hP.sub [0, 1, 2] rfl) (hD.sub [0, 1, 2] (by decide) rfl) hS (lv_sub hl [0, 2] rfl) hw
        · replace hw := hw.2 (c3)
          refine lv_aload_n hx hb dX8_price_22 rfl (lv_at hl 0 rfl) ?_
          refine va_get (D := (dC, dI)) (ci := 8) (v := .ref a8_cost) (C := RX8) (T := TX8) (N := 27) hx hb hts inX8_price_X8 hown hK hP 0 rfl rfl 9 (by decide) lk3 (fun _ h9 => h9) rfl dX8_price_23 ?_
          refine lv_iload_n hx hb dX8_price_26 rfl (lv_at hl 2 rfl) ?_
          obtain ⟨h6, hw⟩ := hw
          refine va_iald hx hb hK hP 1 0 rfl rfl h6 dX8_price_27 ?_
          refine lv_goto (tgt := 32) hx hb dX8_price_28 (by decide) ?_
          exact k_32 y4_2 (f8_cost y4_2.toNatClampNeg) y4_1 _ _ _ (hP.sub [0, 1, 2] rfl) (hD.sub [0, 1, 2] (by decide) rfl) hS (lv_sub hl [0, 2] rfl) hw
  have hl := lv_entry ([.ref a8]) (n := 3) (Nat.le_of_ble_eq_true rfl)
  rw [lg_entry_eq]
  generalize (lg_sl ([.ref a8]) ++ List.replicate (3 - (lg_sl ([.ref a8])).length) Slot.unset).toArray = ls at hl ⊢
  have hl : lv_has ls 3 [(0, .ref a8)] := hl
  obtain ⟨H, hHe⟩ : ∃ H, H = s.heap := ⟨_, rfl⟩
  rw [← hHe] at hP
  have hS : va_S A s.heap H [] := by rw [hHe]; exact hS
  rw [← hHe]
  unfold wp_X8_price at hw
  refine lv_iconst (v := (0 : Int32)) hx hb dX8_price_0 (by decide) ?_
  refine lv_istore_n (lv' := [(1, .int (0 : Int32)), (0, .ref a8)]) hx hb dX8_price_1 rfl hl (by decide) rfl (fun ls hl => ?_)
  refine lv_iconst (v := (0 : Int32)) hx hb dX8_price_2 (by decide) ?_
  refine lv_istore_n (lv' := [(2, .int (0 : Int32)), (1, .int (0 : Int32)), (0, .ref a8)]) hx hb dX8_price_3 rfl hl (by decide) rfl (fun ls hl => ?_)
  obtain ⟨n_4, hw⟩ := hw
  exact k_4 n_4 (0 : Int32) (0 : Int32) _ _ _ (hP.sub [0, 1, 2] rfl) (hD.sub [0, 1, 2] (by decide) rfl) hS (lv_sub hl [2, 1, 0] rfl) hw
