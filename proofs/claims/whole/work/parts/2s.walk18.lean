theorem inX8_cut_X8 : ∀ w ∈ wsX80, w ∈ wsX8_cut := fun _ h => List.mem_cons_of_mem _ (List.mem_append_right _ h)
def wp_X8_cut (Q : Int32 → Prop) (v8_tension : Int32) (v8_own : Int32) (v8_droppers : Int32) (v8_load : Int32) (v8_hang : Int32) (p1 : Int32) (p2 : Int32) : Prop :=
  (wp_X8_in (fun r1 => ((r1 = 0 → (Q (-1000001 : Int32) )) ∧ (¬ r1 = 0 → (wp_X8_in (fun r3 => ((r3 = 0 → (Q (-1000002 : Int32) )) ∧ (¬ r3 = 0 → (wp_X8_cutOf (fun r5 => (Q r5 )) v8_tension v8_own v8_droppers v8_load v8_hang p1 p2)))) p1 (1 : Int32) (800 : Int32))))) p2 (0 : Int32) (v8_droppers - (1 : Int32)))
set_option maxHeartbeats 4000000 in
set_option maxRecDepth 100000 in
theorem c_X8_cut (l : Launch) (dC : Nat → ClassId) (dI : Nat → Nat → Nat) (cI cJ cZ : ClassId) (a8 : Nat) (a8_bendA : Nat) (a8_bendB : Nat) (a8_curve : Nat) (a8_aside : Nat) (a8_place : Nat) (a8_cost : Nat) (a8_stands : Nat) (a8_side : Nat) (a8_least : Nat) (a8_fits : Nat) (a8_size : Nat) (a8_fewest : Nat) (a8_used : Nat) (sz : Nat) (v8_length : Int32) (v8_bends : Int32) (v8_isLaid : Int32) (v8_pegs : Int32) (v8_wind : Int32) (v8_pull : Int32) (v8_bow : Int32) (v8_sway : Int32) (v8_reach : Int32) (v8_tension : Int32) (v8_own : Int32) (v8_droppers : Int32) (v8_load : Int32) (v8_hang : Int32) (p1 : Int32) (p2 : Int32) (Q : Int32 → Prop) (hw : wp_X8_cut Q v8_tension v8_own v8_droppers v8_load v8_hang p1 p2) : Met l yX8_cut wsX8_cut ({ frames := 3, cells := 0, slots := 0, locals := 83 } : Room) (va_Pc [.ref a8, .int p1, .int p2] (fun U => U.heap.size = sz ∧ va_P (dC, dI) vwCl [(a8, .inr (8, [.int v8_length, .int v8_bends, .ref a8_bendA, .ref a8_bendB, .ref a8_curve, .int v8_isLaid, .ref a8_aside, .int v8_pegs, .ref a8_place, .ref a8_cost, .ref a8_stands, .ref a8_side, .int v8_wind, .int v8_pull, .int v8_bow, .int v8_sway, .int v8_reach, .int v8_tension, .int v8_own, .int v8_droppers, .int v8_load, .int v8_hang, .ref a8_least, .ref a8_fits, .ref a8_size, .ref a8_fewest, .ref a8_used]))] U.heap ∧ va_K (dC, dI) vwCl [(cI, .int), (cJ, .long), (cZ, .boolean)] U ∧ va_D (fun _ => True) [(a8, .inr (8, [.int v8_length, .int v8_bends, .ref a8_bendA, .ref a8_bendB, .ref a8_curve, .int v8_isLaid, .ref a8_aside, .int v8_pegs, .ref a8_place, .ref a8_cost, .ref a8_stands, .ref a8_side, .int v8_wind, .int v8_pull, .int v8_bow, .int v8_sway, .int v8_reach, .int v8_tension, .int v8_own, .int v8_droppers, .int v8_load, .int v8_hang, .ref a8_least, .ref a8_fits, .ref a8_size, .ref a8_fewest, .ref a8_used]))])) (va_Qi (fun r (u : Unit) => Q r) (fun (u : Unit) t => va_P (dC, dI) vwCl [(a8, .inr (8, [.int v8_length, .int v8_bends, .ref a8_bendA, .ref a8_bendB, .ref a8_curve, .int v8_isLaid, .ref a8_aside, .int v8_pegs, .ref a8_place, .ref a8_cost, .ref a8_stands, .ref a8_side, .int v8_wind, .int v8_pull, .int v8_bow, .int v8_sway, .int v8_reach, .int v8_tension, .int v8_own, .int v8_droppers, .int v8_load, .int v8_hang, .ref a8_least, .ref a8_fits, .ref a8_size, .ref a8_fewest, .ref a8_used]))] t.heap ∧ va_K (dC, dI) vwCl [(cI, .int), (cJ, .long), (cZ, .boolean)] t ∧ va_D (va_A [(a8, .inr (8, [.int v8_length, .int v8_bends, .ref a8_bendA, .ref a8_bendB, .ref a8_curve, .int v8_isLaid, .ref a8_aside, .int v8_pegs, .ref a8_place, .ref a8_cost, .ref a8_stands, .ref a8_side, .int v8_wind, .int v8_pull, .int v8_bow, .int v8_sway, .int v8_reach, .int v8_tension, .int v8_own, .int v8_droppers, .int v8_load, .int v8_hang, .ref a8_least, .ref a8_fits, .ref a8_size, .ref a8_fewest, .ref a8_used]))] sz) [(a8, .inr (8, [.int v8_length, .int v8_bends, .ref a8_bendA, .ref a8_bendB, .ref a8_curve, .int v8_isLaid, .ref a8_aside, .int v8_pegs, .ref a8_place, .ref a8_cost, .ref a8_stands, .ref a8_side, .int v8_wind, .int v8_pull, .int v8_bow, .int v8_sway, .int v8_reach, .int v8_tension, .int v8_own, .int v8_droppers, .int v8_load, .int v8_hang, .ref a8_least, .ref a8_fits, .ref a8_size, .ref a8_fewest, .ref a8_used]))]) (va_A [(a8, .inr (8, [.int v8_length, .int v8_bends, .ref a8_bendA, .ref a8_bendB, .ref a8_curve, .int v8_isLaid, .ref a8_aside, .int v8_pegs, .ref a8_place, .ref a8_cost, .ref a8_stands, .ref a8_side, .int v8_wind, .int v8_pull, .int v8_bow, .int v8_sway, .int v8_reach, .int v8_tension, .int v8_own, .int v8_droppers, .int v8_load, .int v8_hang, .ref a8_least, .ref a8_fits, .ref a8_size, .ref a8_fewest, .ref a8_used]))] sz)) 0 0 (va_A [(a8, .inr (8, [.int v8_length, .int v8_bends, .ref a8_bendA, .ref a8_bendB, .ref a8_curve, .int v8_isLaid, .ref a8_aside, .int v8_pegs, .ref a8_place, .ref a8_cost, .ref a8_stands, .ref a8_side, .int v8_wind, .int v8_pull, .int v8_bow, .int v8_sway, .int v8_reach, .int v8_tension, .int v8_own, .int v8_droppers, .int v8_load, .int v8_hang, .ref a8_least, .ref a8_fits, .ref a8_size, .ref a8_fewest, .ref a8_used]))] sz) := by
  refine Met.ofW (cc := cX8_cut) (maxL := 3) (ret := (some .int)) (by decide) rfl ?_
  intro p e s m args below meth c s₁ B hml hv
  obtain ⟨rfl, hsz, hP, hK, hD0⟩ := hv
  have hx := B.exec
  have hb := B.bytes
  have hr := B.returns
  have hts := atoms_spec (ws := wsX8_cut) B.pre
  have hown : s.vm.findClass RX8 = some m.cls := findClass_of_methodNamed B.named
  have hlocks := B.notSynchronized
  subst hsz
  have hD := hD0.self (sz := s.heap.size)
  generalize hAe : va_A [(a8, .inr (8, [.int v8_length, .int v8_bends, .ref a8_bendA, .ref a8_bendB, .ref a8_curve, .int v8_isLaid, .ref a8_aside, .int v8_pegs, .ref a8_place, .ref a8_cost, .ref a8_stands, .ref a8_side, .int v8_wind, .int v8_pull, .int v8_bow, .int v8_sway, .int v8_reach, .int v8_tension, .int v8_own, .int v8_droppers, .int v8_load, .int v8_hang, .ref a8_least, .ref a8_fits, .ref a8_size, .ref a8_fewest, .ref a8_used]))] s.heap.size = A at hD ⊢
  have hA : ∀ q : Nat, s.heap.size ≤ q → A q := fun q h => by rw [← hAe]; exact Or.inr h
  have hS : va_S A s.heap s.heap [] := va_S.rf
  have hP : va_P (dC, dI) vwCl [(a8, .inr (8, [.int v8_length, .int v8_bends, .ref a8_bendA, .ref a8_bendB, .ref a8_curve, .int v8_isLaid, .ref a8_aside, .int v8_pegs, .ref a8_place, .ref a8_cost, .ref a8_stands, .ref a8_side, .int v8_wind, .int v8_pull, .int v8_bow, .int v8_sway, .int v8_reach, .int v8_tension, .int v8_own, .int v8_droppers, .int v8_load, .int v8_hang, .ref a8_least, .ref a8_fits, .ref a8_size, .ref a8_fewest, .ref a8_used]))] s.heap := hP
  have lk1 := hts (.fieldLink RX8 55 "WireRowModel" "droppers" "I") (by decide +kernel)
  have lk2 := hts (.constant RX8 178 (-1000002)) (by decide +kernel)
  have lk3 := hts (.constant RX8 173 (-1000001)) (by decide +kernel)
  have hl := lv_entry ([.ref a8, .int p1, .int p2]) (n := 3) (Nat.le_of_ble_eq_true rfl)
  rw [lg_entry_eq]
  generalize (lg_sl ([.ref a8, .int p1, .int p2]) ++ List.replicate (3 - (lg_sl ([.ref a8, .int p1, .int p2])).length) Slot.unset).toArray = ls at hl ⊢
  have hl : lv_has ls 3 [(0, .ref a8), (1, .int p1), (2, .int p2)] := hl
  obtain ⟨H, hHe⟩ : ∃ H, H = s.heap := ⟨_, rfl⟩
  rw [← hHe] at hP
  have hS : va_S A s.heap H [] := by rw [hHe]; exact hS
  rw [← hHe]
  unfold wp_X8_cut at hw
  refine lv_iload_n hx hb dX8_cut_0 rfl (lv_at hl 2 rfl) ?_
  refine lv_iconst (v := (0 : Int32)) hx hb dX8_cut_1 (by decide) ?_
  refine lv_aload_n hx hb dX8_cut_2 rfl (lv_at hl 0 rfl) ?_
  refine va_get (D := (dC, dI)) (ci := 8) (v := .int v8_droppers) (C := RX8) (T := TX8) (N := 27) hx hb hts inX8_cut_X8 hown hK hP 0 rfl rfl 19 (by decide) lk1 (fun _ h9 => h9) rfl dX8_cut_3 ?_
  refine lv_iconst (v := (1 : Int32)) hx hb dX8_cut_6 (by decide) ?_
  refine lv_isub hx hb dX8_cut_7 ?_
  have hPc := hP.sub (ws' := []) [] rfl
  have hDc := hD.sub (ws' := []) [] (by decide) rfl
  have hFc := va_free (wc := []) hD hS hA [] rfl
  refine va_calli (va_runS (As := [.int p2, .int (0 : Int32), .int (v8_droppers - (1 : Int32))]) (rest := []) ⟨hx, hb, hml, hown, hts⟩ (c_X8_in l dC dI cI cJ cZ H.size p2 (0 : Int32) (v8_droppers - (1 : Int32)) _ hw) (va_cwS 3 hts gX8_cut_X8_in rfl rfl rfl (by decide +kernel) ⟨Nat.le_of_ble_eq_true rfl, Nat.le_of_ble_eq_true rfl⟩) ⟨fun a U g mk q => by obtain ⟨q0, q1, qP, qK, qD⟩ := q; exact ⟨q0, q1, qP, va_K.moved (u := U) (U := U.calling g mk a) (Vm.Alike.refl U.vm) qK, qD⟩, fun U hU hW => ⟨rfl, by rw [hU], by rw [hU]; exact hPc, va_K.moved hW.alike hK, hDc.weaken (fun _ _ _ _ => trivial)⟩⟩ rfl rfl hl.1 rfl (lv_room (Nat.le_of_ble_eq_true rfl)) dX8_cut_8 ⟨(Nat.zero_le _), (Nat.zero_le _)⟩) hS (fun q _ h => hFc q h) hFc (fun r1 u t H1 locs ht hvm hw hB hz1 hk1 hS => ?_)
  obtain ⟨hP1, -, hD1⟩ := hB
  try dsimp only at hw
  rw [ht] at hP1
  obtain ⟨hP, hD⟩ := va_join (wr := [(a8, .inr (8, [.int v8_length, .int v8_bends, .ref a8_bendA, .ref a8_bendB, .ref a8_curve, .int v8_isLaid, .ref a8_aside, .int v8_pegs, .ref a8_place, .ref a8_cost, .ref a8_stands, .ref a8_side, .int v8_wind, .int v8_pull, .int v8_bow, .int v8_sway, .int v8_reach, .int v8_tension, .int v8_own, .int v8_droppers, .int v8_load, .int v8_hang, .ref a8_least, .ref a8_fits, .ref a8_size, .ref a8_fewest, .ref a8_used]))]) (w1 := []) hP hD [] [0] rfl rfl (by decide) (by decide) hk1 hFc hP1 hD1
  generalize H1 = H at hP hS ⊢
  have hP : va_P (dC, dI) vwCl [(a8, .inr (8, [.int v8_length, .int v8_bends, .ref a8_bendA, .ref a8_bendB, .ref a8_curve, .int v8_isLaid, .ref a8_aside, .int v8_pegs, .ref a8_place, .ref a8_cost, .ref a8_stands, .ref a8_side, .int v8_wind, .int v8_pull, .int v8_bow, .int v8_sway, .int v8_reach, .int v8_tension, .int v8_own, .int v8_droppers, .int v8_load, .int v8_hang, .ref a8_least, .ref a8_fits, .ref a8_size, .ref a8_fewest, .ref a8_used]))] H := hP
  have hD : va_D A [(a8, .inr (8, [.int v8_length, .int v8_bends, .ref a8_bendA, .ref a8_bendB, .ref a8_curve, .int v8_isLaid, .ref a8_aside, .int v8_pegs, .ref a8_place, .ref a8_cost, .ref a8_stands, .ref a8_side, .int v8_wind, .int v8_pull, .int v8_bow, .int v8_sway, .int v8_reach, .int v8_tension, .int v8_own, .int v8_droppers, .int v8_load, .int v8_hang, .ref a8_least, .ref a8_fits, .ref a8_size, .ref a8_fewest, .ref a8_used]))] := hD
  refine lv_if_ne (tgt := 17) hx hb dX8_cut_11 (by decide) (fun c2 => ?_) (fun c2 => ?_)
  · replace hw := hw.2 (c2)
    refine lv_iload_n hx hb dX8_cut_17 rfl (lv_at hl 1 rfl) ?_
    refine lv_iconst (v := (1 : Int32)) hx hb dX8_cut_18 (by decide) ?_
    refine lv_sipush (v := (800 : Int32)) hx hb dX8_cut_19 (by decide) ?_
    have hPc := hP.sub (ws' := []) [] rfl
    have hDc := hD.sub (ws' := []) [] (by decide) rfl
    have hFc := va_free (wc := []) hD hS hA [] rfl
    refine va_calli (va_runS (As := [.int p1, .int (1 : Int32), .int (800 : Int32)]) (rest := []) ⟨hx, hb, hml, hown, hts⟩ (c_X8_in l dC dI cI cJ cZ H.size p1 (1 : Int32) (800 : Int32) _ hw) (va_cwS 3 hts gX8_cut_X8_in rfl rfl rfl (by decide +kernel) ⟨Nat.le_of_ble_eq_true rfl, Nat.le_of_ble_eq_true rfl⟩) ⟨fun a U g mk q => by obtain ⟨q0, q1, qP, qK, qD⟩ := q; exact ⟨q0, q1, qP, va_K.moved (u := U) (U := U.calling g mk a) (Vm.Alike.refl U.vm) qK, qD⟩, fun U hU hW => ⟨rfl, by rw [hU], by rw [hU]; exact hPc, va_K.moved hW.alike hK, hDc.weaken (fun _ _ _ _ => trivial)⟩⟩ rfl rfl hl.1 rfl (lv_room (Nat.le_of_ble_eq_true rfl)) dX8_cut_22 ⟨(Nat.zero_le _), (Nat.zero_le _)⟩) hS (fun q _ h => hFc q h) hFc (fun r3 u t H1 locs ht hvm hw hB hz1 hk1 hS => ?_)
    obtain ⟨hP1, -, hD1⟩ := hB
    try dsimp only at hw
    rw [ht] at hP1
    obtain ⟨hP, hD⟩ := va_join (wr := [(a8, .inr (8, [.int v8_length, .int v8_bends, .ref a8_bendA, .ref a8_bendB, .ref a8_curve, .int v8_isLaid, .ref a8_aside, .int v8_pegs, .ref a8_place, .ref a8_cost, .ref a8_stands, .ref a8_side, .int v8_wind, .int v8_pull, .int v8_bow, .int v8_sway, .int v8_reach, .int v8_tension, .int v8_own, .int v8_droppers, .int v8_load, .int v8_hang, .ref a8_least, .ref a8_fits, .ref a8_size, .ref a8_fewest, .ref a8_used]))]) (w1 := []) hP hD [] [0] rfl rfl (by decide) (by decide) hk1 hFc hP1 hD1
    generalize H1 = H at hP hS ⊢
    have hP : va_P (dC, dI) vwCl [(a8, .inr (8, [.int v8_length, .int v8_bends, .ref a8_bendA, .ref a8_bendB, .ref a8_curve, .int v8_isLaid, .ref a8_aside, .int v8_pegs, .ref a8_place, .ref a8_cost, .ref a8_stands, .ref a8_side, .int v8_wind, .int v8_pull, .int v8_bow, .int v8_sway, .int v8_reach, .int v8_tension, .int v8_own, .int v8_droppers, .int v8_load, .int v8_hang, .ref a8_least, .ref a8_fits, .ref a8_size, .ref a8_fewest, .ref a8_used]))] H := hP
    have hD : va_D A [(a8, .inr (8, [.int v8_length, .int v8_bends, .ref a8_bendA, .ref a8_bendB, .ref a8_curve, .int v8_isLaid, .ref a8_aside, .int v8_pegs, .ref a8_place, .ref a8_cost, .ref a8_stands, .ref a8_side, .int v8_wind, .int v8_pull, .int v8_bow, .int v8_sway, .int v8_reach, .int v8_tension, .int v8_own, .int v8_droppers, .int v8_load, .int v8_hang, .ref a8_least, .ref a8_fits, .ref a8_size, .ref a8_fewest, .ref a8_used]))] := hD
    refine lv_if_eq (tgt := 37) hx hb dX8_cut_25 (by decide) (fun c4 => ?_) (fun c4 => ?_)
    · replace hw := hw.1 (c4)
      refine lv_ldc (v := (-1000002 : Int32)) hx hb hown lk2 dX8_cut_37 ?_
      have hP9 := hP.sub (ws' := [(a8, .inr (8, [.int v8_length, .int v8_bends, .ref a8_bendA, .ref a8_bendB, .ref a8_curve, .int v8_isLaid, .ref a8_aside, .int v8_pegs, .ref a8_place, .ref a8_cost, .ref a8_stands, .ref a8_side, .int v8_wind, .int v8_pull, .int v8_bow, .int v8_sway, .int v8_reach, .int v8_tension, .int v8_own, .int v8_droppers, .int v8_load, .int v8_hang, .ref a8_least, .ref a8_fits, .ref a8_size, .ref a8_fewest, .ref a8_used]))]) [0] rfl
      have hD9 := hD.sub (ws' := [(a8, .inr (8, [.int v8_length, .int v8_bends, .ref a8_bendA, .ref a8_bendB, .ref a8_curve, .int v8_isLaid, .ref a8_aside, .int v8_pegs, .ref a8_place, .ref a8_cost, .ref a8_stands, .ref a8_side, .int v8_wind, .int v8_pull, .int v8_bow, .int v8_sway, .int v8_reach, .int v8_tension, .int v8_own, .int v8_droppers, .int v8_load, .int v8_hang, .ref a8_least, .ref a8_fits, .ref a8_size, .ref a8_fewest, .ref a8_used]))]) [0] (by decide) rfl
      exact W.iret (v := (-1000002 : Int32)) hx hb hr (fun t ht hW => ⟨⟨(-1000002 : Int32), (), rfl, hw, by rw [ht]; exact hP9, va_K.moved hW.alike hK, hD9⟩, hS.F ht⟩) hS.2.2 dX8_cut_39
    · replace hw := hw.2 (c4)
      refine lv_aload_n hx hb dX8_cut_28 rfl (lv_at hl 0 rfl) ?_
      refine lv_iload_n hx hb dX8_cut_29 rfl (lv_at hl 1 rfl) ?_
      refine lv_iload_n hx hb dX8_cut_30 rfl (lv_at hl 2 rfl) ?_
      have hPc := hP.sub (ws' := [(a8, .inr (8, [.int v8_length, .int v8_bends, .ref a8_bendA, .ref a8_bendB, .ref a8_curve, .int v8_isLaid, .ref a8_aside, .int v8_pegs, .ref a8_place, .ref a8_cost, .ref a8_stands, .ref a8_side, .int v8_wind, .int v8_pull, .int v8_bow, .int v8_sway, .int v8_reach, .int v8_tension, .int v8_own, .int v8_droppers, .int v8_load, .int v8_hang, .ref a8_least, .ref a8_fits, .ref a8_size, .ref a8_fewest, .ref a8_used]))]) [0] rfl
      have hDc := hD.sub (ws' := [(a8, .inr (8, [.int v8_length, .int v8_bends, .ref a8_bendA, .ref a8_bendB, .ref a8_curve, .int v8_isLaid, .ref a8_aside, .int v8_pegs, .ref a8_place, .ref a8_cost, .ref a8_stands, .ref a8_side, .int v8_wind, .int v8_pull, .int v8_bow, .int v8_sway, .int v8_reach, .int v8_tension, .int v8_own, .int v8_droppers, .int v8_load, .int v8_hang, .ref a8_least, .ref a8_fits, .ref a8_size, .ref a8_fewest, .ref a8_used]))]) [0] (by decide) rfl
      have hFc := va_free (wc := [(a8, .inr (8, [.int v8_length, .int v8_bends, .ref a8_bendA, .ref a8_bendB, .ref a8_curve, .int v8_isLaid, .ref a8_aside, .int v8_pegs, .ref a8_place, .ref a8_cost, .ref a8_stands, .ref a8_side, .int v8_wind, .int v8_pull, .int v8_bow, .int v8_sway, .int v8_reach, .int v8_tension, .int v8_own, .int v8_droppers, .int v8_load, .int v8_hang, .ref a8_least, .ref a8_fits, .ref a8_size, .ref a8_fewest, .ref a8_used]))]) hD hS hA [0] rfl
      refine va_calli (va_runV (As := [.int p1, .int p2]) (rest := []) ⟨hx, hb, hml, hown, hts⟩ (c_X8_cutOf l dC dI cI cJ cZ a8 a8_bendA a8_bendB a8_curve a8_aside a8_place a8_cost a8_stands a8_side a8_least a8_fits a8_size a8_fewest a8_used H.size v8_length v8_bends v8_isLaid v8_pegs v8_wind v8_pull v8_bow v8_sway v8_reach v8_tension v8_own v8_droppers v8_load v8_hang p1 p2 _ hw) (cwV 2 hts gX8_cut_X8_cutOf rfl rfl rfl (by decide +kernel) ⟨Nat.le_of_ble_eq_true rfl, Nat.le_of_ble_eq_true rfl⟩) ⟨fun a U g mk q => by obtain ⟨q0, q1, qP, qK, qD⟩ := q; exact ⟨q0, q1, qP, va_K.moved (u := U) (U := U.calling g mk a) (Vm.Alike.refl U.vm) qK, qD⟩, va_recv hK hP (ci := 8) (q0 := 0) rfl rfl, fun U hU hW => ⟨rfl, by rw [hU], by rw [hU]; exact hPc, va_K.moved hW.alike hK, hDc.weaken (fun _ _ _ _ => trivial)⟩⟩ rfl rfl hl.1 rfl (lv_room (Nat.le_of_ble_eq_true rfl)) dX8_cut_31 ⟨(Nat.zero_le _), (Nat.zero_le _)⟩) hS (fun q _ h => hFc q h) hFc (fun r5 u t H1 locs ht hvm hw hB hz1 hk1 hS => ?_)
      obtain ⟨hP1, -, hD1⟩ := hB
      try dsimp only at hw
      rw [ht] at hP1
      obtain ⟨hP, hD⟩ := va_join (wr := []) (w1 := [(a8, .inr (8, [.int v8_length, .int v8_bends, .ref a8_bendA, .ref a8_bendB, .ref a8_curve, .int v8_isLaid, .ref a8_aside, .int v8_pegs, .ref a8_place, .ref a8_cost, .ref a8_stands, .ref a8_side, .int v8_wind, .int v8_pull, .int v8_bow, .int v8_sway, .int v8_reach, .int v8_tension, .int v8_own, .int v8_droppers, .int v8_load, .int v8_hang, .ref a8_least, .ref a8_fits, .ref a8_size, .ref a8_fewest, .ref a8_used]))]) hP hD [0] [] rfl rfl (by decide) (by decide) hk1 hFc hP1 hD1
      generalize H1 = H at hP hS ⊢
      have hP : va_P (dC, dI) vwCl [(a8, .inr (8, [.int v8_length, .int v8_bends, .ref a8_bendA, .ref a8_bendB, .ref a8_curve, .int v8_isLaid, .ref a8_aside, .int v8_pegs, .ref a8_place, .ref a8_cost, .ref a8_stands, .ref a8_side, .int v8_wind, .int v8_pull, .int v8_bow, .int v8_sway, .int v8_reach, .int v8_tension, .int v8_own, .int v8_droppers, .int v8_load, .int v8_hang, .ref a8_least, .ref a8_fits, .ref a8_size, .ref a8_fewest, .ref a8_used]))] H := hP
      have hD : va_D A [(a8, .inr (8, [.int v8_length, .int v8_bends, .ref a8_bendA, .ref a8_bendB, .ref a8_curve, .int v8_isLaid, .ref a8_aside, .int v8_pegs, .ref a8_place, .ref a8_cost, .ref a8_stands, .ref a8_side, .int v8_wind, .int v8_pull, .int v8_bow, .int v8_sway, .int v8_reach, .int v8_tension, .int v8_own, .int v8_droppers, .int v8_load, .int v8_hang, .ref a8_least, .ref a8_fits, .ref a8_size, .ref a8_fewest, .ref a8_used]))] := hD
      refine lv_goto (tgt := 39) hx hb dX8_cut_34 (by decide) ?_
      have hP9 := hP.sub (ws' := [(a8, .inr (8, [.int v8_length, .int v8_bends, .ref a8_bendA, .ref a8_bendB, .ref a8_curve, .int v8_isLaid, .ref a8_aside, .int v8_pegs, .ref a8_place, .ref a8_cost, .ref a8_stands, .ref a8_side, .int v8_wind, .int v8_pull, .int v8_bow, .int v8_sway, .int v8_reach, .int v8_tension, .int v8_own, .int v8_droppers, .int v8_load, .int v8_hang, .ref a8_least, .ref a8_fits, .ref a8_size, .ref a8_fewest, .ref a8_used]))]) [0] rfl
      have hD9 := hD.sub (ws' := [(a8, .inr (8, [.int v8_length, .int v8_bends, .ref a8_bendA, .ref a8_bendB, .ref a8_curve, .int v8_isLaid, .ref a8_aside, .int v8_pegs, .ref a8_place, .ref a8_cost, .ref a8_stands, .ref a8_side, .int v8_wind, .int v8_pull, .int v8_bow, .int v8_sway, .int v8_reach, .int v8_tension, .int v8_own, .int v8_droppers, .int v8_load, .int v8_hang, .ref a8_least, .ref a8_fits, .ref a8_size, .ref a8_fewest, .ref a8_used]))]) [0] (by decide) rfl
      exact W.iret (v := r5) hx hb hr (fun t ht hW => ⟨⟨r5, (), rfl, hw, by rw [ht]; exact hP9, va_K.moved hW.alike hK, hD9⟩, hS.F ht⟩) hS.2.2 dX8_cut_39
  · replace hw := hw.1 (c2)
    refine lv_ldc (v := (-1000001 : Int32)) hx hb hown lk3 dX8_cut_14 ?_
    have hP9 := hP.sub (ws' := [(a8, .inr (8, [.int v8_length, .int v8_bends, .ref a8_bendA, .ref a8_bendB, .ref a8_curve, .int v8_isLaid, .ref a8_aside, .int v8_pegs, .ref a8_place, .ref a8_cost, .ref a8_stands, .ref a8_side, .int v8_wind, .int v8_pull, .int v8_bow, .int v8_sway, .int v8_reach, .int v8_tension, .int v8_own, .int v8_droppers, .int v8_load, .int v8_hang, .ref a8_least, .ref a8_fits, .ref a8_size, .ref a8_fewest, .ref a8_used]))]) [0] rfl
    have hD9 := hD.sub (ws' := [(a8, .inr (8, [.int v8_length, .int v8_bends, .ref a8_bendA, .ref a8_bendB, .ref a8_curve, .int v8_isLaid, .ref a8_aside, .int v8_pegs, .ref a8_place, .ref a8_cost, .ref a8_stands, .ref a8_side, .int v8_wind, .int v8_pull, .int v8_bow, .int v8_sway, .int v8_reach, .int v8_tension, .int v8_own, .int v8_droppers, .int v8_load, .int v8_hang, .ref a8_least, .ref a8_fits, .ref a8_size, .ref a8_fewest, .ref a8_used]))]) [0] (by decide) rfl
    exact W.iret (v := (-1000001 : Int32)) hx hb hr (fun t ht hW => ⟨⟨(-1000001 : Int32), (), rfl, hw, by rw [ht]; exact hP9, va_K.moved hW.alike hK, hD9⟩, hS.F ht⟩) hS.2.2 dX8_cut_16

theorem inX8_bears_X8 : ∀ w ∈ wsX80, w ∈ wsX8_bears := fun _ h => List.mem_cons_of_mem _ (List.mem_append_right _ h)
def wp_X8_bears (Q : Int64 → Prop) (v8_own : Int32) (v8_droppers : Int32) (v8_load : Int32) (p1 : Int32) (p2 : Int32) : Prop :=
  (wp_X8_in (fun r1 => ((r1 = 0 → (Q (-1000000000000002 : Int64) )) ∧ (¬ r1 = 0 → (wp_X8_in (fun r3 => ((r3 = 0 → (Q (-1000000000000002 : Int64) )) ∧ (¬ r3 = 0 → (wp_X8_part (fun r5 => (Q r5 )) ((v8_own.toInt64 * p1.toInt64) + (v8_droppers.toInt64 * v8_load.toInt64)) (2 : Int64) p2)))) p2 (0 : Int32) (1 : Int32))))) p1 (1 : Int32) (800 : Int32))
set_option maxHeartbeats 4000000 in
set_option maxRecDepth 100000 in
theorem c_X8_bears (l : Launch) (dC : Nat → ClassId) (dI : Nat → Nat → Nat) (cI cJ cZ : ClassId) (a8 : Nat) (a8_bendA : Nat) (a8_bendB : Nat) (a8_curve : Nat) (a8_aside : Nat) (a8_place : Nat) (a8_cost : Nat) (a8_stands : Nat) (a8_side : Nat) (a8_least : Nat) (a8_fits : Nat) (a8_size : Nat) (a8_fewest : Nat) (a8_used : Nat) (sz : Nat) (v8_length : Int32) (v8_bends : Int32) (v8_isLaid : Int32) (v8_pegs : Int32) (v8_wind : Int32) (v8_pull : Int32) (v8_bow : Int32) (v8_sway : Int32) (v8_reach : Int32) (v8_tension : Int32) (v8_own : Int32) (v8_droppers : Int32) (v8_load : Int32) (v8_hang : Int32) (p1 : Int32) (p2 : Int32) (Q : Int64 → Prop) (hw : wp_X8_bears Q v8_own v8_droppers v8_load p1 p2) : Met l yX8_bears wsX8_bears ({ frames := 2, cells := 0, slots := 0, locals := 55 } : Room) (va_Pc [.ref a8, .int p1, .int p2] (fun U => U.heap.size = sz ∧ va_P (dC, dI) vwCl [(a8, .inr (8, [.int v8_length, .int v8_bends, .ref a8_bendA, .ref a8_bendB, .ref a8_curve, .int v8_isLaid, .ref a8_aside, .int v8_pegs, .ref a8_place, .ref a8_cost, .ref a8_stands, .ref a8_side, .int v8_wind, .int v8_pull, .int v8_bow, .int v8_sway, .int v8_reach, .int v8_tension, .int v8_own, .int v8_droppers, .int v8_load, .int v8_hang, .ref a8_least, .ref a8_fits, .ref a8_size, .ref a8_fewest, .ref a8_used]))] U.heap ∧ va_K (dC, dI) vwCl [(cI, .int), (cJ, .long), (cZ, .boolean)] U ∧ va_D (fun _ => True) [(a8, .inr (8, [.int v8_length, .int v8_bends, .ref a8_bendA, .ref a8_bendB, .ref a8_curve, .int v8_isLaid, .ref a8_aside, .int v8_pegs, .ref a8_place, .ref a8_cost, .ref a8_stands, .ref a8_side, .int v8_wind, .int v8_pull, .int v8_bow, .int v8_sway, .int v8_reach, .int v8_tension, .int v8_own, .int v8_droppers, .int v8_load, .int v8_hang, .ref a8_least, .ref a8_fits, .ref a8_size, .ref a8_fewest, .ref a8_used]))])) (va_Ql (fun r (u : Unit) => Q r) (fun (u : Unit) t => va_P (dC, dI) vwCl [(a8, .inr (8, [.int v8_length, .int v8_bends, .ref a8_bendA, .ref a8_bendB, .ref a8_curve, .int v8_isLaid, .ref a8_aside, .int v8_pegs, .ref a8_place, .ref a8_cost, .ref a8_stands, .ref a8_side, .int v8_wind, .int v8_pull, .int v8_bow, .int v8_sway, .int v8_reach, .int v8_tension, .int v8_own, .int v8_droppers, .int v8_load, .int v8_hang, .ref a8_least, .ref a8_fits, .ref a8_size, .ref a8_fewest, .ref a8_used]))] t.heap ∧ va_K (dC, dI) vwCl [(cI, .int), (cJ, .long), (cZ, .boolean)] t ∧ va_D (va_A [(a8, .inr (8, [.int v8_length, .int v8_bends, .ref a8_bendA, .ref a8_bendB, .ref a8_curve, .int v8_isLaid, .ref a8_aside, .int v8_pegs, .ref a8_place, .ref a8_cost, .ref a8_stands, .ref a8_side, .int v8_wind, .int v8_pull, .int v8_bow, .int v8_sway, .int v8_reach, .int v8_tension, .int v8_own, .int v8_droppers, .int v8_load, .int v8_hang, .ref a8_least, .ref a8_fits, .ref a8_size, .ref a8_fewest, .ref a8_used]))] sz) [(a8, .inr (8, [.int v8_length, .int v8_bends, .ref a8_bendA, .ref a8_bendB, .ref a8_curve, .int v8_isLaid, .ref a8_aside, .int v8_pegs, .ref a8_place, .ref a8_cost, .ref a8_stands, .ref a8_side, .int v8_wind, .int v8_pull, .int v8_bow, .int v8_sway, .int v8_reach, .int v8_tension, .int v8_own, .int v8_droppers, .int v8_load, .int v8_hang, .ref a8_least, .ref a8_fits, .ref a8_size, .ref a8_fewest, .ref a8_used]))]) (va_A [(a8, .inr (8, [.int v8_length, .int v8_bends, .ref a8_bendA, .ref a8_bendB, .ref a8_curve, .int v8_isLaid, .ref a8_aside, .int v8_pegs, .ref a8_place, .ref a8_cost, .ref a8_stands, .ref a8_side, .int v8_wind, .int v8_pull, .int v8_bow, .int v8_sway, .int v8_reach, .int v8_tension, .int v8_own, .int v8_droppers, .int v8_load, .int v8_hang, .ref a8_least, .ref a8_fits, .ref a8_size, .ref a8_fewest, .ref a8_used]))] sz)) 0 0 (va_A [(a8, .inr (8, [.int v8_length, .int v8_bends, .ref a8_bendA, .ref a8_bendB, .ref a8_curve, .int v8_isLaid, .ref a8_aside, .int v8_pegs, .ref a8_place, .ref a8_cost, .ref a8_stands, .ref a8_side, .int v8_wind, .int v8_pull, .int v8_bow, .int v8_sway, .int v8_reach, .int v8_tension, .int v8_own, .int v8_droppers, .int v8_load, .int v8_hang, .ref a8_least, .ref a8_fits, .ref a8_size, .ref a8_fewest, .ref a8_used]))] sz) := by
  refine Met.ofW (cc := cX8_bears) (maxL := 3) (ret := (some .long)) (by decide) rfl ?_
  intro p e s m args below meth c s₁ B hml hv
  obtain ⟨rfl, hsz, hP, hK, hD0⟩ := hv
  have hx := B.exec
  have hb := B.bytes
  have hr := B.returns
  have hts := atoms_spec (ws := wsX8_bears) B.pre
  have hown : s.vm.findClass RX8 = some m.cls := findClass_of_methodNamed B.named
  have hlocks := B.notSynchronized
  subst hsz
  have hD := hD0.self (sz := s.heap.size)
  generalize hAe : va_A [(a8, .inr (8, [.int v8_length, .int v8_bends, .ref a8_bendA, .ref a8_bendB, .ref a8_curve, .int v8_isLaid, .ref a8_aside, .int v8_pegs, .ref a8_place, .ref a8_cost, .ref a8_stands, .ref a8_side, .int v8_wind, .int v8_pull, .int v8_bow, .int v8_sway, .int v8_reach, .int v8_tension, .int v8_own, .int v8_droppers, .int v8_load, .int v8_hang, .ref a8_least, .ref a8_fits, .ref a8_size, .ref a8_fewest, .ref a8_used]))] s.heap.size = A at hD ⊢
  have hA : ∀ q : Nat, s.heap.size ≤ q → A q := fun q h => by rw [← hAe]; exact Or.inr h
  have hS : va_S A s.heap s.heap [] := va_S.rf
  have hP : va_P (dC, dI) vwCl [(a8, .inr (8, [.int v8_length, .int v8_bends, .ref a8_bendA, .ref a8_bendB, .ref a8_curve, .int v8_isLaid, .ref a8_aside, .int v8_pegs, .ref a8_place, .ref a8_cost, .ref a8_stands, .ref a8_side, .int v8_wind, .int v8_pull, .int v8_bow, .int v8_sway, .int v8_reach, .int v8_tension, .int v8_own, .int v8_droppers, .int v8_load, .int v8_hang, .ref a8_least, .ref a8_fits, .ref a8_size, .ref a8_fewest, .ref a8_used]))] s.heap := hP
  have lk1 := hts (.constantLong RX8 134 (-1000000000000002)) (by decide +kernel)
  have lk2 := hts (.fieldLink RX8 52 "WireRowModel" "own" "I") (by decide +kernel)
  have lk3 := hts (.fieldLink RX8 55 "WireRowModel" "droppers" "I") (by decide +kernel)
  have lk4 := hts (.fieldLink RX8 58 "WireRowModel" "load" "I") (by decide +kernel)
  have lk5 := hts (.constantLong RX8 156 (2)) (by decide +kernel)
  have hl := lv_entry ([.ref a8, .int p1, .int p2]) (n := 3) (Nat.le_of_ble_eq_true rfl)
  rw [lg_entry_eq]
  generalize (lg_sl ([.ref a8, .int p1, .int p2]) ++ List.replicate (3 - (lg_sl ([.ref a8, .int p1, .int p2])).length) Slot.unset).toArray = ls at hl ⊢
  have hl : lv_has ls 3 [(0, .ref a8), (1, .int p1), (2, .int p2)] := hl
  obtain ⟨H, hHe⟩ : ∃ H, H = s.heap := ⟨_, rfl⟩
  rw [← hHe] at hP
  have hS : va_S A s.heap H [] := by rw [hHe]; exact hS
  rw [← hHe]
  unfold wp_X8_bears at hw
  refine lv_iload_n hx hb dX8_bears_0 rfl (lv_at hl 1 rfl) ?_
  refine lv_iconst (v := (1 : Int32)) hx hb dX8_bears_1 (by decide) ?_
  refine lv_sipush (v := (800 : Int32)) hx hb dX8_bears_2 (by decide) ?_
  have hPc := hP.sub (ws' := []) [] rfl
  have hDc := hD.sub (ws' := []) [] (by decide) rfl
  have hFc := va_free (wc := []) hD hS hA [] rfl
  refine va_calli (va_runS (As := [.int p1, .int (1 : Int32), .int (800 : Int32)]) (rest := []) ⟨hx, hb, hml, hown, hts⟩ (c_X8_in l dC dI cI cJ cZ H.size p1 (1 : Int32) (800 : Int32) _ hw) (va_cwS 3 hts gX8_bears_X8_in rfl rfl rfl (by decide +kernel) ⟨Nat.le_of_ble_eq_true rfl, Nat.le_of_ble_eq_true rfl⟩) ⟨fun a U g mk q => by obtain ⟨q0, q1, qP, qK, qD⟩ := q; exact ⟨q0, q1, qP, va_K.moved (u := U) (U := U.calling g mk a) (Vm.Alike.refl U.vm) qK, qD⟩, fun U hU hW => ⟨rfl, by rw [hU], by rw [hU]; exact hPc, va_K.moved hW.alike hK, hDc.weaken (fun _ _ _ _ => trivial)⟩⟩ rfl rfl hl.1 rfl (lv_room (Nat.le_of_ble_eq_true rfl)) dX8_bears_5 ⟨(Nat.zero_le _), (Nat.zero_le _)⟩) hS (fun q _ h => hFc q h) hFc (fun r1 u t H1 locs ht hvm hw hB hz1 hk1 hS => ?_)
  obtain ⟨hP1, -, hD1⟩ := hB
  try dsimp only at hw
  rw [ht] at hP1
  obtain ⟨hP, hD⟩ := va_join (wr := [(a8, .inr (8, [.int v8_length, .int v8_bends, .ref a8_bendA, .ref a8_bendB, .ref a8_curve, .int v8_isLaid, .ref a8_aside, .int v8_pegs, .ref a8_place, .ref a8_cost, .ref a8_stands, .ref a8_side, .int v8_wind, .int v8_pull, .int v8_bow, .int v8_sway, .int v8_reach, .int v8_tension, .int v8_own, .int v8_droppers, .int v8_load, .int v8_hang, .ref a8_least, .ref a8_fits, .ref a8_size, .ref a8_fewest, .ref a8_used]))]) (w1 := []) hP hD [] [0] rfl rfl (by decide) (by decide) hk1 hFc hP1 hD1
  generalize H1 = H at hP hS ⊢
  have hP : va_P (dC, dI) vwCl [(a8, .inr (8, [.int v8_length, .int v8_bends, .ref a8_bendA, .ref a8_bendB, .ref a8_curve, .int v8_isLaid, .ref a8_aside, .int v8_pegs, .ref a8_place, .ref a8_cost, .ref a8_stands, .ref a8_side, .int v8_wind, .int v8_pull, .int v8_bow, .int v8_sway, .int v8_reach, .int v8_tension, .int v8_own, .int v8_droppers, .int v8_load, .int v8_hang, .ref a8_least, .ref a8_fits, .ref a8_size, .ref a8_fewest, .ref a8_used]))] H := hP
  have hD : va_D A [(a8, .inr (8, [.int v8_length, .int v8_bends, .ref a8_bendA, .ref a8_bendB, .ref a8_curve, .int v8_isLaid, .ref a8_aside, .int v8_pegs, .ref a8_place, .ref a8_cost, .ref a8_stands, .ref a8_side, .int v8_wind, .int v8_pull, .int v8_bow, .int v8_sway, .int v8_reach, .int v8_tension, .int v8_own, .int v8_droppers, .int v8_load, .int v8_hang, .ref a8_least, .ref a8_fits, .ref a8_size, .ref a8_fewest, .ref a8_used]))] := hD
  refine lv_if_eq (tgt := 20) hx hb dX8_bears_8 (by decide) (fun c2 => ?_) (fun c2 => ?_)
  · replace hw := hw.1 (c2)
    refine lv_ldc2 (v := (-1000000000000002 : Int64)) hx hb hown lk1 dX8_bears_20 ?_
    have hP9 := hP.sub (ws' := [(a8, .inr (8, [.int v8_length, .int v8_bends, .ref a8_bendA, .ref a8_bendB, .ref a8_curve, .int v8_isLaid, .ref a8_aside, .int v8_pegs, .ref a8_place, .ref a8_cost, .ref a8_stands, .ref a8_side, .int v8_wind, .int v8_pull, .int v8_bow, .int v8_sway, .int v8_reach, .int v8_tension, .int v8_own, .int v8_droppers, .int v8_load, .int v8_hang, .ref a8_least, .ref a8_fits, .ref a8_size, .ref a8_fewest, .ref a8_used]))]) [0] rfl
    have hD9 := hD.sub (ws' := [(a8, .inr (8, [.int v8_length, .int v8_bends, .ref a8_bendA, .ref a8_bendB, .ref a8_curve, .int v8_isLaid, .ref a8_aside, .int v8_pegs, .ref a8_place, .ref a8_cost, .ref a8_stands, .ref a8_side, .int v8_wind, .int v8_pull, .int v8_bow, .int v8_sway, .int v8_reach, .int v8_tension, .int v8_own, .int v8_droppers, .int v8_load, .int v8_hang, .ref a8_least, .ref a8_fits, .ref a8_size, .ref a8_fewest, .ref a8_used]))]) [0] (by decide) rfl
    exact W.lret (v := (-1000000000000002 : Int64)) hx hb hr (fun t ht hW => ⟨⟨(-1000000000000002 : Int64), (), rfl, hw, by rw [ht]; exact hP9, va_K.moved hW.alike hK, hD9⟩, hS.F ht⟩) hS.2.2 dX8_bears_23
  · replace hw := hw.2 (c2)
    refine lv_iload_n hx hb dX8_bears_11 rfl (lv_at hl 2 rfl) ?_
    refine lv_iconst (v := (0 : Int32)) hx hb dX8_bears_12 (by decide) ?_
    refine lv_iconst (v := (1 : Int32)) hx hb dX8_bears_13 (by decide) ?_
    have hPc := hP.sub (ws' := []) [] rfl
    have hDc := hD.sub (ws' := []) [] (by decide) rfl
    have hFc := va_free (wc := []) hD hS hA [] rfl
    refine va_calli (va_runS (As := [.int p2, .int (0 : Int32), .int (1 : Int32)]) (rest := []) ⟨hx, hb, hml, hown, hts⟩ (c_X8_in l dC dI cI cJ cZ H.size p2 (0 : Int32) (1 : Int32) _ hw) (va_cwS 3 hts gX8_bears_X8_in rfl rfl rfl (by decide +kernel) ⟨Nat.le_of_ble_eq_true rfl, Nat.le_of_ble_eq_true rfl⟩) ⟨fun a U g mk q => by obtain ⟨q0, q1, qP, qK, qD⟩ := q; exact ⟨q0, q1, qP, va_K.moved (u := U) (U := U.calling g mk a) (Vm.Alike.refl U.vm) qK, qD⟩, fun U hU hW => ⟨rfl, by rw [hU], by rw [hU]; exact hPc, va_K.moved hW.alike hK, hDc.weaken (fun _ _ _ _ => trivial)⟩⟩ rfl rfl hl.1 rfl (lv_room (Nat.le_of_ble_eq_true rfl)) dX8_bears_14 ⟨(Nat.zero_le _), (Nat.zero_le _)⟩) hS (fun q _ h => hFc q h) hFc (fun r3 u t H1 locs ht hvm hw hB hz1 hk1 hS => ?_)
    obtain ⟨hP1, -, hD1⟩ := hB
    try dsimp only at hw
    rw [ht] at hP1
    obtain ⟨hP, hD⟩ := va_join (wr := [(a8, .inr (8, [.int v8_length, .int v8_bends, .ref a8_bendA, .ref a8_bendB, .ref a8_curve, .int v8_isLaid, .ref a8_aside, .int v8_pegs, .ref a8_place, .ref a8_cost, .ref a8_stands, .ref a8_side, .int v8_wind, .int v8_pull, .int v8_bow, .int v8_sway, .int v8_reach, .int v8_tension, .int v8_own, .int v8_droppers, .int v8_load, .int v8_hang, .ref a8_least, .ref a8_fits, .ref a8_size, .ref a8_fewest, .ref a8_used]))]) (w1 := []) hP hD [] [0] rfl rfl (by decide) (by decide) hk1 hFc hP1 hD1
    generalize H1 = H at hP hS ⊢
    have hP : va_P (dC, dI) vwCl [(a8, .inr (8, [.int v8_length, .int v8_bends, .ref a8_bendA, .ref a8_bendB, .ref a8_curve, .int v8_isLaid, .ref a8_aside, .int v8_pegs, .ref a8_place, .ref a8_cost, .ref a8_stands, .ref a8_side, .int v8_wind, .int v8_pull, .int v8_bow, .int v8_sway, .int v8_reach, .int v8_tension, .int v8_own, .int v8_droppers, .int v8_load, .int v8_hang, .ref a8_least, .ref a8_fits, .ref a8_size, .ref a8_fewest, .ref a8_used]))] H := hP
    have hD : va_D A [(a8, .inr (8, [.int v8_length, .int v8_bends, .ref a8_bendA, .ref a8_bendB, .ref a8_curve, .int v8_isLaid, .ref a8_aside, .int v8_pegs, .ref a8_place, .ref a8_cost, .ref a8_stands, .ref a8_side, .int v8_wind, .int v8_pull, .int v8_bow, .int v8_sway, .int v8_reach, .int v8_tension, .int v8_own, .int v8_droppers, .int v8_load, .int v8_hang, .ref a8_least, .ref a8_fits, .ref a8_size, .ref a8_fewest, .ref a8_used]))] := hD
    refine lv_if_ne (tgt := 24) hx hb dX8_bears_17 (by decide) (fun c4 => ?_) (fun c4 => ?_)
    · replace hw := hw.2 (c4)
      refine lv_aload_n hx hb dX8_bears_24 rfl (lv_at hl 0 rfl) ?_
      refine va_get (D := (dC, dI)) (ci := 8) (v := .int v8_own) (C := RX8) (T := TX8) (N := 27) hx hb hts inX8_bears_X8 hown hK hP 0 rfl rfl 18 (by decide) lk2 (fun _ h9 => h9) rfl dX8_bears_25 ?_
      refine lv_i2l (v := v8_own.toInt64) hx hb dX8_bears_28 rfl ?_
      refine lv_iload_n hx hb dX8_bears_29 rfl (lv_at hl 1 rfl) ?_
      refine lv_i2l (v := p1.toInt64) hx hb dX8_bears_30 rfl ?_
      refine lv_lmul hx hb dX8_bears_31 ?_
      refine lv_aload_n hx hb dX8_bears_32 rfl (lv_at hl 0 rfl) ?_
      refine va_get (D := (dC, dI)) (ci := 8) (v := .int v8_droppers) (C := RX8) (T := TX8) (N := 27) hx hb hts inX8_bears_X8 hown hK hP 0 rfl rfl 19 (by decide) lk3 (fun _ h9 => h9) rfl dX8_bears_33 ?_
      refine lv_i2l (v := v8_droppers.toInt64) hx hb dX8_bears_36 rfl ?_
      refine lv_aload_n hx hb dX8_bears_37 rfl (lv_at hl 0 rfl) ?_
      refine va_get (D := (dC, dI)) (ci := 8) (v := .int v8_load) (C := RX8) (T := TX8) (N := 27) hx hb hts inX8_bears_X8 hown hK hP 0 rfl rfl 20 (by decide) lk4 (fun _ h9 => h9) rfl dX8_bears_38 ?_
      refine lv_i2l (v := v8_load.toInt64) hx hb dX8_bears_41 rfl ?_
      refine lv_lmul hx hb dX8_bears_42 ?_
      refine lv_ladd hx hb dX8_bears_43 ?_
      refine lv_ldc2 (v := (2 : Int64)) hx hb hown lk5 dX8_bears_44 ?_
      refine lv_iload_n hx hb dX8_bears_47 rfl (lv_at hl 2 rfl) ?_
      have hPc := hP.sub (ws' := []) [] rfl
      have hDc := hD.sub (ws' := []) [] (by decide) rfl
      have hFc := va_free (wc := []) hD hS hA [] rfl
      refine va_calll (va_runS (As := [.long ((v8_own.toInt64 * p1.toInt64) + (v8_droppers.toInt64 * v8_load.toInt64)), .long (2 : Int64), .int p2]) (rest := []) ⟨hx, hb, hml, hown, hts⟩ (c_X8_part l dC dI cI cJ cZ H.size ((v8_own.toInt64 * p1.toInt64) + (v8_droppers.toInt64 * v8_load.toInt64)) (2 : Int64) p2 _ hw) (va_cwS 3 hts gX8_bears_X8_part rfl rfl rfl (by decide +kernel) ⟨Nat.le_of_ble_eq_true rfl, Nat.le_of_ble_eq_true rfl⟩) ⟨fun a U g mk q => by obtain ⟨q0, q1, qP, qK, qD⟩ := q; exact ⟨q0, q1, qP, va_K.moved (u := U) (U := U.calling g mk a) (Vm.Alike.refl U.vm) qK, qD⟩, fun U hU hW => ⟨rfl, by rw [hU], by rw [hU]; exact hPc, va_K.moved hW.alike hK, hDc.weaken (fun _ _ _ _ => trivial)⟩⟩ rfl rfl hl.1 rfl (lv_room (Nat.le_of_ble_eq_true rfl)) dX8_bears_48 ⟨(Nat.zero_le _), (Nat.zero_le _)⟩) hS (fun q _ h => hFc q h) hFc (fun r5 u t H1 locs ht hvm hw hB hz1 hk1 hS => ?_)
      obtain ⟨hP1, -, hD1⟩ := hB
      try dsimp only at hw
      rw [ht] at hP1
      obtain ⟨hP, hD⟩ := va_join (wr := [(a8, .inr (8, [.int v8_length, .int v8_bends, .ref a8_bendA, .ref a8_bendB, .ref a8_curve, .int v8_isLaid, .ref a8_aside, .int v8_pegs, .ref a8_place, .ref a8_cost, .ref a8_stands, .ref a8_side, .int v8_wind, .int v8_pull, .int v8_bow, .int v8_sway, .int v8_reach, .int v8_tension, .int v8_own, .int v8_droppers, .int v8_load, .int v8_hang, .ref a8_least, .ref a8_fits, .ref a8_size, .ref a8_fewest, .ref a8_used]))]) (w1 := []) hP hD [] [0] rfl rfl (by decide) (by decide) hk1 hFc hP1 hD1
      generalize H1 = H at hP hS ⊢
      have hP : va_P (dC, dI) vwCl [(a8, .inr (8, [.int v8_length, .int v8_bends, .ref a8_bendA, .ref a8_bendB, .ref a8_curve, .int v8_isLaid, .ref a8_aside, .int v8_pegs, .ref a8_place, .ref a8_cost, .ref a8_stands, .ref a8_side, .int v8_wind, .int v8_pull, .int v8_bow, .int v8_sway, .int v8_reach, .int v8_tension, .int v8_own, .int v8_droppers, .int v8_load, .int v8_hang, .ref a8_least, .ref a8_fits, .ref a8_size, .ref a8_fewest, .ref a8_used]))] H := hP
      have hD : va_D A [(a8, .inr (8, [.int v8_length, .int v8_bends, .ref a8_bendA, .ref a8_bendB, .ref a8_curve, .int v8_isLaid, .ref a8_aside, .int v8_pegs, .ref a8_place, .ref a8_cost, .ref a8_stands, .ref a8_side, .int v8_wind, .int v8_pull, .int v8_bow, .int v8_sway, .int v8_reach, .int v8_tension, .int v8_own, .int v8_droppers, .int v8_load, .int v8_hang, .ref a8_least, .ref a8_fits, .ref a8_size, .ref a8_fewest, .ref a8_used]))] := hD
      have hP9 := hP.sub (ws' := [(a8, .inr (8, [.int v8_length, .int v8_bends, .ref a8_bendA, .ref a8_bendB, .ref a8_curve, .int v8_isLaid, .ref a8_aside, .int v8_pegs, .ref a8_place, .ref a8_cost, .ref a8_stands, .ref a8_side, .int v8_wind, .int v8_pull, .int v8_bow, .int v8_sway, .int v8_reach, .int v8_tension, .int v8_own, .int v8_droppers, .int v8_load, .int v8_hang, .ref a8_least, .ref a8_fits, .ref a8_size, .ref a8_fewest, .ref a8_used]))]) [0] rfl
      have hD9 := hD.sub (ws' := [(a8, .inr (8, [.int v8_length, .int v8_bends, .ref a8_bendA, .ref a8_bendB, .ref a8_curve, .int v8_isLaid, .ref a8_aside, .int v8_pegs, .ref a8_place, .ref a8_cost, .ref a8_stands, .ref a8_side, .int v8_wind, .int v8_pull, .int v8_bow, .int v8_sway, .int v8_reach, .int v8_tension, .int v8_own, .int v8_droppers, .int v8_load, .int v8_hang, .ref a8_least, .ref a8_fits, .ref a8_size, .ref a8_fewest, .ref a8_used]))]) [0] (by decide) rfl
      exact W.lret (v := r5) hx hb hr (fun t ht hW => ⟨⟨r5, (), rfl, hw, by rw [ht]; exact hP9, va_K.moved hW.alike hK, hD9⟩, hS.F ht⟩) hS.2.2 dX8_bears_51
    · replace hw := hw.1 (c4)
      refine lv_ldc2 (v := (-1000000000000002 : Int64)) hx hb hown lk1 dX8_bears_20 ?_
      have hP9 := hP.sub (ws' := [(a8, .inr (8, [.int v8_length, .int v8_bends, .ref a8_bendA, .ref a8_bendB, .ref a8_curve, .int v8_isLaid, .ref a8_aside, .int v8_pegs, .ref a8_place, .ref a8_cost, .ref a8_stands, .ref a8_side, .int v8_wind, .int v8_pull, .int v8_bow, .int v8_sway, .int v8_reach, .int v8_tension, .int v8_own, .int v8_droppers, .int v8_load, .int v8_hang, .ref a8_least, .ref a8_fits, .ref a8_size, .ref a8_fewest, .ref a8_used]))]) [0] rfl
      have hD9 := hD.sub (ws' := [(a8, .inr (8, [.int v8_length, .int v8_bends, .ref a8_bendA, .ref a8_bendB, .ref a8_curve, .int v8_isLaid, .ref a8_aside, .int v8_pegs, .ref a8_place, .ref a8_cost, .ref a8_stands, .ref a8_side, .int v8_wind, .int v8_pull, .int v8_bow, .int v8_sway, .int v8_reach, .int v8_tension, .int v8_own, .int v8_droppers, .int v8_load, .int v8_hang, .ref a8_least, .ref a8_fits, .ref a8_size, .ref a8_fewest, .ref a8_used]))]) [0] (by decide) rfl
      exact W.lret (v := (-1000000000000002 : Int64)) hx hb hr (fun t ht hW => ⟨⟨(-1000000000000002 : Int64), (), rfl, hw, by rw [ht]; exact hP9, va_K.moved hW.alike hK, hD9⟩, hS.F ht⟩) hS.2.2 dX8_bears_23

theorem inX8_shortOne_X8 : ∀ w ∈ wsX80, w ∈ wsX8_shortOne := fun _ h => List.mem_cons_of_mem _ (List.mem_append_right _ h)
def wb_X8_shortOne_42 (Q : Int32 → Prop) (v8_pegs : Int32) (f8_place : Nat → Int32) (f8_stands : Nat → Int32) (v8_tension : Int32) (v8_own : Int32) (v8_droppers : Int32) (v8_load : Int32) (v8_hang : Int32) (K9 : (Int32) → (Int32) → Prop) (K42 : (Int32) → (Int32) → (Int32) → (Int32) → Prop) (y42_1 : Int32) (y42_2 : Int32) (y42_4 : Int32) (y42_5 : Int32) : Prop :=
  ((v8_droppers ≤ y42_5 → (∀ x10 : Int32, x10 = y42_2 + (1 : Int32) → (K9 y42_1 x10))) ∧ (¬ v8_droppers ≤ y42_5 → (wp_X8_dropUpper (fun r11 => (wp_X8_sagLower (fun r12 => ((((100 : Int64) * r12) ≤ r11 → (∀ x14 : Int32, x14 = y42_5 + (1 : Int32) → (K42 y42_1 y42_2 y42_4 x14))) ∧ (¬ ((100 : Int64) * r12) ≤ r11 → (Q (((100 : Int32) * y42_2) + y42_5) )))) v8_tension v8_droppers)) v8_tension v8_own v8_droppers v8_load v8_hang y42_4 y42_5)))
def wl_X8_shortOne_42 (Q : Int32 → Prop) (v8_pegs : Int32) (f8_place : Nat → Int32) (f8_stands : Nat → Int32) (v8_tension : Int32) (v8_own : Int32) (v8_droppers : Int32) (v8_load : Int32) (v8_hang : Int32) (K9 : (Int32) → (Int32) → Prop) : Nat → (Int32) → (Int32) → (Int32) → (Int32) → Prop
  | 0, _, _, _, _ => False
  | n + 1, y42_1, y42_2, y42_4, y42_5 => wb_X8_shortOne_42 Q v8_pegs f8_place f8_stands v8_tension v8_own v8_droppers v8_load v8_hang K9 (wl_X8_shortOne_42 Q v8_pegs f8_place f8_stands v8_tension v8_own v8_droppers v8_load v8_hang K9 n) y42_1 y42_2 y42_4 y42_5
def wb_X8_shortOne_9 (Q : Int32 → Prop) (v8_pegs : Int32) (f8_place : Nat → Int32) (f8_stands : Nat → Int32) (v8_tension : Int32) (v8_own : Int32) (v8_droppers : Int32) (v8_load : Int32) (v8_hang : Int32) (K9 : (Int32) → (Int32) → Prop) (y9_1 : Int32) (y9_2 : Int32) : Prop :=
  ((y9_1 ≤ y9_2 → (Q (-6 : Int32) )) ∧ (¬ y9_1 ≤ y9_2 → (wp_X8_endOf (fun r4 => (vp_in r4 40 ∧ (wp_X8_mastBefore (fun r6 => (vp_in r6 40 ∧ (∀ x8 : Int32, x8 = ((f8_place r4.toNatClampNeg) - (f8_place r6.toNatClampNeg)) → (∃ n : Nat, wl_X8_shortOne_42 Q v8_pegs f8_place f8_stands v8_tension v8_own v8_droppers v8_load v8_hang K9 n y9_1 y9_2 x8 (0 : Int32))))) f8_stands r4))) v8_pegs f8_stands y9_2)))
def wl_X8_shortOne_9 (Q : Int32 → Prop) (v8_pegs : Int32) (f8_place : Nat → Int32) (f8_stands : Nat → Int32) (v8_tension : Int32) (v8_own : Int32) (v8_droppers : Int32) (v8_load : Int32) (v8_hang : Int32) : Nat → (Int32) → (Int32) → Prop
  | 0, _, _ => False
  | n + 1, y9_1, y9_2 => wb_X8_shortOne_9 Q v8_pegs f8_place f8_stands v8_tension v8_own v8_droppers v8_load v8_hang  (wl_X8_shortOne_9 Q v8_pegs f8_place f8_stands v8_tension v8_own v8_droppers v8_load v8_hang  n) y9_1 y9_2
def wp_X8_shortOne (Q : Int32 → Prop) (v8_pegs : Int32) (f8_place : Nat → Int32) (f8_stands : Nat → Int32) (v8_tension : Int32) (v8_own : Int32) (v8_droppers : Int32) (v8_load : Int32) (v8_hang : Int32) : Prop :=
  (wp_X8_masts (fun r1 => (∀ x2 : Int32, x2 = (r1 - (1 : Int32)) → (∃ n : Nat, wl_X8_shortOne_9 Q v8_pegs f8_place f8_stands v8_tension v8_own v8_droppers v8_load v8_hang  n x2 (0 : Int32)))) v8_pegs f8_stands)
set_option maxHeartbeats 4000000 in
set_option maxRecDepth 100000 in
theorem c_X8_shortOne (l : Launch) (dC : Nat → ClassId) (dI : Nat → Nat → Nat) (cI cJ cZ : ClassId) (a8 : Nat) (a8_bendA : Nat) (a8_bendB : Nat) (a8_curve : Nat) (a8_aside : Nat) (a8_place : Nat) (a8_cost : Nat) (a8_stands : Nat) (a8_side : Nat) (a8_least : Nat) (a8_fits : Nat) (a8_size : Nat) (a8_fewest : Nat) (a8_used : Nat) (sz : Nat) (v8_length : Int32) (v8_bends : Int32) (v8_isLaid : Int32) (v8_pegs : Int32) (f8_place : Nat → Int32) (f8_stands : Nat → Int32) (v8_wind : Int32) (v8_pull : Int32) (v8_bow : Int32) (v8_sway : Int32) (v8_reach : Int32) (v8_tension : Int32) (v8_own : Int32) (v8_droppers : Int32) (v8_load : Int32) (v8_hang : Int32) (Q : Int32 → Prop) (hw : wp_X8_shortOne Q v8_pegs f8_place f8_stands v8_tension v8_own v8_droppers v8_load v8_hang ) : Met l yX8_shortOne wsX8_shortOne ({ frames := 2, cells := 0, slots := 0, locals := 55 } : Room) (va_Pc [.ref a8] (fun U => U.heap.size = sz ∧ va_P (dC, dI) vwCl [(a8, .inr (8, [.int v8_length, .int v8_bends, .ref a8_bendA, .ref a8_bendB, .ref a8_curve, .int v8_isLaid, .ref a8_aside, .int v8_pegs, .ref a8_place, .ref a8_cost, .ref a8_stands, .ref a8_side, .int v8_wind, .int v8_pull, .int v8_bow, .int v8_sway, .int v8_reach, .int v8_tension, .int v8_own, .int v8_droppers, .int v8_load, .int v8_hang, .ref a8_least, .ref a8_fits, .ref a8_size, .ref a8_fewest, .ref a8_used])), (a8_place, .inl (cI, 40, .inl f8_place)), (a8_stands, .inl (cZ, 40, .inl f8_stands))] U.heap ∧ va_K (dC, dI) vwCl [(cI, .int), (cJ, .long), (cZ, .boolean)] U ∧ va_D (fun _ => True) [(a8, .inr (8, [.int v8_length, .int v8_bends, .ref a8_bendA, .ref a8_bendB, .ref a8_curve, .int v8_isLaid, .ref a8_aside, .int v8_pegs, .ref a8_place, .ref a8_cost, .ref a8_stands, .ref a8_side, .int v8_wind, .int v8_pull, .int v8_bow, .int v8_sway, .int v8_reach, .int v8_tension, .int v8_own, .int v8_droppers, .int v8_load, .int v8_hang, .ref a8_least, .ref a8_fits, .ref a8_size, .ref a8_fewest, .ref a8_used])), (a8_place, .inl (cI, 40, .inl f8_place)), (a8_stands, .inl (cZ, 40, .inl f8_stands))])) (va_Qi (fun r (u : Unit) => Q r) (fun (u : Unit) t => va_P (dC, dI) vwCl [(a8, .inr (8, [.int v8_length, .int v8_bends, .ref a8_bendA, .ref a8_bendB, .ref a8_curve, .int v8_isLaid, .ref a8_aside, .int v8_pegs, .ref a8_place, .ref a8_cost, .ref a8_stands, .ref a8_side, .int v8_wind, .int v8_pull, .int v8_bow, .int v8_sway, .int v8_reach, .int v8_tension, .int v8_own, .int v8_droppers, .int v8_load, .int v8_hang, .ref a8_least, .ref a8_fits, .ref a8_size, .ref a8_fewest, .ref a8_used])), (a8_place, .inl (cI, 40, .inl f8_place)), (a8_stands, .inl (cZ, 40, .inl f8_stands))] t.heap ∧ va_K (dC, dI) vwCl [(cI, .int), (cJ, .long), (cZ, .boolean)] t ∧ va_D (va_A [(a8, .inr (8, [.int v8_length, .int v8_bends, .ref a8_bendA, .ref a8_bendB, .ref a8_curve, .int v8_isLaid, .ref a8_aside, .int v8_pegs, .ref a8_place, .ref a8_cost, .ref a8_stands, .ref a8_side, .int v8_wind, .int v8_pull, .int v8_bow, .int v8_sway, .int v8_reach, .int v8_tension, .int v8_own, .int v8_droppers, .int v8_load, .int v8_hang, .ref a8_least, .ref a8_fits, .ref a8_size, .ref a8_fewest, .ref a8_used])), (a8_place, .inl (cI, 40, .inl f8_place)), (a8_stands, .inl (cZ, 40, .inl f8_stands))] sz) [(a8, .inr (8, [.int v8_length, .int v8_bends, .ref a8_bendA, .ref a8_bendB, .ref a8_curve, .int v8_isLaid, .ref a8_aside, .int v8_pegs, .ref a8_place, .ref a8_cost, .ref a8_stands, .ref a8_side, .int v8_wind, .int v8_pull, .int v8_bow, .int v8_sway, .int v8_reach, .int v8_tension, .int v8_own, .int v8_droppers, .int v8_load, .int v8_hang, .ref a8_least, .ref a8_fits, .ref a8_size, .ref a8_fewest, .ref a8_used])), (a8_place, .inl (cI, 40, .inl f8_place)), (a8_stands, .inl (cZ, 40, .inl f8_stands))]) (va_A [(a8, .inr (8, [.int v8_length, .int v8_bends, .ref a8_bendA, .ref a8_bendB, .ref a8_curve, .int v8_isLaid, .ref a8_aside, .int v8_pegs, .ref a8_place, .ref a8_cost, .ref a8_stands, .ref a8_side, .int v8_wind, .int v8_pull, .int v8_bow, .int v8_sway, .int v8_reach, .int v8_tension, .int v8_own, .int v8_droppers, .int v8_load, .int v8_hang, .ref a8_least, .ref a8_fits, .ref a8_size, .ref a8_fewest, .ref a8_used])), (a8_place, .inl (cI, 40, .inl f8_place)), (a8_stands, .inl (cZ, 40, .inl f8_stands))] sz)) 0 0 (va_A [(a8, .inr (8, [.int v8_length, .int v8_bends, .ref a8_bendA, .ref a8_bendB, .ref a8_curve, .int v8_isLaid, .ref a8_aside, .int v8_pegs, .ref a8_place, .ref a8_cost, .ref a8_stands, .ref a8_side, .int v8_wind, .int v8_pull, .int v8_bow, .int v8_sway, .int v8_reach, .int v8_tension, .int v8_own, .int v8_droppers, .int v8_load, .int v8_hang, .ref a8_least, .ref a8_fits, .ref a8_size, .ref a8_fewest, .ref a8_used])), (a8_place, .inl (cI, 40, .inl f8_place)), (a8_stands, .inl (cZ, 40, .inl f8_stands))] sz) := by
  refine Met.ofW (cc := cX8_shortOne) (maxL := 6) (ret := (some .int)) (by decide) rfl ?_
  intro p e s m args below meth c s₁ B hml hv
  obtain ⟨rfl, hsz, hP, hK, hD0⟩ := hv
  have hx := B.exec
  have hb := B.bytes
  have hr := B.returns
  have hts := atoms_spec (ws := wsX8_shortOne) B.pre
  have hown : s.vm.findClass RX8 = some m.cls := findClass_of_methodNamed B.named
  have hlocks := B.notSynchronized
  subst hsz
  have hD := hD0.self (sz := s.heap.size)
  generalize hAe : va_A [(a8, .inr (8, [.int v8_length, .int v8_bends, .ref a8_bendA, .ref a8_bendB, .ref a8_curve, .int v8_isLaid, .ref a8_aside, .int v8_pegs, .ref a8_place, .ref a8_cost, .ref a8_stands, .ref a8_side, .int v8_wind, .int v8_pull, .int v8_bow, .int v8_sway, .int v8_reach, .int v8_tension, .int v8_own, .int v8_droppers, .int v8_load, .int v8_hang, .ref a8_least, .ref a8_fits, .ref a8_size, .ref a8_fewest, .ref a8_used])), (a8_place, .inl (cI, 40, .inl f8_place)), (a8_stands, .inl (cZ, 40, .inl f8_stands))] s.heap.size = A at hD ⊢
  have hA : ∀ q : Nat, s.heap.size ≤ q → A q := fun q h => by rw [← hAe]; exact Or.inr h
  have hS : va_S A s.heap s.heap [] := va_S.rf
  have hP : va_P (dC, dI) vwCl [(a8, .inr (8, [.int v8_length, .int v8_bends, .ref a8_bendA, .ref a8_bendB, .ref a8_curve, .int v8_isLaid, .ref a8_aside, .int v8_pegs, .ref a8_place, .ref a8_cost, .ref a8_stands, .ref a8_side, .int v8_wind, .int v8_pull, .int v8_bow, .int v8_sway, .int v8_reach, .int v8_tension, .int v8_own, .int v8_droppers, .int v8_load, .int v8_hang, .ref a8_least, .ref a8_fits, .ref a8_size, .ref a8_fewest, .ref a8_used])), (a8_place, .inl (cI, 40, .inl f8_place)), (a8_stands, .inl (cZ, 40, .inl f8_stands))] s.heap := hP
  have lk1 := hts (.fieldLink RX8 27 "WireRowModel" "place" "[I") (by decide +kernel)
  have lk2 := hts (.fieldLink RX8 55 "WireRowModel" "droppers" "I") (by decide +kernel)
  have lk3 := hts (.constantLong RX8 179 (100)) (by decide +kernel)
  have k_9 : ∀ (n_9 : Nat) (y9_1 : Int32) (y9_2 : Int32) (H : Heap) (locs : List Loc) (ls : Array Slot), va_P (dC, dI) vwCl [(a8, .inr (8, [.int v8_length, .int v8_bends, .ref a8_bendA, .ref a8_bendB, .ref a8_curve, .int v8_isLaid, .ref a8_aside, .int v8_pegs, .ref a8_place, .ref a8_cost, .ref a8_stands, .ref a8_side, .int v8_wind, .int v8_pull, .int v8_bow, .int v8_sway, .int v8_reach, .int v8_tension, .int v8_own, .int v8_droppers, .int v8_load, .int v8_hang, .ref a8_least, .ref a8_fits, .ref a8_size, .ref a8_fewest, .ref a8_used])), (a8_place, .inl (cI, 40, .inl f8_place)), (a8_stands, .inl (cZ, 40, .inl f8_stands))] H → va_D A [(a8, .inr (8, [.int v8_length, .int v8_bends, .ref a8_bendA, .ref a8_bendB, .ref a8_curve, .int v8_isLaid, .ref a8_aside, .int v8_pegs, .ref a8_place, .ref a8_cost, .ref a8_stands, .ref a8_side, .int v8_wind, .int v8_pull, .int v8_bow, .int v8_sway, .int v8_reach, .int v8_tension, .int v8_own, .int v8_droppers, .int v8_load, .int v8_hang, .ref a8_least, .ref a8_fits, .ref a8_size, .ref a8_fewest, .ref a8_used])), (a8_place, .inl (cI, 40, .inl f8_place)), (a8_stands, .inl (cZ, 40, .inl f8_stands))] → va_S A s.heap H locs → lv_has ls 6 [(0, .ref a8), (1, .int y9_1), (2, .int y9_2)] → (wl_X8_shortOne_9 Q v8_pegs f8_place f8_stands v8_tension v8_own v8_droppers v8_load v8_hang  n_9 y9_1 y9_2) → W p l e (headSpec wsX8_shortOne ({ frames := 2, cells := 0, slots := 0, locals := 55 } : Room)).room s m [.ref a8].toArray below meth c H locs 0 0 (MQ below (va_Qi (fun r (u : Unit) => Q r) (fun (u : Unit) t => va_P (dC, dI) vwCl [(a8, .inr (8, [.int v8_length, .int v8_bends, .ref a8_bendA, .ref a8_bendB, .ref a8_curve, .int v8_isLaid, .ref a8_aside, .int v8_pegs, .ref a8_place, .ref a8_cost, .ref a8_stands, .ref a8_side, .int v8_wind, .int v8_pull, .int v8_bow, .int v8_sway, .int v8_reach, .int v8_tension, .int v8_own, .int v8_droppers, .int v8_load, .int v8_hang, .ref a8_least, .ref a8_fits, .ref a8_size, .ref a8_fewest, .ref a8_used])), (a8_place, .inl (cI, 40, .inl f8_place)), (a8_stands, .inl (cZ, 40, .inl f8_stands))] t.heap ∧ va_K (dC, dI) vwCl [(cI, .int), (cJ, .long), (cZ, .boolean)] t ∧ va_D A [(a8, .inr (8, [.int v8_length, .int v8_bends, .ref a8_bendA, .ref a8_bendB, .ref a8_curve, .int v8_isLaid, .ref a8_aside, .int v8_pegs, .ref a8_place, .ref a8_cost, .ref a8_stands, .ref a8_side, .int v8_wind, .int v8_pull, .int v8_bow, .int v8_sway, .int v8_reach, .int v8_tension, .int v8_own, .int v8_droppers, .int v8_load, .int v8_hang, .ref a8_least, .ref a8_fits, .ref a8_size, .ref a8_fewest, .ref a8_used])), (a8_place, .inl (cI, 40, .inl f8_place)), (a8_stands, .inl (cZ, 40, .inl f8_stands))]) A) [.ref a8].toArray s 0 0 A) (F0 m 9 ls []) := by
    intro n_9
    induction n_9 with
    | zero =>
      intro y9_1 y9_2 H locs ls hP hD hS hl hw
      exact False.elim hw
    | succ n_9 ih_9 =>
      have k_42 : ∀ (n_42 : Nat) (y42_1 : Int32) (y42_2 : Int32) (y42_4 : Int32) (y42_5 : Int32) (H : Heap) (locs : List Loc) (ls : Array Slot), va_P (dC, dI) vwCl [(a8, .inr (8, [.int v8_length, .int v8_bends, .ref a8_bendA, .ref a8_bendB, .ref a8_curve, .int v8_isLaid, .ref a8_aside, .int v8_pegs, .ref a8_place, .ref a8_cost, .ref a8_stands, .ref a8_side, .int v8_wind, .int v8_pull, .int v8_bow, .int v8_sway, .int v8_reach, .int v8_tension, .int v8_own, .int v8_droppers, .int v8_load, .int v8_hang, .ref a8_least, .ref a8_fits, .ref a8_size, .ref a8_fewest, .ref a8_used])), (a8_place, .inl (cI, 40, .inl f8_place)), (a8_stands, .inl (cZ, 40, .inl f8_stands))] H → va_D A [(a8, .inr (8, [.int v8_length, .int v8_bends, .ref a8_bendA, .ref a8_bendB, .ref a8_curve, .int v8_isLaid, .ref a8_aside, .int v8_pegs, .ref a8_place, .ref a8_cost, .ref a8_stands, .ref a8_side, .int v8_wind, .int v8_pull, .int v8_bow, .int v8_sway, .int v8_reach, .int v8_tension, .int v8_own, .int v8_droppers, .int v8_load, .int v8_hang, .ref a8_least, .ref a8_fits, .ref a8_size, .ref a8_fewest, .ref a8_used])), (a8_place, .inl (cI, 40, .inl f8_place)), (a8_stands, .inl (cZ, 40, .inl f8_stands))] → va_S A s.heap H locs → lv_has ls 6 [(0, .ref a8), (1, .int y42_1), (2, .int y42_2), (4, .int y42_4), (5, .int y42_5)] → (wl_X8_shortOne_42 Q v8_pegs f8_place f8_stands v8_tension v8_own v8_droppers v8_load v8_hang (wl_X8_shortOne_9 Q v8_pegs f8_place f8_stands v8_tension v8_own v8_droppers v8_load v8_hang  n_9) n_42 y42_1 y42_2 y42_4 y42_5) → W p l e (headSpec wsX8_shortOne ({ frames := 2, cells := 0, slots := 0, locals := 55 } : Room)).room s m [.ref a8].toArray below meth c H locs 0 0 (MQ below (va_Qi (fun r (u : Unit) => Q r) (fun (u : Unit) t => va_P (dC, dI) vwCl [(a8, .inr (8, [.int v8_length, .int v8_bends, .ref a8_bendA, .ref a8_bendB, .ref a8_curve, .int v8_isLaid, .ref a8_aside, .int v8_pegs, .ref a8_place, .ref a8_cost, .ref a8_stands, .ref a8_side, .int v8_wind, .int v8_pull, .int v8_bow, .int v8_sway, .int v8_reach, .int v8_tension, .int v8_own, .int v8_droppers, .int v8_load, .int v8_hang, .ref a8_least, .ref a8_fits, .ref a8_size, .ref a8_fewest, .ref a8_used])), (a8_place, .inl (cI, 40, .inl f8_place)), (a8_stands, .inl (cZ, 40, .inl f8_stands))] t.heap ∧ va_K (dC, dI) vwCl [(cI, .int), (cJ, .long), (cZ, .boolean)] t ∧ va_D A [(a8, .inr (8, [.int v8_length, .int v8_bends, .ref a8_bendA, .ref a8_bendB, .ref a8_curve, .int v8_isLaid, .ref a8_aside, .int v8_pegs, .ref a8_place, .ref a8_cost, .ref a8_stands, .ref a8_side, .int v8_wind, .int v8_pull, .int v8_bow, .int v8_sway, .int v8_reach, .int v8_tension, .int v8_own, .int v8_droppers, .int v8_load, .int v8_hang, .ref a8_least, .ref a8_fits, .ref a8_size, .ref a8_fewest, .ref a8_used])), (a8_place, .inl (cI, 40, .inl f8_place)), (a8_stands, .inl (cZ, 40, .inl f8_stands))]) A) [.ref a8].toArray s 0 0 A) (F0 m 42 ls []) := by
        intro n_42
        induction n_42 with
        | zero =>
          intro y42_1 y42_2 y42_4 y42_5 H locs ls hP hD hS hl hw
          exact False.elim hw
        | succ n_42 ih_42 =>
          intro y42_1 y42_2 y42_4 y42_5 H locs ls hP hD hS hl hw
          replace hw : wb_X8_shortOne_42 Q v8_pegs f8_place f8_stands v8_tension v8_own v8_droppers v8_load v8_hang (wl_X8_shortOne_9 Q v8_pegs f8_place f8_stands v8_tension v8_own v8_droppers v8_load v8_hang  n_9) (wl_X8_shortOne_42 Q v8_pegs f8_place f8_stands v8_tension v8_own v8_droppers v8_load v8_hang (wl_X8_shortOne_9 Q v8_pegs f8_place f8_stands v8_tension v8_own v8_droppers v8_load v8_hang  n_9) n_42) y42_1 y42_2 y42_4 y42_5 := hw
          unfold wb_X8_shortOne_42 at hw
          refine lv_iload hx hb dX8_shortOne_42 (lv_at hl 4 rfl) ?_
          refine lv_aload_n hx hb dX8_shortOne_44 rfl (lv_at hl 0 rfl) ?_
          refine va_get (D := (dC, dI)) (ci := 8) (v := .int v8_droppers) (C := RX8) (T := TX8) (N := 27) hx hb hts inX8_shortOne_X8 hown hK hP 0 rfl rfl 19 (by decide) lk2 (fun _ h9 => h9) rfl dX8_shortOne_45 ?_
          refine lv_icmp_ge (tgt := 85) hx hb dX8_shortOne_48 (by decide) (fun c9 => ?_) (fun c9 => ?_)
          · replace hw := hw.1 (c9)
            obtain ⟨x10, ex10⟩ : ∃ y : Int32, y = y42_2 + (1 : Int32) := ⟨_, rfl⟩
            replace hw := hw x10 ex10
            refine lv_iinc (v := x10) (lv' := [(2, .int x10), (0, .ref a8), (1, .int y42_1), (4, .int y42_4), (5, .int y42_5)]) hx hb dX8_shortOne_85 hl (k := 2) rfl (by rw [ex10]; rfl) (by decide) rfl (fun ls hl => ?_)
            refine lv_goto (tgt := 9) hx hb dX8_shortOne_88 (by decide) ?_
            exact ih_9 y42_1 x10 _ _ _ (hP.sub [0, 1, 2] rfl) (hD.sub [0, 1, 2] (by decide) rfl) hS (lv_sub hl [1, 2, 0] rfl) hw
          · replace hw := hw.2 (c9)
            refine lv_aload_n hx hb dX8_shortOne_51 rfl (lv_at hl 0 rfl) ?_
            refine lv_iload hx hb dX8_shortOne_52 (lv_at hl 3 rfl) ?_
            refine lv_iload hx hb dX8_shortOne_54 (lv_at hl 4 rfl) ?_
            have hPc := hP.sub (ws' := [(a8, .inr (8, [.int v8_length, .int v8_bends, .ref a8_bendA, .ref a8_bendB, .ref a8_curve, .int v8_isLaid, .ref a8_aside, .int v8_pegs, .ref a8_place, .ref a8_cost, .ref a8_stands, .ref a8_side, .int v8_wind, .int v8_pull, .int v8_bow, .int v8_sway, .int v8_reach, .int v8_tension, .int v8_own, .int v8_droppers, .int v8_load, .int v8_hang, .ref a8_least, .ref a8_fits, .ref a8_size, .ref a8_fewest, .ref a8_used]))]) [0] rfl
            have hDc := hD.sub (ws' := [(a8, .inr (8, [.int v8_length, .int v8_bends, .ref a8_bendA, .ref a8_bendB, .ref a8_curve, .int v8_isLaid, .ref a8_aside, .int v8_pegs, .ref a8_place, .ref a8_cost, .ref a8_stands, .ref a8_side, .int v8_wind, .int v8_pull, .int v8_bow, .int v8_sway, .int v8_reach, .int v8_tension, .int v8_own, .int v8_droppers, .int v8_load, .int v8_hang, .ref a8_least, .ref a8_fits, .ref a8_size, .ref a8_fewest, .ref a8_used]))]) [0] (by decide) rfl
            have hFc := va_free (wc := [(a8, .inr (8, [.int v8_length, .int v8_bends, .ref a8_bendA, .ref a8_bendB, .ref a8_curve, .int v8_isLaid, .ref a8_aside, .int v8_pegs, .ref a8_place, .ref a8_cost, .ref a8_stands, .ref a8_side, .int v8_wind, .int v8_pull, .int v8_bow, .int v8_sway, .int v8_reach, .int v8_tension, .int v8_own, .int v8_droppers, .int v8_load, .int v8_hang, .ref a8_least, .ref a8_fits, .ref a8_size, .ref a8_fewest, .ref a8_used]))]) hD hS hA [0] rfl
            refine va_calll (va_runV (As := [.int y42_4, .int y42_5]) (rest := []) ⟨hx, hb, hml, hown, hts⟩ (c_X8_dropUpper l dC dI cI cJ cZ a8 a8_bendA a8_bendB a8_curve a8_aside a8_place a8_cost a8_stands a8_side a8_least a8_fits a8_size a8_fewest a8_used H.size v8_length v8_bends v8_isLaid v8_pegs v8_wind v8_pull v8_bow v8_sway v8_reach v8_tension v8_own v8_droppers v8_load v8_hang y42_4 y42_5 _ hw) (cwV 2 hts gX8_shortOne_X8_dropUpper rfl rfl rfl (by decide +kernel) ⟨Nat.le_of_ble_eq_true rfl, Nat.le_of_ble_eq_true rfl⟩) ⟨fun a U g mk q => by obtain ⟨q0, q1, qP, qK, qD⟩ := q; exact ⟨q0, q1, qP, va_K.moved (u := U) (U := U.calling g mk a) (Vm.Alike.refl U.vm) qK, qD⟩, va_recv hK hP (ci := 8) (q0 := 0) rfl rfl, fun U hU hW => ⟨rfl, by rw [hU], by rw [hU]; exact hPc, va_K.moved hW.alike hK, hDc.weaken (fun _ _ _ _ => trivial)⟩⟩ rfl rfl hl.1 rfl (lv_room (Nat.le_of_ble_eq_true rfl)) dX8_shortOne_56 ⟨(Nat.zero_le _), (Nat.zero_le _)⟩) hS (fun q _ h => hFc q h) hFc (fun r11 u t H1 locs ht hvm hw hB hz1 hk1 hS => ?_)
            obtain ⟨hP1, -, hD1⟩ := hB
            try dsimp only at hw
            rw [ht] at hP1
            obtain ⟨hP, hD⟩ := va_join (wr := [(a8_place, .inl (cI, 40, .inl f8_place)), (a8_stands, .inl (cZ, 40, .inl f8_stands))]) (w1 := [(a8, .inr (8, [.int v8_length, .int v8_bends, .ref a8_bendA, .ref a8_bendB, .ref a8_curve, .int v8_isLaid, .ref a8_aside, .int v8_pegs, .ref a8_place, .ref a8_cost, .ref a8_stands, .ref a8_side, .int v8_wind, .int v8_pull, .int v8_bow, .int v8_sway, .int v8_reach, .int v8_tension, .int v8_own, .int v8_droppers, .int v8_load, .int v8_hang, .ref a8_least, .ref a8_fits, .ref a8_size, .ref a8_fewest, .ref a8_used]))]) hP hD [0] [1, 2] rfl rfl (by decide) (by decide) hk1 hFc hP1 hD1
            generalize H1 = H at hP hS ⊢
            have hP : va_P (dC, dI) vwCl [(a8_place, .inl (cI, 40, .inl f8_place)), (a8_stands, .inl (cZ, 40, .inl f8_stands)), (a8, .inr (8, [.int v8_length, .int v8_bends, .ref a8_bendA, .ref a8_bendB, .ref a8_curve, .int v8_isLaid, .ref a8_aside, .int v8_pegs, .ref a8_place, .ref a8_cost, .ref a8_stands, .ref a8_side, .int v8_wind, .int v8_pull, .int v8_bow, .int v8_sway, .int v8_reach, .int v8_tension, .int v8_own, .int v8_droppers, .int v8_load, .int v8_hang, .ref a8_least, .ref a8_fits, .ref a8_size, .ref a8_fewest, .ref a8_used]))] H := hP
            have hD : va_D A [(a8_place, .inl (cI, 40, .inl f8_place)), (a8_stands, .inl (cZ, 40, .inl f8_stands)), (a8, .inr (8, [.int v8_length, .int v8_bends, .ref a8_bendA, .ref a8_bendB, .ref a8_curve, .int v8_isLaid, .ref a8_aside, .int v8_pegs, .ref a8_place, .ref a8_cost, .ref a8_stands, .ref a8_side, .int v8_wind, .int v8_pull, .int v8_bow, .int v8_sway, .int v8_reach, .int v8_tension, .int v8_own, .int v8_droppers, .int v8_load, .int v8_hang, .ref a8_least, .ref a8_fits, .ref a8_size, .ref a8_fewest, .ref a8_used]))] := hD
            refine lv_ldc2 (v := (100 : Int64)) hx hb hown lk3 dX8_shortOne_59 ?_
            refine lv_aload_n hx hb dX8_shortOne_62 rfl (lv_at hl 0 rfl) ?_
            have hPc := hP.sub (ws' := [(a8, .inr (8, [.int v8_length, .int v8_bends, .ref a8_bendA, .ref a8_bendB, .ref a8_curve, .int v8_isLaid, .ref a8_aside, .int v8_pegs, .ref a8_place, .ref a8_cost, .ref a8_stands, .ref a8_side, .int v8_wind, .int v8_pull, .int v8_bow, .int v8_sway, .int v8_reach, .int v8_tension, .int v8_own, .int v8_droppers, .int v8_load, .int v8_hang, .ref a8_least, .ref a8_fits, .ref a8_size, .ref a8_fewest, .ref a8_used]))]) [2] rfl
            have hDc := hD.sub (ws' := [(a8, .inr (8, [.int v8_length, .int v8_bends, .ref a8_bendA, .ref a8_bendB, .ref a8_curve, .int v8_isLaid, .ref a8_aside, .int v8_pegs, .ref a8_place, .ref a8_cost, .ref a8_stands, .ref a8_side, .int v8_wind, .int v8_pull, .int v8_bow, .int v8_sway, .int v8_reach, .int v8_tension, .int v8_own, .int v8_droppers, .int v8_load, .int v8_hang, .ref a8_least, .ref a8_fits, .ref a8_size, .ref a8_fewest, .ref a8_used]))]) [2] (by decide) rfl
            have hFc := va_free (wc := [(a8, .inr (8, [.int v8_length, .int v8_bends, .ref a8_bendA, .ref a8_bendB, .ref a8_curve, .int v8_isLaid, .ref a8_aside, .int v8_pegs, .ref a8_place, .ref a8_cost, .ref a8_stands, .ref a8_side, .int v8_wind, .int v8_pull, .int v8_bow, .int v8_sway, .int v8_reach, .int v8_tension, .int v8_own, .int v8_droppers, .int v8_load, .int v8_hang, .ref a8_least, .ref a8_fits, .ref a8_size, .ref a8_fewest, .ref a8_used]))]) hD hS hA [2] rfl
            refine va_calll (va_runV (As := []) (rest := [.long (100 : Int64), .long r11]) ⟨hx, hb, hml, hown, hts⟩ (c_X8_sagLower l dC dI cI cJ cZ a8 a8_bendA a8_bendB a8_curve a8_aside a8_place a8_cost a8_stands a8_side a8_least a8_fits a8_size a8_fewest a8_used H.size v8_length v8_bends v8_isLaid v8_pegs v8_wind v8_pull v8_bow v8_sway v8_reach v8_tension v8_own v8_droppers v8_load v8_hang _ hw) (cwV 0 hts gX8_shortOne_X8_sagLower rfl rfl rfl (by decide +kernel) ⟨Nat.le_of_ble_eq_true rfl, Nat.le_of_ble_eq_true rfl⟩) ⟨fun a U g mk q => by obtain ⟨q0, q1, qP, qK, qD⟩ := q; exact ⟨q0, q1, qP, va_K.moved (u := U) (U := U.calling g mk a) (Vm.Alike.refl U.vm) qK, qD⟩, va_recv hK hP (ci := 8) (q0 := 2) rfl rfl, fun U hU hW => ⟨rfl, by rw [hU], by rw [hU]; exact hPc, va_K.moved hW.alike hK, hDc.weaken (fun _ _ _ _ => trivial)⟩⟩ rfl rfl hl.1 rfl (lv_room (Nat.le_of_ble_eq_true rfl)) dX8_shortOne_63 ⟨(Nat.zero_le _), (Nat.zero_le _)⟩) hS (fun q _ h => hFc q h) hFc (fun r12 u t H1 locs ht hvm hw hB hz1 hk1 hS => ?_)
            obtain ⟨hP1, -, hD1⟩ := hB
            try dsimp only at hw
            rw [ht] at hP1
            obtain ⟨hP, hD⟩ := va_join (wr := [(a8_place, .inl (cI, 40, .inl f8_place)), (a8_stands, .inl (cZ, 40, .inl f8_stands))]) (w1 := [(a8, .inr (8, [.int v8_length, .int v8_bends, .ref a8_bendA, .ref a8_bendB, .ref a8_curve, .int v8_isLaid, .ref a8_aside, .int v8_pegs, .ref a8_place, .ref a8_cost, .ref a8_stands, .ref a8_side, .int v8_wind, .int v8_pull, .int v8_bow, .int v8_sway, .int v8_reach, .int v8_tension, .int v8_own, .int v8_droppers, .int v8_load, .int v8_hang, .ref a8_least, .ref a8_fits, .ref a8_size, .ref a8_fewest, .ref a8_used]))]) hP hD [2] [0, 1] rfl rfl (by decide) (by decide) hk1 hFc hP1 hD1
            generalize H1 = H at hP hS ⊢
            have hP : va_P (dC, dI) vwCl [(a8_place, .inl (cI, 40, .inl f8_place)), (a8_stands, .inl (cZ, 40, .inl f8_stands)), (a8, .inr (8, [.int v8_length, .int v8_bends, .ref a8_bendA, .ref a8_bendB, .ref a8_curve, .int v8_isLaid, .ref a8_aside, .int v8_pegs, .ref a8_place, .ref a8_cost, .ref a8_stands, .ref a8_side, .int v8_wind, .int v8_pull, .int v8_bow, .int v8_sway, .int v8_reach, .int v8_tension, .int v8_own, .int v8_droppers, .int v8_load, .int v8_hang, .ref a8_least, .ref a8_fits, .ref a8_size, .ref a8_fewest, .ref a8_used]))] H := hP
            have hD : va_D A [(a8_place, .inl (cI, 40, .inl f8_place)), (a8_stands, .inl (cZ, 40, .inl f8_stands)), (a8, .inr (8, [.int v8_length, .int v8_bends, .ref a8_bendA, .ref a8_bendB, .ref a8_curve, .int v8_isLaid, .ref a8_aside, .int v8_pegs, .ref a8_place, .ref a8_cost, .ref a8_stands, .ref a8_side, .int v8_wind, .int v8_pull, .int v8_bow, .int v8_sway, .int v8_reach, .int v8_tension, .int v8_own, .int v8_droppers, .int v8_load, .int v8_hang, .ref a8_least, .ref a8_fits, .ref a8_size, .ref a8_fewest, .ref a8_used]))] := hD
            refine lv_lmul hx hb dX8_shortOne_66 ?_
            refine W.lcmp hx hb dX8_shortOne_67 ?_
            refine lv_if_ge (tgt := 79) hx hb dX8_shortOne_68 (by decide) (fun c13 => ?_) (fun c13 => ?_)
            · replace hw := hw.1 ((lg_cmp_ge _ _).mp c13)
              obtain ⟨x14, ex14⟩ : ∃ y : Int32, y = y42_5 + (1 : Int32) := ⟨_, rfl⟩
              replace hw := hw x14 ex14
              refine lv_iinc (v := x14) (lv' := [(5, .int x14), (0, .ref a8), (1, .int y42_1), (2, .int y42_2), (4, .int y42_4)]) hx hb dX8_shortOne_79 hl (k := 4) rfl (by rw [ex14]; rfl) (by decide) rfl (fun ls hl => ?_)
              refine lv_goto (tgt := 42) hx hb dX8_shortOne_82 (by decide) ?_
              exact ih_42 y42_1 y42_2 y42_4 x14 _ _ _ (hP.sub [2, 0, 1] rfl) (hD.sub [2, 0, 1] (by decide) rfl) hS (lv_sub hl [1, 2, 3, 4, 0] rfl) hw
            · replace hw := hw.2 (fun z => c13 ((lg_cmp_ge _ _).mpr z))
              refine lv_bipush (v := (100 : Int32)) hx hb dX8_shortOne_71 (by decide) ?_
              refine lv_iload_n hx hb dX8_shortOne_73 rfl (lv_at hl 2 rfl) ?_
              refine lv_imul hx hb dX8_shortOne_74 ?_
              refine lv_iload hx hb dX8_shortOne_75 (lv_at hl 4 rfl) ?_
              refine lv_iadd hx hb dX8_shortOne_77 ?_
              have hP9 := hP.sub (ws' := [(a8, .inr (8, [.int v8_length, .int v8_bends, .ref a8_bendA, .ref a8_bendB, .ref a8_curve, .int v8_isLaid, .ref a8_aside, .int v8_pegs, .ref a8_place, .ref a8_cost, .ref a8_stands, .ref a8_side, .int v8_wind, .int v8_pull, .int v8_bow, .int v8_sway, .int v8_reach, .int v8_tension, .int v8_own, .int v8_droppers, .int v8_load, .int v8_hang, .ref a8_least, .ref a8_fits, .ref a8_size, .ref a8_fewest, .ref a8_used])), (a8_place, .inl (cI, 40, .inl f8_place)), (a8_stands, .inl (cZ, 40, .inl f8_stands))]) [2, 0, 1] rfl
              have hD9 := hD.sub (ws' := [(a8, .inr (8, [.int v8_length, .int v8_bends, .ref a8_bendA, .ref a8_bendB, .ref a8_curve, .int v8_isLaid, .ref a8_aside, .int v8_pegs, .ref a8_place, .ref a8_cost, .ref a8_stands, .ref a8_side, .int v8_wind, .int v8_pull, .int v8_bow, .int v8_sway, .int v8_reach, .int v8_tension, .int v8_own, .int v8_droppers, .int v8_load, .int v8_hang, .ref a8_least, .ref a8_fits, .ref a8_size, .ref a8_fewest, .ref a8_used])), (a8_place, .inl (cI, 40, .inl f8_place)), (a8_stands, .inl (cZ, 40, .inl f8_stands))]) [2, 0, 1] (by decide) rfl
              exact W.iret (v := (((100 : Int32) * y42_2) + y42_5)) hx hb hr (fun t ht hW => ⟨⟨(((100 : Int32) * y42_2) + y42_5), (), rfl, hw, by rw [ht]; exact hP9, va_K.moved hW.alike hK, hD9⟩, hS.F ht⟩) hS.2.2 dX8_shortOne_78
      intro y9_1 y9_2 H locs ls hP hD hS hl hw
      replace hw : wb_X8_shortOne_9 Q v8_pegs f8_place f8_stands v8_tension v8_own v8_droppers v8_load v8_hang  (wl_X8_shortOne_9 Q v8_pegs f8_place f8_stands v8_tension v8_own v8_droppers v8_load v8_hang  n_9) y9_1 y9_2 := hw
      unfold wb_X8_shortOne_9 at hw
      refine lv_iload_n hx hb dX8_shortOne_9 rfl (lv_at hl 2 rfl) ?_
      refine lv_iload_n hx hb dX8_shortOne_10 rfl (lv_at hl 1 rfl) ?_
      refine lv_icmp_ge (tgt := 91) hx hb dX8_shortOne_11 (by decide) (fun c3 => ?_) (fun c3 => ?_)
      · replace hw := hw.1 (c3)
        refine lv_bipush (v := (-6 : Int32)) hx hb dX8_shortOne_91 (by decide) ?_
        have hP9 := hP.sub (ws' := [(a8, .inr (8, [.int v8_length, .int v8_bends, .ref a8_bendA, .ref a8_bendB, .ref a8_curve, .int v8_isLaid, .ref a8_aside, .int v8_pegs, .ref a8_place, .ref a8_cost, .ref a8_stands, .ref a8_side, .int v8_wind, .int v8_pull, .int v8_bow, .int v8_sway, .int v8_reach, .int v8_tension, .int v8_own, .int v8_droppers, .int v8_load, .int v8_hang, .ref a8_least, .ref a8_fits, .ref a8_size, .ref a8_fewest, .ref a8_used])), (a8_place, .inl (cI, 40, .inl f8_place)), (a8_stands, .inl (cZ, 40, .inl f8_stands))]) [0, 1, 2] rfl
        have hD9 := hD.sub (ws' := [(a8, .inr (8, [.int v8_length, .int v8_bends, .ref a8_bendA, .ref a8_bendB, .ref a8_curve, .int v8_isLaid, .ref a8_aside, .int v8_pegs, .ref a8_place, .ref a8_cost, .ref a8_stands, .ref a8_side, .int v8_wind, .int v8_pull, .int v8_bow, .int v8_sway, .int v8_reach, .int v8_tension, .int v8_own, .int v8_droppers, .int v8_load, .int v8_hang, .ref a8_least, .ref a8_fits, .ref a8_size, .ref a8_fewest, .ref a8_used])), (a8_place, .inl (cI, 40, .inl f8_place)), (a8_stands, .inl (cZ, 40, .inl f8_stands))]) [0, 1, 2] (by decide) rfl
        exact W.iret (v := (-6 : Int32)) hx hb hr (fun t ht hW => ⟨⟨(-6 : Int32), (), rfl, hw, by rw [ht]; exact hP9, va_K.moved hW.alike hK, hD9⟩, hS.F ht⟩) hS.2.2 dX8_shortOne_93
      · replace hw := hw.2 (c3)
        refine lv_aload_n hx hb dX8_shortOne_14 rfl (lv_at hl 0 rfl) ?_
        refine lv_iload_n hx hb dX8_shortOne_15 rfl (lv_at hl 2 rfl) ?_
        have hPc := hP.sub (ws' := [(a8, .inr (8, [.int v8_length, .int v8_bends, .ref a8_bendA, .ref a8_bendB, .ref a8_curve, .int v8_isLaid, .ref a8_aside, .int v8_pegs, .ref a8_place, .ref a8_cost, .ref a8_stands, .ref a8_side, .int v8_wind, .int v8_pull, .int v8_bow, .int v8_sway, .int v8_reach, .int v8_tension, .int v8_own, .int v8_droppers, .int v8_load, .int v8_hang, .ref a8_least, .ref a8_fits, .ref a8_size, .ref a8_fewest, .ref a8_used])), (a8_stands, .inl (cZ, 40, .inl f8_stands))]) [0, 2] rfl
        have hDc := hD.sub (ws' := [(a8, .inr (8, [.int v8_length, .int v8_bends, .ref a8_bendA, .ref a8_bendB, .ref a8_curve, .int v8_isLaid, .ref a8_aside, .int v8_pegs, .ref a8_place, .ref a8_cost, .ref a8_stands, .ref a8_side, .int v8_wind, .int v8_pull, .int v8_bow, .int v8_sway, .int v8_reach, .int v8_tension, .int v8_own, .int v8_droppers, .int v8_load, .int v8_hang, .ref a8_least, .ref a8_fits, .ref a8_size, .ref a8_fewest, .ref a8_used])), (a8_stands, .inl (cZ, 40, .inl f8_stands))]) [0, 2] (by decide) rfl
        have hFc := va_free (wc := [(a8, .inr (8, [.int v8_length, .int v8_bends, .ref a8_bendA, .ref a8_bendB, .ref a8_curve, .int v8_isLaid, .ref a8_aside, .int v8_pegs, .ref a8_place, .ref a8_cost, .ref a8_stands, .ref a8_side, .int v8_wind, .int v8_pull, .int v8_bow, .int v8_sway, .int v8_reach, .int v8_tension, .int v8_own, .int v8_droppers, .int v8_load, .int v8_hang, .ref a8_least, .ref a8_fits, .ref a8_size, .ref a8_fewest, .ref a8_used])), (a8_stands, .inl (cZ, 40, .inl f8_stands))]) hD hS hA [0, 2] rfl
        refine va_calli (va_runV (As := [.int y9_2]) (rest := []) ⟨hx, hb, hml, hown, hts⟩ (c_X8_endOf l dC dI cI cJ cZ a8 a8_bendA a8_bendB a8_curve a8_aside a8_place a8_cost a8_stands a8_side a8_least a8_fits a8_size a8_fewest a8_used H.size v8_length v8_bends v8_isLaid v8_pegs f8_stands v8_wind v8_pull v8_bow v8_sway v8_reach v8_tension v8_own v8_droppers v8_load v8_hang y9_2 _ hw) (cwV 1 hts gX8_shortOne_X8_endOf rfl rfl rfl (by decide +kernel) ⟨Nat.le_of_ble_eq_true rfl, Nat.le_of_ble_eq_true rfl⟩) ⟨fun a U g mk q => by obtain ⟨q0, q1, qP, qK, qD⟩ := q; exact ⟨q0, q1, qP, va_K.moved (u := U) (U := U.calling g mk a) (Vm.Alike.refl U.vm) qK, qD⟩, va_recv hK hP (ci := 8) (q0 := 0) rfl rfl, fun U hU hW => ⟨rfl, by rw [hU], by rw [hU]; exact hPc, va_K.moved hW.alike hK, hDc.weaken (fun _ _ _ _ => trivial)⟩⟩ rfl rfl hl.1 rfl (lv_room (Nat.le_of_ble_eq_true rfl)) dX8_shortOne_16 ⟨(Nat.zero_le _), (Nat.zero_le _)⟩) hS (fun q _ h => hFc q h) hFc (fun r4 u t H1 locs ht hvm hw hB hz1 hk1 hS => ?_)
        obtain ⟨hP1, -, hD1⟩ := hB
        try dsimp only at hw
        rw [ht] at hP1
        obtain ⟨hP, hD⟩ := va_join (wr := [(a8_place, .inl (cI, 40, .inl f8_place))]) (w1 := [(a8, .inr (8, [.int v8_length, .int v8_bends, .ref a8_bendA, .ref a8_bendB, .ref a8_curve, .int v8_isLaid, .ref a8_aside, .int v8_pegs, .ref a8_place, .ref a8_cost, .ref a8_stands, .ref a8_side, .int v8_wind, .int v8_pull, .int v8_bow, .int v8_sway, .int v8_reach, .int v8_tension, .int v8_own, .int v8_droppers, .int v8_load, .int v8_hang, .ref a8_least, .ref a8_fits, .ref a8_size, .ref a8_fewest, .ref a8_used])), (a8_stands, .inl (cZ, 40, .inl f8_stands))]) hP hD [0, 2] [1] rfl rfl (by decide) (by decide) hk1 hFc hP1 hD1
        generalize H1 = H at hP hS ⊢
        have hP : va_P (dC, dI) vwCl [(a8_place, .inl (cI, 40, .inl f8_place)), (a8, .inr (8, [.int v8_length, .int v8_bends, .ref a8_bendA, .ref a8_bendB, .ref a8_curve, .int v8_isLaid, .ref a8_aside, .int v8_pegs, .ref a8_place, .ref a8_cost, .ref a8_stands, .ref a8_side, .int v8_wind, .int v8_pull, .int v8_bow, .int v8_sway, .int v8_reach, .int v8_tension, .int v8_own, .int v8_droppers, .int v8_load, .int v8_hang, .ref a8_least, .ref a8_fits, .ref a8_size, .ref a8_fewest, .ref a8_used])), (a8_stands, .inl (cZ, 40, .inl f8_stands))] H := hP
        have hD : va_D A [(a8_place, .inl (cI, 40, .inl f8_place)), (a8, .inr (8, [.int v8_length, .int v8_bends, .ref a8_bendA, .ref a8_bendB, .ref a8_curve, .int v8_isLaid, .ref a8_aside, .int v8_pegs, .ref a8_place, .ref a8_cost, .ref a8_stands, .ref a8_side, .int v8_wind, .int v8_pull, .int v8_bow, .int v8_sway, .int v8_reach, .int v8_tension, .int v8_own, .int v8_droppers, .int v8_load, .int v8_hang, .ref a8_least, .ref a8_fits, .ref a8_size, .ref a8_fewest, .ref a8_used])), (a8_stands, .inl (cZ, 40, .inl f8_stands))] := hD
        refine lv_istore_n (lv' := [(3, .int r4), (0, .ref a8), (1, .int y9_1), (2, .int y9_2)]) hx hb dX8_shortOne_19 rfl hl (by decide) rfl (fun ls hl => ?_)
        refine lv_aload_n hx hb dX8_shortOne_20 rfl (lv_at hl 1 rfl) ?_
        refine va_get (D := (dC, dI)) (ci := 8) (v := .ref a8_place) (C := RX8) (T := TX8) (N := 27) hx hb hts inX8_shortOne_X8 hown hK hP 1 rfl rfl 8 (by decide) lk1 (fun _ h9 => h9) rfl dX8_shortOne_21 ?_
        refine lv_iload_n hx hb dX8_shortOne_24 rfl (lv_at hl 0 rfl) ?_
        obtain ⟨h5, hw⟩ := hw
        refine va_iald hx hb hK hP 0 0 rfl rfl h5 dX8_shortOne_25 ?_
        refine lv_aload_n hx hb dX8_shortOne_26 rfl (lv_at hl 1 rfl) ?_
        refine va_get (D := (dC, dI)) (ci := 8) (v := .ref a8_place) (C := RX8) (T := TX8) (N := 27) hx hb hts inX8_shortOne_X8 hown hK hP 1 rfl rfl 8 (by decide) lk1 (fun _ h9 => h9) rfl dX8_shortOne_27 ?_
        refine lv_aload_n hx hb dX8_shortOne_30 rfl (lv_at hl 1 rfl) ?_
        refine lv_iload_n hx hb dX8_shortOne_31 rfl (lv_at hl 0 rfl) ?_
        have hPc := hP.sub (ws' := [(a8, .inr (8, [.int v8_length, .int v8_bends, .ref a8_bendA, .ref a8_bendB, .ref a8_curve, .int v8_isLaid, .ref a8_aside, .int v8_pegs, .ref a8_place, .ref a8_cost, .ref a8_stands, .ref a8_side, .int v8_wind, .int v8_pull, .int v8_bow, .int v8_sway, .int v8_reach, .int v8_tension, .int v8_own, .int v8_droppers, .int v8_load, .int v8_hang, .ref a8_least, .ref a8_fits, .ref a8_size, .ref a8_fewest, .ref a8_used])), (a8_stands, .inl (cZ, 40, .inl f8_stands))]) [1, 2] rfl
        have hDc := hD.sub (ws' := [(a8, .inr (8, [.int v8_length, .int v8_bends, .ref a8_bendA, .ref a8_bendB, .ref a8_curve, .int v8_isLaid, .ref a8_aside, .int v8_pegs, .ref a8_place, .ref a8_cost, .ref a8_stands, .ref a8_side, .int v8_wind, .int v8_pull, .int v8_bow, .int v8_sway, .int v8_reach, .int v8_tension, .int v8_own, .int v8_droppers, .int v8_load, .int v8_hang, .ref a8_least, .ref a8_fits, .ref a8_size, .ref a8_fewest, .ref a8_used])), (a8_stands, .inl (cZ, 40, .inl f8_stands))]) [1, 2] (by decide) rfl
        have hFc := va_free (wc := [(a8, .inr (8, [.int v8_length, .int v8_bends, .ref a8_bendA, .ref a8_bendB, .ref a8_curve, .int v8_isLaid, .ref a8_aside, .int v8_pegs, .ref a8_place, .ref a8_cost, .ref a8_stands, .ref a8_side, .int v8_wind, .int v8_pull, .int v8_bow, .int v8_sway, .int v8_reach, .int v8_tension, .int v8_own, .int v8_droppers, .int v8_load, .int v8_hang, .ref a8_least, .ref a8_fits, .ref a8_size, .ref a8_fewest, .ref a8_used])), (a8_stands, .inl (cZ, 40, .inl f8_stands))]) hD hS hA [1, 2] rfl
        refine va_calli (va_runV (As := [.int r4]) (rest := [.ref a8_place, .int (f8_place r4.toNatClampNeg)]) ⟨hx, hb, hml, hown, hts⟩ (c_X8_mastBefore l dC dI cI cJ cZ a8 a8_bendA a8_bendB a8_curve a8_aside a8_place a8_cost a8_stands a8_side a8_least a8_fits a8_size a8_fewest a8_used H.size v8_length v8_bends v8_isLaid v8_pegs f8_stands v8_wind v8_pull v8_bow v8_sway v8_reach v8_tension v8_own v8_droppers v8_load v8_hang r4 _ hw) (cwV 1 hts gX8_shortOne_X8_mastBefore rfl rfl rfl (by decide +kernel) ⟨Nat.le_of_ble_eq_true rfl, Nat.le_of_ble_eq_true rfl⟩) ⟨fun a U g mk q => by obtain ⟨q0, q1, qP, qK, qD⟩ := q; exact ⟨q0, q1, qP, va_K.moved (u := U) (U := U.calling g mk a) (Vm.Alike.refl U.vm) qK, qD⟩, va_recv hK hP (ci := 8) (q0 := 1) rfl rfl, fun U hU hW => ⟨rfl, by rw [hU], by rw [hU]; exact hPc, va_K.moved hW.alike hK, hDc.weaken (fun _ _ _ _ => trivial)⟩⟩ rfl rfl hl.1 rfl (lv_room (Nat.le_of_ble_eq_true rfl)) dX8_shortOne_32 ⟨(Nat.zero_le _), (Nat.zero_le _)⟩) hS (fun q _ h => hFc q h) hFc (fun r6 u t H1 locs ht hvm hw hB hz1 hk1 hS => ?_)
        obtain ⟨hP1, -, hD1⟩ := hB
        try dsimp only at hw
        rw [ht] at hP1
        obtain ⟨hP, hD⟩ := va_join (wr := [(a8_place, .inl (cI, 40, .inl f8_place))]) (w1 := [(a8, .inr (8, [.int v8_length, .int v8_bends, .ref a8_bendA, .ref a8_bendB, .ref a8_curve, .int v8_isLaid, .ref a8_aside, .int v8_pegs, .ref a8_place, .ref a8_cost, .ref a8_stands, .ref a8_side, .int v8_wind, .int v8_pull, .int v8_bow, .int v8_sway, .int v8_reach, .int v8_tension, .int v8_own, .int v8_droppers, .int v8_load, .int v8_hang, .ref a8_least, .ref a8_fits, .ref a8_size, .ref a8_fewest, .ref a8_used])), (a8_stands, .inl (cZ, 40, .inl f8_stands))]) hP hD [1, 2] [0] rfl rfl (by decide) (by decide) hk1 hFc hP1 hD1
        generalize H1 = H at hP hS ⊢
        have hP : va_P (dC, dI) vwCl [(a8_place, .inl (cI, 40, .inl f8_place)), (a8, .inr (8, [.int v8_length, .int v8_bends, .ref a8_bendA, .ref a8_bendB, .ref a8_curve, .int v8_isLaid, .ref a8_aside, .int v8_pegs, .ref a8_place, .ref a8_cost, .ref a8_stands, .ref a8_side, .int v8_wind, .int v8_pull, .int v8_bow, .int v8_sway, .int v8_reach, .int v8_tension, .int v8_own, .int v8_droppers, .int v8_load, .int v8_hang, .ref a8_least, .ref a8_fits, .ref a8_size, .ref a8_fewest, .ref a8_used])), (a8_stands, .inl (cZ, 40, .inl f8_stands))] H := hP
        have hD : va_D A [(a8_place, .inl (cI, 40, .inl f8_place)), (a8, .inr (8, [.int v8_length, .int v8_bends, .ref a8_bendA, .ref a8_bendB, .ref a8_curve, .int v8_isLaid, .ref a8_aside, .int v8_pegs, .ref a8_place, .ref a8_cost, .ref a8_stands, .ref a8_side, .int v8_wind, .int v8_pull, .int v8_bow, .int v8_sway, .int v8_reach, .int v8_tension, .int v8_own, .int v8_droppers, .int v8_load, .int v8_hang, .ref a8_least, .ref a8_fits, .ref a8_size, .ref a8_fewest, .ref a8_used])), (a8_stands, .inl (cZ, 40, .inl f8_stands))] := hD
        obtain ⟨h7, hw⟩ := hw
        refine va_iald hx hb hK hP 0 0 rfl rfl h7 dX8_shortOne_35 ?_
        refine lv_isub hx hb dX8_shortOne_36 ?_
        refine lv_topi (fun x8 ex8 => ?_)
        replace hw := hw x8 ex8
        refine lv_istore (lv' := [(4, .int x8), (3, .int r4), (0, .ref a8), (1, .int y9_1), (2, .int y9_2)]) hx hb dX8_shortOne_37 hl (by decide) rfl (fun ls hl => ?_)
        refine lv_iconst (v := (0 : Int32)) hx hb dX8_shortOne_39 (by decide) ?_
        refine lv_istore (lv' := [(5, .int (0 : Int32)), (4, .int x8), (3, .int r4), (0, .ref a8), (1, .int y9_1), (2, .int y9_2)]) hx hb dX8_shortOne_40 hl (by decide) rfl (fun ls hl => ?_)
        obtain ⟨n_42, hw⟩ := hw
        exact k_42 n_42 y9_1 y9_2 x8 (0 : Int32) _ _ _ (hP.sub [1, 0, 2] rfl) (hD.sub [1, 0, 2] (by decide) rfl) hS (lv_sub hl [3, 4, 5, 1, 0] rfl) hw
  have hl := lv_entry ([.ref a8]) (n := 6) (Nat.le_of_ble_eq_true rfl)
  rw [lg_entry_eq]
  generalize (lg_sl ([.ref a8]) ++ List.replicate (6 - (lg_sl ([.ref a8])).length) Slot.unset).toArray = ls at hl ⊢
  have hl : lv_has ls 6 [(0, .ref a8)] := hl
  obtain ⟨H, hHe⟩ : ∃ H, H = s.heap := ⟨_, rfl⟩
  rw [← hHe] at hP
  have hS : va_S A s.heap H [] := by rw [hHe]; exact hS
  rw [← hHe]
  unfold wp_X8_shortOne at hw
  refine lv_aload_n hx hb dX8_shortOne_0 rfl (lv_at hl 0 rfl) ?_
  have hPc := hP.sub (ws' := [(a8, .inr (8, [.int v8_length, .int v8_bends, .ref a8_bendA, .ref a8_bendB, .ref a8_curve, .int v8_isLaid, .ref a8_aside, .int v8_pegs, .ref a8_place, .ref a8_cost, .ref a8_stands, .ref a8_side, .int v8_wind, .int v8_pull, .int v8_bow, .int v8_sway, .int v8_reach, .int v8_tension, .int v8_own, .int v8_droppers, .int v8_load, .int v8_hang, .ref a8_least, .ref a8_fits, .ref a8_size, .ref a8_fewest, .ref a8_used])), (a8_stands, .inl (cZ, 40, .inl f8_stands))]) [0, 2] rfl
  have hDc := hD.sub (ws' := [(a8, .inr (8, [.int v8_length, .int v8_bends, .ref a8_bendA, .ref a8_bendB, .ref a8_curve, .int v8_isLaid, .ref a8_aside, .int v8_pegs, .ref a8_place, .ref a8_cost, .ref a8_stands, .ref a8_side, .int v8_wind, .int v8_pull, .int v8_bow, .int v8_sway, .int v8_reach, .int v8_tension, .int v8_own, .int v8_droppers, .int v8_load, .int v8_hang, .ref a8_least, .ref a8_fits, .ref a8_size, .ref a8_fewest, .ref a8_used])), (a8_stands, .inl (cZ, 40, .inl f8_stands))]) [0, 2] (by decide) rfl
  have hFc := va_free (wc := [(a8, .inr (8, [.int v8_length, .int v8_bends, .ref a8_bendA, .ref a8_bendB, .ref a8_curve, .int v8_isLaid, .ref a8_aside, .int v8_pegs, .ref a8_place, .ref a8_cost, .ref a8_stands, .ref a8_side, .int v8_wind, .int v8_pull, .int v8_bow, .int v8_sway, .int v8_reach, .int v8_tension, .int v8_own, .int v8_droppers, .int v8_load, .int v8_hang, .ref a8_least, .ref a8_fits, .ref a8_size, .ref a8_fewest, .ref a8_used])), (a8_stands, .inl (cZ, 40, .inl f8_stands))]) hD hS hA [0, 2] rfl
  refine va_calli (va_runV (As := []) (rest := []) ⟨hx, hb, hml, hown, hts⟩ (c_X8_masts l dC dI cI cJ cZ a8 a8_bendA a8_bendB a8_curve a8_aside a8_place a8_cost a8_stands a8_side a8_least a8_fits a8_size a8_fewest a8_used H.size v8_length v8_bends v8_isLaid v8_pegs f8_stands v8_wind v8_pull v8_bow v8_sway v8_reach v8_tension v8_own v8_droppers v8_load v8_hang _ hw) (cwV 0 hts gX8_shortOne_X8_masts rfl rfl rfl (by decide +kernel) ⟨Nat.le_of_ble_eq_true rfl, Nat.le_of_ble_eq_true rfl⟩) ⟨fun a U g mk q => by obtain ⟨q0, q1, qP, qK, qD⟩ := q; exact ⟨q0, q1, qP, va_K.moved (u := U) (U := U.calling g mk a) (Vm.Alike.refl U.vm) qK, qD⟩, va_recv hK hP (ci := 8) (q0 := 0) rfl rfl, fun U hU hW => ⟨rfl, by rw [hU], by rw [hU]; exact hPc, va_K.moved hW.alike hK, hDc.weaken (fun _ _ _ _ => trivial)⟩⟩ rfl rfl hl.1 rfl (lv_room (Nat.le_of_ble_eq_true rfl)) dX8_shortOne_1 ⟨(Nat.zero_le _), (Nat.zero_le _)⟩) hS (fun q _ h => hFc q h) hFc (fun r1 u t H1 locs ht hvm hw hB hz1 hk1 hS => ?_)
  obtain ⟨hP1, -, hD1⟩ := hB
  try dsimp only at hw
  rw [ht] at hP1
  obtain ⟨hP, hD⟩ := va_join (wr := [(a8_place, .inl (cI, 40, .inl f8_place))]) (w1 := [(a8, .inr (8, [.int v8_length, .int v8_bends, .ref a8_bendA, .ref a8_bendB, .ref a8_curve, .int v8_isLaid, .ref a8_aside, .int v8_pegs, .ref a8_place, .ref a8_cost, .ref a8_stands, .ref a8_side, .int v8_wind, .int v8_pull, .int v8_bow, .int v8_sway, .int v8_reach, .int v8_tension, .int v8_own, .int v8_droppers, .int v8_load, .int v8_hang, .ref a8_least, .ref a8_fits, .ref a8_size, .ref a8_fewest, .ref a8_used])), (a8_stands, .inl (cZ, 40, .inl f8_stands))]) hP hD [0, 2] [1] rfl rfl (by decide) (by decide) hk1 hFc hP1 hD1
  generalize H1 = H at hP hS ⊢
  have hP : va_P (dC, dI) vwCl [(a8_place, .inl (cI, 40, .inl f8_place)), (a8, .inr (8, [.int v8_length, .int v8_bends, .ref a8_bendA, .ref a8_bendB, .ref a8_curve, .int v8_isLaid, .ref a8_aside, .int v8_pegs, .ref a8_place, .ref a8_cost, .ref a8_stands, .ref a8_side, .int v8_wind, .int v8_pull, .int v8_bow, .int v8_sway, .int v8_reach, .int v8_tension, .int v8_own, .int v8_droppers, .int v8_load, .int v8_hang, .ref a8_least, .ref a8_fits, .ref a8_size, .ref a8_fewest, .ref a8_used])), (a8_stands, .inl (cZ, 40, .inl f8_stands))] H := hP
  have hD : va_D A [(a8_place, .inl (cI, 40, .inl f8_place)), (a8, .inr (8, [.int v8_length, .int v8_bends, .ref a8_bendA, .ref a8_bendB, .ref a8_curve, .int v8_isLaid, .ref a8_aside, .int v8_pegs, .ref a8_place, .ref a8_cost, .ref a8_stands, .ref a8_side, .int v8_wind, .int v8_pull, .int v8_bow, .int v8_sway, .int v8_reach, .int v8_tension, .int v8_own, .int v8_droppers, .int v8_load, .int v8_hang, .ref a8_least, .ref a8_fits, .ref a8_size, .ref a8_fewest, .ref a8_used])), (a8_stands, .inl (cZ, 40, .inl f8_stands))] := hD
  refine lv_iconst (v := (1 : Int32)) hx hb dX8_shortOne_4 (by decide) ?_
  refine lv_isub hx hb dX8_shortOne_5 ?_
  refine lv_topi (fun x2 ex2 => ?_)
  replace hw := hw x2 ex2
  refine lv_istore_n (lv' := [(1, .int x2), (0, .ref a8)]) hx hb dX8_shortOne_6 rfl hl (by decide) rfl (fun ls hl => ?_)
  refine lv_iconst (v := (0 : Int32)) hx hb dX8_shortOne_7 (by decide) ?_
  refine lv_istore_n (lv' := [(2, .int (0 : Int32)), (1, .int x2), (0, .ref a8)]) hx hb dX8_shortOne_8 rfl hl (by decide) rfl (fun ls hl => ?_)
  obtain ⟨n_9, hw⟩ := hw
  exact k_9 n_9 x2 (0 : Int32) _ _ _ (hP.sub [1, 0, 2] rfl) (hD.sub [1, 0, 2] (by decide) rfl) hS (lv_sub hl [2, 1, 0] rfl) hw

def wp_X8_heat (Q : Int64 → Prop) (p1 : Int32) (p2 : Int32) (p3 : Int32) : Prop :=
  (wp_X8_in (fun r1 => ((r1 = 0 → (Q (-1000000000000002 : Int64) )) ∧ (¬ r1 = 0 → (wp_X8_in (fun r3 => ((r3 = 0 → (Q (-1000000000000002 : Int64) )) ∧ (¬ r3 = 0 → (wp_X8_in (fun r5 => ((r5 = 0 → (Q (-1000000000000002 : Int64) )) ∧ (¬ r5 = 0 → (wp_X8_part (fun r7 => (Q r7 )) ((p1.toInt64 * (p2 - (10 : Int32)).toInt64) * (17 : Int64)) (10000 : Int64) p3)))) p3 (0 : Int32) (1 : Int32))))) p2 (-40 : Int32) (80 : Int32))))) p1 (0 : Int32) (8000 : Int32))
set_option maxHeartbeats 4000000 in
set_option maxRecDepth 100000 in
theorem c_X8_heat (l : Launch) (dC : Nat → ClassId) (dI : Nat → Nat → Nat) (cI cJ cZ : ClassId) (a8 : Nat) (sz : Nat) (p1 : Int32) (p2 : Int32) (p3 : Int32) (Q : Int64 → Prop) (hw : wp_X8_heat Q  p1 p2 p3) : Met l yX8_heat wsX8_heat ({ frames := 2, cells := 0, slots := 0, locals := 55 } : Room) (va_Pc [.ref a8, .int p1, .int p2, .int p3] (fun U => U.heap.size = sz ∧ va_P (dC, dI) vwCl [] U.heap ∧ va_K (dC, dI) vwCl [(cI, .int), (cJ, .long), (cZ, .boolean)] U ∧ va_D (fun _ => True) [])) (va_Ql (fun r (u : Unit) => Q r) (fun (u : Unit) t => va_P (dC, dI) vwCl [] t.heap ∧ va_K (dC, dI) vwCl [(cI, .int), (cJ, .long), (cZ, .boolean)] t ∧ va_D (va_A [] sz) []) (va_A [] sz)) 0 0 (va_A [] sz) := by
  refine Met.ofW (cc := cX8_heat) (maxL := 4) (ret := (some .long)) (by decide) rfl ?_
  intro p e s m args below meth c s₁ B hml hv
  obtain ⟨rfl, hsz, hP, hK, hD0⟩ := hv
  have hx := B.exec
  have hb := B.bytes
  have hr := B.returns
  have hts := atoms_spec (ws := wsX8_heat) B.pre
  have hown : s.vm.findClass RX8 = some m.cls := findClass_of_methodNamed B.named
  have hlocks := B.notSynchronized
  subst hsz
  have hD := hD0.self (sz := s.heap.size)
  generalize hAe : va_A [] s.heap.size = A at hD ⊢
  have hA : ∀ q : Nat, s.heap.size ≤ q → A q := fun q h => by rw [← hAe]; exact Or.inr h
  have hS : va_S A s.heap s.heap [] := va_S.rf
  have hP : va_P (dC, dI) vwCl [] s.heap := hP
  have lk1 := hts (.constantLong RX8 134 (-1000000000000002)) (by decide +kernel)
  have lk2 := hts (.constantLong RX8 181 (17)) (by decide +kernel)
  have lk3 := hts (.constantLong RX8 183 (10000)) (by decide +kernel)
  have hl := lv_entry ([.ref a8, .int p1, .int p2, .int p3]) (n := 4) (Nat.le_of_ble_eq_true rfl)
  rw [lg_entry_eq]
  generalize (lg_sl ([.ref a8, .int p1, .int p2, .int p3]) ++ List.replicate (4 - (lg_sl ([.ref a8, .int p1, .int p2, .int p3])).length) Slot.unset).toArray = ls at hl ⊢
  have hl : lv_has ls 4 [(0, .ref a8), (1, .int p1), (2, .int p2), (3, .int p3)] := hl
  obtain ⟨H, hHe⟩ : ∃ H, H = s.heap := ⟨_, rfl⟩
  rw [← hHe] at hP
  have hS : va_S A s.heap H [] := by rw [hHe]; exact hS
  rw [← hHe]
  unfold wp_X8_heat at hw
  refine lv_iload_n hx hb dX8_heat_0 rfl (lv_at hl 1 rfl) ?_
  refine lv_iconst (v := (0 : Int32)) hx hb dX8_heat_1 (by decide) ?_
  refine lv_sipush (v := (8000 : Int32)) hx hb dX8_heat_2 (by decide) ?_
  have hPc := hP.sub (ws' := []) [] rfl
  have hDc := hD.sub (ws' := []) [] (by decide) rfl
  have hFc := va_free (wc := []) hD hS hA [] rfl
  refine va_calli (va_runS (As := [.int p1, .int (0 : Int32), .int (8000 : Int32)]) (rest := []) ⟨hx, hb, hml, hown, hts⟩ (c_X8_in l dC dI cI cJ cZ H.size p1 (0 : Int32) (8000 : Int32) _ hw) (va_cwS 3 hts gX8_heat_X8_in rfl rfl rfl (by decide +kernel) ⟨Nat.le_of_ble_eq_true rfl, Nat.le_of_ble_eq_true rfl⟩) ⟨fun a U g mk q => by obtain ⟨q0, q1, qP, qK, qD⟩ := q; exact ⟨q0, q1, qP, va_K.moved (u := U) (U := U.calling g mk a) (Vm.Alike.refl U.vm) qK, qD⟩, fun U hU hW => ⟨rfl, by rw [hU], by rw [hU]; exact hPc, va_K.moved hW.alike hK, hDc.weaken (fun _ _ _ _ => trivial)⟩⟩ rfl rfl hl.1 rfl (lv_room (Nat.le_of_ble_eq_true rfl)) dX8_heat_5 ⟨(Nat.zero_le _), (Nat.zero_le _)⟩) hS (fun q _ h => hFc q h) hFc (fun r1 u t H1 locs ht hvm hw hB hz1 hk1 hS => ?_)
  obtain ⟨hP1, -, hD1⟩ := hB
  try dsimp only at hw
  rw [ht] at hP1
  obtain ⟨hP, hD⟩ := va_join (wr := []) (w1 := []) hP hD [] [] rfl rfl (by decide) (by decide) hk1 hFc hP1 hD1
  generalize H1 = H at hP hS ⊢
  have hP : va_P (dC, dI) vwCl [] H := hP
  have hD : va_D A [] := hD
  refine lv_if_eq (tgt := 31) hx hb dX8_heat_8 (by decide) (fun c2 => ?_) (fun c2 => ?_)
  · replace hw := hw.1 (c2)
    refine lv_ldc2 (v := (-1000000000000002 : Int64)) hx hb hown lk1 dX8_heat_31 ?_
    have hP9 := hP.sub (ws' := []) [] rfl
    have hD9 := hD.sub (ws' := []) [] (by decide) rfl
    exact W.lret (v := (-1000000000000002 : Int64)) hx hb hr (fun t ht hW => ⟨⟨(-1000000000000002 : Int64), (), rfl, hw, by rw [ht]; exact hP9, va_K.moved hW.alike hK, hD9⟩, hS.F ht⟩) hS.2.2 dX8_heat_34
  · replace hw := hw.2 (c2)
    refine lv_iload_n hx hb dX8_heat_11 rfl (lv_at hl 2 rfl) ?_
    refine lv_bipush (v := (-40 : Int32)) hx hb dX8_heat_12 (by decide) ?_
    refine lv_bipush (v := (80 : Int32)) hx hb dX8_heat_14 (by decide) ?_
    have hPc := hP.sub (ws' := []) [] rfl
    have hDc := hD.sub (ws' := []) [] (by decide) rfl
    have hFc := va_free (wc := []) hD hS hA [] rfl
    refine va_calli (va_runS (As := [.int p2, .int (-40 : Int32), .int (80 : Int32)]) (rest := []) ⟨hx, hb, hml, hown, hts⟩ (c_X8_in l dC dI cI cJ cZ H.size p2 (-40 : Int32) (80 : Int32) _ hw) (va_cwS 3 hts gX8_heat_X8_in rfl rfl rfl (by decide +kernel) ⟨Nat.le_of_ble_eq_true rfl, Nat.le_of_ble_eq_true rfl⟩) ⟨fun a U g mk q => by obtain ⟨q0, q1, qP, qK, qD⟩ := q; exact ⟨q0, q1, qP, va_K.moved (u := U) (U := U.calling g mk a) (Vm.Alike.refl U.vm) qK, qD⟩, fun U hU hW => ⟨rfl, by rw [hU], by rw [hU]; exact hPc, va_K.moved hW.alike hK, hDc.weaken (fun _ _ _ _ => trivial)⟩⟩ rfl rfl hl.1 rfl (lv_room (Nat.le_of_ble_eq_true rfl)) dX8_heat_16 ⟨(Nat.zero_le _), (Nat.zero_le _)⟩) hS (fun q _ h => hFc q h) hFc (fun r3 u t H1 locs ht hvm hw hB hz1 hk1 hS => ?_)
    obtain ⟨hP1, -, hD1⟩ := hB
    try dsimp only at hw
    rw [ht] at hP1
    obtain ⟨hP, hD⟩ := va_join (wr := []) (w1 := []) hP hD [] [] rfl rfl (by decide) (by decide) hk1 hFc hP1 hD1
    generalize H1 = H at hP hS ⊢
    have hP : va_P (dC, dI) vwCl [] H := hP
    have hD : va_D A [] := hD
    refine lv_if_eq (tgt := 31) hx hb dX8_heat_19 (by decide) (fun c4 => ?_) (fun c4 => ?_)
    · replace hw := hw.1 (c4)
      refine lv_ldc2 (v := (-1000000000000002 : Int64)) hx hb hown lk1 dX8_heat_31 ?_
      have hP9 := hP.sub (ws' := []) [] rfl
      have hD9 := hD.sub (ws' := []) [] (by decide) rfl
      exact W.lret (v := (-1000000000000002 : Int64)) hx hb hr (fun t ht hW => ⟨⟨(-1000000000000002 : Int64), (), rfl, hw, by rw [ht]; exact hP9, va_K.moved hW.alike hK, hD9⟩, hS.F ht⟩) hS.2.2 dX8_heat_34
    · replace hw := hw.2 (c4)
      refine lv_iload_n hx hb dX8_heat_22 rfl (lv_at hl 3 rfl) ?_
      refine lv_iconst (v := (0 : Int32)) hx hb dX8_heat_23 (by decide) ?_
      refine lv_iconst (v := (1 : Int32)) hx hb dX8_heat_24 (by decide) ?_
      have hPc := hP.sub (ws' := []) [] rfl
      have hDc := hD.sub (ws' := []) [] (by decide) rfl
      have hFc := va_free (wc := []) hD hS hA [] rfl
      refine va_calli (va_runS (As := [.int p3, .int (0 : Int32), .int (1 : Int32)]) (rest := []) ⟨hx, hb, hml, hown, hts⟩ (c_X8_in l dC dI cI cJ cZ H.size p3 (0 : Int32) (1 : Int32) _ hw) (va_cwS 3 hts gX8_heat_X8_in rfl rfl rfl (by decide +kernel) ⟨Nat.le_of_ble_eq_true rfl, Nat.le_of_ble_eq_true rfl⟩) ⟨fun a U g mk q => by obtain ⟨q0, q1, qP, qK, qD⟩ := q; exact ⟨q0, q1, qP, va_K.moved (u := U) (U := U.calling g mk a) (Vm.Alike.refl U.vm) qK, qD⟩, fun U hU hW => ⟨rfl, by rw [hU], by rw [hU]; exact hPc, va_K.moved hW.alike hK, hDc.weaken (fun _ _ _ _ => trivial)⟩⟩ rfl rfl hl.1 rfl (lv_room (Nat.le_of_ble_eq_true rfl)) dX8_heat_25 ⟨(Nat.zero_le _), (Nat.zero_le _)⟩) hS (fun q _ h => hFc q h) hFc (fun r5 u t H1 locs ht hvm hw hB hz1 hk1 hS => ?_)
      obtain ⟨hP1, -, hD1⟩ := hB
      try dsimp only at hw
      rw [ht] at hP1
      obtain ⟨hP, hD⟩ := va_join (wr := []) (w1 := []) hP hD [] [] rfl rfl (by decide) (by decide) hk1 hFc hP1 hD1
      generalize H1 = H at hP hS ⊢
      have hP : va_P (dC, dI) vwCl [] H := hP
      have hD : va_D A [] := hD
      refine lv_if_ne (tgt := 35) hx hb dX8_heat_28 (by decide) (fun c6 => ?_) (fun c6 => ?_)
      · replace hw := hw.2 (c6)
        refine lv_iload_n hx hb dX8_heat_35 rfl (lv_at hl 1 rfl) ?_
        refine lv_i2l (v := p1.toInt64) hx hb dX8_heat_36 rfl ?_
        refine lv_iload_n hx hb dX8_heat_37 rfl (lv_at hl 2 rfl) ?_
        refine lv_bipush (v := (10 : Int32)) hx hb dX8_heat_38 (by decide) ?_
        refine lv_isub hx hb dX8_heat_40 ?_
        refine lv_i2l (v := (p2 - (10 : Int32)).toInt64) hx hb dX8_heat_41 rfl ?_
        refine lv_lmul hx hb dX8_heat_42 ?_
        refine lv_ldc2 (v := (17 : Int64)) hx hb hown lk2 dX8_heat_43 ?_
        refine lv_lmul hx hb dX8_heat_46 ?_
        refine lv_ldc2 (v := (10000 : Int64)) hx hb hown lk3 dX8_heat_47 ?_
        refine lv_iload_n hx hb dX8_heat_50 rfl (lv_at hl 3 rfl) ?_
        have hPc := hP.sub (ws' := []) [] rfl
        have hDc := hD.sub (ws' := []) [] (by decide) rfl
        have hFc := va_free (wc := []) hD hS hA [] rfl
        refine va_calll (va_runS (As := [.long ((p1.toInt64 * (p2 - (10 : Int32)).toInt64) * (17 : Int64)), .long (10000 : Int64), .int p3]) (rest := []) ⟨hx, hb, hml, hown, hts⟩ (c_X8_part l dC dI cI cJ cZ H.size ((p1.toInt64 * (p2 - (10 : Int32)).toInt64) * (17 : Int64)) (10000 : Int64) p3 _ hw) (va_cwS 3 hts gX8_heat_X8_part rfl rfl rfl (by decide +kernel) ⟨Nat.le_of_ble_eq_true rfl, Nat.le_of_ble_eq_true rfl⟩) ⟨fun a U g mk q => by obtain ⟨q0, q1, qP, qK, qD⟩ := q; exact ⟨q0, q1, qP, va_K.moved (u := U) (U := U.calling g mk a) (Vm.Alike.refl U.vm) qK, qD⟩, fun U hU hW => ⟨rfl, by rw [hU], by rw [hU]; exact hPc, va_K.moved hW.alike hK, hDc.weaken (fun _ _ _ _ => trivial)⟩⟩ rfl rfl hl.1 rfl (lv_room (Nat.le_of_ble_eq_true rfl)) dX8_heat_51 ⟨(Nat.zero_le _), (Nat.zero_le _)⟩) hS (fun q _ h => hFc q h) hFc (fun r7 u t H1 locs ht hvm hw hB hz1 hk1 hS => ?_)
        obtain ⟨hP1, -, hD1⟩ := hB
        try dsimp only at hw
        rw [ht] at hP1
        obtain ⟨hP, hD⟩ := va_join (wr := []) (w1 := []) hP hD [] [] rfl rfl (by decide) (by decide) hk1 hFc hP1 hD1
        generalize H1 = H at hP hS ⊢
        have hP : va_P (dC, dI) vwCl [] H := hP
        have hD : va_D A [] := hD
        have hP9 := hP.sub (ws' := []) [] rfl
        have hD9 := hD.sub (ws' := []) [] (by decide) rfl
        exact W.lret (v := r7) hx hb hr (fun t ht hW => ⟨⟨r7, (), rfl, hw, by rw [ht]; exact hP9, va_K.moved hW.alike hK, hD9⟩, hS.F ht⟩) hS.2.2 dX8_heat_54
      · replace hw := hw.1 (c6)
        refine lv_ldc2 (v := (-1000000000000002 : Int64)) hx hb hown lk1 dX8_heat_31 ?_
        have hP9 := hP.sub (ws' := []) [] rfl
        have hD9 := hD.sub (ws' := []) [] (by decide) rfl
        exact W.lret (v := (-1000000000000002 : Int64)) hx hb hr (fun t ht hW => ⟨⟨(-1000000000000002 : Int64), (), rfl, hw, by rw [ht]; exact hP9, va_K.moved hW.alike hK, hD9⟩, hS.F ht⟩) hS.2.2 dX8_heat_34

def wp_X8_sideOf (Q : Int32 → Prop) (p1 : Int32) (p2 : Int32) : Prop :=
  (Q (((p1 - p1 / (3 : Int32) * (3 : Int32)) - (1 : Int32)) * p2) )
set_option maxHeartbeats 4000000 in
set_option maxRecDepth 100000 in
theorem c_X8_sideOf (l : Launch) (dC : Nat → ClassId) (dI : Nat → Nat → Nat) (cI cJ cZ : ClassId) (a8 : Nat) (sz : Nat) (p1 : Int32) (p2 : Int32) (Q : Int32 → Prop) (hw : wp_X8_sideOf Q  p1 p2) : Met l yX8_sideOf wsX8_sideOf ({ frames := 0, cells := 0, slots := 0, locals := 0 } : Room) (va_Pc [.ref a8, .int p1, .int p2] (fun U => U.heap.size = sz ∧ va_P (dC, dI) vwCl [] U.heap ∧ va_K (dC, dI) vwCl [(cI, .int), (cJ, .long), (cZ, .boolean)] U ∧ va_D (fun _ => True) [])) (va_Qi (fun r (u : Unit) => Q r) (fun (u : Unit) t => va_P (dC, dI) vwCl [] t.heap ∧ va_K (dC, dI) vwCl [(cI, .int), (cJ, .long), (cZ, .boolean)] t ∧ va_D (va_A [] sz) []) (va_A [] sz)) 0 0 (va_A [] sz) := by
  refine Met.ofW (cc := cX8_sideOf) (maxL := 3) (ret := (some .int)) (by decide) rfl ?_
  intro p e s m args below meth c s₁ B hml hv
  obtain ⟨rfl, hsz, hP, hK, hD0⟩ := hv
  have hx := B.exec
  have hb := B.bytes
  have hr := B.returns
  have hts := atoms_spec (ws := wsX8_sideOf) B.pre
  have hown : s.vm.findClass RX8 = some m.cls := findClass_of_methodNamed B.named
  have hlocks := B.notSynchronized
  subst hsz
  have hD := hD0.self (sz := s.heap.size)
  generalize hAe : va_A [] s.heap.size = A at hD ⊢
  have hA : ∀ q : Nat, s.heap.size ≤ q → A q := fun q h => by rw [← hAe]; exact Or.inr h
  have hS : va_S A s.heap s.heap [] := va_S.rf
  have hP : va_P (dC, dI) vwCl [] s.heap := hP
  have hl := lv_entry ([.ref a8, .int p1, .int p2]) (n := 3) (Nat.le_of_ble_eq_true rfl)
  rw [lg_entry_eq]
  generalize (lg_sl ([.ref a8, .int p1, .int p2]) ++ List.replicate (3 - (lg_sl ([.ref a8, .int p1, .int p2])).length) Slot.unset).toArray = ls at hl ⊢
  have hl : lv_has ls 3 [(0, .ref a8), (1, .int p1), (2, .int p2)] := hl
  obtain ⟨H, hHe⟩ : ∃ H, H = s.heap := ⟨_, rfl⟩
  rw [← hHe] at hP
  have hS : va_S A s.heap H [] := by rw [hHe]; exact hS
  rw [← hHe]
  unfold wp_X8_sideOf at hw
  refine lv_iload_n hx hb dX8_sideOf_0 rfl (lv_at hl 1 rfl) ?_
  refine lv_iconst (v := (3 : Int32)) hx hb dX8_sideOf_1 (by decide) ?_
  refine lv_irem hx hb dX8_sideOf_2 (by decide) ?_
  refine lv_iconst (v := (1 : Int32)) hx hb dX8_sideOf_3 (by decide) ?_
  refine lv_isub hx hb dX8_sideOf_4 ?_
  refine lv_iload_n hx hb dX8_sideOf_5 rfl (lv_at hl 2 rfl) ?_
  refine lv_imul hx hb dX8_sideOf_6 ?_
  have hP9 := hP.sub (ws' := []) [] rfl
  have hD9 := hD.sub (ws' := []) [] (by decide) rfl
  exact W.iret (v := (((p1 - p1 / (3 : Int32) * (3 : Int32)) - (1 : Int32)) * p2)) hx hb hr (fun t ht hW => ⟨⟨(((p1 - p1 / (3 : Int32) * (3 : Int32)) - (1 : Int32)) * p2), (), rfl, hw, by rw [ht]; exact hP9, va_K.moved hW.alike hK, hD9⟩, hS.F ht⟩) hS.2.2 dX8_sideOf_7
