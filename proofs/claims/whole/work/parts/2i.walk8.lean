theorem inX7_sag_X7 : ∀ w ∈ wsX70, w ∈ wsX7_sag := fun _ h => List.mem_cons_of_mem _ (List.mem_append_left _ (List.mem_append_right _ h))
theorem inX7_sag_X0 : ∀ w ∈ wsX00, w ∈ wsX7_sag := fun _ h => List.mem_cons_of_mem _ (List.mem_append_right _ h)
def wp_X7_sag (Q : Int64 → Prop) (v0_tension : Int32) (v0_own : Int32) (v0_droppers : Int32) (v0_load : Int32) (p1 : Int32) (p2 : Int32) (p3 : Int32) : Prop :=
  (wp_X7_refusalOfDropper (fun r1 => ((r1 = 0 → (wp_X0_sagUpper (fun r3 => (wp_X0_lower (fun r4 => (wp_X7_part (fun r5 => (Q r5 )) r3 r4 p3)) v0_tension v0_droppers)) v0_own v0_droppers v0_load p1 p2)) ∧ (¬ r1 = 0 → (Q ((-1000000000000000 : Int64) + r1.toInt64) )))) v0_droppers p1 p2 p3)
set_option maxHeartbeats 4000000 in
set_option maxRecDepth 100000 in
theorem c_X7_sag (l : Launch) (dC : Nat → ClassId) (dI : Nat → Nat → Nat) (cI cJ cZ : ClassId) (a7 : Nat) (a6 : Nat) (a2 : Nat) (a5 : Nat) (a4 : Nat) (a0 : Nat) (a1 : Nat) (a3 : Nat) (sz : Nat) (v0_tension : Int32) (v0_own : Int32) (v0_droppers : Int32) (v0_load : Int32) (v0_hang : Int32) (p1 : Int32) (p2 : Int32) (p3 : Int32) (Q : Int64 → Prop) (hw : wp_X7_sag Q v0_tension v0_own v0_droppers v0_load p1 p2 p3) : Met l yX7_sag wsX7_sag ({ frames := 2, cells := 0, slots := 0, locals := 52 } : Room) (va_Pc [.ref a7, .int p1, .int p2, .int p3] (fun U => U.heap.size = sz ∧ va_P (dC, dI) vwCl [(a7, .inr (7, [.ref a6, .ref a2, .ref a5, .ref a4, .ref a0, .ref a1, .ref a3])), (a0, .inr (0, [.int v0_tension, .int v0_own, .int v0_droppers, .int v0_load, .int v0_hang]))] U.heap ∧ va_K (dC, dI) vwCl [(cI, .int), (cJ, .long), (cZ, .boolean)] U ∧ va_D (fun _ => True) [(a7, .inr (7, [.ref a6, .ref a2, .ref a5, .ref a4, .ref a0, .ref a1, .ref a3])), (a0, .inr (0, [.int v0_tension, .int v0_own, .int v0_droppers, .int v0_load, .int v0_hang]))])) (va_Ql (fun r (u : Unit) => Q r) (fun (u : Unit) t => va_P (dC, dI) vwCl [(a7, .inr (7, [.ref a6, .ref a2, .ref a5, .ref a4, .ref a0, .ref a1, .ref a3])), (a0, .inr (0, [.int v0_tension, .int v0_own, .int v0_droppers, .int v0_load, .int v0_hang]))] t.heap ∧ va_K (dC, dI) vwCl [(cI, .int), (cJ, .long), (cZ, .boolean)] t ∧ va_D (va_A [(a7, .inr (7, [.ref a6, .ref a2, .ref a5, .ref a4, .ref a0, .ref a1, .ref a3])), (a0, .inr (0, [.int v0_tension, .int v0_own, .int v0_droppers, .int v0_load, .int v0_hang]))] sz) [(a7, .inr (7, [.ref a6, .ref a2, .ref a5, .ref a4, .ref a0, .ref a1, .ref a3])), (a0, .inr (0, [.int v0_tension, .int v0_own, .int v0_droppers, .int v0_load, .int v0_hang]))]) (va_A [(a7, .inr (7, [.ref a6, .ref a2, .ref a5, .ref a4, .ref a0, .ref a1, .ref a3])), (a0, .inr (0, [.int v0_tension, .int v0_own, .int v0_droppers, .int v0_load, .int v0_hang]))] sz)) 0 0 (va_A [(a7, .inr (7, [.ref a6, .ref a2, .ref a5, .ref a4, .ref a0, .ref a1, .ref a3])), (a0, .inr (0, [.int v0_tension, .int v0_own, .int v0_droppers, .int v0_load, .int v0_hang]))] sz) := by
  refine Met.ofW (cc := cX7_sag) (maxL := 5) (ret := (some .long)) (by decide) rfl ?_
  intro p e s m args below meth c s₁ B hml hv
  obtain ⟨rfl, hsz, hP, hK, hD0⟩ := hv
  have hx := B.exec
  have hb := B.bytes
  have hr := B.returns
  have hts := atoms_spec (ws := wsX7_sag) B.pre
  have hown : s.vm.findClass RX7 = some m.cls := findClass_of_methodNamed B.named
  have hlocks := B.notSynchronized
  subst hsz
  have hD := hD0.self (sz := s.heap.size)
  generalize hAe : va_A [(a7, .inr (7, [.ref a6, .ref a2, .ref a5, .ref a4, .ref a0, .ref a1, .ref a3])), (a0, .inr (0, [.int v0_tension, .int v0_own, .int v0_droppers, .int v0_load, .int v0_hang]))] s.heap.size = A at hD ⊢
  have hA : ∀ q : Nat, s.heap.size ≤ q → A q := fun q h => by rw [← hAe]; exact Or.inr h
  have hS : va_S A s.heap s.heap [] := va_S.rf
  have hP : va_P (dC, dI) vwCl [(a7, .inr (7, [.ref a6, .ref a2, .ref a5, .ref a4, .ref a0, .ref a1, .ref a3])), (a0, .inr (0, [.int v0_tension, .int v0_own, .int v0_droppers, .int v0_load, .int v0_hang]))] s.heap := hP
  have lk1 := hts (.fieldLink RX7 42 "WireRow" "wire" "LWireRow$Carrier;") (by decide +kernel)
  have lk2 := hts (.constantLong RX7 199 (-1000000000000000)) (by decide +kernel)
  have hl := lv_entry ([.ref a7, .int p1, .int p2, .int p3]) (n := 5) (Nat.le_of_ble_eq_true rfl)
  rw [lg_entry_eq]
  generalize (lg_sl ([.ref a7, .int p1, .int p2, .int p3]) ++ List.replicate (5 - (lg_sl ([.ref a7, .int p1, .int p2, .int p3])).length) Slot.unset).toArray = ls at hl ⊢
  have hl : lv_has ls 5 [(0, .ref a7), (1, .int p1), (2, .int p2), (3, .int p3)] := hl
  obtain ⟨H, hHe⟩ : ∃ H, H = s.heap := ⟨_, rfl⟩
  rw [← hHe] at hP
  have hS : va_S A s.heap H [] := by rw [hHe]; exact hS
  rw [← hHe]
  unfold wp_X7_sag at hw
  refine lv_aload_n hx hb dX7_sag_0 rfl (lv_at hl 0 rfl) ?_
  refine lv_iload_n hx hb dX7_sag_1 rfl (lv_at hl 1 rfl) ?_
  refine lv_iload_n hx hb dX7_sag_2 rfl (lv_at hl 2 rfl) ?_
  refine lv_iload_n hx hb dX7_sag_3 rfl (lv_at hl 3 rfl) ?_
  have hPc := hP.sub (ws' := [(a7, .inr (7, [.ref a6, .ref a2, .ref a5, .ref a4, .ref a0, .ref a1, .ref a3])), (a0, .inr (0, [.int v0_tension, .int v0_own, .int v0_droppers, .int v0_load, .int v0_hang]))]) [0, 1] rfl
  have hDc := hD.sub (ws' := [(a7, .inr (7, [.ref a6, .ref a2, .ref a5, .ref a4, .ref a0, .ref a1, .ref a3])), (a0, .inr (0, [.int v0_tension, .int v0_own, .int v0_droppers, .int v0_load, .int v0_hang]))]) [0, 1] (by decide) rfl
  have hFc := va_free (wc := [(a7, .inr (7, [.ref a6, .ref a2, .ref a5, .ref a4, .ref a0, .ref a1, .ref a3])), (a0, .inr (0, [.int v0_tension, .int v0_own, .int v0_droppers, .int v0_load, .int v0_hang]))]) hD hS hA [0, 1] rfl
  refine va_calli (va_runV (As := [.int p1, .int p2, .int p3]) (rest := []) ⟨hx, hb, hml, hown, hts⟩ (c_X7_refusalOfDropper l dC dI cI cJ cZ a7 a6 a2 a5 a4 a0 a1 a3 H.size v0_tension v0_own v0_droppers v0_load v0_hang p1 p2 p3 _ hw) (cwV 3 hts gX7_sag_X7_refusalOfDropper rfl rfl rfl (by decide +kernel) ⟨Nat.le_of_ble_eq_true rfl, Nat.le_of_ble_eq_true rfl⟩) ⟨fun a U g mk q => by obtain ⟨q0, q1, qP, qK, qD⟩ := q; exact ⟨q0, q1, qP, va_K.moved (u := U) (U := U.calling g mk a) (Vm.Alike.refl U.vm) qK, qD⟩, va_recv hK hP (ci := 7) (q0 := 0) rfl rfl, fun U hU hW => ⟨rfl, by rw [hU], by rw [hU]; exact hPc, va_K.moved hW.alike hK, hDc.weaken (fun _ _ _ _ => trivial)⟩⟩ rfl rfl hl.1 rfl (lv_room (Nat.le_of_ble_eq_true rfl)) dX7_sag_4 ⟨(Nat.zero_le _), (Nat.zero_le _)⟩) hS (fun q _ h => hFc q h) hFc (fun r1 u t H1 locs ht hvm hw hB hz1 hk1 hS => ?_)
  obtain ⟨hP1, -, hD1⟩ := hB
  try dsimp only at hw
  rw [ht] at hP1
  obtain ⟨hP, hD⟩ := va_join (wr := []) (w1 := [(a7, .inr (7, [.ref a6, .ref a2, .ref a5, .ref a4, .ref a0, .ref a1, .ref a3])), (a0, .inr (0, [.int v0_tension, .int v0_own, .int v0_droppers, .int v0_load, .int v0_hang]))]) hP hD [0, 1] [] rfl rfl (by decide) (by decide) hk1 hFc hP1 hD1
  generalize H1 = H at hP hS ⊢
  have hP : va_P (dC, dI) vwCl [(a7, .inr (7, [.ref a6, .ref a2, .ref a5, .ref a4, .ref a0, .ref a1, .ref a3])), (a0, .inr (0, [.int v0_tension, .int v0_own, .int v0_droppers, .int v0_load, .int v0_hang]))] H := hP
  have hD : va_D A [(a7, .inr (7, [.ref a6, .ref a2, .ref a5, .ref a4, .ref a0, .ref a1, .ref a3])), (a0, .inr (0, [.int v0_tension, .int v0_own, .int v0_droppers, .int v0_load, .int v0_hang]))] := hD
  refine lv_istore (lv' := [(4, .int r1), (0, .ref a7), (1, .int p1), (2, .int p2), (3, .int p3)]) hx hb dX7_sag_7 hl (by decide) rfl (fun ls hl => ?_)
  refine lv_iload hx hb dX7_sag_9 (lv_at hl 0 rfl) ?_
  refine lv_if_eq (tgt := 22) hx hb dX7_sag_11 (by decide) (fun c2 => ?_) (fun c2 => ?_)
  · replace hw := hw.1 (c2)
    refine lv_aload_n hx hb dX7_sag_22 rfl (lv_at hl 1 rfl) ?_
    refine va_get (D := (dC, dI)) (ci := 7) (v := .ref a0) (C := RX7) (T := TX7) (N := 7) hx hb hts inX7_sag_X7 hown hK hP 0 rfl rfl 4 (by decide) lk1 (fun _ h9 => h9) rfl dX7_sag_23 ?_
    refine lv_iload_n hx hb dX7_sag_26 rfl (lv_at hl 2 rfl) ?_
    refine lv_iload_n hx hb dX7_sag_27 rfl (lv_at hl 3 rfl) ?_
    have hPc := hP.sub (ws' := [(a0, .inr (0, [.int v0_tension, .int v0_own, .int v0_droppers, .int v0_load, .int v0_hang]))]) [1] rfl
    have hDc := hD.sub (ws' := [(a0, .inr (0, [.int v0_tension, .int v0_own, .int v0_droppers, .int v0_load, .int v0_hang]))]) [1] (by decide) rfl
    have hFc := va_free (wc := [(a0, .inr (0, [.int v0_tension, .int v0_own, .int v0_droppers, .int v0_load, .int v0_hang]))]) hD hS hA [1] rfl
    refine va_calll (va_runV (As := [.int p1, .int p2]) (rest := []) ⟨hx, hb, hml, hown, hts⟩ (c_X0_sagUpper l dC dI cI cJ cZ a0 H.size v0_tension v0_own v0_droppers v0_load v0_hang p1 p2 _ hw) (cwV 2 hts gX7_sag_X0_sagUpper rfl rfl rfl (by decide +kernel) ⟨Nat.le_of_ble_eq_true rfl, Nat.le_of_ble_eq_true rfl⟩) ⟨fun a U g mk q => by obtain ⟨q0, q1, qP, qK, qD⟩ := q; exact ⟨q0, q1, qP, va_K.moved (u := U) (U := U.calling g mk a) (Vm.Alike.refl U.vm) qK, qD⟩, va_recv hK hP (ci := 0) (q0 := 1) rfl rfl, fun U hU hW => ⟨rfl, by rw [hU], by rw [hU]; exact hPc, va_K.moved hW.alike hK, hDc.weaken (fun _ _ _ _ => trivial)⟩⟩ rfl rfl hl.1 rfl (lv_room (Nat.le_of_ble_eq_true rfl)) dX7_sag_28 ⟨(Nat.zero_le _), (Nat.zero_le _)⟩) hS (fun q _ h => hFc q h) hFc (fun r3 u t H1 locs ht hvm hw hB hz1 hk1 hS => ?_)
    obtain ⟨hP1, -, hD1⟩ := hB
    try dsimp only at hw
    rw [ht] at hP1
    obtain ⟨hP, hD⟩ := va_join (wr := [(a7, .inr (7, [.ref a6, .ref a2, .ref a5, .ref a4, .ref a0, .ref a1, .ref a3]))]) (w1 := [(a0, .inr (0, [.int v0_tension, .int v0_own, .int v0_droppers, .int v0_load, .int v0_hang]))]) hP hD [1] [0] rfl rfl (by decide) (by decide) hk1 hFc hP1 hD1
    generalize H1 = H at hP hS ⊢
    have hP : va_P (dC, dI) vwCl [(a7, .inr (7, [.ref a6, .ref a2, .ref a5, .ref a4, .ref a0, .ref a1, .ref a3])), (a0, .inr (0, [.int v0_tension, .int v0_own, .int v0_droppers, .int v0_load, .int v0_hang]))] H := hP
    have hD : va_D A [(a7, .inr (7, [.ref a6, .ref a2, .ref a5, .ref a4, .ref a0, .ref a1, .ref a3])), (a0, .inr (0, [.int v0_tension, .int v0_own, .int v0_droppers, .int v0_load, .int v0_hang]))] := hD
    refine lv_aload_n hx hb dX7_sag_31 rfl (lv_at hl 1 rfl) ?_
    refine va_get (D := (dC, dI)) (ci := 7) (v := .ref a0) (C := RX7) (T := TX7) (N := 7) hx hb hts inX7_sag_X7 hown hK hP 0 rfl rfl 4 (by decide) lk1 (fun _ h9 => h9) rfl dX7_sag_32 ?_
    have hPc := hP.sub (ws' := [(a0, .inr (0, [.int v0_tension, .int v0_own, .int v0_droppers, .int v0_load, .int v0_hang]))]) [1] rfl
    have hDc := hD.sub (ws' := [(a0, .inr (0, [.int v0_tension, .int v0_own, .int v0_droppers, .int v0_load, .int v0_hang]))]) [1] (by decide) rfl
    have hFc := va_free (wc := [(a0, .inr (0, [.int v0_tension, .int v0_own, .int v0_droppers, .int v0_load, .int v0_hang]))]) hD hS hA [1] rfl
    refine va_calll (va_runV (As := []) (rest := [.long r3]) ⟨hx, hb, hml, hown, hts⟩ (c_X0_lower l dC dI cI cJ cZ a0 H.size v0_tension v0_own v0_droppers v0_load v0_hang _ hw) (cwV 0 hts gX7_sag_X0_lower rfl rfl rfl (by decide +kernel) ⟨Nat.le_of_ble_eq_true rfl, Nat.le_of_ble_eq_true rfl⟩) ⟨fun a U g mk q => by obtain ⟨q0, q1, qP, qK, qD⟩ := q; exact ⟨q0, q1, qP, va_K.moved (u := U) (U := U.calling g mk a) (Vm.Alike.refl U.vm) qK, qD⟩, va_recv hK hP (ci := 0) (q0 := 1) rfl rfl, fun U hU hW => ⟨rfl, by rw [hU], by rw [hU]; exact hPc, va_K.moved hW.alike hK, hDc.weaken (fun _ _ _ _ => trivial)⟩⟩ rfl rfl hl.1 rfl (lv_room (Nat.le_of_ble_eq_true rfl)) dX7_sag_35 ⟨(Nat.zero_le _), (Nat.zero_le _)⟩) hS (fun q _ h => hFc q h) hFc (fun r4 u t H1 locs ht hvm hw hB hz1 hk1 hS => ?_)
    obtain ⟨hP1, -, hD1⟩ := hB
    try dsimp only at hw
    rw [ht] at hP1
    obtain ⟨hP, hD⟩ := va_join (wr := [(a7, .inr (7, [.ref a6, .ref a2, .ref a5, .ref a4, .ref a0, .ref a1, .ref a3]))]) (w1 := [(a0, .inr (0, [.int v0_tension, .int v0_own, .int v0_droppers, .int v0_load, .int v0_hang]))]) hP hD [1] [0] rfl rfl (by decide) (by decide) hk1 hFc hP1 hD1
    generalize H1 = H at hP hS ⊢
    have hP : va_P (dC, dI) vwCl [(a7, .inr (7, [.ref a6, .ref a2, .ref a5, .ref a4, .ref a0, .ref a1, .ref a3])), (a0, .inr (0, [.int v0_tension, .int v0_own, .int v0_droppers, .int v0_load, .int v0_hang]))] H := hP
    have hD : va_D A [(a7, .inr (7, [.ref a6, .ref a2, .ref a5, .ref a4, .ref a0, .ref a1, .ref a3])), (a0, .inr (0, [.int v0_tension, .int v0_own, .int v0_droppers, .int v0_load, .int v0_hang]))] := hD
    refine lv_iload_n hx hb dX7_sag_38 rfl (lv_at hl 4 rfl) ?_
    have hPc := hP.sub (ws' := []) [] rfl
    have hDc := hD.sub (ws' := []) [] (by decide) rfl
    have hFc := va_free (wc := []) hD hS hA [] rfl
    refine va_calll (va_runS (As := [.long r3, .long r4, .int p3]) (rest := []) ⟨hx, hb, hml, hown, hts⟩ (c_X7_part l dC dI cI cJ cZ H.size r3 r4 p3 _ hw) (va_cwS 3 hts gX7_sag_X7_part rfl rfl rfl (by decide +kernel) ⟨Nat.le_of_ble_eq_true rfl, Nat.le_of_ble_eq_true rfl⟩) ⟨fun a U g mk q => by obtain ⟨q0, q1, qP, qK, qD⟩ := q; exact ⟨q0, q1, qP, va_K.moved (u := U) (U := U.calling g mk a) (Vm.Alike.refl U.vm) qK, qD⟩, fun U hU hW => ⟨rfl, by rw [hU], by rw [hU]; exact hPc, va_K.moved hW.alike hK, hDc.weaken (fun _ _ _ _ => trivial)⟩⟩ rfl rfl hl.1 rfl (lv_room (Nat.le_of_ble_eq_true rfl)) dX7_sag_39 ⟨(Nat.zero_le _), (Nat.zero_le _)⟩) hS (fun q _ h => hFc q h) hFc (fun r5 u t H1 locs ht hvm hw hB hz1 hk1 hS => ?_)
    obtain ⟨hP1, -, hD1⟩ := hB
    try dsimp only at hw
    rw [ht] at hP1
    obtain ⟨hP, hD⟩ := va_join (wr := [(a7, .inr (7, [.ref a6, .ref a2, .ref a5, .ref a4, .ref a0, .ref a1, .ref a3])), (a0, .inr (0, [.int v0_tension, .int v0_own, .int v0_droppers, .int v0_load, .int v0_hang]))]) (w1 := []) hP hD [] [0, 1] rfl rfl (by decide) (by decide) hk1 hFc hP1 hD1
    generalize H1 = H at hP hS ⊢
    have hP : va_P (dC, dI) vwCl [(a7, .inr (7, [.ref a6, .ref a2, .ref a5, .ref a4, .ref a0, .ref a1, .ref a3])), (a0, .inr (0, [.int v0_tension, .int v0_own, .int v0_droppers, .int v0_load, .int v0_hang]))] H := hP
    have hD : va_D A [(a7, .inr (7, [.ref a6, .ref a2, .ref a5, .ref a4, .ref a0, .ref a1, .ref a3])), (a0, .inr (0, [.int v0_tension, .int v0_own, .int v0_droppers, .int v0_load, .int v0_hang]))] := hD
    have hP9 := hP.sub (ws' := [(a7, .inr (7, [.ref a6, .ref a2, .ref a5, .ref a4, .ref a0, .ref a1, .ref a3])), (a0, .inr (0, [.int v0_tension, .int v0_own, .int v0_droppers, .int v0_load, .int v0_hang]))]) [0, 1] rfl
    have hD9 := hD.sub (ws' := [(a7, .inr (7, [.ref a6, .ref a2, .ref a5, .ref a4, .ref a0, .ref a1, .ref a3])), (a0, .inr (0, [.int v0_tension, .int v0_own, .int v0_droppers, .int v0_load, .int v0_hang]))]) [0, 1] (by decide) rfl
    exact W.lret (v := r5) hx hb hr (fun t ht hW => ⟨⟨r5, (), rfl, hw, by rw [ht]; exact hP9, va_K.moved hW.alike hK, hD9⟩, hS.F ht⟩) hS.2.2 dX7_sag_42
  · replace hw := hw.2 (c2)
    refine lv_ldc2 (v := (-1000000000000000 : Int64)) hx hb hown lk2 dX7_sag_14 ?_
    refine lv_iload hx hb dX7_sag_17 (lv_at hl 0 rfl) ?_
    refine lv_i2l (v := r1.toInt64) hx hb dX7_sag_19 rfl ?_
    refine lv_ladd hx hb dX7_sag_20 ?_
    have hP9 := hP.sub (ws' := [(a7, .inr (7, [.ref a6, .ref a2, .ref a5, .ref a4, .ref a0, .ref a1, .ref a3])), (a0, .inr (0, [.int v0_tension, .int v0_own, .int v0_droppers, .int v0_load, .int v0_hang]))]) [0, 1] rfl
    have hD9 := hD.sub (ws' := [(a7, .inr (7, [.ref a6, .ref a2, .ref a5, .ref a4, .ref a0, .ref a1, .ref a3])), (a0, .inr (0, [.int v0_tension, .int v0_own, .int v0_droppers, .int v0_load, .int v0_hang]))]) [0, 1] (by decide) rfl
    exact W.lret (v := ((-1000000000000000 : Int64) + r1.toInt64)) hx hb hr (fun t ht hW => ⟨⟨((-1000000000000000 : Int64) + r1.toInt64), (), rfl, hw, by rw [ht]; exact hP9, va_K.moved hW.alike hK, hD9⟩, hS.F ht⟩) hS.2.2 dX7_sag_21

theorem inX7_dropper_X7 : ∀ w ∈ wsX70, w ∈ wsX7_dropper := fun _ h => List.mem_cons_of_mem _ (List.mem_append_left _ (List.mem_append_right _ h))
theorem inX7_dropper_X0 : ∀ w ∈ wsX00, w ∈ wsX7_dropper := fun _ h => List.mem_cons_of_mem _ (List.mem_append_right _ h)
def wp_X7_dropper (Q : Int64 → Prop) (v0_tension : Int32) (v0_own : Int32) (v0_droppers : Int32) (v0_load : Int32) (v0_hang : Int32) (p1 : Int32) (p2 : Int32) (p3 : Int32) : Prop :=
  (wp_X7_refusalOfDropper (fun r1 => ((r1 = 0 → (wp_X0_lengthUpper (fun r3 => (wp_X0_lower (fun r4 => (wp_X7_part (fun r5 => (Q r5 )) r3 r4 p3)) v0_tension v0_droppers)) v0_tension v0_own v0_droppers v0_load v0_hang p1 p2)) ∧ (¬ r1 = 0 → (Q ((-1000000000000000 : Int64) + r1.toInt64) )))) v0_droppers p1 p2 p3)
set_option maxHeartbeats 4000000 in
set_option maxRecDepth 100000 in
theorem c_X7_dropper (l : Launch) (dC : Nat → ClassId) (dI : Nat → Nat → Nat) (cI cJ cZ : ClassId) (a7 : Nat) (a6 : Nat) (a2 : Nat) (a5 : Nat) (a4 : Nat) (a0 : Nat) (a1 : Nat) (a3 : Nat) (sz : Nat) (v0_tension : Int32) (v0_own : Int32) (v0_droppers : Int32) (v0_load : Int32) (v0_hang : Int32) (p1 : Int32) (p2 : Int32) (p3 : Int32) (Q : Int64 → Prop) (hw : wp_X7_dropper Q v0_tension v0_own v0_droppers v0_load v0_hang p1 p2 p3) : Met l yX7_dropper wsX7_dropper ({ frames := 3, cells := 0, slots := 0, locals := 71 } : Room) (va_Pc [.ref a7, .int p1, .int p2, .int p3] (fun U => U.heap.size = sz ∧ va_P (dC, dI) vwCl [(a7, .inr (7, [.ref a6, .ref a2, .ref a5, .ref a4, .ref a0, .ref a1, .ref a3])), (a0, .inr (0, [.int v0_tension, .int v0_own, .int v0_droppers, .int v0_load, .int v0_hang]))] U.heap ∧ va_K (dC, dI) vwCl [(cI, .int), (cJ, .long), (cZ, .boolean)] U ∧ va_D (fun _ => True) [(a7, .inr (7, [.ref a6, .ref a2, .ref a5, .ref a4, .ref a0, .ref a1, .ref a3])), (a0, .inr (0, [.int v0_tension, .int v0_own, .int v0_droppers, .int v0_load, .int v0_hang]))])) (va_Ql (fun r (u : Unit) => Q r) (fun (u : Unit) t => va_P (dC, dI) vwCl [(a7, .inr (7, [.ref a6, .ref a2, .ref a5, .ref a4, .ref a0, .ref a1, .ref a3])), (a0, .inr (0, [.int v0_tension, .int v0_own, .int v0_droppers, .int v0_load, .int v0_hang]))] t.heap ∧ va_K (dC, dI) vwCl [(cI, .int), (cJ, .long), (cZ, .boolean)] t ∧ va_D (va_A [(a7, .inr (7, [.ref a6, .ref a2, .ref a5, .ref a4, .ref a0, .ref a1, .ref a3])), (a0, .inr (0, [.int v0_tension, .int v0_own, .int v0_droppers, .int v0_load, .int v0_hang]))] sz) [(a7, .inr (7, [.ref a6, .ref a2, .ref a5, .ref a4, .ref a0, .ref a1, .ref a3])), (a0, .inr (0, [.int v0_tension, .int v0_own, .int v0_droppers, .int v0_load, .int v0_hang]))]) (va_A [(a7, .inr (7, [.ref a6, .ref a2, .ref a5, .ref a4, .ref a0, .ref a1, .ref a3])), (a0, .inr (0, [.int v0_tension, .int v0_own, .int v0_droppers, .int v0_load, .int v0_hang]))] sz)) 0 0 (va_A [(a7, .inr (7, [.ref a6, .ref a2, .ref a5, .ref a4, .ref a0, .ref a1, .ref a3])), (a0, .inr (0, [.int v0_tension, .int v0_own, .int v0_droppers, .int v0_load, .int v0_hang]))] sz) := by
  refine Met.ofW (cc := cX7_dropper) (maxL := 5) (ret := (some .long)) (by decide) rfl ?_
  intro p e s m args below meth c s₁ B hml hv
  obtain ⟨rfl, hsz, hP, hK, hD0⟩ := hv
  have hx := B.exec
  have hb := B.bytes
  have hr := B.returns
  have hts := atoms_spec (ws := wsX7_dropper) B.pre
  have hown : s.vm.findClass RX7 = some m.cls := findClass_of_methodNamed B.named
  have hlocks := B.notSynchronized
  subst hsz
  have hD := hD0.self (sz := s.heap.size)
  generalize hAe : va_A [(a7, .inr (7, [.ref a6, .ref a2, .ref a5, .ref a4, .ref a0, .ref a1, .ref a3])), (a0, .inr (0, [.int v0_tension, .int v0_own, .int v0_droppers, .int v0_load, .int v0_hang]))] s.heap.size = A at hD ⊢
  have hA : ∀ q : Nat, s.heap.size ≤ q → A q := fun q h => by rw [← hAe]; exact Or.inr h
  have hS : va_S A s.heap s.heap [] := va_S.rf
  have hP : va_P (dC, dI) vwCl [(a7, .inr (7, [.ref a6, .ref a2, .ref a5, .ref a4, .ref a0, .ref a1, .ref a3])), (a0, .inr (0, [.int v0_tension, .int v0_own, .int v0_droppers, .int v0_load, .int v0_hang]))] s.heap := hP
  have lk1 := hts (.fieldLink RX7 42 "WireRow" "wire" "LWireRow$Carrier;") (by decide +kernel)
  have lk2 := hts (.constantLong RX7 199 (-1000000000000000)) (by decide +kernel)
  have hl := lv_entry ([.ref a7, .int p1, .int p2, .int p3]) (n := 5) (Nat.le_of_ble_eq_true rfl)
  rw [lg_entry_eq]
  generalize (lg_sl ([.ref a7, .int p1, .int p2, .int p3]) ++ List.replicate (5 - (lg_sl ([.ref a7, .int p1, .int p2, .int p3])).length) Slot.unset).toArray = ls at hl ⊢
  have hl : lv_has ls 5 [(0, .ref a7), (1, .int p1), (2, .int p2), (3, .int p3)] := hl
  obtain ⟨H, hHe⟩ : ∃ H, H = s.heap := ⟨_, rfl⟩
  rw [← hHe] at hP
  have hS : va_S A s.heap H [] := by rw [hHe]; exact hS
  rw [← hHe]
  unfold wp_X7_dropper at hw
  refine lv_aload_n hx hb dX7_dropper_0 rfl (lv_at hl 0 rfl) ?_
  refine lv_iload_n hx hb dX7_dropper_1 rfl (lv_at hl 1 rfl) ?_
  refine lv_iload_n hx hb dX7_dropper_2 rfl (lv_at hl 2 rfl) ?_
  refine lv_iload_n hx hb dX7_dropper_3 rfl (lv_at hl 3 rfl) ?_
  have hPc := hP.sub (ws' := [(a7, .inr (7, [.ref a6, .ref a2, .ref a5, .ref a4, .ref a0, .ref a1, .ref a3])), (a0, .inr (0, [.int v0_tension, .int v0_own, .int v0_droppers, .int v0_load, .int v0_hang]))]) [0, 1] rfl
  have hDc := hD.sub (ws' := [(a7, .inr (7, [.ref a6, .ref a2, .ref a5, .ref a4, .ref a0, .ref a1, .ref a3])), (a0, .inr (0, [.int v0_tension, .int v0_own, .int v0_droppers, .int v0_load, .int v0_hang]))]) [0, 1] (by decide) rfl
  have hFc := va_free (wc := [(a7, .inr (7, [.ref a6, .ref a2, .ref a5, .ref a4, .ref a0, .ref a1, .ref a3])), (a0, .inr (0, [.int v0_tension, .int v0_own, .int v0_droppers, .int v0_load, .int v0_hang]))]) hD hS hA [0, 1] rfl
  refine va_calli (va_runV (As := [.int p1, .int p2, .int p3]) (rest := []) ⟨hx, hb, hml, hown, hts⟩ (c_X7_refusalOfDropper l dC dI cI cJ cZ a7 a6 a2 a5 a4 a0 a1 a3 H.size v0_tension v0_own v0_droppers v0_load v0_hang p1 p2 p3 _ hw) (cwV 3 hts gX7_dropper_X7_refusalOfDropper rfl rfl rfl (by decide +kernel) ⟨Nat.le_of_ble_eq_true rfl, Nat.le_of_ble_eq_true rfl⟩) ⟨fun a U g mk q => by obtain ⟨q0, q1, qP, qK, qD⟩ := q; exact ⟨q0, q1, qP, va_K.moved (u := U) (U := U.calling g mk a) (Vm.Alike.refl U.vm) qK, qD⟩, va_recv hK hP (ci := 7) (q0 := 0) rfl rfl, fun U hU hW => ⟨rfl, by rw [hU], by rw [hU]; exact hPc, va_K.moved hW.alike hK, hDc.weaken (fun _ _ _ _ => trivial)⟩⟩ rfl rfl hl.1 rfl (lv_room (Nat.le_of_ble_eq_true rfl)) dX7_dropper_4 ⟨(Nat.zero_le _), (Nat.zero_le _)⟩) hS (fun q _ h => hFc q h) hFc (fun r1 u t H1 locs ht hvm hw hB hz1 hk1 hS => ?_)
  obtain ⟨hP1, -, hD1⟩ := hB
  try dsimp only at hw
  rw [ht] at hP1
  obtain ⟨hP, hD⟩ := va_join (wr := []) (w1 := [(a7, .inr (7, [.ref a6, .ref a2, .ref a5, .ref a4, .ref a0, .ref a1, .ref a3])), (a0, .inr (0, [.int v0_tension, .int v0_own, .int v0_droppers, .int v0_load, .int v0_hang]))]) hP hD [0, 1] [] rfl rfl (by decide) (by decide) hk1 hFc hP1 hD1
  generalize H1 = H at hP hS ⊢
  have hP : va_P (dC, dI) vwCl [(a7, .inr (7, [.ref a6, .ref a2, .ref a5, .ref a4, .ref a0, .ref a1, .ref a3])), (a0, .inr (0, [.int v0_tension, .int v0_own, .int v0_droppers, .int v0_load, .int v0_hang]))] H := hP
  have hD : va_D A [(a7, .inr (7, [.ref a6, .ref a2, .ref a5, .ref a4, .ref a0, .ref a1, .ref a3])), (a0, .inr (0, [.int v0_tension, .int v0_own, .int v0_droppers, .int v0_load, .int v0_hang]))] := hD
  refine lv_istore (lv' := [(4, .int r1), (0, .ref a7), (1, .int p1), (2, .int p2), (3, .int p3)]) hx hb dX7_dropper_7 hl (by decide) rfl (fun ls hl => ?_)
  refine lv_iload hx hb dX7_dropper_9 (lv_at hl 0 rfl) ?_
  refine lv_if_eq (tgt := 22) hx hb dX7_dropper_11 (by decide) (fun c2 => ?_) (fun c2 => ?_)
  · replace hw := hw.1 (c2)
    refine lv_aload_n hx hb dX7_dropper_22 rfl (lv_at hl 1 rfl) ?_
    refine va_get (D := (dC, dI)) (ci := 7) (v := .ref a0) (C := RX7) (T := TX7) (N := 7) hx hb hts inX7_dropper_X7 hown hK hP 0 rfl rfl 4 (by decide) lk1 (fun _ h9 => h9) rfl dX7_dropper_23 ?_
    refine lv_iload_n hx hb dX7_dropper_26 rfl (lv_at hl 2 rfl) ?_
    refine lv_iload_n hx hb dX7_dropper_27 rfl (lv_at hl 3 rfl) ?_
    have hPc := hP.sub (ws' := [(a0, .inr (0, [.int v0_tension, .int v0_own, .int v0_droppers, .int v0_load, .int v0_hang]))]) [1] rfl
    have hDc := hD.sub (ws' := [(a0, .inr (0, [.int v0_tension, .int v0_own, .int v0_droppers, .int v0_load, .int v0_hang]))]) [1] (by decide) rfl
    have hFc := va_free (wc := [(a0, .inr (0, [.int v0_tension, .int v0_own, .int v0_droppers, .int v0_load, .int v0_hang]))]) hD hS hA [1] rfl
    refine va_calll (va_runV (As := [.int p1, .int p2]) (rest := []) ⟨hx, hb, hml, hown, hts⟩ (c_X0_lengthUpper l dC dI cI cJ cZ a0 H.size v0_tension v0_own v0_droppers v0_load v0_hang p1 p2 _ hw) (cwV 2 hts gX7_dropper_X0_lengthUpper rfl rfl rfl (by decide +kernel) ⟨Nat.le_of_ble_eq_true rfl, Nat.le_of_ble_eq_true rfl⟩) ⟨fun a U g mk q => by obtain ⟨q0, q1, qP, qK, qD⟩ := q; exact ⟨q0, q1, qP, va_K.moved (u := U) (U := U.calling g mk a) (Vm.Alike.refl U.vm) qK, qD⟩, va_recv hK hP (ci := 0) (q0 := 1) rfl rfl, fun U hU hW => ⟨rfl, by rw [hU], by rw [hU]; exact hPc, va_K.moved hW.alike hK, hDc.weaken (fun _ _ _ _ => trivial)⟩⟩ rfl rfl hl.1 rfl (lv_room (Nat.le_of_ble_eq_true rfl)) dX7_dropper_28 ⟨(Nat.zero_le _), (Nat.zero_le _)⟩) hS (fun q _ h => hFc q h) hFc (fun r3 u t H1 locs ht hvm hw hB hz1 hk1 hS => ?_)
    obtain ⟨hP1, -, hD1⟩ := hB
    try dsimp only at hw
    rw [ht] at hP1
    obtain ⟨hP, hD⟩ := va_join (wr := [(a7, .inr (7, [.ref a6, .ref a2, .ref a5, .ref a4, .ref a0, .ref a1, .ref a3]))]) (w1 := [(a0, .inr (0, [.int v0_tension, .int v0_own, .int v0_droppers, .int v0_load, .int v0_hang]))]) hP hD [1] [0] rfl rfl (by decide) (by decide) hk1 hFc hP1 hD1
    generalize H1 = H at hP hS ⊢
    have hP : va_P (dC, dI) vwCl [(a7, .inr (7, [.ref a6, .ref a2, .ref a5, .ref a4, .ref a0, .ref a1, .ref a3])), (a0, .inr (0, [.int v0_tension, .int v0_own, .int v0_droppers, .int v0_load, .int v0_hang]))] H := hP
    have hD : va_D A [(a7, .inr (7, [.ref a6, .ref a2, .ref a5, .ref a4, .ref a0, .ref a1, .ref a3])), (a0, .inr (0, [.int v0_tension, .int v0_own, .int v0_droppers, .int v0_load, .int v0_hang]))] := hD
    refine lv_aload_n hx hb dX7_dropper_31 rfl (lv_at hl 1 rfl) ?_
    refine va_get (D := (dC, dI)) (ci := 7) (v := .ref a0) (C := RX7) (T := TX7) (N := 7) hx hb hts inX7_dropper_X7 hown hK hP 0 rfl rfl 4 (by decide) lk1 (fun _ h9 => h9) rfl dX7_dropper_32 ?_
    have hPc := hP.sub (ws' := [(a0, .inr (0, [.int v0_tension, .int v0_own, .int v0_droppers, .int v0_load, .int v0_hang]))]) [1] rfl
    have hDc := hD.sub (ws' := [(a0, .inr (0, [.int v0_tension, .int v0_own, .int v0_droppers, .int v0_load, .int v0_hang]))]) [1] (by decide) rfl
    have hFc := va_free (wc := [(a0, .inr (0, [.int v0_tension, .int v0_own, .int v0_droppers, .int v0_load, .int v0_hang]))]) hD hS hA [1] rfl
    refine va_calll (va_runV (As := []) (rest := [.long r3]) ⟨hx, hb, hml, hown, hts⟩ (c_X0_lower l dC dI cI cJ cZ a0 H.size v0_tension v0_own v0_droppers v0_load v0_hang _ hw) (cwV 0 hts gX7_dropper_X0_lower rfl rfl rfl (by decide +kernel) ⟨Nat.le_of_ble_eq_true rfl, Nat.le_of_ble_eq_true rfl⟩) ⟨fun a U g mk q => by obtain ⟨q0, q1, qP, qK, qD⟩ := q; exact ⟨q0, q1, qP, va_K.moved (u := U) (U := U.calling g mk a) (Vm.Alike.refl U.vm) qK, qD⟩, va_recv hK hP (ci := 0) (q0 := 1) rfl rfl, fun U hU hW => ⟨rfl, by rw [hU], by rw [hU]; exact hPc, va_K.moved hW.alike hK, hDc.weaken (fun _ _ _ _ => trivial)⟩⟩ rfl rfl hl.1 rfl (lv_room (Nat.le_of_ble_eq_true rfl)) dX7_dropper_35 ⟨(Nat.zero_le _), (Nat.zero_le _)⟩) hS (fun q _ h => hFc q h) hFc (fun r4 u t H1 locs ht hvm hw hB hz1 hk1 hS => ?_)
    obtain ⟨hP1, -, hD1⟩ := hB
    try dsimp only at hw
    rw [ht] at hP1
    obtain ⟨hP, hD⟩ := va_join (wr := [(a7, .inr (7, [.ref a6, .ref a2, .ref a5, .ref a4, .ref a0, .ref a1, .ref a3]))]) (w1 := [(a0, .inr (0, [.int v0_tension, .int v0_own, .int v0_droppers, .int v0_load, .int v0_hang]))]) hP hD [1] [0] rfl rfl (by decide) (by decide) hk1 hFc hP1 hD1
    generalize H1 = H at hP hS ⊢
    have hP : va_P (dC, dI) vwCl [(a7, .inr (7, [.ref a6, .ref a2, .ref a5, .ref a4, .ref a0, .ref a1, .ref a3])), (a0, .inr (0, [.int v0_tension, .int v0_own, .int v0_droppers, .int v0_load, .int v0_hang]))] H := hP
    have hD : va_D A [(a7, .inr (7, [.ref a6, .ref a2, .ref a5, .ref a4, .ref a0, .ref a1, .ref a3])), (a0, .inr (0, [.int v0_tension, .int v0_own, .int v0_droppers, .int v0_load, .int v0_hang]))] := hD
    refine lv_iload_n hx hb dX7_dropper_38 rfl (lv_at hl 4 rfl) ?_
    have hPc := hP.sub (ws' := []) [] rfl
    have hDc := hD.sub (ws' := []) [] (by decide) rfl
    have hFc := va_free (wc := []) hD hS hA [] rfl
    refine va_calll (va_runS (As := [.long r3, .long r4, .int p3]) (rest := []) ⟨hx, hb, hml, hown, hts⟩ (c_X7_part l dC dI cI cJ cZ H.size r3 r4 p3 _ hw) (va_cwS 3 hts gX7_dropper_X7_part rfl rfl rfl (by decide +kernel) ⟨Nat.le_of_ble_eq_true rfl, Nat.le_of_ble_eq_true rfl⟩) ⟨fun a U g mk q => by obtain ⟨q0, q1, qP, qK, qD⟩ := q; exact ⟨q0, q1, qP, va_K.moved (u := U) (U := U.calling g mk a) (Vm.Alike.refl U.vm) qK, qD⟩, fun U hU hW => ⟨rfl, by rw [hU], by rw [hU]; exact hPc, va_K.moved hW.alike hK, hDc.weaken (fun _ _ _ _ => trivial)⟩⟩ rfl rfl hl.1 rfl (lv_room (Nat.le_of_ble_eq_true rfl)) dX7_dropper_39 ⟨(Nat.zero_le _), (Nat.zero_le _)⟩) hS (fun q _ h => hFc q h) hFc (fun r5 u t H1 locs ht hvm hw hB hz1 hk1 hS => ?_)
    obtain ⟨hP1, -, hD1⟩ := hB
    try dsimp only at hw
    rw [ht] at hP1
    obtain ⟨hP, hD⟩ := va_join (wr := [(a7, .inr (7, [.ref a6, .ref a2, .ref a5, .ref a4, .ref a0, .ref a1, .ref a3])), (a0, .inr (0, [.int v0_tension, .int v0_own, .int v0_droppers, .int v0_load, .int v0_hang]))]) (w1 := []) hP hD [] [0, 1] rfl rfl (by decide) (by decide) hk1 hFc hP1 hD1
    generalize H1 = H at hP hS ⊢
    have hP : va_P (dC, dI) vwCl [(a7, .inr (7, [.ref a6, .ref a2, .ref a5, .ref a4, .ref a0, .ref a1, .ref a3])), (a0, .inr (0, [.int v0_tension, .int v0_own, .int v0_droppers, .int v0_load, .int v0_hang]))] H := hP
    have hD : va_D A [(a7, .inr (7, [.ref a6, .ref a2, .ref a5, .ref a4, .ref a0, .ref a1, .ref a3])), (a0, .inr (0, [.int v0_tension, .int v0_own, .int v0_droppers, .int v0_load, .int v0_hang]))] := hD
    have hP9 := hP.sub (ws' := [(a7, .inr (7, [.ref a6, .ref a2, .ref a5, .ref a4, .ref a0, .ref a1, .ref a3])), (a0, .inr (0, [.int v0_tension, .int v0_own, .int v0_droppers, .int v0_load, .int v0_hang]))]) [0, 1] rfl
    have hD9 := hD.sub (ws' := [(a7, .inr (7, [.ref a6, .ref a2, .ref a5, .ref a4, .ref a0, .ref a1, .ref a3])), (a0, .inr (0, [.int v0_tension, .int v0_own, .int v0_droppers, .int v0_load, .int v0_hang]))]) [0, 1] (by decide) rfl
    exact W.lret (v := r5) hx hb hr (fun t ht hW => ⟨⟨r5, (), rfl, hw, by rw [ht]; exact hP9, va_K.moved hW.alike hK, hD9⟩, hS.F ht⟩) hS.2.2 dX7_dropper_42
  · replace hw := hw.2 (c2)
    refine lv_ldc2 (v := (-1000000000000000 : Int64)) hx hb hown lk2 dX7_dropper_14 ?_
    refine lv_iload hx hb dX7_dropper_17 (lv_at hl 0 rfl) ?_
    refine lv_i2l (v := r1.toInt64) hx hb dX7_dropper_19 rfl ?_
    refine lv_ladd hx hb dX7_dropper_20 ?_
    have hP9 := hP.sub (ws' := [(a7, .inr (7, [.ref a6, .ref a2, .ref a5, .ref a4, .ref a0, .ref a1, .ref a3])), (a0, .inr (0, [.int v0_tension, .int v0_own, .int v0_droppers, .int v0_load, .int v0_hang]))]) [0, 1] rfl
    have hD9 := hD.sub (ws' := [(a7, .inr (7, [.ref a6, .ref a2, .ref a5, .ref a4, .ref a0, .ref a1, .ref a3])), (a0, .inr (0, [.int v0_tension, .int v0_own, .int v0_droppers, .int v0_load, .int v0_hang]))]) [0, 1] (by decide) rfl
    exact W.lret (v := ((-1000000000000000 : Int64) + r1.toInt64)) hx hb hr (fun t ht hW => ⟨⟨((-1000000000000000 : Int64) + r1.toInt64), (), rfl, hw, by rw [ht]; exact hP9, va_K.moved hW.alike hK, hD9⟩, hS.F ht⟩) hS.2.2 dX7_dropper_21

theorem inX7_cut_X7 : ∀ w ∈ wsX70, w ∈ wsX7_cut := fun _ h => List.mem_cons_of_mem _ (List.mem_append_left _ (List.mem_append_right _ h))
theorem inX7_cut_X0 : ∀ w ∈ wsX00, w ∈ wsX7_cut := fun _ h => List.mem_cons_of_mem _ (List.mem_append_right _ h)
def wp_X7_cut (Q : Int32 → Prop) (v0_tension : Int32) (v0_own : Int32) (v0_droppers : Int32) (v0_load : Int32) (v0_hang : Int32) (p1 : Int32) (p2 : Int32) : Prop :=
  (wp_X7_refusalOfDropper (fun r1 => ((r1 = 0 → (wp_X0_cutUp (fun r3 => (Q r3 )) v0_tension v0_own v0_droppers v0_load v0_hang p1 p2)) ∧ (¬ r1 = 0 → (Q ((-1000000 : Int32) + r1) )))) v0_droppers p1 p2 (0 : Int32))
set_option maxHeartbeats 4000000 in
set_option maxRecDepth 100000 in
theorem c_X7_cut (l : Launch) (dC : Nat → ClassId) (dI : Nat → Nat → Nat) (cI cJ cZ : ClassId) (a7 : Nat) (a6 : Nat) (a2 : Nat) (a5 : Nat) (a4 : Nat) (a0 : Nat) (a1 : Nat) (a3 : Nat) (sz : Nat) (v0_tension : Int32) (v0_own : Int32) (v0_droppers : Int32) (v0_load : Int32) (v0_hang : Int32) (p1 : Int32) (p2 : Int32) (Q : Int32 → Prop) (hw : wp_X7_cut Q v0_tension v0_own v0_droppers v0_load v0_hang p1 p2) : Met l yX7_cut wsX7_cut ({ frames := 4, cells := 0, slots := 0, locals := 95 } : Room) (va_Pc [.ref a7, .int p1, .int p2] (fun U => U.heap.size = sz ∧ va_P (dC, dI) vwCl [(a7, .inr (7, [.ref a6, .ref a2, .ref a5, .ref a4, .ref a0, .ref a1, .ref a3])), (a0, .inr (0, [.int v0_tension, .int v0_own, .int v0_droppers, .int v0_load, .int v0_hang]))] U.heap ∧ va_K (dC, dI) vwCl [(cI, .int), (cJ, .long), (cZ, .boolean)] U ∧ va_D (fun _ => True) [(a7, .inr (7, [.ref a6, .ref a2, .ref a5, .ref a4, .ref a0, .ref a1, .ref a3])), (a0, .inr (0, [.int v0_tension, .int v0_own, .int v0_droppers, .int v0_load, .int v0_hang]))])) (va_Qi (fun r (u : Unit) => Q r) (fun (u : Unit) t => va_P (dC, dI) vwCl [(a7, .inr (7, [.ref a6, .ref a2, .ref a5, .ref a4, .ref a0, .ref a1, .ref a3])), (a0, .inr (0, [.int v0_tension, .int v0_own, .int v0_droppers, .int v0_load, .int v0_hang]))] t.heap ∧ va_K (dC, dI) vwCl [(cI, .int), (cJ, .long), (cZ, .boolean)] t ∧ va_D (va_A [(a7, .inr (7, [.ref a6, .ref a2, .ref a5, .ref a4, .ref a0, .ref a1, .ref a3])), (a0, .inr (0, [.int v0_tension, .int v0_own, .int v0_droppers, .int v0_load, .int v0_hang]))] sz) [(a7, .inr (7, [.ref a6, .ref a2, .ref a5, .ref a4, .ref a0, .ref a1, .ref a3])), (a0, .inr (0, [.int v0_tension, .int v0_own, .int v0_droppers, .int v0_load, .int v0_hang]))]) (va_A [(a7, .inr (7, [.ref a6, .ref a2, .ref a5, .ref a4, .ref a0, .ref a1, .ref a3])), (a0, .inr (0, [.int v0_tension, .int v0_own, .int v0_droppers, .int v0_load, .int v0_hang]))] sz)) 0 0 (va_A [(a7, .inr (7, [.ref a6, .ref a2, .ref a5, .ref a4, .ref a0, .ref a1, .ref a3])), (a0, .inr (0, [.int v0_tension, .int v0_own, .int v0_droppers, .int v0_load, .int v0_hang]))] sz) := by
  refine Met.ofW (cc := cX7_cut) (maxL := 4) (ret := (some .int)) (by decide) rfl ?_
  intro p e s m args below meth c s₁ B hml hv
  obtain ⟨rfl, hsz, hP, hK, hD0⟩ := hv
  have hx := B.exec
  have hb := B.bytes
  have hr := B.returns
  have hts := atoms_spec (ws := wsX7_cut) B.pre
  have hown : s.vm.findClass RX7 = some m.cls := findClass_of_methodNamed B.named
  have hlocks := B.notSynchronized
  subst hsz
  have hD := hD0.self (sz := s.heap.size)
  generalize hAe : va_A [(a7, .inr (7, [.ref a6, .ref a2, .ref a5, .ref a4, .ref a0, .ref a1, .ref a3])), (a0, .inr (0, [.int v0_tension, .int v0_own, .int v0_droppers, .int v0_load, .int v0_hang]))] s.heap.size = A at hD ⊢
  have hA : ∀ q : Nat, s.heap.size ≤ q → A q := fun q h => by rw [← hAe]; exact Or.inr h
  have hS : va_S A s.heap s.heap [] := va_S.rf
  have hP : va_P (dC, dI) vwCl [(a7, .inr (7, [.ref a6, .ref a2, .ref a5, .ref a4, .ref a0, .ref a1, .ref a3])), (a0, .inr (0, [.int v0_tension, .int v0_own, .int v0_droppers, .int v0_load, .int v0_hang]))] s.heap := hP
  have lk1 := hts (.fieldLink RX7 42 "WireRow" "wire" "LWireRow$Carrier;") (by decide +kernel)
  have lk2 := hts (.constant RX7 212 (-1000000)) (by decide +kernel)
  have hl := lv_entry ([.ref a7, .int p1, .int p2]) (n := 4) (Nat.le_of_ble_eq_true rfl)
  rw [lg_entry_eq]
  generalize (lg_sl ([.ref a7, .int p1, .int p2]) ++ List.replicate (4 - (lg_sl ([.ref a7, .int p1, .int p2])).length) Slot.unset).toArray = ls at hl ⊢
  have hl : lv_has ls 4 [(0, .ref a7), (1, .int p1), (2, .int p2)] := hl
  obtain ⟨H, hHe⟩ : ∃ H, H = s.heap := ⟨_, rfl⟩
  rw [← hHe] at hP
  have hS : va_S A s.heap H [] := by rw [hHe]; exact hS
  rw [← hHe]
  unfold wp_X7_cut at hw
  refine lv_aload_n hx hb dX7_cut_0 rfl (lv_at hl 0 rfl) ?_
  refine lv_iload_n hx hb dX7_cut_1 rfl (lv_at hl 1 rfl) ?_
  refine lv_iload_n hx hb dX7_cut_2 rfl (lv_at hl 2 rfl) ?_
  refine lv_iconst (v := (0 : Int32)) hx hb dX7_cut_3 (by decide) ?_
  have hPc := hP.sub (ws' := [(a7, .inr (7, [.ref a6, .ref a2, .ref a5, .ref a4, .ref a0, .ref a1, .ref a3])), (a0, .inr (0, [.int v0_tension, .int v0_own, .int v0_droppers, .int v0_load, .int v0_hang]))]) [0, 1] rfl
  have hDc := hD.sub (ws' := [(a7, .inr (7, [.ref a6, .ref a2, .ref a5, .ref a4, .ref a0, .ref a1, .ref a3])), (a0, .inr (0, [.int v0_tension, .int v0_own, .int v0_droppers, .int v0_load, .int v0_hang]))]) [0, 1] (by decide) rfl
  have hFc := va_free (wc := [(a7, .inr (7, [.ref a6, .ref a2, .ref a5, .ref a4, .ref a0, .ref a1, .ref a3])), (a0, .inr (0, [.int v0_tension, .int v0_own, .int v0_droppers, .int v0_load, .int v0_hang]))]) hD hS hA [0, 1] rfl
  refine va_calli (va_runV (As := [.int p1, .int p2, .int (0 : Int32)]) (rest := []) ⟨hx, hb, hml, hown, hts⟩ (c_X7_refusalOfDropper l dC dI cI cJ cZ a7 a6 a2 a5 a4 a0 a1 a3 H.size v0_tension v0_own v0_droppers v0_load v0_hang p1 p2 (0 : Int32) _ hw) (cwV 3 hts gX7_cut_X7_refusalOfDropper rfl rfl rfl (by decide +kernel) ⟨Nat.le_of_ble_eq_true rfl, Nat.le_of_ble_eq_true rfl⟩) ⟨fun a U g mk q => by obtain ⟨q0, q1, qP, qK, qD⟩ := q; exact ⟨q0, q1, qP, va_K.moved (u := U) (U := U.calling g mk a) (Vm.Alike.refl U.vm) qK, qD⟩, va_recv hK hP (ci := 7) (q0 := 0) rfl rfl, fun U hU hW => ⟨rfl, by rw [hU], by rw [hU]; exact hPc, va_K.moved hW.alike hK, hDc.weaken (fun _ _ _ _ => trivial)⟩⟩ rfl rfl hl.1 rfl (lv_room (Nat.le_of_ble_eq_true rfl)) dX7_cut_4 ⟨(Nat.zero_le _), (Nat.zero_le _)⟩) hS (fun q _ h => hFc q h) hFc (fun r1 u t H1 locs ht hvm hw hB hz1 hk1 hS => ?_)
  obtain ⟨hP1, -, hD1⟩ := hB
  try dsimp only at hw
  rw [ht] at hP1
  obtain ⟨hP, hD⟩ := va_join (wr := []) (w1 := [(a7, .inr (7, [.ref a6, .ref a2, .ref a5, .ref a4, .ref a0, .ref a1, .ref a3])), (a0, .inr (0, [.int v0_tension, .int v0_own, .int v0_droppers, .int v0_load, .int v0_hang]))]) hP hD [0, 1] [] rfl rfl (by decide) (by decide) hk1 hFc hP1 hD1
  generalize H1 = H at hP hS ⊢
  have hP : va_P (dC, dI) vwCl [(a7, .inr (7, [.ref a6, .ref a2, .ref a5, .ref a4, .ref a0, .ref a1, .ref a3])), (a0, .inr (0, [.int v0_tension, .int v0_own, .int v0_droppers, .int v0_load, .int v0_hang]))] H := hP
  have hD : va_D A [(a7, .inr (7, [.ref a6, .ref a2, .ref a5, .ref a4, .ref a0, .ref a1, .ref a3])), (a0, .inr (0, [.int v0_tension, .int v0_own, .int v0_droppers, .int v0_load, .int v0_hang]))] := hD
  refine lv_istore_n (lv' := [(3, .int r1), (0, .ref a7), (1, .int p1), (2, .int p2)]) hx hb dX7_cut_7 rfl hl (by decide) rfl (fun ls hl => ?_)
  refine lv_iload_n hx hb dX7_cut_8 rfl (lv_at hl 0 rfl) ?_
  refine lv_if_eq (tgt := 17) hx hb dX7_cut_9 (by decide) (fun c2 => ?_) (fun c2 => ?_)
  · replace hw := hw.1 (c2)
    refine lv_aload_n hx hb dX7_cut_17 rfl (lv_at hl 1 rfl) ?_
    refine va_get (D := (dC, dI)) (ci := 7) (v := .ref a0) (C := RX7) (T := TX7) (N := 7) hx hb hts inX7_cut_X7 hown hK hP 0 rfl rfl 4 (by decide) lk1 (fun _ h9 => h9) rfl dX7_cut_18 ?_
    refine lv_iload_n hx hb dX7_cut_21 rfl (lv_at hl 2 rfl) ?_
    refine lv_iload_n hx hb dX7_cut_22 rfl (lv_at hl 3 rfl) ?_
    have hPc := hP.sub (ws' := [(a0, .inr (0, [.int v0_tension, .int v0_own, .int v0_droppers, .int v0_load, .int v0_hang]))]) [1] rfl
    have hDc := hD.sub (ws' := [(a0, .inr (0, [.int v0_tension, .int v0_own, .int v0_droppers, .int v0_load, .int v0_hang]))]) [1] (by decide) rfl
    have hFc := va_free (wc := [(a0, .inr (0, [.int v0_tension, .int v0_own, .int v0_droppers, .int v0_load, .int v0_hang]))]) hD hS hA [1] rfl
    refine va_calli (va_runV (As := [.int p1, .int p2]) (rest := []) ⟨hx, hb, hml, hown, hts⟩ (c_X0_cutUp l dC dI cI cJ cZ a0 H.size v0_tension v0_own v0_droppers v0_load v0_hang p1 p2 _ hw) (cwV 2 hts gX7_cut_X0_cutUp rfl rfl rfl (by decide +kernel) ⟨Nat.le_of_ble_eq_true rfl, Nat.le_of_ble_eq_true rfl⟩) ⟨fun a U g mk q => by obtain ⟨q0, q1, qP, qK, qD⟩ := q; exact ⟨q0, q1, qP, va_K.moved (u := U) (U := U.calling g mk a) (Vm.Alike.refl U.vm) qK, qD⟩, va_recv hK hP (ci := 0) (q0 := 1) rfl rfl, fun U hU hW => ⟨rfl, by rw [hU], by rw [hU]; exact hPc, va_K.moved hW.alike hK, hDc.weaken (fun _ _ _ _ => trivial)⟩⟩ rfl rfl hl.1 rfl (lv_room (Nat.le_of_ble_eq_true rfl)) dX7_cut_23 ⟨(Nat.zero_le _), (Nat.zero_le _)⟩) hS (fun q _ h => hFc q h) hFc (fun r3 u t H1 locs ht hvm hw hB hz1 hk1 hS => ?_)
    obtain ⟨hP1, -, hD1⟩ := hB
    try dsimp only at hw
    rw [ht] at hP1
    obtain ⟨hP, hD⟩ := va_join (wr := [(a7, .inr (7, [.ref a6, .ref a2, .ref a5, .ref a4, .ref a0, .ref a1, .ref a3]))]) (w1 := [(a0, .inr (0, [.int v0_tension, .int v0_own, .int v0_droppers, .int v0_load, .int v0_hang]))]) hP hD [1] [0] rfl rfl (by decide) (by decide) hk1 hFc hP1 hD1
    generalize H1 = H at hP hS ⊢
    have hP : va_P (dC, dI) vwCl [(a7, .inr (7, [.ref a6, .ref a2, .ref a5, .ref a4, .ref a0, .ref a1, .ref a3])), (a0, .inr (0, [.int v0_tension, .int v0_own, .int v0_droppers, .int v0_load, .int v0_hang]))] H := hP
    have hD : va_D A [(a7, .inr (7, [.ref a6, .ref a2, .ref a5, .ref a4, .ref a0, .ref a1, .ref a3])), (a0, .inr (0, [.int v0_tension, .int v0_own, .int v0_droppers, .int v0_load, .int v0_hang]))] := hD
    have hP9 := hP.sub (ws' := [(a7, .inr (7, [.ref a6, .ref a2, .ref a5, .ref a4, .ref a0, .ref a1, .ref a3])), (a0, .inr (0, [.int v0_tension, .int v0_own, .int v0_droppers, .int v0_load, .int v0_hang]))]) [0, 1] rfl
    have hD9 := hD.sub (ws' := [(a7, .inr (7, [.ref a6, .ref a2, .ref a5, .ref a4, .ref a0, .ref a1, .ref a3])), (a0, .inr (0, [.int v0_tension, .int v0_own, .int v0_droppers, .int v0_load, .int v0_hang]))]) [0, 1] (by decide) rfl
    exact W.iret (v := r3) hx hb hr (fun t ht hW => ⟨⟨r3, (), rfl, hw, by rw [ht]; exact hP9, va_K.moved hW.alike hK, hD9⟩, hS.F ht⟩) hS.2.2 dX7_cut_26
  · replace hw := hw.2 (c2)
    refine lv_ldc (v := (-1000000 : Int32)) hx hb hown lk2 dX7_cut_12 ?_
    refine lv_iload_n hx hb dX7_cut_14 rfl (lv_at hl 0 rfl) ?_
    refine lv_iadd hx hb dX7_cut_15 ?_
    have hP9 := hP.sub (ws' := [(a7, .inr (7, [.ref a6, .ref a2, .ref a5, .ref a4, .ref a0, .ref a1, .ref a3])), (a0, .inr (0, [.int v0_tension, .int v0_own, .int v0_droppers, .int v0_load, .int v0_hang]))]) [0, 1] rfl
    have hD9 := hD.sub (ws' := [(a7, .inr (7, [.ref a6, .ref a2, .ref a5, .ref a4, .ref a0, .ref a1, .ref a3])), (a0, .inr (0, [.int v0_tension, .int v0_own, .int v0_droppers, .int v0_load, .int v0_hang]))]) [0, 1] (by decide) rfl
    exact W.iret (v := ((-1000000 : Int32) + r1)) hx hb hr (fun t ht hW => ⟨⟨((-1000000 : Int32) + r1), (), rfl, hw, by rw [ht]; exact hP9, va_K.moved hW.alike hK, hD9⟩, hS.F ht⟩) hS.2.2 dX7_cut_16

theorem inX7_bears_X7 : ∀ w ∈ wsX70, w ∈ wsX7_bears := fun _ h => List.mem_cons_of_mem _ (List.mem_append_left _ (List.mem_append_right _ h))
theorem inX7_bears_X0 : ∀ w ∈ wsX00, w ∈ wsX7_bears := fun _ h => List.mem_cons_of_mem _ (List.mem_append_right _ h)
def wp_X7_bears (Q : Int64 → Prop) (v0_own : Int32) (v0_droppers : Int32) (v0_load : Int32) (p1 : Int32) (p2 : Int32) : Prop :=
  (wp_X7_within (fun r1 => ((r1 = 0 → (Q (-1000000000000002 : Int64) )) ∧ (¬ r1 = 0 → (wp_X7_within (fun r3 => ((r3 = 0 → (Q (-1000000000000002 : Int64) )) ∧ (¬ r3 = 0 → (wp_X0_weight (fun r5 => (wp_X7_part (fun r6 => (Q r6 )) r5 (2 : Int64) p2)) v0_own v0_droppers v0_load p1)))) p2 (0 : Int32) (1 : Int32))))) p1 (1 : Int32) (800 : Int32))
set_option maxHeartbeats 4000000 in
set_option maxRecDepth 100000 in
theorem c_X7_bears (l : Launch) (dC : Nat → ClassId) (dI : Nat → Nat → Nat) (cI cJ cZ : ClassId) (a7 : Nat) (a6 : Nat) (a2 : Nat) (a5 : Nat) (a4 : Nat) (a0 : Nat) (a1 : Nat) (a3 : Nat) (sz : Nat) (v0_tension : Int32) (v0_own : Int32) (v0_droppers : Int32) (v0_load : Int32) (v0_hang : Int32) (p1 : Int32) (p2 : Int32) (Q : Int64 → Prop) (hw : wp_X7_bears Q v0_own v0_droppers v0_load p1 p2) : Met l yX7_bears wsX7_bears ({ frames := 2, cells := 0, slots := 0, locals := 52 } : Room) (va_Pc [.ref a7, .int p1, .int p2] (fun U => U.heap.size = sz ∧ va_P (dC, dI) vwCl [(a7, .inr (7, [.ref a6, .ref a2, .ref a5, .ref a4, .ref a0, .ref a1, .ref a3])), (a0, .inr (0, [.int v0_tension, .int v0_own, .int v0_droppers, .int v0_load, .int v0_hang]))] U.heap ∧ va_K (dC, dI) vwCl [(cI, .int), (cJ, .long), (cZ, .boolean)] U ∧ va_D (fun _ => True) [(a7, .inr (7, [.ref a6, .ref a2, .ref a5, .ref a4, .ref a0, .ref a1, .ref a3])), (a0, .inr (0, [.int v0_tension, .int v0_own, .int v0_droppers, .int v0_load, .int v0_hang]))])) (va_Ql (fun r (u : Unit) => Q r) (fun (u : Unit) t => va_P (dC, dI) vwCl [(a7, .inr (7, [.ref a6, .ref a2, .ref a5, .ref a4, .ref a0, .ref a1, .ref a3])), (a0, .inr (0, [.int v0_tension, .int v0_own, .int v0_droppers, .int v0_load, .int v0_hang]))] t.heap ∧ va_K (dC, dI) vwCl [(cI, .int), (cJ, .long), (cZ, .boolean)] t ∧ va_D (va_A [(a7, .inr (7, [.ref a6, .ref a2, .ref a5, .ref a4, .ref a0, .ref a1, .ref a3])), (a0, .inr (0, [.int v0_tension, .int v0_own, .int v0_droppers, .int v0_load, .int v0_hang]))] sz) [(a7, .inr (7, [.ref a6, .ref a2, .ref a5, .ref a4, .ref a0, .ref a1, .ref a3])), (a0, .inr (0, [.int v0_tension, .int v0_own, .int v0_droppers, .int v0_load, .int v0_hang]))]) (va_A [(a7, .inr (7, [.ref a6, .ref a2, .ref a5, .ref a4, .ref a0, .ref a1, .ref a3])), (a0, .inr (0, [.int v0_tension, .int v0_own, .int v0_droppers, .int v0_load, .int v0_hang]))] sz)) 0 0 (va_A [(a7, .inr (7, [.ref a6, .ref a2, .ref a5, .ref a4, .ref a0, .ref a1, .ref a3])), (a0, .inr (0, [.int v0_tension, .int v0_own, .int v0_droppers, .int v0_load, .int v0_hang]))] sz) := by
  refine Met.ofW (cc := cX7_bears) (maxL := 3) (ret := (some .long)) (by decide) rfl ?_
  intro p e s m args below meth c s₁ B hml hv
  obtain ⟨rfl, hsz, hP, hK, hD0⟩ := hv
  have hx := B.exec
  have hb := B.bytes
  have hr := B.returns
  have hts := atoms_spec (ws := wsX7_bears) B.pre
  have hown : s.vm.findClass RX7 = some m.cls := findClass_of_methodNamed B.named
  have hlocks := B.notSynchronized
  subst hsz
  have hD := hD0.self (sz := s.heap.size)
  generalize hAe : va_A [(a7, .inr (7, [.ref a6, .ref a2, .ref a5, .ref a4, .ref a0, .ref a1, .ref a3])), (a0, .inr (0, [.int v0_tension, .int v0_own, .int v0_droppers, .int v0_load, .int v0_hang]))] s.heap.size = A at hD ⊢
  have hA : ∀ q : Nat, s.heap.size ≤ q → A q := fun q h => by rw [← hAe]; exact Or.inr h
  have hS : va_S A s.heap s.heap [] := va_S.rf
  have hP : va_P (dC, dI) vwCl [(a7, .inr (7, [.ref a6, .ref a2, .ref a5, .ref a4, .ref a0, .ref a1, .ref a3])), (a0, .inr (0, [.int v0_tension, .int v0_own, .int v0_droppers, .int v0_load, .int v0_hang]))] s.heap := hP
  have lk1 := hts (.constantLong RX7 145 (-1000000000000002)) (by decide +kernel)
  have lk2 := hts (.fieldLink RX7 42 "WireRow" "wire" "LWireRow$Carrier;") (by decide +kernel)
  have lk3 := hts (.constantLong RX7 220 (2)) (by decide +kernel)
  have hl := lv_entry ([.ref a7, .int p1, .int p2]) (n := 3) (Nat.le_of_ble_eq_true rfl)
  rw [lg_entry_eq]
  generalize (lg_sl ([.ref a7, .int p1, .int p2]) ++ List.replicate (3 - (lg_sl ([.ref a7, .int p1, .int p2])).length) Slot.unset).toArray = ls at hl ⊢
  have hl : lv_has ls 3 [(0, .ref a7), (1, .int p1), (2, .int p2)] := hl
  obtain ⟨H, hHe⟩ : ∃ H, H = s.heap := ⟨_, rfl⟩
  rw [← hHe] at hP
  have hS : va_S A s.heap H [] := by rw [hHe]; exact hS
  rw [← hHe]
  unfold wp_X7_bears at hw
  refine lv_iload_n hx hb dX7_bears_0 rfl (lv_at hl 1 rfl) ?_
  refine lv_iconst (v := (1 : Int32)) hx hb dX7_bears_1 (by decide) ?_
  refine lv_sipush (v := (800 : Int32)) hx hb dX7_bears_2 (by decide) ?_
  have hPc := hP.sub (ws' := []) [] rfl
  have hDc := hD.sub (ws' := []) [] (by decide) rfl
  have hFc := va_free (wc := []) hD hS hA [] rfl
  refine va_calli (va_runS (As := [.int p1, .int (1 : Int32), .int (800 : Int32)]) (rest := []) ⟨hx, hb, hml, hown, hts⟩ (c_X7_within l dC dI cI cJ cZ H.size p1 (1 : Int32) (800 : Int32) _ hw) (va_cwS 3 hts gX7_bears_X7_within rfl rfl rfl (by decide +kernel) ⟨Nat.le_of_ble_eq_true rfl, Nat.le_of_ble_eq_true rfl⟩) ⟨fun a U g mk q => by obtain ⟨q0, q1, qP, qK, qD⟩ := q; exact ⟨q0, q1, qP, va_K.moved (u := U) (U := U.calling g mk a) (Vm.Alike.refl U.vm) qK, qD⟩, fun U hU hW => ⟨rfl, by rw [hU], by rw [hU]; exact hPc, va_K.moved hW.alike hK, hDc.weaken (fun _ _ _ _ => trivial)⟩⟩ rfl rfl hl.1 rfl (lv_room (Nat.le_of_ble_eq_true rfl)) dX7_bears_5 ⟨(Nat.zero_le _), (Nat.zero_le _)⟩) hS (fun q _ h => hFc q h) hFc (fun r1 u t H1 locs ht hvm hw hB hz1 hk1 hS => ?_)
  obtain ⟨hP1, -, hD1⟩ := hB
  try dsimp only at hw
  rw [ht] at hP1
  obtain ⟨hP, hD⟩ := va_join (wr := [(a7, .inr (7, [.ref a6, .ref a2, .ref a5, .ref a4, .ref a0, .ref a1, .ref a3])), (a0, .inr (0, [.int v0_tension, .int v0_own, .int v0_droppers, .int v0_load, .int v0_hang]))]) (w1 := []) hP hD [] [0, 1] rfl rfl (by decide) (by decide) hk1 hFc hP1 hD1
  generalize H1 = H at hP hS ⊢
  have hP : va_P (dC, dI) vwCl [(a7, .inr (7, [.ref a6, .ref a2, .ref a5, .ref a4, .ref a0, .ref a1, .ref a3])), (a0, .inr (0, [.int v0_tension, .int v0_own, .int v0_droppers, .int v0_load, .int v0_hang]))] H := hP
  have hD : va_D A [(a7, .inr (7, [.ref a6, .ref a2, .ref a5, .ref a4, .ref a0, .ref a1, .ref a3])), (a0, .inr (0, [.int v0_tension, .int v0_own, .int v0_droppers, .int v0_load, .int v0_hang]))] := hD
  refine lv_if_eq (tgt := 20) hx hb dX7_bears_8 (by decide) (fun c2 => ?_) (fun c2 => ?_)
  · replace hw := hw.1 (c2)
    refine lv_ldc2 (v := (-1000000000000002 : Int64)) hx hb hown lk1 dX7_bears_20 ?_
    have hP9 := hP.sub (ws' := [(a7, .inr (7, [.ref a6, .ref a2, .ref a5, .ref a4, .ref a0, .ref a1, .ref a3])), (a0, .inr (0, [.int v0_tension, .int v0_own, .int v0_droppers, .int v0_load, .int v0_hang]))]) [0, 1] rfl
    have hD9 := hD.sub (ws' := [(a7, .inr (7, [.ref a6, .ref a2, .ref a5, .ref a4, .ref a0, .ref a1, .ref a3])), (a0, .inr (0, [.int v0_tension, .int v0_own, .int v0_droppers, .int v0_load, .int v0_hang]))]) [0, 1] (by decide) rfl
    exact W.lret (v := (-1000000000000002 : Int64)) hx hb hr (fun t ht hW => ⟨⟨(-1000000000000002 : Int64), (), rfl, hw, by rw [ht]; exact hP9, va_K.moved hW.alike hK, hD9⟩, hS.F ht⟩) hS.2.2 dX7_bears_23
  · replace hw := hw.2 (c2)
    refine lv_iload_n hx hb dX7_bears_11 rfl (lv_at hl 2 rfl) ?_
    refine lv_iconst (v := (0 : Int32)) hx hb dX7_bears_12 (by decide) ?_
    refine lv_iconst (v := (1 : Int32)) hx hb dX7_bears_13 (by decide) ?_
    have hPc := hP.sub (ws' := []) [] rfl
    have hDc := hD.sub (ws' := []) [] (by decide) rfl
    have hFc := va_free (wc := []) hD hS hA [] rfl
    refine va_calli (va_runS (As := [.int p2, .int (0 : Int32), .int (1 : Int32)]) (rest := []) ⟨hx, hb, hml, hown, hts⟩ (c_X7_within l dC dI cI cJ cZ H.size p2 (0 : Int32) (1 : Int32) _ hw) (va_cwS 3 hts gX7_bears_X7_within rfl rfl rfl (by decide +kernel) ⟨Nat.le_of_ble_eq_true rfl, Nat.le_of_ble_eq_true rfl⟩) ⟨fun a U g mk q => by obtain ⟨q0, q1, qP, qK, qD⟩ := q; exact ⟨q0, q1, qP, va_K.moved (u := U) (U := U.calling g mk a) (Vm.Alike.refl U.vm) qK, qD⟩, fun U hU hW => ⟨rfl, by rw [hU], by rw [hU]; exact hPc, va_K.moved hW.alike hK, hDc.weaken (fun _ _ _ _ => trivial)⟩⟩ rfl rfl hl.1 rfl (lv_room (Nat.le_of_ble_eq_true rfl)) dX7_bears_14 ⟨(Nat.zero_le _), (Nat.zero_le _)⟩) hS (fun q _ h => hFc q h) hFc (fun r3 u t H1 locs ht hvm hw hB hz1 hk1 hS => ?_)
    obtain ⟨hP1, -, hD1⟩ := hB
    try dsimp only at hw
    rw [ht] at hP1
    obtain ⟨hP, hD⟩ := va_join (wr := [(a7, .inr (7, [.ref a6, .ref a2, .ref a5, .ref a4, .ref a0, .ref a1, .ref a3])), (a0, .inr (0, [.int v0_tension, .int v0_own, .int v0_droppers, .int v0_load, .int v0_hang]))]) (w1 := []) hP hD [] [0, 1] rfl rfl (by decide) (by decide) hk1 hFc hP1 hD1
    generalize H1 = H at hP hS ⊢
    have hP : va_P (dC, dI) vwCl [(a7, .inr (7, [.ref a6, .ref a2, .ref a5, .ref a4, .ref a0, .ref a1, .ref a3])), (a0, .inr (0, [.int v0_tension, .int v0_own, .int v0_droppers, .int v0_load, .int v0_hang]))] H := hP
    have hD : va_D A [(a7, .inr (7, [.ref a6, .ref a2, .ref a5, .ref a4, .ref a0, .ref a1, .ref a3])), (a0, .inr (0, [.int v0_tension, .int v0_own, .int v0_droppers, .int v0_load, .int v0_hang]))] := hD
    refine lv_if_ne (tgt := 24) hx hb dX7_bears_17 (by decide) (fun c4 => ?_) (fun c4 => ?_)
    · replace hw := hw.2 (c4)
      refine lv_aload_n hx hb dX7_bears_24 rfl (lv_at hl 0 rfl) ?_
      refine va_get (D := (dC, dI)) (ci := 7) (v := .ref a0) (C := RX7) (T := TX7) (N := 7) hx hb hts inX7_bears_X7 hown hK hP 0 rfl rfl 4 (by decide) lk2 (fun _ h9 => h9) rfl dX7_bears_25 ?_
      refine lv_iload_n hx hb dX7_bears_28 rfl (lv_at hl 1 rfl) ?_
      have hPc := hP.sub (ws' := [(a0, .inr (0, [.int v0_tension, .int v0_own, .int v0_droppers, .int v0_load, .int v0_hang]))]) [1] rfl
      have hDc := hD.sub (ws' := [(a0, .inr (0, [.int v0_tension, .int v0_own, .int v0_droppers, .int v0_load, .int v0_hang]))]) [1] (by decide) rfl
      have hFc := va_free (wc := [(a0, .inr (0, [.int v0_tension, .int v0_own, .int v0_droppers, .int v0_load, .int v0_hang]))]) hD hS hA [1] rfl
      refine va_calll (va_runV (As := [.int p1]) (rest := []) ⟨hx, hb, hml, hown, hts⟩ (c_X0_weight l dC dI cI cJ cZ a0 H.size v0_tension v0_own v0_droppers v0_load v0_hang p1 _ hw) (cwV 1 hts gX7_bears_X0_weight rfl rfl rfl (by decide +kernel) ⟨Nat.le_of_ble_eq_true rfl, Nat.le_of_ble_eq_true rfl⟩) ⟨fun a U g mk q => by obtain ⟨q0, q1, qP, qK, qD⟩ := q; exact ⟨q0, q1, qP, va_K.moved (u := U) (U := U.calling g mk a) (Vm.Alike.refl U.vm) qK, qD⟩, va_recv hK hP (ci := 0) (q0 := 1) rfl rfl, fun U hU hW => ⟨rfl, by rw [hU], by rw [hU]; exact hPc, va_K.moved hW.alike hK, hDc.weaken (fun _ _ _ _ => trivial)⟩⟩ rfl rfl hl.1 rfl (lv_room (Nat.le_of_ble_eq_true rfl)) dX7_bears_29 ⟨(Nat.zero_le _), (Nat.zero_le _)⟩) hS (fun q _ h => hFc q h) hFc (fun r5 u t H1 locs ht hvm hw hB hz1 hk1 hS => ?_)
      obtain ⟨hP1, -, hD1⟩ := hB
      try dsimp only at hw
      rw [ht] at hP1
      obtain ⟨hP, hD⟩ := va_join (wr := [(a7, .inr (7, [.ref a6, .ref a2, .ref a5, .ref a4, .ref a0, .ref a1, .ref a3]))]) (w1 := [(a0, .inr (0, [.int v0_tension, .int v0_own, .int v0_droppers, .int v0_load, .int v0_hang]))]) hP hD [1] [0] rfl rfl (by decide) (by decide) hk1 hFc hP1 hD1
      generalize H1 = H at hP hS ⊢
      have hP : va_P (dC, dI) vwCl [(a7, .inr (7, [.ref a6, .ref a2, .ref a5, .ref a4, .ref a0, .ref a1, .ref a3])), (a0, .inr (0, [.int v0_tension, .int v0_own, .int v0_droppers, .int v0_load, .int v0_hang]))] H := hP
      have hD : va_D A [(a7, .inr (7, [.ref a6, .ref a2, .ref a5, .ref a4, .ref a0, .ref a1, .ref a3])), (a0, .inr (0, [.int v0_tension, .int v0_own, .int v0_droppers, .int v0_load, .int v0_hang]))] := hD
      refine lv_ldc2 (v := (2 : Int64)) hx hb hown lk3 dX7_bears_32 ?_
      refine lv_iload_n hx hb dX7_bears_35 rfl (lv_at hl 2 rfl) ?_
      have hPc := hP.sub (ws' := []) [] rfl
      have hDc := hD.sub (ws' := []) [] (by decide) rfl
      have hFc := va_free (wc := []) hD hS hA [] rfl
      refine va_calll (va_runS (As := [.long r5, .long (2 : Int64), .int p2]) (rest := []) ⟨hx, hb, hml, hown, hts⟩ (c_X7_part l dC dI cI cJ cZ H.size r5 (2 : Int64) p2 _ hw) (va_cwS 3 hts gX7_bears_X7_part rfl rfl rfl (by decide +kernel) ⟨Nat.le_of_ble_eq_true rfl, Nat.le_of_ble_eq_true rfl⟩) ⟨fun a U g mk q => by obtain ⟨q0, q1, qP, qK, qD⟩ := q; exact ⟨q0, q1, qP, va_K.moved (u := U) (U := U.calling g mk a) (Vm.Alike.refl U.vm) qK, qD⟩, fun U hU hW => ⟨rfl, by rw [hU], by rw [hU]; exact hPc, va_K.moved hW.alike hK, hDc.weaken (fun _ _ _ _ => trivial)⟩⟩ rfl rfl hl.1 rfl (lv_room (Nat.le_of_ble_eq_true rfl)) dX7_bears_36 ⟨(Nat.zero_le _), (Nat.zero_le _)⟩) hS (fun q _ h => hFc q h) hFc (fun r6 u t H1 locs ht hvm hw hB hz1 hk1 hS => ?_)
      obtain ⟨hP1, -, hD1⟩ := hB
      try dsimp only at hw
      rw [ht] at hP1
      obtain ⟨hP, hD⟩ := va_join (wr := [(a7, .inr (7, [.ref a6, .ref a2, .ref a5, .ref a4, .ref a0, .ref a1, .ref a3])), (a0, .inr (0, [.int v0_tension, .int v0_own, .int v0_droppers, .int v0_load, .int v0_hang]))]) (w1 := []) hP hD [] [0, 1] rfl rfl (by decide) (by decide) hk1 hFc hP1 hD1
      generalize H1 = H at hP hS ⊢
      have hP : va_P (dC, dI) vwCl [(a7, .inr (7, [.ref a6, .ref a2, .ref a5, .ref a4, .ref a0, .ref a1, .ref a3])), (a0, .inr (0, [.int v0_tension, .int v0_own, .int v0_droppers, .int v0_load, .int v0_hang]))] H := hP
      have hD : va_D A [(a7, .inr (7, [.ref a6, .ref a2, .ref a5, .ref a4, .ref a0, .ref a1, .ref a3])), (a0, .inr (0, [.int v0_tension, .int v0_own, .int v0_droppers, .int v0_load, .int v0_hang]))] := hD
      have hP9 := hP.sub (ws' := [(a7, .inr (7, [.ref a6, .ref a2, .ref a5, .ref a4, .ref a0, .ref a1, .ref a3])), (a0, .inr (0, [.int v0_tension, .int v0_own, .int v0_droppers, .int v0_load, .int v0_hang]))]) [0, 1] rfl
      have hD9 := hD.sub (ws' := [(a7, .inr (7, [.ref a6, .ref a2, .ref a5, .ref a4, .ref a0, .ref a1, .ref a3])), (a0, .inr (0, [.int v0_tension, .int v0_own, .int v0_droppers, .int v0_load, .int v0_hang]))]) [0, 1] (by decide) rfl
      exact W.lret (v := r6) hx hb hr (fun t ht hW => ⟨⟨r6, (), rfl, hw, by rw [ht]; exact hP9, va_K.moved hW.alike hK, hD9⟩, hS.F ht⟩) hS.2.2 dX7_bears_39
    · replace hw := hw.1 (c4)
      refine lv_ldc2 (v := (-1000000000000002 : Int64)) hx hb hown lk1 dX7_bears_20 ?_
      have hP9 := hP.sub (ws' := [(a7, .inr (7, [.ref a6, .ref a2, .ref a5, .ref a4, .ref a0, .ref a1, .ref a3])), (a0, .inr (0, [.int v0_tension, .int v0_own, .int v0_droppers, .int v0_load, .int v0_hang]))]) [0, 1] rfl
      have hD9 := hD.sub (ws' := [(a7, .inr (7, [.ref a6, .ref a2, .ref a5, .ref a4, .ref a0, .ref a1, .ref a3])), (a0, .inr (0, [.int v0_tension, .int v0_own, .int v0_droppers, .int v0_load, .int v0_hang]))]) [0, 1] (by decide) rfl
      exact W.lret (v := (-1000000000000002 : Int64)) hx hb hr (fun t ht hW => ⟨⟨(-1000000000000002 : Int64), (), rfl, hw, by rw [ht]; exact hP9, va_K.moved hW.alike hK, hD9⟩, hS.F ht⟩) hS.2.2 dX7_bears_23

theorem inX7_shortOne_X7 : ∀ w ∈ wsX70, w ∈ wsX7_shortOne := fun _ h => List.mem_cons_of_mem _ (List.mem_append_left _ (List.mem_append_left _ (List.mem_append_right _ h)))
theorem inX7_shortOne_X0 : ∀ w ∈ wsX00, w ∈ wsX7_shortOne := fun _ h => List.mem_cons_of_mem _ (List.mem_append_left _ (List.mem_append_right _ h))
theorem inX7_shortOne_X2 : ∀ w ∈ wsX20, w ∈ wsX7_shortOne := fun _ h => List.mem_cons_of_mem _ (List.mem_append_right _ h)
def wb_X7_shortOne_24 (Q : Int32 → Prop) (v2_masts : Int32) (f2_place : Nat → Int32) (f2_mastPeg : Nat → Int32) (v0_tension : Int32) (v0_own : Int32) (v0_droppers : Int32) (v0_load : Int32) (v0_hang : Int32) (K2 : (Int32) → Prop) (K24 : (Int32) → (Int32) → (Int32) → Prop) (y24_1 : Int32) (y24_2 : Int32) (y24_3 : Int32) : Prop :=
  ((v0_droppers ≤ y24_3 → (∀ x5 : Int32, x5 = y24_1 + (1 : Int32) → (K2 x5))) ∧ (¬ v0_droppers ≤ y24_3 → (wp_X0_lengthUpper (fun r6 => (wp_X0_lower (fun r7 => ((((100 : Int64) * r7) ≤ r6 → (∀ x9 : Int32, x9 = y24_3 + (1 : Int32) → (K24 y24_1 y24_2 x9))) ∧ (¬ ((100 : Int64) * r7) ≤ r6 → (Q (((100 : Int32) * y24_1) + y24_3) )))) v0_tension v0_droppers)) v0_tension v0_own v0_droppers v0_load v0_hang y24_2 y24_3)))
def wl_X7_shortOne_24 (Q : Int32 → Prop) (v2_masts : Int32) (f2_place : Nat → Int32) (f2_mastPeg : Nat → Int32) (v0_tension : Int32) (v0_own : Int32) (v0_droppers : Int32) (v0_load : Int32) (v0_hang : Int32) (K2 : (Int32) → Prop) : Nat → (Int32) → (Int32) → (Int32) → Prop
  | 0, _, _, _ => False
  | n + 1, y24_1, y24_2, y24_3 => wb_X7_shortOne_24 Q v2_masts f2_place f2_mastPeg v0_tension v0_own v0_droppers v0_load v0_hang K2 (wl_X7_shortOne_24 Q v2_masts f2_place f2_mastPeg v0_tension v0_own v0_droppers v0_load v0_hang K2 n) y24_1 y24_2 y24_3
def wb_X7_shortOne_2 (Q : Int32 → Prop) (v2_masts : Int32) (f2_place : Nat → Int32) (f2_mastPeg : Nat → Int32) (v0_tension : Int32) (v0_own : Int32) (v0_droppers : Int32) (v0_load : Int32) (v0_hang : Int32) (K2 : (Int32) → Prop) (y2_1 : Int32) : Prop :=
  (wp_X2_spans (fun r1 => ((r1 ≤ y2_1 → (Q (-6 : Int32) )) ∧ (¬ r1 ≤ y2_1 → (wp_X2_spanLength (fun r3 => (∃ n : Nat, wl_X7_shortOne_24 Q v2_masts f2_place f2_mastPeg v0_tension v0_own v0_droppers v0_load v0_hang K2 n y2_1 r3 (0 : Int32))) f2_place f2_mastPeg y2_1)))) v2_masts)
def wl_X7_shortOne_2 (Q : Int32 → Prop) (v2_masts : Int32) (f2_place : Nat → Int32) (f2_mastPeg : Nat → Int32) (v0_tension : Int32) (v0_own : Int32) (v0_droppers : Int32) (v0_load : Int32) (v0_hang : Int32) : Nat → (Int32) → Prop
  | 0, _ => False
  | n + 1, y2_1 => wb_X7_shortOne_2 Q v2_masts f2_place f2_mastPeg v0_tension v0_own v0_droppers v0_load v0_hang  (wl_X7_shortOne_2 Q v2_masts f2_place f2_mastPeg v0_tension v0_own v0_droppers v0_load v0_hang  n) y2_1
def wp_X7_shortOne (Q : Int32 → Prop) (v2_masts : Int32) (f2_place : Nat → Int32) (f2_mastPeg : Nat → Int32) (v0_tension : Int32) (v0_own : Int32) (v0_droppers : Int32) (v0_load : Int32) (v0_hang : Int32) : Prop :=
  (∃ n : Nat, wl_X7_shortOne_2 Q v2_masts f2_place f2_mastPeg v0_tension v0_own v0_droppers v0_load v0_hang  n (0 : Int32))
set_option maxHeartbeats 4000000 in
set_option maxRecDepth 100000 in
theorem c_X7_shortOne (l : Launch) (dC : Nat → ClassId) (dI : Nat → Nat → Nat) (cI cJ cZ : ClassId) (a7 : Nat) (a6 : Nat) (a2 : Nat) (a2_place : Nat) (a2_price : Nat) (a2_trackAside : Nat) (a2_side : Nat) (a2_stands : Nat) (a2_mastPeg : Nat) (a5 : Nat) (a4 : Nat) (a0 : Nat) (a1 : Nat) (a3 : Nat) (sz : Nat) (v2_count : Int32) (v2_masts : Int32) (f2_place : Nat → Int32) (f2_mastPeg : Nat → Int32) (v0_tension : Int32) (v0_own : Int32) (v0_droppers : Int32) (v0_load : Int32) (v0_hang : Int32) (Q : Int32 → Prop) (hw : wp_X7_shortOne Q v2_masts f2_place f2_mastPeg v0_tension v0_own v0_droppers v0_load v0_hang ) : Met l yX7_shortOne wsX7_shortOne ({ frames := 3, cells := 0, slots := 0, locals := 71 } : Room) (va_Pc [.ref a7] (fun U => U.heap.size = sz ∧ va_P (dC, dI) vwCl [(a7, .inr (7, [.ref a6, .ref a2, .ref a5, .ref a4, .ref a0, .ref a1, .ref a3])), (a2, .inr (2, [.int v2_count, .int v2_masts, .ref a2_place, .ref a2_price, .ref a2_trackAside, .ref a2_side, .ref a2_stands, .ref a2_mastPeg])), (a2_place, .inl (cI, 40, .inl f2_place)), (a2_mastPeg, .inl (cI, 40, .inl f2_mastPeg)), (a0, .inr (0, [.int v0_tension, .int v0_own, .int v0_droppers, .int v0_load, .int v0_hang]))] U.heap ∧ va_K (dC, dI) vwCl [(cI, .int), (cJ, .long), (cZ, .boolean)] U ∧ va_D (fun _ => True) [(a7, .inr (7, [.ref a6, .ref a2, .ref a5, .ref a4, .ref a0, .ref a1, .ref a3])), (a2, .inr (2, [.int v2_count, .int v2_masts, .ref a2_place, .ref a2_price, .ref a2_trackAside, .ref a2_side, .ref a2_stands, .ref a2_mastPeg])), (a2_place, .inl (cI, 40, .inl f2_place)), (a2_mastPeg, .inl (cI, 40, .inl f2_mastPeg)), (a0, .inr (0, [.int v0_tension, .int v0_own, .int v0_droppers, .int v0_load, .int v0_hang]))])) (va_Qi (fun r (u : Unit) => Q r) (fun (u : Unit) t => va_P (dC, dI) vwCl [(a7, .inr (7, [.ref a6, .ref a2, .ref a5, .ref a4, .ref a0, .ref a1, .ref a3])), (a2, .inr (2, [.int v2_count, .int v2_masts, .ref a2_place, .ref a2_price, .ref a2_trackAside, .ref a2_side, .ref a2_stands, .ref a2_mastPeg])), (a2_place, .inl (cI, 40, .inl f2_place)), (a2_mastPeg, .inl (cI, 40, .inl f2_mastPeg)), (a0, .inr (0, [.int v0_tension, .int v0_own, .int v0_droppers, .int v0_load, .int v0_hang]))] t.heap ∧ va_K (dC, dI) vwCl [(cI, .int), (cJ, .long), (cZ, .boolean)] t ∧ va_D (va_A [(a7, .inr (7, [.ref a6, .ref a2, .ref a5, .ref a4, .ref a0, .ref a1, .ref a3])), (a2, .inr (2, [.int v2_count, .int v2_masts, .ref a2_place, .ref a2_price, .ref a2_trackAside, .ref a2_side, .ref a2_stands, .ref a2_mastPeg])), (a2_place, .inl (cI, 40, .inl f2_place)), (a2_mastPeg, .inl (cI, 40, .inl f2_mastPeg)), (a0, .inr (0, [.int v0_tension, .int v0_own, .int v0_droppers, .int v0_load, .int v0_hang]))] sz) [(a7, .inr (7, [.ref a6, .ref a2, .ref a5, .ref a4, .ref a0, .ref a1, .ref a3])), (a2, .inr (2, [.int v2_count, .int v2_masts, .ref a2_place, .ref a2_price, .ref a2_trackAside, .ref a2_side, .ref a2_stands, .ref a2_mastPeg])), (a2_place, .inl (cI, 40, .inl f2_place)), (a2_mastPeg, .inl (cI, 40, .inl f2_mastPeg)), (a0, .inr (0, [.int v0_tension, .int v0_own, .int v0_droppers, .int v0_load, .int v0_hang]))]) (va_A [(a7, .inr (7, [.ref a6, .ref a2, .ref a5, .ref a4, .ref a0, .ref a1, .ref a3])), (a2, .inr (2, [.int v2_count, .int v2_masts, .ref a2_place, .ref a2_price, .ref a2_trackAside, .ref a2_side, .ref a2_stands, .ref a2_mastPeg])), (a2_place, .inl (cI, 40, .inl f2_place)), (a2_mastPeg, .inl (cI, 40, .inl f2_mastPeg)), (a0, .inr (0, [.int v0_tension, .int v0_own, .int v0_droppers, .int v0_load, .int v0_hang]))] sz)) 0 0 (va_A [(a7, .inr (7, [.ref a6, .ref a2, .ref a5, .ref a4, .ref a0, .ref a1, .ref a3])), (a2, .inr (2, [.int v2_count, .int v2_masts, .ref a2_place, .ref a2_price, .ref a2_trackAside, .ref a2_side, .ref a2_stands, .ref a2_mastPeg])), (a2_place, .inl (cI, 40, .inl f2_place)), (a2_mastPeg, .inl (cI, 40, .inl f2_mastPeg)), (a0, .inr (0, [.int v0_tension, .int v0_own, .int v0_droppers, .int v0_load, .int v0_hang]))] sz) := by
  refine Met.ofW (cc := cX7_shortOne) (maxL := 4) (ret := (some .int)) (by decide) rfl ?_
  intro p e s m args below meth c s₁ B hml hv
  obtain ⟨rfl, hsz, hP, hK, hD0⟩ := hv
  have hx := B.exec
  have hb := B.bytes
  have hr := B.returns
  have hts := atoms_spec (ws := wsX7_shortOne) B.pre
  have hown : s.vm.findClass RX7 = some m.cls := findClass_of_methodNamed B.named
  have hlocks := B.notSynchronized
  subst hsz
  have hD := hD0.self (sz := s.heap.size)
  generalize hAe : va_A [(a7, .inr (7, [.ref a6, .ref a2, .ref a5, .ref a4, .ref a0, .ref a1, .ref a3])), (a2, .inr (2, [.int v2_count, .int v2_masts, .ref a2_place, .ref a2_price, .ref a2_trackAside, .ref a2_side, .ref a2_stands, .ref a2_mastPeg])), (a2_place, .inl (cI, 40, .inl f2_place)), (a2_mastPeg, .inl (cI, 40, .inl f2_mastPeg)), (a0, .inr (0, [.int v0_tension, .int v0_own, .int v0_droppers, .int v0_load, .int v0_hang]))] s.heap.size = A at hD ⊢
  have hA : ∀ q : Nat, s.heap.size ≤ q → A q := fun q h => by rw [← hAe]; exact Or.inr h
  have hS : va_S A s.heap s.heap [] := va_S.rf
  have hP : va_P (dC, dI) vwCl [(a7, .inr (7, [.ref a6, .ref a2, .ref a5, .ref a4, .ref a0, .ref a1, .ref a3])), (a2, .inr (2, [.int v2_count, .int v2_masts, .ref a2_place, .ref a2_price, .ref a2_trackAside, .ref a2_side, .ref a2_stands, .ref a2_mastPeg])), (a2_place, .inl (cI, 40, .inl f2_place)), (a2_mastPeg, .inl (cI, 40, .inl f2_mastPeg)), (a0, .inr (0, [.int v0_tension, .int v0_own, .int v0_droppers, .int v0_load, .int v0_hang]))] s.heap := hP
  have lk1 := hts (.fieldLink RX7 19 "WireRow" "pegs" "LWireRow$PegRow;") (by decide +kernel)
  have lk2 := hts (.fieldLink RX7 42 "WireRow" "wire" "LWireRow$Carrier;") (by decide +kernel)
  have lk3 := hts (.fieldLink RX7 187 "WireRow$Carrier" "droppers" "I") (by decide +kernel)
  have lk4 := hts (.constantLong RX7 225 (100)) (by decide +kernel)
  have k_2 : ∀ (n_2 : Nat) (y2_1 : Int32) (H : Heap) (locs : List Loc) (ls : Array Slot), va_P (dC, dI) vwCl [(a7, .inr (7, [.ref a6, .ref a2, .ref a5, .ref a4, .ref a0, .ref a1, .ref a3])), (a2, .inr (2, [.int v2_count, .int v2_masts, .ref a2_place, .ref a2_price, .ref a2_trackAside, .ref a2_side, .ref a2_stands, .ref a2_mastPeg])), (a2_place, .inl (cI, 40, .inl f2_place)), (a2_mastPeg, .inl (cI, 40, .inl f2_mastPeg)), (a0, .inr (0, [.int v0_tension, .int v0_own, .int v0_droppers, .int v0_load, .int v0_hang]))] H → va_D A [(a7, .inr (7, [.ref a6, .ref a2, .ref a5, .ref a4, .ref a0, .ref a1, .ref a3])), (a2, .inr (2, [.int v2_count, .int v2_masts, .ref a2_place, .ref a2_price, .ref a2_trackAside, .ref a2_side, .ref a2_stands, .ref a2_mastPeg])), (a2_place, .inl (cI, 40, .inl f2_place)), (a2_mastPeg, .inl (cI, 40, .inl f2_mastPeg)), (a0, .inr (0, [.int v0_tension, .int v0_own, .int v0_droppers, .int v0_load, .int v0_hang]))] → va_S A s.heap H locs → lv_has ls 4 [(0, .ref a7), (1, .int y2_1)] → (wl_X7_shortOne_2 Q v2_masts f2_place f2_mastPeg v0_tension v0_own v0_droppers v0_load v0_hang  n_2 y2_1) → W p l e (headSpec wsX7_shortOne ({ frames := 3, cells := 0, slots := 0, locals := 71 } : Room)).room s m [.ref a7].toArray below meth c H locs 0 0 (MQ below (va_Qi (fun r (u : Unit) => Q r) (fun (u : Unit) t => va_P (dC, dI) vwCl [(a7, .inr (7, [.ref a6, .ref a2, .ref a5, .ref a4, .ref a0, .ref a1, .ref a3])), (a2, .inr (2, [.int v2_count, .int v2_masts, .ref a2_place, .ref a2_price, .ref a2_trackAside, .ref a2_side, .ref a2_stands, .ref a2_mastPeg])), (a2_place, .inl (cI, 40, .inl f2_place)), (a2_mastPeg, .inl (cI, 40, .inl f2_mastPeg)), (a0, .inr (0, [.int v0_tension, .int v0_own, .int v0_droppers, .int v0_load, .int v0_hang]))] t.heap ∧ va_K (dC, dI) vwCl [(cI, .int), (cJ, .long), (cZ, .boolean)] t ∧ va_D A [(a7, .inr (7, [.ref a6, .ref a2, .ref a5, .ref a4, .ref a0, .ref a1, .ref a3])), (a2, .inr (2, [.int v2_count, .int v2_masts, .ref a2_place, .ref a2_price, .ref a2_trackAside, .ref a2_side, .ref a2_stands, .ref a2_mastPeg])), (a2_place, .inl (cI, 40, .inl f2_place)), (a2_mastPeg, .inl (cI, 40, .inl f2_mastPeg)), (a0, .inr (0, [.int v0_tension, .int v0_own, .int v0_droppers, .int v0_load, .int v0_hang]))]) A) [.ref a7].toArray s 0 0 A) (F0 m 2 ls []) := by
    intro n_2
    induction n_2 with
    | zero =>
      intro y2_1 H locs ls hP hD hS hl hw
      exact False.elim hw
    | succ n_2 ih_2 =>
      have k_24 : ∀ (n_24 : Nat) (y24_1 : Int32) (y24_2 : Int32) (y24_3 : Int32) (H : Heap) (locs : List Loc) (ls : Array Slot), va_P (dC, dI) vwCl [(a7, .inr (7, [.ref a6, .ref a2, .ref a5, .ref a4, .ref a0, .ref a1, .ref a3])), (a2, .inr (2, [.int v2_count, .int v2_masts, .ref a2_place, .ref a2_price, .ref a2_trackAside, .ref a2_side, .ref a2_stands, .ref a2_mastPeg])), (a2_place, .inl (cI, 40, .inl f2_place)), (a2_mastPeg, .inl (cI, 40, .inl f2_mastPeg)), (a0, .inr (0, [.int v0_tension, .int v0_own, .int v0_droppers, .int v0_load, .int v0_hang]))] H → va_D A [(a7, .inr (7, [.ref a6, .ref a2, .ref a5, .ref a4, .ref a0, .ref a1, .ref a3])), (a2, .inr (2, [.int v2_count, .int v2_masts, .ref a2_place, .ref a2_price, .ref a2_trackAside, .ref a2_side, .ref a2_stands, .ref a2_mastPeg])), (a2_place, .inl (cI, 40, .inl f2_place)), (a2_mastPeg, .inl (cI, 40, .inl f2_mastPeg)), (a0, .inr (0, [.int v0_tension, .int v0_own, .int v0_droppers, .int v0_load, .int v0_hang]))] → va_S A s.heap H locs → lv_has ls 4 [(0, .ref a7), (1, .int y24_1), (2, .int y24_2), (3, .int y24_3)] → (wl_X7_shortOne_24 Q v2_masts f2_place f2_mastPeg v0_tension v0_own v0_droppers v0_load v0_hang (wl_X7_shortOne_2 Q v2_masts f2_place f2_mastPeg v0_tension v0_own v0_droppers v0_load v0_hang  n_2) n_24 y24_1 y24_2 y24_3) → W p l e (headSpec wsX7_shortOne ({ frames := 3, cells := 0, slots := 0, locals := 71 } : Room)).room s m [.ref a7].toArray below meth c H locs 0 0 (MQ below (va_Qi (fun r (u : Unit) => Q r) (fun (u : Unit) t => va_P (dC, dI) vwCl [(a7, .inr (7, [.ref a6, .ref a2, .ref a5, .ref a4, .ref a0, .ref a1, .ref a3])), (a2, .inr (2, [.int v2_count, .int v2_masts, .ref a2_place, .ref a2_price, .ref a2_trackAside, .ref a2_side, .ref a2_stands, .ref a2_mastPeg])), (a2_place, .inl (cI, 40, .inl f2_place)), (a2_mastPeg, .inl (cI, 40, .inl f2_mastPeg)), (a0, .inr (0, [.int v0_tension, .int v0_own, .int v0_droppers, .int v0_load, .int v0_hang]))] t.heap ∧ va_K (dC, dI) vwCl [(cI, .int), (cJ, .long), (cZ, .boolean)] t ∧ va_D A [(a7, .inr (7, [.ref a6, .ref a2, .ref a5, .ref a4, .ref a0, .ref a1, .ref a3])), (a2, .inr (2, [.int v2_count, .int v2_masts, .ref a2_place, .ref a2_price, .ref a2_trackAside, .ref a2_side, .ref a2_stands, .ref a2_mastPeg])), (a2_place, .inl (cI, 40, .inl f2_place)), (a2_mastPeg, .inl (cI, 40, .inl f2_mastPeg)), (a0, .inr (0, [.int v0_tension, .int v0_own, .int v0_droppers, .int v0_load, .int v0_hang]))]) A) [.ref a7].toArray s 0 0 A) (F0 m 24 ls []) := by
        intro n_24
        induction n_24 with
        | zero =>
          intro y24_1 y24_2 y24_3 H locs ls hP hD hS hl hw
          exact False.elim hw
        | succ n_24 ih_24 =>
          intro y24_1 y24_2 y24_3 H locs ls hP hD hS hl hw
          replace hw : wb_X7_shortOne_24 Q v2_masts f2_place f2_mastPeg v0_tension v0_own v0_droppers v0_load v0_hang (wl_X7_shortOne_2 Q v2_masts f2_place f2_mastPeg v0_tension v0_own v0_droppers v0_load v0_hang  n_2) (wl_X7_shortOne_24 Q v2_masts f2_place f2_mastPeg v0_tension v0_own v0_droppers v0_load v0_hang (wl_X7_shortOne_2 Q v2_masts f2_place f2_mastPeg v0_tension v0_own v0_droppers v0_load v0_hang  n_2) n_24) y24_1 y24_2 y24_3 := hw
          unfold wb_X7_shortOne_24 at hw
          refine lv_iload_n hx hb dX7_shortOne_24 rfl (lv_at hl 3 rfl) ?_
          refine lv_aload_n hx hb dX7_shortOne_25 rfl (lv_at hl 0 rfl) ?_
          refine va_get (D := (dC, dI)) (ci := 7) (v := .ref a0) (C := RX7) (T := TX7) (N := 7) hx hb hts inX7_shortOne_X7 hown hK hP 0 rfl rfl 4 (by decide) lk2 (fun _ h9 => h9) rfl dX7_shortOne_26 ?_
          refine va_get (D := (dC, dI)) (ci := 0) (v := .int v0_droppers) (C := RX0) (T := TX0) (N := 5) hx hb hts inX7_shortOne_X0 hown hK hP 4 rfl rfl 2 (by decide) lk3 (fun _ h9 => h9) rfl dX7_shortOne_29 ?_
          refine lv_icmp_ge (tgt := 72) hx hb dX7_shortOne_32 (by decide) (fun c4 => ?_) (fun c4 => ?_)
          · replace hw := hw.1 (c4)
            obtain ⟨x5, ex5⟩ : ∃ y : Int32, y = y24_1 + (1 : Int32) := ⟨_, rfl⟩
            replace hw := hw x5 ex5
            refine lv_iinc (v := x5) (lv' := [(1, .int x5), (0, .ref a7), (2, .int y24_2), (3, .int y24_3)]) hx hb dX7_shortOne_72 hl (k := 1) rfl (by rw [ex5]; rfl) (by decide) rfl (fun ls hl => ?_)
            refine lv_goto (tgt := 2) hx hb dX7_shortOne_75 (by decide) ?_
            exact ih_2 x5 _ _ _ (hP.sub [0, 1, 2, 3, 4] rfl) (hD.sub [0, 1, 2, 3, 4] (by decide) rfl) hS (lv_sub hl [1, 0] rfl) hw
          · replace hw := hw.2 (c4)
            refine lv_aload_n hx hb dX7_shortOne_35 rfl (lv_at hl 0 rfl) ?_
            refine va_get (D := (dC, dI)) (ci := 7) (v := .ref a0) (C := RX7) (T := TX7) (N := 7) hx hb hts inX7_shortOne_X7 hown hK hP 0 rfl rfl 4 (by decide) lk2 (fun _ h9 => h9) rfl dX7_shortOne_36 ?_
            refine lv_iload_n hx hb dX7_shortOne_39 rfl (lv_at hl 2 rfl) ?_
            refine lv_iload_n hx hb dX7_shortOne_40 rfl (lv_at hl 3 rfl) ?_
            have hPc := hP.sub (ws' := [(a0, .inr (0, [.int v0_tension, .int v0_own, .int v0_droppers, .int v0_load, .int v0_hang]))]) [4] rfl
            have hDc := hD.sub (ws' := [(a0, .inr (0, [.int v0_tension, .int v0_own, .int v0_droppers, .int v0_load, .int v0_hang]))]) [4] (by decide) rfl
            have hFc := va_free (wc := [(a0, .inr (0, [.int v0_tension, .int v0_own, .int v0_droppers, .int v0_load, .int v0_hang]))]) hD hS hA [4] rfl
            refine va_calll (va_runV (As := [.int y24_2, .int y24_3]) (rest := []) ⟨hx, hb, hml, hown, hts⟩ (c_X0_lengthUpper l dC dI cI cJ cZ a0 H.size v0_tension v0_own v0_droppers v0_load v0_hang y24_2 y24_3 _ hw) (cwV 2 hts gX7_shortOne_X0_lengthUpper rfl rfl rfl (by decide +kernel) ⟨Nat.le_of_ble_eq_true rfl, Nat.le_of_ble_eq_true rfl⟩) ⟨fun a U g mk q => by obtain ⟨q0, q1, qP, qK, qD⟩ := q; exact ⟨q0, q1, qP, va_K.moved (u := U) (U := U.calling g mk a) (Vm.Alike.refl U.vm) qK, qD⟩, va_recv hK hP (ci := 0) (q0 := 4) rfl rfl, fun U hU hW => ⟨rfl, by rw [hU], by rw [hU]; exact hPc, va_K.moved hW.alike hK, hDc.weaken (fun _ _ _ _ => trivial)⟩⟩ rfl rfl hl.1 rfl (lv_room (Nat.le_of_ble_eq_true rfl)) dX7_shortOne_41 ⟨(Nat.zero_le _), (Nat.zero_le _)⟩) hS (fun q _ h => hFc q h) hFc (fun r6 u t H1 locs ht hvm hw hB hz1 hk1 hS => ?_)
            obtain ⟨hP1, -, hD1⟩ := hB
            try dsimp only at hw
            rw [ht] at hP1
            obtain ⟨hP, hD⟩ := va_join (wr := [(a7, .inr (7, [.ref a6, .ref a2, .ref a5, .ref a4, .ref a0, .ref a1, .ref a3])), (a2, .inr (2, [.int v2_count, .int v2_masts, .ref a2_place, .ref a2_price, .ref a2_trackAside, .ref a2_side, .ref a2_stands, .ref a2_mastPeg])), (a2_place, .inl (cI, 40, .inl f2_place)), (a2_mastPeg, .inl (cI, 40, .inl f2_mastPeg))]) (w1 := [(a0, .inr (0, [.int v0_tension, .int v0_own, .int v0_droppers, .int v0_load, .int v0_hang]))]) hP hD [4] [0, 1, 2, 3] rfl rfl (by decide) (by decide) hk1 hFc hP1 hD1
            generalize H1 = H at hP hS ⊢
            have hP : va_P (dC, dI) vwCl [(a7, .inr (7, [.ref a6, .ref a2, .ref a5, .ref a4, .ref a0, .ref a1, .ref a3])), (a2, .inr (2, [.int v2_count, .int v2_masts, .ref a2_place, .ref a2_price, .ref a2_trackAside, .ref a2_side, .ref a2_stands, .ref a2_mastPeg])), (a2_place, .inl (cI, 40, .inl f2_place)), (a2_mastPeg, .inl (cI, 40, .inl f2_mastPeg)), (a0, .inr (0, [.int v0_tension, .int v0_own, .int v0_droppers, .int v0_load, .int v0_hang]))] H := hP
            have hD : va_D A [(a7, .inr (7, [.ref a6, .ref a2, .ref a5, .ref a4, .ref a0, .ref a1, .ref a3])), (a2, .inr (2, [.int v2_count, .int v2_masts, .ref a2_place, .ref a2_price, .ref a2_trackAside, .ref a2_side, .ref a2_stands, .ref a2_mastPeg])), (a2_place, .inl (cI, 40, .inl f2_place)), (a2_mastPeg, .inl (cI, 40, .inl f2_mastPeg)), (a0, .inr (0, [.int v0_tension, .int v0_own, .int v0_droppers, .int v0_load, .int v0_hang]))] := hD
            refine lv_ldc2 (v := (100 : Int64)) hx hb hown lk4 dX7_shortOne_44 ?_
            refine lv_aload_n hx hb dX7_shortOne_47 rfl (lv_at hl 0 rfl) ?_
            refine va_get (D := (dC, dI)) (ci := 7) (v := .ref a0) (C := RX7) (T := TX7) (N := 7) hx hb hts inX7_shortOne_X7 hown hK hP 0 rfl rfl 4 (by decide) lk2 (fun _ h9 => h9) rfl dX7_shortOne_48 ?_
            have hPc := hP.sub (ws' := [(a0, .inr (0, [.int v0_tension, .int v0_own, .int v0_droppers, .int v0_load, .int v0_hang]))]) [4] rfl
            have hDc := hD.sub (ws' := [(a0, .inr (0, [.int v0_tension, .int v0_own, .int v0_droppers, .int v0_load, .int v0_hang]))]) [4] (by decide) rfl
            have hFc := va_free (wc := [(a0, .inr (0, [.int v0_tension, .int v0_own, .int v0_droppers, .int v0_load, .int v0_hang]))]) hD hS hA [4] rfl
            refine va_calll (va_runV (As := []) (rest := [.long (100 : Int64), .long r6]) ⟨hx, hb, hml, hown, hts⟩ (c_X0_lower l dC dI cI cJ cZ a0 H.size v0_tension v0_own v0_droppers v0_load v0_hang _ hw) (cwV 0 hts gX7_shortOne_X0_lower rfl rfl rfl (by decide +kernel) ⟨Nat.le_of_ble_eq_true rfl, Nat.le_of_ble_eq_true rfl⟩) ⟨fun a U g mk q => by obtain ⟨q0, q1, qP, qK, qD⟩ := q; exact ⟨q0, q1, qP, va_K.moved (u := U) (U := U.calling g mk a) (Vm.Alike.refl U.vm) qK, qD⟩, va_recv hK hP (ci := 0) (q0 := 4) rfl rfl, fun U hU hW => ⟨rfl, by rw [hU], by rw [hU]; exact hPc, va_K.moved hW.alike hK, hDc.weaken (fun _ _ _ _ => trivial)⟩⟩ rfl rfl hl.1 rfl (lv_room (Nat.le_of_ble_eq_true rfl)) dX7_shortOne_51 ⟨(Nat.zero_le _), (Nat.zero_le _)⟩) hS (fun q _ h => hFc q h) hFc (fun r7 u t H1 locs ht hvm hw hB hz1 hk1 hS => ?_)
            obtain ⟨hP1, -, hD1⟩ := hB
            try dsimp only at hw
            rw [ht] at hP1
            obtain ⟨hP, hD⟩ := va_join (wr := [(a7, .inr (7, [.ref a6, .ref a2, .ref a5, .ref a4, .ref a0, .ref a1, .ref a3])), (a2, .inr (2, [.int v2_count, .int v2_masts, .ref a2_place, .ref a2_price, .ref a2_trackAside, .ref a2_side, .ref a2_stands, .ref a2_mastPeg])), (a2_place, .inl (cI, 40, .inl f2_place)), (a2_mastPeg, .inl (cI, 40, .inl f2_mastPeg))]) (w1 := [(a0, .inr (0, [.int v0_tension, .int v0_own, .int v0_droppers, .int v0_load, .int v0_hang]))]) hP hD [4] [0, 1, 2, 3] rfl rfl (by decide) (by decide) hk1 hFc hP1 hD1
            generalize H1 = H at hP hS ⊢
            have hP : va_P (dC, dI) vwCl [(a7, .inr (7, [.ref a6, .ref a2, .ref a5, .ref a4, .ref a0, .ref a1, .ref a3])), (a2, .inr (2, [.int v2_count, .int v2_masts, .ref a2_place, .ref a2_price, .ref a2_trackAside, .ref a2_side, .ref a2_stands, .ref a2_mastPeg])), (a2_place, .inl (cI, 40, .inl f2_place)), (a2_mastPeg, .inl (cI, 40, .inl f2_mastPeg)), (a0, .inr (0, [.int v0_tension, .int v0_own, .int v0_droppers, .int v0_load, .int v0_hang]))] H := hP
            have hD : va_D A [(a7, .inr (7, [.ref a6, .ref a2, .ref a5, .ref a4, .ref a0, .ref a1, .ref a3])), (a2, .inr (2, [.int v2_count, .int v2_masts, .ref a2_place, .ref a2_price, .ref a2_trackAside, .ref a2_side, .ref a2_stands, .ref a2_mastPeg])), (a2_place, .inl (cI, 40, .inl f2_place)), (a2_mastPeg, .inl (cI, 40, .inl f2_mastPeg)), (a0, .inr (0, [.int v0_tension, .int v0_own, .int v0_droppers, .int v0_load, .int v0_hang]))] := hD
            refine lv_lmul hx hb dX7_shortOne_54 ?_
            refine W.lcmp hx hb dX7_shortOne_55 ?_
            refine lv_if_ge (tgt := 66) hx hb dX7_shortOne_56 (by decide) (fun c8 => ?_) (fun c8 => ?_)
            · replace hw := hw.1 ((lg_cmp_ge _ _).mp c8)
              obtain ⟨x9, ex9⟩ : ∃ y : Int32, y = y24_3 + (1 : Int32) := ⟨_, rfl⟩
              replace hw := hw x9 ex9
              refine lv_iinc (v := x9) (lv' := [(3, .int x9), (0, .ref a7), (1, .int y24_1), (2, .int y24_2)]) hx hb dX7_shortOne_66 hl (k := 3) rfl (by rw [ex9]; rfl) (by decide) rfl (fun ls hl => ?_)
              refine lv_goto (tgt := 24) hx hb dX7_shortOne_69 (by decide) ?_
              exact ih_24 y24_1 y24_2 x9 _ _ _ (hP.sub [0, 1, 2, 3, 4] rfl) (hD.sub [0, 1, 2, 3, 4] (by decide) rfl) hS (lv_sub hl [1, 2, 3, 0] rfl) hw
            · replace hw := hw.2 (fun z => c8 ((lg_cmp_ge _ _).mpr z))
              refine lv_bipush (v := (100 : Int32)) hx hb dX7_shortOne_59 (by decide) ?_
              refine lv_iload_n hx hb dX7_shortOne_61 rfl (lv_at hl 1 rfl) ?_
              refine lv_imul hx hb dX7_shortOne_62 ?_
              refine lv_iload_n hx hb dX7_shortOne_63 rfl (lv_at hl 3 rfl) ?_
              refine lv_iadd hx hb dX7_shortOne_64 ?_
              have hP9 := hP.sub (ws' := [(a7, .inr (7, [.ref a6, .ref a2, .ref a5, .ref a4, .ref a0, .ref a1, .ref a3])), (a2, .inr (2, [.int v2_count, .int v2_masts, .ref a2_place, .ref a2_price, .ref a2_trackAside, .ref a2_side, .ref a2_stands, .ref a2_mastPeg])), (a2_place, .inl (cI, 40, .inl f2_place)), (a2_mastPeg, .inl (cI, 40, .inl f2_mastPeg)), (a0, .inr (0, [.int v0_tension, .int v0_own, .int v0_droppers, .int v0_load, .int v0_hang]))]) [0, 1, 2, 3, 4] rfl
              have hD9 := hD.sub (ws' := [(a7, .inr (7, [.ref a6, .ref a2, .ref a5, .ref a4, .ref a0, .ref a1, .ref a3])), (a2, .inr (2, [.int v2_count, .int v2_masts, .ref a2_place, .ref a2_price, .ref a2_trackAside, .ref a2_side, .ref a2_stands, .ref a2_mastPeg])), (a2_place, .inl (cI, 40, .inl f2_place)), (a2_mastPeg, .inl (cI, 40, .inl f2_mastPeg)), (a0, .inr (0, [.int v0_tension, .int v0_own, .int v0_droppers, .int v0_load, .int v0_hang]))]) [0, 1, 2, 3, 4] (by decide) rfl
              exact W.iret (v := (((100 : Int32) * y24_1) + y24_3)) hx hb hr (fun t ht hW => ⟨⟨(((100 : Int32) * y24_1) + y24_3), (), rfl, hw, by rw [ht]; exact hP9, va_K.moved hW.alike hK, hD9⟩, hS.F ht⟩) hS.2.2 dX7_shortOne_65
      intro y2_1 H locs ls hP hD hS hl hw
      replace hw : wb_X7_shortOne_2 Q v2_masts f2_place f2_mastPeg v0_tension v0_own v0_droppers v0_load v0_hang  (wl_X7_shortOne_2 Q v2_masts f2_place f2_mastPeg v0_tension v0_own v0_droppers v0_load v0_hang  n_2) y2_1 := hw
      unfold wb_X7_shortOne_2 at hw
      refine lv_iload_n hx hb dX7_shortOne_2 rfl (lv_at hl 1 rfl) ?_
      refine lv_aload_n hx hb dX7_shortOne_3 rfl (lv_at hl 0 rfl) ?_
      refine va_get (D := (dC, dI)) (ci := 7) (v := .ref a2) (C := RX7) (T := TX7) (N := 7) hx hb hts inX7_shortOne_X7 hown hK hP 0 rfl rfl 1 (by decide) lk1 (fun _ h9 => h9) rfl dX7_shortOne_4 ?_
      have hPc := hP.sub (ws' := [(a2, .inr (2, [.int v2_count, .int v2_masts, .ref a2_place, .ref a2_price, .ref a2_trackAside, .ref a2_side, .ref a2_stands, .ref a2_mastPeg]))]) [1] rfl
      have hDc := hD.sub (ws' := [(a2, .inr (2, [.int v2_count, .int v2_masts, .ref a2_place, .ref a2_price, .ref a2_trackAside, .ref a2_side, .ref a2_stands, .ref a2_mastPeg]))]) [1] (by decide) rfl
      have hFc := va_free (wc := [(a2, .inr (2, [.int v2_count, .int v2_masts, .ref a2_place, .ref a2_price, .ref a2_trackAside, .ref a2_side, .ref a2_stands, .ref a2_mastPeg]))]) hD hS hA [1] rfl
      refine va_calli (va_runV (As := []) (rest := [.int y2_1]) ⟨hx, hb, hml, hown, hts⟩ (c_X2_spans l dC dI cI cJ cZ a2 a2_place a2_price a2_trackAside a2_side a2_stands a2_mastPeg H.size v2_count v2_masts _ hw) (cwV 0 hts gX7_shortOne_X2_spans rfl rfl rfl (by decide +kernel) ⟨Nat.le_of_ble_eq_true rfl, Nat.le_of_ble_eq_true rfl⟩) ⟨fun a U g mk q => by obtain ⟨q0, q1, qP, qK, qD⟩ := q; exact ⟨q0, q1, qP, va_K.moved (u := U) (U := U.calling g mk a) (Vm.Alike.refl U.vm) qK, qD⟩, va_recv hK hP (ci := 2) (q0 := 1) rfl rfl, fun U hU hW => ⟨rfl, by rw [hU], by rw [hU]; exact hPc, va_K.moved hW.alike hK, hDc.weaken (fun _ _ _ _ => trivial)⟩⟩ rfl rfl hl.1 rfl (lv_room (Nat.le_of_ble_eq_true rfl)) dX7_shortOne_7 ⟨(Nat.zero_le _), (Nat.zero_le _)⟩) hS (fun q _ h => hFc q h) hFc (fun r1 u t H1 locs ht hvm hw hB hz1 hk1 hS => ?_)
      obtain ⟨hP1, -, hD1⟩ := hB
      try dsimp only at hw
      rw [ht] at hP1
      obtain ⟨hP, hD⟩ := va_join (wr := [(a7, .inr (7, [.ref a6, .ref a2, .ref a5, .ref a4, .ref a0, .ref a1, .ref a3])), (a2_place, .inl (cI, 40, .inl f2_place)), (a2_mastPeg, .inl (cI, 40, .inl f2_mastPeg)), (a0, .inr (0, [.int v0_tension, .int v0_own, .int v0_droppers, .int v0_load, .int v0_hang]))]) (w1 := [(a2, .inr (2, [.int v2_count, .int v2_masts, .ref a2_place, .ref a2_price, .ref a2_trackAside, .ref a2_side, .ref a2_stands, .ref a2_mastPeg]))]) hP hD [1] [0, 2, 3, 4] rfl rfl (by decide) (by decide) hk1 hFc hP1 hD1
      generalize H1 = H at hP hS ⊢
      have hP : va_P (dC, dI) vwCl [(a7, .inr (7, [.ref a6, .ref a2, .ref a5, .ref a4, .ref a0, .ref a1, .ref a3])), (a2_place, .inl (cI, 40, .inl f2_place)), (a2_mastPeg, .inl (cI, 40, .inl f2_mastPeg)), (a0, .inr (0, [.int v0_tension, .int v0_own, .int v0_droppers, .int v0_load, .int v0_hang])), (a2, .inr (2, [.int v2_count, .int v2_masts, .ref a2_place, .ref a2_price, .ref a2_trackAside, .ref a2_side, .ref a2_stands, .ref a2_mastPeg]))] H := hP
      have hD : va_D A [(a7, .inr (7, [.ref a6, .ref a2, .ref a5, .ref a4, .ref a0, .ref a1, .ref a3])), (a2_place, .inl (cI, 40, .inl f2_place)), (a2_mastPeg, .inl (cI, 40, .inl f2_mastPeg)), (a0, .inr (0, [.int v0_tension, .int v0_own, .int v0_droppers, .int v0_load, .int v0_hang])), (a2, .inr (2, [.int v2_count, .int v2_masts, .ref a2_place, .ref a2_price, .ref a2_trackAside, .ref a2_side, .ref a2_stands, .ref a2_mastPeg]))] := hD
      refine lv_icmp_ge (tgt := 78) hx hb dX7_shortOne_10 (by decide) (fun c2 => ?_) (fun c2 => ?_)
      · replace hw := hw.1 (c2)
        refine lv_bipush (v := (-6 : Int32)) hx hb dX7_shortOne_78 (by decide) ?_
        have hP9 := hP.sub (ws' := [(a7, .inr (7, [.ref a6, .ref a2, .ref a5, .ref a4, .ref a0, .ref a1, .ref a3])), (a2, .inr (2, [.int v2_count, .int v2_masts, .ref a2_place, .ref a2_price, .ref a2_trackAside, .ref a2_side, .ref a2_stands, .ref a2_mastPeg])), (a2_place, .inl (cI, 40, .inl f2_place)), (a2_mastPeg, .inl (cI, 40, .inl f2_mastPeg)), (a0, .inr (0, [.int v0_tension, .int v0_own, .int v0_droppers, .int v0_load, .int v0_hang]))]) [0, 4, 1, 2, 3] rfl
        have hD9 := hD.sub (ws' := [(a7, .inr (7, [.ref a6, .ref a2, .ref a5, .ref a4, .ref a0, .ref a1, .ref a3])), (a2, .inr (2, [.int v2_count, .int v2_masts, .ref a2_place, .ref a2_price, .ref a2_trackAside, .ref a2_side, .ref a2_stands, .ref a2_mastPeg])), (a2_place, .inl (cI, 40, .inl f2_place)), (a2_mastPeg, .inl (cI, 40, .inl f2_mastPeg)), (a0, .inr (0, [.int v0_tension, .int v0_own, .int v0_droppers, .int v0_load, .int v0_hang]))]) [0, 4, 1, 2, 3] (by decide) rfl
        exact W.iret (v := (-6 : Int32)) hx hb hr (fun t ht hW => ⟨⟨(-6 : Int32), (), rfl, hw, by rw [ht]; exact hP9, va_K.moved hW.alike hK, hD9⟩, hS.F ht⟩) hS.2.2 dX7_shortOne_80
      · replace hw := hw.2 (c2)
        refine lv_aload_n hx hb dX7_shortOne_13 rfl (lv_at hl 0 rfl) ?_
        refine va_get (D := (dC, dI)) (ci := 7) (v := .ref a2) (C := RX7) (T := TX7) (N := 7) hx hb hts inX7_shortOne_X7 hown hK hP 0 rfl rfl 1 (by decide) lk1 (fun _ h9 => h9) rfl dX7_shortOne_14 ?_
        refine lv_iload_n hx hb dX7_shortOne_17 rfl (lv_at hl 1 rfl) ?_
        have hPc := hP.sub (ws' := [(a2, .inr (2, [.int v2_count, .int v2_masts, .ref a2_place, .ref a2_price, .ref a2_trackAside, .ref a2_side, .ref a2_stands, .ref a2_mastPeg])), (a2_place, .inl (cI, 40, .inl f2_place)), (a2_mastPeg, .inl (cI, 40, .inl f2_mastPeg))]) [4, 1, 2] rfl
        have hDc := hD.sub (ws' := [(a2, .inr (2, [.int v2_count, .int v2_masts, .ref a2_place, .ref a2_price, .ref a2_trackAside, .ref a2_side, .ref a2_stands, .ref a2_mastPeg])), (a2_place, .inl (cI, 40, .inl f2_place)), (a2_mastPeg, .inl (cI, 40, .inl f2_mastPeg))]) [4, 1, 2] (by decide) rfl
        have hFc := va_free (wc := [(a2, .inr (2, [.int v2_count, .int v2_masts, .ref a2_place, .ref a2_price, .ref a2_trackAside, .ref a2_side, .ref a2_stands, .ref a2_mastPeg])), (a2_place, .inl (cI, 40, .inl f2_place)), (a2_mastPeg, .inl (cI, 40, .inl f2_mastPeg))]) hD hS hA [4, 1, 2] rfl
        refine va_calli (va_runV (As := [.int y2_1]) (rest := []) ⟨hx, hb, hml, hown, hts⟩ (c_X2_spanLength l dC dI cI cJ cZ a2 a2_place a2_price a2_trackAside a2_side a2_stands a2_mastPeg H.size v2_count v2_masts f2_place f2_mastPeg y2_1 _ hw) (cwV 1 hts gX7_shortOne_X2_spanLength rfl rfl rfl (by decide +kernel) ⟨Nat.le_of_ble_eq_true rfl, Nat.le_of_ble_eq_true rfl⟩) ⟨fun a U g mk q => by obtain ⟨q0, q1, qP, qK, qD⟩ := q; exact ⟨q0, q1, qP, va_K.moved (u := U) (U := U.calling g mk a) (Vm.Alike.refl U.vm) qK, qD⟩, va_recv hK hP (ci := 2) (q0 := 4) rfl rfl, fun U hU hW => ⟨rfl, by rw [hU], by rw [hU]; exact hPc, va_K.moved hW.alike hK, hDc.weaken (fun _ _ _ _ => trivial)⟩⟩ rfl rfl hl.1 rfl (lv_room (Nat.le_of_ble_eq_true rfl)) dX7_shortOne_18 ⟨(Nat.zero_le _), (Nat.zero_le _)⟩) hS (fun q _ h => hFc q h) hFc (fun r3 u t H1 locs ht hvm hw hB hz1 hk1 hS => ?_)
        obtain ⟨hP1, -, hD1⟩ := hB
        try dsimp only at hw
        rw [ht] at hP1
        obtain ⟨hP, hD⟩ := va_join (wr := [(a7, .inr (7, [.ref a6, .ref a2, .ref a5, .ref a4, .ref a0, .ref a1, .ref a3])), (a0, .inr (0, [.int v0_tension, .int v0_own, .int v0_droppers, .int v0_load, .int v0_hang]))]) (w1 := [(a2, .inr (2, [.int v2_count, .int v2_masts, .ref a2_place, .ref a2_price, .ref a2_trackAside, .ref a2_side, .ref a2_stands, .ref a2_mastPeg])), (a2_place, .inl (cI, 40, .inl f2_place)), (a2_mastPeg, .inl (cI, 40, .inl f2_mastPeg))]) hP hD [4, 1, 2] [0, 3] rfl rfl (by decide) (by decide) hk1 hFc hP1 hD1
        generalize H1 = H at hP hS ⊢
        have hP : va_P (dC, dI) vwCl [(a7, .inr (7, [.ref a6, .ref a2, .ref a5, .ref a4, .ref a0, .ref a1, .ref a3])), (a0, .inr (0, [.int v0_tension, .int v0_own, .int v0_droppers, .int v0_load, .int v0_hang])), (a2, .inr (2, [.int v2_count, .int v2_masts, .ref a2_place, .ref a2_price, .ref a2_trackAside, .ref a2_side, .ref a2_stands, .ref a2_mastPeg])), (a2_place, .inl (cI, 40, .inl f2_place)), (a2_mastPeg, .inl (cI, 40, .inl f2_mastPeg))] H := hP
        have hD : va_D A [(a7, .inr (7, [.ref a6, .ref a2, .ref a5, .ref a4, .ref a0, .ref a1, .ref a3])), (a0, .inr (0, [.int v0_tension, .int v0_own, .int v0_droppers, .int v0_load, .int v0_hang])), (a2, .inr (2, [.int v2_count, .int v2_masts, .ref a2_place, .ref a2_price, .ref a2_trackAside, .ref a2_side, .ref a2_stands, .ref a2_mastPeg])), (a2_place, .inl (cI, 40, .inl f2_place)), (a2_mastPeg, .inl (cI, 40, .inl f2_mastPeg))] := hD
        refine lv_istore_n (lv' := [(2, .int r3), (0, .ref a7), (1, .int y2_1)]) hx hb dX7_shortOne_21 rfl hl (by decide) rfl (fun ls hl => ?_)
        refine lv_iconst (v := (0 : Int32)) hx hb dX7_shortOne_22 (by decide) ?_
        refine lv_istore_n (lv' := [(3, .int (0 : Int32)), (2, .int r3), (0, .ref a7), (1, .int y2_1)]) hx hb dX7_shortOne_23 rfl hl (by decide) rfl (fun ls hl => ?_)
        obtain ⟨n_24, hw⟩ := hw
        exact k_24 n_24 y2_1 r3 (0 : Int32) _ _ _ (hP.sub [0, 2, 3, 4, 1] rfl) (hD.sub [0, 2, 3, 4, 1] (by decide) rfl) hS (lv_sub hl [2, 3, 1, 0] rfl) hw
  have hl := lv_entry ([.ref a7]) (n := 4) (Nat.le_of_ble_eq_true rfl)
  rw [lg_entry_eq]
  generalize (lg_sl ([.ref a7]) ++ List.replicate (4 - (lg_sl ([.ref a7])).length) Slot.unset).toArray = ls at hl ⊢
  have hl : lv_has ls 4 [(0, .ref a7)] := hl
  obtain ⟨H, hHe⟩ : ∃ H, H = s.heap := ⟨_, rfl⟩
  rw [← hHe] at hP
  have hS : va_S A s.heap H [] := by rw [hHe]; exact hS
  rw [← hHe]
  unfold wp_X7_shortOne at hw
  refine lv_iconst (v := (0 : Int32)) hx hb dX7_shortOne_0 (by decide) ?_
  refine lv_istore_n (lv' := [(1, .int (0 : Int32)), (0, .ref a7)]) hx hb dX7_shortOne_1 rfl hl (by decide) rfl (fun ls hl => ?_)
  obtain ⟨n_2, hw⟩ := hw
  exact k_2 n_2 (0 : Int32) _ _ _ (hP.sub [0, 1, 2, 3, 4] rfl) (hD.sub [0, 1, 2, 3, 4] (by decide) rfl) hS (lv_sub hl [1, 0] rfl) hw

def wp_X7_heat (Q : Int64 → Prop) (p1 : Int32) (p2 : Int32) (p3 : Int32) : Prop :=
  (wp_X7_within (fun r1 => ((r1 = 0 → (Q (-1000000000000002 : Int64) )) ∧ (¬ r1 = 0 → (wp_X7_within (fun r3 => ((r3 = 0 → (Q (-1000000000000002 : Int64) )) ∧ (¬ r3 = 0 → (wp_X7_within (fun r5 => ((r5 = 0 → (Q (-1000000000000002 : Int64) )) ∧ (¬ r5 = 0 → (wp_X7_part (fun r7 => (Q r7 )) ((p1.toInt64 * (p2 - (10 : Int32)).toInt64) * (17 : Int64)) (10000 : Int64) p3)))) p3 (0 : Int32) (1 : Int32))))) p2 (-40 : Int32) (80 : Int32))))) p1 (0 : Int32) (8000 : Int32))
set_option maxHeartbeats 4000000 in
set_option maxRecDepth 100000 in
theorem c_X7_heat (l : Launch) (dC : Nat → ClassId) (dI : Nat → Nat → Nat) (cI cJ cZ : ClassId) (a7 : Nat) (sz : Nat) (p1 : Int32) (p2 : Int32) (p3 : Int32) (Q : Int64 → Prop) (hw : wp_X7_heat Q  p1 p2 p3) : Met l yX7_heat wsX7_heat ({ frames := 2, cells := 0, slots := 0, locals := 52 } : Room) (va_Pc [.ref a7, .int p1, .int p2, .int p3] (fun U => U.heap.size = sz ∧ va_P (dC, dI) vwCl [] U.heap ∧ va_K (dC, dI) vwCl [(cI, .int), (cJ, .long), (cZ, .boolean)] U ∧ va_D (fun _ => True) [])) (va_Ql (fun r (u : Unit) => Q r) (fun (u : Unit) t => va_P (dC, dI) vwCl [] t.heap ∧ va_K (dC, dI) vwCl [(cI, .int), (cJ, .long), (cZ, .boolean)] t ∧ va_D (va_A [] sz) []) (va_A [] sz)) 0 0 (va_A [] sz) := by
  refine Met.ofW (cc := cX7_heat) (maxL := 4) (ret := (some .long)) (by decide) rfl ?_
  intro p e s m args below meth c s₁ B hml hv
  obtain ⟨rfl, hsz, hP, hK, hD0⟩ := hv
  have hx := B.exec
  have hb := B.bytes
  have hr := B.returns
  have hts := atoms_spec (ws := wsX7_heat) B.pre
  have hown : s.vm.findClass RX7 = some m.cls := findClass_of_methodNamed B.named
  have hlocks := B.notSynchronized
  subst hsz
  have hD := hD0.self (sz := s.heap.size)
  generalize hAe : va_A [] s.heap.size = A at hD ⊢
  have hA : ∀ q : Nat, s.heap.size ≤ q → A q := fun q h => by rw [← hAe]; exact Or.inr h
  have hS : va_S A s.heap s.heap [] := va_S.rf
  have hP : va_P (dC, dI) vwCl [] s.heap := hP
  have lk1 := hts (.constantLong RX7 145 (-1000000000000002)) (by decide +kernel)
  have lk2 := hts (.constantLong RX7 227 (17)) (by decide +kernel)
  have lk3 := hts (.constantLong RX7 229 (10000)) (by decide +kernel)
  have hl := lv_entry ([.ref a7, .int p1, .int p2, .int p3]) (n := 4) (Nat.le_of_ble_eq_true rfl)
  rw [lg_entry_eq]
  generalize (lg_sl ([.ref a7, .int p1, .int p2, .int p3]) ++ List.replicate (4 - (lg_sl ([.ref a7, .int p1, .int p2, .int p3])).length) Slot.unset).toArray = ls at hl ⊢
  have hl : lv_has ls 4 [(0, .ref a7), (1, .int p1), (2, .int p2), (3, .int p3)] := hl
  obtain ⟨H, hHe⟩ : ∃ H, H = s.heap := ⟨_, rfl⟩
  rw [← hHe] at hP
  have hS : va_S A s.heap H [] := by rw [hHe]; exact hS
  rw [← hHe]
  unfold wp_X7_heat at hw
  refine lv_iload_n hx hb dX7_heat_0 rfl (lv_at hl 1 rfl) ?_
  refine lv_iconst (v := (0 : Int32)) hx hb dX7_heat_1 (by decide) ?_
  refine lv_sipush (v := (8000 : Int32)) hx hb dX7_heat_2 (by decide) ?_
  have hPc := hP.sub (ws' := []) [] rfl
  have hDc := hD.sub (ws' := []) [] (by decide) rfl
  have hFc := va_free (wc := []) hD hS hA [] rfl
  refine va_calli (va_runS (As := [.int p1, .int (0 : Int32), .int (8000 : Int32)]) (rest := []) ⟨hx, hb, hml, hown, hts⟩ (c_X7_within l dC dI cI cJ cZ H.size p1 (0 : Int32) (8000 : Int32) _ hw) (va_cwS 3 hts gX7_heat_X7_within rfl rfl rfl (by decide +kernel) ⟨Nat.le_of_ble_eq_true rfl, Nat.le_of_ble_eq_true rfl⟩) ⟨fun a U g mk q => by obtain ⟨q0, q1, qP, qK, qD⟩ := q; exact ⟨q0, q1, qP, va_K.moved (u := U) (U := U.calling g mk a) (Vm.Alike.refl U.vm) qK, qD⟩, fun U hU hW => ⟨rfl, by rw [hU], by rw [hU]; exact hPc, va_K.moved hW.alike hK, hDc.weaken (fun _ _ _ _ => trivial)⟩⟩ rfl rfl hl.1 rfl (lv_room (Nat.le_of_ble_eq_true rfl)) dX7_heat_5 ⟨(Nat.zero_le _), (Nat.zero_le _)⟩) hS (fun q _ h => hFc q h) hFc (fun r1 u t H1 locs ht hvm hw hB hz1 hk1 hS => ?_)
  obtain ⟨hP1, -, hD1⟩ := hB
  try dsimp only at hw
  rw [ht] at hP1
  obtain ⟨hP, hD⟩ := va_join (wr := []) (w1 := []) hP hD [] [] rfl rfl (by decide) (by decide) hk1 hFc hP1 hD1
  generalize H1 = H at hP hS ⊢
  have hP : va_P (dC, dI) vwCl [] H := hP
  have hD : va_D A [] := hD
  refine lv_if_eq (tgt := 31) hx hb dX7_heat_8 (by decide) (fun c2 => ?_) (fun c2 => ?_)
  · replace hw := hw.1 (c2)
    refine lv_ldc2 (v := (-1000000000000002 : Int64)) hx hb hown lk1 dX7_heat_31 ?_
    have hP9 := hP.sub (ws' := []) [] rfl
    have hD9 := hD.sub (ws' := []) [] (by decide) rfl
    exact W.lret (v := (-1000000000000002 : Int64)) hx hb hr (fun t ht hW => ⟨⟨(-1000000000000002 : Int64), (), rfl, hw, by rw [ht]; exact hP9, va_K.moved hW.alike hK, hD9⟩, hS.F ht⟩) hS.2.2 dX7_heat_34
  · replace hw := hw.2 (c2)
    refine lv_iload_n hx hb dX7_heat_11 rfl (lv_at hl 2 rfl) ?_
    refine lv_bipush (v := (-40 : Int32)) hx hb dX7_heat_12 (by decide) ?_
    refine lv_bipush (v := (80 : Int32)) hx hb dX7_heat_14 (by decide) ?_
    have hPc := hP.sub (ws' := []) [] rfl
    have hDc := hD.sub (ws' := []) [] (by decide) rfl
    have hFc := va_free (wc := []) hD hS hA [] rfl
    refine va_calli (va_runS (As := [.int p2, .int (-40 : Int32), .int (80 : Int32)]) (rest := []) ⟨hx, hb, hml, hown, hts⟩ (c_X7_within l dC dI cI cJ cZ H.size p2 (-40 : Int32) (80 : Int32) _ hw) (va_cwS 3 hts gX7_heat_X7_within rfl rfl rfl (by decide +kernel) ⟨Nat.le_of_ble_eq_true rfl, Nat.le_of_ble_eq_true rfl⟩) ⟨fun a U g mk q => by obtain ⟨q0, q1, qP, qK, qD⟩ := q; exact ⟨q0, q1, qP, va_K.moved (u := U) (U := U.calling g mk a) (Vm.Alike.refl U.vm) qK, qD⟩, fun U hU hW => ⟨rfl, by rw [hU], by rw [hU]; exact hPc, va_K.moved hW.alike hK, hDc.weaken (fun _ _ _ _ => trivial)⟩⟩ rfl rfl hl.1 rfl (lv_room (Nat.le_of_ble_eq_true rfl)) dX7_heat_16 ⟨(Nat.zero_le _), (Nat.zero_le _)⟩) hS (fun q _ h => hFc q h) hFc (fun r3 u t H1 locs ht hvm hw hB hz1 hk1 hS => ?_)
    obtain ⟨hP1, -, hD1⟩ := hB
    try dsimp only at hw
    rw [ht] at hP1
    obtain ⟨hP, hD⟩ := va_join (wr := []) (w1 := []) hP hD [] [] rfl rfl (by decide) (by decide) hk1 hFc hP1 hD1
    generalize H1 = H at hP hS ⊢
    have hP : va_P (dC, dI) vwCl [] H := hP
    have hD : va_D A [] := hD
    refine lv_if_eq (tgt := 31) hx hb dX7_heat_19 (by decide) (fun c4 => ?_) (fun c4 => ?_)
    · replace hw := hw.1 (c4)
      refine lv_ldc2 (v := (-1000000000000002 : Int64)) hx hb hown lk1 dX7_heat_31 ?_
      have hP9 := hP.sub (ws' := []) [] rfl
      have hD9 := hD.sub (ws' := []) [] (by decide) rfl
      exact W.lret (v := (-1000000000000002 : Int64)) hx hb hr (fun t ht hW => ⟨⟨(-1000000000000002 : Int64), (), rfl, hw, by rw [ht]; exact hP9, va_K.moved hW.alike hK, hD9⟩, hS.F ht⟩) hS.2.2 dX7_heat_34
    · replace hw := hw.2 (c4)
      refine lv_iload_n hx hb dX7_heat_22 rfl (lv_at hl 3 rfl) ?_
      refine lv_iconst (v := (0 : Int32)) hx hb dX7_heat_23 (by decide) ?_
      refine lv_iconst (v := (1 : Int32)) hx hb dX7_heat_24 (by decide) ?_
      have hPc := hP.sub (ws' := []) [] rfl
      have hDc := hD.sub (ws' := []) [] (by decide) rfl
      have hFc := va_free (wc := []) hD hS hA [] rfl
      refine va_calli (va_runS (As := [.int p3, .int (0 : Int32), .int (1 : Int32)]) (rest := []) ⟨hx, hb, hml, hown, hts⟩ (c_X7_within l dC dI cI cJ cZ H.size p3 (0 : Int32) (1 : Int32) _ hw) (va_cwS 3 hts gX7_heat_X7_within rfl rfl rfl (by decide +kernel) ⟨Nat.le_of_ble_eq_true rfl, Nat.le_of_ble_eq_true rfl⟩) ⟨fun a U g mk q => by obtain ⟨q0, q1, qP, qK, qD⟩ := q; exact ⟨q0, q1, qP, va_K.moved (u := U) (U := U.calling g mk a) (Vm.Alike.refl U.vm) qK, qD⟩, fun U hU hW => ⟨rfl, by rw [hU], by rw [hU]; exact hPc, va_K.moved hW.alike hK, hDc.weaken (fun _ _ _ _ => trivial)⟩⟩ rfl rfl hl.1 rfl (lv_room (Nat.le_of_ble_eq_true rfl)) dX7_heat_25 ⟨(Nat.zero_le _), (Nat.zero_le _)⟩) hS (fun q _ h => hFc q h) hFc (fun r5 u t H1 locs ht hvm hw hB hz1 hk1 hS => ?_)
      obtain ⟨hP1, -, hD1⟩ := hB
      try dsimp only at hw
      rw [ht] at hP1
      obtain ⟨hP, hD⟩ := va_join (wr := []) (w1 := []) hP hD [] [] rfl rfl (by decide) (by decide) hk1 hFc hP1 hD1
      generalize H1 = H at hP hS ⊢
      have hP : va_P (dC, dI) vwCl [] H := hP
      have hD : va_D A [] := hD
      refine lv_if_ne (tgt := 35) hx hb dX7_heat_28 (by decide) (fun c6 => ?_) (fun c6 => ?_)
      · replace hw := hw.2 (c6)
        refine lv_iload_n hx hb dX7_heat_35 rfl (lv_at hl 1 rfl) ?_
        refine lv_i2l (v := p1.toInt64) hx hb dX7_heat_36 rfl ?_
        refine lv_iload_n hx hb dX7_heat_37 rfl (lv_at hl 2 rfl) ?_
        refine lv_bipush (v := (10 : Int32)) hx hb dX7_heat_38 (by decide) ?_
        refine lv_isub hx hb dX7_heat_40 ?_
        refine lv_i2l (v := (p2 - (10 : Int32)).toInt64) hx hb dX7_heat_41 rfl ?_
        refine lv_lmul hx hb dX7_heat_42 ?_
        refine lv_ldc2 (v := (17 : Int64)) hx hb hown lk2 dX7_heat_43 ?_
        refine lv_lmul hx hb dX7_heat_46 ?_
        refine lv_ldc2 (v := (10000 : Int64)) hx hb hown lk3 dX7_heat_47 ?_
        refine lv_iload_n hx hb dX7_heat_50 rfl (lv_at hl 3 rfl) ?_
        have hPc := hP.sub (ws' := []) [] rfl
        have hDc := hD.sub (ws' := []) [] (by decide) rfl
        have hFc := va_free (wc := []) hD hS hA [] rfl
        refine va_calll (va_runS (As := [.long ((p1.toInt64 * (p2 - (10 : Int32)).toInt64) * (17 : Int64)), .long (10000 : Int64), .int p3]) (rest := []) ⟨hx, hb, hml, hown, hts⟩ (c_X7_part l dC dI cI cJ cZ H.size ((p1.toInt64 * (p2 - (10 : Int32)).toInt64) * (17 : Int64)) (10000 : Int64) p3 _ hw) (va_cwS 3 hts gX7_heat_X7_part rfl rfl rfl (by decide +kernel) ⟨Nat.le_of_ble_eq_true rfl, Nat.le_of_ble_eq_true rfl⟩) ⟨fun a U g mk q => by obtain ⟨q0, q1, qP, qK, qD⟩ := q; exact ⟨q0, q1, qP, va_K.moved (u := U) (U := U.calling g mk a) (Vm.Alike.refl U.vm) qK, qD⟩, fun U hU hW => ⟨rfl, by rw [hU], by rw [hU]; exact hPc, va_K.moved hW.alike hK, hDc.weaken (fun _ _ _ _ => trivial)⟩⟩ rfl rfl hl.1 rfl (lv_room (Nat.le_of_ble_eq_true rfl)) dX7_heat_51 ⟨(Nat.zero_le _), (Nat.zero_le _)⟩) hS (fun q _ h => hFc q h) hFc (fun r7 u t H1 locs ht hvm hw hB hz1 hk1 hS => ?_)
        obtain ⟨hP1, -, hD1⟩ := hB
        try dsimp only at hw
        rw [ht] at hP1
        obtain ⟨hP, hD⟩ := va_join (wr := []) (w1 := []) hP hD [] [] rfl rfl (by decide) (by decide) hk1 hFc hP1 hD1
        generalize H1 = H at hP hS ⊢
        have hP : va_P (dC, dI) vwCl [] H := hP
        have hD : va_D A [] := hD
        have hP9 := hP.sub (ws' := []) [] rfl
        have hD9 := hD.sub (ws' := []) [] (by decide) rfl
        exact W.lret (v := r7) hx hb hr (fun t ht hW => ⟨⟨r7, (), rfl, hw, by rw [ht]; exact hP9, va_K.moved hW.alike hK, hD9⟩, hS.F ht⟩) hS.2.2 dX7_heat_54
      · replace hw := hw.1 (c6)
        refine lv_ldc2 (v := (-1000000000000002 : Int64)) hx hb hown lk1 dX7_heat_31 ?_
        have hP9 := hP.sub (ws' := []) [] rfl
        have hD9 := hD.sub (ws' := []) [] (by decide) rfl
        exact W.lret (v := (-1000000000000002 : Int64)) hx hb hr (fun t ht hW => ⟨⟨(-1000000000000002 : Int64), (), rfl, hw, by rw [ht]; exact hP9, va_K.moved hW.alike hK, hD9⟩, hS.F ht⟩) hS.2.2 dX7_heat_34
