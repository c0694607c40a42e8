theorem inX7_bow_X7 : ∀ w ∈ wsX70, w ∈ wsX7_bow := fun _ h => List.mem_cons_of_mem _ (List.mem_append_left _ (List.mem_append_right _ h))
theorem inX7_bow_X5 : ∀ w ∈ wsX50, w ∈ wsX7_bow := fun _ h => List.mem_cons_of_mem _ (List.mem_append_right _ h)
def wb_X7_bow_65 (Q : Int32 → (Int32) → (Int32) → (Int32) → (Int32) → Prop) (v5_wind_c65 : Int32) (v5_pull_c65 : Int32) (v5_room_c65 : Int32) (v5_reach_c65 : Int32) (y65_1 : Int32) (y65_2 : Int32) (y65_3 : Int32) (y65_4 : Int32) (y65_5 : Int32) (y65_6 : Int32) (k65_0 : Int32) : Prop :=
  ((y65_6 = 0 → (Q (-2 : Int32) v5_wind_c65 v5_pull_c65 v5_room_c65 v5_reach_c65)) ∧ (¬ y65_6 = 0 → ((k65_0 = 0 → (Q (-2 : Int32) v5_wind_c65 v5_pull_c65 v5_room_c65 v5_reach_c65)) ∧ (¬ k65_0 = 0 → (wp_X7_within (fun r7 => ((r7 = 0 → (Q (-2 : Int32) v5_wind_c65 v5_pull_c65 v5_room_c65 v5_reach_c65)) ∧ (¬ r7 = 0 → (∀ x9 : Int32, x9 = ((2000 : Int32) * (y65_3 - y65_4)) → (Q (1 : Int32) y65_1 y65_2 x9 y65_5))))) y65_5 (20 : Int32) (800 : Int32))))))
def wb_X7_bow_64 (Q : Int32 → (Int32) → (Int32) → (Int32) → (Int32) → Prop) (v5_wind_c64 : Int32) (v5_pull_c64 : Int32) (v5_room_c64 : Int32) (v5_reach_c64 : Int32) (y64_1 : Int32) (y64_2 : Int32) (y64_3 : Int32) (y64_4 : Int32) (y64_5 : Int32) (y64_6 : Int32) : Prop :=
  (wb_X7_bow_65 Q  v5_wind_c64 v5_pull_c64 v5_room_c64 v5_reach_c64 y64_1 y64_2 y64_3 y64_4 y64_5 y64_6 (0 : Int32))
def wb_X7_bow_29 (Q : Int32 → (Int32) → (Int32) → (Int32) → (Int32) → Prop) (v5_wind_c29 : Int32) (v5_pull_c29 : Int32) (v5_room_c29 : Int32) (v5_reach_c29 : Int32) (y29_1 : Int32) (y29_2 : Int32) (y29_3 : Int32) (y29_4 : Int32) (y29_5 : Int32) (k29_0 : Int32) : Prop :=
  (wp_X7_within (fun r3 => ((r3 = 0 → (wb_X7_bow_64 Q  v5_wind_c29 v5_pull_c29 v5_room_c29 v5_reach_c29 y29_1 y29_2 y29_3 y29_4 y29_5 k29_0)) ∧ (¬ r3 = 0 → (wp_X7_within (fun r10 => ((r10 = 0 → (wb_X7_bow_64 Q  v5_wind_c29 v5_pull_c29 v5_room_c29 v5_reach_c29 y29_1 y29_2 y29_3 y29_4 y29_5 k29_0)) ∧ (¬ r10 = 0 → ((y29_3 ≤ y29_4 → (wb_X7_bow_64 Q  v5_wind_c29 v5_pull_c29 v5_room_c29 v5_reach_c29 y29_1 y29_2 y29_3 y29_4 y29_5 k29_0)) ∧ (¬ y29_3 ≤ y29_4 → (wb_X7_bow_65 Q  v5_wind_c29 v5_pull_c29 v5_room_c29 v5_reach_c29 y29_1 y29_2 y29_3 y29_4 y29_5 k29_0 (1 : Int32))))))) y29_4 (0 : Int32) (99 : Int32))))) y29_3 (100 : Int32) (1000 : Int32))
def wb_X7_bow_28 (Q : Int32 → (Int32) → (Int32) → (Int32) → (Int32) → Prop) (v5_wind_c28 : Int32) (v5_pull_c28 : Int32) (v5_room_c28 : Int32) (v5_reach_c28 : Int32) (y28_1 : Int32) (y28_2 : Int32) (y28_3 : Int32) (y28_4 : Int32) (y28_5 : Int32) : Prop :=
  (wb_X7_bow_29 Q  v5_wind_c28 v5_pull_c28 v5_room_c28 v5_reach_c28 y28_1 y28_2 y28_3 y28_4 y28_5 (0 : Int32))
def wp_X7_bow (Q : Int32 → (Int32) → (Int32) → (Int32) → (Int32) → Prop) (v5_wind : Int32) (v5_pull : Int32) (v5_room : Int32) (v5_reach : Int32) (p1 : Int32) (p2 : Int32) (p3 : Int32) (p4 : Int32) (p5 : Int32) : Prop :=
  (wp_X7_within (fun r1 => ((r1 = 0 → (wb_X7_bow_28 Q  v5_wind v5_pull v5_room v5_reach p1 p2 p3 p4 p5)) ∧ (¬ r1 = 0 → (wp_X7_within (fun r13 => ((r13 = 0 → (wb_X7_bow_28 Q  v5_wind v5_pull v5_room v5_reach p1 p2 p3 p4 p5)) ∧ (¬ r13 = 0 → (wb_X7_bow_29 Q  v5_wind v5_pull v5_room v5_reach p1 p2 p3 p4 p5 (1 : Int32))))) p2 (1000 : Int32) (20000 : Int32))))) p1 (0 : Int32) (500 : Int32))
set_option maxHeartbeats 4000000 in
set_option maxRecDepth 100000 in
theorem c_X7_bow (l : Launch) (dC : Nat → ClassId) (dI : Nat → Nat → Nat) (cI cJ cZ : ClassId) (a7 : Nat) (a6 : Nat) (a2 : Nat) (a5 : Nat) (a4 : Nat) (a0 : Nat) (a1 : Nat) (a3 : Nat) (sz : Nat) (v5_wind : Int32) (v5_pull : Int32) (v5_room : Int32) (v5_reach : Int32) (p1 : Int32) (p2 : Int32) (p3 : Int32) (p4 : Int32) (p5 : Int32) (Q : Int32 → (Int32) → (Int32) → (Int32) → (Int32) → Prop) (hw : wp_X7_bow Q v5_wind v5_pull v5_room v5_reach p1 p2 p3 p4 p5) : Met l yX7_bow wsX7_bow ({ frames := 1, cells := 0, slots := 0, locals := 22 } : Room) (va_Pc [.ref a7, .int p1, .int p2, .int p3, .int p4, .int p5] (fun U => U.heap.size = sz ∧ va_P (dC, dI) vwCl [(a7, .inr (7, [.ref a6, .ref a2, .ref a5, .ref a4, .ref a0, .ref a1, .ref a3])), (a5, .inr (5, [.int v5_wind, .int v5_pull, .int v5_room, .int v5_reach]))] U.heap ∧ va_K (dC, dI) vwCl [(cI, .int), (cJ, .long), (cZ, .boolean)] U ∧ va_D (fun _ => True) [(a7, .inr (7, [.ref a6, .ref a2, .ref a5, .ref a4, .ref a0, .ref a1, .ref a3])), (a5, .inr (5, [.int v5_wind, .int v5_pull, .int v5_room, .int v5_reach]))])) (va_Qi (fun r (u : (Int32) × (Int32) × (Int32) × (Int32)) => Q r u.1 u.2.1 u.2.2.1 u.2.2.2) (fun (u : (Int32) × (Int32) × (Int32) × (Int32)) t => va_P (dC, dI) vwCl [(a7, .inr (7, [.ref a6, .ref a2, .ref a5, .ref a4, .ref a0, .ref a1, .ref a3])), (a5, .inr (5, [.int u.1, .int u.2.1, .int u.2.2.1, .int u.2.2.2]))] t.heap ∧ va_K (dC, dI) vwCl [(cI, .int), (cJ, .long), (cZ, .boolean)] t ∧ va_D (va_A [(a7, .inr (7, [.ref a6, .ref a2, .ref a5, .ref a4, .ref a0, .ref a1, .ref a3])), (a5, .inr (5, [.int v5_wind, .int v5_pull, .int v5_room, .int v5_reach]))] sz) [(a7, .inr (7, [.ref a6, .ref a2, .ref a5, .ref a4, .ref a0, .ref a1, .ref a3])), (a5, .inr (5, [.int u.1, .int u.2.1, .int u.2.2.1, .int u.2.2.2]))]) (va_A [(a7, .inr (7, [.ref a6, .ref a2, .ref a5, .ref a4, .ref a0, .ref a1, .ref a3])), (a5, .inr (5, [.int v5_wind, .int v5_pull, .int v5_room, .int v5_reach]))] sz)) 0 0 (va_A [(a7, .inr (7, [.ref a6, .ref a2, .ref a5, .ref a4, .ref a0, .ref a1, .ref a3])), (a5, .inr (5, [.int v5_wind, .int v5_pull, .int v5_room, .int v5_reach]))] sz) := by
  refine Met.ofW (cc := cX7_bow) (maxL := 8) (ret := (some .int)) (by decide) rfl ?_
  intro p e s m args below meth c s₁ B hml hv
  obtain ⟨rfl, hsz, hP, hK, hD0⟩ := hv
  have hx := B.exec
  have hb := B.bytes
  have hr := B.returns
  have hts := atoms_spec (ws := wsX7_bow) B.pre
  have hown : s.vm.findClass RX7 = some m.cls := findClass_of_methodNamed B.named
  have hlocks := B.notSynchronized
  subst hsz
  have hD := hD0.self (sz := s.heap.size)
  generalize hAe : va_A [(a7, .inr (7, [.ref a6, .ref a2, .ref a5, .ref a4, .ref a0, .ref a1, .ref a3])), (a5, .inr (5, [.int v5_wind, .int v5_pull, .int v5_room, .int v5_reach]))] s.heap.size = A at hD ⊢
  have hA : ∀ q : Nat, s.heap.size ≤ q → A q := fun q h => by rw [← hAe]; exact Or.inr h
  have hS : va_S A s.heap s.heap [] := va_S.rf
  have hP : va_P (dC, dI) vwCl [(a7, .inr (7, [.ref a6, .ref a2, .ref a5, .ref a4, .ref a0, .ref a1, .ref a3])), (a5, .inr (5, [.int v5_wind, .int v5_pull, .int v5_room, .int v5_reach]))] s.heap := hP
  have lk1 := hts (.fieldLink RX7 26 "WireRow" "sweep" "LWireRow$Sweep;") (by decide +kernel)
  have lk2 := hts (.fieldLink RX7 130 "WireRow$Sweep" "wind" "I") (by decide +kernel)
  have lk3 := hts (.fieldLink RX7 133 "WireRow$Sweep" "pull" "I") (by decide +kernel)
  have lk4 := hts (.fieldLink RX7 136 "WireRow$Sweep" "room" "I") (by decide +kernel)
  have lk5 := hts (.fieldLink RX7 139 "WireRow$Sweep" "reach" "I") (by decide +kernel)
  have k_65 : ∀  (v5_wind_c65 : Int32) (v5_pull_c65 : Int32) (v5_room_c65 : Int32) (v5_reach_c65 : Int32) (y65_1 : Int32) (y65_2 : Int32) (y65_3 : Int32) (y65_4 : Int32) (y65_5 : Int32) (y65_6 : Int32) (k65_0 : Int32) (H : Heap) (locs : List Loc) (ls : Array Slot), va_P (dC, dI) vwCl [(a7, .inr (7, [.ref a6, .ref a2, .ref a5, .ref a4, .ref a0, .ref a1, .ref a3])), (a5, .inr (5, [.int v5_wind_c65, .int v5_pull_c65, .int v5_room_c65, .int v5_reach_c65]))] H → va_D A [(a7, .inr (7, [.ref a6, .ref a2, .ref a5, .ref a4, .ref a0, .ref a1, .ref a3])), (a5, .inr (5, [.int v5_wind_c65, .int v5_pull_c65, .int v5_room_c65, .int v5_reach_c65]))] → va_S A s.heap H locs → lv_has ls 8 [(0, .ref a7), (1, .int y65_1), (2, .int y65_2), (3, .int y65_3), (4, .int y65_4), (5, .int y65_5), (6, .int y65_6)] → (wb_X7_bow_65 Q  v5_wind_c65 v5_pull_c65 v5_room_c65 v5_reach_c65 y65_1 y65_2 y65_3 y65_4 y65_5 y65_6 k65_0) → W p l e (headSpec wsX7_bow ({ frames := 1, cells := 0, slots := 0, locals := 22 } : Room)).room s m [.ref a7, .int p1, .int p2, .int p3, .int p4, .int p5].toArray below meth c H locs 0 0 (MQ below (va_Qi (fun r (u : (Int32) × (Int32) × (Int32) × (Int32)) => Q r u.1 u.2.1 u.2.2.1 u.2.2.2) (fun (u : (Int32) × (Int32) × (Int32) × (Int32)) t => va_P (dC, dI) vwCl [(a7, .inr (7, [.ref a6, .ref a2, .ref a5, .ref a4, .ref a0, .ref a1, .ref a3])), (a5, .inr (5, [.int u.1, .int u.2.1, .int u.2.2.1, .int u.2.2.2]))] t.heap ∧ va_K (dC, dI) vwCl [(cI, .int), (cJ, .long), (cZ, .boolean)] t ∧ va_D A [(a7, .inr (7, [.ref a6, .ref a2, .ref a5, .ref a4, .ref a0, .ref a1, .ref a3])), (a5, .inr (5, [.int u.1, .int u.2.1, .int u.2.2.1, .int u.2.2.2]))]) A) [.ref a7, .int p1, .int p2, .int p3, .int p4, .int p5].toArray s 0 0 A) (F0 m 65 ls [.int k65_0]) := by
    intro v5_wind_c65 v5_pull_c65 v5_room_c65 v5_reach_c65 y65_1 y65_2 y65_3 y65_4 y65_5 y65_6 k65_0 H locs ls hP hD hS hl hw
    unfold wb_X7_bow_65 at hw
    refine lv_istore (lv' := [(7, .int k65_0), (0, .ref a7), (1, .int y65_1), (2, .int y65_2), (3, .int y65_3), (4, .int y65_4), (5, .int y65_5), (6, .int y65_6)]) hx hb dX7_bow_65 hl (by decide) rfl (fun ls hl => ?_)
    refine lv_iload hx hb dX7_bow_67 (lv_at hl 7 rfl) ?_
    refine lv_if_eq (tgt := 90) hx hb dX7_bow_69 (by decide) (fun c5 => ?_) (fun c5 => ?_)
    · replace hw := hw.1 (c5)
      refine lv_bipush (v := (-2 : Int32)) hx hb dX7_bow_90 (by decide) ?_
      have hP9 := hP.sub (ws' := [(a7, .inr (7, [.ref a6, .ref a2, .ref a5, .ref a4, .ref a0, .ref a1, .ref a3])), (a5, .inr (5, [.int v5_wind_c65, .int v5_pull_c65, .int v5_room_c65, .int v5_reach_c65]))]) [0, 1] rfl
      have hD9 := hD.sub (ws' := [(a7, .inr (7, [.ref a6, .ref a2, .ref a5, .ref a4, .ref a0, .ref a1, .ref a3])), (a5, .inr (5, [.int v5_wind_c65, .int v5_pull_c65, .int v5_room_c65, .int v5_reach_c65]))]) [0, 1] (by decide) rfl
      exact W.iret (v := (-2 : Int32)) hx hb hr (fun t ht hW => ⟨⟨(-2 : Int32), (v5_wind_c65, v5_pull_c65, v5_room_c65, v5_reach_c65), rfl, hw, by rw [ht]; exact hP9, va_K.moved hW.alike hK, hD9⟩, hS.F ht⟩) hS.2.2 dX7_bow_92
    · replace hw := hw.2 (c5)
      refine lv_iload hx hb dX7_bow_72 (lv_at hl 0 rfl) ?_
      refine lv_if_eq (tgt := 90) hx hb dX7_bow_74 (by decide) (fun c6 => ?_) (fun c6 => ?_)
      · replace hw := hw.1 (c6)
        refine lv_bipush (v := (-2 : Int32)) hx hb dX7_bow_90 (by decide) ?_
        have hP9 := hP.sub (ws' := [(a7, .inr (7, [.ref a6, .ref a2, .ref a5, .ref a4, .ref a0, .ref a1, .ref a3])), (a5, .inr (5, [.int v5_wind_c65, .int v5_pull_c65, .int v5_room_c65, .int v5_reach_c65]))]) [0, 1] rfl
        have hD9 := hD.sub (ws' := [(a7, .inr (7, [.ref a6, .ref a2, .ref a5, .ref a4, .ref a0, .ref a1, .ref a3])), (a5, .inr (5, [.int v5_wind_c65, .int v5_pull_c65, .int v5_room_c65, .int v5_reach_c65]))]) [0, 1] (by decide) rfl
        exact W.iret (v := (-2 : Int32)) hx hb hr (fun t ht hW => ⟨⟨(-2 : Int32), (v5_wind_c65, v5_pull_c65, v5_room_c65, v5_reach_c65), rfl, hw, by rw [ht]; exact hP9, va_K.moved hW.alike hK, hD9⟩, hS.F ht⟩) hS.2.2 dX7_bow_92
      · replace hw := hw.2 (c6)
        refine lv_iload hx hb dX7_bow_77 (lv_at hl 6 rfl) ?_
        refine lv_bipush (v := (20 : Int32)) hx hb dX7_bow_79 (by decide) ?_
        refine lv_sipush (v := (800 : Int32)) hx hb dX7_bow_81 (by decide) ?_
        have hPc := hP.sub (ws' := []) [] rfl
        have hDc := hD.sub (ws' := []) [] (by decide) rfl
        have hFc := va_free (wc := []) hD hS hA [] rfl
        refine va_calli (va_runS (As := [.int y65_5, .int (20 : Int32), .int (800 : Int32)]) (rest := []) ⟨hx, hb, hml, hown, hts⟩ (c_X7_within l dC dI cI cJ cZ H.size y65_5 (20 : Int32) (800 : Int32) _ hw) (va_cwS 3 hts gX7_bow_X7_within rfl rfl rfl (by decide +kernel) ⟨Nat.le_of_ble_eq_true rfl, Nat.le_of_ble_eq_true rfl⟩) ⟨fun a U g mk q => by obtain ⟨q0, q1, qP, qK, qD⟩ := q; exact ⟨q0, q1, qP, va_K.moved (u := U) (U := U.calling g mk a) (Vm.Alike.refl U.vm) qK, qD⟩, fun U hU hW => ⟨rfl, by rw [hU], by rw [hU]; exact hPc, va_K.moved hW.alike hK, hDc.weaken (fun _ _ _ _ => trivial)⟩⟩ rfl rfl hl.1 rfl (lv_room (Nat.le_of_ble_eq_true rfl)) dX7_bow_84 ⟨(Nat.zero_le _), (Nat.zero_le _)⟩) hS (fun q _ h => hFc q h) hFc (fun r7 u t H1 locs ht hvm hw hB hz1 hk1 hS => ?_)
        obtain ⟨hP1, -, hD1⟩ := hB
        try dsimp only at hw
        rw [ht] at hP1
        obtain ⟨hP, hD⟩ := va_join (wr := [(a7, .inr (7, [.ref a6, .ref a2, .ref a5, .ref a4, .ref a0, .ref a1, .ref a3])), (a5, .inr (5, [.int v5_wind_c65, .int v5_pull_c65, .int v5_room_c65, .int v5_reach_c65]))]) (w1 := []) hP hD [] [0, 1] rfl rfl (by decide) (by decide) hk1 hFc hP1 hD1
        generalize H1 = H at hP hS ⊢
        have hP : va_P (dC, dI) vwCl [(a7, .inr (7, [.ref a6, .ref a2, .ref a5, .ref a4, .ref a0, .ref a1, .ref a3])), (a5, .inr (5, [.int v5_wind_c65, .int v5_pull_c65, .int v5_room_c65, .int v5_reach_c65]))] H := hP
        have hD : va_D A [(a7, .inr (7, [.ref a6, .ref a2, .ref a5, .ref a4, .ref a0, .ref a1, .ref a3])), (a5, .inr (5, [.int v5_wind_c65, .int v5_pull_c65, .int v5_room_c65, .int v5_reach_c65]))] := hD
        refine lv_if_ne (tgt := 93) hx hb dX7_bow_87 (by decide) (fun c8 => ?_) (fun c8 => ?_)
        · replace hw := hw.2 (c8)
          refine lv_aload_n hx hb dX7_bow_93 rfl (lv_at hl 1 rfl) ?_
          refine va_get (D := (dC, dI)) (ci := 7) (v := .ref a5) (C := RX7) (T := TX7) (N := 7) hx hb hts inX7_bow_X7 hown hK hP 0 rfl rfl 2 (by decide) lk1 (fun _ h9 => h9) rfl dX7_bow_94 ?_
          refine lv_iload_n hx hb dX7_bow_97 rfl (lv_at hl 2 rfl) ?_
          refine va_put (D := (dC, dI)) (ci := 5) (v := .int y65_1) (ty := .int) (C := RX5) (T := TX5) (N := 4) hx hb hts inX7_bow_X5 tyX5 tyX5_ok nmX5 hown hK hP hD hS 1 rfl rfl 0 (by decide) lk2 (fun _ h9 => h9) rfl (by decide +kernel) rfl rfl (Nat.le_of_ble_eq_true rfl) dX7_bow_98 (fun H locs hP hD hS => ?_)
          have hP : va_P (dC, dI) vwCl [(a7, .inr (7, [.ref a6, .ref a2, .ref a5, .ref a4, .ref a0, .ref a1, .ref a3])), (a5, .inr (5, [.int y65_1, .int v5_pull_c65, .int v5_room_c65, .int v5_reach_c65]))] H := hP
          have hD : va_D A [(a7, .inr (7, [.ref a6, .ref a2, .ref a5, .ref a4, .ref a0, .ref a1, .ref a3])), (a5, .inr (5, [.int y65_1, .int v5_pull_c65, .int v5_room_c65, .int v5_reach_c65]))] := hD
          refine lv_aload_n hx hb dX7_bow_101 rfl (lv_at hl 1 rfl) ?_
          refine va_get (D := (dC, dI)) (ci := 7) (v := .ref a5) (C := RX7) (T := TX7) (N := 7) hx hb hts inX7_bow_X7 hown hK hP 0 rfl rfl 2 (by decide) lk1 (fun _ h9 => h9) rfl dX7_bow_102 ?_
          refine lv_iload_n hx hb dX7_bow_105 rfl (lv_at hl 3 rfl) ?_
          refine va_put (D := (dC, dI)) (ci := 5) (v := .int y65_2) (ty := .int) (C := RX5) (T := TX5) (N := 4) hx hb hts inX7_bow_X5 tyX5 tyX5_ok nmX5 hown hK hP hD hS 1 rfl rfl 1 (by decide) lk3 (fun _ h9 => h9) rfl (by decide +kernel) rfl rfl (Nat.le_of_ble_eq_true rfl) dX7_bow_106 (fun H locs hP hD hS => ?_)
          have hP : va_P (dC, dI) vwCl [(a7, .inr (7, [.ref a6, .ref a2, .ref a5, .ref a4, .ref a0, .ref a1, .ref a3])), (a5, .inr (5, [.int y65_1, .int y65_2, .int v5_room_c65, .int v5_reach_c65]))] H := hP
          have hD : va_D A [(a7, .inr (7, [.ref a6, .ref a2, .ref a5, .ref a4, .ref a0, .ref a1, .ref a3])), (a5, .inr (5, [.int y65_1, .int y65_2, .int v5_room_c65, .int v5_reach_c65]))] := hD
          refine lv_aload_n hx hb dX7_bow_109 rfl (lv_at hl 1 rfl) ?_
          refine va_get (D := (dC, dI)) (ci := 7) (v := .ref a5) (C := RX7) (T := TX7) (N := 7) hx hb hts inX7_bow_X7 hown hK hP 0 rfl rfl 2 (by decide) lk1 (fun _ h9 => h9) rfl dX7_bow_110 ?_
          refine lv_sipush (v := (2000 : Int32)) hx hb dX7_bow_113 (by decide) ?_
          refine lv_iload_n hx hb dX7_bow_116 rfl (lv_at hl 4 rfl) ?_
          refine lv_iload hx hb dX7_bow_117 (lv_at hl 5 rfl) ?_
          refine lv_isub hx hb dX7_bow_119 ?_
          refine lv_imul hx hb dX7_bow_120 ?_
          refine lv_topi (fun x9 ex9 => ?_)
          replace hw := hw x9 ex9
          refine va_put (D := (dC, dI)) (ci := 5) (v := .int x9) (ty := .int) (C := RX5) (T := TX5) (N := 4) hx hb hts inX7_bow_X5 tyX5 tyX5_ok nmX5 hown hK hP hD hS 1 rfl rfl 2 (by decide) lk4 (fun _ h9 => h9) rfl (by decide +kernel) rfl rfl (Nat.le_of_ble_eq_true rfl) dX7_bow_121 (fun H locs hP hD hS => ?_)
          have hP : va_P (dC, dI) vwCl [(a7, .inr (7, [.ref a6, .ref a2, .ref a5, .ref a4, .ref a0, .ref a1, .ref a3])), (a5, .inr (5, [.int y65_1, .int y65_2, .int x9, .int v5_reach_c65]))] H := hP
          have hD : va_D A [(a7, .inr (7, [.ref a6, .ref a2, .ref a5, .ref a4, .ref a0, .ref a1, .ref a3])), (a5, .inr (5, [.int y65_1, .int y65_2, .int x9, .int v5_reach_c65]))] := hD
          refine lv_aload_n hx hb dX7_bow_124 rfl (lv_at hl 1 rfl) ?_
          refine va_get (D := (dC, dI)) (ci := 7) (v := .ref a5) (C := RX7) (T := TX7) (N := 7) hx hb hts inX7_bow_X7 hown hK hP 0 rfl rfl 2 (by decide) lk1 (fun _ h9 => h9) rfl dX7_bow_125 ?_
          refine lv_iload hx hb dX7_bow_128 (lv_at hl 6 rfl) ?_
          refine va_put (D := (dC, dI)) (ci := 5) (v := .int y65_5) (ty := .int) (C := RX5) (T := TX5) (N := 4) hx hb hts inX7_bow_X5 tyX5 tyX5_ok nmX5 hown hK hP hD hS 1 rfl rfl 3 (by decide) lk5 (fun _ h9 => h9) rfl (by decide +kernel) rfl rfl (Nat.le_of_ble_eq_true rfl) dX7_bow_130 (fun H locs hP hD hS => ?_)
          have hP : va_P (dC, dI) vwCl [(a7, .inr (7, [.ref a6, .ref a2, .ref a5, .ref a4, .ref a0, .ref a1, .ref a3])), (a5, .inr (5, [.int y65_1, .int y65_2, .int x9, .int y65_5]))] H := hP
          have hD : va_D A [(a7, .inr (7, [.ref a6, .ref a2, .ref a5, .ref a4, .ref a0, .ref a1, .ref a3])), (a5, .inr (5, [.int y65_1, .int y65_2, .int x9, .int y65_5]))] := hD
          refine lv_iconst (v := (1 : Int32)) hx hb dX7_bow_133 (by decide) ?_
          have hP9 := hP.sub (ws' := [(a7, .inr (7, [.ref a6, .ref a2, .ref a5, .ref a4, .ref a0, .ref a1, .ref a3])), (a5, .inr (5, [.int y65_1, .int y65_2, .int x9, .int y65_5]))]) [0, 1] rfl
          have hD9 := hD.sub (ws' := [(a7, .inr (7, [.ref a6, .ref a2, .ref a5, .ref a4, .ref a0, .ref a1, .ref a3])), (a5, .inr (5, [.int y65_1, .int y65_2, .int x9, .int y65_5]))]) [0, 1] (by decide) rfl
          exact W.iret (v := (1 : Int32)) hx hb hr (fun t ht hW => ⟨⟨(1 : Int32), (y65_1, y65_2, x9, y65_5), rfl, hw, by rw [ht]; exact hP9, va_K.moved hW.alike hK, hD9⟩, hS.F ht⟩) hS.2.2 dX7_bow_134
        · replace hw := hw.1 (c8)
          refine lv_bipush (v := (-2 : Int32)) hx hb dX7_bow_90 (by decide) ?_
          have hP9 := hP.sub (ws' := [(a7, .inr (7, [.ref a6, .ref a2, .ref a5, .ref a4, .ref a0, .ref a1, .ref a3])), (a5, .inr (5, [.int v5_wind_c65, .int v5_pull_c65, .int v5_room_c65, .int v5_reach_c65]))]) [0, 1] rfl
          have hD9 := hD.sub (ws' := [(a7, .inr (7, [.ref a6, .ref a2, .ref a5, .ref a4, .ref a0, .ref a1, .ref a3])), (a5, .inr (5, [.int v5_wind_c65, .int v5_pull_c65, .int v5_room_c65, .int v5_reach_c65]))]) [0, 1] (by decide) rfl
          exact W.iret (v := (-2 : Int32)) hx hb hr (fun t ht hW => ⟨⟨(-2 : Int32), (v5_wind_c65, v5_pull_c65, v5_room_c65, v5_reach_c65), rfl, hw, by rw [ht]; exact hP9, va_K.moved hW.alike hK, hD9⟩, hS.F ht⟩) hS.2.2 dX7_bow_92
  have k_64 : ∀  (v5_wind_c64 : Int32) (v5_pull_c64 : Int32) (v5_room_c64 : Int32) (v5_reach_c64 : Int32) (y64_1 : Int32) (y64_2 : Int32) (y64_3 : Int32) (y64_4 : Int32) (y64_5 : Int32) (y64_6 : Int32) (H : Heap) (locs : List Loc) (ls : Array Slot), va_P (dC, dI) vwCl [(a7, .inr (7, [.ref a6, .ref a2, .ref a5, .ref a4, .ref a0, .ref a1, .ref a3])), (a5, .inr (5, [.int v5_wind_c64, .int v5_pull_c64, .int v5_room_c64, .int v5_reach_c64]))] H → va_D A [(a7, .inr (7, [.ref a6, .ref a2, .ref a5, .ref a4, .ref a0, .ref a1, .ref a3])), (a5, .inr (5, [.int v5_wind_c64, .int v5_pull_c64, .int v5_room_c64, .int v5_reach_c64]))] → va_S A s.heap H locs → lv_has ls 8 [(0, .ref a7), (1, .int y64_1), (2, .int y64_2), (3, .int y64_3), (4, .int y64_4), (5, .int y64_5), (6, .int y64_6)] → (wb_X7_bow_64 Q  v5_wind_c64 v5_pull_c64 v5_room_c64 v5_reach_c64 y64_1 y64_2 y64_3 y64_4 y64_5 y64_6) → W p l e (headSpec wsX7_bow ({ frames := 1, cells := 0, slots := 0, locals := 22 } : Room)).room s m [.ref a7, .int p1, .int p2, .int p3, .int p4, .int p5].toArray below meth c H locs 0 0 (MQ below (va_Qi (fun r (u : (Int32) × (Int32) × (Int32) × (Int32)) => Q r u.1 u.2.1 u.2.2.1 u.2.2.2) (fun (u : (Int32) × (Int32) × (Int32) × (Int32)) t => va_P (dC, dI) vwCl [(a7, .inr (7, [.ref a6, .ref a2, .ref a5, .ref a4, .ref a0, .ref a1, .ref a3])), (a5, .inr (5, [.int u.1, .int u.2.1, .int u.2.2.1, .int u.2.2.2]))] t.heap ∧ va_K (dC, dI) vwCl [(cI, .int), (cJ, .long), (cZ, .boolean)] t ∧ va_D A [(a7, .inr (7, [.ref a6, .ref a2, .ref a5, .ref a4, .ref a0, .ref a1, .ref a3])), (a5, .inr (5, [.int u.1, .int u.2.1, .int u.2.2.1, .int u.2.2.2]))]) A) [.ref a7, .int p1, .int p2, .int p3, .int p4, .int p5].toArray s 0 0 A) (F0 m 64 ls []) := by
    intro v5_wind_c64 v5_pull_c64 v5_room_c64 v5_reach_c64 y64_1 y64_2 y64_3 y64_4 y64_5 y64_6 H locs ls hP hD hS hl hw
    unfold wb_X7_bow_64 at hw
    refine lv_iconst (v := (0 : Int32)) hx hb dX7_bow_64 (by decide) ?_
    exact k_65 v5_wind_c64 v5_pull_c64 v5_room_c64 v5_reach_c64 y64_1 y64_2 y64_3 y64_4 y64_5 y64_6 (0 : Int32) _ _ _ (hP.sub [0, 1] rfl) (hD.sub [0, 1] (by decide) rfl) hS (lv_sub hl [0, 1, 2, 3, 4, 5, 6] rfl) hw
  have k_29 : ∀  (v5_wind_c29 : Int32) (v5_pull_c29 : Int32) (v5_room_c29 : Int32) (v5_reach_c29 : Int32) (y29_1 : Int32) (y29_2 : Int32) (y29_3 : Int32) (y29_4 : Int32) (y29_5 : Int32) (k29_0 : Int32) (H : Heap) (locs : List Loc) (ls : Array Slot), va_P (dC, dI) vwCl [(a7, .inr (7, [.ref a6, .ref a2, .ref a5, .ref a4, .ref a0, .ref a1, .ref a3])), (a5, .inr (5, [.int v5_wind_c29, .int v5_pull_c29, .int v5_room_c29, .int v5_reach_c29]))] H → va_D A [(a7, .inr (7, [.ref a6, .ref a2, .ref a5, .ref a4, .ref a0, .ref a1, .ref a3])), (a5, .inr (5, [.int v5_wind_c29, .int v5_pull_c29, .int v5_room_c29, .int v5_reach_c29]))] → va_S A s.heap H locs → lv_has ls 8 [(0, .ref a7), (1, .int y29_1), (2, .int y29_2), (3, .int y29_3), (4, .int y29_4), (5, .int y29_5)] → (wb_X7_bow_29 Q  v5_wind_c29 v5_pull_c29 v5_room_c29 v5_reach_c29 y29_1 y29_2 y29_3 y29_4 y29_5 k29_0) → W p l e (headSpec wsX7_bow ({ frames := 1, cells := 0, slots := 0, locals := 22 } : Room)).room s m [.ref a7, .int p1, .int p2, .int p3, .int p4, .int p5].toArray below meth c H locs 0 0 (MQ below (va_Qi (fun r (u : (Int32) × (Int32) × (Int32) × (Int32)) => Q r u.1 u.2.1 u.2.2.1 u.2.2.2) (fun (u : (Int32) × (Int32) × (Int32) × (Int32)) t => va_P (dC, dI) vwCl [(a7, .inr (7, [.ref a6, .ref a2, .ref a5, .ref a4, .ref a0, .ref a1, .ref a3])), (a5, .inr (5, [.int u.1, .int u.2.1, .int u.2.2.1, .int u.2.2.2]))] t.heap ∧ va_K (dC, dI) vwCl [(cI, .int), (cJ, .long), (cZ, .boolean)] t ∧ va_D A [(a7, .inr (7, [.ref a6, .ref a2, .ref a5, .ref a4, .ref a0, .ref a1, .ref a3])), (a5, .inr (5, [.int u.1, .int u.2.1, .int u.2.2.1, .int u.2.2.2]))]) A) [.ref a7, .int p1, .int p2, .int p3, .int p4, .int p5].toArray s 0 0 A) (F0 m 29 ls [.int k29_0]) := by
    intro v5_wind_c29 v5_pull_c29 v5_room_c29 v5_reach_c29 y29_1 y29_2 y29_3 y29_4 y29_5 k29_0 H locs ls hP hD hS hl hw
    unfold wb_X7_bow_29 at hw
    refine lv_istore (lv' := [(6, .int k29_0), (0, .ref a7), (1, .int y29_1), (2, .int y29_2), (3, .int y29_3), (4, .int y29_4), (5, .int y29_5)]) hx hb dX7_bow_29 hl (by decide) rfl (fun ls hl => ?_)
    refine lv_iload_n hx hb dX7_bow_31 rfl (lv_at hl 4 rfl) ?_
    refine lv_bipush (v := (100 : Int32)) hx hb dX7_bow_32 (by decide) ?_
    refine lv_sipush (v := (1000 : Int32)) hx hb dX7_bow_34 (by decide) ?_
    have hPc := hP.sub (ws' := []) [] rfl
    have hDc := hD.sub (ws' := []) [] (by decide) rfl
    have hFc := va_free (wc := []) hD hS hA [] rfl
    refine va_calli (va_runS (As := [.int y29_3, .int (100 : Int32), .int (1000 : Int32)]) (rest := []) ⟨hx, hb, hml, hown, hts⟩ (c_X7_within l dC dI cI cJ cZ H.size y29_3 (100 : Int32) (1000 : Int32) _ hw) (va_cwS 3 hts gX7_bow_X7_within rfl rfl rfl (by decide +kernel) ⟨Nat.le_of_ble_eq_true rfl, Nat.le_of_ble_eq_true rfl⟩) ⟨fun a U g mk q => by obtain ⟨q0, q1, qP, qK, qD⟩ := q; exact ⟨q0, q1, qP, va_K.moved (u := U) (U := U.calling g mk a) (Vm.Alike.refl U.vm) qK, qD⟩, fun U hU hW => ⟨rfl, by rw [hU], by rw [hU]; exact hPc, va_K.moved hW.alike hK, hDc.weaken (fun _ _ _ _ => trivial)⟩⟩ rfl rfl hl.1 rfl (lv_room (Nat.le_of_ble_eq_true rfl)) dX7_bow_37 ⟨(Nat.zero_le _), (Nat.zero_le _)⟩) hS (fun q _ h => hFc q h) hFc (fun r3 u t H1 locs ht hvm hw hB hz1 hk1 hS => ?_)
    obtain ⟨hP1, -, hD1⟩ := hB
    try dsimp only at hw
    rw [ht] at hP1
    obtain ⟨hP, hD⟩ := va_join (wr := [(a7, .inr (7, [.ref a6, .ref a2, .ref a5, .ref a4, .ref a0, .ref a1, .ref a3])), (a5, .inr (5, [.int v5_wind_c29, .int v5_pull_c29, .int v5_room_c29, .int v5_reach_c29]))]) (w1 := []) hP hD [] [0, 1] rfl rfl (by decide) (by decide) hk1 hFc hP1 hD1
    generalize H1 = H at hP hS ⊢
    have hP : va_P (dC, dI) vwCl [(a7, .inr (7, [.ref a6, .ref a2, .ref a5, .ref a4, .ref a0, .ref a1, .ref a3])), (a5, .inr (5, [.int v5_wind_c29, .int v5_pull_c29, .int v5_room_c29, .int v5_reach_c29]))] H := hP
    have hD : va_D A [(a7, .inr (7, [.ref a6, .ref a2, .ref a5, .ref a4, .ref a0, .ref a1, .ref a3])), (a5, .inr (5, [.int v5_wind_c29, .int v5_pull_c29, .int v5_room_c29, .int v5_reach_c29]))] := hD
    refine lv_if_eq (tgt := 64) hx hb dX7_bow_40 (by decide) (fun c4 => ?_) (fun c4 => ?_)
    · replace hw := hw.1 (c4)
      exact k_64 v5_wind_c29 v5_pull_c29 v5_room_c29 v5_reach_c29 y29_1 y29_2 y29_3 y29_4 y29_5 k29_0 _ _ _ (hP.sub [0, 1] rfl) (hD.sub [0, 1] (by decide) rfl) hS (lv_sub hl [1, 2, 3, 4, 5, 6, 0] rfl) hw
    · replace hw := hw.2 (c4)
      refine lv_iload hx hb dX7_bow_43 (lv_at hl 5 rfl) ?_
      refine lv_iconst (v := (0 : Int32)) hx hb dX7_bow_45 (by decide) ?_
      refine lv_bipush (v := (99 : Int32)) hx hb dX7_bow_46 (by decide) ?_
      have hPc := hP.sub (ws' := []) [] rfl
      have hDc := hD.sub (ws' := []) [] (by decide) rfl
      have hFc := va_free (wc := []) hD hS hA [] rfl
      refine va_calli (va_runS (As := [.int y29_4, .int (0 : Int32), .int (99 : Int32)]) (rest := []) ⟨hx, hb, hml, hown, hts⟩ (c_X7_within l dC dI cI cJ cZ H.size y29_4 (0 : Int32) (99 : Int32) _ hw) (va_cwS 3 hts gX7_bow_X7_within rfl rfl rfl (by decide +kernel) ⟨Nat.le_of_ble_eq_true rfl, Nat.le_of_ble_eq_true rfl⟩) ⟨fun a U g mk q => by obtain ⟨q0, q1, qP, qK, qD⟩ := q; exact ⟨q0, q1, qP, va_K.moved (u := U) (U := U.calling g mk a) (Vm.Alike.refl U.vm) qK, qD⟩, fun U hU hW => ⟨rfl, by rw [hU], by rw [hU]; exact hPc, va_K.moved hW.alike hK, hDc.weaken (fun _ _ _ _ => trivial)⟩⟩ rfl rfl hl.1 rfl (lv_room (Nat.le_of_ble_eq_true rfl)) dX7_bow_48 ⟨(Nat.zero_le _), (Nat.zero_le _)⟩) hS (fun q _ h => hFc q h) hFc (fun r10 u t H1 locs ht hvm hw hB hz1 hk1 hS => ?_)
      obtain ⟨hP1, -, hD1⟩ := hB
      try dsimp only at hw
      rw [ht] at hP1
      obtain ⟨hP, hD⟩ := va_join (wr := [(a7, .inr (7, [.ref a6, .ref a2, .ref a5, .ref a4, .ref a0, .ref a1, .ref a3])), (a5, .inr (5, [.int v5_wind_c29, .int v5_pull_c29, .int v5_room_c29, .int v5_reach_c29]))]) (w1 := []) hP hD [] [0, 1] rfl rfl (by decide) (by decide) hk1 hFc hP1 hD1
      generalize H1 = H at hP hS ⊢
      have hP : va_P (dC, dI) vwCl [(a7, .inr (7, [.ref a6, .ref a2, .ref a5, .ref a4, .ref a0, .ref a1, .ref a3])), (a5, .inr (5, [.int v5_wind_c29, .int v5_pull_c29, .int v5_room_c29, .int v5_reach_c29]))] H := hP
      have hD : va_D A [(a7, .inr (7, [.ref a6, .ref a2, .ref a5, .ref a4, .ref a0, .ref a1, .ref a3])), (a5, .inr (5, [.int v5_wind_c29, .int v5_pull_c29, .int v5_room_c29, .int v5_reach_c29]))] := hD
      refine lv_if_eq (tgt := 64) hx hb dX7_bow_51 (by decide) (fun c11 => ?_) (fun c11 => ?_)
      · replace hw := hw.1 (c11)
        exact k_64 v5_wind_c29 v5_pull_c29 v5_room_c29 v5_reach_c29 y29_1 y29_2 y29_3 y29_4 y29_5 k29_0 _ _ _ (hP.sub [0, 1] rfl) (hD.sub [0, 1] (by decide) rfl) hS (lv_sub hl [1, 2, 3, 4, 5, 6, 0] rfl) hw
      · replace hw := hw.2 (c11)
        refine lv_iload hx hb dX7_bow_54 (lv_at hl 5 rfl) ?_
        refine lv_iload_n hx hb dX7_bow_56 rfl (lv_at hl 4 rfl) ?_
        refine lv_icmp_ge (tgt := 64) hx hb dX7_bow_57 (by decide) (fun c12 => ?_) (fun c12 => ?_)
        · replace hw := hw.1 (c12)
          exact k_64 v5_wind_c29 v5_pull_c29 v5_room_c29 v5_reach_c29 y29_1 y29_2 y29_3 y29_4 y29_5 k29_0 _ _ _ (hP.sub [0, 1] rfl) (hD.sub [0, 1] (by decide) rfl) hS (lv_sub hl [1, 2, 3, 4, 5, 6, 0] rfl) hw
        · replace hw := hw.2 (c12)
          refine lv_iconst (v := (1 : Int32)) hx hb dX7_bow_60 (by decide) ?_
          refine lv_goto (tgt := 65) hx hb dX7_bow_61 (by decide) ?_
          exact k_65 v5_wind_c29 v5_pull_c29 v5_room_c29 v5_reach_c29 y29_1 y29_2 y29_3 y29_4 y29_5 k29_0 (1 : Int32) _ _ _ (hP.sub [0, 1] rfl) (hD.sub [0, 1] (by decide) rfl) hS (lv_sub hl [1, 2, 3, 4, 5, 6, 0] rfl) hw
  have k_28 : ∀  (v5_wind_c28 : Int32) (v5_pull_c28 : Int32) (v5_room_c28 : Int32) (v5_reach_c28 : Int32) (y28_1 : Int32) (y28_2 : Int32) (y28_3 : Int32) (y28_4 : Int32) (y28_5 : Int32) (H : Heap) (locs : List Loc) (ls : Array Slot), va_P (dC, dI) vwCl [(a7, .inr (7, [.ref a6, .ref a2, .ref a5, .ref a4, .ref a0, .ref a1, .ref a3])), (a5, .inr (5, [.int v5_wind_c28, .int v5_pull_c28, .int v5_room_c28, .int v5_reach_c28]))] H → va_D A [(a7, .inr (7, [.ref a6, .ref a2, .ref a5, .ref a4, .ref a0, .ref a1, .ref a3])), (a5, .inr (5, [.int v5_wind_c28, .int v5_pull_c28, .int v5_room_c28, .int v5_reach_c28]))] → va_S A s.heap H locs → lv_has ls 8 [(0, .ref a7), (1, .int y28_1), (2, .int y28_2), (3, .int y28_3), (4, .int y28_4), (5, .int y28_5)] → (wb_X7_bow_28 Q  v5_wind_c28 v5_pull_c28 v5_room_c28 v5_reach_c28 y28_1 y28_2 y28_3 y28_4 y28_5) → W p l e (headSpec wsX7_bow ({ frames := 1, cells := 0, slots := 0, locals := 22 } : Room)).room s m [.ref a7, .int p1, .int p2, .int p3, .int p4, .int p5].toArray below meth c H locs 0 0 (MQ below (va_Qi (fun r (u : (Int32) × (Int32) × (Int32) × (Int32)) => Q r u.1 u.2.1 u.2.2.1 u.2.2.2) (fun (u : (Int32) × (Int32) × (Int32) × (Int32)) t => va_P (dC, dI) vwCl [(a7, .inr (7, [.ref a6, .ref a2, .ref a5, .ref a4, .ref a0, .ref a1, .ref a3])), (a5, .inr (5, [.int u.1, .int u.2.1, .int u.2.2.1, .int u.2.2.2]))] t.heap ∧ va_K (dC, dI) vwCl [(cI, .int), (cJ, .long), (cZ, .boolean)] t ∧ va_D A [(a7, .inr (7, [.ref a6, .ref a2, .ref a5, .ref a4, .ref a0, .ref a1, .ref a3])), (a5, .inr (5, [.int u.1, .int u.2.1, .int u.2.2.1, .int u.2.2.2]))]) A) [.ref a7, .int p1, .int p2, .int p3, .int p4, .int p5].toArray s 0 0 A) (F0 m 28 ls []) := by
    intro v5_wind_c28 v5_pull_c28 v5_room_c28 v5_reach_c28 y28_1 y28_2 y28_3 y28_4 y28_5 H locs ls hP hD hS hl hw
    unfold wb_X7_bow_28 at hw
    refine lv_iconst (v := (0 : Int32)) hx hb dX7_bow_28 (by decide) ?_
    exact k_29 v5_wind_c28 v5_pull_c28 v5_room_c28 v5_reach_c28 y28_1 y28_2 y28_3 y28_4 y28_5 (0 : Int32) _ _ _ (hP.sub [0, 1] rfl) (hD.sub [0, 1] (by decide) rfl) hS (lv_sub hl [0, 1, 2, 3, 4, 5] rfl) hw
  have hl := lv_entry ([.ref a7, .int p1, .int p2, .int p3, .int p4, .int p5]) (n := 8) (Nat.le_of_ble_eq_true rfl)
  rw [lg_entry_eq]
  generalize (lg_sl ([.ref a7, .int p1, .int p2, .int p3, .int p4, .int p5]) ++ List.replicate (8 - (lg_sl ([.ref a7, .int p1, .int p2, .int p3, .int p4, .int p5])).length) Slot.unset).toArray = ls at hl ⊢
  have hl : lv_has ls 8 [(0, .ref a7), (1, .int p1), (2, .int p2), (3, .int p3), (4, .int p4), (5, .int p5)] := hl
  obtain ⟨H, hHe⟩ : ∃ H, H = s.heap := ⟨_, rfl⟩
  rw [← hHe] at hP
  have hS : va_S A s.heap H [] := by rw [hHe]; exact hS
  rw [← hHe]
  unfold wp_X7_bow at hw
  refine lv_iload_n hx hb dX7_bow_0 rfl (lv_at hl 1 rfl) ?_
  refine lv_iconst (v := (0 : Int32)) hx hb dX7_bow_1 (by decide) ?_
  refine lv_sipush (v := (500 : Int32)) hx hb dX7_bow_2 (by decide) ?_
  have hPc := hP.sub (ws' := []) [] rfl
  have hDc := hD.sub (ws' := []) [] (by decide) rfl
  have hFc := va_free (wc := []) hD hS hA [] rfl
  refine va_calli (va_runS (As := [.int p1, .int (0 : Int32), .int (500 : Int32)]) (rest := []) ⟨hx, hb, hml, hown, hts⟩ (c_X7_within l dC dI cI cJ cZ H.size p1 (0 : Int32) (500 : Int32) _ hw) (va_cwS 3 hts gX7_bow_X7_within rfl rfl rfl (by decide +kernel) ⟨Nat.le_of_ble_eq_true rfl, Nat.le_of_ble_eq_true rfl⟩) ⟨fun a U g mk q => by obtain ⟨q0, q1, qP, qK, qD⟩ := q; exact ⟨q0, q1, qP, va_K.moved (u := U) (U := U.calling g mk a) (Vm.Alike.refl U.vm) qK, qD⟩, fun U hU hW => ⟨rfl, by rw [hU], by rw [hU]; exact hPc, va_K.moved hW.alike hK, hDc.weaken (fun _ _ _ _ => trivial)⟩⟩ rfl rfl hl.1 rfl (lv_room (Nat.le_of_ble_eq_true rfl)) dX7_bow_5 ⟨(Nat.zero_le _), (Nat.zero_le _)⟩) hS (fun q _ h => hFc q h) hFc (fun r1 u t H1 locs ht hvm hw hB hz1 hk1 hS => ?_)
  obtain ⟨hP1, -, hD1⟩ := hB
  try dsimp only at hw
  rw [ht] at hP1
  obtain ⟨hP, hD⟩ := va_join (wr := [(a7, .inr (7, [.ref a6, .ref a2, .ref a5, .ref a4, .ref a0, .ref a1, .ref a3])), (a5, .inr (5, [.int v5_wind, .int v5_pull, .int v5_room, .int v5_reach]))]) (w1 := []) hP hD [] [0, 1] rfl rfl (by decide) (by decide) hk1 hFc hP1 hD1
  generalize H1 = H at hP hS ⊢
  have hP : va_P (dC, dI) vwCl [(a7, .inr (7, [.ref a6, .ref a2, .ref a5, .ref a4, .ref a0, .ref a1, .ref a3])), (a5, .inr (5, [.int v5_wind, .int v5_pull, .int v5_room, .int v5_reach]))] H := hP
  have hD : va_D A [(a7, .inr (7, [.ref a6, .ref a2, .ref a5, .ref a4, .ref a0, .ref a1, .ref a3])), (a5, .inr (5, [.int v5_wind, .int v5_pull, .int v5_room, .int v5_reach]))] := hD
  refine lv_if_eq (tgt := 28) hx hb dX7_bow_8 (by decide) (fun c2 => ?_) (fun c2 => ?_)
  · replace hw := hw.1 (c2)
    exact k_28 v5_wind v5_pull v5_room v5_reach p1 p2 p3 p4 p5 _ _ _ (hP.sub [0, 1] rfl) (hD.sub [0, 1] (by decide) rfl) hS (lv_sub hl [0, 1, 2, 3, 4, 5] rfl) hw
  · replace hw := hw.2 (c2)
    refine lv_iload_n hx hb dX7_bow_11 rfl (lv_at hl 2 rfl) ?_
    refine lv_sipush (v := (1000 : Int32)) hx hb dX7_bow_12 (by decide) ?_
    refine lv_sipush (v := (20000 : Int32)) hx hb dX7_bow_15 (by decide) ?_
    have hPc := hP.sub (ws' := []) [] rfl
    have hDc := hD.sub (ws' := []) [] (by decide) rfl
    have hFc := va_free (wc := []) hD hS hA [] rfl
    refine va_calli (va_runS (As := [.int p2, .int (1000 : Int32), .int (20000 : Int32)]) (rest := []) ⟨hx, hb, hml, hown, hts⟩ (c_X7_within l dC dI cI cJ cZ H.size p2 (1000 : Int32) (20000 : Int32) _ hw) (va_cwS 3 hts gX7_bow_X7_within rfl rfl rfl (by decide +kernel) ⟨Nat.le_of_ble_eq_true rfl, Nat.le_of_ble_eq_true rfl⟩) ⟨fun a U g mk q => by obtain ⟨q0, q1, qP, qK, qD⟩ := q; exact ⟨q0, q1, qP, va_K.moved (u := U) (U := U.calling g mk a) (Vm.Alike.refl U.vm) qK, qD⟩, fun U hU hW => ⟨rfl, by rw [hU], by rw [hU]; exact hPc, va_K.moved hW.alike hK, hDc.weaken (fun _ _ _ _ => trivial)⟩⟩ rfl rfl hl.1 rfl (lv_room (Nat.le_of_ble_eq_true rfl)) dX7_bow_18 ⟨(Nat.zero_le _), (Nat.zero_le _)⟩) hS (fun q _ h => hFc q h) hFc (fun r13 u t H1 locs ht hvm hw hB hz1 hk1 hS => ?_)
    obtain ⟨hP1, -, hD1⟩ := hB
    try dsimp only at hw
    rw [ht] at hP1
    obtain ⟨hP, hD⟩ := va_join (wr := [(a7, .inr (7, [.ref a6, .ref a2, .ref a5, .ref a4, .ref a0, .ref a1, .ref a3])), (a5, .inr (5, [.int v5_wind, .int v5_pull, .int v5_room, .int v5_reach]))]) (w1 := []) hP hD [] [0, 1] rfl rfl (by decide) (by decide) hk1 hFc hP1 hD1
    generalize H1 = H at hP hS ⊢
    have hP : va_P (dC, dI) vwCl [(a7, .inr (7, [.ref a6, .ref a2, .ref a5, .ref a4, .ref a0, .ref a1, .ref a3])), (a5, .inr (5, [.int v5_wind, .int v5_pull, .int v5_room, .int v5_reach]))] H := hP
    have hD : va_D A [(a7, .inr (7, [.ref a6, .ref a2, .ref a5, .ref a4, .ref a0, .ref a1, .ref a3])), (a5, .inr (5, [.int v5_wind, .int v5_pull, .int v5_room, .int v5_reach]))] := hD
    refine lv_if_eq (tgt := 28) hx hb dX7_bow_21 (by decide) (fun c14 => ?_) (fun c14 => ?_)
    · replace hw := hw.1 (c14)
      exact k_28 v5_wind v5_pull v5_room v5_reach p1 p2 p3 p4 p5 _ _ _ (hP.sub [0, 1] rfl) (hD.sub [0, 1] (by decide) rfl) hS (lv_sub hl [0, 1, 2, 3, 4, 5] rfl) hw
    · replace hw := hw.2 (c14)
      refine lv_iconst (v := (1 : Int32)) hx hb dX7_bow_24 (by decide) ?_
      refine lv_goto (tgt := 29) hx hb dX7_bow_25 (by decide) ?_
      exact k_29 v5_wind v5_pull v5_room v5_reach p1 p2 p3 p4 p5 (1 : Int32) _ _ _ (hP.sub [0, 1] rfl) (hD.sub [0, 1] (by decide) rfl) hS (lv_sub hl [0, 1, 2, 3, 4, 5] rfl) hw

theorem inX7_laySpan_X7 : ∀ w ∈ wsX70, w ∈ wsX7_laySpan := fun _ h => List.mem_cons_of_mem _ (List.mem_append_left _ (List.mem_append_left _ (List.mem_append_right _ h)))
theorem inX7_laySpan_X2 : ∀ w ∈ wsX20, w ∈ wsX7_laySpan := fun _ h => List.mem_cons_of_mem _ (List.mem_append_left _ (List.mem_append_right _ h))
theorem inX7_laySpan_X4 : ∀ w ∈ wsX40, w ∈ wsX7_laySpan := fun _ h => List.mem_cons_of_mem _ (List.mem_append_right _ h)
def wp_X7_laySpan (Q : (Int32) → (Int32) → (Int64) → (Int64) → Prop) (f2_place : Nat → Int32) (f2_trackAside : Nat → Int64) (f2_side : Nat → Int32) (f2_mastPeg : Nat → Int32) (v4_begin : Int32) (v4_end : Int32) (v4_wireAtBegin : Int64) (v4_wireAtEnd : Int64) (p1 : Int32) : Prop :=
  (vp_in p1 40 ∧ (∀ x2 : Int32, x2 = (f2_mastPeg p1.toNatClampNeg) → (vp_in (p1 + (1 : Int32)) 40 ∧ (∀ x4 : Int32, x4 = (f2_mastPeg (p1 + (1 : Int32)).toNatClampNeg) → (vp_in x2 40 ∧ (vp_in x4 40 ∧ (wp_X4_lay (fun m8 m9 m10 m11 => (Q m8 m9 m10 m11)) f2_place f2_trackAside v4_begin v4_end v4_wireAtBegin v4_wireAtEnd x2 (f2_side x2.toNatClampNeg) x4 (f2_side x4.toNatClampNeg))))))))
set_option maxHeartbeats 4000000 in
set_option maxRecDepth 100000 in
theorem c_X7_laySpan (l : Launch) (dC : Nat → ClassId) (dI : Nat → Nat → Nat) (cI cJ cZ : ClassId) (a7 : Nat) (a6 : Nat) (a2 : Nat) (a2_place : Nat) (a2_price : Nat) (a2_trackAside : Nat) (a2_side : Nat) (a2_stands : Nat) (a2_mastPeg : Nat) (a5 : Nat) (a4 : Nat) (a0 : Nat) (a1 : Nat) (a3 : Nat) (sz : Nat) (v2_count : Int32) (v2_masts : Int32) (f2_place : Nat → Int32) (f2_trackAside : Nat → Int64) (f2_side : Nat → Int32) (f2_mastPeg : Nat → Int32) (v4_begin : Int32) (v4_end : Int32) (v4_wireAtBegin : Int64) (v4_wireAtEnd : Int64) (p1 : Int32) (Q : (Int32) → (Int32) → (Int64) → (Int64) → Prop) (hw : wp_X7_laySpan Q f2_place f2_trackAside f2_side f2_mastPeg v4_begin v4_end v4_wireAtBegin v4_wireAtEnd p1) : Met l yX7_laySpan wsX7_laySpan ({ frames := 1, cells := 0, slots := 0, locals := 24 } : Room) (va_Pc [.ref a7, .int p1] (fun U => U.heap.size = sz ∧ va_P (dC, dI) vwCl [(a7, .inr (7, [.ref a6, .ref a2, .ref a5, .ref a4, .ref a0, .ref a1, .ref a3])), (a2, .inr (2, [.int v2_count, .int v2_masts, .ref a2_place, .ref a2_price, .ref a2_trackAside, .ref a2_side, .ref a2_stands, .ref a2_mastPeg])), (a2_place, .inl (cI, 40, .inl f2_place)), (a2_trackAside, .inl (cJ, 40, .inr (.inl f2_trackAside))), (a2_side, .inl (cI, 40, .inl f2_side)), (a2_mastPeg, .inl (cI, 40, .inl f2_mastPeg)), (a4, .inr (4, [.ref a6, .ref a2, .ref a5, .int v4_begin, .int v4_end, .long v4_wireAtBegin, .long v4_wireAtEnd]))] U.heap ∧ va_K (dC, dI) vwCl [(cI, .int), (cJ, .long), (cZ, .boolean)] U ∧ va_D (fun _ => True) [(a7, .inr (7, [.ref a6, .ref a2, .ref a5, .ref a4, .ref a0, .ref a1, .ref a3])), (a2, .inr (2, [.int v2_count, .int v2_masts, .ref a2_place, .ref a2_price, .ref a2_trackAside, .ref a2_side, .ref a2_stands, .ref a2_mastPeg])), (a2_place, .inl (cI, 40, .inl f2_place)), (a2_trackAside, .inl (cJ, 40, .inr (.inl f2_trackAside))), (a2_side, .inl (cI, 40, .inl f2_side)), (a2_mastPeg, .inl (cI, 40, .inl f2_mastPeg)), (a4, .inr (4, [.ref a6, .ref a2, .ref a5, .int v4_begin, .int v4_end, .long v4_wireAtBegin, .long v4_wireAtEnd]))])) (va_Qv (fun (u : (Int32) × (Int32) × (Int64) × (Int64)) => Q u.1 u.2.1 u.2.2.1 u.2.2.2) (fun (u : (Int32) × (Int32) × (Int64) × (Int64)) t => va_P (dC, dI) vwCl [(a7, .inr (7, [.ref a6, .ref a2, .ref a5, .ref a4, .ref a0, .ref a1, .ref a3])), (a2, .inr (2, [.int v2_count, .int v2_masts, .ref a2_place, .ref a2_price, .ref a2_trackAside, .ref a2_side, .ref a2_stands, .ref a2_mastPeg])), (a2_place, .inl (cI, 40, .inl f2_place)), (a2_trackAside, .inl (cJ, 40, .inr (.inl f2_trackAside))), (a2_side, .inl (cI, 40, .inl f2_side)), (a2_mastPeg, .inl (cI, 40, .inl f2_mastPeg)), (a4, .inr (4, [.ref a6, .ref a2, .ref a5, .int u.1, .int u.2.1, .long u.2.2.1, .long u.2.2.2]))] t.heap ∧ va_K (dC, dI) vwCl [(cI, .int), (cJ, .long), (cZ, .boolean)] t ∧ va_D (va_A [(a7, .inr (7, [.ref a6, .ref a2, .ref a5, .ref a4, .ref a0, .ref a1, .ref a3])), (a2, .inr (2, [.int v2_count, .int v2_masts, .ref a2_place, .ref a2_price, .ref a2_trackAside, .ref a2_side, .ref a2_stands, .ref a2_mastPeg])), (a2_place, .inl (cI, 40, .inl f2_place)), (a2_trackAside, .inl (cJ, 40, .inr (.inl f2_trackAside))), (a2_side, .inl (cI, 40, .inl f2_side)), (a2_mastPeg, .inl (cI, 40, .inl f2_mastPeg)), (a4, .inr (4, [.ref a6, .ref a2, .ref a5, .int v4_begin, .int v4_end, .long v4_wireAtBegin, .long v4_wireAtEnd]))] sz) [(a7, .inr (7, [.ref a6, .ref a2, .ref a5, .ref a4, .ref a0, .ref a1, .ref a3])), (a2, .inr (2, [.int v2_count, .int v2_masts, .ref a2_place, .ref a2_price, .ref a2_trackAside, .ref a2_side, .ref a2_stands, .ref a2_mastPeg])), (a2_place, .inl (cI, 40, .inl f2_place)), (a2_trackAside, .inl (cJ, 40, .inr (.inl f2_trackAside))), (a2_side, .inl (cI, 40, .inl f2_side)), (a2_mastPeg, .inl (cI, 40, .inl f2_mastPeg)), (a4, .inr (4, [.ref a6, .ref a2, .ref a5, .int u.1, .int u.2.1, .long u.2.2.1, .long u.2.2.2]))]) (va_A [(a7, .inr (7, [.ref a6, .ref a2, .ref a5, .ref a4, .ref a0, .ref a1, .ref a3])), (a2, .inr (2, [.int v2_count, .int v2_masts, .ref a2_place, .ref a2_price, .ref a2_trackAside, .ref a2_side, .ref a2_stands, .ref a2_mastPeg])), (a2_place, .inl (cI, 40, .inl f2_place)), (a2_trackAside, .inl (cJ, 40, .inr (.inl f2_trackAside))), (a2_side, .inl (cI, 40, .inl f2_side)), (a2_mastPeg, .inl (cI, 40, .inl f2_mastPeg)), (a4, .inr (4, [.ref a6, .ref a2, .ref a5, .int v4_begin, .int v4_end, .long v4_wireAtBegin, .long v4_wireAtEnd]))] sz)) 0 0 (va_A [(a7, .inr (7, [.ref a6, .ref a2, .ref a5, .ref a4, .ref a0, .ref a1, .ref a3])), (a2, .inr (2, [.int v2_count, .int v2_masts, .ref a2_place, .ref a2_price, .ref a2_trackAside, .ref a2_side, .ref a2_stands, .ref a2_mastPeg])), (a2_place, .inl (cI, 40, .inl f2_place)), (a2_trackAside, .inl (cJ, 40, .inr (.inl f2_trackAside))), (a2_side, .inl (cI, 40, .inl f2_side)), (a2_mastPeg, .inl (cI, 40, .inl f2_mastPeg)), (a4, .inr (4, [.ref a6, .ref a2, .ref a5, .int v4_begin, .int v4_end, .long v4_wireAtBegin, .long v4_wireAtEnd]))] sz) := by
  refine Met.ofW (cc := cX7_laySpan) (maxL := 4) (ret := none) (by decide) rfl ?_
  intro p e s m args below meth c s₁ B hml hv
  obtain ⟨rfl, hsz, hP, hK, hD0⟩ := hv
  have hx := B.exec
  have hb := B.bytes
  have hr := B.returns
  have hts := atoms_spec (ws := wsX7_laySpan) B.pre
  have hown : s.vm.findClass RX7 = some m.cls := findClass_of_methodNamed B.named
  have hlocks := B.notSynchronized
  subst hsz
  have hD := hD0.self (sz := s.heap.size)
  generalize hAe : va_A [(a7, .inr (7, [.ref a6, .ref a2, .ref a5, .ref a4, .ref a0, .ref a1, .ref a3])), (a2, .inr (2, [.int v2_count, .int v2_masts, .ref a2_place, .ref a2_price, .ref a2_trackAside, .ref a2_side, .ref a2_stands, .ref a2_mastPeg])), (a2_place, .inl (cI, 40, .inl f2_place)), (a2_trackAside, .inl (cJ, 40, .inr (.inl f2_trackAside))), (a2_side, .inl (cI, 40, .inl f2_side)), (a2_mastPeg, .inl (cI, 40, .inl f2_mastPeg)), (a4, .inr (4, [.ref a6, .ref a2, .ref a5, .int v4_begin, .int v4_end, .long v4_wireAtBegin, .long v4_wireAtEnd]))] s.heap.size = A at hD ⊢
  have hA : ∀ q : Nat, s.heap.size ≤ q → A q := fun q h => by rw [← hAe]; exact Or.inr h
  have hS : va_S A s.heap s.heap [] := va_S.rf
  have hP : va_P (dC, dI) vwCl [(a7, .inr (7, [.ref a6, .ref a2, .ref a5, .ref a4, .ref a0, .ref a1, .ref a3])), (a2, .inr (2, [.int v2_count, .int v2_masts, .ref a2_place, .ref a2_price, .ref a2_trackAside, .ref a2_side, .ref a2_stands, .ref a2_mastPeg])), (a2_place, .inl (cI, 40, .inl f2_place)), (a2_trackAside, .inl (cJ, 40, .inr (.inl f2_trackAside))), (a2_side, .inl (cI, 40, .inl f2_side)), (a2_mastPeg, .inl (cI, 40, .inl f2_mastPeg)), (a4, .inr (4, [.ref a6, .ref a2, .ref a5, .int v4_begin, .int v4_end, .long v4_wireAtBegin, .long v4_wireAtEnd]))] s.heap := hP
  have lk1 := hts (.fieldLink RX7 19 "WireRow" "pegs" "LWireRow$PegRow;") (by decide +kernel)
  have lk2 := hts (.fieldLink RX7 250 "WireRow$PegRow" "mastPeg" "[I") (by decide +kernel)
  have lk3 := hts (.fieldLink RX7 35 "WireRow" "span" "LWireRow$Span;") (by decide +kernel)
  have lk4 := hts (.fieldLink RX7 127 "WireRow$PegRow" "side" "[I") (by decide +kernel)
  have hl := lv_entry ([.ref a7, .int p1]) (n := 4) (Nat.le_of_ble_eq_true rfl)
  rw [lg_entry_eq]
  generalize (lg_sl ([.ref a7, .int p1]) ++ List.replicate (4 - (lg_sl ([.ref a7, .int p1])).length) Slot.unset).toArray = ls at hl ⊢
  have hl : lv_has ls 4 [(0, .ref a7), (1, .int p1)] := hl
  obtain ⟨H, hHe⟩ : ∃ H, H = s.heap := ⟨_, rfl⟩
  rw [← hHe] at hP
  have hS : va_S A s.heap H [] := by rw [hHe]; exact hS
  rw [← hHe]
  unfold wp_X7_laySpan at hw
  refine lv_aload_n hx hb dX7_laySpan_0 rfl (lv_at hl 0 rfl) ?_
  refine va_get (D := (dC, dI)) (ci := 7) (v := .ref a2) (C := RX7) (T := TX7) (N := 7) hx hb hts inX7_laySpan_X7 hown hK hP 0 rfl rfl 1 (by decide) lk1 (fun _ h9 => h9) rfl dX7_laySpan_1 ?_
  refine va_get (D := (dC, dI)) (ci := 2) (v := .ref a2_mastPeg) (C := RX2) (T := TX2) (N := 8) hx hb hts inX7_laySpan_X2 hown hK hP 1 rfl rfl 7 (by decide) lk2 (fun _ h9 => h9) rfl dX7_laySpan_4 ?_
  refine lv_iload_n hx hb dX7_laySpan_7 rfl (lv_at hl 1 rfl) ?_
  obtain ⟨h1, hw⟩ := hw
  refine va_iald hx hb hK hP 5 0 rfl rfl h1 dX7_laySpan_8 ?_
  refine lv_topi (fun x2 ex2 => ?_)
  replace hw := hw x2 ex2
  refine lv_istore_n (lv' := [(2, .int x2), (0, .ref a7), (1, .int p1)]) hx hb dX7_laySpan_9 rfl hl (by decide) rfl (fun ls hl => ?_)
  refine lv_aload_n hx hb dX7_laySpan_10 rfl (lv_at hl 1 rfl) ?_
  refine va_get (D := (dC, dI)) (ci := 7) (v := .ref a2) (C := RX7) (T := TX7) (N := 7) hx hb hts inX7_laySpan_X7 hown hK hP 0 rfl rfl 1 (by decide) lk1 (fun _ h9 => h9) rfl dX7_laySpan_11 ?_
  refine va_get (D := (dC, dI)) (ci := 2) (v := .ref a2_mastPeg) (C := RX2) (T := TX2) (N := 8) hx hb hts inX7_laySpan_X2 hown hK hP 1 rfl rfl 7 (by decide) lk2 (fun _ h9 => h9) rfl dX7_laySpan_14 ?_
  refine lv_iload_n hx hb dX7_laySpan_17 rfl (lv_at hl 2 rfl) ?_
  refine lv_iconst (v := (1 : Int32)) hx hb dX7_laySpan_18 (by decide) ?_
  refine lv_iadd hx hb dX7_laySpan_19 ?_
  obtain ⟨h3, hw⟩ := hw
  refine va_iald hx hb hK hP 5 0 rfl rfl h3 dX7_laySpan_20 ?_
  refine lv_topi (fun x4 ex4 => ?_)
  replace hw := hw x4 ex4
  refine lv_istore_n (lv' := [(3, .int x4), (2, .int x2), (0, .ref a7), (1, .int p1)]) hx hb dX7_laySpan_21 rfl hl (by decide) rfl (fun ls hl => ?_)
  refine lv_aload_n hx hb dX7_laySpan_22 rfl (lv_at hl 2 rfl) ?_
  refine va_get (D := (dC, dI)) (ci := 7) (v := .ref a4) (C := RX7) (T := TX7) (N := 7) hx hb hts inX7_laySpan_X7 hown hK hP 0 rfl rfl 3 (by decide) lk3 (fun _ h9 => h9) rfl dX7_laySpan_23 ?_
  refine lv_iload_n hx hb dX7_laySpan_26 rfl (lv_at hl 1 rfl) ?_
  refine lv_aload_n hx hb dX7_laySpan_27 rfl (lv_at hl 2 rfl) ?_
  refine va_get (D := (dC, dI)) (ci := 7) (v := .ref a2) (C := RX7) (T := TX7) (N := 7) hx hb hts inX7_laySpan_X7 hown hK hP 0 rfl rfl 1 (by decide) lk1 (fun _ h9 => h9) rfl dX7_laySpan_28 ?_
  refine va_get (D := (dC, dI)) (ci := 2) (v := .ref a2_side) (C := RX2) (T := TX2) (N := 8) hx hb hts inX7_laySpan_X2 hown hK hP 1 rfl rfl 5 (by decide) lk4 (fun _ h9 => h9) rfl dX7_laySpan_31 ?_
  refine lv_iload_n hx hb dX7_laySpan_34 rfl (lv_at hl 1 rfl) ?_
  obtain ⟨h5, hw⟩ := hw
  refine va_iald hx hb hK hP 4 0 rfl rfl h5 dX7_laySpan_35 ?_
  refine lv_iload_n hx hb dX7_laySpan_36 rfl (lv_at hl 0 rfl) ?_
  refine lv_aload_n hx hb dX7_laySpan_37 rfl (lv_at hl 2 rfl) ?_
  refine va_get (D := (dC, dI)) (ci := 7) (v := .ref a2) (C := RX7) (T := TX7) (N := 7) hx hb hts inX7_laySpan_X7 hown hK hP 0 rfl rfl 1 (by decide) lk1 (fun _ h9 => h9) rfl dX7_laySpan_38 ?_
  refine va_get (D := (dC, dI)) (ci := 2) (v := .ref a2_side) (C := RX2) (T := TX2) (N := 8) hx hb hts inX7_laySpan_X2 hown hK hP 1 rfl rfl 5 (by decide) lk4 (fun _ h9 => h9) rfl dX7_laySpan_41 ?_
  refine lv_iload_n hx hb dX7_laySpan_44 rfl (lv_at hl 0 rfl) ?_
  obtain ⟨h6, hw⟩ := hw
  refine va_iald hx hb hK hP 4 0 rfl rfl h6 dX7_laySpan_45 ?_
  have hPc := hP.sub (ws' := [(a2, .inr (2, [.int v2_count, .int v2_masts, .ref a2_place, .ref a2_price, .ref a2_trackAside, .ref a2_side, .ref a2_stands, .ref a2_mastPeg])), (a2_place, .inl (cI, 40, .inl f2_place)), (a2_trackAside, .inl (cJ, 40, .inr (.inl f2_trackAside))), (a4, .inr (4, [.ref a6, .ref a2, .ref a5, .int v4_begin, .int v4_end, .long v4_wireAtBegin, .long v4_wireAtEnd]))]) [1, 2, 3, 6] rfl
  have hDc := hD.sub (ws' := [(a2, .inr (2, [.int v2_count, .int v2_masts, .ref a2_place, .ref a2_price, .ref a2_trackAside, .ref a2_side, .ref a2_stands, .ref a2_mastPeg])), (a2_place, .inl (cI, 40, .inl f2_place)), (a2_trackAside, .inl (cJ, 40, .inr (.inl f2_trackAside))), (a4, .inr (4, [.ref a6, .ref a2, .ref a5, .int v4_begin, .int v4_end, .long v4_wireAtBegin, .long v4_wireAtEnd]))]) [1, 2, 3, 6] (by decide) rfl
  have hFc := va_free (wc := [(a2, .inr (2, [.int v2_count, .int v2_masts, .ref a2_place, .ref a2_price, .ref a2_trackAside, .ref a2_side, .ref a2_stands, .ref a2_mastPeg])), (a2_place, .inl (cI, 40, .inl f2_place)), (a2_trackAside, .inl (cJ, 40, .inr (.inl f2_trackAside))), (a4, .inr (4, [.ref a6, .ref a2, .ref a5, .int v4_begin, .int v4_end, .long v4_wireAtBegin, .long v4_wireAtEnd]))]) hD hS hA [1, 2, 3, 6] rfl
  refine va_callv (va_runV (As := [.int x2, .int (f2_side x2.toNatClampNeg), .int x4, .int (f2_side x4.toNatClampNeg)]) (rest := []) ⟨hx, hb, hml, hown, hts⟩ (c_X4_lay l dC dI cI cJ cZ a6 a2 a2_place a2_price a2_trackAside a2_side a2_stands a2_mastPeg a5 a4 H.size v2_count v2_masts f2_place f2_trackAside v4_begin v4_end v4_wireAtBegin v4_wireAtEnd x2 (f2_side x2.toNatClampNeg) x4 (f2_side x4.toNatClampNeg) _ hw) (cwV 4 hts gX7_laySpan_X4_lay rfl rfl rfl (by decide +kernel) ⟨Nat.le_of_ble_eq_true rfl, Nat.le_of_ble_eq_true rfl⟩) ⟨fun a U g mk q => by obtain ⟨q0, q1, qP, qK, qD⟩ := q; exact ⟨q0, q1, qP, va_K.moved (u := U) (U := U.calling g mk a) (Vm.Alike.refl U.vm) qK, qD⟩, va_recv hK hP (ci := 4) (q0 := 6) rfl rfl, fun U hU hW => ⟨rfl, by rw [hU], by rw [hU]; exact hPc, va_K.moved hW.alike hK, hDc.weaken (fun _ _ _ _ => trivial)⟩⟩ rfl rfl hl.1 rfl (lv_room (Nat.le_of_ble_eq_true rfl)) dX7_laySpan_46 ⟨(Nat.zero_le _), (Nat.zero_le _)⟩) hS (fun q _ h => hFc q h) hFc (fun u t H1 locs ht hvm hw hB hz1 hk1 hS => ?_)
  obtain ⟨m8, m9, m10, m11⟩ := u
  obtain ⟨hP1, -, hD1⟩ := hB
  try dsimp only at hw
  rw [ht] at hP1
  obtain ⟨hP, hD⟩ := va_join (wr := [(a7, .inr (7, [.ref a6, .ref a2, .ref a5, .ref a4, .ref a0, .ref a1, .ref a3])), (a2_side, .inl (cI, 40, .inl f2_side)), (a2_mastPeg, .inl (cI, 40, .inl f2_mastPeg))]) (w1 := [(a2, .inr (2, [.int v2_count, .int v2_masts, .ref a2_place, .ref a2_price, .ref a2_trackAside, .ref a2_side, .ref a2_stands, .ref a2_mastPeg])), (a2_place, .inl (cI, 40, .inl f2_place)), (a2_trackAside, .inl (cJ, 40, .inr (.inl f2_trackAside))), (a4, .inr (4, [.ref a6, .ref a2, .ref a5, .int m8, .int m9, .long m10, .long m11]))]) hP hD [1, 2, 3, 6] [0, 4, 5] rfl rfl (by decide) (by decide) hk1 hFc hP1 hD1
  generalize H1 = H at hP hS ⊢
  have hP : va_P (dC, dI) vwCl [(a7, .inr (7, [.ref a6, .ref a2, .ref a5, .ref a4, .ref a0, .ref a1, .ref a3])), (a2_side, .inl (cI, 40, .inl f2_side)), (a2_mastPeg, .inl (cI, 40, .inl f2_mastPeg)), (a2, .inr (2, [.int v2_count, .int v2_masts, .ref a2_place, .ref a2_price, .ref a2_trackAside, .ref a2_side, .ref a2_stands, .ref a2_mastPeg])), (a2_place, .inl (cI, 40, .inl f2_place)), (a2_trackAside, .inl (cJ, 40, .inr (.inl f2_trackAside))), (a4, .inr (4, [.ref a6, .ref a2, .ref a5, .int m8, .int m9, .long m10, .long m11]))] H := hP
  have hD : va_D A [(a7, .inr (7, [.ref a6, .ref a2, .ref a5, .ref a4, .ref a0, .ref a1, .ref a3])), (a2_side, .inl (cI, 40, .inl f2_side)), (a2_mastPeg, .inl (cI, 40, .inl f2_mastPeg)), (a2, .inr (2, [.int v2_count, .int v2_masts, .ref a2_place, .ref a2_price, .ref a2_trackAside, .ref a2_side, .ref a2_stands, .ref a2_mastPeg])), (a2_place, .inl (cI, 40, .inl f2_place)), (a2_trackAside, .inl (cJ, 40, .inr (.inl f2_trackAside))), (a4, .inr (4, [.ref a6, .ref a2, .ref a5, .int m8, .int m9, .long m10, .long m11]))] := hD
  have hP9 := hP.sub (ws' := [(a7, .inr (7, [.ref a6, .ref a2, .ref a5, .ref a4, .ref a0, .ref a1, .ref a3])), (a2, .inr (2, [.int v2_count, .int v2_masts, .ref a2_place, .ref a2_price, .ref a2_trackAside, .ref a2_side, .ref a2_stands, .ref a2_mastPeg])), (a2_place, .inl (cI, 40, .inl f2_place)), (a2_trackAside, .inl (cJ, 40, .inr (.inl f2_trackAside))), (a2_side, .inl (cI, 40, .inl f2_side)), (a2_mastPeg, .inl (cI, 40, .inl f2_mastPeg)), (a4, .inr (4, [.ref a6, .ref a2, .ref a5, .int m8, .int m9, .long m10, .long m11]))]) [0, 3, 4, 5, 1, 2, 6] rfl
  have hD9 := hD.sub (ws' := [(a7, .inr (7, [.ref a6, .ref a2, .ref a5, .ref a4, .ref a0, .ref a1, .ref a3])), (a2, .inr (2, [.int v2_count, .int v2_masts, .ref a2_place, .ref a2_price, .ref a2_trackAside, .ref a2_side, .ref a2_stands, .ref a2_mastPeg])), (a2_place, .inl (cI, 40, .inl f2_place)), (a2_trackAside, .inl (cJ, 40, .inr (.inl f2_trackAside))), (a2_side, .inl (cI, 40, .inl f2_side)), (a2_mastPeg, .inl (cI, 40, .inl f2_mastPeg)), (a4, .inr (4, [.ref a6, .ref a2, .ref a5, .int m8, .int m9, .long m10, .long m11]))]) [0, 3, 4, 5, 1, 2, 6] (by decide) rfl
  exact W.vret hx hb hr (fun t ht hW => ⟨⟨(m8, m9, m10, m11), rfl, hw, by rw [ht]; exact hP9, va_K.moved hW.alike hK, hD9⟩, hS.F ht⟩) hS.2.2 dX7_laySpan_49

theorem inX7_laySpanOver_X7 : ∀ w ∈ wsX70, w ∈ wsX7_laySpanOver := fun _ h => List.mem_cons_of_mem _ (List.mem_append_left _ (List.mem_append_left _ (List.mem_append_right _ h)))
theorem inX7_laySpanOver_X2 : ∀ w ∈ wsX20, w ∈ wsX7_laySpanOver := fun _ h => List.mem_cons_of_mem _ (List.mem_append_left _ (List.mem_append_right _ h))
theorem inX7_laySpanOver_X4 : ∀ w ∈ wsX40, w ∈ wsX7_laySpanOver := fun _ h => List.mem_cons_of_mem _ (List.mem_append_right _ h)
def wb_X7_laySpanOver_44 (Q : Int32 → (Int32) → (Int32) → (Int64) → (Int64) → Prop) (v2_masts : Int32) (f2_place : Nat → Int32) (f2_trackAside : Nat → Int64) (f2_side : Nat → Int32) (f2_mastPeg : Nat → Int32) (K2 : (Int32) → (Int32) → (Int64) → (Int64) → (Int32) → (Int32) → Prop) (v4_begin_c44 : Int32) (v4_end_c44 : Int32) (v4_wireAtBegin_c44 : Int64) (v4_wireAtEnd_c44 : Int64) (y44_1 : Int32) (y44_2 : Int32) : Prop :=
  (∀ x6 : Int32, x6 = y44_2 + (1 : Int32) → (K2 v4_begin_c44 v4_end_c44 v4_wireAtBegin_c44 v4_wireAtEnd_c44 y44_1 x6))
def wb_X7_laySpanOver_2 (Q : Int32 → (Int32) → (Int32) → (Int64) → (Int64) → Prop) (v2_masts : Int32) (f2_place : Nat → Int32) (f2_trackAside : Nat → Int64) (f2_side : Nat → Int32) (f2_mastPeg : Nat → Int32) (K2 : (Int32) → (Int32) → (Int64) → (Int64) → (Int32) → (Int32) → Prop) (v4_begin_c2 : Int32) (v4_end_c2 : Int32) (v4_wireAtBegin_c2 : Int64) (v4_wireAtEnd_c2 : Int64) (y2_1 : Int32) (y2_2 : Int32) : Prop :=
  (wp_X2_spans (fun r1 => ((r1 ≤ y2_2 → (((0 : Int32) = 0 ∨ (0 : Int32) = 1) ∧ Q (0 : Int32) v4_begin_c2 v4_end_c2 v4_wireAtBegin_c2 v4_wireAtEnd_c2)) ∧ (¬ r1 ≤ y2_2 → (wp_X2_spanBegin (fun r4 => ((y2_1 < r4 → (wb_X7_laySpanOver_44 Q v2_masts f2_place f2_trackAside f2_side f2_mastPeg K2 v4_begin_c2 v4_end_c2 v4_wireAtBegin_c2 v4_wireAtEnd_c2 y2_1 y2_2)) ∧ (¬ y2_1 < r4 → (wp_X2_spanEnd (fun r7 => ((r7 < y2_1 → (wb_X7_laySpanOver_44 Q v2_masts f2_place f2_trackAside f2_side f2_mastPeg K2 v4_begin_c2 v4_end_c2 v4_wireAtBegin_c2 v4_wireAtEnd_c2 y2_1 y2_2)) ∧ (¬ r7 < y2_1 → (wp_X7_laySpan (fun m10 m11 m12 m13 => (((1 : Int32) = 0 ∨ (1 : Int32) = 1) ∧ Q (1 : Int32) m10 m11 m12 m13)) f2_place f2_trackAside f2_side f2_mastPeg v4_begin_c2 v4_end_c2 v4_wireAtBegin_c2 v4_wireAtEnd_c2 y2_2)))) f2_place f2_mastPeg y2_2)))) f2_place f2_mastPeg y2_2)))) v2_masts)
def wl_X7_laySpanOver_2 (Q : Int32 → (Int32) → (Int32) → (Int64) → (Int64) → Prop) (v2_masts : Int32) (f2_place : Nat → Int32) (f2_trackAside : Nat → Int64) (f2_side : Nat → Int32) (f2_mastPeg : Nat → Int32) : Nat → (Int32) → (Int32) → (Int64) → (Int64) → (Int32) → (Int32) → Prop
  | 0, _, _, _, _, _, _ => False
  | n + 1, v4_begin_c2, v4_end_c2, v4_wireAtBegin_c2, v4_wireAtEnd_c2, y2_1, y2_2 => wb_X7_laySpanOver_2 Q v2_masts f2_place f2_trackAside f2_side f2_mastPeg  (wl_X7_laySpanOver_2 Q v2_masts f2_place f2_trackAside f2_side f2_mastPeg  n) v4_begin_c2 v4_end_c2 v4_wireAtBegin_c2 v4_wireAtEnd_c2 y2_1 y2_2
def wp_X7_laySpanOver (Q : Int32 → (Int32) → (Int32) → (Int64) → (Int64) → Prop) (v2_masts : Int32) (f2_place : Nat → Int32) (f2_trackAside : Nat → Int64) (f2_side : Nat → Int32) (f2_mastPeg : Nat → Int32) (v4_begin : Int32) (v4_end : Int32) (v4_wireAtBegin : Int64) (v4_wireAtEnd : Int64) (p1 : Int32) : Prop :=
  (∃ n : Nat, wl_X7_laySpanOver_2 Q v2_masts f2_place f2_trackAside f2_side f2_mastPeg  n v4_begin v4_end v4_wireAtBegin v4_wireAtEnd p1 (0 : Int32))
set_option maxHeartbeats 4000000 in
set_option maxRecDepth 100000 in
theorem c_X7_laySpanOver (l : Launch) (dC : Nat → ClassId) (dI : Nat → Nat → Nat) (cI cJ cZ : ClassId) (a7 : Nat) (a6 : Nat) (a2 : Nat) (a2_place : Nat) (a2_price : Nat) (a2_trackAside : Nat) (a2_side : Nat) (a2_stands : Nat) (a2_mastPeg : Nat) (a5 : Nat) (a4 : Nat) (a0 : Nat) (a1 : Nat) (a3 : Nat) (sz : Nat) (v2_count : Int32) (v2_masts : Int32) (f2_place : Nat → Int32) (f2_trackAside : Nat → Int64) (f2_side : Nat → Int32) (f2_mastPeg : Nat → Int32) (v4_begin : Int32) (v4_end : Int32) (v4_wireAtBegin : Int64) (v4_wireAtEnd : Int64) (p1 : Int32) (Q : Int32 → (Int32) → (Int32) → (Int64) → (Int64) → Prop) (hw : wp_X7_laySpanOver Q v2_masts f2_place f2_trackAside f2_side f2_mastPeg v4_begin v4_end v4_wireAtBegin v4_wireAtEnd p1) : Met l yX7_laySpanOver wsX7_laySpanOver ({ frames := 2, cells := 0, slots := 0, locals := 47 } : Room) (va_Pc [.ref a7, .int p1] (fun U => U.heap.size = sz ∧ va_P (dC, dI) vwCl [(a7, .inr (7, [.ref a6, .ref a2, .ref a5, .ref a4, .ref a0, .ref a1, .ref a3])), (a2, .inr (2, [.int v2_count, .int v2_masts, .ref a2_place, .ref a2_price, .ref a2_trackAside, .ref a2_side, .ref a2_stands, .ref a2_mastPeg])), (a2_place, .inl (cI, 40, .inl f2_place)), (a2_trackAside, .inl (cJ, 40, .inr (.inl f2_trackAside))), (a2_side, .inl (cI, 40, .inl f2_side)), (a2_mastPeg, .inl (cI, 40, .inl f2_mastPeg)), (a4, .inr (4, [.ref a6, .ref a2, .ref a5, .int v4_begin, .int v4_end, .long v4_wireAtBegin, .long v4_wireAtEnd]))] U.heap ∧ va_K (dC, dI) vwCl [(cI, .int), (cJ, .long), (cZ, .boolean)] U ∧ va_D (fun _ => True) [(a7, .inr (7, [.ref a6, .ref a2, .ref a5, .ref a4, .ref a0, .ref a1, .ref a3])), (a2, .inr (2, [.int v2_count, .int v2_masts, .ref a2_place, .ref a2_price, .ref a2_trackAside, .ref a2_side, .ref a2_stands, .ref a2_mastPeg])), (a2_place, .inl (cI, 40, .inl f2_place)), (a2_trackAside, .inl (cJ, 40, .inr (.inl f2_trackAside))), (a2_side, .inl (cI, 40, .inl f2_side)), (a2_mastPeg, .inl (cI, 40, .inl f2_mastPeg)), (a4, .inr (4, [.ref a6, .ref a2, .ref a5, .int v4_begin, .int v4_end, .long v4_wireAtBegin, .long v4_wireAtEnd]))])) (va_Qi (fun r (u : (Int32) × (Int32) × (Int64) × (Int64)) => Q r u.1 u.2.1 u.2.2.1 u.2.2.2) (fun (u : (Int32) × (Int32) × (Int64) × (Int64)) t => va_P (dC, dI) vwCl [(a7, .inr (7, [.ref a6, .ref a2, .ref a5, .ref a4, .ref a0, .ref a1, .ref a3])), (a2, .inr (2, [.int v2_count, .int v2_masts, .ref a2_place, .ref a2_price, .ref a2_trackAside, .ref a2_side, .ref a2_stands, .ref a2_mastPeg])), (a2_place, .inl (cI, 40, .inl f2_place)), (a2_trackAside, .inl (cJ, 40, .inr (.inl f2_trackAside))), (a2_side, .inl (cI, 40, .inl f2_side)), (a2_mastPeg, .inl (cI, 40, .inl f2_mastPeg)), (a4, .inr (4, [.ref a6, .ref a2, .ref a5, .int u.1, .int u.2.1, .long u.2.2.1, .long u.2.2.2]))] t.heap ∧ va_K (dC, dI) vwCl [(cI, .int), (cJ, .long), (cZ, .boolean)] t ∧ va_D (va_A [(a7, .inr (7, [.ref a6, .ref a2, .ref a5, .ref a4, .ref a0, .ref a1, .ref a3])), (a2, .inr (2, [.int v2_count, .int v2_masts, .ref a2_place, .ref a2_price, .ref a2_trackAside, .ref a2_side, .ref a2_stands, .ref a2_mastPeg])), (a2_place, .inl (cI, 40, .inl f2_place)), (a2_trackAside, .inl (cJ, 40, .inr (.inl f2_trackAside))), (a2_side, .inl (cI, 40, .inl f2_side)), (a2_mastPeg, .inl (cI, 40, .inl f2_mastPeg)), (a4, .inr (4, [.ref a6, .ref a2, .ref a5, .int v4_begin, .int v4_end, .long v4_wireAtBegin, .long v4_wireAtEnd]))] sz) [(a7, .inr (7, [.ref a6, .ref a2, .ref a5, .ref a4, .ref a0, .ref a1, .ref a3])), (a2, .inr (2, [.int v2_count, .int v2_masts, .ref a2_place, .ref a2_price, .ref a2_trackAside, .ref a2_side, .ref a2_stands, .ref a2_mastPeg])), (a2_place, .inl (cI, 40, .inl f2_place)), (a2_trackAside, .inl (cJ, 40, .inr (.inl f2_trackAside))), (a2_side, .inl (cI, 40, .inl f2_side)), (a2_mastPeg, .inl (cI, 40, .inl f2_mastPeg)), (a4, .inr (4, [.ref a6, .ref a2, .ref a5, .int u.1, .int u.2.1, .long u.2.2.1, .long u.2.2.2]))]) (va_A [(a7, .inr (7, [.ref a6, .ref a2, .ref a5, .ref a4, .ref a0, .ref a1, .ref a3])), (a2, .inr (2, [.int v2_count, .int v2_masts, .ref a2_place, .ref a2_price, .ref a2_trackAside, .ref a2_side, .ref a2_stands, .ref a2_mastPeg])), (a2_place, .inl (cI, 40, .inl f2_place)), (a2_trackAside, .inl (cJ, 40, .inr (.inl f2_trackAside))), (a2_side, .inl (cI, 40, .inl f2_side)), (a2_mastPeg, .inl (cI, 40, .inl f2_mastPeg)), (a4, .inr (4, [.ref a6, .ref a2, .ref a5, .int v4_begin, .int v4_end, .long v4_wireAtBegin, .long v4_wireAtEnd]))] sz)) 0 0 (va_A [(a7, .inr (7, [.ref a6, .ref a2, .ref a5, .ref a4, .ref a0, .ref a1, .ref a3])), (a2, .inr (2, [.int v2_count, .int v2_masts, .ref a2_place, .ref a2_price, .ref a2_trackAside, .ref a2_side, .ref a2_stands, .ref a2_mastPeg])), (a2_place, .inl (cI, 40, .inl f2_place)), (a2_trackAside, .inl (cJ, 40, .inr (.inl f2_trackAside))), (a2_side, .inl (cI, 40, .inl f2_side)), (a2_mastPeg, .inl (cI, 40, .inl f2_mastPeg)), (a4, .inr (4, [.ref a6, .ref a2, .ref a5, .int v4_begin, .int v4_end, .long v4_wireAtBegin, .long v4_wireAtEnd]))] sz) := by
  refine Met.ofW (cc := cX7_laySpanOver) (maxL := 3) (ret := (some .boolean)) (by decide) rfl ?_
  intro p e s m args below meth c s₁ B hml hv
  obtain ⟨rfl, hsz, hP, hK, hD0⟩ := hv
  have hx := B.exec
  have hb := B.bytes
  have hr := B.returns
  have hts := atoms_spec (ws := wsX7_laySpanOver) B.pre
  have hown : s.vm.findClass RX7 = some m.cls := findClass_of_methodNamed B.named
  have hlocks := B.notSynchronized
  subst hsz
  have hD := hD0.self (sz := s.heap.size)
  generalize hAe : va_A [(a7, .inr (7, [.ref a6, .ref a2, .ref a5, .ref a4, .ref a0, .ref a1, .ref a3])), (a2, .inr (2, [.int v2_count, .int v2_masts, .ref a2_place, .ref a2_price, .ref a2_trackAside, .ref a2_side, .ref a2_stands, .ref a2_mastPeg])), (a2_place, .inl (cI, 40, .inl f2_place)), (a2_trackAside, .inl (cJ, 40, .inr (.inl f2_trackAside))), (a2_side, .inl (cI, 40, .inl f2_side)), (a2_mastPeg, .inl (cI, 40, .inl f2_mastPeg)), (a4, .inr (4, [.ref a6, .ref a2, .ref a5, .int v4_begin, .int v4_end, .long v4_wireAtBegin, .long v4_wireAtEnd]))] s.heap.size = A at hD ⊢
  have hA : ∀ q : Nat, s.heap.size ≤ q → A q := fun q h => by rw [← hAe]; exact Or.inr h
  have hS : va_S A s.heap s.heap [] := va_S.rf
  have hP : va_P (dC, dI) vwCl [(a7, .inr (7, [.ref a6, .ref a2, .ref a5, .ref a4, .ref a0, .ref a1, .ref a3])), (a2, .inr (2, [.int v2_count, .int v2_masts, .ref a2_place, .ref a2_price, .ref a2_trackAside, .ref a2_side, .ref a2_stands, .ref a2_mastPeg])), (a2_place, .inl (cI, 40, .inl f2_place)), (a2_trackAside, .inl (cJ, 40, .inr (.inl f2_trackAside))), (a2_side, .inl (cI, 40, .inl f2_side)), (a2_mastPeg, .inl (cI, 40, .inl f2_mastPeg)), (a4, .inr (4, [.ref a6, .ref a2, .ref a5, .int v4_begin, .int v4_end, .long v4_wireAtBegin, .long v4_wireAtEnd]))] s.heap := hP
  have lk1 := hts (.fieldLink RX7 19 "WireRow" "pegs" "LWireRow$PegRow;") (by decide +kernel)
  have k_2 : ∀ (n_2 : Nat) (v4_begin_c2 : Int32) (v4_end_c2 : Int32) (v4_wireAtBegin_c2 : Int64) (v4_wireAtEnd_c2 : Int64) (y2_1 : Int32) (y2_2 : Int32) (H : Heap) (locs : List Loc) (ls : Array Slot), va_P (dC, dI) vwCl [(a7, .inr (7, [.ref a6, .ref a2, .ref a5, .ref a4, .ref a0, .ref a1, .ref a3])), (a2, .inr (2, [.int v2_count, .int v2_masts, .ref a2_place, .ref a2_price, .ref a2_trackAside, .ref a2_side, .ref a2_stands, .ref a2_mastPeg])), (a2_place, .inl (cI, 40, .inl f2_place)), (a2_trackAside, .inl (cJ, 40, .inr (.inl f2_trackAside))), (a2_side, .inl (cI, 40, .inl f2_side)), (a2_mastPeg, .inl (cI, 40, .inl f2_mastPeg)), (a4, .inr (4, [.ref a6, .ref a2, .ref a5, .int v4_begin_c2, .int v4_end_c2, .long v4_wireAtBegin_c2, .long v4_wireAtEnd_c2]))] H → va_D A [(a7, .inr (7, [.ref a6, .ref a2, .ref a5, .ref a4, .ref a0, .ref a1, .ref a3])), (a2, .inr (2, [.int v2_count, .int v2_masts, .ref a2_place, .ref a2_price, .ref a2_trackAside, .ref a2_side, .ref a2_stands, .ref a2_mastPeg])), (a2_place, .inl (cI, 40, .inl f2_place)), (a2_trackAside, .inl (cJ, 40, .inr (.inl f2_trackAside))), (a2_side, .inl (cI, 40, .inl f2_side)), (a2_mastPeg, .inl (cI, 40, .inl f2_mastPeg)), (a4, .inr (4, [.ref a6, .ref a2, .ref a5, .int v4_begin_c2, .int v4_end_c2, .long v4_wireAtBegin_c2, .long v4_wireAtEnd_c2]))] → va_S A s.heap H locs → lv_has ls 3 [(0, .ref a7), (1, .int y2_1), (2, .int y2_2)] → (wl_X7_laySpanOver_2 Q v2_masts f2_place f2_trackAside f2_side f2_mastPeg  n_2 v4_begin_c2 v4_end_c2 v4_wireAtBegin_c2 v4_wireAtEnd_c2 y2_1 y2_2) → W p l e (headSpec wsX7_laySpanOver ({ frames := 2, cells := 0, slots := 0, locals := 47 } : Room)).room s m [.ref a7, .int p1].toArray below meth c H locs 0 0 (MQ below (va_Qi (fun r (u : (Int32) × (Int32) × (Int64) × (Int64)) => Q r u.1 u.2.1 u.2.2.1 u.2.2.2) (fun (u : (Int32) × (Int32) × (Int64) × (Int64)) t => va_P (dC, dI) vwCl [(a7, .inr (7, [.ref a6, .ref a2, .ref a5, .ref a4, .ref a0, .ref a1, .ref a3])), (a2, .inr (2, [.int v2_count, .int v2_masts, .ref a2_place, .ref a2_price, .ref a2_trackAside, .ref a2_side, .ref a2_stands, .ref a2_mastPeg])), (a2_place, .inl (cI, 40, .inl f2_place)), (a2_trackAside, .inl (cJ, 40, .inr (.inl f2_trackAside))), (a2_side, .inl (cI, 40, .inl f2_side)), (a2_mastPeg, .inl (cI, 40, .inl f2_mastPeg)), (a4, .inr (4, [.ref a6, .ref a2, .ref a5, .int u.1, .int u.2.1, .long u.2.2.1, .long u.2.2.2]))] t.heap ∧ va_K (dC, dI) vwCl [(cI, .int), (cJ, .long), (cZ, .boolean)] t ∧ va_D A [(a7, .inr (7, [.ref a6, .ref a2, .ref a5, .ref a4, .ref a0, .ref a1, .ref a3])), (a2, .inr (2, [.int v2_count, .int v2_masts, .ref a2_place, .ref a2_price, .ref a2_trackAside, .ref a2_side, .ref a2_stands, .ref a2_mastPeg])), (a2_place, .inl (cI, 40, .inl f2_place)), (a2_trackAside, .inl (cJ, 40, .inr (.inl f2_trackAside))), (a2_side, .inl (cI, 40, .inl f2_side)), (a2_mastPeg, .inl (cI, 40, .inl f2_mastPeg)), (a4, .inr (4, [.ref a6, .ref a2, .ref a5, .int u.1, .int u.2.1, .long u.2.2.1, .long u.2.2.2]))]) A) [.ref a7, .int p1].toArray s 0 0 A) (F0 m 2 ls []) := by
    intro n_2
    induction n_2 with
    | zero =>
      intro v4_begin_c2 v4_end_c2 v4_wireAtBegin_c2 v4_wireAtEnd_c2 y2_1 y2_2 H locs ls hP hD hS hl hw
      exact False.elim hw
    | succ n_2 ih_2 =>
      have k_44 : ∀  (v4_begin_c44 : Int32) (v4_end_c44 : Int32) (v4_wireAtBegin_c44 : Int64) (v4_wireAtEnd_c44 : Int64) (y44_1 : Int32) (y44_2 : Int32) (H : Heap) (locs : List Loc) (ls : Array Slot), va_P (dC, dI) vwCl [(a7, .inr (7, [.ref a6, .ref a2, .ref a5, .ref a4, .ref a0, .ref a1, .ref a3])), (a2, .inr (2, [.int v2_count, .int v2_masts, .ref a2_place, .ref a2_price, .ref a2_trackAside, .ref a2_side, .ref a2_stands, .ref a2_mastPeg])), (a2_place, .inl (cI, 40, .inl f2_place)), (a2_trackAside, .inl (cJ, 40, .inr (.inl f2_trackAside))), (a2_side, .inl (cI, 40, .inl f2_side)), (a2_mastPeg, .inl (cI, 40, .inl f2_mastPeg)), (a4, .inr (4, [.ref a6, .ref a2, .ref a5, .int v4_begin_c44, .int v4_end_c44, .long v4_wireAtBegin_c44, .long v4_wireAtEnd_c44]))] H → va_D A [(a7, .inr (7, [.ref a6, .ref a2, .ref a5, .ref a4, .ref a0, .ref a1, .ref a3])), (a2, .inr (2, [.int v2_count, .int v2_masts, .ref a2_place, .ref a2_price, .ref a2_trackAside, .ref a2_side, .ref a2_stands, .ref a2_mastPeg])), (a2_place, .inl (cI, 40, .inl f2_place)), (a2_trackAside, .inl (cJ, 40, .inr (.inl f2_trackAside))), (a2_side, .inl (cI, 40, .inl f2_side)), (a2_mastPeg, .inl (cI, 40, .inl f2_mastPeg)), (a4, .inr (4, [.ref a6, .ref a2, .ref a5, .int v4_begin_c44, .int v4_end_c44, .long v4_wireAtBegin_c44, .long v4_wireAtEnd_c44]))] → va_S A s.heap H locs → lv_has ls 3 [(0, .ref a7), (1, .int y44_1), (2, .int y44_2)] → (wb_X7_laySpanOver_44 Q v2_masts f2_place f2_trackAside f2_side f2_mastPeg (wl_X7_laySpanOver_2 Q v2_masts f2_place f2_trackAside f2_side f2_mastPeg  n_2) v4_begin_c44 v4_end_c44 v4_wireAtBegin_c44 v4_wireAtEnd_c44 y44_1 y44_2) → W p l e (headSpec wsX7_laySpanOver ({ frames := 2, cells := 0, slots := 0, locals := 47 } : Room)).room s m [.ref a7, .int p1].toArray below meth c H locs 0 0 (MQ below (va_Qi (fun r (u : (Int32) × (Int32) × (Int64) × (Int64)) => Q r u.1 u.2.1 u.2.2.1 u.2.2.2) (fun (u : (Int32) × (Int32) × (Int64) × (Int64)) t => va_P (dC, dI) vwCl [(a7, .inr (7, [.ref a6, .ref a2, .ref a5, .ref a4, .ref a0, .ref a1, .ref a3])), (a2, .inr (2, [.int v2_count, .int v2_masts, .ref a2_place, .ref a2_price, .ref a2_trackAside, .ref a2_side, .ref a2_stands, .ref a2_mastPeg])), (a2_place, .inl (cI, 40, .inl f2_place)), (a2_trackAside, .inl (cJ, 40, .inr (.inl f2_trackAside))), (a2_side, .inl (cI, 40, .inl f2_side)), (a2_mastPeg, .inl (cI, 40, .inl f2_mastPeg)), (a4, .inr (4, [.ref a6, .ref a2, .ref a5, .int u.1, .int u.2.1, .long u.2.2.1, .long u.2.2.2]))] t.heap ∧ va_K (dC, dI) vwCl [(cI, .int), (cJ, .long), (cZ, .boolean)] t ∧ va_D A [(a7, .inr (7, [.ref a6, .ref a2, .ref a5, .ref a4, .ref a0, .ref a1, .ref a3])), (a2, .inr (2, [.int v2_count, .int v2_masts, .ref a2_place, .ref a2_price, .ref a2_trackAside, .ref a2_side, .ref a2_stands, .ref a2_mastPeg])), (a2_place, .inl (cI, 40, .inl f2_place)), (a2_trackAside, .inl (cJ, 40, .inr (.inl f2_trackAside))), (a2_side, .inl (cI, 40, .inl f2_side)), (a2_mastPeg, .inl (cI, 40, .inl f2_mastPeg)), (a4, .inr (4, [.ref a6, .ref a2, .ref a5, .int u.1, .int u.2.1, .long u.2.2.1, .long u.2.2.2]))]) A) [.ref a7, .int p1].toArray s 0 0 A) (F0 m 44 ls []) := by
        intro v4_begin_c44 v4_end_c44 v4_wireAtBegin_c44 v4_wireAtEnd_c44 y44_1 y44_2 H locs ls hP hD hS hl hw
        unfold wb_X7_laySpanOver_44 at hw
        obtain ⟨x6, ex6⟩ : ∃ y : Int32, y = y44_2 + (1 : Int32) := ⟨_, rfl⟩
        replace hw := hw x6 ex6
        refine lv_iinc (v := x6) (lv' := [(2, .int x6), (0, .ref a7), (1, .int y44_1)]) hx hb dX7_laySpanOver_44 hl (k := 2) rfl (by rw [ex6]; rfl) (by decide) rfl (fun ls hl => ?_)
        refine lv_goto (tgt := 2) hx hb dX7_laySpanOver_47 (by decide) ?_
        exact ih_2 v4_begin_c44 v4_end_c44 v4_wireAtBegin_c44 v4_wireAtEnd_c44 y44_1 x6 _ _ _ (hP.sub [0, 1, 2, 3, 4, 5, 6] rfl) (hD.sub [0, 1, 2, 3, 4, 5, 6] (by decide) rfl) hS (lv_sub hl [1, 2, 0] rfl) hw
      intro v4_begin_c2 v4_end_c2 v4_wireAtBegin_c2 v4_wireAtEnd_c2 y2_1 y2_2 H locs ls hP hD hS hl hw
      replace hw : wb_X7_laySpanOver_2 Q v2_masts f2_place f2_trackAside f2_side f2_mastPeg  (wl_X7_laySpanOver_2 Q v2_masts f2_place f2_trackAside f2_side f2_mastPeg  n_2) v4_begin_c2 v4_end_c2 v4_wireAtBegin_c2 v4_wireAtEnd_c2 y2_1 y2_2 := hw
      unfold wb_X7_laySpanOver_2 at hw
      refine lv_iload_n hx hb dX7_laySpanOver_2 rfl (lv_at hl 2 rfl) ?_
      refine lv_aload_n hx hb dX7_laySpanOver_3 rfl (lv_at hl 0 rfl) ?_
      refine va_get (D := (dC, dI)) (ci := 7) (v := .ref a2) (C := RX7) (T := TX7) (N := 7) hx hb hts inX7_laySpanOver_X7 hown hK hP 0 rfl rfl 1 (by decide) lk1 (fun _ h9 => h9) rfl dX7_laySpanOver_4 ?_
      have hPc := hP.sub (ws' := [(a2, .inr (2, [.int v2_count, .int v2_masts, .ref a2_place, .ref a2_price, .ref a2_trackAside, .ref a2_side, .ref a2_stands, .ref a2_mastPeg]))]) [1] rfl
      have hDc := hD.sub (ws' := [(a2, .inr (2, [.int v2_count, .int v2_masts, .ref a2_place, .ref a2_price, .ref a2_trackAside, .ref a2_side, .ref a2_stands, .ref a2_mastPeg]))]) [1] (by decide) rfl
      have hFc := va_free (wc := [(a2, .inr (2, [.int v2_count, .int v2_masts, .ref a2_place, .ref a2_price, .ref a2_trackAside, .ref a2_side, .ref a2_stands, .ref a2_mastPeg]))]) hD hS hA [1] rfl
      refine va_calli (va_runV (As := []) (rest := [.int y2_2]) ⟨hx, hb, hml, hown, hts⟩ (c_X2_spans l dC dI cI cJ cZ a2 a2_place a2_price a2_trackAside a2_side a2_stands a2_mastPeg H.size v2_count v2_masts _ hw) (cwV 0 hts gX7_laySpanOver_X2_spans rfl rfl rfl (by decide +kernel) ⟨Nat.le_of_ble_eq_true rfl, Nat.le_of_ble_eq_true rfl⟩) ⟨fun a U g mk q => by obtain ⟨q0, q1, qP, qK, qD⟩ := q; exact ⟨q0, q1, qP, va_K.moved (u := U) (U := U.calling g mk a) (Vm.Alike.refl U.vm) qK, qD⟩, va_recv hK hP (ci := 2) (q0 := 1) rfl rfl, fun U hU hW => ⟨rfl, by rw [hU], by rw [hU]; exact hPc, va_K.moved hW.alike hK, hDc.weaken (fun _ _ _ _ => trivial)⟩⟩ rfl rfl hl.1 rfl (lv_room (Nat.le_of_ble_eq_true rfl)) dX7_laySpanOver_7 ⟨(Nat.zero_le _), (Nat.zero_le _)⟩) hS (fun q _ h => hFc q h) hFc (fun r1 u t H1 locs ht hvm hw hB hz1 hk1 hS => ?_)
      obtain ⟨hP1, -, hD1⟩ := hB
      try dsimp only at hw
      rw [ht] at hP1
      obtain ⟨hP, hD⟩ := va_join (wr := [(a7, .inr (7, [.ref a6, .ref a2, .ref a5, .ref a4, .ref a0, .ref a1, .ref a3])), (a2_place, .inl (cI, 40, .inl f2_place)), (a2_trackAside, .inl (cJ, 40, .inr (.inl f2_trackAside))), (a2_side, .inl (cI, 40, .inl f2_side)), (a2_mastPeg, .inl (cI, 40, .inl f2_mastPeg)), (a4, .inr (4, [.ref a6, .ref a2, .ref a5, .int v4_begin_c2, .int v4_end_c2, .long v4_wireAtBegin_c2, .long v4_wireAtEnd_c2]))]) (w1 := [(a2, .inr (2, [.int v2_count, .int v2_masts, .ref a2_place, .ref a2_price, .ref a2_trackAside, .ref a2_side, .ref a2_stands, .ref a2_mastPeg]))]) hP hD [1] [0, 2, 3, 4, 5, 6] rfl rfl (by decide) (by decide) hk1 hFc hP1 hD1
      generalize H1 = H at hP hS ⊢
      have hP : va_P (dC, dI) vwCl [(a7, .inr (7, [.ref a6, .ref a2, .ref a5, .ref a4, .ref a0, .ref a1, .ref a3])), (a2_place, .inl (cI, 40, .inl f2_place)), (a2_trackAside, .inl (cJ, 40, .inr (.inl f2_trackAside))), (a2_side, .inl (cI, 40, .inl f2_side)), (a2_mastPeg, .inl (cI, 40, .inl f2_mastPeg)), (a4, .inr (4, [.ref a6, .ref a2, .ref a5, .int v4_begin_c2, .int v4_end_c2, .long v4_wireAtBegin_c2, .long v4_wireAtEnd_c2])), (a2, .inr (2, [.int v2_count, .int v2_masts, .ref a2_place, .ref a2_price, .ref a2_trackAside, .ref a2_side, .ref a2_stands, .ref a2_mastPeg]))] H := hP
      have hD : va_D A [(a7, .inr (7, [.ref a6, .ref a2, .ref a5, .ref a4, .ref a0, .ref a1, .ref a3])), (a2_place, .inl (cI, 40, .inl f2_place)), (a2_trackAside, .inl (cJ, 40, .inr (.inl f2_trackAside))), (a2_side, .inl (cI, 40, .inl f2_side)), (a2_mastPeg, .inl (cI, 40, .inl f2_mastPeg)), (a4, .inr (4, [.ref a6, .ref a2, .ref a5, .int v4_begin_c2, .int v4_end_c2, .long v4_wireAtBegin_c2, .long v4_wireAtEnd_c2])), (a2, .inr (2, [.int v2_count, .int v2_masts, .ref a2_place, .ref a2_price, .ref a2_trackAside, .ref a2_side, .ref a2_stands, .ref a2_mastPeg]))] := hD
      refine lv_icmp_ge (tgt := 50) hx hb dX7_laySpanOver_10 (by decide) (fun c2 => ?_) (fun c2 => ?_)
      · replace hw := hw.1 (c2)
        refine lv_iconst (v := (0 : Int32)) hx hb dX7_laySpanOver_50 (by decide) ?_
        have hP9 := hP.sub (ws' := [(a7, .inr (7, [.ref a6, .ref a2, .ref a5, .ref a4, .ref a0, .ref a1, .ref a3])), (a2, .inr (2, [.int v2_count, .int v2_masts, .ref a2_place, .ref a2_price, .ref a2_trackAside, .ref a2_side, .ref a2_stands, .ref a2_mastPeg])), (a2_place, .inl (cI, 40, .inl f2_place)), (a2_trackAside, .inl (cJ, 40, .inr (.inl f2_trackAside))), (a2_side, .inl (cI, 40, .inl f2_side)), (a2_mastPeg, .inl (cI, 40, .inl f2_mastPeg)), (a4, .inr (4, [.ref a6, .ref a2, .ref a5, .int v4_begin_c2, .int v4_end_c2, .long v4_wireAtBegin_c2, .long v4_wireAtEnd_c2]))]) [0, 6, 1, 2, 3, 4, 5] rfl
        have hD9 := hD.sub (ws' := [(a7, .inr (7, [.ref a6, .ref a2, .ref a5, .ref a4, .ref a0, .ref a1, .ref a3])), (a2, .inr (2, [.int v2_count, .int v2_masts, .ref a2_place, .ref a2_price, .ref a2_trackAside, .ref a2_side, .ref a2_stands, .ref a2_mastPeg])), (a2_place, .inl (cI, 40, .inl f2_place)), (a2_trackAside, .inl (cJ, 40, .inr (.inl f2_trackAside))), (a2_side, .inl (cI, 40, .inl f2_side)), (a2_mastPeg, .inl (cI, 40, .inl f2_mastPeg)), (a4, .inr (4, [.ref a6, .ref a2, .ref a5, .int v4_begin_c2, .int v4_end_c2, .long v4_wireAtBegin_c2, .long v4_wireAtEnd_c2]))]) [0, 6, 1, 2, 3, 4, 5] (by decide) rfl
        obtain ⟨h3, hw⟩ := hw
        exact W.zret (v := (0 : Int32)) hx hb hr (wg_bool h3) (fun t ht hW => ⟨⟨(0 : Int32), (v4_begin_c2, v4_end_c2, v4_wireAtBegin_c2, v4_wireAtEnd_c2), rfl, hw, by rw [ht]; exact hP9, va_K.moved hW.alike hK, hD9⟩, hS.F ht⟩) hS.2.2 dX7_laySpanOver_51
      · replace hw := hw.2 (c2)
        refine lv_iload_n hx hb dX7_laySpanOver_13 rfl (lv_at hl 1 rfl) ?_
        refine lv_aload_n hx hb dX7_laySpanOver_14 rfl (lv_at hl 0 rfl) ?_
        refine va_get (D := (dC, dI)) (ci := 7) (v := .ref a2) (C := RX7) (T := TX7) (N := 7) hx hb hts inX7_laySpanOver_X7 hown hK hP 0 rfl rfl 1 (by decide) lk1 (fun _ h9 => h9) rfl dX7_laySpanOver_15 ?_
        refine lv_iload_n hx hb dX7_laySpanOver_18 rfl (lv_at hl 2 rfl) ?_
        have hPc := hP.sub (ws' := [(a2, .inr (2, [.int v2_count, .int v2_masts, .ref a2_place, .ref a2_price, .ref a2_trackAside, .ref a2_side, .ref a2_stands, .ref a2_mastPeg])), (a2_place, .inl (cI, 40, .inl f2_place)), (a2_mastPeg, .inl (cI, 40, .inl f2_mastPeg))]) [6, 1, 4] rfl
        have hDc := hD.sub (ws' := [(a2, .inr (2, [.int v2_count, .int v2_masts, .ref a2_place, .ref a2_price, .ref a2_trackAside, .ref a2_side, .ref a2_stands, .ref a2_mastPeg])), (a2_place, .inl (cI, 40, .inl f2_place)), (a2_mastPeg, .inl (cI, 40, .inl f2_mastPeg))]) [6, 1, 4] (by decide) rfl
        have hFc := va_free (wc := [(a2, .inr (2, [.int v2_count, .int v2_masts, .ref a2_place, .ref a2_price, .ref a2_trackAside, .ref a2_side, .ref a2_stands, .ref a2_mastPeg])), (a2_place, .inl (cI, 40, .inl f2_place)), (a2_mastPeg, .inl (cI, 40, .inl f2_mastPeg))]) hD hS hA [6, 1, 4] rfl
        refine va_calli (va_runV (As := [.int y2_2]) (rest := [.int y2_1]) ⟨hx, hb, hml, hown, hts⟩ (c_X2_spanBegin l dC dI cI cJ cZ a2 a2_place a2_price a2_trackAside a2_side a2_stands a2_mastPeg H.size v2_count v2_masts f2_place f2_mastPeg y2_2 _ hw) (cwV 1 hts gX7_laySpanOver_X2_spanBegin rfl rfl rfl (by decide +kernel) ⟨Nat.le_of_ble_eq_true rfl, Nat.le_of_ble_eq_true rfl⟩) ⟨fun a U g mk q => by obtain ⟨q0, q1, qP, qK, qD⟩ := q; exact ⟨q0, q1, qP, va_K.moved (u := U) (U := U.calling g mk a) (Vm.Alike.refl U.vm) qK, qD⟩, va_recv hK hP (ci := 2) (q0 := 6) rfl rfl, fun U hU hW => ⟨rfl, by rw [hU], by rw [hU]; exact hPc, va_K.moved hW.alike hK, hDc.weaken (fun _ _ _ _ => trivial)⟩⟩ rfl rfl hl.1 rfl (lv_room (Nat.le_of_ble_eq_true rfl)) dX7_laySpanOver_19 ⟨(Nat.zero_le _), (Nat.zero_le _)⟩) hS (fun q _ h => hFc q h) hFc (fun r4 u t H1 locs ht hvm hw hB hz1 hk1 hS => ?_)
        obtain ⟨hP1, -, hD1⟩ := hB
        try dsimp only at hw
        rw [ht] at hP1
        obtain ⟨hP, hD⟩ := va_join (wr := [(a7, .inr (7, [.ref a6, .ref a2, .ref a5, .ref a4, .ref a0, .ref a1, .ref a3])), (a2_trackAside, .inl (cJ, 40, .inr (.inl f2_trackAside))), (a2_side, .inl (cI, 40, .inl f2_side)), (a4, .inr (4, [.ref a6, .ref a2, .ref a5, .int v4_begin_c2, .int v4_end_c2, .long v4_wireAtBegin_c2, .long v4_wireAtEnd_c2]))]) (w1 := [(a2, .inr (2, [.int v2_count, .int v2_masts, .ref a2_place, .ref a2_price, .ref a2_trackAside, .ref a2_side, .ref a2_stands, .ref a2_mastPeg])), (a2_place, .inl (cI, 40, .inl f2_place)), (a2_mastPeg, .inl (cI, 40, .inl f2_mastPeg))]) hP hD [6, 1, 4] [0, 2, 3, 5] rfl rfl (by decide) (by decide) hk1 hFc hP1 hD1
        generalize H1 = H at hP hS ⊢
        have hP : va_P (dC, dI) vwCl [(a7, .inr (7, [.ref a6, .ref a2, .ref a5, .ref a4, .ref a0, .ref a1, .ref a3])), (a2_trackAside, .inl (cJ, 40, .inr (.inl f2_trackAside))), (a2_side, .inl (cI, 40, .inl f2_side)), (a4, .inr (4, [.ref a6, .ref a2, .ref a5, .int v4_begin_c2, .int v4_end_c2, .long v4_wireAtBegin_c2, .long v4_wireAtEnd_c2])), (a2, .inr (2, [.int v2_count, .int v2_masts, .ref a2_place, .ref a2_price, .ref a2_trackAside, .ref a2_side, .ref a2_stands, .ref a2_mastPeg])), (a2_place, .inl (cI, 40, .inl f2_place)), (a2_mastPeg, .inl (cI, 40, .inl f2_mastPeg))] H := hP
        have hD : va_D A [(a7, .inr (7, [.ref a6, .ref a2, .ref a5, .ref a4, .ref a0, .ref a1, .ref a3])), (a2_trackAside, .inl (cJ, 40, .inr (.inl f2_trackAside))), (a2_side, .inl (cI, 40, .inl f2_side)), (a4, .inr (4, [.ref a6, .ref a2, .ref a5, .int v4_begin_c2, .int v4_end_c2, .long v4_wireAtBegin_c2, .long v4_wireAtEnd_c2])), (a2, .inr (2, [.int v2_count, .int v2_masts, .ref a2_place, .ref a2_price, .ref a2_trackAside, .ref a2_side, .ref a2_stands, .ref a2_mastPeg])), (a2_place, .inl (cI, 40, .inl f2_place)), (a2_mastPeg, .inl (cI, 40, .inl f2_mastPeg))] := hD
        refine lv_icmp_lt (tgt := 44) hx hb dX7_laySpanOver_22 (by decide) (fun c5 => ?_) (fun c5 => ?_)
        · replace hw := hw.1 (c5)
          exact k_44 v4_begin_c2 v4_end_c2 v4_wireAtBegin_c2 v4_wireAtEnd_c2 y2_1 y2_2 _ _ _ (hP.sub [0, 4, 5, 1, 2, 6, 3] rfl) (hD.sub [0, 4, 5, 1, 2, 6, 3] (by decide) rfl) hS (lv_sub hl [0, 1, 2] rfl) hw
        · replace hw := hw.2 (c5)
          refine lv_iload_n hx hb dX7_laySpanOver_25 rfl (lv_at hl 1 rfl) ?_
          refine lv_aload_n hx hb dX7_laySpanOver_26 rfl (lv_at hl 0 rfl) ?_
          refine va_get (D := (dC, dI)) (ci := 7) (v := .ref a2) (C := RX7) (T := TX7) (N := 7) hx hb hts inX7_laySpanOver_X7 hown hK hP 0 rfl rfl 1 (by decide) lk1 (fun _ h9 => h9) rfl dX7_laySpanOver_27 ?_
          refine lv_iload_n hx hb dX7_laySpanOver_30 rfl (lv_at hl 2 rfl) ?_
          have hPc := hP.sub (ws' := [(a2, .inr (2, [.int v2_count, .int v2_masts, .ref a2_place, .ref a2_price, .ref a2_trackAside, .ref a2_side, .ref a2_stands, .ref a2_mastPeg])), (a2_place, .inl (cI, 40, .inl f2_place)), (a2_mastPeg, .inl (cI, 40, .inl f2_mastPeg))]) [4, 5, 6] rfl
          have hDc := hD.sub (ws' := [(a2, .inr (2, [.int v2_count, .int v2_masts, .ref a2_place, .ref a2_price, .ref a2_trackAside, .ref a2_side, .ref a2_stands, .ref a2_mastPeg])), (a2_place, .inl (cI, 40, .inl f2_place)), (a2_mastPeg, .inl (cI, 40, .inl f2_mastPeg))]) [4, 5, 6] (by decide) rfl
          have hFc := va_free (wc := [(a2, .inr (2, [.int v2_count, .int v2_masts, .ref a2_place, .ref a2_price, .ref a2_trackAside, .ref a2_side, .ref a2_stands, .ref a2_mastPeg])), (a2_place, .inl (cI, 40, .inl f2_place)), (a2_mastPeg, .inl (cI, 40, .inl f2_mastPeg))]) hD hS hA [4, 5, 6] rfl
          refine va_calli (va_runV (As := [.int y2_2]) (rest := [.int y2_1]) ⟨hx, hb, hml, hown, hts⟩ (c_X2_spanEnd l dC dI cI cJ cZ a2 a2_place a2_price a2_trackAside a2_side a2_stands a2_mastPeg H.size v2_count v2_masts f2_place f2_mastPeg y2_2 _ hw) (cwV 1 hts gX7_laySpanOver_X2_spanEnd rfl rfl rfl (by decide +kernel) ⟨Nat.le_of_ble_eq_true rfl, Nat.le_of_ble_eq_true rfl⟩) ⟨fun a U g mk q => by obtain ⟨q0, q1, qP, qK, qD⟩ := q; exact ⟨q0, q1, qP, va_K.moved (u := U) (U := U.calling g mk a) (Vm.Alike.refl U.vm) qK, qD⟩, va_recv hK hP (ci := 2) (q0 := 4) rfl rfl, fun U hU hW => ⟨rfl, by rw [hU], by rw [hU]; exact hPc, va_K.moved hW.alike hK, hDc.weaken (fun _ _ _ _ => trivial)⟩⟩ rfl rfl hl.1 rfl (lv_room (Nat.le_of_ble_eq_true rfl)) dX7_laySpanOver_31 ⟨(Nat.zero_le _), (Nat.zero_le _)⟩) hS (fun q _ h => hFc q h) hFc (fun r7 u t H1 locs ht hvm hw hB hz1 hk1 hS => ?_)
          obtain ⟨hP1, -, hD1⟩ := hB
          try dsimp only at hw
          rw [ht] at hP1
          obtain ⟨hP, hD⟩ := va_join (wr := [(a7, .inr (7, [.ref a6, .ref a2, .ref a5, .ref a4, .ref a0, .ref a1, .ref a3])), (a2_trackAside, .inl (cJ, 40, .inr (.inl f2_trackAside))), (a2_side, .inl (cI, 40, .inl f2_side)), (a4, .inr (4, [.ref a6, .ref a2, .ref a5, .int v4_begin_c2, .int v4_end_c2, .long v4_wireAtBegin_c2, .long v4_wireAtEnd_c2]))]) (w1 := [(a2, .inr (2, [.int v2_count, .int v2_masts, .ref a2_place, .ref a2_price, .ref a2_trackAside, .ref a2_side, .ref a2_stands, .ref a2_mastPeg])), (a2_place, .inl (cI, 40, .inl f2_place)), (a2_mastPeg, .inl (cI, 40, .inl f2_mastPeg))]) hP hD [4, 5, 6] [0, 1, 2, 3] rfl rfl (by decide) (by decide) hk1 hFc hP1 hD1
          generalize H1 = H at hP hS ⊢
          have hP : va_P (dC, dI) vwCl [(a7, .inr (7, [.ref a6, .ref a2, .ref a5, .ref a4, .ref a0, .ref a1, .ref a3])), (a2_trackAside, .inl (cJ, 40, .inr (.inl f2_trackAside))), (a2_side, .inl (cI, 40, .inl f2_side)), (a4, .inr (4, [.ref a6, .ref a2, .ref a5, .int v4_begin_c2, .int v4_end_c2, .long v4_wireAtBegin_c2, .long v4_wireAtEnd_c2])), (a2, .inr (2, [.int v2_count, .int v2_masts, .ref a2_place, .ref a2_price, .ref a2_trackAside, .ref a2_side, .ref a2_stands, .ref a2_mastPeg])), (a2_place, .inl (cI, 40, .inl f2_place)), (a2_mastPeg, .inl (cI, 40, .inl f2_mastPeg))] H := hP
          have hD : va_D A [(a7, .inr (7, [.ref a6, .ref a2, .ref a5, .ref a4, .ref a0, .ref a1, .ref a3])), (a2_trackAside, .inl (cJ, 40, .inr (.inl f2_trackAside))), (a2_side, .inl (cI, 40, .inl f2_side)), (a4, .inr (4, [.ref a6, .ref a2, .ref a5, .int v4_begin_c2, .int v4_end_c2, .long v4_wireAtBegin_c2, .long v4_wireAtEnd_c2])), (a2, .inr (2, [.int v2_count, .int v2_masts, .ref a2_place, .ref a2_price, .ref a2_trackAside, .ref a2_side, .ref a2_stands, .ref a2_mastPeg])), (a2_place, .inl (cI, 40, .inl f2_place)), (a2_mastPeg, .inl (cI, 40, .inl f2_mastPeg))] := hD
          refine lv_icmp_gt (tgt := 44) hx hb dX7_laySpanOver_34 (by decide) (fun c8 => ?_) (fun c8 => ?_)
          · replace hw := hw.1 (c8)
            exact k_44 v4_begin_c2 v4_end_c2 v4_wireAtBegin_c2 v4_wireAtEnd_c2 y2_1 y2_2 _ _ _ (hP.sub [0, 4, 5, 1, 2, 6, 3] rfl) (hD.sub [0, 4, 5, 1, 2, 6, 3] (by decide) rfl) hS (lv_sub hl [0, 1, 2] rfl) hw
          · replace hw := hw.2 (c8)
            refine lv_aload_n hx hb dX7_laySpanOver_37 rfl (lv_at hl 0 rfl) ?_
            refine lv_iload_n hx hb dX7_laySpanOver_38 rfl (lv_at hl 2 rfl) ?_
            have hPc := hP.sub (ws' := [(a7, .inr (7, [.ref a6, .ref a2, .ref a5, .ref a4, .ref a0, .ref a1, .ref a3])), (a2, .inr (2, [.int v2_count, .int v2_masts, .ref a2_place, .ref a2_price, .ref a2_trackAside, .ref a2_side, .ref a2_stands, .ref a2_mastPeg])), (a2_place, .inl (cI, 40, .inl f2_place)), (a2_trackAside, .inl (cJ, 40, .inr (.inl f2_trackAside))), (a2_side, .inl (cI, 40, .inl f2_side)), (a2_mastPeg, .inl (cI, 40, .inl f2_mastPeg)), (a4, .inr (4, [.ref a6, .ref a2, .ref a5, .int v4_begin_c2, .int v4_end_c2, .long v4_wireAtBegin_c2, .long v4_wireAtEnd_c2]))]) [0, 4, 5, 1, 2, 6, 3] rfl
            have hDc := hD.sub (ws' := [(a7, .inr (7, [.ref a6, .ref a2, .ref a5, .ref a4, .ref a0, .ref a1, .ref a3])), (a2, .inr (2, [.int v2_count, .int v2_masts, .ref a2_place, .ref a2_price, .ref a2_trackAside, .ref a2_side, .ref a2_stands, .ref a2_mastPeg])), (a2_place, .inl (cI, 40, .inl f2_place)), (a2_trackAside, .inl (cJ, 40, .inr (.inl f2_trackAside))), (a2_side, .inl (cI, 40, .inl f2_side)), (a2_mastPeg, .inl (cI, 40, .inl f2_mastPeg)), (a4, .inr (4, [.ref a6, .ref a2, .ref a5, .int v4_begin_c2, .int v4_end_c2, .long v4_wireAtBegin_c2, .long v4_wireAtEnd_c2]))]) [0, 4, 5, 1, 2, 6, 3] (by decide) rfl
            have hFc := va_free (wc := [(a7, .inr (7, [.ref a6, .ref a2, .ref a5, .ref a4, .ref a0, .ref a1, .ref a3])), (a2, .inr (2, [.int v2_count, .int v2_masts, .ref a2_place, .ref a2_price, .ref a2_trackAside, .ref a2_side, .ref a2_stands, .ref a2_mastPeg])), (a2_place, .inl (cI, 40, .inl f2_place)), (a2_trackAside, .inl (cJ, 40, .inr (.inl f2_trackAside))), (a2_side, .inl (cI, 40, .inl f2_side)), (a2_mastPeg, .inl (cI, 40, .inl f2_mastPeg)), (a4, .inr (4, [.ref a6, .ref a2, .ref a5, .int v4_begin_c2, .int v4_end_c2, .long v4_wireAtBegin_c2, .long v4_wireAtEnd_c2]))]) hD hS hA [0, 4, 5, 1, 2, 6, 3] rfl
            refine va_callv (va_runV (As := [.int y2_2]) (rest := []) ⟨hx, hb, hml, hown, hts⟩ (c_X7_laySpan l dC dI cI cJ cZ a7 a6 a2 a2_place a2_price a2_trackAside a2_side a2_stands a2_mastPeg a5 a4 a0 a1 a3 H.size v2_count v2_masts f2_place f2_trackAside f2_side f2_mastPeg v4_begin_c2 v4_end_c2 v4_wireAtBegin_c2 v4_wireAtEnd_c2 y2_2 _ hw) (cwV 1 hts gX7_laySpanOver_X7_laySpan rfl rfl rfl (by decide +kernel) ⟨Nat.le_of_ble_eq_true rfl, Nat.le_of_ble_eq_true rfl⟩) ⟨fun a U g mk q => by obtain ⟨q0, q1, qP, qK, qD⟩ := q; exact ⟨q0, q1, qP, va_K.moved (u := U) (U := U.calling g mk a) (Vm.Alike.refl U.vm) qK, qD⟩, va_recv hK hP (ci := 7) (q0 := 0) rfl rfl, fun U hU hW => ⟨rfl, by rw [hU], by rw [hU]; exact hPc, va_K.moved hW.alike hK, hDc.weaken (fun _ _ _ _ => trivial)⟩⟩ rfl rfl hl.1 rfl (lv_room (Nat.le_of_ble_eq_true rfl)) dX7_laySpanOver_39 ⟨(Nat.zero_le _), (Nat.zero_le _)⟩) hS (fun q _ h => hFc q h) hFc (fun u t H1 locs ht hvm hw hB hz1 hk1 hS => ?_)
            obtain ⟨m10, m11, m12, m13⟩ := u
            obtain ⟨hP1, -, hD1⟩ := hB
            try dsimp only at hw
            rw [ht] at hP1
            obtain ⟨hP, hD⟩ := va_join (wr := []) (w1 := [(a7, .inr (7, [.ref a6, .ref a2, .ref a5, .ref a4, .ref a0, .ref a1, .ref a3])), (a2, .inr (2, [.int v2_count, .int v2_masts, .ref a2_place, .ref a2_price, .ref a2_trackAside, .ref a2_side, .ref a2_stands, .ref a2_mastPeg])), (a2_place, .inl (cI, 40, .inl f2_place)), (a2_trackAside, .inl (cJ, 40, .inr (.inl f2_trackAside))), (a2_side, .inl (cI, 40, .inl f2_side)), (a2_mastPeg, .inl (cI, 40, .inl f2_mastPeg)), (a4, .inr (4, [.ref a6, .ref a2, .ref a5, .int m10, .int m11, .long m12, .long m13]))]) hP hD [0, 4, 5, 1, 2, 6, 3] [] rfl rfl (by decide) (by decide) hk1 hFc hP1 hD1
            generalize H1 = H at hP hS ⊢
            have hP : va_P (dC, dI) vwCl [(a7, .inr (7, [.ref a6, .ref a2, .ref a5, .ref a4, .ref a0, .ref a1, .ref a3])), (a2, .inr (2, [.int v2_count, .int v2_masts, .ref a2_place, .ref a2_price, .ref a2_trackAside, .ref a2_side, .ref a2_stands, .ref a2_mastPeg])), (a2_place, .inl (cI, 40, .inl f2_place)), (a2_trackAside, .inl (cJ, 40, .inr (.inl f2_trackAside))), (a2_side, .inl (cI, 40, .inl f2_side)), (a2_mastPeg, .inl (cI, 40, .inl f2_mastPeg)), (a4, .inr (4, [.ref a6, .ref a2, .ref a5, .int m10, .int m11, .long m12, .long m13]))] H := hP
            have hD : va_D A [(a7, .inr (7, [.ref a6, .ref a2, .ref a5, .ref a4, .ref a0, .ref a1, .ref a3])), (a2, .inr (2, [.int v2_count, .int v2_masts, .ref a2_place, .ref a2_price, .ref a2_trackAside, .ref a2_side, .ref a2_stands, .ref a2_mastPeg])), (a2_place, .inl (cI, 40, .inl f2_place)), (a2_trackAside, .inl (cJ, 40, .inr (.inl f2_trackAside))), (a2_side, .inl (cI, 40, .inl f2_side)), (a2_mastPeg, .inl (cI, 40, .inl f2_mastPeg)), (a4, .inr (4, [.ref a6, .ref a2, .ref a5, .int m10, .int m11, .long m12, .long m13]))] := hD
            refine lv_iconst (v := (1 : Int32)) hx hb dX7_laySpanOver_42 (by decide) ?_
            have hP9 := hP.sub (ws' := [(a7, .inr (7, [.ref a6, .ref a2, .ref a5, .ref a4, .ref a0, .ref a1, .ref a3])), (a2, .inr (2, [.int v2_count, .int v2_masts, .ref a2_place, .ref a2_price, .ref a2_trackAside, .ref a2_side, .ref a2_stands, .ref a2_mastPeg])), (a2_place, .inl (cI, 40, .inl f2_place)), (a2_trackAside, .inl (cJ, 40, .inr (.inl f2_trackAside))), (a2_side, .inl (cI, 40, .inl f2_side)), (a2_mastPeg, .inl (cI, 40, .inl f2_mastPeg)), (a4, .inr (4, [.ref a6, .ref a2, .ref a5, .int m10, .int m11, .long m12, .long m13]))]) [0, 1, 2, 3, 4, 5, 6] rfl
            have hD9 := hD.sub (ws' := [(a7, .inr (7, [.ref a6, .ref a2, .ref a5, .ref a4, .ref a0, .ref a1, .ref a3])), (a2, .inr (2, [.int v2_count, .int v2_masts, .ref a2_place, .ref a2_price, .ref a2_trackAside, .ref a2_side, .ref a2_stands, .ref a2_mastPeg])), (a2_place, .inl (cI, 40, .inl f2_place)), (a2_trackAside, .inl (cJ, 40, .inr (.inl f2_trackAside))), (a2_side, .inl (cI, 40, .inl f2_side)), (a2_mastPeg, .inl (cI, 40, .inl f2_mastPeg)), (a4, .inr (4, [.ref a6, .ref a2, .ref a5, .int m10, .int m11, .long m12, .long m13]))]) [0, 1, 2, 3, 4, 5, 6] (by decide) rfl
            obtain ⟨h14, hw⟩ := hw
            exact W.zret (v := (1 : Int32)) hx hb hr (wg_bool h14) (fun t ht hW => ⟨⟨(1 : Int32), (m10, m11, m12, m13), rfl, hw, by rw [ht]; exact hP9, va_K.moved hW.alike hK, hD9⟩, hS.F ht⟩) hS.2.2 dX7_laySpanOver_43
  have hl := lv_entry ([.ref a7, .int p1]) (n := 3) (Nat.le_of_ble_eq_true rfl)
  rw [lg_entry_eq]
  generalize (lg_sl ([.ref a7, .int p1]) ++ List.replicate (3 - (lg_sl ([.ref a7, .int p1])).length) Slot.unset).toArray = ls at hl ⊢
  have hl : lv_has ls 3 [(0, .ref a7), (1, .int p1)] := hl
  obtain ⟨H, hHe⟩ : ∃ H, H = s.heap := ⟨_, rfl⟩
  rw [← hHe] at hP
  have hS : va_S A s.heap H [] := by rw [hHe]; exact hS
  rw [← hHe]
  unfold wp_X7_laySpanOver at hw
  refine lv_iconst (v := (0 : Int32)) hx hb dX7_laySpanOver_0 (by decide) ?_
  refine lv_istore_n (lv' := [(2, .int (0 : Int32)), (0, .ref a7), (1, .int p1)]) hx hb dX7_laySpanOver_1 rfl hl (by decide) rfl (fun ls hl => ?_)
  obtain ⟨n_2, hw⟩ := hw
  exact k_2 n_2 v4_begin v4_end v4_wireAtBegin v4_wireAtEnd p1 (0 : Int32) _ _ _ (hP.sub [0, 1, 2, 3, 4, 5, 6] rfl) (hD.sub [0, 1, 2, 3, 4, 5, 6] (by decide) rfl) hS (lv_sub hl [1, 2, 0] rfl) hw

def wb_X7_commonDivisor_3 (Q : Int64 → Prop) (K3 : (Int64) → (Int64) → (Int32) → Prop) (y3_0 : Int64) (y3_2 : Int64) (y3_4 : Int32) : Prop :=
  (((100 : Int32) ≤ y3_4 → (Q y3_0 )) ∧ (¬ (100 : Int32) ≤ y3_4 → ((y3_2 = (0 : Int64) → (Q y3_0 )) ∧ (¬ y3_2 = (0 : Int64) → ((¬ y3_2 = 0) ∧ (∀ x4 : Int64, x4 = (y3_0 - y3_0 / y3_2 * y3_2) → (∀ x5 : Int32, x5 = y3_4 + (1 : Int32) → (K3 y3_2 x4 x5))))))))
def wl_X7_commonDivisor_3 (Q : Int64 → Prop) : Nat → (Int64) → (Int64) → (Int32) → Prop
  | 0, _, _, _ => False
  | n + 1, y3_0, y3_2, y3_4 => wb_X7_commonDivisor_3 Q  (wl_X7_commonDivisor_3 Q  n) y3_0 y3_2 y3_4
def wp_X7_commonDivisor (Q : Int64 → Prop) (p1 : Int64) (p2 : Int64) : Prop :=
  (∃ n : Nat, wl_X7_commonDivisor_3 Q  n p1 p2 (0 : Int32))
set_option maxHeartbeats 4000000 in
set_option maxRecDepth 100000 in
theorem c_X7_commonDivisor (l : Launch) (dC : Nat → ClassId) (dI : Nat → Nat → Nat) (cI cJ cZ : ClassId) (sz : Nat) (p1 : Int64) (p2 : Int64) (Q : Int64 → Prop) (hw : wp_X7_commonDivisor Q  p1 p2) : Met l yX7_commonDivisor wsX7_commonDivisor ({ frames := 0, cells := 0, slots := 0, locals := 0 } : Room) (va_Pc [.long p1, .long p2] (fun U => U.heap.size = sz ∧ va_P (dC, dI) vwCl [] U.heap ∧ va_K (dC, dI) vwCl [(cI, .int), (cJ, .long), (cZ, .boolean)] U ∧ va_D (fun _ => True) [])) (va_Ql (fun r (u : Unit) => Q r) (fun (u : Unit) t => va_P (dC, dI) vwCl [] t.heap ∧ va_K (dC, dI) vwCl [(cI, .int), (cJ, .long), (cZ, .boolean)] t ∧ va_D (va_A [] sz) []) (va_A [] sz)) 0 0 (va_A [] sz) := by
  refine Met.ofW (cc := cX7_commonDivisor) (maxL := 7) (ret := (some .long)) (by decide) rfl ?_
  intro p e s m args below meth c s₁ B hml hv
  obtain ⟨rfl, hsz, hP, hK, hD0⟩ := hv
  have hx := B.exec
  have hb := B.bytes
  have hr := B.returns
  have hts := atoms_spec (ws := wsX7_commonDivisor) B.pre
  have hown : s.vm.findClass RX7 = some m.cls := findClass_of_methodNamed B.named
  have hlocks := B.notSynchronized
  subst hsz
  have hD := hD0.self (sz := s.heap.size)
  generalize hAe : va_A [] s.heap.size = A at hD ⊢
  have hA : ∀ q : Nat, s.heap.size ≤ q → A q := fun q h => by rw [← hAe]; exact Or.inr h
  have hS : va_S A s.heap s.heap [] := va_S.rf
  have hP : va_P (dC, dI) vwCl [] s.heap := hP
  have k_3 : ∀ (n_3 : Nat) (y3_0 : Int64) (y3_2 : Int64) (y3_4 : Int32) (H : Heap) (locs : List Loc) (ls : Array Slot), va_P (dC, dI) vwCl [] H → va_D A [] → va_S A s.heap H locs → lv_has ls 7 [(0, .long y3_0), (2, .long y3_2), (4, .int y3_4)] → (wl_X7_commonDivisor_3 Q  n_3 y3_0 y3_2 y3_4) → W p l e (headSpec wsX7_commonDivisor ({ frames := 0, cells := 0, slots := 0, locals := 0 } : Room)).room s m [.long p1, .long p2].toArray below meth c H locs 0 0 (MQ below (va_Ql (fun r (u : Unit) => Q r) (fun (u : Unit) t => va_P (dC, dI) vwCl [] t.heap ∧ va_K (dC, dI) vwCl [(cI, .int), (cJ, .long), (cZ, .boolean)] t ∧ va_D A []) A) [.long p1, .long p2].toArray s 0 0 A) (F0 m 3 ls []) := by
    intro n_3
    induction n_3 with
    | zero =>
      intro y3_0 y3_2 y3_4 H locs ls hP hD hS hl hw
      exact False.elim hw
    | succ n_3 ih_3 =>
      intro y3_0 y3_2 y3_4 H locs ls hP hD hS hl hw
      replace hw : wb_X7_commonDivisor_3 Q  (wl_X7_commonDivisor_3 Q  n_3) y3_0 y3_2 y3_4 := hw
      unfold wb_X7_commonDivisor_3 at hw
      refine lv_iload hx hb dX7_commonDivisor_3 (lv_at hl 2 rfl) ?_
      refine lv_bipush (v := (100 : Int32)) hx hb dX7_commonDivisor_5 (by decide) ?_
      refine lv_icmp_ge (tgt := 32) hx hb dX7_commonDivisor_7 (by decide) (fun c1 => ?_) (fun c1 => ?_)
      · replace hw := hw.1 (c1)
        refine lv_lload_n hx hb dX7_commonDivisor_32 rfl (lv_at hl 0 rfl) ?_
        have hP9 := hP.sub (ws' := []) [] rfl
        have hD9 := hD.sub (ws' := []) [] (by decide) rfl
        exact W.lret (v := y3_0) hx hb hr (fun t ht hW => ⟨⟨y3_0, (), rfl, hw, by rw [ht]; exact hP9, va_K.moved hW.alike hK, hD9⟩, hS.F ht⟩) hS.2.2 dX7_commonDivisor_33
      · replace hw := hw.2 (c1)
        refine lv_lload_n hx hb dX7_commonDivisor_10 rfl (lv_at hl 1 rfl) ?_
        refine lv_lconst (v := (0 : Int64)) hx hb dX7_commonDivisor_11 (by decide) ?_
        refine W.lcmp hx hb dX7_commonDivisor_12 ?_
        refine lv_if_eq (tgt := 32) hx hb dX7_commonDivisor_13 (by decide) (fun c2 => ?_) (fun c2 => ?_)
        · replace hw := hw.1 ((lg_cmp_eq _ _).mp c2)
          refine lv_lload_n hx hb dX7_commonDivisor_32 rfl (lv_at hl 0 rfl) ?_
          have hP9 := hP.sub (ws' := []) [] rfl
          have hD9 := hD.sub (ws' := []) [] (by decide) rfl
          exact W.lret (v := y3_0) hx hb hr (fun t ht hW => ⟨⟨y3_0, (), rfl, hw, by rw [ht]; exact hP9, va_K.moved hW.alike hK, hD9⟩, hS.F ht⟩) hS.2.2 dX7_commonDivisor_33
        · replace hw := hw.2 (fun z => c2 ((lg_cmp_eq _ _).mpr z))
          refine lv_lload_n hx hb dX7_commonDivisor_16 rfl (lv_at hl 0 rfl) ?_
          refine lv_lload_n hx hb dX7_commonDivisor_17 rfl (lv_at hl 1 rfl) ?_
          obtain ⟨h3, hw⟩ := hw
          refine lv_lrem hx hb dX7_commonDivisor_18 h3 ?_
          refine lv_topl (fun x4 ex4 => ?_)
          replace hw := hw x4 ex4
          refine lv_lstore (lv' := [(5, .long x4), (0, .long y3_0), (2, .long y3_2), (4, .int y3_4)]) hx hb dX7_commonDivisor_19 hl (by decide) rfl (fun ls hl => ?_)
          refine lv_lload_n hx hb dX7_commonDivisor_21 rfl (lv_at hl 2 rfl) ?_
          refine lv_lstore_n (lv' := [(0, .long y3_2), (5, .long x4), (2, .long y3_2), (4, .int y3_4)]) hx hb dX7_commonDivisor_22 rfl hl (by decide) rfl (fun ls hl => ?_)
          refine lv_lload hx hb dX7_commonDivisor_23 (lv_at hl 1 rfl) ?_
          refine lv_lstore_n (lv' := [(2, .long x4), (0, .long y3_2), (5, .long x4), (4, .int y3_4)]) hx hb dX7_commonDivisor_25 rfl hl (by decide) rfl (fun ls hl => ?_)
          obtain ⟨x5, ex5⟩ : ∃ y : Int32, y = y3_4 + (1 : Int32) := ⟨_, rfl⟩
          replace hw := hw x5 ex5
          refine lv_iinc (v := x5) (lv' := [(4, .int x5), (2, .long x4), (0, .long y3_2), (5, .long x4)]) hx hb dX7_commonDivisor_26 hl (k := 3) rfl (by rw [ex5]; rfl) (by decide) rfl (fun ls hl => ?_)
          refine lv_goto (tgt := 3) hx hb dX7_commonDivisor_29 (by decide) ?_
          exact ih_3 y3_2 x4 x5 _ _ _ (hP.sub [] rfl) (hD.sub [] (by decide) rfl) hS (lv_sub hl [2, 1, 0] rfl) hw
  have hl := lv_entry ([.long p1, .long p2]) (n := 7) (Nat.le_of_ble_eq_true rfl)
  rw [lg_entry_eq]
  generalize (lg_sl ([.long p1, .long p2]) ++ List.replicate (7 - (lg_sl ([.long p1, .long p2])).length) Slot.unset).toArray = ls at hl ⊢
  have hl : lv_has ls 7 [(0, .long p1), (2, .long p2)] := hl
  obtain ⟨H, hHe⟩ : ∃ H, H = s.heap := ⟨_, rfl⟩
  rw [← hHe] at hP
  have hS : va_S A s.heap H [] := by rw [hHe]; exact hS
  rw [← hHe]
  unfold wp_X7_commonDivisor at hw
  refine lv_iconst (v := (0 : Int32)) hx hb dX7_commonDivisor_0 (by decide) ?_
  refine lv_istore (lv' := [(4, .int (0 : Int32)), (0, .long p1), (2, .long p2)]) hx hb dX7_commonDivisor_1 hl (by decide) rfl (fun ls hl => ?_)
  obtain ⟨n_3, hw⟩ := hw
  exact k_3 n_3 p1 p2 (0 : Int32) _ _ _ (hP.sub [] rfl) (hD.sub [] (by decide) rfl) hS (lv_sub hl [1, 2, 0] rfl) hw

def wp_X7_part (Q : Int64 → Prop) (p1 : Int64) (p2 : Int64) (p3 : Int32) : Prop :=
  (∀ x1 : Int64, x1 = (if 0 < p1 then p1 else -p1) → (wp_X7_commonDivisor (fun r2 => ((r2 = (0 : Int64) → (Q (-1000000000000000 : Int64) )) ∧ (¬ r2 = (0 : Int64) → ((p3 = 0 → ((¬ r2 = 0) ∧ (Q (p1 / r2) ))) ∧ (¬ p3 = 0 → ((¬ r2 = 0) ∧ (Q (p2 / r2) ))))))) x1 p2))
set_option maxHeartbeats 4000000 in
set_option maxRecDepth 100000 in
theorem c_X7_part (l : Launch) (dC : Nat → ClassId) (dI : Nat → Nat → Nat) (cI cJ cZ : ClassId) (sz : Nat) (p1 : Int64) (p2 : Int64) (p3 : Int32) (Q : Int64 → Prop) (hw : wp_X7_part Q  p1 p2 p3) : Met l yX7_part wsX7_part ({ frames := 1, cells := 0, slots := 0, locals := 26 } : Room) (va_Pc [.long p1, .long p2, .int p3] (fun U => U.heap.size = sz ∧ va_P (dC, dI) vwCl [] U.heap ∧ va_K (dC, dI) vwCl [(cI, .int), (cJ, .long), (cZ, .boolean)] U ∧ va_D (fun _ => True) [])) (va_Ql (fun r (u : Unit) => Q r) (fun (u : Unit) t => va_P (dC, dI) vwCl [] t.heap ∧ va_K (dC, dI) vwCl [(cI, .int), (cJ, .long), (cZ, .boolean)] t ∧ va_D (va_A [] sz) []) (va_A [] sz)) 0 0 (va_A [] sz) := by
  refine Met.ofW (cc := cX7_part) (maxL := 7) (ret := (some .long)) (by decide) rfl ?_
  intro p e s m args below meth c s₁ B hml hv
  obtain ⟨rfl, hsz, hP, hK, hD0⟩ := hv
  have hx := B.exec
  have hb := B.bytes
  have hr := B.returns
  have hts := atoms_spec (ws := wsX7_part) B.pre
  have hown : s.vm.findClass RX7 = some m.cls := findClass_of_methodNamed B.named
  have hlocks := B.notSynchronized
  subst hsz
  have hD := hD0.self (sz := s.heap.size)
  generalize hAe : va_A [] s.heap.size = A at hD ⊢
  have hA : ∀ q : Nat, s.heap.size ≤ q → A q := fun q h => by rw [← hAe]; exact Or.inr h
  have hS : va_S A s.heap s.heap [] := va_S.rf
  have hP : va_P (dC, dI) vwCl [] s.heap := hP
  have lk1 := hts (.methodLink RX7 263 Lib.MathLoose.abs_long.x) (by decide +kernel)
  have lk2 := hts (.static Lib.MathLoose.abs_long.x) (by decide +kernel)
  have lk3 := hts (.initialized "java/lang/Math") (by decide +kernel)
  have lk4 := hts (.code Lib.MathLoose.abs_long.x Lib.MathLoose.abs_long.code 2 (some .long)) (by decide +kernel)
  have lk5 := hts (.constantLong RX7 199 (-1000000000000000)) (by decide +kernel)
  have hl := lv_entry ([.long p1, .long p2, .int p3]) (n := 7) (Nat.le_of_ble_eq_true rfl)
  rw [lg_entry_eq]
  generalize (lg_sl ([.long p1, .long p2, .int p3]) ++ List.replicate (7 - (lg_sl ([.long p1, .long p2, .int p3])).length) Slot.unset).toArray = ls at hl ⊢
  have hl : lv_has ls 7 [(0, .long p1), (2, .long p2), (4, .int p3)] := hl
  obtain ⟨H, hHe⟩ : ∃ H, H = s.heap := ⟨_, rfl⟩
  rw [← hHe] at hP
  have hS : va_S A s.heap H [] := by rw [hHe]; exact hS
  rw [← hHe]
  unfold wp_X7_part at hw
  refine lv_lload_n hx hb dX7_part_0 rfl (lv_at hl 0 rfl) ?_
  refine va_mabs_long hx hb (hml.trans hl.1.symm) hown lk1 lk2 lk3 lk4 (Nat.le_of_ble_eq_true rfl) (Nat.le_of_ble_eq_true rfl) (Nat.le_of_ble_eq_true rfl) (Nat.le_of_ble_eq_true rfl) dX7_part_1 ?_
  refine lv_topl (fun x1 ex1 => ?_)
  replace hw := hw x1 ex1
  refine lv_lload_n hx hb dX7_part_4 rfl (lv_at hl 1 rfl) ?_
  have hPc := hP.sub (ws' := []) [] rfl
  have hDc := hD.sub (ws' := []) [] (by decide) rfl
  have hFc := va_free (wc := []) hD hS hA [] rfl
  refine va_calll (va_runS (As := [.long x1, .long p2]) (rest := []) ⟨hx, hb, hml, hown, hts⟩ (c_X7_commonDivisor l dC dI cI cJ cZ H.size x1 p2 _ hw) (va_cwS 2 hts gX7_part_X7_commonDivisor rfl rfl rfl (by decide +kernel) ⟨Nat.le_of_ble_eq_true rfl, Nat.le_of_ble_eq_true rfl⟩) ⟨fun a U g mk q => by obtain ⟨q0, q1, qP, qK, qD⟩ := q; exact ⟨q0, q1, qP, va_K.moved (u := U) (U := U.calling g mk a) (Vm.Alike.refl U.vm) qK, qD⟩, fun U hU hW => ⟨rfl, by rw [hU], by rw [hU]; exact hPc, va_K.moved hW.alike hK, hDc.weaken (fun _ _ _ _ => trivial)⟩⟩ rfl rfl hl.1 rfl (lv_room (Nat.le_of_ble_eq_true rfl)) dX7_part_5 ⟨(Nat.zero_le _), (Nat.zero_le _)⟩) hS (fun q _ h => hFc q h) hFc (fun r2 u t H1 locs ht hvm hw hB hz1 hk1 hS => ?_)
  obtain ⟨hP1, -, hD1⟩ := hB
  try dsimp only at hw
  rw [ht] at hP1
  obtain ⟨hP, hD⟩ := va_join (wr := []) (w1 := []) hP hD [] [] rfl rfl (by decide) (by decide) hk1 hFc hP1 hD1
  generalize H1 = H at hP hS ⊢
  have hP : va_P (dC, dI) vwCl [] H := hP
  have hD : va_D A [] := hD
  refine lv_lstore (lv' := [(5, .long r2), (0, .long p1), (2, .long p2), (4, .int p3)]) hx hb dX7_part_8 hl (by decide) rfl (fun ls hl => ?_)
  refine lv_lload hx hb dX7_part_10 (lv_at hl 0 rfl) ?_
  refine lv_lconst (v := (0 : Int64)) hx hb dX7_part_12 (by decide) ?_
  refine W.lcmp hx hb dX7_part_13 ?_
  refine lv_if_ne (tgt := 21) hx hb dX7_part_14 (by decide) (fun c3 => ?_) (fun c3 => ?_)
  · replace hw := hw.2 (fun z => c3 ((lg_cmp_eq _ _).mpr z))
    refine lv_iload hx hb dX7_part_21 (lv_at hl 3 rfl) ?_
    refine lv_if_ne (tgt := 33) hx hb dX7_part_23 (by decide) (fun c4 => ?_) (fun c4 => ?_)
    · replace hw := hw.2 (c4)
      refine lv_lload_n hx hb dX7_part_33 rfl (lv_at hl 2 rfl) ?_
      refine lv_lload hx hb dX7_part_34 (lv_at hl 0 rfl) ?_
      obtain ⟨h5, hw⟩ := hw
      refine lv_ldiv hx hb dX7_part_36 h5 ?_
      have hP9 := hP.sub (ws' := []) [] rfl
      have hD9 := hD.sub (ws' := []) [] (by decide) rfl
      exact W.lret (v := (p2 / r2)) hx hb hr (fun t ht hW => ⟨⟨(p2 / r2), (), rfl, hw, by rw [ht]; exact hP9, va_K.moved hW.alike hK, hD9⟩, hS.F ht⟩) hS.2.2 dX7_part_37
    · replace hw := hw.1 (c4)
      refine lv_lload_n hx hb dX7_part_26 rfl (lv_at hl 1 rfl) ?_
      refine lv_lload hx hb dX7_part_27 (lv_at hl 0 rfl) ?_
      obtain ⟨h6, hw⟩ := hw
      refine lv_ldiv hx hb dX7_part_29 h6 ?_
      refine lv_goto (tgt := 37) hx hb dX7_part_30 (by decide) ?_
      have hP9 := hP.sub (ws' := []) [] rfl
      have hD9 := hD.sub (ws' := []) [] (by decide) rfl
      exact W.lret (v := (p1 / r2)) hx hb hr (fun t ht hW => ⟨⟨(p1 / r2), (), rfl, hw, by rw [ht]; exact hP9, va_K.moved hW.alike hK, hD9⟩, hS.F ht⟩) hS.2.2 dX7_part_37
  · replace hw := hw.1 ((lg_cmp_eq _ _).mp c3)
    refine lv_ldc2 (v := (-1000000000000000 : Int64)) hx hb hown lk5 dX7_part_17 ?_
    have hP9 := hP.sub (ws' := []) [] rfl
    have hD9 := hD.sub (ws' := []) [] (by decide) rfl
    exact W.lret (v := (-1000000000000000 : Int64)) hx hb hr (fun t ht hW => ⟨⟨(-1000000000000000 : Int64), (), rfl, hw, by rw [ht]; exact hP9, va_K.moved hW.alike hK, hD9⟩, hS.F ht⟩) hS.2.2 dX7_part_20
