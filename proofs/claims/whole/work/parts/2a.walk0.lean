theorem inX0_lower_X0 : ∀ w ∈ wsX00, w ∈ wsX0_lower := fun _ h => List.mem_cons_of_mem _ (List.mem_append_right _ h)
def wp_X0_lower (Q : Int64 → Prop) (v0_tension : Int32) (v0_droppers : Int32) : Prop :=
  (Q ((((8 : Int64) * v0_droppers.toInt64) * v0_droppers.toInt64) * v0_tension.toInt64) )
set_option maxHeartbeats 4000000 in
set_option maxRecDepth 100000 in
theorem c_X0_lower (l : Launch) (dC : Nat → ClassId) (dI : Nat → Nat → Nat) (cI cJ cZ : ClassId) (a0 : Nat) (sz : Nat) (v0_tension : Int32) (v0_own : Int32) (v0_droppers : Int32) (v0_load : Int32) (v0_hang : Int32) (Q : Int64 → Prop) (hw : wp_X0_lower Q v0_tension v0_droppers ) : Met l yX0_lower wsX0_lower ({ frames := 0, cells := 0, slots := 0, locals := 0 } : Room) (va_Pc [.ref a0] (fun U => U.heap.size = sz ∧ va_P (dC, dI) vwCl [(a0, .inr (0, [.int v0_tension, .int v0_own, .int v0_droppers, .int v0_load, .int v0_hang]))] U.heap ∧ va_K (dC, dI) vwCl [(cI, .int), (cJ, .long), (cZ, .boolean)] U ∧ va_D (fun _ => True) [(a0, .inr (0, [.int v0_tension, .int v0_own, .int v0_droppers, .int v0_load, .int v0_hang]))])) (va_Ql (fun r (u : Unit) => Q r) (fun (u : Unit) t => va_P (dC, dI) vwCl [(a0, .inr (0, [.int v0_tension, .int v0_own, .int v0_droppers, .int v0_load, .int v0_hang]))] t.heap ∧ va_K (dC, dI) vwCl [(cI, .int), (cJ, .long), (cZ, .boolean)] t ∧ va_D (va_A [(a0, .inr (0, [.int v0_tension, .int v0_own, .int v0_droppers, .int v0_load, .int v0_hang]))] sz) [(a0, .inr (0, [.int v0_tension, .int v0_own, .int v0_droppers, .int v0_load, .int v0_hang]))]) (va_A [(a0, .inr (0, [.int v0_tension, .int v0_own, .int v0_droppers, .int v0_load, .int v0_hang]))] sz)) 0 0 (va_A [(a0, .inr (0, [.int v0_tension, .int v0_own, .int v0_droppers, .int v0_load, .int v0_hang]))] sz) := by
  refine Met.ofW (cc := cX0_lower) (maxL := 1) (ret := (some .long)) (by decide) rfl ?_
  intro p e s m args below meth c s₁ B hml hv
  obtain ⟨rfl, hsz, hP, hK, hD0⟩ := hv
  have hx := B.exec
  have hb := B.bytes
  have hr := B.returns
  have hts := atoms_spec (ws := wsX0_lower) B.pre
  have hown : s.vm.findClass RX0 = some m.cls := findClass_of_methodNamed B.named
  have hlocks := B.notSynchronized
  subst hsz
  have hD := hD0.self (sz := s.heap.size)
  generalize hAe : va_A [(a0, .inr (0, [.int v0_tension, .int v0_own, .int v0_droppers, .int v0_load, .int v0_hang]))] s.heap.size = A at hD ⊢
  have hA : ∀ q : Nat, s.heap.size ≤ q → A q := fun q h => by rw [← hAe]; exact Or.inr h
  have hS : va_S A s.heap s.heap [] := va_S.rf
  have hP : va_P (dC, dI) vwCl [(a0, .inr (0, [.int v0_tension, .int v0_own, .int v0_droppers, .int v0_load, .int v0_hang]))] s.heap := hP
  have lk1 := hts (.constantLong RX0 25 (8)) (by decide +kernel)
  have lk2 := hts (.fieldLink RX0 16 "WireRow$Carrier" "droppers" "I") (by decide +kernel)
  have lk3 := hts (.fieldLink RX0 7 "WireRow$Carrier" "tension" "I") (by decide +kernel)
  have hl := lv_entry ([.ref a0]) (n := 1) (Nat.le_of_ble_eq_true rfl)
  rw [lg_entry_eq]
  generalize (lg_sl ([.ref a0]) ++ List.replicate (1 - (lg_sl ([.ref a0])).length) Slot.unset).toArray = ls at hl ⊢
  have hl : lv_has ls 1 [(0, .ref a0)] := hl
  obtain ⟨H, hHe⟩ : ∃ H, H = s.heap := ⟨_, rfl⟩
  rw [← hHe] at hP
  have hS : va_S A s.heap H [] := by rw [hHe]; exact hS
  rw [← hHe]
  unfold wp_X0_lower at hw
  refine lv_ldc2 (v := (8 : Int64)) hx hb hown lk1 dX0_lower_0 ?_
  refine lv_aload_n hx hb dX0_lower_3 rfl (lv_at hl 0 rfl) ?_
  refine va_get (D := (dC, dI)) (ci := 0) (v := .int v0_droppers) (C := RX0) (T := TX0) (N := 5) hx hb hts inX0_lower_X0 hown hK hP 0 rfl rfl 2 (by decide) lk2 (fun _ h9 => h9) rfl dX0_lower_4 ?_
  refine lv_i2l (v := v0_droppers.toInt64) hx hb dX0_lower_7 rfl ?_
  refine lv_lmul hx hb dX0_lower_8 ?_
  refine lv_aload_n hx hb dX0_lower_9 rfl (lv_at hl 0 rfl) ?_
  refine va_get (D := (dC, dI)) (ci := 0) (v := .int v0_droppers) (C := RX0) (T := TX0) (N := 5) hx hb hts inX0_lower_X0 hown hK hP 0 rfl rfl 2 (by decide) lk2 (fun _ h9 => h9) rfl dX0_lower_10 ?_
  refine lv_i2l (v := v0_droppers.toInt64) hx hb dX0_lower_13 rfl ?_
  refine lv_lmul hx hb dX0_lower_14 ?_
  refine lv_aload_n hx hb dX0_lower_15 rfl (lv_at hl 0 rfl) ?_
  refine va_get (D := (dC, dI)) (ci := 0) (v := .int v0_tension) (C := RX0) (T := TX0) (N := 5) hx hb hts inX0_lower_X0 hown hK hP 0 rfl rfl 0 (by decide) lk3 (fun _ h9 => h9) rfl dX0_lower_16 ?_
  refine lv_i2l (v := v0_tension.toInt64) hx hb dX0_lower_19 rfl ?_
  refine lv_lmul hx hb dX0_lower_20 ?_
  have hP9 := hP.sub (ws' := [(a0, .inr (0, [.int v0_tension, .int v0_own, .int v0_droppers, .int v0_load, .int v0_hang]))]) [0] rfl
  have hD9 := hD.sub (ws' := [(a0, .inr (0, [.int v0_tension, .int v0_own, .int v0_droppers, .int v0_load, .int v0_hang]))]) [0] (by decide) rfl
  exact W.lret (v := ((((8 : Int64) * v0_droppers.toInt64) * v0_droppers.toInt64) * v0_tension.toInt64)) hx hb hr (fun t ht hW => ⟨⟨((((8 : Int64) * v0_droppers.toInt64) * v0_droppers.toInt64) * v0_tension.toInt64), (), rfl, hw, by rw [ht]; exact hP9, va_K.moved hW.alike hK, hD9⟩, hS.F ht⟩) hS.2.2 dX0_lower_21

theorem inX0_sagUpper_X0 : ∀ w ∈ wsX00, w ∈ wsX0_sagUpper := fun _ h => List.mem_cons_of_mem _ (List.mem_append_right _ h)
def wb_X0_sagUpper_20 (Q : Int64 → Prop) (v0_own : Int32) (v0_droppers : Int32) (v0_load : Int32) (K20 : (Int32) → (Int32) → (Int32) → (Int64) → (Int32) → Prop) (y20_1 : Int32) (y20_3 : Int32) (y20_4 : Int32) (y20_5 : Int64) (y20_7 : Int32) : Prop :=
  ((v0_droppers ≤ y20_7 → (∀ x4 : Int64, x4 = ((((v0_own.toInt64 * y20_1.toInt64) * y20_1.toInt64) * y20_4.toInt64) * (y20_3 - y20_4).toInt64) → (Q (x4 + ((((2 : Int64) * v0_load.toInt64) * y20_1.toInt64) * y20_5)) ))) ∧ (¬ v0_droppers ≤ y20_7 → (∀ x5 : Int32, x5 = (((2 : Int32) * y20_7) + (1 : Int32)) → (∀ x6 : Int32, x6 = (if x5 < y20_4 then x5 else y20_4) → (∀ x7 : Int32, x7 = (if y20_4 < x5 then x5 else y20_4) → (∀ x8 : Int64, x8 = (y20_5 + (x6 * (y20_3 - x7)).toInt64) → (∀ x9 : Int32, x9 = y20_7 + (1 : Int32) → (K20 y20_1 y20_3 y20_4 x8 x9))))))))
def wl_X0_sagUpper_20 (Q : Int64 → Prop) (v0_own : Int32) (v0_droppers : Int32) (v0_load : Int32) : Nat → (Int32) → (Int32) → (Int32) → (Int64) → (Int32) → Prop
  | 0, _, _, _, _, _ => False
  | n + 1, y20_1, y20_3, y20_4, y20_5, y20_7 => wb_X0_sagUpper_20 Q v0_own v0_droppers v0_load  (wl_X0_sagUpper_20 Q v0_own v0_droppers v0_load  n) y20_1 y20_3 y20_4 y20_5 y20_7
def wp_X0_sagUpper (Q : Int64 → Prop) (v0_own : Int32) (v0_droppers : Int32) (v0_load : Int32) (p1 : Int32) (p2 : Int32) : Prop :=
  (∀ x1 : Int32, x1 = ((2 : Int32) * v0_droppers) → (∀ x2 : Int32, x2 = (((2 : Int32) * p2) + (1 : Int32)) → (∃ n : Nat, wl_X0_sagUpper_20 Q v0_own v0_droppers v0_load  n p1 x1 x2 (0 : Int64) (0 : Int32))))
set_option maxHeartbeats 4000000 in
set_option maxRecDepth 100000 in
theorem c_X0_sagUpper (l : Launch) (dC : Nat → ClassId) (dI : Nat → Nat → Nat) (cI cJ cZ : ClassId) (a0 : Nat) (sz : Nat) (v0_tension : Int32) (v0_own : Int32) (v0_droppers : Int32) (v0_load : Int32) (v0_hang : Int32) (p1 : Int32) (p2 : Int32) (Q : Int64 → Prop) (hw : wp_X0_sagUpper Q v0_own v0_droppers v0_load p1 p2) : Met l yX0_sagUpper wsX0_sagUpper ({ frames := 1, cells := 0, slots := 0, locals := 21 } : Room) (va_Pc [.ref a0, .int p1, .int p2] (fun U => U.heap.size = sz ∧ va_P (dC, dI) vwCl [(a0, .inr (0, [.int v0_tension, .int v0_own, .int v0_droppers, .int v0_load, .int v0_hang]))] U.heap ∧ va_K (dC, dI) vwCl [(cI, .int), (cJ, .long), (cZ, .boolean)] U ∧ va_D (fun _ => True) [(a0, .inr (0, [.int v0_tension, .int v0_own, .int v0_droppers, .int v0_load, .int v0_hang]))])) (va_Ql (fun r (u : Unit) => Q r) (fun (u : Unit) t => va_P (dC, dI) vwCl [(a0, .inr (0, [.int v0_tension, .int v0_own, .int v0_droppers, .int v0_load, .int v0_hang]))] t.heap ∧ va_K (dC, dI) vwCl [(cI, .int), (cJ, .long), (cZ, .boolean)] t ∧ va_D (va_A [(a0, .inr (0, [.int v0_tension, .int v0_own, .int v0_droppers, .int v0_load, .int v0_hang]))] sz) [(a0, .inr (0, [.int v0_tension, .int v0_own, .int v0_droppers, .int v0_load, .int v0_hang]))]) (va_A [(a0, .inr (0, [.int v0_tension, .int v0_own, .int v0_droppers, .int v0_load, .int v0_hang]))] sz)) 0 0 (va_A [(a0, .inr (0, [.int v0_tension, .int v0_own, .int v0_droppers, .int v0_load, .int v0_hang]))] sz) := by
  refine Met.ofW (cc := cX0_sagUpper) (maxL := 9) (ret := (some .long)) (by decide) rfl ?_
  intro p e s m args below meth c s₁ B hml hv
  obtain ⟨rfl, hsz, hP, hK, hD0⟩ := hv
  have hx := B.exec
  have hb := B.bytes
  have hr := B.returns
  have hts := atoms_spec (ws := wsX0_sagUpper) B.pre
  have hown : s.vm.findClass RX0 = some m.cls := findClass_of_methodNamed B.named
  have hlocks := B.notSynchronized
  subst hsz
  have hD := hD0.self (sz := s.heap.size)
  generalize hAe : va_A [(a0, .inr (0, [.int v0_tension, .int v0_own, .int v0_droppers, .int v0_load, .int v0_hang]))] s.heap.size = A at hD ⊢
  have hA : ∀ q : Nat, s.heap.size ≤ q → A q := fun q h => by rw [← hAe]; exact Or.inr h
  have hS : va_S A s.heap s.heap [] := va_S.rf
  have hP : va_P (dC, dI) vwCl [(a0, .inr (0, [.int v0_tension, .int v0_own, .int v0_droppers, .int v0_load, .int v0_hang]))] s.heap := hP
  have lk1 := hts (.fieldLink RX0 16 "WireRow$Carrier" "droppers" "I") (by decide +kernel)
  have lk2 := hts (.fieldLink RX0 13 "WireRow$Carrier" "own" "I") (by decide +kernel)
  have lk3 := hts (.constantLong RX0 36 (2)) (by decide +kernel)
  have lk4 := hts (.fieldLink RX0 19 "WireRow$Carrier" "load" "I") (by decide +kernel)
  have lk5 := hts (.methodLink RX0 27 Lib.Math.min.name) (by decide +kernel)
  have lk6 := hts (.static Lib.Math.min.name) (by decide +kernel)
  have lk7 := hts (.initialized "java/lang/Math") (by decide +kernel)
  have lk8 := hts (.code Lib.Math.min.name Lib.Math.min.code 2 (some .int)) (by decide +kernel)
  have lk9 := hts (.methodLink RX0 33 Lib.Math.max.name) (by decide +kernel)
  have lk10 := hts (.static Lib.Math.max.name) (by decide +kernel)
  have lk11 := hts (.code Lib.Math.max.name Lib.Math.max.code 2 (some .int)) (by decide +kernel)
  have k_20 : ∀ (n_20 : Nat) (y20_1 : Int32) (y20_3 : Int32) (y20_4 : Int32) (y20_5 : Int64) (y20_7 : Int32) (H : Heap) (locs : List Loc) (ls : Array Slot), va_P (dC, dI) vwCl [(a0, .inr (0, [.int v0_tension, .int v0_own, .int v0_droppers, .int v0_load, .int v0_hang]))] H → va_D A [(a0, .inr (0, [.int v0_tension, .int v0_own, .int v0_droppers, .int v0_load, .int v0_hang]))] → va_S A s.heap H locs → lv_has ls 9 [(0, .ref a0), (1, .int y20_1), (3, .int y20_3), (4, .int y20_4), (5, .long y20_5), (7, .int y20_7)] → (wl_X0_sagUpper_20 Q v0_own v0_droppers v0_load  n_20 y20_1 y20_3 y20_4 y20_5 y20_7) → W p l e (headSpec wsX0_sagUpper ({ frames := 1, cells := 0, slots := 0, locals := 21 } : Room)).room s m [.ref a0, .int p1, .int p2].toArray below meth c H locs 0 0 (MQ below (va_Ql (fun r (u : Unit) => Q r) (fun (u : Unit) t => va_P (dC, dI) vwCl [(a0, .inr (0, [.int v0_tension, .int v0_own, .int v0_droppers, .int v0_load, .int v0_hang]))] t.heap ∧ va_K (dC, dI) vwCl [(cI, .int), (cJ, .long), (cZ, .boolean)] t ∧ va_D A [(a0, .inr (0, [.int v0_tension, .int v0_own, .int v0_droppers, .int v0_load, .int v0_hang]))]) A) [.ref a0, .int p1, .int p2].toArray s 0 0 A) (F0 m 20 ls []) := by
    intro n_20
    induction n_20 with
    | zero =>
      intro y20_1 y20_3 y20_4 y20_5 y20_7 H locs ls hP hD hS hl hw
      exact False.elim hw
    | succ n_20 ih_20 =>
      intro y20_1 y20_3 y20_4 y20_5 y20_7 H locs ls hP hD hS hl hw
      replace hw : wb_X0_sagUpper_20 Q v0_own v0_droppers v0_load  (wl_X0_sagUpper_20 Q v0_own v0_droppers v0_load  n_20) y20_1 y20_3 y20_4 y20_5 y20_7 := hw
      unfold wb_X0_sagUpper_20 at hw
      refine lv_iload hx hb dX0_sagUpper_20 (lv_at hl 5 rfl) ?_
      refine lv_aload_n hx hb dX0_sagUpper_22 rfl (lv_at hl 0 rfl) ?_
      refine va_get (D := (dC, dI)) (ci := 0) (v := .int v0_droppers) (C := RX0) (T := TX0) (N := 5) hx hb hts inX0_sagUpper_X0 hown hK hP 0 rfl rfl 2 (by decide) lk1 (fun _ h9 => h9) rfl dX0_sagUpper_23 ?_
      refine lv_icmp_ge (tgt := 66) hx hb dX0_sagUpper_26 (by decide) (fun c3 => ?_) (fun c3 => ?_)
      · replace hw := hw.1 (c3)
        refine lv_aload_n hx hb dX0_sagUpper_66 rfl (lv_at hl 0 rfl) ?_
        refine va_get (D := (dC, dI)) (ci := 0) (v := .int v0_own) (C := RX0) (T := TX0) (N := 5) hx hb hts inX0_sagUpper_X0 hown hK hP 0 rfl rfl 1 (by decide) lk2 (fun _ h9 => h9) rfl dX0_sagUpper_67 ?_
        refine lv_i2l (v := v0_own.toInt64) hx hb dX0_sagUpper_70 rfl ?_
        refine lv_iload_n hx hb dX0_sagUpper_71 rfl (lv_at hl 1 rfl) ?_
        refine lv_i2l (v := y20_1.toInt64) hx hb dX0_sagUpper_72 rfl ?_
        refine lv_lmul hx hb dX0_sagUpper_73 ?_
        refine lv_iload_n hx hb dX0_sagUpper_74 rfl (lv_at hl 1 rfl) ?_
        refine lv_i2l (v := y20_1.toInt64) hx hb dX0_sagUpper_75 rfl ?_
        refine lv_lmul hx hb dX0_sagUpper_76 ?_
        refine lv_iload hx hb dX0_sagUpper_77 (lv_at hl 3 rfl) ?_
        refine lv_i2l (v := y20_4.toInt64) hx hb dX0_sagUpper_79 rfl ?_
        refine lv_lmul hx hb dX0_sagUpper_80 ?_
        refine lv_iload_n hx hb dX0_sagUpper_81 rfl (lv_at hl 2 rfl) ?_
        refine lv_iload hx hb dX0_sagUpper_82 (lv_at hl 3 rfl) ?_
        refine lv_isub hx hb dX0_sagUpper_84 ?_
        refine lv_i2l (v := (y20_3 - y20_4).toInt64) hx hb dX0_sagUpper_85 rfl ?_
        refine lv_lmul hx hb dX0_sagUpper_86 ?_
        refine lv_topl (fun x4 ex4 => ?_)
        replace hw := hw x4 ex4
        refine lv_lstore (lv' := [(7, .long x4), (0, .ref a0), (1, .int y20_1), (3, .int y20_3), (4, .int y20_4), (5, .long y20_5)]) hx hb dX0_sagUpper_87 hl (by decide) rfl (fun ls hl => ?_)
        refine lv_lload hx hb dX0_sagUpper_89 (lv_at hl 0 rfl) ?_
        refine lv_ldc2 (v := (2 : Int64)) hx hb hown lk3 dX0_sagUpper_91 ?_
        refine lv_aload_n hx hb dX0_sagUpper_94 rfl (lv_at hl 1 rfl) ?_
        refine va_get (D := (dC, dI)) (ci := 0) (v := .int v0_load) (C := RX0) (T := TX0) (N := 5) hx hb hts inX0_sagUpper_X0 hown hK hP 0 rfl rfl 3 (by decide) lk4 (fun _ h9 => h9) rfl dX0_sagUpper_95 ?_
        refine lv_i2l (v := v0_load.toInt64) hx hb dX0_sagUpper_98 rfl ?_
        refine lv_lmul hx hb dX0_sagUpper_99 ?_
        refine lv_iload_n hx hb dX0_sagUpper_100 rfl (lv_at hl 2 rfl) ?_
        refine lv_i2l (v := y20_1.toInt64) hx hb dX0_sagUpper_101 rfl ?_
        refine lv_lmul hx hb dX0_sagUpper_102 ?_
        refine lv_lload hx hb dX0_sagUpper_103 (lv_at hl 5 rfl) ?_
        refine lv_lmul hx hb dX0_sagUpper_105 ?_
        refine lv_ladd hx hb dX0_sagUpper_106 ?_
        have hP9 := hP.sub (ws' := [(a0, .inr (0, [.int v0_tension, .int v0_own, .int v0_droppers, .int v0_load, .int v0_hang]))]) [0] rfl
        have hD9 := hD.sub (ws' := [(a0, .inr (0, [.int v0_tension, .int v0_own, .int v0_droppers, .int v0_load, .int v0_hang]))]) [0] (by decide) rfl
        exact W.lret (v := (x4 + ((((2 : Int64) * v0_load.toInt64) * y20_1.toInt64) * y20_5))) hx hb hr (fun t ht hW => ⟨⟨(x4 + ((((2 : Int64) * v0_load.toInt64) * y20_1.toInt64) * y20_5)), (), rfl, hw, by rw [ht]; exact hP9, va_K.moved hW.alike hK, hD9⟩, hS.F ht⟩) hS.2.2 dX0_sagUpper_107
      · replace hw := hw.2 (c3)
        refine lv_iconst (v := (2 : Int32)) hx hb dX0_sagUpper_29 (by decide) ?_
        refine lv_iload hx hb dX0_sagUpper_30 (lv_at hl 5 rfl) ?_
        refine lv_imul hx hb dX0_sagUpper_32 ?_
        refine lv_iconst (v := (1 : Int32)) hx hb dX0_sagUpper_33 (by decide) ?_
        refine lv_iadd hx hb dX0_sagUpper_34 ?_
        refine lv_topi (fun x5 ex5 => ?_)
        replace hw := hw x5 ex5
        refine lv_istore (lv' := [(8, .int x5), (0, .ref a0), (1, .int y20_1), (3, .int y20_3), (4, .int y20_4), (5, .long y20_5), (7, .int y20_7)]) hx hb dX0_sagUpper_35 hl (by decide) rfl (fun ls hl => ?_)
        refine lv_lload hx hb dX0_sagUpper_37 (lv_at hl 5 rfl) ?_
        refine lv_iload hx hb dX0_sagUpper_39 (lv_at hl 4 rfl) ?_
        refine lv_iload hx hb dX0_sagUpper_41 (lv_at hl 0 rfl) ?_
        refine va_mmin hx hb (hml.trans hl.1.symm) hown lk5 lk6 lk7 lk8 (Nat.le_of_ble_eq_true rfl) (Nat.le_of_ble_eq_true rfl) (Nat.le_of_ble_eq_true rfl) (Nat.le_of_ble_eq_true rfl) dX0_sagUpper_43 ?_
        refine lv_topi (fun x6 ex6 => ?_)
        replace hw := hw x6 ex6
        refine lv_iload_n hx hb dX0_sagUpper_46 rfl (lv_at hl 3 rfl) ?_
        refine lv_iload hx hb dX0_sagUpper_47 (lv_at hl 4 rfl) ?_
        refine lv_iload hx hb dX0_sagUpper_49 (lv_at hl 0 rfl) ?_
        refine va_mmax hx hb (hml.trans hl.1.symm) hown lk9 lk10 lk7 lk11 (Nat.le_of_ble_eq_true rfl) (Nat.le_of_ble_eq_true rfl) (Nat.le_of_ble_eq_true rfl) (Nat.le_of_ble_eq_true rfl) dX0_sagUpper_51 ?_
        refine lv_topi (fun x7 ex7 => ?_)
        replace hw := hw x7 ex7
        refine lv_isub hx hb dX0_sagUpper_54 ?_
        refine lv_imul hx hb dX0_sagUpper_55 ?_
        refine lv_i2l (v := (x6 * (y20_3 - x7)).toInt64) hx hb dX0_sagUpper_56 rfl ?_
        refine lv_ladd hx hb dX0_sagUpper_57 ?_
        refine lv_topl (fun x8 ex8 => ?_)
        replace hw := hw x8 ex8
        refine lv_lstore (lv' := [(5, .long x8), (8, .int x5), (0, .ref a0), (1, .int y20_1), (3, .int y20_3), (4, .int y20_4), (7, .int y20_7)]) hx hb dX0_sagUpper_58 hl (by decide) rfl (fun ls hl => ?_)
        obtain ⟨x9, ex9⟩ : ∃ y : Int32, y = y20_7 + (1 : Int32) := ⟨_, rfl⟩
        replace hw := hw x9 ex9
        refine lv_iinc (v := x9) (lv' := [(7, .int x9), (5, .long x8), (8, .int x5), (0, .ref a0), (1, .int y20_1), (3, .int y20_3), (4, .int y20_4)]) hx hb dX0_sagUpper_60 hl (k := 6) rfl (by rw [ex9]; rfl) (by decide) rfl (fun ls hl => ?_)
        refine lv_goto (tgt := 20) hx hb dX0_sagUpper_63 (by decide) ?_
        exact ih_20 y20_1 y20_3 y20_4 x8 x9 _ _ _ (hP.sub [0] rfl) (hD.sub [0] (by decide) rfl) hS (lv_sub hl [3, 4, 5, 6, 1, 0] rfl) hw
  have hl := lv_entry ([.ref a0, .int p1, .int p2]) (n := 9) (Nat.le_of_ble_eq_true rfl)
  rw [lg_entry_eq]
  generalize (lg_sl ([.ref a0, .int p1, .int p2]) ++ List.replicate (9 - (lg_sl ([.ref a0, .int p1, .int p2])).length) Slot.unset).toArray = ls at hl ⊢
  have hl : lv_has ls 9 [(0, .ref a0), (1, .int p1), (2, .int p2)] := hl
  obtain ⟨H, hHe⟩ : ∃ H, H = s.heap := ⟨_, rfl⟩
  rw [← hHe] at hP
  have hS : va_S A s.heap H [] := by rw [hHe]; exact hS
  rw [← hHe]
  unfold wp_X0_sagUpper at hw
  refine lv_iconst (v := (2 : Int32)) hx hb dX0_sagUpper_0 (by decide) ?_
  refine lv_aload_n hx hb dX0_sagUpper_1 rfl (lv_at hl 0 rfl) ?_
  refine va_get (D := (dC, dI)) (ci := 0) (v := .int v0_droppers) (C := RX0) (T := TX0) (N := 5) hx hb hts inX0_sagUpper_X0 hown hK hP 0 rfl rfl 2 (by decide) lk1 (fun _ h9 => h9) rfl dX0_sagUpper_2 ?_
  refine lv_imul hx hb dX0_sagUpper_5 ?_
  refine lv_topi (fun x1 ex1 => ?_)
  replace hw := hw x1 ex1
  refine lv_istore_n (lv' := [(3, .int x1), (0, .ref a0), (1, .int p1), (2, .int p2)]) hx hb dX0_sagUpper_6 rfl hl (by decide) rfl (fun ls hl => ?_)
  refine lv_iconst (v := (2 : Int32)) hx hb dX0_sagUpper_7 (by decide) ?_
  refine lv_iload_n hx hb dX0_sagUpper_8 rfl (lv_at hl 3 rfl) ?_
  refine lv_imul hx hb dX0_sagUpper_9 ?_
  refine lv_iconst (v := (1 : Int32)) hx hb dX0_sagUpper_10 (by decide) ?_
  refine lv_iadd hx hb dX0_sagUpper_11 ?_
  refine lv_topi (fun x2 ex2 => ?_)
  replace hw := hw x2 ex2
  refine lv_istore (lv' := [(4, .int x2), (3, .int x1), (0, .ref a0), (1, .int p1), (2, .int p2)]) hx hb dX0_sagUpper_12 hl (by decide) rfl (fun ls hl => ?_)
  refine lv_lconst (v := (0 : Int64)) hx hb dX0_sagUpper_14 (by decide) ?_
  refine lv_lstore (lv' := [(5, .long (0 : Int64)), (4, .int x2), (3, .int x1), (0, .ref a0), (1, .int p1), (2, .int p2)]) hx hb dX0_sagUpper_15 hl (by decide) rfl (fun ls hl => ?_)
  refine lv_iconst (v := (0 : Int32)) hx hb dX0_sagUpper_17 (by decide) ?_
  refine lv_istore (lv' := [(7, .int (0 : Int32)), (5, .long (0 : Int64)), (4, .int x2), (3, .int x1), (0, .ref a0), (1, .int p1), (2, .int p2)]) hx hb dX0_sagUpper_18 hl (by decide) rfl (fun ls hl => ?_)
  obtain ⟨n_20, hw⟩ := hw
  exact k_20 n_20 p1 x1 x2 (0 : Int64) (0 : Int32) _ _ _ (hP.sub [0] rfl) (hD.sub [0] (by decide) rfl) hS (lv_sub hl [4, 5, 3, 2, 1, 0] rfl) hw

theorem inX0_lengthUpper_X0 : ∀ w ∈ wsX00, w ∈ wsX0_lengthUpper := fun _ h => List.mem_cons_of_mem _ (List.mem_append_right _ h)
def wp_X0_lengthUpper (Q : Int64 → Prop) (v0_tension : Int32) (v0_own : Int32) (v0_droppers : Int32) (v0_load : Int32) (v0_hang : Int32) (p1 : Int32) (p2 : Int32) : Prop :=
  (wp_X0_lower (fun r1 => (wp_X0_sagUpper (fun r2 => (Q ((v0_hang.toInt64 * r1) - r2) )) v0_own v0_droppers v0_load p1 p2)) v0_tension v0_droppers)
set_option maxHeartbeats 4000000 in
set_option maxRecDepth 100000 in
theorem c_X0_lengthUpper (l : Launch) (dC : Nat → ClassId) (dI : Nat → Nat → Nat) (cI cJ cZ : ClassId) (a0 : Nat) (sz : Nat) (v0_tension : Int32) (v0_own : Int32) (v0_droppers : Int32) (v0_load : Int32) (v0_hang : Int32) (p1 : Int32) (p2 : Int32) (Q : Int64 → Prop) (hw : wp_X0_lengthUpper Q v0_tension v0_own v0_droppers v0_load v0_hang p1 p2) : Met l yX0_lengthUpper wsX0_lengthUpper ({ frames := 2, cells := 0, slots := 0, locals := 49 } : Room) (va_Pc [.ref a0, .int p1, .int p2] (fun U => U.heap.size = sz ∧ va_P (dC, dI) vwCl [(a0, .inr (0, [.int v0_tension, .int v0_own, .int v0_droppers, .int v0_load, .int v0_hang]))] U.heap ∧ va_K (dC, dI) vwCl [(cI, .int), (cJ, .long), (cZ, .boolean)] U ∧ va_D (fun _ => True) [(a0, .inr (0, [.int v0_tension, .int v0_own, .int v0_droppers, .int v0_load, .int v0_hang]))])) (va_Ql (fun r (u : Unit) => Q r) (fun (u : Unit) t => va_P (dC, dI) vwCl [(a0, .inr (0, [.int v0_tension, .int v0_own, .int v0_droppers, .int v0_load, .int v0_hang]))] t.heap ∧ va_K (dC, dI) vwCl [(cI, .int), (cJ, .long), (cZ, .boolean)] t ∧ va_D (va_A [(a0, .inr (0, [.int v0_tension, .int v0_own, .int v0_droppers, .int v0_load, .int v0_hang]))] sz) [(a0, .inr (0, [.int v0_tension, .int v0_own, .int v0_droppers, .int v0_load, .int v0_hang]))]) (va_A [(a0, .inr (0, [.int v0_tension, .int v0_own, .int v0_droppers, .int v0_load, .int v0_hang]))] sz)) 0 0 (va_A [(a0, .inr (0, [.int v0_tension, .int v0_own, .int v0_droppers, .int v0_load, .int v0_hang]))] sz) := by
  refine Met.ofW (cc := cX0_lengthUpper) (maxL := 3) (ret := (some .long)) (by decide) rfl ?_
  intro p e s m args below meth c s₁ B hml hv
  obtain ⟨rfl, hsz, hP, hK, hD0⟩ := hv
  have hx := B.exec
  have hb := B.bytes
  have hr := B.returns
  have hts := atoms_spec (ws := wsX0_lengthUpper) B.pre
  have hown : s.vm.findClass RX0 = some m.cls := findClass_of_methodNamed B.named
  have hlocks := B.notSynchronized
  subst hsz
  have hD := hD0.self (sz := s.heap.size)
  generalize hAe : va_A [(a0, .inr (0, [.int v0_tension, .int v0_own, .int v0_droppers, .int v0_load, .int v0_hang]))] s.heap.size = A at hD ⊢
  have hA : ∀ q : Nat, s.heap.size ≤ q → A q := fun q h => by rw [← hAe]; exact Or.inr h
  have hS : va_S A s.heap s.heap [] := va_S.rf
  have hP : va_P (dC, dI) vwCl [(a0, .inr (0, [.int v0_tension, .int v0_own, .int v0_droppers, .int v0_load, .int v0_hang]))] s.heap := hP
  have lk1 := hts (.fieldLink RX0 22 "WireRow$Carrier" "hang" "I") (by decide +kernel)
  have hl := lv_entry ([.ref a0, .int p1, .int p2]) (n := 3) (Nat.le_of_ble_eq_true rfl)
  rw [lg_entry_eq]
  generalize (lg_sl ([.ref a0, .int p1, .int p2]) ++ List.replicate (3 - (lg_sl ([.ref a0, .int p1, .int p2])).length) Slot.unset).toArray = ls at hl ⊢
  have hl : lv_has ls 3 [(0, .ref a0), (1, .int p1), (2, .int p2)] := hl
  obtain ⟨H, hHe⟩ : ∃ H, H = s.heap := ⟨_, rfl⟩
  rw [← hHe] at hP
  have hS : va_S A s.heap H [] := by rw [hHe]; exact hS
  rw [← hHe]
  unfold wp_X0_lengthUpper at hw
  refine lv_aload_n hx hb dX0_lengthUpper_0 rfl (lv_at hl 0 rfl) ?_
  refine va_get (D := (dC, dI)) (ci := 0) (v := .int v0_hang) (C := RX0) (T := TX0) (N := 5) hx hb hts inX0_lengthUpper_X0 hown hK hP 0 rfl rfl 4 (by decide) lk1 (fun _ h9 => h9) rfl dX0_lengthUpper_1 ?_
  refine lv_i2l (v := v0_hang.toInt64) hx hb dX0_lengthUpper_4 rfl ?_
  refine lv_aload_n hx hb dX0_lengthUpper_5 rfl (lv_at hl 0 rfl) ?_
  have hPc := hP.sub (ws' := [(a0, .inr (0, [.int v0_tension, .int v0_own, .int v0_droppers, .int v0_load, .int v0_hang]))]) [0] rfl
  have hDc := hD.sub (ws' := [(a0, .inr (0, [.int v0_tension, .int v0_own, .int v0_droppers, .int v0_load, .int v0_hang]))]) [0] (by decide) rfl
  have hFc := va_free (wc := [(a0, .inr (0, [.int v0_tension, .int v0_own, .int v0_droppers, .int v0_load, .int v0_hang]))]) hD hS hA [0] rfl
  refine va_calll (va_runV (As := []) (rest := [.long v0_hang.toInt64]) ⟨hx, hb, hml, hown, hts⟩ (c_X0_lower l dC dI cI cJ cZ a0 H.size v0_tension v0_own v0_droppers v0_load v0_hang _ hw) (cwV 0 hts gX0_lengthUpper_X0_lower rfl rfl rfl (by decide +kernel) ⟨Nat.le_of_ble_eq_true rfl, Nat.le_of_ble_eq_true rfl⟩) ⟨fun a U g mk q => by obtain ⟨q0, q1, qP, qK, qD⟩ := q; exact ⟨q0, q1, qP, va_K.moved (u := U) (U := U.calling g mk a) (Vm.Alike.refl U.vm) qK, qD⟩, va_recv hK hP (ci := 0) (q0 := 0) rfl rfl, fun U hU hW => ⟨rfl, by rw [hU], by rw [hU]; exact hPc, va_K.moved hW.alike hK, hDc.weaken (fun _ _ _ _ => trivial)⟩⟩ rfl rfl hl.1 rfl (lv_room (Nat.le_of_ble_eq_true rfl)) dX0_lengthUpper_6 ⟨(Nat.zero_le _), (Nat.zero_le _)⟩) hS (fun q _ h => hFc q h) hFc (fun r1 u t H1 locs ht hvm hw hB hz1 hk1 hS => ?_)
  obtain ⟨hP1, -, hD1⟩ := hB
  try dsimp only at hw
  rw [ht] at hP1
  obtain ⟨hP, hD⟩ := va_join (wr := []) (w1 := [(a0, .inr (0, [.int v0_tension, .int v0_own, .int v0_droppers, .int v0_load, .int v0_hang]))]) hP hD [0] [] rfl rfl (by decide) (by decide) hk1 hFc hP1 hD1
  generalize H1 = H at hP hS ⊢
  have hP : va_P (dC, dI) vwCl [(a0, .inr (0, [.int v0_tension, .int v0_own, .int v0_droppers, .int v0_load, .int v0_hang]))] H := hP
  have hD : va_D A [(a0, .inr (0, [.int v0_tension, .int v0_own, .int v0_droppers, .int v0_load, .int v0_hang]))] := hD
  refine lv_lmul hx hb dX0_lengthUpper_9 ?_
  refine lv_aload_n hx hb dX0_lengthUpper_10 rfl (lv_at hl 0 rfl) ?_
  refine lv_iload_n hx hb dX0_lengthUpper_11 rfl (lv_at hl 1 rfl) ?_
  refine lv_iload_n hx hb dX0_lengthUpper_12 rfl (lv_at hl 2 rfl) ?_
  have hPc := hP.sub (ws' := [(a0, .inr (0, [.int v0_tension, .int v0_own, .int v0_droppers, .int v0_load, .int v0_hang]))]) [0] rfl
  have hDc := hD.sub (ws' := [(a0, .inr (0, [.int v0_tension, .int v0_own, .int v0_droppers, .int v0_load, .int v0_hang]))]) [0] (by decide) rfl
  have hFc := va_free (wc := [(a0, .inr (0, [.int v0_tension, .int v0_own, .int v0_droppers, .int v0_load, .int v0_hang]))]) hD hS hA [0] rfl
  refine va_calll (va_runV (As := [.int p1, .int p2]) (rest := [.long (v0_hang.toInt64 * r1)]) ⟨hx, hb, hml, hown, hts⟩ (c_X0_sagUpper l dC dI cI cJ cZ a0 H.size v0_tension v0_own v0_droppers v0_load v0_hang p1 p2 _ hw) (cwV 2 hts gX0_lengthUpper_X0_sagUpper rfl rfl rfl (by decide +kernel) ⟨Nat.le_of_ble_eq_true rfl, Nat.le_of_ble_eq_true rfl⟩) ⟨fun a U g mk q => by obtain ⟨q0, q1, qP, qK, qD⟩ := q; exact ⟨q0, q1, qP, va_K.moved (u := U) (U := U.calling g mk a) (Vm.Alike.refl U.vm) qK, qD⟩, va_recv hK hP (ci := 0) (q0 := 0) rfl rfl, fun U hU hW => ⟨rfl, by rw [hU], by rw [hU]; exact hPc, va_K.moved hW.alike hK, hDc.weaken (fun _ _ _ _ => trivial)⟩⟩ rfl rfl hl.1 rfl (lv_room (Nat.le_of_ble_eq_true rfl)) dX0_lengthUpper_13 ⟨(Nat.zero_le _), (Nat.zero_le _)⟩) hS (fun q _ h => hFc q h) hFc (fun r2 u t H1 locs ht hvm hw hB hz1 hk1 hS => ?_)
  obtain ⟨hP1, -, hD1⟩ := hB
  try dsimp only at hw
  rw [ht] at hP1
  obtain ⟨hP, hD⟩ := va_join (wr := []) (w1 := [(a0, .inr (0, [.int v0_tension, .int v0_own, .int v0_droppers, .int v0_load, .int v0_hang]))]) hP hD [0] [] rfl rfl (by decide) (by decide) hk1 hFc hP1 hD1
  generalize H1 = H at hP hS ⊢
  have hP : va_P (dC, dI) vwCl [(a0, .inr (0, [.int v0_tension, .int v0_own, .int v0_droppers, .int v0_load, .int v0_hang]))] H := hP
  have hD : va_D A [(a0, .inr (0, [.int v0_tension, .int v0_own, .int v0_droppers, .int v0_load, .int v0_hang]))] := hD
  refine lv_lsub hx hb dX0_lengthUpper_16 ?_
  have hP9 := hP.sub (ws' := [(a0, .inr (0, [.int v0_tension, .int v0_own, .int v0_droppers, .int v0_load, .int v0_hang]))]) [0] rfl
  have hD9 := hD.sub (ws' := [(a0, .inr (0, [.int v0_tension, .int v0_own, .int v0_droppers, .int v0_load, .int v0_hang]))]) [0] (by decide) rfl
  exact W.lret (v := ((v0_hang.toInt64 * r1) - r2)) hx hb hr (fun t ht hW => ⟨⟨((v0_hang.toInt64 * r1) - r2), (), rfl, hw, by rw [ht]; exact hP9, va_K.moved hW.alike hK, hD9⟩, hS.F ht⟩) hS.2.2 dX0_lengthUpper_17

def wp_J9_floorDiv_f86c9 (Q : Int64 → Prop) (p1 : Int64) (p2 : Int64) : Prop :=
  ((¬ p2 = 0) ∧ (∀ x2 : Int64, x2 = (p1 / p2) → (((0 : Int64) ≤ (p1 ^^^ p2) → (Q x2 )) ∧ (¬ (0 : Int64) ≤ (p1 ^^^ p2) → (((x2 * p2) = p1 → (Q x2 )) ∧ (¬ (x2 * p2) = p1 → (Q (x2 - (1 : Int64)) )))))))
set_option maxHeartbeats 4000000 in
set_option maxRecDepth 100000 in
theorem c_J9_floorDiv_f86c9 (l : Launch) (dC : Nat → ClassId) (dI : Nat → Nat → Nat) (cI cJ cZ : ClassId) (sz : Nat) (p1 : Int64) (p2 : Int64) (Q : Int64 → Prop) (hw : wp_J9_floorDiv_f86c9 Q  p1 p2) : Met l yJ9_floorDiv_f86c9 wsJ9_floorDiv_f86c9 ({ frames := 0, cells := 0, slots := 0, locals := 0 } : Room) (va_Pc [.long p1, .long p2] (fun U => U.heap.size = sz ∧ va_P (dC, dI) vwCl [] U.heap ∧ va_K (dC, dI) vwCl [(cI, .int), (cJ, .long), (cZ, .boolean)] U ∧ va_D (fun _ => True) [])) (va_Ql (fun r (u : Unit) => Q r) (fun (u : Unit) t => va_P (dC, dI) vwCl [] t.heap ∧ va_K (dC, dI) vwCl [(cI, .int), (cJ, .long), (cZ, .boolean)] t ∧ va_D (va_A [] sz) []) (va_A [] sz)) 0 0 (va_A [] sz) := by
  refine wg_ofWF (cc := cJ9_floorDiv_f86c9) (maxL := 6) (ret := (some .long)) (by decide +kernel) rfl ?_
  intro p e s m args below meth c s₁ B hml hv
  obtain ⟨rfl, hsz, hP, hK, hD0⟩ := hv
  have hx := B.exec
  have hb := B.bytes
  have hr := B.returns
  have hts := atoms_spec (ws := wsJ9_floorDiv_f86c9) B.pre
  have hown : s.vm.findClass RJ9 = some m.cls := findClass_of_methodNamed B.named
  have hlocks := B.notSynchronized
  subst hsz
  have hD := hD0.self (sz := s.heap.size)
  generalize hAe : va_A [] s.heap.size = A at hD ⊢
  have hA : ∀ q : Nat, s.heap.size ≤ q → A q := fun q h => by rw [← hAe]; exact Or.inr h
  have hS : va_S A s.heap s.heap [] := va_S.rf
  have hP : va_P (dC, dI) vwCl [] s.heap := hP
  have hl := lv_entry ([.long p1, .long p2]) (n := 6) (Nat.le_of_ble_eq_true rfl)
  rw [lg_entry_eq]
  generalize (lg_sl ([.long p1, .long p2]) ++ List.replicate (6 - (lg_sl ([.long p1, .long p2])).length) Slot.unset).toArray = ls at hl ⊢
  have hl : lv_has ls 6 [(0, .long p1), (2, .long p2)] := hl
  obtain ⟨H, hHe⟩ : ∃ H, H = s.heap := ⟨_, rfl⟩
  rw [← hHe] at hP
  have hS : va_S A s.heap H [] := by rw [hHe]; exact hS
  rw [← hHe]
  unfold wp_J9_floorDiv_f86c9 at hw
  refine lv_lload_n hx hb dJ9_floorDiv_f86c9_0 rfl (lv_at hl 0 rfl) ?_
  refine lv_lload_n hx hb dJ9_floorDiv_f86c9_1 rfl (lv_at hl 1 rfl) ?_
  obtain ⟨h1, hw⟩ := hw
  refine lv_ldiv hx hb dJ9_floorDiv_f86c9_2 h1 ?_
  refine lv_topl (fun x2 ex2 => ?_)
  replace hw := hw x2 ex2
  refine lv_lstore (lv' := [(4, .long x2), (0, .long p1), (2, .long p2)]) hx hb dJ9_floorDiv_f86c9_3 hl (by decide) rfl (fun ls hl => ?_)
  refine lv_lload_n hx hb dJ9_floorDiv_f86c9_5 rfl (lv_at hl 1 rfl) ?_
  refine lv_lload_n hx hb dJ9_floorDiv_f86c9_6 rfl (lv_at hl 2 rfl) ?_
  refine lv_lxor hx hb dJ9_floorDiv_f86c9_7 ?_
  refine lv_lconst (v := (0 : Int64)) hx hb dJ9_floorDiv_f86c9_8 (by decide) ?_
  refine W.lcmp hx hb dJ9_floorDiv_f86c9_9 ?_
  refine lv_if_ge (tgt := 27) hx hb dJ9_floorDiv_f86c9_10 (by decide) (fun c3 => ?_) (fun c3 => ?_)
  · replace hw := hw.1 ((lg_cmp_ge _ _).mp c3)
    refine lv_lload hx hb dJ9_floorDiv_f86c9_27 (lv_at hl 0 rfl) ?_
    have hP9 := hP.sub (ws' := []) [] rfl
    have hD9 := hD.sub (ws' := []) [] (by decide) rfl
    exact W.lret (v := x2) hx hb hr (fun t ht hW => ⟨⟨x2, (), rfl, hw, by rw [ht]; exact hP9, va_K.moved hW.alike hK, hD9⟩, hS.F ht⟩) hS.2.2 dJ9_floorDiv_f86c9_29
  · replace hw := hw.2 (fun z => c3 ((lg_cmp_ge _ _).mpr z))
    refine lv_lload hx hb dJ9_floorDiv_f86c9_13 (lv_at hl 0 rfl) ?_
    refine lv_lload_n hx hb dJ9_floorDiv_f86c9_15 rfl (lv_at hl 2 rfl) ?_
    refine lv_lmul hx hb dJ9_floorDiv_f86c9_16 ?_
    refine lv_lload_n hx hb dJ9_floorDiv_f86c9_17 rfl (lv_at hl 1 rfl) ?_
    refine W.lcmp hx hb dJ9_floorDiv_f86c9_18 ?_
    refine lv_if_eq (tgt := 27) hx hb dJ9_floorDiv_f86c9_19 (by decide) (fun c4 => ?_) (fun c4 => ?_)
    · replace hw := hw.1 ((lg_cmp_eq _ _).mp c4)
      refine lv_lload hx hb dJ9_floorDiv_f86c9_27 (lv_at hl 0 rfl) ?_
      have hP9 := hP.sub (ws' := []) [] rfl
      have hD9 := hD.sub (ws' := []) [] (by decide) rfl
      exact W.lret (v := x2) hx hb hr (fun t ht hW => ⟨⟨x2, (), rfl, hw, by rw [ht]; exact hP9, va_K.moved hW.alike hK, hD9⟩, hS.F ht⟩) hS.2.2 dJ9_floorDiv_f86c9_29
    · replace hw := hw.2 (fun z => c4 ((lg_cmp_eq _ _).mpr z))
      refine lv_lload hx hb dJ9_floorDiv_f86c9_22 (lv_at hl 0 rfl) ?_
      refine lv_lconst (v := (1 : Int64)) hx hb dJ9_floorDiv_f86c9_24 (by decide) ?_
      refine lv_lsub hx hb dJ9_floorDiv_f86c9_25 ?_
      have hP9 := hP.sub (ws' := []) [] rfl
      have hD9 := hD.sub (ws' := []) [] (by decide) rfl
      exact W.lret (v := (x2 - (1 : Int64))) hx hb hr (fun t ht hW => ⟨⟨(x2 - (1 : Int64)), (), rfl, hw, by rw [ht]; exact hP9, va_K.moved hW.alike hK, hD9⟩, hS.F ht⟩) hS.2.2 dJ9_floorDiv_f86c9_26

theorem inX0_cutUp_X0 : ∀ w ∈ wsX00, w ∈ wsX0_cutUp := fun _ h => List.mem_cons_of_mem _ (List.mem_append_right _ h)
def wp_X0_cutUp (Q : Int32 → Prop) (v0_tension : Int32) (v0_own : Int32) (v0_droppers : Int32) (v0_load : Int32) (v0_hang : Int32) (p1 : Int32) (p2 : Int32) : Prop :=
  (wp_X0_lower (fun r1 => (((0 : Int64) < r1 → (wp_X0_lengthUpper (fun r3 => (wp_J9_floorDiv_f86c9 (fun r4 => (Q (-r4).toInt32 )) (-r3) r1)) v0_tension v0_own v0_droppers v0_load v0_hang p1 p2)) ∧ (¬ (0 : Int64) < r1 → (Q (0 : Int32) )))) v0_tension v0_droppers)
set_option maxHeartbeats 4000000 in
set_option maxRecDepth 100000 in
theorem c_X0_cutUp (l : Launch) (dC : Nat → ClassId) (dI : Nat → Nat → Nat) (cI cJ cZ : ClassId) (a0 : Nat) (sz : Nat) (v0_tension : Int32) (v0_own : Int32) (v0_droppers : Int32) (v0_load : Int32) (v0_hang : Int32) (p1 : Int32) (p2 : Int32) (Q : Int32 → Prop) (hw : wp_X0_cutUp Q v0_tension v0_own v0_droppers v0_load v0_hang p1 p2) : Met l yX0_cutUp wsX0_cutUp ({ frames := 3, cells := 0, slots := 0, locals := 71 } : Room) (va_Pc [.ref a0, .int p1, .int p2] (fun U => U.heap.size = sz ∧ va_P (dC, dI) vwCl [(a0, .inr (0, [.int v0_tension, .int v0_own, .int v0_droppers, .int v0_load, .int v0_hang]))] U.heap ∧ va_K (dC, dI) vwCl [(cI, .int), (cJ, .long), (cZ, .boolean)] U ∧ va_D (fun _ => True) [(a0, .inr (0, [.int v0_tension, .int v0_own, .int v0_droppers, .int v0_load, .int v0_hang]))])) (va_Qi (fun r (u : Unit) => Q r) (fun (u : Unit) t => va_P (dC, dI) vwCl [(a0, .inr (0, [.int v0_tension, .int v0_own, .int v0_droppers, .int v0_load, .int v0_hang]))] t.heap ∧ va_K (dC, dI) vwCl [(cI, .int), (cJ, .long), (cZ, .boolean)] t ∧ va_D (va_A [(a0, .inr (0, [.int v0_tension, .int v0_own, .int v0_droppers, .int v0_load, .int v0_hang]))] sz) [(a0, .inr (0, [.int v0_tension, .int v0_own, .int v0_droppers, .int v0_load, .int v0_hang]))]) (va_A [(a0, .inr (0, [.int v0_tension, .int v0_own, .int v0_droppers, .int v0_load, .int v0_hang]))] sz)) 0 0 (va_A [(a0, .inr (0, [.int v0_tension, .int v0_own, .int v0_droppers, .int v0_load, .int v0_hang]))] sz) := by
  refine Met.ofW (cc := cX0_cutUp) (maxL := 5) (ret := (some .int)) (by decide) rfl ?_
  intro p e s m args below meth c s₁ B hml hv
  obtain ⟨rfl, hsz, hP, hK, hD0⟩ := hv
  have hx := B.exec
  have hb := B.bytes
  have hr := B.returns
  have hts := atoms_spec (ws := wsX0_cutUp) B.pre
  have hown : s.vm.findClass RX0 = some m.cls := findClass_of_methodNamed B.named
  have hlocks := B.notSynchronized
  subst hsz
  have hD := hD0.self (sz := s.heap.size)
  generalize hAe : va_A [(a0, .inr (0, [.int v0_tension, .int v0_own, .int v0_droppers, .int v0_load, .int v0_hang]))] s.heap.size = A at hD ⊢
  have hA : ∀ q : Nat, s.heap.size ≤ q → A q := fun q h => by rw [← hAe]; exact Or.inr h
  have hS : va_S A s.heap s.heap [] := va_S.rf
  have hP : va_P (dC, dI) vwCl [(a0, .inr (0, [.int v0_tension, .int v0_own, .int v0_droppers, .int v0_load, .int v0_hang]))] s.heap := hP
  have hl := lv_entry ([.ref a0, .int p1, .int p2]) (n := 5) (Nat.le_of_ble_eq_true rfl)
  rw [lg_entry_eq]
  generalize (lg_sl ([.ref a0, .int p1, .int p2]) ++ List.replicate (5 - (lg_sl ([.ref a0, .int p1, .int p2])).length) Slot.unset).toArray = ls at hl ⊢
  have hl : lv_has ls 5 [(0, .ref a0), (1, .int p1), (2, .int p2)] := hl
  obtain ⟨H, hHe⟩ : ∃ H, H = s.heap := ⟨_, rfl⟩
  rw [← hHe] at hP
  have hS : va_S A s.heap H [] := by rw [hHe]; exact hS
  rw [← hHe]
  unfold wp_X0_cutUp at hw
  refine lv_aload_n hx hb dX0_cutUp_0 rfl (lv_at hl 0 rfl) ?_
  have hPc := hP.sub (ws' := [(a0, .inr (0, [.int v0_tension, .int v0_own, .int v0_droppers, .int v0_load, .int v0_hang]))]) [0] rfl
  have hDc := hD.sub (ws' := [(a0, .inr (0, [.int v0_tension, .int v0_own, .int v0_droppers, .int v0_load, .int v0_hang]))]) [0] (by decide) rfl
  have hFc := va_free (wc := [(a0, .inr (0, [.int v0_tension, .int v0_own, .int v0_droppers, .int v0_load, .int v0_hang]))]) hD hS hA [0] rfl
  refine va_calll (va_runV (As := []) (rest := []) ⟨hx, hb, hml, hown, hts⟩ (c_X0_lower l dC dI cI cJ cZ a0 H.size v0_tension v0_own v0_droppers v0_load v0_hang _ hw) (cwV 0 hts gX0_cutUp_X0_lower rfl rfl rfl (by decide +kernel) ⟨Nat.le_of_ble_eq_true rfl, Nat.le_of_ble_eq_true rfl⟩) ⟨fun a U g mk q => by obtain ⟨q0, q1, qP, qK, qD⟩ := q; exact ⟨q0, q1, qP, va_K.moved (u := U) (U := U.calling g mk a) (Vm.Alike.refl U.vm) qK, qD⟩, va_recv hK hP (ci := 0) (q0 := 0) rfl rfl, fun U hU hW => ⟨rfl, by rw [hU], by rw [hU]; exact hPc, va_K.moved hW.alike hK, hDc.weaken (fun _ _ _ _ => trivial)⟩⟩ rfl rfl hl.1 rfl (lv_room (Nat.le_of_ble_eq_true rfl)) dX0_cutUp_1 ⟨(Nat.zero_le _), (Nat.zero_le _)⟩) hS (fun q _ h => hFc q h) hFc (fun r1 u t H1 locs ht hvm hw hB hz1 hk1 hS => ?_)
  obtain ⟨hP1, -, hD1⟩ := hB
  try dsimp only at hw
  rw [ht] at hP1
  obtain ⟨hP, hD⟩ := va_join (wr := []) (w1 := [(a0, .inr (0, [.int v0_tension, .int v0_own, .int v0_droppers, .int v0_load, .int v0_hang]))]) hP hD [0] [] rfl rfl (by decide) (by decide) hk1 hFc hP1 hD1
  generalize H1 = H at hP hS ⊢
  have hP : va_P (dC, dI) vwCl [(a0, .inr (0, [.int v0_tension, .int v0_own, .int v0_droppers, .int v0_load, .int v0_hang]))] H := hP
  have hD : va_D A [(a0, .inr (0, [.int v0_tension, .int v0_own, .int v0_droppers, .int v0_load, .int v0_hang]))] := hD
  refine lv_lstore_n (lv' := [(3, .long r1), (0, .ref a0), (1, .int p1), (2, .int p2)]) hx hb dX0_cutUp_4 rfl hl (by decide) rfl (fun ls hl => ?_)
  refine lv_lload_n hx hb dX0_cutUp_5 rfl (lv_at hl 0 rfl) ?_
  refine lv_lconst (v := (0 : Int64)) hx hb dX0_cutUp_6 (by decide) ?_
  refine W.lcmp hx hb dX0_cutUp_7 ?_
  refine lv_if_gt (tgt := 13) hx hb dX0_cutUp_8 (by decide) (fun c2 => ?_) (fun c2 => ?_)
  · replace hw := hw.1 ((lg_cmp_gt _ _).mp c2)
    refine lv_aload_n hx hb dX0_cutUp_13 rfl (lv_at hl 1 rfl) ?_
    refine lv_iload_n hx hb dX0_cutUp_14 rfl (lv_at hl 2 rfl) ?_
    refine lv_iload_n hx hb dX0_cutUp_15 rfl (lv_at hl 3 rfl) ?_
    have hPc := hP.sub (ws' := [(a0, .inr (0, [.int v0_tension, .int v0_own, .int v0_droppers, .int v0_load, .int v0_hang]))]) [0] rfl
    have hDc := hD.sub (ws' := [(a0, .inr (0, [.int v0_tension, .int v0_own, .int v0_droppers, .int v0_load, .int v0_hang]))]) [0] (by decide) rfl
    have hFc := va_free (wc := [(a0, .inr (0, [.int v0_tension, .int v0_own, .int v0_droppers, .int v0_load, .int v0_hang]))]) hD hS hA [0] rfl
    refine va_calll (va_runV (As := [.int p1, .int p2]) (rest := []) ⟨hx, hb, hml, hown, hts⟩ (c_X0_lengthUpper l dC dI cI cJ cZ a0 H.size v0_tension v0_own v0_droppers v0_load v0_hang p1 p2 _ hw) (cwV 2 hts gX0_cutUp_X0_lengthUpper rfl rfl rfl (by decide +kernel) ⟨Nat.le_of_ble_eq_true rfl, Nat.le_of_ble_eq_true rfl⟩) ⟨fun a U g mk q => by obtain ⟨q0, q1, qP, qK, qD⟩ := q; exact ⟨q0, q1, qP, va_K.moved (u := U) (U := U.calling g mk a) (Vm.Alike.refl U.vm) qK, qD⟩, va_recv hK hP (ci := 0) (q0 := 0) rfl rfl, fun U hU hW => ⟨rfl, by rw [hU], by rw [hU]; exact hPc, va_K.moved hW.alike hK, hDc.weaken (fun _ _ _ _ => trivial)⟩⟩ rfl rfl hl.1 rfl (lv_room (Nat.le_of_ble_eq_true rfl)) dX0_cutUp_16 ⟨(Nat.zero_le _), (Nat.zero_le _)⟩) hS (fun q _ h => hFc q h) hFc (fun r3 u t H1 locs ht hvm hw hB hz1 hk1 hS => ?_)
    obtain ⟨hP1, -, hD1⟩ := hB
    try dsimp only at hw
    rw [ht] at hP1
    obtain ⟨hP, hD⟩ := va_join (wr := []) (w1 := [(a0, .inr (0, [.int v0_tension, .int v0_own, .int v0_droppers, .int v0_load, .int v0_hang]))]) hP hD [0] [] rfl rfl (by decide) (by decide) hk1 hFc hP1 hD1
    generalize H1 = H at hP hS ⊢
    have hP : va_P (dC, dI) vwCl [(a0, .inr (0, [.int v0_tension, .int v0_own, .int v0_droppers, .int v0_load, .int v0_hang]))] H := hP
    have hD : va_D A [(a0, .inr (0, [.int v0_tension, .int v0_own, .int v0_droppers, .int v0_load, .int v0_hang]))] := hD
    refine lv_lneg hx hb dX0_cutUp_19 ?_
    refine lv_lload_n hx hb dX0_cutUp_20 rfl (lv_at hl 0 rfl) ?_
    have hPc := hP.sub (ws' := []) [] rfl
    have hDc := hD.sub (ws' := []) [] (by decide) rfl
    have hFc := va_free (wc := []) hD hS hA [] rfl
    refine va_calll (va_runS (As := [.long (-r3), .long r1]) (rest := []) ⟨hx, hb, hml, hown, hts⟩ (c_J9_floorDiv_f86c9 l dC dI cI cJ cZ H.size (-r3) r1 _ hw) (va_cwS 2 hts gX0_cutUp_J9_floorDiv_f86c9 rfl rfl rfl (by decide +kernel) ⟨Nat.le_of_ble_eq_true rfl, Nat.le_of_ble_eq_true rfl⟩) ⟨fun a U g mk q => by obtain ⟨q0, q1, qP, qK, qD⟩ := q; exact ⟨q0, q1, qP, va_K.moved (u := U) (U := U.calling g mk a) (Vm.Alike.refl U.vm) qK, qD⟩, fun U hU hW => ⟨rfl, by rw [hU], by rw [hU]; exact hPc, va_K.moved hW.alike hK, hDc.weaken (fun _ _ _ _ => trivial)⟩⟩ rfl rfl hl.1 rfl (lv_room (Nat.le_of_ble_eq_true rfl)) dX0_cutUp_21 ⟨(Nat.zero_le _), (Nat.zero_le _)⟩) hS (fun q _ h => hFc q h) hFc (fun r4 u t H1 locs ht hvm hw hB hz1 hk1 hS => ?_)
    obtain ⟨hP1, -, hD1⟩ := hB
    try dsimp only at hw
    rw [ht] at hP1
    obtain ⟨hP, hD⟩ := va_join (wr := [(a0, .inr (0, [.int v0_tension, .int v0_own, .int v0_droppers, .int v0_load, .int v0_hang]))]) (w1 := []) hP hD [] [0] rfl rfl (by decide) (by decide) hk1 hFc hP1 hD1
    generalize H1 = H at hP hS ⊢
    have hP : va_P (dC, dI) vwCl [(a0, .inr (0, [.int v0_tension, .int v0_own, .int v0_droppers, .int v0_load, .int v0_hang]))] H := hP
    have hD : va_D A [(a0, .inr (0, [.int v0_tension, .int v0_own, .int v0_droppers, .int v0_load, .int v0_hang]))] := hD
    refine lv_lneg hx hb dX0_cutUp_24 ?_
    refine lv_l2i (v := (-r4).toInt32) hx hb dX0_cutUp_25 rfl ?_
    have hP9 := hP.sub (ws' := [(a0, .inr (0, [.int v0_tension, .int v0_own, .int v0_droppers, .int v0_load, .int v0_hang]))]) [0] rfl
    have hD9 := hD.sub (ws' := [(a0, .inr (0, [.int v0_tension, .int v0_own, .int v0_droppers, .int v0_load, .int v0_hang]))]) [0] (by decide) rfl
    exact W.iret (v := (-r4).toInt32) hx hb hr (fun t ht hW => ⟨⟨(-r4).toInt32, (), rfl, hw, by rw [ht]; exact hP9, va_K.moved hW.alike hK, hD9⟩, hS.F ht⟩) hS.2.2 dX0_cutUp_26
  · replace hw := hw.2 (fun z => c2 ((lg_cmp_gt _ _).mpr z))
    refine lv_iconst (v := (0 : Int32)) hx hb dX0_cutUp_11 (by decide) ?_
    have hP9 := hP.sub (ws' := [(a0, .inr (0, [.int v0_tension, .int v0_own, .int v0_droppers, .int v0_load, .int v0_hang]))]) [0] rfl
    have hD9 := hD.sub (ws' := [(a0, .inr (0, [.int v0_tension, .int v0_own, .int v0_droppers, .int v0_load, .int v0_hang]))]) [0] (by decide) rfl
    exact W.iret (v := (0 : Int32)) hx hb hr (fun t ht hW => ⟨⟨(0 : Int32), (), rfl, hw, by rw [ht]; exact hP9, va_K.moved hW.alike hK, hD9⟩, hS.F ht⟩) hS.2.2 dX0_cutUp_12

theorem inX0_weight_X0 : ∀ w ∈ wsX00, w ∈ wsX0_weight := fun _ h => List.mem_cons_of_mem _ (List.mem_append_right _ h)
def wp_X0_weight (Q : Int64 → Prop) (v0_own : Int32) (v0_droppers : Int32) (v0_load : Int32) (p1 : Int32) : Prop :=
  (Q ((v0_own.toInt64 * p1.toInt64) + (v0_droppers.toInt64 * v0_load.toInt64)) )
set_option maxHeartbeats 4000000 in
set_option maxRecDepth 100000 in
theorem c_X0_weight (l : Launch) (dC : Nat → ClassId) (dI : Nat → Nat → Nat) (cI cJ cZ : ClassId) (a0 : Nat) (sz : Nat) (v0_tension : Int32) (v0_own : Int32) (v0_droppers : Int32) (v0_load : Int32) (v0_hang : Int32) (p1 : Int32) (Q : Int64 → Prop) (hw : wp_X0_weight Q v0_own v0_droppers v0_load p1) : Met l yX0_weight wsX0_weight ({ frames := 0, cells := 0, slots := 0, locals := 0 } : Room) (va_Pc [.ref a0, .int p1] (fun U => U.heap.size = sz ∧ va_P (dC, dI) vwCl [(a0, .inr (0, [.int v0_tension, .int v0_own, .int v0_droppers, .int v0_load, .int v0_hang]))] U.heap ∧ va_K (dC, dI) vwCl [(cI, .int), (cJ, .long), (cZ, .boolean)] U ∧ va_D (fun _ => True) [(a0, .inr (0, [.int v0_tension, .int v0_own, .int v0_droppers, .int v0_load, .int v0_hang]))])) (va_Ql (fun r (u : Unit) => Q r) (fun (u : Unit) t => va_P (dC, dI) vwCl [(a0, .inr (0, [.int v0_tension, .int v0_own, .int v0_droppers, .int v0_load, .int v0_hang]))] t.heap ∧ va_K (dC, dI) vwCl [(cI, .int), (cJ, .long), (cZ, .boolean)] t ∧ va_D (va_A [(a0, .inr (0, [.int v0_tension, .int v0_own, .int v0_droppers, .int v0_load, .int v0_hang]))] sz) [(a0, .inr (0, [.int v0_tension, .int v0_own, .int v0_droppers, .int v0_load, .int v0_hang]))]) (va_A [(a0, .inr (0, [.int v0_tension, .int v0_own, .int v0_droppers, .int v0_load, .int v0_hang]))] sz)) 0 0 (va_A [(a0, .inr (0, [.int v0_tension, .int v0_own, .int v0_droppers, .int v0_load, .int v0_hang]))] sz) := by
  refine Met.ofW (cc := cX0_weight) (maxL := 2) (ret := (some .long)) (by decide) rfl ?_
  intro p e s m args below meth c s₁ B hml hv
  obtain ⟨rfl, hsz, hP, hK, hD0⟩ := hv
  have hx := B.exec
  have hb := B.bytes
  have hr := B.returns
  have hts := atoms_spec (ws := wsX0_weight) B.pre
  have hown : s.vm.findClass RX0 = some m.cls := findClass_of_methodNamed B.named
  have hlocks := B.notSynchronized
  subst hsz
  have hD := hD0.self (sz := s.heap.size)
  generalize hAe : va_A [(a0, .inr (0, [.int v0_tension, .int v0_own, .int v0_droppers, .int v0_load, .int v0_hang]))] s.heap.size = A at hD ⊢
  have hA : ∀ q : Nat, s.heap.size ≤ q → A q := fun q h => by rw [← hAe]; exact Or.inr h
  have hS : va_S A s.heap s.heap [] := va_S.rf
  have hP : va_P (dC, dI) vwCl [(a0, .inr (0, [.int v0_tension, .int v0_own, .int v0_droppers, .int v0_load, .int v0_hang]))] s.heap := hP
  have lk1 := hts (.fieldLink RX0 13 "WireRow$Carrier" "own" "I") (by decide +kernel)
  have lk2 := hts (.fieldLink RX0 16 "WireRow$Carrier" "droppers" "I") (by decide +kernel)
  have lk3 := hts (.fieldLink RX0 19 "WireRow$Carrier" "load" "I") (by decide +kernel)
  have hl := lv_entry ([.ref a0, .int p1]) (n := 2) (Nat.le_of_ble_eq_true rfl)
  rw [lg_entry_eq]
  generalize (lg_sl ([.ref a0, .int p1]) ++ List.replicate (2 - (lg_sl ([.ref a0, .int p1])).length) Slot.unset).toArray = ls at hl ⊢
  have hl : lv_has ls 2 [(0, .ref a0), (1, .int p1)] := hl
  obtain ⟨H, hHe⟩ : ∃ H, H = s.heap := ⟨_, rfl⟩
  rw [← hHe] at hP
  have hS : va_S A s.heap H [] := by rw [hHe]; exact hS
  rw [← hHe]
  unfold wp_X0_weight at hw
  refine lv_aload_n hx hb dX0_weight_0 rfl (lv_at hl 0 rfl) ?_
  refine va_get (D := (dC, dI)) (ci := 0) (v := .int v0_own) (C := RX0) (T := TX0) (N := 5) hx hb hts inX0_weight_X0 hown hK hP 0 rfl rfl 1 (by decide) lk1 (fun _ h9 => h9) rfl dX0_weight_1 ?_
  refine lv_i2l (v := v0_own.toInt64) hx hb dX0_weight_4 rfl ?_
  refine lv_iload_n hx hb dX0_weight_5 rfl (lv_at hl 1 rfl) ?_
  refine lv_i2l (v := p1.toInt64) hx hb dX0_weight_6 rfl ?_
  refine lv_lmul hx hb dX0_weight_7 ?_
  refine lv_aload_n hx hb dX0_weight_8 rfl (lv_at hl 0 rfl) ?_
  refine va_get (D := (dC, dI)) (ci := 0) (v := .int v0_droppers) (C := RX0) (T := TX0) (N := 5) hx hb hts inX0_weight_X0 hown hK hP 0 rfl rfl 2 (by decide) lk2 (fun _ h9 => h9) rfl dX0_weight_9 ?_
  refine lv_i2l (v := v0_droppers.toInt64) hx hb dX0_weight_12 rfl ?_
  refine lv_aload_n hx hb dX0_weight_13 rfl (lv_at hl 0 rfl) ?_
  refine va_get (D := (dC, dI)) (ci := 0) (v := .int v0_load) (C := RX0) (T := TX0) (N := 5) hx hb hts inX0_weight_X0 hown hK hP 0 rfl rfl 3 (by decide) lk3 (fun _ h9 => h9) rfl dX0_weight_14 ?_
  refine lv_i2l (v := v0_load.toInt64) hx hb dX0_weight_17 rfl ?_
  refine lv_lmul hx hb dX0_weight_18 ?_
  refine lv_ladd hx hb dX0_weight_19 ?_
  have hP9 := hP.sub (ws' := [(a0, .inr (0, [.int v0_tension, .int v0_own, .int v0_droppers, .int v0_load, .int v0_hang]))]) [0] rfl
  have hD9 := hD.sub (ws' := [(a0, .inr (0, [.int v0_tension, .int v0_own, .int v0_droppers, .int v0_load, .int v0_hang]))]) [0] (by decide) rfl
  exact W.lret (v := ((v0_own.toInt64 * p1.toInt64) + (v0_droppers.toInt64 * v0_load.toInt64))) hx hb hr (fun t ht hW => ⟨⟨((v0_own.toInt64 * p1.toInt64) + (v0_droppers.toInt64 * v0_load.toInt64)), (), rfl, hw, by rw [ht]; exact hP9, va_K.moved hW.alike hK, hD9⟩, hS.F ht⟩) hS.2.2 dX0_weight_20

theorem inX1_sideOf_X1 : ∀ w ∈ wsX10, w ∈ wsX1_sideOf := fun _ h => List.mem_cons_of_mem _ (List.mem_append_right _ h)
def wp_X1_sideOf (Q : Int32 → Prop) (v1_s : Int32) (p1 : Int32) : Prop :=
  (Q (((p1 - p1 / (3 : Int32) * (3 : Int32)) - (1 : Int32)) * v1_s) )
set_option maxHeartbeats 4000000 in
set_option maxRecDepth 100000 in
theorem c_X1_sideOf (l : Launch) (dC : Nat → ClassId) (dI : Nat → Nat → Nat) (cI cJ cZ : ClassId) (a2 : Nat) (a4 : Nat) (a1 : Nat) (a1_cost : Nat) (a1_next : Nat) (sz : Nat) (v1_first : Int32) (v1_s : Int32) (p1 : Int32) (Q : Int32 → Prop) (hw : wp_X1_sideOf Q v1_s p1) : Met l yX1_sideOf wsX1_sideOf ({ frames := 0, cells := 0, slots := 0, locals := 0 } : Room) (va_Pc [.ref a1, .int p1] (fun U => U.heap.size = sz ∧ va_P (dC, dI) vwCl [(a1, .inr (1, [.ref a2, .ref a4, .ref a1_cost, .ref a1_next, .int v1_first, .int v1_s]))] U.heap ∧ va_K (dC, dI) vwCl [(cI, .int), (cJ, .long), (cZ, .boolean)] U ∧ va_D (fun _ => True) [(a1, .inr (1, [.ref a2, .ref a4, .ref a1_cost, .ref a1_next, .int v1_first, .int v1_s]))])) (va_Qi (fun r (u : Unit) => Q r) (fun (u : Unit) t => va_P (dC, dI) vwCl [(a1, .inr (1, [.ref a2, .ref a4, .ref a1_cost, .ref a1_next, .int v1_first, .int v1_s]))] t.heap ∧ va_K (dC, dI) vwCl [(cI, .int), (cJ, .long), (cZ, .boolean)] t ∧ va_D (va_A [(a1, .inr (1, [.ref a2, .ref a4, .ref a1_cost, .ref a1_next, .int v1_first, .int v1_s]))] sz) [(a1, .inr (1, [.ref a2, .ref a4, .ref a1_cost, .ref a1_next, .int v1_first, .int v1_s]))]) (va_A [(a1, .inr (1, [.ref a2, .ref a4, .ref a1_cost, .ref a1_next, .int v1_first, .int v1_s]))] sz)) 0 0 (va_A [(a1, .inr (1, [.ref a2, .ref a4, .ref a1_cost, .ref a1_next, .int v1_first, .int v1_s]))] sz) := by
  refine Met.ofW (cc := cX1_sideOf) (maxL := 2) (ret := (some .int)) (by decide) rfl ?_
  intro p e s m args below meth c s₁ B hml hv
  obtain ⟨rfl, hsz, hP, hK, hD0⟩ := hv
  have hx := B.exec
  have hb := B.bytes
  have hr := B.returns
  have hts := atoms_spec (ws := wsX1_sideOf) B.pre
  have hown : s.vm.findClass RX1 = some m.cls := findClass_of_methodNamed B.named
  have hlocks := B.notSynchronized
  subst hsz
  have hD := hD0.self (sz := s.heap.size)
  generalize hAe : va_A [(a1, .inr (1, [.ref a2, .ref a4, .ref a1_cost, .ref a1_next, .int v1_first, .int v1_s]))] s.heap.size = A at hD ⊢
  have hA : ∀ q : Nat, s.heap.size ≤ q → A q := fun q h => by rw [← hAe]; exact Or.inr h
  have hS : va_S A s.heap s.heap [] := va_S.rf
  have hP : va_P (dC, dI) vwCl [(a1, .inr (1, [.ref a2, .ref a4, .ref a1_cost, .ref a1_next, .int v1_first, .int v1_s]))] s.heap := hP
  have lk1 := hts (.fieldLink RX1 28 "WireRow$Chooser" "s" "I") (by decide +kernel)
  have hl := lv_entry ([.ref a1, .int p1]) (n := 2) (Nat.le_of_ble_eq_true rfl)
  rw [lg_entry_eq]
  generalize (lg_sl ([.ref a1, .int p1]) ++ List.replicate (2 - (lg_sl ([.ref a1, .int p1])).length) Slot.unset).toArray = ls at hl ⊢
  have hl : lv_has ls 2 [(0, .ref a1), (1, .int p1)] := hl
  obtain ⟨H, hHe⟩ : ∃ H, H = s.heap := ⟨_, rfl⟩
  rw [← hHe] at hP
  have hS : va_S A s.heap H [] := by rw [hHe]; exact hS
  rw [← hHe]
  unfold wp_X1_sideOf at hw
  refine lv_iload_n hx hb dX1_sideOf_0 rfl (lv_at hl 1 rfl) ?_
  refine lv_iconst (v := (3 : Int32)) hx hb dX1_sideOf_1 (by decide) ?_
  refine lv_irem hx hb dX1_sideOf_2 (by decide) ?_
  refine lv_iconst (v := (1 : Int32)) hx hb dX1_sideOf_3 (by decide) ?_
  refine lv_isub hx hb dX1_sideOf_4 ?_
  refine lv_aload_n hx hb dX1_sideOf_5 rfl (lv_at hl 0 rfl) ?_
  refine va_get (D := (dC, dI)) (ci := 1) (v := .int v1_s) (C := RX1) (T := TX1) (N := 6) hx hb hts inX1_sideOf_X1 hown hK hP 0 rfl rfl 5 (by decide) lk1 (fun _ h9 => h9) rfl dX1_sideOf_6 ?_
  refine lv_imul hx hb dX1_sideOf_9 ?_
  have hP9 := hP.sub (ws' := [(a1, .inr (1, [.ref a2, .ref a4, .ref a1_cost, .ref a1_next, .int v1_first, .int v1_s]))]) [0] rfl
  have hD9 := hD.sub (ws' := [(a1, .inr (1, [.ref a2, .ref a4, .ref a1_cost, .ref a1_next, .int v1_first, .int v1_s]))]) [0] (by decide) rfl
  exact W.iret (v := (((p1 - p1 / (3 : Int32) * (3 : Int32)) - (1 : Int32)) * v1_s)) hx hb hr (fun t ht hW => ⟨⟨(((p1 - p1 / (3 : Int32) * (3 : Int32)) - (1 : Int32)) * v1_s), (), rfl, hw, by rw [ht]; exact hP9, va_K.moved hW.alike hK, hD9⟩, hS.F ht⟩) hS.2.2 dX1_sideOf_10

theorem inX4_lay_X4 : ∀ w ∈ wsX40, w ∈ wsX4_lay := fun _ h => List.mem_cons_of_mem _ (List.mem_append_left _ (List.mem_append_right _ h))
theorem inX4_lay_X2 : ∀ w ∈ wsX20, w ∈ wsX4_lay := fun _ h => List.mem_cons_of_mem _ (List.mem_append_right _ h)
def wp_X4_lay (Q : (Int32) → (Int32) → (Int64) → (Int64) → Prop) (f2_place : Nat → Int32) (f2_trackAside : Nat → Int64) (v4_begin : Int32) (v4_end : Int32) (v4_wireAtBegin : Int64) (v4_wireAtEnd : Int64) (p1 : Int32) (p2 : Int32) (p3 : Int32) (p4 : Int32) : Prop :=
  (vp_in p1 40 ∧ (∀ x2 : Int32, x2 = (f2_place p1.toNatClampNeg) → (vp_in p3 40 ∧ (∀ x4 : Int32, x4 = (f2_place p3.toNatClampNeg) → (vp_in p1 40 ∧ (∀ x6 : Int64, x6 = ((f2_trackAside p1.toNatClampNeg) + ((2000 : Int32) * p2).toInt64) → (vp_in p3 40 ∧ (∀ x8 : Int64, x8 = ((f2_trackAside p3.toNatClampNeg) + ((2000 : Int32) * p4).toInt64) → (Q x2 x4 x6 x8)))))))))
set_option maxHeartbeats 4000000 in
set_option maxRecDepth 100000 in
theorem c_X4_lay (l : Launch) (dC : Nat → ClassId) (dI : Nat → Nat → Nat) (cI cJ cZ : ClassId) (a6 : Nat) (a2 : Nat) (a2_place : Nat) (a2_price : Nat) (a2_trackAside : Nat) (a2_side : Nat) (a2_stands : Nat) (a2_mastPeg : Nat) (a5 : Nat) (a4 : Nat) (sz : Nat) (v2_count : Int32) (v2_masts : Int32) (f2_place : Nat → Int32) (f2_trackAside : Nat → Int64) (v4_begin : Int32) (v4_end : Int32) (v4_wireAtBegin : Int64) (v4_wireAtEnd : Int64) (p1 : Int32) (p2 : Int32) (p3 : Int32) (p4 : Int32) (Q : (Int32) → (Int32) → (Int64) → (Int64) → Prop) (hw : wp_X4_lay Q f2_place f2_trackAside v4_begin v4_end v4_wireAtBegin v4_wireAtEnd p1 p2 p3 p4) : Met l yX4_lay wsX4_lay ({ frames := 0, cells := 0, slots := 0, locals := 0 } : Room) (va_Pc [.ref a4, .int p1, .int p2, .int p3, .int p4] (fun U => U.heap.size = sz ∧ va_P (dC, dI) vwCl [(a2, .inr (2, [.int v2_count, .int v2_masts, .ref a2_place, .ref a2_price, .ref a2_trackAside, .ref a2_side, .ref a2_stands, .ref a2_mastPeg])), (a2_place, .inl (cI, 40, .inl f2_place)), (a2_trackAside, .inl (cJ, 40, .inr (.inl f2_trackAside))), (a4, .inr (4, [.ref a6, .ref a2, .ref a5, .int v4_begin, .int v4_end, .long v4_wireAtBegin, .long v4_wireAtEnd]))] U.heap ∧ va_K (dC, dI) vwCl [(cI, .int), (cJ, .long), (cZ, .boolean)] U ∧ va_D (fun _ => True) [(a2, .inr (2, [.int v2_count, .int v2_masts, .ref a2_place, .ref a2_price, .ref a2_trackAside, .ref a2_side, .ref a2_stands, .ref a2_mastPeg])), (a2_place, .inl (cI, 40, .inl f2_place)), (a2_trackAside, .inl (cJ, 40, .inr (.inl f2_trackAside))), (a4, .inr (4, [.ref a6, .ref a2, .ref a5, .int v4_begin, .int v4_end, .long v4_wireAtBegin, .long v4_wireAtEnd]))])) (va_Qv (fun (u : (Int32) × (Int32) × (Int64) × (Int64)) => Q u.1 u.2.1 u.2.2.1 u.2.2.2) (fun (u : (Int32) × (Int32) × (Int64) × (Int64)) t => va_P (dC, dI) vwCl [(a2, .inr (2, [.int v2_count, .int v2_masts, .ref a2_place, .ref a2_price, .ref a2_trackAside, .ref a2_side, .ref a2_stands, .ref a2_mastPeg])), (a2_place, .inl (cI, 40, .inl f2_place)), (a2_trackAside, .inl (cJ, 40, .inr (.inl f2_trackAside))), (a4, .inr (4, [.ref a6, .ref a2, .ref a5, .int u.1, .int u.2.1, .long u.2.2.1, .long u.2.2.2]))] t.heap ∧ va_K (dC, dI) vwCl [(cI, .int), (cJ, .long), (cZ, .boolean)] t ∧ va_D (va_A [(a2, .inr (2, [.int v2_count, .int v2_masts, .ref a2_place, .ref a2_price, .ref a2_trackAside, .ref a2_side, .ref a2_stands, .ref a2_mastPeg])), (a2_place, .inl (cI, 40, .inl f2_place)), (a2_trackAside, .inl (cJ, 40, .inr (.inl f2_trackAside))), (a4, .inr (4, [.ref a6, .ref a2, .ref a5, .int v4_begin, .int v4_end, .long v4_wireAtBegin, .long v4_wireAtEnd]))] sz) [(a2, .inr (2, [.int v2_count, .int v2_masts, .ref a2_place, .ref a2_price, .ref a2_trackAside, .ref a2_side, .ref a2_stands, .ref a2_mastPeg])), (a2_place, .inl (cI, 40, .inl f2_place)), (a2_trackAside, .inl (cJ, 40, .inr (.inl f2_trackAside))), (a4, .inr (4, [.ref a6, .ref a2, .ref a5, .int u.1, .int u.2.1, .long u.2.2.1, .long u.2.2.2]))]) (va_A [(a2, .inr (2, [.int v2_count, .int v2_masts, .ref a2_place, .ref a2_price, .ref a2_trackAside, .ref a2_side, .ref a2_stands, .ref a2_mastPeg])), (a2_place, .inl (cI, 40, .inl f2_place)), (a2_trackAside, .inl (cJ, 40, .inr (.inl f2_trackAside))), (a4, .inr (4, [.ref a6, .ref a2, .ref a5, .int v4_begin, .int v4_end, .long v4_wireAtBegin, .long v4_wireAtEnd]))] sz)) 0 0 (va_A [(a2, .inr (2, [.int v2_count, .int v2_masts, .ref a2_place, .ref a2_price, .ref a2_trackAside, .ref a2_side, .ref a2_stands, .ref a2_mastPeg])), (a2_place, .inl (cI, 40, .inl f2_place)), (a2_trackAside, .inl (cJ, 40, .inr (.inl f2_trackAside))), (a4, .inr (4, [.ref a6, .ref a2, .ref a5, .int v4_begin, .int v4_end, .long v4_wireAtBegin, .long v4_wireAtEnd]))] sz) := by
  refine Met.ofW (cc := cX4_lay) (maxL := 5) (ret := none) (by decide) rfl ?_
  intro p e s m args below meth c s₁ B hml hv
  obtain ⟨rfl, hsz, hP, hK, hD0⟩ := hv
  have hx := B.exec
  have hb := B.bytes
  have hr := B.returns
  have hts := atoms_spec (ws := wsX4_lay) B.pre
  have hown : s.vm.findClass RX4 = some m.cls := findClass_of_methodNamed B.named
  have hlocks := B.notSynchronized
  subst hsz
  have hD := hD0.self (sz := s.heap.size)
  generalize hAe : va_A [(a2, .inr (2, [.int v2_count, .int v2_masts, .ref a2_place, .ref a2_price, .ref a2_trackAside, .ref a2_side, .ref a2_stands, .ref a2_mastPeg])), (a2_place, .inl (cI, 40, .inl f2_place)), (a2_trackAside, .inl (cJ, 40, .inr (.inl f2_trackAside))), (a4, .inr (4, [.ref a6, .ref a2, .ref a5, .int v4_begin, .int v4_end, .long v4_wireAtBegin, .long v4_wireAtEnd]))] s.heap.size = A at hD ⊢
  have hA : ∀ q : Nat, s.heap.size ≤ q → A q := fun q h => by rw [← hAe]; exact Or.inr h
  have hS : va_S A s.heap s.heap [] := va_S.rf
  have hP : va_P (dC, dI) vwCl [(a2, .inr (2, [.int v2_count, .int v2_masts, .ref a2_place, .ref a2_price, .ref a2_trackAside, .ref a2_side, .ref a2_stands, .ref a2_mastPeg])), (a2_place, .inl (cI, 40, .inl f2_place)), (a2_trackAside, .inl (cJ, 40, .inr (.inl f2_trackAside))), (a4, .inr (4, [.ref a6, .ref a2, .ref a5, .int v4_begin, .int v4_end, .long v4_wireAtBegin, .long v4_wireAtEnd]))] s.heap := hP
  have lk1 := hts (.fieldLink RX4 15 "WireRow$Span" "pegs" "LWireRow$PegRow;") (by decide +kernel)
  have lk2 := hts (.fieldLink RX4 23 "WireRow$PegRow" "place" "[I") (by decide +kernel)
  have lk3 := hts (.fieldLink RX4 29 "WireRow$Span" "begin" "I") (by decide +kernel)
  have lk4 := hts (.fieldLink RX4 33 "WireRow$Span" "end" "I") (by decide +kernel)
  have lk5 := hts (.fieldLink RX4 36 "WireRow$PegRow" "trackAside" "[J") (by decide +kernel)
  have lk6 := hts (.fieldLink RX4 40 "WireRow$Span" "wireAtBegin" "J") (by decide +kernel)
  have lk7 := hts (.fieldLink RX4 44 "WireRow$Span" "wireAtEnd" "J") (by decide +kernel)
  have hl := lv_entry ([.ref a4, .int p1, .int p2, .int p3, .int p4]) (n := 5) (Nat.le_of_ble_eq_true rfl)
  rw [lg_entry_eq]
  generalize (lg_sl ([.ref a4, .int p1, .int p2, .int p3, .int p4]) ++ List.replicate (5 - (lg_sl ([.ref a4, .int p1, .int p2, .int p3, .int p4])).length) Slot.unset).toArray = ls at hl ⊢
  have hl : lv_has ls 5 [(0, .ref a4), (1, .int p1), (2, .int p2), (3, .int p3), (4, .int p4)] := hl
  obtain ⟨H, hHe⟩ : ∃ H, H = s.heap := ⟨_, rfl⟩
  rw [← hHe] at hP
  have hS : va_S A s.heap H [] := by rw [hHe]; exact hS
  rw [← hHe]
  unfold wp_X4_lay at hw
  refine lv_aload_n hx hb dX4_lay_0 rfl (lv_at hl 0 rfl) ?_
  refine lv_aload_n hx hb dX4_lay_1 rfl (lv_at hl 0 rfl) ?_
  refine va_get (D := (dC, dI)) (ci := 4) (v := .ref a2) (C := RX4) (T := TX4) (N := 7) hx hb hts inX4_lay_X4 hown hK hP 3 rfl rfl 1 (by decide) lk1 (fun _ h9 => h9) rfl dX4_lay_2 ?_
  refine va_get (D := (dC, dI)) (ci := 2) (v := .ref a2_place) (C := RX2) (T := TX2) (N := 8) hx hb hts inX4_lay_X2 hown hK hP 0 rfl rfl 2 (by decide) lk2 (fun _ h9 => h9) rfl dX4_lay_5 ?_
  refine lv_iload_n hx hb dX4_lay_8 rfl (lv_at hl 1 rfl) ?_
  obtain ⟨h1, hw⟩ := hw
  refine va_iald hx hb hK hP 1 0 rfl rfl h1 dX4_lay_9 ?_
  refine lv_topi (fun x2 ex2 => ?_)
  replace hw := hw x2 ex2
  refine va_put (D := (dC, dI)) (ci := 4) (v := .int x2) (ty := .int) (C := RX4) (T := TX4) (N := 7) hx hb hts inX4_lay_X4 tyX4 tyX4_ok nmX4 hown hK hP hD hS 3 rfl rfl 3 (by decide) lk3 (fun _ h9 => h9) rfl (by decide +kernel) rfl rfl (Nat.le_of_ble_eq_true rfl) dX4_lay_10 (fun H locs hP hD hS => ?_)
  have hP : va_P (dC, dI) vwCl [(a2, .inr (2, [.int v2_count, .int v2_masts, .ref a2_place, .ref a2_price, .ref a2_trackAside, .ref a2_side, .ref a2_stands, .ref a2_mastPeg])), (a2_place, .inl (cI, 40, .inl f2_place)), (a2_trackAside, .inl (cJ, 40, .inr (.inl f2_trackAside))), (a4, .inr (4, [.ref a6, .ref a2, .ref a5, .int x2, .int v4_end, .long v4_wireAtBegin, .long v4_wireAtEnd]))] H := hP
  have hD : va_D A [(a2, .inr (2, [.int v2_count, .int v2_masts, .ref a2_place, .ref a2_price, .ref a2_trackAside, .ref a2_side, .ref a2_stands, .ref a2_mastPeg])), (a2_place, .inl (cI, 40, .inl f2_place)), (a2_trackAside, .inl (cJ, 40, .inr (.inl f2_trackAside))), (a4, .inr (4, [.ref a6, .ref a2, .ref a5, .int x2, .int v4_end, .long v4_wireAtBegin, .long v4_wireAtEnd]))] := hD
  refine lv_aload_n hx hb dX4_lay_13 rfl (lv_at hl 0 rfl) ?_
  refine lv_aload_n hx hb dX4_lay_14 rfl (lv_at hl 0 rfl) ?_
  refine va_get (D := (dC, dI)) (ci := 4) (v := .ref a2) (C := RX4) (T := TX4) (N := 7) hx hb hts inX4_lay_X4 hown hK hP 3 rfl rfl 1 (by decide) lk1 (fun _ h9 => h9) rfl dX4_lay_15 ?_
  refine va_get (D := (dC, dI)) (ci := 2) (v := .ref a2_place) (C := RX2) (T := TX2) (N := 8) hx hb hts inX4_lay_X2 hown hK hP 0 rfl rfl 2 (by decide) lk2 (fun _ h9 => h9) rfl dX4_lay_18 ?_
  refine lv_iload_n hx hb dX4_lay_21 rfl (lv_at hl 3 rfl) ?_
  obtain ⟨h3, hw⟩ := hw
  refine va_iald hx hb hK hP 1 0 rfl rfl h3 dX4_lay_22 ?_
  refine lv_topi (fun x4 ex4 => ?_)
  replace hw := hw x4 ex4
  refine va_put (D := (dC, dI)) (ci := 4) (v := .int x4) (ty := .int) (C := RX4) (T := TX4) (N := 7) hx hb hts inX4_lay_X4 tyX4 tyX4_ok nmX4 hown hK hP hD hS 3 rfl rfl 4 (by decide) lk4 (fun _ h9 => h9) rfl (by decide +kernel) rfl rfl (Nat.le_of_ble_eq_true rfl) dX4_lay_23 (fun H locs hP hD hS => ?_)
  have hP : va_P (dC, dI) vwCl [(a2, .inr (2, [.int v2_count, .int v2_masts, .ref a2_place, .ref a2_price, .ref a2_trackAside, .ref a2_side, .ref a2_stands, .ref a2_mastPeg])), (a2_place, .inl (cI, 40, .inl f2_place)), (a2_trackAside, .inl (cJ, 40, .inr (.inl f2_trackAside))), (a4, .inr (4, [.ref a6, .ref a2, .ref a5, .int x2, .int x4, .long v4_wireAtBegin, .long v4_wireAtEnd]))] H := hP
  have hD : va_D A [(a2, .inr (2, [.int v2_count, .int v2_masts, .ref a2_place, .ref a2_price, .ref a2_trackAside, .ref a2_side, .ref a2_stands, .ref a2_mastPeg])), (a2_place, .inl (cI, 40, .inl f2_place)), (a2_trackAside, .inl (cJ, 40, .inr (.inl f2_trackAside))), (a4, .inr (4, [.ref a6, .ref a2, .ref a5, .int x2, .int x4, .long v4_wireAtBegin, .long v4_wireAtEnd]))] := hD
  refine lv_aload_n hx hb dX4_lay_26 rfl (lv_at hl 0 rfl) ?_
  refine lv_aload_n hx hb dX4_lay_27 rfl (lv_at hl 0 rfl) ?_
  refine va_get (D := (dC, dI)) (ci := 4) (v := .ref a2) (C := RX4) (T := TX4) (N := 7) hx hb hts inX4_lay_X4 hown hK hP 3 rfl rfl 1 (by decide) lk1 (fun _ h9 => h9) rfl dX4_lay_28 ?_
  refine va_get (D := (dC, dI)) (ci := 2) (v := .ref a2_trackAside) (C := RX2) (T := TX2) (N := 8) hx hb hts inX4_lay_X2 hown hK hP 0 rfl rfl 4 (by decide) lk5 (fun _ h9 => h9) rfl dX4_lay_31 ?_
  refine lv_iload_n hx hb dX4_lay_34 rfl (lv_at hl 1 rfl) ?_
  obtain ⟨h5, hw⟩ := hw
  refine va_lald hx hb hK hP 2 1 rfl rfl h5 dX4_lay_35 ?_
  refine lv_sipush (v := (2000 : Int32)) hx hb dX4_lay_36 (by decide) ?_
  refine lv_iload_n hx hb dX4_lay_39 rfl (lv_at hl 2 rfl) ?_
  refine lv_imul hx hb dX4_lay_40 ?_
  refine lv_i2l (v := ((2000 : Int32) * p2).toInt64) hx hb dX4_lay_41 rfl ?_
  refine lv_ladd hx hb dX4_lay_42 ?_
  refine lv_topl (fun x6 ex6 => ?_)
  replace hw := hw x6 ex6
  refine va_put (D := (dC, dI)) (ci := 4) (v := .long x6) (ty := .long) (C := RX4) (T := TX4) (N := 7) hx hb hts inX4_lay_X4 tyX4 tyX4_ok nmX4 hown hK hP hD hS 3 rfl rfl 5 (by decide) lk6 (fun _ h9 => h9) rfl (by decide +kernel) rfl rfl (Nat.le_of_ble_eq_true rfl) dX4_lay_43 (fun H locs hP hD hS => ?_)
  have hP : va_P (dC, dI) vwCl [(a2, .inr (2, [.int v2_count, .int v2_masts, .ref a2_place, .ref a2_price, .ref a2_trackAside, .ref a2_side, .ref a2_stands, .ref a2_mastPeg])), (a2_place, .inl (cI, 40, .inl f2_place)), (a2_trackAside, .inl (cJ, 40, .inr (.inl f2_trackAside))), (a4, .inr (4, [.ref a6, .ref a2, .ref a5, .int x2, .int x4, .long x6, .long v4_wireAtEnd]))] H := hP
  have hD : va_D A [(a2, .inr (2, [.int v2_count, .int v2_masts, .ref a2_place, .ref a2_price, .ref a2_trackAside, .ref a2_side, .ref a2_stands, .ref a2_mastPeg])), (a2_place, .inl (cI, 40, .inl f2_place)), (a2_trackAside, .inl (cJ, 40, .inr (.inl f2_trackAside))), (a4, .inr (4, [.ref a6, .ref a2, .ref a5, .int x2, .int x4, .long x6, .long v4_wireAtEnd]))] := hD
  refine lv_aload_n hx hb dX4_lay_46 rfl (lv_at hl 0 rfl) ?_
  refine lv_aload_n hx hb dX4_lay_47 rfl (lv_at hl 0 rfl) ?_
  refine va_get (D := (dC, dI)) (ci := 4) (v := .ref a2) (C := RX4) (T := TX4) (N := 7) hx hb hts inX4_lay_X4 hown hK hP 3 rfl rfl 1 (by decide) lk1 (fun _ h9 => h9) rfl dX4_lay_48 ?_
  refine va_get (D := (dC, dI)) (ci := 2) (v := .ref a2_trackAside) (C := RX2) (T := TX2) (N := 8) hx hb hts inX4_lay_X2 hown hK hP 0 rfl rfl 4 (by decide) lk5 (fun _ h9 => h9) rfl dX4_lay_51 ?_
  refine lv_iload_n hx hb dX4_lay_54 rfl (lv_at hl 3 rfl) ?_
  obtain ⟨h7, hw⟩ := hw
  refine va_lald hx hb hK hP 2 1 rfl rfl h7 dX4_lay_55 ?_
  refine lv_sipush (v := (2000 : Int32)) hx hb dX4_lay_56 (by decide) ?_
  refine lv_iload hx hb dX4_lay_59 (lv_at hl 4 rfl) ?_
  refine lv_imul hx hb dX4_lay_61 ?_
  refine lv_i2l (v := ((2000 : Int32) * p4).toInt64) hx hb dX4_lay_62 rfl ?_
  refine lv_ladd hx hb dX4_lay_63 ?_
  refine lv_topl (fun x8 ex8 => ?_)
  replace hw := hw x8 ex8
  refine va_put (D := (dC, dI)) (ci := 4) (v := .long x8) (ty := .long) (C := RX4) (T := TX4) (N := 7) hx hb hts inX4_lay_X4 tyX4 tyX4_ok nmX4 hown hK hP hD hS 3 rfl rfl 6 (by decide) lk7 (fun _ h9 => h9) rfl (by decide +kernel) rfl rfl (Nat.le_of_ble_eq_true rfl) dX4_lay_64 (fun H locs hP hD hS => ?_)
  have hP : va_P (dC, dI) vwCl [(a2, .inr (2, [.int v2_count, .int v2_masts, .ref a2_place, .ref a2_price, .ref a2_trackAside, .ref a2_side, .ref a2_stands, .ref a2_mastPeg])), (a2_place, .inl (cI, 40, .inl f2_place)), (a2_trackAside, .inl (cJ, 40, .inr (.inl f2_trackAside))), (a4, .inr (4, [.ref a6, .ref a2, .ref a5, .int x2, .int x4, .long x6, .long x8]))] H := hP
  have hD : va_D A [(a2, .inr (2, [.int v2_count, .int v2_masts, .ref a2_place, .ref a2_price, .ref a2_trackAside, .ref a2_side, .ref a2_stands, .ref a2_mastPeg])), (a2_place, .inl (cI, 40, .inl f2_place)), (a2_trackAside, .inl (cJ, 40, .inr (.inl f2_trackAside))), (a4, .inr (4, [.ref a6, .ref a2, .ref a5, .int x2, .int x4, .long x6, .long x8]))] := hD
  have hP9 := hP.sub (ws' := [(a2, .inr (2, [.int v2_count, .int v2_masts, .ref a2_place, .ref a2_price, .ref a2_trackAside, .ref a2_side, .ref a2_stands, .ref a2_mastPeg])), (a2_place, .inl (cI, 40, .inl f2_place)), (a2_trackAside, .inl (cJ, 40, .inr (.inl f2_trackAside))), (a4, .inr (4, [.ref a6, .ref a2, .ref a5, .int x2, .int x4, .long x6, .long x8]))]) [0, 1, 2, 3] rfl
  have hD9 := hD.sub (ws' := [(a2, .inr (2, [.int v2_count, .int v2_masts, .ref a2_place, .ref a2_price, .ref a2_trackAside, .ref a2_side, .ref a2_stands, .ref a2_mastPeg])), (a2_place, .inl (cI, 40, .inl f2_place)), (a2_trackAside, .inl (cJ, 40, .inr (.inl f2_trackAside))), (a4, .inr (4, [.ref a6, .ref a2, .ref a5, .int x2, .int x4, .long x6, .long x8]))]) [0, 1, 2, 3] (by decide) rfl
  exact W.vret hx hb hr (fun t ht hW => ⟨⟨(x2, x4, x6, x8), rfl, hw, by rw [ht]; exact hP9, va_K.moved hW.alike hK, hD9⟩, hS.F ht⟩) hS.2.2 dX4_lay_67

theorem inX1_layBetween_X1 : ∀ w ∈ wsX10, w ∈ wsX1_layBetween := fun _ h => List.mem_cons_of_mem _ (List.mem_append_left _ (List.mem_append_left _ (List.mem_append_right _ h)))
theorem inX1_layBetween_X4 : ∀ w ∈ wsX40, w ∈ wsX1_layBetween := fun _ h => List.mem_cons_of_mem _ (List.mem_append_left _ (List.mem_append_right _ h))
theorem inX1_layBetween_X2 : ∀ w ∈ wsX20, w ∈ wsX1_layBetween := fun _ h => List.mem_cons_of_mem _ (List.mem_append_right _ h)
def wp_X1_layBetween (Q : (Int32) → (Int32) → (Int64) → (Int64) → Prop) (f2_place : Nat → Int32) (f2_trackAside : Nat → Int64) (v4_begin : Int32) (v4_end : Int32) (v4_wireAtBegin : Int64) (v4_wireAtEnd : Int64) (v1_s : Int32) (p1 : Int32) (p2 : Int32) : Prop :=
  (wp_X1_sideOf (fun r2 => (wp_X1_sideOf (fun r4 => (wp_X4_lay (fun m6 m7 m8 m9 => (Q m6 m7 m8 m9)) f2_place f2_trackAside v4_begin v4_end v4_wireAtBegin v4_wireAtEnd (p1 / (3 : Int32)) r2 (p2 / (3 : Int32)) r4)) v1_s p2)) v1_s p1)
set_option maxHeartbeats 4000000 in
set_option maxRecDepth 100000 in
theorem c_X1_layBetween (l : Launch) (dC : Nat → ClassId) (dI : Nat → Nat → Nat) (cI cJ cZ : ClassId) (a6 : Nat) (a2 : Nat) (a2_place : Nat) (a2_price : Nat) (a2_trackAside : Nat) (a2_side : Nat) (a2_stands : Nat) (a2_mastPeg : Nat) (a5 : Nat) (a4 : Nat) (a1 : Nat) (a1_cost : Nat) (a1_next : Nat) (sz : Nat) (v2_count : Int32) (v2_masts : Int32) (f2_place : Nat → Int32) (f2_trackAside : Nat → Int64) (v4_begin : Int32) (v4_end : Int32) (v4_wireAtBegin : Int64) (v4_wireAtEnd : Int64) (v1_first : Int32) (v1_s : Int32) (p1 : Int32) (p2 : Int32) (Q : (Int32) → (Int32) → (Int64) → (Int64) → Prop) (hw : wp_X1_layBetween Q f2_place f2_trackAside v4_begin v4_end v4_wireAtBegin v4_wireAtEnd v1_s p1 p2) : Met l yX1_layBetween wsX1_layBetween ({ frames := 1, cells := 0, slots := 0, locals := 24 } : Room) (va_Pc [.ref a1, .int p1, .int p2] (fun U => U.heap.size = sz ∧ va_P (dC, dI) vwCl [(a2, .inr (2, [.int v2_count, .int v2_masts, .ref a2_place, .ref a2_price, .ref a2_trackAside, .ref a2_side, .ref a2_stands, .ref a2_mastPeg])), (a2_place, .inl (cI, 40, .inl f2_place)), (a2_trackAside, .inl (cJ, 40, .inr (.inl f2_trackAside))), (a4, .inr (4, [.ref a6, .ref a2, .ref a5, .int v4_begin, .int v4_end, .long v4_wireAtBegin, .long v4_wireAtEnd])), (a1, .inr (1, [.ref a2, .ref a4, .ref a1_cost, .ref a1_next, .int v1_first, .int v1_s]))] U.heap ∧ va_K (dC, dI) vwCl [(cI, .int), (cJ, .long), (cZ, .boolean)] U ∧ va_D (fun _ => True) [(a2, .inr (2, [.int v2_count, .int v2_masts, .ref a2_place, .ref a2_price, .ref a2_trackAside, .ref a2_side, .ref a2_stands, .ref a2_mastPeg])), (a2_place, .inl (cI, 40, .inl f2_place)), (a2_trackAside, .inl (cJ, 40, .inr (.inl f2_trackAside))), (a4, .inr (4, [.ref a6, .ref a2, .ref a5, .int v4_begin, .int v4_end, .long v4_wireAtBegin, .long v4_wireAtEnd])), (a1, .inr (1, [.ref a2, .ref a4, .ref a1_cost, .ref a1_next, .int v1_first, .int v1_s]))])) (va_Qv (fun (u : (Int32) × (Int32) × (Int64) × (Int64)) => Q u.1 u.2.1 u.2.2.1 u.2.2.2) (fun (u : (Int32) × (Int32) × (Int64) × (Int64)) t => va_P (dC, dI) vwCl [(a2, .inr (2, [.int v2_count, .int v2_masts, .ref a2_place, .ref a2_price, .ref a2_trackAside, .ref a2_side, .ref a2_stands, .ref a2_mastPeg])), (a2_place, .inl (cI, 40, .inl f2_place)), (a2_trackAside, .inl (cJ, 40, .inr (.inl f2_trackAside))), (a4, .inr (4, [.ref a6, .ref a2, .ref a5, .int u.1, .int u.2.1, .long u.2.2.1, .long u.2.2.2])), (a1, .inr (1, [.ref a2, .ref a4, .ref a1_cost, .ref a1_next, .int v1_first, .int v1_s]))] t.heap ∧ va_K (dC, dI) vwCl [(cI, .int), (cJ, .long), (cZ, .boolean)] t ∧ va_D (va_A [(a2, .inr (2, [.int v2_count, .int v2_masts, .ref a2_place, .ref a2_price, .ref a2_trackAside, .ref a2_side, .ref a2_stands, .ref a2_mastPeg])), (a2_place, .inl (cI, 40, .inl f2_place)), (a2_trackAside, .inl (cJ, 40, .inr (.inl f2_trackAside))), (a4, .inr (4, [.ref a6, .ref a2, .ref a5, .int v4_begin, .int v4_end, .long v4_wireAtBegin, .long v4_wireAtEnd])), (a1, .inr (1, [.ref a2, .ref a4, .ref a1_cost, .ref a1_next, .int v1_first, .int v1_s]))] sz) [(a2, .inr (2, [.int v2_count, .int v2_masts, .ref a2_place, .ref a2_price, .ref a2_trackAside, .ref a2_side, .ref a2_stands, .ref a2_mastPeg])), (a2_place, .inl (cI, 40, .inl f2_place)), (a2_trackAside, .inl (cJ, 40, .inr (.inl f2_trackAside))), (a4, .inr (4, [.ref a6, .ref a2, .ref a5, .int u.1, .int u.2.1, .long u.2.2.1, .long u.2.2.2])), (a1, .inr (1, [.ref a2, .ref a4, .ref a1_cost, .ref a1_next, .int v1_first, .int v1_s]))]) (va_A [(a2, .inr (2, [.int v2_count, .int v2_masts, .ref a2_place, .ref a2_price, .ref a2_trackAside, .ref a2_side, .ref a2_stands, .ref a2_mastPeg])), (a2_place, .inl (cI, 40, .inl f2_place)), (a2_trackAside, .inl (cJ, 40, .inr (.inl f2_trackAside))), (a4, .inr (4, [.ref a6, .ref a2, .ref a5, .int v4_begin, .int v4_end, .long v4_wireAtBegin, .long v4_wireAtEnd])), (a1, .inr (1, [.ref a2, .ref a4, .ref a1_cost, .ref a1_next, .int v1_first, .int v1_s]))] sz)) 0 0 (va_A [(a2, .inr (2, [.int v2_count, .int v2_masts, .ref a2_place, .ref a2_price, .ref a2_trackAside, .ref a2_side, .ref a2_stands, .ref a2_mastPeg])), (a2_place, .inl (cI, 40, .inl f2_place)), (a2_trackAside, .inl (cJ, 40, .inr (.inl f2_trackAside))), (a4, .inr (4, [.ref a6, .ref a2, .ref a5, .int v4_begin, .int v4_end, .long v4_wireAtBegin, .long v4_wireAtEnd])), (a1, .inr (1, [.ref a2, .ref a4, .ref a1_cost, .ref a1_next, .int v1_first, .int v1_s]))] sz) := by
  refine Met.ofW (cc := cX1_layBetween) (maxL := 3) (ret := none) (by decide) rfl ?_
  intro p e s m args below meth c s₁ B hml hv
  obtain ⟨rfl, hsz, hP, hK, hD0⟩ := hv
  have hx := B.exec
  have hb := B.bytes
  have hr := B.returns
  have hts := atoms_spec (ws := wsX1_layBetween) B.pre
  have hown : s.vm.findClass RX1 = some m.cls := findClass_of_methodNamed B.named
  have hlocks := B.notSynchronized
  subst hsz
  have hD := hD0.self (sz := s.heap.size)
  generalize hAe : va_A [(a2, .inr (2, [.int v2_count, .int v2_masts, .ref a2_place, .ref a2_price, .ref a2_trackAside, .ref a2_side, .ref a2_stands, .ref a2_mastPeg])), (a2_place, .inl (cI, 40, .inl f2_place)), (a2_trackAside, .inl (cJ, 40, .inr (.inl f2_trackAside))), (a4, .inr (4, [.ref a6, .ref a2, .ref a5, .int v4_begin, .int v4_end, .long v4_wireAtBegin, .long v4_wireAtEnd])), (a1, .inr (1, [.ref a2, .ref a4, .ref a1_cost, .ref a1_next, .int v1_first, .int v1_s]))] s.heap.size = A at hD ⊢
  have hA : ∀ q : Nat, s.heap.size ≤ q → A q := fun q h => by rw [← hAe]; exact Or.inr h
  have hS : va_S A s.heap s.heap [] := va_S.rf
  have hP : va_P (dC, dI) vwCl [(a2, .inr (2, [.int v2_count, .int v2_masts, .ref a2_place, .ref a2_price, .ref a2_trackAside, .ref a2_side, .ref a2_stands, .ref a2_mastPeg])), (a2_place, .inl (cI, 40, .inl f2_place)), (a2_trackAside, .inl (cJ, 40, .inr (.inl f2_trackAside))), (a4, .inr (4, [.ref a6, .ref a2, .ref a5, .int v4_begin, .int v4_end, .long v4_wireAtBegin, .long v4_wireAtEnd])), (a1, .inr (1, [.ref a2, .ref a4, .ref a1_cost, .ref a1_next, .int v1_first, .int v1_s]))] s.heap := hP
  have lk1 := hts (.fieldLink RX1 24 "WireRow$Chooser" "span" "LWireRow$Span;") (by decide +kernel)
  have hl := lv_entry ([.ref a1, .int p1, .int p2]) (n := 3) (Nat.le_of_ble_eq_true rfl)
  rw [lg_entry_eq]
  generalize (lg_sl ([.ref a1, .int p1, .int p2]) ++ List.replicate (3 - (lg_sl ([.ref a1, .int p1, .int p2])).length) Slot.unset).toArray = ls at hl ⊢
  have hl : lv_has ls 3 [(0, .ref a1), (1, .int p1), (2, .int p2)] := hl
  obtain ⟨H, hHe⟩ : ∃ H, H = s.heap := ⟨_, rfl⟩
  rw [← hHe] at hP
  have hS : va_S A s.heap H [] := by rw [hHe]; exact hS
  rw [← hHe]
  unfold wp_X1_layBetween at hw
  refine lv_aload_n hx hb dX1_layBetween_0 rfl (lv_at hl 0 rfl) ?_
  refine va_get (D := (dC, dI)) (ci := 1) (v := .ref a4) (C := RX1) (T := TX1) (N := 6) hx hb hts inX1_layBetween_X1 hown hK hP 4 rfl rfl 1 (by decide) lk1 (fun _ h9 => h9) rfl dX1_layBetween_1 ?_
  refine lv_iload_n hx hb dX1_layBetween_4 rfl (lv_at hl 1 rfl) ?_
  refine lv_iconst (v := (3 : Int32)) hx hb dX1_layBetween_5 (by decide) ?_
  refine lv_idiv hx hb dX1_layBetween_6 (by decide) ?_
  refine lv_aload_n hx hb dX1_layBetween_7 rfl (lv_at hl 0 rfl) ?_
  refine lv_iload_n hx hb dX1_layBetween_8 rfl (lv_at hl 1 rfl) ?_
  have hPc := hP.sub (ws' := [(a1, .inr (1, [.ref a2, .ref a4, .ref a1_cost, .ref a1_next, .int v1_first, .int v1_s]))]) [4] rfl
  have hDc := hD.sub (ws' := [(a1, .inr (1, [.ref a2, .ref a4, .ref a1_cost, .ref a1_next, .int v1_first, .int v1_s]))]) [4] (by decide) rfl
  have hFc := va_free (wc := [(a1, .inr (1, [.ref a2, .ref a4, .ref a1_cost, .ref a1_next, .int v1_first, .int v1_s]))]) hD hS hA [4] rfl
  refine va_calli (va_runV (As := [.int p1]) (rest := [.int (p1 / (3 : Int32)), .ref a4]) ⟨hx, hb, hml, hown, hts⟩ (c_X1_sideOf l dC dI cI cJ cZ a2 a4 a1 a1_cost a1_next H.size v1_first v1_s p1 _ hw) (cwV 1 hts gX1_layBetween_X1_sideOf rfl rfl rfl (by decide +kernel) ⟨Nat.le_of_ble_eq_true rfl, Nat.le_of_ble_eq_true rfl⟩) ⟨fun a U g mk q => by obtain ⟨q0, q1, qP, qK, qD⟩ := q; exact ⟨q0, q1, qP, va_K.moved (u := U) (U := U.calling g mk a) (Vm.Alike.refl U.vm) qK, qD⟩, va_recv hK hP (ci := 1) (q0 := 4) rfl rfl, fun U hU hW => ⟨rfl, by rw [hU], by rw [hU]; exact hPc, va_K.moved hW.alike hK, hDc.weaken (fun _ _ _ _ => trivial)⟩⟩ rfl rfl hl.1 rfl (lv_room (Nat.le_of_ble_eq_true rfl)) dX1_layBetween_9 ⟨(Nat.zero_le _), (Nat.zero_le _)⟩) hS (fun q _ h => hFc q h) hFc (fun r2 u t H1 locs ht hvm hw hB hz1 hk1 hS => ?_)
  obtain ⟨hP1, -, hD1⟩ := hB
  try dsimp only at hw
  rw [ht] at hP1
  obtain ⟨hP, hD⟩ := va_join (wr := [(a2, .inr (2, [.int v2_count, .int v2_masts, .ref a2_place, .ref a2_price, .ref a2_trackAside, .ref a2_side, .ref a2_stands, .ref a2_mastPeg])), (a2_place, .inl (cI, 40, .inl f2_place)), (a2_trackAside, .inl (cJ, 40, .inr (.inl f2_trackAside))), (a4, .inr (4, [.ref a6, .ref a2, .ref a5, .int v4_begin, .int v4_end, .long v4_wireAtBegin, .long v4_wireAtEnd]))]) (w1 := [(a1, .inr (1, [.ref a2, .ref a4, .ref a1_cost, .ref a1_next, .int v1_first, .int v1_s]))]) hP hD [4] [0, 1, 2, 3] rfl rfl (by decide) (by decide) hk1 hFc hP1 hD1
  generalize H1 = H at hP hS ⊢
  have hP : va_P (dC, dI) vwCl [(a2, .inr (2, [.int v2_count, .int v2_masts, .ref a2_place, .ref a2_price, .ref a2_trackAside, .ref a2_side, .ref a2_stands, .ref a2_mastPeg])), (a2_place, .inl (cI, 40, .inl f2_place)), (a2_trackAside, .inl (cJ, 40, .inr (.inl f2_trackAside))), (a4, .inr (4, [.ref a6, .ref a2, .ref a5, .int v4_begin, .int v4_end, .long v4_wireAtBegin, .long v4_wireAtEnd])), (a1, .inr (1, [.ref a2, .ref a4, .ref a1_cost, .ref a1_next, .int v1_first, .int v1_s]))] H := hP
  have hD : va_D A [(a2, .inr (2, [.int v2_count, .int v2_masts, .ref a2_place, .ref a2_price, .ref a2_trackAside, .ref a2_side, .ref a2_stands, .ref a2_mastPeg])), (a2_place, .inl (cI, 40, .inl f2_place)), (a2_trackAside, .inl (cJ, 40, .inr (.inl f2_trackAside))), (a4, .inr (4, [.ref a6, .ref a2, .ref a5, .int v4_begin, .int v4_end, .long v4_wireAtBegin, .long v4_wireAtEnd])), (a1, .inr (1, [.ref a2, .ref a4, .ref a1_cost, .ref a1_next, .int v1_first, .int v1_s]))] := hD
  refine lv_iload_n hx hb dX1_layBetween_12 rfl (lv_at hl 2 rfl) ?_
  refine lv_iconst (v := (3 : Int32)) hx hb dX1_layBetween_13 (by decide) ?_
  refine lv_idiv hx hb dX1_layBetween_14 (by decide) ?_
  refine lv_aload_n hx hb dX1_layBetween_15 rfl (lv_at hl 0 rfl) ?_
  refine lv_iload_n hx hb dX1_layBetween_16 rfl (lv_at hl 2 rfl) ?_
  have hPc := hP.sub (ws' := [(a1, .inr (1, [.ref a2, .ref a4, .ref a1_cost, .ref a1_next, .int v1_first, .int v1_s]))]) [4] rfl
  have hDc := hD.sub (ws' := [(a1, .inr (1, [.ref a2, .ref a4, .ref a1_cost, .ref a1_next, .int v1_first, .int v1_s]))]) [4] (by decide) rfl
  have hFc := va_free (wc := [(a1, .inr (1, [.ref a2, .ref a4, .ref a1_cost, .ref a1_next, .int v1_first, .int v1_s]))]) hD hS hA [4] rfl
  refine va_calli (va_runV (As := [.int p2]) (rest := [.int (p2 / (3 : Int32)), .int r2, .int (p1 / (3 : Int32)), .ref a4]) ⟨hx, hb, hml, hown, hts⟩ (c_X1_sideOf l dC dI cI cJ cZ a2 a4 a1 a1_cost a1_next H.size v1_first v1_s p2 _ hw) (cwV 1 hts gX1_layBetween_X1_sideOf rfl rfl rfl (by decide +kernel) ⟨Nat.le_of_ble_eq_true rfl, Nat.le_of_ble_eq_true rfl⟩) ⟨fun a U g mk q => by obtain ⟨q0, q1, qP, qK, qD⟩ := q; exact ⟨q0, q1, qP, va_K.moved (u := U) (U := U.calling g mk a) (Vm.Alike.refl U.vm) qK, qD⟩, va_recv hK hP (ci := 1) (q0 := 4) rfl rfl, fun U hU hW => ⟨rfl, by rw [hU], by rw [hU]; exact hPc, va_K.moved hW.alike hK, hDc.weaken (fun _ _ _ _ => trivial)⟩⟩ rfl rfl hl.1 rfl (lv_room (Nat.le_of_ble_eq_true rfl)) dX1_layBetween_17 ⟨(Nat.zero_le _), (Nat.zero_le _)⟩) hS (fun q _ h => hFc q h) hFc (fun r4 u t H1 locs ht hvm hw hB hz1 hk1 hS => ?_)
  obtain ⟨hP1, -, hD1⟩ := hB
  try dsimp only at hw
  rw [ht] at hP1
  obtain ⟨hP, hD⟩ := va_join (wr := [(a2, .inr (2, [.int v2_count, .int v2_masts, .ref a2_place, .ref a2_price, .ref a2_trackAside, .ref a2_side, .ref a2_stands, .ref a2_mastPeg])), (a2_place, .inl (cI, 40, .inl f2_place)), (a2_trackAside, .inl (cJ, 40, .inr (.inl f2_trackAside))), (a4, .inr (4, [.ref a6, .ref a2, .ref a5, .int v4_begin, .int v4_end, .long v4_wireAtBegin, .long v4_wireAtEnd]))]) (w1 := [(a1, .inr (1, [.ref a2, .ref a4, .ref a1_cost, .ref a1_next, .int v1_first, .int v1_s]))]) hP hD [4] [0, 1, 2, 3] rfl rfl (by decide) (by decide) hk1 hFc hP1 hD1
  generalize H1 = H at hP hS ⊢
  have hP : va_P (dC, dI) vwCl [(a2, .inr (2, [.int v2_count, .int v2_masts, .ref a2_place, .ref a2_price, .ref a2_trackAside, .ref a2_side, .ref a2_stands, .ref a2_mastPeg])), (a2_place, .inl (cI, 40, .inl f2_place)), (a2_trackAside, .inl (cJ, 40, .inr (.inl f2_trackAside))), (a4, .inr (4, [.ref a6, .ref a2, .ref a5, .int v4_begin, .int v4_end, .long v4_wireAtBegin, .long v4_wireAtEnd])), (a1, .inr (1, [.ref a2, .ref a4, .ref a1_cost, .ref a1_next, .int v1_first, .int v1_s]))] H := hP
  have hD : va_D A [(a2, .inr (2, [.int v2_count, .int v2_masts, .ref a2_place, .ref a2_price, .ref a2_trackAside, .ref a2_side, .ref a2_stands, .ref a2_mastPeg])), (a2_place, .inl (cI, 40, .inl f2_place)), (a2_trackAside, .inl (cJ, 40, .inr (.inl f2_trackAside))), (a4, .inr (4, [.ref a6, .ref a2, .ref a5, .int v4_begin, .int v4_end, .long v4_wireAtBegin, .long v4_wireAtEnd])), (a1, .inr (1, [.ref a2, .ref a4, .ref a1_cost, .ref a1_next, .int v1_first, .int v1_s]))] := hD
  have hPc := hP.sub (ws' := [(a2, .inr (2, [.int v2_count, .int v2_masts, .ref a2_place, .ref a2_price, .ref a2_trackAside, .ref a2_side, .ref a2_stands, .ref a2_mastPeg])), (a2_place, .inl (cI, 40, .inl f2_place)), (a2_trackAside, .inl (cJ, 40, .inr (.inl f2_trackAside))), (a4, .inr (4, [.ref a6, .ref a2, .ref a5, .int v4_begin, .int v4_end, .long v4_wireAtBegin, .long v4_wireAtEnd]))]) [0, 1, 2, 3] rfl
  have hDc := hD.sub (ws' := [(a2, .inr (2, [.int v2_count, .int v2_masts, .ref a2_place, .ref a2_price, .ref a2_trackAside, .ref a2_side, .ref a2_stands, .ref a2_mastPeg])), (a2_place, .inl (cI, 40, .inl f2_place)), (a2_trackAside, .inl (cJ, 40, .inr (.inl f2_trackAside))), (a4, .inr (4, [.ref a6, .ref a2, .ref a5, .int v4_begin, .int v4_end, .long v4_wireAtBegin, .long v4_wireAtEnd]))]) [0, 1, 2, 3] (by decide) rfl
  have hFc := va_free (wc := [(a2, .inr (2, [.int v2_count, .int v2_masts, .ref a2_place, .ref a2_price, .ref a2_trackAside, .ref a2_side, .ref a2_stands, .ref a2_mastPeg])), (a2_place, .inl (cI, 40, .inl f2_place)), (a2_trackAside, .inl (cJ, 40, .inr (.inl f2_trackAside))), (a4, .inr (4, [.ref a6, .ref a2, .ref a5, .int v4_begin, .int v4_end, .long v4_wireAtBegin, .long v4_wireAtEnd]))]) hD hS hA [0, 1, 2, 3] rfl
  refine va_callv (va_runV (As := [.int (p1 / (3 : Int32)), .int r2, .int (p2 / (3 : Int32)), .int r4]) (rest := []) ⟨hx, hb, hml, hown, hts⟩ (c_X4_lay l dC dI cI cJ cZ a6 a2 a2_place a2_price a2_trackAside a2_side a2_stands a2_mastPeg a5 a4 H.size v2_count v2_masts f2_place f2_trackAside v4_begin v4_end v4_wireAtBegin v4_wireAtEnd (p1 / (3 : Int32)) r2 (p2 / (3 : Int32)) r4 _ hw) (cwV 4 hts gX1_layBetween_X4_lay rfl rfl rfl (by decide +kernel) ⟨Nat.le_of_ble_eq_true rfl, Nat.le_of_ble_eq_true rfl⟩) ⟨fun a U g mk q => by obtain ⟨q0, q1, qP, qK, qD⟩ := q; exact ⟨q0, q1, qP, va_K.moved (u := U) (U := U.calling g mk a) (Vm.Alike.refl U.vm) qK, qD⟩, va_recv hK hP (ci := 4) (q0 := 3) rfl rfl, fun U hU hW => ⟨rfl, by rw [hU], by rw [hU]; exact hPc, va_K.moved hW.alike hK, hDc.weaken (fun _ _ _ _ => trivial)⟩⟩ rfl rfl hl.1 rfl (lv_room (Nat.le_of_ble_eq_true rfl)) dX1_layBetween_20 ⟨(Nat.zero_le _), (Nat.zero_le _)⟩) hS (fun q _ h => hFc q h) hFc (fun u t H1 locs ht hvm hw hB hz1 hk1 hS => ?_)
  obtain ⟨m6, m7, m8, m9⟩ := u
  obtain ⟨hP1, -, hD1⟩ := hB
  try dsimp only at hw
  rw [ht] at hP1
  obtain ⟨hP, hD⟩ := va_join (wr := [(a1, .inr (1, [.ref a2, .ref a4, .ref a1_cost, .ref a1_next, .int v1_first, .int v1_s]))]) (w1 := [(a2, .inr (2, [.int v2_count, .int v2_masts, .ref a2_place, .ref a2_price, .ref a2_trackAside, .ref a2_side, .ref a2_stands, .ref a2_mastPeg])), (a2_place, .inl (cI, 40, .inl f2_place)), (a2_trackAside, .inl (cJ, 40, .inr (.inl f2_trackAside))), (a4, .inr (4, [.ref a6, .ref a2, .ref a5, .int m6, .int m7, .long m8, .long m9]))]) hP hD [0, 1, 2, 3] [4] rfl rfl (by decide) (by decide) hk1 hFc hP1 hD1
  generalize H1 = H at hP hS ⊢
  have hP : va_P (dC, dI) vwCl [(a1, .inr (1, [.ref a2, .ref a4, .ref a1_cost, .ref a1_next, .int v1_first, .int v1_s])), (a2, .inr (2, [.int v2_count, .int v2_masts, .ref a2_place, .ref a2_price, .ref a2_trackAside, .ref a2_side, .ref a2_stands, .ref a2_mastPeg])), (a2_place, .inl (cI, 40, .inl f2_place)), (a2_trackAside, .inl (cJ, 40, .inr (.inl f2_trackAside))), (a4, .inr (4, [.ref a6, .ref a2, .ref a5, .int m6, .int m7, .long m8, .long m9]))] H := hP
  have hD : va_D A [(a1, .inr (1, [.ref a2, .ref a4, .ref a1_cost, .ref a1_next, .int v1_first, .int v1_s])), (a2, .inr (2, [.int v2_count, .int v2_masts, .ref a2_place, .ref a2_price, .ref a2_trackAside, .ref a2_side, .ref a2_stands, .ref a2_mastPeg])), (a2_place, .inl (cI, 40, .inl f2_place)), (a2_trackAside, .inl (cJ, 40, .inr (.inl f2_trackAside))), (a4, .inr (4, [.ref a6, .ref a2, .ref a5, .int m6, .int m7, .long m8, .long m9]))] := hD
  have hP9 := hP.sub (ws' := [(a2, .inr (2, [.int v2_count, .int v2_masts, .ref a2_place, .ref a2_price, .ref a2_trackAside, .ref a2_side, .ref a2_stands, .ref a2_mastPeg])), (a2_place, .inl (cI, 40, .inl f2_place)), (a2_trackAside, .inl (cJ, 40, .inr (.inl f2_trackAside))), (a4, .inr (4, [.ref a6, .ref a2, .ref a5, .int m6, .int m7, .long m8, .long m9])), (a1, .inr (1, [.ref a2, .ref a4, .ref a1_cost, .ref a1_next, .int v1_first, .int v1_s]))]) [1, 2, 3, 4, 0] rfl
  have hD9 := hD.sub (ws' := [(a2, .inr (2, [.int v2_count, .int v2_masts, .ref a2_place, .ref a2_price, .ref a2_trackAside, .ref a2_side, .ref a2_stands, .ref a2_mastPeg])), (a2_place, .inl (cI, 40, .inl f2_place)), (a2_trackAside, .inl (cJ, 40, .inr (.inl f2_trackAside))), (a4, .inr (4, [.ref a6, .ref a2, .ref a5, .int m6, .int m7, .long m8, .long m9])), (a1, .inr (1, [.ref a2, .ref a4, .ref a1_cost, .ref a1_next, .int v1_first, .int v1_s]))]) [1, 2, 3, 4, 0] (by decide) rfl
  exact W.vret hx hb hr (fun t ht hW => ⟨⟨(m6, m7, m8, m9), rfl, hw, by rw [ht]; exact hP9, va_K.moved hW.alike hK, hD9⟩, hS.F ht⟩) hS.2.2 dX1_layBetween_23

theorem inX6_asideOf_X6 : ∀ w ∈ wsX60, w ∈ wsX6_asideOf := fun _ h => List.mem_cons_of_mem _ (List.mem_append_right _ h)
def wb_X6_asideOf_62 (Q : Int64 → Prop) (v6_bends : Int32) (f6_from : Nat → Int32) (f6_to : Nat → Int32) (f6_curve : Nat → Int32) (K5 : (Int32) → (Int64) → (Int32) → Prop) (y62_1 : Int32) (y62_2 : Int64) (y62_4 : Int32) (y62_5 : Int64) (k62_0 : Int64) : Prop :=
  (vp_in y62_4 8 ∧ (∀ x9 : Int64, x9 = (y62_2 + ((f6_curve y62_4.toNatClampNeg).toInt64 * ((y62_5 * y62_5) - (k62_0 * k62_0)))) → (∀ x10 : Int32, x10 = y62_4 + (1 : Int32) → (K5 y62_1 x9 x10))))
def wb_X6_asideOf_5 (Q : Int64 → Prop) (v6_bends : Int32) (f6_from : Nat → Int32) (f6_to : Nat → Int32) (f6_curve : Nat → Int32) (K5 : (Int32) → (Int64) → (Int32) → Prop) (y5_1 : Int32) (y5_2 : Int64) (y5_4 : Int32) : Prop :=
  ((v6_bends ≤ y5_4 → (Q y5_2 )) ∧ (¬ v6_bends ≤ y5_4 → (vp_in y5_4 8 ∧ ((y5_1 ≤ (f6_from y5_4.toNatClampNeg) → (Q y5_2 )) ∧ (¬ y5_1 ≤ (f6_from y5_4.toNatClampNeg) → (vp_in y5_4 8 ∧ (∀ x5 : Int64, x5 = (y5_1 - (f6_from y5_4.toNatClampNeg)).toInt64 → (vp_in y5_4 8 ∧ ((y5_1 ≤ (f6_to y5_4.toNatClampNeg) → (wb_X6_asideOf_62 Q v6_bends f6_from f6_to f6_curve K5 y5_1 y5_2 y5_4 x5 (0 : Int64))) ∧ (¬ y5_1 ≤ (f6_to y5_4.toNatClampNeg) → (vp_in y5_4 8 ∧ (wb_X6_asideOf_62 Q v6_bends f6_from f6_to f6_curve K5 y5_1 y5_2 y5_4 x5 (y5_1 - (f6_to y5_4.toNatClampNeg)).toInt64))))))))))))
def wl_X6_asideOf_5 (Q : Int64 → Prop) (v6_bends : Int32) (f6_from : Nat → Int32) (f6_to : Nat → Int32) (f6_curve : Nat → Int32) : Nat → (Int32) → (Int64) → (Int32) → Prop
  | 0, _, _, _ => False
  | n + 1, y5_1, y5_2, y5_4 => wb_X6_asideOf_5 Q v6_bends f6_from f6_to f6_curve  (wl_X6_asideOf_5 Q v6_bends f6_from f6_to f6_curve  n) y5_1 y5_2 y5_4
def wp_X6_asideOf (Q : Int64 → Prop) (v6_bends : Int32) (f6_from : Nat → Int32) (f6_to : Nat → Int32) (f6_curve : Nat → Int32) (p1 : Int32) : Prop :=
  (∃ n : Nat, wl_X6_asideOf_5 Q v6_bends f6_from f6_to f6_curve  n p1 (0 : Int64) (0 : Int32))
set_option maxHeartbeats 4000000 in
set_option maxRecDepth 100000 in
theorem c_X6_asideOf (l : Launch) (dC : Nat → ClassId) (dI : Nat → Nat → Nat) (cI cJ cZ : ClassId) (a6 : Nat) (a6_from : Nat) (a6_to : Nat) (a6_curve : Nat) (sz : Nat) (v6_end : Int32) (v6_bends : Int32) (f6_from : Nat → Int32) (f6_to : Nat → Int32) (f6_curve : Nat → Int32) (p1 : Int32) (Q : Int64 → Prop) (hw : wp_X6_asideOf Q v6_bends f6_from f6_to f6_curve p1) : Met l yX6_asideOf wsX6_asideOf ({ frames := 0, cells := 0, slots := 0, locals := 0 } : Room) (va_Pc [.ref a6, .int p1] (fun U => U.heap.size = sz ∧ va_P (dC, dI) vwCl [(a6, .inr (6, [.int v6_end, .int v6_bends, .ref a6_from, .ref a6_to, .ref a6_curve])), (a6_from, .inl (cI, 8, .inl f6_from)), (a6_to, .inl (cI, 8, .inl f6_to)), (a6_curve, .inl (cI, 8, .inl f6_curve))] U.heap ∧ va_K (dC, dI) vwCl [(cI, .int), (cJ, .long), (cZ, .boolean)] U ∧ va_D (fun _ => True) [(a6, .inr (6, [.int v6_end, .int v6_bends, .ref a6_from, .ref a6_to, .ref a6_curve])), (a6_from, .inl (cI, 8, .inl f6_from)), (a6_to, .inl (cI, 8, .inl f6_to)), (a6_curve, .inl (cI, 8, .inl f6_curve))])) (va_Ql (fun r (u : Unit) => Q r) (fun (u : Unit) t => va_P (dC, dI) vwCl [(a6, .inr (6, [.int v6_end, .int v6_bends, .ref a6_from, .ref a6_to, .ref a6_curve])), (a6_from, .inl (cI, 8, .inl f6_from)), (a6_to, .inl (cI, 8, .inl f6_to)), (a6_curve, .inl (cI, 8, .inl f6_curve))] t.heap ∧ va_K (dC, dI) vwCl [(cI, .int), (cJ, .long), (cZ, .boolean)] t ∧ va_D (va_A [(a6, .inr (6, [.int v6_end, .int v6_bends, .ref a6_from, .ref a6_to, .ref a6_curve])), (a6_from, .inl (cI, 8, .inl f6_from)), (a6_to, .inl (cI, 8, .inl f6_to)), (a6_curve, .inl (cI, 8, .inl f6_curve))] sz) [(a6, .inr (6, [.int v6_end, .int v6_bends, .ref a6_from, .ref a6_to, .ref a6_curve])), (a6_from, .inl (cI, 8, .inl f6_from)), (a6_to, .inl (cI, 8, .inl f6_to)), (a6_curve, .inl (cI, 8, .inl f6_curve))]) (va_A [(a6, .inr (6, [.int v6_end, .int v6_bends, .ref a6_from, .ref a6_to, .ref a6_curve])), (a6_from, .inl (cI, 8, .inl f6_from)), (a6_to, .inl (cI, 8, .inl f6_to)), (a6_curve, .inl (cI, 8, .inl f6_curve))] sz)) 0 0 (va_A [(a6, .inr (6, [.int v6_end, .int v6_bends, .ref a6_from, .ref a6_to, .ref a6_curve])), (a6_from, .inl (cI, 8, .inl f6_from)), (a6_to, .inl (cI, 8, .inl f6_to)), (a6_curve, .inl (cI, 8, .inl f6_curve))] sz) := by
  refine Met.ofW (cc := cX6_asideOf) (maxL := 9) (ret := (some .long)) (by decide) rfl ?_
  intro p e s m args below meth c s₁ B hml hv
  obtain ⟨rfl, hsz, hP, hK, hD0⟩ := hv
  have hx := B.exec
  have hb := B.bytes
  have hr := B.returns
  have hts := atoms_spec (ws := wsX6_asideOf) B.pre
  have hown : s.vm.findClass RX6 = some m.cls := findClass_of_methodNamed B.named
  have hlocks := B.notSynchronized
  subst hsz
  have hD := hD0.self (sz := s.heap.size)
  generalize hAe : va_A [(a6, .inr (6, [.int v6_end, .int v6_bends, .ref a6_from, .ref a6_to, .ref a6_curve])), (a6_from, .inl (cI, 8, .inl f6_from)), (a6_to, .inl (cI, 8, .inl f6_to)), (a6_curve, .inl (cI, 8, .inl f6_curve))] s.heap.size = A at hD ⊢
  have hA : ∀ q : Nat, s.heap.size ≤ q → A q := fun q h => by rw [← hAe]; exact Or.inr h
  have hS : va_S A s.heap s.heap [] := va_S.rf
  have hP : va_P (dC, dI) vwCl [(a6, .inr (6, [.int v6_end, .int v6_bends, .ref a6_from, .ref a6_to, .ref a6_curve])), (a6_from, .inl (cI, 8, .inl f6_from)), (a6_to, .inl (cI, 8, .inl f6_to)), (a6_curve, .inl (cI, 8, .inl f6_curve))] s.heap := hP
  have lk1 := hts (.fieldLink RX6 25 "WireRow$Track" "bends" "I") (by decide +kernel)
  have lk2 := hts (.fieldLink RX6 15 "WireRow$Track" "from" "[I") (by decide +kernel)
  have lk3 := hts (.fieldLink RX6 19 "WireRow$Track" "to" "[I") (by decide +kernel)
  have lk4 := hts (.fieldLink RX6 22 "WireRow$Track" "curve" "[I") (by decide +kernel)
  have k_5 : ∀ (n_5 : Nat) (y5_1 : Int32) (y5_2 : Int64) (y5_4 : Int32) (H : Heap) (locs : List Loc) (ls : Array Slot), va_P (dC, dI) vwCl [(a6, .inr (6, [.int v6_end, .int v6_bends, .ref a6_from, .ref a6_to, .ref a6_curve])), (a6_from, .inl (cI, 8, .inl f6_from)), (a6_to, .inl (cI, 8, .inl f6_to)), (a6_curve, .inl (cI, 8, .inl f6_curve))] H → va_D A [(a6, .inr (6, [.int v6_end, .int v6_bends, .ref a6_from, .ref a6_to, .ref a6_curve])), (a6_from, .inl (cI, 8, .inl f6_from)), (a6_to, .inl (cI, 8, .inl f6_to)), (a6_curve, .inl (cI, 8, .inl f6_curve))] → va_S A s.heap H locs → lv_has ls 9 [(0, .ref a6), (1, .int y5_1), (2, .long y5_2), (4, .int y5_4)] → (wl_X6_asideOf_5 Q v6_bends f6_from f6_to f6_curve  n_5 y5_1 y5_2 y5_4) → W p l e (headSpec wsX6_asideOf ({ frames := 0, cells := 0, slots := 0, locals := 0 } : Room)).room s m [.ref a6, .int p1].toArray below meth c H locs 0 0 (MQ below (va_Ql (fun r (u : Unit) => Q r) (fun (u : Unit) t => va_P (dC, dI) vwCl [(a6, .inr (6, [.int v6_end, .int v6_bends, .ref a6_from, .ref a6_to, .ref a6_curve])), (a6_from, .inl (cI, 8, .inl f6_from)), (a6_to, .inl (cI, 8, .inl f6_to)), (a6_curve, .inl (cI, 8, .inl f6_curve))] t.heap ∧ va_K (dC, dI) vwCl [(cI, .int), (cJ, .long), (cZ, .boolean)] t ∧ va_D A [(a6, .inr (6, [.int v6_end, .int v6_bends, .ref a6_from, .ref a6_to, .ref a6_curve])), (a6_from, .inl (cI, 8, .inl f6_from)), (a6_to, .inl (cI, 8, .inl f6_to)), (a6_curve, .inl (cI, 8, .inl f6_curve))]) A) [.ref a6, .int p1].toArray s 0 0 A) (F0 m 5 ls []) := by
    intro n_5
    induction n_5 with
    | zero =>
      intro y5_1 y5_2 y5_4 H locs ls hP hD hS hl hw
      exact False.elim hw
    | succ n_5 ih_5 =>
      have k_62 : ∀  (y62_1 : Int32) (y62_2 : Int64) (y62_4 : Int32) (y62_5 : Int64) (k62_0 : Int64) (H : Heap) (locs : List Loc) (ls : Array Slot), va_P (dC, dI) vwCl [(a6, .inr (6, [.int v6_end, .int v6_bends, .ref a6_from, .ref a6_to, .ref a6_curve])), (a6_from, .inl (cI, 8, .inl f6_from)), (a6_to, .inl (cI, 8, .inl f6_to)), (a6_curve, .inl (cI, 8, .inl f6_curve))] H → va_D A [(a6, .inr (6, [.int v6_end, .int v6_bends, .ref a6_from, .ref a6_to, .ref a6_curve])), (a6_from, .inl (cI, 8, .inl f6_from)), (a6_to, .inl (cI, 8, .inl f6_to)), (a6_curve, .inl (cI, 8, .inl f6_curve))] → va_S A s.heap H locs → lv_has ls 9 [(0, .ref a6), (1, .int y62_1), (2, .long y62_2), (4, .int y62_4), (5, .long y62_5)] → (wb_X6_asideOf_62 Q v6_bends f6_from f6_to f6_curve (wl_X6_asideOf_5 Q v6_bends f6_from f6_to f6_curve  n_5) y62_1 y62_2 y62_4 y62_5 k62_0) → W p l e (headSpec wsX6_asideOf ({ frames := 0, cells := 0, slots := 0, locals := 0 } : Room)).room s m [.ref a6, .int p1].toArray below meth c H locs 0 0 (MQ below (va_Ql (fun r (u : Unit) => Q r) (fun (u : Unit) t => va_P (dC, dI) vwCl [(a6, .inr (6, [.int v6_end, .int v6_bends, .ref a6_from, .ref a6_to, .ref a6_curve])), (a6_from, .inl (cI, 8, .inl f6_from)), (a6_to, .inl (cI, 8, .inl f6_to)), (a6_curve, .inl (cI, 8, .inl f6_curve))] t.heap ∧ va_K (dC, dI) vwCl [(cI, .int), (cJ, .long), (cZ, .boolean)] t ∧ va_D A [(a6, .inr (6, [.int v6_end, .int v6_bends, .ref a6_from, .ref a6_to, .ref a6_curve])), (a6_from, .inl (cI, 8, .inl f6_from)), (a6_to, .inl (cI, 8, .inl f6_to)), (a6_curve, .inl (cI, 8, .inl f6_curve))]) A) [.ref a6, .int p1].toArray s 0 0 A) (F0 m 62 ls [.long k62_0]) := by
        intro y62_1 y62_2 y62_4 y62_5 k62_0 H locs ls hP hD hS hl hw
        unfold wb_X6_asideOf_62 at hw
        refine lv_lstore (lv' := [(7, .long k62_0), (0, .ref a6), (1, .int y62_1), (2, .long y62_2), (4, .int y62_4), (5, .long y62_5)]) hx hb dX6_asideOf_62 hl (by decide) rfl (fun ls hl => ?_)
        refine lv_lload_n hx hb dX6_asideOf_64 rfl (lv_at hl 3 rfl) ?_
        refine lv_aload_n hx hb dX6_asideOf_65 rfl (lv_at hl 1 rfl) ?_
        refine va_get (D := (dC, dI)) (ci := 6) (v := .ref a6_curve) (C := RX6) (T := TX6) (N := 5) hx hb hts inX6_asideOf_X6 hown hK hP 0 rfl rfl 4 (by decide) lk4 (fun _ h9 => h9) rfl dX6_asideOf_66 ?_
        refine lv_iload hx hb dX6_asideOf_69 (lv_at hl 4 rfl) ?_
        obtain ⟨h8, hw⟩ := hw
        refine va_iald hx hb hK hP 3 0 rfl rfl h8 dX6_asideOf_71 ?_
        refine lv_i2l (v := (f6_curve y62_4.toNatClampNeg).toInt64) hx hb dX6_asideOf_72 rfl ?_
        refine lv_lload hx hb dX6_asideOf_73 (lv_at hl 5 rfl) ?_
        refine lv_lload hx hb dX6_asideOf_75 (lv_at hl 5 rfl) ?_
        refine lv_lmul hx hb dX6_asideOf_77 ?_
        refine lv_lload hx hb dX6_asideOf_78 (lv_at hl 0 rfl) ?_
        refine lv_lload hx hb dX6_asideOf_80 (lv_at hl 0 rfl) ?_
        refine lv_lmul hx hb dX6_asideOf_82 ?_
        refine lv_lsub hx hb dX6_asideOf_83 ?_
        refine lv_lmul hx hb dX6_asideOf_84 ?_
        refine lv_ladd hx hb dX6_asideOf_85 ?_
        refine lv_topl (fun x9 ex9 => ?_)
        replace hw := hw x9 ex9
        refine lv_lstore_n (lv' := [(2, .long x9), (7, .long k62_0), (0, .ref a6), (1, .int y62_1), (4, .int y62_4), (5, .long y62_5)]) hx hb dX6_asideOf_86 rfl hl (by decide) rfl (fun ls hl => ?_)
        obtain ⟨x10, ex10⟩ : ∃ y : Int32, y = y62_4 + (1 : Int32) := ⟨_, rfl⟩
        replace hw := hw x10 ex10
        refine lv_iinc (v := x10) (lv' := [(4, .int x10), (2, .long x9), (7, .long k62_0), (0, .ref a6), (1, .int y62_1), (5, .long y62_5)]) hx hb dX6_asideOf_87 hl (k := 4) rfl (by rw [ex10]; rfl) (by decide) rfl (fun ls hl => ?_)
        refine lv_goto (tgt := 5) hx hb dX6_asideOf_90 (by decide) ?_
        exact ih_5 y62_1 x9 x10 _ _ _ (hP.sub [0, 1, 2, 3] rfl) (hD.sub [0, 1, 2, 3] (by decide) rfl) hS (lv_sub hl [3, 4, 1, 0] rfl) hw
      intro y5_1 y5_2 y5_4 H locs ls hP hD hS hl hw
      replace hw : wb_X6_asideOf_5 Q v6_bends f6_from f6_to f6_curve  (wl_X6_asideOf_5 Q v6_bends f6_from f6_to f6_curve  n_5) y5_1 y5_2 y5_4 := hw
      unfold wb_X6_asideOf_5 at hw
      refine lv_iload hx hb dX6_asideOf_5 (lv_at hl 3 rfl) ?_
      refine lv_aload_n hx hb dX6_asideOf_7 rfl (lv_at hl 0 rfl) ?_
      refine va_get (D := (dC, dI)) (ci := 6) (v := .int v6_bends) (C := RX6) (T := TX6) (N := 5) hx hb hts inX6_asideOf_X6 hown hK hP 0 rfl rfl 1 (by decide) lk1 (fun _ h9 => h9) rfl dX6_asideOf_8 ?_
      refine lv_icmp_ge (tgt := 93) hx hb dX6_asideOf_11 (by decide) (fun c1 => ?_) (fun c1 => ?_)
      · replace hw := hw.1 (c1)
        refine lv_lload_n hx hb dX6_asideOf_93 rfl (lv_at hl 2 rfl) ?_
        have hP9 := hP.sub (ws' := [(a6, .inr (6, [.int v6_end, .int v6_bends, .ref a6_from, .ref a6_to, .ref a6_curve])), (a6_from, .inl (cI, 8, .inl f6_from)), (a6_to, .inl (cI, 8, .inl f6_to)), (a6_curve, .inl (cI, 8, .inl f6_curve))]) [0, 1, 2, 3] rfl
        have hD9 := hD.sub (ws' := [(a6, .inr (6, [.int v6_end, .int v6_bends, .ref a6_from, .ref a6_to, .ref a6_curve])), (a6_from, .inl (cI, 8, .inl f6_from)), (a6_to, .inl (cI, 8, .inl f6_to)), (a6_curve, .inl (cI, 8, .inl f6_curve))]) [0, 1, 2, 3] (by decide) rfl
        exact W.lret (v := y5_2) hx hb hr (fun t ht hW => ⟨⟨y5_2, (), rfl, hw, by rw [ht]; exact hP9, va_K.moved hW.alike hK, hD9⟩, hS.F ht⟩) hS.2.2 dX6_asideOf_94
      · replace hw := hw.2 (c1)
        refine lv_aload_n hx hb dX6_asideOf_14 rfl (lv_at hl 0 rfl) ?_
        refine va_get (D := (dC, dI)) (ci := 6) (v := .ref a6_from) (C := RX6) (T := TX6) (N := 5) hx hb hts inX6_asideOf_X6 hown hK hP 0 rfl rfl 2 (by decide) lk2 (fun _ h9 => h9) rfl dX6_asideOf_15 ?_
        refine lv_iload hx hb dX6_asideOf_18 (lv_at hl 3 rfl) ?_
        obtain ⟨h2, hw⟩ := hw
        refine va_iald hx hb hK hP 1 0 rfl rfl h2 dX6_asideOf_20 ?_
        refine lv_iload_n hx hb dX6_asideOf_21 rfl (lv_at hl 1 rfl) ?_
        refine lv_icmp_ge (tgt := 93) hx hb dX6_asideOf_22 (by decide) (fun c3 => ?_) (fun c3 => ?_)
        · replace hw := hw.1 (c3)
          refine lv_lload_n hx hb dX6_asideOf_93 rfl (lv_at hl 2 rfl) ?_
          have hP9 := hP.sub (ws' := [(a6, .inr (6, [.int v6_end, .int v6_bends, .ref a6_from, .ref a6_to, .ref a6_curve])), (a6_from, .inl (cI, 8, .inl f6_from)), (a6_to, .inl (cI, 8, .inl f6_to)), (a6_curve, .inl (cI, 8, .inl f6_curve))]) [0, 1, 2, 3] rfl
          have hD9 := hD.sub (ws' := [(a6, .inr (6, [.int v6_end, .int v6_bends, .ref a6_from, .ref a6_to, .ref a6_curve])), (a6_from, .inl (cI, 8, .inl f6_from)), (a6_to, .inl (cI, 8, .inl f6_to)), (a6_curve, .inl (cI, 8, .inl f6_curve))]) [0, 1, 2, 3] (by decide) rfl
          exact W.lret (v := y5_2) hx hb hr (fun t ht hW => ⟨⟨y5_2, (), rfl, hw, by rw [ht]; exact hP9, va_K.moved hW.alike hK, hD9⟩, hS.F ht⟩) hS.2.2 dX6_asideOf_94
        · replace hw := hw.2 (c3)
          refine lv_iload_n hx hb dX6_asideOf_25 rfl (lv_at hl 1 rfl) ?_
          refine lv_aload_n hx hb dX6_asideOf_26 rfl (lv_at hl 0 rfl) ?_
          refine va_get (D := (dC, dI)) (ci := 6) (v := .ref a6_from) (C := RX6) (T := TX6) (N := 5) hx hb hts inX6_asideOf_X6 hown hK hP 0 rfl rfl 2 (by decide) lk2 (fun _ h9 => h9) rfl dX6_asideOf_27 ?_
          refine lv_iload hx hb dX6_asideOf_30 (lv_at hl 3 rfl) ?_
          obtain ⟨h4, hw⟩ := hw
          refine va_iald hx hb hK hP 1 0 rfl rfl h4 dX6_asideOf_32 ?_
          refine lv_isub hx hb dX6_asideOf_33 ?_
          refine lv_i2l (v := (y5_1 - (f6_from y5_4.toNatClampNeg)).toInt64) hx hb dX6_asideOf_34 rfl ?_
          refine lv_topl (fun x5 ex5 => ?_)
          replace hw := hw x5 ex5
          refine lv_lstore (lv' := [(5, .long x5), (0, .ref a6), (1, .int y5_1), (2, .long y5_2), (4, .int y5_4)]) hx hb dX6_asideOf_35 hl (by decide) rfl (fun ls hl => ?_)
          refine lv_iload_n hx hb dX6_asideOf_37 rfl (lv_at hl 2 rfl) ?_
          refine lv_aload_n hx hb dX6_asideOf_38 rfl (lv_at hl 1 rfl) ?_
          refine va_get (D := (dC, dI)) (ci := 6) (v := .ref a6_to) (C := RX6) (T := TX6) (N := 5) hx hb hts inX6_asideOf_X6 hown hK hP 0 rfl rfl 3 (by decide) lk3 (fun _ h9 => h9) rfl dX6_asideOf_39 ?_
          refine lv_iload hx hb dX6_asideOf_42 (lv_at hl 4 rfl) ?_
          obtain ⟨h6, hw⟩ := hw
          refine va_iald hx hb hK hP 2 0 rfl rfl h6 dX6_asideOf_44 ?_
          refine lv_icmp_le (tgt := 61) hx hb dX6_asideOf_45 (by decide) (fun c7 => ?_) (fun c7 => ?_)
          · replace hw := hw.1 (c7)
            refine lv_lconst (v := (0 : Int64)) hx hb dX6_asideOf_61 (by decide) ?_
            exact k_62 y5_1 y5_2 y5_4 x5 (0 : Int64) _ _ _ (hP.sub [0, 1, 2, 3] rfl) (hD.sub [0, 1, 2, 3] (by decide) rfl) hS (lv_sub hl [1, 2, 3, 4, 0] rfl) hw
          · replace hw := hw.2 (c7)
            refine lv_iload_n hx hb dX6_asideOf_48 rfl (lv_at hl 2 rfl) ?_
            refine lv_aload_n hx hb dX6_asideOf_49 rfl (lv_at hl 1 rfl) ?_
            refine va_get (D := (dC, dI)) (ci := 6) (v := .ref a6_to) (C := RX6) (T := TX6) (N := 5) hx hb hts inX6_asideOf_X6 hown hK hP 0 rfl rfl 3 (by decide) lk3 (fun _ h9 => h9) rfl dX6_asideOf_50 ?_
            refine lv_iload hx hb dX6_asideOf_53 (lv_at hl 4 rfl) ?_
            obtain ⟨h11, hw⟩ := hw
            refine va_iald hx hb hK hP 2 0 rfl rfl h11 dX6_asideOf_55 ?_
            refine lv_isub hx hb dX6_asideOf_56 ?_
            refine lv_i2l (v := (y5_1 - (f6_to y5_4.toNatClampNeg)).toInt64) hx hb dX6_asideOf_57 rfl ?_
            refine lv_goto (tgt := 62) hx hb dX6_asideOf_58 (by decide) ?_
            exact k_62 y5_1 y5_2 y5_4 x5 (y5_1 - (f6_to y5_4.toNatClampNeg)).toInt64 _ _ _ (hP.sub [0, 1, 2, 3] rfl) (hD.sub [0, 1, 2, 3] (by decide) rfl) hS (lv_sub hl [1, 2, 3, 4, 0] rfl) hw
  have hl := lv_entry ([.ref a6, .int p1]) (n := 9) (Nat.le_of_ble_eq_true rfl)
  rw [lg_entry_eq]
  generalize (lg_sl ([.ref a6, .int p1]) ++ List.replicate (9 - (lg_sl ([.ref a6, .int p1])).length) Slot.unset).toArray = ls at hl ⊢
  have hl : lv_has ls 9 [(0, .ref a6), (1, .int p1)] := hl
  obtain ⟨H, hHe⟩ : ∃ H, H = s.heap := ⟨_, rfl⟩
  rw [← hHe] at hP
  have hS : va_S A s.heap H [] := by rw [hHe]; exact hS
  rw [← hHe]
  unfold wp_X6_asideOf at hw
  refine lv_lconst (v := (0 : Int64)) hx hb dX6_asideOf_0 (by decide) ?_
  refine lv_lstore_n (lv' := [(2, .long (0 : Int64)), (0, .ref a6), (1, .int p1)]) hx hb dX6_asideOf_1 rfl hl (by decide) rfl (fun ls hl => ?_)
  refine lv_iconst (v := (0 : Int32)) hx hb dX6_asideOf_2 (by decide) ?_
  refine lv_istore (lv' := [(4, .int (0 : Int32)), (2, .long (0 : Int64)), (0, .ref a6), (1, .int p1)]) hx hb dX6_asideOf_3 hl (by decide) rfl (fun ls hl => ?_)
  obtain ⟨n_5, hw⟩ := hw
  exact k_5 n_5 p1 (0 : Int64) (0 : Int32) _ _ _ (hP.sub [0, 1, 2, 3] rfl) (hD.sub [0, 1, 2, 3] (by decide) rfl) hS (lv_sub hl [2, 3, 1, 0] rfl) hw

theorem inX4_offUpper_X4 : ∀ w ∈ wsX40, w ∈ wsX4_offUpper := fun _ h => List.mem_cons_of_mem _ (List.mem_append_left _ (List.mem_append_right _ h))
theorem inX4_offUpper_X6 : ∀ w ∈ wsX60, w ∈ wsX4_offUpper := fun _ h => List.mem_cons_of_mem _ (List.mem_append_right _ h)
def wp_X4_offUpper (Q : Int64 → Prop) (v6_bends : Int32) (f6_from : Nat → Int32) (f6_to : Nat → Int32) (f6_curve : Nat → Int32) (v4_begin : Int32) (v4_end : Int32) (v4_wireAtBegin : Int64) (v4_wireAtEnd : Int64) (p1 : Int32) : Prop :=
  (wp_X6_asideOf (fun r1 => (Q (((v4_wireAtBegin * (v4_end - p1).toInt64) + (v4_wireAtEnd * (p1 - v4_begin).toInt64)) - (r1 * (v4_end - v4_begin).toInt64)) )) v6_bends f6_from f6_to f6_curve p1)
set_option maxHeartbeats 4000000 in
set_option maxRecDepth 100000 in
theorem c_X4_offUpper (l : Launch) (dC : Nat → ClassId) (dI : Nat → Nat → Nat) (cI cJ cZ : ClassId) (a6 : Nat) (a6_from : Nat) (a6_to : Nat) (a6_curve : Nat) (a2 : Nat) (a5 : Nat) (a4 : Nat) (sz : Nat) (v6_end : Int32) (v6_bends : Int32) (f6_from : Nat → Int32) (f6_to : Nat → Int32) (f6_curve : Nat → Int32) (v4_begin : Int32) (v4_end : Int32) (v4_wireAtBegin : Int64) (v4_wireAtEnd : Int64) (p1 : Int32) (Q : Int64 → Prop) (hw : wp_X4_offUpper Q v6_bends f6_from f6_to f6_curve v4_begin v4_end v4_wireAtBegin v4_wireAtEnd p1) : Met l yX4_offUpper wsX4_offUpper ({ frames := 1, cells := 0, slots := 0, locals := 28 } : Room) (va_Pc [.ref a4, .int p1] (fun U => U.heap.size = sz ∧ va_P (dC, dI) vwCl [(a6, .inr (6, [.int v6_end, .int v6_bends, .ref a6_from, .ref a6_to, .ref a6_curve])), (a6_from, .inl (cI, 8, .inl f6_from)), (a6_to, .inl (cI, 8, .inl f6_to)), (a6_curve, .inl (cI, 8, .inl f6_curve)), (a4, .inr (4, [.ref a6, .ref a2, .ref a5, .int v4_begin, .int v4_end, .long v4_wireAtBegin, .long v4_wireAtEnd]))] U.heap ∧ va_K (dC, dI) vwCl [(cI, .int), (cJ, .long), (cZ, .boolean)] U ∧ va_D (fun _ => True) [(a6, .inr (6, [.int v6_end, .int v6_bends, .ref a6_from, .ref a6_to, .ref a6_curve])), (a6_from, .inl (cI, 8, .inl f6_from)), (a6_to, .inl (cI, 8, .inl f6_to)), (a6_curve, .inl (cI, 8, .inl f6_curve)), (a4, .inr (4, [.ref a6, .ref a2, .ref a5, .int v4_begin, .int v4_end, .long v4_wireAtBegin, .long v4_wireAtEnd]))])) (va_Ql (fun r (u : Unit) => Q r) (fun (u : Unit) t => va_P (dC, dI) vwCl [(a6, .inr (6, [.int v6_end, .int v6_bends, .ref a6_from, .ref a6_to, .ref a6_curve])), (a6_from, .inl (cI, 8, .inl f6_from)), (a6_to, .inl (cI, 8, .inl f6_to)), (a6_curve, .inl (cI, 8, .inl f6_curve)), (a4, .inr (4, [.ref a6, .ref a2, .ref a5, .int v4_begin, .int v4_end, .long v4_wireAtBegin, .long v4_wireAtEnd]))] t.heap ∧ va_K (dC, dI) vwCl [(cI, .int), (cJ, .long), (cZ, .boolean)] t ∧ va_D (va_A [(a6, .inr (6, [.int v6_end, .int v6_bends, .ref a6_from, .ref a6_to, .ref a6_curve])), (a6_from, .inl (cI, 8, .inl f6_from)), (a6_to, .inl (cI, 8, .inl f6_to)), (a6_curve, .inl (cI, 8, .inl f6_curve)), (a4, .inr (4, [.ref a6, .ref a2, .ref a5, .int v4_begin, .int v4_end, .long v4_wireAtBegin, .long v4_wireAtEnd]))] sz) [(a6, .inr (6, [.int v6_end, .int v6_bends, .ref a6_from, .ref a6_to, .ref a6_curve])), (a6_from, .inl (cI, 8, .inl f6_from)), (a6_to, .inl (cI, 8, .inl f6_to)), (a6_curve, .inl (cI, 8, .inl f6_curve)), (a4, .inr (4, [.ref a6, .ref a2, .ref a5, .int v4_begin, .int v4_end, .long v4_wireAtBegin, .long v4_wireAtEnd]))]) (va_A [(a6, .inr (6, [.int v6_end, .int v6_bends, .ref a6_from, .ref a6_to, .ref a6_curve])), (a6_from, .inl (cI, 8, .inl f6_from)), (a6_to, .inl (cI, 8, .inl f6_to)), (a6_curve, .inl (cI, 8, .inl f6_curve)), (a4, .inr (4, [.ref a6, .ref a2, .ref a5, .int v4_begin, .int v4_end, .long v4_wireAtBegin, .long v4_wireAtEnd]))] sz)) 0 0 (va_A [(a6, .inr (6, [.int v6_end, .int v6_bends, .ref a6_from, .ref a6_to, .ref a6_curve])), (a6_from, .inl (cI, 8, .inl f6_from)), (a6_to, .inl (cI, 8, .inl f6_to)), (a6_curve, .inl (cI, 8, .inl f6_curve)), (a4, .inr (4, [.ref a6, .ref a2, .ref a5, .int v4_begin, .int v4_end, .long v4_wireAtBegin, .long v4_wireAtEnd]))] sz) := by
  refine Met.ofW (cc := cX4_offUpper) (maxL := 2) (ret := (some .long)) (by decide) rfl ?_
  intro p e s m args below meth c s₁ B hml hv
  obtain ⟨rfl, hsz, hP, hK, hD0⟩ := hv
  have hx := B.exec
  have hb := B.bytes
  have hr := B.returns
  have hts := atoms_spec (ws := wsX4_offUpper) B.pre
  have hown : s.vm.findClass RX4 = some m.cls := findClass_of_methodNamed B.named
  have hlocks := B.notSynchronized
  subst hsz
  have hD := hD0.self (sz := s.heap.size)
  generalize hAe : va_A [(a6, .inr (6, [.int v6_end, .int v6_bends, .ref a6_from, .ref a6_to, .ref a6_curve])), (a6_from, .inl (cI, 8, .inl f6_from)), (a6_to, .inl (cI, 8, .inl f6_to)), (a6_curve, .inl (cI, 8, .inl f6_curve)), (a4, .inr (4, [.ref a6, .ref a2, .ref a5, .int v4_begin, .int v4_end, .long v4_wireAtBegin, .long v4_wireAtEnd]))] s.heap.size = A at hD ⊢
  have hA : ∀ q : Nat, s.heap.size ≤ q → A q := fun q h => by rw [← hAe]; exact Or.inr h
  have hS : va_S A s.heap s.heap [] := va_S.rf
  have hP : va_P (dC, dI) vwCl [(a6, .inr (6, [.int v6_end, .int v6_bends, .ref a6_from, .ref a6_to, .ref a6_curve])), (a6_from, .inl (cI, 8, .inl f6_from)), (a6_to, .inl (cI, 8, .inl f6_to)), (a6_curve, .inl (cI, 8, .inl f6_curve)), (a4, .inr (4, [.ref a6, .ref a2, .ref a5, .int v4_begin, .int v4_end, .long v4_wireAtBegin, .long v4_wireAtEnd]))] s.heap := hP
  have lk1 := hts (.fieldLink RX4 40 "WireRow$Span" "wireAtBegin" "J") (by decide +kernel)
  have lk2 := hts (.fieldLink RX4 33 "WireRow$Span" "end" "I") (by decide +kernel)
  have lk3 := hts (.fieldLink RX4 44 "WireRow$Span" "wireAtEnd" "J") (by decide +kernel)
  have lk4 := hts (.fieldLink RX4 29 "WireRow$Span" "begin" "I") (by decide +kernel)
  have lk5 := hts (.fieldLink RX4 9 "WireRow$Span" "track" "LWireRow$Track;") (by decide +kernel)
  have hl := lv_entry ([.ref a4, .int p1]) (n := 2) (Nat.le_of_ble_eq_true rfl)
  rw [lg_entry_eq]
  generalize (lg_sl ([.ref a4, .int p1]) ++ List.replicate (2 - (lg_sl ([.ref a4, .int p1])).length) Slot.unset).toArray = ls at hl ⊢
  have hl : lv_has ls 2 [(0, .ref a4), (1, .int p1)] := hl
  obtain ⟨H, hHe⟩ : ∃ H, H = s.heap := ⟨_, rfl⟩
  rw [← hHe] at hP
  have hS : va_S A s.heap H [] := by rw [hHe]; exact hS
  rw [← hHe]
  unfold wp_X4_offUpper at hw
  refine lv_aload_n hx hb dX4_offUpper_0 rfl (lv_at hl 0 rfl) ?_
  refine va_get (D := (dC, dI)) (ci := 4) (v := .long v4_wireAtBegin) (C := RX4) (T := TX4) (N := 7) hx hb hts inX4_offUpper_X4 hown hK hP 4 rfl rfl 5 (by decide) lk1 (fun _ h9 => h9) rfl dX4_offUpper_1 ?_
  refine lv_aload_n hx hb dX4_offUpper_4 rfl (lv_at hl 0 rfl) ?_
  refine va_get (D := (dC, dI)) (ci := 4) (v := .int v4_end) (C := RX4) (T := TX4) (N := 7) hx hb hts inX4_offUpper_X4 hown hK hP 4 rfl rfl 4 (by decide) lk2 (fun _ h9 => h9) rfl dX4_offUpper_5 ?_
  refine lv_iload_n hx hb dX4_offUpper_8 rfl (lv_at hl 1 rfl) ?_
  refine lv_isub hx hb dX4_offUpper_9 ?_
  refine lv_i2l (v := (v4_end - p1).toInt64) hx hb dX4_offUpper_10 rfl ?_
  refine lv_lmul hx hb dX4_offUpper_11 ?_
  refine lv_aload_n hx hb dX4_offUpper_12 rfl (lv_at hl 0 rfl) ?_
  refine va_get (D := (dC, dI)) (ci := 4) (v := .long v4_wireAtEnd) (C := RX4) (T := TX4) (N := 7) hx hb hts inX4_offUpper_X4 hown hK hP 4 rfl rfl 6 (by decide) lk3 (fun _ h9 => h9) rfl dX4_offUpper_13 ?_
  refine lv_iload_n hx hb dX4_offUpper_16 rfl (lv_at hl 1 rfl) ?_
  refine lv_aload_n hx hb dX4_offUpper_17 rfl (lv_at hl 0 rfl) ?_
  refine va_get (D := (dC, dI)) (ci := 4) (v := .int v4_begin) (C := RX4) (T := TX4) (N := 7) hx hb hts inX4_offUpper_X4 hown hK hP 4 rfl rfl 3 (by decide) lk4 (fun _ h9 => h9) rfl dX4_offUpper_18 ?_
  refine lv_isub hx hb dX4_offUpper_21 ?_
  refine lv_i2l (v := (p1 - v4_begin).toInt64) hx hb dX4_offUpper_22 rfl ?_
  refine lv_lmul hx hb dX4_offUpper_23 ?_
  refine lv_ladd hx hb dX4_offUpper_24 ?_
  refine lv_aload_n hx hb dX4_offUpper_25 rfl (lv_at hl 0 rfl) ?_
  refine va_get (D := (dC, dI)) (ci := 4) (v := .ref a6) (C := RX4) (T := TX4) (N := 7) hx hb hts inX4_offUpper_X4 hown hK hP 4 rfl rfl 0 (by decide) lk5 (fun _ h9 => h9) rfl dX4_offUpper_26 ?_
  refine lv_iload_n hx hb dX4_offUpper_29 rfl (lv_at hl 1 rfl) ?_
  have hPc := hP.sub (ws' := [(a6, .inr (6, [.int v6_end, .int v6_bends, .ref a6_from, .ref a6_to, .ref a6_curve])), (a6_from, .inl (cI, 8, .inl f6_from)), (a6_to, .inl (cI, 8, .inl f6_to)), (a6_curve, .inl (cI, 8, .inl f6_curve))]) [0, 1, 2, 3] rfl
  have hDc := hD.sub (ws' := [(a6, .inr (6, [.int v6_end, .int v6_bends, .ref a6_from, .ref a6_to, .ref a6_curve])), (a6_from, .inl (cI, 8, .inl f6_from)), (a6_to, .inl (cI, 8, .inl f6_to)), (a6_curve, .inl (cI, 8, .inl f6_curve))]) [0, 1, 2, 3] (by decide) rfl
  have hFc := va_free (wc := [(a6, .inr (6, [.int v6_end, .int v6_bends, .ref a6_from, .ref a6_to, .ref a6_curve])), (a6_from, .inl (cI, 8, .inl f6_from)), (a6_to, .inl (cI, 8, .inl f6_to)), (a6_curve, .inl (cI, 8, .inl f6_curve))]) hD hS hA [0, 1, 2, 3] rfl
  refine va_calll (va_runV (As := [.int p1]) (rest := [.long ((v4_wireAtBegin * (v4_end - p1).toInt64) + (v4_wireAtEnd * (p1 - v4_begin).toInt64))]) ⟨hx, hb, hml, hown, hts⟩ (c_X6_asideOf l dC dI cI cJ cZ a6 a6_from a6_to a6_curve H.size v6_end v6_bends f6_from f6_to f6_curve p1 _ hw) (cwV 1 hts gX4_offUpper_X6_asideOf rfl rfl rfl (by decide +kernel) ⟨Nat.le_of_ble_eq_true rfl, Nat.le_of_ble_eq_true rfl⟩) ⟨fun a U g mk q => by obtain ⟨q0, q1, qP, qK, qD⟩ := q; exact ⟨q0, q1, qP, va_K.moved (u := U) (U := U.calling g mk a) (Vm.Alike.refl U.vm) qK, qD⟩, va_recv hK hP (ci := 6) (q0 := 0) rfl rfl, fun U hU hW => ⟨rfl, by rw [hU], by rw [hU]; exact hPc, va_K.moved hW.alike hK, hDc.weaken (fun _ _ _ _ => trivial)⟩⟩ rfl rfl hl.1 rfl (lv_room (Nat.le_of_ble_eq_true rfl)) dX4_offUpper_30 ⟨(Nat.zero_le _), (Nat.zero_le _)⟩) hS (fun q _ h => hFc q h) hFc (fun r1 u t H1 locs ht hvm hw hB hz1 hk1 hS => ?_)
  obtain ⟨hP1, -, hD1⟩ := hB
  try dsimp only at hw
  rw [ht] at hP1
  obtain ⟨hP, hD⟩ := va_join (wr := [(a4, .inr (4, [.ref a6, .ref a2, .ref a5, .int v4_begin, .int v4_end, .long v4_wireAtBegin, .long v4_wireAtEnd]))]) (w1 := [(a6, .inr (6, [.int v6_end, .int v6_bends, .ref a6_from, .ref a6_to, .ref a6_curve])), (a6_from, .inl (cI, 8, .inl f6_from)), (a6_to, .inl (cI, 8, .inl f6_to)), (a6_curve, .inl (cI, 8, .inl f6_curve))]) hP hD [0, 1, 2, 3] [4] rfl rfl (by decide) (by decide) hk1 hFc hP1 hD1
  generalize H1 = H at hP hS ⊢
  have hP : va_P (dC, dI) vwCl [(a4, .inr (4, [.ref a6, .ref a2, .ref a5, .int v4_begin, .int v4_end, .long v4_wireAtBegin, .long v4_wireAtEnd])), (a6, .inr (6, [.int v6_end, .int v6_bends, .ref a6_from, .ref a6_to, .ref a6_curve])), (a6_from, .inl (cI, 8, .inl f6_from)), (a6_to, .inl (cI, 8, .inl f6_to)), (a6_curve, .inl (cI, 8, .inl f6_curve))] H := hP
  have hD : va_D A [(a4, .inr (4, [.ref a6, .ref a2, .ref a5, .int v4_begin, .int v4_end, .long v4_wireAtBegin, .long v4_wireAtEnd])), (a6, .inr (6, [.int v6_end, .int v6_bends, .ref a6_from, .ref a6_to, .ref a6_curve])), (a6_from, .inl (cI, 8, .inl f6_from)), (a6_to, .inl (cI, 8, .inl f6_to)), (a6_curve, .inl (cI, 8, .inl f6_curve))] := hD
  refine lv_aload_n hx hb dX4_offUpper_33 rfl (lv_at hl 0 rfl) ?_
  refine va_get (D := (dC, dI)) (ci := 4) (v := .int v4_end) (C := RX4) (T := TX4) (N := 7) hx hb hts inX4_offUpper_X4 hown hK hP 0 rfl rfl 4 (by decide) lk2 (fun _ h9 => h9) rfl dX4_offUpper_34 ?_
  refine lv_aload_n hx hb dX4_offUpper_37 rfl (lv_at hl 0 rfl) ?_
  refine va_get (D := (dC, dI)) (ci := 4) (v := .int v4_begin) (C := RX4) (T := TX4) (N := 7) hx hb hts inX4_offUpper_X4 hown hK hP 0 rfl rfl 3 (by decide) lk4 (fun _ h9 => h9) rfl dX4_offUpper_38 ?_
  refine lv_isub hx hb dX4_offUpper_41 ?_
  refine lv_i2l (v := (v4_end - v4_begin).toInt64) hx hb dX4_offUpper_42 rfl ?_
  refine lv_lmul hx hb dX4_offUpper_43 ?_
  refine lv_lsub hx hb dX4_offUpper_44 ?_
  have hP9 := hP.sub (ws' := [(a6, .inr (6, [.int v6_end, .int v6_bends, .ref a6_from, .ref a6_to, .ref a6_curve])), (a6_from, .inl (cI, 8, .inl f6_from)), (a6_to, .inl (cI, 8, .inl f6_to)), (a6_curve, .inl (cI, 8, .inl f6_curve)), (a4, .inr (4, [.ref a6, .ref a2, .ref a5, .int v4_begin, .int v4_end, .long v4_wireAtBegin, .long v4_wireAtEnd]))]) [1, 2, 3, 4, 0] rfl
  have hD9 := hD.sub (ws' := [(a6, .inr (6, [.int v6_end, .int v6_bends, .ref a6_from, .ref a6_to, .ref a6_curve])), (a6_from, .inl (cI, 8, .inl f6_from)), (a6_to, .inl (cI, 8, .inl f6_to)), (a6_curve, .inl (cI, 8, .inl f6_curve)), (a4, .inr (4, [.ref a6, .ref a2, .ref a5, .int v4_begin, .int v4_end, .long v4_wireAtBegin, .long v4_wireAtEnd]))]) [1, 2, 3, 4, 0] (by decide) rfl
  exact W.lret (v := (((v4_wireAtBegin * (v4_end - p1).toInt64) + (v4_wireAtEnd * (p1 - v4_begin).toInt64)) - (r1 * (v4_end - v4_begin).toInt64))) hx hb hr (fun t ht hW => ⟨⟨(((v4_wireAtBegin * (v4_end - p1).toInt64) + (v4_wireAtEnd * (p1 - v4_begin).toInt64)) - (r1 * (v4_end - v4_begin).toInt64)), (), rfl, hw, by rw [ht]; exact hP9, va_K.moved hW.alike hK, hD9⟩, hS.F ht⟩) hS.2.2 dX4_offUpper_45

theorem inX4_excess_X4 : ∀ w ∈ wsX40, w ∈ wsX4_excess := fun _ h => List.mem_cons_of_mem _ (List.mem_append_left _ (List.mem_append_right _ h))
theorem inX4_excess_X5 : ∀ w ∈ wsX50, w ∈ wsX4_excess := fun _ h => List.mem_cons_of_mem _ (List.mem_append_right _ h)
def wp_X4_excess (Q : Int64 → Prop) (v5_wind : Int32) (v5_pull : Int32) (v5_room : Int32) (v4_begin : Int32) (v4_end : Int32) (p1 : Int32) (p2 : Int64) : Prop :=
  (∀ x1 : Int64, x1 = ((v5_wind.toInt64 * (p1 - v4_begin).toInt64) * (v4_end - p1).toInt64) → (∀ x2 : Int64, x2 = (v5_room.toInt64 * v5_pull.toInt64) → (Q ((p2 * v5_pull.toInt64) + ((x1 - x2) * (v4_end - v4_begin).toInt64)) )))
set_option maxHeartbeats 4000000 in
set_option maxRecDepth 100000 in
theorem c_X4_excess (l : Launch) (dC : Nat → ClassId) (dI : Nat → Nat → Nat) (cI cJ cZ : ClassId) (a6 : Nat) (a2 : Nat) (a5 : Nat) (a4 : Nat) (sz : Nat) (v5_wind : Int32) (v5_pull : Int32) (v5_room : Int32) (v5_reach : Int32) (v4_begin : Int32) (v4_end : Int32) (v4_wireAtBegin : Int64) (v4_wireAtEnd : Int64) (p1 : Int32) (p2 : Int64) (Q : Int64 → Prop) (hw : wp_X4_excess Q v5_wind v5_pull v5_room v4_begin v4_end p1 p2) : Met l yX4_excess wsX4_excess ({ frames := 0, cells := 0, slots := 0, locals := 0 } : Room) (va_Pc [.ref a4, .int p1, .long p2] (fun U => U.heap.size = sz ∧ va_P (dC, dI) vwCl [(a5, .inr (5, [.int v5_wind, .int v5_pull, .int v5_room, .int v5_reach])), (a4, .inr (4, [.ref a6, .ref a2, .ref a5, .int v4_begin, .int v4_end, .long v4_wireAtBegin, .long v4_wireAtEnd]))] U.heap ∧ va_K (dC, dI) vwCl [(cI, .int), (cJ, .long), (cZ, .boolean)] U ∧ va_D (fun _ => True) [(a5, .inr (5, [.int v5_wind, .int v5_pull, .int v5_room, .int v5_reach])), (a4, .inr (4, [.ref a6, .ref a2, .ref a5, .int v4_begin, .int v4_end, .long v4_wireAtBegin, .long v4_wireAtEnd]))])) (va_Ql (fun r (u : Unit) => Q r) (fun (u : Unit) t => va_P (dC, dI) vwCl [(a5, .inr (5, [.int v5_wind, .int v5_pull, .int v5_room, .int v5_reach])), (a4, .inr (4, [.ref a6, .ref a2, .ref a5, .int v4_begin, .int v4_end, .long v4_wireAtBegin, .long v4_wireAtEnd]))] t.heap ∧ va_K (dC, dI) vwCl [(cI, .int), (cJ, .long), (cZ, .boolean)] t ∧ va_D (va_A [(a5, .inr (5, [.int v5_wind, .int v5_pull, .int v5_room, .int v5_reach])), (a4, .inr (4, [.ref a6, .ref a2, .ref a5, .int v4_begin, .int v4_end, .long v4_wireAtBegin, .long v4_wireAtEnd]))] sz) [(a5, .inr (5, [.int v5_wind, .int v5_pull, .int v5_room, .int v5_reach])), (a4, .inr (4, [.ref a6, .ref a2, .ref a5, .int v4_begin, .int v4_end, .long v4_wireAtBegin, .long v4_wireAtEnd]))]) (va_A [(a5, .inr (5, [.int v5_wind, .int v5_pull, .int v5_room, .int v5_reach])), (a4, .inr (4, [.ref a6, .ref a2, .ref a5, .int v4_begin, .int v4_end, .long v4_wireAtBegin, .long v4_wireAtEnd]))] sz)) 0 0 (va_A [(a5, .inr (5, [.int v5_wind, .int v5_pull, .int v5_room, .int v5_reach])), (a4, .inr (4, [.ref a6, .ref a2, .ref a5, .int v4_begin, .int v4_end, .long v4_wireAtBegin, .long v4_wireAtEnd]))] sz) := by
  refine Met.ofW (cc := cX4_excess) (maxL := 8) (ret := (some .long)) (by decide) rfl ?_
  intro p e s m args below meth c s₁ B hml hv
  obtain ⟨rfl, hsz, hP, hK, hD0⟩ := hv
  have hx := B.exec
  have hb := B.bytes
  have hr := B.returns
  have hts := atoms_spec (ws := wsX4_excess) B.pre
  have hown : s.vm.findClass RX4 = some m.cls := findClass_of_methodNamed B.named
  have hlocks := B.notSynchronized
  subst hsz
  have hD := hD0.self (sz := s.heap.size)
  generalize hAe : va_A [(a5, .inr (5, [.int v5_wind, .int v5_pull, .int v5_room, .int v5_reach])), (a4, .inr (4, [.ref a6, .ref a2, .ref a5, .int v4_begin, .int v4_end, .long v4_wireAtBegin, .long v4_wireAtEnd]))] s.heap.size = A at hD ⊢
  have hA : ∀ q : Nat, s.heap.size ≤ q → A q := fun q h => by rw [← hAe]; exact Or.inr h
  have hS : va_S A s.heap s.heap [] := va_S.rf
  have hP : va_P (dC, dI) vwCl [(a5, .inr (5, [.int v5_wind, .int v5_pull, .int v5_room, .int v5_reach])), (a4, .inr (4, [.ref a6, .ref a2, .ref a5, .int v4_begin, .int v4_end, .long v4_wireAtBegin, .long v4_wireAtEnd]))] s.heap := hP
  have lk1 := hts (.fieldLink RX4 19 "WireRow$Span" "sweep" "LWireRow$Sweep;") (by decide +kernel)
  have lk2 := hts (.fieldLink RX4 53 "WireRow$Sweep" "wind" "I") (by decide +kernel)
  have lk3 := hts (.fieldLink RX4 29 "WireRow$Span" "begin" "I") (by decide +kernel)
  have lk4 := hts (.fieldLink RX4 33 "WireRow$Span" "end" "I") (by decide +kernel)
  have lk5 := hts (.fieldLink RX4 58 "WireRow$Sweep" "room" "I") (by decide +kernel)
  have lk6 := hts (.fieldLink RX4 61 "WireRow$Sweep" "pull" "I") (by decide +kernel)
  have hl := lv_entry ([.ref a4, .int p1, .long p2]) (n := 8) (Nat.le_of_ble_eq_true rfl)
  rw [lg_entry_eq]
  generalize (lg_sl ([.ref a4, .int p1, .long p2]) ++ List.replicate (8 - (lg_sl ([.ref a4, .int p1, .long p2])).length) Slot.unset).toArray = ls at hl ⊢
  have hl : lv_has ls 8 [(0, .ref a4), (1, .int p1), (2, .long p2)] := hl
  obtain ⟨H, hHe⟩ : ∃ H, H = s.heap := ⟨_, rfl⟩
  rw [← hHe] at hP
  have hS : va_S A s.heap H [] := by rw [hHe]; exact hS
  rw [← hHe]
  unfold wp_X4_excess at hw
  refine lv_aload_n hx hb dX4_excess_0 rfl (lv_at hl 0 rfl) ?_
  refine va_get (D := (dC, dI)) (ci := 4) (v := .ref a5) (C := RX4) (T := TX4) (N := 7) hx hb hts inX4_excess_X4 hown hK hP 1 rfl rfl 2 (by decide) lk1 (fun _ h9 => h9) rfl dX4_excess_1 ?_
  refine va_get (D := (dC, dI)) (ci := 5) (v := .int v5_wind) (C := RX5) (T := TX5) (N := 4) hx hb hts inX4_excess_X5 hown hK hP 0 rfl rfl 0 (by decide) lk2 (fun _ h9 => h9) rfl dX4_excess_4 ?_
  refine lv_i2l (v := v5_wind.toInt64) hx hb dX4_excess_7 rfl ?_
  refine lv_iload_n hx hb dX4_excess_8 rfl (lv_at hl 1 rfl) ?_
  refine lv_aload_n hx hb dX4_excess_9 rfl (lv_at hl 0 rfl) ?_
  refine va_get (D := (dC, dI)) (ci := 4) (v := .int v4_begin) (C := RX4) (T := TX4) (N := 7) hx hb hts inX4_excess_X4 hown hK hP 1 rfl rfl 3 (by decide) lk3 (fun _ h9 => h9) rfl dX4_excess_10 ?_
  refine lv_isub hx hb dX4_excess_13 ?_
  refine lv_i2l (v := (p1 - v4_begin).toInt64) hx hb dX4_excess_14 rfl ?_
  refine lv_lmul hx hb dX4_excess_15 ?_
  refine lv_aload_n hx hb dX4_excess_16 rfl (lv_at hl 0 rfl) ?_
  refine va_get (D := (dC, dI)) (ci := 4) (v := .int v4_end) (C := RX4) (T := TX4) (N := 7) hx hb hts inX4_excess_X4 hown hK hP 1 rfl rfl 4 (by decide) lk4 (fun _ h9 => h9) rfl dX4_excess_17 ?_
  refine lv_iload_n hx hb dX4_excess_20 rfl (lv_at hl 1 rfl) ?_
  refine lv_isub hx hb dX4_excess_21 ?_
  refine lv_i2l (v := (v4_end - p1).toInt64) hx hb dX4_excess_22 rfl ?_
  refine lv_lmul hx hb dX4_excess_23 ?_
  refine lv_topl (fun x1 ex1 => ?_)
  replace hw := hw x1 ex1
  refine lv_lstore (lv' := [(4, .long x1), (0, .ref a4), (1, .int p1), (2, .long p2)]) hx hb dX4_excess_24 hl (by decide) rfl (fun ls hl => ?_)
  refine lv_aload_n hx hb dX4_excess_26 rfl (lv_at hl 1 rfl) ?_
  refine va_get (D := (dC, dI)) (ci := 4) (v := .ref a5) (C := RX4) (T := TX4) (N := 7) hx hb hts inX4_excess_X4 hown hK hP 1 rfl rfl 2 (by decide) lk1 (fun _ h9 => h9) rfl dX4_excess_27 ?_
  refine va_get (D := (dC, dI)) (ci := 5) (v := .int v5_room) (C := RX5) (T := TX5) (N := 4) hx hb hts inX4_excess_X5 hown hK hP 0 rfl rfl 2 (by decide) lk5 (fun _ h9 => h9) rfl dX4_excess_30 ?_
  refine lv_i2l (v := v5_room.toInt64) hx hb dX4_excess_33 rfl ?_
  refine lv_aload_n hx hb dX4_excess_34 rfl (lv_at hl 1 rfl) ?_
  refine va_get (D := (dC, dI)) (ci := 4) (v := .ref a5) (C := RX4) (T := TX4) (N := 7) hx hb hts inX4_excess_X4 hown hK hP 1 rfl rfl 2 (by decide) lk1 (fun _ h9 => h9) rfl dX4_excess_35 ?_
  refine va_get (D := (dC, dI)) (ci := 5) (v := .int v5_pull) (C := RX5) (T := TX5) (N := 4) hx hb hts inX4_excess_X5 hown hK hP 0 rfl rfl 1 (by decide) lk6 (fun _ h9 => h9) rfl dX4_excess_38 ?_
  refine lv_i2l (v := v5_pull.toInt64) hx hb dX4_excess_41 rfl ?_
  refine lv_lmul hx hb dX4_excess_42 ?_
  refine lv_topl (fun x2 ex2 => ?_)
  replace hw := hw x2 ex2
  refine lv_lstore (lv' := [(6, .long x2), (4, .long x1), (0, .ref a4), (1, .int p1), (2, .long p2)]) hx hb dX4_excess_43 hl (by decide) rfl (fun ls hl => ?_)
  refine lv_lload_n hx hb dX4_excess_45 rfl (lv_at hl 4 rfl) ?_
  refine lv_aload_n hx hb dX4_excess_46 rfl (lv_at hl 2 rfl) ?_
  refine va_get (D := (dC, dI)) (ci := 4) (v := .ref a5) (C := RX4) (T := TX4) (N := 7) hx hb hts inX4_excess_X4 hown hK hP 1 rfl rfl 2 (by decide) lk1 (fun _ h9 => h9) rfl dX4_excess_47 ?_
  refine va_get (D := (dC, dI)) (ci := 5) (v := .int v5_pull) (C := RX5) (T := TX5) (N := 4) hx hb hts inX4_excess_X5 hown hK hP 0 rfl rfl 1 (by decide) lk6 (fun _ h9 => h9) rfl dX4_excess_50 ?_
  refine lv_i2l (v := v5_pull.toInt64) hx hb dX4_excess_53 rfl ?_
  refine lv_lmul hx hb dX4_excess_54 ?_
  refine lv_lload hx hb dX4_excess_55 (lv_at hl 1 rfl) ?_
  refine lv_lload hx hb dX4_excess_57 (lv_at hl 0 rfl) ?_
  refine lv_lsub hx hb dX4_excess_59 ?_
  refine lv_aload_n hx hb dX4_excess_60 rfl (lv_at hl 2 rfl) ?_
  refine va_get (D := (dC, dI)) (ci := 4) (v := .int v4_end) (C := RX4) (T := TX4) (N := 7) hx hb hts inX4_excess_X4 hown hK hP 1 rfl rfl 4 (by decide) lk4 (fun _ h9 => h9) rfl dX4_excess_61 ?_
  refine lv_aload_n hx hb dX4_excess_64 rfl (lv_at hl 2 rfl) ?_
  refine va_get (D := (dC, dI)) (ci := 4) (v := .int v4_begin) (C := RX4) (T := TX4) (N := 7) hx hb hts inX4_excess_X4 hown hK hP 1 rfl rfl 3 (by decide) lk3 (fun _ h9 => h9) rfl dX4_excess_65 ?_
  refine lv_isub hx hb dX4_excess_68 ?_
  refine lv_i2l (v := (v4_end - v4_begin).toInt64) hx hb dX4_excess_69 rfl ?_
  refine lv_lmul hx hb dX4_excess_70 ?_
  refine lv_ladd hx hb dX4_excess_71 ?_
  have hP9 := hP.sub (ws' := [(a5, .inr (5, [.int v5_wind, .int v5_pull, .int v5_room, .int v5_reach])), (a4, .inr (4, [.ref a6, .ref a2, .ref a5, .int v4_begin, .int v4_end, .long v4_wireAtBegin, .long v4_wireAtEnd]))]) [0, 1] rfl
  have hD9 := hD.sub (ws' := [(a5, .inr (5, [.int v5_wind, .int v5_pull, .int v5_room, .int v5_reach])), (a4, .inr (4, [.ref a6, .ref a2, .ref a5, .int v4_begin, .int v4_end, .long v4_wireAtBegin, .long v4_wireAtEnd]))]) [0, 1] (by decide) rfl
  exact W.lret (v := ((p2 * v5_pull.toInt64) + ((x1 - x2) * (v4_end - v4_begin).toInt64))) hx hb hr (fun t ht hW => ⟨⟨((p2 * v5_pull.toInt64) + ((x1 - x2) * (v4_end - v4_begin).toInt64)), (), rfl, hw, by rw [ht]; exact hP9, va_K.moved hW.alike hK, hD9⟩, hS.F ht⟩) hS.2.2 dX4_excess_72

theorem inX4_keepsPlace_X4 : ∀ w ∈ wsX40, w ∈ wsX4_keepsPlace := fun _ h => List.mem_cons_of_mem _ (List.mem_append_left _ (List.mem_append_left _ (List.mem_append_right _ h)))
theorem inX4_keepsPlace_X6 : ∀ w ∈ wsX60, w ∈ wsX4_keepsPlace := fun _ h => List.mem_cons_of_mem _ (List.mem_append_left _ (List.mem_append_right _ h))
theorem inX4_keepsPlace_X5 : ∀ w ∈ wsX50, w ∈ wsX4_keepsPlace := fun _ h => List.mem_cons_of_mem _ (List.mem_append_right _ h)
def wp_X4_keepsPlace (Q : Int32 → Prop) (v6_bends : Int32) (f6_from : Nat → Int32) (f6_to : Nat → Int32) (f6_curve : Nat → Int32) (v5_wind : Int32) (v5_pull : Int32) (v5_room : Int32) (v4_begin : Int32) (v4_end : Int32) (v4_wireAtBegin : Int64) (v4_wireAtEnd : Int64) (p1 : Int32) : Prop :=
  (wp_X4_offUpper (fun r1 => (∀ x2 : Int64, x2 = (if 0 < r1 then r1 else -r1) → (wp_X4_excess (fun r3 => (((0 : Int64) < r3 → (((0 : Int32) = 0 ∨ (0 : Int32) = 1) ∧ Q (0 : Int32) )) ∧ (¬ (0 : Int64) < r3 → (((1 : Int32) = 0 ∨ (1 : Int32) = 1) ∧ Q (1 : Int32) )))) v5_wind v5_pull v5_room v4_begin v4_end p1 x2))) v6_bends f6_from f6_to f6_curve v4_begin v4_end v4_wireAtBegin v4_wireAtEnd p1)
set_option maxHeartbeats 4000000 in
set_option maxRecDepth 100000 in
theorem c_X4_keepsPlace (l : Launch) (dC : Nat → ClassId) (dI : Nat → Nat → Nat) (cI cJ cZ : ClassId) (a6 : Nat) (a6_from : Nat) (a6_to : Nat) (a6_curve : Nat) (a2 : Nat) (a5 : Nat) (a4 : Nat) (sz : Nat) (v6_end : Int32) (v6_bends : Int32) (f6_from : Nat → Int32) (f6_to : Nat → Int32) (f6_curve : Nat → Int32) (v5_wind : Int32) (v5_pull : Int32) (v5_room : Int32) (v5_reach : Int32) (v4_begin : Int32) (v4_end : Int32) (v4_wireAtBegin : Int64) (v4_wireAtEnd : Int64) (p1 : Int32) (Q : Int32 → Prop) (hw : wp_X4_keepsPlace Q v6_bends f6_from f6_to f6_curve v5_wind v5_pull v5_room v4_begin v4_end v4_wireAtBegin v4_wireAtEnd p1) : Met l yX4_keepsPlace wsX4_keepsPlace ({ frames := 2, cells := 0, slots := 0, locals := 49 } : Room) (va_Pc [.ref a4, .int p1] (fun U => U.heap.size = sz ∧ va_P (dC, dI) vwCl [(a6, .inr (6, [.int v6_end, .int v6_bends, .ref a6_from, .ref a6_to, .ref a6_curve])), (a6_from, .inl (cI, 8, .inl f6_from)), (a6_to, .inl (cI, 8, .inl f6_to)), (a6_curve, .inl (cI, 8, .inl f6_curve)), (a5, .inr (5, [.int v5_wind, .int v5_pull, .int v5_room, .int v5_reach])), (a4, .inr (4, [.ref a6, .ref a2, .ref a5, .int v4_begin, .int v4_end, .long v4_wireAtBegin, .long v4_wireAtEnd]))] U.heap ∧ va_K (dC, dI) vwCl [(cI, .int), (cJ, .long), (cZ, .boolean)] U ∧ va_D (fun _ => True) [(a6, .inr (6, [.int v6_end, .int v6_bends, .ref a6_from, .ref a6_to, .ref a6_curve])), (a6_from, .inl (cI, 8, .inl f6_from)), (a6_to, .inl (cI, 8, .inl f6_to)), (a6_curve, .inl (cI, 8, .inl f6_curve)), (a5, .inr (5, [.int v5_wind, .int v5_pull, .int v5_room, .int v5_reach])), (a4, .inr (4, [.ref a6, .ref a2, .ref a5, .int v4_begin, .int v4_end, .long v4_wireAtBegin, .long v4_wireAtEnd]))])) (va_Qi (fun r (u : Unit) => Q r) (fun (u : Unit) t => va_P (dC, dI) vwCl [(a6, .inr (6, [.int v6_end, .int v6_bends, .ref a6_from, .ref a6_to, .ref a6_curve])), (a6_from, .inl (cI, 8, .inl f6_from)), (a6_to, .inl (cI, 8, .inl f6_to)), (a6_curve, .inl (cI, 8, .inl f6_curve)), (a5, .inr (5, [.int v5_wind, .int v5_pull, .int v5_room, .int v5_reach])), (a4, .inr (4, [.ref a6, .ref a2, .ref a5, .int v4_begin, .int v4_end, .long v4_wireAtBegin, .long v4_wireAtEnd]))] t.heap ∧ va_K (dC, dI) vwCl [(cI, .int), (cJ, .long), (cZ, .boolean)] t ∧ va_D (va_A [(a6, .inr (6, [.int v6_end, .int v6_bends, .ref a6_from, .ref a6_to, .ref a6_curve])), (a6_from, .inl (cI, 8, .inl f6_from)), (a6_to, .inl (cI, 8, .inl f6_to)), (a6_curve, .inl (cI, 8, .inl f6_curve)), (a5, .inr (5, [.int v5_wind, .int v5_pull, .int v5_room, .int v5_reach])), (a4, .inr (4, [.ref a6, .ref a2, .ref a5, .int v4_begin, .int v4_end, .long v4_wireAtBegin, .long v4_wireAtEnd]))] sz) [(a6, .inr (6, [.int v6_end, .int v6_bends, .ref a6_from, .ref a6_to, .ref a6_curve])), (a6_from, .inl (cI, 8, .inl f6_from)), (a6_to, .inl (cI, 8, .inl f6_to)), (a6_curve, .inl (cI, 8, .inl f6_curve)), (a5, .inr (5, [.int v5_wind, .int v5_pull, .int v5_room, .int v5_reach])), (a4, .inr (4, [.ref a6, .ref a2, .ref a5, .int v4_begin, .int v4_end, .long v4_wireAtBegin, .long v4_wireAtEnd]))]) (va_A [(a6, .inr (6, [.int v6_end, .int v6_bends, .ref a6_from, .ref a6_to, .ref a6_curve])), (a6_from, .inl (cI, 8, .inl f6_from)), (a6_to, .inl (cI, 8, .inl f6_to)), (a6_curve, .inl (cI, 8, .inl f6_curve)), (a5, .inr (5, [.int v5_wind, .int v5_pull, .int v5_room, .int v5_reach])), (a4, .inr (4, [.ref a6, .ref a2, .ref a5, .int v4_begin, .int v4_end, .long v4_wireAtBegin, .long v4_wireAtEnd]))] sz)) 0 0 (va_A [(a6, .inr (6, [.int v6_end, .int v6_bends, .ref a6_from, .ref a6_to, .ref a6_curve])), (a6_from, .inl (cI, 8, .inl f6_from)), (a6_to, .inl (cI, 8, .inl f6_to)), (a6_curve, .inl (cI, 8, .inl f6_curve)), (a5, .inr (5, [.int v5_wind, .int v5_pull, .int v5_room, .int v5_reach])), (a4, .inr (4, [.ref a6, .ref a2, .ref a5, .int v4_begin, .int v4_end, .long v4_wireAtBegin, .long v4_wireAtEnd]))] sz) := by
  refine Met.ofW (cc := cX4_keepsPlace) (maxL := 2) (ret := (some .boolean)) (by decide) rfl ?_
  intro p e s m args below meth c s₁ B hml hv
  obtain ⟨rfl, hsz, hP, hK, hD0⟩ := hv
  have hx := B.exec
  have hb := B.bytes
  have hr := B.returns
  have hts := atoms_spec (ws := wsX4_keepsPlace) B.pre
  have hown : s.vm.findClass RX4 = some m.cls := findClass_of_methodNamed B.named
  have hlocks := B.notSynchronized
  subst hsz
  have hD := hD0.self (sz := s.heap.size)
  generalize hAe : va_A [(a6, .inr (6, [.int v6_end, .int v6_bends, .ref a6_from, .ref a6_to, .ref a6_curve])), (a6_from, .inl (cI, 8, .inl f6_from)), (a6_to, .inl (cI, 8, .inl f6_to)), (a6_curve, .inl (cI, 8, .inl f6_curve)), (a5, .inr (5, [.int v5_wind, .int v5_pull, .int v5_room, .int v5_reach])), (a4, .inr (4, [.ref a6, .ref a2, .ref a5, .int v4_begin, .int v4_end, .long v4_wireAtBegin, .long v4_wireAtEnd]))] s.heap.size = A at hD ⊢
  have hA : ∀ q : Nat, s.heap.size ≤ q → A q := fun q h => by rw [← hAe]; exact Or.inr h
  have hS : va_S A s.heap s.heap [] := va_S.rf
  have hP : va_P (dC, dI) vwCl [(a6, .inr (6, [.int v6_end, .int v6_bends, .ref a6_from, .ref a6_to, .ref a6_curve])), (a6_from, .inl (cI, 8, .inl f6_from)), (a6_to, .inl (cI, 8, .inl f6_to)), (a6_curve, .inl (cI, 8, .inl f6_curve)), (a5, .inr (5, [.int v5_wind, .int v5_pull, .int v5_room, .int v5_reach])), (a4, .inr (4, [.ref a6, .ref a2, .ref a5, .int v4_begin, .int v4_end, .long v4_wireAtBegin, .long v4_wireAtEnd]))] s.heap := hP
  have lk1 := hts (.methodLink RX4 67 Lib.MathLoose.abs_long.x) (by decide +kernel)
  have lk2 := hts (.static Lib.MathLoose.abs_long.x) (by decide +kernel)
  have lk3 := hts (.initialized "java/lang/Math") (by decide +kernel)
  have lk4 := hts (.code Lib.MathLoose.abs_long.x Lib.MathLoose.abs_long.code 2 (some .long)) (by decide +kernel)
  have hl := lv_entry ([.ref a4, .int p1]) (n := 2) (Nat.le_of_ble_eq_true rfl)
  rw [lg_entry_eq]
  generalize (lg_sl ([.ref a4, .int p1]) ++ List.replicate (2 - (lg_sl ([.ref a4, .int p1])).length) Slot.unset).toArray = ls at hl ⊢
  have hl : lv_has ls 2 [(0, .ref a4), (1, .int p1)] := hl
  obtain ⟨H, hHe⟩ : ∃ H, H = s.heap := ⟨_, rfl⟩
  rw [← hHe] at hP
  have hS : va_S A s.heap H [] := by rw [hHe]; exact hS
  rw [← hHe]
  unfold wp_X4_keepsPlace at hw
  refine lv_aload_n hx hb dX4_keepsPlace_0 rfl (lv_at hl 0 rfl) ?_
  refine lv_iload_n hx hb dX4_keepsPlace_1 rfl (lv_at hl 1 rfl) ?_
  refine lv_aload_n hx hb dX4_keepsPlace_2 rfl (lv_at hl 0 rfl) ?_
  refine lv_iload_n hx hb dX4_keepsPlace_3 rfl (lv_at hl 1 rfl) ?_
  have hPc := hP.sub (ws' := [(a6, .inr (6, [.int v6_end, .int v6_bends, .ref a6_from, .ref a6_to, .ref a6_curve])), (a6_from, .inl (cI, 8, .inl f6_from)), (a6_to, .inl (cI, 8, .inl f6_to)), (a6_curve, .inl (cI, 8, .inl f6_curve)), (a4, .inr (4, [.ref a6, .ref a2, .ref a5, .int v4_begin, .int v4_end, .long v4_wireAtBegin, .long v4_wireAtEnd]))]) [0, 1, 2, 3, 5] rfl
  have hDc := hD.sub (ws' := [(a6, .inr (6, [.int v6_end, .int v6_bends, .ref a6_from, .ref a6_to, .ref a6_curve])), (a6_from, .inl (cI, 8, .inl f6_from)), (a6_to, .inl (cI, 8, .inl f6_to)), (a6_curve, .inl (cI, 8, .inl f6_curve)), (a4, .inr (4, [.ref a6, .ref a2, .ref a5, .int v4_begin, .int v4_end, .long v4_wireAtBegin, .long v4_wireAtEnd]))]) [0, 1, 2, 3, 5] (by decide) rfl
  have hFc := va_free (wc := [(a6, .inr (6, [.int v6_end, .int v6_bends, .ref a6_from, .ref a6_to, .ref a6_curve])), (a6_from, .inl (cI, 8, .inl f6_from)), (a6_to, .inl (cI, 8, .inl f6_to)), (a6_curve, .inl (cI, 8, .inl f6_curve)), (a4, .inr (4, [.ref a6, .ref a2, .ref a5, .int v4_begin, .int v4_end, .long v4_wireAtBegin, .long v4_wireAtEnd]))]) hD hS hA [0, 1, 2, 3, 5] rfl
  refine va_calll (va_runV (As := [.int p1]) (rest := [.int p1, .ref a4]) ⟨hx, hb, hml, hown, hts⟩ (c_X4_offUpper l dC dI cI cJ cZ a6 a6_from a6_to a6_curve a2 a5 a4 H.size v6_end v6_bends f6_from f6_to f6_curve v4_begin v4_end v4_wireAtBegin v4_wireAtEnd p1 _ hw) (cwV 1 hts gX4_keepsPlace_X4_offUpper rfl rfl rfl (by decide +kernel) ⟨Nat.le_of_ble_eq_true rfl, Nat.le_of_ble_eq_true rfl⟩) ⟨fun a U g mk q => by obtain ⟨q0, q1, qP, qK, qD⟩ := q; exact ⟨q0, q1, qP, va_K.moved (u := U) (U := U.calling g mk a) (Vm.Alike.refl U.vm) qK, qD⟩, va_recv hK hP (ci := 4) (q0 := 5) rfl rfl, fun U hU hW => ⟨rfl, by rw [hU], by rw [hU]; exact hPc, va_K.moved hW.alike hK, hDc.weaken (fun _ _ _ _ => trivial)⟩⟩ rfl rfl hl.1 rfl (lv_room (Nat.le_of_ble_eq_true rfl)) dX4_keepsPlace_4 ⟨(Nat.zero_le _), (Nat.zero_le _)⟩) hS (fun q _ h => hFc q h) hFc (fun r1 u t H1 locs ht hvm hw hB hz1 hk1 hS => ?_)
  obtain ⟨hP1, -, hD1⟩ := hB
  try dsimp only at hw
  rw [ht] at hP1
  obtain ⟨hP, hD⟩ := va_join (wr := [(a5, .inr (5, [.int v5_wind, .int v5_pull, .int v5_room, .int v5_reach]))]) (w1 := [(a6, .inr (6, [.int v6_end, .int v6_bends, .ref a6_from, .ref a6_to, .ref a6_curve])), (a6_from, .inl (cI, 8, .inl f6_from)), (a6_to, .inl (cI, 8, .inl f6_to)), (a6_curve, .inl (cI, 8, .inl f6_curve)), (a4, .inr (4, [.ref a6, .ref a2, .ref a5, .int v4_begin, .int v4_end, .long v4_wireAtBegin, .long v4_wireAtEnd]))]) hP hD [0, 1, 2, 3, 5] [4] rfl rfl (by decide) (by decide) hk1 hFc hP1 hD1
  generalize H1 = H at hP hS ⊢
  have hP : va_P (dC, dI) vwCl [(a5, .inr (5, [.int v5_wind, .int v5_pull, .int v5_room, .int v5_reach])), (a6, .inr (6, [.int v6_end, .int v6_bends, .ref a6_from, .ref a6_to, .ref a6_curve])), (a6_from, .inl (cI, 8, .inl f6_from)), (a6_to, .inl (cI, 8, .inl f6_to)), (a6_curve, .inl (cI, 8, .inl f6_curve)), (a4, .inr (4, [.ref a6, .ref a2, .ref a5, .int v4_begin, .int v4_end, .long v4_wireAtBegin, .long v4_wireAtEnd]))] H := hP
  have hD : va_D A [(a5, .inr (5, [.int v5_wind, .int v5_pull, .int v5_room, .int v5_reach])), (a6, .inr (6, [.int v6_end, .int v6_bends, .ref a6_from, .ref a6_to, .ref a6_curve])), (a6_from, .inl (cI, 8, .inl f6_from)), (a6_to, .inl (cI, 8, .inl f6_to)), (a6_curve, .inl (cI, 8, .inl f6_curve)), (a4, .inr (4, [.ref a6, .ref a2, .ref a5, .int v4_begin, .int v4_end, .long v4_wireAtBegin, .long v4_wireAtEnd]))] := hD
  refine va_mabs_long hx hb (hml.trans hl.1.symm) hown lk1 lk2 lk3 lk4 (Nat.le_of_ble_eq_true rfl) (Nat.le_of_ble_eq_true rfl) (Nat.le_of_ble_eq_true rfl) (Nat.le_of_ble_eq_true rfl) dX4_keepsPlace_7 ?_
  refine lv_topl (fun x2 ex2 => ?_)
  replace hw := hw x2 ex2
  have hPc := hP.sub (ws' := [(a5, .inr (5, [.int v5_wind, .int v5_pull, .int v5_room, .int v5_reach])), (a4, .inr (4, [.ref a6, .ref a2, .ref a5, .int v4_begin, .int v4_end, .long v4_wireAtBegin, .long v4_wireAtEnd]))]) [0, 5] rfl
  have hDc := hD.sub (ws' := [(a5, .inr (5, [.int v5_wind, .int v5_pull, .int v5_room, .int v5_reach])), (a4, .inr (4, [.ref a6, .ref a2, .ref a5, .int v4_begin, .int v4_end, .long v4_wireAtBegin, .long v4_wireAtEnd]))]) [0, 5] (by decide) rfl
  have hFc := va_free (wc := [(a5, .inr (5, [.int v5_wind, .int v5_pull, .int v5_room, .int v5_reach])), (a4, .inr (4, [.ref a6, .ref a2, .ref a5, .int v4_begin, .int v4_end, .long v4_wireAtBegin, .long v4_wireAtEnd]))]) hD hS hA [0, 5] rfl
  refine va_calll (va_runV (As := [.int p1, .long x2]) (rest := []) ⟨hx, hb, hml, hown, hts⟩ (c_X4_excess l dC dI cI cJ cZ a6 a2 a5 a4 H.size v5_wind v5_pull v5_room v5_reach v4_begin v4_end v4_wireAtBegin v4_wireAtEnd p1 x2 _ hw) (cwV 2 hts gX4_keepsPlace_X4_excess rfl rfl rfl (by decide +kernel) ⟨Nat.le_of_ble_eq_true rfl, Nat.le_of_ble_eq_true rfl⟩) ⟨fun a U g mk q => by obtain ⟨q0, q1, qP, qK, qD⟩ := q; exact ⟨q0, q1, qP, va_K.moved (u := U) (U := U.calling g mk a) (Vm.Alike.refl U.vm) qK, qD⟩, va_recv hK hP (ci := 4) (q0 := 5) rfl rfl, fun U hU hW => ⟨rfl, by rw [hU], by rw [hU]; exact hPc, va_K.moved hW.alike hK, hDc.weaken (fun _ _ _ _ => trivial)⟩⟩ rfl rfl hl.1 rfl (lv_room (Nat.le_of_ble_eq_true rfl)) dX4_keepsPlace_10 ⟨(Nat.zero_le _), (Nat.zero_le _)⟩) hS (fun q _ h => hFc q h) hFc (fun r3 u t H1 locs ht hvm hw hB hz1 hk1 hS => ?_)
  obtain ⟨hP1, -, hD1⟩ := hB
  try dsimp only at hw
  rw [ht] at hP1
  obtain ⟨hP, hD⟩ := va_join (wr := [(a6, .inr (6, [.int v6_end, .int v6_bends, .ref a6_from, .ref a6_to, .ref a6_curve])), (a6_from, .inl (cI, 8, .inl f6_from)), (a6_to, .inl (cI, 8, .inl f6_to)), (a6_curve, .inl (cI, 8, .inl f6_curve))]) (w1 := [(a5, .inr (5, [.int v5_wind, .int v5_pull, .int v5_room, .int v5_reach])), (a4, .inr (4, [.ref a6, .ref a2, .ref a5, .int v4_begin, .int v4_end, .long v4_wireAtBegin, .long v4_wireAtEnd]))]) hP hD [0, 5] [1, 2, 3, 4] rfl rfl (by decide) (by decide) hk1 hFc hP1 hD1
  generalize H1 = H at hP hS ⊢
  have hP : va_P (dC, dI) vwCl [(a6, .inr (6, [.int v6_end, .int v6_bends, .ref a6_from, .ref a6_to, .ref a6_curve])), (a6_from, .inl (cI, 8, .inl f6_from)), (a6_to, .inl (cI, 8, .inl f6_to)), (a6_curve, .inl (cI, 8, .inl f6_curve)), (a5, .inr (5, [.int v5_wind, .int v5_pull, .int v5_room, .int v5_reach])), (a4, .inr (4, [.ref a6, .ref a2, .ref a5, .int v4_begin, .int v4_end, .long v4_wireAtBegin, .long v4_wireAtEnd]))] H := hP
  have hD : va_D A [(a6, .inr (6, [.int v6_end, .int v6_bends, .ref a6_from, .ref a6_to, .ref a6_curve])), (a6_from, .inl (cI, 8, .inl f6_from)), (a6_to, .inl (cI, 8, .inl f6_to)), (a6_curve, .inl (cI, 8, .inl f6_curve)), (a5, .inr (5, [.int v5_wind, .int v5_pull, .int v5_room, .int v5_reach])), (a4, .inr (4, [.ref a6, .ref a2, .ref a5, .int v4_begin, .int v4_end, .long v4_wireAtBegin, .long v4_wireAtEnd]))] := hD
  refine lv_lconst (v := (0 : Int64)) hx hb dX4_keepsPlace_13 (by decide) ?_
  refine W.lcmp hx hb dX4_keepsPlace_14 ?_
  refine lv_if_gt (tgt := 22) hx hb dX4_keepsPlace_15 (by decide) (fun c4 => ?_) (fun c4 => ?_)
  · replace hw := hw.1 ((lg_cmp_gt _ _).mp c4)
    refine lv_iconst (v := (0 : Int32)) hx hb dX4_keepsPlace_22 (by decide) ?_
    have hP9 := hP.sub (ws' := [(a6, .inr (6, [.int v6_end, .int v6_bends, .ref a6_from, .ref a6_to, .ref a6_curve])), (a6_from, .inl (cI, 8, .inl f6_from)), (a6_to, .inl (cI, 8, .inl f6_to)), (a6_curve, .inl (cI, 8, .inl f6_curve)), (a5, .inr (5, [.int v5_wind, .int v5_pull, .int v5_room, .int v5_reach])), (a4, .inr (4, [.ref a6, .ref a2, .ref a5, .int v4_begin, .int v4_end, .long v4_wireAtBegin, .long v4_wireAtEnd]))]) [0, 1, 2, 3, 4, 5] rfl
    have hD9 := hD.sub (ws' := [(a6, .inr (6, [.int v6_end, .int v6_bends, .ref a6_from, .ref a6_to, .ref a6_curve])), (a6_from, .inl (cI, 8, .inl f6_from)), (a6_to, .inl (cI, 8, .inl f6_to)), (a6_curve, .inl (cI, 8, .inl f6_curve)), (a5, .inr (5, [.int v5_wind, .int v5_pull, .int v5_room, .int v5_reach])), (a4, .inr (4, [.ref a6, .ref a2, .ref a5, .int v4_begin, .int v4_end, .long v4_wireAtBegin, .long v4_wireAtEnd]))]) [0, 1, 2, 3, 4, 5] (by decide) rfl
    obtain ⟨h5, hw⟩ := hw
    exact W.zret (v := (0 : Int32)) hx hb hr (wg_bool h5) (fun t ht hW => ⟨⟨(0 : Int32), (), rfl, hw, by rw [ht]; exact hP9, va_K.moved hW.alike hK, hD9⟩, hS.F ht⟩) hS.2.2 dX4_keepsPlace_23
  · replace hw := hw.2 (fun z => c4 ((lg_cmp_gt _ _).mpr z))
    refine lv_iconst (v := (1 : Int32)) hx hb dX4_keepsPlace_18 (by decide) ?_
    refine lv_goto (tgt := 23) hx hb dX4_keepsPlace_19 (by decide) ?_
    have hP9 := hP.sub (ws' := [(a6, .inr (6, [.int v6_end, .int v6_bends, .ref a6_from, .ref a6_to, .ref a6_curve])), (a6_from, .inl (cI, 8, .inl f6_from)), (a6_to, .inl (cI, 8, .inl f6_to)), (a6_curve, .inl (cI, 8, .inl f6_curve)), (a5, .inr (5, [.int v5_wind, .int v5_pull, .int v5_room, .int v5_reach])), (a4, .inr (4, [.ref a6, .ref a2, .ref a5, .int v4_begin, .int v4_end, .long v4_wireAtBegin, .long v4_wireAtEnd]))]) [0, 1, 2, 3, 4, 5] rfl
    have hD9 := hD.sub (ws' := [(a6, .inr (6, [.int v6_end, .int v6_bends, .ref a6_from, .ref a6_to, .ref a6_curve])), (a6_from, .inl (cI, 8, .inl f6_from)), (a6_to, .inl (cI, 8, .inl f6_to)), (a6_curve, .inl (cI, 8, .inl f6_curve)), (a5, .inr (5, [.int v5_wind, .int v5_pull, .int v5_room, .int v5_reach])), (a4, .inr (4, [.ref a6, .ref a2, .ref a5, .int v4_begin, .int v4_end, .long v4_wireAtBegin, .long v4_wireAtEnd]))]) [0, 1, 2, 3, 4, 5] (by decide) rfl
    obtain ⟨h6, hw⟩ := hw
    exact W.zret (v := (1 : Int32)) hx hb hr (wg_bool h6) (fun t ht hW => ⟨⟨(1 : Int32), (), rfl, hw, by rw [ht]; exact hP9, va_K.moved hW.alike hK, hD9⟩, hS.F ht⟩) hS.2.2 dX4_keepsPlace_23

theorem inX4_keepsTop_X4 : ∀ w ∈ wsX40, w ∈ wsX4_keepsTop := fun _ h => List.mem_cons_of_mem _ (List.mem_append_left _ (List.mem_append_left _ (List.mem_append_right _ h)))
theorem inX4_keepsTop_X5 : ∀ w ∈ wsX50, w ∈ wsX4_keepsTop := fun _ h => List.mem_cons_of_mem _ (List.mem_append_left _ (List.mem_append_right _ h))
theorem inX4_keepsTop_X6 : ∀ w ∈ wsX60, w ∈ wsX4_keepsTop := fun _ h => List.mem_cons_of_mem _ (List.mem_append_right _ h)
def wp_X4_keepsTop (Q : Int32 → Prop) (v6_bends : Int32) (f6_from : Nat → Int32) (f6_to : Nat → Int32) (f6_curve : Nat → Int32) (v5_wind : Int32) (v5_pull : Int32) (v5_room : Int32) (v4_begin : Int32) (v4_end : Int32) (v4_wireAtBegin : Int64) (v4_wireAtEnd : Int64) (p1 : Int32) (p2 : Int32) (p3 : Int32) (p4 : Int32) : Prop :=
  (∀ x1 : Int64, x1 = (((2 : Int64) * (v4_end - v4_begin).toInt64) * (((p4 * p3) * v5_pull) + v5_wind).toInt64) → ((x1 ≤ (0 : Int64) → (((1 : Int32) = 0 ∨ (1 : Int32) = 1) ∧ Q (1 : Int32) )) ∧ (¬ x1 ≤ (0 : Int64) → (((2 : Int32) ≤ (p2 - p1) → (wp_X4_offUpper (fun r5 => (wp_X4_excess (fun r6 => (wp_X4_offUpper (fun r7 => (wp_X4_excess (fun r8 => (∀ x9 : Int64, x9 = (r6 - r8) → (((0 : Int64) < x9 → ((¬ x1 = 0) ∧ (∀ x12 : Int64, x12 = (((x9 + x1) - (1 : Int64)) / x1) → ((x12 < (p2 - p1).toInt64 → (∀ x14 : Int32, x14 = (p1 + x12.toInt32) → (wp_X4_offUpper (fun r15 => (wp_X4_excess (fun r16 => (((0 : Int64) < r16 → (((0 : Int32) = 0 ∨ (0 : Int32) = 1) ∧ Q (0 : Int32) )) ∧ (¬ (0 : Int64) < r16 → (((1 : Int32) = 0 ∨ (1 : Int32) = 1) ∧ Q (1 : Int32) )))) v5_wind v5_pull v5_room v4_begin v4_end x14 (p4.toInt64 * r15))) v6_bends f6_from f6_to f6_curve v4_begin v4_end v4_wireAtBegin v4_wireAtEnd x14))) ∧ (¬ x12 < (p2 - p1).toInt64 → (((1 : Int32) = 0 ∨ (1 : Int32) = 1) ∧ Q (1 : Int32) )))))) ∧ (¬ (0 : Int64) < x9 → (((1 : Int32) = 0 ∨ (1 : Int32) = 1) ∧ Q (1 : Int32) ))))) v5_wind v5_pull v5_room v4_begin v4_end p1 (p4.toInt64 * r7))) v6_bends f6_from f6_to f6_curve v4_begin v4_end v4_wireAtBegin v4_wireAtEnd p1)) v5_wind v5_pull v5_room v4_begin v4_end (p1 + (1 : Int32)) (p4.toInt64 * r5))) v6_bends f6_from f6_to f6_curve v4_begin v4_end v4_wireAtBegin v4_wireAtEnd (p1 + (1 : Int32)))) ∧ (¬ (2 : Int32) ≤ (p2 - p1) → (((1 : Int32) = 0 ∨ (1 : Int32) = 1) ∧ Q (1 : Int32) ))))))
set_option maxHeartbeats 4000000 in
set_option maxRecDepth 100000 in
theorem c_X4_keepsTop (l : Launch) (dC : Nat → ClassId) (dI : Nat → Nat → Nat) (cI cJ cZ : ClassId) (a6 : Nat) (a6_from : Nat) (a6_to : Nat) (a6_curve : Nat) (a2 : Nat) (a5 : Nat) (a4 : Nat) (sz : Nat) (v6_end : Int32) (v6_bends : Int32) (f6_from : Nat → Int32) (f6_to : Nat → Int32) (f6_curve : Nat → Int32) (v5_wind : Int32) (v5_pull : Int32) (v5_room : Int32) (v5_reach : Int32) (v4_begin : Int32) (v4_end : Int32) (v4_wireAtBegin : Int64) (v4_wireAtEnd : Int64) (p1 : Int32) (p2 : Int32) (p3 : Int32) (p4 : Int32) (Q : Int32 → Prop) (hw : wp_X4_keepsTop Q v6_bends f6_from f6_to f6_curve v5_wind v5_pull v5_room v4_begin v4_end v4_wireAtBegin v4_wireAtEnd p1 p2 p3 p4) : Met l yX4_keepsTop wsX4_keepsTop ({ frames := 2, cells := 0, slots := 0, locals := 49 } : Room) (va_Pc [.ref a4, .int p1, .int p2, .int p3, .int p4] (fun U => U.heap.size = sz ∧ va_P (dC, dI) vwCl [(a6, .inr (6, [.int v6_end, .int v6_bends, .ref a6_from, .ref a6_to, .ref a6_curve])), (a6_from, .inl (cI, 8, .inl f6_from)), (a6_to, .inl (cI, 8, .inl f6_to)), (a6_curve, .inl (cI, 8, .inl f6_curve)), (a5, .inr (5, [.int v5_wind, .int v5_pull, .int v5_room, .int v5_reach])), (a4, .inr (4, [.ref a6, .ref a2, .ref a5, .int v4_begin, .int v4_end, .long v4_wireAtBegin, .long v4_wireAtEnd]))] U.heap ∧ va_K (dC, dI) vwCl [(cI, .int), (cJ, .long), (cZ, .boolean)] U ∧ va_D (fun _ => True) [(a6, .inr (6, [.int v6_end, .int v6_bends, .ref a6_from, .ref a6_to, .ref a6_curve])), (a6_from, .inl (cI, 8, .inl f6_from)), (a6_to, .inl (cI, 8, .inl f6_to)), (a6_curve, .inl (cI, 8, .inl f6_curve)), (a5, .inr (5, [.int v5_wind, .int v5_pull, .int v5_room, .int v5_reach])), (a4, .inr (4, [.ref a6, .ref a2, .ref a5, .int v4_begin, .int v4_end, .long v4_wireAtBegin, .long v4_wireAtEnd]))])) (va_Qi (fun r (u : Unit) => Q r) (fun (u : Unit) t => va_P (dC, dI) vwCl [(a6, .inr (6, [.int v6_end, .int v6_bends, .ref a6_from, .ref a6_to, .ref a6_curve])), (a6_from, .inl (cI, 8, .inl f6_from)), (a6_to, .inl (cI, 8, .inl f6_to)), (a6_curve, .inl (cI, 8, .inl f6_curve)), (a5, .inr (5, [.int v5_wind, .int v5_pull, .int v5_room, .int v5_reach])), (a4, .inr (4, [.ref a6, .ref a2, .ref a5, .int v4_begin, .int v4_end, .long v4_wireAtBegin, .long v4_wireAtEnd]))] t.heap ∧ va_K (dC, dI) vwCl [(cI, .int), (cJ, .long), (cZ, .boolean)] t ∧ va_D (va_A [(a6, .inr (6, [.int v6_end, .int v6_bends, .ref a6_from, .ref a6_to, .ref a6_curve])), (a6_from, .inl (cI, 8, .inl f6_from)), (a6_to, .inl (cI, 8, .inl f6_to)), (a6_curve, .inl (cI, 8, .inl f6_curve)), (a5, .inr (5, [.int v5_wind, .int v5_pull, .int v5_room, .int v5_reach])), (a4, .inr (4, [.ref a6, .ref a2, .ref a5, .int v4_begin, .int v4_end, .long v4_wireAtBegin, .long v4_wireAtEnd]))] sz) [(a6, .inr (6, [.int v6_end, .int v6_bends, .ref a6_from, .ref a6_to, .ref a6_curve])), (a6_from, .inl (cI, 8, .inl f6_from)), (a6_to, .inl (cI, 8, .inl f6_to)), (a6_curve, .inl (cI, 8, .inl f6_curve)), (a5, .inr (5, [.int v5_wind, .int v5_pull, .int v5_room, .int v5_reach])), (a4, .inr (4, [.ref a6, .ref a2, .ref a5, .int v4_begin, .int v4_end, .long v4_wireAtBegin, .long v4_wireAtEnd]))]) (va_A [(a6, .inr (6, [.int v6_end, .int v6_bends, .ref a6_from, .ref a6_to, .ref a6_curve])), (a6_from, .inl (cI, 8, .inl f6_from)), (a6_to, .inl (cI, 8, .inl f6_to)), (a6_curve, .inl (cI, 8, .inl f6_curve)), (a5, .inr (5, [.int v5_wind, .int v5_pull, .int v5_room, .int v5_reach])), (a4, .inr (4, [.ref a6, .ref a2, .ref a5, .int v4_begin, .int v4_end, .long v4_wireAtBegin, .long v4_wireAtEnd]))] sz)) 0 0 (va_A [(a6, .inr (6, [.int v6_end, .int v6_bends, .ref a6_from, .ref a6_to, .ref a6_curve])), (a6_from, .inl (cI, 8, .inl f6_from)), (a6_to, .inl (cI, 8, .inl f6_to)), (a6_curve, .inl (cI, 8, .inl f6_curve)), (a5, .inr (5, [.int v5_wind, .int v5_pull, .int v5_room, .int v5_reach])), (a4, .inr (4, [.ref a6, .ref a2, .ref a5, .int v4_begin, .int v4_end, .long v4_wireAtBegin, .long v4_wireAtEnd]))] sz) := by
  refine Met.ofW (cc := cX4_keepsTop) (maxL := 12) (ret := (some .boolean)) (by decide) rfl ?_
  intro p e s m args below meth c s₁ B hml hv
  obtain ⟨rfl, hsz, hP, hK, hD0⟩ := hv
  have hx := B.exec
  have hb := B.bytes
  have hr := B.returns
  have hts := atoms_spec (ws := wsX4_keepsTop) B.pre
  have hown : s.vm.findClass RX4 = some m.cls := findClass_of_methodNamed B.named
  have hlocks := B.notSynchronized
  subst hsz
  have hD := hD0.self (sz := s.heap.size)
  generalize hAe : va_A [(a6, .inr (6, [.int v6_end, .int v6_bends, .ref a6_from, .ref a6_to, .ref a6_curve])), (a6_from, .inl (cI, 8, .inl f6_from)), (a6_to, .inl (cI, 8, .inl f6_to)), (a6_curve, .inl (cI, 8, .inl f6_curve)), (a5, .inr (5, [.int v5_wind, .int v5_pull, .int v5_room, .int v5_reach])), (a4, .inr (4, [.ref a6, .ref a2, .ref a5, .int v4_begin, .int v4_end, .long v4_wireAtBegin, .long v4_wireAtEnd]))] s.heap.size = A at hD ⊢
  have hA : ∀ q : Nat, s.heap.size ≤ q → A q := fun q h => by rw [← hAe]; exact Or.inr h
  have hS : va_S A s.heap s.heap [] := va_S.rf
  have hP : va_P (dC, dI) vwCl [(a6, .inr (6, [.int v6_end, .int v6_bends, .ref a6_from, .ref a6_to, .ref a6_curve])), (a6_from, .inl (cI, 8, .inl f6_from)), (a6_to, .inl (cI, 8, .inl f6_to)), (a6_curve, .inl (cI, 8, .inl f6_curve)), (a5, .inr (5, [.int v5_wind, .int v5_pull, .int v5_room, .int v5_reach])), (a4, .inr (4, [.ref a6, .ref a2, .ref a5, .int v4_begin, .int v4_end, .long v4_wireAtBegin, .long v4_wireAtEnd]))] s.heap := hP
  have lk1 := hts (.constantLong RX4 104 (2)) (by decide +kernel)
  have lk2 := hts (.fieldLink RX4 33 "WireRow$Span" "end" "I") (by decide +kernel)
  have lk3 := hts (.fieldLink RX4 29 "WireRow$Span" "begin" "I") (by decide +kernel)
  have lk4 := hts (.fieldLink RX4 19 "WireRow$Span" "sweep" "LWireRow$Sweep;") (by decide +kernel)
  have lk5 := hts (.fieldLink RX4 61 "WireRow$Sweep" "pull" "I") (by decide +kernel)
  have lk6 := hts (.fieldLink RX4 53 "WireRow$Sweep" "wind" "I") (by decide +kernel)
  have hl := lv_entry ([.ref a4, .int p1, .int p2, .int p3, .int p4]) (n := 12) (Nat.le_of_ble_eq_true rfl)
  rw [lg_entry_eq]
  generalize (lg_sl ([.ref a4, .int p1, .int p2, .int p3, .int p4]) ++ List.replicate (12 - (lg_sl ([.ref a4, .int p1, .int p2, .int p3, .int p4])).length) Slot.unset).toArray = ls at hl ⊢
  have hl : lv_has ls 12 [(0, .ref a4), (1, .int p1), (2, .int p2), (3, .int p3), (4, .int p4)] := hl
  obtain ⟨H, hHe⟩ : ∃ H, H = s.heap := ⟨_, rfl⟩
  rw [← hHe] at hP
  have hS : va_S A s.heap H [] := by rw [hHe]; exact hS
  rw [← hHe]
  unfold wp_X4_keepsTop at hw
  refine lv_ldc2 (v := (2 : Int64)) hx hb hown lk1 dX4_keepsTop_0 ?_
  refine lv_aload_n hx hb dX4_keepsTop_3 rfl (lv_at hl 0 rfl) ?_
  refine va_get (D := (dC, dI)) (ci := 4) (v := .int v4_end) (C := RX4) (T := TX4) (N := 7) hx hb hts inX4_keepsTop_X4 hown hK hP 5 rfl rfl 4 (by decide) lk2 (fun _ h9 => h9) rfl dX4_keepsTop_4 ?_
  refine lv_aload_n hx hb dX4_keepsTop_7 rfl (lv_at hl 0 rfl) ?_
  refine va_get (D := (dC, dI)) (ci := 4) (v := .int v4_begin) (C := RX4) (T := TX4) (N := 7) hx hb hts inX4_keepsTop_X4 hown hK hP 5 rfl rfl 3 (by decide) lk3 (fun _ h9 => h9) rfl dX4_keepsTop_8 ?_
  refine lv_isub hx hb dX4_keepsTop_11 ?_
  refine lv_i2l (v := (v4_end - v4_begin).toInt64) hx hb dX4_keepsTop_12 rfl ?_
  refine lv_lmul hx hb dX4_keepsTop_13 ?_
  refine lv_iload hx hb dX4_keepsTop_14 (lv_at hl 4 rfl) ?_
  refine lv_iload_n hx hb dX4_keepsTop_16 rfl (lv_at hl 3 rfl) ?_
  refine lv_imul hx hb dX4_keepsTop_17 ?_
  refine lv_aload_n hx hb dX4_keepsTop_18 rfl (lv_at hl 0 rfl) ?_
  refine va_get (D := (dC, dI)) (ci := 4) (v := .ref a5) (C := RX4) (T := TX4) (N := 7) hx hb hts inX4_keepsTop_X4 hown hK hP 5 rfl rfl 2 (by decide) lk4 (fun _ h9 => h9) rfl dX4_keepsTop_19 ?_
  refine va_get (D := (dC, dI)) (ci := 5) (v := .int v5_pull) (C := RX5) (T := TX5) (N := 4) hx hb hts inX4_keepsTop_X5 hown hK hP 4 rfl rfl 1 (by decide) lk5 (fun _ h9 => h9) rfl dX4_keepsTop_22 ?_
  refine lv_imul hx hb dX4_keepsTop_25 ?_
  refine lv_aload_n hx hb dX4_keepsTop_26 rfl (lv_at hl 0 rfl) ?_
  refine va_get (D := (dC, dI)) (ci := 4) (v := .ref a5) (C := RX4) (T := TX4) (N := 7) hx hb hts inX4_keepsTop_X4 hown hK hP 5 rfl rfl 2 (by decide) lk4 (fun _ h9 => h9) rfl dX4_keepsTop_27 ?_
  refine va_get (D := (dC, dI)) (ci := 5) (v := .int v5_wind) (C := RX5) (T := TX5) (N := 4) hx hb hts inX4_keepsTop_X5 hown hK hP 4 rfl rfl 0 (by decide) lk6 (fun _ h9 => h9) rfl dX4_keepsTop_30 ?_
  refine lv_iadd hx hb dX4_keepsTop_33 ?_
  refine lv_i2l (v := (((p4 * p3) * v5_pull) + v5_wind).toInt64) hx hb dX4_keepsTop_34 rfl ?_
  refine lv_lmul hx hb dX4_keepsTop_35 ?_
  refine lv_topl (fun x1 ex1 => ?_)
  replace hw := hw x1 ex1
  refine lv_lstore (lv' := [(5, .long x1), (0, .ref a4), (1, .int p1), (2, .int p2), (3, .int p3), (4, .int p4)]) hx hb dX4_keepsTop_36 hl (by decide) rfl (fun ls hl => ?_)
  refine lv_lload hx hb dX4_keepsTop_38 (lv_at hl 0 rfl) ?_
  refine lv_lconst (v := (0 : Int64)) hx hb dX4_keepsTop_40 (by decide) ?_
  refine W.lcmp hx hb dX4_keepsTop_41 ?_
  refine lv_if_le (tgt := 52) hx hb dX4_keepsTop_42 (by decide) (fun c2 => ?_) (fun c2 => ?_)
  · replace hw := hw.1 ((lg_cmp_le _ _).mp c2)
    refine lv_iconst (v := (1 : Int32)) hx hb dX4_keepsTop_52 (by decide) ?_
    have hP9 := hP.sub (ws' := [(a6, .inr (6, [.int v6_end, .int v6_bends, .ref a6_from, .ref a6_to, .ref a6_curve])), (a6_from, .inl (cI, 8, .inl f6_from)), (a6_to, .inl (cI, 8, .inl f6_to)), (a6_curve, .inl (cI, 8, .inl f6_curve)), (a5, .inr (5, [.int v5_wind, .int v5_pull, .int v5_room, .int v5_reach])), (a4, .inr (4, [.ref a6, .ref a2, .ref a5, .int v4_begin, .int v4_end, .long v4_wireAtBegin, .long v4_wireAtEnd]))]) [0, 1, 2, 3, 4, 5] rfl
    have hD9 := hD.sub (ws' := [(a6, .inr (6, [.int v6_end, .int v6_bends, .ref a6_from, .ref a6_to, .ref a6_curve])), (a6_from, .inl (cI, 8, .inl f6_from)), (a6_to, .inl (cI, 8, .inl f6_to)), (a6_curve, .inl (cI, 8, .inl f6_curve)), (a5, .inr (5, [.int v5_wind, .int v5_pull, .int v5_room, .int v5_reach])), (a4, .inr (4, [.ref a6, .ref a2, .ref a5, .int v4_begin, .int v4_end, .long v4_wireAtBegin, .long v4_wireAtEnd]))]) [0, 1, 2, 3, 4, 5] (by decide) rfl
    obtain ⟨h3, hw⟩ := hw
    exact W.zret (v := (1 : Int32)) hx hb hr (wg_bool h3) (fun t ht hW => ⟨⟨(1 : Int32), (), rfl, hw, by rw [ht]; exact hP9, va_K.moved hW.alike hK, hD9⟩, hS.F ht⟩) hS.2.2 dX4_keepsTop_53
  · replace hw := hw.2 (fun z => c2 ((lg_cmp_le _ _).mpr z))
    refine lv_iload_n hx hb dX4_keepsTop_45 rfl (lv_at hl 3 rfl) ?_
    refine lv_iload_n hx hb dX4_keepsTop_46 rfl (lv_at hl 2 rfl) ?_
    refine lv_isub hx hb dX4_keepsTop_47 ?_
    refine lv_iconst (v := (2 : Int32)) hx hb dX4_keepsTop_48 (by decide) ?_
    refine lv_icmp_ge (tgt := 54) hx hb dX4_keepsTop_49 (by decide) (fun c4 => ?_) (fun c4 => ?_)
    · replace hw := hw.1 (c4)
      refine lv_aload_n hx hb dX4_keepsTop_54 rfl (lv_at hl 1 rfl) ?_
      refine lv_iload_n hx hb dX4_keepsTop_55 rfl (lv_at hl 2 rfl) ?_
      refine lv_iconst (v := (1 : Int32)) hx hb dX4_keepsTop_56 (by decide) ?_
      refine lv_iadd hx hb dX4_keepsTop_57 ?_
      refine lv_iload hx hb dX4_keepsTop_58 (lv_at hl 5 rfl) ?_
      refine lv_i2l (v := p4.toInt64) hx hb dX4_keepsTop_60 rfl ?_
      refine lv_aload_n hx hb dX4_keepsTop_61 rfl (lv_at hl 1 rfl) ?_
      refine lv_iload_n hx hb dX4_keepsTop_62 rfl (lv_at hl 2 rfl) ?_
      refine lv_iconst (v := (1 : Int32)) hx hb dX4_keepsTop_63 (by decide) ?_
      refine lv_iadd hx hb dX4_keepsTop_64 ?_
      have hPc := hP.sub (ws' := [(a6, .inr (6, [.int v6_end, .int v6_bends, .ref a6_from, .ref a6_to, .ref a6_curve])), (a6_from, .inl (cI, 8, .inl f6_from)), (a6_to, .inl (cI, 8, .inl f6_to)), (a6_curve, .inl (cI, 8, .inl f6_curve)), (a4, .inr (4, [.ref a6, .ref a2, .ref a5, .int v4_begin, .int v4_end, .long v4_wireAtBegin, .long v4_wireAtEnd]))]) [0, 1, 2, 3, 5] rfl
      have hDc := hD.sub (ws' := [(a6, .inr (6, [.int v6_end, .int v6_bends, .ref a6_from, .ref a6_to, .ref a6_curve])), (a6_from, .inl (cI, 8, .inl f6_from)), (a6_to, .inl (cI, 8, .inl f6_to)), (a6_curve, .inl (cI, 8, .inl f6_curve)), (a4, .inr (4, [.ref a6, .ref a2, .ref a5, .int v4_begin, .int v4_end, .long v4_wireAtBegin, .long v4_wireAtEnd]))]) [0, 1, 2, 3, 5] (by decide) rfl
      have hFc := va_free (wc := [(a6, .inr (6, [.int v6_end, .int v6_bends, .ref a6_from, .ref a6_to, .ref a6_curve])), (a6_from, .inl (cI, 8, .inl f6_from)), (a6_to, .inl (cI, 8, .inl f6_to)), (a6_curve, .inl (cI, 8, .inl f6_curve)), (a4, .inr (4, [.ref a6, .ref a2, .ref a5, .int v4_begin, .int v4_end, .long v4_wireAtBegin, .long v4_wireAtEnd]))]) hD hS hA [0, 1, 2, 3, 5] rfl
      refine va_calll (va_runV (As := [.int (p1 + (1 : Int32))]) (rest := [.long p4.toInt64, .int (p1 + (1 : Int32)), .ref a4]) ⟨hx, hb, hml, hown, hts⟩ (c_X4_offUpper l dC dI cI cJ cZ a6 a6_from a6_to a6_curve a2 a5 a4 H.size v6_end v6_bends f6_from f6_to f6_curve v4_begin v4_end v4_wireAtBegin v4_wireAtEnd (p1 + (1 : Int32)) _ hw) (cwV 1 hts gX4_keepsTop_X4_offUpper rfl rfl rfl (by decide +kernel) ⟨Nat.le_of_ble_eq_true rfl, Nat.le_of_ble_eq_true rfl⟩) ⟨fun a U g mk q => by obtain ⟨q0, q1, qP, qK, qD⟩ := q; exact ⟨q0, q1, qP, va_K.moved (u := U) (U := U.calling g mk a) (Vm.Alike.refl U.vm) qK, qD⟩, va_recv hK hP (ci := 4) (q0 := 5) rfl rfl, fun U hU hW => ⟨rfl, by rw [hU], by rw [hU]; exact hPc, va_K.moved hW.alike hK, hDc.weaken (fun _ _ _ _ => trivial)⟩⟩ rfl rfl hl.1 rfl (lv_room (Nat.le_of_ble_eq_true rfl)) dX4_keepsTop_65 ⟨(Nat.zero_le _), (Nat.zero_le _)⟩) hS (fun q _ h => hFc q h) hFc (fun r5 u t H1 locs ht hvm hw hB hz1 hk1 hS => ?_)
      obtain ⟨hP1, -, hD1⟩ := hB
      try dsimp only at hw
      rw [ht] at hP1
      obtain ⟨hP, hD⟩ := va_join (wr := [(a5, .inr (5, [.int v5_wind, .int v5_pull, .int v5_room, .int v5_reach]))]) (w1 := [(a6, .inr (6, [.int v6_end, .int v6_bends, .ref a6_from, .ref a6_to, .ref a6_curve])), (a6_from, .inl (cI, 8, .inl f6_from)), (a6_to, .inl (cI, 8, .inl f6_to)), (a6_curve, .inl (cI, 8, .inl f6_curve)), (a4, .inr (4, [.ref a6, .ref a2, .ref a5, .int v4_begin, .int v4_end, .long v4_wireAtBegin, .long v4_wireAtEnd]))]) hP hD [0, 1, 2, 3, 5] [4] rfl rfl (by decide) (by decide) hk1 hFc hP1 hD1
      generalize H1 = H at hP hS ⊢
      have hP : va_P (dC, dI) vwCl [(a5, .inr (5, [.int v5_wind, .int v5_pull, .int v5_room, .int v5_reach])), (a6, .inr (6, [.int v6_end, .int v6_bends, .ref a6_from, .ref a6_to, .ref a6_curve])), (a6_from, .inl (cI, 8, .inl f6_from)), (a6_to, .inl (cI, 8, .inl f6_to)), (a6_curve, .inl (cI, 8, .inl f6_curve)), (a4, .inr (4, [.ref a6, .ref a2, .ref a5, .int v4_begin, .int v4_end, .long v4_wireAtBegin, .long v4_wireAtEnd]))] H := hP
      have hD : va_D A [(a5, .inr (5, [.int v5_wind, .int v5_pull, .int v5_room, .int v5_reach])), (a6, .inr (6, [.int v6_end, .int v6_bends, .ref a6_from, .ref a6_to, .ref a6_curve])), (a6_from, .inl (cI, 8, .inl f6_from)), (a6_to, .inl (cI, 8, .inl f6_to)), (a6_curve, .inl (cI, 8, .inl f6_curve)), (a4, .inr (4, [.ref a6, .ref a2, .ref a5, .int v4_begin, .int v4_end, .long v4_wireAtBegin, .long v4_wireAtEnd]))] := hD
      refine lv_lmul hx hb dX4_keepsTop_68 ?_
      have hPc := hP.sub (ws' := [(a5, .inr (5, [.int v5_wind, .int v5_pull, .int v5_room, .int v5_reach])), (a4, .inr (4, [.ref a6, .ref a2, .ref a5, .int v4_begin, .int v4_end, .long v4_wireAtBegin, .long v4_wireAtEnd]))]) [0, 5] rfl
      have hDc := hD.sub (ws' := [(a5, .inr (5, [.int v5_wind, .int v5_pull, .int v5_room, .int v5_reach])), (a4, .inr (4, [.ref a6, .ref a2, .ref a5, .int v4_begin, .int v4_end, .long v4_wireAtBegin, .long v4_wireAtEnd]))]) [0, 5] (by decide) rfl
      have hFc := va_free (wc := [(a5, .inr (5, [.int v5_wind, .int v5_pull, .int v5_room, .int v5_reach])), (a4, .inr (4, [.ref a6, .ref a2, .ref a5, .int v4_begin, .int v4_end, .long v4_wireAtBegin, .long v4_wireAtEnd]))]) hD hS hA [0, 5] rfl
      refine va_calll (va_runV (As := [.int (p1 + (1 : Int32)), .long (p4.toInt64 * r5)]) (rest := []) ⟨hx, hb, hml, hown, hts⟩ (c_X4_excess l dC dI cI cJ cZ a6 a2 a5 a4 H.size v5_wind v5_pull v5_room v5_reach v4_begin v4_end v4_wireAtBegin v4_wireAtEnd (p1 + (1 : Int32)) (p4.toInt64 * r5) _ hw) (cwV 2 hts gX4_keepsTop_X4_excess rfl rfl rfl (by decide +kernel) ⟨Nat.le_of_ble_eq_true rfl, Nat.le_of_ble_eq_true rfl⟩) ⟨fun a U g mk q => by obtain ⟨q0, q1, qP, qK, qD⟩ := q; exact ⟨q0, q1, qP, va_K.moved (u := U) (U := U.calling g mk a) (Vm.Alike.refl U.vm) qK, qD⟩, va_recv hK hP (ci := 4) (q0 := 5) rfl rfl, fun U hU hW => ⟨rfl, by rw [hU], by rw [hU]; exact hPc, va_K.moved hW.alike hK, hDc.weaken (fun _ _ _ _ => trivial)⟩⟩ rfl rfl hl.1 rfl (lv_room (Nat.le_of_ble_eq_true rfl)) dX4_keepsTop_69 ⟨(Nat.zero_le _), (Nat.zero_le _)⟩) hS (fun q _ h => hFc q h) hFc (fun r6 u t H1 locs ht hvm hw hB hz1 hk1 hS => ?_)
      obtain ⟨hP1, -, hD1⟩ := hB
      try dsimp only at hw
      rw [ht] at hP1
      obtain ⟨hP, hD⟩ := va_join (wr := [(a6, .inr (6, [.int v6_end, .int v6_bends, .ref a6_from, .ref a6_to, .ref a6_curve])), (a6_from, .inl (cI, 8, .inl f6_from)), (a6_to, .inl (cI, 8, .inl f6_to)), (a6_curve, .inl (cI, 8, .inl f6_curve))]) (w1 := [(a5, .inr (5, [.int v5_wind, .int v5_pull, .int v5_room, .int v5_reach])), (a4, .inr (4, [.ref a6, .ref a2, .ref a5, .int v4_begin, .int v4_end, .long v4_wireAtBegin, .long v4_wireAtEnd]))]) hP hD [0, 5] [1, 2, 3, 4] rfl rfl (by decide) (by decide) hk1 hFc hP1 hD1
      generalize H1 = H at hP hS ⊢
      have hP : va_P (dC, dI) vwCl [(a6, .inr (6, [.int v6_end, .int v6_bends, .ref a6_from, .ref a6_to, .ref a6_curve])), (a6_from, .inl (cI, 8, .inl f6_from)), (a6_to, .inl (cI, 8, .inl f6_to)), (a6_curve, .inl (cI, 8, .inl f6_curve)), (a5, .inr (5, [.int v5_wind, .int v5_pull, .int v5_room, .int v5_reach])), (a4, .inr (4, [.ref a6, .ref a2, .ref a5, .int v4_begin, .int v4_end, .long v4_wireAtBegin, .long v4_wireAtEnd]))] H := hP
      have hD : va_D A [(a6, .inr (6, [.int v6_end, .int v6_bends, .ref a6_from, .ref a6_to, .ref a6_curve])), (a6_from, .inl (cI, 8, .inl f6_from)), (a6_to, .inl (cI, 8, .inl f6_to)), (a6_curve, .inl (cI, 8, .inl f6_curve)), (a5, .inr (5, [.int v5_wind, .int v5_pull, .int v5_room, .int v5_reach])), (a4, .inr (4, [.ref a6, .ref a2, .ref a5, .int v4_begin, .int v4_end, .long v4_wireAtBegin, .long v4_wireAtEnd]))] := hD
      refine lv_aload_n hx hb dX4_keepsTop_72 rfl (lv_at hl 1 rfl) ?_
      refine lv_iload_n hx hb dX4_keepsTop_73 rfl (lv_at hl 2 rfl) ?_
      refine lv_iload hx hb dX4_keepsTop_74 (lv_at hl 5 rfl) ?_
      refine lv_i2l (v := p4.toInt64) hx hb dX4_keepsTop_76 rfl ?_
      refine lv_aload_n hx hb dX4_keepsTop_77 rfl (lv_at hl 1 rfl) ?_
      refine lv_iload_n hx hb dX4_keepsTop_78 rfl (lv_at hl 2 rfl) ?_
      have hPc := hP.sub (ws' := [(a6, .inr (6, [.int v6_end, .int v6_bends, .ref a6_from, .ref a6_to, .ref a6_curve])), (a6_from, .inl (cI, 8, .inl f6_from)), (a6_to, .inl (cI, 8, .inl f6_to)), (a6_curve, .inl (cI, 8, .inl f6_curve)), (a4, .inr (4, [.ref a6, .ref a2, .ref a5, .int v4_begin, .int v4_end, .long v4_wireAtBegin, .long v4_wireAtEnd]))]) [0, 1, 2, 3, 5] rfl
      have hDc := hD.sub (ws' := [(a6, .inr (6, [.int v6_end, .int v6_bends, .ref a6_from, .ref a6_to, .ref a6_curve])), (a6_from, .inl (cI, 8, .inl f6_from)), (a6_to, .inl (cI, 8, .inl f6_to)), (a6_curve, .inl (cI, 8, .inl f6_curve)), (a4, .inr (4, [.ref a6, .ref a2, .ref a5, .int v4_begin, .int v4_end, .long v4_wireAtBegin, .long v4_wireAtEnd]))]) [0, 1, 2, 3, 5] (by decide) rfl
      have hFc := va_free (wc := [(a6, .inr (6, [.int v6_end, .int v6_bends, .ref a6_from, .ref a6_to, .ref a6_curve])), (a6_from, .inl (cI, 8, .inl f6_from)), (a6_to, .inl (cI, 8, .inl f6_to)), (a6_curve, .inl (cI, 8, .inl f6_curve)), (a4, .inr (4, [.ref a6, .ref a2, .ref a5, .int v4_begin, .int v4_end, .long v4_wireAtBegin, .long v4_wireAtEnd]))]) hD hS hA [0, 1, 2, 3, 5] rfl
      refine va_calll (va_runV (As := [.int p1]) (rest := [.long p4.toInt64, .int p1, .ref a4, .long r6]) ⟨hx, hb, hml, hown, hts⟩ (c_X4_offUpper l dC dI cI cJ cZ a6 a6_from a6_to a6_curve a2 a5 a4 H.size v6_end v6_bends f6_from f6_to f6_curve v4_begin v4_end v4_wireAtBegin v4_wireAtEnd p1 _ hw) (cwV 1 hts gX4_keepsTop_X4_offUpper rfl rfl rfl (by decide +kernel) ⟨Nat.le_of_ble_eq_true rfl, Nat.le_of_ble_eq_true rfl⟩) ⟨fun a U g mk q => by obtain ⟨q0, q1, qP, qK, qD⟩ := q; exact ⟨q0, q1, qP, va_K.moved (u := U) (U := U.calling g mk a) (Vm.Alike.refl U.vm) qK, qD⟩, va_recv hK hP (ci := 4) (q0 := 5) rfl rfl, fun U hU hW => ⟨rfl, by rw [hU], by rw [hU]; exact hPc, va_K.moved hW.alike hK, hDc.weaken (fun _ _ _ _ => trivial)⟩⟩ rfl rfl hl.1 rfl (lv_room (Nat.le_of_ble_eq_true rfl)) dX4_keepsTop_79 ⟨(Nat.zero_le _), (Nat.zero_le _)⟩) hS (fun q _ h => hFc q h) hFc (fun r7 u t H1 locs ht hvm hw hB hz1 hk1 hS => ?_)
      obtain ⟨hP1, -, hD1⟩ := hB
      try dsimp only at hw
      rw [ht] at hP1
      obtain ⟨hP, hD⟩ := va_join (wr := [(a5, .inr (5, [.int v5_wind, .int v5_pull, .int v5_room, .int v5_reach]))]) (w1 := [(a6, .inr (6, [.int v6_end, .int v6_bends, .ref a6_from, .ref a6_to, .ref a6_curve])), (a6_from, .inl (cI, 8, .inl f6_from)), (a6_to, .inl (cI, 8, .inl f6_to)), (a6_curve, .inl (cI, 8, .inl f6_curve)), (a4, .inr (4, [.ref a6, .ref a2, .ref a5, .int v4_begin, .int v4_end, .long v4_wireAtBegin, .long v4_wireAtEnd]))]) hP hD [0, 1, 2, 3, 5] [4] rfl rfl (by decide) (by decide) hk1 hFc hP1 hD1
      generalize H1 = H at hP hS ⊢
      have hP : va_P (dC, dI) vwCl [(a5, .inr (5, [.int v5_wind, .int v5_pull, .int v5_room, .int v5_reach])), (a6, .inr (6, [.int v6_end, .int v6_bends, .ref a6_from, .ref a6_to, .ref a6_curve])), (a6_from, .inl (cI, 8, .inl f6_from)), (a6_to, .inl (cI, 8, .inl f6_to)), (a6_curve, .inl (cI, 8, .inl f6_curve)), (a4, .inr (4, [.ref a6, .ref a2, .ref a5, .int v4_begin, .int v4_end, .long v4_wireAtBegin, .long v4_wireAtEnd]))] H := hP
      have hD : va_D A [(a5, .inr (5, [.int v5_wind, .int v5_pull, .int v5_room, .int v5_reach])), (a6, .inr (6, [.int v6_end, .int v6_bends, .ref a6_from, .ref a6_to, .ref a6_curve])), (a6_from, .inl (cI, 8, .inl f6_from)), (a6_to, .inl (cI, 8, .inl f6_to)), (a6_curve, .inl (cI, 8, .inl f6_curve)), (a4, .inr (4, [.ref a6, .ref a2, .ref a5, .int v4_begin, .int v4_end, .long v4_wireAtBegin, .long v4_wireAtEnd]))] := hD
      refine lv_lmul hx hb dX4_keepsTop_82 ?_
      have hPc := hP.sub (ws' := [(a5, .inr (5, [.int v5_wind, .int v5_pull, .int v5_room, .int v5_reach])), (a4, .inr (4, [.ref a6, .ref a2, .ref a5, .int v4_begin, .int v4_end, .long v4_wireAtBegin, .long v4_wireAtEnd]))]) [0, 5] rfl
      have hDc := hD.sub (ws' := [(a5, .inr (5, [.int v5_wind, .int v5_pull, .int v5_room, .int v5_reach])), (a4, .inr (4, [.ref a6, .ref a2, .ref a5, .int v4_begin, .int v4_end, .long v4_wireAtBegin, .long v4_wireAtEnd]))]) [0, 5] (by decide) rfl
      have hFc := va_free (wc := [(a5, .inr (5, [.int v5_wind, .int v5_pull, .int v5_room, .int v5_reach])), (a4, .inr (4, [.ref a6, .ref a2, .ref a5, .int v4_begin, .int v4_end, .long v4_wireAtBegin, .long v4_wireAtEnd]))]) hD hS hA [0, 5] rfl
      refine va_calll (va_runV (As := [.int p1, .long (p4.toInt64 * r7)]) (rest := [.long r6]) ⟨hx, hb, hml, hown, hts⟩ (c_X4_excess l dC dI cI cJ cZ a6 a2 a5 a4 H.size v5_wind v5_pull v5_room v5_reach v4_begin v4_end v4_wireAtBegin v4_wireAtEnd p1 (p4.toInt64 * r7) _ hw) (cwV 2 hts gX4_keepsTop_X4_excess rfl rfl rfl (by decide +kernel) ⟨Nat.le_of_ble_eq_true rfl, Nat.le_of_ble_eq_true rfl⟩) ⟨fun a U g mk q => by obtain ⟨q0, q1, qP, qK, qD⟩ := q; exact ⟨q0, q1, qP, va_K.moved (u := U) (U := U.calling g mk a) (Vm.Alike.refl U.vm) qK, qD⟩, va_recv hK hP (ci := 4) (q0 := 5) rfl rfl, fun U hU hW => ⟨rfl, by rw [hU], by rw [hU]; exact hPc, va_K.moved hW.alike hK, hDc.weaken (fun _ _ _ _ => trivial)⟩⟩ rfl rfl hl.1 rfl (lv_room (Nat.le_of_ble_eq_true rfl)) dX4_keepsTop_83 ⟨(Nat.zero_le _), (Nat.zero_le _)⟩) hS (fun q _ h => hFc q h) hFc (fun r8 u t H1 locs ht hvm hw hB hz1 hk1 hS => ?_)
      obtain ⟨hP1, -, hD1⟩ := hB
      try dsimp only at hw
      rw [ht] at hP1
      obtain ⟨hP, hD⟩ := va_join (wr := [(a6, .inr (6, [.int v6_end, .int v6_bends, .ref a6_from, .ref a6_to, .ref a6_curve])), (a6_from, .inl (cI, 8, .inl f6_from)), (a6_to, .inl (cI, 8, .inl f6_to)), (a6_curve, .inl (cI, 8, .inl f6_curve))]) (w1 := [(a5, .inr (5, [.int v5_wind, .int v5_pull, .int v5_room, .int v5_reach])), (a4, .inr (4, [.ref a6, .ref a2, .ref a5, .int v4_begin, .int v4_end, .long v4_wireAtBegin, .long v4_wireAtEnd]))]) hP hD [0, 5] [1, 2, 3, 4] rfl rfl (by decide) (by decide) hk1 hFc hP1 hD1
      generalize H1 = H at hP hS ⊢
      have hP : va_P (dC, dI) vwCl [(a6, .inr (6, [.int v6_end, .int v6_bends, .ref a6_from, .ref a6_to, .ref a6_curve])), (a6_from, .inl (cI, 8, .inl f6_from)), (a6_to, .inl (cI, 8, .inl f6_to)), (a6_curve, .inl (cI, 8, .inl f6_curve)), (a5, .inr (5, [.int v5_wind, .int v5_pull, .int v5_room, .int v5_reach])), (a4, .inr (4, [.ref a6, .ref a2, .ref a5, .int v4_begin, .int v4_end, .long v4_wireAtBegin, .long v4_wireAtEnd]))] H := hP
      have hD : va_D A [(a6, .inr (6, [.int v6_end, .int v6_bends, .ref a6_from, .ref a6_to, .ref a6_curve])), (a6_from, .inl (cI, 8, .inl f6_from)), (a6_to, .inl (cI, 8, .inl f6_to)), (a6_curve, .inl (cI, 8, .inl f6_curve)), (a5, .inr (5, [.int v5_wind, .int v5_pull, .int v5_room, .int v5_reach])), (a4, .inr (4, [.ref a6, .ref a2, .ref a5, .int v4_begin, .int v4_end, .long v4_wireAtBegin, .long v4_wireAtEnd]))] := hD
      refine lv_lsub hx hb dX4_keepsTop_86 ?_
      refine lv_topl (fun x9 ex9 => ?_)
      replace hw := hw x9 ex9
      refine lv_lstore (lv' := [(7, .long x9), (5, .long x1), (0, .ref a4), (1, .int p1), (2, .int p2), (3, .int p3), (4, .int p4)]) hx hb dX4_keepsTop_87 hl (by decide) rfl (fun ls hl => ?_)
      refine lv_lload hx hb dX4_keepsTop_89 (lv_at hl 0 rfl) ?_
      refine lv_lconst (v := (0 : Int64)) hx hb dX4_keepsTop_91 (by decide) ?_
      refine W.lcmp hx hb dX4_keepsTop_92 ?_
      refine lv_if_gt (tgt := 98) hx hb dX4_keepsTop_93 (by decide) (fun c10 => ?_) (fun c10 => ?_)
      · replace hw := hw.1 ((lg_cmp_gt _ _).mp c10)
        refine lv_lload hx hb dX4_keepsTop_98 (lv_at hl 0 rfl) ?_
        refine lv_lload hx hb dX4_keepsTop_100 (lv_at hl 1 rfl) ?_
        refine lv_ladd hx hb dX4_keepsTop_102 ?_
        refine lv_lconst (v := (1 : Int64)) hx hb dX4_keepsTop_103 (by decide) ?_
        refine lv_lsub hx hb dX4_keepsTop_104 ?_
        refine lv_lload hx hb dX4_keepsTop_105 (lv_at hl 1 rfl) ?_
        obtain ⟨h11, hw⟩ := hw
        refine lv_ldiv hx hb dX4_keepsTop_107 h11 ?_
        refine lv_topl (fun x12 ex12 => ?_)
        replace hw := hw x12 ex12
        refine lv_lstore (lv' := [(9, .long x12), (7, .long x9), (5, .long x1), (0, .ref a4), (1, .int p1), (2, .int p2), (3, .int p3), (4, .int p4)]) hx hb dX4_keepsTop_108 hl (by decide) rfl (fun ls hl => ?_)
        refine lv_lload hx hb dX4_keepsTop_110 (lv_at hl 0 rfl) ?_
        refine lv_iload_n hx hb dX4_keepsTop_112 rfl (lv_at hl 5 rfl) ?_
        refine lv_iload_n hx hb dX4_keepsTop_113 rfl (lv_at hl 4 rfl) ?_
        refine lv_isub hx hb dX4_keepsTop_114 ?_
        refine lv_i2l (v := (p2 - p1).toInt64) hx hb dX4_keepsTop_115 rfl ?_
        refine W.lcmp hx hb dX4_keepsTop_116 ?_
        refine lv_if_lt (tgt := 122) hx hb dX4_keepsTop_117 (by decide) (fun c13 => ?_) (fun c13 => ?_)
        · replace hw := hw.1 ((lg_cmp_lt _ _).mp c13)
          refine lv_iload_n hx hb dX4_keepsTop_122 rfl (lv_at hl 4 rfl) ?_
          refine lv_lload hx hb dX4_keepsTop_123 (lv_at hl 0 rfl) ?_
          refine lv_l2i (v := x12.toInt32) hx hb dX4_keepsTop_125 rfl ?_
          refine lv_iadd hx hb dX4_keepsTop_126 ?_
          refine lv_topi (fun x14 ex14 => ?_)
          replace hw := hw x14 ex14
          refine lv_istore (lv' := [(11, .int x14), (9, .long x12), (7, .long x9), (5, .long x1), (0, .ref a4), (1, .int p1), (2, .int p2), (3, .int p3), (4, .int p4)]) hx hb dX4_keepsTop_127 hl (by decide) rfl (fun ls hl => ?_)
          refine lv_aload_n hx hb dX4_keepsTop_129 rfl (lv_at hl 4 rfl) ?_
          refine lv_iload hx hb dX4_keepsTop_130 (lv_at hl 0 rfl) ?_
          refine lv_iload hx hb dX4_keepsTop_132 (lv_at hl 8 rfl) ?_
          refine lv_i2l (v := p4.toInt64) hx hb dX4_keepsTop_134 rfl ?_
          refine lv_aload_n hx hb dX4_keepsTop_135 rfl (lv_at hl 4 rfl) ?_
          refine lv_iload hx hb dX4_keepsTop_136 (lv_at hl 0 rfl) ?_
          have hPc := hP.sub (ws' := [(a6, .inr (6, [.int v6_end, .int v6_bends, .ref a6_from, .ref a6_to, .ref a6_curve])), (a6_from, .inl (cI, 8, .inl f6_from)), (a6_to, .inl (cI, 8, .inl f6_to)), (a6_curve, .inl (cI, 8, .inl f6_curve)), (a4, .inr (4, [.ref a6, .ref a2, .ref a5, .int v4_begin, .int v4_end, .long v4_wireAtBegin, .long v4_wireAtEnd]))]) [0, 1, 2, 3, 5] rfl
          have hDc := hD.sub (ws' := [(a6, .inr (6, [.int v6_end, .int v6_bends, .ref a6_from, .ref a6_to, .ref a6_curve])), (a6_from, .inl (cI, 8, .inl f6_from)), (a6_to, .inl (cI, 8, .inl f6_to)), (a6_curve, .inl (cI, 8, .inl f6_curve)), (a4, .inr (4, [.ref a6, .ref a2, .ref a5, .int v4_begin, .int v4_end, .long v4_wireAtBegin, .long v4_wireAtEnd]))]) [0, 1, 2, 3, 5] (by decide) rfl
          have hFc := va_free (wc := [(a6, .inr (6, [.int v6_end, .int v6_bends, .ref a6_from, .ref a6_to, .ref a6_curve])), (a6_from, .inl (cI, 8, .inl f6_from)), (a6_to, .inl (cI, 8, .inl f6_to)), (a6_curve, .inl (cI, 8, .inl f6_curve)), (a4, .inr (4, [.ref a6, .ref a2, .ref a5, .int v4_begin, .int v4_end, .long v4_wireAtBegin, .long v4_wireAtEnd]))]) hD hS hA [0, 1, 2, 3, 5] rfl
          refine va_calll (va_runV (As := [.int x14]) (rest := [.long p4.toInt64, .int x14, .ref a4]) ⟨hx, hb, hml, hown, hts⟩ (c_X4_offUpper l dC dI cI cJ cZ a6 a6_from a6_to a6_curve a2 a5 a4 H.size v6_end v6_bends f6_from f6_to f6_curve v4_begin v4_end v4_wireAtBegin v4_wireAtEnd x14 _ hw) (cwV 1 hts gX4_keepsTop_X4_offUpper rfl rfl rfl (by decide +kernel) ⟨Nat.le_of_ble_eq_true rfl, Nat.le_of_ble_eq_true rfl⟩) ⟨fun a U g mk q => by obtain ⟨q0, q1, qP, qK, qD⟩ := q; exact ⟨q0, q1, qP, va_K.moved (u := U) (U := U.calling g mk a) (Vm.Alike.refl U.vm) qK, qD⟩, va_recv hK hP (ci := 4) (q0 := 5) rfl rfl, fun U hU hW => ⟨rfl, by rw [hU], by rw [hU]; exact hPc, va_K.moved hW.alike hK, hDc.weaken (fun _ _ _ _ => trivial)⟩⟩ rfl rfl hl.1 rfl (lv_room (Nat.le_of_ble_eq_true rfl)) dX4_keepsTop_138 ⟨(Nat.zero_le _), (Nat.zero_le _)⟩) hS (fun q _ h => hFc q h) hFc (fun r15 u t H1 locs ht hvm hw hB hz1 hk1 hS => ?_)
          obtain ⟨hP1, -, hD1⟩ := hB
          try dsimp only at hw
          rw [ht] at hP1
          obtain ⟨hP, hD⟩ := va_join (wr := [(a5, .inr (5, [.int v5_wind, .int v5_pull, .int v5_room, .int v5_reach]))]) (w1 := [(a6, .inr (6, [.int v6_end, .int v6_bends, .ref a6_from, .ref a6_to, .ref a6_curve])), (a6_from, .inl (cI, 8, .inl f6_from)), (a6_to, .inl (cI, 8, .inl f6_to)), (a6_curve, .inl (cI, 8, .inl f6_curve)), (a4, .inr (4, [.ref a6, .ref a2, .ref a5, .int v4_begin, .int v4_end, .long v4_wireAtBegin, .long v4_wireAtEnd]))]) hP hD [0, 1, 2, 3, 5] [4] rfl rfl (by decide) (by decide) hk1 hFc hP1 hD1
          generalize H1 = H at hP hS ⊢
          have hP : va_P (dC, dI) vwCl [(a5, .inr (5, [.int v5_wind, .int v5_pull, .int v5_room, .int v5_reach])), (a6, .inr (6, [.int v6_end, .int v6_bends, .ref a6_from, .ref a6_to, .ref a6_curve])), (a6_from, .inl (cI, 8, .inl f6_from)), (a6_to, .inl (cI, 8, .inl f6_to)), (a6_curve, .inl (cI, 8, .inl f6_curve)), (a4, .inr (4, [.ref a6, .ref a2, .ref a5, .int v4_begin, .int v4_end, .long v4_wireAtBegin, .long v4_wireAtEnd]))] H := hP
          have hD : va_D A [(a5, .inr (5, [.int v5_wind, .int v5_pull, .int v5_room, .int v5_reach])), (a6, .inr (6, [.int v6_end, .int v6_bends, .ref a6_from, .ref a6_to, .ref a6_curve])), (a6_from, .inl (cI, 8, .inl f6_from)), (a6_to, .inl (cI, 8, .inl f6_to)), (a6_curve, .inl (cI, 8, .inl f6_curve)), (a4, .inr (4, [.ref a6, .ref a2, .ref a5, .int v4_begin, .int v4_end, .long v4_wireAtBegin, .long v4_wireAtEnd]))] := hD
          refine lv_lmul hx hb dX4_keepsTop_141 ?_
          have hPc := hP.sub (ws' := [(a5, .inr (5, [.int v5_wind, .int v5_pull, .int v5_room, .int v5_reach])), (a4, .inr (4, [.ref a6, .ref a2, .ref a5, .int v4_begin, .int v4_end, .long v4_wireAtBegin, .long v4_wireAtEnd]))]) [0, 5] rfl
          have hDc := hD.sub (ws' := [(a5, .inr (5, [.int v5_wind, .int v5_pull, .int v5_room, .int v5_reach])), (a4, .inr (4, [.ref a6, .ref a2, .ref a5, .int v4_begin, .int v4_end, .long v4_wireAtBegin, .long v4_wireAtEnd]))]) [0, 5] (by decide) rfl
          have hFc := va_free (wc := [(a5, .inr (5, [.int v5_wind, .int v5_pull, .int v5_room, .int v5_reach])), (a4, .inr (4, [.ref a6, .ref a2, .ref a5, .int v4_begin, .int v4_end, .long v4_wireAtBegin, .long v4_wireAtEnd]))]) hD hS hA [0, 5] rfl
          refine va_calll (va_runV (As := [.int x14, .long (p4.toInt64 * r15)]) (rest := []) ⟨hx, hb, hml, hown, hts⟩ (c_X4_excess l dC dI cI cJ cZ a6 a2 a5 a4 H.size v5_wind v5_pull v5_room v5_reach v4_begin v4_end v4_wireAtBegin v4_wireAtEnd x14 (p4.toInt64 * r15) _ hw) (cwV 2 hts gX4_keepsTop_X4_excess rfl rfl rfl (by decide +kernel) ⟨Nat.le_of_ble_eq_true rfl, Nat.le_of_ble_eq_true rfl⟩) ⟨fun a U g mk q => by obtain ⟨q0, q1, qP, qK, qD⟩ := q; exact ⟨q0, q1, qP, va_K.moved (u := U) (U := U.calling g mk a) (Vm.Alike.refl U.vm) qK, qD⟩, va_recv hK hP (ci := 4) (q0 := 5) rfl rfl, fun U hU hW => ⟨rfl, by rw [hU], by rw [hU]; exact hPc, va_K.moved hW.alike hK, hDc.weaken (fun _ _ _ _ => trivial)⟩⟩ rfl rfl hl.1 rfl (lv_room (Nat.le_of_ble_eq_true rfl)) dX4_keepsTop_142 ⟨(Nat.zero_le _), (Nat.zero_le _)⟩) hS (fun q _ h => hFc q h) hFc (fun r16 u t H1 locs ht hvm hw hB hz1 hk1 hS => ?_)
          obtain ⟨hP1, -, hD1⟩ := hB
          try dsimp only at hw
          rw [ht] at hP1
          obtain ⟨hP, hD⟩ := va_join (wr := [(a6, .inr (6, [.int v6_end, .int v6_bends, .ref a6_from, .ref a6_to, .ref a6_curve])), (a6_from, .inl (cI, 8, .inl f6_from)), (a6_to, .inl (cI, 8, .inl f6_to)), (a6_curve, .inl (cI, 8, .inl f6_curve))]) (w1 := [(a5, .inr (5, [.int v5_wind, .int v5_pull, .int v5_room, .int v5_reach])), (a4, .inr (4, [.ref a6, .ref a2, .ref a5, .int v4_begin, .int v4_end, .long v4_wireAtBegin, .long v4_wireAtEnd]))]) hP hD [0, 5] [1, 2, 3, 4] rfl rfl (by decide) (by decide) hk1 hFc hP1 hD1
          generalize H1 = H at hP hS ⊢
          have hP : va_P (dC, dI) vwCl [(a6, .inr (6, [.int v6_end, .int v6_bends, .ref a6_from, .ref a6_to, .ref a6_curve])), (a6_from, .inl (cI, 8, .inl f6_from)), (a6_to, .inl (cI, 8, .inl f6_to)), (a6_curve, .inl (cI, 8, .inl f6_curve)), (a5, .inr (5, [.int v5_wind, .int v5_pull, .int v5_room, .int v5_reach])), (a4, .inr (4, [.ref a6, .ref a2, .ref a5, .int v4_begin, .int v4_end, .long v4_wireAtBegin, .long v4_wireAtEnd]))] H := hP
          have hD : va_D A [(a6, .inr (6, [.int v6_end, .int v6_bends, .ref a6_from, .ref a6_to, .ref a6_curve])), (a6_from, .inl (cI, 8, .inl f6_from)), (a6_to, .inl (cI, 8, .inl f6_to)), (a6_curve, .inl (cI, 8, .inl f6_curve)), (a5, .inr (5, [.int v5_wind, .int v5_pull, .int v5_room, .int v5_reach])), (a4, .inr (4, [.ref a6, .ref a2, .ref a5, .int v4_begin, .int v4_end, .long v4_wireAtBegin, .long v4_wireAtEnd]))] := hD
          refine lv_lconst (v := (0 : Int64)) hx hb dX4_keepsTop_145 (by decide) ?_
          refine W.lcmp hx hb dX4_keepsTop_146 ?_
          refine lv_if_gt (tgt := 154) hx hb dX4_keepsTop_147 (by decide) (fun c17 => ?_) (fun c17 => ?_)
          · replace hw := hw.1 ((lg_cmp_gt _ _).mp c17)
            refine lv_iconst (v := (0 : Int32)) hx hb dX4_keepsTop_154 (by decide) ?_
            have hP9 := hP.sub (ws' := [(a6, .inr (6, [.int v6_end, .int v6_bends, .ref a6_from, .ref a6_to, .ref a6_curve])), (a6_from, .inl (cI, 8, .inl f6_from)), (a6_to, .inl (cI, 8, .inl f6_to)), (a6_curve, .inl (cI, 8, .inl f6_curve)), (a5, .inr (5, [.int v5_wind, .int v5_pull, .int v5_room, .int v5_reach])), (a4, .inr (4, [.ref a6, .ref a2, .ref a5, .int v4_begin, .int v4_end, .long v4_wireAtBegin, .long v4_wireAtEnd]))]) [0, 1, 2, 3, 4, 5] rfl
            have hD9 := hD.sub (ws' := [(a6, .inr (6, [.int v6_end, .int v6_bends, .ref a6_from, .ref a6_to, .ref a6_curve])), (a6_from, .inl (cI, 8, .inl f6_from)), (a6_to, .inl (cI, 8, .inl f6_to)), (a6_curve, .inl (cI, 8, .inl f6_curve)), (a5, .inr (5, [.int v5_wind, .int v5_pull, .int v5_room, .int v5_reach])), (a4, .inr (4, [.ref a6, .ref a2, .ref a5, .int v4_begin, .int v4_end, .long v4_wireAtBegin, .long v4_wireAtEnd]))]) [0, 1, 2, 3, 4, 5] (by decide) rfl
            obtain ⟨h18, hw⟩ := hw
            exact W.zret (v := (0 : Int32)) hx hb hr (wg_bool h18) (fun t ht hW => ⟨⟨(0 : Int32), (), rfl, hw, by rw [ht]; exact hP9, va_K.moved hW.alike hK, hD9⟩, hS.F ht⟩) hS.2.2 dX4_keepsTop_155
          · replace hw := hw.2 (fun z => c17 ((lg_cmp_gt _ _).mpr z))
            refine lv_iconst (v := (1 : Int32)) hx hb dX4_keepsTop_150 (by decide) ?_
            refine lv_goto (tgt := 155) hx hb dX4_keepsTop_151 (by decide) ?_
            have hP9 := hP.sub (ws' := [(a6, .inr (6, [.int v6_end, .int v6_bends, .ref a6_from, .ref a6_to, .ref a6_curve])), (a6_from, .inl (cI, 8, .inl f6_from)), (a6_to, .inl (cI, 8, .inl f6_to)), (a6_curve, .inl (cI, 8, .inl f6_curve)), (a5, .inr (5, [.int v5_wind, .int v5_pull, .int v5_room, .int v5_reach])), (a4, .inr (4, [.ref a6, .ref a2, .ref a5, .int v4_begin, .int v4_end, .long v4_wireAtBegin, .long v4_wireAtEnd]))]) [0, 1, 2, 3, 4, 5] rfl
            have hD9 := hD.sub (ws' := [(a6, .inr (6, [.int v6_end, .int v6_bends, .ref a6_from, .ref a6_to, .ref a6_curve])), (a6_from, .inl (cI, 8, .inl f6_from)), (a6_to, .inl (cI, 8, .inl f6_to)), (a6_curve, .inl (cI, 8, .inl f6_curve)), (a5, .inr (5, [.int v5_wind, .int v5_pull, .int v5_room, .int v5_reach])), (a4, .inr (4, [.ref a6, .ref a2, .ref a5, .int v4_begin, .int v4_end, .long v4_wireAtBegin, .long v4_wireAtEnd]))]) [0, 1, 2, 3, 4, 5] (by decide) rfl
            obtain ⟨h19, hw⟩ := hw
            exact W.zret (v := (1 : Int32)) hx hb hr (wg_bool h19) (fun t ht hW => ⟨⟨(1 : Int32), (), rfl, hw, by rw [ht]; exact hP9, va_K.moved hW.alike hK, hD9⟩, hS.F ht⟩) hS.2.2 dX4_keepsTop_155
        · replace hw := hw.2 (fun z => c13 ((lg_cmp_lt _ _).mpr z))
          refine lv_iconst (v := (1 : Int32)) hx hb dX4_keepsTop_120 (by decide) ?_
          have hP9 := hP.sub (ws' := [(a6, .inr (6, [.int v6_end, .int v6_bends, .ref a6_from, .ref a6_to, .ref a6_curve])), (a6_from, .inl (cI, 8, .inl f6_from)), (a6_to, .inl (cI, 8, .inl f6_to)), (a6_curve, .inl (cI, 8, .inl f6_curve)), (a5, .inr (5, [.int v5_wind, .int v5_pull, .int v5_room, .int v5_reach])), (a4, .inr (4, [.ref a6, .ref a2, .ref a5, .int v4_begin, .int v4_end, .long v4_wireAtBegin, .long v4_wireAtEnd]))]) [0, 1, 2, 3, 4, 5] rfl
          have hD9 := hD.sub (ws' := [(a6, .inr (6, [.int v6_end, .int v6_bends, .ref a6_from, .ref a6_to, .ref a6_curve])), (a6_from, .inl (cI, 8, .inl f6_from)), (a6_to, .inl (cI, 8, .inl f6_to)), (a6_curve, .inl (cI, 8, .inl f6_curve)), (a5, .inr (5, [.int v5_wind, .int v5_pull, .int v5_room, .int v5_reach])), (a4, .inr (4, [.ref a6, .ref a2, .ref a5, .int v4_begin, .int v4_end, .long v4_wireAtBegin, .long v4_wireAtEnd]))]) [0, 1, 2, 3, 4, 5] (by decide) rfl
          obtain ⟨h20, hw⟩ := hw
          exact W.zret (v := (1 : Int32)) hx hb hr (wg_bool h20) (fun t ht hW => ⟨⟨(1 : Int32), (), rfl, hw, by rw [ht]; exact hP9, va_K.moved hW.alike hK, hD9⟩, hS.F ht⟩) hS.2.2 dX4_keepsTop_121
      · replace hw := hw.2 (fun z => c10 ((lg_cmp_gt _ _).mpr z))
        refine lv_iconst (v := (1 : Int32)) hx hb dX4_keepsTop_96 (by decide) ?_
        have hP9 := hP.sub (ws' := [(a6, .inr (6, [.int v6_end, .int v6_bends, .ref a6_from, .ref a6_to, .ref a6_curve])), (a6_from, .inl (cI, 8, .inl f6_from)), (a6_to, .inl (cI, 8, .inl f6_to)), (a6_curve, .inl (cI, 8, .inl f6_curve)), (a5, .inr (5, [.int v5_wind, .int v5_pull, .int v5_room, .int v5_reach])), (a4, .inr (4, [.ref a6, .ref a2, .ref a5, .int v4_begin, .int v4_end, .long v4_wireAtBegin, .long v4_wireAtEnd]))]) [0, 1, 2, 3, 4, 5] rfl
        have hD9 := hD.sub (ws' := [(a6, .inr (6, [.int v6_end, .int v6_bends, .ref a6_from, .ref a6_to, .ref a6_curve])), (a6_from, .inl (cI, 8, .inl f6_from)), (a6_to, .inl (cI, 8, .inl f6_to)), (a6_curve, .inl (cI, 8, .inl f6_curve)), (a5, .inr (5, [.int v5_wind, .int v5_pull, .int v5_room, .int v5_reach])), (a4, .inr (4, [.ref a6, .ref a2, .ref a5, .int v4_begin, .int v4_end, .long v4_wireAtBegin, .long v4_wireAtEnd]))]) [0, 1, 2, 3, 4, 5] (by decide) rfl
        obtain ⟨h21, hw⟩ := hw
        exact W.zret (v := (1 : Int32)) hx hb hr (wg_bool h21) (fun t ht hW => ⟨⟨(1 : Int32), (), rfl, hw, by rw [ht]; exact hP9, va_K.moved hW.alike hK, hD9⟩, hS.F ht⟩) hS.2.2 dX4_keepsTop_97
    · replace hw := hw.2 (c4)
      refine lv_iconst (v := (1 : Int32)) hx hb dX4_keepsTop_52 (by decide) ?_
      have hP9 := hP.sub (ws' := [(a6, .inr (6, [.int v6_end, .int v6_bends, .ref a6_from, .ref a6_to, .ref a6_curve])), (a6_from, .inl (cI, 8, .inl f6_from)), (a6_to, .inl (cI, 8, .inl f6_to)), (a6_curve, .inl (cI, 8, .inl f6_curve)), (a5, .inr (5, [.int v5_wind, .int v5_pull, .int v5_room, .int v5_reach])), (a4, .inr (4, [.ref a6, .ref a2, .ref a5, .int v4_begin, .int v4_end, .long v4_wireAtBegin, .long v4_wireAtEnd]))]) [0, 1, 2, 3, 4, 5] rfl
      have hD9 := hD.sub (ws' := [(a6, .inr (6, [.int v6_end, .int v6_bends, .ref a6_from, .ref a6_to, .ref a6_curve])), (a6_from, .inl (cI, 8, .inl f6_from)), (a6_to, .inl (cI, 8, .inl f6_to)), (a6_curve, .inl (cI, 8, .inl f6_curve)), (a5, .inr (5, [.int v5_wind, .int v5_pull, .int v5_room, .int v5_reach])), (a4, .inr (4, [.ref a6, .ref a2, .ref a5, .int v4_begin, .int v4_end, .long v4_wireAtBegin, .long v4_wireAtEnd]))]) [0, 1, 2, 3, 4, 5] (by decide) rfl
      obtain ⟨h22, hw⟩ := hw
      exact W.zret (v := (1 : Int32)) hx hb hr (wg_bool h22) (fun t ht hW => ⟨⟨(1 : Int32), (), rfl, hw, by rw [ht]; exact hP9, va_K.moved hW.alike hK, hD9⟩, hS.F ht⟩) hS.2.2 dX4_keepsTop_53

theorem inX4_keepsStretch_X4 : ∀ w ∈ wsX40, w ∈ wsX4_keepsStretch := fun _ h => List.mem_cons_of_mem _ (List.mem_append_left _ (List.mem_append_left _ (List.mem_append_right _ h)))
theorem inX4_keepsStretch_X6 : ∀ w ∈ wsX60, w ∈ wsX4_keepsStretch := fun _ h => List.mem_cons_of_mem _ (List.mem_append_left _ (List.mem_append_right _ h))
theorem inX4_keepsStretch_X5 : ∀ w ∈ wsX50, w ∈ wsX4_keepsStretch := fun _ h => List.mem_cons_of_mem _ (List.mem_append_right _ h)
def wp_X4_keepsStretch (Q : Int32 → Prop) (v6_bends : Int32) (f6_from : Nat → Int32) (f6_to : Nat → Int32) (f6_curve : Nat → Int32) (v5_wind : Int32) (v5_pull : Int32) (v5_room : Int32) (v4_begin : Int32) (v4_end : Int32) (v4_wireAtBegin : Int64) (v4_wireAtEnd : Int64) (p1 : Int32) (p2 : Int32) (p3 : Int32) : Prop :=
  (wp_X4_keepsPlace (fun r1 => ((r1 = 0 → (((0 : Int32) = 0 ∨ (0 : Int32) = 1) ∧ Q (0 : Int32) )) ∧ (¬ r1 = 0 → (wp_X4_keepsPlace (fun r4 => ((r4 = 0 → (((0 : Int32) = 0 ∨ (0 : Int32) = 1) ∧ Q (0 : Int32) )) ∧ (¬ r4 = 0 → (wp_X4_keepsTop (fun r7 => ((r7 = 0 → (((0 : Int32) = 0 ∨ (0 : Int32) = 1) ∧ Q (0 : Int32) )) ∧ (¬ r7 = 0 → (wp_X4_keepsTop (fun r10 => ((r10 = 0 → (((0 : Int32) = 0 ∨ (0 : Int32) = 1) ∧ Q (0 : Int32) )) ∧ (¬ r10 = 0 → (((1 : Int32) = 0 ∨ (1 : Int32) = 1) ∧ Q (1 : Int32) )))) v6_bends f6_from f6_to f6_curve v5_wind v5_pull v5_room v4_begin v4_end v4_wireAtBegin v4_wireAtEnd p1 p2 p3 (-1 : Int32))))) v6_bends f6_from f6_to f6_curve v5_wind v5_pull v5_room v4_begin v4_end v4_wireAtBegin v4_wireAtEnd p1 p2 p3 (1 : Int32))))) v6_bends f6_from f6_to f6_curve v5_wind v5_pull v5_room v4_begin v4_end v4_wireAtBegin v4_wireAtEnd p2)))) v6_bends f6_from f6_to f6_curve v5_wind v5_pull v5_room v4_begin v4_end v4_wireAtBegin v4_wireAtEnd p1)
set_option maxHeartbeats 4000000 in
set_option maxRecDepth 100000 in
theorem c_X4_keepsStretch (l : Launch) (dC : Nat → ClassId) (dI : Nat → Nat → Nat) (cI cJ cZ : ClassId) (a6 : Nat) (a6_from : Nat) (a6_to : Nat) (a6_curve : Nat) (a2 : Nat) (a5 : Nat) (a4 : Nat) (sz : Nat) (v6_end : Int32) (v6_bends : Int32) (f6_from : Nat → Int32) (f6_to : Nat → Int32) (f6_curve : Nat → Int32) (v5_wind : Int32) (v5_pull : Int32) (v5_room : Int32) (v5_reach : Int32) (v4_begin : Int32) (v4_end : Int32) (v4_wireAtBegin : Int64) (v4_wireAtEnd : Int64) (p1 : Int32) (p2 : Int32) (p3 : Int32) (Q : Int32 → Prop) (hw : wp_X4_keepsStretch Q v6_bends f6_from f6_to f6_curve v5_wind v5_pull v5_room v4_begin v4_end v4_wireAtBegin v4_wireAtEnd p1 p2 p3) : Met l yX4_keepsStretch wsX4_keepsStretch ({ frames := 3, cells := 0, slots := 0, locals := 80 } : Room) (va_Pc [.ref a4, .int p1, .int p2, .int p3] (fun U => U.heap.size = sz ∧ va_P (dC, dI) vwCl [(a6, .inr (6, [.int v6_end, .int v6_bends, .ref a6_from, .ref a6_to, .ref a6_curve])), (a6_from, .inl (cI, 8, .inl f6_from)), (a6_to, .inl (cI, 8, .inl f6_to)), (a6_curve, .inl (cI, 8, .inl f6_curve)), (a5, .inr (5, [.int v5_wind, .int v5_pull, .int v5_room, .int v5_reach])), (a4, .inr (4, [.ref a6, .ref a2, .ref a5, .int v4_begin, .int v4_end, .long v4_wireAtBegin, .long v4_wireAtEnd]))] U.heap ∧ va_K (dC, dI) vwCl [(cI, .int), (cJ, .long), (cZ, .boolean)] U ∧ va_D (fun _ => True) [(a6, .inr (6, [.int v6_end, .int v6_bends, .ref a6_from, .ref a6_to, .ref a6_curve])), (a6_from, .inl (cI, 8, .inl f6_from)), (a6_to, .inl (cI, 8, .inl f6_to)), (a6_curve, .inl (cI, 8, .inl f6_curve)), (a5, .inr (5, [.int v5_wind, .int v5_pull, .int v5_room, .int v5_reach])), (a4, .inr (4, [.ref a6, .ref a2, .ref a5, .int v4_begin, .int v4_end, .long v4_wireAtBegin, .long v4_wireAtEnd]))])) (va_Qi (fun r (u : Unit) => Q r) (fun (u : Unit) t => va_P (dC, dI) vwCl [(a6, .inr (6, [.int v6_end, .int v6_bends, .ref a6_from, .ref a6_to, .ref a6_curve])), (a6_from, .inl (cI, 8, .inl f6_from)), (a6_to, .inl (cI, 8, .inl f6_to)), (a6_curve, .inl (cI, 8, .inl f6_curve)), (a5, .inr (5, [.int v5_wind, .int v5_pull, .int v5_room, .int v5_reach])), (a4, .inr (4, [.ref a6, .ref a2, .ref a5, .int v4_begin, .int v4_end, .long v4_wireAtBegin, .long v4_wireAtEnd]))] t.heap ∧ va_K (dC, dI) vwCl [(cI, .int), (cJ, .long), (cZ, .boolean)] t ∧ va_D (va_A [(a6, .inr (6, [.int v6_end, .int v6_bends, .ref a6_from, .ref a6_to, .ref a6_curve])), (a6_from, .inl (cI, 8, .inl f6_from)), (a6_to, .inl (cI, 8, .inl f6_to)), (a6_curve, .inl (cI, 8, .inl f6_curve)), (a5, .inr (5, [.int v5_wind, .int v5_pull, .int v5_room, .int v5_reach])), (a4, .inr (4, [.ref a6, .ref a2, .ref a5, .int v4_begin, .int v4_end, .long v4_wireAtBegin, .long v4_wireAtEnd]))] sz) [(a6, .inr (6, [.int v6_end, .int v6_bends, .ref a6_from, .ref a6_to, .ref a6_curve])), (a6_from, .inl (cI, 8, .inl f6_from)), (a6_to, .inl (cI, 8, .inl f6_to)), (a6_curve, .inl (cI, 8, .inl f6_curve)), (a5, .inr (5, [.int v5_wind, .int v5_pull, .int v5_room, .int v5_reach])), (a4, .inr (4, [.ref a6, .ref a2, .ref a5, .int v4_begin, .int v4_end, .long v4_wireAtBegin, .long v4_wireAtEnd]))]) (va_A [(a6, .inr (6, [.int v6_end, .int v6_bends, .ref a6_from, .ref a6_to, .ref a6_curve])), (a6_from, .inl (cI, 8, .inl f6_from)), (a6_to, .inl (cI, 8, .inl f6_to)), (a6_curve, .inl (cI, 8, .inl f6_curve)), (a5, .inr (5, [.int v5_wind, .int v5_pull, .int v5_room, .int v5_reach])), (a4, .inr (4, [.ref a6, .ref a2, .ref a5, .int v4_begin, .int v4_end, .long v4_wireAtBegin, .long v4_wireAtEnd]))] sz)) 0 0 (va_A [(a6, .inr (6, [.int v6_end, .int v6_bends, .ref a6_from, .ref a6_to, .ref a6_curve])), (a6_from, .inl (cI, 8, .inl f6_from)), (a6_to, .inl (cI, 8, .inl f6_to)), (a6_curve, .inl (cI, 8, .inl f6_curve)), (a5, .inr (5, [.int v5_wind, .int v5_pull, .int v5_room, .int v5_reach])), (a4, .inr (4, [.ref a6, .ref a2, .ref a5, .int v4_begin, .int v4_end, .long v4_wireAtBegin, .long v4_wireAtEnd]))] sz) := by
  refine Met.ofW (cc := cX4_keepsStretch) (maxL := 4) (ret := (some .boolean)) (by decide) rfl ?_
  intro p e s m args below meth c s₁ B hml hv
  obtain ⟨rfl, hsz, hP, hK, hD0⟩ := hv
  have hx := B.exec
  have hb := B.bytes
  have hr := B.returns
  have hts := atoms_spec (ws := wsX4_keepsStretch) B.pre
  have hown : s.vm.findClass RX4 = some m.cls := findClass_of_methodNamed B.named
  have hlocks := B.notSynchronized
  subst hsz
  have hD := hD0.self (sz := s.heap.size)
  generalize hAe : va_A [(a6, .inr (6, [.int v6_end, .int v6_bends, .ref a6_from, .ref a6_to, .ref a6_curve])), (a6_from, .inl (cI, 8, .inl f6_from)), (a6_to, .inl (cI, 8, .inl f6_to)), (a6_curve, .inl (cI, 8, .inl f6_curve)), (a5, .inr (5, [.int v5_wind, .int v5_pull, .int v5_room, .int v5_reach])), (a4, .inr (4, [.ref a6, .ref a2, .ref a5, .int v4_begin, .int v4_end, .long v4_wireAtBegin, .long v4_wireAtEnd]))] s.heap.size = A at hD ⊢
  have hA : ∀ q : Nat, s.heap.size ≤ q → A q := fun q h => by rw [← hAe]; exact Or.inr h
  have hS : va_S A s.heap s.heap [] := va_S.rf
  have hP : va_P (dC, dI) vwCl [(a6, .inr (6, [.int v6_end, .int v6_bends, .ref a6_from, .ref a6_to, .ref a6_curve])), (a6_from, .inl (cI, 8, .inl f6_from)), (a6_to, .inl (cI, 8, .inl f6_to)), (a6_curve, .inl (cI, 8, .inl f6_curve)), (a5, .inr (5, [.int v5_wind, .int v5_pull, .int v5_room, .int v5_reach])), (a4, .inr (4, [.ref a6, .ref a2, .ref a5, .int v4_begin, .int v4_end, .long v4_wireAtBegin, .long v4_wireAtEnd]))] s.heap := hP
  have hl := lv_entry ([.ref a4, .int p1, .int p2, .int p3]) (n := 4) (Nat.le_of_ble_eq_true rfl)
  rw [lg_entry_eq]
  generalize (lg_sl ([.ref a4, .int p1, .int p2, .int p3]) ++ List.replicate (4 - (lg_sl ([.ref a4, .int p1, .int p2, .int p3])).length) Slot.unset).toArray = ls at hl ⊢
  have hl : lv_has ls 4 [(0, .ref a4), (1, .int p1), (2, .int p2), (3, .int p3)] := hl
  obtain ⟨H, hHe⟩ : ∃ H, H = s.heap := ⟨_, rfl⟩
  rw [← hHe] at hP
  have hS : va_S A s.heap H [] := by rw [hHe]; exact hS
  rw [← hHe]
  unfold wp_X4_keepsStretch at hw
  refine lv_aload_n hx hb dX4_keepsStretch_0 rfl (lv_at hl 0 rfl) ?_
  refine lv_iload_n hx hb dX4_keepsStretch_1 rfl (lv_at hl 1 rfl) ?_
  have hPc := hP.sub (ws' := [(a6, .inr (6, [.int v6_end, .int v6_bends, .ref a6_from, .ref a6_to, .ref a6_curve])), (a6_from, .inl (cI, 8, .inl f6_from)), (a6_to, .inl (cI, 8, .inl f6_to)), (a6_curve, .inl (cI, 8, .inl f6_curve)), (a5, .inr (5, [.int v5_wind, .int v5_pull, .int v5_room, .int v5_reach])), (a4, .inr (4, [.ref a6, .ref a2, .ref a5, .int v4_begin, .int v4_end, .long v4_wireAtBegin, .long v4_wireAtEnd]))]) [0, 1, 2, 3, 4, 5] rfl
  have hDc := hD.sub (ws' := [(a6, .inr (6, [.int v6_end, .int v6_bends, .ref a6_from, .ref a6_to, .ref a6_curve])), (a6_from, .inl (cI, 8, .inl f6_from)), (a6_to, .inl (cI, 8, .inl f6_to)), (a6_curve, .inl (cI, 8, .inl f6_curve)), (a5, .inr (5, [.int v5_wind, .int v5_pull, .int v5_room, .int v5_reach])), (a4, .inr (4, [.ref a6, .ref a2, .ref a5, .int v4_begin, .int v4_end, .long v4_wireAtBegin, .long v4_wireAtEnd]))]) [0, 1, 2, 3, 4, 5] (by decide) rfl
  have hFc := va_free (wc := [(a6, .inr (6, [.int v6_end, .int v6_bends, .ref a6_from, .ref a6_to, .ref a6_curve])), (a6_from, .inl (cI, 8, .inl f6_from)), (a6_to, .inl (cI, 8, .inl f6_to)), (a6_curve, .inl (cI, 8, .inl f6_curve)), (a5, .inr (5, [.int v5_wind, .int v5_pull, .int v5_room, .int v5_reach])), (a4, .inr (4, [.ref a6, .ref a2, .ref a5, .int v4_begin, .int v4_end, .long v4_wireAtBegin, .long v4_wireAtEnd]))]) hD hS hA [0, 1, 2, 3, 4, 5] rfl
  refine va_calli (va_runV (As := [.int p1]) (rest := []) ⟨hx, hb, hml, hown, hts⟩ (c_X4_keepsPlace l dC dI cI cJ cZ a6 a6_from a6_to a6_curve a2 a5 a4 H.size v6_end v6_bends f6_from f6_to f6_curve v5_wind v5_pull v5_room v5_reach v4_begin v4_end v4_wireAtBegin v4_wireAtEnd p1 _ hw) (cwV 1 hts gX4_keepsStretch_X4_keepsPlace rfl rfl rfl (by decide +kernel) ⟨Nat.le_of_ble_eq_true rfl, Nat.le_of_ble_eq_true rfl⟩) ⟨fun a U g mk q => by obtain ⟨q0, q1, qP, qK, qD⟩ := q; exact ⟨q0, q1, qP, va_K.moved (u := U) (U := U.calling g mk a) (Vm.Alike.refl U.vm) qK, qD⟩, va_recv hK hP (ci := 4) (q0 := 5) rfl rfl, fun U hU hW => ⟨rfl, by rw [hU], by rw [hU]; exact hPc, va_K.moved hW.alike hK, hDc.weaken (fun _ _ _ _ => trivial)⟩⟩ rfl rfl hl.1 rfl (lv_room (Nat.le_of_ble_eq_true rfl)) dX4_keepsStretch_2 ⟨(Nat.zero_le _), (Nat.zero_le _)⟩) hS (fun q _ h => hFc q h) hFc (fun r1 u t H1 locs ht hvm hw hB hz1 hk1 hS => ?_)
  obtain ⟨hP1, -, hD1⟩ := hB
  try dsimp only at hw
  rw [ht] at hP1
  obtain ⟨hP, hD⟩ := va_join (wr := []) (w1 := [(a6, .inr (6, [.int v6_end, .int v6_bends, .ref a6_from, .ref a6_to, .ref a6_curve])), (a6_from, .inl (cI, 8, .inl f6_from)), (a6_to, .inl (cI, 8, .inl f6_to)), (a6_curve, .inl (cI, 8, .inl f6_curve)), (a5, .inr (5, [.int v5_wind, .int v5_pull, .int v5_room, .int v5_reach])), (a4, .inr (4, [.ref a6, .ref a2, .ref a5, .int v4_begin, .int v4_end, .long v4_wireAtBegin, .long v4_wireAtEnd]))]) hP hD [0, 1, 2, 3, 4, 5] [] rfl rfl (by decide) (by decide) hk1 hFc hP1 hD1
  generalize H1 = H at hP hS ⊢
  have hP : va_P (dC, dI) vwCl [(a6, .inr (6, [.int v6_end, .int v6_bends, .ref a6_from, .ref a6_to, .ref a6_curve])), (a6_from, .inl (cI, 8, .inl f6_from)), (a6_to, .inl (cI, 8, .inl f6_to)), (a6_curve, .inl (cI, 8, .inl f6_curve)), (a5, .inr (5, [.int v5_wind, .int v5_pull, .int v5_room, .int v5_reach])), (a4, .inr (4, [.ref a6, .ref a2, .ref a5, .int v4_begin, .int v4_end, .long v4_wireAtBegin, .long v4_wireAtEnd]))] H := hP
  have hD : va_D A [(a6, .inr (6, [.int v6_end, .int v6_bends, .ref a6_from, .ref a6_to, .ref a6_curve])), (a6_from, .inl (cI, 8, .inl f6_from)), (a6_to, .inl (cI, 8, .inl f6_to)), (a6_curve, .inl (cI, 8, .inl f6_curve)), (a5, .inr (5, [.int v5_wind, .int v5_pull, .int v5_room, .int v5_reach])), (a4, .inr (4, [.ref a6, .ref a2, .ref a5, .int v4_begin, .int v4_end, .long v4_wireAtBegin, .long v4_wireAtEnd]))] := hD
  refine lv_if_eq (tgt := 42) hx hb dX4_keepsStretch_5 (by decide) (fun c2 => ?_) (fun c2 => ?_)
  · replace hw := hw.1 (c2)
    refine lv_iconst (v := (0 : Int32)) hx hb dX4_keepsStretch_42 (by decide) ?_
    have hP9 := hP.sub (ws' := [(a6, .inr (6, [.int v6_end, .int v6_bends, .ref a6_from, .ref a6_to, .ref a6_curve])), (a6_from, .inl (cI, 8, .inl f6_from)), (a6_to, .inl (cI, 8, .inl f6_to)), (a6_curve, .inl (cI, 8, .inl f6_curve)), (a5, .inr (5, [.int v5_wind, .int v5_pull, .int v5_room, .int v5_reach])), (a4, .inr (4, [.ref a6, .ref a2, .ref a5, .int v4_begin, .int v4_end, .long v4_wireAtBegin, .long v4_wireAtEnd]))]) [0, 1, 2, 3, 4, 5] rfl
    have hD9 := hD.sub (ws' := [(a6, .inr (6, [.int v6_end, .int v6_bends, .ref a6_from, .ref a6_to, .ref a6_curve])), (a6_from, .inl (cI, 8, .inl f6_from)), (a6_to, .inl (cI, 8, .inl f6_to)), (a6_curve, .inl (cI, 8, .inl f6_curve)), (a5, .inr (5, [.int v5_wind, .int v5_pull, .int v5_room, .int v5_reach])), (a4, .inr (4, [.ref a6, .ref a2, .ref a5, .int v4_begin, .int v4_end, .long v4_wireAtBegin, .long v4_wireAtEnd]))]) [0, 1, 2, 3, 4, 5] (by decide) rfl
    obtain ⟨h3, hw⟩ := hw
    exact W.zret (v := (0 : Int32)) hx hb hr (wg_bool h3) (fun t ht hW => ⟨⟨(0 : Int32), (), rfl, hw, by rw [ht]; exact hP9, va_K.moved hW.alike hK, hD9⟩, hS.F ht⟩) hS.2.2 dX4_keepsStretch_43
  · replace hw := hw.2 (c2)
    refine lv_aload_n hx hb dX4_keepsStretch_8 rfl (lv_at hl 0 rfl) ?_
    refine lv_iload_n hx hb dX4_keepsStretch_9 rfl (lv_at hl 2 rfl) ?_
    have hPc := hP.sub (ws' := [(a6, .inr (6, [.int v6_end, .int v6_bends, .ref a6_from, .ref a6_to, .ref a6_curve])), (a6_from, .inl (cI, 8, .inl f6_from)), (a6_to, .inl (cI, 8, .inl f6_to)), (a6_curve, .inl (cI, 8, .inl f6_curve)), (a5, .inr (5, [.int v5_wind, .int v5_pull, .int v5_room, .int v5_reach])), (a4, .inr (4, [.ref a6, .ref a2, .ref a5, .int v4_begin, .int v4_end, .long v4_wireAtBegin, .long v4_wireAtEnd]))]) [0, 1, 2, 3, 4, 5] rfl
    have hDc := hD.sub (ws' := [(a6, .inr (6, [.int v6_end, .int v6_bends, .ref a6_from, .ref a6_to, .ref a6_curve])), (a6_from, .inl (cI, 8, .inl f6_from)), (a6_to, .inl (cI, 8, .inl f6_to)), (a6_curve, .inl (cI, 8, .inl f6_curve)), (a5, .inr (5, [.int v5_wind, .int v5_pull, .int v5_room, .int v5_reach])), (a4, .inr (4, [.ref a6, .ref a2, .ref a5, .int v4_begin, .int v4_end, .long v4_wireAtBegin, .long v4_wireAtEnd]))]) [0, 1, 2, 3, 4, 5] (by decide) rfl
    have hFc := va_free (wc := [(a6, .inr (6, [.int v6_end, .int v6_bends, .ref a6_from, .ref a6_to, .ref a6_curve])), (a6_from, .inl (cI, 8, .inl f6_from)), (a6_to, .inl (cI, 8, .inl f6_to)), (a6_curve, .inl (cI, 8, .inl f6_curve)), (a5, .inr (5, [.int v5_wind, .int v5_pull, .int v5_room, .int v5_reach])), (a4, .inr (4, [.ref a6, .ref a2, .ref a5, .int v4_begin, .int v4_end, .long v4_wireAtBegin, .long v4_wireAtEnd]))]) hD hS hA [0, 1, 2, 3, 4, 5] rfl
    refine va_calli (va_runV (As := [.int p2]) (rest := []) ⟨hx, hb, hml, hown, hts⟩ (c_X4_keepsPlace l dC dI cI cJ cZ a6 a6_from a6_to a6_curve a2 a5 a4 H.size v6_end v6_bends f6_from f6_to f6_curve v5_wind v5_pull v5_room v5_reach v4_begin v4_end v4_wireAtBegin v4_wireAtEnd p2 _ hw) (cwV 1 hts gX4_keepsStretch_X4_keepsPlace rfl rfl rfl (by decide +kernel) ⟨Nat.le_of_ble_eq_true rfl, Nat.le_of_ble_eq_true rfl⟩) ⟨fun a U g mk q => by obtain ⟨q0, q1, qP, qK, qD⟩ := q; exact ⟨q0, q1, qP, va_K.moved (u := U) (U := U.calling g mk a) (Vm.Alike.refl U.vm) qK, qD⟩, va_recv hK hP (ci := 4) (q0 := 5) rfl rfl, fun U hU hW => ⟨rfl, by rw [hU], by rw [hU]; exact hPc, va_K.moved hW.alike hK, hDc.weaken (fun _ _ _ _ => trivial)⟩⟩ rfl rfl hl.1 rfl (lv_room (Nat.le_of_ble_eq_true rfl)) dX4_keepsStretch_10 ⟨(Nat.zero_le _), (Nat.zero_le _)⟩) hS (fun q _ h => hFc q h) hFc (fun r4 u t H1 locs ht hvm hw hB hz1 hk1 hS => ?_)
    obtain ⟨hP1, -, hD1⟩ := hB
    try dsimp only at hw
    rw [ht] at hP1
    obtain ⟨hP, hD⟩ := va_join (wr := []) (w1 := [(a6, .inr (6, [.int v6_end, .int v6_bends, .ref a6_from, .ref a6_to, .ref a6_curve])), (a6_from, .inl (cI, 8, .inl f6_from)), (a6_to, .inl (cI, 8, .inl f6_to)), (a6_curve, .inl (cI, 8, .inl f6_curve)), (a5, .inr (5, [.int v5_wind, .int v5_pull, .int v5_room, .int v5_reach])), (a4, .inr (4, [.ref a6, .ref a2, .ref a5, .int v4_begin, .int v4_end, .long v4_wireAtBegin, .long v4_wireAtEnd]))]) hP hD [0, 1, 2, 3, 4, 5] [] rfl rfl (by decide) (by decide) hk1 hFc hP1 hD1
    generalize H1 = H at hP hS ⊢
    have hP : va_P (dC, dI) vwCl [(a6, .inr (6, [.int v6_end, .int v6_bends, .ref a6_from, .ref a6_to, .ref a6_curve])), (a6_from, .inl (cI, 8, .inl f6_from)), (a6_to, .inl (cI, 8, .inl f6_to)), (a6_curve, .inl (cI, 8, .inl f6_curve)), (a5, .inr (5, [.int v5_wind, .int v5_pull, .int v5_room, .int v5_reach])), (a4, .inr (4, [.ref a6, .ref a2, .ref a5, .int v4_begin, .int v4_end, .long v4_wireAtBegin, .long v4_wireAtEnd]))] H := hP
    have hD : va_D A [(a6, .inr (6, [.int v6_end, .int v6_bends, .ref a6_from, .ref a6_to, .ref a6_curve])), (a6_from, .inl (cI, 8, .inl f6_from)), (a6_to, .inl (cI, 8, .inl f6_to)), (a6_curve, .inl (cI, 8, .inl f6_curve)), (a5, .inr (5, [.int v5_wind, .int v5_pull, .int v5_room, .int v5_reach])), (a4, .inr (4, [.ref a6, .ref a2, .ref a5, .int v4_begin, .int v4_end, .long v4_wireAtBegin, .long v4_wireAtEnd]))] := hD
    refine lv_if_eq (tgt := 42) hx hb dX4_keepsStretch_13 (by decide) (fun c5 => ?_) (fun c5 => ?_)
    · replace hw := hw.1 (c5)
      refine lv_iconst (v := (0 : Int32)) hx hb dX4_keepsStretch_42 (by decide) ?_
      have hP9 := hP.sub (ws' := [(a6, .inr (6, [.int v6_end, .int v6_bends, .ref a6_from, .ref a6_to, .ref a6_curve])), (a6_from, .inl (cI, 8, .inl f6_from)), (a6_to, .inl (cI, 8, .inl f6_to)), (a6_curve, .inl (cI, 8, .inl f6_curve)), (a5, .inr (5, [.int v5_wind, .int v5_pull, .int v5_room, .int v5_reach])), (a4, .inr (4, [.ref a6, .ref a2, .ref a5, .int v4_begin, .int v4_end, .long v4_wireAtBegin, .long v4_wireAtEnd]))]) [0, 1, 2, 3, 4, 5] rfl
      have hD9 := hD.sub (ws' := [(a6, .inr (6, [.int v6_end, .int v6_bends, .ref a6_from, .ref a6_to, .ref a6_curve])), (a6_from, .inl (cI, 8, .inl f6_from)), (a6_to, .inl (cI, 8, .inl f6_to)), (a6_curve, .inl (cI, 8, .inl f6_curve)), (a5, .inr (5, [.int v5_wind, .int v5_pull, .int v5_room, .int v5_reach])), (a4, .inr (4, [.ref a6, .ref a2, .ref a5, .int v4_begin, .int v4_end, .long v4_wireAtBegin, .long v4_wireAtEnd]))]) [0, 1, 2, 3, 4, 5] (by decide) rfl
      obtain ⟨h6, hw⟩ := hw
      exact W.zret (v := (0 : Int32)) hx hb hr (wg_bool h6) (fun t ht hW => ⟨⟨(0 : Int32), (), rfl, hw, by rw [ht]; exact hP9, va_K.moved hW.alike hK, hD9⟩, hS.F ht⟩) hS.2.2 dX4_keepsStretch_43
    · replace hw := hw.2 (c5)
      refine lv_aload_n hx hb dX4_keepsStretch_16 rfl (lv_at hl 0 rfl) ?_
      refine lv_iload_n hx hb dX4_keepsStretch_17 rfl (lv_at hl 1 rfl) ?_
      refine lv_iload_n hx hb dX4_keepsStretch_18 rfl (lv_at hl 2 rfl) ?_
      refine lv_iload_n hx hb dX4_keepsStretch_19 rfl (lv_at hl 3 rfl) ?_
      refine lv_iconst (v := (1 : Int32)) hx hb dX4_keepsStretch_20 (by decide) ?_
      have hPc := hP.sub (ws' := [(a6, .inr (6, [.int v6_end, .int v6_bends, .ref a6_from, .ref a6_to, .ref a6_curve])), (a6_from, .inl (cI, 8, .inl f6_from)), (a6_to, .inl (cI, 8, .inl f6_to)), (a6_curve, .inl (cI, 8, .inl f6_curve)), (a5, .inr (5, [.int v5_wind, .int v5_pull, .int v5_room, .int v5_reach])), (a4, .inr (4, [.ref a6, .ref a2, .ref a5, .int v4_begin, .int v4_end, .long v4_wireAtBegin, .long v4_wireAtEnd]))]) [0, 1, 2, 3, 4, 5] rfl
      have hDc := hD.sub (ws' := [(a6, .inr (6, [.int v6_end, .int v6_bends, .ref a6_from, .ref a6_to, .ref a6_curve])), (a6_from, .inl (cI, 8, .inl f6_from)), (a6_to, .inl (cI, 8, .inl f6_to)), (a6_curve, .inl (cI, 8, .inl f6_curve)), (a5, .inr (5, [.int v5_wind, .int v5_pull, .int v5_room, .int v5_reach])), (a4, .inr (4, [.ref a6, .ref a2, .ref a5, .int v4_begin, .int v4_end, .long v4_wireAtBegin, .long v4_wireAtEnd]))]) [0, 1, 2, 3, 4, 5] (by decide) rfl
      have hFc := va_free (wc := [(a6, .inr (6, [.int v6_end, .int v6_bends, .ref a6_from, .ref a6_to, .ref a6_curve])), (a6_from, .inl (cI, 8, .inl f6_from)), (a6_to, .inl (cI, 8, .inl f6_to)), (a6_curve, .inl (cI, 8, .inl f6_curve)), (a5, .inr (5, [.int v5_wind, .int v5_pull, .int v5_room, .int v5_reach])), (a4, .inr (4, [.ref a6, .ref a2, .ref a5, .int v4_begin, .int v4_end, .long v4_wireAtBegin, .long v4_wireAtEnd]))]) hD hS hA [0, 1, 2, 3, 4, 5] rfl
      refine va_calli (va_runV (As := [.int p1, .int p2, .int p3, .int (1 : Int32)]) (rest := []) ⟨hx, hb, hml, hown, hts⟩ (c_X4_keepsTop l dC dI cI cJ cZ a6 a6_from a6_to a6_curve a2 a5 a4 H.size v6_end v6_bends f6_from f6_to f6_curve v5_wind v5_pull v5_room v5_reach v4_begin v4_end v4_wireAtBegin v4_wireAtEnd p1 p2 p3 (1 : Int32) _ hw) (cwV 4 hts gX4_keepsStretch_X4_keepsTop rfl rfl rfl (by decide +kernel) ⟨Nat.le_of_ble_eq_true rfl, Nat.le_of_ble_eq_true rfl⟩) ⟨fun a U g mk q => by obtain ⟨q0, q1, qP, qK, qD⟩ := q; exact ⟨q0, q1, qP, va_K.moved (u := U) (U := U.calling g mk a) (Vm.Alike.refl U.vm) qK, qD⟩, va_recv hK hP (ci := 4) (q0 := 5) rfl rfl, fun U hU hW => ⟨rfl, by rw [hU], by rw [hU]; exact hPc, va_K.moved hW.alike hK, hDc.weaken (fun _ _ _ _ => trivial)⟩⟩ rfl rfl hl.1 rfl (lv_room (Nat.le_of_ble_eq_true rfl)) dX4_keepsStretch_21 ⟨(Nat.zero_le _), (Nat.zero_le _)⟩) hS (fun q _ h => hFc q h) hFc (fun r7 u t H1 locs ht hvm hw hB hz1 hk1 hS => ?_)
      obtain ⟨hP1, -, hD1⟩ := hB
      try dsimp only at hw
      rw [ht] at hP1
      obtain ⟨hP, hD⟩ := va_join (wr := []) (w1 := [(a6, .inr (6, [.int v6_end, .int v6_bends, .ref a6_from, .ref a6_to, .ref a6_curve])), (a6_from, .inl (cI, 8, .inl f6_from)), (a6_to, .inl (cI, 8, .inl f6_to)), (a6_curve, .inl (cI, 8, .inl f6_curve)), (a5, .inr (5, [.int v5_wind, .int v5_pull, .int v5_room, .int v5_reach])), (a4, .inr (4, [.ref a6, .ref a2, .ref a5, .int v4_begin, .int v4_end, .long v4_wireAtBegin, .long v4_wireAtEnd]))]) hP hD [0, 1, 2, 3, 4, 5] [] rfl rfl (by decide) (by decide) hk1 hFc hP1 hD1
      generalize H1 = H at hP hS ⊢
      have hP : va_P (dC, dI) vwCl [(a6, .inr (6, [.int v6_end, .int v6_bends, .ref a6_from, .ref a6_to, .ref a6_curve])), (a6_from, .inl (cI, 8, .inl f6_from)), (a6_to, .inl (cI, 8, .inl f6_to)), (a6_curve, .inl (cI, 8, .inl f6_curve)), (a5, .inr (5, [.int v5_wind, .int v5_pull, .int v5_room, .int v5_reach])), (a4, .inr (4, [.ref a6, .ref a2, .ref a5, .int v4_begin, .int v4_end, .long v4_wireAtBegin, .long v4_wireAtEnd]))] H := hP
      have hD : va_D A [(a6, .inr (6, [.int v6_end, .int v6_bends, .ref a6_from, .ref a6_to, .ref a6_curve])), (a6_from, .inl (cI, 8, .inl f6_from)), (a6_to, .inl (cI, 8, .inl f6_to)), (a6_curve, .inl (cI, 8, .inl f6_curve)), (a5, .inr (5, [.int v5_wind, .int v5_pull, .int v5_room, .int v5_reach])), (a4, .inr (4, [.ref a6, .ref a2, .ref a5, .int v4_begin, .int v4_end, .long v4_wireAtBegin, .long v4_wireAtEnd]))] := hD
      refine lv_if_eq (tgt := 42) hx hb dX4_keepsStretch_24 (by decide) (fun c8 => ?_) (fun c8 => ?_)
      · replace hw := hw.1 (c8)
        refine lv_iconst (v := (0 : Int32)) hx hb dX4_keepsStretch_42 (by decide) ?_
        have hP9 := hP.sub (ws' := [(a6, .inr (6, [.int v6_end, .int v6_bends, .ref a6_from, .ref a6_to, .ref a6_curve])), (a6_from, .inl (cI, 8, .inl f6_from)), (a6_to, .inl (cI, 8, .inl f6_to)), (a6_curve, .inl (cI, 8, .inl f6_curve)), (a5, .inr (5, [.int v5_wind, .int v5_pull, .int v5_room, .int v5_reach])), (a4, .inr (4, [.ref a6, .ref a2, .ref a5, .int v4_begin, .int v4_end, .long v4_wireAtBegin, .long v4_wireAtEnd]))]) [0, 1, 2, 3, 4, 5] rfl
        have hD9 := hD.sub (ws' := [(a6, .inr (6, [.int v6_end, .int v6_bends, .ref a6_from, .ref a6_to, .ref a6_curve])), (a6_from, .inl (cI, 8, .inl f6_from)), (a6_to, .inl (cI, 8, .inl f6_to)), (a6_curve, .inl (cI, 8, .inl f6_curve)), (a5, .inr (5, [.int v5_wind, .int v5_pull, .int v5_room, .int v5_reach])), (a4, .inr (4, [.ref a6, .ref a2, .ref a5, .int v4_begin, .int v4_end, .long v4_wireAtBegin, .long v4_wireAtEnd]))]) [0, 1, 2, 3, 4, 5] (by decide) rfl
        obtain ⟨h9, hw⟩ := hw
        exact W.zret (v := (0 : Int32)) hx hb hr (wg_bool h9) (fun t ht hW => ⟨⟨(0 : Int32), (), rfl, hw, by rw [ht]; exact hP9, va_K.moved hW.alike hK, hD9⟩, hS.F ht⟩) hS.2.2 dX4_keepsStretch_43
      · replace hw := hw.2 (c8)
        refine lv_aload_n hx hb dX4_keepsStretch_27 rfl (lv_at hl 0 rfl) ?_
        refine lv_iload_n hx hb dX4_keepsStretch_28 rfl (lv_at hl 1 rfl) ?_
        refine lv_iload_n hx hb dX4_keepsStretch_29 rfl (lv_at hl 2 rfl) ?_
        refine lv_iload_n hx hb dX4_keepsStretch_30 rfl (lv_at hl 3 rfl) ?_
        refine lv_iconst (v := (-1 : Int32)) hx hb dX4_keepsStretch_31 (by decide) ?_
        have hPc := hP.sub (ws' := [(a6, .inr (6, [.int v6_end, .int v6_bends, .ref a6_from, .ref a6_to, .ref a6_curve])), (a6_from, .inl (cI, 8, .inl f6_from)), (a6_to, .inl (cI, 8, .inl f6_to)), (a6_curve, .inl (cI, 8, .inl f6_curve)), (a5, .inr (5, [.int v5_wind, .int v5_pull, .int v5_room, .int v5_reach])), (a4, .inr (4, [.ref a6, .ref a2, .ref a5, .int v4_begin, .int v4_end, .long v4_wireAtBegin, .long v4_wireAtEnd]))]) [0, 1, 2, 3, 4, 5] rfl
        have hDc := hD.sub (ws' := [(a6, .inr (6, [.int v6_end, .int v6_bends, .ref a6_from, .ref a6_to, .ref a6_curve])), (a6_from, .inl (cI, 8, .inl f6_from)), (a6_to, .inl (cI, 8, .inl f6_to)), (a6_curve, .inl (cI, 8, .inl f6_curve)), (a5, .inr (5, [.int v5_wind, .int v5_pull, .int v5_room, .int v5_reach])), (a4, .inr (4, [.ref a6, .ref a2, .ref a5, .int v4_begin, .int v4_end, .long v4_wireAtBegin, .long v4_wireAtEnd]))]) [0, 1, 2, 3, 4, 5] (by decide) rfl
        have hFc := va_free (wc := [(a6, .inr (6, [.int v6_end, .int v6_bends, .ref a6_from, .ref a6_to, .ref a6_curve])), (a6_from, .inl (cI, 8, .inl f6_from)), (a6_to, .inl (cI, 8, .inl f6_to)), (a6_curve, .inl (cI, 8, .inl f6_curve)), (a5, .inr (5, [.int v5_wind, .int v5_pull, .int v5_room, .int v5_reach])), (a4, .inr (4, [.ref a6, .ref a2, .ref a5, .int v4_begin, .int v4_end, .long v4_wireAtBegin, .long v4_wireAtEnd]))]) hD hS hA [0, 1, 2, 3, 4, 5] rfl
        refine va_calli (va_runV (As := [.int p1, .int p2, .int p3, .int (-1 : Int32)]) (rest := []) ⟨hx, hb, hml, hown, hts⟩ (c_X4_keepsTop l dC dI cI cJ cZ a6 a6_from a6_to a6_curve a2 a5 a4 H.size v6_end v6_bends f6_from f6_to f6_curve v5_wind v5_pull v5_room v5_reach v4_begin v4_end v4_wireAtBegin v4_wireAtEnd p1 p2 p3 (-1 : Int32) _ hw) (cwV 4 hts gX4_keepsStretch_X4_keepsTop rfl rfl rfl (by decide +kernel) ⟨Nat.le_of_ble_eq_true rfl, Nat.le_of_ble_eq_true rfl⟩) ⟨fun a U g mk q => by obtain ⟨q0, q1, qP, qK, qD⟩ := q; exact ⟨q0, q1, qP, va_K.moved (u := U) (U := U.calling g mk a) (Vm.Alike.refl U.vm) qK, qD⟩, va_recv hK hP (ci := 4) (q0 := 5) rfl rfl, fun U hU hW => ⟨rfl, by rw [hU], by rw [hU]; exact hPc, va_K.moved hW.alike hK, hDc.weaken (fun _ _ _ _ => trivial)⟩⟩ rfl rfl hl.1 rfl (lv_room (Nat.le_of_ble_eq_true rfl)) dX4_keepsStretch_32 ⟨(Nat.zero_le _), (Nat.zero_le _)⟩) hS (fun q _ h => hFc q h) hFc (fun r10 u t H1 locs ht hvm hw hB hz1 hk1 hS => ?_)
        obtain ⟨hP1, -, hD1⟩ := hB
        try dsimp only at hw
        rw [ht] at hP1
        obtain ⟨hP, hD⟩ := va_join (wr := []) (w1 := [(a6, .inr (6, [.int v6_end, .int v6_bends, .ref a6_from, .ref a6_to, .ref a6_curve])), (a6_from, .inl (cI, 8, .inl f6_from)), (a6_to, .inl (cI, 8, .inl f6_to)), (a6_curve, .inl (cI, 8, .inl f6_curve)), (a5, .inr (5, [.int v5_wind, .int v5_pull, .int v5_room, .int v5_reach])), (a4, .inr (4, [.ref a6, .ref a2, .ref a5, .int v4_begin, .int v4_end, .long v4_wireAtBegin, .long v4_wireAtEnd]))]) hP hD [0, 1, 2, 3, 4, 5] [] rfl rfl (by decide) (by decide) hk1 hFc hP1 hD1
        generalize H1 = H at hP hS ⊢
        have hP : va_P (dC, dI) vwCl [(a6, .inr (6, [.int v6_end, .int v6_bends, .ref a6_from, .ref a6_to, .ref a6_curve])), (a6_from, .inl (cI, 8, .inl f6_from)), (a6_to, .inl (cI, 8, .inl f6_to)), (a6_curve, .inl (cI, 8, .inl f6_curve)), (a5, .inr (5, [.int v5_wind, .int v5_pull, .int v5_room, .int v5_reach])), (a4, .inr (4, [.ref a6, .ref a2, .ref a5, .int v4_begin, .int v4_end, .long v4_wireAtBegin, .long v4_wireAtEnd]))] H := hP
        have hD : va_D A [(a6, .inr (6, [.int v6_end, .int v6_bends, .ref a6_from, .ref a6_to, .ref a6_curve])), (a6_from, .inl (cI, 8, .inl f6_from)), (a6_to, .inl (cI, 8, .inl f6_to)), (a6_curve, .inl (cI, 8, .inl f6_curve)), (a5, .inr (5, [.int v5_wind, .int v5_pull, .int v5_room, .int v5_reach])), (a4, .inr (4, [.ref a6, .ref a2, .ref a5, .int v4_begin, .int v4_end, .long v4_wireAtBegin, .long v4_wireAtEnd]))] := hD
        refine lv_if_eq (tgt := 42) hx hb dX4_keepsStretch_35 (by decide) (fun c11 => ?_) (fun c11 => ?_)
        · replace hw := hw.1 (c11)
          refine lv_iconst (v := (0 : Int32)) hx hb dX4_keepsStretch_42 (by decide) ?_
          have hP9 := hP.sub (ws' := [(a6, .inr (6, [.int v6_end, .int v6_bends, .ref a6_from, .ref a6_to, .ref a6_curve])), (a6_from, .inl (cI, 8, .inl f6_from)), (a6_to, .inl (cI, 8, .inl f6_to)), (a6_curve, .inl (cI, 8, .inl f6_curve)), (a5, .inr (5, [.int v5_wind, .int v5_pull, .int v5_room, .int v5_reach])), (a4, .inr (4, [.ref a6, .ref a2, .ref a5, .int v4_begin, .int v4_end, .long v4_wireAtBegin, .long v4_wireAtEnd]))]) [0, 1, 2, 3, 4, 5] rfl
          have hD9 := hD.sub (ws' := [(a6, .inr (6, [.int v6_end, .int v6_bends, .ref a6_from, .ref a6_to, .ref a6_curve])), (a6_from, .inl (cI, 8, .inl f6_from)), (a6_to, .inl (cI, 8, .inl f6_to)), (a6_curve, .inl (cI, 8, .inl f6_curve)), (a5, .inr (5, [.int v5_wind, .int v5_pull, .int v5_room, .int v5_reach])), (a4, .inr (4, [.ref a6, .ref a2, .ref a5, .int v4_begin, .int v4_end, .long v4_wireAtBegin, .long v4_wireAtEnd]))]) [0, 1, 2, 3, 4, 5] (by decide) rfl
          obtain ⟨h12, hw⟩ := hw
          exact W.zret (v := (0 : Int32)) hx hb hr (wg_bool h12) (fun t ht hW => ⟨⟨(0 : Int32), (), rfl, hw, by rw [ht]; exact hP9, va_K.moved hW.alike hK, hD9⟩, hS.F ht⟩) hS.2.2 dX4_keepsStretch_43
        · replace hw := hw.2 (c11)
          refine lv_iconst (v := (1 : Int32)) hx hb dX4_keepsStretch_38 (by decide) ?_
          refine lv_goto (tgt := 43) hx hb dX4_keepsStretch_39 (by decide) ?_
          have hP9 := hP.sub (ws' := [(a6, .inr (6, [.int v6_end, .int v6_bends, .ref a6_from, .ref a6_to, .ref a6_curve])), (a6_from, .inl (cI, 8, .inl f6_from)), (a6_to, .inl (cI, 8, .inl f6_to)), (a6_curve, .inl (cI, 8, .inl f6_curve)), (a5, .inr (5, [.int v5_wind, .int v5_pull, .int v5_room, .int v5_reach])), (a4, .inr (4, [.ref a6, .ref a2, .ref a5, .int v4_begin, .int v4_end, .long v4_wireAtBegin, .long v4_wireAtEnd]))]) [0, 1, 2, 3, 4, 5] rfl
          have hD9 := hD.sub (ws' := [(a6, .inr (6, [.int v6_end, .int v6_bends, .ref a6_from, .ref a6_to, .ref a6_curve])), (a6_from, .inl (cI, 8, .inl f6_from)), (a6_to, .inl (cI, 8, .inl f6_to)), (a6_curve, .inl (cI, 8, .inl f6_curve)), (a5, .inr (5, [.int v5_wind, .int v5_pull, .int v5_room, .int v5_reach])), (a4, .inr (4, [.ref a6, .ref a2, .ref a5, .int v4_begin, .int v4_end, .long v4_wireAtBegin, .long v4_wireAtEnd]))]) [0, 1, 2, 3, 4, 5] (by decide) rfl
          obtain ⟨h13, hw⟩ := hw
          exact W.zret (v := (1 : Int32)) hx hb hr (wg_bool h13) (fun t ht hW => ⟨⟨(1 : Int32), (), rfl, hw, by rw [ht]; exact hP9, va_K.moved hW.alike hK, hD9⟩, hS.F ht⟩) hS.2.2 dX4_keepsStretch_43

theorem inX4_isKept_X4 : ∀ w ∈ wsX40, w ∈ wsX4_isKept := fun _ h => List.mem_cons_of_mem _ (List.mem_append_left _ (List.mem_append_left _ (List.mem_append_right _ h)))
theorem inX4_isKept_X5 : ∀ w ∈ wsX50, w ∈ wsX4_isKept := fun _ h => List.mem_cons_of_mem _ (List.mem_append_left _ (List.mem_append_right _ h))
theorem inX4_isKept_X6 : ∀ w ∈ wsX60, w ∈ wsX4_isKept := fun _ h => List.mem_cons_of_mem _ (List.mem_append_right _ h)
def wb_X4_isKept_169 (Q : Int32 → Prop) (v6_bends : Int32) (f6_from : Nat → Int32) (f6_to : Nat → Int32) (f6_curve : Nat → Int32) (v5_wind : Int32) (v5_pull : Int32) (v5_room : Int32) (v5_reach : Int32) (v4_begin : Int32) (v4_end : Int32) (v4_wireAtBegin : Int64) (v4_wireAtEnd : Int64) (y169_1 : Int32) : Prop :=
  ((v4_end ≤ y169_1 → (((1 : Int32) = 0 ∨ (1 : Int32) = 1) ∧ Q (1 : Int32) )) ∧ (¬ v4_end ≤ y169_1 → (wp_X4_keepsStretch (fun r5 => ((r5 = 0 → (((0 : Int32) = 0 ∨ (0 : Int32) = 1) ∧ Q (0 : Int32) )) ∧ (¬ r5 = 0 → (((1 : Int32) = 0 ∨ (1 : Int32) = 1) ∧ Q (1 : Int32) )))) v6_bends f6_from f6_to f6_curve v5_wind v5_pull v5_room v4_begin v4_end v4_wireAtBegin v4_wireAtEnd y169_1 v4_end (0 : Int32))))
def wb_X4_isKept_163 (Q : Int32 → Prop) (v6_bends : Int32) (f6_from : Nat → Int32) (f6_to : Nat → Int32) (f6_curve : Nat → Int32) (v5_wind : Int32) (v5_pull : Int32) (v5_room : Int32) (v5_reach : Int32) (v4_begin : Int32) (v4_end : Int32) (v4_wireAtBegin : Int64) (v4_wireAtEnd : Int64) (K28 : (Int32) → (Int32) → Prop) (y163_1 : Int32) (y163_2 : Int32) : Prop :=
  (∀ x16 : Int32, x16 = y163_2 + (1 : Int32) → (K28 y163_1 x16))
def wb_X4_isKept_133 (Q : Int32 → Prop) (v6_bends : Int32) (f6_from : Nat → Int32) (f6_to : Nat → Int32) (f6_curve : Nat → Int32) (v5_wind : Int32) (v5_pull : Int32) (v5_room : Int32) (v5_reach : Int32) (v4_begin : Int32) (v4_end : Int32) (v4_wireAtBegin : Int64) (v4_wireAtEnd : Int64) (K28 : (Int32) → (Int32) → Prop) (y133_1 : Int32) (y133_2 : Int32) (y133_4 : Int32) : Prop :=
  ((y133_4 ≤ y133_1 → (wb_X4_isKept_163 Q v6_bends f6_from f6_to f6_curve v5_wind v5_pull v5_room v5_reach v4_begin v4_end v4_wireAtBegin v4_wireAtEnd K28 y133_1 y133_2)) ∧ (¬ y133_4 ≤ y133_1 → (vp_in y133_2 8 ∧ (wp_X4_keepsStretch (fun r18 => ((r18 = 0 → (((0 : Int32) = 0 ∨ (0 : Int32) = 1) ∧ Q (0 : Int32) )) ∧ (¬ r18 = 0 → (wb_X4_isKept_163 Q v6_bends f6_from f6_to f6_curve v5_wind v5_pull v5_room v5_reach v4_begin v4_end v4_wireAtBegin v4_wireAtEnd K28 y133_4 y133_2)))) v6_bends f6_from f6_to f6_curve v5_wind v5_pull v5_room v4_begin v4_end v4_wireAtBegin v4_wireAtEnd y133_1 y133_4 (f6_curve y133_2.toNatClampNeg)))))
def wb_X4_isKept_112 (Q : Int32 → Prop) (v6_bends : Int32) (f6_from : Nat → Int32) (f6_to : Nat → Int32) (f6_curve : Nat → Int32) (v5_wind : Int32) (v5_pull : Int32) (v5_room : Int32) (v5_reach : Int32) (v4_begin : Int32) (v4_end : Int32) (v4_wireAtBegin : Int64) (v4_wireAtEnd : Int64) (K28 : (Int32) → (Int32) → Prop) (y112_1 : Int32) (y112_2 : Int32) (y112_3 : Int32) (k112_0 : Int32) : Prop :=
  ((y112_3 ≤ y112_1 → (wb_X4_isKept_133 Q v6_bends f6_from f6_to f6_curve v5_wind v5_pull v5_room v5_reach v4_begin v4_end v4_wireAtBegin v4_wireAtEnd K28 y112_1 y112_2 k112_0)) ∧ (¬ y112_3 ≤ y112_1 → (wp_X4_keepsStretch (fun r21 => ((r21 = 0 → (((0 : Int32) = 0 ∨ (0 : Int32) = 1) ∧ Q (0 : Int32) )) ∧ (¬ r21 = 0 → (wb_X4_isKept_133 Q v6_bends f6_from f6_to f6_curve v5_wind v5_pull v5_room v5_reach v4_begin v4_end v4_wireAtBegin v4_wireAtEnd K28 y112_3 y112_2 k112_0)))) v6_bends f6_from f6_to f6_curve v5_wind v5_pull v5_room v4_begin v4_end v4_wireAtBegin v4_wireAtEnd y112_1 y112_3 (0 : Int32))))
def wb_X4_isKept_79 (Q : Int32 → Prop) (v6_bends : Int32) (f6_from : Nat → Int32) (f6_to : Nat → Int32) (f6_curve : Nat → Int32) (v5_wind : Int32) (v5_pull : Int32) (v5_room : Int32) (v5_reach : Int32) (v4_begin : Int32) (v4_end : Int32) (v4_wireAtBegin : Int64) (v4_wireAtEnd : Int64) (K28 : (Int32) → (Int32) → Prop) (y79_1 : Int32) (y79_2 : Int32) (k79_0 : Int32) : Prop :=
  (vp_in y79_2 8 ∧ ((v4_end ≤ (f6_to y79_2.toNatClampNeg) → (wb_X4_isKept_112 Q v6_bends f6_from f6_to f6_curve v5_wind v5_pull v5_room v5_reach v4_begin v4_end v4_wireAtBegin v4_wireAtEnd K28 y79_1 y79_2 k79_0 v4_end)) ∧ (¬ v4_end ≤ (f6_to y79_2.toNatClampNeg) → (vp_in y79_2 8 ∧ (wb_X4_isKept_112 Q v6_bends f6_from f6_to f6_curve v5_wind v5_pull v5_room v5_reach v4_begin v4_end v4_wireAtBegin v4_wireAtEnd K28 y79_1 y79_2 k79_0 (f6_to y79_2.toNatClampNeg))))))
def wb_X4_isKept_28 (Q : Int32 → Prop) (v6_bends : Int32) (f6_from : Nat → Int32) (f6_to : Nat → Int32) (f6_curve : Nat → Int32) (v5_wind : Int32) (v5_pull : Int32) (v5_room : Int32) (v5_reach : Int32) (v4_begin : Int32) (v4_end : Int32) (v4_wireAtBegin : Int64) (v4_wireAtEnd : Int64) (K28 : (Int32) → (Int32) → Prop) (y28_1 : Int32) (y28_2 : Int32) : Prop :=
  ((v6_bends ≤ y28_2 → (wb_X4_isKept_169 Q v6_bends f6_from f6_to f6_curve v5_wind v5_pull v5_room v5_reach v4_begin v4_end v4_wireAtBegin v4_wireAtEnd  y28_1)) ∧ (¬ v6_bends ≤ y28_2 → ((v4_end ≤ y28_1 → (wb_X4_isKept_169 Q v6_bends f6_from f6_to f6_curve v5_wind v5_pull v5_room v5_reach v4_begin v4_end v4_wireAtBegin v4_wireAtEnd  y28_1)) ∧ (¬ v4_end ≤ y28_1 → (vp_in y28_2 8 ∧ ((v4_end ≤ (f6_from y28_2.toNatClampNeg) → (wb_X4_isKept_79 Q v6_bends f6_from f6_to f6_curve v5_wind v5_pull v5_room v5_reach v4_begin v4_end v4_wireAtBegin v4_wireAtEnd K28 y28_1 y28_2 v4_end)) ∧ (¬ v4_end ≤ (f6_from y28_2.toNatClampNeg) → (vp_in y28_2 8 ∧ (wb_X4_isKept_79 Q v6_bends f6_from f6_to f6_curve v5_wind v5_pull v5_room v5_reach v4_begin v4_end v4_wireAtBegin v4_wireAtEnd K28 y28_1 y28_2 (f6_from y28_2.toNatClampNeg))))))))))
def wl_X4_isKept_28 (Q : Int32 → Prop) (v6_bends : Int32) (f6_from : Nat → Int32) (f6_to : Nat → Int32) (f6_curve : Nat → Int32) (v5_wind : Int32) (v5_pull : Int32) (v5_room : Int32) (v5_reach : Int32) (v4_begin : Int32) (v4_end : Int32) (v4_wireAtBegin : Int64) (v4_wireAtEnd : Int64) : Nat → (Int32) → (Int32) → Prop
  | 0, _, _ => False
  | n + 1, y28_1, y28_2 => wb_X4_isKept_28 Q v6_bends f6_from f6_to f6_curve v5_wind v5_pull v5_room v5_reach v4_begin v4_end v4_wireAtBegin v4_wireAtEnd  (wl_X4_isKept_28 Q v6_bends f6_from f6_to f6_curve v5_wind v5_pull v5_room v5_reach v4_begin v4_end v4_wireAtBegin v4_wireAtEnd  n) y28_1 y28_2
def wp_X4_isKept (Q : Int32 → Prop) (v6_bends : Int32) (f6_from : Nat → Int32) (f6_to : Nat → Int32) (f6_curve : Nat → Int32) (v5_wind : Int32) (v5_pull : Int32) (v5_room : Int32) (v5_reach : Int32) (v4_begin : Int32) (v4_end : Int32) (v4_wireAtBegin : Int64) (v4_wireAtEnd : Int64) : Prop :=
  (((v4_end - v4_begin) ≤ v5_reach → (∃ n : Nat, wl_X4_isKept_28 Q v6_bends f6_from f6_to f6_curve v5_wind v5_pull v5_room v5_reach v4_begin v4_end v4_wireAtBegin v4_wireAtEnd  n v4_begin (0 : Int32))) ∧ (¬ (v4_end - v4_begin) ≤ v5_reach → (((0 : Int32) = 0 ∨ (0 : Int32) = 1) ∧ Q (0 : Int32) )))
set_option maxHeartbeats 4000000 in
set_option maxRecDepth 100000 in
theorem c_X4_isKept (l : Launch) (dC : Nat → ClassId) (dI : Nat → Nat → Nat) (cI cJ cZ : ClassId) (a6 : Nat) (a6_from : Nat) (a6_to : Nat) (a6_curve : Nat) (a2 : Nat) (a5 : Nat) (a4 : Nat) (sz : Nat) (v6_end : Int32) (v6_bends : Int32) (f6_from : Nat → Int32) (f6_to : Nat → Int32) (f6_curve : Nat → Int32) (v5_wind : Int32) (v5_pull : Int32) (v5_room : Int32) (v5_reach : Int32) (v4_begin : Int32) (v4_end : Int32) (v4_wireAtBegin : Int64) (v4_wireAtEnd : Int64) (Q : Int32 → Prop) (hw : wp_X4_isKept Q v6_bends f6_from f6_to f6_curve v5_wind v5_pull v5_room v5_reach v4_begin v4_end v4_wireAtBegin v4_wireAtEnd ) : Met l yX4_isKept wsX4_isKept ({ frames := 4, cells := 0, slots := 0, locals := 103 } : Room) (va_Pc [.ref a4] (fun U => U.heap.size = sz ∧ va_P (dC, dI) vwCl [(a6, .inr (6, [.int v6_end, .int v6_bends, .ref a6_from, .ref a6_to, .ref a6_curve])), (a6_from, .inl (cI, 8, .inl f6_from)), (a6_to, .inl (cI, 8, .inl f6_to)), (a6_curve, .inl (cI, 8, .inl f6_curve)), (a5, .inr (5, [.int v5_wind, .int v5_pull, .int v5_room, .int v5_reach])), (a4, .inr (4, [.ref a6, .ref a2, .ref a5, .int v4_begin, .int v4_end, .long v4_wireAtBegin, .long v4_wireAtEnd]))] U.heap ∧ va_K (dC, dI) vwCl [(cI, .int), (cJ, .long), (cZ, .boolean)] U ∧ va_D (fun _ => True) [(a6, .inr (6, [.int v6_end, .int v6_bends, .ref a6_from, .ref a6_to, .ref a6_curve])), (a6_from, .inl (cI, 8, .inl f6_from)), (a6_to, .inl (cI, 8, .inl f6_to)), (a6_curve, .inl (cI, 8, .inl f6_curve)), (a5, .inr (5, [.int v5_wind, .int v5_pull, .int v5_room, .int v5_reach])), (a4, .inr (4, [.ref a6, .ref a2, .ref a5, .int v4_begin, .int v4_end, .long v4_wireAtBegin, .long v4_wireAtEnd]))])) (va_Qi (fun r (u : Unit) => Q r) (fun (u : Unit) t => va_P (dC, dI) vwCl [(a6, .inr (6, [.int v6_end, .int v6_bends, .ref a6_from, .ref a6_to, .ref a6_curve])), (a6_from, .inl (cI, 8, .inl f6_from)), (a6_to, .inl (cI, 8, .inl f6_to)), (a6_curve, .inl (cI, 8, .inl f6_curve)), (a5, .inr (5, [.int v5_wind, .int v5_pull, .int v5_room, .int v5_reach])), (a4, .inr (4, [.ref a6, .ref a2, .ref a5, .int v4_begin, .int v4_end, .long v4_wireAtBegin, .long v4_wireAtEnd]))] t.heap ∧ va_K (dC, dI) vwCl [(cI, .int), (cJ, .long), (cZ, .boolean)] t ∧ va_D (va_A [(a6, .inr (6, [.int v6_end, .int v6_bends, .ref a6_from, .ref a6_to, .ref a6_curve])), (a6_from, .inl (cI, 8, .inl f6_from)), (a6_to, .inl (cI, 8, .inl f6_to)), (a6_curve, .inl (cI, 8, .inl f6_curve)), (a5, .inr (5, [.int v5_wind, .int v5_pull, .int v5_room, .int v5_reach])), (a4, .inr (4, [.ref a6, .ref a2, .ref a5, .int v4_begin, .int v4_end, .long v4_wireAtBegin, .long v4_wireAtEnd]))] sz) [(a6, .inr (6, [.int v6_end, .int v6_bends, .ref a6_from, .ref a6_to, .ref a6_curve])), (a6_from, .inl (cI, 8, .inl f6_from)), (a6_to, .inl (cI, 8, .inl f6_to)), (a6_curve, .inl (cI, 8, .inl f6_curve)), (a5, .inr (5, [.int v5_wind, .int v5_pull, .int v5_room, .int v5_reach])), (a4, .inr (4, [.ref a6, .ref a2, .ref a5, .int v4_begin, .int v4_end, .long v4_wireAtBegin, .long v4_wireAtEnd]))]) (va_A [(a6, .inr (6, [.int v6_end, .int v6_bends, .ref a6_from, .ref a6_to, .ref a6_curve])), (a6_from, .inl (cI, 8, .inl f6_from)), (a6_to, .inl (cI, 8, .inl f6_to)), (a6_curve, .inl (cI, 8, .inl f6_curve)), (a5, .inr (5, [.int v5_wind, .int v5_pull, .int v5_room, .int v5_reach])), (a4, .inr (4, [.ref a6, .ref a2, .ref a5, .int v4_begin, .int v4_end, .long v4_wireAtBegin, .long v4_wireAtEnd]))] sz)) 0 0 (va_A [(a6, .inr (6, [.int v6_end, .int v6_bends, .ref a6_from, .ref a6_to, .ref a6_curve])), (a6_from, .inl (cI, 8, .inl f6_from)), (a6_to, .inl (cI, 8, .inl f6_to)), (a6_curve, .inl (cI, 8, .inl f6_curve)), (a5, .inr (5, [.int v5_wind, .int v5_pull, .int v5_room, .int v5_reach])), (a4, .inr (4, [.ref a6, .ref a2, .ref a5, .int v4_begin, .int v4_end, .long v4_wireAtBegin, .long v4_wireAtEnd]))] sz) := by
  refine Met.ofW (cc := cX4_isKept) (maxL := 5) (ret := (some .boolean)) (by decide) rfl ?_
  intro p e s m args below meth c s₁ B hml hv
  obtain ⟨rfl, hsz, hP, hK, hD0⟩ := hv
  have hx := B.exec
  have hb := B.bytes
  have hr := B.returns
  have hts := atoms_spec (ws := wsX4_isKept) B.pre
  have hown : s.vm.findClass RX4 = some m.cls := findClass_of_methodNamed B.named
  have hlocks := B.notSynchronized
  subst hsz
  have hD := hD0.self (sz := s.heap.size)
  generalize hAe : va_A [(a6, .inr (6, [.int v6_end, .int v6_bends, .ref a6_from, .ref a6_to, .ref a6_curve])), (a6_from, .inl (cI, 8, .inl f6_from)), (a6_to, .inl (cI, 8, .inl f6_to)), (a6_curve, .inl (cI, 8, .inl f6_curve)), (a5, .inr (5, [.int v5_wind, .int v5_pull, .int v5_room, .int v5_reach])), (a4, .inr (4, [.ref a6, .ref a2, .ref a5, .int v4_begin, .int v4_end, .long v4_wireAtBegin, .long v4_wireAtEnd]))] s.heap.size = A at hD ⊢
  have hA : ∀ q : Nat, s.heap.size ≤ q → A q := fun q h => by rw [← hAe]; exact Or.inr h
  have hS : va_S A s.heap s.heap [] := va_S.rf
  have hP : va_P (dC, dI) vwCl [(a6, .inr (6, [.int v6_end, .int v6_bends, .ref a6_from, .ref a6_to, .ref a6_curve])), (a6_from, .inl (cI, 8, .inl f6_from)), (a6_to, .inl (cI, 8, .inl f6_to)), (a6_curve, .inl (cI, 8, .inl f6_curve)), (a5, .inr (5, [.int v5_wind, .int v5_pull, .int v5_room, .int v5_reach])), (a4, .inr (4, [.ref a6, .ref a2, .ref a5, .int v4_begin, .int v4_end, .long v4_wireAtBegin, .long v4_wireAtEnd]))] s.heap := hP
  have lk1 := hts (.fieldLink RX4 33 "WireRow$Span" "end" "I") (by decide +kernel)
  have lk2 := hts (.fieldLink RX4 29 "WireRow$Span" "begin" "I") (by decide +kernel)
  have lk3 := hts (.fieldLink RX4 19 "WireRow$Span" "sweep" "LWireRow$Sweep;") (by decide +kernel)
  have lk4 := hts (.fieldLink RX4 81 "WireRow$Sweep" "reach" "I") (by decide +kernel)
  have lk5 := hts (.fieldLink RX4 9 "WireRow$Span" "track" "LWireRow$Track;") (by decide +kernel)
  have lk6 := hts (.fieldLink RX4 84 "WireRow$Track" "bends" "I") (by decide +kernel)
  have lk7 := hts (.fieldLink RX4 87 "WireRow$Track" "from" "[I") (by decide +kernel)
  have lk8 := hts (.fieldLink RX4 90 "WireRow$Track" "to" "[I") (by decide +kernel)
  have lk9 := hts (.fieldLink RX4 97 "WireRow$Track" "curve" "[I") (by decide +kernel)
  have k_169 : ∀  (y169_1 : Int32) (H : Heap) (locs : List Loc) (ls : Array Slot), va_P (dC, dI) vwCl [(a6, .inr (6, [.int v6_end, .int v6_bends, .ref a6_from, .ref a6_to, .ref a6_curve])), (a6_from, .inl (cI, 8, .inl f6_from)), (a6_to, .inl (cI, 8, .inl f6_to)), (a6_curve, .inl (cI, 8, .inl f6_curve)), (a5, .inr (5, [.int v5_wind, .int v5_pull, .int v5_room, .int v5_reach])), (a4, .inr (4, [.ref a6, .ref a2, .ref a5, .int v4_begin, .int v4_end, .long v4_wireAtBegin, .long v4_wireAtEnd]))] H → va_D A [(a6, .inr (6, [.int v6_end, .int v6_bends, .ref a6_from, .ref a6_to, .ref a6_curve])), (a6_from, .inl (cI, 8, .inl f6_from)), (a6_to, .inl (cI, 8, .inl f6_to)), (a6_curve, .inl (cI, 8, .inl f6_curve)), (a5, .inr (5, [.int v5_wind, .int v5_pull, .int v5_room, .int v5_reach])), (a4, .inr (4, [.ref a6, .ref a2, .ref a5, .int v4_begin, .int v4_end, .long v4_wireAtBegin, .long v4_wireAtEnd]))] → va_S A s.heap H locs → lv_has ls 5 [(0, .ref a4), (1, .int y169_1)] → (wb_X4_isKept_169 Q v6_bends f6_from f6_to f6_curve v5_wind v5_pull v5_room v5_reach v4_begin v4_end v4_wireAtBegin v4_wireAtEnd  y169_1) → W p l e (headSpec wsX4_isKept ({ frames := 4, cells := 0, slots := 0, locals := 103 } : Room)).room s m [.ref a4].toArray below meth c H locs 0 0 (MQ below (va_Qi (fun r (u : Unit) => Q r) (fun (u : Unit) t => va_P (dC, dI) vwCl [(a6, .inr (6, [.int v6_end, .int v6_bends, .ref a6_from, .ref a6_to, .ref a6_curve])), (a6_from, .inl (cI, 8, .inl f6_from)), (a6_to, .inl (cI, 8, .inl f6_to)), (a6_curve, .inl (cI, 8, .inl f6_curve)), (a5, .inr (5, [.int v5_wind, .int v5_pull, .int v5_room, .int v5_reach])), (a4, .inr (4, [.ref a6, .ref a2, .ref a5, .int v4_begin, .int v4_end, .long v4_wireAtBegin, .long v4_wireAtEnd]))] t.heap ∧ va_K (dC, dI) vwCl [(cI, .int), (cJ, .long), (cZ, .boolean)] t ∧ va_D A [(a6, .inr (6, [.int v6_end, .int v6_bends, .ref a6_from, .ref a6_to, .ref a6_curve])), (a6_from, .inl (cI, 8, .inl f6_from)), (a6_to, .inl (cI, 8, .inl f6_to)), (a6_curve, .inl (cI, 8, .inl f6_curve)), (a5, .inr (5, [.int v5_wind, .int v5_pull, .int v5_room, .int v5_reach])), (a4, .inr (4, [.ref a6, .ref a2, .ref a5, .int v4_begin, .int v4_end, .long v4_wireAtBegin, .long v4_wireAtEnd]))]) A) [.ref a4].toArray s 0 0 A) (F0 m 169 ls []) := by
    intro y169_1 H locs ls hP hD hS hl hw
    unfold wb_X4_isKept_169 at hw
    refine lv_iload_n hx hb dX4_isKept_169 rfl (lv_at hl 1 rfl) ?_
    refine lv_aload_n hx hb dX4_isKept_170 rfl (lv_at hl 0 rfl) ?_
    refine va_get (D := (dC, dI)) (ci := 4) (v := .int v4_end) (C := RX4) (T := TX4) (N := 7) hx hb hts inX4_isKept_X4 hown hK hP 5 rfl rfl 4 (by decide) lk1 (fun _ h9 => h9) rfl dX4_isKept_171 ?_
    refine lv_icmp_ge (tgt := 190) hx hb dX4_isKept_174 (by decide) (fun c3 => ?_) (fun c3 => ?_)
    · replace hw := hw.1 (c3)
      refine lv_iconst (v := (1 : Int32)) hx hb dX4_isKept_190 (by decide) ?_
      refine lv_goto (tgt := 195) hx hb dX4_isKept_191 (by decide) ?_
      have hP9 := hP.sub (ws' := [(a6, .inr (6, [.int v6_end, .int v6_bends, .ref a6_from, .ref a6_to, .ref a6_curve])), (a6_from, .inl (cI, 8, .inl f6_from)), (a6_to, .inl (cI, 8, .inl f6_to)), (a6_curve, .inl (cI, 8, .inl f6_curve)), (a5, .inr (5, [.int v5_wind, .int v5_pull, .int v5_room, .int v5_reach])), (a4, .inr (4, [.ref a6, .ref a2, .ref a5, .int v4_begin, .int v4_end, .long v4_wireAtBegin, .long v4_wireAtEnd]))]) [0, 1, 2, 3, 4, 5] rfl
      have hD9 := hD.sub (ws' := [(a6, .inr (6, [.int v6_end, .int v6_bends, .ref a6_from, .ref a6_to, .ref a6_curve])), (a6_from, .inl (cI, 8, .inl f6_from)), (a6_to, .inl (cI, 8, .inl f6_to)), (a6_curve, .inl (cI, 8, .inl f6_curve)), (a5, .inr (5, [.int v5_wind, .int v5_pull, .int v5_room, .int v5_reach])), (a4, .inr (4, [.ref a6, .ref a2, .ref a5, .int v4_begin, .int v4_end, .long v4_wireAtBegin, .long v4_wireAtEnd]))]) [0, 1, 2, 3, 4, 5] (by decide) rfl
      obtain ⟨h4, hw⟩ := hw
      exact W.zret (v := (1 : Int32)) hx hb hr (wg_bool h4) (fun t ht hW => ⟨⟨(1 : Int32), (), rfl, hw, by rw [ht]; exact hP9, va_K.moved hW.alike hK, hD9⟩, hS.F ht⟩) hS.2.2 dX4_isKept_195
    · replace hw := hw.2 (c3)
      refine lv_aload_n hx hb dX4_isKept_177 rfl (lv_at hl 0 rfl) ?_
      refine lv_iload_n hx hb dX4_isKept_178 rfl (lv_at hl 1 rfl) ?_
      refine lv_aload_n hx hb dX4_isKept_179 rfl (lv_at hl 0 rfl) ?_
      refine va_get (D := (dC, dI)) (ci := 4) (v := .int v4_end) (C := RX4) (T := TX4) (N := 7) hx hb hts inX4_isKept_X4 hown hK hP 5 rfl rfl 4 (by decide) lk1 (fun _ h9 => h9) rfl dX4_isKept_180 ?_
      refine lv_iconst (v := (0 : Int32)) hx hb dX4_isKept_183 (by decide) ?_
      have hPc := hP.sub (ws' := [(a6, .inr (6, [.int v6_end, .int v6_bends, .ref a6_from, .ref a6_to, .ref a6_curve])), (a6_from, .inl (cI, 8, .inl f6_from)), (a6_to, .inl (cI, 8, .inl f6_to)), (a6_curve, .inl (cI, 8, .inl f6_curve)), (a5, .inr (5, [.int v5_wind, .int v5_pull, .int v5_room, .int v5_reach])), (a4, .inr (4, [.ref a6, .ref a2, .ref a5, .int v4_begin, .int v4_end, .long v4_wireAtBegin, .long v4_wireAtEnd]))]) [0, 1, 2, 3, 4, 5] rfl
      have hDc := hD.sub (ws' := [(a6, .inr (6, [.int v6_end, .int v6_bends, .ref a6_from, .ref a6_to, .ref a6_curve])), (a6_from, .inl (cI, 8, .inl f6_from)), (a6_to, .inl (cI, 8, .inl f6_to)), (a6_curve, .inl (cI, 8, .inl f6_curve)), (a5, .inr (5, [.int v5_wind, .int v5_pull, .int v5_room, .int v5_reach])), (a4, .inr (4, [.ref a6, .ref a2, .ref a5, .int v4_begin, .int v4_end, .long v4_wireAtBegin, .long v4_wireAtEnd]))]) [0, 1, 2, 3, 4, 5] (by decide) rfl
      have hFc := va_free (wc := [(a6, .inr (6, [.int v6_end, .int v6_bends, .ref a6_from, .ref a6_to, .ref a6_curve])), (a6_from, .inl (cI, 8, .inl f6_from)), (a6_to, .inl (cI, 8, .inl f6_to)), (a6_curve, .inl (cI, 8, .inl f6_curve)), (a5, .inr (5, [.int v5_wind, .int v5_pull, .int v5_room, .int v5_reach])), (a4, .inr (4, [.ref a6, .ref a2, .ref a5, .int v4_begin, .int v4_end, .long v4_wireAtBegin, .long v4_wireAtEnd]))]) hD hS hA [0, 1, 2, 3, 4, 5] rfl
      refine va_calli (va_runV (As := [.int y169_1, .int v4_end, .int (0 : Int32)]) (rest := []) ⟨hx, hb, hml, hown, hts⟩ (c_X4_keepsStretch l dC dI cI cJ cZ a6 a6_from a6_to a6_curve a2 a5 a4 H.size v6_end v6_bends f6_from f6_to f6_curve v5_wind v5_pull v5_room v5_reach v4_begin v4_end v4_wireAtBegin v4_wireAtEnd y169_1 v4_end (0 : Int32) _ hw) (cwV 3 hts gX4_isKept_X4_keepsStretch rfl rfl rfl (by decide +kernel) ⟨Nat.le_of_ble_eq_true rfl, Nat.le_of_ble_eq_true rfl⟩) ⟨fun a U g mk q => by obtain ⟨q0, q1, qP, qK, qD⟩ := q; exact ⟨q0, q1, qP, va_K.moved (u := U) (U := U.calling g mk a) (Vm.Alike.refl U.vm) qK, qD⟩, va_recv hK hP (ci := 4) (q0 := 5) rfl rfl, fun U hU hW => ⟨rfl, by rw [hU], by rw [hU]; exact hPc, va_K.moved hW.alike hK, hDc.weaken (fun _ _ _ _ => trivial)⟩⟩ rfl rfl hl.1 rfl (lv_room (Nat.le_of_ble_eq_true rfl)) dX4_isKept_184 ⟨(Nat.zero_le _), (Nat.zero_le _)⟩) hS (fun q _ h => hFc q h) hFc (fun r5 u t H1 locs ht hvm hw hB hz1 hk1 hS => ?_)
      obtain ⟨hP1, -, hD1⟩ := hB
      try dsimp only at hw
      rw [ht] at hP1
      obtain ⟨hP, hD⟩ := va_join (wr := []) (w1 := [(a6, .inr (6, [.int v6_end, .int v6_bends, .ref a6_from, .ref a6_to, .ref a6_curve])), (a6_from, .inl (cI, 8, .inl f6_from)), (a6_to, .inl (cI, 8, .inl f6_to)), (a6_curve, .inl (cI, 8, .inl f6_curve)), (a5, .inr (5, [.int v5_wind, .int v5_pull, .int v5_room, .int v5_reach])), (a4, .inr (4, [.ref a6, .ref a2, .ref a5, .int v4_begin, .int v4_end, .long v4_wireAtBegin, .long v4_wireAtEnd]))]) hP hD [0, 1, 2, 3, 4, 5] [] rfl rfl (by decide) (by decide) hk1 hFc hP1 hD1
      generalize H1 = H at hP hS ⊢
      have hP : va_P (dC, dI) vwCl [(a6, .inr (6, [.int v6_end, .int v6_bends, .ref a6_from, .ref a6_to, .ref a6_curve])), (a6_from, .inl (cI, 8, .inl f6_from)), (a6_to, .inl (cI, 8, .inl f6_to)), (a6_curve, .inl (cI, 8, .inl f6_curve)), (a5, .inr (5, [.int v5_wind, .int v5_pull, .int v5_room, .int v5_reach])), (a4, .inr (4, [.ref a6, .ref a2, .ref a5, .int v4_begin, .int v4_end, .long v4_wireAtBegin, .long v4_wireAtEnd]))] H := hP
      have hD : va_D A [(a6, .inr (6, [.int v6_end, .int v6_bends, .ref a6_from, .ref a6_to, .ref a6_curve])), (a6_from, .inl (cI, 8, .inl f6_from)), (a6_to, .inl (cI, 8, .inl f6_to)), (a6_curve, .inl (cI, 8, .inl f6_curve)), (a5, .inr (5, [.int v5_wind, .int v5_pull, .int v5_room, .int v5_reach])), (a4, .inr (4, [.ref a6, .ref a2, .ref a5, .int v4_begin, .int v4_end, .long v4_wireAtBegin, .long v4_wireAtEnd]))] := hD
      refine lv_if_eq (tgt := 194) hx hb dX4_isKept_187 (by decide) (fun c6 => ?_) (fun c6 => ?_)
      · replace hw := hw.1 (c6)
        refine lv_iconst (v := (0 : Int32)) hx hb dX4_isKept_194 (by decide) ?_
        have hP9 := hP.sub (ws' := [(a6, .inr (6, [.int v6_end, .int v6_bends, .ref a6_from, .ref a6_to, .ref a6_curve])), (a6_from, .inl (cI, 8, .inl f6_from)), (a6_to, .inl (cI, 8, .inl f6_to)), (a6_curve, .inl (cI, 8, .inl f6_curve)), (a5, .inr (5, [.int v5_wind, .int v5_pull, .int v5_room, .int v5_reach])), (a4, .inr (4, [.ref a6, .ref a2, .ref a5, .int v4_begin, .int v4_end, .long v4_wireAtBegin, .long v4_wireAtEnd]))]) [0, 1, 2, 3, 4, 5] rfl
        have hD9 := hD.sub (ws' := [(a6, .inr (6, [.int v6_end, .int v6_bends, .ref a6_from, .ref a6_to, .ref a6_curve])), (a6_from, .inl (cI, 8, .inl f6_from)), (a6_to, .inl (cI, 8, .inl f6_to)), (a6_curve, .inl (cI, 8, .inl f6_curve)), (a5, .inr (5, [.int v5_wind, .int v5_pull, .int v5_room, .int v5_reach])), (a4, .inr (4, [.ref a6, .ref a2, .ref a5, .int v4_begin, .int v4_end, .long v4_wireAtBegin, .long v4_wireAtEnd]))]) [0, 1, 2, 3, 4, 5] (by decide) rfl
        obtain ⟨h7, hw⟩ := hw
        exact W.zret (v := (0 : Int32)) hx hb hr (wg_bool h7) (fun t ht hW => ⟨⟨(0 : Int32), (), rfl, hw, by rw [ht]; exact hP9, va_K.moved hW.alike hK, hD9⟩, hS.F ht⟩) hS.2.2 dX4_isKept_195
      · replace hw := hw.2 (c6)
        refine lv_iconst (v := (1 : Int32)) hx hb dX4_isKept_190 (by decide) ?_
        refine lv_goto (tgt := 195) hx hb dX4_isKept_191 (by decide) ?_
        have hP9 := hP.sub (ws' := [(a6, .inr (6, [.int v6_end, .int v6_bends, .ref a6_from, .ref a6_to, .ref a6_curve])), (a6_from, .inl (cI, 8, .inl f6_from)), (a6_to, .inl (cI, 8, .inl f6_to)), (a6_curve, .inl (cI, 8, .inl f6_curve)), (a5, .inr (5, [.int v5_wind, .int v5_pull, .int v5_room, .int v5_reach])), (a4, .inr (4, [.ref a6, .ref a2, .ref a5, .int v4_begin, .int v4_end, .long v4_wireAtBegin, .long v4_wireAtEnd]))]) [0, 1, 2, 3, 4, 5] rfl
        have hD9 := hD.sub (ws' := [(a6, .inr (6, [.int v6_end, .int v6_bends, .ref a6_from, .ref a6_to, .ref a6_curve])), (a6_from, .inl (cI, 8, .inl f6_from)), (a6_to, .inl (cI, 8, .inl f6_to)), (a6_curve, .inl (cI, 8, .inl f6_curve)), (a5, .inr (5, [.int v5_wind, .int v5_pull, .int v5_room, .int v5_reach])), (a4, .inr (4, [.ref a6, .ref a2, .ref a5, .int v4_begin, .int v4_end, .long v4_wireAtBegin, .long v4_wireAtEnd]))]) [0, 1, 2, 3, 4, 5] (by decide) rfl
        obtain ⟨h8, hw⟩ := hw
        exact W.zret (v := (1 : Int32)) hx hb hr (wg_bool h8) (fun t ht hW => ⟨⟨(1 : Int32), (), rfl, hw, by rw [ht]; exact hP9, va_K.moved hW.alike hK, hD9⟩, hS.F ht⟩) hS.2.2 dX4_isKept_195
  have k_28 : ∀ (n_28 : Nat) (y28_1 : Int32) (y28_2 : Int32) (H : Heap) (locs : List Loc) (ls : Array Slot), va_P (dC, dI) vwCl [(a6, .inr (6, [.int v6_end, .int v6_bends, .ref a6_from, .ref a6_to, .ref a6_curve])), (a6_from, .inl (cI, 8, .inl f6_from)), (a6_to, .inl (cI, 8, .inl f6_to)), (a6_curve, .inl (cI, 8, .inl f6_curve)), (a5, .inr (5, [.int v5_wind, .int v5_pull, .int v5_room, .int v5_reach])), (a4, .inr (4, [.ref a6, .ref a2, .ref a5, .int v4_begin, .int v4_end, .long v4_wireAtBegin, .long v4_wireAtEnd]))] H → va_D A [(a6, .inr (6, [.int v6_end, .int v6_bends, .ref a6_from, .ref a6_to, .ref a6_curve])), (a6_from, .inl (cI, 8, .inl f6_from)), (a6_to, .inl (cI, 8, .inl f6_to)), (a6_curve, .inl (cI, 8, .inl f6_curve)), (a5, .inr (5, [.int v5_wind, .int v5_pull, .int v5_room, .int v5_reach])), (a4, .inr (4, [.ref a6, .ref a2, .ref a5, .int v4_begin, .int v4_end, .long v4_wireAtBegin, .long v4_wireAtEnd]))] → va_S A s.heap H locs → lv_has ls 5 [(0, .ref a4), (1, .int y28_1), (2, .int y28_2)] → (wl_X4_isKept_28 Q v6_bends f6_from f6_to f6_curve v5_wind v5_pull v5_room v5_reach v4_begin v4_end v4_wireAtBegin v4_wireAtEnd  n_28 y28_1 y28_2) → W p l e (headSpec wsX4_isKept ({ frames := 4, cells := 0, slots := 0, locals := 103 } : Room)).room s m [.ref a4].toArray below meth c H locs 0 0 (MQ below (va_Qi (fun r (u : Unit) => Q r) (fun (u : Unit) t => va_P (dC, dI) vwCl [(a6, .inr (6, [.int v6_end, .int v6_bends, .ref a6_from, .ref a6_to, .ref a6_curve])), (a6_from, .inl (cI, 8, .inl f6_from)), (a6_to, .inl (cI, 8, .inl f6_to)), (a6_curve, .inl (cI, 8, .inl f6_curve)), (a5, .inr (5, [.int v5_wind, .int v5_pull, .int v5_room, .int v5_reach])), (a4, .inr (4, [.ref a6, .ref a2, .ref a5, .int v4_begin, .int v4_end, .long v4_wireAtBegin, .long v4_wireAtEnd]))] t.heap ∧ va_K (dC, dI) vwCl [(cI, .int), (cJ, .long), (cZ, .boolean)] t ∧ va_D A [(a6, .inr (6, [.int v6_end, .int v6_bends, .ref a6_from, .ref a6_to, .ref a6_curve])), (a6_from, .inl (cI, 8, .inl f6_from)), (a6_to, .inl (cI, 8, .inl f6_to)), (a6_curve, .inl (cI, 8, .inl f6_curve)), (a5, .inr (5, [.int v5_wind, .int v5_pull, .int v5_room, .int v5_reach])), (a4, .inr (4, [.ref a6, .ref a2, .ref a5, .int v4_begin, .int v4_end, .long v4_wireAtBegin, .long v4_wireAtEnd]))]) A) [.ref a4].toArray s 0 0 A) (F0 m 28 ls []) := by
    intro n_28
    induction n_28 with
    | zero =>
      intro y28_1 y28_2 H locs ls hP hD hS hl hw
      exact False.elim hw
    | succ n_28 ih_28 =>
      have k_163 : ∀  (y163_1 : Int32) (y163_2 : Int32) (H : Heap) (locs : List Loc) (ls : Array Slot), va_P (dC, dI) vwCl [(a6, .inr (6, [.int v6_end, .int v6_bends, .ref a6_from, .ref a6_to, .ref a6_curve])), (a6_from, .inl (cI, 8, .inl f6_from)), (a6_to, .inl (cI, 8, .inl f6_to)), (a6_curve, .inl (cI, 8, .inl f6_curve)), (a5, .inr (5, [.int v5_wind, .int v5_pull, .int v5_room, .int v5_reach])), (a4, .inr (4, [.ref a6, .ref a2, .ref a5, .int v4_begin, .int v4_end, .long v4_wireAtBegin, .long v4_wireAtEnd]))] H → va_D A [(a6, .inr (6, [.int v6_end, .int v6_bends, .ref a6_from, .ref a6_to, .ref a6_curve])), (a6_from, .inl (cI, 8, .inl f6_from)), (a6_to, .inl (cI, 8, .inl f6_to)), (a6_curve, .inl (cI, 8, .inl f6_curve)), (a5, .inr (5, [.int v5_wind, .int v5_pull, .int v5_room, .int v5_reach])), (a4, .inr (4, [.ref a6, .ref a2, .ref a5, .int v4_begin, .int v4_end, .long v4_wireAtBegin, .long v4_wireAtEnd]))] → va_S A s.heap H locs → lv_has ls 5 [(0, .ref a4), (1, .int y163_1), (2, .int y163_2)] → (wb_X4_isKept_163 Q v6_bends f6_from f6_to f6_curve v5_wind v5_pull v5_room v5_reach v4_begin v4_end v4_wireAtBegin v4_wireAtEnd (wl_X4_isKept_28 Q v6_bends f6_from f6_to f6_curve v5_wind v5_pull v5_room v5_reach v4_begin v4_end v4_wireAtBegin v4_wireAtEnd  n_28) y163_1 y163_2) → W p l e (headSpec wsX4_isKept ({ frames := 4, cells := 0, slots := 0, locals := 103 } : Room)).room s m [.ref a4].toArray below meth c H locs 0 0 (MQ below (va_Qi (fun r (u : Unit) => Q r) (fun (u : Unit) t => va_P (dC, dI) vwCl [(a6, .inr (6, [.int v6_end, .int v6_bends, .ref a6_from, .ref a6_to, .ref a6_curve])), (a6_from, .inl (cI, 8, .inl f6_from)), (a6_to, .inl (cI, 8, .inl f6_to)), (a6_curve, .inl (cI, 8, .inl f6_curve)), (a5, .inr (5, [.int v5_wind, .int v5_pull, .int v5_room, .int v5_reach])), (a4, .inr (4, [.ref a6, .ref a2, .ref a5, .int v4_begin, .int v4_end, .long v4_wireAtBegin, .long v4_wireAtEnd]))] t.heap ∧ va_K (dC, dI) vwCl [(cI, .int), (cJ, .long), (cZ, .boolean)] t ∧ va_D A [(a6, .inr (6, [.int v6_end, .int v6_bends, .ref a6_from, .ref a6_to, .ref a6_curve])), (a6_from, .inl (cI, 8, .inl f6_from)), (a6_to, .inl (cI, 8, .inl f6_to)), (a6_curve, .inl (cI, 8, .inl f6_curve)), (a5, .inr (5, [.int v5_wind, .int v5_pull, .int v5_room, .int v5_reach])), (a4, .inr (4, [.ref a6, .ref a2, .ref a5, .int v4_begin, .int v4_end, .long v4_wireAtBegin, .long v4_wireAtEnd]))]) A) [.ref a4].toArray s 0 0 A) (F0 m 163 ls []) := by
        intro y163_1 y163_2 H locs ls hP hD hS hl hw
        unfold wb_X4_isKept_163 at hw
        obtain ⟨x16, ex16⟩ : ∃ y : Int32, y = y163_2 + (1 : Int32) := ⟨_, rfl⟩
        replace hw := hw x16 ex16
        refine lv_iinc (v := x16) (lv' := [(2, .int x16), (0, .ref a4), (1, .int y163_1)]) hx hb dX4_isKept_163 hl (k := 2) rfl (by rw [ex16]; rfl) (by decide) rfl (fun ls hl => ?_)
        refine lv_goto (tgt := 28) hx hb dX4_isKept_166 (by decide) ?_
        exact ih_28 y163_1 x16 _ _ _ (hP.sub [0, 1, 2, 3, 4, 5] rfl) (hD.sub [0, 1, 2, 3, 4, 5] (by decide) rfl) hS (lv_sub hl [1, 2, 0] rfl) hw
      have k_133 : ∀  (y133_1 : Int32) (y133_2 : Int32) (y133_4 : Int32) (H : Heap) (locs : List Loc) (ls : Array Slot), va_P (dC, dI) vwCl [(a6, .inr (6, [.int v6_end, .int v6_bends, .ref a6_from, .ref a6_to, .ref a6_curve])), (a6_from, .inl (cI, 8, .inl f6_from)), (a6_to, .inl (cI, 8, .inl f6_to)), (a6_curve, .inl (cI, 8, .inl f6_curve)), (a5, .inr (5, [.int v5_wind, .int v5_pull, .int v5_room, .int v5_reach])), (a4, .inr (4, [.ref a6, .ref a2, .ref a5, .int v4_begin, .int v4_end, .long v4_wireAtBegin, .long v4_wireAtEnd]))] H → va_D A [(a6, .inr (6, [.int v6_end, .int v6_bends, .ref a6_from, .ref a6_to, .ref a6_curve])), (a6_from, .inl (cI, 8, .inl f6_from)), (a6_to, .inl (cI, 8, .inl f6_to)), (a6_curve, .inl (cI, 8, .inl f6_curve)), (a5, .inr (5, [.int v5_wind, .int v5_pull, .int v5_room, .int v5_reach])), (a4, .inr (4, [.ref a6, .ref a2, .ref a5, .int v4_begin, .int v4_end, .long v4_wireAtBegin, .long v4_wireAtEnd]))] → va_S A s.heap H locs → lv_has ls 5 [(0, .ref a4), (1, .int y133_1), (2, .int y133_2), (4, .int y133_4)] → (wb_X4_isKept_133 Q v6_bends f6_from f6_to f6_curve v5_wind v5_pull v5_room v5_reach v4_begin v4_end v4_wireAtBegin v4_wireAtEnd (wl_X4_isKept_28 Q v6_bends f6_from f6_to f6_curve v5_wind v5_pull v5_room v5_reach v4_begin v4_end v4_wireAtBegin v4_wireAtEnd  n_28) y133_1 y133_2 y133_4) → W p l e (headSpec wsX4_isKept ({ frames := 4, cells := 0, slots := 0, locals := 103 } : Room)).room s m [.ref a4].toArray below meth c H locs 0 0 (MQ below (va_Qi (fun r (u : Unit) => Q r) (fun (u : Unit) t => va_P (dC, dI) vwCl [(a6, .inr (6, [.int v6_end, .int v6_bends, .ref a6_from, .ref a6_to, .ref a6_curve])), (a6_from, .inl (cI, 8, .inl f6_from)), (a6_to, .inl (cI, 8, .inl f6_to)), (a6_curve, .inl (cI, 8, .inl f6_curve)), (a5, .inr (5, [.int v5_wind, .int v5_pull, .int v5_room, .int v5_reach])), (a4, .inr (4, [.ref a6, .ref a2, .ref a5, .int v4_begin, .int v4_end, .long v4_wireAtBegin, .long v4_wireAtEnd]))] t.heap ∧ va_K (dC, dI) vwCl [(cI, .int), (cJ, .long), (cZ, .boolean)] t ∧ va_D A [(a6, .inr (6, [.int v6_end, .int v6_bends, .ref a6_from, .ref a6_to, .ref a6_curve])), (a6_from, .inl (cI, 8, .inl f6_from)), (a6_to, .inl (cI, 8, .inl f6_to)), (a6_curve, .inl (cI, 8, .inl f6_curve)), (a5, .inr (5, [.int v5_wind, .int v5_pull, .int v5_room, .int v5_reach])), (a4, .inr (4, [.ref a6, .ref a2, .ref a5, .int v4_begin, .int v4_end, .long v4_wireAtBegin, .long v4_wireAtEnd]))]) A) [.ref a4].toArray s 0 0 A) (F0 m 133 ls []) := by
        intro y133_1 y133_2 y133_4 H locs ls hP hD hS hl hw
        unfold wb_X4_isKept_133 at hw
        refine lv_iload hx hb dX4_isKept_133 (lv_at hl 3 rfl) ?_
        refine lv_iload_n hx hb dX4_isKept_135 rfl (lv_at hl 1 rfl) ?_
        refine lv_icmp_le (tgt := 163) hx hb dX4_isKept_136 (by decide) (fun c15 => ?_) (fun c15 => ?_)
        · replace hw := hw.1 (c15)
          exact k_163 y133_1 y133_2 _ _ _ (hP.sub [0, 1, 2, 3, 4, 5] rfl) (hD.sub [0, 1, 2, 3, 4, 5] (by decide) rfl) hS (lv_sub hl [0, 1, 2] rfl) hw
        · replace hw := hw.2 (c15)
          refine lv_aload_n hx hb dX4_isKept_139 rfl (lv_at hl 0 rfl) ?_
          refine lv_iload_n hx hb dX4_isKept_140 rfl (lv_at hl 1 rfl) ?_
          refine lv_iload hx hb dX4_isKept_141 (lv_at hl 3 rfl) ?_
          refine lv_aload_n hx hb dX4_isKept_143 rfl (lv_at hl 0 rfl) ?_
          refine va_get (D := (dC, dI)) (ci := 4) (v := .ref a6) (C := RX4) (T := TX4) (N := 7) hx hb hts inX4_isKept_X4 hown hK hP 5 rfl rfl 0 (by decide) lk5 (fun _ h9 => h9) rfl dX4_isKept_144 ?_
          refine va_get (D := (dC, dI)) (ci := 6) (v := .ref a6_curve) (C := RX6) (T := TX6) (N := 5) hx hb hts inX4_isKept_X6 hown hK hP 0 rfl rfl 4 (by decide) lk9 (fun _ h9 => h9) rfl dX4_isKept_147 ?_
          refine lv_iload_n hx hb dX4_isKept_150 rfl (lv_at hl 2 rfl) ?_
          obtain ⟨h17, hw⟩ := hw
          refine va_iald hx hb hK hP 3 0 rfl rfl h17 dX4_isKept_151 ?_
          have hPc := hP.sub (ws' := [(a6, .inr (6, [.int v6_end, .int v6_bends, .ref a6_from, .ref a6_to, .ref a6_curve])), (a6_from, .inl (cI, 8, .inl f6_from)), (a6_to, .inl (cI, 8, .inl f6_to)), (a6_curve, .inl (cI, 8, .inl f6_curve)), (a5, .inr (5, [.int v5_wind, .int v5_pull, .int v5_room, .int v5_reach])), (a4, .inr (4, [.ref a6, .ref a2, .ref a5, .int v4_begin, .int v4_end, .long v4_wireAtBegin, .long v4_wireAtEnd]))]) [0, 1, 2, 3, 4, 5] rfl
          have hDc := hD.sub (ws' := [(a6, .inr (6, [.int v6_end, .int v6_bends, .ref a6_from, .ref a6_to, .ref a6_curve])), (a6_from, .inl (cI, 8, .inl f6_from)), (a6_to, .inl (cI, 8, .inl f6_to)), (a6_curve, .inl (cI, 8, .inl f6_curve)), (a5, .inr (5, [.int v5_wind, .int v5_pull, .int v5_room, .int v5_reach])), (a4, .inr (4, [.ref a6, .ref a2, .ref a5, .int v4_begin, .int v4_end, .long v4_wireAtBegin, .long v4_wireAtEnd]))]) [0, 1, 2, 3, 4, 5] (by decide) rfl
          have hFc := va_free (wc := [(a6, .inr (6, [.int v6_end, .int v6_bends, .ref a6_from, .ref a6_to, .ref a6_curve])), (a6_from, .inl (cI, 8, .inl f6_from)), (a6_to, .inl (cI, 8, .inl f6_to)), (a6_curve, .inl (cI, 8, .inl f6_curve)), (a5, .inr (5, [.int v5_wind, .int v5_pull, .int v5_room, .int v5_reach])), (a4, .inr (4, [.ref a6, .ref a2, .ref a5, .int v4_begin, .int v4_end, .long v4_wireAtBegin, .long v4_wireAtEnd]))]) hD hS hA [0, 1, 2, 3, 4, 5] rfl
          refine va_calli (va_runV (As := [.int y133_1, .int y133_4, .int (f6_curve y133_2.toNatClampNeg)]) (rest := []) ⟨hx, hb, hml, hown, hts⟩ (c_X4_keepsStretch l dC dI cI cJ cZ a6 a6_from a6_to a6_curve a2 a5 a4 H.size v6_end v6_bends f6_from f6_to f6_curve v5_wind v5_pull v5_room v5_reach v4_begin v4_end v4_wireAtBegin v4_wireAtEnd y133_1 y133_4 (f6_curve y133_2.toNatClampNeg) _ hw) (cwV 3 hts gX4_isKept_X4_keepsStretch rfl rfl rfl (by decide +kernel) ⟨Nat.le_of_ble_eq_true rfl, Nat.le_of_ble_eq_true rfl⟩) ⟨fun a U g mk q => by obtain ⟨q0, q1, qP, qK, qD⟩ := q; exact ⟨q0, q1, qP, va_K.moved (u := U) (U := U.calling g mk a) (Vm.Alike.refl U.vm) qK, qD⟩, va_recv hK hP (ci := 4) (q0 := 5) rfl rfl, fun U hU hW => ⟨rfl, by rw [hU], by rw [hU]; exact hPc, va_K.moved hW.alike hK, hDc.weaken (fun _ _ _ _ => trivial)⟩⟩ rfl rfl hl.1 rfl (lv_room (Nat.le_of_ble_eq_true rfl)) dX4_isKept_152 ⟨(Nat.zero_le _), (Nat.zero_le _)⟩) hS (fun q _ h => hFc q h) hFc (fun r18 u t H1 locs ht hvm hw hB hz1 hk1 hS => ?_)
          obtain ⟨hP1, -, hD1⟩ := hB
          try dsimp only at hw
          rw [ht] at hP1
          obtain ⟨hP, hD⟩ := va_join (wr := []) (w1 := [(a6, .inr (6, [.int v6_end, .int v6_bends, .ref a6_from, .ref a6_to, .ref a6_curve])), (a6_from, .inl (cI, 8, .inl f6_from)), (a6_to, .inl (cI, 8, .inl f6_to)), (a6_curve, .inl (cI, 8, .inl f6_curve)), (a5, .inr (5, [.int v5_wind, .int v5_pull, .int v5_room, .int v5_reach])), (a4, .inr (4, [.ref a6, .ref a2, .ref a5, .int v4_begin, .int v4_end, .long v4_wireAtBegin, .long v4_wireAtEnd]))]) hP hD [0, 1, 2, 3, 4, 5] [] rfl rfl (by decide) (by decide) hk1 hFc hP1 hD1
          generalize H1 = H at hP hS ⊢
          have hP : va_P (dC, dI) vwCl [(a6, .inr (6, [.int v6_end, .int v6_bends, .ref a6_from, .ref a6_to, .ref a6_curve])), (a6_from, .inl (cI, 8, .inl f6_from)), (a6_to, .inl (cI, 8, .inl f6_to)), (a6_curve, .inl (cI, 8, .inl f6_curve)), (a5, .inr (5, [.int v5_wind, .int v5_pull, .int v5_room, .int v5_reach])), (a4, .inr (4, [.ref a6, .ref a2, .ref a5, .int v4_begin, .int v4_end, .long v4_wireAtBegin, .long v4_wireAtEnd]))] H := hP
          have hD : va_D A [(a6, .inr (6, [.int v6_end, .int v6_bends, .ref a6_from, .ref a6_to, .ref a6_curve])), (a6_from, .inl (cI, 8, .inl f6_from)), (a6_to, .inl (cI, 8, .inl f6_to)), (a6_curve, .inl (cI, 8, .inl f6_curve)), (a5, .inr (5, [.int v5_wind, .int v5_pull, .int v5_room, .int v5_reach])), (a4, .inr (4, [.ref a6, .ref a2, .ref a5, .int v4_begin, .int v4_end, .long v4_wireAtBegin, .long v4_wireAtEnd]))] := hD
          refine lv_if_ne (tgt := 160) hx hb dX4_isKept_155 (by decide) (fun c19 => ?_) (fun c19 => ?_)
          · replace hw := hw.2 (c19)
            refine lv_iload hx hb dX4_isKept_160 (lv_at hl 3 rfl) ?_
            refine lv_istore_n (lv' := [(1, .int y133_4), (0, .ref a4), (2, .int y133_2), (4, .int y133_4)]) hx hb dX4_isKept_162 rfl hl (by decide) rfl (fun ls hl => ?_)
            exact k_163 y133_4 y133_2 _ _ _ (hP.sub [0, 1, 2, 3, 4, 5] rfl) (hD.sub [0, 1, 2, 3, 4, 5] (by decide) rfl) hS (lv_sub hl [1, 0, 2] rfl) hw
          · replace hw := hw.1 (c19)
            refine lv_iconst (v := (0 : Int32)) hx hb dX4_isKept_158 (by decide) ?_
            have hP9 := hP.sub (ws' := [(a6, .inr (6, [.int v6_end, .int v6_bends, .ref a6_from, .ref a6_to, .ref a6_curve])), (a6_from, .inl (cI, 8, .inl f6_from)), (a6_to, .inl (cI, 8, .inl f6_to)), (a6_curve, .inl (cI, 8, .inl f6_curve)), (a5, .inr (5, [.int v5_wind, .int v5_pull, .int v5_room, .int v5_reach])), (a4, .inr (4, [.ref a6, .ref a2, .ref a5, .int v4_begin, .int v4_end, .long v4_wireAtBegin, .long v4_wireAtEnd]))]) [0, 1, 2, 3, 4, 5] rfl
            have hD9 := hD.sub (ws' := [(a6, .inr (6, [.int v6_end, .int v6_bends, .ref a6_from, .ref a6_to, .ref a6_curve])), (a6_from, .inl (cI, 8, .inl f6_from)), (a6_to, .inl (cI, 8, .inl f6_to)), (a6_curve, .inl (cI, 8, .inl f6_curve)), (a5, .inr (5, [.int v5_wind, .int v5_pull, .int v5_room, .int v5_reach])), (a4, .inr (4, [.ref a6, .ref a2, .ref a5, .int v4_begin, .int v4_end, .long v4_wireAtBegin, .long v4_wireAtEnd]))]) [0, 1, 2, 3, 4, 5] (by decide) rfl
            obtain ⟨h20, hw⟩ := hw
            exact W.zret (v := (0 : Int32)) hx hb hr (wg_bool h20) (fun t ht hW => ⟨⟨(0 : Int32), (), rfl, hw, by rw [ht]; exact hP9, va_K.moved hW.alike hK, hD9⟩, hS.F ht⟩) hS.2.2 dX4_isKept_159
      have k_112 : ∀  (y112_1 : Int32) (y112_2 : Int32) (y112_3 : Int32) (k112_0 : Int32) (H : Heap) (locs : List Loc) (ls : Array Slot), va_P (dC, dI) vwCl [(a6, .inr (6, [.int v6_end, .int v6_bends, .ref a6_from, .ref a6_to, .ref a6_curve])), (a6_from, .inl (cI, 8, .inl f6_from)), (a6_to, .inl (cI, 8, .inl f6_to)), (a6_curve, .inl (cI, 8, .inl f6_curve)), (a5, .inr (5, [.int v5_wind, .int v5_pull, .int v5_room, .int v5_reach])), (a4, .inr (4, [.ref a6, .ref a2, .ref a5, .int v4_begin, .int v4_end, .long v4_wireAtBegin, .long v4_wireAtEnd]))] H → va_D A [(a6, .inr (6, [.int v6_end, .int v6_bends, .ref a6_from, .ref a6_to, .ref a6_curve])), (a6_from, .inl (cI, 8, .inl f6_from)), (a6_to, .inl (cI, 8, .inl f6_to)), (a6_curve, .inl (cI, 8, .inl f6_curve)), (a5, .inr (5, [.int v5_wind, .int v5_pull, .int v5_room, .int v5_reach])), (a4, .inr (4, [.ref a6, .ref a2, .ref a5, .int v4_begin, .int v4_end, .long v4_wireAtBegin, .long v4_wireAtEnd]))] → va_S A s.heap H locs → lv_has ls 5 [(0, .ref a4), (1, .int y112_1), (2, .int y112_2), (3, .int y112_3)] → (wb_X4_isKept_112 Q v6_bends f6_from f6_to f6_curve v5_wind v5_pull v5_room v5_reach v4_begin v4_end v4_wireAtBegin v4_wireAtEnd (wl_X4_isKept_28 Q v6_bends f6_from f6_to f6_curve v5_wind v5_pull v5_room v5_reach v4_begin v4_end v4_wireAtBegin v4_wireAtEnd  n_28) y112_1 y112_2 y112_3 k112_0) → W p l e (headSpec wsX4_isKept ({ frames := 4, cells := 0, slots := 0, locals := 103 } : Room)).room s m [.ref a4].toArray below meth c H locs 0 0 (MQ below (va_Qi (fun r (u : Unit) => Q r) (fun (u : Unit) t => va_P (dC, dI) vwCl [(a6, .inr (6, [.int v6_end, .int v6_bends, .ref a6_from, .ref a6_to, .ref a6_curve])), (a6_from, .inl (cI, 8, .inl f6_from)), (a6_to, .inl (cI, 8, .inl f6_to)), (a6_curve, .inl (cI, 8, .inl f6_curve)), (a5, .inr (5, [.int v5_wind, .int v5_pull, .int v5_room, .int v5_reach])), (a4, .inr (4, [.ref a6, .ref a2, .ref a5, .int v4_begin, .int v4_end, .long v4_wireAtBegin, .long v4_wireAtEnd]))] t.heap ∧ va_K (dC, dI) vwCl [(cI, .int), (cJ, .long), (cZ, .boolean)] t ∧ va_D A [(a6, .inr (6, [.int v6_end, .int v6_bends, .ref a6_from, .ref a6_to, .ref a6_curve])), (a6_from, .inl (cI, 8, .inl f6_from)), (a6_to, .inl (cI, 8, .inl f6_to)), (a6_curve, .inl (cI, 8, .inl f6_curve)), (a5, .inr (5, [.int v5_wind, .int v5_pull, .int v5_room, .int v5_reach])), (a4, .inr (4, [.ref a6, .ref a2, .ref a5, .int v4_begin, .int v4_end, .long v4_wireAtBegin, .long v4_wireAtEnd]))]) A) [.ref a4].toArray s 0 0 A) (F0 m 112 ls [.int k112_0]) := by
        intro y112_1 y112_2 y112_3 k112_0 H locs ls hP hD hS hl hw
        unfold wb_X4_isKept_112 at hw
        refine lv_istore (lv' := [(4, .int k112_0), (0, .ref a4), (1, .int y112_1), (2, .int y112_2), (3, .int y112_3)]) hx hb dX4_isKept_112 hl (by decide) rfl (fun ls hl => ?_)
        refine lv_iload_n hx hb dX4_isKept_114 rfl (lv_at hl 4 rfl) ?_
        refine lv_iload_n hx hb dX4_isKept_115 rfl (lv_at hl 2 rfl) ?_
        refine lv_icmp_le (tgt := 133) hx hb dX4_isKept_116 (by decide) (fun c14 => ?_) (fun c14 => ?_)
        · replace hw := hw.1 (c14)
          exact k_133 y112_1 y112_2 k112_0 _ _ _ (hP.sub [0, 1, 2, 3, 4, 5] rfl) (hD.sub [0, 1, 2, 3, 4, 5] (by decide) rfl) hS (lv_sub hl [1, 2, 3, 0] rfl) hw
        · replace hw := hw.2 (c14)
          refine lv_aload_n hx hb dX4_isKept_119 rfl (lv_at hl 1 rfl) ?_
          refine lv_iload_n hx hb dX4_isKept_120 rfl (lv_at hl 2 rfl) ?_
          refine lv_iload_n hx hb dX4_isKept_121 rfl (lv_at hl 4 rfl) ?_
          refine lv_iconst (v := (0 : Int32)) hx hb dX4_isKept_122 (by decide) ?_
          have hPc := hP.sub (ws' := [(a6, .inr (6, [.int v6_end, .int v6_bends, .ref a6_from, .ref a6_to, .ref a6_curve])), (a6_from, .inl (cI, 8, .inl f6_from)), (a6_to, .inl (cI, 8, .inl f6_to)), (a6_curve, .inl (cI, 8, .inl f6_curve)), (a5, .inr (5, [.int v5_wind, .int v5_pull, .int v5_room, .int v5_reach])), (a4, .inr (4, [.ref a6, .ref a2, .ref a5, .int v4_begin, .int v4_end, .long v4_wireAtBegin, .long v4_wireAtEnd]))]) [0, 1, 2, 3, 4, 5] rfl
          have hDc := hD.sub (ws' := [(a6, .inr (6, [.int v6_end, .int v6_bends, .ref a6_from, .ref a6_to, .ref a6_curve])), (a6_from, .inl (cI, 8, .inl f6_from)), (a6_to, .inl (cI, 8, .inl f6_to)), (a6_curve, .inl (cI, 8, .inl f6_curve)), (a5, .inr (5, [.int v5_wind, .int v5_pull, .int v5_room, .int v5_reach])), (a4, .inr (4, [.ref a6, .ref a2, .ref a5, .int v4_begin, .int v4_end, .long v4_wireAtBegin, .long v4_wireAtEnd]))]) [0, 1, 2, 3, 4, 5] (by decide) rfl
          have hFc := va_free (wc := [(a6, .inr (6, [.int v6_end, .int v6_bends, .ref a6_from, .ref a6_to, .ref a6_curve])), (a6_from, .inl (cI, 8, .inl f6_from)), (a6_to, .inl (cI, 8, .inl f6_to)), (a6_curve, .inl (cI, 8, .inl f6_curve)), (a5, .inr (5, [.int v5_wind, .int v5_pull, .int v5_room, .int v5_reach])), (a4, .inr (4, [.ref a6, .ref a2, .ref a5, .int v4_begin, .int v4_end, .long v4_wireAtBegin, .long v4_wireAtEnd]))]) hD hS hA [0, 1, 2, 3, 4, 5] rfl
          refine va_calli (va_runV (As := [.int y112_1, .int y112_3, .int (0 : Int32)]) (rest := []) ⟨hx, hb, hml, hown, hts⟩ (c_X4_keepsStretch l dC dI cI cJ cZ a6 a6_from a6_to a6_curve a2 a5 a4 H.size v6_end v6_bends f6_from f6_to f6_curve v5_wind v5_pull v5_room v5_reach v4_begin v4_end v4_wireAtBegin v4_wireAtEnd y112_1 y112_3 (0 : Int32) _ hw) (cwV 3 hts gX4_isKept_X4_keepsStretch rfl rfl rfl (by decide +kernel) ⟨Nat.le_of_ble_eq_true rfl, Nat.le_of_ble_eq_true rfl⟩) ⟨fun a U g mk q => by obtain ⟨q0, q1, qP, qK, qD⟩ := q; exact ⟨q0, q1, qP, va_K.moved (u := U) (U := U.calling g mk a) (Vm.Alike.refl U.vm) qK, qD⟩, va_recv hK hP (ci := 4) (q0 := 5) rfl rfl, fun U hU hW => ⟨rfl, by rw [hU], by rw [hU]; exact hPc, va_K.moved hW.alike hK, hDc.weaken (fun _ _ _ _ => trivial)⟩⟩ rfl rfl hl.1 rfl (lv_room (Nat.le_of_ble_eq_true rfl)) dX4_isKept_123 ⟨(Nat.zero_le _), (Nat.zero_le _)⟩) hS (fun q _ h => hFc q h) hFc (fun r21 u t H1 locs ht hvm hw hB hz1 hk1 hS => ?_)
          obtain ⟨hP1, -, hD1⟩ := hB
          try dsimp only at hw
          rw [ht] at hP1
          obtain ⟨hP, hD⟩ := va_join (wr := []) (w1 := [(a6, .inr (6, [.int v6_end, .int v6_bends, .ref a6_from, .ref a6_to, .ref a6_curve])), (a6_from, .inl (cI, 8, .inl f6_from)), (a6_to, .inl (cI, 8, .inl f6_to)), (a6_curve, .inl (cI, 8, .inl f6_curve)), (a5, .inr (5, [.int v5_wind, .int v5_pull, .int v5_room, .int v5_reach])), (a4, .inr (4, [.ref a6, .ref a2, .ref a5, .int v4_begin, .int v4_end, .long v4_wireAtBegin, .long v4_wireAtEnd]))]) hP hD [0, 1, 2, 3, 4, 5] [] rfl rfl (by decide) (by decide) hk1 hFc hP1 hD1
          generalize H1 = H at hP hS ⊢
          have hP : va_P (dC, dI) vwCl [(a6, .inr (6, [.int v6_end, .int v6_bends, .ref a6_from, .ref a6_to, .ref a6_curve])), (a6_from, .inl (cI, 8, .inl f6_from)), (a6_to, .inl (cI, 8, .inl f6_to)), (a6_curve, .inl (cI, 8, .inl f6_curve)), (a5, .inr (5, [.int v5_wind, .int v5_pull, .int v5_room, .int v5_reach])), (a4, .inr (4, [.ref a6, .ref a2, .ref a5, .int v4_begin, .int v4_end, .long v4_wireAtBegin, .long v4_wireAtEnd]))] H := hP
          have hD : va_D A [(a6, .inr (6, [.int v6_end, .int v6_bends, .ref a6_from, .ref a6_to, .ref a6_curve])), (a6_from, .inl (cI, 8, .inl f6_from)), (a6_to, .inl (cI, 8, .inl f6_to)), (a6_curve, .inl (cI, 8, .inl f6_curve)), (a5, .inr (5, [.int v5_wind, .int v5_pull, .int v5_room, .int v5_reach])), (a4, .inr (4, [.ref a6, .ref a2, .ref a5, .int v4_begin, .int v4_end, .long v4_wireAtBegin, .long v4_wireAtEnd]))] := hD
          refine lv_if_ne (tgt := 131) hx hb dX4_isKept_126 (by decide) (fun c22 => ?_) (fun c22 => ?_)
          · replace hw := hw.2 (c22)
            refine lv_iload_n hx hb dX4_isKept_131 rfl (lv_at hl 4 rfl) ?_
            refine lv_istore_n (lv' := [(1, .int y112_3), (4, .int k112_0), (0, .ref a4), (2, .int y112_2), (3, .int y112_3)]) hx hb dX4_isKept_132 rfl hl (by decide) rfl (fun ls hl => ?_)
            exact k_133 y112_3 y112_2 k112_0 _ _ _ (hP.sub [0, 1, 2, 3, 4, 5] rfl) (hD.sub [0, 1, 2, 3, 4, 5] (by decide) rfl) hS (lv_sub hl [2, 0, 3, 1] rfl) hw
          · replace hw := hw.1 (c22)
            refine lv_iconst (v := (0 : Int32)) hx hb dX4_isKept_129 (by decide) ?_
            have hP9 := hP.sub (ws' := [(a6, .inr (6, [.int v6_end, .int v6_bends, .ref a6_from, .ref a6_to, .ref a6_curve])), (a6_from, .inl (cI, 8, .inl f6_from)), (a6_to, .inl (cI, 8, .inl f6_to)), (a6_curve, .inl (cI, 8, .inl f6_curve)), (a5, .inr (5, [.int v5_wind, .int v5_pull, .int v5_room, .int v5_reach])), (a4, .inr (4, [.ref a6, .ref a2, .ref a5, .int v4_begin, .int v4_end, .long v4_wireAtBegin, .long v4_wireAtEnd]))]) [0, 1, 2, 3, 4, 5] rfl
            have hD9 := hD.sub (ws' := [(a6, .inr (6, [.int v6_end, .int v6_bends, .ref a6_from, .ref a6_to, .ref a6_curve])), (a6_from, .inl (cI, 8, .inl f6_from)), (a6_to, .inl (cI, 8, .inl f6_to)), (a6_curve, .inl (cI, 8, .inl f6_curve)), (a5, .inr (5, [.int v5_wind, .int v5_pull, .int v5_room, .int v5_reach])), (a4, .inr (4, [.ref a6, .ref a2, .ref a5, .int v4_begin, .int v4_end, .long v4_wireAtBegin, .long v4_wireAtEnd]))]) [0, 1, 2, 3, 4, 5] (by decide) rfl
            obtain ⟨h23, hw⟩ := hw
            exact W.zret (v := (0 : Int32)) hx hb hr (wg_bool h23) (fun t ht hW => ⟨⟨(0 : Int32), (), rfl, hw, by rw [ht]; exact hP9, va_K.moved hW.alike hK, hD9⟩, hS.F ht⟩) hS.2.2 dX4_isKept_130
      have k_79 : ∀  (y79_1 : Int32) (y79_2 : Int32) (k79_0 : Int32) (H : Heap) (locs : List Loc) (ls : Array Slot), va_P (dC, dI) vwCl [(a6, .inr (6, [.int v6_end, .int v6_bends, .ref a6_from, .ref a6_to, .ref a6_curve])), (a6_from, .inl (cI, 8, .inl f6_from)), (a6_to, .inl (cI, 8, .inl f6_to)), (a6_curve, .inl (cI, 8, .inl f6_curve)), (a5, .inr (5, [.int v5_wind, .int v5_pull, .int v5_room, .int v5_reach])), (a4, .inr (4, [.ref a6, .ref a2, .ref a5, .int v4_begin, .int v4_end, .long v4_wireAtBegin, .long v4_wireAtEnd]))] H → va_D A [(a6, .inr (6, [.int v6_end, .int v6_bends, .ref a6_from, .ref a6_to, .ref a6_curve])), (a6_from, .inl (cI, 8, .inl f6_from)), (a6_to, .inl (cI, 8, .inl f6_to)), (a6_curve, .inl (cI, 8, .inl f6_curve)), (a5, .inr (5, [.int v5_wind, .int v5_pull, .int v5_room, .int v5_reach])), (a4, .inr (4, [.ref a6, .ref a2, .ref a5, .int v4_begin, .int v4_end, .long v4_wireAtBegin, .long v4_wireAtEnd]))] → va_S A s.heap H locs → lv_has ls 5 [(0, .ref a4), (1, .int y79_1), (2, .int y79_2)] → (wb_X4_isKept_79 Q v6_bends f6_from f6_to f6_curve v5_wind v5_pull v5_room v5_reach v4_begin v4_end v4_wireAtBegin v4_wireAtEnd (wl_X4_isKept_28 Q v6_bends f6_from f6_to f6_curve v5_wind v5_pull v5_room v5_reach v4_begin v4_end v4_wireAtBegin v4_wireAtEnd  n_28) y79_1 y79_2 k79_0) → W p l e (headSpec wsX4_isKept ({ frames := 4, cells := 0, slots := 0, locals := 103 } : Room)).room s m [.ref a4].toArray below meth c H locs 0 0 (MQ below (va_Qi (fun r (u : Unit) => Q r) (fun (u : Unit) t => va_P (dC, dI) vwCl [(a6, .inr (6, [.int v6_end, .int v6_bends, .ref a6_from, .ref a6_to, .ref a6_curve])), (a6_from, .inl (cI, 8, .inl f6_from)), (a6_to, .inl (cI, 8, .inl f6_to)), (a6_curve, .inl (cI, 8, .inl f6_curve)), (a5, .inr (5, [.int v5_wind, .int v5_pull, .int v5_room, .int v5_reach])), (a4, .inr (4, [.ref a6, .ref a2, .ref a5, .int v4_begin, .int v4_end, .long v4_wireAtBegin, .long v4_wireAtEnd]))] t.heap ∧ va_K (dC, dI) vwCl [(cI, .int), (cJ, .long), (cZ, .boolean)] t ∧ va_D A [(a6, .inr (6, [.int v6_end, .int v6_bends, .ref a6_from, .ref a6_to, .ref a6_curve])), (a6_from, .inl (cI, 8, .inl f6_from)), (a6_to, .inl (cI, 8, .inl f6_to)), (a6_curve, .inl (cI, 8, .inl f6_curve)), (a5, .inr (5, [.int v5_wind, .int v5_pull, .int v5_room, .int v5_reach])), (a4, .inr (4, [.ref a6, .ref a2, .ref a5, .int v4_begin, .int v4_end, .long v4_wireAtBegin, .long v4_wireAtEnd]))]) A) [.ref a4].toArray s 0 0 A) (F0 m 79 ls [.int k79_0]) := by
        intro y79_1 y79_2 k79_0 H locs ls hP hD hS hl hw
        unfold wb_X4_isKept_79 at hw
        refine lv_istore_n (lv' := [(3, .int k79_0), (0, .ref a4), (1, .int y79_1), (2, .int y79_2)]) hx hb dX4_isKept_79 rfl hl (by decide) rfl (fun ls hl => ?_)
        refine lv_aload_n hx hb dX4_isKept_80 rfl (lv_at hl 1 rfl) ?_
        refine va_get (D := (dC, dI)) (ci := 4) (v := .ref a6) (C := RX4) (T := TX4) (N := 7) hx hb hts inX4_isKept_X4 hown hK hP 5 rfl rfl 0 (by decide) lk5 (fun _ h9 => h9) rfl dX4_isKept_81 ?_
        refine va_get (D := (dC, dI)) (ci := 6) (v := .ref a6_to) (C := RX6) (T := TX6) (N := 5) hx hb hts inX4_isKept_X6 hown hK hP 0 rfl rfl 3 (by decide) lk8 (fun _ h9 => h9) rfl dX4_isKept_84 ?_
        refine lv_iload_n hx hb dX4_isKept_87 rfl (lv_at hl 3 rfl) ?_
        obtain ⟨h12, hw⟩ := hw
        refine va_iald hx hb hK hP 2 0 rfl rfl h12 dX4_isKept_88 ?_
        refine lv_aload_n hx hb dX4_isKept_89 rfl (lv_at hl 1 rfl) ?_
        refine va_get (D := (dC, dI)) (ci := 4) (v := .int v4_end) (C := RX4) (T := TX4) (N := 7) hx hb hts inX4_isKept_X4 hown hK hP 5 rfl rfl 4 (by decide) lk1 (fun _ h9 => h9) rfl dX4_isKept_90 ?_
        refine lv_icmp_ge (tgt := 108) hx hb dX4_isKept_93 (by decide) (fun c13 => ?_) (fun c13 => ?_)
        · replace hw := hw.1 (c13)
          refine lv_aload_n hx hb dX4_isKept_108 rfl (lv_at hl 1 rfl) ?_
          refine va_get (D := (dC, dI)) (ci := 4) (v := .int v4_end) (C := RX4) (T := TX4) (N := 7) hx hb hts inX4_isKept_X4 hown hK hP 5 rfl rfl 4 (by decide) lk1 (fun _ h9 => h9) rfl dX4_isKept_109 ?_
          exact k_112 y79_1 y79_2 k79_0 v4_end _ _ _ (hP.sub [0, 1, 2, 3, 4, 5] rfl) (hD.sub [0, 1, 2, 3, 4, 5] (by decide) rfl) hS (lv_sub hl [1, 2, 3, 0] rfl) hw
        · replace hw := hw.2 (c13)
          refine lv_aload_n hx hb dX4_isKept_96 rfl (lv_at hl 1 rfl) ?_
          refine va_get (D := (dC, dI)) (ci := 4) (v := .ref a6) (C := RX4) (T := TX4) (N := 7) hx hb hts inX4_isKept_X4 hown hK hP 5 rfl rfl 0 (by decide) lk5 (fun _ h9 => h9) rfl dX4_isKept_97 ?_
          refine va_get (D := (dC, dI)) (ci := 6) (v := .ref a6_to) (C := RX6) (T := TX6) (N := 5) hx hb hts inX4_isKept_X6 hown hK hP 0 rfl rfl 3 (by decide) lk8 (fun _ h9 => h9) rfl dX4_isKept_100 ?_
          refine lv_iload_n hx hb dX4_isKept_103 rfl (lv_at hl 3 rfl) ?_
          obtain ⟨h24, hw⟩ := hw
          refine va_iald hx hb hK hP 2 0 rfl rfl h24 dX4_isKept_104 ?_
          refine lv_goto (tgt := 112) hx hb dX4_isKept_105 (by decide) ?_
          exact k_112 y79_1 y79_2 k79_0 (f6_to y79_2.toNatClampNeg) _ _ _ (hP.sub [0, 1, 2, 3, 4, 5] rfl) (hD.sub [0, 1, 2, 3, 4, 5] (by decide) rfl) hS (lv_sub hl [1, 2, 3, 0] rfl) hw
      intro y28_1 y28_2 H locs ls hP hD hS hl hw
      replace hw : wb_X4_isKept_28 Q v6_bends f6_from f6_to f6_curve v5_wind v5_pull v5_room v5_reach v4_begin v4_end v4_wireAtBegin v4_wireAtEnd  (wl_X4_isKept_28 Q v6_bends f6_from f6_to f6_curve v5_wind v5_pull v5_room v5_reach v4_begin v4_end v4_wireAtBegin v4_wireAtEnd  n_28) y28_1 y28_2 := hw
      unfold wb_X4_isKept_28 at hw
      refine lv_iload_n hx hb dX4_isKept_28 rfl (lv_at hl 2 rfl) ?_
      refine lv_aload_n hx hb dX4_isKept_29 rfl (lv_at hl 0 rfl) ?_
      refine va_get (D := (dC, dI)) (ci := 4) (v := .ref a6) (C := RX4) (T := TX4) (N := 7) hx hb hts inX4_isKept_X4 hown hK hP 5 rfl rfl 0 (by decide) lk5 (fun _ h9 => h9) rfl dX4_isKept_30 ?_
      refine va_get (D := (dC, dI)) (ci := 6) (v := .int v6_bends) (C := RX6) (T := TX6) (N := 5) hx hb hts inX4_isKept_X6 hown hK hP 0 rfl rfl 1 (by decide) lk6 (fun _ h9 => h9) rfl dX4_isKept_33 ?_
      refine lv_icmp_ge (tgt := 169) hx hb dX4_isKept_36 (by decide) (fun c2 => ?_) (fun c2 => ?_)
      · replace hw := hw.1 (c2)
        exact k_169 y28_1 _ _ _ (hP.sub [0, 1, 2, 3, 4, 5] rfl) (hD.sub [0, 1, 2, 3, 4, 5] (by decide) rfl) hS (lv_sub hl [0, 1] rfl) hw
      · replace hw := hw.2 (c2)
        refine lv_iload_n hx hb dX4_isKept_39 rfl (lv_at hl 1 rfl) ?_
        refine lv_aload_n hx hb dX4_isKept_40 rfl (lv_at hl 0 rfl) ?_
        refine va_get (D := (dC, dI)) (ci := 4) (v := .int v4_end) (C := RX4) (T := TX4) (N := 7) hx hb hts inX4_isKept_X4 hown hK hP 5 rfl rfl 4 (by decide) lk1 (fun _ h9 => h9) rfl dX4_isKept_41 ?_
        refine lv_icmp_ge (tgt := 169) hx hb dX4_isKept_44 (by decide) (fun c9 => ?_) (fun c9 => ?_)
        · replace hw := hw.1 (c9)
          exact k_169 y28_1 _ _ _ (hP.sub [0, 1, 2, 3, 4, 5] rfl) (hD.sub [0, 1, 2, 3, 4, 5] (by decide) rfl) hS (lv_sub hl [0, 1] rfl) hw
        · replace hw := hw.2 (c9)
          refine lv_aload_n hx hb dX4_isKept_47 rfl (lv_at hl 0 rfl) ?_
          refine va_get (D := (dC, dI)) (ci := 4) (v := .ref a6) (C := RX4) (T := TX4) (N := 7) hx hb hts inX4_isKept_X4 hown hK hP 5 rfl rfl 0 (by decide) lk5 (fun _ h9 => h9) rfl dX4_isKept_48 ?_
          refine va_get (D := (dC, dI)) (ci := 6) (v := .ref a6_from) (C := RX6) (T := TX6) (N := 5) hx hb hts inX4_isKept_X6 hown hK hP 0 rfl rfl 2 (by decide) lk7 (fun _ h9 => h9) rfl dX4_isKept_51 ?_
          refine lv_iload_n hx hb dX4_isKept_54 rfl (lv_at hl 2 rfl) ?_
          obtain ⟨h10, hw⟩ := hw
          refine va_iald hx hb hK hP 1 0 rfl rfl h10 dX4_isKept_55 ?_
          refine lv_aload_n hx hb dX4_isKept_56 rfl (lv_at hl 0 rfl) ?_
          refine va_get (D := (dC, dI)) (ci := 4) (v := .int v4_end) (C := RX4) (T := TX4) (N := 7) hx hb hts inX4_isKept_X4 hown hK hP 5 rfl rfl 4 (by decide) lk1 (fun _ h9 => h9) rfl dX4_isKept_57 ?_
          refine lv_icmp_ge (tgt := 75) hx hb dX4_isKept_60 (by decide) (fun c11 => ?_) (fun c11 => ?_)
          · replace hw := hw.1 (c11)
            refine lv_aload_n hx hb dX4_isKept_75 rfl (lv_at hl 0 rfl) ?_
            refine va_get (D := (dC, dI)) (ci := 4) (v := .int v4_end) (C := RX4) (T := TX4) (N := 7) hx hb hts inX4_isKept_X4 hown hK hP 5 rfl rfl 4 (by decide) lk1 (fun _ h9 => h9) rfl dX4_isKept_76 ?_
            exact k_79 y28_1 y28_2 v4_end _ _ _ (hP.sub [0, 1, 2, 3, 4, 5] rfl) (hD.sub [0, 1, 2, 3, 4, 5] (by decide) rfl) hS (lv_sub hl [0, 1, 2] rfl) hw
          · replace hw := hw.2 (c11)
            refine lv_aload_n hx hb dX4_isKept_63 rfl (lv_at hl 0 rfl) ?_
            refine va_get (D := (dC, dI)) (ci := 4) (v := .ref a6) (C := RX4) (T := TX4) (N := 7) hx hb hts inX4_isKept_X4 hown hK hP 5 rfl rfl 0 (by decide) lk5 (fun _ h9 => h9) rfl dX4_isKept_64 ?_
            refine va_get (D := (dC, dI)) (ci := 6) (v := .ref a6_from) (C := RX6) (T := TX6) (N := 5) hx hb hts inX4_isKept_X6 hown hK hP 0 rfl rfl 2 (by decide) lk7 (fun _ h9 => h9) rfl dX4_isKept_67 ?_
            refine lv_iload_n hx hb dX4_isKept_70 rfl (lv_at hl 2 rfl) ?_
            obtain ⟨h25, hw⟩ := hw
            refine va_iald hx hb hK hP 1 0 rfl rfl h25 dX4_isKept_71 ?_
            refine lv_goto (tgt := 79) hx hb dX4_isKept_72 (by decide) ?_
            exact k_79 y28_1 y28_2 (f6_from y28_2.toNatClampNeg) _ _ _ (hP.sub [0, 1, 2, 3, 4, 5] rfl) (hD.sub [0, 1, 2, 3, 4, 5] (by decide) rfl) hS (lv_sub hl [0, 1, 2] rfl) hw
  have hl := lv_entry ([.ref a4]) (n := 5) (Nat.le_of_ble_eq_true rfl)
  rw [lg_entry_eq]
  generalize (lg_sl ([.ref a4]) ++ List.replicate (5 - (lg_sl ([.ref a4])).length) Slot.unset).toArray = ls at hl ⊢
  have hl : lv_has ls 5 [(0, .ref a4)] := hl
  obtain ⟨H, hHe⟩ : ∃ H, H = s.heap := ⟨_, rfl⟩
  rw [← hHe] at hP
  have hS : va_S A s.heap H [] := by rw [hHe]; exact hS
  rw [← hHe]
  unfold wp_X4_isKept at hw
  refine lv_aload_n hx hb dX4_isKept_0 rfl (lv_at hl 0 rfl) ?_
  refine va_get (D := (dC, dI)) (ci := 4) (v := .int v4_end) (C := RX4) (T := TX4) (N := 7) hx hb hts inX4_isKept_X4 hown hK hP 5 rfl rfl 4 (by decide) lk1 (fun _ h9 => h9) rfl dX4_isKept_1 ?_
  refine lv_aload_n hx hb dX4_isKept_4 rfl (lv_at hl 0 rfl) ?_
  refine va_get (D := (dC, dI)) (ci := 4) (v := .int v4_begin) (C := RX4) (T := TX4) (N := 7) hx hb hts inX4_isKept_X4 hown hK hP 5 rfl rfl 3 (by decide) lk2 (fun _ h9 => h9) rfl dX4_isKept_5 ?_
  refine lv_isub hx hb dX4_isKept_8 ?_
  refine lv_aload_n hx hb dX4_isKept_9 rfl (lv_at hl 0 rfl) ?_
  refine va_get (D := (dC, dI)) (ci := 4) (v := .ref a5) (C := RX4) (T := TX4) (N := 7) hx hb hts inX4_isKept_X4 hown hK hP 5 rfl rfl 2 (by decide) lk3 (fun _ h9 => h9) rfl dX4_isKept_10 ?_
  refine va_get (D := (dC, dI)) (ci := 5) (v := .int v5_reach) (C := RX5) (T := TX5) (N := 4) hx hb hts inX4_isKept_X5 hown hK hP 4 rfl rfl 3 (by decide) lk4 (fun _ h9 => h9) rfl dX4_isKept_13 ?_
  refine lv_icmp_le (tgt := 21) hx hb dX4_isKept_16 (by decide) (fun c1 => ?_) (fun c1 => ?_)
  · replace hw := hw.1 (c1)
    refine lv_aload_n hx hb dX4_isKept_21 rfl (lv_at hl 0 rfl) ?_
    refine va_get (D := (dC, dI)) (ci := 4) (v := .int v4_begin) (C := RX4) (T := TX4) (N := 7) hx hb hts inX4_isKept_X4 hown hK hP 5 rfl rfl 3 (by decide) lk2 (fun _ h9 => h9) rfl dX4_isKept_22 ?_
    refine lv_istore_n (lv' := [(1, .int v4_begin), (0, .ref a4)]) hx hb dX4_isKept_25 rfl hl (by decide) rfl (fun ls hl => ?_)
    refine lv_iconst (v := (0 : Int32)) hx hb dX4_isKept_26 (by decide) ?_
    refine lv_istore_n (lv' := [(2, .int (0 : Int32)), (1, .int v4_begin), (0, .ref a4)]) hx hb dX4_isKept_27 rfl hl (by decide) rfl (fun ls hl => ?_)
    obtain ⟨n_28, hw⟩ := hw
    exact k_28 n_28 v4_begin (0 : Int32) _ _ _ (hP.sub [0, 1, 2, 3, 4, 5] rfl) (hD.sub [0, 1, 2, 3, 4, 5] (by decide) rfl) hS (lv_sub hl [2, 1, 0] rfl) hw
  · replace hw := hw.2 (c1)
    refine lv_iconst (v := (0 : Int32)) hx hb dX4_isKept_19 (by decide) ?_
    have hP9 := hP.sub (ws' := [(a6, .inr (6, [.int v6_end, .int v6_bends, .ref a6_from, .ref a6_to, .ref a6_curve])), (a6_from, .inl (cI, 8, .inl f6_from)), (a6_to, .inl (cI, 8, .inl f6_to)), (a6_curve, .inl (cI, 8, .inl f6_curve)), (a5, .inr (5, [.int v5_wind, .int v5_pull, .int v5_room, .int v5_reach])), (a4, .inr (4, [.ref a6, .ref a2, .ref a5, .int v4_begin, .int v4_end, .long v4_wireAtBegin, .long v4_wireAtEnd]))]) [0, 1, 2, 3, 4, 5] rfl
    have hD9 := hD.sub (ws' := [(a6, .inr (6, [.int v6_end, .int v6_bends, .ref a6_from, .ref a6_to, .ref a6_curve])), (a6_from, .inl (cI, 8, .inl f6_from)), (a6_to, .inl (cI, 8, .inl f6_to)), (a6_curve, .inl (cI, 8, .inl f6_curve)), (a5, .inr (5, [.int v5_wind, .int v5_pull, .int v5_room, .int v5_reach])), (a4, .inr (4, [.ref a6, .ref a2, .ref a5, .int v4_begin, .int v4_end, .long v4_wireAtBegin, .long v4_wireAtEnd]))]) [0, 1, 2, 3, 4, 5] (by decide) rfl
    obtain ⟨h26, hw⟩ := hw
    exact W.zret (v := (0 : Int32)) hx hb hr (wg_bool h26) (fun t ht hW => ⟨⟨(0 : Int32), (), rfl, hw, by rw [ht]; exact hP9, va_K.moved hW.alike hK, hD9⟩, hS.F ht⟩) hS.2.2 dX4_isKept_20
