theorem wg_cbint : componentBytes .int = 4 := rfl
theorem wg_cblong : componentBytes .long = 8 := rfl
theorem wg_cbboolean : componentBytes .boolean = 1 := rfl
theorem inX6_init_X6 : ∀ w ∈ wsX60, w ∈ wsX6_init := fun _ h => List.mem_cons_of_mem _ (List.mem_append_right _ h)
set_option maxHeartbeats 4000000 in
set_option maxRecDepth 100000 in
theorem c_X6_init (l : Launch) (dC : Nat → ClassId) (dI : Nat → Nat → Nat) (cI cJ cZ : ClassId) (h0 : Nat) (sz : Nat) : Met l yX6_init wsX6_init ({ frames := 1, cells := 3, slots := 24, locals := 12 } : Room) (va_Pc [.ref h0] (fun U => U.heap.size = sz ∧ va_P (dC, dI) vwCl [(h0, .inr (6, [.int 0, .int 0, .null, .null, .null]))] U.heap ∧ va_K (dC, dI) vwCl [(cI, .int), (cJ, .long), (cZ, .boolean)] U ∧ va_D (fun _ => True) [(h0, .inr (6, [.int 0, .int 0, .null, .null, .null]))])) (va_Qv (fun _ : Unit => True) (fun _ t => ∃ q1 q2 q3 : Nat, va_P (dC, dI) vwCl [(h0, .inr (6, [.int (1000 : Int32), .int 0, .ref q1, .ref q2, .ref q3])), (q1, .inl (cI, 8, .inl (fun _ => 0))), (q2, .inl (cI, 8, .inl (fun _ => 0))), (q3, .inl (cI, 8, .inl (fun _ => 0)))] t.heap ∧ va_K (dC, dI) vwCl [(cI, .int), (cJ, .long), (cZ, .boolean)] t ∧ va_D (va_A [(h0, .inr (6, [.int 0, .int 0, .null, .null, .null]))] sz) [(h0, .inr (6, [.int (1000 : Int32), .int 0, .ref q1, .ref q2, .ref q3])), (q1, .inl (cI, 8, .inl (fun _ => 0))), (q2, .inl (cI, 8, .inl (fun _ => 0))), (q3, .inl (cI, 8, .inl (fun _ => 0)))]) (va_A [(h0, .inr (6, [.int 0, .int 0, .null, .null, .null]))] sz)) 3 24 (va_A [(h0, .inr (6, [.int 0, .int 0, .null, .null, .null]))] sz) := by
  refine Met.ofW (cc := cX6_init) (maxL := 1) (ret := none) (by decide) rfl ?_
  intro p e s m args below meth c s₁ B hml hv
  obtain ⟨rfl, hsz, hP, hK, hD0⟩ := hv
  have hx := B.exec
  have hb := B.bytes
  have hr := B.returns
  have hts := atoms_spec (ws := wsX6_init) B.pre
  have hown : s.vm.findClass RX6 = some m.cls := findClass_of_methodNamed B.named
  have hlocks := B.notSynchronized
  have hin : meth.name = "<init>" := (name_of_methodNamed B.named B.method).1
  subst hsz
  have hD := hD0.self (sz := s.heap.size)
  generalize hAe : va_A [(h0, .inr (6, [.int 0, .int 0, .null, .null, .null]))] s.heap.size = A at hD ⊢
  have hA : ∀ q : Nat, s.heap.size ≤ q → A q := fun q h => by rw [← hAe]; exact Or.inr h
  have hS : va_S A s.heap s.heap [] := va_S.rf
  have hP : va_P (dC, dI) vwCl [(h0, .inr (6, [.int 0, .int 0, .null, .null, .null]))] s.heap := hP
  have lk1 := hts (.methodLink RX6 3 objectInit) (by decide +kernel)
  have lk2 := hts (.instanceMethod objectInit) (by decide +kernel)
  have lk3 := hts (.code objectInit ⟨#[0xb1]⟩ 1 none) (by decide +kernel)
  have lk4 := hts (.fieldLink RX6 9 "WireRow$Track" "end" "I") (by decide +kernel)
  have lk5 := hts (.arrayClass .int) (by decide +kernel)
  have lk6 := hts (.fieldLink RX6 15 "WireRow$Track" "from" "[I") (by decide +kernel)
  have lk7 := hts (.fieldLink RX6 19 "WireRow$Track" "to" "[I") (by decide +kernel)
  have lk8 := hts (.fieldLink RX6 22 "WireRow$Track" "curve" "[I") (by decide +kernel)
  have hl := lv_entry ([.ref h0]) (n := 1) (Nat.le_of_ble_eq_true rfl)
  rw [lg_entry_eq]
  generalize (lg_sl ([.ref h0]) ++ List.replicate (1 - (lg_sl ([.ref h0])).length) Slot.unset).toArray = ls at hl ⊢
  have hl : lv_has ls 1 [(0, .ref h0)] := hl
  obtain ⟨H, hHe⟩ : ∃ H, H = s.heap := ⟨_, rfl⟩
  rw [← hHe] at hP
  have hS : va_S A s.heap H [] := by rw [hHe]; exact hS
  rw [← hHe]
  refine lv_aload_n hx hb dX6_init_0 rfl (lv_at hl 0 rfl) ?_
  refine W.objInit hx hb hown lk1 lk2 lk3 rfl (by rw [hml]; exact hl.1) rfl dX6_init_1 (Nat.le_of_ble_eq_true rfl) (Nat.le_of_ble_eq_true rfl) ?_
  refine W.eq (g2 := F0 m 4 ls []) rfl ?_
  refine lv_aload_n hx hb dX6_init_4 rfl (lv_at hl 0 rfl) ?_
  refine lv_sipush (v := (1000 : Int32)) hx hb dX6_init_5 (by decide) ?_
  refine va_put (D := (dC, dI)) (ci := 6) (v := .int (1000 : Int32)) (ty := .int) (C := RX6) (T := TX6) (N := 5) hx hb hts inX6_init_X6 tyX6 tyX6_ok nmX6 hown hK hP hD hS 0 rfl rfl 0 (by decide) lk4 (fun _ h9 => h9) rfl (by decide +kernel) rfl rfl (Nat.le_of_ble_eq_true rfl) dX6_init_8 (fun H locs hP hD hS => ?_)
  have hP : va_P (dC, dI) vwCl [(h0, .inr (6, [.int (1000 : Int32), .int 0, .null, .null, .null]))] H := hP
  have hD : va_D A [(h0, .inr (6, [.int (1000 : Int32), .int 0, .null, .null, .null]))] := hD
  refine lv_aload_n hx hb dX6_init_11 rfl (lv_at hl 0 rfl) ?_
  refine lv_bipush (v := (8 : Int32)) hx hb dX6_init_12 (by decide) ?_
  refine va_newa (atype := .int) (ty := .int) (N' := 8) (a0 := (8, .inl (fun _ => 0))) hx hb lk5 rfl hK hP hD hS hA (fun _ => rfl) (by decide +kernel) (by decide +kernel) (by have := wg_cbint; omega) (by show 0 + 1 ≤ 3; omega) (by show 0 + 8 ≤ 24; omega) dX6_init_14 (fun q1 cN H hKN hP hD hS => ?_)
  obtain rfl : cI = cN := (wg_cls hKN 3 0 rfl rfl).symm
  have hP : va_P (dC, dI) vwCl [(h0, .inr (6, [.int (1000 : Int32), .int 0, .null, .null, .null])), (q1, .inl (cI, 8, .inl (fun _ => 0)))] H := hP
  have hD : va_D A [(h0, .inr (6, [.int (1000 : Int32), .int 0, .null, .null, .null])), (q1, .inl (cI, 8, .inl (fun _ => 0)))] := hD
  refine W.widen (k := 1) (n := 8) (by omega) (by omega) ?_
  refine va_putF (D := (dC, dI)) (ci := 6) (v := .ref q1) (ty := .array .int) (C := RX6) (T := TX6) (N := 5) hx hb hts inX6_init_X6 tyX6 tyX6_ok nmX6 hown hK hP hD hS 0 rfl rfl 2 (by decide) lk6 (fun _ h9 => h9) rfl hin rfl (by decide +kernel) rfl rfl (Nat.le_of_ble_eq_true rfl) dX6_init_16 (fun H locs hP hD hS => ?_)
  have hP : va_P (dC, dI) vwCl [(h0, .inr (6, [.int (1000 : Int32), .int 0, .ref q1, .null, .null])), (q1, .inl (cI, 8, .inl (fun _ => 0)))] H := hP
  have hD : va_D A [(h0, .inr (6, [.int (1000 : Int32), .int 0, .ref q1, .null, .null])), (q1, .inl (cI, 8, .inl (fun _ => 0)))] := hD
  refine lv_aload_n hx hb dX6_init_19 rfl (lv_at hl 0 rfl) ?_
  refine lv_bipush (v := (8 : Int32)) hx hb dX6_init_20 (by decide) ?_
  refine va_newa (atype := .int) (ty := .int) (N' := 8) (a0 := (8, .inl (fun _ => 0))) hx hb lk5 rfl hK hP hD hS hA (fun _ => rfl) (by decide +kernel) (by decide +kernel) (by have := wg_cbint; omega) (by show 1 + 1 ≤ 3; omega) (by show 8 + 8 ≤ 24; omega) dX6_init_22 (fun q2 cN H hKN hP hD hS => ?_)
  obtain rfl : cI = cN := (wg_cls hKN 3 0 rfl rfl).symm
  have hP : va_P (dC, dI) vwCl [(h0, .inr (6, [.int (1000 : Int32), .int 0, .ref q1, .null, .null])), (q1, .inl (cI, 8, .inl (fun _ => 0))), (q2, .inl (cI, 8, .inl (fun _ => 0)))] H := hP
  have hD : va_D A [(h0, .inr (6, [.int (1000 : Int32), .int 0, .ref q1, .null, .null])), (q1, .inl (cI, 8, .inl (fun _ => 0))), (q2, .inl (cI, 8, .inl (fun _ => 0)))] := hD
  refine W.widen (k := 2) (n := 16) (by omega) (by omega) ?_
  refine va_putF (D := (dC, dI)) (ci := 6) (v := .ref q2) (ty := .array .int) (C := RX6) (T := TX6) (N := 5) hx hb hts inX6_init_X6 tyX6 tyX6_ok nmX6 hown hK hP hD hS 0 rfl rfl 3 (by decide) lk7 (fun _ h9 => h9) rfl hin rfl (by decide +kernel) rfl rfl (Nat.le_of_ble_eq_true rfl) dX6_init_24 (fun H locs hP hD hS => ?_)
  have hP : va_P (dC, dI) vwCl [(h0, .inr (6, [.int (1000 : Int32), .int 0, .ref q1, .ref q2, .null])), (q1, .inl (cI, 8, .inl (fun _ => 0))), (q2, .inl (cI, 8, .inl (fun _ => 0)))] H := hP
  have hD : va_D A [(h0, .inr (6, [.int (1000 : Int32), .int 0, .ref q1, .ref q2, .null])), (q1, .inl (cI, 8, .inl (fun _ => 0))), (q2, .inl (cI, 8, .inl (fun _ => 0)))] := hD
  refine lv_aload_n hx hb dX6_init_27 rfl (lv_at hl 0 rfl) ?_
  refine lv_bipush (v := (8 : Int32)) hx hb dX6_init_28 (by decide) ?_
  refine va_newa (atype := .int) (ty := .int) (N' := 8) (a0 := (8, .inl (fun _ => 0))) hx hb lk5 rfl hK hP hD hS hA (fun _ => rfl) (by decide +kernel) (by decide +kernel) (by have := wg_cbint; omega) (by show 2 + 1 ≤ 3; omega) (by show 16 + 8 ≤ 24; omega) dX6_init_30 (fun q3 cN H hKN hP hD hS => ?_)
  obtain rfl : cI = cN := (wg_cls hKN 3 0 rfl rfl).symm
  have hP : va_P (dC, dI) vwCl [(h0, .inr (6, [.int (1000 : Int32), .int 0, .ref q1, .ref q2, .null])), (q1, .inl (cI, 8, .inl (fun _ => 0))), (q2, .inl (cI, 8, .inl (fun _ => 0))), (q3, .inl (cI, 8, .inl (fun _ => 0)))] H := hP
  have hD : va_D A [(h0, .inr (6, [.int (1000 : Int32), .int 0, .ref q1, .ref q2, .null])), (q1, .inl (cI, 8, .inl (fun _ => 0))), (q2, .inl (cI, 8, .inl (fun _ => 0))), (q3, .inl (cI, 8, .inl (fun _ => 0)))] := hD
  refine W.widen (k := 3) (n := 24) (by omega) (by omega) ?_
  refine va_putF (D := (dC, dI)) (ci := 6) (v := .ref q3) (ty := .array .int) (C := RX6) (T := TX6) (N := 5) hx hb hts inX6_init_X6 tyX6 tyX6_ok nmX6 hown hK hP hD hS 0 rfl rfl 4 (by decide) lk8 (fun _ h9 => h9) rfl hin rfl (by decide +kernel) rfl rfl (Nat.le_of_ble_eq_true rfl) dX6_init_32 (fun H locs hP hD hS => ?_)
  have hP : va_P (dC, dI) vwCl [(h0, .inr (6, [.int (1000 : Int32), .int 0, .ref q1, .ref q2, .ref q3])), (q1, .inl (cI, 8, .inl (fun _ => 0))), (q2, .inl (cI, 8, .inl (fun _ => 0))), (q3, .inl (cI, 8, .inl (fun _ => 0)))] H := hP
  have hD : va_D A [(h0, .inr (6, [.int (1000 : Int32), .int 0, .ref q1, .ref q2, .ref q3])), (q1, .inl (cI, 8, .inl (fun _ => 0))), (q2, .inl (cI, 8, .inl (fun _ => 0))), (q3, .inl (cI, 8, .inl (fun _ => 0)))] := hD
  exact W.vret hx hb hr (fun t ht hW => ⟨⟨(), rfl, trivial, q1, q2, q3, by rw [ht]; exact hP, va_K.moved hW.alike hK, hD⟩, hS.F ht⟩) hS.2.2 dX6_init_35

theorem inX2_init_X2 : ∀ w ∈ wsX20, w ∈ wsX2_init := fun _ h => List.mem_cons_of_mem _ (List.mem_append_right _ h)
set_option maxHeartbeats 4000000 in
set_option maxRecDepth 100000 in
theorem c_X2_init (l : Launch) (dC : Nat → ClassId) (dI : Nat → Nat → Nat) (cI cJ cZ : ClassId) (h0 : Nat) (sz : Nat) : Met l yX2_init wsX2_init ({ frames := 1, cells := 6, slots := 240, locals := 12 } : Room) (va_Pc [.ref h0] (fun U => U.heap.size = sz ∧ va_P (dC, dI) vwCl [(h0, .inr (2, [.int 0, .int 0, .null, .null, .null, .null, .null, .null]))] U.heap ∧ va_K (dC, dI) vwCl [(cI, .int), (cJ, .long), (cZ, .boolean)] U ∧ va_D (fun _ => True) [(h0, .inr (2, [.int 0, .int 0, .null, .null, .null, .null, .null, .null]))])) (va_Qv (fun _ : Unit => True) (fun _ t => ∃ q1 q2 q3 q4 q5 q6 : Nat, va_P (dC, dI) vwCl [(h0, .inr (2, [.int 0, .int 0, .ref q1, .ref q2, .ref q3, .ref q4, .ref q5, .ref q6])), (q1, .inl (cI, 40, .inl (fun _ => 0))), (q2, .inl (cI, 40, .inl (fun _ => 0))), (q3, .inl (cJ, 40, .inr (.inl (fun _ => 0)))), (q4, .inl (cI, 40, .inl (fun _ => 0))), (q5, .inl (cZ, 40, .inl (fun _ => 0))), (q6, .inl (cI, 40, .inl (fun _ => 0)))] t.heap ∧ va_K (dC, dI) vwCl [(cI, .int), (cJ, .long), (cZ, .boolean)] t ∧ va_D (va_A [(h0, .inr (2, [.int 0, .int 0, .null, .null, .null, .null, .null, .null]))] sz) [(h0, .inr (2, [.int 0, .int 0, .ref q1, .ref q2, .ref q3, .ref q4, .ref q5, .ref q6])), (q1, .inl (cI, 40, .inl (fun _ => 0))), (q2, .inl (cI, 40, .inl (fun _ => 0))), (q3, .inl (cJ, 40, .inr (.inl (fun _ => 0)))), (q4, .inl (cI, 40, .inl (fun _ => 0))), (q5, .inl (cZ, 40, .inl (fun _ => 0))), (q6, .inl (cI, 40, .inl (fun _ => 0)))]) (va_A [(h0, .inr (2, [.int 0, .int 0, .null, .null, .null, .null, .null, .null]))] sz)) 6 240 (va_A [(h0, .inr (2, [.int 0, .int 0, .null, .null, .null, .null, .null, .null]))] sz) := by
  refine Met.ofW (cc := cX2_init) (maxL := 1) (ret := none) (by decide) rfl ?_
  intro p e s m args below meth c s₁ B hml hv
  obtain ⟨rfl, hsz, hP, hK, hD0⟩ := hv
  have hx := B.exec
  have hb := B.bytes
  have hr := B.returns
  have hts := atoms_spec (ws := wsX2_init) B.pre
  have hown : s.vm.findClass RX2 = some m.cls := findClass_of_methodNamed B.named
  have hlocks := B.notSynchronized
  have hin : meth.name = "<init>" := (name_of_methodNamed B.named B.method).1
  subst hsz
  have hD := hD0.self (sz := s.heap.size)
  generalize hAe : va_A [(h0, .inr (2, [.int 0, .int 0, .null, .null, .null, .null, .null, .null]))] s.heap.size = A at hD ⊢
  have hA : ∀ q : Nat, s.heap.size ≤ q → A q := fun q h => by rw [← hAe]; exact Or.inr h
  have hS : va_S A s.heap s.heap [] := va_S.rf
  have hP : va_P (dC, dI) vwCl [(h0, .inr (2, [.int 0, .int 0, .null, .null, .null, .null, .null, .null]))] s.heap := hP
  have lk1 := hts (.methodLink RX2 3 objectInit) (by decide +kernel)
  have lk2 := hts (.instanceMethod objectInit) (by decide +kernel)
  have lk3 := hts (.code objectInit ⟨#[0xb1]⟩ 1 none) (by decide +kernel)
  have lk4 := hts (.arrayClass .int) (by decide +kernel)
  have lk5 := hts (.fieldLink RX2 9 "WireRow$PegRow" "place" "[I") (by decide +kernel)
  have lk6 := hts (.fieldLink RX2 15 "WireRow$PegRow" "price" "[I") (by decide +kernel)
  have lk7 := hts (.arrayClass .long) (by decide +kernel)
  have lk8 := hts (.fieldLink RX2 18 "WireRow$PegRow" "trackAside" "[J") (by decide +kernel)
  have lk9 := hts (.fieldLink RX2 22 "WireRow$PegRow" "side" "[I") (by decide +kernel)
  have lk10 := hts (.arrayClass .boolean) (by decide +kernel)
  have lk11 := hts (.fieldLink RX2 25 "WireRow$PegRow" "stands" "[Z") (by decide +kernel)
  have lk12 := hts (.fieldLink RX2 29 "WireRow$PegRow" "mastPeg" "[I") (by decide +kernel)
  have hl := lv_entry ([.ref h0]) (n := 1) (Nat.le_of_ble_eq_true rfl)
  rw [lg_entry_eq]
  generalize (lg_sl ([.ref h0]) ++ List.replicate (1 - (lg_sl ([.ref h0])).length) Slot.unset).toArray = ls at hl ⊢
  have hl : lv_has ls 1 [(0, .ref h0)] := hl
  obtain ⟨H, hHe⟩ : ∃ H, H = s.heap := ⟨_, rfl⟩
  rw [← hHe] at hP
  have hS : va_S A s.heap H [] := by rw [hHe]; exact hS
  rw [← hHe]
  refine lv_aload_n hx hb dX2_init_0 rfl (lv_at hl 0 rfl) ?_
  refine W.objInit hx hb hown lk1 lk2 lk3 rfl (by rw [hml]; exact hl.1) rfl dX2_init_1 (Nat.le_of_ble_eq_true rfl) (Nat.le_of_ble_eq_true rfl) ?_
  refine W.eq (g2 := F0 m 4 ls []) rfl ?_
  refine lv_aload_n hx hb dX2_init_4 rfl (lv_at hl 0 rfl) ?_
  refine lv_bipush (v := (40 : Int32)) hx hb dX2_init_5 (by decide) ?_
  refine va_newa (atype := .int) (ty := .int) (N' := 40) (a0 := (40, .inl (fun _ => 0))) hx hb lk4 rfl hK hP hD hS hA (fun _ => rfl) (by decide +kernel) (by decide +kernel) (by have := wg_cbint; omega) (by show 0 + 1 ≤ 6; omega) (by show 0 + 40 ≤ 240; omega) dX2_init_7 (fun q1 cN H hKN hP hD hS => ?_)
  obtain rfl : cI = cN := (wg_cls hKN 3 0 rfl rfl).symm
  have hP : va_P (dC, dI) vwCl [(h0, .inr (2, [.int 0, .int 0, .null, .null, .null, .null, .null, .null])), (q1, .inl (cI, 40, .inl (fun _ => 0)))] H := hP
  have hD : va_D A [(h0, .inr (2, [.int 0, .int 0, .null, .null, .null, .null, .null, .null])), (q1, .inl (cI, 40, .inl (fun _ => 0)))] := hD
  refine W.widen (k := 1) (n := 40) (by omega) (by omega) ?_
  refine va_putF (D := (dC, dI)) (ci := 2) (v := .ref q1) (ty := .array .int) (C := RX2) (T := TX2) (N := 8) hx hb hts inX2_init_X2 tyX2 tyX2_ok nmX2 hown hK hP hD hS 0 rfl rfl 2 (by decide) lk5 (fun _ h9 => h9) rfl hin rfl (by decide +kernel) rfl rfl (Nat.le_of_ble_eq_true rfl) dX2_init_9 (fun H locs hP hD hS => ?_)
  have hP : va_P (dC, dI) vwCl [(h0, .inr (2, [.int 0, .int 0, .ref q1, .null, .null, .null, .null, .null])), (q1, .inl (cI, 40, .inl (fun _ => 0)))] H := hP
  have hD : va_D A [(h0, .inr (2, [.int 0, .int 0, .ref q1, .null, .null, .null, .null, .null])), (q1, .inl (cI, 40, .inl (fun _ => 0)))] := hD
  refine lv_aload_n hx hb dX2_init_12 rfl (lv_at hl 0 rfl) ?_
  refine lv_bipush (v := (40 : Int32)) hx hb dX2_init_13 (by decide) ?_
  refine va_newa (atype := .int) (ty := .int) (N' := 40) (a0 := (40, .inl (fun _ => 0))) hx hb lk4 rfl hK hP hD hS hA (fun _ => rfl) (by decide +kernel) (by decide +kernel) (by have := wg_cbint; omega) (by show 1 + 1 ≤ 6; omega) (by show 40 + 40 ≤ 240; omega) dX2_init_15 (fun q2 cN H hKN hP hD hS => ?_)
  obtain rfl : cI = cN := (wg_cls hKN 3 0 rfl rfl).symm
  have hP : va_P (dC, dI) vwCl [(h0, .inr (2, [.int 0, .int 0, .ref q1, .null, .null, .null, .null, .null])), (q1, .inl (cI, 40, .inl (fun _ => 0))), (q2, .inl (cI, 40, .inl (fun _ => 0)))] H := hP
  have hD : va_D A [(h0, .inr (2, [.int 0, .int 0, .ref q1, .null, .null, .null, .null, .null])), (q1, .inl (cI, 40, .inl (fun _ => 0))), (q2, .inl (cI, 40, .inl (fun _ => 0)))] := hD
  refine W.widen (k := 2) (n := 80) (by omega) (by omega) ?_
  refine va_putF (D := (dC, dI)) (ci := 2) (v := .ref q2) (ty := .array .int) (C := RX2) (T := TX2) (N := 8) hx hb hts inX2_init_X2 tyX2 tyX2_ok nmX2 hown hK hP hD hS 0 rfl rfl 3 (by decide) lk6 (fun _ h9 => h9) rfl hin rfl (by decide +kernel) rfl rfl (Nat.le_of_ble_eq_true rfl) dX2_init_17 (fun H locs hP hD hS => ?_)
  have hP : va_P (dC, dI) vwCl [(h0, .inr (2, [.int 0, .int 0, .ref q1, .ref q2, .null, .null, .null, .null])), (q1, .inl (cI, 40, .inl (fun _ => 0))), (q2, .inl (cI, 40, .inl (fun _ => 0)))] H := hP
  have hD : va_D A [(h0, .inr (2, [.int 0, .int 0, .ref q1, .ref q2, .null, .null, .null, .null])), (q1, .inl (cI, 40, .inl (fun _ => 0))), (q2, .inl (cI, 40, .inl (fun _ => 0)))] := hD
  refine lv_aload_n hx hb dX2_init_20 rfl (lv_at hl 0 rfl) ?_
  refine lv_bipush (v := (40 : Int32)) hx hb dX2_init_21 (by decide) ?_
  refine va_newa (atype := .long) (ty := .long) (N' := 40) (a0 := (40, .inr (.inl (fun _ => 0)))) hx hb lk7 rfl hK hP hD hS hA (fun _ => rfl) (by decide +kernel) (by decide +kernel) (by have := wg_cblong; omega) (by show 2 + 1 ≤ 6; omega) (by show 80 + 40 ≤ 240; omega) dX2_init_23 (fun q3 cN H hKN hP hD hS => ?_)
  obtain rfl : cJ = cN := (wg_clsL hKN 3 1 rfl rfl).symm
  have hP : va_P (dC, dI) vwCl [(h0, .inr (2, [.int 0, .int 0, .ref q1, .ref q2, .null, .null, .null, .null])), (q1, .inl (cI, 40, .inl (fun _ => 0))), (q2, .inl (cI, 40, .inl (fun _ => 0))), (q3, .inl (cJ, 40, .inr (.inl (fun _ => 0))))] H := hP
  have hD : va_D A [(h0, .inr (2, [.int 0, .int 0, .ref q1, .ref q2, .null, .null, .null, .null])), (q1, .inl (cI, 40, .inl (fun _ => 0))), (q2, .inl (cI, 40, .inl (fun _ => 0))), (q3, .inl (cJ, 40, .inr (.inl (fun _ => 0))))] := hD
  refine W.widen (k := 3) (n := 120) (by omega) (by omega) ?_
  refine va_putF (D := (dC, dI)) (ci := 2) (v := .ref q3) (ty := .array .long) (C := RX2) (T := TX2) (N := 8) hx hb hts inX2_init_X2 tyX2 tyX2_ok nmX2 hown hK hP hD hS 0 rfl rfl 4 (by decide) lk8 (fun _ h9 => h9) rfl hin rfl (by decide +kernel) rfl rfl (Nat.le_of_ble_eq_true rfl) dX2_init_25 (fun H locs hP hD hS => ?_)
  have hP : va_P (dC, dI) vwCl [(h0, .inr (2, [.int 0, .int 0, .ref q1, .ref q2, .ref q3, .null, .null, .null])), (q1, .inl (cI, 40, .inl (fun _ => 0))), (q2, .inl (cI, 40, .inl (fun _ => 0))), (q3, .inl (cJ, 40, .inr (.inl (fun _ => 0))))] H := hP
  have hD : va_D A [(h0, .inr (2, [.int 0, .int 0, .ref q1, .ref q2, .ref q3, .null, .null, .null])), (q1, .inl (cI, 40, .inl (fun _ => 0))), (q2, .inl (cI, 40, .inl (fun _ => 0))), (q3, .inl (cJ, 40, .inr (.inl (fun _ => 0))))] := hD
  refine lv_aload_n hx hb dX2_init_28 rfl (lv_at hl 0 rfl) ?_
  refine lv_bipush (v := (40 : Int32)) hx hb dX2_init_29 (by decide) ?_
  refine va_newa (atype := .int) (ty := .int) (N' := 40) (a0 := (40, .inl (fun _ => 0))) hx hb lk4 rfl hK hP hD hS hA (fun _ => rfl) (by decide +kernel) (by decide +kernel) (by have := wg_cbint; omega) (by show 3 + 1 ≤ 6; omega) (by show 120 + 40 ≤ 240; omega) dX2_init_31 (fun q4 cN H hKN hP hD hS => ?_)
  obtain rfl : cI = cN := (wg_cls hKN 3 0 rfl rfl).symm
  have hP : va_P (dC, dI) vwCl [(h0, .inr (2, [.int 0, .int 0, .ref q1, .ref q2, .ref q3, .null, .null, .null])), (q1, .inl (cI, 40, .inl (fun _ => 0))), (q2, .inl (cI, 40, .inl (fun _ => 0))), (q3, .inl (cJ, 40, .inr (.inl (fun _ => 0)))), (q4, .inl (cI, 40, .inl (fun _ => 0)))] H := hP
  have hD : va_D A [(h0, .inr (2, [.int 0, .int 0, .ref q1, .ref q2, .ref q3, .null, .null, .null])), (q1, .inl (cI, 40, .inl (fun _ => 0))), (q2, .inl (cI, 40, .inl (fun _ => 0))), (q3, .inl (cJ, 40, .inr (.inl (fun _ => 0)))), (q4, .inl (cI, 40, .inl (fun _ => 0)))] := hD
  refine W.widen (k := 4) (n := 160) (by omega) (by omega) ?_
  refine va_putF (D := (dC, dI)) (ci := 2) (v := .ref q4) (ty := .array .int) (C := RX2) (T := TX2) (N := 8) hx hb hts inX2_init_X2 tyX2 tyX2_ok nmX2 hown hK hP hD hS 0 rfl rfl 5 (by decide) lk9 (fun _ h9 => h9) rfl hin rfl (by decide +kernel) rfl rfl (Nat.le_of_ble_eq_true rfl) dX2_init_33 (fun H locs hP hD hS => ?_)
  have hP : va_P (dC, dI) vwCl [(h0, .inr (2, [.int 0, .int 0, .ref q1, .ref q2, .ref q3, .ref q4, .null, .null])), (q1, .inl (cI, 40, .inl (fun _ => 0))), (q2, .inl (cI, 40, .inl (fun _ => 0))), (q3, .inl (cJ, 40, .inr (.inl (fun _ => 0)))), (q4, .inl (cI, 40, .inl (fun _ => 0)))] H := hP
  have hD : va_D A [(h0, .inr (2, [.int 0, .int 0, .ref q1, .ref q2, .ref q3, .ref q4, .null, .null])), (q1, .inl (cI, 40, .inl (fun _ => 0))), (q2, .inl (cI, 40, .inl (fun _ => 0))), (q3, .inl (cJ, 40, .inr (.inl (fun _ => 0)))), (q4, .inl (cI, 40, .inl (fun _ => 0)))] := hD
  refine lv_aload_n hx hb dX2_init_36 rfl (lv_at hl 0 rfl) ?_
  refine lv_bipush (v := (40 : Int32)) hx hb dX2_init_37 (by decide) ?_
  refine va_newa (atype := .boolean) (ty := .boolean) (N' := 40) (a0 := (40, .inl (fun _ => 0))) hx hb lk10 rfl hK hP hD hS hA (fun _ => rfl) (by decide +kernel) (by decide +kernel) (by have := wg_cbboolean; omega) (by show 4 + 1 ≤ 6; omega) (by show 160 + 40 ≤ 240; omega) dX2_init_39 (fun q5 cN H hKN hP hD hS => ?_)
  obtain rfl : cZ = cN := (wg_clsZ hKN 3 2 rfl rfl).symm
  have hP : va_P (dC, dI) vwCl [(h0, .inr (2, [.int 0, .int 0, .ref q1, .ref q2, .ref q3, .ref q4, .null, .null])), (q1, .inl (cI, 40, .inl (fun _ => 0))), (q2, .inl (cI, 40, .inl (fun _ => 0))), (q3, .inl (cJ, 40, .inr (.inl (fun _ => 0)))), (q4, .inl (cI, 40, .inl (fun _ => 0))), (q5, .inl (cZ, 40, .inl (fun _ => 0)))] H := hP
  have hD : va_D A [(h0, .inr (2, [.int 0, .int 0, .ref q1, .ref q2, .ref q3, .ref q4, .null, .null])), (q1, .inl (cI, 40, .inl (fun _ => 0))), (q2, .inl (cI, 40, .inl (fun _ => 0))), (q3, .inl (cJ, 40, .inr (.inl (fun _ => 0)))), (q4, .inl (cI, 40, .inl (fun _ => 0))), (q5, .inl (cZ, 40, .inl (fun _ => 0)))] := hD
  refine W.widen (k := 5) (n := 200) (by omega) (by omega) ?_
  refine va_putF (D := (dC, dI)) (ci := 2) (v := .ref q5) (ty := .array .boolean) (C := RX2) (T := TX2) (N := 8) hx hb hts inX2_init_X2 tyX2 tyX2_ok nmX2 hown hK hP hD hS 0 rfl rfl 6 (by decide) lk11 (fun _ h9 => h9) rfl hin rfl (by decide +kernel) rfl rfl (Nat.le_of_ble_eq_true rfl) dX2_init_41 (fun H locs hP hD hS => ?_)
  have hP : va_P (dC, dI) vwCl [(h0, .inr (2, [.int 0, .int 0, .ref q1, .ref q2, .ref q3, .ref q4, .ref q5, .null])), (q1, .inl (cI, 40, .inl (fun _ => 0))), (q2, .inl (cI, 40, .inl (fun _ => 0))), (q3, .inl (cJ, 40, .inr (.inl (fun _ => 0)))), (q4, .inl (cI, 40, .inl (fun _ => 0))), (q5, .inl (cZ, 40, .inl (fun _ => 0)))] H := hP
  have hD : va_D A [(h0, .inr (2, [.int 0, .int 0, .ref q1, .ref q2, .ref q3, .ref q4, .ref q5, .null])), (q1, .inl (cI, 40, .inl (fun _ => 0))), (q2, .inl (cI, 40, .inl (fun _ => 0))), (q3, .inl (cJ, 40, .inr (.inl (fun _ => 0)))), (q4, .inl (cI, 40, .inl (fun _ => 0))), (q5, .inl (cZ, 40, .inl (fun _ => 0)))] := hD
  refine lv_aload_n hx hb dX2_init_44 rfl (lv_at hl 0 rfl) ?_
  refine lv_bipush (v := (40 : Int32)) hx hb dX2_init_45 (by decide) ?_
  refine va_newa (atype := .int) (ty := .int) (N' := 40) (a0 := (40, .inl (fun _ => 0))) hx hb lk4 rfl hK hP hD hS hA (fun _ => rfl) (by decide +kernel) (by decide +kernel) (by have := wg_cbint; omega) (by show 5 + 1 ≤ 6; omega) (by show 200 + 40 ≤ 240; omega) dX2_init_47 (fun q6 cN H hKN hP hD hS => ?_)
  obtain rfl : cI = cN := (wg_cls hKN 3 0 rfl rfl).symm
  have hP : va_P (dC, dI) vwCl [(h0, .inr (2, [.int 0, .int 0, .ref q1, .ref q2, .ref q3, .ref q4, .ref q5, .null])), (q1, .inl (cI, 40, .inl (fun _ => 0))), (q2, .inl (cI, 40, .inl (fun _ => 0))), (q3, .inl (cJ, 40, .inr (.inl (fun _ => 0)))), (q4, .inl (cI, 40, .inl (fun _ => 0))), (q5, .inl (cZ, 40, .inl (fun _ => 0))), (q6, .inl (cI, 40, .inl (fun _ => 0)))] H := hP
  have hD : va_D A [(h0, .inr (2, [.int 0, .int 0, .ref q1, .ref q2, .ref q3, .ref q4, .ref q5, .null])), (q1, .inl (cI, 40, .inl (fun _ => 0))), (q2, .inl (cI, 40, .inl (fun _ => 0))), (q3, .inl (cJ, 40, .inr (.inl (fun _ => 0)))), (q4, .inl (cI, 40, .inl (fun _ => 0))), (q5, .inl (cZ, 40, .inl (fun _ => 0))), (q6, .inl (cI, 40, .inl (fun _ => 0)))] := hD
  refine W.widen (k := 6) (n := 240) (by omega) (by omega) ?_
  refine va_putF (D := (dC, dI)) (ci := 2) (v := .ref q6) (ty := .array .int) (C := RX2) (T := TX2) (N := 8) hx hb hts inX2_init_X2 tyX2 tyX2_ok nmX2 hown hK hP hD hS 0 rfl rfl 7 (by decide) lk12 (fun _ h9 => h9) rfl hin rfl (by decide +kernel) rfl rfl (Nat.le_of_ble_eq_true rfl) dX2_init_49 (fun H locs hP hD hS => ?_)
  have hP : va_P (dC, dI) vwCl [(h0, .inr (2, [.int 0, .int 0, .ref q1, .ref q2, .ref q3, .ref q4, .ref q5, .ref q6])), (q1, .inl (cI, 40, .inl (fun _ => 0))), (q2, .inl (cI, 40, .inl (fun _ => 0))), (q3, .inl (cJ, 40, .inr (.inl (fun _ => 0)))), (q4, .inl (cI, 40, .inl (fun _ => 0))), (q5, .inl (cZ, 40, .inl (fun _ => 0))), (q6, .inl (cI, 40, .inl (fun _ => 0)))] H := hP
  have hD : va_D A [(h0, .inr (2, [.int 0, .int 0, .ref q1, .ref q2, .ref q3, .ref q4, .ref q5, .ref q6])), (q1, .inl (cI, 40, .inl (fun _ => 0))), (q2, .inl (cI, 40, .inl (fun _ => 0))), (q3, .inl (cJ, 40, .inr (.inl (fun _ => 0)))), (q4, .inl (cI, 40, .inl (fun _ => 0))), (q5, .inl (cZ, 40, .inl (fun _ => 0))), (q6, .inl (cI, 40, .inl (fun _ => 0)))] := hD
  exact W.vret hx hb hr (fun t ht hW => ⟨⟨(), rfl, trivial, q1, q2, q3, q4, q5, q6, by rw [ht]; exact hP, va_K.moved hW.alike hK, hD⟩, hS.F ht⟩) hS.2.2 dX2_init_52

theorem inX5_init_X5 : ∀ w ∈ wsX50, w ∈ wsX5_init := fun _ h => List.mem_cons_of_mem _ (List.mem_append_right _ h)
set_option maxHeartbeats 4000000 in
set_option maxRecDepth 100000 in
theorem c_X5_init (l : Launch) (dC : Nat → ClassId) (dI : Nat → Nat → Nat) (cI cJ cZ : ClassId) (h0 : Nat) (sz : Nat) : Met l yX5_init wsX5_init ({ frames := 1, cells := 0, slots := 0, locals := 12 } : Room) (va_Pc [.ref h0] (fun U => U.heap.size = sz ∧ va_P (dC, dI) vwCl [(h0, .inr (5, [.int 0, .int 0, .int 0, .int 0]))] U.heap ∧ va_K (dC, dI) vwCl [(cI, .int), (cJ, .long), (cZ, .boolean)] U ∧ va_D (fun _ => True) [(h0, .inr (5, [.int 0, .int 0, .int 0, .int 0]))])) (va_Qv (fun _ : Unit => True) (fun _ t => va_P (dC, dI) vwCl [(h0, .inr (5, [.int (0 : Int32), .int (10000 : Int32), .int (800000 : Int32), .int (600 : Int32)]))] t.heap ∧ va_K (dC, dI) vwCl [(cI, .int), (cJ, .long), (cZ, .boolean)] t ∧ va_D (va_A [(h0, .inr (5, [.int 0, .int 0, .int 0, .int 0]))] sz) [(h0, .inr (5, [.int (0 : Int32), .int (10000 : Int32), .int (800000 : Int32), .int (600 : Int32)]))]) (va_A [(h0, .inr (5, [.int 0, .int 0, .int 0, .int 0]))] sz)) 0 0 (va_A [(h0, .inr (5, [.int 0, .int 0, .int 0, .int 0]))] sz) := by
  refine Met.ofW (cc := cX5_init) (maxL := 1) (ret := none) (by decide) rfl ?_
  intro p e s m args below meth c s₁ B hml hv
  obtain ⟨rfl, hsz, hP, hK, hD0⟩ := hv
  have hx := B.exec
  have hb := B.bytes
  have hr := B.returns
  have hts := atoms_spec (ws := wsX5_init) B.pre
  have hown : s.vm.findClass RX5 = some m.cls := findClass_of_methodNamed B.named
  have hlocks := B.notSynchronized
  have hin : meth.name = "<init>" := (name_of_methodNamed B.named B.method).1
  subst hsz
  have hD := hD0.self (sz := s.heap.size)
  generalize hAe : va_A [(h0, .inr (5, [.int 0, .int 0, .int 0, .int 0]))] s.heap.size = A at hD ⊢
  have hA : ∀ q : Nat, s.heap.size ≤ q → A q := fun q h => by rw [← hAe]; exact Or.inr h
  have hS : va_S A s.heap s.heap [] := va_S.rf
  have hP : va_P (dC, dI) vwCl [(h0, .inr (5, [.int 0, .int 0, .int 0, .int 0]))] s.heap := hP
  have lk1 := hts (.methodLink RX5 3 objectInit) (by decide +kernel)
  have lk2 := hts (.instanceMethod objectInit) (by decide +kernel)
  have lk3 := hts (.code objectInit ⟨#[0xb1]⟩ 1 none) (by decide +kernel)
  have lk4 := hts (.fieldLink RX5 9 "WireRow$Sweep" "wind" "I") (by decide +kernel)
  have lk5 := hts (.fieldLink RX5 15 "WireRow$Sweep" "pull" "I") (by decide +kernel)
  have lk6 := hts (.constant RX5 18 (800000)) (by decide +kernel)
  have lk7 := hts (.fieldLink RX5 19 "WireRow$Sweep" "room" "I") (by decide +kernel)
  have lk8 := hts (.fieldLink RX5 22 "WireRow$Sweep" "reach" "I") (by decide +kernel)
  have hl := lv_entry ([.ref h0]) (n := 1) (Nat.le_of_ble_eq_true rfl)
  rw [lg_entry_eq]
  generalize (lg_sl ([.ref h0]) ++ List.replicate (1 - (lg_sl ([.ref h0])).length) Slot.unset).toArray = ls at hl ⊢
  have hl : lv_has ls 1 [(0, .ref h0)] := hl
  obtain ⟨H, hHe⟩ : ∃ H, H = s.heap := ⟨_, rfl⟩
  rw [← hHe] at hP
  have hS : va_S A s.heap H [] := by rw [hHe]; exact hS
  rw [← hHe]
  refine lv_aload_n hx hb dX5_init_0 rfl (lv_at hl 0 rfl) ?_
  refine W.objInit hx hb hown lk1 lk2 lk3 rfl (by rw [hml]; exact hl.1) rfl dX5_init_1 (Nat.le_of_ble_eq_true rfl) (Nat.le_of_ble_eq_true rfl) ?_
  refine W.eq (g2 := F0 m 4 ls []) rfl ?_
  refine lv_aload_n hx hb dX5_init_4 rfl (lv_at hl 0 rfl) ?_
  refine lv_iconst (v := (0 : Int32)) hx hb dX5_init_5 (by decide) ?_
  refine va_put (D := (dC, dI)) (ci := 5) (v := .int (0 : Int32)) (ty := .int) (C := RX5) (T := TX5) (N := 4) hx hb hts inX5_init_X5 tyX5 tyX5_ok nmX5 hown hK hP hD hS 0 rfl rfl 0 (by decide) lk4 (fun _ h9 => h9) rfl (by decide +kernel) rfl rfl (Nat.le_of_ble_eq_true rfl) dX5_init_6 (fun H locs hP hD hS => ?_)
  have hP : va_P (dC, dI) vwCl [(h0, .inr (5, [.int (0 : Int32), .int 0, .int 0, .int 0]))] H := hP
  have hD : va_D A [(h0, .inr (5, [.int (0 : Int32), .int 0, .int 0, .int 0]))] := hD
  refine lv_aload_n hx hb dX5_init_9 rfl (lv_at hl 0 rfl) ?_
  refine lv_sipush (v := (10000 : Int32)) hx hb dX5_init_10 (by decide) ?_
  refine va_put (D := (dC, dI)) (ci := 5) (v := .int (10000 : Int32)) (ty := .int) (C := RX5) (T := TX5) (N := 4) hx hb hts inX5_init_X5 tyX5 tyX5_ok nmX5 hown hK hP hD hS 0 rfl rfl 1 (by decide) lk5 (fun _ h9 => h9) rfl (by decide +kernel) rfl rfl (Nat.le_of_ble_eq_true rfl) dX5_init_13 (fun H locs hP hD hS => ?_)
  have hP : va_P (dC, dI) vwCl [(h0, .inr (5, [.int (0 : Int32), .int (10000 : Int32), .int 0, .int 0]))] H := hP
  have hD : va_D A [(h0, .inr (5, [.int (0 : Int32), .int (10000 : Int32), .int 0, .int 0]))] := hD
  refine lv_aload_n hx hb dX5_init_16 rfl (lv_at hl 0 rfl) ?_
  refine lv_ldc (v := (800000 : Int32)) hx hb hown lk6 dX5_init_17 ?_
  refine va_put (D := (dC, dI)) (ci := 5) (v := .int (800000 : Int32)) (ty := .int) (C := RX5) (T := TX5) (N := 4) hx hb hts inX5_init_X5 tyX5 tyX5_ok nmX5 hown hK hP hD hS 0 rfl rfl 2 (by decide) lk7 (fun _ h9 => h9) rfl (by decide +kernel) rfl rfl (Nat.le_of_ble_eq_true rfl) dX5_init_19 (fun H locs hP hD hS => ?_)
  have hP : va_P (dC, dI) vwCl [(h0, .inr (5, [.int (0 : Int32), .int (10000 : Int32), .int (800000 : Int32), .int 0]))] H := hP
  have hD : va_D A [(h0, .inr (5, [.int (0 : Int32), .int (10000 : Int32), .int (800000 : Int32), .int 0]))] := hD
  refine lv_aload_n hx hb dX5_init_22 rfl (lv_at hl 0 rfl) ?_
  refine lv_sipush (v := (600 : Int32)) hx hb dX5_init_23 (by decide) ?_
  refine va_put (D := (dC, dI)) (ci := 5) (v := .int (600 : Int32)) (ty := .int) (C := RX5) (T := TX5) (N := 4) hx hb hts inX5_init_X5 tyX5 tyX5_ok nmX5 hown hK hP hD hS 0 rfl rfl 3 (by decide) lk8 (fun _ h9 => h9) rfl (by decide +kernel) rfl rfl (Nat.le_of_ble_eq_true rfl) dX5_init_26 (fun H locs hP hD hS => ?_)
  have hP : va_P (dC, dI) vwCl [(h0, .inr (5, [.int (0 : Int32), .int (10000 : Int32), .int (800000 : Int32), .int (600 : Int32)]))] H := hP
  have hD : va_D A [(h0, .inr (5, [.int (0 : Int32), .int (10000 : Int32), .int (800000 : Int32), .int (600 : Int32)]))] := hD
  exact W.vret hx hb hr (fun t ht hW => ⟨⟨(), rfl, trivial, by rw [ht]; exact hP, va_K.moved hW.alike hK, hD⟩, hS.F ht⟩) hS.2.2 dX5_init_29

theorem inX4_init_X4 : ∀ w ∈ wsX40, w ∈ wsX4_init := fun _ h => List.mem_cons_of_mem _ (List.mem_append_right _ h)
set_option maxHeartbeats 4000000 in
set_option maxRecDepth 100000 in
theorem c_X4_init (l : Launch) (dC : Nat → ClassId) (dI : Nat → Nat → Nat) (cI cJ cZ : ClassId) (h0 r1 r2 r3 : Nat) (sz : Nat) : Met l yX4_init wsX4_init ({ frames := 1, cells := 0, slots := 0, locals := 12 } : Room) (va_Pc [.ref h0, .ref r1, .ref r2, .ref r3] (fun U => U.heap.size = sz ∧ va_P (dC, dI) vwCl [(h0, .inr (4, [.null, .null, .null, .int 0, .int 0, .long 0, .long 0]))] U.heap ∧ va_K (dC, dI) vwCl [(cI, .int), (cJ, .long), (cZ, .boolean)] U ∧ va_D (fun _ => True) [(h0, .inr (4, [.null, .null, .null, .int 0, .int 0, .long 0, .long 0]))])) (va_Qv (fun _ : Unit => True) (fun _ t => va_P (dC, dI) vwCl [(h0, .inr (4, [.ref r1, .ref r2, .ref r3, .int 0, .int 0, .long 0, .long 0]))] t.heap ∧ va_K (dC, dI) vwCl [(cI, .int), (cJ, .long), (cZ, .boolean)] t ∧ va_D (va_A [(h0, .inr (4, [.null, .null, .null, .int 0, .int 0, .long 0, .long 0]))] sz) [(h0, .inr (4, [.ref r1, .ref r2, .ref r3, .int 0, .int 0, .long 0, .long 0]))]) (va_A [(h0, .inr (4, [.null, .null, .null, .int 0, .int 0, .long 0, .long 0]))] sz)) 0 0 (va_A [(h0, .inr (4, [.null, .null, .null, .int 0, .int 0, .long 0, .long 0]))] sz) := by
  refine Met.ofW (cc := cX4_init) (maxL := 4) (ret := none) (by decide) rfl ?_
  intro p e s m args below meth c s₁ B hml hv
  obtain ⟨rfl, hsz, hP, hK, hD0⟩ := hv
  have hx := B.exec
  have hb := B.bytes
  have hr := B.returns
  have hts := atoms_spec (ws := wsX4_init) B.pre
  have hown : s.vm.findClass RX4 = some m.cls := findClass_of_methodNamed B.named
  have hlocks := B.notSynchronized
  have hin : meth.name = "<init>" := (name_of_methodNamed B.named B.method).1
  subst hsz
  have hD := hD0.self (sz := s.heap.size)
  generalize hAe : va_A [(h0, .inr (4, [.null, .null, .null, .int 0, .int 0, .long 0, .long 0]))] s.heap.size = A at hD ⊢
  have hA : ∀ q : Nat, s.heap.size ≤ q → A q := fun q h => by rw [← hAe]; exact Or.inr h
  have hS : va_S A s.heap s.heap [] := va_S.rf
  have hP : va_P (dC, dI) vwCl [(h0, .inr (4, [.null, .null, .null, .int 0, .int 0, .long 0, .long 0]))] s.heap := hP
  have lk1 := hts (.methodLink RX4 3 objectInit) (by decide +kernel)
  have lk2 := hts (.instanceMethod objectInit) (by decide +kernel)
  have lk3 := hts (.code objectInit ⟨#[0xb1]⟩ 1 none) (by decide +kernel)
  have lk4 := hts (.fieldLink RX4 9 "WireRow$Span" "track" "LWireRow$Track;") (by decide +kernel)
  have lk5 := hts (.fieldLink RX4 15 "WireRow$Span" "pegs" "LWireRow$PegRow;") (by decide +kernel)
  have lk6 := hts (.fieldLink RX4 19 "WireRow$Span" "sweep" "LWireRow$Sweep;") (by decide +kernel)
  have hl := lv_entry ([.ref h0, .ref r1, .ref r2, .ref r3]) (n := 4) (Nat.le_of_ble_eq_true rfl)
  rw [lg_entry_eq]
  generalize (lg_sl ([.ref h0, .ref r1, .ref r2, .ref r3]) ++ List.replicate (4 - (lg_sl ([.ref h0, .ref r1, .ref r2, .ref r3])).length) Slot.unset).toArray = ls at hl ⊢
  have hl : lv_has ls 4 [(0, .ref h0), (1, .ref r1), (2, .ref r2), (3, .ref r3)] := hl
  obtain ⟨H, hHe⟩ : ∃ H, H = s.heap := ⟨_, rfl⟩
  rw [← hHe] at hP
  have hS : va_S A s.heap H [] := by rw [hHe]; exact hS
  rw [← hHe]
  refine lv_aload_n hx hb dX4_init_0 rfl (lv_at hl 0 rfl) ?_
  refine W.objInit hx hb hown lk1 lk2 lk3 rfl (by rw [hml]; exact hl.1) rfl dX4_init_1 (Nat.le_of_ble_eq_true rfl) (Nat.le_of_ble_eq_true rfl) ?_
  refine W.eq (g2 := F0 m 4 ls []) rfl ?_
  refine lv_aload_n hx hb dX4_init_4 rfl (lv_at hl 0 rfl) ?_
  refine lv_aload_n hx hb dX4_init_5 rfl (lv_at hl 1 rfl) ?_
  refine va_putF (D := (dC, dI)) (ci := 4) (v := .ref r1) (ty := .object "WireRow$Track") (C := RX4) (T := TX4) (N := 7) hx hb hts inX4_init_X4 tyX4 tyX4_ok nmX4 hown hK hP hD hS 0 rfl rfl 0 (by decide) lk4 (fun _ h9 => h9) rfl hin rfl (by decide +kernel) rfl rfl (Nat.le_of_ble_eq_true rfl) dX4_init_6 (fun H locs hP hD hS => ?_)
  have hP : va_P (dC, dI) vwCl [(h0, .inr (4, [.ref r1, .null, .null, .int 0, .int 0, .long 0, .long 0]))] H := hP
  have hD : va_D A [(h0, .inr (4, [.ref r1, .null, .null, .int 0, .int 0, .long 0, .long 0]))] := hD
  refine lv_aload_n hx hb dX4_init_9 rfl (lv_at hl 0 rfl) ?_
  refine lv_aload_n hx hb dX4_init_10 rfl (lv_at hl 2 rfl) ?_
  refine va_putF (D := (dC, dI)) (ci := 4) (v := .ref r2) (ty := .object "WireRow$PegRow") (C := RX4) (T := TX4) (N := 7) hx hb hts inX4_init_X4 tyX4 tyX4_ok nmX4 hown hK hP hD hS 0 rfl rfl 1 (by decide) lk5 (fun _ h9 => h9) rfl hin rfl (by decide +kernel) rfl rfl (Nat.le_of_ble_eq_true rfl) dX4_init_11 (fun H locs hP hD hS => ?_)
  have hP : va_P (dC, dI) vwCl [(h0, .inr (4, [.ref r1, .ref r2, .null, .int 0, .int 0, .long 0, .long 0]))] H := hP
  have hD : va_D A [(h0, .inr (4, [.ref r1, .ref r2, .null, .int 0, .int 0, .long 0, .long 0]))] := hD
  refine lv_aload_n hx hb dX4_init_14 rfl (lv_at hl 0 rfl) ?_
  refine lv_aload_n hx hb dX4_init_15 rfl (lv_at hl 3 rfl) ?_
  refine va_putF (D := (dC, dI)) (ci := 4) (v := .ref r3) (ty := .object "WireRow$Sweep") (C := RX4) (T := TX4) (N := 7) hx hb hts inX4_init_X4 tyX4 tyX4_ok nmX4 hown hK hP hD hS 0 rfl rfl 2 (by decide) lk6 (fun _ h9 => h9) rfl hin rfl (by decide +kernel) rfl rfl (Nat.le_of_ble_eq_true rfl) dX4_init_16 (fun H locs hP hD hS => ?_)
  have hP : va_P (dC, dI) vwCl [(h0, .inr (4, [.ref r1, .ref r2, .ref r3, .int 0, .int 0, .long 0, .long 0]))] H := hP
  have hD : va_D A [(h0, .inr (4, [.ref r1, .ref r2, .ref r3, .int 0, .int 0, .long 0, .long 0]))] := hD
  exact W.vret hx hb hr (fun t ht hW => ⟨⟨(), rfl, trivial, by rw [ht]; exact hP, va_K.moved hW.alike hK, hD⟩, hS.F ht⟩) hS.2.2 dX4_init_19

theorem inX0_init_X0 : ∀ w ∈ wsX00, w ∈ wsX0_init := fun _ h => List.mem_cons_of_mem _ (List.mem_append_right _ h)
set_option maxHeartbeats 4000000 in
set_option maxRecDepth 100000 in
theorem c_X0_init (l : Launch) (dC : Nat → ClassId) (dI : Nat → Nat → Nat) (cI cJ cZ : ClassId) (h0 : Nat) (sz : Nat) : Met l yX0_init wsX0_init ({ frames := 1, cells := 0, slots := 0, locals := 12 } : Room) (va_Pc [.ref h0] (fun U => U.heap.size = sz ∧ va_P (dC, dI) vwCl [(h0, .inr (0, [.int 0, .int 0, .int 0, .int 0, .int 0]))] U.heap ∧ va_K (dC, dI) vwCl [(cI, .int), (cJ, .long), (cZ, .boolean)] U ∧ va_D (fun _ => True) [(h0, .inr (0, [.int 0, .int 0, .int 0, .int 0, .int 0]))])) (va_Qv (fun _ : Unit => True) (fun _ t => va_P (dC, dI) vwCl [(h0, .inr (0, [.int (10000 : Int32), .int (10 : Int32), .int (4 : Int32), .int (100 : Int32), .int (1400 : Int32)]))] t.heap ∧ va_K (dC, dI) vwCl [(cI, .int), (cJ, .long), (cZ, .boolean)] t ∧ va_D (va_A [(h0, .inr (0, [.int 0, .int 0, .int 0, .int 0, .int 0]))] sz) [(h0, .inr (0, [.int (10000 : Int32), .int (10 : Int32), .int (4 : Int32), .int (100 : Int32), .int (1400 : Int32)]))]) (va_A [(h0, .inr (0, [.int 0, .int 0, .int 0, .int 0, .int 0]))] sz)) 0 0 (va_A [(h0, .inr (0, [.int 0, .int 0, .int 0, .int 0, .int 0]))] sz) := by
  refine Met.ofW (cc := cX0_init) (maxL := 1) (ret := none) (by decide) rfl ?_
  intro p e s m args below meth c s₁ B hml hv
  obtain ⟨rfl, hsz, hP, hK, hD0⟩ := hv
  have hx := B.exec
  have hb := B.bytes
  have hr := B.returns
  have hts := atoms_spec (ws := wsX0_init) B.pre
  have hown : s.vm.findClass RX0 = some m.cls := findClass_of_methodNamed B.named
  have hlocks := B.notSynchronized
  have hin : meth.name = "<init>" := (name_of_methodNamed B.named B.method).1
  subst hsz
  have hD := hD0.self (sz := s.heap.size)
  generalize hAe : va_A [(h0, .inr (0, [.int 0, .int 0, .int 0, .int 0, .int 0]))] s.heap.size = A at hD ⊢
  have hA : ∀ q : Nat, s.heap.size ≤ q → A q := fun q h => by rw [← hAe]; exact Or.inr h
  have hS : va_S A s.heap s.heap [] := va_S.rf
  have hP : va_P (dC, dI) vwCl [(h0, .inr (0, [.int 0, .int 0, .int 0, .int 0, .int 0]))] s.heap := hP
  have lk1 := hts (.methodLink RX0 1 objectInit) (by decide +kernel)
  have lk2 := hts (.instanceMethod objectInit) (by decide +kernel)
  have lk3 := hts (.code objectInit ⟨#[0xb1]⟩ 1 none) (by decide +kernel)
  have lk4 := hts (.fieldLink RX0 7 "WireRow$Carrier" "tension" "I") (by decide +kernel)
  have lk5 := hts (.fieldLink RX0 13 "WireRow$Carrier" "own" "I") (by decide +kernel)
  have lk6 := hts (.fieldLink RX0 16 "WireRow$Carrier" "droppers" "I") (by decide +kernel)
  have lk7 := hts (.fieldLink RX0 19 "WireRow$Carrier" "load" "I") (by decide +kernel)
  have lk8 := hts (.fieldLink RX0 22 "WireRow$Carrier" "hang" "I") (by decide +kernel)
  have hl := lv_entry ([.ref h0]) (n := 1) (Nat.le_of_ble_eq_true rfl)
  rw [lg_entry_eq]
  generalize (lg_sl ([.ref h0]) ++ List.replicate (1 - (lg_sl ([.ref h0])).length) Slot.unset).toArray = ls at hl ⊢
  have hl : lv_has ls 1 [(0, .ref h0)] := hl
  obtain ⟨H, hHe⟩ : ∃ H, H = s.heap := ⟨_, rfl⟩
  rw [← hHe] at hP
  have hS : va_S A s.heap H [] := by rw [hHe]; exact hS
  rw [← hHe]
  refine lv_aload_n hx hb dX0_init_0 rfl (lv_at hl 0 rfl) ?_
  refine W.objInit hx hb hown lk1 lk2 lk3 rfl (by rw [hml]; exact hl.1) rfl dX0_init_1 (Nat.le_of_ble_eq_true rfl) (Nat.le_of_ble_eq_true rfl) ?_
  refine W.eq (g2 := F0 m 4 ls []) rfl ?_
  refine lv_aload_n hx hb dX0_init_4 rfl (lv_at hl 0 rfl) ?_
  refine lv_sipush (v := (10000 : Int32)) hx hb dX0_init_5 (by decide) ?_
  refine va_put (D := (dC, dI)) (ci := 0) (v := .int (10000 : Int32)) (ty := .int) (C := RX0) (T := TX0) (N := 5) hx hb hts inX0_init_X0 tyX0 tyX0_ok nmX0 hown hK hP hD hS 0 rfl rfl 0 (by decide) lk4 (fun _ h9 => h9) rfl (by decide +kernel) rfl rfl (Nat.le_of_ble_eq_true rfl) dX0_init_8 (fun H locs hP hD hS => ?_)
  have hP : va_P (dC, dI) vwCl [(h0, .inr (0, [.int (10000 : Int32), .int 0, .int 0, .int 0, .int 0]))] H := hP
  have hD : va_D A [(h0, .inr (0, [.int (10000 : Int32), .int 0, .int 0, .int 0, .int 0]))] := hD
  refine lv_aload_n hx hb dX0_init_11 rfl (lv_at hl 0 rfl) ?_
  refine lv_bipush (v := (10 : Int32)) hx hb dX0_init_12 (by decide) ?_
  refine va_put (D := (dC, dI)) (ci := 0) (v := .int (10 : Int32)) (ty := .int) (C := RX0) (T := TX0) (N := 5) hx hb hts inX0_init_X0 tyX0 tyX0_ok nmX0 hown hK hP hD hS 0 rfl rfl 1 (by decide) lk5 (fun _ h9 => h9) rfl (by decide +kernel) rfl rfl (Nat.le_of_ble_eq_true rfl) dX0_init_14 (fun H locs hP hD hS => ?_)
  have hP : va_P (dC, dI) vwCl [(h0, .inr (0, [.int (10000 : Int32), .int (10 : Int32), .int 0, .int 0, .int 0]))] H := hP
  have hD : va_D A [(h0, .inr (0, [.int (10000 : Int32), .int (10 : Int32), .int 0, .int 0, .int 0]))] := hD
  refine lv_aload_n hx hb dX0_init_17 rfl (lv_at hl 0 rfl) ?_
  refine lv_iconst (v := (4 : Int32)) hx hb dX0_init_18 (by decide) ?_
  refine va_put (D := (dC, dI)) (ci := 0) (v := .int (4 : Int32)) (ty := .int) (C := RX0) (T := TX0) (N := 5) hx hb hts inX0_init_X0 tyX0 tyX0_ok nmX0 hown hK hP hD hS 0 rfl rfl 2 (by decide) lk6 (fun _ h9 => h9) rfl (by decide +kernel) rfl rfl (Nat.le_of_ble_eq_true rfl) dX0_init_19 (fun H locs hP hD hS => ?_)
  have hP : va_P (dC, dI) vwCl [(h0, .inr (0, [.int (10000 : Int32), .int (10 : Int32), .int (4 : Int32), .int 0, .int 0]))] H := hP
  have hD : va_D A [(h0, .inr (0, [.int (10000 : Int32), .int (10 : Int32), .int (4 : Int32), .int 0, .int 0]))] := hD
  refine lv_aload_n hx hb dX0_init_22 rfl (lv_at hl 0 rfl) ?_
  refine lv_bipush (v := (100 : Int32)) hx hb dX0_init_23 (by decide) ?_
  refine va_put (D := (dC, dI)) (ci := 0) (v := .int (100 : Int32)) (ty := .int) (C := RX0) (T := TX0) (N := 5) hx hb hts inX0_init_X0 tyX0 tyX0_ok nmX0 hown hK hP hD hS 0 rfl rfl 3 (by decide) lk7 (fun _ h9 => h9) rfl (by decide +kernel) rfl rfl (Nat.le_of_ble_eq_true rfl) dX0_init_25 (fun H locs hP hD hS => ?_)
  have hP : va_P (dC, dI) vwCl [(h0, .inr (0, [.int (10000 : Int32), .int (10 : Int32), .int (4 : Int32), .int (100 : Int32), .int 0]))] H := hP
  have hD : va_D A [(h0, .inr (0, [.int (10000 : Int32), .int (10 : Int32), .int (4 : Int32), .int (100 : Int32), .int 0]))] := hD
  refine lv_aload_n hx hb dX0_init_28 rfl (lv_at hl 0 rfl) ?_
  refine lv_sipush (v := (1400 : Int32)) hx hb dX0_init_29 (by decide) ?_
  refine va_put (D := (dC, dI)) (ci := 0) (v := .int (1400 : Int32)) (ty := .int) (C := RX0) (T := TX0) (N := 5) hx hb hts inX0_init_X0 tyX0 tyX0_ok nmX0 hown hK hP hD hS 0 rfl rfl 4 (by decide) lk8 (fun _ h9 => h9) rfl (by decide +kernel) rfl rfl (Nat.le_of_ble_eq_true rfl) dX0_init_32 (fun H locs hP hD hS => ?_)
  have hP : va_P (dC, dI) vwCl [(h0, .inr (0, [.int (10000 : Int32), .int (10 : Int32), .int (4 : Int32), .int (100 : Int32), .int (1400 : Int32)]))] H := hP
  have hD : va_D A [(h0, .inr (0, [.int (10000 : Int32), .int (10 : Int32), .int (4 : Int32), .int (100 : Int32), .int (1400 : Int32)]))] := hD
  exact W.vret hx hb hr (fun t ht hW => ⟨⟨(), rfl, trivial, by rw [ht]; exact hP, va_K.moved hW.alike hK, hD⟩, hS.F ht⟩) hS.2.2 dX0_init_35

theorem inX1_init_X1 : ∀ w ∈ wsX10, w ∈ wsX1_init := fun _ h => List.mem_cons_of_mem _ (List.mem_append_right _ h)
set_option maxHeartbeats 4000000 in
set_option maxRecDepth 100000 in
theorem c_X1_init (l : Launch) (dC : Nat → ClassId) (dI : Nat → Nat → Nat) (cI cJ cZ : ClassId) (h0 r1 r2 : Nat) (sz : Nat) : Met l yX1_init wsX1_init ({ frames := 1, cells := 2, slots := 240, locals := 12 } : Room) (va_Pc [.ref h0, .ref r1, .ref r2] (fun U => U.heap.size = sz ∧ va_P (dC, dI) vwCl [(h0, .inr (1, [.null, .null, .null, .null, .int 0, .int 0]))] U.heap ∧ va_K (dC, dI) vwCl [(cI, .int), (cJ, .long), (cZ, .boolean)] U ∧ va_D (fun _ => True) [(h0, .inr (1, [.null, .null, .null, .null, .int 0, .int 0]))])) (va_Qv (fun _ : Unit => True) (fun _ t => ∃ q1 q2 : Nat, va_P (dC, dI) vwCl [(h0, .inr (1, [.ref r1, .ref r2, .ref q1, .ref q2, .int 0, .int 0])), (q1, .inl (cI, 120, .inl (fun _ => 0))), (q2, .inl (cI, 120, .inl (fun _ => 0)))] t.heap ∧ va_K (dC, dI) vwCl [(cI, .int), (cJ, .long), (cZ, .boolean)] t ∧ va_D (va_A [(h0, .inr (1, [.null, .null, .null, .null, .int 0, .int 0]))] sz) [(h0, .inr (1, [.ref r1, .ref r2, .ref q1, .ref q2, .int 0, .int 0])), (q1, .inl (cI, 120, .inl (fun _ => 0))), (q2, .inl (cI, 120, .inl (fun _ => 0)))]) (va_A [(h0, .inr (1, [.null, .null, .null, .null, .int 0, .int 0]))] sz)) 2 240 (va_A [(h0, .inr (1, [.null, .null, .null, .null, .int 0, .int 0]))] sz) := by
  refine Met.ofW (cc := cX1_init) (maxL := 3) (ret := none) (by decide) rfl ?_
  intro p e s m args below meth c s₁ B hml hv
  obtain ⟨rfl, hsz, hP, hK, hD0⟩ := hv
  have hx := B.exec
  have hb := B.bytes
  have hr := B.returns
  have hts := atoms_spec (ws := wsX1_init) B.pre
  have hown : s.vm.findClass RX1 = some m.cls := findClass_of_methodNamed B.named
  have hlocks := B.notSynchronized
  have hin : meth.name = "<init>" := (name_of_methodNamed B.named B.method).1
  subst hsz
  have hD := hD0.self (sz := s.heap.size)
  generalize hAe : va_A [(h0, .inr (1, [.null, .null, .null, .null, .int 0, .int 0]))] s.heap.size = A at hD ⊢
  have hA : ∀ q : Nat, s.heap.size ≤ q → A q := fun q h => by rw [← hAe]; exact Or.inr h
  have hS : va_S A s.heap s.heap [] := va_S.rf
  have hP : va_P (dC, dI) vwCl [(h0, .inr (1, [.null, .null, .null, .null, .int 0, .int 0]))] s.heap := hP
  have lk1 := hts (.methodLink RX1 5 objectInit) (by decide +kernel)
  have lk2 := hts (.instanceMethod objectInit) (by decide +kernel)
  have lk3 := hts (.code objectInit ⟨#[0xb1]⟩ 1 none) (by decide +kernel)
  have lk4 := hts (.arrayClass .int) (by decide +kernel)
  have lk5 := hts (.fieldLink RX1 13 "WireRow$Chooser" "cost" "[I") (by decide +kernel)
  have lk6 := hts (.fieldLink RX1 17 "WireRow$Chooser" "next" "[I") (by decide +kernel)
  have lk7 := hts (.fieldLink RX1 20 "WireRow$Chooser" "pegs" "LWireRow$PegRow;") (by decide +kernel)
  have lk8 := hts (.fieldLink RX1 24 "WireRow$Chooser" "span" "LWireRow$Span;") (by decide +kernel)
  have hl := lv_entry ([.ref h0, .ref r1, .ref r2]) (n := 3) (Nat.le_of_ble_eq_true rfl)
  rw [lg_entry_eq]
  generalize (lg_sl ([.ref h0, .ref r1, .ref r2]) ++ List.replicate (3 - (lg_sl ([.ref h0, .ref r1, .ref r2])).length) Slot.unset).toArray = ls at hl ⊢
  have hl : lv_has ls 3 [(0, .ref h0), (1, .ref r1), (2, .ref r2)] := hl
  obtain ⟨H, hHe⟩ : ∃ H, H = s.heap := ⟨_, rfl⟩
  rw [← hHe] at hP
  have hS : va_S A s.heap H [] := by rw [hHe]; exact hS
  rw [← hHe]
  refine lv_aload_n hx hb dX1_init_0 rfl (lv_at hl 0 rfl) ?_
  refine W.objInit hx hb hown lk1 lk2 lk3 rfl (by rw [hml]; exact hl.1) rfl dX1_init_1 (Nat.le_of_ble_eq_true rfl) (Nat.le_of_ble_eq_true rfl) ?_
  refine W.eq (g2 := F0 m 4 ls []) rfl ?_
  refine lv_aload_n hx hb dX1_init_4 rfl (lv_at hl 0 rfl) ?_
  refine lv_bipush (v := (120 : Int32)) hx hb dX1_init_5 (by decide) ?_
  refine va_newa (atype := .int) (ty := .int) (N' := 120) (a0 := (120, .inl (fun _ => 0))) hx hb lk4 rfl hK hP hD hS hA (fun _ => rfl) (by decide +kernel) (by decide +kernel) (by have := wg_cbint; omega) (by show 0 + 1 ≤ 2; omega) (by show 0 + 120 ≤ 240; omega) dX1_init_7 (fun q1 cN H hKN hP hD hS => ?_)
  obtain rfl : cI = cN := (wg_cls hKN 3 0 rfl rfl).symm
  have hP : va_P (dC, dI) vwCl [(h0, .inr (1, [.null, .null, .null, .null, .int 0, .int 0])), (q1, .inl (cI, 120, .inl (fun _ => 0)))] H := hP
  have hD : va_D A [(h0, .inr (1, [.null, .null, .null, .null, .int 0, .int 0])), (q1, .inl (cI, 120, .inl (fun _ => 0)))] := hD
  refine W.widen (k := 1) (n := 120) (by omega) (by omega) ?_
  refine va_putF (D := (dC, dI)) (ci := 1) (v := .ref q1) (ty := .array .int) (C := RX1) (T := TX1) (N := 6) hx hb hts inX1_init_X1 tyX1 tyX1_ok nmX1 hown hK hP hD hS 0 rfl rfl 2 (by decide) lk5 (fun _ h9 => h9) rfl hin rfl (by decide +kernel) rfl rfl (Nat.le_of_ble_eq_true rfl) dX1_init_9 (fun H locs hP hD hS => ?_)
  have hP : va_P (dC, dI) vwCl [(h0, .inr (1, [.null, .null, .ref q1, .null, .int 0, .int 0])), (q1, .inl (cI, 120, .inl (fun _ => 0)))] H := hP
  have hD : va_D A [(h0, .inr (1, [.null, .null, .ref q1, .null, .int 0, .int 0])), (q1, .inl (cI, 120, .inl (fun _ => 0)))] := hD
  refine lv_aload_n hx hb dX1_init_12 rfl (lv_at hl 0 rfl) ?_
  refine lv_bipush (v := (120 : Int32)) hx hb dX1_init_13 (by decide) ?_
  refine va_newa (atype := .int) (ty := .int) (N' := 120) (a0 := (120, .inl (fun _ => 0))) hx hb lk4 rfl hK hP hD hS hA (fun _ => rfl) (by decide +kernel) (by decide +kernel) (by have := wg_cbint; omega) (by show 1 + 1 ≤ 2; omega) (by show 120 + 120 ≤ 240; omega) dX1_init_15 (fun q2 cN H hKN hP hD hS => ?_)
  obtain rfl : cI = cN := (wg_cls hKN 3 0 rfl rfl).symm
  have hP : va_P (dC, dI) vwCl [(h0, .inr (1, [.null, .null, .ref q1, .null, .int 0, .int 0])), (q1, .inl (cI, 120, .inl (fun _ => 0))), (q2, .inl (cI, 120, .inl (fun _ => 0)))] H := hP
  have hD : va_D A [(h0, .inr (1, [.null, .null, .ref q1, .null, .int 0, .int 0])), (q1, .inl (cI, 120, .inl (fun _ => 0))), (q2, .inl (cI, 120, .inl (fun _ => 0)))] := hD
  refine W.widen (k := 2) (n := 240) (by omega) (by omega) ?_
  refine va_putF (D := (dC, dI)) (ci := 1) (v := .ref q2) (ty := .array .int) (C := RX1) (T := TX1) (N := 6) hx hb hts inX1_init_X1 tyX1 tyX1_ok nmX1 hown hK hP hD hS 0 rfl rfl 3 (by decide) lk6 (fun _ h9 => h9) rfl hin rfl (by decide +kernel) rfl rfl (Nat.le_of_ble_eq_true rfl) dX1_init_17 (fun H locs hP hD hS => ?_)
  have hP : va_P (dC, dI) vwCl [(h0, .inr (1, [.null, .null, .ref q1, .ref q2, .int 0, .int 0])), (q1, .inl (cI, 120, .inl (fun _ => 0))), (q2, .inl (cI, 120, .inl (fun _ => 0)))] H := hP
  have hD : va_D A [(h0, .inr (1, [.null, .null, .ref q1, .ref q2, .int 0, .int 0])), (q1, .inl (cI, 120, .inl (fun _ => 0))), (q2, .inl (cI, 120, .inl (fun _ => 0)))] := hD
  refine lv_aload_n hx hb dX1_init_20 rfl (lv_at hl 0 rfl) ?_
  refine lv_aload_n hx hb dX1_init_21 rfl (lv_at hl 1 rfl) ?_
  refine va_putF (D := (dC, dI)) (ci := 1) (v := .ref r1) (ty := .object "WireRow$PegRow") (C := RX1) (T := TX1) (N := 6) hx hb hts inX1_init_X1 tyX1 tyX1_ok nmX1 hown hK hP hD hS 0 rfl rfl 0 (by decide) lk7 (fun _ h9 => h9) rfl hin rfl (by decide +kernel) rfl rfl (Nat.le_of_ble_eq_true rfl) dX1_init_22 (fun H locs hP hD hS => ?_)
  have hP : va_P (dC, dI) vwCl [(h0, .inr (1, [.ref r1, .null, .ref q1, .ref q2, .int 0, .int 0])), (q1, .inl (cI, 120, .inl (fun _ => 0))), (q2, .inl (cI, 120, .inl (fun _ => 0)))] H := hP
  have hD : va_D A [(h0, .inr (1, [.ref r1, .null, .ref q1, .ref q2, .int 0, .int 0])), (q1, .inl (cI, 120, .inl (fun _ => 0))), (q2, .inl (cI, 120, .inl (fun _ => 0)))] := hD
  refine lv_aload_n hx hb dX1_init_25 rfl (lv_at hl 0 rfl) ?_
  refine lv_aload_n hx hb dX1_init_26 rfl (lv_at hl 2 rfl) ?_
  refine va_putF (D := (dC, dI)) (ci := 1) (v := .ref r2) (ty := .object "WireRow$Span") (C := RX1) (T := TX1) (N := 6) hx hb hts inX1_init_X1 tyX1 tyX1_ok nmX1 hown hK hP hD hS 0 rfl rfl 1 (by decide) lk8 (fun _ h9 => h9) rfl hin rfl (by decide +kernel) rfl rfl (Nat.le_of_ble_eq_true rfl) dX1_init_27 (fun H locs hP hD hS => ?_)
  have hP : va_P (dC, dI) vwCl [(h0, .inr (1, [.ref r1, .ref r2, .ref q1, .ref q2, .int 0, .int 0])), (q1, .inl (cI, 120, .inl (fun _ => 0))), (q2, .inl (cI, 120, .inl (fun _ => 0)))] H := hP
  have hD : va_D A [(h0, .inr (1, [.ref r1, .ref r2, .ref q1, .ref q2, .int 0, .int 0])), (q1, .inl (cI, 120, .inl (fun _ => 0))), (q2, .inl (cI, 120, .inl (fun _ => 0)))] := hD
  exact W.vret hx hb hr (fun t ht hW => ⟨⟨(), rfl, trivial, q1, q2, by rw [ht]; exact hP, va_K.moved hW.alike hK, hD⟩, hS.F ht⟩) hS.2.2 dX1_init_30

theorem inX3_init_X3 : ∀ w ∈ wsX30, w ∈ wsX3_init := fun _ h => List.mem_cons_of_mem _ (List.mem_append_right _ h)
set_option maxHeartbeats 4000000 in
set_option maxRecDepth 100000 in
theorem c_X3_init (l : Launch) (dC : Nat → ClassId) (dI : Nat → Nat → Nat) (cI cJ cZ : ClassId) (h0 : Nat) (sz : Nat) : Met l yX3_init wsX3_init ({ frames := 1, cells := 2, slots := 15, locals := 12 } : Room) (va_Pc [.ref h0] (fun U => U.heap.size = sz ∧ va_P (dC, dI) vwCl [(h0, .inr (3, [.int 0, .null, .null]))] U.heap ∧ va_K (dC, dI) vwCl [(cI, .int), (cJ, .long), (cZ, .boolean)] U ∧ va_D (fun _ => True) [(h0, .inr (3, [.int 0, .null, .null]))])) (va_Qv (fun _ : Unit => True) (fun _ t => ∃ q1 q2 : Nat, va_P (dC, dI) vwCl [(h0, .inr (3, [.int 0, .ref q1, .ref q2])), (q1, .inl (cI, 14, .inl (fun _ => 0))), (q2, .inl (cI, 1, .inl (fun _ => 0)))] t.heap ∧ va_K (dC, dI) vwCl [(cI, .int), (cJ, .long), (cZ, .boolean)] t ∧ va_D (va_A [(h0, .inr (3, [.int 0, .null, .null]))] sz) [(h0, .inr (3, [.int 0, .ref q1, .ref q2])), (q1, .inl (cI, 14, .inl (fun _ => 0))), (q2, .inl (cI, 1, .inl (fun _ => 0)))]) (va_A [(h0, .inr (3, [.int 0, .null, .null]))] sz)) 2 15 (va_A [(h0, .inr (3, [.int 0, .null, .null]))] sz) := by
  refine Met.ofW (cc := cX3_init) (maxL := 1) (ret := none) (by decide) rfl ?_
  intro p e s m args below meth c s₁ B hml hv
  obtain ⟨rfl, hsz, hP, hK, hD0⟩ := hv
  have hx := B.exec
  have hb := B.bytes
  have hr := B.returns
  have hts := atoms_spec (ws := wsX3_init) B.pre
  have hown : s.vm.findClass RX3 = some m.cls := findClass_of_methodNamed B.named
  have hlocks := B.notSynchronized
  have hin : meth.name = "<init>" := (name_of_methodNamed B.named B.method).1
  subst hsz
  have hD := hD0.self (sz := s.heap.size)
  generalize hAe : va_A [(h0, .inr (3, [.int 0, .null, .null]))] s.heap.size = A at hD ⊢
  have hA : ∀ q : Nat, s.heap.size ≤ q → A q := fun q h => by rw [← hAe]; exact Or.inr h
  have hS : va_S A s.heap s.heap [] := va_S.rf
  have hP : va_P (dC, dI) vwCl [(h0, .inr (3, [.int 0, .null, .null]))] s.heap := hP
  have lk1 := hts (.methodLink RX3 3 objectInit) (by decide +kernel)
  have lk2 := hts (.instanceMethod objectInit) (by decide +kernel)
  have lk3 := hts (.code objectInit ⟨#[0xb1]⟩ 1 none) (by decide +kernel)
  have lk4 := hts (.arrayClass .int) (by decide +kernel)
  have lk5 := hts (.fieldLink RX3 9 "WireRow$Saw" "piece" "[I") (by decide +kernel)
  have lk6 := hts (.fieldLink RX3 15 "WireRow$Saw" "best" "[I") (by decide +kernel)
  have hl := lv_entry ([.ref h0]) (n := 1) (Nat.le_of_ble_eq_true rfl)
  rw [lg_entry_eq]
  generalize (lg_sl ([.ref h0]) ++ List.replicate (1 - (lg_sl ([.ref h0])).length) Slot.unset).toArray = ls at hl ⊢
  have hl : lv_has ls 1 [(0, .ref h0)] := hl
  obtain ⟨H, hHe⟩ : ∃ H, H = s.heap := ⟨_, rfl⟩
  rw [← hHe] at hP
  have hS : va_S A s.heap H [] := by rw [hHe]; exact hS
  rw [← hHe]
  refine lv_aload_n hx hb dX3_init_0 rfl (lv_at hl 0 rfl) ?_
  refine W.objInit hx hb hown lk1 lk2 lk3 rfl (by rw [hml]; exact hl.1) rfl dX3_init_1 (Nat.le_of_ble_eq_true rfl) (Nat.le_of_ble_eq_true rfl) ?_
  refine W.eq (g2 := F0 m 4 ls []) rfl ?_
  refine lv_aload_n hx hb dX3_init_4 rfl (lv_at hl 0 rfl) ?_
  refine lv_bipush (v := (14 : Int32)) hx hb dX3_init_5 (by decide) ?_
  refine va_newa (atype := .int) (ty := .int) (N' := 14) (a0 := (14, .inl (fun _ => 0))) hx hb lk4 rfl hK hP hD hS hA (fun _ => rfl) (by decide +kernel) (by decide +kernel) (by have := wg_cbint; omega) (by show 0 + 1 ≤ 2; omega) (by show 0 + 14 ≤ 15; omega) dX3_init_7 (fun q1 cN H hKN hP hD hS => ?_)
  obtain rfl : cI = cN := (wg_cls hKN 3 0 rfl rfl).symm
  have hP : va_P (dC, dI) vwCl [(h0, .inr (3, [.int 0, .null, .null])), (q1, .inl (cI, 14, .inl (fun _ => 0)))] H := hP
  have hD : va_D A [(h0, .inr (3, [.int 0, .null, .null])), (q1, .inl (cI, 14, .inl (fun _ => 0)))] := hD
  refine W.widen (k := 1) (n := 14) (by omega) (by omega) ?_
  refine va_putF (D := (dC, dI)) (ci := 3) (v := .ref q1) (ty := .array .int) (C := RX3) (T := TX3) (N := 3) hx hb hts inX3_init_X3 tyX3 tyX3_ok nmX3 hown hK hP hD hS 0 rfl rfl 1 (by decide) lk5 (fun _ h9 => h9) rfl hin rfl (by decide +kernel) rfl rfl (Nat.le_of_ble_eq_true rfl) dX3_init_9 (fun H locs hP hD hS => ?_)
  have hP : va_P (dC, dI) vwCl [(h0, .inr (3, [.int 0, .ref q1, .null])), (q1, .inl (cI, 14, .inl (fun _ => 0)))] H := hP
  have hD : va_D A [(h0, .inr (3, [.int 0, .ref q1, .null])), (q1, .inl (cI, 14, .inl (fun _ => 0)))] := hD
  refine lv_aload_n hx hb dX3_init_12 rfl (lv_at hl 0 rfl) ?_
  refine lv_iconst (v := (1 : Int32)) hx hb dX3_init_13 (by decide) ?_
  refine va_newa (atype := .int) (ty := .int) (N' := 1) (a0 := (1, .inl (fun _ => 0))) hx hb lk4 rfl hK hP hD hS hA (fun _ => rfl) (by decide +kernel) (by decide +kernel) (by have := wg_cbint; omega) (by show 1 + 1 ≤ 2; omega) (by show 14 + 1 ≤ 15; omega) dX3_init_14 (fun q2 cN H hKN hP hD hS => ?_)
  obtain rfl : cI = cN := (wg_cls hKN 3 0 rfl rfl).symm
  have hP : va_P (dC, dI) vwCl [(h0, .inr (3, [.int 0, .ref q1, .null])), (q1, .inl (cI, 14, .inl (fun _ => 0))), (q2, .inl (cI, 1, .inl (fun _ => 0)))] H := hP
  have hD : va_D A [(h0, .inr (3, [.int 0, .ref q1, .null])), (q1, .inl (cI, 14, .inl (fun _ => 0))), (q2, .inl (cI, 1, .inl (fun _ => 0)))] := hD
  refine W.widen (k := 2) (n := 15) (by omega) (by omega) ?_
  refine va_put (D := (dC, dI)) (ci := 3) (v := .ref q2) (ty := .array .int) (C := RX3) (T := TX3) (N := 3) hx hb hts inX3_init_X3 tyX3 tyX3_ok nmX3 hown hK hP hD hS 0 rfl rfl 2 (by decide) lk6 (fun _ h9 => h9) rfl (by decide +kernel) rfl rfl (Nat.le_of_ble_eq_true rfl) dX3_init_16 (fun H locs hP hD hS => ?_)
  have hP : va_P (dC, dI) vwCl [(h0, .inr (3, [.int 0, .ref q1, .ref q2])), (q1, .inl (cI, 14, .inl (fun _ => 0))), (q2, .inl (cI, 1, .inl (fun _ => 0)))] H := hP
  have hD : va_D A [(h0, .inr (3, [.int 0, .ref q1, .ref q2])), (q1, .inl (cI, 14, .inl (fun _ => 0))), (q2, .inl (cI, 1, .inl (fun _ => 0)))] := hD
  exact W.vret hx hb hr (fun t ht hW => ⟨⟨(), rfl, trivial, q1, q2, by rw [ht]; exact hP, va_K.moved hW.alike hK, hD⟩, hS.F ht⟩) hS.2.2 dX3_init_19
