theorem inX3_take_X3 : ∀ w ∈ wsX30, w ∈ wsX3_take := fun _ h => List.mem_cons_of_mem _ (List.mem_append_right _ h)
def wp_X3_take (Q : (Int32) → (Nat → Int32) → Prop) (v3_count : Int32) (f3_piece : Nat → Int32) (p1 : Int32) : Prop :=
  ((v3_count < 0 → (Q v3_count f3_piece)) ∧ (¬ v3_count < 0 → (((14 : Int32) ≤ v3_count → (Q v3_count f3_piece)) ∧ (¬ (14 : Int32) ≤ v3_count → (vp_in v3_count 14 ∧ (∀ g4 : Nat → Int32, g4 = upd f3_piece v3_count.toNatClampNeg p1 → (∀ x5 : Int32, x5 = (v3_count + (1 : Int32)) → (Q x5 g4))))))))
set_option maxHeartbeats 4000000 in
set_option maxRecDepth 100000 in
theorem c_X3_take (l : Launch) (dC : Nat → ClassId) (dI : Nat → Nat → Nat) (cI cJ cZ : ClassId) (a3 : Nat) (a3_piece : Nat) (a3_best : Nat) (sz : Nat) (v3_count : Int32) (f3_piece : Nat → Int32) (p1 : Int32) (Q : (Int32) → (Nat → Int32) → Prop) (hw : wp_X3_take Q v3_count f3_piece p1) : Met l yX3_take wsX3_take ({ frames := 0, cells := 0, slots := 0, locals := 0 } : Room) (va_Pc [.ref a3, .int p1] (fun U => U.heap.size = sz ∧ va_P (dC, dI) vwCl [(a3, .inr (3, [.int v3_count, .ref a3_piece, .ref a3_best])), (a3_piece, .inl (cI, 14, .inl f3_piece))] U.heap ∧ va_K (dC, dI) vwCl [(cI, .int), (cJ, .long), (cZ, .boolean)] U ∧ va_D (fun _ => True) [(a3, .inr (3, [.int v3_count, .ref a3_piece, .ref a3_best])), (a3_piece, .inl (cI, 14, .inl f3_piece))])) (va_Qv (fun (u : (Int32) × (Nat → Int32)) => Q u.1 u.2) (fun (u : (Int32) × (Nat → Int32)) t => va_P (dC, dI) vwCl [(a3, .inr (3, [.int u.1, .ref a3_piece, .ref a3_best])), (a3_piece, .inl (cI, 14, .inl u.2))] t.heap ∧ va_K (dC, dI) vwCl [(cI, .int), (cJ, .long), (cZ, .boolean)] t ∧ va_D (va_A [(a3, .inr (3, [.int v3_count, .ref a3_piece, .ref a3_best])), (a3_piece, .inl (cI, 14, .inl f3_piece))] sz) [(a3, .inr (3, [.int u.1, .ref a3_piece, .ref a3_best])), (a3_piece, .inl (cI, 14, .inl u.2))]) (va_A [(a3, .inr (3, [.int v3_count, .ref a3_piece, .ref a3_best])), (a3_piece, .inl (cI, 14, .inl f3_piece))] sz)) 0 0 (va_A [(a3, .inr (3, [.int v3_count, .ref a3_piece, .ref a3_best])), (a3_piece, .inl (cI, 14, .inl f3_piece))] sz) := by
  refine Met.ofW (cc := cX3_take) (maxL := 2) (ret := none) (by decide) rfl ?_
  intro p e s m args below meth c s₁ B hml hv
  obtain ⟨rfl, hsz, hP, hK, hD0⟩ := hv
  have hx := B.exec
  have hb := B.bytes
  have hr := B.returns
  have hts := atoms_spec (ws := wsX3_take) B.pre
  have hown : s.vm.findClass RX3 = some m.cls := findClass_of_methodNamed B.named
  have hlocks := B.notSynchronized
  subst hsz
  have hD := hD0.self (sz := s.heap.size)
  generalize hAe : va_A [(a3, .inr (3, [.int v3_count, .ref a3_piece, .ref a3_best])), (a3_piece, .inl (cI, 14, .inl f3_piece))] s.heap.size = A at hD ⊢
  have hA : ∀ q : Nat, s.heap.size ≤ q → A q := fun q h => by rw [← hAe]; exact Or.inr h
  have hS : va_S A s.heap s.heap [] := va_S.rf
  have hP : va_P (dC, dI) vwCl [(a3, .inr (3, [.int v3_count, .ref a3_piece, .ref a3_best])), (a3_piece, .inl (cI, 14, .inl f3_piece))] s.heap := hP
  have lk1 := hts (.fieldLink RX3 18 "WireRow$Saw" "count" "I") (by decide +kernel)
  have lk2 := hts (.fieldLink RX3 9 "WireRow$Saw" "piece" "[I") (by decide +kernel)
  have hl := lv_entry ([.ref a3, .int p1]) (n := 2) (Nat.le_of_ble_eq_true rfl)
  rw [lg_entry_eq]
  generalize (lg_sl ([.ref a3, .int p1]) ++ List.replicate (2 - (lg_sl ([.ref a3, .int p1])).length) Slot.unset).toArray = ls at hl ⊢
  have hl : lv_has ls 2 [(0, .ref a3), (1, .int p1)] := hl
  obtain ⟨H, hHe⟩ : ∃ H, H = s.heap := ⟨_, rfl⟩
  rw [← hHe] at hP
  have hS : va_S A s.heap H [] := by rw [hHe]; exact hS
  rw [← hHe]
  unfold wp_X3_take at hw
  refine lv_aload_n hx hb dX3_take_0 rfl (lv_at hl 0 rfl) ?_
  refine va_get (D := (dC, dI)) (ci := 3) (v := .int v3_count) (C := RX3) (T := TX3) (N := 3) hx hb hts inX3_take_X3 hown hK hP 0 rfl rfl 0 (by decide) lk1 (fun _ h9 => h9) rfl dX3_take_1 ?_
  refine lv_if_lt (tgt := 36) hx hb dX3_take_4 (by decide) (fun c1 => ?_) (fun c1 => ?_)
  · replace hw := hw.1 (c1)
    have hP9 := hP.sub (ws' := [(a3, .inr (3, [.int v3_count, .ref a3_piece, .ref a3_best])), (a3_piece, .inl (cI, 14, .inl f3_piece))]) [0, 1] rfl
    have hD9 := hD.sub (ws' := [(a3, .inr (3, [.int v3_count, .ref a3_piece, .ref a3_best])), (a3_piece, .inl (cI, 14, .inl f3_piece))]) [0, 1] (by decide) rfl
    exact W.vret hx hb hr (fun t ht hW => ⟨⟨(v3_count, f3_piece), rfl, hw, by rw [ht]; exact hP9, va_K.moved hW.alike hK, hD9⟩, hS.F ht⟩) hS.2.2 dX3_take_36
  · replace hw := hw.2 (c1)
    refine lv_aload_n hx hb dX3_take_7 rfl (lv_at hl 0 rfl) ?_
    refine va_get (D := (dC, dI)) (ci := 3) (v := .int v3_count) (C := RX3) (T := TX3) (N := 3) hx hb hts inX3_take_X3 hown hK hP 0 rfl rfl 0 (by decide) lk1 (fun _ h9 => h9) rfl dX3_take_8 ?_
    refine lv_bipush (v := (14 : Int32)) hx hb dX3_take_11 (by decide) ?_
    refine lv_icmp_ge (tgt := 36) hx hb dX3_take_13 (by decide) (fun c2 => ?_) (fun c2 => ?_)
    · replace hw := hw.1 (c2)
      have hP9 := hP.sub (ws' := [(a3, .inr (3, [.int v3_count, .ref a3_piece, .ref a3_best])), (a3_piece, .inl (cI, 14, .inl f3_piece))]) [0, 1] rfl
      have hD9 := hD.sub (ws' := [(a3, .inr (3, [.int v3_count, .ref a3_piece, .ref a3_best])), (a3_piece, .inl (cI, 14, .inl f3_piece))]) [0, 1] (by decide) rfl
      exact W.vret hx hb hr (fun t ht hW => ⟨⟨(v3_count, f3_piece), rfl, hw, by rw [ht]; exact hP9, va_K.moved hW.alike hK, hD9⟩, hS.F ht⟩) hS.2.2 dX3_take_36
    · replace hw := hw.2 (c2)
      refine lv_aload_n hx hb dX3_take_16 rfl (lv_at hl 0 rfl) ?_
      refine va_get (D := (dC, dI)) (ci := 3) (v := .ref a3_piece) (C := RX3) (T := TX3) (N := 3) hx hb hts inX3_take_X3 hown hK hP 0 rfl rfl 1 (by decide) lk2 (fun _ h9 => h9) rfl dX3_take_17 ?_
      refine lv_aload_n hx hb dX3_take_20 rfl (lv_at hl 0 rfl) ?_
      refine va_get (D := (dC, dI)) (ci := 3) (v := .int v3_count) (C := RX3) (T := TX3) (N := 3) hx hb hts inX3_take_X3 hown hK hP 0 rfl rfl 0 (by decide) lk1 (fun _ h9 => h9) rfl dX3_take_21 ?_
      refine lv_iload_n hx hb dX3_take_24 rfl (lv_at hl 1 rfl) ?_
      obtain ⟨h3, hw⟩ := hw
      refine va_iast hx hb hK hP hD hS 1 0 rfl rfl h3 dX3_take_25 (fun H locs hP hD hS => ?_)
      obtain ⟨g4, eg4⟩ : ∃ y : Nat → Int32, y = upd f3_piece v3_count.toNatClampNeg p1 := ⟨_, rfl⟩
      replace hw := hw g4 eg4
      have hP : va_P (dC, dI) vwCl [(a3, .inr (3, [.int v3_count, .ref a3_piece, .ref a3_best])), (a3_piece, .inl (cI, 14, .inl g4))] H := by rw [eg4]; exact hP
      have hD : va_D A [(a3, .inr (3, [.int v3_count, .ref a3_piece, .ref a3_best])), (a3_piece, .inl (cI, 14, .inl g4))] := by rw [eg4]; exact hD
      refine lv_aload_n hx hb dX3_take_26 rfl (lv_at hl 0 rfl) ?_
      refine lv_dup hx hb dX3_take_27 rfl ?_
      refine va_get (D := (dC, dI)) (ci := 3) (v := .int v3_count) (C := RX3) (T := TX3) (N := 3) hx hb hts inX3_take_X3 hown hK hP 0 rfl rfl 0 (by decide) lk1 (fun _ h9 => h9) rfl dX3_take_28 ?_
      refine lv_iconst (v := (1 : Int32)) hx hb dX3_take_31 (by decide) ?_
      refine lv_iadd hx hb dX3_take_32 ?_
      refine lv_topi (fun x5 ex5 => ?_)
      replace hw := hw x5 ex5
      refine va_put (D := (dC, dI)) (ci := 3) (v := .int x5) (ty := .int) (C := RX3) (T := TX3) (N := 3) hx hb hts inX3_take_X3 tyX3 tyX3_ok nmX3 hown hK hP hD hS 0 rfl rfl 0 (by decide) lk1 (fun _ h9 => h9) rfl (by decide +kernel) rfl rfl (Nat.le_of_ble_eq_true rfl) dX3_take_33 (fun H locs hP hD hS => ?_)
      have hP : va_P (dC, dI) vwCl [(a3, .inr (3, [.int x5, .ref a3_piece, .ref a3_best])), (a3_piece, .inl (cI, 14, .inl g4))] H := hP
      have hD : va_D A [(a3, .inr (3, [.int x5, .ref a3_piece, .ref a3_best])), (a3_piece, .inl (cI, 14, .inl g4))] := hD
      have hP9 := hP.sub (ws' := [(a3, .inr (3, [.int x5, .ref a3_piece, .ref a3_best])), (a3_piece, .inl (cI, 14, .inl g4))]) [0, 1] rfl
      have hD9 := hD.sub (ws' := [(a3, .inr (3, [.int x5, .ref a3_piece, .ref a3_best])), (a3_piece, .inl (cI, 14, .inl g4))]) [0, 1] (by decide) rfl
      exact W.vret hx hb hr (fun t ht hW => ⟨⟨(x5, g4), rfl, hw, by rw [ht]; exact hP9, va_K.moved hW.alike hK, hD9⟩, hS.F ht⟩) hS.2.2 dX3_take_36

def wp_X3_withPiece (Q : Int32 → Prop) (p1 : Int32) (p2 : Int32) (p3 : Int32) : Prop :=
  ((p3 < ((p1 - p1 / (32768 : Int32) * (32768 : Int32)) + p2) → (Q ((((p1 / (32768 : Int32)) + (1 : Int32)) * (32768 : Int32)) + p2) )) ∧ (¬ p3 < ((p1 - p1 / (32768 : Int32) * (32768 : Int32)) + p2) → (Q (p1 + p2) )))
set_option maxHeartbeats 4000000 in
set_option maxRecDepth 100000 in
theorem c_X3_withPiece (l : Launch) (dC : Nat → ClassId) (dI : Nat → Nat → Nat) (cI cJ cZ : ClassId) (sz : Nat) (p1 : Int32) (p2 : Int32) (p3 : Int32) (Q : Int32 → Prop) (hw : wp_X3_withPiece Q  p1 p2 p3) : Met l yX3_withPiece wsX3_withPiece ({ frames := 0, cells := 0, slots := 0, locals := 0 } : Room) (va_Pc [.int p1, .int p2, .int p3] (fun U => U.heap.size = sz ∧ va_P (dC, dI) vwCl [] U.heap ∧ va_K (dC, dI) vwCl [(cI, .int), (cJ, .long), (cZ, .boolean)] U ∧ va_D (fun _ => True) [])) (va_Qi (fun r (u : Unit) => Q r) (fun (u : Unit) t => va_P (dC, dI) vwCl [] t.heap ∧ va_K (dC, dI) vwCl [(cI, .int), (cJ, .long), (cZ, .boolean)] t ∧ va_D (va_A [] sz) []) (va_A [] sz)) 0 0 (va_A [] sz) := by
  refine Met.ofW (cc := cX3_withPiece) (maxL := 3) (ret := (some .int)) (by decide) rfl ?_
  intro p e s m args below meth c s₁ B hml hv
  obtain ⟨rfl, hsz, hP, hK, hD0⟩ := hv
  have hx := B.exec
  have hb := B.bytes
  have hr := B.returns
  have hts := atoms_spec (ws := wsX3_withPiece) B.pre
  have hown : s.vm.findClass RX3 = some m.cls := findClass_of_methodNamed B.named
  have hlocks := B.notSynchronized
  subst hsz
  have hD := hD0.self (sz := s.heap.size)
  generalize hAe : va_A [] s.heap.size = A at hD ⊢
  have hA : ∀ q : Nat, s.heap.size ≤ q → A q := fun q h => by rw [← hAe]; exact Or.inr h
  have hS : va_S A s.heap s.heap [] := va_S.rf
  have hP : va_P (dC, dI) vwCl [] s.heap := hP
  have lk1 := hts (.constant RX3 22 (32768)) (by decide +kernel)
  have hl := lv_entry ([.int p1, .int p2, .int p3]) (n := 3) (Nat.le_of_ble_eq_true rfl)
  rw [lg_entry_eq]
  generalize (lg_sl ([.int p1, .int p2, .int p3]) ++ List.replicate (3 - (lg_sl ([.int p1, .int p2, .int p3])).length) Slot.unset).toArray = ls at hl ⊢
  have hl : lv_has ls 3 [(0, .int p1), (1, .int p2), (2, .int p3)] := hl
  obtain ⟨H, hHe⟩ : ∃ H, H = s.heap := ⟨_, rfl⟩
  rw [← hHe] at hP
  have hS : va_S A s.heap H [] := by rw [hHe]; exact hS
  rw [← hHe]
  unfold wp_X3_withPiece at hw
  refine lv_iload_n hx hb dX3_withPiece_0 rfl (lv_at hl 0 rfl) ?_
  refine lv_ldc (v := (32768 : Int32)) hx hb hown lk1 dX3_withPiece_1 ?_
  refine lv_irem hx hb dX3_withPiece_3 (by decide +kernel) ?_
  refine lv_iload_n hx hb dX3_withPiece_4 rfl (lv_at hl 1 rfl) ?_
  refine lv_iadd hx hb dX3_withPiece_5 ?_
  refine lv_iload_n hx hb dX3_withPiece_6 rfl (lv_at hl 2 rfl) ?_
  refine lv_icmp_gt (tgt := 14) hx hb dX3_withPiece_7 (by decide) (fun c2 => ?_) (fun c2 => ?_)
  · replace hw := hw.1 (c2)
    refine lv_iload_n hx hb dX3_withPiece_14 rfl (lv_at hl 0 rfl) ?_
    refine lv_ldc (v := (32768 : Int32)) hx hb hown lk1 dX3_withPiece_15 ?_
    refine lv_idiv hx hb dX3_withPiece_17 (by decide +kernel) ?_
    refine lv_iconst (v := (1 : Int32)) hx hb dX3_withPiece_18 (by decide) ?_
    refine lv_iadd hx hb dX3_withPiece_19 ?_
    refine lv_ldc (v := (32768 : Int32)) hx hb hown lk1 dX3_withPiece_20 ?_
    refine lv_imul hx hb dX3_withPiece_22 ?_
    refine lv_iload_n hx hb dX3_withPiece_23 rfl (lv_at hl 1 rfl) ?_
    refine lv_iadd hx hb dX3_withPiece_24 ?_
    have hP9 := hP.sub (ws' := []) [] rfl
    have hD9 := hD.sub (ws' := []) [] (by decide) rfl
    exact W.iret (v := ((((p1 / (32768 : Int32)) + (1 : Int32)) * (32768 : Int32)) + p2)) hx hb hr (fun t ht hW => ⟨⟨((((p1 / (32768 : Int32)) + (1 : Int32)) * (32768 : Int32)) + p2), (), rfl, hw, by rw [ht]; exact hP9, va_K.moved hW.alike hK, hD9⟩, hS.F ht⟩) hS.2.2 dX3_withPiece_25
  · replace hw := hw.2 (c2)
    refine lv_iload_n hx hb dX3_withPiece_10 rfl (lv_at hl 0 rfl) ?_
    refine lv_iload_n hx hb dX3_withPiece_11 rfl (lv_at hl 1 rfl) ?_
    refine lv_iadd hx hb dX3_withPiece_12 ?_
    have hP9 := hP.sub (ws' := []) [] rfl
    have hD9 := hD.sub (ws' := []) [] (by decide) rfl
    exact W.iret (v := (p1 + p2)) hx hb hr (fun t ht hW => ⟨⟨(p1 + p2), (), rfl, hw, by rw [ht]; exact hP9, va_K.moved hW.alike hK, hD9⟩, hS.F ht⟩) hS.2.2 dX3_withPiece_13

theorem inX3_leastOf_X3 : ∀ w ∈ wsX30, w ∈ wsX3_leastOf := fun _ h => List.mem_cons_of_mem _ (List.mem_append_right _ h)
def wb_X3_leastOf_51 (Q : Int32 → Prop) (v3_count : Int32) (f3_piece : Nat → Int32) (f3_best : Nat → Int32) (n3_best : Nat) (K6 : (Int32) → (Int32) → (Int32) → (Int32) → Prop) (y51_1 : Int32) (y51_2 : Int32) (y51_3 : Int32) (y51_4 : Int32) : Prop :=
  (∀ x3 : Int32, x3 = y51_4 + (1 : Int32) → (K6 y51_1 y51_2 y51_3 x3))
def wb_X3_leastOf_6 (Q : Int32 → Prop) (v3_count : Int32) (f3_piece : Nat → Int32) (f3_best : Nat → Int32) (n3_best : Nat) (K6 : (Int32) → (Int32) → (Int32) → (Int32) → Prop) (y6_1 : Int32) (y6_2 : Int32) (y6_3 : Int32) (y6_4 : Int32) : Prop :=
  ((v3_count ≤ y6_4 → (Q y6_3 )) ∧ (¬ v3_count ≤ y6_4 → (((y6_1 &&& ((1 : Int32) <<< (y6_4 &&& 31))) = 0 → (wb_X3_leastOf_51 Q v3_count f3_piece f3_best n3_best K6 y6_1 y6_2 y6_3 y6_4)) ∧ (¬ (y6_1 &&& ((1 : Int32) <<< (y6_4 &&& 31))) = 0 → (vp_in (y6_1 ^^^ ((1 : Int32) <<< (y6_4 &&& 31))) n3_best ∧ (vp_in y6_4 14 ∧ (wp_X3_withPiece (fun r6 => (∀ x7 : Int32, x7 = (if r6 < y6_3 then r6 else y6_3) → (wb_X3_leastOf_51 Q v3_count f3_piece f3_best n3_best K6 y6_1 y6_2 x7 y6_4))) (f3_best (y6_1 ^^^ ((1 : Int32) <<< (y6_4 &&& 31))).toNatClampNeg) (f3_piece y6_4.toNatClampNeg) y6_2)))))))
def wl_X3_leastOf_6 (Q : Int32 → Prop) (v3_count : Int32) (f3_piece : Nat → Int32) (f3_best : Nat → Int32) (n3_best : Nat) : Nat → (Int32) → (Int32) → (Int32) → (Int32) → Prop
  | 0, _, _, _, _ => False
  | n + 1, y6_1, y6_2, y6_3, y6_4 => wb_X3_leastOf_6 Q v3_count f3_piece f3_best n3_best  (wl_X3_leastOf_6 Q v3_count f3_piece f3_best n3_best  n) y6_1 y6_2 y6_3 y6_4
def wp_X3_leastOf (Q : Int32 → Prop) (v3_count : Int32) (f3_piece : Nat → Int32) (f3_best : Nat → Int32) (n3_best : Nat) (p1 : Int32) (p2 : Int32) : Prop :=
  (∃ n : Nat, wl_X3_leastOf_6 Q v3_count f3_piece f3_best n3_best  n p1 p2 (2147483647 : Int32) (0 : Int32))
set_option maxHeartbeats 4000000 in
set_option maxRecDepth 100000 in
theorem c_X3_leastOf (l : Launch) (dC : Nat → ClassId) (dI : Nat → Nat → Nat) (cI cJ cZ : ClassId) (a3 : Nat) (a3_piece : Nat) (a3_best : Nat) (sz : Nat) (v3_count : Int32) (f3_piece : Nat → Int32) (f3_best : Nat → Int32) (n3_best : Nat) (p1 : Int32) (p2 : Int32) (Q : Int32 → Prop) (hw : wp_X3_leastOf Q v3_count f3_piece f3_best n3_best p1 p2) : Met l yX3_leastOf wsX3_leastOf ({ frames := 1, cells := 0, slots := 0, locals := 22 } : Room) (va_Pc [.ref a3, .int p1, .int p2] (fun U => U.heap.size = sz ∧ va_P (dC, dI) vwCl [(a3, .inr (3, [.int v3_count, .ref a3_piece, .ref a3_best])), (a3_piece, .inl (cI, 14, .inl f3_piece)), (a3_best, .inl (cI, n3_best, .inl f3_best))] U.heap ∧ va_K (dC, dI) vwCl [(cI, .int), (cJ, .long), (cZ, .boolean)] U ∧ va_D (fun _ => True) [(a3, .inr (3, [.int v3_count, .ref a3_piece, .ref a3_best])), (a3_piece, .inl (cI, 14, .inl f3_piece)), (a3_best, .inl (cI, n3_best, .inl f3_best))])) (va_Qi (fun r (u : Unit) => Q r) (fun (u : Unit) t => va_P (dC, dI) vwCl [(a3, .inr (3, [.int v3_count, .ref a3_piece, .ref a3_best])), (a3_piece, .inl (cI, 14, .inl f3_piece)), (a3_best, .inl (cI, n3_best, .inl f3_best))] t.heap ∧ va_K (dC, dI) vwCl [(cI, .int), (cJ, .long), (cZ, .boolean)] t ∧ va_D (va_A [(a3, .inr (3, [.int v3_count, .ref a3_piece, .ref a3_best])), (a3_piece, .inl (cI, 14, .inl f3_piece)), (a3_best, .inl (cI, n3_best, .inl f3_best))] sz) [(a3, .inr (3, [.int v3_count, .ref a3_piece, .ref a3_best])), (a3_piece, .inl (cI, 14, .inl f3_piece)), (a3_best, .inl (cI, n3_best, .inl f3_best))]) (va_A [(a3, .inr (3, [.int v3_count, .ref a3_piece, .ref a3_best])), (a3_piece, .inl (cI, 14, .inl f3_piece)), (a3_best, .inl (cI, n3_best, .inl f3_best))] sz)) 0 0 (va_A [(a3, .inr (3, [.int v3_count, .ref a3_piece, .ref a3_best])), (a3_piece, .inl (cI, 14, .inl f3_piece)), (a3_best, .inl (cI, n3_best, .inl f3_best))] sz) := by
  refine Met.ofW (cc := cX3_leastOf) (maxL := 5) (ret := (some .int)) (by decide) rfl ?_
  intro p e s m args below meth c s₁ B hml hv
  obtain ⟨rfl, hsz, hP, hK, hD0⟩ := hv
  have hx := B.exec
  have hb := B.bytes
  have hr := B.returns
  have hts := atoms_spec (ws := wsX3_leastOf) B.pre
  have hown : s.vm.findClass RX3 = some m.cls := findClass_of_methodNamed B.named
  have hlocks := B.notSynchronized
  subst hsz
  have hD := hD0.self (sz := s.heap.size)
  generalize hAe : va_A [(a3, .inr (3, [.int v3_count, .ref a3_piece, .ref a3_best])), (a3_piece, .inl (cI, 14, .inl f3_piece)), (a3_best, .inl (cI, n3_best, .inl f3_best))] s.heap.size = A at hD ⊢
  have hA : ∀ q : Nat, s.heap.size ≤ q → A q := fun q h => by rw [← hAe]; exact Or.inr h
  have hS : va_S A s.heap s.heap [] := va_S.rf
  have hP : va_P (dC, dI) vwCl [(a3, .inr (3, [.int v3_count, .ref a3_piece, .ref a3_best])), (a3_piece, .inl (cI, 14, .inl f3_piece)), (a3_best, .inl (cI, n3_best, .inl f3_best))] s.heap := hP
  have lk1 := hts (.constant RX3 29 (2147483647)) (by decide +kernel)
  have lk2 := hts (.fieldLink RX3 18 "WireRow$Saw" "count" "I") (by decide +kernel)
  have lk3 := hts (.fieldLink RX3 15 "WireRow$Saw" "best" "[I") (by decide +kernel)
  have lk4 := hts (.fieldLink RX3 9 "WireRow$Saw" "piece" "[I") (by decide +kernel)
  have lk5 := hts (.methodLink RX3 34 Lib.Math.min.name) (by decide +kernel)
  have lk6 := hts (.static Lib.Math.min.name) (by decide +kernel)
  have lk7 := hts (.initialized "java/lang/Math") (by decide +kernel)
  have lk8 := hts (.code Lib.Math.min.name Lib.Math.min.code 2 (some .int)) (by decide +kernel)
  have k_6 : ∀ (n_6 : Nat) (y6_1 : Int32) (y6_2 : Int32) (y6_3 : Int32) (y6_4 : Int32) (H : Heap) (locs : List Loc) (ls : Array Slot), va_P (dC, dI) vwCl [(a3, .inr (3, [.int v3_count, .ref a3_piece, .ref a3_best])), (a3_piece, .inl (cI, 14, .inl f3_piece)), (a3_best, .inl (cI, n3_best, .inl f3_best))] H → va_D A [(a3, .inr (3, [.int v3_count, .ref a3_piece, .ref a3_best])), (a3_piece, .inl (cI, 14, .inl f3_piece)), (a3_best, .inl (cI, n3_best, .inl f3_best))] → va_S A s.heap H locs → lv_has ls 5 [(0, .ref a3), (1, .int y6_1), (2, .int y6_2), (3, .int y6_3), (4, .int y6_4)] → (wl_X3_leastOf_6 Q v3_count f3_piece f3_best n3_best  n_6 y6_1 y6_2 y6_3 y6_4) → W p l e (headSpec wsX3_leastOf ({ frames := 1, cells := 0, slots := 0, locals := 22 } : Room)).room s m [.ref a3, .int p1, .int p2].toArray below meth c H locs 0 0 (MQ below (va_Qi (fun r (u : Unit) => Q r) (fun (u : Unit) t => va_P (dC, dI) vwCl [(a3, .inr (3, [.int v3_count, .ref a3_piece, .ref a3_best])), (a3_piece, .inl (cI, 14, .inl f3_piece)), (a3_best, .inl (cI, n3_best, .inl f3_best))] t.heap ∧ va_K (dC, dI) vwCl [(cI, .int), (cJ, .long), (cZ, .boolean)] t ∧ va_D A [(a3, .inr (3, [.int v3_count, .ref a3_piece, .ref a3_best])), (a3_piece, .inl (cI, 14, .inl f3_piece)), (a3_best, .inl (cI, n3_best, .inl f3_best))]) A) [.ref a3, .int p1, .int p2].toArray s 0 0 A) (F0 m 6 ls []) := by
    intro n_6
    induction n_6 with
    | zero =>
      intro y6_1 y6_2 y6_3 y6_4 H locs ls hP hD hS hl hw
      exact False.elim hw
    | succ n_6 ih_6 =>
      have k_51 : ∀  (y51_1 : Int32) (y51_2 : Int32) (y51_3 : Int32) (y51_4 : Int32) (H : Heap) (locs : List Loc) (ls : Array Slot), va_P (dC, dI) vwCl [(a3, .inr (3, [.int v3_count, .ref a3_piece, .ref a3_best])), (a3_piece, .inl (cI, 14, .inl f3_piece)), (a3_best, .inl (cI, n3_best, .inl f3_best))] H → va_D A [(a3, .inr (3, [.int v3_count, .ref a3_piece, .ref a3_best])), (a3_piece, .inl (cI, 14, .inl f3_piece)), (a3_best, .inl (cI, n3_best, .inl f3_best))] → va_S A s.heap H locs → lv_has ls 5 [(0, .ref a3), (1, .int y51_1), (2, .int y51_2), (3, .int y51_3), (4, .int y51_4)] → (wb_X3_leastOf_51 Q v3_count f3_piece f3_best n3_best (wl_X3_leastOf_6 Q v3_count f3_piece f3_best n3_best  n_6) y51_1 y51_2 y51_3 y51_4) → W p l e (headSpec wsX3_leastOf ({ frames := 1, cells := 0, slots := 0, locals := 22 } : Room)).room s m [.ref a3, .int p1, .int p2].toArray below meth c H locs 0 0 (MQ below (va_Qi (fun r (u : Unit) => Q r) (fun (u : Unit) t => va_P (dC, dI) vwCl [(a3, .inr (3, [.int v3_count, .ref a3_piece, .ref a3_best])), (a3_piece, .inl (cI, 14, .inl f3_piece)), (a3_best, .inl (cI, n3_best, .inl f3_best))] t.heap ∧ va_K (dC, dI) vwCl [(cI, .int), (cJ, .long), (cZ, .boolean)] t ∧ va_D A [(a3, .inr (3, [.int v3_count, .ref a3_piece, .ref a3_best])), (a3_piece, .inl (cI, 14, .inl f3_piece)), (a3_best, .inl (cI, n3_best, .inl f3_best))]) A) [.ref a3, .int p1, .int p2].toArray s 0 0 A) (F0 m 51 ls []) := by
        intro y51_1 y51_2 y51_3 y51_4 H locs ls hP hD hS hl hw
        unfold wb_X3_leastOf_51 at hw
        obtain ⟨x3, ex3⟩ : ∃ y : Int32, y = y51_4 + (1 : Int32) := ⟨_, rfl⟩
        replace hw := hw x3 ex3
        refine lv_iinc (v := x3) (lv' := [(4, .int x3), (0, .ref a3), (1, .int y51_1), (2, .int y51_2), (3, .int y51_3)]) hx hb dX3_leastOf_51 hl (k := 4) rfl (by rw [ex3]; rfl) (by decide) rfl (fun ls hl => ?_)
        refine lv_goto (tgt := 6) hx hb dX3_leastOf_54 (by decide) ?_
        exact ih_6 y51_1 y51_2 y51_3 x3 _ _ _ (hP.sub [0, 1, 2] rfl) (hD.sub [0, 1, 2] (by decide) rfl) hS (lv_sub hl [1, 2, 3, 4, 0] rfl) hw
      intro y6_1 y6_2 y6_3 y6_4 H locs ls hP hD hS hl hw
      replace hw : wb_X3_leastOf_6 Q v3_count f3_piece f3_best n3_best  (wl_X3_leastOf_6 Q v3_count f3_piece f3_best n3_best  n_6) y6_1 y6_2 y6_3 y6_4 := hw
      unfold wb_X3_leastOf_6 at hw
      refine lv_iload hx hb dX3_leastOf_6 (lv_at hl 4 rfl) ?_
      refine lv_aload_n hx hb dX3_leastOf_8 rfl (lv_at hl 0 rfl) ?_
      refine va_get (D := (dC, dI)) (ci := 3) (v := .int v3_count) (C := RX3) (T := TX3) (N := 3) hx hb hts inX3_leastOf_X3 hown hK hP 0 rfl rfl 0 (by decide) lk2 (fun _ h9 => h9) rfl dX3_leastOf_9 ?_
      refine lv_icmp_ge (tgt := 57) hx hb dX3_leastOf_12 (by decide) (fun c1 => ?_) (fun c1 => ?_)
      · replace hw := hw.1 (c1)
        refine lv_iload_n hx hb dX3_leastOf_57 rfl (lv_at hl 3 rfl) ?_
        have hP9 := hP.sub (ws' := [(a3, .inr (3, [.int v3_count, .ref a3_piece, .ref a3_best])), (a3_piece, .inl (cI, 14, .inl f3_piece)), (a3_best, .inl (cI, n3_best, .inl f3_best))]) [0, 1, 2] rfl
        have hD9 := hD.sub (ws' := [(a3, .inr (3, [.int v3_count, .ref a3_piece, .ref a3_best])), (a3_piece, .inl (cI, 14, .inl f3_piece)), (a3_best, .inl (cI, n3_best, .inl f3_best))]) [0, 1, 2] (by decide) rfl
        exact W.iret (v := y6_3) hx hb hr (fun t ht hW => ⟨⟨y6_3, (), rfl, hw, by rw [ht]; exact hP9, va_K.moved hW.alike hK, hD9⟩, hS.F ht⟩) hS.2.2 dX3_leastOf_58
      · replace hw := hw.2 (c1)
        refine lv_iload_n hx hb dX3_leastOf_15 rfl (lv_at hl 1 rfl) ?_
        refine lv_iconst (v := (1 : Int32)) hx hb dX3_leastOf_16 (by decide) ?_
        refine lv_iload hx hb dX3_leastOf_17 (lv_at hl 4 rfl) ?_
        refine lv_ishl hx hb dX3_leastOf_19 ?_
        refine lv_iand hx hb dX3_leastOf_20 ?_
        refine lv_if_eq (tgt := 51) hx hb dX3_leastOf_21 (by decide) (fun c2 => ?_) (fun c2 => ?_)
        · replace hw := hw.1 (c2)
          exact k_51 y6_1 y6_2 y6_3 y6_4 _ _ _ (hP.sub [0, 1, 2] rfl) (hD.sub [0, 1, 2] (by decide) rfl) hS (lv_sub hl [0, 1, 2, 3, 4] rfl) hw
        · replace hw := hw.2 (c2)
          refine lv_iload_n hx hb dX3_leastOf_24 rfl (lv_at hl 3 rfl) ?_
          refine lv_aload_n hx hb dX3_leastOf_25 rfl (lv_at hl 0 rfl) ?_
          refine va_get (D := (dC, dI)) (ci := 3) (v := .ref a3_best) (C := RX3) (T := TX3) (N := 3) hx hb hts inX3_leastOf_X3 hown hK hP 0 rfl rfl 2 (by decide) lk3 (fun _ h9 => h9) rfl dX3_leastOf_26 ?_
          refine lv_iload_n hx hb dX3_leastOf_29 rfl (lv_at hl 1 rfl) ?_
          refine lv_iconst (v := (1 : Int32)) hx hb dX3_leastOf_30 (by decide) ?_
          refine lv_iload hx hb dX3_leastOf_31 (lv_at hl 4 rfl) ?_
          refine lv_ishl hx hb dX3_leastOf_33 ?_
          refine lv_ixor hx hb dX3_leastOf_34 ?_
          obtain ⟨h4, hw⟩ := hw
          refine va_iald hx hb hK hP 2 0 rfl rfl h4 dX3_leastOf_35 ?_
          refine lv_aload_n hx hb dX3_leastOf_36 rfl (lv_at hl 0 rfl) ?_
          refine va_get (D := (dC, dI)) (ci := 3) (v := .ref a3_piece) (C := RX3) (T := TX3) (N := 3) hx hb hts inX3_leastOf_X3 hown hK hP 0 rfl rfl 1 (by decide) lk4 (fun _ h9 => h9) rfl dX3_leastOf_37 ?_
          refine lv_iload hx hb dX3_leastOf_40 (lv_at hl 4 rfl) ?_
          obtain ⟨h5, hw⟩ := hw
          refine va_iald hx hb hK hP 1 0 rfl rfl h5 dX3_leastOf_42 ?_
          refine lv_iload_n hx hb dX3_leastOf_43 rfl (lv_at hl 2 rfl) ?_
          have hPc := hP.sub (ws' := []) [] rfl
          have hDc := hD.sub (ws' := []) [] (by decide) rfl
          have hFc := va_free (wc := []) hD hS hA [] rfl
          refine va_calli (va_runS (As := [.int (f3_best (y6_1 ^^^ ((1 : Int32) <<< (y6_4 &&& 31))).toNatClampNeg), .int (f3_piece y6_4.toNatClampNeg), .int y6_2]) (rest := [.int y6_3]) ⟨hx, hb, hml, hown, hts⟩ (c_X3_withPiece l dC dI cI cJ cZ H.size (f3_best (y6_1 ^^^ ((1 : Int32) <<< (y6_4 &&& 31))).toNatClampNeg) (f3_piece y6_4.toNatClampNeg) y6_2 _ hw) (va_cwS 3 hts gX3_leastOf_X3_withPiece rfl rfl rfl (by decide +kernel) ⟨Nat.le_of_ble_eq_true rfl, Nat.le_of_ble_eq_true rfl⟩) ⟨fun a U g mk q => by obtain ⟨q0, q1, qP, qK, qD⟩ := q; exact ⟨q0, q1, qP, va_K.moved (u := U) (U := U.calling g mk a) (Vm.Alike.refl U.vm) qK, qD⟩, fun U hU hW => ⟨rfl, by rw [hU], by rw [hU]; exact hPc, va_K.moved hW.alike hK, hDc.weaken (fun _ _ _ _ => trivial)⟩⟩ rfl rfl hl.1 rfl (lv_room (Nat.le_of_ble_eq_true rfl)) dX3_leastOf_44 ⟨(Nat.zero_le _), (Nat.zero_le _)⟩) hS (fun q _ h => hFc q h) hFc (fun r6 u t H1 locs ht hvm hw hB hz1 hk1 hS => ?_)
          obtain ⟨hP1, -, hD1⟩ := hB
          try dsimp only at hw
          rw [ht] at hP1
          obtain ⟨hP, hD⟩ := va_join (wr := [(a3, .inr (3, [.int v3_count, .ref a3_piece, .ref a3_best])), (a3_piece, .inl (cI, 14, .inl f3_piece)), (a3_best, .inl (cI, n3_best, .inl f3_best))]) (w1 := []) hP hD [] [0, 1, 2] rfl rfl (by decide) (by decide) hk1 hFc hP1 hD1
          generalize H1 = H at hP hS ⊢
          have hP : va_P (dC, dI) vwCl [(a3, .inr (3, [.int v3_count, .ref a3_piece, .ref a3_best])), (a3_piece, .inl (cI, 14, .inl f3_piece)), (a3_best, .inl (cI, n3_best, .inl f3_best))] H := hP
          have hD : va_D A [(a3, .inr (3, [.int v3_count, .ref a3_piece, .ref a3_best])), (a3_piece, .inl (cI, 14, .inl f3_piece)), (a3_best, .inl (cI, n3_best, .inl f3_best))] := hD
          refine va_mmin hx hb (hml.trans hl.1.symm) hown lk5 lk6 lk7 lk8 (Nat.le_of_ble_eq_true rfl) (Nat.le_of_ble_eq_true rfl) (Nat.le_of_ble_eq_true rfl) (Nat.le_of_ble_eq_true rfl) dX3_leastOf_47 ?_
          refine lv_topi (fun x7 ex7 => ?_)
          replace hw := hw x7 ex7
          refine lv_istore_n (lv' := [(3, .int x7), (0, .ref a3), (1, .int y6_1), (2, .int y6_2), (4, .int y6_4)]) hx hb dX3_leastOf_50 rfl hl (by decide) rfl (fun ls hl => ?_)
          exact k_51 y6_1 y6_2 x7 y6_4 _ _ _ (hP.sub [0, 1, 2] rfl) (hD.sub [0, 1, 2] (by decide) rfl) hS (lv_sub hl [1, 2, 3, 0, 4] rfl) hw
  have hl := lv_entry ([.ref a3, .int p1, .int p2]) (n := 5) (Nat.le_of_ble_eq_true rfl)
  rw [lg_entry_eq]
  generalize (lg_sl ([.ref a3, .int p1, .int p2]) ++ List.replicate (5 - (lg_sl ([.ref a3, .int p1, .int p2])).length) Slot.unset).toArray = ls at hl ⊢
  have hl : lv_has ls 5 [(0, .ref a3), (1, .int p1), (2, .int p2)] := hl
  obtain ⟨H, hHe⟩ : ∃ H, H = s.heap := ⟨_, rfl⟩
  rw [← hHe] at hP
  have hS : va_S A s.heap H [] := by rw [hHe]; exact hS
  rw [← hHe]
  unfold wp_X3_leastOf at hw
  refine lv_ldc (v := (2147483647 : Int32)) hx hb hown lk1 dX3_leastOf_0 ?_
  refine lv_istore_n (lv' := [(3, .int (2147483647 : Int32)), (0, .ref a3), (1, .int p1), (2, .int p2)]) hx hb dX3_leastOf_2 rfl hl (by decide) rfl (fun ls hl => ?_)
  refine lv_iconst (v := (0 : Int32)) hx hb dX3_leastOf_3 (by decide) ?_
  refine lv_istore (lv' := [(4, .int (0 : Int32)), (3, .int (2147483647 : Int32)), (0, .ref a3), (1, .int p1), (2, .int p2)]) hx hb dX3_leastOf_4 hl (by decide) rfl (fun ls hl => ?_)
  obtain ⟨n_6, hw⟩ := hw
  exact k_6 n_6 p1 p2 (2147483647 : Int32) (0 : Int32) _ _ _ (hP.sub [0, 1, 2] rfl) (hD.sub [0, 1, 2] (by decide) rfl) hS (lv_sub hl [2, 3, 4, 1, 0] rfl) hw
