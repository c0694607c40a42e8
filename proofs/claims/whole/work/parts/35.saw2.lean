theorem inX3_fewestBars_X3 : ∀ w ∈ wsX30, w ∈ wsX3_fewestBars := fun _ h => List.mem_cons_of_mem _ (List.mem_append_right _ h)
def wb_X3_fewestBars_33 (Q : Int32 → (Nat → Int32) → (Nat) → Prop) (mc ms : Nat) (v3_count : Int32) (f3_piece : Nat → Int32) (K33 : (Nat → Int32) → (Nat) → (Int32) → (Int32) → (Int32) → Prop) (f3_best_c33 : Nat → Int32) (n3_best_c33 : Nat) (y33_1 : Int32) (y33_2 : Int32) (y33_3 : Int32) : Prop :=
  ((y33_2 ≤ y33_3 → (vp_in (y33_2 - (1 : Int32)) n3_best_c33 ∧ (Q ((f3_best_c33 (y33_2 - (1 : Int32)).toNatClampNeg) / (32768 : Int32)) f3_best_c33 n3_best_c33))) ∧ (¬ y33_2 ≤ y33_3 → (wp_X3_leastOf (fun r8 => (vp_in y33_3 n3_best_c33 ∧ (∀ g10 : Nat → Int32, g10 = upd f3_best_c33 y33_3.toNatClampNeg r8 → (∀ x11 : Int32, x11 = y33_3 + (1 : Int32) → (K33 g10 n3_best_c33 y33_1 y33_2 x11))))) v3_count f3_piece f3_best_c33 n3_best_c33 y33_3 y33_1)))
def wl_X3_fewestBars_33 (Q : Int32 → (Nat → Int32) → (Nat) → Prop) (mc ms : Nat) (v3_count : Int32) (f3_piece : Nat → Int32) : Nat → (Nat → Int32) → (Nat) → (Int32) → (Int32) → (Int32) → Prop
  | 0, _, _, _, _, _ => False
  | n + 1, f3_best_c33, n3_best_c33, y33_1, y33_2, y33_3 => wb_X3_fewestBars_33 Q mc ms v3_count f3_piece  (wl_X3_fewestBars_33 Q mc ms v3_count f3_piece  n) f3_best_c33 n3_best_c33 y33_1 y33_2 y33_3
def wb_X3_fewestBars_23 (Q : Int32 → (Nat → Int32) → (Nat) → Prop) (mc ms : Nat) (v3_count : Int32) (f3_piece : Nat → Int32) (f3_best_c23 : Nat → Int32) (n3_best_c23 : Nat) (y23_1 : Int32) (y23_2 : Int32) : Prop :=
  (vp_in (0 : Int32) n3_best_c23 ∧ (∀ g4 : Nat → Int32, g4 = upd f3_best_c23 (0 : Int32).toNatClampNeg (32768 : Int32) → (∃ n : Nat, wl_X3_fewestBars_33 Q mc ms v3_count f3_piece  n g4 n3_best_c23 y23_1 y23_2 (1 : Int32))))
def wp_X3_fewestBars (Q : Int32 → (Nat → Int32) → (Nat) → Prop) (mc ms : Nat) (v3_count : Int32) (f3_piece : Nat → Int32) (f3_best : Nat → Int32) (n3_best : Nat) (p1 : Int32) : Prop :=
  (∀ x1 : Int32, x1 = ((1 : Int32) <<< (v3_count &&& 31)) → ((x1 ≤ (Int32.ofNat n3_best) → (wb_X3_fewestBars_23 Q mc ms v3_count f3_piece  f3_best n3_best p1 x1)) ∧ (¬ x1 ≤ (Int32.ofNat n3_best) → ((¬ x1 < 0 ∧ x1.toNatClampNeg ≤ 65536 ∧ 1 ≤ mc ∧ x1.toNatClampNeg ≤ ms) ∧ (wb_X3_fewestBars_23 Q mc ms v3_count f3_piece  (fun _ => (0 : Int32)) x1.toNatClampNeg p1 x1)))))
set_option maxHeartbeats 4000000 in
set_option maxRecDepth 100000 in
theorem c_X3_fewestBars (l : Launch) (dC : Nat → ClassId) (dI : Nat → Nat → Nat) (cI cJ cZ : ClassId) (a3 : Nat) (a3_piece : Nat) (a3_best : Nat) (sz : Nat) (v3_count : Int32) (f3_piece : Nat → Int32) (f3_best : Nat → Int32) (n3_best : Nat) (p1 : Int32) (mc ms : Nat) (Q : Int32 → (Nat → Int32) → (Nat) → Prop) (hw : wp_X3_fewestBars Q mc ms v3_count f3_piece f3_best n3_best p1) : Met l yX3_fewestBars wsX3_fewestBars ({ frames := 2, cells := mc, slots := ms, locals := 46 } : Room) (va_Pc [.ref a3, .int p1] (fun U => U.heap.size = sz ∧ va_P (dC, dI) vwCl [(a3, .inr (3, [.int v3_count, .ref a3_piece, .ref a3_best])), (a3_piece, .inl (cI, 14, .inl f3_piece)), (a3_best, .inl (cI, n3_best, .inl f3_best))] U.heap ∧ va_K (dC, dI) vwCl [(cI, .int), (cJ, .long), (cZ, .boolean)] U ∧ va_D (fun _ => True) [(a3, .inr (3, [.int v3_count, .ref a3_piece, .ref a3_best])), (a3_piece, .inl (cI, 14, .inl f3_piece)), (a3_best, .inl (cI, n3_best, .inl f3_best))])) (va_Qi (fun r (u : (Nat → Int32) × (Nat)) => Q r u.1 u.2) (fun (u : (Nat → Int32) × (Nat)) t => ∃ qb : Nat, va_P (dC, dI) vwCl [(a3, .inr (3, [.int v3_count, .ref a3_piece, .ref qb])), (a3_piece, .inl (cI, 14, .inl f3_piece)), (qb, .inl (cI, u.2, .inl u.1))] t.heap ∧ va_K (dC, dI) vwCl [(cI, .int), (cJ, .long), (cZ, .boolean)] t ∧ va_D (va_A [(a3, .inr (3, [.int v3_count, .ref a3_piece, .ref a3_best])), (a3_piece, .inl (cI, 14, .inl f3_piece)), (a3_best, .inl (cI, n3_best, .inl f3_best))] sz) [(a3, .inr (3, [.int v3_count, .ref a3_piece, .ref qb])), (a3_piece, .inl (cI, 14, .inl f3_piece)), (qb, .inl (cI, u.2, .inl u.1))]) (va_A [(a3, .inr (3, [.int v3_count, .ref a3_piece, .ref a3_best])), (a3_piece, .inl (cI, 14, .inl f3_piece)), (a3_best, .inl (cI, n3_best, .inl f3_best))] sz)) mc ms (va_A [(a3, .inr (3, [.int v3_count, .ref a3_piece, .ref a3_best])), (a3_piece, .inl (cI, 14, .inl f3_piece)), (a3_best, .inl (cI, n3_best, .inl f3_best))] sz) := by
  refine Met.ofW (cc := cX3_fewestBars) (maxL := 4) (ret := (some .int)) (by decide) rfl ?_
  intro p e s m args below meth c s₁ B hml hv
  obtain ⟨rfl, hsz, hP, hK, hD0⟩ := hv
  have hx := B.exec
  have hb := B.bytes
  have hr := B.returns
  have hts := atoms_spec (ws := wsX3_fewestBars) B.pre
  have hown : s.vm.findClass RX3 = some m.cls := findClass_of_methodNamed B.named
  have hlocks := B.notSynchronized
  subst hsz
  have hD := hD0.self (sz := s.heap.size)
  generalize hAe : va_A [(a3, .inr (3, [.int v3_count, .ref a3_piece, .ref a3_best])), (a3_piece, .inl (cI, 14, .inl f3_piece)), (a3_best, .inl (cI, n3_best, .inl f3_best))] s.heap.size = A at hD ⊢
  have hA : ∀ q : Nat, s.heap.size ≤ q → A q := fun q h => by rw [← hAe]; exact Or.inr h
  have hS : va_S A s.heap s.heap [] := va_S.rf
  have hP : va_P (dC, dI) vwCl [(a3, .inr (3, [.int v3_count, .ref a3_piece, .ref a3_best])), (a3_piece, .inl (cI, 14, .inl f3_piece)), (a3_best, .inl (cI, n3_best, .inl f3_best))] s.heap := hP
  have lk1 := hts (.fieldLink RX3 18 "WireRow$Saw" "count" "I") (by decide +kernel)
  have lk2 := hts (.fieldLink RX3 15 "WireRow$Saw" "best" "[I") (by decide +kernel)
  have lk3 := hts (.constant RX3 22 (32768)) (by decide +kernel)
  have lk4 := hts (.arrayClass .int) (by decide +kernel)
  have k_33 : ∀ (n_33 : Nat) (f3_best_c33 : Nat → Int32) (n3_best_c33 : Nat) (y33_1 : Int32) (y33_2 : Int32) (y33_3 : Int32) (a3_best_c33 : Nat) (H : Heap) (locs : List Loc) (ls : Array Slot), va_P (dC, dI) vwCl [(a3, .inr (3, [.int v3_count, .ref a3_piece, .ref a3_best_c33])), (a3_piece, .inl (cI, 14, .inl f3_piece)), (a3_best_c33, .inl (cI, n3_best_c33, .inl f3_best_c33))] H → va_D A [(a3, .inr (3, [.int v3_count, .ref a3_piece, .ref a3_best_c33])), (a3_piece, .inl (cI, 14, .inl f3_piece)), (a3_best_c33, .inl (cI, n3_best_c33, .inl f3_best_c33))] → va_S A s.heap H locs → lv_has ls 4 [(0, .ref a3), (1, .int y33_1), (2, .int y33_2), (3, .int y33_3)] → (wl_X3_fewestBars_33 Q mc ms v3_count f3_piece  n_33 f3_best_c33 n3_best_c33 y33_1 y33_2 y33_3) → W p l e (headSpec wsX3_fewestBars ({ frames := 2, cells := mc, slots := ms, locals := 46 } : Room)).room s m [.ref a3, .int p1].toArray below meth c H locs mc ms (MQ below (va_Qi (fun r (u : (Nat → Int32) × (Nat)) => Q r u.1 u.2) (fun (u : (Nat → Int32) × (Nat)) t => ∃ qb : Nat, va_P (dC, dI) vwCl [(a3, .inr (3, [.int v3_count, .ref a3_piece, .ref qb])), (a3_piece, .inl (cI, 14, .inl f3_piece)), (qb, .inl (cI, u.2, .inl u.1))] t.heap ∧ va_K (dC, dI) vwCl [(cI, .int), (cJ, .long), (cZ, .boolean)] t ∧ va_D A [(a3, .inr (3, [.int v3_count, .ref a3_piece, .ref qb])), (a3_piece, .inl (cI, 14, .inl f3_piece)), (qb, .inl (cI, u.2, .inl u.1))]) A) [.ref a3, .int p1].toArray s mc ms A) (F0 m 33 ls []) := by
    intro n_33
    induction n_33 with
    | zero =>
      intro f3_best_c33 n3_best_c33 y33_1 y33_2 y33_3 a3_best_c33 H locs ls hP hD hS hl hw
      exact False.elim hw
    | succ n_33 ih_33 =>
      intro f3_best_c33 n3_best_c33 y33_1 y33_2 y33_3 a3_best_c33 H locs ls hP hD hS hl hw
      replace hw : wb_X3_fewestBars_33 Q mc ms v3_count f3_piece  (wl_X3_fewestBars_33 Q mc ms v3_count f3_piece  n_33) f3_best_c33 n3_best_c33 y33_1 y33_2 y33_3 := hw
      unfold wb_X3_fewestBars_33 at hw
      refine lv_iload_n hx hb dX3_fewestBars_33 rfl (lv_at hl 3 rfl) ?_
      refine lv_iload_n hx hb dX3_fewestBars_34 rfl (lv_at hl 2 rfl) ?_
      refine lv_icmp_ge (tgt := 56) hx hb dX3_fewestBars_35 (by decide) (fun c5 => ?_) (fun c5 => ?_)
      · replace hw := hw.1 (c5)
        refine lv_aload_n hx hb dX3_fewestBars_56 rfl (lv_at hl 0 rfl) ?_
        refine va_get (D := (dC, dI)) (ci := 3) (v := .ref a3_best_c33) (C := RX3) (T := TX3) (N := 3) hx hb hts inX3_fewestBars_X3 hown hK hP 0 rfl rfl 2 (by decide) lk2 (fun _ h9 => h9) rfl dX3_fewestBars_57 ?_
        refine lv_iload_n hx hb dX3_fewestBars_60 rfl (lv_at hl 2 rfl) ?_
        refine lv_iconst (v := (1 : Int32)) hx hb dX3_fewestBars_61 (by decide) ?_
        refine lv_isub hx hb dX3_fewestBars_62 ?_
        obtain ⟨h6, hw⟩ := hw
        refine va_iald hx hb hK hP 2 0 rfl rfl h6 dX3_fewestBars_63 ?_
        refine lv_ldc (v := (32768 : Int32)) hx hb hown lk3 dX3_fewestBars_64 ?_
        refine lv_idiv hx hb dX3_fewestBars_66 (by decide +kernel) ?_
        have hP9 := hP.sub (ws' := [(a3, .inr (3, [.int v3_count, .ref a3_piece, .ref a3_best_c33])), (a3_piece, .inl (cI, 14, .inl f3_piece)), (a3_best_c33, .inl (cI, n3_best_c33, .inl f3_best_c33))]) [0, 1, 2] rfl
        have hD9 := hD.sub (ws' := [(a3, .inr (3, [.int v3_count, .ref a3_piece, .ref a3_best_c33])), (a3_piece, .inl (cI, 14, .inl f3_piece)), (a3_best_c33, .inl (cI, n3_best_c33, .inl f3_best_c33))]) [0, 1, 2] (by decide) rfl
        refine W.widen (k := mc) (n := ms) (by omega) (by omega) ?_
        exact W.iret (v := ((f3_best_c33 (y33_2 - (1 : Int32)).toNatClampNeg) / (32768 : Int32))) hx hb hr (fun t ht hW => ⟨⟨((f3_best_c33 (y33_2 - (1 : Int32)).toNatClampNeg) / (32768 : Int32)), (f3_best_c33, n3_best_c33), rfl, hw, a3_best_c33, by rw [ht]; exact hP9, va_K.moved hW.alike hK, hD9⟩, hS.F ht⟩) hS.2.2 dX3_fewestBars_67
      · replace hw := hw.2 (c5)
        refine lv_aload_n hx hb dX3_fewestBars_38 rfl (lv_at hl 0 rfl) ?_
        refine va_get (D := (dC, dI)) (ci := 3) (v := .ref a3_best_c33) (C := RX3) (T := TX3) (N := 3) hx hb hts inX3_fewestBars_X3 hown hK hP 0 rfl rfl 2 (by decide) lk2 (fun _ h9 => h9) rfl dX3_fewestBars_39 ?_
        refine lv_iload_n hx hb dX3_fewestBars_42 rfl (lv_at hl 3 rfl) ?_
        refine lv_aload_n hx hb dX3_fewestBars_43 rfl (lv_at hl 0 rfl) ?_
        refine lv_iload_n hx hb dX3_fewestBars_44 rfl (lv_at hl 3 rfl) ?_
        refine lv_iload_n hx hb dX3_fewestBars_45 rfl (lv_at hl 1 rfl) ?_
        have hPc := hP.sub (ws' := [(a3, .inr (3, [.int v3_count, .ref a3_piece, .ref a3_best_c33])), (a3_piece, .inl (cI, 14, .inl f3_piece)), (a3_best_c33, .inl (cI, n3_best_c33, .inl f3_best_c33))]) [0, 1, 2] rfl
        have hDc := hD.sub (ws' := [(a3, .inr (3, [.int v3_count, .ref a3_piece, .ref a3_best_c33])), (a3_piece, .inl (cI, 14, .inl f3_piece)), (a3_best_c33, .inl (cI, n3_best_c33, .inl f3_best_c33))]) [0, 1, 2] (by decide) rfl
        have hFc := va_free (wc := [(a3, .inr (3, [.int v3_count, .ref a3_piece, .ref a3_best_c33])), (a3_piece, .inl (cI, 14, .inl f3_piece)), (a3_best_c33, .inl (cI, n3_best_c33, .inl f3_best_c33))]) hD hS hA [0, 1, 2] rfl
        refine va_calli (va_runV (As := [.int y33_3, .int y33_1]) (rest := [.int y33_3, .ref a3_best_c33]) ⟨hx, hb, hml, hown, hts⟩ (c_X3_leastOf l dC dI cI cJ cZ a3 a3_piece a3_best_c33 H.size v3_count f3_piece f3_best_c33 n3_best_c33 y33_3 y33_1 _ hw) (cwV 2 hts gX3_fewestBars_X3_leastOf rfl rfl rfl (by decide +kernel) ⟨Nat.le_of_ble_eq_true rfl, Nat.le_of_ble_eq_true rfl⟩) ⟨fun a U g mk q => by obtain ⟨q0, q1, qP, qK, qD⟩ := q; exact ⟨q0, q1, qP, va_K.moved (u := U) (U := U.calling g mk a) (Vm.Alike.refl U.vm) qK, qD⟩, va_recv hK hP (ci := 3) (q0 := 0) rfl rfl, fun U hU hW => ⟨rfl, by rw [hU], by rw [hU]; exact hPc, va_K.moved hW.alike hK, hDc.weaken (fun _ _ _ _ => trivial)⟩⟩ rfl rfl hl.1 rfl (lv_room (Nat.le_of_ble_eq_true rfl)) dX3_fewestBars_46 ⟨by show mc + 0 ≤ mc; omega, by show ms + 0 ≤ ms; omega⟩) hS (fun q _ h => hFc q h) hFc (fun r8 u t H1 locs ht hvm hw hB hz1 hk1 hS => ?_)
        obtain ⟨hP1, -, hD1⟩ := hB
        try dsimp only at hw
        rw [ht] at hP1
        obtain ⟨hP, hD⟩ := va_join (wr := []) (w1 := [(a3, .inr (3, [.int v3_count, .ref a3_piece, .ref a3_best_c33])), (a3_piece, .inl (cI, 14, .inl f3_piece)), (a3_best_c33, .inl (cI, n3_best_c33, .inl f3_best_c33))]) hP hD [0, 1, 2] [] rfl rfl (by decide) (by decide) hk1 hFc hP1 hD1
        generalize H1 = H at hP hS ⊢
        have hP : va_P (dC, dI) vwCl [(a3, .inr (3, [.int v3_count, .ref a3_piece, .ref a3_best_c33])), (a3_piece, .inl (cI, 14, .inl f3_piece)), (a3_best_c33, .inl (cI, n3_best_c33, .inl f3_best_c33))] H := hP
        have hD : va_D A [(a3, .inr (3, [.int v3_count, .ref a3_piece, .ref a3_best_c33])), (a3_piece, .inl (cI, 14, .inl f3_piece)), (a3_best_c33, .inl (cI, n3_best_c33, .inl f3_best_c33))] := hD
        refine W.widen (k := mc) (n := ms) (by omega) (by omega) ?_
        obtain ⟨h9, hw⟩ := hw
        refine va_iast hx hb hK hP hD hS 2 0 rfl rfl h9 dX3_fewestBars_49 (fun H locs hP hD hS => ?_)
        obtain ⟨g10, eg10⟩ : ∃ y : Nat → Int32, y = upd f3_best_c33 y33_3.toNatClampNeg r8 := ⟨_, rfl⟩
        replace hw := hw g10 eg10
        have hP : va_P (dC, dI) vwCl [(a3, .inr (3, [.int v3_count, .ref a3_piece, .ref a3_best_c33])), (a3_piece, .inl (cI, 14, .inl f3_piece)), (a3_best_c33, .inl (cI, n3_best_c33, .inl g10))] H := by rw [eg10]; exact hP
        have hD : va_D A [(a3, .inr (3, [.int v3_count, .ref a3_piece, .ref a3_best_c33])), (a3_piece, .inl (cI, 14, .inl f3_piece)), (a3_best_c33, .inl (cI, n3_best_c33, .inl g10))] := by rw [eg10]; exact hD
        obtain ⟨x11, ex11⟩ : ∃ y : Int32, y = y33_3 + (1 : Int32) := ⟨_, rfl⟩
        replace hw := hw x11 ex11
        refine lv_iinc (v := x11) (lv' := [(3, .int x11), (0, .ref a3), (1, .int y33_1), (2, .int y33_2)]) hx hb dX3_fewestBars_50 hl (k := 3) rfl (by rw [ex11]; rfl) (by decide) rfl (fun ls hl => ?_)
        refine lv_goto (tgt := 33) hx hb dX3_fewestBars_53 (by decide) ?_
        exact ih_33 g10 n3_best_c33 y33_1 y33_2 x11 a3_best_c33 _ _ _ (hP.sub [0, 1, 2] rfl) (hD.sub [0, 1, 2] (by decide) rfl) hS (lv_sub hl [1, 2, 3, 0] rfl) hw
  have k_23 : ∀  (f3_best_c23 : Nat → Int32) (n3_best_c23 : Nat) (y23_1 : Int32) (y23_2 : Int32) (a3_best_c23 : Nat) (H : Heap) (locs : List Loc) (ls : Array Slot), va_P (dC, dI) vwCl [(a3, .inr (3, [.int v3_count, .ref a3_piece, .ref a3_best_c23])), (a3_piece, .inl (cI, 14, .inl f3_piece)), (a3_best_c23, .inl (cI, n3_best_c23, .inl f3_best_c23))] H → va_D A [(a3, .inr (3, [.int v3_count, .ref a3_piece, .ref a3_best_c23])), (a3_piece, .inl (cI, 14, .inl f3_piece)), (a3_best_c23, .inl (cI, n3_best_c23, .inl f3_best_c23))] → va_S A s.heap H locs → lv_has ls 4 [(0, .ref a3), (1, .int y23_1), (2, .int y23_2)] → (wb_X3_fewestBars_23 Q mc ms v3_count f3_piece  f3_best_c23 n3_best_c23 y23_1 y23_2) → W p l e (headSpec wsX3_fewestBars ({ frames := 2, cells := mc, slots := ms, locals := 46 } : Room)).room s m [.ref a3, .int p1].toArray below meth c H locs mc ms (MQ below (va_Qi (fun r (u : (Nat → Int32) × (Nat)) => Q r u.1 u.2) (fun (u : (Nat → Int32) × (Nat)) t => ∃ qb : Nat, va_P (dC, dI) vwCl [(a3, .inr (3, [.int v3_count, .ref a3_piece, .ref qb])), (a3_piece, .inl (cI, 14, .inl f3_piece)), (qb, .inl (cI, u.2, .inl u.1))] t.heap ∧ va_K (dC, dI) vwCl [(cI, .int), (cJ, .long), (cZ, .boolean)] t ∧ va_D A [(a3, .inr (3, [.int v3_count, .ref a3_piece, .ref qb])), (a3_piece, .inl (cI, 14, .inl f3_piece)), (qb, .inl (cI, u.2, .inl u.1))]) A) [.ref a3, .int p1].toArray s mc ms A) (F0 m 23 ls []) := by
    intro f3_best_c23 n3_best_c23 y23_1 y23_2 a3_best_c23 H locs ls hP hD hS hl hw
    unfold wb_X3_fewestBars_23 at hw
    refine lv_aload_n hx hb dX3_fewestBars_23 rfl (lv_at hl 0 rfl) ?_
    refine va_get (D := (dC, dI)) (ci := 3) (v := .ref a3_best_c23) (C := RX3) (T := TX3) (N := 3) hx hb hts inX3_fewestBars_X3 hown hK hP 0 rfl rfl 2 (by decide) lk2 (fun _ h9 => h9) rfl dX3_fewestBars_24 ?_
    refine lv_iconst (v := (0 : Int32)) hx hb dX3_fewestBars_27 (by decide) ?_
    refine lv_ldc (v := (32768 : Int32)) hx hb hown lk3 dX3_fewestBars_28 ?_
    obtain ⟨h3, hw⟩ := hw
    refine va_iast hx hb hK hP hD hS 2 0 rfl rfl h3 dX3_fewestBars_30 (fun H locs hP hD hS => ?_)
    obtain ⟨g4, eg4⟩ : ∃ y : Nat → Int32, y = upd f3_best_c23 (0 : Int32).toNatClampNeg (32768 : Int32) := ⟨_, rfl⟩
    replace hw := hw g4 eg4
    have hP : va_P (dC, dI) vwCl [(a3, .inr (3, [.int v3_count, .ref a3_piece, .ref a3_best_c23])), (a3_piece, .inl (cI, 14, .inl f3_piece)), (a3_best_c23, .inl (cI, n3_best_c23, .inl g4))] H := by rw [eg4]; exact hP
    have hD : va_D A [(a3, .inr (3, [.int v3_count, .ref a3_piece, .ref a3_best_c23])), (a3_piece, .inl (cI, 14, .inl f3_piece)), (a3_best_c23, .inl (cI, n3_best_c23, .inl g4))] := by rw [eg4]; exact hD
    refine lv_iconst (v := (1 : Int32)) hx hb dX3_fewestBars_31 (by decide) ?_
    refine lv_istore_n (lv' := [(3, .int (1 : Int32)), (0, .ref a3), (1, .int y23_1), (2, .int y23_2)]) hx hb dX3_fewestBars_32 rfl hl (by decide) rfl (fun ls hl => ?_)
    obtain ⟨n_33, hw⟩ := hw
    exact k_33 n_33 g4 n3_best_c23 y23_1 y23_2 (1 : Int32) a3_best_c23 _ _ _ (hP.sub [0, 1, 2] rfl) (hD.sub [0, 1, 2] (by decide) rfl) hS (lv_sub hl [1, 2, 3, 0] rfl) hw
  have hl := lv_entry ([.ref a3, .int p1]) (n := 4) (Nat.le_of_ble_eq_true rfl)
  rw [lg_entry_eq]
  generalize (lg_sl ([.ref a3, .int p1]) ++ List.replicate (4 - (lg_sl ([.ref a3, .int p1])).length) Slot.unset).toArray = ls at hl ⊢
  have hl : lv_has ls 4 [(0, .ref a3), (1, .int p1)] := hl
  obtain ⟨H, hHe⟩ : ∃ H, H = s.heap := ⟨_, rfl⟩
  rw [← hHe] at hP
  have hS : va_S A s.heap H [] := by rw [hHe]; exact hS
  rw [← hHe]
  unfold wp_X3_fewestBars at hw
  refine lv_iconst (v := (1 : Int32)) hx hb dX3_fewestBars_0 (by decide) ?_
  refine lv_aload_n hx hb dX3_fewestBars_1 rfl (lv_at hl 0 rfl) ?_
  refine va_get (D := (dC, dI)) (ci := 3) (v := .int v3_count) (C := RX3) (T := TX3) (N := 3) hx hb hts inX3_fewestBars_X3 hown hK hP 0 rfl rfl 0 (by decide) lk1 (fun _ h9 => h9) rfl dX3_fewestBars_2 ?_
  refine lv_ishl hx hb dX3_fewestBars_5 ?_
  refine lv_topi (fun x1 ex1 => ?_)
  replace hw := hw x1 ex1
  refine lv_istore_n (lv' := [(2, .int x1), (0, .ref a3), (1, .int p1)]) hx hb dX3_fewestBars_6 rfl hl (by decide) rfl (fun ls hl => ?_)
  refine lv_aload_n hx hb dX3_fewestBars_7 rfl (lv_at hl 1 rfl) ?_
  refine va_get (D := (dC, dI)) (ci := 3) (v := .ref a3_best) (C := RX3) (T := TX3) (N := 3) hx hb hts inX3_fewestBars_X3 hown hK hP 0 rfl rfl 2 (by decide) lk2 (fun _ h9 => h9) rfl dX3_fewestBars_8 ?_
  refine va_alen (v := (Int32.ofNat n3_best)) hx hb hK hP 2 0 rfl rfl rfl dX3_fewestBars_11 ?_
  refine lv_iload_n hx hb dX3_fewestBars_12 rfl (lv_at hl 0 rfl) ?_
  refine lv_icmp_ge (tgt := 23) hx hb dX3_fewestBars_13 (by decide) (fun c2 => ?_) (fun c2 => ?_)
  · replace hw := hw.1 (c2)
    refine W.widen (k := mc) (n := ms) (by omega) (by omega) ?_
    exact k_23 f3_best n3_best p1 x1 a3_best _ _ _ (hP.sub [0, 1, 2] rfl) (hD.sub [0, 1, 2] (by decide) rfl) hS (lv_sub hl [1, 2, 0] rfl) hw
  · replace hw := hw.2 (c2)
    refine lv_aload_n hx hb dX3_fewestBars_16 rfl (lv_at hl 1 rfl) ?_
    refine lv_iload_n hx hb dX3_fewestBars_17 rfl (lv_at hl 0 rfl) ?_
    obtain ⟨⟨h12a, h12b, h12c, h12d⟩, hw⟩ := hw
    have h12e : x1.toNatClampNeg * componentBytes .int ≤ 536870912 := by rw [show componentBytes .int = 4 from rfl]; omega
    refine va_newa (atype := .int) (ty := .int) (N' := x1.toNatClampNeg) (a0 := (x1.toNatClampNeg, .inl (fun _ => 0))) hx hb lk4 rfl hK hP hD hS hA (fun _ => rfl) h12a rfl h12e (by show 0 + 1 ≤ mc; omega) (by show 0 + _ ≤ ms; omega) dX3_fewestBars_18 (fun q13 cN H hKN hP hD hS => ?_)
    obtain rfl : cI = cN := (wg_cls hKN 3 0 rfl rfl).symm
    have hP : va_P (dC, dI) vwCl [(a3, .inr (3, [.int v3_count, .ref a3_piece, .ref a3_best])), (a3_piece, .inl (cI, 14, .inl f3_piece)), (a3_best, .inl (cI, n3_best, .inl f3_best)), (q13, .inl (cI, x1.toNatClampNeg, .inl (fun _ => (0 : Int32))))] H := hP
    have hD : va_D A [(a3, .inr (3, [.int v3_count, .ref a3_piece, .ref a3_best])), (a3_piece, .inl (cI, 14, .inl f3_piece)), (a3_best, .inl (cI, n3_best, .inl f3_best)), (q13, .inl (cI, x1.toNatClampNeg, .inl (fun _ => (0 : Int32))))] := hD
    refine va_put (D := (dC, dI)) (ci := 3) (v := .ref q13) (ty := .array .int) (C := RX3) (T := TX3) (N := 3) hx hb hts inX3_fewestBars_X3 tyX3 tyX3_ok nmX3 hown hK hP hD hS 0 rfl rfl 2 (by decide) lk2 (fun _ h9 => h9) rfl (by decide +kernel) rfl rfl (Nat.le_of_ble_eq_true rfl) dX3_fewestBars_20 (fun H locs hP hD hS => ?_)
    have hP : va_P (dC, dI) vwCl [(a3, .inr (3, [.int v3_count, .ref a3_piece, .ref q13])), (a3_piece, .inl (cI, 14, .inl f3_piece)), (a3_best, .inl (cI, n3_best, .inl f3_best)), (q13, .inl (cI, x1.toNatClampNeg, .inl (fun _ => (0 : Int32))))] H := hP
    have hD : va_D A [(a3, .inr (3, [.int v3_count, .ref a3_piece, .ref q13])), (a3_piece, .inl (cI, 14, .inl f3_piece)), (a3_best, .inl (cI, n3_best, .inl f3_best)), (q13, .inl (cI, x1.toNatClampNeg, .inl (fun _ => (0 : Int32))))] := hD
    refine W.widen (k := mc) (n := ms) (by omega) (by omega) ?_
    exact k_23 (fun _ => (0 : Int32)) x1.toNatClampNeg p1 x1 q13 _ _ _ (hP.sub [0, 1, 3] rfl) (hD.sub [0, 1, 3] (by decide) rfl) hS (lv_sub hl [1, 2, 0] rfl) hw
