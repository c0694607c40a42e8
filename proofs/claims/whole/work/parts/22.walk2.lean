theorem inX2_insert_X2 : ∀ w ∈ wsX20, w ∈ wsX2_insert := fun _ h => List.mem_cons_of_mem _ (List.mem_append_right _ h)
def wb_X2_insert_20 (Q : (Int32) → (Nat → Int32) → (Nat → Int32) → (Nat → Int64) → (Nat → Int32) → (Nat → Int32) → Prop) (K20 : (Int32) → (Nat → Int32) → (Nat → Int32) → (Nat → Int64) → (Nat → Int32) → (Nat → Int32) → (Int32) → (Int32) → (Int32) → (Int64) → (Int32) → Prop) (v2_count_c20 : Int32) (f2_place_c20 : Nat → Int32) (f2_price_c20 : Nat → Int32) (f2_trackAside_c20 : Nat → Int64) (f2_side_c20 : Nat → Int32) (f2_stands_c20 : Nat → Int32) (y20_1 : Int32) (y20_2 : Int32) (y20_3 : Int32) (y20_4 : Int64) (y20_6 : Int32) : Prop :=
  ((y20_6 ≤ y20_1 → (vp_in y20_1 40 ∧ (∀ g5 : Nat → Int32, g5 = upd f2_place_c20 y20_1.toNatClampNeg y20_2 → (vp_in y20_1 40 ∧ (∀ g7 : Nat → Int32, g7 = upd f2_price_c20 y20_1.toNatClampNeg y20_3 → (vp_in y20_1 40 ∧ (∀ g9 : Nat → Int64, g9 = vp_updL f2_trackAside_c20 y20_1.toNatClampNeg y20_4 → (wp_X2_takeDown (fun m11 m12 => (∀ x13 : Int32, x13 = (v2_count_c20 + (1 : Int32)) → (Q x13 g5 g7 g9 m11 m12))) f2_side_c20 f2_stands_c20 v2_count_c20)))))))) ∧ (¬ y20_6 ≤ y20_1 → (vp_in (y20_6 - (1 : Int32)) 40 ∧ (∀ x15 : Int32, x15 = (f2_place_c20 (y20_6 - (1 : Int32)).toNatClampNeg) → (vp_in y20_6 40 ∧ (∀ g17 : Nat → Int32, g17 = upd f2_place_c20 y20_6.toNatClampNeg x15 → (vp_in (y20_6 - (1 : Int32)) 40 ∧ (∀ x19 : Int32, x19 = (f2_price_c20 (y20_6 - (1 : Int32)).toNatClampNeg) → (vp_in y20_6 40 ∧ (∀ g21 : Nat → Int32, g21 = upd f2_price_c20 y20_6.toNatClampNeg x19 → (vp_in (y20_6 - (1 : Int32)) 40 ∧ (∀ x23 : Int64, x23 = (f2_trackAside_c20 (y20_6 - (1 : Int32)).toNatClampNeg) → (vp_in y20_6 40 ∧ (∀ g25 : Nat → Int64, g25 = vp_updL f2_trackAside_c20 y20_6.toNatClampNeg x23 → (∀ x26 : Int32, x26 = y20_6 + (-1 : Int32) → (K20 v2_count_c20 g17 g21 g25 f2_side_c20 f2_stands_c20 y20_1 y20_2 y20_3 y20_4 x26))))))))))))))))
def wl_X2_insert_20 (Q : (Int32) → (Nat → Int32) → (Nat → Int32) → (Nat → Int64) → (Nat → Int32) → (Nat → Int32) → Prop) : Nat → (Int32) → (Nat → Int32) → (Nat → Int32) → (Nat → Int64) → (Nat → Int32) → (Nat → Int32) → (Int32) → (Int32) → (Int32) → (Int64) → (Int32) → Prop
  | 0, _, _, _, _, _, _, _, _, _, _, _ => False
  | n + 1, v2_count_c20, f2_place_c20, f2_price_c20, f2_trackAside_c20, f2_side_c20, f2_stands_c20, y20_1, y20_2, y20_3, y20_4, y20_6 => wb_X2_insert_20 Q  (wl_X2_insert_20 Q  n) v2_count_c20 f2_place_c20 f2_price_c20 f2_trackAside_c20 f2_side_c20 f2_stands_c20 y20_1 y20_2 y20_3 y20_4 y20_6
def wp_X2_insert (Q : (Int32) → (Nat → Int32) → (Nat → Int32) → (Nat → Int64) → (Nat → Int32) → (Nat → Int32) → Prop) (v2_count : Int32) (f2_place : Nat → Int32) (f2_price : Nat → Int32) (f2_trackAside : Nat → Int64) (f2_side : Nat → Int32) (f2_stands : Nat → Int32) (p1 : Int32) (p2 : Int32) (p3 : Int32) (p4 : Int64) : Prop :=
  (((40 : Int32) ≤ v2_count → (Q v2_count f2_place f2_price f2_trackAside f2_side f2_stands)) ∧ (¬ (40 : Int32) ≤ v2_count → ((0 ≤ p1 → (∃ n : Nat, wl_X2_insert_20 Q  n v2_count f2_place f2_price f2_trackAside f2_side f2_stands p1 p2 p3 p4 v2_count)) ∧ (¬ 0 ≤ p1 → (Q v2_count f2_place f2_price f2_trackAside f2_side f2_stands)))))
set_option maxHeartbeats 4000000 in
set_option maxRecDepth 100000 in
theorem c_X2_insert (l : Launch) (dC : Nat → ClassId) (dI : Nat → Nat → Nat) (cI cJ cZ : ClassId) (a2 : Nat) (a2_place : Nat) (a2_price : Nat) (a2_trackAside : Nat) (a2_side : Nat) (a2_stands : Nat) (a2_mastPeg : Nat) (sz : Nat) (v2_count : Int32) (v2_masts : Int32) (f2_place : Nat → Int32) (f2_price : Nat → Int32) (f2_trackAside : Nat → Int64) (f2_side : Nat → Int32) (f2_stands : Nat → Int32) (p1 : Int32) (p2 : Int32) (p3 : Int32) (p4 : Int64) (Q : (Int32) → (Nat → Int32) → (Nat → Int32) → (Nat → Int64) → (Nat → Int32) → (Nat → Int32) → Prop) (hw : wp_X2_insert Q v2_count f2_place f2_price f2_trackAside f2_side f2_stands p1 p2 p3 p4) : Met l yX2_insert wsX2_insert ({ frames := 1, cells := 0, slots := 0, locals := 21 } : Room) (va_Pc [.ref a2, .int p1, .int p2, .int p3, .long p4] (fun U => U.heap.size = sz ∧ va_P (dC, dI) vwCl [(a2, .inr (2, [.int v2_count, .int v2_masts, .ref a2_place, .ref a2_price, .ref a2_trackAside, .ref a2_side, .ref a2_stands, .ref a2_mastPeg])), (a2_place, .inl (cI, 40, .inl f2_place)), (a2_price, .inl (cI, 40, .inl f2_price)), (a2_trackAside, .inl (cJ, 40, .inr (.inl f2_trackAside))), (a2_side, .inl (cI, 40, .inl f2_side)), (a2_stands, .inl (cZ, 40, .inl f2_stands))] U.heap ∧ va_K (dC, dI) vwCl [(cI, .int), (cJ, .long), (cZ, .boolean)] U ∧ va_D (fun _ => True) [(a2, .inr (2, [.int v2_count, .int v2_masts, .ref a2_place, .ref a2_price, .ref a2_trackAside, .ref a2_side, .ref a2_stands, .ref a2_mastPeg])), (a2_place, .inl (cI, 40, .inl f2_place)), (a2_price, .inl (cI, 40, .inl f2_price)), (a2_trackAside, .inl (cJ, 40, .inr (.inl f2_trackAside))), (a2_side, .inl (cI, 40, .inl f2_side)), (a2_stands, .inl (cZ, 40, .inl f2_stands))])) (va_Qv (fun (u : (Int32) × (Nat → Int32) × (Nat → Int32) × (Nat → Int64) × (Nat → Int32) × (Nat → Int32)) => Q u.1 u.2.1 u.2.2.1 u.2.2.2.1 u.2.2.2.2.1 u.2.2.2.2.2) (fun (u : (Int32) × (Nat → Int32) × (Nat → Int32) × (Nat → Int64) × (Nat → Int32) × (Nat → Int32)) t => va_P (dC, dI) vwCl [(a2, .inr (2, [.int u.1, .int v2_masts, .ref a2_place, .ref a2_price, .ref a2_trackAside, .ref a2_side, .ref a2_stands, .ref a2_mastPeg])), (a2_place, .inl (cI, 40, .inl u.2.1)), (a2_price, .inl (cI, 40, .inl u.2.2.1)), (a2_trackAside, .inl (cJ, 40, .inr (.inl u.2.2.2.1))), (a2_side, .inl (cI, 40, .inl u.2.2.2.2.1)), (a2_stands, .inl (cZ, 40, .inl u.2.2.2.2.2))] t.heap ∧ va_K (dC, dI) vwCl [(cI, .int), (cJ, .long), (cZ, .boolean)] t ∧ va_D (va_A [(a2, .inr (2, [.int v2_count, .int v2_masts, .ref a2_place, .ref a2_price, .ref a2_trackAside, .ref a2_side, .ref a2_stands, .ref a2_mastPeg])), (a2_place, .inl (cI, 40, .inl f2_place)), (a2_price, .inl (cI, 40, .inl f2_price)), (a2_trackAside, .inl (cJ, 40, .inr (.inl f2_trackAside))), (a2_side, .inl (cI, 40, .inl f2_side)), (a2_stands, .inl (cZ, 40, .inl f2_stands))] sz) [(a2, .inr (2, [.int u.1, .int v2_masts, .ref a2_place, .ref a2_price, .ref a2_trackAside, .ref a2_side, .ref a2_stands, .ref a2_mastPeg])), (a2_place, .inl (cI, 40, .inl u.2.1)), (a2_price, .inl (cI, 40, .inl u.2.2.1)), (a2_trackAside, .inl (cJ, 40, .inr (.inl u.2.2.2.1))), (a2_side, .inl (cI, 40, .inl u.2.2.2.2.1)), (a2_stands, .inl (cZ, 40, .inl u.2.2.2.2.2))]) (va_A [(a2, .inr (2, [.int v2_count, .int v2_masts, .ref a2_place, .ref a2_price, .ref a2_trackAside, .ref a2_side, .ref a2_stands, .ref a2_mastPeg])), (a2_place, .inl (cI, 40, .inl f2_place)), (a2_price, .inl (cI, 40, .inl f2_price)), (a2_trackAside, .inl (cJ, 40, .inr (.inl f2_trackAside))), (a2_side, .inl (cI, 40, .inl f2_side)), (a2_stands, .inl (cZ, 40, .inl f2_stands))] sz)) 0 0 (va_A [(a2, .inr (2, [.int v2_count, .int v2_masts, .ref a2_place, .ref a2_price, .ref a2_trackAside, .ref a2_side, .ref a2_stands, .ref a2_mastPeg])), (a2_place, .inl (cI, 40, .inl f2_place)), (a2_price, .inl (cI, 40, .inl f2_price)), (a2_trackAside, .inl (cJ, 40, .inr (.inl f2_trackAside))), (a2_side, .inl (cI, 40, .inl f2_side)), (a2_stands, .inl (cZ, 40, .inl f2_stands))] sz) := by
  refine Met.ofW (cc := cX2_insert) (maxL := 7) (ret := none) (by decide) rfl ?_
  intro p e s m args below meth c s₁ B hml hv
  obtain ⟨rfl, hsz, hP, hK, hD0⟩ := hv
  have hx := B.exec
  have hb := B.bytes
  have hr := B.returns
  have hts := atoms_spec (ws := wsX2_insert) B.pre
  have hown : s.vm.findClass RX2 = some m.cls := findClass_of_methodNamed B.named
  have hlocks := B.notSynchronized
  subst hsz
  have hD := hD0.self (sz := s.heap.size)
  generalize hAe : va_A [(a2, .inr (2, [.int v2_count, .int v2_masts, .ref a2_place, .ref a2_price, .ref a2_trackAside, .ref a2_side, .ref a2_stands, .ref a2_mastPeg])), (a2_place, .inl (cI, 40, .inl f2_place)), (a2_price, .inl (cI, 40, .inl f2_price)), (a2_trackAside, .inl (cJ, 40, .inr (.inl f2_trackAside))), (a2_side, .inl (cI, 40, .inl f2_side)), (a2_stands, .inl (cZ, 40, .inl f2_stands))] s.heap.size = A at hD ⊢
  have hA : ∀ q : Nat, s.heap.size ≤ q → A q := fun q h => by rw [← hAe]; exact Or.inr h
  have hS : va_S A s.heap s.heap [] := va_S.rf
  have hP : va_P (dC, dI) vwCl [(a2, .inr (2, [.int v2_count, .int v2_masts, .ref a2_place, .ref a2_price, .ref a2_trackAside, .ref a2_side, .ref a2_stands, .ref a2_mastPeg])), (a2_place, .inl (cI, 40, .inl f2_place)), (a2_price, .inl (cI, 40, .inl f2_price)), (a2_trackAside, .inl (cJ, 40, .inr (.inl f2_trackAside))), (a2_side, .inl (cI, 40, .inl f2_side)), (a2_stands, .inl (cZ, 40, .inl f2_stands))] s.heap := hP
  have lk1 := hts (.fieldLink RX2 32 "WireRow$PegRow" "count" "I") (by decide +kernel)
  have lk2 := hts (.fieldLink RX2 9 "WireRow$PegRow" "place" "[I") (by decide +kernel)
  have lk3 := hts (.fieldLink RX2 15 "WireRow$PegRow" "price" "[I") (by decide +kernel)
  have lk4 := hts (.fieldLink RX2 18 "WireRow$PegRow" "trackAside" "[J") (by decide +kernel)
  have k_20 : ∀ (n_20 : Nat) (v2_count_c20 : Int32) (f2_place_c20 : Nat → Int32) (f2_price_c20 : Nat → Int32) (f2_trackAside_c20 : Nat → Int64) (f2_side_c20 : Nat → Int32) (f2_stands_c20 : Nat → Int32) (y20_1 : Int32) (y20_2 : Int32) (y20_3 : Int32) (y20_4 : Int64) (y20_6 : Int32) (H : Heap) (locs : List Loc) (ls : Array Slot), va_P (dC, dI) vwCl [(a2, .inr (2, [.int v2_count_c20, .int v2_masts, .ref a2_place, .ref a2_price, .ref a2_trackAside, .ref a2_side, .ref a2_stands, .ref a2_mastPeg])), (a2_place, .inl (cI, 40, .inl f2_place_c20)), (a2_price, .inl (cI, 40, .inl f2_price_c20)), (a2_trackAside, .inl (cJ, 40, .inr (.inl f2_trackAside_c20))), (a2_side, .inl (cI, 40, .inl f2_side_c20)), (a2_stands, .inl (cZ, 40, .inl f2_stands_c20))] H → va_D A [(a2, .inr (2, [.int v2_count_c20, .int v2_masts, .ref a2_place, .ref a2_price, .ref a2_trackAside, .ref a2_side, .ref a2_stands, .ref a2_mastPeg])), (a2_place, .inl (cI, 40, .inl f2_place_c20)), (a2_price, .inl (cI, 40, .inl f2_price_c20)), (a2_trackAside, .inl (cJ, 40, .inr (.inl f2_trackAside_c20))), (a2_side, .inl (cI, 40, .inl f2_side_c20)), (a2_stands, .inl (cZ, 40, .inl f2_stands_c20))] → va_S A s.heap H locs → lv_has ls 7 [(0, .ref a2), (1, .int y20_1), (2, .int y20_2), (3, .int y20_3), (4, .long y20_4), (6, .int y20_6)] → (wl_X2_insert_20 Q  n_20 v2_count_c20 f2_place_c20 f2_price_c20 f2_trackAside_c20 f2_side_c20 f2_stands_c20 y20_1 y20_2 y20_3 y20_4 y20_6) → W p l e (headSpec wsX2_insert ({ frames := 1, cells := 0, slots := 0, locals := 21 } : Room)).room s m [.ref a2, .int p1, .int p2, .int p3, .long p4].toArray below meth c H locs 0 0 (MQ below (va_Qv (fun (u : (Int32) × (Nat → Int32) × (Nat → Int32) × (Nat → Int64) × (Nat → Int32) × (Nat → Int32)) => Q u.1 u.2.1 u.2.2.1 u.2.2.2.1 u.2.2.2.2.1 u.2.2.2.2.2) (fun (u : (Int32) × (Nat → Int32) × (Nat → Int32) × (Nat → Int64) × (Nat → Int32) × (Nat → Int32)) t => va_P (dC, dI) vwCl [(a2, .inr (2, [.int u.1, .int v2_masts, .ref a2_place, .ref a2_price, .ref a2_trackAside, .ref a2_side, .ref a2_stands, .ref a2_mastPeg])), (a2_place, .inl (cI, 40, .inl u.2.1)), (a2_price, .inl (cI, 40, .inl u.2.2.1)), (a2_trackAside, .inl (cJ, 40, .inr (.inl u.2.2.2.1))), (a2_side, .inl (cI, 40, .inl u.2.2.2.2.1)), (a2_stands, .inl (cZ, 40, .inl u.2.2.2.2.2))] t.heap ∧ va_K (dC, dI) vwCl [(cI, .int), (cJ, .long), (cZ, .boolean)] t ∧ va_D A [(a2, .inr (2, [.int u.1, .int v2_masts, .ref a2_place, .ref a2_price, .ref a2_trackAside, .ref a2_side, .ref a2_stands, .ref a2_mastPeg])), (a2_place, .inl (cI, 40, .inl u.2.1)), (a2_price, .inl (cI, 40, .inl u.2.2.1)), (a2_trackAside, .inl (cJ, 40, .inr (.inl u.2.2.2.1))), (a2_side, .inl (cI, 40, .inl u.2.2.2.2.1)), (a2_stands, .inl (cZ, 40, .inl u.2.2.2.2.2))]) A) [.ref a2, .int p1, .int p2, .int p3, .long p4].toArray s 0 0 A) (F0 m 20 ls []) := by
    intro n_20
    induction n_20 with
    | zero =>
      intro v2_count_c20 f2_place_c20 f2_price_c20 f2_trackAside_c20 f2_side_c20 f2_stands_c20 y20_1 y20_2 y20_3 y20_4 y20_6 H locs ls hP hD hS hl hw
      exact False.elim hw
    | succ n_20 ih_20 =>
      intro v2_count_c20 f2_place_c20 f2_price_c20 f2_trackAside_c20 f2_side_c20 f2_stands_c20 y20_1 y20_2 y20_3 y20_4 y20_6 H locs ls hP hD hS hl hw
      replace hw : wb_X2_insert_20 Q  (wl_X2_insert_20 Q  n_20) v2_count_c20 f2_place_c20 f2_price_c20 f2_trackAside_c20 f2_side_c20 f2_stands_c20 y20_1 y20_2 y20_3 y20_4 y20_6 := hw
      unfold wb_X2_insert_20 at hw
      refine lv_iload hx hb dX2_insert_20 (lv_at hl 5 rfl) ?_
      refine lv_iload_n hx hb dX2_insert_22 rfl (lv_at hl 1 rfl) ?_
      refine lv_icmp_le (tgt := 80) hx hb dX2_insert_23 (by decide) (fun c3 => ?_) (fun c3 => ?_)
      · replace hw := hw.1 (c3)
        refine lv_aload_n hx hb dX2_insert_80 rfl (lv_at hl 0 rfl) ?_
        refine va_get (D := (dC, dI)) (ci := 2) (v := .ref a2_place) (C := RX2) (T := TX2) (N := 8) hx hb hts inX2_insert_X2 hown hK hP 0 rfl rfl 2 (by decide) lk2 (fun _ h9 => h9) rfl dX2_insert_81 ?_
        refine lv_iload_n hx hb dX2_insert_84 rfl (lv_at hl 1 rfl) ?_
        refine lv_iload_n hx hb dX2_insert_85 rfl (lv_at hl 2 rfl) ?_
        obtain ⟨h4, hw⟩ := hw
        refine va_iast hx hb hK hP hD hS 1 0 rfl rfl h4 dX2_insert_86 (fun H locs hP hD hS => ?_)
        obtain ⟨g5, eg5⟩ : ∃ y : Nat → Int32, y = upd f2_place_c20 y20_1.toNatClampNeg y20_2 := ⟨_, rfl⟩
        replace hw := hw g5 eg5
        have hP : va_P (dC, dI) vwCl [(a2, .inr (2, [.int v2_count_c20, .int v2_masts, .ref a2_place, .ref a2_price, .ref a2_trackAside, .ref a2_side, .ref a2_stands, .ref a2_mastPeg])), (a2_place, .inl (cI, 40, .inl g5)), (a2_price, .inl (cI, 40, .inl f2_price_c20)), (a2_trackAside, .inl (cJ, 40, .inr (.inl f2_trackAside_c20))), (a2_side, .inl (cI, 40, .inl f2_side_c20)), (a2_stands, .inl (cZ, 40, .inl f2_stands_c20))] H := by rw [eg5]; exact hP
        have hD : va_D A [(a2, .inr (2, [.int v2_count_c20, .int v2_masts, .ref a2_place, .ref a2_price, .ref a2_trackAside, .ref a2_side, .ref a2_stands, .ref a2_mastPeg])), (a2_place, .inl (cI, 40, .inl g5)), (a2_price, .inl (cI, 40, .inl f2_price_c20)), (a2_trackAside, .inl (cJ, 40, .inr (.inl f2_trackAside_c20))), (a2_side, .inl (cI, 40, .inl f2_side_c20)), (a2_stands, .inl (cZ, 40, .inl f2_stands_c20))] := by rw [eg5]; exact hD
        refine lv_aload_n hx hb dX2_insert_87 rfl (lv_at hl 0 rfl) ?_
        refine va_get (D := (dC, dI)) (ci := 2) (v := .ref a2_price) (C := RX2) (T := TX2) (N := 8) hx hb hts inX2_insert_X2 hown hK hP 0 rfl rfl 3 (by decide) lk3 (fun _ h9 => h9) rfl dX2_insert_88 ?_
        refine lv_iload_n hx hb dX2_insert_91 rfl (lv_at hl 1 rfl) ?_
        refine lv_iload_n hx hb dX2_insert_92 rfl (lv_at hl 3 rfl) ?_
        obtain ⟨h6, hw⟩ := hw
        refine va_iast hx hb hK hP hD hS 2 0 rfl rfl h6 dX2_insert_93 (fun H locs hP hD hS => ?_)
        obtain ⟨g7, eg7⟩ : ∃ y : Nat → Int32, y = upd f2_price_c20 y20_1.toNatClampNeg y20_3 := ⟨_, rfl⟩
        replace hw := hw g7 eg7
        have hP : va_P (dC, dI) vwCl [(a2, .inr (2, [.int v2_count_c20, .int v2_masts, .ref a2_place, .ref a2_price, .ref a2_trackAside, .ref a2_side, .ref a2_stands, .ref a2_mastPeg])), (a2_place, .inl (cI, 40, .inl g5)), (a2_price, .inl (cI, 40, .inl g7)), (a2_trackAside, .inl (cJ, 40, .inr (.inl f2_trackAside_c20))), (a2_side, .inl (cI, 40, .inl f2_side_c20)), (a2_stands, .inl (cZ, 40, .inl f2_stands_c20))] H := by rw [eg7]; exact hP
        have hD : va_D A [(a2, .inr (2, [.int v2_count_c20, .int v2_masts, .ref a2_place, .ref a2_price, .ref a2_trackAside, .ref a2_side, .ref a2_stands, .ref a2_mastPeg])), (a2_place, .inl (cI, 40, .inl g5)), (a2_price, .inl (cI, 40, .inl g7)), (a2_trackAside, .inl (cJ, 40, .inr (.inl f2_trackAside_c20))), (a2_side, .inl (cI, 40, .inl f2_side_c20)), (a2_stands, .inl (cZ, 40, .inl f2_stands_c20))] := by rw [eg7]; exact hD
        refine lv_aload_n hx hb dX2_insert_94 rfl (lv_at hl 0 rfl) ?_
        refine va_get (D := (dC, dI)) (ci := 2) (v := .ref a2_trackAside) (C := RX2) (T := TX2) (N := 8) hx hb hts inX2_insert_X2 hown hK hP 0 rfl rfl 4 (by decide) lk4 (fun _ h9 => h9) rfl dX2_insert_95 ?_
        refine lv_iload_n hx hb dX2_insert_98 rfl (lv_at hl 1 rfl) ?_
        refine lv_lload hx hb dX2_insert_99 (lv_at hl 4 rfl) ?_
        obtain ⟨h8, hw⟩ := hw
        refine va_last hx hb hK hP hD hS 3 1 rfl rfl h8 dX2_insert_101 (fun H locs hP hD hS => ?_)
        obtain ⟨g9, eg9⟩ : ∃ y : Nat → Int64, y = vp_updL f2_trackAside_c20 y20_1.toNatClampNeg y20_4 := ⟨_, rfl⟩
        replace hw := hw g9 eg9
        have hP : va_P (dC, dI) vwCl [(a2, .inr (2, [.int v2_count_c20, .int v2_masts, .ref a2_place, .ref a2_price, .ref a2_trackAside, .ref a2_side, .ref a2_stands, .ref a2_mastPeg])), (a2_place, .inl (cI, 40, .inl g5)), (a2_price, .inl (cI, 40, .inl g7)), (a2_trackAside, .inl (cJ, 40, .inr (.inl g9))), (a2_side, .inl (cI, 40, .inl f2_side_c20)), (a2_stands, .inl (cZ, 40, .inl f2_stands_c20))] H := by rw [eg9]; exact hP
        have hD : va_D A [(a2, .inr (2, [.int v2_count_c20, .int v2_masts, .ref a2_place, .ref a2_price, .ref a2_trackAside, .ref a2_side, .ref a2_stands, .ref a2_mastPeg])), (a2_place, .inl (cI, 40, .inl g5)), (a2_price, .inl (cI, 40, .inl g7)), (a2_trackAside, .inl (cJ, 40, .inr (.inl g9))), (a2_side, .inl (cI, 40, .inl f2_side_c20)), (a2_stands, .inl (cZ, 40, .inl f2_stands_c20))] := by rw [eg9]; exact hD
        refine lv_aload_n hx hb dX2_insert_102 rfl (lv_at hl 0 rfl) ?_
        refine lv_aload_n hx hb dX2_insert_103 rfl (lv_at hl 0 rfl) ?_
        refine va_get (D := (dC, dI)) (ci := 2) (v := .int v2_count_c20) (C := RX2) (T := TX2) (N := 8) hx hb hts inX2_insert_X2 hown hK hP 0 rfl rfl 0 (by decide) lk1 (fun _ h9 => h9) rfl dX2_insert_104 ?_
        have hPc := hP.sub (ws' := [(a2, .inr (2, [.int v2_count_c20, .int v2_masts, .ref a2_place, .ref a2_price, .ref a2_trackAside, .ref a2_side, .ref a2_stands, .ref a2_mastPeg])), (a2_side, .inl (cI, 40, .inl f2_side_c20)), (a2_stands, .inl (cZ, 40, .inl f2_stands_c20))]) [0, 4, 5] rfl
        have hDc := hD.sub (ws' := [(a2, .inr (2, [.int v2_count_c20, .int v2_masts, .ref a2_place, .ref a2_price, .ref a2_trackAside, .ref a2_side, .ref a2_stands, .ref a2_mastPeg])), (a2_side, .inl (cI, 40, .inl f2_side_c20)), (a2_stands, .inl (cZ, 40, .inl f2_stands_c20))]) [0, 4, 5] (by decide) rfl
        have hFc := va_free (wc := [(a2, .inr (2, [.int v2_count_c20, .int v2_masts, .ref a2_place, .ref a2_price, .ref a2_trackAside, .ref a2_side, .ref a2_stands, .ref a2_mastPeg])), (a2_side, .inl (cI, 40, .inl f2_side_c20)), (a2_stands, .inl (cZ, 40, .inl f2_stands_c20))]) hD hS hA [0, 4, 5] rfl
        refine va_callv (va_runV (As := [.int v2_count_c20]) (rest := []) ⟨hx, hb, hml, hown, hts⟩ (c_X2_takeDown l dC dI cI cJ cZ a2 a2_place a2_price a2_trackAside a2_side a2_stands a2_mastPeg H.size v2_count_c20 v2_masts f2_side_c20 f2_stands_c20 v2_count_c20 _ hw) (cwV 1 hts gX2_insert_X2_takeDown rfl rfl rfl (by decide +kernel) ⟨Nat.le_of_ble_eq_true rfl, Nat.le_of_ble_eq_true rfl⟩) ⟨fun a U g mk q => by obtain ⟨q0, q1, qP, qK, qD⟩ := q; exact ⟨q0, q1, qP, va_K.moved (u := U) (U := U.calling g mk a) (Vm.Alike.refl U.vm) qK, qD⟩, va_recv hK hP (ci := 2) (q0 := 0) rfl rfl, fun U hU hW => ⟨rfl, by rw [hU], by rw [hU]; exact hPc, va_K.moved hW.alike hK, hDc.weaken (fun _ _ _ _ => trivial)⟩⟩ rfl rfl hl.1 rfl (lv_room (Nat.le_of_ble_eq_true rfl)) dX2_insert_107 ⟨(Nat.zero_le _), (Nat.zero_le _)⟩) hS (fun q _ h => hFc q h) hFc (fun u t H1 locs ht hvm hw hB hz1 hk1 hS => ?_)
        obtain ⟨m11, m12⟩ := u
        obtain ⟨hP1, -, hD1⟩ := hB
        try dsimp only at hw
        rw [ht] at hP1
        obtain ⟨hP, hD⟩ := va_join (wr := [(a2_place, .inl (cI, 40, .inl g5)), (a2_price, .inl (cI, 40, .inl g7)), (a2_trackAside, .inl (cJ, 40, .inr (.inl g9)))]) (w1 := [(a2, .inr (2, [.int v2_count_c20, .int v2_masts, .ref a2_place, .ref a2_price, .ref a2_trackAside, .ref a2_side, .ref a2_stands, .ref a2_mastPeg])), (a2_side, .inl (cI, 40, .inl m11)), (a2_stands, .inl (cZ, 40, .inl m12))]) hP hD [0, 4, 5] [1, 2, 3] rfl rfl (by decide) (by decide) hk1 hFc hP1 hD1
        generalize H1 = H at hP hS ⊢
        have hP : va_P (dC, dI) vwCl [(a2_place, .inl (cI, 40, .inl g5)), (a2_price, .inl (cI, 40, .inl g7)), (a2_trackAside, .inl (cJ, 40, .inr (.inl g9))), (a2, .inr (2, [.int v2_count_c20, .int v2_masts, .ref a2_place, .ref a2_price, .ref a2_trackAside, .ref a2_side, .ref a2_stands, .ref a2_mastPeg])), (a2_side, .inl (cI, 40, .inl m11)), (a2_stands, .inl (cZ, 40, .inl m12))] H := hP
        have hD : va_D A [(a2_place, .inl (cI, 40, .inl g5)), (a2_price, .inl (cI, 40, .inl g7)), (a2_trackAside, .inl (cJ, 40, .inr (.inl g9))), (a2, .inr (2, [.int v2_count_c20, .int v2_masts, .ref a2_place, .ref a2_price, .ref a2_trackAside, .ref a2_side, .ref a2_stands, .ref a2_mastPeg])), (a2_side, .inl (cI, 40, .inl m11)), (a2_stands, .inl (cZ, 40, .inl m12))] := hD
        refine lv_aload_n hx hb dX2_insert_110 rfl (lv_at hl 0 rfl) ?_
        refine lv_dup hx hb dX2_insert_111 rfl ?_
        refine va_get (D := (dC, dI)) (ci := 2) (v := .int v2_count_c20) (C := RX2) (T := TX2) (N := 8) hx hb hts inX2_insert_X2 hown hK hP 3 rfl rfl 0 (by decide) lk1 (fun _ h9 => h9) rfl dX2_insert_112 ?_
        refine lv_iconst (v := (1 : Int32)) hx hb dX2_insert_115 (by decide) ?_
        refine lv_iadd hx hb dX2_insert_116 ?_
        refine lv_topi (fun x13 ex13 => ?_)
        replace hw := hw x13 ex13
        refine va_put (D := (dC, dI)) (ci := 2) (v := .int x13) (ty := .int) (C := RX2) (T := TX2) (N := 8) hx hb hts inX2_insert_X2 tyX2 tyX2_ok nmX2 hown hK hP hD hS 3 rfl rfl 0 (by decide) lk1 (fun _ h9 => h9) rfl (by decide +kernel) rfl rfl (Nat.le_of_ble_eq_true rfl) dX2_insert_117 (fun H locs hP hD hS => ?_)
        have hP : va_P (dC, dI) vwCl [(a2_place, .inl (cI, 40, .inl g5)), (a2_price, .inl (cI, 40, .inl g7)), (a2_trackAside, .inl (cJ, 40, .inr (.inl g9))), (a2, .inr (2, [.int x13, .int v2_masts, .ref a2_place, .ref a2_price, .ref a2_trackAside, .ref a2_side, .ref a2_stands, .ref a2_mastPeg])), (a2_side, .inl (cI, 40, .inl m11)), (a2_stands, .inl (cZ, 40, .inl m12))] H := hP
        have hD : va_D A [(a2_place, .inl (cI, 40, .inl g5)), (a2_price, .inl (cI, 40, .inl g7)), (a2_trackAside, .inl (cJ, 40, .inr (.inl g9))), (a2, .inr (2, [.int x13, .int v2_masts, .ref a2_place, .ref a2_price, .ref a2_trackAside, .ref a2_side, .ref a2_stands, .ref a2_mastPeg])), (a2_side, .inl (cI, 40, .inl m11)), (a2_stands, .inl (cZ, 40, .inl m12))] := hD
        have hP9 := hP.sub (ws' := [(a2, .inr (2, [.int x13, .int v2_masts, .ref a2_place, .ref a2_price, .ref a2_trackAside, .ref a2_side, .ref a2_stands, .ref a2_mastPeg])), (a2_place, .inl (cI, 40, .inl g5)), (a2_price, .inl (cI, 40, .inl g7)), (a2_trackAside, .inl (cJ, 40, .inr (.inl g9))), (a2_side, .inl (cI, 40, .inl m11)), (a2_stands, .inl (cZ, 40, .inl m12))]) [3, 0, 1, 2, 4, 5] rfl
        have hD9 := hD.sub (ws' := [(a2, .inr (2, [.int x13, .int v2_masts, .ref a2_place, .ref a2_price, .ref a2_trackAside, .ref a2_side, .ref a2_stands, .ref a2_mastPeg])), (a2_place, .inl (cI, 40, .inl g5)), (a2_price, .inl (cI, 40, .inl g7)), (a2_trackAside, .inl (cJ, 40, .inr (.inl g9))), (a2_side, .inl (cI, 40, .inl m11)), (a2_stands, .inl (cZ, 40, .inl m12))]) [3, 0, 1, 2, 4, 5] (by decide) rfl
        exact W.vret hx hb hr (fun t ht hW => ⟨⟨(x13, g5, g7, g9, m11, m12), rfl, hw, by rw [ht]; exact hP9, va_K.moved hW.alike hK, hD9⟩, hS.F ht⟩) hS.2.2 dX2_insert_120
      · replace hw := hw.2 (c3)
        refine lv_aload_n hx hb dX2_insert_26 rfl (lv_at hl 0 rfl) ?_
        refine va_get (D := (dC, dI)) (ci := 2) (v := .ref a2_place) (C := RX2) (T := TX2) (N := 8) hx hb hts inX2_insert_X2 hown hK hP 0 rfl rfl 2 (by decide) lk2 (fun _ h9 => h9) rfl dX2_insert_27 ?_
        refine lv_iload hx hb dX2_insert_30 (lv_at hl 5 rfl) ?_
        refine lv_aload_n hx hb dX2_insert_32 rfl (lv_at hl 0 rfl) ?_
        refine va_get (D := (dC, dI)) (ci := 2) (v := .ref a2_place) (C := RX2) (T := TX2) (N := 8) hx hb hts inX2_insert_X2 hown hK hP 0 rfl rfl 2 (by decide) lk2 (fun _ h9 => h9) rfl dX2_insert_33 ?_
        refine lv_iload hx hb dX2_insert_36 (lv_at hl 5 rfl) ?_
        refine lv_iconst (v := (1 : Int32)) hx hb dX2_insert_38 (by decide) ?_
        refine lv_isub hx hb dX2_insert_39 ?_
        obtain ⟨h14, hw⟩ := hw
        refine va_iald hx hb hK hP 1 0 rfl rfl h14 dX2_insert_40 ?_
        refine lv_topi (fun x15 ex15 => ?_)
        replace hw := hw x15 ex15
        obtain ⟨h16, hw⟩ := hw
        refine va_iast hx hb hK hP hD hS 1 0 rfl rfl h16 dX2_insert_41 (fun H locs hP hD hS => ?_)
        obtain ⟨g17, eg17⟩ : ∃ y : Nat → Int32, y = upd f2_place_c20 y20_6.toNatClampNeg x15 := ⟨_, rfl⟩
        replace hw := hw g17 eg17
        have hP : va_P (dC, dI) vwCl [(a2, .inr (2, [.int v2_count_c20, .int v2_masts, .ref a2_place, .ref a2_price, .ref a2_trackAside, .ref a2_side, .ref a2_stands, .ref a2_mastPeg])), (a2_place, .inl (cI, 40, .inl g17)), (a2_price, .inl (cI, 40, .inl f2_price_c20)), (a2_trackAside, .inl (cJ, 40, .inr (.inl f2_trackAside_c20))), (a2_side, .inl (cI, 40, .inl f2_side_c20)), (a2_stands, .inl (cZ, 40, .inl f2_stands_c20))] H := by rw [eg17]; exact hP
        have hD : va_D A [(a2, .inr (2, [.int v2_count_c20, .int v2_masts, .ref a2_place, .ref a2_price, .ref a2_trackAside, .ref a2_side, .ref a2_stands, .ref a2_mastPeg])), (a2_place, .inl (cI, 40, .inl g17)), (a2_price, .inl (cI, 40, .inl f2_price_c20)), (a2_trackAside, .inl (cJ, 40, .inr (.inl f2_trackAside_c20))), (a2_side, .inl (cI, 40, .inl f2_side_c20)), (a2_stands, .inl (cZ, 40, .inl f2_stands_c20))] := by rw [eg17]; exact hD
        refine lv_aload_n hx hb dX2_insert_42 rfl (lv_at hl 0 rfl) ?_
        refine va_get (D := (dC, dI)) (ci := 2) (v := .ref a2_price) (C := RX2) (T := TX2) (N := 8) hx hb hts inX2_insert_X2 hown hK hP 0 rfl rfl 3 (by decide) lk3 (fun _ h9 => h9) rfl dX2_insert_43 ?_
        refine lv_iload hx hb dX2_insert_46 (lv_at hl 5 rfl) ?_
        refine lv_aload_n hx hb dX2_insert_48 rfl (lv_at hl 0 rfl) ?_
        refine va_get (D := (dC, dI)) (ci := 2) (v := .ref a2_price) (C := RX2) (T := TX2) (N := 8) hx hb hts inX2_insert_X2 hown hK hP 0 rfl rfl 3 (by decide) lk3 (fun _ h9 => h9) rfl dX2_insert_49 ?_
        refine lv_iload hx hb dX2_insert_52 (lv_at hl 5 rfl) ?_
        refine lv_iconst (v := (1 : Int32)) hx hb dX2_insert_54 (by decide) ?_
        refine lv_isub hx hb dX2_insert_55 ?_
        obtain ⟨h18, hw⟩ := hw
        refine va_iald hx hb hK hP 2 0 rfl rfl h18 dX2_insert_56 ?_
        refine lv_topi (fun x19 ex19 => ?_)
        replace hw := hw x19 ex19
        obtain ⟨h20, hw⟩ := hw
        refine va_iast hx hb hK hP hD hS 2 0 rfl rfl h20 dX2_insert_57 (fun H locs hP hD hS => ?_)
        obtain ⟨g21, eg21⟩ : ∃ y : Nat → Int32, y = upd f2_price_c20 y20_6.toNatClampNeg x19 := ⟨_, rfl⟩
        replace hw := hw g21 eg21
        have hP : va_P (dC, dI) vwCl [(a2, .inr (2, [.int v2_count_c20, .int v2_masts, .ref a2_place, .ref a2_price, .ref a2_trackAside, .ref a2_side, .ref a2_stands, .ref a2_mastPeg])), (a2_place, .inl (cI, 40, .inl g17)), (a2_price, .inl (cI, 40, .inl g21)), (a2_trackAside, .inl (cJ, 40, .inr (.inl f2_trackAside_c20))), (a2_side, .inl (cI, 40, .inl f2_side_c20)), (a2_stands, .inl (cZ, 40, .inl f2_stands_c20))] H := by rw [eg21]; exact hP
        have hD : va_D A [(a2, .inr (2, [.int v2_count_c20, .int v2_masts, .ref a2_place, .ref a2_price, .ref a2_trackAside, .ref a2_side, .ref a2_stands, .ref a2_mastPeg])), (a2_place, .inl (cI, 40, .inl g17)), (a2_price, .inl (cI, 40, .inl g21)), (a2_trackAside, .inl (cJ, 40, .inr (.inl f2_trackAside_c20))), (a2_side, .inl (cI, 40, .inl f2_side_c20)), (a2_stands, .inl (cZ, 40, .inl f2_stands_c20))] := by rw [eg21]; exact hD
        refine lv_aload_n hx hb dX2_insert_58 rfl (lv_at hl 0 rfl) ?_
        refine va_get (D := (dC, dI)) (ci := 2) (v := .ref a2_trackAside) (C := RX2) (T := TX2) (N := 8) hx hb hts inX2_insert_X2 hown hK hP 0 rfl rfl 4 (by decide) lk4 (fun _ h9 => h9) rfl dX2_insert_59 ?_
        refine lv_iload hx hb dX2_insert_62 (lv_at hl 5 rfl) ?_
        refine lv_aload_n hx hb dX2_insert_64 rfl (lv_at hl 0 rfl) ?_
        refine va_get (D := (dC, dI)) (ci := 2) (v := .ref a2_trackAside) (C := RX2) (T := TX2) (N := 8) hx hb hts inX2_insert_X2 hown hK hP 0 rfl rfl 4 (by decide) lk4 (fun _ h9 => h9) rfl dX2_insert_65 ?_
        refine lv_iload hx hb dX2_insert_68 (lv_at hl 5 rfl) ?_
        refine lv_iconst (v := (1 : Int32)) hx hb dX2_insert_70 (by decide) ?_
        refine lv_isub hx hb dX2_insert_71 ?_
        obtain ⟨h22, hw⟩ := hw
        refine va_lald hx hb hK hP 3 1 rfl rfl h22 dX2_insert_72 ?_
        refine lv_topl (fun x23 ex23 => ?_)
        replace hw := hw x23 ex23
        obtain ⟨h24, hw⟩ := hw
        refine va_last hx hb hK hP hD hS 3 1 rfl rfl h24 dX2_insert_73 (fun H locs hP hD hS => ?_)
        obtain ⟨g25, eg25⟩ : ∃ y : Nat → Int64, y = vp_updL f2_trackAside_c20 y20_6.toNatClampNeg x23 := ⟨_, rfl⟩
        replace hw := hw g25 eg25
        have hP : va_P (dC, dI) vwCl [(a2, .inr (2, [.int v2_count_c20, .int v2_masts, .ref a2_place, .ref a2_price, .ref a2_trackAside, .ref a2_side, .ref a2_stands, .ref a2_mastPeg])), (a2_place, .inl (cI, 40, .inl g17)), (a2_price, .inl (cI, 40, .inl g21)), (a2_trackAside, .inl (cJ, 40, .inr (.inl g25))), (a2_side, .inl (cI, 40, .inl f2_side_c20)), (a2_stands, .inl (cZ, 40, .inl f2_stands_c20))] H := by rw [eg25]; exact hP
        have hD : va_D A [(a2, .inr (2, [.int v2_count_c20, .int v2_masts, .ref a2_place, .ref a2_price, .ref a2_trackAside, .ref a2_side, .ref a2_stands, .ref a2_mastPeg])), (a2_place, .inl (cI, 40, .inl g17)), (a2_price, .inl (cI, 40, .inl g21)), (a2_trackAside, .inl (cJ, 40, .inr (.inl g25))), (a2_side, .inl (cI, 40, .inl f2_side_c20)), (a2_stands, .inl (cZ, 40, .inl f2_stands_c20))] := by rw [eg25]; exact hD
        obtain ⟨x26, ex26⟩ : ∃ y : Int32, y = y20_6 + (-1 : Int32) := ⟨_, rfl⟩
        replace hw := hw x26 ex26
        refine lv_iinc (v := x26) (lv' := [(6, .int x26), (0, .ref a2), (1, .int y20_1), (2, .int y20_2), (3, .int y20_3), (4, .long y20_4)]) hx hb dX2_insert_74 hl (k := 5) rfl (by rw [ex26]; rfl) (by decide) rfl (fun ls hl => ?_)
        refine lv_goto (tgt := 20) hx hb dX2_insert_77 (by decide) ?_
        exact ih_20 v2_count_c20 g17 g21 g25 f2_side_c20 f2_stands_c20 y20_1 y20_2 y20_3 y20_4 x26 _ _ _ (hP.sub [0, 1, 2, 3, 4, 5] rfl) (hD.sub [0, 1, 2, 3, 4, 5] (by decide) rfl) hS (lv_sub hl [1, 2, 3, 4, 5, 0] rfl) hw
  have hl := lv_entry ([.ref a2, .int p1, .int p2, .int p3, .long p4]) (n := 7) (Nat.le_of_ble_eq_true rfl)
  rw [lg_entry_eq]
  generalize (lg_sl ([.ref a2, .int p1, .int p2, .int p3, .long p4]) ++ List.replicate (7 - (lg_sl ([.ref a2, .int p1, .int p2, .int p3, .long p4])).length) Slot.unset).toArray = ls at hl ⊢
  have hl : lv_has ls 7 [(0, .ref a2), (1, .int p1), (2, .int p2), (3, .int p3), (4, .long p4)] := hl
  obtain ⟨H, hHe⟩ : ∃ H, H = s.heap := ⟨_, rfl⟩
  rw [← hHe] at hP
  have hS : va_S A s.heap H [] := by rw [hHe]; exact hS
  rw [← hHe]
  unfold wp_X2_insert at hw
  refine lv_aload_n hx hb dX2_insert_0 rfl (lv_at hl 0 rfl) ?_
  refine va_get (D := (dC, dI)) (ci := 2) (v := .int v2_count) (C := RX2) (T := TX2) (N := 8) hx hb hts inX2_insert_X2 hown hK hP 0 rfl rfl 0 (by decide) lk1 (fun _ h9 => h9) rfl dX2_insert_1 ?_
  refine lv_bipush (v := (40 : Int32)) hx hb dX2_insert_4 (by decide) ?_
  refine lv_icmp_ge (tgt := 13) hx hb dX2_insert_6 (by decide) (fun c1 => ?_) (fun c1 => ?_)
  · replace hw := hw.1 (c1)
    have hP9 := hP.sub (ws' := [(a2, .inr (2, [.int v2_count, .int v2_masts, .ref a2_place, .ref a2_price, .ref a2_trackAside, .ref a2_side, .ref a2_stands, .ref a2_mastPeg])), (a2_place, .inl (cI, 40, .inl f2_place)), (a2_price, .inl (cI, 40, .inl f2_price)), (a2_trackAside, .inl (cJ, 40, .inr (.inl f2_trackAside))), (a2_side, .inl (cI, 40, .inl f2_side)), (a2_stands, .inl (cZ, 40, .inl f2_stands))]) [0, 1, 2, 3, 4, 5] rfl
    have hD9 := hD.sub (ws' := [(a2, .inr (2, [.int v2_count, .int v2_masts, .ref a2_place, .ref a2_price, .ref a2_trackAside, .ref a2_side, .ref a2_stands, .ref a2_mastPeg])), (a2_place, .inl (cI, 40, .inl f2_place)), (a2_price, .inl (cI, 40, .inl f2_price)), (a2_trackAside, .inl (cJ, 40, .inr (.inl f2_trackAside))), (a2_side, .inl (cI, 40, .inl f2_side)), (a2_stands, .inl (cZ, 40, .inl f2_stands))]) [0, 1, 2, 3, 4, 5] (by decide) rfl
    exact W.vret hx hb hr (fun t ht hW => ⟨⟨(v2_count, f2_place, f2_price, f2_trackAside, f2_side, f2_stands), rfl, hw, by rw [ht]; exact hP9, va_K.moved hW.alike hK, hD9⟩, hS.F ht⟩) hS.2.2 dX2_insert_13
  · replace hw := hw.2 (c1)
    refine lv_iload_n hx hb dX2_insert_9 rfl (lv_at hl 1 rfl) ?_
    refine lv_if_ge (tgt := 14) hx hb dX2_insert_10 (by decide) (fun c2 => ?_) (fun c2 => ?_)
    · replace hw := hw.1 (c2)
      refine lv_aload_n hx hb dX2_insert_14 rfl (lv_at hl 0 rfl) ?_
      refine va_get (D := (dC, dI)) (ci := 2) (v := .int v2_count) (C := RX2) (T := TX2) (N := 8) hx hb hts inX2_insert_X2 hown hK hP 0 rfl rfl 0 (by decide) lk1 (fun _ h9 => h9) rfl dX2_insert_15 ?_
      refine lv_istore (lv' := [(6, .int v2_count), (0, .ref a2), (1, .int p1), (2, .int p2), (3, .int p3), (4, .long p4)]) hx hb dX2_insert_18 hl (by decide) rfl (fun ls hl => ?_)
      obtain ⟨n_20, hw⟩ := hw
      exact k_20 n_20 v2_count f2_place f2_price f2_trackAside f2_side f2_stands p1 p2 p3 p4 v2_count _ _ _ (hP.sub [0, 1, 2, 3, 4, 5] rfl) (hD.sub [0, 1, 2, 3, 4, 5] (by decide) rfl) hS (lv_sub hl [1, 2, 3, 4, 5, 0] rfl) hw
    · replace hw := hw.2 (c2)
      have hP9 := hP.sub (ws' := [(a2, .inr (2, [.int v2_count, .int v2_masts, .ref a2_place, .ref a2_price, .ref a2_trackAside, .ref a2_side, .ref a2_stands, .ref a2_mastPeg])), (a2_place, .inl (cI, 40, .inl f2_place)), (a2_price, .inl (cI, 40, .inl f2_price)), (a2_trackAside, .inl (cJ, 40, .inr (.inl f2_trackAside))), (a2_side, .inl (cI, 40, .inl f2_side)), (a2_stands, .inl (cZ, 40, .inl f2_stands))]) [0, 1, 2, 3, 4, 5] rfl
      have hD9 := hD.sub (ws' := [(a2, .inr (2, [.int v2_count, .int v2_masts, .ref a2_place, .ref a2_price, .ref a2_trackAside, .ref a2_side, .ref a2_stands, .ref a2_mastPeg])), (a2_place, .inl (cI, 40, .inl f2_place)), (a2_price, .inl (cI, 40, .inl f2_price)), (a2_trackAside, .inl (cJ, 40, .inr (.inl f2_trackAside))), (a2_side, .inl (cI, 40, .inl f2_side)), (a2_stands, .inl (cZ, 40, .inl f2_stands))]) [0, 1, 2, 3, 4, 5] (by decide) rfl
      exact W.vret hx hb hr (fun t ht hW => ⟨⟨(v2_count, f2_place, f2_price, f2_trackAside, f2_side, f2_stands), rfl, hw, by rw [ht]; exact hP9, va_K.moved hW.alike hK, hD9⟩, hS.F ht⟩) hS.2.2 dX2_insert_13

theorem inX2_spans_X2 : ∀ w ∈ wsX20, w ∈ wsX2_spans := fun _ h => List.mem_cons_of_mem _ (List.mem_append_right _ h)
def wp_X2_spans (Q : Int32 → Prop) (v2_masts : Int32) : Prop :=
  ((v2_masts ≤ (1 : Int32) → (Q (0 : Int32) )) ∧ (¬ v2_masts ≤ (1 : Int32) → (Q (v2_masts - (1 : Int32)) )))
set_option maxHeartbeats 4000000 in
set_option maxRecDepth 100000 in
theorem c_X2_spans (l : Launch) (dC : Nat → ClassId) (dI : Nat → Nat → Nat) (cI cJ cZ : ClassId) (a2 : Nat) (a2_place : Nat) (a2_price : Nat) (a2_trackAside : Nat) (a2_side : Nat) (a2_stands : Nat) (a2_mastPeg : Nat) (sz : Nat) (v2_count : Int32) (v2_masts : Int32) (Q : Int32 → Prop) (hw : wp_X2_spans Q v2_masts ) : Met l yX2_spans wsX2_spans ({ frames := 0, cells := 0, slots := 0, locals := 0 } : Room) (va_Pc [.ref a2] (fun U => U.heap.size = sz ∧ va_P (dC, dI) vwCl [(a2, .inr (2, [.int v2_count, .int v2_masts, .ref a2_place, .ref a2_price, .ref a2_trackAside, .ref a2_side, .ref a2_stands, .ref a2_mastPeg]))] U.heap ∧ va_K (dC, dI) vwCl [(cI, .int), (cJ, .long), (cZ, .boolean)] U ∧ va_D (fun _ => True) [(a2, .inr (2, [.int v2_count, .int v2_masts, .ref a2_place, .ref a2_price, .ref a2_trackAside, .ref a2_side, .ref a2_stands, .ref a2_mastPeg]))])) (va_Qi (fun r (u : Unit) => Q r) (fun (u : Unit) t => va_P (dC, dI) vwCl [(a2, .inr (2, [.int v2_count, .int v2_masts, .ref a2_place, .ref a2_price, .ref a2_trackAside, .ref a2_side, .ref a2_stands, .ref a2_mastPeg]))] t.heap ∧ va_K (dC, dI) vwCl [(cI, .int), (cJ, .long), (cZ, .boolean)] t ∧ va_D (va_A [(a2, .inr (2, [.int v2_count, .int v2_masts, .ref a2_place, .ref a2_price, .ref a2_trackAside, .ref a2_side, .ref a2_stands, .ref a2_mastPeg]))] sz) [(a2, .inr (2, [.int v2_count, .int v2_masts, .ref a2_place, .ref a2_price, .ref a2_trackAside, .ref a2_side, .ref a2_stands, .ref a2_mastPeg]))]) (va_A [(a2, .inr (2, [.int v2_count, .int v2_masts, .ref a2_place, .ref a2_price, .ref a2_trackAside, .ref a2_side, .ref a2_stands, .ref a2_mastPeg]))] sz)) 0 0 (va_A [(a2, .inr (2, [.int v2_count, .int v2_masts, .ref a2_place, .ref a2_price, .ref a2_trackAside, .ref a2_side, .ref a2_stands, .ref a2_mastPeg]))] sz) := by
  refine Met.ofW (cc := cX2_spans) (maxL := 1) (ret := (some .int)) (by decide) rfl ?_
  intro p e s m args below meth c s₁ B hml hv
  obtain ⟨rfl, hsz, hP, hK, hD0⟩ := hv
  have hx := B.exec
  have hb := B.bytes
  have hr := B.returns
  have hts := atoms_spec (ws := wsX2_spans) B.pre
  have hown : s.vm.findClass RX2 = some m.cls := findClass_of_methodNamed B.named
  have hlocks := B.notSynchronized
  subst hsz
  have hD := hD0.self (sz := s.heap.size)
  generalize hAe : va_A [(a2, .inr (2, [.int v2_count, .int v2_masts, .ref a2_place, .ref a2_price, .ref a2_trackAside, .ref a2_side, .ref a2_stands, .ref a2_mastPeg]))] s.heap.size = A at hD ⊢
  have hA : ∀ q : Nat, s.heap.size ≤ q → A q := fun q h => by rw [← hAe]; exact Or.inr h
  have hS : va_S A s.heap s.heap [] := va_S.rf
  have hP : va_P (dC, dI) vwCl [(a2, .inr (2, [.int v2_count, .int v2_masts, .ref a2_place, .ref a2_price, .ref a2_trackAside, .ref a2_side, .ref a2_stands, .ref a2_mastPeg]))] s.heap := hP
  have lk1 := hts (.fieldLink RX2 40 "WireRow$PegRow" "masts" "I") (by decide +kernel)
  have hl := lv_entry ([.ref a2]) (n := 1) (Nat.le_of_ble_eq_true rfl)
  rw [lg_entry_eq]
  generalize (lg_sl ([.ref a2]) ++ List.replicate (1 - (lg_sl ([.ref a2])).length) Slot.unset).toArray = ls at hl ⊢
  have hl : lv_has ls 1 [(0, .ref a2)] := hl
  obtain ⟨H, hHe⟩ : ∃ H, H = s.heap := ⟨_, rfl⟩
  rw [← hHe] at hP
  have hS : va_S A s.heap H [] := by rw [hHe]; exact hS
  rw [← hHe]
  unfold wp_X2_spans at hw
  refine lv_aload_n hx hb dX2_spans_0 rfl (lv_at hl 0 rfl) ?_
  refine va_get (D := (dC, dI)) (ci := 2) (v := .int v2_masts) (C := RX2) (T := TX2) (N := 8) hx hb hts inX2_spans_X2 hown hK hP 0 rfl rfl 1 (by decide) lk1 (fun _ h9 => h9) rfl dX2_spans_1 ?_
  refine lv_iconst (v := (1 : Int32)) hx hb dX2_spans_4 (by decide) ?_
  refine lv_icmp_le (tgt := 17) hx hb dX2_spans_5 (by decide) (fun c1 => ?_) (fun c1 => ?_)
  · replace hw := hw.1 (c1)
    refine lv_iconst (v := (0 : Int32)) hx hb dX2_spans_17 (by decide) ?_
    have hP9 := hP.sub (ws' := [(a2, .inr (2, [.int v2_count, .int v2_masts, .ref a2_place, .ref a2_price, .ref a2_trackAside, .ref a2_side, .ref a2_stands, .ref a2_mastPeg]))]) [0] rfl
    have hD9 := hD.sub (ws' := [(a2, .inr (2, [.int v2_count, .int v2_masts, .ref a2_place, .ref a2_price, .ref a2_trackAside, .ref a2_side, .ref a2_stands, .ref a2_mastPeg]))]) [0] (by decide) rfl
    exact W.iret (v := (0 : Int32)) hx hb hr (fun t ht hW => ⟨⟨(0 : Int32), (), rfl, hw, by rw [ht]; exact hP9, va_K.moved hW.alike hK, hD9⟩, hS.F ht⟩) hS.2.2 dX2_spans_18
  · replace hw := hw.2 (c1)
    refine lv_aload_n hx hb dX2_spans_8 rfl (lv_at hl 0 rfl) ?_
    refine va_get (D := (dC, dI)) (ci := 2) (v := .int v2_masts) (C := RX2) (T := TX2) (N := 8) hx hb hts inX2_spans_X2 hown hK hP 0 rfl rfl 1 (by decide) lk1 (fun _ h9 => h9) rfl dX2_spans_9 ?_
    refine lv_iconst (v := (1 : Int32)) hx hb dX2_spans_12 (by decide) ?_
    refine lv_isub hx hb dX2_spans_13 ?_
    refine lv_goto (tgt := 18) hx hb dX2_spans_14 (by decide) ?_
    have hP9 := hP.sub (ws' := [(a2, .inr (2, [.int v2_count, .int v2_masts, .ref a2_place, .ref a2_price, .ref a2_trackAside, .ref a2_side, .ref a2_stands, .ref a2_mastPeg]))]) [0] rfl
    have hD9 := hD.sub (ws' := [(a2, .inr (2, [.int v2_count, .int v2_masts, .ref a2_place, .ref a2_price, .ref a2_trackAside, .ref a2_side, .ref a2_stands, .ref a2_mastPeg]))]) [0] (by decide) rfl
    exact W.iret (v := (v2_masts - (1 : Int32))) hx hb hr (fun t ht hW => ⟨⟨(v2_masts - (1 : Int32)), (), rfl, hw, by rw [ht]; exact hP9, va_K.moved hW.alike hK, hD9⟩, hS.F ht⟩) hS.2.2 dX2_spans_18

theorem inX2_hasSpan_X2 : ∀ w ∈ wsX20, w ∈ wsX2_hasSpan := fun _ h => List.mem_cons_of_mem _ (List.mem_append_right _ h)
def wp_X2_hasSpan (Q : Int32 → Prop) (v2_masts : Int32) (p1 : Int32) : Prop :=
  ((p1 < 0 → (((0 : Int32) = 0 ∨ (0 : Int32) = 1) ∧ Q (0 : Int32) )) ∧ (¬ p1 < 0 → (wp_X2_spans (fun r3 => ((r3 ≤ p1 → (((0 : Int32) = 0 ∨ (0 : Int32) = 1) ∧ Q (0 : Int32) )) ∧ (¬ r3 ≤ p1 → (((1 : Int32) = 0 ∨ (1 : Int32) = 1) ∧ Q (1 : Int32) )))) v2_masts)))
set_option maxHeartbeats 4000000 in
set_option maxRecDepth 100000 in
theorem c_X2_hasSpan (l : Launch) (dC : Nat → ClassId) (dI : Nat → Nat → Nat) (cI cJ cZ : ClassId) (a2 : Nat) (a2_place : Nat) (a2_price : Nat) (a2_trackAside : Nat) (a2_side : Nat) (a2_stands : Nat) (a2_mastPeg : Nat) (sz : Nat) (v2_count : Int32) (v2_masts : Int32) (p1 : Int32) (Q : Int32 → Prop) (hw : wp_X2_hasSpan Q v2_masts p1) : Met l yX2_hasSpan wsX2_hasSpan ({ frames := 1, cells := 0, slots := 0, locals := 20 } : Room) (va_Pc [.ref a2, .int p1] (fun U => U.heap.size = sz ∧ va_P (dC, dI) vwCl [(a2, .inr (2, [.int v2_count, .int v2_masts, .ref a2_place, .ref a2_price, .ref a2_trackAside, .ref a2_side, .ref a2_stands, .ref a2_mastPeg]))] U.heap ∧ va_K (dC, dI) vwCl [(cI, .int), (cJ, .long), (cZ, .boolean)] U ∧ va_D (fun _ => True) [(a2, .inr (2, [.int v2_count, .int v2_masts, .ref a2_place, .ref a2_price, .ref a2_trackAside, .ref a2_side, .ref a2_stands, .ref a2_mastPeg]))])) (va_Qi (fun r (u : Unit) => Q r) (fun (u : Unit) t => va_P (dC, dI) vwCl [(a2, .inr (2, [.int v2_count, .int v2_masts, .ref a2_place, .ref a2_price, .ref a2_trackAside, .ref a2_side, .ref a2_stands, .ref a2_mastPeg]))] t.heap ∧ va_K (dC, dI) vwCl [(cI, .int), (cJ, .long), (cZ, .boolean)] t ∧ va_D (va_A [(a2, .inr (2, [.int v2_count, .int v2_masts, .ref a2_place, .ref a2_price, .ref a2_trackAside, .ref a2_side, .ref a2_stands, .ref a2_mastPeg]))] sz) [(a2, .inr (2, [.int v2_count, .int v2_masts, .ref a2_place, .ref a2_price, .ref a2_trackAside, .ref a2_side, .ref a2_stands, .ref a2_mastPeg]))]) (va_A [(a2, .inr (2, [.int v2_count, .int v2_masts, .ref a2_place, .ref a2_price, .ref a2_trackAside, .ref a2_side, .ref a2_stands, .ref a2_mastPeg]))] sz)) 0 0 (va_A [(a2, .inr (2, [.int v2_count, .int v2_masts, .ref a2_place, .ref a2_price, .ref a2_trackAside, .ref a2_side, .ref a2_stands, .ref a2_mastPeg]))] sz) := by
  refine Met.ofW (cc := cX2_hasSpan) (maxL := 2) (ret := (some .boolean)) (by decide) rfl ?_
  intro p e s m args below meth c s₁ B hml hv
  obtain ⟨rfl, hsz, hP, hK, hD0⟩ := hv
  have hx := B.exec
  have hb := B.bytes
  have hr := B.returns
  have hts := atoms_spec (ws := wsX2_hasSpan) B.pre
  have hown : s.vm.findClass RX2 = some m.cls := findClass_of_methodNamed B.named
  have hlocks := B.notSynchronized
  subst hsz
  have hD := hD0.self (sz := s.heap.size)
  generalize hAe : va_A [(a2, .inr (2, [.int v2_count, .int v2_masts, .ref a2_place, .ref a2_price, .ref a2_trackAside, .ref a2_side, .ref a2_stands, .ref a2_mastPeg]))] s.heap.size = A at hD ⊢
  have hA : ∀ q : Nat, s.heap.size ≤ q → A q := fun q h => by rw [← hAe]; exact Or.inr h
  have hS : va_S A s.heap s.heap [] := va_S.rf
  have hP : va_P (dC, dI) vwCl [(a2, .inr (2, [.int v2_count, .int v2_masts, .ref a2_place, .ref a2_price, .ref a2_trackAside, .ref a2_side, .ref a2_stands, .ref a2_mastPeg]))] s.heap := hP
  have hl := lv_entry ([.ref a2, .int p1]) (n := 2) (Nat.le_of_ble_eq_true rfl)
  rw [lg_entry_eq]
  generalize (lg_sl ([.ref a2, .int p1]) ++ List.replicate (2 - (lg_sl ([.ref a2, .int p1])).length) Slot.unset).toArray = ls at hl ⊢
  have hl : lv_has ls 2 [(0, .ref a2), (1, .int p1)] := hl
  obtain ⟨H, hHe⟩ : ∃ H, H = s.heap := ⟨_, rfl⟩
  rw [← hHe] at hP
  have hS : va_S A s.heap H [] := by rw [hHe]; exact hS
  rw [← hHe]
  unfold wp_X2_hasSpan at hw
  refine lv_iload_n hx hb dX2_hasSpan_0 rfl (lv_at hl 1 rfl) ?_
  refine lv_if_lt (tgt := 16) hx hb dX2_hasSpan_1 (by decide) (fun c1 => ?_) (fun c1 => ?_)
  · replace hw := hw.1 (c1)
    refine lv_iconst (v := (0 : Int32)) hx hb dX2_hasSpan_16 (by decide) ?_
    have hP9 := hP.sub (ws' := [(a2, .inr (2, [.int v2_count, .int v2_masts, .ref a2_place, .ref a2_price, .ref a2_trackAside, .ref a2_side, .ref a2_stands, .ref a2_mastPeg]))]) [0] rfl
    have hD9 := hD.sub (ws' := [(a2, .inr (2, [.int v2_count, .int v2_masts, .ref a2_place, .ref a2_price, .ref a2_trackAside, .ref a2_side, .ref a2_stands, .ref a2_mastPeg]))]) [0] (by decide) rfl
    obtain ⟨h2, hw⟩ := hw
    exact W.zret (v := (0 : Int32)) hx hb hr (wg_bool h2) (fun t ht hW => ⟨⟨(0 : Int32), (), rfl, hw, by rw [ht]; exact hP9, va_K.moved hW.alike hK, hD9⟩, hS.F ht⟩) hS.2.2 dX2_hasSpan_17
  · replace hw := hw.2 (c1)
    refine lv_iload_n hx hb dX2_hasSpan_4 rfl (lv_at hl 1 rfl) ?_
    refine lv_aload_n hx hb dX2_hasSpan_5 rfl (lv_at hl 0 rfl) ?_
    have hPc := hP.sub (ws' := [(a2, .inr (2, [.int v2_count, .int v2_masts, .ref a2_place, .ref a2_price, .ref a2_trackAside, .ref a2_side, .ref a2_stands, .ref a2_mastPeg]))]) [0] rfl
    have hDc := hD.sub (ws' := [(a2, .inr (2, [.int v2_count, .int v2_masts, .ref a2_place, .ref a2_price, .ref a2_trackAside, .ref a2_side, .ref a2_stands, .ref a2_mastPeg]))]) [0] (by decide) rfl
    have hFc := va_free (wc := [(a2, .inr (2, [.int v2_count, .int v2_masts, .ref a2_place, .ref a2_price, .ref a2_trackAside, .ref a2_side, .ref a2_stands, .ref a2_mastPeg]))]) hD hS hA [0] rfl
    refine va_calli (va_runV (As := []) (rest := [.int p1]) ⟨hx, hb, hml, hown, hts⟩ (c_X2_spans l dC dI cI cJ cZ a2 a2_place a2_price a2_trackAside a2_side a2_stands a2_mastPeg H.size v2_count v2_masts _ hw) (cwV 0 hts gX2_hasSpan_X2_spans rfl rfl rfl (by decide +kernel) ⟨Nat.le_of_ble_eq_true rfl, Nat.le_of_ble_eq_true rfl⟩) ⟨fun a U g mk q => by obtain ⟨q0, q1, qP, qK, qD⟩ := q; exact ⟨q0, q1, qP, va_K.moved (u := U) (U := U.calling g mk a) (Vm.Alike.refl U.vm) qK, qD⟩, va_recv hK hP (ci := 2) (q0 := 0) rfl rfl, fun U hU hW => ⟨rfl, by rw [hU], by rw [hU]; exact hPc, va_K.moved hW.alike hK, hDc.weaken (fun _ _ _ _ => trivial)⟩⟩ rfl rfl hl.1 rfl (lv_room (Nat.le_of_ble_eq_true rfl)) dX2_hasSpan_6 ⟨(Nat.zero_le _), (Nat.zero_le _)⟩) hS (fun q _ h => hFc q h) hFc (fun r3 u t H1 locs ht hvm hw hB hz1 hk1 hS => ?_)
    obtain ⟨hP1, -, hD1⟩ := hB
    try dsimp only at hw
    rw [ht] at hP1
    obtain ⟨hP, hD⟩ := va_join (wr := []) (w1 := [(a2, .inr (2, [.int v2_count, .int v2_masts, .ref a2_place, .ref a2_price, .ref a2_trackAside, .ref a2_side, .ref a2_stands, .ref a2_mastPeg]))]) hP hD [0] [] rfl rfl (by decide) (by decide) hk1 hFc hP1 hD1
    generalize H1 = H at hP hS ⊢
    have hP : va_P (dC, dI) vwCl [(a2, .inr (2, [.int v2_count, .int v2_masts, .ref a2_place, .ref a2_price, .ref a2_trackAside, .ref a2_side, .ref a2_stands, .ref a2_mastPeg]))] H := hP
    have hD : va_D A [(a2, .inr (2, [.int v2_count, .int v2_masts, .ref a2_place, .ref a2_price, .ref a2_trackAside, .ref a2_side, .ref a2_stands, .ref a2_mastPeg]))] := hD
    refine lv_icmp_ge (tgt := 16) hx hb dX2_hasSpan_9 (by decide) (fun c4 => ?_) (fun c4 => ?_)
    · replace hw := hw.1 (c4)
      refine lv_iconst (v := (0 : Int32)) hx hb dX2_hasSpan_16 (by decide) ?_
      have hP9 := hP.sub (ws' := [(a2, .inr (2, [.int v2_count, .int v2_masts, .ref a2_place, .ref a2_price, .ref a2_trackAside, .ref a2_side, .ref a2_stands, .ref a2_mastPeg]))]) [0] rfl
      have hD9 := hD.sub (ws' := [(a2, .inr (2, [.int v2_count, .int v2_masts, .ref a2_place, .ref a2_price, .ref a2_trackAside, .ref a2_side, .ref a2_stands, .ref a2_mastPeg]))]) [0] (by decide) rfl
      obtain ⟨h5, hw⟩ := hw
      exact W.zret (v := (0 : Int32)) hx hb hr (wg_bool h5) (fun t ht hW => ⟨⟨(0 : Int32), (), rfl, hw, by rw [ht]; exact hP9, va_K.moved hW.alike hK, hD9⟩, hS.F ht⟩) hS.2.2 dX2_hasSpan_17
    · replace hw := hw.2 (c4)
      refine lv_iconst (v := (1 : Int32)) hx hb dX2_hasSpan_12 (by decide) ?_
      refine lv_goto (tgt := 17) hx hb dX2_hasSpan_13 (by decide) ?_
      have hP9 := hP.sub (ws' := [(a2, .inr (2, [.int v2_count, .int v2_masts, .ref a2_place, .ref a2_price, .ref a2_trackAside, .ref a2_side, .ref a2_stands, .ref a2_mastPeg]))]) [0] rfl
      have hD9 := hD.sub (ws' := [(a2, .inr (2, [.int v2_count, .int v2_masts, .ref a2_place, .ref a2_price, .ref a2_trackAside, .ref a2_side, .ref a2_stands, .ref a2_mastPeg]))]) [0] (by decide) rfl
      obtain ⟨h6, hw⟩ := hw
      exact W.zret (v := (1 : Int32)) hx hb hr (wg_bool h6) (fun t ht hW => ⟨⟨(1 : Int32), (), rfl, hw, by rw [ht]; exact hP9, va_K.moved hW.alike hK, hD9⟩, hS.F ht⟩) hS.2.2 dX2_hasSpan_17

theorem inX2_spanBegin_X2 : ∀ w ∈ wsX20, w ∈ wsX2_spanBegin := fun _ h => List.mem_cons_of_mem _ (List.mem_append_right _ h)
def wp_X2_spanBegin (Q : Int32 → Prop) (f2_place : Nat → Int32) (f2_mastPeg : Nat → Int32) (p1 : Int32) : Prop :=
  (vp_in p1 40 ∧ (vp_in (f2_mastPeg p1.toNatClampNeg) 40 ∧ (Q (f2_place (f2_mastPeg p1.toNatClampNeg).toNatClampNeg) )))
set_option maxHeartbeats 4000000 in
set_option maxRecDepth 100000 in
theorem c_X2_spanBegin (l : Launch) (dC : Nat → ClassId) (dI : Nat → Nat → Nat) (cI cJ cZ : ClassId) (a2 : Nat) (a2_place : Nat) (a2_price : Nat) (a2_trackAside : Nat) (a2_side : Nat) (a2_stands : Nat) (a2_mastPeg : Nat) (sz : Nat) (v2_count : Int32) (v2_masts : Int32) (f2_place : Nat → Int32) (f2_mastPeg : Nat → Int32) (p1 : Int32) (Q : Int32 → Prop) (hw : wp_X2_spanBegin Q f2_place f2_mastPeg p1) : Met l yX2_spanBegin wsX2_spanBegin ({ frames := 0, cells := 0, slots := 0, locals := 0 } : Room) (va_Pc [.ref a2, .int p1] (fun U => U.heap.size = sz ∧ va_P (dC, dI) vwCl [(a2, .inr (2, [.int v2_count, .int v2_masts, .ref a2_place, .ref a2_price, .ref a2_trackAside, .ref a2_side, .ref a2_stands, .ref a2_mastPeg])), (a2_place, .inl (cI, 40, .inl f2_place)), (a2_mastPeg, .inl (cI, 40, .inl f2_mastPeg))] U.heap ∧ va_K (dC, dI) vwCl [(cI, .int), (cJ, .long), (cZ, .boolean)] U ∧ va_D (fun _ => True) [(a2, .inr (2, [.int v2_count, .int v2_masts, .ref a2_place, .ref a2_price, .ref a2_trackAside, .ref a2_side, .ref a2_stands, .ref a2_mastPeg])), (a2_place, .inl (cI, 40, .inl f2_place)), (a2_mastPeg, .inl (cI, 40, .inl f2_mastPeg))])) (va_Qi (fun r (u : Unit) => Q r) (fun (u : Unit) t => va_P (dC, dI) vwCl [(a2, .inr (2, [.int v2_count, .int v2_masts, .ref a2_place, .ref a2_price, .ref a2_trackAside, .ref a2_side, .ref a2_stands, .ref a2_mastPeg])), (a2_place, .inl (cI, 40, .inl f2_place)), (a2_mastPeg, .inl (cI, 40, .inl f2_mastPeg))] t.heap ∧ va_K (dC, dI) vwCl [(cI, .int), (cJ, .long), (cZ, .boolean)] t ∧ va_D (va_A [(a2, .inr (2, [.int v2_count, .int v2_masts, .ref a2_place, .ref a2_price, .ref a2_trackAside, .ref a2_side, .ref a2_stands, .ref a2_mastPeg])), (a2_place, .inl (cI, 40, .inl f2_place)), (a2_mastPeg, .inl (cI, 40, .inl f2_mastPeg))] sz) [(a2, .inr (2, [.int v2_count, .int v2_masts, .ref a2_place, .ref a2_price, .ref a2_trackAside, .ref a2_side, .ref a2_stands, .ref a2_mastPeg])), (a2_place, .inl (cI, 40, .inl f2_place)), (a2_mastPeg, .inl (cI, 40, .inl f2_mastPeg))]) (va_A [(a2, .inr (2, [.int v2_count, .int v2_masts, .ref a2_place, .ref a2_price, .ref a2_trackAside, .ref a2_side, .ref a2_stands, .ref a2_mastPeg])), (a2_place, .inl (cI, 40, .inl f2_place)), (a2_mastPeg, .inl (cI, 40, .inl f2_mastPeg))] sz)) 0 0 (va_A [(a2, .inr (2, [.int v2_count, .int v2_masts, .ref a2_place, .ref a2_price, .ref a2_trackAside, .ref a2_side, .ref a2_stands, .ref a2_mastPeg])), (a2_place, .inl (cI, 40, .inl f2_place)), (a2_mastPeg, .inl (cI, 40, .inl f2_mastPeg))] sz) := by
  refine Met.ofW (cc := cX2_spanBegin) (maxL := 2) (ret := (some .int)) (by decide) rfl ?_
  intro p e s m args below meth c s₁ B hml hv
  obtain ⟨rfl, hsz, hP, hK, hD0⟩ := hv
  have hx := B.exec
  have hb := B.bytes
  have hr := B.returns
  have hts := atoms_spec (ws := wsX2_spanBegin) B.pre
  have hown : s.vm.findClass RX2 = some m.cls := findClass_of_methodNamed B.named
  have hlocks := B.notSynchronized
  subst hsz
  have hD := hD0.self (sz := s.heap.size)
  generalize hAe : va_A [(a2, .inr (2, [.int v2_count, .int v2_masts, .ref a2_place, .ref a2_price, .ref a2_trackAside, .ref a2_side, .ref a2_stands, .ref a2_mastPeg])), (a2_place, .inl (cI, 40, .inl f2_place)), (a2_mastPeg, .inl (cI, 40, .inl f2_mastPeg))] s.heap.size = A at hD ⊢
  have hA : ∀ q : Nat, s.heap.size ≤ q → A q := fun q h => by rw [← hAe]; exact Or.inr h
  have hS : va_S A s.heap s.heap [] := va_S.rf
  have hP : va_P (dC, dI) vwCl [(a2, .inr (2, [.int v2_count, .int v2_masts, .ref a2_place, .ref a2_price, .ref a2_trackAside, .ref a2_side, .ref a2_stands, .ref a2_mastPeg])), (a2_place, .inl (cI, 40, .inl f2_place)), (a2_mastPeg, .inl (cI, 40, .inl f2_mastPeg))] s.heap := hP
  have lk1 := hts (.fieldLink RX2 9 "WireRow$PegRow" "place" "[I") (by decide +kernel)
  have lk2 := hts (.fieldLink RX2 29 "WireRow$PegRow" "mastPeg" "[I") (by decide +kernel)
  have hl := lv_entry ([.ref a2, .int p1]) (n := 2) (Nat.le_of_ble_eq_true rfl)
  rw [lg_entry_eq]
  generalize (lg_sl ([.ref a2, .int p1]) ++ List.replicate (2 - (lg_sl ([.ref a2, .int p1])).length) Slot.unset).toArray = ls at hl ⊢
  have hl : lv_has ls 2 [(0, .ref a2), (1, .int p1)] := hl
  obtain ⟨H, hHe⟩ : ∃ H, H = s.heap := ⟨_, rfl⟩
  rw [← hHe] at hP
  have hS : va_S A s.heap H [] := by rw [hHe]; exact hS
  rw [← hHe]
  unfold wp_X2_spanBegin at hw
  refine lv_aload_n hx hb dX2_spanBegin_0 rfl (lv_at hl 0 rfl) ?_
  refine va_get (D := (dC, dI)) (ci := 2) (v := .ref a2_place) (C := RX2) (T := TX2) (N := 8) hx hb hts inX2_spanBegin_X2 hown hK hP 0 rfl rfl 2 (by decide) lk1 (fun _ h9 => h9) rfl dX2_spanBegin_1 ?_
  refine lv_aload_n hx hb dX2_spanBegin_4 rfl (lv_at hl 0 rfl) ?_
  refine va_get (D := (dC, dI)) (ci := 2) (v := .ref a2_mastPeg) (C := RX2) (T := TX2) (N := 8) hx hb hts inX2_spanBegin_X2 hown hK hP 0 rfl rfl 7 (by decide) lk2 (fun _ h9 => h9) rfl dX2_spanBegin_5 ?_
  refine lv_iload_n hx hb dX2_spanBegin_8 rfl (lv_at hl 1 rfl) ?_
  obtain ⟨h1, hw⟩ := hw
  refine va_iald hx hb hK hP 2 0 rfl rfl h1 dX2_spanBegin_9 ?_
  obtain ⟨h2, hw⟩ := hw
  refine va_iald hx hb hK hP 1 0 rfl rfl h2 dX2_spanBegin_10 ?_
  have hP9 := hP.sub (ws' := [(a2, .inr (2, [.int v2_count, .int v2_masts, .ref a2_place, .ref a2_price, .ref a2_trackAside, .ref a2_side, .ref a2_stands, .ref a2_mastPeg])), (a2_place, .inl (cI, 40, .inl f2_place)), (a2_mastPeg, .inl (cI, 40, .inl f2_mastPeg))]) [0, 1, 2] rfl
  have hD9 := hD.sub (ws' := [(a2, .inr (2, [.int v2_count, .int v2_masts, .ref a2_place, .ref a2_price, .ref a2_trackAside, .ref a2_side, .ref a2_stands, .ref a2_mastPeg])), (a2_place, .inl (cI, 40, .inl f2_place)), (a2_mastPeg, .inl (cI, 40, .inl f2_mastPeg))]) [0, 1, 2] (by decide) rfl
  exact W.iret (v := (f2_place (f2_mastPeg p1.toNatClampNeg).toNatClampNeg)) hx hb hr (fun t ht hW => ⟨⟨(f2_place (f2_mastPeg p1.toNatClampNeg).toNatClampNeg), (), rfl, hw, by rw [ht]; exact hP9, va_K.moved hW.alike hK, hD9⟩, hS.F ht⟩) hS.2.2 dX2_spanBegin_11

theorem inX2_spanEnd_X2 : ∀ w ∈ wsX20, w ∈ wsX2_spanEnd := fun _ h => List.mem_cons_of_mem _ (List.mem_append_right _ h)
def wp_X2_spanEnd (Q : Int32 → Prop) (f2_place : Nat → Int32) (f2_mastPeg : Nat → Int32) (p1 : Int32) : Prop :=
  (vp_in (p1 + (1 : Int32)) 40 ∧ (vp_in (f2_mastPeg (p1 + (1 : Int32)).toNatClampNeg) 40 ∧ (Q (f2_place (f2_mastPeg (p1 + (1 : Int32)).toNatClampNeg).toNatClampNeg) )))
set_option maxHeartbeats 4000000 in
set_option maxRecDepth 100000 in
theorem c_X2_spanEnd (l : Launch) (dC : Nat → ClassId) (dI : Nat → Nat → Nat) (cI cJ cZ : ClassId) (a2 : Nat) (a2_place : Nat) (a2_price : Nat) (a2_trackAside : Nat) (a2_side : Nat) (a2_stands : Nat) (a2_mastPeg : Nat) (sz : Nat) (v2_count : Int32) (v2_masts : Int32) (f2_place : Nat → Int32) (f2_mastPeg : Nat → Int32) (p1 : Int32) (Q : Int32 → Prop) (hw : wp_X2_spanEnd Q f2_place f2_mastPeg p1) : Met l yX2_spanEnd wsX2_spanEnd ({ frames := 0, cells := 0, slots := 0, locals := 0 } : Room) (va_Pc [.ref a2, .int p1] (fun U => U.heap.size = sz ∧ va_P (dC, dI) vwCl [(a2, .inr (2, [.int v2_count, .int v2_masts, .ref a2_place, .ref a2_price, .ref a2_trackAside, .ref a2_side, .ref a2_stands, .ref a2_mastPeg])), (a2_place, .inl (cI, 40, .inl f2_place)), (a2_mastPeg, .inl (cI, 40, .inl f2_mastPeg))] U.heap ∧ va_K (dC, dI) vwCl [(cI, .int), (cJ, .long), (cZ, .boolean)] U ∧ va_D (fun _ => True) [(a2, .inr (2, [.int v2_count, .int v2_masts, .ref a2_place, .ref a2_price, .ref a2_trackAside, .ref a2_side, .ref a2_stands, .ref a2_mastPeg])), (a2_place, .inl (cI, 40, .inl f2_place)), (a2_mastPeg, .inl (cI, 40, .inl f2_mastPeg))])) (va_Qi (fun r (u : Unit) => Q r) (fun (u : Unit) t => va_P (dC, dI) vwCl [(a2, .inr (2, [.int v2_count, .int v2_masts, .ref a2_place, .ref a2_price, .ref a2_trackAside, .ref a2_side, .ref a2_stands, .ref a2_mastPeg])), (a2_place, .inl (cI, 40, .inl f2_place)), (a2_mastPeg, .inl (cI, 40, .inl f2_mastPeg))] t.heap ∧ va_K (dC, dI) vwCl [(cI, .int), (cJ, .long), (cZ, .boolean)] t ∧ va_D (va_A [(a2, .inr (2, [.int v2_count, .int v2_masts, .ref a2_place, .ref a2_price, .ref a2_trackAside, .ref a2_side, .ref a2_stands, .ref a2_mastPeg])), (a2_place, .inl (cI, 40, .inl f2_place)), (a2_mastPeg, .inl (cI, 40, .inl f2_mastPeg))] sz) [(a2, .inr (2, [.int v2_count, .int v2_masts, .ref a2_place, .ref a2_price, .ref a2_trackAside, .ref a2_side, .ref a2_stands, .ref a2_mastPeg])), (a2_place, .inl (cI, 40, .inl f2_place)), (a2_mastPeg, .inl (cI, 40, .inl f2_mastPeg))]) (va_A [(a2, .inr (2, [.int v2_count, .int v2_masts, .ref a2_place, .ref a2_price, .ref a2_trackAside, .ref a2_side, .ref a2_stands, .ref a2_mastPeg])), (a2_place, .inl (cI, 40, .inl f2_place)), (a2_mastPeg, .inl (cI, 40, .inl f2_mastPeg))] sz)) 0 0 (va_A [(a2, .inr (2, [.int v2_count, .int v2_masts, .ref a2_place, .ref a2_price, .ref a2_trackAside, .ref a2_side, .ref a2_stands, .ref a2_mastPeg])), (a2_place, .inl (cI, 40, .inl f2_place)), (a2_mastPeg, .inl (cI, 40, .inl f2_mastPeg))] sz) := by
  refine Met.ofW (cc := cX2_spanEnd) (maxL := 2) (ret := (some .int)) (by decide) rfl ?_
  intro p e s m args below meth c s₁ B hml hv
  obtain ⟨rfl, hsz, hP, hK, hD0⟩ := hv
  have hx := B.exec
  have hb := B.bytes
  have hr := B.returns
  have hts := atoms_spec (ws := wsX2_spanEnd) B.pre
  have hown : s.vm.findClass RX2 = some m.cls := findClass_of_methodNamed B.named
  have hlocks := B.notSynchronized
  subst hsz
  have hD := hD0.self (sz := s.heap.size)
  generalize hAe : va_A [(a2, .inr (2, [.int v2_count, .int v2_masts, .ref a2_place, .ref a2_price, .ref a2_trackAside, .ref a2_side, .ref a2_stands, .ref a2_mastPeg])), (a2_place, .inl (cI, 40, .inl f2_place)), (a2_mastPeg, .inl (cI, 40, .inl f2_mastPeg))] s.heap.size = A at hD ⊢
  have hA : ∀ q : Nat, s.heap.size ≤ q → A q := fun q h => by rw [← hAe]; exact Or.inr h
  have hS : va_S A s.heap s.heap [] := va_S.rf
  have hP : va_P (dC, dI) vwCl [(a2, .inr (2, [.int v2_count, .int v2_masts, .ref a2_place, .ref a2_price, .ref a2_trackAside, .ref a2_side, .ref a2_stands, .ref a2_mastPeg])), (a2_place, .inl (cI, 40, .inl f2_place)), (a2_mastPeg, .inl (cI, 40, .inl f2_mastPeg))] s.heap := hP
  have lk1 := hts (.fieldLink RX2 9 "WireRow$PegRow" "place" "[I") (by decide +kernel)
  have lk2 := hts (.fieldLink RX2 29 "WireRow$PegRow" "mastPeg" "[I") (by decide +kernel)
  have hl := lv_entry ([.ref a2, .int p1]) (n := 2) (Nat.le_of_ble_eq_true rfl)
  rw [lg_entry_eq]
  generalize (lg_sl ([.ref a2, .int p1]) ++ List.replicate (2 - (lg_sl ([.ref a2, .int p1])).length) Slot.unset).toArray = ls at hl ⊢
  have hl : lv_has ls 2 [(0, .ref a2), (1, .int p1)] := hl
  obtain ⟨H, hHe⟩ : ∃ H, H = s.heap := ⟨_, rfl⟩
  rw [← hHe] at hP
  have hS : va_S A s.heap H [] := by rw [hHe]; exact hS
  rw [← hHe]
  unfold wp_X2_spanEnd at hw
  refine lv_aload_n hx hb dX2_spanEnd_0 rfl (lv_at hl 0 rfl) ?_
  refine va_get (D := (dC, dI)) (ci := 2) (v := .ref a2_place) (C := RX2) (T := TX2) (N := 8) hx hb hts inX2_spanEnd_X2 hown hK hP 0 rfl rfl 2 (by decide) lk1 (fun _ h9 => h9) rfl dX2_spanEnd_1 ?_
  refine lv_aload_n hx hb dX2_spanEnd_4 rfl (lv_at hl 0 rfl) ?_
  refine va_get (D := (dC, dI)) (ci := 2) (v := .ref a2_mastPeg) (C := RX2) (T := TX2) (N := 8) hx hb hts inX2_spanEnd_X2 hown hK hP 0 rfl rfl 7 (by decide) lk2 (fun _ h9 => h9) rfl dX2_spanEnd_5 ?_
  refine lv_iload_n hx hb dX2_spanEnd_8 rfl (lv_at hl 1 rfl) ?_
  refine lv_iconst (v := (1 : Int32)) hx hb dX2_spanEnd_9 (by decide) ?_
  refine lv_iadd hx hb dX2_spanEnd_10 ?_
  obtain ⟨h1, hw⟩ := hw
  refine va_iald hx hb hK hP 2 0 rfl rfl h1 dX2_spanEnd_11 ?_
  obtain ⟨h2, hw⟩ := hw
  refine va_iald hx hb hK hP 1 0 rfl rfl h2 dX2_spanEnd_12 ?_
  have hP9 := hP.sub (ws' := [(a2, .inr (2, [.int v2_count, .int v2_masts, .ref a2_place, .ref a2_price, .ref a2_trackAside, .ref a2_side, .ref a2_stands, .ref a2_mastPeg])), (a2_place, .inl (cI, 40, .inl f2_place)), (a2_mastPeg, .inl (cI, 40, .inl f2_mastPeg))]) [0, 1, 2] rfl
  have hD9 := hD.sub (ws' := [(a2, .inr (2, [.int v2_count, .int v2_masts, .ref a2_place, .ref a2_price, .ref a2_trackAside, .ref a2_side, .ref a2_stands, .ref a2_mastPeg])), (a2_place, .inl (cI, 40, .inl f2_place)), (a2_mastPeg, .inl (cI, 40, .inl f2_mastPeg))]) [0, 1, 2] (by decide) rfl
  exact W.iret (v := (f2_place (f2_mastPeg (p1 + (1 : Int32)).toNatClampNeg).toNatClampNeg)) hx hb hr (fun t ht hW => ⟨⟨(f2_place (f2_mastPeg (p1 + (1 : Int32)).toNatClampNeg).toNatClampNeg), (), rfl, hw, by rw [ht]; exact hP9, va_K.moved hW.alike hK, hD9⟩, hS.F ht⟩) hS.2.2 dX2_spanEnd_13

theorem inX2_spanLength_X2 : ∀ w ∈ wsX20, w ∈ wsX2_spanLength := fun _ h => List.mem_cons_of_mem _ (List.mem_append_right _ h)
def wp_X2_spanLength (Q : Int32 → Prop) (f2_place : Nat → Int32) (f2_mastPeg : Nat → Int32) (p1 : Int32) : Prop :=
  (wp_X2_spanEnd (fun r1 => (wp_X2_spanBegin (fun r2 => (Q (r1 - r2) )) f2_place f2_mastPeg p1)) f2_place f2_mastPeg p1)
set_option maxHeartbeats 4000000 in
set_option maxRecDepth 100000 in
theorem c_X2_spanLength (l : Launch) (dC : Nat → ClassId) (dI : Nat → Nat → Nat) (cI cJ cZ : ClassId) (a2 : Nat) (a2_place : Nat) (a2_price : Nat) (a2_trackAside : Nat) (a2_side : Nat) (a2_stands : Nat) (a2_mastPeg : Nat) (sz : Nat) (v2_count : Int32) (v2_masts : Int32) (f2_place : Nat → Int32) (f2_mastPeg : Nat → Int32) (p1 : Int32) (Q : Int32 → Prop) (hw : wp_X2_spanLength Q f2_place f2_mastPeg p1) : Met l yX2_spanLength wsX2_spanLength ({ frames := 1, cells := 0, slots := 0, locals := 21 } : Room) (va_Pc [.ref a2, .int p1] (fun U => U.heap.size = sz ∧ va_P (dC, dI) vwCl [(a2, .inr (2, [.int v2_count, .int v2_masts, .ref a2_place, .ref a2_price, .ref a2_trackAside, .ref a2_side, .ref a2_stands, .ref a2_mastPeg])), (a2_place, .inl (cI, 40, .inl f2_place)), (a2_mastPeg, .inl (cI, 40, .inl f2_mastPeg))] U.heap ∧ va_K (dC, dI) vwCl [(cI, .int), (cJ, .long), (cZ, .boolean)] U ∧ va_D (fun _ => True) [(a2, .inr (2, [.int v2_count, .int v2_masts, .ref a2_place, .ref a2_price, .ref a2_trackAside, .ref a2_side, .ref a2_stands, .ref a2_mastPeg])), (a2_place, .inl (cI, 40, .inl f2_place)), (a2_mastPeg, .inl (cI, 40, .inl f2_mastPeg))])) (va_Qi (fun r (u : Unit) => Q r) (fun (u : Unit) t => va_P (dC, dI) vwCl [(a2, .inr (2, [.int v2_count, .int v2_masts, .ref a2_place, .ref a2_price, .ref a2_trackAside, .ref a2_side, .ref a2_stands, .ref a2_mastPeg])), (a2_place, .inl (cI, 40, .inl f2_place)), (a2_mastPeg, .inl (cI, 40, .inl f2_mastPeg))] t.heap ∧ va_K (dC, dI) vwCl [(cI, .int), (cJ, .long), (cZ, .boolean)] t ∧ va_D (va_A [(a2, .inr (2, [.int v2_count, .int v2_masts, .ref a2_place, .ref a2_price, .ref a2_trackAside, .ref a2_side, .ref a2_stands, .ref a2_mastPeg])), (a2_place, .inl (cI, 40, .inl f2_place)), (a2_mastPeg, .inl (cI, 40, .inl f2_mastPeg))] sz) [(a2, .inr (2, [.int v2_count, .int v2_masts, .ref a2_place, .ref a2_price, .ref a2_trackAside, .ref a2_side, .ref a2_stands, .ref a2_mastPeg])), (a2_place, .inl (cI, 40, .inl f2_place)), (a2_mastPeg, .inl (cI, 40, .inl f2_mastPeg))]) (va_A [(a2, .inr (2, [.int v2_count, .int v2_masts, .ref a2_place, .ref a2_price, .ref a2_trackAside, .ref a2_side, .ref a2_stands, .ref a2_mastPeg])), (a2_place, .inl (cI, 40, .inl f2_place)), (a2_mastPeg, .inl (cI, 40, .inl f2_mastPeg))] sz)) 0 0 (va_A [(a2, .inr (2, [.int v2_count, .int v2_masts, .ref a2_place, .ref a2_price, .ref a2_trackAside, .ref a2_side, .ref a2_stands, .ref a2_mastPeg])), (a2_place, .inl (cI, 40, .inl f2_place)), (a2_mastPeg, .inl (cI, 40, .inl f2_mastPeg))] sz) := by
  refine Met.ofW (cc := cX2_spanLength) (maxL := 2) (ret := (some .int)) (by decide) rfl ?_
  intro p e s m args below meth c s₁ B hml hv
  obtain ⟨rfl, hsz, hP, hK, hD0⟩ := hv
  have hx := B.exec
  have hb := B.bytes
  have hr := B.returns
  have hts := atoms_spec (ws := wsX2_spanLength) B.pre
  have hown : s.vm.findClass RX2 = some m.cls := findClass_of_methodNamed B.named
  have hlocks := B.notSynchronized
  subst hsz
  have hD := hD0.self (sz := s.heap.size)
  generalize hAe : va_A [(a2, .inr (2, [.int v2_count, .int v2_masts, .ref a2_place, .ref a2_price, .ref a2_trackAside, .ref a2_side, .ref a2_stands, .ref a2_mastPeg])), (a2_place, .inl (cI, 40, .inl f2_place)), (a2_mastPeg, .inl (cI, 40, .inl f2_mastPeg))] s.heap.size = A at hD ⊢
  have hA : ∀ q : Nat, s.heap.size ≤ q → A q := fun q h => by rw [← hAe]; exact Or.inr h
  have hS : va_S A s.heap s.heap [] := va_S.rf
  have hP : va_P (dC, dI) vwCl [(a2, .inr (2, [.int v2_count, .int v2_masts, .ref a2_place, .ref a2_price, .ref a2_trackAside, .ref a2_side, .ref a2_stands, .ref a2_mastPeg])), (a2_place, .inl (cI, 40, .inl f2_place)), (a2_mastPeg, .inl (cI, 40, .inl f2_mastPeg))] s.heap := hP
  have hl := lv_entry ([.ref a2, .int p1]) (n := 2) (Nat.le_of_ble_eq_true rfl)
  rw [lg_entry_eq]
  generalize (lg_sl ([.ref a2, .int p1]) ++ List.replicate (2 - (lg_sl ([.ref a2, .int p1])).length) Slot.unset).toArray = ls at hl ⊢
  have hl : lv_has ls 2 [(0, .ref a2), (1, .int p1)] := hl
  obtain ⟨H, hHe⟩ : ∃ H, H = s.heap := ⟨_, rfl⟩
  rw [← hHe] at hP
  have hS : va_S A s.heap H [] := by rw [hHe]; exact hS
  rw [← hHe]
  unfold wp_X2_spanLength at hw
  refine lv_aload_n hx hb dX2_spanLength_0 rfl (lv_at hl 0 rfl) ?_
  refine lv_iload_n hx hb dX2_spanLength_1 rfl (lv_at hl 1 rfl) ?_
  have hPc := hP.sub (ws' := [(a2, .inr (2, [.int v2_count, .int v2_masts, .ref a2_place, .ref a2_price, .ref a2_trackAside, .ref a2_side, .ref a2_stands, .ref a2_mastPeg])), (a2_place, .inl (cI, 40, .inl f2_place)), (a2_mastPeg, .inl (cI, 40, .inl f2_mastPeg))]) [0, 1, 2] rfl
  have hDc := hD.sub (ws' := [(a2, .inr (2, [.int v2_count, .int v2_masts, .ref a2_place, .ref a2_price, .ref a2_trackAside, .ref a2_side, .ref a2_stands, .ref a2_mastPeg])), (a2_place, .inl (cI, 40, .inl f2_place)), (a2_mastPeg, .inl (cI, 40, .inl f2_mastPeg))]) [0, 1, 2] (by decide) rfl
  have hFc := va_free (wc := [(a2, .inr (2, [.int v2_count, .int v2_masts, .ref a2_place, .ref a2_price, .ref a2_trackAside, .ref a2_side, .ref a2_stands, .ref a2_mastPeg])), (a2_place, .inl (cI, 40, .inl f2_place)), (a2_mastPeg, .inl (cI, 40, .inl f2_mastPeg))]) hD hS hA [0, 1, 2] rfl
  refine va_calli (va_runV (As := [.int p1]) (rest := []) ⟨hx, hb, hml, hown, hts⟩ (c_X2_spanEnd l dC dI cI cJ cZ a2 a2_place a2_price a2_trackAside a2_side a2_stands a2_mastPeg H.size v2_count v2_masts f2_place f2_mastPeg p1 _ hw) (cwV 1 hts gX2_spanLength_X2_spanEnd rfl rfl rfl (by decide +kernel) ⟨Nat.le_of_ble_eq_true rfl, Nat.le_of_ble_eq_true rfl⟩) ⟨fun a U g mk q => by obtain ⟨q0, q1, qP, qK, qD⟩ := q; exact ⟨q0, q1, qP, va_K.moved (u := U) (U := U.calling g mk a) (Vm.Alike.refl U.vm) qK, qD⟩, va_recv hK hP (ci := 2) (q0 := 0) rfl rfl, fun U hU hW => ⟨rfl, by rw [hU], by rw [hU]; exact hPc, va_K.moved hW.alike hK, hDc.weaken (fun _ _ _ _ => trivial)⟩⟩ rfl rfl hl.1 rfl (lv_room (Nat.le_of_ble_eq_true rfl)) dX2_spanLength_2 ⟨(Nat.zero_le _), (Nat.zero_le _)⟩) hS (fun q _ h => hFc q h) hFc (fun r1 u t H1 locs ht hvm hw hB hz1 hk1 hS => ?_)
  obtain ⟨hP1, -, hD1⟩ := hB
  try dsimp only at hw
  rw [ht] at hP1
  obtain ⟨hP, hD⟩ := va_join (wr := []) (w1 := [(a2, .inr (2, [.int v2_count, .int v2_masts, .ref a2_place, .ref a2_price, .ref a2_trackAside, .ref a2_side, .ref a2_stands, .ref a2_mastPeg])), (a2_place, .inl (cI, 40, .inl f2_place)), (a2_mastPeg, .inl (cI, 40, .inl f2_mastPeg))]) hP hD [0, 1, 2] [] rfl rfl (by decide) (by decide) hk1 hFc hP1 hD1
  generalize H1 = H at hP hS ⊢
  have hP : va_P (dC, dI) vwCl [(a2, .inr (2, [.int v2_count, .int v2_masts, .ref a2_place, .ref a2_price, .ref a2_trackAside, .ref a2_side, .ref a2_stands, .ref a2_mastPeg])), (a2_place, .inl (cI, 40, .inl f2_place)), (a2_mastPeg, .inl (cI, 40, .inl f2_mastPeg))] H := hP
  have hD : va_D A [(a2, .inr (2, [.int v2_count, .int v2_masts, .ref a2_place, .ref a2_price, .ref a2_trackAside, .ref a2_side, .ref a2_stands, .ref a2_mastPeg])), (a2_place, .inl (cI, 40, .inl f2_place)), (a2_mastPeg, .inl (cI, 40, .inl f2_mastPeg))] := hD
  refine lv_aload_n hx hb dX2_spanLength_5 rfl (lv_at hl 0 rfl) ?_
  refine lv_iload_n hx hb dX2_spanLength_6 rfl (lv_at hl 1 rfl) ?_
  have hPc := hP.sub (ws' := [(a2, .inr (2, [.int v2_count, .int v2_masts, .ref a2_place, .ref a2_price, .ref a2_trackAside, .ref a2_side, .ref a2_stands, .ref a2_mastPeg])), (a2_place, .inl (cI, 40, .inl f2_place)), (a2_mastPeg, .inl (cI, 40, .inl f2_mastPeg))]) [0, 1, 2] rfl
  have hDc := hD.sub (ws' := [(a2, .inr (2, [.int v2_count, .int v2_masts, .ref a2_place, .ref a2_price, .ref a2_trackAside, .ref a2_side, .ref a2_stands, .ref a2_mastPeg])), (a2_place, .inl (cI, 40, .inl f2_place)), (a2_mastPeg, .inl (cI, 40, .inl f2_mastPeg))]) [0, 1, 2] (by decide) rfl
  have hFc := va_free (wc := [(a2, .inr (2, [.int v2_count, .int v2_masts, .ref a2_place, .ref a2_price, .ref a2_trackAside, .ref a2_side, .ref a2_stands, .ref a2_mastPeg])), (a2_place, .inl (cI, 40, .inl f2_place)), (a2_mastPeg, .inl (cI, 40, .inl f2_mastPeg))]) hD hS hA [0, 1, 2] rfl
  refine va_calli (va_runV (As := [.int p1]) (rest := [.int r1]) ⟨hx, hb, hml, hown, hts⟩ (c_X2_spanBegin l dC dI cI cJ cZ a2 a2_place a2_price a2_trackAside a2_side a2_stands a2_mastPeg H.size v2_count v2_masts f2_place f2_mastPeg p1 _ hw) (cwV 1 hts gX2_spanLength_X2_spanBegin rfl rfl rfl (by decide +kernel) ⟨Nat.le_of_ble_eq_true rfl, Nat.le_of_ble_eq_true rfl⟩) ⟨fun a U g mk q => by obtain ⟨q0, q1, qP, qK, qD⟩ := q; exact ⟨q0, q1, qP, va_K.moved (u := U) (U := U.calling g mk a) (Vm.Alike.refl U.vm) qK, qD⟩, va_recv hK hP (ci := 2) (q0 := 0) rfl rfl, fun U hU hW => ⟨rfl, by rw [hU], by rw [hU]; exact hPc, va_K.moved hW.alike hK, hDc.weaken (fun _ _ _ _ => trivial)⟩⟩ rfl rfl hl.1 rfl (lv_room (Nat.le_of_ble_eq_true rfl)) dX2_spanLength_7 ⟨(Nat.zero_le _), (Nat.zero_le _)⟩) hS (fun q _ h => hFc q h) hFc (fun r2 u t H1 locs ht hvm hw hB hz1 hk1 hS => ?_)
  obtain ⟨hP1, -, hD1⟩ := hB
  try dsimp only at hw
  rw [ht] at hP1
  obtain ⟨hP, hD⟩ := va_join (wr := []) (w1 := [(a2, .inr (2, [.int v2_count, .int v2_masts, .ref a2_place, .ref a2_price, .ref a2_trackAside, .ref a2_side, .ref a2_stands, .ref a2_mastPeg])), (a2_place, .inl (cI, 40, .inl f2_place)), (a2_mastPeg, .inl (cI, 40, .inl f2_mastPeg))]) hP hD [0, 1, 2] [] rfl rfl (by decide) (by decide) hk1 hFc hP1 hD1
  generalize H1 = H at hP hS ⊢
  have hP : va_P (dC, dI) vwCl [(a2, .inr (2, [.int v2_count, .int v2_masts, .ref a2_place, .ref a2_price, .ref a2_trackAside, .ref a2_side, .ref a2_stands, .ref a2_mastPeg])), (a2_place, .inl (cI, 40, .inl f2_place)), (a2_mastPeg, .inl (cI, 40, .inl f2_mastPeg))] H := hP
  have hD : va_D A [(a2, .inr (2, [.int v2_count, .int v2_masts, .ref a2_place, .ref a2_price, .ref a2_trackAside, .ref a2_side, .ref a2_stands, .ref a2_mastPeg])), (a2_place, .inl (cI, 40, .inl f2_place)), (a2_mastPeg, .inl (cI, 40, .inl f2_mastPeg))] := hD
  refine lv_isub hx hb dX2_spanLength_10 ?_
  have hP9 := hP.sub (ws' := [(a2, .inr (2, [.int v2_count, .int v2_masts, .ref a2_place, .ref a2_price, .ref a2_trackAside, .ref a2_side, .ref a2_stands, .ref a2_mastPeg])), (a2_place, .inl (cI, 40, .inl f2_place)), (a2_mastPeg, .inl (cI, 40, .inl f2_mastPeg))]) [0, 1, 2] rfl
  have hD9 := hD.sub (ws' := [(a2, .inr (2, [.int v2_count, .int v2_masts, .ref a2_place, .ref a2_price, .ref a2_trackAside, .ref a2_side, .ref a2_stands, .ref a2_mastPeg])), (a2_place, .inl (cI, 40, .inl f2_place)), (a2_mastPeg, .inl (cI, 40, .inl f2_mastPeg))]) [0, 1, 2] (by decide) rfl
  exact W.iret (v := (r1 - r2)) hx hb hr (fun t ht hW => ⟨⟨(r1 - r2), (), rfl, hw, by rw [ht]; exact hP9, va_K.moved hW.alike hK, hD9⟩, hS.F ht⟩) hS.2.2 dX2_spanLength_11

theorem inX2_lengthOfSpans_X2 : ∀ w ∈ wsX20, w ∈ wsX2_lengthOfSpans := fun _ h => List.mem_cons_of_mem _ (List.mem_append_right _ h)
def wp_X2_lengthOfSpans (Q : Int32 → Prop) (v2_masts : Int32) (f2_place : Nat → Int32) (f2_mastPeg : Nat → Int32) : Prop :=
  (wp_X2_spans (fun r1 => ((r1 ≤ 0 → (Q (0 : Int32) )) ∧ (¬ r1 ≤ 0 → (wp_X2_spans (fun r3 => (wp_X2_spanEnd (fun r4 => (wp_X2_spanBegin (fun r5 => (Q (r4 - r5) )) f2_place f2_mastPeg (0 : Int32))) f2_place f2_mastPeg (r3 - (1 : Int32)))) v2_masts)))) v2_masts)
set_option maxHeartbeats 4000000 in
set_option maxRecDepth 100000 in
theorem c_X2_lengthOfSpans (l : Launch) (dC : Nat → ClassId) (dI : Nat → Nat → Nat) (cI cJ cZ : ClassId) (a2 : Nat) (a2_place : Nat) (a2_price : Nat) (a2_trackAside : Nat) (a2_side : Nat) (a2_stands : Nat) (a2_mastPeg : Nat) (sz : Nat) (v2_count : Int32) (v2_masts : Int32) (f2_place : Nat → Int32) (f2_mastPeg : Nat → Int32) (Q : Int32 → Prop) (hw : wp_X2_lengthOfSpans Q v2_masts f2_place f2_mastPeg ) : Met l yX2_lengthOfSpans wsX2_lengthOfSpans ({ frames := 1, cells := 0, slots := 0, locals := 21 } : Room) (va_Pc [.ref a2] (fun U => U.heap.size = sz ∧ va_P (dC, dI) vwCl [(a2, .inr (2, [.int v2_count, .int v2_masts, .ref a2_place, .ref a2_price, .ref a2_trackAside, .ref a2_side, .ref a2_stands, .ref a2_mastPeg])), (a2_place, .inl (cI, 40, .inl f2_place)), (a2_mastPeg, .inl (cI, 40, .inl f2_mastPeg))] U.heap ∧ va_K (dC, dI) vwCl [(cI, .int), (cJ, .long), (cZ, .boolean)] U ∧ va_D (fun _ => True) [(a2, .inr (2, [.int v2_count, .int v2_masts, .ref a2_place, .ref a2_price, .ref a2_trackAside, .ref a2_side, .ref a2_stands, .ref a2_mastPeg])), (a2_place, .inl (cI, 40, .inl f2_place)), (a2_mastPeg, .inl (cI, 40, .inl f2_mastPeg))])) (va_Qi (fun r (u : Unit) => Q r) (fun (u : Unit) t => va_P (dC, dI) vwCl [(a2, .inr (2, [.int v2_count, .int v2_masts, .ref a2_place, .ref a2_price, .ref a2_trackAside, .ref a2_side, .ref a2_stands, .ref a2_mastPeg])), (a2_place, .inl (cI, 40, .inl f2_place)), (a2_mastPeg, .inl (cI, 40, .inl f2_mastPeg))] t.heap ∧ va_K (dC, dI) vwCl [(cI, .int), (cJ, .long), (cZ, .boolean)] t ∧ va_D (va_A [(a2, .inr (2, [.int v2_count, .int v2_masts, .ref a2_place, .ref a2_price, .ref a2_trackAside, .ref a2_side, .ref a2_stands, .ref a2_mastPeg])), (a2_place, .inl (cI, 40, .inl f2_place)), (a2_mastPeg, .inl (cI, 40, .inl f2_mastPeg))] sz) [(a2, .inr (2, [.int v2_count, .int v2_masts, .ref a2_place, .ref a2_price, .ref a2_trackAside, .ref a2_side, .ref a2_stands, .ref a2_mastPeg])), (a2_place, .inl (cI, 40, .inl f2_place)), (a2_mastPeg, .inl (cI, 40, .inl f2_mastPeg))]) (va_A [(a2, .inr (2, [.int v2_count, .int v2_masts, .ref a2_place, .ref a2_price, .ref a2_trackAside, .ref a2_side, .ref a2_stands, .ref a2_mastPeg])), (a2_place, .inl (cI, 40, .inl f2_place)), (a2_mastPeg, .inl (cI, 40, .inl f2_mastPeg))] sz)) 0 0 (va_A [(a2, .inr (2, [.int v2_count, .int v2_masts, .ref a2_place, .ref a2_price, .ref a2_trackAside, .ref a2_side, .ref a2_stands, .ref a2_mastPeg])), (a2_place, .inl (cI, 40, .inl f2_place)), (a2_mastPeg, .inl (cI, 40, .inl f2_mastPeg))] sz) := by
  refine Met.ofW (cc := cX2_lengthOfSpans) (maxL := 1) (ret := (some .int)) (by decide) rfl ?_
  intro p e s m args below meth c s₁ B hml hv
  obtain ⟨rfl, hsz, hP, hK, hD0⟩ := hv
  have hx := B.exec
  have hb := B.bytes
  have hr := B.returns
  have hts := atoms_spec (ws := wsX2_lengthOfSpans) B.pre
  have hown : s.vm.findClass RX2 = some m.cls := findClass_of_methodNamed B.named
  have hlocks := B.notSynchronized
  subst hsz
  have hD := hD0.self (sz := s.heap.size)
  generalize hAe : va_A [(a2, .inr (2, [.int v2_count, .int v2_masts, .ref a2_place, .ref a2_price, .ref a2_trackAside, .ref a2_side, .ref a2_stands, .ref a2_mastPeg])), (a2_place, .inl (cI, 40, .inl f2_place)), (a2_mastPeg, .inl (cI, 40, .inl f2_mastPeg))] s.heap.size = A at hD ⊢
  have hA : ∀ q : Nat, s.heap.size ≤ q → A q := fun q h => by rw [← hAe]; exact Or.inr h
  have hS : va_S A s.heap s.heap [] := va_S.rf
  have hP : va_P (dC, dI) vwCl [(a2, .inr (2, [.int v2_count, .int v2_masts, .ref a2_place, .ref a2_price, .ref a2_trackAside, .ref a2_side, .ref a2_stands, .ref a2_mastPeg])), (a2_place, .inl (cI, 40, .inl f2_place)), (a2_mastPeg, .inl (cI, 40, .inl f2_mastPeg))] s.heap := hP
  have hl := lv_entry ([.ref a2]) (n := 1) (Nat.le_of_ble_eq_true rfl)
  rw [lg_entry_eq]
  generalize (lg_sl ([.ref a2]) ++ List.replicate (1 - (lg_sl ([.ref a2])).length) Slot.unset).toArray = ls at hl ⊢
  have hl : lv_has ls 1 [(0, .ref a2)] := hl
  obtain ⟨H, hHe⟩ : ∃ H, H = s.heap := ⟨_, rfl⟩
  rw [← hHe] at hP
  have hS : va_S A s.heap H [] := by rw [hHe]; exact hS
  rw [← hHe]
  unfold wp_X2_lengthOfSpans at hw
  refine lv_aload_n hx hb dX2_lengthOfSpans_0 rfl (lv_at hl 0 rfl) ?_
  have hPc := hP.sub (ws' := [(a2, .inr (2, [.int v2_count, .int v2_masts, .ref a2_place, .ref a2_price, .ref a2_trackAside, .ref a2_side, .ref a2_stands, .ref a2_mastPeg]))]) [0] rfl
  have hDc := hD.sub (ws' := [(a2, .inr (2, [.int v2_count, .int v2_masts, .ref a2_place, .ref a2_price, .ref a2_trackAside, .ref a2_side, .ref a2_stands, .ref a2_mastPeg]))]) [0] (by decide) rfl
  have hFc := va_free (wc := [(a2, .inr (2, [.int v2_count, .int v2_masts, .ref a2_place, .ref a2_price, .ref a2_trackAside, .ref a2_side, .ref a2_stands, .ref a2_mastPeg]))]) hD hS hA [0] rfl
  refine va_calli (va_runV (As := []) (rest := []) ⟨hx, hb, hml, hown, hts⟩ (c_X2_spans l dC dI cI cJ cZ a2 a2_place a2_price a2_trackAside a2_side a2_stands a2_mastPeg H.size v2_count v2_masts _ hw) (cwV 0 hts gX2_lengthOfSpans_X2_spans rfl rfl rfl (by decide +kernel) ⟨Nat.le_of_ble_eq_true rfl, Nat.le_of_ble_eq_true rfl⟩) ⟨fun a U g mk q => by obtain ⟨q0, q1, qP, qK, qD⟩ := q; exact ⟨q0, q1, qP, va_K.moved (u := U) (U := U.calling g mk a) (Vm.Alike.refl U.vm) qK, qD⟩, va_recv hK hP (ci := 2) (q0 := 0) rfl rfl, fun U hU hW => ⟨rfl, by rw [hU], by rw [hU]; exact hPc, va_K.moved hW.alike hK, hDc.weaken (fun _ _ _ _ => trivial)⟩⟩ rfl rfl hl.1 rfl (lv_room (Nat.le_of_ble_eq_true rfl)) dX2_lengthOfSpans_1 ⟨(Nat.zero_le _), (Nat.zero_le _)⟩) hS (fun q _ h => hFc q h) hFc (fun r1 u t H1 locs ht hvm hw hB hz1 hk1 hS => ?_)
  obtain ⟨hP1, -, hD1⟩ := hB
  try dsimp only at hw
  rw [ht] at hP1
  obtain ⟨hP, hD⟩ := va_join (wr := [(a2_place, .inl (cI, 40, .inl f2_place)), (a2_mastPeg, .inl (cI, 40, .inl f2_mastPeg))]) (w1 := [(a2, .inr (2, [.int v2_count, .int v2_masts, .ref a2_place, .ref a2_price, .ref a2_trackAside, .ref a2_side, .ref a2_stands, .ref a2_mastPeg]))]) hP hD [0] [1, 2] rfl rfl (by decide) (by decide) hk1 hFc hP1 hD1
  generalize H1 = H at hP hS ⊢
  have hP : va_P (dC, dI) vwCl [(a2_place, .inl (cI, 40, .inl f2_place)), (a2_mastPeg, .inl (cI, 40, .inl f2_mastPeg)), (a2, .inr (2, [.int v2_count, .int v2_masts, .ref a2_place, .ref a2_price, .ref a2_trackAside, .ref a2_side, .ref a2_stands, .ref a2_mastPeg]))] H := hP
  have hD : va_D A [(a2_place, .inl (cI, 40, .inl f2_place)), (a2_mastPeg, .inl (cI, 40, .inl f2_mastPeg)), (a2, .inr (2, [.int v2_count, .int v2_masts, .ref a2_place, .ref a2_price, .ref a2_trackAside, .ref a2_side, .ref a2_stands, .ref a2_mastPeg]))] := hD
  refine lv_if_le (tgt := 26) hx hb dX2_lengthOfSpans_4 (by decide) (fun c2 => ?_) (fun c2 => ?_)
  · replace hw := hw.1 (c2)
    refine lv_iconst (v := (0 : Int32)) hx hb dX2_lengthOfSpans_26 (by decide) ?_
    have hP9 := hP.sub (ws' := [(a2, .inr (2, [.int v2_count, .int v2_masts, .ref a2_place, .ref a2_price, .ref a2_trackAside, .ref a2_side, .ref a2_stands, .ref a2_mastPeg])), (a2_place, .inl (cI, 40, .inl f2_place)), (a2_mastPeg, .inl (cI, 40, .inl f2_mastPeg))]) [2, 0, 1] rfl
    have hD9 := hD.sub (ws' := [(a2, .inr (2, [.int v2_count, .int v2_masts, .ref a2_place, .ref a2_price, .ref a2_trackAside, .ref a2_side, .ref a2_stands, .ref a2_mastPeg])), (a2_place, .inl (cI, 40, .inl f2_place)), (a2_mastPeg, .inl (cI, 40, .inl f2_mastPeg))]) [2, 0, 1] (by decide) rfl
    exact W.iret (v := (0 : Int32)) hx hb hr (fun t ht hW => ⟨⟨(0 : Int32), (), rfl, hw, by rw [ht]; exact hP9, va_K.moved hW.alike hK, hD9⟩, hS.F ht⟩) hS.2.2 dX2_lengthOfSpans_27
  · replace hw := hw.2 (c2)
    refine lv_aload_n hx hb dX2_lengthOfSpans_7 rfl (lv_at hl 0 rfl) ?_
    refine lv_aload_n hx hb dX2_lengthOfSpans_8 rfl (lv_at hl 0 rfl) ?_
    have hPc := hP.sub (ws' := [(a2, .inr (2, [.int v2_count, .int v2_masts, .ref a2_place, .ref a2_price, .ref a2_trackAside, .ref a2_side, .ref a2_stands, .ref a2_mastPeg]))]) [2] rfl
    have hDc := hD.sub (ws' := [(a2, .inr (2, [.int v2_count, .int v2_masts, .ref a2_place, .ref a2_price, .ref a2_trackAside, .ref a2_side, .ref a2_stands, .ref a2_mastPeg]))]) [2] (by decide) rfl
    have hFc := va_free (wc := [(a2, .inr (2, [.int v2_count, .int v2_masts, .ref a2_place, .ref a2_price, .ref a2_trackAside, .ref a2_side, .ref a2_stands, .ref a2_mastPeg]))]) hD hS hA [2] rfl
    refine va_calli (va_runV (As := []) (rest := [.ref a2]) ⟨hx, hb, hml, hown, hts⟩ (c_X2_spans l dC dI cI cJ cZ a2 a2_place a2_price a2_trackAside a2_side a2_stands a2_mastPeg H.size v2_count v2_masts _ hw) (cwV 0 hts gX2_lengthOfSpans_X2_spans rfl rfl rfl (by decide +kernel) ⟨Nat.le_of_ble_eq_true rfl, Nat.le_of_ble_eq_true rfl⟩) ⟨fun a U g mk q => by obtain ⟨q0, q1, qP, qK, qD⟩ := q; exact ⟨q0, q1, qP, va_K.moved (u := U) (U := U.calling g mk a) (Vm.Alike.refl U.vm) qK, qD⟩, va_recv hK hP (ci := 2) (q0 := 2) rfl rfl, fun U hU hW => ⟨rfl, by rw [hU], by rw [hU]; exact hPc, va_K.moved hW.alike hK, hDc.weaken (fun _ _ _ _ => trivial)⟩⟩ rfl rfl hl.1 rfl (lv_room (Nat.le_of_ble_eq_true rfl)) dX2_lengthOfSpans_9 ⟨(Nat.zero_le _), (Nat.zero_le _)⟩) hS (fun q _ h => hFc q h) hFc (fun r3 u t H1 locs ht hvm hw hB hz1 hk1 hS => ?_)
    obtain ⟨hP1, -, hD1⟩ := hB
    try dsimp only at hw
    rw [ht] at hP1
    obtain ⟨hP, hD⟩ := va_join (wr := [(a2_place, .inl (cI, 40, .inl f2_place)), (a2_mastPeg, .inl (cI, 40, .inl f2_mastPeg))]) (w1 := [(a2, .inr (2, [.int v2_count, .int v2_masts, .ref a2_place, .ref a2_price, .ref a2_trackAside, .ref a2_side, .ref a2_stands, .ref a2_mastPeg]))]) hP hD [2] [0, 1] rfl rfl (by decide) (by decide) hk1 hFc hP1 hD1
    generalize H1 = H at hP hS ⊢
    have hP : va_P (dC, dI) vwCl [(a2_place, .inl (cI, 40, .inl f2_place)), (a2_mastPeg, .inl (cI, 40, .inl f2_mastPeg)), (a2, .inr (2, [.int v2_count, .int v2_masts, .ref a2_place, .ref a2_price, .ref a2_trackAside, .ref a2_side, .ref a2_stands, .ref a2_mastPeg]))] H := hP
    have hD : va_D A [(a2_place, .inl (cI, 40, .inl f2_place)), (a2_mastPeg, .inl (cI, 40, .inl f2_mastPeg)), (a2, .inr (2, [.int v2_count, .int v2_masts, .ref a2_place, .ref a2_price, .ref a2_trackAside, .ref a2_side, .ref a2_stands, .ref a2_mastPeg]))] := hD
    refine lv_iconst (v := (1 : Int32)) hx hb dX2_lengthOfSpans_12 (by decide) ?_
    refine lv_isub hx hb dX2_lengthOfSpans_13 ?_
    have hPc := hP.sub (ws' := [(a2, .inr (2, [.int v2_count, .int v2_masts, .ref a2_place, .ref a2_price, .ref a2_trackAside, .ref a2_side, .ref a2_stands, .ref a2_mastPeg])), (a2_place, .inl (cI, 40, .inl f2_place)), (a2_mastPeg, .inl (cI, 40, .inl f2_mastPeg))]) [2, 0, 1] rfl
    have hDc := hD.sub (ws' := [(a2, .inr (2, [.int v2_count, .int v2_masts, .ref a2_place, .ref a2_price, .ref a2_trackAside, .ref a2_side, .ref a2_stands, .ref a2_mastPeg])), (a2_place, .inl (cI, 40, .inl f2_place)), (a2_mastPeg, .inl (cI, 40, .inl f2_mastPeg))]) [2, 0, 1] (by decide) rfl
    have hFc := va_free (wc := [(a2, .inr (2, [.int v2_count, .int v2_masts, .ref a2_place, .ref a2_price, .ref a2_trackAside, .ref a2_side, .ref a2_stands, .ref a2_mastPeg])), (a2_place, .inl (cI, 40, .inl f2_place)), (a2_mastPeg, .inl (cI, 40, .inl f2_mastPeg))]) hD hS hA [2, 0, 1] rfl
    refine va_calli (va_runV (As := [.int (r3 - (1 : Int32))]) (rest := []) ⟨hx, hb, hml, hown, hts⟩ (c_X2_spanEnd l dC dI cI cJ cZ a2 a2_place a2_price a2_trackAside a2_side a2_stands a2_mastPeg H.size v2_count v2_masts f2_place f2_mastPeg (r3 - (1 : Int32)) _ hw) (cwV 1 hts gX2_lengthOfSpans_X2_spanEnd rfl rfl rfl (by decide +kernel) ⟨Nat.le_of_ble_eq_true rfl, Nat.le_of_ble_eq_true rfl⟩) ⟨fun a U g mk q => by obtain ⟨q0, q1, qP, qK, qD⟩ := q; exact ⟨q0, q1, qP, va_K.moved (u := U) (U := U.calling g mk a) (Vm.Alike.refl U.vm) qK, qD⟩, va_recv hK hP (ci := 2) (q0 := 2) rfl rfl, fun U hU hW => ⟨rfl, by rw [hU], by rw [hU]; exact hPc, va_K.moved hW.alike hK, hDc.weaken (fun _ _ _ _ => trivial)⟩⟩ rfl rfl hl.1 rfl (lv_room (Nat.le_of_ble_eq_true rfl)) dX2_lengthOfSpans_14 ⟨(Nat.zero_le _), (Nat.zero_le _)⟩) hS (fun q _ h => hFc q h) hFc (fun r4 u t H1 locs ht hvm hw hB hz1 hk1 hS => ?_)
    obtain ⟨hP1, -, hD1⟩ := hB
    try dsimp only at hw
    rw [ht] at hP1
    obtain ⟨hP, hD⟩ := va_join (wr := []) (w1 := [(a2, .inr (2, [.int v2_count, .int v2_masts, .ref a2_place, .ref a2_price, .ref a2_trackAside, .ref a2_side, .ref a2_stands, .ref a2_mastPeg])), (a2_place, .inl (cI, 40, .inl f2_place)), (a2_mastPeg, .inl (cI, 40, .inl f2_mastPeg))]) hP hD [2, 0, 1] [] rfl rfl (by decide) (by decide) hk1 hFc hP1 hD1
    generalize H1 = H at hP hS ⊢
    have hP : va_P (dC, dI) vwCl [(a2, .inr (2, [.int v2_count, .int v2_masts, .ref a2_place, .ref a2_price, .ref a2_trackAside, .ref a2_side, .ref a2_stands, .ref a2_mastPeg])), (a2_place, .inl (cI, 40, .inl f2_place)), (a2_mastPeg, .inl (cI, 40, .inl f2_mastPeg))] H := hP
    have hD : va_D A [(a2, .inr (2, [.int v2_count, .int v2_masts, .ref a2_place, .ref a2_price, .ref a2_trackAside, .ref a2_side, .ref a2_stands, .ref a2_mastPeg])), (a2_place, .inl (cI, 40, .inl f2_place)), (a2_mastPeg, .inl (cI, 40, .inl f2_mastPeg))] := hD
    refine lv_aload_n hx hb dX2_lengthOfSpans_17 rfl (lv_at hl 0 rfl) ?_
    refine lv_iconst (v := (0 : Int32)) hx hb dX2_lengthOfSpans_18 (by decide) ?_
    have hPc := hP.sub (ws' := [(a2, .inr (2, [.int v2_count, .int v2_masts, .ref a2_place, .ref a2_price, .ref a2_trackAside, .ref a2_side, .ref a2_stands, .ref a2_mastPeg])), (a2_place, .inl (cI, 40, .inl f2_place)), (a2_mastPeg, .inl (cI, 40, .inl f2_mastPeg))]) [0, 1, 2] rfl
    have hDc := hD.sub (ws' := [(a2, .inr (2, [.int v2_count, .int v2_masts, .ref a2_place, .ref a2_price, .ref a2_trackAside, .ref a2_side, .ref a2_stands, .ref a2_mastPeg])), (a2_place, .inl (cI, 40, .inl f2_place)), (a2_mastPeg, .inl (cI, 40, .inl f2_mastPeg))]) [0, 1, 2] (by decide) rfl
    have hFc := va_free (wc := [(a2, .inr (2, [.int v2_count, .int v2_masts, .ref a2_place, .ref a2_price, .ref a2_trackAside, .ref a2_side, .ref a2_stands, .ref a2_mastPeg])), (a2_place, .inl (cI, 40, .inl f2_place)), (a2_mastPeg, .inl (cI, 40, .inl f2_mastPeg))]) hD hS hA [0, 1, 2] rfl
    refine va_calli (va_runV (As := [.int (0 : Int32)]) (rest := [.int r4]) ⟨hx, hb, hml, hown, hts⟩ (c_X2_spanBegin l dC dI cI cJ cZ a2 a2_place a2_price a2_trackAside a2_side a2_stands a2_mastPeg H.size v2_count v2_masts f2_place f2_mastPeg (0 : Int32) _ hw) (cwV 1 hts gX2_lengthOfSpans_X2_spanBegin rfl rfl rfl (by decide +kernel) ⟨Nat.le_of_ble_eq_true rfl, Nat.le_of_ble_eq_true rfl⟩) ⟨fun a U g mk q => by obtain ⟨q0, q1, qP, qK, qD⟩ := q; exact ⟨q0, q1, qP, va_K.moved (u := U) (U := U.calling g mk a) (Vm.Alike.refl U.vm) qK, qD⟩, va_recv hK hP (ci := 2) (q0 := 0) rfl rfl, fun U hU hW => ⟨rfl, by rw [hU], by rw [hU]; exact hPc, va_K.moved hW.alike hK, hDc.weaken (fun _ _ _ _ => trivial)⟩⟩ rfl rfl hl.1 rfl (lv_room (Nat.le_of_ble_eq_true rfl)) dX2_lengthOfSpans_19 ⟨(Nat.zero_le _), (Nat.zero_le _)⟩) hS (fun q _ h => hFc q h) hFc (fun r5 u t H1 locs ht hvm hw hB hz1 hk1 hS => ?_)
    obtain ⟨hP1, -, hD1⟩ := hB
    try dsimp only at hw
    rw [ht] at hP1
    obtain ⟨hP, hD⟩ := va_join (wr := []) (w1 := [(a2, .inr (2, [.int v2_count, .int v2_masts, .ref a2_place, .ref a2_price, .ref a2_trackAside, .ref a2_side, .ref a2_stands, .ref a2_mastPeg])), (a2_place, .inl (cI, 40, .inl f2_place)), (a2_mastPeg, .inl (cI, 40, .inl f2_mastPeg))]) hP hD [0, 1, 2] [] rfl rfl (by decide) (by decide) hk1 hFc hP1 hD1
    generalize H1 = H at hP hS ⊢
    have hP : va_P (dC, dI) vwCl [(a2, .inr (2, [.int v2_count, .int v2_masts, .ref a2_place, .ref a2_price, .ref a2_trackAside, .ref a2_side, .ref a2_stands, .ref a2_mastPeg])), (a2_place, .inl (cI, 40, .inl f2_place)), (a2_mastPeg, .inl (cI, 40, .inl f2_mastPeg))] H := hP
    have hD : va_D A [(a2, .inr (2, [.int v2_count, .int v2_masts, .ref a2_place, .ref a2_price, .ref a2_trackAside, .ref a2_side, .ref a2_stands, .ref a2_mastPeg])), (a2_place, .inl (cI, 40, .inl f2_place)), (a2_mastPeg, .inl (cI, 40, .inl f2_mastPeg))] := hD
    refine lv_isub hx hb dX2_lengthOfSpans_22 ?_
    refine lv_goto (tgt := 27) hx hb dX2_lengthOfSpans_23 (by decide) ?_
    have hP9 := hP.sub (ws' := [(a2, .inr (2, [.int v2_count, .int v2_masts, .ref a2_place, .ref a2_price, .ref a2_trackAside, .ref a2_side, .ref a2_stands, .ref a2_mastPeg])), (a2_place, .inl (cI, 40, .inl f2_place)), (a2_mastPeg, .inl (cI, 40, .inl f2_mastPeg))]) [0, 1, 2] rfl
    have hD9 := hD.sub (ws' := [(a2, .inr (2, [.int v2_count, .int v2_masts, .ref a2_place, .ref a2_price, .ref a2_trackAside, .ref a2_side, .ref a2_stands, .ref a2_mastPeg])), (a2_place, .inl (cI, 40, .inl f2_place)), (a2_mastPeg, .inl (cI, 40, .inl f2_mastPeg))]) [0, 1, 2] (by decide) rfl
    exact W.iret (v := (r4 - r5)) hx hb hr (fun t ht hW => ⟨⟨(r4 - r5), (), rfl, hw, by rw [ht]; exact hP9, va_K.moved hW.alike hK, hD9⟩, hS.F ht⟩) hS.2.2 dX2_lengthOfSpans_27

theorem inX2_priceOfMasts_X2 : ∀ w ∈ wsX20, w ∈ wsX2_priceOfMasts := fun _ h => List.mem_cons_of_mem _ (List.mem_append_right _ h)
def wb_X2_priceOfMasts_4 (Q : Int32 → Prop) (v2_masts : Int32) (f2_price : Nat → Int32) (f2_mastPeg : Nat → Int32) (K4 : (Int32) → (Int32) → Prop) (y4_1 : Int32) (y4_2 : Int32) : Prop :=
  ((v2_masts ≤ y4_2 → (Q y4_1 )) ∧ (¬ v2_masts ≤ y4_2 → (vp_in y4_2 40 ∧ (vp_in (f2_mastPeg y4_2.toNatClampNeg) 40 ∧ (∀ x4 : Int32, x4 = (y4_1 + (f2_price (f2_mastPeg y4_2.toNatClampNeg).toNatClampNeg)) → (∀ x5 : Int32, x5 = y4_2 + (1 : Int32) → (K4 x4 x5)))))))
def wl_X2_priceOfMasts_4 (Q : Int32 → Prop) (v2_masts : Int32) (f2_price : Nat → Int32) (f2_mastPeg : Nat → Int32) : Nat → (Int32) → (Int32) → Prop
  | 0, _, _ => False
  | n + 1, y4_1, y4_2 => wb_X2_priceOfMasts_4 Q v2_masts f2_price f2_mastPeg  (wl_X2_priceOfMasts_4 Q v2_masts f2_price f2_mastPeg  n) y4_1 y4_2
def wp_X2_priceOfMasts (Q : Int32 → Prop) (v2_masts : Int32) (f2_price : Nat → Int32) (f2_mastPeg : Nat → Int32) : Prop :=
  (∃ n : Nat, wl_X2_priceOfMasts_4 Q v2_masts f2_price f2_mastPeg  n (0 : Int32) (0 : Int32))
set_option maxHeartbeats 4000000 in
set_option maxRecDepth 100000 in
theorem c_X2_priceOfMasts (l : Launch) (dC : Nat → ClassId) (dI : Nat → Nat → Nat) (cI cJ cZ : ClassId) (a2 : Nat) (a2_place : Nat) (a2_price : Nat) (a2_trackAside : Nat) (a2_side : Nat) (a2_stands : Nat) (a2_mastPeg : Nat) (sz : Nat) (v2_count : Int32) (v2_masts : Int32) (f2_price : Nat → Int32) (f2_mastPeg : Nat → Int32) (Q : Int32 → Prop) (hw : wp_X2_priceOfMasts Q v2_masts f2_price f2_mastPeg ) : Met l yX2_priceOfMasts wsX2_priceOfMasts ({ frames := 0, cells := 0, slots := 0, locals := 0 } : Room) (va_Pc [.ref a2] (fun U => U.heap.size = sz ∧ va_P (dC, dI) vwCl [(a2, .inr (2, [.int v2_count, .int v2_masts, .ref a2_place, .ref a2_price, .ref a2_trackAside, .ref a2_side, .ref a2_stands, .ref a2_mastPeg])), (a2_price, .inl (cI, 40, .inl f2_price)), (a2_mastPeg, .inl (cI, 40, .inl f2_mastPeg))] U.heap ∧ va_K (dC, dI) vwCl [(cI, .int), (cJ, .long), (cZ, .boolean)] U ∧ va_D (fun _ => True) [(a2, .inr (2, [.int v2_count, .int v2_masts, .ref a2_place, .ref a2_price, .ref a2_trackAside, .ref a2_side, .ref a2_stands, .ref a2_mastPeg])), (a2_price, .inl (cI, 40, .inl f2_price)), (a2_mastPeg, .inl (cI, 40, .inl f2_mastPeg))])) (va_Qi (fun r (u : Unit) => Q r) (fun (u : Unit) t => va_P (dC, dI) vwCl [(a2, .inr (2, [.int v2_count, .int v2_masts, .ref a2_place, .ref a2_price, .ref a2_trackAside, .ref a2_side, .ref a2_stands, .ref a2_mastPeg])), (a2_price, .inl (cI, 40, .inl f2_price)), (a2_mastPeg, .inl (cI, 40, .inl f2_mastPeg))] t.heap ∧ va_K (dC, dI) vwCl [(cI, .int), (cJ, .long), (cZ, .boolean)] t ∧ va_D (va_A [(a2, .inr (2, [.int v2_count, .int v2_masts, .ref a2_place, .ref a2_price, .ref a2_trackAside, .ref a2_side, .ref a2_stands, .ref a2_mastPeg])), (a2_price, .inl (cI, 40, .inl f2_price)), (a2_mastPeg, .inl (cI, 40, .inl f2_mastPeg))] sz) [(a2, .inr (2, [.int v2_count, .int v2_masts, .ref a2_place, .ref a2_price, .ref a2_trackAside, .ref a2_side, .ref a2_stands, .ref a2_mastPeg])), (a2_price, .inl (cI, 40, .inl f2_price)), (a2_mastPeg, .inl (cI, 40, .inl f2_mastPeg))]) (va_A [(a2, .inr (2, [.int v2_count, .int v2_masts, .ref a2_place, .ref a2_price, .ref a2_trackAside, .ref a2_side, .ref a2_stands, .ref a2_mastPeg])), (a2_price, .inl (cI, 40, .inl f2_price)), (a2_mastPeg, .inl (cI, 40, .inl f2_mastPeg))] sz)) 0 0 (va_A [(a2, .inr (2, [.int v2_count, .int v2_masts, .ref a2_place, .ref a2_price, .ref a2_trackAside, .ref a2_side, .ref a2_stands, .ref a2_mastPeg])), (a2_price, .inl (cI, 40, .inl f2_price)), (a2_mastPeg, .inl (cI, 40, .inl f2_mastPeg))] sz) := by
  refine Met.ofW (cc := cX2_priceOfMasts) (maxL := 3) (ret := (some .int)) (by decide) rfl ?_
  intro p e s m args below meth c s₁ B hml hv
  obtain ⟨rfl, hsz, hP, hK, hD0⟩ := hv
  have hx := B.exec
  have hb := B.bytes
  have hr := B.returns
  have hts := atoms_spec (ws := wsX2_priceOfMasts) B.pre
  have hown : s.vm.findClass RX2 = some m.cls := findClass_of_methodNamed B.named
  have hlocks := B.notSynchronized
  subst hsz
  have hD := hD0.self (sz := s.heap.size)
  generalize hAe : va_A [(a2, .inr (2, [.int v2_count, .int v2_masts, .ref a2_place, .ref a2_price, .ref a2_trackAside, .ref a2_side, .ref a2_stands, .ref a2_mastPeg])), (a2_price, .inl (cI, 40, .inl f2_price)), (a2_mastPeg, .inl (cI, 40, .inl f2_mastPeg))] s.heap.size = A at hD ⊢
  have hA : ∀ q : Nat, s.heap.size ≤ q → A q := fun q h => by rw [← hAe]; exact Or.inr h
  have hS : va_S A s.heap s.heap [] := va_S.rf
  have hP : va_P (dC, dI) vwCl [(a2, .inr (2, [.int v2_count, .int v2_masts, .ref a2_place, .ref a2_price, .ref a2_trackAside, .ref a2_side, .ref a2_stands, .ref a2_mastPeg])), (a2_price, .inl (cI, 40, .inl f2_price)), (a2_mastPeg, .inl (cI, 40, .inl f2_mastPeg))] s.heap := hP
  have lk1 := hts (.fieldLink RX2 40 "WireRow$PegRow" "masts" "I") (by decide +kernel)
  have lk2 := hts (.fieldLink RX2 15 "WireRow$PegRow" "price" "[I") (by decide +kernel)
  have lk3 := hts (.fieldLink RX2 29 "WireRow$PegRow" "mastPeg" "[I") (by decide +kernel)
  have k_4 : ∀ (n_4 : Nat) (y4_1 : Int32) (y4_2 : Int32) (H : Heap) (locs : List Loc) (ls : Array Slot), va_P (dC, dI) vwCl [(a2, .inr (2, [.int v2_count, .int v2_masts, .ref a2_place, .ref a2_price, .ref a2_trackAside, .ref a2_side, .ref a2_stands, .ref a2_mastPeg])), (a2_price, .inl (cI, 40, .inl f2_price)), (a2_mastPeg, .inl (cI, 40, .inl f2_mastPeg))] H → va_D A [(a2, .inr (2, [.int v2_count, .int v2_masts, .ref a2_place, .ref a2_price, .ref a2_trackAside, .ref a2_side, .ref a2_stands, .ref a2_mastPeg])), (a2_price, .inl (cI, 40, .inl f2_price)), (a2_mastPeg, .inl (cI, 40, .inl f2_mastPeg))] → va_S A s.heap H locs → lv_has ls 3 [(0, .ref a2), (1, .int y4_1), (2, .int y4_2)] → (wl_X2_priceOfMasts_4 Q v2_masts f2_price f2_mastPeg  n_4 y4_1 y4_2) → W p l e (headSpec wsX2_priceOfMasts ({ frames := 0, cells := 0, slots := 0, locals := 0 } : Room)).room s m [.ref a2].toArray below meth c H locs 0 0 (MQ below (va_Qi (fun r (u : Unit) => Q r) (fun (u : Unit) t => va_P (dC, dI) vwCl [(a2, .inr (2, [.int v2_count, .int v2_masts, .ref a2_place, .ref a2_price, .ref a2_trackAside, .ref a2_side, .ref a2_stands, .ref a2_mastPeg])), (a2_price, .inl (cI, 40, .inl f2_price)), (a2_mastPeg, .inl (cI, 40, .inl f2_mastPeg))] t.heap ∧ va_K (dC, dI) vwCl [(cI, .int), (cJ, .long), (cZ, .boolean)] t ∧ va_D A [(a2, .inr (2, [.int v2_count, .int v2_masts, .ref a2_place, .ref a2_price, .ref a2_trackAside, .ref a2_side, .ref a2_stands, .ref a2_mastPeg])), (a2_price, .inl (cI, 40, .inl f2_price)), (a2_mastPeg, .inl (cI, 40, .inl f2_mastPeg))]) A) [.ref a2].toArray s 0 0 A) (F0 m 4 ls []) := by
    intro n_4
    induction n_4 with
    | zero =>
      intro y4_1 y4_2 H locs ls hP hD hS hl hw
      exact False.elim hw
    | succ n_4 ih_4 =>
      intro y4_1 y4_2 H locs ls hP hD hS hl hw
      replace hw : wb_X2_priceOfMasts_4 Q v2_masts f2_price f2_mastPeg  (wl_X2_priceOfMasts_4 Q v2_masts f2_price f2_mastPeg  n_4) y4_1 y4_2 := hw
      unfold wb_X2_priceOfMasts_4 at hw
      refine lv_iload_n hx hb dX2_priceOfMasts_4 rfl (lv_at hl 2 rfl) ?_
      refine lv_aload_n hx hb dX2_priceOfMasts_5 rfl (lv_at hl 0 rfl) ?_
      refine va_get (D := (dC, dI)) (ci := 2) (v := .int v2_masts) (C := RX2) (T := TX2) (N := 8) hx hb hts inX2_priceOfMasts_X2 hown hK hP 0 rfl rfl 1 (by decide) lk1 (fun _ h9 => h9) rfl dX2_priceOfMasts_6 ?_
      refine lv_icmp_ge (tgt := 32) hx hb dX2_priceOfMasts_9 (by decide) (fun c1 => ?_) (fun c1 => ?_)
      · replace hw := hw.1 (c1)
        refine lv_iload_n hx hb dX2_priceOfMasts_32 rfl (lv_at hl 1 rfl) ?_
        have hP9 := hP.sub (ws' := [(a2, .inr (2, [.int v2_count, .int v2_masts, .ref a2_place, .ref a2_price, .ref a2_trackAside, .ref a2_side, .ref a2_stands, .ref a2_mastPeg])), (a2_price, .inl (cI, 40, .inl f2_price)), (a2_mastPeg, .inl (cI, 40, .inl f2_mastPeg))]) [0, 1, 2] rfl
        have hD9 := hD.sub (ws' := [(a2, .inr (2, [.int v2_count, .int v2_masts, .ref a2_place, .ref a2_price, .ref a2_trackAside, .ref a2_side, .ref a2_stands, .ref a2_mastPeg])), (a2_price, .inl (cI, 40, .inl f2_price)), (a2_mastPeg, .inl (cI, 40, .inl f2_mastPeg))]) [0, 1, 2] (by decide) rfl
        exact W.iret (v := y4_1) hx hb hr (fun t ht hW => ⟨⟨y4_1, (), rfl, hw, by rw [ht]; exact hP9, va_K.moved hW.alike hK, hD9⟩, hS.F ht⟩) hS.2.2 dX2_priceOfMasts_33
      · replace hw := hw.2 (c1)
        refine lv_iload_n hx hb dX2_priceOfMasts_12 rfl (lv_at hl 1 rfl) ?_
        refine lv_aload_n hx hb dX2_priceOfMasts_13 rfl (lv_at hl 0 rfl) ?_
        refine va_get (D := (dC, dI)) (ci := 2) (v := .ref a2_price) (C := RX2) (T := TX2) (N := 8) hx hb hts inX2_priceOfMasts_X2 hown hK hP 0 rfl rfl 3 (by decide) lk2 (fun _ h9 => h9) rfl dX2_priceOfMasts_14 ?_
        refine lv_aload_n hx hb dX2_priceOfMasts_17 rfl (lv_at hl 0 rfl) ?_
        refine va_get (D := (dC, dI)) (ci := 2) (v := .ref a2_mastPeg) (C := RX2) (T := TX2) (N := 8) hx hb hts inX2_priceOfMasts_X2 hown hK hP 0 rfl rfl 7 (by decide) lk3 (fun _ h9 => h9) rfl dX2_priceOfMasts_18 ?_
        refine lv_iload_n hx hb dX2_priceOfMasts_21 rfl (lv_at hl 2 rfl) ?_
        obtain ⟨h2, hw⟩ := hw
        refine va_iald hx hb hK hP 2 0 rfl rfl h2 dX2_priceOfMasts_22 ?_
        obtain ⟨h3, hw⟩ := hw
        refine va_iald hx hb hK hP 1 0 rfl rfl h3 dX2_priceOfMasts_23 ?_
        refine lv_iadd hx hb dX2_priceOfMasts_24 ?_
        refine lv_topi (fun x4 ex4 => ?_)
        replace hw := hw x4 ex4
        refine lv_istore_n (lv' := [(1, .int x4), (0, .ref a2), (2, .int y4_2)]) hx hb dX2_priceOfMasts_25 rfl hl (by decide) rfl (fun ls hl => ?_)
        obtain ⟨x5, ex5⟩ : ∃ y : Int32, y = y4_2 + (1 : Int32) := ⟨_, rfl⟩
        replace hw := hw x5 ex5
        refine lv_iinc (v := x5) (lv' := [(2, .int x5), (1, .int x4), (0, .ref a2)]) hx hb dX2_priceOfMasts_26 hl (k := 2) rfl (by rw [ex5]; rfl) (by decide) rfl (fun ls hl => ?_)
        refine lv_goto (tgt := 4) hx hb dX2_priceOfMasts_29 (by decide) ?_
        exact ih_4 x4 x5 _ _ _ (hP.sub [0, 1, 2] rfl) (hD.sub [0, 1, 2] (by decide) rfl) hS (lv_sub hl [2, 1, 0] rfl) hw
  have hl := lv_entry ([.ref a2]) (n := 3) (Nat.le_of_ble_eq_true rfl)
  rw [lg_entry_eq]
  generalize (lg_sl ([.ref a2]) ++ List.replicate (3 - (lg_sl ([.ref a2])).length) Slot.unset).toArray = ls at hl ⊢
  have hl : lv_has ls 3 [(0, .ref a2)] := hl
  obtain ⟨H, hHe⟩ : ∃ H, H = s.heap := ⟨_, rfl⟩
  rw [← hHe] at hP
  have hS : va_S A s.heap H [] := by rw [hHe]; exact hS
  rw [← hHe]
  unfold wp_X2_priceOfMasts at hw
  refine lv_iconst (v := (0 : Int32)) hx hb dX2_priceOfMasts_0 (by decide) ?_
  refine lv_istore_n (lv' := [(1, .int (0 : Int32)), (0, .ref a2)]) hx hb dX2_priceOfMasts_1 rfl hl (by decide) rfl (fun ls hl => ?_)
  refine lv_iconst (v := (0 : Int32)) hx hb dX2_priceOfMasts_2 (by decide) ?_
  refine lv_istore_n (lv' := [(2, .int (0 : Int32)), (1, .int (0 : Int32)), (0, .ref a2)]) hx hb dX2_priceOfMasts_3 rfl hl (by decide) rfl (fun ls hl => ?_)
  obtain ⟨n_4, hw⟩ := hw
  exact k_4 n_4 (0 : Int32) (0 : Int32) _ _ _ (hP.sub [0, 1, 2] rfl) (hD.sub [0, 1, 2] (by decide) rfl) hS (lv_sub hl [2, 1, 0] rfl) hw

theorem inX3_take_X3 : ∀ w ∈ wsX30, w ∈ wsX3_take := fun _ h => List.mem_cons_of_mem _ (List.mem_append_right _ h)
def wp_X3_take (Q : (Int32) → (Nat → Int32) → Prop) (v3_count : Int32) (f3_piece : Nat → Int32) (p1 : Int32) : Prop :=
  ((v3_count < 0 → (Q v3_count f3_piece)) ∧ (¬ v3_count < 0 → (((14 : Int32) ≤ v3_count → (Q v3_count f3_piece)) ∧ (¬ (14 : Int32) ≤ v3_count → (vp_in v3_count 14 ∧ (∀ g4 : Nat → Int32, g4 = upd f3_piece v3_count.toNatClampNeg p1 → (∀ x5 : Int32, x5 = (v3_count + (1 : Int32)) → (Q x5 g4))))))))
set_option maxHeartbeats 4000000 in
set_option maxRecDepth 100000 in
theorem c_X3_take (l : Launch) (dC : Nat → ClassId) (dI : Nat → Nat → Nat) (cI cJ cZ : ClassId) (a3 : Nat) (a3_piece : Nat) (a3_best : Nat) (sz : Nat) (v3_count : Int32) (f3_piece : Nat → Int32) (p1 : Int32) (Q : (Int32) → (Nat → Int32) → Prop) (hw : wp_X3_take Q v3_count f3_piece p1) : Met l yX3_take wsX3_take ({ frames := 0, cells := 0, slots := 0, locals := 0 } : Room) (va_Pc [.ref a3, .int p1] (fun U => U.heap.size = sz ∧ va_P (dC, dI) vwCl [(a3, .inr (3, [.int v3_count, .ref a3_piece, .ref a3_best])), (a3_piece, .inl (cI, 14, .inl f3_piece))] U.heap ∧ va_K (dC, dI) vwCl [(cI, .int), (cJ, .long), (cZ, .boolean)] U ∧ va_D (fun _ => True) [(a3, .inr (3, [.int v3_count, .ref a3_piece, .ref a3_best])), (a3_piece, .inl (cI, 14, .inl f3_piece))])) (va_Qv (fun (u : (Int32) × (Nat → Int32)) => Q u.1 u.2) (fun (u : (Int32) × (Nat → Int32)) t => va_P (dC, dI) vwCl [(a3, .inr (3, [.int u.1, .ref a3_piece, .ref a3_best])), (a3_piece, .inl (cI, 14, .inl u.2))] t.heap ∧ va_K (dC, dI) vwCl [(cI, .int), (cJ, .long), (cZ, .boolean)] t ∧ va_D (va_A [(a3, .inr (3, [.int v3_count, .ref a3_piece, .ref a3_best])), (a3_piece, .inl (cI, 14, .inl f3_piece))] sz) [(a3, .inr (3, [.int u.1, .ref a3_piece, .ref a3_best])), (a3_piece, .inl (cI, 14, .inl u.2))]) (va_A [(a3, .inr (3, [.int v3_count, .ref a3_piece, .ref a3_best])), (a3_piece, .inl (cI, 14, .inl f3_piece))] sz)) 0 0 (va_A [(a3, .inr (3, [.int v3_count, .ref a3_piece, .ref a3_best])), (a3_piece, .inl (cI, 14, .inl f3_piece))] sz) := by
  refine Met.ofW (cc := cX3_take) (maxL := 2) (ret := none) (by decide) rfl ?_
  intro p e s m args below meth c s₁ B hml hv
  obtain ⟨rfl, hsz, hP, hK, hD0⟩ := hv
  have hx := B.exec
  have hb := B.bytes
  have hr := B.returns
  have hts := atoms_spec (ws := wsX3_take) B.pre
  have hown : s.vm.findClass RX3 = some m.cls := findClass_of_methodNamed B.named
  have hlocks := B.notSynchronized
  subst hsz
  have hD := hD0.self (sz := s.heap.size)
  generalize hAe : va_A [(a3, .inr (3, [.int v3_count, .ref a3_piece, .ref a3_best])), (a3_piece, .inl (cI, 14, .inl f3_piece))] s.heap.size = A at hD ⊢
  have hA : ∀ q : Nat, s.heap.size ≤ q → A q := fun q h => by rw [← hAe]; exact Or.inr h
  have hS : va_S A s.heap s.heap [] := va_S.rf
  have hP : va_P (dC, dI) vwCl [(a3, .inr (3, [.int v3_count, .ref a3_piece, .ref a3_best])), (a3_piece, .inl (cI, 14, .inl f3_piece))] s.heap := hP
  have lk1 := hts (.fieldLink RX3 18 "WireRow$Saw" "count" "I") (by decide +kernel)
  have lk2 := hts (.fieldLink RX3 9 "WireRow$Saw" "piece" "[I") (by decide +kernel)
  have hl := lv_entry ([.ref a3, .int p1]) (n := 2) (Nat.le_of_ble_eq_true rfl)
  rw [lg_entry_eq]
  generalize (lg_sl ([.ref a3, .int p1]) ++ List.replicate (2 - (lg_sl ([.ref a3, .int p1])).length) Slot.unset).toArray = ls at hl ⊢
  have hl : lv_has ls 2 [(0, .ref a3), (1, .int p1)] := hl
  obtain ⟨H, hHe⟩ : ∃ H, H = s.heap := ⟨_, rfl⟩
  rw [← hHe] at hP
  have hS : va_S A s.heap H [] := by rw [hHe]; exact hS
  rw [← hHe]
  unfold wp_X3_take at hw
  refine lv_aload_n hx hb dX3_take_0 rfl (lv_at hl 0 rfl) ?_
  refine va_get (D := (dC, dI)) (ci := 3) (v := .int v3_count) (C := RX3) (T := TX3) (N := 3) hx hb hts inX3_take_X3 hown hK hP 0 rfl rfl 0 (by decide) lk1 (fun _ h9 => h9) rfl dX3_take_1 ?_
  refine lv_if_lt (tgt := 36) hx hb dX3_take_4 (by decide) (fun c1 => ?_) (fun c1 => ?_)
  · replace hw := hw.1 (c1)
    have hP9 := hP.sub (ws' := [(a3, .inr (3, [.int v3_count, .ref a3_piece, .ref a3_best])), (a3_piece, .inl (cI, 14, .inl f3_piece))]) [0, 1] rfl
    have hD9 := hD.sub (ws' := [(a3, .inr (3, [.int v3_count, .ref a3_piece, .ref a3_best])), (a3_piece, .inl (cI, 14, .inl f3_piece))]) [0, 1] (by decide) rfl
    exact W.vret hx hb hr (fun t ht hW => ⟨⟨(v3_count, f3_piece), rfl, hw, by rw [ht]; exact hP9, va_K.moved hW.alike hK, hD9⟩, hS.F ht⟩) hS.2.2 dX3_take_36
  · replace hw := hw.2 (c1)
    refine lv_aload_n hx hb dX3_take_7 rfl (lv_at hl 0 rfl) ?_
    refine va_get (D := (dC, dI)) (ci := 3) (v := .int v3_count) (C := RX3) (T := TX3) (N := 3) hx hb hts inX3_take_X3 hown hK hP 0 rfl rfl 0 (by decide) lk1 (fun _ h9 => h9) rfl dX3_take_8 ?_
    refine lv_bipush (v := (14 : Int32)) hx hb dX3_take_11 (by decide) ?_
    refine lv_icmp_ge (tgt := 36) hx hb dX3_take_13 (by decide) (fun c2 => ?_) (fun c2 => ?_)
    · replace hw := hw.1 (c2)
      have hP9 := hP.sub (ws' := [(a3, .inr (3, [.int v3_count, .ref a3_piece, .ref a3_best])), (a3_piece, .inl (cI, 14, .inl f3_piece))]) [0, 1] rfl
      have hD9 := hD.sub (ws' := [(a3, .inr (3, [.int v3_count, .ref a3_piece, .ref a3_best])), (a3_piece, .inl (cI, 14, .inl f3_piece))]) [0, 1] (by decide) rfl
      exact W.vret hx hb hr (fun t ht hW => ⟨⟨(v3_count, f3_piece), rfl, hw, by rw [ht]; exact hP9, va_K.moved hW.alike hK, hD9⟩, hS.F ht⟩) hS.2.2 dX3_take_36
    · replace hw := hw.2 (c2)
      refine lv_aload_n hx hb dX3_take_16 rfl (lv_at hl 0 rfl) ?_
      refine va_get (D := (dC, dI)) (ci := 3) (v := .ref a3_piece) (C := RX3) (T := TX3) (N := 3) hx hb hts inX3_take_X3 hown hK hP 0 rfl rfl 1 (by decide) lk2 (fun _ h9 => h9) rfl dX3_take_17 ?_
      refine lv_aload_n hx hb dX3_take_20 rfl (lv_at hl 0 rfl) ?_
      refine va_get (D := (dC, dI)) (ci := 3) (v := .int v3_count) (C := RX3) (T := TX3) (N := 3) hx hb hts inX3_take_X3 hown hK hP 0 rfl rfl 0 (by decide) lk1 (fun _ h9 => h9) rfl dX3_take_21 ?_
      refine lv_iload_n hx hb dX3_take_24 rfl (lv_at hl 1 rfl) ?_
      obtain ⟨h3, hw⟩ := hw
      refine va_iast hx hb hK hP hD hS 1 0 rfl rfl h3 dX3_take_25 (fun H locs hP hD hS => ?_)
      obtain ⟨g4, eg4⟩ : ∃ y : Nat → Int32, y = upd f3_piece v3_count.toNatClampNeg p1 := ⟨_, rfl⟩
      replace hw := hw g4 eg4
      have hP : va_P (dC, dI) vwCl [(a3, .inr (3, [.int v3_count, .ref a3_piece, .ref a3_best])), (a3_piece, .inl (cI, 14, .inl g4))] H := by rw [eg4]; exact hP
      have hD : va_D A [(a3, .inr (3, [.int v3_count, .ref a3_piece, .ref a3_best])), (a3_piece, .inl (cI, 14, .inl g4))] := by rw [eg4]; exact hD
      refine lv_aload_n hx hb dX3_take_26 rfl (lv_at hl 0 rfl) ?_
      refine lv_dup hx hb dX3_take_27 rfl ?_
      refine va_get (D := (dC, dI)) (ci := 3) (v := .int v3_count) (C := RX3) (T := TX3) (N := 3) hx hb hts inX3_take_X3 hown hK hP 0 rfl rfl 0 (by decide) lk1 (fun _ h9 => h9) rfl dX3_take_28 ?_
      refine lv_iconst (v := (1 : Int32)) hx hb dX3_take_31 (by decide) ?_
      refine lv_iadd hx hb dX3_take_32 ?_
      refine lv_topi (fun x5 ex5 => ?_)
      replace hw := hw x5 ex5
      refine va_put (D := (dC, dI)) (ci := 3) (v := .int x5) (ty := .int) (C := RX3) (T := TX3) (N := 3) hx hb hts inX3_take_X3 tyX3 tyX3_ok nmX3 hown hK hP hD hS 0 rfl rfl 0 (by decide) lk1 (fun _ h9 => h9) rfl (by decide +kernel) rfl rfl (Nat.le_of_ble_eq_true rfl) dX3_take_33 (fun H locs hP hD hS => ?_)
      have hP : va_P (dC, dI) vwCl [(a3, .inr (3, [.int x5, .ref a3_piece, .ref a3_best])), (a3_piece, .inl (cI, 14, .inl g4))] H := hP
      have hD : va_D A [(a3, .inr (3, [.int x5, .ref a3_piece, .ref a3_best])), (a3_piece, .inl (cI, 14, .inl g4))] := hD
      have hP9 := hP.sub (ws' := [(a3, .inr (3, [.int x5, .ref a3_piece, .ref a3_best])), (a3_piece, .inl (cI, 14, .inl g4))]) [0, 1] rfl
      have hD9 := hD.sub (ws' := [(a3, .inr (3, [.int x5, .ref a3_piece, .ref a3_best])), (a3_piece, .inl (cI, 14, .inl g4))]) [0, 1] (by decide) rfl
      exact W.vret hx hb hr (fun t ht hW => ⟨⟨(x5, g4), rfl, hw, by rw [ht]; exact hP9, va_K.moved hW.alike hK, hD9⟩, hS.F ht⟩) hS.2.2 dX3_take_36

def wp_X3_withPiece (Q : Int32 → Prop) (p1 : Int32) (p2 : Int32) (p3 : Int32) : Prop :=
  ((p3 < ((p1 - p1 / (32768 : Int32) * (32768 : Int32)) + p2) → (Q ((((p1 / (32768 : Int32)) + (1 : Int32)) * (32768 : Int32)) + p2) )) ∧ (¬ p3 < ((p1 - p1 / (32768 : Int32) * (32768 : Int32)) + p2) → (Q (p1 + p2) )))
set_option maxHeartbeats 4000000 in
set_option maxRecDepth 100000 in
theorem c_X3_withPiece (l : Launch) (dC : Nat → ClassId) (dI : Nat → Nat → Nat) (cI cJ cZ : ClassId) (sz : Nat) (p1 : Int32) (p2 : Int32) (p3 : Int32) (Q : Int32 → Prop) (hw : wp_X3_withPiece Q  p1 p2 p3) : Met l yX3_withPiece wsX3_withPiece ({ frames := 0, cells := 0, slots := 0, locals := 0 } : Room) (va_Pc [.int p1, .int p2, .int p3] (fun U => U.heap.size = sz ∧ va_P (dC, dI) vwCl [] U.heap ∧ va_K (dC, dI) vwCl [(cI, .int), (cJ, .long), (cZ, .boolean)] U ∧ va_D (fun _ => True) [])) (va_Qi (fun r (u : Unit) => Q r) (fun (u : Unit) t => va_P (dC, dI) vwCl [] t.heap ∧ va_K (dC, dI) vwCl [(cI, .int), (cJ, .long), (cZ, .boolean)] t ∧ va_D (va_A [] sz) []) (va_A [] sz)) 0 0 (va_A [] sz) := by
  refine Met.ofW (cc := cX3_withPiece) (maxL := 3) (ret := (some .int)) (by decide) rfl ?_
  intro p e s m args below meth c s₁ B hml hv
  obtain ⟨rfl, hsz, hP, hK, hD0⟩ := hv
  have hx := B.exec
  have hb := B.bytes
  have hr := B.returns
  have hts := atoms_spec (ws := wsX3_withPiece) B.pre
  have hown : s.vm.findClass RX3 = some m.cls := findClass_of_methodNamed B.named
  have hlocks := B.notSynchronized
  subst hsz
  have hD := hD0.self (sz := s.heap.size)
  generalize hAe : va_A [] s.heap.size = A at hD ⊢
  have hA : ∀ q : Nat, s.heap.size ≤ q → A q := fun q h => by rw [← hAe]; exact Or.inr h
  have hS : va_S A s.heap s.heap [] := va_S.rf
  have hP : va_P (dC, dI) vwCl [] s.heap := hP
  have lk1 := hts (.constant RX3 22 (32768)) (by decide +kernel)
  have hl := lv_entry ([.int p1, .int p2, .int p3]) (n := 3) (Nat.le_of_ble_eq_true rfl)
  rw [lg_entry_eq]
  generalize (lg_sl ([.int p1, .int p2, .int p3]) ++ List.replicate (3 - (lg_sl ([.int p1, .int p2, .int p3])).length) Slot.unset).toArray = ls at hl ⊢
  have hl : lv_has ls 3 [(0, .int p1), (1, .int p2), (2, .int p3)] := hl
  obtain ⟨H, hHe⟩ : ∃ H, H = s.heap := ⟨_, rfl⟩
  rw [← hHe] at hP
  have hS : va_S A s.heap H [] := by rw [hHe]; exact hS
  rw [← hHe]
  unfold wp_X3_withPiece at hw
  refine lv_iload_n hx hb dX3_withPiece_0 rfl (lv_at hl 0 rfl) ?_
  refine lv_ldc (v := (32768 : Int32)) hx hb hown lk1 dX3_withPiece_1 ?_
  refine lv_irem hx hb dX3_withPiece_3 (by decide) ?_
  refine lv_iload_n hx hb dX3_withPiece_4 rfl (lv_at hl 1 rfl) ?_
  refine lv_iadd hx hb dX3_withPiece_5 ?_
  refine lv_iload_n hx hb dX3_withPiece_6 rfl (lv_at hl 2 rfl) ?_
  refine lv_icmp_gt (tgt := 14) hx hb dX3_withPiece_7 (by decide) (fun c2 => ?_) (fun c2 => ?_)
  · replace hw := hw.1 (c2)
    refine lv_iload_n hx hb dX3_withPiece_14 rfl (lv_at hl 0 rfl) ?_
    refine lv_ldc (v := (32768 : Int32)) hx hb hown lk1 dX3_withPiece_15 ?_
    refine lv_idiv hx hb dX3_withPiece_17 (by decide) ?_
    refine lv_iconst (v := (1 : Int32)) hx hb dX3_withPiece_18 (by decide) ?_
    refine lv_iadd hx hb dX3_withPiece_19 ?_
    refine lv_ldc (v := (32768 : Int32)) hx hb hown lk1 dX3_withPiece_20 ?_
    refine lv_imul hx hb dX3_withPiece_22 ?_
    refine lv_iload_n hx hb dX3_withPiece_23 rfl (lv_at hl 1 rfl) ?_
    refine lv_iadd hx hb dX3_withPiece_24 ?_
    have hP9 := hP.sub (ws' := []) [] rfl
    have hD9 := hD.sub (ws' := []) [] (by decide) rfl
    exact W.iret (v := ((((p1 / (32768 : Int32)) + (1 : Int32)) * (32768 : Int32)) + p2)) hx hb hr (fun t ht hW => ⟨⟨((((p1 / (32768 : Int32)) + (1 : Int32)) * (32768 : Int32)) + p2), (), rfl, hw, by rw [ht]; exact hP9, va_K.moved hW.alike hK, hD9⟩, hS.F ht⟩) hS.2.2 dX3_withPiece_25
  · replace hw := hw.2 (c2)
    refine lv_iload_n hx hb dX3_withPiece_10 rfl (lv_at hl 0 rfl) ?_
    refine lv_iload_n hx hb dX3_withPiece_11 rfl (lv_at hl 1 rfl) ?_
    refine lv_iadd hx hb dX3_withPiece_12 ?_
    have hP9 := hP.sub (ws' := []) [] rfl
    have hD9 := hD.sub (ws' := []) [] (by decide) rfl
    exact W.iret (v := (p1 + p2)) hx hb hr (fun t ht hW => ⟨⟨(p1 + p2), (), rfl, hw, by rw [ht]; exact hP9, va_K.moved hW.alike hK, hD9⟩, hS.F ht⟩) hS.2.2 dX3_withPiece_13

theorem inX3_leastOf_X3 : ∀ w ∈ wsX30, w ∈ wsX3_leastOf := fun _ h => List.mem_cons_of_mem _ (List.mem_append_right _ h)
def wb_X3_leastOf_51 (Q : Int32 → Prop) (v3_count : Int32) (f3_piece : Nat → Int32) (f3_best : Nat → Int32) (n3_best : Nat) (K6 : (Int32) → (Int32) → (Int32) → (Int32) → Prop) (y51_1 : Int32) (y51_2 : Int32) (y51_3 : Int32) (y51_4 : Int32) : Prop :=
  (∀ x3 : Int32, x3 = y51_4 + (1 : Int32) → (K6 y51_1 y51_2 y51_3 x3))
def wb_X3_leastOf_6 (Q : Int32 → Prop) (v3_count : Int32) (f3_piece : Nat → Int32) (f3_best : Nat → Int32) (n3_best : Nat) (K6 : (Int32) → (Int32) → (Int32) → (Int32) → Prop) (y6_1 : Int32) (y6_2 : Int32) (y6_3 : Int32) (y6_4 : Int32) : Prop :=
  ((v3_count ≤ y6_4 → (Q y6_3 )) ∧ (¬ v3_count ≤ y6_4 → (((y6_1 &&& ((1 : Int32) <<< (y6_4 &&& 31))) = 0 → (wb_X3_leastOf_51 Q v3_count f3_piece f3_best n3_best K6 y6_1 y6_2 y6_3 y6_4)) ∧ (¬ (y6_1 &&& ((1 : Int32) <<< (y6_4 &&& 31))) = 0 → (vp_in (y6_1 ^^^ ((1 : Int32) <<< (y6_4 &&& 31))) n3_best ∧ (vp_in y6_4 14 ∧ (wp_X3_withPiece (fun r6 => (∀ x7 : Int32, x7 = (if r6 < y6_3 then r6 else y6_3) → (wb_X3_leastOf_51 Q v3_count f3_piece f3_best n3_best K6 y6_1 y6_2 x7 y6_4))) (f3_best (y6_1 ^^^ ((1 : Int32) <<< (y6_4 &&& 31))).toNatClampNeg) (f3_piece y6_4.toNatClampNeg) y6_2)))))))
def wl_X3_leastOf_6 (Q : Int32 → Prop) (v3_count : Int32) (f3_piece : Nat → Int32) (f3_best : Nat → Int32) (n3_best : Nat) : Nat → (Int32) → (Int32) → (Int32) → (Int32) → Prop
  | 0, _, _, _, _ => False
  | n + 1, y6_1, y6_2, y6_3, y6_4 => wb_X3_leastOf_6 Q v3_count f3_piece f3_best n3_best  (wl_X3_leastOf_6 Q v3_count f3_piece f3_best n3_best  n) y6_1 y6_2 y6_3 y6_4
def wp_X3_leastOf (Q : Int32 → Prop) (v3_count : Int32) (f3_piece : Nat → Int32) (f3_best : Nat → Int32) (n3_best : Nat) (p1 : Int32) (p2 : Int32) : Prop :=
  (∃ n : Nat, wl_X3_leastOf_6 Q v3_count f3_piece f3_best n3_best  n p1 p2 (2147483647 : Int32) (0 : Int32))
set_option maxHeartbeats 4000000 in
set_option maxRecDepth 100000 in
theorem c_X3_leastOf (l : Launch) (dC : Nat → ClassId) (dI : Nat → Nat → Nat) (cI cJ cZ : ClassId) (a3 : Nat) (a3_piece : Nat) (a3_best : Nat) (sz : Nat) (v3_count : Int32) (f3_piece : Nat → Int32) (f3_best : Nat → Int32) (n3_best : Nat) (p1 : Int32) (p2 : Int32) (Q : Int32 → Prop) (hw : wp_X3_leastOf Q v3_count f3_piece f3_best n3_best p1 p2) : Met l yX3_leastOf wsX3_leastOf ({ frames := 1, cells := 0, slots := 0, locals := 22 } : Room) (va_Pc [.ref a3, .int p1, .int p2] (fun U => U.heap.size = sz ∧ va_P (dC, dI) vwCl [(a3, .inr (3, [.int v3_count, .ref a3_piece, .ref a3_best])), (a3_piece, .inl (cI, 14, .inl f3_piece)), (a3_best, .inl (cI, n3_best, .inl f3_best))] U.heap ∧ va_K (dC, dI) vwCl [(cI, .int), (cJ, .long), (cZ, .boolean)] U ∧ va_D (fun _ => True) [(a3, .inr (3, [.int v3_count, .ref a3_piece, .ref a3_best])), (a3_piece, .inl (cI, 14, .inl f3_piece)), (a3_best, .inl (cI, n3_best, .inl f3_best))])) (va_Qi (fun r (u : Unit) => Q r) (fun (u : Unit) t => va_P (dC, dI) vwCl [(a3, .inr (3, [.int v3_count, .ref a3_piece, .ref a3_best])), (a3_piece, .inl (cI, 14, .inl f3_piece)), (a3_best, .inl (cI, n3_best, .inl f3_best))] t.heap ∧ va_K (dC, dI) vwCl [(cI, .int), (cJ, .long), (cZ, .boolean)] t ∧ va_D (va_A [(a3, .inr (3, [.int v3_count, .ref a3_piece, .ref a3_best])), (a3_piece, .inl (cI, 14, .inl f3_piece)), (a3_best, .inl (cI, n3_best, .inl f3_best))] sz) [(a3, .inr (3, [.int v3_count, .ref a3_piece, .ref a3_best])), (a3_piece, .inl (cI, 14, .inl f3_piece)), (a3_best, .inl (cI, n3_best, .inl f3_best))]) (va_A [(a3, .inr (3, [.int v3_count, .ref a3_piece, .ref a3_best])), (a3_piece, .inl (cI, 14, .inl f3_piece)), (a3_best, .inl (cI, n3_best, .inl f3_best))] sz)) 0 0 (va_A [(a3, .inr (3, [.int v3_count, .ref a3_piece, .ref a3_best])), (a3_piece, .inl (cI, 14, .inl f3_piece)), (a3_best, .inl (cI, n3_best, .inl f3_best))] sz) := by
  refine Met.ofW (cc := cX3_leastOf) (maxL := 5) (ret := (some .int)) (by decide) rfl ?_
  intro p e s m args below meth c s₁ B hml hv
  obtain ⟨rfl, hsz, hP, hK, hD0⟩ := hv
  have hx := B.exec
  have hb := B.bytes
  have hr := B.returns
  have hts := atoms_spec (ws := wsX3_leastOf) B.pre
  have hown : s.vm.findClass RX3 = some m.cls := findClass_of_methodNamed B.named
  have hlocks := B.notSynchronized
  subst hsz
  have hD := hD0.self (sz := s.heap.size)
  generalize hAe : va_A [(a3, .inr (3, [.int v3_count, .ref a3_piece, .ref a3_best])), (a3_piece, .inl (cI, 14, .inl f3_piece)), (a3_best, .inl (cI, n3_best, .inl f3_best))] s.heap.size = A at hD ⊢
  have hA : ∀ q : Nat, s.heap.size ≤ q → A q := fun q h => by rw [← hAe]; exact Or.inr h
  have hS : va_S A s.heap s.heap [] := va_S.rf
  have hP : va_P (dC, dI) vwCl [(a3, .inr (3, [.int v3_count, .ref a3_piece, .ref a3_best])), (a3_piece, .inl (cI, 14, .inl f3_piece)), (a3_best, .inl (cI, n3_best, .inl f3_best))] s.heap := hP
  have lk1 := hts (.constant RX3 29 (2147483647)) (by decide +kernel)
  have lk2 := hts (.fieldLink RX3 18 "WireRow$Saw" "count" "I") (by decide +kernel)
  have lk3 := hts (.fieldLink RX3 15 "WireRow$Saw" "best" "[I") (by decide +kernel)
  have lk4 := hts (.fieldLink RX3 9 "WireRow$Saw" "piece" "[I") (by decide +kernel)
  have lk5 := hts (.methodLink RX3 34 Lib.Math.min.name) (by decide +kernel)
  have lk6 := hts (.static Lib.Math.min.name) (by decide +kernel)
  have lk7 := hts (.initialized "java/lang/Math") (by decide +kernel)
  have lk8 := hts (.code Lib.Math.min.name Lib.Math.min.code 2 (some .int)) (by decide +kernel)
  have k_6 : ∀ (n_6 : Nat) (y6_1 : Int32) (y6_2 : Int32) (y6_3 : Int32) (y6_4 : Int32) (H : Heap) (locs : List Loc) (ls : Array Slot), va_P (dC, dI) vwCl [(a3, .inr (3, [.int v3_count, .ref a3_piece, .ref a3_best])), (a3_piece, .inl (cI, 14, .inl f3_piece)), (a3_best, .inl (cI, n3_best, .inl f3_best))] H → va_D A [(a3, .inr (3, [.int v3_count, .ref a3_piece, .ref a3_best])), (a3_piece, .inl (cI, 14, .inl f3_piece)), (a3_best, .inl (cI, n3_best, .inl f3_best))] → va_S A s.heap H locs → lv_has ls 5 [(0, .ref a3), (1, .int y6_1), (2, .int y6_2), (3, .int y6_3), (4, .int y6_4)] → (wl_X3_leastOf_6 Q v3_count f3_piece f3_best n3_best  n_6 y6_1 y6_2 y6_3 y6_4) → W p l e (headSpec wsX3_leastOf ({ frames := 1, cells := 0, slots := 0, locals := 22 } : Room)).room s m [.ref a3, .int p1, .int p2].toArray below meth c H locs 0 0 (MQ below (va_Qi (fun r (u : Unit) => Q r) (fun (u : Unit) t => va_P (dC, dI) vwCl [(a3, .inr (3, [.int v3_count, .ref a3_piece, .ref a3_best])), (a3_piece, .inl (cI, 14, .inl f3_piece)), (a3_best, .inl (cI, n3_best, .inl f3_best))] t.heap ∧ va_K (dC, dI) vwCl [(cI, .int), (cJ, .long), (cZ, .boolean)] t ∧ va_D A [(a3, .inr (3, [.int v3_count, .ref a3_piece, .ref a3_best])), (a3_piece, .inl (cI, 14, .inl f3_piece)), (a3_best, .inl (cI, n3_best, .inl f3_best))]) A) [.ref a3, .int p1, .int p2].toArray s 0 0 A) (F0 m 6 ls []) := by
    intro n_6
    induction n_6 with
    | zero =>
      intro y6_1 y6_2 y6_3 y6_4 H locs ls hP hD hS hl hw
      exact False.elim hw
    | succ n_6 ih_6 =>
      have k_51 : ∀  (y51_1 : Int32) (y51_2 : Int32) (y51_3 : Int32) (y51_4 : Int32) (H : Heap) (locs : List Loc) (ls : Array Slot), va_P (dC, dI) vwCl [(a3, .inr (3, [.int v3_count, .ref a3_piece, .ref a3_best])), (a3_piece, .inl (cI, 14, .inl f3_piece)), (a3_best, .inl (cI, n3_best, .inl f3_best))] H → va_D A [(a3, .inr (3, [.int v3_count, .ref a3_piece, .ref a3_best])), (a3_piece, .inl (cI, 14, .inl f3_piece)), (a3_best, .inl (cI, n3_best, .inl f3_best))] → va_S A s.heap H locs → lv_has ls 5 [(0, .ref a3), (1, .int y51_1), (2, .int y51_2), (3, .int y51_3), (4, .int y51_4)] → (wb_X3_leastOf_51 Q v3_count f3_piece f3_best n3_best (wl_X3_leastOf_6 Q v3_count f3_piece f3_best n3_best  n_6) y51_1 y51_2 y51_3 y51_4) → W p l e (headSpec wsX3_leastOf ({ frames := 1, cells := 0, slots := 0, locals := 22 } : Room)).room s m [.ref a3, .int p1, .int p2].toArray below meth c H locs 0 0 (MQ below (va_Qi (fun r (u : Unit) => Q r) (fun (u : Unit) t => va_P (dC, dI) vwCl [(a3, .inr (3, [.int v3_count, .ref a3_piece, .ref a3_best])), (a3_piece, .inl (cI, 14, .inl f3_piece)), (a3_best, .inl (cI, n3_best, .inl f3_best))] t.heap ∧ va_K (dC, dI) vwCl [(cI, .int), (cJ, .long), (cZ, .boolean)] t ∧ va_D A [(a3, .inr (3, [.int v3_count, .ref a3_piece, .ref a3_best])), (a3_piece, .inl (cI, 14, .inl f3_piece)), (a3_best, .inl (cI, n3_best, .inl f3_best))]) A) [.ref a3, .int p1, .int p2].toArray s 0 0 A) (F0 m 51 ls []) := by
        intro y51_1 y51_2 y51_3 y51_4 H locs ls hP hD hS hl hw
        unfold wb_X3_leastOf_51 at hw
        obtain ⟨x3, ex3⟩ : ∃ y : Int32, y = y51_4 + (1 : Int32) := ⟨_, rfl⟩
        replace hw := hw x3 ex3
        refine lv_iinc (v := x3) (lv' := [(4, .int x3), (0, .ref a3), (1, .int y51_1), (2, .int y51_2), (3, .int y51_3)]) hx hb dX3_leastOf_51 hl (k := 4) rfl (by rw [ex3]; rfl) (by decide) rfl (fun ls hl => ?_)
        refine lv_goto (tgt := 6) hx hb dX3_leastOf_54 (by decide) ?_
        exact ih_6 y51_1 y51_2 y51_3 x3 _ _ _ (hP.sub [0, 1, 2] rfl) (hD.sub [0, 1, 2] (by decide) rfl) hS (lv_sub hl [1, 2, 3, 4, 0] rfl) hw
      intro y6_1 y6_2 y6_3 y6_4 H locs ls hP hD hS hl hw
      replace hw : wb_X3_leastOf_6 Q v3_count f3_piece f3_best n3_best  (wl_X3_leastOf_6 Q v3_count f3_piece f3_best n3_best  n_6) y6_1 y6_2 y6_3 y6_4 := hw
      unfold wb_X3_leastOf_6 at hw
      refine lv_iload hx hb dX3_leastOf_6 (lv_at hl 4 rfl) ?_
      refine lv_aload_n hx hb dX3_leastOf_8 rfl (lv_at hl 0 rfl) ?_
      refine va_get (D := (dC, dI)) (ci := 3) (v := .int v3_count) (C := RX3) (T := TX3) (N := 3) hx hb hts inX3_leastOf_X3 hown hK hP 0 rfl rfl 0 (by decide) lk2 (fun _ h9 => h9) rfl dX3_leastOf_9 ?_
      refine lv_icmp_ge (tgt := 57) hx hb dX3_leastOf_12 (by decide) (fun c1 => ?_) (fun c1 => ?_)
      · replace hw := hw.1 (c1)
        refine lv_iload_n hx hb dX3_leastOf_57 rfl (lv_at hl 3 rfl) ?_
        have hP9 := hP.sub (ws' := [(a3, .inr (3, [.int v3_count, .ref a3_piece, .ref a3_best])), (a3_piece, .inl (cI, 14, .inl f3_piece)), (a3_best, .inl (cI, n3_best, .inl f3_best))]) [0, 1, 2] rfl
        have hD9 := hD.sub (ws' := [(a3, .inr (3, [.int v3_count, .ref a3_piece, .ref a3_best])), (a3_piece, .inl (cI, 14, .inl f3_piece)), (a3_best, .inl (cI, n3_best, .inl f3_best))]) [0, 1, 2] (by decide) rfl
        exact W.iret (v := y6_3) hx hb hr (fun t ht hW => ⟨⟨y6_3, (), rfl, hw, by rw [ht]; exact hP9, va_K.moved hW.alike hK, hD9⟩, hS.F ht⟩) hS.2.2 dX3_leastOf_58
      · replace hw := hw.2 (c1)
        refine lv_iload_n hx hb dX3_leastOf_15 rfl (lv_at hl 1 rfl) ?_
        refine lv_iconst (v := (1 : Int32)) hx hb dX3_leastOf_16 (by decide) ?_
        refine lv_iload hx hb dX3_leastOf_17 (lv_at hl 4 rfl) ?_
        refine lv_ishl hx hb dX3_leastOf_19 ?_
        refine lv_iand hx hb dX3_leastOf_20 ?_
        refine lv_if_eq (tgt := 51) hx hb dX3_leastOf_21 (by decide) (fun c2 => ?_) (fun c2 => ?_)
        · replace hw := hw.1 (c2)
          exact k_51 y6_1 y6_2 y6_3 y6_4 _ _ _ (hP.sub [0, 1, 2] rfl) (hD.sub [0, 1, 2] (by decide) rfl) hS (lv_sub hl [0, 1, 2, 3, 4] rfl) hw
        · replace hw := hw.2 (c2)
          refine lv_iload_n hx hb dX3_leastOf_24 rfl (lv_at hl 3 rfl) ?_
          refine lv_aload_n hx hb dX3_leastOf_25 rfl (lv_at hl 0 rfl) ?_
          refine va_get (D := (dC, dI)) (ci := 3) (v := .ref a3_best) (C := RX3) (T := TX3) (N := 3) hx hb hts inX3_leastOf_X3 hown hK hP 0 rfl rfl 2 (by decide) lk3 (fun _ h9 => h9) rfl dX3_leastOf_26 ?_
          refine lv_iload_n hx hb dX3_leastOf_29 rfl (lv_at hl 1 rfl) ?_
          refine lv_iconst (v := (1 : Int32)) hx hb dX3_leastOf_30 (by decide) ?_
          refine lv_iload hx hb dX3_leastOf_31 (lv_at hl 4 rfl) ?_
          refine lv_ishl hx hb dX3_leastOf_33 ?_
          refine lv_ixor hx hb dX3_leastOf_34 ?_
          obtain ⟨h4, hw⟩ := hw
          refine va_iald hx hb hK hP 2 0 rfl rfl h4 dX3_leastOf_35 ?_
          refine lv_aload_n hx hb dX3_leastOf_36 rfl (lv_at hl 0 rfl) ?_
          refine va_get (D := (dC, dI)) (ci := 3) (v := .ref a3_piece) (C := RX3) (T := TX3) (N := 3) hx hb hts inX3_leastOf_X3 hown hK hP 0 rfl rfl 1 (by decide) lk4 (fun _ h9 => h9) rfl dX3_leastOf_37 ?_
          refine lv_iload hx hb dX3_leastOf_40 (lv_at hl 4 rfl) ?_
          obtain ⟨h5, hw⟩ := hw
          refine va_iald hx hb hK hP 1 0 rfl rfl h5 dX3_leastOf_42 ?_
          refine lv_iload_n hx hb dX3_leastOf_43 rfl (lv_at hl 2 rfl) ?_
          have hPc := hP.sub (ws' := []) [] rfl
          have hDc := hD.sub (ws' := []) [] (by decide) rfl
          have hFc := va_free (wc := []) hD hS hA [] rfl
          refine va_calli (va_runS (As := [.int (f3_best (y6_1 ^^^ ((1 : Int32) <<< (y6_4 &&& 31))).toNatClampNeg), .int (f3_piece y6_4.toNatClampNeg), .int y6_2]) (rest := [.int y6_3]) ⟨hx, hb, hml, hown, hts⟩ (c_X3_withPiece l dC dI cI cJ cZ H.size (f3_best (y6_1 ^^^ ((1 : Int32) <<< (y6_4 &&& 31))).toNatClampNeg) (f3_piece y6_4.toNatClampNeg) y6_2 _ hw) (va_cwS 3 hts gX3_leastOf_X3_withPiece rfl rfl rfl (by decide +kernel) ⟨Nat.le_of_ble_eq_true rfl, Nat.le_of_ble_eq_true rfl⟩) ⟨fun a U g mk q => by obtain ⟨q0, q1, qP, qK, qD⟩ := q; exact ⟨q0, q1, qP, va_K.moved (u := U) (U := U.calling g mk a) (Vm.Alike.refl U.vm) qK, qD⟩, fun U hU hW => ⟨rfl, by rw [hU], by rw [hU]; exact hPc, va_K.moved hW.alike hK, hDc.weaken (fun _ _ _ _ => trivial)⟩⟩ rfl rfl hl.1 rfl (lv_room (Nat.le_of_ble_eq_true rfl)) dX3_leastOf_44 ⟨(Nat.zero_le _), (Nat.zero_le _)⟩) hS (fun q _ h => hFc q h) hFc (fun r6 u t H1 locs ht hvm hw hB hz1 hk1 hS => ?_)
          obtain ⟨hP1, -, hD1⟩ := hB
          try dsimp only at hw
          rw [ht] at hP1
          obtain ⟨hP, hD⟩ := va_join (wr := [(a3, .inr (3, [.int v3_count, .ref a3_piece, .ref a3_best])), (a3_piece, .inl (cI, 14, .inl f3_piece)), (a3_best, .inl (cI, n3_best, .inl f3_best))]) (w1 := []) hP hD [] [0, 1, 2] rfl rfl (by decide) (by decide) hk1 hFc hP1 hD1
          generalize H1 = H at hP hS ⊢
          have hP : va_P (dC, dI) vwCl [(a3, .inr (3, [.int v3_count, .ref a3_piece, .ref a3_best])), (a3_piece, .inl (cI, 14, .inl f3_piece)), (a3_best, .inl (cI, n3_best, .inl f3_best))] H := hP
          have hD : va_D A [(a3, .inr (3, [.int v3_count, .ref a3_piece, .ref a3_best])), (a3_piece, .inl (cI, 14, .inl f3_piece)), (a3_best, .inl (cI, n3_best, .inl f3_best))] := hD
          refine va_mmin hx hb (hml.trans hl.1.symm) hown lk5 lk6 lk7 lk8 (Nat.le_of_ble_eq_true rfl) (Nat.le_of_ble_eq_true rfl) (Nat.le_of_ble_eq_true rfl) (Nat.le_of_ble_eq_true rfl) dX3_leastOf_47 ?_
          refine lv_topi (fun x7 ex7 => ?_)
          replace hw := hw x7 ex7
          refine lv_istore_n (lv' := [(3, .int x7), (0, .ref a3), (1, .int y6_1), (2, .int y6_2), (4, .int y6_4)]) hx hb dX3_leastOf_50 rfl hl (by decide) rfl (fun ls hl => ?_)
          exact k_51 y6_1 y6_2 x7 y6_4 _ _ _ (hP.sub [0, 1, 2] rfl) (hD.sub [0, 1, 2] (by decide) rfl) hS (lv_sub hl [1, 2, 3, 0, 4] rfl) hw
  have hl := lv_entry ([.ref a3, .int p1, .int p2]) (n := 5) (Nat.le_of_ble_eq_true rfl)
  rw [lg_entry_eq]
  generalize (lg_sl ([.ref a3, .int p1, .int p2]) ++ List.replicate (5 - (lg_sl ([.ref a3, .int p1, .int p2])).length) Slot.unset).toArray = ls at hl ⊢
  have hl : lv_has ls 5 [(0, .ref a3), (1, .int p1), (2, .int p2)] := hl
  obtain ⟨H, hHe⟩ : ∃ H, H = s.heap := ⟨_, rfl⟩
  rw [← hHe] at hP
  have hS : va_S A s.heap H [] := by rw [hHe]; exact hS
  rw [← hHe]
  unfold wp_X3_leastOf at hw
  refine lv_ldc (v := (2147483647 : Int32)) hx hb hown lk1 dX3_leastOf_0 ?_
  refine lv_istore_n (lv' := [(3, .int (2147483647 : Int32)), (0, .ref a3), (1, .int p1), (2, .int p2)]) hx hb dX3_leastOf_2 rfl hl (by decide) rfl (fun ls hl => ?_)
  refine lv_iconst (v := (0 : Int32)) hx hb dX3_leastOf_3 (by decide) ?_
  refine lv_istore (lv' := [(4, .int (0 : Int32)), (3, .int (2147483647 : Int32)), (0, .ref a3), (1, .int p1), (2, .int p2)]) hx hb dX3_leastOf_4 hl (by decide) rfl (fun ls hl => ?_)
  obtain ⟨n_6, hw⟩ := hw
  exact k_6 n_6 p1 p2 (2147483647 : Int32) (0 : Int32) _ _ _ (hP.sub [0, 1, 2] rfl) (hD.sub [0, 1, 2] (by decide) rfl) hS (lv_sub hl [2, 3, 4, 1, 0] rfl) hw

theorem inX3_fewestBars_X3 : ∀ w ∈ wsX30, w ∈ wsX3_fewestBars := fun _ h => List.mem_cons_of_mem _ (List.mem_append_right _ h)
def wb_X3_fewestBars_33 (Q : Int32 → (Nat → Int32) → (Nat) → Prop) (mc ms : Nat) (v3_count : Int32) (f3_piece : Nat → Int32) (K33 : (Nat → Int32) → (Nat) → (Int32) → (Int32) → (Int32) → Prop) (f3_best_c33 : Nat → Int32) (n3_best_c33 : Nat) (y33_1 : Int32) (y33_2 : Int32) (y33_3 : Int32) : Prop :=
  ((y33_2 ≤ y33_3 → (vp_in (y33_2 - (1 : Int32)) n3_best_c33 ∧ (Q ((f3_best_c33 (y33_2 - (1 : Int32)).toNatClampNeg) / (32768 : Int32)) f3_best_c33 n3_best_c33))) ∧ (¬ y33_2 ≤ y33_3 → (wp_X3_leastOf (fun r8 => (vp_in y33_3 n3_best_c33 ∧ (∀ g10 : Nat → Int32, g10 = upd f3_best_c33 y33_3.toNatClampNeg r8 → (∀ x11 : Int32, x11 = y33_3 + (1 : Int32) → (K33 g10 n3_best_c33 y33_1 y33_2 x11))))) v3_count f3_piece f3_best_c33 n3_best_c33 y33_3 y33_1)))
def wl_X3_fewestBars_33 (Q : Int32 → (Nat → Int32) → (Nat) → Prop) (mc ms : Nat) (v3_count : Int32) (f3_piece : Nat → Int32) : Nat → (Nat → Int32) → (Nat) → (Int32) → (Int32) → (Int32) → Prop
  | 0, _, _, _, _, _ => False
  | n + 1, f3_best_c33, n3_best_c33, y33_1, y33_2, y33_3 => wb_X3_fewestBars_33 Q mc ms v3_count f3_piece  (wl_X3_fewestBars_33 Q mc ms v3_count f3_piece  n) f3_best_c33 n3_best_c33 y33_1 y33_2 y33_3
def wb_X3_fewestBars_23 (Q : Int32 → (Nat → Int32) → (Nat) → Prop) (mc ms : Nat) (v3_count : Int32) (f3_piece : Nat → Int32) (f3_best_c23 : Nat → Int32) (n3_best_c23 : Nat) (y23_1 : Int32) (y23_2 : Int32) : Prop :=
  (vp_in (0 : Int32) n3_best_c23 ∧ (∀ g4 : Nat → Int32, g4 = upd f3_best_c23 (0 : Int32).toNatClampNeg (32768 : Int32) → (∃ n : Nat, wl_X3_fewestBars_33 Q mc ms v3_count f3_piece  n g4 n3_best_c23 y23_1 y23_2 (1 : Int32))))
def wp_X3_fewestBars (Q : Int32 → (Nat → Int32) → (Nat) → Prop) (mc ms : Nat) (v3_count : Int32) (f3_piece : Nat → Int32) (f3_best : Nat → Int32) (n3_best : Nat) (p1 : Int32) : Prop :=
  (∀ x1 : Int32, x1 = ((1 : Int32) <<< (v3_count &&& 31)) → ((x1 ≤ (Int32.ofNat n3_best) → (wb_X3_fewestBars_23 Q mc ms v3_count f3_piece  f3_best n3_best p1 x1)) ∧ (¬ x1 ≤ (Int32.ofNat n3_best) → ((¬ x1 < 0 ∧ x1.toNatClampNeg ≤ 65536 ∧ 1 ≤ mc ∧ x1.toNatClampNeg ≤ ms) ∧ (wb_X3_fewestBars_23 Q mc ms v3_count f3_piece  (fun _ => (0 : Int32)) x1.toNatClampNeg p1 x1)))))
set_option maxHeartbeats 4000000 in
set_option maxRecDepth 100000 in
theorem c_X3_fewestBars (l : Launch) (dC : Nat → ClassId) (dI : Nat → Nat → Nat) (cI cJ cZ : ClassId) (a3 : Nat) (a3_piece : Nat) (a3_best : Nat) (sz : Nat) (v3_count : Int32) (f3_piece : Nat → Int32) (f3_best : Nat → Int32) (n3_best : Nat) (p1 : Int32) (mc ms : Nat) (Q : Int32 → (Nat → Int32) → (Nat) → Prop) (hw : wp_X3_fewestBars Q mc ms v3_count f3_piece f3_best n3_best p1) : Met l yX3_fewestBars wsX3_fewestBars ({ frames := 2, cells := mc, slots := ms, locals := 46 } : Room) (va_Pc [.ref a3, .int p1] (fun U => U.heap.size = sz ∧ va_P (dC, dI) vwCl [(a3, .inr (3, [.int v3_count, .ref a3_piece, .ref a3_best])), (a3_piece, .inl (cI, 14, .inl f3_piece)), (a3_best, .inl (cI, n3_best, .inl f3_best))] U.heap ∧ va_K (dC, dI) vwCl [(cI, .int), (cJ, .long), (cZ, .boolean)] U ∧ va_D (fun _ => True) [(a3, .inr (3, [.int v3_count, .ref a3_piece, .ref a3_best])), (a3_piece, .inl (cI, 14, .inl f3_piece)), (a3_best, .inl (cI, n3_best, .inl f3_best))])) (va_Qi (fun r (u : (Nat → Int32) × (Nat)) => Q r u.1 u.2) (fun (u : (Nat → Int32) × (Nat)) t => ∃ qb : Nat, va_P (dC, dI) vwCl [(a3, .inr (3, [.int v3_count, .ref a3_piece, .ref qb])), (a3_piece, .inl (cI, 14, .inl f3_piece)), (qb, .inl (cI, u.2, .inl u.1))] t.heap ∧ va_K (dC, dI) vwCl [(cI, .int), (cJ, .long), (cZ, .boolean)] t ∧ va_D (va_A [(a3, .inr (3, [.int v3_count, .ref a3_piece, .ref a3_best])), (a3_piece, .inl (cI, 14, .inl f3_piece)), (a3_best, .inl (cI, n3_best, .inl f3_best))] sz) [(a3, .inr (3, [.int v3_count, .ref a3_piece, .ref qb])), (a3_piece, .inl (cI, 14, .inl f3_piece)), (qb, .inl (cI, u.2, .inl u.1))]) (va_A [(a3, .inr (3, [.int v3_count, .ref a3_piece, .ref a3_best])), (a3_piece, .inl (cI, 14, .inl f3_piece)), (a3_best, .inl (cI, n3_best, .inl f3_best))] sz)) mc ms (va_A [(a3, .inr (3, [.int v3_count, .ref a3_piece, .ref a3_best])), (a3_piece, .inl (cI, 14, .inl f3_piece)), (a3_best, .inl (cI, n3_best, .inl f3_best))] sz) := by
  refine Met.ofW (cc := cX3_fewestBars) (maxL := 4) (ret := (some .int)) (by decide) rfl ?_
  intro p e s m args below meth c s₁ B hml hv
  obtain ⟨rfl, hsz, hP, hK, hD0⟩ := hv
  have hx := B.exec
  have hb := B.bytes
  have hr := B.returns
  have hts := atoms_spec (ws := wsX3_fewestBars) B.pre
  have hown : s.vm.findClass RX3 = some m.cls := findClass_of_methodNamed B.named
  have hlocks := B.notSynchronized
  subst hsz
  have hD := hD0.self (sz := s.heap.size)
  generalize hAe : va_A [(a3, .inr (3, [.int v3_count, .ref a3_piece, .ref a3_best])), (a3_piece, .inl (cI, 14, .inl f3_piece)), (a3_best, .inl (cI, n3_best, .inl f3_best))] s.heap.size = A at hD ⊢
  have hA : ∀ q : Nat, s.heap.size ≤ q → A q := fun q h => by rw [← hAe]; exact Or.inr h
  have hS : va_S A s.heap s.heap [] := va_S.rf
  have hP : va_P (dC, dI) vwCl [(a3, .inr (3, [.int v3_count, .ref a3_piece, .ref a3_best])), (a3_piece, .inl (cI, 14, .inl f3_piece)), (a3_best, .inl (cI, n3_best, .inl f3_best))] s.heap := hP
  have lk1 := hts (.fieldLink RX3 18 "WireRow$Saw" "count" "I") (by decide +kernel)
  have lk2 := hts (.fieldLink RX3 15 "WireRow$Saw" "best" "[I") (by decide +kernel)
  have lk3 := hts (.constant RX3 22 (32768)) (by decide +kernel)
  have lk4 := hts (.arrayClass .int) (by decide +kernel)
  have k_33 : ∀ (n_33 : Nat) (f3_best_c33 : Nat → Int32) (n3_best_c33 : Nat) (y33_1 : Int32) (y33_2 : Int32) (y33_3 : Int32) (a3_best_c33 : Nat) (H : Heap) (locs : List Loc) (ls : Array Slot), va_P (dC, dI) vwCl [(a3, .inr (3, [.int v3_count, .ref a3_piece, .ref a3_best_c33])), (a3_piece, .inl (cI, 14, .inl f3_piece)), (a3_best_c33, .inl (cI, n3_best_c33, .inl f3_best_c33))] H → va_D A [(a3, .inr (3, [.int v3_count, .ref a3_piece, .ref a3_best_c33])), (a3_piece, .inl (cI, 14, .inl f3_piece)), (a3_best_c33, .inl (cI, n3_best_c33, .inl f3_best_c33))] → va_S A s.heap H locs → lv_has ls 4 [(0, .ref a3), (1, .int y33_1), (2, .int y33_2), (3, .int y33_3)] → (wl_X3_fewestBars_33 Q mc ms v3_count f3_piece  n_33 f3_best_c33 n3_best_c33 y33_1 y33_2 y33_3) → W p l e (headSpec wsX3_fewestBars ({ frames := 2, cells := mc, slots := ms, locals := 46 } : Room)).room s m [.ref a3, .int p1].toArray below meth c H locs 0 0 (MQ below (va_Qi (fun r (u : (Nat → Int32) × (Nat)) => Q r u.1 u.2) (fun (u : (Nat → Int32) × (Nat)) t => ∃ qb : Nat, va_P (dC, dI) vwCl [(a3, .inr (3, [.int v3_count, .ref a3_piece, .ref qb])), (a3_piece, .inl (cI, 14, .inl f3_piece)), (qb, .inl (cI, u.2, .inl u.1))] t.heap ∧ va_K (dC, dI) vwCl [(cI, .int), (cJ, .long), (cZ, .boolean)] t ∧ va_D A [(a3, .inr (3, [.int v3_count, .ref a3_piece, .ref qb])), (a3_piece, .inl (cI, 14, .inl f3_piece)), (qb, .inl (cI, u.2, .inl u.1))]) A) [.ref a3, .int p1].toArray s mc ms A) (F0 m 33 ls []) := by
    intro n_33
    induction n_33 with
    | zero =>
      intro f3_best_c33 n3_best_c33 y33_1 y33_2 y33_3 a3_best_c33 H locs ls hP hD hS hl hw
      exact False.elim hw
    | succ n_33 ih_33 =>
      intro f3_best_c33 n3_best_c33 y33_1 y33_2 y33_3 a3_best_c33 H locs ls hP hD hS hl hw
      replace hw : wb_X3_fewestBars_33 Q mc ms v3_count f3_piece  (wl_X3_fewestBars_33 Q mc ms v3_count f3_piece  n_33) f3_best_c33 n3_best_c33 y33_1 y33_2 y33_3 := hw
      unfold wb_X3_fewestBars_33 at hw
      refine lv_iload_n hx hb dX3_fewestBars_33 rfl (lv_at hl 3 rfl) ?_
      refine lv_iload_n hx hb dX3_fewestBars_34 rfl (lv_at hl 2 rfl) ?_
      refine lv_icmp_ge (tgt := 56) hx hb dX3_fewestBars_35 (by decide) (fun c5 => ?_) (fun c5 => ?_)
      · replace hw := hw.1 (c5)
        refine lv_aload_n hx hb dX3_fewestBars_56 rfl (lv_at hl 0 rfl) ?_
        refine va_get (D := (dC, dI)) (ci := 3) (v := .ref a3_best_c33) (C := RX3) (T := TX3) (N := 3) hx hb hts inX3_fewestBars_X3 hown hK hP 0 rfl rfl 2 (by decide) lk2 (fun _ h9 => h9) rfl dX3_fewestBars_57 ?_
        refine lv_iload_n hx hb dX3_fewestBars_60 rfl (lv_at hl 2 rfl) ?_
        refine lv_iconst (v := (1 : Int32)) hx hb dX3_fewestBars_61 (by decide) ?_
        refine lv_isub hx hb dX3_fewestBars_62 ?_
        obtain ⟨h6, hw⟩ := hw
        refine va_iald hx hb hK hP 2 0 rfl rfl h6 dX3_fewestBars_63 ?_
        refine lv_ldc (v := (32768 : Int32)) hx hb hown lk3 dX3_fewestBars_64 ?_
        refine lv_idiv hx hb dX3_fewestBars_66 (by decide) ?_
        have hP9 := hP.sub (ws' := [(a3, .inr (3, [.int v3_count, .ref a3_piece, .ref a3_best_c33])), (a3_piece, .inl (cI, 14, .inl f3_piece)), (a3_best_c33, .inl (cI, n3_best_c33, .inl f3_best_c33))]) [0, 1, 2] rfl
        have hD9 := hD.sub (ws' := [(a3, .inr (3, [.int v3_count, .ref a3_piece, .ref a3_best_c33])), (a3_piece, .inl (cI, 14, .inl f3_piece)), (a3_best_c33, .inl (cI, n3_best_c33, .inl f3_best_c33))]) [0, 1, 2] (by decide) rfl
        refine W.widen (k := mc) (n := ms) (by omega) (by omega) ?_
        exact W.iret (v := ((f3_best_c33 (y33_2 - (1 : Int32)).toNatClampNeg) / (32768 : Int32))) hx hb hr (fun t ht hW => ⟨⟨((f3_best_c33 (y33_2 - (1 : Int32)).toNatClampNeg) / (32768 : Int32)), (f3_best_c33, n3_best_c33), rfl, hw, a3_best_c33, by rw [ht]; exact hP9, va_K.moved hW.alike hK, hD9⟩, hS.F ht⟩) hS.2.2 dX3_fewestBars_67
      · replace hw := hw.2 (c5)
        refine lv_aload_n hx hb dX3_fewestBars_38 rfl (lv_at hl 0 rfl) ?_
        refine va_get (D := (dC, dI)) (ci := 3) (v := .ref a3_best_c33) (C := RX3) (T := TX3) (N := 3) hx hb hts inX3_fewestBars_X3 hown hK hP 0 rfl rfl 2 (by decide) lk2 (fun _ h9 => h9) rfl dX3_fewestBars_39 ?_
        refine lv_iload_n hx hb dX3_fewestBars_42 rfl (lv_at hl 3 rfl) ?_
        refine lv_aload_n hx hb dX3_fewestBars_43 rfl (lv_at hl 0 rfl) ?_
        refine lv_iload_n hx hb dX3_fewestBars_44 rfl (lv_at hl 3 rfl) ?_
        refine lv_iload_n hx hb dX3_fewestBars_45 rfl (lv_at hl 1 rfl) ?_
        have hPc := hP.sub (ws' := [(a3, .inr (3, [.int v3_count, .ref a3_piece, .ref a3_best_c33])), (a3_piece, .inl (cI, 14, .inl f3_piece)), (a3_best_c33, .inl (cI, n3_best_c33, .inl f3_best_c33))]) [0, 1, 2] rfl
        have hDc := hD.sub (ws' := [(a3, .inr (3, [.int v3_count, .ref a3_piece, .ref a3_best_c33])), (a3_piece, .inl (cI, 14, .inl f3_piece)), (a3_best_c33, .inl (cI, n3_best_c33, .inl f3_best_c33))]) [0, 1, 2] (by decide) rfl
        have hFc := va_free (wc := [(a3, .inr (3, [.int v3_count, .ref a3_piece, .ref a3_best_c33])), (a3_piece, .inl (cI, 14, .inl f3_piece)), (a3_best_c33, .inl (cI, n3_best_c33, .inl f3_best_c33))]) hD hS hA [0, 1, 2] rfl
        refine va_calli (va_runV (As := [.int y33_3, .int y33_1]) (rest := [.int y33_3, .ref a3_best_c33]) ⟨hx, hb, hml, hown, hts⟩ (c_X3_leastOf l dC dI cI cJ cZ a3 a3_piece a3_best_c33 H.size v3_count f3_piece f3_best_c33 n3_best_c33 y33_3 y33_1 _ hw) (cwV 2 hts gX3_fewestBars_X3_leastOf rfl rfl rfl (by decide +kernel) ⟨Nat.le_of_ble_eq_true rfl, Nat.le_of_ble_eq_true rfl⟩) ⟨fun a U g mk q => by obtain ⟨q0, q1, qP, qK, qD⟩ := q; exact ⟨q0, q1, qP, va_K.moved (u := U) (U := U.calling g mk a) (Vm.Alike.refl U.vm) qK, qD⟩, va_recv hK hP (ci := 3) (q0 := 0) rfl rfl, fun U hU hW => ⟨rfl, by rw [hU], by rw [hU]; exact hPc, va_K.moved hW.alike hK, hDc.weaken (fun _ _ _ _ => trivial)⟩⟩ rfl rfl hl.1 rfl (lv_room (Nat.le_of_ble_eq_true rfl)) dX3_fewestBars_46 ⟨(Nat.zero_le _), (Nat.zero_le _)⟩) hS (fun q _ h => hFc q h) hFc (fun r8 u t H1 locs ht hvm hw hB hz1 hk1 hS => ?_)
        obtain ⟨hP1, -, hD1⟩ := hB
        try dsimp only at hw
        rw [ht] at hP1
        obtain ⟨hP, hD⟩ := va_join (wr := []) (w1 := [(a3, .inr (3, [.int v3_count, .ref a3_piece, .ref a3_best_c33])), (a3_piece, .inl (cI, 14, .inl f3_piece)), (a3_best_c33, .inl (cI, n3_best_c33, .inl f3_best_c33))]) hP hD [0, 1, 2] [] rfl rfl (by decide) (by decide) hk1 hFc hP1 hD1
        generalize H1 = H at hP hS ⊢
        have hP : va_P (dC, dI) vwCl [(a3, .inr (3, [.int v3_count, .ref a3_piece, .ref a3_best_c33])), (a3_piece, .inl (cI, 14, .inl f3_piece)), (a3_best_c33, .inl (cI, n3_best_c33, .inl f3_best_c33))] H := hP
        have hD : va_D A [(a3, .inr (3, [.int v3_count, .ref a3_piece, .ref a3_best_c33])), (a3_piece, .inl (cI, 14, .inl f3_piece)), (a3_best_c33, .inl (cI, n3_best_c33, .inl f3_best_c33))] := hD
        obtain ⟨h9, hw⟩ := hw
        refine va_iast hx hb hK hP hD hS 2 0 rfl rfl h9 dX3_fewestBars_49 (fun H locs hP hD hS => ?_)
        obtain ⟨g10, eg10⟩ : ∃ y : Nat → Int32, y = upd f3_best_c33 y33_3.toNatClampNeg r8 := ⟨_, rfl⟩
        replace hw := hw g10 eg10
        have hP : va_P (dC, dI) vwCl [(a3, .inr (3, [.int v3_count, .ref a3_piece, .ref a3_best_c33])), (a3_piece, .inl (cI, 14, .inl f3_piece)), (a3_best_c33, .inl (cI, n3_best_c33, .inl g10))] H := by rw [eg10]; exact hP
        have hD : va_D A [(a3, .inr (3, [.int v3_count, .ref a3_piece, .ref a3_best_c33])), (a3_piece, .inl (cI, 14, .inl f3_piece)), (a3_best_c33, .inl (cI, n3_best_c33, .inl g10))] := by rw [eg10]; exact hD
        obtain ⟨x11, ex11⟩ : ∃ y : Int32, y = y33_3 + (1 : Int32) := ⟨_, rfl⟩
        replace hw := hw x11 ex11
        refine lv_iinc (v := x11) (lv' := [(3, .int x11), (0, .ref a3), (1, .int y33_1), (2, .int y33_2)]) hx hb dX3_fewestBars_50 hl (k := 3) rfl (by rw [ex11]; rfl) (by decide) rfl (fun ls hl => ?_)
        refine lv_goto (tgt := 33) hx hb dX3_fewestBars_53 (by decide) ?_
        exact ih_33 g10 n3_best_c33 y33_1 y33_2 x11 a3_best_c33 _ _ _ (hP.sub [0, 1, 2] rfl) (hD.sub [0, 1, 2] (by decide) rfl) hS (lv_sub hl [1, 2, 3, 0] rfl) hw
  have k_23 : ∀  (f3_best_c23 : Nat → Int32) (n3_best_c23 : Nat) (y23_1 : Int32) (y23_2 : Int32) (a3_best_c23 : Nat) (H : Heap) (locs : List Loc) (ls : Array Slot), va_P (dC, dI) vwCl [(a3, .inr (3, [.int v3_count, .ref a3_piece, .ref a3_best_c23])), (a3_piece, .inl (cI, 14, .inl f3_piece)), (a3_best_c23, .inl (cI, n3_best_c23, .inl f3_best_c23))] H → va_D A [(a3, .inr (3, [.int v3_count, .ref a3_piece, .ref a3_best_c23])), (a3_piece, .inl (cI, 14, .inl f3_piece)), (a3_best_c23, .inl (cI, n3_best_c23, .inl f3_best_c23))] → va_S A s.heap H locs → lv_has ls 4 [(0, .ref a3), (1, .int y23_1), (2, .int y23_2)] → (wb_X3_fewestBars_23 Q mc ms v3_count f3_piece  f3_best_c23 n3_best_c23 y23_1 y23_2) → W p l e (headSpec wsX3_fewestBars ({ frames := 2, cells := mc, slots := ms, locals := 46 } : Room)).room s m [.ref a3, .int p1].toArray below meth c H locs 0 0 (MQ below (va_Qi (fun r (u : (Nat → Int32) × (Nat)) => Q r u.1 u.2) (fun (u : (Nat → Int32) × (Nat)) t => ∃ qb : Nat, va_P (dC, dI) vwCl [(a3, .inr (3, [.int v3_count, .ref a3_piece, .ref qb])), (a3_piece, .inl (cI, 14, .inl f3_piece)), (qb, .inl (cI, u.2, .inl u.1))] t.heap ∧ va_K (dC, dI) vwCl [(cI, .int), (cJ, .long), (cZ, .boolean)] t ∧ va_D A [(a3, .inr (3, [.int v3_count, .ref a3_piece, .ref qb])), (a3_piece, .inl (cI, 14, .inl f3_piece)), (qb, .inl (cI, u.2, .inl u.1))]) A) [.ref a3, .int p1].toArray s mc ms A) (F0 m 23 ls []) := by
    intro f3_best_c23 n3_best_c23 y23_1 y23_2 a3_best_c23 H locs ls hP hD hS hl hw
    unfold wb_X3_fewestBars_23 at hw
    refine lv_aload_n hx hb dX3_fewestBars_23 rfl (lv_at hl 0 rfl) ?_
    refine va_get (D := (dC, dI)) (ci := 3) (v := .ref a3_best_c23) (C := RX3) (T := TX3) (N := 3) hx hb hts inX3_fewestBars_X3 hown hK hP 0 rfl rfl 2 (by decide) lk2 (fun _ h9 => h9) rfl dX3_fewestBars_24 ?_
    refine lv_iconst (v := (0 : Int32)) hx hb dX3_fewestBars_27 (by decide) ?_
    refine lv_ldc (v := (32768 : Int32)) hx hb hown lk3 dX3_fewestBars_28 ?_
    obtain ⟨h3, hw⟩ := hw
    refine va_iast hx hb hK hP hD hS 2 0 rfl rfl h3 dX3_fewestBars_30 (fun H locs hP hD hS => ?_)
    obtain ⟨g4, eg4⟩ : ∃ y : Nat → Int32, y = upd f3_best_c23 (0 : Int32).toNatClampNeg (32768 : Int32) := ⟨_, rfl⟩
    replace hw := hw g4 eg4
    have hP : va_P (dC, dI) vwCl [(a3, .inr (3, [.int v3_count, .ref a3_piece, .ref a3_best_c23])), (a3_piece, .inl (cI, 14, .inl f3_piece)), (a3_best_c23, .inl (cI, n3_best_c23, .inl g4))] H := by rw [eg4]; exact hP
    have hD : va_D A [(a3, .inr (3, [.int v3_count, .ref a3_piece, .ref a3_best_c23])), (a3_piece, .inl (cI, 14, .inl f3_piece)), (a3_best_c23, .inl (cI, n3_best_c23, .inl g4))] := by rw [eg4]; exact hD
    refine lv_iconst (v := (1 : Int32)) hx hb dX3_fewestBars_31 (by decide) ?_
    refine lv_istore_n (lv' := [(3, .int (1 : Int32)), (0, .ref a3), (1, .int y23_1), (2, .int y23_2)]) hx hb dX3_fewestBars_32 rfl hl (by decide) rfl (fun ls hl => ?_)
    obtain ⟨n_33, hw⟩ := hw
    exact k_33 n_33 g4 n3_best_c23 y23_1 y23_2 (1 : Int32) a3_best_c23 _ _ _ (hP.sub [0, 1, 2] rfl) (hD.sub [0, 1, 2] (by decide) rfl) hS (lv_sub hl [1, 2, 3, 0] rfl) hw
  have hl := lv_entry ([.ref a3, .int p1]) (n := 4) (Nat.le_of_ble_eq_true rfl)
  rw [lg_entry_eq]
  generalize (lg_sl ([.ref a3, .int p1]) ++ List.replicate (4 - (lg_sl ([.ref a3, .int p1])).length) Slot.unset).toArray = ls at hl ⊢
  have hl : lv_has ls 4 [(0, .ref a3), (1, .int p1)] := hl
  obtain ⟨H, hHe⟩ : ∃ H, H = s.heap := ⟨_, rfl⟩
  rw [← hHe] at hP
  have hS : va_S A s.heap H [] := by rw [hHe]; exact hS
  rw [← hHe]
  unfold wp_X3_fewestBars at hw
  refine lv_iconst (v := (1 : Int32)) hx hb dX3_fewestBars_0 (by decide) ?_
  refine lv_aload_n hx hb dX3_fewestBars_1 rfl (lv_at hl 0 rfl) ?_
  refine va_get (D := (dC, dI)) (ci := 3) (v := .int v3_count) (C := RX3) (T := TX3) (N := 3) hx hb hts inX3_fewestBars_X3 hown hK hP 0 rfl rfl 0 (by decide) lk1 (fun _ h9 => h9) rfl dX3_fewestBars_2 ?_
  refine lv_ishl hx hb dX3_fewestBars_5 ?_
  refine lv_topi (fun x1 ex1 => ?_)
  replace hw := hw x1 ex1
  refine lv_istore_n (lv' := [(2, .int x1), (0, .ref a3), (1, .int p1)]) hx hb dX3_fewestBars_6 rfl hl (by decide) rfl (fun ls hl => ?_)
  refine lv_aload_n hx hb dX3_fewestBars_7 rfl (lv_at hl 1 rfl) ?_
  refine va_get (D := (dC, dI)) (ci := 3) (v := .ref a3_best) (C := RX3) (T := TX3) (N := 3) hx hb hts inX3_fewestBars_X3 hown hK hP 0 rfl rfl 2 (by decide) lk2 (fun _ h9 => h9) rfl dX3_fewestBars_8 ?_
  refine va_alen (v := (Int32.ofNat n3_best)) hx hb hK hP 2 0 rfl rfl rfl dX3_fewestBars_11 ?_
  refine lv_iload_n hx hb dX3_fewestBars_12 rfl (lv_at hl 0 rfl) ?_
  refine lv_icmp_ge (tgt := 23) hx hb dX3_fewestBars_13 (by decide) (fun c2 => ?_) (fun c2 => ?_)
  · replace hw := hw.1 (c2)
    exact k_23 f3_best n3_best p1 x1 a3_best _ _ _ (hP.sub [0, 1, 2] rfl) (hD.sub [0, 1, 2] (by decide) rfl) hS (lv_sub hl [1, 2, 0] rfl) hw
  · replace hw := hw.2 (c2)
    refine lv_aload_n hx hb dX3_fewestBars_16 rfl (lv_at hl 1 rfl) ?_
    refine lv_iload_n hx hb dX3_fewestBars_17 rfl (lv_at hl 0 rfl) ?_
    obtain ⟨⟨h12a, h12b, h12c, h12d⟩, hw⟩ := hw
    have h12e : x1.toNatClampNeg * componentBytes .int ≤ 536870912 := by have : componentBytes .int = 4 := rfl; omega
    refine va_newa (ty := .int) (N' := x1.toNatClampNeg) (a0 := (x1.toNatClampNeg, .inl (fun _ => 0))) hx hb lk4 rfl hK hP hD hS hA (fun _ => rfl) h12a rfl h12e (by show 0 + 1 ≤ mc; omega) (by show 0 + _ ≤ ms; omega) dX3_fewestBars_18 (fun q13 cN H hKN hP hD hS => ?_)
    obtain rfl : cN = cI := wg_cls hKN 3 0 rfl rfl
    have hP : va_P (dC, dI) vwCl [(a3, .inr (3, [.int v3_count, .ref a3_piece, .ref a3_best])), (a3_piece, .inl (cI, 14, .inl f3_piece)), (a3_best, .inl (cI, n3_best, .inl f3_best)), (q13, .inl (cI, x1.toNatClampNeg, .inl (fun _ => (0 : Int32))))] H := hP
    have hD : va_D A [(a3, .inr (3, [.int v3_count, .ref a3_piece, .ref a3_best])), (a3_piece, .inl (cI, 14, .inl f3_piece)), (a3_best, .inl (cI, n3_best, .inl f3_best)), (q13, .inl (cI, x1.toNatClampNeg, .inl (fun _ => (0 : Int32))))] := hD
    refine va_put (D := (dC, dI)) (ci := 3) (v := .ref q13) (ty := .array .int) (C := RX3) (T := TX3) (N := 3) hx hb hts inX3_fewestBars_X3 tyX3 tyX3_ok nmX3 hown hK hP hD hS 0 rfl rfl 2 (by decide) lk2 (fun _ h9 => h9) rfl (by decide +kernel) rfl rfl (Nat.le_of_ble_eq_true rfl) dX3_fewestBars_20 (fun H locs hP hD hS => ?_)
    have hP : va_P (dC, dI) vwCl [(a3, .inr (3, [.int v3_count, .ref a3_piece, .ref q13])), (a3_piece, .inl (cI, 14, .inl f3_piece)), (a3_best, .inl (cI, n3_best, .inl f3_best)), (q13, .inl (cI, x1.toNatClampNeg, .inl (fun _ => (0 : Int32))))] H := hP
    have hD : va_D A [(a3, .inr (3, [.int v3_count, .ref a3_piece, .ref q13])), (a3_piece, .inl (cI, 14, .inl f3_piece)), (a3_best, .inl (cI, n3_best, .inl f3_best)), (q13, .inl (cI, x1.toNatClampNeg, .inl (fun _ => (0 : Int32))))] := hD
    refine W.widen (k := 0) (n := 0) (by omega) (by omega) ?_
    exact k_23 (fun _ => (0 : Int32)) x1.toNatClampNeg p1 x1 q13 _ _ _ (hP.sub [0, 1, 3] rfl) (hD.sub [0, 1, 3] (by decide) rfl) hS (lv_sub hl [1, 2, 0] rfl) hw

theorem inX4_decimetres_X4 : ∀ w ∈ wsX40, w ∈ wsX4_decimetres := fun _ h => List.mem_cons_of_mem _ (List.mem_append_right _ h)
def wp_X4_decimetres (Q : Int32 → Prop) (v4_begin : Int32) (v4_end : Int32) : Prop :=
  (Q (v4_end - v4_begin) )
set_option maxHeartbeats 4000000 in
set_option maxRecDepth 100000 in
theorem c_X4_decimetres (l : Launch) (dC : Nat → ClassId) (dI : Nat → Nat → Nat) (cI cJ cZ : ClassId) (a6 : Nat) (a2 : Nat) (a5 : Nat) (a4 : Nat) (sz : Nat) (v4_begin : Int32) (v4_end : Int32) (v4_wireAtBegin : Int64) (v4_wireAtEnd : Int64) (Q : Int32 → Prop) (hw : wp_X4_decimetres Q v4_begin v4_end ) : Met l yX4_decimetres wsX4_decimetres ({ frames := 0, cells := 0, slots := 0, locals := 0 } : Room) (va_Pc [.ref a4] (fun U => U.heap.size = sz ∧ va_P (dC, dI) vwCl [(a4, .inr (4, [.ref a6, .ref a2, .ref a5, .int v4_begin, .int v4_end, .long v4_wireAtBegin, .long v4_wireAtEnd]))] U.heap ∧ va_K (dC, dI) vwCl [(cI, .int), (cJ, .long), (cZ, .boolean)] U ∧ va_D (fun _ => True) [(a4, .inr (4, [.ref a6, .ref a2, .ref a5, .int v4_begin, .int v4_end, .long v4_wireAtBegin, .long v4_wireAtEnd]))])) (va_Qi (fun r (u : Unit) => Q r) (fun (u : Unit) t => va_P (dC, dI) vwCl [(a4, .inr (4, [.ref a6, .ref a2, .ref a5, .int v4_begin, .int v4_end, .long v4_wireAtBegin, .long v4_wireAtEnd]))] t.heap ∧ va_K (dC, dI) vwCl [(cI, .int), (cJ, .long), (cZ, .boolean)] t ∧ va_D (va_A [(a4, .inr (4, [.ref a6, .ref a2, .ref a5, .int v4_begin, .int v4_end, .long v4_wireAtBegin, .long v4_wireAtEnd]))] sz) [(a4, .inr (4, [.ref a6, .ref a2, .ref a5, .int v4_begin, .int v4_end, .long v4_wireAtBegin, .long v4_wireAtEnd]))]) (va_A [(a4, .inr (4, [.ref a6, .ref a2, .ref a5, .int v4_begin, .int v4_end, .long v4_wireAtBegin, .long v4_wireAtEnd]))] sz)) 0 0 (va_A [(a4, .inr (4, [.ref a6, .ref a2, .ref a5, .int v4_begin, .int v4_end, .long v4_wireAtBegin, .long v4_wireAtEnd]))] sz) := by
  refine Met.ofW (cc := cX4_decimetres) (maxL := 1) (ret := (some .int)) (by decide) rfl ?_
  intro p e s m args below meth c s₁ B hml hv
  obtain ⟨rfl, hsz, hP, hK, hD0⟩ := hv
  have hx := B.exec
  have hb := B.bytes
  have hr := B.returns
  have hts := atoms_spec (ws := wsX4_decimetres) B.pre
  have hown : s.vm.findClass RX4 = some m.cls := findClass_of_methodNamed B.named
  have hlocks := B.notSynchronized
  subst hsz
  have hD := hD0.self (sz := s.heap.size)
  generalize hAe : va_A [(a4, .inr (4, [.ref a6, .ref a2, .ref a5, .int v4_begin, .int v4_end, .long v4_wireAtBegin, .long v4_wireAtEnd]))] s.heap.size = A at hD ⊢
  have hA : ∀ q : Nat, s.heap.size ≤ q → A q := fun q h => by rw [← hAe]; exact Or.inr h
  have hS : va_S A s.heap s.heap [] := va_S.rf
  have hP : va_P (dC, dI) vwCl [(a4, .inr (4, [.ref a6, .ref a2, .ref a5, .int v4_begin, .int v4_end, .long v4_wireAtBegin, .long v4_wireAtEnd]))] s.heap := hP
  have lk1 := hts (.fieldLink RX4 33 "WireRow$Span" "end" "I") (by decide +kernel)
  have lk2 := hts (.fieldLink RX4 29 "WireRow$Span" "begin" "I") (by decide +kernel)
  have hl := lv_entry ([.ref a4]) (n := 1) (Nat.le_of_ble_eq_true rfl)
  rw [lg_entry_eq]
  generalize (lg_sl ([.ref a4]) ++ List.replicate (1 - (lg_sl ([.ref a4])).length) Slot.unset).toArray = ls at hl ⊢
  have hl : lv_has ls 1 [(0, .ref a4)] := hl
  obtain ⟨H, hHe⟩ : ∃ H, H = s.heap := ⟨_, rfl⟩
  rw [← hHe] at hP
  have hS : va_S A s.heap H [] := by rw [hHe]; exact hS
  rw [← hHe]
  unfold wp_X4_decimetres at hw
  refine lv_aload_n hx hb dX4_decimetres_0 rfl (lv_at hl 0 rfl) ?_
  refine va_get (D := (dC, dI)) (ci := 4) (v := .int v4_end) (C := RX4) (T := TX4) (N := 7) hx hb hts inX4_decimetres_X4 hown hK hP 0 rfl rfl 4 (by decide) lk1 (fun _ h9 => h9) rfl dX4_decimetres_1 ?_
  refine lv_aload_n hx hb dX4_decimetres_4 rfl (lv_at hl 0 rfl) ?_
  refine va_get (D := (dC, dI)) (ci := 4) (v := .int v4_begin) (C := RX4) (T := TX4) (N := 7) hx hb hts inX4_decimetres_X4 hown hK hP 0 rfl rfl 3 (by decide) lk2 (fun _ h9 => h9) rfl dX4_decimetres_5 ?_
  refine lv_isub hx hb dX4_decimetres_8 ?_
  have hP9 := hP.sub (ws' := [(a4, .inr (4, [.ref a6, .ref a2, .ref a5, .int v4_begin, .int v4_end, .long v4_wireAtBegin, .long v4_wireAtEnd]))]) [0] rfl
  have hD9 := hD.sub (ws' := [(a4, .inr (4, [.ref a6, .ref a2, .ref a5, .int v4_begin, .int v4_end, .long v4_wireAtBegin, .long v4_wireAtEnd]))]) [0] (by decide) rfl
  exact W.iret (v := (v4_end - v4_begin)) hx hb hr (fun t ht hW => ⟨⟨(v4_end - v4_begin), (), rfl, hw, by rw [ht]; exact hP9, va_K.moved hW.alike hK, hD9⟩, hS.F ht⟩) hS.2.2 dX4_decimetres_9

theorem inX4_firstNotKept_X4 : ∀ w ∈ wsX40, w ∈ wsX4_firstNotKept := fun _ h => List.mem_cons_of_mem _ (List.mem_append_left _ (List.mem_append_left _ (List.mem_append_right _ h)))
theorem inX4_firstNotKept_X6 : ∀ w ∈ wsX60, w ∈ wsX4_firstNotKept := fun _ h => List.mem_cons_of_mem _ (List.mem_append_left _ (List.mem_append_right _ h))
theorem inX4_firstNotKept_X5 : ∀ w ∈ wsX50, w ∈ wsX4_firstNotKept := fun _ h => List.mem_cons_of_mem _ (List.mem_append_right _ h)
def wb_X4_firstNotKept_5 (Q : Int32 → Prop) (v6_bends : Int32) (f6_from : Nat → Int32) (f6_to : Nat → Int32) (f6_curve : Nat → Int32) (v5_wind : Int32) (v5_pull : Int32) (v5_room : Int32) (v4_begin : Int32) (v4_end : Int32) (v4_wireAtBegin : Int64) (v4_wireAtEnd : Int64) (K5 : (Int32) → Prop) (y5_1 : Int32) : Prop :=
  ((v4_end < y5_1 → (Q (-6 : Int32) )) ∧ (¬ v4_end < y5_1 → (wp_X4_keepsPlace (fun r2 => ((r2 = 0 → (Q y5_1 )) ∧ (¬ r2 = 0 → (∀ x4 : Int32, x4 = y5_1 + (1 : Int32) → (K5 x4))))) v6_bends f6_from f6_to f6_curve v5_wind v5_pull v5_room v4_begin v4_end v4_wireAtBegin v4_wireAtEnd y5_1)))
def wl_X4_firstNotKept_5 (Q : Int32 → Prop) (v6_bends : Int32) (f6_from : Nat → Int32) (f6_to : Nat → Int32) (f6_curve : Nat → Int32) (v5_wind : Int32) (v5_pull : Int32) (v5_room : Int32) (v4_begin : Int32) (v4_end : Int32) (v4_wireAtBegin : Int64) (v4_wireAtEnd : Int64) : Nat → (Int32) → Prop
  | 0, _ => False
  | n + 1, y5_1 => wb_X4_firstNotKept_5 Q v6_bends f6_from f6_to f6_curve v5_wind v5_pull v5_room v4_begin v4_end v4_wireAtBegin v4_wireAtEnd  (wl_X4_firstNotKept_5 Q v6_bends f6_from f6_to f6_curve v5_wind v5_pull v5_room v4_begin v4_end v4_wireAtBegin v4_wireAtEnd  n) y5_1
def wp_X4_firstNotKept (Q : Int32 → Prop) (v6_bends : Int32) (f6_from : Nat → Int32) (f6_to : Nat → Int32) (f6_curve : Nat → Int32) (v5_wind : Int32) (v5_pull : Int32) (v5_room : Int32) (v4_begin : Int32) (v4_end : Int32) (v4_wireAtBegin : Int64) (v4_wireAtEnd : Int64) : Prop :=
  (∃ n : Nat, wl_X4_firstNotKept_5 Q v6_bends f6_from f6_to f6_curve v5_wind v5_pull v5_room v4_begin v4_end v4_wireAtBegin v4_wireAtEnd  n v4_begin)
set_option maxHeartbeats 4000000 in
set_option maxRecDepth 100000 in
theorem c_X4_firstNotKept (l : Launch) (dC : Nat → ClassId) (dI : Nat → Nat → Nat) (cI cJ cZ : ClassId) (a6 : Nat) (a6_from : Nat) (a6_to : Nat) (a6_curve : Nat) (a2 : Nat) (a5 : Nat) (a4 : Nat) (sz : Nat) (v6_end : Int32) (v6_bends : Int32) (f6_from : Nat → Int32) (f6_to : Nat → Int32) (f6_curve : Nat → Int32) (v5_wind : Int32) (v5_pull : Int32) (v5_room : Int32) (v5_reach : Int32) (v4_begin : Int32) (v4_end : Int32) (v4_wireAtBegin : Int64) (v4_wireAtEnd : Int64) (Q : Int32 → Prop) (hw : wp_X4_firstNotKept Q v6_bends f6_from f6_to f6_curve v5_wind v5_pull v5_room v4_begin v4_end v4_wireAtBegin v4_wireAtEnd ) : Met l yX4_firstNotKept wsX4_firstNotKept ({ frames := 3, cells := 0, slots := 0, locals := 70 } : Room) (va_Pc [.ref a4] (fun U => U.heap.size = sz ∧ va_P (dC, dI) vwCl [(a6, .inr (6, [.int v6_end, .int v6_bends, .ref a6_from, .ref a6_to, .ref a6_curve])), (a6_from, .inl (cI, 8, .inl f6_from)), (a6_to, .inl (cI, 8, .inl f6_to)), (a6_curve, .inl (cI, 8, .inl f6_curve)), (a5, .inr (5, [.int v5_wind, .int v5_pull, .int v5_room, .int v5_reach])), (a4, .inr (4, [.ref a6, .ref a2, .ref a5, .int v4_begin, .int v4_end, .long v4_wireAtBegin, .long v4_wireAtEnd]))] U.heap ∧ va_K (dC, dI) vwCl [(cI, .int), (cJ, .long), (cZ, .boolean)] U ∧ va_D (fun _ => True) [(a6, .inr (6, [.int v6_end, .int v6_bends, .ref a6_from, .ref a6_to, .ref a6_curve])), (a6_from, .inl (cI, 8, .inl f6_from)), (a6_to, .inl (cI, 8, .inl f6_to)), (a6_curve, .inl (cI, 8, .inl f6_curve)), (a5, .inr (5, [.int v5_wind, .int v5_pull, .int v5_room, .int v5_reach])), (a4, .inr (4, [.ref a6, .ref a2, .ref a5, .int v4_begin, .int v4_end, .long v4_wireAtBegin, .long v4_wireAtEnd]))])) (va_Qi (fun r (u : Unit) => Q r) (fun (u : Unit) t => va_P (dC, dI) vwCl [(a6, .inr (6, [.int v6_end, .int v6_bends, .ref a6_from, .ref a6_to, .ref a6_curve])), (a6_from, .inl (cI, 8, .inl f6_from)), (a6_to, .inl (cI, 8, .inl f6_to)), (a6_curve, .inl (cI, 8, .inl f6_curve)), (a5, .inr (5, [.int v5_wind, .int v5_pull, .int v5_room, .int v5_reach])), (a4, .inr (4, [.ref a6, .ref a2, .ref a5, .int v4_begin, .int v4_end, .long v4_wireAtBegin, .long v4_wireAtEnd]))] t.heap ∧ va_K (dC, dI) vwCl [(cI, .int), (cJ, .long), (cZ, .boolean)] t ∧ va_D (va_A [(a6, .inr (6, [.int v6_end, .int v6_bends, .ref a6_from, .ref a6_to, .ref a6_curve])), (a6_from, .inl (cI, 8, .inl f6_from)), (a6_to, .inl (cI, 8, .inl f6_to)), (a6_curve, .inl (cI, 8, .inl f6_curve)), (a5, .inr (5, [.int v5_wind, .int v5_pull, .int v5_room, .int v5_reach])), (a4, .inr (4, [.ref a6, .ref a2, .ref a5, .int v4_begin, .int v4_end, .long v4_wireAtBegin, .long v4_wireAtEnd]))] sz) [(a6, .inr (6, [.int v6_end, .int v6_bends, .ref a6_from, .ref a6_to, .ref a6_curve])), (a6_from, .inl (cI, 8, .inl f6_from)), (a6_to, .inl (cI, 8, .inl f6_to)), (a6_curve, .inl (cI, 8, .inl f6_curve)), (a5, .inr (5, [.int v5_wind, .int v5_pull, .int v5_room, .int v5_reach])), (a4, .inr (4, [.ref a6, .ref a2, .ref a5, .int v4_begin, .int v4_end, .long v4_wireAtBegin, .long v4_wireAtEnd]))]) (va_A [(a6, .inr (6, [.int v6_end, .int v6_bends, .ref a6_from, .ref a6_to, .ref a6_curve])), (a6_from, .inl (cI, 8, .inl f6_from)), (a6_to, .inl (cI, 8, .inl f6_to)), (a6_curve, .inl (cI, 8, .inl f6_curve)), (a5, .inr (5, [.int v5_wind, .int v5_pull, .int v5_room, .int v5_reach])), (a4, .inr (4, [.ref a6, .ref a2, .ref a5, .int v4_begin, .int v4_end, .long v4_wireAtBegin, .long v4_wireAtEnd]))] sz)) 0 0 (va_A [(a6, .inr (6, [.int v6_end, .int v6_bends, .ref a6_from, .ref a6_to, .ref a6_curve])), (a6_from, .inl (cI, 8, .inl f6_from)), (a6_to, .inl (cI, 8, .inl f6_to)), (a6_curve, .inl (cI, 8, .inl f6_curve)), (a5, .inr (5, [.int v5_wind, .int v5_pull, .int v5_room, .int v5_reach])), (a4, .inr (4, [.ref a6, .ref a2, .ref a5, .int v4_begin, .int v4_end, .long v4_wireAtBegin, .long v4_wireAtEnd]))] sz) := by
  refine Met.ofW (cc := cX4_firstNotKept) (maxL := 2) (ret := (some .int)) (by decide) rfl ?_
  intro p e s m args below meth c s₁ B hml hv
  obtain ⟨rfl, hsz, hP, hK, hD0⟩ := hv
  have hx := B.exec
  have hb := B.bytes
  have hr := B.returns
  have hts := atoms_spec (ws := wsX4_firstNotKept) B.pre
  have hown : s.vm.findClass RX4 = some m.cls := findClass_of_methodNamed B.named
  have hlocks := B.notSynchronized
  subst hsz
  have hD := hD0.self (sz := s.heap.size)
  generalize hAe : va_A [(a6, .inr (6, [.int v6_end, .int v6_bends, .ref a6_from, .ref a6_to, .ref a6_curve])), (a6_from, .inl (cI, 8, .inl f6_from)), (a6_to, .inl (cI, 8, .inl f6_to)), (a6_curve, .inl (cI, 8, .inl f6_curve)), (a5, .inr (5, [.int v5_wind, .int v5_pull, .int v5_room, .int v5_reach])), (a4, .inr (4, [.ref a6, .ref a2, .ref a5, .int v4_begin, .int v4_end, .long v4_wireAtBegin, .long v4_wireAtEnd]))] s.heap.size = A at hD ⊢
  have hA : ∀ q : Nat, s.heap.size ≤ q → A q := fun q h => by rw [← hAe]; exact Or.inr h
  have hS : va_S A s.heap s.heap [] := va_S.rf
  have hP : va_P (dC, dI) vwCl [(a6, .inr (6, [.int v6_end, .int v6_bends, .ref a6_from, .ref a6_to, .ref a6_curve])), (a6_from, .inl (cI, 8, .inl f6_from)), (a6_to, .inl (cI, 8, .inl f6_to)), (a6_curve, .inl (cI, 8, .inl f6_curve)), (a5, .inr (5, [.int v5_wind, .int v5_pull, .int v5_room, .int v5_reach])), (a4, .inr (4, [.ref a6, .ref a2, .ref a5, .int v4_begin, .int v4_end, .long v4_wireAtBegin, .long v4_wireAtEnd]))] s.heap := hP
  have lk1 := hts (.fieldLink RX4 29 "WireRow$Span" "begin" "I") (by decide +kernel)
  have lk2 := hts (.fieldLink RX4 33 "WireRow$Span" "end" "I") (by decide +kernel)
  have k_5 : ∀ (n_5 : Nat) (y5_1 : Int32) (H : Heap) (locs : List Loc) (ls : Array Slot), va_P (dC, dI) vwCl [(a6, .inr (6, [.int v6_end, .int v6_bends, .ref a6_from, .ref a6_to, .ref a6_curve])), (a6_from, .inl (cI, 8, .inl f6_from)), (a6_to, .inl (cI, 8, .inl f6_to)), (a6_curve, .inl (cI, 8, .inl f6_curve)), (a5, .inr (5, [.int v5_wind, .int v5_pull, .int v5_room, .int v5_reach])), (a4, .inr (4, [.ref a6, .ref a2, .ref a5, .int v4_begin, .int v4_end, .long v4_wireAtBegin, .long v4_wireAtEnd]))] H → va_D A [(a6, .inr (6, [.int v6_end, .int v6_bends, .ref a6_from, .ref a6_to, .ref a6_curve])), (a6_from, .inl (cI, 8, .inl f6_from)), (a6_to, .inl (cI, 8, .inl f6_to)), (a6_curve, .inl (cI, 8, .inl f6_curve)), (a5, .inr (5, [.int v5_wind, .int v5_pull, .int v5_room, .int v5_reach])), (a4, .inr (4, [.ref a6, .ref a2, .ref a5, .int v4_begin, .int v4_end, .long v4_wireAtBegin, .long v4_wireAtEnd]))] → va_S A s.heap H locs → lv_has ls 2 [(0, .ref a4), (1, .int y5_1)] → (wl_X4_firstNotKept_5 Q v6_bends f6_from f6_to f6_curve v5_wind v5_pull v5_room v4_begin v4_end v4_wireAtBegin v4_wireAtEnd  n_5 y5_1) → W p l e (headSpec wsX4_firstNotKept ({ frames := 3, cells := 0, slots := 0, locals := 70 } : Room)).room s m [.ref a4].toArray below meth c H locs 0 0 (MQ below (va_Qi (fun r (u : Unit) => Q r) (fun (u : Unit) t => va_P (dC, dI) vwCl [(a6, .inr (6, [.int v6_end, .int v6_bends, .ref a6_from, .ref a6_to, .ref a6_curve])), (a6_from, .inl (cI, 8, .inl f6_from)), (a6_to, .inl (cI, 8, .inl f6_to)), (a6_curve, .inl (cI, 8, .inl f6_curve)), (a5, .inr (5, [.int v5_wind, .int v5_pull, .int v5_room, .int v5_reach])), (a4, .inr (4, [.ref a6, .ref a2, .ref a5, .int v4_begin, .int v4_end, .long v4_wireAtBegin, .long v4_wireAtEnd]))] t.heap ∧ va_K (dC, dI) vwCl [(cI, .int), (cJ, .long), (cZ, .boolean)] t ∧ va_D A [(a6, .inr (6, [.int v6_end, .int v6_bends, .ref a6_from, .ref a6_to, .ref a6_curve])), (a6_from, .inl (cI, 8, .inl f6_from)), (a6_to, .inl (cI, 8, .inl f6_to)), (a6_curve, .inl (cI, 8, .inl f6_curve)), (a5, .inr (5, [.int v5_wind, .int v5_pull, .int v5_room, .int v5_reach])), (a4, .inr (4, [.ref a6, .ref a2, .ref a5, .int v4_begin, .int v4_end, .long v4_wireAtBegin, .long v4_wireAtEnd]))]) A) [.ref a4].toArray s 0 0 A) (F0 m 5 ls []) := by
    intro n_5
    induction n_5 with
    | zero =>
      intro y5_1 H locs ls hP hD hS hl hw
      exact False.elim hw
    | succ n_5 ih_5 =>
      intro y5_1 H locs ls hP hD hS hl hw
      replace hw : wb_X4_firstNotKept_5 Q v6_bends f6_from f6_to f6_curve v5_wind v5_pull v5_room v4_begin v4_end v4_wireAtBegin v4_wireAtEnd  (wl_X4_firstNotKept_5 Q v6_bends f6_from f6_to f6_curve v5_wind v5_pull v5_room v4_begin v4_end v4_wireAtBegin v4_wireAtEnd  n_5) y5_1 := hw
      unfold wb_X4_firstNotKept_5 at hw
      refine lv_iload_n hx hb dX4_firstNotKept_5 rfl (lv_at hl 1 rfl) ?_
      refine lv_aload_n hx hb dX4_firstNotKept_6 rfl (lv_at hl 0 rfl) ?_
      refine va_get (D := (dC, dI)) (ci := 4) (v := .int v4_end) (C := RX4) (T := TX4) (N := 7) hx hb hts inX4_firstNotKept_X4 hown hK hP 5 rfl rfl 4 (by decide) lk2 (fun _ h9 => h9) rfl dX4_firstNotKept_7 ?_
      refine lv_icmp_gt (tgt := 29) hx hb dX4_firstNotKept_10 (by decide) (fun c1 => ?_) (fun c1 => ?_)
      · replace hw := hw.1 (c1)
        refine lv_bipush (v := (-6 : Int32)) hx hb dX4_firstNotKept_29 (by decide) ?_
        have hP9 := hP.sub (ws' := [(a6, .inr (6, [.int v6_end, .int v6_bends, .ref a6_from, .ref a6_to, .ref a6_curve])), (a6_from, .inl (cI, 8, .inl f6_from)), (a6_to, .inl (cI, 8, .inl f6_to)), (a6_curve, .inl (cI, 8, .inl f6_curve)), (a5, .inr (5, [.int v5_wind, .int v5_pull, .int v5_room, .int v5_reach])), (a4, .inr (4, [.ref a6, .ref a2, .ref a5, .int v4_begin, .int v4_end, .long v4_wireAtBegin, .long v4_wireAtEnd]))]) [0, 1, 2, 3, 4, 5] rfl
        have hD9 := hD.sub (ws' := [(a6, .inr (6, [.int v6_end, .int v6_bends, .ref a6_from, .ref a6_to, .ref a6_curve])), (a6_from, .inl (cI, 8, .inl f6_from)), (a6_to, .inl (cI, 8, .inl f6_to)), (a6_curve, .inl (cI, 8, .inl f6_curve)), (a5, .inr (5, [.int v5_wind, .int v5_pull, .int v5_room, .int v5_reach])), (a4, .inr (4, [.ref a6, .ref a2, .ref a5, .int v4_begin, .int v4_end, .long v4_wireAtBegin, .long v4_wireAtEnd]))]) [0, 1, 2, 3, 4, 5] (by decide) rfl
        exact W.iret (v := (-6 : Int32)) hx hb hr (fun t ht hW => ⟨⟨(-6 : Int32), (), rfl, hw, by rw [ht]; exact hP9, va_K.moved hW.alike hK, hD9⟩, hS.F ht⟩) hS.2.2 dX4_firstNotKept_31
      · replace hw := hw.2 (c1)
        refine lv_aload_n hx hb dX4_firstNotKept_13 rfl (lv_at hl 0 rfl) ?_
        refine lv_iload_n hx hb dX4_firstNotKept_14 rfl (lv_at hl 1 rfl) ?_
        have hPc := hP.sub (ws' := [(a6, .inr (6, [.int v6_end, .int v6_bends, .ref a6_from, .ref a6_to, .ref a6_curve])), (a6_from, .inl (cI, 8, .inl f6_from)), (a6_to, .inl (cI, 8, .inl f6_to)), (a6_curve, .inl (cI, 8, .inl f6_curve)), (a5, .inr (5, [.int v5_wind, .int v5_pull, .int v5_room, .int v5_reach])), (a4, .inr (4, [.ref a6, .ref a2, .ref a5, .int v4_begin, .int v4_end, .long v4_wireAtBegin, .long v4_wireAtEnd]))]) [0, 1, 2, 3, 4, 5] rfl
        have hDc := hD.sub (ws' := [(a6, .inr (6, [.int v6_end, .int v6_bends, .ref a6_from, .ref a6_to, .ref a6_curve])), (a6_from, .inl (cI, 8, .inl f6_from)), (a6_to, .inl (cI, 8, .inl f6_to)), (a6_curve, .inl (cI, 8, .inl f6_curve)), (a5, .inr (5, [.int v5_wind, .int v5_pull, .int v5_room, .int v5_reach])), (a4, .inr (4, [.ref a6, .ref a2, .ref a5, .int v4_begin, .int v4_end, .long v4_wireAtBegin, .long v4_wireAtEnd]))]) [0, 1, 2, 3, 4, 5] (by decide) rfl
        have hFc := va_free (wc := [(a6, .inr (6, [.int v6_end, .int v6_bends, .ref a6_from, .ref a6_to, .ref a6_curve])), (a6_from, .inl (cI, 8, .inl f6_from)), (a6_to, .inl (cI, 8, .inl f6_to)), (a6_curve, .inl (cI, 8, .inl f6_curve)), (a5, .inr (5, [.int v5_wind, .int v5_pull, .int v5_room, .int v5_reach])), (a4, .inr (4, [.ref a6, .ref a2, .ref a5, .int v4_begin, .int v4_end, .long v4_wireAtBegin, .long v4_wireAtEnd]))]) hD hS hA [0, 1, 2, 3, 4, 5] rfl
        refine va_calli (va_runV (As := [.int y5_1]) (rest := []) ⟨hx, hb, hml, hown, hts⟩ (c_X4_keepsPlace l dC dI cI cJ cZ a6 a6_from a6_to a6_curve a2 a5 a4 H.size v6_end v6_bends f6_from f6_to f6_curve v5_wind v5_pull v5_room v5_reach v4_begin v4_end v4_wireAtBegin v4_wireAtEnd y5_1 _ hw) (cwV 1 hts gX4_firstNotKept_X4_keepsPlace rfl rfl rfl (by decide +kernel) ⟨Nat.le_of_ble_eq_true rfl, Nat.le_of_ble_eq_true rfl⟩) ⟨fun a U g mk q => by obtain ⟨q0, q1, qP, qK, qD⟩ := q; exact ⟨q0, q1, qP, va_K.moved (u := U) (U := U.calling g mk a) (Vm.Alike.refl U.vm) qK, qD⟩, va_recv hK hP (ci := 4) (q0 := 5) rfl rfl, fun U hU hW => ⟨rfl, by rw [hU], by rw [hU]; exact hPc, va_K.moved hW.alike hK, hDc.weaken (fun _ _ _ _ => trivial)⟩⟩ rfl rfl hl.1 rfl (lv_room (Nat.le_of_ble_eq_true rfl)) dX4_firstNotKept_15 ⟨(Nat.zero_le _), (Nat.zero_le _)⟩) hS (fun q _ h => hFc q h) hFc (fun r2 u t H1 locs ht hvm hw hB hz1 hk1 hS => ?_)
        obtain ⟨hP1, -, hD1⟩ := hB
        try dsimp only at hw
        rw [ht] at hP1
        obtain ⟨hP, hD⟩ := va_join (wr := []) (w1 := [(a6, .inr (6, [.int v6_end, .int v6_bends, .ref a6_from, .ref a6_to, .ref a6_curve])), (a6_from, .inl (cI, 8, .inl f6_from)), (a6_to, .inl (cI, 8, .inl f6_to)), (a6_curve, .inl (cI, 8, .inl f6_curve)), (a5, .inr (5, [.int v5_wind, .int v5_pull, .int v5_room, .int v5_reach])), (a4, .inr (4, [.ref a6, .ref a2, .ref a5, .int v4_begin, .int v4_end, .long v4_wireAtBegin, .long v4_wireAtEnd]))]) hP hD [0, 1, 2, 3, 4, 5] [] rfl rfl (by decide) (by decide) hk1 hFc hP1 hD1
        generalize H1 = H at hP hS ⊢
        have hP : va_P (dC, dI) vwCl [(a6, .inr (6, [.int v6_end, .int v6_bends, .ref a6_from, .ref a6_to, .ref a6_curve])), (a6_from, .inl (cI, 8, .inl f6_from)), (a6_to, .inl (cI, 8, .inl f6_to)), (a6_curve, .inl (cI, 8, .inl f6_curve)), (a5, .inr (5, [.int v5_wind, .int v5_pull, .int v5_room, .int v5_reach])), (a4, .inr (4, [.ref a6, .ref a2, .ref a5, .int v4_begin, .int v4_end, .long v4_wireAtBegin, .long v4_wireAtEnd]))] H := hP
        have hD : va_D A [(a6, .inr (6, [.int v6_end, .int v6_bends, .ref a6_from, .ref a6_to, .ref a6_curve])), (a6_from, .inl (cI, 8, .inl f6_from)), (a6_to, .inl (cI, 8, .inl f6_to)), (a6_curve, .inl (cI, 8, .inl f6_curve)), (a5, .inr (5, [.int v5_wind, .int v5_pull, .int v5_room, .int v5_reach])), (a4, .inr (4, [.ref a6, .ref a2, .ref a5, .int v4_begin, .int v4_end, .long v4_wireAtBegin, .long v4_wireAtEnd]))] := hD
        refine lv_if_ne (tgt := 23) hx hb dX4_firstNotKept_18 (by decide) (fun c3 => ?_) (fun c3 => ?_)
        · replace hw := hw.2 (c3)
          obtain ⟨x4, ex4⟩ : ∃ y : Int32, y = y5_1 + (1 : Int32) := ⟨_, rfl⟩
          replace hw := hw x4 ex4
          refine lv_iinc (v := x4) (lv' := [(1, .int x4), (0, .ref a4)]) hx hb dX4_firstNotKept_23 hl (k := 1) rfl (by rw [ex4]; rfl) (by decide) rfl (fun ls hl => ?_)
          refine lv_goto (tgt := 5) hx hb dX4_firstNotKept_26 (by decide) ?_
          exact ih_5 x4 _ _ _ (hP.sub [0, 1, 2, 3, 4, 5] rfl) (hD.sub [0, 1, 2, 3, 4, 5] (by decide) rfl) hS (lv_sub hl [1, 0] rfl) hw
        · replace hw := hw.1 (c3)
          refine lv_iload_n hx hb dX4_firstNotKept_21 rfl (lv_at hl 1 rfl) ?_
          have hP9 := hP.sub (ws' := [(a6, .inr (6, [.int v6_end, .int v6_bends, .ref a6_from, .ref a6_to, .ref a6_curve])), (a6_from, .inl (cI, 8, .inl f6_from)), (a6_to, .inl (cI, 8, .inl f6_to)), (a6_curve, .inl (cI, 8, .inl f6_curve)), (a5, .inr (5, [.int v5_wind, .int v5_pull, .int v5_room, .int v5_reach])), (a4, .inr (4, [.ref a6, .ref a2, .ref a5, .int v4_begin, .int v4_end, .long v4_wireAtBegin, .long v4_wireAtEnd]))]) [0, 1, 2, 3, 4, 5] rfl
          have hD9 := hD.sub (ws' := [(a6, .inr (6, [.int v6_end, .int v6_bends, .ref a6_from, .ref a6_to, .ref a6_curve])), (a6_from, .inl (cI, 8, .inl f6_from)), (a6_to, .inl (cI, 8, .inl f6_to)), (a6_curve, .inl (cI, 8, .inl f6_curve)), (a5, .inr (5, [.int v5_wind, .int v5_pull, .int v5_room, .int v5_reach])), (a4, .inr (4, [.ref a6, .ref a2, .ref a5, .int v4_begin, .int v4_end, .long v4_wireAtBegin, .long v4_wireAtEnd]))]) [0, 1, 2, 3, 4, 5] (by decide) rfl
          exact W.iret (v := y5_1) hx hb hr (fun t ht hW => ⟨⟨y5_1, (), rfl, hw, by rw [ht]; exact hP9, va_K.moved hW.alike hK, hD9⟩, hS.F ht⟩) hS.2.2 dX4_firstNotKept_22
  have hl := lv_entry ([.ref a4]) (n := 2) (Nat.le_of_ble_eq_true rfl)
  rw [lg_entry_eq]
  generalize (lg_sl ([.ref a4]) ++ List.replicate (2 - (lg_sl ([.ref a4])).length) Slot.unset).toArray = ls at hl ⊢
  have hl : lv_has ls 2 [(0, .ref a4)] := hl
  obtain ⟨H, hHe⟩ : ∃ H, H = s.heap := ⟨_, rfl⟩
  rw [← hHe] at hP
  have hS : va_S A s.heap H [] := by rw [hHe]; exact hS
  rw [← hHe]
  unfold wp_X4_firstNotKept at hw
  refine lv_aload_n hx hb dX4_firstNotKept_0 rfl (lv_at hl 0 rfl) ?_
  refine va_get (D := (dC, dI)) (ci := 4) (v := .int v4_begin) (C := RX4) (T := TX4) (N := 7) hx hb hts inX4_firstNotKept_X4 hown hK hP 5 rfl rfl 3 (by decide) lk1 (fun _ h9 => h9) rfl dX4_firstNotKept_1 ?_
  refine lv_istore_n (lv' := [(1, .int v4_begin), (0, .ref a4)]) hx hb dX4_firstNotKept_4 rfl hl (by decide) rfl (fun ls hl => ?_)
  obtain ⟨n_5, hw⟩ := hw
  exact k_5 n_5 v4_begin _ _ _ (hP.sub [0, 1, 2, 3, 4, 5] rfl) (hD.sub [0, 1, 2, 3, 4, 5] (by decide) rfl) hS (lv_sub hl [1, 0] rfl) hw

theorem inX6_has_X6 : ∀ w ∈ wsX60, w ∈ wsX6_has := fun _ h => List.mem_cons_of_mem _ (List.mem_append_right _ h)
def wp_X6_has (Q : Int32 → Prop) (v6_end : Int32) (p1 : Int32) : Prop :=
  ((p1 < 0 → (((0 : Int32) = 0 ∨ (0 : Int32) = 1) ∧ Q (0 : Int32) )) ∧ (¬ p1 < 0 → ((v6_end < p1 → (((0 : Int32) = 0 ∨ (0 : Int32) = 1) ∧ Q (0 : Int32) )) ∧ (¬ v6_end < p1 → (((1 : Int32) = 0 ∨ (1 : Int32) = 1) ∧ Q (1 : Int32) )))))
set_option maxHeartbeats 4000000 in
set_option maxRecDepth 100000 in
theorem c_X6_has (l : Launch) (dC : Nat → ClassId) (dI : Nat → Nat → Nat) (cI cJ cZ : ClassId) (a6 : Nat) (a6_from : Nat) (a6_to : Nat) (a6_curve : Nat) (sz : Nat) (v6_end : Int32) (v6_bends : Int32) (p1 : Int32) (Q : Int32 → Prop) (hw : wp_X6_has Q v6_end p1) : Met l yX6_has wsX6_has ({ frames := 0, cells := 0, slots := 0, locals := 0 } : Room) (va_Pc [.ref a6, .int p1] (fun U => U.heap.size = sz ∧ va_P (dC, dI) vwCl [(a6, .inr (6, [.int v6_end, .int v6_bends, .ref a6_from, .ref a6_to, .ref a6_curve]))] U.heap ∧ va_K (dC, dI) vwCl [(cI, .int), (cJ, .long), (cZ, .boolean)] U ∧ va_D (fun _ => True) [(a6, .inr (6, [.int v6_end, .int v6_bends, .ref a6_from, .ref a6_to, .ref a6_curve]))])) (va_Qi (fun r (u : Unit) => Q r) (fun (u : Unit) t => va_P (dC, dI) vwCl [(a6, .inr (6, [.int v6_end, .int v6_bends, .ref a6_from, .ref a6_to, .ref a6_curve]))] t.heap ∧ va_K (dC, dI) vwCl [(cI, .int), (cJ, .long), (cZ, .boolean)] t ∧ va_D (va_A [(a6, .inr (6, [.int v6_end, .int v6_bends, .ref a6_from, .ref a6_to, .ref a6_curve]))] sz) [(a6, .inr (6, [.int v6_end, .int v6_bends, .ref a6_from, .ref a6_to, .ref a6_curve]))]) (va_A [(a6, .inr (6, [.int v6_end, .int v6_bends, .ref a6_from, .ref a6_to, .ref a6_curve]))] sz)) 0 0 (va_A [(a6, .inr (6, [.int v6_end, .int v6_bends, .ref a6_from, .ref a6_to, .ref a6_curve]))] sz) := by
  refine Met.ofW (cc := cX6_has) (maxL := 2) (ret := (some .boolean)) (by decide) rfl ?_
  intro p e s m args below meth c s₁ B hml hv
  obtain ⟨rfl, hsz, hP, hK, hD0⟩ := hv
  have hx := B.exec
  have hb := B.bytes
  have hr := B.returns
  have hts := atoms_spec (ws := wsX6_has) B.pre
  have hown : s.vm.findClass RX6 = some m.cls := findClass_of_methodNamed B.named
  have hlocks := B.notSynchronized
  subst hsz
  have hD := hD0.self (sz := s.heap.size)
  generalize hAe : va_A [(a6, .inr (6, [.int v6_end, .int v6_bends, .ref a6_from, .ref a6_to, .ref a6_curve]))] s.heap.size = A at hD ⊢
  have hA : ∀ q : Nat, s.heap.size ≤ q → A q := fun q h => by rw [← hAe]; exact Or.inr h
  have hS : va_S A s.heap s.heap [] := va_S.rf
  have hP : va_P (dC, dI) vwCl [(a6, .inr (6, [.int v6_end, .int v6_bends, .ref a6_from, .ref a6_to, .ref a6_curve]))] s.heap := hP
  have lk1 := hts (.fieldLink RX6 9 "WireRow$Track" "end" "I") (by decide +kernel)
  have hl := lv_entry ([.ref a6, .int p1]) (n := 2) (Nat.le_of_ble_eq_true rfl)
  rw [lg_entry_eq]
  generalize (lg_sl ([.ref a6, .int p1]) ++ List.replicate (2 - (lg_sl ([.ref a6, .int p1])).length) Slot.unset).toArray = ls at hl ⊢
  have hl : lv_has ls 2 [(0, .ref a6), (1, .int p1)] := hl
  obtain ⟨H, hHe⟩ : ∃ H, H = s.heap := ⟨_, rfl⟩
  rw [← hHe] at hP
  have hS : va_S A s.heap H [] := by rw [hHe]; exact hS
  rw [← hHe]
  unfold wp_X6_has at hw
  refine lv_iload_n hx hb dX6_has_0 rfl (lv_at hl 1 rfl) ?_
  refine lv_if_lt (tgt := 16) hx hb dX6_has_1 (by decide) (fun c1 => ?_) (fun c1 => ?_)
  · replace hw := hw.1 (c1)
    refine lv_iconst (v := (0 : Int32)) hx hb dX6_has_16 (by decide) ?_
    have hP9 := hP.sub (ws' := [(a6, .inr (6, [.int v6_end, .int v6_bends, .ref a6_from, .ref a6_to, .ref a6_curve]))]) [0] rfl
    have hD9 := hD.sub (ws' := [(a6, .inr (6, [.int v6_end, .int v6_bends, .ref a6_from, .ref a6_to, .ref a6_curve]))]) [0] (by decide) rfl
    obtain ⟨h2, hw⟩ := hw
    exact W.zret (v := (0 : Int32)) hx hb hr (wg_bool h2) (fun t ht hW => ⟨⟨(0 : Int32), (), rfl, hw, by rw [ht]; exact hP9, va_K.moved hW.alike hK, hD9⟩, hS.F ht⟩) hS.2.2 dX6_has_17
  · replace hw := hw.2 (c1)
    refine lv_iload_n hx hb dX6_has_4 rfl (lv_at hl 1 rfl) ?_
    refine lv_aload_n hx hb dX6_has_5 rfl (lv_at hl 0 rfl) ?_
    refine va_get (D := (dC, dI)) (ci := 6) (v := .int v6_end) (C := RX6) (T := TX6) (N := 5) hx hb hts inX6_has_X6 hown hK hP 0 rfl rfl 0 (by decide) lk1 (fun _ h9 => h9) rfl dX6_has_6 ?_
    refine lv_icmp_gt (tgt := 16) hx hb dX6_has_9 (by decide) (fun c3 => ?_) (fun c3 => ?_)
    · replace hw := hw.1 (c3)
      refine lv_iconst (v := (0 : Int32)) hx hb dX6_has_16 (by decide) ?_
      have hP9 := hP.sub (ws' := [(a6, .inr (6, [.int v6_end, .int v6_bends, .ref a6_from, .ref a6_to, .ref a6_curve]))]) [0] rfl
      have hD9 := hD.sub (ws' := [(a6, .inr (6, [.int v6_end, .int v6_bends, .ref a6_from, .ref a6_to, .ref a6_curve]))]) [0] (by decide) rfl
      obtain ⟨h4, hw⟩ := hw
      exact W.zret (v := (0 : Int32)) hx hb hr (wg_bool h4) (fun t ht hW => ⟨⟨(0 : Int32), (), rfl, hw, by rw [ht]; exact hP9, va_K.moved hW.alike hK, hD9⟩, hS.F ht⟩) hS.2.2 dX6_has_17
    · replace hw := hw.2 (c3)
      refine lv_iconst (v := (1 : Int32)) hx hb dX6_has_12 (by decide) ?_
      refine lv_goto (tgt := 17) hx hb dX6_has_13 (by decide) ?_
      have hP9 := hP.sub (ws' := [(a6, .inr (6, [.int v6_end, .int v6_bends, .ref a6_from, .ref a6_to, .ref a6_curve]))]) [0] rfl
      have hD9 := hD.sub (ws' := [(a6, .inr (6, [.int v6_end, .int v6_bends, .ref a6_from, .ref a6_to, .ref a6_curve]))]) [0] (by decide) rfl
      obtain ⟨h5, hw⟩ := hw
      exact W.zret (v := (1 : Int32)) hx hb hr (wg_bool h5) (fun t ht hW => ⟨⟨(1 : Int32), (), rfl, hw, by rw [ht]; exact hP9, va_K.moved hW.alike hK, hD9⟩, hS.F ht⟩) hS.2.2 dX6_has_17

theorem inX6_isBentWithin_X6 : ∀ w ∈ wsX60, w ∈ wsX6_isBentWithin := fun _ h => List.mem_cons_of_mem _ (List.mem_append_right _ h)
def wb_X6_isBentWithin_32 (Q : Int32 → Prop) (v6_bends : Int32) (f6_from : Nat → Int32) (f6_to : Nat → Int32) (K2 : (Int32) → (Int32) → (Int32) → Prop) (y32_1 : Int32) (y32_2 : Int32) (y32_3 : Int32) : Prop :=
  (∀ x5 : Int32, x5 = y32_3 + (1 : Int32) → (K2 y32_1 y32_2 x5))
def wb_X6_isBentWithin_2 (Q : Int32 → Prop) (v6_bends : Int32) (f6_from : Nat → Int32) (f6_to : Nat → Int32) (K2 : (Int32) → (Int32) → (Int32) → Prop) (y2_1 : Int32) (y2_2 : Int32) (y2_3 : Int32) : Prop :=
  ((v6_bends ≤ y2_3 → (((0 : Int32) = 0 ∨ (0 : Int32) = 1) ∧ Q (0 : Int32) )) ∧ (¬ v6_bends ≤ y2_3 → (vp_in y2_3 8 ∧ (((f6_to y2_3.toNatClampNeg) ≤ y2_1 → (wb_X6_isBentWithin_32 Q v6_bends f6_from f6_to K2 y2_1 y2_2 y2_3)) ∧ (¬ (f6_to y2_3.toNatClampNeg) ≤ y2_1 → (vp_in y2_3 8 ∧ ((y2_2 ≤ (f6_from y2_3.toNatClampNeg) → (wb_X6_isBentWithin_32 Q v6_bends f6_from f6_to K2 y2_1 y2_2 y2_3)) ∧ (¬ y2_2 ≤ (f6_from y2_3.toNatClampNeg) → (((1 : Int32) = 0 ∨ (1 : Int32) = 1) ∧ Q (1 : Int32) )))))))))
def wl_X6_isBentWithin_2 (Q : Int32 → Prop) (v6_bends : Int32) (f6_from : Nat → Int32) (f6_to : Nat → Int32) : Nat → (Int32) → (Int32) → (Int32) → Prop
  | 0, _, _, _ => False
  | n + 1, y2_1, y2_2, y2_3 => wb_X6_isBentWithin_2 Q v6_bends f6_from f6_to  (wl_X6_isBentWithin_2 Q v6_bends f6_from f6_to  n) y2_1 y2_2 y2_3
def wp_X6_isBentWithin (Q : Int32 → Prop) (v6_bends : Int32) (f6_from : Nat → Int32) (f6_to : Nat → Int32) (p1 : Int32) (p2 : Int32) : Prop :=
  (∃ n : Nat, wl_X6_isBentWithin_2 Q v6_bends f6_from f6_to  n p1 p2 (0 : Int32))
set_option maxHeartbeats 4000000 in
set_option maxRecDepth 100000 in
theorem c_X6_isBentWithin (l : Launch) (dC : Nat → ClassId) (dI : Nat → Nat → Nat) (cI cJ cZ : ClassId) (a6 : Nat) (a6_from : Nat) (a6_to : Nat) (a6_curve : Nat) (sz : Nat) (v6_end : Int32) (v6_bends : Int32) (f6_from : Nat → Int32) (f6_to : Nat → Int32) (p1 : Int32) (p2 : Int32) (Q : Int32 → Prop) (hw : wp_X6_isBentWithin Q v6_bends f6_from f6_to p1 p2) : Met l yX6_isBentWithin wsX6_isBentWithin ({ frames := 0, cells := 0, slots := 0, locals := 0 } : Room) (va_Pc [.ref a6, .int p1, .int p2] (fun U => U.heap.size = sz ∧ va_P (dC, dI) vwCl [(a6, .inr (6, [.int v6_end, .int v6_bends, .ref a6_from, .ref a6_to, .ref a6_curve])), (a6_from, .inl (cI, 8, .inl f6_from)), (a6_to, .inl (cI, 8, .inl f6_to))] U.heap ∧ va_K (dC, dI) vwCl [(cI, .int), (cJ, .long), (cZ, .boolean)] U ∧ va_D (fun _ => True) [(a6, .inr (6, [.int v6_end, .int v6_bends, .ref a6_from, .ref a6_to, .ref a6_curve])), (a6_from, .inl (cI, 8, .inl f6_from)), (a6_to, .inl (cI, 8, .inl f6_to))])) (va_Qi (fun r (u : Unit) => Q r) (fun (u : Unit) t => va_P (dC, dI) vwCl [(a6, .inr (6, [.int v6_end, .int v6_bends, .ref a6_from, .ref a6_to, .ref a6_curve])), (a6_from, .inl (cI, 8, .inl f6_from)), (a6_to, .inl (cI, 8, .inl f6_to))] t.heap ∧ va_K (dC, dI) vwCl [(cI, .int), (cJ, .long), (cZ, .boolean)] t ∧ va_D (va_A [(a6, .inr (6, [.int v6_end, .int v6_bends, .ref a6_from, .ref a6_to, .ref a6_curve])), (a6_from, .inl (cI, 8, .inl f6_from)), (a6_to, .inl (cI, 8, .inl f6_to))] sz) [(a6, .inr (6, [.int v6_end, .int v6_bends, .ref a6_from, .ref a6_to, .ref a6_curve])), (a6_from, .inl (cI, 8, .inl f6_from)), (a6_to, .inl (cI, 8, .inl f6_to))]) (va_A [(a6, .inr (6, [.int v6_end, .int v6_bends, .ref a6_from, .ref a6_to, .ref a6_curve])), (a6_from, .inl (cI, 8, .inl f6_from)), (a6_to, .inl (cI, 8, .inl f6_to))] sz)) 0 0 (va_A [(a6, .inr (6, [.int v6_end, .int v6_bends, .ref a6_from, .ref a6_to, .ref a6_curve])), (a6_from, .inl (cI, 8, .inl f6_from)), (a6_to, .inl (cI, 8, .inl f6_to))] sz) := by
  refine Met.ofW (cc := cX6_isBentWithin) (maxL := 4) (ret := (some .boolean)) (by decide) rfl ?_
  intro p e s m args below meth c s₁ B hml hv
  obtain ⟨rfl, hsz, hP, hK, hD0⟩ := hv
  have hx := B.exec
  have hb := B.bytes
  have hr := B.returns
  have hts := atoms_spec (ws := wsX6_isBentWithin) B.pre
  have hown : s.vm.findClass RX6 = some m.cls := findClass_of_methodNamed B.named
  have hlocks := B.notSynchronized
  subst hsz
  have hD := hD0.self (sz := s.heap.size)
  generalize hAe : va_A [(a6, .inr (6, [.int v6_end, .int v6_bends, .ref a6_from, .ref a6_to, .ref a6_curve])), (a6_from, .inl (cI, 8, .inl f6_from)), (a6_to, .inl (cI, 8, .inl f6_to))] s.heap.size = A at hD ⊢
  have hA : ∀ q : Nat, s.heap.size ≤ q → A q := fun q h => by rw [← hAe]; exact Or.inr h
  have hS : va_S A s.heap s.heap [] := va_S.rf
  have hP : va_P (dC, dI) vwCl [(a6, .inr (6, [.int v6_end, .int v6_bends, .ref a6_from, .ref a6_to, .ref a6_curve])), (a6_from, .inl (cI, 8, .inl f6_from)), (a6_to, .inl (cI, 8, .inl f6_to))] s.heap := hP
  have lk1 := hts (.fieldLink RX6 25 "WireRow$Track" "bends" "I") (by decide +kernel)
  have lk2 := hts (.fieldLink RX6 19 "WireRow$Track" "to" "[I") (by decide +kernel)
  have lk3 := hts (.fieldLink RX6 15 "WireRow$Track" "from" "[I") (by decide +kernel)
  have k_2 : ∀ (n_2 : Nat) (y2_1 : Int32) (y2_2 : Int32) (y2_3 : Int32) (H : Heap) (locs : List Loc) (ls : Array Slot), va_P (dC, dI) vwCl [(a6, .inr (6, [.int v6_end, .int v6_bends, .ref a6_from, .ref a6_to, .ref a6_curve])), (a6_from, .inl (cI, 8, .inl f6_from)), (a6_to, .inl (cI, 8, .inl f6_to))] H → va_D A [(a6, .inr (6, [.int v6_end, .int v6_bends, .ref a6_from, .ref a6_to, .ref a6_curve])), (a6_from, .inl (cI, 8, .inl f6_from)), (a6_to, .inl (cI, 8, .inl f6_to))] → va_S A s.heap H locs → lv_has ls 4 [(0, .ref a6), (1, .int y2_1), (2, .int y2_2), (3, .int y2_3)] → (wl_X6_isBentWithin_2 Q v6_bends f6_from f6_to  n_2 y2_1 y2_2 y2_3) → W p l e (headSpec wsX6_isBentWithin ({ frames := 0, cells := 0, slots := 0, locals := 0 } : Room)).room s m [.ref a6, .int p1, .int p2].toArray below meth c H locs 0 0 (MQ below (va_Qi (fun r (u : Unit) => Q r) (fun (u : Unit) t => va_P (dC, dI) vwCl [(a6, .inr (6, [.int v6_end, .int v6_bends, .ref a6_from, .ref a6_to, .ref a6_curve])), (a6_from, .inl (cI, 8, .inl f6_from)), (a6_to, .inl (cI, 8, .inl f6_to))] t.heap ∧ va_K (dC, dI) vwCl [(cI, .int), (cJ, .long), (cZ, .boolean)] t ∧ va_D A [(a6, .inr (6, [.int v6_end, .int v6_bends, .ref a6_from, .ref a6_to, .ref a6_curve])), (a6_from, .inl (cI, 8, .inl f6_from)), (a6_to, .inl (cI, 8, .inl f6_to))]) A) [.ref a6, .int p1, .int p2].toArray s 0 0 A) (F0 m 2 ls []) := by
    intro n_2
    induction n_2 with
    | zero =>
      intro y2_1 y2_2 y2_3 H locs ls hP hD hS hl hw
      exact False.elim hw
    | succ n_2 ih_2 =>
      have k_32 : ∀  (y32_1 : Int32) (y32_2 : Int32) (y32_3 : Int32) (H : Heap) (locs : List Loc) (ls : Array Slot), va_P (dC, dI) vwCl [(a6, .inr (6, [.int v6_end, .int v6_bends, .ref a6_from, .ref a6_to, .ref a6_curve])), (a6_from, .inl (cI, 8, .inl f6_from)), (a6_to, .inl (cI, 8, .inl f6_to))] H → va_D A [(a6, .inr (6, [.int v6_end, .int v6_bends, .ref a6_from, .ref a6_to, .ref a6_curve])), (a6_from, .inl (cI, 8, .inl f6_from)), (a6_to, .inl (cI, 8, .inl f6_to))] → va_S A s.heap H locs → lv_has ls 4 [(0, .ref a6), (1, .int y32_1), (2, .int y32_2), (3, .int y32_3)] → (wb_X6_isBentWithin_32 Q v6_bends f6_from f6_to (wl_X6_isBentWithin_2 Q v6_bends f6_from f6_to  n_2) y32_1 y32_2 y32_3) → W p l e (headSpec wsX6_isBentWithin ({ frames := 0, cells := 0, slots := 0, locals := 0 } : Room)).room s m [.ref a6, .int p1, .int p2].toArray below meth c H locs 0 0 (MQ below (va_Qi (fun r (u : Unit) => Q r) (fun (u : Unit) t => va_P (dC, dI) vwCl [(a6, .inr (6, [.int v6_end, .int v6_bends, .ref a6_from, .ref a6_to, .ref a6_curve])), (a6_from, .inl (cI, 8, .inl f6_from)), (a6_to, .inl (cI, 8, .inl f6_to))] t.heap ∧ va_K (dC, dI) vwCl [(cI, .int), (cJ, .long), (cZ, .boolean)] t ∧ va_D A [(a6, .inr (6, [.int v6_end, .int v6_bends, .ref a6_from, .ref a6_to, .ref a6_curve])), (a6_from, .inl (cI, 8, .inl f6_from)), (a6_to, .inl (cI, 8, .inl f6_to))]) A) [.ref a6, .int p1, .int p2].toArray s 0 0 A) (F0 m 32 ls []) := by
        intro y32_1 y32_2 y32_3 H locs ls hP hD hS hl hw
        unfold wb_X6_isBentWithin_32 at hw
        obtain ⟨x5, ex5⟩ : ∃ y : Int32, y = y32_3 + (1 : Int32) := ⟨_, rfl⟩
        replace hw := hw x5 ex5
        refine lv_iinc (v := x5) (lv' := [(3, .int x5), (0, .ref a6), (1, .int y32_1), (2, .int y32_2)]) hx hb dX6_isBentWithin_32 hl (k := 3) rfl (by rw [ex5]; rfl) (by decide) rfl (fun ls hl => ?_)
        refine lv_goto (tgt := 2) hx hb dX6_isBentWithin_35 (by decide) ?_
        exact ih_2 y32_1 y32_2 x5 _ _ _ (hP.sub [0, 1, 2] rfl) (hD.sub [0, 1, 2] (by decide) rfl) hS (lv_sub hl [1, 2, 3, 0] rfl) hw
      intro y2_1 y2_2 y2_3 H locs ls hP hD hS hl hw
      replace hw : wb_X6_isBentWithin_2 Q v6_bends f6_from f6_to  (wl_X6_isBentWithin_2 Q v6_bends f6_from f6_to  n_2) y2_1 y2_2 y2_3 := hw
      unfold wb_X6_isBentWithin_2 at hw
      refine lv_iload_n hx hb dX6_isBentWithin_2 rfl (lv_at hl 3 rfl) ?_
      refine lv_aload_n hx hb dX6_isBentWithin_3 rfl (lv_at hl 0 rfl) ?_
      refine va_get (D := (dC, dI)) (ci := 6) (v := .int v6_bends) (C := RX6) (T := TX6) (N := 5) hx hb hts inX6_isBentWithin_X6 hown hK hP 0 rfl rfl 1 (by decide) lk1 (fun _ h9 => h9) rfl dX6_isBentWithin_4 ?_
      refine lv_icmp_ge (tgt := 38) hx hb dX6_isBentWithin_7 (by decide) (fun c1 => ?_) (fun c1 => ?_)
      · replace hw := hw.1 (c1)
        refine lv_iconst (v := (0 : Int32)) hx hb dX6_isBentWithin_38 (by decide) ?_
        have hP9 := hP.sub (ws' := [(a6, .inr (6, [.int v6_end, .int v6_bends, .ref a6_from, .ref a6_to, .ref a6_curve])), (a6_from, .inl (cI, 8, .inl f6_from)), (a6_to, .inl (cI, 8, .inl f6_to))]) [0, 1, 2] rfl
        have hD9 := hD.sub (ws' := [(a6, .inr (6, [.int v6_end, .int v6_bends, .ref a6_from, .ref a6_to, .ref a6_curve])), (a6_from, .inl (cI, 8, .inl f6_from)), (a6_to, .inl (cI, 8, .inl f6_to))]) [0, 1, 2] (by decide) rfl
        obtain ⟨h2, hw⟩ := hw
        exact W.zret (v := (0 : Int32)) hx hb hr (wg_bool h2) (fun t ht hW => ⟨⟨(0 : Int32), (), rfl, hw, by rw [ht]; exact hP9, va_K.moved hW.alike hK, hD9⟩, hS.F ht⟩) hS.2.2 dX6_isBentWithin_39
      · replace hw := hw.2 (c1)
        refine lv_iload_n hx hb dX6_isBentWithin_10 rfl (lv_at hl 1 rfl) ?_
        refine lv_aload_n hx hb dX6_isBentWithin_11 rfl (lv_at hl 0 rfl) ?_
        refine va_get (D := (dC, dI)) (ci := 6) (v := .ref a6_to) (C := RX6) (T := TX6) (N := 5) hx hb hts inX6_isBentWithin_X6 hown hK hP 0 rfl rfl 3 (by decide) lk2 (fun _ h9 => h9) rfl dX6_isBentWithin_12 ?_
        refine lv_iload_n hx hb dX6_isBentWithin_15 rfl (lv_at hl 3 rfl) ?_
        obtain ⟨h3, hw⟩ := hw
        refine va_iald hx hb hK hP 2 0 rfl rfl h3 dX6_isBentWithin_16 ?_
        refine lv_icmp_ge (tgt := 32) hx hb dX6_isBentWithin_17 (by decide) (fun c4 => ?_) (fun c4 => ?_)
        · replace hw := hw.1 (c4)
          exact k_32 y2_1 y2_2 y2_3 _ _ _ (hP.sub [0, 1, 2] rfl) (hD.sub [0, 1, 2] (by decide) rfl) hS (lv_sub hl [0, 1, 2, 3] rfl) hw
        · replace hw := hw.2 (c4)
          refine lv_aload_n hx hb dX6_isBentWithin_20 rfl (lv_at hl 0 rfl) ?_
          refine va_get (D := (dC, dI)) (ci := 6) (v := .ref a6_from) (C := RX6) (T := TX6) (N := 5) hx hb hts inX6_isBentWithin_X6 hown hK hP 0 rfl rfl 2 (by decide) lk3 (fun _ h9 => h9) rfl dX6_isBentWithin_21 ?_
          refine lv_iload_n hx hb dX6_isBentWithin_24 rfl (lv_at hl 3 rfl) ?_
          obtain ⟨h6, hw⟩ := hw
          refine va_iald hx hb hK hP 1 0 rfl rfl h6 dX6_isBentWithin_25 ?_
          refine lv_iload_n hx hb dX6_isBentWithin_26 rfl (lv_at hl 2 rfl) ?_
          refine lv_icmp_ge (tgt := 32) hx hb dX6_isBentWithin_27 (by decide) (fun c7 => ?_) (fun c7 => ?_)
          · replace hw := hw.1 (c7)
            exact k_32 y2_1 y2_2 y2_3 _ _ _ (hP.sub [0, 1, 2] rfl) (hD.sub [0, 1, 2] (by decide) rfl) hS (lv_sub hl [0, 1, 2, 3] rfl) hw
          · replace hw := hw.2 (c7)
            refine lv_iconst (v := (1 : Int32)) hx hb dX6_isBentWithin_30 (by decide) ?_
            have hP9 := hP.sub (ws' := [(a6, .inr (6, [.int v6_end, .int v6_bends, .ref a6_from, .ref a6_to, .ref a6_curve])), (a6_from, .inl (cI, 8, .inl f6_from)), (a6_to, .inl (cI, 8, .inl f6_to))]) [0, 1, 2] rfl
            have hD9 := hD.sub (ws' := [(a6, .inr (6, [.int v6_end, .int v6_bends, .ref a6_from, .ref a6_to, .ref a6_curve])), (a6_from, .inl (cI, 8, .inl f6_from)), (a6_to, .inl (cI, 8, .inl f6_to))]) [0, 1, 2] (by decide) rfl
            obtain ⟨h8, hw⟩ := hw
            exact W.zret (v := (1 : Int32)) hx hb hr (wg_bool h8) (fun t ht hW => ⟨⟨(1 : Int32), (), rfl, hw, by rw [ht]; exact hP9, va_K.moved hW.alike hK, hD9⟩, hS.F ht⟩) hS.2.2 dX6_isBentWithin_31
  have hl := lv_entry ([.ref a6, .int p1, .int p2]) (n := 4) (Nat.le_of_ble_eq_true rfl)
  rw [lg_entry_eq]
  generalize (lg_sl ([.ref a6, .int p1, .int p2]) ++ List.replicate (4 - (lg_sl ([.ref a6, .int p1, .int p2])).length) Slot.unset).toArray = ls at hl ⊢
  have hl : lv_has ls 4 [(0, .ref a6), (1, .int p1), (2, .int p2)] := hl
  obtain ⟨H, hHe⟩ : ∃ H, H = s.heap := ⟨_, rfl⟩
  rw [← hHe] at hP
  have hS : va_S A s.heap H [] := by rw [hHe]; exact hS
  rw [← hHe]
  unfold wp_X6_isBentWithin at hw
  refine lv_iconst (v := (0 : Int32)) hx hb dX6_isBentWithin_0 (by decide) ?_
  refine lv_istore_n (lv' := [(3, .int (0 : Int32)), (0, .ref a6), (1, .int p1), (2, .int p2)]) hx hb dX6_isBentWithin_1 rfl hl (by decide) rfl (fun ls hl => ?_)
  obtain ⟨n_2, hw⟩ := hw
  exact k_2 n_2 p1 p2 (0 : Int32) _ _ _ (hP.sub [0, 1, 2] rfl) (hD.sub [0, 1, 2] (by decide) rfl) hS (lv_sub hl [1, 2, 3, 0] rfl) hw

theorem inX6_insert_X6 : ∀ w ∈ wsX60, w ∈ wsX6_insert := fun _ h => List.mem_cons_of_mem _ (List.mem_append_right _ h)
def wb_X6_insert_88 (Q : (Int32) → (Nat → Int32) → (Nat → Int32) → (Nat → Int32) → Prop) (v6_bends_c88 : Int32) (f6_from_c88 : Nat → Int32) (f6_to_c88 : Nat → Int32) (f6_curve_c88 : Nat → Int32) (y88_1 : Int32) (y88_2 : Int32) (y88_3 : Int32) (y88_4 : Int32) : Prop :=
  (vp_in y88_4 8 ∧ (∀ g4 : Nat → Int32, g4 = upd f6_from_c88 y88_4.toNatClampNeg y88_1 → (vp_in y88_4 8 ∧ (∀ g6 : Nat → Int32, g6 = upd f6_to_c88 y88_4.toNatClampNeg y88_2 → (vp_in y88_4 8 ∧ (∀ g8 : Nat → Int32, g8 = upd f6_curve_c88 y88_4.toNatClampNeg y88_3 → (∀ x9 : Int32, x9 = (v6_bends_c88 + (1 : Int32)) → (Q x9 g4 g6 g8))))))))
def wb_X6_insert_16 (Q : (Int32) → (Nat → Int32) → (Nat → Int32) → (Nat → Int32) → Prop) (K16 : (Int32) → (Nat → Int32) → (Nat → Int32) → (Nat → Int32) → (Int32) → (Int32) → (Int32) → (Int32) → Prop) (v6_bends_c16 : Int32) (f6_from_c16 : Nat → Int32) (f6_to_c16 : Nat → Int32) (f6_curve_c16 : Nat → Int32) (y16_1 : Int32) (y16_2 : Int32) (y16_3 : Int32) (y16_4 : Int32) : Prop :=
  ((y16_4 ≤ 0 → (wb_X6_insert_88 Q  v6_bends_c16 f6_from_c16 f6_to_c16 f6_curve_c16 y16_1 y16_2 y16_3 y16_4)) ∧ (¬ y16_4 ≤ 0 → (vp_in (y16_4 - (1 : Int32)) 8 ∧ (((f6_from_c16 (y16_4 - (1 : Int32)).toNatClampNeg) ≤ y16_1 → (wb_X6_insert_88 Q  v6_bends_c16 f6_from_c16 f6_to_c16 f6_curve_c16 y16_1 y16_2 y16_3 y16_4)) ∧ (¬ (f6_from_c16 (y16_4 - (1 : Int32)).toNatClampNeg) ≤ y16_1 → (vp_in (y16_4 - (1 : Int32)) 8 ∧ (∀ x13 : Int32, x13 = (f6_from_c16 (y16_4 - (1 : Int32)).toNatClampNeg) → (vp_in y16_4 8 ∧ (∀ g15 : Nat → Int32, g15 = upd f6_from_c16 y16_4.toNatClampNeg x13 → (vp_in (y16_4 - (1 : Int32)) 8 ∧ (∀ x17 : Int32, x17 = (f6_to_c16 (y16_4 - (1 : Int32)).toNatClampNeg) → (vp_in y16_4 8 ∧ (∀ g19 : Nat → Int32, g19 = upd f6_to_c16 y16_4.toNatClampNeg x17 → (vp_in (y16_4 - (1 : Int32)) 8 ∧ (∀ x21 : Int32, x21 = (f6_curve_c16 (y16_4 - (1 : Int32)).toNatClampNeg) → (vp_in y16_4 8 ∧ (∀ g23 : Nat → Int32, g23 = upd f6_curve_c16 y16_4.toNatClampNeg x21 → (∀ x24 : Int32, x24 = y16_4 + (-1 : Int32) → (K16 v6_bends_c16 g15 g19 g23 y16_1 y16_2 y16_3 x24)))))))))))))))))))
def wl_X6_insert_16 (Q : (Int32) → (Nat → Int32) → (Nat → Int32) → (Nat → Int32) → Prop) : Nat → (Int32) → (Nat → Int32) → (Nat → Int32) → (Nat → Int32) → (Int32) → (Int32) → (Int32) → (Int32) → Prop
  | 0, _, _, _, _, _, _, _, _ => False
  | n + 1, v6_bends_c16, f6_from_c16, f6_to_c16, f6_curve_c16, y16_1, y16_2, y16_3, y16_4 => wb_X6_insert_16 Q  (wl_X6_insert_16 Q  n) v6_bends_c16 f6_from_c16 f6_to_c16 f6_curve_c16 y16_1 y16_2 y16_3 y16_4
def wp_X6_insert (Q : (Int32) → (Nat → Int32) → (Nat → Int32) → (Nat → Int32) → Prop) (v6_bends : Int32) (f6_from : Nat → Int32) (f6_to : Nat → Int32) (f6_curve : Nat → Int32) (p1 : Int32) (p2 : Int32) (p3 : Int32) : Prop :=
  ((v6_bends < (8 : Int32) → (∃ n : Nat, wl_X6_insert_16 Q  n v6_bends f6_from f6_to f6_curve p1 p2 p3 v6_bends)) ∧ (¬ v6_bends < (8 : Int32) → (Q v6_bends f6_from f6_to f6_curve)))
set_option maxHeartbeats 4000000 in
set_option maxRecDepth 100000 in
theorem c_X6_insert (l : Launch) (dC : Nat → ClassId) (dI : Nat → Nat → Nat) (cI cJ cZ : ClassId) (a6 : Nat) (a6_from : Nat) (a6_to : Nat) (a6_curve : Nat) (sz : Nat) (v6_end : Int32) (v6_bends : Int32) (f6_from : Nat → Int32) (f6_to : Nat → Int32) (f6_curve : Nat → Int32) (p1 : Int32) (p2 : Int32) (p3 : Int32) (Q : (Int32) → (Nat → Int32) → (Nat → Int32) → (Nat → Int32) → Prop) (hw : wp_X6_insert Q v6_bends f6_from f6_to f6_curve p1 p2 p3) : Met l yX6_insert wsX6_insert ({ frames := 0, cells := 0, slots := 0, locals := 0 } : Room) (va_Pc [.ref a6, .int p1, .int p2, .int p3] (fun U => U.heap.size = sz ∧ va_P (dC, dI) vwCl [(a6, .inr (6, [.int v6_end, .int v6_bends, .ref a6_from, .ref a6_to, .ref a6_curve])), (a6_from, .inl (cI, 8, .inl f6_from)), (a6_to, .inl (cI, 8, .inl f6_to)), (a6_curve, .inl (cI, 8, .inl f6_curve))] U.heap ∧ va_K (dC, dI) vwCl [(cI, .int), (cJ, .long), (cZ, .boolean)] U ∧ va_D (fun _ => True) [(a6, .inr (6, [.int v6_end, .int v6_bends, .ref a6_from, .ref a6_to, .ref a6_curve])), (a6_from, .inl (cI, 8, .inl f6_from)), (a6_to, .inl (cI, 8, .inl f6_to)), (a6_curve, .inl (cI, 8, .inl f6_curve))])) (va_Qv (fun (u : (Int32) × (Nat → Int32) × (Nat → Int32) × (Nat → Int32)) => Q u.1 u.2.1 u.2.2.1 u.2.2.2) (fun (u : (Int32) × (Nat → Int32) × (Nat → Int32) × (Nat → Int32)) t => va_P (dC, dI) vwCl [(a6, .inr (6, [.int v6_end, .int u.1, .ref a6_from, .ref a6_to, .ref a6_curve])), (a6_from, .inl (cI, 8, .inl u.2.1)), (a6_to, .inl (cI, 8, .inl u.2.2.1)), (a6_curve, .inl (cI, 8, .inl u.2.2.2))] t.heap ∧ va_K (dC, dI) vwCl [(cI, .int), (cJ, .long), (cZ, .boolean)] t ∧ va_D (va_A [(a6, .inr (6, [.int v6_end, .int v6_bends, .ref a6_from, .ref a6_to, .ref a6_curve])), (a6_from, .inl (cI, 8, .inl f6_from)), (a6_to, .inl (cI, 8, .inl f6_to)), (a6_curve, .inl (cI, 8, .inl f6_curve))] sz) [(a6, .inr (6, [.int v6_end, .int u.1, .ref a6_from, .ref a6_to, .ref a6_curve])), (a6_from, .inl (cI, 8, .inl u.2.1)), (a6_to, .inl (cI, 8, .inl u.2.2.1)), (a6_curve, .inl (cI, 8, .inl u.2.2.2))]) (va_A [(a6, .inr (6, [.int v6_end, .int v6_bends, .ref a6_from, .ref a6_to, .ref a6_curve])), (a6_from, .inl (cI, 8, .inl f6_from)), (a6_to, .inl (cI, 8, .inl f6_to)), (a6_curve, .inl (cI, 8, .inl f6_curve))] sz)) 0 0 (va_A [(a6, .inr (6, [.int v6_end, .int v6_bends, .ref a6_from, .ref a6_to, .ref a6_curve])), (a6_from, .inl (cI, 8, .inl f6_from)), (a6_to, .inl (cI, 8, .inl f6_to)), (a6_curve, .inl (cI, 8, .inl f6_curve))] sz) := by
  refine Met.ofW (cc := cX6_insert) (maxL := 5) (ret := none) (by decide) rfl ?_
  intro p e s m args below meth c s₁ B hml hv
  obtain ⟨rfl, hsz, hP, hK, hD0⟩ := hv
  have hx := B.exec
  have hb := B.bytes
  have hr := B.returns
  have hts := atoms_spec (ws := wsX6_insert) B.pre
  have hown : s.vm.findClass RX6 = some m.cls := findClass_of_methodNamed B.named
  have hlocks := B.notSynchronized
  subst hsz
  have hD := hD0.self (sz := s.heap.size)
  generalize hAe : va_A [(a6, .inr (6, [.int v6_end, .int v6_bends, .ref a6_from, .ref a6_to, .ref a6_curve])), (a6_from, .inl (cI, 8, .inl f6_from)), (a6_to, .inl (cI, 8, .inl f6_to)), (a6_curve, .inl (cI, 8, .inl f6_curve))] s.heap.size = A at hD ⊢
  have hA : ∀ q : Nat, s.heap.size ≤ q → A q := fun q h => by rw [← hAe]; exact Or.inr h
  have hS : va_S A s.heap s.heap [] := va_S.rf
  have hP : va_P (dC, dI) vwCl [(a6, .inr (6, [.int v6_end, .int v6_bends, .ref a6_from, .ref a6_to, .ref a6_curve])), (a6_from, .inl (cI, 8, .inl f6_from)), (a6_to, .inl (cI, 8, .inl f6_to)), (a6_curve, .inl (cI, 8, .inl f6_curve))] s.heap := hP
  have lk1 := hts (.fieldLink RX6 25 "WireRow$Track" "bends" "I") (by decide +kernel)
  have lk2 := hts (.fieldLink RX6 15 "WireRow$Track" "from" "[I") (by decide +kernel)
  have lk3 := hts (.fieldLink RX6 19 "WireRow$Track" "to" "[I") (by decide +kernel)
  have lk4 := hts (.fieldLink RX6 22 "WireRow$Track" "curve" "[I") (by decide +kernel)
  have k_88 : ∀  (v6_bends_c88 : Int32) (f6_from_c88 : Nat → Int32) (f6_to_c88 : Nat → Int32) (f6_curve_c88 : Nat → Int32) (y88_1 : Int32) (y88_2 : Int32) (y88_3 : Int32) (y88_4 : Int32) (H : Heap) (locs : List Loc) (ls : Array Slot), va_P (dC, dI) vwCl [(a6, .inr (6, [.int v6_end, .int v6_bends_c88, .ref a6_from, .ref a6_to, .ref a6_curve])), (a6_from, .inl (cI, 8, .inl f6_from_c88)), (a6_to, .inl (cI, 8, .inl f6_to_c88)), (a6_curve, .inl (cI, 8, .inl f6_curve_c88))] H → va_D A [(a6, .inr (6, [.int v6_end, .int v6_bends_c88, .ref a6_from, .ref a6_to, .ref a6_curve])), (a6_from, .inl (cI, 8, .inl f6_from_c88)), (a6_to, .inl (cI, 8, .inl f6_to_c88)), (a6_curve, .inl (cI, 8, .inl f6_curve_c88))] → va_S A s.heap H locs → lv_has ls 5 [(0, .ref a6), (1, .int y88_1), (2, .int y88_2), (3, .int y88_3), (4, .int y88_4)] → (wb_X6_insert_88 Q  v6_bends_c88 f6_from_c88 f6_to_c88 f6_curve_c88 y88_1 y88_2 y88_3 y88_4) → W p l e (headSpec wsX6_insert ({ frames := 0, cells := 0, slots := 0, locals := 0 } : Room)).room s m [.ref a6, .int p1, .int p2, .int p3].toArray below meth c H locs 0 0 (MQ below (va_Qv (fun (u : (Int32) × (Nat → Int32) × (Nat → Int32) × (Nat → Int32)) => Q u.1 u.2.1 u.2.2.1 u.2.2.2) (fun (u : (Int32) × (Nat → Int32) × (Nat → Int32) × (Nat → Int32)) t => va_P (dC, dI) vwCl [(a6, .inr (6, [.int v6_end, .int u.1, .ref a6_from, .ref a6_to, .ref a6_curve])), (a6_from, .inl (cI, 8, .inl u.2.1)), (a6_to, .inl (cI, 8, .inl u.2.2.1)), (a6_curve, .inl (cI, 8, .inl u.2.2.2))] t.heap ∧ va_K (dC, dI) vwCl [(cI, .int), (cJ, .long), (cZ, .boolean)] t ∧ va_D A [(a6, .inr (6, [.int v6_end, .int u.1, .ref a6_from, .ref a6_to, .ref a6_curve])), (a6_from, .inl (cI, 8, .inl u.2.1)), (a6_to, .inl (cI, 8, .inl u.2.2.1)), (a6_curve, .inl (cI, 8, .inl u.2.2.2))]) A) [.ref a6, .int p1, .int p2, .int p3].toArray s 0 0 A) (F0 m 88 ls []) := by
    intro v6_bends_c88 f6_from_c88 f6_to_c88 f6_curve_c88 y88_1 y88_2 y88_3 y88_4 H locs ls hP hD hS hl hw
    unfold wb_X6_insert_88 at hw
    refine lv_aload_n hx hb dX6_insert_88 rfl (lv_at hl 0 rfl) ?_
    refine va_get (D := (dC, dI)) (ci := 6) (v := .ref a6_from) (C := RX6) (T := TX6) (N := 5) hx hb hts inX6_insert_X6 hown hK hP 0 rfl rfl 2 (by decide) lk2 (fun _ h9 => h9) rfl dX6_insert_89 ?_
    refine lv_iload hx hb dX6_insert_92 (lv_at hl 4 rfl) ?_
    refine lv_iload_n hx hb dX6_insert_94 rfl (lv_at hl 1 rfl) ?_
    obtain ⟨h3, hw⟩ := hw
    refine va_iast hx hb hK hP hD hS 1 0 rfl rfl h3 dX6_insert_95 (fun H locs hP hD hS => ?_)
    obtain ⟨g4, eg4⟩ : ∃ y : Nat → Int32, y = upd f6_from_c88 y88_4.toNatClampNeg y88_1 := ⟨_, rfl⟩
    replace hw := hw g4 eg4
    have hP : va_P (dC, dI) vwCl [(a6, .inr (6, [.int v6_end, .int v6_bends_c88, .ref a6_from, .ref a6_to, .ref a6_curve])), (a6_from, .inl (cI, 8, .inl g4)), (a6_to, .inl (cI, 8, .inl f6_to_c88)), (a6_curve, .inl (cI, 8, .inl f6_curve_c88))] H := by rw [eg4]; exact hP
    have hD : va_D A [(a6, .inr (6, [.int v6_end, .int v6_bends_c88, .ref a6_from, .ref a6_to, .ref a6_curve])), (a6_from, .inl (cI, 8, .inl g4)), (a6_to, .inl (cI, 8, .inl f6_to_c88)), (a6_curve, .inl (cI, 8, .inl f6_curve_c88))] := by rw [eg4]; exact hD
    refine lv_aload_n hx hb dX6_insert_96 rfl (lv_at hl 0 rfl) ?_
    refine va_get (D := (dC, dI)) (ci := 6) (v := .ref a6_to) (C := RX6) (T := TX6) (N := 5) hx hb hts inX6_insert_X6 hown hK hP 0 rfl rfl 3 (by decide) lk3 (fun _ h9 => h9) rfl dX6_insert_97 ?_
    refine lv_iload hx hb dX6_insert_100 (lv_at hl 4 rfl) ?_
    refine lv_iload_n hx hb dX6_insert_102 rfl (lv_at hl 2 rfl) ?_
    obtain ⟨h5, hw⟩ := hw
    refine va_iast hx hb hK hP hD hS 2 0 rfl rfl h5 dX6_insert_103 (fun H locs hP hD hS => ?_)
    obtain ⟨g6, eg6⟩ : ∃ y : Nat → Int32, y = upd f6_to_c88 y88_4.toNatClampNeg y88_2 := ⟨_, rfl⟩
    replace hw := hw g6 eg6
    have hP : va_P (dC, dI) vwCl [(a6, .inr (6, [.int v6_end, .int v6_bends_c88, .ref a6_from, .ref a6_to, .ref a6_curve])), (a6_from, .inl (cI, 8, .inl g4)), (a6_to, .inl (cI, 8, .inl g6)), (a6_curve, .inl (cI, 8, .inl f6_curve_c88))] H := by rw [eg6]; exact hP
    have hD : va_D A [(a6, .inr (6, [.int v6_end, .int v6_bends_c88, .ref a6_from, .ref a6_to, .ref a6_curve])), (a6_from, .inl (cI, 8, .inl g4)), (a6_to, .inl (cI, 8, .inl g6)), (a6_curve, .inl (cI, 8, .inl f6_curve_c88))] := by rw [eg6]; exact hD
    refine lv_aload_n hx hb dX6_insert_104 rfl (lv_at hl 0 rfl) ?_
    refine va_get (D := (dC, dI)) (ci := 6) (v := .ref a6_curve) (C := RX6) (T := TX6) (N := 5) hx hb hts inX6_insert_X6 hown hK hP 0 rfl rfl 4 (by decide) lk4 (fun _ h9 => h9) rfl dX6_insert_105 ?_
    refine lv_iload hx hb dX6_insert_108 (lv_at hl 4 rfl) ?_
    refine lv_iload_n hx hb dX6_insert_110 rfl (lv_at hl 3 rfl) ?_
    obtain ⟨h7, hw⟩ := hw
    refine va_iast hx hb hK hP hD hS 3 0 rfl rfl h7 dX6_insert_111 (fun H locs hP hD hS => ?_)
    obtain ⟨g8, eg8⟩ : ∃ y : Nat → Int32, y = upd f6_curve_c88 y88_4.toNatClampNeg y88_3 := ⟨_, rfl⟩
    replace hw := hw g8 eg8
    have hP : va_P (dC, dI) vwCl [(a6, .inr (6, [.int v6_end, .int v6_bends_c88, .ref a6_from, .ref a6_to, .ref a6_curve])), (a6_from, .inl (cI, 8, .inl g4)), (a6_to, .inl (cI, 8, .inl g6)), (a6_curve, .inl (cI, 8, .inl g8))] H := by rw [eg8]; exact hP
    have hD : va_D A [(a6, .inr (6, [.int v6_end, .int v6_bends_c88, .ref a6_from, .ref a6_to, .ref a6_curve])), (a6_from, .inl (cI, 8, .inl g4)), (a6_to, .inl (cI, 8, .inl g6)), (a6_curve, .inl (cI, 8, .inl g8))] := by rw [eg8]; exact hD
    refine lv_aload_n hx hb dX6_insert_112 rfl (lv_at hl 0 rfl) ?_
    refine lv_dup hx hb dX6_insert_113 rfl ?_
    refine va_get (D := (dC, dI)) (ci := 6) (v := .int v6_bends_c88) (C := RX6) (T := TX6) (N := 5) hx hb hts inX6_insert_X6 hown hK hP 0 rfl rfl 1 (by decide) lk1 (fun _ h9 => h9) rfl dX6_insert_114 ?_
    refine lv_iconst (v := (1 : Int32)) hx hb dX6_insert_117 (by decide) ?_
    refine lv_iadd hx hb dX6_insert_118 ?_
    refine lv_topi (fun x9 ex9 => ?_)
    replace hw := hw x9 ex9
    refine va_put (D := (dC, dI)) (ci := 6) (v := .int x9) (ty := .int) (C := RX6) (T := TX6) (N := 5) hx hb hts inX6_insert_X6 tyX6 tyX6_ok nmX6 hown hK hP hD hS 0 rfl rfl 1 (by decide) lk1 (fun _ h9 => h9) rfl (by decide +kernel) rfl rfl (Nat.le_of_ble_eq_true rfl) dX6_insert_119 (fun H locs hP hD hS => ?_)
    have hP : va_P (dC, dI) vwCl [(a6, .inr (6, [.int v6_end, .int x9, .ref a6_from, .ref a6_to, .ref a6_curve])), (a6_from, .inl (cI, 8, .inl g4)), (a6_to, .inl (cI, 8, .inl g6)), (a6_curve, .inl (cI, 8, .inl g8))] H := hP
    have hD : va_D A [(a6, .inr (6, [.int v6_end, .int x9, .ref a6_from, .ref a6_to, .ref a6_curve])), (a6_from, .inl (cI, 8, .inl g4)), (a6_to, .inl (cI, 8, .inl g6)), (a6_curve, .inl (cI, 8, .inl g8))] := hD
    have hP9 := hP.sub (ws' := [(a6, .inr (6, [.int v6_end, .int x9, .ref a6_from, .ref a6_to, .ref a6_curve])), (a6_from, .inl (cI, 8, .inl g4)), (a6_to, .inl (cI, 8, .inl g6)), (a6_curve, .inl (cI, 8, .inl g8))]) [0, 1, 2, 3] rfl
    have hD9 := hD.sub (ws' := [(a6, .inr (6, [.int v6_end, .int x9, .ref a6_from, .ref a6_to, .ref a6_curve])), (a6_from, .inl (cI, 8, .inl g4)), (a6_to, .inl (cI, 8, .inl g6)), (a6_curve, .inl (cI, 8, .inl g8))]) [0, 1, 2, 3] (by decide) rfl
    exact W.vret hx hb hr (fun t ht hW => ⟨⟨(x9, g4, g6, g8), rfl, hw, by rw [ht]; exact hP9, va_K.moved hW.alike hK, hD9⟩, hS.F ht⟩) hS.2.2 dX6_insert_122
  have k_16 : ∀ (n_16 : Nat) (v6_bends_c16 : Int32) (f6_from_c16 : Nat → Int32) (f6_to_c16 : Nat → Int32) (f6_curve_c16 : Nat → Int32) (y16_1 : Int32) (y16_2 : Int32) (y16_3 : Int32) (y16_4 : Int32) (H : Heap) (locs : List Loc) (ls : Array Slot), va_P (dC, dI) vwCl [(a6, .inr (6, [.int v6_end, .int v6_bends_c16, .ref a6_from, .ref a6_to, .ref a6_curve])), (a6_from, .inl (cI, 8, .inl f6_from_c16)), (a6_to, .inl (cI, 8, .inl f6_to_c16)), (a6_curve, .inl (cI, 8, .inl f6_curve_c16))] H → va_D A [(a6, .inr (6, [.int v6_end, .int v6_bends_c16, .ref a6_from, .ref a6_to, .ref a6_curve])), (a6_from, .inl (cI, 8, .inl f6_from_c16)), (a6_to, .inl (cI, 8, .inl f6_to_c16)), (a6_curve, .inl (cI, 8, .inl f6_curve_c16))] → va_S A s.heap H locs → lv_has ls 5 [(0, .ref a6), (1, .int y16_1), (2, .int y16_2), (3, .int y16_3), (4, .int y16_4)] → (wl_X6_insert_16 Q  n_16 v6_bends_c16 f6_from_c16 f6_to_c16 f6_curve_c16 y16_1 y16_2 y16_3 y16_4) → W p l e (headSpec wsX6_insert ({ frames := 0, cells := 0, slots := 0, locals := 0 } : Room)).room s m [.ref a6, .int p1, .int p2, .int p3].toArray below meth c H locs 0 0 (MQ below (va_Qv (fun (u : (Int32) × (Nat → Int32) × (Nat → Int32) × (Nat → Int32)) => Q u.1 u.2.1 u.2.2.1 u.2.2.2) (fun (u : (Int32) × (Nat → Int32) × (Nat → Int32) × (Nat → Int32)) t => va_P (dC, dI) vwCl [(a6, .inr (6, [.int v6_end, .int u.1, .ref a6_from, .ref a6_to, .ref a6_curve])), (a6_from, .inl (cI, 8, .inl u.2.1)), (a6_to, .inl (cI, 8, .inl u.2.2.1)), (a6_curve, .inl (cI, 8, .inl u.2.2.2))] t.heap ∧ va_K (dC, dI) vwCl [(cI, .int), (cJ, .long), (cZ, .boolean)] t ∧ va_D A [(a6, .inr (6, [.int v6_end, .int u.1, .ref a6_from, .ref a6_to, .ref a6_curve])), (a6_from, .inl (cI, 8, .inl u.2.1)), (a6_to, .inl (cI, 8, .inl u.2.2.1)), (a6_curve, .inl (cI, 8, .inl u.2.2.2))]) A) [.ref a6, .int p1, .int p2, .int p3].toArray s 0 0 A) (F0 m 16 ls []) := by
    intro n_16
    induction n_16 with
    | zero =>
      intro v6_bends_c16 f6_from_c16 f6_to_c16 f6_curve_c16 y16_1 y16_2 y16_3 y16_4 H locs ls hP hD hS hl hw
      exact False.elim hw
    | succ n_16 ih_16 =>
      intro v6_bends_c16 f6_from_c16 f6_to_c16 f6_curve_c16 y16_1 y16_2 y16_3 y16_4 H locs ls hP hD hS hl hw
      replace hw : wb_X6_insert_16 Q  (wl_X6_insert_16 Q  n_16) v6_bends_c16 f6_from_c16 f6_to_c16 f6_curve_c16 y16_1 y16_2 y16_3 y16_4 := hw
      unfold wb_X6_insert_16 at hw
      refine lv_iload hx hb dX6_insert_16 (lv_at hl 4 rfl) ?_
      refine lv_if_le (tgt := 88) hx hb dX6_insert_18 (by decide) (fun c2 => ?_) (fun c2 => ?_)
      · replace hw := hw.1 (c2)
        exact k_88 v6_bends_c16 f6_from_c16 f6_to_c16 f6_curve_c16 y16_1 y16_2 y16_3 y16_4 _ _ _ (hP.sub [0, 1, 2, 3] rfl) (hD.sub [0, 1, 2, 3] (by decide) rfl) hS (lv_sub hl [0, 1, 2, 3, 4] rfl) hw
      · replace hw := hw.2 (c2)
        refine lv_aload_n hx hb dX6_insert_21 rfl (lv_at hl 0 rfl) ?_
        refine va_get (D := (dC, dI)) (ci := 6) (v := .ref a6_from) (C := RX6) (T := TX6) (N := 5) hx hb hts inX6_insert_X6 hown hK hP 0 rfl rfl 2 (by decide) lk2 (fun _ h9 => h9) rfl dX6_insert_22 ?_
        refine lv_iload hx hb dX6_insert_25 (lv_at hl 4 rfl) ?_
        refine lv_iconst (v := (1 : Int32)) hx hb dX6_insert_27 (by decide) ?_
        refine lv_isub hx hb dX6_insert_28 ?_
        obtain ⟨h10, hw⟩ := hw
        refine va_iald hx hb hK hP 1 0 rfl rfl h10 dX6_insert_29 ?_
        refine lv_iload_n hx hb dX6_insert_30 rfl (lv_at hl 1 rfl) ?_
        refine lv_icmp_le (tgt := 88) hx hb dX6_insert_31 (by decide) (fun c11 => ?_) (fun c11 => ?_)
        · replace hw := hw.1 (c11)
          exact k_88 v6_bends_c16 f6_from_c16 f6_to_c16 f6_curve_c16 y16_1 y16_2 y16_3 y16_4 _ _ _ (hP.sub [0, 1, 2, 3] rfl) (hD.sub [0, 1, 2, 3] (by decide) rfl) hS (lv_sub hl [0, 1, 2, 3, 4] rfl) hw
        · replace hw := hw.2 (c11)
          refine lv_aload_n hx hb dX6_insert_34 rfl (lv_at hl 0 rfl) ?_
          refine va_get (D := (dC, dI)) (ci := 6) (v := .ref a6_from) (C := RX6) (T := TX6) (N := 5) hx hb hts inX6_insert_X6 hown hK hP 0 rfl rfl 2 (by decide) lk2 (fun _ h9 => h9) rfl dX6_insert_35 ?_
          refine lv_iload hx hb dX6_insert_38 (lv_at hl 4 rfl) ?_
          refine lv_aload_n hx hb dX6_insert_40 rfl (lv_at hl 0 rfl) ?_
          refine va_get (D := (dC, dI)) (ci := 6) (v := .ref a6_from) (C := RX6) (T := TX6) (N := 5) hx hb hts inX6_insert_X6 hown hK hP 0 rfl rfl 2 (by decide) lk2 (fun _ h9 => h9) rfl dX6_insert_41 ?_
          refine lv_iload hx hb dX6_insert_44 (lv_at hl 4 rfl) ?_
          refine lv_iconst (v := (1 : Int32)) hx hb dX6_insert_46 (by decide) ?_
          refine lv_isub hx hb dX6_insert_47 ?_
          obtain ⟨h12, hw⟩ := hw
          refine va_iald hx hb hK hP 1 0 rfl rfl h12 dX6_insert_48 ?_
          refine lv_topi (fun x13 ex13 => ?_)
          replace hw := hw x13 ex13
          obtain ⟨h14, hw⟩ := hw
          refine va_iast hx hb hK hP hD hS 1 0 rfl rfl h14 dX6_insert_49 (fun H locs hP hD hS => ?_)
          obtain ⟨g15, eg15⟩ : ∃ y : Nat → Int32, y = upd f6_from_c16 y16_4.toNatClampNeg x13 := ⟨_, rfl⟩
          replace hw := hw g15 eg15
          have hP : va_P (dC, dI) vwCl [(a6, .inr (6, [.int v6_end, .int v6_bends_c16, .ref a6_from, .ref a6_to, .ref a6_curve])), (a6_from, .inl (cI, 8, .inl g15)), (a6_to, .inl (cI, 8, .inl f6_to_c16)), (a6_curve, .inl (cI, 8, .inl f6_curve_c16))] H := by rw [eg15]; exact hP
          have hD : va_D A [(a6, .inr (6, [.int v6_end, .int v6_bends_c16, .ref a6_from, .ref a6_to, .ref a6_curve])), (a6_from, .inl (cI, 8, .inl g15)), (a6_to, .inl (cI, 8, .inl f6_to_c16)), (a6_curve, .inl (cI, 8, .inl f6_curve_c16))] := by rw [eg15]; exact hD
          refine lv_aload_n hx hb dX6_insert_50 rfl (lv_at hl 0 rfl) ?_
          refine va_get (D := (dC, dI)) (ci := 6) (v := .ref a6_to) (C := RX6) (T := TX6) (N := 5) hx hb hts inX6_insert_X6 hown hK hP 0 rfl rfl 3 (by decide) lk3 (fun _ h9 => h9) rfl dX6_insert_51 ?_
          refine lv_iload hx hb dX6_insert_54 (lv_at hl 4 rfl) ?_
          refine lv_aload_n hx hb dX6_insert_56 rfl (lv_at hl 0 rfl) ?_
          refine va_get (D := (dC, dI)) (ci := 6) (v := .ref a6_to) (C := RX6) (T := TX6) (N := 5) hx hb hts inX6_insert_X6 hown hK hP 0 rfl rfl 3 (by decide) lk3 (fun _ h9 => h9) rfl dX6_insert_57 ?_
          refine lv_iload hx hb dX6_insert_60 (lv_at hl 4 rfl) ?_
          refine lv_iconst (v := (1 : Int32)) hx hb dX6_insert_62 (by decide) ?_
          refine lv_isub hx hb dX6_insert_63 ?_
          obtain ⟨h16, hw⟩ := hw
          refine va_iald hx hb hK hP 2 0 rfl rfl h16 dX6_insert_64 ?_
          refine lv_topi (fun x17 ex17 => ?_)
          replace hw := hw x17 ex17
          obtain ⟨h18, hw⟩ := hw
          refine va_iast hx hb hK hP hD hS 2 0 rfl rfl h18 dX6_insert_65 (fun H locs hP hD hS => ?_)
          obtain ⟨g19, eg19⟩ : ∃ y : Nat → Int32, y = upd f6_to_c16 y16_4.toNatClampNeg x17 := ⟨_, rfl⟩
          replace hw := hw g19 eg19
          have hP : va_P (dC, dI) vwCl [(a6, .inr (6, [.int v6_end, .int v6_bends_c16, .ref a6_from, .ref a6_to, .ref a6_curve])), (a6_from, .inl (cI, 8, .inl g15)), (a6_to, .inl (cI, 8, .inl g19)), (a6_curve, .inl (cI, 8, .inl f6_curve_c16))] H := by rw [eg19]; exact hP
          have hD : va_D A [(a6, .inr (6, [.int v6_end, .int v6_bends_c16, .ref a6_from, .ref a6_to, .ref a6_curve])), (a6_from, .inl (cI, 8, .inl g15)), (a6_to, .inl (cI, 8, .inl g19)), (a6_curve, .inl (cI, 8, .inl f6_curve_c16))] := by rw [eg19]; exact hD
          refine lv_aload_n hx hb dX6_insert_66 rfl (lv_at hl 0 rfl) ?_
          refine va_get (D := (dC, dI)) (ci := 6) (v := .ref a6_curve) (C := RX6) (T := TX6) (N := 5) hx hb hts inX6_insert_X6 hown hK hP 0 rfl rfl 4 (by decide) lk4 (fun _ h9 => h9) rfl dX6_insert_67 ?_
          refine lv_iload hx hb dX6_insert_70 (lv_at hl 4 rfl) ?_
          refine lv_aload_n hx hb dX6_insert_72 rfl (lv_at hl 0 rfl) ?_
          refine va_get (D := (dC, dI)) (ci := 6) (v := .ref a6_curve) (C := RX6) (T := TX6) (N := 5) hx hb hts inX6_insert_X6 hown hK hP 0 rfl rfl 4 (by decide) lk4 (fun _ h9 => h9) rfl dX6_insert_73 ?_
          refine lv_iload hx hb dX6_insert_76 (lv_at hl 4 rfl) ?_
          refine lv_iconst (v := (1 : Int32)) hx hb dX6_insert_78 (by decide) ?_
          refine lv_isub hx hb dX6_insert_79 ?_
          obtain ⟨h20, hw⟩ := hw
          refine va_iald hx hb hK hP 3 0 rfl rfl h20 dX6_insert_80 ?_
          refine lv_topi (fun x21 ex21 => ?_)
          replace hw := hw x21 ex21
          obtain ⟨h22, hw⟩ := hw
          refine va_iast hx hb hK hP hD hS 3 0 rfl rfl h22 dX6_insert_81 (fun H locs hP hD hS => ?_)
          obtain ⟨g23, eg23⟩ : ∃ y : Nat → Int32, y = upd f6_curve_c16 y16_4.toNatClampNeg x21 := ⟨_, rfl⟩
          replace hw := hw g23 eg23
          have hP : va_P (dC, dI) vwCl [(a6, .inr (6, [.int v6_end, .int v6_bends_c16, .ref a6_from, .ref a6_to, .ref a6_curve])), (a6_from, .inl (cI, 8, .inl g15)), (a6_to, .inl (cI, 8, .inl g19)), (a6_curve, .inl (cI, 8, .inl g23))] H := by rw [eg23]; exact hP
          have hD : va_D A [(a6, .inr (6, [.int v6_end, .int v6_bends_c16, .ref a6_from, .ref a6_to, .ref a6_curve])), (a6_from, .inl (cI, 8, .inl g15)), (a6_to, .inl (cI, 8, .inl g19)), (a6_curve, .inl (cI, 8, .inl g23))] := by rw [eg23]; exact hD
          obtain ⟨x24, ex24⟩ : ∃ y : Int32, y = y16_4 + (-1 : Int32) := ⟨_, rfl⟩
          replace hw := hw x24 ex24
          refine lv_iinc (v := x24) (lv' := [(4, .int x24), (0, .ref a6), (1, .int y16_1), (2, .int y16_2), (3, .int y16_3)]) hx hb dX6_insert_82 hl (k := 4) rfl (by rw [ex24]; rfl) (by decide) rfl (fun ls hl => ?_)
          refine lv_goto (tgt := 16) hx hb dX6_insert_85 (by decide) ?_
          exact ih_16 v6_bends_c16 g15 g19 g23 y16_1 y16_2 y16_3 x24 _ _ _ (hP.sub [0, 1, 2, 3] rfl) (hD.sub [0, 1, 2, 3] (by decide) rfl) hS (lv_sub hl [1, 2, 3, 4, 0] rfl) hw
  have hl := lv_entry ([.ref a6, .int p1, .int p2, .int p3]) (n := 5) (Nat.le_of_ble_eq_true rfl)
  rw [lg_entry_eq]
  generalize (lg_sl ([.ref a6, .int p1, .int p2, .int p3]) ++ List.replicate (5 - (lg_sl ([.ref a6, .int p1, .int p2, .int p3])).length) Slot.unset).toArray = ls at hl ⊢
  have hl : lv_has ls 5 [(0, .ref a6), (1, .int p1), (2, .int p2), (3, .int p3)] := hl
  obtain ⟨H, hHe⟩ : ∃ H, H = s.heap := ⟨_, rfl⟩
  rw [← hHe] at hP
  have hS : va_S A s.heap H [] := by rw [hHe]; exact hS
  rw [← hHe]
  unfold wp_X6_insert at hw
  refine lv_aload_n hx hb dX6_insert_0 rfl (lv_at hl 0 rfl) ?_
  refine va_get (D := (dC, dI)) (ci := 6) (v := .int v6_bends) (C := RX6) (T := TX6) (N := 5) hx hb hts inX6_insert_X6 hown hK hP 0 rfl rfl 1 (by decide) lk1 (fun _ h9 => h9) rfl dX6_insert_1 ?_
  refine lv_bipush (v := (8 : Int32)) hx hb dX6_insert_4 (by decide) ?_
  refine lv_icmp_lt (tgt := 10) hx hb dX6_insert_6 (by decide) (fun c1 => ?_) (fun c1 => ?_)
  · replace hw := hw.1 (c1)
    refine lv_aload_n hx hb dX6_insert_10 rfl (lv_at hl 0 rfl) ?_
    refine va_get (D := (dC, dI)) (ci := 6) (v := .int v6_bends) (C := RX6) (T := TX6) (N := 5) hx hb hts inX6_insert_X6 hown hK hP 0 rfl rfl 1 (by decide) lk1 (fun _ h9 => h9) rfl dX6_insert_11 ?_
    refine lv_istore (lv' := [(4, .int v6_bends), (0, .ref a6), (1, .int p1), (2, .int p2), (3, .int p3)]) hx hb dX6_insert_14 hl (by decide) rfl (fun ls hl => ?_)
    obtain ⟨n_16, hw⟩ := hw
    exact k_16 n_16 v6_bends f6_from f6_to f6_curve p1 p2 p3 v6_bends _ _ _ (hP.sub [0, 1, 2, 3] rfl) (hD.sub [0, 1, 2, 3] (by decide) rfl) hS (lv_sub hl [1, 2, 3, 4, 0] rfl) hw
  · replace hw := hw.2 (c1)
    have hP9 := hP.sub (ws' := [(a6, .inr (6, [.int v6_end, .int v6_bends, .ref a6_from, .ref a6_to, .ref a6_curve])), (a6_from, .inl (cI, 8, .inl f6_from)), (a6_to, .inl (cI, 8, .inl f6_to)), (a6_curve, .inl (cI, 8, .inl f6_curve))]) [0, 1, 2, 3] rfl
    have hD9 := hD.sub (ws' := [(a6, .inr (6, [.int v6_end, .int v6_bends, .ref a6_from, .ref a6_to, .ref a6_curve])), (a6_from, .inl (cI, 8, .inl f6_from)), (a6_to, .inl (cI, 8, .inl f6_to)), (a6_curve, .inl (cI, 8, .inl f6_curve))]) [0, 1, 2, 3] (by decide) rfl
    exact W.vret hx hb hr (fun t ht hW => ⟨⟨(v6_bends, f6_from, f6_to, f6_curve), rfl, hw, by rw [ht]; exact hP9, va_K.moved hW.alike hK, hD9⟩, hS.F ht⟩) hS.2.2 dX6_insert_9

def wp_X7_within (Q : Int32 → Prop) (p1 : Int32) (p2 : Int32) (p3 : Int32) : Prop :=
  ((p1 < p2 → (((0 : Int32) = 0 ∨ (0 : Int32) = 1) ∧ Q (0 : Int32) )) ∧ (¬ p1 < p2 → ((p3 < p1 → (((0 : Int32) = 0 ∨ (0 : Int32) = 1) ∧ Q (0 : Int32) )) ∧ (¬ p3 < p1 → (((1 : Int32) = 0 ∨ (1 : Int32) = 1) ∧ Q (1 : Int32) )))))
set_option maxHeartbeats 4000000 in
set_option maxRecDepth 100000 in
theorem c_X7_within (l : Launch) (dC : Nat → ClassId) (dI : Nat → Nat → Nat) (cI cJ cZ : ClassId) (sz : Nat) (p1 : Int32) (p2 : Int32) (p3 : Int32) (Q : Int32 → Prop) (hw : wp_X7_within Q  p1 p2 p3) : Met l yX7_within wsX7_within ({ frames := 0, cells := 0, slots := 0, locals := 0 } : Room) (va_Pc [.int p1, .int p2, .int p3] (fun U => U.heap.size = sz ∧ va_P (dC, dI) vwCl [] U.heap ∧ va_K (dC, dI) vwCl [(cI, .int), (cJ, .long), (cZ, .boolean)] U ∧ va_D (fun _ => True) [])) (va_Qi (fun r (u : Unit) => Q r) (fun (u : Unit) t => va_P (dC, dI) vwCl [] t.heap ∧ va_K (dC, dI) vwCl [(cI, .int), (cJ, .long), (cZ, .boolean)] t ∧ va_D (va_A [] sz) []) (va_A [] sz)) 0 0 (va_A [] sz) := by
  refine Met.ofW (cc := cX7_within) (maxL := 3) (ret := (some .boolean)) (by decide) rfl ?_
  intro p e s m args below meth c s₁ B hml hv
  obtain ⟨rfl, hsz, hP, hK, hD0⟩ := hv
  have hx := B.exec
  have hb := B.bytes
  have hr := B.returns
  have hts := atoms_spec (ws := wsX7_within) B.pre
  have hown : s.vm.findClass RX7 = some m.cls := findClass_of_methodNamed B.named
  have hlocks := B.notSynchronized
  subst hsz
  have hD := hD0.self (sz := s.heap.size)
  generalize hAe : va_A [] s.heap.size = A at hD ⊢
  have hA : ∀ q : Nat, s.heap.size ≤ q → A q := fun q h => by rw [← hAe]; exact Or.inr h
  have hS : va_S A s.heap s.heap [] := va_S.rf
  have hP : va_P (dC, dI) vwCl [] s.heap := hP
  have hl := lv_entry ([.int p1, .int p2, .int p3]) (n := 3) (Nat.le_of_ble_eq_true rfl)
  rw [lg_entry_eq]
  generalize (lg_sl ([.int p1, .int p2, .int p3]) ++ List.replicate (3 - (lg_sl ([.int p1, .int p2, .int p3])).length) Slot.unset).toArray = ls at hl ⊢
  have hl : lv_has ls 3 [(0, .int p1), (1, .int p2), (2, .int p3)] := hl
  obtain ⟨H, hHe⟩ : ∃ H, H = s.heap := ⟨_, rfl⟩
  rw [← hHe] at hP
  have hS : va_S A s.heap H [] := by rw [hHe]; exact hS
  rw [← hHe]
  unfold wp_X7_within at hw
  refine lv_iload_n hx hb dX7_within_0 rfl (lv_at hl 0 rfl) ?_
  refine lv_iload_n hx hb dX7_within_1 rfl (lv_at hl 1 rfl) ?_
  refine lv_icmp_lt (tgt := 14) hx hb dX7_within_2 (by decide) (fun c1 => ?_) (fun c1 => ?_)
  · replace hw := hw.1 (c1)
    refine lv_iconst (v := (0 : Int32)) hx hb dX7_within_14 (by decide) ?_
    have hP9 := hP.sub (ws' := []) [] rfl
    have hD9 := hD.sub (ws' := []) [] (by decide) rfl
    obtain ⟨h2, hw⟩ := hw
    exact W.zret (v := (0 : Int32)) hx hb hr (wg_bool h2) (fun t ht hW => ⟨⟨(0 : Int32), (), rfl, hw, by rw [ht]; exact hP9, va_K.moved hW.alike hK, hD9⟩, hS.F ht⟩) hS.2.2 dX7_within_15
  · replace hw := hw.2 (c1)
    refine lv_iload_n hx hb dX7_within_5 rfl (lv_at hl 0 rfl) ?_
    refine lv_iload_n hx hb dX7_within_6 rfl (lv_at hl 2 rfl) ?_
    refine lv_icmp_gt (tgt := 14) hx hb dX7_within_7 (by decide) (fun c3 => ?_) (fun c3 => ?_)
    · replace hw := hw.1 (c3)
      refine lv_iconst (v := (0 : Int32)) hx hb dX7_within_14 (by decide) ?_
      have hP9 := hP.sub (ws' := []) [] rfl
      have hD9 := hD.sub (ws' := []) [] (by decide) rfl
      obtain ⟨h4, hw⟩ := hw
      exact W.zret (v := (0 : Int32)) hx hb hr (wg_bool h4) (fun t ht hW => ⟨⟨(0 : Int32), (), rfl, hw, by rw [ht]; exact hP9, va_K.moved hW.alike hK, hD9⟩, hS.F ht⟩) hS.2.2 dX7_within_15
    · replace hw := hw.2 (c3)
      refine lv_iconst (v := (1 : Int32)) hx hb dX7_within_10 (by decide) ?_
      refine lv_goto (tgt := 15) hx hb dX7_within_11 (by decide) ?_
      have hP9 := hP.sub (ws' := []) [] rfl
      have hD9 := hD.sub (ws' := []) [] (by decide) rfl
      obtain ⟨h5, hw⟩ := hw
      exact W.zret (v := (1 : Int32)) hx hb hr (wg_bool h5) (fun t ht hW => ⟨⟨(1 : Int32), (), rfl, hw, by rw [ht]; exact hP9, va_K.moved hW.alike hK, hD9⟩, hS.F ht⟩) hS.2.2 dX7_within_15

theorem inX7_length_X7 : ∀ w ∈ wsX70, w ∈ wsX7_length := fun _ h => List.mem_cons_of_mem _ (List.mem_append_left _ (List.mem_append_left _ (List.mem_append_right _ h)))
theorem inX7_length_X2 : ∀ w ∈ wsX20, w ∈ wsX7_length := fun _ h => List.mem_cons_of_mem _ (List.mem_append_left _ (List.mem_append_right _ h))
theorem inX7_length_X6 : ∀ w ∈ wsX60, w ∈ wsX7_length := fun _ h => List.mem_cons_of_mem _ (List.mem_append_right _ h)
def wp_X7_length (Q : Int32 → (Int32) → (Int32) → Prop) (v6_end : Int32) (v6_bends : Int32) (v2_count : Int32) (p1 : Int32) : Prop :=
  (wp_X7_within (fun r1 => ((r1 = 0 → (Q (-2 : Int32) v6_end v6_bends)) ∧ (¬ r1 = 0 → ((v2_count ≤ 0 → (Q v6_end p1 (0 : Int32))) ∧ (¬ v2_count ≤ 0 → (Q (-3 : Int32) v6_end v6_bends)))))) p1 (100 : Int32) (4000 : Int32))
set_option maxHeartbeats 4000000 in
set_option maxRecDepth 100000 in
theorem c_X7_length (l : Launch) (dC : Nat → ClassId) (dI : Nat → Nat → Nat) (cI cJ cZ : ClassId) (a7 : Nat) (a6 : Nat) (a6_from : Nat) (a6_to : Nat) (a6_curve : Nat) (a2 : Nat) (a2_place : Nat) (a2_price : Nat) (a2_trackAside : Nat) (a2_side : Nat) (a2_stands : Nat) (a2_mastPeg : Nat) (a5 : Nat) (a4 : Nat) (a0 : Nat) (a1 : Nat) (a3 : Nat) (sz : Nat) (v6_end : Int32) (v6_bends : Int32) (v2_count : Int32) (v2_masts : Int32) (p1 : Int32) (Q : Int32 → (Int32) → (Int32) → Prop) (hw : wp_X7_length Q v6_end v6_bends v2_count p1) : Met l yX7_length wsX7_length ({ frames := 1, cells := 0, slots := 0, locals := 22 } : Room) (va_Pc [.ref a7, .int p1] (fun U => U.heap.size = sz ∧ va_P (dC, dI) vwCl [(a7, .inr (7, [.ref a6, .ref a2, .ref a5, .ref a4, .ref a0, .ref a1, .ref a3])), (a6, .inr (6, [.int v6_end, .int v6_bends, .ref a6_from, .ref a6_to, .ref a6_curve])), (a2, .inr (2, [.int v2_count, .int v2_masts, .ref a2_place, .ref a2_price, .ref a2_trackAside, .ref a2_side, .ref a2_stands, .ref a2_mastPeg]))] U.heap ∧ va_K (dC, dI) vwCl [(cI, .int), (cJ, .long), (cZ, .boolean)] U ∧ va_D (fun _ => True) [(a7, .inr (7, [.ref a6, .ref a2, .ref a5, .ref a4, .ref a0, .ref a1, .ref a3])), (a6, .inr (6, [.int v6_end, .int v6_bends, .ref a6_from, .ref a6_to, .ref a6_curve])), (a2, .inr (2, [.int v2_count, .int v2_masts, .ref a2_place, .ref a2_price, .ref a2_trackAside, .ref a2_side, .ref a2_stands, .ref a2_mastPeg]))])) (va_Qi (fun r (u : (Int32) × (Int32)) => Q r u.1 u.2) (fun (u : (Int32) × (Int32)) t => va_P (dC, dI) vwCl [(a7, .inr (7, [.ref a6, .ref a2, .ref a5, .ref a4, .ref a0, .ref a1, .ref a3])), (a6, .inr (6, [.int u.1, .int u.2, .ref a6_from, .ref a6_to, .ref a6_curve])), (a2, .inr (2, [.int v2_count, .int v2_masts, .ref a2_place, .ref a2_price, .ref a2_trackAside, .ref a2_side, .ref a2_stands, .ref a2_mastPeg]))] t.heap ∧ va_K (dC, dI) vwCl [(cI, .int), (cJ, .long), (cZ, .boolean)] t ∧ va_D (va_A [(a7, .inr (7, [.ref a6, .ref a2, .ref a5, .ref a4, .ref a0, .ref a1, .ref a3])), (a6, .inr (6, [.int v6_end, .int v6_bends, .ref a6_from, .ref a6_to, .ref a6_curve])), (a2, .inr (2, [.int v2_count, .int v2_masts, .ref a2_place, .ref a2_price, .ref a2_trackAside, .ref a2_side, .ref a2_stands, .ref a2_mastPeg]))] sz) [(a7, .inr (7, [.ref a6, .ref a2, .ref a5, .ref a4, .ref a0, .ref a1, .ref a3])), (a6, .inr (6, [.int u.1, .int u.2, .ref a6_from, .ref a6_to, .ref a6_curve])), (a2, .inr (2, [.int v2_count, .int v2_masts, .ref a2_place, .ref a2_price, .ref a2_trackAside, .ref a2_side, .ref a2_stands, .ref a2_mastPeg]))]) (va_A [(a7, .inr (7, [.ref a6, .ref a2, .ref a5, .ref a4, .ref a0, .ref a1, .ref a3])), (a6, .inr (6, [.int v6_end, .int v6_bends, .ref a6_from, .ref a6_to, .ref a6_curve])), (a2, .inr (2, [.int v2_count, .int v2_masts, .ref a2_place, .ref a2_price, .ref a2_trackAside, .ref a2_side, .ref a2_stands, .ref a2_mastPeg]))] sz)) 0 0 (va_A [(a7, .inr (7, [.ref a6, .ref a2, .ref a5, .ref a4, .ref a0, .ref a1, .ref a3])), (a6, .inr (6, [.int v6_end, .int v6_bends, .ref a6_from, .ref a6_to, .ref a6_curve])), (a2, .inr (2, [.int v2_count, .int v2_masts, .ref a2_place, .ref a2_price, .ref a2_trackAside, .ref a2_side, .ref a2_stands, .ref a2_mastPeg]))] sz) := by
  refine Met.ofW (cc := cX7_length) (maxL := 3) (ret := (some .int)) (by decide) rfl ?_
  intro p e s m args below meth c s₁ B hml hv
  obtain ⟨rfl, hsz, hP, hK, hD0⟩ := hv
  have hx := B.exec
  have hb := B.bytes
  have hr := B.returns
  have hts := atoms_spec (ws := wsX7_length) B.pre
  have hown : s.vm.findClass RX7 = some m.cls := findClass_of_methodNamed B.named
  have hlocks := B.notSynchronized
  subst hsz
  have hD := hD0.self (sz := s.heap.size)
  generalize hAe : va_A [(a7, .inr (7, [.ref a6, .ref a2, .ref a5, .ref a4, .ref a0, .ref a1, .ref a3])), (a6, .inr (6, [.int v6_end, .int v6_bends, .ref a6_from, .ref a6_to, .ref a6_curve])), (a2, .inr (2, [.int v2_count, .int v2_masts, .ref a2_place, .ref a2_price, .ref a2_trackAside, .ref a2_side, .ref a2_stands, .ref a2_mastPeg]))] s.heap.size = A at hD ⊢
  have hA : ∀ q : Nat, s.heap.size ≤ q → A q := fun q h => by rw [← hAe]; exact Or.inr h
  have hS : va_S A s.heap s.heap [] := va_S.rf
  have hP : va_P (dC, dI) vwCl [(a7, .inr (7, [.ref a6, .ref a2, .ref a5, .ref a4, .ref a0, .ref a1, .ref a3])), (a6, .inr (6, [.int v6_end, .int v6_bends, .ref a6_from, .ref a6_to, .ref a6_curve])), (a2, .inr (2, [.int v2_count, .int v2_masts, .ref a2_place, .ref a2_price, .ref a2_trackAside, .ref a2_side, .ref a2_stands, .ref a2_mastPeg]))] s.heap := hP
  have lk1 := hts (.fieldLink RX7 19 "WireRow" "pegs" "LWireRow$PegRow;") (by decide +kernel)
  have lk2 := hts (.fieldLink RX7 66 "WireRow$PegRow" "count" "I") (by decide +kernel)
  have lk3 := hts (.fieldLink RX7 10 "WireRow" "track" "LWireRow$Track;") (by decide +kernel)
  have lk4 := hts (.fieldLink RX7 70 "WireRow$Track" "end" "I") (by decide +kernel)
  have lk5 := hts (.fieldLink RX7 73 "WireRow$Track" "bends" "I") (by decide +kernel)
  have hl := lv_entry ([.ref a7, .int p1]) (n := 3) (Nat.le_of_ble_eq_true rfl)
  rw [lg_entry_eq]
  generalize (lg_sl ([.ref a7, .int p1]) ++ List.replicate (3 - (lg_sl ([.ref a7, .int p1])).length) Slot.unset).toArray = ls at hl ⊢
  have hl : lv_has ls 3 [(0, .ref a7), (1, .int p1)] := hl
  obtain ⟨H, hHe⟩ : ∃ H, H = s.heap := ⟨_, rfl⟩
  rw [← hHe] at hP
  have hS : va_S A s.heap H [] := by rw [hHe]; exact hS
  rw [← hHe]
  unfold wp_X7_length at hw
  refine lv_iload_n hx hb dX7_length_0 rfl (lv_at hl 1 rfl) ?_
  refine lv_bipush (v := (100 : Int32)) hx hb dX7_length_1 (by decide) ?_
  refine lv_sipush (v := (4000 : Int32)) hx hb dX7_length_3 (by decide) ?_
  have hPc := hP.sub (ws' := []) [] rfl
  have hDc := hD.sub (ws' := []) [] (by decide) rfl
  have hFc := va_free (wc := []) hD hS hA [] rfl
  refine va_calli (va_runS (As := [.int p1, .int (100 : Int32), .int (4000 : Int32)]) (rest := []) ⟨hx, hb, hml, hown, hts⟩ (c_X7_within l dC dI cI cJ cZ H.size p1 (100 : Int32) (4000 : Int32) _ hw) (va_cwS 3 hts gX7_length_X7_within rfl rfl rfl (by decide +kernel) ⟨Nat.le_of_ble_eq_true rfl, Nat.le_of_ble_eq_true rfl⟩) ⟨fun a U g mk q => by obtain ⟨q0, q1, qP, qK, qD⟩ := q; exact ⟨q0, q1, qP, va_K.moved (u := U) (U := U.calling g mk a) (Vm.Alike.refl U.vm) qK, qD⟩, fun U hU hW => ⟨rfl, by rw [hU], by rw [hU]; exact hPc, va_K.moved hW.alike hK, hDc.weaken (fun _ _ _ _ => trivial)⟩⟩ rfl rfl hl.1 rfl (lv_room (Nat.le_of_ble_eq_true rfl)) dX7_length_6 ⟨(Nat.zero_le _), (Nat.zero_le _)⟩) hS (fun q _ h => hFc q h) hFc (fun r1 u t H1 locs ht hvm hw hB hz1 hk1 hS => ?_)
  obtain ⟨hP1, -, hD1⟩ := hB
  try dsimp only at hw
  rw [ht] at hP1
  obtain ⟨hP, hD⟩ := va_join (wr := [(a7, .inr (7, [.ref a6, .ref a2, .ref a5, .ref a4, .ref a0, .ref a1, .ref a3])), (a6, .inr (6, [.int v6_end, .int v6_bends, .ref a6_from, .ref a6_to, .ref a6_curve])), (a2, .inr (2, [.int v2_count, .int v2_masts, .ref a2_place, .ref a2_price, .ref a2_trackAside, .ref a2_side, .ref a2_stands, .ref a2_mastPeg]))]) (w1 := []) hP hD [] [0, 1, 2] rfl rfl (by decide) (by decide) hk1 hFc hP1 hD1
  generalize H1 = H at hP hS ⊢
  have hP : va_P (dC, dI) vwCl [(a7, .inr (7, [.ref a6, .ref a2, .ref a5, .ref a4, .ref a0, .ref a1, .ref a3])), (a6, .inr (6, [.int v6_end, .int v6_bends, .ref a6_from, .ref a6_to, .ref a6_curve])), (a2, .inr (2, [.int v2_count, .int v2_masts, .ref a2_place, .ref a2_price, .ref a2_trackAside, .ref a2_side, .ref a2_stands, .ref a2_mastPeg]))] H := hP
  have hD : va_D A [(a7, .inr (7, [.ref a6, .ref a2, .ref a5, .ref a4, .ref a0, .ref a1, .ref a3])), (a6, .inr (6, [.int v6_end, .int v6_bends, .ref a6_from, .ref a6_to, .ref a6_curve])), (a2, .inr (2, [.int v2_count, .int v2_masts, .ref a2_place, .ref a2_price, .ref a2_trackAside, .ref a2_side, .ref a2_stands, .ref a2_mastPeg]))] := hD
  refine lv_if_ne (tgt := 15) hx hb dX7_length_9 (by decide) (fun c2 => ?_) (fun c2 => ?_)
  · replace hw := hw.2 (c2)
    refine lv_aload_n hx hb dX7_length_15 rfl (lv_at hl 0 rfl) ?_
    refine va_get (D := (dC, dI)) (ci := 7) (v := .ref a2) (C := RX7) (T := TX7) (N := 7) hx hb hts inX7_length_X7 hown hK hP 0 rfl rfl 1 (by decide) lk1 (fun _ h9 => h9) rfl dX7_length_16 ?_
    refine va_get (D := (dC, dI)) (ci := 2) (v := .int v2_count) (C := RX2) (T := TX2) (N := 8) hx hb hts inX7_length_X2 hown hK hP 2 rfl rfl 0 (by decide) lk2 (fun _ h9 => h9) rfl dX7_length_19 ?_
    refine lv_if_le (tgt := 28) hx hb dX7_length_22 (by decide) (fun c3 => ?_) (fun c3 => ?_)
    · replace hw := hw.1 (c3)
      refine lv_aload_n hx hb dX7_length_28 rfl (lv_at hl 0 rfl) ?_
      refine va_get (D := (dC, dI)) (ci := 7) (v := .ref a6) (C := RX7) (T := TX7) (N := 7) hx hb hts inX7_length_X7 hown hK hP 0 rfl rfl 0 (by decide) lk3 (fun _ h9 => h9) rfl dX7_length_29 ?_
      refine va_get (D := (dC, dI)) (ci := 6) (v := .int v6_end) (C := RX6) (T := TX6) (N := 5) hx hb hts inX7_length_X6 hown hK hP 1 rfl rfl 0 (by decide) lk4 (fun _ h9 => h9) rfl dX7_length_32 ?_
      refine lv_istore_n (lv' := [(2, .int v6_end), (0, .ref a7), (1, .int p1)]) hx hb dX7_length_35 rfl hl (by decide) rfl (fun ls hl => ?_)
      refine lv_aload_n hx hb dX7_length_36 rfl (lv_at hl 1 rfl) ?_
      refine va_get (D := (dC, dI)) (ci := 7) (v := .ref a6) (C := RX7) (T := TX7) (N := 7) hx hb hts inX7_length_X7 hown hK hP 0 rfl rfl 0 (by decide) lk3 (fun _ h9 => h9) rfl dX7_length_37 ?_
      refine lv_iload_n hx hb dX7_length_40 rfl (lv_at hl 2 rfl) ?_
      refine va_put (D := (dC, dI)) (ci := 6) (v := .int p1) (ty := .int) (C := RX6) (T := TX6) (N := 5) hx hb hts inX7_length_X6 tyX6 tyX6_ok nmX6 hown hK hP hD hS 1 rfl rfl 0 (by decide) lk4 (fun _ h9 => h9) rfl (by decide +kernel) rfl rfl (Nat.le_of_ble_eq_true rfl) dX7_length_41 (fun H locs hP hD hS => ?_)
      have hP : va_P (dC, dI) vwCl [(a7, .inr (7, [.ref a6, .ref a2, .ref a5, .ref a4, .ref a0, .ref a1, .ref a3])), (a6, .inr (6, [.int p1, .int v6_bends, .ref a6_from, .ref a6_to, .ref a6_curve])), (a2, .inr (2, [.int v2_count, .int v2_masts, .ref a2_place, .ref a2_price, .ref a2_trackAside, .ref a2_side, .ref a2_stands, .ref a2_mastPeg]))] H := hP
      have hD : va_D A [(a7, .inr (7, [.ref a6, .ref a2, .ref a5, .ref a4, .ref a0, .ref a1, .ref a3])), (a6, .inr (6, [.int p1, .int v6_bends, .ref a6_from, .ref a6_to, .ref a6_curve])), (a2, .inr (2, [.int v2_count, .int v2_masts, .ref a2_place, .ref a2_price, .ref a2_trackAside, .ref a2_side, .ref a2_stands, .ref a2_mastPeg]))] := hD
      refine lv_aload_n hx hb dX7_length_44 rfl (lv_at hl 1 rfl) ?_
      refine va_get (D := (dC, dI)) (ci := 7) (v := .ref a6) (C := RX7) (T := TX7) (N := 7) hx hb hts inX7_length_X7 hown hK hP 0 rfl rfl 0 (by decide) lk3 (fun _ h9 => h9) rfl dX7_length_45 ?_
      refine lv_iconst (v := (0 : Int32)) hx hb dX7_length_48 (by decide) ?_
      refine va_put (D := (dC, dI)) (ci := 6) (v := .int (0 : Int32)) (ty := .int) (C := RX6) (T := TX6) (N := 5) hx hb hts inX7_length_X6 tyX6 tyX6_ok nmX6 hown hK hP hD hS 1 rfl rfl 1 (by decide) lk5 (fun _ h9 => h9) rfl (by decide +kernel) rfl rfl (Nat.le_of_ble_eq_true rfl) dX7_length_49 (fun H locs hP hD hS => ?_)
      have hP : va_P (dC, dI) vwCl [(a7, .inr (7, [.ref a6, .ref a2, .ref a5, .ref a4, .ref a0, .ref a1, .ref a3])), (a6, .inr (6, [.int p1, .int (0 : Int32), .ref a6_from, .ref a6_to, .ref a6_curve])), (a2, .inr (2, [.int v2_count, .int v2_masts, .ref a2_place, .ref a2_price, .ref a2_trackAside, .ref a2_side, .ref a2_stands, .ref a2_mastPeg]))] H := hP
      have hD : va_D A [(a7, .inr (7, [.ref a6, .ref a2, .ref a5, .ref a4, .ref a0, .ref a1, .ref a3])), (a6, .inr (6, [.int p1, .int (0 : Int32), .ref a6_from, .ref a6_to, .ref a6_curve])), (a2, .inr (2, [.int v2_count, .int v2_masts, .ref a2_place, .ref a2_price, .ref a2_trackAside, .ref a2_side, .ref a2_stands, .ref a2_mastPeg]))] := hD
      refine lv_iload_n hx hb dX7_length_52 rfl (lv_at hl 0 rfl) ?_
      have hP9 := hP.sub (ws' := [(a7, .inr (7, [.ref a6, .ref a2, .ref a5, .ref a4, .ref a0, .ref a1, .ref a3])), (a6, .inr (6, [.int p1, .int (0 : Int32), .ref a6_from, .ref a6_to, .ref a6_curve])), (a2, .inr (2, [.int v2_count, .int v2_masts, .ref a2_place, .ref a2_price, .ref a2_trackAside, .ref a2_side, .ref a2_stands, .ref a2_mastPeg]))]) [0, 1, 2] rfl
      have hD9 := hD.sub (ws' := [(a7, .inr (7, [.ref a6, .ref a2, .ref a5, .ref a4, .ref a0, .ref a1, .ref a3])), (a6, .inr (6, [.int p1, .int (0 : Int32), .ref a6_from, .ref a6_to, .ref a6_curve])), (a2, .inr (2, [.int v2_count, .int v2_masts, .ref a2_place, .ref a2_price, .ref a2_trackAside, .ref a2_side, .ref a2_stands, .ref a2_mastPeg]))]) [0, 1, 2] (by decide) rfl
      exact W.iret (v := v6_end) hx hb hr (fun t ht hW => ⟨⟨v6_end, (p1, (0 : Int32)), rfl, hw, by rw [ht]; exact hP9, va_K.moved hW.alike hK, hD9⟩, hS.F ht⟩) hS.2.2 dX7_length_53
    · replace hw := hw.2 (c3)
      refine lv_bipush (v := (-3 : Int32)) hx hb dX7_length_25 (by decide) ?_
      have hP9 := hP.sub (ws' := [(a7, .inr (7, [.ref a6, .ref a2, .ref a5, .ref a4, .ref a0, .ref a1, .ref a3])), (a6, .inr (6, [.int v6_end, .int v6_bends, .ref a6_from, .ref a6_to, .ref a6_curve])), (a2, .inr (2, [.int v2_count, .int v2_masts, .ref a2_place, .ref a2_price, .ref a2_trackAside, .ref a2_side, .ref a2_stands, .ref a2_mastPeg]))]) [0, 1, 2] rfl
      have hD9 := hD.sub (ws' := [(a7, .inr (7, [.ref a6, .ref a2, .ref a5, .ref a4, .ref a0, .ref a1, .ref a3])), (a6, .inr (6, [.int v6_end, .int v6_bends, .ref a6_from, .ref a6_to, .ref a6_curve])), (a2, .inr (2, [.int v2_count, .int v2_masts, .ref a2_place, .ref a2_price, .ref a2_trackAside, .ref a2_side, .ref a2_stands, .ref a2_mastPeg]))]) [0, 1, 2] (by decide) rfl
      exact W.iret (v := (-3 : Int32)) hx hb hr (fun t ht hW => ⟨⟨(-3 : Int32), (v6_end, v6_bends), rfl, hw, by rw [ht]; exact hP9, va_K.moved hW.alike hK, hD9⟩, hS.F ht⟩) hS.2.2 dX7_length_27
  · replace hw := hw.1 (c2)
    refine lv_bipush (v := (-2 : Int32)) hx hb dX7_length_12 (by decide) ?_
    have hP9 := hP.sub (ws' := [(a7, .inr (7, [.ref a6, .ref a2, .ref a5, .ref a4, .ref a0, .ref a1, .ref a3])), (a6, .inr (6, [.int v6_end, .int v6_bends, .ref a6_from, .ref a6_to, .ref a6_curve])), (a2, .inr (2, [.int v2_count, .int v2_masts, .ref a2_place, .ref a2_price, .ref a2_trackAside, .ref a2_side, .ref a2_stands, .ref a2_mastPeg]))]) [0, 1, 2] rfl
    have hD9 := hD.sub (ws' := [(a7, .inr (7, [.ref a6, .ref a2, .ref a5, .ref a4, .ref a0, .ref a1, .ref a3])), (a6, .inr (6, [.int v6_end, .int v6_bends, .ref a6_from, .ref a6_to, .ref a6_curve])), (a2, .inr (2, [.int v2_count, .int v2_masts, .ref a2_place, .ref a2_price, .ref a2_trackAside, .ref a2_side, .ref a2_stands, .ref a2_mastPeg]))]) [0, 1, 2] (by decide) rfl
    exact W.iret (v := (-2 : Int32)) hx hb hr (fun t ht hW => ⟨⟨(-2 : Int32), (v6_end, v6_bends), rfl, hw, by rw [ht]; exact hP9, va_K.moved hW.alike hK, hD9⟩, hS.F ht⟩) hS.2.2 dX7_length_14

theorem inX7_bend_X7 : ∀ w ∈ wsX70, w ∈ wsX7_bend := fun _ h => List.mem_cons_of_mem _ (List.mem_append_left _ (List.mem_append_left _ (List.mem_append_right _ h)))
theorem inX7_bend_X6 : ∀ w ∈ wsX60, w ∈ wsX7_bend := fun _ h => List.mem_cons_of_mem _ (List.mem_append_left _ (List.mem_append_right _ h))
theorem inX7_bend_X2 : ∀ w ∈ wsX20, w ∈ wsX7_bend := fun _ h => List.mem_cons_of_mem _ (List.mem_append_right _ h)
def wp_X7_bend (Q : Int32 → (Int32) → (Nat → Int32) → (Nat → Int32) → (Nat → Int32) → Prop) (v6_end : Int32) (v6_bends : Int32) (f6_from : Nat → Int32) (f6_to : Nat → Int32) (f6_curve : Nat → Int32) (v2_count : Int32) (p1 : Int32) (p2 : Int32) (p3 : Int32) : Prop :=
  ((p1 < 0 → (Q (-2 : Int32) v6_bends f6_from f6_to f6_curve)) ∧ (¬ p1 < 0 → ((p2 ≤ p1 → (Q (-2 : Int32) v6_bends f6_from f6_to f6_curve)) ∧ (¬ p2 ≤ p1 → ((v6_end < p2 → (Q (-2 : Int32) v6_bends f6_from f6_to f6_curve)) ∧ (¬ v6_end < p2 → (wp_X7_within (fun r4 => ((r4 = 0 → (Q (-2 : Int32) v6_bends f6_from f6_to f6_curve)) ∧ (¬ r4 = 0 → ((v2_count ≤ 0 → ((v6_bends < (8 : Int32) → (wp_X6_isBentWithin (fun r8 => ((r8 = 0 → (wp_X6_insert (fun m11 m12 m13 m14 => (Q m11 m11 m12 m13 m14)) v6_bends f6_from f6_to f6_curve p1 p2 p3)) ∧ (¬ r8 = 0 → (Q (-5 : Int32) v6_bends f6_from f6_to f6_curve)))) v6_bends f6_from f6_to p1 p2)) ∧ (¬ v6_bends < (8 : Int32) → (Q (-4 : Int32) v6_bends f6_from f6_to f6_curve)))) ∧ (¬ v2_count ≤ 0 → (Q (-3 : Int32) v6_bends f6_from f6_to f6_curve)))))) p3 (-50 : Int32) (50 : Int32))))))))
set_option maxHeartbeats 4000000 in
set_option maxRecDepth 100000 in
theorem c_X7_bend (l : Launch) (dC : Nat → ClassId) (dI : Nat → Nat → Nat) (cI cJ cZ : ClassId) (a7 : Nat) (a6 : Nat) (a6_from : Nat) (a6_to : Nat) (a6_curve : Nat) (a2 : Nat) (a2_place : Nat) (a2_price : Nat) (a2_trackAside : Nat) (a2_side : Nat) (a2_stands : Nat) (a2_mastPeg : Nat) (a5 : Nat) (a4 : Nat) (a0 : Nat) (a1 : Nat) (a3 : Nat) (sz : Nat) (v6_end : Int32) (v6_bends : Int32) (f6_from : Nat → Int32) (f6_to : Nat → Int32) (f6_curve : Nat → Int32) (v2_count : Int32) (v2_masts : Int32) (p1 : Int32) (p2 : Int32) (p3 : Int32) (Q : Int32 → (Int32) → (Nat → Int32) → (Nat → Int32) → (Nat → Int32) → Prop) (hw : wp_X7_bend Q v6_end v6_bends f6_from f6_to f6_curve v2_count p1 p2 p3) : Met l yX7_bend wsX7_bend ({ frames := 1, cells := 0, slots := 0, locals := 24 } : Room) (va_Pc [.ref a7, .int p1, .int p2, .int p3] (fun U => U.heap.size = sz ∧ va_P (dC, dI) vwCl [(a7, .inr (7, [.ref a6, .ref a2, .ref a5, .ref a4, .ref a0, .ref a1, .ref a3])), (a6, .inr (6, [.int v6_end, .int v6_bends, .ref a6_from, .ref a6_to, .ref a6_curve])), (a6_from, .inl (cI, 8, .inl f6_from)), (a6_to, .inl (cI, 8, .inl f6_to)), (a6_curve, .inl (cI, 8, .inl f6_curve)), (a2, .inr (2, [.int v2_count, .int v2_masts, .ref a2_place, .ref a2_price, .ref a2_trackAside, .ref a2_side, .ref a2_stands, .ref a2_mastPeg]))] U.heap ∧ va_K (dC, dI) vwCl [(cI, .int), (cJ, .long), (cZ, .boolean)] U ∧ va_D (fun _ => True) [(a7, .inr (7, [.ref a6, .ref a2, .ref a5, .ref a4, .ref a0, .ref a1, .ref a3])), (a6, .inr (6, [.int v6_end, .int v6_bends, .ref a6_from, .ref a6_to, .ref a6_curve])), (a6_from, .inl (cI, 8, .inl f6_from)), (a6_to, .inl (cI, 8, .inl f6_to)), (a6_curve, .inl (cI, 8, .inl f6_curve)), (a2, .inr (2, [.int v2_count, .int v2_masts, .ref a2_place, .ref a2_price, .ref a2_trackAside, .ref a2_side, .ref a2_stands, .ref a2_mastPeg]))])) (va_Qi (fun r (u : (Int32) × (Nat → Int32) × (Nat → Int32) × (Nat → Int32)) => Q r u.1 u.2.1 u.2.2.1 u.2.2.2) (fun (u : (Int32) × (Nat → Int32) × (Nat → Int32) × (Nat → Int32)) t => va_P (dC, dI) vwCl [(a7, .inr (7, [.ref a6, .ref a2, .ref a5, .ref a4, .ref a0, .ref a1, .ref a3])), (a6, .inr (6, [.int v6_end, .int u.1, .ref a6_from, .ref a6_to, .ref a6_curve])), (a6_from, .inl (cI, 8, .inl u.2.1)), (a6_to, .inl (cI, 8, .inl u.2.2.1)), (a6_curve, .inl (cI, 8, .inl u.2.2.2)), (a2, .inr (2, [.int v2_count, .int v2_masts, .ref a2_place, .ref a2_price, .ref a2_trackAside, .ref a2_side, .ref a2_stands, .ref a2_mastPeg]))] t.heap ∧ va_K (dC, dI) vwCl [(cI, .int), (cJ, .long), (cZ, .boolean)] t ∧ va_D (va_A [(a7, .inr (7, [.ref a6, .ref a2, .ref a5, .ref a4, .ref a0, .ref a1, .ref a3])), (a6, .inr (6, [.int v6_end, .int v6_bends, .ref a6_from, .ref a6_to, .ref a6_curve])), (a6_from, .inl (cI, 8, .inl f6_from)), (a6_to, .inl (cI, 8, .inl f6_to)), (a6_curve, .inl (cI, 8, .inl f6_curve)), (a2, .inr (2, [.int v2_count, .int v2_masts, .ref a2_place, .ref a2_price, .ref a2_trackAside, .ref a2_side, .ref a2_stands, .ref a2_mastPeg]))] sz) [(a7, .inr (7, [.ref a6, .ref a2, .ref a5, .ref a4, .ref a0, .ref a1, .ref a3])), (a6, .inr (6, [.int v6_end, .int u.1, .ref a6_from, .ref a6_to, .ref a6_curve])), (a6_from, .inl (cI, 8, .inl u.2.1)), (a6_to, .inl (cI, 8, .inl u.2.2.1)), (a6_curve, .inl (cI, 8, .inl u.2.2.2)), (a2, .inr (2, [.int v2_count, .int v2_masts, .ref a2_place, .ref a2_price, .ref a2_trackAside, .ref a2_side, .ref a2_stands, .ref a2_mastPeg]))]) (va_A [(a7, .inr (7, [.ref a6, .ref a2, .ref a5, .ref a4, .ref a0, .ref a1, .ref a3])), (a6, .inr (6, [.int v6_end, .int v6_bends, .ref a6_from, .ref a6_to, .ref a6_curve])), (a6_from, .inl (cI, 8, .inl f6_from)), (a6_to, .inl (cI, 8, .inl f6_to)), (a6_curve, .inl (cI, 8, .inl f6_curve)), (a2, .inr (2, [.int v2_count, .int v2_masts, .ref a2_place, .ref a2_price, .ref a2_trackAside, .ref a2_side, .ref a2_stands, .ref a2_mastPeg]))] sz)) 0 0 (va_A [(a7, .inr (7, [.ref a6, .ref a2, .ref a5, .ref a4, .ref a0, .ref a1, .ref a3])), (a6, .inr (6, [.int v6_end, .int v6_bends, .ref a6_from, .ref a6_to, .ref a6_curve])), (a6_from, .inl (cI, 8, .inl f6_from)), (a6_to, .inl (cI, 8, .inl f6_to)), (a6_curve, .inl (cI, 8, .inl f6_curve)), (a2, .inr (2, [.int v2_count, .int v2_masts, .ref a2_place, .ref a2_price, .ref a2_trackAside, .ref a2_side, .ref a2_stands, .ref a2_mastPeg]))] sz) := by
  refine Met.ofW (cc := cX7_bend) (maxL := 4) (ret := (some .int)) (by decide) rfl ?_
  intro p e s m args below meth c s₁ B hml hv
  obtain ⟨rfl, hsz, hP, hK, hD0⟩ := hv
  have hx := B.exec
  have hb := B.bytes
  have hr := B.returns
  have hts := atoms_spec (ws := wsX7_bend) B.pre
  have hown : s.vm.findClass RX7 = some m.cls := findClass_of_methodNamed B.named
  have hlocks := B.notSynchronized
  subst hsz
  have hD := hD0.self (sz := s.heap.size)
  generalize hAe : va_A [(a7, .inr (7, [.ref a6, .ref a2, .ref a5, .ref a4, .ref a0, .ref a1, .ref a3])), (a6, .inr (6, [.int v6_end, .int v6_bends, .ref a6_from, .ref a6_to, .ref a6_curve])), (a6_from, .inl (cI, 8, .inl f6_from)), (a6_to, .inl (cI, 8, .inl f6_to)), (a6_curve, .inl (cI, 8, .inl f6_curve)), (a2, .inr (2, [.int v2_count, .int v2_masts, .ref a2_place, .ref a2_price, .ref a2_trackAside, .ref a2_side, .ref a2_stands, .ref a2_mastPeg]))] s.heap.size = A at hD ⊢
  have hA : ∀ q : Nat, s.heap.size ≤ q → A q := fun q h => by rw [← hAe]; exact Or.inr h
  have hS : va_S A s.heap s.heap [] := va_S.rf
  have hP : va_P (dC, dI) vwCl [(a7, .inr (7, [.ref a6, .ref a2, .ref a5, .ref a4, .ref a0, .ref a1, .ref a3])), (a6, .inr (6, [.int v6_end, .int v6_bends, .ref a6_from, .ref a6_to, .ref a6_curve])), (a6_from, .inl (cI, 8, .inl f6_from)), (a6_to, .inl (cI, 8, .inl f6_to)), (a6_curve, .inl (cI, 8, .inl f6_curve)), (a2, .inr (2, [.int v2_count, .int v2_masts, .ref a2_place, .ref a2_price, .ref a2_trackAside, .ref a2_side, .ref a2_stands, .ref a2_mastPeg]))] s.heap := hP
  have lk1 := hts (.fieldLink RX7 10 "WireRow" "track" "LWireRow$Track;") (by decide +kernel)
  have lk2 := hts (.fieldLink RX7 70 "WireRow$Track" "end" "I") (by decide +kernel)
  have lk3 := hts (.fieldLink RX7 19 "WireRow" "pegs" "LWireRow$PegRow;") (by decide +kernel)
  have lk4 := hts (.fieldLink RX7 66 "WireRow$PegRow" "count" "I") (by decide +kernel)
  have lk5 := hts (.fieldLink RX7 73 "WireRow$Track" "bends" "I") (by decide +kernel)
  have hl := lv_entry ([.ref a7, .int p1, .int p2, .int p3]) (n := 4) (Nat.le_of_ble_eq_true rfl)
  rw [lg_entry_eq]
  generalize (lg_sl ([.ref a7, .int p1, .int p2, .int p3]) ++ List.replicate (4 - (lg_sl ([.ref a7, .int p1, .int p2, .int p3])).length) Slot.unset).toArray = ls at hl ⊢
  have hl : lv_has ls 4 [(0, .ref a7), (1, .int p1), (2, .int p2), (3, .int p3)] := hl
  obtain ⟨H, hHe⟩ : ∃ H, H = s.heap := ⟨_, rfl⟩
  rw [← hHe] at hP
  have hS : va_S A s.heap H [] := by rw [hHe]; exact hS
  rw [← hHe]
  unfold wp_X7_bend at hw
  refine lv_iload_n hx hb dX7_bend_0 rfl (lv_at hl 1 rfl) ?_
  refine lv_if_lt (tgt := 31) hx hb dX7_bend_1 (by decide) (fun c1 => ?_) (fun c1 => ?_)
  · replace hw := hw.1 (c1)
    refine lv_bipush (v := (-2 : Int32)) hx hb dX7_bend_31 (by decide) ?_
    have hP9 := hP.sub (ws' := [(a7, .inr (7, [.ref a6, .ref a2, .ref a5, .ref a4, .ref a0, .ref a1, .ref a3])), (a6, .inr (6, [.int v6_end, .int v6_bends, .ref a6_from, .ref a6_to, .ref a6_curve])), (a6_from, .inl (cI, 8, .inl f6_from)), (a6_to, .inl (cI, 8, .inl f6_to)), (a6_curve, .inl (cI, 8, .inl f6_curve)), (a2, .inr (2, [.int v2_count, .int v2_masts, .ref a2_place, .ref a2_price, .ref a2_trackAside, .ref a2_side, .ref a2_stands, .ref a2_mastPeg]))]) [0, 1, 2, 3, 4, 5] rfl
    have hD9 := hD.sub (ws' := [(a7, .inr (7, [.ref a6, .ref a2, .ref a5, .ref a4, .ref a0, .ref a1, .ref a3])), (a6, .inr (6, [.int v6_end, .int v6_bends, .ref a6_from, .ref a6_to, .ref a6_curve])), (a6_from, .inl (cI, 8, .inl f6_from)), (a6_to, .inl (cI, 8, .inl f6_to)), (a6_curve, .inl (cI, 8, .inl f6_curve)), (a2, .inr (2, [.int v2_count, .int v2_masts, .ref a2_place, .ref a2_price, .ref a2_trackAside, .ref a2_side, .ref a2_stands, .ref a2_mastPeg]))]) [0, 1, 2, 3, 4, 5] (by decide) rfl
    exact W.iret (v := (-2 : Int32)) hx hb hr (fun t ht hW => ⟨⟨(-2 : Int32), (v6_bends, f6_from, f6_to, f6_curve), rfl, hw, by rw [ht]; exact hP9, va_K.moved hW.alike hK, hD9⟩, hS.F ht⟩) hS.2.2 dX7_bend_33
  · replace hw := hw.2 (c1)
    refine lv_iload_n hx hb dX7_bend_4 rfl (lv_at hl 1 rfl) ?_
    refine lv_iload_n hx hb dX7_bend_5 rfl (lv_at hl 2 rfl) ?_
    refine lv_icmp_ge (tgt := 31) hx hb dX7_bend_6 (by decide) (fun c2 => ?_) (fun c2 => ?_)
    · replace hw := hw.1 (c2)
      refine lv_bipush (v := (-2 : Int32)) hx hb dX7_bend_31 (by decide) ?_
      have hP9 := hP.sub (ws' := [(a7, .inr (7, [.ref a6, .ref a2, .ref a5, .ref a4, .ref a0, .ref a1, .ref a3])), (a6, .inr (6, [.int v6_end, .int v6_bends, .ref a6_from, .ref a6_to, .ref a6_curve])), (a6_from, .inl (cI, 8, .inl f6_from)), (a6_to, .inl (cI, 8, .inl f6_to)), (a6_curve, .inl (cI, 8, .inl f6_curve)), (a2, .inr (2, [.int v2_count, .int v2_masts, .ref a2_place, .ref a2_price, .ref a2_trackAside, .ref a2_side, .ref a2_stands, .ref a2_mastPeg]))]) [0, 1, 2, 3, 4, 5] rfl
      have hD9 := hD.sub (ws' := [(a7, .inr (7, [.ref a6, .ref a2, .ref a5, .ref a4, .ref a0, .ref a1, .ref a3])), (a6, .inr (6, [.int v6_end, .int v6_bends, .ref a6_from, .ref a6_to, .ref a6_curve])), (a6_from, .inl (cI, 8, .inl f6_from)), (a6_to, .inl (cI, 8, .inl f6_to)), (a6_curve, .inl (cI, 8, .inl f6_curve)), (a2, .inr (2, [.int v2_count, .int v2_masts, .ref a2_place, .ref a2_price, .ref a2_trackAside, .ref a2_side, .ref a2_stands, .ref a2_mastPeg]))]) [0, 1, 2, 3, 4, 5] (by decide) rfl
      exact W.iret (v := (-2 : Int32)) hx hb hr (fun t ht hW => ⟨⟨(-2 : Int32), (v6_bends, f6_from, f6_to, f6_curve), rfl, hw, by rw [ht]; exact hP9, va_K.moved hW.alike hK, hD9⟩, hS.F ht⟩) hS.2.2 dX7_bend_33
    · replace hw := hw.2 (c2)
      refine lv_iload_n hx hb dX7_bend_9 rfl (lv_at hl 2 rfl) ?_
      refine lv_aload_n hx hb dX7_bend_10 rfl (lv_at hl 0 rfl) ?_
      refine va_get (D := (dC, dI)) (ci := 7) (v := .ref a6) (C := RX7) (T := TX7) (N := 7) hx hb hts inX7_bend_X7 hown hK hP 0 rfl rfl 0 (by decide) lk1 (fun _ h9 => h9) rfl dX7_bend_11 ?_
      refine va_get (D := (dC, dI)) (ci := 6) (v := .int v6_end) (C := RX6) (T := TX6) (N := 5) hx hb hts inX7_bend_X6 hown hK hP 1 rfl rfl 0 (by decide) lk2 (fun _ h9 => h9) rfl dX7_bend_14 ?_
      refine lv_icmp_gt (tgt := 31) hx hb dX7_bend_17 (by decide) (fun c3 => ?_) (fun c3 => ?_)
      · replace hw := hw.1 (c3)
        refine lv_bipush (v := (-2 : Int32)) hx hb dX7_bend_31 (by decide) ?_
        have hP9 := hP.sub (ws' := [(a7, .inr (7, [.ref a6, .ref a2, .ref a5, .ref a4, .ref a0, .ref a1, .ref a3])), (a6, .inr (6, [.int v6_end, .int v6_bends, .ref a6_from, .ref a6_to, .ref a6_curve])), (a6_from, .inl (cI, 8, .inl f6_from)), (a6_to, .inl (cI, 8, .inl f6_to)), (a6_curve, .inl (cI, 8, .inl f6_curve)), (a2, .inr (2, [.int v2_count, .int v2_masts, .ref a2_place, .ref a2_price, .ref a2_trackAside, .ref a2_side, .ref a2_stands, .ref a2_mastPeg]))]) [0, 1, 2, 3, 4, 5] rfl
        have hD9 := hD.sub (ws' := [(a7, .inr (7, [.ref a6, .ref a2, .ref a5, .ref a4, .ref a0, .ref a1, .ref a3])), (a6, .inr (6, [.int v6_end, .int v6_bends, .ref a6_from, .ref a6_to, .ref a6_curve])), (a6_from, .inl (cI, 8, .inl f6_from)), (a6_to, .inl (cI, 8, .inl f6_to)), (a6_curve, .inl (cI, 8, .inl f6_curve)), (a2, .inr (2, [.int v2_count, .int v2_masts, .ref a2_place, .ref a2_price, .ref a2_trackAside, .ref a2_side, .ref a2_stands, .ref a2_mastPeg]))]) [0, 1, 2, 3, 4, 5] (by decide) rfl
        exact W.iret (v := (-2 : Int32)) hx hb hr (fun t ht hW => ⟨⟨(-2 : Int32), (v6_bends, f6_from, f6_to, f6_curve), rfl, hw, by rw [ht]; exact hP9, va_K.moved hW.alike hK, hD9⟩, hS.F ht⟩) hS.2.2 dX7_bend_33
      · replace hw := hw.2 (c3)
        refine lv_iload_n hx hb dX7_bend_20 rfl (lv_at hl 3 rfl) ?_
        refine lv_bipush (v := (-50 : Int32)) hx hb dX7_bend_21 (by decide) ?_
        refine lv_bipush (v := (50 : Int32)) hx hb dX7_bend_23 (by decide) ?_
        have hPc := hP.sub (ws' := []) [] rfl
        have hDc := hD.sub (ws' := []) [] (by decide) rfl
        have hFc := va_free (wc := []) hD hS hA [] rfl
        refine va_calli (va_runS (As := [.int p3, .int (-50 : Int32), .int (50 : Int32)]) (rest := []) ⟨hx, hb, hml, hown, hts⟩ (c_X7_within l dC dI cI cJ cZ H.size p3 (-50 : Int32) (50 : Int32) _ hw) (va_cwS 3 hts gX7_bend_X7_within rfl rfl rfl (by decide +kernel) ⟨Nat.le_of_ble_eq_true rfl, Nat.le_of_ble_eq_true rfl⟩) ⟨fun a U g mk q => by obtain ⟨q0, q1, qP, qK, qD⟩ := q; exact ⟨q0, q1, qP, va_K.moved (u := U) (U := U.calling g mk a) (Vm.Alike.refl U.vm) qK, qD⟩, fun U hU hW => ⟨rfl, by rw [hU], by rw [hU]; exact hPc, va_K.moved hW.alike hK, hDc.weaken (fun _ _ _ _ => trivial)⟩⟩ rfl rfl hl.1 rfl (lv_room (Nat.le_of_ble_eq_true rfl)) dX7_bend_25 ⟨(Nat.zero_le _), (Nat.zero_le _)⟩) hS (fun q _ h => hFc q h) hFc (fun r4 u t H1 locs ht hvm hw hB hz1 hk1 hS => ?_)
        obtain ⟨hP1, -, hD1⟩ := hB
        try dsimp only at hw
        rw [ht] at hP1
        obtain ⟨hP, hD⟩ := va_join (wr := [(a7, .inr (7, [.ref a6, .ref a2, .ref a5, .ref a4, .ref a0, .ref a1, .ref a3])), (a6, .inr (6, [.int v6_end, .int v6_bends, .ref a6_from, .ref a6_to, .ref a6_curve])), (a6_from, .inl (cI, 8, .inl f6_from)), (a6_to, .inl (cI, 8, .inl f6_to)), (a6_curve, .inl (cI, 8, .inl f6_curve)), (a2, .inr (2, [.int v2_count, .int v2_masts, .ref a2_place, .ref a2_price, .ref a2_trackAside, .ref a2_side, .ref a2_stands, .ref a2_mastPeg]))]) (w1 := []) hP hD [] [0, 1, 2, 3, 4, 5] rfl rfl (by decide) (by decide) hk1 hFc hP1 hD1
        generalize H1 = H at hP hS ⊢
        have hP : va_P (dC, dI) vwCl [(a7, .inr (7, [.ref a6, .ref a2, .ref a5, .ref a4, .ref a0, .ref a1, .ref a3])), (a6, .inr (6, [.int v6_end, .int v6_bends, .ref a6_from, .ref a6_to, .ref a6_curve])), (a6_from, .inl (cI, 8, .inl f6_from)), (a6_to, .inl (cI, 8, .inl f6_to)), (a6_curve, .inl (cI, 8, .inl f6_curve)), (a2, .inr (2, [.int v2_count, .int v2_masts, .ref a2_place, .ref a2_price, .ref a2_trackAside, .ref a2_side, .ref a2_stands, .ref a2_mastPeg]))] H := hP
        have hD : va_D A [(a7, .inr (7, [.ref a6, .ref a2, .ref a5, .ref a4, .ref a0, .ref a1, .ref a3])), (a6, .inr (6, [.int v6_end, .int v6_bends, .ref a6_from, .ref a6_to, .ref a6_curve])), (a6_from, .inl (cI, 8, .inl f6_from)), (a6_to, .inl (cI, 8, .inl f6_to)), (a6_curve, .inl (cI, 8, .inl f6_curve)), (a2, .inr (2, [.int v2_count, .int v2_masts, .ref a2_place, .ref a2_price, .ref a2_trackAside, .ref a2_side, .ref a2_stands, .ref a2_mastPeg]))] := hD
        refine lv_if_ne (tgt := 34) hx hb dX7_bend_28 (by decide) (fun c5 => ?_) (fun c5 => ?_)
        · replace hw := hw.2 (c5)
          refine lv_aload_n hx hb dX7_bend_34 rfl (lv_at hl 0 rfl) ?_
          refine va_get (D := (dC, dI)) (ci := 7) (v := .ref a2) (C := RX7) (T := TX7) (N := 7) hx hb hts inX7_bend_X7 hown hK hP 0 rfl rfl 1 (by decide) lk3 (fun _ h9 => h9) rfl dX7_bend_35 ?_
          refine va_get (D := (dC, dI)) (ci := 2) (v := .int v2_count) (C := RX2) (T := TX2) (N := 8) hx hb hts inX7_bend_X2 hown hK hP 5 rfl rfl 0 (by decide) lk4 (fun _ h9 => h9) rfl dX7_bend_38 ?_
          refine lv_if_le (tgt := 47) hx hb dX7_bend_41 (by decide) (fun c6 => ?_) (fun c6 => ?_)
          · replace hw := hw.1 (c6)
            refine lv_aload_n hx hb dX7_bend_47 rfl (lv_at hl 0 rfl) ?_
            refine va_get (D := (dC, dI)) (ci := 7) (v := .ref a6) (C := RX7) (T := TX7) (N := 7) hx hb hts inX7_bend_X7 hown hK hP 0 rfl rfl 0 (by decide) lk1 (fun _ h9 => h9) rfl dX7_bend_48 ?_
            refine va_get (D := (dC, dI)) (ci := 6) (v := .int v6_bends) (C := RX6) (T := TX6) (N := 5) hx hb hts inX7_bend_X6 hown hK hP 1 rfl rfl 1 (by decide) lk5 (fun _ h9 => h9) rfl dX7_bend_51 ?_
            refine lv_bipush (v := (8 : Int32)) hx hb dX7_bend_54 (by decide) ?_
            refine lv_icmp_lt (tgt := 62) hx hb dX7_bend_56 (by decide) (fun c7 => ?_) (fun c7 => ?_)
            · replace hw := hw.1 (c7)
              refine lv_aload_n hx hb dX7_bend_62 rfl (lv_at hl 0 rfl) ?_
              refine va_get (D := (dC, dI)) (ci := 7) (v := .ref a6) (C := RX7) (T := TX7) (N := 7) hx hb hts inX7_bend_X7 hown hK hP 0 rfl rfl 0 (by decide) lk1 (fun _ h9 => h9) rfl dX7_bend_63 ?_
              refine lv_iload_n hx hb dX7_bend_66 rfl (lv_at hl 1 rfl) ?_
              refine lv_iload_n hx hb dX7_bend_67 rfl (lv_at hl 2 rfl) ?_
              have hPc := hP.sub (ws' := [(a6, .inr (6, [.int v6_end, .int v6_bends, .ref a6_from, .ref a6_to, .ref a6_curve])), (a6_from, .inl (cI, 8, .inl f6_from)), (a6_to, .inl (cI, 8, .inl f6_to))]) [1, 2, 3] rfl
              have hDc := hD.sub (ws' := [(a6, .inr (6, [.int v6_end, .int v6_bends, .ref a6_from, .ref a6_to, .ref a6_curve])), (a6_from, .inl (cI, 8, .inl f6_from)), (a6_to, .inl (cI, 8, .inl f6_to))]) [1, 2, 3] (by decide) rfl
              have hFc := va_free (wc := [(a6, .inr (6, [.int v6_end, .int v6_bends, .ref a6_from, .ref a6_to, .ref a6_curve])), (a6_from, .inl (cI, 8, .inl f6_from)), (a6_to, .inl (cI, 8, .inl f6_to))]) hD hS hA [1, 2, 3] rfl
              refine va_calli (va_runV (As := [.int p1, .int p2]) (rest := []) ⟨hx, hb, hml, hown, hts⟩ (c_X6_isBentWithin l dC dI cI cJ cZ a6 a6_from a6_to a6_curve H.size v6_end v6_bends f6_from f6_to p1 p2 _ hw) (cwV 2 hts gX7_bend_X6_isBentWithin rfl rfl rfl (by decide +kernel) ⟨Nat.le_of_ble_eq_true rfl, Nat.le_of_ble_eq_true rfl⟩) ⟨fun a U g mk q => by obtain ⟨q0, q1, qP, qK, qD⟩ := q; exact ⟨q0, q1, qP, va_K.moved (u := U) (U := U.calling g mk a) (Vm.Alike.refl U.vm) qK, qD⟩, va_recv hK hP (ci := 6) (q0 := 1) rfl rfl, fun U hU hW => ⟨rfl, by rw [hU], by rw [hU]; exact hPc, va_K.moved hW.alike hK, hDc.weaken (fun _ _ _ _ => trivial)⟩⟩ rfl rfl hl.1 rfl (lv_room (Nat.le_of_ble_eq_true rfl)) dX7_bend_68 ⟨(Nat.zero_le _), (Nat.zero_le _)⟩) hS (fun q _ h => hFc q h) hFc (fun r8 u t H1 locs ht hvm hw hB hz1 hk1 hS => ?_)
              obtain ⟨hP1, -, hD1⟩ := hB
              try dsimp only at hw
              rw [ht] at hP1
              obtain ⟨hP, hD⟩ := va_join (wr := [(a7, .inr (7, [.ref a6, .ref a2, .ref a5, .ref a4, .ref a0, .ref a1, .ref a3])), (a6_curve, .inl (cI, 8, .inl f6_curve)), (a2, .inr (2, [.int v2_count, .int v2_masts, .ref a2_place, .ref a2_price, .ref a2_trackAside, .ref a2_side, .ref a2_stands, .ref a2_mastPeg]))]) (w1 := [(a6, .inr (6, [.int v6_end, .int v6_bends, .ref a6_from, .ref a6_to, .ref a6_curve])), (a6_from, .inl (cI, 8, .inl f6_from)), (a6_to, .inl (cI, 8, .inl f6_to))]) hP hD [1, 2, 3] [0, 4, 5] rfl rfl (by decide) (by decide) hk1 hFc hP1 hD1
              generalize H1 = H at hP hS ⊢
              have hP : va_P (dC, dI) vwCl [(a7, .inr (7, [.ref a6, .ref a2, .ref a5, .ref a4, .ref a0, .ref a1, .ref a3])), (a6_curve, .inl (cI, 8, .inl f6_curve)), (a2, .inr (2, [.int v2_count, .int v2_masts, .ref a2_place, .ref a2_price, .ref a2_trackAside, .ref a2_side, .ref a2_stands, .ref a2_mastPeg])), (a6, .inr (6, [.int v6_end, .int v6_bends, .ref a6_from, .ref a6_to, .ref a6_curve])), (a6_from, .inl (cI, 8, .inl f6_from)), (a6_to, .inl (cI, 8, .inl f6_to))] H := hP
              have hD : va_D A [(a7, .inr (7, [.ref a6, .ref a2, .ref a5, .ref a4, .ref a0, .ref a1, .ref a3])), (a6_curve, .inl (cI, 8, .inl f6_curve)), (a2, .inr (2, [.int v2_count, .int v2_masts, .ref a2_place, .ref a2_price, .ref a2_trackAside, .ref a2_side, .ref a2_stands, .ref a2_mastPeg])), (a6, .inr (6, [.int v6_end, .int v6_bends, .ref a6_from, .ref a6_to, .ref a6_curve])), (a6_from, .inl (cI, 8, .inl f6_from)), (a6_to, .inl (cI, 8, .inl f6_to))] := hD
              refine lv_if_eq (tgt := 77) hx hb dX7_bend_71 (by decide) (fun c9 => ?_) (fun c9 => ?_)
              · replace hw := hw.1 (c9)
                refine lv_aload_n hx hb dX7_bend_77 rfl (lv_at hl 0 rfl) ?_
                refine va_get (D := (dC, dI)) (ci := 7) (v := .ref a6) (C := RX7) (T := TX7) (N := 7) hx hb hts inX7_bend_X7 hown hK hP 0 rfl rfl 0 (by decide) lk1 (fun _ h9 => h9) rfl dX7_bend_78 ?_
                refine lv_iload_n hx hb dX7_bend_81 rfl (lv_at hl 1 rfl) ?_
                refine lv_iload_n hx hb dX7_bend_82 rfl (lv_at hl 2 rfl) ?_
                refine lv_iload_n hx hb dX7_bend_83 rfl (lv_at hl 3 rfl) ?_
                have hPc := hP.sub (ws' := [(a6, .inr (6, [.int v6_end, .int v6_bends, .ref a6_from, .ref a6_to, .ref a6_curve])), (a6_from, .inl (cI, 8, .inl f6_from)), (a6_to, .inl (cI, 8, .inl f6_to)), (a6_curve, .inl (cI, 8, .inl f6_curve))]) [3, 4, 5, 1] rfl
                have hDc := hD.sub (ws' := [(a6, .inr (6, [.int v6_end, .int v6_bends, .ref a6_from, .ref a6_to, .ref a6_curve])), (a6_from, .inl (cI, 8, .inl f6_from)), (a6_to, .inl (cI, 8, .inl f6_to)), (a6_curve, .inl (cI, 8, .inl f6_curve))]) [3, 4, 5, 1] (by decide) rfl
                have hFc := va_free (wc := [(a6, .inr (6, [.int v6_end, .int v6_bends, .ref a6_from, .ref a6_to, .ref a6_curve])), (a6_from, .inl (cI, 8, .inl f6_from)), (a6_to, .inl (cI, 8, .inl f6_to)), (a6_curve, .inl (cI, 8, .inl f6_curve))]) hD hS hA [3, 4, 5, 1] rfl
                refine va_callv (va_runV (As := [.int p1, .int p2, .int p3]) (rest := []) ⟨hx, hb, hml, hown, hts⟩ (c_X6_insert l dC dI cI cJ cZ a6 a6_from a6_to a6_curve H.size v6_end v6_bends f6_from f6_to f6_curve p1 p2 p3 _ hw) (cwV 3 hts gX7_bend_X6_insert rfl rfl rfl (by decide +kernel) ⟨Nat.le_of_ble_eq_true rfl, Nat.le_of_ble_eq_true rfl⟩) ⟨fun a U g mk q => by obtain ⟨q0, q1, qP, qK, qD⟩ := q; exact ⟨q0, q1, qP, va_K.moved (u := U) (U := U.calling g mk a) (Vm.Alike.refl U.vm) qK, qD⟩, va_recv hK hP (ci := 6) (q0 := 3) rfl rfl, fun U hU hW => ⟨rfl, by rw [hU], by rw [hU]; exact hPc, va_K.moved hW.alike hK, hDc.weaken (fun _ _ _ _ => trivial)⟩⟩ rfl rfl hl.1 rfl (lv_room (Nat.le_of_ble_eq_true rfl)) dX7_bend_84 ⟨(Nat.zero_le _), (Nat.zero_le _)⟩) hS (fun q _ h => hFc q h) hFc (fun u t H1 locs ht hvm hw hB hz1 hk1 hS => ?_)
                obtain ⟨m11, m12, m13, m14⟩ := u
                obtain ⟨hP1, -, hD1⟩ := hB
                try dsimp only at hw
                rw [ht] at hP1
                obtain ⟨hP, hD⟩ := va_join (wr := [(a7, .inr (7, [.ref a6, .ref a2, .ref a5, .ref a4, .ref a0, .ref a1, .ref a3])), (a2, .inr (2, [.int v2_count, .int v2_masts, .ref a2_place, .ref a2_price, .ref a2_trackAside, .ref a2_side, .ref a2_stands, .ref a2_mastPeg]))]) (w1 := [(a6, .inr (6, [.int v6_end, .int m11, .ref a6_from, .ref a6_to, .ref a6_curve])), (a6_from, .inl (cI, 8, .inl m12)), (a6_to, .inl (cI, 8, .inl m13)), (a6_curve, .inl (cI, 8, .inl m14))]) hP hD [3, 4, 5, 1] [0, 2] rfl rfl (by decide) (by decide) hk1 hFc hP1 hD1
                generalize H1 = H at hP hS ⊢
                have hP : va_P (dC, dI) vwCl [(a7, .inr (7, [.ref a6, .ref a2, .ref a5, .ref a4, .ref a0, .ref a1, .ref a3])), (a2, .inr (2, [.int v2_count, .int v2_masts, .ref a2_place, .ref a2_price, .ref a2_trackAside, .ref a2_side, .ref a2_stands, .ref a2_mastPeg])), (a6, .inr (6, [.int v6_end, .int m11, .ref a6_from, .ref a6_to, .ref a6_curve])), (a6_from, .inl (cI, 8, .inl m12)), (a6_to, .inl (cI, 8, .inl m13)), (a6_curve, .inl (cI, 8, .inl m14))] H := hP
                have hD : va_D A [(a7, .inr (7, [.ref a6, .ref a2, .ref a5, .ref a4, .ref a0, .ref a1, .ref a3])), (a2, .inr (2, [.int v2_count, .int v2_masts, .ref a2_place, .ref a2_price, .ref a2_trackAside, .ref a2_side, .ref a2_stands, .ref a2_mastPeg])), (a6, .inr (6, [.int v6_end, .int m11, .ref a6_from, .ref a6_to, .ref a6_curve])), (a6_from, .inl (cI, 8, .inl m12)), (a6_to, .inl (cI, 8, .inl m13)), (a6_curve, .inl (cI, 8, .inl m14))] := hD
                refine lv_aload_n hx hb dX7_bend_87 rfl (lv_at hl 0 rfl) ?_
                refine va_get (D := (dC, dI)) (ci := 7) (v := .ref a6) (C := RX7) (T := TX7) (N := 7) hx hb hts inX7_bend_X7 hown hK hP 0 rfl rfl 0 (by decide) lk1 (fun _ h9 => h9) rfl dX7_bend_88 ?_
                refine va_get (D := (dC, dI)) (ci := 6) (v := .int m11) (C := RX6) (T := TX6) (N := 5) hx hb hts inX7_bend_X6 hown hK hP 2 rfl rfl 1 (by decide) lk5 (fun _ h9 => h9) rfl dX7_bend_91 ?_
                have hP9 := hP.sub (ws' := [(a7, .inr (7, [.ref a6, .ref a2, .ref a5, .ref a4, .ref a0, .ref a1, .ref a3])), (a6, .inr (6, [.int v6_end, .int m11, .ref a6_from, .ref a6_to, .ref a6_curve])), (a6_from, .inl (cI, 8, .inl m12)), (a6_to, .inl (cI, 8, .inl m13)), (a6_curve, .inl (cI, 8, .inl m14)), (a2, .inr (2, [.int v2_count, .int v2_masts, .ref a2_place, .ref a2_price, .ref a2_trackAside, .ref a2_side, .ref a2_stands, .ref a2_mastPeg]))]) [0, 2, 3, 4, 5, 1] rfl
                have hD9 := hD.sub (ws' := [(a7, .inr (7, [.ref a6, .ref a2, .ref a5, .ref a4, .ref a0, .ref a1, .ref a3])), (a6, .inr (6, [.int v6_end, .int m11, .ref a6_from, .ref a6_to, .ref a6_curve])), (a6_from, .inl (cI, 8, .inl m12)), (a6_to, .inl (cI, 8, .inl m13)), (a6_curve, .inl (cI, 8, .inl m14)), (a2, .inr (2, [.int v2_count, .int v2_masts, .ref a2_place, .ref a2_price, .ref a2_trackAside, .ref a2_side, .ref a2_stands, .ref a2_mastPeg]))]) [0, 2, 3, 4, 5, 1] (by decide) rfl
                exact W.iret (v := m11) hx hb hr (fun t ht hW => ⟨⟨m11, (m11, m12, m13, m14), rfl, hw, by rw [ht]; exact hP9, va_K.moved hW.alike hK, hD9⟩, hS.F ht⟩) hS.2.2 dX7_bend_94
              · replace hw := hw.2 (c9)
                refine lv_bipush (v := (-5 : Int32)) hx hb dX7_bend_74 (by decide) ?_
                have hP9 := hP.sub (ws' := [(a7, .inr (7, [.ref a6, .ref a2, .ref a5, .ref a4, .ref a0, .ref a1, .ref a3])), (a6, .inr (6, [.int v6_end, .int v6_bends, .ref a6_from, .ref a6_to, .ref a6_curve])), (a6_from, .inl (cI, 8, .inl f6_from)), (a6_to, .inl (cI, 8, .inl f6_to)), (a6_curve, .inl (cI, 8, .inl f6_curve)), (a2, .inr (2, [.int v2_count, .int v2_masts, .ref a2_place, .ref a2_price, .ref a2_trackAside, .ref a2_side, .ref a2_stands, .ref a2_mastPeg]))]) [0, 3, 4, 5, 1, 2] rfl
                have hD9 := hD.sub (ws' := [(a7, .inr (7, [.ref a6, .ref a2, .ref a5, .ref a4, .ref a0, .ref a1, .ref a3])), (a6, .inr (6, [.int v6_end, .int v6_bends, .ref a6_from, .ref a6_to, .ref a6_curve])), (a6_from, .inl (cI, 8, .inl f6_from)), (a6_to, .inl (cI, 8, .inl f6_to)), (a6_curve, .inl (cI, 8, .inl f6_curve)), (a2, .inr (2, [.int v2_count, .int v2_masts, .ref a2_place, .ref a2_price, .ref a2_trackAside, .ref a2_side, .ref a2_stands, .ref a2_mastPeg]))]) [0, 3, 4, 5, 1, 2] (by decide) rfl
                exact W.iret (v := (-5 : Int32)) hx hb hr (fun t ht hW => ⟨⟨(-5 : Int32), (v6_bends, f6_from, f6_to, f6_curve), rfl, hw, by rw [ht]; exact hP9, va_K.moved hW.alike hK, hD9⟩, hS.F ht⟩) hS.2.2 dX7_bend_76
            · replace hw := hw.2 (c7)
              refine lv_bipush (v := (-4 : Int32)) hx hb dX7_bend_59 (by decide) ?_
              have hP9 := hP.sub (ws' := [(a7, .inr (7, [.ref a6, .ref a2, .ref a5, .ref a4, .ref a0, .ref a1, .ref a3])), (a6, .inr (6, [.int v6_end, .int v6_bends, .ref a6_from, .ref a6_to, .ref a6_curve])), (a6_from, .inl (cI, 8, .inl f6_from)), (a6_to, .inl (cI, 8, .inl f6_to)), (a6_curve, .inl (cI, 8, .inl f6_curve)), (a2, .inr (2, [.int v2_count, .int v2_masts, .ref a2_place, .ref a2_price, .ref a2_trackAside, .ref a2_side, .ref a2_stands, .ref a2_mastPeg]))]) [0, 1, 2, 3, 4, 5] rfl
              have hD9 := hD.sub (ws' := [(a7, .inr (7, [.ref a6, .ref a2, .ref a5, .ref a4, .ref a0, .ref a1, .ref a3])), (a6, .inr (6, [.int v6_end, .int v6_bends, .ref a6_from, .ref a6_to, .ref a6_curve])), (a6_from, .inl (cI, 8, .inl f6_from)), (a6_to, .inl (cI, 8, .inl f6_to)), (a6_curve, .inl (cI, 8, .inl f6_curve)), (a2, .inr (2, [.int v2_count, .int v2_masts, .ref a2_place, .ref a2_price, .ref a2_trackAside, .ref a2_side, .ref a2_stands, .ref a2_mastPeg]))]) [0, 1, 2, 3, 4, 5] (by decide) rfl
              exact W.iret (v := (-4 : Int32)) hx hb hr (fun t ht hW => ⟨⟨(-4 : Int32), (v6_bends, f6_from, f6_to, f6_curve), rfl, hw, by rw [ht]; exact hP9, va_K.moved hW.alike hK, hD9⟩, hS.F ht⟩) hS.2.2 dX7_bend_61
          · replace hw := hw.2 (c6)
            refine lv_bipush (v := (-3 : Int32)) hx hb dX7_bend_44 (by decide) ?_
            have hP9 := hP.sub (ws' := [(a7, .inr (7, [.ref a6, .ref a2, .ref a5, .ref a4, .ref a0, .ref a1, .ref a3])), (a6, .inr (6, [.int v6_end, .int v6_bends, .ref a6_from, .ref a6_to, .ref a6_curve])), (a6_from, .inl (cI, 8, .inl f6_from)), (a6_to, .inl (cI, 8, .inl f6_to)), (a6_curve, .inl (cI, 8, .inl f6_curve)), (a2, .inr (2, [.int v2_count, .int v2_masts, .ref a2_place, .ref a2_price, .ref a2_trackAside, .ref a2_side, .ref a2_stands, .ref a2_mastPeg]))]) [0, 1, 2, 3, 4, 5] rfl
            have hD9 := hD.sub (ws' := [(a7, .inr (7, [.ref a6, .ref a2, .ref a5, .ref a4, .ref a0, .ref a1, .ref a3])), (a6, .inr (6, [.int v6_end, .int v6_bends, .ref a6_from, .ref a6_to, .ref a6_curve])), (a6_from, .inl (cI, 8, .inl f6_from)), (a6_to, .inl (cI, 8, .inl f6_to)), (a6_curve, .inl (cI, 8, .inl f6_curve)), (a2, .inr (2, [.int v2_count, .int v2_masts, .ref a2_place, .ref a2_price, .ref a2_trackAside, .ref a2_side, .ref a2_stands, .ref a2_mastPeg]))]) [0, 1, 2, 3, 4, 5] (by decide) rfl
            exact W.iret (v := (-3 : Int32)) hx hb hr (fun t ht hW => ⟨⟨(-3 : Int32), (v6_bends, f6_from, f6_to, f6_curve), rfl, hw, by rw [ht]; exact hP9, va_K.moved hW.alike hK, hD9⟩, hS.F ht⟩) hS.2.2 dX7_bend_46
        · replace hw := hw.1 (c5)
          refine lv_bipush (v := (-2 : Int32)) hx hb dX7_bend_31 (by decide) ?_
          have hP9 := hP.sub (ws' := [(a7, .inr (7, [.ref a6, .ref a2, .ref a5, .ref a4, .ref a0, .ref a1, .ref a3])), (a6, .inr (6, [.int v6_end, .int v6_bends, .ref a6_from, .ref a6_to, .ref a6_curve])), (a6_from, .inl (cI, 8, .inl f6_from)), (a6_to, .inl (cI, 8, .inl f6_to)), (a6_curve, .inl (cI, 8, .inl f6_curve)), (a2, .inr (2, [.int v2_count, .int v2_masts, .ref a2_place, .ref a2_price, .ref a2_trackAside, .ref a2_side, .ref a2_stands, .ref a2_mastPeg]))]) [0, 1, 2, 3, 4, 5] rfl
          have hD9 := hD.sub (ws' := [(a7, .inr (7, [.ref a6, .ref a2, .ref a5, .ref a4, .ref a0, .ref a1, .ref a3])), (a6, .inr (6, [.int v6_end, .int v6_bends, .ref a6_from, .ref a6_to, .ref a6_curve])), (a6_from, .inl (cI, 8, .inl f6_from)), (a6_to, .inl (cI, 8, .inl f6_to)), (a6_curve, .inl (cI, 8, .inl f6_curve)), (a2, .inr (2, [.int v2_count, .int v2_masts, .ref a2_place, .ref a2_price, .ref a2_trackAside, .ref a2_side, .ref a2_stands, .ref a2_mastPeg]))]) [0, 1, 2, 3, 4, 5] (by decide) rfl
          exact W.iret (v := (-2 : Int32)) hx hb hr (fun t ht hW => ⟨⟨(-2 : Int32), (v6_bends, f6_from, f6_to, f6_curve), rfl, hw, by rw [ht]; exact hP9, va_K.moved hW.alike hK, hD9⟩, hS.F ht⟩) hS.2.2 dX7_bend_33

theorem inX7_aside_X7 : ∀ w ∈ wsX70, w ∈ wsX7_aside := fun _ h => List.mem_cons_of_mem _ (List.mem_append_left _ (List.mem_append_right _ h))
theorem inX7_aside_X6 : ∀ w ∈ wsX60, w ∈ wsX7_aside := fun _ h => List.mem_cons_of_mem _ (List.mem_append_right _ h)
def wp_X7_aside (Q : Int64 → Prop) (v6_end : Int32) (v6_bends : Int32) (f6_from : Nat → Int32) (f6_to : Nat → Int32) (f6_curve : Nat → Int32) (p1 : Int32) : Prop :=
  (wp_X6_has (fun r1 => ((r1 = 0 → (Q (-1000000000000001 : Int64) )) ∧ (¬ r1 = 0 → (wp_X6_asideOf (fun r3 => (Q r3 )) v6_bends f6_from f6_to f6_curve p1)))) v6_end p1)
set_option maxHeartbeats 4000000 in
set_option maxRecDepth 100000 in
theorem c_X7_aside (l : Launch) (dC : Nat → ClassId) (dI : Nat → Nat → Nat) (cI cJ cZ : ClassId) (a7 : Nat) (a6 : Nat) (a6_from : Nat) (a6_to : Nat) (a6_curve : Nat) (a2 : Nat) (a5 : Nat) (a4 : Nat) (a0 : Nat) (a1 : Nat) (a3 : Nat) (sz : Nat) (v6_end : Int32) (v6_bends : Int32) (f6_from : Nat → Int32) (f6_to : Nat → Int32) (f6_curve : Nat → Int32) (p1 : Int32) (Q : Int64 → Prop) (hw : wp_X7_aside Q v6_end v6_bends f6_from f6_to f6_curve p1) : Met l yX7_aside wsX7_aside ({ frames := 1, cells := 0, slots := 0, locals := 28 } : Room) (va_Pc [.ref a7, .int p1] (fun U => U.heap.size = sz ∧ va_P (dC, dI) vwCl [(a7, .inr (7, [.ref a6, .ref a2, .ref a5, .ref a4, .ref a0, .ref a1, .ref a3])), (a6, .inr (6, [.int v6_end, .int v6_bends, .ref a6_from, .ref a6_to, .ref a6_curve])), (a6_from, .inl (cI, 8, .inl f6_from)), (a6_to, .inl (cI, 8, .inl f6_to)), (a6_curve, .inl (cI, 8, .inl f6_curve))] U.heap ∧ va_K (dC, dI) vwCl [(cI, .int), (cJ, .long), (cZ, .boolean)] U ∧ va_D (fun _ => True) [(a7, .inr (7, [.ref a6, .ref a2, .ref a5, .ref a4, .ref a0, .ref a1, .ref a3])), (a6, .inr (6, [.int v6_end, .int v6_bends, .ref a6_from, .ref a6_to, .ref a6_curve])), (a6_from, .inl (cI, 8, .inl f6_from)), (a6_to, .inl (cI, 8, .inl f6_to)), (a6_curve, .inl (cI, 8, .inl f6_curve))])) (va_Ql (fun r (u : Unit) => Q r) (fun (u : Unit) t => va_P (dC, dI) vwCl [(a7, .inr (7, [.ref a6, .ref a2, .ref a5, .ref a4, .ref a0, .ref a1, .ref a3])), (a6, .inr (6, [.int v6_end, .int v6_bends, .ref a6_from, .ref a6_to, .ref a6_curve])), (a6_from, .inl (cI, 8, .inl f6_from)), (a6_to, .inl (cI, 8, .inl f6_to)), (a6_curve, .inl (cI, 8, .inl f6_curve))] t.heap ∧ va_K (dC, dI) vwCl [(cI, .int), (cJ, .long), (cZ, .boolean)] t ∧ va_D (va_A [(a7, .inr (7, [.ref a6, .ref a2, .ref a5, .ref a4, .ref a0, .ref a1, .ref a3])), (a6, .inr (6, [.int v6_end, .int v6_bends, .ref a6_from, .ref a6_to, .ref a6_curve])), (a6_from, .inl (cI, 8, .inl f6_from)), (a6_to, .inl (cI, 8, .inl f6_to)), (a6_curve, .inl (cI, 8, .inl f6_curve))] sz) [(a7, .inr (7, [.ref a6, .ref a2, .ref a5, .ref a4, .ref a0, .ref a1, .ref a3])), (a6, .inr (6, [.int v6_end, .int v6_bends, .ref a6_from, .ref a6_to, .ref a6_curve])), (a6_from, .inl (cI, 8, .inl f6_from)), (a6_to, .inl (cI, 8, .inl f6_to)), (a6_curve, .inl (cI, 8, .inl f6_curve))]) (va_A [(a7, .inr (7, [.ref a6, .ref a2, .ref a5, .ref a4, .ref a0, .ref a1, .ref a3])), (a6, .inr (6, [.int v6_end, .int v6_bends, .ref a6_from, .ref a6_to, .ref a6_curve])), (a6_from, .inl (cI, 8, .inl f6_from)), (a6_to, .inl (cI, 8, .inl f6_to)), (a6_curve, .inl (cI, 8, .inl f6_curve))] sz)) 0 0 (va_A [(a7, .inr (7, [.ref a6, .ref a2, .ref a5, .ref a4, .ref a0, .ref a1, .ref a3])), (a6, .inr (6, [.int v6_end, .int v6_bends, .ref a6_from, .ref a6_to, .ref a6_curve])), (a6_from, .inl (cI, 8, .inl f6_from)), (a6_to, .inl (cI, 8, .inl f6_to)), (a6_curve, .inl (cI, 8, .inl f6_curve))] sz) := by
  refine Met.ofW (cc := cX7_aside) (maxL := 2) (ret := (some .long)) (by decide) rfl ?_
  intro p e s m args below meth c s₁ B hml hv
  obtain ⟨rfl, hsz, hP, hK, hD0⟩ := hv
  have hx := B.exec
  have hb := B.bytes
  have hr := B.returns
  have hts := atoms_spec (ws := wsX7_aside) B.pre
  have hown : s.vm.findClass RX7 = some m.cls := findClass_of_methodNamed B.named
  have hlocks := B.notSynchronized
  subst hsz
  have hD := hD0.self (sz := s.heap.size)
  generalize hAe : va_A [(a7, .inr (7, [.ref a6, .ref a2, .ref a5, .ref a4, .ref a0, .ref a1, .ref a3])), (a6, .inr (6, [.int v6_end, .int v6_bends, .ref a6_from, .ref a6_to, .ref a6_curve])), (a6_from, .inl (cI, 8, .inl f6_from)), (a6_to, .inl (cI, 8, .inl f6_to)), (a6_curve, .inl (cI, 8, .inl f6_curve))] s.heap.size = A at hD ⊢
  have hA : ∀ q : Nat, s.heap.size ≤ q → A q := fun q h => by rw [← hAe]; exact Or.inr h
  have hS : va_S A s.heap s.heap [] := va_S.rf
  have hP : va_P (dC, dI) vwCl [(a7, .inr (7, [.ref a6, .ref a2, .ref a5, .ref a4, .ref a0, .ref a1, .ref a3])), (a6, .inr (6, [.int v6_end, .int v6_bends, .ref a6_from, .ref a6_to, .ref a6_curve])), (a6_from, .inl (cI, 8, .inl f6_from)), (a6_to, .inl (cI, 8, .inl f6_to)), (a6_curve, .inl (cI, 8, .inl f6_curve))] s.heap := hP
  have lk1 := hts (.fieldLink RX7 10 "WireRow" "track" "LWireRow$Track;") (by decide +kernel)
  have lk2 := hts (.constantLong RX7 92 (-1000000000000001)) (by decide +kernel)
  have hl := lv_entry ([.ref a7, .int p1]) (n := 2) (Nat.le_of_ble_eq_true rfl)
  rw [lg_entry_eq]
  generalize (lg_sl ([.ref a7, .int p1]) ++ List.replicate (2 - (lg_sl ([.ref a7, .int p1])).length) Slot.unset).toArray = ls at hl ⊢
  have hl : lv_has ls 2 [(0, .ref a7), (1, .int p1)] := hl
  obtain ⟨H, hHe⟩ : ∃ H, H = s.heap := ⟨_, rfl⟩
  rw [← hHe] at hP
  have hS : va_S A s.heap H [] := by rw [hHe]; exact hS
  rw [← hHe]
  unfold wp_X7_aside at hw
  refine lv_aload_n hx hb dX7_aside_0 rfl (lv_at hl 0 rfl) ?_
  refine va_get (D := (dC, dI)) (ci := 7) (v := .ref a6) (C := RX7) (T := TX7) (N := 7) hx hb hts inX7_aside_X7 hown hK hP 0 rfl rfl 0 (by decide) lk1 (fun _ h9 => h9) rfl dX7_aside_1 ?_
  refine lv_iload_n hx hb dX7_aside_4 rfl (lv_at hl 1 rfl) ?_
  have hPc := hP.sub (ws' := [(a6, .inr (6, [.int v6_end, .int v6_bends, .ref a6_from, .ref a6_to, .ref a6_curve]))]) [1] rfl
  have hDc := hD.sub (ws' := [(a6, .inr (6, [.int v6_end, .int v6_bends, .ref a6_from, .ref a6_to, .ref a6_curve]))]) [1] (by decide) rfl
  have hFc := va_free (wc := [(a6, .inr (6, [.int v6_end, .int v6_bends, .ref a6_from, .ref a6_to, .ref a6_curve]))]) hD hS hA [1] rfl
  refine va_calli (va_runV (As := [.int p1]) (rest := []) ⟨hx, hb, hml, hown, hts⟩ (c_X6_has l dC dI cI cJ cZ a6 a6_from a6_to a6_curve H.size v6_end v6_bends p1 _ hw) (cwV 1 hts gX7_aside_X6_has rfl rfl rfl (by decide +kernel) ⟨Nat.le_of_ble_eq_true rfl, Nat.le_of_ble_eq_true rfl⟩) ⟨fun a U g mk q => by obtain ⟨q0, q1, qP, qK, qD⟩ := q; exact ⟨q0, q1, qP, va_K.moved (u := U) (U := U.calling g mk a) (Vm.Alike.refl U.vm) qK, qD⟩, va_recv hK hP (ci := 6) (q0 := 1) rfl rfl, fun U hU hW => ⟨rfl, by rw [hU], by rw [hU]; exact hPc, va_K.moved hW.alike hK, hDc.weaken (fun _ _ _ _ => trivial)⟩⟩ rfl rfl hl.1 rfl (lv_room (Nat.le_of_ble_eq_true rfl)) dX7_aside_5 ⟨(Nat.zero_le _), (Nat.zero_le _)⟩) hS (fun q _ h => hFc q h) hFc (fun r1 u t H1 locs ht hvm hw hB hz1 hk1 hS => ?_)
  obtain ⟨hP1, -, hD1⟩ := hB
  try dsimp only at hw
  rw [ht] at hP1
  obtain ⟨hP, hD⟩ := va_join (wr := [(a7, .inr (7, [.ref a6, .ref a2, .ref a5, .ref a4, .ref a0, .ref a1, .ref a3])), (a6_from, .inl (cI, 8, .inl f6_from)), (a6_to, .inl (cI, 8, .inl f6_to)), (a6_curve, .inl (cI, 8, .inl f6_curve))]) (w1 := [(a6, .inr (6, [.int v6_end, .int v6_bends, .ref a6_from, .ref a6_to, .ref a6_curve]))]) hP hD [1] [0, 2, 3, 4] rfl rfl (by decide) (by decide) hk1 hFc hP1 hD1
  generalize H1 = H at hP hS ⊢
  have hP : va_P (dC, dI) vwCl [(a7, .inr (7, [.ref a6, .ref a2, .ref a5, .ref a4, .ref a0, .ref a1, .ref a3])), (a6_from, .inl (cI, 8, .inl f6_from)), (a6_to, .inl (cI, 8, .inl f6_to)), (a6_curve, .inl (cI, 8, .inl f6_curve)), (a6, .inr (6, [.int v6_end, .int v6_bends, .ref a6_from, .ref a6_to, .ref a6_curve]))] H := hP
  have hD : va_D A [(a7, .inr (7, [.ref a6, .ref a2, .ref a5, .ref a4, .ref a0, .ref a1, .ref a3])), (a6_from, .inl (cI, 8, .inl f6_from)), (a6_to, .inl (cI, 8, .inl f6_to)), (a6_curve, .inl (cI, 8, .inl f6_curve)), (a6, .inr (6, [.int v6_end, .int v6_bends, .ref a6_from, .ref a6_to, .ref a6_curve]))] := hD
  refine lv_if_eq (tgt := 22) hx hb dX7_aside_8 (by decide) (fun c2 => ?_) (fun c2 => ?_)
  · replace hw := hw.1 (c2)
    refine lv_ldc2 (v := (-1000000000000001 : Int64)) hx hb hown lk2 dX7_aside_22 ?_
    have hP9 := hP.sub (ws' := [(a7, .inr (7, [.ref a6, .ref a2, .ref a5, .ref a4, .ref a0, .ref a1, .ref a3])), (a6, .inr (6, [.int v6_end, .int v6_bends, .ref a6_from, .ref a6_to, .ref a6_curve])), (a6_from, .inl (cI, 8, .inl f6_from)), (a6_to, .inl (cI, 8, .inl f6_to)), (a6_curve, .inl (cI, 8, .inl f6_curve))]) [0, 4, 1, 2, 3] rfl
    have hD9 := hD.sub (ws' := [(a7, .inr (7, [.ref a6, .ref a2, .ref a5, .ref a4, .ref a0, .ref a1, .ref a3])), (a6, .inr (6, [.int v6_end, .int v6_bends, .ref a6_from, .ref a6_to, .ref a6_curve])), (a6_from, .inl (cI, 8, .inl f6_from)), (a6_to, .inl (cI, 8, .inl f6_to)), (a6_curve, .inl (cI, 8, .inl f6_curve))]) [0, 4, 1, 2, 3] (by decide) rfl
    exact W.lret (v := (-1000000000000001 : Int64)) hx hb hr (fun t ht hW => ⟨⟨(-1000000000000001 : Int64), (), rfl, hw, by rw [ht]; exact hP9, va_K.moved hW.alike hK, hD9⟩, hS.F ht⟩) hS.2.2 dX7_aside_25
  · replace hw := hw.2 (c2)
    refine lv_aload_n hx hb dX7_aside_11 rfl (lv_at hl 0 rfl) ?_
    refine va_get (D := (dC, dI)) (ci := 7) (v := .ref a6) (C := RX7) (T := TX7) (N := 7) hx hb hts inX7_aside_X7 hown hK hP 0 rfl rfl 0 (by decide) lk1 (fun _ h9 => h9) rfl dX7_aside_12 ?_
    refine lv_iload_n hx hb dX7_aside_15 rfl (lv_at hl 1 rfl) ?_
    have hPc := hP.sub (ws' := [(a6, .inr (6, [.int v6_end, .int v6_bends, .ref a6_from, .ref a6_to, .ref a6_curve])), (a6_from, .inl (cI, 8, .inl f6_from)), (a6_to, .inl (cI, 8, .inl f6_to)), (a6_curve, .inl (cI, 8, .inl f6_curve))]) [4, 1, 2, 3] rfl
    have hDc := hD.sub (ws' := [(a6, .inr (6, [.int v6_end, .int v6_bends, .ref a6_from, .ref a6_to, .ref a6_curve])), (a6_from, .inl (cI, 8, .inl f6_from)), (a6_to, .inl (cI, 8, .inl f6_to)), (a6_curve, .inl (cI, 8, .inl f6_curve))]) [4, 1, 2, 3] (by decide) rfl
    have hFc := va_free (wc := [(a6, .inr (6, [.int v6_end, .int v6_bends, .ref a6_from, .ref a6_to, .ref a6_curve])), (a6_from, .inl (cI, 8, .inl f6_from)), (a6_to, .inl (cI, 8, .inl f6_to)), (a6_curve, .inl (cI, 8, .inl f6_curve))]) hD hS hA [4, 1, 2, 3] rfl
    refine va_calll (va_runV (As := [.int p1]) (rest := []) ⟨hx, hb, hml, hown, hts⟩ (c_X6_asideOf l dC dI cI cJ cZ a6 a6_from a6_to a6_curve H.size v6_end v6_bends f6_from f6_to f6_curve p1 _ hw) (cwV 1 hts gX7_aside_X6_asideOf rfl rfl rfl (by decide +kernel) ⟨Nat.le_of_ble_eq_true rfl, Nat.le_of_ble_eq_true rfl⟩) ⟨fun a U g mk q => by obtain ⟨q0, q1, qP, qK, qD⟩ := q; exact ⟨q0, q1, qP, va_K.moved (u := U) (U := U.calling g mk a) (Vm.Alike.refl U.vm) qK, qD⟩, va_recv hK hP (ci := 6) (q0 := 4) rfl rfl, fun U hU hW => ⟨rfl, by rw [hU], by rw [hU]; exact hPc, va_K.moved hW.alike hK, hDc.weaken (fun _ _ _ _ => trivial)⟩⟩ rfl rfl hl.1 rfl (lv_room (Nat.le_of_ble_eq_true rfl)) dX7_aside_16 ⟨(Nat.zero_le _), (Nat.zero_le _)⟩) hS (fun q _ h => hFc q h) hFc (fun r3 u t H1 locs ht hvm hw hB hz1 hk1 hS => ?_)
    obtain ⟨hP1, -, hD1⟩ := hB
    try dsimp only at hw
    rw [ht] at hP1
    obtain ⟨hP, hD⟩ := va_join (wr := [(a7, .inr (7, [.ref a6, .ref a2, .ref a5, .ref a4, .ref a0, .ref a1, .ref a3]))]) (w1 := [(a6, .inr (6, [.int v6_end, .int v6_bends, .ref a6_from, .ref a6_to, .ref a6_curve])), (a6_from, .inl (cI, 8, .inl f6_from)), (a6_to, .inl (cI, 8, .inl f6_to)), (a6_curve, .inl (cI, 8, .inl f6_curve))]) hP hD [4, 1, 2, 3] [0] rfl rfl (by decide) (by decide) hk1 hFc hP1 hD1
    generalize H1 = H at hP hS ⊢
    have hP : va_P (dC, dI) vwCl [(a7, .inr (7, [.ref a6, .ref a2, .ref a5, .ref a4, .ref a0, .ref a1, .ref a3])), (a6, .inr (6, [.int v6_end, .int v6_bends, .ref a6_from, .ref a6_to, .ref a6_curve])), (a6_from, .inl (cI, 8, .inl f6_from)), (a6_to, .inl (cI, 8, .inl f6_to)), (a6_curve, .inl (cI, 8, .inl f6_curve))] H := hP
    have hD : va_D A [(a7, .inr (7, [.ref a6, .ref a2, .ref a5, .ref a4, .ref a0, .ref a1, .ref a3])), (a6, .inr (6, [.int v6_end, .int v6_bends, .ref a6_from, .ref a6_to, .ref a6_curve])), (a6_from, .inl (cI, 8, .inl f6_from)), (a6_to, .inl (cI, 8, .inl f6_to)), (a6_curve, .inl (cI, 8, .inl f6_curve))] := hD
    refine lv_goto (tgt := 25) hx hb dX7_aside_19 (by decide) ?_
    have hP9 := hP.sub (ws' := [(a7, .inr (7, [.ref a6, .ref a2, .ref a5, .ref a4, .ref a0, .ref a1, .ref a3])), (a6, .inr (6, [.int v6_end, .int v6_bends, .ref a6_from, .ref a6_to, .ref a6_curve])), (a6_from, .inl (cI, 8, .inl f6_from)), (a6_to, .inl (cI, 8, .inl f6_to)), (a6_curve, .inl (cI, 8, .inl f6_curve))]) [0, 1, 2, 3, 4] rfl
    have hD9 := hD.sub (ws' := [(a7, .inr (7, [.ref a6, .ref a2, .ref a5, .ref a4, .ref a0, .ref a1, .ref a3])), (a6, .inr (6, [.int v6_end, .int v6_bends, .ref a6_from, .ref a6_to, .ref a6_curve])), (a6_from, .inl (cI, 8, .inl f6_from)), (a6_to, .inl (cI, 8, .inl f6_to)), (a6_curve, .inl (cI, 8, .inl f6_curve))]) [0, 1, 2, 3, 4] (by decide) rfl
    exact W.lret (v := r3) hx hb hr (fun t ht hW => ⟨⟨r3, (), rfl, hw, by rw [ht]; exact hP9, va_K.moved hW.alike hK, hD9⟩, hS.F ht⟩) hS.2.2 dX7_aside_25
