theorem inX2_insert_X2 : ∀ w ∈ wsX20, w ∈ wsX2_insert := fun _ h => List.mem_cons_of_mem _ (List.mem_append_right _ h)
def wb_X2_insert_20 (Q : (Int32) → (Nat → Int32) → (Nat → Int32) → (Nat → Int64) → (Nat → Int32) → (Nat → Int32) → Prop) (K20 : (Int32) → (Nat → Int32) → (Nat → Int32) → (Nat → Int64) → (Nat → Int32) → (Nat → Int32) → (Int32) → (Int32) → (Int32) → (Int64) → (Int32) → Prop) (v2_count_c20 : Int32) (f2_place_c20 : Nat → Int32) (f2_price_c20 : Nat → Int32) (f2_trackAside_c20 : Nat → Int64) (f2_side_c20 : Nat → Int32) (f2_stands_c20 : Nat → Int32) (y20_1 : Int32) (y20_2 : Int32) (y20_3 : Int32) (y20_4 : Int64) (y20_6 : Int32) : Prop :=
  ((y20_6 ≤ y20_1 → (vp_in y20_1 40 ∧ (∀ g5 : Nat → Int32, g5 = upd f2_place_c20 y20_1.toNatClampNeg y20_2 → (vp_in y20_1 40 ∧ (∀ g7 : Nat → Int32, g7 = upd f2_price_c20 y20_1.toNatClampNeg y20_3 → (vp_in y20_1 40 ∧ (∀ g9 : Nat → Int64, g9 = vp_updL f2_trackAside_c20 y20_1.toNatClampNeg y20_4 → (wp_X2_takeDown (fun m11 m12 => (∀ x13 : Int32, x13 = (v2_count_c20 + (1 : Int32)) → (Q x13 g5 g7 g9 m11 m12))) f2_side_c20 f2_stands_c20 v2_count_c20)))))))) ∧ (¬ y20_6 ≤ y20_1 → (vp_in (y20_6 - (1 : Int32)) 40 ∧ (∀ x15 : Int32, x15 = (f2_place_c20 (y20_6 - (1 : Int32)).toNatClampNeg) → (vp_in y20_6 40 ∧ (∀ g17 : Nat → Int32, g17 = upd f2_place_c20 y20_6.toNatClampNeg x15 → (vp_in (y20_6 - (1 : Int32)) 40 ∧ (∀ x19 : Int32, x19 = (f2_price_c20 (y20_6 - (1 : Int32)).toNatClampNeg) → (vp_in y20_6 40 ∧ (∀ g21 : Nat → Int32, g21 = upd f2_price_c20 y20_6.toNatClampNeg x19 → (vp_in (y20_6 - (1 : Int32)) 40 ∧ (∀ x23 : Int64, x23 = (f2_trackAside_c20 (y20_6 - (1 : Int32)).toNatClampNeg) → (vp_in y20_6 40 ∧ (∀ g25 : Nat → Int64, g25 = vp_updL f2_trackAside_c20 y20_6.toNatClampNeg x23 → (∀ x26 : Int32, x26 = y20_6 + (-1 : Int32) → (K20 v2_count_c20 g17 g21 g25 f2_side_c20 f2_stands_c20 y20_1 y20_2 y20_3 y20_4 x26))))))))))))))))
def wl_X2_insert_20 (Q : (Int32) → (Nat → Int32) → (Nat → Int32) → (Nat → Int64) → (Nat → Int32) → (Nat → Int32) → Prop) : Nat → (Int32) → (Nat → Int32) → (Nat → Int32) → (Nat → Int64) → (Nat → Int32) → (Nat → Int32) → (Int32) → (Int32) → (Int32) → (Int64) → (Int32) → Prop
  | 0, _, _, _, _, _, _, _, _, _, _, _ => False
  | n + 1, v2_count_c20, f2_place_c20, f2_price_c20, f2_trackAside_c20, f2_side_c20, f2_stands_c20, y20_1, y20_2, y20_3, y20_4, y20_6 => wb_X2_insert_20 Q  (wl_X2_insert_20 Q  n) v2_count_c20 f2_place_c20 f2_price_c20 f2_trackAside_c20 f2_side_c20 f2_stands_c20 y20_1 y20_2 y20_3 y20_4 y20_6
def wp_X2_insert (Q : (Int32) → (Nat → Int32) → (Nat → Int32) → (Nat → Int64) → (Nat → Int32) → (Nat → Int32) → Prop) (v2_count : Int32) (f2_place : Nat → Int32) (f2_price : Nat → Int32) (f2_trackAside : Nat → Int64) (f2_side : Nat → Int32) (f2_stands : Nat → Int32) (p1 : Int32) (p2 : Int32) (p3 : Int32) (p4 : Int64) : Prop :=
  (((40 : Int32) ≤ v2_count → (Q v2_count f2_place f2_price f2_trackAside f2_side f2_stands)) ∧ (¬ (40 : Int32) ≤ v2_count → ((0 ≤ p1 → (∃ n : Nat, wl_X2_insert_20 Q  n v2_count f2_place f2_price f2_trackAside f2_side f2_stands p1 p2 p3 p4 v2_count)) ∧ (¬ 0 ≤ p1 → (Q v2_count f2_place f2_price f2_trackAside f2_side f2_stands)))))
set_option maxHeartbeats 4000000 in
set_option maxRecDepth 100000 in
theorem c_X2_insert (l : Launch) (dC : Nat → ClassId) (dI : Nat → Nat → Nat) (cI cJ cZ : ClassId) (a2 : Nat) (a2_place : Nat) (a2_price : Nat) (a2_trackAside : Nat) (a2_side : Nat) (a2_stands : Nat) (a2_mastPeg : Nat) (sz : Nat) (v2_count : Int32) (v2_masts : Int32) (f2_place : Nat → Int32) (f2_price : Nat → Int32) (f2_trackAside : Nat → Int64) (f2_side : Nat → Int32) (f2_stands : Nat → Int32) (p1 : Int32) (p2 : Int32) (p3 : Int32) (p4 : Int64) (Q : (Int32) → (Nat → Int32) → (Nat → Int32) → (Nat → Int64) → (Nat → Int32) → (Nat → Int32) → Prop) (hw : wp_X2_insert Q v2_count f2_place f2_price f2_trackAside f2_side f2_stands p1 p2 p3 p4) : Met l yX2_insert wsX2_insert ({ frames := 1, cells := 0, slots := 0, locals := 21 } : Room) (va_Pc [.ref a2, .int p1, .int p2, .int p3, .long p4] (fun U => U.heap.size = sz ∧ va_P (dC, dI) vwCl [(a2, .inr (2, [.int v2_count, .int v2_masts, .ref a2_place, .ref a2_price, .ref a2_trackAside, .ref a2_side, .ref a2_stands, .ref a2_mastPeg])), (a2_place, .inl (cI, 40, .inl f2_place)), (a2_price, .inl (cI, 40, .inl f2_price)), (a2_trackAside, .inl (cJ, 40, .inr (.inl f2_trackAside))), (a2_side, .inl (cI, 40, .inl f2_side)), (a2_stands, .inl (cZ, 40, .inl f2_stands))] U.heap ∧ va_K (dC, dI) vwCl [(cI, .int), (cJ, .long), (cZ, .boolean)] U ∧ va_D (fun _ => True) [(a2, .inr (2, [.int v2_count, .int v2_masts, .ref a2_place, .ref a2_price, .ref a2_trackAside, .ref a2_side, .ref a2_stands, .ref a2_mastPeg])), (a2_place, .inl (cI, 40, .inl f2_place)), (a2_price, .inl (cI, 40, .inl f2_price)), (a2_trackAside, .inl (cJ, 40, .inr (.inl f2_trackAside))), (a2_side, .inl (cI, 40, .inl f2_side)), (a2_stands, .inl (cZ, 40, .inl f2_stands))])) (va_Qv (fun (u : (Int32) × (Nat → Int32) × (Nat → Int32) × (Nat → Int64) × (Nat → Int32) × (Nat → Int32)) => Q u.1 u.2.1 u.2.2.1 u.2.2.2.1 u.2.2.2.2.1 u.2.2.2.2.2) (fun (u : (Int32) × (Nat → Int32) × (Nat → Int32) × (Nat → Int64) × (Nat → Int32) × (Nat → Int32)) t => va_P (dC, dI) vwCl [(a2, .inr (2, [.int u.1, .int v2_masts, .ref a2_place, .ref a2_price, .ref a2_trackAside, .ref a2_side, .ref a2_stands, .ref a2_mastPeg])), (a2_place, .inl (cI, 40, .inl u.2.1)), (a2_price, .inl (cI, 40, .inl u.2.2.1)), (a2_trackAside, .inl (cJ, 40, .inr (.inl u.2.2.2.1))), (a2_side, .inl (cI, 40, .inl u.2.2.2.2.1)), (a2_stands, .inl (cZ, 40, .inl u.2.2.2.2.2))] t.heap ∧ va_K (dC, dI) vwCl [(cI, .int), (cJ, .long), (cZ, .boolean)] t ∧ va_D (va_A [(a2, .inr (2, [.int v2_count, .int v2_masts, .ref a2_place, .ref a2_price, .ref a2_trackAside, .ref a2_side, .ref a2_stands, .ref a2_mastPeg])), (a2_place, .inl (cI, 40, .inl f2_place)), (a2_price, .inl (cI, 40, .inl f2_price)), (a2_trackAside, .inl (cJ, 40, .inr (.inl f2_trackAside))), (a2_side, .inl (cI, 40, .inl f2_side)), (a2_stands, .inl (cZ, 40, .inl f2_stands))] sz) [(a2, .inr (2, [.int u.1, .int v2_masts, .ref a2_place, .ref a2_price, .ref a2_trackAside, .ref a2_side, .ref a2_stands, .ref a2_mastPeg])), (a2_place, .inl (cI, 40, .inl u.2.1)), (a2_price, .inl (cI, 40, .inl u.2.2.1)), (a2_trackAside, .inl (cJ, 40, .inr (.inl u.2.2.2.1))), (a2_side, .inl (cI, 40, .inl u.2.2.2.2.1)), (a2_stands, .inl (cZ, 40, .inl u.2.2.2.2.2))]) (va_A [(a2, .inr (2, [.int v2_count, .int v2_masts, .ref a2_place, .ref a2_price, .ref a2_trackAside, .ref a2_side, .ref a2_stands, .ref a2_mastPeg])), (a2_place, .inl (cI, 40, .inl f2_place)), (a2_price, .inl (cI, 40, .inl f2_price)), (a2_trackAside, .inl (cJ, 40, .inr (.inl f2_trackAside))), (a2_side, .inl (cI, 40, .inl f2_side)), (a2_stands, .inl (cZ, 40, .inl f2_stands))] sz)) 0 0 (va_A [(a2, .inr (2, [.int v2_count, .int v2_masts, .ref a2_place, .ref a2_price, .ref a2_trackAside, .ref a2_side, .ref a2_stands, .ref a2_mastPeg])), (a2_place, .inl (cI, 40, .inl f2_place)), (a2_price, .inl (cI, 40, .inl f2_price)), (a2_trackAside, .inl (cJ, 40, .inr (.inl f2_trackAside))), (a2_side, .inl (cI, 40, .inl f2_side)), (a2_stands, .inl (cZ, 40, .inl f2_stands))] sz) := by
  refine Met.ofW (cc := cX2_insert) (maxL := 7) (ret := none) (by decide) rfl ?_
  intro p e s m args below meth c s₁ B hml hv
  obtain ⟨rfl, hsz, hP, hK, hD0⟩ := hv
  have hx := B.exec
  have hb := B.bytes
  have hr := B.returns
  have hts := atoms_spec (ws := wsX2_insert) B.pre
  have hown : s.vm.findClass RX2 = some m.cls := findClass_of_methodNamed B.named
  have hlocks := B.notSynchronized
  subst hsz
  have hD := hD0.self (sz := s.heap.size)
  generalize hAe : va_A [(a2, .inr (2, [.int v2_count, .int v2_masts, .ref a2_place, .ref a2_price, .ref a2_trackAside, .ref a2_side, .ref a2_stands, .ref a2_mastPeg])), (a2_place, .inl (cI, 40, .inl f2_place)), (a2_price, .inl (cI, 40, .inl f2_price)), (a2_trackAside, .inl (cJ, 40, .inr (.inl f2_trackAside))), (a2_side, .inl (cI, 40, .inl f2_side)), (a2_stands, .inl (cZ, 40, .inl f2_stands))] s.heap.size = A at hD ⊢
  have hA : ∀ q : Nat, s.heap.size ≤ q → A q := fun q h => by rw [← hAe]; exact Or.inr h
  have hS : va_S A s.heap s.heap [] := va_S.rf
  have hP : va_P (dC, dI) vwCl [(a2, .inr (2, [.int v2_count, .int v2_masts, .ref a2_place, .ref a2_price, .ref a2_trackAside, .ref a2_side, .ref a2_stands, .ref a2_mastPeg])), (a2_place, .inl (cI, 40, .inl f2_place)), (a2_price, .inl (cI, 40, .inl f2_price)), (a2_trackAside, .inl (cJ, 40, .inr (.inl f2_trackAside))), (a2_side, .inl (cI, 40, .inl f2_side)), (a2_stands, .inl (cZ, 40, .inl f2_stands))] s.heap := hP
  have lk1 := hts (.fieldLink RX2 32 "WireRow$PegRow" "count" "I") (by decide +kernel)
  have lk2 := hts (.fieldLink RX2 9 "WireRow$PegRow" "place" "[I") (by decide +kernel)
  have lk3 := hts (.fieldLink RX2 15 "WireRow$PegRow" "price" "[I") (by decide +kernel)
  have lk4 := hts (.fieldLink RX2 18 "WireRow$PegRow" "trackAside" "[J") (by decide +kernel)
  have k_20 : ∀ (n_20 : Nat) (v2_count_c20 : Int32) (f2_place_c20 : Nat → Int32) (f2_price_c20 : Nat → Int32) (f2_trackAside_c20 : Nat → Int64) (f2_side_c20 : Nat → Int32) (f2_stands_c20 : Nat → Int32) (y20_1 : Int32) (y20_2 : Int32) (y20_3 : Int32) (y20_4 : Int64) (y20_6 : Int32) (H : Heap) (locs : List Loc) (ls : Array Slot), va_P (dC, dI) vwCl [(a2, .inr (2, [.int v2_count_c20, .int v2_masts, .ref a2_place, .ref a2_price, .ref a2_trackAside, .ref a2_side, .ref a2_stands, .ref a2_mastPeg])), (a2_place, .inl (cI, 40, .inl f2_place_c20)), (a2_price, .inl (cI, 40, .inl f2_price_c20)), (a2_trackAside, .inl (cJ, 40, .inr (.inl f2_trackAside_c20))), (a2_side, .inl (cI, 40, .inl f2_side_c20)), (a2_stands, .inl (cZ, 40, .inl f2_stands_c20))] H → va_D A [(a2, .inr (2, [.int v2_count_c20, .int v2_masts, .ref a2_place, .ref a2_price, .ref a2_trackAside, .ref a2_side, .ref a2_stands, .ref a2_mastPeg])), (a2_place, .inl (cI, 40, .inl f2_place_c20)), (a2_price, .inl (cI, 40, .inl f2_price_c20)), (a2_trackAside, .inl (cJ, 40, .inr (.inl f2_trackAside_c20))), (a2_side, .inl (cI, 40, .inl f2_side_c20)), (a2_stands, .inl (cZ, 40, .inl f2_stands_c20))] → va_S A s.heap H locs → lv_has ls 7 [(0, .ref a2), (1, .int y20_1), (2, .int y20_2), (3, .int y20_3), (4, .long y20_4), (6, .int y20_6)] → (wl_X2_insert_20 Q  n_20 v2_count_c20 f2_place_c20 f2_price_c20 f2_trackAside_c20 f2_side_c20 f2_stands_c20 y20_1 y20_2 y20_3 y20_4 y20_6) → W p l e (headSpec wsX2_insert ({ frames := 1, cells := 0, slots := 0, locals := 21 } : Room)).room s m [.ref a2, .int p1, .int p2, .int p3, .long p4].toArray below meth c H locs 0 0 (MQ below (va_Qv (fun (u : (Int32) × (Nat → Int32) × (Nat → Int32) × (Nat → Int64) × (Nat → Int32) × (Nat → Int32)) => Q u.1 u.2.1 u.2.2.1 u.2.2.2.1 u.2.2.2.2.1 u.2.2.2.2.2) (fun (u : (Int32) × (Nat → Int32) × (Nat → Int32) × (Nat → Int64) × (Nat → Int32) × (Nat → Int32)) t => va_P (dC, dI) vwCl [(a2, .inr (2, [.int u.1, .int v2_masts, .ref a2_place, .ref a2_price, .ref a2_trackAside, .ref a2_side, .ref a2_stands, .ref a2_mastPeg])), (a2_place, .inl (cI, 40, .inl u.2.1)), (a2_price, .inl (cI, 40, .inl u.2.2.1)), (a2_trackAside, .inl (cJ, 40, .inr (.inl u.2.2.2.1))), (a2_side, .inl (cI, 40, .inl u.2.2.2.2.1)), (a2_stands, .inl (cZ, 40, .inl u.2.2.2.2.2))] t.heap ∧ va_K (dC, dI) vwCl [(cI, .int), (cJ, .long), (cZ, .boolean)] t ∧ va_D A [(a2, .inr (2, [.int u.1, .int v2_masts, .ref a2_place, .ref a2_price, .ref a2_trackAside, .ref a2_side, .ref a2_stands, .ref a2_mastPeg])), (a2_place, .inl (cI, 40, .inl u.2.1)), (a2_price, .inl (cI, 40, .inl u.2.2.1)), (a2_trackAside, .inl (cJ, 40, .inr (.inl u.2.2.2.1))), (a2_side, .inl (cI, 40, .inl u.2.2.2.2.1)), (a2_stands, .inl (cZ, 40, .inl u.2.2.2.2.2))]) A) [.ref a2, .int p1, .int p2, .int p3, .long p4].toArray s 0 0 A) (F0 m 20 ls []) := by
    intro n_20
    induction n_20 with
    | zero =>
      intro v2_count_c20 f2_place_c20 f2_price_c20 f2_trackAside_c20 f2_side_c20 f2_stands_c20 y20_1 y20_2 y20_3 y20_4 y20_6 H locs ls hP hD hS hl hw
      exact False.elim hw
    | succ n_20 ih_20 =>
      intro v2_count_c20 f2_place_c20 f2_price_c20 f2_trackAside_c20 f2_side_c20 f2_stands_c20 y20_1 y20_2 y20_3 y20_4 y20_6 H locs ls hP hD hS hl hw
      replace hw : wb_X2_insert_20 Q  (wl_X2_insert_20 Q  n_20) v2_count_c20 f2_place_c20 f2_price_c20 f2_trackAside_c20 f2_side_c20 f2_stands_c20 y20_1 y20_2 y20_3 y20_4 y20_6 := hw
      unfold wb_X2_insert_20 at hw
      refine lv_iload hx hb dX2_insert_20 (lv_at hl 5 rfl) ?_
      refine lv_iload_n hx hb dX2_insert_22 rfl (lv_at hl 1 rfl) ?_
      refine lv_icmp_le (tgt := 80) hx hb dX2_insert_23 (by decide) (fun c3 => ?_) (fun c3 => ?_)
      · replace hw := hw.1 (c3)
        refine lv_aload_n hx hb dX2_insert_80 rfl (lv_at hl 0 rfl) ?_
        refine va_get (D := (dC, dI)) (ci := 2) (v := .ref a2_place) (C := RX2) (T := TX2) (N := 8) hx hb hts inX2_insert_X2 hown hK hP 0 rfl rfl 2 (by decide) lk2 (fun _ h9 => h9) rfl dX2_insert_81 ?_
        refine lv_iload_n hx hb dX2_insert_84 rfl (lv_at hl 1 rfl) ?_
        refine lv_iload_n hx hb dX2_insert_85 rfl (lv_at hl 2 rfl) ?_
        obtain ⟨h4, hw⟩ := hw
        refine va_iast hx hb hK hP hD hS 1 0 rfl rfl h4 dX2_insert_86 (fun H locs hP hD hS => ?_)
        obtain ⟨g5, eg5⟩ : ∃ y : Nat → Int32, y = upd f2_place_c20 y20_1.toNatClampNeg y20_2 := ⟨_, rfl⟩
        replace hw := hw g5 eg5
        have hP : va_P (dC, dI) vwCl [(a2, .inr (2, [.int v2_count_c20, .int v2_masts, .ref a2_place, .ref a2_price, .ref a2_trackAside, .ref a2_side, .ref a2_stands, .ref a2_mastPeg])), (a2_place, .inl (cI, 40, .inl g5)), (a2_price, .inl (cI, 40, .inl f2_price_c20)), (a2_trackAside, .inl (cJ, 40, .inr (.inl f2_trackAside_c20))), (a2_side, .inl (cI, 40, .inl f2_side_c20)), (a2_stands, .inl (cZ, 40, .inl f2_stands_c20))] H := by rw [eg5]; exact hP
        have hD : va_D A [(a2, .inr (2, [.int v2_count_c20, .int v2_masts, .ref a2_place, .ref a2_price, .ref a2_trackAside, .ref a2_side, .ref a2_stands, .ref a2_mastPeg])), (a2_place, .inl (cI, 40, .inl g5)), (a2_price, .inl (cI, 40, .inl f2_price_c20)), (a2_trackAside, .inl (cJ, 40, .inr (.inl f2_trackAside_c20))), (a2_side, .inl (cI, 40, .inl f2_side_c20)), (a2_stands, .inl (cZ, 40, .inl f2_stands_c20))] := by rw [eg5]; exact hD
        refine lv_aload_n hx hb dX2_insert_87 rfl (lv_at hl 0 rfl) ?_
        refine va_get (D := (dC, dI)) (ci := 2) (v := .ref a2_price) (C := RX2) (T := TX2) (N := 8) hx hb hts inX2_insert_X2 hown hK hP 0 rfl rfl 3 (by decide) lk3 (fun _ h9 => h9) rfl dX2_insert_88 ?_
        refine lv_iload_n hx hb dX2_insert_91 rfl (lv_at hl 1 rfl) ?_
        refine lv_iload_n hx hb dX2_insert_92 rfl (lv_at hl 3 rfl) ?_
        obtain ⟨h6, hw⟩ := hw
        refine va_iast hx hb hK hP hD hS 2 0 rfl rfl h6 dX2_insert_93 (fun H locs hP hD hS => ?_)
        obtain ⟨g7, eg7⟩ : ∃ y : Nat → Int32, y = upd f2_price_c20 y20_1.toNatClampNeg y20_3 := ⟨_, rfl⟩
        replace hw := hw g7 eg7
        have hP : va_P (dC, dI) vwCl [(a2, .inr (2, [.int v2_count_c20, .int v2_masts, .ref a2_place, .ref a2_price, .ref a2_trackAside, .ref a2_side, .ref a2_stands, .ref a2_mastPeg])), (a2_place, .inl (cI, 40, .inl g5)), (a2_price, .inl (cI, 40, .inl g7)), (a2_trackAside, .inl (cJ, 40, .inr (.inl f2_trackAside_c20))), (a2_side, .inl (cI, 40, .inl f2_side_c20)), (a2_stands, .inl (cZ, 40, .inl f2_stands_c20))] H := by rw [eg7]; exact hP
        have hD : va_D A [(a2, .inr (2, [.int v2_count_c20, .int v2_masts, .ref a2_place, .ref a2_price, .ref a2_trackAside, .ref a2_side, .ref a2_stands, .ref a2_mastPeg])), (a2_place, .inl (cI, 40, .inl g5)), (a2_price, .inl (cI, 40, .inl g7)), (a2_trackAside, .inl (cJ, 40, .inr (.inl f2_trackAside_c20))), (a2_side, .inl (cI, 40, .inl f2_side_c20)), (a2_stands, .inl (cZ, 40, .inl f2_stands_c20))] := by rw [eg7]; exact hD
        refine lv_aload_n hx hb dX2_insert_94 rfl (lv_at hl 0 rfl) ?_
        refine va_get (D := (dC, dI)) (ci := 2) (v := .ref a2_trackAside) (C := RX2) (T := TX2) (N := 8) hx hb hts inX2_insert_X2 hown hK hP 0 rfl rfl 4 (by decide) lk4 (fun _ h9 => h9) rfl dX2_insert_95 ?_
        refine lv_iload_n hx hb dX2_insert_98 rfl (lv_at hl 1 rfl) ?_
        refine lv_lload hx hb dX2_insert_99 (lv_at hl 4 rfl) ?_
        obtain ⟨h8, hw⟩ := hw
        refine va_last hx hb hK hP hD hS 3 1 rfl rfl h8 dX2_insert_101 (fun H locs hP hD hS => ?_)
        obtain ⟨g9, eg9⟩ : ∃ y : Nat → Int64, y = vp_updL f2_trackAside_c20 y20_1.toNatClampNeg y20_4 := ⟨_, rfl⟩
        replace hw := hw g9 eg9
        have hP : va_P (dC, dI) vwCl [(a2, .inr (2, [.int v2_count_c20, .int v2_masts, .ref a2_place, .ref a2_price, .ref a2_trackAside, .ref a2_side, .ref a2_stands, .ref a2_mastPeg])), (a2_place, .inl (cI, 40, .inl g5)), (a2_price, .inl (cI, 40, .inl g7)), (a2_trackAside, .inl (cJ, 40, .inr (.inl g9))), (a2_side, .inl (cI, 40, .inl f2_side_c20)), (a2_stands, .inl (cZ, 40, .inl f2_stands_c20))] H := by rw [eg9]; exact hP
        have hD : va_D A [(a2, .inr (2, [.int v2_count_c20, .int v2_masts, .ref a2_place, .ref a2_price, .ref a2_trackAside, .ref a2_side, .ref a2_stands, .ref a2_mastPeg])), (a2_place, .inl (cI, 40, .inl g5)), (a2_price, .inl (cI, 40, .inl g7)), (a2_trackAside, .inl (cJ, 40, .inr (.inl g9))), (a2_side, .inl (cI, 40, .inl f2_side_c20)), (a2_stands, .inl (cZ, 40, .inl f2_stands_c20))] := by rw [eg9]; exact hD
        refine lv_aload_n hx hb dX2_insert_102 rfl (lv_at hl 0 rfl) ?_
        refine lv_aload_n hx hb dX2_insert_103 rfl (lv_at hl 0 rfl) ?_
        refine va_get (D := (dC, dI)) (ci := 2) (v := .int v2_count_c20) (C := RX2) (T := TX2) (N := 8) hx hb hts inX2_insert_X2 hown hK hP 0 rfl rfl 0 (by decide) lk1 (fun _ h9 => h9) rfl dX2_insert_104 ?_
        have hPc := hP.sub (ws' := [(a2, .inr (2, [.int v2_count_c20, .int v2_masts, .ref a2_place, .ref a2_price, .ref a2_trackAside, .ref a2_side, .ref a2_stands, .ref a2_mastPeg])), (a2_side, .inl (cI, 40, .inl f2_side_c20)), (a2_stands, .inl (cZ, 40, .inl f2_stands_c20))]) [0, 4, 5] rfl
        have hDc := hD.sub (ws' := [(a2, .inr (2, [.int v2_count_c20, .int v2_masts, .ref a2_place, .ref a2_price, .ref a2_trackAside, .ref a2_side, .ref a2_stands, .ref a2_mastPeg])), (a2_side, .inl (cI, 40, .inl f2_side_c20)), (a2_stands, .inl (cZ, 40, .inl f2_stands_c20))]) [0, 4, 5] (by decide) rfl
        have hFc := va_free (wc := [(a2, .inr (2, [.int v2_count_c20, .int v2_masts, .ref a2_place, .ref a2_price, .ref a2_trackAside, .ref a2_side, .ref a2_stands, .ref a2_mastPeg])), (a2_side, .inl (cI, 40, .inl f2_side_c20)), (a2_stands, .inl (cZ, 40, .inl f2_stands_c20))]) hD hS hA [0, 4, 5] rfl
        refine va_callv (va_runV (As := [.int v2_count_c20]) (rest := []) ⟨hx, hb, hml, hown, hts⟩ (c_X2_takeDown l dC dI cI cJ cZ a2 a2_place a2_price a2_trackAside a2_side a2_stands a2_mastPeg H.size v2_count_c20 v2_masts f2_side_c20 f2_stands_c20 v2_count_c20 _ hw) (cwV 1 hts gX2_insert_X2_takeDown rfl rfl rfl (by decide +kernel) ⟨Nat.le_of_ble_eq_true rfl, Nat.le_of_ble_eq_true rfl⟩) ⟨fun a U g mk q => by obtain ⟨q0, q1, qP, qK, qD⟩ := q; exact ⟨q0, q1, qP, va_K.moved (u := U) (U := U.calling g mk a) (Vm.Alike.refl U.vm) qK, qD⟩, va_recv hK hP (ci := 2) (q0 := 0) rfl rfl, fun U hU hW => ⟨rfl, by rw [hU], by rw [hU]; exact hPc, va_K.moved hW.alike hK, hDc.weaken (fun _ _ _ _ => trivial)⟩⟩ rfl rfl hl.1 rfl (lv_room (Nat.le_of_ble_eq_true rfl)) dX2_insert_107 ⟨(Nat.zero_le _), (Nat.zero_le _)⟩) hS (fun q _ h => hFc q h) hFc (fun u t H1 locs ht hvm hw hB hz1 hk1 hS => ?_)
        obtain ⟨m11, m12⟩ := u
        obtain ⟨hP1, -, hD1⟩ := hB
        try dsimp only at hw
        rw [ht] at hP1
        obtain ⟨hP, hD⟩ := va_join (wr := [(a2_place, .inl (cI, 40, .inl g5)), (a2_price, .inl (cI, 40, .inl g7)), (a2_trackAside, .inl (cJ, 40, .inr (.inl g9)))]) (w1 := [(a2, .inr (2, [.int v2_count_c20, .int v2_masts, .ref a2_place, .ref a2_price, .ref a2_trackAside, .ref a2_side, .ref a2_stands, .ref a2_mastPeg])), (a2_side, .inl (cI, 40, .inl m11)), (a2_stands, .inl (cZ, 40, .inl m12))]) hP hD [0, 4, 5] [1, 2, 3] rfl rfl (by decide) (by decide) hk1 hFc hP1 hD1
        generalize H1 = H at hP hS ⊢
        have hP : va_P (dC, dI) vwCl [(a2_place, .inl (cI, 40, .inl g5)), (a2_price, .inl (cI, 40, .inl g7)), (a2_trackAside, .inl (cJ, 40, .inr (.inl g9))), (a2, .inr (2, [.int v2_count_c20, .int v2_masts, .ref a2_place, .ref a2_price, .ref a2_trackAside, .ref a2_side, .ref a2_stands, .ref a2_mastPeg])), (a2_side, .inl (cI, 40, .inl m11)), (a2_stands, .inl (cZ, 40, .inl m12))] H := hP
        have hD : va_D A [(a2_place, .inl (cI, 40, .inl g5)), (a2_price, .inl (cI, 40, .inl g7)), (a2_trackAside, .inl (cJ, 40, .inr (.inl g9))), (a2, .inr (2, [.int v2_count_c20, .int v2_masts, .ref a2_place, .ref a2_price, .ref a2_trackAside, .ref a2_side, .ref a2_stands, .ref a2_mastPeg])), (a2_side, .inl (cI, 40, .inl m11)), (a2_stands, .inl (cZ, 40, .inl m12))] := hD
        refine lv_aload_n hx hb dX2_insert_110 rfl (lv_at hl 0 rfl) ?_
        refine lv_dup hx hb dX2_insert_111 rfl ?_
        refine va_get (D := (dC, dI)) (ci := 2) (v := .int v2_count_c20) (C := RX2) (T := TX2) (N := 8) hx hb hts inX2_insert_X2 hown hK hP 3 rfl rfl 0 (by decide) lk1 (fun _ h9 => h9) rfl dX2_insert_112 ?_
        refine lv_iconst (v := (1 : Int32)) hx hb dX2_insert_115 (by decide) ?_
        refine lv_iadd hx hb dX2_insert_116 ?_
        refine lv_topi (fun x13 ex13 => ?_)
        replace hw := hw x13 ex13
        refine va_put (D := (dC, dI)) (ci := 2) (v := .int x13) (ty := .int) (C := RX2) (T := TX2) (N := 8) hx hb hts inX2_insert_X2 tyX2 tyX2_ok nmX2 hown hK hP hD hS 3 rfl rfl 0 (by decide) lk1 (fun _ h9 => h9) rfl (by decide +kernel) rfl rfl (Nat.le_of_ble_eq_true rfl) dX2_insert_117 (fun H locs hP hD hS => ?_)
        have hP : va_P (dC, dI) vwCl [(a2_place, .inl (cI, 40, .inl g5)), (a2_price, .inl (cI, 40, .inl g7)), (a2_trackAside, .inl (cJ, 40, .inr (.inl g9))), (a2, .inr (2, [.int x13, .int v2_masts, .ref a2_place, .ref a2_price, .ref a2_trackAside, .ref a2_side, .ref a2_stands, .ref a2_mastPeg])), (a2_side, .inl (cI, 40, .inl m11)), (a2_stands, .inl (cZ, 40, .inl m12))] H := hP
        have hD : va_D A [(a2_place, .inl (cI, 40, .inl g5)), (a2_price, .inl (cI, 40, .inl g7)), (a2_trackAside, .inl (cJ, 40, .inr (.inl g9))), (a2, .inr (2, [.int x13, .int v2_masts, .ref a2_place, .ref a2_price, .ref a2_trackAside, .ref a2_side, .ref a2_stands, .ref a2_mastPeg])), (a2_side, .inl (cI, 40, .inl m11)), (a2_stands, .inl (cZ, 40, .inl m12))] := hD
        have hP9 := hP.sub (ws' := [(a2, .inr (2, [.int x13, .int v2_masts, .ref a2_place, .ref a2_price, .ref a2_trackAside, .ref a2_side, .ref a2_stands, .ref a2_mastPeg])), (a2_place, .inl (cI, 40, .inl g5)), (a2_price, .inl (cI, 40, .inl g7)), (a2_trackAside, .inl (cJ, 40, .inr (.inl g9))), (a2_side, .inl (cI, 40, .inl m11)), (a2_stands, .inl (cZ, 40, .inl m12))]) [3, 0, 1, 2, 4, 5] rfl
        have hD9 := hD.sub (ws' := [(a2, .inr (2, [.int x13, .int v2_masts, .ref a2_place, .ref a2_price, .ref a2_trackAside, .ref a2_side, .ref a2_stands, .ref a2_mastPeg])), (a2_place, .inl (cI, 40, .inl g5)), (a2_price, .inl (cI, 40, .inl g7)), (a2_trackAside, .inl (cJ, 40, .inr (.inl g9))), (a2_side, .inl (cI, 40, .inl m11)), (a2_stands, .inl (cZ, 40, .inl m12))]) [3, 0, 1, 2, 4, 5] (by decide) rfl
        exact W.vret hx hb hr (fun t ht hW => ⟨⟨(x13, g5, g7, g9, m11, m12), rfl, hw, by rw [ht]; exact hP9, va_K.moved hW.alike hK, hD9⟩, hS.F ht⟩) hS.2.2 dX2_insert_120
      · replace hw := hw.2 (c3)
        refine lv_aload_n hx hb dX2_insert_26 rfl (lv_at hl 0 rfl) ?_
        refine va_get (D := (dC, dI)) (ci := 2) (v := .ref a2_place) (C := RX2) (T := TX2) (N := 8) hx hb hts inX2_insert_X2 hown hK hP 0 rfl rfl 2 (by decide) lk2 (fun _ h9 => h9) rfl dX2_insert_27 ?_
        refine lv_iload hx hb dX2_insert_30 (lv_at hl 5 rfl) ?_
        refine lv_aload_n hx hb dX2_insert_32 rfl (lv_at hl 0 rfl) ?_
        refine va_get (D := (dC, dI)) (ci := 2) (v := .ref a2_place) (C := RX2) (T := TX2) (N := 8) hx hb hts inX2_insert_X2 hown hK hP 0 rfl rfl 2 (by decide) lk2 (fun _ h9 => h9) rfl dX2_insert_33 ?_
        refine lv_iload hx hb dX2_insert_36 (lv_at hl 5 rfl) ?_
        refine lv_iconst (v := (1 : Int32)) hx hb dX2_insert_38 (by decide) ?_
        refine lv_isub hx hb dX2_insert_39 ?_
        obtain ⟨h14, hw⟩ := hw
        refine va_iald hx hb hK hP 1 0 rfl rfl h14 dX2_insert_40 ?_
        refine lv_topi (fun x15 ex15 => ?_)
        replace hw := hw x15 ex15
        obtain ⟨h16, hw⟩ := hw
        refine va_iast hx hb hK hP hD hS 1 0 rfl rfl h16 dX2_insert_41 (fun H locs hP hD hS => ?_)
        obtain ⟨g17, eg17⟩ : ∃ y : Nat → Int32, y = upd f2_place_c20 y20_6.toNatClampNeg x15 := ⟨_, rfl⟩
        replace hw := hw g17 eg17
        have hP : va_P (dC, dI) vwCl [(a2, .inr (2, [.int v2_count_c20, .int v2_masts, .ref a2_place, .ref a2_price, .ref a2_trackAside, .ref a2_side, .ref a2_stands, .ref a2_mastPeg])), (a2_place, .inl (cI, 40, .inl g17)), (a2_price, .inl (cI, 40, .inl f2_price_c20)), (a2_trackAside, .inl (cJ, 40, .inr (.inl f2_trackAside_c20))), (a2_side, .inl (cI, 40, .inl f2_side_c20)), (a2_stands, .inl (cZ, 40, .inl f2_stands_c20))] H := by rw [eg17]; exact hP
        have hD : va_D A [(a2, .inr (2, [.int v2_count_c20, .int v2_masts, .ref a2_place, .ref a2_price, .ref a2_trackAside, .ref a2_side, .ref a2_stands, .ref a2_mastPeg])), (a2_place, .inl (cI, 40, .inl g17)), (a2_price, .inl (cI, 40, .inl f2_price_c20)), (a2_trackAside, .inl (cJ, 40, .inr (.inl f2_trackAside_c20))), (a2_side, .inl (cI, 40, .inl f2_side_c20)), (a2_stands, .inl (cZ, 40, .inl f2_stands_c20))] := by rw [eg17]; exact hD
        refine lv_aload_n hx hb dX2_insert_42 rfl (lv_at hl 0 rfl) ?_
        refine va_get (D := (dC, dI)) (ci := 2) (v := .ref a2_price) (C := RX2) (T := TX2) (N := 8) hx hb hts inX2_insert_X2 hown hK hP 0 rfl rfl 3 (by decide) lk3 (fun _ h9 => h9) rfl dX2_insert_43 ?_
        refine lv_iload hx hb dX2_insert_46 (lv_at hl 5 rfl) ?_
        refine lv_aload_n hx hb dX2_insert_48 rfl (lv_at hl 0 rfl) ?_
        refine va_get (D := (dC, dI)) (ci := 2) (v := .ref a2_price) (C := RX2) (T := TX2) (N := 8) hx hb hts inX2_insert_X2 hown hK hP 0 rfl rfl 3 (by decide) lk3 (fun _ h9 => h9) rfl dX2_insert_49 ?_
        refine lv_iload hx hb dX2_insert_52 (lv_at hl 5 rfl) ?_
        refine lv_iconst (v := (1 : Int32)) hx hb dX2_insert_54 (by decide) ?_
        refine lv_isub hx hb dX2_insert_55 ?_
        obtain ⟨h18, hw⟩ := hw
        refine va_iald hx hb hK hP 2 0 rfl rfl h18 dX2_insert_56 ?_
        refine lv_topi (fun x19 ex19 => ?_)
        replace hw := hw x19 ex19
        obtain ⟨h20, hw⟩ := hw
        refine va_iast hx hb hK hP hD hS 2 0 rfl rfl h20 dX2_insert_57 (fun H locs hP hD hS => ?_)
        obtain ⟨g21, eg21⟩ : ∃ y : Nat → Int32, y = upd f2_price_c20 y20_6.toNatClampNeg x19 := ⟨_, rfl⟩
        replace hw := hw g21 eg21
        have hP : va_P (dC, dI) vwCl [(a2, .inr (2, [.int v2_count_c20, .int v2_masts, .ref a2_place, .ref a2_price, .ref a2_trackAside, .ref a2_side, .ref a2_stands, .ref a2_mastPeg])), (a2_place, .inl (cI, 40, .inl g17)), (a2_price, .inl (cI, 40, .inl g21)), (a2_trackAside, .inl (cJ, 40, .inr (.inl f2_trackAside_c20))), (a2_side, .inl (cI, 40, .inl f2_side_c20)), (a2_stands, .inl (cZ, 40, .inl f2_stands_c20))] H := by rw [eg21]; exact hP
        have hD : va_D A [(a2, .inr (2, [.int v2_count_c20, .int v2_masts, .ref a2_place, .ref a2_price, .ref a2_trackAside, .ref a2_side, .ref a2_stands, .ref a2_mastPeg])), (a2_place, .inl (cI, 40, .inl g17)), (a2_price, .inl (cI, 40, .inl g21)), (a2_trackAside, .inl (cJ, 40, .inr (.inl f2_trackAside_c20))), (a2_side, .inl (cI, 40, .inl f2_side_c20)), (a2_stands, .inl (cZ, 40, .inl f2_stands_c20))] := by rw [eg21]; exact hD
        refine lv_aload_n hx hb dX2_insert_58 rfl (lv_at hl 0 rfl) ?_
        refine va_get (D := (dC, dI)) (ci := 2) (v := .ref a2_trackAside) (C := RX2) (T := TX2) (N := 8) hx hb hts inX2_insert_X2 hown hK hP 0 rfl rfl 4 (by decide) lk4 (fun _ h9 => h9) rfl dX2_insert_59 ?_
        refine lv_iload hx hb dX2_insert_62 (lv_at hl 5 rfl) ?_
        refine lv_aload_n hx hb dX2_insert_64 rfl (lv_at hl 0 rfl) ?_
        refine va_get (D := (dC, dI)) (ci := 2) (v := .ref a2_trackAside) (C := RX2) (T := TX2) (N := 8) hx hb hts inX2_insert_X2 hown hK hP 0 rfl rfl 4 (by decide) lk4 (fun _ h9 => h9) rfl dX2_insert_65 ?_
        refine lv_iload hx hb dX2_insert_68 (lv_at hl 5 rfl) ?_
        refine lv_iconst (v := (1 : Int32)) hx hb dX2_insert_70 (by decide) ?_
        refine lv_isub hx hb dX2_insert_71 ?_
        obtain ⟨h22, hw⟩ := hw
        refine va_lald hx hb hK hP 3 1 rfl rfl h22 dX2_insert_72 ?_
        refine lv_topl (fun x23 ex23 => ?_)
        replace hw := hw x23 ex23
        obtain ⟨h24, hw⟩ := hw
        refine va_last hx hb hK hP hD hS 3 1 rfl rfl h24 dX2_insert_73 (fun H locs hP hD hS => ?_)
        obtain ⟨g25, eg25⟩ : ∃ y : Nat → Int64, y = vp_updL f2_trackAside_c20 y20_6.toNatClampNeg x23 := ⟨_, rfl⟩
        replace hw := hw g25 eg25
        have hP : va_P (dC, dI) vwCl [(a2, .inr (2, [.int v2_count_c20, .int v2_masts, .ref a2_place, .ref a2_price, .ref a2_trackAside, .ref a2_side, .ref a2_stands, .ref a2_mastPeg])), (a2_place, .inl (cI, 40, .inl g17)), (a2_price, .inl (cI, 40, .inl g21)), (a2_trackAside, .inl (cJ, 40, .inr (.inl g25))), (a2_side, .inl (cI, 40, .inl f2_side_c20)), (a2_stands, .inl (cZ, 40, .inl f2_stands_c20))] H := by rw [eg25]; exact hP
        have hD : va_D A [(a2, .inr (2, [.int v2_count_c20, .int v2_masts, .ref a2_place, .ref a2_price, .ref a2_trackAside, .ref a2_side, .ref a2_stands, .ref a2_mastPeg])), (a2_place, .inl (cI, 40, .inl g17)), (a2_price, .inl (cI, 40, .inl g21)), (a2_trackAside, .inl (cJ, 40, .inr (.inl g25))), (a2_side, .inl (cI, 40, .inl f2_side_c20)), (a2_stands, .inl (cZ, 40, .inl f2_stands_c20))] := by rw [eg25]; exact hD
        obtain ⟨x26, ex26⟩ : ∃ y : Int32, y = y20_6 + (-1 : Int32) := ⟨_, rfl⟩
        replace hw := hw x26 ex26
        refine lv_iinc (v := x26) (lv' := [(6, .int x26), (0, .ref a2), (1, .int y20_1), (2, .int y20_2), (3, .int y20_3), (4, .long y20_4)]) hx hb dX2_insert_74 hl (k := 5) rfl (by rw [ex26]; rfl) (by decide) rfl (fun ls hl => ?_)
        refine lv_goto (tgt := 20) hx hb dX2_insert_77 (by decide) ?_
        exact ih_20 v2_count_c20 g17 g21 g25 f2_side_c20 f2_stands_c20 y20_1 y20_2 y20_3 y20_4 x26 _ _ _ (hP.sub [0, 1, 2, 3, 4, 5] rfl) (hD.sub [0, 1, 2, 3, 4, 5] (by decide) rfl) hS (lv_sub hl [1, 2, 3, 4, 5, 0] rfl) hw
  have hl := lv_entry ([.ref a2, .int p1, .int p2, .int p3, .long p4]) (n := 7) (Nat.le_of_ble_eq_true rfl)
  rw [lg_entry_eq]
  generalize (lg_sl ([.ref a2, .int p1, .int p2, .int p3, .long p4]) ++ List.replicate (7 - (lg_sl ([.ref a2, .int p1, .int p2, .int p3, .long p4])).length) Slot.unset).toArray = ls at hl ⊢
  have hl : lv_has ls 7 [(0, .ref a2), (1, .int p1), (2, .int p2), (3, .int p3), (4, .long p4)] := hl
  obtain ⟨H, hHe⟩ : ∃ H, H = s.heap := ⟨_, rfl⟩
  rw [← hHe] at hP
  have hS : va_S A s.heap H [] := by rw [hHe]; exact hS
  rw [← hHe]
  unfold wp_X2_insert at hw
  refine lv_aload_n hx hb dX2_insert_0 rfl (lv_at hl 0 rfl) ?_
  refine va_get (D := (dC, dI)) (ci := 2) (v := .int v2_count) (C := RX2) (T := TX2) (N := 8) hx hb hts inX2_insert_X2 hown hK hP 0 rfl rfl 0 (by decide) lk1 (fun _ h9 => h9) rfl dX2_insert_1 ?_
  refine lv_bipush (v := (40 : Int32)) hx hb dX2_insert_4 (by decide) ?_
  refine lv_icmp_ge (tgt := 13) hx hb dX2_insert_6 (by decide) (fun c1 => ?_) (fun c1 => ?_)
  · replace hw := hw.1 (c1)
    have hP9 := hP.sub (ws' := [(a2, .inr (2, [.int v2_count, .int v2_masts, .ref a2_place, .ref a2_price, .ref a2_trackAside, .ref a2_side, .ref a2_stands, .ref a2_mastPeg])), (a2_place, .inl (cI, 40, .inl f2_place)), (a2_price, .inl (cI, 40, .inl f2_price)), (a2_trackAside, .inl (cJ, 40, .inr (.inl f2_trackAside))), (a2_side, .inl (cI, 40, .inl f2_side)), (a2_stands, .inl (cZ, 40, .inl f2_stands))]) [0, 1, 2, 3, 4, 5] rfl
    have hD9 := hD.sub (ws' := [(a2, .inr (2, [.int v2_count, .int v2_masts, .ref a2_place, .ref a2_price, .ref a2_trackAside, .ref a2_side, .ref a2_stands, .ref a2_mastPeg])), (a2_place, .inl (cI, 40, .inl f2_place)), (a2_price, .inl (cI, 40, .inl f2_price)), (a2_trackAside, .inl (cJ, 40, .inr (.inl f2_trackAside))), (a2_side, .inl (cI, 40, .inl f2_side)), (a2_stands, .inl (cZ, 40, .inl f2_stands))]) [0, 1, 2, 3, 4, 5] (by decide) rfl
    exact W.vret hx hb hr (fun t ht hW => ⟨⟨(v2_count, f2_place, f2_price, f2_trackAside, f2_side, f2_stands), rfl, hw, by rw [ht]; exact hP9, va_K.moved hW.alike hK, hD9⟩, hS.F ht⟩) hS.2.2 dX2_insert_13
  · replace hw := hw.2 (c1)
    refine lv_iload_n hx hb dX2_insert_9 rfl (lv_at hl 1 rfl) ?_
    refine lv_if_ge (tgt := 14) hx hb dX2_insert_10 (by decide) (fun c2 => ?_) (fun c2 => ?_)
    · replace hw := hw.1 (c2)
      refine lv_aload_n hx hb dX2_insert_14 rfl (lv_at hl 0 rfl) ?_
      refine va_get (D := (dC, dI)) (ci := 2) (v := .int v2_count) (C := RX2) (T := TX2) (N := 8) hx hb hts inX2_insert_X2 hown hK hP 0 rfl rfl 0 (by decide) lk1 (fun _ h9 => h9) rfl dX2_insert_15 ?_
      refine lv_istore (lv' := [(6, .int v2_count), (0, .ref a2), (1, .int p1), (2, .int p2), (3, .int p3), (4, .long p4)]) hx hb dX2_insert_18 hl (by decide) rfl (fun ls hl => ?_)
      obtain ⟨n_20, hw⟩ := hw
      exact k_20 n_20 v2_count f2_place f2_price f2_trackAside f2_side f2_stands p1 p2 p3 p4 v2_count _ _ _ (hP.sub [0, 1, 2, 3, 4, 5] rfl) (hD.sub [0, 1, 2, 3, 4, 5] (by decide) rfl) hS (lv_sub hl [1, 2, 3, 4, 5, 0] rfl) hw
    · replace hw := hw.2 (c2)
      have hP9 := hP.sub (ws' := [(a2, .inr (2, [.int v2_count, .int v2_masts, .ref a2_place, .ref a2_price, .ref a2_trackAside, .ref a2_side, .ref a2_stands, .ref a2_mastPeg])), (a2_place, .inl (cI, 40, .inl f2_place)), (a2_price, .inl (cI, 40, .inl f2_price)), (a2_trackAside, .inl (cJ, 40, .inr (.inl f2_trackAside))), (a2_side, .inl (cI, 40, .inl f2_side)), (a2_stands, .inl (cZ, 40, .inl f2_stands))]) [0, 1, 2, 3, 4, 5] rfl
      have hD9 := hD.sub (ws' := [(a2, .inr (2, [.int v2_count, .int v2_masts, .ref a2_place, .ref a2_price, .ref a2_trackAside, .ref a2_side, .ref a2_stands, .ref a2_mastPeg])), (a2_place, .inl (cI, 40, .inl f2_place)), (a2_price, .inl (cI, 40, .inl f2_price)), (a2_trackAside, .inl (cJ, 40, .inr (.inl f2_trackAside))), (a2_side, .inl (cI, 40, .inl f2_side)), (a2_stands, .inl (cZ, 40, .inl f2_stands))]) [0, 1, 2, 3, 4, 5] (by decide) rfl
      exact W.vret hx hb hr (fun t ht hW => ⟨⟨(v2_count, f2_place, f2_price, f2_trackAside, f2_side, f2_stands), rfl, hw, by rw [ht]; exact hP9, va_K.moved hW.alike hK, hD9⟩, hS.F ht⟩) hS.2.2 dX2_insert_13

theorem inX2_spans_X2 : ∀ w ∈ wsX20, w ∈ wsX2_spans := fun _ h => List.mem_cons_of_mem _ (List.mem_append_right _ h)
def wp_X2_spans (Q : Int32 → Prop) (v2_masts : Int32) : Prop :=
  ((v2_masts ≤ (1 : Int32) → (Q (0 : Int32) )) ∧ (¬ v2_masts ≤ (1 : Int32) → (Q (v2_masts - (1 : Int32)) )))
set_option maxHeartbeats 4000000 in
set_option maxRecDepth 100000 in
theorem c_X2_spans (l : Launch) (dC : Nat → ClassId) (dI : Nat → Nat → Nat) (cI cJ cZ : ClassId) (a2 : Nat) (a2_place : Nat) (a2_price : Nat) (a2_trackAside : Nat) (a2_side : Nat) (a2_stands : Nat) (a2_mastPeg : Nat) (sz : Nat) (v2_count : Int32) (v2_masts : Int32) (Q : Int32 → Prop) (hw : wp_X2_spans Q v2_masts ) : Met l yX2_spans wsX2_spans ({ frames := 0, cells := 0, slots := 0, locals := 0 } : Room) (va_Pc [.ref a2] (fun U => U.heap.size = sz ∧ va_P (dC, dI) vwCl [(a2, .inr (2, [.int v2_count, .int v2_masts, .ref a2_place, .ref a2_price, .ref a2_trackAside, .ref a2_side, .ref a2_stands, .ref a2_mastPeg]))] U.heap ∧ va_K (dC, dI) vwCl [(cI, .int), (cJ, .long), (cZ, .boolean)] U ∧ va_D (fun _ => True) [(a2, .inr (2, [.int v2_count, .int v2_masts, .ref a2_place, .ref a2_price, .ref a2_trackAside, .ref a2_side, .ref a2_stands, .ref a2_mastPeg]))])) (va_Qi (fun r (u : Unit) => Q r) (fun (u : Unit) t => va_P (dC, dI) vwCl [(a2, .inr (2, [.int v2_count, .int v2_masts, .ref a2_place, .ref a2_price, .ref a2_trackAside, .ref a2_side, .ref a2_stands, .ref a2_mastPeg]))] t.heap ∧ va_K (dC, dI) vwCl [(cI, .int), (cJ, .long), (cZ, .boolean)] t ∧ va_D (va_A [(a2, .inr (2, [.int v2_count, .int v2_masts, .ref a2_place, .ref a2_price, .ref a2_trackAside, .ref a2_side, .ref a2_stands, .ref a2_mastPeg]))] sz) [(a2, .inr (2, [.int v2_count, .int v2_masts, .ref a2_place, .ref a2_price, .ref a2_trackAside, .ref a2_side, .ref a2_stands, .ref a2_mastPeg]))]) (va_A [(a2, .inr (2, [.int v2_count, .int v2_masts, .ref a2_place, .ref a2_price, .ref a2_trackAside, .ref a2_side, .ref a2_stands, .ref a2_mastPeg]))] sz)) 0 0 (va_A [(a2, .inr (2, [.int v2_count, .int v2_masts, .ref a2_place, .ref a2_price, .ref a2_trackAside, .ref a2_side, .ref a2_stands, .ref a2_mastPeg]))] sz) := by
  refine Met.ofW (cc := cX2_spans) (maxL := 1) (ret := (some .int)) (by decide) rfl ?_
  intro p e s m args below meth c s₁ B hml hv
  obtain ⟨rfl, hsz, hP, hK, hD0⟩ := hv
  have hx := B.exec
  have hb := B.bytes
  have hr := B.returns
  have hts := atoms_spec (ws := wsX2_spans) B.pre
  have hown : s.vm.findClass RX2 = some m.cls := findClass_of_methodNamed B.named
  have hlocks := B.notSynchronized
  subst hsz
  have hD := hD0.self (sz := s.heap.size)
  generalize hAe : va_A [(a2, .inr (2, [.int v2_count, .int v2_masts, .ref a2_place, .ref a2_price, .ref a2_trackAside, .ref a2_side, .ref a2_stands, .ref a2_mastPeg]))] s.heap.size = A at hD ⊢
  have hA : ∀ q : Nat, s.heap.size ≤ q → A q := fun q h => by rw [← hAe]; exact Or.inr h
  have hS : va_S A s.heap s.heap [] := va_S.rf
  have hP : va_P (dC, dI) vwCl [(a2, .inr (2, [.int v2_count, .int v2_masts, .ref a2_place, .ref a2_price, .ref a2_trackAside, .ref a2_side, .ref a2_stands, .ref a2_mastPeg]))] s.heap := hP
  have lk1 := hts (.fieldLink RX2 40 "WireRow$PegRow" "masts" "I") (by decide +kernel)
  have hl := lv_entry ([.ref a2]) (n := 1) (Nat.le_of_ble_eq_true rfl)
  rw [lg_entry_eq]
  generalize (lg_sl ([.ref a2]) ++ List.replicate (1 - (lg_sl ([.ref a2])).length) Slot.unset).toArray = ls at hl ⊢
  have hl : lv_has ls 1 [(0, .ref a2)] := hl
  obtain ⟨H, hHe⟩ : ∃ H, H = s.heap := ⟨_, rfl⟩
  rw [← hHe] at hP
  have hS : va_S A s.heap H [] := by rw [hHe]; exact hS
  rw [← hHe]
  unfold wp_X2_spans at hw
  refine lv_aload_n hx hb dX2_spans_0 rfl (lv_at hl 0 rfl) ?_
  refine va_get (D := (dC, dI)) (ci := 2) (v := .int v2_masts) (C := RX2) (T := TX2) (N := 8) hx hb hts inX2_spans_X2 hown hK hP 0 rfl rfl 1 (by decide) lk1 (fun _ h9 => h9) rfl dX2_spans_1 ?_
  refine lv_iconst (v := (1 : Int32)) hx hb dX2_spans_4 (by decide) ?_
  refine lv_icmp_le (tgt := 17) hx hb dX2_spans_5 (by decide) (fun c1 => ?_) (fun c1 => ?_)
  · replace hw := hw.1 (c1)
    refine lv_iconst (v := (0 : Int32)) hx hb dX2_spans_17 (by decide) ?_
    have hP9 := hP.sub (ws' := [(a2, .inr (2, [.int v2_count, .int v2_masts, .ref a2_place, .ref a2_price, .ref a2_trackAside, .ref a2_side, .ref a2_stands, .ref a2_mastPeg]))]) [0] rfl
    have hD9 := hD.sub (ws' := [(a2, .inr (2, [.int v2_count, .int v2_masts, .ref a2_place, .ref a2_price, .ref a2_trackAside, .ref a2_side, .ref a2_stands, .ref a2_mastPeg]))]) [0] (by decide) rfl
    exact W.iret (v := (0 : Int32)) hx hb hr (fun t ht hW => ⟨⟨(0 : Int32), (), rfl, hw, by rw [ht]; exact hP9, va_K.moved hW.alike hK, hD9⟩, hS.F ht⟩) hS.2.2 dX2_spans_18
  · replace hw := hw.2 (c1)
    refine lv_aload_n hx hb dX2_spans_8 rfl (lv_at hl 0 rfl) ?_
    refine va_get (D := (dC, dI)) (ci := 2) (v := .int v2_masts) (C := RX2) (T := TX2) (N := 8) hx hb hts inX2_spans_X2 hown hK hP 0 rfl rfl 1 (by decide) lk1 (fun _ h9 => h9) rfl dX2_spans_9 ?_
    refine lv_iconst (v := (1 : Int32)) hx hb dX2_spans_12 (by decide) ?_
    refine lv_isub hx hb dX2_spans_13 ?_
    refine lv_goto (tgt := 18) hx hb dX2_spans_14 (by decide) ?_
    have hP9 := hP.sub (ws' := [(a2, .inr (2, [.int v2_count, .int v2_masts, .ref a2_place, .ref a2_price, .ref a2_trackAside, .ref a2_side, .ref a2_stands, .ref a2_mastPeg]))]) [0] rfl
    have hD9 := hD.sub (ws' := [(a2, .inr (2, [.int v2_count, .int v2_masts, .ref a2_place, .ref a2_price, .ref a2_trackAside, .ref a2_side, .ref a2_stands, .ref a2_mastPeg]))]) [0] (by decide) rfl
    exact W.iret (v := (v2_masts - (1 : Int32))) hx hb hr (fun t ht hW => ⟨⟨(v2_masts - (1 : Int32)), (), rfl, hw, by rw [ht]; exact hP9, va_K.moved hW.alike hK, hD9⟩, hS.F ht⟩) hS.2.2 dX2_spans_18

theorem inX2_hasSpan_X2 : ∀ w ∈ wsX20, w ∈ wsX2_hasSpan := fun _ h => List.mem_cons_of_mem _ (List.mem_append_right _ h)
def wp_X2_hasSpan (Q : Int32 → Prop) (v2_masts : Int32) (p1 : Int32) : Prop :=
  ((p1 < 0 → (((0 : Int32) = 0 ∨ (0 : Int32) = 1) ∧ Q (0 : Int32) )) ∧ (¬ p1 < 0 → (wp_X2_spans (fun r3 => ((r3 ≤ p1 → (((0 : Int32) = 0 ∨ (0 : Int32) = 1) ∧ Q (0 : Int32) )) ∧ (¬ r3 ≤ p1 → (((1 : Int32) = 0 ∨ (1 : Int32) = 1) ∧ Q (1 : Int32) )))) v2_masts)))
set_option maxHeartbeats 4000000 in
set_option maxRecDepth 100000 in
theorem c_X2_hasSpan (l : Launch) (dC : Nat → ClassId) (dI : Nat → Nat → Nat) (cI cJ cZ : ClassId) (a2 : Nat) (a2_place : Nat) (a2_price : Nat) (a2_trackAside : Nat) (a2_side : Nat) (a2_stands : Nat) (a2_mastPeg : Nat) (sz : Nat) (v2_count : Int32) (v2_masts : Int32) (p1 : Int32) (Q : Int32 → Prop) (hw : wp_X2_hasSpan Q v2_masts p1) : Met l yX2_hasSpan wsX2_hasSpan ({ frames := 1, cells := 0, slots := 0, locals := 20 } : Room) (va_Pc [.ref a2, .int p1] (fun U => U.heap.size = sz ∧ va_P (dC, dI) vwCl [(a2, .inr (2, [.int v2_count, .int v2_masts, .ref a2_place, .ref a2_price, .ref a2_trackAside, .ref a2_side, .ref a2_stands, .ref a2_mastPeg]))] U.heap ∧ va_K (dC, dI) vwCl [(cI, .int), (cJ, .long), (cZ, .boolean)] U ∧ va_D (fun _ => True) [(a2, .inr (2, [.int v2_count, .int v2_masts, .ref a2_place, .ref a2_price, .ref a2_trackAside, .ref a2_side, .ref a2_stands, .ref a2_mastPeg]))])) (va_Qi (fun r (u : Unit) => Q r) (fun (u : Unit) t => va_P (dC, dI) vwCl [(a2, .inr (2, [.int v2_count, .int v2_masts, .ref a2_place, .ref a2_price, .ref a2_trackAside, .ref a2_side, .ref a2_stands, .ref a2_mastPeg]))] t.heap ∧ va_K (dC, dI) vwCl [(cI, .int), (cJ, .long), (cZ, .boolean)] t ∧ va_D (va_A [(a2, .inr (2, [.int v2_count, .int v2_masts, .ref a2_place, .ref a2_price, .ref a2_trackAside, .ref a2_side, .ref a2_stands, .ref a2_mastPeg]))] sz) [(a2, .inr (2, [.int v2_count, .int v2_masts, .ref a2_place, .ref a2_price, .ref a2_trackAside, .ref a2_side, .ref a2_stands, .ref a2_mastPeg]))]) (va_A [(a2, .inr (2, [.int v2_count, .int v2_masts, .ref a2_place, .ref a2_price, .ref a2_trackAside, .ref a2_side, .ref a2_stands, .ref a2_mastPeg]))] sz)) 0 0 (va_A [(a2, .inr (2, [.int v2_count, .int v2_masts, .ref a2_place, .ref a2_price, .ref a2_trackAside, .ref a2_side, .ref a2_stands, .ref a2_mastPeg]))] sz) := by
  refine Met.ofW (cc := cX2_hasSpan) (maxL := 2) (ret := (some .boolean)) (by decide) rfl ?_
  intro p e s m args below meth c s₁ B hml hv
  obtain ⟨rfl, hsz, hP, hK, hD0⟩ := hv
  have hx := B.exec
  have hb := B.bytes
  have hr := B.returns
  have hts := atoms_spec (ws := wsX2_hasSpan) B.pre
  have hown : s.vm.findClass RX2 = some m.cls := findClass_of_methodNamed B.named
  have hlocks := B.notSynchronized
  subst hsz
  have hD := hD0.self (sz := s.heap.size)
  generalize hAe : va_A [(a2, .inr (2, [.int v2_count, .int v2_masts, .ref a2_place, .ref a2_price, .ref a2_trackAside, .ref a2_side, .ref a2_stands, .ref a2_mastPeg]))] s.heap.size = A at hD ⊢
  have hA : ∀ q : Nat, s.heap.size ≤ q → A q := fun q h => by rw [← hAe]; exact Or.inr h
  have hS : va_S A s.heap s.heap [] := va_S.rf
  have hP : va_P (dC, dI) vwCl [(a2, .inr (2, [.int v2_count, .int v2_masts, .ref a2_place, .ref a2_price, .ref a2_trackAside, .ref a2_side, .ref a2_stands, .ref a2_mastPeg]))] s.heap := hP
  have hl := lv_entry ([.ref a2, .int p1]) (n := 2) (Nat.le_of_ble_eq_true rfl)
  rw [lg_entry_eq]
  generalize (lg_sl ([.ref a2, .int p1]) ++ List.replicate (2 - (lg_sl ([.ref a2, .int p1])).length) Slot.unset).toArray = ls at hl ⊢
  have hl : lv_has ls 2 [(0, .ref a2), (1, .int p1)] := hl
  obtain ⟨H, hHe⟩ : ∃ H, H = s.heap := ⟨_, rfl⟩
  rw [← hHe] at hP
  have hS : va_S A s.heap H [] := by rw [hHe]; exact hS
  rw [← hHe]
  unfold wp_X2_hasSpan at hw
  refine lv_iload_n hx hb dX2_hasSpan_0 rfl (lv_at hl 1 rfl) ?_
  refine lv_if_lt (tgt := 16) hx hb dX2_hasSpan_1 (by decide) (fun c1 => ?_) (fun c1 => ?_)
  · replace hw := hw.1 (c1)
    refine lv_iconst (v := (0 : Int32)) hx hb dX2_hasSpan_16 (by decide) ?_
    have hP9 := hP.sub (ws' := [(a2, .inr (2, [.int v2_count, .int v2_masts, .ref a2_place, .ref a2_price, .ref a2_trackAside, .ref a2_side, .ref a2_stands, .ref a2_mastPeg]))]) [0] rfl
    have hD9 := hD.sub (ws' := [(a2, .inr (2, [.int v2_count, .int v2_masts, .ref a2_place, .ref a2_price, .ref a2_trackAside, .ref a2_side, .ref a2_stands, .ref a2_mastPeg]))]) [0] (by decide) rfl
    obtain ⟨h2, hw⟩ := hw
    exact W.zret (v := (0 : Int32)) hx hb hr (wg_bool h2) (fun t ht hW => ⟨⟨(0 : Int32), (), rfl, hw, by rw [ht]; exact hP9, va_K.moved hW.alike hK, hD9⟩, hS.F ht⟩) hS.2.2 dX2_hasSpan_17
  · replace hw := hw.2 (c1)
    refine lv_iload_n hx hb dX2_hasSpan_4 rfl (lv_at hl 1 rfl) ?_
    refine lv_aload_n hx hb dX2_hasSpan_5 rfl (lv_at hl 0 rfl) ?_
    have hPc := hP.sub (ws' := [(a2, .inr (2, [.int v2_count, .int v2_masts, .ref a2_place, .ref a2_price, .ref a2_trackAside, .ref a2_side, .ref a2_stands, .ref a2_mastPeg]))]) [0] rfl
    have hDc := hD.sub (ws' := [(a2, .inr (2, [.int v2_count, .int v2_masts, .ref a2_place, .ref a2_price, .ref a2_trackAside, .ref a2_side, .ref a2_stands, .ref a2_mastPeg]))]) [0] (by decide) rfl
    have hFc := va_free (wc := [(a2, .inr (2, [.int v2_count, .int v2_masts, .ref a2_place, .ref a2_price, .ref a2_trackAside, .ref a2_side, .ref a2_stands, .ref a2_mastPeg]))]) hD hS hA [0] rfl
    refine va_calli (va_runV (As := []) (rest := [.int p1]) ⟨hx, hb, hml, hown, hts⟩ (c_X2_spans l dC dI cI cJ cZ a2 a2_place a2_price a2_trackAside a2_side a2_stands a2_mastPeg H.size v2_count v2_masts _ hw) (cwV 0 hts gX2_hasSpan_X2_spans rfl rfl rfl (by decide +kernel) ⟨Nat.le_of_ble_eq_true rfl, Nat.le_of_ble_eq_true rfl⟩) ⟨fun a U g mk q => by obtain ⟨q0, q1, qP, qK, qD⟩ := q; exact ⟨q0, q1, qP, va_K.moved (u := U) (U := U.calling g mk a) (Vm.Alike.refl U.vm) qK, qD⟩, va_recv hK hP (ci := 2) (q0 := 0) rfl rfl, fun U hU hW => ⟨rfl, by rw [hU], by rw [hU]; exact hPc, va_K.moved hW.alike hK, hDc.weaken (fun _ _ _ _ => trivial)⟩⟩ rfl rfl hl.1 rfl (lv_room (Nat.le_of_ble_eq_true rfl)) dX2_hasSpan_6 ⟨(Nat.zero_le _), (Nat.zero_le _)⟩) hS (fun q _ h => hFc q h) hFc (fun r3 u t H1 locs ht hvm hw hB hz1 hk1 hS => ?_)
    obtain ⟨hP1, -, hD1⟩ := hB
    try dsimp only at hw
    rw [ht] at hP1
    obtain ⟨hP, hD⟩ := va_join (wr := []) (w1 := [(a2, .inr (2, [.int v2_count, .int v2_masts, .ref a2_place, .ref a2_price, .ref a2_trackAside, .ref a2_side, .ref a2_stands, .ref a2_mastPeg]))]) hP hD [0] [] rfl rfl (by decide) (by decide) hk1 hFc hP1 hD1
    generalize H1 = H at hP hS ⊢
    have hP : va_P (dC, dI) vwCl [(a2, .inr (2, [.int v2_count, .int v2_masts, .ref a2_place, .ref a2_price, .ref a2_trackAside, .ref a2_side, .ref a2_stands, .ref a2_mastPeg]))] H := hP
    have hD : va_D A [(a2, .inr (2, [.int v2_count, .int v2_masts, .ref a2_place, .ref a2_price, .ref a2_trackAside, .ref a2_side, .ref a2_stands, .ref a2_mastPeg]))] := hD
    refine lv_icmp_ge (tgt := 16) hx hb dX2_hasSpan_9 (by decide) (fun c4 => ?_) (fun c4 => ?_)
    · replace hw := hw.1 (c4)
      refine lv_iconst (v := (0 : Int32)) hx hb dX2_hasSpan_16 (by decide) ?_
      have hP9 := hP.sub (ws' := [(a2, .inr (2, [.int v2_count, .int v2_masts, .ref a2_place, .ref a2_price, .ref a2_trackAside, .ref a2_side, .ref a2_stands, .ref a2_mastPeg]))]) [0] rfl
      have hD9 := hD.sub (ws' := [(a2, .inr (2, [.int v2_count, .int v2_masts, .ref a2_place, .ref a2_price, .ref a2_trackAside, .ref a2_side, .ref a2_stands, .ref a2_mastPeg]))]) [0] (by decide) rfl
      obtain ⟨h5, hw⟩ := hw
      exact W.zret (v := (0 : Int32)) hx hb hr (wg_bool h5) (fun t ht hW => ⟨⟨(0 : Int32), (), rfl, hw, by rw [ht]; exact hP9, va_K.moved hW.alike hK, hD9⟩, hS.F ht⟩) hS.2.2 dX2_hasSpan_17
    · replace hw := hw.2 (c4)
      refine lv_iconst (v := (1 : Int32)) hx hb dX2_hasSpan_12 (by decide) ?_
      refine lv_goto (tgt := 17) hx hb dX2_hasSpan_13 (by decide) ?_
      have hP9 := hP.sub (ws' := [(a2, .inr (2, [.int v2_count, .int v2_masts, .ref a2_place, .ref a2_price, .ref a2_trackAside, .ref a2_side, .ref a2_stands, .ref a2_mastPeg]))]) [0] rfl
      have hD9 := hD.sub (ws' := [(a2, .inr (2, [.int v2_count, .int v2_masts, .ref a2_place, .ref a2_price, .ref a2_trackAside, .ref a2_side, .ref a2_stands, .ref a2_mastPeg]))]) [0] (by decide) rfl
      obtain ⟨h6, hw⟩ := hw
      exact W.zret (v := (1 : Int32)) hx hb hr (wg_bool h6) (fun t ht hW => ⟨⟨(1 : Int32), (), rfl, hw, by rw [ht]; exact hP9, va_K.moved hW.alike hK, hD9⟩, hS.F ht⟩) hS.2.2 dX2_hasSpan_17

theorem inX2_spanBegin_X2 : ∀ w ∈ wsX20, w ∈ wsX2_spanBegin := fun _ h => List.mem_cons_of_mem _ (List.mem_append_right _ h)
def wp_X2_spanBegin (Q : Int32 → Prop) (f2_place : Nat → Int32) (f2_mastPeg : Nat → Int32) (p1 : Int32) : Prop :=
  (vp_in p1 40 ∧ (vp_in (f2_mastPeg p1.toNatClampNeg) 40 ∧ (Q (f2_place (f2_mastPeg p1.toNatClampNeg).toNatClampNeg) )))
set_option maxHeartbeats 4000000 in
set_option maxRecDepth 100000 in
theorem c_X2_spanBegin (l : Launch) (dC : Nat → ClassId) (dI : Nat → Nat → Nat) (cI cJ cZ : ClassId) (a2 : Nat) (a2_place : Nat) (a2_price : Nat) (a2_trackAside : Nat) (a2_side : Nat) (a2_stands : Nat) (a2_mastPeg : Nat) (sz : Nat) (v2_count : Int32) (v2_masts : Int32) (f2_place : Nat → Int32) (f2_mastPeg : Nat → Int32) (p1 : Int32) (Q : Int32 → Prop) (hw : wp_X2_spanBegin Q f2_place f2_mastPeg p1) : Met l yX2_spanBegin wsX2_spanBegin ({ frames := 0, cells := 0, slots := 0, locals := 0 } : Room) (va_Pc [.ref a2, .int p1] (fun U => U.heap.size = sz ∧ va_P (dC, dI) vwCl [(a2, .inr (2, [.int v2_count, .int v2_masts, .ref a2_place, .ref a2_price, .ref a2_trackAside, .ref a2_side, .ref a2_stands, .ref a2_mastPeg])), (a2_place, .inl (cI, 40, .inl f2_place)), (a2_mastPeg, .inl (cI, 40, .inl f2_mastPeg))] U.heap ∧ va_K (dC, dI) vwCl [(cI, .int), (cJ, .long), (cZ, .boolean)] U ∧ va_D (fun _ => True) [(a2, .inr (2, [.int v2_count, .int v2_masts, .ref a2_place, .ref a2_price, .ref a2_trackAside, .ref a2_side, .ref a2_stands, .ref a2_mastPeg])), (a2_place, .inl (cI, 40, .inl f2_place)), (a2_mastPeg, .inl (cI, 40, .inl f2_mastPeg))])) (va_Qi (fun r (u : Unit) => Q r) (fun (u : Unit) t => va_P (dC, dI) vwCl [(a2, .inr (2, [.int v2_count, .int v2_masts, .ref a2_place, .ref a2_price, .ref a2_trackAside, .ref a2_side, .ref a2_stands, .ref a2_mastPeg])), (a2_place, .inl (cI, 40, .inl f2_place)), (a2_mastPeg, .inl (cI, 40, .inl f2_mastPeg))] t.heap ∧ va_K (dC, dI) vwCl [(cI, .int), (cJ, .long), (cZ, .boolean)] t ∧ va_D (va_A [(a2, .inr (2, [.int v2_count, .int v2_masts, .ref a2_place, .ref a2_price, .ref a2_trackAside, .ref a2_side, .ref a2_stands, .ref a2_mastPeg])), (a2_place, .inl (cI, 40, .inl f2_place)), (a2_mastPeg, .inl (cI, 40, .inl f2_mastPeg))] sz) [(a2, .inr (2, [.int v2_count, .int v2_masts, .ref a2_place, .ref a2_price, .ref a2_trackAside, .ref a2_side, .ref a2_stands, .ref a2_mastPeg])), (a2_place, .inl (cI, 40, .inl f2_place)), (a2_mastPeg, .inl (cI, 40, .inl f2_mastPeg))]) (va_A [(a2, .inr (2, [.int v2_count, .int v2_masts, .ref a2_place, .ref a2_price, .ref a2_trackAside, .ref a2_side, .ref a2_stands, .ref a2_mastPeg])), (a2_place, .inl (cI, 40, .inl f2_place)), (a2_mastPeg, .inl (cI, 40, .inl f2_mastPeg))] sz)) 0 0 (va_A [(a2, .inr (2, [.int v2_count, .int v2_masts, .ref a2_place, .ref a2_price, .ref a2_trackAside, .ref a2_side, .ref a2_stands, .ref a2_mastPeg])), (a2_place, .inl (cI, 40, .inl f2_place)), (a2_mastPeg, .inl (cI, 40, .inl f2_mastPeg))] sz) := by
  refine Met.ofW (cc := cX2_spanBegin) (maxL := 2) (ret := (some .int)) (by decide) rfl ?_
  intro p e s m args below meth c s₁ B hml hv
  obtain ⟨rfl, hsz, hP, hK, hD0⟩ := hv
  have hx := B.exec
  have hb := B.bytes
  have hr := B.returns
  have hts := atoms_spec (ws := wsX2_spanBegin) B.pre
  have hown : s.vm.findClass RX2 = some m.cls := findClass_of_methodNamed B.named
  have hlocks := B.notSynchronized
  subst hsz
  have hD := hD0.self (sz := s.heap.size)
  generalize hAe : va_A [(a2, .inr (2, [.int v2_count, .int v2_masts, .ref a2_place, .ref a2_price, .ref a2_trackAside, .ref a2_side, .ref a2_stands, .ref a2_mastPeg])), (a2_place, .inl (cI, 40, .inl f2_place)), (a2_mastPeg, .inl (cI, 40, .inl f2_mastPeg))] s.heap.size = A at hD ⊢
  have hA : ∀ q : Nat, s.heap.size ≤ q → A q := fun q h => by rw [← hAe]; exact Or.inr h
  have hS : va_S A s.heap s.heap [] := va_S.rf
  have hP : va_P (dC, dI) vwCl [(a2, .inr (2, [.int v2_count, .int v2_masts, .ref a2_place, .ref a2_price, .ref a2_trackAside, .ref a2_side, .ref a2_stands, .ref a2_mastPeg])), (a2_place, .inl (cI, 40, .inl f2_place)), (a2_mastPeg, .inl (cI, 40, .inl f2_mastPeg))] s.heap := hP
  have lk1 := hts (.fieldLink RX2 9 "WireRow$PegRow" "place" "[I") (by decide +kernel)
  have lk2 := hts (.fieldLink RX2 29 "WireRow$PegRow" "mastPeg" "[I") (by decide +kernel)
  have hl := lv_entry ([.ref a2, .int p1]) (n := 2) (Nat.le_of_ble_eq_true rfl)
  rw [lg_entry_eq]
  generalize (lg_sl ([.ref a2, .int p1]) ++ List.replicate (2 - (lg_sl ([.ref a2, .int p1])).length) Slot.unset).toArray = ls at hl ⊢
  have hl : lv_has ls 2 [(0, .ref a2), (1, .int p1)] := hl
  obtain ⟨H, hHe⟩ : ∃ H, H = s.heap := ⟨_, rfl⟩
  rw [← hHe] at hP
  have hS : va_S A s.heap H [] := by rw [hHe]; exact hS
  rw [← hHe]
  unfold wp_X2_spanBegin at hw
  refine lv_aload_n hx hb dX2_spanBegin_0 rfl (lv_at hl 0 rfl) ?_
  refine va_get (D := (dC, dI)) (ci := 2) (v := .ref a2_place) (C := RX2) (T := TX2) (N := 8) hx hb hts inX2_spanBegin_X2 hown hK hP 0 rfl rfl 2 (by decide) lk1 (fun _ h9 => h9) rfl dX2_spanBegin_1 ?_
  refine lv_aload_n hx hb dX2_spanBegin_4 rfl (lv_at hl 0 rfl) ?_
  refine va_get (D := (dC, dI)) (ci := 2) (v := .ref a2_mastPeg) (C := RX2) (T := TX2) (N := 8) hx hb hts inX2_spanBegin_X2 hown hK hP 0 rfl rfl 7 (by decide) lk2 (fun _ h9 => h9) rfl dX2_spanBegin_5 ?_
  refine lv_iload_n hx hb dX2_spanBegin_8 rfl (lv_at hl 1 rfl) ?_
  obtain ⟨h1, hw⟩ := hw
  refine va_iald hx hb hK hP 2 0 rfl rfl h1 dX2_spanBegin_9 ?_
  obtain ⟨h2, hw⟩ := hw
  refine va_iald hx hb hK hP 1 0 rfl rfl h2 dX2_spanBegin_10 ?_
  have hP9 := hP.sub (ws' := [(a2, .inr (2, [.int v2_count, .int v2_masts, .ref a2_place, .ref a2_price, .ref a2_trackAside, .ref a2_side, .ref a2_stands, .ref a2_mastPeg])), (a2_place, .inl (cI, 40, .inl f2_place)), (a2_mastPeg, .inl (cI, 40, .inl f2_mastPeg))]) [0, 1, 2] rfl
  have hD9 := hD.sub (ws' := [(a2, .inr (2, [.int v2_count, .int v2_masts, .ref a2_place, .ref a2_price, .ref a2_trackAside, .ref a2_side, .ref a2_stands, .ref a2_mastPeg])), (a2_place, .inl (cI, 40, .inl f2_place)), (a2_mastPeg, .inl (cI, 40, .inl f2_mastPeg))]) [0, 1, 2] (by decide) rfl
  exact W.iret (v := (f2_place (f2_mastPeg p1.toNatClampNeg).toNatClampNeg)) hx hb hr (fun t ht hW => ⟨⟨(f2_place (f2_mastPeg p1.toNatClampNeg).toNatClampNeg), (), rfl, hw, by rw [ht]; exact hP9, va_K.moved hW.alike hK, hD9⟩, hS.F ht⟩) hS.2.2 dX2_spanBegin_11

theorem inX2_spanEnd_X2 : ∀ w ∈ wsX20, w ∈ wsX2_spanEnd := fun _ h => List.mem_cons_of_mem _ (List.mem_append_right _ h)
def wp_X2_spanEnd (Q : Int32 → Prop) (f2_place : Nat → Int32) (f2_mastPeg : Nat → Int32) (p1 : Int32) : Prop :=
  (vp_in (p1 + (1 : Int32)) 40 ∧ (vp_in (f2_mastPeg (p1 + (1 : Int32)).toNatClampNeg) 40 ∧ (Q (f2_place (f2_mastPeg (p1 + (1 : Int32)).toNatClampNeg).toNatClampNeg) )))
set_option maxHeartbeats 4000000 in
set_option maxRecDepth 100000 in
theorem c_X2_spanEnd (l : Launch) (dC : Nat → ClassId) (dI : Nat → Nat → Nat) (cI cJ cZ : ClassId) (a2 : Nat) (a2_place : Nat) (a2_price : Nat) (a2_trackAside : Nat) (a2_side : Nat) (a2_stands : Nat) (a2_mastPeg : Nat) (sz : Nat) (v2_count : Int32) (v2_masts : Int32) (f2_place : Nat → Int32) (f2_mastPeg : Nat → Int32) (p1 : Int32) (Q : Int32 → Prop) (hw : wp_X2_spanEnd Q f2_place f2_mastPeg p1) : Met l yX2_spanEnd wsX2_spanEnd ({ frames := 0, cells := 0, slots := 0, locals := 0 } : Room) (va_Pc [.ref a2, .int p1] (fun U => U.heap.size = sz ∧ va_P (dC, dI) vwCl [(a2, .inr (2, [.int v2_count, .int v2_masts, .ref a2_place, .ref a2_price, .ref a2_trackAside, .ref a2_side, .ref a2_stands, .ref a2_mastPeg])), (a2_place, .inl (cI, 40, .inl f2_place)), (a2_mastPeg, .inl (cI, 40, .inl f2_mastPeg))] U.heap ∧ va_K (dC, dI) vwCl [(cI, .int), (cJ, .long), (cZ, .boolean)] U ∧ va_D (fun _ => True) [(a2, .inr (2, [.int v2_count, .int v2_masts, .ref a2_place, .ref a2_price, .ref a2_trackAside, .ref a2_side, .ref a2_stands, .ref a2_mastPeg])), (a2_place, .inl (cI, 40, .inl f2_place)), (a2_mastPeg, .inl (cI, 40, .inl f2_mastPeg))])) (va_Qi (fun r (u : Unit) => Q r) (fun (u : Unit) t => va_P (dC, dI) vwCl [(a2, .inr (2, [.int v2_count, .int v2_masts, .ref a2_place, .ref a2_price, .ref a2_trackAside, .ref a2_side, .ref a2_stands, .ref a2_mastPeg])), (a2_place, .inl (cI, 40, .inl f2_place)), (a2_mastPeg, .inl (cI, 40, .inl f2_mastPeg))] t.heap ∧ va_K (dC, dI) vwCl [(cI, .int), (cJ, .long), (cZ, .boolean)] t ∧ va_D (va_A [(a2, .inr (2, [.int v2_count, .int v2_masts, .ref a2_place, .ref a2_price, .ref a2_trackAside, .ref a2_side, .ref a2_stands, .ref a2_mastPeg])), (a2_place, .inl (cI, 40, .inl f2_place)), (a2_mastPeg, .inl (cI, 40, .inl f2_mastPeg))] sz) [(a2, .inr (2, [.int v2_count, .int v2_masts, .ref a2_place, .ref a2_price, .ref a2_trackAside, .ref a2_side, .ref a2_stands, .ref a2_mastPeg])), (a2_place, .inl (cI, 40, .inl f2_place)), (a2_mastPeg, .inl (cI, 40, .inl f2_mastPeg))]) (va_A [(a2, .inr (2, [.int v2_count, .int v2_masts, .ref a2_place, .ref a2_price, .ref a2_trackAside, .ref a2_side, .ref a2_stands, .ref a2_mastPeg])), (a2_place, .inl (cI, 40, .inl f2_place)), (a2_mastPeg, .inl (cI, 40, .inl f2_mastPeg))] sz)) 0 0 (va_A [(a2, .inr (2, [.int v2_count, .int v2_masts, .ref a2_place, .ref a2_price, .ref a2_trackAside, .ref a2_side, .ref a2_stands, .ref a2_mastPeg])), (a2_place, .inl (cI, 40, .inl f2_place)), (a2_mastPeg, .inl (cI, 40, .inl f2_mastPeg))] sz) := by
  refine Met.ofW (cc := cX2_spanEnd) (maxL := 2) (ret := (some .int)) (by decide) rfl ?_
  intro p e s m args below meth c s₁ B hml hv
  obtain ⟨rfl, hsz, hP, hK, hD0⟩ := hv
  have hx := B.exec
  have hb := B.bytes
  have hr := B.returns
  have hts := atoms_spec (ws := wsX2_spanEnd) B.pre
  have hown : s.vm.findClass RX2 = some m.cls := findClass_of_methodNamed B.named
  have hlocks := B.notSynchronized
  subst hsz
  have hD := hD0.self (sz := s.heap.size)
  generalize hAe : va_A [(a2, .inr (2, [.int v2_count, .int v2_masts, .ref a2_place, .ref a2_price, .ref a2_trackAside, .ref a2_side, .ref a2_stands, .ref a2_mastPeg])), (a2_place, .inl (cI, 40, .inl f2_place)), (a2_mastPeg, .inl (cI, 40, .inl f2_mastPeg))] s.heap.size = A at hD ⊢
  have hA : ∀ q : Nat, s.heap.size ≤ q → A q := fun q h => by rw [← hAe]; exact Or.inr h
  have hS : va_S A s.heap s.heap [] := va_S.rf
  have hP : va_P (dC, dI) vwCl [(a2, .inr (2, [.int v2_count, .int v2_masts, .ref a2_place, .ref a2_price, .ref a2_trackAside, .ref a2_side, .ref a2_stands, .ref a2_mastPeg])), (a2_place, .inl (cI, 40, .inl f2_place)), (a2_mastPeg, .inl (cI, 40, .inl f2_mastPeg))] s.heap := hP
  have lk1 := hts (.fieldLink RX2 9 "WireRow$PegRow" "place" "[I") (by decide +kernel)
  have lk2 := hts (.fieldLink RX2 29 "WireRow$PegRow" "mastPeg" "[I") (by decide +kernel)
  have hl := lv_entry ([.ref a2, .int p1]) (n := 2) (Nat.le_of_ble_eq_true rfl)
  rw [lg_entry_eq]
  generalize (lg_sl ([.ref a2, .int p1]) ++ List.replicate (2 - (lg_sl ([.ref a2, .int p1])).length) Slot.unset).toArray = ls at hl ⊢
  have hl : lv_has ls 2 [(0, .ref a2), (1, .int p1)] := hl
  obtain ⟨H, hHe⟩ : ∃ H, H = s.heap := ⟨_, rfl⟩
  rw [← hHe] at hP
  have hS : va_S A s.heap H [] := by rw [hHe]; exact hS
  rw [← hHe]
  unfold wp_X2_spanEnd at hw
  refine lv_aload_n hx hb dX2_spanEnd_0 rfl (lv_at hl 0 rfl) ?_
  refine va_get (D := (dC, dI)) (ci := 2) (v := .ref a2_place) (C := RX2) (T := TX2) (N := 8) hx hb hts inX2_spanEnd_X2 hown hK hP 0 rfl rfl 2 (by decide) lk1 (fun _ h9 => h9) rfl dX2_spanEnd_1 ?_
  refine lv_aload_n hx hb dX2_spanEnd_4 rfl (lv_at hl 0 rfl) ?_
  refine va_get (D := (dC, dI)) (ci := 2) (v := .ref a2_mastPeg) (C := RX2) (T := TX2) (N := 8) hx hb hts inX2_spanEnd_X2 hown hK hP 0 rfl rfl 7 (by decide) lk2 (fun _ h9 => h9) rfl dX2_spanEnd_5 ?_
  refine lv_iload_n hx hb dX2_spanEnd_8 rfl (lv_at hl 1 rfl) ?_
  refine lv_iconst (v := (1 : Int32)) hx hb dX2_spanEnd_9 (by decide) ?_
  refine lv_iadd hx hb dX2_spanEnd_10 ?_
  obtain ⟨h1, hw⟩ := hw
  refine va_iald hx hb hK hP 2 0 rfl rfl h1 dX2_spanEnd_11 ?_
  obtain ⟨h2, hw⟩ := hw
  refine va_iald hx hb hK hP 1 0 rfl rfl h2 dX2_spanEnd_12 ?_
  have hP9 := hP.sub (ws' := [(a2, .inr (2, [.int v2_count, .int v2_masts, .ref a2_place, .ref a2_price, .ref a2_trackAside, .ref a2_side, .ref a2_stands, .ref a2_mastPeg])), (a2_place, .inl (cI, 40, .inl f2_place)), (a2_mastPeg, .inl (cI, 40, .inl f2_mastPeg))]) [0, 1, 2] rfl
  have hD9 := hD.sub (ws' := [(a2, .inr (2, [.int v2_count, .int v2_masts, .ref a2_place, .ref a2_price, .ref a2_trackAside, .ref a2_side, .ref a2_stands, .ref a2_mastPeg])), (a2_place, .inl (cI, 40, .inl f2_place)), (a2_mastPeg, .inl (cI, 40, .inl f2_mastPeg))]) [0, 1, 2] (by decide) rfl
  exact W.iret (v := (f2_place (f2_mastPeg (p1 + (1 : Int32)).toNatClampNeg).toNatClampNeg)) hx hb hr (fun t ht hW => ⟨⟨(f2_place (f2_mastPeg (p1 + (1 : Int32)).toNatClampNeg).toNatClampNeg), (), rfl, hw, by rw [ht]; exact hP9, va_K.moved hW.alike hK, hD9⟩, hS.F ht⟩) hS.2.2 dX2_spanEnd_13

theorem inX2_spanLength_X2 : ∀ w ∈ wsX20, w ∈ wsX2_spanLength := fun _ h => List.mem_cons_of_mem _ (List.mem_append_right _ h)
def wp_X2_spanLength (Q : Int32 → Prop) (f2_place : Nat → Int32) (f2_mastPeg : Nat → Int32) (p1 : Int32) : Prop :=
  (wp_X2_spanEnd (fun r1 => (wp_X2_spanBegin (fun r2 => (Q (r1 - r2) )) f2_place f2_mastPeg p1)) f2_place f2_mastPeg p1)
set_option maxHeartbeats 4000000 in
set_option maxRecDepth 100000 in
theorem c_X2_spanLength (l : Launch) (dC : Nat → ClassId) (dI : Nat → Nat → Nat) (cI cJ cZ : ClassId) (a2 : Nat) (a2_place : Nat) (a2_price : Nat) (a2_trackAside : Nat) (a2_side : Nat) (a2_stands : Nat) (a2_mastPeg : Nat) (sz : Nat) (v2_count : Int32) (v2_masts : Int32) (f2_place : Nat → Int32) (f2_mastPeg : Nat → Int32) (p1 : Int32) (Q : Int32 → Prop) (hw : wp_X2_spanLength Q f2_place f2_mastPeg p1) : Met l yX2_spanLength wsX2_spanLength ({ frames := 1, cells := 0, slots := 0, locals := 21 } : Room) (va_Pc [.ref a2, .int p1] (fun U => U.heap.size = sz ∧ va_P (dC, dI) vwCl [(a2, .inr (2, [.int v2_count, .int v2_masts, .ref a2_place, .ref a2_price, .ref a2_trackAside, .ref a2_side, .ref a2_stands, .ref a2_mastPeg])), (a2_place, .inl (cI, 40, .inl f2_place)), (a2_mastPeg, .inl (cI, 40, .inl f2_mastPeg))] U.heap ∧ va_K (dC, dI) vwCl [(cI, .int), (cJ, .long), (cZ, .boolean)] U ∧ va_D (fun _ => True) [(a2, .inr (2, [.int v2_count, .int v2_masts, .ref a2_place, .ref a2_price, .ref a2_trackAside, .ref a2_side, .ref a2_stands, .ref a2_mastPeg])), (a2_place, .inl (cI, 40, .inl f2_place)), (a2_mastPeg, .inl (cI, 40, .inl f2_mastPeg))])) (va_Qi (fun r (u : Unit) => Q r) (fun (u : Unit) t => va_P (dC, dI) vwCl [(a2, .inr (2, [.int v2_count, .int v2_masts, .ref a2_place, .ref a2_price, .ref a2_trackAside, .ref a2_side, .ref a2_stands, .ref a2_mastPeg])), (a2_place, .inl (cI, 40, .inl f2_place)), (a2_mastPeg, .inl (cI, 40, .inl f2_mastPeg))] t.heap ∧ va_K (dC, dI) vwCl [(cI, .int), (cJ, .long), (cZ, .boolean)] t ∧ va_D (va_A [(a2, .inr (2, [.int v2_count, .int v2_masts, .ref a2_place, .ref a2_price, .ref a2_trackAside, .ref a2_side, .ref a2_stands, .ref a2_mastPeg])), (a2_place, .inl (cI, 40, .inl f2_place)), (a2_mastPeg, .inl (cI, 40, .inl f2_mastPeg))] sz) [(a2, .inr (2, [.int v2_count, .int v2_masts, .ref a2_place, .ref a2_price, .ref a2_trackAside, .ref a2_side, .ref a2_stands, .ref a2_mastPeg])), (a2_place, .inl (cI, 40, .inl f2_place)), (a2_mastPeg, .inl (cI, 40, .inl f2_mastPeg))]) (va_A [(a2, .inr (2, [.int v2_count, .int v2_masts, .ref a2_place, .ref a2_price, .ref a2_trackAside, .ref a2_side, .ref a2_stands, .ref a2_mastPeg])), (a2_place, .inl (cI, 40, .inl f2_place)), (a2_mastPeg, .inl (cI, 40, .inl f2_mastPeg))] sz)) 0 0 (va_A [(a2, .inr (2, [.int v2_count, .int v2_masts, .ref a2_place, .ref a2_price, .ref a2_trackAside, .ref a2_side, .ref a2_stands, .ref a2_mastPeg])), (a2_place, .inl (cI, 40, .inl f2_place)), (a2_mastPeg, .inl (cI, 40, .inl f2_mastPeg))] sz) := by
  refine Met.ofW (cc := cX2_spanLength) (maxL := 2) (ret := (some .int)) (by decide) rfl ?_
  intro p e s m args below meth c s₁ B hml hv
  obtain ⟨rfl, hsz, hP, hK, hD0⟩ := hv
  have hx := B.exec
  have hb := B.bytes
  have hr := B.returns
  have hts := atoms_spec (ws := wsX2_spanLength) B.pre
  have hown : s.vm.findClass RX2 = some m.cls := findClass_of_methodNamed B.named
  have hlocks := B.notSynchronized
  subst hsz
  have hD := hD0.self (sz := s.heap.size)
  generalize hAe : va_A [(a2, .inr (2, [.int v2_count, .int v2_masts, .ref a2_place, .ref a2_price, .ref a2_trackAside, .ref a2_side, .ref a2_stands, .ref a2_mastPeg])), (a2_place, .inl (cI, 40, .inl f2_place)), (a2_mastPeg, .inl (cI, 40, .inl f2_mastPeg))] s.heap.size = A at hD ⊢
  have hA : ∀ q : Nat, s.heap.size ≤ q → A q := fun q h => by rw [← hAe]; exact Or.inr h
  have hS : va_S A s.heap s.heap [] := va_S.rf
  have hP : va_P (dC, dI) vwCl [(a2, .inr (2, [.int v2_count, .int v2_masts, .ref a2_place, .ref a2_price, .ref a2_trackAside, .ref a2_side, .ref a2_stands, .ref a2_mastPeg])), (a2_place, .inl (cI, 40, .inl f2_place)), (a2_mastPeg, .inl (cI, 40, .inl f2_mastPeg))] s.heap := hP
  have hl := lv_entry ([.ref a2, .int p1]) (n := 2) (Nat.le_of_ble_eq_true rfl)
  rw [lg_entry_eq]
  generalize (lg_sl ([.ref a2, .int p1]) ++ List.replicate (2 - (lg_sl ([.ref a2, .int p1])).length) Slot.unset).toArray = ls at hl ⊢
  have hl : lv_has ls 2 [(0, .ref a2), (1, .int p1)] := hl
  obtain ⟨H, hHe⟩ : ∃ H, H = s.heap := ⟨_, rfl⟩
  rw [← hHe] at hP
  have hS : va_S A s.heap H [] := by rw [hHe]; exact hS
  rw [← hHe]
  unfold wp_X2_spanLength at hw
  refine lv_aload_n hx hb dX2_spanLength_0 rfl (lv_at hl 0 rfl) ?_
  refine lv_iload_n hx hb dX2_spanLength_1 rfl (lv_at hl 1 rfl) ?_
  have hPc := hP.sub (ws' := [(a2, .inr (2, [.int v2_count, .int v2_masts, .ref a2_place, .ref a2_price, .ref a2_trackAside, .ref a2_side, .ref a2_stands, .ref a2_mastPeg])), (a2_place, .inl (cI, 40, .inl f2_place)), (a2_mastPeg, .inl (cI, 40, .inl f2_mastPeg))]) [0, 1, 2] rfl
  have hDc := hD.sub (ws' := [(a2, .inr (2, [.int v2_count, .int v2_masts, .ref a2_place, .ref a2_price, .ref a2_trackAside, .ref a2_side, .ref a2_stands, .ref a2_mastPeg])), (a2_place, .inl (cI, 40, .inl f2_place)), (a2_mastPeg, .inl (cI, 40, .inl f2_mastPeg))]) [0, 1, 2] (by decide) rfl
  have hFc := va_free (wc := [(a2, .inr (2, [.int v2_count, .int v2_masts, .ref a2_place, .ref a2_price, .ref a2_trackAside, .ref a2_side, .ref a2_stands, .ref a2_mastPeg])), (a2_place, .inl (cI, 40, .inl f2_place)), (a2_mastPeg, .inl (cI, 40, .inl f2_mastPeg))]) hD hS hA [0, 1, 2] rfl
  refine va_calli (va_runV (As := [.int p1]) (rest := []) ⟨hx, hb, hml, hown, hts⟩ (c_X2_spanEnd l dC dI cI cJ cZ a2 a2_place a2_price a2_trackAside a2_side a2_stands a2_mastPeg H.size v2_count v2_masts f2_place f2_mastPeg p1 _ hw) (cwV 1 hts gX2_spanLength_X2_spanEnd rfl rfl rfl (by decide +kernel) ⟨Nat.le_of_ble_eq_true rfl, Nat.le_of_ble_eq_true rfl⟩) ⟨fun a U g mk q => by obtain ⟨q0, q1, qP, qK, qD⟩ := q; exact ⟨q0, q1, qP, va_K.moved (u := U) (U := U.calling g mk a) (Vm.Alike.refl U.vm) qK, qD⟩, va_recv hK hP (ci := 2) (q0 := 0) rfl rfl, fun U hU hW => ⟨rfl, by rw [hU], by rw [hU]; exact hPc, va_K.moved hW.alike hK, hDc.weaken (fun _ _ _ _ => trivial)⟩⟩ rfl rfl hl.1 rfl (lv_room (Nat.le_of_ble_eq_true rfl)) dX2_spanLength_2 ⟨(Nat.zero_le _), (Nat.zero_le _)⟩) hS (fun q _ h => hFc q h) hFc (fun r1 u t H1 locs ht hvm hw hB hz1 hk1 hS => ?_)
  obtain ⟨hP1, -, hD1⟩ := hB
  try dsimp only at hw
  rw [ht] at hP1
  obtain ⟨hP, hD⟩ := va_join (wr := []) (w1 := [(a2, .inr (2, [.int v2_count, .int v2_masts, .ref a2_place, .ref a2_price, .ref a2_trackAside, .ref a2_side, .ref a2_stands, .ref a2_mastPeg])), (a2_place, .inl (cI, 40, .inl f2_place)), (a2_mastPeg, .inl (cI, 40, .inl f2_mastPeg))]) hP hD [0, 1, 2] [] rfl rfl (by decide) (by decide) hk1 hFc hP1 hD1
  generalize H1 = H at hP hS ⊢
  have hP : va_P (dC, dI) vwCl [(a2, .inr (2, [.int v2_count, .int v2_masts, .ref a2_place, .ref a2_price, .ref a2_trackAside, .ref a2_side, .ref a2_stands, .ref a2_mastPeg])), (a2_place, .inl (cI, 40, .inl f2_place)), (a2_mastPeg, .inl (cI, 40, .inl f2_mastPeg))] H := hP
  have hD : va_D A [(a2, .inr (2, [.int v2_count, .int v2_masts, .ref a2_place, .ref a2_price, .ref a2_trackAside, .ref a2_side, .ref a2_stands, .ref a2_mastPeg])), (a2_place, .inl (cI, 40, .inl f2_place)), (a2_mastPeg, .inl (cI, 40, .inl f2_mastPeg))] := hD
  refine lv_aload_n hx hb dX2_spanLength_5 rfl (lv_at hl 0 rfl) ?_
  refine lv_iload_n hx hb dX2_spanLength_6 rfl (lv_at hl 1 rfl) ?_
  have hPc := hP.sub (ws' := [(a2, .inr (2, [.int v2_count, .int v2_masts, .ref a2_place, .ref a2_price, .ref a2_trackAside, .ref a2_side, .ref a2_stands, .ref a2_mastPeg])), (a2_place, .inl (cI, 40, .inl f2_place)), (a2_mastPeg, .inl (cI, 40, .inl f2_mastPeg))]) [0, 1, 2] rfl
  have hDc := hD.sub (ws' := [(a2, .inr (2, [.int v2_count, .int v2_masts, .ref a2_place, .ref a2_price, .ref a2_trackAside, .ref a2_side, .ref a2_stands, .ref a2_mastPeg])), (a2_place, .inl (cI, 40, .inl f2_place)), (a2_mastPeg, .inl (cI, 40, .inl f2_mastPeg))]) [0, 1, 2] (by decide) rfl
  have hFc := va_free (wc := [(a2, .inr (2, [.int v2_count, .int v2_masts, .ref a2_place, .ref a2_price, .ref a2_trackAside, .ref a2_side, .ref a2_stands, .ref a2_mastPeg])), (a2_place, .inl (cI, 40, .inl f2_place)), (a2_mastPeg, .inl (cI, 40, .inl f2_mastPeg))]) hD hS hA [0, 1, 2] rfl
  refine va_calli (va_runV (As := [.int p1]) (rest := [.int r1]) ⟨hx, hb, hml, hown, hts⟩ (c_X2_spanBegin l dC dI cI cJ cZ a2 a2_place a2_price a2_trackAside a2_side a2_stands a2_mastPeg H.size v2_count v2_masts f2_place f2_mastPeg p1 _ hw) (cwV 1 hts gX2_spanLength_X2_spanBegin rfl rfl rfl (by decide +kernel) ⟨Nat.le_of_ble_eq_true rfl, Nat.le_of_ble_eq_true rfl⟩) ⟨fun a U g mk q => by obtain ⟨q0, q1, qP, qK, qD⟩ := q; exact ⟨q0, q1, qP, va_K.moved (u := U) (U := U.calling g mk a) (Vm.Alike.refl U.vm) qK, qD⟩, va_recv hK hP (ci := 2) (q0 := 0) rfl rfl, fun U hU hW => ⟨rfl, by rw [hU], by rw [hU]; exact hPc, va_K.moved hW.alike hK, hDc.weaken (fun _ _ _ _ => trivial)⟩⟩ rfl rfl hl.1 rfl (lv_room (Nat.le_of_ble_eq_true rfl)) dX2_spanLength_7 ⟨(Nat.zero_le _), (Nat.zero_le _)⟩) hS (fun q _ h => hFc q h) hFc (fun r2 u t H1 locs ht hvm hw hB hz1 hk1 hS => ?_)
  obtain ⟨hP1, -, hD1⟩ := hB
  try dsimp only at hw
  rw [ht] at hP1
  obtain ⟨hP, hD⟩ := va_join (wr := []) (w1 := [(a2, .inr (2, [.int v2_count, .int v2_masts, .ref a2_place, .ref a2_price, .ref a2_trackAside, .ref a2_side, .ref a2_stands, .ref a2_mastPeg])), (a2_place, .inl (cI, 40, .inl f2_place)), (a2_mastPeg, .inl (cI, 40, .inl f2_mastPeg))]) hP hD [0, 1, 2] [] rfl rfl (by decide) (by decide) hk1 hFc hP1 hD1
  generalize H1 = H at hP hS ⊢
  have hP : va_P (dC, dI) vwCl [(a2, .inr (2, [.int v2_count, .int v2_masts, .ref a2_place, .ref a2_price, .ref a2_trackAside, .ref a2_side, .ref a2_stands, .ref a2_mastPeg])), (a2_place, .inl (cI, 40, .inl f2_place)), (a2_mastPeg, .inl (cI, 40, .inl f2_mastPeg))] H := hP
  have hD : va_D A [(a2, .inr (2, [.int v2_count, .int v2_masts, .ref a2_place, .ref a2_price, .ref a2_trackAside, .ref a2_side, .ref a2_stands, .ref a2_mastPeg])), (a2_place, .inl (cI, 40, .inl f2_place)), (a2_mastPeg, .inl (cI, 40, .inl f2_mastPeg))] := hD
  refine lv_isub hx hb dX2_spanLength_10 ?_
  have hP9 := hP.sub (ws' := [(a2, .inr (2, [.int v2_count, .int v2_masts, .ref a2_place, .ref a2_price, .ref a2_trackAside, .ref a2_side, .ref a2_stands, .ref a2_mastPeg])), (a2_place, .inl (cI, 40, .inl f2_place)), (a2_mastPeg, .inl (cI, 40, .inl f2_mastPeg))]) [0, 1, 2] rfl
  have hD9 := hD.sub (ws' := [(a2, .inr (2, [.int v2_count, .int v2_masts, .ref a2_place, .ref a2_price, .ref a2_trackAside, .ref a2_side, .ref a2_stands, .ref a2_mastPeg])), (a2_place, .inl (cI, 40, .inl f2_place)), (a2_mastPeg, .inl (cI, 40, .inl f2_mastPeg))]) [0, 1, 2] (by decide) rfl
  exact W.iret (v := (r1 - r2)) hx hb hr (fun t ht hW => ⟨⟨(r1 - r2), (), rfl, hw, by rw [ht]; exact hP9, va_K.moved hW.alike hK, hD9⟩, hS.F ht⟩) hS.2.2 dX2_spanLength_11

theorem inX2_lengthOfSpans_X2 : ∀ w ∈ wsX20, w ∈ wsX2_lengthOfSpans := fun _ h => List.mem_cons_of_mem _ (List.mem_append_right _ h)
def wp_X2_lengthOfSpans (Q : Int32 → Prop) (v2_masts : Int32) (f2_place : Nat → Int32) (f2_mastPeg : Nat → Int32) : Prop :=
  (wp_X2_spans (fun r1 => ((r1 ≤ 0 → (Q (0 : Int32) )) ∧ (¬ r1 ≤ 0 → (wp_X2_spans (fun r3 => (wp_X2_spanEnd (fun r4 => (wp_X2_spanBegin (fun r5 => (Q (r4 - r5) )) f2_place f2_mastPeg (0 : Int32))) f2_place f2_mastPeg (r3 - (1 : Int32)))) v2_masts)))) v2_masts)
set_option maxHeartbeats 4000000 in
set_option maxRecDepth 100000 in
theorem c_X2_lengthOfSpans (l : Launch) (dC : Nat → ClassId) (dI : Nat → Nat → Nat) (cI cJ cZ : ClassId) (a2 : Nat) (a2_place : Nat) (a2_price : Nat) (a2_trackAside : Nat) (a2_side : Nat) (a2_stands : Nat) (a2_mastPeg : Nat) (sz : Nat) (v2_count : Int32) (v2_masts : Int32) (f2_place : Nat → Int32) (f2_mastPeg : Nat → Int32) (Q : Int32 → Prop) (hw : wp_X2_lengthOfSpans Q v2_masts f2_place f2_mastPeg ) : Met l yX2_lengthOfSpans wsX2_lengthOfSpans ({ frames := 1, cells := 0, slots := 0, locals := 21 } : Room) (va_Pc [.ref a2] (fun U => U.heap.size = sz ∧ va_P (dC, dI) vwCl [(a2, .inr (2, [.int v2_count, .int v2_masts, .ref a2_place, .ref a2_price, .ref a2_trackAside, .ref a2_side, .ref a2_stands, .ref a2_mastPeg])), (a2_place, .inl (cI, 40, .inl f2_place)), (a2_mastPeg, .inl (cI, 40, .inl f2_mastPeg))] U.heap ∧ va_K (dC, dI) vwCl [(cI, .int), (cJ, .long), (cZ, .boolean)] U ∧ va_D (fun _ => True) [(a2, .inr (2, [.int v2_count, .int v2_masts, .ref a2_place, .ref a2_price, .ref a2_trackAside, .ref a2_side, .ref a2_stands, .ref a2_mastPeg])), (a2_place, .inl (cI, 40, .inl f2_place)), (a2_mastPeg, .inl (cI, 40, .inl f2_mastPeg))])) (va_Qi (fun r (u : Unit) => Q r) (fun (u : Unit) t => va_P (dC, dI) vwCl [(a2, .inr (2, [.int v2_count, .int v2_masts, .ref a2_place, .ref a2_price, .ref a2_trackAside, .ref a2_side, .ref a2_stands, .ref a2_mastPeg])), (a2_place, .inl (cI, 40, .inl f2_place)), (a2_mastPeg, .inl (cI, 40, .inl f2_mastPeg))] t.heap ∧ va_K (dC, dI) vwCl [(cI, .int), (cJ, .long), (cZ, .boolean)] t ∧ va_D (va_A [(a2, .inr (2, [.int v2_count, .int v2_masts, .ref a2_place, .ref a2_price, .ref a2_trackAside, .ref a2_side, .ref a2_stands, .ref a2_mastPeg])), (a2_place, .inl (cI, 40, .inl f2_place)), (a2_mastPeg, .inl (cI, 40, .inl f2_mastPeg))] sz) [(a2, .inr (2, [.int v2_count, .int v2_masts, .ref a2_place, .ref a2_price, .ref a2_trackAside, .ref a2_side, .ref a2_stands, .ref a2_mastPeg])), (a2_place, .inl (cI, 40, .inl f2_place)), (a2_mastPeg, .inl (cI, 40, .inl f2_mastPeg))]) (va_A [(a2, .inr (2, [.int v2_count, .int v2_masts, .ref a2_place, .ref a2_price, .ref a2_trackAside, .ref a2_side, .ref a2_stands, .ref a2_mastPeg])), (a2_place, .inl (cI, 40, .inl f2_place)), (a2_mastPeg, .inl (cI, 40, .inl f2_mastPeg))] sz)) 0 0 (va_A [(a2, .inr (2, [.int v2_count, .int v2_masts, .ref a2_place, .ref a2_price, .ref a2_trackAside, .ref a2_side, .ref a2_stands, .ref a2_mastPeg])), (a2_place, .inl (cI, 40, .inl f2_place)), (a2_mastPeg, .inl (cI, 40, .inl f2_mastPeg))] sz) := by
  refine Met.ofW (cc := cX2_lengthOfSpans) (maxL := 1) (ret := (some .int)) (by decide) rfl ?_
  intro p e s m args below meth c s₁ B hml hv
  obtain ⟨rfl, hsz, hP, hK, hD0⟩ := hv
  have hx := B.exec
  have hb := B.bytes
  have hr := B.returns
  have hts := atoms_spec (ws := wsX2_lengthOfSpans) B.pre
  have hown : s.vm.findClass RX2 = some m.cls := findClass_of_methodNamed B.named
  have hlocks := B.notSynchronized
  subst hsz
  have hD := hD0.self (sz := s.heap.size)
  generalize hAe : va_A [(a2, .inr (2, [.int v2_count, .int v2_masts, .ref a2_place, .ref a2_price, .ref a2_trackAside, .ref a2_side, .ref a2_stands, .ref a2_mastPeg])), (a2_place, .inl (cI, 40, .inl f2_place)), (a2_mastPeg, .inl (cI, 40, .inl f2_mastPeg))] s.heap.size = A at hD ⊢
  have hA : ∀ q : Nat, s.heap.size ≤ q → A q := fun q h => by rw [← hAe]; exact Or.inr h
  have hS : va_S A s.heap s.heap [] := va_S.rf
  have hP : va_P (dC, dI) vwCl [(a2, .inr (2, [.int v2_count, .int v2_masts, .ref a2_place, .ref a2_price, .ref a2_trackAside, .ref a2_side, .ref a2_stands, .ref a2_mastPeg])), (a2_place, .inl (cI, 40, .inl f2_place)), (a2_mastPeg, .inl (cI, 40, .inl f2_mastPeg))] s.heap := hP
  have hl := lv_entry ([.ref a2]) (n := 1) (Nat.le_of_ble_eq_true rfl)
  rw [lg_entry_eq]
  generalize (lg_sl ([.ref a2]) ++ List.replicate (1 - (lg_sl ([.ref a2])).length) Slot.unset).toArray = ls at hl ⊢
  have hl : lv_has ls 1 [(0, .ref a2)] := hl
  obtain ⟨H, hHe⟩ : ∃ H, H = s.heap := ⟨_, rfl⟩
  rw [← hHe] at hP
  have hS : va_S A s.heap H [] := by rw [hHe]; exact hS
  rw [← hHe]
  unfold wp_X2_lengthOfSpans at hw
  refine lv_aload_n hx hb dX2_lengthOfSpans_0 rfl (lv_at hl 0 rfl) ?_
  have hPc := hP.sub (ws' := [(a2, .inr (2, [.int v2_count, .int v2_masts, .ref a2_place, .ref a2_price, .ref a2_trackAside, .ref a2_side, .ref a2_stands, .ref a2_mastPeg]))]) [0] rfl
  have hDc := hD.sub (ws' := [(a2, .inr (2, [.int v2_count, .int v2_masts, .ref a2_place, .ref a2_price, .ref a2_trackAside, .ref a2_side, .ref a2_stands, .ref a2_mastPeg]))]) [0] (by decide) rfl
  have hFc := va_free (wc := [(a2, .inr (2, [.int v2_count, .int v2_masts, .ref a2_place, .ref a2_price, .ref a2_trackAside, .ref a2_side, .ref a2_stands, .ref a2_mastPeg]))]) hD hS hA [0] rfl
  refine va_calli (va_runV (As := []) (rest := []) ⟨hx, hb, hml, hown, hts⟩ (c_X2_spans l dC dI cI cJ cZ a2 a2_place a2_price a2_trackAside a2_side a2_stands a2_mastPeg H.size v2_count v2_masts _ hw) (cwV 0 hts gX2_lengthOfSpans_X2_spans rfl rfl rfl (by decide +kernel) ⟨Nat.le_of_ble_eq_true rfl, Nat.le_of_ble_eq_true rfl⟩) ⟨fun a U g mk q => by obtain ⟨q0, q1, qP, qK, qD⟩ := q; exact ⟨q0, q1, qP, va_K.moved (u := U) (U := U.calling g mk a) (Vm.Alike.refl U.vm) qK, qD⟩, va_recv hK hP (ci := 2) (q0 := 0) rfl rfl, fun U hU hW => ⟨rfl, by rw [hU], by rw [hU]; exact hPc, va_K.moved hW.alike hK, hDc.weaken (fun _ _ _ _ => trivial)⟩⟩ rfl rfl hl.1 rfl (lv_room (Nat.le_of_ble_eq_true rfl)) dX2_lengthOfSpans_1 ⟨(Nat.zero_le _), (Nat.zero_le _)⟩) hS (fun q _ h => hFc q h) hFc (fun r1 u t H1 locs ht hvm hw hB hz1 hk1 hS => ?_)
  obtain ⟨hP1, -, hD1⟩ := hB
  try dsimp only at hw
  rw [ht] at hP1
  obtain ⟨hP, hD⟩ := va_join (wr := [(a2_place, .inl (cI, 40, .inl f2_place)), (a2_mastPeg, .inl (cI, 40, .inl f2_mastPeg))]) (w1 := [(a2, .inr (2, [.int v2_count, .int v2_masts, .ref a2_place, .ref a2_price, .ref a2_trackAside, .ref a2_side, .ref a2_stands, .ref a2_mastPeg]))]) hP hD [0] [1, 2] rfl rfl (by decide) (by decide) hk1 hFc hP1 hD1
  generalize H1 = H at hP hS ⊢
  have hP : va_P (dC, dI) vwCl [(a2_place, .inl (cI, 40, .inl f2_place)), (a2_mastPeg, .inl (cI, 40, .inl f2_mastPeg)), (a2, .inr (2, [.int v2_count, .int v2_masts, .ref a2_place, .ref a2_price, .ref a2_trackAside, .ref a2_side, .ref a2_stands, .ref a2_mastPeg]))] H := hP
  have hD : va_D A [(a2_place, .inl (cI, 40, .inl f2_place)), (a2_mastPeg, .inl (cI, 40, .inl f2_mastPeg)), (a2, .inr (2, [.int v2_count, .int v2_masts, .ref a2_place, .ref a2_price, .ref a2_trackAside, .ref a2_side, .ref a2_stands, .ref a2_mastPeg]))] := hD
  refine lv_if_le (tgt := 26) hx hb dX2_lengthOfSpans_4 (by decide) (fun c2 => ?_) (fun c2 => ?_)
  · replace hw := hw.1 (c2)
    refine lv_iconst (v := (0 : Int32)) hx hb dX2_lengthOfSpans_26 (by decide) ?_
    have hP9 := hP.sub (ws' := [(a2, .inr (2, [.int v2_count, .int v2_masts, .ref a2_place, .ref a2_price, .ref a2_trackAside, .ref a2_side, .ref a2_stands, .ref a2_mastPeg])), (a2_place, .inl (cI, 40, .inl f2_place)), (a2_mastPeg, .inl (cI, 40, .inl f2_mastPeg))]) [2, 0, 1] rfl
    have hD9 := hD.sub (ws' := [(a2, .inr (2, [.int v2_count, .int v2_masts, .ref a2_place, .ref a2_price, .ref a2_trackAside, .ref a2_side, .ref a2_stands, .ref a2_mastPeg])), (a2_place, .inl (cI, 40, .inl f2_place)), (a2_mastPeg, .inl (cI, 40, .inl f2_mastPeg))]) [2, 0, 1] (by decide) rfl
    exact W.iret (v := (0 : Int32)) hx hb hr (fun t ht hW => ⟨⟨(0 : Int32), (), rfl, hw, by rw [ht]; exact hP9, va_K.moved hW.alike hK, hD9⟩, hS.F ht⟩) hS.2.2 dX2_lengthOfSpans_27
  · replace hw := hw.2 (c2)
    refine lv_aload_n hx hb dX2_lengthOfSpans_7 rfl (lv_at hl 0 rfl) ?_
    refine lv_aload_n hx hb dX2_lengthOfSpans_8 rfl (lv_at hl 0 rfl) ?_
    have hPc := hP.sub (ws' := [(a2, .inr (2, [.int v2_count, .int v2_masts, .ref a2_place, .ref a2_price, .ref a2_trackAside, .ref a2_side, .ref a2_stands, .ref a2_mastPeg]))]) [2] rfl
    have hDc := hD.sub (ws' := [(a2, .inr (2, [.int v2_count, .int v2_masts, .ref a2_place, .ref a2_price, .ref a2_trackAside, .ref a2_side, .ref a2_stands, .ref a2_mastPeg]))]) [2] (by decide) rfl
    have hFc := va_free (wc := [(a2, .inr (2, [.int v2_count, .int v2_masts, .ref a2_place, .ref a2_price, .ref a2_trackAside, .ref a2_side, .ref a2_stands, .ref a2_mastPeg]))]) hD hS hA [2] rfl
    refine va_calli (va_runV (As := []) (rest := [.ref a2]) ⟨hx, hb, hml, hown, hts⟩ (c_X2_spans l dC dI cI cJ cZ a2 a2_place a2_price a2_trackAside a2_side a2_stands a2_mastPeg H.size v2_count v2_masts _ hw) (cwV 0 hts gX2_lengthOfSpans_X2_spans rfl rfl rfl (by decide +kernel) ⟨Nat.le_of_ble_eq_true rfl, Nat.le_of_ble_eq_true rfl⟩) ⟨fun a U g mk q => by obtain ⟨q0, q1, qP, qK, qD⟩ := q; exact ⟨q0, q1, qP, va_K.moved (u := U) (U := U.calling g mk a) (Vm.Alike.refl U.vm) qK, qD⟩, va_recv hK hP (ci := 2) (q0 := 2) rfl rfl, fun U hU hW => ⟨rfl, by rw [hU], by rw [hU]; exact hPc, va_K.moved hW.alike hK, hDc.weaken (fun _ _ _ _ => trivial)⟩⟩ rfl rfl hl.1 rfl (lv_room (Nat.le_of_ble_eq_true rfl)) dX2_lengthOfSpans_9 ⟨(Nat.zero_le _), (Nat.zero_le _)⟩) hS (fun q _ h => hFc q h) hFc (fun r3 u t H1 locs ht hvm hw hB hz1 hk1 hS => ?_)
    obtain ⟨hP1, -, hD1⟩ := hB
    try dsimp only at hw
    rw [ht] at hP1
    obtain ⟨hP, hD⟩ := va_join (wr := [(a2_place, .inl (cI, 40, .inl f2_place)), (a2_mastPeg, .inl (cI, 40, .inl f2_mastPeg))]) (w1 := [(a2, .inr (2, [.int v2_count, .int v2_masts, .ref a2_place, .ref a2_price, .ref a2_trackAside, .ref a2_side, .ref a2_stands, .ref a2_mastPeg]))]) hP hD [2] [0, 1] rfl rfl (by decide) (by decide) hk1 hFc hP1 hD1
    generalize H1 = H at hP hS ⊢
    have hP : va_P (dC, dI) vwCl [(a2_place, .inl (cI, 40, .inl f2_place)), (a2_mastPeg, .inl (cI, 40, .inl f2_mastPeg)), (a2, .inr (2, [.int v2_count, .int v2_masts, .ref a2_place, .ref a2_price, .ref a2_trackAside, .ref a2_side, .ref a2_stands, .ref a2_mastPeg]))] H := hP
    have hD : va_D A [(a2_place, .inl (cI, 40, .inl f2_place)), (a2_mastPeg, .inl (cI, 40, .inl f2_mastPeg)), (a2, .inr (2, [.int v2_count, .int v2_masts, .ref a2_place, .ref a2_price, .ref a2_trackAside, .ref a2_side, .ref a2_stands, .ref a2_mastPeg]))] := hD
    refine lv_iconst (v := (1 : Int32)) hx hb dX2_lengthOfSpans_12 (by decide) ?_
    refine lv_isub hx hb dX2_lengthOfSpans_13 ?_
    have hPc := hP.sub (ws' := [(a2, .inr (2, [.int v2_count, .int v2_masts, .ref a2_place, .ref a2_price, .ref a2_trackAside, .ref a2_side, .ref a2_stands, .ref a2_mastPeg])), (a2_place, .inl (cI, 40, .inl f2_place)), (a2_mastPeg, .inl (cI, 40, .inl f2_mastPeg))]) [2, 0, 1] rfl
    have hDc := hD.sub (ws' := [(a2, .inr (2, [.int v2_count, .int v2_masts, .ref a2_place, .ref a2_price, .ref a2_trackAside, .ref a2_side, .ref a2_stands, .ref a2_mastPeg])), (a2_place, .inl (cI, 40, .inl f2_place)), (a2_mastPeg, .inl (cI, 40, .inl f2_mastPeg))]) [2, 0, 1] (by decide) rfl
    have hFc := va_free (wc := [(a2, .inr (2, [.int v2_count, .int v2_masts, .ref a2_place, .ref a2_price, .ref a2_trackAside, .ref a2_side, .ref a2_stands, .ref a2_mastPeg])), (a2_place, .inl (cI, 40, .inl f2_place)), (a2_mastPeg, .inl (cI, 40, .inl f2_mastPeg))]) hD hS hA [2, 0, 1] rfl
    refine va_calli (va_runV (As := [.int (r3 - (1 : Int32))]) (rest := []) ⟨hx, hb, hml, hown, hts⟩ (c_X2_spanEnd l dC dI cI cJ cZ a2 a2_place a2_price a2_trackAside a2_side a2_stands a2_mastPeg H.size v2_count v2_masts f2_place f2_mastPeg (r3 - (1 : Int32)) _ hw) (cwV 1 hts gX2_lengthOfSpans_X2_spanEnd rfl rfl rfl (by decide +kernel) ⟨Nat.le_of_ble_eq_true rfl, Nat.le_of_ble_eq_true rfl⟩) ⟨fun a U g mk q => by obtain ⟨q0, q1, qP, qK, qD⟩ := q; exact ⟨q0, q1, qP, va_K.moved (u := U) (U := U.calling g mk a) (Vm.Alike.refl U.vm) qK, qD⟩, va_recv hK hP (ci := 2) (q0 := 2) rfl rfl, fun U hU hW => ⟨rfl, by rw [hU], by rw [hU]; exact hPc, va_K.moved hW.alike hK, hDc.weaken (fun _ _ _ _ => trivial)⟩⟩ rfl rfl hl.1 rfl (lv_room (Nat.le_of_ble_eq_true rfl)) dX2_lengthOfSpans_14 ⟨(Nat.zero_le _), (Nat.zero_le _)⟩) hS (fun q _ h => hFc q h) hFc (fun r4 u t H1 locs ht hvm hw hB hz1 hk1 hS => ?_)
    obtain ⟨hP1, -, hD1⟩ := hB
    try dsimp only at hw
    rw [ht] at hP1
    obtain ⟨hP, hD⟩ := va_join (wr := []) (w1 := [(a2, .inr (2, [.int v2_count, .int v2_masts, .ref a2_place, .ref a2_price, .ref a2_trackAside, .ref a2_side, .ref a2_stands, .ref a2_mastPeg])), (a2_place, .inl (cI, 40, .inl f2_place)), (a2_mastPeg, .inl (cI, 40, .inl f2_mastPeg))]) hP hD [2, 0, 1] [] rfl rfl (by decide) (by decide) hk1 hFc hP1 hD1
    generalize H1 = H at hP hS ⊢
    have hP : va_P (dC, dI) vwCl [(a2, .inr (2, [.int v2_count, .int v2_masts, .ref a2_place, .ref a2_price, .ref a2_trackAside, .ref a2_side, .ref a2_stands, .ref a2_mastPeg])), (a2_place, .inl (cI, 40, .inl f2_place)), (a2_mastPeg, .inl (cI, 40, .inl f2_mastPeg))] H := hP
    have hD : va_D A [(a2, .inr (2, [.int v2_count, .int v2_masts, .ref a2_place, .ref a2_price, .ref a2_trackAside, .ref a2_side, .ref a2_stands, .ref a2_mastPeg])), (a2_place, .inl (cI, 40, .inl f2_place)), (a2_mastPeg, .inl (cI, 40, .inl f2_mastPeg))] := hD
    refine lv_aload_n hx hb dX2_lengthOfSpans_17 rfl (lv_at hl 0 rfl) ?_
    refine lv_iconst (v := (0 : Int32)) hx hb dX2_lengthOfSpans_18 (by decide) ?_
    have hPc := hP.sub (ws' := [(a2, .inr (2, [.int v2_count, .int v2_masts, .ref a2_place, .ref a2_price, .ref a2_trackAside, .ref a2_side, .ref a2_stands, .ref a2_mastPeg])), (a2_place, .inl (cI, 40, .inl f2_place)), (a2_mastPeg, .inl (cI, 40, .inl f2_mastPeg))]) [0, 1, 2] rfl
    have hDc := hD.sub (ws' := [(a2, .inr (2, [.int v2_count, .int v2_masts, .ref a2_place, .ref a2_price, .ref a2_trackAside, .ref a2_side, .ref a2_stands, .ref a2_mastPeg])), (a2_place, .inl (cI, 40, .inl f2_place)), (a2_mastPeg, .inl (cI, 40, .inl f2_mastPeg))]) [0, 1, 2] (by decide) rfl
    have hFc := va_free (wc := [(a2, .inr (2, [.int v2_count, .int v2_masts, .ref a2_place, .ref a2_price, .ref a2_trackAside, .ref a2_side, .ref a2_stands, .ref a2_mastPeg])), (a2_place, .inl (cI, 40, .inl f2_place)), (a2_mastPeg, .inl (cI, 40, .inl f2_mastPeg))]) hD hS hA [0, 1, 2] rfl
    refine va_calli (va_runV (As := [.int (0 : Int32)]) (rest := [.int r4]) ⟨hx, hb, hml, hown, hts⟩ (c_X2_spanBegin l dC dI cI cJ cZ a2 a2_place a2_price a2_trackAside a2_side a2_stands a2_mastPeg H.size v2_count v2_masts f2_place f2_mastPeg (0 : Int32) _ hw) (cwV 1 hts gX2_lengthOfSpans_X2_spanBegin rfl rfl rfl (by decide +kernel) ⟨Nat.le_of_ble_eq_true rfl, Nat.le_of_ble_eq_true rfl⟩) ⟨fun a U g mk q => by obtain ⟨q0, q1, qP, qK, qD⟩ := q; exact ⟨q0, q1, qP, va_K.moved (u := U) (U := U.calling g mk a) (Vm.Alike.refl U.vm) qK, qD⟩, va_recv hK hP (ci := 2) (q0 := 0) rfl rfl, fun U hU hW => ⟨rfl, by rw [hU], by rw [hU]; exact hPc, va_K.moved hW.alike hK, hDc.weaken (fun _ _ _ _ => trivial)⟩⟩ rfl rfl hl.1 rfl (lv_room (Nat.le_of_ble_eq_true rfl)) dX2_lengthOfSpans_19 ⟨(Nat.zero_le _), (Nat.zero_le _)⟩) hS (fun q _ h => hFc q h) hFc (fun r5 u t H1 locs ht hvm hw hB hz1 hk1 hS => ?_)
    obtain ⟨hP1, -, hD1⟩ := hB
    try dsimp only at hw
    rw [ht] at hP1
    obtain ⟨hP, hD⟩ := va_join (wr := []) (w1 := [(a2, .inr (2, [.int v2_count, .int v2_masts, .ref a2_place, .ref a2_price, .ref a2_trackAside, .ref a2_side, .ref a2_stands, .ref a2_mastPeg])), (a2_place, .inl (cI, 40, .inl f2_place)), (a2_mastPeg, .inl (cI, 40, .inl f2_mastPeg))]) hP hD [0, 1, 2] [] rfl rfl (by decide) (by decide) hk1 hFc hP1 hD1
    generalize H1 = H at hP hS ⊢
    have hP : va_P (dC, dI) vwCl [(a2, .inr (2, [.int v2_count, .int v2_masts, .ref a2_place, .ref a2_price, .ref a2_trackAside, .ref a2_side, .ref a2_stands, .ref a2_mastPeg])), (a2_place, .inl (cI, 40, .inl f2_place)), (a2_mastPeg, .inl (cI, 40, .inl f2_mastPeg))] H := hP
    have hD : va_D A [(a2, .inr (2, [.int v2_count, .int v2_masts, .ref a2_place, .ref a2_price, .ref a2_trackAside, .ref a2_side, .ref a2_stands, .ref a2_mastPeg])), (a2_place, .inl (cI, 40, .inl f2_place)), (a2_mastPeg, .inl (cI, 40, .inl f2_mastPeg))] := hD
    refine lv_isub hx hb dX2_lengthOfSpans_22 ?_
    refine lv_goto (tgt := 27) hx hb dX2_lengthOfSpans_23 (by decide) ?_
    have hP9 := hP.sub (ws' := [(a2, .inr (2, [.int v2_count, .int v2_masts, .ref a2_place, .ref a2_price, .ref a2_trackAside, .ref a2_side, .ref a2_stands, .ref a2_mastPeg])), (a2_place, .inl (cI, 40, .inl f2_place)), (a2_mastPeg, .inl (cI, 40, .inl f2_mastPeg))]) [0, 1, 2] rfl
    have hD9 := hD.sub (ws' := [(a2, .inr (2, [.int v2_count, .int v2_masts, .ref a2_place, .ref a2_price, .ref a2_trackAside, .ref a2_side, .ref a2_stands, .ref a2_mastPeg])), (a2_place, .inl (cI, 40, .inl f2_place)), (a2_mastPeg, .inl (cI, 40, .inl f2_mastPeg))]) [0, 1, 2] (by decide) rfl
    exact W.iret (v := (r4 - r5)) hx hb hr (fun t ht hW => ⟨⟨(r4 - r5), (), rfl, hw, by rw [ht]; exact hP9, va_K.moved hW.alike hK, hD9⟩, hS.F ht⟩) hS.2.2 dX2_lengthOfSpans_27

theorem inX2_priceOfMasts_X2 : ∀ w ∈ wsX20, w ∈ wsX2_priceOfMasts := fun _ h => List.mem_cons_of_mem _ (List.mem_append_right _ h)
def wb_X2_priceOfMasts_4 (Q : Int32 → Prop) (v2_masts : Int32) (f2_price : Nat → Int32) (f2_mastPeg : Nat → Int32) (K4 : (Int32) → (Int32) → Prop) (y4_1 : Int32) (y4_2 : Int32) : Prop :=
  ((v2_masts ≤ y4_2 → (Q y4_1 )) ∧ (¬ v2_masts ≤ y4_2 → (vp_in y4_2 40 ∧ (vp_in (f2_mastPeg y4_2.toNatClampNeg) 40 ∧ (∀ x4 : Int32, x4 = (y4_1 + (f2_price (f2_mastPeg y4_2.toNatClampNeg).toNatClampNeg)) → (∀ x5 : Int32, x5 = y4_2 + (1 : Int32) → (K4 x4 x5)))))))
def wl_X2_priceOfMasts_4 (Q : Int32 → Prop) (v2_masts : Int32) (f2_price : Nat → Int32) (f2_mastPeg : Nat → Int32) : Nat → (Int32) → (Int32) → Prop
  | 0, _, _ => False
  | n + 1, y4_1, y4_2 => wb_X2_priceOfMasts_4 Q v2_masts f2_price f2_mastPeg  (wl_X2_priceOfMasts_4 Q v2_masts f2_price f2_mastPeg  n) y4_1 y4_2
def wp_X2_priceOfMasts (Q : Int32 → Prop) (v2_masts : Int32) (f2_price : Nat → Int32) (f2_mastPeg : Nat → Int32) : Prop :=
  (∃ n : Nat, wl_X2_priceOfMasts_4 Q v2_masts f2_price f2_mastPeg  n (0 : Int32) (0 : Int32))
set_option maxHeartbeats 4000000 in
set_option maxRecDepth 100000 in
theorem c_X2_priceOfMasts (l : Launch) (dC : Nat → ClassId) (dI : Nat → Nat → Nat) (cI cJ cZ : ClassId) (a2 : Nat) (a2_place : Nat) (a2_price : Nat) (a2_trackAside : Nat) (a2_side : Nat) (a2_stands : Nat) (a2_mastPeg : Nat) (sz : Nat) (v2_count : Int32) (v2_masts : Int32) (f2_price : Nat → Int32) (f2_mastPeg : Nat → Int32) (Q : Int32 → Prop) (hw : wp_X2_priceOfMasts Q v2_masts f2_price f2_mastPeg ) : Met l yX2_priceOfMasts wsX2_priceOfMasts ({ frames := 0, cells := 0, slots := 0, locals := 0 } : Room) (va_Pc [.ref a2] (fun U => U.heap.size = sz ∧ va_P (dC, dI) vwCl [(a2, .inr (2, [.int v2_count, .int v2_masts, .ref a2_place, .ref a2_price, .ref a2_trackAside, .ref a2_side, .ref a2_stands, .ref a2_mastPeg])), (a2_price, .inl (cI, 40, .inl f2_price)), (a2_mastPeg, .inl (cI, 40, .inl f2_mastPeg))] U.heap ∧ va_K (dC, dI) vwCl [(cI, .int), (cJ, .long), (cZ, .boolean)] U ∧ va_D (fun _ => True) [(a2, .inr (2, [.int v2_count, .int v2_masts, .ref a2_place, .ref a2_price, .ref a2_trackAside, .ref a2_side, .ref a2_stands, .ref a2_mastPeg])), (a2_price, .inl (cI, 40, .inl f2_price)), (a2_mastPeg, .inl (cI, 40, .inl f2_mastPeg))])) (va_Qi (fun r (u : Unit) => Q r) (fun (u : Unit) t => va_P (dC, dI) vwCl [(a2, .inr (2, [.int v2_count, .int v2_masts, .ref a2_place, .ref a2_price, .ref a2_trackAside, .ref a2_side, .ref a2_stands, .ref a2_mastPeg])), (a2_price, .inl (cI, 40, .inl f2_price)), (a2_mastPeg, .inl (cI, 40, .inl f2_mastPeg))] t.heap ∧ va_K (dC, dI) vwCl [(cI, .int), (cJ, .long), (cZ, .boolean)] t ∧ va_D (va_A [(a2, .inr (2, [.int v2_count, .int v2_masts, .ref a2_place, .ref a2_price, .ref a2_trackAside, .ref a2_side, .ref a2_stands, .ref a2_mastPeg])), (a2_price, .inl (cI, 40, .inl f2_price)), (a2_mastPeg, .inl (cI, 40, .inl f2_mastPeg))] sz) [(a2, .inr (2, [.int v2_count, .int v2_masts, .ref a2_place, .ref a2_price, .ref a2_trackAside, .ref a2_side, .ref a2_stands, .ref a2_mastPeg])), (a2_price, .inl (cI, 40, .inl f2_price)), (a2_mastPeg, .inl (cI, 40, .inl f2_mastPeg))]) (va_A [(a2, .inr (2, [.int v2_count, .int v2_masts, .ref a2_place, .ref a2_price, .ref a2_trackAside, .ref a2_side, .ref a2_stands, .ref a2_mastPeg])), (a2_price, .inl (cI, 40, .inl f2_price)), (a2_mastPeg, .inl (cI, 40, .inl f2_mastPeg))] sz)) 0 0 (va_A [(a2, .inr (2, [.int v2_count, .int v2_masts, .ref a2_place, .ref a2_price, .ref a2_trackAside, .ref a2_side, .ref a2_stands, .ref a2_mastPeg])), (a2_price, .inl (cI, 40, .inl f2_price)), (a2_mastPeg, .inl (cI, 40, .inl f2_mastPeg))] sz) := by
  refine Met.ofW (cc := cX2_priceOfMasts) (maxL := 3) (ret := (some .int)) (by decide) rfl ?_
  intro p e s m args below meth c s₁ B hml hv
  obtain ⟨rfl, hsz, hP, hK, hD0⟩ := hv
  have hx := B.exec
  have hb := B.bytes
  have hr := B.returns
  have hts := atoms_spec (ws := wsX2_priceOfMasts) B.pre
  have hown : s.vm.findClass RX2 = some m.cls := findClass_of_methodNamed B.named
  have hlocks := B.notSynchronized
  subst hsz
  have hD := hD0.self (sz := s.heap.size)
  generalize hAe : va_A [(a2, .inr (2, [.int v2_count, .int v2_masts, .ref a2_place, .ref a2_price, .ref a2_trackAside, .ref a2_side, .ref a2_stands, .ref a2_mastPeg])), (a2_price, .inl (cI, 40, .inl f2_price)), (a2_mastPeg, .inl (cI, 40, .inl f2_mastPeg))] s.heap.size = A at hD ⊢
  have hA : ∀ q : Nat, s.heap.size ≤ q → A q := fun q h => by rw [← hAe]; exact Or.inr h
  have hS : va_S A s.heap s.heap [] := va_S.rf
  have hP : va_P (dC, dI) vwCl [(a2, .inr (2, [.int v2_count, .int v2_masts, .ref a2_place, .ref a2_price, .ref a2_trackAside, .ref a2_side, .ref a2_stands, .ref a2_mastPeg])), (a2_price, .inl (cI, 40, .inl f2_price)), (a2_mastPeg, .inl (cI, 40, .inl f2_mastPeg))] s.heap := hP
  have lk1 := hts (.fieldLink RX2 40 "WireRow$PegRow" "masts" "I") (by decide +kernel)
  have lk2 := hts (.fieldLink RX2 15 "WireRow$PegRow" "price" "[I") (by decide +kernel)
  have lk3 := hts (.fieldLink RX2 29 "WireRow$PegRow" "mastPeg" "[I") (by decide +kernel)
  have k_4 : ∀ (n_4 : Nat) (y4_1 : Int32) (y4_2 : Int32) (H : Heap) (locs : List Loc) (ls : Array Slot), va_P (dC, dI) vwCl [(a2, .inr (2, [.int v2_count, .int v2_masts, .ref a2_place, .ref a2_price, .ref a2_trackAside, .ref a2_side, .ref a2_stands, .ref a2_mastPeg])), (a2_price, .inl (cI, 40, .inl f2_price)), (a2_mastPeg, .inl (cI, 40, .inl f2_mastPeg))] H → va_D A [(a2, .inr (2, [.int v2_count, .int v2_masts, .ref a2_place, .ref a2_price, .ref a2_trackAside, .ref a2_side, .ref a2_stands, .ref a2_mastPeg])), (a2_price, .inl (cI, 40, .inl f2_price)), (a2_mastPeg, .inl (cI, 40, .inl f2_mastPeg))] → va_S A s.heap H locs → lv_has ls 3 [(0, .ref a2), (1, .int y4_1), (2, .int y4_2)] → (wl_X2_priceOfMasts_4 Q v2_masts f2_price f2_mastPeg  n_4 y4_1 y4_2) → W p l e (headSpec wsX2_priceOfMasts ({ frames := 0, cells := 0, slots := 0, locals := 0 } : Room)).room s m [.ref a2].toArray below meth c H locs 0 0 (MQ below (va_Qi (fun r (u : Unit) => Q r) (fun (u : Unit) t => va_P (dC, dI) vwCl [(a2, .inr (2, [.int v2_count, .int v2_masts, .ref a2_place, .ref a2_price, .ref a2_trackAside, .ref a2_side, .ref a2_stands, .ref a2_mastPeg])), (a2_price, .inl (cI, 40, .inl f2_price)), (a2_mastPeg, .inl (cI, 40, .inl f2_mastPeg))] t.heap ∧ va_K (dC, dI) vwCl [(cI, .int), (cJ, .long), (cZ, .boolean)] t ∧ va_D A [(a2, .inr (2, [.int v2_count, .int v2_masts, .ref a2_place, .ref a2_price, .ref a2_trackAside, .ref a2_side, .ref a2_stands, .ref a2_mastPeg])), (a2_price, .inl (cI, 40, .inl f2_price)), (a2_mastPeg, .inl (cI, 40, .inl f2_mastPeg))]) A) [.ref a2].toArray s 0 0 A) (F0 m 4 ls []) := by
    intro n_4
    induction n_4 with
    | zero =>
      intro y4_1 y4_2 H locs ls hP hD hS hl hw
      exact False.elim hw
    | succ n_4 ih_4 =>
      intro y4_1 y4_2 H locs ls hP hD hS hl hw
      replace hw : wb_X2_priceOfMasts_4 Q v2_masts f2_price f2_mastPeg  (wl_X2_priceOfMasts_4 Q v2_masts f2_price f2_mastPeg  n_4) y4_1 y4_2 := hw
      unfold wb_X2_priceOfMasts_4 at hw
      refine lv_iload_n hx hb dX2_priceOfMasts_4 rfl (lv_at hl 2 rfl) ?_
      refine lv_aload_n hx hb dX2_priceOfMasts_5 rfl (lv_at hl 0 rfl) ?_
      refine va_get (D := (dC, dI)) (ci := 2) (v := .int v2_masts) (C := RX2) (T := TX2) (N := 8) hx hb hts inX2_priceOfMasts_X2 hown hK hP 0 rfl rfl 1 (by decide) lk1 (fun _ h9 => h9) rfl dX2_priceOfMasts_6 ?_
      refine lv_icmp_ge (tgt := 32) hx hb dX2_priceOfMasts_9 (by decide) (fun c1 => ?_) (fun c1 => ?_)
      · replace hw := hw.1 (c1)
        refine lv_iload_n hx hb dX2_priceOfMasts_32 rfl (lv_at hl 1 rfl) ?_
        have hP9 := hP.sub (ws' := [(a2, .inr (2, [.int v2_count, .int v2_masts, .ref a2_place, .ref a2_price, .ref a2_trackAside, .ref a2_side, .ref a2_stands, .ref a2_mastPeg])), (a2_price, .inl (cI, 40, .inl f2_price)), (a2_mastPeg, .inl (cI, 40, .inl f2_mastPeg))]) [0, 1, 2] rfl
        have hD9 := hD.sub (ws' := [(a2, .inr (2, [.int v2_count, .int v2_masts, .ref a2_place, .ref a2_price, .ref a2_trackAside, .ref a2_side, .ref a2_stands, .ref a2_mastPeg])), (a2_price, .inl (cI, 40, .inl f2_price)), (a2_mastPeg, .inl (cI, 40, .inl f2_mastPeg))]) [0, 1, 2] (by decide) rfl
        exact W.iret (v := y4_1) hx hb hr (fun t ht hW => ⟨⟨y4_1, (), rfl, hw, by rw [ht]; exact hP9, va_K.moved hW.alike hK, hD9⟩, hS.F ht⟩) hS.2.2 dX2_priceOfMasts_33
      · replace hw := hw.2 (c1)
        refine lv_iload_n hx hb dX2_priceOfMasts_12 rfl (lv_at hl 1 rfl) ?_
        refine lv_aload_n hx hb dX2_priceOfMasts_13 rfl (lv_at hl 0 rfl) ?_
        refine va_get (D := (dC, dI)) (ci := 2) (v := .ref a2_price) (C := RX2) (T := TX2) (N := 8) hx hb hts inX2_priceOfMasts_X2 hown hK hP 0 rfl rfl 3 (by decide) lk2 (fun _ h9 => h9) rfl dX2_priceOfMasts_14 ?_
        refine lv_aload_n hx hb dX2_priceOfMasts_17 rfl (lv_at hl 0 rfl) ?_
        refine va_get (D := (dC, dI)) (ci := 2) (v := .ref a2_mastPeg) (C := RX2) (T := TX2) (N := 8) hx hb hts inX2_priceOfMasts_X2 hown hK hP 0 rfl rfl 7 (by decide) lk3 (fun _ h9 => h9) rfl dX2_priceOfMasts_18 ?_
        refine lv_iload_n hx hb dX2_priceOfMasts_21 rfl (lv_at hl 2 rfl) ?_
        obtain ⟨h2, hw⟩ := hw
        refine va_iald hx hb hK hP 2 0 rfl rfl h2 dX2_priceOfMasts_22 ?_
        obtain ⟨h3, hw⟩ := hw
        refine va_iald hx hb hK hP 1 0 rfl rfl h3 dX2_priceOfMasts_23 ?_
        refine lv_iadd hx hb dX2_priceOfMasts_24 ?_
        refine lv_topi (fun x4 ex4 => ?_)
        replace hw := hw x4 ex4
        refine lv_istore_n (lv' := [(1, .int x4), (0, .ref a2), (2, .int y4_2)]) hx hb dX2_priceOfMasts_25 rfl hl (by decide) rfl (fun ls hl => ?_)
        obtain ⟨x5, ex5⟩ : ∃ y : Int32, y = y4_2 + (1 : Int32) := ⟨_, rfl⟩
        replace hw := hw x5 ex5
        refine lv_iinc (v := x5) (lv' := [(2, .int x5), (1, .int x4), (0, .ref a2)]) hx hb dX2_priceOfMasts_26 hl (k := 2) rfl (by rw [ex5]; rfl) (by decide) rfl (fun ls hl => ?_)
        refine lv_goto (tgt := 4) hx hb dX2_priceOfMasts_29 (by decide) ?_
        exact ih_4 x4 x5 _ _ _ (hP.sub [0, 1, 2] rfl) (hD.sub [0, 1, 2] (by decide) rfl) hS (lv_sub hl [2, 1, 0] rfl) hw
  have hl := lv_entry ([.ref a2]) (n := 3) (Nat.le_of_ble_eq_true rfl)
  rw [lg_entry_eq]
  generalize (lg_sl ([.ref a2]) ++ List.replicate (3 - (lg_sl ([.ref a2])).length) Slot.unset).toArray = ls at hl ⊢
  have hl : lv_has ls 3 [(0, .ref a2)] := hl
  obtain ⟨H, hHe⟩ : ∃ H, H = s.heap := ⟨_, rfl⟩
  rw [← hHe] at hP
  have hS : va_S A s.heap H [] := by rw [hHe]; exact hS
  rw [← hHe]
  unfold wp_X2_priceOfMasts at hw
  refine lv_iconst (v := (0 : Int32)) hx hb dX2_priceOfMasts_0 (by decide) ?_
  refine lv_istore_n (lv' := [(1, .int (0 : Int32)), (0, .ref a2)]) hx hb dX2_priceOfMasts_1 rfl hl (by decide) rfl (fun ls hl => ?_)
  refine lv_iconst (v := (0 : Int32)) hx hb dX2_priceOfMasts_2 (by decide) ?_
  refine lv_istore_n (lv' := [(2, .int (0 : Int32)), (1, .int (0 : Int32)), (0, .ref a2)]) hx hb dX2_priceOfMasts_3 rfl hl (by decide) rfl (fun ls hl => ?_)
  obtain ⟨n_4, hw⟩ := hw
  exact k_4 n_4 (0 : Int32) (0 : Int32) _ _ _ (hP.sub [0, 1, 2] rfl) (hD.sub [0, 1, 2] (by decide) rfl) hS (lv_sub hl [2, 1, 0] rfl) hw

theorem inX4_decimetres_X4 : ∀ w ∈ wsX40, w ∈ wsX4_decimetres := fun _ h => List.mem_cons_of_mem _ (List.mem_append_right _ h)
def wp_X4_decimetres (Q : Int32 → Prop) (v4_begin : Int32) (v4_end : Int32) : Prop :=
  (Q (v4_end - v4_begin) )
set_option maxHeartbeats 4000000 in
set_option maxRecDepth 100000 in
theorem c_X4_decimetres (l : Launch) (dC : Nat → ClassId) (dI : Nat → Nat → Nat) (cI cJ cZ : ClassId) (a6 : Nat) (a2 : Nat) (a5 : Nat) (a4 : Nat) (sz : Nat) (v4_begin : Int32) (v4_end : Int32) (v4_wireAtBegin : Int64) (v4_wireAtEnd : Int64) (Q : Int32 → Prop) (hw : wp_X4_decimetres Q v4_begin v4_end ) : Met l yX4_decimetres wsX4_decimetres ({ frames := 0, cells := 0, slots := 0, locals := 0 } : Room) (va_Pc [.ref a4] (fun U => U.heap.size = sz ∧ va_P (dC, dI) vwCl [(a4, .inr (4, [.ref a6, .ref a2, .ref a5, .int v4_begin, .int v4_end, .long v4_wireAtBegin, .long v4_wireAtEnd]))] U.heap ∧ va_K (dC, dI) vwCl [(cI, .int), (cJ, .long), (cZ, .boolean)] U ∧ va_D (fun _ => True) [(a4, .inr (4, [.ref a6, .ref a2, .ref a5, .int v4_begin, .int v4_end, .long v4_wireAtBegin, .long v4_wireAtEnd]))])) (va_Qi (fun r (u : Unit) => Q r) (fun (u : Unit) t => va_P (dC, dI) vwCl [(a4, .inr (4, [.ref a6, .ref a2, .ref a5, .int v4_begin, .int v4_end, .long v4_wireAtBegin, .long v4_wireAtEnd]))] t.heap ∧ va_K (dC, dI) vwCl [(cI, .int), (cJ, .long), (cZ, .boolean)] t ∧ va_D (va_A [(a4, .inr (4, [.ref a6, .ref a2, .ref a5, .int v4_begin, .int v4_end, .long v4_wireAtBegin, .long v4_wireAtEnd]))] sz) [(a4, .inr (4, [.ref a6, .ref a2, .ref a5, .int v4_begin, .int v4_end, .long v4_wireAtBegin, .long v4_wireAtEnd]))]) (va_A [(a4, .inr (4, [.ref a6, .ref a2, .ref a5, .int v4_begin, .int v4_end, .long v4_wireAtBegin, .long v4_wireAtEnd]))] sz)) 0 0 (va_A [(a4, .inr (4, [.ref a6, .ref a2, .ref a5, .int v4_begin, .int v4_end, .long v4_wireAtBegin, .long v4_wireAtEnd]))] sz) := by
  refine Met.ofW (cc := cX4_decimetres) (maxL := 1) (ret := (some .int)) (by decide) rfl ?_
  intro p e s m args below meth c s₁ B hml hv
  obtain ⟨rfl, hsz, hP, hK, hD0⟩ := hv
  have hx := B.exec
  have hb := B.bytes
  have hr := B.returns
  have hts := atoms_spec (ws := wsX4_decimetres) B.pre
  have hown : s.vm.findClass RX4 = some m.cls := findClass_of_methodNamed B.named
  have hlocks := B.notSynchronized
  subst hsz
  have hD := hD0.self (sz := s.heap.size)
  generalize hAe : va_A [(a4, .inr (4, [.ref a6, .ref a2, .ref a5, .int v4_begin, .int v4_end, .long v4_wireAtBegin, .long v4_wireAtEnd]))] s.heap.size = A at hD ⊢
  have hA : ∀ q : Nat, s.heap.size ≤ q → A q := fun q h => by rw [← hAe]; exact Or.inr h
  have hS : va_S A s.heap s.heap [] := va_S.rf
  have hP : va_P (dC, dI) vwCl [(a4, .inr (4, [.ref a6, .ref a2, .ref a5, .int v4_begin, .int v4_end, .long v4_wireAtBegin, .long v4_wireAtEnd]))] s.heap := hP
  have lk1 := hts (.fieldLink RX4 33 "WireRow$Span" "end" "I") (by decide +kernel)
  have lk2 := hts (.fieldLink RX4 29 "WireRow$Span" "begin" "I") (by decide +kernel)
  have hl := lv_entry ([.ref a4]) (n := 1) (Nat.le_of_ble_eq_true rfl)
  rw [lg_entry_eq]
  generalize (lg_sl ([.ref a4]) ++ List.replicate (1 - (lg_sl ([.ref a4])).length) Slot.unset).toArray = ls at hl ⊢
  have hl : lv_has ls 1 [(0, .ref a4)] := hl
  obtain ⟨H, hHe⟩ : ∃ H, H = s.heap := ⟨_, rfl⟩
  rw [← hHe] at hP
  have hS : va_S A s.heap H [] := by rw [hHe]; exact hS
  rw [← hHe]
  unfold wp_X4_decimetres at hw
  refine lv_aload_n hx hb dX4_decimetres_0 rfl (lv_at hl 0 rfl) ?_
  refine va_get (D := (dC, dI)) (ci := 4) (v := .int v4_end) (C := RX4) (T := TX4) (N := 7) hx hb hts inX4_decimetres_X4 hown hK hP 0 rfl rfl 4 (by decide) lk1 (fun _ h9 => h9) rfl dX4_decimetres_1 ?_
  refine lv_aload_n hx hb dX4_decimetres_4 rfl (lv_at hl 0 rfl) ?_
  refine va_get (D := (dC, dI)) (ci := 4) (v := .int v4_begin) (C := RX4) (T := TX4) (N := 7) hx hb hts inX4_decimetres_X4 hown hK hP 0 rfl rfl 3 (by decide) lk2 (fun _ h9 => h9) rfl dX4_decimetres_5 ?_
  refine lv_isub hx hb dX4_decimetres_8 ?_
  have hP9 := hP.sub (ws' := [(a4, .inr (4, [.ref a6, .ref a2, .ref a5, .int v4_begin, .int v4_end, .long v4_wireAtBegin, .long v4_wireAtEnd]))]) [0] rfl
  have hD9 := hD.sub (ws' := [(a4, .inr (4, [.ref a6, .ref a2, .ref a5, .int v4_begin, .int v4_end, .long v4_wireAtBegin, .long v4_wireAtEnd]))]) [0] (by decide) rfl
  exact W.iret (v := (v4_end - v4_begin)) hx hb hr (fun t ht hW => ⟨⟨(v4_end - v4_begin), (), rfl, hw, by rw [ht]; exact hP9, va_K.moved hW.alike hK, hD9⟩, hS.F ht⟩) hS.2.2 dX4_decimetres_9

theorem inX4_firstNotKept_X4 : ∀ w ∈ wsX40, w ∈ wsX4_firstNotKept := fun _ h => List.mem_cons_of_mem _ (List.mem_append_left _ (List.mem_append_left _ (List.mem_append_right _ h)))
theorem inX4_firstNotKept_X6 : ∀ w ∈ wsX60, w ∈ wsX4_firstNotKept := fun _ h => List.mem_cons_of_mem _ (List.mem_append_left _ (List.mem_append_right _ h))
theorem inX4_firstNotKept_X5 : ∀ w ∈ wsX50, w ∈ wsX4_firstNotKept := fun _ h => List.mem_cons_of_mem _ (List.mem_append_right _ h)
def wb_X4_firstNotKept_5 (Q : Int32 → Prop) (v6_bends : Int32) (f6_from : Nat → Int32) (f6_to : Nat → Int32) (f6_curve : Nat → Int32) (v5_wind : Int32) (v5_pull : Int32) (v5_room : Int32) (v4_begin : Int32) (v4_end : Int32) (v4_wireAtBegin : Int64) (v4_wireAtEnd : Int64) (K5 : (Int32) → Prop) (y5_1 : Int32) : Prop :=
  ((v4_end < y5_1 → (Q (-6 : Int32) )) ∧ (¬ v4_end < y5_1 → (wp_X4_keepsPlace (fun r2 => ((r2 = 0 → (Q y5_1 )) ∧ (¬ r2 = 0 → (∀ x4 : Int32, x4 = y5_1 + (1 : Int32) → (K5 x4))))) v6_bends f6_from f6_to f6_curve v5_wind v5_pull v5_room v4_begin v4_end v4_wireAtBegin v4_wireAtEnd y5_1)))
def wl_X4_firstNotKept_5 (Q : Int32 → Prop) (v6_bends : Int32) (f6_from : Nat → Int32) (f6_to : Nat → Int32) (f6_curve : Nat → Int32) (v5_wind : Int32) (v5_pull : Int32) (v5_room : Int32) (v4_begin : Int32) (v4_end : Int32) (v4_wireAtBegin : Int64) (v4_wireAtEnd : Int64) : Nat → (Int32) → Prop
  | 0, _ => False
  | n + 1, y5_1 => wb_X4_firstNotKept_5 Q v6_bends f6_from f6_to f6_curve v5_wind v5_pull v5_room v4_begin v4_end v4_wireAtBegin v4_wireAtEnd  (wl_X4_firstNotKept_5 Q v6_bends f6_from f6_to f6_curve v5_wind v5_pull v5_room v4_begin v4_end v4_wireAtBegin v4_wireAtEnd  n) y5_1
def wp_X4_firstNotKept (Q : Int32 → Prop) (v6_bends : Int32) (f6_from : Nat → Int32) (f6_to : Nat → Int32) (f6_curve : Nat → Int32) (v5_wind : Int32) (v5_pull : Int32) (v5_room : Int32) (v4_begin : Int32) (v4_end : Int32) (v4_wireAtBegin : Int64) (v4_wireAtEnd : Int64) : Prop :=
  (∃ n : Nat, wl_X4_firstNotKept_5 Q v6_bends f6_from f6_to f6_curve v5_wind v5_pull v5_room v4_begin v4_end v4_wireAtBegin v4_wireAtEnd  n v4_begin)
set_option maxHeartbeats 4000000 in
set_option maxRecDepth 100000 in
theorem c_X4_firstNotKept (l : Launch) (dC : Nat → ClassId) (dI : Nat → Nat → Nat) (cI cJ cZ : ClassId) (a6 : Nat) (a6_from : Nat) (a6_to : Nat) (a6_curve : Nat) (a2 : Nat) (a5 : Nat) (a4 : Nat) (sz : Nat) (v6_end : Int32) (v6_bends : Int32) (f6_from : Nat → Int32) (f6_to : Nat → Int32) (f6_curve : Nat → Int32) (v5_wind : Int32) (v5_pull : Int32) (v5_room : Int32) (v5_reach : Int32) (v4_begin : Int32) (v4_end : Int32) (v4_wireAtBegin : Int64) (v4_wireAtEnd : Int64) (Q : Int32 → Prop) (hw : wp_X4_firstNotKept Q v6_bends f6_from f6_to f6_curve v5_wind v5_pull v5_room v4_begin v4_end v4_wireAtBegin v4_wireAtEnd ) : Met l yX4_firstNotKept wsX4_firstNotKept ({ frames := 3, cells := 0, slots := 0, locals := 70 } : Room) (va_Pc [.ref a4] (fun U => U.heap.size = sz ∧ va_P (dC, dI) vwCl [(a6, .inr (6, [.int v6_end, .int v6_bends, .ref a6_from, .ref a6_to, .ref a6_curve])), (a6_from, .inl (cI, 8, .inl f6_from)), (a6_to, .inl (cI, 8, .inl f6_to)), (a6_curve, .inl (cI, 8, .inl f6_curve)), (a5, .inr (5, [.int v5_wind, .int v5_pull, .int v5_room, .int v5_reach])), (a4, .inr (4, [.ref a6, .ref a2, .ref a5, .int v4_begin, .int v4_end, .long v4_wireAtBegin, .long v4_wireAtEnd]))] U.heap ∧ va_K (dC, dI) vwCl [(cI, .int), (cJ, .long), (cZ, .boolean)] U ∧ va_D (fun _ => True) [(a6, .inr (6, [.int v6_end, .int v6_bends, .ref a6_from, .ref a6_to, .ref a6_curve])), (a6_from, .inl (cI, 8, .inl f6_from)), (a6_to, .inl (cI, 8, .inl f6_to)), (a6_curve, .inl (cI, 8, .inl f6_curve)), (a5, .inr (5, [.int v5_wind, .int v5_pull, .int v5_room, .int v5_reach])), (a4, .inr (4, [.ref a6, .ref a2, .ref a5, .int v4_begin, .int v4_end, .long v4_wireAtBegin, .long v4_wireAtEnd]))])) (va_Qi (fun r (u : Unit) => Q r) (fun (u : Unit) t => va_P (dC, dI) vwCl [(a6, .inr (6, [.int v6_end, .int v6_bends, .ref a6_from, .ref a6_to, .ref a6_curve])), (a6_from, .inl (cI, 8, .inl f6_from)), (a6_to, .inl (cI, 8, .inl f6_to)), (a6_curve, .inl (cI, 8, .inl f6_curve)), (a5, .inr (5, [.int v5_wind, .int v5_pull, .int v5_room, .int v5_reach])), (a4, .inr (4, [.ref a6, .ref a2, .ref a5, .int v4_begin, .int v4_end, .long v4_wireAtBegin, .long v4_wireAtEnd]))] t.heap ∧ va_K (dC, dI) vwCl [(cI, .int), (cJ, .long), (cZ, .boolean)] t ∧ va_D (va_A [(a6, .inr (6, [.int v6_end, .int v6_bends, .ref a6_from, .ref a6_to, .ref a6_curve])), (a6_from, .inl (cI, 8, .inl f6_from)), (a6_to, .inl (cI, 8, .inl f6_to)), (a6_curve, .inl (cI, 8, .inl f6_curve)), (a5, .inr (5, [.int v5_wind, .int v5_pull, .int v5_room, .int v5_reach])), (a4, .inr (4, [.ref a6, .ref a2, .ref a5, .int v4_begin, .int v4_end, .long v4_wireAtBegin, .long v4_wireAtEnd]))] sz) [(a6, .inr (6, [.int v6_end, .int v6_bends, .ref a6_from, .ref a6_to, .ref a6_curve])), (a6_from, .inl (cI, 8, .inl f6_from)), (a6_to, .inl (cI, 8, .inl f6_to)), (a6_curve, .inl (cI, 8, .inl f6_curve)), (a5, .inr (5, [.int v5_wind, .int v5_pull, .int v5_room, .int v5_reach])), (a4, .inr (4, [.ref a6, .ref a2, .ref a5, .int v4_begin, .int v4_end, .long v4_wireAtBegin, .long v4_wireAtEnd]))]) (va_A [(a6, .inr (6, [.int v6_end, .int v6_bends, .ref a6_from, .ref a6_to, .ref a6_curve])), (a6_from, .inl (cI, 8, .inl f6_from)), (a6_to, .inl (cI, 8, .inl f6_to)), (a6_curve, .inl (cI, 8, .inl f6_curve)), (a5, .inr (5, [.int v5_wind, .int v5_pull, .int v5_room, .int v5_reach])), (a4, .inr (4, [.ref a6, .ref a2, .ref a5, .int v4_begin, .int v4_end, .long v4_wireAtBegin, .long v4_wireAtEnd]))] sz)) 0 0 (va_A [(a6, .inr (6, [.int v6_end, .int v6_bends, .ref a6_from, .ref a6_to, .ref a6_curve])), (a6_from, .inl (cI, 8, .inl f6_from)), (a6_to, .inl (cI, 8, .inl f6_to)), (a6_curve, .inl (cI, 8, .inl f6_curve)), (a5, .inr (5, [.int v5_wind, .int v5_pull, .int v5_room, .int v5_reach])), (a4, .inr (4, [.ref a6, .ref a2, .ref a5, .int v4_begin, .int v4_end, .long v4_wireAtBegin, .long v4_wireAtEnd]))] sz) := by
  refine Met.ofW (cc := cX4_firstNotKept) (maxL := 2) (ret := (some .int)) (by decide) rfl ?_
  intro p e s m args below meth c s₁ B hml hv
  obtain ⟨rfl, hsz, hP, hK, hD0⟩ := hv
  have hx := B.exec
  have hb := B.bytes
  have hr := B.returns
  have hts := atoms_spec (ws := wsX4_firstNotKept) B.pre
  have hown : s.vm.findClass RX4 = some m.cls := findClass_of_methodNamed B.named
  have hlocks := B.notSynchronized
  subst hsz
  have hD := hD0.self (sz := s.heap.size)
  generalize hAe : va_A [(a6, .inr (6, [.int v6_end, .int v6_bends, .ref a6_from, .ref a6_to, .ref a6_curve])), (a6_from, .inl (cI, 8, .inl f6_from)), (a6_to, .inl (cI, 8, .inl f6_to)), (a6_curve, .inl (cI, 8, .inl f6_curve)), (a5, .inr (5, [.int v5_wind, .int v5_pull, .int v5_room, .int v5_reach])), (a4, .inr (4, [.ref a6, .ref a2, .ref a5, .int v4_begin, .int v4_end, .long v4_wireAtBegin, .long v4_wireAtEnd]))] s.heap.size = A at hD ⊢
  have hA : ∀ q : Nat, s.heap.size ≤ q → A q := fun q h => by rw [← hAe]; exact Or.inr h
  have hS : va_S A s.heap s.heap [] := va_S.rf
  have hP : va_P (dC, dI) vwCl [(a6, .inr (6, [.int v6_end, .int v6_bends, .ref a6_from, .ref a6_to, .ref a6_curve])), (a6_from, .inl (cI, 8, .inl f6_from)), (a6_to, .inl (cI, 8, .inl f6_to)), (a6_curve, .inl (cI, 8, .inl f6_curve)), (a5, .inr (5, [.int v5_wind, .int v5_pull, .int v5_room, .int v5_reach])), (a4, .inr (4, [.ref a6, .ref a2, .ref a5, .int v4_begin, .int v4_end, .long v4_wireAtBegin, .long v4_wireAtEnd]))] s.heap := hP
  have lk1 := hts (.fieldLink RX4 29 "WireRow$Span" "begin" "I") (by decide +kernel)
  have lk2 := hts (.fieldLink RX4 33 "WireRow$Span" "end" "I") (by decide +kernel)
  have k_5 : ∀ (n_5 : Nat) (y5_1 : Int32) (H : Heap) (locs : List Loc) (ls : Array Slot), va_P (dC, dI) vwCl [(a6, .inr (6, [.int v6_end, .int v6_bends, .ref a6_from, .ref a6_to, .ref a6_curve])), (a6_from, .inl (cI, 8, .inl f6_from)), (a6_to, .inl (cI, 8, .inl f6_to)), (a6_curve, .inl (cI, 8, .inl f6_curve)), (a5, .inr (5, [.int v5_wind, .int v5_pull, .int v5_room, .int v5_reach])), (a4, .inr (4, [.ref a6, .ref a2, .ref a5, .int v4_begin, .int v4_end, .long v4_wireAtBegin, .long v4_wireAtEnd]))] H → va_D A [(a6, .inr (6, [.int v6_end, .int v6_bends, .ref a6_from, .ref a6_to, .ref a6_curve])), (a6_from, .inl (cI, 8, .inl f6_from)), (a6_to, .inl (cI, 8, .inl f6_to)), (a6_curve, .inl (cI, 8, .inl f6_curve)), (a5, .inr (5, [.int v5_wind, .int v5_pull, .int v5_room, .int v5_reach])), (a4, .inr (4, [.ref a6, .ref a2, .ref a5, .int v4_begin, .int v4_end, .long v4_wireAtBegin, .long v4_wireAtEnd]))] → va_S A s.heap H locs → lv_has ls 2 [(0, .ref a4), (1, .int y5_1)] → (wl_X4_firstNotKept_5 Q v6_bends f6_from f6_to f6_curve v5_wind v5_pull v5_room v4_begin v4_end v4_wireAtBegin v4_wireAtEnd  n_5 y5_1) → W p l e (headSpec wsX4_firstNotKept ({ frames := 3, cells := 0, slots := 0, locals := 70 } : Room)).room s m [.ref a4].toArray below meth c H locs 0 0 (MQ below (va_Qi (fun r (u : Unit) => Q r) (fun (u : Unit) t => va_P (dC, dI) vwCl [(a6, .inr (6, [.int v6_end, .int v6_bends, .ref a6_from, .ref a6_to, .ref a6_curve])), (a6_from, .inl (cI, 8, .inl f6_from)), (a6_to, .inl (cI, 8, .inl f6_to)), (a6_curve, .inl (cI, 8, .inl f6_curve)), (a5, .inr (5, [.int v5_wind, .int v5_pull, .int v5_room, .int v5_reach])), (a4, .inr (4, [.ref a6, .ref a2, .ref a5, .int v4_begin, .int v4_end, .long v4_wireAtBegin, .long v4_wireAtEnd]))] t.heap ∧ va_K (dC, dI) vwCl [(cI, .int), (cJ, .long), (cZ, .boolean)] t ∧ va_D A [(a6, .inr (6, [.int v6_end, .int v6_bends, .ref a6_from, .ref a6_to, .ref a6_curve])), (a6_from, .inl (cI, 8, .inl f6_from)), (a6_to, .inl (cI, 8, .inl f6_to)), (a6_curve, .inl (cI, 8, .inl f6_curve)), (a5, .inr (5, [.int v5_wind, .int v5_pull, .int v5_room, .int v5_reach])), (a4, .inr (4, [.ref a6, .ref a2, .ref a5, .int v4_begin, .int v4_end, .long v4_wireAtBegin, .long v4_wireAtEnd]))]) A) [.ref a4].toArray s 0 0 A) (F0 m 5 ls []) := by
    intro n_5
    induction n_5 with
    | zero =>
      intro y5_1 H locs ls hP hD hS hl hw
      exact False.elim hw
    | succ n_5 ih_5 =>
      intro y5_1 H locs ls hP hD hS hl hw
      replace hw : wb_X4_firstNotKept_5 Q v6_bends f6_from f6_to f6_curve v5_wind v5_pull v5_room v4_begin v4_end v4_wireAtBegin v4_wireAtEnd  (wl_X4_firstNotKept_5 Q v6_bends f6_from f6_to f6_curve v5_wind v5_pull v5_room v4_begin v4_end v4_wireAtBegin v4_wireAtEnd  n_5) y5_1 := hw
      unfold wb_X4_firstNotKept_5 at hw
      refine lv_iload_n hx hb dX4_firstNotKept_5 rfl (lv_at hl 1 rfl) ?_
      refine lv_aload_n hx hb dX4_firstNotKept_6 rfl (lv_at hl 0 rfl) ?_
      refine va_get (D := (dC, dI)) (ci := 4) (v := .int v4_end) (C := RX4) (T := TX4) (N := 7) hx hb hts inX4_firstNotKept_X4 hown hK hP 5 rfl rfl 4 (by decide) lk2 (fun _ h9 => h9) rfl dX4_firstNotKept_7 ?_
      refine lv_icmp_gt (tgt := 29) hx hb dX4_firstNotKept_10 (by decide) (fun c1 => ?_) (fun c1 => ?_)
      · replace hw := hw.1 (c1)
        refine lv_bipush (v := (-6 : Int32)) hx hb dX4_firstNotKept_29 (by decide) ?_
        have hP9 := hP.sub (ws' := [(a6, .inr (6, [.int v6_end, .int v6_bends, .ref a6_from, .ref a6_to, .ref a6_curve])), (a6_from, .inl (cI, 8, .inl f6_from)), (a6_to, .inl (cI, 8, .inl f6_to)), (a6_curve, .inl (cI, 8, .inl f6_curve)), (a5, .inr (5, [.int v5_wind, .int v5_pull, .int v5_room, .int v5_reach])), (a4, .inr (4, [.ref a6, .ref a2, .ref a5, .int v4_begin, .int v4_end, .long v4_wireAtBegin, .long v4_wireAtEnd]))]) [0, 1, 2, 3, 4, 5] rfl
        have hD9 := hD.sub (ws' := [(a6, .inr (6, [.int v6_end, .int v6_bends, .ref a6_from, .ref a6_to, .ref a6_curve])), (a6_from, .inl (cI, 8, .inl f6_from)), (a6_to, .inl (cI, 8, .inl f6_to)), (a6_curve, .inl (cI, 8, .inl f6_curve)), (a5, .inr (5, [.int v5_wind, .int v5_pull, .int v5_room, .int v5_reach])), (a4, .inr (4, [.ref a6, .ref a2, .ref a5, .int v4_begin, .int v4_end, .long v4_wireAtBegin, .long v4_wireAtEnd]))]) [0, 1, 2, 3, 4, 5] (by decide) rfl
        exact W.iret (v := (-6 : Int32)) hx hb hr (fun t ht hW => ⟨⟨(-6 : Int32), (), rfl, hw, by rw [ht]; exact hP9, va_K.moved hW.alike hK, hD9⟩, hS.F ht⟩) hS.2.2 dX4_firstNotKept_31
      · replace hw := hw.2 (c1)
        refine lv_aload_n hx hb dX4_firstNotKept_13 rfl (lv_at hl 0 rfl) ?_
        refine lv_iload_n hx hb dX4_firstNotKept_14 rfl (lv_at hl 1 rfl) ?_
        have hPc := hP.sub (ws' := [(a6, .inr (6, [.int v6_end, .int v6_bends, .ref a6_from, .ref a6_to, .ref a6_curve])), (a6_from, .inl (cI, 8, .inl f6_from)), (a6_to, .inl (cI, 8, .inl f6_to)), (a6_curve, .inl (cI, 8, .inl f6_curve)), (a5, .inr (5, [.int v5_wind, .int v5_pull, .int v5_room, .int v5_reach])), (a4, .inr (4, [.ref a6, .ref a2, .ref a5, .int v4_begin, .int v4_end, .long v4_wireAtBegin, .long v4_wireAtEnd]))]) [0, 1, 2, 3, 4, 5] rfl
        have hDc := hD.sub (ws' := [(a6, .inr (6, [.int v6_end, .int v6_bends, .ref a6_from, .ref a6_to, .ref a6_curve])), (a6_from, .inl (cI, 8, .inl f6_from)), (a6_to, .inl (cI, 8, .inl f6_to)), (a6_curve, .inl (cI, 8, .inl f6_curve)), (a5, .inr (5, [.int v5_wind, .int v5_pull, .int v5_room, .int v5_reach])), (a4, .inr (4, [.ref a6, .ref a2, .ref a5, .int v4_begin, .int v4_end, .long v4_wireAtBegin, .long v4_wireAtEnd]))]) [0, 1, 2, 3, 4, 5] (by decide) rfl
        have hFc := va_free (wc := [(a6, .inr (6, [.int v6_end, .int v6_bends, .ref a6_from, .ref a6_to, .ref a6_curve])), (a6_from, .inl (cI, 8, .inl f6_from)), (a6_to, .inl (cI, 8, .inl f6_to)), (a6_curve, .inl (cI, 8, .inl f6_curve)), (a5, .inr (5, [.int v5_wind, .int v5_pull, .int v5_room, .int v5_reach])), (a4, .inr (4, [.ref a6, .ref a2, .ref a5, .int v4_begin, .int v4_end, .long v4_wireAtBegin, .long v4_wireAtEnd]))]) hD hS hA [0, 1, 2, 3, 4, 5] rfl
        refine va_calli (va_runV (As := [.int y5_1]) (rest := []) ⟨hx, hb, hml, hown, hts⟩ (c_X4_keepsPlace l dC dI cI cJ cZ a6 a6_from a6_to a6_curve a2 a5 a4 H.size v6_end v6_bends f6_from f6_to f6_curve v5_wind v5_pull v5_room v5_reach v4_begin v4_end v4_wireAtBegin v4_wireAtEnd y5_1 _ hw) (cwV 1 hts gX4_firstNotKept_X4_keepsPlace rfl rfl rfl (by decide +kernel) ⟨Nat.le_of_ble_eq_true rfl, Nat.le_of_ble_eq_true rfl⟩) ⟨fun a U g mk q => by obtain ⟨q0, q1, qP, qK, qD⟩ := q; exact ⟨q0, q1, qP, va_K.moved (u := U) (U := U.calling g mk a) (Vm.Alike.refl U.vm) qK, qD⟩, va_recv hK hP (ci := 4) (q0 := 5) rfl rfl, fun U hU hW => ⟨rfl, by rw [hU], by rw [hU]; exact hPc, va_K.moved hW.alike hK, hDc.weaken (fun _ _ _ _ => trivial)⟩⟩ rfl rfl hl.1 rfl (lv_room (Nat.le_of_ble_eq_true rfl)) dX4_firstNotKept_15 ⟨(Nat.zero_le _), (Nat.zero_le _)⟩) hS (fun q _ h => hFc q h) hFc (fun r2 u t H1 locs ht hvm hw hB hz1 hk1 hS => ?_)
        obtain ⟨hP1, -, hD1⟩ := hB
        try dsimp only at hw
        rw [ht] at hP1
        obtain ⟨hP, hD⟩ := va_join (wr := []) (w1 := [(a6, .inr (6, [.int v6_end, .int v6_bends, .ref a6_from, .ref a6_to, .ref a6_curve])), (a6_from, .inl (cI, 8, .inl f6_from)), (a6_to, .inl (cI, 8, .inl f6_to)), (a6_curve, .inl (cI, 8, .inl f6_curve)), (a5, .inr (5, [.int v5_wind, .int v5_pull, .int v5_room, .int v5_reach])), (a4, .inr (4, [.ref a6, .ref a2, .ref a5, .int v4_begin, .int v4_end, .long v4_wireAtBegin, .long v4_wireAtEnd]))]) hP hD [0, 1, 2, 3, 4, 5] [] rfl rfl (by decide) (by decide) hk1 hFc hP1 hD1
        generalize H1 = H at hP hS ⊢
        have hP : va_P (dC, dI) vwCl [(a6, .inr (6, [.int v6_end, .int v6_bends, .ref a6_from, .ref a6_to, .ref a6_curve])), (a6_from, .inl (cI, 8, .inl f6_from)), (a6_to, .inl (cI, 8, .inl f6_to)), (a6_curve, .inl (cI, 8, .inl f6_curve)), (a5, .inr (5, [.int v5_wind, .int v5_pull, .int v5_room, .int v5_reach])), (a4, .inr (4, [.ref a6, .ref a2, .ref a5, .int v4_begin, .int v4_end, .long v4_wireAtBegin, .long v4_wireAtEnd]))] H := hP
        have hD : va_D A [(a6, .inr (6, [.int v6_end, .int v6_bends, .ref a6_from, .ref a6_to, .ref a6_curve])), (a6_from, .inl (cI, 8, .inl f6_from)), (a6_to, .inl (cI, 8, .inl f6_to)), (a6_curve, .inl (cI, 8, .inl f6_curve)), (a5, .inr (5, [.int v5_wind, .int v5_pull, .int v5_room, .int v5_reach])), (a4, .inr (4, [.ref a6, .ref a2, .ref a5, .int v4_begin, .int v4_end, .long v4_wireAtBegin, .long v4_wireAtEnd]))] := hD
        refine lv_if_ne (tgt := 23) hx hb dX4_firstNotKept_18 (by decide) (fun c3 => ?_) (fun c3 => ?_)
        · replace hw := hw.2 (c3)
          obtain ⟨x4, ex4⟩ : ∃ y : Int32, y = y5_1 + (1 : Int32) := ⟨_, rfl⟩
          replace hw := hw x4 ex4
          refine lv_iinc (v := x4) (lv' := [(1, .int x4), (0, .ref a4)]) hx hb dX4_firstNotKept_23 hl (k := 1) rfl (by rw [ex4]; rfl) (by decide) rfl (fun ls hl => ?_)
          refine lv_goto (tgt := 5) hx hb dX4_firstNotKept_26 (by decide) ?_
          exact ih_5 x4 _ _ _ (hP.sub [0, 1, 2, 3, 4, 5] rfl) (hD.sub [0, 1, 2, 3, 4, 5] (by decide) rfl) hS (lv_sub hl [1, 0] rfl) hw
        · replace hw := hw.1 (c3)
          refine lv_iload_n hx hb dX4_firstNotKept_21 rfl (lv_at hl 1 rfl) ?_
          have hP9 := hP.sub (ws' := [(a6, .inr (6, [.int v6_end, .int v6_bends, .ref a6_from, .ref a6_to, .ref a6_curve])), (a6_from, .inl (cI, 8, .inl f6_from)), (a6_to, .inl (cI, 8, .inl f6_to)), (a6_curve, .inl (cI, 8, .inl f6_curve)), (a5, .inr (5, [.int v5_wind, .int v5_pull, .int v5_room, .int v5_reach])), (a4, .inr (4, [.ref a6, .ref a2, .ref a5, .int v4_begin, .int v4_end, .long v4_wireAtBegin, .long v4_wireAtEnd]))]) [0, 1, 2, 3, 4, 5] rfl
          have hD9 := hD.sub (ws' := [(a6, .inr (6, [.int v6_end, .int v6_bends, .ref a6_from, .ref a6_to, .ref a6_curve])), (a6_from, .inl (cI, 8, .inl f6_from)), (a6_to, .inl (cI, 8, .inl f6_to)), (a6_curve, .inl (cI, 8, .inl f6_curve)), (a5, .inr (5, [.int v5_wind, .int v5_pull, .int v5_room, .int v5_reach])), (a4, .inr (4, [.ref a6, .ref a2, .ref a5, .int v4_begin, .int v4_end, .long v4_wireAtBegin, .long v4_wireAtEnd]))]) [0, 1, 2, 3, 4, 5] (by decide) rfl
          exact W.iret (v := y5_1) hx hb hr (fun t ht hW => ⟨⟨y5_1, (), rfl, hw, by rw [ht]; exact hP9, va_K.moved hW.alike hK, hD9⟩, hS.F ht⟩) hS.2.2 dX4_firstNotKept_22
  have hl := lv_entry ([.ref a4]) (n := 2) (Nat.le_of_ble_eq_true rfl)
  rw [lg_entry_eq]
  generalize (lg_sl ([.ref a4]) ++ List.replicate (2 - (lg_sl ([.ref a4])).length) Slot.unset).toArray = ls at hl ⊢
  have hl : lv_has ls 2 [(0, .ref a4)] := hl
  obtain ⟨H, hHe⟩ : ∃ H, H = s.heap := ⟨_, rfl⟩
  rw [← hHe] at hP
  have hS : va_S A s.heap H [] := by rw [hHe]; exact hS
  rw [← hHe]
  unfold wp_X4_firstNotKept at hw
  refine lv_aload_n hx hb dX4_firstNotKept_0 rfl (lv_at hl 0 rfl) ?_
  refine va_get (D := (dC, dI)) (ci := 4) (v := .int v4_begin) (C := RX4) (T := TX4) (N := 7) hx hb hts inX4_firstNotKept_X4 hown hK hP 5 rfl rfl 3 (by decide) lk1 (fun _ h9 => h9) rfl dX4_firstNotKept_1 ?_
  refine lv_istore_n (lv' := [(1, .int v4_begin), (0, .ref a4)]) hx hb dX4_firstNotKept_4 rfl hl (by decide) rfl (fun ls hl => ?_)
  obtain ⟨n_5, hw⟩ := hw
  exact k_5 n_5 v4_begin _ _ _ (hP.sub [0, 1, 2, 3, 4, 5] rfl) (hD.sub [0, 1, 2, 3, 4, 5] (by decide) rfl) hS (lv_sub hl [1, 0] rfl) hw
