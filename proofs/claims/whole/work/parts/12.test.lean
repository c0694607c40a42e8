theorem inX6_asideOf_X6 : ∀ w ∈ wsX60, w ∈ wsX6_asideOf := fun _ h => List.mem_cons_of_mem _ (List.mem_append_right _ h)
def wb_X6_asideOf_62 (Q : Int64 → Prop) (v6_bends : Int32) (f6_from : Nat → Int32) (f6_to : Nat → Int32) (f6_curve : Nat → Int32) (K5 : (Int32) → (Int64) → (Int32) → Prop) (y62_1 : Int32) (y62_2 : Int64) (y62_4 : Int32) (y62_5 : Int64) (k62_0 : Int64) : Prop :=
  (vp_in y62_4 8 ∧ (∀ x9 : Int64, x9 = (y62_2 + ((f6_curve y62_4.toNatClampNeg).toInt64 * ((y62_5 * y62_5) - (k62_0 * k62_0)))) → (∀ x10 : Int32, x10 = y62_4 + (1 : Int32) → (K5 y62_1 x9 x10))))
def wb_X6_asideOf_5 (Q : Int64 → Prop) (v6_bends : Int32) (f6_from : Nat → Int32) (f6_to : Nat → Int32) (f6_curve : Nat → Int32) (K5 : (Int32) → (Int64) → (Int32) → Prop) (y5_1 : Int32) (y5_2 : Int64) (y5_4 : Int32) : Prop :=
  ((v6_bends ≤ y5_4 → (Q y5_2 )) ∧ (¬ v6_bends ≤ y5_4 → (vp_in y5_4 8 ∧ ((y5_1 ≤ (f6_from y5_4.toNatClampNeg) → (Q y5_2 )) ∧ (¬ y5_1 ≤ (f6_from y5_4.toNatClampNeg) → (vp_in y5_4 8 ∧ (∀ x5 : Int64, x5 = (y5_1 - (f6_from y5_4.toNatClampNeg)).toInt64 → (vp_in y5_4 8 ∧ ((y5_1 ≤ (f6_to y5_4.toNatClampNeg) → (wb_X6_asideOf_62 Q v6_bends f6_from f6_to f6_curve K5 y5_1 y5_2 y5_4 x5 (0 : Int64))) ∧ (¬ y5_1 ≤ (f6_to y5_4.toNatClampNeg) → (vp_in y5_4 8 ∧ (wb_X6_asideOf_62 Q v6_bends f6_from f6_to f6_curve K5 y5_1 y5_2 y5_4 x5 (y5_1 - (f6_to y5_4.toNatClampNeg)).toInt64))))))))))))
def wl_X6_asideOf_5 (Q : Int64 → Prop) (v6_bends : Int32) (f6_from : Nat → Int32) (f6_to : Nat → Int32) (f6_curve : Nat → Int32) : Nat → (Int32) → (Int64) → (Int32) → Prop
  | 0, _, _, _ => False
  | n + 1, y5_1, y5_2, y5_4 => wb_X6_asideOf_5 Q v6_bends f6_from f6_to f6_curve  (wl_X6_asideOf_5 Q v6_bends f6_from f6_to f6_curve  n) y5_1 y5_2 y5_4
def wp_X6_asideOf (Q : Int64 → Prop) (v6_bends : Int32) (f6_from : Nat → Int32) (f6_to : Nat → Int32) (f6_curve : Nat → Int32) (p1 : Int32) : Prop :=
  (∃ n : Nat, wl_X6_asideOf_5 Q v6_bends f6_from f6_to f6_curve  n p1 (0 : Int64) (0 : Int32))
set_option maxHeartbeats 4000000 in
set_option maxRecDepth 100000 in
theorem c_X6_asideOf (l : Launch) (dC : Nat → ClassId) (dI : Nat → Nat → Nat) (cI cJ cZ : ClassId) (a6 : Nat) (a6_from : Nat) (a6_to : Nat) (a6_curve : Nat) (sz : Nat) (v6_end : Int32) (v6_bends : Int32) (f6_from : Nat → Int32) (f6_to : Nat → Int32) (f6_curve : Nat → Int32) (p1 : Int32) (Q : Int64 → Prop) (hw : wp_X6_asideOf Q v6_bends f6_from f6_to f6_curve p1) : Met l yX6_asideOf wsX6_asideOf ({ frames := 0, cells := 0, slots := 0, locals := 0 } : Room) (va_Pc [.ref a6, .int p1] (fun U => U.heap.size = sz ∧ va_P (dC, dI) vwCl [(a6, .inr (6, [.int v6_end, .int v6_bends, .ref a6_from, .ref a6_to, .ref a6_curve])), (a6_from, .inl (cI, 8, .inl f6_from)), (a6_to, .inl (cI, 8, .inl f6_to)), (a6_curve, .inl (cI, 8, .inl f6_curve))] U.heap ∧ va_K (dC, dI) vwCl [(cI, .int), (cJ, .long), (cZ, .boolean)] U ∧ va_D (fun _ => True) [(a6, .inr (6, [.int v6_end, .int v6_bends, .ref a6_from, .ref a6_to, .ref a6_curve])), (a6_from, .inl (cI, 8, .inl f6_from)), (a6_to, .inl (cI, 8, .inl f6_to)), (a6_curve, .inl (cI, 8, .inl f6_curve))])) (va_Ql (fun r (u : Unit) => Q r) (fun (u : Unit) t => va_P (dC, dI) vwCl [(a6, .inr (6, [.int v6_end, .int v6_bends, .ref a6_from, .ref a6_to, .ref a6_curve])), (a6_from, .inl (cI, 8, .inl f6_from)), (a6_to, .inl (cI, 8, .inl f6_to)), (a6_curve, .inl (cI, 8, .inl f6_curve))] t.heap ∧ va_K (dC, dI) vwCl [(cI, .int), (cJ, .long), (cZ, .boolean)] t ∧ va_D (va_A [(a6, .inr (6, [.int v6_end, .int v6_bends, .ref a6_from, .ref a6_to, .ref a6_curve])), (a6_from, .inl (cI, 8, .inl f6_from)), (a6_to, .inl (cI, 8, .inl f6_to)), (a6_curve, .inl (cI, 8, .inl f6_curve))] sz) [(a6, .inr (6, [.int v6_end, .int v6_bends, .ref a6_from, .ref a6_to, .ref a6_curve])), (a6_from, .inl (cI, 8, .inl f6_from)), (a6_to, .inl (cI, 8, .inl f6_to)), (a6_curve, .inl (cI, 8, .inl f6_curve))]) (va_A [(a6, .inr (6, [.int v6_end, .int v6_bends, .ref a6_from, .ref a6_to, .ref a6_curve])), (a6_from, .inl (cI, 8, .inl f6_from)), (a6_to, .inl (cI, 8, .inl f6_to)), (a6_curve, .inl (cI, 8, .inl f6_curve))] sz)) 0 0 (va_A [(a6, .inr (6, [.int v6_end, .int v6_bends, .ref a6_from, .ref a6_to, .ref a6_curve])), (a6_from, .inl (cI, 8, .inl f6_from)), (a6_to, .inl (cI, 8, .inl f6_to)), (a6_curve, .inl (cI, 8, .inl f6_curve))] sz) := by
  refine Met.ofW (cc := cX6_asideOf) (maxL := 9) (ret := (some .long)) (by decide) rfl ?_
  intro p e s m args below meth c s₁ B hml hv
  obtain ⟨rfl, hsz, hP, hK, hD0⟩ := hv
  have hx := B.exec
  have hb := B.bytes
  have hr := B.returns
  have hts := atoms_spec (ws := wsX6_asideOf) B.pre
  have hown : s.vm.findClass RX6 = some m.cls := findClass_of_methodNamed B.named
  have hlocks := B.notSynchronized
  subst hsz
  have hD := hD0.self (sz := s.heap.size)
  generalize hAe : va_A [(a6, .inr (6, [.int v6_end, .int v6_bends, .ref a6_from, .ref a6_to, .ref a6_curve])), (a6_from, .inl (cI, 8, .inl f6_from)), (a6_to, .inl (cI, 8, .inl f6_to)), (a6_curve, .inl (cI, 8, .inl f6_curve))] s.heap.size = A at hD ⊢
  have hA : ∀ q : Nat, s.heap.size ≤ q → A q := fun q h => by rw [← hAe]; exact Or.inr h
  have hS : va_S A s.heap s.heap [] := va_S.rf
  have hP : va_P (dC, dI) vwCl [(a6, .inr (6, [.int v6_end, .int v6_bends, .ref a6_from, .ref a6_to, .ref a6_curve])), (a6_from, .inl (cI, 8, .inl f6_from)), (a6_to, .inl (cI, 8, .inl f6_to)), (a6_curve, .inl (cI, 8, .inl f6_curve))] s.heap := hP
  have lk1 := hts (.fieldLink RX6 25 "WireRow$Track" "bends" "I") (by decide +kernel)
  have lk2 := hts (.fieldLink RX6 15 "WireRow$Track" "from" "[I") (by decide +kernel)
  have lk3 := hts (.fieldLink RX6 19 "WireRow$Track" "to" "[I") (by decide +kernel)
  have lk4 := hts (.fieldLink RX6 22 "WireRow$Track" "curve" "[I") (by decide +kernel)
  have k_5 : ∀ (n_5 : Nat) (y5_1 : Int32) (y5_2 : Int64) (y5_4 : Int32) (H : Heap) (locs : List Loc) (ls : Array Slot), va_P (dC, dI) vwCl [(a6, .inr (6, [.int v6_end, .int v6_bends, .ref a6_from, .ref a6_to, .ref a6_curve])), (a6_from, .inl (cI, 8, .inl f6_from)), (a6_to, .inl (cI, 8, .inl f6_to)), (a6_curve, .inl (cI, 8, .inl f6_curve))] H → va_D A [(a6, .inr (6, [.int v6_end, .int v6_bends, .ref a6_from, .ref a6_to, .ref a6_curve])), (a6_from, .inl (cI, 8, .inl f6_from)), (a6_to, .inl (cI, 8, .inl f6_to)), (a6_curve, .inl (cI, 8, .inl f6_curve))] → va_S A s.heap H locs → lv_has ls 9 [(0, .ref a6), (1, .int y5_1), (2, .long y5_2), (4, .int y5_4)] → (wl_X6_asideOf_5 Q v6_bends f6_from f6_to f6_curve  n_5 y5_1 y5_2 y5_4) → W p l e (headSpec wsX6_asideOf ({ frames := 0, cells := 0, slots := 0, locals := 0 } : Room)).room s m [.ref a6, .int p1].toArray below meth c H locs 0 0 (MQ below (va_Ql (fun r (u : Unit) => Q r) (fun (u : Unit) t => va_P (dC, dI) vwCl [(a6, .inr (6, [.int v6_end, .int v6_bends, .ref a6_from, .ref a6_to, .ref a6_curve])), (a6_from, .inl (cI, 8, .inl f6_from)), (a6_to, .inl (cI, 8, .inl f6_to)), (a6_curve, .inl (cI, 8, .inl f6_curve))] t.heap ∧ va_K (dC, dI) vwCl [(cI, .int), (cJ, .long), (cZ, .boolean)] t ∧ va_D A [(a6, .inr (6, [.int v6_end, .int v6_bends, .ref a6_from, .ref a6_to, .ref a6_curve])), (a6_from, .inl (cI, 8, .inl f6_from)), (a6_to, .inl (cI, 8, .inl f6_to)), (a6_curve, .inl (cI, 8, .inl f6_curve))]) A) [.ref a6, .int p1].toArray s 0 0 A) (F0 m 5 ls []) := by
    intro n_5
    induction n_5 with
    | zero =>
      intro y5_1 y5_2 y5_4 H locs ls hP hD hS hl hw
      exact False.elim hw
    | succ n_5 ih_5 =>
      have k_62 : ∀  (y62_1 : Int32) (y62_2 : Int64) (y62_4 : Int32) (y62_5 : Int64) (k62_0 : Int64) (H : Heap) (locs : List Loc) (ls : Array Slot), va_P (dC, dI) vwCl [(a6, .inr (6, [.int v6_end, .int v6_bends, .ref a6_from, .ref a6_to, .ref a6_curve])), (a6_from, .inl (cI, 8, .inl f6_from)), (a6_to, .inl (cI, 8, .inl f6_to)), (a6_curve, .inl (cI, 8, .inl f6_curve))] H → va_D A [(a6, .inr (6, [.int v6_end, .int v6_bends, .ref a6_from, .ref a6_to, .ref a6_curve])), (a6_from, .inl (cI, 8, .inl f6_from)), (a6_to, .inl (cI, 8, .inl f6_to)), (a6_curve, .inl (cI, 8, .inl f6_curve))] → va_S A s.heap H locs → lv_has ls 9 [(0, .ref a6), (1, .int y62_1), (2, .long y62_2), (4, .int y62_4), (5, .long y62_5)] → (wb_X6_asideOf_62 Q v6_bends f6_from f6_to f6_curve (wl_X6_asideOf_5 Q v6_bends f6_from f6_to f6_curve  n_5) y62_1 y62_2 y62_4 y62_5 k62_0) → W p l e (headSpec wsX6_asideOf ({ frames := 0, cells := 0, slots := 0, locals := 0 } : Room)).room s m [.ref a6, .int p1].toArray below meth c H locs 0 0 (MQ below (va_Ql (fun r (u : Unit) => Q r) (fun (u : Unit) t => va_P (dC, dI) vwCl [(a6, .inr (6, [.int v6_end, .int v6_bends, .ref a6_from, .ref a6_to, .ref a6_curve])), (a6_from, .inl (cI, 8, .inl f6_from)), (a6_to, .inl (cI, 8, .inl f6_to)), (a6_curve, .inl (cI, 8, .inl f6_curve))] t.heap ∧ va_K (dC, dI) vwCl [(cI, .int), (cJ, .long), (cZ, .boolean)] t ∧ va_D A [(a6, .inr (6, [.int v6_end, .int v6_bends, .ref a6_from, .ref a6_to, .ref a6_curve])), (a6_from, .inl (cI, 8, .inl f6_from)), (a6_to, .inl (cI, 8, .inl f6_to)), (a6_curve, .inl (cI, 8, .inl f6_curve))]) A) [.ref a6, .int p1].toArray s 0 0 A) (F0 m 62 ls [.long k62_0]) := by
        intro y62_1 y62_2 y62_4 y62_5 k62_0 H locs ls hP hD hS hl hw
        unfold wb_X6_asideOf_62 at hw
        refine lv_lstore (lv' := [(7, .long k62_0), (0, .ref a6), (1, .int y62_1), (2, .long y62_2), (4, .int y62_4), (5, .long y62_5)]) hx hb dX6_asideOf_62 hl (by decide) rfl (fun ls hl => ?_)
        refine lv_lload_n hx hb dX6_asideOf_64 rfl (lv_at hl 3 rfl) ?_
        refine lv_aload_n hx hb dX6_asideOf_65 rfl (lv_at hl 1 rfl) ?_
        refine va_get (D := (dC, dI)) (ci := 6) (v := .ref a6_curve) (C := RX6) (T := TX6) (N := 5) hx hb hts inX6_asideOf_X6 hown hK hP 0 rfl rfl 4 (by decide) lk4 (fun _ h9 => h9) rfl dX6_asideOf_66 ?_
        refine lv_iload hx hb dX6_asideOf_69 (lv_at hl 4 rfl) ?_
        obtain ⟨h8, hw⟩ := hw
        refine va_iald hx hb hK hP 3 0 rfl rfl h8 dX6_asideOf_71 ?_
        refine lv_i2l (v := (f6_curve y62_4.toNatClampNeg).toInt64) hx hb dX6_asideOf_72 rfl ?_
        refine lv_lload hx hb dX6_asideOf_73 (lv_at hl 5 rfl) ?_
        refine lv_lload hx hb dX6_asideOf_75 (lv_at hl 5 rfl) ?_
        refine lv_lmul hx hb dX6_asideOf_77 ?_
        refine lv_lload hx hb dX6_asideOf_78 (lv_at hl 0 rfl) ?_
        refine lv_lload hx hb dX6_asideOf_80 (lv_at hl 0 rfl) ?_
        refine lv_lmul hx hb dX6_asideOf_82 ?_
        refine lv_lsub hx hb dX6_asideOf_83 ?_
        refine lv_lmul hx hb dX6_asideOf_84 ?_
        refine lv_ladd hx hb dX6_asideOf_85 ?_
        refine lv_topl (fun x9 ex9 => ?_)
        replace hw := hw x9 ex9
        refine lv_lstore_n (lv' := [(2, .long x9), (7, .long k62_0), (0, .ref a6), (1, .int y62_1), (4, .int y62_4), (5, .long y62_5)]) hx hb dX6_asideOf_86 rfl hl (by decide) rfl (fun ls hl => ?_)
        obtain ⟨x10, ex10⟩ : ∃ y : Int32, y = y62_4 + (1 : Int32) := ⟨_, rfl⟩
        replace hw := hw x10 ex10
        refine lv_iinc (v := x10) (lv' := [(4, .int x10), (2, .long x9), (7, .long k62_0), (0, .ref a6), (1, .int y62_1), (5, .long y62_5)]) hx hb dX6_asideOf_87 hl (k := 4) rfl (by rw [ex10]; rfl) (by decide) rfl (fun ls hl => ?_)
        refine lv_goto (tgt := 5) hx hb dX6_asideOf_90 (by decide) ?_
        exact ih_5 y62_1 x9 x10 _ _ _ (hP.sub [0, 1, 2, 3] rfl) (hD.sub [0, 1, 2, 3] (by decide) rfl) hS (lv_sub hl [3, 4, 1, 0] rfl) hw
      intro y5_1 y5_2 y5_4 H locs ls hP hD hS hl hw
      replace hw : wb_X6_asideOf_5 Q v6_bends f6_from f6_to f6_curve  (wl_X6_asideOf_5 Q v6_bends f6_from f6_to f6_curve  n_5) y5_1 y5_2 y5_4 := hw
      unfold wb_X6_asideOf_5 at hw
      refine lv_iload hx hb dX6_asideOf_5 (lv_at hl 3 rfl) ?_
      refine lv_aload_n hx hb dX6_asideOf_7 rfl (lv_at hl 0 rfl) ?_
      refine va_get (D := (dC, dI)) (ci := 6) (v := .int v6_bends) (C := RX6) (T := TX6) (N := 5) hx hb hts inX6_asideOf_X6 hown hK hP 0 rfl rfl 1 (by decide) lk1 (fun _ h9 => h9) rfl dX6_asideOf_8 ?_
      refine lv_icmp_ge (tgt := 93) hx hb dX6_asideOf_11 (by decide) (fun c1 => ?_) (fun c1 => ?_)
      · replace hw := hw.1 (c1)
        refine lv_lload_n hx hb dX6_asideOf_93 rfl (lv_at hl 2 rfl) ?_
        have hP9 := hP.sub (ws' := [(a6, .inr (6, [.int v6_end, .int v6_bends, .ref a6_from, .ref a6_to, .ref a6_curve])), (a6_from, .inl (cI, 8, .inl f6_from)), (a6_to, .inl (cI, 8, .inl f6_to)), (a6_curve, .inl (cI, 8, .inl f6_curve))]) [0, 1, 2, 3] rfl
        have hD9 := hD.sub (ws' := [(a6, .inr (6, [.int v6_end, .int v6_bends, .ref a6_from, .ref a6_to, .ref a6_curve])), (a6_from, .inl (cI, 8, .inl f6_from)), (a6_to, .inl (cI, 8, .inl f6_to)), (a6_curve, .inl (cI, 8, .inl f6_curve))]) [0, 1, 2, 3] (by decide) rfl
        exact W.lret (v := y5_2) hx hb hr (fun t ht hW => ⟨⟨y5_2, (), rfl, hw, by rw [ht]; exact hP9, va_K.moved hW.alike hK, hD9⟩, hS.F ht⟩) hS.2.2 dX6_asideOf_94
      · replace hw := hw.2 (c1)
        refine lv_aload_n hx hb dX6_asideOf_14 rfl (lv_at hl 0 rfl) ?_
        refine va_get (D := (dC, dI)) (ci := 6) (v := .ref a6_from) (C := RX6) (T := TX6) (N := 5) hx hb hts inX6_asideOf_X6 hown hK hP 0 rfl rfl 2 (by decide) lk2 (fun _ h9 => h9) rfl dX6_asideOf_15 ?_
        refine lv_iload hx hb dX6_asideOf_18 (lv_at hl 3 rfl) ?_
        obtain ⟨h2, hw⟩ := hw
        refine va_iald hx hb hK hP 1 0 rfl rfl h2 dX6_asideOf_20 ?_
        refine lv_iload_n hx hb dX6_asideOf_21 rfl (lv_at hl 1 rfl) ?_
        refine lv_icmp_ge (tgt := 93) hx hb dX6_asideOf_22 (by decide) (fun c3 => ?_) (fun c3 => ?_)
        · replace hw := hw.1 (c3)
          refine lv_lload_n hx hb dX6_asideOf_93 rfl (lv_at hl 2 rfl) ?_
          have hP9 := hP.sub (ws' := [(a6, .inr (6, [.int v6_end, .int v6_bends, .ref a6_from, .ref a6_to, .ref a6_curve])), (a6_from, .inl (cI, 8, .inl f6_from)), (a6_to, .inl (cI, 8, .inl f6_to)), (a6_curve, .inl (cI, 8, .inl f6_curve))]) [0, 1, 2, 3] rfl
          have hD9 := hD.sub (ws' := [(a6, .inr (6, [.int v6_end, .int v6_bends, .ref a6_from, .ref a6_to, .ref a6_curve])), (a6_from, .inl (cI, 8, .inl f6_from)), (a6_to, .inl (cI, 8, .inl f6_to)), (a6_curve, .inl (cI, 8, .inl f6_curve))]) [0, 1, 2, 3] (by decide) rfl
          exact W.lret (v := y5_2) hx hb hr (fun t ht hW => ⟨⟨y5_2, (), rfl, hw, by rw [ht]; exact hP9, va_K.moved hW.alike hK, hD9⟩, hS.F ht⟩) hS.2.2 dX6_asideOf_94
        · replace hw := hw.2 (c3)
          refine lv_iload_n hx hb dX6_asideOf_25 rfl (lv_at hl 1 rfl) ?_
          refine lv_aload_n hx hb dX6_asideOf_26 rfl (lv_at hl 0 rfl) ?_
          refine va_get (D := (dC, dI)) (ci := 6) (v := .ref a6_from) (C := RX6) (T := TX6) (N := 5) hx hb hts inX6_asideOf_X6 hown hK hP 0 rfl rfl 2 (by decide) lk2 (fun _ h9 => h9) rfl dX6_asideOf_27 ?_
          refine lv_iload hx hb dX6_asideOf_30 (lv_at hl 3 rfl) ?_
          obtain ⟨h4, hw⟩ := hw
          refine va_iald hx hb hK hP 1 0 rfl rfl h4 dX6_asideOf_32 ?_
          refine lv_isub hx hb dX6_asideOf_33 ?_
          refine lv_i2l (v := (y5_1 - (f6_from y5_4.toNatClampNeg)).toInt64) hx hb dX6_asideOf_34 rfl ?_
          refine lv_topl (fun x5 ex5 => ?_)
          replace hw := hw x5 ex5
          refine lv_lstore (lv' := [(5, .long x5), (0, .ref a6), (1, .int y5_1), (2, .long y5_2), (4, .int y5_4)]) hx hb dX6_asideOf_35 hl (by decide) rfl (fun ls hl => ?_)
          refine lv_iload_n hx hb dX6_asideOf_37 rfl (lv_at hl 2 rfl) ?_
          refine lv_aload_n hx hb dX6_asideOf_38 rfl (lv_at hl 1 rfl) ?_
          refine va_get (D := (dC, dI)) (ci := 6) (v := .ref a6_to) (C := RX6) (T := TX6) (N := 5) hx hb hts inX6_asideOf_X6 hown hK hP 0 rfl rfl 3 (by decide) lk3 (fun _ h9 => h9) rfl dX6_asideOf_39 ?_
          refine lv_iload hx hb dX6_asideOf_42 (lv_at hl 4 rfl) ?_
          obtain ⟨h6, hw⟩ := hw
          refine va_iald hx hb hK hP 2 0 rfl rfl h6 dX6_asideOf_44 ?_
          refine lv_icmp_le (tgt := 61) hx hb dX6_asideOf_45 (by decide) (fun c7 => ?_) (fun c7 => ?_)
          · replace hw := hw.1 (c7)
            refine lv_lconst (v := (0 : Int64)) hx hb dX6_asideOf_61 (by decide) ?_
            exact k_62 y5_1 y5_2 y5_4 x5 (0 : Int64) _ _ _ (hP.sub [0, 1, 2, 3] rfl) (hD.sub [0, 1, 2, 3] (by decide) rfl) hS (lv_sub hl [1, 2, 3, 4, 0] rfl) hw
          · replace hw := hw.2 (c7)
            refine lv_iload_n hx hb dX6_asideOf_48 rfl (lv_at hl 2 rfl) ?_
            refine lv_aload_n hx hb dX6_asideOf_49 rfl (lv_at hl 1 rfl) ?_
            refine va_get (D := (dC, dI)) (ci := 6) (v := .ref a6_to) (C := RX6) (T := TX6) (N := 5) hx hb hts inX6_asideOf_X6 hown hK hP 0 rfl rfl 3 (by decide) lk3 (fun _ h9 => h9) rfl dX6_asideOf_50 ?_
            refine lv_iload hx hb dX6_asideOf_53 (lv_at hl 4 rfl) ?_
            obtain ⟨h11, hw⟩ := hw
            refine va_iald hx hb hK hP 2 0 rfl rfl h11 dX6_asideOf_55 ?_
            refine lv_isub hx hb dX6_asideOf_56 ?_
            refine lv_i2l (v := (y5_1 - (f6_to y5_4.toNatClampNeg)).toInt64) hx hb dX6_asideOf_57 rfl ?_
            refine lv_goto (tgt := 62) hx hb dX6_asideOf_58 (by decide) ?_
            exact k_62 y5_1 y5_2 y5_4 x5 (y5_1 - (f6_to y5_4.toNatClampNeg)).toInt64 _ _ _ (hP.sub [0, 1, 2, 3] rfl) (hD.sub [0, 1, 2, 3] (by decide) rfl) hS (lv_sub hl [1, 2, 3, 4, 0] rfl) hw
  have hl := lv_entry ([.ref a6, .int p1]) (n := 9) (Nat.le_of_ble_eq_true rfl)
  rw [lg_entry_eq]
  generalize (lg_sl ([.ref a6, .int p1]) ++ List.replicate (9 - (lg_sl ([.ref a6, .int p1])).length) Slot.unset).toArray = ls at hl ⊢
  have hl : lv_has ls 9 [(0, .ref a6), (1, .int p1)] := hl
  obtain ⟨H, hHe⟩ : ∃ H, H = s.heap := ⟨_, rfl⟩
  rw [← hHe] at hP
  have hS : va_S A s.heap H [] := by rw [hHe]; exact hS
  rw [← hHe]
  unfold wp_X6_asideOf at hw
  refine lv_lconst (v := (0 : Int64)) hx hb dX6_asideOf_0 (by decide) ?_
  refine lv_lstore_n (lv' := [(2, .long (0 : Int64)), (0, .ref a6), (1, .int p1)]) hx hb dX6_asideOf_1 rfl hl (by decide) rfl (fun ls hl => ?_)
  refine lv_iconst (v := (0 : Int32)) hx hb dX6_asideOf_2 (by decide) ?_
  refine lv_istore (lv' := [(4, .int (0 : Int32)), (2, .long (0 : Int64)), (0, .ref a6), (1, .int p1)]) hx hb dX6_asideOf_3 hl (by decide) rfl (fun ls hl => ?_)
  obtain ⟨n_5, hw⟩ := hw
  exact k_5 n_5 p1 (0 : Int64) (0 : Int32) _ _ _ (hP.sub [0, 1, 2, 3] rfl) (hD.sub [0, 1, 2, 3] (by decide) rfl) hS (lv_sub hl [2, 3, 1, 0] rfl) hw

theorem inX4_offUpper_X4 : ∀ w ∈ wsX40, w ∈ wsX4_offUpper := fun _ h => List.mem_cons_of_mem _ (List.mem_append_left _ (List.mem_append_right _ h))
theorem inX4_offUpper_X6 : ∀ w ∈ wsX60, w ∈ wsX4_offUpper := fun _ h => List.mem_cons_of_mem _ (List.mem_append_right _ h)
def wp_X4_offUpper (Q : Int64 → Prop) (v6_bends : Int32) (f6_from : Nat → Int32) (f6_to : Nat → Int32) (f6_curve : Nat → Int32) (v4_begin : Int32) (v4_end : Int32) (v4_wireAtBegin : Int64) (v4_wireAtEnd : Int64) (p1 : Int32) : Prop :=
  (wp_X6_asideOf (fun r1 => (Q (((v4_wireAtBegin * (v4_end - p1).toInt64) + (v4_wireAtEnd * (p1 - v4_begin).toInt64)) - (r1 * (v4_end - v4_begin).toInt64)) )) v6_bends f6_from f6_to f6_curve p1)
set_option maxHeartbeats 4000000 in
set_option maxRecDepth 100000 in
theorem c_X4_offUpper (l : Launch) (dC : Nat → ClassId) (dI : Nat → Nat → Nat) (cI cJ cZ : ClassId) (a6 : Nat) (a6_from : Nat) (a6_to : Nat) (a6_curve : Nat) (a2 : Nat) (a5 : Nat) (a4 : Nat) (sz : Nat) (v6_end : Int32) (v6_bends : Int32) (f6_from : Nat → Int32) (f6_to : Nat → Int32) (f6_curve : Nat → Int32) (v4_begin : Int32) (v4_end : Int32) (v4_wireAtBegin : Int64) (v4_wireAtEnd : Int64) (p1 : Int32) (Q : Int64 → Prop) (hw : wp_X4_offUpper Q v6_bends f6_from f6_to f6_curve v4_begin v4_end v4_wireAtBegin v4_wireAtEnd p1) : Met l yX4_offUpper wsX4_offUpper ({ frames := 1, cells := 0, slots := 0, locals := 28 } : Room) (va_Pc [.ref a4, .int p1] (fun U => U.heap.size = sz ∧ va_P (dC, dI) vwCl [(a6, .inr (6, [.int v6_end, .int v6_bends, .ref a6_from, .ref a6_to, .ref a6_curve])), (a6_from, .inl (cI, 8, .inl f6_from)), (a6_to, .inl (cI, 8, .inl f6_to)), (a6_curve, .inl (cI, 8, .inl f6_curve)), (a4, .inr (4, [.ref a6, .ref a2, .ref a5, .int v4_begin, .int v4_end, .long v4_wireAtBegin, .long v4_wireAtEnd]))] U.heap ∧ va_K (dC, dI) vwCl [(cI, .int), (cJ, .long), (cZ, .boolean)] U ∧ va_D (fun _ => True) [(a6, .inr (6, [.int v6_end, .int v6_bends, .ref a6_from, .ref a6_to, .ref a6_curve])), (a6_from, .inl (cI, 8, .inl f6_from)), (a6_to, .inl (cI, 8, .inl f6_to)), (a6_curve, .inl (cI, 8, .inl f6_curve)), (a4, .inr (4, [.ref a6, .ref a2, .ref a5, .int v4_begin, .int v4_end, .long v4_wireAtBegin, .long v4_wireAtEnd]))])) (va_Ql (fun r (u : Unit) => Q r) (fun (u : Unit) t => va_P (dC, dI) vwCl [(a6, .inr (6, [.int v6_end, .int v6_bends, .ref a6_from, .ref a6_to, .ref a6_curve])), (a6_from, .inl (cI, 8, .inl f6_from)), (a6_to, .inl (cI, 8, .inl f6_to)), (a6_curve, .inl (cI, 8, .inl f6_curve)), (a4, .inr (4, [.ref a6, .ref a2, .ref a5, .int v4_begin, .int v4_end, .long v4_wireAtBegin, .long v4_wireAtEnd]))] t.heap ∧ va_K (dC, dI) vwCl [(cI, .int), (cJ, .long), (cZ, .boolean)] t ∧ va_D (va_A [(a6, .inr (6, [.int v6_end, .int v6_bends, .ref a6_from, .ref a6_to, .ref a6_curve])), (a6_from, .inl (cI, 8, .inl f6_from)), (a6_to, .inl (cI, 8, .inl f6_to)), (a6_curve, .inl (cI, 8, .inl f6_curve)), (a4, .inr (4, [.ref a6, .ref a2, .ref a5, .int v4_begin, .int v4_end, .long v4_wireAtBegin, .long v4_wireAtEnd]))] sz) [(a6, .inr (6, [.int v6_end, .int v6_bends, .ref a6_from, .ref a6_to, .ref a6_curve])), (a6_from, .inl (cI, 8, .inl f6_from)), (a6_to, .inl (cI, 8, .inl f6_to)), (a6_curve, .inl (cI, 8, .inl f6_curve)), (a4, .inr (4, [.ref a6, .ref a2, .ref a5, .int v4_begin, .int v4_end, .long v4_wireAtBegin, .long v4_wireAtEnd]))]) (va_A [(a6, .inr (6, [.int v6_end, .int v6_bends, .ref a6_from, .ref a6_to, .ref a6_curve])), (a6_from, .inl (cI, 8, .inl f6_from)), (a6_to, .inl (cI, 8, .inl f6_to)), (a6_curve, .inl (cI, 8, .inl f6_curve)), (a4, .inr (4, [.ref a6, .ref a2, .ref a5, .int v4_begin, .int v4_end, .long v4_wireAtBegin, .long v4_wireAtEnd]))] sz)) 0 0 (va_A [(a6, .inr (6, [.int v6_end, .int v6_bends, .ref a6_from, .ref a6_to, .ref a6_curve])), (a6_from, .inl (cI, 8, .inl f6_from)), (a6_to, .inl (cI, 8, .inl f6_to)), (a6_curve, .inl (cI, 8, .inl f6_curve)), (a4, .inr (4, [.ref a6, .ref a2, .ref a5, .int v4_begin, .int v4_end, .long v4_wireAtBegin, .long v4_wireAtEnd]))] sz) := by
  refine Met.ofW (cc := cX4_offUpper) (maxL := 2) (ret := (some .long)) (by decide) rfl ?_
  intro p e s m args below meth c s₁ B hml hv
  obtain ⟨rfl, hsz, hP, hK, hD0⟩ := hv
  have hx := B.exec
  have hb := B.bytes
  have hr := B.returns
  have hts := atoms_spec (ws := wsX4_offUpper) B.pre
  have hown : s.vm.findClass RX4 = some m.cls := findClass_of_methodNamed B.named
  have hlocks := B.notSynchronized
  subst hsz
  have hD := hD0.self (sz := s.heap.size)
  generalize hAe : va_A [(a6, .inr (6, [.int v6_end, .int v6_bends, .ref a6_from, .ref a6_to, .ref a6_curve])), (a6_from, .inl (cI, 8, .inl f6_from)), (a6_to, .inl (cI, 8, .inl f6_to)), (a6_curve, .inl (cI, 8, .inl f6_curve)), (a4, .inr (4, [.ref a6, .ref a2, .ref a5, .int v4_begin, .int v4_end, .long v4_wireAtBegin, .long v4_wireAtEnd]))] s.heap.size = A at hD ⊢
  have hA : ∀ q : Nat, s.heap.size ≤ q → A q := fun q h => by rw [← hAe]; exact Or.inr h
  have hS : va_S A s.heap s.heap [] := va_S.rf
  have hP : va_P (dC, dI) vwCl [(a6, .inr (6, [.int v6_end, .int v6_bends, .ref a6_from, .ref a6_to, .ref a6_curve])), (a6_from, .inl (cI, 8, .inl f6_from)), (a6_to, .inl (cI, 8, .inl f6_to)), (a6_curve, .inl (cI, 8, .inl f6_curve)), (a4, .inr (4, [.ref a6, .ref a2, .ref a5, .int v4_begin, .int v4_end, .long v4_wireAtBegin, .long v4_wireAtEnd]))] s.heap := hP
  have lk1 := hts (.fieldLink RX4 40 "WireRow$Span" "wireAtBegin" "J") (by decide +kernel)
  have lk2 := hts (.fieldLink RX4 33 "WireRow$Span" "end" "I") (by decide +kernel)
  have lk3 := hts (.fieldLink RX4 44 "WireRow$Span" "wireAtEnd" "J") (by decide +kernel)
  have lk4 := hts (.fieldLink RX4 29 "WireRow$Span" "begin" "I") (by decide +kernel)
  have lk5 := hts (.fieldLink RX4 9 "WireRow$Span" "track" "LWireRow$Track;") (by decide +kernel)
  have hl := lv_entry ([.ref a4, .int p1]) (n := 2) (Nat.le_of_ble_eq_true rfl)
  rw [lg_entry_eq]
  generalize (lg_sl ([.ref a4, .int p1]) ++ List.replicate (2 - (lg_sl ([.ref a4, .int p1])).length) Slot.unset).toArray = ls at hl ⊢
  have hl : lv_has ls 2 [(0, .ref a4), (1, .int p1)] := hl
  obtain ⟨H, hHe⟩ : ∃ H, H = s.heap := ⟨_, rfl⟩
  rw [← hHe] at hP
  have hS : va_S A s.heap H [] := by rw [hHe]; exact hS
  rw [← hHe]
  unfold wp_X4_offUpper at hw
  refine lv_aload_n hx hb dX4_offUpper_0 rfl (lv_at hl 0 rfl) ?_
  refine va_get (D := (dC, dI)) (ci := 4) (v := .long v4_wireAtBegin) (C := RX4) (T := TX4) (N := 7) hx hb hts inX4_offUpper_X4 hown hK hP 4 rfl rfl 5 (by decide) lk1 (fun _ h9 => h9) rfl dX4_offUpper_1 ?_
  refine lv_aload_n hx hb dX4_offUpper_4 rfl (lv_at hl 0 rfl) ?_
  refine va_get (D := (dC, dI)) (ci := 4) (v := .int v4_end) (C := RX4) (T := TX4) (N := 7) hx hb hts inX4_offUpper_X4 hown hK hP 4 rfl rfl 4 (by decide) lk2 (fun _ h9 => h9) rfl dX4_offUpper_5 ?_
  refine lv_iload_n hx hb dX4_offUpper_8 rfl (lv_at hl 1 rfl) ?_
  refine lv_isub hx hb dX4_offUpper_9 ?_
  refine lv_i2l (v := (v4_end - p1).toInt64) hx hb dX4_offUpper_10 rfl ?_
  refine lv_lmul hx hb dX4_offUpper_11 ?_
  refine lv_aload_n hx hb dX4_offUpper_12 rfl (lv_at hl 0 rfl) ?_
  refine va_get (D := (dC, dI)) (ci := 4) (v := .long v4_wireAtEnd) (C := RX4) (T := TX4) (N := 7) hx hb hts inX4_offUpper_X4 hown hK hP 4 rfl rfl 6 (by decide) lk3 (fun _ h9 => h9) rfl dX4_offUpper_13 ?_
  refine lv_iload_n hx hb dX4_offUpper_16 rfl (lv_at hl 1 rfl) ?_
  refine lv_aload_n hx hb dX4_offUpper_17 rfl (lv_at hl 0 rfl) ?_
  refine va_get (D := (dC, dI)) (ci := 4) (v := .int v4_begin) (C := RX4) (T := TX4) (N := 7) hx hb hts inX4_offUpper_X4 hown hK hP 4 rfl rfl 3 (by decide) lk4 (fun _ h9 => h9) rfl dX4_offUpper_18 ?_
  refine lv_isub hx hb dX4_offUpper_21 ?_
  refine lv_i2l (v := (p1 - v4_begin).toInt64) hx hb dX4_offUpper_22 rfl ?_
  refine lv_lmul hx hb dX4_offUpper_23 ?_
  refine lv_ladd hx hb dX4_offUpper_24 ?_
  refine lv_aload_n hx hb dX4_offUpper_25 rfl (lv_at hl 0 rfl) ?_
  refine va_get (D := (dC, dI)) (ci := 4) (v := .ref a6) (C := RX4) (T := TX4) (N := 7) hx hb hts inX4_offUpper_X4 hown hK hP 4 rfl rfl 0 (by decide) lk5 (fun _ h9 => h9) rfl dX4_offUpper_26 ?_
  refine lv_iload_n hx hb dX4_offUpper_29 rfl (lv_at hl 1 rfl) ?_
  have hPc := hP.sub (ws' := [(a6, .inr (6, [.int v6_end, .int v6_bends, .ref a6_from, .ref a6_to, .ref a6_curve])), (a6_from, .inl (cI, 8, .inl f6_from)), (a6_to, .inl (cI, 8, .inl f6_to)), (a6_curve, .inl (cI, 8, .inl f6_curve))]) [0, 1, 2, 3] rfl
  have hDc := hD.sub (ws' := [(a6, .inr (6, [.int v6_end, .int v6_bends, .ref a6_from, .ref a6_to, .ref a6_curve])), (a6_from, .inl (cI, 8, .inl f6_from)), (a6_to, .inl (cI, 8, .inl f6_to)), (a6_curve, .inl (cI, 8, .inl f6_curve))]) [0, 1, 2, 3] (by decide) rfl
  have hFc := va_free (wc := [(a6, .inr (6, [.int v6_end, .int v6_bends, .ref a6_from, .ref a6_to, .ref a6_curve])), (a6_from, .inl (cI, 8, .inl f6_from)), (a6_to, .inl (cI, 8, .inl f6_to)), (a6_curve, .inl (cI, 8, .inl f6_curve))]) hD hS hA [0, 1, 2, 3] rfl
  refine va_calll (va_runV (As := [.int p1]) (rest := [.long ((v4_wireAtBegin * (v4_end - p1).toInt64) + (v4_wireAtEnd * (p1 - v4_begin).toInt64))]) ⟨hx, hb, hml, hown, hts⟩ (c_X6_asideOf l dC dI cI cJ cZ a6 a6_from a6_to a6_curve H.size v6_end v6_bends f6_from f6_to f6_curve p1 _ hw) (cwV 1 hts gX4_offUpper_X6_asideOf rfl rfl rfl (by decide +kernel) ⟨Nat.le_of_ble_eq_true rfl, Nat.le_of_ble_eq_true rfl⟩) ⟨fun a U g mk q => by obtain ⟨q0, q1, qP, qK, qD⟩ := q; exact ⟨q0, q1, qP, va_K.moved (u := U) (U := U.calling g mk a) (Vm.Alike.refl U.vm) qK, qD⟩, va_recv hK hP (ci := 6) (q0 := 0) rfl rfl, fun U hU hW => ⟨rfl, by rw [hU], by rw [hU]; exact hPc, va_K.moved hW.alike hK, hDc.weaken (fun _ _ _ _ => trivial)⟩⟩ rfl rfl hl.1 rfl (lv_room (Nat.le_of_ble_eq_true rfl)) dX4_offUpper_30 ⟨(Nat.zero_le _), (Nat.zero_le _)⟩) hS (fun q _ h => hFc q h) hFc (fun r1 u t H1 locs ht hvm hw hB hz1 hk1 hS => ?_)
  obtain ⟨hP1, -, hD1⟩ := hB
  try dsimp only at hw
  rw [ht] at hP1
  obtain ⟨hP, hD⟩ := va_join (wr := [(a4, .inr (4, [.ref a6, .ref a2, .ref a5, .int v4_begin, .int v4_end, .long v4_wireAtBegin, .long v4_wireAtEnd]))]) (w1 := [(a6, .inr (6, [.int v6_end, .int v6_bends, .ref a6_from, .ref a6_to, .ref a6_curve])), (a6_from, .inl (cI, 8, .inl f6_from)), (a6_to, .inl (cI, 8, .inl f6_to)), (a6_curve, .inl (cI, 8, .inl f6_curve))]) hP hD [0, 1, 2, 3] [4] rfl rfl (by decide) (by decide) hk1 hFc hP1 hD1
  generalize H1 = H at hP hS ⊢
  have hP : va_P (dC, dI) vwCl [(a4, .inr (4, [.ref a6, .ref a2, .ref a5, .int v4_begin, .int v4_end, .long v4_wireAtBegin, .long v4_wireAtEnd])), (a6, .inr (6, [.int v6_end, .int v6_bends, .ref a6_from, .ref a6_to, .ref a6_curve])), (a6_from, .inl (cI, 8, .inl f6_from)), (a6_to, .inl (cI, 8, .inl f6_to)), (a6_curve, .inl (cI, 8, .inl f6_curve))] H := hP
  have hD : va_D A [(a4, .inr (4, [.ref a6, .ref a2, .ref a5, .int v4_begin, .int v4_end, .long v4_wireAtBegin, .long v4_wireAtEnd])), (a6, .inr (6, [.int v6_end, .int v6_bends, .ref a6_from, .ref a6_to, .ref a6_curve])), (a6_from, .inl (cI, 8, .inl f6_from)), (a6_to, .inl (cI, 8, .inl f6_to)), (a6_curve, .inl (cI, 8, .inl f6_curve))] := hD
  refine lv_aload_n hx hb dX4_offUpper_33 rfl (lv_at hl 0 rfl) ?_
  refine va_get (D := (dC, dI)) (ci := 4) (v := .int v4_end) (C := RX4) (T := TX4) (N := 7) hx hb hts inX4_offUpper_X4 hown hK hP 0 rfl rfl 4 (by decide) lk2 (fun _ h9 => h9) rfl dX4_offUpper_34 ?_
  refine lv_aload_n hx hb dX4_offUpper_37 rfl (lv_at hl 0 rfl) ?_
  refine va_get (D := (dC, dI)) (ci := 4) (v := .int v4_begin) (C := RX4) (T := TX4) (N := 7) hx hb hts inX4_offUpper_X4 hown hK hP 0 rfl rfl 3 (by decide) lk4 (fun _ h9 => h9) rfl dX4_offUpper_38 ?_
  refine lv_isub hx hb dX4_offUpper_41 ?_
  refine lv_i2l (v := (v4_end - v4_begin).toInt64) hx hb dX4_offUpper_42 rfl ?_
  refine lv_lmul hx hb dX4_offUpper_43 ?_
  refine lv_lsub hx hb dX4_offUpper_44 ?_
  have hP9 := hP.sub (ws' := [(a6, .inr (6, [.int v6_end, .int v6_bends, .ref a6_from, .ref a6_to, .ref a6_curve])), (a6_from, .inl (cI, 8, .inl f6_from)), (a6_to, .inl (cI, 8, .inl f6_to)), (a6_curve, .inl (cI, 8, .inl f6_curve)), (a4, .inr (4, [.ref a6, .ref a2, .ref a5, .int v4_begin, .int v4_end, .long v4_wireAtBegin, .long v4_wireAtEnd]))]) [1, 2, 3, 4, 0] rfl
  have hD9 := hD.sub (ws' := [(a6, .inr (6, [.int v6_end, .int v6_bends, .ref a6_from, .ref a6_to, .ref a6_curve])), (a6_from, .inl (cI, 8, .inl f6_from)), (a6_to, .inl (cI, 8, .inl f6_to)), (a6_curve, .inl (cI, 8, .inl f6_curve)), (a4, .inr (4, [.ref a6, .ref a2, .ref a5, .int v4_begin, .int v4_end, .long v4_wireAtBegin, .long v4_wireAtEnd]))]) [1, 2, 3, 4, 0] (by decide) rfl
  exact W.lret (v := (((v4_wireAtBegin * (v4_end - p1).toInt64) + (v4_wireAtEnd * (p1 - v4_begin).toInt64)) - (r1 * (v4_end - v4_begin).toInt64))) hx hb hr (fun t ht hW => ⟨⟨(((v4_wireAtBegin * (v4_end - p1).toInt64) + (v4_wireAtEnd * (p1 - v4_begin).toInt64)) - (r1 * (v4_end - v4_begin).toInt64)), (), rfl, hw, by rw [ht]; exact hP9, va_K.moved hW.alike hK, hD9⟩, hS.F ht⟩) hS.2.2 dX4_offUpper_45

theorem inX4_excess_X4 : ∀ w ∈ wsX40, w ∈ wsX4_excess := fun _ h => List.mem_cons_of_mem _ (List.mem_append_left _ (List.mem_append_right _ h))
theorem inX4_excess_X5 : ∀ w ∈ wsX50, w ∈ wsX4_excess := fun _ h => List.mem_cons_of_mem _ (List.mem_append_right _ h)
def wp_X4_excess (Q : Int64 → Prop) (v5_wind : Int32) (v5_pull : Int32) (v5_room : Int32) (v4_begin : Int32) (v4_end : Int32) (p1 : Int32) (p2 : Int64) : Prop :=
  (∀ x1 : Int64, x1 = ((v5_wind.toInt64 * (p1 - v4_begin).toInt64) * (v4_end - p1).toInt64) → (∀ x2 : Int64, x2 = (v5_room.toInt64 * v5_pull.toInt64) → (Q ((p2 * v5_pull.toInt64) + ((x1 - x2) * (v4_end - v4_begin).toInt64)) )))
set_option maxHeartbeats 4000000 in
set_option maxRecDepth 100000 in
theorem c_X4_excess (l : Launch) (dC : Nat → ClassId) (dI : Nat → Nat → Nat) (cI cJ cZ : ClassId) (a6 : Nat) (a2 : Nat) (a5 : Nat) (a4 : Nat) (sz : Nat) (v5_wind : Int32) (v5_pull : Int32) (v5_room : Int32) (v5_reach : Int32) (v4_begin : Int32) (v4_end : Int32) (v4_wireAtBegin : Int64) (v4_wireAtEnd : Int64) (p1 : Int32) (p2 : Int64) (Q : Int64 → Prop) (hw : wp_X4_excess Q v5_wind v5_pull v5_room v4_begin v4_end p1 p2) : Met l yX4_excess wsX4_excess ({ frames := 0, cells := 0, slots := 0, locals := 0 } : Room) (va_Pc [.ref a4, .int p1, .long p2] (fun U => U.heap.size = sz ∧ va_P (dC, dI) vwCl [(a5, .inr (5, [.int v5_wind, .int v5_pull, .int v5_room, .int v5_reach])), (a4, .inr (4, [.ref a6, .ref a2, .ref a5, .int v4_begin, .int v4_end, .long v4_wireAtBegin, .long v4_wireAtEnd]))] U.heap ∧ va_K (dC, dI) vwCl [(cI, .int), (cJ, .long), (cZ, .boolean)] U ∧ va_D (fun _ => True) [(a5, .inr (5, [.int v5_wind, .int v5_pull, .int v5_room, .int v5_reach])), (a4, .inr (4, [.ref a6, .ref a2, .ref a5, .int v4_begin, .int v4_end, .long v4_wireAtBegin, .long v4_wireAtEnd]))])) (va_Ql (fun r (u : Unit) => Q r) (fun (u : Unit) t => va_P (dC, dI) vwCl [(a5, .inr (5, [.int v5_wind, .int v5_pull, .int v5_room, .int v5_reach])), (a4, .inr (4, [.ref a6, .ref a2, .ref a5, .int v4_begin, .int v4_end, .long v4_wireAtBegin, .long v4_wireAtEnd]))] t.heap ∧ va_K (dC, dI) vwCl [(cI, .int), (cJ, .long), (cZ, .boolean)] t ∧ va_D (va_A [(a5, .inr (5, [.int v5_wind, .int v5_pull, .int v5_room, .int v5_reach])), (a4, .inr (4, [.ref a6, .ref a2, .ref a5, .int v4_begin, .int v4_end, .long v4_wireAtBegin, .long v4_wireAtEnd]))] sz) [(a5, .inr (5, [.int v5_wind, .int v5_pull, .int v5_room, .int v5_reach])), (a4, .inr (4, [.ref a6, .ref a2, .ref a5, .int v4_begin, .int v4_end, .long v4_wireAtBegin, .long v4_wireAtEnd]))]) (va_A [(a5, .inr (5, [.int v5_wind, .int v5_pull, .int v5_room, .int v5_reach])), (a4, .inr (4, [.ref a6, .ref a2, .ref a5, .int v4_begin, .int v4_end, .long v4_wireAtBegin, .long v4_wireAtEnd]))] sz)) 0 0 (va_A [(a5, .inr (5, [.int v5_wind, .int v5_pull, .int v5_room, .int v5_reach])), (a4, .inr (4, [.ref a6, .ref a2, .ref a5, .int v4_begin, .int v4_end, .long v4_wireAtBegin, .long v4_wireAtEnd]))] sz) := by
  refine Met.ofW (cc := cX4_excess) (maxL := 8) (ret := (some .long)) (by decide) rfl ?_
  intro p e s m args below meth c s₁ B hml hv
  obtain ⟨rfl, hsz, hP, hK, hD0⟩ := hv
  have hx := B.exec
  have hb := B.bytes
  have hr := B.returns
  have hts := atoms_spec (ws := wsX4_excess) B.pre
  have hown : s.vm.findClass RX4 = some m.cls := findClass_of_methodNamed B.named
  have hlocks := B.notSynchronized
  subst hsz
  have hD := hD0.self (sz := s.heap.size)
  generalize hAe : va_A [(a5, .inr (5, [.int v5_wind, .int v5_pull, .int v5_room, .int v5_reach])), (a4, .inr (4, [.ref a6, .ref a2, .ref a5, .int v4_begin, .int v4_end, .long v4_wireAtBegin, .long v4_wireAtEnd]))] s.heap.size = A at hD ⊢
  have hA : ∀ q : Nat, s.heap.size ≤ q → A q := fun q h => by rw [← hAe]; exact Or.inr h
  have hS : va_S A s.heap s.heap [] := va_S.rf
  have hP : va_P (dC, dI) vwCl [(a5, .inr (5, [.int v5_wind, .int v5_pull, .int v5_room, .int v5_reach])), (a4, .inr (4, [.ref a6, .ref a2, .ref a5, .int v4_begin, .int v4_end, .long v4_wireAtBegin, .long v4_wireAtEnd]))] s.heap := hP
  have lk1 := hts (.fieldLink RX4 19 "WireRow$Span" "sweep" "LWireRow$Sweep;") (by decide +kernel)
  have lk2 := hts (.fieldLink RX4 53 "WireRow$Sweep" "wind" "I") (by decide +kernel)
  have lk3 := hts (.fieldLink RX4 29 "WireRow$Span" "begin" "I") (by decide +kernel)
  have lk4 := hts (.fieldLink RX4 33 "WireRow$Span" "end" "I") (by decide +kernel)
  have lk5 := hts (.fieldLink RX4 58 "WireRow$Sweep" "room" "I") (by decide +kernel)
  have lk6 := hts (.fieldLink RX4 61 "WireRow$Sweep" "pull" "I") (by decide +kernel)
  have hl := lv_entry ([.ref a4, .int p1, .long p2]) (n := 8) (Nat.le_of_ble_eq_true rfl)
  rw [lg_entry_eq]
  generalize (lg_sl ([.ref a4, .int p1, .long p2]) ++ List.replicate (8 - (lg_sl ([.ref a4, .int p1, .long p2])).length) Slot.unset).toArray = ls at hl ⊢
  have hl : lv_has ls 8 [(0, .ref a4), (1, .int p1), (2, .long p2)] := hl
  obtain ⟨H, hHe⟩ : ∃ H, H = s.heap := ⟨_, rfl⟩
  rw [← hHe] at hP
  have hS : va_S A s.heap H [] := by rw [hHe]; exact hS
  rw [← hHe]
  unfold wp_X4_excess at hw
  refine lv_aload_n hx hb dX4_excess_0 rfl (lv_at hl 0 rfl) ?_
  refine va_get (D := (dC, dI)) (ci := 4) (v := .ref a5) (C := RX4) (T := TX4) (N := 7) hx hb hts inX4_excess_X4 hown hK hP 1 rfl rfl 2 (by decide) lk1 (fun _ h9 => h9) rfl dX4_excess_1 ?_
  refine va_get (D := (dC, dI)) (ci := 5) (v := .int v5_wind) (C := RX5) (T := TX5) (N := 4) hx hb hts inX4_excess_X5 hown hK hP 0 rfl rfl 0 (by decide) lk2 (fun _ h9 => h9) rfl dX4_excess_4 ?_
  refine lv_i2l (v := v5_wind.toInt64) hx hb dX4_excess_7 rfl ?_
  refine lv_iload_n hx hb dX4_excess_8 rfl (lv_at hl 1 rfl) ?_
  refine lv_aload_n hx hb dX4_excess_9 rfl (lv_at hl 0 rfl) ?_
  refine va_get (D := (dC, dI)) (ci := 4) (v := .int v4_begin) (C := RX4) (T := TX4) (N := 7) hx hb hts inX4_excess_X4 hown hK hP 1 rfl rfl 3 (by decide) lk3 (fun _ h9 => h9) rfl dX4_excess_10 ?_
  refine lv_isub hx hb dX4_excess_13 ?_
  refine lv_i2l (v := (p1 - v4_begin).toInt64) hx hb dX4_excess_14 rfl ?_
  refine lv_lmul hx hb dX4_excess_15 ?_
  refine lv_aload_n hx hb dX4_excess_16 rfl (lv_at hl 0 rfl) ?_
  refine va_get (D := (dC, dI)) (ci := 4) (v := .int v4_end) (C := RX4) (T := TX4) (N := 7) hx hb hts inX4_excess_X4 hown hK hP 1 rfl rfl 4 (by decide) lk4 (fun _ h9 => h9) rfl dX4_excess_17 ?_
  refine lv_iload_n hx hb dX4_excess_20 rfl (lv_at hl 1 rfl) ?_
  refine lv_isub hx hb dX4_excess_21 ?_
  refine lv_i2l (v := (v4_end - p1).toInt64) hx hb dX4_excess_22 rfl ?_
  refine lv_lmul hx hb dX4_excess_23 ?_
  refine lv_topl (fun x1 ex1 => ?_)
  replace hw := hw x1 ex1
  refine lv_lstore (lv' := [(4, .long x1), (0, .ref a4), (1, .int p1), (2, .long p2)]) hx hb dX4_excess_24 hl (by decide) rfl (fun ls hl => ?_)
  refine lv_aload_n hx hb dX4_excess_26 rfl (lv_at hl 1 rfl) ?_
  refine va_get (D := (dC, dI)) (ci := 4) (v := .ref a5) (C := RX4) (T := TX4) (N := 7) hx hb hts inX4_excess_X4 hown hK hP 1 rfl rfl 2 (by decide) lk1 (fun _ h9 => h9) rfl dX4_excess_27 ?_
  refine va_get (D := (dC, dI)) (ci := 5) (v := .int v5_room) (C := RX5) (T := TX5) (N := 4) hx hb hts inX4_excess_X5 hown hK hP 0 rfl rfl 2 (by decide) lk5 (fun _ h9 => h9) rfl dX4_excess_30 ?_
  refine lv_i2l (v := v5_room.toInt64) hx hb dX4_excess_33 rfl ?_
  refine lv_aload_n hx hb dX4_excess_34 rfl (lv_at hl 1 rfl) ?_
  refine va_get (D := (dC, dI)) (ci := 4) (v := .ref a5) (C := RX4) (T := TX4) (N := 7) hx hb hts inX4_excess_X4 hown hK hP 1 rfl rfl 2 (by decide) lk1 (fun _ h9 => h9) rfl dX4_excess_35 ?_
  refine va_get (D := (dC, dI)) (ci := 5) (v := .int v5_pull) (C := RX5) (T := TX5) (N := 4) hx hb hts inX4_excess_X5 hown hK hP 0 rfl rfl 1 (by decide) lk6 (fun _ h9 => h9) rfl dX4_excess_38 ?_
  refine lv_i2l (v := v5_pull.toInt64) hx hb dX4_excess_41 rfl ?_
  refine lv_lmul hx hb dX4_excess_42 ?_
  refine lv_topl (fun x2 ex2 => ?_)
  replace hw := hw x2 ex2
  refine lv_lstore (lv' := [(6, .long x2), (4, .long x1), (0, .ref a4), (1, .int p1), (2, .long p2)]) hx hb dX4_excess_43 hl (by decide) rfl (fun ls hl => ?_)
  refine lv_lload_n hx hb dX4_excess_45 rfl (lv_at hl 4 rfl) ?_
  refine lv_aload_n hx hb dX4_excess_46 rfl (lv_at hl 2 rfl) ?_
  refine va_get (D := (dC, dI)) (ci := 4) (v := .ref a5) (C := RX4) (T := TX4) (N := 7) hx hb hts inX4_excess_X4 hown hK hP 1 rfl rfl 2 (by decide) lk1 (fun _ h9 => h9) rfl dX4_excess_47 ?_
  refine va_get (D := (dC, dI)) (ci := 5) (v := .int v5_pull) (C := RX5) (T := TX5) (N := 4) hx hb hts inX4_excess_X5 hown hK hP 0 rfl rfl 1 (by decide) lk6 (fun _ h9 => h9) rfl dX4_excess_50 ?_
  refine lv_i2l (v := v5_pull.toInt64) hx hb dX4_excess_53 rfl ?_
  refine lv_lmul hx hb dX4_excess_54 ?_
  refine lv_lload hx hb dX4_excess_55 (lv_at hl 1 rfl) ?_
  refine lv_lload hx hb dX4_excess_57 (lv_at hl 0 rfl) ?_
  refine lv_lsub hx hb dX4_excess_59 ?_
  refine lv_aload_n hx hb dX4_excess_60 rfl (lv_at hl 2 rfl) ?_
  refine va_get (D := (dC, dI)) (ci := 4) (v := .int v4_end) (C := RX4) (T := TX4) (N := 7) hx hb hts inX4_excess_X4 hown hK hP 1 rfl rfl 4 (by decide) lk4 (fun _ h9 => h9) rfl dX4_excess_61 ?_
  refine lv_aload_n hx hb dX4_excess_64 rfl (lv_at hl 2 rfl) ?_
  refine va_get (D := (dC, dI)) (ci := 4) (v := .int v4_begin) (C := RX4) (T := TX4) (N := 7) hx hb hts inX4_excess_X4 hown hK hP 1 rfl rfl 3 (by decide) lk3 (fun _ h9 => h9) rfl dX4_excess_65 ?_
  refine lv_isub hx hb dX4_excess_68 ?_
  refine lv_i2l (v := (v4_end - v4_begin).toInt64) hx hb dX4_excess_69 rfl ?_
  refine lv_lmul hx hb dX4_excess_70 ?_
  refine lv_ladd hx hb dX4_excess_71 ?_
  have hP9 := hP.sub (ws' := [(a5, .inr (5, [.int v5_wind, .int v5_pull, .int v5_room, .int v5_reach])), (a4, .inr (4, [.ref a6, .ref a2, .ref a5, .int v4_begin, .int v4_end, .long v4_wireAtBegin, .long v4_wireAtEnd]))]) [0, 1] rfl
  have hD9 := hD.sub (ws' := [(a5, .inr (5, [.int v5_wind, .int v5_pull, .int v5_room, .int v5_reach])), (a4, .inr (4, [.ref a6, .ref a2, .ref a5, .int v4_begin, .int v4_end, .long v4_wireAtBegin, .long v4_wireAtEnd]))]) [0, 1] (by decide) rfl
  exact W.lret (v := ((p2 * v5_pull.toInt64) + ((x1 - x2) * (v4_end - v4_begin).toInt64))) hx hb hr (fun t ht hW => ⟨⟨((p2 * v5_pull.toInt64) + ((x1 - x2) * (v4_end - v4_begin).toInt64)), (), rfl, hw, by rw [ht]; exact hP9, va_K.moved hW.alike hK, hD9⟩, hS.F ht⟩) hS.2.2 dX4_excess_72

theorem inX4_keepsPlace_X4 : ∀ w ∈ wsX40, w ∈ wsX4_keepsPlace := fun _ h => List.mem_cons_of_mem _ (List.mem_append_left _ (List.mem_append_left _ (List.mem_append_right _ h)))
theorem inX4_keepsPlace_X6 : ∀ w ∈ wsX60, w ∈ wsX4_keepsPlace := fun _ h => List.mem_cons_of_mem _ (List.mem_append_left _ (List.mem_append_right _ h))
theorem inX4_keepsPlace_X5 : ∀ w ∈ wsX50, w ∈ wsX4_keepsPlace := fun _ h => List.mem_cons_of_mem _ (List.mem_append_right _ h)
def wp_X4_keepsPlace (Q : Int32 → Prop) (v6_bends : Int32) (f6_from : Nat → Int32) (f6_to : Nat → Int32) (f6_curve : Nat → Int32) (v5_wind : Int32) (v5_pull : Int32) (v5_room : Int32) (v4_begin : Int32) (v4_end : Int32) (v4_wireAtBegin : Int64) (v4_wireAtEnd : Int64) (p1 : Int32) : Prop :=
  (wp_X4_offUpper (fun r1 => (∀ x2 : Int64, x2 = (if 0 < r1 then r1 else -r1) → (wp_X4_excess (fun r3 => (((0 : Int64) < r3 → (((0 : Int32) = 0 ∨ (0 : Int32) = 1) ∧ Q (0 : Int32) )) ∧ (¬ (0 : Int64) < r3 → (((1 : Int32) = 0 ∨ (1 : Int32) = 1) ∧ Q (1 : Int32) )))) v5_wind v5_pull v5_room v4_begin v4_end p1 x2))) v6_bends f6_from f6_to f6_curve v4_begin v4_end v4_wireAtBegin v4_wireAtEnd p1)
set_option maxHeartbeats 4000000 in
set_option maxRecDepth 100000 in
theorem c_X4_keepsPlace (l : Launch) (dC : Nat → ClassId) (dI : Nat → Nat → Nat) (cI cJ cZ : ClassId) (a6 : Nat) (a6_from : Nat) (a6_to : Nat) (a6_curve : Nat) (a2 : Nat) (a5 : Nat) (a4 : Nat) (sz : Nat) (v6_end : Int32) (v6_bends : Int32) (f6_from : Nat → Int32) (f6_to : Nat → Int32) (f6_curve : Nat → Int32) (v5_wind : Int32) (v5_pull : Int32) (v5_room : Int32) (v5_reach : Int32) (v4_begin : Int32) (v4_end : Int32) (v4_wireAtBegin : Int64) (v4_wireAtEnd : Int64) (p1 : Int32) (Q : Int32 → Prop) (hw : wp_X4_keepsPlace Q v6_bends f6_from f6_to f6_curve v5_wind v5_pull v5_room v4_begin v4_end v4_wireAtBegin v4_wireAtEnd p1) : Met l yX4_keepsPlace wsX4_keepsPlace ({ frames := 2, cells := 0, slots := 0, locals := 49 } : Room) (va_Pc [.ref a4, .int p1] (fun U => U.heap.size = sz ∧ va_P (dC, dI) vwCl [(a6, .inr (6, [.int v6_end, .int v6_bends, .ref a6_from, .ref a6_to, .ref a6_curve])), (a6_from, .inl (cI, 8, .inl f6_from)), (a6_to, .inl (cI, 8, .inl f6_to)), (a6_curve, .inl (cI, 8, .inl f6_curve)), (a5, .inr (5, [.int v5_wind, .int v5_pull, .int v5_room, .int v5_reach])), (a4, .inr (4, [.ref a6, .ref a2, .ref a5, .int v4_begin, .int v4_end, .long v4_wireAtBegin, .long v4_wireAtEnd]))] U.heap ∧ va_K (dC, dI) vwCl [(cI, .int), (cJ, .long), (cZ, .boolean)] U ∧ va_D (fun _ => True) [(a6, .inr (6, [.int v6_end, .int v6_bends, .ref a6_from, .ref a6_to, .ref a6_curve])), (a6_from, .inl (cI, 8, .inl f6_from)), (a6_to, .inl (cI, 8, .inl f6_to)), (a6_curve, .inl (cI, 8, .inl f6_curve)), (a5, .inr (5, [.int v5_wind, .int v5_pull, .int v5_room, .int v5_reach])), (a4, .inr (4, [.ref a6, .ref a2, .ref a5, .int v4_begin, .int v4_end, .long v4_wireAtBegin, .long v4_wireAtEnd]))])) (va_Qi (fun r (u : Unit) => Q r) (fun (u : Unit) t => va_P (dC, dI) vwCl [(a6, .inr (6, [.int v6_end, .int v6_bends, .ref a6_from, .ref a6_to, .ref a6_curve])), (a6_from, .inl (cI, 8, .inl f6_from)), (a6_to, .inl (cI, 8, .inl f6_to)), (a6_curve, .inl (cI, 8, .inl f6_curve)), (a5, .inr (5, [.int v5_wind, .int v5_pull, .int v5_room, .int v5_reach])), (a4, .inr (4, [.ref a6, .ref a2, .ref a5, .int v4_begin, .int v4_end, .long v4_wireAtBegin, .long v4_wireAtEnd]))] t.heap ∧ va_K (dC, dI) vwCl [(cI, .int), (cJ, .long), (cZ, .boolean)] t ∧ va_D (va_A [(a6, .inr (6, [.int v6_end, .int v6_bends, .ref a6_from, .ref a6_to, .ref a6_curve])), (a6_from, .inl (cI, 8, .inl f6_from)), (a6_to, .inl (cI, 8, .inl f6_to)), (a6_curve, .inl (cI, 8, .inl f6_curve)), (a5, .inr (5, [.int v5_wind, .int v5_pull, .int v5_room, .int v5_reach])), (a4, .inr (4, [.ref a6, .ref a2, .ref a5, .int v4_begin, .int v4_end, .long v4_wireAtBegin, .long v4_wireAtEnd]))] sz) [(a6, .inr (6, [.int v6_end, .int v6_bends, .ref a6_from, .ref a6_to, .ref a6_curve])), (a6_from, .inl (cI, 8, .inl f6_from)), (a6_to, .inl (cI, 8, .inl f6_to)), (a6_curve, .inl (cI, 8, .inl f6_curve)), (a5, .inr (5, [.int v5_wind, .int v5_pull, .int v5_room, .int v5_reach])), (a4, .inr (4, [.ref a6, .ref a2, .ref a5, .int v4_begin, .int v4_end, .long v4_wireAtBegin, .long v4_wireAtEnd]))]) (va_A [(a6, .inr (6, [.int v6_end, .int v6_bends, .ref a6_from, .ref a6_to, .ref a6_curve])), (a6_from, .inl (cI, 8, .inl f6_from)), (a6_to, .inl (cI, 8, .inl f6_to)), (a6_curve, .inl (cI, 8, .inl f6_curve)), (a5, .inr (5, [.int v5_wind, .int v5_pull, .int v5_room, .int v5_reach])), (a4, .inr (4, [.ref a6, .ref a2, .ref a5, .int v4_begin, .int v4_end, .long v4_wireAtBegin, .long v4_wireAtEnd]))] sz)) 0 0 (va_A [(a6, .inr (6, [.int v6_end, .int v6_bends, .ref a6_from, .ref a6_to, .ref a6_curve])), (a6_from, .inl (cI, 8, .inl f6_from)), (a6_to, .inl (cI, 8, .inl f6_to)), (a6_curve, .inl (cI, 8, .inl f6_curve)), (a5, .inr (5, [.int v5_wind, .int v5_pull, .int v5_room, .int v5_reach])), (a4, .inr (4, [.ref a6, .ref a2, .ref a5, .int v4_begin, .int v4_end, .long v4_wireAtBegin, .long v4_wireAtEnd]))] sz) := by
  refine Met.ofW (cc := cX4_keepsPlace) (maxL := 2) (ret := (some .boolean)) (by decide) rfl ?_
  intro p e s m args below meth c s₁ B hml hv
  obtain ⟨rfl, hsz, hP, hK, hD0⟩ := hv
  have hx := B.exec
  have hb := B.bytes
  have hr := B.returns
  have hts := atoms_spec (ws := wsX4_keepsPlace) B.pre
  have hown : s.vm.findClass RX4 = some m.cls := findClass_of_methodNamed B.named
  have hlocks := B.notSynchronized
  subst hsz
  have hD := hD0.self (sz := s.heap.size)
  generalize hAe : va_A [(a6, .inr (6, [.int v6_end, .int v6_bends, .ref a6_from, .ref a6_to, .ref a6_curve])), (a6_from, .inl (cI, 8, .inl f6_from)), (a6_to, .inl (cI, 8, .inl f6_to)), (a6_curve, .inl (cI, 8, .inl f6_curve)), (a5, .inr (5, [.int v5_wind, .int v5_pull, .int v5_room, .int v5_reach])), (a4, .inr (4, [.ref a6, .ref a2, .ref a5, .int v4_begin, .int v4_end, .long v4_wireAtBegin, .long v4_wireAtEnd]))] s.heap.size = A at hD ⊢
  have hA : ∀ q : Nat, s.heap.size ≤ q → A q := fun q h => by rw [← hAe]; exact Or.inr h
  have hS : va_S A s.heap s.heap [] := va_S.rf
  have hP : va_P (dC, dI) vwCl [(a6, .inr (6, [.int v6_end, .int v6_bends, .ref a6_from, .ref a6_to, .ref a6_curve])), (a6_from, .inl (cI, 8, .inl f6_from)), (a6_to, .inl (cI, 8, .inl f6_to)), (a6_curve, .inl (cI, 8, .inl f6_curve)), (a5, .inr (5, [.int v5_wind, .int v5_pull, .int v5_room, .int v5_reach])), (a4, .inr (4, [.ref a6, .ref a2, .ref a5, .int v4_begin, .int v4_end, .long v4_wireAtBegin, .long v4_wireAtEnd]))] s.heap := hP
  have lk1 := hts (.methodLink RX4 67 Lib.MathLoose.abs_long.x) (by decide +kernel)
  have lk2 := hts (.static Lib.MathLoose.abs_long.x) (by decide +kernel)
  have lk3 := hts (.initialized "java/lang/Math") (by decide +kernel)
  have lk4 := hts (.code Lib.MathLoose.abs_long.x Lib.MathLoose.abs_long.code 2 (some .long)) (by decide +kernel)
  have hl := lv_entry ([.ref a4, .int p1]) (n := 2) (Nat.le_of_ble_eq_true rfl)
  rw [lg_entry_eq]
  generalize (lg_sl ([.ref a4, .int p1]) ++ List.replicate (2 - (lg_sl ([.ref a4, .int p1])).length) Slot.unset).toArray = ls at hl ⊢
  have hl : lv_has ls 2 [(0, .ref a4), (1, .int p1)] := hl
  obtain ⟨H, hHe⟩ : ∃ H, H = s.heap := ⟨_, rfl⟩
  rw [← hHe] at hP
  have hS : va_S A s.heap H [] := by rw [hHe]; exact hS
  rw [← hHe]
  unfold wp_X4_keepsPlace at hw
  refine lv_aload_n hx hb dX4_keepsPlace_0 rfl (lv_at hl 0 rfl) ?_
  refine lv_iload_n hx hb dX4_keepsPlace_1 rfl (lv_at hl 1 rfl) ?_
  refine lv_aload_n hx hb dX4_keepsPlace_2 rfl (lv_at hl 0 rfl) ?_
  refine lv_iload_n hx hb dX4_keepsPlace_3 rfl (lv_at hl 1 rfl) ?_
  have hPc := hP.sub (ws' := [(a6, .inr (6, [.int v6_end, .int v6_bends, .ref a6_from, .ref a6_to, .ref a6_curve])), (a6_from, .inl (cI, 8, .inl f6_from)), (a6_to, .inl (cI, 8, .inl f6_to)), (a6_curve, .inl (cI, 8, .inl f6_curve)), (a4, .inr (4, [.ref a6, .ref a2, .ref a5, .int v4_begin, .int v4_end, .long v4_wireAtBegin, .long v4_wireAtEnd]))]) [0, 1, 2, 3, 5] rfl
  have hDc := hD.sub (ws' := [(a6, .inr (6, [.int v6_end, .int v6_bends, .ref a6_from, .ref a6_to, .ref a6_curve])), (a6_from, .inl (cI, 8, .inl f6_from)), (a6_to, .inl (cI, 8, .inl f6_to)), (a6_curve, .inl (cI, 8, .inl f6_curve)), (a4, .inr (4, [.ref a6, .ref a2, .ref a5, .int v4_begin, .int v4_end, .long v4_wireAtBegin, .long v4_wireAtEnd]))]) [0, 1, 2, 3, 5] (by decide) rfl
  have hFc := va_free (wc := [(a6, .inr (6, [.int v6_end, .int v6_bends, .ref a6_from, .ref a6_to, .ref a6_curve])), (a6_from, .inl (cI, 8, .inl f6_from)), (a6_to, .inl (cI, 8, .inl f6_to)), (a6_curve, .inl (cI, 8, .inl f6_curve)), (a4, .inr (4, [.ref a6, .ref a2, .ref a5, .int v4_begin, .int v4_end, .long v4_wireAtBegin, .long v4_wireAtEnd]))]) hD hS hA [0, 1, 2, 3, 5] rfl
  refine va_calll (va_runV (As := [.int p1]) (rest := [.int p1, .ref a4]) ⟨hx, hb, hml, hown, hts⟩ (c_X4_offUpper l dC dI cI cJ cZ a6 a6_from a6_to a6_curve a2 a5 a4 H.size v6_end v6_bends f6_from f6_to f6_curve v4_begin v4_end v4_wireAtBegin v4_wireAtEnd p1 _ hw) (cwV 1 hts gX4_keepsPlace_X4_offUpper rfl rfl rfl (by decide +kernel) ⟨Nat.le_of_ble_eq_true rfl, Nat.le_of_ble_eq_true rfl⟩) ⟨fun a U g mk q => by obtain ⟨q0, q1, qP, qK, qD⟩ := q; exact ⟨q0, q1, qP, va_K.moved (u := U) (U := U.calling g mk a) (Vm.Alike.refl U.vm) qK, qD⟩, va_recv hK hP (ci := 4) (q0 := 5) rfl rfl, fun U hU hW => ⟨rfl, by rw [hU], by rw [hU]; exact hPc, va_K.moved hW.alike hK, hDc.weaken (fun _ _ _ _ => trivial)⟩⟩ rfl rfl hl.1 rfl (lv_room (Nat.le_of_ble_eq_true rfl)) dX4_keepsPlace_4 ⟨(Nat.zero_le _), (Nat.zero_le _)⟩) hS (fun q _ h => hFc q h) hFc (fun r1 u t H1 locs ht hvm hw hB hz1 hk1 hS => ?_)
  obtain ⟨hP1, -, hD1⟩ := hB
  try dsimp only at hw
  rw [ht] at hP1
  obtain ⟨hP, hD⟩ := va_join (wr := [(a5, .inr (5, [.int v5_wind, .int v5_pull, .int v5_room, .int v5_reach]))]) (w1 := [(a6, .inr (6, [.int v6_end, .int v6_bends, .ref a6_from, .ref a6_to, .ref a6_curve])), (a6_from, .inl (cI, 8, .inl f6_from)), (a6_to, .inl (cI, 8, .inl f6_to)), (a6_curve, .inl (cI, 8, .inl f6_curve)), (a4, .inr (4, [.ref a6, .ref a2, .ref a5, .int v4_begin, .int v4_end, .long v4_wireAtBegin, .long v4_wireAtEnd]))]) hP hD [0, 1, 2, 3, 5] [4] rfl rfl (by decide) (by decide) hk1 hFc hP1 hD1
  generalize H1 = H at hP hS ⊢
  have hP : va_P (dC, dI) vwCl [(a5, .inr (5, [.int v5_wind, .int v5_pull, .int v5_room, .int v5_reach])), (a6, .inr (6, [.int v6_end, .int v6_bends, .ref a6_from, .ref a6_to, .ref a6_curve])), (a6_from, .inl (cI, 8, .inl f6_from)), (a6_to, .inl (cI, 8, .inl f6_to)), (a6_curve, .inl (cI, 8, .inl f6_curve)), (a4, .inr (4, [.ref a6, .ref a2, .ref a5, .int v4_begin, .int v4_end, .long v4_wireAtBegin, .long v4_wireAtEnd]))] H := hP
  have hD : va_D A [(a5, .inr (5, [.int v5_wind, .int v5_pull, .int v5_room, .int v5_reach])), (a6, .inr (6, [.int v6_end, .int v6_bends, .ref a6_from, .ref a6_to, .ref a6_curve])), (a6_from, .inl (cI, 8, .inl f6_from)), (a6_to, .inl (cI, 8, .inl f6_to)), (a6_curve, .inl (cI, 8, .inl f6_curve)), (a4, .inr (4, [.ref a6, .ref a2, .ref a5, .int v4_begin, .int v4_end, .long v4_wireAtBegin, .long v4_wireAtEnd]))] := hD
  refine va_mabs_long hx hb (hml.trans hl.1.symm) hown lk1 lk2 lk3 lk4 (Nat.le_of_ble_eq_true rfl) (Nat.le_of_ble_eq_true rfl) (Nat.le_of_ble_eq_true rfl) (Nat.le_of_ble_eq_true rfl) dX4_keepsPlace_7 ?_
  refine lv_topl (fun x2 ex2 => ?_)
  replace hw := hw x2 ex2
  have hPc := hP.sub (ws' := [(a5, .inr (5, [.int v5_wind, .int v5_pull, .int v5_room, .int v5_reach])), (a4, .inr (4, [.ref a6, .ref a2, .ref a5, .int v4_begin, .int v4_end, .long v4_wireAtBegin, .long v4_wireAtEnd]))]) [0, 5] rfl
  have hDc := hD.sub (ws' := [(a5, .inr (5, [.int v5_wind, .int v5_pull, .int v5_room, .int v5_reach])), (a4, .inr (4, [.ref a6, .ref a2, .ref a5, .int v4_begin, .int v4_end, .long v4_wireAtBegin, .long v4_wireAtEnd]))]) [0, 5] (by decide) rfl
  have hFc := va_free (wc := [(a5, .inr (5, [.int v5_wind, .int v5_pull, .int v5_room, .int v5_reach])), (a4, .inr (4, [.ref a6, .ref a2, .ref a5, .int v4_begin, .int v4_end, .long v4_wireAtBegin, .long v4_wireAtEnd]))]) hD hS hA [0, 5] rfl
  refine va_calll (va_runV (As := [.int p1, .long x2]) (rest := []) ⟨hx, hb, hml, hown, hts⟩ (c_X4_excess l dC dI cI cJ cZ a6 a2 a5 a4 H.size v5_wind v5_pull v5_room v5_reach v4_begin v4_end v4_wireAtBegin v4_wireAtEnd p1 x2 _ hw) (cwV 2 hts gX4_keepsPlace_X4_excess rfl rfl rfl (by decide +kernel) ⟨Nat.le_of_ble_eq_true rfl, Nat.le_of_ble_eq_true rfl⟩) ⟨fun a U g mk q => by obtain ⟨q0, q1, qP, qK, qD⟩ := q; exact ⟨q0, q1, qP, va_K.moved (u := U) (U := U.calling g mk a) (Vm.Alike.refl U.vm) qK, qD⟩, va_recv hK hP (ci := 4) (q0 := 5) rfl rfl, fun U hU hW => ⟨rfl, by rw [hU], by rw [hU]; exact hPc, va_K.moved hW.alike hK, hDc.weaken (fun _ _ _ _ => trivial)⟩⟩ rfl rfl hl.1 rfl (lv_room (Nat.le_of_ble_eq_true rfl)) dX4_keepsPlace_10 ⟨(Nat.zero_le _), (Nat.zero_le _)⟩) hS (fun q _ h => hFc q h) hFc (fun r3 u t H1 locs ht hvm hw hB hz1 hk1 hS => ?_)
  obtain ⟨hP1, -, hD1⟩ := hB
  try dsimp only at hw
  rw [ht] at hP1
  obtain ⟨hP, hD⟩ := va_join (wr := [(a6, .inr (6, [.int v6_end, .int v6_bends, .ref a6_from, .ref a6_to, .ref a6_curve])), (a6_from, .inl (cI, 8, .inl f6_from)), (a6_to, .inl (cI, 8, .inl f6_to)), (a6_curve, .inl (cI, 8, .inl f6_curve))]) (w1 := [(a5, .inr (5, [.int v5_wind, .int v5_pull, .int v5_room, .int v5_reach])), (a4, .inr (4, [.ref a6, .ref a2, .ref a5, .int v4_begin, .int v4_end, .long v4_wireAtBegin, .long v4_wireAtEnd]))]) hP hD [0, 5] [1, 2, 3, 4] rfl rfl (by decide) (by decide) hk1 hFc hP1 hD1
  generalize H1 = H at hP hS ⊢
  have hP : va_P (dC, dI) vwCl [(a6, .inr (6, [.int v6_end, .int v6_bends, .ref a6_from, .ref a6_to, .ref a6_curve])), (a6_from, .inl (cI, 8, .inl f6_from)), (a6_to, .inl (cI, 8, .inl f6_to)), (a6_curve, .inl (cI, 8, .inl f6_curve)), (a5, .inr (5, [.int v5_wind, .int v5_pull, .int v5_room, .int v5_reach])), (a4, .inr (4, [.ref a6, .ref a2, .ref a5, .int v4_begin, .int v4_end, .long v4_wireAtBegin, .long v4_wireAtEnd]))] H := hP
  have hD : va_D A [(a6, .inr (6, [.int v6_end, .int v6_bends, .ref a6_from, .ref a6_to, .ref a6_curve])), (a6_from, .inl (cI, 8, .inl f6_from)), (a6_to, .inl (cI, 8, .inl f6_to)), (a6_curve, .inl (cI, 8, .inl f6_curve)), (a5, .inr (5, [.int v5_wind, .int v5_pull, .int v5_room, .int v5_reach])), (a4, .inr (4, [.ref a6, .ref a2, .ref a5, .int v4_begin, .int v4_end, .long v4_wireAtBegin, .long v4_wireAtEnd]))] := hD
  refine lv_lconst (v := (0 : Int64)) hx hb dX4_keepsPlace_13 (by decide) ?_
  refine W.lcmp hx hb dX4_keepsPlace_14 ?_
  refine lv_if_gt (tgt := 22) hx hb dX4_keepsPlace_15 (by decide) (fun c4 => ?_) (fun c4 => ?_)
  · replace hw := hw.1 ((lg_cmp_gt _ _).mp c4)
    refine lv_iconst (v := (0 : Int32)) hx hb dX4_keepsPlace_22 (by decide) ?_
    have hP9 := hP.sub (ws' := [(a6, .inr (6, [.int v6_end, .int v6_bends, .ref a6_from, .ref a6_to, .ref a6_curve])), (a6_from, .inl (cI, 8, .inl f6_from)), (a6_to, .inl (cI, 8, .inl f6_to)), (a6_curve, .inl (cI, 8, .inl f6_curve)), (a5, .inr (5, [.int v5_wind, .int v5_pull, .int v5_room, .int v5_reach])), (a4, .inr (4, [.ref a6, .ref a2, .ref a5, .int v4_begin, .int v4_end, .long v4_wireAtBegin, .long v4_wireAtEnd]))]) [0, 1, 2, 3, 4, 5] rfl
    have hD9 := hD.sub (ws' := [(a6, .inr (6, [.int v6_end, .int v6_bends, .ref a6_from, .ref a6_to, .ref a6_curve])), (a6_from, .inl (cI, 8, .inl f6_from)), (a6_to, .inl (cI, 8, .inl f6_to)), (a6_curve, .inl (cI, 8, .inl f6_curve)), (a5, .inr (5, [.int v5_wind, .int v5_pull, .int v5_room, .int v5_reach])), (a4, .inr (4, [.ref a6, .ref a2, .ref a5, .int v4_begin, .int v4_end, .long v4_wireAtBegin, .long v4_wireAtEnd]))]) [0, 1, 2, 3, 4, 5] (by decide) rfl
    obtain ⟨h5, hw⟩ := hw
    exact W.zret (v := (0 : Int32)) hx hb hr (wg_bool h5) (fun t ht hW => ⟨⟨(0 : Int32), (), rfl, hw, by rw [ht]; exact hP9, va_K.moved hW.alike hK, hD9⟩, hS.F ht⟩) hS.2.2 dX4_keepsPlace_23
  · replace hw := hw.2 (fun z => c4 ((lg_cmp_gt _ _).mpr z))
    refine lv_iconst (v := (1 : Int32)) hx hb dX4_keepsPlace_18 (by decide) ?_
    refine lv_goto (tgt := 23) hx hb dX4_keepsPlace_19 (by decide) ?_
    have hP9 := hP.sub (ws' := [(a6, .inr (6, [.int v6_end, .int v6_bends, .ref a6_from, .ref a6_to, .ref a6_curve])), (a6_from, .inl (cI, 8, .inl f6_from)), (a6_to, .inl (cI, 8, .inl f6_to)), (a6_curve, .inl (cI, 8, .inl f6_curve)), (a5, .inr (5, [.int v5_wind, .int v5_pull, .int v5_room, .int v5_reach])), (a4, .inr (4, [.ref a6, .ref a2, .ref a5, .int v4_begin, .int v4_end, .long v4_wireAtBegin, .long v4_wireAtEnd]))]) [0, 1, 2, 3, 4, 5] rfl
    have hD9 := hD.sub (ws' := [(a6, .inr (6, [.int v6_end, .int v6_bends, .ref a6_from, .ref a6_to, .ref a6_curve])), (a6_from, .inl (cI, 8, .inl f6_from)), (a6_to, .inl (cI, 8, .inl f6_to)), (a6_curve, .inl (cI, 8, .inl f6_curve)), (a5, .inr (5, [.int v5_wind, .int v5_pull, .int v5_room, .int v5_reach])), (a4, .inr (4, [.ref a6, .ref a2, .ref a5, .int v4_begin, .int v4_end, .long v4_wireAtBegin, .long v4_wireAtEnd]))]) [0, 1, 2, 3, 4, 5] (by decide) rfl
    obtain ⟨h6, hw⟩ := hw
    exact W.zret (v := (1 : Int32)) hx hb hr (wg_bool h6) (fun t ht hW => ⟨⟨(1 : Int32), (), rfl, hw, by rw [ht]; exact hP9, va_K.moved hW.alike hK, hD9⟩, hS.F ht⟩) hS.2.2 dX4_keepsPlace_23

def wp_X7_within (Q : Int32 → Prop) (p1 : Int32) (p2 : Int32) (p3 : Int32) : Prop :=
  ((p1 < p2 → (((0 : Int32) = 0 ∨ (0 : Int32) = 1) ∧ Q (0 : Int32) )) ∧ (¬ p1 < p2 → ((p3 < p1 → (((0 : Int32) = 0 ∨ (0 : Int32) = 1) ∧ Q (0 : Int32) )) ∧ (¬ p3 < p1 → (((1 : Int32) = 0 ∨ (1 : Int32) = 1) ∧ Q (1 : Int32) )))))
set_option maxHeartbeats 4000000 in
set_option maxRecDepth 100000 in
theorem c_X7_within (l : Launch) (dC : Nat → ClassId) (dI : Nat → Nat → Nat) (cI cJ cZ : ClassId) (sz : Nat) (p1 : Int32) (p2 : Int32) (p3 : Int32) (Q : Int32 → Prop) (hw : wp_X7_within Q  p1 p2 p3) : Met l yX7_within wsX7_within ({ frames := 0, cells := 0, slots := 0, locals := 0 } : Room) (va_Pc [.int p1, .int p2, .int p3] (fun U => U.heap.size = sz ∧ va_P (dC, dI) vwCl [] U.heap ∧ va_K (dC, dI) vwCl [(cI, .int), (cJ, .long), (cZ, .boolean)] U ∧ va_D (fun _ => True) [])) (va_Qi (fun r (u : Unit) => Q r) (fun (u : Unit) t => va_P (dC, dI) vwCl [] t.heap ∧ va_K (dC, dI) vwCl [(cI, .int), (cJ, .long), (cZ, .boolean)] t ∧ va_D (va_A [] sz) []) (va_A [] sz)) 0 0 (va_A [] sz) := by
  refine Met.ofW (cc := cX7_within) (maxL := 3) (ret := (some .boolean)) (by decide) rfl ?_
  intro p e s m args below meth c s₁ B hml hv
  obtain ⟨rfl, hsz, hP, hK, hD0⟩ := hv
  have hx := B.exec
  have hb := B.bytes
  have hr := B.returns
  have hts := atoms_spec (ws := wsX7_within) B.pre
  have hown : s.vm.findClass RX7 = some m.cls := findClass_of_methodNamed B.named
  have hlocks := B.notSynchronized
  subst hsz
  have hD := hD0.self (sz := s.heap.size)
  generalize hAe : va_A [] s.heap.size = A at hD ⊢
  have hA : ∀ q : Nat, s.heap.size ≤ q → A q := fun q h => by rw [← hAe]; exact Or.inr h
  have hS : va_S A s.heap s.heap [] := va_S.rf
  have hP : va_P (dC, dI) vwCl [] s.heap := hP
  have hl := lv_entry ([.int p1, .int p2, .int p3]) (n := 3) (Nat.le_of_ble_eq_true rfl)
  rw [lg_entry_eq]
  generalize (lg_sl ([.int p1, .int p2, .int p3]) ++ List.replicate (3 - (lg_sl ([.int p1, .int p2, .int p3])).length) Slot.unset).toArray = ls at hl ⊢
  have hl : lv_has ls 3 [(0, .int p1), (1, .int p2), (2, .int p3)] := hl
  obtain ⟨H, hHe⟩ : ∃ H, H = s.heap := ⟨_, rfl⟩
  rw [← hHe] at hP
  have hS : va_S A s.heap H [] := by rw [hHe]; exact hS
  rw [← hHe]
  unfold wp_X7_within at hw
  refine lv_iload_n hx hb dX7_within_0 rfl (lv_at hl 0 rfl) ?_
  refine lv_iload_n hx hb dX7_within_1 rfl (lv_at hl 1 rfl) ?_
  refine lv_icmp_lt (tgt := 14) hx hb dX7_within_2 (by decide) (fun c1 => ?_) (fun c1 => ?_)
  · replace hw := hw.1 (c1)
    refine lv_iconst (v := (0 : Int32)) hx hb dX7_within_14 (by decide) ?_
    have hP9 := hP.sub (ws' := []) [] rfl
    have hD9 := hD.sub (ws' := []) [] (by decide) rfl
    obtain ⟨h2, hw⟩ := hw
    exact W.zret (v := (0 : Int32)) hx hb hr (wg_bool h2) (fun t ht hW => ⟨⟨(0 : Int32), (), rfl, hw, by rw [ht]; exact hP9, va_K.moved hW.alike hK, hD9⟩, hS.F ht⟩) hS.2.2 dX7_within_15
  · replace hw := hw.2 (c1)
    refine lv_iload_n hx hb dX7_within_5 rfl (lv_at hl 0 rfl) ?_
    refine lv_iload_n hx hb dX7_within_6 rfl (lv_at hl 2 rfl) ?_
    refine lv_icmp_gt (tgt := 14) hx hb dX7_within_7 (by decide) (fun c3 => ?_) (fun c3 => ?_)
    · replace hw := hw.1 (c3)
      refine lv_iconst (v := (0 : Int32)) hx hb dX7_within_14 (by decide) ?_
      have hP9 := hP.sub (ws' := []) [] rfl
      have hD9 := hD.sub (ws' := []) [] (by decide) rfl
      obtain ⟨h4, hw⟩ := hw
      exact W.zret (v := (0 : Int32)) hx hb hr (wg_bool h4) (fun t ht hW => ⟨⟨(0 : Int32), (), rfl, hw, by rw [ht]; exact hP9, va_K.moved hW.alike hK, hD9⟩, hS.F ht⟩) hS.2.2 dX7_within_15
    · replace hw := hw.2 (c3)
      refine lv_iconst (v := (1 : Int32)) hx hb dX7_within_10 (by decide) ?_
      refine lv_goto (tgt := 15) hx hb dX7_within_11 (by decide) ?_
      have hP9 := hP.sub (ws' := []) [] rfl
      have hD9 := hD.sub (ws' := []) [] (by decide) rfl
      obtain ⟨h5, hw⟩ := hw
      exact W.zret (v := (1 : Int32)) hx hb hr (wg_bool h5) (fun t ht hW => ⟨⟨(1 : Int32), (), rfl, hw, by rw [ht]; exact hP9, va_K.moved hW.alike hK, hD9⟩, hS.F ht⟩) hS.2.2 dX7_within_15

def wb_X7_commonDivisor_3 (Q : Int64 → Prop) (K3 : (Int64) → (Int64) → (Int32) → Prop) (y3_0 : Int64) (y3_2 : Int64) (y3_4 : Int32) : Prop :=
  (((100 : Int32) ≤ y3_4 → (Q y3_0 )) ∧ (¬ (100 : Int32) ≤ y3_4 → ((y3_2 = (0 : Int64) → (Q y3_0 )) ∧ (¬ y3_2 = (0 : Int64) → ((¬ y3_2 = 0) ∧ (∀ x4 : Int64, x4 = (y3_0 - y3_0 / y3_2 * y3_2) → (∀ x5 : Int32, x5 = y3_4 + (1 : Int32) → (K3 y3_2 x4 x5))))))))
def wl_X7_commonDivisor_3 (Q : Int64 → Prop) : Nat → (Int64) → (Int64) → (Int32) → Prop
  | 0, _, _, _ => False
  | n + 1, y3_0, y3_2, y3_4 => wb_X7_commonDivisor_3 Q  (wl_X7_commonDivisor_3 Q  n) y3_0 y3_2 y3_4
def wp_X7_commonDivisor (Q : Int64 → Prop) (p1 : Int64) (p2 : Int64) : Prop :=
  (∃ n : Nat, wl_X7_commonDivisor_3 Q  n p1 p2 (0 : Int32))
set_option maxHeartbeats 4000000 in
set_option maxRecDepth 100000 in
theorem c_X7_commonDivisor (l : Launch) (dC : Nat → ClassId) (dI : Nat → Nat → Nat) (cI cJ cZ : ClassId) (sz : Nat) (p1 : Int64) (p2 : Int64) (Q : Int64 → Prop) (hw : wp_X7_commonDivisor Q  p1 p2) : Met l yX7_commonDivisor wsX7_commonDivisor ({ frames := 0, cells := 0, slots := 0, locals := 0 } : Room) (va_Pc [.long p1, .long p2] (fun U => U.heap.size = sz ∧ va_P (dC, dI) vwCl [] U.heap ∧ va_K (dC, dI) vwCl [(cI, .int), (cJ, .long), (cZ, .boolean)] U ∧ va_D (fun _ => True) [])) (va_Ql (fun r (u : Unit) => Q r) (fun (u : Unit) t => va_P (dC, dI) vwCl [] t.heap ∧ va_K (dC, dI) vwCl [(cI, .int), (cJ, .long), (cZ, .boolean)] t ∧ va_D (va_A [] sz) []) (va_A [] sz)) 0 0 (va_A [] sz) := by
  refine Met.ofW (cc := cX7_commonDivisor) (maxL := 7) (ret := (some .long)) (by decide) rfl ?_
  intro p e s m args below meth c s₁ B hml hv
  obtain ⟨rfl, hsz, hP, hK, hD0⟩ := hv
  have hx := B.exec
  have hb := B.bytes
  have hr := B.returns
  have hts := atoms_spec (ws := wsX7_commonDivisor) B.pre
  have hown : s.vm.findClass RX7 = some m.cls := findClass_of_methodNamed B.named
  have hlocks := B.notSynchronized
  subst hsz
  have hD := hD0.self (sz := s.heap.size)
  generalize hAe : va_A [] s.heap.size = A at hD ⊢
  have hA : ∀ q : Nat, s.heap.size ≤ q → A q := fun q h => by rw [← hAe]; exact Or.inr h
  have hS : va_S A s.heap s.heap [] := va_S.rf
  have hP : va_P (dC, dI) vwCl [] s.heap := hP
  have k_3 : ∀ (n_3 : Nat) (y3_0 : Int64) (y3_2 : Int64) (y3_4 : Int32) (H : Heap) (locs : List Loc) (ls : Array Slot), va_P (dC, dI) vwCl [] H → va_D A [] → va_S A s.heap H locs → lv_has ls 7 [(0, .long y3_0), (2, .long y3_2), (4, .int y3_4)] → (wl_X7_commonDivisor_3 Q  n_3 y3_0 y3_2 y3_4) → W p l e (headSpec wsX7_commonDivisor ({ frames := 0, cells := 0, slots := 0, locals := 0 } : Room)).room s m [.long p1, .long p2].toArray below meth c H locs 0 0 (MQ below (va_Ql (fun r (u : Unit) => Q r) (fun (u : Unit) t => va_P (dC, dI) vwCl [] t.heap ∧ va_K (dC, dI) vwCl [(cI, .int), (cJ, .long), (cZ, .boolean)] t ∧ va_D A []) A) [.long p1, .long p2].toArray s 0 0 A) (F0 m 3 ls []) := by
    intro n_3
    induction n_3 with
    | zero =>
      intro y3_0 y3_2 y3_4 H locs ls hP hD hS hl hw
      exact False.elim hw
    | succ n_3 ih_3 =>
      intro y3_0 y3_2 y3_4 H locs ls hP hD hS hl hw
      replace hw : wb_X7_commonDivisor_3 Q  (wl_X7_commonDivisor_3 Q  n_3) y3_0 y3_2 y3_4 := hw
      unfold wb_X7_commonDivisor_3 at hw
      refine lv_iload hx hb dX7_commonDivisor_3 (lv_at hl 2 rfl) ?_
      refine lv_bipush (v := (100 : Int32)) hx hb dX7_commonDivisor_5 (by decide) ?_
      refine lv_icmp_ge (tgt := 32) hx hb dX7_commonDivisor_7 (by decide) (fun c1 => ?_) (fun c1 => ?_)
      · replace hw := hw.1 (c1)
        refine lv_lload_n hx hb dX7_commonDivisor_32 rfl (lv_at hl 0 rfl) ?_
        have hP9 := hP.sub (ws' := []) [] rfl
        have hD9 := hD.sub (ws' := []) [] (by decide) rfl
        exact W.lret (v := y3_0) hx hb hr (fun t ht hW => ⟨⟨y3_0, (), rfl, hw, by rw [ht]; exact hP9, va_K.moved hW.alike hK, hD9⟩, hS.F ht⟩) hS.2.2 dX7_commonDivisor_33
      · replace hw := hw.2 (c1)
        refine lv_lload_n hx hb dX7_commonDivisor_10 rfl (lv_at hl 1 rfl) ?_
        refine lv_lconst (v := (0 : Int64)) hx hb dX7_commonDivisor_11 (by decide) ?_
        refine W.lcmp hx hb dX7_commonDivisor_12 ?_
        refine lv_if_eq (tgt := 32) hx hb dX7_commonDivisor_13 (by decide) (fun c2 => ?_) (fun c2 => ?_)
        · replace hw := hw.1 ((lg_cmp_eq _ _).mp c2)
          refine lv_lload_n hx hb dX7_commonDivisor_32 rfl (lv_at hl 0 rfl) ?_
          have hP9 := hP.sub (ws' := []) [] rfl
          have hD9 := hD.sub (ws' := []) [] (by decide) rfl
          exact W.lret (v := y3_0) hx hb hr (fun t ht hW => ⟨⟨y3_0, (), rfl, hw, by rw [ht]; exact hP9, va_K.moved hW.alike hK, hD9⟩, hS.F ht⟩) hS.2.2 dX7_commonDivisor_33
        · replace hw := hw.2 (fun z => c2 ((lg_cmp_eq _ _).mpr z))
          refine lv_lload_n hx hb dX7_commonDivisor_16 rfl (lv_at hl 0 rfl) ?_
          refine lv_lload_n hx hb dX7_commonDivisor_17 rfl (lv_at hl 1 rfl) ?_
          obtain ⟨h3, hw⟩ := hw
          refine lv_lrem hx hb dX7_commonDivisor_18 h3 ?_
          refine lv_topl (fun x4 ex4 => ?_)
          replace hw := hw x4 ex4
          refine lv_lstore (lv' := [(5, .long x4), (0, .long y3_0), (2, .long y3_2), (4, .int y3_4)]) hx hb dX7_commonDivisor_19 hl (by decide) rfl (fun ls hl => ?_)
          refine lv_lload_n hx hb dX7_commonDivisor_21 rfl (lv_at hl 2 rfl) ?_
          refine lv_lstore_n (lv' := [(0, .long y3_2), (5, .long x4), (2, .long y3_2), (4, .int y3_4)]) hx hb dX7_commonDivisor_22 rfl hl (by decide) rfl (fun ls hl => ?_)
          refine lv_lload hx hb dX7_commonDivisor_23 (lv_at hl 1 rfl) ?_
          refine lv_lstore_n (lv' := [(2, .long x4), (0, .long y3_2), (5, .long x4), (4, .int y3_4)]) hx hb dX7_commonDivisor_25 rfl hl (by decide) rfl (fun ls hl => ?_)
          obtain ⟨x5, ex5⟩ : ∃ y : Int32, y = y3_4 + (1 : Int32) := ⟨_, rfl⟩
          replace hw := hw x5 ex5
          refine lv_iinc (v := x5) (lv' := [(4, .int x5), (2, .long x4), (0, .long y3_2), (5, .long x4)]) hx hb dX7_commonDivisor_26 hl (k := 3) rfl (by rw [ex5]; rfl) (by decide) rfl (fun ls hl => ?_)
          refine lv_goto (tgt := 3) hx hb dX7_commonDivisor_29 (by decide) ?_
          exact ih_3 y3_2 x4 x5 _ _ _ (hP.sub [] rfl) (hD.sub [] (by decide) rfl) hS (lv_sub hl [2, 1, 0] rfl) hw
  have hl := lv_entry ([.long p1, .long p2]) (n := 7) (Nat.le_of_ble_eq_true rfl)
  rw [lg_entry_eq]
  generalize (lg_sl ([.long p1, .long p2]) ++ List.replicate (7 - (lg_sl ([.long p1, .long p2])).length) Slot.unset).toArray = ls at hl ⊢
  have hl : lv_has ls 7 [(0, .long p1), (2, .long p2)] := hl
  obtain ⟨H, hHe⟩ : ∃ H, H = s.heap := ⟨_, rfl⟩
  rw [← hHe] at hP
  have hS : va_S A s.heap H [] := by rw [hHe]; exact hS
  rw [← hHe]
  unfold wp_X7_commonDivisor at hw
  refine lv_iconst (v := (0 : Int32)) hx hb dX7_commonDivisor_0 (by decide) ?_
  refine lv_istore (lv' := [(4, .int (0 : Int32)), (0, .long p1), (2, .long p2)]) hx hb dX7_commonDivisor_1 hl (by decide) rfl (fun ls hl => ?_)
  obtain ⟨n_3, hw⟩ := hw
  exact k_3 n_3 p1 p2 (0 : Int32) _ _ _ (hP.sub [] rfl) (hD.sub [] (by decide) rfl) hS (lv_sub hl [1, 2, 0] rfl) hw

def wp_X7_part (Q : Int64 → Prop) (p1 : Int64) (p2 : Int64) (p3 : Int32) : Prop :=
  (∀ x1 : Int64, x1 = (if 0 < p1 then p1 else -p1) → (wp_X7_commonDivisor (fun r2 => ((r2 = (0 : Int64) → (Q (-1000000000000000 : Int64) )) ∧ (¬ r2 = (0 : Int64) → ((p3 = 0 → ((¬ r2 = 0) ∧ (Q (p1 / r2) ))) ∧ (¬ p3 = 0 → ((¬ r2 = 0) ∧ (Q (p2 / r2) ))))))) x1 p2))
set_option maxHeartbeats 4000000 in
set_option maxRecDepth 100000 in
theorem c_X7_part (l : Launch) (dC : Nat → ClassId) (dI : Nat → Nat → Nat) (cI cJ cZ : ClassId) (sz : Nat) (p1 : Int64) (p2 : Int64) (p3 : Int32) (Q : Int64 → Prop) (hw : wp_X7_part Q  p1 p2 p3) : Met l yX7_part wsX7_part ({ frames := 1, cells := 0, slots := 0, locals := 26 } : Room) (va_Pc [.long p1, .long p2, .int p3] (fun U => U.heap.size = sz ∧ va_P (dC, dI) vwCl [] U.heap ∧ va_K (dC, dI) vwCl [(cI, .int), (cJ, .long), (cZ, .boolean)] U ∧ va_D (fun _ => True) [])) (va_Ql (fun r (u : Unit) => Q r) (fun (u : Unit) t => va_P (dC, dI) vwCl [] t.heap ∧ va_K (dC, dI) vwCl [(cI, .int), (cJ, .long), (cZ, .boolean)] t ∧ va_D (va_A [] sz) []) (va_A [] sz)) 0 0 (va_A [] sz) := by
  refine Met.ofW (cc := cX7_part) (maxL := 7) (ret := (some .long)) (by decide) rfl ?_
  intro p e s m args below meth c s₁ B hml hv
  obtain ⟨rfl, hsz, hP, hK, hD0⟩ := hv
  have hx := B.exec
  have hb := B.bytes
  have hr := B.returns
  have hts := atoms_spec (ws := wsX7_part) B.pre
  have hown : s.vm.findClass RX7 = some m.cls := findClass_of_methodNamed B.named
  have hlocks := B.notSynchronized
  subst hsz
  have hD := hD0.self (sz := s.heap.size)
  generalize hAe : va_A [] s.heap.size = A at hD ⊢
  have hA : ∀ q : Nat, s.heap.size ≤ q → A q := fun q h => by rw [← hAe]; exact Or.inr h
  have hS : va_S A s.heap s.heap [] := va_S.rf
  have hP : va_P (dC, dI) vwCl [] s.heap := hP
  have lk1 := hts (.methodLink RX7 263 Lib.MathLoose.abs_long.x) (by decide +kernel)
  have lk2 := hts (.static Lib.MathLoose.abs_long.x) (by decide +kernel)
  have lk3 := hts (.initialized "java/lang/Math") (by decide +kernel)
  have lk4 := hts (.code Lib.MathLoose.abs_long.x Lib.MathLoose.abs_long.code 2 (some .long)) (by decide +kernel)
  have lk5 := hts (.constantLong RX7 199 (-1000000000000000)) (by decide +kernel)
  have hl := lv_entry ([.long p1, .long p2, .int p3]) (n := 7) (Nat.le_of_ble_eq_true rfl)
  rw [lg_entry_eq]
  generalize (lg_sl ([.long p1, .long p2, .int p3]) ++ List.replicate (7 - (lg_sl ([.long p1, .long p2, .int p3])).length) Slot.unset).toArray = ls at hl ⊢
  have hl : lv_has ls 7 [(0, .long p1), (2, .long p2), (4, .int p3)] := hl
  obtain ⟨H, hHe⟩ : ∃ H, H = s.heap := ⟨_, rfl⟩
  rw [← hHe] at hP
  have hS : va_S A s.heap H [] := by rw [hHe]; exact hS
  rw [← hHe]
  unfold wp_X7_part at hw
  refine lv_lload_n hx hb dX7_part_0 rfl (lv_at hl 0 rfl) ?_
  refine va_mabs_long hx hb (hml.trans hl.1.symm) hown lk1 lk2 lk3 lk4 (Nat.le_of_ble_eq_true rfl) (Nat.le_of_ble_eq_true rfl) (Nat.le_of_ble_eq_true rfl) (Nat.le_of_ble_eq_true rfl) dX7_part_1 ?_
  refine lv_topl (fun x1 ex1 => ?_)
  replace hw := hw x1 ex1
  refine lv_lload_n hx hb dX7_part_4 rfl (lv_at hl 1 rfl) ?_
  have hPc := hP.sub (ws' := []) [] rfl
  have hDc := hD.sub (ws' := []) [] (by decide) rfl
  have hFc := va_free (wc := []) hD hS hA [] rfl
  refine va_calll (va_runS (As := [.long x1, .long p2]) (rest := []) ⟨hx, hb, hml, hown, hts⟩ (c_X7_commonDivisor l dC dI cI cJ cZ H.size x1 p2 _ hw) (va_cwS 2 hts gX7_part_X7_commonDivisor rfl rfl rfl (by decide +kernel) ⟨Nat.le_of_ble_eq_true rfl, Nat.le_of_ble_eq_true rfl⟩) ⟨fun a U g mk q => by obtain ⟨q0, q1, qP, qK, qD⟩ := q; exact ⟨q0, q1, qP, va_K.moved (u := U) (U := U.calling g mk a) (Vm.Alike.refl U.vm) qK, qD⟩, fun U hU hW => ⟨rfl, by rw [hU], by rw [hU]; exact hPc, va_K.moved hW.alike hK, hDc.weaken (fun _ _ _ _ => trivial)⟩⟩ rfl rfl hl.1 rfl (lv_room (Nat.le_of_ble_eq_true rfl)) dX7_part_5 ⟨(Nat.zero_le _), (Nat.zero_le _)⟩) hS (fun q _ h => hFc q h) hFc (fun r2 u t H1 locs ht hvm hw hB hz1 hk1 hS => ?_)
  obtain ⟨hP1, -, hD1⟩ := hB
  try dsimp only at hw
  rw [ht] at hP1
  obtain ⟨hP, hD⟩ := va_join (wr := []) (w1 := []) hP hD [] [] rfl rfl (by decide) (by decide) hk1 hFc hP1 hD1
  generalize H1 = H at hP hS ⊢
  have hP : va_P (dC, dI) vwCl [] H := hP
  have hD : va_D A [] := hD
  refine lv_lstore (lv' := [(5, .long r2), (0, .long p1), (2, .long p2), (4, .int p3)]) hx hb dX7_part_8 hl (by decide) rfl (fun ls hl => ?_)
  refine lv_lload hx hb dX7_part_10 (lv_at hl 0 rfl) ?_
  refine lv_lconst (v := (0 : Int64)) hx hb dX7_part_12 (by decide) ?_
  refine W.lcmp hx hb dX7_part_13 ?_
  refine lv_if_ne (tgt := 21) hx hb dX7_part_14 (by decide) (fun c3 => ?_) (fun c3 => ?_)
  · replace hw := hw.2 (fun z => c3 ((lg_cmp_eq _ _).mpr z))
    refine lv_iload hx hb dX7_part_21 (lv_at hl 3 rfl) ?_
    refine lv_if_ne (tgt := 33) hx hb dX7_part_23 (by decide) (fun c4 => ?_) (fun c4 => ?_)
    · replace hw := hw.2 (c4)
      refine lv_lload_n hx hb dX7_part_33 rfl (lv_at hl 2 rfl) ?_
      refine lv_lload hx hb dX7_part_34 (lv_at hl 0 rfl) ?_
      obtain ⟨h5, hw⟩ := hw
      refine lv_ldiv hx hb dX7_part_36 h5 ?_
      have hP9 := hP.sub (ws' := []) [] rfl
      have hD9 := hD.sub (ws' := []) [] (by decide) rfl
      exact W.lret (v := (p2 / r2)) hx hb hr (fun t ht hW => ⟨⟨(p2 / r2), (), rfl, hw, by rw [ht]; exact hP9, va_K.moved hW.alike hK, hD9⟩, hS.F ht⟩) hS.2.2 dX7_part_37
    · replace hw := hw.1 (c4)
      refine lv_lload_n hx hb dX7_part_26 rfl (lv_at hl 1 rfl) ?_
      refine lv_lload hx hb dX7_part_27 (lv_at hl 0 rfl) ?_
      obtain ⟨h6, hw⟩ := hw
      refine lv_ldiv hx hb dX7_part_29 h6 ?_
      refine lv_goto (tgt := 37) hx hb dX7_part_30 (by decide) ?_
      have hP9 := hP.sub (ws' := []) [] rfl
      have hD9 := hD.sub (ws' := []) [] (by decide) rfl
      exact W.lret (v := (p1 / r2)) hx hb hr (fun t ht hW => ⟨⟨(p1 / r2), (), rfl, hw, by rw [ht]; exact hP9, va_K.moved hW.alike hK, hD9⟩, hS.F ht⟩) hS.2.2 dX7_part_37
  · replace hw := hw.1 ((lg_cmp_eq _ _).mp c3)
    refine lv_ldc2 (v := (-1000000000000000 : Int64)) hx hb hown lk5 dX7_part_17 ?_
    have hP9 := hP.sub (ws' := []) [] rfl
    have hD9 := hD.sub (ws' := []) [] (by decide) rfl
    exact W.lret (v := (-1000000000000000 : Int64)) hx hb hr (fun t ht hW => ⟨⟨(-1000000000000000 : Int64), (), rfl, hw, by rw [ht]; exact hP9, va_K.moved hW.alike hK, hD9⟩, hS.F ht⟩) hS.2.2 dX7_part_20

def wp_X7_heat (Q : Int64 → Prop) (p1 : Int32) (p2 : Int32) (p3 : Int32) : Prop :=
  (wp_X7_within (fun r1 => ((r1 = 0 → (Q (-1000000000000002 : Int64) )) ∧ (¬ r1 = 0 → (wp_X7_within (fun r3 => ((r3 = 0 → (Q (-1000000000000002 : Int64) )) ∧ (¬ r3 = 0 → (wp_X7_within (fun r5 => ((r5 = 0 → (Q (-1000000000000002 : Int64) )) ∧ (¬ r5 = 0 → (wp_X7_part (fun r7 => (Q r7 )) ((p1.toInt64 * (p2 - (10 : Int32)).toInt64) * (17 : Int64)) (10000 : Int64) p3)))) p3 (0 : Int32) (1 : Int32))))) p2 (-40 : Int32) (80 : Int32))))) p1 (0 : Int32) (8000 : Int32))
set_option maxHeartbeats 4000000 in
set_option maxRecDepth 100000 in
theorem c_X7_heat (l : Launch) (dC : Nat → ClassId) (dI : Nat → Nat → Nat) (cI cJ cZ : ClassId) (sz : Nat) (p1 : Int32) (p2 : Int32) (p3 : Int32) (Q : Int64 → Prop) (hw : wp_X7_heat Q  p1 p2 p3) : Met l yX7_heat wsX7_heat ({ frames := 2, cells := 0, slots := 0, locals := 52 } : Room) (va_Pc [.ref a7, .int p1, .int p2, .int p3] (fun U => U.heap.size = sz ∧ va_P (dC, dI) vwCl [] U.heap ∧ va_K (dC, dI) vwCl [(cI, .int), (cJ, .long), (cZ, .boolean)] U ∧ va_D (fun _ => True) [])) (va_Ql (fun r (u : Unit) => Q r) (fun (u : Unit) t => va_P (dC, dI) vwCl [] t.heap ∧ va_K (dC, dI) vwCl [(cI, .int), (cJ, .long), (cZ, .boolean)] t ∧ va_D (va_A [] sz) []) (va_A [] sz)) 0 0 (va_A [] sz) := by
  refine Met.ofW (cc := cX7_heat) (maxL := 4) (ret := (some .long)) (by decide) rfl ?_
  intro p e s m args below meth c s₁ B hml hv
  obtain ⟨rfl, hsz, hP, hK, hD0⟩ := hv
  have hx := B.exec
  have hb := B.bytes
  have hr := B.returns
  have hts := atoms_spec (ws := wsX7_heat) B.pre
  have hown : s.vm.findClass RX7 = some m.cls := findClass_of_methodNamed B.named
  have hlocks := B.notSynchronized
  subst hsz
  have hD := hD0.self (sz := s.heap.size)
  generalize hAe : va_A [] s.heap.size = A at hD ⊢
  have hA : ∀ q : Nat, s.heap.size ≤ q → A q := fun q h => by rw [← hAe]; exact Or.inr h
  have hS : va_S A s.heap s.heap [] := va_S.rf
  have hP : va_P (dC, dI) vwCl [] s.heap := hP
  have lk1 := hts (.constantLong RX7 145 (-1000000000000002)) (by decide +kernel)
  have lk2 := hts (.constantLong RX7 227 (17)) (by decide +kernel)
  have lk3 := hts (.constantLong RX7 229 (10000)) (by decide +kernel)
  have hl := lv_entry ([.ref a7, .int p1, .int p2, .int p3]) (n := 4) (Nat.le_of_ble_eq_true rfl)
  rw [lg_entry_eq]
  generalize (lg_sl ([.ref a7, .int p1, .int p2, .int p3]) ++ List.replicate (4 - (lg_sl ([.ref a7, .int p1, .int p2, .int p3])).length) Slot.unset).toArray = ls at hl ⊢
  have hl : lv_has ls 4 [(0, .ref a7), (1, .int p1), (2, .int p2), (3, .int p3)] := hl
  obtain ⟨H, hHe⟩ : ∃ H, H = s.heap := ⟨_, rfl⟩
  rw [← hHe] at hP
  have hS : va_S A s.heap H [] := by rw [hHe]; exact hS
  rw [← hHe]
  unfold wp_X7_heat at hw
  refine lv_iload_n hx hb dX7_heat_0 rfl (lv_at hl 1 rfl) ?_
  refine lv_iconst (v := (0 : Int32)) hx hb dX7_heat_1 (by decide) ?_
  refine lv_sipush (v := (8000 : Int32)) hx hb dX7_heat_2 (by decide) ?_
  have hPc := hP.sub (ws' := []) [] rfl
  have hDc := hD.sub (ws' := []) [] (by decide) rfl
  have hFc := va_free (wc := []) hD hS hA [] rfl
  refine va_calli (va_runS (As := [.int p1, .int (0 : Int32), .int (8000 : Int32)]) (rest := []) ⟨hx, hb, hml, hown, hts⟩ (c_X7_within l dC dI cI cJ cZ H.size p1 (0 : Int32) (8000 : Int32) _ hw) (va_cwS 3 hts gX7_heat_X7_within rfl rfl rfl (by decide +kernel) ⟨Nat.le_of_ble_eq_true rfl, Nat.le_of_ble_eq_true rfl⟩) ⟨fun a U g mk q => by obtain ⟨q0, q1, qP, qK, qD⟩ := q; exact ⟨q0, q1, qP, va_K.moved (u := U) (U := U.calling g mk a) (Vm.Alike.refl U.vm) qK, qD⟩, fun U hU hW => ⟨rfl, by rw [hU], by rw [hU]; exact hPc, va_K.moved hW.alike hK, hDc.weaken (fun _ _ _ _ => trivial)⟩⟩ rfl rfl hl.1 rfl (lv_room (Nat.le_of_ble_eq_true rfl)) dX7_heat_5 ⟨(Nat.zero_le _), (Nat.zero_le _)⟩) hS (fun q _ h => hFc q h) hFc (fun r1 u t H1 locs ht hvm hw hB hz1 hk1 hS => ?_)
  obtain ⟨hP1, -, hD1⟩ := hB
  try dsimp only at hw
  rw [ht] at hP1
  obtain ⟨hP, hD⟩ := va_join (wr := []) (w1 := []) hP hD [] [] rfl rfl (by decide) (by decide) hk1 hFc hP1 hD1
  generalize H1 = H at hP hS ⊢
  have hP : va_P (dC, dI) vwCl [] H := hP
  have hD : va_D A [] := hD
  refine lv_if_eq (tgt := 31) hx hb dX7_heat_8 (by decide) (fun c2 => ?_) (fun c2 => ?_)
  · replace hw := hw.1 (c2)
    refine lv_ldc2 (v := (-1000000000000002 : Int64)) hx hb hown lk1 dX7_heat_31 ?_
    have hP9 := hP.sub (ws' := []) [] rfl
    have hD9 := hD.sub (ws' := []) [] (by decide) rfl
    exact W.lret (v := (-1000000000000002 : Int64)) hx hb hr (fun t ht hW => ⟨⟨(-1000000000000002 : Int64), (), rfl, hw, by rw [ht]; exact hP9, va_K.moved hW.alike hK, hD9⟩, hS.F ht⟩) hS.2.2 dX7_heat_34
  · replace hw := hw.2 (c2)
    refine lv_iload_n hx hb dX7_heat_11 rfl (lv_at hl 2 rfl) ?_
    refine lv_bipush (v := (-40 : Int32)) hx hb dX7_heat_12 (by decide) ?_
    refine lv_bipush (v := (80 : Int32)) hx hb dX7_heat_14 (by decide) ?_
    have hPc := hP.sub (ws' := []) [] rfl
    have hDc := hD.sub (ws' := []) [] (by decide) rfl
    have hFc := va_free (wc := []) hD hS hA [] rfl
    refine va_calli (va_runS (As := [.int p2, .int (-40 : Int32), .int (80 : Int32)]) (rest := []) ⟨hx, hb, hml, hown, hts⟩ (c_X7_within l dC dI cI cJ cZ H.size p2 (-40 : Int32) (80 : Int32) _ hw) (va_cwS 3 hts gX7_heat_X7_within rfl rfl rfl (by decide +kernel) ⟨Nat.le_of_ble_eq_true rfl, Nat.le_of_ble_eq_true rfl⟩) ⟨fun a U g mk q => by obtain ⟨q0, q1, qP, qK, qD⟩ := q; exact ⟨q0, q1, qP, va_K.moved (u := U) (U := U.calling g mk a) (Vm.Alike.refl U.vm) qK, qD⟩, fun U hU hW => ⟨rfl, by rw [hU], by rw [hU]; exact hPc, va_K.moved hW.alike hK, hDc.weaken (fun _ _ _ _ => trivial)⟩⟩ rfl rfl hl.1 rfl (lv_room (Nat.le_of_ble_eq_true rfl)) dX7_heat_16 ⟨(Nat.zero_le _), (Nat.zero_le _)⟩) hS (fun q _ h => hFc q h) hFc (fun r3 u t H1 locs ht hvm hw hB hz1 hk1 hS => ?_)
    obtain ⟨hP1, -, hD1⟩ := hB
    try dsimp only at hw
    rw [ht] at hP1
    obtain ⟨hP, hD⟩ := va_join (wr := []) (w1 := []) hP hD [] [] rfl rfl (by decide) (by decide) hk1 hFc hP1 hD1
    generalize H1 = H at hP hS ⊢
    have hP : va_P (dC, dI) vwCl [] H := hP
    have hD : va_D A [] := hD
    refine lv_if_eq (tgt := 31) hx hb dX7_heat_19 (by decide) (fun c4 => ?_) (fun c4 => ?_)
    · replace hw := hw.1 (c4)
      refine lv_ldc2 (v := (-1000000000000002 : Int64)) hx hb hown lk1 dX7_heat_31 ?_
      have hP9 := hP.sub (ws' := []) [] rfl
      have hD9 := hD.sub (ws' := []) [] (by decide) rfl
      exact W.lret (v := (-1000000000000002 : Int64)) hx hb hr (fun t ht hW => ⟨⟨(-1000000000000002 : Int64), (), rfl, hw, by rw [ht]; exact hP9, va_K.moved hW.alike hK, hD9⟩, hS.F ht⟩) hS.2.2 dX7_heat_34
    · replace hw := hw.2 (c4)
      refine lv_iload_n hx hb dX7_heat_22 rfl (lv_at hl 3 rfl) ?_
      refine lv_iconst (v := (0 : Int32)) hx hb dX7_heat_23 (by decide) ?_
      refine lv_iconst (v := (1 : Int32)) hx hb dX7_heat_24 (by decide) ?_
      have hPc := hP.sub (ws' := []) [] rfl
      have hDc := hD.sub (ws' := []) [] (by decide) rfl
      have hFc := va_free (wc := []) hD hS hA [] rfl
      refine va_calli (va_runS (As := [.int p3, .int (0 : Int32), .int (1 : Int32)]) (rest := []) ⟨hx, hb, hml, hown, hts⟩ (c_X7_within l dC dI cI cJ cZ H.size p3 (0 : Int32) (1 : Int32) _ hw) (va_cwS 3 hts gX7_heat_X7_within rfl rfl rfl (by decide +kernel) ⟨Nat.le_of_ble_eq_true rfl, Nat.le_of_ble_eq_true rfl⟩) ⟨fun a U g mk q => by obtain ⟨q0, q1, qP, qK, qD⟩ := q; exact ⟨q0, q1, qP, va_K.moved (u := U) (U := U.calling g mk a) (Vm.Alike.refl U.vm) qK, qD⟩, fun U hU hW => ⟨rfl, by rw [hU], by rw [hU]; exact hPc, va_K.moved hW.alike hK, hDc.weaken (fun _ _ _ _ => trivial)⟩⟩ rfl rfl hl.1 rfl (lv_room (Nat.le_of_ble_eq_true rfl)) dX7_heat_25 ⟨(Nat.zero_le _), (Nat.zero_le _)⟩) hS (fun q _ h => hFc q h) hFc (fun r5 u t H1 locs ht hvm hw hB hz1 hk1 hS => ?_)
      obtain ⟨hP1, -, hD1⟩ := hB
      try dsimp only at hw
      rw [ht] at hP1
      obtain ⟨hP, hD⟩ := va_join (wr := []) (w1 := []) hP hD [] [] rfl rfl (by decide) (by decide) hk1 hFc hP1 hD1
      generalize H1 = H at hP hS ⊢
      have hP : va_P (dC, dI) vwCl [] H := hP
      have hD : va_D A [] := hD
      refine lv_if_ne (tgt := 35) hx hb dX7_heat_28 (by decide) (fun c6 => ?_) (fun c6 => ?_)
      · replace hw := hw.2 (c6)
        refine lv_iload_n hx hb dX7_heat_35 rfl (lv_at hl 1 rfl) ?_
        refine lv_i2l (v := p1.toInt64) hx hb dX7_heat_36 rfl ?_
        refine lv_iload_n hx hb dX7_heat_37 rfl (lv_at hl 2 rfl) ?_
        refine lv_bipush (v := (10 : Int32)) hx hb dX7_heat_38 (by decide) ?_
        refine lv_isub hx hb dX7_heat_40 ?_
        refine lv_i2l (v := (p2 - (10 : Int32)).toInt64) hx hb dX7_heat_41 rfl ?_
        refine lv_lmul hx hb dX7_heat_42 ?_
        refine lv_ldc2 (v := (17 : Int64)) hx hb hown lk2 dX7_heat_43 ?_
        refine lv_lmul hx hb dX7_heat_46 ?_
        refine lv_ldc2 (v := (10000 : Int64)) hx hb hown lk3 dX7_heat_47 ?_
        refine lv_iload_n hx hb dX7_heat_50 rfl (lv_at hl 3 rfl) ?_
        have hPc := hP.sub (ws' := []) [] rfl
        have hDc := hD.sub (ws' := []) [] (by decide) rfl
        have hFc := va_free (wc := []) hD hS hA [] rfl
        refine va_calll (va_runS (As := [.long ((p1.toInt64 * (p2 - (10 : Int32)).toInt64) * (17 : Int64)), .long (10000 : Int64), .int p3]) (rest := []) ⟨hx, hb, hml, hown, hts⟩ (c_X7_part l dC dI cI cJ cZ H.size ((p1.toInt64 * (p2 - (10 : Int32)).toInt64) * (17 : Int64)) (10000 : Int64) p3 _ hw) (va_cwS 3 hts gX7_heat_X7_part rfl rfl rfl (by decide +kernel) ⟨Nat.le_of_ble_eq_true rfl, Nat.le_of_ble_eq_true rfl⟩) ⟨fun a U g mk q => by obtain ⟨q0, q1, qP, qK, qD⟩ := q; exact ⟨q0, q1, qP, va_K.moved (u := U) (U := U.calling g mk a) (Vm.Alike.refl U.vm) qK, qD⟩, fun U hU hW => ⟨rfl, by rw [hU], by rw [hU]; exact hPc, va_K.moved hW.alike hK, hDc.weaken (fun _ _ _ _ => trivial)⟩⟩ rfl rfl hl.1 rfl (lv_room (Nat.le_of_ble_eq_true rfl)) dX7_heat_51 ⟨(Nat.zero_le _), (Nat.zero_le _)⟩) hS (fun q _ h => hFc q h) hFc (fun r7 u t H1 locs ht hvm hw hB hz1 hk1 hS => ?_)
        obtain ⟨hP1, -, hD1⟩ := hB
        try dsimp only at hw
        rw [ht] at hP1
        obtain ⟨hP, hD⟩ := va_join (wr := []) (w1 := []) hP hD [] [] rfl rfl (by decide) (by decide) hk1 hFc hP1 hD1
        generalize H1 = H at hP hS ⊢
        have hP : va_P (dC, dI) vwCl [] H := hP
        have hD : va_D A [] := hD
        have hP9 := hP.sub (ws' := []) [] rfl
        have hD9 := hD.sub (ws' := []) [] (by decide) rfl
        exact W.lret (v := r7) hx hb hr (fun t ht hW => ⟨⟨r7, (), rfl, hw, by rw [ht]; exact hP9, va_K.moved hW.alike hK, hD9⟩, hS.F ht⟩) hS.2.2 dX7_heat_54
      · replace hw := hw.1 (c6)
        refine lv_ldc2 (v := (-1000000000000002 : Int64)) hx hb hown lk1 dX7_heat_31 ?_
        have hP9 := hP.sub (ws' := []) [] rfl
        have hD9 := hD.sub (ws' := []) [] (by decide) rfl
        exact W.lret (v := (-1000000000000002 : Int64)) hx hb hr (fun t ht hW => ⟨⟨(-1000000000000002 : Int64), (), rfl, hw, by rw [ht]; exact hP9, va_K.moved hW.alike hK, hD9⟩, hS.F ht⟩) hS.2.2 dX7_heat_34

theorem inX2_raise_X2 : ∀ w ∈ wsX20, w ∈ wsX2_raise := fun _ h => List.mem_cons_of_mem _ (List.mem_append_right _ h)
def wp_X2_raise (Q : (Nat → Int32) → (Nat → Int32) → Prop) (f2_side : Nat → Int32) (f2_stands : Nat → Int32) (p1 : Int32) (p2 : Int32) : Prop :=
  (vp_in p1 40 ∧ (∀ g2 : Nat → Int32, g2 = upd f2_stands p1.toNatClampNeg (vp_nar .boolean (1 : Int32)) → (vp_in p1 40 ∧ (∀ g4 : Nat → Int32, g4 = upd f2_side p1.toNatClampNeg p2 → (Q g4 g2)))))
set_option maxHeartbeats 4000000 in
set_option maxRecDepth 100000 in
theorem c_X2_raise (l : Launch) (dC : Nat → ClassId) (dI : Nat → Nat → Nat) (cI cJ cZ : ClassId) (a2 : Nat) (a2_place : Nat) (a2_price : Nat) (a2_trackAside : Nat) (a2_side : Nat) (a2_stands : Nat) (a2_mastPeg : Nat) (sz : Nat) (v2_count : Int32) (v2_masts : Int32) (f2_side : Nat → Int32) (f2_stands : Nat → Int32) (p1 : Int32) (p2 : Int32) (Q : (Nat → Int32) → (Nat → Int32) → Prop) (hw : wp_X2_raise Q f2_side f2_stands p1 p2) : Met l yX2_raise wsX2_raise ({ frames := 0, cells := 0, slots := 0, locals := 0 } : Room) (va_Pc [.ref a2, .int p1, .int p2] (fun U => U.heap.size = sz ∧ va_P (dC, dI) vwCl [(a2, .inr (2, [.int v2_count, .int v2_masts, .ref a2_place, .ref a2_price, .ref a2_trackAside, .ref a2_side, .ref a2_stands, .ref a2_mastPeg])), (a2_side, .inl (cI, 40, .inl f2_side)), (a2_stands, .inl (cZ, 40, .inl f2_stands))] U.heap ∧ va_K (dC, dI) vwCl [(cI, .int), (cJ, .long), (cZ, .boolean)] U ∧ va_D (fun _ => True) [(a2, .inr (2, [.int v2_count, .int v2_masts, .ref a2_place, .ref a2_price, .ref a2_trackAside, .ref a2_side, .ref a2_stands, .ref a2_mastPeg])), (a2_side, .inl (cI, 40, .inl f2_side)), (a2_stands, .inl (cZ, 40, .inl f2_stands))])) (va_Qv (fun (u : (Nat → Int32) × (Nat → Int32)) => Q u.1 u.2) (fun (u : (Nat → Int32) × (Nat → Int32)) t => va_P (dC, dI) vwCl [(a2, .inr (2, [.int v2_count, .int v2_masts, .ref a2_place, .ref a2_price, .ref a2_trackAside, .ref a2_side, .ref a2_stands, .ref a2_mastPeg])), (a2_side, .inl (cI, 40, .inl u.1)), (a2_stands, .inl (cZ, 40, .inl u.2))] t.heap ∧ va_K (dC, dI) vwCl [(cI, .int), (cJ, .long), (cZ, .boolean)] t ∧ va_D (va_A [(a2, .inr (2, [.int v2_count, .int v2_masts, .ref a2_place, .ref a2_price, .ref a2_trackAside, .ref a2_side, .ref a2_stands, .ref a2_mastPeg])), (a2_side, .inl (cI, 40, .inl f2_side)), (a2_stands, .inl (cZ, 40, .inl f2_stands))] sz) [(a2, .inr (2, [.int v2_count, .int v2_masts, .ref a2_place, .ref a2_price, .ref a2_trackAside, .ref a2_side, .ref a2_stands, .ref a2_mastPeg])), (a2_side, .inl (cI, 40, .inl u.1)), (a2_stands, .inl (cZ, 40, .inl u.2))]) (va_A [(a2, .inr (2, [.int v2_count, .int v2_masts, .ref a2_place, .ref a2_price, .ref a2_trackAside, .ref a2_side, .ref a2_stands, .ref a2_mastPeg])), (a2_side, .inl (cI, 40, .inl f2_side)), (a2_stands, .inl (cZ, 40, .inl f2_stands))] sz)) 0 0 (va_A [(a2, .inr (2, [.int v2_count, .int v2_masts, .ref a2_place, .ref a2_price, .ref a2_trackAside, .ref a2_side, .ref a2_stands, .ref a2_mastPeg])), (a2_side, .inl (cI, 40, .inl f2_side)), (a2_stands, .inl (cZ, 40, .inl f2_stands))] sz) := by
  refine Met.ofW (cc := cX2_raise) (maxL := 3) (ret := none) (by decide) rfl ?_
  intro p e s m args below meth c s₁ B hml hv
  obtain ⟨rfl, hsz, hP, hK, hD0⟩ := hv
  have hx := B.exec
  have hb := B.bytes
  have hr := B.returns
  have hts := atoms_spec (ws := wsX2_raise) B.pre
  have hown : s.vm.findClass RX2 = some m.cls := findClass_of_methodNamed B.named
  have hlocks := B.notSynchronized
  subst hsz
  have hD := hD0.self (sz := s.heap.size)
  generalize hAe : va_A [(a2, .inr (2, [.int v2_count, .int v2_masts, .ref a2_place, .ref a2_price, .ref a2_trackAside, .ref a2_side, .ref a2_stands, .ref a2_mastPeg])), (a2_side, .inl (cI, 40, .inl f2_side)), (a2_stands, .inl (cZ, 40, .inl f2_stands))] s.heap.size = A at hD ⊢
  have hA : ∀ q : Nat, s.heap.size ≤ q → A q := fun q h => by rw [← hAe]; exact Or.inr h
  have hS : va_S A s.heap s.heap [] := va_S.rf
  have hP : va_P (dC, dI) vwCl [(a2, .inr (2, [.int v2_count, .int v2_masts, .ref a2_place, .ref a2_price, .ref a2_trackAside, .ref a2_side, .ref a2_stands, .ref a2_mastPeg])), (a2_side, .inl (cI, 40, .inl f2_side)), (a2_stands, .inl (cZ, 40, .inl f2_stands))] s.heap := hP
  have lk1 := hts (.fieldLink RX2 25 "WireRow$PegRow" "stands" "[Z") (by decide +kernel)
  have lk2 := hts (.fieldLink RX2 22 "WireRow$PegRow" "side" "[I") (by decide +kernel)
  have hl := lv_entry ([.ref a2, .int p1, .int p2]) (n := 3) (Nat.le_of_ble_eq_true rfl)
  rw [lg_entry_eq]
  generalize (lg_sl ([.ref a2, .int p1, .int p2]) ++ List.replicate (3 - (lg_sl ([.ref a2, .int p1, .int p2])).length) Slot.unset).toArray = ls at hl ⊢
  have hl : lv_has ls 3 [(0, .ref a2), (1, .int p1), (2, .int p2)] := hl
  obtain ⟨H, hHe⟩ : ∃ H, H = s.heap := ⟨_, rfl⟩
  rw [← hHe] at hP
  have hS : va_S A s.heap H [] := by rw [hHe]; exact hS
  rw [← hHe]
  unfold wp_X2_raise at hw
  refine lv_aload_n hx hb dX2_raise_0 rfl (lv_at hl 0 rfl) ?_
  refine va_get (D := (dC, dI)) (ci := 2) (v := .ref a2_stands) (C := RX2) (T := TX2) (N := 8) hx hb hts inX2_raise_X2 hown hK hP 0 rfl rfl 6 (by decide) lk1 (fun _ h9 => h9) rfl dX2_raise_1 ?_
  refine lv_iload_n hx hb dX2_raise_4 rfl (lv_at hl 1 rfl) ?_
  refine lv_iconst (v := (1 : Int32)) hx hb dX2_raise_5 (by decide) ?_
  obtain ⟨h1, hw⟩ := hw
  refine va_zast hx hb hK hP hD hS 2 2 rfl rfl h1 dX2_raise_6 (fun H locs hP hD hS => ?_)
  obtain ⟨g2, eg2⟩ : ∃ y : Nat → Int32, y = upd f2_stands p1.toNatClampNeg (vp_nar .boolean (1 : Int32)) := ⟨_, rfl⟩
  replace hw := hw g2 eg2
  have hP : va_P (dC, dI) vwCl [(a2, .inr (2, [.int v2_count, .int v2_masts, .ref a2_place, .ref a2_price, .ref a2_trackAside, .ref a2_side, .ref a2_stands, .ref a2_mastPeg])), (a2_side, .inl (cI, 40, .inl f2_side)), (a2_stands, .inl (cZ, 40, .inl g2))] H := by rw [eg2]; exact hP
  have hD : va_D A [(a2, .inr (2, [.int v2_count, .int v2_masts, .ref a2_place, .ref a2_price, .ref a2_trackAside, .ref a2_side, .ref a2_stands, .ref a2_mastPeg])), (a2_side, .inl (cI, 40, .inl f2_side)), (a2_stands, .inl (cZ, 40, .inl g2))] := by rw [eg2]; exact hD
  refine lv_aload_n hx hb dX2_raise_7 rfl (lv_at hl 0 rfl) ?_
  refine va_get (D := (dC, dI)) (ci := 2) (v := .ref a2_side) (C := RX2) (T := TX2) (N := 8) hx hb hts inX2_raise_X2 hown hK hP 0 rfl rfl 5 (by decide) lk2 (fun _ h9 => h9) rfl dX2_raise_8 ?_
  refine lv_iload_n hx hb dX2_raise_11 rfl (lv_at hl 1 rfl) ?_
  refine lv_iload_n hx hb dX2_raise_12 rfl (lv_at hl 2 rfl) ?_
  obtain ⟨h3, hw⟩ := hw
  refine va_iast hx hb hK hP hD hS 1 0 rfl rfl h3 dX2_raise_13 (fun H locs hP hD hS => ?_)
  obtain ⟨g4, eg4⟩ : ∃ y : Nat → Int32, y = upd f2_side p1.toNatClampNeg p2 := ⟨_, rfl⟩
  replace hw := hw g4 eg4
  have hP : va_P (dC, dI) vwCl [(a2, .inr (2, [.int v2_count, .int v2_masts, .ref a2_place, .ref a2_price, .ref a2_trackAside, .ref a2_side, .ref a2_stands, .ref a2_mastPeg])), (a2_side, .inl (cI, 40, .inl g4)), (a2_stands, .inl (cZ, 40, .inl g2))] H := by rw [eg4]; exact hP
  have hD : va_D A [(a2, .inr (2, [.int v2_count, .int v2_masts, .ref a2_place, .ref a2_price, .ref a2_trackAside, .ref a2_side, .ref a2_stands, .ref a2_mastPeg])), (a2_side, .inl (cI, 40, .inl g4)), (a2_stands, .inl (cZ, 40, .inl g2))] := by rw [eg4]; exact hD
  have hP9 := hP.sub (ws' := [(a2, .inr (2, [.int v2_count, .int v2_masts, .ref a2_place, .ref a2_price, .ref a2_trackAside, .ref a2_side, .ref a2_stands, .ref a2_mastPeg])), (a2_side, .inl (cI, 40, .inl g4)), (a2_stands, .inl (cZ, 40, .inl g2))]) [0, 1, 2] rfl
  have hD9 := hD.sub (ws' := [(a2, .inr (2, [.int v2_count, .int v2_masts, .ref a2_place, .ref a2_price, .ref a2_trackAside, .ref a2_side, .ref a2_stands, .ref a2_mastPeg])), (a2_side, .inl (cI, 40, .inl g4)), (a2_stands, .inl (cZ, 40, .inl g2))]) [0, 1, 2] (by decide) rfl
  exact W.vret hx hb hr (fun t ht hW => ⟨⟨(g4, g2), rfl, hw, by rw [ht]; exact hP9, va_K.moved hW.alike hK, hD9⟩, hS.F ht⟩) hS.2.2 dX2_raise_14

