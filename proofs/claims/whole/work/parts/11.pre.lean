theorem wg_bool {v : Int32} (h : v = 0 ∨ v = 1) : narrow .boolean (.int v) = .int v := by
  rcases h with rfl | rfl <;> rfl
theorem wg_cls {D : va_G} {cl : List vw_C} {tys : List (ClassId × FieldType)} {s : State} {cA cB : ClassId} (h : va_K D cl tys s) (i j : Nat) (hi : tys[i]? = some (cA, .int)) (hj : tys[j]? = some (cB, .int)) : cA = cB := by
  have h1 : s.vm.findClass ("[" ++ FieldType.int.toString) = some cA := (h.2 i _ hi).2
  have h2 : s.vm.findClass ("[" ++ FieldType.int.toString) = some cB := (h.2 j _ hj).2
  rw [h1] at h2
  exact Option.some.inj h2
theorem wg_clsL {D : va_G} {cl : List vw_C} {tys : List (ClassId × FieldType)} {s : State} {cA cB : ClassId} (h : va_K D cl tys s) (i j : Nat) (hi : tys[i]? = some (cA, .long)) (hj : tys[j]? = some (cB, .long)) : cA = cB := by
  have h1 : s.vm.findClass ("[" ++ FieldType.long.toString) = some cA := (h.2 i _ hi).2
  have h2 : s.vm.findClass ("[" ++ FieldType.long.toString) = some cB := (h.2 j _ hj).2
  rw [h1] at h2
  exact Option.some.inj h2
theorem wg_clsZ {D : va_G} {cl : List vw_C} {tys : List (ClassId × FieldType)} {s : State} {cA cB : ClassId} (h : va_K D cl tys s) (i j : Nat) (hi : tys[i]? = some (cA, .boolean)) (hj : tys[j]? = some (cB, .boolean)) : cA = cB := by
  have h1 : s.vm.findClass ("[" ++ FieldType.boolean.toString) = some cA := (h.2 i _ hi).2
  have h2 : s.vm.findClass ("[" ++ FieldType.boolean.toString) = some cB := (h.2 j _ hj).2
  rw [h1] at h2
  exact Option.some.inj h2
