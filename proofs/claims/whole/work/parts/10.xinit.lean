theorem na_zero_I {cA : ClassId} {N : Nat} : vp_cell cA (N, .inl (fun _ => 0)) = arrV cA N (fun _ => defaultValue .int) := by
  rw [vp_cell_i]
  rfl
theorem na_zero_Z {cA : ClassId} {N : Nat} : vp_cell cA (N, .inl (fun _ => 0)) = arrV cA N (fun _ => defaultValue .boolean) := by
  rw [vp_cell_i]
  rfl
set_option maxHeartbeats 4000000 in
set_option maxRecDepth 100000 in
/-- BranchLengths() -/
theorem c_xinit (l : Launch) (dC : Nat → ClassId) (dI : Nat → Nat → Nat) (h0 sz : Nat) : Met l yX0_init wsX0_init ({ frames := 1, cells := 4, slots := 8000, locals := 12 }) (va_Pc [.ref h0] (na_Pre (dC, dI) vwCl sz [(h0, .inr (0, [.null, .null, .null, .null, .int 0, .int 0, .int 0, .int 0, .int 0, .int 0]))] [])) (va_Qv (fun (_ : Unit) => True) (fun _ t => ∃ (a1 a2 a3 a4 : Nat) (cA : ClassId), na_End (dC, dI) vwCl (va_A [(h0, .inr (0, [.null, .null, .null, .null, .int 0, .int 0, .int 0, .int 0, .int 0, .int 0]))] sz) [(h0, .inr (0, [.ref a1, .ref a2, .ref a3, .ref a4, .int (nI 0), .int (nI 0), .int 0, .int (nI 1000), .int (-1), .int 0])), (a1, .inl (cA, 2000, .inl (fun _ => 0))), (a2, .inl (cA, 2000, .inl (fun _ => 0))), (a3, .inl (cA, 2000, .inl (fun _ => 0))), (a4, .inl (cA, 2000, .inl (fun _ => 0)))] [(cA, .int)] t) (va_A [(h0, .inr (0, [.null, .null, .null, .null, .int 0, .int 0, .int 0, .int 0, .int 0, .int 0]))] sz)) 4 8000 (va_A [(h0, .inr (0, [.null, .null, .null, .null, .int 0, .int 0, .int 0, .int 0, .int 0, .int 0]))] sz) := by
  refine Met.ofW (cc := cX0_init) (maxL := 1) (ret := none) (by decide) rfl ?_
  intro p e s m args below meth c s₁ B hml hv
  obtain ⟨rfl, hsz, hP, hK, hD0⟩ := hv
  have hx := B.exec
  have hb := B.bytes
  have hr := B.returns
  have hts := atoms_spec (ws := wsX0_init) B.pre
  have hown : s.vm.findClass RX0 = some m.cls := findClass_of_methodNamed B.named
  have hlocks := B.notSynchronized
  have hin : meth.name = "<init>" := (name_of_methodNamed B.named B.method).1
  subst hsz
  have hD := hD0.self (sz := s.heap.size)
  generalize hAe : va_A [(h0, .inr (0, [.null, .null, .null, .null, .int 0, .int 0, .int 0, .int 0, .int 0, .int 0]))] s.heap.size = A at hD ⊢
  have hA : ∀ q : Nat, s.heap.size ≤ q → A q := fun q h => by rw [← hAe]; exact Or.inr h
  have hS : va_S A s.heap s.heap [] := va_S.rf
  have hP : va_P (dC, dI) vwCl [(h0, .inr (0, [.null, .null, .null, .null, .int 0, .int 0, .int 0, .int 0, .int 0, .int 0]))] s.heap := hP
  have hl := lv_entry ([.ref h0]) (n := 1) (Nat.le_of_ble_eq_true rfl)
  rw [lg_entry_eq]
  generalize (lg_sl ([.ref h0]) ++ List.replicate (1 - (lg_sl ([.ref h0])).length) Slot.unset).toArray = ls at hl ⊢
  have hl : lv_has ls 1 [(0, .ref h0)] := hl
  refine lv_aload_n hx hb dX0_init_0 rfl (lv_at hl 0 rfl) ?_
  refine W.objInit hx hb hown (hts (.methodLink RX0 1 objectInit) (by decide +kernel)) (hts (.instanceMethod objectInit) (by decide +kernel)) (hts _ (List.mem_cons_of_mem _ (List.mem_append_left _ (List.mem_of_getElem? (i := 2) rfl)))) rfl (by rw [hml]; exact hl.1) rfl dX0_init_1 (Nat.le_of_ble_eq_true rfl) (Nat.le_of_ble_eq_true rfl) ?_
  refine W.eq (g2 := F0 m 4 ls []) rfl ?_
  refine lv_aload_n hx hb dX0_init_4 rfl (lv_at hl 0 rfl) ?_
  refine lv_sipush (v := 2000) hx hb dX0_init_5 (by decide) ?_
  refine va_newa (atype := .int) (n := 2000) (ty := .int) (N' := 2000) (a0 := (2000, .inl (fun _ => 0))) hx hb (hts (.arrayClass .int) (by decide +kernel)) rfl hK hP hD hS hA (fun _ => na_zero_I) (by decide) (by decide) (by decide) (show 0 + 1 ≤ 4 by omega) (show 0 + 2000 ≤ 8000 by omega) dX0_init_8 (fun a1 c_a1 H hK hP hD hS => ?_)
  have hP : va_P (dC, dI) vwCl [(h0, .inr (0, [.null, .null, .null, .null, .int 0, .int 0, .int 0, .int 0, .int 0, .int 0])), (a1, .inl (c_a1, 2000, .inl (fun _ => 0)))] H := hP
  have hD : va_D A [(h0, .inr (0, [.null, .null, .null, .null, .int 0, .int 0, .int 0, .int 0, .int 0, .int 0])), (a1, .inl (c_a1, 2000, .inl (fun _ => 0)))] := hD
  have hK : va_K (dC, dI) vwCl [(c_a1, .int)] s := hK
  refine W.widen (k := 1) (n := 2000) (by omega) (by omega) ?_
  refine va_putF (D := (dC, dI)) (ci := 0) (v := .ref a1) (ty := .array .int) (C := RX0) (T := TX0) (N := 10) hx hb hts in_X0_init tyX0 tyX0_ok nmX0 hown hK hP hD hS 0 rfl rfl 0 (by decide) (hts (.fieldLink RX0 9 "BranchLengths" "words" "[I") (by decide +kernel)) (fun _ h9 => h9) rfl hin rfl (by decide +kernel) rfl rfl (Nat.le_of_ble_eq_true rfl) dX0_init_10 (fun H locs hP hD hS => ?_)
  have hP : va_P (dC, dI) vwCl [(h0, .inr (0, [.ref a1, .null, .null, .null, .int 0, .int 0, .int 0, .int 0, .int 0, .int 0])), (a1, .inl (c_a1, 2000, .inl (fun _ => 0)))] H := hP
  have hD : va_D A [(h0, .inr (0, [.ref a1, .null, .null, .null, .int 0, .int 0, .int 0, .int 0, .int 0, .int 0])), (a1, .inl (c_a1, 2000, .inl (fun _ => 0)))] := hD
  refine lv_aload_n hx hb dX0_init_13 rfl (lv_at hl 0 rfl) ?_
  refine lv_sipush (v := 2000) hx hb dX0_init_14 (by decide) ?_
  refine va_newa (atype := .int) (n := 2000) (ty := .int) (N' := 2000) (a0 := (2000, .inl (fun _ => 0))) hx hb (hts (.arrayClass .int) (by decide +kernel)) rfl hK hP hD hS hA (fun _ => na_zero_I) (by decide) (by decide) (by decide) (show 1 + 1 ≤ 4 by omega) (show 2000 + 2000 ≤ 8000 by omega) dX0_init_17 (fun a2 c_a2 H hK hP hD hS => ?_)
  have hP : va_P (dC, dI) vwCl [(h0, .inr (0, [.ref a1, .null, .null, .null, .int 0, .int 0, .int 0, .int 0, .int 0, .int 0])), (a1, .inl (c_a1, 2000, .inl (fun _ => 0))), (a2, .inl (c_a2, 2000, .inl (fun _ => 0)))] H := hP
  have hD : va_D A [(h0, .inr (0, [.ref a1, .null, .null, .null, .int 0, .int 0, .int 0, .int 0, .int 0, .int 0])), (a1, .inl (c_a1, 2000, .inl (fun _ => 0))), (a2, .inl (c_a2, 2000, .inl (fun _ => 0)))] := hD
  have hK : va_K (dC, dI) vwCl [(c_a1, .int), (c_a2, .int)] s := hK
  refine W.widen (k := 2) (n := 4000) (by omega) (by omega) ?_
  refine va_putF (D := (dC, dI)) (ci := 0) (v := .ref a2) (ty := .array .int) (C := RX0) (T := TX0) (N := 10) hx hb hts in_X0_init tyX0 tyX0_ok nmX0 hown hK hP hD hS 0 rfl rfl 1 (by decide) (hts (.fieldLink RX0 13 "BranchLengths" "targets" "[I") (by decide +kernel)) (fun _ h9 => h9) rfl hin rfl (by decide +kernel) rfl rfl (Nat.le_of_ble_eq_true rfl) dX0_init_19 (fun H locs hP hD hS => ?_)
  have hP : va_P (dC, dI) vwCl [(h0, .inr (0, [.ref a1, .ref a2, .null, .null, .int 0, .int 0, .int 0, .int 0, .int 0, .int 0])), (a1, .inl (c_a1, 2000, .inl (fun _ => 0))), (a2, .inl (c_a2, 2000, .inl (fun _ => 0)))] H := hP
  have hD : va_D A [(h0, .inr (0, [.ref a1, .ref a2, .null, .null, .int 0, .int 0, .int 0, .int 0, .int 0, .int 0])), (a1, .inl (c_a1, 2000, .inl (fun _ => 0))), (a2, .inl (c_a2, 2000, .inl (fun _ => 0)))] := hD
  refine lv_aload_n hx hb dX0_init_22 rfl (lv_at hl 0 rfl) ?_
  refine lv_sipush (v := 2000) hx hb dX0_init_23 (by decide) ?_
  refine va_newa (atype := .int) (n := 2000) (ty := .int) (N' := 2000) (a0 := (2000, .inl (fun _ => 0))) hx hb (hts (.arrayClass .int) (by decide +kernel)) rfl hK hP hD hS hA (fun _ => na_zero_I) (by decide) (by decide) (by decide) (show 2 + 1 ≤ 4 by omega) (show 4000 + 2000 ≤ 8000 by omega) dX0_init_26 (fun a3 c_a3 H hK hP hD hS => ?_)
  have hP : va_P (dC, dI) vwCl [(h0, .inr (0, [.ref a1, .ref a2, .null, .null, .int 0, .int 0, .int 0, .int 0, .int 0, .int 0])), (a1, .inl (c_a1, 2000, .inl (fun _ => 0))), (a2, .inl (c_a2, 2000, .inl (fun _ => 0))), (a3, .inl (c_a3, 2000, .inl (fun _ => 0)))] H := hP
  have hD : va_D A [(h0, .inr (0, [.ref a1, .ref a2, .null, .null, .int 0, .int 0, .int 0, .int 0, .int 0, .int 0])), (a1, .inl (c_a1, 2000, .inl (fun _ => 0))), (a2, .inl (c_a2, 2000, .inl (fun _ => 0))), (a3, .inl (c_a3, 2000, .inl (fun _ => 0)))] := hD
  have hK : va_K (dC, dI) vwCl [(c_a1, .int), (c_a2, .int), (c_a3, .int)] s := hK
  refine W.widen (k := 3) (n := 6000) (by omega) (by omega) ?_
  refine va_putF (D := (dC, dI)) (ci := 0) (v := .ref a3) (ty := .array .int) (C := RX0) (T := TX0) (N := 10) hx hb hts in_X0_init tyX0 tyX0_ok nmX0 hown hK hP hD hS 0 rfl rfl 2 (by decide) (hts (.fieldLink RX0 16 "BranchLengths" "places" "[I") (by decide +kernel)) (fun _ h9 => h9) rfl hin rfl (by decide +kernel) rfl rfl (Nat.le_of_ble_eq_true rfl) dX0_init_28 (fun H locs hP hD hS => ?_)
  have hP : va_P (dC, dI) vwCl [(h0, .inr (0, [.ref a1, .ref a2, .ref a3, .null, .int 0, .int 0, .int 0, .int 0, .int 0, .int 0])), (a1, .inl (c_a1, 2000, .inl (fun _ => 0))), (a2, .inl (c_a2, 2000, .inl (fun _ => 0))), (a3, .inl (c_a3, 2000, .inl (fun _ => 0)))] H := hP
  have hD : va_D A [(h0, .inr (0, [.ref a1, .ref a2, .ref a3, .null, .int 0, .int 0, .int 0, .int 0, .int 0, .int 0])), (a1, .inl (c_a1, 2000, .inl (fun _ => 0))), (a2, .inl (c_a2, 2000, .inl (fun _ => 0))), (a3, .inl (c_a3, 2000, .inl (fun _ => 0)))] := hD
  refine lv_aload_n hx hb dX0_init_31 rfl (lv_at hl 0 rfl) ?_
  refine lv_sipush (v := 2000) hx hb dX0_init_32 (by decide) ?_
  refine va_newa (atype := .int) (n := 2000) (ty := .int) (N' := 2000) (a0 := (2000, .inl (fun _ => 0))) hx hb (hts (.arrayClass .int) (by decide +kernel)) rfl hK hP hD hS hA (fun _ => na_zero_I) (by decide) (by decide) (by decide) (show 3 + 1 ≤ 4 by omega) (show 6000 + 2000 ≤ 8000 by omega) dX0_init_35 (fun a4 c_a4 H hK hP hD hS => ?_)
  have hP : va_P (dC, dI) vwCl [(h0, .inr (0, [.ref a1, .ref a2, .ref a3, .null, .int 0, .int 0, .int 0, .int 0, .int 0, .int 0])), (a1, .inl (c_a1, 2000, .inl (fun _ => 0))), (a2, .inl (c_a2, 2000, .inl (fun _ => 0))), (a3, .inl (c_a3, 2000, .inl (fun _ => 0))), (a4, .inl (c_a4, 2000, .inl (fun _ => 0)))] H := hP
  have hD : va_D A [(h0, .inr (0, [.ref a1, .ref a2, .ref a3, .null, .int 0, .int 0, .int 0, .int 0, .int 0, .int 0])), (a1, .inl (c_a1, 2000, .inl (fun _ => 0))), (a2, .inl (c_a2, 2000, .inl (fun _ => 0))), (a3, .inl (c_a3, 2000, .inl (fun _ => 0))), (a4, .inl (c_a4, 2000, .inl (fun _ => 0)))] := hD
  have hK : va_K (dC, dI) vwCl [(c_a1, .int), (c_a2, .int), (c_a3, .int), (c_a4, .int)] s := hK
  refine W.widen (k := 4) (n := 8000) (by omega) (by omega) ?_
  refine va_putF (D := (dC, dI)) (ci := 0) (v := .ref a4) (ty := .array .int) (C := RX0) (T := TX0) (N := 10) hx hb hts in_X0_init tyX0 tyX0_ok nmX0 hown hK hP hD hS 0 rfl rfl 3 (by decide) (hts (.fieldLink RX0 19 "BranchLengths" "markItems" "[I") (by decide +kernel)) (fun _ h9 => h9) rfl hin rfl (by decide +kernel) rfl rfl (Nat.le_of_ble_eq_true rfl) dX0_init_37 (fun H locs hP hD hS => ?_)
  have hP : va_P (dC, dI) vwCl [(h0, .inr (0, [.ref a1, .ref a2, .ref a3, .ref a4, .int 0, .int 0, .int 0, .int 0, .int 0, .int 0])), (a1, .inl (c_a1, 2000, .inl (fun _ => 0))), (a2, .inl (c_a2, 2000, .inl (fun _ => 0))), (a3, .inl (c_a3, 2000, .inl (fun _ => 0))), (a4, .inl (c_a4, 2000, .inl (fun _ => 0)))] H := hP
  have hD : va_D A [(h0, .inr (0, [.ref a1, .ref a2, .ref a3, .ref a4, .int 0, .int 0, .int 0, .int 0, .int 0, .int 0])), (a1, .inl (c_a1, 2000, .inl (fun _ => 0))), (a2, .inl (c_a2, 2000, .inl (fun _ => 0))), (a3, .inl (c_a3, 2000, .inl (fun _ => 0))), (a4, .inl (c_a4, 2000, .inl (fun _ => 0)))] := hD
  refine lv_aload_n hx hb dX0_init_40 rfl (lv_at hl 0 rfl) ?_
  refine lv_iconst (v := nI 0) hx hb dX0_init_41 rfl ?_
  refine va_put (D := (dC, dI)) (ci := 0) (v := .int (nI 0)) (ty := .int) (C := RX0) (T := TX0) (N := 10) hx hb hts in_X0_init tyX0 tyX0_ok nmX0 hown hK hP hD hS 0 rfl rfl 4 (by decide) (hts (.fieldLink RX0 22 "BranchLengths" "itemCount" "I") (by decide +kernel)) (fun _ h9 => h9) rfl (by decide +kernel) rfl rfl (Nat.le_of_ble_eq_true rfl) dX0_init_42 (fun H locs hP hD hS => ?_)
  have hP : va_P (dC, dI) vwCl [(h0, .inr (0, [.ref a1, .ref a2, .ref a3, .ref a4, .int (nI 0), .int 0, .int 0, .int 0, .int 0, .int 0])), (a1, .inl (c_a1, 2000, .inl (fun _ => 0))), (a2, .inl (c_a2, 2000, .inl (fun _ => 0))), (a3, .inl (c_a3, 2000, .inl (fun _ => 0))), (a4, .inl (c_a4, 2000, .inl (fun _ => 0)))] H := hP
  have hD : va_D A [(h0, .inr (0, [.ref a1, .ref a2, .ref a3, .ref a4, .int (nI 0), .int 0, .int 0, .int 0, .int 0, .int 0])), (a1, .inl (c_a1, 2000, .inl (fun _ => 0))), (a2, .inl (c_a2, 2000, .inl (fun _ => 0))), (a3, .inl (c_a3, 2000, .inl (fun _ => 0))), (a4, .inl (c_a4, 2000, .inl (fun _ => 0)))] := hD
  refine lv_aload_n hx hb dX0_init_45 rfl (lv_at hl 0 rfl) ?_
  refine lv_iconst (v := nI 0) hx hb dX0_init_46 rfl ?_
  refine va_put (D := (dC, dI)) (ci := 0) (v := .int (nI 0)) (ty := .int) (C := RX0) (T := TX0) (N := 10) hx hb hts in_X0_init tyX0 tyX0_ok nmX0 hown hK hP hD hS 0 rfl rfl 5 (by decide) (hts (.fieldLink RX0 26 "BranchLengths" "markCount" "I") (by decide +kernel)) (fun _ h9 => h9) rfl (by decide +kernel) rfl rfl (Nat.le_of_ble_eq_true rfl) dX0_init_47 (fun H locs hP hD hS => ?_)
  have hP : va_P (dC, dI) vwCl [(h0, .inr (0, [.ref a1, .ref a2, .ref a3, .ref a4, .int (nI 0), .int (nI 0), .int 0, .int 0, .int 0, .int 0])), (a1, .inl (c_a1, 2000, .inl (fun _ => 0))), (a2, .inl (c_a2, 2000, .inl (fun _ => 0))), (a3, .inl (c_a3, 2000, .inl (fun _ => 0))), (a4, .inl (c_a4, 2000, .inl (fun _ => 0)))] H := hP
  have hD : va_D A [(h0, .inr (0, [.ref a1, .ref a2, .ref a3, .ref a4, .int (nI 0), .int (nI 0), .int 0, .int 0, .int 0, .int 0])), (a1, .inl (c_a1, 2000, .inl (fun _ => 0))), (a2, .inl (c_a2, 2000, .inl (fun _ => 0))), (a3, .inl (c_a3, 2000, .inl (fun _ => 0))), (a4, .inl (c_a4, 2000, .inl (fun _ => 0)))] := hD
  refine lv_aload_n hx hb dX0_init_50 rfl (lv_at hl 0 rfl) ?_
  refine lv_iconst (v := 0) hx hb dX0_init_51 (by decide) ?_
  refine va_put (D := (dC, dI)) (ci := 0) (v := .int 0) (ty := .int) (C := RX0) (T := TX0) (N := 10) hx hb hts in_X0_init tyX0 tyX0_ok nmX0 hown hK hP hD hS 0 rfl rfl 6 (by decide) (hts (.fieldLink RX0 29 "BranchLengths" "longCount" "I") (by decide +kernel)) (fun _ h9 => h9) rfl (by decide +kernel) rfl rfl (Nat.le_of_ble_eq_true rfl) dX0_init_52 (fun H locs hP hD hS => ?_)
  have hP : va_P (dC, dI) vwCl [(h0, .inr (0, [.ref a1, .ref a2, .ref a3, .ref a4, .int (nI 0), .int (nI 0), .int 0, .int 0, .int 0, .int 0])), (a1, .inl (c_a1, 2000, .inl (fun _ => 0))), (a2, .inl (c_a2, 2000, .inl (fun _ => 0))), (a3, .inl (c_a3, 2000, .inl (fun _ => 0))), (a4, .inl (c_a4, 2000, .inl (fun _ => 0)))] H := hP
  have hD : va_D A [(h0, .inr (0, [.ref a1, .ref a2, .ref a3, .ref a4, .int (nI 0), .int (nI 0), .int 0, .int 0, .int 0, .int 0])), (a1, .inl (c_a1, 2000, .inl (fun _ => 0))), (a2, .inl (c_a2, 2000, .inl (fun _ => 0))), (a3, .inl (c_a3, 2000, .inl (fun _ => 0))), (a4, .inl (c_a4, 2000, .inl (fun _ => 0)))] := hD
  refine lv_aload_n hx hb dX0_init_55 rfl (lv_at hl 0 rfl) ?_
  refine lv_sipush (v := nI 1000) hx hb dX0_init_56 (by decide) ?_
  refine va_put (D := (dC, dI)) (ci := 0) (v := .int (nI 1000)) (ty := .int) (C := RX0) (T := TX0) (N := 10) hx hb hts in_X0_init tyX0 tyX0_ok nmX0 hown hK hP hD hS 0 rfl rfl 7 (by decide) (hts (.fieldLink RX0 32 "BranchLengths" "reachNow" "I") (by decide +kernel)) (fun _ h9 => h9) rfl (by decide +kernel) rfl rfl (Nat.le_of_ble_eq_true rfl) dX0_init_59 (fun H locs hP hD hS => ?_)
  have hP : va_P (dC, dI) vwCl [(h0, .inr (0, [.ref a1, .ref a2, .ref a3, .ref a4, .int (nI 0), .int (nI 0), .int 0, .int (nI 1000), .int 0, .int 0])), (a1, .inl (c_a1, 2000, .inl (fun _ => 0))), (a2, .inl (c_a2, 2000, .inl (fun _ => 0))), (a3, .inl (c_a3, 2000, .inl (fun _ => 0))), (a4, .inl (c_a4, 2000, .inl (fun _ => 0)))] H := hP
  have hD : va_D A [(h0, .inr (0, [.ref a1, .ref a2, .ref a3, .ref a4, .int (nI 0), .int (nI 0), .int 0, .int (nI 1000), .int 0, .int 0])), (a1, .inl (c_a1, 2000, .inl (fun _ => 0))), (a2, .inl (c_a2, 2000, .inl (fun _ => 0))), (a3, .inl (c_a3, 2000, .inl (fun _ => 0))), (a4, .inl (c_a4, 2000, .inl (fun _ => 0)))] := hD
  refine lv_aload_n hx hb dX0_init_62 rfl (lv_at hl 0 rfl) ?_
  refine lv_iconst (v := -1) hx hb dX0_init_63 (by decide) ?_
  refine va_put (D := (dC, dI)) (ci := 0) (v := .int (-1)) (ty := .int) (C := RX0) (T := TX0) (N := 10) hx hb hts in_X0_init tyX0 tyX0_ok nmX0 hown hK hP hD hS 0 rfl rfl 8 (by decide) (hts (.fieldLink RX0 35 "BranchLengths" "markless" "I") (by decide +kernel)) (fun _ h9 => h9) rfl (by decide +kernel) rfl rfl (Nat.le_of_ble_eq_true rfl) dX0_init_64 (fun H locs hP hD hS => ?_)
  have hP : va_P (dC, dI) vwCl [(h0, .inr (0, [.ref a1, .ref a2, .ref a3, .ref a4, .int (nI 0), .int (nI 0), .int 0, .int (nI 1000), .int (-1), .int 0])), (a1, .inl (c_a1, 2000, .inl (fun _ => 0))), (a2, .inl (c_a2, 2000, .inl (fun _ => 0))), (a3, .inl (c_a3, 2000, .inl (fun _ => 0))), (a4, .inl (c_a4, 2000, .inl (fun _ => 0)))] H := hP
  have hD : va_D A [(h0, .inr (0, [.ref a1, .ref a2, .ref a3, .ref a4, .int (nI 0), .int (nI 0), .int 0, .int (nI 1000), .int (-1), .int 0])), (a1, .inl (c_a1, 2000, .inl (fun _ => 0))), (a2, .inl (c_a2, 2000, .inl (fun _ => 0))), (a3, .inl (c_a3, 2000, .inl (fun _ => 0))), (a4, .inl (c_a4, 2000, .inl (fun _ => 0)))] := hD
  refine lv_aload_n hx hb dX0_init_67 rfl (lv_at hl 0 rfl) ?_
  refine lv_iconst (v := 0) hx hb dX0_init_68 (by decide) ?_
  refine va_put (D := (dC, dI)) (ci := 0) (v := .int 0) (ty := .boolean) (C := RX0) (T := TX0) (N := 10) hx hb hts in_X0_init tyX0 tyX0_ok nmX0 hown hK hP hD hS 0 rfl rfl 9 (by decide) (hts (.fieldLink RX0 38 "BranchLengths" "laidOut" "Z") (by decide +kernel)) (fun _ h9 => h9) rfl (by decide +kernel) rfl rfl (Nat.le_of_ble_eq_true rfl) dX0_init_69 (fun H locs hP hD hS => ?_)
  have hP : va_P (dC, dI) vwCl [(h0, .inr (0, [.ref a1, .ref a2, .ref a3, .ref a4, .int (nI 0), .int (nI 0), .int 0, .int (nI 1000), .int (-1), .int 0])), (a1, .inl (c_a1, 2000, .inl (fun _ => 0))), (a2, .inl (c_a2, 2000, .inl (fun _ => 0))), (a3, .inl (c_a3, 2000, .inl (fun _ => 0))), (a4, .inl (c_a4, 2000, .inl (fun _ => 0)))] H := hP
  have hD : va_D A [(h0, .inr (0, [.ref a1, .ref a2, .ref a3, .ref a4, .int (nI 0), .int (nI 0), .int 0, .int (nI 1000), .int (-1), .int 0])), (a1, .inl (c_a1, 2000, .inl (fun _ => 0))), (a2, .inl (c_a2, 2000, .inl (fun _ => 0))), (a3, .inl (c_a3, 2000, .inl (fun _ => 0))), (a4, .inl (c_a4, 2000, .inl (fun _ => 0)))] := hD
  have hu1 : c_a1 = c_a2 := na_same_int hK (i := 0) (j := 1) rfl rfl
  subst hu1
  have hu2 : c_a1 = c_a3 := na_same_int hK (i := 0) (j := 2) rfl rfl
  subst hu2
  have hu3 : c_a1 = c_a4 := na_same_int hK (i := 0) (j := 3) rfl rfl
  subst hu3
  have hK9 := hK.sub (tys' := [(c_a1, .int)]) [0] rfl
  exact W.vret hx hb hr (fun t ht hW => ⟨⟨(), rfl, trivial, a1, a2, a3, a4, c_a1, by rw [ht]; exact hP, va_K.moved hW.alike hK9, hD⟩, hS.F ht⟩) hS.2.2 dX0_init_72
