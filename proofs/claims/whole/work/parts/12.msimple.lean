set_option maxHeartbeats 4000000 in
set_option maxRecDepth 100000 in
/-- item(kind, number) -/
theorem m_item (l : Launch) (dC : Nat → ClassId) (dI : Nat → Nat → Nat) (cA cZ : ClassId) (h1 b1 b2 b3 b4 b5 sz : Nat) (g1 g2 g3 g4 g5 : Nat → Int32) (n : Nat) (mk re le la p1 p2 : Int32) (hn : n < 2000) : na_Mi (S := Unit) l yX1_item wsX1_item ({ frames := 0, cells := 0, slots := 0, locals := 0 }) (dC, dI) vwCl [(cA, .int), (cZ, .boolean)] sz [.ref h1, .int p1, .int p2] [(h1, .inr (1, [.ref b1, .ref b2, .ref b3, .ref b4, .ref b5, .int (nI n), .int mk, .int re, .int le, .int la])), (b1, .inl (cA, 2000, .inl g1)), (b2, .inl (cA, 2000, .inl g2)), (b3, .inl (cZ, 2000, .inl g3)), (b4, .inl (cA, 2001, .inl g4)), (b5, .inl (cA, 2000, .inl g5))] (fun r _ => r = nI n) (fun _ => [(h1, .inr (1, [.ref b1, .ref b2, .ref b3, .ref b4, .ref b5, .int (nI (n + 1)), .int mk, .int re, .int le, .int 0])), (b1, .inl (cA, 2000, .inl (upd g1 n p1))), (b2, .inl (cA, 2000, .inl (upd g2 n p2))), (b3, .inl (cZ, 2000, .inl g3)), (b4, .inl (cA, 2001, .inl g4)), (b5, .inl (cA, 2000, .inl g5))]) := by
  refine Met.ofW (cc := cX1_item) (maxL := 3) (ret := (some .int)) (by decide) rfl ?_
  intro p e s m args below meth c s₁ B hml hv
  obtain ⟨rfl, hsz, hP, hK, hD0⟩ := hv
  have hx := B.exec
  have hb := B.bytes
  have hr := B.returns
  have hts := atoms_spec (ws := wsX1_item) B.pre
  have hown : s.vm.findClass RX1 = some m.cls := findClass_of_methodNamed B.named
  have hlocks := B.notSynchronized
  subst hsz
  have hD := hD0.self (sz := s.heap.size)
  generalize hAe : va_A [(h1, .inr (1, [.ref b1, .ref b2, .ref b3, .ref b4, .ref b5, .int (nI n), .int mk, .int re, .int le, .int la])), (b1, .inl (cA, 2000, .inl g1)), (b2, .inl (cA, 2000, .inl g2)), (b3, .inl (cZ, 2000, .inl g3)), (b4, .inl (cA, 2001, .inl g4)), (b5, .inl (cA, 2000, .inl g5))] s.heap.size = A at hD ⊢
  have hA : ∀ q : Nat, s.heap.size ≤ q → A q := fun q h => by rw [← hAe]; exact Or.inr h
  have hS : va_S A s.heap s.heap [] := va_S.rf
  have hP : va_P (dC, dI) vwCl [(h1, .inr (1, [.ref b1, .ref b2, .ref b3, .ref b4, .ref b5, .int (nI n), .int mk, .int re, .int le, .int la])), (b1, .inl (cA, 2000, .inl g1)), (b2, .inl (cA, 2000, .inl g2)), (b3, .inl (cZ, 2000, .inl g3)), (b4, .inl (cA, 2001, .inl g4)), (b5, .inl (cA, 2000, .inl g5))] s.heap := hP
  have hl := lv_entry ([.ref h1, .int p1, .int p2]) (n := 3) (Nat.le_of_ble_eq_true rfl)
  rw [lg_entry_eq]
  generalize (lg_sl ([.ref h1, .int p1, .int p2]) ++ List.replicate (3 - (lg_sl ([.ref h1, .int p1, .int p2])).length) Slot.unset).toArray = ls at hl ⊢
  have hl : lv_has ls 3 [(0, .ref h1), (1, .int p1), (2, .int p2)] := hl
  refine lv_aload_n hx hb dX1_item_0 rfl (lv_at hl 0 rfl) ?_
  refine va_get (D := (dC, dI)) (ci := 1) (v := .int (nI n)) (C := RX1) (T := TX1) (N := 10) hx hb hts in_X1_item hown hK hP 0 rfl rfl 5 (by decide) (hts (.fieldLink RX1 33 "BranchLengthsModel" "items" "I") (by decide +kernel)) (fun _ h9 => h9) rfl dX1_item_1 ?_
  refine lv_sipush (v := 2000) hx hb dX1_item_4 (by decide) ?_
  refine lv_icmp_ne (tgt := 12) hx hb dX1_item_7 (by decide) (fun hc => ?_) (fun hc => ?_)
  · refine lv_aload_n hx hb dX1_item_12 rfl (lv_at hl 0 rfl) ?_
    refine va_get (D := (dC, dI)) (ci := 1) (v := .ref b1) (C := RX1) (T := TX1) (N := 10) hx hb hts in_X1_item hown hK hP 0 rfl rfl 0 (by decide) (hts (.fieldLink RX1 9 "BranchLengthsModel" "kinds" "[I") (by decide +kernel)) (fun _ h9 => h9) rfl dX1_item_13 ?_
    refine lv_aload_n hx hb dX1_item_16 rfl (lv_at hl 0 rfl) ?_
    refine va_get (D := (dC, dI)) (ci := 1) (v := .int (nI n)) (C := RX1) (T := TX1) (N := 10) hx hb hts in_X1_item hown hK hP 0 rfl rfl 5 (by decide) (hts (.fieldLink RX1 33 "BranchLengthsModel" "items" "I") (by decide +kernel)) (fun _ h9 => h9) rfl dX1_item_17 ?_
    refine lv_iload_n hx hb dX1_item_20 rfl (lv_at hl 1 rfl) ?_
    refine na_iast (k := n) hx hb hK hP hD hS 1 0 rfl rfl (by omega) (by decide) (upd g1 n p1) (rfl) dX1_item_21 (fun H locs hP hD hS => ?_)
    have hP : va_P (dC, dI) vwCl [(h1, .inr (1, [.ref b1, .ref b2, .ref b3, .ref b4, .ref b5, .int (nI n), .int mk, .int re, .int le, .int la])), (b1, .inl (cA, 2000, .inl (upd g1 n p1))), (b2, .inl (cA, 2000, .inl g2)), (b3, .inl (cZ, 2000, .inl g3)), (b4, .inl (cA, 2001, .inl g4)), (b5, .inl (cA, 2000, .inl g5))] H := hP
    have hD : va_D A [(h1, .inr (1, [.ref b1, .ref b2, .ref b3, .ref b4, .ref b5, .int (nI n), .int mk, .int re, .int le, .int la])), (b1, .inl (cA, 2000, .inl (upd g1 n p1))), (b2, .inl (cA, 2000, .inl g2)), (b3, .inl (cZ, 2000, .inl g3)), (b4, .inl (cA, 2001, .inl g4)), (b5, .inl (cA, 2000, .inl g5))] := hD
    refine lv_aload_n hx hb dX1_item_22 rfl (lv_at hl 0 rfl) ?_
    refine va_get (D := (dC, dI)) (ci := 1) (v := .ref b2) (C := RX1) (T := TX1) (N := 10) hx hb hts in_X1_item hown hK hP 0 rfl rfl 1 (by decide) (hts (.fieldLink RX1 13 "BranchLengthsModel" "numbers" "[I") (by decide +kernel)) (fun _ h9 => h9) rfl dX1_item_23 ?_
    refine lv_aload_n hx hb dX1_item_26 rfl (lv_at hl 0 rfl) ?_
    refine va_get (D := (dC, dI)) (ci := 1) (v := .int (nI n)) (C := RX1) (T := TX1) (N := 10) hx hb hts in_X1_item hown hK hP 0 rfl rfl 5 (by decide) (hts (.fieldLink RX1 33 "BranchLengthsModel" "items" "I") (by decide +kernel)) (fun _ h9 => h9) rfl dX1_item_27 ?_
    refine lv_iload_n hx hb dX1_item_30 rfl (lv_at hl 2 rfl) ?_
    refine na_iast (k := n) hx hb hK hP hD hS 2 0 rfl rfl (by omega) (by decide) (upd g2 n p2) (rfl) dX1_item_31 (fun H locs hP hD hS => ?_)
    have hP : va_P (dC, dI) vwCl [(h1, .inr (1, [.ref b1, .ref b2, .ref b3, .ref b4, .ref b5, .int (nI n), .int mk, .int re, .int le, .int la])), (b1, .inl (cA, 2000, .inl (upd g1 n p1))), (b2, .inl (cA, 2000, .inl (upd g2 n p2))), (b3, .inl (cZ, 2000, .inl g3)), (b4, .inl (cA, 2001, .inl g4)), (b5, .inl (cA, 2000, .inl g5))] H := hP
    have hD : va_D A [(h1, .inr (1, [.ref b1, .ref b2, .ref b3, .ref b4, .ref b5, .int (nI n), .int mk, .int re, .int le, .int la])), (b1, .inl (cA, 2000, .inl (upd g1 n p1))), (b2, .inl (cA, 2000, .inl (upd g2 n p2))), (b3, .inl (cZ, 2000, .inl g3)), (b4, .inl (cA, 2001, .inl g4)), (b5, .inl (cA, 2000, .inl g5))] := hD
    refine lv_aload_n hx hb dX1_item_32 rfl (lv_at hl 0 rfl) ?_
    refine lv_iconst (v := 0) hx hb dX1_item_33 (by decide) ?_
    refine va_put (D := (dC, dI)) (ci := 1) (v := .int 0) (ty := .boolean) (C := RX1) (T := TX1) (N := 10) hx hb hts in_X1_item tyX1 tyX1_ok nmX1 hown hK hP hD hS 0 rfl rfl 9 (by decide) (hts (.fieldLink RX1 36 "BranchLengthsModel" "laid" "Z") (by decide +kernel)) (fun _ h9 => h9) rfl (by decide +kernel) rfl rfl (Nat.le_of_ble_eq_true rfl) dX1_item_34 (fun H locs hP hD hS => ?_)
    have hP : va_P (dC, dI) vwCl [(h1, .inr (1, [.ref b1, .ref b2, .ref b3, .ref b4, .ref b5, .int (nI n), .int mk, .int re, .int le, .int 0])), (b1, .inl (cA, 2000, .inl (upd g1 n p1))), (b2, .inl (cA, 2000, .inl (upd g2 n p2))), (b3, .inl (cZ, 2000, .inl g3)), (b4, .inl (cA, 2001, .inl g4)), (b5, .inl (cA, 2000, .inl g5))] H := hP
    have hD : va_D A [(h1, .inr (1, [.ref b1, .ref b2, .ref b3, .ref b4, .ref b5, .int (nI n), .int mk, .int re, .int le, .int 0])), (b1, .inl (cA, 2000, .inl (upd g1 n p1))), (b2, .inl (cA, 2000, .inl (upd g2 n p2))), (b3, .inl (cZ, 2000, .inl g3)), (b4, .inl (cA, 2001, .inl g4)), (b5, .inl (cA, 2000, .inl g5))] := hD
    refine lv_aload_n hx hb dX1_item_37 rfl (lv_at hl 0 rfl) ?_
    refine lv_dup hx hb dX1_item_38 rfl ?_
    refine va_get (D := (dC, dI)) (ci := 1) (v := .int (nI n)) (C := RX1) (T := TX1) (N := 10) hx hb hts in_X1_item hown hK hP 0 rfl rfl 5 (by decide) (hts (.fieldLink RX1 33 "BranchLengthsModel" "items" "I") (by decide +kernel)) (fun _ h9 => h9) rfl dX1_item_39 ?_
    refine lv_iconst (v := 1) hx hb dX1_item_42 (by decide) ?_
    refine lv_iadd hx hb dX1_item_43 ?_
    refine na_eqi (y := nI (n + 1)) (nI_1 n) ?_
    refine va_put (D := (dC, dI)) (ci := 1) (v := .int (nI (n + 1))) (ty := .int) (C := RX1) (T := TX1) (N := 10) hx hb hts in_X1_item tyX1 tyX1_ok nmX1 hown hK hP hD hS 0 rfl rfl 5 (by decide) (hts (.fieldLink RX1 33 "BranchLengthsModel" "items" "I") (by decide +kernel)) (fun _ h9 => h9) rfl (by decide +kernel) rfl rfl (Nat.le_of_ble_eq_true rfl) dX1_item_44 (fun H locs hP hD hS => ?_)
    have hP : va_P (dC, dI) vwCl [(h1, .inr (1, [.ref b1, .ref b2, .ref b3, .ref b4, .ref b5, .int (nI (n + 1)), .int mk, .int re, .int le, .int 0])), (b1, .inl (cA, 2000, .inl (upd g1 n p1))), (b2, .inl (cA, 2000, .inl (upd g2 n p2))), (b3, .inl (cZ, 2000, .inl g3)), (b4, .inl (cA, 2001, .inl g4)), (b5, .inl (cA, 2000, .inl g5))] H := hP
    have hD : va_D A [(h1, .inr (1, [.ref b1, .ref b2, .ref b3, .ref b4, .ref b5, .int (nI (n + 1)), .int mk, .int re, .int le, .int 0])), (b1, .inl (cA, 2000, .inl (upd g1 n p1))), (b2, .inl (cA, 2000, .inl (upd g2 n p2))), (b3, .inl (cZ, 2000, .inl g3)), (b4, .inl (cA, 2001, .inl g4)), (b5, .inl (cA, 2000, .inl g5))] := hD
    refine lv_aload_n hx hb dX1_item_47 rfl (lv_at hl 0 rfl) ?_
    refine va_get (D := (dC, dI)) (ci := 1) (v := .int (nI (n + 1))) (C := RX1) (T := TX1) (N := 10) hx hb hts in_X1_item hown hK hP 0 rfl rfl 5 (by decide) (hts (.fieldLink RX1 33 "BranchLengthsModel" "items" "I") (by decide +kernel)) (fun _ h9 => h9) rfl dX1_item_48 ?_
    refine lv_iconst (v := 1) hx hb dX1_item_51 (by decide) ?_
    refine lv_isub hx hb dX1_item_52 ?_
    refine na_eqi (y := nI n) (nI_pred n) ?_
    exact W.iret (v := (nI n)) hx hb hr (fun t ht hW => ⟨⟨(nI n), (), rfl, rfl, by rw [ht]; exact hP, va_K.moved hW.alike hK, hD⟩, hS.F ht⟩) hS.2.2 dX1_item_53
  · exact absurd ((nI_eq (by omega) (by decide)).mp (show nI n = nI 2000 from hc)) (by omega)
set_option maxHeartbeats 4000000 in
set_option maxRecDepth 100000 in
/-- stretch(p), refused -/
theorem m_stretch_no (l : Launch) (dC : Nat → ClassId) (dI : Nat → Nat → Nat) (cA cZ : ClassId) (h1 b1 b2 b3 b4 b5 sz : Nat) (g1 g2 g3 g4 g5 : Nat → Int32) (n : Nat) (mk re le la p1 : Int32) (hp : p1 < 0 ∨ ¬ p1 ≤ 4000) : na_Mi (S := Unit) l yX1_stretch wsX1_stretch ({ frames := 1, cells := 0, slots := 0, locals := 22 }) (dC, dI) vwCl [(cA, .int), (cZ, .boolean)] sz [.ref h1, .int p1] [(h1, .inr (1, [.ref b1, .ref b2, .ref b3, .ref b4, .ref b5, .int (nI n), .int mk, .int re, .int le, .int la])), (b1, .inl (cA, 2000, .inl g1)), (b2, .inl (cA, 2000, .inl g2)), (b3, .inl (cZ, 2000, .inl g3)), (b4, .inl (cA, 2001, .inl g4)), (b5, .inl (cA, 2000, .inl g5))] (fun r _ => r = -1) (fun _ => [(h1, .inr (1, [.ref b1, .ref b2, .ref b3, .ref b4, .ref b5, .int (nI n), .int mk, .int re, .int le, .int la])), (b1, .inl (cA, 2000, .inl g1)), (b2, .inl (cA, 2000, .inl g2)), (b3, .inl (cZ, 2000, .inl g3)), (b4, .inl (cA, 2001, .inl g4)), (b5, .inl (cA, 2000, .inl g5))]) := by
  refine Met.ofW (cc := cX1_stretch) (maxL := 2) (ret := (some .int)) (by decide) rfl ?_
  intro p e s m args below meth c s₁ B hml hv
  obtain ⟨rfl, hsz, hP, hK, hD0⟩ := hv
  have hx := B.exec
  have hb := B.bytes
  have hr := B.returns
  have hts := atoms_spec (ws := wsX1_stretch) B.pre
  have hown : s.vm.findClass RX1 = some m.cls := findClass_of_methodNamed B.named
  have hlocks := B.notSynchronized
  subst hsz
  have hD := hD0.self (sz := s.heap.size)
  generalize hAe : va_A [(h1, .inr (1, [.ref b1, .ref b2, .ref b3, .ref b4, .ref b5, .int (nI n), .int mk, .int re, .int le, .int la])), (b1, .inl (cA, 2000, .inl g1)), (b2, .inl (cA, 2000, .inl g2)), (b3, .inl (cZ, 2000, .inl g3)), (b4, .inl (cA, 2001, .inl g4)), (b5, .inl (cA, 2000, .inl g5))] s.heap.size = A at hD ⊢
  have hA : ∀ q : Nat, s.heap.size ≤ q → A q := fun q h => by rw [← hAe]; exact Or.inr h
  have hS : va_S A s.heap s.heap [] := va_S.rf
  have hP : va_P (dC, dI) vwCl [(h1, .inr (1, [.ref b1, .ref b2, .ref b3, .ref b4, .ref b5, .int (nI n), .int mk, .int re, .int le, .int la])), (b1, .inl (cA, 2000, .inl g1)), (b2, .inl (cA, 2000, .inl g2)), (b3, .inl (cZ, 2000, .inl g3)), (b4, .inl (cA, 2001, .inl g4)), (b5, .inl (cA, 2000, .inl g5))] s.heap := hP
  have hl := lv_entry ([.ref h1, .int p1]) (n := 2) (Nat.le_of_ble_eq_true rfl)
  rw [lg_entry_eq]
  generalize (lg_sl ([.ref h1, .int p1]) ++ List.replicate (2 - (lg_sl ([.ref h1, .int p1])).length) Slot.unset).toArray = ls at hl ⊢
  have hl : lv_has ls 2 [(0, .ref h1), (1, .int p1)] := hl
  refine lv_iload_n hx hb dX1_stretch_0 rfl (lv_at hl 1 rfl) ?_
  refine lv_if_lt (tgt := 11) hx hb dX1_stretch_1 (by decide) (fun hc1 => ?_) (fun hc1 => ?_)
  · refine lv_iconst (v := -1) hx hb dX1_stretch_11 (by decide) ?_
    refine lv_goto (tgt := 21) hx hb dX1_stretch_12 (by decide) ?_
    exact W.iret (v := (-1)) hx hb hr (fun t ht hW => ⟨⟨(-1), (), rfl, rfl, by rw [ht]; exact hP, va_K.moved hW.alike hK, hD⟩, hS.F ht⟩) hS.2.2 dX1_stretch_21
  · refine lv_iload_n hx hb dX1_stretch_4 rfl (lv_at hl 1 rfl) ?_
    refine lv_sipush (v := 4000) hx hb dX1_stretch_5 (by decide) ?_
    refine lv_icmp_le (tgt := 15) hx hb dX1_stretch_8 (by decide) (fun hc2 => ?_) (fun hc2 => ?_)
    · exact absurd hp (fun q => q.elim hc1 (fun z => z hc2))
    · refine lv_iconst (v := -1) hx hb dX1_stretch_11 (by decide) ?_
      refine lv_goto (tgt := 21) hx hb dX1_stretch_12 (by decide) ?_
      exact W.iret (v := (-1)) hx hb hr (fun t ht hW => ⟨⟨(-1), (), rfl, rfl, by rw [ht]; exact hP, va_K.moved hW.alike hK, hD⟩, hS.F ht⟩) hS.2.2 dX1_stretch_21
set_option maxHeartbeats 4000000 in
set_option maxRecDepth 100000 in
/-- stretch(p) -/
theorem m_stretch_ok (l : Launch) (dC : Nat → ClassId) (dI : Nat → Nat → Nat) (cA cZ : ClassId) (h1 b1 b2 b3 b4 b5 sz : Nat) (g1 g2 g3 g4 g5 : Nat → Int32) (n : Nat) (mk re le la p1 : Int32) (hn : n < 2000) (hp1 : ¬ p1 < 0) (hp2 : p1 ≤ 4000) : na_Mi (S := Unit) l yX1_stretch wsX1_stretch ({ frames := 1, cells := 0, slots := 0, locals := 22 }) (dC, dI) vwCl [(cA, .int), (cZ, .boolean)] sz [.ref h1, .int p1] [(h1, .inr (1, [.ref b1, .ref b2, .ref b3, .ref b4, .ref b5, .int (nI n), .int mk, .int re, .int le, .int la])), (b1, .inl (cA, 2000, .inl g1)), (b2, .inl (cA, 2000, .inl g2)), (b3, .inl (cZ, 2000, .inl g3)), (b4, .inl (cA, 2001, .inl g4)), (b5, .inl (cA, 2000, .inl g5))] (fun r _ => r = nI n) (fun _ => [(h1, .inr (1, [.ref b1, .ref b2, .ref b3, .ref b4, .ref b5, .int (nI (n + 1)), .int mk, .int re, .int le, .int 0])), (b1, .inl (cA, 2000, .inl (upd g1 n 0))), (b2, .inl (cA, 2000, .inl (upd g2 n p1))), (b3, .inl (cZ, 2000, .inl g3)), (b4, .inl (cA, 2001, .inl g4)), (b5, .inl (cA, 2000, .inl g5))]) := by
  refine Met.ofW (cc := cX1_stretch) (maxL := 2) (ret := (some .int)) (by decide) rfl ?_
  intro p e s m args below meth c s₁ B hml hv
  obtain ⟨rfl, hsz, hP, hK, hD0⟩ := hv
  have hx := B.exec
  have hb := B.bytes
  have hr := B.returns
  have hts := atoms_spec (ws := wsX1_stretch) B.pre
  have hown : s.vm.findClass RX1 = some m.cls := findClass_of_methodNamed B.named
  have hlocks := B.notSynchronized
  subst hsz
  have hD := hD0.self (sz := s.heap.size)
  generalize hAe : va_A [(h1, .inr (1, [.ref b1, .ref b2, .ref b3, .ref b4, .ref b5, .int (nI n), .int mk, .int re, .int le, .int la])), (b1, .inl (cA, 2000, .inl g1)), (b2, .inl (cA, 2000, .inl g2)), (b3, .inl (cZ, 2000, .inl g3)), (b4, .inl (cA, 2001, .inl g4)), (b5, .inl (cA, 2000, .inl g5))] s.heap.size = A at hD ⊢
  have hA : ∀ q : Nat, s.heap.size ≤ q → A q := fun q h => by rw [← hAe]; exact Or.inr h
  have hS : va_S A s.heap s.heap [] := va_S.rf
  have hP : va_P (dC, dI) vwCl [(h1, .inr (1, [.ref b1, .ref b2, .ref b3, .ref b4, .ref b5, .int (nI n), .int mk, .int re, .int le, .int la])), (b1, .inl (cA, 2000, .inl g1)), (b2, .inl (cA, 2000, .inl g2)), (b3, .inl (cZ, 2000, .inl g3)), (b4, .inl (cA, 2001, .inl g4)), (b5, .inl (cA, 2000, .inl g5))] s.heap := hP
  have hl := lv_entry ([.ref h1, .int p1]) (n := 2) (Nat.le_of_ble_eq_true rfl)
  rw [lg_entry_eq]
  generalize (lg_sl ([.ref h1, .int p1]) ++ List.replicate (2 - (lg_sl ([.ref h1, .int p1])).length) Slot.unset).toArray = ls at hl ⊢
  have hl : lv_has ls 2 [(0, .ref h1), (1, .int p1)] := hl
  refine lv_iload_n hx hb dX1_stretch_0 rfl (lv_at hl 1 rfl) ?_
  refine lv_if_lt (tgt := 11) hx hb dX1_stretch_1 (by decide) (fun hc1 => ?_) (fun hc1 => ?_)
  · exact absurd hc1 hp1
  · refine lv_iload_n hx hb dX1_stretch_4 rfl (lv_at hl 1 rfl) ?_
    refine lv_sipush (v := 4000) hx hb dX1_stretch_5 (by decide) ?_
    refine lv_icmp_le (tgt := 15) hx hb dX1_stretch_8 (by decide) (fun hc2 => ?_) (fun hc2 => ?_)
    · refine lv_aload_n hx hb dX1_stretch_15 rfl (lv_at hl 0 rfl) ?_
      refine lv_iconst (v := 0) hx hb dX1_stretch_16 (by decide) ?_
      refine lv_iload_n hx hb dX1_stretch_17 rfl (lv_at hl 1 rfl) ?_
      refine na_calli (As := [.int 0, .int p1]) (rest := []) (wc := [(h1, .inr (1, [.ref b1, .ref b2, .ref b3, .ref b4, .ref b5, .int (nI n), .int mk, .int re, .int le, .int la])), (b1, .inl (cA, 2000, .inl g1)), (b2, .inl (cA, 2000, .inl g2)), (b3, .inl (cZ, 2000, .inl g3)), (b4, .inl (cA, 2001, .inl g4)), (b5, .inl (cA, 2000, .inl g5))]) (wr := []) (ci := 1) ⟨hx, hb, hml, hown, hts⟩ (m_item l dC dI cA cZ h1 b1 b2 b3 b4 b5 s.heap.size g1 g2 g3 g4 g5 n mk re le la 0 p1 hn) (cwV 2 hts gX1_stretch_X1_item rfl rfl rfl (by decide +kernel) ⟨Nat.le_of_ble_eq_true rfl, Nat.le_of_ble_eq_true rfl⟩) hK hP hD hS hA [0, 1, 2, 3, 4, 5] [] rfl rfl rfl rfl (by decide) rfl rfl 0 rfl rfl hl.1 (Nat.le_of_ble_eq_true rfl) dX1_stretch_18 ⟨Nat.le_of_ble_eq_true rfl, Nat.le_of_ble_eq_true rfl⟩ rfl (fun r u H locs hw hP hD hS => ?_)
      have hP : va_P (dC, dI) vwCl [(h1, .inr (1, [.ref b1, .ref b2, .ref b3, .ref b4, .ref b5, .int (nI (n + 1)), .int mk, .int re, .int le, .int 0])), (b1, .inl (cA, 2000, .inl (upd g1 n 0))), (b2, .inl (cA, 2000, .inl (upd g2 n p1))), (b3, .inl (cZ, 2000, .inl g3)), (b4, .inl (cA, 2001, .inl g4)), (b5, .inl (cA, 2000, .inl g5))] H := hP
      have hD : va_D A [(h1, .inr (1, [.ref b1, .ref b2, .ref b3, .ref b4, .ref b5, .int (nI (n + 1)), .int mk, .int re, .int le, .int 0])), (b1, .inl (cA, 2000, .inl (upd g1 n 0))), (b2, .inl (cA, 2000, .inl (upd g2 n p1))), (b3, .inl (cZ, 2000, .inl g3)), (b4, .inl (cA, 2001, .inl g4)), (b5, .inl (cA, 2000, .inl g5))] := hD
      subst hw
      exact W.iret (v := (nI n)) hx hb hr (fun t ht hW => ⟨⟨(nI n), (), rfl, rfl, by rw [ht]; exact hP, va_K.moved hW.alike hK, hD⟩, hS.F ht⟩) hS.2.2 dX1_stretch_21
    · exact absurd hp2 hc2
set_option maxHeartbeats 4000000 in
set_option maxRecDepth 100000 in
/-- mark() -/
theorem m_mark (l : Launch) (dC : Nat → ClassId) (dI : Nat → Nat → Nat) (cA cZ : ClassId) (h1 b1 b2 b3 b4 b5 sz : Nat) (g1 g2 g3 g4 g5 : Nat → Int32) (n K : Nat) (re le la : Int32) (hn : n < 2000) (hK2 : K < 2000) : na_Mi (S := Unit) l yX1_mark wsX1_mark ({ frames := 1, cells := 0, slots := 0, locals := 22 }) (dC, dI) vwCl [(cA, .int), (cZ, .boolean)] sz [.ref h1] [(h1, .inr (1, [.ref b1, .ref b2, .ref b3, .ref b4, .ref b5, .int (nI n), .int (nI K), .int re, .int le, .int la])), (b1, .inl (cA, 2000, .inl g1)), (b2, .inl (cA, 2000, .inl g2)), (b3, .inl (cZ, 2000, .inl g3)), (b4, .inl (cA, 2001, .inl g4)), (b5, .inl (cA, 2000, .inl g5))] (fun r _ => r = nI n) (fun _ => [(h1, .inr (1, [.ref b1, .ref b2, .ref b3, .ref b4, .ref b5, .int (nI (n + 1)), .int (nI (K + 1)), .int re, .int le, .int 0])), (b1, .inl (cA, 2000, .inl (upd g1 n 1))), (b2, .inl (cA, 2000, .inl (upd g2 n 0))), (b3, .inl (cZ, 2000, .inl g3)), (b4, .inl (cA, 2001, .inl g4)), (b5, .inl (cA, 2000, .inl (upd g5 K (nI n))))]) := by
  refine Met.ofW (cc := cX1_mark) (maxL := 2) (ret := (some .int)) (by decide) rfl ?_
  intro p e s m args below meth c s₁ B hml hv
  obtain ⟨rfl, hsz, hP, hK, hD0⟩ := hv
  have hx := B.exec
  have hb := B.bytes
  have hr := B.returns
  have hts := atoms_spec (ws := wsX1_mark) B.pre
  have hown : s.vm.findClass RX1 = some m.cls := findClass_of_methodNamed B.named
  have hlocks := B.notSynchronized
  subst hsz
  have hD := hD0.self (sz := s.heap.size)
  generalize hAe : va_A [(h1, .inr (1, [.ref b1, .ref b2, .ref b3, .ref b4, .ref b5, .int (nI n), .int (nI K), .int re, .int le, .int la])), (b1, .inl (cA, 2000, .inl g1)), (b2, .inl (cA, 2000, .inl g2)), (b3, .inl (cZ, 2000, .inl g3)), (b4, .inl (cA, 2001, .inl g4)), (b5, .inl (cA, 2000, .inl g5))] s.heap.size = A at hD ⊢
  have hA : ∀ q : Nat, s.heap.size ≤ q → A q := fun q h => by rw [← hAe]; exact Or.inr h
  have hS : va_S A s.heap s.heap [] := va_S.rf
  have hP : va_P (dC, dI) vwCl [(h1, .inr (1, [.ref b1, .ref b2, .ref b3, .ref b4, .ref b5, .int (nI n), .int (nI K), .int re, .int le, .int la])), (b1, .inl (cA, 2000, .inl g1)), (b2, .inl (cA, 2000, .inl g2)), (b3, .inl (cZ, 2000, .inl g3)), (b4, .inl (cA, 2001, .inl g4)), (b5, .inl (cA, 2000, .inl g5))] s.heap := hP
  have hl := lv_entry ([.ref h1]) (n := 2) (Nat.le_of_ble_eq_true rfl)
  rw [lg_entry_eq]
  generalize (lg_sl ([.ref h1]) ++ List.replicate (2 - (lg_sl ([.ref h1])).length) Slot.unset).toArray = ls at hl ⊢
  have hl : lv_has ls 2 [(0, .ref h1)] := hl
  refine lv_aload_n hx hb dX1_mark_0 rfl (lv_at hl 0 rfl) ?_
  refine lv_iconst (v := 1) hx hb dX1_mark_1 (by decide) ?_
  refine lv_iconst (v := 0) hx hb dX1_mark_2 (by decide) ?_
  refine na_calli (As := [.int 1, .int 0]) (rest := []) (wc := [(h1, .inr (1, [.ref b1, .ref b2, .ref b3, .ref b4, .ref b5, .int (nI n), .int (nI K), .int re, .int le, .int la])), (b1, .inl (cA, 2000, .inl g1)), (b2, .inl (cA, 2000, .inl g2)), (b3, .inl (cZ, 2000, .inl g3)), (b4, .inl (cA, 2001, .inl g4)), (b5, .inl (cA, 2000, .inl g5))]) (wr := []) (ci := 1) ⟨hx, hb, hml, hown, hts⟩ (m_item l dC dI cA cZ h1 b1 b2 b3 b4 b5 s.heap.size g1 g2 g3 g4 g5 n (nI K) re le la 1 0 hn) (cwV 2 hts gX1_mark_X1_item rfl rfl rfl (by decide +kernel) ⟨Nat.le_of_ble_eq_true rfl, Nat.le_of_ble_eq_true rfl⟩) hK hP hD hS hA [0, 1, 2, 3, 4, 5] [] rfl rfl rfl rfl (by decide) rfl rfl 0 rfl rfl hl.1 (Nat.le_of_ble_eq_true rfl) dX1_mark_3 ⟨Nat.le_of_ble_eq_true rfl, Nat.le_of_ble_eq_true rfl⟩ rfl (fun r u H locs hw hP hD hS => ?_)
  have hP : va_P (dC, dI) vwCl [(h1, .inr (1, [.ref b1, .ref b2, .ref b3, .ref b4, .ref b5, .int (nI (n + 1)), .int (nI K), .int re, .int le, .int 0])), (b1, .inl (cA, 2000, .inl (upd g1 n 1))), (b2, .inl (cA, 2000, .inl (upd g2 n 0))), (b3, .inl (cZ, 2000, .inl g3)), (b4, .inl (cA, 2001, .inl g4)), (b5, .inl (cA, 2000, .inl g5))] H := hP
  have hD : va_D A [(h1, .inr (1, [.ref b1, .ref b2, .ref b3, .ref b4, .ref b5, .int (nI (n + 1)), .int (nI K), .int re, .int le, .int 0])), (b1, .inl (cA, 2000, .inl (upd g1 n 1))), (b2, .inl (cA, 2000, .inl (upd g2 n 0))), (b3, .inl (cZ, 2000, .inl g3)), (b4, .inl (cA, 2001, .inl g4)), (b5, .inl (cA, 2000, .inl g5))] := hD
  subst hw
  refine lv_istore_n (lv' := [(1, .int (nI n)), (0, .ref h1)]) hx hb dX1_mark_6 rfl hl (by decide) rfl (fun ls hl => ?_)
  refine lv_iload_n hx hb dX1_mark_7 rfl (lv_at hl 0 rfl) ?_
  refine lv_if_ge (tgt := 13) hx hb dX1_mark_8 (by decide) (fun hc1 => ?_) (fun hc1 => ?_)
  · refine lv_aload_n hx hb dX1_mark_13 rfl (lv_at hl 1 rfl) ?_
    refine va_get (D := (dC, dI)) (ci := 1) (v := .ref b5) (C := RX1) (T := TX1) (N := 10) hx hb hts in_X1_mark hown hK hP 0 rfl rfl 4 (by decide) (hts (.fieldLink RX1 23 "BranchLengthsModel" "markItems" "[I") (by decide +kernel)) (fun _ h9 => h9) rfl dX1_mark_14 ?_
    refine lv_aload_n hx hb dX1_mark_17 rfl (lv_at hl 1 rfl) ?_
    refine va_get (D := (dC, dI)) (ci := 1) (v := .int (nI K)) (C := RX1) (T := TX1) (N := 10) hx hb hts in_X1_mark hown hK hP 0 rfl rfl 6 (by decide) (hts (.fieldLink RX1 44 "BranchLengthsModel" "marks" "I") (by decide +kernel)) (fun _ h9 => h9) rfl dX1_mark_18 ?_
    refine lv_iload_n hx hb dX1_mark_21 rfl (lv_at hl 0 rfl) ?_
    refine na_iast (k := K) hx hb hK hP hD hS 5 0 rfl rfl (by omega) (by decide) (upd g5 K (nI n)) (rfl) dX1_mark_22 (fun H locs hP hD hS => ?_)
    have hP : va_P (dC, dI) vwCl [(h1, .inr (1, [.ref b1, .ref b2, .ref b3, .ref b4, .ref b5, .int (nI (n + 1)), .int (nI K), .int re, .int le, .int 0])), (b1, .inl (cA, 2000, .inl (upd g1 n 1))), (b2, .inl (cA, 2000, .inl (upd g2 n 0))), (b3, .inl (cZ, 2000, .inl g3)), (b4, .inl (cA, 2001, .inl g4)), (b5, .inl (cA, 2000, .inl (upd g5 K (nI n))))] H := hP
    have hD : va_D A [(h1, .inr (1, [.ref b1, .ref b2, .ref b3, .ref b4, .ref b5, .int (nI (n + 1)), .int (nI K), .int re, .int le, .int 0])), (b1, .inl (cA, 2000, .inl (upd g1 n 1))), (b2, .inl (cA, 2000, .inl (upd g2 n 0))), (b3, .inl (cZ, 2000, .inl g3)), (b4, .inl (cA, 2001, .inl g4)), (b5, .inl (cA, 2000, .inl (upd g5 K (nI n))))] := hD
    refine lv_aload_n hx hb dX1_mark_23 rfl (lv_at hl 1 rfl) ?_
    refine lv_dup hx hb dX1_mark_24 rfl ?_
    refine va_get (D := (dC, dI)) (ci := 1) (v := .int (nI K)) (C := RX1) (T := TX1) (N := 10) hx hb hts in_X1_mark hown hK hP 0 rfl rfl 6 (by decide) (hts (.fieldLink RX1 44 "BranchLengthsModel" "marks" "I") (by decide +kernel)) (fun _ h9 => h9) rfl dX1_mark_25 ?_
    refine lv_iconst (v := 1) hx hb dX1_mark_28 (by decide) ?_
    refine lv_iadd hx hb dX1_mark_29 ?_
    refine na_eqi (y := nI (K + 1)) (nI_1 K) ?_
    refine va_put (D := (dC, dI)) (ci := 1) (v := .int (nI (K + 1))) (ty := .int) (C := RX1) (T := TX1) (N := 10) hx hb hts in_X1_mark tyX1 tyX1_ok nmX1 hown hK hP hD hS 0 rfl rfl 6 (by decide) (hts (.fieldLink RX1 44 "BranchLengthsModel" "marks" "I") (by decide +kernel)) (fun _ h9 => h9) rfl (by decide +kernel) rfl rfl (Nat.le_of_ble_eq_true rfl) dX1_mark_30 (fun H locs hP hD hS => ?_)
    have hP : va_P (dC, dI) vwCl [(h1, .inr (1, [.ref b1, .ref b2, .ref b3, .ref b4, .ref b5, .int (nI (n + 1)), .int (nI (K + 1)), .int re, .int le, .int 0])), (b1, .inl (cA, 2000, .inl (upd g1 n 1))), (b2, .inl (cA, 2000, .inl (upd g2 n 0))), (b3, .inl (cZ, 2000, .inl g3)), (b4, .inl (cA, 2001, .inl g4)), (b5, .inl (cA, 2000, .inl (upd g5 K (nI n))))] H := hP
    have hD : va_D A [(h1, .inr (1, [.ref b1, .ref b2, .ref b3, .ref b4, .ref b5, .int (nI (n + 1)), .int (nI (K + 1)), .int re, .int le, .int 0])), (b1, .inl (cA, 2000, .inl (upd g1 n 1))), (b2, .inl (cA, 2000, .inl (upd g2 n 0))), (b3, .inl (cZ, 2000, .inl g3)), (b4, .inl (cA, 2001, .inl g4)), (b5, .inl (cA, 2000, .inl (upd g5 K (nI n))))] := hD
    refine lv_iload_n hx hb dX1_mark_33 rfl (lv_at hl 0 rfl) ?_
    exact W.iret (v := (nI n)) hx hb hr (fun t ht hW => ⟨⟨(nI n), (), rfl, rfl, by rw [ht]; exact hP, va_K.moved hW.alike hK, hD⟩, hS.F ht⟩) hS.2.2 dX1_mark_34
  · exact absurd (nI_pos' (by omega)) hc1
set_option maxHeartbeats 4000000 in
set_option maxRecDepth 100000 in
/-- branch(p), refused -/
theorem m_branch_no (l : Launch) (dC : Nat → ClassId) (dI : Nat → Nat → Nat) (cA cZ : ClassId) (h1 b1 b2 b3 b4 b5 sz : Nat) (g1 g2 g3 g4 g5 : Nat → Int32) (n : Nat) (mk re le la p1 : Int32) (hp : p1 < 0) : na_Mi (S := Unit) l yX1_branch wsX1_branch ({ frames := 1, cells := 0, slots := 0, locals := 22 }) (dC, dI) vwCl [(cA, .int), (cZ, .boolean)] sz [.ref h1, .int p1] [(h1, .inr (1, [.ref b1, .ref b2, .ref b3, .ref b4, .ref b5, .int (nI n), .int mk, .int re, .int le, .int la])), (b1, .inl (cA, 2000, .inl g1)), (b2, .inl (cA, 2000, .inl g2)), (b3, .inl (cZ, 2000, .inl g3)), (b4, .inl (cA, 2001, .inl g4)), (b5, .inl (cA, 2000, .inl g5))] (fun r _ => r = -1) (fun _ => [(h1, .inr (1, [.ref b1, .ref b2, .ref b3, .ref b4, .ref b5, .int (nI n), .int mk, .int re, .int le, .int la])), (b1, .inl (cA, 2000, .inl g1)), (b2, .inl (cA, 2000, .inl g2)), (b3, .inl (cZ, 2000, .inl g3)), (b4, .inl (cA, 2001, .inl g4)), (b5, .inl (cA, 2000, .inl g5))]) := by
  refine Met.ofW (cc := cX1_branch) (maxL := 2) (ret := (some .int)) (by decide) rfl ?_
  intro p e s m args below meth c s₁ B hml hv
  obtain ⟨rfl, hsz, hP, hK, hD0⟩ := hv
  have hx := B.exec
  have hb := B.bytes
  have hr := B.returns
  have hts := atoms_spec (ws := wsX1_branch) B.pre
  have hown : s.vm.findClass RX1 = some m.cls := findClass_of_methodNamed B.named
  have hlocks := B.notSynchronized
  subst hsz
  have hD := hD0.self (sz := s.heap.size)
  generalize hAe : va_A [(h1, .inr (1, [.ref b1, .ref b2, .ref b3, .ref b4, .ref b5, .int (nI n), .int mk, .int re, .int le, .int la])), (b1, .inl (cA, 2000, .inl g1)), (b2, .inl (cA, 2000, .inl g2)), (b3, .inl (cZ, 2000, .inl g3)), (b4, .inl (cA, 2001, .inl g4)), (b5, .inl (cA, 2000, .inl g5))] s.heap.size = A at hD ⊢
  have hA : ∀ q : Nat, s.heap.size ≤ q → A q := fun q h => by rw [← hAe]; exact Or.inr h
  have hS : va_S A s.heap s.heap [] := va_S.rf
  have hP : va_P (dC, dI) vwCl [(h1, .inr (1, [.ref b1, .ref b2, .ref b3, .ref b4, .ref b5, .int (nI n), .int mk, .int re, .int le, .int la])), (b1, .inl (cA, 2000, .inl g1)), (b2, .inl (cA, 2000, .inl g2)), (b3, .inl (cZ, 2000, .inl g3)), (b4, .inl (cA, 2001, .inl g4)), (b5, .inl (cA, 2000, .inl g5))] s.heap := hP
  have hl := lv_entry ([.ref h1, .int p1]) (n := 2) (Nat.le_of_ble_eq_true rfl)
  rw [lg_entry_eq]
  generalize (lg_sl ([.ref h1, .int p1]) ++ List.replicate (2 - (lg_sl ([.ref h1, .int p1])).length) Slot.unset).toArray = ls at hl ⊢
  have hl : lv_has ls 2 [(0, .ref h1), (1, .int p1)] := hl
  refine lv_iload_n hx hb dX1_branch_0 rfl (lv_at hl 1 rfl) ?_
  refine lv_if_ge (tgt := 8) hx hb dX1_branch_1 (by decide) (fun hc1 => ?_) (fun hc1 => ?_)
  · exact absurd hp (na_nlt hc1)
  · refine lv_iconst (v := -1) hx hb dX1_branch_4 (by decide) ?_
    refine lv_goto (tgt := 14) hx hb dX1_branch_5 (by decide) ?_
    exact W.iret (v := (-1)) hx hb hr (fun t ht hW => ⟨⟨(-1), (), rfl, rfl, by rw [ht]; exact hP, va_K.moved hW.alike hK, hD⟩, hS.F ht⟩) hS.2.2 dX1_branch_14
set_option maxHeartbeats 4000000 in
set_option maxRecDepth 100000 in
/-- branch(p) -/
theorem m_branch_ok (l : Launch) (dC : Nat → ClassId) (dI : Nat → Nat → Nat) (cA cZ : ClassId) (h1 b1 b2 b3 b4 b5 sz : Nat) (g1 g2 g3 g4 g5 : Nat → Int32) (n : Nat) (mk re le la p1 : Int32) (hn : n < 2000) (hp : ¬ p1 < 0) : na_Mi (S := Unit) l yX1_branch wsX1_branch ({ frames := 1, cells := 0, slots := 0, locals := 22 }) (dC, dI) vwCl [(cA, .int), (cZ, .boolean)] sz [.ref h1, .int p1] [(h1, .inr (1, [.ref b1, .ref b2, .ref b3, .ref b4, .ref b5, .int (nI n), .int mk, .int re, .int le, .int la])), (b1, .inl (cA, 2000, .inl g1)), (b2, .inl (cA, 2000, .inl g2)), (b3, .inl (cZ, 2000, .inl g3)), (b4, .inl (cA, 2001, .inl g4)), (b5, .inl (cA, 2000, .inl g5))] (fun r _ => r = nI n) (fun _ => [(h1, .inr (1, [.ref b1, .ref b2, .ref b3, .ref b4, .ref b5, .int (nI (n + 1)), .int mk, .int re, .int le, .int 0])), (b1, .inl (cA, 2000, .inl (upd g1 n 2))), (b2, .inl (cA, 2000, .inl (upd g2 n p1))), (b3, .inl (cZ, 2000, .inl g3)), (b4, .inl (cA, 2001, .inl g4)), (b5, .inl (cA, 2000, .inl g5))]) := by
  refine Met.ofW (cc := cX1_branch) (maxL := 2) (ret := (some .int)) (by decide) rfl ?_
  intro p e s m args below meth c s₁ B hml hv
  obtain ⟨rfl, hsz, hP, hK, hD0⟩ := hv
  have hx := B.exec
  have hb := B.bytes
  have hr := B.returns
  have hts := atoms_spec (ws := wsX1_branch) B.pre
  have hown : s.vm.findClass RX1 = some m.cls := findClass_of_methodNamed B.named
  have hlocks := B.notSynchronized
  subst hsz
  have hD := hD0.self (sz := s.heap.size)
  generalize hAe : va_A [(h1, .inr (1, [.ref b1, .ref b2, .ref b3, .ref b4, .ref b5, .int (nI n), .int mk, .int re, .int le, .int la])), (b1, .inl (cA, 2000, .inl g1)), (b2, .inl (cA, 2000, .inl g2)), (b3, .inl (cZ, 2000, .inl g3)), (b4, .inl (cA, 2001, .inl g4)), (b5, .inl (cA, 2000, .inl g5))] s.heap.size = A at hD ⊢
  have hA : ∀ q : Nat, s.heap.size ≤ q → A q := fun q h => by rw [← hAe]; exact Or.inr h
  have hS : va_S A s.heap s.heap [] := va_S.rf
  have hP : va_P (dC, dI) vwCl [(h1, .inr (1, [.ref b1, .ref b2, .ref b3, .ref b4, .ref b5, .int (nI n), .int mk, .int re, .int le, .int la])), (b1, .inl (cA, 2000, .inl g1)), (b2, .inl (cA, 2000, .inl g2)), (b3, .inl (cZ, 2000, .inl g3)), (b4, .inl (cA, 2001, .inl g4)), (b5, .inl (cA, 2000, .inl g5))] s.heap := hP
  have hl := lv_entry ([.ref h1, .int p1]) (n := 2) (Nat.le_of_ble_eq_true rfl)
  rw [lg_entry_eq]
  generalize (lg_sl ([.ref h1, .int p1]) ++ List.replicate (2 - (lg_sl ([.ref h1, .int p1])).length) Slot.unset).toArray = ls at hl ⊢
  have hl : lv_has ls 2 [(0, .ref h1), (1, .int p1)] := hl
  refine lv_iload_n hx hb dX1_branch_0 rfl (lv_at hl 1 rfl) ?_
  refine lv_if_ge (tgt := 8) hx hb dX1_branch_1 (by decide) (fun hc1 => ?_) (fun hc1 => ?_)
  · refine lv_aload_n hx hb dX1_branch_8 rfl (lv_at hl 0 rfl) ?_
    refine lv_iconst (v := 2) hx hb dX1_branch_9 (by decide) ?_
    refine lv_iload_n hx hb dX1_branch_10 rfl (lv_at hl 1 rfl) ?_
    refine na_calli (As := [.int 2, .int p1]) (rest := []) (wc := [(h1, .inr (1, [.ref b1, .ref b2, .ref b3, .ref b4, .ref b5, .int (nI n), .int mk, .int re, .int le, .int la])), (b1, .inl (cA, 2000, .inl g1)), (b2, .inl (cA, 2000, .inl g2)), (b3, .inl (cZ, 2000, .inl g3)), (b4, .inl (cA, 2001, .inl g4)), (b5, .inl (cA, 2000, .inl g5))]) (wr := []) (ci := 1) ⟨hx, hb, hml, hown, hts⟩ (m_item l dC dI cA cZ h1 b1 b2 b3 b4 b5 s.heap.size g1 g2 g3 g4 g5 n mk re le la 2 p1 hn) (cwV 2 hts gX1_branch_X1_item rfl rfl rfl (by decide +kernel) ⟨Nat.le_of_ble_eq_true rfl, Nat.le_of_ble_eq_true rfl⟩) hK hP hD hS hA [0, 1, 2, 3, 4, 5] [] rfl rfl rfl rfl (by decide) rfl rfl 0 rfl rfl hl.1 (Nat.le_of_ble_eq_true rfl) dX1_branch_11 ⟨Nat.le_of_ble_eq_true rfl, Nat.le_of_ble_eq_true rfl⟩ rfl (fun r u H locs hw hP hD hS => ?_)
    have hP : va_P (dC, dI) vwCl [(h1, .inr (1, [.ref b1, .ref b2, .ref b3, .ref b4, .ref b5, .int (nI (n + 1)), .int mk, .int re, .int le, .int 0])), (b1, .inl (cA, 2000, .inl (upd g1 n 2))), (b2, .inl (cA, 2000, .inl (upd g2 n p1))), (b3, .inl (cZ, 2000, .inl g3)), (b4, .inl (cA, 2001, .inl g4)), (b5, .inl (cA, 2000, .inl g5))] H := hP
    have hD : va_D A [(h1, .inr (1, [.ref b1, .ref b2, .ref b3, .ref b4, .ref b5, .int (nI (n + 1)), .int mk, .int re, .int le, .int 0])), (b1, .inl (cA, 2000, .inl (upd g1 n 2))), (b2, .inl (cA, 2000, .inl (upd g2 n p1))), (b3, .inl (cZ, 2000, .inl g3)), (b4, .inl (cA, 2001, .inl g4)), (b5, .inl (cA, 2000, .inl g5))] := hD
    subst hw
    exact W.iret (v := (nI n)) hx hb hr (fun t ht hW => ⟨⟨(nI n), (), rfl, rfl, by rw [ht]; exact hP, va_K.moved hW.alike hK, hD⟩, hS.F ht⟩) hS.2.2 dX1_branch_14
  · exact absurd (na_nge0 hp) hc1
set_option maxHeartbeats 4000000 in
set_option maxRecDepth 100000 in
/-- reach(p), refused -/
theorem m_reach_no (l : Launch) (dC : Nat → ClassId) (dI : Nat → Nat → Nat) (cA cZ : ClassId) (h1 b1 b2 b3 b4 b5 sz : Nat) (g1 g2 g3 g4 g5 : Nat → Int32) (n : Nat) (mk re le la p1 : Int32) (hp : p1 < 1 ∨ ¬ p1 ≤ 100000) : na_Mi (S := Unit) l yX1_reach wsX1_reach ({ frames := 0, cells := 0, slots := 0, locals := 0 }) (dC, dI) vwCl [(cA, .int), (cZ, .boolean)] sz [.ref h1, .int p1] [(h1, .inr (1, [.ref b1, .ref b2, .ref b3, .ref b4, .ref b5, .int (nI n), .int mk, .int re, .int le, .int la])), (b1, .inl (cA, 2000, .inl g1)), (b2, .inl (cA, 2000, .inl g2)), (b3, .inl (cZ, 2000, .inl g3)), (b4, .inl (cA, 2001, .inl g4)), (b5, .inl (cA, 2000, .inl g5))] (fun r _ => r = 0) (fun _ => [(h1, .inr (1, [.ref b1, .ref b2, .ref b3, .ref b4, .ref b5, .int (nI n), .int mk, .int re, .int le, .int la])), (b1, .inl (cA, 2000, .inl g1)), (b2, .inl (cA, 2000, .inl g2)), (b3, .inl (cZ, 2000, .inl g3)), (b4, .inl (cA, 2001, .inl g4)), (b5, .inl (cA, 2000, .inl g5))]) := by
  refine Met.ofW (cc := cX1_reach) (maxL := 2) (ret := (some .boolean)) (by decide) rfl ?_
  intro p e s m args below meth c s₁ B hml hv
  obtain ⟨rfl, hsz, hP, hK, hD0⟩ := hv
  have hx := B.exec
  have hb := B.bytes
  have hr := B.returns
  have hts := atoms_spec (ws := wsX1_reach) B.pre
  have hown : s.vm.findClass RX1 = some m.cls := findClass_of_methodNamed B.named
  have hlocks := B.notSynchronized
  subst hsz
  have hD := hD0.self (sz := s.heap.size)
  generalize hAe : va_A [(h1, .inr (1, [.ref b1, .ref b2, .ref b3, .ref b4, .ref b5, .int (nI n), .int mk, .int re, .int le, .int la])), (b1, .inl (cA, 2000, .inl g1)), (b2, .inl (cA, 2000, .inl g2)), (b3, .inl (cZ, 2000, .inl g3)), (b4, .inl (cA, 2001, .inl g4)), (b5, .inl (cA, 2000, .inl g5))] s.heap.size = A at hD ⊢
  have hA : ∀ q : Nat, s.heap.size ≤ q → A q := fun q h => by rw [← hAe]; exact Or.inr h
  have hS : va_S A s.heap s.heap [] := va_S.rf
  have hP : va_P (dC, dI) vwCl [(h1, .inr (1, [.ref b1, .ref b2, .ref b3, .ref b4, .ref b5, .int (nI n), .int mk, .int re, .int le, .int la])), (b1, .inl (cA, 2000, .inl g1)), (b2, .inl (cA, 2000, .inl g2)), (b3, .inl (cZ, 2000, .inl g3)), (b4, .inl (cA, 2001, .inl g4)), (b5, .inl (cA, 2000, .inl g5))] s.heap := hP
  have hl := lv_entry ([.ref h1, .int p1]) (n := 2) (Nat.le_of_ble_eq_true rfl)
  rw [lg_entry_eq]
  generalize (lg_sl ([.ref h1, .int p1]) ++ List.replicate (2 - (lg_sl ([.ref h1, .int p1])).length) Slot.unset).toArray = ls at hl ⊢
  have hl : lv_has ls 2 [(0, .ref h1), (1, .int p1)] := hl
  refine lv_iload_n hx hb dX1_reach_0 rfl (lv_at hl 1 rfl) ?_
  refine lv_iconst (v := 1) hx hb dX1_reach_1 (by decide) ?_
  refine lv_icmp_lt (tgt := 11) hx hb dX1_reach_2 (by decide) (fun hc1 => ?_) (fun hc1 => ?_)
  · refine lv_iconst (v := 0) hx hb dX1_reach_11 (by decide) ?_
    exact W.zret (v := 0) hx hb hr rfl (fun t ht hW => ⟨⟨0, (), rfl, rfl, by rw [ht]; exact hP, va_K.moved hW.alike hK, hD⟩, hS.F ht⟩) hS.2.2 dX1_reach_12
  · refine lv_iload_n hx hb dX1_reach_5 rfl (lv_at hl 1 rfl) ?_
    refine lv_ldc (v := 100000) hx hb hown (hts (.constant RX1 47 100000) (by decide +kernel)) dX1_reach_6 ?_
    refine lv_icmp_le (tgt := 13) hx hb dX1_reach_8 (by decide) (fun hc2 => ?_) (fun hc2 => ?_)
    · exact absurd hp (fun q => q.elim hc1 (fun z => z hc2))
    · refine lv_iconst (v := 0) hx hb dX1_reach_11 (by decide) ?_
      exact W.zret (v := 0) hx hb hr rfl (fun t ht hW => ⟨⟨0, (), rfl, rfl, by rw [ht]; exact hP, va_K.moved hW.alike hK, hD⟩, hS.F ht⟩) hS.2.2 dX1_reach_12
set_option maxHeartbeats 4000000 in
set_option maxRecDepth 100000 in
/-- reach(p) -/
theorem m_reach_ok (l : Launch) (dC : Nat → ClassId) (dI : Nat → Nat → Nat) (cA cZ : ClassId) (h1 b1 b2 b3 b4 b5 sz : Nat) (g1 g2 g3 g4 g5 : Nat → Int32) (n : Nat) (mk re le la p1 : Int32) (hp1 : ¬ p1 < 1) (hp2 : p1 ≤ 100000) : na_Mi (S := Unit) l yX1_reach wsX1_reach ({ frames := 0, cells := 0, slots := 0, locals := 0 }) (dC, dI) vwCl [(cA, .int), (cZ, .boolean)] sz [.ref h1, .int p1] [(h1, .inr (1, [.ref b1, .ref b2, .ref b3, .ref b4, .ref b5, .int (nI n), .int mk, .int re, .int le, .int la])), (b1, .inl (cA, 2000, .inl g1)), (b2, .inl (cA, 2000, .inl g2)), (b3, .inl (cZ, 2000, .inl g3)), (b4, .inl (cA, 2001, .inl g4)), (b5, .inl (cA, 2000, .inl g5))] (fun r _ => r = 1) (fun _ => [(h1, .inr (1, [.ref b1, .ref b2, .ref b3, .ref b4, .ref b5, .int (nI n), .int mk, .int p1, .int le, .int 0])), (b1, .inl (cA, 2000, .inl g1)), (b2, .inl (cA, 2000, .inl g2)), (b3, .inl (cZ, 2000, .inl g3)), (b4, .inl (cA, 2001, .inl g4)), (b5, .inl (cA, 2000, .inl g5))]) := by
  refine Met.ofW (cc := cX1_reach) (maxL := 2) (ret := (some .boolean)) (by decide) rfl ?_
  intro p e s m args below meth c s₁ B hml hv
  obtain ⟨rfl, hsz, hP, hK, hD0⟩ := hv
  have hx := B.exec
  have hb := B.bytes
  have hr := B.returns
  have hts := atoms_spec (ws := wsX1_reach) B.pre
  have hown : s.vm.findClass RX1 = some m.cls := findClass_of_methodNamed B.named
  have hlocks := B.notSynchronized
  subst hsz
  have hD := hD0.self (sz := s.heap.size)
  generalize hAe : va_A [(h1, .inr (1, [.ref b1, .ref b2, .ref b3, .ref b4, .ref b5, .int (nI n), .int mk, .int re, .int le, .int la])), (b1, .inl (cA, 2000, .inl g1)), (b2, .inl (cA, 2000, .inl g2)), (b3, .inl (cZ, 2000, .inl g3)), (b4, .inl (cA, 2001, .inl g4)), (b5, .inl (cA, 2000, .inl g5))] s.heap.size = A at hD ⊢
  have hA : ∀ q : Nat, s.heap.size ≤ q → A q := fun q h => by rw [← hAe]; exact Or.inr h
  have hS : va_S A s.heap s.heap [] := va_S.rf
  have hP : va_P (dC, dI) vwCl [(h1, .inr (1, [.ref b1, .ref b2, .ref b3, .ref b4, .ref b5, .int (nI n), .int mk, .int re, .int le, .int la])), (b1, .inl (cA, 2000, .inl g1)), (b2, .inl (cA, 2000, .inl g2)), (b3, .inl (cZ, 2000, .inl g3)), (b4, .inl (cA, 2001, .inl g4)), (b5, .inl (cA, 2000, .inl g5))] s.heap := hP
  have hl := lv_entry ([.ref h1, .int p1]) (n := 2) (Nat.le_of_ble_eq_true rfl)
  rw [lg_entry_eq]
  generalize (lg_sl ([.ref h1, .int p1]) ++ List.replicate (2 - (lg_sl ([.ref h1, .int p1])).length) Slot.unset).toArray = ls at hl ⊢
  have hl : lv_has ls 2 [(0, .ref h1), (1, .int p1)] := hl
  refine lv_iload_n hx hb dX1_reach_0 rfl (lv_at hl 1 rfl) ?_
  refine lv_iconst (v := 1) hx hb dX1_reach_1 (by decide) ?_
  refine lv_icmp_lt (tgt := 11) hx hb dX1_reach_2 (by decide) (fun hc1 => ?_) (fun hc1 => ?_)
  · exact absurd hc1 hp1
  · refine lv_iload_n hx hb dX1_reach_5 rfl (lv_at hl 1 rfl) ?_
    refine lv_ldc (v := 100000) hx hb hown (hts (.constant RX1 47 100000) (by decide +kernel)) dX1_reach_6 ?_
    refine lv_icmp_le (tgt := 13) hx hb dX1_reach_8 (by decide) (fun hc2 => ?_) (fun hc2 => ?_)
    · refine lv_aload_n hx hb dX1_reach_13 rfl (lv_at hl 0 rfl) ?_
      refine lv_iload_n hx hb dX1_reach_14 rfl (lv_at hl 1 rfl) ?_
      refine va_put (D := (dC, dI)) (ci := 1) (v := .int p1) (ty := .int) (C := RX1) (T := TX1) (N := 10) hx hb hts in_X1_reach tyX1 tyX1_ok nmX1 hown hK hP hD hS 0 rfl rfl 7 (by decide) (hts (.fieldLink RX1 26 "BranchLengthsModel" "reach" "I") (by decide +kernel)) (fun _ h9 => h9) rfl (by decide +kernel) rfl rfl (Nat.le_of_ble_eq_true rfl) dX1_reach_15 (fun H locs hP hD hS => ?_)
      have hP : va_P (dC, dI) vwCl [(h1, .inr (1, [.ref b1, .ref b2, .ref b3, .ref b4, .ref b5, .int (nI n), .int mk, .int p1, .int le, .int la])), (b1, .inl (cA, 2000, .inl g1)), (b2, .inl (cA, 2000, .inl g2)), (b3, .inl (cZ, 2000, .inl g3)), (b4, .inl (cA, 2001, .inl g4)), (b5, .inl (cA, 2000, .inl g5))] H := hP
      have hD : va_D A [(h1, .inr (1, [.ref b1, .ref b2, .ref b3, .ref b4, .ref b5, .int (nI n), .int mk, .int p1, .int le, .int la])), (b1, .inl (cA, 2000, .inl g1)), (b2, .inl (cA, 2000, .inl g2)), (b3, .inl (cZ, 2000, .inl g3)), (b4, .inl (cA, 2001, .inl g4)), (b5, .inl (cA, 2000, .inl g5))] := hD
      refine lv_aload_n hx hb dX1_reach_18 rfl (lv_at hl 0 rfl) ?_
      refine lv_iconst (v := 0) hx hb dX1_reach_19 (by decide) ?_
      refine va_put (D := (dC, dI)) (ci := 1) (v := .int 0) (ty := .boolean) (C := RX1) (T := TX1) (N := 10) hx hb hts in_X1_reach tyX1 tyX1_ok nmX1 hown hK hP hD hS 0 rfl rfl 9 (by decide) (hts (.fieldLink RX1 36 "BranchLengthsModel" "laid" "Z") (by decide +kernel)) (fun _ h9 => h9) rfl (by decide +kernel) rfl rfl (Nat.le_of_ble_eq_true rfl) dX1_reach_20 (fun H locs hP hD hS => ?_)
      have hP : va_P (dC, dI) vwCl [(h1, .inr (1, [.ref b1, .ref b2, .ref b3, .ref b4, .ref b5, .int (nI n), .int mk, .int p1, .int le, .int 0])), (b1, .inl (cA, 2000, .inl g1)), (b2, .inl (cA, 2000, .inl g2)), (b3, .inl (cZ, 2000, .inl g3)), (b4, .inl (cA, 2001, .inl g4)), (b5, .inl (cA, 2000, .inl g5))] H := hP
      have hD : va_D A [(h1, .inr (1, [.ref b1, .ref b2, .ref b3, .ref b4, .ref b5, .int (nI n), .int mk, .int p1, .int le, .int 0])), (b1, .inl (cA, 2000, .inl g1)), (b2, .inl (cA, 2000, .inl g2)), (b3, .inl (cZ, 2000, .inl g3)), (b4, .inl (cA, 2001, .inl g4)), (b5, .inl (cA, 2000, .inl g5))] := hD
      refine lv_iconst (v := 1) hx hb dX1_reach_23 (by decide) ?_
      exact W.zret (v := 1) hx hb hr rfl (fun t ht hW => ⟨⟨1, (), rfl, rfl, by rw [ht]; exact hP, va_K.moved hW.alike hK, hD⟩, hS.F ht⟩) hS.2.2 dX1_reach_24
    · exact absurd hp2 hc2
set_option maxHeartbeats 4000000 in
set_option maxRecDepth 100000 in
/-- least() -/
theorem m_least (l : Launch) (dC : Nat → ClassId) (dI : Nat → Nat → Nat) (cA cZ : ClassId) (h1 b1 b2 b3 b4 b5 sz : Nat) (g1 g2 g3 g4 g5 : Nat → Int32) (n : Nat) (mk re le la : Int32)  : na_Mi (S := Unit) l yX1_least wsX1_least ({ frames := 0, cells := 0, slots := 0, locals := 0 }) (dC, dI) vwCl [(cA, .int), (cZ, .boolean)] sz [.ref h1] [(h1, .inr (1, [.ref b1, .ref b2, .ref b3, .ref b4, .ref b5, .int (nI n), .int mk, .int re, .int le, .int la])), (b1, .inl (cA, 2000, .inl g1)), (b2, .inl (cA, 2000, .inl g2)), (b3, .inl (cZ, 2000, .inl g3)), (b4, .inl (cA, 2001, .inl g4)), (b5, .inl (cA, 2000, .inl g5))] (fun r _ => r = le) (fun _ => [(h1, .inr (1, [.ref b1, .ref b2, .ref b3, .ref b4, .ref b5, .int (nI n), .int mk, .int re, .int le, .int la])), (b1, .inl (cA, 2000, .inl g1)), (b2, .inl (cA, 2000, .inl g2)), (b3, .inl (cZ, 2000, .inl g3)), (b4, .inl (cA, 2001, .inl g4)), (b5, .inl (cA, 2000, .inl g5))]) := by
  refine Met.ofW (cc := cX1_least) (maxL := 1) (ret := (some .int)) (by decide) rfl ?_
  intro p e s m args below meth c s₁ B hml hv
  obtain ⟨rfl, hsz, hP, hK, hD0⟩ := hv
  have hx := B.exec
  have hb := B.bytes
  have hr := B.returns
  have hts := atoms_spec (ws := wsX1_least) B.pre
  have hown : s.vm.findClass RX1 = some m.cls := findClass_of_methodNamed B.named
  have hlocks := B.notSynchronized
  subst hsz
  have hD := hD0.self (sz := s.heap.size)
  generalize hAe : va_A [(h1, .inr (1, [.ref b1, .ref b2, .ref b3, .ref b4, .ref b5, .int (nI n), .int mk, .int re, .int le, .int la])), (b1, .inl (cA, 2000, .inl g1)), (b2, .inl (cA, 2000, .inl g2)), (b3, .inl (cZ, 2000, .inl g3)), (b4, .inl (cA, 2001, .inl g4)), (b5, .inl (cA, 2000, .inl g5))] s.heap.size = A at hD ⊢
  have hA : ∀ q : Nat, s.heap.size ≤ q → A q := fun q h => by rw [← hAe]; exact Or.inr h
  have hS : va_S A s.heap s.heap [] := va_S.rf
  have hP : va_P (dC, dI) vwCl [(h1, .inr (1, [.ref b1, .ref b2, .ref b3, .ref b4, .ref b5, .int (nI n), .int mk, .int re, .int le, .int la])), (b1, .inl (cA, 2000, .inl g1)), (b2, .inl (cA, 2000, .inl g2)), (b3, .inl (cZ, 2000, .inl g3)), (b4, .inl (cA, 2001, .inl g4)), (b5, .inl (cA, 2000, .inl g5))] s.heap := hP
  have hl := lv_entry ([.ref h1]) (n := 1) (Nat.le_of_ble_eq_true rfl)
  rw [lg_entry_eq]
  generalize (lg_sl ([.ref h1]) ++ List.replicate (1 - (lg_sl ([.ref h1])).length) Slot.unset).toArray = ls at hl ⊢
  have hl : lv_has ls 1 [(0, .ref h1)] := hl
  refine lv_aload_n hx hb dX1_least_0 rfl (lv_at hl 0 rfl) ?_
  refine va_get (D := (dC, dI)) (ci := 1) (v := .int le) (C := RX1) (T := TX1) (N := 10) hx hb hts in_X1_least hown hK hP 0 rfl rfl 8 (by decide) (hts (.fieldLink RX1 30 "BranchLengthsModel" "least" "I") (by decide +kernel)) (fun _ h9 => h9) rfl dX1_least_1 ?_
  exact W.iret (v := le) hx hb hr (fun t ht hW => ⟨⟨le, (), rfl, rfl, by rw [ht]; exact hP, va_K.moved hW.alike hK, hD⟩, hS.F ht⟩) hS.2.2 dX1_least_4
set_option maxHeartbeats 4000000 in
set_option maxRecDepth 100000 in
/-- items() -/
theorem m_items (l : Launch) (dC : Nat → ClassId) (dI : Nat → Nat → Nat) (cA cZ : ClassId) (h1 b1 b2 b3 b4 b5 sz : Nat) (g1 g2 g3 g4 g5 : Nat → Int32) (n : Nat) (mk re le la : Int32)  : na_Mi (S := Unit) l yX1_items wsX1_items ({ frames := 0, cells := 0, slots := 0, locals := 0 }) (dC, dI) vwCl [(cA, .int), (cZ, .boolean)] sz [.ref h1] [(h1, .inr (1, [.ref b1, .ref b2, .ref b3, .ref b4, .ref b5, .int (nI n), .int mk, .int re, .int le, .int la])), (b1, .inl (cA, 2000, .inl g1)), (b2, .inl (cA, 2000, .inl g2)), (b3, .inl (cZ, 2000, .inl g3)), (b4, .inl (cA, 2001, .inl g4)), (b5, .inl (cA, 2000, .inl g5))] (fun r _ => r = nI n) (fun _ => [(h1, .inr (1, [.ref b1, .ref b2, .ref b3, .ref b4, .ref b5, .int (nI n), .int mk, .int re, .int le, .int la])), (b1, .inl (cA, 2000, .inl g1)), (b2, .inl (cA, 2000, .inl g2)), (b3, .inl (cZ, 2000, .inl g3)), (b4, .inl (cA, 2001, .inl g4)), (b5, .inl (cA, 2000, .inl g5))]) := by
  refine Met.ofW (cc := cX1_items) (maxL := 1) (ret := (some .int)) (by decide) rfl ?_
  intro p e s m args below meth c s₁ B hml hv
  obtain ⟨rfl, hsz, hP, hK, hD0⟩ := hv
  have hx := B.exec
  have hb := B.bytes
  have hr := B.returns
  have hts := atoms_spec (ws := wsX1_items) B.pre
  have hown : s.vm.findClass RX1 = some m.cls := findClass_of_methodNamed B.named
  have hlocks := B.notSynchronized
  subst hsz
  have hD := hD0.self (sz := s.heap.size)
  generalize hAe : va_A [(h1, .inr (1, [.ref b1, .ref b2, .ref b3, .ref b4, .ref b5, .int (nI n), .int mk, .int re, .int le, .int la])), (b1, .inl (cA, 2000, .inl g1)), (b2, .inl (cA, 2000, .inl g2)), (b3, .inl (cZ, 2000, .inl g3)), (b4, .inl (cA, 2001, .inl g4)), (b5, .inl (cA, 2000, .inl g5))] s.heap.size = A at hD ⊢
  have hA : ∀ q : Nat, s.heap.size ≤ q → A q := fun q h => by rw [← hAe]; exact Or.inr h
  have hS : va_S A s.heap s.heap [] := va_S.rf
  have hP : va_P (dC, dI) vwCl [(h1, .inr (1, [.ref b1, .ref b2, .ref b3, .ref b4, .ref b5, .int (nI n), .int mk, .int re, .int le, .int la])), (b1, .inl (cA, 2000, .inl g1)), (b2, .inl (cA, 2000, .inl g2)), (b3, .inl (cZ, 2000, .inl g3)), (b4, .inl (cA, 2001, .inl g4)), (b5, .inl (cA, 2000, .inl g5))] s.heap := hP
  have hl := lv_entry ([.ref h1]) (n := 1) (Nat.le_of_ble_eq_true rfl)
  rw [lg_entry_eq]
  generalize (lg_sl ([.ref h1]) ++ List.replicate (1 - (lg_sl ([.ref h1])).length) Slot.unset).toArray = ls at hl ⊢
  have hl : lv_has ls 1 [(0, .ref h1)] := hl
  refine lv_aload_n hx hb dX1_items_0 rfl (lv_at hl 0 rfl) ?_
  refine va_get (D := (dC, dI)) (ci := 1) (v := .int (nI n)) (C := RX1) (T := TX1) (N := 10) hx hb hts in_X1_items hown hK hP 0 rfl rfl 5 (by decide) (hts (.fieldLink RX1 33 "BranchLengthsModel" "items" "I") (by decide +kernel)) (fun _ h9 => h9) rfl dX1_items_1 ?_
  exact W.iret (v := (nI n)) hx hb hr (fun t ht hW => ⟨⟨(nI n), (), rfl, rfl, by rw [ht]; exact hP, va_K.moved hW.alike hK, hD⟩, hS.F ht⟩) hS.2.2 dX1_items_4
set_option maxHeartbeats 4000000 in
set_option maxRecDepth 100000 in
/-- marks() -/
theorem m_marks (l : Launch) (dC : Nat → ClassId) (dI : Nat → Nat → Nat) (cA cZ : ClassId) (h1 b1 b2 b3 b4 b5 sz : Nat) (g1 g2 g3 g4 g5 : Nat → Int32) (n : Nat) (mk re le la : Int32)  : na_Mi (S := Unit) l yX1_marks wsX1_marks ({ frames := 0, cells := 0, slots := 0, locals := 0 }) (dC, dI) vwCl [(cA, .int), (cZ, .boolean)] sz [.ref h1] [(h1, .inr (1, [.ref b1, .ref b2, .ref b3, .ref b4, .ref b5, .int (nI n), .int mk, .int re, .int le, .int la])), (b1, .inl (cA, 2000, .inl g1)), (b2, .inl (cA, 2000, .inl g2)), (b3, .inl (cZ, 2000, .inl g3)), (b4, .inl (cA, 2001, .inl g4)), (b5, .inl (cA, 2000, .inl g5))] (fun r _ => r = mk) (fun _ => [(h1, .inr (1, [.ref b1, .ref b2, .ref b3, .ref b4, .ref b5, .int (nI n), .int mk, .int re, .int le, .int la])), (b1, .inl (cA, 2000, .inl g1)), (b2, .inl (cA, 2000, .inl g2)), (b3, .inl (cZ, 2000, .inl g3)), (b4, .inl (cA, 2001, .inl g4)), (b5, .inl (cA, 2000, .inl g5))]) := by
  refine Met.ofW (cc := cX1_marks) (maxL := 1) (ret := (some .int)) (by decide) rfl ?_
  intro p e s m args below meth c s₁ B hml hv
  obtain ⟨rfl, hsz, hP, hK, hD0⟩ := hv
  have hx := B.exec
  have hb := B.bytes
  have hr := B.returns
  have hts := atoms_spec (ws := wsX1_marks) B.pre
  have hown : s.vm.findClass RX1 = some m.cls := findClass_of_methodNamed B.named
  have hlocks := B.notSynchronized
  subst hsz
  have hD := hD0.self (sz := s.heap.size)
  generalize hAe : va_A [(h1, .inr (1, [.ref b1, .ref b2, .ref b3, .ref b4, .ref b5, .int (nI n), .int mk, .int re, .int le, .int la])), (b1, .inl (cA, 2000, .inl g1)), (b2, .inl (cA, 2000, .inl g2)), (b3, .inl (cZ, 2000, .inl g3)), (b4, .inl (cA, 2001, .inl g4)), (b5, .inl (cA, 2000, .inl g5))] s.heap.size = A at hD ⊢
  have hA : ∀ q : Nat, s.heap.size ≤ q → A q := fun q h => by rw [← hAe]; exact Or.inr h
  have hS : va_S A s.heap s.heap [] := va_S.rf
  have hP : va_P (dC, dI) vwCl [(h1, .inr (1, [.ref b1, .ref b2, .ref b3, .ref b4, .ref b5, .int (nI n), .int mk, .int re, .int le, .int la])), (b1, .inl (cA, 2000, .inl g1)), (b2, .inl (cA, 2000, .inl g2)), (b3, .inl (cZ, 2000, .inl g3)), (b4, .inl (cA, 2001, .inl g4)), (b5, .inl (cA, 2000, .inl g5))] s.heap := hP
  have hl := lv_entry ([.ref h1]) (n := 1) (Nat.le_of_ble_eq_true rfl)
  rw [lg_entry_eq]
  generalize (lg_sl ([.ref h1]) ++ List.replicate (1 - (lg_sl ([.ref h1])).length) Slot.unset).toArray = ls at hl ⊢
  have hl : lv_has ls 1 [(0, .ref h1)] := hl
  refine lv_aload_n hx hb dX1_marks_0 rfl (lv_at hl 0 rfl) ?_
  refine va_get (D := (dC, dI)) (ci := 1) (v := .int mk) (C := RX1) (T := TX1) (N := 10) hx hb hts in_X1_marks hown hK hP 0 rfl rfl 6 (by decide) (hts (.fieldLink RX1 44 "BranchLengthsModel" "marks" "I") (by decide +kernel)) (fun _ h9 => h9) rfl dX1_marks_1 ?_
  exact W.iret (v := mk) hx hb hr (fun t ht hW => ⟨⟨mk, (), rfl, rfl, by rw [ht]; exact hP, va_K.moved hW.alike hK, hD⟩, hS.F ht⟩) hS.2.2 dX1_marks_4
set_option maxHeartbeats 4000000 in
set_option maxRecDepth 100000 in
/-- clear() -/
theorem m_clear (l : Launch) (dC : Nat → ClassId) (dI : Nat → Nat → Nat) (cA cZ : ClassId) (h1 b1 b2 b3 b4 b5 sz : Nat) (g1 g2 g3 g4 g5 : Nat → Int32) (n : Nat) (mk re le la : Int32)  : na_Mv (S := Unit) l yX1_clear wsX1_clear ({ frames := 0, cells := 0, slots := 0, locals := 0 }) (dC, dI) vwCl [(cA, .int), (cZ, .boolean)] sz [.ref h1] [(h1, .inr (1, [.ref b1, .ref b2, .ref b3, .ref b4, .ref b5, .int (nI n), .int mk, .int re, .int le, .int la])), (b1, .inl (cA, 2000, .inl g1)), (b2, .inl (cA, 2000, .inl g2)), (b3, .inl (cZ, 2000, .inl g3)), (b4, .inl (cA, 2001, .inl g4)), (b5, .inl (cA, 2000, .inl g5))] (fun _ => True) (fun _ => [(h1, .inr (1, [.ref b1, .ref b2, .ref b3, .ref b4, .ref b5, .int (nI 0), .int (nI 0), .int re, .int le, .int 0])), (b1, .inl (cA, 2000, .inl g1)), (b2, .inl (cA, 2000, .inl g2)), (b3, .inl (cZ, 2000, .inl g3)), (b4, .inl (cA, 2001, .inl g4)), (b5, .inl (cA, 2000, .inl g5))]) := by
  refine Met.ofW (cc := cX1_clear) (maxL := 1) (ret := none) (by decide) rfl ?_
  intro p e s m args below meth c s₁ B hml hv
  obtain ⟨rfl, hsz, hP, hK, hD0⟩ := hv
  have hx := B.exec
  have hb := B.bytes
  have hr := B.returns
  have hts := atoms_spec (ws := wsX1_clear) B.pre
  have hown : s.vm.findClass RX1 = some m.cls := findClass_of_methodNamed B.named
  have hlocks := B.notSynchronized
  subst hsz
  have hD := hD0.self (sz := s.heap.size)
  generalize hAe : va_A [(h1, .inr (1, [.ref b1, .ref b2, .ref b3, .ref b4, .ref b5, .int (nI n), .int mk, .int re, .int le, .int la])), (b1, .inl (cA, 2000, .inl g1)), (b2, .inl (cA, 2000, .inl g2)), (b3, .inl (cZ, 2000, .inl g3)), (b4, .inl (cA, 2001, .inl g4)), (b5, .inl (cA, 2000, .inl g5))] s.heap.size = A at hD ⊢
  have hA : ∀ q : Nat, s.heap.size ≤ q → A q := fun q h => by rw [← hAe]; exact Or.inr h
  have hS : va_S A s.heap s.heap [] := va_S.rf
  have hP : va_P (dC, dI) vwCl [(h1, .inr (1, [.ref b1, .ref b2, .ref b3, .ref b4, .ref b5, .int (nI n), .int mk, .int re, .int le, .int la])), (b1, .inl (cA, 2000, .inl g1)), (b2, .inl (cA, 2000, .inl g2)), (b3, .inl (cZ, 2000, .inl g3)), (b4, .inl (cA, 2001, .inl g4)), (b5, .inl (cA, 2000, .inl g5))] s.heap := hP
  have hl := lv_entry ([.ref h1]) (n := 1) (Nat.le_of_ble_eq_true rfl)
  rw [lg_entry_eq]
  generalize (lg_sl ([.ref h1]) ++ List.replicate (1 - (lg_sl ([.ref h1])).length) Slot.unset).toArray = ls at hl ⊢
  have hl : lv_has ls 1 [(0, .ref h1)] := hl
  refine lv_aload_n hx hb dX1_clear_0 rfl (lv_at hl 0 rfl) ?_
  refine lv_iconst (v := nI 0) hx hb dX1_clear_1 (by decide) ?_
  refine va_put (D := (dC, dI)) (ci := 1) (v := .int (nI 0)) (ty := .int) (C := RX1) (T := TX1) (N := 10) hx hb hts in_X1_clear tyX1 tyX1_ok nmX1 hown hK hP hD hS 0 rfl rfl 5 (by decide) (hts (.fieldLink RX1 33 "BranchLengthsModel" "items" "I") (by decide +kernel)) (fun _ h9 => h9) rfl (by decide +kernel) rfl rfl (Nat.le_of_ble_eq_true rfl) dX1_clear_2 (fun H locs hP hD hS => ?_)
  have hP : va_P (dC, dI) vwCl [(h1, .inr (1, [.ref b1, .ref b2, .ref b3, .ref b4, .ref b5, .int (nI 0), .int mk, .int re, .int le, .int la])), (b1, .inl (cA, 2000, .inl g1)), (b2, .inl (cA, 2000, .inl g2)), (b3, .inl (cZ, 2000, .inl g3)), (b4, .inl (cA, 2001, .inl g4)), (b5, .inl (cA, 2000, .inl g5))] H := hP
  have hD : va_D A [(h1, .inr (1, [.ref b1, .ref b2, .ref b3, .ref b4, .ref b5, .int (nI 0), .int mk, .int re, .int le, .int la])), (b1, .inl (cA, 2000, .inl g1)), (b2, .inl (cA, 2000, .inl g2)), (b3, .inl (cZ, 2000, .inl g3)), (b4, .inl (cA, 2001, .inl g4)), (b5, .inl (cA, 2000, .inl g5))] := hD
  refine lv_aload_n hx hb dX1_clear_5 rfl (lv_at hl 0 rfl) ?_
  refine lv_iconst (v := nI 0) hx hb dX1_clear_6 (by decide) ?_
  refine va_put (D := (dC, dI)) (ci := 1) (v := .int (nI 0)) (ty := .int) (C := RX1) (T := TX1) (N := 10) hx hb hts in_X1_clear tyX1 tyX1_ok nmX1 hown hK hP hD hS 0 rfl rfl 6 (by decide) (hts (.fieldLink RX1 44 "BranchLengthsModel" "marks" "I") (by decide +kernel)) (fun _ h9 => h9) rfl (by decide +kernel) rfl rfl (Nat.le_of_ble_eq_true rfl) dX1_clear_7 (fun H locs hP hD hS => ?_)
  have hP : va_P (dC, dI) vwCl [(h1, .inr (1, [.ref b1, .ref b2, .ref b3, .ref b4, .ref b5, .int (nI 0), .int (nI 0), .int re, .int le, .int la])), (b1, .inl (cA, 2000, .inl g1)), (b2, .inl (cA, 2000, .inl g2)), (b3, .inl (cZ, 2000, .inl g3)), (b4, .inl (cA, 2001, .inl g4)), (b5, .inl (cA, 2000, .inl g5))] H := hP
  have hD : va_D A [(h1, .inr (1, [.ref b1, .ref b2, .ref b3, .ref b4, .ref b5, .int (nI 0), .int (nI 0), .int re, .int le, .int la])), (b1, .inl (cA, 2000, .inl g1)), (b2, .inl (cA, 2000, .inl g2)), (b3, .inl (cZ, 2000, .inl g3)), (b4, .inl (cA, 2001, .inl g4)), (b5, .inl (cA, 2000, .inl g5))] := hD
  refine lv_aload_n hx hb dX1_clear_10 rfl (lv_at hl 0 rfl) ?_
  refine lv_iconst (v := 0) hx hb dX1_clear_11 (by decide) ?_
  refine va_put (D := (dC, dI)) (ci := 1) (v := .int 0) (ty := .boolean) (C := RX1) (T := TX1) (N := 10) hx hb hts in_X1_clear tyX1 tyX1_ok nmX1 hown hK hP hD hS 0 rfl rfl 9 (by decide) (hts (.fieldLink RX1 36 "BranchLengthsModel" "laid" "Z") (by decide +kernel)) (fun _ h9 => h9) rfl (by decide +kernel) rfl rfl (Nat.le_of_ble_eq_true rfl) dX1_clear_12 (fun H locs hP hD hS => ?_)
  have hP : va_P (dC, dI) vwCl [(h1, .inr (1, [.ref b1, .ref b2, .ref b3, .ref b4, .ref b5, .int (nI 0), .int (nI 0), .int re, .int le, .int 0])), (b1, .inl (cA, 2000, .inl g1)), (b2, .inl (cA, 2000, .inl g2)), (b3, .inl (cZ, 2000, .inl g3)), (b4, .inl (cA, 2001, .inl g4)), (b5, .inl (cA, 2000, .inl g5))] H := hP
  have hD : va_D A [(h1, .inr (1, [.ref b1, .ref b2, .ref b3, .ref b4, .ref b5, .int (nI 0), .int (nI 0), .int re, .int le, .int 0])), (b1, .inl (cA, 2000, .inl g1)), (b2, .inl (cA, 2000, .inl g2)), (b3, .inl (cZ, 2000, .inl g3)), (b4, .inl (cA, 2001, .inl g4)), (b5, .inl (cA, 2000, .inl g5))] := hD
  exact W.vret hx hb hr (fun t ht hW => ⟨⟨(), rfl, trivial, by rw [ht]; exact hP, va_K.moved hW.alike hK, hD⟩, hS.F ht⟩) hS.2.2 dX1_clear_15
set_option maxHeartbeats 4000000 in
set_option maxRecDepth 100000 in
/-- place(p), none -/
theorem m_place_out (l : Launch) (dC : Nat → ClassId) (dI : Nat → Nat → Nat) (cA cZ : ClassId) (h1 b1 b2 b3 b4 b5 sz : Nat) (g1 g2 g3 g4 g5 : Nat → Int32) (n : Nat) (mk re le la p1 : Int32) (hp : la = 0 ∨ p1 < 0 ∨ nI n ≤ p1) : na_Mi (S := Unit) l yX1_place wsX1_place ({ frames := 0, cells := 0, slots := 0, locals := 0 }) (dC, dI) vwCl [(cA, .int), (cZ, .boolean)] sz [.ref h1, .int p1] [(h1, .inr (1, [.ref b1, .ref b2, .ref b3, .ref b4, .ref b5, .int (nI n), .int mk, .int re, .int le, .int la])), (b1, .inl (cA, 2000, .inl g1)), (b2, .inl (cA, 2000, .inl g2)), (b3, .inl (cZ, 2000, .inl g3)), (b4, .inl (cA, 2001, .inl g4)), (b5, .inl (cA, 2000, .inl g5))] (fun r _ => r = -1) (fun _ => [(h1, .inr (1, [.ref b1, .ref b2, .ref b3, .ref b4, .ref b5, .int (nI n), .int mk, .int re, .int le, .int la])), (b1, .inl (cA, 2000, .inl g1)), (b2, .inl (cA, 2000, .inl g2)), (b3, .inl (cZ, 2000, .inl g3)), (b4, .inl (cA, 2001, .inl g4)), (b5, .inl (cA, 2000, .inl g5))]) := by
  refine Met.ofW (cc := cX1_place) (maxL := 2) (ret := (some .int)) (by decide) rfl ?_
  intro p e s m args below meth c s₁ B hml hv
  obtain ⟨rfl, hsz, hP, hK, hD0⟩ := hv
  have hx := B.exec
  have hb := B.bytes
  have hr := B.returns
  have hts := atoms_spec (ws := wsX1_place) B.pre
  have hown : s.vm.findClass RX1 = some m.cls := findClass_of_methodNamed B.named
  have hlocks := B.notSynchronized
  subst hsz
  have hD := hD0.self (sz := s.heap.size)
  generalize hAe : va_A [(h1, .inr (1, [.ref b1, .ref b2, .ref b3, .ref b4, .ref b5, .int (nI n), .int mk, .int re, .int le, .int la])), (b1, .inl (cA, 2000, .inl g1)), (b2, .inl (cA, 2000, .inl g2)), (b3, .inl (cZ, 2000, .inl g3)), (b4, .inl (cA, 2001, .inl g4)), (b5, .inl (cA, 2000, .inl g5))] s.heap.size = A at hD ⊢
  have hA : ∀ q : Nat, s.heap.size ≤ q → A q := fun q h => by rw [← hAe]; exact Or.inr h
  have hS : va_S A s.heap s.heap [] := va_S.rf
  have hP : va_P (dC, dI) vwCl [(h1, .inr (1, [.ref b1, .ref b2, .ref b3, .ref b4, .ref b5, .int (nI n), .int mk, .int re, .int le, .int la])), (b1, .inl (cA, 2000, .inl g1)), (b2, .inl (cA, 2000, .inl g2)), (b3, .inl (cZ, 2000, .inl g3)), (b4, .inl (cA, 2001, .inl g4)), (b5, .inl (cA, 2000, .inl g5))] s.heap := hP
  have hl := lv_entry ([.ref h1, .int p1]) (n := 2) (Nat.le_of_ble_eq_true rfl)
  rw [lg_entry_eq]
  generalize (lg_sl ([.ref h1, .int p1]) ++ List.replicate (2 - (lg_sl ([.ref h1, .int p1])).length) Slot.unset).toArray = ls at hl ⊢
  have hl : lv_has ls 2 [(0, .ref h1), (1, .int p1)] := hl
  refine lv_aload_n hx hb dX1_place_0 rfl (lv_at hl 0 rfl) ?_
  refine va_get (D := (dC, dI)) (ci := 1) (v := .int la) (C := RX1) (T := TX1) (N := 10) hx hb hts in_X1_place hown hK hP 0 rfl rfl 9 (by decide) (hts (.fieldLink RX1 36 "BranchLengthsModel" "laid" "Z") (by decide +kernel)) (fun _ h9 => h9) rfl dX1_place_1 ?_
  refine lv_if_eq (tgt := 28) hx hb dX1_place_4 (by decide) (fun hc1 => ?_) (fun hc1 => ?_)
  · refine lv_iconst (v := -1) hx hb dX1_place_28 (by decide) ?_
    exact W.iret (v := (-1)) hx hb hr (fun t ht hW => ⟨⟨(-1), (), rfl, rfl, by rw [ht]; exact hP, va_K.moved hW.alike hK, hD⟩, hS.F ht⟩) hS.2.2 dX1_place_29
  · refine lv_iload_n hx hb dX1_place_7 rfl (lv_at hl 1 rfl) ?_
    refine lv_if_lt (tgt := 28) hx hb dX1_place_8 (by decide) (fun hc2 => ?_) (fun hc2 => ?_)
    · refine lv_iconst (v := -1) hx hb dX1_place_28 (by decide) ?_
      exact W.iret (v := (-1)) hx hb hr (fun t ht hW => ⟨⟨(-1), (), rfl, rfl, by rw [ht]; exact hP, va_K.moved hW.alike hK, hD⟩, hS.F ht⟩) hS.2.2 dX1_place_29
    · refine lv_iload_n hx hb dX1_place_11 rfl (lv_at hl 1 rfl) ?_
      refine lv_aload_n hx hb dX1_place_12 rfl (lv_at hl 0 rfl) ?_
      refine va_get (D := (dC, dI)) (ci := 1) (v := .int (nI n)) (C := RX1) (T := TX1) (N := 10) hx hb hts in_X1_place hown hK hP 0 rfl rfl 5 (by decide) (hts (.fieldLink RX1 33 "BranchLengthsModel" "items" "I") (by decide +kernel)) (fun _ h9 => h9) rfl dX1_place_13 ?_
      refine lv_icmp_ge (tgt := 28) hx hb dX1_place_16 (by decide) (fun hc3 => ?_) (fun hc3 => ?_)
      · refine lv_iconst (v := -1) hx hb dX1_place_28 (by decide) ?_
        exact W.iret (v := (-1)) hx hb hr (fun t ht hW => ⟨⟨(-1), (), rfl, rfl, by rw [ht]; exact hP, va_K.moved hW.alike hK, hD⟩, hS.F ht⟩) hS.2.2 dX1_place_29
      · exact absurd hp (fun q => q.elim hc1 (fun z => z.elim hc2 hc3))
set_option maxHeartbeats 4000000 in
set_option maxRecDepth 100000 in
/-- place(k) -/
theorem m_place_in (l : Launch) (dC : Nat → ClassId) (dI : Nat → Nat → Nat) (cA cZ : ClassId) (h1 b1 b2 b3 b4 b5 sz : Nat) (g1 g2 g3 g4 g5 : Nat → Int32) (n k : Nat) (mk re le la : Int32) (hk : k < n) (hn : n ≤ 2000) (hla : ¬ la = 0) : na_Mi (S := Unit) l yX1_place wsX1_place ({ frames := 0, cells := 0, slots := 0, locals := 0 }) (dC, dI) vwCl [(cA, .int), (cZ, .boolean)] sz [.ref h1, .int (nI k)] [(h1, .inr (1, [.ref b1, .ref b2, .ref b3, .ref b4, .ref b5, .int (nI n), .int mk, .int re, .int le, .int la])), (b1, .inl (cA, 2000, .inl g1)), (b2, .inl (cA, 2000, .inl g2)), (b3, .inl (cZ, 2000, .inl g3)), (b4, .inl (cA, 2001, .inl g4)), (b5, .inl (cA, 2000, .inl g5))] (fun r _ => r = g4 k) (fun _ => [(h1, .inr (1, [.ref b1, .ref b2, .ref b3, .ref b4, .ref b5, .int (nI n), .int mk, .int re, .int le, .int la])), (b1, .inl (cA, 2000, .inl g1)), (b2, .inl (cA, 2000, .inl g2)), (b3, .inl (cZ, 2000, .inl g3)), (b4, .inl (cA, 2001, .inl g4)), (b5, .inl (cA, 2000, .inl g5))]) := by
  refine Met.ofW (cc := cX1_place) (maxL := 2) (ret := (some .int)) (by decide) rfl ?_
  intro p e s m args below meth c s₁ B hml hv
  obtain ⟨rfl, hsz, hP, hK, hD0⟩ := hv
  have hx := B.exec
  have hb := B.bytes
  have hr := B.returns
  have hts := atoms_spec (ws := wsX1_place) B.pre
  have hown : s.vm.findClass RX1 = some m.cls := findClass_of_methodNamed B.named
  have hlocks := B.notSynchronized
  subst hsz
  have hD := hD0.self (sz := s.heap.size)
  generalize hAe : va_A [(h1, .inr (1, [.ref b1, .ref b2, .ref b3, .ref b4, .ref b5, .int (nI n), .int mk, .int re, .int le, .int la])), (b1, .inl (cA, 2000, .inl g1)), (b2, .inl (cA, 2000, .inl g2)), (b3, .inl (cZ, 2000, .inl g3)), (b4, .inl (cA, 2001, .inl g4)), (b5, .inl (cA, 2000, .inl g5))] s.heap.size = A at hD ⊢
  have hA : ∀ q : Nat, s.heap.size ≤ q → A q := fun q h => by rw [← hAe]; exact Or.inr h
  have hS : va_S A s.heap s.heap [] := va_S.rf
  have hP : va_P (dC, dI) vwCl [(h1, .inr (1, [.ref b1, .ref b2, .ref b3, .ref b4, .ref b5, .int (nI n), .int mk, .int re, .int le, .int la])), (b1, .inl (cA, 2000, .inl g1)), (b2, .inl (cA, 2000, .inl g2)), (b3, .inl (cZ, 2000, .inl g3)), (b4, .inl (cA, 2001, .inl g4)), (b5, .inl (cA, 2000, .inl g5))] s.heap := hP
  have hl := lv_entry ([.ref h1, .int (nI k)]) (n := 2) (Nat.le_of_ble_eq_true rfl)
  rw [lg_entry_eq]
  generalize (lg_sl ([.ref h1, .int (nI k)]) ++ List.replicate (2 - (lg_sl ([.ref h1, .int (nI k)])).length) Slot.unset).toArray = ls at hl ⊢
  have hl : lv_has ls 2 [(0, .ref h1), (1, .int (nI k))] := hl
  refine lv_aload_n hx hb dX1_place_0 rfl (lv_at hl 0 rfl) ?_
  refine va_get (D := (dC, dI)) (ci := 1) (v := .int la) (C := RX1) (T := TX1) (N := 10) hx hb hts in_X1_place hown hK hP 0 rfl rfl 9 (by decide) (hts (.fieldLink RX1 36 "BranchLengthsModel" "laid" "Z") (by decide +kernel)) (fun _ h9 => h9) rfl dX1_place_1 ?_
  refine lv_if_eq (tgt := 28) hx hb dX1_place_4 (by decide) (fun hc1 => ?_) (fun hc1 => ?_)
  · exact absurd hc1 hla
  · refine lv_iload_n hx hb dX1_place_7 rfl (lv_at hl 1 rfl) ?_
    refine lv_if_lt (tgt := 28) hx hb dX1_place_8 (by decide) (fun hc2 => ?_) (fun hc2 => ?_)
    · exact absurd hc2 (nI_pos (by omega))
    · refine lv_iload_n hx hb dX1_place_11 rfl (lv_at hl 1 rfl) ?_
      refine lv_aload_n hx hb dX1_place_12 rfl (lv_at hl 0 rfl) ?_
      refine va_get (D := (dC, dI)) (ci := 1) (v := .int (nI n)) (C := RX1) (T := TX1) (N := 10) hx hb hts in_X1_place hown hK hP 0 rfl rfl 5 (by decide) (hts (.fieldLink RX1 33 "BranchLengthsModel" "items" "I") (by decide +kernel)) (fun _ h9 => h9) rfl dX1_place_13 ?_
      refine lv_icmp_ge (tgt := 28) hx hb dX1_place_16 (by decide) (fun hc3 => ?_) (fun hc3 => ?_)
      · exact absurd hc3 (nI_ge hk (by omega))
      · refine lv_aload_n hx hb dX1_place_19 rfl (lv_at hl 0 rfl) ?_
        refine va_get (D := (dC, dI)) (ci := 1) (v := .ref b4) (C := RX1) (T := TX1) (N := 10) hx hb hts in_X1_place hown hK hP 0 rfl rfl 3 (by decide) (hts (.fieldLink RX1 20 "BranchLengthsModel" "places" "[I") (by decide +kernel)) (fun _ h9 => h9) rfl dX1_place_20 ?_
        refine lv_iload_n hx hb dX1_place_23 rfl (lv_at hl 1 rfl) ?_
        refine na_iald (k := k) hx hb hK hP 4 0 rfl rfl (by omega) (by decide) dX1_place_24 ?_
        refine lv_goto (tgt := 29) hx hb dX1_place_25 (by decide) ?_
        exact W.iret (v := (g4 k)) hx hb hr (fun t ht hW => ⟨⟨(g4 k), (), rfl, rfl, by rw [ht]; exact hP, va_K.moved hW.alike hK, hD⟩, hS.F ht⟩) hS.2.2 dX1_place_29
set_option maxHeartbeats 4000000 in
set_option maxRecDepth 100000 in
/-- isLong(p), none -/
theorem m_isLong_out (l : Launch) (dC : Nat → ClassId) (dI : Nat → Nat → Nat) (cA cZ : ClassId) (h1 b1 b2 b3 b4 b5 sz : Nat) (g1 g2 g3 g4 g5 : Nat → Int32) (n : Nat) (mk re le la p1 : Int32) (hp : la = 0 ∨ p1 < 0 ∨ nI n ≤ p1) : na_Mi (S := Unit) l yX1_isLong wsX1_isLong ({ frames := 0, cells := 0, slots := 0, locals := 0 }) (dC, dI) vwCl [(cA, .int), (cZ, .boolean)] sz [.ref h1, .int p1] [(h1, .inr (1, [.ref b1, .ref b2, .ref b3, .ref b4, .ref b5, .int (nI n), .int mk, .int re, .int le, .int la])), (b1, .inl (cA, 2000, .inl g1)), (b2, .inl (cA, 2000, .inl g2)), (b3, .inl (cZ, 2000, .inl g3)), (b4, .inl (cA, 2001, .inl g4)), (b5, .inl (cA, 2000, .inl g5))] (fun r _ => r = 0) (fun _ => [(h1, .inr (1, [.ref b1, .ref b2, .ref b3, .ref b4, .ref b5, .int (nI n), .int mk, .int re, .int le, .int la])), (b1, .inl (cA, 2000, .inl g1)), (b2, .inl (cA, 2000, .inl g2)), (b3, .inl (cZ, 2000, .inl g3)), (b4, .inl (cA, 2001, .inl g4)), (b5, .inl (cA, 2000, .inl g5))]) := by
  refine Met.ofW (cc := cX1_isLong) (maxL := 2) (ret := (some .boolean)) (by decide) rfl ?_
  intro p e s m args below meth c s₁ B hml hv
  obtain ⟨rfl, hsz, hP, hK, hD0⟩ := hv
  have hx := B.exec
  have hb := B.bytes
  have hr := B.returns
  have hts := atoms_spec (ws := wsX1_isLong) B.pre
  have hown : s.vm.findClass RX1 = some m.cls := findClass_of_methodNamed B.named
  have hlocks := B.notSynchronized
  subst hsz
  have hD := hD0.self (sz := s.heap.size)
  generalize hAe : va_A [(h1, .inr (1, [.ref b1, .ref b2, .ref b3, .ref b4, .ref b5, .int (nI n), .int mk, .int re, .int le, .int la])), (b1, .inl (cA, 2000, .inl g1)), (b2, .inl (cA, 2000, .inl g2)), (b3, .inl (cZ, 2000, .inl g3)), (b4, .inl (cA, 2001, .inl g4)), (b5, .inl (cA, 2000, .inl g5))] s.heap.size = A at hD ⊢
  have hA : ∀ q : Nat, s.heap.size ≤ q → A q := fun q h => by rw [← hAe]; exact Or.inr h
  have hS : va_S A s.heap s.heap [] := va_S.rf
  have hP : va_P (dC, dI) vwCl [(h1, .inr (1, [.ref b1, .ref b2, .ref b3, .ref b4, .ref b5, .int (nI n), .int mk, .int re, .int le, .int la])), (b1, .inl (cA, 2000, .inl g1)), (b2, .inl (cA, 2000, .inl g2)), (b3, .inl (cZ, 2000, .inl g3)), (b4, .inl (cA, 2001, .inl g4)), (b5, .inl (cA, 2000, .inl g5))] s.heap := hP
  have hl := lv_entry ([.ref h1, .int p1]) (n := 2) (Nat.le_of_ble_eq_true rfl)
  rw [lg_entry_eq]
  generalize (lg_sl ([.ref h1, .int p1]) ++ List.replicate (2 - (lg_sl ([.ref h1, .int p1])).length) Slot.unset).toArray = ls at hl ⊢
  have hl : lv_has ls 2 [(0, .ref h1), (1, .int p1)] := hl
  refine lv_aload_n hx hb dX1_isLong_0 rfl (lv_at hl 0 rfl) ?_
  refine va_get (D := (dC, dI)) (ci := 1) (v := .int la) (C := RX1) (T := TX1) (N := 10) hx hb hts in_X1_isLong hown hK hP 0 rfl rfl 9 (by decide) (hts (.fieldLink RX1 36 "BranchLengthsModel" "laid" "Z") (by decide +kernel)) (fun _ h9 => h9) rfl dX1_isLong_1 ?_
  refine lv_if_eq (tgt := 42) hx hb dX1_isLong_4 (by decide) (fun hc1 => ?_) (fun hc1 => ?_)
  · refine lv_iconst (v := 0) hx hb dX1_isLong_42 (by decide) ?_
    exact W.zret (v := 0) hx hb hr rfl (fun t ht hW => ⟨⟨0, (), rfl, rfl, by rw [ht]; exact hP, va_K.moved hW.alike hK, hD⟩, hS.F ht⟩) hS.2.2 dX1_isLong_43
  · refine lv_iload_n hx hb dX1_isLong_7 rfl (lv_at hl 1 rfl) ?_
    refine lv_if_lt (tgt := 42) hx hb dX1_isLong_8 (by decide) (fun hc2 => ?_) (fun hc2 => ?_)
    · refine lv_iconst (v := 0) hx hb dX1_isLong_42 (by decide) ?_
      exact W.zret (v := 0) hx hb hr rfl (fun t ht hW => ⟨⟨0, (), rfl, rfl, by rw [ht]; exact hP, va_K.moved hW.alike hK, hD⟩, hS.F ht⟩) hS.2.2 dX1_isLong_43
    · refine lv_iload_n hx hb dX1_isLong_11 rfl (lv_at hl 1 rfl) ?_
      refine lv_aload_n hx hb dX1_isLong_12 rfl (lv_at hl 0 rfl) ?_
      refine va_get (D := (dC, dI)) (ci := 1) (v := .int (nI n)) (C := RX1) (T := TX1) (N := 10) hx hb hts in_X1_isLong hown hK hP 0 rfl rfl 5 (by decide) (hts (.fieldLink RX1 33 "BranchLengthsModel" "items" "I") (by decide +kernel)) (fun _ h9 => h9) rfl dX1_isLong_13 ?_
      refine lv_icmp_ge (tgt := 42) hx hb dX1_isLong_16 (by decide) (fun hc3 => ?_) (fun hc3 => ?_)
      · refine lv_iconst (v := 0) hx hb dX1_isLong_42 (by decide) ?_
        exact W.zret (v := 0) hx hb hr rfl (fun t ht hW => ⟨⟨0, (), rfl, rfl, by rw [ht]; exact hP, va_K.moved hW.alike hK, hD⟩, hS.F ht⟩) hS.2.2 dX1_isLong_43
      · exact absurd hp (fun q => q.elim hc1 (fun z => z.elim hc2 hc3))
set_option maxHeartbeats 4000000 in
set_option maxRecDepth 100000 in
/-- isLong(k) -/
theorem m_isLong_in (l : Launch) (dC : Nat → ClassId) (dI : Nat → Nat → Nat) (cA cZ : ClassId) (h1 b1 b2 b3 b4 b5 sz : Nat) (g1 g2 g3 g4 g5 : Nat → Int32) (n k : Nat) (mk re le la : Int32) (hk : k < n) (hn : n ≤ 2000) (hla : ¬ la = 0) : na_Mi (S := Unit) l yX1_isLong wsX1_isLong ({ frames := 0, cells := 0, slots := 0, locals := 0 }) (dC, dI) vwCl [(cA, .int), (cZ, .boolean)] sz [.ref h1, .int (nI k)] [(h1, .inr (1, [.ref b1, .ref b2, .ref b3, .ref b4, .ref b5, .int (nI n), .int mk, .int re, .int le, .int la])), (b1, .inl (cA, 2000, .inl g1)), (b2, .inl (cA, 2000, .inl g2)), (b3, .inl (cZ, 2000, .inl g3)), (b4, .inl (cA, 2001, .inl g4)), (b5, .inl (cA, 2000, .inl g5))] (fun r _ => r = if (g1 k = 2 ∧ ¬ g3 k = 0) then 1 else 0) (fun _ => [(h1, .inr (1, [.ref b1, .ref b2, .ref b3, .ref b4, .ref b5, .int (nI n), .int mk, .int re, .int le, .int la])), (b1, .inl (cA, 2000, .inl g1)), (b2, .inl (cA, 2000, .inl g2)), (b3, .inl (cZ, 2000, .inl g3)), (b4, .inl (cA, 2001, .inl g4)), (b5, .inl (cA, 2000, .inl g5))]) := by
  refine Met.ofW (cc := cX1_isLong) (maxL := 2) (ret := (some .boolean)) (by decide) rfl ?_
  intro p e s m args below meth c s₁ B hml hv
  obtain ⟨rfl, hsz, hP, hK, hD0⟩ := hv
  have hx := B.exec
  have hb := B.bytes
  have hr := B.returns
  have hts := atoms_spec (ws := wsX1_isLong) B.pre
  have hown : s.vm.findClass RX1 = some m.cls := findClass_of_methodNamed B.named
  have hlocks := B.notSynchronized
  subst hsz
  have hD := hD0.self (sz := s.heap.size)
  generalize hAe : va_A [(h1, .inr (1, [.ref b1, .ref b2, .ref b3, .ref b4, .ref b5, .int (nI n), .int mk, .int re, .int le, .int la])), (b1, .inl (cA, 2000, .inl g1)), (b2, .inl (cA, 2000, .inl g2)), (b3, .inl (cZ, 2000, .inl g3)), (b4, .inl (cA, 2001, .inl g4)), (b5, .inl (cA, 2000, .inl g5))] s.heap.size = A at hD ⊢
  have hA : ∀ q : Nat, s.heap.size ≤ q → A q := fun q h => by rw [← hAe]; exact Or.inr h
  have hS : va_S A s.heap s.heap [] := va_S.rf
  have hP : va_P (dC, dI) vwCl [(h1, .inr (1, [.ref b1, .ref b2, .ref b3, .ref b4, .ref b5, .int (nI n), .int mk, .int re, .int le, .int la])), (b1, .inl (cA, 2000, .inl g1)), (b2, .inl (cA, 2000, .inl g2)), (b3, .inl (cZ, 2000, .inl g3)), (b4, .inl (cA, 2001, .inl g4)), (b5, .inl (cA, 2000, .inl g5))] s.heap := hP
  have hl := lv_entry ([.ref h1, .int (nI k)]) (n := 2) (Nat.le_of_ble_eq_true rfl)
  rw [lg_entry_eq]
  generalize (lg_sl ([.ref h1, .int (nI k)]) ++ List.replicate (2 - (lg_sl ([.ref h1, .int (nI k)])).length) Slot.unset).toArray = ls at hl ⊢
  have hl : lv_has ls 2 [(0, .ref h1), (1, .int (nI k))] := hl
  refine lv_aload_n hx hb dX1_isLong_0 rfl (lv_at hl 0 rfl) ?_
  refine va_get (D := (dC, dI)) (ci := 1) (v := .int la) (C := RX1) (T := TX1) (N := 10) hx hb hts in_X1_isLong hown hK hP 0 rfl rfl 9 (by decide) (hts (.fieldLink RX1 36 "BranchLengthsModel" "laid" "Z") (by decide +kernel)) (fun _ h9 => h9) rfl dX1_isLong_1 ?_
  refine lv_if_eq (tgt := 42) hx hb dX1_isLong_4 (by decide) (fun hc1 => ?_) (fun hc1 => ?_)
  · exact absurd hc1 hla
  · refine lv_iload_n hx hb dX1_isLong_7 rfl (lv_at hl 1 rfl) ?_
    refine lv_if_lt (tgt := 42) hx hb dX1_isLong_8 (by decide) (fun hc2 => ?_) (fun hc2 => ?_)
    · exact absurd hc2 (nI_pos (by omega))
    · refine lv_iload_n hx hb dX1_isLong_11 rfl (lv_at hl 1 rfl) ?_
      refine lv_aload_n hx hb dX1_isLong_12 rfl (lv_at hl 0 rfl) ?_
      refine va_get (D := (dC, dI)) (ci := 1) (v := .int (nI n)) (C := RX1) (T := TX1) (N := 10) hx hb hts in_X1_isLong hown hK hP 0 rfl rfl 5 (by decide) (hts (.fieldLink RX1 33 "BranchLengthsModel" "items" "I") (by decide +kernel)) (fun _ h9 => h9) rfl dX1_isLong_13 ?_
      refine lv_icmp_ge (tgt := 42) hx hb dX1_isLong_16 (by decide) (fun hc3 => ?_) (fun hc3 => ?_)
      · exact absurd hc3 (nI_ge hk (by omega))
      · refine lv_aload_n hx hb dX1_isLong_19 rfl (lv_at hl 0 rfl) ?_
        refine va_get (D := (dC, dI)) (ci := 1) (v := .ref b1) (C := RX1) (T := TX1) (N := 10) hx hb hts in_X1_isLong hown hK hP 0 rfl rfl 0 (by decide) (hts (.fieldLink RX1 9 "BranchLengthsModel" "kinds" "[I") (by decide +kernel)) (fun _ h9 => h9) rfl dX1_isLong_20 ?_
        refine lv_iload_n hx hb dX1_isLong_23 rfl (lv_at hl 1 rfl) ?_
        refine na_iald (k := k) hx hb hK hP 1 0 rfl rfl (by omega) (by decide) dX1_isLong_24 ?_
        refine lv_iconst (v := 2) hx hb dX1_isLong_25 (by decide) ?_
        refine lv_icmp_ne (tgt := 42) hx hb dX1_isLong_26 (by decide) (fun hc4 => ?_) (fun hc4 => ?_)
        · refine lv_iconst (v := 0) hx hb dX1_isLong_42 (by decide) ?_
          exact W.zret (v := 0) hx hb hr rfl (fun t ht hW => ⟨⟨0, (), rfl, (if_neg (fun z => hc4 z.1)).symm, by rw [ht]; exact hP, va_K.moved hW.alike hK, hD⟩, hS.F ht⟩) hS.2.2 dX1_isLong_43
        · refine lv_aload_n hx hb dX1_isLong_29 rfl (lv_at hl 0 rfl) ?_
          refine va_get (D := (dC, dI)) (ci := 1) (v := .ref b3) (C := RX1) (T := TX1) (N := 10) hx hb hts in_X1_isLong hown hK hP 0 rfl rfl 2 (by decide) (hts (.fieldLink RX1 16 "BranchLengthsModel" "longOnes" "[Z") (by decide +kernel)) (fun _ h9 => h9) rfl dX1_isLong_30 ?_
          refine lv_iload_n hx hb dX1_isLong_33 rfl (lv_at hl 1 rfl) ?_
          refine na_zald (k := k) hx hb hK hP 3 1 rfl rfl (by omega) (by decide) dX1_isLong_34 ?_
          refine lv_if_eq (tgt := 42) hx hb dX1_isLong_35 (by decide) (fun hc5 => ?_) (fun hc5 => ?_)
          · refine lv_iconst (v := 0) hx hb dX1_isLong_42 (by decide) ?_
            exact W.zret (v := 0) hx hb hr rfl (fun t ht hW => ⟨⟨0, (), rfl, (if_neg (fun z => z.2 hc5)).symm, by rw [ht]; exact hP, va_K.moved hW.alike hK, hD⟩, hS.F ht⟩) hS.2.2 dX1_isLong_43
          · refine lv_iconst (v := 1) hx hb dX1_isLong_38 (by decide) ?_
            refine lv_goto (tgt := 43) hx hb dX1_isLong_39 (by decide) ?_
            exact W.zret (v := 1) hx hb hr rfl (fun t ht hW => ⟨⟨1, (), rfl, (if_pos ⟨hc4, hc5⟩).symm, by rw [ht]; exact hP, va_K.moved hW.alike hK, hD⟩, hS.F ht⟩) hS.2.2 dX1_isLong_43
