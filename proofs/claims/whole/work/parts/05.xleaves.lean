theorem in_X0_append : ∀ w ∈ u_ws RX0 TX0 10, w ∈ wsX0_append := fun _ h => List.mem_cons_of_mem _ (List.mem_append_right _ h)
theorem in_X0_branch : ∀ w ∈ u_ws RX0 TX0 10, w ∈ wsX0_branch := fun _ h => List.mem_cons_of_mem _ (List.mem_append_right _ h)
theorem in_X0_clear : ∀ w ∈ u_ws RX0 TX0 10, w ∈ wsX0_clear := fun _ h => List.mem_cons_of_mem _ (List.mem_append_right _ h)
theorem in_X0_firstMarkless : ∀ w ∈ u_ws RX0 TX0 10, w ∈ wsX0_firstMarkless := fun _ h => List.mem_cons_of_mem _ (List.mem_append_right _ h)
theorem in_X0_init : ∀ w ∈ u_ws RX0 TX0 10, w ∈ wsX0_init := fun _ h => List.mem_cons_of_mem _ (List.mem_append_right _ h)
theorem in_X0_isBranch : ∀ w ∈ u_ws RX0 TX0 10, w ∈ wsX0_isBranch := fun _ h => List.mem_cons_of_mem _ (List.mem_append_right _ h)
theorem in_X0_isItem : ∀ w ∈ u_ws RX0 TX0 10, w ∈ wsX0_isItem := fun _ h => List.mem_cons_of_mem _ (List.mem_append_right _ h)
theorem in_X0_isLaid : ∀ w ∈ u_ws RX0 TX0 10, w ∈ wsX0_isLaid := fun _ h => List.mem_cons_of_mem _ (List.mem_append_right _ h)
theorem in_X0_isLong : ∀ w ∈ u_ws RX0 TX0 10, w ∈ wsX0_isLong := fun _ h => List.mem_cons_of_mem _ (List.mem_append_right _ h)
theorem in_X0_isMark : ∀ w ∈ u_ws RX0 TX0 10, w ∈ wsX0_isMark := fun _ h => List.mem_cons_of_mem _ (List.mem_append_right _ h)
theorem in_X0_items : ∀ w ∈ u_ws RX0 TX0 10, w ∈ wsX0_items := fun _ h => List.mem_cons_of_mem _ (List.mem_append_right _ h)
theorem in_X0_lay : ∀ w ∈ u_ws RX0 TX0 10, w ∈ wsX0_lay := fun _ h => List.mem_cons_of_mem _ (List.mem_append_right _ h)
theorem in_X0_least : ∀ w ∈ u_ws RX0 TX0 10, w ∈ wsX0_least := fun _ h => List.mem_cons_of_mem _ (List.mem_append_right _ h)
theorem in_X0_lengthenUnreaching : ∀ w ∈ u_ws RX0 TX0 10, w ∈ wsX0_lengthenUnreaching := fun _ h => List.mem_cons_of_mem _ (List.mem_append_right _ h)
theorem in_X0_longs : ∀ w ∈ u_ws RX0 TX0 10, w ∈ wsX0_longs := fun _ h => List.mem_cons_of_mem _ (List.mem_append_right _ h)
theorem in_X0_mark : ∀ w ∈ u_ws RX0 TX0 10, w ∈ wsX0_mark := fun _ h => List.mem_cons_of_mem _ (List.mem_append_right _ h)
theorem in_X0_marks : ∀ w ∈ u_ws RX0 TX0 10, w ∈ wsX0_marks := fun _ h => List.mem_cons_of_mem _ (List.mem_append_right _ h)
theorem in_X0_place : ∀ w ∈ u_ws RX0 TX0 10, w ∈ wsX0_place := fun _ h => List.mem_cons_of_mem _ (List.mem_append_right _ h)
theorem in_X0_reach : ∀ w ∈ u_ws RX0 TX0 10, w ∈ wsX0_reach := fun _ h => List.mem_cons_of_mem _ (List.mem_append_right _ h)
theorem in_X0_reachesShort : ∀ w ∈ u_ws RX0 TX0 10, w ∈ wsX0_reachesShort := fun _ h => List.mem_cons_of_mem _ (List.mem_append_right _ h)
theorem in_X0_setPlaces : ∀ w ∈ u_ws RX0 TX0 10, w ∈ wsX0_setPlaces := fun _ h => List.mem_cons_of_mem _ (List.mem_append_right _ h)
theorem in_X0_shortenAll : ∀ w ∈ u_ws RX0 TX0 10, w ∈ wsX0_shortenAll := fun _ h => List.mem_cons_of_mem _ (List.mem_append_right _ h)
theorem in_X0_stretch : ∀ w ∈ u_ws RX0 TX0 10, w ∈ wsX0_stretch := fun _ h => List.mem_cons_of_mem _ (List.mem_append_right _ h)
theorem in_X1_addUp : ∀ w ∈ u_ws RX1 TX1 10, w ∈ wsX1_addUp := fun _ h => List.mem_cons_of_mem _ (List.mem_append_right _ h)
theorem in_X1_branch : ∀ w ∈ u_ws RX1 TX1 10, w ∈ wsX1_branch := fun _ h => List.mem_cons_of_mem _ (List.mem_append_right _ h)
theorem in_X1_clear : ∀ w ∈ u_ws RX1 TX1 10, w ∈ wsX1_clear := fun _ h => List.mem_cons_of_mem _ (List.mem_append_right _ h)
theorem in_X1_init : ∀ w ∈ u_ws RX1 TX1 10, w ∈ wsX1_init := fun _ h => List.mem_cons_of_mem _ (List.mem_append_right _ h)
theorem in_X1_isLong : ∀ w ∈ u_ws RX1 TX1 10, w ∈ wsX1_isLong := fun _ h => List.mem_cons_of_mem _ (List.mem_append_right _ h)
theorem in_X1_item : ∀ w ∈ u_ws RX1 TX1 10, w ∈ wsX1_item := fun _ h => List.mem_cons_of_mem _ (List.mem_append_right _ h)
theorem in_X1_items : ∀ w ∈ u_ws RX1 TX1 10, w ∈ wsX1_items := fun _ h => List.mem_cons_of_mem _ (List.mem_append_right _ h)
theorem in_X1_lay : ∀ w ∈ u_ws RX1 TX1 10, w ∈ wsX1_lay := fun _ h => List.mem_cons_of_mem _ (List.mem_append_right _ h)
theorem in_X1_least : ∀ w ∈ u_ws RX1 TX1 10, w ∈ wsX1_least := fun _ h => List.mem_cons_of_mem _ (List.mem_append_right _ h)
theorem in_X1_longs : ∀ w ∈ u_ws RX1 TX1 10, w ∈ wsX1_longs := fun _ h => List.mem_cons_of_mem _ (List.mem_append_right _ h)
theorem in_X1_mark : ∀ w ∈ u_ws RX1 TX1 10, w ∈ wsX1_mark := fun _ h => List.mem_cons_of_mem _ (List.mem_append_right _ h)
theorem in_X1_marks : ∀ w ∈ u_ws RX1 TX1 10, w ∈ wsX1_marks := fun _ h => List.mem_cons_of_mem _ (List.mem_append_right _ h)
theorem in_X1_place : ∀ w ∈ u_ws RX1 TX1 10, w ∈ wsX1_place := fun _ h => List.mem_cons_of_mem _ (List.mem_append_right _ h)
theorem in_X1_reach : ∀ w ∈ u_ws RX1 TX1 10, w ∈ wsX1_reach := fun _ h => List.mem_cons_of_mem _ (List.mem_append_right _ h)
theorem in_X1_reaches : ∀ w ∈ u_ws RX1 TX1 10, w ∈ wsX1_reaches := fun _ h => List.mem_cons_of_mem _ (List.mem_append_right _ h)
theorem in_X1_stretch : ∀ w ∈ u_ws RX1 TX1 10, w ∈ wsX1_stretch := fun _ h => List.mem_cons_of_mem _ (List.mem_append_right _ h)
set_option maxHeartbeats 4000000 in
set_option maxRecDepth 100000 in
/-- append(w, t): one item more, not laid out -/
theorem c_append (l : Launch) (dC : Nat → ClassId) (dI : Nat → Nat → Nat) (cA : ClassId) (h0 a1 a2 a3 a4 sz : Nat) (f1 f2 f3 f4 : Nat → Int32) (n : Nat) (kc lc rn ml lo p1 p2 : Int32) (hn : n < 2000) : na_Mi (S := Unit) l yX0_append wsX0_append ({ frames := 0, cells := 0, slots := 0, locals := 0 }) (dC, dI) vwCl [(cA, .int)] sz [.ref h0, .int p1, .int p2] [(h0, .inr (0, [.ref a1, .ref a2, .ref a3, .ref a4, .int (nI n), .int kc, .int lc, .int rn, .int ml, .int lo])), (a1, .inl (cA, 2000, .inl f1)), (a2, .inl (cA, 2000, .inl f2)), (a3, .inl (cA, 2000, .inl f3)), (a4, .inl (cA, 2000, .inl f4))] (fun r _ => r = nI n) (fun _ => [(h0, .inr (0, [.ref a1, .ref a2, .ref a3, .ref a4, .int (nI (n + 1)), .int kc, .int lc, .int rn, .int ml, .int 0])), (a1, .inl (cA, 2000, .inl (upd f1 n p1))), (a2, .inl (cA, 2000, .inl (upd f2 n p2))), (a3, .inl (cA, 2000, .inl f3)), (a4, .inl (cA, 2000, .inl f4))]) := by
  refine Met.ofW (cc := cX0_append) (maxL := 4) (ret := (some .int)) (by decide) rfl ?_
  intro p e s m args below meth c s₁ B hml hv
  obtain ⟨rfl, hsz, hP, hK, hD0⟩ := hv
  have hx := B.exec
  have hb := B.bytes
  have hr := B.returns
  have hts := atoms_spec (ws := wsX0_append) B.pre
  have hown : s.vm.findClass RX0 = some m.cls := findClass_of_methodNamed B.named
  have hlocks := B.notSynchronized
  subst hsz
  have hD := hD0.self (sz := s.heap.size)
  generalize hAe : va_A [(h0, .inr (0, [.ref a1, .ref a2, .ref a3, .ref a4, .int (nI n), .int kc, .int lc, .int rn, .int ml, .int lo])), (a1, .inl (cA, 2000, .inl f1)), (a2, .inl (cA, 2000, .inl f2)), (a3, .inl (cA, 2000, .inl f3)), (a4, .inl (cA, 2000, .inl f4))] s.heap.size = A at hD ⊢
  have hA : ∀ q : Nat, s.heap.size ≤ q → A q := fun q h => by rw [← hAe]; exact Or.inr h
  have hS : va_S A s.heap s.heap [] := va_S.rf
  have hP : va_P (dC, dI) vwCl [(h0, .inr (0, [.ref a1, .ref a2, .ref a3, .ref a4, .int (nI n), .int kc, .int lc, .int rn, .int ml, .int lo])), (a1, .inl (cA, 2000, .inl f1)), (a2, .inl (cA, 2000, .inl f2)), (a3, .inl (cA, 2000, .inl f3)), (a4, .inl (cA, 2000, .inl f4))] s.heap := hP
  have hl := lv_entry ([.ref h0, .int p1, .int p2]) (n := 4) (Nat.le_of_ble_eq_true rfl)
  rw [lg_entry_eq]
  generalize (lg_sl ([.ref h0, .int p1, .int p2]) ++ List.replicate (4 - (lg_sl ([.ref h0, .int p1, .int p2])).length) Slot.unset).toArray = ls at hl ⊢
  have hl : lv_has ls 4 [(0, .ref h0), (1, .int p1), (2, .int p2)] := hl
  refine lv_aload_n hx hb dX0_append_0 rfl (lv_at hl 0 rfl) ?_
  refine va_get (D := (dC, dI)) (ci := 0) (v := .int (nI n)) (C := RX0) (T := TX0) (N := 10) hx hb hts in_X0_append hown hK hP 0 rfl rfl 4 (by decide) (hts (.fieldLink RX0 22 "BranchLengths" "itemCount" "I") (by decide +kernel)) (fun _ h9 => h9) rfl dX0_append_1 ?_
  refine lv_sipush (v := 2000) hx hb dX0_append_4 (by decide) ?_
  refine lv_icmp_lt (tgt := 12) hx hb dX0_append_7 (by decide) (fun hc => ?_) (fun hc => ?_)
  · refine lv_aload_n hx hb dX0_append_12 rfl (lv_at hl 0 rfl) ?_
    refine va_get (D := (dC, dI)) (ci := 0) (v := .int (nI n)) (C := RX0) (T := TX0) (N := 10) hx hb hts in_X0_append hown hK hP 0 rfl rfl 4 (by decide) (hts (.fieldLink RX0 22 "BranchLengths" "itemCount" "I") (by decide +kernel)) (fun _ h9 => h9) rfl dX0_append_13 ?_
    refine lv_istore_n (lv' := [(3, .int (nI n)), (0, .ref h0), (1, .int p1), (2, .int p2)]) hx hb dX0_append_16 rfl hl (by decide) rfl (fun ls hl => ?_)
    refine lv_aload_n hx hb dX0_append_17 rfl (lv_at hl 1 rfl) ?_
    refine va_get (D := (dC, dI)) (ci := 0) (v := .ref a1) (C := RX0) (T := TX0) (N := 10) hx hb hts in_X0_append hown hK hP 0 rfl rfl 0 (by decide) (hts (.fieldLink RX0 9 "BranchLengths" "words" "[I") (by decide +kernel)) (fun _ h9 => h9) rfl dX0_append_18 ?_
    refine lv_iload_n hx hb dX0_append_21 rfl (lv_at hl 0 rfl) ?_
    refine lv_iload_n hx hb dX0_append_22 rfl (lv_at hl 2 rfl) ?_
    refine na_iast (k := n) hx hb hK hP hD hS 1 0 rfl rfl (by omega) (by decide) (upd f1 n p1) (rfl) dX0_append_23 (fun H locs hP hD hS => ?_)
    have hP : va_P (dC, dI) vwCl [(h0, .inr (0, [.ref a1, .ref a2, .ref a3, .ref a4, .int (nI n), .int kc, .int lc, .int rn, .int ml, .int lo])), (a1, .inl (cA, 2000, .inl (upd f1 n p1))), (a2, .inl (cA, 2000, .inl f2)), (a3, .inl (cA, 2000, .inl f3)), (a4, .inl (cA, 2000, .inl f4))] H := hP
    have hD : va_D A [(h0, .inr (0, [.ref a1, .ref a2, .ref a3, .ref a4, .int (nI n), .int kc, .int lc, .int rn, .int ml, .int lo])), (a1, .inl (cA, 2000, .inl (upd f1 n p1))), (a2, .inl (cA, 2000, .inl f2)), (a3, .inl (cA, 2000, .inl f3)), (a4, .inl (cA, 2000, .inl f4))] := hD
    refine lv_aload_n hx hb dX0_append_24 rfl (lv_at hl 1 rfl) ?_
    refine va_get (D := (dC, dI)) (ci := 0) (v := .ref a2) (C := RX0) (T := TX0) (N := 10) hx hb hts in_X0_append hown hK hP 0 rfl rfl 1 (by decide) (hts (.fieldLink RX0 13 "BranchLengths" "targets" "[I") (by decide +kernel)) (fun _ h9 => h9) rfl dX0_append_25 ?_
    refine lv_iload_n hx hb dX0_append_28 rfl (lv_at hl 0 rfl) ?_
    refine lv_iload_n hx hb dX0_append_29 rfl (lv_at hl 3 rfl) ?_
    refine na_iast (k := n) hx hb hK hP hD hS 2 0 rfl rfl (by omega) (by decide) (upd f2 n p2) (rfl) dX0_append_30 (fun H locs hP hD hS => ?_)
    have hP : va_P (dC, dI) vwCl [(h0, .inr (0, [.ref a1, .ref a2, .ref a3, .ref a4, .int (nI n), .int kc, .int lc, .int rn, .int ml, .int lo])), (a1, .inl (cA, 2000, .inl (upd f1 n p1))), (a2, .inl (cA, 2000, .inl (upd f2 n p2))), (a3, .inl (cA, 2000, .inl f3)), (a4, .inl (cA, 2000, .inl f4))] H := hP
    have hD : va_D A [(h0, .inr (0, [.ref a1, .ref a2, .ref a3, .ref a4, .int (nI n), .int kc, .int lc, .int rn, .int ml, .int lo])), (a1, .inl (cA, 2000, .inl (upd f1 n p1))), (a2, .inl (cA, 2000, .inl (upd f2 n p2))), (a3, .inl (cA, 2000, .inl f3)), (a4, .inl (cA, 2000, .inl f4))] := hD
    refine lv_aload_n hx hb dX0_append_31 rfl (lv_at hl 1 rfl) ?_
    refine lv_dup hx hb dX0_append_32 rfl ?_
    refine va_get (D := (dC, dI)) (ci := 0) (v := .int (nI n)) (C := RX0) (T := TX0) (N := 10) hx hb hts in_X0_append hown hK hP 0 rfl rfl 4 (by decide) (hts (.fieldLink RX0 22 "BranchLengths" "itemCount" "I") (by decide +kernel)) (fun _ h9 => h9) rfl dX0_append_33 ?_
    refine lv_iconst (v := 1) hx hb dX0_append_36 (by decide) ?_
    refine lv_iadd hx hb dX0_append_37 ?_
    refine na_eqi (y := nI (n + 1)) (nI_1 n) ?_
    refine va_put (D := (dC, dI)) (ci := 0) (v := .int (nI (n + 1))) (ty := .int) (C := RX0) (T := TX0) (N := 10) hx hb hts in_X0_append tyX0 tyX0_ok nmX0 hown hK hP hD hS 0 rfl rfl 4 (by decide) (hts (.fieldLink RX0 22 "BranchLengths" "itemCount" "I") (by decide +kernel)) (fun _ h9 => h9) rfl (by decide +kernel) rfl rfl (Nat.le_of_ble_eq_true rfl) dX0_append_38 (fun H locs hP hD hS => ?_)
    have hP : va_P (dC, dI) vwCl [(h0, .inr (0, [.ref a1, .ref a2, .ref a3, .ref a4, .int (nI (n + 1)), .int kc, .int lc, .int rn, .int ml, .int lo])), (a1, .inl (cA, 2000, .inl (upd f1 n p1))), (a2, .inl (cA, 2000, .inl (upd f2 n p2))), (a3, .inl (cA, 2000, .inl f3)), (a4, .inl (cA, 2000, .inl f4))] H := hP
    have hD : va_D A [(h0, .inr (0, [.ref a1, .ref a2, .ref a3, .ref a4, .int (nI (n + 1)), .int kc, .int lc, .int rn, .int ml, .int lo])), (a1, .inl (cA, 2000, .inl (upd f1 n p1))), (a2, .inl (cA, 2000, .inl (upd f2 n p2))), (a3, .inl (cA, 2000, .inl f3)), (a4, .inl (cA, 2000, .inl f4))] := hD
    refine lv_aload_n hx hb dX0_append_41 rfl (lv_at hl 1 rfl) ?_
    refine lv_iconst (v := 0) hx hb dX0_append_42 (by decide) ?_
    refine va_put (D := (dC, dI)) (ci := 0) (v := .int 0) (ty := .boolean) (C := RX0) (T := TX0) (N := 10) hx hb hts in_X0_append tyX0 tyX0_ok nmX0 hown hK hP hD hS 0 rfl rfl 9 (by decide) (hts (.fieldLink RX0 38 "BranchLengths" "laidOut" "Z") (by decide +kernel)) (fun _ h9 => h9) rfl (by decide +kernel) rfl rfl (Nat.le_of_ble_eq_true rfl) dX0_append_43 (fun H locs hP hD hS => ?_)
    have hP : va_P (dC, dI) vwCl [(h0, .inr (0, [.ref a1, .ref a2, .ref a3, .ref a4, .int (nI (n + 1)), .int kc, .int lc, .int rn, .int ml, .int 0])), (a1, .inl (cA, 2000, .inl (upd f1 n p1))), (a2, .inl (cA, 2000, .inl (upd f2 n p2))), (a3, .inl (cA, 2000, .inl f3)), (a4, .inl (cA, 2000, .inl f4))] H := hP
    have hD : va_D A [(h0, .inr (0, [.ref a1, .ref a2, .ref a3, .ref a4, .int (nI (n + 1)), .int kc, .int lc, .int rn, .int ml, .int 0])), (a1, .inl (cA, 2000, .inl (upd f1 n p1))), (a2, .inl (cA, 2000, .inl (upd f2 n p2))), (a3, .inl (cA, 2000, .inl f3)), (a4, .inl (cA, 2000, .inl f4))] := hD
    refine lv_iload_n hx hb dX0_append_46 rfl (lv_at hl 0 rfl) ?_
    exact W.iret (v := (nI n)) hx hb hr (fun t ht hW => ⟨⟨(nI n), (), rfl, rfl, by rw [ht]; exact hP, va_K.moved hW.alike hK, hD⟩, hS.F ht⟩) hS.2.2 dX0_append_47
  · exact absurd (show nI n < nI 2000 from nI_lt hn (by decide)) hc
set_option maxHeartbeats 4000000 in
set_option maxRecDepth 100000 in
/-- isItem(p) -/
theorem c_isItem (l : Launch) (dC : Nat → ClassId) (dI : Nat → Nat → Nat) (cA : ClassId) (h0 a1 a2 a3 a4 sz : Nat) (f1 f2 f3 f4 : Nat → Int32) (n : Nat) (kc lc rn ml lo p1 : Int32)  : na_Mi (S := Unit) l yX0_isItem wsX0_isItem ({ frames := 0, cells := 0, slots := 0, locals := 0 }) (dC, dI) vwCl [(cA, .int)] sz [.ref h0, .int p1] [(h0, .inr (0, [.ref a1, .ref a2, .ref a3, .ref a4, .int (nI n), .int kc, .int lc, .int rn, .int ml, .int lo])), (a1, .inl (cA, 2000, .inl f1)), (a2, .inl (cA, 2000, .inl f2)), (a3, .inl (cA, 2000, .inl f3)), (a4, .inl (cA, 2000, .inl f4))] (fun r _ => r = if (¬ p1 < 0 ∧ ¬ nI n ≤ p1) then 1 else 0) (fun _ => [(h0, .inr (0, [.ref a1, .ref a2, .ref a3, .ref a4, .int (nI n), .int kc, .int lc, .int rn, .int ml, .int lo])), (a1, .inl (cA, 2000, .inl f1)), (a2, .inl (cA, 2000, .inl f2)), (a3, .inl (cA, 2000, .inl f3)), (a4, .inl (cA, 2000, .inl f4))]) := by
  refine Met.ofW (cc := cX0_isItem) (maxL := 2) (ret := (some .boolean)) (by decide) rfl ?_
  intro p e s m args below meth c s₁ B hml hv
  obtain ⟨rfl, hsz, hP, hK, hD0⟩ := hv
  have hx := B.exec
  have hb := B.bytes
  have hr := B.returns
  have hts := atoms_spec (ws := wsX0_isItem) B.pre
  have hown : s.vm.findClass RX0 = some m.cls := findClass_of_methodNamed B.named
  have hlocks := B.notSynchronized
  subst hsz
  have hD := hD0.self (sz := s.heap.size)
  generalize hAe : va_A [(h0, .inr (0, [.ref a1, .ref a2, .ref a3, .ref a4, .int (nI n), .int kc, .int lc, .int rn, .int ml, .int lo])), (a1, .inl (cA, 2000, .inl f1)), (a2, .inl (cA, 2000, .inl f2)), (a3, .inl (cA, 2000, .inl f3)), (a4, .inl (cA, 2000, .inl f4))] s.heap.size = A at hD ⊢
  have hA : ∀ q : Nat, s.heap.size ≤ q → A q := fun q h => by rw [← hAe]; exact Or.inr h
  have hS : va_S A s.heap s.heap [] := va_S.rf
  have hP : va_P (dC, dI) vwCl [(h0, .inr (0, [.ref a1, .ref a2, .ref a3, .ref a4, .int (nI n), .int kc, .int lc, .int rn, .int ml, .int lo])), (a1, .inl (cA, 2000, .inl f1)), (a2, .inl (cA, 2000, .inl f2)), (a3, .inl (cA, 2000, .inl f3)), (a4, .inl (cA, 2000, .inl f4))] s.heap := hP
  have hl := lv_entry ([.ref h0, .int p1]) (n := 2) (Nat.le_of_ble_eq_true rfl)
  rw [lg_entry_eq]
  generalize (lg_sl ([.ref h0, .int p1]) ++ List.replicate (2 - (lg_sl ([.ref h0, .int p1])).length) Slot.unset).toArray = ls at hl ⊢
  have hl : lv_has ls 2 [(0, .ref h0), (1, .int p1)] := hl
  refine lv_iload_n hx hb dX0_isItem_0 rfl (lv_at hl 1 rfl) ?_
  refine lv_if_lt (tgt := 16) hx hb dX0_isItem_1 (by decide) (fun hc2 => ?_) (fun hc2 => ?_)
  · refine lv_iconst (v := 0) hx hb dX0_isItem_16 (by decide) ?_
    exact W.zret (v := 0) hx hb hr rfl (fun t ht hW => ⟨⟨0, (), rfl, (if_neg (fun q => q.1 hc2)).symm, by rw [ht]; exact hP, va_K.moved hW.alike hK, hD⟩, hS.F ht⟩) hS.2.2 dX0_isItem_17
  · refine lv_iload_n hx hb dX0_isItem_4 rfl (lv_at hl 1 rfl) ?_
    refine lv_aload_n hx hb dX0_isItem_5 rfl (lv_at hl 0 rfl) ?_
    refine va_get (D := (dC, dI)) (ci := 0) (v := .int (nI n)) (C := RX0) (T := TX0) (N := 10) hx hb hts in_X0_isItem hown hK hP 0 rfl rfl 4 (by decide) (hts (.fieldLink RX0 22 "BranchLengths" "itemCount" "I") (by decide +kernel)) (fun _ h9 => h9) rfl dX0_isItem_6 ?_
    refine lv_icmp_ge (tgt := 16) hx hb dX0_isItem_9 (by decide) (fun hc3 => ?_) (fun hc3 => ?_)
    · refine lv_iconst (v := 0) hx hb dX0_isItem_16 (by decide) ?_
      exact W.zret (v := 0) hx hb hr rfl (fun t ht hW => ⟨⟨0, (), rfl, (if_neg (fun q => q.2 hc3)).symm, by rw [ht]; exact hP, va_K.moved hW.alike hK, hD⟩, hS.F ht⟩) hS.2.2 dX0_isItem_17
    · refine lv_iconst (v := 1) hx hb dX0_isItem_12 (by decide) ?_
      refine lv_goto (tgt := 17) hx hb dX0_isItem_13 (by decide) ?_
      exact W.zret (v := 1) hx hb hr rfl (fun t ht hW => ⟨⟨1, (), rfl, (if_pos ⟨hc2, hc3⟩).symm, by rw [ht]; exact hP, va_K.moved hW.alike hK, hD⟩, hS.F ht⟩) hS.2.2 dX0_isItem_17
set_option maxHeartbeats 4000000 in
set_option maxRecDepth 100000 in
/-- isMark(p) -/
theorem c_isMark (l : Launch) (dC : Nat → ClassId) (dI : Nat → Nat → Nat) (cA : ClassId) (h0 a1 a2 a3 a4 sz : Nat) (f1 f2 f3 f4 : Nat → Int32) (n : Nat) (kc lc rn ml lo p1 : Int32)  : na_Mi (S := Unit) l yX0_isMark wsX0_isMark ({ frames := 0, cells := 0, slots := 0, locals := 0 }) (dC, dI) vwCl [(cA, .int)] sz [.ref h0, .int p1] [(h0, .inr (0, [.ref a1, .ref a2, .ref a3, .ref a4, .int (nI n), .int kc, .int lc, .int rn, .int ml, .int lo])), (a1, .inl (cA, 2000, .inl f1)), (a2, .inl (cA, 2000, .inl f2)), (a3, .inl (cA, 2000, .inl f3)), (a4, .inl (cA, 2000, .inl f4))] (fun r _ => r = if (¬ p1 < 0 ∧ ¬ kc ≤ p1) then 1 else 0) (fun _ => [(h0, .inr (0, [.ref a1, .ref a2, .ref a3, .ref a4, .int (nI n), .int kc, .int lc, .int rn, .int ml, .int lo])), (a1, .inl (cA, 2000, .inl f1)), (a2, .inl (cA, 2000, .inl f2)), (a3, .inl (cA, 2000, .inl f3)), (a4, .inl (cA, 2000, .inl f4))]) := by
  refine Met.ofW (cc := cX0_isMark) (maxL := 2) (ret := (some .boolean)) (by decide) rfl ?_
  intro p e s m args below meth c s₁ B hml hv
  obtain ⟨rfl, hsz, hP, hK, hD0⟩ := hv
  have hx := B.exec
  have hb := B.bytes
  have hr := B.returns
  have hts := atoms_spec (ws := wsX0_isMark) B.pre
  have hown : s.vm.findClass RX0 = some m.cls := findClass_of_methodNamed B.named
  have hlocks := B.notSynchronized
  subst hsz
  have hD := hD0.self (sz := s.heap.size)
  generalize hAe : va_A [(h0, .inr (0, [.ref a1, .ref a2, .ref a3, .ref a4, .int (nI n), .int kc, .int lc, .int rn, .int ml, .int lo])), (a1, .inl (cA, 2000, .inl f1)), (a2, .inl (cA, 2000, .inl f2)), (a3, .inl (cA, 2000, .inl f3)), (a4, .inl (cA, 2000, .inl f4))] s.heap.size = A at hD ⊢
  have hA : ∀ q : Nat, s.heap.size ≤ q → A q := fun q h => by rw [← hAe]; exact Or.inr h
  have hS : va_S A s.heap s.heap [] := va_S.rf
  have hP : va_P (dC, dI) vwCl [(h0, .inr (0, [.ref a1, .ref a2, .ref a3, .ref a4, .int (nI n), .int kc, .int lc, .int rn, .int ml, .int lo])), (a1, .inl (cA, 2000, .inl f1)), (a2, .inl (cA, 2000, .inl f2)), (a3, .inl (cA, 2000, .inl f3)), (a4, .inl (cA, 2000, .inl f4))] s.heap := hP
  have hl := lv_entry ([.ref h0, .int p1]) (n := 2) (Nat.le_of_ble_eq_true rfl)
  rw [lg_entry_eq]
  generalize (lg_sl ([.ref h0, .int p1]) ++ List.replicate (2 - (lg_sl ([.ref h0, .int p1])).length) Slot.unset).toArray = ls at hl ⊢
  have hl : lv_has ls 2 [(0, .ref h0), (1, .int p1)] := hl
  refine lv_iload_n hx hb dX0_isMark_0 rfl (lv_at hl 1 rfl) ?_
  refine lv_if_lt (tgt := 16) hx hb dX0_isMark_1 (by decide) (fun hc2 => ?_) (fun hc2 => ?_)
  · refine lv_iconst (v := 0) hx hb dX0_isMark_16 (by decide) ?_
    exact W.zret (v := 0) hx hb hr rfl (fun t ht hW => ⟨⟨0, (), rfl, (if_neg (fun q => q.1 hc2)).symm, by rw [ht]; exact hP, va_K.moved hW.alike hK, hD⟩, hS.F ht⟩) hS.2.2 dX0_isMark_17
  · refine lv_iload_n hx hb dX0_isMark_4 rfl (lv_at hl 1 rfl) ?_
    refine lv_aload_n hx hb dX0_isMark_5 rfl (lv_at hl 0 rfl) ?_
    refine va_get (D := (dC, dI)) (ci := 0) (v := .int kc) (C := RX0) (T := TX0) (N := 10) hx hb hts in_X0_isMark hown hK hP 0 rfl rfl 5 (by decide) (hts (.fieldLink RX0 26 "BranchLengths" "markCount" "I") (by decide +kernel)) (fun _ h9 => h9) rfl dX0_isMark_6 ?_
    refine lv_icmp_ge (tgt := 16) hx hb dX0_isMark_9 (by decide) (fun hc3 => ?_) (fun hc3 => ?_)
    · refine lv_iconst (v := 0) hx hb dX0_isMark_16 (by decide) ?_
      exact W.zret (v := 0) hx hb hr rfl (fun t ht hW => ⟨⟨0, (), rfl, (if_neg (fun q => q.2 hc3)).symm, by rw [ht]; exact hP, va_K.moved hW.alike hK, hD⟩, hS.F ht⟩) hS.2.2 dX0_isMark_17
    · refine lv_iconst (v := 1) hx hb dX0_isMark_12 (by decide) ?_
      refine lv_goto (tgt := 17) hx hb dX0_isMark_13 (by decide) ?_
      exact W.zret (v := 1) hx hb hr rfl (fun t ht hW => ⟨⟨1, (), rfl, (if_pos ⟨hc2, hc3⟩).symm, by rw [ht]; exact hP, va_K.moved hW.alike hK, hD⟩, hS.F ht⟩) hS.2.2 dX0_isMark_17
set_option maxHeartbeats 4000000 in
set_option maxRecDepth 100000 in
/-- isLaid(p) -/
theorem c_isLaid (l : Launch) (dC : Nat → ClassId) (dI : Nat → Nat → Nat) (cA : ClassId) (h0 a1 a2 a3 a4 sz : Nat) (f1 f2 f3 f4 : Nat → Int32) (n : Nat) (kc lc rn ml lo p1 : Int32)  : na_Mi (S := Unit) l yX0_isLaid wsX0_isLaid ({ frames := 1, cells := 0, slots := 0, locals := 21 }) (dC, dI) vwCl [(cA, .int)] sz [.ref h0, .int p1] [(h0, .inr (0, [.ref a1, .ref a2, .ref a3, .ref a4, .int (nI n), .int kc, .int lc, .int rn, .int ml, .int lo])), (a1, .inl (cA, 2000, .inl f1)), (a2, .inl (cA, 2000, .inl f2)), (a3, .inl (cA, 2000, .inl f3)), (a4, .inl (cA, 2000, .inl f4))] (fun r _ => r = if (¬ lo = 0 ∧ ¬ p1 < 0 ∧ ¬ nI n ≤ p1) then 1 else 0) (fun _ => [(h0, .inr (0, [.ref a1, .ref a2, .ref a3, .ref a4, .int (nI n), .int kc, .int lc, .int rn, .int ml, .int lo])), (a1, .inl (cA, 2000, .inl f1)), (a2, .inl (cA, 2000, .inl f2)), (a3, .inl (cA, 2000, .inl f3)), (a4, .inl (cA, 2000, .inl f4))]) := by
  refine Met.ofW (cc := cX0_isLaid) (maxL := 2) (ret := (some .boolean)) (by decide) rfl ?_
  intro p e s m args below meth c s₁ B hml hv
  obtain ⟨rfl, hsz, hP, hK, hD0⟩ := hv
  have hx := B.exec
  have hb := B.bytes
  have hr := B.returns
  have hts := atoms_spec (ws := wsX0_isLaid) B.pre
  have hown : s.vm.findClass RX0 = some m.cls := findClass_of_methodNamed B.named
  have hlocks := B.notSynchronized
  subst hsz
  have hD := hD0.self (sz := s.heap.size)
  generalize hAe : va_A [(h0, .inr (0, [.ref a1, .ref a2, .ref a3, .ref a4, .int (nI n), .int kc, .int lc, .int rn, .int ml, .int lo])), (a1, .inl (cA, 2000, .inl f1)), (a2, .inl (cA, 2000, .inl f2)), (a3, .inl (cA, 2000, .inl f3)), (a4, .inl (cA, 2000, .inl f4))] s.heap.size = A at hD ⊢
  have hA : ∀ q : Nat, s.heap.size ≤ q → A q := fun q h => by rw [← hAe]; exact Or.inr h
  have hS : va_S A s.heap s.heap [] := va_S.rf
  have hP : va_P (dC, dI) vwCl [(h0, .inr (0, [.ref a1, .ref a2, .ref a3, .ref a4, .int (nI n), .int kc, .int lc, .int rn, .int ml, .int lo])), (a1, .inl (cA, 2000, .inl f1)), (a2, .inl (cA, 2000, .inl f2)), (a3, .inl (cA, 2000, .inl f3)), (a4, .inl (cA, 2000, .inl f4))] s.heap := hP
  have hl := lv_entry ([.ref h0, .int p1]) (n := 2) (Nat.le_of_ble_eq_true rfl)
  rw [lg_entry_eq]
  generalize (lg_sl ([.ref h0, .int p1]) ++ List.replicate (2 - (lg_sl ([.ref h0, .int p1])).length) Slot.unset).toArray = ls at hl ⊢
  have hl : lv_has ls 2 [(0, .ref h0), (1, .int p1)] := hl
  refine lv_aload_n hx hb dX0_isLaid_0 rfl (lv_at hl 0 rfl) ?_
  refine va_get (D := (dC, dI)) (ci := 0) (v := .int lo) (C := RX0) (T := TX0) (N := 10) hx hb hts in_X0_isLaid hown hK hP 0 rfl rfl 9 (by decide) (hts (.fieldLink RX0 38 "BranchLengths" "laidOut" "Z") (by decide +kernel)) (fun _ h9 => h9) rfl dX0_isLaid_1 ?_
  refine lv_if_eq (tgt := 19) hx hb dX0_isLaid_4 (by decide) (fun hc1 => ?_) (fun hc1 => ?_)
  · refine lv_iconst (v := 0) hx hb dX0_isLaid_19 (by decide) ?_
    exact W.zret (v := 0) hx hb hr rfl (fun t ht hW => ⟨⟨0, (), rfl, (if_neg (fun q => q.1 hc1)).symm, by rw [ht]; exact hP, va_K.moved hW.alike hK, hD⟩, hS.F ht⟩) hS.2.2 dX0_isLaid_20
  · refine lv_aload_n hx hb dX0_isLaid_7 rfl (lv_at hl 0 rfl) ?_
    refine lv_iload_n hx hb dX0_isLaid_8 rfl (lv_at hl 1 rfl) ?_
    refine na_calli (As := [.int p1]) (rest := []) (wc := [(h0, .inr (0, [.ref a1, .ref a2, .ref a3, .ref a4, .int (nI n), .int kc, .int lc, .int rn, .int ml, .int lo])), (a1, .inl (cA, 2000, .inl f1)), (a2, .inl (cA, 2000, .inl f2)), (a3, .inl (cA, 2000, .inl f3)), (a4, .inl (cA, 2000, .inl f4))]) (wr := []) (ci := 0) ⟨hx, hb, hml, hown, hts⟩ (c_isItem l dC dI cA h0 a1 a2 a3 a4 s.heap.size f1 f2 f3 f4 n kc lc rn ml lo p1) (cwV 1 hts gX0_isLaid_X0_isItem rfl rfl rfl (by decide +kernel) ⟨Nat.le_of_ble_eq_true rfl, Nat.le_of_ble_eq_true rfl⟩) hK hP hD hS hA [0, 1, 2, 3, 4] [] rfl rfl rfl rfl (by decide) rfl rfl 0 rfl rfl hl.1 (Nat.le_of_ble_eq_true rfl) dX0_isLaid_9 ⟨Nat.le_of_ble_eq_true rfl, Nat.le_of_ble_eq_true rfl⟩ rfl (fun r u H locs hw hP hD hS => ?_)
    have hP : va_P (dC, dI) vwCl [(h0, .inr (0, [.ref a1, .ref a2, .ref a3, .ref a4, .int (nI n), .int kc, .int lc, .int rn, .int ml, .int lo])), (a1, .inl (cA, 2000, .inl f1)), (a2, .inl (cA, 2000, .inl f2)), (a3, .inl (cA, 2000, .inl f3)), (a4, .inl (cA, 2000, .inl f4))] H := hP
    have hD : va_D A [(h0, .inr (0, [.ref a1, .ref a2, .ref a3, .ref a4, .int (nI n), .int kc, .int lc, .int rn, .int ml, .int lo])), (a1, .inl (cA, 2000, .inl f1)), (a2, .inl (cA, 2000, .inl f2)), (a3, .inl (cA, 2000, .inl f3)), (a4, .inl (cA, 2000, .inl f4))] := hD
    subst hw
    refine lv_if_eq (tgt := 19) hx hb dX0_isLaid_12 (by decide) (fun hc2 => ?_) (fun hc2 => ?_)
    · refine lv_iconst (v := 0) hx hb dX0_isLaid_19 (by decide) ?_
      exact W.zret (v := 0) hx hb hr rfl (fun t ht hW => ⟨⟨0, (), rfl, (if_neg (fun q => na_if0 hc2 q.2)).symm, by rw [ht]; exact hP, va_K.moved hW.alike hK, hD⟩, hS.F ht⟩) hS.2.2 dX0_isLaid_20
    · refine lv_iconst (v := 1) hx hb dX0_isLaid_15 (by decide) ?_
      refine lv_goto (tgt := 20) hx hb dX0_isLaid_16 (by decide) ?_
      exact W.zret (v := 1) hx hb hr rfl (fun t ht hW => ⟨⟨1, (), rfl, (if_pos ⟨hc1, na_if1 hc2⟩).symm, by rw [ht]; exact hP, va_K.moved hW.alike hK, hD⟩, hS.F ht⟩) hS.2.2 dX0_isLaid_20
set_option maxHeartbeats 4000000 in
set_option maxRecDepth 100000 in
/-- isBranch(k) -/
theorem c_isBranch (l : Launch) (dC : Nat → ClassId) (dI : Nat → Nat → Nat) (cA : ClassId) (h0 a1 a2 a3 a4 sz : Nat) (f1 f2 f3 f4 : Nat → Int32) (n k : Nat) (kc lc rn ml lo : Int32) (hk : k < 2000) : na_Mi (S := Unit) l yX0_isBranch wsX0_isBranch ({ frames := 0, cells := 0, slots := 0, locals := 0 }) (dC, dI) vwCl [(cA, .int)] sz [.ref h0, .int (nI k)] [(h0, .inr (0, [.ref a1, .ref a2, .ref a3, .ref a4, .int (nI n), .int kc, .int lc, .int rn, .int ml, .int lo])), (a1, .inl (cA, 2000, .inl f1)), (a2, .inl (cA, 2000, .inl f2)), (a3, .inl (cA, 2000, .inl f3)), (a4, .inl (cA, 2000, .inl f4))] (fun r _ => r = if f2 k = -1 then 0 else 1) (fun _ => [(h0, .inr (0, [.ref a1, .ref a2, .ref a3, .ref a4, .int (nI n), .int kc, .int lc, .int rn, .int ml, .int lo])), (a1, .inl (cA, 2000, .inl f1)), (a2, .inl (cA, 2000, .inl f2)), (a3, .inl (cA, 2000, .inl f3)), (a4, .inl (cA, 2000, .inl f4))]) := by
  refine Met.ofW (cc := cX0_isBranch) (maxL := 2) (ret := (some .boolean)) (by decide) rfl ?_
  intro p e s m args below meth c s₁ B hml hv
  obtain ⟨rfl, hsz, hP, hK, hD0⟩ := hv
  have hx := B.exec
  have hb := B.bytes
  have hr := B.returns
  have hts := atoms_spec (ws := wsX0_isBranch) B.pre
  have hown : s.vm.findClass RX0 = some m.cls := findClass_of_methodNamed B.named
  have hlocks := B.notSynchronized
  subst hsz
  have hD := hD0.self (sz := s.heap.size)
  generalize hAe : va_A [(h0, .inr (0, [.ref a1, .ref a2, .ref a3, .ref a4, .int (nI n), .int kc, .int lc, .int rn, .int ml, .int lo])), (a1, .inl (cA, 2000, .inl f1)), (a2, .inl (cA, 2000, .inl f2)), (a3, .inl (cA, 2000, .inl f3)), (a4, .inl (cA, 2000, .inl f4))] s.heap.size = A at hD ⊢
  have hA : ∀ q : Nat, s.heap.size ≤ q → A q := fun q h => by rw [← hAe]; exact Or.inr h
  have hS : va_S A s.heap s.heap [] := va_S.rf
  have hP : va_P (dC, dI) vwCl [(h0, .inr (0, [.ref a1, .ref a2, .ref a3, .ref a4, .int (nI n), .int kc, .int lc, .int rn, .int ml, .int lo])), (a1, .inl (cA, 2000, .inl f1)), (a2, .inl (cA, 2000, .inl f2)), (a3, .inl (cA, 2000, .inl f3)), (a4, .inl (cA, 2000, .inl f4))] s.heap := hP
  have hl := lv_entry ([.ref h0, .int (nI k)]) (n := 2) (Nat.le_of_ble_eq_true rfl)
  rw [lg_entry_eq]
  generalize (lg_sl ([.ref h0, .int (nI k)]) ++ List.replicate (2 - (lg_sl ([.ref h0, .int (nI k)])).length) Slot.unset).toArray = ls at hl ⊢
  have hl : lv_has ls 2 [(0, .ref h0), (1, .int (nI k))] := hl
  refine lv_aload_n hx hb dX0_isBranch_0 rfl (lv_at hl 0 rfl) ?_
  refine va_get (D := (dC, dI)) (ci := 0) (v := .ref a2) (C := RX0) (T := TX0) (N := 10) hx hb hts in_X0_isBranch hown hK hP 0 rfl rfl 1 (by decide) (hts (.fieldLink RX0 13 "BranchLengths" "targets" "[I") (by decide +kernel)) (fun _ h9 => h9) rfl dX0_isBranch_1 ?_
  refine lv_iload_n hx hb dX0_isBranch_4 rfl (lv_at hl 1 rfl) ?_
  refine na_iald (k := k) hx hb hK hP 2 0 rfl rfl (by omega) (by decide) dX0_isBranch_5 ?_
  refine lv_iconst (v := -1) hx hb dX0_isBranch_6 (by decide) ?_
  refine lv_icmp_eq (tgt := 14) hx hb dX0_isBranch_7 (by decide) (fun hc => ?_) (fun hc => ?_)
  · refine lv_iconst (v := 0) hx hb dX0_isBranch_14 (by decide) ?_
    exact W.zret (v := 0) hx hb hr rfl (fun t ht hW => ⟨⟨0, (), rfl, (if_pos hc).symm, by rw [ht]; exact hP, va_K.moved hW.alike hK, hD⟩, hS.F ht⟩) hS.2.2 dX0_isBranch_15
  · refine lv_iconst (v := 1) hx hb dX0_isBranch_10 (by decide) ?_
    refine lv_goto (tgt := 15) hx hb dX0_isBranch_11 (by decide) ?_
    exact W.zret (v := 1) hx hb hr rfl (fun t ht hW => ⟨⟨1, (), rfl, (if_neg hc).symm, by rw [ht]; exact hP, va_K.moved hW.alike hK, hD⟩, hS.F ht⟩) hS.2.2 dX0_isBranch_15
set_option maxHeartbeats 4000000 in
set_option maxRecDepth 100000 in
/-- firstMarkless() -/
theorem c_firstMarkless (l : Launch) (dC : Nat → ClassId) (dI : Nat → Nat → Nat) (cA : ClassId) (h0 a1 a2 a3 a4 sz : Nat) (f1 f2 f3 f4 : Nat → Int32) (n : Nat) (kc lc rn ml lo : Int32) (hn : n ≤ 2000) (hk0 : (-1 : Int32) < kc) (hf : ∀ j, j < n → ¬ f2 j = -1 → ¬ f2 j < 0) : na_Mi (S := Unit) l yX0_firstMarkless wsX0_firstMarkless ({ frames := 1, cells := 0, slots := 0, locals := 21 }) (dC, dI) vwCl [(cA, .int)] sz [.ref h0] [(h0, .inr (0, [.ref a1, .ref a2, .ref a3, .ref a4, .int (nI n), .int kc, .int lc, .int rn, .int ml, .int lo])), (a1, .inl (cA, 2000, .inl f1)), (a2, .inl (cA, 2000, .inl f2)), (a3, .inl (cA, 2000, .inl f3)), (a4, .inl (cA, 2000, .inl f4))] (fun r _ => xFm f2 kc n r) (fun _ => [(h0, .inr (0, [.ref a1, .ref a2, .ref a3, .ref a4, .int (nI n), .int kc, .int lc, .int rn, .int ml, .int lo])), (a1, .inl (cA, 2000, .inl f1)), (a2, .inl (cA, 2000, .inl f2)), (a3, .inl (cA, 2000, .inl f3)), (a4, .inl (cA, 2000, .inl f4))]) := by
  refine Met.ofW (cc := cX0_firstMarkless) (maxL := 2) (ret := (some .int)) (by decide) rfl ?_
  intro p e s m args below meth c s₁ B hml hv
  obtain ⟨rfl, hsz, hP, hK, hD0⟩ := hv
  have hx := B.exec
  have hb := B.bytes
  have hr := B.returns
  have hts := atoms_spec (ws := wsX0_firstMarkless) B.pre
  have hown : s.vm.findClass RX0 = some m.cls := findClass_of_methodNamed B.named
  have hlocks := B.notSynchronized
  subst hsz
  have hD := hD0.self (sz := s.heap.size)
  generalize hAe : va_A [(h0, .inr (0, [.ref a1, .ref a2, .ref a3, .ref a4, .int (nI n), .int kc, .int lc, .int rn, .int ml, .int lo])), (a1, .inl (cA, 2000, .inl f1)), (a2, .inl (cA, 2000, .inl f2)), (a3, .inl (cA, 2000, .inl f3)), (a4, .inl (cA, 2000, .inl f4))] s.heap.size = A at hD ⊢
  have hA : ∀ q : Nat, s.heap.size ≤ q → A q := fun q h => by rw [← hAe]; exact Or.inr h
  have hS : va_S A s.heap s.heap [] := va_S.rf
  have hP : va_P (dC, dI) vwCl [(h0, .inr (0, [.ref a1, .ref a2, .ref a3, .ref a4, .int (nI n), .int kc, .int lc, .int rn, .int ml, .int lo])), (a1, .inl (cA, 2000, .inl f1)), (a2, .inl (cA, 2000, .inl f2)), (a3, .inl (cA, 2000, .inl f3)), (a4, .inl (cA, 2000, .inl f4))] s.heap := hP
  have hl := lv_entry ([.ref h0]) (n := 2) (Nat.le_of_ble_eq_true rfl)
  rw [lg_entry_eq]
  generalize (lg_sl ([.ref h0]) ++ List.replicate (2 - (lg_sl ([.ref h0])).length) Slot.unset).toArray = ls at hl ⊢
  have hl : lv_has ls 2 [(0, .ref h0)] := hl
  refine lv_iconst (v := nI 0) hx hb dX0_firstMarkless_0 rfl ?_
  refine lv_istore_n (lv' := [(1, .int (nI 0)), (0, .ref h0)]) hx hb dX0_firstMarkless_1 rfl hl (by decide) rfl (fun ls hl => ?_)
  refine na_loop (pc := 2) (fun (d : Nat) (k : Nat) (H : Heap) (locs : List Loc) (ls : Array Slot) => (k ≤ n ∧ d = n - k ∧ ∀ j, j < k → f2 j < kc) ∧ va_P (dC, dI) vwCl [(h0, .inr (0, [.ref a1, .ref a2, .ref a3, .ref a4, .int (nI n), .int kc, .int lc, .int rn, .int ml, .int lo])), (a1, .inl (cA, 2000, .inl f1)), (a2, .inl (cA, 2000, .inl f2)), (a3, .inl (cA, 2000, .inl f3)), (a4, .inl (cA, 2000, .inl f4))] H ∧ va_D A [(h0, .inr (0, [.ref a1, .ref a2, .ref a3, .ref a4, .int (nI n), .int kc, .int lc, .int rn, .int ml, .int lo])), (a1, .inl (cA, 2000, .inl f1)), (a2, .inl (cA, 2000, .inl f2)), (a3, .inl (cA, 2000, .inl f3)), (a4, .inl (cA, 2000, .inl f4))] ∧ va_S A s.heap H locs ∧ lv_has ls 2 [(0, .ref h0), (1, .int (nI k))]) ?_ (n - 0) (0) ⟨⟨Nat.zero_le _, rfl, fun j h => absurd h (by omega)⟩, hP, hD, hS, lv_sub hl [1, 0] rfl⟩
  intro d k H locs ls hI ih
  obtain ⟨⟨hkn, hd, hinv⟩, hP, hD, hS, hl⟩ := hI
  refine lv_iload_n hx hb dX0_firstMarkless_2 rfl (lv_at hl 1 rfl) ?_
  refine lv_aload_n hx hb dX0_firstMarkless_3 rfl (lv_at hl 0 rfl) ?_
  refine va_get (D := (dC, dI)) (ci := 0) (v := .int (nI n)) (C := RX0) (T := TX0) (N := 10) hx hb hts in_X0_firstMarkless hown hK hP 0 rfl rfl 4 (by decide) (hts (.fieldLink RX0 22 "BranchLengths" "itemCount" "I") (by decide +kernel)) (fun _ h9 => h9) rfl dX0_firstMarkless_4 ?_
  refine lv_icmp_ge (tgt := 39) hx hb dX0_firstMarkless_7 (by decide) (fun hc => ?_) (fun hc => ?_)
  · have hkn' := na_ge (by omega) hkn hc
    subst hkn'
    refine lv_iconst (v := -1) hx hb dX0_firstMarkless_39 (by decide) ?_
    exact W.iret (v := (-1)) hx hb hr (fun t ht hW => ⟨⟨(-1), (), rfl, Or.inl ⟨rfl, hinv⟩, by rw [ht]; exact hP, va_K.moved hW.alike hK, hD⟩, hS.F ht⟩) hS.2.2 dX0_firstMarkless_40
  · have hlt := na_nge (by omega) hkn hc
    refine lv_aload_n hx hb dX0_firstMarkless_10 rfl (lv_at hl 0 rfl) ?_
    refine lv_iload_n hx hb dX0_firstMarkless_11 rfl (lv_at hl 1 rfl) ?_
    refine na_calli (As := [.int (nI k)]) (rest := []) (wc := [(h0, .inr (0, [.ref a1, .ref a2, .ref a3, .ref a4, .int (nI n), .int kc, .int lc, .int rn, .int ml, .int lo])), (a1, .inl (cA, 2000, .inl f1)), (a2, .inl (cA, 2000, .inl f2)), (a3, .inl (cA, 2000, .inl f3)), (a4, .inl (cA, 2000, .inl f4))]) (wr := []) (ci := 0) ⟨hx, hb, hml, hown, hts⟩ (c_isBranch l dC dI cA h0 a1 a2 a3 a4 H.size f1 f2 f3 f4 n k kc lc rn ml lo (by omega)) (cwV 1 hts gX0_firstMarkless_X0_isBranch rfl rfl rfl (by decide +kernel) ⟨Nat.le_of_ble_eq_true rfl, Nat.le_of_ble_eq_true rfl⟩) hK hP hD hS hA [0, 1, 2, 3, 4] [] rfl rfl rfl rfl (by decide) rfl rfl 0 rfl rfl hl.1 (Nat.le_of_ble_eq_true rfl) dX0_firstMarkless_12 ⟨Nat.le_of_ble_eq_true rfl, Nat.le_of_ble_eq_true rfl⟩ rfl (fun r u H locs hw hP hD hS => ?_)
    have hP : va_P (dC, dI) vwCl [(h0, .inr (0, [.ref a1, .ref a2, .ref a3, .ref a4, .int (nI n), .int kc, .int lc, .int rn, .int ml, .int lo])), (a1, .inl (cA, 2000, .inl f1)), (a2, .inl (cA, 2000, .inl f2)), (a3, .inl (cA, 2000, .inl f3)), (a4, .inl (cA, 2000, .inl f4))] H := hP
    have hD : va_D A [(h0, .inr (0, [.ref a1, .ref a2, .ref a3, .ref a4, .int (nI n), .int kc, .int lc, .int rn, .int ml, .int lo])), (a1, .inl (cA, 2000, .inl f1)), (a2, .inl (cA, 2000, .inl f2)), (a3, .inl (cA, 2000, .inl f3)), (a4, .inl (cA, 2000, .inl f4))] := hD
    subst hw
    refine lv_if_eq (tgt := 33) hx hb dX0_firstMarkless_15 (by decide) (fun hc2 => ?_) (fun hc2 => ?_)
    · have hlk : f2 k < kc := by rw [na_if2 hc2]; exact hk0
      refine lv_iinc (v := nI (k + 1)) (lv' := [(1, .int (nI (k + 1))), (0, .ref h0)]) hx hb dX0_firstMarkless_33 hl (k := 1) rfl (nI_1 _) (by decide) rfl (fun ls hl => ?_)
      refine lv_goto (tgt := 2) hx hb dX0_firstMarkless_36 (by decide) ?_
      exact ih (n - (k + 1)) (k + 1) _ _ _ (by omega) ⟨⟨by omega, rfl, lt_s hinv hlk⟩, hP, hD, hS, lv_sub hl [1, 0] rfl⟩
    · have hb2 : ¬ f2 k = -1 := fun q => hc2 (if_pos q)
      refine lv_aload_n hx hb dX0_firstMarkless_18 rfl (lv_at hl 0 rfl) ?_
      refine lv_aload_n hx hb dX0_firstMarkless_19 rfl (lv_at hl 0 rfl) ?_
      refine va_get (D := (dC, dI)) (ci := 0) (v := .ref a2) (C := RX0) (T := TX0) (N := 10) hx hb hts in_X0_firstMarkless hown hK hP 0 rfl rfl 1 (by decide) (hts (.fieldLink RX0 13 "BranchLengths" "targets" "[I") (by decide +kernel)) (fun _ h9 => h9) rfl dX0_firstMarkless_20 ?_
      refine lv_iload_n hx hb dX0_firstMarkless_23 rfl (lv_at hl 1 rfl) ?_
      refine na_iald (k := k) hx hb hK hP 2 0 rfl rfl (by omega) (by decide) dX0_firstMarkless_24 ?_
      refine na_calli (As := [.int (f2 k)]) (rest := []) (wc := [(h0, .inr (0, [.ref a1, .ref a2, .ref a3, .ref a4, .int (nI n), .int kc, .int lc, .int rn, .int ml, .int lo])), (a1, .inl (cA, 2000, .inl f1)), (a2, .inl (cA, 2000, .inl f2)), (a3, .inl (cA, 2000, .inl f3)), (a4, .inl (cA, 2000, .inl f4))]) (wr := []) (ci := 0) ⟨hx, hb, hml, hown, hts⟩ (c_isMark l dC dI cA h0 a1 a2 a3 a4 H.size f1 f2 f3 f4 n kc lc rn ml lo (f2 k)) (cwV 1 hts gX0_firstMarkless_X0_isMark rfl rfl rfl (by decide +kernel) ⟨Nat.le_of_ble_eq_true rfl, Nat.le_of_ble_eq_true rfl⟩) hK hP hD hS hA [0, 1, 2, 3, 4] [] rfl rfl rfl rfl (by decide) rfl rfl 0 rfl rfl hl.1 (Nat.le_of_ble_eq_true rfl) dX0_firstMarkless_25 ⟨Nat.le_of_ble_eq_true rfl, Nat.le_of_ble_eq_true rfl⟩ rfl (fun r u H locs hw hP hD hS => ?_)
      have hP : va_P (dC, dI) vwCl [(h0, .inr (0, [.ref a1, .ref a2, .ref a3, .ref a4, .int (nI n), .int kc, .int lc, .int rn, .int ml, .int lo])), (a1, .inl (cA, 2000, .inl f1)), (a2, .inl (cA, 2000, .inl f2)), (a3, .inl (cA, 2000, .inl f3)), (a4, .inl (cA, 2000, .inl f4))] H := hP
      have hD : va_D A [(h0, .inr (0, [.ref a1, .ref a2, .ref a3, .ref a4, .int (nI n), .int kc, .int lc, .int rn, .int ml, .int lo])), (a1, .inl (cA, 2000, .inl f1)), (a2, .inl (cA, 2000, .inl f2)), (a3, .inl (cA, 2000, .inl f3)), (a4, .inl (cA, 2000, .inl f4))] := hD
      subst hw
      refine lv_if_ne (tgt := 33) hx hb dX0_firstMarkless_28 (by decide) (fun hc3 => ?_) (fun hc3 => ?_)
      · have hlk : f2 k < kc := na_nle (na_if1 hc3).2
        refine lv_iinc (v := nI (k + 1)) (lv' := [(1, .int (nI (k + 1))), (0, .ref h0)]) hx hb dX0_firstMarkless_33 hl (k := 1) rfl (nI_1 _) (by decide) rfl (fun ls hl => ?_)
        refine lv_goto (tgt := 2) hx hb dX0_firstMarkless_36 (by decide) ?_
        exact ih (n - (k + 1)) (k + 1) _ _ _ (by omega) ⟨⟨by omega, rfl, lt_s hinv hlk⟩, hP, hD, hS, lv_sub hl [1, 0] rfl⟩
      · refine lv_iload_n hx hb dX0_firstMarkless_31 rfl (lv_at hl 1 rfl) ?_
        exact W.iret (v := (nI k)) hx hb hr (fun t ht hW => ⟨⟨(nI k), (), rfl, Or.inr ⟨k, hlt, rfl, na_nmk (na_if0 hc3) (hf k hlt hb2), hinv⟩, by rw [ht]; exact hP, va_K.moved hW.alike hK, hD⟩, hS.F ht⟩) hS.2.2 dX0_firstMarkless_32
set_option maxHeartbeats 4000000 in
set_option maxRecDepth 100000 in
/-- setPlaces() -/
theorem c_setPlaces (l : Launch) (dC : Nat → ClassId) (dI : Nat → Nat → Nat) (cA : ClassId) (h0 a1 a2 a3 a4 sz : Nat) (f1 f2 f3 f4 : Nat → Int32) (n : Nat) (kc lc rn ml lo : Int32) (hn : n ≤ 2000) : na_Mi (S := Unit) l yX0_setPlaces wsX0_setPlaces ({ frames := 0, cells := 0, slots := 0, locals := 0 }) (dC, dI) vwCl [(cA, .int)] sz [.ref h0] [(h0, .inr (0, [.ref a1, .ref a2, .ref a3, .ref a4, .int (nI n), .int kc, .int lc, .int rn, .int ml, .int lo])), (a1, .inl (cA, 2000, .inl f1)), (a2, .inl (cA, 2000, .inl f2)), (a3, .inl (cA, 2000, .inl f3)), (a4, .inl (cA, 2000, .inl f4))] (fun r _ => r = bx_sum f1 n) (fun _ => [(h0, .inr (0, [.ref a1, .ref a2, .ref a3, .ref a4, .int (nI n), .int kc, .int lc, .int rn, .int ml, .int lo])), (a1, .inl (cA, 2000, .inl f1)), (a2, .inl (cA, 2000, .inl f2)), (a3, .inl (cA, 2000, .inl (xPl f1 f3 n))), (a4, .inl (cA, 2000, .inl f4))]) := by
  refine Met.ofW (cc := cX0_setPlaces) (maxL := 3) (ret := (some .int)) (by decide) rfl ?_
  intro p e s m args below meth c s₁ B hml hv
  obtain ⟨rfl, hsz, hP, hK, hD0⟩ := hv
  have hx := B.exec
  have hb := B.bytes
  have hr := B.returns
  have hts := atoms_spec (ws := wsX0_setPlaces) B.pre
  have hown : s.vm.findClass RX0 = some m.cls := findClass_of_methodNamed B.named
  have hlocks := B.notSynchronized
  subst hsz
  have hD := hD0.self (sz := s.heap.size)
  generalize hAe : va_A [(h0, .inr (0, [.ref a1, .ref a2, .ref a3, .ref a4, .int (nI n), .int kc, .int lc, .int rn, .int ml, .int lo])), (a1, .inl (cA, 2000, .inl f1)), (a2, .inl (cA, 2000, .inl f2)), (a3, .inl (cA, 2000, .inl f3)), (a4, .inl (cA, 2000, .inl f4))] s.heap.size = A at hD ⊢
  have hA : ∀ q : Nat, s.heap.size ≤ q → A q := fun q h => by rw [← hAe]; exact Or.inr h
  have hS : va_S A s.heap s.heap [] := va_S.rf
  have hP : va_P (dC, dI) vwCl [(h0, .inr (0, [.ref a1, .ref a2, .ref a3, .ref a4, .int (nI n), .int kc, .int lc, .int rn, .int ml, .int lo])), (a1, .inl (cA, 2000, .inl f1)), (a2, .inl (cA, 2000, .inl f2)), (a3, .inl (cA, 2000, .inl f3)), (a4, .inl (cA, 2000, .inl f4))] s.heap := hP
  have hl := lv_entry ([.ref h0]) (n := 3) (Nat.le_of_ble_eq_true rfl)
  rw [lg_entry_eq]
  generalize (lg_sl ([.ref h0]) ++ List.replicate (3 - (lg_sl ([.ref h0])).length) Slot.unset).toArray = ls at hl ⊢
  have hl : lv_has ls 3 [(0, .ref h0)] := hl
  refine lv_iconst (v := bx_sum f1 0) hx hb dX0_setPlaces_0 rfl ?_
  refine lv_istore_n (lv' := [(1, .int (bx_sum f1 0)), (0, .ref h0)]) hx hb dX0_setPlaces_1 rfl hl (by decide) rfl (fun ls hl => ?_)
  refine lv_iconst (v := nI 0) hx hb dX0_setPlaces_2 rfl ?_
  refine lv_istore_n (lv' := [(2, .int (nI 0)), (1, .int (bx_sum f1 0)), (0, .ref h0)]) hx hb dX0_setPlaces_3 rfl hl (by decide) rfl (fun ls hl => ?_)
  refine na_loop (pc := 4) (fun (d : Nat) (k : Nat) (H : Heap) (locs : List Loc) (ls : Array Slot) => (k ≤ n ∧ d = n - k) ∧ va_P (dC, dI) vwCl [(h0, .inr (0, [.ref a1, .ref a2, .ref a3, .ref a4, .int (nI n), .int kc, .int lc, .int rn, .int ml, .int lo])), (a1, .inl (cA, 2000, .inl f1)), (a2, .inl (cA, 2000, .inl f2)), (a3, .inl (cA, 2000, .inl (xPl f1 f3 k))), (a4, .inl (cA, 2000, .inl f4))] H ∧ va_D A [(h0, .inr (0, [.ref a1, .ref a2, .ref a3, .ref a4, .int (nI n), .int kc, .int lc, .int rn, .int ml, .int lo])), (a1, .inl (cA, 2000, .inl f1)), (a2, .inl (cA, 2000, .inl f2)), (a3, .inl (cA, 2000, .inl (xPl f1 f3 k))), (a4, .inl (cA, 2000, .inl f4))] ∧ va_S A s.heap H locs ∧ lv_has ls 3 [(0, .ref h0), (1, .int (bx_sum f1 k)), (2, .int (nI k))]) ?_ (n - 0) (0) ⟨⟨Nat.zero_le _, rfl⟩, by rw [xPl_0]; exact hP, by rw [xPl_0]; exact hD, hS, lv_sub hl [2, 1, 0] rfl⟩
  intro d k H locs ls hI ih
  obtain ⟨⟨hkn, hd⟩, hP, hD, hS, hl⟩ := hI
  refine lv_iload_n hx hb dX0_setPlaces_4 rfl (lv_at hl 2 rfl) ?_
  refine lv_aload_n hx hb dX0_setPlaces_5 rfl (lv_at hl 0 rfl) ?_
  refine va_get (D := (dC, dI)) (ci := 0) (v := .int (nI n)) (C := RX0) (T := TX0) (N := 10) hx hb hts in_X0_setPlaces hown hK hP 0 rfl rfl 4 (by decide) (hts (.fieldLink RX0 22 "BranchLengths" "itemCount" "I") (by decide +kernel)) (fun _ h9 => h9) rfl dX0_setPlaces_6 ?_
  refine lv_icmp_ge (tgt := 34) hx hb dX0_setPlaces_9 (by decide) (fun hc => ?_) (fun hc => ?_)
  · have hkn' := na_ge (by omega) hkn hc
    subst hkn'
    refine lv_iload_n hx hb dX0_setPlaces_34 rfl (lv_at hl 1 rfl) ?_
    exact W.iret (v := (bx_sum f1 n)) hx hb hr (fun t ht hW => ⟨⟨(bx_sum f1 n), (), rfl, rfl, by rw [ht]; exact hP, va_K.moved hW.alike hK, hD⟩, hS.F ht⟩) hS.2.2 dX0_setPlaces_35
  · have hlt := na_nge (by omega) hkn hc
    refine lv_aload_n hx hb dX0_setPlaces_12 rfl (lv_at hl 0 rfl) ?_
    refine va_get (D := (dC, dI)) (ci := 0) (v := .ref a3) (C := RX0) (T := TX0) (N := 10) hx hb hts in_X0_setPlaces hown hK hP 0 rfl rfl 2 (by decide) (hts (.fieldLink RX0 16 "BranchLengths" "places" "[I") (by decide +kernel)) (fun _ h9 => h9) rfl dX0_setPlaces_13 ?_
    refine lv_iload_n hx hb dX0_setPlaces_16 rfl (lv_at hl 2 rfl) ?_
    refine lv_iload_n hx hb dX0_setPlaces_17 rfl (lv_at hl 1 rfl) ?_
    refine na_iast (k := k) hx hb hK hP hD hS 3 0 rfl rfl (by omega) (by decide) (xPl f1 f3 (k + 1)) (xPl_s f1 f3 k) dX0_setPlaces_18 (fun H locs hP hD hS => ?_)
    have hP : va_P (dC, dI) vwCl [(h0, .inr (0, [.ref a1, .ref a2, .ref a3, .ref a4, .int (nI n), .int kc, .int lc, .int rn, .int ml, .int lo])), (a1, .inl (cA, 2000, .inl f1)), (a2, .inl (cA, 2000, .inl f2)), (a3, .inl (cA, 2000, .inl (xPl f1 f3 (k + 1)))), (a4, .inl (cA, 2000, .inl f4))] H := hP
    have hD : va_D A [(h0, .inr (0, [.ref a1, .ref a2, .ref a3, .ref a4, .int (nI n), .int kc, .int lc, .int rn, .int ml, .int lo])), (a1, .inl (cA, 2000, .inl f1)), (a2, .inl (cA, 2000, .inl f2)), (a3, .inl (cA, 2000, .inl (xPl f1 f3 (k + 1)))), (a4, .inl (cA, 2000, .inl f4))] := hD
    refine lv_iload_n hx hb dX0_setPlaces_19 rfl (lv_at hl 1 rfl) ?_
    refine lv_aload_n hx hb dX0_setPlaces_20 rfl (lv_at hl 0 rfl) ?_
    refine va_get (D := (dC, dI)) (ci := 0) (v := .ref a1) (C := RX0) (T := TX0) (N := 10) hx hb hts in_X0_setPlaces hown hK hP 0 rfl rfl 0 (by decide) (hts (.fieldLink RX0 9 "BranchLengths" "words" "[I") (by decide +kernel)) (fun _ h9 => h9) rfl dX0_setPlaces_21 ?_
    refine lv_iload_n hx hb dX0_setPlaces_24 rfl (lv_at hl 2 rfl) ?_
    refine na_iald (k := k) hx hb hK hP 1 0 rfl rfl (by omega) (by decide) dX0_setPlaces_25 ?_
    refine lv_iadd hx hb dX0_setPlaces_26 ?_
    refine na_eqi (y := bx_sum f1 (k + 1)) (rfl) ?_
    refine lv_istore_n (lv' := [(1, .int (bx_sum f1 (k + 1))), (0, .ref h0), (2, .int (nI k))]) hx hb dX0_setPlaces_27 rfl hl (by decide) rfl (fun ls hl => ?_)
    refine lv_iinc (v := nI (k + 1)) (lv' := [(2, .int (nI (k + 1))), (1, .int (bx_sum f1 (k + 1))), (0, .ref h0)]) hx hb dX0_setPlaces_28 hl (k := 2) rfl (nI_1 _) (by decide) rfl (fun ls hl => ?_)
    refine lv_goto (tgt := 4) hx hb dX0_setPlaces_31 (by decide) ?_
    exact ih (n - (k + 1)) (k + 1) _ _ _ (by omega) ⟨⟨by omega, rfl⟩, hP, hD, hS, lv_sub hl [2, 1, 0] rfl⟩
set_option maxHeartbeats 4000000 in
set_option maxRecDepth 100000 in
/-- reachesShort(k) -/
theorem c_reachesShort (l : Launch) (dC : Nat → ClassId) (dI : Nat → Nat → Nat) (cA : ClassId) (h0 a1 a2 a3 a4 sz : Nat) (f1 f2 f3 f4 : Nat → Int32) (n k t q : Nat) (kc lc rn ml lo : Int32) (hk : k < 2000) (ht : t < 2000) (hq : q < 2000) (e2 : f2 k = nI t) (e4 : f4 t = nI q) (hm : ¬ kc ≤ nI t) (hi : ¬ nI n ≤ nI q) : na_Mi (S := Unit) l yX0_reachesShort wsX0_reachesShort ({ frames := 1, cells := 0, slots := 0, locals := 21 }) (dC, dI) vwCl [(cA, .int)] sz [.ref h0, .int (nI k)] [(h0, .inr (0, [.ref a1, .ref a2, .ref a3, .ref a4, .int (nI n), .int kc, .int lc, .int rn, .int ml, .int lo])), (a1, .inl (cA, 2000, .inl f1)), (a2, .inl (cA, 2000, .inl f2)), (a3, .inl (cA, 2000, .inl f3)), (a4, .inl (cA, 2000, .inl f4))] (fun r _ => r = if xRs f2 f3 f4 rn k = true then 1 else 0) (fun _ => [(h0, .inr (0, [.ref a1, .ref a2, .ref a3, .ref a4, .int (nI n), .int kc, .int lc, .int rn, .int ml, .int lo])), (a1, .inl (cA, 2000, .inl f1)), (a2, .inl (cA, 2000, .inl f2)), (a3, .inl (cA, 2000, .inl f3)), (a4, .inl (cA, 2000, .inl f4))]) := by
  refine Met.ofW (cc := cX0_reachesShort) (maxL := 4) (ret := (some .boolean)) (by decide) rfl ?_
  intro p e s m args below meth c s₁ B hml hv
  obtain ⟨rfl, hsz, hP, hK, hD0⟩ := hv
  have hx := B.exec
  have hb := B.bytes
  have hr := B.returns
  have hts := atoms_spec (ws := wsX0_reachesShort) B.pre
  have hown : s.vm.findClass RX0 = some m.cls := findClass_of_methodNamed B.named
  have hlocks := B.notSynchronized
  subst hsz
  have hD := hD0.self (sz := s.heap.size)
  generalize hAe : va_A [(h0, .inr (0, [.ref a1, .ref a2, .ref a3, .ref a4, .int (nI n), .int kc, .int lc, .int rn, .int ml, .int lo])), (a1, .inl (cA, 2000, .inl f1)), (a2, .inl (cA, 2000, .inl f2)), (a3, .inl (cA, 2000, .inl f3)), (a4, .inl (cA, 2000, .inl f4))] s.heap.size = A at hD ⊢
  have hA : ∀ q : Nat, s.heap.size ≤ q → A q := fun q h => by rw [← hAe]; exact Or.inr h
  have hS : va_S A s.heap s.heap [] := va_S.rf
  have hP : va_P (dC, dI) vwCl [(h0, .inr (0, [.ref a1, .ref a2, .ref a3, .ref a4, .int (nI n), .int kc, .int lc, .int rn, .int ml, .int lo])), (a1, .inl (cA, 2000, .inl f1)), (a2, .inl (cA, 2000, .inl f2)), (a3, .inl (cA, 2000, .inl f3)), (a4, .inl (cA, 2000, .inl f4))] s.heap := hP
  have hl := lv_entry ([.ref h0, .int (nI k)]) (n := 4) (Nat.le_of_ble_eq_true rfl)
  rw [lg_entry_eq]
  generalize (lg_sl ([.ref h0, .int (nI k)]) ++ List.replicate (4 - (lg_sl ([.ref h0, .int (nI k)])).length) Slot.unset).toArray = ls at hl ⊢
  have hl : lv_has ls 4 [(0, .ref h0), (1, .int (nI k))] := hl
  have e5 : xTq f2 f4 k = q := by unfold xTq; rw [e2, nI_clamp (by omega), e4, nI_clamp (by omega)]
  refine lv_aload_n hx hb dX0_reachesShort_0 rfl (lv_at hl 0 rfl) ?_
  refine va_get (D := (dC, dI)) (ci := 0) (v := .ref a2) (C := RX0) (T := TX0) (N := 10) hx hb hts in_X0_reachesShort hown hK hP 0 rfl rfl 1 (by decide) (hts (.fieldLink RX0 13 "BranchLengths" "targets" "[I") (by decide +kernel)) (fun _ h9 => h9) rfl dX0_reachesShort_1 ?_
  refine lv_iload_n hx hb dX0_reachesShort_4 rfl (lv_at hl 1 rfl) ?_
  refine na_iald (k := k) hx hb hK hP 2 0 rfl rfl (by omega) (by decide) dX0_reachesShort_5 ?_
  refine na_eqi (y := nI t) (e2) ?_
  refine lv_istore_n (lv' := [(2, .int (nI t)), (0, .ref h0), (1, .int (nI k))]) hx hb dX0_reachesShort_6 rfl hl (by decide) rfl (fun ls hl => ?_)
  refine lv_aload_n hx hb dX0_reachesShort_7 rfl (lv_at hl 1 rfl) ?_
  refine lv_iload_n hx hb dX0_reachesShort_8 rfl (lv_at hl 0 rfl) ?_
  refine na_calli (As := [.int (nI t)]) (rest := []) (wc := [(h0, .inr (0, [.ref a1, .ref a2, .ref a3, .ref a4, .int (nI n), .int kc, .int lc, .int rn, .int ml, .int lo])), (a1, .inl (cA, 2000, .inl f1)), (a2, .inl (cA, 2000, .inl f2)), (a3, .inl (cA, 2000, .inl f3)), (a4, .inl (cA, 2000, .inl f4))]) (wr := []) (ci := 0) ⟨hx, hb, hml, hown, hts⟩ (c_isMark l dC dI cA h0 a1 a2 a3 a4 s.heap.size f1 f2 f3 f4 n kc lc rn ml lo (nI t)) (cwV 1 hts gX0_reachesShort_X0_isMark rfl rfl rfl (by decide +kernel) ⟨Nat.le_of_ble_eq_true rfl, Nat.le_of_ble_eq_true rfl⟩) hK hP hD hS hA [0, 1, 2, 3, 4] [] rfl rfl rfl rfl (by decide) rfl rfl 0 rfl rfl hl.1 (Nat.le_of_ble_eq_true rfl) dX0_reachesShort_9 ⟨Nat.le_of_ble_eq_true rfl, Nat.le_of_ble_eq_true rfl⟩ rfl (fun r u H locs hw hP hD hS => ?_)
  have hP : va_P (dC, dI) vwCl [(h0, .inr (0, [.ref a1, .ref a2, .ref a3, .ref a4, .int (nI n), .int kc, .int lc, .int rn, .int ml, .int lo])), (a1, .inl (cA, 2000, .inl f1)), (a2, .inl (cA, 2000, .inl f2)), (a3, .inl (cA, 2000, .inl f3)), (a4, .inl (cA, 2000, .inl f4))] H := hP
  have hD : va_D A [(h0, .inr (0, [.ref a1, .ref a2, .ref a3, .ref a4, .int (nI n), .int kc, .int lc, .int rn, .int ml, .int lo])), (a1, .inl (cA, 2000, .inl f1)), (a2, .inl (cA, 2000, .inl f2)), (a3, .inl (cA, 2000, .inl f3)), (a4, .inl (cA, 2000, .inl f4))] := hD
  have hw : r = 1 := hw.trans (if_pos ⟨nI_pos (by omega), hm⟩)
  subst hw
  refine lv_if_eq (tgt := 28) hx hb dX0_reachesShort_12 (by decide) (fun hc8 => ?_) (fun hc8 => ?_)
  · exact absurd hc8 (by decide)
  · refine lv_aload_n hx hb dX0_reachesShort_15 rfl (lv_at hl 1 rfl) ?_
    refine lv_aload_n hx hb dX0_reachesShort_16 rfl (lv_at hl 1 rfl) ?_
    refine va_get (D := (dC, dI)) (ci := 0) (v := .ref a4) (C := RX0) (T := TX0) (N := 10) hx hb hts in_X0_reachesShort hown hK hP 0 rfl rfl 3 (by decide) (hts (.fieldLink RX0 19 "BranchLengths" "markItems" "[I") (by decide +kernel)) (fun _ h9 => h9) rfl dX0_reachesShort_17 ?_
    refine lv_iload_n hx hb dX0_reachesShort_20 rfl (lv_at hl 0 rfl) ?_
    refine na_iald (k := t) hx hb hK hP 4 0 rfl rfl (by omega) (by decide) dX0_reachesShort_21 ?_
    refine na_eqi (y := nI q) (e4) ?_
    refine na_calli (As := [.int (nI q)]) (rest := []) (wc := [(h0, .inr (0, [.ref a1, .ref a2, .ref a3, .ref a4, .int (nI n), .int kc, .int lc, .int rn, .int ml, .int lo])), (a1, .inl (cA, 2000, .inl f1)), (a2, .inl (cA, 2000, .inl f2)), (a3, .inl (cA, 2000, .inl f3)), (a4, .inl (cA, 2000, .inl f4))]) (wr := []) (ci := 0) ⟨hx, hb, hml, hown, hts⟩ (c_isItem l dC dI cA h0 a1 a2 a3 a4 H.size f1 f2 f3 f4 n kc lc rn ml lo (nI q)) (cwV 1 hts gX0_reachesShort_X0_isItem rfl rfl rfl (by decide +kernel) ⟨Nat.le_of_ble_eq_true rfl, Nat.le_of_ble_eq_true rfl⟩) hK hP hD hS hA [0, 1, 2, 3, 4] [] rfl rfl rfl rfl (by decide) rfl rfl 0 rfl rfl hl.1 (Nat.le_of_ble_eq_true rfl) dX0_reachesShort_22 ⟨Nat.le_of_ble_eq_true rfl, Nat.le_of_ble_eq_true rfl⟩ rfl (fun r u H locs hw hP hD hS => ?_)
    have hP : va_P (dC, dI) vwCl [(h0, .inr (0, [.ref a1, .ref a2, .ref a3, .ref a4, .int (nI n), .int kc, .int lc, .int rn, .int ml, .int lo])), (a1, .inl (cA, 2000, .inl f1)), (a2, .inl (cA, 2000, .inl f2)), (a3, .inl (cA, 2000, .inl f3)), (a4, .inl (cA, 2000, .inl f4))] H := hP
    have hD : va_D A [(h0, .inr (0, [.ref a1, .ref a2, .ref a3, .ref a4, .int (nI n), .int kc, .int lc, .int rn, .int ml, .int lo])), (a1, .inl (cA, 2000, .inl f1)), (a2, .inl (cA, 2000, .inl f2)), (a3, .inl (cA, 2000, .inl f3)), (a4, .inl (cA, 2000, .inl f4))] := hD
    have hw : r = 1 := hw.trans (if_pos ⟨nI_pos (by omega), hi⟩)
    subst hw
    refine lv_if_ne (tgt := 30) hx hb dX0_reachesShort_25 (by decide) (fun hc9 => ?_) (fun hc9 => ?_)
    · refine lv_aload_n hx hb dX0_reachesShort_30 rfl (lv_at hl 1 rfl) ?_
      refine va_get (D := (dC, dI)) (ci := 0) (v := .ref a3) (C := RX0) (T := TX0) (N := 10) hx hb hts in_X0_reachesShort hown hK hP 0 rfl rfl 2 (by decide) (hts (.fieldLink RX0 16 "BranchLengths" "places" "[I") (by decide +kernel)) (fun _ h9 => h9) rfl dX0_reachesShort_31 ?_
      refine lv_aload_n hx hb dX0_reachesShort_34 rfl (lv_at hl 1 rfl) ?_
      refine va_get (D := (dC, dI)) (ci := 0) (v := .ref a4) (C := RX0) (T := TX0) (N := 10) hx hb hts in_X0_reachesShort hown hK hP 0 rfl rfl 3 (by decide) (hts (.fieldLink RX0 19 "BranchLengths" "markItems" "[I") (by decide +kernel)) (fun _ h9 => h9) rfl dX0_reachesShort_35 ?_
      refine lv_iload_n hx hb dX0_reachesShort_38 rfl (lv_at hl 0 rfl) ?_
      refine na_iald (k := t) hx hb hK hP 4 0 rfl rfl (by omega) (by decide) dX0_reachesShort_39 ?_
      refine na_eqi (y := nI q) (e4) ?_
      refine na_iald (k := q) hx hb hK hP 3 0 rfl rfl (by omega) (by decide) dX0_reachesShort_40 ?_
      refine lv_aload_n hx hb dX0_reachesShort_41 rfl (lv_at hl 1 rfl) ?_
      refine va_get (D := (dC, dI)) (ci := 0) (v := .ref a3) (C := RX0) (T := TX0) (N := 10) hx hb hts in_X0_reachesShort hown hK hP 0 rfl rfl 2 (by decide) (hts (.fieldLink RX0 16 "BranchLengths" "places" "[I") (by decide +kernel)) (fun _ h9 => h9) rfl dX0_reachesShort_42 ?_
      refine lv_iload_n hx hb dX0_reachesShort_45 rfl (lv_at hl 2 rfl) ?_
      refine na_iald (k := k) hx hb hK hP 3 0 rfl rfl (by omega) (by decide) dX0_reachesShort_46 ?_
      refine lv_isub hx hb dX0_reachesShort_47 ?_
      refine lv_istore_n (lv' := [(3, .int ((f3 q) - (f3 k))), (2, .int (nI t)), (0, .ref h0), (1, .int (nI k))]) hx hb dX0_reachesShort_48 rfl hl (by decide) rfl (fun ls hl => ?_)
      refine lv_iload_n hx hb dX0_reachesShort_49 rfl (lv_at hl 0 rfl) ?_
      refine lv_aload_n hx hb dX0_reachesShort_50 rfl (lv_at hl 2 rfl) ?_
      refine va_get (D := (dC, dI)) (ci := 0) (v := .int rn) (C := RX0) (T := TX0) (N := 10) hx hb hts in_X0_reachesShort hown hK hP 0 rfl rfl 7 (by decide) (hts (.fieldLink RX0 32 "BranchLengths" "reachNow" "I") (by decide +kernel)) (fun _ h9 => h9) rfl dX0_reachesShort_51 ?_
      refine lv_ineg hx hb dX0_reachesShort_54 ?_
      refine lv_icmp_lt (tgt := 70) hx hb dX0_reachesShort_55 (by decide) (fun hc1 => ?_) (fun hc1 => ?_)
      · refine lv_iconst (v := 0) hx hb dX0_reachesShort_70 (by decide) ?_
        exact W.zret (v := 0) hx hb hr rfl (fun t ht hW => ⟨⟨0, (), rfl, (if_neg (fun z => by unfold xRs at z; rw [e5, Bool.and_eq_true] at z; exact of_decide_eq_true z.1 hc1)).symm, by rw [ht]; exact hP, va_K.moved hW.alike hK, hD⟩, hS.F ht⟩) hS.2.2 dX0_reachesShort_71
      · refine lv_iload_n hx hb dX0_reachesShort_58 rfl (lv_at hl 0 rfl) ?_
        refine lv_aload_n hx hb dX0_reachesShort_59 rfl (lv_at hl 2 rfl) ?_
        refine va_get (D := (dC, dI)) (ci := 0) (v := .int rn) (C := RX0) (T := TX0) (N := 10) hx hb hts in_X0_reachesShort hown hK hP 0 rfl rfl 7 (by decide) (hts (.fieldLink RX0 32 "BranchLengths" "reachNow" "I") (by decide +kernel)) (fun _ h9 => h9) rfl dX0_reachesShort_60 ?_
        refine lv_icmp_gt (tgt := 70) hx hb dX0_reachesShort_63 (by decide) (fun hc2 => ?_) (fun hc2 => ?_)
        · refine lv_iconst (v := 0) hx hb dX0_reachesShort_70 (by decide) ?_
          exact W.zret (v := 0) hx hb hr rfl (fun t ht hW => ⟨⟨0, (), rfl, (if_neg (fun z => by unfold xRs at z; rw [e5, Bool.and_eq_true] at z; exact of_decide_eq_true z.2 hc2)).symm, by rw [ht]; exact hP, va_K.moved hW.alike hK, hD⟩, hS.F ht⟩) hS.2.2 dX0_reachesShort_71
        · refine lv_iconst (v := 1) hx hb dX0_reachesShort_66 (by decide) ?_
          refine lv_goto (tgt := 71) hx hb dX0_reachesShort_67 (by decide) ?_
          exact W.zret (v := 1) hx hb hr rfl (fun t ht hW => ⟨⟨1, (), rfl, (if_pos (by unfold xRs; rw [e5, Bool.and_eq_true]; exact ⟨decide_eq_true hc1, decide_eq_true hc2⟩)).symm, by rw [ht]; exact hP, va_K.moved hW.alike hK, hD⟩, hS.F ht⟩) hS.2.2 dX0_reachesShort_71
    · exact absurd hc9 (by decide)
