set_option maxHeartbeats 4000000 in
set_option maxRecDepth 100000 in
/-- stretch(p), refused -/
theorem c_stretch_no (l : Launch) (dC : Nat → ClassId) (dI : Nat → Nat → Nat) (cA : ClassId) (h0 a1 a2 a3 a4 sz : Nat) (f1 f2 f3 f4 : Nat → Int32) (n : Nat) (kc lc rn ml lo p1 : Int32) (hp : p1 < 0 ∨ ¬ p1 ≤ 4000) : na_Mi (S := Unit) l yX0_stretch wsX0_stretch ({ frames := 1, cells := 0, slots := 0, locals := 23 }) (dC, dI) vwCl [(cA, .int)] sz [.ref h0, .int p1] [(h0, .inr (0, [.ref a1, .ref a2, .ref a3, .ref a4, .int (nI n), .int kc, .int lc, .int rn, .int ml, .int lo])), (a1, .inl (cA, 2000, .inl f1)), (a2, .inl (cA, 2000, .inl f2)), (a3, .inl (cA, 2000, .inl f3)), (a4, .inl (cA, 2000, .inl f4))] (fun r _ => r = -1) (fun _ => [(h0, .inr (0, [.ref a1, .ref a2, .ref a3, .ref a4, .int (nI n), .int kc, .int lc, .int rn, .int ml, .int lo])), (a1, .inl (cA, 2000, .inl f1)), (a2, .inl (cA, 2000, .inl f2)), (a3, .inl (cA, 2000, .inl f3)), (a4, .inl (cA, 2000, .inl f4))]) := by
  refine Met.ofW (cc := cX0_stretch) (maxL := 2) (ret := (some .int)) (by decide) rfl ?_
  intro p e s m args below meth c s₁ B hml hv
  obtain ⟨rfl, hsz, hP, hK, hD0⟩ := hv
  have hx := B.exec
  have hb := B.bytes
  have hr := B.returns
  have hts := atoms_spec (ws := wsX0_stretch) B.pre
  have hown : s.vm.findClass RX0 = some m.cls := findClass_of_methodNamed B.named
  have hlocks := B.notSynchronized
  subst hsz
  have hD := hD0.self (sz := s.heap.size)
  generalize hAe : va_A [(h0, .inr (0, [.ref a1, .ref a2, .ref a3, .ref a4, .int (nI n), .int kc, .int lc, .int rn, .int ml, .int lo])), (a1, .inl (cA, 2000, .inl f1)), (a2, .inl (cA, 2000, .inl f2)), (a3, .inl (cA, 2000, .inl f3)), (a4, .inl (cA, 2000, .inl f4))] s.heap.size = A at hD ⊢
  have hA : ∀ q : Nat, s.heap.size ≤ q → A q := fun q h => by rw [← hAe]; exact Or.inr h
  have hS : va_S A s.heap s.heap [] := va_S.rf
  have hP : va_P (dC, dI) vwCl [(h0, .inr (0, [.ref a1, .ref a2, .ref a3, .ref a4, .int (nI n), .int kc, .int lc, .int rn, .int ml, .int lo])), (a1, .inl (cA, 2000, .inl f1)), (a2, .inl (cA, 2000, .inl f2)), (a3, .inl (cA, 2000, .inl f3)), (a4, .inl (cA, 2000, .inl f4))] s.heap := hP
  have hl := lv_entry ([.ref h0, .int p1]) (n := 2) (Nat.le_of_ble_eq_true rfl)
  rw [lg_entry_eq]
  generalize (lg_sl ([.ref h0, .int p1]) ++ List.replicate (2 - (lg_sl ([.ref h0, .int p1])).length) Slot.unset).toArray = ls at hl ⊢
  have hl : lv_has ls 2 [(0, .ref h0), (1, .int p1)] := hl
  refine lv_iload_n hx hb dX0_stretch_0 rfl (lv_at hl 1 rfl) ?_
  refine lv_if_lt (tgt := 11) hx hb dX0_stretch_1 (by decide) (fun hc1 => ?_) (fun hc1 => ?_)
  · refine lv_iconst (v := -1) hx hb dX0_stretch_11 (by decide) ?_
    exact W.iret (v := (-1)) hx hb hr (fun t ht hW => ⟨⟨(-1), (), rfl, rfl, by rw [ht]; exact hP, va_K.moved hW.alike hK, hD⟩, hS.F ht⟩) hS.2.2 dX0_stretch_12
  · refine lv_iload_n hx hb dX0_stretch_4 rfl (lv_at hl 1 rfl) ?_
    refine lv_sipush (v := 4000) hx hb dX0_stretch_5 (by decide) ?_
    refine lv_icmp_le (tgt := 13) hx hb dX0_stretch_8 (by decide) (fun hc2 => ?_) (fun hc2 => ?_)
    · exact absurd hp (fun q => q.elim hc1 (fun z => z hc2))
    · refine lv_iconst (v := -1) hx hb dX0_stretch_11 (by decide) ?_
      exact W.iret (v := (-1)) hx hb hr (fun t ht hW => ⟨⟨(-1), (), rfl, rfl, by rw [ht]; exact hP, va_K.moved hW.alike hK, hD⟩, hS.F ht⟩) hS.2.2 dX0_stretch_12
set_option maxHeartbeats 4000000 in
set_option maxRecDepth 100000 in
/-- stretch(p) -/
theorem c_stretch_ok (l : Launch) (dC : Nat → ClassId) (dI : Nat → Nat → Nat) (cA : ClassId) (h0 a1 a2 a3 a4 sz : Nat) (f1 f2 f3 f4 : Nat → Int32) (n : Nat) (kc lc rn ml lo p1 : Int32) (hn : n < 2000) (hp1 : ¬ p1 < 0) (hp2 : p1 ≤ 4000) : na_Mi (S := Unit) l yX0_stretch wsX0_stretch ({ frames := 1, cells := 0, slots := 0, locals := 23 }) (dC, dI) vwCl [(cA, .int)] sz [.ref h0, .int p1] [(h0, .inr (0, [.ref a1, .ref a2, .ref a3, .ref a4, .int (nI n), .int kc, .int lc, .int rn, .int ml, .int lo])), (a1, .inl (cA, 2000, .inl f1)), (a2, .inl (cA, 2000, .inl f2)), (a3, .inl (cA, 2000, .inl f3)), (a4, .inl (cA, 2000, .inl f4))] (fun r _ => r = nI n) (fun _ => [(h0, .inr (0, [.ref a1, .ref a2, .ref a3, .ref a4, .int (nI (n + 1)), .int kc, .int lc, .int rn, .int ml, .int 0])), (a1, .inl (cA, 2000, .inl (upd f1 n p1))), (a2, .inl (cA, 2000, .inl (upd f2 n (-1)))), (a3, .inl (cA, 2000, .inl f3)), (a4, .inl (cA, 2000, .inl f4))]) := by
  refine Met.ofW (cc := cX0_stretch) (maxL := 2) (ret := (some .int)) (by decide) rfl ?_
  intro p e s m args below meth c s₁ B hml hv
  obtain ⟨rfl, hsz, hP, hK, hD0⟩ := hv
  have hx := B.exec
  have hb := B.bytes
  have hr := B.returns
  have hts := atoms_spec (ws := wsX0_stretch) B.pre
  have hown : s.vm.findClass RX0 = some m.cls := findClass_of_methodNamed B.named
  have hlocks := B.notSynchronized
  subst hsz
  have hD := hD0.self (sz := s.heap.size)
  generalize hAe : va_A [(h0, .inr (0, [.ref a1, .ref a2, .ref a3, .ref a4, .int (nI n), .int kc, .int lc, .int rn, .int ml, .int lo])), (a1, .inl (cA, 2000, .inl f1)), (a2, .inl (cA, 2000, .inl f2)), (a3, .inl (cA, 2000, .inl f3)), (a4, .inl (cA, 2000, .inl f4))] s.heap.size = A at hD ⊢
  have hA : ∀ q : Nat, s.heap.size ≤ q → A q := fun q h => by rw [← hAe]; exact Or.inr h
  have hS : va_S A s.heap s.heap [] := va_S.rf
  have hP : va_P (dC, dI) vwCl [(h0, .inr (0, [.ref a1, .ref a2, .ref a3, .ref a4, .int (nI n), .int kc, .int lc, .int rn, .int ml, .int lo])), (a1, .inl (cA, 2000, .inl f1)), (a2, .inl (cA, 2000, .inl f2)), (a3, .inl (cA, 2000, .inl f3)), (a4, .inl (cA, 2000, .inl f4))] s.heap := hP
  have hl := lv_entry ([.ref h0, .int p1]) (n := 2) (Nat.le_of_ble_eq_true rfl)
  rw [lg_entry_eq]
  generalize (lg_sl ([.ref h0, .int p1]) ++ List.replicate (2 - (lg_sl ([.ref h0, .int p1])).length) Slot.unset).toArray = ls at hl ⊢
  have hl : lv_has ls 2 [(0, .ref h0), (1, .int p1)] := hl
  refine lv_iload_n hx hb dX0_stretch_0 rfl (lv_at hl 1 rfl) ?_
  refine lv_if_lt (tgt := 11) hx hb dX0_stretch_1 (by decide) (fun hc1 => ?_) (fun hc1 => ?_)
  · exact absurd hc1 hp1
  · refine lv_iload_n hx hb dX0_stretch_4 rfl (lv_at hl 1 rfl) ?_
    refine lv_sipush (v := 4000) hx hb dX0_stretch_5 (by decide) ?_
    refine lv_icmp_le (tgt := 13) hx hb dX0_stretch_8 (by decide) (fun hc2 => ?_) (fun hc2 => ?_)
    · refine lv_aload_n hx hb dX0_stretch_13 rfl (lv_at hl 0 rfl) ?_
      refine lv_iload_n hx hb dX0_stretch_14 rfl (lv_at hl 1 rfl) ?_
      refine lv_iconst (v := -1) hx hb dX0_stretch_15 (by decide) ?_
      refine na_calli (As := [.int p1, .int (-1)]) (rest := []) (wc := [(h0, .inr (0, [.ref a1, .ref a2, .ref a3, .ref a4, .int (nI n), .int kc, .int lc, .int rn, .int ml, .int lo])), (a1, .inl (cA, 2000, .inl f1)), (a2, .inl (cA, 2000, .inl f2)), (a3, .inl (cA, 2000, .inl f3)), (a4, .inl (cA, 2000, .inl f4))]) (wr := []) (ci := 0) ⟨hx, hb, hml, hown, hts⟩ (c_append l dC dI cA h0 a1 a2 a3 a4 s.heap.size f1 f2 f3 f4 n kc lc rn ml lo p1 (-1) hn) (cwV 2 hts gX0_stretch_X0_append rfl rfl rfl (by decide +kernel) ⟨Nat.le_of_ble_eq_true rfl, Nat.le_of_ble_eq_true rfl⟩) hK hP hD hS hA [0, 1, 2, 3, 4] [] rfl rfl rfl rfl (by decide) rfl rfl 0 rfl rfl hl.1 (Nat.le_of_ble_eq_true rfl) dX0_stretch_16 ⟨Nat.le_of_ble_eq_true rfl, Nat.le_of_ble_eq_true rfl⟩ rfl (fun r u H locs hw hP hD hS => ?_)
      have hP : va_P (dC, dI) vwCl [(h0, .inr (0, [.ref a1, .ref a2, .ref a3, .ref a4, .int (nI (n + 1)), .int kc, .int lc, .int rn, .int ml, .int 0])), (a1, .inl (cA, 2000, .inl (upd f1 n p1))), (a2, .inl (cA, 2000, .inl (upd f2 n (-1)))), (a3, .inl (cA, 2000, .inl f3)), (a4, .inl (cA, 2000, .inl f4))] H := hP
      have hD : va_D A [(h0, .inr (0, [.ref a1, .ref a2, .ref a3, .ref a4, .int (nI (n + 1)), .int kc, .int lc, .int rn, .int ml, .int 0])), (a1, .inl (cA, 2000, .inl (upd f1 n p1))), (a2, .inl (cA, 2000, .inl (upd f2 n (-1)))), (a3, .inl (cA, 2000, .inl f3)), (a4, .inl (cA, 2000, .inl f4))] := hD
      subst hw
      exact W.iret (v := (nI n)) hx hb hr (fun t ht hW => ⟨⟨(nI n), (), rfl, rfl, by rw [ht]; exact hP, va_K.moved hW.alike hK, hD⟩, hS.F ht⟩) hS.2.2 dX0_stretch_19
    · exact absurd hp2 hc2
set_option maxHeartbeats 4000000 in
set_option maxRecDepth 100000 in
/-- mark() -/
theorem c_mark (l : Launch) (dC : Nat → ClassId) (dI : Nat → Nat → Nat) (cA : ClassId) (h0 a1 a2 a3 a4 sz : Nat) (f1 f2 f3 f4 : Nat → Int32) (n K : Nat) (lc rn ml lo : Int32) (hn : n < 2000) (hK2 : K < 2000) : na_Mi (S := Unit) l yX0_mark wsX0_mark ({ frames := 1, cells := 0, slots := 0, locals := 23 }) (dC, dI) vwCl [(cA, .int)] sz [.ref h0] [(h0, .inr (0, [.ref a1, .ref a2, .ref a3, .ref a4, .int (nI n), .int (nI K), .int lc, .int rn, .int ml, .int lo])), (a1, .inl (cA, 2000, .inl f1)), (a2, .inl (cA, 2000, .inl f2)), (a3, .inl (cA, 2000, .inl f3)), (a4, .inl (cA, 2000, .inl f4))] (fun r _ => r = nI n) (fun _ => [(h0, .inr (0, [.ref a1, .ref a2, .ref a3, .ref a4, .int (nI (n + 1)), .int (nI (K + 1)), .int lc, .int rn, .int ml, .int 0])), (a1, .inl (cA, 2000, .inl (upd f1 n 0))), (a2, .inl (cA, 2000, .inl (upd f2 n (-1)))), (a3, .inl (cA, 2000, .inl f3)), (a4, .inl (cA, 2000, .inl (upd f4 K (nI n))))]) := by
  refine Met.ofW (cc := cX0_mark) (maxL := 2) (ret := (some .int)) (by decide) rfl ?_
  intro p e s m args below meth c s₁ B hml hv
  obtain ⟨rfl, hsz, hP, hK, hD0⟩ := hv
  have hx := B.exec
  have hb := B.bytes
  have hr := B.returns
  have hts := atoms_spec (ws := wsX0_mark) B.pre
  have hown : s.vm.findClass RX0 = some m.cls := findClass_of_methodNamed B.named
  have hlocks := B.notSynchronized
  subst hsz
  have hD := hD0.self (sz := s.heap.size)
  generalize hAe : va_A [(h0, .inr (0, [.ref a1, .ref a2, .ref a3, .ref a4, .int (nI n), .int (nI K), .int lc, .int rn, .int ml, .int lo])), (a1, .inl (cA, 2000, .inl f1)), (a2, .inl (cA, 2000, .inl f2)), (a3, .inl (cA, 2000, .inl f3)), (a4, .inl (cA, 2000, .inl f4))] s.heap.size = A at hD ⊢
  have hA : ∀ q : Nat, s.heap.size ≤ q → A q := fun q h => by rw [← hAe]; exact Or.inr h
  have hS : va_S A s.heap s.heap [] := va_S.rf
  have hP : va_P (dC, dI) vwCl [(h0, .inr (0, [.ref a1, .ref a2, .ref a3, .ref a4, .int (nI n), .int (nI K), .int lc, .int rn, .int ml, .int lo])), (a1, .inl (cA, 2000, .inl f1)), (a2, .inl (cA, 2000, .inl f2)), (a3, .inl (cA, 2000, .inl f3)), (a4, .inl (cA, 2000, .inl f4))] s.heap := hP
  have hl := lv_entry ([.ref h0]) (n := 2) (Nat.le_of_ble_eq_true rfl)
  rw [lg_entry_eq]
  generalize (lg_sl ([.ref h0]) ++ List.replicate (2 - (lg_sl ([.ref h0])).length) Slot.unset).toArray = ls at hl ⊢
  have hl : lv_has ls 2 [(0, .ref h0)] := hl
  refine lv_aload_n hx hb dX0_mark_0 rfl (lv_at hl 0 rfl) ?_
  refine va_get (D := (dC, dI)) (ci := 0) (v := .int (nI K)) (C := RX0) (T := TX0) (N := 10) hx hb hts in_X0_mark hown hK hP 0 rfl rfl 5 (by decide) (hts (.fieldLink RX0 26 "BranchLengths" "markCount" "I") (by decide +kernel)) (fun _ h9 => h9) rfl dX0_mark_1 ?_
  refine lv_sipush (v := 2000) hx hb dX0_mark_4 (by decide) ?_
  refine lv_icmp_lt (tgt := 12) hx hb dX0_mark_7 (by decide) (fun hc0 => ?_) (fun hc0 => ?_)
  · refine lv_aload_n hx hb dX0_mark_12 rfl (lv_at hl 0 rfl) ?_
    refine lv_iconst (v := 0) hx hb dX0_mark_13 rfl ?_
    refine lv_iconst (v := -1) hx hb dX0_mark_14 (by decide) ?_
    refine na_calli (As := [.int 0, .int (-1)]) (rest := []) (wc := [(h0, .inr (0, [.ref a1, .ref a2, .ref a3, .ref a4, .int (nI n), .int (nI K), .int lc, .int rn, .int ml, .int lo])), (a1, .inl (cA, 2000, .inl f1)), (a2, .inl (cA, 2000, .inl f2)), (a3, .inl (cA, 2000, .inl f3)), (a4, .inl (cA, 2000, .inl f4))]) (wr := []) (ci := 0) ⟨hx, hb, hml, hown, hts⟩ (c_append l dC dI cA h0 a1 a2 a3 a4 s.heap.size f1 f2 f3 f4 n (nI K) lc rn ml lo 0 (-1) hn) (cwV 2 hts gX0_mark_X0_append rfl rfl rfl (by decide +kernel) ⟨Nat.le_of_ble_eq_true rfl, Nat.le_of_ble_eq_true rfl⟩) hK hP hD hS hA [0, 1, 2, 3, 4] [] rfl rfl rfl rfl (by decide) rfl rfl 0 rfl rfl hl.1 (Nat.le_of_ble_eq_true rfl) dX0_mark_15 ⟨Nat.le_of_ble_eq_true rfl, Nat.le_of_ble_eq_true rfl⟩ rfl (fun r u H locs hw hP hD hS => ?_)
    have hP : va_P (dC, dI) vwCl [(h0, .inr (0, [.ref a1, .ref a2, .ref a3, .ref a4, .int (nI (n + 1)), .int (nI K), .int lc, .int rn, .int ml, .int 0])), (a1, .inl (cA, 2000, .inl (upd f1 n 0))), (a2, .inl (cA, 2000, .inl (upd f2 n (-1)))), (a3, .inl (cA, 2000, .inl f3)), (a4, .inl (cA, 2000, .inl f4))] H := hP
    have hD : va_D A [(h0, .inr (0, [.ref a1, .ref a2, .ref a3, .ref a4, .int (nI (n + 1)), .int (nI K), .int lc, .int rn, .int ml, .int 0])), (a1, .inl (cA, 2000, .inl (upd f1 n 0))), (a2, .inl (cA, 2000, .inl (upd f2 n (-1)))), (a3, .inl (cA, 2000, .inl f3)), (a4, .inl (cA, 2000, .inl f4))] := hD
    subst hw
    refine lv_istore_n (lv' := [(1, .int (nI n)), (0, .ref h0)]) hx hb dX0_mark_18 rfl hl (by decide) rfl (fun ls hl => ?_)
    refine lv_iload_n hx hb dX0_mark_19 rfl (lv_at hl 0 rfl) ?_
    refine lv_iconst (v := -1) hx hb dX0_mark_20 (by decide) ?_
    refine lv_icmp_eq (tgt := 44) hx hb dX0_mark_21 (by decide) (fun hc1 => ?_) (fun hc1 => ?_)
    · exact absurd hc1 (nI_m1 (by omega))
    · refine lv_aload_n hx hb dX0_mark_24 rfl (lv_at hl 1 rfl) ?_
      refine va_get (D := (dC, dI)) (ci := 0) (v := .ref a4) (C := RX0) (T := TX0) (N := 10) hx hb hts in_X0_mark hown hK hP 0 rfl rfl 3 (by decide) (hts (.fieldLink RX0 19 "BranchLengths" "markItems" "[I") (by decide +kernel)) (fun _ h9 => h9) rfl dX0_mark_25 ?_
      refine lv_aload_n hx hb dX0_mark_28 rfl (lv_at hl 1 rfl) ?_
      refine va_get (D := (dC, dI)) (ci := 0) (v := .int (nI K)) (C := RX0) (T := TX0) (N := 10) hx hb hts in_X0_mark hown hK hP 0 rfl rfl 5 (by decide) (hts (.fieldLink RX0 26 "BranchLengths" "markCount" "I") (by decide +kernel)) (fun _ h9 => h9) rfl dX0_mark_29 ?_
      refine lv_iload_n hx hb dX0_mark_32 rfl (lv_at hl 0 rfl) ?_
      refine na_iast (k := K) hx hb hK hP hD hS 4 0 rfl rfl (by omega) (by decide) (upd f4 K (nI n)) (rfl) dX0_mark_33 (fun H locs hP hD hS => ?_)
      have hP : va_P (dC, dI) vwCl [(h0, .inr (0, [.ref a1, .ref a2, .ref a3, .ref a4, .int (nI (n + 1)), .int (nI K), .int lc, .int rn, .int ml, .int 0])), (a1, .inl (cA, 2000, .inl (upd f1 n 0))), (a2, .inl (cA, 2000, .inl (upd f2 n (-1)))), (a3, .inl (cA, 2000, .inl f3)), (a4, .inl (cA, 2000, .inl (upd f4 K (nI n))))] H := hP
      have hD : va_D A [(h0, .inr (0, [.ref a1, .ref a2, .ref a3, .ref a4, .int (nI (n + 1)), .int (nI K), .int lc, .int rn, .int ml, .int 0])), (a1, .inl (cA, 2000, .inl (upd f1 n 0))), (a2, .inl (cA, 2000, .inl (upd f2 n (-1)))), (a3, .inl (cA, 2000, .inl f3)), (a4, .inl (cA, 2000, .inl (upd f4 K (nI n))))] := hD
      refine lv_aload_n hx hb dX0_mark_34 rfl (lv_at hl 1 rfl) ?_
      refine lv_dup hx hb dX0_mark_35 rfl ?_
      refine va_get (D := (dC, dI)) (ci := 0) (v := .int (nI K)) (C := RX0) (T := TX0) (N := 10) hx hb hts in_X0_mark hown hK hP 0 rfl rfl 5 (by decide) (hts (.fieldLink RX0 26 "BranchLengths" "markCount" "I") (by decide +kernel)) (fun _ h9 => h9) rfl dX0_mark_36 ?_
      refine lv_iconst (v := 1) hx hb dX0_mark_39 (by decide) ?_
      refine lv_iadd hx hb dX0_mark_40 ?_
      refine na_eqi (y := nI (K + 1)) (nI_1 K) ?_
      refine va_put (D := (dC, dI)) (ci := 0) (v := .int (nI (K + 1))) (ty := .int) (C := RX0) (T := TX0) (N := 10) hx hb hts in_X0_mark tyX0 tyX0_ok nmX0 hown hK hP hD hS 0 rfl rfl 5 (by decide) (hts (.fieldLink RX0 26 "BranchLengths" "markCount" "I") (by decide +kernel)) (fun _ h9 => h9) rfl (by decide +kernel) rfl rfl (Nat.le_of_ble_eq_true rfl) dX0_mark_41 (fun H locs hP hD hS => ?_)
      have hP : va_P (dC, dI) vwCl [(h0, .inr (0, [.ref a1, .ref a2, .ref a3, .ref a4, .int (nI (n + 1)), .int (nI (K + 1)), .int lc, .int rn, .int ml, .int 0])), (a1, .inl (cA, 2000, .inl (upd f1 n 0))), (a2, .inl (cA, 2000, .inl (upd f2 n (-1)))), (a3, .inl (cA, 2000, .inl f3)), (a4, .inl (cA, 2000, .inl (upd f4 K (nI n))))] H := hP
      have hD : va_D A [(h0, .inr (0, [.ref a1, .ref a2, .ref a3, .ref a4, .int (nI (n + 1)), .int (nI (K + 1)), .int lc, .int rn, .int ml, .int 0])), (a1, .inl (cA, 2000, .inl (upd f1 n 0))), (a2, .inl (cA, 2000, .inl (upd f2 n (-1)))), (a3, .inl (cA, 2000, .inl f3)), (a4, .inl (cA, 2000, .inl (upd f4 K (nI n))))] := hD
      refine lv_iload_n hx hb dX0_mark_44 rfl (lv_at hl 0 rfl) ?_
      exact W.iret (v := (nI n)) hx hb hr (fun t ht hW => ⟨⟨(nI n), (), rfl, rfl, by rw [ht]; exact hP, va_K.moved hW.alike hK, hD⟩, hS.F ht⟩) hS.2.2 dX0_mark_45
  · exact absurd (show nI K < nI 2000 from nI_lt hK2 (by decide)) hc0
set_option maxHeartbeats 4000000 in
set_option maxRecDepth 100000 in
/-- branch(p), refused -/
theorem c_branch_no (l : Launch) (dC : Nat → ClassId) (dI : Nat → Nat → Nat) (cA : ClassId) (h0 a1 a2 a3 a4 sz : Nat) (f1 f2 f3 f4 : Nat → Int32) (n : Nat) (kc lc rn ml lo p1 : Int32) (hp : p1 < 0) : na_Mi (S := Unit) l yX0_branch wsX0_branch ({ frames := 1, cells := 0, slots := 0, locals := 23 }) (dC, dI) vwCl [(cA, .int)] sz [.ref h0, .int p1] [(h0, .inr (0, [.ref a1, .ref a2, .ref a3, .ref a4, .int (nI n), .int kc, .int lc, .int rn, .int ml, .int lo])), (a1, .inl (cA, 2000, .inl f1)), (a2, .inl (cA, 2000, .inl f2)), (a3, .inl (cA, 2000, .inl f3)), (a4, .inl (cA, 2000, .inl f4))] (fun r _ => r = -1) (fun _ => [(h0, .inr (0, [.ref a1, .ref a2, .ref a3, .ref a4, .int (nI n), .int kc, .int lc, .int rn, .int ml, .int lo])), (a1, .inl (cA, 2000, .inl f1)), (a2, .inl (cA, 2000, .inl f2)), (a3, .inl (cA, 2000, .inl f3)), (a4, .inl (cA, 2000, .inl f4))]) := by
  refine Met.ofW (cc := cX0_branch) (maxL := 2) (ret := (some .int)) (by decide) rfl ?_
  intro p e s m args below meth c s₁ B hml hv
  obtain ⟨rfl, hsz, hP, hK, hD0⟩ := hv
  have hx := B.exec
  have hb := B.bytes
  have hr := B.returns
  have hts := atoms_spec (ws := wsX0_branch) B.pre
  have hown : s.vm.findClass RX0 = some m.cls := findClass_of_methodNamed B.named
  have hlocks := B.notSynchronized
  subst hsz
  have hD := hD0.self (sz := s.heap.size)
  generalize hAe : va_A [(h0, .inr (0, [.ref a1, .ref a2, .ref a3, .ref a4, .int (nI n), .int kc, .int lc, .int rn, .int ml, .int lo])), (a1, .inl (cA, 2000, .inl f1)), (a2, .inl (cA, 2000, .inl f2)), (a3, .inl (cA, 2000, .inl f3)), (a4, .inl (cA, 2000, .inl f4))] s.heap.size = A at hD ⊢
  have hA : ∀ q : Nat, s.heap.size ≤ q → A q := fun q h => by rw [← hAe]; exact Or.inr h
  have hS : va_S A s.heap s.heap [] := va_S.rf
  have hP : va_P (dC, dI) vwCl [(h0, .inr (0, [.ref a1, .ref a2, .ref a3, .ref a4, .int (nI n), .int kc, .int lc, .int rn, .int ml, .int lo])), (a1, .inl (cA, 2000, .inl f1)), (a2, .inl (cA, 2000, .inl f2)), (a3, .inl (cA, 2000, .inl f3)), (a4, .inl (cA, 2000, .inl f4))] s.heap := hP
  have hl := lv_entry ([.ref h0, .int p1]) (n := 2) (Nat.le_of_ble_eq_true rfl)
  rw [lg_entry_eq]
  generalize (lg_sl ([.ref h0, .int p1]) ++ List.replicate (2 - (lg_sl ([.ref h0, .int p1])).length) Slot.unset).toArray = ls at hl ⊢
  have hl : lv_has ls 2 [(0, .ref h0), (1, .int p1)] := hl
  refine lv_iload_n hx hb dX0_branch_0 rfl (lv_at hl 1 rfl) ?_
  refine lv_if_ge (tgt := 6) hx hb dX0_branch_1 (by decide) (fun hc1 => ?_) (fun hc1 => ?_)
  · exact absurd hp (na_nlt hc1)
  · refine lv_iconst (v := -1) hx hb dX0_branch_4 (by decide) ?_
    exact W.iret (v := (-1)) hx hb hr (fun t ht hW => ⟨⟨(-1), (), rfl, rfl, by rw [ht]; exact hP, va_K.moved hW.alike hK, hD⟩, hS.F ht⟩) hS.2.2 dX0_branch_5
set_option maxHeartbeats 4000000 in
set_option maxRecDepth 100000 in
/-- branch(p) -/
theorem c_branch_ok (l : Launch) (dC : Nat → ClassId) (dI : Nat → Nat → Nat) (cA : ClassId) (h0 a1 a2 a3 a4 sz : Nat) (f1 f2 f3 f4 : Nat → Int32) (n : Nat) (kc lc rn ml lo p1 : Int32) (hn : n < 2000) (hp : ¬ p1 < 0) : na_Mi (S := Unit) l yX0_branch wsX0_branch ({ frames := 1, cells := 0, slots := 0, locals := 23 }) (dC, dI) vwCl [(cA, .int)] sz [.ref h0, .int p1] [(h0, .inr (0, [.ref a1, .ref a2, .ref a3, .ref a4, .int (nI n), .int kc, .int lc, .int rn, .int ml, .int lo])), (a1, .inl (cA, 2000, .inl f1)), (a2, .inl (cA, 2000, .inl f2)), (a3, .inl (cA, 2000, .inl f3)), (a4, .inl (cA, 2000, .inl f4))] (fun r _ => r = nI n) (fun _ => [(h0, .inr (0, [.ref a1, .ref a2, .ref a3, .ref a4, .int (nI (n + 1)), .int kc, .int lc, .int rn, .int ml, .int 0])), (a1, .inl (cA, 2000, .inl (upd f1 n 1))), (a2, .inl (cA, 2000, .inl (upd f2 n p1))), (a3, .inl (cA, 2000, .inl f3)), (a4, .inl (cA, 2000, .inl f4))]) := by
  refine Met.ofW (cc := cX0_branch) (maxL := 2) (ret := (some .int)) (by decide) rfl ?_
  intro p e s m args below meth c s₁ B hml hv
  obtain ⟨rfl, hsz, hP, hK, hD0⟩ := hv
  have hx := B.exec
  have hb := B.bytes
  have hr := B.returns
  have hts := atoms_spec (ws := wsX0_branch) B.pre
  have hown : s.vm.findClass RX0 = some m.cls := findClass_of_methodNamed B.named
  have hlocks := B.notSynchronized
  subst hsz
  have hD := hD0.self (sz := s.heap.size)
  generalize hAe : va_A [(h0, .inr (0, [.ref a1, .ref a2, .ref a3, .ref a4, .int (nI n), .int kc, .int lc, .int rn, .int ml, .int lo])), (a1, .inl (cA, 2000, .inl f1)), (a2, .inl (cA, 2000, .inl f2)), (a3, .inl (cA, 2000, .inl f3)), (a4, .inl (cA, 2000, .inl f4))] s.heap.size = A at hD ⊢
  have hA : ∀ q : Nat, s.heap.size ≤ q → A q := fun q h => by rw [← hAe]; exact Or.inr h
  have hS : va_S A s.heap s.heap [] := va_S.rf
  have hP : va_P (dC, dI) vwCl [(h0, .inr (0, [.ref a1, .ref a2, .ref a3, .ref a4, .int (nI n), .int kc, .int lc, .int rn, .int ml, .int lo])), (a1, .inl (cA, 2000, .inl f1)), (a2, .inl (cA, 2000, .inl f2)), (a3, .inl (cA, 2000, .inl f3)), (a4, .inl (cA, 2000, .inl f4))] s.heap := hP
  have hl := lv_entry ([.ref h0, .int p1]) (n := 2) (Nat.le_of_ble_eq_true rfl)
  rw [lg_entry_eq]
  generalize (lg_sl ([.ref h0, .int p1]) ++ List.replicate (2 - (lg_sl ([.ref h0, .int p1])).length) Slot.unset).toArray = ls at hl ⊢
  have hl : lv_has ls 2 [(0, .ref h0), (1, .int p1)] := hl
  refine lv_iload_n hx hb dX0_branch_0 rfl (lv_at hl 1 rfl) ?_
  refine lv_if_ge (tgt := 6) hx hb dX0_branch_1 (by decide) (fun hc1 => ?_) (fun hc1 => ?_)
  · refine lv_aload_n hx hb dX0_branch_6 rfl (lv_at hl 0 rfl) ?_
    refine lv_iconst (v := 1) hx hb dX0_branch_7 (by decide) ?_
    refine lv_iload_n hx hb dX0_branch_8 rfl (lv_at hl 1 rfl) ?_
    refine na_calli (As := [.int 1, .int p1]) (rest := []) (wc := [(h0, .inr (0, [.ref a1, .ref a2, .ref a3, .ref a4, .int (nI n), .int kc, .int lc, .int rn, .int ml, .int lo])), (a1, .inl (cA, 2000, .inl f1)), (a2, .inl (cA, 2000, .inl f2)), (a3, .inl (cA, 2000, .inl f3)), (a4, .inl (cA, 2000, .inl f4))]) (wr := []) (ci := 0) ⟨hx, hb, hml, hown, hts⟩ (c_append l dC dI cA h0 a1 a2 a3 a4 s.heap.size f1 f2 f3 f4 n kc lc rn ml lo 1 p1 hn) (cwV 2 hts gX0_branch_X0_append rfl rfl rfl (by decide +kernel) ⟨Nat.le_of_ble_eq_true rfl, Nat.le_of_ble_eq_true rfl⟩) hK hP hD hS hA [0, 1, 2, 3, 4] [] rfl rfl rfl rfl (by decide) rfl rfl 0 rfl rfl hl.1 (Nat.le_of_ble_eq_true rfl) dX0_branch_9 ⟨Nat.le_of_ble_eq_true rfl, Nat.le_of_ble_eq_true rfl⟩ rfl (fun r u H locs hw hP hD hS => ?_)
    have hP : va_P (dC, dI) vwCl [(h0, .inr (0, [.ref a1, .ref a2, .ref a3, .ref a4, .int (nI (n + 1)), .int kc, .int lc, .int rn, .int ml, .int 0])), (a1, .inl (cA, 2000, .inl (upd f1 n 1))), (a2, .inl (cA, 2000, .inl (upd f2 n p1))), (a3, .inl (cA, 2000, .inl f3)), (a4, .inl (cA, 2000, .inl f4))] H := hP
    have hD : va_D A [(h0, .inr (0, [.ref a1, .ref a2, .ref a3, .ref a4, .int (nI (n + 1)), .int kc, .int lc, .int rn, .int ml, .int 0])), (a1, .inl (cA, 2000, .inl (upd f1 n 1))), (a2, .inl (cA, 2000, .inl (upd f2 n p1))), (a3, .inl (cA, 2000, .inl f3)), (a4, .inl (cA, 2000, .inl f4))] := hD
    subst hw
    exact W.iret (v := (nI n)) hx hb hr (fun t ht hW => ⟨⟨(nI n), (), rfl, rfl, by rw [ht]; exact hP, va_K.moved hW.alike hK, hD⟩, hS.F ht⟩) hS.2.2 dX0_branch_12
  · exact absurd (na_nge0 hp) hc1
set_option maxHeartbeats 4000000 in
set_option maxRecDepth 100000 in
/-- reach(p), refused -/
theorem c_reach_no (l : Launch) (dC : Nat → ClassId) (dI : Nat → Nat → Nat) (cA : ClassId) (h0 a1 a2 a3 a4 sz : Nat) (f1 f2 f3 f4 : Nat → Int32) (n : Nat) (kc lc rn ml lo p1 : Int32) (hp : p1 < 1 ∨ ¬ p1 ≤ 100000) : na_Mi (S := Unit) l yX0_reach wsX0_reach ({ frames := 0, cells := 0, slots := 0, locals := 0 }) (dC, dI) vwCl [(cA, .int)] sz [.ref h0, .int p1] [(h0, .inr (0, [.ref a1, .ref a2, .ref a3, .ref a4, .int (nI n), .int kc, .int lc, .int rn, .int ml, .int lo])), (a1, .inl (cA, 2000, .inl f1)), (a2, .inl (cA, 2000, .inl f2)), (a3, .inl (cA, 2000, .inl f3)), (a4, .inl (cA, 2000, .inl f4))] (fun r _ => r = 0) (fun _ => [(h0, .inr (0, [.ref a1, .ref a2, .ref a3, .ref a4, .int (nI n), .int kc, .int lc, .int rn, .int ml, .int lo])), (a1, .inl (cA, 2000, .inl f1)), (a2, .inl (cA, 2000, .inl f2)), (a3, .inl (cA, 2000, .inl f3)), (a4, .inl (cA, 2000, .inl f4))]) := by
  refine Met.ofW (cc := cX0_reach) (maxL := 2) (ret := (some .boolean)) (by decide) rfl ?_
  intro p e s m args below meth c s₁ B hml hv
  obtain ⟨rfl, hsz, hP, hK, hD0⟩ := hv
  have hx := B.exec
  have hb := B.bytes
  have hr := B.returns
  have hts := atoms_spec (ws := wsX0_reach) B.pre
  have hown : s.vm.findClass RX0 = some m.cls := findClass_of_methodNamed B.named
  have hlocks := B.notSynchronized
  subst hsz
  have hD := hD0.self (sz := s.heap.size)
  generalize hAe : va_A [(h0, .inr (0, [.ref a1, .ref a2, .ref a3, .ref a4, .int (nI n), .int kc, .int lc, .int rn, .int ml, .int lo])), (a1, .inl (cA, 2000, .inl f1)), (a2, .inl (cA, 2000, .inl f2)), (a3, .inl (cA, 2000, .inl f3)), (a4, .inl (cA, 2000, .inl f4))] s.heap.size = A at hD ⊢
  have hA : ∀ q : Nat, s.heap.size ≤ q → A q := fun q h => by rw [← hAe]; exact Or.inr h
  have hS : va_S A s.heap s.heap [] := va_S.rf
  have hP : va_P (dC, dI) vwCl [(h0, .inr (0, [.ref a1, .ref a2, .ref a3, .ref a4, .int (nI n), .int kc, .int lc, .int rn, .int ml, .int lo])), (a1, .inl (cA, 2000, .inl f1)), (a2, .inl (cA, 2000, .inl f2)), (a3, .inl (cA, 2000, .inl f3)), (a4, .inl (cA, 2000, .inl f4))] s.heap := hP
  have hl := lv_entry ([.ref h0, .int p1]) (n := 2) (Nat.le_of_ble_eq_true rfl)
  rw [lg_entry_eq]
  generalize (lg_sl ([.ref h0, .int p1]) ++ List.replicate (2 - (lg_sl ([.ref h0, .int p1])).length) Slot.unset).toArray = ls at hl ⊢
  have hl : lv_has ls 2 [(0, .ref h0), (1, .int p1)] := hl
  refine lv_iload_n hx hb dX0_reach_0 rfl (lv_at hl 1 rfl) ?_
  refine lv_iconst (v := 1) hx hb dX0_reach_1 (by decide) ?_
  refine lv_icmp_lt (tgt := 11) hx hb dX0_reach_2 (by decide) (fun hc1 => ?_) (fun hc1 => ?_)
  · refine lv_iconst (v := 0) hx hb dX0_reach_11 (by decide) ?_
    exact W.zret (v := 0) hx hb hr rfl (fun t ht hW => ⟨⟨0, (), rfl, rfl, by rw [ht]; exact hP, va_K.moved hW.alike hK, hD⟩, hS.F ht⟩) hS.2.2 dX0_reach_12
  · refine lv_iload_n hx hb dX0_reach_5 rfl (lv_at hl 1 rfl) ?_
    refine lv_ldc (v := 100000) hx hb hown (hts (.constant RX0 46 100000) (by decide +kernel)) dX0_reach_6 ?_
    refine lv_icmp_le (tgt := 13) hx hb dX0_reach_8 (by decide) (fun hc2 => ?_) (fun hc2 => ?_)
    · exact absurd hp (fun q => q.elim hc1 (fun z => z hc2))
    · refine lv_iconst (v := 0) hx hb dX0_reach_11 (by decide) ?_
      exact W.zret (v := 0) hx hb hr rfl (fun t ht hW => ⟨⟨0, (), rfl, rfl, by rw [ht]; exact hP, va_K.moved hW.alike hK, hD⟩, hS.F ht⟩) hS.2.2 dX0_reach_12
set_option maxHeartbeats 4000000 in
set_option maxRecDepth 100000 in
/-- reach(p) -/
theorem c_reach_ok (l : Launch) (dC : Nat → ClassId) (dI : Nat → Nat → Nat) (cA : ClassId) (h0 a1 a2 a3 a4 sz : Nat) (f1 f2 f3 f4 : Nat → Int32) (n : Nat) (kc lc rn ml lo p1 : Int32) (hp1 : ¬ p1 < 1) (hp2 : p1 ≤ 100000) : na_Mi (S := Unit) l yX0_reach wsX0_reach ({ frames := 0, cells := 0, slots := 0, locals := 0 }) (dC, dI) vwCl [(cA, .int)] sz [.ref h0, .int p1] [(h0, .inr (0, [.ref a1, .ref a2, .ref a3, .ref a4, .int (nI n), .int kc, .int lc, .int rn, .int ml, .int lo])), (a1, .inl (cA, 2000, .inl f1)), (a2, .inl (cA, 2000, .inl f2)), (a3, .inl (cA, 2000, .inl f3)), (a4, .inl (cA, 2000, .inl f4))] (fun r _ => r = 1) (fun _ => [(h0, .inr (0, [.ref a1, .ref a2, .ref a3, .ref a4, .int (nI n), .int kc, .int lc, .int p1, .int ml, .int 0])), (a1, .inl (cA, 2000, .inl f1)), (a2, .inl (cA, 2000, .inl f2)), (a3, .inl (cA, 2000, .inl f3)), (a4, .inl (cA, 2000, .inl f4))]) := by
  refine Met.ofW (cc := cX0_reach) (maxL := 2) (ret := (some .boolean)) (by decide) rfl ?_
  intro p e s m args below meth c s₁ B hml hv
  obtain ⟨rfl, hsz, hP, hK, hD0⟩ := hv
  have hx := B.exec
  have hb := B.bytes
  have hr := B.returns
  have hts := atoms_spec (ws := wsX0_reach) B.pre
  have hown : s.vm.findClass RX0 = some m.cls := findClass_of_methodNamed B.named
  have hlocks := B.notSynchronized
  subst hsz
  have hD := hD0.self (sz := s.heap.size)
  generalize hAe : va_A [(h0, .inr (0, [.ref a1, .ref a2, .ref a3, .ref a4, .int (nI n), .int kc, .int lc, .int rn, .int ml, .int lo])), (a1, .inl (cA, 2000, .inl f1)), (a2, .inl (cA, 2000, .inl f2)), (a3, .inl (cA, 2000, .inl f3)), (a4, .inl (cA, 2000, .inl f4))] s.heap.size = A at hD ⊢
  have hA : ∀ q : Nat, s.heap.size ≤ q → A q := fun q h => by rw [← hAe]; exact Or.inr h
  have hS : va_S A s.heap s.heap [] := va_S.rf
  have hP : va_P (dC, dI) vwCl [(h0, .inr (0, [.ref a1, .ref a2, .ref a3, .ref a4, .int (nI n), .int kc, .int lc, .int rn, .int ml, .int lo])), (a1, .inl (cA, 2000, .inl f1)), (a2, .inl (cA, 2000, .inl f2)), (a3, .inl (cA, 2000, .inl f3)), (a4, .inl (cA, 2000, .inl f4))] s.heap := hP
  have hl := lv_entry ([.ref h0, .int p1]) (n := 2) (Nat.le_of_ble_eq_true rfl)
  rw [lg_entry_eq]
  generalize (lg_sl ([.ref h0, .int p1]) ++ List.replicate (2 - (lg_sl ([.ref h0, .int p1])).length) Slot.unset).toArray = ls at hl ⊢
  have hl : lv_has ls 2 [(0, .ref h0), (1, .int p1)] := hl
  refine lv_iload_n hx hb dX0_reach_0 rfl (lv_at hl 1 rfl) ?_
  refine lv_iconst (v := 1) hx hb dX0_reach_1 (by decide) ?_
  refine lv_icmp_lt (tgt := 11) hx hb dX0_reach_2 (by decide) (fun hc1 => ?_) (fun hc1 => ?_)
  · exact absurd hc1 hp1
  · refine lv_iload_n hx hb dX0_reach_5 rfl (lv_at hl 1 rfl) ?_
    refine lv_ldc (v := 100000) hx hb hown (hts (.constant RX0 46 100000) (by decide +kernel)) dX0_reach_6 ?_
    refine lv_icmp_le (tgt := 13) hx hb dX0_reach_8 (by decide) (fun hc2 => ?_) (fun hc2 => ?_)
    · refine lv_aload_n hx hb dX0_reach_13 rfl (lv_at hl 0 rfl) ?_
      refine lv_iload_n hx hb dX0_reach_14 rfl (lv_at hl 1 rfl) ?_
      refine va_put (D := (dC, dI)) (ci := 0) (v := .int p1) (ty := .int) (C := RX0) (T := TX0) (N := 10) hx hb hts in_X0_reach tyX0 tyX0_ok nmX0 hown hK hP hD hS 0 rfl rfl 7 (by decide) (hts (.fieldLink RX0 32 "BranchLengths" "reachNow" "I") (by decide +kernel)) (fun _ h9 => h9) rfl (by decide +kernel) rfl rfl (Nat.le_of_ble_eq_true rfl) dX0_reach_15 (fun H locs hP hD hS => ?_)
      have hP : va_P (dC, dI) vwCl [(h0, .inr (0, [.ref a1, .ref a2, .ref a3, .ref a4, .int (nI n), .int kc, .int lc, .int p1, .int ml, .int lo])), (a1, .inl (cA, 2000, .inl f1)), (a2, .inl (cA, 2000, .inl f2)), (a3, .inl (cA, 2000, .inl f3)), (a4, .inl (cA, 2000, .inl f4))] H := hP
      have hD : va_D A [(h0, .inr (0, [.ref a1, .ref a2, .ref a3, .ref a4, .int (nI n), .int kc, .int lc, .int p1, .int ml, .int lo])), (a1, .inl (cA, 2000, .inl f1)), (a2, .inl (cA, 2000, .inl f2)), (a3, .inl (cA, 2000, .inl f3)), (a4, .inl (cA, 2000, .inl f4))] := hD
      refine lv_aload_n hx hb dX0_reach_18 rfl (lv_at hl 0 rfl) ?_
      refine lv_iconst (v := 0) hx hb dX0_reach_19 (by decide) ?_
      refine va_put (D := (dC, dI)) (ci := 0) (v := .int 0) (ty := .boolean) (C := RX0) (T := TX0) (N := 10) hx hb hts in_X0_reach tyX0 tyX0_ok nmX0 hown hK hP hD hS 0 rfl rfl 9 (by decide) (hts (.fieldLink RX0 38 "BranchLengths" "laidOut" "Z") (by decide +kernel)) (fun _ h9 => h9) rfl (by decide +kernel) rfl rfl (Nat.le_of_ble_eq_true rfl) dX0_reach_20 (fun H locs hP hD hS => ?_)
      have hP : va_P (dC, dI) vwCl [(h0, .inr (0, [.ref a1, .ref a2, .ref a3, .ref a4, .int (nI n), .int kc, .int lc, .int p1, .int ml, .int 0])), (a1, .inl (cA, 2000, .inl f1)), (a2, .inl (cA, 2000, .inl f2)), (a3, .inl (cA, 2000, .inl f3)), (a4, .inl (cA, 2000, .inl f4))] H := hP
      have hD : va_D A [(h0, .inr (0, [.ref a1, .ref a2, .ref a3, .ref a4, .int (nI n), .int kc, .int lc, .int p1, .int ml, .int 0])), (a1, .inl (cA, 2000, .inl f1)), (a2, .inl (cA, 2000, .inl f2)), (a3, .inl (cA, 2000, .inl f3)), (a4, .inl (cA, 2000, .inl f4))] := hD
      refine lv_iconst (v := 1) hx hb dX0_reach_23 (by decide) ?_
      exact W.zret (v := 1) hx hb hr rfl (fun t ht hW => ⟨⟨1, (), rfl, rfl, by rw [ht]; exact hP, va_K.moved hW.alike hK, hD⟩, hS.F ht⟩) hS.2.2 dX0_reach_24
    · exact absurd hp2 hc2
set_option maxHeartbeats 4000000 in
set_option maxRecDepth 100000 in
/-- least() -/
theorem c_least (l : Launch) (dC : Nat → ClassId) (dI : Nat → Nat → Nat) (cA : ClassId) (h0 a1 a2 a3 a4 sz : Nat) (f1 f2 f3 f4 : Nat → Int32) (n : Nat) (kc lc rn ml lo : Int32)  : na_Mi (S := Unit) l yX0_least wsX0_least ({ frames := 0, cells := 0, slots := 0, locals := 0 }) (dC, dI) vwCl [(cA, .int)] sz [.ref h0] [(h0, .inr (0, [.ref a1, .ref a2, .ref a3, .ref a4, .int (nI n), .int kc, .int lc, .int rn, .int ml, .int lo])), (a1, .inl (cA, 2000, .inl f1)), (a2, .inl (cA, 2000, .inl f2)), (a3, .inl (cA, 2000, .inl f3)), (a4, .inl (cA, 2000, .inl f4))] (fun r _ => r = ml) (fun _ => [(h0, .inr (0, [.ref a1, .ref a2, .ref a3, .ref a4, .int (nI n), .int kc, .int lc, .int rn, .int ml, .int lo])), (a1, .inl (cA, 2000, .inl f1)), (a2, .inl (cA, 2000, .inl f2)), (a3, .inl (cA, 2000, .inl f3)), (a4, .inl (cA, 2000, .inl f4))]) := by
  refine Met.ofW (cc := cX0_least) (maxL := 1) (ret := (some .int)) (by decide) rfl ?_
  intro p e s m args below meth c s₁ B hml hv
  obtain ⟨rfl, hsz, hP, hK, hD0⟩ := hv
  have hx := B.exec
  have hb := B.bytes
  have hr := B.returns
  have hts := atoms_spec (ws := wsX0_least) B.pre
  have hown : s.vm.findClass RX0 = some m.cls := findClass_of_methodNamed B.named
  have hlocks := B.notSynchronized
  subst hsz
  have hD := hD0.self (sz := s.heap.size)
  generalize hAe : va_A [(h0, .inr (0, [.ref a1, .ref a2, .ref a3, .ref a4, .int (nI n), .int kc, .int lc, .int rn, .int ml, .int lo])), (a1, .inl (cA, 2000, .inl f1)), (a2, .inl (cA, 2000, .inl f2)), (a3, .inl (cA, 2000, .inl f3)), (a4, .inl (cA, 2000, .inl f4))] s.heap.size = A at hD ⊢
  have hA : ∀ q : Nat, s.heap.size ≤ q → A q := fun q h => by rw [← hAe]; exact Or.inr h
  have hS : va_S A s.heap s.heap [] := va_S.rf
  have hP : va_P (dC, dI) vwCl [(h0, .inr (0, [.ref a1, .ref a2, .ref a3, .ref a4, .int (nI n), .int kc, .int lc, .int rn, .int ml, .int lo])), (a1, .inl (cA, 2000, .inl f1)), (a2, .inl (cA, 2000, .inl f2)), (a3, .inl (cA, 2000, .inl f3)), (a4, .inl (cA, 2000, .inl f4))] s.heap := hP
  have hl := lv_entry ([.ref h0]) (n := 1) (Nat.le_of_ble_eq_true rfl)
  rw [lg_entry_eq]
  generalize (lg_sl ([.ref h0]) ++ List.replicate (1 - (lg_sl ([.ref h0])).length) Slot.unset).toArray = ls at hl ⊢
  have hl : lv_has ls 1 [(0, .ref h0)] := hl
  refine lv_aload_n hx hb dX0_least_0 rfl (lv_at hl 0 rfl) ?_
  refine va_get (D := (dC, dI)) (ci := 0) (v := .int ml) (C := RX0) (T := TX0) (N := 10) hx hb hts in_X0_least hown hK hP 0 rfl rfl 8 (by decide) (hts (.fieldLink RX0 35 "BranchLengths" "markless" "I") (by decide +kernel)) (fun _ h9 => h9) rfl dX0_least_1 ?_
  exact W.iret (v := ml) hx hb hr (fun t ht hW => ⟨⟨ml, (), rfl, rfl, by rw [ht]; exact hP, va_K.moved hW.alike hK, hD⟩, hS.F ht⟩) hS.2.2 dX0_least_4
set_option maxHeartbeats 4000000 in
set_option maxRecDepth 100000 in
/-- items() -/
theorem c_items (l : Launch) (dC : Nat → ClassId) (dI : Nat → Nat → Nat) (cA : ClassId) (h0 a1 a2 a3 a4 sz : Nat) (f1 f2 f3 f4 : Nat → Int32) (n : Nat) (kc lc rn ml lo : Int32)  : na_Mi (S := Unit) l yX0_items wsX0_items ({ frames := 0, cells := 0, slots := 0, locals := 0 }) (dC, dI) vwCl [(cA, .int)] sz [.ref h0] [(h0, .inr (0, [.ref a1, .ref a2, .ref a3, .ref a4, .int (nI n), .int kc, .int lc, .int rn, .int ml, .int lo])), (a1, .inl (cA, 2000, .inl f1)), (a2, .inl (cA, 2000, .inl f2)), (a3, .inl (cA, 2000, .inl f3)), (a4, .inl (cA, 2000, .inl f4))] (fun r _ => r = nI n) (fun _ => [(h0, .inr (0, [.ref a1, .ref a2, .ref a3, .ref a4, .int (nI n), .int kc, .int lc, .int rn, .int ml, .int lo])), (a1, .inl (cA, 2000, .inl f1)), (a2, .inl (cA, 2000, .inl f2)), (a3, .inl (cA, 2000, .inl f3)), (a4, .inl (cA, 2000, .inl f4))]) := by
  refine Met.ofW (cc := cX0_items) (maxL := 1) (ret := (some .int)) (by decide) rfl ?_
  intro p e s m args below meth c s₁ B hml hv
  obtain ⟨rfl, hsz, hP, hK, hD0⟩ := hv
  have hx := B.exec
  have hb := B.bytes
  have hr := B.returns
  have hts := atoms_spec (ws := wsX0_items) B.pre
  have hown : s.vm.findClass RX0 = some m.cls := findClass_of_methodNamed B.named
  have hlocks := B.notSynchronized
  subst hsz
  have hD := hD0.self (sz := s.heap.size)
  generalize hAe : va_A [(h0, .inr (0, [.ref a1, .ref a2, .ref a3, .ref a4, .int (nI n), .int kc, .int lc, .int rn, .int ml, .int lo])), (a1, .inl (cA, 2000, .inl f1)), (a2, .inl (cA, 2000, .inl f2)), (a3, .inl (cA, 2000, .inl f3)), (a4, .inl (cA, 2000, .inl f4))] s.heap.size = A at hD ⊢
  have hA : ∀ q : Nat, s.heap.size ≤ q → A q := fun q h => by rw [← hAe]; exact Or.inr h
  have hS : va_S A s.heap s.heap [] := va_S.rf
  have hP : va_P (dC, dI) vwCl [(h0, .inr (0, [.ref a1, .ref a2, .ref a3, .ref a4, .int (nI n), .int kc, .int lc, .int rn, .int ml, .int lo])), (a1, .inl (cA, 2000, .inl f1)), (a2, .inl (cA, 2000, .inl f2)), (a3, .inl (cA, 2000, .inl f3)), (a4, .inl (cA, 2000, .inl f4))] s.heap := hP
  have hl := lv_entry ([.ref h0]) (n := 1) (Nat.le_of_ble_eq_true rfl)
  rw [lg_entry_eq]
  generalize (lg_sl ([.ref h0]) ++ List.replicate (1 - (lg_sl ([.ref h0])).length) Slot.unset).toArray = ls at hl ⊢
  have hl : lv_has ls 1 [(0, .ref h0)] := hl
  refine lv_aload_n hx hb dX0_items_0 rfl (lv_at hl 0 rfl) ?_
  refine va_get (D := (dC, dI)) (ci := 0) (v := .int (nI n)) (C := RX0) (T := TX0) (N := 10) hx hb hts in_X0_items hown hK hP 0 rfl rfl 4 (by decide) (hts (.fieldLink RX0 22 "BranchLengths" "itemCount" "I") (by decide +kernel)) (fun _ h9 => h9) rfl dX0_items_1 ?_
  exact W.iret (v := (nI n)) hx hb hr (fun t ht hW => ⟨⟨(nI n), (), rfl, rfl, by rw [ht]; exact hP, va_K.moved hW.alike hK, hD⟩, hS.F ht⟩) hS.2.2 dX0_items_4
set_option maxHeartbeats 4000000 in
set_option maxRecDepth 100000 in
/-- marks() -/
theorem c_marks (l : Launch) (dC : Nat → ClassId) (dI : Nat → Nat → Nat) (cA : ClassId) (h0 a1 a2 a3 a4 sz : Nat) (f1 f2 f3 f4 : Nat → Int32) (n : Nat) (kc lc rn ml lo : Int32)  : na_Mi (S := Unit) l yX0_marks wsX0_marks ({ frames := 0, cells := 0, slots := 0, locals := 0 }) (dC, dI) vwCl [(cA, .int)] sz [.ref h0] [(h0, .inr (0, [.ref a1, .ref a2, .ref a3, .ref a4, .int (nI n), .int kc, .int lc, .int rn, .int ml, .int lo])), (a1, .inl (cA, 2000, .inl f1)), (a2, .inl (cA, 2000, .inl f2)), (a3, .inl (cA, 2000, .inl f3)), (a4, .inl (cA, 2000, .inl f4))] (fun r _ => r = kc) (fun _ => [(h0, .inr (0, [.ref a1, .ref a2, .ref a3, .ref a4, .int (nI n), .int kc, .int lc, .int rn, .int ml, .int lo])), (a1, .inl (cA, 2000, .inl f1)), (a2, .inl (cA, 2000, .inl f2)), (a3, .inl (cA, 2000, .inl f3)), (a4, .inl (cA, 2000, .inl f4))]) := by
  refine Met.ofW (cc := cX0_marks) (maxL := 1) (ret := (some .int)) (by decide) rfl ?_
  intro p e s m args below meth c s₁ B hml hv
  obtain ⟨rfl, hsz, hP, hK, hD0⟩ := hv
  have hx := B.exec
  have hb := B.bytes
  have hr := B.returns
  have hts := atoms_spec (ws := wsX0_marks) B.pre
  have hown : s.vm.findClass RX0 = some m.cls := findClass_of_methodNamed B.named
  have hlocks := B.notSynchronized
  subst hsz
  have hD := hD0.self (sz := s.heap.size)
  generalize hAe : va_A [(h0, .inr (0, [.ref a1, .ref a2, .ref a3, .ref a4, .int (nI n), .int kc, .int lc, .int rn, .int ml, .int lo])), (a1, .inl (cA, 2000, .inl f1)), (a2, .inl (cA, 2000, .inl f2)), (a3, .inl (cA, 2000, .inl f3)), (a4, .inl (cA, 2000, .inl f4))] s.heap.size = A at hD ⊢
  have hA : ∀ q : Nat, s.heap.size ≤ q → A q := fun q h => by rw [← hAe]; exact Or.inr h
  have hS : va_S A s.heap s.heap [] := va_S.rf
  have hP : va_P (dC, dI) vwCl [(h0, .inr (0, [.ref a1, .ref a2, .ref a3, .ref a4, .int (nI n), .int kc, .int lc, .int rn, .int ml, .int lo])), (a1, .inl (cA, 2000, .inl f1)), (a2, .inl (cA, 2000, .inl f2)), (a3, .inl (cA, 2000, .inl f3)), (a4, .inl (cA, 2000, .inl f4))] s.heap := hP
  have hl := lv_entry ([.ref h0]) (n := 1) (Nat.le_of_ble_eq_true rfl)
  rw [lg_entry_eq]
  generalize (lg_sl ([.ref h0]) ++ List.replicate (1 - (lg_sl ([.ref h0])).length) Slot.unset).toArray = ls at hl ⊢
  have hl : lv_has ls 1 [(0, .ref h0)] := hl
  refine lv_aload_n hx hb dX0_marks_0 rfl (lv_at hl 0 rfl) ?_
  refine va_get (D := (dC, dI)) (ci := 0) (v := .int kc) (C := RX0) (T := TX0) (N := 10) hx hb hts in_X0_marks hown hK hP 0 rfl rfl 5 (by decide) (hts (.fieldLink RX0 26 "BranchLengths" "markCount" "I") (by decide +kernel)) (fun _ h9 => h9) rfl dX0_marks_1 ?_
  exact W.iret (v := kc) hx hb hr (fun t ht hW => ⟨⟨kc, (), rfl, rfl, by rw [ht]; exact hP, va_K.moved hW.alike hK, hD⟩, hS.F ht⟩) hS.2.2 dX0_marks_4
set_option maxHeartbeats 4000000 in
set_option maxRecDepth 100000 in
/-- clear() -/
theorem c_clear (l : Launch) (dC : Nat → ClassId) (dI : Nat → Nat → Nat) (cA : ClassId) (h0 a1 a2 a3 a4 sz : Nat) (f1 f2 f3 f4 : Nat → Int32) (n : Nat) (kc lc rn ml lo : Int32)  : na_Mv (S := Unit) l yX0_clear wsX0_clear ({ frames := 0, cells := 0, slots := 0, locals := 0 }) (dC, dI) vwCl [(cA, .int)] sz [.ref h0] [(h0, .inr (0, [.ref a1, .ref a2, .ref a3, .ref a4, .int (nI n), .int kc, .int lc, .int rn, .int ml, .int lo])), (a1, .inl (cA, 2000, .inl f1)), (a2, .inl (cA, 2000, .inl f2)), (a3, .inl (cA, 2000, .inl f3)), (a4, .inl (cA, 2000, .inl f4))] (fun _ => True) (fun _ => [(h0, .inr (0, [.ref a1, .ref a2, .ref a3, .ref a4, .int (nI 0), .int (nI 0), .int lc, .int rn, .int ml, .int 0])), (a1, .inl (cA, 2000, .inl f1)), (a2, .inl (cA, 2000, .inl f2)), (a3, .inl (cA, 2000, .inl f3)), (a4, .inl (cA, 2000, .inl f4))]) := by
  refine Met.ofW (cc := cX0_clear) (maxL := 1) (ret := none) (by decide) rfl ?_
  intro p e s m args below meth c s₁ B hml hv
  obtain ⟨rfl, hsz, hP, hK, hD0⟩ := hv
  have hx := B.exec
  have hb := B.bytes
  have hr := B.returns
  have hts := atoms_spec (ws := wsX0_clear) B.pre
  have hown : s.vm.findClass RX0 = some m.cls := findClass_of_methodNamed B.named
  have hlocks := B.notSynchronized
  subst hsz
  have hD := hD0.self (sz := s.heap.size)
  generalize hAe : va_A [(h0, .inr (0, [.ref a1, .ref a2, .ref a3, .ref a4, .int (nI n), .int kc, .int lc, .int rn, .int ml, .int lo])), (a1, .inl (cA, 2000, .inl f1)), (a2, .inl (cA, 2000, .inl f2)), (a3, .inl (cA, 2000, .inl f3)), (a4, .inl (cA, 2000, .inl f4))] s.heap.size = A at hD ⊢
  have hA : ∀ q : Nat, s.heap.size ≤ q → A q := fun q h => by rw [← hAe]; exact Or.inr h
  have hS : va_S A s.heap s.heap [] := va_S.rf
  have hP : va_P (dC, dI) vwCl [(h0, .inr (0, [.ref a1, .ref a2, .ref a3, .ref a4, .int (nI n), .int kc, .int lc, .int rn, .int ml, .int lo])), (a1, .inl (cA, 2000, .inl f1)), (a2, .inl (cA, 2000, .inl f2)), (a3, .inl (cA, 2000, .inl f3)), (a4, .inl (cA, 2000, .inl f4))] s.heap := hP
  have hl := lv_entry ([.ref h0]) (n := 1) (Nat.le_of_ble_eq_true rfl)
  rw [lg_entry_eq]
  generalize (lg_sl ([.ref h0]) ++ List.replicate (1 - (lg_sl ([.ref h0])).length) Slot.unset).toArray = ls at hl ⊢
  have hl : lv_has ls 1 [(0, .ref h0)] := hl
  refine lv_aload_n hx hb dX0_clear_0 rfl (lv_at hl 0 rfl) ?_
  refine lv_iconst (v := nI 0) hx hb dX0_clear_1 rfl ?_
  refine va_put (D := (dC, dI)) (ci := 0) (v := .int (nI 0)) (ty := .int) (C := RX0) (T := TX0) (N := 10) hx hb hts in_X0_clear tyX0 tyX0_ok nmX0 hown hK hP hD hS 0 rfl rfl 4 (by decide) (hts (.fieldLink RX0 22 "BranchLengths" "itemCount" "I") (by decide +kernel)) (fun _ h9 => h9) rfl (by decide +kernel) rfl rfl (Nat.le_of_ble_eq_true rfl) dX0_clear_2 (fun H locs hP hD hS => ?_)
  have hP : va_P (dC, dI) vwCl [(h0, .inr (0, [.ref a1, .ref a2, .ref a3, .ref a4, .int (nI 0), .int kc, .int lc, .int rn, .int ml, .int lo])), (a1, .inl (cA, 2000, .inl f1)), (a2, .inl (cA, 2000, .inl f2)), (a3, .inl (cA, 2000, .inl f3)), (a4, .inl (cA, 2000, .inl f4))] H := hP
  have hD : va_D A [(h0, .inr (0, [.ref a1, .ref a2, .ref a3, .ref a4, .int (nI 0), .int kc, .int lc, .int rn, .int ml, .int lo])), (a1, .inl (cA, 2000, .inl f1)), (a2, .inl (cA, 2000, .inl f2)), (a3, .inl (cA, 2000, .inl f3)), (a4, .inl (cA, 2000, .inl f4))] := hD
  refine lv_aload_n hx hb dX0_clear_5 rfl (lv_at hl 0 rfl) ?_
  refine lv_iconst (v := nI 0) hx hb dX0_clear_6 rfl ?_
  refine va_put (D := (dC, dI)) (ci := 0) (v := .int (nI 0)) (ty := .int) (C := RX0) (T := TX0) (N := 10) hx hb hts in_X0_clear tyX0 tyX0_ok nmX0 hown hK hP hD hS 0 rfl rfl 5 (by decide) (hts (.fieldLink RX0 26 "BranchLengths" "markCount" "I") (by decide +kernel)) (fun _ h9 => h9) rfl (by decide +kernel) rfl rfl (Nat.le_of_ble_eq_true rfl) dX0_clear_7 (fun H locs hP hD hS => ?_)
  have hP : va_P (dC, dI) vwCl [(h0, .inr (0, [.ref a1, .ref a2, .ref a3, .ref a4, .int (nI 0), .int (nI 0), .int lc, .int rn, .int ml, .int lo])), (a1, .inl (cA, 2000, .inl f1)), (a2, .inl (cA, 2000, .inl f2)), (a3, .inl (cA, 2000, .inl f3)), (a4, .inl (cA, 2000, .inl f4))] H := hP
  have hD : va_D A [(h0, .inr (0, [.ref a1, .ref a2, .ref a3, .ref a4, .int (nI 0), .int (nI 0), .int lc, .int rn, .int ml, .int lo])), (a1, .inl (cA, 2000, .inl f1)), (a2, .inl (cA, 2000, .inl f2)), (a3, .inl (cA, 2000, .inl f3)), (a4, .inl (cA, 2000, .inl f4))] := hD
  refine lv_aload_n hx hb dX0_clear_10 rfl (lv_at hl 0 rfl) ?_
  refine lv_iconst (v := 0) hx hb dX0_clear_11 (by decide) ?_
  refine va_put (D := (dC, dI)) (ci := 0) (v := .int 0) (ty := .boolean) (C := RX0) (T := TX0) (N := 10) hx hb hts in_X0_clear tyX0 tyX0_ok nmX0 hown hK hP hD hS 0 rfl rfl 9 (by decide) (hts (.fieldLink RX0 38 "BranchLengths" "laidOut" "Z") (by decide +kernel)) (fun _ h9 => h9) rfl (by decide +kernel) rfl rfl (Nat.le_of_ble_eq_true rfl) dX0_clear_12 (fun H locs hP hD hS => ?_)
  have hP : va_P (dC, dI) vwCl [(h0, .inr (0, [.ref a1, .ref a2, .ref a3, .ref a4, .int (nI 0), .int (nI 0), .int lc, .int rn, .int ml, .int 0])), (a1, .inl (cA, 2000, .inl f1)), (a2, .inl (cA, 2000, .inl f2)), (a3, .inl (cA, 2000, .inl f3)), (a4, .inl (cA, 2000, .inl f4))] H := hP
  have hD : va_D A [(h0, .inr (0, [.ref a1, .ref a2, .ref a3, .ref a4, .int (nI 0), .int (nI 0), .int lc, .int rn, .int ml, .int 0])), (a1, .inl (cA, 2000, .inl f1)), (a2, .inl (cA, 2000, .inl f2)), (a3, .inl (cA, 2000, .inl f3)), (a4, .inl (cA, 2000, .inl f4))] := hD
  exact W.vret hx hb hr (fun t ht hW => ⟨⟨(), rfl, trivial, by rw [ht]; exact hP, va_K.moved hW.alike hK, hD⟩, hS.F ht⟩) hS.2.2 dX0_clear_15
set_option maxHeartbeats 4000000 in
set_option maxRecDepth 100000 in
/-- longs() -/
theorem c_longs (l : Launch) (dC : Nat → ClassId) (dI : Nat → Nat → Nat) (cA : ClassId) (h0 a1 a2 a3 a4 sz : Nat) (f1 f2 f3 f4 : Nat → Int32) (n : Nat) (kc lc rn ml lo : Int32)  : na_Mi (S := Unit) l yX0_longs wsX0_longs ({ frames := 0, cells := 0, slots := 0, locals := 0 }) (dC, dI) vwCl [(cA, .int)] sz [.ref h0] [(h0, .inr (0, [.ref a1, .ref a2, .ref a3, .ref a4, .int (nI n), .int kc, .int lc, .int rn, .int ml, .int lo])), (a1, .inl (cA, 2000, .inl f1)), (a2, .inl (cA, 2000, .inl f2)), (a3, .inl (cA, 2000, .inl f3)), (a4, .inl (cA, 2000, .inl f4))] (fun r _ => r = if lo = 0 then -1 else lc) (fun _ => [(h0, .inr (0, [.ref a1, .ref a2, .ref a3, .ref a4, .int (nI n), .int kc, .int lc, .int rn, .int ml, .int lo])), (a1, .inl (cA, 2000, .inl f1)), (a2, .inl (cA, 2000, .inl f2)), (a3, .inl (cA, 2000, .inl f3)), (a4, .inl (cA, 2000, .inl f4))]) := by
  refine Met.ofW (cc := cX0_longs) (maxL := 1) (ret := (some .int)) (by decide) rfl ?_
  intro p e s m args below meth c s₁ B hml hv
  obtain ⟨rfl, hsz, hP, hK, hD0⟩ := hv
  have hx := B.exec
  have hb := B.bytes
  have hr := B.returns
  have hts := atoms_spec (ws := wsX0_longs) B.pre
  have hown : s.vm.findClass RX0 = some m.cls := findClass_of_methodNamed B.named
  have hlocks := B.notSynchronized
  subst hsz
  have hD := hD0.self (sz := s.heap.size)
  generalize hAe : va_A [(h0, .inr (0, [.ref a1, .ref a2, .ref a3, .ref a4, .int (nI n), .int kc, .int lc, .int rn, .int ml, .int lo])), (a1, .inl (cA, 2000, .inl f1)), (a2, .inl (cA, 2000, .inl f2)), (a3, .inl (cA, 2000, .inl f3)), (a4, .inl (cA, 2000, .inl f4))] s.heap.size = A at hD ⊢
  have hA : ∀ q : Nat, s.heap.size ≤ q → A q := fun q h => by rw [← hAe]; exact Or.inr h
  have hS : va_S A s.heap s.heap [] := va_S.rf
  have hP : va_P (dC, dI) vwCl [(h0, .inr (0, [.ref a1, .ref a2, .ref a3, .ref a4, .int (nI n), .int kc, .int lc, .int rn, .int ml, .int lo])), (a1, .inl (cA, 2000, .inl f1)), (a2, .inl (cA, 2000, .inl f2)), (a3, .inl (cA, 2000, .inl f3)), (a4, .inl (cA, 2000, .inl f4))] s.heap := hP
  have hl := lv_entry ([.ref h0]) (n := 1) (Nat.le_of_ble_eq_true rfl)
  rw [lg_entry_eq]
  generalize (lg_sl ([.ref h0]) ++ List.replicate (1 - (lg_sl ([.ref h0])).length) Slot.unset).toArray = ls at hl ⊢
  have hl : lv_has ls 1 [(0, .ref h0)] := hl
  refine lv_aload_n hx hb dX0_longs_0 rfl (lv_at hl 0 rfl) ?_
  refine va_get (D := (dC, dI)) (ci := 0) (v := .int lo) (C := RX0) (T := TX0) (N := 10) hx hb hts in_X0_longs hown hK hP 0 rfl rfl 9 (by decide) (hts (.fieldLink RX0 38 "BranchLengths" "laidOut" "Z") (by decide +kernel)) (fun _ h9 => h9) rfl dX0_longs_1 ?_
  refine lv_if_eq (tgt := 14) hx hb dX0_longs_4 (by decide) (fun hc1 => ?_) (fun hc1 => ?_)
  · refine lv_iconst (v := -1) hx hb dX0_longs_14 (by decide) ?_
    exact W.iret (v := (-1)) hx hb hr (fun t ht hW => ⟨⟨(-1), (), rfl, (if_pos hc1).symm, by rw [ht]; exact hP, va_K.moved hW.alike hK, hD⟩, hS.F ht⟩) hS.2.2 dX0_longs_15
  · refine lv_aload_n hx hb dX0_longs_7 rfl (lv_at hl 0 rfl) ?_
    refine va_get (D := (dC, dI)) (ci := 0) (v := .int lc) (C := RX0) (T := TX0) (N := 10) hx hb hts in_X0_longs hown hK hP 0 rfl rfl 6 (by decide) (hts (.fieldLink RX0 29 "BranchLengths" "longCount" "I") (by decide +kernel)) (fun _ h9 => h9) rfl dX0_longs_8 ?_
    refine lv_goto (tgt := 15) hx hb dX0_longs_11 (by decide) ?_
    exact W.iret (v := lc) hx hb hr (fun t ht hW => ⟨⟨lc, (), rfl, (if_neg hc1).symm, by rw [ht]; exact hP, va_K.moved hW.alike hK, hD⟩, hS.F ht⟩) hS.2.2 dX0_longs_15
set_option maxHeartbeats 4000000 in
set_option maxRecDepth 100000 in
/-- place(p), none -/
theorem c_place_out (l : Launch) (dC : Nat → ClassId) (dI : Nat → Nat → Nat) (cA : ClassId) (h0 a1 a2 a3 a4 sz : Nat) (f1 f2 f3 f4 : Nat → Int32) (n : Nat) (kc lc rn ml lo p1 : Int32) (hp : lo = 0 ∨ p1 < 0 ∨ nI n ≤ p1) : na_Mi (S := Unit) l yX0_place wsX0_place ({ frames := 2, cells := 0, slots := 0, locals := 42 }) (dC, dI) vwCl [(cA, .int)] sz [.ref h0, .int p1] [(h0, .inr (0, [.ref a1, .ref a2, .ref a3, .ref a4, .int (nI n), .int kc, .int lc, .int rn, .int ml, .int lo])), (a1, .inl (cA, 2000, .inl f1)), (a2, .inl (cA, 2000, .inl f2)), (a3, .inl (cA, 2000, .inl f3)), (a4, .inl (cA, 2000, .inl f4))] (fun r _ => r = -1) (fun _ => [(h0, .inr (0, [.ref a1, .ref a2, .ref a3, .ref a4, .int (nI n), .int kc, .int lc, .int rn, .int ml, .int lo])), (a1, .inl (cA, 2000, .inl f1)), (a2, .inl (cA, 2000, .inl f2)), (a3, .inl (cA, 2000, .inl f3)), (a4, .inl (cA, 2000, .inl f4))]) := by
  refine Met.ofW (cc := cX0_place) (maxL := 2) (ret := (some .int)) (by decide) rfl ?_
  intro p e s m args below meth c s₁ B hml hv
  obtain ⟨rfl, hsz, hP, hK, hD0⟩ := hv
  have hx := B.exec
  have hb := B.bytes
  have hr := B.returns
  have hts := atoms_spec (ws := wsX0_place) B.pre
  have hown : s.vm.findClass RX0 = some m.cls := findClass_of_methodNamed B.named
  have hlocks := B.notSynchronized
  subst hsz
  have hD := hD0.self (sz := s.heap.size)
  generalize hAe : va_A [(h0, .inr (0, [.ref a1, .ref a2, .ref a3, .ref a4, .int (nI n), .int kc, .int lc, .int rn, .int ml, .int lo])), (a1, .inl (cA, 2000, .inl f1)), (a2, .inl (cA, 2000, .inl f2)), (a3, .inl (cA, 2000, .inl f3)), (a4, .inl (cA, 2000, .inl f4))] s.heap.size = A at hD ⊢
  have hA : ∀ q : Nat, s.heap.size ≤ q → A q := fun q h => by rw [← hAe]; exact Or.inr h
  have hS : va_S A s.heap s.heap [] := va_S.rf
  have hP : va_P (dC, dI) vwCl [(h0, .inr (0, [.ref a1, .ref a2, .ref a3, .ref a4, .int (nI n), .int kc, .int lc, .int rn, .int ml, .int lo])), (a1, .inl (cA, 2000, .inl f1)), (a2, .inl (cA, 2000, .inl f2)), (a3, .inl (cA, 2000, .inl f3)), (a4, .inl (cA, 2000, .inl f4))] s.heap := hP
  have hl := lv_entry ([.ref h0, .int p1]) (n := 2) (Nat.le_of_ble_eq_true rfl)
  rw [lg_entry_eq]
  generalize (lg_sl ([.ref h0, .int p1]) ++ List.replicate (2 - (lg_sl ([.ref h0, .int p1])).length) Slot.unset).toArray = ls at hl ⊢
  have hl : lv_has ls 2 [(0, .ref h0), (1, .int p1)] := hl
  refine lv_aload_n hx hb dX0_place_0 rfl (lv_at hl 0 rfl) ?_
  refine lv_iload_n hx hb dX0_place_1 rfl (lv_at hl 1 rfl) ?_
  refine na_calli (As := [.int p1]) (rest := []) (wc := [(h0, .inr (0, [.ref a1, .ref a2, .ref a3, .ref a4, .int (nI n), .int kc, .int lc, .int rn, .int ml, .int lo])), (a1, .inl (cA, 2000, .inl f1)), (a2, .inl (cA, 2000, .inl f2)), (a3, .inl (cA, 2000, .inl f3)), (a4, .inl (cA, 2000, .inl f4))]) (wr := []) (ci := 0) ⟨hx, hb, hml, hown, hts⟩ (c_isLaid l dC dI cA h0 a1 a2 a3 a4 s.heap.size f1 f2 f3 f4 n kc lc rn ml lo p1) (cwV 1 hts gX0_place_X0_isLaid rfl rfl rfl (by decide +kernel) ⟨Nat.le_of_ble_eq_true rfl, Nat.le_of_ble_eq_true rfl⟩) hK hP hD hS hA [0, 1, 2, 3, 4] [] rfl rfl rfl rfl (by decide) rfl rfl 0 rfl rfl hl.1 (Nat.le_of_ble_eq_true rfl) dX0_place_2 ⟨Nat.le_of_ble_eq_true rfl, Nat.le_of_ble_eq_true rfl⟩ rfl (fun r u H locs hw hP hD hS => ?_)
  have hP : va_P (dC, dI) vwCl [(h0, .inr (0, [.ref a1, .ref a2, .ref a3, .ref a4, .int (nI n), .int kc, .int lc, .int rn, .int ml, .int lo])), (a1, .inl (cA, 2000, .inl f1)), (a2, .inl (cA, 2000, .inl f2)), (a3, .inl (cA, 2000, .inl f3)), (a4, .inl (cA, 2000, .inl f4))] H := hP
  have hD : va_D A [(h0, .inr (0, [.ref a1, .ref a2, .ref a3, .ref a4, .int (nI n), .int kc, .int lc, .int rn, .int ml, .int lo])), (a1, .inl (cA, 2000, .inl f1)), (a2, .inl (cA, 2000, .inl f2)), (a3, .inl (cA, 2000, .inl f3)), (a4, .inl (cA, 2000, .inl f4))] := hD
  have hw : r = 0 := hw.trans (if_neg (fun z => hp.elim z.1 (fun q => q.elim z.2.1 z.2.2)))
  subst hw
  refine lv_if_eq (tgt := 17) hx hb dX0_place_5 (by decide) (fun hc1 => ?_) (fun hc1 => ?_)
  · refine lv_iconst (v := -1) hx hb dX0_place_17 (by decide) ?_
    exact W.iret (v := (-1)) hx hb hr (fun t ht hW => ⟨⟨(-1), (), rfl, rfl, by rw [ht]; exact hP, va_K.moved hW.alike hK, hD⟩, hS.F ht⟩) hS.2.2 dX0_place_18
  · exact absurd rfl hc1
set_option maxHeartbeats 4000000 in
set_option maxRecDepth 100000 in
/-- place(k) -/
theorem c_place_in (l : Launch) (dC : Nat → ClassId) (dI : Nat → Nat → Nat) (cA : ClassId) (h0 a1 a2 a3 a4 sz : Nat) (f1 f2 f3 f4 : Nat → Int32) (n k : Nat) (kc lc rn ml lo : Int32) (hk : k < n) (hn : n ≤ 2000) (hlo : ¬ lo = 0) : na_Mi (S := Unit) l yX0_place wsX0_place ({ frames := 2, cells := 0, slots := 0, locals := 42 }) (dC, dI) vwCl [(cA, .int)] sz [.ref h0, .int (nI k)] [(h0, .inr (0, [.ref a1, .ref a2, .ref a3, .ref a4, .int (nI n), .int kc, .int lc, .int rn, .int ml, .int lo])), (a1, .inl (cA, 2000, .inl f1)), (a2, .inl (cA, 2000, .inl f2)), (a3, .inl (cA, 2000, .inl f3)), (a4, .inl (cA, 2000, .inl f4))] (fun r _ => r = f3 k) (fun _ => [(h0, .inr (0, [.ref a1, .ref a2, .ref a3, .ref a4, .int (nI n), .int kc, .int lc, .int rn, .int ml, .int lo])), (a1, .inl (cA, 2000, .inl f1)), (a2, .inl (cA, 2000, .inl f2)), (a3, .inl (cA, 2000, .inl f3)), (a4, .inl (cA, 2000, .inl f4))]) := by
  refine Met.ofW (cc := cX0_place) (maxL := 2) (ret := (some .int)) (by decide) rfl ?_
  intro p e s m args below meth c s₁ B hml hv
  obtain ⟨rfl, hsz, hP, hK, hD0⟩ := hv
  have hx := B.exec
  have hb := B.bytes
  have hr := B.returns
  have hts := atoms_spec (ws := wsX0_place) B.pre
  have hown : s.vm.findClass RX0 = some m.cls := findClass_of_methodNamed B.named
  have hlocks := B.notSynchronized
  subst hsz
  have hD := hD0.self (sz := s.heap.size)
  generalize hAe : va_A [(h0, .inr (0, [.ref a1, .ref a2, .ref a3, .ref a4, .int (nI n), .int kc, .int lc, .int rn, .int ml, .int lo])), (a1, .inl (cA, 2000, .inl f1)), (a2, .inl (cA, 2000, .inl f2)), (a3, .inl (cA, 2000, .inl f3)), (a4, .inl (cA, 2000, .inl f4))] s.heap.size = A at hD ⊢
  have hA : ∀ q : Nat, s.heap.size ≤ q → A q := fun q h => by rw [← hAe]; exact Or.inr h
  have hS : va_S A s.heap s.heap [] := va_S.rf
  have hP : va_P (dC, dI) vwCl [(h0, .inr (0, [.ref a1, .ref a2, .ref a3, .ref a4, .int (nI n), .int kc, .int lc, .int rn, .int ml, .int lo])), (a1, .inl (cA, 2000, .inl f1)), (a2, .inl (cA, 2000, .inl f2)), (a3, .inl (cA, 2000, .inl f3)), (a4, .inl (cA, 2000, .inl f4))] s.heap := hP
  have hl := lv_entry ([.ref h0, .int (nI k)]) (n := 2) (Nat.le_of_ble_eq_true rfl)
  rw [lg_entry_eq]
  generalize (lg_sl ([.ref h0, .int (nI k)]) ++ List.replicate (2 - (lg_sl ([.ref h0, .int (nI k)])).length) Slot.unset).toArray = ls at hl ⊢
  have hl : lv_has ls 2 [(0, .ref h0), (1, .int (nI k))] := hl
  refine lv_aload_n hx hb dX0_place_0 rfl (lv_at hl 0 rfl) ?_
  refine lv_iload_n hx hb dX0_place_1 rfl (lv_at hl 1 rfl) ?_
  refine na_calli (As := [.int (nI k)]) (rest := []) (wc := [(h0, .inr (0, [.ref a1, .ref a2, .ref a3, .ref a4, .int (nI n), .int kc, .int lc, .int rn, .int ml, .int lo])), (a1, .inl (cA, 2000, .inl f1)), (a2, .inl (cA, 2000, .inl f2)), (a3, .inl (cA, 2000, .inl f3)), (a4, .inl (cA, 2000, .inl f4))]) (wr := []) (ci := 0) ⟨hx, hb, hml, hown, hts⟩ (c_isLaid l dC dI cA h0 a1 a2 a3 a4 s.heap.size f1 f2 f3 f4 n kc lc rn ml lo (nI k)) (cwV 1 hts gX0_place_X0_isLaid rfl rfl rfl (by decide +kernel) ⟨Nat.le_of_ble_eq_true rfl, Nat.le_of_ble_eq_true rfl⟩) hK hP hD hS hA [0, 1, 2, 3, 4] [] rfl rfl rfl rfl (by decide) rfl rfl 0 rfl rfl hl.1 (Nat.le_of_ble_eq_true rfl) dX0_place_2 ⟨Nat.le_of_ble_eq_true rfl, Nat.le_of_ble_eq_true rfl⟩ rfl (fun r u H locs hw hP hD hS => ?_)
  have hP : va_P (dC, dI) vwCl [(h0, .inr (0, [.ref a1, .ref a2, .ref a3, .ref a4, .int (nI n), .int kc, .int lc, .int rn, .int ml, .int lo])), (a1, .inl (cA, 2000, .inl f1)), (a2, .inl (cA, 2000, .inl f2)), (a3, .inl (cA, 2000, .inl f3)), (a4, .inl (cA, 2000, .inl f4))] H := hP
  have hD : va_D A [(h0, .inr (0, [.ref a1, .ref a2, .ref a3, .ref a4, .int (nI n), .int kc, .int lc, .int rn, .int ml, .int lo])), (a1, .inl (cA, 2000, .inl f1)), (a2, .inl (cA, 2000, .inl f2)), (a3, .inl (cA, 2000, .inl f3)), (a4, .inl (cA, 2000, .inl f4))] := hD
  have hw : r = 1 := hw.trans (if_pos ⟨hlo, nI_pos (by omega), nI_ge hk (by omega)⟩)
  subst hw
  refine lv_if_eq (tgt := 17) hx hb dX0_place_5 (by decide) (fun hc1 => ?_) (fun hc1 => ?_)
  · exact absurd hc1 (by decide)
  · refine lv_aload_n hx hb dX0_place_8 rfl (lv_at hl 0 rfl) ?_
    refine va_get (D := (dC, dI)) (ci := 0) (v := .ref a3) (C := RX0) (T := TX0) (N := 10) hx hb hts in_X0_place hown hK hP 0 rfl rfl 2 (by decide) (hts (.fieldLink RX0 16 "BranchLengths" "places" "[I") (by decide +kernel)) (fun _ h9 => h9) rfl dX0_place_9 ?_
    refine lv_iload_n hx hb dX0_place_12 rfl (lv_at hl 1 rfl) ?_
    refine na_iald (k := k) hx hb hK hP 3 0 rfl rfl (by omega) (by decide) dX0_place_13 ?_
    refine lv_goto (tgt := 18) hx hb dX0_place_14 (by decide) ?_
    exact W.iret (v := (f3 k)) hx hb hr (fun t ht hW => ⟨⟨(f3 k), (), rfl, rfl, by rw [ht]; exact hP, va_K.moved hW.alike hK, hD⟩, hS.F ht⟩) hS.2.2 dX0_place_18
set_option maxHeartbeats 4000000 in
set_option maxRecDepth 100000 in
/-- isLong(p), none -/
theorem c_isLong_out (l : Launch) (dC : Nat → ClassId) (dI : Nat → Nat → Nat) (cA : ClassId) (h0 a1 a2 a3 a4 sz : Nat) (f1 f2 f3 f4 : Nat → Int32) (n : Nat) (kc lc rn ml lo p1 : Int32) (hp : lo = 0 ∨ p1 < 0 ∨ nI n ≤ p1) : na_Mi (S := Unit) l yX0_isLong wsX0_isLong ({ frames := 2, cells := 0, slots := 0, locals := 42 }) (dC, dI) vwCl [(cA, .int)] sz [.ref h0, .int p1] [(h0, .inr (0, [.ref a1, .ref a2, .ref a3, .ref a4, .int (nI n), .int kc, .int lc, .int rn, .int ml, .int lo])), (a1, .inl (cA, 2000, .inl f1)), (a2, .inl (cA, 2000, .inl f2)), (a3, .inl (cA, 2000, .inl f3)), (a4, .inl (cA, 2000, .inl f4))] (fun r _ => r = 0) (fun _ => [(h0, .inr (0, [.ref a1, .ref a2, .ref a3, .ref a4, .int (nI n), .int kc, .int lc, .int rn, .int ml, .int lo])), (a1, .inl (cA, 2000, .inl f1)), (a2, .inl (cA, 2000, .inl f2)), (a3, .inl (cA, 2000, .inl f3)), (a4, .inl (cA, 2000, .inl f4))]) := by
  refine Met.ofW (cc := cX0_isLong) (maxL := 2) (ret := (some .boolean)) (by decide) rfl ?_
  intro p e s m args below meth c s₁ B hml hv
  obtain ⟨rfl, hsz, hP, hK, hD0⟩ := hv
  have hx := B.exec
  have hb := B.bytes
  have hr := B.returns
  have hts := atoms_spec (ws := wsX0_isLong) B.pre
  have hown : s.vm.findClass RX0 = some m.cls := findClass_of_methodNamed B.named
  have hlocks := B.notSynchronized
  subst hsz
  have hD := hD0.self (sz := s.heap.size)
  generalize hAe : va_A [(h0, .inr (0, [.ref a1, .ref a2, .ref a3, .ref a4, .int (nI n), .int kc, .int lc, .int rn, .int ml, .int lo])), (a1, .inl (cA, 2000, .inl f1)), (a2, .inl (cA, 2000, .inl f2)), (a3, .inl (cA, 2000, .inl f3)), (a4, .inl (cA, 2000, .inl f4))] s.heap.size = A at hD ⊢
  have hA : ∀ q : Nat, s.heap.size ≤ q → A q := fun q h => by rw [← hAe]; exact Or.inr h
  have hS : va_S A s.heap s.heap [] := va_S.rf
  have hP : va_P (dC, dI) vwCl [(h0, .inr (0, [.ref a1, .ref a2, .ref a3, .ref a4, .int (nI n), .int kc, .int lc, .int rn, .int ml, .int lo])), (a1, .inl (cA, 2000, .inl f1)), (a2, .inl (cA, 2000, .inl f2)), (a3, .inl (cA, 2000, .inl f3)), (a4, .inl (cA, 2000, .inl f4))] s.heap := hP
  have hl := lv_entry ([.ref h0, .int p1]) (n := 2) (Nat.le_of_ble_eq_true rfl)
  rw [lg_entry_eq]
  generalize (lg_sl ([.ref h0, .int p1]) ++ List.replicate (2 - (lg_sl ([.ref h0, .int p1])).length) Slot.unset).toArray = ls at hl ⊢
  have hl : lv_has ls 2 [(0, .ref h0), (1, .int p1)] := hl
  refine lv_aload_n hx hb dX0_isLong_0 rfl (lv_at hl 0 rfl) ?_
  refine lv_iload_n hx hb dX0_isLong_1 rfl (lv_at hl 1 rfl) ?_
  refine na_calli (As := [.int p1]) (rest := []) (wc := [(h0, .inr (0, [.ref a1, .ref a2, .ref a3, .ref a4, .int (nI n), .int kc, .int lc, .int rn, .int ml, .int lo])), (a1, .inl (cA, 2000, .inl f1)), (a2, .inl (cA, 2000, .inl f2)), (a3, .inl (cA, 2000, .inl f3)), (a4, .inl (cA, 2000, .inl f4))]) (wr := []) (ci := 0) ⟨hx, hb, hml, hown, hts⟩ (c_isLaid l dC dI cA h0 a1 a2 a3 a4 s.heap.size f1 f2 f3 f4 n kc lc rn ml lo p1) (cwV 1 hts gX0_isLong_X0_isLaid rfl rfl rfl (by decide +kernel) ⟨Nat.le_of_ble_eq_true rfl, Nat.le_of_ble_eq_true rfl⟩) hK hP hD hS hA [0, 1, 2, 3, 4] [] rfl rfl rfl rfl (by decide) rfl rfl 0 rfl rfl hl.1 (Nat.le_of_ble_eq_true rfl) dX0_isLong_2 ⟨Nat.le_of_ble_eq_true rfl, Nat.le_of_ble_eq_true rfl⟩ rfl (fun r u H locs hw hP hD hS => ?_)
  have hP : va_P (dC, dI) vwCl [(h0, .inr (0, [.ref a1, .ref a2, .ref a3, .ref a4, .int (nI n), .int kc, .int lc, .int rn, .int ml, .int lo])), (a1, .inl (cA, 2000, .inl f1)), (a2, .inl (cA, 2000, .inl f2)), (a3, .inl (cA, 2000, .inl f3)), (a4, .inl (cA, 2000, .inl f4))] H := hP
  have hD : va_D A [(h0, .inr (0, [.ref a1, .ref a2, .ref a3, .ref a4, .int (nI n), .int kc, .int lc, .int rn, .int ml, .int lo])), (a1, .inl (cA, 2000, .inl f1)), (a2, .inl (cA, 2000, .inl f2)), (a3, .inl (cA, 2000, .inl f3)), (a4, .inl (cA, 2000, .inl f4))] := hD
  have hw : r = 0 := hw.trans (if_neg (fun z => hp.elim z.1 (fun q => q.elim z.2.1 z.2.2)))
  subst hw
  refine lv_if_eq (tgt := 30) hx hb dX0_isLong_5 (by decide) (fun hc1 => ?_) (fun hc1 => ?_)
  · refine lv_iconst (v := 0) hx hb dX0_isLong_30 (by decide) ?_
    exact W.zret (v := 0) hx hb hr rfl (fun t ht hW => ⟨⟨0, (), rfl, rfl, by rw [ht]; exact hP, va_K.moved hW.alike hK, hD⟩, hS.F ht⟩) hS.2.2 dX0_isLong_31
  · exact absurd rfl hc1
set_option maxHeartbeats 4000000 in
set_option maxRecDepth 100000 in
/-- isLong(k) -/
theorem c_isLong_in (l : Launch) (dC : Nat → ClassId) (dI : Nat → Nat → Nat) (cA : ClassId) (h0 a1 a2 a3 a4 sz : Nat) (f1 f2 f3 f4 : Nat → Int32) (n k : Nat) (kc lc rn ml lo : Int32) (hk : k < n) (hn : n ≤ 2000) (hlo : ¬ lo = 0) : na_Mi (S := Unit) l yX0_isLong wsX0_isLong ({ frames := 2, cells := 0, slots := 0, locals := 42 }) (dC, dI) vwCl [(cA, .int)] sz [.ref h0, .int (nI k)] [(h0, .inr (0, [.ref a1, .ref a2, .ref a3, .ref a4, .int (nI n), .int kc, .int lc, .int rn, .int ml, .int lo])), (a1, .inl (cA, 2000, .inl f1)), (a2, .inl (cA, 2000, .inl f2)), (a3, .inl (cA, 2000, .inl f3)), (a4, .inl (cA, 2000, .inl f4))] (fun r _ => r = if (¬ f2 k = -1 ∧ f1 k = 2) then 1 else 0) (fun _ => [(h0, .inr (0, [.ref a1, .ref a2, .ref a3, .ref a4, .int (nI n), .int kc, .int lc, .int rn, .int ml, .int lo])), (a1, .inl (cA, 2000, .inl f1)), (a2, .inl (cA, 2000, .inl f2)), (a3, .inl (cA, 2000, .inl f3)), (a4, .inl (cA, 2000, .inl f4))]) := by
  refine Met.ofW (cc := cX0_isLong) (maxL := 2) (ret := (some .boolean)) (by decide) rfl ?_
  intro p e s m args below meth c s₁ B hml hv
  obtain ⟨rfl, hsz, hP, hK, hD0⟩ := hv
  have hx := B.exec
  have hb := B.bytes
  have hr := B.returns
  have hts := atoms_spec (ws := wsX0_isLong) B.pre
  have hown : s.vm.findClass RX0 = some m.cls := findClass_of_methodNamed B.named
  have hlocks := B.notSynchronized
  subst hsz
  have hD := hD0.self (sz := s.heap.size)
  generalize hAe : va_A [(h0, .inr (0, [.ref a1, .ref a2, .ref a3, .ref a4, .int (nI n), .int kc, .int lc, .int rn, .int ml, .int lo])), (a1, .inl (cA, 2000, .inl f1)), (a2, .inl (cA, 2000, .inl f2)), (a3, .inl (cA, 2000, .inl f3)), (a4, .inl (cA, 2000, .inl f4))] s.heap.size = A at hD ⊢
  have hA : ∀ q : Nat, s.heap.size ≤ q → A q := fun q h => by rw [← hAe]; exact Or.inr h
  have hS : va_S A s.heap s.heap [] := va_S.rf
  have hP : va_P (dC, dI) vwCl [(h0, .inr (0, [.ref a1, .ref a2, .ref a3, .ref a4, .int (nI n), .int kc, .int lc, .int rn, .int ml, .int lo])), (a1, .inl (cA, 2000, .inl f1)), (a2, .inl (cA, 2000, .inl f2)), (a3, .inl (cA, 2000, .inl f3)), (a4, .inl (cA, 2000, .inl f4))] s.heap := hP
  have hl := lv_entry ([.ref h0, .int (nI k)]) (n := 2) (Nat.le_of_ble_eq_true rfl)
  rw [lg_entry_eq]
  generalize (lg_sl ([.ref h0, .int (nI k)]) ++ List.replicate (2 - (lg_sl ([.ref h0, .int (nI k)])).length) Slot.unset).toArray = ls at hl ⊢
  have hl : lv_has ls 2 [(0, .ref h0), (1, .int (nI k))] := hl
  refine lv_aload_n hx hb dX0_isLong_0 rfl (lv_at hl 0 rfl) ?_
  refine lv_iload_n hx hb dX0_isLong_1 rfl (lv_at hl 1 rfl) ?_
  refine na_calli (As := [.int (nI k)]) (rest := []) (wc := [(h0, .inr (0, [.ref a1, .ref a2, .ref a3, .ref a4, .int (nI n), .int kc, .int lc, .int rn, .int ml, .int lo])), (a1, .inl (cA, 2000, .inl f1)), (a2, .inl (cA, 2000, .inl f2)), (a3, .inl (cA, 2000, .inl f3)), (a4, .inl (cA, 2000, .inl f4))]) (wr := []) (ci := 0) ⟨hx, hb, hml, hown, hts⟩ (c_isLaid l dC dI cA h0 a1 a2 a3 a4 s.heap.size f1 f2 f3 f4 n kc lc rn ml lo (nI k)) (cwV 1 hts gX0_isLong_X0_isLaid rfl rfl rfl (by decide +kernel) ⟨Nat.le_of_ble_eq_true rfl, Nat.le_of_ble_eq_true rfl⟩) hK hP hD hS hA [0, 1, 2, 3, 4] [] rfl rfl rfl rfl (by decide) rfl rfl 0 rfl rfl hl.1 (Nat.le_of_ble_eq_true rfl) dX0_isLong_2 ⟨Nat.le_of_ble_eq_true rfl, Nat.le_of_ble_eq_true rfl⟩ rfl (fun r u H locs hw hP hD hS => ?_)
  have hP : va_P (dC, dI) vwCl [(h0, .inr (0, [.ref a1, .ref a2, .ref a3, .ref a4, .int (nI n), .int kc, .int lc, .int rn, .int ml, .int lo])), (a1, .inl (cA, 2000, .inl f1)), (a2, .inl (cA, 2000, .inl f2)), (a3, .inl (cA, 2000, .inl f3)), (a4, .inl (cA, 2000, .inl f4))] H := hP
  have hD : va_D A [(h0, .inr (0, [.ref a1, .ref a2, .ref a3, .ref a4, .int (nI n), .int kc, .int lc, .int rn, .int ml, .int lo])), (a1, .inl (cA, 2000, .inl f1)), (a2, .inl (cA, 2000, .inl f2)), (a3, .inl (cA, 2000, .inl f3)), (a4, .inl (cA, 2000, .inl f4))] := hD
  have hw : r = 1 := hw.trans (if_pos ⟨hlo, nI_pos (by omega), nI_ge hk (by omega)⟩)
  subst hw
  refine lv_if_eq (tgt := 30) hx hb dX0_isLong_5 (by decide) (fun hc1 => ?_) (fun hc1 => ?_)
  · exact absurd hc1 (by decide)
  · refine lv_aload_n hx hb dX0_isLong_8 rfl (lv_at hl 0 rfl) ?_
    refine lv_iload_n hx hb dX0_isLong_9 rfl (lv_at hl 1 rfl) ?_
    refine na_calli (As := [.int (nI k)]) (rest := []) (wc := [(h0, .inr (0, [.ref a1, .ref a2, .ref a3, .ref a4, .int (nI n), .int kc, .int lc, .int rn, .int ml, .int lo])), (a1, .inl (cA, 2000, .inl f1)), (a2, .inl (cA, 2000, .inl f2)), (a3, .inl (cA, 2000, .inl f3)), (a4, .inl (cA, 2000, .inl f4))]) (wr := []) (ci := 0) ⟨hx, hb, hml, hown, hts⟩ (c_isBranch l dC dI cA h0 a1 a2 a3 a4 H.size f1 f2 f3 f4 n k kc lc rn ml lo (by omega)) (cwV 1 hts gX0_isLong_X0_isBranch rfl rfl rfl (by decide +kernel) ⟨Nat.le_of_ble_eq_true rfl, Nat.le_of_ble_eq_true rfl⟩) hK hP hD hS hA [0, 1, 2, 3, 4] [] rfl rfl rfl rfl (by decide) rfl rfl 0 rfl rfl hl.1 (Nat.le_of_ble_eq_true rfl) dX0_isLong_10 ⟨Nat.le_of_ble_eq_true rfl, Nat.le_of_ble_eq_true rfl⟩ rfl (fun r u H locs hw hP hD hS => ?_)
    have hP : va_P (dC, dI) vwCl [(h0, .inr (0, [.ref a1, .ref a2, .ref a3, .ref a4, .int (nI n), .int kc, .int lc, .int rn, .int ml, .int lo])), (a1, .inl (cA, 2000, .inl f1)), (a2, .inl (cA, 2000, .inl f2)), (a3, .inl (cA, 2000, .inl f3)), (a4, .inl (cA, 2000, .inl f4))] H := hP
    have hD : va_D A [(h0, .inr (0, [.ref a1, .ref a2, .ref a3, .ref a4, .int (nI n), .int kc, .int lc, .int rn, .int ml, .int lo])), (a1, .inl (cA, 2000, .inl f1)), (a2, .inl (cA, 2000, .inl f2)), (a3, .inl (cA, 2000, .inl f3)), (a4, .inl (cA, 2000, .inl f4))] := hD
    subst hw
    refine lv_if_eq (tgt := 30) hx hb dX0_isLong_13 (by decide) (fun hc2 => ?_) (fun hc2 => ?_)
    · have hb2 : f2 k = -1 := by
        by_cases q : f2 k = -1
        · exact q
        · rw [if_neg q] at hc2; exact absurd hc2 (by decide)
      refine lv_iconst (v := 0) hx hb dX0_isLong_30 (by decide) ?_
      exact W.zret (v := 0) hx hb hr rfl (fun t ht hW => ⟨⟨0, (), rfl, (if_neg (fun z => z.1 hb2)).symm, by rw [ht]; exact hP, va_K.moved hW.alike hK, hD⟩, hS.F ht⟩) hS.2.2 dX0_isLong_31
    · have hb2 : ¬ f2 k = -1 := fun q => hc2 (if_pos q)
      refine lv_aload_n hx hb dX0_isLong_16 rfl (lv_at hl 0 rfl) ?_
      refine va_get (D := (dC, dI)) (ci := 0) (v := .ref a1) (C := RX0) (T := TX0) (N := 10) hx hb hts in_X0_isLong hown hK hP 0 rfl rfl 0 (by decide) (hts (.fieldLink RX0 9 "BranchLengths" "words" "[I") (by decide +kernel)) (fun _ h9 => h9) rfl dX0_isLong_17 ?_
      refine lv_iload_n hx hb dX0_isLong_20 rfl (lv_at hl 1 rfl) ?_
      refine na_iald (k := k) hx hb hK hP 1 0 rfl rfl (by omega) (by decide) dX0_isLong_21 ?_
      refine lv_iconst (v := 2) hx hb dX0_isLong_22 (by decide) ?_
      refine lv_icmp_ne (tgt := 30) hx hb dX0_isLong_23 (by decide) (fun hc3 => ?_) (fun hc3 => ?_)
      · refine lv_iconst (v := 0) hx hb dX0_isLong_30 (by decide) ?_
        exact W.zret (v := 0) hx hb hr rfl (fun t ht hW => ⟨⟨0, (), rfl, (if_neg (fun z => hc3 z.2)).symm, by rw [ht]; exact hP, va_K.moved hW.alike hK, hD⟩, hS.F ht⟩) hS.2.2 dX0_isLong_31
      · refine lv_iconst (v := 1) hx hb dX0_isLong_26 (by decide) ?_
        refine lv_goto (tgt := 31) hx hb dX0_isLong_27 (by decide) ?_
        exact W.zret (v := 1) hx hb hr rfl (fun t ht hW => ⟨⟨1, (), rfl, (if_pos ⟨hb2, hc3⟩).symm, by rw [ht]; exact hP, va_K.moved hW.alike hK, hD⟩, hS.F ht⟩) hS.2.2 dX0_isLong_31
