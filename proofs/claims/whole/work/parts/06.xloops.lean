set_option maxHeartbeats 4000000 in
set_option maxRecDepth 100000 in
/-- shortenAll() -/
theorem c_shortenAll (l : Launch) (dC : Nat → ClassId) (dI : Nat → Nat → Nat) (cA : ClassId) (h0 a1 a2 a3 a4 sz : Nat) (f1 f2 f3 f4 : Nat → Int32) (n : Nat) (kc lc rn ml lo : Int32) (hn : n ≤ 2000) : na_Mv (S := Unit) l yX0_shortenAll wsX0_shortenAll ({ frames := 1, cells := 0, slots := 0, locals := 21 }) (dC, dI) vwCl [(cA, .int)] sz [.ref h0] [(h0, .inr (0, [.ref a1, .ref a2, .ref a3, .ref a4, .int (nI n), .int kc, .int lc, .int rn, .int ml, .int lo])), (a1, .inl (cA, 2000, .inl f1)), (a2, .inl (cA, 2000, .inl f2)), (a3, .inl (cA, 2000, .inl f3)), (a4, .inl (cA, 2000, .inl f4))] (fun _ => True) (fun _ => [(h0, .inr (0, [.ref a1, .ref a2, .ref a3, .ref a4, .int (nI n), .int kc, .int 0, .int rn, .int ml, .int lo])), (a1, .inl (cA, 2000, .inl (xSh f1 f2 n))), (a2, .inl (cA, 2000, .inl f2)), (a3, .inl (cA, 2000, .inl f3)), (a4, .inl (cA, 2000, .inl f4))]) := by
  refine Met.ofW (cc := cX0_shortenAll) (maxL := 2) (ret := none) (by decide) rfl ?_
  intro p e s m args below meth c s₁ B hml hv
  obtain ⟨rfl, hsz, hP, hK, hD0⟩ := hv
  have hx := B.exec
  have hb := B.bytes
  have hr := B.returns
  have hts := atoms_spec (ws := wsX0_shortenAll) B.pre
  have hown : s.vm.findClass RX0 = some m.cls := findClass_of_methodNamed B.named
  have hlocks := B.notSynchronized
  subst hsz
  have hD := hD0.self (sz := s.heap.size)
  generalize hAe : va_A [(h0, .inr (0, [.ref a1, .ref a2, .ref a3, .ref a4, .int (nI n), .int kc, .int lc, .int rn, .int ml, .int lo])), (a1, .inl (cA, 2000, .inl f1)), (a2, .inl (cA, 2000, .inl f2)), (a3, .inl (cA, 2000, .inl f3)), (a4, .inl (cA, 2000, .inl f4))] s.heap.size = A at hD ⊢
  have hA : ∀ q : Nat, s.heap.size ≤ q → A q := fun q h => by rw [← hAe]; exact Or.inr h
  have hS : va_S A s.heap s.heap [] := va_S.rf
  have hP : va_P (dC, dI) vwCl [(h0, .inr (0, [.ref a1, .ref a2, .ref a3, .ref a4, .int (nI n), .int kc, .int lc, .int rn, .int ml, .int lo])), (a1, .inl (cA, 2000, .inl f1)), (a2, .inl (cA, 2000, .inl f2)), (a3, .inl (cA, 2000, .inl f3)), (a4, .inl (cA, 2000, .inl f4))] s.heap := hP
  have hl := lv_entry ([.ref h0]) (n := 2) (Nat.le_of_ble_eq_true rfl)
  rw [lg_entry_eq]
  generalize (lg_sl ([.ref h0]) ++ List.replicate (2 - (lg_sl ([.ref h0])).length) Slot.unset).toArray = ls at hl ⊢
  have hl : lv_has ls 2 [(0, .ref h0)] := hl
  refine lv_iconst (v := nI 0) hx hb dX0_shortenAll_0 rfl ?_
  refine lv_istore_n (lv' := [(1, .int (nI 0)), (0, .ref h0)]) hx hb dX0_shortenAll_1 rfl hl (by decide) rfl (fun ls hl => ?_)
  refine na_loop (pc := 2) (fun (d : Nat) (k : Nat) (H : Heap) (locs : List Loc) (ls : Array Slot) => (k ≤ n ∧ d = n - k) ∧ va_P (dC, dI) vwCl [(h0, .inr (0, [.ref a1, .ref a2, .ref a3, .ref a4, .int (nI n), .int kc, .int lc, .int rn, .int ml, .int lo])), (a1, .inl (cA, 2000, .inl (xSh f1 f2 k))), (a2, .inl (cA, 2000, .inl f2)), (a3, .inl (cA, 2000, .inl f3)), (a4, .inl (cA, 2000, .inl f4))] H ∧ va_D A [(h0, .inr (0, [.ref a1, .ref a2, .ref a3, .ref a4, .int (nI n), .int kc, .int lc, .int rn, .int ml, .int lo])), (a1, .inl (cA, 2000, .inl (xSh f1 f2 k))), (a2, .inl (cA, 2000, .inl f2)), (a3, .inl (cA, 2000, .inl f3)), (a4, .inl (cA, 2000, .inl f4))] ∧ va_S A s.heap H locs ∧ lv_has ls 2 [(0, .ref h0), (1, .int (nI k))]) ?_ (n - 0) (0) ⟨⟨Nat.zero_le _, rfl⟩, by rw [xSh_0]; exact hP, by rw [xSh_0]; exact hD, hS, lv_sub hl [1, 0] rfl⟩
  intro d k H locs ls hI ih
  obtain ⟨⟨hkn, hd⟩, hP, hD, hS, hl⟩ := hI
  refine lv_iload_n hx hb dX0_shortenAll_2 rfl (lv_at hl 1 rfl) ?_
  refine lv_aload_n hx hb dX0_shortenAll_3 rfl (lv_at hl 0 rfl) ?_
  refine va_get (D := (dC, dI)) (ci := 0) (v := .int (nI n)) (C := RX0) (T := TX0) (N := 10) hx hb hts in_X0_shortenAll hown hK hP 0 rfl rfl 4 (by decide) (hts (.fieldLink RX0 22 "BranchLengths" "itemCount" "I") (by decide +kernel)) (fun _ h9 => h9) rfl dX0_shortenAll_4 ?_
  refine lv_icmp_ge (tgt := 31) hx hb dX0_shortenAll_7 (by decide) (fun hc => ?_) (fun hc => ?_)
  · have hkn' := na_ge (by omega) hkn hc
    subst hkn'
    refine lv_aload_n hx hb dX0_shortenAll_31 rfl (lv_at hl 0 rfl) ?_
    refine lv_iconst (v := 0) hx hb dX0_shortenAll_32 (by decide) ?_
    refine va_put (D := (dC, dI)) (ci := 0) (v := .int 0) (ty := .int) (C := RX0) (T := TX0) (N := 10) hx hb hts in_X0_shortenAll tyX0 tyX0_ok nmX0 hown hK hP hD hS 0 rfl rfl 6 (by decide) (hts (.fieldLink RX0 29 "BranchLengths" "longCount" "I") (by decide +kernel)) (fun _ h9 => h9) rfl (by decide +kernel) rfl rfl (Nat.le_of_ble_eq_true rfl) dX0_shortenAll_33 (fun H locs hP hD hS => ?_)
    have hP : va_P (dC, dI) vwCl [(h0, .inr (0, [.ref a1, .ref a2, .ref a3, .ref a4, .int (nI n), .int kc, .int 0, .int rn, .int ml, .int lo])), (a1, .inl (cA, 2000, .inl (xSh f1 f2 n))), (a2, .inl (cA, 2000, .inl f2)), (a3, .inl (cA, 2000, .inl f3)), (a4, .inl (cA, 2000, .inl f4))] H := hP
    have hD : va_D A [(h0, .inr (0, [.ref a1, .ref a2, .ref a3, .ref a4, .int (nI n), .int kc, .int 0, .int rn, .int ml, .int lo])), (a1, .inl (cA, 2000, .inl (xSh f1 f2 n))), (a2, .inl (cA, 2000, .inl f2)), (a3, .inl (cA, 2000, .inl f3)), (a4, .inl (cA, 2000, .inl f4))] := hD
    exact W.vret hx hb hr (fun t ht hW => ⟨⟨(), rfl, trivial, by rw [ht]; exact hP, va_K.moved hW.alike hK, hD⟩, hS.F ht⟩) hS.2.2 dX0_shortenAll_36
  · have hlt := na_nge (by omega) hkn hc
    refine lv_aload_n hx hb dX0_shortenAll_10 rfl (lv_at hl 0 rfl) ?_
    refine lv_iload_n hx hb dX0_shortenAll_11 rfl (lv_at hl 1 rfl) ?_
    refine na_calli (As := [.int (nI k)]) (rest := []) (wc := [(h0, .inr (0, [.ref a1, .ref a2, .ref a3, .ref a4, .int (nI n), .int kc, .int lc, .int rn, .int ml, .int lo])), (a1, .inl (cA, 2000, .inl (xSh f1 f2 k))), (a2, .inl (cA, 2000, .inl f2)), (a3, .inl (cA, 2000, .inl f3)), (a4, .inl (cA, 2000, .inl f4))]) (wr := []) (ci := 0) ⟨hx, hb, hml, hown, hts⟩ (c_isBranch l dC dI cA h0 a1 a2 a3 a4 H.size (xSh f1 f2 k) f2 f3 f4 n k kc lc rn ml lo (by omega)) (cwV 1 hts gX0_shortenAll_X0_isBranch rfl rfl rfl (by decide +kernel) ⟨Nat.le_of_ble_eq_true rfl, Nat.le_of_ble_eq_true rfl⟩) hK hP hD hS hA [0, 1, 2, 3, 4] [] rfl rfl rfl rfl (by decide) rfl rfl 0 rfl rfl hl.1 (Nat.le_of_ble_eq_true rfl) dX0_shortenAll_12 ⟨Nat.le_of_ble_eq_true rfl, Nat.le_of_ble_eq_true rfl⟩ rfl (fun r u H locs hw hP hD hS => ?_)
    have hP : va_P (dC, dI) vwCl [(h0, .inr (0, [.ref a1, .ref a2, .ref a3, .ref a4, .int (nI n), .int kc, .int lc, .int rn, .int ml, .int lo])), (a1, .inl (cA, 2000, .inl (xSh f1 f2 k))), (a2, .inl (cA, 2000, .inl f2)), (a3, .inl (cA, 2000, .inl f3)), (a4, .inl (cA, 2000, .inl f4))] H := hP
    have hD : va_D A [(h0, .inr (0, [.ref a1, .ref a2, .ref a3, .ref a4, .int (nI n), .int kc, .int lc, .int rn, .int ml, .int lo])), (a1, .inl (cA, 2000, .inl (xSh f1 f2 k))), (a2, .inl (cA, 2000, .inl f2)), (a3, .inl (cA, 2000, .inl f3)), (a4, .inl (cA, 2000, .inl f4))] := hD
    subst hw
    refine lv_if_eq (tgt := 25) hx hb dX0_shortenAll_15 (by decide) (fun hc2 => ?_) (fun hc2 => ?_)
    · have hb2 : f2 k = -1 := by
        by_cases q : f2 k = -1
        · exact q
        · rw [if_neg q] at hc2; exact absurd hc2 (by decide)
      refine lv_iinc (v := nI (k + 1)) (lv' := [(1, .int (nI (k + 1))), (0, .ref h0)]) hx hb dX0_shortenAll_25 hl (k := 1) rfl (nI_1 _) (by decide) rfl (fun ls hl => ?_)
      refine lv_goto (tgt := 2) hx hb dX0_shortenAll_28 (by decide) ?_
      exact ih (n - (k + 1)) (k + 1) _ _ _ (by omega) ⟨⟨by omega, rfl⟩, by rw [← xSh_n hb2]; exact hP, by rw [← xSh_n hb2]; exact hD, hS, lv_sub hl [1, 0] rfl⟩
    · have hb2 : ¬ f2 k = -1 := fun q => hc2 (if_pos q)
      refine lv_aload_n hx hb dX0_shortenAll_18 rfl (lv_at hl 0 rfl) ?_
      refine va_get (D := (dC, dI)) (ci := 0) (v := .ref a1) (C := RX0) (T := TX0) (N := 10) hx hb hts in_X0_shortenAll hown hK hP 0 rfl rfl 0 (by decide) (hts (.fieldLink RX0 9 "BranchLengths" "words" "[I") (by decide +kernel)) (fun _ h9 => h9) rfl dX0_shortenAll_19 ?_
      refine lv_iload_n hx hb dX0_shortenAll_22 rfl (lv_at hl 1 rfl) ?_
      refine lv_iconst (v := 1) hx hb dX0_shortenAll_23 (by decide) ?_
      refine na_iast (k := k) hx hb hK hP hD hS 1 0 rfl rfl (by omega) (by decide) (xSh f1 f2 (k + 1)) (xSh_b hb2) dX0_shortenAll_24 (fun H locs hP hD hS => ?_)
      have hP : va_P (dC, dI) vwCl [(h0, .inr (0, [.ref a1, .ref a2, .ref a3, .ref a4, .int (nI n), .int kc, .int lc, .int rn, .int ml, .int lo])), (a1, .inl (cA, 2000, .inl (xSh f1 f2 (k + 1)))), (a2, .inl (cA, 2000, .inl f2)), (a3, .inl (cA, 2000, .inl f3)), (a4, .inl (cA, 2000, .inl f4))] H := hP
      have hD : va_D A [(h0, .inr (0, [.ref a1, .ref a2, .ref a3, .ref a4, .int (nI n), .int kc, .int lc, .int rn, .int ml, .int lo])), (a1, .inl (cA, 2000, .inl (xSh f1 f2 (k + 1)))), (a2, .inl (cA, 2000, .inl f2)), (a3, .inl (cA, 2000, .inl f3)), (a4, .inl (cA, 2000, .inl f4))] := hD
      refine lv_iinc (v := nI (k + 1)) (lv' := [(1, .int (nI (k + 1))), (0, .ref h0)]) hx hb dX0_shortenAll_25 hl (k := 1) rfl (nI_1 _) (by decide) rfl (fun ls hl => ?_)
      refine lv_goto (tgt := 2) hx hb dX0_shortenAll_28 (by decide) ?_
      exact ih (n - (k + 1)) (k + 1) _ _ _ (by omega) ⟨⟨by omega, rfl⟩, hP, hD, hS, lv_sub hl [1, 0] rfl⟩
set_option maxHeartbeats 4000000 in
set_option maxRecDepth 100000 in
/-- lengthenUnreaching() -/
theorem c_lengthen (l : Launch) (dC : Nat → ClassId) (dI : Nat → Nat → Nat) (cA : ClassId) (h0 a1 a2 a3 a4 sz : Nat) (f1 f2 f3 f4 : Nat → Int32) (n : Nat) (kc lc rn ml lo : Int32) (hn : n ≤ 2000) (ht : ∀ j, j < n → ¬ f2 j = -1 → ∃ t q : Nat, t < 2000 ∧ q < 2000 ∧ f2 j = nI t ∧ f4 t = nI q ∧ ¬ kc ≤ nI t ∧ ¬ nI n ≤ nI q) : na_Mi (S := Unit) l yX0_lengthenUnreaching wsX0_lengthenUnreaching ({ frames := 2, cells := 0, slots := 0, locals := 44 }) (dC, dI) vwCl [(cA, .int)] sz [.ref h0] [(h0, .inr (0, [.ref a1, .ref a2, .ref a3, .ref a4, .int (nI n), .int kc, .int lc, .int rn, .int ml, .int lo])), (a1, .inl (cA, 2000, .inl f1)), (a2, .inl (cA, 2000, .inl f2)), (a3, .inl (cA, 2000, .inl f3)), (a4, .inl (cA, 2000, .inl f4))] (fun r _ => r = nI (cnt (xBad f1 f2 f3 f4 rn) n)) (fun _ => [(h0, .inr (0, [.ref a1, .ref a2, .ref a3, .ref a4, .int (nI n), .int kc, .int lc, .int rn, .int ml, .int lo])), (a1, .inl (cA, 2000, .inl (xLn f1 (xBad f1 f2 f3 f4 rn) n))), (a2, .inl (cA, 2000, .inl f2)), (a3, .inl (cA, 2000, .inl f3)), (a4, .inl (cA, 2000, .inl f4))]) := by
  refine Met.ofW (cc := cX0_lengthenUnreaching) (maxL := 3) (ret := (some .int)) (by decide) rfl ?_
  intro p e s m args below meth c s₁ B hml hv
  obtain ⟨rfl, hsz, hP, hK, hD0⟩ := hv
  have hx := B.exec
  have hb := B.bytes
  have hr := B.returns
  have hts := atoms_spec (ws := wsX0_lengthenUnreaching) B.pre
  have hown : s.vm.findClass RX0 = some m.cls := findClass_of_methodNamed B.named
  have hlocks := B.notSynchronized
  subst hsz
  have hD := hD0.self (sz := s.heap.size)
  generalize hAe : va_A [(h0, .inr (0, [.ref a1, .ref a2, .ref a3, .ref a4, .int (nI n), .int kc, .int lc, .int rn, .int ml, .int lo])), (a1, .inl (cA, 2000, .inl f1)), (a2, .inl (cA, 2000, .inl f2)), (a3, .inl (cA, 2000, .inl f3)), (a4, .inl (cA, 2000, .inl f4))] s.heap.size = A at hD ⊢
  have hA : ∀ q : Nat, s.heap.size ≤ q → A q := fun q h => by rw [← hAe]; exact Or.inr h
  have hS : va_S A s.heap s.heap [] := va_S.rf
  have hP : va_P (dC, dI) vwCl [(h0, .inr (0, [.ref a1, .ref a2, .ref a3, .ref a4, .int (nI n), .int kc, .int lc, .int rn, .int ml, .int lo])), (a1, .inl (cA, 2000, .inl f1)), (a2, .inl (cA, 2000, .inl f2)), (a3, .inl (cA, 2000, .inl f3)), (a4, .inl (cA, 2000, .inl f4))] s.heap := hP
  have hl := lv_entry ([.ref h0]) (n := 3) (Nat.le_of_ble_eq_true rfl)
  rw [lg_entry_eq]
  generalize (lg_sl ([.ref h0]) ++ List.replicate (3 - (lg_sl ([.ref h0])).length) Slot.unset).toArray = ls at hl ⊢
  have hl : lv_has ls 3 [(0, .ref h0)] := hl
  refine lv_iconst (v := nI (cnt (xBad f1 f2 f3 f4 rn) 0)) hx hb dX0_lengthenUnreaching_0 rfl ?_
  refine lv_istore_n (lv' := [(1, .int (nI (cnt (xBad f1 f2 f3 f4 rn) 0))), (0, .ref h0)]) hx hb dX0_lengthenUnreaching_1 rfl hl (by decide) rfl (fun ls hl => ?_)
  refine lv_iconst (v := nI 0) hx hb dX0_lengthenUnreaching_2 rfl ?_
  refine lv_istore_n (lv' := [(2, .int (nI 0)), (1, .int (nI (cnt (xBad f1 f2 f3 f4 rn) 0))), (0, .ref h0)]) hx hb dX0_lengthenUnreaching_3 rfl hl (by decide) rfl (fun ls hl => ?_)
  refine na_loop (pc := 4) (fun (d : Nat) (k : Nat) (H : Heap) (locs : List Loc) (ls : Array Slot) => (k ≤ n ∧ d = n - k) ∧ va_P (dC, dI) vwCl [(h0, .inr (0, [.ref a1, .ref a2, .ref a3, .ref a4, .int (nI n), .int kc, .int lc, .int rn, .int ml, .int lo])), (a1, .inl (cA, 2000, .inl (xLn f1 (xBad f1 f2 f3 f4 rn) k))), (a2, .inl (cA, 2000, .inl f2)), (a3, .inl (cA, 2000, .inl f3)), (a4, .inl (cA, 2000, .inl f4))] H ∧ va_D A [(h0, .inr (0, [.ref a1, .ref a2, .ref a3, .ref a4, .int (nI n), .int kc, .int lc, .int rn, .int ml, .int lo])), (a1, .inl (cA, 2000, .inl (xLn f1 (xBad f1 f2 f3 f4 rn) k))), (a2, .inl (cA, 2000, .inl f2)), (a3, .inl (cA, 2000, .inl f3)), (a4, .inl (cA, 2000, .inl f4))] ∧ va_S A s.heap H locs ∧ lv_has ls 3 [(0, .ref h0), (1, .int (nI (cnt (xBad f1 f2 f3 f4 rn) k))), (2, .int (nI k))]) ?_ (n - 0) (0) ⟨⟨Nat.zero_le _, rfl⟩, by rw [xLn_0]; exact hP, by rw [xLn_0]; exact hD, hS, lv_sub hl [2, 1, 0] rfl⟩
  intro d k H locs ls hI ih
  obtain ⟨⟨hkn, hd⟩, hP, hD, hS, hl⟩ := hI
  refine lv_iload_n hx hb dX0_lengthenUnreaching_4 rfl (lv_at hl 2 rfl) ?_
  refine lv_aload_n hx hb dX0_lengthenUnreaching_5 rfl (lv_at hl 0 rfl) ?_
  refine va_get (D := (dC, dI)) (ci := 0) (v := .int (nI n)) (C := RX0) (T := TX0) (N := 10) hx hb hts in_X0_lengthenUnreaching hown hK hP 0 rfl rfl 4 (by decide) (hts (.fieldLink RX0 22 "BranchLengths" "itemCount" "I") (by decide +kernel)) (fun _ h9 => h9) rfl dX0_lengthenUnreaching_6 ?_
  refine lv_icmp_ge (tgt := 54) hx hb dX0_lengthenUnreaching_9 (by decide) (fun hc => ?_) (fun hc => ?_)
  · have hkn' := na_ge (by omega) hkn hc
    subst hkn'
    refine lv_iload_n hx hb dX0_lengthenUnreaching_54 rfl (lv_at hl 1 rfl) ?_
    exact W.iret (v := (nI (cnt (xBad f1 f2 f3 f4 rn) n))) hx hb hr (fun t ht hW => ⟨⟨(nI (cnt (xBad f1 f2 f3 f4 rn) n)), (), rfl, rfl, by rw [ht]; exact hP, va_K.moved hW.alike hK, hD⟩, hS.F ht⟩) hS.2.2 dX0_lengthenUnreaching_55
  · have hlt := na_nge (by omega) hkn hc
    refine lv_aload_n hx hb dX0_lengthenUnreaching_12 rfl (lv_at hl 0 rfl) ?_
    refine lv_iload_n hx hb dX0_lengthenUnreaching_13 rfl (lv_at hl 2 rfl) ?_
    refine na_calli (As := [.int (nI k)]) (rest := []) (wc := [(h0, .inr (0, [.ref a1, .ref a2, .ref a3, .ref a4, .int (nI n), .int kc, .int lc, .int rn, .int ml, .int lo])), (a1, .inl (cA, 2000, .inl (xLn f1 (xBad f1 f2 f3 f4 rn) k))), (a2, .inl (cA, 2000, .inl f2)), (a3, .inl (cA, 2000, .inl f3)), (a4, .inl (cA, 2000, .inl f4))]) (wr := []) (ci := 0) ⟨hx, hb, hml, hown, hts⟩ (c_isBranch l dC dI cA h0 a1 a2 a3 a4 H.size (xLn f1 (xBad f1 f2 f3 f4 rn) k) f2 f3 f4 n k kc lc rn ml lo (by omega)) (cwV 1 hts gX0_lengthenUnreaching_X0_isBranch rfl rfl rfl (by decide +kernel) ⟨Nat.le_of_ble_eq_true rfl, Nat.le_of_ble_eq_true rfl⟩) hK hP hD hS hA [0, 1, 2, 3, 4] [] rfl rfl rfl rfl (by decide) rfl rfl 0 rfl rfl hl.1 (Nat.le_of_ble_eq_true rfl) dX0_lengthenUnreaching_14 ⟨Nat.le_of_ble_eq_true rfl, Nat.le_of_ble_eq_true rfl⟩ rfl (fun r u H locs hw hP hD hS => ?_)
    have hP : va_P (dC, dI) vwCl [(h0, .inr (0, [.ref a1, .ref a2, .ref a3, .ref a4, .int (nI n), .int kc, .int lc, .int rn, .int ml, .int lo])), (a1, .inl (cA, 2000, .inl (xLn f1 (xBad f1 f2 f3 f4 rn) k))), (a2, .inl (cA, 2000, .inl f2)), (a3, .inl (cA, 2000, .inl f3)), (a4, .inl (cA, 2000, .inl f4))] H := hP
    have hD : va_D A [(h0, .inr (0, [.ref a1, .ref a2, .ref a3, .ref a4, .int (nI n), .int kc, .int lc, .int rn, .int ml, .int lo])), (a1, .inl (cA, 2000, .inl (xLn f1 (xBad f1 f2 f3 f4 rn) k))), (a2, .inl (cA, 2000, .inl f2)), (a3, .inl (cA, 2000, .inl f3)), (a4, .inl (cA, 2000, .inl f4))] := hD
    subst hw
    refine lv_if_eq (tgt := 48) hx hb dX0_lengthenUnreaching_17 (by decide) (fun hc2 => ?_) (fun hc2 => ?_)
    · have hb2 : f2 k = -1 := by
        by_cases q : f2 k = -1
        · exact q
        · rw [if_neg q] at hc2; exact absurd hc2 (by decide)
      have hbad : ¬ xBad f1 f2 f3 f4 rn k = true := by unfold xBad; simp [hb2]
      refine lv_iinc (v := nI (k + 1)) (lv' := [(2, .int (nI (k + 1))), (0, .ref h0), (1, .int (nI (cnt (xBad f1 f2 f3 f4 rn) k)))]) hx hb dX0_lengthenUnreaching_48 hl (k := 2) rfl (nI_1 _) (by decide) rfl (fun ls hl => ?_)
      refine lv_goto (tgt := 4) hx hb dX0_lengthenUnreaching_51 (by decide) ?_
      have ec : cnt (xBad f1 f2 f3 f4 rn) k = cnt (xBad f1 f2 f3 f4 rn) (k + 1) := (cnt_n hbad).symm
      rw [ec] at hl
      exact ih (n - (k + 1)) (k + 1) _ _ _ (by omega) ⟨⟨by omega, rfl⟩, by rw [← xLn_n hbad]; exact hP, by rw [← xLn_n hbad]; exact hD, hS, lv_sub hl [1, 2, 0] rfl⟩
    · have hb2 : ¬ f2 k = -1 := fun q => hc2 (if_pos q)
      refine lv_aload_n hx hb dX0_lengthenUnreaching_20 rfl (lv_at hl 0 rfl) ?_
      refine va_get (D := (dC, dI)) (ci := 0) (v := .ref a1) (C := RX0) (T := TX0) (N := 10) hx hb hts in_X0_lengthenUnreaching hown hK hP 0 rfl rfl 0 (by decide) (hts (.fieldLink RX0 9 "BranchLengths" "words" "[I") (by decide +kernel)) (fun _ h9 => h9) rfl dX0_lengthenUnreaching_21 ?_
      refine lv_iload_n hx hb dX0_lengthenUnreaching_24 rfl (lv_at hl 2 rfl) ?_
      refine na_iald (k := k) hx hb hK hP 1 0 rfl rfl (by omega) (by decide) dX0_lengthenUnreaching_25 ?_
      refine na_eqi (y := f1 k) (xLn_at _ _ _) ?_
      refine lv_iconst (v := 1) hx hb dX0_lengthenUnreaching_26 (by decide) ?_
      refine lv_icmp_ne (tgt := 48) hx hb dX0_lengthenUnreaching_27 (by decide) (fun hc3 => ?_) (fun hc3 => ?_)
      · have hbad : ¬ xBad f1 f2 f3 f4 rn k = true := by unfold xBad; simp [hc3]
        refine lv_iinc (v := nI (k + 1)) (lv' := [(2, .int (nI (k + 1))), (0, .ref h0), (1, .int (nI (cnt (xBad f1 f2 f3 f4 rn) k)))]) hx hb dX0_lengthenUnreaching_48 hl (k := 2) rfl (nI_1 _) (by decide) rfl (fun ls hl => ?_)
        refine lv_goto (tgt := 4) hx hb dX0_lengthenUnreaching_51 (by decide) ?_
        have ec : cnt (xBad f1 f2 f3 f4 rn) k = cnt (xBad f1 f2 f3 f4 rn) (k + 1) := (cnt_n hbad).symm
        rw [ec] at hl
        exact ih (n - (k + 1)) (k + 1) _ _ _ (by omega) ⟨⟨by omega, rfl⟩, by rw [← xLn_n hbad]; exact hP, by rw [← xLn_n hbad]; exact hD, hS, lv_sub hl [1, 2, 0] rfl⟩
      · have h1 : f1 k = 1 := hc3
        obtain ⟨t, q, ht1, hq1, e2, e4, hm9, hi9⟩ := ht k hlt hb2
        refine lv_aload_n hx hb dX0_lengthenUnreaching_30 rfl (lv_at hl 0 rfl) ?_
        refine lv_iload_n hx hb dX0_lengthenUnreaching_31 rfl (lv_at hl 2 rfl) ?_
        refine na_calli (As := [.int (nI k)]) (rest := []) (wc := [(h0, .inr (0, [.ref a1, .ref a2, .ref a3, .ref a4, .int (nI n), .int kc, .int lc, .int rn, .int ml, .int lo])), (a1, .inl (cA, 2000, .inl (xLn f1 (xBad f1 f2 f3 f4 rn) k))), (a2, .inl (cA, 2000, .inl f2)), (a3, .inl (cA, 2000, .inl f3)), (a4, .inl (cA, 2000, .inl f4))]) (wr := []) (ci := 0) ⟨hx, hb, hml, hown, hts⟩ (c_reachesShort l dC dI cA h0 a1 a2 a3 a4 H.size (xLn f1 (xBad f1 f2 f3 f4 rn) k) f2 f3 f4 n k t q kc lc rn ml lo (by omega) ht1 hq1 e2 e4 hm9 hi9) (cwV 1 hts gX0_lengthenUnreaching_X0_reachesShort rfl rfl rfl (by decide +kernel) ⟨Nat.le_of_ble_eq_true rfl, Nat.le_of_ble_eq_true rfl⟩) hK hP hD hS hA [0, 1, 2, 3, 4] [] rfl rfl rfl rfl (by decide) rfl rfl 0 rfl rfl hl.1 (Nat.le_of_ble_eq_true rfl) dX0_lengthenUnreaching_32 ⟨Nat.le_of_ble_eq_true rfl, Nat.le_of_ble_eq_true rfl⟩ rfl (fun r u H locs hw hP hD hS => ?_)
        have hP : va_P (dC, dI) vwCl [(h0, .inr (0, [.ref a1, .ref a2, .ref a3, .ref a4, .int (nI n), .int kc, .int lc, .int rn, .int ml, .int lo])), (a1, .inl (cA, 2000, .inl (xLn f1 (xBad f1 f2 f3 f4 rn) k))), (a2, .inl (cA, 2000, .inl f2)), (a3, .inl (cA, 2000, .inl f3)), (a4, .inl (cA, 2000, .inl f4))] H := hP
        have hD : va_D A [(h0, .inr (0, [.ref a1, .ref a2, .ref a3, .ref a4, .int (nI n), .int kc, .int lc, .int rn, .int ml, .int lo])), (a1, .inl (cA, 2000, .inl (xLn f1 (xBad f1 f2 f3 f4 rn) k))), (a2, .inl (cA, 2000, .inl f2)), (a3, .inl (cA, 2000, .inl f3)), (a4, .inl (cA, 2000, .inl f4))] := hD
        subst hw
        refine lv_if_ne (tgt := 48) hx hb dX0_lengthenUnreaching_35 (by decide) (fun hc4 => ?_) (fun hc4 => ?_)
        · have hr4 : xRs f2 f3 f4 rn k = true := by
            by_cases q : xRs f2 f3 f4 rn k = true
            · exact q
            · rw [if_neg q] at hc4; exact absurd rfl hc4
          have hbad : ¬ xBad f1 f2 f3 f4 rn k = true := by unfold xBad; simp [hr4]
          refine lv_iinc (v := nI (k + 1)) (lv' := [(2, .int (nI (k + 1))), (0, .ref h0), (1, .int (nI (cnt (xBad f1 f2 f3 f4 rn) k)))]) hx hb dX0_lengthenUnreaching_48 hl (k := 2) rfl (nI_1 _) (by decide) rfl (fun ls hl => ?_)
          refine lv_goto (tgt := 4) hx hb dX0_lengthenUnreaching_51 (by decide) ?_
          have ec : cnt (xBad f1 f2 f3 f4 rn) k = cnt (xBad f1 f2 f3 f4 rn) (k + 1) := (cnt_n hbad).symm
          rw [ec] at hl
          exact ih (n - (k + 1)) (k + 1) _ _ _ (by omega) ⟨⟨by omega, rfl⟩, by rw [← xLn_n hbad]; exact hP, by rw [← xLn_n hbad]; exact hD, hS, lv_sub hl [1, 2, 0] rfl⟩
        · have hr4 : ¬ xRs f2 f3 f4 rn k = true := fun q => by rw [if_pos q] at hc4; exact absurd hc4 (by decide)
          have hbad : xBad f1 f2 f3 f4 rn k = true := by unfold xBad; simp [hb2, h1, hr4]
          refine lv_aload_n hx hb dX0_lengthenUnreaching_38 rfl (lv_at hl 0 rfl) ?_
          refine va_get (D := (dC, dI)) (ci := 0) (v := .ref a1) (C := RX0) (T := TX0) (N := 10) hx hb hts in_X0_lengthenUnreaching hown hK hP 0 rfl rfl 0 (by decide) (hts (.fieldLink RX0 9 "BranchLengths" "words" "[I") (by decide +kernel)) (fun _ h9 => h9) rfl dX0_lengthenUnreaching_39 ?_
          refine lv_iload_n hx hb dX0_lengthenUnreaching_42 rfl (lv_at hl 2 rfl) ?_
          refine lv_iconst (v := 2) hx hb dX0_lengthenUnreaching_43 (by decide) ?_
          refine na_iast (k := k) hx hb hK hP hD hS 1 0 rfl rfl (by omega) (by decide) (xLn f1 (xBad f1 f2 f3 f4 rn) (k + 1)) (xLn_b hbad) dX0_lengthenUnreaching_44 (fun H locs hP hD hS => ?_)
          have hP : va_P (dC, dI) vwCl [(h0, .inr (0, [.ref a1, .ref a2, .ref a3, .ref a4, .int (nI n), .int kc, .int lc, .int rn, .int ml, .int lo])), (a1, .inl (cA, 2000, .inl (xLn f1 (xBad f1 f2 f3 f4 rn) (k + 1)))), (a2, .inl (cA, 2000, .inl f2)), (a3, .inl (cA, 2000, .inl f3)), (a4, .inl (cA, 2000, .inl f4))] H := hP
          have hD : va_D A [(h0, .inr (0, [.ref a1, .ref a2, .ref a3, .ref a4, .int (nI n), .int kc, .int lc, .int rn, .int ml, .int lo])), (a1, .inl (cA, 2000, .inl (xLn f1 (xBad f1 f2 f3 f4 rn) (k + 1)))), (a2, .inl (cA, 2000, .inl f2)), (a3, .inl (cA, 2000, .inl f3)), (a4, .inl (cA, 2000, .inl f4))] := hD
          refine lv_iinc (v := nI (cnt (xBad f1 f2 f3 f4 rn) k + 1)) (lv' := [(1, .int (nI (cnt (xBad f1 f2 f3 f4 rn) k + 1))), (0, .ref h0), (2, .int (nI k))]) hx hb dX0_lengthenUnreaching_45 hl (k := 1) rfl (nI_1 _) (by decide) rfl (fun ls hl => ?_)
          refine lv_iinc (v := nI (k + 1)) (lv' := [(2, .int (nI (k + 1))), (1, .int (nI (cnt (xBad f1 f2 f3 f4 rn) k + 1))), (0, .ref h0)]) hx hb dX0_lengthenUnreaching_48 hl (k := 2) rfl (nI_1 _) (by decide) rfl (fun ls hl => ?_)
          refine lv_goto (tgt := 4) hx hb dX0_lengthenUnreaching_51 (by decide) ?_
          have ec : cnt (xBad f1 f2 f3 f4 rn) k + 1 = cnt (xBad f1 f2 f3 f4 rn) (k + 1) := (cnt_s hbad).symm
          rw [ec] at hl
          exact ih (n - (k + 1)) (k + 1) _ _ _ (by omega) ⟨⟨by omega, rfl⟩, hP, hD, hS, lv_sub hl [2, 1, 0] rfl⟩
