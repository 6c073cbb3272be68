set_option maxHeartbeats 4000000 in
set_option maxRecDepth 100000 in
/-- addUp() -/
theorem m_addUp (l : Launch) (dC : Nat → ClassId) (dI : Nat → Nat → Nat) (cA cZ : ClassId) (h1 b1 b2 b3 b4 b5 sz : Nat) (g1 g2 g3 g4 g5 : Nat → Int32) (n : Nat) (mk re le la : Int32) (hn : n < 2000) : na_Mv (S := Unit) l yX1_addUp wsX1_addUp ({ frames := 0, cells := 0, slots := 0, locals := 0 }) (dC, dI) vwCl [(cA, .int), (cZ, .boolean)] sz [.ref h1] [(h1, .inr (1, [.ref b1, .ref b2, .ref b3, .ref b4, .ref b5, .int (nI n), .int mk, .int re, .int le, .int la])), (b1, .inl (cA, 2000, .inl g1)), (b2, .inl (cA, 2000, .inl g2)), (b3, .inl (cZ, 2000, .inl g3)), (b4, .inl (cA, 2001, .inl g4)), (b5, .inl (cA, 2000, .inl g5))] (fun _ => True) (fun _ => [(h1, .inr (1, [.ref b1, .ref b2, .ref b3, .ref b4, .ref b5, .int (nI n), .int mk, .int re, .int le, .int la])), (b1, .inl (cA, 2000, .inl g1)), (b2, .inl (cA, 2000, .inl g2)), (b3, .inl (cZ, 2000, .inl g3)), (b4, .inl (cA, 2001, .inl (mA (mV g1 g2 g3) g4 n))), (b5, .inl (cA, 2000, .inl g5))]) := by
  refine Met.ofW (cc := cX1_addUp) (maxL := 2) (ret := none) (by decide) rfl ?_
  intro p e s m args below meth c s₁ B hml hv
  obtain ⟨rfl, hsz, hP, hK, hD0⟩ := hv
  have hx := B.exec
  have hb := B.bytes
  have hr := B.returns
  have hts := atoms_spec (ws := wsX1_addUp) B.pre
  have hown : s.vm.findClass RX1 = some m.cls := findClass_of_methodNamed B.named
  have hlocks := B.notSynchronized
  subst hsz
  have hD := hD0.self (sz := s.heap.size)
  generalize hAe : va_A [(h1, .inr (1, [.ref b1, .ref b2, .ref b3, .ref b4, .ref b5, .int (nI n), .int mk, .int re, .int le, .int la])), (b1, .inl (cA, 2000, .inl g1)), (b2, .inl (cA, 2000, .inl g2)), (b3, .inl (cZ, 2000, .inl g3)), (b4, .inl (cA, 2001, .inl g4)), (b5, .inl (cA, 2000, .inl g5))] s.heap.size = A at hD ⊢
  have hA : ∀ q : Nat, s.heap.size ≤ q → A q := fun q h => by rw [← hAe]; exact Or.inr h
  have hS : va_S A s.heap s.heap [] := va_S.rf
  have hP : va_P (dC, dI) vwCl [(h1, .inr (1, [.ref b1, .ref b2, .ref b3, .ref b4, .ref b5, .int (nI n), .int mk, .int re, .int le, .int la])), (b1, .inl (cA, 2000, .inl g1)), (b2, .inl (cA, 2000, .inl g2)), (b3, .inl (cZ, 2000, .inl g3)), (b4, .inl (cA, 2001, .inl g4)), (b5, .inl (cA, 2000, .inl g5))] s.heap := hP
  have hl := lv_entry ([.ref h1]) (n := 2) (Nat.le_of_ble_eq_true rfl)
  rw [lg_entry_eq]
  generalize (lg_sl ([.ref h1]) ++ List.replicate (2 - (lg_sl ([.ref h1])).length) Slot.unset).toArray = ls at hl ⊢
  have hl : lv_has ls 2 [(0, .ref h1)] := hl
  refine lv_aload_n hx hb dX1_addUp_0 rfl (lv_at hl 0 rfl) ?_
  refine va_get (D := (dC, dI)) (ci := 1) (v := .ref b4) (C := RX1) (T := TX1) (N := 10) hx hb hts in_X1_addUp hown hK hP 0 rfl rfl 3 (by decide) (hts (.fieldLink RX1 20 "BranchLengthsModel" "places" "[I") (by decide +kernel)) (fun _ h9 => h9) rfl dX1_addUp_1 ?_
  refine lv_iconst (v := nI 0) hx hb dX1_addUp_4 (by decide) ?_
  refine lv_iconst (v := bx_sum (mV g1 g2 g3) 0) hx hb dX1_addUp_5 rfl ?_
  refine na_iast (k := 0) hx hb hK hP hD hS 4 0 rfl rfl (by decide) (by decide) (mA (mV g1 g2 g3) g4 0) (mA_0 (mV g1 g2 g3) g4) dX1_addUp_6 (fun H locs hP hD hS => ?_)
  have hP : va_P (dC, dI) vwCl [(h1, .inr (1, [.ref b1, .ref b2, .ref b3, .ref b4, .ref b5, .int (nI n), .int mk, .int re, .int le, .int la])), (b1, .inl (cA, 2000, .inl g1)), (b2, .inl (cA, 2000, .inl g2)), (b3, .inl (cZ, 2000, .inl g3)), (b4, .inl (cA, 2001, .inl (mA (mV g1 g2 g3) g4 0))), (b5, .inl (cA, 2000, .inl g5))] H := hP
  have hD : va_D A [(h1, .inr (1, [.ref b1, .ref b2, .ref b3, .ref b4, .ref b5, .int (nI n), .int mk, .int re, .int le, .int la])), (b1, .inl (cA, 2000, .inl g1)), (b2, .inl (cA, 2000, .inl g2)), (b3, .inl (cZ, 2000, .inl g3)), (b4, .inl (cA, 2001, .inl (mA (mV g1 g2 g3) g4 0))), (b5, .inl (cA, 2000, .inl g5))] := hD
  refine lv_iconst (v := nI 0) hx hb dX1_addUp_7 (by decide) ?_
  refine lv_istore_n (lv' := [(1, .int (nI 0)), (0, .ref h1)]) hx hb dX1_addUp_8 rfl hl (by decide) rfl (fun ls hl => ?_)
  refine na_loop (pc := 9) (fun (d : Nat) (k : Nat) (H : Heap) (locs : List Loc) (ls : Array Slot) => (k ≤ n ∧ d = n - k) ∧ va_P (dC, dI) vwCl [(h1, .inr (1, [.ref b1, .ref b2, .ref b3, .ref b4, .ref b5, .int (nI n), .int mk, .int re, .int le, .int la])), (b1, .inl (cA, 2000, .inl g1)), (b2, .inl (cA, 2000, .inl g2)), (b3, .inl (cZ, 2000, .inl g3)), (b4, .inl (cA, 2001, .inl (mA (mV g1 g2 g3) g4 k))), (b5, .inl (cA, 2000, .inl g5))] H ∧ va_D A [(h1, .inr (1, [.ref b1, .ref b2, .ref b3, .ref b4, .ref b5, .int (nI n), .int mk, .int re, .int le, .int la])), (b1, .inl (cA, 2000, .inl g1)), (b2, .inl (cA, 2000, .inl g2)), (b3, .inl (cZ, 2000, .inl g3)), (b4, .inl (cA, 2001, .inl (mA (mV g1 g2 g3) g4 k))), (b5, .inl (cA, 2000, .inl g5))] ∧ va_S A s.heap H locs ∧ lv_has ls 2 [(0, .ref h1), (1, .int (nI k))]) ?_ (n - 0) (0) ⟨⟨Nat.zero_le _, rfl⟩, hP, hD, hS, lv_sub hl [1, 0] rfl⟩
  intro d k H locs ls hI ih
  obtain ⟨⟨hkn, hd⟩, hP, hD, hS, hl⟩ := hI
  refine lv_iload_n hx hb dX1_addUp_9 rfl (lv_at hl 1 rfl) ?_
  refine lv_aload_n hx hb dX1_addUp_10 rfl (lv_at hl 0 rfl) ?_
  refine va_get (D := (dC, dI)) (ci := 1) (v := .int (nI n)) (C := RX1) (T := TX1) (N := 10) hx hb hts in_X1_addUp hown hK hP 0 rfl rfl 5 (by decide) (hts (.fieldLink RX1 33 "BranchLengthsModel" "items" "I") (by decide +kernel)) (fun _ h9 => h9) rfl dX1_addUp_11 ?_
  refine lv_icmp_ge (tgt := 84) hx hb dX1_addUp_14 (by decide) (fun hc => ?_) (fun hc => ?_)
  · have hkn' := na_ge (by omega) hkn hc
    subst hkn'
    exact W.vret hx hb hr (fun t ht hW => ⟨⟨(), rfl, trivial, by rw [ht]; exact hP, va_K.moved hW.alike hK, hD⟩, hS.F ht⟩) hS.2.2 dX1_addUp_84
  · have hlt := na_nge (by omega) hkn hc
    refine lv_aload_n hx hb dX1_addUp_17 rfl (lv_at hl 0 rfl) ?_
    refine va_get (D := (dC, dI)) (ci := 1) (v := .ref b4) (C := RX1) (T := TX1) (N := 10) hx hb hts in_X1_addUp hown hK hP 0 rfl rfl 3 (by decide) (hts (.fieldLink RX1 20 "BranchLengthsModel" "places" "[I") (by decide +kernel)) (fun _ h9 => h9) rfl dX1_addUp_18 ?_
    refine lv_iload_n hx hb dX1_addUp_21 rfl (lv_at hl 1 rfl) ?_
    refine lv_iconst (v := 1) hx hb dX1_addUp_22 (by decide) ?_
    refine lv_iadd hx hb dX1_addUp_23 ?_
    refine na_eqi (y := nI (k + 1)) (nI_1 k) ?_
    refine lv_aload_n hx hb dX1_addUp_24 rfl (lv_at hl 0 rfl) ?_
    refine va_get (D := (dC, dI)) (ci := 1) (v := .ref b4) (C := RX1) (T := TX1) (N := 10) hx hb hts in_X1_addUp hown hK hP 0 rfl rfl 3 (by decide) (hts (.fieldLink RX1 20 "BranchLengthsModel" "places" "[I") (by decide +kernel)) (fun _ h9 => h9) rfl dX1_addUp_25 ?_
    refine lv_iload_n hx hb dX1_addUp_28 rfl (lv_at hl 1 rfl) ?_
    refine na_iald (k := k) hx hb hK hP 4 0 rfl rfl (by omega) (by decide) dX1_addUp_29 ?_
    refine na_eqi (y := bx_sum (mV g1 g2 g3) k) (mA_at (mV g1 g2 g3) g4 k) ?_
    refine lv_aload_n hx hb dX1_addUp_30 rfl (lv_at hl 0 rfl) ?_
    refine va_get (D := (dC, dI)) (ci := 1) (v := .ref b1) (C := RX1) (T := TX1) (N := 10) hx hb hts in_X1_addUp hown hK hP 0 rfl rfl 0 (by decide) (hts (.fieldLink RX1 9 "BranchLengthsModel" "kinds" "[I") (by decide +kernel)) (fun _ h9 => h9) rfl dX1_addUp_31 ?_
    refine lv_iload_n hx hb dX1_addUp_34 rfl (lv_at hl 1 rfl) ?_
    refine na_iald (k := k) hx hb hK hP 1 0 rfl rfl (by omega) (by decide) dX1_addUp_35 ?_
    refine lv_if_ne (tgt := 48) hx hb dX1_addUp_36 (by decide) (fun hc2 => ?_) (fun hc2 => ?_)
    · refine lv_aload_n hx hb dX1_addUp_48 rfl (lv_at hl 0 rfl) ?_
      refine va_get (D := (dC, dI)) (ci := 1) (v := .ref b1) (C := RX1) (T := TX1) (N := 10) hx hb hts in_X1_addUp hown hK hP 0 rfl rfl 0 (by decide) (hts (.fieldLink RX1 9 "BranchLengthsModel" "kinds" "[I") (by decide +kernel)) (fun _ h9 => h9) rfl dX1_addUp_49 ?_
      refine lv_iload_n hx hb dX1_addUp_52 rfl (lv_at hl 1 rfl) ?_
      refine na_iald (k := k) hx hb hK hP 1 0 rfl rfl (by omega) (by decide) dX1_addUp_53 ?_
      refine lv_iconst (v := 1) hx hb dX1_addUp_54 (by decide) ?_
      refine lv_icmp_ne (tgt := 62) hx hb dX1_addUp_55 (by decide) (fun hc3 => ?_) (fun hc3 => ?_)
      · refine lv_aload_n hx hb dX1_addUp_62 rfl (lv_at hl 0 rfl) ?_
        refine va_get (D := (dC, dI)) (ci := 1) (v := .ref b3) (C := RX1) (T := TX1) (N := 10) hx hb hts in_X1_addUp hown hK hP 0 rfl rfl 2 (by decide) (hts (.fieldLink RX1 16 "BranchLengthsModel" "longOnes" "[Z") (by decide +kernel)) (fun _ h9 => h9) rfl dX1_addUp_63 ?_
        refine lv_iload_n hx hb dX1_addUp_66 rfl (lv_at hl 1 rfl) ?_
        refine na_zald (k := k) hx hb hK hP 3 1 rfl rfl (by omega) (by decide) dX1_addUp_67 ?_
        refine lv_if_eq (tgt := 75) hx hb dX1_addUp_68 (by decide) (fun hc4 => ?_) (fun hc4 => ?_)
        · have hv : mV g1 g2 g3 k = 1 := (if_neg hc2).trans ((if_neg hc3).trans (if_pos hc4))
          refine lv_iconst (v := 1) hx hb dX1_addUp_75 (by decide) ?_
          refine lv_iadd hx hb dX1_addUp_76 ?_
          refine na_eqi (y := bx_sum (mV g1 g2 g3) (k + 1)) (by show _ = bx_sum (mV g1 g2 g3) k + mV g1 g2 g3 k; rw [hv]) ?_
          refine na_iast (k := (k + 1)) hx hb hK hP hD hS 4 0 rfl rfl (by omega) (by decide) (mA (mV g1 g2 g3) g4 (k + 1)) (mA_s (mV g1 g2 g3) g4 k) dX1_addUp_77 (fun H locs hP hD hS => ?_)
          have hP : va_P (dC, dI) vwCl [(h1, .inr (1, [.ref b1, .ref b2, .ref b3, .ref b4, .ref b5, .int (nI n), .int mk, .int re, .int le, .int la])), (b1, .inl (cA, 2000, .inl g1)), (b2, .inl (cA, 2000, .inl g2)), (b3, .inl (cZ, 2000, .inl g3)), (b4, .inl (cA, 2001, .inl (mA (mV g1 g2 g3) g4 (k + 1)))), (b5, .inl (cA, 2000, .inl g5))] H := hP
          have hD : va_D A [(h1, .inr (1, [.ref b1, .ref b2, .ref b3, .ref b4, .ref b5, .int (nI n), .int mk, .int re, .int le, .int la])), (b1, .inl (cA, 2000, .inl g1)), (b2, .inl (cA, 2000, .inl g2)), (b3, .inl (cZ, 2000, .inl g3)), (b4, .inl (cA, 2001, .inl (mA (mV g1 g2 g3) g4 (k + 1)))), (b5, .inl (cA, 2000, .inl g5))] := hD
          refine lv_iinc (v := nI (k + 1)) (lv' := [(1, .int (nI (k + 1))), (0, .ref h1)]) hx hb dX1_addUp_78 hl (k := 1) rfl (nI_1 _) (by decide) rfl (fun ls hl => ?_)
          refine lv_goto (tgt := 9) hx hb dX1_addUp_81 (by decide) ?_
          exact ih (n - (k + 1)) (k + 1) _ _ _ (by omega) ⟨⟨by omega, rfl⟩, hP, hD, hS, lv_sub hl [1, 0] rfl⟩
        · have hv : mV g1 g2 g3 k = 2 := (if_neg hc2).trans ((if_neg hc3).trans (if_neg hc4))
          refine lv_iconst (v := 2) hx hb dX1_addUp_71 (by decide) ?_
          refine lv_goto (tgt := 76) hx hb dX1_addUp_72 (by decide) ?_
          refine lv_iadd hx hb dX1_addUp_76 ?_
          refine na_eqi (y := bx_sum (mV g1 g2 g3) (k + 1)) (by show _ = bx_sum (mV g1 g2 g3) k + mV g1 g2 g3 k; rw [hv]) ?_
          refine na_iast (k := (k + 1)) hx hb hK hP hD hS 4 0 rfl rfl (by omega) (by decide) (mA (mV g1 g2 g3) g4 (k + 1)) (mA_s (mV g1 g2 g3) g4 k) dX1_addUp_77 (fun H locs hP hD hS => ?_)
          have hP : va_P (dC, dI) vwCl [(h1, .inr (1, [.ref b1, .ref b2, .ref b3, .ref b4, .ref b5, .int (nI n), .int mk, .int re, .int le, .int la])), (b1, .inl (cA, 2000, .inl g1)), (b2, .inl (cA, 2000, .inl g2)), (b3, .inl (cZ, 2000, .inl g3)), (b4, .inl (cA, 2001, .inl (mA (mV g1 g2 g3) g4 (k + 1)))), (b5, .inl (cA, 2000, .inl g5))] H := hP
          have hD : va_D A [(h1, .inr (1, [.ref b1, .ref b2, .ref b3, .ref b4, .ref b5, .int (nI n), .int mk, .int re, .int le, .int la])), (b1, .inl (cA, 2000, .inl g1)), (b2, .inl (cA, 2000, .inl g2)), (b3, .inl (cZ, 2000, .inl g3)), (b4, .inl (cA, 2001, .inl (mA (mV g1 g2 g3) g4 (k + 1)))), (b5, .inl (cA, 2000, .inl g5))] := hD
          refine lv_iinc (v := nI (k + 1)) (lv' := [(1, .int (nI (k + 1))), (0, .ref h1)]) hx hb dX1_addUp_78 hl (k := 1) rfl (nI_1 _) (by decide) rfl (fun ls hl => ?_)
          refine lv_goto (tgt := 9) hx hb dX1_addUp_81 (by decide) ?_
          exact ih (n - (k + 1)) (k + 1) _ _ _ (by omega) ⟨⟨by omega, rfl⟩, hP, hD, hS, lv_sub hl [1, 0] rfl⟩
      · have hv : mV g1 g2 g3 k = 0 := (if_neg hc2).trans (if_pos hc3)
        refine lv_iconst (v := 0) hx hb dX1_addUp_58 (by decide) ?_
        refine lv_goto (tgt := 76) hx hb dX1_addUp_59 (by decide) ?_
        refine lv_iadd hx hb dX1_addUp_76 ?_
        refine na_eqi (y := bx_sum (mV g1 g2 g3) (k + 1)) (by show _ = bx_sum (mV g1 g2 g3) k + mV g1 g2 g3 k; rw [hv]) ?_
        refine na_iast (k := (k + 1)) hx hb hK hP hD hS 4 0 rfl rfl (by omega) (by decide) (mA (mV g1 g2 g3) g4 (k + 1)) (mA_s (mV g1 g2 g3) g4 k) dX1_addUp_77 (fun H locs hP hD hS => ?_)
        have hP : va_P (dC, dI) vwCl [(h1, .inr (1, [.ref b1, .ref b2, .ref b3, .ref b4, .ref b5, .int (nI n), .int mk, .int re, .int le, .int la])), (b1, .inl (cA, 2000, .inl g1)), (b2, .inl (cA, 2000, .inl g2)), (b3, .inl (cZ, 2000, .inl g3)), (b4, .inl (cA, 2001, .inl (mA (mV g1 g2 g3) g4 (k + 1)))), (b5, .inl (cA, 2000, .inl g5))] H := hP
        have hD : va_D A [(h1, .inr (1, [.ref b1, .ref b2, .ref b3, .ref b4, .ref b5, .int (nI n), .int mk, .int re, .int le, .int la])), (b1, .inl (cA, 2000, .inl g1)), (b2, .inl (cA, 2000, .inl g2)), (b3, .inl (cZ, 2000, .inl g3)), (b4, .inl (cA, 2001, .inl (mA (mV g1 g2 g3) g4 (k + 1)))), (b5, .inl (cA, 2000, .inl g5))] := hD
        refine lv_iinc (v := nI (k + 1)) (lv' := [(1, .int (nI (k + 1))), (0, .ref h1)]) hx hb dX1_addUp_78 hl (k := 1) rfl (nI_1 _) (by decide) rfl (fun ls hl => ?_)
        refine lv_goto (tgt := 9) hx hb dX1_addUp_81 (by decide) ?_
        exact ih (n - (k + 1)) (k + 1) _ _ _ (by omega) ⟨⟨by omega, rfl⟩, hP, hD, hS, lv_sub hl [1, 0] rfl⟩
    · have hv : mV g1 g2 g3 k = g2 k := if_pos hc2
      refine lv_aload_n hx hb dX1_addUp_39 rfl (lv_at hl 0 rfl) ?_
      refine va_get (D := (dC, dI)) (ci := 1) (v := .ref b2) (C := RX1) (T := TX1) (N := 10) hx hb hts in_X1_addUp hown hK hP 0 rfl rfl 1 (by decide) (hts (.fieldLink RX1 13 "BranchLengthsModel" "numbers" "[I") (by decide +kernel)) (fun _ h9 => h9) rfl dX1_addUp_40 ?_
      refine lv_iload_n hx hb dX1_addUp_43 rfl (lv_at hl 1 rfl) ?_
      refine na_iald (k := k) hx hb hK hP 2 0 rfl rfl (by omega) (by decide) dX1_addUp_44 ?_
      refine lv_goto (tgt := 76) hx hb dX1_addUp_45 (by decide) ?_
      refine lv_iadd hx hb dX1_addUp_76 ?_
      refine na_eqi (y := bx_sum (mV g1 g2 g3) (k + 1)) (by show _ = bx_sum (mV g1 g2 g3) k + mV g1 g2 g3 k; rw [hv]) ?_
      refine na_iast (k := (k + 1)) hx hb hK hP hD hS 4 0 rfl rfl (by omega) (by decide) (mA (mV g1 g2 g3) g4 (k + 1)) (mA_s (mV g1 g2 g3) g4 k) dX1_addUp_77 (fun H locs hP hD hS => ?_)
      have hP : va_P (dC, dI) vwCl [(h1, .inr (1, [.ref b1, .ref b2, .ref b3, .ref b4, .ref b5, .int (nI n), .int mk, .int re, .int le, .int la])), (b1, .inl (cA, 2000, .inl g1)), (b2, .inl (cA, 2000, .inl g2)), (b3, .inl (cZ, 2000, .inl g3)), (b4, .inl (cA, 2001, .inl (mA (mV g1 g2 g3) g4 (k + 1)))), (b5, .inl (cA, 2000, .inl g5))] H := hP
      have hD : va_D A [(h1, .inr (1, [.ref b1, .ref b2, .ref b3, .ref b4, .ref b5, .int (nI n), .int mk, .int re, .int le, .int la])), (b1, .inl (cA, 2000, .inl g1)), (b2, .inl (cA, 2000, .inl g2)), (b3, .inl (cZ, 2000, .inl g3)), (b4, .inl (cA, 2001, .inl (mA (mV g1 g2 g3) g4 (k + 1)))), (b5, .inl (cA, 2000, .inl g5))] := hD
      refine lv_iinc (v := nI (k + 1)) (lv' := [(1, .int (nI (k + 1))), (0, .ref h1)]) hx hb dX1_addUp_78 hl (k := 1) rfl (nI_1 _) (by decide) rfl (fun ls hl => ?_)
      refine lv_goto (tgt := 9) hx hb dX1_addUp_81 (by decide) ?_
      exact ih (n - (k + 1)) (k + 1) _ _ _ (by omega) ⟨⟨by omega, rfl⟩, hP, hD, hS, lv_sub hl [1, 0] rfl⟩
set_option maxHeartbeats 4000000 in
set_option maxRecDepth 100000 in
/-- reaches(k) -/
theorem m_reaches (l : Launch) (dC : Nat → ClassId) (dI : Nat → Nat → Nat) (cA cZ : ClassId) (h1 b1 b2 b3 b4 b5 sz : Nat) (g1 g2 g3 g4 g5 : Nat → Int32) (n k t q : Nat) (mk re le la : Int32) (hk : k < 2000) (ht : t < 2000) (hq : q < 2000) (e2 : g2 k = nI t) (e5 : g5 t = nI q) : na_Mi (S := Unit) l yX1_reaches wsX1_reaches ({ frames := 0, cells := 0, slots := 0, locals := 0 }) (dC, dI) vwCl [(cA, .int), (cZ, .boolean)] sz [.ref h1, .int (nI k)] [(h1, .inr (1, [.ref b1, .ref b2, .ref b3, .ref b4, .ref b5, .int (nI n), .int mk, .int re, .int le, .int la])), (b1, .inl (cA, 2000, .inl g1)), (b2, .inl (cA, 2000, .inl g2)), (b3, .inl (cZ, 2000, .inl g3)), (b4, .inl (cA, 2001, .inl g4)), (b5, .inl (cA, 2000, .inl g5))] (fun r _ => (r = 1 ∧ mRc g2 g3 g4 g5 re k) ∨ (r = 0 ∧ ¬ mRc g2 g3 g4 g5 re k)) (fun _ => [(h1, .inr (1, [.ref b1, .ref b2, .ref b3, .ref b4, .ref b5, .int (nI n), .int mk, .int re, .int le, .int la])), (b1, .inl (cA, 2000, .inl g1)), (b2, .inl (cA, 2000, .inl g2)), (b3, .inl (cZ, 2000, .inl g3)), (b4, .inl (cA, 2001, .inl g4)), (b5, .inl (cA, 2000, .inl g5))]) := by
  refine Met.ofW (cc := cX1_reaches) (maxL := 3) (ret := (some .boolean)) (by decide) rfl ?_
  intro p e s m args below meth c s₁ B hml hv
  obtain ⟨rfl, hsz, hP, hK, hD0⟩ := hv
  have hx := B.exec
  have hb := B.bytes
  have hr := B.returns
  have hts := atoms_spec (ws := wsX1_reaches) B.pre
  have hown : s.vm.findClass RX1 = some m.cls := findClass_of_methodNamed B.named
  have hlocks := B.notSynchronized
  subst hsz
  have hD := hD0.self (sz := s.heap.size)
  generalize hAe : va_A [(h1, .inr (1, [.ref b1, .ref b2, .ref b3, .ref b4, .ref b5, .int (nI n), .int mk, .int re, .int le, .int la])), (b1, .inl (cA, 2000, .inl g1)), (b2, .inl (cA, 2000, .inl g2)), (b3, .inl (cZ, 2000, .inl g3)), (b4, .inl (cA, 2001, .inl g4)), (b5, .inl (cA, 2000, .inl g5))] s.heap.size = A at hD ⊢
  have hA : ∀ q : Nat, s.heap.size ≤ q → A q := fun q h => by rw [← hAe]; exact Or.inr h
  have hS : va_S A s.heap s.heap [] := va_S.rf
  have hP : va_P (dC, dI) vwCl [(h1, .inr (1, [.ref b1, .ref b2, .ref b3, .ref b4, .ref b5, .int (nI n), .int mk, .int re, .int le, .int la])), (b1, .inl (cA, 2000, .inl g1)), (b2, .inl (cA, 2000, .inl g2)), (b3, .inl (cZ, 2000, .inl g3)), (b4, .inl (cA, 2001, .inl g4)), (b5, .inl (cA, 2000, .inl g5))] s.heap := hP
  have hl := lv_entry ([.ref h1, .int (nI k)]) (n := 3) (Nat.le_of_ble_eq_true rfl)
  rw [lg_entry_eq]
  generalize (lg_sl ([.ref h1, .int (nI k)]) ++ List.replicate (3 - (lg_sl ([.ref h1, .int (nI k)])).length) Slot.unset).toArray = ls at hl ⊢
  have hl : lv_has ls 3 [(0, .ref h1), (1, .int (nI k))] := hl
  have e9 : xTq g2 g5 k = q := by unfold xTq; rw [e2, nI_clamp (by omega), e5, nI_clamp (by omega)]
  refine lv_aload_n hx hb dX1_reaches_0 rfl (lv_at hl 0 rfl) ?_
  refine va_get (D := (dC, dI)) (ci := 1) (v := .ref b4) (C := RX1) (T := TX1) (N := 10) hx hb hts in_X1_reaches hown hK hP 0 rfl rfl 3 (by decide) (hts (.fieldLink RX1 20 "BranchLengthsModel" "places" "[I") (by decide +kernel)) (fun _ h9 => h9) rfl dX1_reaches_1 ?_
  refine lv_aload_n hx hb dX1_reaches_4 rfl (lv_at hl 0 rfl) ?_
  refine va_get (D := (dC, dI)) (ci := 1) (v := .ref b5) (C := RX1) (T := TX1) (N := 10) hx hb hts in_X1_reaches hown hK hP 0 rfl rfl 4 (by decide) (hts (.fieldLink RX1 23 "BranchLengthsModel" "markItems" "[I") (by decide +kernel)) (fun _ h9 => h9) rfl dX1_reaches_5 ?_
  refine lv_aload_n hx hb dX1_reaches_8 rfl (lv_at hl 0 rfl) ?_
  refine va_get (D := (dC, dI)) (ci := 1) (v := .ref b2) (C := RX1) (T := TX1) (N := 10) hx hb hts in_X1_reaches hown hK hP 0 rfl rfl 1 (by decide) (hts (.fieldLink RX1 13 "BranchLengthsModel" "numbers" "[I") (by decide +kernel)) (fun _ h9 => h9) rfl dX1_reaches_9 ?_
  refine lv_iload_n hx hb dX1_reaches_12 rfl (lv_at hl 1 rfl) ?_
  refine na_iald (k := k) hx hb hK hP 2 0 rfl rfl (by omega) (by decide) dX1_reaches_13 ?_
  refine na_eqi (y := nI t) (e2) ?_
  refine na_iald (k := t) hx hb hK hP 5 0 rfl rfl (by omega) (by decide) dX1_reaches_14 ?_
  refine na_eqi (y := nI q) (e5) ?_
  refine na_iald (k := q) hx hb hK hP 4 0 rfl rfl (by omega) (by decide) dX1_reaches_15 ?_
  refine lv_aload_n hx hb dX1_reaches_16 rfl (lv_at hl 0 rfl) ?_
  refine va_get (D := (dC, dI)) (ci := 1) (v := .ref b4) (C := RX1) (T := TX1) (N := 10) hx hb hts in_X1_reaches hown hK hP 0 rfl rfl 3 (by decide) (hts (.fieldLink RX1 20 "BranchLengthsModel" "places" "[I") (by decide +kernel)) (fun _ h9 => h9) rfl dX1_reaches_17 ?_
  refine lv_iload_n hx hb dX1_reaches_20 rfl (lv_at hl 1 rfl) ?_
  refine na_iald (k := k) hx hb hK hP 4 0 rfl rfl (by omega) (by decide) dX1_reaches_21 ?_
  refine lv_isub hx hb dX1_reaches_22 ?_
  refine lv_istore_n (lv' := [(2, .int ((g4 q) - (g4 k))), (0, .ref h1), (1, .int (nI k))]) hx hb dX1_reaches_23 rfl hl (by decide) rfl (fun ls hl => ?_)
  refine lv_aload_n hx hb dX1_reaches_24 rfl (lv_at hl 1 rfl) ?_
  refine va_get (D := (dC, dI)) (ci := 1) (v := .ref b3) (C := RX1) (T := TX1) (N := 10) hx hb hts in_X1_reaches hown hK hP 0 rfl rfl 2 (by decide) (hts (.fieldLink RX1 16 "BranchLengthsModel" "longOnes" "[Z") (by decide +kernel)) (fun _ h9 => h9) rfl dX1_reaches_25 ?_
  refine lv_iload_n hx hb dX1_reaches_28 rfl (lv_at hl 2 rfl) ?_
  refine na_zald (k := k) hx hb hK hP 3 1 rfl rfl (by omega) (by decide) dX1_reaches_29 ?_
  refine lv_if_ne (tgt := 50) hx hb dX1_reaches_30 (by decide) (fun hc0 => ?_) (fun hc0 => ?_)
  · refine lv_iconst (v := 1) hx hb dX1_reaches_50 (by decide) ?_
    refine lv_goto (tgt := 55) hx hb dX1_reaches_51 (by decide) ?_
    exact W.zret (v := 1) hx hb hr rfl (fun t ht hW => ⟨⟨1, (), rfl, Or.inl ⟨rfl, Or.inl hc0⟩, by rw [ht]; exact hP, va_K.moved hW.alike hK, hD⟩, hS.F ht⟩) hS.2.2 dX1_reaches_55
  · refine lv_iload_n hx hb dX1_reaches_33 rfl (lv_at hl 0 rfl) ?_
    refine lv_aload_n hx hb dX1_reaches_34 rfl (lv_at hl 1 rfl) ?_
    refine va_get (D := (dC, dI)) (ci := 1) (v := .int re) (C := RX1) (T := TX1) (N := 10) hx hb hts in_X1_reaches hown hK hP 0 rfl rfl 7 (by decide) (hts (.fieldLink RX1 26 "BranchLengthsModel" "reach" "I") (by decide +kernel)) (fun _ h9 => h9) rfl dX1_reaches_35 ?_
    refine lv_ineg hx hb dX1_reaches_38 ?_
    refine lv_icmp_lt (tgt := 54) hx hb dX1_reaches_39 (by decide) (fun hc1 => ?_) (fun hc1 => ?_)
    · refine lv_iconst (v := 0) hx hb dX1_reaches_54 (by decide) ?_
      exact W.zret (v := 0) hx hb hr rfl (fun t ht hW => ⟨⟨0, (), rfl, Or.inr ⟨rfl, fun z => z.elim (fun y => y hc0) (fun z => by unfold xRs at z; rw [e9, Bool.and_eq_true] at z; exact of_decide_eq_true z.1 hc1)⟩, by rw [ht]; exact hP, va_K.moved hW.alike hK, hD⟩, hS.F ht⟩) hS.2.2 dX1_reaches_55
    · refine lv_iload_n hx hb dX1_reaches_42 rfl (lv_at hl 0 rfl) ?_
      refine lv_aload_n hx hb dX1_reaches_43 rfl (lv_at hl 1 rfl) ?_
      refine va_get (D := (dC, dI)) (ci := 1) (v := .int re) (C := RX1) (T := TX1) (N := 10) hx hb hts in_X1_reaches hown hK hP 0 rfl rfl 7 (by decide) (hts (.fieldLink RX1 26 "BranchLengthsModel" "reach" "I") (by decide +kernel)) (fun _ h9 => h9) rfl dX1_reaches_44 ?_
      refine lv_icmp_gt (tgt := 54) hx hb dX1_reaches_47 (by decide) (fun hc2 => ?_) (fun hc2 => ?_)
      · refine lv_iconst (v := 0) hx hb dX1_reaches_54 (by decide) ?_
        exact W.zret (v := 0) hx hb hr rfl (fun t ht hW => ⟨⟨0, (), rfl, Or.inr ⟨rfl, fun z => z.elim (fun y => y hc0) (fun z => by unfold xRs at z; rw [e9, Bool.and_eq_true] at z; exact of_decide_eq_true z.2 hc2)⟩, by rw [ht]; exact hP, va_K.moved hW.alike hK, hD⟩, hS.F ht⟩) hS.2.2 dX1_reaches_55
      · refine lv_iconst (v := 1) hx hb dX1_reaches_50 (by decide) ?_
        refine lv_goto (tgt := 55) hx hb dX1_reaches_51 (by decide) ?_
        exact W.zret (v := 1) hx hb hr rfl (fun t ht hW => ⟨⟨1, (), rfl, Or.inl ⟨rfl, Or.inr (by unfold xRs; rw [e9, Bool.and_eq_true]; exact ⟨decide_eq_true hc1, decide_eq_true hc2⟩)⟩, by rw [ht]; exact hP, va_K.moved hW.alike hK, hD⟩, hS.F ht⟩) hS.2.2 dX1_reaches_55
set_option maxHeartbeats 4000000 in
set_option maxRecDepth 100000 in
/-- longs() -/
theorem m_longs (l : Launch) (dC : Nat → ClassId) (dI : Nat → Nat → Nat) (cA cZ : ClassId) (h1 b1 b2 b3 b4 b5 sz : Nat) (g1 g2 g3 g4 g5 : Nat → Int32) (n : Nat) (mk re le la : Int32) (hn : n ≤ 2000) : na_Mi (S := Unit) l yX1_longs wsX1_longs ({ frames := 0, cells := 0, slots := 0, locals := 0 }) (dC, dI) vwCl [(cA, .int), (cZ, .boolean)] sz [.ref h1] [(h1, .inr (1, [.ref b1, .ref b2, .ref b3, .ref b4, .ref b5, .int (nI n), .int mk, .int re, .int le, .int la])), (b1, .inl (cA, 2000, .inl g1)), (b2, .inl (cA, 2000, .inl g2)), (b3, .inl (cZ, 2000, .inl g3)), (b4, .inl (cA, 2001, .inl g4)), (b5, .inl (cA, 2000, .inl g5))] (fun r _ => r = if la = 0 then -1 else nI (cnt (fun j => decide (g1 j = 2) && decide (¬ g3 j = 0)) n)) (fun _ => [(h1, .inr (1, [.ref b1, .ref b2, .ref b3, .ref b4, .ref b5, .int (nI n), .int mk, .int re, .int le, .int la])), (b1, .inl (cA, 2000, .inl g1)), (b2, .inl (cA, 2000, .inl g2)), (b3, .inl (cZ, 2000, .inl g3)), (b4, .inl (cA, 2001, .inl g4)), (b5, .inl (cA, 2000, .inl g5))]) := by
  refine Met.ofW (cc := cX1_longs) (maxL := 3) (ret := (some .int)) (by decide) rfl ?_
  intro p e s m args below meth c s₁ B hml hv
  obtain ⟨rfl, hsz, hP, hK, hD0⟩ := hv
  have hx := B.exec
  have hb := B.bytes
  have hr := B.returns
  have hts := atoms_spec (ws := wsX1_longs) B.pre
  have hown : s.vm.findClass RX1 = some m.cls := findClass_of_methodNamed B.named
  have hlocks := B.notSynchronized
  subst hsz
  have hD := hD0.self (sz := s.heap.size)
  generalize hAe : va_A [(h1, .inr (1, [.ref b1, .ref b2, .ref b3, .ref b4, .ref b5, .int (nI n), .int mk, .int re, .int le, .int la])), (b1, .inl (cA, 2000, .inl g1)), (b2, .inl (cA, 2000, .inl g2)), (b3, .inl (cZ, 2000, .inl g3)), (b4, .inl (cA, 2001, .inl g4)), (b5, .inl (cA, 2000, .inl g5))] s.heap.size = A at hD ⊢
  have hA : ∀ q : Nat, s.heap.size ≤ q → A q := fun q h => by rw [← hAe]; exact Or.inr h
  have hS : va_S A s.heap s.heap [] := va_S.rf
  have hP : va_P (dC, dI) vwCl [(h1, .inr (1, [.ref b1, .ref b2, .ref b3, .ref b4, .ref b5, .int (nI n), .int mk, .int re, .int le, .int la])), (b1, .inl (cA, 2000, .inl g1)), (b2, .inl (cA, 2000, .inl g2)), (b3, .inl (cZ, 2000, .inl g3)), (b4, .inl (cA, 2001, .inl g4)), (b5, .inl (cA, 2000, .inl g5))] s.heap := hP
  have hl := lv_entry ([.ref h1]) (n := 3) (Nat.le_of_ble_eq_true rfl)
  rw [lg_entry_eq]
  generalize (lg_sl ([.ref h1]) ++ List.replicate (3 - (lg_sl ([.ref h1])).length) Slot.unset).toArray = ls at hl ⊢
  have hl : lv_has ls 3 [(0, .ref h1)] := hl
  refine lv_aload_n hx hb dX1_longs_0 rfl (lv_at hl 0 rfl) ?_
  refine va_get (D := (dC, dI)) (ci := 1) (v := .int la) (C := RX1) (T := TX1) (N := 10) hx hb hts in_X1_longs hown hK hP 0 rfl rfl 9 (by decide) (hts (.fieldLink RX1 36 "BranchLengthsModel" "laid" "Z") (by decide +kernel)) (fun _ h9 => h9) rfl dX1_longs_1 ?_
  refine lv_if_ne (tgt := 9) hx hb dX1_longs_4 (by decide) (fun hc1 => ?_) (fun hc1 => ?_)
  · refine lv_iconst (v := nI (cnt (fun j => decide (g1 j = 2) && decide (¬ g3 j = 0)) 0)) hx hb dX1_longs_9 rfl ?_
    refine lv_istore_n (lv' := [(1, .int (nI (cnt (fun j => decide (g1 j = 2) && decide (¬ g3 j = 0)) 0))), (0, .ref h1)]) hx hb dX1_longs_10 rfl hl (by decide) rfl (fun ls hl => ?_)
    refine lv_iconst (v := nI 0) hx hb dX1_longs_11 (by decide) ?_
    refine lv_istore_n (lv' := [(2, .int (nI 0)), (1, .int (nI (cnt (fun j => decide (g1 j = 2) && decide (¬ g3 j = 0)) 0))), (0, .ref h1)]) hx hb dX1_longs_12 rfl hl (by decide) rfl (fun ls hl => ?_)
    refine na_loop (pc := 13) (fun (d : Nat) (k : Nat) (H : Heap) (locs : List Loc) (ls : Array Slot) => (k ≤ n ∧ d = n - k) ∧ va_P (dC, dI) vwCl [(h1, .inr (1, [.ref b1, .ref b2, .ref b3, .ref b4, .ref b5, .int (nI n), .int mk, .int re, .int le, .int la])), (b1, .inl (cA, 2000, .inl g1)), (b2, .inl (cA, 2000, .inl g2)), (b3, .inl (cZ, 2000, .inl g3)), (b4, .inl (cA, 2001, .inl g4)), (b5, .inl (cA, 2000, .inl g5))] H ∧ va_D A [(h1, .inr (1, [.ref b1, .ref b2, .ref b3, .ref b4, .ref b5, .int (nI n), .int mk, .int re, .int le, .int la])), (b1, .inl (cA, 2000, .inl g1)), (b2, .inl (cA, 2000, .inl g2)), (b3, .inl (cZ, 2000, .inl g3)), (b4, .inl (cA, 2001, .inl g4)), (b5, .inl (cA, 2000, .inl g5))] ∧ va_S A s.heap H locs ∧ lv_has ls 3 [(0, .ref h1), (1, .int (nI (cnt (fun j => decide (g1 j = 2) && decide (¬ g3 j = 0)) k))), (2, .int (nI k))]) ?_ (n - 0) (0) ⟨⟨Nat.zero_le _, rfl⟩, hP, hD, hS, lv_sub hl [2, 1, 0] rfl⟩
    intro d k H locs ls hI ih
    obtain ⟨⟨hkn, hd⟩, hP, hD, hS, hl⟩ := hI
    refine lv_iload_n hx hb dX1_longs_13 rfl (lv_at hl 2 rfl) ?_
    refine lv_aload_n hx hb dX1_longs_14 rfl (lv_at hl 0 rfl) ?_
    refine va_get (D := (dC, dI)) (ci := 1) (v := .int (nI n)) (C := RX1) (T := TX1) (N := 10) hx hb hts in_X1_longs hown hK hP 0 rfl rfl 5 (by decide) (hts (.fieldLink RX1 33 "BranchLengthsModel" "items" "I") (by decide +kernel)) (fun _ h9 => h9) rfl dX1_longs_15 ?_
    refine lv_icmp_ge (tgt := 49) hx hb dX1_longs_18 (by decide) (fun hc => ?_) (fun hc => ?_)
    · have hkn' := na_ge (by omega) hkn hc
      subst hkn'
      refine lv_iload_n hx hb dX1_longs_49 rfl (lv_at hl 1 rfl) ?_
      exact W.iret (v := (nI (cnt (fun j => decide (g1 j = 2) && decide (¬ g3 j = 0)) n))) hx hb hr (fun t ht hW => ⟨⟨(nI (cnt (fun j => decide (g1 j = 2) && decide (¬ g3 j = 0)) n)), (), rfl, (if_neg hc1).symm, by rw [ht]; exact hP, va_K.moved hW.alike hK, hD⟩, hS.F ht⟩) hS.2.2 dX1_longs_50
    · have hlt := na_nge (by omega) hkn hc
      refine lv_aload_n hx hb dX1_longs_21 rfl (lv_at hl 0 rfl) ?_
      refine va_get (D := (dC, dI)) (ci := 1) (v := .ref b1) (C := RX1) (T := TX1) (N := 10) hx hb hts in_X1_longs hown hK hP 0 rfl rfl 0 (by decide) (hts (.fieldLink RX1 9 "BranchLengthsModel" "kinds" "[I") (by decide +kernel)) (fun _ h9 => h9) rfl dX1_longs_22 ?_
      refine lv_iload_n hx hb dX1_longs_25 rfl (lv_at hl 2 rfl) ?_
      refine na_iald (k := k) hx hb hK hP 1 0 rfl rfl (by omega) (by decide) dX1_longs_26 ?_
      refine lv_iconst (v := 2) hx hb dX1_longs_27 (by decide) ?_
      refine lv_icmp_ne (tgt := 43) hx hb dX1_longs_28 (by decide) (fun hc3 => ?_) (fun hc3 => ?_)
      · have ec : cnt (fun j => decide (g1 j = 2) && decide (¬ g3 j = 0)) k = cnt (fun j => decide (g1 j = 2) && decide (¬ g3 j = 0)) (k + 1) := (cnt_n (fun q => by rw [Bool.and_eq_true] at q; exact hc3 (of_decide_eq_true q.1))).symm
        refine lv_iinc (v := nI (k + 1)) (lv' := [(2, .int (nI (k + 1))), (0, .ref h1), (1, .int (nI (cnt (fun j => decide (g1 j = 2) && decide (¬ g3 j = 0)) k)))]) hx hb dX1_longs_43 hl (k := 2) rfl (nI_1 _) (by decide) rfl (fun ls hl => ?_)
        refine lv_goto (tgt := 13) hx hb dX1_longs_46 (by decide) ?_
        rw [ec] at hl
        exact ih (n - (k + 1)) (k + 1) _ _ _ (by omega) ⟨⟨by omega, rfl⟩, hP, hD, hS, lv_sub hl [1, 2, 0] rfl⟩
      · refine lv_aload_n hx hb dX1_longs_31 rfl (lv_at hl 0 rfl) ?_
        refine va_get (D := (dC, dI)) (ci := 1) (v := .ref b3) (C := RX1) (T := TX1) (N := 10) hx hb hts in_X1_longs hown hK hP 0 rfl rfl 2 (by decide) (hts (.fieldLink RX1 16 "BranchLengthsModel" "longOnes" "[Z") (by decide +kernel)) (fun _ h9 => h9) rfl dX1_longs_32 ?_
        refine lv_iload_n hx hb dX1_longs_35 rfl (lv_at hl 2 rfl) ?_
        refine na_zald (k := k) hx hb hK hP 3 1 rfl rfl (by omega) (by decide) dX1_longs_36 ?_
        refine lv_if_eq (tgt := 43) hx hb dX1_longs_37 (by decide) (fun hc4 => ?_) (fun hc4 => ?_)
        · have ec : cnt (fun j => decide (g1 j = 2) && decide (¬ g3 j = 0)) k = cnt (fun j => decide (g1 j = 2) && decide (¬ g3 j = 0)) (k + 1) := (cnt_n (fun q => by rw [Bool.and_eq_true] at q; exact of_decide_eq_true q.2 hc4)).symm
          refine lv_iinc (v := nI (k + 1)) (lv' := [(2, .int (nI (k + 1))), (0, .ref h1), (1, .int (nI (cnt (fun j => decide (g1 j = 2) && decide (¬ g3 j = 0)) k)))]) hx hb dX1_longs_43 hl (k := 2) rfl (nI_1 _) (by decide) rfl (fun ls hl => ?_)
          refine lv_goto (tgt := 13) hx hb dX1_longs_46 (by decide) ?_
          rw [ec] at hl
          exact ih (n - (k + 1)) (k + 1) _ _ _ (by omega) ⟨⟨by omega, rfl⟩, hP, hD, hS, lv_sub hl [1, 2, 0] rfl⟩
        · have ec : cnt (fun j => decide (g1 j = 2) && decide (¬ g3 j = 0)) k + 1 = cnt (fun j => decide (g1 j = 2) && decide (¬ g3 j = 0)) (k + 1) := (cnt_s (by rw [Bool.and_eq_true]; exact ⟨decide_eq_true hc3, decide_eq_true hc4⟩)).symm
          refine lv_iinc (v := nI (cnt (fun j => decide (g1 j = 2) && decide (¬ g3 j = 0)) k + 1)) (lv' := [(1, .int (nI (cnt (fun j => decide (g1 j = 2) && decide (¬ g3 j = 0)) k + 1))), (0, .ref h1), (2, .int (nI k))]) hx hb dX1_longs_40 hl (k := 1) rfl (nI_1 _) (by decide) rfl (fun ls hl => ?_)
          refine lv_iinc (v := nI (k + 1)) (lv' := [(2, .int (nI (k + 1))), (1, .int (nI (cnt (fun j => decide (g1 j = 2) && decide (¬ g3 j = 0)) k + 1))), (0, .ref h1)]) hx hb dX1_longs_43 hl (k := 2) rfl (nI_1 _) (by decide) rfl (fun ls hl => ?_)
          refine lv_goto (tgt := 13) hx hb dX1_longs_46 (by decide) ?_
          rw [ec] at hl
          exact ih (n - (k + 1)) (k + 1) _ _ _ (by omega) ⟨⟨by omega, rfl⟩, hP, hD, hS, lv_sub hl [2, 1, 0] rfl⟩
  · refine lv_iconst (v := -1) hx hb dX1_longs_7 (by decide) ?_
    exact W.iret (v := (-1)) hx hb hr (fun t ht hW => ⟨⟨(-1), (), rfl, (if_pos hc1).symm, by rw [ht]; exact hP, va_K.moved hW.alike hK, hD⟩, hS.F ht⟩) hS.2.2 dX1_longs_8
set_option maxHeartbeats 4000000 in
set_option maxRecDepth 100000 in
/-- BranchLengthsModel() -/
theorem m_init (l : Launch) (dC : Nat → ClassId) (dI : Nat → Nat → Nat) (h0 sz : Nat) : Met l yX1_init wsX1_init ({ frames := 1, cells := 5, slots := 10001, locals := 12 }) (va_Pc [.ref h0] (na_Pre (dC, dI) vwCl sz [(h0, .inr (1, [.null, .null, .null, .null, .null, .int 0, .int 0, .int 0, .int 0, .int 0]))] [])) (va_Qv (fun (_ : Unit) => True) (fun _ t => ∃ (b1 b2 b3 b4 b5 : Nat) (cA cZ : ClassId), na_End (dC, dI) vwCl (va_A [(h0, .inr (1, [.null, .null, .null, .null, .null, .int 0, .int 0, .int 0, .int 0, .int 0]))] sz) [(h0, .inr (1, [.ref b1, .ref b2, .ref b3, .ref b4, .ref b5, .int (nI 0), .int (nI 0), .int (nI 1000), .int (-1), .int 0])), (b1, .inl (cA, 2000, .inl (fun _ => 0))), (b2, .inl (cA, 2000, .inl (fun _ => 0))), (b3, .inl (cZ, 2000, .inl (fun _ => 0))), (b4, .inl (cA, 2001, .inl (fun _ => 0))), (b5, .inl (cA, 2000, .inl (fun _ => 0)))] [(cA, .int), (cZ, .boolean)] t) (va_A [(h0, .inr (1, [.null, .null, .null, .null, .null, .int 0, .int 0, .int 0, .int 0, .int 0]))] sz)) 5 10001 (va_A [(h0, .inr (1, [.null, .null, .null, .null, .null, .int 0, .int 0, .int 0, .int 0, .int 0]))] sz) := by
  refine Met.ofW (cc := cX1_init) (maxL := 1) (ret := none) (by decide) rfl ?_
  intro p e s m args below meth c s₁ B hml hv
  obtain ⟨rfl, hsz, hP, hK, hD0⟩ := hv
  have hx := B.exec
  have hb := B.bytes
  have hr := B.returns
  have hts := atoms_spec (ws := wsX1_init) B.pre
  have hown : s.vm.findClass RX1 = some m.cls := findClass_of_methodNamed B.named
  have hlocks := B.notSynchronized
  have hin : meth.name = "<init>" := (name_of_methodNamed B.named B.method).1
  subst hsz
  have hD := hD0.self (sz := s.heap.size)
  generalize hAe : va_A [(h0, .inr (1, [.null, .null, .null, .null, .null, .int 0, .int 0, .int 0, .int 0, .int 0]))] s.heap.size = A at hD ⊢
  have hA : ∀ q : Nat, s.heap.size ≤ q → A q := fun q h => by rw [← hAe]; exact Or.inr h
  have hS : va_S A s.heap s.heap [] := va_S.rf
  have hP : va_P (dC, dI) vwCl [(h0, .inr (1, [.null, .null, .null, .null, .null, .int 0, .int 0, .int 0, .int 0, .int 0]))] s.heap := hP
  have hl := lv_entry ([.ref h0]) (n := 1) (Nat.le_of_ble_eq_true rfl)
  rw [lg_entry_eq]
  generalize (lg_sl ([.ref h0]) ++ List.replicate (1 - (lg_sl ([.ref h0])).length) Slot.unset).toArray = ls at hl ⊢
  have hl : lv_has ls 1 [(0, .ref h0)] := hl
  refine lv_aload_n hx hb dX1_init_0 rfl (lv_at hl 0 rfl) ?_
  refine W.objInit hx hb hown (hts (.methodLink RX1 1 objectInit) (by decide +kernel)) (hts (.instanceMethod objectInit) (by decide +kernel)) (hts _ (List.mem_cons_of_mem _ (List.mem_append_left _ (List.mem_of_getElem? (i := 2) rfl)))) rfl (by rw [hml]; exact hl.1) rfl dX1_init_1 (Nat.le_of_ble_eq_true rfl) (Nat.le_of_ble_eq_true rfl) ?_
  refine W.eq (g2 := F0 m 4 ls []) rfl ?_
  refine lv_aload_n hx hb dX1_init_4 rfl (lv_at hl 0 rfl) ?_
  refine lv_sipush (v := 2000) hx hb dX1_init_5 (by decide) ?_
  refine va_newa (atype := .int) (n := 2000) (ty := .int) (N' := 2000) (a0 := (2000, .inl (fun _ => 0))) hx hb (hts (.arrayClass .int) (by decide +kernel)) rfl hK hP hD hS hA (fun _ => na_zero_I) (by decide) (by decide) (by decide) (show 0 + 1 ≤ 5 by omega) (show 0 + 2000 ≤ 10001 by omega) dX1_init_8 (fun b1 c_b1 H hK hP hD hS => ?_)
  have hP : va_P (dC, dI) vwCl [(h0, .inr (1, [.null, .null, .null, .null, .null, .int 0, .int 0, .int 0, .int 0, .int 0])), (b1, .inl (c_b1, 2000, .inl (fun _ => 0)))] H := hP
  have hD : va_D A [(h0, .inr (1, [.null, .null, .null, .null, .null, .int 0, .int 0, .int 0, .int 0, .int 0])), (b1, .inl (c_b1, 2000, .inl (fun _ => 0)))] := hD
  have hK : va_K (dC, dI) vwCl [(c_b1, .int)] s := hK
  refine W.widen (k := 1) (n := 2000) (by omega) (by omega) ?_
  refine va_putF (D := (dC, dI)) (ci := 1) (v := .ref b1) (ty := .array .int) (C := RX1) (T := TX1) (N := 10) hx hb hts in_X1_init tyX1 tyX1_ok nmX1 hown hK hP hD hS 0 rfl rfl 0 (by decide) (hts (.fieldLink RX1 9 "BranchLengthsModel" "kinds" "[I") (by decide +kernel)) (fun _ h9 => h9) rfl hin rfl (by decide +kernel) rfl rfl (Nat.le_of_ble_eq_true rfl) dX1_init_10 (fun H locs hP hD hS => ?_)
  have hP : va_P (dC, dI) vwCl [(h0, .inr (1, [.ref b1, .null, .null, .null, .null, .int 0, .int 0, .int 0, .int 0, .int 0])), (b1, .inl (c_b1, 2000, .inl (fun _ => 0)))] H := hP
  have hD : va_D A [(h0, .inr (1, [.ref b1, .null, .null, .null, .null, .int 0, .int 0, .int 0, .int 0, .int 0])), (b1, .inl (c_b1, 2000, .inl (fun _ => 0)))] := hD
  refine lv_aload_n hx hb dX1_init_13 rfl (lv_at hl 0 rfl) ?_
  refine lv_sipush (v := 2000) hx hb dX1_init_14 (by decide) ?_
  refine va_newa (atype := .int) (n := 2000) (ty := .int) (N' := 2000) (a0 := (2000, .inl (fun _ => 0))) hx hb (hts (.arrayClass .int) (by decide +kernel)) rfl hK hP hD hS hA (fun _ => na_zero_I) (by decide) (by decide) (by decide) (show 1 + 1 ≤ 5 by omega) (show 2000 + 2000 ≤ 10001 by omega) dX1_init_17 (fun b2 c_b2 H hK hP hD hS => ?_)
  have hP : va_P (dC, dI) vwCl [(h0, .inr (1, [.ref b1, .null, .null, .null, .null, .int 0, .int 0, .int 0, .int 0, .int 0])), (b1, .inl (c_b1, 2000, .inl (fun _ => 0))), (b2, .inl (c_b2, 2000, .inl (fun _ => 0)))] H := hP
  have hD : va_D A [(h0, .inr (1, [.ref b1, .null, .null, .null, .null, .int 0, .int 0, .int 0, .int 0, .int 0])), (b1, .inl (c_b1, 2000, .inl (fun _ => 0))), (b2, .inl (c_b2, 2000, .inl (fun _ => 0)))] := hD
  have hK : va_K (dC, dI) vwCl [(c_b1, .int), (c_b2, .int)] s := hK
  refine W.widen (k := 2) (n := 4000) (by omega) (by omega) ?_
  refine va_putF (D := (dC, dI)) (ci := 1) (v := .ref b2) (ty := .array .int) (C := RX1) (T := TX1) (N := 10) hx hb hts in_X1_init tyX1 tyX1_ok nmX1 hown hK hP hD hS 0 rfl rfl 1 (by decide) (hts (.fieldLink RX1 13 "BranchLengthsModel" "numbers" "[I") (by decide +kernel)) (fun _ h9 => h9) rfl hin rfl (by decide +kernel) rfl rfl (Nat.le_of_ble_eq_true rfl) dX1_init_19 (fun H locs hP hD hS => ?_)
  have hP : va_P (dC, dI) vwCl [(h0, .inr (1, [.ref b1, .ref b2, .null, .null, .null, .int 0, .int 0, .int 0, .int 0, .int 0])), (b1, .inl (c_b1, 2000, .inl (fun _ => 0))), (b2, .inl (c_b2, 2000, .inl (fun _ => 0)))] H := hP
  have hD : va_D A [(h0, .inr (1, [.ref b1, .ref b2, .null, .null, .null, .int 0, .int 0, .int 0, .int 0, .int 0])), (b1, .inl (c_b1, 2000, .inl (fun _ => 0))), (b2, .inl (c_b2, 2000, .inl (fun _ => 0)))] := hD
  refine lv_aload_n hx hb dX1_init_22 rfl (lv_at hl 0 rfl) ?_
  refine lv_sipush (v := 2000) hx hb dX1_init_23 (by decide) ?_
  refine va_newa (atype := .boolean) (n := 2000) (ty := .boolean) (N' := 2000) (a0 := (2000, .inl (fun _ => 0))) hx hb (hts (.arrayClass .boolean) (by decide +kernel)) rfl hK hP hD hS hA (fun _ => na_zero_Z) (by decide) (by decide) (by decide) (show 2 + 1 ≤ 5 by omega) (show 4000 + 2000 ≤ 10001 by omega) dX1_init_26 (fun b3 c_b3 H hK hP hD hS => ?_)
  have hP : va_P (dC, dI) vwCl [(h0, .inr (1, [.ref b1, .ref b2, .null, .null, .null, .int 0, .int 0, .int 0, .int 0, .int 0])), (b1, .inl (c_b1, 2000, .inl (fun _ => 0))), (b2, .inl (c_b2, 2000, .inl (fun _ => 0))), (b3, .inl (c_b3, 2000, .inl (fun _ => 0)))] H := hP
  have hD : va_D A [(h0, .inr (1, [.ref b1, .ref b2, .null, .null, .null, .int 0, .int 0, .int 0, .int 0, .int 0])), (b1, .inl (c_b1, 2000, .inl (fun _ => 0))), (b2, .inl (c_b2, 2000, .inl (fun _ => 0))), (b3, .inl (c_b3, 2000, .inl (fun _ => 0)))] := hD
  have hK : va_K (dC, dI) vwCl [(c_b1, .int), (c_b2, .int), (c_b3, .boolean)] s := hK
  refine W.widen (k := 3) (n := 6000) (by omega) (by omega) ?_
  refine va_putF (D := (dC, dI)) (ci := 1) (v := .ref b3) (ty := .array .boolean) (C := RX1) (T := TX1) (N := 10) hx hb hts in_X1_init tyX1 tyX1_ok nmX1 hown hK hP hD hS 0 rfl rfl 2 (by decide) (hts (.fieldLink RX1 16 "BranchLengthsModel" "longOnes" "[Z") (by decide +kernel)) (fun _ h9 => h9) rfl hin rfl (by decide +kernel) rfl rfl (Nat.le_of_ble_eq_true rfl) dX1_init_28 (fun H locs hP hD hS => ?_)
  have hP : va_P (dC, dI) vwCl [(h0, .inr (1, [.ref b1, .ref b2, .ref b3, .null, .null, .int 0, .int 0, .int 0, .int 0, .int 0])), (b1, .inl (c_b1, 2000, .inl (fun _ => 0))), (b2, .inl (c_b2, 2000, .inl (fun _ => 0))), (b3, .inl (c_b3, 2000, .inl (fun _ => 0)))] H := hP
  have hD : va_D A [(h0, .inr (1, [.ref b1, .ref b2, .ref b3, .null, .null, .int 0, .int 0, .int 0, .int 0, .int 0])), (b1, .inl (c_b1, 2000, .inl (fun _ => 0))), (b2, .inl (c_b2, 2000, .inl (fun _ => 0))), (b3, .inl (c_b3, 2000, .inl (fun _ => 0)))] := hD
  refine lv_aload_n hx hb dX1_init_31 rfl (lv_at hl 0 rfl) ?_
  refine lv_sipush (v := 2001) hx hb dX1_init_32 (by decide) ?_
  refine va_newa (atype := .int) (n := 2001) (ty := .int) (N' := 2001) (a0 := (2001, .inl (fun _ => 0))) hx hb (hts (.arrayClass .int) (by decide +kernel)) rfl hK hP hD hS hA (fun _ => na_zero_I) (by decide) (by decide) (by decide) (show 3 + 1 ≤ 5 by omega) (show 6000 + 2001 ≤ 10001 by omega) dX1_init_35 (fun b4 c_b4 H hK hP hD hS => ?_)
  have hP : va_P (dC, dI) vwCl [(h0, .inr (1, [.ref b1, .ref b2, .ref b3, .null, .null, .int 0, .int 0, .int 0, .int 0, .int 0])), (b1, .inl (c_b1, 2000, .inl (fun _ => 0))), (b2, .inl (c_b2, 2000, .inl (fun _ => 0))), (b3, .inl (c_b3, 2000, .inl (fun _ => 0))), (b4, .inl (c_b4, 2001, .inl (fun _ => 0)))] H := hP
  have hD : va_D A [(h0, .inr (1, [.ref b1, .ref b2, .ref b3, .null, .null, .int 0, .int 0, .int 0, .int 0, .int 0])), (b1, .inl (c_b1, 2000, .inl (fun _ => 0))), (b2, .inl (c_b2, 2000, .inl (fun _ => 0))), (b3, .inl (c_b3, 2000, .inl (fun _ => 0))), (b4, .inl (c_b4, 2001, .inl (fun _ => 0)))] := hD
  have hK : va_K (dC, dI) vwCl [(c_b1, .int), (c_b2, .int), (c_b3, .boolean), (c_b4, .int)] s := hK
  refine W.widen (k := 4) (n := 8001) (by omega) (by omega) ?_
  refine va_putF (D := (dC, dI)) (ci := 1) (v := .ref b4) (ty := .array .int) (C := RX1) (T := TX1) (N := 10) hx hb hts in_X1_init tyX1 tyX1_ok nmX1 hown hK hP hD hS 0 rfl rfl 3 (by decide) (hts (.fieldLink RX1 20 "BranchLengthsModel" "places" "[I") (by decide +kernel)) (fun _ h9 => h9) rfl hin rfl (by decide +kernel) rfl rfl (Nat.le_of_ble_eq_true rfl) dX1_init_37 (fun H locs hP hD hS => ?_)
  have hP : va_P (dC, dI) vwCl [(h0, .inr (1, [.ref b1, .ref b2, .ref b3, .ref b4, .null, .int 0, .int 0, .int 0, .int 0, .int 0])), (b1, .inl (c_b1, 2000, .inl (fun _ => 0))), (b2, .inl (c_b2, 2000, .inl (fun _ => 0))), (b3, .inl (c_b3, 2000, .inl (fun _ => 0))), (b4, .inl (c_b4, 2001, .inl (fun _ => 0)))] H := hP
  have hD : va_D A [(h0, .inr (1, [.ref b1, .ref b2, .ref b3, .ref b4, .null, .int 0, .int 0, .int 0, .int 0, .int 0])), (b1, .inl (c_b1, 2000, .inl (fun _ => 0))), (b2, .inl (c_b2, 2000, .inl (fun _ => 0))), (b3, .inl (c_b3, 2000, .inl (fun _ => 0))), (b4, .inl (c_b4, 2001, .inl (fun _ => 0)))] := hD
  refine lv_aload_n hx hb dX1_init_40 rfl (lv_at hl 0 rfl) ?_
  refine lv_sipush (v := 2000) hx hb dX1_init_41 (by decide) ?_
  refine va_newa (atype := .int) (n := 2000) (ty := .int) (N' := 2000) (a0 := (2000, .inl (fun _ => 0))) hx hb (hts (.arrayClass .int) (by decide +kernel)) rfl hK hP hD hS hA (fun _ => na_zero_I) (by decide) (by decide) (by decide) (show 4 + 1 ≤ 5 by omega) (show 8001 + 2000 ≤ 10001 by omega) dX1_init_44 (fun b5 c_b5 H hK hP hD hS => ?_)
  have hP : va_P (dC, dI) vwCl [(h0, .inr (1, [.ref b1, .ref b2, .ref b3, .ref b4, .null, .int 0, .int 0, .int 0, .int 0, .int 0])), (b1, .inl (c_b1, 2000, .inl (fun _ => 0))), (b2, .inl (c_b2, 2000, .inl (fun _ => 0))), (b3, .inl (c_b3, 2000, .inl (fun _ => 0))), (b4, .inl (c_b4, 2001, .inl (fun _ => 0))), (b5, .inl (c_b5, 2000, .inl (fun _ => 0)))] H := hP
  have hD : va_D A [(h0, .inr (1, [.ref b1, .ref b2, .ref b3, .ref b4, .null, .int 0, .int 0, .int 0, .int 0, .int 0])), (b1, .inl (c_b1, 2000, .inl (fun _ => 0))), (b2, .inl (c_b2, 2000, .inl (fun _ => 0))), (b3, .inl (c_b3, 2000, .inl (fun _ => 0))), (b4, .inl (c_b4, 2001, .inl (fun _ => 0))), (b5, .inl (c_b5, 2000, .inl (fun _ => 0)))] := hD
  have hK : va_K (dC, dI) vwCl [(c_b1, .int), (c_b2, .int), (c_b3, .boolean), (c_b4, .int), (c_b5, .int)] s := hK
  refine W.widen (k := 5) (n := 10001) (by omega) (by omega) ?_
  refine va_putF (D := (dC, dI)) (ci := 1) (v := .ref b5) (ty := .array .int) (C := RX1) (T := TX1) (N := 10) hx hb hts in_X1_init tyX1 tyX1_ok nmX1 hown hK hP hD hS 0 rfl rfl 4 (by decide) (hts (.fieldLink RX1 23 "BranchLengthsModel" "markItems" "[I") (by decide +kernel)) (fun _ h9 => h9) rfl hin rfl (by decide +kernel) rfl rfl (Nat.le_of_ble_eq_true rfl) dX1_init_46 (fun H locs hP hD hS => ?_)
  have hP : va_P (dC, dI) vwCl [(h0, .inr (1, [.ref b1, .ref b2, .ref b3, .ref b4, .ref b5, .int 0, .int 0, .int 0, .int 0, .int 0])), (b1, .inl (c_b1, 2000, .inl (fun _ => 0))), (b2, .inl (c_b2, 2000, .inl (fun _ => 0))), (b3, .inl (c_b3, 2000, .inl (fun _ => 0))), (b4, .inl (c_b4, 2001, .inl (fun _ => 0))), (b5, .inl (c_b5, 2000, .inl (fun _ => 0)))] H := hP
  have hD : va_D A [(h0, .inr (1, [.ref b1, .ref b2, .ref b3, .ref b4, .ref b5, .int 0, .int 0, .int 0, .int 0, .int 0])), (b1, .inl (c_b1, 2000, .inl (fun _ => 0))), (b2, .inl (c_b2, 2000, .inl (fun _ => 0))), (b3, .inl (c_b3, 2000, .inl (fun _ => 0))), (b4, .inl (c_b4, 2001, .inl (fun _ => 0))), (b5, .inl (c_b5, 2000, .inl (fun _ => 0)))] := hD
  refine lv_aload_n hx hb dX1_init_49 rfl (lv_at hl 0 rfl) ?_
  refine lv_sipush (v := nI 1000) hx hb dX1_init_50 (by decide) ?_
  refine va_put (D := (dC, dI)) (ci := 1) (v := .int (nI 1000)) (ty := .int) (C := RX1) (T := TX1) (N := 10) hx hb hts in_X1_init tyX1 tyX1_ok nmX1 hown hK hP hD hS 0 rfl rfl 7 (by decide) (hts (.fieldLink RX1 26 "BranchLengthsModel" "reach" "I") (by decide +kernel)) (fun _ h9 => h9) rfl (by decide +kernel) rfl rfl (Nat.le_of_ble_eq_true rfl) dX1_init_53 (fun H locs hP hD hS => ?_)
  have hP : va_P (dC, dI) vwCl [(h0, .inr (1, [.ref b1, .ref b2, .ref b3, .ref b4, .ref b5, .int 0, .int 0, .int (nI 1000), .int 0, .int 0])), (b1, .inl (c_b1, 2000, .inl (fun _ => 0))), (b2, .inl (c_b2, 2000, .inl (fun _ => 0))), (b3, .inl (c_b3, 2000, .inl (fun _ => 0))), (b4, .inl (c_b4, 2001, .inl (fun _ => 0))), (b5, .inl (c_b5, 2000, .inl (fun _ => 0)))] H := hP
  have hD : va_D A [(h0, .inr (1, [.ref b1, .ref b2, .ref b3, .ref b4, .ref b5, .int 0, .int 0, .int (nI 1000), .int 0, .int 0])), (b1, .inl (c_b1, 2000, .inl (fun _ => 0))), (b2, .inl (c_b2, 2000, .inl (fun _ => 0))), (b3, .inl (c_b3, 2000, .inl (fun _ => 0))), (b4, .inl (c_b4, 2001, .inl (fun _ => 0))), (b5, .inl (c_b5, 2000, .inl (fun _ => 0)))] := hD
  refine lv_aload_n hx hb dX1_init_56 rfl (lv_at hl 0 rfl) ?_
  refine lv_iconst (v := -1) hx hb dX1_init_57 (by decide) ?_
  refine va_put (D := (dC, dI)) (ci := 1) (v := .int (-1)) (ty := .int) (C := RX1) (T := TX1) (N := 10) hx hb hts in_X1_init tyX1 tyX1_ok nmX1 hown hK hP hD hS 0 rfl rfl 8 (by decide) (hts (.fieldLink RX1 30 "BranchLengthsModel" "least" "I") (by decide +kernel)) (fun _ h9 => h9) rfl (by decide +kernel) rfl rfl (Nat.le_of_ble_eq_true rfl) dX1_init_58 (fun H locs hP hD hS => ?_)
  have hP : va_P (dC, dI) vwCl [(h0, .inr (1, [.ref b1, .ref b2, .ref b3, .ref b4, .ref b5, .int 0, .int 0, .int (nI 1000), .int (-1), .int 0])), (b1, .inl (c_b1, 2000, .inl (fun _ => 0))), (b2, .inl (c_b2, 2000, .inl (fun _ => 0))), (b3, .inl (c_b3, 2000, .inl (fun _ => 0))), (b4, .inl (c_b4, 2001, .inl (fun _ => 0))), (b5, .inl (c_b5, 2000, .inl (fun _ => 0)))] H := hP
  have hD : va_D A [(h0, .inr (1, [.ref b1, .ref b2, .ref b3, .ref b4, .ref b5, .int 0, .int 0, .int (nI 1000), .int (-1), .int 0])), (b1, .inl (c_b1, 2000, .inl (fun _ => 0))), (b2, .inl (c_b2, 2000, .inl (fun _ => 0))), (b3, .inl (c_b3, 2000, .inl (fun _ => 0))), (b4, .inl (c_b4, 2001, .inl (fun _ => 0))), (b5, .inl (c_b5, 2000, .inl (fun _ => 0)))] := hD
  have hu1 : c_b1 = c_b2 := na_same_int hK (i := 0) (j := 1) rfl rfl
  subst hu1
  have hu3 : c_b1 = c_b4 := na_same_int hK (i := 0) (j := 3) rfl rfl
  subst hu3
  have hu4 : c_b1 = c_b5 := na_same_int hK (i := 0) (j := 4) rfl rfl
  subst hu4
  have hK9 := hK.sub (tys' := [(c_b1, .int), (c_b3, .boolean)]) [0, 2] rfl
  exact W.vret hx hb hr (fun t ht hW => ⟨⟨(), rfl, trivial, b1, b2, b3, b4, b5, c_b1, c_b3, by rw [ht]; exact hP, va_K.moved hW.alike hK9, hD⟩, hS.F ht⟩) hS.2.2 dX1_init_61
