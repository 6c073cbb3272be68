set_option maxHeartbeats 4000000 in
set_option maxRecDepth 100000 in
/-- lay() -/
theorem m_lay (l : Launch) (dC : Nat → ClassId) (dI : Nat → Nat → Nat) (cA cZ : ClassId) (h1 b1 b2 b3 b4 b5 sz : Nat) (g1 g2 g3 g4 g5 : Nat → Int32) (n K rr : Nat) (br : Nat → Bool) (b tg mi : Nat → Nat) (le la : Int32) (hM : MRow g1 g2 g5 n K br b tg mi) (hO : RowOk n K br b tg mi) (hr0 : rr ≤ 100000) : na_Mi (S := (Nat → Int32) × (Nat → Int32) × Int32 × Int32) l yX1_lay wsX1_lay ({ frames := 1, cells := 0, slots := 0, locals := 30 }) (dC, dI) vwCl [(cA, .int), (cZ, .boolean)] sz [.ref h1] [(h1, .inr (1, [.ref b1, .ref b2, .ref b3, .ref b4, .ref b5, .int (nI n), .int (nI K), .int (nI rr), .int le, .int la])), (b1, .inl (cA, 2000, .inl g1)), (b2, .inl (cA, 2000, .inl g2)), (b3, .inl (cZ, 2000, .inl g3)), (b4, .inl (cA, 2001, .inl g4)), (b5, .inl (cA, 2000, .inl g5))] (MLay n K rr br b tg mi g3 g4) (fun u => [(h1, .inr (1, [.ref b1, .ref b2, .ref b3, .ref b4, .ref b5, .int (nI n), .int (nI K), .int (nI rr), .int u.2.2.1, .int u.2.2.2])), (b1, .inl (cA, 2000, .inl g1)), (b2, .inl (cA, 2000, .inl g2)), (b3, .inl (cZ, 2000, .inl u.1)), (b4, .inl (cA, 2001, .inl u.2.1)), (b5, .inl (cA, 2000, .inl g5))]) := by
  refine Met.ofW (cc := cX1_lay) (maxL := 3) (ret := (some .int)) (by decide) rfl ?_
  intro p e s m args below meth c s₁ B hml hv
  obtain ⟨rfl, hsz, hP, hK, hD0⟩ := hv
  have hx := B.exec
  have hb := B.bytes
  have hr := B.returns
  have hts := atoms_spec (ws := wsX1_lay) B.pre
  have hown : s.vm.findClass RX1 = some m.cls := findClass_of_methodNamed B.named
  have hlocks := B.notSynchronized
  subst hsz
  have hD := hD0.self (sz := s.heap.size)
  generalize hAe : va_A [(h1, .inr (1, [.ref b1, .ref b2, .ref b3, .ref b4, .ref b5, .int (nI n), .int (nI K), .int (nI rr), .int le, .int la])), (b1, .inl (cA, 2000, .inl g1)), (b2, .inl (cA, 2000, .inl g2)), (b3, .inl (cZ, 2000, .inl g3)), (b4, .inl (cA, 2001, .inl g4)), (b5, .inl (cA, 2000, .inl g5))] s.heap.size = A at hD ⊢
  have hA : ∀ q : Nat, s.heap.size ≤ q → A q := fun q h => by rw [← hAe]; exact Or.inr h
  have hS : va_S A s.heap s.heap [] := va_S.rf
  have hP : va_P (dC, dI) vwCl [(h1, .inr (1, [.ref b1, .ref b2, .ref b3, .ref b4, .ref b5, .int (nI n), .int (nI K), .int (nI rr), .int le, .int la])), (b1, .inl (cA, 2000, .inl g1)), (b2, .inl (cA, 2000, .inl g2)), (b3, .inl (cZ, 2000, .inl g3)), (b4, .inl (cA, 2001, .inl g4)), (b5, .inl (cA, 2000, .inl g5))] s.heap := hP
  have hl := lv_entry ([.ref h1]) (n := 3) (Nat.le_of_ble_eq_true rfl)
  rw [lg_entry_eq]
  generalize (lg_sl ([.ref h1]) ++ List.replicate (3 - (lg_sl ([.ref h1])).length) Slot.unset).toArray = ls at hl ⊢
  have hl : lv_has ls 3 [(0, .ref h1)] := hl
  have hn : n ≤ 1024 := hO.1
  refine lv_aload_n hx hb dX1_lay_0 rfl (lv_at hl 0 rfl) ?_
  refine lv_iconst (v := 0) hx hb dX1_lay_1 (by decide) ?_
  refine va_put (D := (dC, dI)) (ci := 1) (v := .int 0) (ty := .boolean) (C := RX1) (T := TX1) (N := 10) hx hb hts in_X1_lay tyX1 tyX1_ok nmX1 hown hK hP hD hS 0 rfl rfl 9 (by decide) (hts (.fieldLink RX1 36 "BranchLengthsModel" "laid" "Z") (by decide +kernel)) (fun _ h9 => h9) rfl (by decide +kernel) rfl rfl (Nat.le_of_ble_eq_true rfl) dX1_lay_2 (fun H locs hP hD hS => ?_)
  have hP : va_P (dC, dI) vwCl [(h1, .inr (1, [.ref b1, .ref b2, .ref b3, .ref b4, .ref b5, .int (nI n), .int (nI K), .int (nI rr), .int le, .int 0])), (b1, .inl (cA, 2000, .inl g1)), (b2, .inl (cA, 2000, .inl g2)), (b3, .inl (cZ, 2000, .inl g3)), (b4, .inl (cA, 2001, .inl g4)), (b5, .inl (cA, 2000, .inl g5))] H := hP
  have hD : va_D A [(h1, .inr (1, [.ref b1, .ref b2, .ref b3, .ref b4, .ref b5, .int (nI n), .int (nI K), .int (nI rr), .int le, .int 0])), (b1, .inl (cA, 2000, .inl g1)), (b2, .inl (cA, 2000, .inl g2)), (b3, .inl (cZ, 2000, .inl g3)), (b4, .inl (cA, 2001, .inl g4)), (b5, .inl (cA, 2000, .inl g5))] := hD
  refine lv_aload_n hx hb dX1_lay_5 rfl (lv_at hl 0 rfl) ?_
  refine lv_iconst (v := -1) hx hb dX1_lay_6 (by decide) ?_
  refine va_put (D := (dC, dI)) (ci := 1) (v := .int (-1)) (ty := .int) (C := RX1) (T := TX1) (N := 10) hx hb hts in_X1_lay tyX1 tyX1_ok nmX1 hown hK hP hD hS 0 rfl rfl 8 (by decide) (hts (.fieldLink RX1 30 "BranchLengthsModel" "least" "I") (by decide +kernel)) (fun _ h9 => h9) rfl (by decide +kernel) rfl rfl (Nat.le_of_ble_eq_true rfl) dX1_lay_7 (fun H locs hP hD hS => ?_)
  have hP : va_P (dC, dI) vwCl [(h1, .inr (1, [.ref b1, .ref b2, .ref b3, .ref b4, .ref b5, .int (nI n), .int (nI K), .int (nI rr), .int (-1), .int 0])), (b1, .inl (cA, 2000, .inl g1)), (b2, .inl (cA, 2000, .inl g2)), (b3, .inl (cZ, 2000, .inl g3)), (b4, .inl (cA, 2001, .inl g4)), (b5, .inl (cA, 2000, .inl g5))] H := hP
  have hD : va_D A [(h1, .inr (1, [.ref b1, .ref b2, .ref b3, .ref b4, .ref b5, .int (nI n), .int (nI K), .int (nI rr), .int (-1), .int 0])), (b1, .inl (cA, 2000, .inl g1)), (b2, .inl (cA, 2000, .inl g2)), (b3, .inl (cZ, 2000, .inl g3)), (b4, .inl (cA, 2001, .inl g4)), (b5, .inl (cA, 2000, .inl g5))] := hD
  refine lv_iconst (v := nI 0) hx hb dX1_lay_10 (by decide) ?_
  refine lv_istore_n (lv' := [(1, .int (nI 0)), (0, .ref h1)]) hx hb dX1_lay_11 rfl hl (by decide) rfl (fun ls hl => ?_)
  refine na_loop (pc := 12) (fun (d : Nat) (k : Nat) (H : Heap) (locs : List Loc) (ls : Array Slot) => (k ≤ n ∧ d = n - k ∧ ∀ j, j < k → ¬ (g1 j = 2 ∧ ¬ g2 j < nI K)) ∧ va_P (dC, dI) vwCl [(h1, .inr (1, [.ref b1, .ref b2, .ref b3, .ref b4, .ref b5, .int (nI n), .int (nI K), .int (nI rr), .int (-1), .int 0])), (b1, .inl (cA, 2000, .inl g1)), (b2, .inl (cA, 2000, .inl g2)), (b3, .inl (cZ, 2000, .inl g3)), (b4, .inl (cA, 2001, .inl g4)), (b5, .inl (cA, 2000, .inl g5))] H ∧ va_D A [(h1, .inr (1, [.ref b1, .ref b2, .ref b3, .ref b4, .ref b5, .int (nI n), .int (nI K), .int (nI rr), .int (-1), .int 0])), (b1, .inl (cA, 2000, .inl g1)), (b2, .inl (cA, 2000, .inl g2)), (b3, .inl (cZ, 2000, .inl g3)), (b4, .inl (cA, 2001, .inl g4)), (b5, .inl (cA, 2000, .inl g5))] ∧ va_S A s.heap H locs ∧ lv_has ls 3 [(0, .ref h1), (1, .int (nI k))]) ?_ (n - 0) (0) ⟨⟨Nat.zero_le _, rfl, fun j h => absurd h (by omega)⟩, hP, hD, hS, lv_sub hl [1, 0] rfl⟩
  intro d k H locs ls hI ih
  obtain ⟨⟨hkn, hd, hinv⟩, hP, hD, hS, hl⟩ := hI
  refine lv_iload_n hx hb dX1_lay_12 rfl (lv_at hl 1 rfl) ?_
  refine lv_aload_n hx hb dX1_lay_13 rfl (lv_at hl 0 rfl) ?_
  refine va_get (D := (dC, dI)) (ci := 1) (v := .int (nI n)) (C := RX1) (T := TX1) (N := 10) hx hb hts in_X1_lay hown hK hP 0 rfl rfl 5 (by decide) (hts (.fieldLink RX1 33 "BranchLengthsModel" "items" "I") (by decide +kernel)) (fun _ h9 => h9) rfl dX1_lay_14 ?_
  refine lv_icmp_ge (tgt := 61) hx hb dX1_lay_17 (by decide) (fun hc => ?_) (fun hc => ?_)
  · have hkn' := na_ge (by omega) hkn hc
    subst hkn'
    have hA1 : LAll n K br tg := fun j hj hb => by
      rcases Nat.lt_or_ge (tg j) K with q | q
      · exact q
      · exact absurd ((mr_miss hM hO hj).mpr ⟨hb, q⟩) (hinv j hj)
    refine lv_aload_n hx hb dX1_lay_61 rfl (lv_at hl 0 rfl) ?_
    refine va_get (D := (dC, dI)) (ci := 1) (v := .int (-1)) (C := RX1) (T := TX1) (N := 10) hx hb hts in_X1_lay hown hK hP 0 rfl rfl 8 (by decide) (hts (.fieldLink RX1 30 "BranchLengthsModel" "least" "I") (by decide +kernel)) (fun _ h9 => h9) rfl dX1_lay_62 ?_
    refine lv_if_lt (tgt := 70) hx hb dX1_lay_65 (by decide) (fun hc2 => ?_) (fun hc2 => ?_)
    · refine lv_iconst (v := nI 0) hx hb dX1_lay_70 (by decide) ?_
      refine lv_istore_n (lv' := [(1, .int (nI 0)), (0, .ref h1)]) hx hb dX1_lay_71 rfl hl (by decide) rfl (fun ls hl => ?_)
      refine na_loop (pc := 72) (fun (d : Nat) (k : Nat) (H : Heap) (locs : List Loc) (ls : Array Slot) => (k ≤ n ∧ d = n - k) ∧ va_P (dC, dI) vwCl [(h1, .inr (1, [.ref b1, .ref b2, .ref b3, .ref b4, .ref b5, .int (nI n), .int (nI K), .int (nI rr), .int (-1), .int 0])), (b1, .inl (cA, 2000, .inl g1)), (b2, .inl (cA, 2000, .inl g2)), (b3, .inl (cZ, 2000, .inl (mZ g3 k))), (b4, .inl (cA, 2001, .inl g4)), (b5, .inl (cA, 2000, .inl g5))] H ∧ va_D A [(h1, .inr (1, [.ref b1, .ref b2, .ref b3, .ref b4, .ref b5, .int (nI n), .int (nI K), .int (nI rr), .int (-1), .int 0])), (b1, .inl (cA, 2000, .inl g1)), (b2, .inl (cA, 2000, .inl g2)), (b3, .inl (cZ, 2000, .inl (mZ g3 k))), (b4, .inl (cA, 2001, .inl g4)), (b5, .inl (cA, 2000, .inl g5))] ∧ va_S A s.heap H locs ∧ lv_has ls 3 [(0, .ref h1), (1, .int (nI k))]) ?_ (n - 0) (0) ⟨⟨Nat.zero_le _, rfl⟩, by rw [mZ_0]; exact hP, by rw [mZ_0]; exact hD, hS, lv_sub hl [1, 0] rfl⟩
      clear ih
      intro d k H locs ls hI ih
      obtain ⟨⟨hkn, hd⟩, hP, hD, hS, hl⟩ := hI
      refine lv_iload_n hx hb dX1_lay_72 rfl (lv_at hl 1 rfl) ?_
      refine lv_aload_n hx hb dX1_lay_73 rfl (lv_at hl 0 rfl) ?_
      refine va_get (D := (dC, dI)) (ci := 1) (v := .int (nI n)) (C := RX1) (T := TX1) (N := 10) hx hb hts in_X1_lay hown hK hP 0 rfl rfl 5 (by decide) (hts (.fieldLink RX1 33 "BranchLengthsModel" "items" "I") (by decide +kernel)) (fun _ h9 => h9) rfl dX1_lay_74 ?_
      refine lv_icmp_ge (tgt := 93) hx hb dX1_lay_77 (by decide) (fun hc => ?_) (fun hc => ?_)
      · have hkn' := na_ge (by omega) hkn hc
        subst hkn'
        clear ih
        rw [ml_0 n g3 br] at hP hD
        have hP : va_P (dC, dI) vwCl [(h1, .inr (1, [.ref b1, .ref b2, .ref b3, .ref b4, .ref b5, .int (nI n), .int (nI K), .int (nI rr), .int (-1), .int 0])), (b1, .inl (cA, 2000, .inl g1)), (b2, .inl (cA, 2000, .inl g2)), (b3, .inl (cZ, 2000, .inl (mL n g3 br (fun _ => false)))), (b4, .inl (cA, 2001, .inl g4)), (b5, .inl (cA, 2000, .inl g5))] H := hP
        have hD : va_D A [(h1, .inr (1, [.ref b1, .ref b2, .ref b3, .ref b4, .ref b5, .int (nI n), .int (nI K), .int (nI rr), .int (-1), .int 0])), (b1, .inl (cA, 2000, .inl g1)), (b2, .inl (cA, 2000, .inl g2)), (b3, .inl (cZ, 2000, .inl (mL n g3 br (fun _ => false)))), (b4, .inl (cA, 2001, .inl g4)), (b5, .inl (cA, 2000, .inl g5))] := hD
        refine lv_iconst (v := 1) hx hb dX1_lay_93 rfl ?_
        refine lv_istore_n (lv' := [(1, .int 1), (0, .ref h1)]) hx hb dX1_lay_94 rfl hl (by decide) rfl (fun ls hl => ?_)
        refine na_loop (pc := 95) (fun (d : Nat) (q : (Nat → Bool) × (Nat → Int32) × Bool) (H : Heap) (locs : List Loc) (ls : Array Slot) => ((d = if q.2.2 = true then n - cnt (brL br q.1) n + 1 else 0) ∧ Least n rr br b (fun j => mi (tg j)) q.1 ∧ (q.2.2 = false → Closd n rr br b (fun j => mi (tg j)) q.1 ∧ ∀ j, j ≤ n → q.2.1 j = nI (ps (wd br b q.1) j))) ∧ va_P (dC, dI) vwCl [(h1, .inr (1, [.ref b1, .ref b2, .ref b3, .ref b4, .ref b5, .int (nI n), .int (nI K), .int (nI rr), .int (-1), .int 0])), (b1, .inl (cA, 2000, .inl g1)), (b2, .inl (cA, 2000, .inl g2)), (b3, .inl (cZ, 2000, .inl (mL n g3 br q.1))), (b4, .inl (cA, 2001, .inl q.2.1)), (b5, .inl (cA, 2000, .inl g5))] H ∧ va_D A [(h1, .inr (1, [.ref b1, .ref b2, .ref b3, .ref b4, .ref b5, .int (nI n), .int (nI K), .int (nI rr), .int (-1), .int 0])), (b1, .inl (cA, 2000, .inl g1)), (b2, .inl (cA, 2000, .inl g2)), (b3, .inl (cZ, 2000, .inl (mL n g3 br q.1))), (b4, .inl (cA, 2001, .inl q.2.1)), (b5, .inl (cA, 2000, .inl g5))] ∧ va_S A s.heap H locs ∧ lv_has ls 3 [(0, .ref h1), (1, .int (if q.2.2 = true then 1 else 0))]) ?_ (n - cnt (brL br (fun _ => false)) n + 1) (((fun _ => false), g4, true)) ⟨⟨rfl, least_0 (fun _ _ _ => Bool.false_ne_true), fun q => absurd (show true = false from q) (by decide)⟩, hP, hD, hS, lv_sub hl [1, 0] rfl⟩
        intro d q H locs ls hI ih
        obtain ⟨L, g, mr⟩ := q
        obtain ⟨⟨hd, hle, hcl⟩, hP, hD, hS, hl⟩ := hI
        dsimp only at hd hle hcl hP hD hl
        have hP : va_P (dC, dI) vwCl [(h1, .inr (1, [.ref b1, .ref b2, .ref b3, .ref b4, .ref b5, .int (nI n), .int (nI K), .int (nI rr), .int (-1), .int 0])), (b1, .inl (cA, 2000, .inl g1)), (b2, .inl (cA, 2000, .inl g2)), (b3, .inl (cZ, 2000, .inl (mL n g3 br L))), (b4, .inl (cA, 2001, .inl g)), (b5, .inl (cA, 2000, .inl g5))] H := hP
        have hD : va_D A [(h1, .inr (1, [.ref b1, .ref b2, .ref b3, .ref b4, .ref b5, .int (nI n), .int (nI K), .int (nI rr), .int (-1), .int 0])), (b1, .inl (cA, 2000, .inl g1)), (b2, .inl (cA, 2000, .inl g2)), (b3, .inl (cZ, 2000, .inl (mL n g3 br L))), (b4, .inl (cA, 2001, .inl g)), (b5, .inl (cA, 2000, .inl g5))] := hD
        have hl : lv_has ls 3 [(0, .ref h1), (1, .int (if mr = true then 1 else 0))] := hl
        refine lv_iload_n hx hb dX1_lay_95 rfl (lv_at hl 1 rfl) ?_
        refine lv_if_eq (tgt := 154) hx hb dX1_lay_96 (by decide) (fun hc5 => ?_) (fun hc5 => ?_)
        · have hm : mr = false := by
            cases mr with
            | false => rfl
            | true => exact absurd hc5 (by decide)
          obtain ⟨hcl1, hcl2⟩ := hcl hm
          refine lv_aload_n hx hb dX1_lay_154 rfl (lv_at hl 0 rfl) ?_
          refine lv_iconst (v := 1) hx hb dX1_lay_155 (by decide) ?_
          refine va_put (D := (dC, dI)) (ci := 1) (v := .int 1) (ty := .boolean) (C := RX1) (T := TX1) (N := 10) hx hb hts in_X1_lay tyX1 tyX1_ok nmX1 hown hK hP hD hS 0 rfl rfl 9 (by decide) (hts (.fieldLink RX1 36 "BranchLengthsModel" "laid" "Z") (by decide +kernel)) (fun _ h9 => h9) rfl (by decide +kernel) rfl rfl (Nat.le_of_ble_eq_true rfl) dX1_lay_156 (fun H locs hP hD hS => ?_)
          have hP : va_P (dC, dI) vwCl [(h1, .inr (1, [.ref b1, .ref b2, .ref b3, .ref b4, .ref b5, .int (nI n), .int (nI K), .int (nI rr), .int (-1), .int 1])), (b1, .inl (cA, 2000, .inl g1)), (b2, .inl (cA, 2000, .inl g2)), (b3, .inl (cZ, 2000, .inl (mL n g3 br L))), (b4, .inl (cA, 2001, .inl g)), (b5, .inl (cA, 2000, .inl g5))] H := hP
          have hD : va_D A [(h1, .inr (1, [.ref b1, .ref b2, .ref b3, .ref b4, .ref b5, .int (nI n), .int (nI K), .int (nI rr), .int (-1), .int 1])), (b1, .inl (cA, 2000, .inl g1)), (b2, .inl (cA, 2000, .inl g2)), (b3, .inl (cZ, 2000, .inl (mL n g3 br L))), (b4, .inl (cA, 2001, .inl g)), (b5, .inl (cA, 2000, .inl g5))] := hD
          refine lv_aload_n hx hb dX1_lay_159 rfl (lv_at hl 0 rfl) ?_
          refine va_get (D := (dC, dI)) (ci := 1) (v := .ref b4) (C := RX1) (T := TX1) (N := 10) hx hb hts in_X1_lay hown hK hP 0 rfl rfl 3 (by decide) (hts (.fieldLink RX1 20 "BranchLengthsModel" "places" "[I") (by decide +kernel)) (fun _ h9 => h9) rfl dX1_lay_160 ?_
          refine lv_aload_n hx hb dX1_lay_163 rfl (lv_at hl 0 rfl) ?_
          refine va_get (D := (dC, dI)) (ci := 1) (v := .int (nI n)) (C := RX1) (T := TX1) (N := 10) hx hb hts in_X1_lay hown hK hP 0 rfl rfl 5 (by decide) (hts (.fieldLink RX1 33 "BranchLengthsModel" "items" "I") (by decide +kernel)) (fun _ h9 => h9) rfl dX1_lay_164 ?_
          refine na_iald (k := n) hx hb hK hP 4 0 rfl rfl (by omega) (by decide) dX1_lay_167 ?_
          refine na_eqi (y := nI (ps (wd br b L) n)) (hcl2 n (Nat.le_refl n)) ?_
          exact W.iret (v := (nI (ps (wd br b L) n))) hx hb hr (fun t ht hW => ⟨⟨(nI (ps (wd br b L) n)), (mL n g3 br L, g, -1, 1), rfl, Or.inr ⟨hA1, rfl, rfl, L, hcl1, hle, rfl, hcl2, fun j hj => if_pos hj⟩, by rw [ht]; exact hP, va_K.moved hW.alike hK, hD⟩, hS.F ht⟩) hS.2.2 dX1_lay_168
        · have hm : mr = true := by
            cases mr with
            | false => exact absurd rfl hc5
            | true => rfl
          rw [hm, if_pos rfl] at hd
          refine lv_aload_n hx hb dX1_lay_99 rfl (lv_at hl 0 rfl) ?_
          refine na_callv (As := []) (rest := []) (wc := [(h1, .inr (1, [.ref b1, .ref b2, .ref b3, .ref b4, .ref b5, .int (nI n), .int (nI K), .int (nI rr), .int (-1), .int 0])), (b1, .inl (cA, 2000, .inl g1)), (b2, .inl (cA, 2000, .inl g2)), (b3, .inl (cZ, 2000, .inl (mL n g3 br L))), (b4, .inl (cA, 2001, .inl g)), (b5, .inl (cA, 2000, .inl g5))]) (wr := []) (ci := 1) ⟨hx, hb, hml, hown, hts⟩ (m_addUp l dC dI cA cZ h1 b1 b2 b3 b4 b5 H.size g1 g2 (mL n g3 br L) g g5 n (nI K) (nI rr) (-1) 0 (by omega)) (cwV 0 hts gX1_lay_X1_addUp rfl rfl rfl (by decide +kernel) ⟨Nat.le_of_ble_eq_true rfl, Nat.le_of_ble_eq_true rfl⟩) hK hP hD hS hA [0, 1, 2, 3, 4, 5] [] rfl rfl rfl rfl (by decide) rfl rfl 0 rfl rfl hl.1 (Nat.le_of_ble_eq_true rfl) dX1_lay_100 ⟨Nat.le_of_ble_eq_true rfl, Nat.le_of_ble_eq_true rfl⟩ rfl (fun u H locs hw hP hD hS => ?_)
          have hP : va_P (dC, dI) vwCl [(h1, .inr (1, [.ref b1, .ref b2, .ref b3, .ref b4, .ref b5, .int (nI n), .int (nI K), .int (nI rr), .int (-1), .int 0])), (b1, .inl (cA, 2000, .inl g1)), (b2, .inl (cA, 2000, .inl g2)), (b3, .inl (cZ, 2000, .inl (mL n g3 br L))), (b4, .inl (cA, 2001, .inl (mA (mV g1 g2 (mL n g3 br L)) g n))), (b5, .inl (cA, 2000, .inl g5))] H := hP
          have hD : va_D A [(h1, .inr (1, [.ref b1, .ref b2, .ref b3, .ref b4, .ref b5, .int (nI n), .int (nI K), .int (nI rr), .int (-1), .int 0])), (b1, .inl (cA, 2000, .inl g1)), (b2, .inl (cA, 2000, .inl g2)), (b3, .inl (cZ, 2000, .inl (mL n g3 br L))), (b4, .inl (cA, 2001, .inl (mA (mV g1 g2 (mL n g3 br L)) g n))), (b5, .inl (cA, 2000, .inl g5))] := hD
          have h4 : ∀ j, j ≤ n → (mA (mV g1 g2 (mL n g3 br L)) g n) j = nI (ps (wd br b L) j) := mr_pl hM
          generalize mA (mV g1 g2 (mL n g3 br L)) g n = g6 at hP hD h4
          have hP : va_P (dC, dI) vwCl [(h1, .inr (1, [.ref b1, .ref b2, .ref b3, .ref b4, .ref b5, .int (nI n), .int (nI K), .int (nI rr), .int (-1), .int 0])), (b1, .inl (cA, 2000, .inl g1)), (b2, .inl (cA, 2000, .inl g2)), (b3, .inl (cZ, 2000, .inl (mL n g3 br L))), (b4, .inl (cA, 2001, .inl g6)), (b5, .inl (cA, 2000, .inl g5))] H := hP
          have hD : va_D A [(h1, .inr (1, [.ref b1, .ref b2, .ref b3, .ref b4, .ref b5, .int (nI n), .int (nI K), .int (nI rr), .int (-1), .int 0])), (b1, .inl (cA, 2000, .inl g1)), (b2, .inl (cA, 2000, .inl g2)), (b3, .inl (cZ, 2000, .inl (mL n g3 br L))), (b4, .inl (cA, 2001, .inl g6)), (b5, .inl (cA, 2000, .inl g5))] := hD
          refine lv_iconst (v := mo (mBad g1 g2 (mL n g3 br L) g6 g5 (nI rr)) 0) hx hb dX1_lay_103 rfl ?_
          refine lv_istore_n (lv' := [(1, .int (mo (mBad g1 g2 (mL n g3 br L) g6 g5 (nI rr)) 0)), (0, .ref h1)]) hx hb dX1_lay_104 rfl hl (by decide) rfl (fun ls hl => ?_)
          refine lv_iconst (v := nI 0) hx hb dX1_lay_105 (by decide) ?_
          refine lv_istore_n (lv' := [(2, .int (nI 0)), (1, .int (mo (mBad g1 g2 (mL n g3 br L) g6 g5 (nI rr)) 0)), (0, .ref h1)]) hx hb dX1_lay_106 rfl hl (by decide) rfl (fun ls hl => ?_)
          refine na_loop (pc := 107) (fun (d : Nat) (k : Nat) (H : Heap) (locs : List Loc) (ls : Array Slot) => (k ≤ n ∧ d = n - k) ∧ va_P (dC, dI) vwCl [(h1, .inr (1, [.ref b1, .ref b2, .ref b3, .ref b4, .ref b5, .int (nI n), .int (nI K), .int (nI rr), .int (-1), .int 0])), (b1, .inl (cA, 2000, .inl g1)), (b2, .inl (cA, 2000, .inl g2)), (b3, .inl (cZ, 2000, .inl (mS (mL n g3 br L) (mBad g1 g2 (mL n g3 br L) g6 g5 (nI rr)) k))), (b4, .inl (cA, 2001, .inl g6)), (b5, .inl (cA, 2000, .inl g5))] H ∧ va_D A [(h1, .inr (1, [.ref b1, .ref b2, .ref b3, .ref b4, .ref b5, .int (nI n), .int (nI K), .int (nI rr), .int (-1), .int 0])), (b1, .inl (cA, 2000, .inl g1)), (b2, .inl (cA, 2000, .inl g2)), (b3, .inl (cZ, 2000, .inl (mS (mL n g3 br L) (mBad g1 g2 (mL n g3 br L) g6 g5 (nI rr)) k))), (b4, .inl (cA, 2001, .inl g6)), (b5, .inl (cA, 2000, .inl g5))] ∧ va_S A s.heap H locs ∧ lv_has ls 3 [(0, .ref h1), (1, .int (mo (mBad g1 g2 (mL n g3 br L) g6 g5 (nI rr)) k)), (2, .int (nI k))]) ?_ (n - 0) (0) ⟨⟨Nat.zero_le _, rfl⟩, by rw [mS_0]; exact hP, by rw [mS_0]; exact hD, hS, lv_sub hl [2, 1, 0] rfl⟩
          intro d2 k H locs ls hI ih2
          obtain ⟨⟨hkn, hd2⟩, hP, hD, hS, hl⟩ := hI
          refine lv_iload_n hx hb dX1_lay_107 rfl (lv_at hl 2 rfl) ?_
          refine lv_aload_n hx hb dX1_lay_108 rfl (lv_at hl 0 rfl) ?_
          refine va_get (D := (dC, dI)) (ci := 1) (v := .int (nI n)) (C := RX1) (T := TX1) (N := 10) hx hb hts in_X1_lay hown hK hP 0 rfl rfl 5 (by decide) (hts (.fieldLink RX1 33 "BranchLengthsModel" "items" "I") (by decide +kernel)) (fun _ h9 => h9) rfl dX1_lay_109 ?_
          refine lv_icmp_ge (tgt := 151) hx hb dX1_lay_112 (by decide) (fun hc6 => ?_) (fun hc6 => ?_)
          · have hkn' := na_ge (by omega) hkn hc6
            subst hkn'
            refine lv_goto (tgt := 95) hx hb dX1_lay_151 (by decide) ?_
            by_cases h0c : cnt (mBad g1 g2 (mL n g3 br L) g6 g5 (nI rr)) n = 0
            · have e1 : mo (mBad g1 g2 (mL n g3 br L) g6 g5 (nI rr)) n = 0 := if_pos h0c
              rw [e1] at hl
              rw [mS_none h0c] at hP hD
              exact ih 0 (L, g6, false) _ _ _ (by omega) ⟨⟨rfl, hle, fun _ => ⟨m_closd_bad hM hO hA1 hr0 h4 h0c, h4⟩⟩, hP, hD, hS, lv_sub hl [0, 1] rfl⟩
            · have e1 : mo (mBad g1 g2 (mL n g3 br L) g6 g5 (nI rr)) n = 1 := if_neg h0c
              rw [e1] at hl
              rw [ml_s n g3 br L _ (fun j hj hq => ((mr_bad hM hO hA1 hr0 h4 hj).mp hq).1)] at hP hD
              have ecn := m_cnt_bad (g3 := g3) hM hO hA1 hr0 h4
              have hle9 := cnt_le (brL br (fun j => L j || mBad g1 g2 (mL n g3 br L) g6 g5 (nI rr) j)) n
              exact ih (n - cnt (brL br (fun j => L j || mBad g1 g2 (mL n g3 br L) g6 g5 (nI rr) j)) n + 1) ((fun j => L j || mBad g1 g2 (mL n g3 br L) g6 g5 (nI rr) j), g6, true) _ _ _ (by omega) ⟨⟨rfl, m_least_bad hM hO hA1 hr0 h4 hle, fun q => absurd (show true = false from q) (by decide)⟩, hP, hD, hS, lv_sub hl [0, 1] rfl⟩
          · have hlt := na_nge (by omega) hkn hc6
            refine lv_aload_n hx hb dX1_lay_115 rfl (lv_at hl 0 rfl) ?_
            refine va_get (D := (dC, dI)) (ci := 1) (v := .ref b1) (C := RX1) (T := TX1) (N := 10) hx hb hts in_X1_lay hown hK hP 0 rfl rfl 0 (by decide) (hts (.fieldLink RX1 9 "BranchLengthsModel" "kinds" "[I") (by decide +kernel)) (fun _ h9 => h9) rfl dX1_lay_116 ?_
            refine lv_iload_n hx hb dX1_lay_119 rfl (lv_at hl 2 rfl) ?_
            refine na_iald (k := k) hx hb hK hP 1 0 rfl rfl (by omega) (by decide) dX1_lay_120 ?_
            refine lv_iconst (v := 2) hx hb dX1_lay_121 (by decide) ?_
            refine lv_icmp_ne (tgt := 145) hx hb dX1_lay_122 (by decide) (fun hc7 => ?_) (fun hc7 => ?_)
            · have hbad : ¬ mBad g1 g2 (mL n g3 br L) g6 g5 (nI rr) k = true := fun q => hc7 (mBad_k.mp q).1
              refine lv_iinc (v := nI (k + 1)) (lv' := [(2, .int (nI (k + 1))), (0, .ref h1), (1, .int (mo (mBad g1 g2 (mL n g3 br L) g6 g5 (nI rr)) k))]) hx hb dX1_lay_145 hl (k := 2) rfl (nI_1 _) (by decide) rfl (fun ls hl => ?_)
              refine lv_goto (tgt := 107) hx hb dX1_lay_148 (by decide) ?_
              have hl := lv_sub hl (l' := [(0, .ref h1), (1, .int (mo (mBad g1 g2 (mL n g3 br L) g6 g5 (nI rr)) k)), (2, .int (nI (k + 1)))]) [1, 2, 0] rfl
              exact ih2 (n - (k + 1)) (k + 1) _ _ _ (by omega) ⟨⟨by omega, rfl⟩, by rw [← mS_n hbad]; exact hP, by rw [← mS_n hbad]; exact hD, hS, by rw [mo_n hbad]; exact hl⟩
            · obtain ⟨t, q, ht1, hq1, e2, e5⟩ := mr_tq hM hO hA1 hlt hc7
              refine lv_aload_n hx hb dX1_lay_125 rfl (lv_at hl 0 rfl) ?_
              refine lv_iload_n hx hb dX1_lay_126 rfl (lv_at hl 2 rfl) ?_
              refine na_calli (As := [.int (nI k)]) (rest := []) (wc := [(h1, .inr (1, [.ref b1, .ref b2, .ref b3, .ref b4, .ref b5, .int (nI n), .int (nI K), .int (nI rr), .int (-1), .int 0])), (b1, .inl (cA, 2000, .inl g1)), (b2, .inl (cA, 2000, .inl g2)), (b3, .inl (cZ, 2000, .inl (mS (mL n g3 br L) (mBad g1 g2 (mL n g3 br L) g6 g5 (nI rr)) k))), (b4, .inl (cA, 2001, .inl g6)), (b5, .inl (cA, 2000, .inl g5))]) (wr := []) (ci := 1) ⟨hx, hb, hml, hown, hts⟩ (m_reaches l dC dI cA cZ h1 b1 b2 b3 b4 b5 H.size g1 g2 (mS (mL n g3 br L) (mBad g1 g2 (mL n g3 br L) g6 g5 (nI rr)) k) g6 g5 n k t q (nI K) (nI rr) (-1) 0 (by omega) ht1 hq1 e2 e5) (cwV 1 hts gX1_lay_X1_reaches rfl rfl rfl (by decide +kernel) ⟨Nat.le_of_ble_eq_true rfl, Nat.le_of_ble_eq_true rfl⟩) hK hP hD hS hA [0, 1, 2, 3, 4, 5] [] rfl rfl rfl rfl (by decide) rfl rfl 0 rfl rfl hl.1 (Nat.le_of_ble_eq_true rfl) dX1_lay_127 ⟨Nat.le_of_ble_eq_true rfl, Nat.le_of_ble_eq_true rfl⟩ rfl (fun r u H locs hw hP hD hS => ?_)
              have hP : va_P (dC, dI) vwCl [(h1, .inr (1, [.ref b1, .ref b2, .ref b3, .ref b4, .ref b5, .int (nI n), .int (nI K), .int (nI rr), .int (-1), .int 0])), (b1, .inl (cA, 2000, .inl g1)), (b2, .inl (cA, 2000, .inl g2)), (b3, .inl (cZ, 2000, .inl (mS (mL n g3 br L) (mBad g1 g2 (mL n g3 br L) g6 g5 (nI rr)) k))), (b4, .inl (cA, 2001, .inl g6)), (b5, .inl (cA, 2000, .inl g5))] H := hP
              have hD : va_D A [(h1, .inr (1, [.ref b1, .ref b2, .ref b3, .ref b4, .ref b5, .int (nI n), .int (nI K), .int (nI rr), .int (-1), .int 0])), (b1, .inl (cA, 2000, .inl g1)), (b2, .inl (cA, 2000, .inl g2)), (b3, .inl (cZ, 2000, .inl (mS (mL n g3 br L) (mBad g1 g2 (mL n g3 br L) g6 g5 (nI rr)) k))), (b4, .inl (cA, 2001, .inl g6)), (b5, .inl (cA, 2000, .inl g5))] := hD
              have er : mRc g2 (mS (mL n g3 br L) (mBad g1 g2 (mL n g3 br L) g6 g5 (nI rr)) k) g6 g5 (nI rr) k ↔ mRc g2 (mL n g3 br L) g6 g5 (nI rr) k := by unfold mRc; rw [mS_at]
              refine lv_if_eq (tgt := 136) hx hb dX1_lay_130 (by decide) (fun hc8 => ?_) (fun hc8 => ?_)
              · have hbad : mBad g1 g2 (mL n g3 br L) g6 g5 (nI rr) k = true := mBad_k.mpr ⟨hc7, fun q => by
                  rcases hw with ⟨h8, h9⟩ | ⟨h8, h9⟩
                  · rw [hc8] at h8; exact absurd h8 (by decide)
                  · exact h9 (er.mpr q)⟩
                refine lv_aload_n hx hb dX1_lay_136 rfl (lv_at hl 0 rfl) ?_
                refine va_get (D := (dC, dI)) (ci := 1) (v := .ref b3) (C := RX1) (T := TX1) (N := 10) hx hb hts in_X1_lay hown hK hP 0 rfl rfl 2 (by decide) (hts (.fieldLink RX1 16 "BranchLengthsModel" "longOnes" "[Z") (by decide +kernel)) (fun _ h9 => h9) rfl dX1_lay_137 ?_
                refine lv_iload_n hx hb dX1_lay_140 rfl (lv_at hl 2 rfl) ?_
                refine lv_iconst (v := 1) hx hb dX1_lay_141 (by decide) ?_
                refine na_zast (k := k) hx hb hK hP hD hS 3 1 rfl rfl (by decide) (by omega) (by decide) (mS (mL n g3 br L) (mBad g1 g2 (mL n g3 br L) g6 g5 (nI rr)) (k + 1)) (mS_b hbad) dX1_lay_142 (fun H locs hP hD hS => ?_)
                have hP : va_P (dC, dI) vwCl [(h1, .inr (1, [.ref b1, .ref b2, .ref b3, .ref b4, .ref b5, .int (nI n), .int (nI K), .int (nI rr), .int (-1), .int 0])), (b1, .inl (cA, 2000, .inl g1)), (b2, .inl (cA, 2000, .inl g2)), (b3, .inl (cZ, 2000, .inl (mS (mL n g3 br L) (mBad g1 g2 (mL n g3 br L) g6 g5 (nI rr)) (k + 1)))), (b4, .inl (cA, 2001, .inl g6)), (b5, .inl (cA, 2000, .inl g5))] H := hP
                have hD : va_D A [(h1, .inr (1, [.ref b1, .ref b2, .ref b3, .ref b4, .ref b5, .int (nI n), .int (nI K), .int (nI rr), .int (-1), .int 0])), (b1, .inl (cA, 2000, .inl g1)), (b2, .inl (cA, 2000, .inl g2)), (b3, .inl (cZ, 2000, .inl (mS (mL n g3 br L) (mBad g1 g2 (mL n g3 br L) g6 g5 (nI rr)) (k + 1)))), (b4, .inl (cA, 2001, .inl g6)), (b5, .inl (cA, 2000, .inl g5))] := hD
                refine lv_iconst (v := 1) hx hb dX1_lay_143 rfl ?_
                refine lv_istore_n (lv' := [(1, .int 1), (0, .ref h1), (2, .int (nI k))]) hx hb dX1_lay_144 rfl hl (by decide) rfl (fun ls hl => ?_)
                refine lv_iinc (v := nI (k + 1)) (lv' := [(2, .int (nI (k + 1))), (1, .int 1), (0, .ref h1)]) hx hb dX1_lay_145 hl (k := 2) rfl (nI_1 _) (by decide) rfl (fun ls hl => ?_)
                refine lv_goto (tgt := 107) hx hb dX1_lay_148 (by decide) ?_
                have em : (1 : Int32) = mo (mBad g1 g2 (mL n g3 br L) g6 g5 (nI rr)) (k + 1) := (mo_b hbad).symm
                have hl := lv_sub hl (l' := [(0, .ref h1), (1, .int 1), (2, .int (nI (k + 1)))]) [2, 1, 0] rfl
                exact ih2 (n - (k + 1)) (k + 1) _ _ _ (by omega) ⟨⟨by omega, rfl⟩, hP, hD, hS, by rw [mo_b hbad]; exact hl⟩
              · have hbad : ¬ mBad g1 g2 (mL n g3 br L) g6 g5 (nI rr) k = true := fun q => by
                  rcases hw with ⟨h8, h9⟩ | ⟨h8, h9⟩
                  · exact (mBad_k.mp q).2 (er.mp h9)
                  · exact hc8 h8
                refine lv_goto (tgt := 145) hx hb dX1_lay_133 (by decide) ?_
                refine lv_iinc (v := nI (k + 1)) (lv' := [(2, .int (nI (k + 1))), (0, .ref h1), (1, .int (mo (mBad g1 g2 (mL n g3 br L) g6 g5 (nI rr)) k))]) hx hb dX1_lay_145 hl (k := 2) rfl (nI_1 _) (by decide) rfl (fun ls hl => ?_)
                refine lv_goto (tgt := 107) hx hb dX1_lay_148 (by decide) ?_
                have hl := lv_sub hl (l' := [(0, .ref h1), (1, .int (mo (mBad g1 g2 (mL n g3 br L) g6 g5 (nI rr)) k)), (2, .int (nI (k + 1)))]) [1, 2, 0] rfl
                exact ih2 (n - (k + 1)) (k + 1) _ _ _ (by omega) ⟨⟨by omega, rfl⟩, by rw [← mS_n hbad]; exact hP, by rw [← mS_n hbad]; exact hD, hS, by rw [mo_n hbad]; exact hl⟩
      · have hlt := na_nge (by omega) hkn hc
        refine lv_aload_n hx hb dX1_lay_80 rfl (lv_at hl 0 rfl) ?_
        refine va_get (D := (dC, dI)) (ci := 1) (v := .ref b3) (C := RX1) (T := TX1) (N := 10) hx hb hts in_X1_lay hown hK hP 0 rfl rfl 2 (by decide) (hts (.fieldLink RX1 16 "BranchLengthsModel" "longOnes" "[Z") (by decide +kernel)) (fun _ h9 => h9) rfl dX1_lay_81 ?_
        refine lv_iload_n hx hb dX1_lay_84 rfl (lv_at hl 1 rfl) ?_
        refine lv_iconst (v := 0) hx hb dX1_lay_85 (by decide) ?_
        refine na_zast (k := k) hx hb hK hP hD hS 3 1 rfl rfl (by decide) (by omega) (by decide) (mZ g3 (k + 1)) (mZ_s g3 k) dX1_lay_86 (fun H locs hP hD hS => ?_)
        have hP : va_P (dC, dI) vwCl [(h1, .inr (1, [.ref b1, .ref b2, .ref b3, .ref b4, .ref b5, .int (nI n), .int (nI K), .int (nI rr), .int (-1), .int 0])), (b1, .inl (cA, 2000, .inl g1)), (b2, .inl (cA, 2000, .inl g2)), (b3, .inl (cZ, 2000, .inl (mZ g3 (k + 1)))), (b4, .inl (cA, 2001, .inl g4)), (b5, .inl (cA, 2000, .inl g5))] H := hP
        have hD : va_D A [(h1, .inr (1, [.ref b1, .ref b2, .ref b3, .ref b4, .ref b5, .int (nI n), .int (nI K), .int (nI rr), .int (-1), .int 0])), (b1, .inl (cA, 2000, .inl g1)), (b2, .inl (cA, 2000, .inl g2)), (b3, .inl (cZ, 2000, .inl (mZ g3 (k + 1)))), (b4, .inl (cA, 2001, .inl g4)), (b5, .inl (cA, 2000, .inl g5))] := hD
        refine lv_iinc (v := nI (k + 1)) (lv' := [(1, .int (nI (k + 1))), (0, .ref h1)]) hx hb dX1_lay_87 hl (k := 1) rfl (nI_1 _) (by decide) rfl (fun ls hl => ?_)
        refine lv_goto (tgt := 72) hx hb dX1_lay_90 (by decide) ?_
        exact ih (n - (k + 1)) (k + 1) _ _ _ (by omega) ⟨⟨by omega, rfl⟩, hP, hD, hS, lv_sub hl [1, 0] rfl⟩
    · exact absurd (show (-1 : Int32) < 0 by decide) hc2
  · have hlt := na_nge (by omega) hkn hc
    refine lv_aload_n hx hb dX1_lay_20 rfl (lv_at hl 0 rfl) ?_
    refine va_get (D := (dC, dI)) (ci := 1) (v := .int (-1)) (C := RX1) (T := TX1) (N := 10) hx hb hts in_X1_lay hown hK hP 0 rfl rfl 8 (by decide) (hts (.fieldLink RX1 30 "BranchLengthsModel" "least" "I") (by decide +kernel)) (fun _ h9 => h9) rfl dX1_lay_21 ?_
    refine lv_if_ge (tgt := 61) hx hb dX1_lay_24 (by decide) (fun hc2 => ?_) (fun hc2 => ?_)
    · exact absurd hc2 (by decide)
    · refine lv_aload_n hx hb dX1_lay_27 rfl (lv_at hl 0 rfl) ?_
      refine va_get (D := (dC, dI)) (ci := 1) (v := .ref b1) (C := RX1) (T := TX1) (N := 10) hx hb hts in_X1_lay hown hK hP 0 rfl rfl 0 (by decide) (hts (.fieldLink RX1 9 "BranchLengthsModel" "kinds" "[I") (by decide +kernel)) (fun _ h9 => h9) rfl dX1_lay_28 ?_
      refine lv_iload_n hx hb dX1_lay_31 rfl (lv_at hl 1 rfl) ?_
      refine na_iald (k := k) hx hb hK hP 1 0 rfl rfl (by omega) (by decide) dX1_lay_32 ?_
      refine lv_iconst (v := 2) hx hb dX1_lay_33 (by decide) ?_
      refine lv_icmp_ne (tgt := 55) hx hb dX1_lay_34 (by decide) (fun hc3 => ?_) (fun hc3 => ?_)
      · refine lv_iinc (v := nI (k + 1)) (lv' := [(1, .int (nI (k + 1))), (0, .ref h1)]) hx hb dX1_lay_55 hl (k := 1) rfl (nI_1 _) (by decide) rfl (fun ls hl => ?_)
        refine lv_goto (tgt := 12) hx hb dX1_lay_58 (by decide) ?_
        exact ih (n - (k + 1)) (k + 1) _ _ _ (by omega) ⟨⟨by omega, rfl, lt_s hinv (fun q => hc3 q.1)⟩, hP, hD, hS, lv_sub hl [1, 0] rfl⟩
      · refine lv_aload_n hx hb dX1_lay_37 rfl (lv_at hl 0 rfl) ?_
        refine va_get (D := (dC, dI)) (ci := 1) (v := .ref b2) (C := RX1) (T := TX1) (N := 10) hx hb hts in_X1_lay hown hK hP 0 rfl rfl 1 (by decide) (hts (.fieldLink RX1 13 "BranchLengthsModel" "numbers" "[I") (by decide +kernel)) (fun _ h9 => h9) rfl dX1_lay_38 ?_
        refine lv_iload_n hx hb dX1_lay_41 rfl (lv_at hl 1 rfl) ?_
        refine na_iald (k := k) hx hb hK hP 2 0 rfl rfl (by omega) (by decide) dX1_lay_42 ?_
        refine lv_aload_n hx hb dX1_lay_43 rfl (lv_at hl 0 rfl) ?_
        refine va_get (D := (dC, dI)) (ci := 1) (v := .int (nI K)) (C := RX1) (T := TX1) (N := 10) hx hb hts in_X1_lay hown hK hP 0 rfl rfl 6 (by decide) (hts (.fieldLink RX1 44 "BranchLengthsModel" "marks" "I") (by decide +kernel)) (fun _ h9 => h9) rfl dX1_lay_44 ?_
        refine lv_icmp_lt (tgt := 55) hx hb dX1_lay_47 (by decide) (fun hc4 => ?_) (fun hc4 => ?_)
        · refine lv_iinc (v := nI (k + 1)) (lv' := [(1, .int (nI (k + 1))), (0, .ref h1)]) hx hb dX1_lay_55 hl (k := 1) rfl (nI_1 _) (by decide) rfl (fun ls hl => ?_)
          refine lv_goto (tgt := 12) hx hb dX1_lay_58 (by decide) ?_
          exact ih (n - (k + 1)) (k + 1) _ _ _ (by omega) ⟨⟨by omega, rfl, lt_s hinv (fun q => q.2 hc4)⟩, hP, hD, hS, lv_sub hl [1, 0] rfl⟩
        · have hmiss : LMiss n K br tg (nI k) := ⟨k, hlt, rfl, ((mr_miss hM hO hlt).mp ⟨hc3, hc4⟩).1, ((mr_miss hM hO hlt).mp ⟨hc3, hc4⟩).2, fun i hi hb => by
            rcases Nat.lt_or_ge (tg i) K with q | q
            · exact q
            · exact absurd ((mr_miss hM hO (by omega)).mpr ⟨hb, q⟩) (hinv i hi)⟩
          refine lv_aload_n hx hb dX1_lay_50 rfl (lv_at hl 0 rfl) ?_
          refine lv_iload_n hx hb dX1_lay_51 rfl (lv_at hl 1 rfl) ?_
          refine va_put (D := (dC, dI)) (ci := 1) (v := .int (nI k)) (ty := .int) (C := RX1) (T := TX1) (N := 10) hx hb hts in_X1_lay tyX1 tyX1_ok nmX1 hown hK hP hD hS 0 rfl rfl 8 (by decide) (hts (.fieldLink RX1 30 "BranchLengthsModel" "least" "I") (by decide +kernel)) (fun _ h9 => h9) rfl (by decide +kernel) rfl rfl (Nat.le_of_ble_eq_true rfl) dX1_lay_52 (fun H locs hP hD hS => ?_)
          have hP : va_P (dC, dI) vwCl [(h1, .inr (1, [.ref b1, .ref b2, .ref b3, .ref b4, .ref b5, .int (nI n), .int (nI K), .int (nI rr), .int (nI k), .int 0])), (b1, .inl (cA, 2000, .inl g1)), (b2, .inl (cA, 2000, .inl g2)), (b3, .inl (cZ, 2000, .inl g3)), (b4, .inl (cA, 2001, .inl g4)), (b5, .inl (cA, 2000, .inl g5))] H := hP
          have hD : va_D A [(h1, .inr (1, [.ref b1, .ref b2, .ref b3, .ref b4, .ref b5, .int (nI n), .int (nI K), .int (nI rr), .int (nI k), .int 0])), (b1, .inl (cA, 2000, .inl g1)), (b2, .inl (cA, 2000, .inl g2)), (b3, .inl (cZ, 2000, .inl g3)), (b4, .inl (cA, 2001, .inl g4)), (b5, .inl (cA, 2000, .inl g5))] := hD
          refine lv_iinc (v := nI (k + 1)) (lv' := [(1, .int (nI (k + 1))), (0, .ref h1)]) hx hb dX1_lay_55 hl (k := 1) rfl (nI_1 _) (by decide) rfl (fun ls hl => ?_)
          refine lv_goto (tgt := 12) hx hb dX1_lay_58 (by decide) ?_
          refine lv_iload_n hx hb dX1_lay_12 rfl (lv_at hl 0 rfl) ?_
          refine lv_aload_n hx hb dX1_lay_13 rfl (lv_at hl 1 rfl) ?_
          refine va_get (D := (dC, dI)) (ci := 1) (v := .int (nI n)) (C := RX1) (T := TX1) (N := 10) hx hb hts in_X1_lay hown hK hP 0 rfl rfl 5 (by decide) (hts (.fieldLink RX1 33 "BranchLengthsModel" "items" "I") (by decide +kernel)) (fun _ h9 => h9) rfl dX1_lay_14 ?_
          refine lv_icmp_ge (tgt := 61) hx hb dX1_lay_17 (by decide) (fun hc5 => ?_) (fun hc5 => ?_)
          · refine lv_aload_n hx hb dX1_lay_61 rfl (lv_at hl 1 rfl) ?_
            refine va_get (D := (dC, dI)) (ci := 1) (v := .int (nI k)) (C := RX1) (T := TX1) (N := 10) hx hb hts in_X1_lay hown hK hP 0 rfl rfl 8 (by decide) (hts (.fieldLink RX1 30 "BranchLengthsModel" "least" "I") (by decide +kernel)) (fun _ h9 => h9) rfl dX1_lay_62 ?_
            refine lv_if_lt (tgt := 70) hx hb dX1_lay_65 (by decide) (fun hc6 => ?_) (fun hc6 => ?_)
            · exact absurd hc6 (nI_pos (by omega))
            · refine lv_iconst (v := -1) hx hb dX1_lay_68 (by decide) ?_
              exact W.iret (v := (-1)) hx hb hr (fun t ht hW => ⟨⟨(-1), (g3, g4, nI k, 0), rfl, Or.inl ⟨hmiss, rfl, rfl⟩, by rw [ht]; exact hP, va_K.moved hW.alike hK, hD⟩, hS.F ht⟩) hS.2.2 dX1_lay_69
          · refine lv_aload_n hx hb dX1_lay_20 rfl (lv_at hl 1 rfl) ?_
            refine va_get (D := (dC, dI)) (ci := 1) (v := .int (nI k)) (C := RX1) (T := TX1) (N := 10) hx hb hts in_X1_lay hown hK hP 0 rfl rfl 8 (by decide) (hts (.fieldLink RX1 30 "BranchLengthsModel" "least" "I") (by decide +kernel)) (fun _ h9 => h9) rfl dX1_lay_21 ?_
            refine lv_if_ge (tgt := 61) hx hb dX1_lay_24 (by decide) (fun hc7 => ?_) (fun hc7 => ?_)
            · refine lv_aload_n hx hb dX1_lay_61 rfl (lv_at hl 1 rfl) ?_
              refine va_get (D := (dC, dI)) (ci := 1) (v := .int (nI k)) (C := RX1) (T := TX1) (N := 10) hx hb hts in_X1_lay hown hK hP 0 rfl rfl 8 (by decide) (hts (.fieldLink RX1 30 "BranchLengthsModel" "least" "I") (by decide +kernel)) (fun _ h9 => h9) rfl dX1_lay_62 ?_
              refine lv_if_lt (tgt := 70) hx hb dX1_lay_65 (by decide) (fun hc6 => ?_) (fun hc6 => ?_)
              · exact absurd hc6 (nI_pos (by omega))
              · refine lv_iconst (v := -1) hx hb dX1_lay_68 (by decide) ?_
                exact W.iret (v := (-1)) hx hb hr (fun t ht hW => ⟨⟨(-1), (g3, g4, nI k, 0), rfl, Or.inl ⟨hmiss, rfl, rfl⟩, by rw [ht]; exact hP, va_K.moved hW.alike hK, hD⟩, hS.F ht⟩) hS.2.2 dX1_lay_69
            · exact absurd (nI_pos' (by omega)) hc7
