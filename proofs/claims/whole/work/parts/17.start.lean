set_option maxHeartbeats 8000000 in
set_option maxRecDepth 100000 in
/-- THE LAW, from its entry -/
theorem whole_start {p : Program} {e : Env} {s : State} {m : MethodId} {below : List Frame} {meth : Method} {c : Code} (l : Launch) {b L : Nat} {xs : Nat → Int32} (hL : L ≤ 1024) (C0 : lw_At p s m meth c b L xs) : W p l e room_1 s m #[Value.ref b] below meth c s.heap [] 0 0 (lw_Z below #[Value.ref b] s) (entryFrame m ([Value.ref b] : List Value).toArray 4) := by
  obtain ⟨hx, hb, hr, hml, hown, hts, hX, hbl, hlocks, hgv⟩ := id C0
  have hA : ∀ q : Nat, s.heap.size ≤ q → (fun q : Nat => s.heap.size ≤ q) q := fun _ h => h
  have hown : s.vm.findClass RL = some m.cls := hown
  have hts : ∀ w ∈ wsL_law, w.before #[Value.ref b] s = true := fun w h => hts w (wsL_law_in w h)
  obtain ⟨c0, iS0, hKn0⟩ := u_known (C := RX0) (T := TX0) (N := 10) (n := 10) hts inlX0 (hts (.instantiable RX0 10) (by decide +kernel))
  obtain ⟨c1, iS1, hKn1⟩ := u_known (C := RX1) (T := TX1) (N := 10) (n := 10) hts inlX1 (hts (.instantiable RX1 10) (by decide +kernel))
  obtain ⟨dC, dI, hKc⟩ : ∃ (dC : Nat → ClassId) (dI : Nat → Nat → Nat), ∀ (k : Nat) (q : vw_C), vwCl[k]? = some q → u_Kn s q.1 q.2.1 q.2.2 (dC k) (dI k) := by
    refine ⟨fun k => if k = 0 then c0 else c1, fun k => if k = 0 then iS0 else iS1, ?_⟩
    intro k q hq
    match k, hq with
    | 0, hq => cases hq; exact hKn0
    | 1, hq => cases hq; exact hKn1
    | k + 2, hq => simp [vwCl] at hq
  have hS : va_S (fun q : Nat => s.heap.size ≤ q) s.heap s.heap [] := va_S.rf
  have hK : va_K (dC, dI) vwCl [] s := ⟨hKc, fun k q h => by simp at h⟩
  have hP : va_P (dC, dI) vwCl [] s.heap := fun k q h => by simp at h
  have hD : va_D (fun q : Nat => s.heap.size ≤ q) [] := ⟨fun i j p q h => by simp at h, fun k q h => by simp at h⟩
  have hl := lv_entry ([.ref b]) (n := 4) (Nat.le_of_ble_eq_true rfl)
  rw [lg_entry_eq]
  generalize (lg_sl ([.ref b]) ++ List.replicate (4 - (lg_sl ([.ref b])).length) Slot.unset).toArray = ls at hl ⊢
  have hl : lv_has ls 4 [(0, .ref b)] := hl
  refine va_new (ci := 0) (fs := [.null, .null, .null, .null, .int 0, .int 0, .int 0, .int 0, .int 0, .int 0]) (C := RX0) (T := TX0) (N := 10) hx hb hts inlX0 tyX0 tyX0_ok hown (hts (.classLink RL 7 RX0) (by decide +kernel)) (hts (.instantiable RX0 10) (by decide +kernel)) (hts (.initialized RX0) (by decide +kernel)) hK hP hD hS hA rfl (fun j hj => by rcases (show j = 0 ∨ j = 1 ∨ j = 2 ∨ j = 3 ∨ j = 4 ∨ j = 5 ∨ j = 6 ∨ j = 7 ∨ j = 8 ∨ j = 9 by omega) with rfl | rfl | rfl | rfl | rfl | rfl | rfl | rfl | rfl | rfl <;> rfl) (show 0 + 1 ≤ 11 by omega) (show 0 + 10 ≤ 18021 by omega) dL_law_0 (fun h0 H hP hD hS => ?_)
  have hP : va_P (dC, dI) vwCl [(h0, .inr (0, [.null, .null, .null, .null, .int 0, .int 0, .int 0, .int 0, .int 0, .int 0]))] H := hP
  have hD : va_D (fun q : Nat => s.heap.size ≤ q) [(h0, .inr (0, [.null, .null, .null, .null, .int 0, .int 0, .int 0, .int 0, .int 0, .int 0]))] := hD
  refine W.widen (k := 1) (n := 10) (by omega) (by omega) ?_
  refine lv_dup hx hb dL_law_3 rfl ?_
  have hPc := hP.sub (ws' := [(h0, .inr (0, [.null, .null, .null, .null, .int 0, .int 0, .int 0, .int 0, .int 0, .int 0]))]) [0] rfl
  have hDc := hD.sub (ws' := [(h0, .inr (0, [.null, .null, .null, .null, .int 0, .int 0, .int 0, .int 0, .int 0, .int 0]))]) [0] (by decide) rfl
  have hKc := hK.sub (tys' := []) [] rfl
  have hFc := va_free (wc := [(h0, .inr (0, [.null, .null, .null, .null, .int 0, .int 0, .int 0, .int 0, .int 0, .int 0]))]) hD hS hA [0] rfl
  refine va_callv (va_runI (As := []) (rest := [.ref h0]) ⟨hx, hb, hml, hown, hts⟩ (c_xinit l dC dI h0 H.size) (cwI 0 hts gL_law_X0_init rfl rfl rfl (hts (.initialized RX0) (by decide +kernel)) (hts (.methodLink RL 9 yX0_init) (by decide +kernel)) (hts (.instanceMethod yX0_init) (by decide +kernel)) rfl (by decide +kernel) ⟨Nat.le_of_ble_eq_true rfl, Nat.le_of_ble_eq_true rfl⟩) ⟨na_blind, fun U hU hW => ⟨rfl, by rw [hU], by rw [hU]; exact hPc, va_K.moved hW.alike hKc, hDc.weaken (fun _ _ _ _ => trivial)⟩⟩ rfl rfl hl.1 rfl (lv_room (Nat.le_of_ble_eq_true rfl)) dL_law_4 ⟨show 1 + 4 ≤ 11 by omega, show 10 + 8000 ≤ 18021 by omega⟩) hS (fun q _ h => hFc q h) hFc (fun u t H1 locs ht hvm hw hB hz1 hk1 hS => ?_)
  obtain ⟨a1, a2, a3, a4, cA, hP1, hK1, hD1⟩ := hB
  rw [ht] at hP1
  have hK1 := va_K.moved hvm.symm hK1
  obtain ⟨hP, hD⟩ := va_join (wr := []) (w1 := [(h0, .inr (0, [.ref a1, .ref a2, .ref a3, .ref a4, .int (nI 0), .int (nI 0), .int 0, .int (nI 1000), .int (-1), .int 0])), (a1, .inl (cA, 2000, .inl (fun _ => 0))), (a2, .inl (cA, 2000, .inl (fun _ => 0))), (a3, .inl (cA, 2000, .inl (fun _ => 0))), (a4, .inl (cA, 2000, .inl (fun _ => 0)))]) hP hD [0] [] rfl rfl (by decide) (by decide) hk1 hFc hP1 hD1
  have hK := hK.app hK1
  generalize H1 = H at hP hS ⊢
  have hP : va_P (dC, dI) vwCl [(h0, .inr (0, [.ref a1, .ref a2, .ref a3, .ref a4, .int (nI 0), .int (nI 0), .int 0, .int (nI 1000), .int (-1), .int 0])), (a1, .inl (cA, 2000, .inl (fun _ => 0))), (a2, .inl (cA, 2000, .inl (fun _ => 0))), (a3, .inl (cA, 2000, .inl (fun _ => 0))), (a4, .inl (cA, 2000, .inl (fun _ => 0)))] H := hP
  have hD : va_D (fun q : Nat => s.heap.size ≤ q) [(h0, .inr (0, [.ref a1, .ref a2, .ref a3, .ref a4, .int (nI 0), .int (nI 0), .int 0, .int (nI 1000), .int (-1), .int 0])), (a1, .inl (cA, 2000, .inl (fun _ => 0))), (a2, .inl (cA, 2000, .inl (fun _ => 0))), (a3, .inl (cA, 2000, .inl (fun _ => 0))), (a4, .inl (cA, 2000, .inl (fun _ => 0)))] := hD
  refine W.widen (k := 5) (n := 8010) (by omega) (by omega) ?_
  have hK : va_K (dC, dI) vwCl [(cA, .int)] s := hK
  refine lv_astore_n (lv' := [(1, .ref h0), (0, .ref b)]) hx hb dL_law_7 rfl hl (by decide) rfl (fun ls hl => ?_)
  refine va_new (ci := 1) (fs := [.null, .null, .null, .null, .null, .int 0, .int 0, .int 0, .int 0, .int 0]) (C := RX1) (T := TX1) (N := 10) hx hb hts inlX1 tyX1 tyX1_ok hown (hts (.classLink RL 10 RX1) (by decide +kernel)) (hts (.instantiable RX1 10) (by decide +kernel)) (hts (.initialized RX1) (by decide +kernel)) hK hP hD hS hA rfl (fun j hj => by rcases (show j = 0 ∨ j = 1 ∨ j = 2 ∨ j = 3 ∨ j = 4 ∨ j = 5 ∨ j = 6 ∨ j = 7 ∨ j = 8 ∨ j = 9 by omega) with rfl | rfl | rfl | rfl | rfl | rfl | rfl | rfl | rfl | rfl <;> rfl) (show 5 + 1 ≤ 11 by omega) (show 8010 + 10 ≤ 18021 by omega) dL_law_8 (fun h1 H hP hD hS => ?_)
  have hP : va_P (dC, dI) vwCl [(h0, .inr (0, [.ref a1, .ref a2, .ref a3, .ref a4, .int (nI 0), .int (nI 0), .int 0, .int (nI 1000), .int (-1), .int 0])), (a1, .inl (cA, 2000, .inl (fun _ => 0))), (a2, .inl (cA, 2000, .inl (fun _ => 0))), (a3, .inl (cA, 2000, .inl (fun _ => 0))), (a4, .inl (cA, 2000, .inl (fun _ => 0))), (h1, .inr (1, [.null, .null, .null, .null, .null, .int 0, .int 0, .int 0, .int 0, .int 0]))] H := hP
  have hD : va_D (fun q : Nat => s.heap.size ≤ q) [(h0, .inr (0, [.ref a1, .ref a2, .ref a3, .ref a4, .int (nI 0), .int (nI 0), .int 0, .int (nI 1000), .int (-1), .int 0])), (a1, .inl (cA, 2000, .inl (fun _ => 0))), (a2, .inl (cA, 2000, .inl (fun _ => 0))), (a3, .inl (cA, 2000, .inl (fun _ => 0))), (a4, .inl (cA, 2000, .inl (fun _ => 0))), (h1, .inr (1, [.null, .null, .null, .null, .null, .int 0, .int 0, .int 0, .int 0, .int 0]))] := hD
  refine W.widen (k := 6) (n := 8020) (by omega) (by omega) ?_
  refine lv_dup hx hb dL_law_11 rfl ?_
  have hPc := hP.sub (ws' := [(h1, .inr (1, [.null, .null, .null, .null, .null, .int 0, .int 0, .int 0, .int 0, .int 0]))]) [5] rfl
  have hDc := hD.sub (ws' := [(h1, .inr (1, [.null, .null, .null, .null, .null, .int 0, .int 0, .int 0, .int 0, .int 0]))]) [5] (by decide) rfl
  have hKc := hK.sub (tys' := []) [] rfl
  have hFc := va_free (wc := [(h1, .inr (1, [.null, .null, .null, .null, .null, .int 0, .int 0, .int 0, .int 0, .int 0]))]) hD hS hA [5] rfl
  refine va_callv (va_runI (As := []) (rest := [.ref h1]) ⟨hx, hb, hml, hown, hts⟩ (m_init l dC dI h1 H.size) (cwI 0 hts gL_law_X1_init rfl rfl rfl (hts (.initialized RX1) (by decide +kernel)) (hts (.methodLink RL 12 yX1_init) (by decide +kernel)) (hts (.instanceMethod yX1_init) (by decide +kernel)) rfl (by decide +kernel) ⟨Nat.le_of_ble_eq_true rfl, Nat.le_of_ble_eq_true rfl⟩) ⟨na_blind, fun U hU hW => ⟨rfl, by rw [hU], by rw [hU]; exact hPc, va_K.moved hW.alike hKc, hDc.weaken (fun _ _ _ _ => trivial)⟩⟩ rfl rfl hl.1 rfl (lv_room (Nat.le_of_ble_eq_true rfl)) dL_law_12 ⟨show 6 + 5 ≤ 11 by omega, show 8020 + 10001 ≤ 18021 by omega⟩) hS (fun q _ h => hFc q h) hFc (fun u t H1 locs ht hvm hw hB hz1 hk1 hS => ?_)
  obtain ⟨b1, b2, b3, b4, b5, cB, cZ, hP1, hK1, hD1⟩ := hB
  rw [ht] at hP1
  have hK1 := va_K.moved hvm.symm hK1
  obtain ⟨hP, hD⟩ := va_join (wr := [(h0, .inr (0, [.ref a1, .ref a2, .ref a3, .ref a4, .int (nI 0), .int (nI 0), .int 0, .int (nI 1000), .int (-1), .int 0])), (a1, .inl (cA, 2000, .inl (fun _ => 0))), (a2, .inl (cA, 2000, .inl (fun _ => 0))), (a3, .inl (cA, 2000, .inl (fun _ => 0))), (a4, .inl (cA, 2000, .inl (fun _ => 0)))]) (w1 := [(h1, .inr (1, [.ref b1, .ref b2, .ref b3, .ref b4, .ref b5, .int (nI 0), .int (nI 0), .int (nI 1000), .int (-1), .int 0])), (b1, .inl (cB, 2000, .inl (fun _ => 0))), (b2, .inl (cB, 2000, .inl (fun _ => 0))), (b3, .inl (cZ, 2000, .inl (fun _ => 0))), (b4, .inl (cB, 2001, .inl (fun _ => 0))), (b5, .inl (cB, 2000, .inl (fun _ => 0)))]) hP hD [5] [0, 1, 2, 3, 4] rfl rfl (by decide) (by decide) hk1 hFc hP1 hD1
  have hK := hK.app hK1
  generalize H1 = H at hP hS ⊢
  have hP : va_P (dC, dI) vwCl [(h0, .inr (0, [.ref a1, .ref a2, .ref a3, .ref a4, .int (nI 0), .int (nI 0), .int 0, .int (nI 1000), .int (-1), .int 0])), (a1, .inl (cA, 2000, .inl (fun _ => 0))), (a2, .inl (cA, 2000, .inl (fun _ => 0))), (a3, .inl (cA, 2000, .inl (fun _ => 0))), (a4, .inl (cA, 2000, .inl (fun _ => 0))), (h1, .inr (1, [.ref b1, .ref b2, .ref b3, .ref b4, .ref b5, .int (nI 0), .int (nI 0), .int (nI 1000), .int (-1), .int 0])), (b1, .inl (cB, 2000, .inl (fun _ => 0))), (b2, .inl (cB, 2000, .inl (fun _ => 0))), (b3, .inl (cZ, 2000, .inl (fun _ => 0))), (b4, .inl (cB, 2001, .inl (fun _ => 0))), (b5, .inl (cB, 2000, .inl (fun _ => 0)))] H := hP
  have hD : va_D (fun q : Nat => s.heap.size ≤ q) [(h0, .inr (0, [.ref a1, .ref a2, .ref a3, .ref a4, .int (nI 0), .int (nI 0), .int 0, .int (nI 1000), .int (-1), .int 0])), (a1, .inl (cA, 2000, .inl (fun _ => 0))), (a2, .inl (cA, 2000, .inl (fun _ => 0))), (a3, .inl (cA, 2000, .inl (fun _ => 0))), (a4, .inl (cA, 2000, .inl (fun _ => 0))), (h1, .inr (1, [.ref b1, .ref b2, .ref b3, .ref b4, .ref b5, .int (nI 0), .int (nI 0), .int (nI 1000), .int (-1), .int 0])), (b1, .inl (cB, 2000, .inl (fun _ => 0))), (b2, .inl (cB, 2000, .inl (fun _ => 0))), (b3, .inl (cZ, 2000, .inl (fun _ => 0))), (b4, .inl (cB, 2001, .inl (fun _ => 0))), (b5, .inl (cB, 2000, .inl (fun _ => 0)))] := hD
  refine W.widen (k := 11) (n := 18021) (by omega) (by omega) ?_
  have hK : va_K (dC, dI) vwCl [(cA, .int), (cB, .int), (cZ, .boolean)] s := hK
  have hu : cA = cB := na_same_int hK (i := 0) (j := 1) rfl rfl
  subst hu
  have hK := hK.sub (tys' := [(cA, .int), (cZ, .boolean)]) [0, 2] rfl
  refine lv_astore_n (lv' := [(2, .ref h1), (1, .ref h0), (0, .ref b)]) hx hb dL_law_15 rfl hl (by decide) rfl (fun ls hl => ?_)
  refine lv_iconst (v := nI 0) hx hb dL_law_16 (by decide) ?_
  refine lv_istore_n (lv' := [(3, .int (nI 0)), (2, .ref h1), (1, .ref h0), (0, .ref b)]) hx hb dL_law_17 rfl hl (by decide) rfl (fun ls hl => ?_)
  exact law_loop hL C0 hA (fun _ h => h) hK (inv_0 (by omega)) hP hD hS (lv_sub hl [3, 2, 1, 0] rfl)
