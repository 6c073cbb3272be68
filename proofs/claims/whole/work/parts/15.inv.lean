-- WHAT BOTH HOLD: the class's cells and the reference's tell one row, and one layout where it is laid out
def Inv (f1 f2 f3 f4 : Nat → Int32) (n K rr : Nat) (lc lo : Int32) (g1 g2 g3 g4 g5 : Nat → Int32) : Prop :=
  ∃ (br : Nat → Bool) (b tg mi : Nat → Nat), RowOk n K br b tg mi ∧ XRow f1 f2 f4 n K br b tg mi ∧ MRow g1 g2 g5 n K br b tg mi ∧ rr ≤ 100000 ∧
    (lo = 0 ∨ (lo = 1 ∧ ∃ L : Nat → Bool, (∀ j, j < n → f1 j = nI (wd br b L j)) ∧ (∀ j, j < n → f3 j = nI (ps (wd br b L) j)) ∧ lc = nI (cnt (brL br L) n) ∧ (∀ j, j < n → g4 j = nI (ps (wd br b L) j)) ∧ ∀ j, j < n → g3 j = if brL br L j = true then 1 else 0))
theorem inv_0 {f1 f2 f3 f4 : Nat → Int32} {rr : Nat} {lc : Int32} {g1 g2 g3 g4 g5 : Nat → Int32} (hr : rr ≤ 100000) : Inv f1 f2 f3 f4 0 0 rr lc 0 g1 g2 g3 g4 g5 :=
  ⟨fun _ => false, fun _ => 0, fun _ => 0, fun _ => 0, ⟨by omega, by omega, fun j h => absurd h (by omega), fun j h => absurd h (by omega), fun j h => absurd h (by omega)⟩, ⟨fun j h => absurd h (by omega), fun j h => absurd h (by omega), fun j h => absurd h (by omega)⟩, ⟨fun j h => absurd h (by omega), fun j h => absurd h (by omega), fun j h => absurd h (by omega)⟩, hr, Or.inl rfl⟩
def upB {α : Type} (f : Nat → α) (k : Nat) (x : α) : Nat → α := fun j => if j = k then x else f j
theorem upB_s {α : Type} {f : Nat → α} {k : Nat} {x : α} : upB f k x k = x := if_pos rfl
theorem upB_n {α : Type} {f : Nat → α} {k j : Nat} {x : α} (h : j ≠ k) : upB f k x j = f j := if_neg h
section
variable {f1 f2 f3 f4 : Nat → Int32} {n K rr : Nat} {lc lo : Int32} {g1 g2 g3 g4 g5 : Nat → Int32}
/-- one item more, that is no branch, of w words -/
theorem inv_word (h : Inv f1 f2 f3 f4 n K rr lc lo g1 g2 g3 g4 g5) (hn : n + 1 ≤ 1024) {w : Nat} (hw : w ≤ 4000) {x1 y1 y2 : Int32} (h1 : x1 = nI w) (h2 : (y1 = 0 ∧ y2 = nI w) ∨ (y1 = 1 ∧ w = 0)) : Inv (upd f1 n x1) (upd f2 n (-1)) f3 f4 (n + 1) K rr lc 0 (upd g1 n y1) (upd g2 n y2) g3 g4 g5 := by
  obtain ⟨br, b, tg, mi, ⟨o1, o2, o3, o4, o5⟩, ⟨x1', x2', x3'⟩, ⟨m1, m2, m3⟩, hr, -⟩ := h
  refine ⟨upB br n false, upB b n w, tg, mi, ⟨hn, by omega, fun j hj => ?_, fun j hj hb => ?_, fun t ht => ?_⟩, ⟨fun j hj hb => ?_, fun j hj hb => ?_, x3'⟩, ⟨fun j hj hb => ?_, fun j hj hb => ?_, m3⟩, hr, Or.inl rfl⟩
  · by_cases q : j = n
    · subst q; rw [upB_s]; exact hw
    · rw [upB_n q]; exact o3 j (by omega)
  · by_cases q : j = n
    · subst q; rw [upB_s] at hb; exact absurd hb (by decide)
    · rw [upB_n q] at hb; exact o4 j (by omega) hb
  · exact Nat.lt_succ_of_lt (o5 t ht)
  · by_cases q : j = n
    · subst q; rw [upB_s] at hb; exact absurd hb (by decide)
    · rw [upB_n q] at hb; rw [pk_un q, pk_un q]; exact x1' j (by omega) hb
  · by_cases q : j = n
    · subst q; rw [upB_s, pk_us, pk_us]; exact ⟨rfl, h1⟩
    · rw [upB_n q] at hb; rw [upB_n q, pk_un q, pk_un q]; exact x2' j (by omega) hb
  · by_cases q : j = n
    · subst q; rw [upB_s] at hb; exact absurd hb (by decide)
    · rw [upB_n q] at hb; rw [pk_un q, pk_un q]; exact m1 j (by omega) hb
  · by_cases q : j = n
    · subst q; rw [upB_s, pk_us, pk_us]; exact h2
    · rw [upB_n q] at hb; rw [upB_n q, pk_un q, pk_un q]; exact m2 j (by omega) hb
theorem inv_stretch (h : Inv f1 f2 f3 f4 n K rr lc lo g1 g2 g3 g4 g5) (hn : n + 1 ≤ 1024) {p : Int32} (h1 : ¬ p < 0) (h2 : p ≤ 4000) : Inv (upd f1 n p) (upd f2 n (-1)) f3 f4 (n + 1) K rr lc 0 (upd g1 n 0) (upd g2 n p) g3 g4 g5 := by
  obtain ⟨w, hw, e⟩ := nI_of2 (M := 4000) (n := 4000) (by decide) h1 h2
  exact inv_word h hn hw e (Or.inl ⟨rfl, e⟩)
theorem inv_mark (h : Inv f1 f2 f3 f4 n K rr lc lo g1 g2 g3 g4 g5) (hn : n + 1 ≤ 1024) : Inv (upd f1 n 0) (upd f2 n (-1)) f3 (upd f4 K (nI n)) (n + 1) (K + 1) rr lc 0 (upd g1 n 1) (upd g2 n 0) g3 g4 (upd g5 K (nI n)) := by
  obtain ⟨br, b, tg, mi, ⟨o1, o2, o3, o4, o5⟩, ⟨x1, x2, x3⟩, ⟨m1, m2, m3⟩, hr, -⟩ := inv_word h hn (w := 0) (x1 := 0) (y1 := 1) (y2 := 0) (by omega) rfl (Or.inr ⟨rfl, rfl⟩)
  obtain ⟨-, -, -, -, ⟨-, hK, -⟩, -⟩ := h
  refine ⟨br, b, tg, upB mi K n, ⟨o1, by omega, o3, o4, fun t ht => ?_⟩, ⟨x1, x2, fun t ht => ?_⟩, ⟨m1, m2, fun t ht => ?_⟩, hr, Or.inl rfl⟩
  · by_cases q : t = K
    · subst q; rw [upB_s]; omega
    · rw [upB_n q]; exact o5 t (by omega)
  · by_cases q : t = K
    · subst q; rw [upB_s, pk_us]
    · rw [upB_n q, pk_un q]; exact x3 t (by omega)
  · by_cases q : t = K
    · subst q; rw [upB_s, pk_us]
    · rw [upB_n q, pk_un q]; exact m3 t (by omega)
theorem inv_branch (h : Inv f1 f2 f3 f4 n K rr lc lo g1 g2 g3 g4 g5) (hn : n + 1 ≤ 1024) {p : Int32} (h1 : ¬ p < 0) : Inv (upd f1 n 1) (upd f2 n p) f3 f4 (n + 1) K rr lc 0 (upd g1 n 2) (upd g2 n p) g3 g4 g5 := by
  obtain ⟨w, hw, e⟩ := nI_of h1
  obtain ⟨br, b, tg, mi, ⟨o1, o2, o3, o4, o5⟩, ⟨x1', x2', x3'⟩, ⟨m1, m2, m3⟩, hr, -⟩ := h
  refine ⟨upB br n true, upB b n 0, upB tg n w, mi, ⟨hn, by omega, fun j hj => ?_, fun j hj hb => ?_, fun t ht => ?_⟩, ⟨fun j hj hb => ?_, fun j hj hb => ?_, x3'⟩, ⟨fun j hj hb => ?_, fun j hj hb => ?_, m3⟩, hr, Or.inl rfl⟩
  · by_cases q : j = n
    · subst q; rw [upB_s]; omega
    · rw [upB_n q]; exact o3 j (by omega)
  · by_cases q : j = n
    · subst q; rw [upB_s]; exact hw
    · rw [upB_n q] at hb ⊢; exact o4 j (by omega) hb
  · exact Nat.lt_succ_of_lt (o5 t ht)
  · by_cases q : j = n
    · subst q; rw [upB_s, pk_us, pk_us]; exact ⟨e, Or.inl rfl⟩
    · rw [upB_n q] at hb; rw [upB_n q, pk_un q, pk_un q]; exact x1' j (by omega) hb
  · by_cases q : j = n
    · subst q; rw [upB_s] at hb; exact absurd rfl hb
    · rw [upB_n q] at hb; rw [upB_n q, pk_un q, pk_un q]; exact x2' j (by omega) hb
  · by_cases q : j = n
    · subst q; rw [upB_s, pk_us, pk_us]; exact ⟨rfl, e⟩
    · rw [upB_n q] at hb; rw [upB_n q, pk_un q, pk_un q]; exact m1 j (by omega) hb
  · by_cases q : j = n
    · subst q; rw [upB_s] at hb; exact absurd rfl hb
    · rw [upB_n q] at hb; rw [upB_n q, pk_un q, pk_un q]; exact m2 j (by omega) hb
theorem inv_reach (h : Inv f1 f2 f3 f4 n K rr lc lo g1 g2 g3 g4 g5) {r2 : Nat} (hr2 : r2 ≤ 100000) : Inv f1 f2 f3 f4 n K r2 lc 0 g1 g2 g3 g4 g5 := by
  obtain ⟨br, b, tg, mi, o, x, m, hr, -⟩ := h
  exact ⟨br, b, tg, mi, o, x, m, hr2, Or.inl rfl⟩
theorem wd_congr {br : Nat → Bool} {b : Nat → Nat} {L L' : Nat → Bool} {n : Nat} (h : ∀ j, j < n → br j = true → L j = L' j) : ∀ j, j < n → wd br b L j = wd br b L' j := by
  intro j hj
  unfold wd
  by_cases hb : br j = true
  · rw [if_pos hb, if_pos hb, h j hj hb]
  · rw [if_neg hb, if_neg hb]
/-- lay() of both, from one row -/
theorem inv_lay {br : Nat → Bool} {b tg mi : Nat → Nat} (hO : RowOk n K br b tg mi) (hX : XRow f1 f2 f4 n K br b tg mi) (hM : MRow g1 g2 g5 n K br b tg mi) (hr : rr ≤ 100000) {r r' : Int32} {f1' f3' g3' g4' : Nat → Int32} {lc' ml' lo' le' la' : Int32} (h : XLay n K rr br b tg mi f1 f3 lc r (f1', f3', lc', ml', lo')) (h' : MLay n K rr br b tg mi g3 g4 r' (g3', g4', le', la')) : r = r' ∧ le' = ml' ∧ la' = lo' ∧ Inv f1' f2 f3' f4 n K rr lc' lo' g1 g2 g3' g4' g5 := by
  rcases h with ⟨a1, a2, a3, a4, a5, a6⟩ | ⟨a1, a2, a3, L, a4, a5, a6, a7, a8, a9⟩
  · rcases h' with ⟨c1, c2, c3⟩ | ⟨c1, -⟩
    · refine ⟨a2.trans c2.symm, lmiss_uniq c1 a1, c3.trans a6.symm, br, b, tg, mi, hO, ?_, hM, hr, Or.inl a6⟩
      rw [show f1' = f1 from a3]
      exact hX
    · exact absurd c1 (fun q => lmiss_all a1 q)
  · rcases h' with ⟨c1, -⟩ | ⟨c1, c2, c3, L', c4, c5, c6, c7, c8⟩
    · exact absurd a1 (fun q => lmiss_all c1 q)
    · have hu := lfp_uniq a4 a5 c4 c5
      have hw := wd_congr (b := b) hu
      have hp := ps_congr hw
      have a7 : f1' = xF n f1 br b L := a7
      have a8 : f3' = xG n f3 br b L := a8
      refine ⟨by rw [a6, c6, hp n (Nat.le_refl n)], c2.trans a2.symm, c3.trans a3.symm, br, b, tg, mi, hO, ⟨fun j hj hb => ?_, fun j hj hb => ?_, hX.2.2⟩, hM, hr, Or.inr ⟨a3, L, fun j hj => ?_, fun j hj => ?_, a9, fun j hj => ?_, fun j hj => ?_⟩⟩
      · refine ⟨(hX.1 j hj hb).1, ?_⟩
        rw [a7]
        unfold xF wd
        rw [if_pos hj, if_pos hb]
        by_cases hl : L j = true
        · rw [if_pos hl]; exact Or.inr rfl
        · rw [if_neg hl]; exact Or.inl rfl
      · refine ⟨(hX.2.1 j hj hb).1, ?_⟩
        rw [a7]
        unfold xF wd
        rw [if_pos hj, if_neg hb]
      · rw [a7]; exact if_pos hj
      · rw [a8]; exact if_pos hj
      · rw [hp j (by omega)]; exact c7 j (by omega)
      · rw [show g3' j = _ from c8 j hj]
        by_cases hb : br j = true
        · have e : brL br L' j = brL br L j := by unfold brL; rw [hu j hj hb]
          rw [e]
        · have e1 : brL br L' j = false := by unfold brL; cases q : br j <;> simp_all
          have e2 : brL br L j = false := by unfold brL; cases q : br j <;> simp_all
          rw [e1, e2]
theorem inv_place (h : Inv f1 f2 f3 f4 n K rr lc lo g1 g2 g3 g4 g5) (hl : ¬ lo = 0) {k : Nat} (hk : k < n) : f3 k = g4 k := by
  obtain ⟨br, b, tg, mi, o, x, m, hr, q | ⟨-, L, h1, h2, h3, h4, h5⟩⟩ := h
  · exact absurd q hl
  · rw [h2 k hk, h4 k hk]
theorem inv_isLong (h : Inv f1 f2 f3 f4 n K rr lc lo g1 g2 g3 g4 g5) (hl : ¬ lo = 0) {k : Nat} (hk : k < n) : (¬ f2 k = -1 ∧ f1 k = 2) ↔ (g1 k = 2 ∧ ¬ g3 k = 0) := by
  obtain ⟨br, b, tg, mi, o, x, m, hr, q | ⟨-, L, h1, h2, h3, h4, h5⟩⟩ := h
  · exact absurd q hl
  · rw [xr_br x o hk, mr_br m hk, h1 k hk, h5 k hk]
    by_cases hb : br k = true
    · unfold wd brL
      rw [if_pos hb, hb, Bool.true_and]
      by_cases hL : L k = true
      · rw [if_pos hL, if_pos hL]
        exact ⟨fun q => ⟨q.1, by decide⟩, fun q => ⟨q.1, rfl⟩⟩
      · rw [if_neg hL, if_neg hL]
        exact ⟨fun q => absurd q.2 (by decide), fun q => absurd rfl q.2⟩
    · exact ⟨fun q => absurd q.1 hb, fun q => absurd q.1 hb⟩
theorem inv_longs (h : Inv f1 f2 f3 f4 n K rr lc lo g1 g2 g3 g4 g5) (hl : ¬ lo = 0) : lc = nI (cnt (fun j => decide (g1 j = 2) && decide (¬ g3 j = 0)) n) := by
  obtain ⟨br, b, tg, mi, o, x, m, hr, q | ⟨-, L, h1, h2, h3, h4, h5⟩⟩ := h
  · exact absurd q hl
  · rw [h3]
    refine congrArg nI (cnt_congr (n := n) (fun j hj => ?_) n (Nat.le_refl n))
    have e := mr_br m hj
    rw [h5 j hj]
    by_cases hb : br j = true
    · rw [decide_eq_true (e.mpr hb), Bool.true_and]
      unfold brL
      rw [hb, Bool.true_and]
      cases hL : L j with
      | true => rfl
      | false => rfl
    · have e3 : decide (g1 j = 2) = false := decide_eq_false (fun q => hb (e.mp q))
      rw [e3, Bool.false_and]
      unfold brL
      cases q : br j with
      | true => exact absurd q hb
      | false => rfl
theorem inv_ok (h : Inv f1 f2 f3 f4 n K rr lc lo g1 g2 g3 g4 g5) : K ≤ n := by
  obtain ⟨-, -, -, -, ⟨-, hK, -⟩, -⟩ := h
  exact hK
end
/-- the law's own test: there are two ints more -/
theorem law_in {i L : Nat} (hL : L ≤ 1024) (hi : i ≤ L) (h : ¬ Int32.ofNat L - 2 < nI i) : i + 2 ≤ L := by
  have h : ¬ nI L - nI 2 < nI i := h
  rw [Int32.lt_iff_toInt_lt, pk_sub_toInt (by omega) (by omega), nI_toInt (by omega)] at h
  omega
section
variable {p : Program} {l : Launch} {e : Env} {R : Room} {s : State} {m : MethodId} {args : Array Value} {below : List Frame} {meth : Method} {c : Code} {H : Heap} {locs : List Loc} {cells slots : Nat} {Q : State → Prop}
variable {cc : ByteArray} {pc : Nat} {ls : Array Slot} {rest : List Value} {A : Nat → Prop} {H0 : Heap}
/-- the script's int at place k -/
theorem na_sld (hexec : p.tables.exec = Jvm.exec) (hb : c.code = cc) {b L : Nat} {xs : Nat → Int32} (hX : va_X b L xs s H0) (hbl : b < H0.size) (hbA : ¬ A b) (hS : va_S A H0 H locs) {k : Nat} (hk : k < L) (hL : L < 2 ^ 31) (hdg : decode cc pc = .ok (.iaload, 1))
    (kk : W p l e R s m args below meth c H locs cells slots Q (F0 m (pc + 1) ls (.int (xs k) :: rest))) : W p l e R s m args below meth c H locs cells slots Q (F0 m pc ls (.int (nI k) :: .ref b :: rest)) :=
  va_sld hexec hb hX hbl hbA hS (vp_in_nI hk hL) hdg (by rw [nI_clamp (by omega)]; exact kk)
end
