theorem na_nlt {x : Int32} (h : 0 ≤ x) : ¬ x < 0 := fun q => by
  rw [Int32.lt_iff_toInt_lt] at q
  rw [Int32.le_iff_toInt_le] at h
  omega
theorem na_nge0 {x : Int32} (h : ¬ x < 0) : 0 ≤ x := by
  rw [Int32.lt_iff_toInt_lt] at h
  rw [Int32.le_iff_toInt_le]
  omega
theorem na_same_int {D : va_G} {cl : List vw_C} {tys : List (ClassId × FieldType)} {U : State} {a b : ClassId} (h : va_K D cl tys U) {i j : Nat} (hi : tys[i]? = some (a, .int)) (hj : tys[j]? = some (b, .int)) : a = b := by
  have h1 : U.vm.findClass ("[" ++ FieldType.int.toString) = some a := (h.2 i _ hi).2
  have h2 : U.vm.findClass ("[" ++ FieldType.int.toString) = some b := (h.2 j _ hj).2
  exact Option.some.inj (h1.symm.trans h2)
-- THE ROW: n items, K marks; br: is it a branch; b: its words if not; tg: the mark's number of a branch; mi: the item of a mark
def RowOk (n K : Nat) (br : Nat → Bool) (b tg mi : Nat → Nat) : Prop := n ≤ 1024 ∧ K ≤ n ∧ (∀ j, j < n → b j ≤ 4000) ∧ (∀ j, j < n → br j = true → tg j < 2 ^ 31) ∧ ∀ t, t < K → mi t < n
def LAll (n K : Nat) (br : Nat → Bool) (tg : Nat → Nat) : Prop := ∀ j, j < n → br j = true → tg j < K
def LMiss (n K : Nat) (br : Nat → Bool) (tg : Nat → Nat) (v : Int32) : Prop := ∃ j, j < n ∧ v = nI j ∧ br j = true ∧ K ≤ tg j ∧ ∀ i, i < j → br i = true → tg i < K
theorem lmiss_uniq {n K : Nat} {br : Nat → Bool} {tg : Nat → Nat} {v v' : Int32} (h : LMiss n K br tg v) (h' : LMiss n K br tg v') : v = v' := by
  obtain ⟨j, h1, h2, h3, h4, h5⟩ := h
  obtain ⟨j', g1, g2, g3, g4, g5⟩ := h'
  have e : j = j' := by
    rcases Nat.lt_trichotomy j j' with q | q | q
    · have := g5 j q h3
      omega
    · exact q
    · have := h5 j' q g3
      omega
  rw [h2, g2, e]
theorem lmiss_all {n K : Nat} {br : Nat → Bool} {tg : Nat → Nat} {v : Int32} (h : LMiss n K br tg v) (h' : LAll n K br tg) : False := by
  obtain ⟨j, h1, h2, h3, h4, h5⟩ := h
  have := h' j h1 h3
  omega
def XRow (f1 f2 f4 : Nat → Int32) (n K : Nat) (br : Nat → Bool) (b tg mi : Nat → Nat) : Prop := (∀ j, j < n → br j = true → f2 j = nI (tg j) ∧ (f1 j = 1 ∨ f1 j = 2)) ∧ (∀ j, j < n → ¬ br j = true → f2 j = -1 ∧ f1 j = nI (b j)) ∧ ∀ t, t < K → f4 t = nI (mi t)
def xF (n : Nat) (f1 : Nat → Int32) (br : Nat → Bool) (b : Nat → Nat) (L : Nat → Bool) : Nat → Int32 := fun j => if j < n then nI (wd br b L j) else f1 j
def xG (n : Nat) (f3 : Nat → Int32) (br : Nat → Bool) (b : Nat → Nat) (L : Nat → Bool) : Nat → Int32 := fun j => if j < n then nI (ps (wd br b L) j) else f3 j
def brL (br L : Nat → Bool) : Nat → Bool := fun j => br j && L j
def XLay (n K rr : Nat) (br : Nat → Bool) (b tg mi : Nat → Nat) (f1 f3 : Nat → Int32) (lc : Int32) (r : Int32) (u : (Nat → Int32) × (Nat → Int32) × Int32 × Int32 × Int32) : Prop :=
  (LMiss n K br tg u.2.2.2.1 ∧ r = -1 ∧ u.1 = f1 ∧ u.2.1 = f3 ∧ u.2.2.1 = lc ∧ u.2.2.2.2 = 0) ∨
  (LAll n K br tg ∧ u.2.2.2.1 = -1 ∧ u.2.2.2.2 = 1 ∧ ∃ L : Nat → Bool, Closd n rr br b (fun j => mi (tg j)) L ∧ Least n rr br b (fun j => mi (tg j)) L ∧ r = nI (ps (wd br b L) n) ∧ u.1 = xF n f1 br b L ∧ u.2.1 = xG n f3 br b L ∧ u.2.2.1 = nI (cnt (brL br L) n))
theorem cnt_false : ∀ n, cnt (fun _ => false) n = 0 := by
  intro n
  induction n with
  | zero => rfl
  | succ n ih =>
    simp only [cnt]
    rw [ih]
    rfl
theorem m1_lt (K : Nat) (h : K < 2 ^ 31) : (-1 : Int32) < nI K := by
  rw [Int32.lt_iff_toInt_lt, nI_toInt h]
  have : (-1 : Int32).toInt = -1 := by decide
  omega
theorem nI_m1 {t : Nat} (h : t < 2 ^ 31) : ¬ nI t = -1 := by
  intro q
  have a := nI_toInt h
  rw [q] at a
  have : (-1 : Int32).toInt = -1 := by decide
  omega
section
variable {f1 f2 f3 f4 : Nat → Int32} {n K rr : Nat} {br : Nat → Bool} {b tg mi : Nat → Nat} {L : Nat → Bool}
theorem xr_lt (hX : XRow f1 f2 f4 n K br b tg mi) (hO : RowOk n K br b tg mi) {j : Nat} (hj : j < n) : f2 j < nI K ↔ (br j = true → tg j < K) := by
  obtain ⟨o1, o2, o3, o4, o5⟩ := hO
  by_cases hb : br j = true
  · rw [(hX.1 j hj hb).1]
    have := o4 j hj hb
    constructor
    · intro h _
      exact (nI_ltI this (by omega)).mp h
    · intro h
      exact (nI_ltI this (by omega)).mpr (h hb)
  · rw [(hX.2.1 j hj hb).1]
    exact ⟨fun _ q => absurd q hb, fun _ => m1_lt K (by omega)⟩
theorem xr_fm (hX : XRow f1 f2 f4 n K br b tg mi) (hO : RowOk n K br b tg mi) {r : Int32} (h : xFm f2 (nI K) n r) : (r = -1 ∧ LAll n K br tg) ∨ (¬ r = -1 ∧ LMiss n K br tg r) := by
  rcases h with ⟨h1, h2⟩ | ⟨j, h1, h2, h3, h4⟩
  · exact Or.inl ⟨h1, fun j hj => (xr_lt hX hO hj).mp (h2 j hj)⟩
  · refine Or.inr ⟨by rw [h2]; exact nI_m1 (by have := hO.1; omega), j, h1, h2, ?_, ?_, fun i hi => (xr_lt hX hO (by omega)).mp (h4 i hi)⟩
    · by_cases hb : br j = true
      · exact hb
      · exact absurd ((xr_lt hX hO h1).mpr (fun q => absurd q hb)) h3
    · rcases Nat.lt_or_ge (tg j) K with q | q
      · exact absurd ((xr_lt hX hO h1).mpr (fun _ => q)) h3
      · exact q
theorem xr_br (hX : XRow f1 f2 f4 n K br b tg mi) (hO : RowOk n K br b tg mi) {j : Nat} (hj : j < n) : ¬ f2 j = -1 ↔ br j = true := by
  by_cases hb : br j = true
  · rw [(hX.1 j hj hb).1]
    exact ⟨fun _ => hb, fun _ => nI_m1 (hO.2.2.2.1 j hj hb)⟩
  · rw [(hX.2.1 j hj hb).1]
    exact ⟨fun q => absurd rfl q, fun q => absurd q hb⟩
theorem xr_nn (hX : XRow f1 f2 f4 n K br b tg mi) (hO : RowOk n K br b tg mi) : ∀ j, j < n → ¬ f2 j = -1 → ¬ f2 j < 0 := by
  intro j hj h
  have hb := (xr_br hX hO hj).mp h
  rw [(hX.1 j hj hb).1]
  exact nI_pos (hO.2.2.2.1 j hj hb)
theorem xr_tq (hX : XRow f1 f2 f4 n K br b tg mi) (hO : RowOk n K br b tg mi) (hA : LAll n K br tg) : ∀ j, j < n → ¬ f2 j = -1 → ∃ t q : Nat, t < 2000 ∧ q < 2000 ∧ f2 j = nI t ∧ f4 t = nI q ∧ ¬ nI K ≤ nI t ∧ ¬ nI n ≤ nI q := by
  intro j hj h
  have hb := (xr_br hX hO hj).mp h
  have ht := hA j hj hb
  obtain ⟨o1, o2, o3, o4, o5⟩ := hO
  have hq := o5 (tg j) ht
  exact ⟨tg j, mi (tg j), by omega, by omega, (hX.1 j hj hb).1, hX.2.2 _ ht, nI_ge ht (by omega), nI_ge hq (by omega)⟩
theorem xr_tqe (hX : XRow f1 f2 f4 n K br b tg mi) (hO : RowOk n K br b tg mi) (hA : LAll n K br tg) {j : Nat} (hj : j < n) (hb : br j = true) : xTq f2 f4 j = mi (tg j) := by
  have ht := hA j hj hb
  obtain ⟨o1, o2, o3, o4, o5⟩ := hO
  have := o5 (tg j) ht
  unfold xTq
  rw [(hX.1 j hj hb).1, nI_clamp (by omega), hX.2.2 _ ht, nI_clamp (by omega)]
theorem xr_sh (hX : XRow f1 f2 f4 n K br b tg mi) (hO : RowOk n K br b tg mi) : xSh f1 f2 n = xF n f1 br b (fun _ => false) := na_fun fun j => by
  unfold xSh xF wd
  by_cases hj : j < n
  · rw [if_pos hj]
    by_cases hb : br j = true
    · rw [if_pos ⟨hj, (xr_br hX hO hj).mpr hb⟩, if_pos hb]
      rfl
    · rw [if_neg (fun q => hb ((xr_br hX hO hj).mp q.2)), if_neg hb]
      exact (hX.2.1 j hj hb).2
  · rw [if_neg (fun q => hj q.1), if_neg hj]
theorem xf_sum (f1 : Nat → Int32) (n : Nat) (br : Nat → Bool) (b : Nat → Nat) (L : Nat → Bool) : ∀ k, k ≤ n → bx_sum (xF n f1 br b L) k = nI (ps (wd br b L) k) := by
  intro k
  induction k with
  | zero => intro _; rfl
  | succ k ih =>
    intro h
    show bx_sum (xF n f1 br b L) k + xF n f1 br b L k = _
    rw [ih (by omega)]
    unfold xF
    rw [if_pos (by omega), nI_add]
    rfl
theorem xf_pl (f1 f3 : Nat → Int32) (n : Nat) (br : Nat → Bool) (b : Nat → Nat) (L : Nat → Bool) : xPl (xF n f1 br b L) f3 n = xG n f3 br b L := na_fun fun j => by
  unfold xPl xG
  by_cases hj : j < n
  · rw [if_pos hj, if_pos hj, xf_sum f1 n br b L j (by omega)]
  · rw [if_neg hj, if_neg hj]
theorem xf_pl2 (f1 f3 : Nat → Int32) (n : Nat) (br : Nat → Bool) (b : Nat → Nat) (L L' : Nat → Bool) : xPl (xF n f1 br b L) (xG n f3 br b L') n = xG n f3 br b L := na_fun fun j => by
  unfold xPl xG
  by_cases hj : j < n
  · rw [if_pos hj, if_pos hj, xf_sum f1 n br b L j (by omega)]
  · rw [if_neg hj, if_neg hj, if_neg hj]
theorem wd_le (hO : RowOk n K br b tg mi) : ∀ j, j < n → wd br b L j ≤ 4000 := by
  intro j hj
  have := hO.2.2.1 j hj
  unfold wd
  split
  · split <;> omega
  · exact this
theorem ps_small (hO : RowOk n K br b tg mi) {k : Nat} (hk : k ≤ n) : ps (wd br b L) k < 2 ^ 30 := by
  have h1 := ps_bound (wd_le (L := L) hO) k hk
  have := hO.1
  omega
/-- what isn't far: the two compares of the code -/
theorem far_code {x y rr : Nat} (hx : x < 2 ^ 30) (hy : y < 2 ^ 30) (hr : rr ≤ 100000) : (¬ nI y - nI x < -nI rr ∧ ¬ nI rr < nI y - nI x) ↔ ¬ (x + rr < y ∨ y + rr < x) := by
  rw [Int32.lt_iff_toInt_lt, Int32.lt_iff_toInt_lt, pk_sub_toInt hy hx, sb_negT (by omega), nI_toInt (by omega)]
  omega
theorem xr_bad (hX : XRow f1 f2 f4 n K br b tg mi) (hO : RowOk n K br b tg mi) (hA : LAll n K br tg) (hr : rr ≤ 100000) (L : Nat → Bool) {j : Nat} (hj : j < n) : xBad (xF n f1 br b L) f2 (xG n f3 br b L) f4 (nI rr) j = true ↔ br j = true ∧ ¬ L j = true ∧ Far rr (wd br b L) j (mi (tg j)) := by
  unfold xBad
  rw [Bool.and_eq_true, Bool.and_eq_true, decide_eq_true_eq, decide_eq_true_eq, xr_br hX hO hj]
  by_cases hb : br j = true
  · have e1 : xF n f1 br b L j = 1 ↔ ¬ L j = true := by
      unfold xF wd
      rw [if_pos hj, if_pos hb]
      by_cases hl : L j = true
      · rw [if_pos hl]
        exact ⟨fun q => absurd q (by decide), fun q => absurd hl q⟩
      · rw [if_neg hl]
        exact ⟨fun _ => hl, fun _ => rfl⟩
    have hm := hO.2.2.2.2 (tg j) (hA j hj hb)
    have e2 : (!xRs f2 (xG n f3 br b L) f4 (nI rr) j) = true ↔ Far rr (wd br b L) j (mi (tg j)) := by
      unfold xRs
      rw [xr_tqe hX hO hA hj hb]
      have g1 : xG n f3 br b L (mi (tg j)) = nI (ps (wd br b L) (mi (tg j))) := by
        unfold xG
        rw [if_pos hm]
      have g2 : xG n f3 br b L j = nI (ps (wd br b L) j) := by
        unfold xG
        rw [if_pos hj]
      rw [g1, g2]
      have h3 := far_code (x := ps (wd br b L) j) (y := ps (wd br b L) (mi (tg j))) (rr := rr) (ps_small hO (by omega)) (ps_small hO (by omega)) hr
      unfold Far
      rw [Bool.not_eq_true', Bool.and_eq_false_iff, decide_eq_false_iff_not, decide_eq_false_iff_not]
      constructor
      · intro q
        refine Classical.byContradiction fun z => ?_
        have := h3.mpr z
        rcases q with q | q
        · exact q this.1
        · exact q this.2
      · intro q
        refine Classical.byContradiction fun z => ?_
        rw [not_or, Classical.not_not, Classical.not_not] at z
        exact h3.mp z q
    rw [e1, e2]
  · exact ⟨fun q => absurd q.1 hb, fun q => absurd q.1 hb⟩
theorem xf_ln (f1 : Nat → Int32) (n : Nat) (br : Nat → Bool) (b : Nat → Nat) (L bad : Nat → Bool) (h : ∀ j, j < n → bad j = true → br j = true) : xLn (xF n f1 br b L) bad n = xF n f1 br b (fun j => L j || bad j) := na_fun fun j => by
  unfold xLn xF wd
  by_cases hj : j < n
  · by_cases hb : bad j = true
    · rw [if_pos ⟨hj, hb⟩, if_pos hj, if_pos (h j hj hb), if_pos (show (L j || bad j) = true by rw [hb, Bool.or_true])]
      rfl
    · have hf : bad j = false := by cases q : bad j <;> simp_all
      have e9 : ((fun j => L j || bad j) j = true) = (L j = true) := by show ((L j || bad j) = true) = _; rw [hf, Bool.or_false]
      rw [if_neg (fun q => hb q.2), if_pos hj, if_pos hj]
      simp only [e9]
  · rw [if_neg (fun q => hj q.1), if_neg hj, if_neg hj]
theorem xln_none {f : Nat → Int32} {bad : Nat → Bool} {n : Nat} (h : cnt bad n = 0) : xLn f bad n = f := na_fun fun j => by
  unfold xLn
  exact if_neg (fun q => cnt_0 n h j q.1 q.2)
theorem least_bad (hX : XRow f1 f2 f4 n K br b tg mi) (hO : RowOk n K br b tg mi) (hA : LAll n K br tg) (hr : rr ≤ 100000) {L : Nat → Bool} (h : Least n rr br b (fun j => mi (tg j)) L) : Least n rr br b (fun j => mi (tg j)) (fun j => L j || xBad (xF n f1 br b L) f2 (xG n f3 br b L) f4 (nI rr) j) := by
  refine least_step (fun i hi hb => Nat.le_of_lt (hO.2.2.2.2 _ (hA i hi hb))) h (fun i hi hb hs => ?_)
  rw [Bool.or_eq_true] at hs
  rcases hs with q | q
  · exact Or.inl q
  · exact Or.inr ((xr_bad hX hO hA hr L hi).mp q).2.2
theorem closd_bad (hX : XRow f1 f2 f4 n K br b tg mi) (hO : RowOk n K br b tg mi) (hA : LAll n K br tg) (hr : rr ≤ 100000) {L : Nat → Bool} (h : cnt (xBad (xF n f1 br b L) f2 (xG n f3 br b L) f4 (nI rr)) n = 0) : Closd n rr br b (fun j => mi (tg j)) L := fun i hi hb hl hf => cnt_0 n h i hi ((xr_bad hX hO hA hr L hi).mpr ⟨hb, hl, hf⟩)
theorem cnt_bad (hX : XRow f1 f2 f4 n K br b tg mi) (hO : RowOk n K br b tg mi) (hA : LAll n K br tg) (hr : rr ≤ 100000) (L : Nat → Bool) : cnt (brL br (fun j => L j || xBad (xF n f1 br b L) f2 (xG n f3 br b L) f4 (nI rr) j)) n = cnt (brL br L) n + cnt (xBad (xF n f1 br b L) f2 (xG n f3 br b L) f4 (nI rr)) n := by
  refine cnt_add (n := n) (fun i hi => ⟨?_, ?_⟩) n (Nat.le_refl _)
  · unfold brL
    rw [Bool.and_eq_true, Bool.or_eq_true, Bool.and_eq_true]
    constructor
    · rintro ⟨h1, h2 | h2⟩
      · exact Or.inl ⟨h1, h2⟩
      · exact Or.inr h2
    · rintro (⟨h1, h2⟩ | h2)
      · exact ⟨h1, Or.inl h2⟩
      · exact ⟨((xr_bad hX hO hA hr L hi).mp h2).1, Or.inr h2⟩
  · unfold brL
    rw [Bool.and_eq_true]
    rintro ⟨⟨h1, h2⟩, h3⟩
    exact ((xr_bad hX hO hA hr L hi).mp h3).2.1 h2
theorem closd_full {L : Nat → Bool} {t : Nat → Nat} (h : n ≤ cnt (brL br L) n) : Closd n rr br b t L := fun i hi hb hl _ => hl (by
  have := cnt_all n h i hi
  unfold brL at this
  rw [Bool.and_eq_true] at this
  exact this.2)
end
