-- THE REFERENCE: what its methods do, as functions over ints; and the row behind them
def mV (g1 g2 g3 : Nat → Int32) : Nat → Int32 := fun j => if g1 j = 0 then g2 j else if g1 j = 1 then 0 else if g3 j = 0 then 1 else 2
def mA (v g4 : Nat → Int32) (k : Nat) : Nat → Int32 := fun j => if j ≤ k then bx_sum v j else g4 j
theorem mA_0 (v g4 : Nat → Int32) : upd g4 0 (bx_sum v 0) = mA v g4 0 := na_fun fun j => by
  rw [na_upd]
  unfold mA
  by_cases hj : j = 0
  · subst hj
    rw [if_pos rfl, if_pos (Nat.le_refl _)]
  · rw [if_neg hj, if_neg (by omega)]
theorem mA_at (v g4 : Nat → Int32) (k : Nat) : mA v g4 k k = bx_sum v k := if_pos (Nat.le_refl _)
theorem mA_s (v g4 : Nat → Int32) (k : Nat) : upd (mA v g4 k) (k + 1) (bx_sum v (k + 1)) = mA v g4 (k + 1) := na_fun fun j => by
  rw [na_upd]
  unfold mA
  by_cases hj : j = k + 1
  · subst hj
    rw [if_pos rfl, if_pos (Nat.le_refl _)]
  · rw [if_neg hj]
    by_cases hl : j ≤ k
    · rw [if_pos hl, if_pos (by omega)]
    · rw [if_neg hl, if_neg (by omega)]
def mZ (g3 : Nat → Int32) (k : Nat) : Nat → Int32 := fun j => if j < k then 0 else g3 j
theorem mZ_0 (g3 : Nat → Int32) : mZ g3 0 = g3 := na_fun fun j => if_neg (fun q => by omega)
theorem mZ_s (g3 : Nat → Int32) (k : Nat) : upd (mZ g3 k) k 0 = mZ g3 (k + 1) := na_fun fun j => by
  rw [na_upd]
  unfold mZ
  by_cases hj : j = k
  · subst hj
    rw [if_pos rfl, if_pos (by omega)]
  · rw [if_neg hj]
    by_cases hl : j < k
    · rw [if_pos hl, if_pos (by omega)]
    · rw [if_neg hl, if_neg (by omega)]
def mRc (g2 g3 g4 g5 : Nat → Int32) (re : Int32) (j : Nat) : Prop := ¬ g3 j = 0 ∨ xRs g2 g4 g5 re j = true
def mBad (g1 g2 g3 g4 g5 : Nat → Int32) (re : Int32) (j : Nat) : Bool := decide (g1 j = 2) && (decide (g3 j = 0) && !xRs g2 g4 g5 re j)
theorem mBad_k {g1 g2 g3 g4 g5 : Nat → Int32} {re : Int32} {j : Nat} : mBad g1 g2 g3 g4 g5 re j = true ↔ g1 j = 2 ∧ ¬ mRc g2 g3 g4 g5 re j := by
  unfold mBad mRc
  rw [Bool.and_eq_true, Bool.and_eq_true, decide_eq_true_eq, decide_eq_true_eq, Bool.not_eq_true']
  constructor
  · rintro ⟨h1, h2, h3⟩
    refine ⟨h1, fun q => ?_⟩
    rcases q with q | q
    · exact q h2
    · rw [h3] at q
      exact absurd q (by decide)
  · rintro ⟨h1, h2⟩
    rw [not_or, Classical.not_not] at h2
    exact ⟨h1, h2.1, by cases q : xRs g2 g4 g5 re j <;> simp_all⟩
def mS (g3 : Nat → Int32) (bad : Nat → Bool) (k : Nat) : Nat → Int32 := fun j => if j < k ∧ bad j = true then 1 else g3 j
theorem mS_0 (g3 : Nat → Int32) (bad : Nat → Bool) : mS g3 bad 0 = g3 := na_fun fun j => if_neg (fun q => by omega)
theorem mS_at (g3 : Nat → Int32) (bad : Nat → Bool) (k : Nat) : mS g3 bad k k = g3 k := if_neg (fun q => by omega)
theorem mS_n {g3 : Nat → Int32} {bad : Nat → Bool} {k : Nat} (h : ¬ bad k = true) : mS g3 bad k = mS g3 bad (k + 1) := na_fun fun j => by
  unfold mS
  by_cases hj : j = k
  · subst hj
    rw [if_neg (fun q => by omega), if_neg (fun q => h q.2)]
  · by_cases hl : j < k
    · by_cases h2 : bad j = true
      · rw [if_pos ⟨hl, h2⟩, if_pos ⟨by omega, h2⟩]
      · rw [if_neg (fun q => h2 q.2), if_neg (fun q => h2 q.2)]
    · rw [if_neg (fun q => hl q.1), if_neg (fun q => by omega)]
theorem mS_b {g3 : Nat → Int32} {bad : Nat → Bool} {k : Nat} (h : bad k = true) : upd (mS g3 bad k) k 1 = mS g3 bad (k + 1) := na_fun fun j => by
  rw [na_upd]
  unfold mS
  by_cases hj : j = k
  · subst hj
    rw [if_pos rfl, if_pos ⟨by omega, h⟩]
  · rw [if_neg hj]
    by_cases hl : j < k
    · by_cases h2 : bad j = true
      · rw [if_pos ⟨hl, h2⟩, if_pos ⟨by omega, h2⟩]
      · rw [if_neg (fun q => h2 q.2), if_neg (fun q => h2 q.2)]
    · rw [if_neg (fun q => hl q.1), if_neg (fun q => by omega)]
theorem mS_none {g3 : Nat → Int32} {bad : Nat → Bool} {n : Nat} (h : cnt bad n = 0) : mS g3 bad n = g3 := na_fun fun j => by
  unfold mS
  exact if_neg (fun q => cnt_0 n h j q.1 q.2)
/-- is there one: the flag that the loop keeps -/
def mo (bad : Nat → Bool) (k : Nat) : Int32 := if cnt bad k = 0 then 0 else 1
theorem mo_b {bad : Nat → Bool} {k : Nat} (h : bad k = true) : mo bad (k + 1) = 1 := by
  unfold mo
  rw [cnt_s h]
  exact if_neg (by omega)
theorem mo_n {bad : Nat → Bool} {k : Nat} (h : ¬ bad k = true) : mo bad (k + 1) = mo bad k := by
  unfold mo
  rw [cnt_n h]
def MRow (g1 g2 g5 : Nat → Int32) (n K : Nat) (br : Nat → Bool) (b tg mi : Nat → Nat) : Prop := (∀ j, j < n → br j = true → g1 j = 2 ∧ g2 j = nI (tg j)) ∧ (∀ j, j < n → ¬ br j = true → (g1 j = 0 ∧ g2 j = nI (b j)) ∨ (g1 j = 1 ∧ b j = 0)) ∧ ∀ t, t < K → g5 t = nI (mi t)
/-- longOnes, for a set of long branches -/
def mL (n : Nat) (g3 : Nat → Int32) (br L : Nat → Bool) : Nat → Int32 := fun j => if j < n then (if brL br L j = true then 1 else 0) else g3 j
def MLay (n K rr : Nat) (br : Nat → Bool) (b tg mi : Nat → Nat) (g3 g4 : Nat → Int32) (r : Int32) (u : (Nat → Int32) × (Nat → Int32) × Int32 × Int32) : Prop :=
  (LMiss n K br tg u.2.2.1 ∧ r = -1 ∧ u.2.2.2 = 0) ∨
  (LAll n K br tg ∧ u.2.2.1 = -1 ∧ u.2.2.2 = 1 ∧ ∃ L : Nat → Bool, Closd n rr br b (fun j => mi (tg j)) L ∧ Least n rr br b (fun j => mi (tg j)) L ∧ r = nI (ps (wd br b L) n) ∧ (∀ j, j ≤ n → u.2.1 j = nI (ps (wd br b L) j)) ∧ ∀ j, j < n → u.1 j = if brL br L j = true then 1 else 0)
section
variable {g1 g2 g3 g4 g5 : Nat → Int32} {n K rr : Nat} {br : Nat → Bool} {b tg mi : Nat → Nat} {L : Nat → Bool}
theorem mr_br (hM : MRow g1 g2 g5 n K br b tg mi) {j : Nat} (hj : j < n) : g1 j = 2 ↔ br j = true := by
  by_cases hb : br j = true
  · rw [(hM.1 j hj hb).1]
    exact ⟨fun _ => hb, fun _ => rfl⟩
  · refine ⟨fun q => ?_, fun q => absurd q hb⟩
    rcases hM.2.1 j hj hb with h | h
    · rw [h.1] at q
      exact absurd q (by decide)
    · rw [h.1] at q
      exact absurd q (by decide)
/-- an item whose mark is not there, as the code tests it -/
theorem mr_miss (hM : MRow g1 g2 g5 n K br b tg mi) (hO : RowOk n K br b tg mi) {j : Nat} (hj : j < n) : (g1 j = 2 ∧ ¬ g2 j < nI K) ↔ (br j = true ∧ K ≤ tg j) := by
  obtain ⟨o1, o2, o3, o4, o5⟩ := hO
  rw [mr_br hM hj]
  by_cases hb : br j = true
  · rw [(hM.1 j hj hb).2, nI_ltI (o4 j hj hb) (by omega)]
    exact ⟨fun q => ⟨hb, by omega⟩, fun q => ⟨hb, by omega⟩⟩
  · exact ⟨fun q => absurd q.1 hb, fun q => absurd q.1 hb⟩
theorem mr_tq (hM : MRow g1 g2 g5 n K br b tg mi) (hO : RowOk n K br b tg mi) (hA : LAll n K br tg) {j : Nat} (hj : j < n) (h : g1 j = 2) : ∃ t q : Nat, t < 2000 ∧ q < 2000 ∧ g2 j = nI t ∧ g5 t = nI q := by
  have hb := (mr_br hM hj).mp h
  have ht := hA j hj hb
  obtain ⟨o1, o2, o3, o4, o5⟩ := hO
  have := o5 (tg j) ht
  exact ⟨tg j, mi (tg j), by omega, by omega, (hM.1 j hj hb).2, hM.2.2 _ ht⟩
theorem mr_tqe (hM : MRow g1 g2 g5 n K br b tg mi) (hO : RowOk n K br b tg mi) (hA : LAll n K br tg) {j : Nat} (hj : j < n) (hb : br j = true) : xTq g2 g5 j = mi (tg j) := by
  have ht := hA j hj hb
  obtain ⟨o1, o2, o3, o4, o5⟩ := hO
  have := o5 (tg j) ht
  unfold xTq
  rw [(hM.1 j hj hb).2, nI_clamp (by omega), hM.2.2 _ ht, nI_clamp (by omega)]
theorem mr_v (hM : MRow g1 g2 g5 n K br b tg mi) {j : Nat} (hj : j < n) : mV g1 g2 (mL n g3 br L) j = nI (wd br b L j) := by
  unfold mV wd
  by_cases hb : br j = true
  · rw [(hM.1 j hj hb).1, if_neg (by decide), if_neg (by decide), if_pos hb]
    unfold mL brL
    rw [if_pos hj, hb, Bool.true_and]
    by_cases hl : L j = true
    · rw [if_pos hl, if_pos hl, if_neg (by decide)]
      rfl
    · rw [if_neg hl, if_neg hl, if_pos rfl]
      rfl
  · rw [if_neg hb]
    rcases hM.2.1 j hj hb with h | h
    · rw [h.1, if_pos rfl, h.2]
    · rw [h.1, if_neg (by decide), if_pos rfl, h.2]
      rfl
theorem mr_sum (hM : MRow g1 g2 g5 n K br b tg mi) : ∀ k, k ≤ n → bx_sum (mV g1 g2 (mL n g3 br L)) k = nI (ps (wd br b L) k) := by
  intro k
  induction k with
  | zero => intro _; rfl
  | succ k ih =>
    intro h
    show bx_sum _ k + mV g1 g2 (mL n g3 br L) k = _
    rw [ih (by omega), mr_v hM (by omega), nI_add]
    rfl
theorem mr_pl (hM : MRow g1 g2 g5 n K br b tg mi) : ∀ j, j ≤ n → mA (mV g1 g2 (mL n g3 br L)) g4 n j = nI (ps (wd br b L) j) := by
  intro j hj
  unfold mA
  rw [if_pos hj, mr_sum hM j hj]
theorem mr_bad (hM : MRow g1 g2 g5 n K br b tg mi) (hO : RowOk n K br b tg mi) (hA : LAll n K br tg) (hr : rr ≤ 100000) (h4 : ∀ j, j ≤ n → g4 j = nI (ps (wd br b L) j)) {j : Nat} (hj : j < n) : mBad g1 g2 (mL n g3 br L) g4 g5 (nI rr) j = true ↔ br j = true ∧ ¬ L j = true ∧ Far rr (wd br b L) j (mi (tg j)) := by
  unfold mBad
  rw [Bool.and_eq_true, Bool.and_eq_true, decide_eq_true_eq, decide_eq_true_eq, mr_br hM hj]
  by_cases hb : br j = true
  · have e1 : mL n g3 br L j = 0 ↔ ¬ L j = true := by
      unfold mL brL
      rw [if_pos hj, hb, Bool.true_and]
      by_cases hl : L j = true
      · rw [if_pos hl]
        exact ⟨fun q => absurd q (by decide), fun q => absurd hl q⟩
      · rw [if_neg hl]
        exact ⟨fun _ => hl, fun _ => rfl⟩
    have hm := hO.2.2.2.2 (tg j) (hA j hj hb)
    have e2 : (!xRs g2 g4 g5 (nI rr) j) = true ↔ Far rr (wd br b L) j (mi (tg j)) := by
      unfold xRs
      rw [mr_tqe hM hO hA hj hb, h4 _ (Nat.le_of_lt hm), h4 _ (Nat.le_of_lt hj)]
      have h3 := far_code (x := ps (wd br b L) j) (y := ps (wd br b L) (mi (tg j))) (rr := rr) (ps_small hO (by omega)) (ps_small hO (by omega)) hr
      unfold Far
      rw [Bool.not_eq_true', Bool.and_eq_false_iff, decide_eq_false_iff_not, decide_eq_false_iff_not]
      constructor
      · intro q
        refine Classical.byContradiction fun z => ?_
        have := h3.mpr z
        rcases q with q | q
        · exact q this.1
        · exact q this.2
      · intro q
        refine Classical.byContradiction fun z => ?_
        rw [not_or, Classical.not_not, Classical.not_not] at z
        exact h3.mp z q
    rw [e1, e2]
  · exact ⟨fun q => absurd q.1 hb, fun q => absurd q.1 hb⟩
theorem ml_0 (n : Nat) (g3 : Nat → Int32) (br : Nat → Bool) : mZ g3 n = mL n g3 br (fun _ => false) := na_fun fun j => by
  unfold mZ mL brL
  by_cases hj : j < n
  · rw [if_pos hj, if_pos hj, Bool.and_false, if_neg (by decide)]
  · rw [if_neg hj, if_neg hj]
theorem ml_s (n : Nat) (g3 : Nat → Int32) (br L bad : Nat → Bool) (h : ∀ j, j < n → bad j = true → br j = true) : mS (mL n g3 br L) bad n = mL n g3 br (fun j => L j || bad j) := na_fun fun j => by
  unfold mS mL brL
  by_cases hj : j < n
  · by_cases hb : bad j = true
    · rw [if_pos ⟨hj, hb⟩, if_pos hj, if_pos (show (br j && (L j || bad j)) = true by rw [hb, Bool.or_true, h j hj hb]; rfl)]
    · have hf : bad j = false := by cases q : bad j <;> simp_all
      have e9 : ((br j && (fun j => L j || bad j) j) = true) = ((br j && L j) = true) := by show ((br j && (L j || bad j)) = true) = _; rw [hf, Bool.or_false]
      rw [if_neg (fun q => hb q.2), if_pos hj, if_pos hj]
      simp only [e9]
  · rw [if_neg (fun q => hj q.1), if_neg hj, if_neg hj]
theorem m_least_bad (hM : MRow g1 g2 g5 n K br b tg mi) (hO : RowOk n K br b tg mi) (hA : LAll n K br tg) (hr : rr ≤ 100000) (h4 : ∀ j, j ≤ n → g4 j = nI (ps (wd br b L) j)) (h : Least n rr br b (fun j => mi (tg j)) L) : Least n rr br b (fun j => mi (tg j)) (fun j => L j || mBad g1 g2 (mL n g3 br L) g4 g5 (nI rr) j) := by
  refine least_step (fun i hi hb => Nat.le_of_lt (hO.2.2.2.2 _ (hA i hi hb))) h (fun i hi hb hs => ?_)
  rw [Bool.or_eq_true] at hs
  rcases hs with q | q
  · exact Or.inl q
  · exact Or.inr ((mr_bad hM hO hA hr h4 hi).mp q).2.2
theorem m_closd_bad (hM : MRow g1 g2 g5 n K br b tg mi) (hO : RowOk n K br b tg mi) (hA : LAll n K br tg) (hr : rr ≤ 100000) (h4 : ∀ j, j ≤ n → g4 j = nI (ps (wd br b L) j)) (h : cnt (mBad g1 g2 (mL n g3 br L) g4 g5 (nI rr)) n = 0) : Closd n rr br b (fun j => mi (tg j)) L := fun i hi hb hl hf => cnt_0 n h i hi ((mr_bad hM hO hA hr h4 hi).mpr ⟨hb, hl, hf⟩)
theorem m_cnt_bad (hM : MRow g1 g2 g5 n K br b tg mi) (hO : RowOk n K br b tg mi) (hA : LAll n K br tg) (hr : rr ≤ 100000) (h4 : ∀ j, j ≤ n → g4 j = nI (ps (wd br b L) j)) : cnt (brL br (fun j => L j || mBad g1 g2 (mL n g3 br L) g4 g5 (nI rr) j)) n = cnt (brL br L) n + cnt (mBad g1 g2 (mL n g3 br L) g4 g5 (nI rr)) n := by
  refine cnt_add (n := n) (fun i hi => ⟨?_, ?_⟩) n (Nat.le_refl _)
  · unfold brL
    rw [Bool.and_eq_true, Bool.or_eq_true, Bool.and_eq_true]
    constructor
    · rintro ⟨h1, h2 | h2⟩
      · exact Or.inl ⟨h1, h2⟩
      · exact Or.inr h2
    · rintro (⟨h1, h2⟩ | h2)
      · exact ⟨h1, Or.inl h2⟩
      · exact ⟨((mr_bad hM hO hA hr h4 hi).mp h2).1, Or.inr h2⟩
  · unfold brL
    rw [Bool.and_eq_true]
    rintro ⟨⟨h1, h2⟩, h3⟩
    exact ((mr_bad hM hO hA hr h4 hi).mp h3).2.1 h2
end
