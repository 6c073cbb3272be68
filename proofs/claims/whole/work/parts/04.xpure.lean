-- what the class's methods do, as functions over ints
theorem na_ge {n k : Nat} (hn : n < 2 ^ 31) (hk : k ≤ n) (h : nI n ≤ nI k) : n = k := by
  have := (nI_leI hn (by omega)).mp h
  omega
theorem na_nge {n k : Nat} (hn : n < 2 ^ 31) (hk : k ≤ n) (h : ¬ nI n ≤ nI k) : k < n := by
  rcases Nat.lt_or_ge k n with q | q
  · exact q
  · exact absurd (nI_le q (by omega)) h
theorem na_fun {f g : Nat → Int32} (h : ∀ j, f j = g j) : f = g := funext h
theorem na_upd (f : Nat → Int32) (k : Nat) (x : Int32) (j : Nat) : upd f k x j = if j = k then x else f j := rfl
def xSh (f1 f2 : Nat → Int32) (k : Nat) : Nat → Int32 := fun j => if j < k ∧ ¬ f2 j = -1 then 1 else f1 j
theorem xSh_0 (f1 f2 : Nat → Int32) : xSh f1 f2 0 = f1 := na_fun fun j => if_neg (fun q => by omega)
theorem xSh_n {f1 f2 : Nat → Int32} {k : Nat} (h : f2 k = -1) : xSh f1 f2 k = xSh f1 f2 (k + 1) := na_fun fun j => by
  unfold xSh
  by_cases hj : j = k
  · subst hj
    rw [if_neg (fun q => by omega), if_neg (fun q => q.2 h)]
  · by_cases hl : j < k
    · by_cases h2 : f2 j = -1
      · rw [if_neg (fun q => q.2 h2), if_neg (fun q => q.2 h2)]
      · rw [if_pos ⟨hl, h2⟩, if_pos ⟨by omega, h2⟩]
    · rw [if_neg (fun q => hl q.1), if_neg (fun q => by omega)]
theorem xSh_b {f1 f2 : Nat → Int32} {k : Nat} (h : ¬ f2 k = -1) : upd (xSh f1 f2 k) k 1 = xSh f1 f2 (k + 1) := na_fun fun j => by
  rw [na_upd]
  unfold xSh
  by_cases hj : j = k
  · subst hj
    rw [if_pos rfl, if_pos ⟨by omega, h⟩]
  · rw [if_neg hj]
    by_cases hl : j < k
    · by_cases h2 : f2 j = -1
      · rw [if_neg (fun q => q.2 h2), if_neg (fun q => q.2 h2)]
      · rw [if_pos ⟨hl, h2⟩, if_pos ⟨by omega, h2⟩]
    · rw [if_neg (fun q => hl q.1), if_neg (fun q => by omega)]
def xPl (f1 f3 : Nat → Int32) (k : Nat) : Nat → Int32 := fun j => if j < k then bx_sum f1 j else f3 j
theorem xPl_0 (f1 f3 : Nat → Int32) : xPl f1 f3 0 = f3 := na_fun fun j => if_neg (fun q => by omega)
theorem xPl_s (f1 f3 : Nat → Int32) (k : Nat) : upd (xPl f1 f3 k) k (bx_sum f1 k) = xPl f1 f3 (k + 1) := na_fun fun j => by
  rw [na_upd]
  unfold xPl
  by_cases hj : j = k
  · subst hj
    rw [if_pos rfl, if_pos (by omega)]
  · rw [if_neg hj]
    by_cases hl : j < k
    · rw [if_pos hl, if_pos (by omega)]
    · rw [if_neg hl, if_neg (by omega)]
/-- the item that a branch's mark is -/
def xTq (f2 f4 : Nat → Int32) (j : Nat) : Nat := (f4 (f2 j).toNatClampNeg).toNatClampNeg
def xRs (f2 f3 f4 : Nat → Int32) (rn : Int32) (j : Nat) : Bool := decide (¬ f3 (xTq f2 f4 j) - f3 j < -rn) && decide (¬ rn < f3 (xTq f2 f4 j) - f3 j)
def xBad (f1 f2 f3 f4 : Nat → Int32) (rn : Int32) (j : Nat) : Bool := decide (¬ f2 j = -1) && (decide (f1 j = 1) && !xRs f2 f3 f4 rn j)
def xLn (f1 : Nat → Int32) (bad : Nat → Bool) (k : Nat) : Nat → Int32 := fun j => if j < k ∧ bad j = true then 2 else f1 j
theorem xLn_0 (f1 : Nat → Int32) (bad : Nat → Bool) : xLn f1 bad 0 = f1 := na_fun fun j => if_neg (fun q => by omega)
theorem xLn_at (f1 : Nat → Int32) (bad : Nat → Bool) (k : Nat) : xLn f1 bad k k = f1 k := if_neg (fun q => by omega)
theorem xLn_n {f1 : Nat → Int32} {bad : Nat → Bool} {k : Nat} (h : ¬ bad k = true) : xLn f1 bad k = xLn f1 bad (k + 1) := na_fun fun j => by
  unfold xLn
  by_cases hj : j = k
  · subst hj
    rw [if_neg (fun q => by omega), if_neg (fun q => h q.2)]
  · by_cases hl : j < k
    · by_cases h2 : bad j = true
      · rw [if_pos ⟨hl, h2⟩, if_pos ⟨by omega, h2⟩]
      · rw [if_neg (fun q => h2 q.2), if_neg (fun q => h2 q.2)]
    · rw [if_neg (fun q => hl q.1), if_neg (fun q => by omega)]
theorem xLn_b {f1 : Nat → Int32} {bad : Nat → Bool} {k : Nat} (h : bad k = true) : upd (xLn f1 bad k) k 2 = xLn f1 bad (k + 1) := na_fun fun j => by
  rw [na_upd]
  unfold xLn
  by_cases hj : j = k
  · subst hj
    rw [if_pos rfl, if_pos ⟨by omega, h⟩]
  · rw [if_neg hj]
    by_cases hl : j < k
    · by_cases h2 : bad j = true
      · rw [if_pos ⟨hl, h2⟩, if_pos ⟨by omega, h2⟩]
      · rw [if_neg (fun q => h2 q.2), if_neg (fun q => h2 q.2)]
    · rw [if_neg (fun q => hl q.1), if_neg (fun q => by omega)]
theorem cnt_s {P : Nat → Bool} {k : Nat} (h : P k = true) : cnt P (k + 1) = cnt P k + 1 := by simp only [cnt]; rw [if_pos h]
theorem cnt_n {P : Nat → Bool} {k : Nat} (h : ¬ P k = true) : cnt P (k + 1) = cnt P k := by simp only [cnt]; rw [if_neg h]; rfl
/-- the first item whose number isn't below the marks' number -/
def xFm (f2 : Nat → Int32) (kc : Int32) (n : Nat) (r : Int32) : Prop := (r = -1 ∧ ∀ j, j < n → f2 j < kc) ∨ ∃ j, j < n ∧ r = nI j ∧ ¬ f2 j < kc ∧ ∀ i, i < j → f2 i < kc
theorem na_if0 {P : Prop} [Decidable P] (h : (if P then (1 : Int32) else 0) = 0) : ¬ P := fun q => by
  rw [if_pos q] at h
  exact absurd h (by decide)
theorem na_if1 {P : Prop} [Decidable P] (h : ¬ (if P then (1 : Int32) else 0) = 0) : P := Classical.byContradiction fun q => h (if_neg q)
theorem na_if2 {P : Prop} [Decidable P] (h : (if P then (0 : Int32) else 1) = 0) : P := Classical.byContradiction fun q => by
  rw [if_neg q] at h
  exact absurd h (by decide)
theorem na_nle {x y : Int32} (h : ¬ y ≤ x) : x < y := by
  rw [Int32.le_iff_toInt_le] at h
  rw [Int32.lt_iff_toInt_lt]
  omega
theorem na_nmk {x y : Int32} (h : ¬ (¬ x < 0 ∧ ¬ y ≤ x)) (h0 : ¬ x < 0) : ¬ x < y := fun q => h ⟨h0, fun z => by
  rw [Int32.le_iff_toInt_le] at z
  rw [Int32.lt_iff_toInt_lt] at q
  omega⟩
