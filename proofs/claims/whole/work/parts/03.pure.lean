-- PURE: sums of words, what is far, the least set of long branches (nothing of the machine)
def ps (w : Nat → Nat) : Nat → Nat
  | 0 => 0
  | k + 1 => ps w k + w k
theorem ps_le (w : Nat → Nat) {a b : Nat} (h : a ≤ b) : ps w a ≤ ps w b := by
  induction b with
  | zero =>
    have h0 : a = 0 := by omega
    subst h0
    exact Nat.le_refl _
  | succ b ih =>
    rcases Nat.lt_or_ge b a with q | q
    · have h1 : a = b + 1 := by omega
      subst h1
      exact Nat.le_refl _
    · have h2 := ih q
      simp only [ps]
      omega
theorem ps_mono {w w' : Nat → Nat} {n a : Nat} (h : ∀ j, j < n → w j ≤ w' j) : ∀ b, a ≤ b → b ≤ n → ps w b + ps w' a ≤ ps w' b + ps w a := by
  intro b
  induction b with
  | zero =>
    intro h1 _
    have h0 : a = 0 := by omega
    subst h0
    simp only [ps]
    omega
  | succ b ih =>
    intro h1 h2
    rcases Nat.lt_or_ge b a with q | q
    · have h3 : a = b + 1 := by omega
      subst h3
      omega
    · have h4 := ih q (by omega)
      have h5 := h b (by omega)
      simp only [ps]
      omega
theorem ps_congr {w w' : Nat → Nat} {n : Nat} (h : ∀ j, j < n → w j = w' j) : ∀ b, b ≤ n → ps w b = ps w' b := by
  intro b
  induction b with
  | zero => intro _; rfl
  | succ b ih =>
    intro h1
    simp only [ps]
    rw [ih (by omega), h b (by omega)]
theorem ps_bound {w : Nat → Nat} {n M : Nat} (h : ∀ j, j < n → w j ≤ M) : ∀ b, b ≤ n → ps w b ≤ M * b := by
  intro b
  induction b with
  | zero => intro _; simp [ps]
  | succ b ih =>
    intro h1
    have h2 := ih (by omega)
    have h3 := h b (by omega)
    simp only [ps]
    rw [Nat.mul_add]
    omega
def Far (r : Nat) (w : Nat → Nat) (i t : Nat) : Prop := ps w i + r < ps w t ∨ ps w t + r < ps w i
theorem far_mono {w w' : Nat → Nat} {n r i t : Nat} (h : ∀ j, j < n → w j ≤ w' j) (hi : i ≤ n) (ht : t ≤ n) (hf : Far r w i t) : Far r w' i t := by
  unfold Far at hf ⊢
  rcases Nat.le_total i t with q | q
  · have h1 := ps_mono h t q ht
    have h2 := ps_le w q
    omega
  · have h1 := ps_mono h i q hi
    have h2 := ps_le w q
    omega
def wd (br : Nat → Bool) (b : Nat → Nat) (L : Nat → Bool) : Nat → Nat := fun j => if br j = true then (if L j = true then 2 else 1) else b j
theorem wd_mono {br : Nat → Bool} {b : Nat → Nat} {L L' : Nat → Bool} {n : Nat} (h : ∀ j, j < n → br j = true → L j = true → L' j = true) : ∀ j, j < n → wd br b L j ≤ wd br b L' j := by
  intro j hj
  unfold wd
  by_cases hb : br j = true
  · rw [if_pos hb, if_pos hb]
    by_cases hl : L j = true
    · rw [if_pos hl, if_pos (h j hj hb hl)]
      exact Nat.le_refl _
    · rw [if_neg hl]
      split <;> omega
  · rw [if_neg hb, if_neg hb]
    exact Nat.le_refl _
def Closd (n r : Nat) (br : Nat → Bool) (b t : Nat → Nat) (L : Nat → Bool) : Prop := ∀ i, i < n → br i = true → ¬ L i = true → ¬ Far r (wd br b L) i (t i)
def Least (n r : Nat) (br : Nat → Bool) (b t : Nat → Nat) (L : Nat → Bool) : Prop := ∀ T : Nat → Bool, Closd n r br b t T → ∀ i, i < n → br i = true → L i = true → T i = true
theorem least_0 {n r : Nat} {br : Nat → Bool} {b t : Nat → Nat} {L : Nat → Bool} (h : ∀ i, i < n → br i = true → ¬ L i = true) : Least n r br b t L := fun _ _ i hi hb hl => absurd hl (h i hi hb)
theorem least_step {n r : Nat} {br : Nat → Bool} {b t : Nat → Nat} {S S' : Nat → Bool} (ht : ∀ i, i < n → br i = true → t i ≤ n) (h : Least n r br b t S) (hs : ∀ i, i < n → br i = true → S' i = true → S i = true ∨ Far r (wd br b S) i (t i)) : Least n r br b t S' := by
  intro T hT i hi hb hl
  rcases hs i hi hb hl with q | q
  · exact h T hT i hi hb q
  · by_cases hTi : T i = true
    · exact hTi
    · exact absurd (far_mono (wd_mono (fun j hj hbj hlj => h T hT j hj hbj hlj)) (by omega) (ht i hi hb) q) (hT i hi hb hTi)
theorem lfp_uniq {n r : Nat} {br : Nat → Bool} {b t : Nat → Nat} {S S' : Nat → Bool} (h1 : Closd n r br b t S) (h2 : Least n r br b t S) (h3 : Closd n r br b t S') (h4 : Least n r br b t S') : ∀ i, i < n → br i = true → S i = S' i := by
  intro i hi hb
  have a := h2 S' h3 i hi hb
  have c := h4 S h1 i hi hb
  cases hS : S i <;> cases hS' : S' i <;> simp_all
def cnt (P : Nat → Bool) : Nat → Nat
  | 0 => 0
  | k + 1 => cnt P k + (if P k = true then 1 else 0)
theorem cnt_le (P : Nat → Bool) : ∀ k, cnt P k ≤ k := by
  intro k
  induction k with
  | zero => exact Nat.le_refl _
  | succ k ih =>
    simp only [cnt]
    split <;> omega
theorem cnt_all {P : Nat → Bool} : ∀ n, n ≤ cnt P n → ∀ i, i < n → P i = true := by
  intro n
  induction n with
  | zero => intro _ i hi; omega
  | succ n ih =>
    intro h i hi
    have h1 := cnt_le P n
    simp only [cnt] at h
    by_cases hp : P n = true
    · rcases Nat.lt_or_ge i n with q | q
      · exact ih (by rw [if_pos hp] at h; omega) i q
      · have h2 : i = n := by omega
        subst h2
        exact hp
    · rw [if_neg hp] at h
      omega
theorem cnt_0 {P : Nat → Bool} : ∀ n, cnt P n = 0 → ∀ i, i < n → ¬ P i = true := by
  intro n
  induction n with
  | zero => intro _ i hi; omega
  | succ n ih =>
    intro h i hi hp
    simp only [cnt] at h
    rcases Nat.lt_or_ge i n with q | q
    · exact ih (by omega) i q hp
    · have h2 : i = n := by omega
      subst h2
      rw [if_pos hp] at h
      omega
theorem cnt_congr {P P' : Nat → Bool} {n : Nat} (h : ∀ i, i < n → P i = P' i) : ∀ k, k ≤ n → cnt P k = cnt P' k := by
  intro k
  induction k with
  | zero => intro _; rfl
  | succ k ih =>
    intro hk
    simp only [cnt]
    rw [ih (by omega), h k (by omega)]
theorem cnt_add {P P' P'' : Nat → Bool} {n : Nat} (h : ∀ i, i < n → (P'' i = true ↔ (P i = true ∨ P' i = true)) ∧ ¬ (P i = true ∧ P' i = true)) : ∀ k, k ≤ n → cnt P'' k = cnt P k + cnt P' k := by
  intro k
  induction k with
  | zero => intro _; rfl
  | succ k ih =>
    intro hk
    obtain ⟨h1, h2⟩ := h k (by omega)
    have h3 := ih (by omega)
    simp only [cnt]
    by_cases a : P k = true
    · by_cases b : P' k = true
      · exact absurd ⟨a, b⟩ h2
      · rw [if_pos a, if_neg b, if_pos (h1.mpr (Or.inl a))]
        omega
    · by_cases b : P' k = true
      · rw [if_neg a, if_pos b, if_pos (h1.mpr (Or.inr b))]
        omega
      · rw [if_neg a, if_neg b, if_neg (fun q => (h1.mp q).elim a b)]
        omega
