/-! THE BEST POLICY: no run has fewer misses than one that puts out a page whose next use is farthest -/
def b01 (b : Bool) : Nat := if b then 1 else 0
theorem cnt_pt {p q : Nat → Bool} {s : Nat} : ∀ {n : Nat}, s < n → (∀ i, i < n → ¬ i = s → p i = q i) → cnt p n + b01 (q s) = cnt q n + b01 (p s)
  | 0, h, _ => absurd h (Nat.not_lt_zero _)
  | n + 1, h, ho => by
    show cnt p n + b01 (p n) + b01 (q s) = cnt q n + b01 (q n) + b01 (p s)
    by_cases c : s = n
    · subst c
      rw [cnt_cg (p := p) (q := q) (n := s) (fun i hi => ho i (by omega) (by omega))]
      omega
    · have ih := cnt_pt (p := p) (q := q) (s := s) (n := n) (by omega) (fun i hi => ho i (by omega))
      rw [ho n (by omega) (by omega)]
      omega
theorem cnt_max {q : Nat → Bool} : ∀ n, cnt q n ≤ n
  | 0 => Nat.le_refl _
  | n + 1 => by
    have ih := cnt_max (q := q) n
    show cnt q n + (if q n then 1 else 0) ≤ n + 1
    split <;> omega
theorem b01_le {b : Bool} : b01 b ≤ 1 := by cases b <;> decide
theorem cnt_one {q : Nat → Bool} {s : Nat} : ∀ {n : Nat}, s < n → cnt q n + 1 ≤ n + b01 (q s)
  | 0, h => absurd h (Nat.not_lt_zero _)
  | n + 1, h => by
    show cnt q n + b01 (q n) + 1 ≤ n + 1 + b01 (q s)
    by_cases c : s = n
    · subst c
      have := cnt_max (q := q) s
      omega
    · have ih := cnt_one (q := q) (s := s) (n := n) (by omega)
      have := b01_le (b := q n)
      omega
theorem cnt_all {q : Nat → Bool} : ∀ {n : Nat}, (∀ i, i < n → q i = true) → cnt q n = n
  | 0, _ => rfl
  | n + 1, h => by
    show cnt q n + (if q n then 1 else 0) = n + 1
    rw [cnt_all (fun i hi => h i (by omega)), h n (by omega)]
    rfl
theorem cnt_none {q : Nat → Bool} : ∀ {n : Nat}, (∀ i, i < n → q i = false) → cnt q n = 0
  | 0, _ => rfl
  | n + 1, h => by
    show cnt q n + (if q n then 1 else 0) = 0
    rw [cnt_none (fun i hi => h i (by omega)), h n (by omega)]
    rfl
/-- how many of the pages come again before θ -/
def soon (nx : Nat → Nat → Nat) (t : Nat) (pg : Nat → Nat) (n θ : Nat) : Nat := cnt (fun j => decide (nx t (pg j) < θ)) n
def Nxt (nx : Nat → Nat → Nat) (tr : Nat → Nat) (t : Nat) : Prop := nx t (tr t) = t ∧ (∀ x, ¬ x = tr t → nx t x = nx (t + 1) x) ∧ ∀ x, t + 1 ≤ nx (t + 1) x
/-- one page asked for: n pages pg before, n' pages pg' after, d misses -/
def PgS (f p n : Nat) (pg : Nat → Nat) (n' : Nat) (pg' : Nat → Nat) (d : Nat) (E : Nat → Prop) : Prop := (n' = n ∧ pg' = pg ∧ d = 0 ∧ ∃ j, j < n ∧ pg j = p) ∨ (n' = n + 1 ∧ pg' = upF pg n p ∧ d = 1 ∧ n < f ∧ ∀ j, j < n → ¬ pg j = p) ∨ (n' = n ∧ d = 1 ∧ n = f ∧ ∃ v, v < n ∧ pg' = upF pg v p ∧ (∀ j, j < n → ¬ pg j = p) ∧ E v)
theorem soon_hit {nx : Nat → Nat → Nat} {tr : Nat → Nat} {t n θ j : Nat} {pg : Nat → Nat} (N : Nxt nx tr t) (dj : ∀ i j, i < n → j < n → pg i = pg j → i = j) (hj : j < n) (e : pg j = tr t) : soon nx (t + 1) pg n θ + b01 (decide (t < θ)) = soon nx t pg n θ + b01 (decide (nx (t + 1) (tr t) < θ)) := by
  have z := cnt_pt (p := fun i => decide (nx (t + 1) (pg i) < θ)) (q := fun i => decide (nx t (pg i) < θ)) hj (fun i hi hne => by
    have : ¬ pg i = tr t := fun z => hne (dj i j hi hj (z.trans e.symm))
    show decide (nx (t + 1) (pg i) < θ) = decide (nx t (pg i) < θ)
    rw [N.2.1 _ this])
  have e1 : decide (nx t (pg j) < θ) = decide (t < θ) := by rw [e, N.1]
  have e2 : decide (nx (t + 1) (pg j) < θ) = decide (nx (t + 1) (tr t) < θ) := by rw [e]
  show cnt _ n + _ = cnt _ n + _
  rw [← e1, ← e2]
  exact z
theorem soon_same {nx : Nat → Nat → Nat} {tr : Nat → Nat} {t n θ : Nat} {pg : Nat → Nat} (N : Nxt nx tr t) (no : ∀ j, j < n → ¬ pg j = tr t) : soon nx (t + 1) pg n θ = soon nx t pg n θ :=
  cnt_cg (fun i hi => by
    show decide (nx (t + 1) (pg i) < θ) = decide (nx t (pg i) < θ)
    rw [N.2.1 _ (no i hi)])
theorem soon_fill {nx : Nat → Nat → Nat} {tr : Nat → Nat} {t n θ : Nat} {pg : Nat → Nat} (N : Nxt nx tr t) (no : ∀ j, j < n → ¬ pg j = tr t) : soon nx (t + 1) (upF pg n (tr t)) (n + 1) θ = soon nx t pg n θ + b01 (decide (nx (t + 1) (tr t) < θ)) := by
  have e1 : soon nx (t + 1) (upF pg n (tr t)) n θ = soon nx (t + 1) pg n θ := cnt_cg (fun i hi => by
    show decide (nx (t + 1) (upF pg n (tr t) i) < θ) = decide (nx (t + 1) (pg i) < θ)
    rw [show upF pg n (tr t) i = pg i from if_neg (by omega)])
  show soon nx (t + 1) (upF pg n (tr t)) n θ + b01 (decide (nx (t + 1) (upF pg n (tr t) n) < θ)) = _
  rw [e1, soon_same N no, show upF pg n (tr t) n = tr t from if_pos rfl]
theorem soon_evict {nx : Nat → Nat → Nat} {tr : Nat → Nat} {t n θ v : Nat} {pg : Nat → Nat} (N : Nxt nx tr t) (hv : v < n) (no : ∀ j, j < n → ¬ pg j = tr t) : soon nx (t + 1) (upF pg v (tr t)) n θ + b01 (decide (nx (t + 1) (pg v) < θ)) = soon nx t pg n θ + b01 (decide (nx (t + 1) (tr t) < θ)) := by
  have z := cnt_pt (p := fun i => decide (nx (t + 1) (upF pg v (tr t) i) < θ)) (q := fun i => decide (nx (t + 1) (pg i) < θ)) hv (fun i hi hne => by
    show decide (nx (t + 1) (upF pg v (tr t) i) < θ) = decide (nx (t + 1) (pg i) < θ)
    rw [show upF pg v (tr t) i = pg i from if_neg hne])
  have e : upF pg v (tr t) v = tr t := if_pos rfl
  have z2 : soon nx (t + 1) (upF pg v (tr t)) n θ + b01 (decide (nx (t + 1) (pg v) < θ)) = soon nx (t + 1) pg n θ + b01 (decide (nx (t + 1) (upF pg v (tr t) v) < θ)) := z
  rw [e, soon_same N no] at z2
  exact z2
theorem b01_t {P : Prop} [Decidable P] (h : P) : b01 (decide P) = 1 := by rw [decide_eq_true h]; rfl
theorem b01_f {P : Prop} [Decidable P] (h : ¬ P) : b01 (decide P) = 0 := by rw [decide_eq_false h]; rfl
/-- the invariant of Belady's proof -/
theorem belady_step {nx : Nat → Nat → Nat} {tr : Nat → Nat} {f t nS nT nS' nT' mS mA dS dA : Nat} {S T S' T' : Nat → Nat} {E : Nat → Prop} (N : Nxt nx tr t) (N0 : ∀ x, t ≤ nx t x) (dS1 : ∀ i j, i < nS → j < nS → S i = S j → i = j) (dT1 : ∀ i j, i < nT → j < nT → T i = T j → i = j) (hT : nT ≤ f) (I : ∀ θ, mS + soon nx t T nT θ ≤ mA + soon nx t S nS θ) (sS : PgS f (tr t) nS S nS' S' dS (fun v => ∀ j, j < nS → nx (t + 1) (S j) ≤ nx (t + 1) (S v))) (sT : PgS f (tr t) nT T nT' T' dA E) : ∀ θ, mS + dS + soon nx (t + 1) T' nT' θ ≤ mA + dA + soon nx (t + 1) S' nS' θ := by
  intro θ
  have iθ := I θ
  have i0 : mS ≤ mA := by
    have z := I 0
    have e : soon nx t S nS 0 = 0 := cnt_none (fun i _ => decide_eq_false (Nat.not_lt_zero _))
    omega
  have bn := b01_le (b := decide (nx (t + 1) (tr t) < θ))
  have bt := b01_le (b := decide (t < θ))
  -- what stands of T after the step
  have cT := cnt_max (q := fun j => decide (nx t (T j) < θ)) nT
  have hcT : soon nx t T nT θ ≤ nT := cT
  -- a page that T has and S has not
  have fact : (∃ j, j < nT ∧ T j = tr t) → (∀ j, j < nS → ¬ S j = tr t) → mS + 1 ≤ mA := by
    rintro ⟨j, hj, e⟩ no
    have z := I (t + 1)
    have eS : soon nx t S nS (t + 1) = 0 := cnt_none (fun i hi => decide_eq_false (by
      rw [N.2.1 _ (no i hi)]
      have := N.2.2 (S i)
      omega))
    have eT := cnt_pt (p := fun i => decide (nx t (T i) < t + 1)) (q := fun _ => false) hj (fun i hi hne => decide_eq_false (by
      rw [N.2.1 _ (fun w => hne (dT1 i j hi hj (w.trans e.symm)))]
      have := N.2.2 (T i)
      omega))
    have e2 : b01 (decide (nx t (T j) < t + 1)) = 1 := b01_t (by rw [e, N.1]; omega)
    have e3 : cnt (fun _ => false) nT = 0 := cnt_none (fun _ _ => rfl)
    have e4 : b01 false = 0 := rfl
    have eT' : soon nx t T nT (t + 1) + b01 false = cnt (fun _ => false) nT + b01 (decide (nx t (T j) < t + 1)) := eT
    omega
  rcases sS with ⟨a1, a2, a3, j, hj, e⟩ | ⟨a1, a2, a3, hn, no⟩ | ⟨a1, a3, hn, v, hv, a2, no, far⟩
  · rw [a1, a2, a3]
    have hS := soon_hit (θ := θ) N dS1 hj e
    rcases sT with ⟨b1, b2, b3, j', hj', e'⟩ | ⟨b1, b2, b3, hn', no'⟩ | ⟨b1, b3, hn', w, hw, b2, no', far'⟩
    · rw [b1, b2, b3]
      have hT' := soon_hit (θ := θ) N dT1 hj' e'
      omega
    · rw [b1, b2, b3]
      have hT' := soon_fill (θ := θ) N no'
      omega
    · rw [b1, b2, b3]
      have hT' := soon_evict (θ := θ) N hw no'
      omega
  · rw [a1, a2, a3]
    have hS := soon_fill (θ := θ) N no
    rcases sT with ⟨b1, b2, b3, j', hj', e'⟩ | ⟨b1, b2, b3, hn', no'⟩ | ⟨b1, b3, hn', w, hw, b2, no', far'⟩
    · rw [b1, b2, b3]
      have hT' := soon_hit (θ := θ) N dT1 hj' e'
      have F := fact ⟨j', hj', e'⟩ no
      by_cases c : t < θ
      · rw [b01_t c] at hT'
        omega
      · rw [b01_f c] at hT'
        have z : soon nx t T nT θ = 0 := cnt_none (fun i _ => decide_eq_false (by have := N0 (T i); omega))
        omega
    · rw [b1, b2, b3]
      have hT' := soon_fill (θ := θ) N no'
      omega
    · rw [b1, b2, b3]
      have hT' := soon_evict (θ := θ) N hw no'
      omega
  · rw [a1, a2, a3]
    have hS := soon_evict (θ := θ) N hv no
    by_cases cv : nx (t + 1) (S v) < θ
    · rw [b01_t cv] at hS
      have full : soon nx t S nS θ = nS := cnt_all (fun i hi => decide_eq_true (by
        rw [N.2.1 _ (no i hi)]
        have := far i hi
        omega))
      rcases sT with ⟨b1, b2, b3, j', hj', e'⟩ | ⟨b1, b2, b3, hn', no'⟩ | ⟨b1, b3, hn', w, hw, b2, no', far'⟩
      · rw [b1, b2, b3]
        have hT' := soon_hit (θ := θ) N dT1 hj' e'
        have F := fact ⟨j', hj', e'⟩ no
        have ht := N.2.2 (S v)
        rw [b01_t (show t < θ by omega)] at hT'
        omega
      · rw [b1, b2, b3]
        have hT' := soon_fill (θ := θ) N no'
        omega
      · rw [b1, b2, b3]
        have hT' := soon_evict (θ := θ) N hw no'
        have hone := cnt_one (q := fun i => decide (nx (t + 1) (upF T w (tr t) i) < θ)) hw
        have e : upF T w (tr t) w = tr t := if_pos rfl
        have hone' : soon nx (t + 1) (upF T w (tr t)) nT θ + 1 ≤ nT + b01 (decide (nx (t + 1) (upF T w (tr t) w) < θ)) := hone
        rw [e] at hone'
        omega
    · rw [b01_f cv] at hS
      rcases sT with ⟨b1, b2, b3, j', hj', e'⟩ | ⟨b1, b2, b3, hn', no'⟩ | ⟨b1, b3, hn', w, hw, b2, no', far'⟩
      · rw [b1, b2, b3]
        have hT' := soon_hit (θ := θ) N dT1 hj' e'
        have F := fact ⟨j', hj', e'⟩ no
        by_cases c : t < θ
        · rw [b01_t c] at hT'
          omega
        · rw [b01_f c] at hT'
          have z : soon nx t T nT θ = 0 := cnt_none (fun i _ => decide_eq_false (by have := N0 (T i); omega))
          omega
      · rw [b1, b2, b3]
        have hT' := soon_fill (θ := θ) N no'
        omega
      · rw [b1, b2, b3]
        have hT' := soon_evict (θ := θ) N hw no'
        omega
