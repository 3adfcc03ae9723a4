/-! WHEN A PAGE COMES AGAIN; what the class's question to its trace does -/
def nxF (s : Nat → Nat) (p d : Nat) : Nat → Nat → Nat
  | 0, _ => d
  | m + 1, k => if s k = p then k else nxF s p d m (k + 1)
theorem nxF_in {s : Nat → Nat} {p d : Nat} : ∀ m k, (k ≤ nxF s p d m k ∧ nxF s p d m k < k + m) ∨ nxF s p d m k = d
  | 0, _ => Or.inr rfl
  | m + 1, k => by
    unfold nxF
    split
    · exact Or.inl ⟨Nat.le_refl _, by omega⟩
    · rcases nxF_in (s := s) (p := p) (d := d) m (k + 1) with e | e
      · exact Or.inl ⟨by omega, by omega⟩
      · exact Or.inr e
theorem nxF_dd {s : Nat → Nat} {p d d' : Nat} : ∀ m k, (nxF s p d m k = nxF s p d' m k ∧ nxF s p d m k < k + m) ∨ (nxF s p d m k = d ∧ nxF s p d' m k = d')
  | 0, _ => Or.inr ⟨rfl, rfl⟩
  | m + 1, k => by
    unfold nxF
    split
    · exact Or.inl ⟨rfl, by omega⟩
    · rcases nxF_dd (s := s) (p := p) (d := d) (d' := d') m (k + 1) with e | e
      · exact Or.inl ⟨e.1, by omega⟩
      · exact Or.inr e
theorem nxF_cmp {s : Nat → Nat} {p q : Nat} {m k : Nat} (h : k + m ≤ 100) : (nxF s p 100 m k < nxF s q 100 m k ↔ nxF s p 101 m k < nxF s q 101 m k) ∧ (nxF s p 100 m k = nxF s q 100 m k ↔ nxF s p 101 m k = nxF s q 101 m k) := by
  have a := nxF_dd (s := s) (p := p) (d := 100) (d' := 101) m k
  have b := nxF_dd (s := s) (p := q) (d := 100) (d' := 101) m k
  omega
theorem nxF_no {s : Nat → Nat} {p d m k : Nat} (h : ¬ s k = p) : nxF s p d (m + 1) k = nxF s p d m (k + 1) := by
  show (if s k = p then k else nxF s p d m (k + 1)) = _
  rw [if_neg h]
theorem nxF_yes {s : Nat → Nat} {p d m k : Nat} (h : s k = p) : nxF s p d (m + 1) k = k := by
  show (if s k = p then k else nxF s p d m (k + 1)) = _
  rw [if_pos h]
theorem nxF_Nxt {s : Nat → Nat} {L t : Nat} (h : t < L) (h1 : L ≤ 100) : Nxt (fun t x => nxF s x 100 (L - t) t) s t := by
  obtain ⟨m, hm⟩ : ∃ m, L - t = m + 1 := ⟨L - t - 1, by omega⟩
  have hm' : L - (t + 1) = m := by omega
  refine ⟨?_, fun x hx => ?_, fun x => ?_⟩
  · show nxF s (s t) 100 (L - t) t = t
    rw [hm]
    exact nxF_yes rfl
  · show nxF s x 100 (L - t) t = nxF s x 100 (L - (t + 1)) (t + 1)
    rw [hm, hm']
    exact nxF_no (fun z => hx z.symm)
  · have := nxF_in (s := s) (p := x) (d := 100) (L - (t + 1)) (t + 1)
    show t + 1 ≤ nxF s x 100 (L - (t + 1)) (t + 1)
    omega
theorem nxF_ge {s : Nat → Nat} {L t : Nat} (h : t ≤ L) (h1 : L ≤ 100) (x : Nat) : t ≤ nxF s x 100 (L - t) t := by
  have := nxF_in (s := s) (p := x) (d := 100) (L - t) t
  omega
/-- what looking ahead finds -/
theorem laA_row {h : CH} : ∀ n p, p < n → hI (laA h 335 n) 338 p = 100
  | 0, p, hp => absurd hp (Nat.not_lt_zero _)
  | n + 1, p, hp => by
    unfold laA
    rw [hI_sI]
    by_cases c : p = n
    · rw [if_pos ⟨rfl, c⟩]
    · rw [if_neg (fun z => c z.2)]
      exact laA_row n p (by omega)
theorem laB_row {h : CH} {L : Nat} {s : Nat → Nat} (hs : ∀ i, i < L → hI h 336 i = nI (s i) ∧ s i < 128) (h100 : L ≤ 100) : ∀ (i : Nat) (g : CH), i ≤ L → (∀ k, hI g 336 k = hI h 336 k) → (∀ p, p < 128 → hI g 338 p = nI (nxF s p 100 (L - i) i)) → (∀ j, i ≤ j → j < L → hI g 337 j = nI (nxF s (s j) 100 (L - (j + 1)) (j + 1))) → ∀ j, j < L → hI (laB 335 i g) 337 j = nI (nxF s (s j) 100 (L - (j + 1)) (j + 1))
  | 0, g, hi, e, a, b => fun j hj => b j (Nat.zero_le _) hj
  | i + 1, g, hi, e, a, b => by
    obtain ⟨s1, s2⟩ := hs i (by omega)
    have c : (hI g (335 + 1) i).toNatClampNeg = s i := by
      show (hI g 336 i).toNatClampNeg = s i
      rw [e, s1, nI_clamp (by omega)]
    unfold laB
    refine laB_row hs h100 i _ (by omega) (fun k => ?_) (fun p hp => ?_) (fun j h1 h2 => ?_)
    · unfold laStep
      rw [hI_ne (by omega), hI_ne (by omega)]
      exact e k
    · unfold laStep
      rw [c]
      obtain ⟨m, hm⟩ : ∃ m, L - i = m + 1 := ⟨L - i - 1, by omega⟩
      rw [hm]
      show hI (sI _ 338 (s i) (nI i)) 338 p = _
      rw [hI_sI]
      by_cases q : p = s i
      · rw [if_pos ⟨rfl, q⟩, nxF_yes q.symm]
      · rw [if_neg (fun z => q z.2), nxF_no (fun z => q z.symm), show m = L - (i + 1) by omega, hI_ne (by omega)]
        exact a p hp
    · unfold laStep
      rw [c, hI_ne (by omega)]
      show hI (sI g 337 i (hI g 338 (s i))) 337 j = _
      rw [hI_sI]
      by_cases q : j = i
      · rw [if_pos ⟨rfl, q⟩, q]
        exact a _ s2
      · rw [if_neg (fun z => q z.2)]
        exact b j (by omega) h2
theorem la_row {h : CH} {L : Nat} {s : Nat → Nat} (hs : ∀ i, i < L → hI h 336 i = nI (s i) ∧ s i < 128) (h100 : L ≤ 100) : ∀ j, j < L → hI (laB 335 L (laA h 335 128)) 337 j = nI (nxF s (s j) 100 (L - (j + 1)) (j + 1)) :=
  laB_row hs h100 L _ (Nat.le_refl _) (fun k => hI_laA (by omega) 128) (fun p hp => by rw [laA_row 128 p hp, Nat.sub_self]; rfl) (fun j h1 h2 => absurd h2 (by omega))
