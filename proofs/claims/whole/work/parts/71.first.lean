/-! THE MADE HOUSE IS A HOUSE -/
theorem hse0 {x k : Nat} (h : ¬ (x = 302 ∧ k = 0) ∧ ¬ (x = 313 ∧ k = 1) ∧ ¬ (x = 340 ∧ k = 1) ∧ ¬ ((315 ≤ x ∧ x < 331 ∨ 342 ≤ x ∧ x < 358) ∧ k = 0)) : hseI x k = 0 := by
  unfold hseI
  rw [if_neg h.1, if_neg h.2.1, if_neg h.2.2.1, if_neg h.2.2.2]
theorem House_made {g : CH} (hL : Lay g) (h3 : ∀ k, hI g 300 k = if k = 10 then 108 else if k = 11 then 4 else if k = 14 then 1 else 0) (hx : ∀ x k, 301 ≤ x → x < 361 → hI g x k = hseI x k) : House g := by
  refine ⟨⟨hL, fun a k => ⟨fun q => ?_, fun q => ?_, fun q => ?_, fun q => ?_, fun q => ?_, fun q => ?_, fun q => ?_, fun q => ?_⟩⟩, fun i hi e => ?_⟩
  · rw [q.1, q.2, hx 313 1 (by omega) (by omega)]
    exact ⟨8, by omega, by omega, rfl⟩
  · rw [q.1, q.2, hx 313 2 (by omega) (by omega), hse0 (by omega)]
    exact ⟨0, by omega, rfl⟩
  · rw [q.1, q.2, h3]
    exact ⟨0, by omega, rfl⟩
  · left
    rw [q.2.2, hx a 0 (by omega) (by omega)]
    unfold hseI
    rw [if_neg (by omega), if_neg (by omega), if_neg (by omega), if_pos (by omega)]
  · left
    rw [hx a k (by omega) (by omega), hse0 (by omega)]
  · rw [q.1, q.2, hx 310 2 (by omega) (by omega), hse0 (by omega)]
    exact ⟨0, by omega, rfl⟩
  · rw [q.1, hx 311 k (by omega) (by omega), hse0 (by omega)]
    exact ⟨0, by omega, rfl⟩
  · rw [q.1, q.2, hx 335 1 (by omega) (by omega), hse0 (by omega)]
    exact ⟨0, by omega, rfl⟩
  · rw [hx _ 3 (by omega) (by omega), hx _ 9 (by omega) (by omega), hse0 (by omega), hse0 (by omega)]
    exact ⟨rfl, rfl⟩
