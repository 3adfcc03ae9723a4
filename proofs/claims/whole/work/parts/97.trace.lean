/-! THE TRACE ON BOTH SIDES -/
theorem CH_ext : ∀ {h g : CH}, h.1 = g.1 → h.2.1 = g.2.1 → h.2.2.1 = g.2.2.1 → h.2.2.2.1 = g.2.2.2.1 → h.2.2.2.2.1 = g.2.2.2.2.1 → h.2.2.2.2.2 = g.2.2.2.2.2 → h = g
  | (_, _, _, _, _, _), (_, _, _, _, _, _), rfl, rfl, rfl, rfl, rfl, rfl => rfl
theorem Im_cg2 {a a' b b' : CH} (I : Im a b) (ta : hT a' = hT a) (ra : hR a' = hR a) (ia : ∀ x k, (x = 300 ∧ k = 8) ∨ 361 ≤ x → hI a' x k = hI a x k) (tb : ∀ x, 361 ≤ x → x < hN b → hT b' x = hT b x) (nb : hN b ≤ hN b') (h3 : 373 ≤ hN b) (i1 : hI b' 371 2 = hI b 371 2) (r1 : hR b' 371 1 = hR b 371 1) (r2 : 373 ≤ hR b 371 1 → hR b 371 1 < hN b → ∀ k, hR b' (hR b 371 1) k = hR b (hR b 371 1) k) (r3 : ∀ x k, 373 ≤ x → x < hN b → (hT b x).1 = 14 → hR b' x k = hR b x k) (ib : ∀ x k, 373 ≤ x → x < hN b → (hT b x).1 = 14 ∨ (hT b x).1 = 100 → hI b' x k = hI b x k) : Im a' b' := by
  obtain ⟨⟨g1, g2, g3⟩, i2, i3, i4⟩ := I
  have en : imN a' = imN a := by unfold imN; rw [ia 300 8 (by omega)]
  refine ⟨⟨by rw [en, ia 300 8 (by omega)]; exact g1, by rw [en]; exact g2, fun k hk => ?_⟩, ?_, ?_, fun k hk => ?_⟩
  · rw [en] at hk
    rw [ta, ra]
    obtain ⟨q1, q2, ⟨d, q3, q4⟩, q5⟩ := g3 k hk
    exact ⟨q1, q2, ⟨d, q3, by rw [ia _ 0 (by omega)]; exact q4⟩, q5⟩
  · rw [i1, en]
    exact i2
  · rw [en, r1]
    rcases i3 with q | ⟨q1, q2, q3⟩
    · exact Or.inl q
    · exact Or.inr ⟨q1, by omega, by rw [tb _ (by omega) q2]; exact q3⟩
  · rw [en] at hk
    have hx : 373 ≤ hR b 371 1 ∧ hR b 371 1 < hN b := by
      rcases i3 with q | ⟨q1, q2, q3⟩
      · omega
      · exact ⟨q1, q2⟩
    rw [ra, r1, r2 hx.1 hx.2]
    obtain ⟨q1, q2, q3, q4, q5, q6, q7, q8, q9, q10, q11⟩ := i4 k hk
    obtain ⟨u1, u2, u3, u4, u5, _⟩ := g3 k hk
    have s1 := r3 _ 1 q2 q3 q1
    have s2 := r3 _ 2 q2 q3 q1
    refine ⟨by rw [tb _ (by omega) q3]; exact q1, q2, by omega, ?_, by rw [s1]; exact q5, by rw [s1]; omega, by rw [s2]; exact q7, by rw [s2]; omega, by rw [s1, tb _ (by omega) q6]; exact q9, by rw [s2, tb _ (by omega) q8]; exact q10, fun j hj => ?_⟩
    · rw [ib _ 0 q2 q3 (Or.inl q1), ia _ 0 (by omega)]; exact q4
    · rw [s1, s2, ra, ib _ j q5 q6 (Or.inr (by rw [q9])), ib _ j q7 q8 (Or.inr (by rw [q10])), ia _ j (by omega), ia _ j (by omega)]
      exact q11 j hj
theorem box_arr {b : CH} {la n : Nat} {f : Nat → Nat} {caps : List Nat} (B : BoxL b la n f caps) : hR b la 1 = 257 ∨ (373 ≤ hR b la 1 ∧ hR b la 1 < hN b ∧ (hT b (hR b la 1)).1 = 108) := by
  rcases B.2.1 with q | ⟨q1, q2, c, q3, q4, q5, q6⟩
  · exact Or.inl q.2
  · exact Or.inr ⟨q1, q2, by rw [q5]⟩
theorem im_arr {a b : CH} (I : Im a b) : hR b 371 1 = 257 ∨ (373 ≤ hR b 371 1 ∧ hR b 371 1 < hN b ∧ (hT b (hR b 371 1)).1 = 108) := by
  rcases I.2.2.1 with q | ⟨q1, q2, q3⟩
  · exact Or.inl q.2
  · exact Or.inr ⟨q1, q2, by rw [q3]⟩
def caps7 : List Nat := [10, 15, 22, 33, 49, 73, 109]
theorem RR_tr {n : Nat} {a a' b b' : CH} (R : RR n a b) (L : LFr b b' 372) (B : BoxL b' 372 (trN a') (trV a') caps7) (H' : House a') (ta : hT a' = hT a) (ra : hR a' = hR a) (ja : hJ a' = hJ a) (e : ∀ x k, ¬ (x = 335 ∧ k = 1) → ¬ x = 336 → hI a' x k = hI a x k) (tp : TrP a') : RR n a' b' := by
  obtain ⟨m0, m1, m2, m3, m4, m5, m6, m7, m8, m9, m10, m11, m12, m13, m14, m15, m16, m17, m18, m19, m20, m21, m22, m23⟩ := id R.ml
  obtain ⟨l1, l2, l3, l4, l5, l6⟩ := L
  obtain ⟨t, t1, t2, t3, t4, t5⟩ := R.tm
  have ha : hR b 372 1 = 257 ∨ (373 ≤ hR b 372 1 ∧ hR b 372 1 < hN b ∧ (hT b (hR b 372 1)).1 = 108) := box_arr R.tr.2
  have rr : ∀ x k, x < hN b → ¬ x = 372 → 361 ≤ x → x < 373 ∨ ¬ (hT b x).1 = 108 → hR b' x k = hR b x k := fun x k h1 h2 h3 h4 => l5 x k h1 h2 (fun z => by
    rcases ha with q | ⟨q1, q2, q3⟩
    · omega
    · rw [← z] at q3
      rcases h4 with h4 | h4
      · omega
      · exact h4 q3)
  obtain ⟨d1, d2, d3⟩ := R.dl
  refine RR.of H' (MLay_cg R.ml (fun x h1 h2 => l2 x (by omega)) (fun k => rr _ k (by omega) (by omega) (by omega) (by omega)) l1) (Sc_cg R.sc (fun x k q => e _ _ (by omega) (by omega)) (fun k hk => l3 _ _ (by omega) (by omega))) (Vl_cg R.vl (fun x k h1 h2 h3 h4 => e _ _ (by omega) (by omega)) (fun x k h1 h2 => l3 _ _ (by omega) (by omega))) (Bl_cg R.bl (fun k _ => by rw [ja]) (fun k _ => l4 _ _ (by omega))) (Lg_cg R.lg (fun x k h1 h2 => e _ _ (by omega) (by omega)) (fun k hk => l3 _ _ (by omega) (by omega))) (Fi_cg R.fi (fun x k q => e _ _ (by omega) (by omega)) (l3 _ _ (by omega) (by omega)) (rr _ _ (by omega) (by omega) (by omega) (by omega)) (fun x k h1 h2 => l3 _ _ (by omega) (by omega)) l1 (fun h1 h2 => ⟨l2 _ h2, fun k => l5 _ _ h2 (by omega) (fun z => by have := d2 z; omega)⟩)) ⟨tp, B⟩ (Im_cg2 R.im ta ra (fun x k q => e _ _ (by omega) (by omega)) (fun x _ h => l2 x h) l1 m23 (l3 _ _ (by omega) (by omega)) (rr _ _ (by omega) (by omega) (by omega) (by omega)) (fun h1 h2 k => l5 _ _ h2 (by omega) (fun z => by have := d3 z; omega)) (fun x k h1 h2 h3 => rr x k h2 (by omega) (by omega) (Or.inr (by rw [h3]; decide))) (fun x k h1 h2 h3 => l3 x k h2 (by omega))) ?_ ⟨t, t1, t2, (e _ _ (by omega) (by omega)).trans t3, (l4 _ _ (by omega)).trans t4, fun i hi => ?_⟩ (Fm_cg R.fm (fun x k q => e _ _ (by omega) (by omega)))
  · unfold Dl
    have e365 : hR b' 365 1 = hR b 365 1 := rr _ _ (by omega) (by omega) (by omega) (by omega)
    have e371 : hR b' 371 1 = hR b 371 1 := rr _ _ (by omega) (by omega) (by omega) (by omega)
    rw [e365, e371]
    have b5 : hR b 365 1 = 257 ∨ (373 ≤ hR b 365 1 ∧ hR b 365 1 < hN b ∧ (hT b (hR b 365 1)).1 = 108) := by
      obtain ⟨c0, c1, f1, f2, f3, f4, f5, f6, f7, f8, f9⟩ := R.fi
      exact box_arr f8
    have b7 := im_arr R.im
    refine ⟨d1, fun z => ?_, fun z => ?_⟩
    · rcases l6 with q | q
      · rw [q] at z
        exact d2 z
      · omega
    · rcases l6 with q | q
      · rw [q] at z
        exact d3 z
      · omega
  · refine FrM_cg (t5 i hi) (Nat.le_refl _) l1 (fun k => e _ _ (by omega) (by omega)) (fun q => ⟨(cVal_cg (fr_sp R hi q).2 (fun x k h1 h2 h3 h4 => e _ _ (by omega) (by omega))).2, e _ _ (by omega) (by omega)⟩) (rr _ _ (by omega) (by omega) (by omega) (by omega)) (fun h1 h2 h3 => ⟨by rw [l2 _ h2]; exact h3, fun k => l3 _ _ h2 (by omega), fun k => l4 _ _ h2⟩)
theorem tadd_T {a : CH} {n : Nat} {pg : Int32} : hT (cTAdd a 335 n pg) = hT a ∧ hR (cTAdd a 335 n pg) = hR a ∧ hJ (cTAdd a 335 n pg) = hJ a ∧ hN (cTAdd a 335 n pg) = hN a := by
  unfold cTAdd
  split <;> exact ⟨rfl, rfl, rfl, rfl⟩
theorem tadd_row {a : CH} {n i : Nat} {pg : Int32} (hn : n ≤ 100) : hI (cTAdd a 335 n pg) 336 i = if n = 100 then (if i = 99 then pg else if i < 99 then hI a 336 (i + 1) else hI a 336 i) else if i = n then pg else hI a 336 i := by
  unfold cTAdd
  by_cases c : n = 100
  · rw [if_pos c, if_pos c, hI_ne (by omega), hI_sI]
    by_cases d : i = 99
    · rw [if_pos ⟨rfl, d⟩, if_pos d]
    · rw [if_neg (fun z => d z.2), if_neg d, hI_ne (by omega), hI_cpI, if_pos rfl]
      unfold va_cpy
      by_cases e : i < 99
      · rw [if_pos (by omega), if_pos e, show 1 + (i - 0) = i + 1 by omega]
      · rw [if_neg (by omega), if_neg e]
  · rw [if_neg c, if_neg c, hI_ne (by omega), hI_sI]
    by_cases d : i = n
    · rw [if_pos ⟨rfl, d⟩, if_pos d]
    · rw [if_neg (fun z => d z.2), if_neg d]
theorem tadd_len {a : CH} {n : Nat} {pg : Int32} : hI (cTAdd a 335 n pg) 335 1 = if n = 100 then nI 100 else nI (n + 1) := by
  unfold cTAdd
  split
  · exact hI_eq _ _ _ _
  · exact hI_eq _ _ _ _
