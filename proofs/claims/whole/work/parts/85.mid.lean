/-! HOW THE RELATION IS KEPT: lists, files, images as they were -/
theorem Im_cg {a a' b b' : CH} (I : Im a b) (ta : hT a' = hT a) (ra : hR a' = hR a) (ia : ∀ x k, (x = 300 ∧ k = 8) ∨ 361 ≤ x → hI a' x k = hI a x k) (tb : ∀ x, 361 ≤ x → x < hN b → hT b' x = hT b x) (rb : ∀ x k, 371 ≤ x → x < hN b → hR b' x k = hR b x k) (nb : hN b ≤ hN b') (ib : ∀ x k, 371 ≤ x → x < hN b → ¬ (hT b x).1 = 15 → hI b' x k = hI b x k) (h3 : 373 ≤ hN b) (t1 : (hT b 371).1 = 3) : Im a' b' := by
  obtain ⟨⟨g1, g2, g3⟩, i2, i3, i4⟩ := I
  have en : imN a' = imN a := by unfold imN; rw [ia 300 8 (by omega)]
  refine ⟨⟨by rw [en, ia 300 8 (by omega)]; exact g1, by rw [en]; exact g2, fun k hk => ?_⟩, ?_, ?_, fun k hk => ?_⟩
  · rw [en] at hk
    rw [ta, ra]
    obtain ⟨q1, q2, ⟨d, q3, q4⟩, q5⟩ := g3 k hk
    exact ⟨q1, q2, ⟨d, q3, by rw [ia _ 0 (by omega)]; exact q4⟩, q5⟩
  · rw [ib 371 2 (by omega) (by omega) (by rw [t1]; decide), en]
    exact i2
  · rw [en, rb 371 1 (by omega) (by omega)]
    rcases i3 with q | ⟨q1, q2, q3⟩
    · exact Or.inl q
    · exact Or.inr ⟨q1, by omega, by rw [tb _ (by omega) q2]; exact q3⟩
  · rw [en] at hk
    have hx : 373 ≤ hR b 371 1 ∧ hR b 371 1 < hN b := by
      rcases i3 with q | ⟨q1, q2, q3⟩
      · omega
      · exact ⟨q1, q2⟩
    rw [ra, rb 371 1 (by omega) (by omega), rb _ k (by omega) hx.2]
    obtain ⟨q1, q2, q3, q4, q5, q6, q7, q8, q9, q10, q11⟩ := i4 k hk
    obtain ⟨u1, u2, u3, u4, u5, _⟩ := g3 k hk
    refine ⟨by rw [tb _ (by omega) q3]; exact q1, q2, by omega, ?_, ?_, ?_, ?_, ?_, ?_, ?_, fun j hj => ?_⟩
    · rw [ib _ 0 (by omega) q3 (by rw [q1]; decide), ia _ 0 (by omega)]; exact q4
    · rw [rb _ 1 (by omega) q3]; exact q5
    · rw [rb _ 1 (by omega) q3]; omega
    · rw [rb _ 2 (by omega) q3]; exact q7
    · rw [rb _ 2 (by omega) q3]; omega
    · rw [rb _ 1 (by omega) q3, tb _ (by omega) q6]; exact q9
    · rw [rb _ 2 (by omega) q3, tb _ (by omega) q8]; exact q10
    · rw [rb _ 1 (by omega) q3, rb _ 2 (by omega) q3, ra, ib _ j (by omega) q6 (by rw [q9]; decide), ib _ j (by omega) q8 (by rw [q10]; decide), ia _ j (by omega), ia _ j (by omega)]
      exact q11 j hj
theorem RR_mid {n n' : Nat} {a a' b b' : CH} (R : RR n a b) (H' : House a') (ta : hT a' = hT a) (ra : hR a' = hR a) (ia : ∀ x k, (x = 300 ∧ k = 8) ∨ ((x = 302 ∨ x = 306) ∧ k = 5) ∨ (310 ≤ x ∧ x ≤ 312) ∨ (x = 335 ∧ k = 1) ∨ x = 336 ∨ 361 ≤ x → hI a' x k = hI a x k) (tb : ∀ x, 361 ≤ x → x < hN b → hT b' x = hT b x) (rb : ∀ x k, 361 ≤ x → x < hN b → ¬ x = 368 → hR b' x k = hR b x k) (nb : hN b ≤ hN b') (ib : ∀ x k, (365 ≤ x ∧ x ≤ 367) ∨ 371 ≤ x → x < hN b → ¬ (hT b x).1 = 15 → hI b' x k = hI b x k) (sc : Sc a' b') (vl : Vl a' b') (bl : Bl a' b') (lg : Lg a' b') (tm : ∃ t, t ≤ n' ∧ n' < 5000 ∧ hI a' 313 3 = nI t ∧ hJ b' 361 28 = lN t ∧ ∀ i, i < 16 → FrM a' b' t i) (fm : Fm a') : RR n' a' b' := by
  obtain ⟨m0, m1, m2, m3, m4, m5, m6, m7, m8, m9, m10, m11, m12, m13, m14, m15, m16, m17, m18, m19, m20, m21, m22, m23⟩ := id R.ml
  refine RR.of H' (MLay_cg R.ml (fun x h1 h2 => tb x h1 (by omega)) (fun k => rb _ k (by omega) (by omega) (by omega)) nb) sc vl bl lg ?_ ?_ ?_ ?_ tm fm
  · refine Fi_cg R.fi (fun x k q => ia x k (by omega)) (ib _ _ (by omega) (by omega) (by rw [m15]; decide)) (rb _ _ (by omega) (by omega) (by omega)) (fun x k h1 h2 => ib _ _ (by omega) (by omega) ?_) nb (fun h1 h2 => ⟨tb _ (by omega) h2, fun k => rb _ k (by omega) h2 (by omega)⟩)
    rcases (by omega : x = 366 ∨ x = 367) with e | e
    · rw [e, m16]; decide
    · rw [e, m17]; decide
  · exact Tr_cg R.tr (fun x k q => ia x k (by omega)) (ib _ _ (by omega) (by omega) (by rw [m22]; decide)) (rb _ _ (by omega) (by omega) (by omega)) nb (fun h1 h2 => ⟨tb _ (by omega) h2, fun k => rb _ k (by omega) h2 (by omega)⟩)
  · exact Im_cg R.im ta ra (fun x k q => ia x k (by omega)) tb (fun x k h1 h2 => rb x k (by omega) h2 (by omega)) nb (fun x k h1 h2 h3 => ib x k (by omega) h2 h3) m23 m21
  · have d := R.dl
    unfold Dl at d ⊢
    rw [rb 365 1 (by omega) (by omega) (by omega), rb 371 1 (by omega) (by omega) (by omega), rb 372 1 (by omega) (by omega) (by omega)]
    exact d
/-- numbers alone -/
theorem RR_scal {n : Nat} {a a' b b' : CH} (R : RR n a b) (H' : House a') (ta : hT a' = hT a) (ra : hR a' = hR a) (ja : ∀ k, hJ a' 360 k = hJ a 360 k) (ea : ∀ x k, ¬ (x = 300 ∧ 9 ≤ k) → ¬ (x = 302 ∧ k = 4) → ¬ (x = 313 ∧ k ≤ 2) → ¬ x = 334 → ¬ x = 358 → hI a' x k = hI a x k) (tb : hT b' = hT b) (rb : hR b' = hR b) (nb : hN b' = hN b) (jb : hJ b' = hJ b) (eb : ∀ x k, ¬ x = 361 → hI b' x k = hI b x k) (sc : Sc a' b') (fm : Fm a') : RR n a' b' := by
  obtain ⟨t, t1, t2, t3, t4, t5⟩ := R.tm
  refine RR_mid R H' ta ra (fun x k q => ea _ _ (by omega) (by omega) (by omega) (by omega) (by omega)) (fun x _ _ => by rw [tb]) (fun x k _ _ _ => by rw [rb]) (by omega) (fun x k q _ _ => eb _ _ (by omega)) sc (Vl_cg R.vl (fun x k h1 h2 h3 h4 => ea _ _ (by omega) (by omega) (by omega) (by omega) (by omega)) (fun x k h1 h2 => eb _ _ (by omega))) (Bl_cg R.bl (fun k _ => ja k) (fun k _ => by rw [jb])) (Lg_cg R.lg (fun x k h1 h2 => ea _ _ (by omega) (by omega) (by omega) (by omega) (by omega)) (fun k _ => eb _ _ (by omega))) ⟨t, t1, t2, by rw [ea _ _ (by omega) (by omega) (by omega) (by omega) (by omega)]; exact t3, by rw [jb]; exact t4, fun i hi => ?_⟩ fm
  refine FrM_cg (t5 i hi) (Nat.le_refl _) (by omega) (fun k => ea _ _ (by omega) (by omega) (by omega) (by omega) (by omega)) (fun q => ⟨(cVal_cg (fr_sp R hi q).2 (fun x k h1 h2 h3 h4 => ea _ _ (by omega) (by omega) (by omega) (by omega) (by omega))).2, ea _ _ (by omega) (by omega) (by omega) (by omega) (by omega)⟩) (by rw [rb]) (fun h1 h2 h3 => ⟨by rw [tb]; exact h3, fun k => eb _ _ (by omega), fun k => by rw [jb]⟩)
theorem pg_ne {n i j : Nat} {a b : CH} (R : RR n a b) (hi : i < 16) (hj : j < 16) (ne : ¬ i = j) (q : ¬ hR b 368 i = 0) : ¬ hR b 368 i = hR b 368 j := fun e => by
  obtain ⟨t, _, P⟩ := pgR R hi q
  obtain ⟨t2, _, P2⟩ := pgR R hj (by rw [← e]; exact q)
  have hq : ¬ hI a (313 + 2 + i) 0 = -1 := fun z => q ((nul_iff R hi).mpr z)
  exact ne (R.fm.2.2.1 i j hi hj (by rw [← P.pl, ← P2.pl, e]) hq)
/-- one frame and its page -/
theorem RR_fr1 {n n' i t' : Nat} {a a' b b' : CH} (R : RR n a b) (H' : House a') (hi : i < 16) (ta : hT a' = hT a) (ra : hR a' = hR a) (ja : ∀ k, hJ a' 360 k = hJ a 360 k) (ea : ∀ x k, ¬ x = 313 + 2 + i → ¬ (x = 300 ∧ 9 ≤ k) → ¬ (x = 302 ∧ k = 4) → ¬ x = 313 → ¬ x = 334 → ¬ x = 358 → hI a' x k = hI a x k) (tb : ∀ x, x < hN b → hT b' x = hT b x) (rb : ∀ x k, x < hN b → ¬ (x = 368 ∧ k = i) → hR b' x k = hR b x k) (nb : hN b ≤ hN b') (eb : ∀ x k, x < hN b → ¬ x = 361 → ¬ (x = hR b 368 i ∧ 373 ≤ x) → hI b' x k = hI b x k) (jb : ∀ x k, x < hN b → ¬ (x = 361 ∧ k = 28) → ¬ (x = hR b 368 i ∧ 373 ≤ x) → hJ b' x k = hJ b x k) (sc : Sc a' b') (h1 : t' ≤ n') (h2 : n' < 5000) (h3 : hI a' 313 3 = nI t') (h4 : hJ b' 361 28 = lN t') (h5 : ∀ t, t < 5000 → hI a 313 3 = nI t → t ≤ t') (hf : FrM a' b' t' i) (fm : Fm a') : RR n' a' b' := by
  obtain ⟨t, t1, t2, t3, t4, t5⟩ := R.tm
  obtain ⟨m0, m1, m2, m3, m4, m5, m6, m7, m8, m9, m10, m11, m12, m13, m14, m15, m16, m17, m18, m19, m20, m21, m22, m23⟩ := id R.ml
  have k15 : 373 ≤ hR b 368 i → (hT b (hR b 368 i)).1 = 15 := fun q => (pgT R hi (by omega)).1
  have e9 : ∀ x k, x < hN b → ¬ x = 361 → ¬ (hT b x).1 = 15 ∨ x < 373 → hI b' x k = hI b x k := fun x k q1 q2 q3 => eb x k q1 q2 (fun z => by
    have w := k15 (by omega)
    rw [← z.1] at w
    rcases q3 with q | q
    · exact q w
    · omega)
  refine RR_mid R H' ta ra (fun x k q => ea _ _ (by omega) (by omega) (by omega) (by omega) (by omega) (by omega)) (fun x _ h => tb x h) (fun x k _ h q => rb x k h (by omega)) nb (fun x k q h w => e9 x k h (by omega) (Or.inl w)) sc (Vl_cg R.vl (fun x k h1 h2 h3 h4 => ea _ _ (by omega) (by omega) (by omega) (by omega) (by omega) (by omega)) (fun x k h1 h2 => e9 _ _ (by omega) (by omega) (Or.inr (by omega)))) (Bl_cg R.bl (fun k _ => ja k) (fun k _ => jb _ _ (by omega) (by omega) (by omega))) (Lg_cg R.lg (fun x k h1 h2 => ea _ _ (by omega) (by omega) (by omega) (by omega) (by omega) (by omega)) (fun k _ => e9 _ _ (by omega) (by omega) (Or.inr (by omega)))) ⟨t', h1, h2, h3, h4, fun j hj => ?_⟩ fm
  by_cases c : j = i
  · rw [c]; exact hf
  · have htt : t ≤ t' := h5 t (by omega) t3
    refine FrM_cg (t5 j hj) htt nb (fun k => ea _ _ (by omega) (by omega) (by omega) (by omega) (by omega) (by omega)) (fun q => ⟨(cVal_cg (fr_sp R hj q).2 (fun x k h1 h2 h3 h4 => ea _ _ (by omega) (by omega) (by omega) (by omega) (by omega) (by omega))).2, ea _ _ (by omega) (by omega) (by omega) (by omega) (by omega) (by omega)⟩) (rb _ _ (by omega) (by omega)) (fun q1 q2 q3 => ?_)
    have ne : ¬ hR b 368 j = hR b 368 i := pg_ne R hj hi c (by omega)
    exact ⟨by rw [tb _ q2]; exact q3, fun k => eb _ _ q2 (by omega) (fun z => ne z.1), fun k => jb _ _ q2 (by omega) (fun z => ne z.1)⟩
