/-! KEEPIMAGE, the walk -/
theorem iadd_ok {h : CH} {n v : Nat} {Q : QT} (t0 : (hT h 371).1 = 3) (h3 : 373 ≤ hN h) (e2 : hI h 371 2 = nI n) (hn : n < 4) (ha : (n = 0 ∧ hR h 371 1 = 257) ∨ (373 ≤ hR h 371 1 ∧ hR h 371 1 < hN h ∧ hT h (hR h 371 1) = (108, 10))) (tv : (hT h v).1 = 14) (hv : v < hN h) (k : ∀ b', hI b' 371 2 = nI (n + 1) → (373 ≤ hR b' 371 1 ∧ hR b' 371 1 < hN b' ∧ hT b' (hR b' 371 1) = (108, 10)) → (∀ i, i < n → hR b' (hR b' 371 1) i = hR h (hR h 371 1) i) → hR b' (hR b' 371 1) n = v → LFr h b' 371 → Q (.inl [.int 1]) b') : wJx4a65c_add_9ea2d [.ref 371, .ref v] h Q := by
  rcases ha with ⟨n0, e257⟩ | ⟨a1, a2, a5⟩
  · subst n0
    refine ladd_first t0 e2 e257 (by omega) (Or.inr ⟨tv, hv⟩) ?_
    obtain ⟨r1, r2, r3, r4, r5⟩ := first_rd (h := h) (la := 371) (v := v) (by omega)
    exact k _ (r5.trans (nI_1 0)) ⟨by rw [r2]; exact h3, by rw [r2, r1]; omega, by rw [r2]; exact r3⟩ (fun i hi => absurd hi (Nat.not_lt_zero _)) (by rw [r2, r4, if_pos rfl]) (lfr_first (by omega))
  · have hne : ¬ hR h 371 1 = 371 := by omega
    refine ladd_room t0 e2 a5 (by omega) (by omega) (by decide) (Or.inr tv) ?_
    have er : ∀ x k, hR (cLAdd h 371 v n) x k = if x = hR h 371 1 ∧ k = n then v else hR h x k := fun x k => by
      show hR (sR (sI h 371 0 _) (hR h 371 1) n v) x k = _
      rw [hR_sR]
      rfl
    have ea : hR (cLAdd h 371 v n) 371 1 = hR h 371 1 := by rw [er, if_neg (fun z => hne z.1.symm)]
    exact k _ ((hI_eq _ _ _ _).trans (nI_1 n)) ⟨by rw [ea]; exact a1, by rw [ea]; exact a2, by rw [ea]; exact a5⟩ (fun i hi => by rw [ea, er, if_neg (by omega)]) (by rw [ea, er, if_pos ⟨rfl, rfl⟩]) (lfr_room hne)
theorem RR_kept {n d : Nat} {a b g b' : CH} (R : RR n a b) (hd : d < 2) (hna : 361 ≤ hN a) (cl : ∀ x k, hR a x k < hN a) (hm : imN a < 4) (G : ImgN b g d 64) (e2 : hI b' 371 2 = nI (imN a + 1)) (ar : 373 ≤ hR b' 371 1 ∧ hR b' 371 1 < hN b' ∧ hT b' (hR b' 371 1) = (108, 10)) (old : ∀ i, i < imN a → hR b' (hR b' 371 1) i = hR g (hR g 371 1) i) (new : hR b' (hR b' 371 1) (imN a) = hN b) (L : LFr g b' 371) : RR n (cKp a d) b' := by
  have m23 := R.ml.2.2.2.2.2.2.2.2.2.2.2.2.2.2.2.2.2.2.2.2.2.2.2
  obtain ⟨I1, I2, I3, I4⟩ := id R.im
  obtain ⟨i1, i2, i3⟩ := id I1
  have hL := R.hs.1.1
  obtain ⟨l0, l1, l2, l3, l4, l5, l6, l7, l8, l9, l10, l11, l12, l13, l14, l15, l16, l17, l18, l19, l20⟩ := id hL
  obtain ⟨p1, p2, p3, p4, p5, p6, p7⟩ := l12 d hd
  have vl := R.vl.1
  obtain ⟨nN', tt, ii, i8, jj, rr, r359, tO, iO, rO1, rO2, tA, tB, vA, vB⟩ := kp_rd (a := a) hd hna (by rw [p5]) (by rw [p6])
  obtain ⟨g1, g2, g3, g4, g5, g6, g7, g8, g9⟩ := G
  obtain ⟨u1, u2, u3, u4, u5, u6⟩ := L
  have e371 : hR g 371 1 = hR b 371 1 := (g2 371 (by omega)).2.2.2 1
  have hA : hR b 371 1 < hN b := by
    rcases I3 with z | z
    · omega
    · exact z.2.1
  have LB : LFr b b' 371 := ⟨by omega, fun x h => (u2 x (by omega)).trans (g2 x h).1, fun x k h1 h2 => (u3 x k (by omega) h2).trans ((g2 x h1).2.1 k), fun x k h => (u4 x k (by omega)).trans ((g2 x h).2.2.1 k), fun x k h1 h2 h3 => (u5 x k (by omega) h2 (by rw [e371]; exact h3)).trans ((g2 x h1).2.2.2 k), by
    rcases u6 with q | q
    · exact Or.inl (q.trans e371)
    · exact Or.inr (by omega)⟩
  have e8 : hI (cKp a d) 300 8 = nI (imN a + 1) := i8.trans ((congrArg (· + 1) i1).trans (nI_1 _))
  have en : imN (cKp a d) = imN a + 1 := by
    show (hI (cKp a d) 300 8).toNatClampNeg = _
    rw [e8]
    exact nI_clamp (by omega)
  have L' : Lay (cKp a d) := Lay_ext hL (fun x h1 h2 => ⟨tt x (by omega), funext fun k => ii x k (by omega) (by omega), funext fun k => jj x k (by omega), funext fun k => rr x k (by omega) (by omega)⟩) (tt 300 (by omega)) (funext fun k => rr 300 k (by omega) (by omega)) (tt 359 (by omega)) (tt 360 (by omega))
  generalize cKp a d = A at nN' tt ii i8 jj rr r359 tO iO rO1 rO2 tA tB vA vB e8 en L' ⊢
  have H' : House A := House_ext R.hs L' (fun x k h q => ii x k (by omega) q)
  refine RR_im R LB H' (fun k => jj 360 k (by omega)) (fun x k h q => ii x k (by omega) q) ⟨⟨by rw [en]; exact e8, by omega, fun k hk => ?_⟩, by rw [en]; exact e2, Or.inr ar, fun k hk => ?_⟩
  · rw [en] at hk
    rcases (by omega : k < imN a ∨ k = imN a) with c | c
    · obtain ⟨v1, v2, v3, v4, v5, v6, v7⟩ := i3 k c
      have c1 := cl 359 k
      have c2 := cl (hR a 359 k) 1
      have c3 := cl (hR a 359 k) 2
      rw [rr 359 k (by omega) (by omega)]
      generalize hR a 359 k = q at v1 v2 v3 v4 v5 v6 v7 c1 c2 c3 ⊢
      rw [tt q c1, ii q 0 c1 (by omega), rr q 1 c1 (by omega), rr q 2 c1 (by omega), tt _ c2, tt _ c3]
      exact ⟨v1, v2, v3, v4, v5, v6, v7⟩
    · rw [c, r359, tO, iO, rO1, rO2, tA, tB]
      exact ⟨hna, rfl, ⟨d, hd, rfl⟩, by omega, by omega, rfl, rfl⟩
  · rw [en] at hk
    obtain ⟨w1, w2, w3, w4, w5, w6⟩ := LB
    rcases (by omega : k < imN a ∨ k = imN a) with c | c
    · have c1 := cl 359 k
      have c2 := cl (hR a 359 k) 1
      have c3 := cl (hR a 359 k) 2
      obtain ⟨v1, v2, v3, v4, v5, -, -⟩ := i3 k c
      obtain ⟨x1, x2, x3, x4, x5, x6, x7, x8, x9, x10, x11⟩ := I4 k c
      have hk108 : (hT b (hR b 371 1)).1 = 108 := by
        rcases I3 with z | z
        · omega
        · rw [z.2.2]
      rw [rr 359 k (by omega) (by omega), old k c, e371, (g2 _ hA).2.2.2 k]
      generalize hR a 359 k = q at c1 c2 c3 v1 v4 v5 x1 x2 x3 x4 x5 x6 x7 x8 x9 x10 x11 ⊢
      generalize hR b (hR b 371 1) k = p at x1 x2 x3 x4 x5 x6 x7 x8 x9 x10 x11 ⊢
      have np : ¬ p = hR b 371 1 := fun z => by
        rw [z, hk108] at x1
        exact absurd x1 (by decide)
      unfold ImO
      rw [w2 p x3, w3 p 0 x3 (by omega), w5 p 1 x3 (by omega) np, w5 p 2 x3 (by omega) np, ii q 0 c1 (by omega), rr q 1 c1 (by omega), rr q 2 c1 (by omega), w2 _ x6, w2 _ x8]
      exact ⟨x1, x2, by omega, x4, x5, by omega, x7, by omega, x9, x10, fun j hj => by
        rw [w3 _ j x6 (by omega), w3 _ j x8 (by omega), ii _ j c2 (by omega), ii _ j c3 (by omega)]
        exact x11 j hj⟩
    · rw [c, r359, new]
      unfold ImO
      rw [u2 (hN b) (by omega), u3 (hN b) 0 (by omega) (by omega), u5 (hN b) 1 (by omega) (by omega) (by omega), u5 (hN b) 2 (by omega) (by omega) (by omega), g4, g5, iO, rO1, rO2, u2 _ (by omega), u2 _ (by omega)]
      exact ⟨g3, m23, by omega, g6, by omega, by omega, by omega, by omega, g7, g8, fun j hj => by
        have e1 : (64 * d + j) / 64 = d := by omega
        have e3 : (64 * d + j) % 64 = j := by omega
        obtain ⟨z1, z2⟩ := vl (64 * d + j) (by omega)
        unfold cVal at z1
        unfold cSum at z2
        rw [e1, e3] at z1 z2
        rw [u3 _ j (by omega) (by omega), u3 _ j (by omega) (by omega), vA, vB, (g9 j hj).1, (g9 j hj).2]
        exact ⟨z1, z2⟩⟩
