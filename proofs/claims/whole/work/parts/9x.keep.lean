/-! KEEPIMAGE -/
theorem Lay_ext {a a' : CH} (L : Lay a) (S : Same a' a 301 359) (t0 : hT a' 300 = hT a 300) (r0 : hR a' 300 = hR a 300) (t9 : hT a' 359 = hT a 359) (t6 : hT a' 360 = hT a 360) : Lay a' := by
  obtain ⟨l0, l1, l2, l3, l4, l5, l6, l7, l8, l9, l10, l11, l12, l13, l14, l15, l16, l17, l18, l19, l20⟩ := L
  have z := fun x (h1 : 301 ≤ x) (h2 : x < 359) => S x h1 h2
  exact ⟨by rw [t0]; exact l0, by rw [r0]; exact l1, by rw [r0]; exact l2, by rw [r0]; exact l3, by rw [r0]; exact l4, by rw [r0]; exact l5, by rw [r0]; exact l6, by rw [r0]; exact l7, by rw [r0]; exact l8, by rw [r0]; exact l9, by rw [(z 301 (by omega) (by omega)).1]; exact l10, fun d hd => by rw [(z 301 (by omega) (by omega)).2.2.2]; exact l11 d hd, fun d hd => DevL_sm S (by omega) (by omega) (l12 d hd), FilL_sm S (by omega) (by omega) l13, PoolL_sm S (by omega) (by omega) l14, LogL_sm S (by omega) (by omega) l15, by rw [(z 334 (by omega) (by omega)).1]; exact l16, TraL_sm S (by omega) (by omega) l17, by rw [(z 358 (by omega) (by omega)).1]; exact l18, by rw [t9]; exact l19, by rw [t6]; exact l20⟩
theorem House_ext {a a' : CH} (H : House a) (L : Lay a') (e : ∀ x k, x < 361 → ¬ (x = 300 ∧ k = 8) → hI a' x k = hI a x k) : House a' := ⟨⟨L, fun x k => by
  by_cases c : x < 361 ∧ ¬ (x = 300 ∧ k = 8)
  · rw [e x k c.1 c.2]; exact H.1.2 x k
  · exact OkC_of (by omega)⟩, Hol_cg (fun i k hi _ => e _ _ (by omega) (by omega)) H.2⟩
theorem RR_im {n : Nat} {a a' b b' : CH} (R : RR n a b) (L : LFr b b' 371) (H' : House a') (ja : ∀ k, hJ a' 360 k = hJ a 360 k) (e : ∀ x k, x < 361 → ¬ (x = 300 ∧ k = 8) → hI a' x k = hI a x k) (I : Im a' b') : RR n a' b' := by
  obtain ⟨m0, m1, m2, m3, m4, m5, m6, m7, m8, m9, m10, m11, m12, m13, m14, m15, m16, m17, m18, m19, m20, m21, m22, m23⟩ := id R.ml
  obtain ⟨l1, l2, l3, l4, l5, l6⟩ := L
  obtain ⟨t, t1, t2, t3, t4, t5⟩ := R.tm
  have hb7 := im_arr R.im
  have hb2 := box_arr R.tr.2
  have hb5 : hR b 365 1 = 257 ∨ (373 ≤ hR b 365 1 ∧ hR b 365 1 < hN b ∧ (hT b (hR b 365 1)).1 = 108) := by
    obtain ⟨c0, c1, f1, f2, f3, f4, f5, f6, f7, f8, f9⟩ := R.fi
    exact box_arr f8
  have rr : ∀ x k, x < hN b → ¬ x = 371 → 361 ≤ x → x < 373 ∨ ¬ (hT b x).1 = 108 → hR b' x k = hR b x k := fun x k h1 h2 h3 h4 => l5 x k h1 h2 (fun z => by
    rcases hb7 with q | ⟨q1, q2, q3⟩
    · omega
    · rw [← z] at q3
      rcases h4 with h4 | h4
      · omega
      · exact h4 q3)
  obtain ⟨d1, d2, d3⟩ := R.dl
  refine RR.of H' (MLay_cg R.ml (fun x h1 h2 => l2 x (by omega)) (fun k => rr _ k (by omega) (by omega) (by omega) (by omega)) l1) (Sc_cg R.sc (fun x k q => e _ _ (by omega) (by omega)) (fun k hk => l3 _ _ (by omega) (by omega))) (Vl_cg R.vl (fun x k h1 h2 h3 h4 => e _ _ (by omega) (by omega)) (fun x k h1 h2 => l3 _ _ (by omega) (by omega))) (Bl_cg R.bl (fun k _ => ja k) (fun k _ => l4 _ _ (by omega))) (Lg_cg R.lg (fun x k h1 h2 => e _ _ (by omega) (by omega)) (fun k hk => l3 _ _ (by omega) (by omega))) (Fi_cg R.fi (fun x k q => e _ _ (by omega) (by omega)) (l3 _ _ (by omega) (by omega)) (rr _ _ (by omega) (by omega) (by omega) (by omega)) (fun x k h1 h2 => l3 _ _ (by omega) (by omega)) l1 (fun h1 h2 => ⟨l2 _ h2, fun k => l5 _ _ h2 (by omega) (fun z => by have := d1 z; omega)⟩)) (Tr_cg R.tr (fun x k q => e _ _ (by omega) (by omega)) (l3 _ _ (by omega) (by omega)) (rr _ _ (by omega) (by omega) (by omega) (by omega)) l1 (fun h1 h2 => ⟨l2 _ h2, fun k => l5 _ _ h2 (by omega) (fun z => by have := d3 z.symm; omega)⟩)) I ?_ ⟨t, t1, t2, (e _ _ (by omega) (by omega)).trans t3, (l4 _ _ (by omega)).trans t4, fun i hi => ?_⟩ (Fm_cg R.fm (fun x k q => e _ _ (by omega) (by omega)))
  · unfold Dl
    have e365 : hR b' 365 1 = hR b 365 1 := rr _ _ (by omega) (by omega) (by omega) (by omega)
    have e372 : hR b' 372 1 = hR b 372 1 := rr _ _ (by omega) (by omega) (by omega) (by omega)
    rw [e365, e372]
    refine ⟨fun z => ?_, d2, fun z => ?_⟩
    · rcases l6 with q | q
      · rw [q] at z
        exact d1 z
      · omega
    · rcases l6 with q | q
      · rw [q] at z ⊢
        exact d3 z
      · omega
  · refine FrM_cg (t5 i hi) (Nat.le_refl _) l1 (fun k => e _ _ (by omega) (by omega)) (fun q => ⟨(cVal_cg (fr_sp R hi q).2 (fun x k h1 h2 h3 h4 => e _ _ (by omega) (by omega))).2, e _ _ (by omega) (by omega)⟩) (rr _ _ (by omega) (by omega) (by omega) (by omega)) (fun h1 h2 h3 => ⟨by rw [l2 _ h2]; exact h3, fun k => l3 _ _ h2 (by omega), fun k => l4 _ _ h2⟩)
/-- the class's side -/
def cKp (a : CH) (d : Nat) : CH := sI (sR (kp4 a d) 359 (imN a) (hN a)) 300 8 (hI a 300 8 + 1)
theorem kp_rd {a : CH} {d : Nat} (hd : d < 2) (hn : 361 ≤ hN a) (t1 : (hT a (302 + 4 * d + 1)).2 = 64) (t2 : (hT a (302 + 4 * d + 2)).2 = 64) : hN (cKp a d) = hN a + 3 ∧ (∀ x, x < hN a → hT (cKp a d) x = hT a x) ∧ (∀ x k, x < hN a → ¬ (x = 300 ∧ k = 8) → hI (cKp a d) x k = hI a x k) ∧ hI (cKp a d) 300 8 = hI a 300 8 + 1 ∧ (∀ x k, x < hN a → hJ (cKp a d) x k = hJ a x k) ∧ (∀ x k, x < hN a → ¬ (x = 359 ∧ k = imN a) → hR (cKp a d) x k = hR a x k) ∧ hR (cKp a d) 359 (imN a) = hN a ∧ (hT (cKp a d) (hN a)).1 = 8 ∧ hI (cKp a d) (hN a) 0 = nI d ∧ hR (cKp a d) (hN a) 1 = hN a + 1 ∧ hR (cKp a d) (hN a) 2 = hN a + 2 ∧ hT (cKp a d) (hN a + 1) = (100, 64) ∧ hT (cKp a d) (hN a + 2) = (100, 64) ∧ (∀ j, hI (cKp a d) (hN a + 1) j = hI a (302 + 4 * d + 1) j) ∧ ∀ j, hI (cKp a d) (hN a + 2) j = hI a (302 + 4 * d + 2) j := by
  have gT : ∀ x, hT (cKp a d) x = if x = hN a + 2 then (100, (hT a (302 + 4 * d + 2)).2) else if x = hN a + 1 then (100, (hT a (302 + 4 * d + 1)).2) else if x = hN a then (8, 0) else hT a x := fun x => by
    show hT (clI (clI (nw a (8, 0)) (302 + 4 * d + 1)) (302 + 4 * d + 2)) x = _
    rw [hT_clI, hT_clI, hT_clI, hT_nw, hN_clI, hN_nw, hT_nw, hT_nw, if_neg (show ¬ 302 + 4 * d + 2 = hN a + 1 by omega), if_neg (show ¬ 302 + 4 * d + 2 = hN a by omega), if_neg (show ¬ 302 + 4 * d + 1 = hN a by omega)]
  have g3 : ∀ x k, hI (kp3 a d) x k = if x = hN a + 2 then hI a (302 + 4 * d + 2) k else if x = hN a + 1 then hI a (302 + 4 * d + 1) k else if x = hN a then 0 else hI a x k := fun x k => by
    show hI (clI (clI (nw a (8, 0)) (302 + 4 * d + 1)) (302 + 4 * d + 2)) x k = _
    rw [hI_clI, hI_clI, hI_clI, hI_nw, hN_clI, hN_nw, hI_nw, hI_nw, if_neg (show ¬ 302 + 4 * d + 2 = hN a + 1 by omega), if_neg (show ¬ 302 + 4 * d + 2 = hN a by omega), if_neg (show ¬ 302 + 4 * d + 1 = hN a by omega)]
  have gI : ∀ x k, hI (cKp a d) x k = if x = 300 ∧ k = 8 then hI a 300 8 + 1 else if x = hN a ∧ k = 0 then nI d else hI (kp3 a d) x k := fun x k => by
    show hI (sI (sI (kp3 a d) (hN a) 0 (nI d)) 300 8 _) x k = _
    rw [hI_sI, hI_sI]
  have gJ : ∀ x k, x < hN a → hJ (cKp a d) x k = hJ a x k := fun x k hx => by
    show hJ (clI (clI (nw a (8, 0)) (302 + 4 * d + 1)) (302 + 4 * d + 2)) x k = _
    rw [hJ_clI, hJ_clI, hJ_nw, hN_clI, hN_nw, if_neg (by omega), if_neg (by omega), if_neg (by omega)]
  have gR : ∀ x k, hR (cKp a d) x k = if x = 359 ∧ k = imN a then hN a else if x = hN a ∧ k = 2 then hN a + 1 + 1 else if x = hN a ∧ k = 1 then hN a + 1 else if x = hN a + 2 then 0 else if x = hN a + 1 then 0 else if x = hN a then 0 else hR a x k := fun x k => by
    show hR (sR (sR (sR (kp3 a d) (hN a) 1 (hN a + 1)) (hN a) 2 (hN a + 1 + 1)) 359 (imN a) (hN a)) x k = _
    rw [hR_sR, hR_sR, hR_sR]
    by_cases c1 : x = 359 ∧ k = imN a
    · rw [if_pos c1, if_pos c1]
    rw [if_neg c1, if_neg c1]
    by_cases c2 : x = hN a ∧ k = 2
    · rw [if_pos c2, if_pos c2]
    rw [if_neg c2, if_neg c2]
    by_cases c3 : x = hN a ∧ k = 1
    · rw [if_pos c3, if_pos c3]
    rw [if_neg c3, if_neg c3]
    show hR (clI (clI (nw a (8, 0)) (302 + 4 * d + 1)) (302 + 4 * d + 2)) x k = _
    rw [hR_clI, hR_clI, hR_nw, hN_clI, hN_nw]
  refine ⟨rfl, fun x hx => ?_, fun x k hx q => ?_, ?_, gJ, fun x k hx q => ?_, ?_, ?_, ?_, ?_, ?_, ?_, ?_, fun j => ?_, fun j => ?_⟩
  · rw [gT, if_neg (by omega), if_neg (by omega), if_neg (by omega)]
  · rw [gI, if_neg q, if_neg (by omega), g3, if_neg (by omega), if_neg (by omega), if_neg (by omega)]
  · rw [gI, if_pos ⟨rfl, rfl⟩]
  · rw [gR, if_neg q, if_neg (by omega), if_neg (by omega), if_neg (by omega), if_neg (by omega), if_neg (by omega)]
  · rw [gR, if_pos ⟨rfl, rfl⟩]
  · rw [gT, if_neg (by omega), if_neg (by omega), if_pos rfl]
  · rw [gI, if_neg (by omega), if_pos ⟨rfl, rfl⟩]
  · rw [gR, if_neg (by omega), if_neg (by omega), if_pos ⟨rfl, rfl⟩]
  · rw [gR, if_neg (by omega), if_pos ⟨rfl, rfl⟩]
  · rw [gT, if_neg (by omega), if_pos rfl, t1]
  · rw [gT, if_pos rfl, t2]
  · rw [gI, if_neg (by omega), if_neg (by omega), g3, if_neg (by omega), if_pos rfl]
  · rw [gI, if_neg (by omega), if_neg (by omega), g3, if_pos rfl]
/-- the reference's side: an image with its first m places -/
def ImgN (b g : CH) (d m : Nat) : Prop := hN g = hN b + 3 ∧ (∀ x, x < hN b → hT g x = hT b x ∧ (∀ k, hI g x k = hI b x k) ∧ (∀ k, hJ g x k = hJ b x k) ∧ ∀ k, hR g x k = hR b x k) ∧ (hT g (hN b)).1 = 14 ∧ hR g (hN b) 1 = hN b + 1 ∧ hR g (hN b) 2 = hN b + 2 ∧ hI g (hN b) 0 = nI d ∧ hT g (hN b + 1) = (100, 64) ∧ hT g (hN b + 2) = (100, 64) ∧ ∀ j, j < m → hI g (hN b + 1) j = hI b 362 (64 * d + j) ∧ hI g (hN b + 2) j = hI b 363 (64 * d + j)
theorem ImgN_step {b g : CH} {d m : Nat} (h3 : 373 ≤ hN b) (G : ImgN b g d m) : ImgN b (sI (sI g (hN b + 1) m (hI b 362 (64 * d + m))) (hN b + 2) m (hI b 363 (64 * d + m))) d (m + 1) := by
  obtain ⟨g1, g2, g3, g4, g5, g6, g7, g8, g9⟩ := G
  refine ⟨g1, fun x hx => ⟨(g2 x hx).1, fun k => by rw [hI_ne (by omega), hI_ne (by omega)]; exact (g2 x hx).2.1 k, (g2 x hx).2.2⟩, g3, g4, g5, by rw [hI_ne (by omega), hI_ne (by omega)]; exact g6, g7, g8, fun j hj => ?_⟩
  rw [hI_ne (by omega), hI_sI, hI_sI]
  by_cases c : j = m
  · rw [if_pos ⟨rfl, c⟩, if_pos ⟨rfl, c⟩, c]
    exact ⟨rfl, rfl⟩
  · rw [if_neg (fun z => c z.2), if_neg (fun z => c z.2), hI_ne (by omega)]
    exact g9 j (by omega)
def mkIm (h : CH) (p : Nat) (v : Int32) : CH := sI (sR (nw (sR (nw h (100, 64)) p 1 (hN h)) (100, 64)) p 2 (hN h + 1)) p 0 v
theorem imgInit_ok {h : CH} {p : Nat} {v : Int32} {Q : QT} (t0 : (hT h p).1 = 14) (hn : p < hN h) (hp : 0 < p) (k : Q (.inl []) (mkIm h p v)) : wX10_init [.ref p, .int v] h Q := by
  refine wgo (fun X hX => ?_) (by show 2 ≤ 2; decide)
  have c64 : Int32.toNatClampNeg 64 = 64 := rfl
  have a0 : p ≠ 0 := by omega
  (refine go mX10_init hX [] 400 ?_; conv => whnf)
  repeat (first | (refine rs ?_; conv => whnf) | unfold k_call | ((with_reducible refine And.intro ?_ ?_); (first | (first | assumption | rfl | exact True.intro | exact Nat.le_of_ble_eq_true rfl | exact Or.inl rfl | exact Or.inr rfl | exact okv3 (by assumption) | decide | (focus (simp (disch := (first | omega | (simp only [hN_nw, hN_sR, hN_sI, hN_sJ]; omega))) only [t0, c64, T_o, hT_sR, hT_sI, nI_clamp, vp_in_nI, hT_sI, hR_sI, hT_sJ, hR_sJ, hT_sR, hI_sJ, hI_sR, hJ_sI, hJ_sR, hI_eq, hI_ne, hI_nk]; done)) | (focus (simp (disch := (first | omega | (simp only [hN_nw, hN_sR, hN_sI, hN_sJ]; omega))) only [t0, c64, T_o, hT_sR, hT_sI, nI_clamp, vp_in_nI, hT_sI, hR_sI, hT_sJ, hR_sJ, hT_sR, hI_sJ, hI_sR, hJ_sI, hJ_sR, hI_eq, hI_ne, hI_nk]; first | assumption | exact okv3 (by assumption)))) | (focus (refine ⟨_, rfl, ?_⟩; (first | assumption | rfl | exact True.intro | exact Nat.le_of_ble_eq_true rfl | exact Or.inl rfl | exact Or.inr rfl | exact okv3 (by assumption) | decide | (focus (simp (disch := (first | omega | (simp only [hN_nw, hN_sR, hN_sI, hN_sJ]; omega))) only [t0, c64, T_o, hT_sR, hT_sI, nI_clamp, vp_in_nI, hT_sI, hR_sI, hT_sJ, hR_sJ, hT_sR, hI_sJ, hI_sR, hJ_sI, hJ_sR, hI_eq, hI_ne, hI_nk]; done)) | (focus (simp (disch := (first | omega | (simp only [hN_nw, hN_sR, hN_sI, hN_sJ]; omega))) only [t0, c64, T_o, hT_sR, hT_sI, nI_clamp, vp_in_nI, hT_sI, hR_sI, hT_sJ, hR_sJ, hT_sR, hI_sJ, hI_sR, hJ_sI, hJ_sR, hI_eq, hI_ne, hI_nk]; first | assumption | exact okv3 (by assumption)))))))))
  exact k
theorem mkIm_N {b : CH} {d : Nat} (h3 : 373 ≤ hN b) : ImgN b (mkIm (nw b (14, 0)) (hN b) (nI d)) d 0 := by
  have gT : ∀ x, hT (mkIm (nw b (14, 0)) (hN b) (nI d)) x = if x = hN b + 2 then (100, 64) else if x = hN b + 1 then (100, 64) else if x = hN b then (14, 0) else hT b x := fun x => by
    show hT (nw (sR (nw (nw b (14, 0)) (100, 64)) (hN b) 1 _) (100, 64)) x = _
    rw [hT_nw, hN_sR, hN_nw, hN_nw]
    show (if x = hN b + 1 + 1 then (100, 64) else hT (nw (nw b (14, 0)) (100, 64)) x) = _
    rw [hT_nw, hN_nw, hT_nw]
  have gI : ∀ x k, hI (mkIm (nw b (14, 0)) (hN b) (nI d)) x k = if x = hN b ∧ k = 0 then nI d else if x = hN b + 2 then 0 else if x = hN b + 1 then 0 else if x = hN b then 0 else hI b x k := fun x k => by
    show hI (sI _ (hN b) 0 (nI d)) x k = _
    rw [hI_sI]
    by_cases c : x = hN b ∧ k = 0
    · rw [if_pos c, if_pos c]
    rw [if_neg c, if_neg c]
    show hI (nw (sR (nw (nw b (14, 0)) (100, 64)) (hN b) 1 _) (100, 64)) x k = _
    rw [hI_nw, hN_sR, hN_nw, hN_nw]
    show (if x = hN b + 1 + 1 then 0 else hI (nw (nw b (14, 0)) (100, 64)) x k) = _
    rw [hI_nw, hN_nw, hI_nw]
  have gJ : ∀ x k, x < hN b → hJ (mkIm (nw b (14, 0)) (hN b) (nI d)) x k = hJ b x k := fun x k hx => by
    show hJ (nw (sR (nw (nw b (14, 0)) (100, 64)) (hN b) 1 _) (100, 64)) x k = _
    rw [hJ_nw, hN_sR, hN_nw, hN_nw, if_neg (by omega)]
    show hJ (nw (nw b (14, 0)) (100, 64)) x k = _
    rw [hJ_nw, hN_nw, if_neg (by omega), hJ_nw, if_neg (by omega)]
  have gR : ∀ x k, hR (mkIm (nw b (14, 0)) (hN b) (nI d)) x k = if x = hN b ∧ k = 2 then hN b + 2 else if x = hN b + 2 then 0 else if x = hN b ∧ k = 1 then hN b + 1 else if x = hN b + 1 then 0 else if x = hN b then 0 else hR b x k := fun x k => by
    show hR (sR (nw (sR (nw (nw b (14, 0)) (100, 64)) (hN b) 1 (hN b + 1)) (100, 64)) (hN b) 2 (hN b + 1 + 1)) x k = _
    rw [hR_sR]
    by_cases c : x = hN b ∧ k = 2
    · rw [if_pos c, if_pos c]
    rw [if_neg c, if_neg c, hR_nw, hN_sR, hN_nw, hN_nw]
    show (if x = hN b + 1 + 1 then 0 else hR (sR (nw (nw b (14, 0)) (100, 64)) (hN b) 1 (hN b + 1)) x k) = _
    rw [hR_sR, hR_nw, hN_nw, hR_nw]
  refine ⟨rfl, fun x hx => ⟨?_, fun k => ?_, fun k => gJ x k hx, fun k => ?_⟩, ?_, ?_, ?_, ?_, ?_, ?_, fun j hj => absurd hj (Nat.not_lt_zero _)⟩
  · rw [gT, if_neg (by omega), if_neg (by omega), if_neg (by omega)]
  · rw [gI, if_neg (by omega), if_neg (by omega), if_neg (by omega), if_neg (by omega)]
  · rw [gR, if_neg (by omega), if_neg (by omega), if_neg (by omega), if_neg (by omega), if_neg (by omega)]
  · rw [gT, if_neg (by omega), if_neg (by omega), if_pos rfl]
  · rw [gR, if_neg (by omega), if_neg (by omega), if_pos ⟨rfl, rfl⟩]
  · rw [gR, if_pos ⟨rfl, rfl⟩]
  · rw [gI, if_pos ⟨rfl, rfl⟩]
  · rw [gT, if_neg (by omega), if_pos rfl]
  · rw [gT, if_pos rfl]
