/-! THE MADE HOUSE, whole (printed) -/
theorem dv_new {g : CH} {i : Nat} {b : Int32} (hn : 302 ≤ hN g) : DevL (hDv g i b) (hN g) ∧ ∀ x k, hN g ≤ x → x < hN g + 4 → hI (hDv g i b) x k = if x = hN g ∧ k = 0 then b else 0 :=
  ⟨DevL_sm (lo := hN g) (hi := hN g + 4) (sm_sR (by omega)) (Nat.le_refl _) (Nat.le_refl _) (mkDev_L rfl (congrArg Prod.fst (T_n (h := g) (t := (5, 0)) rfl))), fun x k h1 h2 => mkDev_I (h := nw g (5, 0)) rfl (fun k => I_n) x k h1 h2⟩
theorem fl_new {g : CH} (hn : 302 ≤ hN g) : FilL (hFl g) (hN g) ∧ ∀ x k, hN g ≤ x → x < hN g + 3 → hI (hFl g) x k = 0 :=
  ⟨FilL_sm (lo := hN g) (hi := hN g + 3) (sm_sR (by omega)) (Nat.le_refl _) (Nat.le_refl _) (mkFil_L rfl (congrArg Prod.fst (T_n (h := g) (t := (6, 0)) rfl))), fun x k h1 h2 => mkFil_I (h := nw g (6, 0)) rfl (fun k => I_n) x k h1 h2⟩
theorem pl_new {g : CH} (hn : 302 ≤ hN g) : PoolL (hPl g) (hN g) ∧ ∀ x k, hN g ≤ x → x < hN g + 18 → hI (hPl g) x k = if x = hN g ∧ k = 1 then 8 else if hN g + 2 ≤ x ∧ k = 0 then -1 else 0 :=
  ⟨PoolL_sm (lo := hN g) (hi := hN g + 18) (sm_sR (by omega)) (Nat.le_refl _) (Nat.le_refl _) (mkPool_L rfl (congrArg Prod.fst (T_n (h := g) (t := (10, 0)) rfl))), fun x k h1 h2 => mkPool_I (h := nw g (10, 0)) rfl (fun k => I_n) x k h1 h2⟩
theorem lg_new {g : CH} (hn : 302 ≤ hN g) : LogL (hLg g) (hN g) ∧ ∀ x k, hN g ≤ x → x < hN g + 3 → hI (hLg g) x k = 0 :=
  ⟨LogL_sm (lo := hN g) (hi := hN g + 3) (sm_sR (by omega)) (Nat.le_refl _) (Nat.le_refl _) (mkLog_L rfl (congrArg Prod.fst (T_n (h := g) (t := (9, 0)) rfl))), fun x k h1 h2 => mkLog_I (h := nw g (9, 0)) rfl (fun k => I_n) x k h1 h2⟩
theorem tr_new {g : CH} (hn : 302 ≤ hN g) : TraL (hTr g) (hN g) ∧ ∀ x k, hN g ≤ x → x < hN g + 23 → hI (hTr g) x k = if x = hN g + 5 ∧ k = 1 then 16 else if hN g + 7 ≤ x ∧ k = 0 then -1 else 0 :=
  ⟨TraL_sm (lo := hN g) (hi := hN g + 23) (sm_sR (by omega)) (Nat.le_refl _) (Nat.le_refl _) (mkTra_L rfl (congrArg Prod.fst (T_n (h := g) (t := (11, 0)) rfl))), fun x k h1 h2 => mkTra_I (h := nw g (11, 0)) rfl (fun k => I_n) x k h1 h2⟩
theorem one_new {g : CH} {t : Nat × Nat} {idx : Nat} : hT (sR (nw g t) 300 idx (hN g)) (hN g) = t ∧ ∀ k, hI (sR (nw g t) 300 idx (hN g)) (hN g) k = 0 := ⟨by rw [hT_sR, T_n rfl], fun k => by rw [hI_sR, I_n]⟩
def hseI (x k : Nat) : Int32 := if x = 302 ∧ k = 0 then 1 else if x = 313 ∧ k = 1 then 8 else if x = 340 ∧ k = 1 then 16 else if (315 ≤ x ∧ x < 331 ∨ 342 ≤ x ∧ x < 358) ∧ k = 0 then -1 else 0
theorem mkHse_ok {h : CH} (hn : hN h = 301) (t : (hT h 300).1 = 13) (hz : ∀ k, hI h 300 k = 0) : Lay (mkHse h) ∧ hN (mkHse h) = 361 ∧ (∀ k, hI (mkHse h) 300 k = if k = 10 then 108 else if k = 11 then 4 else if k = 14 then 1 else 0) ∧ ∀ x k, 301 ≤ x → x < 361 → hI (mkHse h) x k = hseI x k := by
  unfold mkHse
  have n0 : hN (hD0 h) = 302 := by show hN h + 1 = 302; omega
  have t0 : (hT (hD0 h) 300).1 = 13 := by unfold hD0; rw [hT_sR, T_o (by omega)]; exact t
  have u0 : hT (hD0 h) 301 = (104, 2) := by unfold hD0; rw [hT_sR, T_n hn.symm]
  have r0 : hR (hD0 h) 300 0 = 301 := by unfold hD0; rw [R_s, hn]
  have z0 : ∀ k, hI (hD0 h) 300 k = 0 := fun k => by unfold hD0; rw [hI_sR, I_o (by omega)]; exact hz k
  have y0 : ∀ k, hI (hD0 h) 301 k = 0 := fun k => by
    have := I_n (h := h) (t := (104, 2)) (k := k)
    rw [hn] at this
    unfold hD0
    rw [hI_sR]
    exact this
  generalize hD0 h = g0 at n0 t0 u0 r0 z0 y0 ⊢
  clear hn t hz
  have s1 := stg_dv (g := g0) (i := 0) (b := 1) (by omega)
  have w1 := dv_new (g := g0) (i := 0) (b := 1) (by omega)
  generalize hDv g0 0 1 = g1 at s1 w1 ⊢
  obtain ⟨a1, b1, c1, d1, e1, f1, p1, n1⟩ := s1
  rw [n0] at a1 n1 w1 p1
  have s2 := stg_dv (g := g1) (i := 1) (b := 0) (by omega)
  have w2 := dv_new (g := g1) (i := 1) (b := 0) (by omega)
  generalize hDv g1 1 0 = g2 at s2 w2 ⊢
  obtain ⟨a2, b2, c2, d2, e2, f2, p2, n2⟩ := s2
  rw [n1] at a2 n2 w2 p2
  have s3 := stg_fl (g := g2) (by omega)
  have w3 := fl_new (g := g2) (by omega)
  generalize hFl g2 = g3 at s3 w3 ⊢
  obtain ⟨a3, b3, c3, d3, e3, f3, p3, n3⟩ := s3
  rw [n2] at a3 n3 w3 d3
  have s4 := stg_pl (g := g3) (by omega)
  have w4 := pl_new (g := g3) (by omega)
  generalize hPl g3 = g4 at s4 w4 ⊢
  obtain ⟨a4, b4, c4, d4, e4, f4, p4, n4⟩ := s4
  rw [n3] at a4 n4 w4 d4
  have s5 := stg_lg (g := g4) (by omega)
  have w5 := lg_new (g := g4) (by omega)
  generalize hLg g4 = g5 at s5 w5 ⊢
  obtain ⟨a5, b5, c5, d5, e5, f5, p5, n5⟩ := s5
  rw [n4] at a5 n5 w5 d5
  have s6 := stg_wk (g := g5) (by omega)
  have w6 : hT (hWk g5) (hN g5) = (12, 0) ∧ ∀ k, hI (hWk g5) (hN g5) k = 0 := one_new
  generalize hWk g5 = g6 at s6 w6 ⊢
  obtain ⟨a6, b6, c6, d6, e6, f6, p6, n6⟩ := s6
  rw [n5] at a6 n6 w6 d6
  have s7 := stg_tr (g := g6) (by omega)
  have w7 := tr_new (g := g6) (by omega)
  generalize hTr g6 = g7 at s7 w7 ⊢
  obtain ⟨a7, b7, c7, d7, e7, f7, p7, n7⟩ := s7
  rw [n6] at a7 n7 w7 d7
  have s8 := stg_co (g := g7) (by omega)
  have w8 : hT (hCo g7) (hN g7) = (4, 0) ∧ ∀ k, hI (hCo g7) (hN g7) k = 0 := one_new
  generalize hCo g7 = g8 at s8 w8 ⊢
  obtain ⟨a8, b8, c8, d8, e8, f8, p8, n8⟩ := s8
  rw [n7] at a8 n8 w8 d8
  have s9 := stg_im (g := g8) (by omega)
  have w9 : hT (hIm g8) (hN g8) = (106, 4) ∧ ∀ k, hI (hIm g8) (hN g8) k = 0 := one_new
  generalize hIm g8 = g9 at s9 w9 ⊢
  obtain ⟨a9, b9, c9, d9, e9, f9, p9, n9⟩ := s9
  rw [n8] at a9 n9 w9 d9
  have s10 := stg_bl (g := g9) (by omega)
  have w10 : hT (hBl g9) (hN g9) = (101, 3) ∧ ∀ k, hI (hBl g9) (hN g9) k = 0 := one_new
  generalize hBl g9 = g10 at s10 w10 ⊢
  obtain ⟨a10, b10, c10, d10, e10, f10, p10, n10⟩ := s10
  rw [n9] at a10 n10 w10 d10
  have S9 : Same g10 g9 302 360 := a10
  have S8 : Same g10 g8 302 359 := (S9.sub (Nat.le_refl _) (by omega)).trans a9
  have S7 : Same g10 g7 302 358 := (S8.sub (Nat.le_refl _) (by omega)).trans a8
  have S6 : Same g10 g6 302 335 := (S7.sub (Nat.le_refl _) (by omega)).trans a7
  have S5 : Same g10 g5 302 334 := (S6.sub (Nat.le_refl _) (by omega)).trans a6
  have S4 : Same g10 g4 302 331 := (S5.sub (Nat.le_refl _) (by omega)).trans a5
  have S3 : Same g10 g3 302 313 := (S4.sub (Nat.le_refl _) (by omega)).trans a4
  have S2 : Same g10 g2 302 310 := (S3.sub (Nat.le_refl _) (by omega)).trans a3
  have S1 : Same g10 g1 302 306 := (S2.sub (Nat.le_refl _) (by omega)).trans a2
  have eT : ∀ x, hT (hFn g10) x = hT g10 x := fun x => rfl
  have eR : ∀ x j, hR (hFn g10) x j = hR g10 x j := fun x j => rfl
  have T3 : (hT g10 300).1 = 13 := by rw [b10, b9, b8, b7, b6, b5, b4, b3, b2, b1]; exact t0
  have U1 : hT g10 301 = (104, 2) := by rw [e10, e9, e8, e7, e6, e5, e4, e3, e2, e1]; exact u0
  have Sf : Same (hFn g10) g10 301 361 := (sm_sI (by omega)).trans ((sm_sI (by omega)).trans (sm_sI (by omega)))
  have R3 : ∀ j, hR g10 300 j = if j = 9 then 360 else if j = 7 then 359 else if j = 6 then 358 else if j = 5 then 335 else if j = 4 then 334 else if j = 3 then 331 else if j = 2 then 313 else if j = 1 then 310 else hR g0 300 j := fun j => by
    rw [d10, d9, d8, d7, d6, d5, d4, d3, d2, d1]
  have R1 : ∀ j, hR g10 301 j = if j = 1 then 306 else if j = 0 then 302 else hR g0 301 j := fun j => by
    rw [p10, p9, p8, p7, p6, p5, p4, p3, p2, p1]
  have D1 : DevL (hFn g10) 302 := DevL_sm (Sf.sub (by omega) (by omega)) (Nat.le_refl _) (Nat.le_refl 306) (DevL_sm S1 (Nat.le_refl _) (Nat.le_refl _) w1.1)
  have D2 : DevL (hFn g10) 306 := DevL_sm (Sf.sub (lo' := 302) (hi' := 310) (by omega) (by omega)) (by omega) (Nat.le_refl _) (DevL_sm S2 (by omega) (Nat.le_refl _) w2.1)
  refine ⟨⟨T3, ?_, ?_, ?_, ?_, ?_, ?_, ?_, ?_, ?_, U1, fun d hd => ?_, fun d hd => ?_, ?_, ?_, ?_, ?_, ?_, ?_, ?_, ?_⟩, n10, fun k => ?_, fun x k h1 h2 => ?_⟩
  · rw [eR, R3]; exact r0
  · rw [eR, R3]; rfl
  · rw [eR, R3]; rfl
  · rw [eR, R3]; rfl
  · rw [eR, R3]; rfl
  · rw [eR, R3]; rfl
  · rw [eR, R3]; rfl
  · rw [eR, R3]; rfl
  · rw [eR, R3]; rfl
  · rw [eR, R1]
    have : d = 0 ∨ d = 1 := by omega
    rcases this with e | e <;> subst e <;> rfl
  · have : d = 0 ∨ d = 1 := by omega
    rcases this with e | e <;> subst e
    · exact D1
    · exact D2
  · exact FilL_sm (Sf.sub (lo' := 302) (hi' := 313) (by omega) (by omega)) (by omega) (Nat.le_refl _) (FilL_sm S3 (by omega) (Nat.le_refl _) w3.1)
  · exact PoolL_sm (Sf.sub (lo' := 302) (hi' := 331) (by omega) (by omega)) (by omega) (Nat.le_refl _) (PoolL_sm S4 (by omega) (Nat.le_refl _) w4.1)
  · exact LogL_sm (Sf.sub (lo' := 302) (hi' := 334) (by omega) (by omega)) (by omega) (Nat.le_refl _) (LogL_sm S5 (by omega) (Nat.le_refl _) w5.1)
  · rw [eT, (S6 334 (by omega) (by omega)).1, w6.1]
  · exact TraL_sm (Sf.sub (lo' := 302) (hi' := 358) (by omega) (by omega)) (by omega) (Nat.le_refl _) (TraL_sm S7 (by omega) (Nat.le_refl _) w7.1)
  · rw [eT, (S8 358 (by omega) (by omega)).1, w8.1]
  · rw [eT, (S9 359 (by omega) (by omega)).1, w9.1]
  · rw [eT, w10.1]
  · have z10 : hI g10 300 k = 0 := by rw [c10, c9, c8, c7, c6, c5, c4, c3, c2, c1]; exact z0 k
    unfold hFn
    by_cases k14 : k = 14
    · subst k14; rw [hI_eq]; rfl
    · rw [hI_nk k14]
      by_cases k11 : k = 11
      · subst k11; rw [hI_eq]; rfl
      · rw [hI_nk k11]
        by_cases k10 : k = 10
        · subst k10; rw [hI_eq]; rfl
        · rw [hI_nk k10, z10, if_neg k10, if_neg k11, if_neg k14]
  · rw [(Sf x h1 h2).2.1]
    unfold hseI
    by_cases q1 : x < 302
    · have ex : x = 301 := by omega
      rw [ex, f10, f9, f8, f7, f6, f5, f4, f3, f2, f1, y0, if_neg (by omega), if_neg (by omega), if_neg (by omega), if_neg (by omega)]
    by_cases q2 : x < 306
    · rw [(S1 x (by omega) (by omega)).2.1, w1.2 x k (by omega) (by omega)]
      by_cases r : x = 302 ∧ k = 0
      · rw [if_pos r, if_pos r]
      · rw [if_neg r, if_neg r, if_neg (by omega), if_neg (by omega), if_neg (by omega)]
    by_cases q3 : x < 310
    · rw [(S2 x (by omega) (by omega)).2.1, w2.2 x k (by omega) (by omega)]
      rw [ite_self, if_neg (by omega), if_neg (by omega), if_neg (by omega), if_neg (by omega)]
    by_cases q4 : x < 313
    · rw [(S3 x (by omega) (by omega)).2.1, w3.2 x k (by omega) (by omega)]
      rw [if_neg (by omega), if_neg (by omega), if_neg (by omega), if_neg (by omega)]
    by_cases q5 : x < 331
    · rw [(S4 x (by omega) (by omega)).2.1, w4.2 x k (by omega) (by omega)]
      rw [if_neg (c := x = 302 ∧ k = 0) (by omega)]
      by_cases r : x = 313 ∧ k = 1
      · rw [if_pos r, if_pos r]
      · rw [if_neg r, if_neg r, if_neg (c := x = 340 ∧ k = 1) (by omega)]
        by_cases r2 : 313 + 2 ≤ x ∧ k = 0
        · rw [if_pos r2, if_pos (by omega)]
        · rw [if_neg r2, if_neg (by omega)]
    by_cases q6 : x < 334
    · rw [(S5 x (by omega) (by omega)).2.1, w5.2 x k (by omega) (by omega)]
      rw [if_neg (by omega), if_neg (by omega), if_neg (by omega), if_neg (by omega)]
    by_cases q7 : x < 335
    · have ex : x = 334 := by omega
      rw [ex, (S6 334 (by omega) (by omega)).2.1, w6.2, if_neg (by omega), if_neg (by omega), if_neg (by omega), if_neg (by omega)]
    by_cases q8 : x < 358
    · rw [(S7 x (by omega) (by omega)).2.1, w7.2 x k (by omega) (by omega)]
      rw [if_neg (c := x = 302 ∧ k = 0) (by omega), if_neg (c := x = 313 ∧ k = 1) (by omega)]
      by_cases r : x = 335 + 5 ∧ k = 1
      · rw [if_pos r, if_pos (by omega)]
      · rw [if_neg r, if_neg (c := x = 340 ∧ k = 1) (by omega)]
        by_cases r2 : 335 + 7 ≤ x ∧ k = 0
        · rw [if_pos r2, if_pos (by omega)]
        · rw [if_neg r2, if_neg (by omega)]
    by_cases q9 : x < 359
    · have ex : x = 358 := by omega
      rw [ex, (S8 358 (by omega) (by omega)).2.1, w8.2, if_neg (by omega), if_neg (by omega), if_neg (by omega), if_neg (by omega)]
    by_cases q10 : x < 360
    · have ex : x = 359 := by omega
      rw [ex, (S9 359 (by omega) (by omega)).2.1, w9.2, if_neg (by omega), if_neg (by omega), if_neg (by omega), if_neg (by omega)]
    have ex : x = 360 := by omega
    rw [ex, w10.2, if_neg (by omega), if_neg (by omega), if_neg (by omega), if_neg (by omega)]
