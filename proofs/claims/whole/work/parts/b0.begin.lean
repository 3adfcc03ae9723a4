/-! THE LAW FROM ITS ENTRY, over clean heaps -/
def H0 : CH := (300, fun a => if a < 300 then (99, 0) else (0, 0), fun _ _ => 0, fun _ _ => 0, fun _ _ => 0, fun _ _ => 0)
theorem H0_T (a : Nat) (h : a < 300) : hT H0 a = (99, 0) := if_pos h
def hA1 : CH := nw H0 (13, 0)
theorem hA1_clo : CloC (fun _ => True) hA1 := ⟨fun _ _ => trivial, fun a ha => ⟨trivial, Nat.lt_trans ha (by decide)⟩, fun a k _ => ⟨trivial, by
  have e : hR hA1 a k = 0 := by
    unfold hA1
    rw [hR_nw]
    split <;> rfl
  rw [e]
  exact Nat.lt_of_lt_of_le (by decide) (show 300 ≤ hN hA1 from Nat.le_succ 300)⟩, fun a ha => ⟨by
    have h3 : a < 300 := ha
    unfold hA1
    rw [hT_nw, if_neg (show ¬ a = hN H0 from fun z => by have e : hN H0 = 300 := rfl; omega), H0_T a h3], fun k => by
    unfold hA1
    rw [hR_nw]
    split <;> rfl⟩, fun a k _ => by
  unfold hA1
  rw [hR_nw]
  split <;> rfl⟩
theorem hA1_0 : (hT hA1 300).1 = 13 ∧ (∀ k, hI hA1 300 k = 0) ∧ J0 hA1 := ⟨by unfold hA1; rw [hT_nw, if_pos (show 300 = hN H0 from rfl)], fun k => by unfold hA1; rw [hI_nw, if_pos (show 300 = hN H0 from rfl)], j0_nw (fun _ _ => rfl)⟩
/-- the house made -/
theorem hse_cls : Cls (fun _ => True) wX9_init [.ref 300] hA1 (.inl []) (mkHse hA1) := cls_of fwX9_init nX9_init (good0 hA1_clo ⟨trivial, by decide⟩) (fun Q q => hse_init rfl hA1_0.1 q)
def hA2 : CH := nw (mkHse hA1) (16, 0)
/-- the model made -/
theorem mod_cls (c1 : CloC (fun _ => True) (mkHse hA1)) : CloC (fun a => a < 300 ∨ 361 ≤ a) hA2 ∧ Cls (fun a => a < 300 ∨ 361 ≤ a) wX12_init [.ref 361] hA2 (.inl []) (mkMod hA2) := by
  have n1 : hN (mkHse hA1) = 361 := (mkHse_ok rfl hA1_0.1 hA1_0.2.1).2.1
  have n2 : hN hA2 = 362 := by unfold hA2; rw [hN_nw, n1]
  have w3 : W0 = 300 := rfl
  have c2 : CloC (fun a => a < 300 ∨ 361 ≤ a) hA2 := by
    have r0 : ∀ a k, (a < 300 ∨ 361 ≤ a) → hR hA2 a k = 0 := fun a k h => by
      unfold hA2
      rw [hR_nw]
      split
      · rfl
      · rcases h with h | h
        · exact (c1.2.2.2.1 a h).2 k
        · exact c1.2.2.2.2 a k (by omega)
    refine ⟨fun a ha => Or.inr (by omega), fun a ha => ⟨Or.inl ha, by omega⟩, fun a k h => ?_, fun a ha => ⟨?_, fun k => r0 a k (Or.inl ha)⟩, fun a k ha => r0 a k (Or.inr (by omega))⟩
    · rw [r0 a k h]
      exact ⟨Or.inl (by omega), by omega⟩
    · unfold hA2
      rw [hT_nw, if_neg (by omega)]
      exact (c1.2.2.2.1 a ha).1
  exact ⟨c2, cls_of fwX12_init nX12_init (good0 c2 ⟨Or.inr (by omega), by omega⟩) (fun Q q => mod_init n2 (by unfold hA2; rw [hT_nw, if_pos n1.symm]) q)⟩
def hA3 (g : CH) : CH := nw (nw g (101, 1)) (103, 1)
theorem LI_0 (c1 : CloC (fun _ => True) (mkHse hA1)) (c2 : CloC (fun a => a < 300 ∨ 361 ≤ a) (mkMod hA2)) (f2 : Fr (fun a => a < 300 ∨ 361 ≤ a) hA2 (mkMod hA2)) : LI 0 373 374 (hA3 (mkMod hA2)) := by
  obtain ⟨L1, n1, i1, i2⟩ := mkHse_ok (h := hA1) rfl hA1_0.1 hA1_0.2.1
  have j1 := j0_hse hA1_0.2.2
  have t2 : (hT hA2 361).1 = 16 := by unfold hA2; rw [hT_nw, if_pos n1.symm]
  have n2 : hN hA2 = 362 := by unfold hA2; rw [hN_nw, n1]
  obtain ⟨n3, s3, m3⟩ := mkMod_ok (h := hA2) n2 t2 (fun k => by unfold hA2; rw [hI_nw, if_pos n1.symm]) (fun k => by unfold hA2; rw [hJ_nw, if_pos n1.symm])
  have e12 : ∀ x, x < 361 → Sm hA2 (mkHse hA1) x := fun x hx => by
    unfold hA2
    exact ⟨by rw [hT_nw, if_neg (by omega)], by funext k; rw [hI_nw, if_neg (by omega)], by funext k; rw [hJ_nw, if_neg (by omega)], by funext k; rw [hR_nw, if_neg (by omega)]⟩
  generalize mkMod hA2 = g at c2 f2 n3 s3 m3 ⊢
  generalize hA2 = g2 at f2 n2 t2 s3 e12
  generalize mkHse hA1 = g1 at c1 L1 n1 i1 i2 j1 e12
  have w3 : W0 = 300 := rfl
  have n5 : hN (hA3 g) = 375 := by
    show hN g + 1 + 1 = 375
    omega
  have o : ∀ x, x < 373 → Sm (hA3 g) g x := fun x hx => by
    have na : hN (nw g (101, 1)) = hN g + 1 := rfl
    unfold hA3
    exact ⟨by rw [hT_nw, if_neg (by omega), hT_nw, if_neg (by omega)], by funext k; rw [hI_nw, if_neg (by omega), hI_nw, if_neg (by omega)], by funext k; rw [hJ_nw, if_neg (by omega), hJ_nw, if_neg (by omega)], by funext k; rw [hR_nw, if_neg (by omega), hR_nw, if_neg (by omega)]⟩
  have r9 : ∀ x k, 373 ≤ x → hR (hA3 g) x k = 0 := fun x k hx => by
    unfold hA3
    rw [hR_nw]
    split
    · rfl
    · rw [hR_nw]
      split
      · rfl
      · exact c2.2.2.2.2 x k (by omega)
  have sa : ∀ x, 300 ≤ x → x < 361 → Sm (hA3 g) g1 x := fun x h1 h2 => by
    obtain ⟨a1, a2, a3, a4⟩ := o x (by omega)
    obtain ⟨b1, b2, b3, b4⟩ := s3 x (by omega) h2
    obtain ⟨d1, d2, d3, d4⟩ := e12 x h2
    exact ⟨a1.trans (b1.trans d1), a2.trans (b2.trans d2), a3.trans (b3.trans d3), a4.trans (b4.trans d4)⟩
  have FA1 : FstA g1 := ⟨L1, i1, i2, fun k => j1 _ _⟩
  have FB1 : FstB g := ⟨by omega, m3⟩
  have LA : Lay (hA3 g) := Lay_ext L1 (fun x h1 h2 => sa x (by omega) (by omega)) (sa 300 (by omega) (by omega)).1 (sa 300 (by omega) (by omega)).2.2.2 (sa 359 (by omega) (by omega)).1 (sa 360 (by omega) (by omega)).1
  have FA : FstA (hA3 g) := ⟨LA, fun k => by rw [(sa 300 (by omega) (by omega)).2.1]; exact i1 k, fun x k h1 h2 => by rw [(sa x (by omega) h2).2.1]; exact i2 x k h1 h2, fun k => by rw [(sa 360 (by omega) (by omega)).2.2.1]; exact j1 _ _⟩
  have FB : FstB (hA3 g) := by
    unfold FstB
    rw [(o 361 (by omega)).1, (o 361 (by omega)).2.1, (o 361 (by omega)).2.2.1, (o 361 (by omega)).2.2.2, (o 362 (by omega)).1, (o 363 (by omega)).1, (o 364 (by omega)).1, (o 365 (by omega)).1, (o 366 (by omega)).1, (o 367 (by omega)).1, (o 368 (by omega)).1, (o 369 (by omega)).1, (o 370 (by omega)).1, (o 371 (by omega)).1, (o 372 (by omega)).1]
    obtain ⟨f1, f2', f3, f4, f5, f6, f7, f8, f9, f10, f11, f12, f13, f14, f15, f16, f17, f18, f19, f20, f21, f22, f23, f24, f25, f26, fx⟩ := FB1
    exact ⟨by omega, f2', f3, f4, f5, f6, f7, f8, f9, f10, f11, f12, f13, f14, f15, f16, f17, f18, f19, f20, f21, f22, f23, f24, f25, f26, fun x h1 h2 => by rw [(o x h2).2.1, (o x h2).2.2.1, (o x h2).2.2.2]; exact fx x h1 h2⟩
  have T0' : ∀ x, x < 300 → (hT (hA3 g) x).1 = 99 ∧ ∀ k, hR (hA3 g) x k = 0 := fun x hx => by
    obtain ⟨a1, a2, a3, a4⟩ := o x (by omega)
    rw [a1, a4]
    exact c2.2.2.2.1 x hx
  refine ⟨fun a => a < 300 ∨ (300 ≤ a ∧ a < 361) ∨ 375 ≤ a, fun a => a < 300 ∨ (361 ≤ a ∧ a < 373) ∨ 375 ≤ a, ⟨⟨fun a ha => Or.inr (Or.inr (by omega)), fun a ha => ⟨Or.inl ha, by omega⟩, fun a k h => ?_, fun a ha => T0' a ha, fun a k ha => r9 a k (by omega)⟩, ⟨fun a ha => Or.inr (Or.inr (by omega)), fun a ha => ⟨Or.inl ha, by omega⟩, fun a k h => ?_, fun a ha => T0' a ha, fun a k ha => r9 a k (by omega)⟩, Or.inr (Or.inl (by omega)), Or.inr (Or.inl (by omega)), fun a h1 h2 h3 h4 => by omega, ⟨by omega, by omega, by omega, by omega, ?_⟩, ⟨by omega, by omega, by omega, by omega, ?_⟩, fun a k h1 h2 => ?_⟩, RR_0 FA FB, INV_0 FA⟩
  · rcases h with h | h | h
    · rw [(T0' a h).2 k]
      exact ⟨Or.inl (by omega), by omega⟩
    · have e := (sa a h.1 h.2).2.2.2
      have z := (c1.2.2.1 a k trivial).2
      rw [e]
      exact ⟨by omega, by omega⟩
    · rw [r9 a k (by omega)]
      exact ⟨Or.inl (by omega), by omega⟩
  · rcases h with h | h | h
    · rw [(T0' a h).2 k]
      exact ⟨Or.inl (by omega), by omega⟩
    · have e := (o a h.2).2.2.2
      have z := c2.2.2.1 a k (Or.inr h.1)
      obtain ⟨z1, z2⟩ := z
      rw [e]
      refine ⟨?_, by omega⟩
      rcases z1 with z1 | z1
      · exact Or.inl z1
      · exact Or.inr (Or.inl ⟨z1, by omega⟩)
    · rw [r9 a k (by omega)]
      exact ⟨Or.inl (by omega), by omega⟩
  · have na : hN (nw g (101, 1)) = hN g + 1 := rfl
    unfold hA3
    rw [hT_nw, if_neg (by omega), hT_nw, if_pos (by omega)]
  · have na : hN (nw g (101, 1)) = hN g + 1 := rfl
    unfold hA3
    rw [hT_nw, if_pos (by omega)]
  · exact r9 a k (by omega)
theorem law_clean {S : Nat × (Nat → Int32)} {X : XT} {Q : QT} (hX : ∀ pc lv st h c s, codeL S pc X Q lv st h c s → X pc lv st h c s) (hS : S.1 ≤ 2048) (hQ : ∀ h, Q (.inl [.int 1]) h) : X 0 (ent 9 [.ref 258]) [] H0 0 0 := by
  have n1 : hN (mkHse hA1) = 361 := (mkHse_ok rfl hA1_0.1 hA1_0.2.1).2.1
  have c7 : CloC (fun _ => True) (mkHse hA1) → X 7 [.ref 258, .null, .null, .null, .null, .null, .null, .null, .null] [.ref 300] (mkHse hA1) 81 2416 := fun c1 => by
    have hM := mod_cls c1
    have c15 : CloC (fun a => a < 300 ∨ 361 ≤ a) (mkMod hA2) → Fr (fun a => a < 300 ∨ 361 ≤ a) hA2 (mkMod hA2) → X 15 [.ref 258, .ref 300, .null, .null, .null, .null, .null, .null, .null] [.ref 361] (mkMod hA2) 93 3478 := fun c2 f2 => by
      have L0 := LI_0 c1 c2 f2
      have n3 : hN (mkMod hA2) = 373 := (mkMod_ok (h := hA2) (by unfold hA2; rw [hN_nw, n1]) (by unfold hA2; rw [hT_nw, if_pos n1.symm]) (fun k => by unfold hA2; rw [hI_nw, if_pos n1.symm]) (fun k => by unfold hA2; rw [hJ_nw, if_pos n1.symm])).1
      generalize mkMod hA2 = g at L0 n3 ⊢
      have l28 := law_loop hX hS hQ (S.1 / 4) 0 (hA3 g) 95 3480 .null .null .null (by omega) L0 (by omega) (by omega)
      have c20 : X 20 [.ref 258, .ref 300, .ref 361, .ref 373, .null, .null, .null, .null, .null] [] (nw g (101, 1)) 94 3479 := by
        have e4 : hN (nw g (101, 1)) = 374 := by rw [hN_nw, n3]
        (refine go (mL_law_0 S) (clo_0 hX) [23, 28] 400 ?_; conv => whnf)
        repeat (first | (refine rs ?_; conv => whnf) | unfold k_call | ((with_reducible refine And.intro ?_ ?_); (first | (first | assumption | rfl | exact True.intro | exact Nat.le_of_ble_eq_true rfl | exact Or.inl rfl | exact Or.inr rfl | exact okv3 (by assumption) | decide | (focus (simp (disch := omega) only [nI_clamp, vp_in_nI, hT_sI, hR_sI, hT_sJ, hR_sJ, hT_sR, hI_sJ, hI_sR, hJ_sI, hJ_sR, hI_eq, hI_ne, hI_nk]; done)) | (focus (simp (disch := omega) only [nI_clamp, vp_in_nI, hT_sI, hR_sI, hT_sJ, hR_sJ, hT_sR, hI_sJ, hI_sR, hJ_sI, hJ_sR, hI_eq, hI_ne, hI_nk]; first | assumption | exact okv3 (by assumption)))) | (focus (refine ⟨_, rfl, ?_⟩; (first | assumption | rfl | exact True.intro | exact Nat.le_of_ble_eq_true rfl | exact Or.inl rfl | exact Or.inr rfl | exact okv3 (by assumption) | decide | (focus (simp (disch := omega) only [nI_clamp, vp_in_nI, hT_sI, hR_sI, hT_sJ, hR_sJ, hT_sR, hI_sJ, hI_sR, hJ_sI, hJ_sR, hI_eq, hI_ne, hI_nk]; done)) | (focus (simp (disch := omega) only [nI_clamp, vp_in_nI, hT_sI, hR_sI, hT_sJ, hR_sJ, hT_sR, hI_sJ, hI_sR, hJ_sI, hJ_sR, hI_eq, hI_ne, hI_nk]; first | assumption | exact okv3 (by assumption)))))))))
        rw [e4]
        (refine go (mL_law_0 S) (clo_0 hX) [28] 400 ?_; conv => whnf)
        repeat (first | (refine rs ?_; conv => whnf) | unfold k_call | ((with_reducible refine And.intro ?_ ?_); (first | (first | assumption | rfl | exact True.intro | exact Nat.le_of_ble_eq_true rfl | exact Or.inl rfl | exact Or.inr rfl | exact okv3 (by assumption) | decide | (focus (simp (disch := omega) only [nI_clamp, vp_in_nI, hT_sI, hR_sI, hT_sJ, hR_sJ, hT_sR, hI_sJ, hI_sR, hJ_sI, hJ_sR, hI_eq, hI_ne, hI_nk]; done)) | (focus (simp (disch := omega) only [nI_clamp, vp_in_nI, hT_sI, hR_sI, hT_sJ, hR_sJ, hT_sR, hI_sJ, hI_sR, hJ_sI, hJ_sR, hI_eq, hI_ne, hI_nk]; first | assumption | exact okv3 (by assumption)))) | (focus (refine ⟨_, rfl, ?_⟩; (first | assumption | rfl | exact True.intro | exact Nat.le_of_ble_eq_true rfl | exact Or.inl rfl | exact Or.inr rfl | exact okv3 (by assumption) | decide | (focus (simp (disch := omega) only [nI_clamp, vp_in_nI, hT_sI, hR_sI, hT_sJ, hR_sJ, hT_sR, hI_sJ, hI_sR, hJ_sI, hJ_sR, hI_eq, hI_ne, hI_nk]; done)) | (focus (simp (disch := omega) only [nI_clamp, vp_in_nI, hT_sI, hR_sI, hT_sJ, hR_sJ, hT_sR, hI_sJ, hI_sR, hJ_sI, hJ_sR, hI_eq, hI_ne, hI_nk]; first | assumption | exact okv3 (by assumption)))))))))
        exact l28
      (refine go (mL_law_0 S) (clo_0 hX) [19, 20] 400 ?_; conv => whnf)
      repeat (first | (refine rs ?_; conv => whnf) | unfold k_call | ((with_reducible refine And.intro ?_ ?_); (first | (first | assumption | rfl | exact True.intro | exact Nat.le_of_ble_eq_true rfl | exact Or.inl rfl | exact Or.inr rfl | exact okv3 (by assumption) | decide | (focus (simp (disch := omega) only [nI_clamp, vp_in_nI, hT_sI, hR_sI, hT_sJ, hR_sJ, hT_sR, hI_sJ, hI_sR, hJ_sI, hJ_sR, hI_eq, hI_ne, hI_nk]; done)) | (focus (simp (disch := omega) only [nI_clamp, vp_in_nI, hT_sI, hR_sI, hT_sJ, hR_sJ, hT_sR, hI_sJ, hI_sR, hJ_sI, hJ_sR, hI_eq, hI_ne, hI_nk]; first | assumption | exact okv3 (by assumption)))) | (focus (refine ⟨_, rfl, ?_⟩; (first | assumption | rfl | exact True.intro | exact Nat.le_of_ble_eq_true rfl | exact Or.inl rfl | exact Or.inr rfl | exact okv3 (by assumption) | decide | (focus (simp (disch := omega) only [nI_clamp, vp_in_nI, hT_sI, hR_sI, hT_sJ, hR_sJ, hT_sR, hI_sJ, hI_sR, hJ_sI, hJ_sR, hI_eq, hI_ne, hI_nk]; done)) | (focus (simp (disch := omega) only [nI_clamp, vp_in_nI, hT_sI, hR_sI, hT_sJ, hR_sJ, hT_sR, hI_sJ, hI_sR, hJ_sI, hJ_sR, hI_eq, hI_ne, hI_nk]; first | assumption | exact okv3 (by assumption)))))))))
      rw [n3]
      (refine go (mL_law_0 S) (clo_0 hX) [20] 400 ?_; conv => whnf)
      repeat (first | (refine rs ?_; conv => whnf) | unfold k_call | ((with_reducible refine And.intro ?_ ?_); (first | (first | assumption | rfl | exact True.intro | exact Nat.le_of_ble_eq_true rfl | exact Or.inl rfl | exact Or.inr rfl | exact okv3 (by assumption) | decide | (focus (simp (disch := omega) only [nI_clamp, vp_in_nI, hT_sI, hR_sI, hT_sJ, hR_sJ, hT_sR, hI_sJ, hI_sR, hJ_sI, hJ_sR, hI_eq, hI_ne, hI_nk]; done)) | (focus (simp (disch := omega) only [nI_clamp, vp_in_nI, hT_sI, hR_sI, hT_sJ, hR_sJ, hT_sR, hI_sJ, hI_sR, hJ_sI, hJ_sR, hI_eq, hI_ne, hI_nk]; first | assumption | exact okv3 (by assumption)))) | (focus (refine ⟨_, rfl, ?_⟩; (first | assumption | rfl | exact True.intro | exact Nat.le_of_ble_eq_true rfl | exact Or.inl rfl | exact Or.inr rfl | exact okv3 (by assumption) | decide | (focus (simp (disch := omega) only [nI_clamp, vp_in_nI, hT_sI, hR_sI, hT_sJ, hR_sJ, hT_sR, hI_sJ, hI_sR, hJ_sI, hJ_sR, hI_eq, hI_ne, hI_nk]; done)) | (focus (simp (disch := omega) only [nI_clamp, vp_in_nI, hT_sI, hR_sI, hT_sJ, hR_sJ, hT_sR, hI_sJ, hI_sR, hJ_sI, hJ_sR, hI_eq, hI_ne, hI_nk]; first | assumption | exact okv3 (by assumption)))))))))
      exact c20
    have c11 : X 11 [.ref 258, .ref 300, .null, .null, .null, .null, .null, .null, .null] [.ref 361] hA2 82 2445 := by
      (refine go (mL_law_0 S) (clo_0 hX) [15] 400 ?_; conv => whnf)
      repeat (first | (refine rs ?_; conv => whnf) | unfold k_call | ((with_reducible refine And.intro ?_ ?_); (first | (first | assumption | rfl | exact True.intro | exact Nat.le_of_ble_eq_true rfl | exact Or.inl rfl | exact Or.inr rfl | exact okv3 (by assumption) | decide | (focus (simp (disch := omega) only [nI_clamp, vp_in_nI, hT_sI, hR_sI, hT_sJ, hR_sJ, hT_sR, hI_sJ, hI_sR, hJ_sI, hJ_sR, hI_eq, hI_ne, hI_nk]; done)) | (focus (simp (disch := omega) only [nI_clamp, vp_in_nI, hT_sI, hR_sI, hT_sJ, hR_sJ, hT_sR, hI_sJ, hI_sR, hJ_sI, hJ_sR, hI_eq, hI_ne, hI_nk]; first | assumption | exact okv3 (by assumption)))) | (focus (refine ⟨_, rfl, ?_⟩; (first | assumption | rfl | exact True.intro | exact Nat.le_of_ble_eq_true rfl | exact Or.inl rfl | exact Or.inr rfl | exact okv3 (by assumption) | decide | (focus (simp (disch := omega) only [nI_clamp, vp_in_nI, hT_sI, hR_sI, hT_sJ, hR_sJ, hT_sR, hI_sJ, hI_sR, hJ_sI, hJ_sR, hI_eq, hI_ne, hI_nk]; done)) | (focus (simp (disch := omega) only [nI_clamp, vp_in_nI, hT_sI, hR_sI, hT_sJ, hR_sJ, hT_sR, hI_sJ, hI_sR, hJ_sI, hJ_sR, hI_eq, hI_ne, hI_nk]; first | assumption | exact okv3 (by assumption)))))))))
      refine hM.2 _ (fun c2 f2 => ?_)
      exact c15 c2 f2
    (refine go (mL_law_0 S) (clo_0 hX) [11] 400 ?_; conv => whnf)
    repeat (first | (refine rs ?_; conv => whnf) | unfold k_call | ((with_reducible refine And.intro ?_ ?_); (first | (first | assumption | rfl | exact True.intro | exact Nat.le_of_ble_eq_true rfl | exact Or.inl rfl | exact Or.inr rfl | exact okv3 (by assumption) | decide | (focus (simp (disch := omega) only [nI_clamp, vp_in_nI, hT_sI, hR_sI, hT_sJ, hR_sJ, hT_sR, hI_sJ, hI_sR, hJ_sI, hJ_sR, hI_eq, hI_ne, hI_nk]; done)) | (focus (simp (disch := omega) only [nI_clamp, vp_in_nI, hT_sI, hR_sI, hT_sJ, hR_sJ, hT_sR, hI_sJ, hI_sR, hJ_sI, hJ_sR, hI_eq, hI_ne, hI_nk]; first | assumption | exact okv3 (by assumption)))) | (focus (refine ⟨_, rfl, ?_⟩; (first | assumption | rfl | exact True.intro | exact Nat.le_of_ble_eq_true rfl | exact Or.inl rfl | exact Or.inr rfl | exact okv3 (by assumption) | decide | (focus (simp (disch := omega) only [nI_clamp, vp_in_nI, hT_sI, hR_sI, hT_sJ, hR_sJ, hT_sR, hI_sJ, hI_sR, hJ_sI, hJ_sR, hI_eq, hI_ne, hI_nk]; done)) | (focus (simp (disch := omega) only [nI_clamp, vp_in_nI, hT_sI, hR_sI, hT_sJ, hR_sJ, hT_sR, hI_sJ, hI_sR, hJ_sI, hJ_sR, hI_eq, hI_ne, hI_nk]; first | assumption | exact okv3 (by assumption)))))))))
    rw [n1]
    exact c11
  (refine go (mL_law_0 S) (clo_0 hX) [7] 400 ?_; conv => whnf)
  repeat (first | (refine rs ?_; conv => whnf) | unfold k_call | ((with_reducible refine And.intro ?_ ?_); (first | (first | assumption | rfl | exact True.intro | exact Nat.le_of_ble_eq_true rfl | exact Or.inl rfl | exact Or.inr rfl | exact okv3 (by assumption) | decide | (focus (simp (disch := omega) only [nI_clamp, vp_in_nI, hT_sI, hR_sI, hT_sJ, hR_sJ, hT_sR, hI_sJ, hI_sR, hJ_sI, hJ_sR, hI_eq, hI_ne, hI_nk]; done)) | (focus (simp (disch := omega) only [nI_clamp, vp_in_nI, hT_sI, hR_sI, hT_sJ, hR_sJ, hT_sR, hI_sJ, hI_sR, hJ_sI, hJ_sR, hI_eq, hI_ne, hI_nk]; first | assumption | exact okv3 (by assumption)))) | (focus (refine ⟨_, rfl, ?_⟩; (first | assumption | rfl | exact True.intro | exact Nat.le_of_ble_eq_true rfl | exact Or.inl rfl | exact Or.inr rfl | exact okv3 (by assumption) | decide | (focus (simp (disch := omega) only [nI_clamp, vp_in_nI, hT_sI, hR_sI, hT_sJ, hR_sJ, hT_sR, hI_sJ, hI_sR, hJ_sI, hJ_sR, hI_eq, hI_ne, hI_nk]; done)) | (focus (simp (disch := omega) only [nI_clamp, vp_in_nI, hT_sI, hR_sI, hT_sJ, hR_sJ, hT_sR, hI_sJ, hI_sR, hJ_sI, hJ_sR, hI_eq, hI_ne, hI_nk]; first | assumption | exact okv3 (by assumption)))))))))
  refine hse_cls _ (fun c1 f1 => ?_)
  exact c7 c1
