/-! THE LAW, whole, over clean heaps -/
theorem len_cmp {N t : Nat} (hN : N ≤ 2048) (ht : t ≤ 512) : (nI N - 4 < nI (4 * t)) ↔ N < 4 * t + 4 := by
  by_cases c : 4 ≤ N
  · have e : nI N - 4 = nI (N - 4) := pk_sub (a := N) (b := 4) c
    rw [e, nI_ltI (by omega) (by omega)]
    omega
  · have h : nI N - 4 < 0 := by
      rcases (by omega : N = 0 ∨ N = 1 ∨ N = 2 ∨ N = 3) with e | e | e | e <;> subst e <;> decide
    exact ⟨fun _ => by omega, fun _ => Int32.lt_of_lt_of_le h (nI_pos' (by omega))⟩
theorem LI_up {t o d : Nat} {h : CH} (ht : t < 512) (L : LI t o d h) : LI (t + 1) o d h := by
  obtain ⟨C, D, S, R, I⟩ := L
  exact ⟨C, D, S, R.up (by omega) (by omega), inv_up I (by omega)⟩
theorem law_loop {S : Nat × (Nat → Int32)} {X : XT} {Q : QT} {o d : Nat} (hX : ∀ pc lv st h c s, codeL S pc X Q lv st h c s → X pc lv st h c s) (hS : S.1 ≤ 2048) (hQ : ∀ h, Q (.inl [.int 1]) h) : ∀ (m t : Nat) (h : CH) (c s : Nat) (x6 x7 x8 : Value), t + m = S.1 / 4 → LI t o d h → c ≤ 200 + 66 * t → s ≤ 4000 + 1200 * t → X 28 [.ref 258, .ref 300, .ref 361, .ref o, .ref d, .int (nI (4 * t)), x6, x7, x8] [] h c s := by
  intro m
  induction m with
  | zero =>
    intro t h c s x6 x7 x8 e L hc hs
    have c1 : c ≤ 603072 := by omega
    have s1 : s ≤ 7207018 := by omega
    have fin : X 2297 [.ref 258, .ref 300, .ref 361, .ref o, .ref d, .int (nI (4 * t)), x6, x7, x8] [] h c s := by
      (refine go (mL_law_2291 S) (clo_2291 hX) [] 400 ?_; conv => whnf)
      repeat (first | (refine rs ?_; conv => whnf) | unfold k_call | ((with_reducible refine And.intro ?_ ?_); (first | (first | assumption | rfl | exact True.intro | exact Nat.le_of_ble_eq_true rfl | exact Or.inl rfl | exact Or.inr rfl | exact okv3 (by assumption) | decide | (focus (simp (disch := omega) only [nI_clamp, vp_in_nI, hT_sI, hR_sI, hT_sJ, hR_sJ, hT_sR, hI_sJ, hI_sR, hJ_sI, hJ_sR, hI_eq, hI_ne, hI_nk]; done)) | (focus (simp (disch := omega) only [nI_clamp, vp_in_nI, hT_sI, hR_sI, hT_sJ, hR_sJ, hT_sR, hI_sJ, hI_sR, hJ_sI, hJ_sR, hI_eq, hI_ne, hI_nk]; first | assumption | exact okv3 (by assumption)))) | (focus (refine ⟨_, rfl, ?_⟩; (first | assumption | rfl | exact True.intro | exact Nat.le_of_ble_eq_true rfl | exact Or.inl rfl | exact Or.inr rfl | exact okv3 (by assumption) | decide | (focus (simp (disch := omega) only [nI_clamp, vp_in_nI, hT_sI, hR_sI, hT_sJ, hR_sJ, hT_sR, hI_sJ, hI_sR, hJ_sI, hJ_sR, hI_eq, hI_ne, hI_nk]; done)) | (focus (simp (disch := omega) only [nI_clamp, vp_in_nI, hT_sI, hR_sI, hT_sJ, hR_sJ, hT_sR, hI_sJ, hI_sR, hJ_sI, hJ_sR, hI_eq, hI_ne, hI_nk]; first | assumption | exact okv3 (by assumption)))))))))
      exact hQ h
    (refine go (mL_law_0 S) (clo_0 hX) [2297] 400 ?_; conv => whnf)
    repeat (first | (refine rs ?_; conv => whnf) | unfold k_call | ((with_reducible refine And.intro ?_ ?_); (first | (first | assumption | rfl | exact True.intro | exact Nat.le_of_ble_eq_true rfl | exact Or.inl rfl | exact Or.inr rfl | exact okv3 (by assumption) | decide | (focus (simp (disch := omega) only [nI_clamp, vp_in_nI, hT_sI, hR_sI, hT_sJ, hR_sJ, hT_sR, hI_sJ, hI_sR, hJ_sI, hJ_sR, hI_eq, hI_ne, hI_nk]; done)) | (focus (simp (disch := omega) only [nI_clamp, vp_in_nI, hT_sI, hR_sI, hT_sJ, hR_sJ, hT_sR, hI_sJ, hI_sR, hJ_sI, hJ_sR, hI_eq, hI_ne, hI_nk]; first | assumption | exact okv3 (by assumption)))) | (focus (refine ⟨_, rfl, ?_⟩; (first | assumption | rfl | exact True.intro | exact Nat.le_of_ble_eq_true rfl | exact Or.inl rfl | exact Or.inr rfl | exact okv3 (by assumption) | decide | (focus (simp (disch := omega) only [nI_clamp, vp_in_nI, hT_sI, hR_sI, hT_sJ, hR_sJ, hT_sR, hI_sJ, hI_sR, hJ_sI, hJ_sR, hI_eq, hI_ne, hI_nk]; done)) | (focus (simp (disch := omega) only [nI_clamp, vp_in_nI, hT_sI, hR_sI, hT_sJ, hR_sJ, hT_sR, hI_sJ, hI_sR, hJ_sI, hJ_sR, hI_eq, hI_ne, hI_nk]; first | assumption | exact okv3 (by assumption)))))))))
    refine br_t ((len_cmp hS (by omega)).mpr (by omega)) ?_
    exact fin
  | succ m ih =>
    intro t h c s x6 x7 x8 e L hc hs
    have ht : t < 512 := by omega
    have i0 : vp_in (nI (4 * t)) S.1 := vp_in_nI (by omega) (by omega)
    have i1 : vp_in (nI (4 * t) + 1) S.1 := by rw [nI_1]; exact vp_in_nI (by omega) (by omega)
    have i2 : vp_in (nI (4 * t) + 2) S.1 := by rw [show nI (4 * t) + 2 = nI (4 * t + 2) from nI_add _ 2]; exact vp_in_nI (by omega) (by omega)
    have i3 : vp_in (nI (4 * t) + 3) S.1 := by rw [show nI (4 * t) + 3 = nI (4 * t + 3) from nI_add _ 3]; exact vp_in_nI (by omega) (by omega)
    have nx : NXT X t o d (nI (4 * t)) := fun h' y6 y7 y8 c' s' L' hc' hs' => by
      have z := ih (t + 1) h' c' s' y6 y7 y8 (by omega) L' hc' hs'
      rw [show nI (4 * (t + 1)) = nI (4 * t) + 4 from (nI_add (4 * t) 4).symm] at z
      (refine go (mL_law_2291 S) (clo_2291 hX) [28] 400 ?_; conv => whnf)
      repeat (first | (refine rs ?_; conv => whnf) | unfold k_call | ((with_reducible refine And.intro ?_ ?_); (first | (first | assumption | rfl | exact True.intro | exact Nat.le_of_ble_eq_true rfl | exact Or.inl rfl | exact Or.inr rfl | exact okv3 (by assumption) | decide | (focus (simp (disch := omega) only [nI_clamp, vp_in_nI, hT_sI, hR_sI, hT_sJ, hR_sJ, hT_sR, hI_sJ, hI_sR, hJ_sI, hJ_sR, hI_eq, hI_ne, hI_nk]; done)) | (focus (simp (disch := omega) only [nI_clamp, vp_in_nI, hT_sI, hR_sI, hT_sJ, hR_sJ, hT_sR, hI_sJ, hI_sR, hJ_sI, hJ_sR, hI_eq, hI_ne, hI_nk]; first | assumption | exact okv3 (by assumption)))) | (focus (refine ⟨_, rfl, ?_⟩; (first | assumption | rfl | exact True.intro | exact Nat.le_of_ble_eq_true rfl | exact Or.inl rfl | exact Or.inr rfl | exact okv3 (by assumption) | decide | (focus (simp (disch := omega) only [nI_clamp, vp_in_nI, hT_sI, hR_sI, hT_sJ, hR_sJ, hT_sR, hI_sJ, hI_sR, hJ_sI, hJ_sR, hI_eq, hI_ne, hI_nk]; done)) | (focus (simp (disch := omega) only [nI_clamp, vp_in_nI, hT_sI, hR_sI, hT_sJ, hR_sJ, hT_sR, hI_sJ, hI_sR, hJ_sI, hJ_sR, hI_eq, hI_ne, hI_nk]; first | assumption | exact okv3 (by assumption)))))))))
      exact z
    have def9 : X 2291 [.ref 258, .ref 300, .ref 361, .ref o, .ref d, .int (nI (4 * t)), x6, x7, x8] [] h c s := nx h x6 x7 x8 c s (LI_up ht L) (by omega) (by omega)
    have all := case_all hX ht L hc hs i1 i2 i3 nx def9
    have key := fun x => tsw_all (P := fun p => X p [.ref 258, .ref 300, .ref 361, .ref o, .ref d, .int (nI (4 * t)), x6, x7, x8] [] h c s) def9 all x
    clear all def9 nx ih i1 i2 i3
    have c44 : ∀ x, X 44 [.ref 258, .ref 300, .ref 361, .ref o, .ref d, .int (nI (4 * t)), x6, x7, x8] [.int x] h c s := fun x => clo_0 hX 44 _ _ _ _ _ (key x)
    clear key
    (refine go (mL_law_0 S) (clo_0 hX) [44] 400 ?_; conv => whnf)
    repeat (first | (refine rs ?_; conv => whnf) | unfold k_call | ((with_reducible refine And.intro ?_ ?_); (first | (first | assumption | rfl | exact True.intro | exact Nat.le_of_ble_eq_true rfl | exact Or.inl rfl | exact Or.inr rfl | exact okv3 (by assumption) | decide | (focus (simp (disch := omega) only [nI_clamp, vp_in_nI, hT_sI, hR_sI, hT_sJ, hR_sJ, hT_sR, hI_sJ, hI_sR, hJ_sI, hJ_sR, hI_eq, hI_ne, hI_nk]; done)) | (focus (simp (disch := omega) only [nI_clamp, vp_in_nI, hT_sI, hR_sI, hT_sJ, hR_sJ, hT_sR, hI_sJ, hI_sR, hJ_sI, hJ_sR, hI_eq, hI_ne, hI_nk]; first | assumption | exact okv3 (by assumption)))) | (focus (refine ⟨_, rfl, ?_⟩; (first | assumption | rfl | exact True.intro | exact Nat.le_of_ble_eq_true rfl | exact Or.inl rfl | exact Or.inr rfl | exact okv3 (by assumption) | decide | (focus (simp (disch := omega) only [nI_clamp, vp_in_nI, hT_sI, hR_sI, hT_sJ, hR_sJ, hT_sR, hI_sJ, hI_sR, hJ_sI, hJ_sR, hI_eq, hI_ne, hI_nk]; done)) | (focus (simp (disch := omega) only [nI_clamp, vp_in_nI, hT_sI, hR_sI, hT_sJ, hR_sJ, hT_sR, hI_sJ, hI_sR, hJ_sI, hJ_sR, hI_eq, hI_ne, hI_nk]; first | assumption | exact okv3 (by assumption)))))))))
    refine br_f (fun w => absurd ((len_cmp hS (by omega)).mp w) (by omega)) ?_
    repeat (first | (refine rs ?_; conv => whnf) | unfold k_call | ((with_reducible refine And.intro ?_ ?_); (first | (first | assumption | rfl | exact True.intro | exact Nat.le_of_ble_eq_true rfl | exact Or.inl rfl | exact Or.inr rfl | exact okv3 (by assumption) | decide | (focus (simp (disch := omega) only [nI_clamp, vp_in_nI, hT_sI, hR_sI, hT_sJ, hR_sJ, hT_sR, hI_sJ, hI_sR, hJ_sI, hJ_sR, hI_eq, hI_ne, hI_nk]; done)) | (focus (simp (disch := omega) only [nI_clamp, vp_in_nI, hT_sI, hR_sI, hT_sJ, hR_sJ, hT_sR, hI_sJ, hI_sR, hJ_sI, hJ_sR, hI_eq, hI_ne, hI_nk]; first | assumption | exact okv3 (by assumption)))) | (focus (refine ⟨_, rfl, ?_⟩; (first | assumption | rfl | exact True.intro | exact Nat.le_of_ble_eq_true rfl | exact Or.inl rfl | exact Or.inr rfl | exact okv3 (by assumption) | decide | (focus (simp (disch := omega) only [nI_clamp, vp_in_nI, hT_sI, hR_sI, hT_sJ, hR_sJ, hT_sR, hI_sJ, hI_sR, hJ_sI, hJ_sR, hI_eq, hI_ne, hI_nk]; done)) | (focus (simp (disch := omega) only [nI_clamp, vp_in_nI, hT_sI, hR_sI, hT_sJ, hR_sJ, hT_sR, hI_sJ, hI_sR, hJ_sI, hJ_sR, hI_eq, hI_ne, hI_nk]; first | assumption | exact okv3 (by assumption)))))))))
    exact c44 _
