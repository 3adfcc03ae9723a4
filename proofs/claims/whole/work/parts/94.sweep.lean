/-! THE HAND -/
def dst (n hd j : Nat) : Nat := if hd ≤ j then j - hd else j + n - hd
theorem cg_hand {h : CH} {n i : Nat} {cl aside v : Int32} (hi : i < 16) : CanGo (sI h 313 2 v) 313 i cl aside ↔ CanGo h 313 i cl aside := by
  unfold CanGo
  rw [hI_ne (by omega), hI_ne (by omega), hI_ne (by omega), hI_ne (by omega)]
theorem cg_mark {h : CH} {i j : Nat} {cl aside v : Int32} : CanGo (sI h (313 + 2 + j) 7 v) 313 i cl aside ↔ CanGo h 313 i cl aside := by
  unfold CanGo
  rw [hI_nk (by omega), hI_nk (by omega), hI_nk (by omega), hI_nk (by omega)]
theorem sweep_some {n j : Nat} {cl aside : Int32} (h16 : n ≤ 16) (hj : j < n) : ∀ (m hd : Nat) (a : CH), hd < n → CanGo a 313 j cl aside → dst n hd j + (if hI a (313 + 2 + j) 7 = 0 then 0 else n) < m → ∃ i, (cSweep 313 n cl aside m hd a).2 = some i
  | 0, hd, a, h1, h2, h3 => absurd h3 (Nat.not_lt_zero _)
  | m + 1, hd, a, h1, h2, h3 => by
    have e1 : swAt n hd = hd := if_pos h1
    have e2 : swNx n hd = if hd + 1 < n then hd + 1 else 0 := by unfold swNx; rw [e1]
    have e3 : swNx n hd < n := swNx_lt (by omega)
    unfold cSweep
    rw [e1]
    have hdist : ¬ hd = j → dst n (swNx n hd) j + 1 = dst n hd j := fun ne => by
      rw [e2]
      unfold dst
      by_cases c1 : hd + 1 < n
      · rw [if_pos c1]
        by_cases c2 : hd ≤ j
        · rw [if_pos c2, if_pos (by omega)]; omega
        · rw [if_neg c2]
          by_cases c3 : hd + 1 ≤ j
          · omega
          · rw [if_neg c3]; omega
      · rw [if_neg c1, if_pos (by omega), if_neg (by omega)]; omega
    have hm : ∀ k, hI (sI a 313 2 (nI (swNx n hd))) (313 + 2 + k) 7 = hI a (313 + 2 + k) 7 := fun k => hI_ne (by omega)
    have hc := fun k (hk : k < 16) => cg_hand (h := a) (n := n) (i := k) (cl := cl) (aside := aside) (v := nI (swNx n hd)) hk
    have hcj := (hc j (by omega)).mpr h2
    split
    · next c =>
      rw [hm]
      split
      · exact ⟨hd, rfl⟩
      · next d =>
        by_cases e : hd = j
        · subst e
          rw [if_neg d] at h3
          refine sweep_some h16 hj m _ _ e3 (cg_mark.mpr hcj) ?_
          rw [hI_eq, if_pos rfl, e2]
          unfold dst at h3 ⊢
          by_cases c1 : hd + 1 < n
          · rw [if_pos c1, if_neg (by omega)]
            rw [if_pos (Nat.le_refl _)] at h3
            omega
          · rw [if_neg c1, if_pos (by omega)]
            rw [if_pos (Nat.le_refl _)] at h3
            omega
        · have := hdist e
          refine sweep_some h16 hj m _ _ e3 (cg_mark.mpr hcj) ?_
          rw [hI_ne (by omega), hm]
          omega
    · next c =>
      by_cases e : hd = j
      · subst e
        exact absurd hcj c
      · have := hdist e
        refine sweep_some h16 hj m _ _ e3 hcj ?_
        rw [hm]
        omega
theorem dst_lt {n hd j : Nat} (h1 : hd < n) (h2 : j < n) : dst n hd j < n := by
  unfold dst
  split <;> omega
theorem sweep_full {n hd : Nat} {a : CH} {cl aside : Int32} (h16 : n ≤ 16) (hd1 : hd < n) (he : ∃ j, j < n ∧ CanGo a 313 j cl aside) : ∃ i, (cSweep 313 n cl aside (2 * n + 1) hd a).2 = some i := by
  obtain ⟨j, hj, hc⟩ := he
  refine sweep_some h16 hj _ _ _ hd1 hc ?_
  have := dst_lt hd1 hj
  split <;> omega
theorem rem_nI {x n : Nat} (hx : x < 2 ^ 31) (h0 : 0 < n) (hn : n < 2 ^ 31) : nI x - nI x / nI n * nI n = nI (x % n) := by
  rw [pk_div hx h0 hn, show nI (x / n) * nI n = nI (x / n * n) from (Int32.ofNat_mul _ _).symm, pk_sub (Nat.div_mul_le_self x n)]
  congr 1
  have := Nat.div_add_mod x n
  rw [Nat.mul_comm] at this
  omega
theorem nx_mod {n hd : Nat} (h : hd < n) : (hd + 1) % n = swNx n hd := by
  unfold swNx
  rw [show swAt n hd = hd from if_pos h]
  by_cases c : hd + 1 < n
  · rw [if_pos c]; exact Nat.mod_eq_of_lt c
  · rw [if_neg c, show hd + 1 = n by omega]; exact Nat.mod_self n
theorem Asd_hand {a : CH} {cl aside bt v : Int32} (A : Asd a cl aside bt) : Asd (sI a 313 2 v) cl aside bt := by
  rcases A with h | ⟨h1, j, h2, h3, h4⟩
  · exact Or.inl h
  · exact Or.inr ⟨h1, j, h2, h3, by rw [hI_ne (by omega)]; exact h4⟩
theorem Asd_mark {a : CH} {cl aside bt v : Int32} {i : Nat} (A : Asd a cl aside bt) : Asd (sI a (313 + 2 + i) 7 v) cl aside bt := by
  rcases A with h | ⟨h1, j, h2, h3, h4⟩
  · exact Or.inl h
  · exact Or.inr ⟨h1, j, h2, h3, by rw [hI_nk (by omega)]; exact h4⟩
theorem sweep_loop {n : Nat} {cl aside bt : Int32} {X : XT} {Q : QT} {x y z : Value} (hX : Clo kX12_chosen X Q) : ∀ (m : Nat) (a b : CH) (i : Nat), RR n a b → Asd a cl aside bt → (cSweep 313 (nN a) cl aside m (hdN a) a).2 = some i → (∀ b', RR n (cSweep 313 (nN a) cl aside m (hdN a) a).1 b' → hR b' = hR b → T0 b b' → Q (.inl [.int (nI i)]) b') → X 9 [.ref 361, .int cl, .int bt, x, y, z] [] b 0 0
  | 0, a, b, i, R, A, e, k => by cases e
  | m + 1, a, b, i, R, A, e, k => by
    obtain ⟨m0, m1, m2, m3, m4, m5, m6, m7, m8, m9, m10, m11, m12, m13, m14, m15, m16, m17, m18, m19, m20, m21, m22, m23⟩ := id R.ml
    obtain ⟨r1, r2, e8, e13, r5⟩ := R.ln
    have h1 : swAt (nN a) (hdN a) = hdN a := if_pos r5
    have h2 : swNx (nN a) (hdN a) < nN a := swNx_lt (by omega)
    have hx : nI (hdN a) + 1 - (nI (hdN a) + 1) / nI (nN a) * nI (nN a) = nI (swNx (nN a) (hdN a)) := by
      rw [nI_1, rem_nI (by omega) (by omega) (by omega), nx_mod r5]
    have hn0 : ¬ nI (nN a) = 0 := nI_ne0 (by omega) (by omega)
    unfold cSweep at e k
    rw [h1] at e k
    have hc := cg_hand (h := a) (n := n) (i := hdN a) (cl := cl) (aside := aside) (v := nI (swNx (nN a) (hdN a))) (by omega)
    have hm : hI (sI a 313 2 (nI (swNx (nN a) (hdN a)))) (313 + 2 + hdN a) 7 = hI a (313 + 2 + hdN a) 7 := hI_ne (by omega)
    rw [hm] at e k
    have RH := RR_hand R h2
    have en : ∀ v, nN (sI a 313 2 v) = nN a := fun v => by unfold nN; rw [hI_nk (by omega)]
    have ehd : ∀ g : CH, hI g 313 2 = nI (swNx (nN a) (hdN a)) → hdN g = swNx (nN a) (hdN a) := fun g q => by unfold hdN; rw [q]; exact nI_clamp (by omega)
    (refine go mX12_chosen hX [9] 400 ?_; conv => whnf)
    repeat (first | (refine rs ?_; conv => whnf) | unfold k_call | ((with_reducible refine And.intro ?_ ?_); (first | (first | assumption | rfl | exact True.intro | exact Nat.le_of_ble_eq_true rfl | exact Or.inl rfl | exact Or.inr rfl | exact okv3 (by assumption) | decide | (focus (simp (disch := omega) only [m0, m7, m18, e8, e13, nI_clamp, vp_in_nI, hT_sI, hR_sI, hT_sJ, hR_sJ, hT_sR, hI_sJ, hI_sR, hJ_sI, hJ_sR, hI_eq, hI_ne, hI_nk]; done)) | (focus (simp (disch := omega) only [m0, m7, m18, e8, e13, nI_clamp, vp_in_nI, hT_sI, hR_sI, hT_sJ, hR_sJ, hT_sR, hI_sJ, hI_sR, hJ_sI, hJ_sR, hI_eq, hI_ne, hI_nk]; first | assumption | exact okv3 (by assumption)))) | (focus (refine ⟨_, rfl, ?_⟩; (first | assumption | rfl | exact True.intro | exact Nat.le_of_ble_eq_true rfl | exact Or.inl rfl | exact Or.inr rfl | exact okv3 (by assumption) | decide | (focus (simp (disch := omega) only [m0, m7, m18, e8, e13, nI_clamp, vp_in_nI, hT_sI, hR_sI, hT_sJ, hR_sJ, hT_sR, hI_sJ, hI_sR, hJ_sI, hJ_sR, hI_eq, hI_ne, hI_nk]; done)) | (focus (simp (disch := omega) only [m0, m7, m18, e8, e13, nI_clamp, vp_in_nI, hT_sI, hR_sI, hT_sJ, hR_sJ, hT_sR, hI_sJ, hI_sR, hJ_sI, hJ_sR, hI_eq, hI_ne, hI_nk]; first | assumption | exact okv3 (by assumption)))))))))
    (try simp (disch := omega) only [m0, m7, m18, e8, e13, nI_clamp, vp_in_nI, hT_sI, hR_sI, hT_sJ, hR_sJ, hT_sR, hI_sJ, hI_sR, hJ_sI, hJ_sR, hI_eq, hI_ne, hI_nk])
    refine canGoR_ok R (by omega) A (fun q => ?_) (fun q => ?_)
    · have cn : ¬ hR b 368 (hdN a) = 0 := fun w => ((canGo_iff R (by omega) A).mp q).1 ((nul_iff R (by omega)).mp w)
      obtain ⟨pt, p2, _⟩ := pgT R (by omega) cn
      obtain ⟨t, ht, P⟩ := pgR R (by omega) cn
      rw [if_pos (hc.mpr q)] at e k
      repeat (first | (refine rs ?_; conv => whnf) | unfold k_call | ((with_reducible refine And.intro ?_ ?_); (first | (first | assumption | rfl | exact True.intro | exact Nat.le_of_ble_eq_true rfl | exact Or.inl rfl | exact Or.inr rfl | exact okv3 (by assumption) | decide | (focus (simp (disch := omega) only [m0, m7, m18, e8, e13, nI_clamp, vp_in_nI, hT_sI, hR_sI, hT_sJ, hR_sJ, hT_sR, hI_sJ, hI_sR, hJ_sI, hJ_sR, hI_eq, hI_ne, hI_nk]; done)) | (focus (simp (disch := omega) only [m0, m7, m18, e8, e13, nI_clamp, vp_in_nI, hT_sI, hR_sI, hT_sJ, hR_sJ, hT_sR, hI_sJ, hI_sR, hJ_sI, hJ_sR, hI_eq, hI_ne, hI_nk]; first | assumption | exact okv3 (by assumption)))) | (focus (refine ⟨_, rfl, ?_⟩; (first | assumption | rfl | exact True.intro | exact Nat.le_of_ble_eq_true rfl | exact Or.inl rfl | exact Or.inr rfl | exact okv3 (by assumption) | decide | (focus (simp (disch := omega) only [m0, m7, m18, e8, e13, nI_clamp, vp_in_nI, hT_sI, hR_sI, hT_sJ, hR_sJ, hT_sR, hI_sJ, hI_sR, hJ_sI, hJ_sR, hI_eq, hI_ne, hI_nk]; done)) | (focus (simp (disch := omega) only [m0, m7, m18, e8, e13, nI_clamp, vp_in_nI, hT_sI, hR_sI, hT_sJ, hR_sJ, hT_sR, hI_sJ, hI_sR, hJ_sI, hJ_sR, hI_eq, hI_ne, hI_nk]; first | assumption | exact okv3 (by assumption)))))))))
      refine br_f (show ¬ (1 : Int32) = 0 by decide) ?_
      repeat (first | (refine rs ?_; conv => whnf) | unfold k_call | ((with_reducible refine And.intro ?_ ?_); (first | (first | assumption | rfl | exact True.intro | exact Nat.le_of_ble_eq_true rfl | exact Or.inl rfl | exact Or.inr rfl | exact okv3 (by assumption) | decide | (focus (simp (disch := omega) only [m0, m7, m18, e8, e13, pt, nI_clamp, vp_in_nI, hT_sI, hR_sI, hT_sJ, hR_sJ, hT_sR, hI_sJ, hI_sR, hJ_sI, hJ_sR, hI_eq, hI_ne, hI_nk]; done)) | (focus (simp (disch := omega) only [m0, m7, m18, e8, e13, pt, nI_clamp, vp_in_nI, hT_sI, hR_sI, hT_sJ, hR_sJ, hT_sR, hI_sJ, hI_sR, hJ_sI, hJ_sR, hI_eq, hI_ne, hI_nk]; first | assumption | exact okv3 (by assumption)))) | (focus (refine ⟨_, rfl, ?_⟩; (first | assumption | rfl | exact True.intro | exact Nat.le_of_ble_eq_true rfl | exact Or.inl rfl | exact Or.inr rfl | exact okv3 (by assumption) | decide | (focus (simp (disch := omega) only [m0, m7, m18, e8, e13, pt, nI_clamp, vp_in_nI, hT_sI, hR_sI, hT_sJ, hR_sJ, hT_sR, hI_sJ, hI_sR, hJ_sI, hJ_sR, hI_eq, hI_ne, hI_nk]; done)) | (focus (simp (disch := omega) only [m0, m7, m18, e8, e13, pt, nI_clamp, vp_in_nI, hT_sI, hR_sI, hT_sJ, hR_sJ, hT_sR, hI_sJ, hI_sR, hJ_sI, hJ_sR, hI_eq, hI_ne, hI_nk]; first | assumption | exact okv3 (by assumption)))))))))
      (try simp (disch := omega) only [m0, m7, m18, e8, e13, pt, nI_clamp, vp_in_nI, hT_sI, hR_sI, hT_sJ, hR_sJ, hT_sR, hI_sJ, hI_sR, hJ_sI, hJ_sR, hI_eq, hI_ne, hI_nk])
      repeat (first | (refine rs ?_; conv => whnf) | unfold k_call | ((with_reducible refine And.intro ?_ ?_); (first | (first | assumption | rfl | exact True.intro | exact Nat.le_of_ble_eq_true rfl | exact Or.inl rfl | exact Or.inr rfl | exact okv3 (by assumption) | decide | (focus (simp (disch := omega) only [m0, m7, m18, e8, e13, pt, nI_clamp, vp_in_nI, hT_sI, hR_sI, hT_sJ, hR_sJ, hT_sR, hI_sJ, hI_sR, hJ_sI, hJ_sR, hI_eq, hI_ne, hI_nk]; done)) | (focus (simp (disch := omega) only [m0, m7, m18, e8, e13, pt, nI_clamp, vp_in_nI, hT_sI, hR_sI, hT_sJ, hR_sJ, hT_sR, hI_sJ, hI_sR, hJ_sI, hJ_sR, hI_eq, hI_ne, hI_nk]; first | assumption | exact okv3 (by assumption)))) | (focus (refine ⟨_, rfl, ?_⟩; (first | assumption | rfl | exact True.intro | exact Nat.le_of_ble_eq_true rfl | exact Or.inl rfl | exact Or.inr rfl | exact okv3 (by assumption) | decide | (focus (simp (disch := omega) only [m0, m7, m18, e8, e13, pt, nI_clamp, vp_in_nI, hT_sI, hR_sI, hT_sJ, hR_sJ, hT_sR, hI_sJ, hI_sR, hJ_sI, hJ_sR, hI_eq, hI_ne, hI_nk]; done)) | (focus (simp (disch := omega) only [m0, m7, m18, e8, e13, pt, nI_clamp, vp_in_nI, hT_sI, hR_sI, hT_sJ, hR_sJ, hT_sR, hI_sJ, hI_sR, hJ_sI, hJ_sR, hI_eq, hI_ne, hI_nk]; first | assumption | exact okv3 (by assumption)))))))))
      (try simp (disch := omega) only [m0, m7, m18, e8, e13, pt, nI_clamp, vp_in_nI, hT_sI, hR_sI, hT_sJ, hR_sJ, hT_sR, hI_sJ, hI_sR, hJ_sI, hJ_sR, hI_eq, hI_ne, hI_nk])
      repeat (first | (refine rs ?_; conv => whnf) | unfold k_call | ((with_reducible refine And.intro ?_ ?_); (first | (first | assumption | rfl | exact True.intro | exact Nat.le_of_ble_eq_true rfl | exact Or.inl rfl | exact Or.inr rfl | exact okv3 (by assumption) | decide | (focus (simp (disch := omega) only [m0, m7, m18, e8, e13, pt, nI_clamp, vp_in_nI, hT_sI, hR_sI, hT_sJ, hR_sJ, hT_sR, hI_sJ, hI_sR, hJ_sI, hJ_sR, hI_eq, hI_ne, hI_nk]; done)) | (focus (simp (disch := omega) only [m0, m7, m18, e8, e13, pt, nI_clamp, vp_in_nI, hT_sI, hR_sI, hT_sJ, hR_sJ, hT_sR, hI_sJ, hI_sR, hJ_sI, hJ_sR, hI_eq, hI_ne, hI_nk]; first | assumption | exact okv3 (by assumption)))) | (focus (refine ⟨_, rfl, ?_⟩; (first | assumption | rfl | exact True.intro | exact Nat.le_of_ble_eq_true rfl | exact Or.inl rfl | exact Or.inr rfl | exact okv3 (by assumption) | decide | (focus (simp (disch := omega) only [m0, m7, m18, e8, e13, pt, nI_clamp, vp_in_nI, hT_sI, hR_sI, hT_sJ, hR_sJ, hT_sR, hI_sJ, hI_sR, hJ_sI, hJ_sR, hI_eq, hI_ne, hI_nk]; done)) | (focus (simp (disch := omega) only [m0, m7, m18, e8, e13, pt, nI_clamp, vp_in_nI, hT_sI, hR_sI, hT_sJ, hR_sJ, hT_sR, hI_sJ, hI_sR, hJ_sI, hJ_sR, hI_eq, hI_ne, hI_nk]; first | assumption | exact okv3 (by assumption)))))))))
      (try simp (disch := omega) only [m0, m7, m18, e8, e13, pt, nI_clamp, vp_in_nI, hT_sI, hR_sI, hT_sJ, hR_sJ, hT_sR, hI_sJ, hI_sR, hJ_sI, hJ_sR, hI_eq, hI_ne, hI_nk])
      rw [P.mk]
      (refine ⟨fun d => ?_, fun d => ?_⟩ <;> (try dsimp only at d))
      · rw [if_pos d] at e k
        dsimp only at e k
        cases e
        repeat (first | (refine rs ?_; conv => whnf) | unfold k_call | ((with_reducible refine And.intro ?_ ?_); (first | (first | assumption | rfl | exact True.intro | exact Nat.le_of_ble_eq_true rfl | exact Or.inl rfl | exact Or.inr rfl | exact okv3 (by assumption) | decide | (focus (simp (disch := omega) only [m0, m7, m18, e8, e13, pt, nI_clamp, vp_in_nI, hT_sI, hR_sI, hT_sJ, hR_sJ, hT_sR, hI_sJ, hI_sR, hJ_sI, hJ_sR, hI_eq, hI_ne, hI_nk]; done)) | (focus (simp (disch := omega) only [m0, m7, m18, e8, e13, pt, nI_clamp, vp_in_nI, hT_sI, hR_sI, hT_sJ, hR_sJ, hT_sR, hI_sJ, hI_sR, hJ_sI, hJ_sR, hI_eq, hI_ne, hI_nk]; first | assumption | exact okv3 (by assumption)))) | (focus (refine ⟨_, rfl, ?_⟩; (first | assumption | rfl | exact True.intro | exact Nat.le_of_ble_eq_true rfl | exact Or.inl rfl | exact Or.inr rfl | exact okv3 (by assumption) | decide | (focus (simp (disch := omega) only [m0, m7, m18, e8, e13, pt, nI_clamp, vp_in_nI, hT_sI, hR_sI, hT_sJ, hR_sJ, hT_sR, hI_sJ, hI_sR, hJ_sI, hJ_sR, hI_eq, hI_ne, hI_nk]; done)) | (focus (simp (disch := omega) only [m0, m7, m18, e8, e13, pt, nI_clamp, vp_in_nI, hT_sI, hR_sI, hT_sJ, hR_sJ, hT_sR, hI_sJ, hI_sR, hJ_sI, hJ_sR, hI_eq, hI_ne, hI_nk]; first | assumption | exact okv3 (by assumption)))))))))
        (try simp (disch := omega) only [m0, m7, m18, e8, e13, pt, nI_clamp, vp_in_nI, hT_sI, hR_sI, hT_sJ, hR_sJ, hT_sR, hI_sJ, hI_sR, hJ_sI, hJ_sR, hI_eq, hI_ne, hI_nk])
        repeat (first | (refine rs ?_; conv => whnf) | unfold k_call | ((with_reducible refine And.intro ?_ ?_); (first | (first | assumption | rfl | exact True.intro | exact Nat.le_of_ble_eq_true rfl | exact Or.inl rfl | exact Or.inr rfl | exact okv3 (by assumption) | decide | (focus (simp (disch := omega) only [m0, m7, m18, e8, e13, pt, nI_clamp, vp_in_nI, hT_sI, hR_sI, hT_sJ, hR_sJ, hT_sR, hI_sJ, hI_sR, hJ_sI, hJ_sR, hI_eq, hI_ne, hI_nk]; done)) | (focus (simp (disch := omega) only [m0, m7, m18, e8, e13, pt, nI_clamp, vp_in_nI, hT_sI, hR_sI, hT_sJ, hR_sJ, hT_sR, hI_sJ, hI_sR, hJ_sI, hJ_sR, hI_eq, hI_ne, hI_nk]; first | assumption | exact okv3 (by assumption)))) | (focus (refine ⟨_, rfl, ?_⟩; (first | assumption | rfl | exact True.intro | exact Nat.le_of_ble_eq_true rfl | exact Or.inl rfl | exact Or.inr rfl | exact okv3 (by assumption) | decide | (focus (simp (disch := omega) only [m0, m7, m18, e8, e13, pt, nI_clamp, vp_in_nI, hT_sI, hR_sI, hT_sJ, hR_sJ, hT_sR, hI_sJ, hI_sR, hJ_sI, hJ_sR, hI_eq, hI_ne, hI_nk]; done)) | (focus (simp (disch := omega) only [m0, m7, m18, e8, e13, pt, nI_clamp, vp_in_nI, hT_sI, hR_sI, hT_sJ, hR_sJ, hT_sR, hI_sJ, hI_sR, hJ_sI, hJ_sR, hI_eq, hI_ne, hI_nk]; first | assumption | exact okv3 (by assumption)))))))))
        rw [hx]
        exact k _ RH rfl (hI_nk (by omega))
      · rw [if_neg d] at e k
        have R2 := RR_cell (fk := 7) (ik := 6) (v := 0) R (show hdN a < 16 by omega) cn (by omega)
        have en2 : nN (sI a (313 + 2 + hdN a) 7 0) = nN a := by unfold nN; rw [hI_ne (by omega)]
        have R3 := RR_hand (k := swNx (nN a) (hdN a)) R2 (by rw [en2]; exact h2)
        have ec : sI (sI a (313 + 2 + hdN a) 7 0) 313 2 (nI (swNx (nN a) (hdN a))) = sI (sI a 313 2 (nI (swNx (nN a) (hdN a)))) (313 + 2 + hdN a) 7 0 := sI_comm (by omega)
        rw [ec] at R3
        have A3 : Asd (sI (sI a 313 2 (nI (swNx (nN a) (hdN a)))) (313 + 2 + hdN a) 7 0) cl aside bt := Asd_mark (Asd_hand A)
        have en3 : nN (sI (sI a 313 2 (nI (swNx (nN a) (hdN a)))) (313 + 2 + hdN a) 7 0) = nN a := by unfold nN; rw [hI_ne (by omega), hI_nk (by omega)]
        have eh3 : hdN (sI (sI a 313 2 (nI (swNx (nN a) (hdN a)))) (313 + 2 + hdN a) 7 0) = swNx (nN a) (hdN a) := ehd _ (by rw [hI_ne (by omega), hI_eq])
        have ih := sweep_loop (x := x) (y := y) (z := z) hX m _ _ i R3 A3 (by rw [en3, eh3]; exact e) (by rw [en3, eh3]; exact fun b' u1 u2 u3 => k b' u1 u2 (T0.trans (show T0 b (sI (sI b (hR b 368 (hdN a)) 6 0) 361 13 (nI (swNx (nN a) (hdN a)))) by unfold T0; rw [hI_nk (by omega), hI_ne (by omega)]) u3))
        repeat (first | (refine rs ?_; conv => whnf) | unfold k_call | ((with_reducible refine And.intro ?_ ?_); (first | (first | assumption | rfl | exact True.intro | exact Nat.le_of_ble_eq_true rfl | exact Or.inl rfl | exact Or.inr rfl | exact okv3 (by assumption) | decide | (focus (simp (disch := omega) only [m0, m7, m18, e8, e13, pt, nI_clamp, vp_in_nI, hT_sI, hR_sI, hT_sJ, hR_sJ, hT_sR, hI_sJ, hI_sR, hJ_sI, hJ_sR, hI_eq, hI_ne, hI_nk]; done)) | (focus (simp (disch := omega) only [m0, m7, m18, e8, e13, pt, nI_clamp, vp_in_nI, hT_sI, hR_sI, hT_sJ, hR_sJ, hT_sR, hI_sJ, hI_sR, hJ_sI, hJ_sR, hI_eq, hI_ne, hI_nk]; first | assumption | exact okv3 (by assumption)))) | (focus (refine ⟨_, rfl, ?_⟩; (first | assumption | rfl | exact True.intro | exact Nat.le_of_ble_eq_true rfl | exact Or.inl rfl | exact Or.inr rfl | exact okv3 (by assumption) | decide | (focus (simp (disch := omega) only [m0, m7, m18, e8, e13, pt, nI_clamp, vp_in_nI, hT_sI, hR_sI, hT_sJ, hR_sJ, hT_sR, hI_sJ, hI_sR, hJ_sI, hJ_sR, hI_eq, hI_ne, hI_nk]; done)) | (focus (simp (disch := omega) only [m0, m7, m18, e8, e13, pt, nI_clamp, vp_in_nI, hT_sI, hR_sI, hT_sJ, hR_sJ, hT_sR, hI_sJ, hI_sR, hJ_sI, hJ_sR, hI_eq, hI_ne, hI_nk]; first | assumption | exact okv3 (by assumption)))))))))
        (try simp (disch := omega) only [m0, m7, m18, e8, e13, pt, nI_clamp, vp_in_nI, hT_sI, hR_sI, hT_sJ, hR_sJ, hT_sR, hI_sJ, hI_sR, hJ_sI, hJ_sR, hI_eq, hI_ne, hI_nk])
        refine canGoR_ok R (by omega) A (fun _ => ?_) (fun w => absurd q w)
        have f8 : hI (sI b (hR b 368 (hdN a)) 6 0) 361 8 = nI (nN a) := (hI_ne (by omega)).trans e8
        have f13 : hI (sI b (hR b 368 (hdN a)) 6 0) 361 13 = nI (hdN a) := (hI_ne (by omega)).trans e13
        repeat (first | (refine rs ?_; conv => whnf) | unfold k_call | ((with_reducible refine And.intro ?_ ?_); (first | (first | assumption | rfl | exact True.intro | exact Nat.le_of_ble_eq_true rfl | exact Or.inl rfl | exact Or.inr rfl | exact okv3 (by assumption) | decide | (focus (simp (disch := omega) only [m0, m7, m18, e8, e13, pt, f8, f13, nI_clamp, vp_in_nI, hT_sI, hR_sI, hT_sJ, hR_sJ, hT_sR, hI_sJ, hI_sR, hJ_sI, hJ_sR, hI_eq, hI_ne, hI_nk]; done)) | (focus (simp (disch := omega) only [m0, m7, m18, e8, e13, pt, f8, f13, nI_clamp, vp_in_nI, hT_sI, hR_sI, hT_sJ, hR_sJ, hT_sR, hI_sJ, hI_sR, hJ_sI, hJ_sR, hI_eq, hI_ne, hI_nk]; first | assumption | exact okv3 (by assumption)))) | (focus (refine ⟨_, rfl, ?_⟩; (first | assumption | rfl | exact True.intro | exact Nat.le_of_ble_eq_true rfl | exact Or.inl rfl | exact Or.inr rfl | exact okv3 (by assumption) | decide | (focus (simp (disch := omega) only [m0, m7, m18, e8, e13, pt, f8, f13, nI_clamp, vp_in_nI, hT_sI, hR_sI, hT_sJ, hR_sJ, hT_sR, hI_sJ, hI_sR, hJ_sI, hJ_sR, hI_eq, hI_ne, hI_nk]; done)) | (focus (simp (disch := omega) only [m0, m7, m18, e8, e13, pt, f8, f13, nI_clamp, vp_in_nI, hT_sI, hR_sI, hT_sJ, hR_sJ, hT_sR, hI_sJ, hI_sR, hJ_sI, hJ_sR, hI_eq, hI_ne, hI_nk]; first | assumption | exact okv3 (by assumption)))))))))
        refine br_f (show ¬ (1 : Int32) = 0 by decide) ?_
        repeat (first | (refine rs ?_; conv => whnf) | unfold k_call | ((with_reducible refine And.intro ?_ ?_); (first | (first | assumption | rfl | exact True.intro | exact Nat.le_of_ble_eq_true rfl | exact Or.inl rfl | exact Or.inr rfl | exact okv3 (by assumption) | decide | (focus (simp (disch := omega) only [m0, m7, m18, e8, e13, pt, f8, f13, nI_clamp, vp_in_nI, hT_sI, hR_sI, hT_sJ, hR_sJ, hT_sR, hI_sJ, hI_sR, hJ_sI, hJ_sR, hI_eq, hI_ne, hI_nk]; done)) | (focus (simp (disch := omega) only [m0, m7, m18, e8, e13, pt, f8, f13, nI_clamp, vp_in_nI, hT_sI, hR_sI, hT_sJ, hR_sJ, hT_sR, hI_sJ, hI_sR, hJ_sI, hJ_sR, hI_eq, hI_ne, hI_nk]; first | assumption | exact okv3 (by assumption)))) | (focus (refine ⟨_, rfl, ?_⟩; (first | assumption | rfl | exact True.intro | exact Nat.le_of_ble_eq_true rfl | exact Or.inl rfl | exact Or.inr rfl | exact okv3 (by assumption) | decide | (focus (simp (disch := omega) only [m0, m7, m18, e8, e13, pt, f8, f13, nI_clamp, vp_in_nI, hT_sI, hR_sI, hT_sJ, hR_sJ, hT_sR, hI_sJ, hI_sR, hJ_sI, hJ_sR, hI_eq, hI_ne, hI_nk]; done)) | (focus (simp (disch := omega) only [m0, m7, m18, e8, e13, pt, f8, f13, nI_clamp, vp_in_nI, hT_sI, hR_sI, hT_sJ, hR_sJ, hT_sR, hI_sJ, hI_sR, hJ_sI, hJ_sR, hI_eq, hI_ne, hI_nk]; first | assumption | exact okv3 (by assumption)))))))))
        (try simp (disch := omega) only [m0, m7, m18, e8, e13, pt, f8, f13, nI_clamp, vp_in_nI, hT_sI, hR_sI, hT_sJ, hR_sJ, hT_sR, hI_sJ, hI_sR, hJ_sI, hJ_sR, hI_eq, hI_ne, hI_nk])
        repeat (first | (refine rs ?_; conv => whnf) | unfold k_call | ((with_reducible refine And.intro ?_ ?_); (first | (first | assumption | rfl | exact True.intro | exact Nat.le_of_ble_eq_true rfl | exact Or.inl rfl | exact Or.inr rfl | exact okv3 (by assumption) | decide | (focus (simp (disch := omega) only [m0, m7, m18, e8, e13, pt, f8, f13, nI_clamp, vp_in_nI, hT_sI, hR_sI, hT_sJ, hR_sJ, hT_sR, hI_sJ, hI_sR, hJ_sI, hJ_sR, hI_eq, hI_ne, hI_nk]; done)) | (focus (simp (disch := omega) only [m0, m7, m18, e8, e13, pt, f8, f13, nI_clamp, vp_in_nI, hT_sI, hR_sI, hT_sJ, hR_sJ, hT_sR, hI_sJ, hI_sR, hJ_sI, hJ_sR, hI_eq, hI_ne, hI_nk]; first | assumption | exact okv3 (by assumption)))) | (focus (refine ⟨_, rfl, ?_⟩; (first | assumption | rfl | exact True.intro | exact Nat.le_of_ble_eq_true rfl | exact Or.inl rfl | exact Or.inr rfl | exact okv3 (by assumption) | decide | (focus (simp (disch := omega) only [m0, m7, m18, e8, e13, pt, f8, f13, nI_clamp, vp_in_nI, hT_sI, hR_sI, hT_sJ, hR_sJ, hT_sR, hI_sJ, hI_sR, hJ_sI, hJ_sR, hI_eq, hI_ne, hI_nk]; done)) | (focus (simp (disch := omega) only [m0, m7, m18, e8, e13, pt, f8, f13, nI_clamp, vp_in_nI, hT_sI, hR_sI, hT_sJ, hR_sJ, hT_sR, hI_sJ, hI_sR, hJ_sI, hJ_sR, hI_eq, hI_ne, hI_nk]; first | assumption | exact okv3 (by assumption)))))))))
        (try simp (disch := omega) only [m0, m7, m18, e8, e13, pt, f8, f13, nI_clamp, vp_in_nI, hT_sI, hR_sI, hT_sJ, hR_sJ, hT_sR, hI_sJ, hI_sR, hJ_sI, hJ_sR, hI_eq, hI_ne, hI_nk])
        repeat (first | (refine rs ?_; conv => whnf) | unfold k_call | ((with_reducible refine And.intro ?_ ?_); (first | (first | assumption | rfl | exact True.intro | exact Nat.le_of_ble_eq_true rfl | exact Or.inl rfl | exact Or.inr rfl | exact okv3 (by assumption) | decide | (focus (simp (disch := omega) only [m0, m7, m18, e8, e13, pt, f8, f13, nI_clamp, vp_in_nI, hT_sI, hR_sI, hT_sJ, hR_sJ, hT_sR, hI_sJ, hI_sR, hJ_sI, hJ_sR, hI_eq, hI_ne, hI_nk]; done)) | (focus (simp (disch := omega) only [m0, m7, m18, e8, e13, pt, f8, f13, nI_clamp, vp_in_nI, hT_sI, hR_sI, hT_sJ, hR_sJ, hT_sR, hI_sJ, hI_sR, hJ_sI, hJ_sR, hI_eq, hI_ne, hI_nk]; first | assumption | exact okv3 (by assumption)))) | (focus (refine ⟨_, rfl, ?_⟩; (first | assumption | rfl | exact True.intro | exact Nat.le_of_ble_eq_true rfl | exact Or.inl rfl | exact Or.inr rfl | exact okv3 (by assumption) | decide | (focus (simp (disch := omega) only [m0, m7, m18, e8, e13, pt, f8, f13, nI_clamp, vp_in_nI, hT_sI, hR_sI, hT_sJ, hR_sJ, hT_sR, hI_sJ, hI_sR, hJ_sI, hJ_sR, hI_eq, hI_ne, hI_nk]; done)) | (focus (simp (disch := omega) only [m0, m7, m18, e8, e13, pt, f8, f13, nI_clamp, vp_in_nI, hT_sI, hR_sI, hT_sJ, hR_sJ, hT_sR, hI_sJ, hI_sR, hJ_sI, hJ_sR, hI_eq, hI_ne, hI_nk]; first | assumption | exact okv3 (by assumption)))))))))
        (try simp (disch := omega) only [m0, m7, m18, e8, e13, pt, f8, f13, nI_clamp, vp_in_nI, hT_sI, hR_sI, hT_sJ, hR_sJ, hT_sR, hI_sJ, hI_sR, hJ_sI, hJ_sR, hI_eq, hI_ne, hI_nk])
        rw [hx]
        exact ih
    · rw [if_neg (fun w => q (hc.mp w))] at e k
      have ih := sweep_loop (x := x) (y := y) (z := z) hX m _ _ i RH (Asd_hand A) (by rw [en, ehd _ (hI_eq _ _ _ _)]; exact e) (by rw [en, ehd _ (hI_eq _ _ _ _)]; exact fun b' u1 u2 u3 => k b' u1 u2 (T0.trans (show T0 b (sI b 361 13 (nI (swNx (nN a) (hdN a)))) by unfold T0; rw [hI_nk (by omega)]) u3))
      repeat (first | (refine rs ?_; conv => whnf) | unfold k_call | ((with_reducible refine And.intro ?_ ?_); (first | (first | assumption | rfl | exact True.intro | exact Nat.le_of_ble_eq_true rfl | exact Or.inl rfl | exact Or.inr rfl | exact okv3 (by assumption) | decide | (focus (simp (disch := omega) only [m0, m7, m18, e8, e13, nI_clamp, vp_in_nI, hT_sI, hR_sI, hT_sJ, hR_sJ, hT_sR, hI_sJ, hI_sR, hJ_sI, hJ_sR, hI_eq, hI_ne, hI_nk]; done)) | (focus (simp (disch := omega) only [m0, m7, m18, e8, e13, nI_clamp, vp_in_nI, hT_sI, hR_sI, hT_sJ, hR_sJ, hT_sR, hI_sJ, hI_sR, hJ_sI, hJ_sR, hI_eq, hI_ne, hI_nk]; first | assumption | exact okv3 (by assumption)))) | (focus (refine ⟨_, rfl, ?_⟩; (first | assumption | rfl | exact True.intro | exact Nat.le_of_ble_eq_true rfl | exact Or.inl rfl | exact Or.inr rfl | exact okv3 (by assumption) | decide | (focus (simp (disch := omega) only [m0, m7, m18, e8, e13, nI_clamp, vp_in_nI, hT_sI, hR_sI, hT_sJ, hR_sJ, hT_sR, hI_sJ, hI_sR, hJ_sI, hJ_sR, hI_eq, hI_ne, hI_nk]; done)) | (focus (simp (disch := omega) only [m0, m7, m18, e8, e13, nI_clamp, vp_in_nI, hT_sI, hR_sI, hT_sJ, hR_sJ, hT_sR, hI_sJ, hI_sR, hJ_sI, hJ_sR, hI_eq, hI_ne, hI_nk]; first | assumption | exact okv3 (by assumption)))))))))
      refine br_t (show (0 : Int32) = 0 from rfl) ?_
      repeat (first | (refine rs ?_; conv => whnf) | unfold k_call | ((with_reducible refine And.intro ?_ ?_); (first | (first | assumption | rfl | exact True.intro | exact Nat.le_of_ble_eq_true rfl | exact Or.inl rfl | exact Or.inr rfl | exact okv3 (by assumption) | decide | (focus (simp (disch := omega) only [m0, m7, m18, e8, e13, nI_clamp, vp_in_nI, hT_sI, hR_sI, hT_sJ, hR_sJ, hT_sR, hI_sJ, hI_sR, hJ_sI, hJ_sR, hI_eq, hI_ne, hI_nk]; done)) | (focus (simp (disch := omega) only [m0, m7, m18, e8, e13, nI_clamp, vp_in_nI, hT_sI, hR_sI, hT_sJ, hR_sJ, hT_sR, hI_sJ, hI_sR, hJ_sI, hJ_sR, hI_eq, hI_ne, hI_nk]; first | assumption | exact okv3 (by assumption)))) | (focus (refine ⟨_, rfl, ?_⟩; (first | assumption | rfl | exact True.intro | exact Nat.le_of_ble_eq_true rfl | exact Or.inl rfl | exact Or.inr rfl | exact okv3 (by assumption) | decide | (focus (simp (disch := omega) only [m0, m7, m18, e8, e13, nI_clamp, vp_in_nI, hT_sI, hR_sI, hT_sJ, hR_sJ, hT_sR, hI_sJ, hI_sR, hJ_sI, hJ_sR, hI_eq, hI_ne, hI_nk]; done)) | (focus (simp (disch := omega) only [m0, m7, m18, e8, e13, nI_clamp, vp_in_nI, hT_sI, hR_sI, hT_sJ, hR_sJ, hT_sR, hI_sJ, hI_sR, hJ_sI, hJ_sR, hI_eq, hI_ne, hI_nk]; first | assumption | exact okv3 (by assumption)))))))))
      (try simp (disch := omega) only [m0, m7, m18, e8, e13, nI_clamp, vp_in_nI, hT_sI, hR_sI, hT_sJ, hR_sJ, hT_sR, hI_sJ, hI_sR, hJ_sI, hJ_sR, hI_eq, hI_ne, hI_nk])
      refine canGoR_ok R (by omega) A (fun w => absurd w q) (fun _ => ?_)
      repeat (first | (refine rs ?_; conv => whnf) | unfold k_call | ((with_reducible refine And.intro ?_ ?_); (first | (first | assumption | rfl | exact True.intro | exact Nat.le_of_ble_eq_true rfl | exact Or.inl rfl | exact Or.inr rfl | exact okv3 (by assumption) | decide | (focus (simp (disch := omega) only [m0, m7, m18, e8, e13, nI_clamp, vp_in_nI, hT_sI, hR_sI, hT_sJ, hR_sJ, hT_sR, hI_sJ, hI_sR, hJ_sI, hJ_sR, hI_eq, hI_ne, hI_nk]; done)) | (focus (simp (disch := omega) only [m0, m7, m18, e8, e13, nI_clamp, vp_in_nI, hT_sI, hR_sI, hT_sJ, hR_sJ, hT_sR, hI_sJ, hI_sR, hJ_sI, hJ_sR, hI_eq, hI_ne, hI_nk]; first | assumption | exact okv3 (by assumption)))) | (focus (refine ⟨_, rfl, ?_⟩; (first | assumption | rfl | exact True.intro | exact Nat.le_of_ble_eq_true rfl | exact Or.inl rfl | exact Or.inr rfl | exact okv3 (by assumption) | decide | (focus (simp (disch := omega) only [m0, m7, m18, e8, e13, nI_clamp, vp_in_nI, hT_sI, hR_sI, hT_sJ, hR_sJ, hT_sR, hI_sJ, hI_sR, hJ_sI, hJ_sR, hI_eq, hI_ne, hI_nk]; done)) | (focus (simp (disch := omega) only [m0, m7, m18, e8, e13, nI_clamp, vp_in_nI, hT_sI, hR_sI, hT_sJ, hR_sJ, hT_sR, hI_sJ, hI_sR, hJ_sI, hJ_sR, hI_eq, hI_ne, hI_nk]; first | assumption | exact okv3 (by assumption)))))))))
      refine br_t (show (0 : Int32) = 0 from rfl) ?_
      repeat (first | (refine rs ?_; conv => whnf) | unfold k_call | ((with_reducible refine And.intro ?_ ?_); (first | (first | assumption | rfl | exact True.intro | exact Nat.le_of_ble_eq_true rfl | exact Or.inl rfl | exact Or.inr rfl | exact okv3 (by assumption) | decide | (focus (simp (disch := omega) only [m0, m7, m18, e8, e13, nI_clamp, vp_in_nI, hT_sI, hR_sI, hT_sJ, hR_sJ, hT_sR, hI_sJ, hI_sR, hJ_sI, hJ_sR, hI_eq, hI_ne, hI_nk]; done)) | (focus (simp (disch := omega) only [m0, m7, m18, e8, e13, nI_clamp, vp_in_nI, hT_sI, hR_sI, hT_sJ, hR_sJ, hT_sR, hI_sJ, hI_sR, hJ_sI, hJ_sR, hI_eq, hI_ne, hI_nk]; first | assumption | exact okv3 (by assumption)))) | (focus (refine ⟨_, rfl, ?_⟩; (first | assumption | rfl | exact True.intro | exact Nat.le_of_ble_eq_true rfl | exact Or.inl rfl | exact Or.inr rfl | exact okv3 (by assumption) | decide | (focus (simp (disch := omega) only [m0, m7, m18, e8, e13, nI_clamp, vp_in_nI, hT_sI, hR_sI, hT_sJ, hR_sJ, hT_sR, hI_sJ, hI_sR, hJ_sI, hJ_sR, hI_eq, hI_ne, hI_nk]; done)) | (focus (simp (disch := omega) only [m0, m7, m18, e8, e13, nI_clamp, vp_in_nI, hT_sI, hR_sI, hT_sJ, hR_sJ, hT_sR, hI_sJ, hI_sR, hJ_sI, hJ_sR, hI_eq, hI_ne, hI_nk]; first | assumption | exact okv3 (by assumption)))))))))
      (try simp (disch := omega) only [m0, m7, m18, e8, e13, nI_clamp, vp_in_nI, hT_sI, hR_sI, hT_sJ, hR_sJ, hT_sR, hI_sJ, hI_sR, hJ_sI, hJ_sR, hI_eq, hI_ne, hI_nk])
      repeat (first | (refine rs ?_; conv => whnf) | unfold k_call | ((with_reducible refine And.intro ?_ ?_); (first | (first | assumption | rfl | exact True.intro | exact Nat.le_of_ble_eq_true rfl | exact Or.inl rfl | exact Or.inr rfl | exact okv3 (by assumption) | decide | (focus (simp (disch := omega) only [m0, m7, m18, e8, e13, nI_clamp, vp_in_nI, hT_sI, hR_sI, hT_sJ, hR_sJ, hT_sR, hI_sJ, hI_sR, hJ_sI, hJ_sR, hI_eq, hI_ne, hI_nk]; done)) | (focus (simp (disch := omega) only [m0, m7, m18, e8, e13, nI_clamp, vp_in_nI, hT_sI, hR_sI, hT_sJ, hR_sJ, hT_sR, hI_sJ, hI_sR, hJ_sI, hJ_sR, hI_eq, hI_ne, hI_nk]; first | assumption | exact okv3 (by assumption)))) | (focus (refine ⟨_, rfl, ?_⟩; (first | assumption | rfl | exact True.intro | exact Nat.le_of_ble_eq_true rfl | exact Or.inl rfl | exact Or.inr rfl | exact okv3 (by assumption) | decide | (focus (simp (disch := omega) only [m0, m7, m18, e8, e13, nI_clamp, vp_in_nI, hT_sI, hR_sI, hT_sJ, hR_sJ, hT_sR, hI_sJ, hI_sR, hJ_sI, hJ_sR, hI_eq, hI_ne, hI_nk]; done)) | (focus (simp (disch := omega) only [m0, m7, m18, e8, e13, nI_clamp, vp_in_nI, hT_sI, hR_sI, hT_sJ, hR_sJ, hT_sR, hI_sJ, hI_sR, hJ_sI, hJ_sR, hI_eq, hI_ne, hI_nk]; first | assumption | exact okv3 (by assumption)))))))))
      rw [hx]
      exact ih
