/-! READING AHEAD, walked -/
theorem RR.up {n m : Nat} {a b : CH} (R : RR n a b) (h : n ≤ m) (h5 : m < 5000) : RR m a b := by
  obtain ⟨t, t1, t2, t3⟩ := R.tm
  exact RR.of R.hs R.ml R.sc R.vl R.bl R.lg R.fi R.tr R.im R.dl ⟨t, Nat.le_trans t1 h, h5, t3⟩ R.fm
theorem RR.lt {n : Nat} {a b : CH} (R : RR n a b) : n < 5000 := by
  obtain ⟨t, t1, t2, t3⟩ := R.tm
  exact t2
theorem lst_nil {p : Nat → Bool} : ∀ {n : Nat}, lst p n = none → ∀ j, j < n → p j = false
  | 0, _, j, h => absurd h (Nat.not_lt_zero _)
  | n + 1, e, j, h => by
    have x : lst p (n + 1) = (match lst p n with | some i => some i | none => if p n then some n else none) := rfl
    rw [e] at x
    cases f : lst p n with
    | some i => rw [f] at x; cases x
    | none =>
      rw [f] at x
      by_cases c : j = n
      · rw [c]
        cases q : p n with
        | false => rfl
        | true => rw [q] at x; cases x
      · exact lst_nil f j (by omega)
theorem no_pg {n s : Nat} {a b : CH} (R : RR n a b) (hs : s < 128) (e : lst (atP a 313 (nI s)) (nN a) = none) : ∀ j, j < 16 → ¬ hI a (313 + 2 + j) 0 = nI s := fun j hj z => by
  rcases Nat.lt_or_ge j (nN a) with q | q
  · have w := lst_nil e j q
    exact absurd (decide_eq_true z) (by rw [show decide (hI a (313 + 2 + j) 0 = nI s) = atP a 313 (nI s) j from rfl, w]; decide)
  · rw [R.fm.1 j q hj] at z
    exact nI_n1 hs z.symm
theorem ra_tail {n j s c u : Nat} {a b : CH} {X : XT} {Q : QT} {x1 x2 x3 x4 z : Value} (hX : Clo kX12_readsAhead X Q) (R : RR n a b) (hn : n + 1 < 5000) (hj : j < nN a) (hf : hI a (313 + 2 + j) 3 = 0) (hs : s < 128) (hno : ∀ i, i < 16 → ¬ hI a (313 + 2 + i) 0 = nI s) (hp : hI a 300 14 = 1) (hv : cVal a s = cSum a s) (hc : c + 1 ≤ 4) (hu : u + 12 ≤ 48) (k : X 146 [.ref 361, x1, x2, x3, x4, .int (nI s), .int (nI j), .ref (hN b)] [] (mBrA b (tN a) j s) (c + 1) (u + 12)) : X 102 [.ref 361, x1, x2, x3, x4, .int (nI s), .int (nI j), z] [] b c u := by
  have m0 := R.ml.1
  have m23 := R.ml.2.2.2.2.2.2.2.2.2.2.2.2.2.2.2.2.2.2.2.2.2.2.2
  have h16 := R.ln.1
  have R1 := RR_costs R hs
  have R2 := RR_bring R hn hj hf hs hno hp hv
  have g := bring_pg (i := j) (s := s) (t := tN a) R m23
  have hc0 : c + 0 ≤ 4 := by omega
  have hu0 : u + 0 ≤ 48 := by omega
  have hc1 : c + 0 + 1 ≤ 4 := hc
  have hu1 : u + 0 + 12 ≤ 48 := hu
  (refine go mX12_readsAhead hX [146] 400 ?_; conv => whnf)
  repeat (first | (refine rs ?_; conv => whnf) | unfold k_call | ((with_reducible refine And.intro ?_ ?_); (first | (first | assumption | rfl | exact True.intro | exact Nat.le_of_ble_eq_true rfl | exact Or.inl rfl | exact Or.inr rfl | exact okv3 (by assumption) | decide | (focus (simp (disch := omega) only [m0, nI_clamp, vp_in_nI, hT_sI, hR_sI, hT_sJ, hR_sJ, hT_sR, hI_sJ, hI_sR, hJ_sI, hJ_sR, hI_eq, hI_ne, hI_nk]; done)) | (focus (simp (disch := omega) only [m0, nI_clamp, vp_in_nI, hT_sI, hR_sI, hT_sJ, hR_sJ, hT_sR, hI_sJ, hI_sR, hJ_sI, hJ_sR, hI_eq, hI_ne, hI_nk]; first | assumption | exact okv3 (by assumption)))) | (focus (refine ⟨_, rfl, ?_⟩; (first | assumption | rfl | exact True.intro | exact Nat.le_of_ble_eq_true rfl | exact Or.inl rfl | exact Or.inr rfl | exact okv3 (by assumption) | decide | (focus (simp (disch := omega) only [m0, nI_clamp, vp_in_nI, hT_sI, hR_sI, hT_sJ, hR_sJ, hT_sR, hI_sJ, hI_sR, hJ_sI, hJ_sR, hI_eq, hI_ne, hI_nk]; done)) | (focus (simp (disch := omega) only [m0, nI_clamp, vp_in_nI, hT_sI, hR_sI, hT_sJ, hR_sJ, hT_sR, hI_sJ, hI_sR, hJ_sI, hJ_sR, hI_eq, hI_ne, hI_nk]; first | assumption | exact okv3 (by assumption)))))))))
  refine costs_ok R hs ?_
  have n0 := R1.ml.1
  have e362 : hI (mComes (mCosts b (tN a) s) j s) 362 s = hI b 362 s := by
    have w := (mComes_rd (b := mCosts b (tN a) s) (i := j) (s := s) (by rw [mCosts_rt.2.2]; exact m23)).2.2.2.1 362 s (by rw [mCosts_rt.2.2]; omega)
    rw [w]
    unfold mCosts
    split
    · rw [hI_ne (by omega)]; rfl
    · rfl
  have eN : hN (mCosts b (tN a) s) = hN b := mCosts_rt.2.2
  unfold mBrA mBring at k
  have ml2 : MLay (mComes (mCosts b (tN a) s) j s) := R2.ml
  have rp : (hT (mComes (mCosts b (tN a) s) j s) (hN b)).1 = 15 := by
    have w := g.2.2.1
    unfold mBring at w
    rw [show hT (mComes (mCosts b (tN a) s) j s) (hN b) = (15, 0) from w]
  generalize hC : mCosts b (tN a) s = C at k n0 e362 eN ml2 rp ⊢
  have mlC : MLay C := by rw [← hC]; exact R1.ml
  clear R1 R2 g hC m0
  repeat (first | (refine rs ?_; conv => whnf) | unfold k_call | ((with_reducible refine And.intro ?_ ?_); (first | (first | assumption | rfl | exact True.intro | exact Nat.le_of_ble_eq_true rfl | exact Or.inl rfl | exact Or.inr rfl | exact okv3 (by assumption) | decide | (focus (simp (disch := omega) only [n0, nI_clamp, vp_in_nI, hT_sI, hR_sI, hT_sJ, hR_sJ, hT_sR, hI_sJ, hI_sR, hJ_sI, hJ_sR, hI_eq, hI_ne, hI_nk]; done)) | (focus (simp (disch := omega) only [n0, nI_clamp, vp_in_nI, hT_sI, hR_sI, hT_sJ, hR_sJ, hT_sR, hI_sJ, hI_sR, hJ_sI, hJ_sR, hI_eq, hI_ne, hI_nk]; first | assumption | exact okv3 (by assumption)))) | (focus (refine ⟨_, rfl, ?_⟩; (first | assumption | rfl | exact True.intro | exact Nat.le_of_ble_eq_true rfl | exact Or.inl rfl | exact Or.inr rfl | exact okv3 (by assumption) | decide | (focus (simp (disch := omega) only [n0, nI_clamp, vp_in_nI, hT_sI, hR_sI, hT_sJ, hR_sJ, hT_sR, hI_sJ, hI_sR, hJ_sI, hJ_sR, hI_eq, hI_ne, hI_nk]; done)) | (focus (simp (disch := omega) only [n0, nI_clamp, vp_in_nI, hT_sI, hR_sI, hT_sJ, hR_sJ, hT_sR, hI_sJ, hI_sR, hJ_sI, hJ_sR, hI_eq, hI_ne, hI_nk]; first | assumption | exact okv3 (by assumption)))))))))
  refine comes_ok mlC (by omega) ?_
  rw [eN]
  generalize mComes C j s = B at k e362 ml2 rp ⊢
  have r0 := ml2.1
  have r1 := ml2.2.1
  have r12 := ml2.2.2.2.2.2.2.2.2.2.2.2.2.1
  have hp373 : 373 ≤ hN b := m23
  generalize hN b = p at k rp hp373 ⊢
  have i26 : hI (sI B p 1 (hI b 362 s)) 361 26 = hI B 361 26 := hI_ne (by omega)
  rw [i26] at k
  clear n0
  repeat (first | (refine rs ?_; conv => whnf) | unfold k_call | ((with_reducible refine And.intro ?_ ?_); (first | (first | assumption | rfl | exact True.intro | exact Nat.le_of_ble_eq_true rfl | exact Or.inl rfl | exact Or.inr rfl | exact okv3 (by assumption) | decide | (focus (simp (disch := omega) only [r0, r1, r12, rp, e362, nI_clamp, vp_in_nI, hT_sI, hR_sI, hT_sJ, hR_sJ, hT_sR, hI_sJ, hI_sR, hJ_sI, hJ_sR, hI_eq, hI_ne, hI_nk]; done)) | (focus (simp (disch := omega) only [r0, r1, r12, rp, e362, nI_clamp, vp_in_nI, hT_sI, hR_sI, hT_sJ, hR_sJ, hT_sR, hI_sJ, hI_sR, hJ_sI, hJ_sR, hI_eq, hI_ne, hI_nk]; first | assumption | exact okv3 (by assumption)))) | (focus (refine ⟨_, rfl, ?_⟩; (first | assumption | rfl | exact True.intro | exact Nat.le_of_ble_eq_true rfl | exact Or.inl rfl | exact Or.inr rfl | exact okv3 (by assumption) | decide | (focus (simp (disch := omega) only [r0, r1, r12, rp, e362, nI_clamp, vp_in_nI, hT_sI, hR_sI, hT_sJ, hR_sJ, hT_sR, hI_sJ, hI_sR, hJ_sI, hJ_sR, hI_eq, hI_ne, hI_nk]; done)) | (focus (simp (disch := omega) only [r0, r1, r12, rp, e362, nI_clamp, vp_in_nI, hT_sI, hR_sI, hT_sJ, hR_sJ, hT_sR, hI_sJ, hI_sR, hJ_sI, hJ_sR, hI_eq, hI_ne, hI_nk]; first | assumption | exact okv3 (by assumption)))))))))
  (try simp (disch := omega) only [r0, r1, r12, rp, e362, nI_clamp, vp_in_nI, hT_sI, hR_sI, hT_sJ, hR_sJ, hT_sR, hI_sJ, hI_sR, hJ_sI, hJ_sR, hI_eq, hI_ne, hI_nk])
  repeat (first | (refine rs ?_; conv => whnf) | unfold k_call | ((with_reducible refine And.intro ?_ ?_); (first | (first | assumption | rfl | exact True.intro | exact Nat.le_of_ble_eq_true rfl | exact Or.inl rfl | exact Or.inr rfl | exact okv3 (by assumption) | decide | (focus (simp (disch := omega) only [r0, r1, r12, rp, e362, nI_clamp, vp_in_nI, hT_sI, hR_sI, hT_sJ, hR_sJ, hT_sR, hI_sJ, hI_sR, hJ_sI, hJ_sR, hI_eq, hI_ne, hI_nk]; done)) | (focus (simp (disch := omega) only [r0, r1, r12, rp, e362, nI_clamp, vp_in_nI, hT_sI, hR_sI, hT_sJ, hR_sJ, hT_sR, hI_sJ, hI_sR, hJ_sI, hJ_sR, hI_eq, hI_ne, hI_nk]; first | assumption | exact okv3 (by assumption)))) | (focus (refine ⟨_, rfl, ?_⟩; (first | assumption | rfl | exact True.intro | exact Nat.le_of_ble_eq_true rfl | exact Or.inl rfl | exact Or.inr rfl | exact okv3 (by assumption) | decide | (focus (simp (disch := omega) only [r0, r1, r12, rp, e362, nI_clamp, vp_in_nI, hT_sI, hR_sI, hT_sJ, hR_sJ, hT_sR, hI_sJ, hI_sR, hJ_sI, hJ_sR, hI_eq, hI_ne, hI_nk]; done)) | (focus (simp (disch := omega) only [r0, r1, r12, rp, e362, nI_clamp, vp_in_nI, hT_sI, hR_sI, hT_sJ, hR_sJ, hT_sR, hI_sJ, hI_sR, hJ_sI, hJ_sR, hI_eq, hI_ne, hI_nk]; first | assumption | exact okv3 (by assumption)))))))))
  (try simp (disch := omega) only [r0, r1, r12, rp, e362, nI_clamp, vp_in_nI, hT_sI, hR_sI, hT_sJ, hR_sJ, hT_sR, hI_sJ, hI_sR, hJ_sI, hJ_sR, hI_eq, hI_ne, hI_nk])
  repeat (first | (refine rs ?_; conv => whnf) | unfold k_call | ((with_reducible refine And.intro ?_ ?_); (first | (first | assumption | rfl | exact True.intro | exact Nat.le_of_ble_eq_true rfl | exact Or.inl rfl | exact Or.inr rfl | exact okv3 (by assumption) | decide | (focus (simp (disch := omega) only [r0, r1, r12, rp, e362, nI_clamp, vp_in_nI, hT_sI, hR_sI, hT_sJ, hR_sJ, hT_sR, hI_sJ, hI_sR, hJ_sI, hJ_sR, hI_eq, hI_ne, hI_nk]; done)) | (focus (simp (disch := omega) only [r0, r1, r12, rp, e362, nI_clamp, vp_in_nI, hT_sI, hR_sI, hT_sJ, hR_sJ, hT_sR, hI_sJ, hI_sR, hJ_sI, hJ_sR, hI_eq, hI_ne, hI_nk]; first | assumption | exact okv3 (by assumption)))) | (focus (refine ⟨_, rfl, ?_⟩; (first | assumption | rfl | exact True.intro | exact Nat.le_of_ble_eq_true rfl | exact Or.inl rfl | exact Or.inr rfl | exact okv3 (by assumption) | decide | (focus (simp (disch := omega) only [r0, r1, r12, rp, e362, nI_clamp, vp_in_nI, hT_sI, hR_sI, hT_sJ, hR_sJ, hT_sR, hI_sJ, hI_sR, hJ_sI, hJ_sR, hI_eq, hI_ne, hI_nk]; done)) | (focus (simp (disch := omega) only [r0, r1, r12, rp, e362, nI_clamp, vp_in_nI, hT_sI, hR_sI, hT_sJ, hR_sJ, hT_sR, hI_sJ, hI_sR, hJ_sI, hJ_sR, hI_eq, hI_ne, hI_nk]; first | assumption | exact okv3 (by assumption)))))))))
  exact k
