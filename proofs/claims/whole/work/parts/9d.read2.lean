/-! A READ, II -/
theorem flu_st {g : CH} {t i sp s : Nat} (hi : i < 16) (hsp : sp < 128) (hs : s < 128) : (hI (cFlu (cTick g) t (313 + 2 + i) sp) 300 14 = hI g 300 14) ∧ (∀ j, j < 16 → hI (cFlu (cTick g) t (313 + 2 + i) sp) (313 + 2 + j) 0 = hI g (313 + 2 + j) 0) ∧ (cVal g s = cSum g s → cVal (cFlu (cTick g) t (313 + 2 + i) sp) s = cSum (cFlu (cTick g) t (313 + 2 + i) sp) s) := by
  rw [flu_eq (by omega) (by omega)]
  generalize hv : hI (cTick g) (313 + 2 + i) 1 = v
  have e : ∀ x k, (x < 302 ∨ 310 ≤ x ∧ x < 331) → ¬ (x = 300 ∧ k = 15) → ¬ (x = 313 + 2 + i ∧ k = 3) → hI (sI (cForget (cPut (cRdP (cTick g) t sp) (302 + 4 * (sp / 64)) (sp % 64) v) 331 sp) (313 + 2 + i) 3 0) x k = hI g x k := fun x k h1 h2 h3 => by
    rw [hI_sI, if_neg h3, fgt_oth (by omega) (by omega)]
    unfold cPut
    rw [hI_ne (by omega), hI_ne (by omega), hI_ne (by omega), hI_rdP (by omega), tick_oth h2]
  refine ⟨e _ _ (by omega) (by omega) (by omega), fun j hj => e _ _ (by omega) (by omega) (by omega), fun q => ?_⟩
  have w := put_val (a := cRdP (cTick g) t sp) (v := v) hsp hs
  have c1 : cVal (sI (cForget (cPut (cRdP (cTick g) t sp) (302 + 4 * (sp / 64)) (sp % 64) v) 331 sp) (313 + 2 + i) 3 0) s = cVal (cPut (cRdP (cTick g) t sp) (302 + 4 * (sp / 64)) (sp % 64) v) s := by
    unfold cVal
    rw [hI_ne (by omega), fgt_oth (by omega) (by omega)]
  have c2 : cSum (sI (cForget (cPut (cRdP (cTick g) t sp) (302 + 4 * (sp / 64)) (sp % 64) v) 331 sp) (313 + 2 + i) 3 0) s = cSum (cPut (cRdP (cTick g) t sp) (302 + 4 * (sp / 64)) (sp % 64) v) s := by
    unfold cSum
    rw [hI_ne (by omega), fgt_oth (by omega) (by omega)]
  rw [c1, c2, w.1, w.2]
  by_cases c : s = sp
  · rw [if_pos c, if_pos c]
  · rw [if_neg c, if_neg c]
    have d1 : cVal (cRdP (cTick g) t sp) s = cVal g s := by
      unfold cVal
      rw [hI_rdP (by omega), tick_oth (by omega)]
    have d2 : cSum (cRdP (cTick g) t sp) s = cSum g s := by
      unfold cSum
      rw [hI_rdP (by omega), tick_oth (by omega)]
    rw [d1, d2]
    exact q
theorem drop_st {g : CH} {i s : Nat} (hi : i < 16) : (hI (cDrop g (313 + 2 + i)) 300 14 = hI g 300 14) ∧ (∀ j, j < 16 → ¬ hI g (313 + 2 + j) 0 = nI s → s < 128 → ¬ hI (cDrop g (313 + 2 + i)) (313 + 2 + j) 0 = nI s) ∧ (cVal (cDrop g (313 + 2 + i)) s = cVal g s ∨ 128 ≤ s) ∧ (cSum (cDrop g (313 + 2 + i)) s = cSum g s ∨ 128 ≤ s) := by
  refine ⟨hI_drop (by omega), fun j hj q hs => ?_, ?_, ?_⟩
  · by_cases c : j = i
    · rw [c, hI_drop0.1]
      exact fun z => nI_n1 hs z.symm
    · rw [hI_drop (by omega)]
      exact q
  · by_cases c : 128 ≤ s
    · exact Or.inr c
    · left; unfold cVal; rw [hI_drop (by omega)]
  · by_cases c : 128 ≤ s
    · exact Or.inr c
    · left; unfold cSum; rw [hI_drop (by omega)]
theorem takeF_st {n i s : Nat} {a b : CH} (R : RR n a b) (e : (cTakeF a).2 = some i) (hs : s < 128) (hno : ∀ j, j < 16 → ¬ hI a (313 + 2 + j) 0 = nI s) : hI (cTakeF a).1 300 14 = hI a 300 14 ∧ (∀ j, j < 16 → ¬ hI (cTakeF a).1 (313 + 2 + j) 0 = nI s) ∧ (cVal a s = cSum a s → cVal (cTakeF a).1 s = cSum (cTakeF a).1 s) := by
  unfold cTakeF at e ⊢
  cases el : lst (frP a 313) (nN a) with
  | some j => exact ⟨rfl, hno, id⟩
  | none =>
    rw [el] at e
    dsimp only at e ⊢
    have H := ho_choose (h := a) (n := nN a) (hd := hdN a) (pol := hI a 300 10) (cl := 0) (aside := -1) R.ln.2.1 R.ln.1
    cases ec : (cChoose a 313 (nN a) (hdN a) (hI a 300 10) 0 (-1)).2 with
    | none => rw [ec] at e; cases e
    | some j =>
      rw [ec] at e
      dsimp only at e ⊢
      have hz := cChoose_some R.ln.2.1 R.ln.1 ec
      have h16 := R.ln.1
      have hS := SpL_ho H (Hse_sp R.hs.1) j (by omega)
      have hc := (CanGo_ho H).mpr hz.2
      have e1 := ho_pow H
      have e2 : ∀ j, j < 16 → hI (cChoose a 313 (nN a) (hdN a) (hI a 300 10) 0 (-1)).1 (313 + 2 + j) 0 = hI a (313 + 2 + j) 0 := fun j hj => H.2.2.2.1 _ _ (by omega) (by omega)
      have e3 : cVal (cChoose a 313 (nN a) (hdN a) (hI a 300 10) 0 (-1)).1 s = cVal a s ∧ cSum (cChoose a 313 (nN a) (hdN a) (hI a 300 10) 0 (-1)).1 s = cSum a s := by
        unfold cVal cSum
        exact ⟨H.2.2.2.1 _ _ (by omega) (by omega), H.2.2.2.1 _ _ (by omega) (by omega)⟩
      generalize (cChoose a 313 (nN a) (hdN a) (hI a 300 10) 0 (-1)).1 = g at e hS hc e1 e2 e3 ⊢
      have hno2 : ∀ j, j < 16 → ¬ hI g (313 + 2 + j) 0 = nI s := fun l hl => by rw [e2 l hl]; exact hno l hl
      by_cases c : ¬ hI g (313 + 2 + j) 3 = 0 ∧ Falls g
      · rw [if_pos c] at e; cases e
      · rw [if_neg c] at e ⊢
        cases e
        unfold cEv
        have hsp : spN g i < 128 := by
          rcases hS with q | q
          · exact absurd hc.1 (by rw [q]; decide)
          · exact q.2
        split
        · obtain ⟨d1, d2, d3, d4⟩ := drop_st (g := g) (i := i) (s := s) (by omega)
          refine ⟨d1.trans e1, fun l hl => d2 l hl (hno2 l hl) hs, fun q => ?_⟩
          rw [d3.resolve_right (by omega), d4.resolve_right (by omega), e3.1, e3.2]
          exact q
        · obtain ⟨u1, u2, u3⟩ := flu_st (g := g) (t := tN a) (i := i) (sp := spN g i) (s := s) (by omega) hsp hs
          generalize cFlu (cTick g) (tN a) (313 + 2 + i) (spN g i) = f at u1 u2 u3 ⊢
          obtain ⟨d1, d2, d3, d4⟩ := drop_st (g := f) (i := i) (s := s) (by omega)
          refine ⟨(d1.trans u1).trans e1, fun l hl => d2 l hl (by rw [u2 l hl]; exact hno2 l hl) hs, fun q => ?_⟩
          rw [d3.resolve_right (by omega), d4.resolve_right (by omega)]
          exact u3 (by rw [e3.1, e3.2]; exact q)
/-- the read behind the checks -/
def Lrd : List (String × Int32) := [("java/lang/IndexOutOfBoundsException", 1), ("java/lang/UnsupportedOperationException", 2), ("java/lang/IllegalStateException", 3)]
theorem read_hit {n f bl sp i : Nat} {a c : CH} {X : XT} {Q : QT} {u : Int32} {v w : Value} (hX : Clo kX12_read X Q) (R : RR n a c) (hn : n + 5 < 5000) (h0 : hI c 361 0 = 0) (hf : f < fcN a) (hm : hmN a f ≤ 112) (hb : bl < 16) (hi : i < 16) (hq : hI a (313 + 2 + i) 0 = nI sp) (hs : sp < 128) (k : ∀ b' r, RR (n + 5) (cRd2 a (sI (cCount a f bl (some i)) 312 f (nI bl)) f bl sp (some i)).1 b' → Ans (cRd2 a (sI (cCount a f bl (some i)) 312 f (nI bl)) f bl sp (some i)).2 Lrd (hI b' 361 0) r → Q (.inl [.int r]) b') : X 109 [.ref 361, .int (nI f), .int (nI bl), .int (nI sp), .int (nI i), .int 1, .int u, v, w] [] c 0 0 := by
  have h8 := fc_le R
  have m0 := R.ml.1
  unfold cRd2 at k
  dsimp only at k
  rw [count_some, ah_comm (by omega) (by omega)] at k
  (refine go mX12_read hX [143] 400 ?_; conv => whnf)
  repeat (first | (refine rs ?_; conv => whnf) | unfold k_call | ((with_reducible refine And.intro ?_ ?_); (first | (first | assumption | rfl | exact True.intro | exact Nat.le_of_ble_eq_true rfl | exact Or.inl rfl | exact Or.inr rfl | exact okv3 (by assumption) | decide | (focus (simp (disch := omega) only [m0, nI_clamp, vp_in_nI, hT_sI, hR_sI, hT_sJ, hR_sJ, hT_sR, hI_sJ, hI_sR, hJ_sI, hJ_sR, hI_eq, hI_ne, hI_nk]; done)) | (focus (simp (disch := omega) only [m0, nI_clamp, vp_in_nI, hT_sI, hR_sI, hT_sJ, hR_sJ, hT_sR, hI_sJ, hI_sR, hJ_sI, hJ_sR, hI_eq, hI_ne, hI_nk]; first | assumption | exact okv3 (by assumption)))) | (focus (refine ⟨_, rfl, ?_⟩; (first | assumption | rfl | exact True.intro | exact Nat.le_of_ble_eq_true rfl | exact Or.inl rfl | exact Or.inr rfl | exact okv3 (by assumption) | decide | (focus (simp (disch := omega) only [m0, nI_clamp, vp_in_nI, hT_sI, hR_sI, hT_sJ, hR_sJ, hT_sR, hI_sJ, hI_sR, hJ_sI, hJ_sR, hI_eq, hI_ne, hI_nk]; done)) | (focus (simp (disch := omega) only [m0, nI_clamp, vp_in_nI, hT_sI, hR_sI, hT_sJ, hR_sJ, hT_sR, hI_sJ, hI_sR, hJ_sI, hJ_sR, hI_eq, hI_ne, hI_nk]; first | assumption | exact okv3 (by assumption)))))))))
  refine counts_ok R (by omega) hb (Or.inr rfl) (fun b1 R1 T1 => ?_)
  have er : ∀ x k, 310 ≤ x ∧ x < 335 → hI (cCnt a (nI (f * 16 + bl)) 1) x k = hI a x k := fun x k h => cnt_oth (by omega) (by omega) (by omega)
  generalize cCnt a (nI (f * 16 + bl)) 1 = A at k R1 er
  have R2 := RR_last (f := f) (bl := bl) R1 hb (by omega)
  have er2 : ∀ k, hI (sI A 312 f (nI bl)) (313 + 2 + i) k = hI a (313 + 2 + i) k := fun k => (hI_ne (by omega)).trans (er _ _ (by omega))
  have fA : f < fcN A := by unfold fcN; rw [er _ _ (by omega)]; exact hf
  have r0 := R1.ml.1
  have r5 : hR b1 361 5 = 366 := R1.ml.2.2.2.2.2.1
  have r7 : hR b1 361 7 = 368 := R1.ml.2.2.2.2.2.2.2.1
  have r16 : hT b1 366 = (100, 8) := R1.ml.2.2.2.2.2.2.2.2.2.2.2.2.2.2.2.2.1
  have r18 : hT b1 368 = (107, 16) := R1.ml.2.2.2.2.2.2.2.2.2.2.2.2.2.2.2.2.2.2.1
  have T2 : hI (sI b1 366 f (nI bl)) 361 0 = 0 := by rw [hI_ne (by omega)]; exact Eq.trans (show hI b1 361 0 = hI c 361 0 from T1) h0
  generalize sI A 312 f (nI bl) = A2 at k R2 er2
  have hq2 : ¬ hI A2 (313 + 2 + i) 0 = -1 := by rw [er2, hq]; exact nI_n1 hs
  have hq3 : ¬ hR (sI b1 366 f (nI bl)) 368 i = 0 := fun z => hq2 ((nul_iff R2 hi).mp z)
  have fin : ∀ x, X 143 [.ref 361, .int (nI f), .int (nI bl), .int (nI sp), .int (nI i), .int 1, .int u, x, w] [] (sI b1 366 f (nI bl)) 2 256 := fun x => by
    generalize sI b1 366 f (nI bl) = B at R2 T2 hq3 ⊢
    clear r0 r5 r7 r16 r18 m0
    have r0 := R2.ml.1
    have r7 : hR B 361 7 = 368 := R2.ml.2.2.2.2.2.2.2.1
    have r18 : hT B 368 = (107, 16) := R2.ml.2.2.2.2.2.2.2.2.2.2.2.2.2.2.2.2.2.2.1
    (refine go mX12_read hX [] 400 ?_; conv => whnf)
    repeat (first | (refine rs ?_; conv => whnf) | unfold k_call | ((with_reducible refine And.intro ?_ ?_); (first | (first | assumption | rfl | exact True.intro | exact Nat.le_of_ble_eq_true rfl | exact Or.inl rfl | exact Or.inr rfl | exact okv3 (by assumption) | decide | (focus (simp (disch := omega) only [r0, r7, r18, nI_clamp, vp_in_nI, hT_sI, hR_sI, hT_sJ, hR_sJ, hT_sR, hI_sJ, hI_sR, hJ_sI, hJ_sR, hI_eq, hI_ne, hI_nk]; done)) | (focus (simp (disch := omega) only [r0, r7, r18, nI_clamp, vp_in_nI, hT_sI, hR_sI, hT_sJ, hR_sJ, hT_sR, hI_sJ, hI_sR, hJ_sI, hJ_sR, hI_eq, hI_ne, hI_nk]; first | assumption | exact okv3 (by assumption)))) | (focus (refine ⟨_, rfl, ?_⟩; (first | assumption | rfl | exact True.intro | exact Nat.le_of_ble_eq_true rfl | exact Or.inl rfl | exact Or.inr rfl | exact okv3 (by assumption) | decide | (focus (simp (disch := omega) only [r0, r7, r18, nI_clamp, vp_in_nI, hT_sI, hR_sI, hT_sJ, hR_sJ, hT_sR, hI_sJ, hI_sR, hJ_sI, hJ_sR, hI_eq, hI_ne, hI_nk]; done)) | (focus (simp (disch := omega) only [r0, r7, r18, nI_clamp, vp_in_nI, hT_sI, hR_sI, hT_sJ, hR_sJ, hT_sR, hI_sJ, hI_sR, hJ_sI, hJ_sR, hI_eq, hI_ne, hI_nk]; first | assumption | exact okv3 (by assumption)))))))))
    refine br_f (show ¬ (1 : Int32) = 0 by decide) ?_
    repeat (first | (refine rs ?_; conv => whnf) | unfold k_call | ((with_reducible refine And.intro ?_ ?_); (first | (first | assumption | rfl | exact True.intro | exact Nat.le_of_ble_eq_true rfl | exact Or.inl rfl | exact Or.inr rfl | exact okv3 (by assumption) | decide | (focus (simp (disch := omega) only [r0, r7, r18, nI_clamp, vp_in_nI, hT_sI, hR_sI, hT_sJ, hR_sJ, hT_sR, hI_sJ, hI_sR, hJ_sI, hJ_sR, hI_eq, hI_ne, hI_nk]; done)) | (focus (simp (disch := omega) only [r0, r7, r18, nI_clamp, vp_in_nI, hT_sI, hR_sI, hT_sJ, hR_sJ, hT_sR, hI_sJ, hI_sR, hJ_sI, hJ_sR, hI_eq, hI_ne, hI_nk]; first | assumption | exact okv3 (by assumption)))) | (focus (refine ⟨_, rfl, ?_⟩; (first | assumption | rfl | exact True.intro | exact Nat.le_of_ble_eq_true rfl | exact Or.inl rfl | exact Or.inr rfl | exact okv3 (by assumption) | decide | (focus (simp (disch := omega) only [r0, r7, r18, nI_clamp, vp_in_nI, hT_sI, hR_sI, hT_sJ, hR_sJ, hT_sR, hI_sJ, hI_sR, hJ_sI, hJ_sR, hI_eq, hI_ne, hI_nk]; done)) | (focus (simp (disch := omega) only [r0, r7, r18, nI_clamp, vp_in_nI, hT_sI, hR_sI, hT_sJ, hR_sJ, hT_sR, hI_sJ, hI_sR, hJ_sI, hJ_sR, hI_eq, hI_ne, hI_nk]; first | assumption | exact okv3 (by assumption)))))))))
    (try simp (disch := omega) only [r0, r7, r18, nI_clamp, vp_in_nI, hT_sI, hR_sI, hT_sJ, hR_sJ, hT_sR, hI_sJ, hI_sR, hJ_sI, hJ_sR, hI_eq, hI_ne, hI_nk])
    repeat (first | (refine rs ?_; conv => whnf) | unfold k_call | ((with_reducible refine And.intro ?_ ?_); (first | (first | assumption | rfl | exact True.intro | exact Nat.le_of_ble_eq_true rfl | exact Or.inl rfl | exact Or.inr rfl | exact okv3 (by assumption) | decide | (focus (simp (disch := omega) only [r0, r7, r18, nI_clamp, vp_in_nI, hT_sI, hR_sI, hT_sJ, hR_sJ, hT_sR, hI_sJ, hI_sR, hJ_sI, hJ_sR, hI_eq, hI_ne, hI_nk]; done)) | (focus (simp (disch := omega) only [r0, r7, r18, nI_clamp, vp_in_nI, hT_sI, hR_sI, hT_sJ, hR_sJ, hT_sR, hI_sJ, hI_sR, hJ_sI, hJ_sR, hI_eq, hI_ne, hI_nk]; first | assumption | exact okv3 (by assumption)))) | (focus (refine ⟨_, rfl, ?_⟩; (first | assumption | rfl | exact True.intro | exact Nat.le_of_ble_eq_true rfl | exact Or.inl rfl | exact Or.inr rfl | exact okv3 (by assumption) | decide | (focus (simp (disch := omega) only [r0, r7, r18, nI_clamp, vp_in_nI, hT_sI, hR_sI, hT_sJ, hR_sJ, hT_sR, hI_sJ, hI_sR, hJ_sI, hJ_sR, hI_eq, hI_ne, hI_nk]; done)) | (focus (simp (disch := omega) only [r0, r7, r18, nI_clamp, vp_in_nI, hT_sI, hR_sI, hT_sJ, hR_sJ, hT_sR, hI_sJ, hI_sR, hJ_sI, hJ_sR, hI_eq, hI_ne, hI_nk]; first | assumption | exact okv3 (by assumption)))))))))
    (try simp (disch := omega) only [r0, r7, r18, nI_clamp, vp_in_nI, hT_sI, hR_sI, hT_sJ, hR_sJ, hT_sR, hI_sJ, hI_sR, hJ_sI, hJ_sR, hI_eq, hI_ne, hI_nk])
    refine uses_ok R2 hi hq3 ?_
    have R3 := RR_uses R2 (by omega) hi hq3
    have er3 : hR (mUses B (hR B 368 i)) = hR B := rfl
    have p3 := pgT R2 hi hq3
    have T3 : hI (mUses B (hR B 368 i)) 361 0 = 0 := by
      unfold mUses mUse
      rw [hI_ne (by omega), hI_nk (by omega), hI_ne (by omega)]
      exact T2
    have hq4 : ¬ hR (mUses B (hR B 368 i)) 368 i = 0 := hq3
    have kk := k (mUses B (hR B 368 i))
    clear r0 r7 r18 k
    generalize mUses B (hR B 368 i) = D at R3 er3 T3 hq4 kk ⊢
    have r0 := R3.ml.1
    have r7 : hR D 361 7 = 368 := R3.ml.2.2.2.2.2.2.2.1
    have r18 : hT D 368 = (107, 16) := R3.ml.2.2.2.2.2.2.2.2.2.2.2.2.2.2.2.2.2.2.1
    have pt := (pgT R3 hi hq4).1
    repeat (first | (refine rs ?_; conv => whnf) | unfold k_call | ((with_reducible refine And.intro ?_ ?_); (first | (first | assumption | rfl | exact True.intro | exact Nat.le_of_ble_eq_true rfl | exact Or.inl rfl | exact Or.inr rfl | exact okv3 (by assumption) | decide | (focus (simp (disch := omega) only [r0, r7, r18, pt, nI_clamp, vp_in_nI, hT_sI, hR_sI, hT_sJ, hR_sJ, hT_sR, hI_sJ, hI_sR, hJ_sI, hJ_sR, hI_eq, hI_ne, hI_nk]; done)) | (focus (simp (disch := omega) only [r0, r7, r18, pt, nI_clamp, vp_in_nI, hT_sI, hR_sI, hT_sJ, hR_sJ, hT_sR, hI_sJ, hI_sR, hJ_sI, hJ_sR, hI_eq, hI_ne, hI_nk]; first | assumption | exact okv3 (by assumption)))) | (focus (refine ⟨_, rfl, ?_⟩; (first | assumption | rfl | exact True.intro | exact Nat.le_of_ble_eq_true rfl | exact Or.inl rfl | exact Or.inr rfl | exact okv3 (by assumption) | decide | (focus (simp (disch := omega) only [r0, r7, r18, pt, nI_clamp, vp_in_nI, hT_sI, hR_sI, hT_sJ, hR_sJ, hT_sR, hI_sJ, hI_sR, hJ_sI, hJ_sR, hI_eq, hI_ne, hI_nk]; done)) | (focus (simp (disch := omega) only [r0, r7, r18, pt, nI_clamp, vp_in_nI, hT_sI, hR_sI, hT_sJ, hR_sJ, hT_sR, hI_sJ, hI_sR, hJ_sI, hJ_sR, hI_eq, hI_ne, hI_nk]; first | assumption | exact okv3 (by assumption)))))))))
    (try simp (disch := omega) only [r0, r7, r18, pt, nI_clamp, vp_in_nI, hT_sI, hR_sI, hT_sJ, hR_sJ, hT_sR, hI_sJ, hI_sR, hJ_sI, hJ_sR, hI_eq, hI_ne, hI_nk])
    repeat (first | (refine rs ?_; conv => whnf) | unfold k_call | ((with_reducible refine And.intro ?_ ?_); (first | (first | assumption | rfl | exact True.intro | exact Nat.le_of_ble_eq_true rfl | exact Or.inl rfl | exact Or.inr rfl | exact okv3 (by assumption) | decide | (focus (simp (disch := omega) only [r0, r7, r18, pt, nI_clamp, vp_in_nI, hT_sI, hR_sI, hT_sJ, hR_sJ, hT_sR, hI_sJ, hI_sR, hJ_sI, hJ_sR, hI_eq, hI_ne, hI_nk]; done)) | (focus (simp (disch := omega) only [r0, r7, r18, pt, nI_clamp, vp_in_nI, hT_sI, hR_sI, hT_sJ, hR_sJ, hT_sR, hI_sJ, hI_sR, hJ_sI, hJ_sR, hI_eq, hI_ne, hI_nk]; first | assumption | exact okv3 (by assumption)))) | (focus (refine ⟨_, rfl, ?_⟩; (first | assumption | rfl | exact True.intro | exact Nat.le_of_ble_eq_true rfl | exact Or.inl rfl | exact Or.inr rfl | exact okv3 (by assumption) | decide | (focus (simp (disch := omega) only [r0, r7, r18, pt, nI_clamp, vp_in_nI, hT_sI, hR_sI, hT_sJ, hR_sJ, hT_sR, hI_sJ, hI_sR, hJ_sI, hJ_sR, hI_eq, hI_ne, hI_nk]; done)) | (focus (simp (disch := omega) only [r0, r7, r18, pt, nI_clamp, vp_in_nI, hT_sI, hR_sI, hT_sJ, hR_sJ, hT_sR, hI_sJ, hI_sR, hJ_sI, hJ_sR, hI_eq, hI_ne, hI_nk]; first | assumption | exact okv3 (by assumption)))))))))
    (try simp (disch := omega) only [r0, r7, r18, pt, nI_clamp, vp_in_nI, hT_sI, hR_sI, hT_sJ, hR_sJ, hT_sR, hI_sJ, hI_sR, hJ_sI, hJ_sR, hI_eq, hI_ne, hI_nk])
    repeat (first | (refine rs ?_; conv => whnf) | unfold k_call | ((with_reducible refine And.intro ?_ ?_); (first | (first | assumption | rfl | exact True.intro | exact Nat.le_of_ble_eq_true rfl | exact Or.inl rfl | exact Or.inr rfl | exact okv3 (by assumption) | decide | (focus (simp (disch := omega) only [r0, r7, r18, pt, nI_clamp, vp_in_nI, hT_sI, hR_sI, hT_sJ, hR_sJ, hT_sR, hI_sJ, hI_sR, hJ_sI, hJ_sR, hI_eq, hI_ne, hI_nk]; done)) | (focus (simp (disch := omega) only [r0, r7, r18, pt, nI_clamp, vp_in_nI, hT_sI, hR_sI, hT_sJ, hR_sJ, hT_sR, hI_sJ, hI_sR, hJ_sI, hJ_sR, hI_eq, hI_ne, hI_nk]; first | assumption | exact okv3 (by assumption)))) | (focus (refine ⟨_, rfl, ?_⟩; (first | assumption | rfl | exact True.intro | exact Nat.le_of_ble_eq_true rfl | exact Or.inl rfl | exact Or.inr rfl | exact okv3 (by assumption) | decide | (focus (simp (disch := omega) only [r0, r7, r18, pt, nI_clamp, vp_in_nI, hT_sI, hR_sI, hT_sJ, hR_sJ, hT_sR, hI_sJ, hI_sR, hJ_sI, hJ_sR, hI_eq, hI_ne, hI_nk]; done)) | (focus (simp (disch := omega) only [r0, r7, r18, pt, nI_clamp, vp_in_nI, hT_sI, hR_sI, hT_sJ, hR_sJ, hT_sR, hI_sJ, hI_sR, hJ_sI, hJ_sR, hI_eq, hI_ne, hI_nk]; first | assumption | exact okv3 (by assumption)))))))))
    exact kk _ (R3.up (by omega) hn) ⟨T3, by rw [pg_val R3 hi hq4]⟩
  repeat (first | (refine rs ?_; conv => whnf) | unfold k_call | ((with_reducible refine And.intro ?_ ?_); (first | (first | assumption | rfl | exact True.intro | exact Nat.le_of_ble_eq_true rfl | exact Or.inl rfl | exact Or.inr rfl | exact okv3 (by assumption) | decide | (focus (simp (disch := omega) only [r0, r5, r16, nI_clamp, vp_in_nI, hT_sI, hR_sI, hT_sJ, hR_sJ, hT_sR, hI_sJ, hI_sR, hJ_sI, hJ_sR, hI_eq, hI_ne, hI_nk]; done)) | (focus (simp (disch := omega) only [r0, r5, r16, nI_clamp, vp_in_nI, hT_sI, hR_sI, hT_sJ, hR_sJ, hT_sR, hI_sJ, hI_sR, hJ_sI, hJ_sR, hI_eq, hI_ne, hI_nk]; first | assumption | exact okv3 (by assumption)))) | (focus (refine ⟨_, rfl, ?_⟩; (first | assumption | rfl | exact True.intro | exact Nat.le_of_ble_eq_true rfl | exact Or.inl rfl | exact Or.inr rfl | exact okv3 (by assumption) | decide | (focus (simp (disch := omega) only [r0, r5, r16, nI_clamp, vp_in_nI, hT_sI, hR_sI, hT_sJ, hR_sJ, hT_sR, hI_sJ, hI_sR, hJ_sI, hJ_sR, hI_eq, hI_ne, hI_nk]; done)) | (focus (simp (disch := omega) only [r0, r5, r16, nI_clamp, vp_in_nI, hT_sI, hR_sI, hT_sJ, hR_sJ, hT_sR, hI_sJ, hI_sR, hJ_sI, hJ_sR, hI_eq, hI_ne, hI_nk]; first | assumption | exact okv3 (by assumption)))))))))
  (try simp (disch := omega) only [r0, r5, r16, nI_clamp, vp_in_nI, hT_sI, hR_sI, hT_sJ, hR_sJ, hT_sR, hI_sJ, hI_sR, hJ_sI, hJ_sR, hI_eq, hI_ne, hI_nk])
  repeat (first | (refine rs ?_; conv => whnf) | unfold k_call | ((with_reducible refine And.intro ?_ ?_); (first | (first | assumption | rfl | exact True.intro | exact Nat.le_of_ble_eq_true rfl | exact Or.inl rfl | exact Or.inr rfl | exact okv3 (by assumption) | decide | (focus (simp (disch := omega) only [r0, r5, r16, nI_clamp, vp_in_nI, hT_sI, hR_sI, hT_sJ, hR_sJ, hT_sR, hI_sJ, hI_sR, hJ_sI, hJ_sR, hI_eq, hI_ne, hI_nk]; done)) | (focus (simp (disch := omega) only [r0, r5, r16, nI_clamp, vp_in_nI, hT_sI, hR_sI, hT_sJ, hR_sJ, hT_sR, hI_sJ, hI_sR, hJ_sI, hJ_sR, hI_eq, hI_ne, hI_nk]; first | assumption | exact okv3 (by assumption)))) | (focus (refine ⟨_, rfl, ?_⟩; (first | assumption | rfl | exact True.intro | exact Nat.le_of_ble_eq_true rfl | exact Or.inl rfl | exact Or.inr rfl | exact okv3 (by assumption) | decide | (focus (simp (disch := omega) only [r0, r5, r16, nI_clamp, vp_in_nI, hT_sI, hR_sI, hT_sJ, hR_sJ, hT_sR, hI_sJ, hI_sR, hJ_sI, hJ_sR, hI_eq, hI_ne, hI_nk]; done)) | (focus (simp (disch := omega) only [r0, r5, r16, nI_clamp, vp_in_nI, hT_sI, hR_sI, hT_sJ, hR_sJ, hT_sR, hI_sJ, hI_sR, hJ_sI, hJ_sR, hI_eq, hI_ne, hI_nk]; first | assumption | exact okv3 (by assumption)))))))))
  (try simp (disch := omega) only [r0, r5, r16, nI_clamp, vp_in_nI, hT_sI, hR_sI, hT_sJ, hR_sJ, hT_sR, hI_sJ, hI_sR, hJ_sI, hJ_sR, hI_eq, hI_ne, hI_nk])
  (refine ⟨fun d => ?_, fun d => ?_⟩ <;> (try dsimp only at d))
  · repeat (first | (refine rs ?_; conv => whnf) | unfold k_call | ((with_reducible refine And.intro ?_ ?_); (first | (first | assumption | rfl | exact True.intro | exact Nat.le_of_ble_eq_true rfl | exact Or.inl rfl | exact Or.inr rfl | exact okv3 (by assumption) | decide | (focus (simp (disch := omega) only [r0, r5, r16, nI_clamp, vp_in_nI, hT_sI, hR_sI, hT_sJ, hR_sJ, hT_sR, hI_sJ, hI_sR, hJ_sI, hJ_sR, hI_eq, hI_ne, hI_nk]; done)) | (focus (simp (disch := omega) only [r0, r5, r16, nI_clamp, vp_in_nI, hT_sI, hR_sI, hT_sJ, hR_sJ, hT_sR, hI_sJ, hI_sR, hJ_sI, hJ_sR, hI_eq, hI_ne, hI_nk]; first | assumption | exact okv3 (by assumption)))) | (focus (refine ⟨_, rfl, ?_⟩; (first | assumption | rfl | exact True.intro | exact Nat.le_of_ble_eq_true rfl | exact Or.inl rfl | exact Or.inr rfl | exact okv3 (by assumption) | decide | (focus (simp (disch := omega) only [r0, r5, r16, nI_clamp, vp_in_nI, hT_sI, hR_sI, hT_sJ, hR_sJ, hT_sR, hI_sJ, hI_sR, hJ_sI, hJ_sR, hI_eq, hI_ne, hI_nk]; done)) | (focus (simp (disch := omega) only [r0, r5, r16, nI_clamp, vp_in_nI, hT_sI, hR_sI, hT_sJ, hR_sJ, hT_sR, hI_sJ, hI_sR, hJ_sI, hJ_sR, hI_eq, hI_ne, hI_nk]; first | assumption | exact okv3 (by assumption)))))))))
    (try simp (disch := omega) only [r0, r5, r16, nI_clamp, vp_in_nI, hT_sI, hR_sI, hT_sJ, hR_sJ, hT_sR, hI_sJ, hI_sR, hJ_sI, hJ_sR, hI_eq, hI_ne, hI_nk])
    repeat (first | (refine rs ?_; conv => whnf) | unfold k_call | ((with_reducible refine And.intro ?_ ?_); (first | (first | assumption | rfl | exact True.intro | exact Nat.le_of_ble_eq_true rfl | exact Or.inl rfl | exact Or.inr rfl | exact okv3 (by assumption) | decide | (focus (simp (disch := omega) only [r0, r5, r16, nI_clamp, vp_in_nI, hT_sI, hR_sI, hT_sJ, hR_sJ, hT_sR, hI_sJ, hI_sR, hJ_sI, hJ_sR, hI_eq, hI_ne, hI_nk]; done)) | (focus (simp (disch := omega) only [r0, r5, r16, nI_clamp, vp_in_nI, hT_sI, hR_sI, hT_sJ, hR_sJ, hT_sR, hI_sJ, hI_sR, hJ_sI, hJ_sR, hI_eq, hI_ne, hI_nk]; first | assumption | exact okv3 (by assumption)))) | (focus (refine ⟨_, rfl, ?_⟩; (first | assumption | rfl | exact True.intro | exact Nat.le_of_ble_eq_true rfl | exact Or.inl rfl | exact Or.inr rfl | exact okv3 (by assumption) | decide | (focus (simp (disch := omega) only [r0, r5, r16, nI_clamp, vp_in_nI, hT_sI, hR_sI, hT_sJ, hR_sJ, hT_sR, hI_sJ, hI_sR, hJ_sI, hJ_sR, hI_eq, hI_ne, hI_nk]; done)) | (focus (simp (disch := omega) only [r0, r5, r16, nI_clamp, vp_in_nI, hT_sI, hR_sI, hT_sJ, hR_sJ, hT_sR, hI_sJ, hI_sR, hJ_sI, hJ_sR, hI_eq, hI_ne, hI_nk]; first | assumption | exact okv3 (by assumption)))))))))
    (try simp (disch := omega) only [r0, r5, r16, nI_clamp, vp_in_nI, hT_sI, hR_sI, hT_sJ, hR_sJ, hT_sR, hI_sJ, hI_sR, hJ_sI, hJ_sR, hI_eq, hI_ne, hI_nk])
    exact fin _
  · repeat (first | (refine rs ?_; conv => whnf) | unfold k_call | ((with_reducible refine And.intro ?_ ?_); (first | (first | assumption | rfl | exact True.intro | exact Nat.le_of_ble_eq_true rfl | exact Or.inl rfl | exact Or.inr rfl | exact okv3 (by assumption) | decide | (focus (simp (disch := omega) only [r0, r5, r16, nI_clamp, vp_in_nI, hT_sI, hR_sI, hT_sJ, hR_sJ, hT_sR, hI_sJ, hI_sR, hJ_sI, hJ_sR, hI_eq, hI_ne, hI_nk]; done)) | (focus (simp (disch := omega) only [r0, r5, r16, nI_clamp, vp_in_nI, hT_sI, hR_sI, hT_sJ, hR_sJ, hT_sR, hI_sJ, hI_sR, hJ_sI, hJ_sR, hI_eq, hI_ne, hI_nk]; first | assumption | exact okv3 (by assumption)))) | (focus (refine ⟨_, rfl, ?_⟩; (first | assumption | rfl | exact True.intro | exact Nat.le_of_ble_eq_true rfl | exact Or.inl rfl | exact Or.inr rfl | exact okv3 (by assumption) | decide | (focus (simp (disch := omega) only [r0, r5, r16, nI_clamp, vp_in_nI, hT_sI, hR_sI, hT_sJ, hR_sJ, hT_sR, hI_sJ, hI_sR, hJ_sI, hJ_sR, hI_eq, hI_ne, hI_nk]; done)) | (focus (simp (disch := omega) only [r0, r5, r16, nI_clamp, vp_in_nI, hT_sI, hR_sI, hT_sJ, hR_sJ, hT_sR, hI_sJ, hI_sR, hJ_sI, hJ_sR, hI_eq, hI_ne, hI_nk]; first | assumption | exact okv3 (by assumption)))))))))
    (try simp (disch := omega) only [r0, r5, r16, nI_clamp, vp_in_nI, hT_sI, hR_sI, hT_sJ, hR_sJ, hT_sR, hI_sJ, hI_sR, hJ_sI, hJ_sR, hI_eq, hI_ne, hI_nk])
    repeat (first | (refine rs ?_; conv => whnf) | unfold k_call | ((with_reducible refine And.intro ?_ ?_); (first | (first | assumption | rfl | exact True.intro | exact Nat.le_of_ble_eq_true rfl | exact Or.inl rfl | exact Or.inr rfl | exact okv3 (by assumption) | decide | (focus (simp (disch := omega) only [r0, r5, r16, nI_clamp, vp_in_nI, hT_sI, hR_sI, hT_sJ, hR_sJ, hT_sR, hI_sJ, hI_sR, hJ_sI, hJ_sR, hI_eq, hI_ne, hI_nk]; done)) | (focus (simp (disch := omega) only [r0, r5, r16, nI_clamp, vp_in_nI, hT_sI, hR_sI, hT_sJ, hR_sJ, hT_sR, hI_sJ, hI_sR, hJ_sI, hJ_sR, hI_eq, hI_ne, hI_nk]; first | assumption | exact okv3 (by assumption)))) | (focus (refine ⟨_, rfl, ?_⟩; (first | assumption | rfl | exact True.intro | exact Nat.le_of_ble_eq_true rfl | exact Or.inl rfl | exact Or.inr rfl | exact okv3 (by assumption) | decide | (focus (simp (disch := omega) only [r0, r5, r16, nI_clamp, vp_in_nI, hT_sI, hR_sI, hT_sJ, hR_sJ, hT_sR, hI_sJ, hI_sR, hJ_sI, hJ_sR, hI_eq, hI_ne, hI_nk]; done)) | (focus (simp (disch := omega) only [r0, r5, r16, nI_clamp, vp_in_nI, hT_sI, hR_sI, hT_sJ, hR_sJ, hT_sR, hI_sJ, hI_sR, hJ_sI, hJ_sR, hI_eq, hI_ne, hI_nk]; first | assumption | exact okv3 (by assumption)))))))))
    (try simp (disch := omega) only [r0, r5, r16, nI_clamp, vp_in_nI, hT_sI, hR_sI, hT_sJ, hR_sJ, hT_sR, hI_sJ, hI_sR, hJ_sI, hJ_sR, hI_eq, hI_ne, hI_nk])
    exact fin _
