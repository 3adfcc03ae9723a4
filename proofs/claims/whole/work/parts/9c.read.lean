/-! A READ -/
theorem readsAhead_ok' {n f bl i0 : Nat} {a b : CH} {Q : QT} (R : RR n a b) (hn : n + 4 < 5000) (hp : hI a 300 14 = 1) (hf : f < fcN a) (hm : hmN a f ≤ 112) (hb : bl < 16) (hi0 : i0 < 16) (e0 : hI a (313 + 2 + i0) 0 = nI (hmN a f + bl)) (k : ∀ b', RR (n + 4) (cRA (hmN a f + bl) bl (nI i0) 16 1 a) b' → hR b' 368 i0 = hR b 368 i0 → T0 b b' → Q (.inl []) b') : wX12_readsAhead [.ref 361, .int (nI f), .int (nI bl)] b Q := by
  refine wgo (fun X hX => ?_) (by show 3 ≤ 8; decide)
  have m0 := R.ml.1
  obtain ⟨w, w1, w2⟩ := R.fm.2.2.2.2.2.2.2.1
  have loop := ra_loop (n := n) (x := .null) (y := .null) (z := .null) (p0 := hR b 368 i0) (c := 0) (s := 0) hX hm hb hi0 w1 hn 16 1 a b n (by omega) (by omega) (by omega) R (by omega) (by omega) (by omega) ⟨hp, hf, rfl, w2, e0⟩ rfl k
  (refine go mX12_readsAhead hX [12] 400 ?_; conv => whnf)
  repeat (first | (refine rs ?_; conv => whnf) | unfold k_call | ((with_reducible refine And.intro ?_ ?_); (first | (first | assumption | rfl | exact True.intro | exact Nat.le_of_ble_eq_true rfl | exact Or.inl rfl | exact Or.inr rfl | exact okv3 (by assumption) | decide | (focus (simp (disch := omega) only [m0, nI_clamp, vp_in_nI, hT_sI, hR_sI, hT_sJ, hR_sJ, hT_sR, hI_sJ, hI_sR, hJ_sI, hJ_sR, hI_eq, hI_ne, hI_nk]; done)) | (focus (simp (disch := omega) only [m0, nI_clamp, vp_in_nI, hT_sI, hR_sI, hT_sJ, hR_sJ, hT_sR, hI_sJ, hI_sR, hJ_sI, hJ_sR, hI_eq, hI_ne, hI_nk]; first | assumption | exact okv3 (by assumption)))) | (focus (refine ⟨_, rfl, ?_⟩; (first | assumption | rfl | exact True.intro | exact Nat.le_of_ble_eq_true rfl | exact Or.inl rfl | exact Or.inr rfl | exact okv3 (by assumption) | decide | (focus (simp (disch := omega) only [m0, nI_clamp, vp_in_nI, hT_sI, hR_sI, hT_sJ, hR_sJ, hT_sR, hI_sJ, hI_sR, hJ_sI, hJ_sR, hI_eq, hI_ne, hI_nk]; done)) | (focus (simp (disch := omega) only [m0, nI_clamp, vp_in_nI, hT_sI, hR_sI, hT_sJ, hR_sJ, hT_sR, hI_sJ, hI_sR, hJ_sI, hJ_sR, hI_eq, hI_ne, hI_nk]; first | assumption | exact okv3 (by assumption)))))))))
  refine placeOf_ok (bl := bl) R hf hm ?_
  repeat (first | (refine rs ?_; conv => whnf) | unfold k_call | ((with_reducible refine And.intro ?_ ?_); (first | (first | assumption | rfl | exact True.intro | exact Nat.le_of_ble_eq_true rfl | exact Or.inl rfl | exact Or.inr rfl | exact okv3 (by assumption) | decide | (focus (simp (disch := omega) only [m0, nI_clamp, vp_in_nI, hT_sI, hR_sI, hT_sJ, hR_sJ, hT_sR, hI_sJ, hI_sR, hJ_sI, hJ_sR, hI_eq, hI_ne, hI_nk]; done)) | (focus (simp (disch := omega) only [m0, nI_clamp, vp_in_nI, hT_sI, hR_sI, hT_sJ, hR_sJ, hT_sR, hI_sJ, hI_sR, hJ_sI, hJ_sR, hI_eq, hI_ne, hI_nk]; first | assumption | exact okv3 (by assumption)))) | (focus (refine ⟨_, rfl, ?_⟩; (first | assumption | rfl | exact True.intro | exact Nat.le_of_ble_eq_true rfl | exact Or.inl rfl | exact Or.inr rfl | exact okv3 (by assumption) | decide | (focus (simp (disch := omega) only [m0, nI_clamp, vp_in_nI, hT_sI, hR_sI, hT_sJ, hR_sJ, hT_sR, hI_sJ, hI_sR, hJ_sI, hJ_sR, hI_eq, hI_ne, hI_nk]; done)) | (focus (simp (disch := omega) only [m0, nI_clamp, vp_in_nI, hT_sI, hR_sI, hT_sJ, hR_sJ, hT_sR, hI_sJ, hI_sR, hJ_sI, hJ_sR, hI_eq, hI_ne, hI_nk]; first | assumption | exact okv3 (by assumption)))))))))
  show X 12 [.ref 361, .int (nI f), .int (nI bl), .int (nI (hmN a f + bl)), .int (nI bl + 1), .null, .null, .null] [] b 0 0
  rw [nI_1]
  exact loop
def eIob : String := "java/lang/IndexOutOfBoundsException"
def Ans (o : List Value ⊕ String) (L : List (String × Int32)) (t r : Int32) : Prop := match o with
  | .inl vs => t = 0 ∧ vs = [.int r]
  | .inr E => (E, t) ∈ L
theorem hit_oth {a : CH} {hit : Int32} {x k : Nat} (h : ¬ x = 358) : hI (cHit a hit) x k = hI a x k := by
  unfold cHit
  split <;> rw [hI_ne h]
theorem cnt_oth {a : CH} {pg hit : Int32} {x k : Nat} (h1 : ¬ x = 358) (h2 : ¬ (x = 335 ∧ k = 1)) (h3 : ¬ x = 336) : hI (cCnt a pg hit) x k = hI a x k := by
  unfold cCnt
  rw [tadd_oth h2 h3, hit_oth h1]
theorem cp_comm {h : CH} {j : Nat} {v : Int32} : cpI (sI h 358 j v) 336 336 1 0 99 = sI (cpI h 336 336 1 0 99) 358 j v := by
  refine CH_ext rfl rfl ?_ rfl rfl rfl
  funext x k
  show hI (cpI (sI h 358 j v) 336 336 1 0 99) x k = hI (sI (cpI h 336 336 1 0 99) 358 j v) x k
  rw [hI_cpI, hI_sI (cpI h 336 336 1 0 99) 358 j v x k, hI_cpI]
  have e : hI (sI h 358 j v) 336 = hI h 336 := funext fun k => hI_ne (by omega)
  rw [e]
  by_cases c : x = 336
  · rw [if_pos c, if_neg (by omega), if_pos c]
  · rw [if_neg c, if_neg c, hI_sI]
theorem tadd_comm {h : CH} {n j : Nat} {pg v : Int32} : cTAdd (sI h 358 j v) 335 n pg = sI (cTAdd h 335 n pg) 358 j v := by
  unfold cTAdd
  split
  · rw [cp_comm, sI_comm (a := 358) (b := 335) (by omega), sI_comm (a := 358) (b := 335 + 1) (by omega), sI_comm (a := 358) (b := 335) (by omega)]
  · rw [sI_comm (a := 358) (b := 335 + 1) (by omega), sI_comm (a := 358) (b := 335) (by omega)]
theorem count_none {a : CH} {f b : Nat} : cCount a f b none = cCnt a (nI (f * 16 + b)) 0 := by
  unfold cCount cCnt cHit
  dsimp only
  rw [if_pos rfl, tadd_comm, tadd_oth (by omega) (by omega)]
theorem count_some {a : CH} {f b i : Nat} : cCount a f b (some i) = cAh (cCnt a (nI (f * 16 + b)) 1) i := by
  unfold cCount cCnt cHit cAh
  dsimp only
  rw [if_neg (show ¬ (1 : Int32) = 0 by decide), tadd_comm, tadd_oth (by omega) (by omega)]
theorem ah_comm {a : CH} {i x k : Nat} {v : Int32} (h1 : ¬ x = 313 + 2 + i) (h2 : ¬ x = 358) : sI (cAh a i) x k v = cAh (sI a x k v) i := by
  unfold cAh
  rw [hI_ne (fun z => h1 z.symm), hI_ne (fun z => h2 z.symm)]
  split
  · rfl
  · rw [sI_comm (a := 358) (b := x) (by omega), sI_comm (a := 313 + 2 + i) (b := x) (by omega)]
theorem RR_last {n f bl : Nat} {a b : CH} (R : RR n a b) (hb : bl < 16) (h8 : f < 8) : RR n (sI a 312 f (nI bl)) (sI b 366 f (nI bl)) := by
  have m16 : hT b 366 = (100, 8) := R.ml.2.2.2.2.2.2.2.2.2.2.2.2.2.2.2.2.1
  have m23 := R.ml.2.2.2.2.2.2.2.2.2.2.2.2.2.2.2.2.2.2.2.2.2.2.2
  obtain ⟨t, t1, t2, t3, t4, t5⟩ := R.tm
  have ea : ∀ x k, ¬ x = 312 → hI (sI a 312 f (nI bl)) x k = hI a x k := fun x k q => hI_ne q
  have eb : ∀ x k, ¬ x = 366 → hI (sI b 366 f (nI bl)) x k = hI b x k := fun x k q => hI_ne q
  refine RR.of (House_sI R.hs (OkC_of (by omega)) (by omega)) (MLay_cg R.ml (fun _ _ _ => rfl) (fun _ => rfl) (Nat.le_refl _)) (Sc_cg R.sc (fun x k q => ea _ _ (by omega)) (fun k hk => eb _ _ (by omega))) (Vl_cg R.vl (fun x k h1 h2 h3 h4 => ea _ _ (by omega)) (fun x k h1 h2 => eb _ _ (by omega))) (Bl_cg R.bl (fun _ _ => rfl) (fun _ _ => rfl)) (Lg_cg R.lg (fun x k h1 h2 => ea _ _ (by omega)) (fun k hk => eb _ _ (by omega))) ?_ (Tr_cg R.tr (fun x k q => ea _ _ (by omega)) (eb _ _ (by omega)) rfl (Nat.le_refl _) (fun _ _ => ⟨rfl, fun _ => rfl⟩)) (Im_cg2 R.im rfl rfl (fun x k q => ea _ _ (by omega)) (fun _ _ _ => rfl) (Nat.le_refl _) m23 (eb _ _ (by omega)) rfl (fun _ _ _ => rfl) (fun _ _ _ _ _ => rfl) (fun x k h1 h2 h3 => eb _ _ (by omega))) R.dl ⟨t, t1, t2, (ea _ _ (by omega)).trans t3, t4, fun i hi => FrM_cg (t5 i hi) (Nat.le_refl _) (Nat.le_refl _) (fun k => ea _ _ (by omega)) (fun q => ⟨(cVal_cg (fr_sp R hi q).2 (fun x k h1 h2 h3 h4 => ea _ _ (by omega))).2, ea _ _ (by omega)⟩) rfl (fun h1 h2 h3 => ⟨h3, fun k => eb _ _ (by omega), fun _ => rfl⟩)⟩ (Fm_cg R.fm (fun x k q => ea _ _ (by omega)))
  obtain ⟨c0, c1, f1, f2, f3, f4, f5, f6, f7, f8, f9⟩ := R.fi
  refine ⟨c0, c1, f1, f2, (ea _ _ (by omega)).trans f3, (ea _ _ (by omega)).trans f4, (eb _ _ (by omega)).trans f5, (eb _ _ (by omega)).trans f6, f7, BoxL_cg f8 (eb _ _ (by omega)) rfl (fun i _ => rfl) (Nat.le_refl _) (fun _ _ => ⟨rfl, fun _ => rfl⟩), fun g hg => ?_⟩
  rw [hI_sI, hI_sI]
  by_cases c : g = f
  · rw [if_pos ⟨rfl, c⟩, if_pos ⟨rfl, c⟩]
    exact Or.inr ⟨bl, hb, rfl, rfl⟩
  · rw [if_neg (fun z => c z.2), if_neg (fun z => c z.2)]
    exact f9 g hg
theorem next_iff {n f bl : Nat} {a b : CH} (R : RR n a b) (hf : f < fcN a) (hb : bl < 16) : nI bl = hI b 366 f + 1 ↔ hI a 312 f + 1 = nI bl := by
  obtain ⟨c0, c1, f1, f2, f3, f4, f5, f6, f7, f8, f9⟩ := R.fi
  rcases f9 f hf with ⟨q1, q2⟩ | ⟨k, k1, q1, q2⟩
  · rw [q1, q2]
    have n1 : ∀ x : Int32, x < 0 → ¬ nI bl = x := fun x h e => by
      rw [← e] at h
      exact nI_pos (by omega) h
    exact ⟨fun z => absurd z (n1 _ (by decide)), fun z => absurd z.symm (n1 _ (by decide))⟩
  · rw [q1, q2]
    exact ⟨fun z => z.symm, fun z => z.symm⟩
theorem pow01 {n : Nat} {a b : CH} (R : RR n a b) : hI a 300 14 = 0 ∨ hI a 300 14 = 1 := by
  rcases R.fm.2.2.2.1 with h | h
  · exact Or.inl h.1
  · exact Or.inr h.1
/-- what a read's last pages bring -/
theorem pg_val {n i : Nat} {a b : CH} (R : RR n a b) (hi : i < 16) (q : ¬ hR b 368 i = 0) : hI b (hR b 368 i) 1 = hI a (313 + 2 + i) 1 := by
  obtain ⟨t, ht, P⟩ := pgR R hi q
  exact P.vl
theorem takeF_free {n i : Nat} {a b : CH} (R : RR n a b) (e : (cTakeF a).2 = some i) : i < nN a ∧ hI (cTakeF a).1 (313 + 2 + i) 0 = -1 := by
  unfold cTakeF at e ⊢
  cases el : lst (frP a 313) (nN a) with
  | some j =>
    rw [el] at e
    dsimp only at e ⊢
    cases e
    exact ⟨(lst_some el).1, of_decide_eq_true (lst_some el).2⟩
  | none =>
    rw [el] at e
    dsimp only at e ⊢
    cases ec : (cChoose a 313 (nN a) (hdN a) (hI a 300 10) 0 (-1)).2 with
    | none => rw [ec] at e; cases e
    | some j =>
      rw [ec] at e
      dsimp only at e ⊢
      have hz := cChoose_some R.ln.2.1 R.ln.1 ec
      generalize (cChoose a 313 (nN a) (hdN a) (hI a 300 10) 0 (-1)).1 = g at e ⊢
      by_cases c : ¬ hI g (313 + 2 + j) 3 = 0 ∧ Falls g
      · rw [if_pos c] at e; cases e
      · rw [if_neg c] at e ⊢
        cases e
        refine ⟨hz.1, ?_⟩
        unfold cEv
        split <;> exact hI_drop0.1
/-- what takes leaves of the rest -/
def RdI (a : CH) (f hm : Nat) : Prop := f < fcN a ∧ hmN a f = hm
theorem tick_low {a : CH} {x k : Nat} (h : x = 310 ∨ x = 311 ∨ (x = 313 ∧ k = 1)) : hI (cTick a) x k = hI a x k := tick_oth (by omega)
theorem ev_low {g : CH} {t i sp x k : Nat} (hi : i < 16) (h : x = 310 ∨ x = 311 ∨ (x = 313 ∧ k = 1)) : hI (cEv g t i sp) x k = hI g x k ∨ ¬ sp < 128 := by
  by_cases hs : sp < 128
  · left
    unfold cEv
    split
    · rw [hI_drop (by omega)]
    · rw [hI_drop (by omega), flu_eq (by omega) (by omega), hI_ne (by omega), fgt_oth (by omega) (by omega)]
      unfold cPut
      rw [hI_ne (by omega), hI_ne (by omega), hI_ne (by omega), hI_rdP (by omega), tick_low h]
  · exact Or.inr hs
theorem takeF_low {n x k : Nat} {a b : CH} (R : RR n a b) (h : x = 310 ∨ x = 311 ∨ (x = 313 ∧ k = 1)) : hI (cTakeF a).1 x k = hI a x k := by
  unfold cTakeF
  cases el : lst (frP a 313) (nN a) with
  | some j => rfl
  | none =>
    dsimp only
    have H := ho_choose (h := a) (n := nN a) (hd := hdN a) (pol := hI a 300 10) (cl := 0) (aside := -1) R.ln.2.1 R.ln.1
    cases ec : (cChoose a 313 (nN a) (hdN a) (hI a 300 10) 0 (-1)).2 with
    | none => exact H.2.2.2.1 _ _ (by omega) (by omega)
    | some j =>
      dsimp only
      have hz := cChoose_some R.ln.2.1 R.ln.1 ec
      have h16 := R.ln.1
      have hS := SpL_ho H (Hse_sp R.hs.1) j (by omega)
      have hc := (CanGo_ho H).mpr hz.2
      have e := H.2.2.2.1 x k (by omega) (by omega)
      generalize (cChoose a 313 (nN a) (hdN a) (hI a 300 10) 0 (-1)).1 = g at e hS hc ⊢
      rw [← e]
      split
      · rw [hI_lose, if_neg (by omega), if_neg (by omega), if_neg (by omega), tick_low h]
      · rcases hS with q | q
        · exact absurd hc.1 (by rw [q]; decide)
        · exact (ev_low (by omega) h).resolve_right (fun z => z q.2)
