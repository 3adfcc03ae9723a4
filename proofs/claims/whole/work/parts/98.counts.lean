/-! AN ACCESS COUNTED, A PAGE USED: walked -/
theorem RR_cnt {n k j : Nat} {a b : CH} {v : Int32} (R : RR n a b) (h : (k, 358, j) ∈ scl) : RR n (sI a 358 j v) (sI b 361 k v) :=
  RR_scal R (House_sI R.hs (OkC_of (by omega)) (by omega)) rfl rfl (fun _ => rfl) (fun x k q1 q2 q3 q4 q5 => hI_ne q5) rfl rfl rfl rfl (fun x k q => hI_ne q) (Sc_set R.sc h) (Fm_cg R.fm (fun x k q => hI_ne (by omega)))
def cHit (a : CH) (hit : Int32) : CH := if hit = 0 then sI a 358 1 (hI a 358 1 + 1) else sI a 358 0 (hI a 358 0 + 1)
def mHit (b : CH) (hit : Int32) : CH := if hit = 0 then sI (sI b 361 23 (hI b 361 23 + 0)) 361 24 (hI b 361 24 + 1) else sI (sI b 361 23 (hI b 361 23 + 1)) 361 24 (hI b 361 24 + 0)
theorem RR_hit {n : Nat} {a b : CH} {hit : Int32} (R : RR n a b) : RR n (cHit a hit) (mHit b hit) := by
  have e23 : hI b 361 23 = hI a 358 0 := R.sc 23 358 0 (by decide)
  have e24 : hI b 361 24 = hI a 358 1 := R.sc 24 358 1 (by decide)
  unfold cHit mHit
  by_cases c : hit = 0
  · rw [if_pos c, if_pos c, Int32.add_zero, sI_id (h := b) (a := 361) (k := 23) rfl, e24]
    exact RR_cnt R (by decide)
  · rw [if_neg c, if_neg c, Int32.add_zero, e23, sI_id (h := sI b 361 23 (hI a 358 0 + 1)) (a := 361) (k := 24) (v := hI b 361 24) (hI_nk (by omega))]
    exact RR_cnt R (by decide)
theorem tadd_oth {a : CH} {n x k : Nat} {pg : Int32} (h1 : ¬ (x = 335 ∧ k = 1)) (h2 : ¬ x = 336) : hI (cTAdd a 335 n pg) x k = hI a x k := hI_tadd h1 h2
theorem trV_add {a : CH} {n w : Nat} (hn : trN a = n) (h100 : n ≤ 100) (hw : w < 128) : trN (cTAdd a 335 n (nI w)) = (if n = 100 then 100 else n + 1) ∧ ∀ i, trV (cTAdd a 335 n (nI w)) i = if n = 100 then (if i = 99 then w else if i < 99 then trV a (i + 1) else trV a i) else if i = n then w else trV a i := by
  constructor
  · unfold trN
    rw [tadd_len]
    split <;> exact nI_clamp (by omega)
  · intro i
    unfold trV
    rw [tadd_row h100]
    split
    · split
      · exact nI_clamp (by omega)
      · split <;> rfl
    · split
      · exact nI_clamp (by omega)
      · rfl
theorem TrP_add {a : CH} {w : Nat} (T : TrP a) (h100 : trN a ≤ 100) (hw : w < 128) : TrP (cTAdd a 335 (trN a) (nI w)) := fun i hi => by
  rw [(trV_add (w := w) rfl h100 hw).1] at hi
  rw [tadd_row h100]
  by_cases c : trN a = 100
  · rw [if_pos c] at hi ⊢
    by_cases d : i = 99
    · rw [if_pos d, nI_clamp (by omega)]
      exact ⟨rfl, hw⟩
    · rw [if_neg d, if_pos (by omega)]
      exact T _ (by omega)
  · rw [if_neg c] at hi ⊢
    by_cases d : i = trN a
    · rw [if_pos d, nI_clamp (by omega)]
      exact ⟨rfl, hw⟩
    · rw [if_neg d]
      exact T _ (by omega)
def cCnt (a : CH) (pg hit : Int32) : CH := cTAdd (cHit a hit) 335 (trN a) pg
theorem hit_tr {a : CH} {hit : Int32} : trN (cHit a hit) = trN a := by
  unfold cHit trN
  split <;> rw [hI_ne (by omega)]
theorem counts_ok {n f bl : Nat} {a b : CH} {hit : Int32} {Q : QT} (R : RR n a b) (hf : f < 8) (hb : bl < 16) (hh : hit = 0 ∨ hit = 1) (k : ∀ b', RR n (cCnt a (nI (f * 16 + bl)) hit) b' → T0 b b' → Q (.inl []) b') : wX12_counts [.ref 361, .int (nI f), .int (nI bl), .int hit] b Q := by
  refine wgo (fun X hX => ?_) (by show 4 ≤ 5; decide)
  have R1 := RR_hit (hit := hit) R
  have htr := hit_tr (a := a) (hit := hit)
  have TH : T0 b (mHit b hit) := by
    unfold T0 mHit
    split <;> rw [hI_nk (by omega), hI_nk (by omega)]
  have main : X 36 [.ref 361, .int (nI f), .int (nI bl), .int hit, .null] [] (mHit b hit) 0 0 := by
    unfold cCnt at k
    rw [← htr] at k
    clear htr
    generalize cHit a hit = A at R1 k
    generalize mHit b hit = B at R1 TH ⊢
    obtain ⟨m0, m1, m2, m3, m4, m5, m6, m7, m8, m9, m10, m11, m12, m13, m14, m15, m16, m17, m18, m19, m20, m21, m22, m23⟩ := id R1.ml
    have ht := (Hse_tr R1.hs.1).2
    have ew : nI 16 * nI f + nI bl = nI (f * 16 + bl) := by
      rw [show nI 16 * nI f = nI (16 * f) from (Int32.ofNat_mul _ _).symm, nI_add, Nat.mul_comm]
    (refine go mX12_counts hX [] 400 ?_; conv => whnf)
    repeat (first | (refine rs ?_; conv => whnf) | unfold k_call | ((with_reducible refine And.intro ?_ ?_); (first | (first | assumption | rfl | exact True.intro | exact Nat.le_of_ble_eq_true rfl | exact Or.inl rfl | exact Or.inr rfl | exact okv3 (by assumption) | decide | (focus (simp (disch := omega) only [m0, m11, nI_clamp, vp_in_nI, hT_sI, hR_sI, hT_sJ, hR_sJ, hT_sR, hI_sJ, hI_sR, hJ_sI, hJ_sR, hI_eq, hI_ne, hI_nk]; done)) | (focus (simp (disch := omega) only [m0, m11, nI_clamp, vp_in_nI, hT_sI, hR_sI, hT_sJ, hR_sJ, hT_sR, hI_sJ, hI_sR, hJ_sI, hJ_sR, hI_eq, hI_ne, hI_nk]; first | assumption | exact okv3 (by assumption)))) | (focus (refine ⟨_, rfl, ?_⟩; (first | assumption | rfl | exact True.intro | exact Nat.le_of_ble_eq_true rfl | exact Or.inl rfl | exact Or.inr rfl | exact okv3 (by assumption) | decide | (focus (simp (disch := omega) only [m0, m11, nI_clamp, vp_in_nI, hT_sI, hR_sI, hT_sJ, hR_sJ, hT_sR, hI_sJ, hI_sR, hJ_sI, hJ_sR, hI_eq, hI_ne, hI_nk]; done)) | (focus (simp (disch := omega) only [m0, m11, nI_clamp, vp_in_nI, hT_sI, hR_sI, hT_sJ, hR_sJ, hT_sR, hI_sJ, hI_sR, hJ_sI, hJ_sR, hI_eq, hI_ne, hI_nk]; first | assumption | exact okv3 (by assumption)))))))))
    (try simp (disch := omega) only [m0, m11, nI_clamp, vp_in_nI, hT_sI, hR_sI, hT_sJ, hR_sJ, hT_sR, hI_sJ, hI_sR, hJ_sI, hJ_sR, hI_eq, hI_ne, hI_nk])
    show wJ6_valueOf_2dffe [.int (nI 16 * nI f + nI bl)] B _
    rw [ew]
    refine valueOf_ok (by omega) ?_
    repeat (first | (refine rs ?_; conv => whnf) | unfold k_call | ((with_reducible refine And.intro ?_ ?_); (first | (first | assumption | rfl | exact True.intro | exact Nat.le_of_ble_eq_true rfl | exact Or.inl rfl | exact Or.inr rfl | exact okv3 (by assumption) | decide | (focus (simp (disch := omega) only [m0, m11, nI_clamp, vp_in_nI, hT_sI, hR_sI, hT_sJ, hR_sJ, hT_sR, hI_sJ, hI_sR, hJ_sI, hJ_sR, hI_eq, hI_ne, hI_nk]; done)) | (focus (simp (disch := omega) only [m0, m11, nI_clamp, vp_in_nI, hT_sI, hR_sI, hT_sJ, hR_sJ, hT_sR, hI_sJ, hI_sR, hJ_sI, hJ_sR, hI_eq, hI_ne, hI_nk]; first | assumption | exact okv3 (by assumption)))) | (focus (refine ⟨_, rfl, ?_⟩; (first | assumption | rfl | exact True.intro | exact Nat.le_of_ble_eq_true rfl | exact Or.inl rfl | exact Or.inr rfl | exact okv3 (by assumption) | decide | (focus (simp (disch := omega) only [m0, m11, nI_clamp, vp_in_nI, hT_sI, hR_sI, hT_sJ, hR_sJ, hT_sR, hI_sJ, hI_sR, hJ_sI, hJ_sR, hI_eq, hI_ne, hI_nk]; done)) | (focus (simp (disch := omega) only [m0, m11, nI_clamp, vp_in_nI, hT_sI, hR_sI, hT_sJ, hR_sJ, hT_sR, hI_sJ, hI_sR, hJ_sI, hJ_sR, hI_eq, hI_ne, hI_nk]; first | assumption | exact okv3 (by assumption)))))))))
    refine box_add (n := trN A) (f := trV A) (caps := caps7) m22 (by omega) (by omega) m23 R1.tr.2 (w := f * 16 + bl) (by omega) (by decide) (by decide) (fun c hc e => ?_) (fun b1 B1 L1 => ?_)
    · have h3 : c = 10 ∨ c = 15 ∨ c = 22 ∨ c = 33 ∨ c = 49 ∨ c = 73 ∨ c = 109 := by simpa [caps7] using hc
      rcases h3 with h | h | h | h | h | h | h
      · subst h; rw [e]; decide
      · subst h; rw [e]; decide
      · subst h; rw [e]; decide
      · subst h; rw [e]; decide
      · subst h; rw [e]; decide
      · subst h; rw [e]; decide
      · omega
    · have r0 : (hT b1 361).1 = 16 := by rw [L1.2.1 _ (by omega)]; exact m0
      have r22 : (hT b1 372).1 = 3 := by rw [L1.2.1 _ (by omega)]; exact m22
      have a3 : hR B 372 1 = 257 ∨ (373 ≤ hR B 372 1 ∧ hR B 372 1 < hN B ∧ (hT B (hR B 372 1)).1 = 108) := box_arr R1.tr.2
      have r11 : hR b1 361 22 = 372 := by rw [L1.2.2.2.2.1 _ _ (by omega) (by omega) (by omega)]; exact m11
      have z1 := trV_add (a := A) (n := trN A) (w := f * 16 + bl) rfl ht (by omega)
      have tp := TrP_add (w := f * 16 + bl) R1.tr.1 ht (by omega)
      have H' : House (cTAdd A 335 (trN A) (nI (f * 16 + bl))) := ⟨Hse_tadd R1.hs.1, Hol_cg (fun i k hi _ => tadd_oth (by omega) (by omega)) R1.hs.2⟩
      have q1 := tadd_T (a := A) (n := trN A) (pg := nI (f * 16 + bl))
      have q2 : ∀ x k, ¬ (x = 335 ∧ k = 1) → ¬ x = 336 → hI (cTAdd A 335 (trN A) (nI (f * 16 + bl))) x k = hI A x k := fun x k => tadd_oth
      generalize cTAdd A 335 (trN A) (nI (f * 16 + bl)) = A' at k z1 tp H' q1 q2
      clear m0 m11
      repeat (first | (refine rs ?_; conv => whnf) | unfold k_call | ((with_reducible refine And.intro ?_ ?_); (first | (first | assumption | rfl | exact True.intro | exact Nat.le_of_ble_eq_true rfl | exact Or.inl rfl | exact Or.inr rfl | exact okv3 (by assumption) | decide | (focus (simp (disch := omega) only [r0, r11, nI_clamp, vp_in_nI, hT_sI, hR_sI, hT_sJ, hR_sJ, hT_sR, hI_sJ, hI_sR, hJ_sI, hJ_sR, hI_eq, hI_ne, hI_nk]; done)) | (focus (simp (disch := omega) only [r0, r11, nI_clamp, vp_in_nI, hT_sI, hR_sI, hT_sJ, hR_sJ, hT_sR, hI_sJ, hI_sR, hJ_sI, hJ_sR, hI_eq, hI_ne, hI_nk]; first | assumption | exact okv3 (by assumption)))) | (focus (refine ⟨_, rfl, ?_⟩; (first | assumption | rfl | exact True.intro | exact Nat.le_of_ble_eq_true rfl | exact Or.inl rfl | exact Or.inr rfl | exact okv3 (by assumption) | decide | (focus (simp (disch := omega) only [r0, r11, nI_clamp, vp_in_nI, hT_sI, hR_sI, hT_sJ, hR_sJ, hT_sR, hI_sJ, hI_sR, hJ_sI, hJ_sR, hI_eq, hI_ne, hI_nk]; done)) | (focus (simp (disch := omega) only [r0, r11, nI_clamp, vp_in_nI, hT_sI, hR_sI, hT_sJ, hR_sJ, hT_sR, hI_sJ, hI_sR, hJ_sI, hJ_sR, hI_eq, hI_ne, hI_nk]; first | assumption | exact okv3 (by assumption)))))))))
      (try simp (disch := omega) only [r0, r11, nI_clamp, vp_in_nI, hT_sI, hR_sI, hT_sJ, hR_sJ, hT_sR, hI_sJ, hI_sR, hJ_sI, hJ_sR, hI_eq, hI_ne, hI_nk])
      repeat (first | (refine rs ?_; conv => whnf) | unfold k_call | ((with_reducible refine And.intro ?_ ?_); (first | (first | assumption | rfl | exact True.intro | exact Nat.le_of_ble_eq_true rfl | exact Or.inl rfl | exact Or.inr rfl | exact okv3 (by assumption) | decide | (focus (simp (disch := omega) only [r0, r11, nI_clamp, vp_in_nI, hT_sI, hR_sI, hT_sJ, hR_sJ, hT_sR, hI_sJ, hI_sR, hJ_sI, hJ_sR, hI_eq, hI_ne, hI_nk]; done)) | (focus (simp (disch := omega) only [r0, r11, nI_clamp, vp_in_nI, hT_sI, hR_sI, hT_sJ, hR_sJ, hT_sR, hI_sJ, hI_sR, hJ_sI, hJ_sR, hI_eq, hI_ne, hI_nk]; first | assumption | exact okv3 (by assumption)))) | (focus (refine ⟨_, rfl, ?_⟩; (first | assumption | rfl | exact True.intro | exact Nat.le_of_ble_eq_true rfl | exact Or.inl rfl | exact Or.inr rfl | exact okv3 (by assumption) | decide | (focus (simp (disch := omega) only [r0, r11, nI_clamp, vp_in_nI, hT_sI, hR_sI, hT_sJ, hR_sJ, hT_sR, hI_sJ, hI_sR, hJ_sI, hJ_sR, hI_eq, hI_ne, hI_nk]; done)) | (focus (simp (disch := omega) only [r0, r11, nI_clamp, vp_in_nI, hT_sI, hR_sI, hT_sJ, hR_sJ, hT_sR, hI_sJ, hI_sR, hJ_sI, hJ_sR, hI_eq, hI_ne, hI_nk]; first | assumption | exact okv3 (by assumption)))))))))
      refine lsize_ok r22 ?_
      repeat (first | (refine rs ?_; conv => whnf) | unfold k_call | ((with_reducible refine And.intro ?_ ?_); (first | (first | assumption | rfl | exact True.intro | exact Nat.le_of_ble_eq_true rfl | exact Or.inl rfl | exact Or.inr rfl | exact okv3 (by assumption) | decide | (focus (simp (disch := omega) only [r0, r11, nI_clamp, vp_in_nI, hT_sI, hR_sI, hT_sJ, hR_sJ, hT_sR, hI_sJ, hI_sR, hJ_sI, hJ_sR, hI_eq, hI_ne, hI_nk]; done)) | (focus (simp (disch := omega) only [r0, r11, nI_clamp, vp_in_nI, hT_sI, hR_sI, hT_sJ, hR_sJ, hT_sR, hI_sJ, hI_sR, hJ_sI, hJ_sR, hI_eq, hI_ne, hI_nk]; first | assumption | exact okv3 (by assumption)))) | (focus (refine ⟨_, rfl, ?_⟩; (first | assumption | rfl | exact True.intro | exact Nat.le_of_ble_eq_true rfl | exact Or.inl rfl | exact Or.inr rfl | exact okv3 (by assumption) | decide | (focus (simp (disch := omega) only [r0, r11, nI_clamp, vp_in_nI, hT_sI, hR_sI, hT_sJ, hR_sJ, hT_sR, hI_sJ, hI_sR, hJ_sI, hJ_sR, hI_eq, hI_ne, hI_nk]; done)) | (focus (simp (disch := omega) only [r0, r11, nI_clamp, vp_in_nI, hT_sI, hR_sI, hT_sJ, hR_sJ, hT_sR, hI_sJ, hI_sR, hJ_sI, hJ_sR, hI_eq, hI_ne, hI_nk]; first | assumption | exact okv3 (by assumption)))))))))
      rw [B1.1]
      by_cases c : trN A = 100
      · rw [if_pos c] at z1
        refine br_f (by rw [c]; decide) ?_
        repeat (first | (refine rs ?_; conv => whnf) | unfold k_call | ((with_reducible refine And.intro ?_ ?_); (first | (first | assumption | rfl | exact True.intro | exact Nat.le_of_ble_eq_true rfl | exact Or.inl rfl | exact Or.inr rfl | exact okv3 (by assumption) | decide | (focus (simp (disch := omega) only [r0, r11, nI_clamp, vp_in_nI, hT_sI, hR_sI, hT_sJ, hR_sJ, hT_sR, hI_sJ, hI_sR, hJ_sI, hJ_sR, hI_eq, hI_ne, hI_nk]; done)) | (focus (simp (disch := omega) only [r0, r11, nI_clamp, vp_in_nI, hT_sI, hR_sI, hT_sJ, hR_sJ, hT_sR, hI_sJ, hI_sR, hJ_sI, hJ_sR, hI_eq, hI_ne, hI_nk]; first | assumption | exact okv3 (by assumption)))) | (focus (refine ⟨_, rfl, ?_⟩; (first | assumption | rfl | exact True.intro | exact Nat.le_of_ble_eq_true rfl | exact Or.inl rfl | exact Or.inr rfl | exact okv3 (by assumption) | decide | (focus (simp (disch := omega) only [r0, r11, nI_clamp, vp_in_nI, hT_sI, hR_sI, hT_sJ, hR_sJ, hT_sR, hI_sJ, hI_sR, hJ_sI, hJ_sR, hI_eq, hI_ne, hI_nk]; done)) | (focus (simp (disch := omega) only [r0, r11, nI_clamp, vp_in_nI, hT_sI, hR_sI, hT_sJ, hR_sJ, hT_sR, hI_sJ, hI_sR, hJ_sI, hJ_sR, hI_eq, hI_ne, hI_nk]; first | assumption | exact okv3 (by assumption)))))))))
        (try simp (disch := omega) only [r0, r11, nI_clamp, vp_in_nI, hT_sI, hR_sI, hT_sJ, hR_sJ, hT_sR, hI_sJ, hI_sR, hJ_sI, hJ_sR, hI_eq, hI_ne, hI_nk])
        rw [c] at B1
        refine box_rem (n := 99) r22 (by omega) B1 (by decide) (fun b2 B2 L2 => ?_)
        repeat (first | (refine rs ?_; conv => whnf) | unfold k_call | ((with_reducible refine And.intro ?_ ?_); (first | (first | assumption | rfl | exact True.intro | exact Nat.le_of_ble_eq_true rfl | exact Or.inl rfl | exact Or.inr rfl | exact okv3 (by assumption) | decide | (focus (simp (disch := omega) only [r0, r11, nI_clamp, vp_in_nI, hT_sI, hR_sI, hT_sJ, hR_sJ, hT_sR, hI_sJ, hI_sR, hJ_sI, hJ_sR, hI_eq, hI_ne, hI_nk]; done)) | (focus (simp (disch := omega) only [r0, r11, nI_clamp, vp_in_nI, hT_sI, hR_sI, hT_sJ, hR_sJ, hT_sR, hI_sJ, hI_sR, hJ_sI, hJ_sR, hI_eq, hI_ne, hI_nk]; first | assumption | exact okv3 (by assumption)))) | (focus (refine ⟨_, rfl, ?_⟩; (first | assumption | rfl | exact True.intro | exact Nat.le_of_ble_eq_true rfl | exact Or.inl rfl | exact Or.inr rfl | exact okv3 (by assumption) | decide | (focus (simp (disch := omega) only [r0, r11, nI_clamp, vp_in_nI, hT_sI, hR_sI, hT_sJ, hR_sJ, hT_sR, hI_sJ, hI_sR, hJ_sI, hJ_sR, hI_eq, hI_ne, hI_nk]; done)) | (focus (simp (disch := omega) only [r0, r11, nI_clamp, vp_in_nI, hT_sI, hR_sI, hT_sJ, hR_sJ, hT_sR, hI_sJ, hI_sR, hJ_sI, hJ_sR, hI_eq, hI_ne, hI_nk]; first | assumption | exact okv3 (by assumption)))))))))
        have hf0 : upF (trV A) 100 (f * 16 + bl) 0 ≤ 127 := by
          have : upF (trV A) 100 (f * 16 + bl) 0 = trV A 0 := if_neg (by omega)
          rw [this]
          have := (R1.tr.1 0 (by omega)).2
          unfold trV
          omega
        generalize upF (trV A) 100 (f * 16 + bl) 0 = u at hf0 ⊢
        refine ⟨⟨by omega, by omega⟩, ?_⟩
        repeat (first | (refine rs ?_; conv => whnf) | unfold k_call | ((with_reducible refine And.intro ?_ ?_); (first | (first | assumption | rfl | exact True.intro | exact Nat.le_of_ble_eq_true rfl | exact Or.inl rfl | exact Or.inr rfl | exact okv3 (by assumption) | decide | (focus (simp (disch := omega) only [r0, r11, nI_clamp, vp_in_nI, hT_sI, hR_sI, hT_sJ, hR_sJ, hT_sR, hI_sJ, hI_sR, hJ_sI, hJ_sR, hI_eq, hI_ne, hI_nk]; done)) | (focus (simp (disch := omega) only [r0, r11, nI_clamp, vp_in_nI, hT_sI, hR_sI, hT_sJ, hR_sJ, hT_sR, hI_sJ, hI_sR, hJ_sI, hJ_sR, hI_eq, hI_ne, hI_nk]; first | assumption | exact okv3 (by assumption)))) | (focus (refine ⟨_, rfl, ?_⟩; (first | assumption | rfl | exact True.intro | exact Nat.le_of_ble_eq_true rfl | exact Or.inl rfl | exact Or.inr rfl | exact okv3 (by assumption) | decide | (focus (simp (disch := omega) only [r0, r11, nI_clamp, vp_in_nI, hT_sI, hR_sI, hT_sJ, hR_sJ, hT_sR, hI_sJ, hI_sR, hJ_sI, hJ_sR, hI_eq, hI_ne, hI_nk]; done)) | (focus (simp (disch := omega) only [r0, r11, nI_clamp, vp_in_nI, hT_sI, hR_sI, hT_sJ, hR_sJ, hT_sR, hI_sJ, hI_sR, hJ_sI, hJ_sR, hI_eq, hI_ne, hI_nk]; first | assumption | exact okv3 (by assumption)))))))))
        refine ⟨⟨u + 129, rfl, by omega, by omega⟩, ?_⟩
        repeat (first | (refine rs ?_; conv => whnf) | unfold k_call | ((with_reducible refine And.intro ?_ ?_); (first | (first | assumption | rfl | exact True.intro | exact Nat.le_of_ble_eq_true rfl | exact Or.inl rfl | exact Or.inr rfl | exact okv3 (by assumption) | decide | (focus (simp (disch := omega) only [r0, r11, nI_clamp, vp_in_nI, hT_sI, hR_sI, hT_sJ, hR_sJ, hT_sR, hI_sJ, hI_sR, hJ_sI, hJ_sR, hI_eq, hI_ne, hI_nk]; done)) | (focus (simp (disch := omega) only [r0, r11, nI_clamp, vp_in_nI, hT_sI, hR_sI, hT_sJ, hR_sJ, hT_sR, hI_sJ, hI_sR, hJ_sI, hJ_sR, hI_eq, hI_ne, hI_nk]; first | assumption | exact okv3 (by assumption)))) | (focus (refine ⟨_, rfl, ?_⟩; (first | assumption | rfl | exact True.intro | exact Nat.le_of_ble_eq_true rfl | exact Or.inl rfl | exact Or.inr rfl | exact okv3 (by assumption) | decide | (focus (simp (disch := omega) only [r0, r11, nI_clamp, vp_in_nI, hT_sI, hR_sI, hT_sJ, hR_sJ, hT_sR, hI_sJ, hI_sR, hJ_sI, hJ_sR, hI_eq, hI_ne, hI_nk]; done)) | (focus (simp (disch := omega) only [r0, r11, nI_clamp, vp_in_nI, hT_sI, hR_sI, hT_sJ, hR_sJ, hT_sR, hI_sJ, hI_sR, hJ_sI, hJ_sR, hI_eq, hI_ne, hI_nk]; first | assumption | exact okv3 (by assumption)))))))))
        refine intValue_ok hf0 ?_
        repeat (first | (refine rs ?_; conv => whnf) | unfold k_call | ((with_reducible refine And.intro ?_ ?_); (first | (first | assumption | rfl | exact True.intro | exact Nat.le_of_ble_eq_true rfl | exact Or.inl rfl | exact Or.inr rfl | exact okv3 (by assumption) | decide | (focus (simp (disch := omega) only [r0, r11, nI_clamp, vp_in_nI, hT_sI, hR_sI, hT_sJ, hR_sJ, hT_sR, hI_sJ, hI_sR, hJ_sI, hJ_sR, hI_eq, hI_ne, hI_nk]; done)) | (focus (simp (disch := omega) only [r0, r11, nI_clamp, vp_in_nI, hT_sI, hR_sI, hT_sJ, hR_sJ, hT_sR, hI_sJ, hI_sR, hJ_sI, hJ_sR, hI_eq, hI_ne, hI_nk]; first | assumption | exact okv3 (by assumption)))) | (focus (refine ⟨_, rfl, ?_⟩; (first | assumption | rfl | exact True.intro | exact Nat.le_of_ble_eq_true rfl | exact Or.inl rfl | exact Or.inr rfl | exact okv3 (by assumption) | decide | (focus (simp (disch := omega) only [r0, r11, nI_clamp, vp_in_nI, hT_sI, hR_sI, hT_sJ, hR_sJ, hT_sR, hI_sJ, hI_sR, hJ_sI, hJ_sR, hI_eq, hI_ne, hI_nk]; done)) | (focus (simp (disch := omega) only [r0, r11, nI_clamp, vp_in_nI, hT_sI, hR_sI, hT_sJ, hR_sJ, hT_sR, hI_sJ, hI_sR, hJ_sI, hJ_sR, hI_eq, hI_ne, hI_nk]; first | assumption | exact okv3 (by assumption)))))))))
        refine k _ (RR_tr R1 ⟨Nat.le_trans L1.1 L2.1, fun x hx => ?_, fun x j hx q => ?_, fun x j hx => ?_, fun x j hx h1 h2 => ?_, ?_⟩ ?_ H' q1.1 q1.2.1 q1.2.2.1 q2 tp) (TH.trans (show hI b2 361 0 = hI B 361 0 by rw [L2.2.2.1 _ _ (Nat.lt_of_lt_of_le (by omega) L1.1) (by omega), L1.2.2.1 _ _ (by omega) (by omega)]))
        · rw [L2.2.1 x (Nat.lt_of_lt_of_le hx L1.1), L1.2.1 x hx]
        · rw [L2.2.2.1 x j (Nat.lt_of_lt_of_le hx L1.1) q, L1.2.2.1 x j hx q]
        · rw [L2.2.2.2.1 x j (Nat.lt_of_lt_of_le hx L1.1), L1.2.2.2.1 x j hx]
        · rw [L2.2.2.2.2.1 x j (Nat.lt_of_lt_of_le hx L1.1) h1 (fun z => ?_), L1.2.2.2.2.1 x j hx h1 h2]
          rcases L1.2.2.2.2.2 with w | w
          · exact h2 (z.trans w)
          · omega
        · rcases L2.2.2.2.2.2 with w | w
          · rcases L1.2.2.2.2.2 with v | v
            · exact Or.inl (w.trans v)
            · exact Or.inr (by rw [w]; exact v)
          · exact Or.inr (Nat.le_trans L1.1 w)
        · rw [z1.1]
          refine ⟨B2.1, B2.2.1, fun i hi => ?_⟩
          rw [B2.2.2 i hi, z1.2 i, if_pos c]
          by_cases d : i = 99
          · rw [if_pos d]
            show (if i + 1 = 100 then _ else _) + 129 = _
            rw [if_pos (by omega)]
          · rw [if_neg d, if_pos (by omega)]
            show (if i + 1 = 100 then _ else _) + 129 = _
            rw [if_neg (by omega)]
      · rw [if_neg c] at z1
        refine br_t (show nI (trN A + 1) ≤ nI 100 from nI_le (by omega) (by omega)) ?_
        repeat (first | (refine rs ?_; conv => whnf) | unfold k_call | ((with_reducible refine And.intro ?_ ?_); (first | (first | assumption | rfl | exact True.intro | exact Nat.le_of_ble_eq_true rfl | exact Or.inl rfl | exact Or.inr rfl | exact okv3 (by assumption) | decide | (focus (simp (disch := omega) only [r0, r11, nI_clamp, vp_in_nI, hT_sI, hR_sI, hT_sJ, hR_sJ, hT_sR, hI_sJ, hI_sR, hJ_sI, hJ_sR, hI_eq, hI_ne, hI_nk]; done)) | (focus (simp (disch := omega) only [r0, r11, nI_clamp, vp_in_nI, hT_sI, hR_sI, hT_sJ, hR_sJ, hT_sR, hI_sJ, hI_sR, hJ_sI, hJ_sR, hI_eq, hI_ne, hI_nk]; first | assumption | exact okv3 (by assumption)))) | (focus (refine ⟨_, rfl, ?_⟩; (first | assumption | rfl | exact True.intro | exact Nat.le_of_ble_eq_true rfl | exact Or.inl rfl | exact Or.inr rfl | exact okv3 (by assumption) | decide | (focus (simp (disch := omega) only [r0, r11, nI_clamp, vp_in_nI, hT_sI, hR_sI, hT_sJ, hR_sJ, hT_sR, hI_sJ, hI_sR, hJ_sI, hJ_sR, hI_eq, hI_ne, hI_nk]; done)) | (focus (simp (disch := omega) only [r0, r11, nI_clamp, vp_in_nI, hT_sI, hR_sI, hT_sJ, hR_sJ, hT_sR, hI_sJ, hI_sR, hJ_sI, hJ_sR, hI_eq, hI_ne, hI_nk]; first | assumption | exact okv3 (by assumption)))))))))
        refine k _ (RR_tr R1 L1 ?_ H' q1.1 q1.2.1 q1.2.2.1 q2 tp) (TH.trans (show hI b1 361 0 = hI B 361 0 from L1.2.2.1 _ _ (by omega) (by omega)))
        rw [z1.1]
        refine ⟨B1.1, B1.2.1, fun i hi => ?_⟩
        rw [B1.2.2 i hi, z1.2 i, if_neg c]
        rfl
  have m0 := R.ml.1
  rcases hh with h | h
  · subst h
    have e : mHit b 0 = sI (sI b 361 23 (hI b 361 23 + 0)) 361 24 (hI b 361 24 + 1) := if_pos rfl
    rw [e] at main
    (refine go mX12_counts hX [36] 400 ?_; conv => whnf)
    repeat (first | (refine rs ?_; conv => whnf) | unfold k_call | ((with_reducible refine And.intro ?_ ?_); (first | (first | assumption | rfl | exact True.intro | exact Nat.le_of_ble_eq_true rfl | exact Or.inl rfl | exact Or.inr rfl | exact okv3 (by assumption) | decide | (focus (simp (disch := omega) only [m0, nI_clamp, vp_in_nI, hT_sI, hR_sI, hT_sJ, hR_sJ, hT_sR, hI_sJ, hI_sR, hJ_sI, hJ_sR, hI_eq, hI_ne, hI_nk]; done)) | (focus (simp (disch := omega) only [m0, nI_clamp, vp_in_nI, hT_sI, hR_sI, hT_sJ, hR_sJ, hT_sR, hI_sJ, hI_sR, hJ_sI, hJ_sR, hI_eq, hI_ne, hI_nk]; first | assumption | exact okv3 (by assumption)))) | (focus (refine ⟨_, rfl, ?_⟩; (first | assumption | rfl | exact True.intro | exact Nat.le_of_ble_eq_true rfl | exact Or.inl rfl | exact Or.inr rfl | exact okv3 (by assumption) | decide | (focus (simp (disch := omega) only [m0, nI_clamp, vp_in_nI, hT_sI, hR_sI, hT_sJ, hR_sJ, hT_sR, hI_sJ, hI_sR, hJ_sI, hJ_sR, hI_eq, hI_ne, hI_nk]; done)) | (focus (simp (disch := omega) only [m0, nI_clamp, vp_in_nI, hT_sI, hR_sI, hT_sJ, hR_sJ, hT_sR, hI_sJ, hI_sR, hJ_sI, hJ_sR, hI_eq, hI_ne, hI_nk]; first | assumption | exact okv3 (by assumption)))))))))
    refine br_t rfl ?_
    repeat (first | (refine rs ?_; conv => whnf) | unfold k_call | ((with_reducible refine And.intro ?_ ?_); (first | (first | assumption | rfl | exact True.intro | exact Nat.le_of_ble_eq_true rfl | exact Or.inl rfl | exact Or.inr rfl | exact okv3 (by assumption) | decide | (focus (simp (disch := omega) only [m0, nI_clamp, vp_in_nI, hT_sI, hR_sI, hT_sJ, hR_sJ, hT_sR, hI_sJ, hI_sR, hJ_sI, hJ_sR, hI_eq, hI_ne, hI_nk]; done)) | (focus (simp (disch := omega) only [m0, nI_clamp, vp_in_nI, hT_sI, hR_sI, hT_sJ, hR_sJ, hT_sR, hI_sJ, hI_sR, hJ_sI, hJ_sR, hI_eq, hI_ne, hI_nk]; first | assumption | exact okv3 (by assumption)))) | (focus (refine ⟨_, rfl, ?_⟩; (first | assumption | rfl | exact True.intro | exact Nat.le_of_ble_eq_true rfl | exact Or.inl rfl | exact Or.inr rfl | exact okv3 (by assumption) | decide | (focus (simp (disch := omega) only [m0, nI_clamp, vp_in_nI, hT_sI, hR_sI, hT_sJ, hR_sJ, hT_sR, hI_sJ, hI_sR, hJ_sI, hJ_sR, hI_eq, hI_ne, hI_nk]; done)) | (focus (simp (disch := omega) only [m0, nI_clamp, vp_in_nI, hT_sI, hR_sI, hT_sJ, hR_sJ, hT_sR, hI_sJ, hI_sR, hJ_sI, hJ_sR, hI_eq, hI_ne, hI_nk]; first | assumption | exact okv3 (by assumption)))))))))
    refine br_t rfl ?_
    repeat (first | (refine rs ?_; conv => whnf) | unfold k_call | ((with_reducible refine And.intro ?_ ?_); (first | (first | assumption | rfl | exact True.intro | exact Nat.le_of_ble_eq_true rfl | exact Or.inl rfl | exact Or.inr rfl | exact okv3 (by assumption) | decide | (focus (simp (disch := omega) only [m0, nI_clamp, vp_in_nI, hT_sI, hR_sI, hT_sJ, hR_sJ, hT_sR, hI_sJ, hI_sR, hJ_sI, hJ_sR, hI_eq, hI_ne, hI_nk]; done)) | (focus (simp (disch := omega) only [m0, nI_clamp, vp_in_nI, hT_sI, hR_sI, hT_sJ, hR_sJ, hT_sR, hI_sJ, hI_sR, hJ_sI, hJ_sR, hI_eq, hI_ne, hI_nk]; first | assumption | exact okv3 (by assumption)))) | (focus (refine ⟨_, rfl, ?_⟩; (first | assumption | rfl | exact True.intro | exact Nat.le_of_ble_eq_true rfl | exact Or.inl rfl | exact Or.inr rfl | exact okv3 (by assumption) | decide | (focus (simp (disch := omega) only [m0, nI_clamp, vp_in_nI, hT_sI, hR_sI, hT_sJ, hR_sJ, hT_sR, hI_sJ, hI_sR, hJ_sI, hJ_sR, hI_eq, hI_ne, hI_nk]; done)) | (focus (simp (disch := omega) only [m0, nI_clamp, vp_in_nI, hT_sI, hR_sI, hT_sJ, hR_sJ, hT_sR, hI_sJ, hI_sR, hJ_sI, hJ_sR, hI_eq, hI_ne, hI_nk]; first | assumption | exact okv3 (by assumption)))))))))
    (try simp (disch := omega) only [m0, nI_clamp, vp_in_nI, hT_sI, hR_sI, hT_sJ, hR_sJ, hT_sR, hI_sJ, hI_sR, hJ_sI, hJ_sR, hI_eq, hI_ne, hI_nk])
    exact main
  · subst h
    have e : mHit b 1 = sI (sI b 361 23 (hI b 361 23 + 1)) 361 24 (hI b 361 24 + 0) := if_neg (by decide)
    rw [e] at main
    (refine go mX12_counts hX [36] 400 ?_; conv => whnf)
    repeat (first | (refine rs ?_; conv => whnf) | unfold k_call | ((with_reducible refine And.intro ?_ ?_); (first | (first | assumption | rfl | exact True.intro | exact Nat.le_of_ble_eq_true rfl | exact Or.inl rfl | exact Or.inr rfl | exact okv3 (by assumption) | decide | (focus (simp (disch := omega) only [m0, nI_clamp, vp_in_nI, hT_sI, hR_sI, hT_sJ, hR_sJ, hT_sR, hI_sJ, hI_sR, hJ_sI, hJ_sR, hI_eq, hI_ne, hI_nk]; done)) | (focus (simp (disch := omega) only [m0, nI_clamp, vp_in_nI, hT_sI, hR_sI, hT_sJ, hR_sJ, hT_sR, hI_sJ, hI_sR, hJ_sI, hJ_sR, hI_eq, hI_ne, hI_nk]; first | assumption | exact okv3 (by assumption)))) | (focus (refine ⟨_, rfl, ?_⟩; (first | assumption | rfl | exact True.intro | exact Nat.le_of_ble_eq_true rfl | exact Or.inl rfl | exact Or.inr rfl | exact okv3 (by assumption) | decide | (focus (simp (disch := omega) only [m0, nI_clamp, vp_in_nI, hT_sI, hR_sI, hT_sJ, hR_sJ, hT_sR, hI_sJ, hI_sR, hJ_sI, hJ_sR, hI_eq, hI_ne, hI_nk]; done)) | (focus (simp (disch := omega) only [m0, nI_clamp, vp_in_nI, hT_sI, hR_sI, hT_sJ, hR_sJ, hT_sR, hI_sJ, hI_sR, hJ_sI, hJ_sR, hI_eq, hI_ne, hI_nk]; first | assumption | exact okv3 (by assumption)))))))))
    refine br_f (by decide) ?_
    repeat (first | (refine rs ?_; conv => whnf) | unfold k_call | ((with_reducible refine And.intro ?_ ?_); (first | (first | assumption | rfl | exact True.intro | exact Nat.le_of_ble_eq_true rfl | exact Or.inl rfl | exact Or.inr rfl | exact okv3 (by assumption) | decide | (focus (simp (disch := omega) only [m0, nI_clamp, vp_in_nI, hT_sI, hR_sI, hT_sJ, hR_sJ, hT_sR, hI_sJ, hI_sR, hJ_sI, hJ_sR, hI_eq, hI_ne, hI_nk]; done)) | (focus (simp (disch := omega) only [m0, nI_clamp, vp_in_nI, hT_sI, hR_sI, hT_sJ, hR_sJ, hT_sR, hI_sJ, hI_sR, hJ_sI, hJ_sR, hI_eq, hI_ne, hI_nk]; first | assumption | exact okv3 (by assumption)))) | (focus (refine ⟨_, rfl, ?_⟩; (first | assumption | rfl | exact True.intro | exact Nat.le_of_ble_eq_true rfl | exact Or.inl rfl | exact Or.inr rfl | exact okv3 (by assumption) | decide | (focus (simp (disch := omega) only [m0, nI_clamp, vp_in_nI, hT_sI, hR_sI, hT_sJ, hR_sJ, hT_sR, hI_sJ, hI_sR, hJ_sI, hJ_sR, hI_eq, hI_ne, hI_nk]; done)) | (focus (simp (disch := omega) only [m0, nI_clamp, vp_in_nI, hT_sI, hR_sI, hT_sJ, hR_sJ, hT_sR, hI_sJ, hI_sR, hJ_sI, hJ_sR, hI_eq, hI_ne, hI_nk]; first | assumption | exact okv3 (by assumption)))))))))
    refine br_f (by decide) ?_
    repeat (first | (refine rs ?_; conv => whnf) | unfold k_call | ((with_reducible refine And.intro ?_ ?_); (first | (first | assumption | rfl | exact True.intro | exact Nat.le_of_ble_eq_true rfl | exact Or.inl rfl | exact Or.inr rfl | exact okv3 (by assumption) | decide | (focus (simp (disch := omega) only [m0, nI_clamp, vp_in_nI, hT_sI, hR_sI, hT_sJ, hR_sJ, hT_sR, hI_sJ, hI_sR, hJ_sI, hJ_sR, hI_eq, hI_ne, hI_nk]; done)) | (focus (simp (disch := omega) only [m0, nI_clamp, vp_in_nI, hT_sI, hR_sI, hT_sJ, hR_sJ, hT_sR, hI_sJ, hI_sR, hJ_sI, hJ_sR, hI_eq, hI_ne, hI_nk]; first | assumption | exact okv3 (by assumption)))) | (focus (refine ⟨_, rfl, ?_⟩; (first | assumption | rfl | exact True.intro | exact Nat.le_of_ble_eq_true rfl | exact Or.inl rfl | exact Or.inr rfl | exact okv3 (by assumption) | decide | (focus (simp (disch := omega) only [m0, nI_clamp, vp_in_nI, hT_sI, hR_sI, hT_sJ, hR_sJ, hT_sR, hI_sJ, hI_sR, hJ_sI, hJ_sR, hI_eq, hI_ne, hI_nk]; done)) | (focus (simp (disch := omega) only [m0, nI_clamp, vp_in_nI, hT_sI, hR_sI, hT_sJ, hR_sJ, hT_sR, hI_sJ, hI_sR, hJ_sI, hJ_sR, hI_eq, hI_ne, hI_nk]; first | assumption | exact okv3 (by assumption)))))))))
    (try simp (disch := omega) only [m0, nI_clamp, vp_in_nI, hT_sI, hR_sI, hT_sJ, hR_sJ, hT_sR, hI_sJ, hI_sR, hJ_sI, hJ_sR, hI_eq, hI_ne, hI_nk])
    exact main
/-! a page used -/
def cAh (a : CH) (i : Nat) : CH := if hI a (313 + 2 + i) 8 = 0 then a else sI (sI a (313 + 2 + i) 8 0) 358 4 (hI a 358 4 + 1)
def mUses (b : CH) (p : Nat) : CH := sI (sI (mUse b p) 361 27 (hI b 361 27 + (if hI b p 7 = 0 then 0 else 1))) p 7 0
theorem RR_uses {n i : Nat} {a b : CH} (R : RR n a b) (hn : n + 1 < 5000) (hi : i < 16) (q : ¬ hR b 368 i = 0) : RR (n + 1) (cUse (cAh a i) 313 i) (mUses b (hR b 368 i)) := by
  obtain ⟨p1, p2, p3⟩ := pgT R hi q
  obtain ⟨t, ht, P⟩ := pgR R hi q
  have e27 : hI b 361 27 = hI a 358 4 := R.sc 27 358 4 (by decide)
  have R1 : RR n (cAh a i) (sI (sI b 361 27 (hI b 361 27 + (if hI b (hR b 368 i) 7 = 0 then 0 else 1))) (hR b 368 i) 7 0) := by
    unfold cAh
    by_cases c : hI a (313 + 2 + i) 8 = 0
    · have c' : hI b (hR b 368 i) 7 = 0 := P.ah.trans c
      rw [if_pos c, if_pos c', Int32.add_zero, sI_id (h := b) (a := 361) (k := 27) rfl, sI_id c']
      exact R
    · have c' : ¬ hI b (hR b 368 i) 7 = 0 := fun z => c (P.ah.symm.trans z)
      rw [if_neg c, if_neg c', sI_comm (a := 361) (b := hR b 368 i) (by omega), e27]
      exact RR_cnt (RR_cell (fk := 8) (ik := 7) (v := 0) R hi q (by omega)) (by decide)
  have R2 := RR_use R1 hn hi (show ¬ hR b 368 i = 0 from q)
  have e : mUse (sI (sI b 361 27 (hI b 361 27 + (if hI b (hR b 368 i) 7 = 0 then 0 else 1))) (hR b 368 i) 7 0) (hR b 368 i) = mUses b (hR b 368 i) := by
    unfold mUses mUse
    show sI (sI (sI (sJ (sJ b 361 28 (hJ b 361 28 + 1)) (hR b 368 i) 4 (hJ b 361 28 + 1)) 361 27 _) (hR b 368 i) 7 0) (hR b 368 i) 6 1 = _
    rw [sI_comm (a := hR b 368 i) (k := 7) (b := hR b 368 i) (j := 6) (by omega), sI_comm (a := 361) (k := 27) (b := hR b 368 i) (j := 6) (by omega)]
  rw [← e]
  exact R2
theorem uses_ok {n i : Nat} {a b : CH} {Q : QT} (R : RR n a b) (hi : i < 16) (q : ¬ hR b 368 i = 0) (k : Q (.inl []) (mUses b (hR b 368 i))) : wX12_uses [.ref 361, .ref (hR b 368 i)] b Q := by
  refine wgo (fun X hX => ?_) (by show 2 ≤ 2; decide)
  have m0 := R.ml.1
  obtain ⟨pt, p2, p3⟩ := pgT R hi q
  unfold mUses mUse at k
  generalize hR b 368 i = p at k pt p2
  have jx : ∀ v, hJ (sJ b 361 28 v) p 4 = hJ b p 4 := fun v => hJ_ne (by omega)
  have ix : ∀ v, hI (sI (sJ (sJ b 361 28 (hJ b 361 28 + 1)) p 4 (hJ b 361 28 + 1)) p 6 v) 361 27 = hI b 361 27 := fun v => hI_ne (by omega)
  have iy : ∀ v w, hI (sI (sI (sJ (sJ b 361 28 (hJ b 361 28 + 1)) p 4 (hJ b 361 28 + 1)) p 6 v) 361 27 w) p 7 = hI b p 7 := fun v w => by rw [hI_ne (by omega), hI_nk (by omega)]; rfl
  (refine go mX12_uses hX [] 400 ?_; conv => whnf)
  repeat (first | (refine rs ?_; conv => whnf) | unfold k_call | ((with_reducible refine And.intro ?_ ?_); (first | (first | assumption | rfl | exact True.intro | exact Nat.le_of_ble_eq_true rfl | exact Or.inl rfl | exact Or.inr rfl | exact okv3 (by assumption) | decide | (focus (simp (disch := omega) only [m0, pt, hJ_eq, jx, hJ_nk, ix, nI_clamp, vp_in_nI, hT_sI, hR_sI, hT_sJ, hR_sJ, hT_sR, hI_sJ, hI_sR, hJ_sI, hJ_sR, hI_eq, hI_ne, hI_nk]; done)) | (focus (simp (disch := omega) only [m0, pt, hJ_eq, jx, hJ_nk, ix, nI_clamp, vp_in_nI, hT_sI, hR_sI, hT_sJ, hR_sJ, hT_sR, hI_sJ, hI_sR, hJ_sI, hJ_sR, hI_eq, hI_ne, hI_nk]; first | assumption | exact okv3 (by assumption)))) | (focus (refine ⟨_, rfl, ?_⟩; (first | assumption | rfl | exact True.intro | exact Nat.le_of_ble_eq_true rfl | exact Or.inl rfl | exact Or.inr rfl | exact okv3 (by assumption) | decide | (focus (simp (disch := omega) only [m0, pt, hJ_eq, jx, hJ_nk, ix, nI_clamp, vp_in_nI, hT_sI, hR_sI, hT_sJ, hR_sJ, hT_sR, hI_sJ, hI_sR, hJ_sI, hJ_sR, hI_eq, hI_ne, hI_nk]; done)) | (focus (simp (disch := omega) only [m0, pt, hJ_eq, jx, hJ_nk, ix, nI_clamp, vp_in_nI, hT_sI, hR_sI, hT_sJ, hR_sJ, hT_sR, hI_sJ, hI_sR, hJ_sI, hJ_sR, hI_eq, hI_ne, hI_nk]; first | assumption | exact okv3 (by assumption)))))))))
  (try simp (disch := omega) only [m0, pt, hJ_eq, jx, hJ_nk, ix, nI_clamp, vp_in_nI, hT_sI, hR_sI, hT_sJ, hR_sJ, hT_sR, hI_sJ, hI_sR, hJ_sI, hJ_sR, hI_eq, hI_ne, hI_nk])
  (refine ⟨fun c => ?_, fun c => ?_⟩ <;> (try dsimp only at c))
  · rw [if_pos c] at k
    repeat (first | (refine rs ?_; conv => whnf) | unfold k_call | ((with_reducible refine And.intro ?_ ?_); (first | (first | assumption | rfl | exact True.intro | exact Nat.le_of_ble_eq_true rfl | exact Or.inl rfl | exact Or.inr rfl | exact okv3 (by assumption) | decide | (focus (simp (disch := omega) only [m0, pt, hJ_eq, jx, hJ_nk, ix, nI_clamp, vp_in_nI, hT_sI, hR_sI, hT_sJ, hR_sJ, hT_sR, hI_sJ, hI_sR, hJ_sI, hJ_sR, hI_eq, hI_ne, hI_nk]; done)) | (focus (simp (disch := omega) only [m0, pt, hJ_eq, jx, hJ_nk, ix, nI_clamp, vp_in_nI, hT_sI, hR_sI, hT_sJ, hR_sJ, hT_sR, hI_sJ, hI_sR, hJ_sI, hJ_sR, hI_eq, hI_ne, hI_nk]; first | assumption | exact okv3 (by assumption)))) | (focus (refine ⟨_, rfl, ?_⟩; (first | assumption | rfl | exact True.intro | exact Nat.le_of_ble_eq_true rfl | exact Or.inl rfl | exact Or.inr rfl | exact okv3 (by assumption) | decide | (focus (simp (disch := omega) only [m0, pt, hJ_eq, jx, hJ_nk, ix, nI_clamp, vp_in_nI, hT_sI, hR_sI, hT_sJ, hR_sJ, hT_sR, hI_sJ, hI_sR, hJ_sI, hJ_sR, hI_eq, hI_ne, hI_nk]; done)) | (focus (simp (disch := omega) only [m0, pt, hJ_eq, jx, hJ_nk, ix, nI_clamp, vp_in_nI, hT_sI, hR_sI, hT_sJ, hR_sJ, hT_sR, hI_sJ, hI_sR, hJ_sI, hJ_sR, hI_eq, hI_ne, hI_nk]; first | assumption | exact okv3 (by assumption)))))))))
    exact k
  · rw [if_neg c] at k
    repeat (first | (refine rs ?_; conv => whnf) | unfold k_call | ((with_reducible refine And.intro ?_ ?_); (first | (first | assumption | rfl | exact True.intro | exact Nat.le_of_ble_eq_true rfl | exact Or.inl rfl | exact Or.inr rfl | exact okv3 (by assumption) | decide | (focus (simp (disch := omega) only [m0, pt, hJ_eq, jx, hJ_nk, ix, nI_clamp, vp_in_nI, hT_sI, hR_sI, hT_sJ, hR_sJ, hT_sR, hI_sJ, hI_sR, hJ_sI, hJ_sR, hI_eq, hI_ne, hI_nk]; done)) | (focus (simp (disch := omega) only [m0, pt, hJ_eq, jx, hJ_nk, ix, nI_clamp, vp_in_nI, hT_sI, hR_sI, hT_sJ, hR_sJ, hT_sR, hI_sJ, hI_sR, hJ_sI, hJ_sR, hI_eq, hI_ne, hI_nk]; first | assumption | exact okv3 (by assumption)))) | (focus (refine ⟨_, rfl, ?_⟩; (first | assumption | rfl | exact True.intro | exact Nat.le_of_ble_eq_true rfl | exact Or.inl rfl | exact Or.inr rfl | exact okv3 (by assumption) | decide | (focus (simp (disch := omega) only [m0, pt, hJ_eq, jx, hJ_nk, ix, nI_clamp, vp_in_nI, hT_sI, hR_sI, hT_sJ, hR_sJ, hT_sR, hI_sJ, hI_sR, hJ_sI, hJ_sR, hI_eq, hI_ne, hI_nk]; done)) | (focus (simp (disch := omega) only [m0, pt, hJ_eq, jx, hJ_nk, ix, nI_clamp, vp_in_nI, hT_sI, hR_sI, hT_sJ, hR_sJ, hT_sR, hI_sJ, hI_sR, hJ_sI, hJ_sR, hI_eq, hI_ne, hI_nk]; first | assumption | exact okv3 (by assumption)))))))))
    exact k
