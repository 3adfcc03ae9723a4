/-! THE REFERENCE'S PICTURE, AND HOW IT STANDS TO THE CLASS'S: a the class's heap, b the reference's, n bounds the time -/
def MLay (b : CH) : Prop := (hT b 361).1 = 16 ∧ hR b 361 1 = 362 ∧ hR b 361 2 = 363 ∧ hR b 361 3 = 364 ∧ hR b 361 4 = 365 ∧ hR b 361 5 = 366 ∧ hR b 361 6 = 367 ∧ hR b 361 7 = 368 ∧ hR b 361 15 = 369 ∧ hR b 361 16 = 370 ∧ hR b 361 21 = 371 ∧ hR b 361 22 = 372 ∧ hT b 362 = (100, 128) ∧ hT b 363 = (100, 128) ∧ hT b 364 = (100, 64) ∧ (hT b 365).1 = 3 ∧ hT b 366 = (100, 8) ∧ hT b 367 = (100, 2) ∧ hT b 368 = (107, 16) ∧ hT b 369 = (101, 3) ∧ hT b 370 = (100, 128) ∧ (hT b 371).1 = 3 ∧ (hT b 372).1 = 3 ∧ 373 ≤ hN b
def scl : List (Nat × Nat × Nat) := [(8, 313, 1), (9, 300, 10), (10, 300, 11), (11, 300, 12), (12, 300, 13), (13, 313, 2), (14, 302, 4), (17, 334, 0), (18, 334, 1), (19, 300, 14), (20, 300, 15), (23, 358, 0), (24, 358, 1), (25, 358, 2), (26, 358, 3), (27, 358, 4)]
def Sc (a b : CH) : Prop := ∀ k x j, (k, x, j) ∈ scl → hI b 361 k = hI a x j
def Vl (a b : CH) : Prop := (∀ s, s < 128 → hI b 362 s = cVal a s ∧ hI b 363 s = cSum a s) ∧ ∀ p, p < 64 → hI b 364 p = hI a 309 p
def Bl (a b : CH) : Prop := ∀ k, k < 3 → hJ b 369 k = hJ a 360 k
def lgP (a : CH) (s : Nat) : Bool := decide (¬ hI a 332 s = 0)
def Lg (a b : CH) : Prop := (∀ s, s < 128 → (hI a 332 s = 0 ∧ hI b 370 s = -1) ∨ (¬ hI a 332 s = 0 ∧ hI b 370 s = hI a 333 s ∧ ¬ hI a 333 s = -1)) ∧ hI a 331 2 = nI (cnt (lgP a) 128)
def BoxL (b : CH) (la n : Nat) (f : Nat → Nat) (caps : List Nat) : Prop := hI b la 2 = nI n ∧ ((n = 0 ∧ hR b la 1 = 257) ∨ (373 ≤ hR b la 1 ∧ hR b la 1 < hN b ∧ ∃ cap, cap ∈ caps ∧ n ≤ cap ∧ hT b (hR b la 1) = (108, cap) ∧ ∀ i, i < cap → hR b (hR b la 1) i ≤ 256)) ∧ ∀ i, i < n → hR b (hR b la 1) i = f i + 129
def Fi (a b : CH) : Prop := ∃ c0 c1, c0 ≤ 4 ∧ c1 ≤ 4 ∧ hI a 302 5 = nI c0 ∧ hI a 306 5 = nI c1 ∧ hI b 367 0 = nI c0 ∧ hI b 367 1 = nI c1 ∧ fcN a = c0 + c1 ∧ BoxL b 365 (fcN a) (hmN a) [10] ∧ ∀ f, f < fcN a → (hI a 312 f = -2 ∧ hI b 366 f = -9) ∨ ∃ k, k < 16 ∧ hI a 312 f = nI k ∧ hI b 366 f = nI k
def trV (a : CH) (i : Nat) : Nat := (hI a 336 i).toNatClampNeg
def Tr (a b : CH) : Prop := TrP a ∧ BoxL b 372 (trN a) (trV a) [10, 15, 22, 33, 49, 73, 109]
def ImO (a b : CH) (q p : Nat) : Prop := (hT b p).1 = 14 ∧ 373 ≤ p ∧ p < hN b ∧ hI b p 0 = hI a q 0 ∧ 373 ≤ hR b p 1 ∧ hR b p 1 < hN b ∧ 373 ≤ hR b p 2 ∧ hR b p 2 < hN b ∧ hT b (hR b p 1) = (100, 64) ∧ hT b (hR b p 2) = (100, 64) ∧ ∀ j, j < 64 → hI b (hR b p 1) j = hI a (hR a q 1) j ∧ hI b (hR b p 2) j = hI a (hR a q 2) j
def Im (a b : CH) : Prop := Img a ∧ hI b 371 2 = nI (imN a) ∧ ((imN a = 0 ∧ hR b 371 1 = 257) ∨ (373 ≤ hR b 371 1 ∧ hR b 371 1 < hN b ∧ hT b (hR b 371 1) = (108, 10))) ∧ ∀ k, k < imN a → ImO a b (hR a 359 k) (hR b (hR b 371 1) k)
def Dl (b : CH) : Prop := (hR b 365 1 = hR b 371 1 → hR b 365 1 = 257) ∧ (hR b 365 1 = hR b 372 1 → hR b 365 1 = 257) ∧ (hR b 371 1 = hR b 372 1 → hR b 371 1 = 257)
/-- a page and its frame: t the time, S the place's sum, H whether the log has the block, F the frame's row, I and J the page's rows -/
def PgR (t : Nat) (S H : Int32) (F I : Nat → Int32) (J : Nat → Int64) : Prop := (I 0 = F 0) ∧ (I 1 = F 1) ∧ (I 2 = F 2) ∧ (F 3 = 0 → J 3 = -1 ∧ F 1 = S ∧ H = 0) ∧ (¬ F 3 = 0 → ∃ k, k ≤ t ∧ F 4 = nI k ∧ J 3 = lN k) ∧ (∃ k, k ≤ t ∧ F 5 = nI k ∧ J 4 = lN k) ∧ (∃ k, k ≤ t ∧ F 6 = nI k ∧ J 5 = lN k) ∧ (I 6 = F 7) ∧ (I 7 = F 8) ∧ (I 8 = F 9) ∧ (¬ F 9 = 0 → ¬ F 3 = 0 ∧ ¬ F 1 = -1 ∧ (F 10 = 0 → I 9 = F 11) ∧ I 11 = F 10 ∧ (F 12 = 0 → J 10 = -1) ∧ (¬ F 12 = 0 → J 10 = J 3) ∧ (F 10 = 0 → F 12 = 0 → F 11 = S) ∧ ((¬ F 10 = 0 ∨ F 12 = 0) → H = 0))
theorem PgR.pl {t : Nat} {S H : Int32} {F I : Nat → Int32} {J : Nat → Int64} (r : PgR t S H F I J) : I 0 = F 0 := r.1
theorem PgR.vl {t : Nat} {S H : Int32} {F I : Nat → Int32} {J : Nat → Int64} (r : PgR t S H F I J) : I 1 = F 1 := r.2.1
theorem PgR.pn {t : Nat} {S H : Int32} {F I : Nat → Int32} {J : Nat → Int64} (r : PgR t S H F I J) : I 2 = F 2 := r.2.2.1
theorem PgR.cl {t : Nat} {S H : Int32} {F I : Nat → Int32} {J : Nat → Int64} (r : PgR t S H F I J) : F 3 = 0 → J 3 = -1 ∧ F 1 = S ∧ H = 0 := r.2.2.2.1
theorem PgR.dt {t : Nat} {S H : Int32} {F I : Nat → Int32} {J : Nat → Int64} (r : PgR t S H F I J) : ¬ F 3 = 0 → ∃ k, k ≤ t ∧ F 4 = nI k ∧ J 3 = lN k := r.2.2.2.2.1
theorem PgR.us {t : Nat} {S H : Int32} {F I : Nat → Int32} {J : Nat → Int64} (r : PgR t S H F I J) : ∃ k, k ≤ t ∧ F 5 = nI k ∧ J 4 = lN k := r.2.2.2.2.2.1
theorem PgR.cm {t : Nat} {S H : Int32} {F I : Nat → Int32} {J : Nat → Int64} (r : PgR t S H F I J) : ∃ k, k ≤ t ∧ F 6 = nI k ∧ J 5 = lN k := r.2.2.2.2.2.2.1
theorem PgR.mk {t : Nat} {S H : Int32} {F I : Nat → Int32} {J : Nat → Int64} (r : PgR t S H F I J) : I 6 = F 7 := r.2.2.2.2.2.2.2.1
theorem PgR.ah {t : Nat} {S H : Int32} {F I : Nat → Int32} {J : Nat → Int64} (r : PgR t S H F I J) : I 7 = F 8 := r.2.2.2.2.2.2.2.2.1
theorem PgR.ou {t : Nat} {S H : Int32} {F I : Nat → Int32} {J : Nat → Int64} (r : PgR t S H F I J) : I 8 = F 9 := r.2.2.2.2.2.2.2.2.2.1
theorem PgR.wk {t : Nat} {S H : Int32} {F I : Nat → Int32} {J : Nat → Int64} (r : PgR t S H F I J) : ¬ F 9 = 0 → ¬ F 3 = 0 ∧ ¬ F 1 = -1 ∧ (F 10 = 0 → I 9 = F 11) ∧ I 11 = F 10 ∧ (F 12 = 0 → J 10 = -1) ∧ (¬ F 12 = 0 → J 10 = J 3) ∧ (F 10 = 0 → F 12 = 0 → F 11 = S) ∧ ((¬ F 10 = 0 ∨ F 12 = 0) → H = 0) := r.2.2.2.2.2.2.2.2.2.2
theorem PgR.of {t : Nat} {S H : Int32} {F I : Nat → Int32} {J : Nat → Int64} (pl : I 0 = F 0) (vl : I 1 = F 1) (pn : I 2 = F 2) (cl : F 3 = 0 → J 3 = -1 ∧ F 1 = S ∧ H = 0) (dt : ¬ F 3 = 0 → ∃ k, k ≤ t ∧ F 4 = nI k ∧ J 3 = lN k) (us : ∃ k, k ≤ t ∧ F 5 = nI k ∧ J 4 = lN k) (cm : ∃ k, k ≤ t ∧ F 6 = nI k ∧ J 5 = lN k) (mk : I 6 = F 7) (ah : I 7 = F 8) (ou : I 8 = F 9) (wk : ¬ F 9 = 0 → ¬ F 3 = 0 ∧ ¬ F 1 = -1 ∧ (F 10 = 0 → I 9 = F 11) ∧ I 11 = F 10 ∧ (F 12 = 0 → J 10 = -1) ∧ (¬ F 12 = 0 → J 10 = J 3) ∧ (F 10 = 0 → F 12 = 0 → F 11 = S) ∧ ((¬ F 10 = 0 ∨ F 12 = 0) → H = 0)) : PgR t S H F I J := ⟨pl, vl, pn, cl, dt, us, cm, mk, ah, ou, wk⟩
def FrM (a b : CH) (t i : Nat) : Prop := (hI a (313 + 2 + i) 0 = -1 ∧ hR b 368 i = 0) ∨ (¬ hI a (313 + 2 + i) 0 = -1 ∧ (hT b (hR b 368 i)).1 = 15 ∧ 373 ≤ hR b 368 i ∧ hR b 368 i < hN b ∧ PgR t (cSum a (spN a i)) (hI a 332 (spN a i)) (hI a (313 + 2 + i)) (hI b (hR b 368 i)) (hJ b (hR b 368 i)))
def Fm (a : CH) : Prop := (∀ i, nN a ≤ i → i < 16 → hI a (313 + 2 + i) 0 = -1) ∧ hdN a < nN a ∧ (∀ i j, i < 16 → j < 16 → hI a (313 + 2 + i) 0 = hI a (313 + 2 + j) 0 → ¬ hI a (313 + 2 + i) 0 = -1 → i = j) ∧ ((hI a 300 14 = 0 ∧ ∀ i, i < 16 → hI a (313 + 2 + i) 0 = -1) ∨ (hI a 300 14 = 1 ∧ ∀ s, s < 128 → ¬ hI a 332 s = 0 → ∃ i, i < 16 ∧ hI a (313 + 2 + i) 0 = nI s)) ∧ (∃ k, k ≤ 99 ∧ hI a 300 15 = nI k) ∧ (hI a 300 10 = 108 ∨ hI a 300 10 = 102 ∨ hI a 300 10 = 99) ∧ (∃ k, 1 ≤ k ∧ k ≤ 16 ∧ hI a 300 11 = nI k) ∧ (∃ k, k ≤ 4 ∧ hI a 300 12 = nI k) ∧ (hI a 302 0 = 1 ∧ hI a 306 0 = 0) ∧ ∃ k, k < 64 ∧ hI a 302 4 = nI k
def Wk (a : CH) : Prop := hI a 334 2 = nI (cnt (wkP a 313) (nN a)) ∧ (hI a 334 0 = 0 → ∀ i, i < 16 → hI a (313 + 2 + i) 9 = 0)
def RR (n : Nat) (a b : CH) : Prop := (House a) ∧ (MLay b) ∧ (Sc a b) ∧ (Vl a b) ∧ (Bl a b) ∧ (Lg a b) ∧ (Fi a b) ∧ (Tr a b) ∧ (Im a b) ∧ (Dl b) ∧ (∃ t, t ≤ n ∧ n < 5000 ∧ hI a 313 3 = nI t ∧ hJ b 361 28 = lN t ∧ ∀ i, i < 16 → FrM a b t i) ∧ (Fm a)
theorem RR.hs {n : Nat} {a b : CH} (r : RR n a b) : House a := r.1
theorem RR.ml {n : Nat} {a b : CH} (r : RR n a b) : MLay b := r.2.1
theorem RR.sc {n : Nat} {a b : CH} (r : RR n a b) : Sc a b := r.2.2.1
theorem RR.vl {n : Nat} {a b : CH} (r : RR n a b) : Vl a b := r.2.2.2.1
theorem RR.bl {n : Nat} {a b : CH} (r : RR n a b) : Bl a b := r.2.2.2.2.1
theorem RR.lg {n : Nat} {a b : CH} (r : RR n a b) : Lg a b := r.2.2.2.2.2.1
theorem RR.fi {n : Nat} {a b : CH} (r : RR n a b) : Fi a b := r.2.2.2.2.2.2.1
theorem RR.tr {n : Nat} {a b : CH} (r : RR n a b) : Tr a b := r.2.2.2.2.2.2.2.1
theorem RR.im {n : Nat} {a b : CH} (r : RR n a b) : Im a b := r.2.2.2.2.2.2.2.2.1
theorem RR.dl {n : Nat} {a b : CH} (r : RR n a b) : Dl b := r.2.2.2.2.2.2.2.2.2.1
theorem RR.tm {n : Nat} {a b : CH} (r : RR n a b) : ∃ t, t ≤ n ∧ n < 5000 ∧ hI a 313 3 = nI t ∧ hJ b 361 28 = lN t ∧ ∀ i, i < 16 → FrM a b t i := r.2.2.2.2.2.2.2.2.2.2.1
theorem RR.fm {n : Nat} {a b : CH} (r : RR n a b) : Fm a := r.2.2.2.2.2.2.2.2.2.2.2
theorem RR.of {n : Nat} {a b : CH} (hs : House a) (ml : MLay b) (sc : Sc a b) (vl : Vl a b) (bl : Bl a b) (lg : Lg a b) (fi : Fi a b) (tr : Tr a b) (im : Im a b) (dl : Dl b) (tm : ∃ t, t ≤ n ∧ n < 5000 ∧ hI a 313 3 = nI t ∧ hJ b 361 28 = lN t ∧ ∀ i, i < 16 → FrM a b t i) (fm : Fm a) : RR n a b := ⟨hs, ml, sc, vl, bl, lg, fi, tr, im, dl, tm, fm⟩
/-! how each part is kept -/
theorem MLay_cg {b b' : CH} (M : MLay b) (t : ∀ x, 361 ≤ x → x < 373 → hT b' x = hT b x) (r : ∀ k, hR b' 361 k = hR b 361 k) (n : hN b ≤ hN b') : MLay b' := by
  unfold MLay at M ⊢
  rw [t 361 (by omega) (by omega), t 362 (by omega) (by omega), t 363 (by omega) (by omega), t 364 (by omega) (by omega), t 365 (by omega) (by omega), t 366 (by omega) (by omega), t 367 (by omega) (by omega), t 368 (by omega) (by omega), t 369 (by omega) (by omega), t 370 (by omega) (by omega), t 371 (by omega) (by omega), t 372 (by omega) (by omega)]
  simp only [r]
  obtain ⟨m0, m1, m2, m3, m4, m5, m6, m7, m8, m9, m10, m11, m12, m13, m14, m15, m16, m17, m18, m19, m20, m21, m22, m23⟩ := M
  exact ⟨m0, m1, m2, m3, m4, m5, m6, m7, m8, m9, m10, m11, m12, m13, m14, m15, m16, m17, m18, m19, m20, m21, m22, Nat.le_trans m23 n⟩
theorem scl_uq : ∀ p ∈ scl, ∀ q ∈ scl, (p.1 = q.1 ↔ (p.2.1 = q.2.1 ∧ p.2.2 = q.2.2)) := by decide
theorem scl_in : ∀ p ∈ scl, 8 ≤ p.1 ∧ ((p.2.1 = 313 ∧ (p.2.2 = 1 ∨ p.2.2 = 2)) ∨ (p.2.1 = 300 ∧ 10 ≤ p.2.2 ∧ p.2.2 ≤ 15) ∨ (p.2.1 = 302 ∧ p.2.2 = 4) ∨ (p.2.1 = 334 ∧ p.2.2 ≤ 1) ∨ (p.2.1 = 358 ∧ p.2.2 ≤ 4)) := by decide
theorem Sc_set {a b : CH} {k x j : Nat} {v : Int32} (S : Sc a b) (hq : (k, x, j) ∈ scl) : Sc (sI a x j v) (sI b 361 k v) := fun k' x' j' h' => by
  have u := scl_uq _ hq _ h'
  dsimp only at u
  rw [hI_sI, hI_sI]
  by_cases c : k = k'
  · obtain ⟨e1, e2⟩ := u.mp c
    rw [if_pos ⟨rfl, c.symm⟩, if_pos ⟨e1.symm, e2.symm⟩]
  · rw [if_neg (fun q => c q.2.symm), if_neg (fun q => c (u.mpr ⟨q.1.symm, q.2.symm⟩)), S _ _ _ h']
theorem Sc_cg {a a' b b' : CH} (S : Sc a b) (ha : ∀ x k, ((x = 313 ∧ (k = 1 ∨ k = 2)) ∨ (x = 300 ∧ 10 ≤ k ∧ k ≤ 15) ∨ (x = 302 ∧ k = 4) ∨ (x = 334 ∧ k ≤ 1) ∨ (x = 358 ∧ k ≤ 4)) → hI a' x k = hI a x k) (hb : ∀ k, 8 ≤ k → hI b' 361 k = hI b 361 k) : Sc a' b' := fun k x j h => by
  have u := scl_in _ h
  rw [hb k u.1, ha x j u.2, S _ _ _ h]
theorem cVal_cg {a a' : CH} {s : Nat} (hs : s < 128) (ha : ∀ x k, 303 ≤ x → x ≤ 309 → ¬ x = 306 → ¬ x = 305 → hI a' x k = hI a x k) : cVal a' s = cVal a s ∧ cSum a' s = cSum a s := by
  unfold cVal cSum
  exact ⟨ha _ _ (by omega) (by omega) (by omega) (by omega), ha _ _ (by omega) (by omega) (by omega) (by omega)⟩
theorem Vl_cg {a a' b b' : CH} (V : Vl a b) (ha : ∀ x k, 303 ≤ x → x ≤ 309 → ¬ x = 306 → ¬ x = 305 → hI a' x k = hI a x k) (hb : ∀ x k, 362 ≤ x → x ≤ 364 → hI b' x k = hI b x k) : Vl a' b' := ⟨fun s hs => by
  obtain ⟨e1, e2⟩ := cVal_cg hs ha
  rw [hb 362 s (by omega) (by omega), hb 363 s (by omega) (by omega), e1, e2]
  exact V.1 s hs, fun p hp => by rw [hb 364 p (by omega) (by omega), ha 309 p (by omega) (by omega) (by omega) (by omega)]; exact V.2 p hp⟩
theorem Bl_cg {a a' b b' : CH} (B : Bl a b) (ha : ∀ k, k < 3 → hJ a' 360 k = hJ a 360 k) (hb : ∀ k, k < 3 → hJ b' 369 k = hJ b 369 k) : Bl a' b' := fun k hk => by rw [hb k hk, ha k hk]; exact B k hk
theorem cnt_cg {p q : Nat → Bool} : ∀ {n : Nat}, (∀ i, i < n → p i = q i) → cnt p n = cnt q n
  | 0, _ => rfl
  | n + 1, h => by
    show cnt p n + _ = cnt q n + _
    rw [cnt_cg (n := n) (fun i hi => h i (by omega)), h n (by omega)]
theorem Lg_cg {a a' b b' : CH} (L : Lg a b) (ha : ∀ x k, 331 ≤ x → x ≤ 333 → hI a' x k = hI a x k) (hb : ∀ k, k < 128 → hI b' 370 k = hI b 370 k) : Lg a' b' := ⟨fun s hs => by rw [hb s hs, ha 332 s (by omega) (by omega), ha 333 s (by omega) (by omega)]; exact L.1 s hs, by
  rw [ha 331 2 (by omega) (by omega), L.2, cnt_cg (p := lgP a') (q := lgP a) (fun i _ => by unfold lgP; rw [ha 332 i (by omega) (by omega)])]⟩
theorem BoxL_cg {b b' : CH} {la n : Nat} {f f' : Nat → Nat} {caps : List Nat} (B : BoxL b la n f caps) (h2 : hI b' la 2 = hI b la 2) (hr : hR b' la 1 = hR b la 1) (hf : ∀ i, i < n → f' i = f i) (hn : hN b ≤ hN b') (hx : 373 ≤ hR b la 1 → hR b la 1 < hN b → hT b' (hR b la 1) = hT b (hR b la 1) ∧ ∀ k, hR b' (hR b la 1) k = hR b (hR b la 1) k) : BoxL b' la n f' caps := by
  obtain ⟨b1, b2, b3⟩ := B
  refine ⟨h2.trans b1, ?_, fun i hi => ?_⟩
  · rcases b2 with q | ⟨q1, q2, cap, q3, q4, q5, q6⟩
    · exact Or.inl ⟨q.1, hr.trans q.2⟩
    · obtain ⟨x1, x2⟩ := hx q1 q2
      exact Or.inr ⟨by rw [hr]; exact q1, by rw [hr]; exact Nat.lt_of_lt_of_le q2 hn, cap, q3, q4, by rw [hr, x1]; exact q5, fun i hi => by rw [hr, x2]; exact q6 i hi⟩
  · rcases b2 with q | ⟨q1, q2, _⟩
    · omega
    · rw [hr, (hx q1 q2).2, hf i hi]; exact b3 i hi
theorem Fi_cg {a a' b b' : CH} (F : Fi a b) (ha : ∀ x k, ((x = 302 ∨ x = 306) ∧ k = 5) ∨ (310 ≤ x ∧ x ≤ 312) → hI a' x k = hI a x k) (h2 : hI b' 365 2 = hI b 365 2) (hr : hR b' 365 1 = hR b 365 1) (hb : ∀ x k, 366 ≤ x → x ≤ 367 → hI b' x k = hI b x k) (hn : hN b ≤ hN b') (hx : 373 ≤ hR b 365 1 → hR b 365 1 < hN b → hT b' (hR b 365 1) = hT b (hR b 365 1) ∧ ∀ k, hR b' (hR b 365 1) k = hR b (hR b 365 1) k) : Fi a' b' := by
  obtain ⟨c0, c1, f1, f2, f3, f4, f5, f6, f7, f8, f9⟩ := F
  have efc : fcN a' = fcN a := by unfold fcN; rw [ha 310 2 (by omega)]
  have ehm : ∀ i, hmN a' i = hmN a i := fun i => by unfold hmN; rw [ha 311 i (by omega)]
  refine ⟨c0, c1, f1, f2, by rw [ha 302 5 (by omega)]; exact f3, by rw [ha 306 5 (by omega)]; exact f4, by rw [hb 367 0 (by omega) (by omega)]; exact f5, by rw [hb 367 1 (by omega) (by omega)]; exact f6, by rw [efc]; exact f7, ?_, fun f hf => ?_⟩
  · rw [efc]
    exact BoxL_cg f8 h2 hr (fun i _ => ehm i) hn hx
  · rw [efc] at hf
    rw [hb 366 f (by omega) (by omega), ha 312 f (by omega)]
    exact f9 f hf
theorem Tr_cg {a a' b b' : CH} (T : Tr a b) (ha : ∀ x k, (x = 335 ∧ k = 1) ∨ x = 336 → hI a' x k = hI a x k) (h2 : hI b' 372 2 = hI b 372 2) (hr : hR b' 372 1 = hR b 372 1) (hn : hN b ≤ hN b') (hx : 373 ≤ hR b 372 1 → hR b 372 1 < hN b → hT b' (hR b 372 1) = hT b (hR b 372 1) ∧ ∀ k, hR b' (hR b 372 1) k = hR b (hR b 372 1) k) : Tr a' b' := by
  have etr : trN a' = trN a := by unfold trN; rw [ha 335 1 (by omega)]
  refine ⟨fun i hi => ?_, ?_⟩
  · rw [etr] at hi
    rw [ha 336 i (by omega)]
    exact T.1 i hi
  · rw [etr]
    exact BoxL_cg T.2 h2 hr (fun i _ => by unfold trV; rw [ha 336 i (by omega)]) hn hx
theorem FrM_cg {a a' b b' : CH} {t t' i : Nat} (F : FrM a b t i) (ht : t ≤ t') (hn : hN b ≤ hN b') (e1 : ∀ k, hI a' (313 + 2 + i) k = hI a (313 + 2 + i) k) (e2 : ¬ hI a (313 + 2 + i) 0 = -1 → cSum a' (spN a i) = cSum a (spN a i) ∧ hI a' 332 (spN a i) = hI a 332 (spN a i)) (e3 : hR b' 368 i = hR b 368 i) (e4 : 373 ≤ hR b 368 i → hR b 368 i < hN b → (hT b (hR b 368 i)).1 = 15 → (hT b' (hR b 368 i)).1 = 15 ∧ (∀ k, hI b' (hR b 368 i) k = hI b (hR b 368 i) k) ∧ ∀ k, hJ b' (hR b 368 i) k = hJ b (hR b 368 i) k) : FrM a' b' t' i := by
  have es : spN a' i = spN a i := by unfold spN; rw [e1 0]
  rcases F with ⟨f1, f2⟩ | ⟨f1, f2, f3, f4, P⟩
  · exact Or.inl ⟨by rw [e1]; exact f1, by rw [e3]; exact f2⟩
  · obtain ⟨x1, x2, x3⟩ := e4 f3 f4 f2
    obtain ⟨s1, s2⟩ := e2 f1
    refine Or.inr ⟨by rw [e1]; exact f1, by rw [e3]; exact x1, by rw [e3]; exact f3, by rw [e3]; exact Nat.lt_of_lt_of_le f4 hn, ?_⟩
    rw [es, s1, s2, e3, show hI a' (313 + 2 + i) = hI a (313 + 2 + i) from funext e1, show hI b' (hR b 368 i) = hI b (hR b 368 i) from funext x2, show hJ b' (hR b 368 i) = hJ b (hR b 368 i) from funext x3]
    obtain ⟨p1, p2, p3, p4, p5, p6, p7, p8, p9, p10, p11⟩ := P
    refine ⟨p1, p2, p3, p4, fun q => ?_, ?_, ?_, p8, p9, p10, p11⟩
    · obtain ⟨k, k1, k2⟩ := p5 q
      exact ⟨k, Nat.le_trans k1 ht, k2⟩
    · obtain ⟨k, k1, k2⟩ := p6
      exact ⟨k, Nat.le_trans k1 ht, k2⟩
    · obtain ⟨k, k1, k2⟩ := p7
      exact ⟨k, Nat.le_trans k1 ht, k2⟩
theorem Fm_cg {a a' : CH} (F : Fm a) (ha : ∀ x k, (x = 313 ∧ (k = 1 ∨ k = 2)) ∨ (x = 300 ∧ 10 ≤ k ∧ k ≤ 15) ∨ (315 ≤ x ∧ x < 331 ∧ k = 0) ∨ x = 332 ∨ ((x = 302 ∨ x = 306) ∧ (k = 0 ∨ k = 4)) → hI a' x k = hI a x k) : Fm a' := by
  obtain ⟨f1, f2, f3, f4, f5, f6, f7, f8, f9, f10⟩ := F
  have e1 : nN a' = nN a := by unfold nN; rw [ha 313 1 (by omega)]
  have e2 : hdN a' = hdN a := by unfold hdN; rw [ha 313 2 (by omega)]
  refine ⟨fun i h1 h2 => ?_, by rw [e1, e2]; exact f2, fun i j hi hj => ?_, ?_, by rw [ha 300 15 (by omega)]; exact f5, by rw [ha 300 10 (by omega)]; exact f6, by rw [ha 300 11 (by omega)]; exact f7, by rw [ha 300 12 (by omega)]; exact f8, by rw [ha 302 0 (by omega), ha 306 0 (by omega)]; exact f9, by rw [ha 302 4 (by omega)]; exact f10⟩
  · rw [e1] at h1
    rw [ha _ 0 (by omega)]
    exact f1 i h1 h2
  · rw [ha _ 0 (by omega), ha (313 + 2 + j) 0 (by omega)]
    exact f3 i j hi hj
  · rw [ha 300 14 (by omega)]
    rcases f4 with ⟨g1, g2⟩ | ⟨g1, g2⟩
    · exact Or.inl ⟨g1, fun i hi => by rw [ha _ 0 (by omega)]; exact g2 i hi⟩
    · refine Or.inr ⟨g1, fun s hs hq => ?_⟩
      rw [ha 332 s (by omega)] at hq
      obtain ⟨i, hi, e⟩ := g2 s hs hq
      exact ⟨i, hi, by rw [ha _ 0 (by omega)]; exact e⟩
theorem Wk_cg {a a' : CH} (hH : House a) (W : Wk a) (ha : ∀ x k, (x = 313 ∧ k = 1) ∨ (x = 334 ∧ (k = 0 ∨ k = 2)) ∨ (315 ≤ x ∧ x < 331 ∧ k = 9) → hI a' x k = hI a x k) : Wk a' := by
  have e1 : nN a' = nN a := by unfold nN; rw [ha 313 1 (by omega)]
  refine ⟨?_, fun q i hi => ?_⟩
  · rw [ha 334 2 (by omega), e1, W.1]
    have h16 := (Hse_num hH.1).2.2.1
    rw [cnt_cg (p := wkP a' 313) (q := wkP a 313) (fun i hi => by unfold wkP; rw [ha (313 + 2 + i) 9 (by omega)])]
  · rw [ha _ 9 (by omega)]
    rw [ha 334 0 (by omega)] at q
    exact W.2 q i hi
