/-! THE TWO SIDES APART: C the class's cells, D the reference's -/
def Sm (g h : CH) (x : Nat) : Prop := hT g x = hT h x ∧ hI g x = hI h x ∧ hJ g x = hJ h x ∧ hR g x = hR h x
theorem C_all {C : Nat → Prop} {a : CH} (L : Lay a) (c : CloC C a) (c0 : C 300) : ∀ x, 300 ≤ x → x < 361 → C x ∧ x < hN a := by
  obtain ⟨l0, l1, l2, l3, l4, l5, l6, l7, l8, l9, l10, l11, l12, l13, l14, l15, l16, l17, l18, l19, l20⟩ := L
  have st : ∀ x k y, C x → hR a x k = y → C y ∧ y < hN a := fun x k y h e => by
    rw [← e]
    exact c.2.2.1 x k h
  have c301 := st 300 0 301 c0 l1
  have c310 := st 300 1 310 c0 l2
  have c313 := st 300 2 313 c0 l3
  have c331 := st 300 3 331 c0 l4
  have c334 := st 300 4 334 c0 l5
  have c335 := st 300 5 335 c0 l6
  have c358 := st 300 6 358 c0 l7
  have c359 := st 300 7 359 c0 l8
  have c360 := st 300 9 360 c0 l9
  have cd : ∀ d, d < 2 → C (302 + 4 * d) ∧ 302 + 4 * d < hN a := fun d hd => st 301 d _ c301.1 (l11 d hd)
  have c314 := st 313 0 314 c313.1 l14.2.1
  have c315 : ∀ i, i < 16 → C (313 + 2 + i) ∧ 313 + 2 + i < hN a := fun i hi => st 314 i _ c314.1 (l14.2.2.2.1 i hi)
  have c340 := st 335 5 340 c335.1 l17.2.2.2.2.2.1
  have tp : PoolL a 340 := l17.2.2.2.2.2.2.2.2.2.2
  have c341 := st 340 0 341 c340.1 tp.2.1
  have c342 : ∀ i, i < 16 → C (340 + 2 + i) ∧ 340 + 2 + i < hN a := fun i hi => st 341 i _ c341.1 (tp.2.2.2.1 i hi)
  intro x h1 h2
  by_cases q0 : x = 300
  · rw [q0]; exact ⟨c0, by omega⟩
  by_cases q1 : x = 301
  · rw [q1]; exact c301
  by_cases q2 : x < 310
  · have hd : (x - 302) / 4 < 2 := by omega
    obtain ⟨d0, d1, d2, d3, -⟩ := l12 ((x - 302) / 4) hd
    have cdd := (cd ((x - 302) / 4) hd)
    rcases (by omega : (x - 302) % 4 = 0 ∨ (x - 302) % 4 = 1 ∨ (x - 302) % 4 = 2 ∨ (x - 302) % 4 = 3) with r | r | r | r
    · rw [show x = 302 + 4 * ((x - 302) / 4) by omega]; exact cdd
    · rw [show x = 302 + 4 * ((x - 302) / 4) + 1 by omega]; exact st _ 1 _ cdd.1 d1
    · rw [show x = 302 + 4 * ((x - 302) / 4) + 2 by omega]; exact st _ 2 _ cdd.1 d2
    · rw [show x = 302 + 4 * ((x - 302) / 4) + 3 by omega]; exact st _ 3 _ cdd.1 d3
  by_cases q3 : x = 310
  · rw [q3]; exact c310
  by_cases q4 : x = 311
  · rw [q4]; exact st 310 0 311 c310.1 l13.2.1
  by_cases q5 : x = 312
  · rw [q5]; exact st 310 1 312 c310.1 l13.2.2.1
  by_cases q6 : x = 313
  · rw [q6]; exact c313
  by_cases q7 : x = 314
  · rw [q7]; exact c314
  by_cases q8 : x < 331
  · rw [show x = 313 + 2 + (x - 315) by omega]; exact c315 _ (by omega)
  by_cases q9 : x = 331
  · rw [q9]; exact c331
  by_cases q10 : x = 332
  · rw [q10]; exact st 331 0 332 c331.1 l15.2.1
  by_cases q11 : x = 333
  · rw [q11]; exact st 331 1 333 c331.1 l15.2.2.1
  by_cases q12 : x = 334
  · rw [q12]; exact c334
  by_cases q13 : x = 335
  · rw [q13]; exact c335
  by_cases q14 : x = 336
  · rw [q14]; exact st 335 0 336 c335.1 l17.2.1
  by_cases q15 : x = 337
  · rw [q15]; exact st 335 2 337 c335.1 l17.2.2.1
  by_cases q16 : x = 338
  · rw [q16]; exact st 335 3 338 c335.1 l17.2.2.2.1
  by_cases q17 : x = 339
  · rw [q17]; exact st 335 4 339 c335.1 l17.2.2.2.2.1
  by_cases q18 : x = 340
  · rw [q18]; exact c340
  by_cases q19 : x = 341
  · rw [q19]; exact c341
  by_cases q20 : x < 358
  · rw [show x = 340 + 2 + (x - 342) by omega]; exact c342 _ (by omega)
  by_cases q21 : x = 358
  · rw [q21]; exact c358
  by_cases q22 : x = 359
  · rw [q22]; exact c359
  · rw [show x = 360 by omega]; exact c360
theorem D_all {D : Nat → Prop} {b : CH} (M : MLay b) (c : CloC D b) (d0 : D 361) : ∀ x, 361 ≤ x → x < 373 → D x ∧ x < hN b := by
  obtain ⟨m0, m1, m2, m3, m4, m5, m6, m7, m8, m9, m10, m11, m12, m13, m14, m15, m16, m17, m18, m19, m20, m21, m22, m23⟩ := M
  have st : ∀ x k y, D x → hR b x k = y → D y ∧ y < hN b := fun x k y h e => by
    rw [← e]
    exact c.2.2.1 x k h
  intro x h1 h2
  rcases (by omega : x = 361 ∨ x = 362 ∨ x = 363 ∨ x = 364 ∨ x = 365 ∨ x = 366 ∨ x = 367 ∨ x = 368 ∨ x = 369 ∨ x = 370 ∨ x = 371 ∨ x = 372) with q | q | q | q | q | q | q | q | q | q | q | q
  · rw [q]; exact ⟨d0, by omega⟩
  · rw [q]; exact st 361 _ _ d0 m1
  · rw [q]; exact st 361 _ _ d0 m2
  · rw [q]; exact st 361 _ _ d0 m3
  · rw [q]; exact st 361 _ _ d0 m4
  · rw [q]; exact st 361 _ _ d0 m5
  · rw [q]; exact st 361 _ _ d0 m6
  · rw [q]; exact st 361 _ _ d0 m7
  · rw [q]; exact st 361 _ _ d0 m8
  · rw [q]; exact st 361 _ _ d0 m9
  · rw [q]; exact st 361 _ _ d0 m10
  · rw [q]; exact st 361 _ _ d0 m11
theorem House_sm {a a' : CH} (H : House a) (e : ∀ x, 300 ≤ x → x < 361 → Sm a' a x) : House a' := by
  have S : Same a' a 301 359 := fun x h1 h2 => by
    obtain ⟨z1, z2, z3, z4⟩ := e x (by omega) (by omega)
    exact ⟨z1, z2, z3, z4⟩
  have L : Lay a' := Lay_ext H.1.1 S (e 300 (by omega) (by omega)).1 (e 300 (by omega) (by omega)).2.2.2 (e 359 (by omega) (by omega)).1 (e 360 (by omega) (by omega)).1
  have eI : ∀ x k, 300 ≤ x → x < 361 → hI a' x k = hI a x k := fun x k h1 h2 => by rw [(e x h1 h2).2.1]
  refine ⟨⟨L, fun x k => ?_⟩, Hol_cg (fun i k hi _ => eI _ _ (by omega) (by omega)) H.2⟩
  by_cases c : 300 ≤ x ∧ x < 361
  · rw [eI x k c.1 c.2]
    exact H.1.2 x k
  · exact OkC_of (by omega)
theorem inv_sm {n : Nat} {a a' : CH} (I : INV n a) (e : ∀ x, 300 ≤ x → x < 361 → Sm a' a x) : INV n a' := inv_KW I (kw_same (fun x k w => by rw [(e x (by unfold Vt at w; omega) (by unfold Vt at w; omega)).2.1]))
theorem Im2 {C D : Nat → Prop} {a a' b b' : CH} (I : Im a b) (L : Lay a) (M : MLay b) (ca : CloC C a) (c0 : C 300) (ea : ∀ x, C x → 300 ≤ x → x < hN a → Sm a' a x) (cb : CloC D b) (d0 : D 361) (eb : ∀ x, D x → 300 ≤ x → x < hN b → Sm b' b x) (nb : hN b ≤ hN b') : Im a' b' := by
  obtain ⟨⟨g1, g2, g3⟩, i2, i3, i4⟩ := I
  have Ca := C_all L ca c0
  have Db := D_all M cb d0
  have e300 := ea 300 (Ca 300 (by omega) (by omega)).1 (by omega) (Ca 300 (by omega) (by omega)).2
  have e359 := ea 359 (Ca 359 (by omega) (by omega)).1 (by omega) (Ca 359 (by omega) (by omega)).2
  have e371 := eb 371 (Db 371 (by omega) (by omega)).1 (by omega) (Db 371 (by omega) (by omega)).2
  have en : imN a' = imN a := by unfold imN; rw [e300.2.1]
  have cl := fun x k (h : C x) => ca.2.2.1 x k h
  have dl := fun x k (h : D x) => cb.2.2.1 x k h
  have c359 := (Ca 359 (by omega) (by omega)).1
  have d371 := (Db 371 (by omega) (by omega)).1
  have qe : ∀ k, k < imN a → Sm a' a (hR a 359 k) ∧ Sm a' a (hR a (hR a 359 k) 1) ∧ Sm a' a (hR a (hR a 359 k) 2) := fun k hk => by
    obtain ⟨u1, u2, u3, u4, u5, u6, u7⟩ := g3 k hk
    have z := cl 359 k c359
    have z1 := cl _ 1 z.1
    have z2 := cl _ 2 z.1
    exact ⟨ea _ z.1 (by omega) z.2, ea _ z1.1 (by omega) z1.2, ea _ z2.1 (by omega) z2.2⟩
  refine ⟨⟨by rw [en, e300.2.1]; exact g1, by rw [en]; exact g2, fun k hk => ?_⟩, ?_, ?_, fun k hk => ?_⟩
  · rw [en] at hk
    obtain ⟨s1, s2, s3⟩ := qe k hk
    rw [e359.2.2.2, s1.1, s1.2.1, s1.2.2.2, s2.1, s3.1]
    exact g3 k hk
  · rw [e371.2.1, en]
    exact i2
  · rw [en, e371.2.2.2]
    rcases i3 with q | ⟨q1, q2, q3⟩
    · exact Or.inl q
    · have z := dl 371 1 d371
      exact Or.inr ⟨q1, by omega, by rw [(eb _ z.1 (by omega) z.2).1]; exact q3⟩
  · rw [en] at hk
    obtain ⟨s1, s2, s3⟩ := qe k hk
    have hx : 373 ≤ hR b 371 1 ∧ hR b 371 1 < hN b := by
      rcases i3 with q | ⟨q1, q2, q3⟩
      · omega
      · exact ⟨q1, q2⟩
    have z := dl 371 1 d371
    have ez := eb _ z.1 (by omega) z.2
    obtain ⟨q1, q2, q3, q4, q5, q6, q7, q8, q9, q10, q11⟩ := i4 k hk
    have w := dl _ k z.1
    have ew := eb _ w.1 (by omega) w.2
    have w1 := dl _ 1 w.1
    have w2 := dl _ 2 w.1
    have ew1 := eb _ w1.1 (by omega) w1.2
    have ew2 := eb _ w2.1 (by omega) w2.2
    rw [e371.2.2.2, ez.2.2.2, e359.2.2.2]
    unfold ImO
    rw [ew.1, ew.2.1, ew.2.2.2, ew1.1, ew2.1, ew1.2.1, ew2.2.1, s1.2.1, s1.2.2.2, s2.2.1, s3.2.1]
    exact ⟨q1, q2, by omega, q4, q5, by omega, q7, by omega, q9, q10, q11⟩
theorem RR2 {n : Nat} {C D : Nat → Prop} {a a' b b' : CH} (R : RR n a b) (ca : CloC C a) (c0 : C 300) (ea : ∀ x, C x → 300 ≤ x → x < hN a → Sm a' a x) (cb : CloC D b) (d0 : D 361) (eb : ∀ x, D x → 300 ≤ x → x < hN b → Sm b' b x) (nb : hN b ≤ hN b') : RR n a' b' := by
  have Ca := C_all R.hs.1.1 ca c0
  have Db := D_all R.ml cb d0
  have dl := fun x k (h : D x) => cb.2.2.1 x k h
  have xa : ∀ x, 300 ≤ x → x < 361 → Sm a' a x := fun x h1 h2 => ea x (Ca x h1 h2).1 h1 (Ca x h1 h2).2
  have xb : ∀ x, 361 ≤ x → x < 373 → Sm b' b x := fun x h1 h2 => eb x (Db x h1 h2).1 (by omega) (Db x h1 h2).2
  have aI : ∀ x k, 300 ≤ x → x < 361 → hI a' x k = hI a x k := fun x k h1 h2 => by rw [(xa x h1 h2).2.1]
  have bI : ∀ x k, 361 ≤ x → x < 373 → hI b' x k = hI b x k := fun x k h1 h2 => by rw [(xb x h1 h2).2.1]
  have bR : ∀ x k, 361 ≤ x → x < 373 → hR b' x k = hR b x k := fun x k h1 h2 => by rw [(xb x h1 h2).2.2.2]
  have la : ∀ x k, 361 ≤ x → x < 373 → 373 ≤ hR b x k → hT b' (hR b x k) = hT b (hR b x k) ∧ ∀ j, hR b' (hR b x k) j = hR b (hR b x k) j := fun x k h1 h2 h3 => by
    have z := dl x k (Db x h1 h2).1
    have e := eb _ z.1 (by omega) z.2
    exact ⟨e.1, fun j => by rw [e.2.2.2]⟩
  obtain ⟨t, t1, t2, t3, t4, t5⟩ := R.tm
  refine RR.of (House_sm R.hs xa) (MLay_cg R.ml (fun x h1 h2 => (xb x h1 h2).1) (fun k => bR _ _ (by omega) (by omega)) nb) (Sc_cg R.sc (fun x k q => aI _ _ (by omega) (by omega)) (fun k hk => bI _ _ (by omega) (by omega))) (Vl_cg R.vl (fun x k h1 h2 h3 h4 => aI _ _ (by omega) (by omega)) (fun x k h1 h2 => bI _ _ (by omega) (by omega))) (Bl_cg R.bl (fun k _ => by rw [(xa 360 (by omega) (by omega)).2.2.1]) (fun k _ => by rw [(xb 369 (by omega) (by omega)).2.2.1])) (Lg_cg R.lg (fun x k h1 h2 => aI _ _ (by omega) (by omega)) (fun k hk => bI _ _ (by omega) (by omega))) (Fi_cg R.fi (fun x k q => aI _ _ (by omega) (by omega)) (bI _ _ (by omega) (by omega)) (bR _ _ (by omega) (by omega)) (fun x k h1 h2 => bI _ _ (by omega) (by omega)) nb (fun h1 h2 => la _ _ (by omega) (by omega) h1)) (Tr_cg R.tr (fun x k q => aI _ _ (by omega) (by omega)) (bI _ _ (by omega) (by omega)) (bR _ _ (by omega) (by omega)) nb (fun h1 h2 => la _ _ (by omega) (by omega) h1)) (Im2 R.im R.hs.1.1 R.ml ca c0 ea cb d0 eb nb) ?_ ⟨t, t1, t2, (aI _ _ (by omega) (by omega)).trans t3, by rw [(xb 361 (by omega) (by omega)).2.2.1]; exact t4, fun i hi => ?_⟩ (Fm_cg R.fm (fun x k q => aI _ _ (by omega) (by omega)))
  · have d := R.dl
    unfold Dl at d ⊢
    rw [bR 365 1 (by omega) (by omega), bR 371 1 (by omega) (by omega), bR 372 1 (by omega) (by omega)]
    exact d
  · refine FrM_cg (t5 i hi) (Nat.le_refl _) nb (fun k => aI _ _ (by omega) (by omega)) (fun q => ⟨(cVal_cg (fr_sp R hi q).2 (fun x k h1 h2 h3 h4 => aI _ _ (by omega) (by omega))).2, aI _ _ (by omega) (by omega)⟩) (bR _ _ (by omega) (by omega)) (fun h1 h2 h3 => ?_)
    have z := dl 368 i (Db 368 (by omega) (by omega)).1
    have e := eb _ z.1 (by omega) z.2
    exact ⟨by rw [e.1]; exact h3, fun k => by rw [e.2.1], fun k => by rw [e.2.2.1]⟩
/-- the state of a run between two calls -/
def SEP (C D : Nat → Prop) (o d : Nat) (h : CH) : Prop := CloC C h ∧ CloC D h ∧ C 300 ∧ D 361 ∧ (∀ a, W0 ≤ a → a < hN h → C a → ¬ D a) ∧ (W0 ≤ o ∧ o < hN h ∧ ¬ C o ∧ ¬ D o ∧ hT h o = (101, 1)) ∧ (W0 ≤ d ∧ d < hN h ∧ ¬ C d ∧ ¬ D d ∧ hT h d = (103, 1)) ∧ ∀ a k, ¬ C a → ¬ D a → hR h a k = 0
def LI (t o d : Nat) (h : CH) : Prop := ∃ C D, SEP C D o d h ∧ RR (5 * t) h h ∧ INV t h
/-- the same but for the two rows of answers -/
def Oth (o d : Nat) (h1 h2 : CH) : Prop := hN h2 = hN h1 ∧ hT h2 = hT h1 ∧ hR h2 = hR h1 ∧ (∀ x, ¬ x = o → ¬ x = d → hI h2 x = hI h1 x ∧ hJ h2 x = hJ h1 x)
theorem oth_rfl (o d : Nat) (h : CH) : Oth o d h h := ⟨rfl, rfl, rfl, fun _ _ _ => ⟨rfl, rfl⟩⟩
theorem oth_sJ {o d k : Nat} {h : CH} {v : Int64} : Oth o d h (sJ h o k v) := ⟨rfl, rfl, rfl, fun x h1 _ => ⟨rfl, funext fun j => by rw [hJ_sJ, if_neg (fun z => h1 z.1)]⟩⟩
theorem oth_sD {o d k : Nat} {h : CH} {v : UInt64} : Oth o d h (sD h d k v) := ⟨rfl, rfl, rfl, fun _ _ _ => ⟨rfl, rfl⟩⟩
theorem clo_oth {C : Nat → Prop} {o d : Nat} {h1 h2 : CH} (c : CloC C h1) (O : Oth o d h1 h2) : CloC C h2 := by
  obtain ⟨o1, o2, o3, o4⟩ := O
  unfold CloC CB at c ⊢
  rw [o1, o2, o3]
  exact c
/-- behind the class's call: h before, h1 behind it, h2 when the answer is put down -/
theorem sep_mid {C D : Nat → Prop} {n o d : Nat} {h h1 h2 : CH} (S : SEP C D o d h) (R : RR n h h) (c1 : CloC C h1) (f1 : Fr C h h1) (O : Oth o d h1 h2) : ∃ D', SEP C D' o d h2 ∧ RR n h h2 := by
  obtain ⟨s1, s2, s3, s4, s5, ⟨p1, p2, p3, p4, p5⟩, ⟨q1, q2, q3, q4, q5⟩, z0⟩ := S
  have hn := f1.1
  have on := O.1
  have hW : W0 ≤ hN h := W0_hN s2
  have w300 : W0 = 300 := rfl
  have same : ∀ x, W0 ≤ x → ¬ C x → ¬ x = o → ¬ x = d → Sm h2 h x := fun x hx hc ho hd => by
    obtain ⟨a1, a2, a3, a4, a5⟩ := f1.2 x hc
    obtain ⟨b1, b2⟩ := O.2.2.2 x ho hd
    exact ⟨by rw [O.2.1]; exact a1, b1.trans a2, b2.trans a3, by rw [O.2.2.1]; exact a4⟩
  have ne : ∀ x, D x → ¬ x = o ∧ ¬ x = d := fun x hx => ⟨fun e => p4 (e ▸ hx), fun e => q4 (e ▸ hx)⟩
  have dS : ∀ x, D x → W0 ≤ x → x < hN h → Sm h2 h x := fun x hx hw hl => same x hw (fun z => s5 x hw hl z hx) (ne x hx).1 (ne x hx).2
  refine ⟨fun x => (x < hN h ∧ D x) ∨ hN h1 ≤ x, ⟨clo_oth c1 O, ⟨fun x hx => Or.inr (by omega), fun x hx => ⟨Or.inl ⟨by omega, (s2.2.1 x hx).1⟩, by omega⟩, fun x k hx => ?_, fun x hx => ?_, fun x k hx => ?_⟩, s3, Or.inl ⟨?_, s4⟩, fun x h1 h2 h3 h4 => ?_, ⟨p1, by omega, p3, fun z => z.elim (fun z => p4 z.2) (fun z => by omega), by rw [O.2.1, (f1.2 o p3).1]; exact p5⟩, ⟨q1, by omega, q3, fun z => z.elim (fun z => q4 z.2) (fun z => by omega), by rw [O.2.1, (f1.2 d q3).1]; exact q5⟩, fun x k g1 g2 => ?_⟩, ?_⟩
  · rcases hx with ⟨hx, hd⟩ | hx
    · by_cases w : x < W0
      · rw [O.2.2.1, (c1.2.2.2.1 x w).2 k]
        exact ⟨Or.inl ⟨by omega, (s2.2.1 0 (by omega)).1⟩, by omega⟩
      · have e := dS x hd (by omega) hx
        have z := s2.2.2.1 x k hd
        rw [e.2.2.2]
        exact ⟨Or.inl ⟨z.2, z.1⟩, by have := z.2; omega⟩
    · rw [O.2.2.1, c1.2.2.2.2 x k hx]
      exact ⟨Or.inl ⟨by omega, (s2.2.1 0 (by omega)).1⟩, by omega⟩
  · rw [O.2.1, O.2.2.1]
    exact c1.2.2.2.1 x hx
  · rw [O.2.2.1]
    exact c1.2.2.2.2 x k (by omega)
  · exact (D_all R.ml s2 s4 361 (by omega) (by omega)).2
  · rcases h4 with ⟨h4, h5⟩ | h4
    · exact s5 x h1 h4 h3 h5
    · omega
  · have l1 : x < hN h1 := Nat.lt_of_not_le (fun z => g2 (Or.inr z))
    have l2 : x < hN h := Nat.lt_of_not_le (fun z => g1 (s1.1 x z))
    rw [O.2.2.1, (f1.2 x g1).2.2.2.1]
    exact z0 x k g1 (fun z => g2 (Or.inl ⟨l2, z⟩))
  · exact RR2 R s1 s3 (fun x _ _ _ => ⟨rfl, rfl, rfl, rfl⟩) s2 s4 (fun x h1 h2 h3 => dS x h1 (by omega) h3) (by omega)
/-- behind the reference's call -/
theorem sep_end {C D : Nat → Prop} {n t o d : Nat} {h1 h2 b' : CH} (S : SEP C D o d h2) (O : Oth o d h1 h2) (c1 : CloC C h1) (R : RR n h1 b') (I : INV t h1) (c2 : CloC D b') (f2 : Fr D h2 b') : ∃ C', SEP C' D o d b' ∧ RR n b' b' ∧ INV t b' := by
  obtain ⟨s1, s2, s3, s4, s5, ⟨p1, p2, p3, p4, p5⟩, ⟨q1, q2, q3, q4, q5⟩, z0⟩ := S
  have hn := f2.1
  have on := O.1
  have hW : W0 ≤ hN h2 := W0_hN s2
  have w300 : W0 = 300 := rfl
  have same : ∀ x, W0 ≤ x → ¬ D x → ¬ x = o → ¬ x = d → Sm b' h1 x := fun x hx hc ho hd => by
    obtain ⟨a1, a2, a3, a4, a5⟩ := f2.2 x hc
    obtain ⟨b1, b2⟩ := O.2.2.2 x ho hd
    exact ⟨a1.trans (by rw [O.2.1]), a2.trans b1, a3.trans b2, a4.trans (by rw [O.2.2.1])⟩
  have ne : ∀ x, C x → ¬ x = o ∧ ¬ x = d := fun x hx => ⟨fun e => p3 (e ▸ hx), fun e => q3 (e ▸ hx)⟩
  have cS : ∀ x, C x → W0 ≤ x → x < hN h1 → Sm b' h1 x := fun x hx hw hl => same x hw (fun z => s5 x hw (by omega) hx z) (ne x hx).1 (ne x hx).2
  have Rbb : RR n b' b' := RR2 R c1 s3 (fun x h1 h2 h3 => cS x h1 (by omega) h3) c2 s4 (fun x _ _ _ => ⟨rfl, rfl, rfl, rfl⟩) (Nat.le_refl _)
  have Ca := C_all R.hs.1.1 c1 s3
  refine ⟨fun x => (x < hN h2 ∧ C x) ∨ hN b' ≤ x, ⟨⟨fun x hx => Or.inr hx, fun x hx => ⟨Or.inl ⟨by omega, (s1.2.1 x hx).1⟩, by omega⟩, fun x k hx => ?_, fun x hx => c2.2.2.2.1 x hx, fun x k hx => c2.2.2.2.2 x k hx⟩, c2, Or.inl ⟨by have := (Ca 300 (by omega) (by omega)).2; omega, s3⟩, s4, fun x h1 h2 h3 h4 => ?_, ⟨p1, by omega, fun z => z.elim (fun z => p3 z.2) (fun z => by omega), p4, by rw [(f2.2 o p4).1]; exact p5⟩, ⟨q1, by omega, fun z => z.elim (fun z => q3 z.2) (fun z => by omega), q4, by rw [(f2.2 d q4).1]; exact q5⟩, fun x k g1 g2 => ?_⟩, Rbb, ?_⟩
  · rcases hx with ⟨hx, hd⟩ | hx
    · by_cases w : x < W0
      · rw [(c2.2.2.2.1 x w).2 k]
        exact ⟨Or.inl ⟨by omega, (s1.2.1 0 (by omega)).1⟩, by omega⟩
      · have e := cS x hd (by omega) (by omega)
        have z := c1.2.2.1 x k hd
        rw [e.2.2.2]
        exact ⟨Or.inl ⟨by have := z.2; omega, z.1⟩, by have := z.2; omega⟩
    · rw [c2.2.2.2.2 x k hx]
      exact ⟨Or.inl ⟨by omega, (s1.2.1 0 (by omega)).1⟩, by omega⟩
  · rcases h3 with ⟨h3, h5⟩ | h3
    · exact s5 x h1 h3 h5 h4
    · omega
  · have l1 : x < hN h2 := Nat.lt_of_not_le (fun z => g2 (s2.1 x z))
    rw [(f2.2 x g2).2.2.2.1]
    exact z0 x k (fun z => g1 (Or.inl ⟨l1, z⟩)) g2
  · exact inv_sm I (fun x h1 h2 => cS x (Ca x h1 h2).1 (by omega) (Ca x h1 h2).2)
