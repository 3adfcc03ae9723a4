/-! THE LAW'S HELPERS (printed by wip/whole/gar.py) -/
def Lar : List (String × Int32) := [("java/lang/ArithmeticException", 1)]
def cBits (h : CH) : List Value ⊕ String := if accS h = 0 then .inr "java/lang/ArithmeticException" else .inl [.int (shareV h).toInt32]
theorem bits_okC {n : Nat} {a : CH} {Q : QT} (hH : House a) (C : CtI n a) (hn : n ≤ 8192) (k : Q (cBits a) a) : wX9_getHitBits [.ref 300] a Q := by
  unfold cBits at k
  refine getHitBits_C hH C hn (fun q => ?_) (fun q => ?_)
  · rw [if_neg q] at k; exact k
  · rw [if_pos q] at k; exact k
theorem bits_R {n : Nat} {a b : CH} {Q : QT} (R : RR n a b) (k : ∀ b' r, RR n a b' → Ans (cBits a) Lar (hI b' 361 0) r → Q (.inl [.int r]) b') : wX12_getHitBits [.ref 361] b Q := by
  unfold cBits at k
  refine getHitBits_R' R (fun b' R' h0 q => ?_) (fun b' R' h1 q => ?_)
  · rw [if_neg q] at k; exact k b' _ R' ⟨h0, rfl⟩
  · rw [if_pos q] at k; exact k b' _ R' (show ("java/lang/ArithmeticException", hI b' 361 0) ∈ Lar by rw [h1]; decide)
theorem lok_Laf : LOk Laf := by
  unfold LOk
  decide
theorem lok_Lsf : LOk Lsf := by
  unfold LOk
  decide
theorem lok_Liae : LOk Liae := by
  unfold LOk
  decide
theorem lok_Lrd : LOk Lrd := by
  unfold LOk
  decide
theorem lok_Lwr : LOk Lwr := by
  unfold LOk
  decide
theorem lok_Lpin : LOk Lpin := by
  unfold LOk
  decide
theorem lok_Liob : LOk Liob := by
  unfold LOk
  decide
theorem lok_Luns : LOk Luns := by
  unfold LOk
  decide
theorem lok_Lsy : LOk Lsy := by
  unfold LOk
  decide
theorem lok_Lfa : LOk Lfa := by
  unfold LOk
  decide
theorem lok_Ldm : LOk Ldm := by
  unfold LOk
  decide
theorem lok_Llb : LOk Llb := by
  unfold LOk
  decide
theorem lok_Lar : LOk Lar := by
  unfold LOk
  decide
theorem eok_addFile {h : CH} {x : Int32} : EOK Laf (cAddFile h x).2 := by
  unfold cAddFile
  repeat' split
  all_goals first | exact ⟨_, rfl⟩ | exact ⟨1, by decide⟩ | exact ⟨2, by decide⟩ | exact ⟨3, by decide⟩ | exact ⟨4, by decide⟩
theorem eok_setFrames {h : CH} {x : Int32} : EOK Lsf (cSetFrames h x).2 := by
  unfold cSetFrames
  repeat' split
  all_goals first | exact ⟨_, rfl⟩ | exact ⟨1, by decide⟩ | exact ⟨2, by decide⟩ | exact ⟨3, by decide⟩ | exact ⟨4, by decide⟩
theorem eok_setPolicy {h : CH} {x : Int32} : EOK Liae (cPol h x).2 := by
  unfold cPol
  repeat' split
  all_goals first | exact ⟨_, rfl⟩ | exact ⟨1, by decide⟩ | exact ⟨2, by decide⟩ | exact ⟨3, by decide⟩ | exact ⟨4, by decide⟩
theorem eok_setLimit {h : CH} {x : Int32} : EOK Liae (cSetI h 11 1 16 x).2 := by
  unfold cSetI
  repeat' split
  all_goals first | exact ⟨_, rfl⟩ | exact ⟨1, by decide⟩ | exact ⟨2, by decide⟩ | exact ⟨3, by decide⟩ | exact ⟨4, by decide⟩
theorem eok_setWindow {h : CH} {x : Int32} : EOK Liae (cSetI h 12 0 4 x).2 := by
  unfold cSetI
  repeat' split
  all_goals first | exact ⟨_, rfl⟩ | exact ⟨1, by decide⟩ | exact ⟨2, by decide⟩ | exact ⟨3, by decide⟩ | exact ⟨4, by decide⟩
theorem eok_setTenant {h : CH} {x : Int32} : EOK Liae (cSetI h 13 0 2 x).2 := by
  unfold cSetI
  repeat' split
  all_goals first | exact ⟨_, rfl⟩ | exact ⟨1, by decide⟩ | exact ⟨2, by decide⟩ | exact ⟨3, by decide⟩ | exact ⟨4, by decide⟩
theorem eok_read {h : CH} {x y : Int32} : EOK Lrd (cRead h x y).2 := by
  unfold cRead cRd1 cRd2
  repeat' split
  all_goals first | exact ⟨_, rfl⟩ | exact ⟨1, by decide⟩ | exact ⟨2, by decide⟩ | exact ⟨3, by decide⟩ | exact ⟨4, by decide⟩
theorem eok_write {h : CH} {x y v : Int32} : EOK Lwr (cWrite h x y v).2 := by
  unfold cWrite cWr1 cWr2 cWr3
  repeat' split
  all_goals first | exact ⟨_, rfl⟩ | exact ⟨1, by decide⟩ | exact ⟨2, by decide⟩ | exact ⟨3, by decide⟩ | exact ⟨4, by decide⟩
theorem eok_pin {h : CH} {x y : Int32} : EOK Lpin (cPin h x y).2 := by
  unfold cPin
  repeat' split
  all_goals first | exact ⟨_, rfl⟩ | exact ⟨1, by decide⟩ | exact ⟨2, by decide⟩ | exact ⟨3, by decide⟩ | exact ⟨4, by decide⟩
theorem eok_unpin {h : CH} {x y : Int32} : EOK Lpin (cUnpin h x y).2 := by
  unfold cUnpin
  repeat' split
  all_goals first | exact ⟨_, rfl⟩ | exact ⟨1, by decide⟩ | exact ⟨2, by decide⟩ | exact ⟨3, by decide⟩ | exact ⟨4, by decide⟩
theorem eok_frameOf {h : CH} {x y : Int32} : EOK Liob (cFrameOf h x y) := by
  unfold cFrameOf
  repeat' split
  all_goals first | exact ⟨_, rfl⟩ | exact ⟨1, by decide⟩ | exact ⟨2, by decide⟩ | exact ⟨3, by decide⟩ | exact ⟨4, by decide⟩
theorem eok_isDirty {h : CH} {x y : Int32} : EOK Liob (cIsDirty h x y) := by
  unfold cIsDirty
  repeat' split
  all_goals first | exact ⟨_, rfl⟩ | exact ⟨1, by decide⟩ | exact ⟨2, by decide⟩ | exact ⟨3, by decide⟩ | exact ⟨4, by decide⟩
theorem eok_onPlace {h : CH} {x y : Int32} : EOK Liob (cOnPlace h x y) := by
  unfold cOnPlace
  repeat' split
  all_goals first | exact ⟨_, rfl⟩ | exact ⟨1, by decide⟩ | exact ⟨2, by decide⟩ | exact ⟨3, by decide⟩ | exact ⟨4, by decide⟩
theorem eok_begin {h : CH} : EOK Luns (cBegin h).2 := by
  unfold cBegin
  repeat' split
  all_goals first | exact ⟨_, rfl⟩ | exact ⟨1, by decide⟩ | exact ⟨2, by decide⟩ | exact ⟨3, by decide⟩ | exact ⟨4, by decide⟩
theorem eok_commit {h : CH} : EOK Luns (cCommit h).2 := by
  unfold cCommit cCom2 cCom3 cCom4
  repeat' split
  all_goals first | exact ⟨_, rfl⟩ | exact ⟨1, by decide⟩ | exact ⟨2, by decide⟩ | exact ⟨3, by decide⟩ | exact ⟨4, by decide⟩
theorem eok_abort {h : CH} : EOK Luns (cAbort h).2 := by
  unfold cAbort
  repeat' split
  all_goals first | exact ⟨_, rfl⟩ | exact ⟨1, by decide⟩ | exact ⟨2, by decide⟩ | exact ⟨3, by decide⟩ | exact ⟨4, by decide⟩
theorem eok_checkpoint {h : CH} : EOK Luns (cCheckpoint h).2 := by
  unfold cCheckpoint
  repeat' split
  all_goals first | exact ⟨_, rfl⟩ | exact ⟨1, by decide⟩ | exact ⟨2, by decide⟩ | exact ⟨3, by decide⟩ | exact ⟨4, by decide⟩
theorem eok_sync {h : CH} {x : Int32} : EOK Lsy (cSync h x).2 := by
  unfold cSync cSync2
  repeat' split
  all_goals first | exact ⟨_, rfl⟩ | exact ⟨1, by decide⟩ | exact ⟨2, by decide⟩ | exact ⟨3, by decide⟩ | exact ⟨4, by decide⟩
theorem eok_failAt {h : CH} {x : Int32} : EOK Lfa (cFailAt h x).2 := by
  unfold cFailAt
  repeat' split
  all_goals first | exact ⟨_, rfl⟩ | exact ⟨1, by decide⟩ | exact ⟨2, by decide⟩ | exact ⟨3, by decide⟩ | exact ⟨4, by decide⟩
theorem eok_fail {h : CH} : EOK Luns (cFail h).2 := by
  unfold cFail
  repeat' split
  all_goals first | exact ⟨_, rfl⟩ | exact ⟨1, by decide⟩ | exact ⟨2, by decide⟩ | exact ⟨3, by decide⟩ | exact ⟨4, by decide⟩
theorem eok_powerOn {h : CH} : EOK Luns (cPowerOn h).2 := by
  unfold cPowerOn
  repeat' split
  all_goals first | exact ⟨_, rfl⟩ | exact ⟨1, by decide⟩ | exact ⟨2, by decide⟩ | exact ⟨3, by decide⟩ | exact ⟨4, by decide⟩
theorem eok_damage {h : CH} {x y v : Int32} : EOK Ldm (cDamage h x y v).2 := by
  unfold cDamage
  repeat' split
  all_goals first | exact ⟨_, rfl⟩ | exact ⟨1, by decide⟩ | exact ⟨2, by decide⟩ | exact ⟨3, by decide⟩ | exact ⟨4, by decide⟩
theorem eok_scrub {h : CH} {x : Int32} : EOK Liob (cScrub h x) := by
  unfold cScrub
  repeat' split
  all_goals first | exact ⟨_, rfl⟩ | exact ⟨1, by decide⟩ | exact ⟨2, by decide⟩ | exact ⟨3, by decide⟩ | exact ⟨4, by decide⟩
theorem eok_keepImage {h : CH} {x : Int32} : EOK Laf (cKeepI h x).2 := by
  unfold cKeepI
  repeat' split
  all_goals first | exact ⟨_, rfl⟩ | exact ⟨1, by decide⟩ | exact ⟨2, by decide⟩ | exact ⟨3, by decide⟩ | exact ⟨4, by decide⟩
theorem eok_layBack {h : CH} {x y : Int32} : EOK Llb (cLayBack h x y).2 := by
  unfold cLayBack
  repeat' split
  all_goals first | exact ⟨_, rfl⟩ | exact ⟨1, by decide⟩ | exact ⟨2, by decide⟩ | exact ⟨3, by decide⟩ | exact ⟨4, by decide⟩
theorem eok_getWear {h : CH} {x : Int32} : EOK Liae (cWear h x) := by
  unfold cWear
  repeat' split
  all_goals first | exact ⟨_, rfl⟩ | exact ⟨1, by decide⟩ | exact ⟨2, by decide⟩ | exact ⟨3, by decide⟩ | exact ⟨4, by decide⟩
theorem eok_getBill {h : CH} {x : Int32} : EOKL Liae (cBill h x) := by
  unfold cBill
  repeat' split
  all_goals first | exact ⟨_, rfl⟩ | exact ⟨1, by decide⟩ | exact ⟨2, by decide⟩ | exact ⟨3, by decide⟩ | exact ⟨4, by decide⟩
theorem eok_missesBy {h : CH} {x y : Int32} : EOK Liae (cMissesBy h x y).2 := by
  unfold cMissesBy
  repeat' split
  all_goals first | exact ⟨_, rfl⟩ | exact ⟨1, by decide⟩ | exact ⟨2, by decide⟩ | exact ⟨3, by decide⟩ | exact ⟨4, by decide⟩
theorem eok_framesFor {h : CH} {x : Int32} : EOK Liae (cFramesFor h x).2 := by
  unfold cFramesFor
  repeat' split
  all_goals first | exact ⟨_, rfl⟩ | exact ⟨1, by decide⟩ | exact ⟨2, by decide⟩ | exact ⟨3, by decide⟩ | exact ⟨4, by decide⟩
theorem eok_getHitBits {h : CH} : EOK Lar (cBits h) := by
  unfold cBits
  repeat' split
  all_goals first | exact ⟨_, rfl⟩ | exact ⟨1, by decide⟩ | exact ⟨2, by decide⟩ | exact ⟨3, by decide⟩ | exact ⟨4, by decide⟩
theorem h_addFile {C : Nat → Prop} {h h1 : CH} {o : Nat} {x : Int32} {r1 : List Value ⊕ String} {Q : QT} (a13 : (hT h 300).1 = 13) (cls : Cls C wX9_addFile [.ref 300, .int x] h r1 h1) (e : EOK Laf r1) (ho0 : hT h o = (101, 1)) (hco : ¬ C o) (k : CloC C h1 → Fr C h h1 → ∀ kv h2, HR (fun v => v.toInt64) o Laf r1 h1 kv h2 → Q (.inl [.int kv]) h2) : wL_addFile [.ref 300, .int x, .ref o] h Q := by
  refine wgo (fun X hX => ?_) (by show 3 ≤ 4; decide)
  (refine go mL_addFile hX [] 400 ?_; conv => whnf)
  repeat (first | (refine rs ?_; conv => whnf) | unfold k_call | ((with_reducible refine And.intro ?_ ?_); (first | (first | assumption | rfl | exact True.intro | exact Nat.le_of_ble_eq_true rfl | exact Or.inl rfl | exact Or.inr rfl | exact okv3 (by assumption) | decide | (focus (simp (disch := omega) only [a13, nI_clamp, vp_in_nI, hT_sI, hR_sI, hT_sJ, hR_sJ, hT_sR, hI_sJ, hI_sR, hJ_sI, hJ_sR, hI_eq, hI_ne, hI_nk]; done)) | (focus (simp (disch := omega) only [a13, nI_clamp, vp_in_nI, hT_sI, hR_sI, hT_sJ, hR_sJ, hT_sR, hI_sJ, hI_sR, hJ_sI, hJ_sR, hI_eq, hI_ne, hI_nk]; first | assumption | exact okv3 (by assumption)))) | (focus (refine ⟨_, rfl, ?_⟩; (first | assumption | rfl | exact True.intro | exact Nat.le_of_ble_eq_true rfl | exact Or.inl rfl | exact Or.inr rfl | exact okv3 (by assumption) | decide | (focus (simp (disch := omega) only [a13, nI_clamp, vp_in_nI, hT_sI, hR_sI, hT_sJ, hR_sJ, hT_sR, hI_sJ, hI_sR, hJ_sI, hJ_sR, hI_eq, hI_ne, hI_nk]; done)) | (focus (simp (disch := omega) only [a13, nI_clamp, vp_in_nI, hT_sI, hR_sI, hT_sJ, hR_sJ, hT_sR, hI_sJ, hI_sR, hJ_sI, hJ_sR, hI_eq, hI_ne, hI_nk]; first | assumption | exact okv3 (by assumption)))))))))
  refine cls _ (fun c1 f1 => ?_)
  have ho : hT h1 o = (101, 1) := (f1.2 o hco).1.trans ho0
  have ho1 : (hT h1 o).1 = 101 := by rw [ho]
  have ho2 : vp_in 0 (hT h1 o).2 := vp0 ho
  cases r1 with
  | inl vs =>
    obtain ⟨w, rfl⟩ := e
    repeat (first | (refine rs ?_; conv => whnf) | unfold k_call | ((with_reducible refine And.intro ?_ ?_); (first | (first | assumption | rfl | exact True.intro | exact Nat.le_of_ble_eq_true rfl | exact Or.inl rfl | exact Or.inr rfl | exact okv3 (by assumption) | decide | (focus (simp (disch := omega) only [nI_clamp, vp_in_nI, hT_sI, hR_sI, hT_sJ, hR_sJ, hT_sR, hI_sJ, hI_sR, hJ_sI, hJ_sR, hI_eq, hI_ne, hI_nk]; done)) | (focus (simp (disch := omega) only [nI_clamp, vp_in_nI, hT_sI, hR_sI, hT_sJ, hR_sJ, hT_sR, hI_sJ, hI_sR, hJ_sI, hJ_sR, hI_eq, hI_ne, hI_nk]; first | assumption | exact okv3 (by assumption)))) | (focus (refine ⟨_, rfl, ?_⟩; (first | assumption | rfl | exact True.intro | exact Nat.le_of_ble_eq_true rfl | exact Or.inl rfl | exact Or.inr rfl | exact okv3 (by assumption) | decide | (focus (simp (disch := omega) only [nI_clamp, vp_in_nI, hT_sI, hR_sI, hT_sJ, hR_sJ, hT_sR, hI_sJ, hI_sR, hJ_sI, hJ_sR, hI_eq, hI_ne, hI_nk]; done)) | (focus (simp (disch := omega) only [nI_clamp, vp_in_nI, hT_sI, hR_sI, hT_sJ, hR_sJ, hT_sR, hI_sJ, hI_sR, hJ_sI, hJ_sR, hI_eq, hI_ne, hI_nk]; first | assumption | exact okv3 (by assumption)))))))))
    exact k c1 f1 0 _ (Or.inl ⟨w, rfl, rfl, rfl⟩)
  | inr E =>
    obtain ⟨c, hc⟩ := e
    simp only [Laf, List.mem_cons, List.not_mem_nil, or_false, Prod.mk.injEq] at hc
    rcases hc with ⟨rfl, rfl⟩ | ⟨rfl, rfl⟩
    · show match ([("java/lang/IndexOutOfBoundsException", 13, 3), ("java/lang/IllegalStateException", 16, 3)] : List (String × Nat × Nat)).find? (fun q => q.1 == "java/lang/IndexOutOfBoundsException") with | some q => _ | none => False
      rw [show ([("java/lang/IndexOutOfBoundsException", 13, 3), ("java/lang/IllegalStateException", 16, 3)] : List (String × Nat × Nat)).find? (fun q => q.1 == "java/lang/IndexOutOfBoundsException") = some ("java/lang/IndexOutOfBoundsException", 13, 3) from by decide]
      intro cs ss g1 g2
      (refine go mL_addFile hX [] 400 ?_; conv => whnf)
      repeat (first | (refine rs ?_; conv => whnf) | unfold k_call | ((with_reducible refine And.intro ?_ ?_); (first | (first | assumption | rfl | exact True.intro | exact Nat.le_of_ble_eq_true rfl | exact Or.inl rfl | exact Or.inr rfl | exact okv3 (by assumption) | decide | (focus (simp (disch := omega) only [nI_clamp, vp_in_nI, hT_sI, hR_sI, hT_sJ, hR_sJ, hT_sR, hI_sJ, hI_sR, hJ_sI, hJ_sR, hI_eq, hI_ne, hI_nk]; done)) | (focus (simp (disch := omega) only [nI_clamp, vp_in_nI, hT_sI, hR_sI, hT_sJ, hR_sJ, hT_sR, hI_sJ, hI_sR, hJ_sI, hJ_sR, hI_eq, hI_ne, hI_nk]; first | assumption | exact okv3 (by assumption)))) | (focus (refine ⟨_, rfl, ?_⟩; (first | assumption | rfl | exact True.intro | exact Nat.le_of_ble_eq_true rfl | exact Or.inl rfl | exact Or.inr rfl | exact okv3 (by assumption) | decide | (focus (simp (disch := omega) only [nI_clamp, vp_in_nI, hT_sI, hR_sI, hT_sJ, hR_sJ, hT_sR, hI_sJ, hI_sR, hJ_sI, hJ_sR, hI_eq, hI_ne, hI_nk]; done)) | (focus (simp (disch := omega) only [nI_clamp, vp_in_nI, hT_sI, hR_sI, hT_sJ, hR_sJ, hT_sR, hI_sJ, hI_sR, hJ_sI, hJ_sR, hI_eq, hI_ne, hI_nk]; first | assumption | exact okv3 (by assumption)))))))))
      exact k c1 f1 1 _ (Or.inr ⟨_, rfl, by decide, rfl⟩)
    · show match ([("java/lang/IndexOutOfBoundsException", 13, 3), ("java/lang/IllegalStateException", 16, 3)] : List (String × Nat × Nat)).find? (fun q => q.1 == "java/lang/IllegalStateException") with | some q => _ | none => False
      rw [show ([("java/lang/IndexOutOfBoundsException", 13, 3), ("java/lang/IllegalStateException", 16, 3)] : List (String × Nat × Nat)).find? (fun q => q.1 == "java/lang/IllegalStateException") = some ("java/lang/IllegalStateException", 16, 3) from by decide]
      intro cs ss g1 g2
      (refine go mL_addFile hX [] 400 ?_; conv => whnf)
      repeat (first | (refine rs ?_; conv => whnf) | unfold k_call | ((with_reducible refine And.intro ?_ ?_); (first | (first | assumption | rfl | exact True.intro | exact Nat.le_of_ble_eq_true rfl | exact Or.inl rfl | exact Or.inr rfl | exact okv3 (by assumption) | decide | (focus (simp (disch := omega) only [nI_clamp, vp_in_nI, hT_sI, hR_sI, hT_sJ, hR_sJ, hT_sR, hI_sJ, hI_sR, hJ_sI, hJ_sR, hI_eq, hI_ne, hI_nk]; done)) | (focus (simp (disch := omega) only [nI_clamp, vp_in_nI, hT_sI, hR_sI, hT_sJ, hR_sJ, hT_sR, hI_sJ, hI_sR, hJ_sI, hJ_sR, hI_eq, hI_ne, hI_nk]; first | assumption | exact okv3 (by assumption)))) | (focus (refine ⟨_, rfl, ?_⟩; (first | assumption | rfl | exact True.intro | exact Nat.le_of_ble_eq_true rfl | exact Or.inl rfl | exact Or.inr rfl | exact okv3 (by assumption) | decide | (focus (simp (disch := omega) only [nI_clamp, vp_in_nI, hT_sI, hR_sI, hT_sJ, hR_sJ, hT_sR, hI_sJ, hI_sR, hJ_sI, hJ_sR, hI_eq, hI_ne, hI_nk]; done)) | (focus (simp (disch := omega) only [nI_clamp, vp_in_nI, hT_sI, hR_sI, hT_sJ, hR_sJ, hT_sR, hI_sJ, hI_sR, hJ_sI, hJ_sR, hI_eq, hI_ne, hI_nk]; first | assumption | exact okv3 (by assumption)))))))))
      exact k c1 f1 2 _ (Or.inr ⟨_, rfl, by decide, rfl⟩)
theorem h_setFrames {C : Nat → Prop} {h h1 : CH} {o : Nat} {x : Int32} {r1 : List Value ⊕ String} {Q : QT} (a13 : (hT h 300).1 = 13) (cls : Cls C wX9_setFrames [.ref 300, .int x] h r1 h1) (e : EOK Lsf r1) (ho0 : hT h o = (101, 1)) (hco : ¬ C o) (k : CloC C h1 → Fr C h h1 → ∀ kv h2, HR (fun v => v.toInt64) o Lsf r1 h1 kv h2 → Q (.inl [.int kv]) h2) : wL_setFrames [.ref 300, .int x, .ref o] h Q := by
  refine wgo (fun X hX => ?_) (by show 3 ≤ 4; decide)
  (refine go mL_setFrames hX [] 400 ?_; conv => whnf)
  repeat (first | (refine rs ?_; conv => whnf) | unfold k_call | ((with_reducible refine And.intro ?_ ?_); (first | (first | assumption | rfl | exact True.intro | exact Nat.le_of_ble_eq_true rfl | exact Or.inl rfl | exact Or.inr rfl | exact okv3 (by assumption) | decide | (focus (simp (disch := omega) only [a13, nI_clamp, vp_in_nI, hT_sI, hR_sI, hT_sJ, hR_sJ, hT_sR, hI_sJ, hI_sR, hJ_sI, hJ_sR, hI_eq, hI_ne, hI_nk]; done)) | (focus (simp (disch := omega) only [a13, nI_clamp, vp_in_nI, hT_sI, hR_sI, hT_sJ, hR_sJ, hT_sR, hI_sJ, hI_sR, hJ_sI, hJ_sR, hI_eq, hI_ne, hI_nk]; first | assumption | exact okv3 (by assumption)))) | (focus (refine ⟨_, rfl, ?_⟩; (first | assumption | rfl | exact True.intro | exact Nat.le_of_ble_eq_true rfl | exact Or.inl rfl | exact Or.inr rfl | exact okv3 (by assumption) | decide | (focus (simp (disch := omega) only [a13, nI_clamp, vp_in_nI, hT_sI, hR_sI, hT_sJ, hR_sJ, hT_sR, hI_sJ, hI_sR, hJ_sI, hJ_sR, hI_eq, hI_ne, hI_nk]; done)) | (focus (simp (disch := omega) only [a13, nI_clamp, vp_in_nI, hT_sI, hR_sI, hT_sJ, hR_sJ, hT_sR, hI_sJ, hI_sR, hJ_sI, hJ_sR, hI_eq, hI_ne, hI_nk]; first | assumption | exact okv3 (by assumption)))))))))
  refine cls _ (fun c1 f1 => ?_)
  have ho : hT h1 o = (101, 1) := (f1.2 o hco).1.trans ho0
  have ho1 : (hT h1 o).1 = 101 := by rw [ho]
  have ho2 : vp_in 0 (hT h1 o).2 := vp0 ho
  cases r1 with
  | inl vs =>
    obtain ⟨w, rfl⟩ := e
    repeat (first | (refine rs ?_; conv => whnf) | unfold k_call | ((with_reducible refine And.intro ?_ ?_); (first | (first | assumption | rfl | exact True.intro | exact Nat.le_of_ble_eq_true rfl | exact Or.inl rfl | exact Or.inr rfl | exact okv3 (by assumption) | decide | (focus (simp (disch := omega) only [nI_clamp, vp_in_nI, hT_sI, hR_sI, hT_sJ, hR_sJ, hT_sR, hI_sJ, hI_sR, hJ_sI, hJ_sR, hI_eq, hI_ne, hI_nk]; done)) | (focus (simp (disch := omega) only [nI_clamp, vp_in_nI, hT_sI, hR_sI, hT_sJ, hR_sJ, hT_sR, hI_sJ, hI_sR, hJ_sI, hJ_sR, hI_eq, hI_ne, hI_nk]; first | assumption | exact okv3 (by assumption)))) | (focus (refine ⟨_, rfl, ?_⟩; (first | assumption | rfl | exact True.intro | exact Nat.le_of_ble_eq_true rfl | exact Or.inl rfl | exact Or.inr rfl | exact okv3 (by assumption) | decide | (focus (simp (disch := omega) only [nI_clamp, vp_in_nI, hT_sI, hR_sI, hT_sJ, hR_sJ, hT_sR, hI_sJ, hI_sR, hJ_sI, hJ_sR, hI_eq, hI_ne, hI_nk]; done)) | (focus (simp (disch := omega) only [nI_clamp, vp_in_nI, hT_sI, hR_sI, hT_sJ, hR_sJ, hT_sR, hI_sJ, hI_sR, hJ_sI, hJ_sR, hI_eq, hI_ne, hI_nk]; first | assumption | exact okv3 (by assumption)))))))))
    exact k c1 f1 0 _ (Or.inl ⟨w, rfl, rfl, rfl⟩)
  | inr E =>
    obtain ⟨c, hc⟩ := e
    simp only [Lsf, List.mem_cons, List.not_mem_nil, or_false, Prod.mk.injEq] at hc
    rcases hc with ⟨rfl, rfl⟩ | ⟨rfl, rfl⟩ | ⟨rfl, rfl⟩
    · show match ([("java/lang/IllegalArgumentException", 13, 3), ("java/lang/UnsupportedOperationException", 16, 3), ("java/lang/IllegalStateException", 19, 3)] : List (String × Nat × Nat)).find? (fun q => q.1 == "java/lang/IllegalArgumentException") with | some q => _ | none => False
      rw [show ([("java/lang/IllegalArgumentException", 13, 3), ("java/lang/UnsupportedOperationException", 16, 3), ("java/lang/IllegalStateException", 19, 3)] : List (String × Nat × Nat)).find? (fun q => q.1 == "java/lang/IllegalArgumentException") = some ("java/lang/IllegalArgumentException", 13, 3) from by decide]
      intro cs ss g1 g2
      (refine go mL_setFrames hX [] 400 ?_; conv => whnf)
      repeat (first | (refine rs ?_; conv => whnf) | unfold k_call | ((with_reducible refine And.intro ?_ ?_); (first | (first | assumption | rfl | exact True.intro | exact Nat.le_of_ble_eq_true rfl | exact Or.inl rfl | exact Or.inr rfl | exact okv3 (by assumption) | decide | (focus (simp (disch := omega) only [nI_clamp, vp_in_nI, hT_sI, hR_sI, hT_sJ, hR_sJ, hT_sR, hI_sJ, hI_sR, hJ_sI, hJ_sR, hI_eq, hI_ne, hI_nk]; done)) | (focus (simp (disch := omega) only [nI_clamp, vp_in_nI, hT_sI, hR_sI, hT_sJ, hR_sJ, hT_sR, hI_sJ, hI_sR, hJ_sI, hJ_sR, hI_eq, hI_ne, hI_nk]; first | assumption | exact okv3 (by assumption)))) | (focus (refine ⟨_, rfl, ?_⟩; (first | assumption | rfl | exact True.intro | exact Nat.le_of_ble_eq_true rfl | exact Or.inl rfl | exact Or.inr rfl | exact okv3 (by assumption) | decide | (focus (simp (disch := omega) only [nI_clamp, vp_in_nI, hT_sI, hR_sI, hT_sJ, hR_sJ, hT_sR, hI_sJ, hI_sR, hJ_sI, hJ_sR, hI_eq, hI_ne, hI_nk]; done)) | (focus (simp (disch := omega) only [nI_clamp, vp_in_nI, hT_sI, hR_sI, hT_sJ, hR_sJ, hT_sR, hI_sJ, hI_sR, hJ_sI, hJ_sR, hI_eq, hI_ne, hI_nk]; first | assumption | exact okv3 (by assumption)))))))))
      exact k c1 f1 1 _ (Or.inr ⟨_, rfl, by decide, rfl⟩)
    · show match ([("java/lang/IllegalArgumentException", 13, 3), ("java/lang/UnsupportedOperationException", 16, 3), ("java/lang/IllegalStateException", 19, 3)] : List (String × Nat × Nat)).find? (fun q => q.1 == "java/lang/UnsupportedOperationException") with | some q => _ | none => False
      rw [show ([("java/lang/IllegalArgumentException", 13, 3), ("java/lang/UnsupportedOperationException", 16, 3), ("java/lang/IllegalStateException", 19, 3)] : List (String × Nat × Nat)).find? (fun q => q.1 == "java/lang/UnsupportedOperationException") = some ("java/lang/UnsupportedOperationException", 16, 3) from by decide]
      intro cs ss g1 g2
      (refine go mL_setFrames hX [] 400 ?_; conv => whnf)
      repeat (first | (refine rs ?_; conv => whnf) | unfold k_call | ((with_reducible refine And.intro ?_ ?_); (first | (first | assumption | rfl | exact True.intro | exact Nat.le_of_ble_eq_true rfl | exact Or.inl rfl | exact Or.inr rfl | exact okv3 (by assumption) | decide | (focus (simp (disch := omega) only [nI_clamp, vp_in_nI, hT_sI, hR_sI, hT_sJ, hR_sJ, hT_sR, hI_sJ, hI_sR, hJ_sI, hJ_sR, hI_eq, hI_ne, hI_nk]; done)) | (focus (simp (disch := omega) only [nI_clamp, vp_in_nI, hT_sI, hR_sI, hT_sJ, hR_sJ, hT_sR, hI_sJ, hI_sR, hJ_sI, hJ_sR, hI_eq, hI_ne, hI_nk]; first | assumption | exact okv3 (by assumption)))) | (focus (refine ⟨_, rfl, ?_⟩; (first | assumption | rfl | exact True.intro | exact Nat.le_of_ble_eq_true rfl | exact Or.inl rfl | exact Or.inr rfl | exact okv3 (by assumption) | decide | (focus (simp (disch := omega) only [nI_clamp, vp_in_nI, hT_sI, hR_sI, hT_sJ, hR_sJ, hT_sR, hI_sJ, hI_sR, hJ_sI, hJ_sR, hI_eq, hI_ne, hI_nk]; done)) | (focus (simp (disch := omega) only [nI_clamp, vp_in_nI, hT_sI, hR_sI, hT_sJ, hR_sJ, hT_sR, hI_sJ, hI_sR, hJ_sI, hJ_sR, hI_eq, hI_ne, hI_nk]; first | assumption | exact okv3 (by assumption)))))))))
      exact k c1 f1 2 _ (Or.inr ⟨_, rfl, by decide, rfl⟩)
    · show match ([("java/lang/IllegalArgumentException", 13, 3), ("java/lang/UnsupportedOperationException", 16, 3), ("java/lang/IllegalStateException", 19, 3)] : List (String × Nat × Nat)).find? (fun q => q.1 == "java/lang/IllegalStateException") with | some q => _ | none => False
      rw [show ([("java/lang/IllegalArgumentException", 13, 3), ("java/lang/UnsupportedOperationException", 16, 3), ("java/lang/IllegalStateException", 19, 3)] : List (String × Nat × Nat)).find? (fun q => q.1 == "java/lang/IllegalStateException") = some ("java/lang/IllegalStateException", 19, 3) from by decide]
      intro cs ss g1 g2
      (refine go mL_setFrames hX [] 400 ?_; conv => whnf)
      repeat (first | (refine rs ?_; conv => whnf) | unfold k_call | ((with_reducible refine And.intro ?_ ?_); (first | (first | assumption | rfl | exact True.intro | exact Nat.le_of_ble_eq_true rfl | exact Or.inl rfl | exact Or.inr rfl | exact okv3 (by assumption) | decide | (focus (simp (disch := omega) only [nI_clamp, vp_in_nI, hT_sI, hR_sI, hT_sJ, hR_sJ, hT_sR, hI_sJ, hI_sR, hJ_sI, hJ_sR, hI_eq, hI_ne, hI_nk]; done)) | (focus (simp (disch := omega) only [nI_clamp, vp_in_nI, hT_sI, hR_sI, hT_sJ, hR_sJ, hT_sR, hI_sJ, hI_sR, hJ_sI, hJ_sR, hI_eq, hI_ne, hI_nk]; first | assumption | exact okv3 (by assumption)))) | (focus (refine ⟨_, rfl, ?_⟩; (first | assumption | rfl | exact True.intro | exact Nat.le_of_ble_eq_true rfl | exact Or.inl rfl | exact Or.inr rfl | exact okv3 (by assumption) | decide | (focus (simp (disch := omega) only [nI_clamp, vp_in_nI, hT_sI, hR_sI, hT_sJ, hR_sJ, hT_sR, hI_sJ, hI_sR, hJ_sI, hJ_sR, hI_eq, hI_ne, hI_nk]; done)) | (focus (simp (disch := omega) only [nI_clamp, vp_in_nI, hT_sI, hR_sI, hT_sJ, hR_sJ, hT_sR, hI_sJ, hI_sR, hJ_sI, hJ_sR, hI_eq, hI_ne, hI_nk]; first | assumption | exact okv3 (by assumption)))))))))
      exact k c1 f1 3 _ (Or.inr ⟨_, rfl, by decide, rfl⟩)
theorem h_setPolicy {C : Nat → Prop} {h h1 : CH} {o : Nat} {x : Int32} {r1 : List Value ⊕ String} {Q : QT} (a13 : (hT h 300).1 = 13) (cls : Cls C wX9_setPolicy [.ref 300, .int x] h r1 h1) (e : EOK Liae r1) (ho0 : hT h o = (101, 1)) (hco : ¬ C o) (k : CloC C h1 → Fr C h h1 → ∀ kv h2, HR (fun v => v.toInt64) o Liae r1 h1 kv h2 → Q (.inl [.int kv]) h2) : wL_setPolicy [.ref 300, .int x, .ref o] h Q := by
  refine wgo (fun X hX => ?_) (by show 3 ≤ 4; decide)
  (refine go mL_setPolicy hX [] 400 ?_; conv => whnf)
  repeat (first | (refine rs ?_; conv => whnf) | unfold k_call | ((with_reducible refine And.intro ?_ ?_); (first | (first | assumption | rfl | exact True.intro | exact Nat.le_of_ble_eq_true rfl | exact Or.inl rfl | exact Or.inr rfl | exact okv3 (by assumption) | decide | (focus (simp (disch := omega) only [a13, nI_clamp, vp_in_nI, hT_sI, hR_sI, hT_sJ, hR_sJ, hT_sR, hI_sJ, hI_sR, hJ_sI, hJ_sR, hI_eq, hI_ne, hI_nk]; done)) | (focus (simp (disch := omega) only [a13, nI_clamp, vp_in_nI, hT_sI, hR_sI, hT_sJ, hR_sJ, hT_sR, hI_sJ, hI_sR, hJ_sI, hJ_sR, hI_eq, hI_ne, hI_nk]; first | assumption | exact okv3 (by assumption)))) | (focus (refine ⟨_, rfl, ?_⟩; (first | assumption | rfl | exact True.intro | exact Nat.le_of_ble_eq_true rfl | exact Or.inl rfl | exact Or.inr rfl | exact okv3 (by assumption) | decide | (focus (simp (disch := omega) only [a13, nI_clamp, vp_in_nI, hT_sI, hR_sI, hT_sJ, hR_sJ, hT_sR, hI_sJ, hI_sR, hJ_sI, hJ_sR, hI_eq, hI_ne, hI_nk]; done)) | (focus (simp (disch := omega) only [a13, nI_clamp, vp_in_nI, hT_sI, hR_sI, hT_sJ, hR_sJ, hT_sR, hI_sJ, hI_sR, hJ_sI, hJ_sR, hI_eq, hI_ne, hI_nk]; first | assumption | exact okv3 (by assumption)))))))))
  refine cls _ (fun c1 f1 => ?_)
  have ho : hT h1 o = (101, 1) := (f1.2 o hco).1.trans ho0
  have ho1 : (hT h1 o).1 = 101 := by rw [ho]
  have ho2 : vp_in 0 (hT h1 o).2 := vp0 ho
  cases r1 with
  | inl vs =>
    obtain ⟨w, rfl⟩ := e
    repeat (first | (refine rs ?_; conv => whnf) | unfold k_call | ((with_reducible refine And.intro ?_ ?_); (first | (first | assumption | rfl | exact True.intro | exact Nat.le_of_ble_eq_true rfl | exact Or.inl rfl | exact Or.inr rfl | exact okv3 (by assumption) | decide | (focus (simp (disch := omega) only [nI_clamp, vp_in_nI, hT_sI, hR_sI, hT_sJ, hR_sJ, hT_sR, hI_sJ, hI_sR, hJ_sI, hJ_sR, hI_eq, hI_ne, hI_nk]; done)) | (focus (simp (disch := omega) only [nI_clamp, vp_in_nI, hT_sI, hR_sI, hT_sJ, hR_sJ, hT_sR, hI_sJ, hI_sR, hJ_sI, hJ_sR, hI_eq, hI_ne, hI_nk]; first | assumption | exact okv3 (by assumption)))) | (focus (refine ⟨_, rfl, ?_⟩; (first | assumption | rfl | exact True.intro | exact Nat.le_of_ble_eq_true rfl | exact Or.inl rfl | exact Or.inr rfl | exact okv3 (by assumption) | decide | (focus (simp (disch := omega) only [nI_clamp, vp_in_nI, hT_sI, hR_sI, hT_sJ, hR_sJ, hT_sR, hI_sJ, hI_sR, hJ_sI, hJ_sR, hI_eq, hI_ne, hI_nk]; done)) | (focus (simp (disch := omega) only [nI_clamp, vp_in_nI, hT_sI, hR_sI, hT_sJ, hR_sJ, hT_sR, hI_sJ, hI_sR, hJ_sI, hJ_sR, hI_eq, hI_ne, hI_nk]; first | assumption | exact okv3 (by assumption)))))))))
    exact k c1 f1 0 _ (Or.inl ⟨w, rfl, rfl, rfl⟩)
  | inr E =>
    obtain ⟨c, hc⟩ := e
    simp only [Liae, List.mem_cons, List.not_mem_nil, or_false, Prod.mk.injEq] at hc
    obtain ⟨rfl, rfl⟩ := hc
    show match ([("java/lang/IllegalArgumentException", 13, 3)] : List (String × Nat × Nat)).find? (fun q => q.1 == "java/lang/IllegalArgumentException") with | some q => _ | none => False
    rw [show ([("java/lang/IllegalArgumentException", 13, 3)] : List (String × Nat × Nat)).find? (fun q => q.1 == "java/lang/IllegalArgumentException") = some ("java/lang/IllegalArgumentException", 13, 3) from by decide]
    intro cs ss g1 g2
    (refine go mL_setPolicy hX [] 400 ?_; conv => whnf)
    repeat (first | (refine rs ?_; conv => whnf) | unfold k_call | ((with_reducible refine And.intro ?_ ?_); (first | (first | assumption | rfl | exact True.intro | exact Nat.le_of_ble_eq_true rfl | exact Or.inl rfl | exact Or.inr rfl | exact okv3 (by assumption) | decide | (focus (simp (disch := omega) only [nI_clamp, vp_in_nI, hT_sI, hR_sI, hT_sJ, hR_sJ, hT_sR, hI_sJ, hI_sR, hJ_sI, hJ_sR, hI_eq, hI_ne, hI_nk]; done)) | (focus (simp (disch := omega) only [nI_clamp, vp_in_nI, hT_sI, hR_sI, hT_sJ, hR_sJ, hT_sR, hI_sJ, hI_sR, hJ_sI, hJ_sR, hI_eq, hI_ne, hI_nk]; first | assumption | exact okv3 (by assumption)))) | (focus (refine ⟨_, rfl, ?_⟩; (first | assumption | rfl | exact True.intro | exact Nat.le_of_ble_eq_true rfl | exact Or.inl rfl | exact Or.inr rfl | exact okv3 (by assumption) | decide | (focus (simp (disch := omega) only [nI_clamp, vp_in_nI, hT_sI, hR_sI, hT_sJ, hR_sJ, hT_sR, hI_sJ, hI_sR, hJ_sI, hJ_sR, hI_eq, hI_ne, hI_nk]; done)) | (focus (simp (disch := omega) only [nI_clamp, vp_in_nI, hT_sI, hR_sI, hT_sJ, hR_sJ, hT_sR, hI_sJ, hI_sR, hJ_sI, hJ_sR, hI_eq, hI_ne, hI_nk]; first | assumption | exact okv3 (by assumption)))))))))
    exact k c1 f1 1 _ (Or.inr ⟨_, rfl, by decide, rfl⟩)
theorem h_setLimit {C : Nat → Prop} {h h1 : CH} {o : Nat} {x : Int32} {r1 : List Value ⊕ String} {Q : QT} (a13 : (hT h 300).1 = 13) (cls : Cls C wX9_setLimit [.ref 300, .int x] h r1 h1) (e : EOK Liae r1) (ho0 : hT h o = (101, 1)) (hco : ¬ C o) (k : CloC C h1 → Fr C h h1 → ∀ kv h2, HR (fun v => v.toInt64) o Liae r1 h1 kv h2 → Q (.inl [.int kv]) h2) : wL_setLimit [.ref 300, .int x, .ref o] h Q := by
  refine wgo (fun X hX => ?_) (by show 3 ≤ 4; decide)
  (refine go mL_setLimit hX [] 400 ?_; conv => whnf)
  repeat (first | (refine rs ?_; conv => whnf) | unfold k_call | ((with_reducible refine And.intro ?_ ?_); (first | (first | assumption | rfl | exact True.intro | exact Nat.le_of_ble_eq_true rfl | exact Or.inl rfl | exact Or.inr rfl | exact okv3 (by assumption) | decide | (focus (simp (disch := omega) only [a13, nI_clamp, vp_in_nI, hT_sI, hR_sI, hT_sJ, hR_sJ, hT_sR, hI_sJ, hI_sR, hJ_sI, hJ_sR, hI_eq, hI_ne, hI_nk]; done)) | (focus (simp (disch := omega) only [a13, nI_clamp, vp_in_nI, hT_sI, hR_sI, hT_sJ, hR_sJ, hT_sR, hI_sJ, hI_sR, hJ_sI, hJ_sR, hI_eq, hI_ne, hI_nk]; first | assumption | exact okv3 (by assumption)))) | (focus (refine ⟨_, rfl, ?_⟩; (first | assumption | rfl | exact True.intro | exact Nat.le_of_ble_eq_true rfl | exact Or.inl rfl | exact Or.inr rfl | exact okv3 (by assumption) | decide | (focus (simp (disch := omega) only [a13, nI_clamp, vp_in_nI, hT_sI, hR_sI, hT_sJ, hR_sJ, hT_sR, hI_sJ, hI_sR, hJ_sI, hJ_sR, hI_eq, hI_ne, hI_nk]; done)) | (focus (simp (disch := omega) only [a13, nI_clamp, vp_in_nI, hT_sI, hR_sI, hT_sJ, hR_sJ, hT_sR, hI_sJ, hI_sR, hJ_sI, hJ_sR, hI_eq, hI_ne, hI_nk]; first | assumption | exact okv3 (by assumption)))))))))
  refine cls _ (fun c1 f1 => ?_)
  have ho : hT h1 o = (101, 1) := (f1.2 o hco).1.trans ho0
  have ho1 : (hT h1 o).1 = 101 := by rw [ho]
  have ho2 : vp_in 0 (hT h1 o).2 := vp0 ho
  cases r1 with
  | inl vs =>
    obtain ⟨w, rfl⟩ := e
    repeat (first | (refine rs ?_; conv => whnf) | unfold k_call | ((with_reducible refine And.intro ?_ ?_); (first | (first | assumption | rfl | exact True.intro | exact Nat.le_of_ble_eq_true rfl | exact Or.inl rfl | exact Or.inr rfl | exact okv3 (by assumption) | decide | (focus (simp (disch := omega) only [nI_clamp, vp_in_nI, hT_sI, hR_sI, hT_sJ, hR_sJ, hT_sR, hI_sJ, hI_sR, hJ_sI, hJ_sR, hI_eq, hI_ne, hI_nk]; done)) | (focus (simp (disch := omega) only [nI_clamp, vp_in_nI, hT_sI, hR_sI, hT_sJ, hR_sJ, hT_sR, hI_sJ, hI_sR, hJ_sI, hJ_sR, hI_eq, hI_ne, hI_nk]; first | assumption | exact okv3 (by assumption)))) | (focus (refine ⟨_, rfl, ?_⟩; (first | assumption | rfl | exact True.intro | exact Nat.le_of_ble_eq_true rfl | exact Or.inl rfl | exact Or.inr rfl | exact okv3 (by assumption) | decide | (focus (simp (disch := omega) only [nI_clamp, vp_in_nI, hT_sI, hR_sI, hT_sJ, hR_sJ, hT_sR, hI_sJ, hI_sR, hJ_sI, hJ_sR, hI_eq, hI_ne, hI_nk]; done)) | (focus (simp (disch := omega) only [nI_clamp, vp_in_nI, hT_sI, hR_sI, hT_sJ, hR_sJ, hT_sR, hI_sJ, hI_sR, hJ_sI, hJ_sR, hI_eq, hI_ne, hI_nk]; first | assumption | exact okv3 (by assumption)))))))))
    exact k c1 f1 0 _ (Or.inl ⟨w, rfl, rfl, rfl⟩)
  | inr E =>
    obtain ⟨c, hc⟩ := e
    simp only [Liae, List.mem_cons, List.not_mem_nil, or_false, Prod.mk.injEq] at hc
    obtain ⟨rfl, rfl⟩ := hc
    show match ([("java/lang/IllegalArgumentException", 13, 3)] : List (String × Nat × Nat)).find? (fun q => q.1 == "java/lang/IllegalArgumentException") with | some q => _ | none => False
    rw [show ([("java/lang/IllegalArgumentException", 13, 3)] : List (String × Nat × Nat)).find? (fun q => q.1 == "java/lang/IllegalArgumentException") = some ("java/lang/IllegalArgumentException", 13, 3) from by decide]
    intro cs ss g1 g2
    (refine go mL_setLimit hX [] 400 ?_; conv => whnf)
    repeat (first | (refine rs ?_; conv => whnf) | unfold k_call | ((with_reducible refine And.intro ?_ ?_); (first | (first | assumption | rfl | exact True.intro | exact Nat.le_of_ble_eq_true rfl | exact Or.inl rfl | exact Or.inr rfl | exact okv3 (by assumption) | decide | (focus (simp (disch := omega) only [nI_clamp, vp_in_nI, hT_sI, hR_sI, hT_sJ, hR_sJ, hT_sR, hI_sJ, hI_sR, hJ_sI, hJ_sR, hI_eq, hI_ne, hI_nk]; done)) | (focus (simp (disch := omega) only [nI_clamp, vp_in_nI, hT_sI, hR_sI, hT_sJ, hR_sJ, hT_sR, hI_sJ, hI_sR, hJ_sI, hJ_sR, hI_eq, hI_ne, hI_nk]; first | assumption | exact okv3 (by assumption)))) | (focus (refine ⟨_, rfl, ?_⟩; (first | assumption | rfl | exact True.intro | exact Nat.le_of_ble_eq_true rfl | exact Or.inl rfl | exact Or.inr rfl | exact okv3 (by assumption) | decide | (focus (simp (disch := omega) only [nI_clamp, vp_in_nI, hT_sI, hR_sI, hT_sJ, hR_sJ, hT_sR, hI_sJ, hI_sR, hJ_sI, hJ_sR, hI_eq, hI_ne, hI_nk]; done)) | (focus (simp (disch := omega) only [nI_clamp, vp_in_nI, hT_sI, hR_sI, hT_sJ, hR_sJ, hT_sR, hI_sJ, hI_sR, hJ_sI, hJ_sR, hI_eq, hI_ne, hI_nk]; first | assumption | exact okv3 (by assumption)))))))))
    exact k c1 f1 1 _ (Or.inr ⟨_, rfl, by decide, rfl⟩)
theorem h_setWindow {C : Nat → Prop} {h h1 : CH} {o : Nat} {x : Int32} {r1 : List Value ⊕ String} {Q : QT} (a13 : (hT h 300).1 = 13) (cls : Cls C wX9_setWindow [.ref 300, .int x] h r1 h1) (e : EOK Liae r1) (ho0 : hT h o = (101, 1)) (hco : ¬ C o) (k : CloC C h1 → Fr C h h1 → ∀ kv h2, HR (fun v => v.toInt64) o Liae r1 h1 kv h2 → Q (.inl [.int kv]) h2) : wL_setWindow [.ref 300, .int x, .ref o] h Q := by
  refine wgo (fun X hX => ?_) (by show 3 ≤ 4; decide)
  (refine go mL_setWindow hX [] 400 ?_; conv => whnf)
  repeat (first | (refine rs ?_; conv => whnf) | unfold k_call | ((with_reducible refine And.intro ?_ ?_); (first | (first | assumption | rfl | exact True.intro | exact Nat.le_of_ble_eq_true rfl | exact Or.inl rfl | exact Or.inr rfl | exact okv3 (by assumption) | decide | (focus (simp (disch := omega) only [a13, nI_clamp, vp_in_nI, hT_sI, hR_sI, hT_sJ, hR_sJ, hT_sR, hI_sJ, hI_sR, hJ_sI, hJ_sR, hI_eq, hI_ne, hI_nk]; done)) | (focus (simp (disch := omega) only [a13, nI_clamp, vp_in_nI, hT_sI, hR_sI, hT_sJ, hR_sJ, hT_sR, hI_sJ, hI_sR, hJ_sI, hJ_sR, hI_eq, hI_ne, hI_nk]; first | assumption | exact okv3 (by assumption)))) | (focus (refine ⟨_, rfl, ?_⟩; (first | assumption | rfl | exact True.intro | exact Nat.le_of_ble_eq_true rfl | exact Or.inl rfl | exact Or.inr rfl | exact okv3 (by assumption) | decide | (focus (simp (disch := omega) only [a13, nI_clamp, vp_in_nI, hT_sI, hR_sI, hT_sJ, hR_sJ, hT_sR, hI_sJ, hI_sR, hJ_sI, hJ_sR, hI_eq, hI_ne, hI_nk]; done)) | (focus (simp (disch := omega) only [a13, nI_clamp, vp_in_nI, hT_sI, hR_sI, hT_sJ, hR_sJ, hT_sR, hI_sJ, hI_sR, hJ_sI, hJ_sR, hI_eq, hI_ne, hI_nk]; first | assumption | exact okv3 (by assumption)))))))))
  refine cls _ (fun c1 f1 => ?_)
  have ho : hT h1 o = (101, 1) := (f1.2 o hco).1.trans ho0
  have ho1 : (hT h1 o).1 = 101 := by rw [ho]
  have ho2 : vp_in 0 (hT h1 o).2 := vp0 ho
  cases r1 with
  | inl vs =>
    obtain ⟨w, rfl⟩ := e
    repeat (first | (refine rs ?_; conv => whnf) | unfold k_call | ((with_reducible refine And.intro ?_ ?_); (first | (first | assumption | rfl | exact True.intro | exact Nat.le_of_ble_eq_true rfl | exact Or.inl rfl | exact Or.inr rfl | exact okv3 (by assumption) | decide | (focus (simp (disch := omega) only [nI_clamp, vp_in_nI, hT_sI, hR_sI, hT_sJ, hR_sJ, hT_sR, hI_sJ, hI_sR, hJ_sI, hJ_sR, hI_eq, hI_ne, hI_nk]; done)) | (focus (simp (disch := omega) only [nI_clamp, vp_in_nI, hT_sI, hR_sI, hT_sJ, hR_sJ, hT_sR, hI_sJ, hI_sR, hJ_sI, hJ_sR, hI_eq, hI_ne, hI_nk]; first | assumption | exact okv3 (by assumption)))) | (focus (refine ⟨_, rfl, ?_⟩; (first | assumption | rfl | exact True.intro | exact Nat.le_of_ble_eq_true rfl | exact Or.inl rfl | exact Or.inr rfl | exact okv3 (by assumption) | decide | (focus (simp (disch := omega) only [nI_clamp, vp_in_nI, hT_sI, hR_sI, hT_sJ, hR_sJ, hT_sR, hI_sJ, hI_sR, hJ_sI, hJ_sR, hI_eq, hI_ne, hI_nk]; done)) | (focus (simp (disch := omega) only [nI_clamp, vp_in_nI, hT_sI, hR_sI, hT_sJ, hR_sJ, hT_sR, hI_sJ, hI_sR, hJ_sI, hJ_sR, hI_eq, hI_ne, hI_nk]; first | assumption | exact okv3 (by assumption)))))))))
    exact k c1 f1 0 _ (Or.inl ⟨w, rfl, rfl, rfl⟩)
  | inr E =>
    obtain ⟨c, hc⟩ := e
    simp only [Liae, List.mem_cons, List.not_mem_nil, or_false, Prod.mk.injEq] at hc
    obtain ⟨rfl, rfl⟩ := hc
    show match ([("java/lang/IllegalArgumentException", 13, 3)] : List (String × Nat × Nat)).find? (fun q => q.1 == "java/lang/IllegalArgumentException") with | some q => _ | none => False
    rw [show ([("java/lang/IllegalArgumentException", 13, 3)] : List (String × Nat × Nat)).find? (fun q => q.1 == "java/lang/IllegalArgumentException") = some ("java/lang/IllegalArgumentException", 13, 3) from by decide]
    intro cs ss g1 g2
    (refine go mL_setWindow hX [] 400 ?_; conv => whnf)
    repeat (first | (refine rs ?_; conv => whnf) | unfold k_call | ((with_reducible refine And.intro ?_ ?_); (first | (first | assumption | rfl | exact True.intro | exact Nat.le_of_ble_eq_true rfl | exact Or.inl rfl | exact Or.inr rfl | exact okv3 (by assumption) | decide | (focus (simp (disch := omega) only [nI_clamp, vp_in_nI, hT_sI, hR_sI, hT_sJ, hR_sJ, hT_sR, hI_sJ, hI_sR, hJ_sI, hJ_sR, hI_eq, hI_ne, hI_nk]; done)) | (focus (simp (disch := omega) only [nI_clamp, vp_in_nI, hT_sI, hR_sI, hT_sJ, hR_sJ, hT_sR, hI_sJ, hI_sR, hJ_sI, hJ_sR, hI_eq, hI_ne, hI_nk]; first | assumption | exact okv3 (by assumption)))) | (focus (refine ⟨_, rfl, ?_⟩; (first | assumption | rfl | exact True.intro | exact Nat.le_of_ble_eq_true rfl | exact Or.inl rfl | exact Or.inr rfl | exact okv3 (by assumption) | decide | (focus (simp (disch := omega) only [nI_clamp, vp_in_nI, hT_sI, hR_sI, hT_sJ, hR_sJ, hT_sR, hI_sJ, hI_sR, hJ_sI, hJ_sR, hI_eq, hI_ne, hI_nk]; done)) | (focus (simp (disch := omega) only [nI_clamp, vp_in_nI, hT_sI, hR_sI, hT_sJ, hR_sJ, hT_sR, hI_sJ, hI_sR, hJ_sI, hJ_sR, hI_eq, hI_ne, hI_nk]; first | assumption | exact okv3 (by assumption)))))))))
    exact k c1 f1 1 _ (Or.inr ⟨_, rfl, by decide, rfl⟩)
theorem h_setTenant {C : Nat → Prop} {h h1 : CH} {o : Nat} {x : Int32} {r1 : List Value ⊕ String} {Q : QT} (a13 : (hT h 300).1 = 13) (cls : Cls C wX9_setTenant [.ref 300, .int x] h r1 h1) (e : EOK Liae r1) (ho0 : hT h o = (101, 1)) (hco : ¬ C o) (k : CloC C h1 → Fr C h h1 → ∀ kv h2, HR (fun v => v.toInt64) o Liae r1 h1 kv h2 → Q (.inl [.int kv]) h2) : wL_setTenant [.ref 300, .int x, .ref o] h Q := by
  refine wgo (fun X hX => ?_) (by show 3 ≤ 4; decide)
  (refine go mL_setTenant hX [] 400 ?_; conv => whnf)
  repeat (first | (refine rs ?_; conv => whnf) | unfold k_call | ((with_reducible refine And.intro ?_ ?_); (first | (first | assumption | rfl | exact True.intro | exact Nat.le_of_ble_eq_true rfl | exact Or.inl rfl | exact Or.inr rfl | exact okv3 (by assumption) | decide | (focus (simp (disch := omega) only [a13, nI_clamp, vp_in_nI, hT_sI, hR_sI, hT_sJ, hR_sJ, hT_sR, hI_sJ, hI_sR, hJ_sI, hJ_sR, hI_eq, hI_ne, hI_nk]; done)) | (focus (simp (disch := omega) only [a13, nI_clamp, vp_in_nI, hT_sI, hR_sI, hT_sJ, hR_sJ, hT_sR, hI_sJ, hI_sR, hJ_sI, hJ_sR, hI_eq, hI_ne, hI_nk]; first | assumption | exact okv3 (by assumption)))) | (focus (refine ⟨_, rfl, ?_⟩; (first | assumption | rfl | exact True.intro | exact Nat.le_of_ble_eq_true rfl | exact Or.inl rfl | exact Or.inr rfl | exact okv3 (by assumption) | decide | (focus (simp (disch := omega) only [a13, nI_clamp, vp_in_nI, hT_sI, hR_sI, hT_sJ, hR_sJ, hT_sR, hI_sJ, hI_sR, hJ_sI, hJ_sR, hI_eq, hI_ne, hI_nk]; done)) | (focus (simp (disch := omega) only [a13, nI_clamp, vp_in_nI, hT_sI, hR_sI, hT_sJ, hR_sJ, hT_sR, hI_sJ, hI_sR, hJ_sI, hJ_sR, hI_eq, hI_ne, hI_nk]; first | assumption | exact okv3 (by assumption)))))))))
  refine cls _ (fun c1 f1 => ?_)
  have ho : hT h1 o = (101, 1) := (f1.2 o hco).1.trans ho0
  have ho1 : (hT h1 o).1 = 101 := by rw [ho]
  have ho2 : vp_in 0 (hT h1 o).2 := vp0 ho
  cases r1 with
  | inl vs =>
    obtain ⟨w, rfl⟩ := e
    repeat (first | (refine rs ?_; conv => whnf) | unfold k_call | ((with_reducible refine And.intro ?_ ?_); (first | (first | assumption | rfl | exact True.intro | exact Nat.le_of_ble_eq_true rfl | exact Or.inl rfl | exact Or.inr rfl | exact okv3 (by assumption) | decide | (focus (simp (disch := omega) only [nI_clamp, vp_in_nI, hT_sI, hR_sI, hT_sJ, hR_sJ, hT_sR, hI_sJ, hI_sR, hJ_sI, hJ_sR, hI_eq, hI_ne, hI_nk]; done)) | (focus (simp (disch := omega) only [nI_clamp, vp_in_nI, hT_sI, hR_sI, hT_sJ, hR_sJ, hT_sR, hI_sJ, hI_sR, hJ_sI, hJ_sR, hI_eq, hI_ne, hI_nk]; first | assumption | exact okv3 (by assumption)))) | (focus (refine ⟨_, rfl, ?_⟩; (first | assumption | rfl | exact True.intro | exact Nat.le_of_ble_eq_true rfl | exact Or.inl rfl | exact Or.inr rfl | exact okv3 (by assumption) | decide | (focus (simp (disch := omega) only [nI_clamp, vp_in_nI, hT_sI, hR_sI, hT_sJ, hR_sJ, hT_sR, hI_sJ, hI_sR, hJ_sI, hJ_sR, hI_eq, hI_ne, hI_nk]; done)) | (focus (simp (disch := omega) only [nI_clamp, vp_in_nI, hT_sI, hR_sI, hT_sJ, hR_sJ, hT_sR, hI_sJ, hI_sR, hJ_sI, hJ_sR, hI_eq, hI_ne, hI_nk]; first | assumption | exact okv3 (by assumption)))))))))
    exact k c1 f1 0 _ (Or.inl ⟨w, rfl, rfl, rfl⟩)
  | inr E =>
    obtain ⟨c, hc⟩ := e
    simp only [Liae, List.mem_cons, List.not_mem_nil, or_false, Prod.mk.injEq] at hc
    obtain ⟨rfl, rfl⟩ := hc
    show match ([("java/lang/IllegalArgumentException", 13, 3)] : List (String × Nat × Nat)).find? (fun q => q.1 == "java/lang/IllegalArgumentException") with | some q => _ | none => False
    rw [show ([("java/lang/IllegalArgumentException", 13, 3)] : List (String × Nat × Nat)).find? (fun q => q.1 == "java/lang/IllegalArgumentException") = some ("java/lang/IllegalArgumentException", 13, 3) from by decide]
    intro cs ss g1 g2
    (refine go mL_setTenant hX [] 400 ?_; conv => whnf)
    repeat (first | (refine rs ?_; conv => whnf) | unfold k_call | ((with_reducible refine And.intro ?_ ?_); (first | (first | assumption | rfl | exact True.intro | exact Nat.le_of_ble_eq_true rfl | exact Or.inl rfl | exact Or.inr rfl | exact okv3 (by assumption) | decide | (focus (simp (disch := omega) only [nI_clamp, vp_in_nI, hT_sI, hR_sI, hT_sJ, hR_sJ, hT_sR, hI_sJ, hI_sR, hJ_sI, hJ_sR, hI_eq, hI_ne, hI_nk]; done)) | (focus (simp (disch := omega) only [nI_clamp, vp_in_nI, hT_sI, hR_sI, hT_sJ, hR_sJ, hT_sR, hI_sJ, hI_sR, hJ_sI, hJ_sR, hI_eq, hI_ne, hI_nk]; first | assumption | exact okv3 (by assumption)))) | (focus (refine ⟨_, rfl, ?_⟩; (first | assumption | rfl | exact True.intro | exact Nat.le_of_ble_eq_true rfl | exact Or.inl rfl | exact Or.inr rfl | exact okv3 (by assumption) | decide | (focus (simp (disch := omega) only [nI_clamp, vp_in_nI, hT_sI, hR_sI, hT_sJ, hR_sJ, hT_sR, hI_sJ, hI_sR, hJ_sI, hJ_sR, hI_eq, hI_ne, hI_nk]; done)) | (focus (simp (disch := omega) only [nI_clamp, vp_in_nI, hT_sI, hR_sI, hT_sJ, hR_sJ, hT_sR, hI_sJ, hI_sR, hJ_sI, hJ_sR, hI_eq, hI_ne, hI_nk]; first | assumption | exact okv3 (by assumption)))))))))
    exact k c1 f1 1 _ (Or.inr ⟨_, rfl, by decide, rfl⟩)
theorem h_read {C : Nat → Prop} {h h1 : CH} {o : Nat} {x y : Int32} {r1 : List Value ⊕ String} {Q : QT} (a13 : (hT h 300).1 = 13) (cls : Cls C wX9_read [.ref 300, .int x, .int y] h r1 h1) (e : EOK Lrd r1) (ho0 : hT h o = (101, 1)) (hco : ¬ C o) (k : CloC C h1 → Fr C h h1 → ∀ kv h2, HR (fun v => v.toInt64) o Lrd r1 h1 kv h2 → Q (.inl [.int kv]) h2) : wL_read [.ref 300, .int x, .int y, .ref o] h Q := by
  refine wgo (fun X hX => ?_) (by show 4 ≤ 5; decide)
  (refine go mL_read hX [] 400 ?_; conv => whnf)
  repeat (first | (refine rs ?_; conv => whnf) | unfold k_call | ((with_reducible refine And.intro ?_ ?_); (first | (first | assumption | rfl | exact True.intro | exact Nat.le_of_ble_eq_true rfl | exact Or.inl rfl | exact Or.inr rfl | exact okv3 (by assumption) | decide | (focus (simp (disch := omega) only [a13, nI_clamp, vp_in_nI, hT_sI, hR_sI, hT_sJ, hR_sJ, hT_sR, hI_sJ, hI_sR, hJ_sI, hJ_sR, hI_eq, hI_ne, hI_nk]; done)) | (focus (simp (disch := omega) only [a13, nI_clamp, vp_in_nI, hT_sI, hR_sI, hT_sJ, hR_sJ, hT_sR, hI_sJ, hI_sR, hJ_sI, hJ_sR, hI_eq, hI_ne, hI_nk]; first | assumption | exact okv3 (by assumption)))) | (focus (refine ⟨_, rfl, ?_⟩; (first | assumption | rfl | exact True.intro | exact Nat.le_of_ble_eq_true rfl | exact Or.inl rfl | exact Or.inr rfl | exact okv3 (by assumption) | decide | (focus (simp (disch := omega) only [a13, nI_clamp, vp_in_nI, hT_sI, hR_sI, hT_sJ, hR_sJ, hT_sR, hI_sJ, hI_sR, hJ_sI, hJ_sR, hI_eq, hI_ne, hI_nk]; done)) | (focus (simp (disch := omega) only [a13, nI_clamp, vp_in_nI, hT_sI, hR_sI, hT_sJ, hR_sJ, hT_sR, hI_sJ, hI_sR, hJ_sI, hJ_sR, hI_eq, hI_ne, hI_nk]; first | assumption | exact okv3 (by assumption)))))))))
  refine cls _ (fun c1 f1 => ?_)
  have ho : hT h1 o = (101, 1) := (f1.2 o hco).1.trans ho0
  have ho1 : (hT h1 o).1 = 101 := by rw [ho]
  have ho2 : vp_in 0 (hT h1 o).2 := vp0 ho
  cases r1 with
  | inl vs =>
    obtain ⟨w, rfl⟩ := e
    repeat (first | (refine rs ?_; conv => whnf) | unfold k_call | ((with_reducible refine And.intro ?_ ?_); (first | (first | assumption | rfl | exact True.intro | exact Nat.le_of_ble_eq_true rfl | exact Or.inl rfl | exact Or.inr rfl | exact okv3 (by assumption) | decide | (focus (simp (disch := omega) only [nI_clamp, vp_in_nI, hT_sI, hR_sI, hT_sJ, hR_sJ, hT_sR, hI_sJ, hI_sR, hJ_sI, hJ_sR, hI_eq, hI_ne, hI_nk]; done)) | (focus (simp (disch := omega) only [nI_clamp, vp_in_nI, hT_sI, hR_sI, hT_sJ, hR_sJ, hT_sR, hI_sJ, hI_sR, hJ_sI, hJ_sR, hI_eq, hI_ne, hI_nk]; first | assumption | exact okv3 (by assumption)))) | (focus (refine ⟨_, rfl, ?_⟩; (first | assumption | rfl | exact True.intro | exact Nat.le_of_ble_eq_true rfl | exact Or.inl rfl | exact Or.inr rfl | exact okv3 (by assumption) | decide | (focus (simp (disch := omega) only [nI_clamp, vp_in_nI, hT_sI, hR_sI, hT_sJ, hR_sJ, hT_sR, hI_sJ, hI_sR, hJ_sI, hJ_sR, hI_eq, hI_ne, hI_nk]; done)) | (focus (simp (disch := omega) only [nI_clamp, vp_in_nI, hT_sI, hR_sI, hT_sJ, hR_sJ, hT_sR, hI_sJ, hI_sR, hJ_sI, hJ_sR, hI_eq, hI_ne, hI_nk]; first | assumption | exact okv3 (by assumption)))))))))
    exact k c1 f1 0 _ (Or.inl ⟨w, rfl, rfl, rfl⟩)
  | inr E =>
    obtain ⟨c, hc⟩ := e
    simp only [Lrd, List.mem_cons, List.not_mem_nil, or_false, Prod.mk.injEq] at hc
    rcases hc with ⟨rfl, rfl⟩ | ⟨rfl, rfl⟩ | ⟨rfl, rfl⟩
    · show match ([("java/lang/IndexOutOfBoundsException", 15, 4), ("java/lang/UnsupportedOperationException", 19, 4), ("java/lang/IllegalStateException", 23, 4)] : List (String × Nat × Nat)).find? (fun q => q.1 == "java/lang/IndexOutOfBoundsException") with | some q => _ | none => False
      rw [show ([("java/lang/IndexOutOfBoundsException", 15, 4), ("java/lang/UnsupportedOperationException", 19, 4), ("java/lang/IllegalStateException", 23, 4)] : List (String × Nat × Nat)).find? (fun q => q.1 == "java/lang/IndexOutOfBoundsException") = some ("java/lang/IndexOutOfBoundsException", 15, 4) from by decide]
      intro cs ss g1 g2
      (refine go mL_read hX [] 400 ?_; conv => whnf)
      repeat (first | (refine rs ?_; conv => whnf) | unfold k_call | ((with_reducible refine And.intro ?_ ?_); (first | (first | assumption | rfl | exact True.intro | exact Nat.le_of_ble_eq_true rfl | exact Or.inl rfl | exact Or.inr rfl | exact okv3 (by assumption) | decide | (focus (simp (disch := omega) only [nI_clamp, vp_in_nI, hT_sI, hR_sI, hT_sJ, hR_sJ, hT_sR, hI_sJ, hI_sR, hJ_sI, hJ_sR, hI_eq, hI_ne, hI_nk]; done)) | (focus (simp (disch := omega) only [nI_clamp, vp_in_nI, hT_sI, hR_sI, hT_sJ, hR_sJ, hT_sR, hI_sJ, hI_sR, hJ_sI, hJ_sR, hI_eq, hI_ne, hI_nk]; first | assumption | exact okv3 (by assumption)))) | (focus (refine ⟨_, rfl, ?_⟩; (first | assumption | rfl | exact True.intro | exact Nat.le_of_ble_eq_true rfl | exact Or.inl rfl | exact Or.inr rfl | exact okv3 (by assumption) | decide | (focus (simp (disch := omega) only [nI_clamp, vp_in_nI, hT_sI, hR_sI, hT_sJ, hR_sJ, hT_sR, hI_sJ, hI_sR, hJ_sI, hJ_sR, hI_eq, hI_ne, hI_nk]; done)) | (focus (simp (disch := omega) only [nI_clamp, vp_in_nI, hT_sI, hR_sI, hT_sJ, hR_sJ, hT_sR, hI_sJ, hI_sR, hJ_sI, hJ_sR, hI_eq, hI_ne, hI_nk]; first | assumption | exact okv3 (by assumption)))))))))
      exact k c1 f1 1 _ (Or.inr ⟨_, rfl, by decide, rfl⟩)
    · show match ([("java/lang/IndexOutOfBoundsException", 15, 4), ("java/lang/UnsupportedOperationException", 19, 4), ("java/lang/IllegalStateException", 23, 4)] : List (String × Nat × Nat)).find? (fun q => q.1 == "java/lang/UnsupportedOperationException") with | some q => _ | none => False
      rw [show ([("java/lang/IndexOutOfBoundsException", 15, 4), ("java/lang/UnsupportedOperationException", 19, 4), ("java/lang/IllegalStateException", 23, 4)] : List (String × Nat × Nat)).find? (fun q => q.1 == "java/lang/UnsupportedOperationException") = some ("java/lang/UnsupportedOperationException", 19, 4) from by decide]
      intro cs ss g1 g2
      (refine go mL_read hX [] 400 ?_; conv => whnf)
      repeat (first | (refine rs ?_; conv => whnf) | unfold k_call | ((with_reducible refine And.intro ?_ ?_); (first | (first | assumption | rfl | exact True.intro | exact Nat.le_of_ble_eq_true rfl | exact Or.inl rfl | exact Or.inr rfl | exact okv3 (by assumption) | decide | (focus (simp (disch := omega) only [nI_clamp, vp_in_nI, hT_sI, hR_sI, hT_sJ, hR_sJ, hT_sR, hI_sJ, hI_sR, hJ_sI, hJ_sR, hI_eq, hI_ne, hI_nk]; done)) | (focus (simp (disch := omega) only [nI_clamp, vp_in_nI, hT_sI, hR_sI, hT_sJ, hR_sJ, hT_sR, hI_sJ, hI_sR, hJ_sI, hJ_sR, hI_eq, hI_ne, hI_nk]; first | assumption | exact okv3 (by assumption)))) | (focus (refine ⟨_, rfl, ?_⟩; (first | assumption | rfl | exact True.intro | exact Nat.le_of_ble_eq_true rfl | exact Or.inl rfl | exact Or.inr rfl | exact okv3 (by assumption) | decide | (focus (simp (disch := omega) only [nI_clamp, vp_in_nI, hT_sI, hR_sI, hT_sJ, hR_sJ, hT_sR, hI_sJ, hI_sR, hJ_sI, hJ_sR, hI_eq, hI_ne, hI_nk]; done)) | (focus (simp (disch := omega) only [nI_clamp, vp_in_nI, hT_sI, hR_sI, hT_sJ, hR_sJ, hT_sR, hI_sJ, hI_sR, hJ_sI, hJ_sR, hI_eq, hI_ne, hI_nk]; first | assumption | exact okv3 (by assumption)))))))))
      exact k c1 f1 2 _ (Or.inr ⟨_, rfl, by decide, rfl⟩)
    · show match ([("java/lang/IndexOutOfBoundsException", 15, 4), ("java/lang/UnsupportedOperationException", 19, 4), ("java/lang/IllegalStateException", 23, 4)] : List (String × Nat × Nat)).find? (fun q => q.1 == "java/lang/IllegalStateException") with | some q => _ | none => False
      rw [show ([("java/lang/IndexOutOfBoundsException", 15, 4), ("java/lang/UnsupportedOperationException", 19, 4), ("java/lang/IllegalStateException", 23, 4)] : List (String × Nat × Nat)).find? (fun q => q.1 == "java/lang/IllegalStateException") = some ("java/lang/IllegalStateException", 23, 4) from by decide]
      intro cs ss g1 g2
      (refine go mL_read hX [] 400 ?_; conv => whnf)
      repeat (first | (refine rs ?_; conv => whnf) | unfold k_call | ((with_reducible refine And.intro ?_ ?_); (first | (first | assumption | rfl | exact True.intro | exact Nat.le_of_ble_eq_true rfl | exact Or.inl rfl | exact Or.inr rfl | exact okv3 (by assumption) | decide | (focus (simp (disch := omega) only [nI_clamp, vp_in_nI, hT_sI, hR_sI, hT_sJ, hR_sJ, hT_sR, hI_sJ, hI_sR, hJ_sI, hJ_sR, hI_eq, hI_ne, hI_nk]; done)) | (focus (simp (disch := omega) only [nI_clamp, vp_in_nI, hT_sI, hR_sI, hT_sJ, hR_sJ, hT_sR, hI_sJ, hI_sR, hJ_sI, hJ_sR, hI_eq, hI_ne, hI_nk]; first | assumption | exact okv3 (by assumption)))) | (focus (refine ⟨_, rfl, ?_⟩; (first | assumption | rfl | exact True.intro | exact Nat.le_of_ble_eq_true rfl | exact Or.inl rfl | exact Or.inr rfl | exact okv3 (by assumption) | decide | (focus (simp (disch := omega) only [nI_clamp, vp_in_nI, hT_sI, hR_sI, hT_sJ, hR_sJ, hT_sR, hI_sJ, hI_sR, hJ_sI, hJ_sR, hI_eq, hI_ne, hI_nk]; done)) | (focus (simp (disch := omega) only [nI_clamp, vp_in_nI, hT_sI, hR_sI, hT_sJ, hR_sJ, hT_sR, hI_sJ, hI_sR, hJ_sI, hJ_sR, hI_eq, hI_ne, hI_nk]; first | assumption | exact okv3 (by assumption)))))))))
      exact k c1 f1 3 _ (Or.inr ⟨_, rfl, by decide, rfl⟩)
theorem h_write {C : Nat → Prop} {h h1 : CH} {o : Nat} {x y v : Int32} {r1 : List Value ⊕ String} {Q : QT} (a13 : (hT h 300).1 = 13) (cls : Cls C wX9_write [.ref 300, .int x, .int y, .int v] h r1 h1) (e : EOK Lwr r1) (ho0 : hT h o = (101, 1)) (hco : ¬ C o) (k : CloC C h1 → Fr C h h1 → ∀ kv h2, HR (fun v => v.toInt64) o Lwr r1 h1 kv h2 → Q (.inl [.int kv]) h2) : wL_write [.ref 300, .int x, .int y, .int v, .ref o] h Q := by
  refine wgo (fun X hX => ?_) (by show 5 ≤ 6; decide)
  (refine go mL_write hX [] 400 ?_; conv => whnf)
  repeat (first | (refine rs ?_; conv => whnf) | unfold k_call | ((with_reducible refine And.intro ?_ ?_); (first | (first | assumption | rfl | exact True.intro | exact Nat.le_of_ble_eq_true rfl | exact Or.inl rfl | exact Or.inr rfl | exact okv3 (by assumption) | decide | (focus (simp (disch := omega) only [a13, nI_clamp, vp_in_nI, hT_sI, hR_sI, hT_sJ, hR_sJ, hT_sR, hI_sJ, hI_sR, hJ_sI, hJ_sR, hI_eq, hI_ne, hI_nk]; done)) | (focus (simp (disch := omega) only [a13, nI_clamp, vp_in_nI, hT_sI, hR_sI, hT_sJ, hR_sJ, hT_sR, hI_sJ, hI_sR, hJ_sI, hJ_sR, hI_eq, hI_ne, hI_nk]; first | assumption | exact okv3 (by assumption)))) | (focus (refine ⟨_, rfl, ?_⟩; (first | assumption | rfl | exact True.intro | exact Nat.le_of_ble_eq_true rfl | exact Or.inl rfl | exact Or.inr rfl | exact okv3 (by assumption) | decide | (focus (simp (disch := omega) only [a13, nI_clamp, vp_in_nI, hT_sI, hR_sI, hT_sJ, hR_sJ, hT_sR, hI_sJ, hI_sR, hJ_sI, hJ_sR, hI_eq, hI_ne, hI_nk]; done)) | (focus (simp (disch := omega) only [a13, nI_clamp, vp_in_nI, hT_sI, hR_sI, hT_sJ, hR_sJ, hT_sR, hI_sJ, hI_sR, hJ_sI, hJ_sR, hI_eq, hI_ne, hI_nk]; first | assumption | exact okv3 (by assumption)))))))))
  refine cls _ (fun c1 f1 => ?_)
  have ho : hT h1 o = (101, 1) := (f1.2 o hco).1.trans ho0
  have ho1 : (hT h1 o).1 = 101 := by rw [ho]
  have ho2 : vp_in 0 (hT h1 o).2 := vp0 ho
  cases r1 with
  | inl vs =>
    obtain ⟨w, rfl⟩ := e
    repeat (first | (refine rs ?_; conv => whnf) | unfold k_call | ((with_reducible refine And.intro ?_ ?_); (first | (first | assumption | rfl | exact True.intro | exact Nat.le_of_ble_eq_true rfl | exact Or.inl rfl | exact Or.inr rfl | exact okv3 (by assumption) | decide | (focus (simp (disch := omega) only [nI_clamp, vp_in_nI, hT_sI, hR_sI, hT_sJ, hR_sJ, hT_sR, hI_sJ, hI_sR, hJ_sI, hJ_sR, hI_eq, hI_ne, hI_nk]; done)) | (focus (simp (disch := omega) only [nI_clamp, vp_in_nI, hT_sI, hR_sI, hT_sJ, hR_sJ, hT_sR, hI_sJ, hI_sR, hJ_sI, hJ_sR, hI_eq, hI_ne, hI_nk]; first | assumption | exact okv3 (by assumption)))) | (focus (refine ⟨_, rfl, ?_⟩; (first | assumption | rfl | exact True.intro | exact Nat.le_of_ble_eq_true rfl | exact Or.inl rfl | exact Or.inr rfl | exact okv3 (by assumption) | decide | (focus (simp (disch := omega) only [nI_clamp, vp_in_nI, hT_sI, hR_sI, hT_sJ, hR_sJ, hT_sR, hI_sJ, hI_sR, hJ_sI, hJ_sR, hI_eq, hI_ne, hI_nk]; done)) | (focus (simp (disch := omega) only [nI_clamp, vp_in_nI, hT_sI, hR_sI, hT_sJ, hR_sJ, hT_sR, hI_sJ, hI_sR, hJ_sI, hJ_sR, hI_eq, hI_ne, hI_nk]; first | assumption | exact okv3 (by assumption)))))))))
    exact k c1 f1 0 _ (Or.inl ⟨w, rfl, rfl, rfl⟩)
  | inr E =>
    obtain ⟨c, hc⟩ := e
    simp only [Lwr, List.mem_cons, List.not_mem_nil, or_false, Prod.mk.injEq] at hc
    rcases hc with ⟨rfl, rfl⟩ | ⟨rfl, rfl⟩ | ⟨rfl, rfl⟩ | ⟨rfl, rfl⟩
    · show match ([("java/lang/IndexOutOfBoundsException", 17, 5), ("java/lang/IllegalArgumentException", 21, 5), ("java/lang/UnsupportedOperationException", 25, 5), ("java/lang/IllegalStateException", 29, 5)] : List (String × Nat × Nat)).find? (fun q => q.1 == "java/lang/IndexOutOfBoundsException") with | some q => _ | none => False
      rw [show ([("java/lang/IndexOutOfBoundsException", 17, 5), ("java/lang/IllegalArgumentException", 21, 5), ("java/lang/UnsupportedOperationException", 25, 5), ("java/lang/IllegalStateException", 29, 5)] : List (String × Nat × Nat)).find? (fun q => q.1 == "java/lang/IndexOutOfBoundsException") = some ("java/lang/IndexOutOfBoundsException", 17, 5) from by decide]
      intro cs ss g1 g2
      (refine go mL_write hX [] 400 ?_; conv => whnf)
      repeat (first | (refine rs ?_; conv => whnf) | unfold k_call | ((with_reducible refine And.intro ?_ ?_); (first | (first | assumption | rfl | exact True.intro | exact Nat.le_of_ble_eq_true rfl | exact Or.inl rfl | exact Or.inr rfl | exact okv3 (by assumption) | decide | (focus (simp (disch := omega) only [nI_clamp, vp_in_nI, hT_sI, hR_sI, hT_sJ, hR_sJ, hT_sR, hI_sJ, hI_sR, hJ_sI, hJ_sR, hI_eq, hI_ne, hI_nk]; done)) | (focus (simp (disch := omega) only [nI_clamp, vp_in_nI, hT_sI, hR_sI, hT_sJ, hR_sJ, hT_sR, hI_sJ, hI_sR, hJ_sI, hJ_sR, hI_eq, hI_ne, hI_nk]; first | assumption | exact okv3 (by assumption)))) | (focus (refine ⟨_, rfl, ?_⟩; (first | assumption | rfl | exact True.intro | exact Nat.le_of_ble_eq_true rfl | exact Or.inl rfl | exact Or.inr rfl | exact okv3 (by assumption) | decide | (focus (simp (disch := omega) only [nI_clamp, vp_in_nI, hT_sI, hR_sI, hT_sJ, hR_sJ, hT_sR, hI_sJ, hI_sR, hJ_sI, hJ_sR, hI_eq, hI_ne, hI_nk]; done)) | (focus (simp (disch := omega) only [nI_clamp, vp_in_nI, hT_sI, hR_sI, hT_sJ, hR_sJ, hT_sR, hI_sJ, hI_sR, hJ_sI, hJ_sR, hI_eq, hI_ne, hI_nk]; first | assumption | exact okv3 (by assumption)))))))))
      exact k c1 f1 1 _ (Or.inr ⟨_, rfl, by decide, rfl⟩)
    · show match ([("java/lang/IndexOutOfBoundsException", 17, 5), ("java/lang/IllegalArgumentException", 21, 5), ("java/lang/UnsupportedOperationException", 25, 5), ("java/lang/IllegalStateException", 29, 5)] : List (String × Nat × Nat)).find? (fun q => q.1 == "java/lang/IllegalArgumentException") with | some q => _ | none => False
      rw [show ([("java/lang/IndexOutOfBoundsException", 17, 5), ("java/lang/IllegalArgumentException", 21, 5), ("java/lang/UnsupportedOperationException", 25, 5), ("java/lang/IllegalStateException", 29, 5)] : List (String × Nat × Nat)).find? (fun q => q.1 == "java/lang/IllegalArgumentException") = some ("java/lang/IllegalArgumentException", 21, 5) from by decide]
      intro cs ss g1 g2
      (refine go mL_write hX [] 400 ?_; conv => whnf)
      repeat (first | (refine rs ?_; conv => whnf) | unfold k_call | ((with_reducible refine And.intro ?_ ?_); (first | (first | assumption | rfl | exact True.intro | exact Nat.le_of_ble_eq_true rfl | exact Or.inl rfl | exact Or.inr rfl | exact okv3 (by assumption) | decide | (focus (simp (disch := omega) only [nI_clamp, vp_in_nI, hT_sI, hR_sI, hT_sJ, hR_sJ, hT_sR, hI_sJ, hI_sR, hJ_sI, hJ_sR, hI_eq, hI_ne, hI_nk]; done)) | (focus (simp (disch := omega) only [nI_clamp, vp_in_nI, hT_sI, hR_sI, hT_sJ, hR_sJ, hT_sR, hI_sJ, hI_sR, hJ_sI, hJ_sR, hI_eq, hI_ne, hI_nk]; first | assumption | exact okv3 (by assumption)))) | (focus (refine ⟨_, rfl, ?_⟩; (first | assumption | rfl | exact True.intro | exact Nat.le_of_ble_eq_true rfl | exact Or.inl rfl | exact Or.inr rfl | exact okv3 (by assumption) | decide | (focus (simp (disch := omega) only [nI_clamp, vp_in_nI, hT_sI, hR_sI, hT_sJ, hR_sJ, hT_sR, hI_sJ, hI_sR, hJ_sI, hJ_sR, hI_eq, hI_ne, hI_nk]; done)) | (focus (simp (disch := omega) only [nI_clamp, vp_in_nI, hT_sI, hR_sI, hT_sJ, hR_sJ, hT_sR, hI_sJ, hI_sR, hJ_sI, hJ_sR, hI_eq, hI_ne, hI_nk]; first | assumption | exact okv3 (by assumption)))))))))
      exact k c1 f1 2 _ (Or.inr ⟨_, rfl, by decide, rfl⟩)
    · show match ([("java/lang/IndexOutOfBoundsException", 17, 5), ("java/lang/IllegalArgumentException", 21, 5), ("java/lang/UnsupportedOperationException", 25, 5), ("java/lang/IllegalStateException", 29, 5)] : List (String × Nat × Nat)).find? (fun q => q.1 == "java/lang/UnsupportedOperationException") with | some q => _ | none => False
      rw [show ([("java/lang/IndexOutOfBoundsException", 17, 5), ("java/lang/IllegalArgumentException", 21, 5), ("java/lang/UnsupportedOperationException", 25, 5), ("java/lang/IllegalStateException", 29, 5)] : List (String × Nat × Nat)).find? (fun q => q.1 == "java/lang/UnsupportedOperationException") = some ("java/lang/UnsupportedOperationException", 25, 5) from by decide]
      intro cs ss g1 g2
      (refine go mL_write hX [] 400 ?_; conv => whnf)
      repeat (first | (refine rs ?_; conv => whnf) | unfold k_call | ((with_reducible refine And.intro ?_ ?_); (first | (first | assumption | rfl | exact True.intro | exact Nat.le_of_ble_eq_true rfl | exact Or.inl rfl | exact Or.inr rfl | exact okv3 (by assumption) | decide | (focus (simp (disch := omega) only [nI_clamp, vp_in_nI, hT_sI, hR_sI, hT_sJ, hR_sJ, hT_sR, hI_sJ, hI_sR, hJ_sI, hJ_sR, hI_eq, hI_ne, hI_nk]; done)) | (focus (simp (disch := omega) only [nI_clamp, vp_in_nI, hT_sI, hR_sI, hT_sJ, hR_sJ, hT_sR, hI_sJ, hI_sR, hJ_sI, hJ_sR, hI_eq, hI_ne, hI_nk]; first | assumption | exact okv3 (by assumption)))) | (focus (refine ⟨_, rfl, ?_⟩; (first | assumption | rfl | exact True.intro | exact Nat.le_of_ble_eq_true rfl | exact Or.inl rfl | exact Or.inr rfl | exact okv3 (by assumption) | decide | (focus (simp (disch := omega) only [nI_clamp, vp_in_nI, hT_sI, hR_sI, hT_sJ, hR_sJ, hT_sR, hI_sJ, hI_sR, hJ_sI, hJ_sR, hI_eq, hI_ne, hI_nk]; done)) | (focus (simp (disch := omega) only [nI_clamp, vp_in_nI, hT_sI, hR_sI, hT_sJ, hR_sJ, hT_sR, hI_sJ, hI_sR, hJ_sI, hJ_sR, hI_eq, hI_ne, hI_nk]; first | assumption | exact okv3 (by assumption)))))))))
      exact k c1 f1 3 _ (Or.inr ⟨_, rfl, by decide, rfl⟩)
    · show match ([("java/lang/IndexOutOfBoundsException", 17, 5), ("java/lang/IllegalArgumentException", 21, 5), ("java/lang/UnsupportedOperationException", 25, 5), ("java/lang/IllegalStateException", 29, 5)] : List (String × Nat × Nat)).find? (fun q => q.1 == "java/lang/IllegalStateException") with | some q => _ | none => False
      rw [show ([("java/lang/IndexOutOfBoundsException", 17, 5), ("java/lang/IllegalArgumentException", 21, 5), ("java/lang/UnsupportedOperationException", 25, 5), ("java/lang/IllegalStateException", 29, 5)] : List (String × Nat × Nat)).find? (fun q => q.1 == "java/lang/IllegalStateException") = some ("java/lang/IllegalStateException", 29, 5) from by decide]
      intro cs ss g1 g2
      (refine go mL_write hX [] 400 ?_; conv => whnf)
      repeat (first | (refine rs ?_; conv => whnf) | unfold k_call | ((with_reducible refine And.intro ?_ ?_); (first | (first | assumption | rfl | exact True.intro | exact Nat.le_of_ble_eq_true rfl | exact Or.inl rfl | exact Or.inr rfl | exact okv3 (by assumption) | decide | (focus (simp (disch := omega) only [nI_clamp, vp_in_nI, hT_sI, hR_sI, hT_sJ, hR_sJ, hT_sR, hI_sJ, hI_sR, hJ_sI, hJ_sR, hI_eq, hI_ne, hI_nk]; done)) | (focus (simp (disch := omega) only [nI_clamp, vp_in_nI, hT_sI, hR_sI, hT_sJ, hR_sJ, hT_sR, hI_sJ, hI_sR, hJ_sI, hJ_sR, hI_eq, hI_ne, hI_nk]; first | assumption | exact okv3 (by assumption)))) | (focus (refine ⟨_, rfl, ?_⟩; (first | assumption | rfl | exact True.intro | exact Nat.le_of_ble_eq_true rfl | exact Or.inl rfl | exact Or.inr rfl | exact okv3 (by assumption) | decide | (focus (simp (disch := omega) only [nI_clamp, vp_in_nI, hT_sI, hR_sI, hT_sJ, hR_sJ, hT_sR, hI_sJ, hI_sR, hJ_sI, hJ_sR, hI_eq, hI_ne, hI_nk]; done)) | (focus (simp (disch := omega) only [nI_clamp, vp_in_nI, hT_sI, hR_sI, hT_sJ, hR_sJ, hT_sR, hI_sJ, hI_sR, hJ_sI, hJ_sR, hI_eq, hI_ne, hI_nk]; first | assumption | exact okv3 (by assumption)))))))))
      exact k c1 f1 4 _ (Or.inr ⟨_, rfl, by decide, rfl⟩)
theorem h_pin {C : Nat → Prop} {h h1 : CH} {o : Nat} {x y : Int32} {r1 : List Value ⊕ String} {Q : QT} (a13 : (hT h 300).1 = 13) (cls : Cls C wX9_pin [.ref 300, .int x, .int y] h r1 h1) (e : EOK Lpin r1) (ho0 : hT h o = (101, 1)) (hco : ¬ C o) (k : CloC C h1 → Fr C h h1 → ∀ kv h2, HR (fun v => v.toInt64) o Lpin r1 h1 kv h2 → Q (.inl [.int kv]) h2) : wL_pin [.ref 300, .int x, .int y, .ref o] h Q := by
  refine wgo (fun X hX => ?_) (by show 4 ≤ 5; decide)
  (refine go mL_pin hX [] 400 ?_; conv => whnf)
  repeat (first | (refine rs ?_; conv => whnf) | unfold k_call | ((with_reducible refine And.intro ?_ ?_); (first | (first | assumption | rfl | exact True.intro | exact Nat.le_of_ble_eq_true rfl | exact Or.inl rfl | exact Or.inr rfl | exact okv3 (by assumption) | decide | (focus (simp (disch := omega) only [a13, nI_clamp, vp_in_nI, hT_sI, hR_sI, hT_sJ, hR_sJ, hT_sR, hI_sJ, hI_sR, hJ_sI, hJ_sR, hI_eq, hI_ne, hI_nk]; done)) | (focus (simp (disch := omega) only [a13, nI_clamp, vp_in_nI, hT_sI, hR_sI, hT_sJ, hR_sJ, hT_sR, hI_sJ, hI_sR, hJ_sI, hJ_sR, hI_eq, hI_ne, hI_nk]; first | assumption | exact okv3 (by assumption)))) | (focus (refine ⟨_, rfl, ?_⟩; (first | assumption | rfl | exact True.intro | exact Nat.le_of_ble_eq_true rfl | exact Or.inl rfl | exact Or.inr rfl | exact okv3 (by assumption) | decide | (focus (simp (disch := omega) only [a13, nI_clamp, vp_in_nI, hT_sI, hR_sI, hT_sJ, hR_sJ, hT_sR, hI_sJ, hI_sR, hJ_sI, hJ_sR, hI_eq, hI_ne, hI_nk]; done)) | (focus (simp (disch := omega) only [a13, nI_clamp, vp_in_nI, hT_sI, hR_sI, hT_sJ, hR_sJ, hT_sR, hI_sJ, hI_sR, hJ_sI, hJ_sR, hI_eq, hI_ne, hI_nk]; first | assumption | exact okv3 (by assumption)))))))))
  refine cls _ (fun c1 f1 => ?_)
  have ho : hT h1 o = (101, 1) := (f1.2 o hco).1.trans ho0
  have ho1 : (hT h1 o).1 = 101 := by rw [ho]
  have ho2 : vp_in 0 (hT h1 o).2 := vp0 ho
  cases r1 with
  | inl vs =>
    obtain ⟨w, rfl⟩ := e
    repeat (first | (refine rs ?_; conv => whnf) | unfold k_call | ((with_reducible refine And.intro ?_ ?_); (first | (first | assumption | rfl | exact True.intro | exact Nat.le_of_ble_eq_true rfl | exact Or.inl rfl | exact Or.inr rfl | exact okv3 (by assumption) | decide | (focus (simp (disch := omega) only [nI_clamp, vp_in_nI, hT_sI, hR_sI, hT_sJ, hR_sJ, hT_sR, hI_sJ, hI_sR, hJ_sI, hJ_sR, hI_eq, hI_ne, hI_nk]; done)) | (focus (simp (disch := omega) only [nI_clamp, vp_in_nI, hT_sI, hR_sI, hT_sJ, hR_sJ, hT_sR, hI_sJ, hI_sR, hJ_sI, hJ_sR, hI_eq, hI_ne, hI_nk]; first | assumption | exact okv3 (by assumption)))) | (focus (refine ⟨_, rfl, ?_⟩; (first | assumption | rfl | exact True.intro | exact Nat.le_of_ble_eq_true rfl | exact Or.inl rfl | exact Or.inr rfl | exact okv3 (by assumption) | decide | (focus (simp (disch := omega) only [nI_clamp, vp_in_nI, hT_sI, hR_sI, hT_sJ, hR_sJ, hT_sR, hI_sJ, hI_sR, hJ_sI, hJ_sR, hI_eq, hI_ne, hI_nk]; done)) | (focus (simp (disch := omega) only [nI_clamp, vp_in_nI, hT_sI, hR_sI, hT_sJ, hR_sJ, hT_sR, hI_sJ, hI_sR, hJ_sI, hJ_sR, hI_eq, hI_ne, hI_nk]; first | assumption | exact okv3 (by assumption)))))))))
    exact k c1 f1 0 _ (Or.inl ⟨w, rfl, rfl, rfl⟩)
  | inr E =>
    obtain ⟨c, hc⟩ := e
    simp only [Lpin, List.mem_cons, List.not_mem_nil, or_false, Prod.mk.injEq] at hc
    rcases hc with ⟨rfl, rfl⟩ | ⟨rfl, rfl⟩
    · show match ([("java/lang/IndexOutOfBoundsException", 15, 4), ("java/util/NoSuchElementException", 19, 4)] : List (String × Nat × Nat)).find? (fun q => q.1 == "java/lang/IndexOutOfBoundsException") with | some q => _ | none => False
      rw [show ([("java/lang/IndexOutOfBoundsException", 15, 4), ("java/util/NoSuchElementException", 19, 4)] : List (String × Nat × Nat)).find? (fun q => q.1 == "java/lang/IndexOutOfBoundsException") = some ("java/lang/IndexOutOfBoundsException", 15, 4) from by decide]
      intro cs ss g1 g2
      (refine go mL_pin hX [] 400 ?_; conv => whnf)
      repeat (first | (refine rs ?_; conv => whnf) | unfold k_call | ((with_reducible refine And.intro ?_ ?_); (first | (first | assumption | rfl | exact True.intro | exact Nat.le_of_ble_eq_true rfl | exact Or.inl rfl | exact Or.inr rfl | exact okv3 (by assumption) | decide | (focus (simp (disch := omega) only [nI_clamp, vp_in_nI, hT_sI, hR_sI, hT_sJ, hR_sJ, hT_sR, hI_sJ, hI_sR, hJ_sI, hJ_sR, hI_eq, hI_ne, hI_nk]; done)) | (focus (simp (disch := omega) only [nI_clamp, vp_in_nI, hT_sI, hR_sI, hT_sJ, hR_sJ, hT_sR, hI_sJ, hI_sR, hJ_sI, hJ_sR, hI_eq, hI_ne, hI_nk]; first | assumption | exact okv3 (by assumption)))) | (focus (refine ⟨_, rfl, ?_⟩; (first | assumption | rfl | exact True.intro | exact Nat.le_of_ble_eq_true rfl | exact Or.inl rfl | exact Or.inr rfl | exact okv3 (by assumption) | decide | (focus (simp (disch := omega) only [nI_clamp, vp_in_nI, hT_sI, hR_sI, hT_sJ, hR_sJ, hT_sR, hI_sJ, hI_sR, hJ_sI, hJ_sR, hI_eq, hI_ne, hI_nk]; done)) | (focus (simp (disch := omega) only [nI_clamp, vp_in_nI, hT_sI, hR_sI, hT_sJ, hR_sJ, hT_sR, hI_sJ, hI_sR, hJ_sI, hJ_sR, hI_eq, hI_ne, hI_nk]; first | assumption | exact okv3 (by assumption)))))))))
      exact k c1 f1 1 _ (Or.inr ⟨_, rfl, by decide, rfl⟩)
    · show match ([("java/lang/IndexOutOfBoundsException", 15, 4), ("java/util/NoSuchElementException", 19, 4)] : List (String × Nat × Nat)).find? (fun q => q.1 == "java/util/NoSuchElementException") with | some q => _ | none => False
      rw [show ([("java/lang/IndexOutOfBoundsException", 15, 4), ("java/util/NoSuchElementException", 19, 4)] : List (String × Nat × Nat)).find? (fun q => q.1 == "java/util/NoSuchElementException") = some ("java/util/NoSuchElementException", 19, 4) from by decide]
      intro cs ss g1 g2
      (refine go mL_pin hX [] 400 ?_; conv => whnf)
      repeat (first | (refine rs ?_; conv => whnf) | unfold k_call | ((with_reducible refine And.intro ?_ ?_); (first | (first | assumption | rfl | exact True.intro | exact Nat.le_of_ble_eq_true rfl | exact Or.inl rfl | exact Or.inr rfl | exact okv3 (by assumption) | decide | (focus (simp (disch := omega) only [nI_clamp, vp_in_nI, hT_sI, hR_sI, hT_sJ, hR_sJ, hT_sR, hI_sJ, hI_sR, hJ_sI, hJ_sR, hI_eq, hI_ne, hI_nk]; done)) | (focus (simp (disch := omega) only [nI_clamp, vp_in_nI, hT_sI, hR_sI, hT_sJ, hR_sJ, hT_sR, hI_sJ, hI_sR, hJ_sI, hJ_sR, hI_eq, hI_ne, hI_nk]; first | assumption | exact okv3 (by assumption)))) | (focus (refine ⟨_, rfl, ?_⟩; (first | assumption | rfl | exact True.intro | exact Nat.le_of_ble_eq_true rfl | exact Or.inl rfl | exact Or.inr rfl | exact okv3 (by assumption) | decide | (focus (simp (disch := omega) only [nI_clamp, vp_in_nI, hT_sI, hR_sI, hT_sJ, hR_sJ, hT_sR, hI_sJ, hI_sR, hJ_sI, hJ_sR, hI_eq, hI_ne, hI_nk]; done)) | (focus (simp (disch := omega) only [nI_clamp, vp_in_nI, hT_sI, hR_sI, hT_sJ, hR_sJ, hT_sR, hI_sJ, hI_sR, hJ_sI, hJ_sR, hI_eq, hI_ne, hI_nk]; first | assumption | exact okv3 (by assumption)))))))))
      exact k c1 f1 2 _ (Or.inr ⟨_, rfl, by decide, rfl⟩)
theorem h_unpin {C : Nat → Prop} {h h1 : CH} {o : Nat} {x y : Int32} {r1 : List Value ⊕ String} {Q : QT} (a13 : (hT h 300).1 = 13) (cls : Cls C wX9_unpin [.ref 300, .int x, .int y] h r1 h1) (e : EOK Lpin r1) (ho0 : hT h o = (101, 1)) (hco : ¬ C o) (k : CloC C h1 → Fr C h h1 → ∀ kv h2, HR (fun v => v.toInt64) o Lpin r1 h1 kv h2 → Q (.inl [.int kv]) h2) : wL_unpin [.ref 300, .int x, .int y, .ref o] h Q := by
  refine wgo (fun X hX => ?_) (by show 4 ≤ 5; decide)
  (refine go mL_unpin hX [] 400 ?_; conv => whnf)
  repeat (first | (refine rs ?_; conv => whnf) | unfold k_call | ((with_reducible refine And.intro ?_ ?_); (first | (first | assumption | rfl | exact True.intro | exact Nat.le_of_ble_eq_true rfl | exact Or.inl rfl | exact Or.inr rfl | exact okv3 (by assumption) | decide | (focus (simp (disch := omega) only [a13, nI_clamp, vp_in_nI, hT_sI, hR_sI, hT_sJ, hR_sJ, hT_sR, hI_sJ, hI_sR, hJ_sI, hJ_sR, hI_eq, hI_ne, hI_nk]; done)) | (focus (simp (disch := omega) only [a13, nI_clamp, vp_in_nI, hT_sI, hR_sI, hT_sJ, hR_sJ, hT_sR, hI_sJ, hI_sR, hJ_sI, hJ_sR, hI_eq, hI_ne, hI_nk]; first | assumption | exact okv3 (by assumption)))) | (focus (refine ⟨_, rfl, ?_⟩; (first | assumption | rfl | exact True.intro | exact Nat.le_of_ble_eq_true rfl | exact Or.inl rfl | exact Or.inr rfl | exact okv3 (by assumption) | decide | (focus (simp (disch := omega) only [a13, nI_clamp, vp_in_nI, hT_sI, hR_sI, hT_sJ, hR_sJ, hT_sR, hI_sJ, hI_sR, hJ_sI, hJ_sR, hI_eq, hI_ne, hI_nk]; done)) | (focus (simp (disch := omega) only [a13, nI_clamp, vp_in_nI, hT_sI, hR_sI, hT_sJ, hR_sJ, hT_sR, hI_sJ, hI_sR, hJ_sI, hJ_sR, hI_eq, hI_ne, hI_nk]; first | assumption | exact okv3 (by assumption)))))))))
  refine cls _ (fun c1 f1 => ?_)
  have ho : hT h1 o = (101, 1) := (f1.2 o hco).1.trans ho0
  have ho1 : (hT h1 o).1 = 101 := by rw [ho]
  have ho2 : vp_in 0 (hT h1 o).2 := vp0 ho
  cases r1 with
  | inl vs =>
    obtain ⟨w, rfl⟩ := e
    repeat (first | (refine rs ?_; conv => whnf) | unfold k_call | ((with_reducible refine And.intro ?_ ?_); (first | (first | assumption | rfl | exact True.intro | exact Nat.le_of_ble_eq_true rfl | exact Or.inl rfl | exact Or.inr rfl | exact okv3 (by assumption) | decide | (focus (simp (disch := omega) only [nI_clamp, vp_in_nI, hT_sI, hR_sI, hT_sJ, hR_sJ, hT_sR, hI_sJ, hI_sR, hJ_sI, hJ_sR, hI_eq, hI_ne, hI_nk]; done)) | (focus (simp (disch := omega) only [nI_clamp, vp_in_nI, hT_sI, hR_sI, hT_sJ, hR_sJ, hT_sR, hI_sJ, hI_sR, hJ_sI, hJ_sR, hI_eq, hI_ne, hI_nk]; first | assumption | exact okv3 (by assumption)))) | (focus (refine ⟨_, rfl, ?_⟩; (first | assumption | rfl | exact True.intro | exact Nat.le_of_ble_eq_true rfl | exact Or.inl rfl | exact Or.inr rfl | exact okv3 (by assumption) | decide | (focus (simp (disch := omega) only [nI_clamp, vp_in_nI, hT_sI, hR_sI, hT_sJ, hR_sJ, hT_sR, hI_sJ, hI_sR, hJ_sI, hJ_sR, hI_eq, hI_ne, hI_nk]; done)) | (focus (simp (disch := omega) only [nI_clamp, vp_in_nI, hT_sI, hR_sI, hT_sJ, hR_sJ, hT_sR, hI_sJ, hI_sR, hJ_sI, hJ_sR, hI_eq, hI_ne, hI_nk]; first | assumption | exact okv3 (by assumption)))))))))
    exact k c1 f1 0 _ (Or.inl ⟨w, rfl, rfl, rfl⟩)
  | inr E =>
    obtain ⟨c, hc⟩ := e
    simp only [Lpin, List.mem_cons, List.not_mem_nil, or_false, Prod.mk.injEq] at hc
    rcases hc with ⟨rfl, rfl⟩ | ⟨rfl, rfl⟩
    · show match ([("java/lang/IndexOutOfBoundsException", 15, 4), ("java/util/NoSuchElementException", 19, 4)] : List (String × Nat × Nat)).find? (fun q => q.1 == "java/lang/IndexOutOfBoundsException") with | some q => _ | none => False
      rw [show ([("java/lang/IndexOutOfBoundsException", 15, 4), ("java/util/NoSuchElementException", 19, 4)] : List (String × Nat × Nat)).find? (fun q => q.1 == "java/lang/IndexOutOfBoundsException") = some ("java/lang/IndexOutOfBoundsException", 15, 4) from by decide]
      intro cs ss g1 g2
      (refine go mL_unpin hX [] 400 ?_; conv => whnf)
      repeat (first | (refine rs ?_; conv => whnf) | unfold k_call | ((with_reducible refine And.intro ?_ ?_); (first | (first | assumption | rfl | exact True.intro | exact Nat.le_of_ble_eq_true rfl | exact Or.inl rfl | exact Or.inr rfl | exact okv3 (by assumption) | decide | (focus (simp (disch := omega) only [nI_clamp, vp_in_nI, hT_sI, hR_sI, hT_sJ, hR_sJ, hT_sR, hI_sJ, hI_sR, hJ_sI, hJ_sR, hI_eq, hI_ne, hI_nk]; done)) | (focus (simp (disch := omega) only [nI_clamp, vp_in_nI, hT_sI, hR_sI, hT_sJ, hR_sJ, hT_sR, hI_sJ, hI_sR, hJ_sI, hJ_sR, hI_eq, hI_ne, hI_nk]; first | assumption | exact okv3 (by assumption)))) | (focus (refine ⟨_, rfl, ?_⟩; (first | assumption | rfl | exact True.intro | exact Nat.le_of_ble_eq_true rfl | exact Or.inl rfl | exact Or.inr rfl | exact okv3 (by assumption) | decide | (focus (simp (disch := omega) only [nI_clamp, vp_in_nI, hT_sI, hR_sI, hT_sJ, hR_sJ, hT_sR, hI_sJ, hI_sR, hJ_sI, hJ_sR, hI_eq, hI_ne, hI_nk]; done)) | (focus (simp (disch := omega) only [nI_clamp, vp_in_nI, hT_sI, hR_sI, hT_sJ, hR_sJ, hT_sR, hI_sJ, hI_sR, hJ_sI, hJ_sR, hI_eq, hI_ne, hI_nk]; first | assumption | exact okv3 (by assumption)))))))))
      exact k c1 f1 1 _ (Or.inr ⟨_, rfl, by decide, rfl⟩)
    · show match ([("java/lang/IndexOutOfBoundsException", 15, 4), ("java/util/NoSuchElementException", 19, 4)] : List (String × Nat × Nat)).find? (fun q => q.1 == "java/util/NoSuchElementException") with | some q => _ | none => False
      rw [show ([("java/lang/IndexOutOfBoundsException", 15, 4), ("java/util/NoSuchElementException", 19, 4)] : List (String × Nat × Nat)).find? (fun q => q.1 == "java/util/NoSuchElementException") = some ("java/util/NoSuchElementException", 19, 4) from by decide]
      intro cs ss g1 g2
      (refine go mL_unpin hX [] 400 ?_; conv => whnf)
      repeat (first | (refine rs ?_; conv => whnf) | unfold k_call | ((with_reducible refine And.intro ?_ ?_); (first | (first | assumption | rfl | exact True.intro | exact Nat.le_of_ble_eq_true rfl | exact Or.inl rfl | exact Or.inr rfl | exact okv3 (by assumption) | decide | (focus (simp (disch := omega) only [nI_clamp, vp_in_nI, hT_sI, hR_sI, hT_sJ, hR_sJ, hT_sR, hI_sJ, hI_sR, hJ_sI, hJ_sR, hI_eq, hI_ne, hI_nk]; done)) | (focus (simp (disch := omega) only [nI_clamp, vp_in_nI, hT_sI, hR_sI, hT_sJ, hR_sJ, hT_sR, hI_sJ, hI_sR, hJ_sI, hJ_sR, hI_eq, hI_ne, hI_nk]; first | assumption | exact okv3 (by assumption)))) | (focus (refine ⟨_, rfl, ?_⟩; (first | assumption | rfl | exact True.intro | exact Nat.le_of_ble_eq_true rfl | exact Or.inl rfl | exact Or.inr rfl | exact okv3 (by assumption) | decide | (focus (simp (disch := omega) only [nI_clamp, vp_in_nI, hT_sI, hR_sI, hT_sJ, hR_sJ, hT_sR, hI_sJ, hI_sR, hJ_sI, hJ_sR, hI_eq, hI_ne, hI_nk]; done)) | (focus (simp (disch := omega) only [nI_clamp, vp_in_nI, hT_sI, hR_sI, hT_sJ, hR_sJ, hT_sR, hI_sJ, hI_sR, hJ_sI, hJ_sR, hI_eq, hI_ne, hI_nk]; first | assumption | exact okv3 (by assumption)))))))))
      exact k c1 f1 2 _ (Or.inr ⟨_, rfl, by decide, rfl⟩)
theorem h_frameOf {C : Nat → Prop} {h h1 : CH} {o : Nat} {x y : Int32} {r1 : List Value ⊕ String} {Q : QT} (a13 : (hT h 300).1 = 13) (cls : Cls C wX9_frameOf [.ref 300, .int x, .int y] h r1 h1) (e : EOK Liob r1) (ho0 : hT h o = (101, 1)) (hco : ¬ C o) (k : CloC C h1 → Fr C h h1 → ∀ kv h2, HR (fun v => v.toInt64) o Liob r1 h1 kv h2 → Q (.inl [.int kv]) h2) : wL_frameOf [.ref 300, .int x, .int y, .ref o] h Q := by
  refine wgo (fun X hX => ?_) (by show 4 ≤ 5; decide)
  (refine go mL_frameOf hX [] 400 ?_; conv => whnf)
  repeat (first | (refine rs ?_; conv => whnf) | unfold k_call | ((with_reducible refine And.intro ?_ ?_); (first | (first | assumption | rfl | exact True.intro | exact Nat.le_of_ble_eq_true rfl | exact Or.inl rfl | exact Or.inr rfl | exact okv3 (by assumption) | decide | (focus (simp (disch := omega) only [a13, nI_clamp, vp_in_nI, hT_sI, hR_sI, hT_sJ, hR_sJ, hT_sR, hI_sJ, hI_sR, hJ_sI, hJ_sR, hI_eq, hI_ne, hI_nk]; done)) | (focus (simp (disch := omega) only [a13, nI_clamp, vp_in_nI, hT_sI, hR_sI, hT_sJ, hR_sJ, hT_sR, hI_sJ, hI_sR, hJ_sI, hJ_sR, hI_eq, hI_ne, hI_nk]; first | assumption | exact okv3 (by assumption)))) | (focus (refine ⟨_, rfl, ?_⟩; (first | assumption | rfl | exact True.intro | exact Nat.le_of_ble_eq_true rfl | exact Or.inl rfl | exact Or.inr rfl | exact okv3 (by assumption) | decide | (focus (simp (disch := omega) only [a13, nI_clamp, vp_in_nI, hT_sI, hR_sI, hT_sJ, hR_sJ, hT_sR, hI_sJ, hI_sR, hJ_sI, hJ_sR, hI_eq, hI_ne, hI_nk]; done)) | (focus (simp (disch := omega) only [a13, nI_clamp, vp_in_nI, hT_sI, hR_sI, hT_sJ, hR_sJ, hT_sR, hI_sJ, hI_sR, hJ_sI, hJ_sR, hI_eq, hI_ne, hI_nk]; first | assumption | exact okv3 (by assumption)))))))))
  refine cls _ (fun c1 f1 => ?_)
  have ho : hT h1 o = (101, 1) := (f1.2 o hco).1.trans ho0
  have ho1 : (hT h1 o).1 = 101 := by rw [ho]
  have ho2 : vp_in 0 (hT h1 o).2 := vp0 ho
  cases r1 with
  | inl vs =>
    obtain ⟨w, rfl⟩ := e
    repeat (first | (refine rs ?_; conv => whnf) | unfold k_call | ((with_reducible refine And.intro ?_ ?_); (first | (first | assumption | rfl | exact True.intro | exact Nat.le_of_ble_eq_true rfl | exact Or.inl rfl | exact Or.inr rfl | exact okv3 (by assumption) | decide | (focus (simp (disch := omega) only [nI_clamp, vp_in_nI, hT_sI, hR_sI, hT_sJ, hR_sJ, hT_sR, hI_sJ, hI_sR, hJ_sI, hJ_sR, hI_eq, hI_ne, hI_nk]; done)) | (focus (simp (disch := omega) only [nI_clamp, vp_in_nI, hT_sI, hR_sI, hT_sJ, hR_sJ, hT_sR, hI_sJ, hI_sR, hJ_sI, hJ_sR, hI_eq, hI_ne, hI_nk]; first | assumption | exact okv3 (by assumption)))) | (focus (refine ⟨_, rfl, ?_⟩; (first | assumption | rfl | exact True.intro | exact Nat.le_of_ble_eq_true rfl | exact Or.inl rfl | exact Or.inr rfl | exact okv3 (by assumption) | decide | (focus (simp (disch := omega) only [nI_clamp, vp_in_nI, hT_sI, hR_sI, hT_sJ, hR_sJ, hT_sR, hI_sJ, hI_sR, hJ_sI, hJ_sR, hI_eq, hI_ne, hI_nk]; done)) | (focus (simp (disch := omega) only [nI_clamp, vp_in_nI, hT_sI, hR_sI, hT_sJ, hR_sJ, hT_sR, hI_sJ, hI_sR, hJ_sI, hJ_sR, hI_eq, hI_ne, hI_nk]; first | assumption | exact okv3 (by assumption)))))))))
    exact k c1 f1 0 _ (Or.inl ⟨w, rfl, rfl, rfl⟩)
  | inr E =>
    obtain ⟨c, hc⟩ := e
    simp only [Liob, List.mem_cons, List.not_mem_nil, or_false, Prod.mk.injEq] at hc
    obtain ⟨rfl, rfl⟩ := hc
    show match ([("java/lang/IndexOutOfBoundsException", 15, 4)] : List (String × Nat × Nat)).find? (fun q => q.1 == "java/lang/IndexOutOfBoundsException") with | some q => _ | none => False
    rw [show ([("java/lang/IndexOutOfBoundsException", 15, 4)] : List (String × Nat × Nat)).find? (fun q => q.1 == "java/lang/IndexOutOfBoundsException") = some ("java/lang/IndexOutOfBoundsException", 15, 4) from by decide]
    intro cs ss g1 g2
    (refine go mL_frameOf hX [] 400 ?_; conv => whnf)
    repeat (first | (refine rs ?_; conv => whnf) | unfold k_call | ((with_reducible refine And.intro ?_ ?_); (first | (first | assumption | rfl | exact True.intro | exact Nat.le_of_ble_eq_true rfl | exact Or.inl rfl | exact Or.inr rfl | exact okv3 (by assumption) | decide | (focus (simp (disch := omega) only [nI_clamp, vp_in_nI, hT_sI, hR_sI, hT_sJ, hR_sJ, hT_sR, hI_sJ, hI_sR, hJ_sI, hJ_sR, hI_eq, hI_ne, hI_nk]; done)) | (focus (simp (disch := omega) only [nI_clamp, vp_in_nI, hT_sI, hR_sI, hT_sJ, hR_sJ, hT_sR, hI_sJ, hI_sR, hJ_sI, hJ_sR, hI_eq, hI_ne, hI_nk]; first | assumption | exact okv3 (by assumption)))) | (focus (refine ⟨_, rfl, ?_⟩; (first | assumption | rfl | exact True.intro | exact Nat.le_of_ble_eq_true rfl | exact Or.inl rfl | exact Or.inr rfl | exact okv3 (by assumption) | decide | (focus (simp (disch := omega) only [nI_clamp, vp_in_nI, hT_sI, hR_sI, hT_sJ, hR_sJ, hT_sR, hI_sJ, hI_sR, hJ_sI, hJ_sR, hI_eq, hI_ne, hI_nk]; done)) | (focus (simp (disch := omega) only [nI_clamp, vp_in_nI, hT_sI, hR_sI, hT_sJ, hR_sJ, hT_sR, hI_sJ, hI_sR, hJ_sI, hJ_sR, hI_eq, hI_ne, hI_nk]; first | assumption | exact okv3 (by assumption)))))))))
    exact k c1 f1 1 _ (Or.inr ⟨_, rfl, by decide, rfl⟩)
theorem h_isDirty {C : Nat → Prop} {h h1 : CH} {o : Nat} {x y : Int32} {r1 : List Value ⊕ String} {Q : QT} (a13 : (hT h 300).1 = 13) (cls : Cls C wX9_isDirty [.ref 300, .int x, .int y] h r1 h1) (e : EOK Liob r1) (ho0 : hT h o = (101, 1)) (hco : ¬ C o) (k : CloC C h1 → Fr C h h1 → ∀ kv h2, HR (fun v => if v = 0 then 0 else 1) o Liob r1 h1 kv h2 → Q (.inl [.int kv]) h2) : wL_isDirty [.ref 300, .int x, .int y, .ref o] h Q := by
  refine wgo (fun X hX => ?_) (by show 4 ≤ 5; decide)
  (refine go mL_isDirty hX [] 400 ?_; conv => whnf)
  repeat (first | (refine rs ?_; conv => whnf) | unfold k_call | ((with_reducible refine And.intro ?_ ?_); (first | (first | assumption | rfl | exact True.intro | exact Nat.le_of_ble_eq_true rfl | exact Or.inl rfl | exact Or.inr rfl | exact okv3 (by assumption) | decide | (focus (simp (disch := omega) only [a13, nI_clamp, vp_in_nI, hT_sI, hR_sI, hT_sJ, hR_sJ, hT_sR, hI_sJ, hI_sR, hJ_sI, hJ_sR, hI_eq, hI_ne, hI_nk]; done)) | (focus (simp (disch := omega) only [a13, nI_clamp, vp_in_nI, hT_sI, hR_sI, hT_sJ, hR_sJ, hT_sR, hI_sJ, hI_sR, hJ_sI, hJ_sR, hI_eq, hI_ne, hI_nk]; first | assumption | exact okv3 (by assumption)))) | (focus (refine ⟨_, rfl, ?_⟩; (first | assumption | rfl | exact True.intro | exact Nat.le_of_ble_eq_true rfl | exact Or.inl rfl | exact Or.inr rfl | exact okv3 (by assumption) | decide | (focus (simp (disch := omega) only [a13, nI_clamp, vp_in_nI, hT_sI, hR_sI, hT_sJ, hR_sJ, hT_sR, hI_sJ, hI_sR, hJ_sI, hJ_sR, hI_eq, hI_ne, hI_nk]; done)) | (focus (simp (disch := omega) only [a13, nI_clamp, vp_in_nI, hT_sI, hR_sI, hT_sJ, hR_sJ, hT_sR, hI_sJ, hI_sR, hJ_sI, hJ_sR, hI_eq, hI_ne, hI_nk]; first | assumption | exact okv3 (by assumption)))))))))
  refine cls _ (fun c1 f1 => ?_)
  have ho : hT h1 o = (101, 1) := (f1.2 o hco).1.trans ho0
  have ho1 : (hT h1 o).1 = 101 := by rw [ho]
  have ho2 : vp_in 0 (hT h1 o).2 := vp0 ho
  cases r1 with
  | inl vs =>
    obtain ⟨w, rfl⟩ := e
    repeat (first | (refine rs ?_; conv => whnf) | unfold k_call | ((with_reducible refine And.intro ?_ ?_); (first | (first | assumption | rfl | exact True.intro | exact Nat.le_of_ble_eq_true rfl | exact Or.inl rfl | exact Or.inr rfl | exact okv3 (by assumption) | decide | (focus (simp (disch := omega) only [nI_clamp, vp_in_nI, hT_sI, hR_sI, hT_sJ, hR_sJ, hT_sR, hI_sJ, hI_sR, hJ_sI, hJ_sR, hI_eq, hI_ne, hI_nk]; done)) | (focus (simp (disch := omega) only [nI_clamp, vp_in_nI, hT_sI, hR_sI, hT_sJ, hR_sJ, hT_sR, hI_sJ, hI_sR, hJ_sI, hJ_sR, hI_eq, hI_ne, hI_nk]; first | assumption | exact okv3 (by assumption)))) | (focus (refine ⟨_, rfl, ?_⟩; (first | assumption | rfl | exact True.intro | exact Nat.le_of_ble_eq_true rfl | exact Or.inl rfl | exact Or.inr rfl | exact okv3 (by assumption) | decide | (focus (simp (disch := omega) only [nI_clamp, vp_in_nI, hT_sI, hR_sI, hT_sJ, hR_sJ, hT_sR, hI_sJ, hI_sR, hJ_sI, hJ_sR, hI_eq, hI_ne, hI_nk]; done)) | (focus (simp (disch := omega) only [nI_clamp, vp_in_nI, hT_sI, hR_sI, hT_sJ, hR_sJ, hT_sR, hI_sJ, hI_sR, hJ_sI, hJ_sR, hI_eq, hI_ne, hI_nk]; first | assumption | exact okv3 (by assumption)))))))))
    (refine ⟨fun c => ?_, fun c => ?_⟩ <;> (try dsimp only at c))
    · repeat (first | (refine rs ?_; conv => whnf) | unfold k_call | ((with_reducible refine And.intro ?_ ?_); (first | (first | assumption | rfl | exact True.intro | exact Nat.le_of_ble_eq_true rfl | exact Or.inl rfl | exact Or.inr rfl | exact okv3 (by assumption) | decide | (focus (simp (disch := omega) only [nI_clamp, vp_in_nI, hT_sI, hR_sI, hT_sJ, hR_sJ, hT_sR, hI_sJ, hI_sR, hJ_sI, hJ_sR, hI_eq, hI_ne, hI_nk]; done)) | (focus (simp (disch := omega) only [nI_clamp, vp_in_nI, hT_sI, hR_sI, hT_sJ, hR_sJ, hT_sR, hI_sJ, hI_sR, hJ_sI, hJ_sR, hI_eq, hI_ne, hI_nk]; first | assumption | exact okv3 (by assumption)))) | (focus (refine ⟨_, rfl, ?_⟩; (first | assumption | rfl | exact True.intro | exact Nat.le_of_ble_eq_true rfl | exact Or.inl rfl | exact Or.inr rfl | exact okv3 (by assumption) | decide | (focus (simp (disch := omega) only [nI_clamp, vp_in_nI, hT_sI, hR_sI, hT_sJ, hR_sJ, hT_sR, hI_sJ, hI_sR, hJ_sI, hJ_sR, hI_eq, hI_ne, hI_nk]; done)) | (focus (simp (disch := omega) only [nI_clamp, vp_in_nI, hT_sI, hR_sI, hT_sJ, hR_sJ, hT_sR, hI_sJ, hI_sR, hJ_sI, hJ_sR, hI_eq, hI_ne, hI_nk]; first | assumption | exact okv3 (by assumption)))))))))
      refine k c1 f1 0 _ (Or.inl ⟨w, rfl, rfl, ?_⟩)
      rw [if_pos c]
      rfl
    · repeat (first | (refine rs ?_; conv => whnf) | unfold k_call | ((with_reducible refine And.intro ?_ ?_); (first | (first | assumption | rfl | exact True.intro | exact Nat.le_of_ble_eq_true rfl | exact Or.inl rfl | exact Or.inr rfl | exact okv3 (by assumption) | decide | (focus (simp (disch := omega) only [nI_clamp, vp_in_nI, hT_sI, hR_sI, hT_sJ, hR_sJ, hT_sR, hI_sJ, hI_sR, hJ_sI, hJ_sR, hI_eq, hI_ne, hI_nk]; done)) | (focus (simp (disch := omega) only [nI_clamp, vp_in_nI, hT_sI, hR_sI, hT_sJ, hR_sJ, hT_sR, hI_sJ, hI_sR, hJ_sI, hJ_sR, hI_eq, hI_ne, hI_nk]; first | assumption | exact okv3 (by assumption)))) | (focus (refine ⟨_, rfl, ?_⟩; (first | assumption | rfl | exact True.intro | exact Nat.le_of_ble_eq_true rfl | exact Or.inl rfl | exact Or.inr rfl | exact okv3 (by assumption) | decide | (focus (simp (disch := omega) only [nI_clamp, vp_in_nI, hT_sI, hR_sI, hT_sJ, hR_sJ, hT_sR, hI_sJ, hI_sR, hJ_sI, hJ_sR, hI_eq, hI_ne, hI_nk]; done)) | (focus (simp (disch := omega) only [nI_clamp, vp_in_nI, hT_sI, hR_sI, hT_sJ, hR_sJ, hT_sR, hI_sJ, hI_sR, hJ_sI, hJ_sR, hI_eq, hI_ne, hI_nk]; first | assumption | exact okv3 (by assumption)))))))))
      refine k c1 f1 0 _ (Or.inl ⟨w, rfl, rfl, ?_⟩)
      rw [if_neg c]
      rfl
  | inr E =>
    obtain ⟨c, hc⟩ := e
    simp only [Liob, List.mem_cons, List.not_mem_nil, or_false, Prod.mk.injEq] at hc
    obtain ⟨rfl, rfl⟩ := hc
    show match ([("java/lang/IndexOutOfBoundsException", 22, 4)] : List (String × Nat × Nat)).find? (fun q => q.1 == "java/lang/IndexOutOfBoundsException") with | some q => _ | none => False
    rw [show ([("java/lang/IndexOutOfBoundsException", 22, 4)] : List (String × Nat × Nat)).find? (fun q => q.1 == "java/lang/IndexOutOfBoundsException") = some ("java/lang/IndexOutOfBoundsException", 22, 4) from by decide]
    intro cs ss g1 g2
    (refine go mL_isDirty hX [] 400 ?_; conv => whnf)
    repeat (first | (refine rs ?_; conv => whnf) | unfold k_call | ((with_reducible refine And.intro ?_ ?_); (first | (first | assumption | rfl | exact True.intro | exact Nat.le_of_ble_eq_true rfl | exact Or.inl rfl | exact Or.inr rfl | exact okv3 (by assumption) | decide | (focus (simp (disch := omega) only [nI_clamp, vp_in_nI, hT_sI, hR_sI, hT_sJ, hR_sJ, hT_sR, hI_sJ, hI_sR, hJ_sI, hJ_sR, hI_eq, hI_ne, hI_nk]; done)) | (focus (simp (disch := omega) only [nI_clamp, vp_in_nI, hT_sI, hR_sI, hT_sJ, hR_sJ, hT_sR, hI_sJ, hI_sR, hJ_sI, hJ_sR, hI_eq, hI_ne, hI_nk]; first | assumption | exact okv3 (by assumption)))) | (focus (refine ⟨_, rfl, ?_⟩; (first | assumption | rfl | exact True.intro | exact Nat.le_of_ble_eq_true rfl | exact Or.inl rfl | exact Or.inr rfl | exact okv3 (by assumption) | decide | (focus (simp (disch := omega) only [nI_clamp, vp_in_nI, hT_sI, hR_sI, hT_sJ, hR_sJ, hT_sR, hI_sJ, hI_sR, hJ_sI, hJ_sR, hI_eq, hI_ne, hI_nk]; done)) | (focus (simp (disch := omega) only [nI_clamp, vp_in_nI, hT_sI, hR_sI, hT_sJ, hR_sJ, hT_sR, hI_sJ, hI_sR, hJ_sI, hJ_sR, hI_eq, hI_ne, hI_nk]; first | assumption | exact okv3 (by assumption)))))))))
    exact k c1 f1 1 _ (Or.inr ⟨_, rfl, by decide, rfl⟩)
theorem h_onPlace {C : Nat → Prop} {h h1 : CH} {o : Nat} {x y : Int32} {r1 : List Value ⊕ String} {Q : QT} (a13 : (hT h 300).1 = 13) (cls : Cls C wX9_onPlace [.ref 300, .int x, .int y] h r1 h1) (e : EOK Liob r1) (ho0 : hT h o = (101, 1)) (hco : ¬ C o) (k : CloC C h1 → Fr C h h1 → ∀ kv h2, HR (fun v => v.toInt64) o Liob r1 h1 kv h2 → Q (.inl [.int kv]) h2) : wL_onPlace [.ref 300, .int x, .int y, .ref o] h Q := by
  refine wgo (fun X hX => ?_) (by show 4 ≤ 5; decide)
  (refine go mL_onPlace hX [] 400 ?_; conv => whnf)
  repeat (first | (refine rs ?_; conv => whnf) | unfold k_call | ((with_reducible refine And.intro ?_ ?_); (first | (first | assumption | rfl | exact True.intro | exact Nat.le_of_ble_eq_true rfl | exact Or.inl rfl | exact Or.inr rfl | exact okv3 (by assumption) | decide | (focus (simp (disch := omega) only [a13, nI_clamp, vp_in_nI, hT_sI, hR_sI, hT_sJ, hR_sJ, hT_sR, hI_sJ, hI_sR, hJ_sI, hJ_sR, hI_eq, hI_ne, hI_nk]; done)) | (focus (simp (disch := omega) only [a13, nI_clamp, vp_in_nI, hT_sI, hR_sI, hT_sJ, hR_sJ, hT_sR, hI_sJ, hI_sR, hJ_sI, hJ_sR, hI_eq, hI_ne, hI_nk]; first | assumption | exact okv3 (by assumption)))) | (focus (refine ⟨_, rfl, ?_⟩; (first | assumption | rfl | exact True.intro | exact Nat.le_of_ble_eq_true rfl | exact Or.inl rfl | exact Or.inr rfl | exact okv3 (by assumption) | decide | (focus (simp (disch := omega) only [a13, nI_clamp, vp_in_nI, hT_sI, hR_sI, hT_sJ, hR_sJ, hT_sR, hI_sJ, hI_sR, hJ_sI, hJ_sR, hI_eq, hI_ne, hI_nk]; done)) | (focus (simp (disch := omega) only [a13, nI_clamp, vp_in_nI, hT_sI, hR_sI, hT_sJ, hR_sJ, hT_sR, hI_sJ, hI_sR, hJ_sI, hJ_sR, hI_eq, hI_ne, hI_nk]; first | assumption | exact okv3 (by assumption)))))))))
  refine cls _ (fun c1 f1 => ?_)
  have ho : hT h1 o = (101, 1) := (f1.2 o hco).1.trans ho0
  have ho1 : (hT h1 o).1 = 101 := by rw [ho]
  have ho2 : vp_in 0 (hT h1 o).2 := vp0 ho
  cases r1 with
  | inl vs =>
    obtain ⟨w, rfl⟩ := e
    repeat (first | (refine rs ?_; conv => whnf) | unfold k_call | ((with_reducible refine And.intro ?_ ?_); (first | (first | assumption | rfl | exact True.intro | exact Nat.le_of_ble_eq_true rfl | exact Or.inl rfl | exact Or.inr rfl | exact okv3 (by assumption) | decide | (focus (simp (disch := omega) only [nI_clamp, vp_in_nI, hT_sI, hR_sI, hT_sJ, hR_sJ, hT_sR, hI_sJ, hI_sR, hJ_sI, hJ_sR, hI_eq, hI_ne, hI_nk]; done)) | (focus (simp (disch := omega) only [nI_clamp, vp_in_nI, hT_sI, hR_sI, hT_sJ, hR_sJ, hT_sR, hI_sJ, hI_sR, hJ_sI, hJ_sR, hI_eq, hI_ne, hI_nk]; first | assumption | exact okv3 (by assumption)))) | (focus (refine ⟨_, rfl, ?_⟩; (first | assumption | rfl | exact True.intro | exact Nat.le_of_ble_eq_true rfl | exact Or.inl rfl | exact Or.inr rfl | exact okv3 (by assumption) | decide | (focus (simp (disch := omega) only [nI_clamp, vp_in_nI, hT_sI, hR_sI, hT_sJ, hR_sJ, hT_sR, hI_sJ, hI_sR, hJ_sI, hJ_sR, hI_eq, hI_ne, hI_nk]; done)) | (focus (simp (disch := omega) only [nI_clamp, vp_in_nI, hT_sI, hR_sI, hT_sJ, hR_sJ, hT_sR, hI_sJ, hI_sR, hJ_sI, hJ_sR, hI_eq, hI_ne, hI_nk]; first | assumption | exact okv3 (by assumption)))))))))
    exact k c1 f1 0 _ (Or.inl ⟨w, rfl, rfl, rfl⟩)
  | inr E =>
    obtain ⟨c, hc⟩ := e
    simp only [Liob, List.mem_cons, List.not_mem_nil, or_false, Prod.mk.injEq] at hc
    obtain ⟨rfl, rfl⟩ := hc
    show match ([("java/lang/IndexOutOfBoundsException", 15, 4)] : List (String × Nat × Nat)).find? (fun q => q.1 == "java/lang/IndexOutOfBoundsException") with | some q => _ | none => False
    rw [show ([("java/lang/IndexOutOfBoundsException", 15, 4)] : List (String × Nat × Nat)).find? (fun q => q.1 == "java/lang/IndexOutOfBoundsException") = some ("java/lang/IndexOutOfBoundsException", 15, 4) from by decide]
    intro cs ss g1 g2
    (refine go mL_onPlace hX [] 400 ?_; conv => whnf)
    repeat (first | (refine rs ?_; conv => whnf) | unfold k_call | ((with_reducible refine And.intro ?_ ?_); (first | (first | assumption | rfl | exact True.intro | exact Nat.le_of_ble_eq_true rfl | exact Or.inl rfl | exact Or.inr rfl | exact okv3 (by assumption) | decide | (focus (simp (disch := omega) only [nI_clamp, vp_in_nI, hT_sI, hR_sI, hT_sJ, hR_sJ, hT_sR, hI_sJ, hI_sR, hJ_sI, hJ_sR, hI_eq, hI_ne, hI_nk]; done)) | (focus (simp (disch := omega) only [nI_clamp, vp_in_nI, hT_sI, hR_sI, hT_sJ, hR_sJ, hT_sR, hI_sJ, hI_sR, hJ_sI, hJ_sR, hI_eq, hI_ne, hI_nk]; first | assumption | exact okv3 (by assumption)))) | (focus (refine ⟨_, rfl, ?_⟩; (first | assumption | rfl | exact True.intro | exact Nat.le_of_ble_eq_true rfl | exact Or.inl rfl | exact Or.inr rfl | exact okv3 (by assumption) | decide | (focus (simp (disch := omega) only [nI_clamp, vp_in_nI, hT_sI, hR_sI, hT_sJ, hR_sJ, hT_sR, hI_sJ, hI_sR, hJ_sI, hJ_sR, hI_eq, hI_ne, hI_nk]; done)) | (focus (simp (disch := omega) only [nI_clamp, vp_in_nI, hT_sI, hR_sI, hT_sJ, hR_sJ, hT_sR, hI_sJ, hI_sR, hJ_sI, hJ_sR, hI_eq, hI_ne, hI_nk]; first | assumption | exact okv3 (by assumption)))))))))
    exact k c1 f1 1 _ (Or.inr ⟨_, rfl, by decide, rfl⟩)
theorem h_begin {C : Nat → Prop} {h h1 : CH} {o : Nat} {r1 : List Value ⊕ String} {Q : QT} (a13 : (hT h 300).1 = 13) (cls : Cls C wX9_begin [.ref 300] h r1 h1) (e : EOK Luns r1) (ho0 : hT h o = (101, 1)) (hco : ¬ C o) (k : CloC C h1 → Fr C h h1 → ∀ kv h2, HR (fun v => v.toInt64) o Luns r1 h1 kv h2 → Q (.inl [.int kv]) h2) : wL_begin [.ref 300, .ref o] h Q := by
  refine wgo (fun X hX => ?_) (by show 2 ≤ 3; decide)
  (refine go mL_begin hX [] 400 ?_; conv => whnf)
  repeat (first | (refine rs ?_; conv => whnf) | unfold k_call | ((with_reducible refine And.intro ?_ ?_); (first | (first | assumption | rfl | exact True.intro | exact Nat.le_of_ble_eq_true rfl | exact Or.inl rfl | exact Or.inr rfl | exact okv3 (by assumption) | decide | (focus (simp (disch := omega) only [a13, nI_clamp, vp_in_nI, hT_sI, hR_sI, hT_sJ, hR_sJ, hT_sR, hI_sJ, hI_sR, hJ_sI, hJ_sR, hI_eq, hI_ne, hI_nk]; done)) | (focus (simp (disch := omega) only [a13, nI_clamp, vp_in_nI, hT_sI, hR_sI, hT_sJ, hR_sJ, hT_sR, hI_sJ, hI_sR, hJ_sI, hJ_sR, hI_eq, hI_ne, hI_nk]; first | assumption | exact okv3 (by assumption)))) | (focus (refine ⟨_, rfl, ?_⟩; (first | assumption | rfl | exact True.intro | exact Nat.le_of_ble_eq_true rfl | exact Or.inl rfl | exact Or.inr rfl | exact okv3 (by assumption) | decide | (focus (simp (disch := omega) only [a13, nI_clamp, vp_in_nI, hT_sI, hR_sI, hT_sJ, hR_sJ, hT_sR, hI_sJ, hI_sR, hJ_sI, hJ_sR, hI_eq, hI_ne, hI_nk]; done)) | (focus (simp (disch := omega) only [a13, nI_clamp, vp_in_nI, hT_sI, hR_sI, hT_sJ, hR_sJ, hT_sR, hI_sJ, hI_sR, hJ_sI, hJ_sR, hI_eq, hI_ne, hI_nk]; first | assumption | exact okv3 (by assumption)))))))))
  refine cls _ (fun c1 f1 => ?_)
  have ho : hT h1 o = (101, 1) := (f1.2 o hco).1.trans ho0
  have ho1 : (hT h1 o).1 = 101 := by rw [ho]
  have ho2 : vp_in 0 (hT h1 o).2 := vp0 ho
  cases r1 with
  | inl vs =>
    obtain ⟨w, rfl⟩ := e
    repeat (first | (refine rs ?_; conv => whnf) | unfold k_call | ((with_reducible refine And.intro ?_ ?_); (first | (first | assumption | rfl | exact True.intro | exact Nat.le_of_ble_eq_true rfl | exact Or.inl rfl | exact Or.inr rfl | exact okv3 (by assumption) | decide | (focus (simp (disch := omega) only [nI_clamp, vp_in_nI, hT_sI, hR_sI, hT_sJ, hR_sJ, hT_sR, hI_sJ, hI_sR, hJ_sI, hJ_sR, hI_eq, hI_ne, hI_nk]; done)) | (focus (simp (disch := omega) only [nI_clamp, vp_in_nI, hT_sI, hR_sI, hT_sJ, hR_sJ, hT_sR, hI_sJ, hI_sR, hJ_sI, hJ_sR, hI_eq, hI_ne, hI_nk]; first | assumption | exact okv3 (by assumption)))) | (focus (refine ⟨_, rfl, ?_⟩; (first | assumption | rfl | exact True.intro | exact Nat.le_of_ble_eq_true rfl | exact Or.inl rfl | exact Or.inr rfl | exact okv3 (by assumption) | decide | (focus (simp (disch := omega) only [nI_clamp, vp_in_nI, hT_sI, hR_sI, hT_sJ, hR_sJ, hT_sR, hI_sJ, hI_sR, hJ_sI, hJ_sR, hI_eq, hI_ne, hI_nk]; done)) | (focus (simp (disch := omega) only [nI_clamp, vp_in_nI, hT_sI, hR_sI, hT_sJ, hR_sJ, hT_sR, hI_sJ, hI_sR, hJ_sI, hJ_sR, hI_eq, hI_ne, hI_nk]; first | assumption | exact okv3 (by assumption)))))))))
    exact k c1 f1 0 _ (Or.inl ⟨w, rfl, rfl, rfl⟩)
  | inr E =>
    obtain ⟨c, hc⟩ := e
    simp only [Luns, List.mem_cons, List.not_mem_nil, or_false, Prod.mk.injEq] at hc
    obtain ⟨rfl, rfl⟩ := hc
    show match ([("java/lang/UnsupportedOperationException", 12, 2)] : List (String × Nat × Nat)).find? (fun q => q.1 == "java/lang/UnsupportedOperationException") with | some q => _ | none => False
    rw [show ([("java/lang/UnsupportedOperationException", 12, 2)] : List (String × Nat × Nat)).find? (fun q => q.1 == "java/lang/UnsupportedOperationException") = some ("java/lang/UnsupportedOperationException", 12, 2) from by decide]
    intro cs ss g1 g2
    (refine go mL_begin hX [] 400 ?_; conv => whnf)
    repeat (first | (refine rs ?_; conv => whnf) | unfold k_call | ((with_reducible refine And.intro ?_ ?_); (first | (first | assumption | rfl | exact True.intro | exact Nat.le_of_ble_eq_true rfl | exact Or.inl rfl | exact Or.inr rfl | exact okv3 (by assumption) | decide | (focus (simp (disch := omega) only [nI_clamp, vp_in_nI, hT_sI, hR_sI, hT_sJ, hR_sJ, hT_sR, hI_sJ, hI_sR, hJ_sI, hJ_sR, hI_eq, hI_ne, hI_nk]; done)) | (focus (simp (disch := omega) only [nI_clamp, vp_in_nI, hT_sI, hR_sI, hT_sJ, hR_sJ, hT_sR, hI_sJ, hI_sR, hJ_sI, hJ_sR, hI_eq, hI_ne, hI_nk]; first | assumption | exact okv3 (by assumption)))) | (focus (refine ⟨_, rfl, ?_⟩; (first | assumption | rfl | exact True.intro | exact Nat.le_of_ble_eq_true rfl | exact Or.inl rfl | exact Or.inr rfl | exact okv3 (by assumption) | decide | (focus (simp (disch := omega) only [nI_clamp, vp_in_nI, hT_sI, hR_sI, hT_sJ, hR_sJ, hT_sR, hI_sJ, hI_sR, hJ_sI, hJ_sR, hI_eq, hI_ne, hI_nk]; done)) | (focus (simp (disch := omega) only [nI_clamp, vp_in_nI, hT_sI, hR_sI, hT_sJ, hR_sJ, hT_sR, hI_sJ, hI_sR, hJ_sI, hJ_sR, hI_eq, hI_ne, hI_nk]; first | assumption | exact okv3 (by assumption)))))))))
    exact k c1 f1 1 _ (Or.inr ⟨_, rfl, by decide, rfl⟩)
theorem h_commit {C : Nat → Prop} {h h1 : CH} {o : Nat} {r1 : List Value ⊕ String} {Q : QT} (a13 : (hT h 300).1 = 13) (cls : Cls C wX9_commit [.ref 300] h r1 h1) (e : EOK Luns r1) (ho0 : hT h o = (101, 1)) (hco : ¬ C o) (k : CloC C h1 → Fr C h h1 → ∀ kv h2, HR (fun v => v.toInt64) o Luns r1 h1 kv h2 → Q (.inl [.int kv]) h2) : wL_commit [.ref 300, .ref o] h Q := by
  refine wgo (fun X hX => ?_) (by show 2 ≤ 3; decide)
  (refine go mL_commit hX [] 400 ?_; conv => whnf)
  repeat (first | (refine rs ?_; conv => whnf) | unfold k_call | ((with_reducible refine And.intro ?_ ?_); (first | (first | assumption | rfl | exact True.intro | exact Nat.le_of_ble_eq_true rfl | exact Or.inl rfl | exact Or.inr rfl | exact okv3 (by assumption) | decide | (focus (simp (disch := omega) only [a13, nI_clamp, vp_in_nI, hT_sI, hR_sI, hT_sJ, hR_sJ, hT_sR, hI_sJ, hI_sR, hJ_sI, hJ_sR, hI_eq, hI_ne, hI_nk]; done)) | (focus (simp (disch := omega) only [a13, nI_clamp, vp_in_nI, hT_sI, hR_sI, hT_sJ, hR_sJ, hT_sR, hI_sJ, hI_sR, hJ_sI, hJ_sR, hI_eq, hI_ne, hI_nk]; first | assumption | exact okv3 (by assumption)))) | (focus (refine ⟨_, rfl, ?_⟩; (first | assumption | rfl | exact True.intro | exact Nat.le_of_ble_eq_true rfl | exact Or.inl rfl | exact Or.inr rfl | exact okv3 (by assumption) | decide | (focus (simp (disch := omega) only [a13, nI_clamp, vp_in_nI, hT_sI, hR_sI, hT_sJ, hR_sJ, hT_sR, hI_sJ, hI_sR, hJ_sI, hJ_sR, hI_eq, hI_ne, hI_nk]; done)) | (focus (simp (disch := omega) only [a13, nI_clamp, vp_in_nI, hT_sI, hR_sI, hT_sJ, hR_sJ, hT_sR, hI_sJ, hI_sR, hJ_sI, hJ_sR, hI_eq, hI_ne, hI_nk]; first | assumption | exact okv3 (by assumption)))))))))
  refine cls _ (fun c1 f1 => ?_)
  have ho : hT h1 o = (101, 1) := (f1.2 o hco).1.trans ho0
  have ho1 : (hT h1 o).1 = 101 := by rw [ho]
  have ho2 : vp_in 0 (hT h1 o).2 := vp0 ho
  cases r1 with
  | inl vs =>
    obtain ⟨w, rfl⟩ := e
    repeat (first | (refine rs ?_; conv => whnf) | unfold k_call | ((with_reducible refine And.intro ?_ ?_); (first | (first | assumption | rfl | exact True.intro | exact Nat.le_of_ble_eq_true rfl | exact Or.inl rfl | exact Or.inr rfl | exact okv3 (by assumption) | decide | (focus (simp (disch := omega) only [nI_clamp, vp_in_nI, hT_sI, hR_sI, hT_sJ, hR_sJ, hT_sR, hI_sJ, hI_sR, hJ_sI, hJ_sR, hI_eq, hI_ne, hI_nk]; done)) | (focus (simp (disch := omega) only [nI_clamp, vp_in_nI, hT_sI, hR_sI, hT_sJ, hR_sJ, hT_sR, hI_sJ, hI_sR, hJ_sI, hJ_sR, hI_eq, hI_ne, hI_nk]; first | assumption | exact okv3 (by assumption)))) | (focus (refine ⟨_, rfl, ?_⟩; (first | assumption | rfl | exact True.intro | exact Nat.le_of_ble_eq_true rfl | exact Or.inl rfl | exact Or.inr rfl | exact okv3 (by assumption) | decide | (focus (simp (disch := omega) only [nI_clamp, vp_in_nI, hT_sI, hR_sI, hT_sJ, hR_sJ, hT_sR, hI_sJ, hI_sR, hJ_sI, hJ_sR, hI_eq, hI_ne, hI_nk]; done)) | (focus (simp (disch := omega) only [nI_clamp, vp_in_nI, hT_sI, hR_sI, hT_sJ, hR_sJ, hT_sR, hI_sJ, hI_sR, hJ_sI, hJ_sR, hI_eq, hI_ne, hI_nk]; first | assumption | exact okv3 (by assumption)))))))))
    exact k c1 f1 0 _ (Or.inl ⟨w, rfl, rfl, rfl⟩)
  | inr E =>
    obtain ⟨c, hc⟩ := e
    simp only [Luns, List.mem_cons, List.not_mem_nil, or_false, Prod.mk.injEq] at hc
    obtain ⟨rfl, rfl⟩ := hc
    show match ([("java/lang/UnsupportedOperationException", 12, 2)] : List (String × Nat × Nat)).find? (fun q => q.1 == "java/lang/UnsupportedOperationException") with | some q => _ | none => False
    rw [show ([("java/lang/UnsupportedOperationException", 12, 2)] : List (String × Nat × Nat)).find? (fun q => q.1 == "java/lang/UnsupportedOperationException") = some ("java/lang/UnsupportedOperationException", 12, 2) from by decide]
    intro cs ss g1 g2
    (refine go mL_commit hX [] 400 ?_; conv => whnf)
    repeat (first | (refine rs ?_; conv => whnf) | unfold k_call | ((with_reducible refine And.intro ?_ ?_); (first | (first | assumption | rfl | exact True.intro | exact Nat.le_of_ble_eq_true rfl | exact Or.inl rfl | exact Or.inr rfl | exact okv3 (by assumption) | decide | (focus (simp (disch := omega) only [nI_clamp, vp_in_nI, hT_sI, hR_sI, hT_sJ, hR_sJ, hT_sR, hI_sJ, hI_sR, hJ_sI, hJ_sR, hI_eq, hI_ne, hI_nk]; done)) | (focus (simp (disch := omega) only [nI_clamp, vp_in_nI, hT_sI, hR_sI, hT_sJ, hR_sJ, hT_sR, hI_sJ, hI_sR, hJ_sI, hJ_sR, hI_eq, hI_ne, hI_nk]; first | assumption | exact okv3 (by assumption)))) | (focus (refine ⟨_, rfl, ?_⟩; (first | assumption | rfl | exact True.intro | exact Nat.le_of_ble_eq_true rfl | exact Or.inl rfl | exact Or.inr rfl | exact okv3 (by assumption) | decide | (focus (simp (disch := omega) only [nI_clamp, vp_in_nI, hT_sI, hR_sI, hT_sJ, hR_sJ, hT_sR, hI_sJ, hI_sR, hJ_sI, hJ_sR, hI_eq, hI_ne, hI_nk]; done)) | (focus (simp (disch := omega) only [nI_clamp, vp_in_nI, hT_sI, hR_sI, hT_sJ, hR_sJ, hT_sR, hI_sJ, hI_sR, hJ_sI, hJ_sR, hI_eq, hI_ne, hI_nk]; first | assumption | exact okv3 (by assumption)))))))))
    exact k c1 f1 1 _ (Or.inr ⟨_, rfl, by decide, rfl⟩)
theorem h_abort {C : Nat → Prop} {h h1 : CH} {o : Nat} {r1 : List Value ⊕ String} {Q : QT} (a13 : (hT h 300).1 = 13) (cls : Cls C wX9_abort [.ref 300] h r1 h1) (e : EOK Luns r1) (ho0 : hT h o = (101, 1)) (hco : ¬ C o) (k : CloC C h1 → Fr C h h1 → ∀ kv h2, HR (fun v => v.toInt64) o Luns r1 h1 kv h2 → Q (.inl [.int kv]) h2) : wL_abort [.ref 300, .ref o] h Q := by
  refine wgo (fun X hX => ?_) (by show 2 ≤ 3; decide)
  (refine go mL_abort hX [] 400 ?_; conv => whnf)
  repeat (first | (refine rs ?_; conv => whnf) | unfold k_call | ((with_reducible refine And.intro ?_ ?_); (first | (first | assumption | rfl | exact True.intro | exact Nat.le_of_ble_eq_true rfl | exact Or.inl rfl | exact Or.inr rfl | exact okv3 (by assumption) | decide | (focus (simp (disch := omega) only [a13, nI_clamp, vp_in_nI, hT_sI, hR_sI, hT_sJ, hR_sJ, hT_sR, hI_sJ, hI_sR, hJ_sI, hJ_sR, hI_eq, hI_ne, hI_nk]; done)) | (focus (simp (disch := omega) only [a13, nI_clamp, vp_in_nI, hT_sI, hR_sI, hT_sJ, hR_sJ, hT_sR, hI_sJ, hI_sR, hJ_sI, hJ_sR, hI_eq, hI_ne, hI_nk]; first | assumption | exact okv3 (by assumption)))) | (focus (refine ⟨_, rfl, ?_⟩; (first | assumption | rfl | exact True.intro | exact Nat.le_of_ble_eq_true rfl | exact Or.inl rfl | exact Or.inr rfl | exact okv3 (by assumption) | decide | (focus (simp (disch := omega) only [a13, nI_clamp, vp_in_nI, hT_sI, hR_sI, hT_sJ, hR_sJ, hT_sR, hI_sJ, hI_sR, hJ_sI, hJ_sR, hI_eq, hI_ne, hI_nk]; done)) | (focus (simp (disch := omega) only [a13, nI_clamp, vp_in_nI, hT_sI, hR_sI, hT_sJ, hR_sJ, hT_sR, hI_sJ, hI_sR, hJ_sI, hJ_sR, hI_eq, hI_ne, hI_nk]; first | assumption | exact okv3 (by assumption)))))))))
  refine cls _ (fun c1 f1 => ?_)
  have ho : hT h1 o = (101, 1) := (f1.2 o hco).1.trans ho0
  have ho1 : (hT h1 o).1 = 101 := by rw [ho]
  have ho2 : vp_in 0 (hT h1 o).2 := vp0 ho
  cases r1 with
  | inl vs =>
    obtain ⟨w, rfl⟩ := e
    repeat (first | (refine rs ?_; conv => whnf) | unfold k_call | ((with_reducible refine And.intro ?_ ?_); (first | (first | assumption | rfl | exact True.intro | exact Nat.le_of_ble_eq_true rfl | exact Or.inl rfl | exact Or.inr rfl | exact okv3 (by assumption) | decide | (focus (simp (disch := omega) only [nI_clamp, vp_in_nI, hT_sI, hR_sI, hT_sJ, hR_sJ, hT_sR, hI_sJ, hI_sR, hJ_sI, hJ_sR, hI_eq, hI_ne, hI_nk]; done)) | (focus (simp (disch := omega) only [nI_clamp, vp_in_nI, hT_sI, hR_sI, hT_sJ, hR_sJ, hT_sR, hI_sJ, hI_sR, hJ_sI, hJ_sR, hI_eq, hI_ne, hI_nk]; first | assumption | exact okv3 (by assumption)))) | (focus (refine ⟨_, rfl, ?_⟩; (first | assumption | rfl | exact True.intro | exact Nat.le_of_ble_eq_true rfl | exact Or.inl rfl | exact Or.inr rfl | exact okv3 (by assumption) | decide | (focus (simp (disch := omega) only [nI_clamp, vp_in_nI, hT_sI, hR_sI, hT_sJ, hR_sJ, hT_sR, hI_sJ, hI_sR, hJ_sI, hJ_sR, hI_eq, hI_ne, hI_nk]; done)) | (focus (simp (disch := omega) only [nI_clamp, vp_in_nI, hT_sI, hR_sI, hT_sJ, hR_sJ, hT_sR, hI_sJ, hI_sR, hJ_sI, hJ_sR, hI_eq, hI_ne, hI_nk]; first | assumption | exact okv3 (by assumption)))))))))
    exact k c1 f1 0 _ (Or.inl ⟨w, rfl, rfl, rfl⟩)
  | inr E =>
    obtain ⟨c, hc⟩ := e
    simp only [Luns, List.mem_cons, List.not_mem_nil, or_false, Prod.mk.injEq] at hc
    obtain ⟨rfl, rfl⟩ := hc
    show match ([("java/lang/UnsupportedOperationException", 12, 2)] : List (String × Nat × Nat)).find? (fun q => q.1 == "java/lang/UnsupportedOperationException") with | some q => _ | none => False
    rw [show ([("java/lang/UnsupportedOperationException", 12, 2)] : List (String × Nat × Nat)).find? (fun q => q.1 == "java/lang/UnsupportedOperationException") = some ("java/lang/UnsupportedOperationException", 12, 2) from by decide]
    intro cs ss g1 g2
    (refine go mL_abort hX [] 400 ?_; conv => whnf)
    repeat (first | (refine rs ?_; conv => whnf) | unfold k_call | ((with_reducible refine And.intro ?_ ?_); (first | (first | assumption | rfl | exact True.intro | exact Nat.le_of_ble_eq_true rfl | exact Or.inl rfl | exact Or.inr rfl | exact okv3 (by assumption) | decide | (focus (simp (disch := omega) only [nI_clamp, vp_in_nI, hT_sI, hR_sI, hT_sJ, hR_sJ, hT_sR, hI_sJ, hI_sR, hJ_sI, hJ_sR, hI_eq, hI_ne, hI_nk]; done)) | (focus (simp (disch := omega) only [nI_clamp, vp_in_nI, hT_sI, hR_sI, hT_sJ, hR_sJ, hT_sR, hI_sJ, hI_sR, hJ_sI, hJ_sR, hI_eq, hI_ne, hI_nk]; first | assumption | exact okv3 (by assumption)))) | (focus (refine ⟨_, rfl, ?_⟩; (first | assumption | rfl | exact True.intro | exact Nat.le_of_ble_eq_true rfl | exact Or.inl rfl | exact Or.inr rfl | exact okv3 (by assumption) | decide | (focus (simp (disch := omega) only [nI_clamp, vp_in_nI, hT_sI, hR_sI, hT_sJ, hR_sJ, hT_sR, hI_sJ, hI_sR, hJ_sI, hJ_sR, hI_eq, hI_ne, hI_nk]; done)) | (focus (simp (disch := omega) only [nI_clamp, vp_in_nI, hT_sI, hR_sI, hT_sJ, hR_sJ, hT_sR, hI_sJ, hI_sR, hJ_sI, hJ_sR, hI_eq, hI_ne, hI_nk]; first | assumption | exact okv3 (by assumption)))))))))
    exact k c1 f1 1 _ (Or.inr ⟨_, rfl, by decide, rfl⟩)
theorem h_checkpoint {C : Nat → Prop} {h h1 : CH} {o : Nat} {r1 : List Value ⊕ String} {Q : QT} (a13 : (hT h 300).1 = 13) (cls : Cls C wX9_checkpoint [.ref 300] h r1 h1) (e : EOK Luns r1) (ho0 : hT h o = (101, 1)) (hco : ¬ C o) (k : CloC C h1 → Fr C h h1 → ∀ kv h2, HR (fun v => v.toInt64) o Luns r1 h1 kv h2 → Q (.inl [.int kv]) h2) : wL_checkpoint [.ref 300, .ref o] h Q := by
  refine wgo (fun X hX => ?_) (by show 2 ≤ 3; decide)
  (refine go mL_checkpoint hX [] 400 ?_; conv => whnf)
  repeat (first | (refine rs ?_; conv => whnf) | unfold k_call | ((with_reducible refine And.intro ?_ ?_); (first | (first | assumption | rfl | exact True.intro | exact Nat.le_of_ble_eq_true rfl | exact Or.inl rfl | exact Or.inr rfl | exact okv3 (by assumption) | decide | (focus (simp (disch := omega) only [a13, nI_clamp, vp_in_nI, hT_sI, hR_sI, hT_sJ, hR_sJ, hT_sR, hI_sJ, hI_sR, hJ_sI, hJ_sR, hI_eq, hI_ne, hI_nk]; done)) | (focus (simp (disch := omega) only [a13, nI_clamp, vp_in_nI, hT_sI, hR_sI, hT_sJ, hR_sJ, hT_sR, hI_sJ, hI_sR, hJ_sI, hJ_sR, hI_eq, hI_ne, hI_nk]; first | assumption | exact okv3 (by assumption)))) | (focus (refine ⟨_, rfl, ?_⟩; (first | assumption | rfl | exact True.intro | exact Nat.le_of_ble_eq_true rfl | exact Or.inl rfl | exact Or.inr rfl | exact okv3 (by assumption) | decide | (focus (simp (disch := omega) only [a13, nI_clamp, vp_in_nI, hT_sI, hR_sI, hT_sJ, hR_sJ, hT_sR, hI_sJ, hI_sR, hJ_sI, hJ_sR, hI_eq, hI_ne, hI_nk]; done)) | (focus (simp (disch := omega) only [a13, nI_clamp, vp_in_nI, hT_sI, hR_sI, hT_sJ, hR_sJ, hT_sR, hI_sJ, hI_sR, hJ_sI, hJ_sR, hI_eq, hI_ne, hI_nk]; first | assumption | exact okv3 (by assumption)))))))))
  refine cls _ (fun c1 f1 => ?_)
  have ho : hT h1 o = (101, 1) := (f1.2 o hco).1.trans ho0
  have ho1 : (hT h1 o).1 = 101 := by rw [ho]
  have ho2 : vp_in 0 (hT h1 o).2 := vp0 ho
  cases r1 with
  | inl vs =>
    obtain ⟨w, rfl⟩ := e
    repeat (first | (refine rs ?_; conv => whnf) | unfold k_call | ((with_reducible refine And.intro ?_ ?_); (first | (first | assumption | rfl | exact True.intro | exact Nat.le_of_ble_eq_true rfl | exact Or.inl rfl | exact Or.inr rfl | exact okv3 (by assumption) | decide | (focus (simp (disch := omega) only [nI_clamp, vp_in_nI, hT_sI, hR_sI, hT_sJ, hR_sJ, hT_sR, hI_sJ, hI_sR, hJ_sI, hJ_sR, hI_eq, hI_ne, hI_nk]; done)) | (focus (simp (disch := omega) only [nI_clamp, vp_in_nI, hT_sI, hR_sI, hT_sJ, hR_sJ, hT_sR, hI_sJ, hI_sR, hJ_sI, hJ_sR, hI_eq, hI_ne, hI_nk]; first | assumption | exact okv3 (by assumption)))) | (focus (refine ⟨_, rfl, ?_⟩; (first | assumption | rfl | exact True.intro | exact Nat.le_of_ble_eq_true rfl | exact Or.inl rfl | exact Or.inr rfl | exact okv3 (by assumption) | decide | (focus (simp (disch := omega) only [nI_clamp, vp_in_nI, hT_sI, hR_sI, hT_sJ, hR_sJ, hT_sR, hI_sJ, hI_sR, hJ_sI, hJ_sR, hI_eq, hI_ne, hI_nk]; done)) | (focus (simp (disch := omega) only [nI_clamp, vp_in_nI, hT_sI, hR_sI, hT_sJ, hR_sJ, hT_sR, hI_sJ, hI_sR, hJ_sI, hJ_sR, hI_eq, hI_ne, hI_nk]; first | assumption | exact okv3 (by assumption)))))))))
    exact k c1 f1 0 _ (Or.inl ⟨w, rfl, rfl, rfl⟩)
  | inr E =>
    obtain ⟨c, hc⟩ := e
    simp only [Luns, List.mem_cons, List.not_mem_nil, or_false, Prod.mk.injEq] at hc
    obtain ⟨rfl, rfl⟩ := hc
    show match ([("java/lang/UnsupportedOperationException", 12, 2)] : List (String × Nat × Nat)).find? (fun q => q.1 == "java/lang/UnsupportedOperationException") with | some q => _ | none => False
    rw [show ([("java/lang/UnsupportedOperationException", 12, 2)] : List (String × Nat × Nat)).find? (fun q => q.1 == "java/lang/UnsupportedOperationException") = some ("java/lang/UnsupportedOperationException", 12, 2) from by decide]
    intro cs ss g1 g2
    (refine go mL_checkpoint hX [] 400 ?_; conv => whnf)
    repeat (first | (refine rs ?_; conv => whnf) | unfold k_call | ((with_reducible refine And.intro ?_ ?_); (first | (first | assumption | rfl | exact True.intro | exact Nat.le_of_ble_eq_true rfl | exact Or.inl rfl | exact Or.inr rfl | exact okv3 (by assumption) | decide | (focus (simp (disch := omega) only [nI_clamp, vp_in_nI, hT_sI, hR_sI, hT_sJ, hR_sJ, hT_sR, hI_sJ, hI_sR, hJ_sI, hJ_sR, hI_eq, hI_ne, hI_nk]; done)) | (focus (simp (disch := omega) only [nI_clamp, vp_in_nI, hT_sI, hR_sI, hT_sJ, hR_sJ, hT_sR, hI_sJ, hI_sR, hJ_sI, hJ_sR, hI_eq, hI_ne, hI_nk]; first | assumption | exact okv3 (by assumption)))) | (focus (refine ⟨_, rfl, ?_⟩; (first | assumption | rfl | exact True.intro | exact Nat.le_of_ble_eq_true rfl | exact Or.inl rfl | exact Or.inr rfl | exact okv3 (by assumption) | decide | (focus (simp (disch := omega) only [nI_clamp, vp_in_nI, hT_sI, hR_sI, hT_sJ, hR_sJ, hT_sR, hI_sJ, hI_sR, hJ_sI, hJ_sR, hI_eq, hI_ne, hI_nk]; done)) | (focus (simp (disch := omega) only [nI_clamp, vp_in_nI, hT_sI, hR_sI, hT_sJ, hR_sJ, hT_sR, hI_sJ, hI_sR, hJ_sI, hJ_sR, hI_eq, hI_ne, hI_nk]; first | assumption | exact okv3 (by assumption)))))))))
    exact k c1 f1 1 _ (Or.inr ⟨_, rfl, by decide, rfl⟩)
theorem h_sync {C : Nat → Prop} {h h1 : CH} {o : Nat} {x : Int32} {r1 : List Value ⊕ String} {Q : QT} (a13 : (hT h 300).1 = 13) (cls : Cls C wX9_sync [.ref 300, .int x] h r1 h1) (e : EOK Lsy r1) (ho0 : hT h o = (101, 1)) (hco : ¬ C o) (k : CloC C h1 → Fr C h h1 → ∀ kv h2, HR (fun v => v.toInt64) o Lsy r1 h1 kv h2 → Q (.inl [.int kv]) h2) : wL_sync [.ref 300, .int x, .ref o] h Q := by
  refine wgo (fun X hX => ?_) (by show 3 ≤ 4; decide)
  (refine go mL_sync hX [] 400 ?_; conv => whnf)
  repeat (first | (refine rs ?_; conv => whnf) | unfold k_call | ((with_reducible refine And.intro ?_ ?_); (first | (first | assumption | rfl | exact True.intro | exact Nat.le_of_ble_eq_true rfl | exact Or.inl rfl | exact Or.inr rfl | exact okv3 (by assumption) | decide | (focus (simp (disch := omega) only [a13, nI_clamp, vp_in_nI, hT_sI, hR_sI, hT_sJ, hR_sJ, hT_sR, hI_sJ, hI_sR, hJ_sI, hJ_sR, hI_eq, hI_ne, hI_nk]; done)) | (focus (simp (disch := omega) only [a13, nI_clamp, vp_in_nI, hT_sI, hR_sI, hT_sJ, hR_sJ, hT_sR, hI_sJ, hI_sR, hJ_sI, hJ_sR, hI_eq, hI_ne, hI_nk]; first | assumption | exact okv3 (by assumption)))) | (focus (refine ⟨_, rfl, ?_⟩; (first | assumption | rfl | exact True.intro | exact Nat.le_of_ble_eq_true rfl | exact Or.inl rfl | exact Or.inr rfl | exact okv3 (by assumption) | decide | (focus (simp (disch := omega) only [a13, nI_clamp, vp_in_nI, hT_sI, hR_sI, hT_sJ, hR_sJ, hT_sR, hI_sJ, hI_sR, hJ_sI, hJ_sR, hI_eq, hI_ne, hI_nk]; done)) | (focus (simp (disch := omega) only [a13, nI_clamp, vp_in_nI, hT_sI, hR_sI, hT_sJ, hR_sJ, hT_sR, hI_sJ, hI_sR, hJ_sI, hJ_sR, hI_eq, hI_ne, hI_nk]; first | assumption | exact okv3 (by assumption)))))))))
  refine cls _ (fun c1 f1 => ?_)
  have ho : hT h1 o = (101, 1) := (f1.2 o hco).1.trans ho0
  have ho1 : (hT h1 o).1 = 101 := by rw [ho]
  have ho2 : vp_in 0 (hT h1 o).2 := vp0 ho
  cases r1 with
  | inl vs =>
    obtain ⟨w, rfl⟩ := e
    repeat (first | (refine rs ?_; conv => whnf) | unfold k_call | ((with_reducible refine And.intro ?_ ?_); (first | (first | assumption | rfl | exact True.intro | exact Nat.le_of_ble_eq_true rfl | exact Or.inl rfl | exact Or.inr rfl | exact okv3 (by assumption) | decide | (focus (simp (disch := omega) only [nI_clamp, vp_in_nI, hT_sI, hR_sI, hT_sJ, hR_sJ, hT_sR, hI_sJ, hI_sR, hJ_sI, hJ_sR, hI_eq, hI_ne, hI_nk]; done)) | (focus (simp (disch := omega) only [nI_clamp, vp_in_nI, hT_sI, hR_sI, hT_sJ, hR_sJ, hT_sR, hI_sJ, hI_sR, hJ_sI, hJ_sR, hI_eq, hI_ne, hI_nk]; first | assumption | exact okv3 (by assumption)))) | (focus (refine ⟨_, rfl, ?_⟩; (first | assumption | rfl | exact True.intro | exact Nat.le_of_ble_eq_true rfl | exact Or.inl rfl | exact Or.inr rfl | exact okv3 (by assumption) | decide | (focus (simp (disch := omega) only [nI_clamp, vp_in_nI, hT_sI, hR_sI, hT_sJ, hR_sJ, hT_sR, hI_sJ, hI_sR, hJ_sI, hJ_sR, hI_eq, hI_ne, hI_nk]; done)) | (focus (simp (disch := omega) only [nI_clamp, vp_in_nI, hT_sI, hR_sI, hT_sJ, hR_sJ, hT_sR, hI_sJ, hI_sR, hJ_sI, hJ_sR, hI_eq, hI_ne, hI_nk]; first | assumption | exact okv3 (by assumption)))))))))
    exact k c1 f1 0 _ (Or.inl ⟨w, rfl, rfl, rfl⟩)
  | inr E =>
    obtain ⟨c, hc⟩ := e
    simp only [Lsy, List.mem_cons, List.not_mem_nil, or_false, Prod.mk.injEq] at hc
    rcases hc with ⟨rfl, rfl⟩ | ⟨rfl, rfl⟩
    · show match ([("java/lang/IndexOutOfBoundsException", 13, 3), ("java/lang/UnsupportedOperationException", 16, 3)] : List (String × Nat × Nat)).find? (fun q => q.1 == "java/lang/IndexOutOfBoundsException") with | some q => _ | none => False
      rw [show ([("java/lang/IndexOutOfBoundsException", 13, 3), ("java/lang/UnsupportedOperationException", 16, 3)] : List (String × Nat × Nat)).find? (fun q => q.1 == "java/lang/IndexOutOfBoundsException") = some ("java/lang/IndexOutOfBoundsException", 13, 3) from by decide]
      intro cs ss g1 g2
      (refine go mL_sync hX [] 400 ?_; conv => whnf)
      repeat (first | (refine rs ?_; conv => whnf) | unfold k_call | ((with_reducible refine And.intro ?_ ?_); (first | (first | assumption | rfl | exact True.intro | exact Nat.le_of_ble_eq_true rfl | exact Or.inl rfl | exact Or.inr rfl | exact okv3 (by assumption) | decide | (focus (simp (disch := omega) only [nI_clamp, vp_in_nI, hT_sI, hR_sI, hT_sJ, hR_sJ, hT_sR, hI_sJ, hI_sR, hJ_sI, hJ_sR, hI_eq, hI_ne, hI_nk]; done)) | (focus (simp (disch := omega) only [nI_clamp, vp_in_nI, hT_sI, hR_sI, hT_sJ, hR_sJ, hT_sR, hI_sJ, hI_sR, hJ_sI, hJ_sR, hI_eq, hI_ne, hI_nk]; first | assumption | exact okv3 (by assumption)))) | (focus (refine ⟨_, rfl, ?_⟩; (first | assumption | rfl | exact True.intro | exact Nat.le_of_ble_eq_true rfl | exact Or.inl rfl | exact Or.inr rfl | exact okv3 (by assumption) | decide | (focus (simp (disch := omega) only [nI_clamp, vp_in_nI, hT_sI, hR_sI, hT_sJ, hR_sJ, hT_sR, hI_sJ, hI_sR, hJ_sI, hJ_sR, hI_eq, hI_ne, hI_nk]; done)) | (focus (simp (disch := omega) only [nI_clamp, vp_in_nI, hT_sI, hR_sI, hT_sJ, hR_sJ, hT_sR, hI_sJ, hI_sR, hJ_sI, hJ_sR, hI_eq, hI_ne, hI_nk]; first | assumption | exact okv3 (by assumption)))))))))
      exact k c1 f1 1 _ (Or.inr ⟨_, rfl, by decide, rfl⟩)
    · show match ([("java/lang/IndexOutOfBoundsException", 13, 3), ("java/lang/UnsupportedOperationException", 16, 3)] : List (String × Nat × Nat)).find? (fun q => q.1 == "java/lang/UnsupportedOperationException") with | some q => _ | none => False
      rw [show ([("java/lang/IndexOutOfBoundsException", 13, 3), ("java/lang/UnsupportedOperationException", 16, 3)] : List (String × Nat × Nat)).find? (fun q => q.1 == "java/lang/UnsupportedOperationException") = some ("java/lang/UnsupportedOperationException", 16, 3) from by decide]
      intro cs ss g1 g2
      (refine go mL_sync hX [] 400 ?_; conv => whnf)
      repeat (first | (refine rs ?_; conv => whnf) | unfold k_call | ((with_reducible refine And.intro ?_ ?_); (first | (first | assumption | rfl | exact True.intro | exact Nat.le_of_ble_eq_true rfl | exact Or.inl rfl | exact Or.inr rfl | exact okv3 (by assumption) | decide | (focus (simp (disch := omega) only [nI_clamp, vp_in_nI, hT_sI, hR_sI, hT_sJ, hR_sJ, hT_sR, hI_sJ, hI_sR, hJ_sI, hJ_sR, hI_eq, hI_ne, hI_nk]; done)) | (focus (simp (disch := omega) only [nI_clamp, vp_in_nI, hT_sI, hR_sI, hT_sJ, hR_sJ, hT_sR, hI_sJ, hI_sR, hJ_sI, hJ_sR, hI_eq, hI_ne, hI_nk]; first | assumption | exact okv3 (by assumption)))) | (focus (refine ⟨_, rfl, ?_⟩; (first | assumption | rfl | exact True.intro | exact Nat.le_of_ble_eq_true rfl | exact Or.inl rfl | exact Or.inr rfl | exact okv3 (by assumption) | decide | (focus (simp (disch := omega) only [nI_clamp, vp_in_nI, hT_sI, hR_sI, hT_sJ, hR_sJ, hT_sR, hI_sJ, hI_sR, hJ_sI, hJ_sR, hI_eq, hI_ne, hI_nk]; done)) | (focus (simp (disch := omega) only [nI_clamp, vp_in_nI, hT_sI, hR_sI, hT_sJ, hR_sJ, hT_sR, hI_sJ, hI_sR, hJ_sI, hJ_sR, hI_eq, hI_ne, hI_nk]; first | assumption | exact okv3 (by assumption)))))))))
      exact k c1 f1 2 _ (Or.inr ⟨_, rfl, by decide, rfl⟩)
theorem h_failAt {C : Nat → Prop} {h h1 : CH} {o : Nat} {x : Int32} {r1 : List Value ⊕ String} {Q : QT} (a13 : (hT h 300).1 = 13) (cls : Cls C wX9_failAt [.ref 300, .int x] h r1 h1) (e : EOK Lfa r1) (ho0 : hT h o = (101, 1)) (hco : ¬ C o) (k : CloC C h1 → Fr C h h1 → ∀ kv h2, HR (fun v => v.toInt64) o Lfa r1 h1 kv h2 → Q (.inl [.int kv]) h2) : wL_failAt [.ref 300, .int x, .ref o] h Q := by
  refine wgo (fun X hX => ?_) (by show 3 ≤ 4; decide)
  (refine go mL_failAt hX [] 400 ?_; conv => whnf)
  repeat (first | (refine rs ?_; conv => whnf) | unfold k_call | ((with_reducible refine And.intro ?_ ?_); (first | (first | assumption | rfl | exact True.intro | exact Nat.le_of_ble_eq_true rfl | exact Or.inl rfl | exact Or.inr rfl | exact okv3 (by assumption) | decide | (focus (simp (disch := omega) only [a13, nI_clamp, vp_in_nI, hT_sI, hR_sI, hT_sJ, hR_sJ, hT_sR, hI_sJ, hI_sR, hJ_sI, hJ_sR, hI_eq, hI_ne, hI_nk]; done)) | (focus (simp (disch := omega) only [a13, nI_clamp, vp_in_nI, hT_sI, hR_sI, hT_sJ, hR_sJ, hT_sR, hI_sJ, hI_sR, hJ_sI, hJ_sR, hI_eq, hI_ne, hI_nk]; first | assumption | exact okv3 (by assumption)))) | (focus (refine ⟨_, rfl, ?_⟩; (first | assumption | rfl | exact True.intro | exact Nat.le_of_ble_eq_true rfl | exact Or.inl rfl | exact Or.inr rfl | exact okv3 (by assumption) | decide | (focus (simp (disch := omega) only [a13, nI_clamp, vp_in_nI, hT_sI, hR_sI, hT_sJ, hR_sJ, hT_sR, hI_sJ, hI_sR, hJ_sI, hJ_sR, hI_eq, hI_ne, hI_nk]; done)) | (focus (simp (disch := omega) only [a13, nI_clamp, vp_in_nI, hT_sI, hR_sI, hT_sJ, hR_sJ, hT_sR, hI_sJ, hI_sR, hJ_sI, hJ_sR, hI_eq, hI_ne, hI_nk]; first | assumption | exact okv3 (by assumption)))))))))
  refine cls _ (fun c1 f1 => ?_)
  have ho : hT h1 o = (101, 1) := (f1.2 o hco).1.trans ho0
  have ho1 : (hT h1 o).1 = 101 := by rw [ho]
  have ho2 : vp_in 0 (hT h1 o).2 := vp0 ho
  cases r1 with
  | inl vs =>
    obtain ⟨w, rfl⟩ := e
    repeat (first | (refine rs ?_; conv => whnf) | unfold k_call | ((with_reducible refine And.intro ?_ ?_); (first | (first | assumption | rfl | exact True.intro | exact Nat.le_of_ble_eq_true rfl | exact Or.inl rfl | exact Or.inr rfl | exact okv3 (by assumption) | decide | (focus (simp (disch := omega) only [nI_clamp, vp_in_nI, hT_sI, hR_sI, hT_sJ, hR_sJ, hT_sR, hI_sJ, hI_sR, hJ_sI, hJ_sR, hI_eq, hI_ne, hI_nk]; done)) | (focus (simp (disch := omega) only [nI_clamp, vp_in_nI, hT_sI, hR_sI, hT_sJ, hR_sJ, hT_sR, hI_sJ, hI_sR, hJ_sI, hJ_sR, hI_eq, hI_ne, hI_nk]; first | assumption | exact okv3 (by assumption)))) | (focus (refine ⟨_, rfl, ?_⟩; (first | assumption | rfl | exact True.intro | exact Nat.le_of_ble_eq_true rfl | exact Or.inl rfl | exact Or.inr rfl | exact okv3 (by assumption) | decide | (focus (simp (disch := omega) only [nI_clamp, vp_in_nI, hT_sI, hR_sI, hT_sJ, hR_sJ, hT_sR, hI_sJ, hI_sR, hJ_sI, hJ_sR, hI_eq, hI_ne, hI_nk]; done)) | (focus (simp (disch := omega) only [nI_clamp, vp_in_nI, hT_sI, hR_sI, hT_sJ, hR_sJ, hT_sR, hI_sJ, hI_sR, hJ_sI, hJ_sR, hI_eq, hI_ne, hI_nk]; first | assumption | exact okv3 (by assumption)))))))))
    exact k c1 f1 0 _ (Or.inl ⟨w, rfl, rfl, rfl⟩)
  | inr E =>
    obtain ⟨c, hc⟩ := e
    simp only [Lfa, List.mem_cons, List.not_mem_nil, or_false, Prod.mk.injEq] at hc
    rcases hc with ⟨rfl, rfl⟩ | ⟨rfl, rfl⟩
    · show match ([("java/lang/IllegalArgumentException", 13, 3), ("java/lang/UnsupportedOperationException", 16, 3)] : List (String × Nat × Nat)).find? (fun q => q.1 == "java/lang/IllegalArgumentException") with | some q => _ | none => False
      rw [show ([("java/lang/IllegalArgumentException", 13, 3), ("java/lang/UnsupportedOperationException", 16, 3)] : List (String × Nat × Nat)).find? (fun q => q.1 == "java/lang/IllegalArgumentException") = some ("java/lang/IllegalArgumentException", 13, 3) from by decide]
      intro cs ss g1 g2
      (refine go mL_failAt hX [] 400 ?_; conv => whnf)
      repeat (first | (refine rs ?_; conv => whnf) | unfold k_call | ((with_reducible refine And.intro ?_ ?_); (first | (first | assumption | rfl | exact True.intro | exact Nat.le_of_ble_eq_true rfl | exact Or.inl rfl | exact Or.inr rfl | exact okv3 (by assumption) | decide | (focus (simp (disch := omega) only [nI_clamp, vp_in_nI, hT_sI, hR_sI, hT_sJ, hR_sJ, hT_sR, hI_sJ, hI_sR, hJ_sI, hJ_sR, hI_eq, hI_ne, hI_nk]; done)) | (focus (simp (disch := omega) only [nI_clamp, vp_in_nI, hT_sI, hR_sI, hT_sJ, hR_sJ, hT_sR, hI_sJ, hI_sR, hJ_sI, hJ_sR, hI_eq, hI_ne, hI_nk]; first | assumption | exact okv3 (by assumption)))) | (focus (refine ⟨_, rfl, ?_⟩; (first | assumption | rfl | exact True.intro | exact Nat.le_of_ble_eq_true rfl | exact Or.inl rfl | exact Or.inr rfl | exact okv3 (by assumption) | decide | (focus (simp (disch := omega) only [nI_clamp, vp_in_nI, hT_sI, hR_sI, hT_sJ, hR_sJ, hT_sR, hI_sJ, hI_sR, hJ_sI, hJ_sR, hI_eq, hI_ne, hI_nk]; done)) | (focus (simp (disch := omega) only [nI_clamp, vp_in_nI, hT_sI, hR_sI, hT_sJ, hR_sJ, hT_sR, hI_sJ, hI_sR, hJ_sI, hJ_sR, hI_eq, hI_ne, hI_nk]; first | assumption | exact okv3 (by assumption)))))))))
      exact k c1 f1 1 _ (Or.inr ⟨_, rfl, by decide, rfl⟩)
    · show match ([("java/lang/IllegalArgumentException", 13, 3), ("java/lang/UnsupportedOperationException", 16, 3)] : List (String × Nat × Nat)).find? (fun q => q.1 == "java/lang/UnsupportedOperationException") with | some q => _ | none => False
      rw [show ([("java/lang/IllegalArgumentException", 13, 3), ("java/lang/UnsupportedOperationException", 16, 3)] : List (String × Nat × Nat)).find? (fun q => q.1 == "java/lang/UnsupportedOperationException") = some ("java/lang/UnsupportedOperationException", 16, 3) from by decide]
      intro cs ss g1 g2
      (refine go mL_failAt hX [] 400 ?_; conv => whnf)
      repeat (first | (refine rs ?_; conv => whnf) | unfold k_call | ((with_reducible refine And.intro ?_ ?_); (first | (first | assumption | rfl | exact True.intro | exact Nat.le_of_ble_eq_true rfl | exact Or.inl rfl | exact Or.inr rfl | exact okv3 (by assumption) | decide | (focus (simp (disch := omega) only [nI_clamp, vp_in_nI, hT_sI, hR_sI, hT_sJ, hR_sJ, hT_sR, hI_sJ, hI_sR, hJ_sI, hJ_sR, hI_eq, hI_ne, hI_nk]; done)) | (focus (simp (disch := omega) only [nI_clamp, vp_in_nI, hT_sI, hR_sI, hT_sJ, hR_sJ, hT_sR, hI_sJ, hI_sR, hJ_sI, hJ_sR, hI_eq, hI_ne, hI_nk]; first | assumption | exact okv3 (by assumption)))) | (focus (refine ⟨_, rfl, ?_⟩; (first | assumption | rfl | exact True.intro | exact Nat.le_of_ble_eq_true rfl | exact Or.inl rfl | exact Or.inr rfl | exact okv3 (by assumption) | decide | (focus (simp (disch := omega) only [nI_clamp, vp_in_nI, hT_sI, hR_sI, hT_sJ, hR_sJ, hT_sR, hI_sJ, hI_sR, hJ_sI, hJ_sR, hI_eq, hI_ne, hI_nk]; done)) | (focus (simp (disch := omega) only [nI_clamp, vp_in_nI, hT_sI, hR_sI, hT_sJ, hR_sJ, hT_sR, hI_sJ, hI_sR, hJ_sI, hJ_sR, hI_eq, hI_ne, hI_nk]; first | assumption | exact okv3 (by assumption)))))))))
      exact k c1 f1 2 _ (Or.inr ⟨_, rfl, by decide, rfl⟩)
theorem h_fail {C : Nat → Prop} {h h1 : CH} {o : Nat} {r1 : List Value ⊕ String} {Q : QT} (a13 : (hT h 300).1 = 13) (cls : Cls C wX9_fail [.ref 300] h r1 h1) (e : EOK Luns r1) (ho0 : hT h o = (101, 1)) (hco : ¬ C o) (k : CloC C h1 → Fr C h h1 → ∀ kv h2, HR (fun v => v.toInt64) o Luns r1 h1 kv h2 → Q (.inl [.int kv]) h2) : wL_fail [.ref 300, .ref o] h Q := by
  refine wgo (fun X hX => ?_) (by show 2 ≤ 3; decide)
  (refine go mL_fail hX [] 400 ?_; conv => whnf)
  repeat (first | (refine rs ?_; conv => whnf) | unfold k_call | ((with_reducible refine And.intro ?_ ?_); (first | (first | assumption | rfl | exact True.intro | exact Nat.le_of_ble_eq_true rfl | exact Or.inl rfl | exact Or.inr rfl | exact okv3 (by assumption) | decide | (focus (simp (disch := omega) only [a13, nI_clamp, vp_in_nI, hT_sI, hR_sI, hT_sJ, hR_sJ, hT_sR, hI_sJ, hI_sR, hJ_sI, hJ_sR, hI_eq, hI_ne, hI_nk]; done)) | (focus (simp (disch := omega) only [a13, nI_clamp, vp_in_nI, hT_sI, hR_sI, hT_sJ, hR_sJ, hT_sR, hI_sJ, hI_sR, hJ_sI, hJ_sR, hI_eq, hI_ne, hI_nk]; first | assumption | exact okv3 (by assumption)))) | (focus (refine ⟨_, rfl, ?_⟩; (first | assumption | rfl | exact True.intro | exact Nat.le_of_ble_eq_true rfl | exact Or.inl rfl | exact Or.inr rfl | exact okv3 (by assumption) | decide | (focus (simp (disch := omega) only [a13, nI_clamp, vp_in_nI, hT_sI, hR_sI, hT_sJ, hR_sJ, hT_sR, hI_sJ, hI_sR, hJ_sI, hJ_sR, hI_eq, hI_ne, hI_nk]; done)) | (focus (simp (disch := omega) only [a13, nI_clamp, vp_in_nI, hT_sI, hR_sI, hT_sJ, hR_sJ, hT_sR, hI_sJ, hI_sR, hJ_sI, hJ_sR, hI_eq, hI_ne, hI_nk]; first | assumption | exact okv3 (by assumption)))))))))
  refine cls _ (fun c1 f1 => ?_)
  have ho : hT h1 o = (101, 1) := (f1.2 o hco).1.trans ho0
  have ho1 : (hT h1 o).1 = 101 := by rw [ho]
  have ho2 : vp_in 0 (hT h1 o).2 := vp0 ho
  cases r1 with
  | inl vs =>
    obtain ⟨w, rfl⟩ := e
    repeat (first | (refine rs ?_; conv => whnf) | unfold k_call | ((with_reducible refine And.intro ?_ ?_); (first | (first | assumption | rfl | exact True.intro | exact Nat.le_of_ble_eq_true rfl | exact Or.inl rfl | exact Or.inr rfl | exact okv3 (by assumption) | decide | (focus (simp (disch := omega) only [nI_clamp, vp_in_nI, hT_sI, hR_sI, hT_sJ, hR_sJ, hT_sR, hI_sJ, hI_sR, hJ_sI, hJ_sR, hI_eq, hI_ne, hI_nk]; done)) | (focus (simp (disch := omega) only [nI_clamp, vp_in_nI, hT_sI, hR_sI, hT_sJ, hR_sJ, hT_sR, hI_sJ, hI_sR, hJ_sI, hJ_sR, hI_eq, hI_ne, hI_nk]; first | assumption | exact okv3 (by assumption)))) | (focus (refine ⟨_, rfl, ?_⟩; (first | assumption | rfl | exact True.intro | exact Nat.le_of_ble_eq_true rfl | exact Or.inl rfl | exact Or.inr rfl | exact okv3 (by assumption) | decide | (focus (simp (disch := omega) only [nI_clamp, vp_in_nI, hT_sI, hR_sI, hT_sJ, hR_sJ, hT_sR, hI_sJ, hI_sR, hJ_sI, hJ_sR, hI_eq, hI_ne, hI_nk]; done)) | (focus (simp (disch := omega) only [nI_clamp, vp_in_nI, hT_sI, hR_sI, hT_sJ, hR_sJ, hT_sR, hI_sJ, hI_sR, hJ_sI, hJ_sR, hI_eq, hI_ne, hI_nk]; first | assumption | exact okv3 (by assumption)))))))))
    exact k c1 f1 0 _ (Or.inl ⟨w, rfl, rfl, rfl⟩)
  | inr E =>
    obtain ⟨c, hc⟩ := e
    simp only [Luns, List.mem_cons, List.not_mem_nil, or_false, Prod.mk.injEq] at hc
    obtain ⟨rfl, rfl⟩ := hc
    show match ([("java/lang/UnsupportedOperationException", 12, 2)] : List (String × Nat × Nat)).find? (fun q => q.1 == "java/lang/UnsupportedOperationException") with | some q => _ | none => False
    rw [show ([("java/lang/UnsupportedOperationException", 12, 2)] : List (String × Nat × Nat)).find? (fun q => q.1 == "java/lang/UnsupportedOperationException") = some ("java/lang/UnsupportedOperationException", 12, 2) from by decide]
    intro cs ss g1 g2
    (refine go mL_fail hX [] 400 ?_; conv => whnf)
    repeat (first | (refine rs ?_; conv => whnf) | unfold k_call | ((with_reducible refine And.intro ?_ ?_); (first | (first | assumption | rfl | exact True.intro | exact Nat.le_of_ble_eq_true rfl | exact Or.inl rfl | exact Or.inr rfl | exact okv3 (by assumption) | decide | (focus (simp (disch := omega) only [nI_clamp, vp_in_nI, hT_sI, hR_sI, hT_sJ, hR_sJ, hT_sR, hI_sJ, hI_sR, hJ_sI, hJ_sR, hI_eq, hI_ne, hI_nk]; done)) | (focus (simp (disch := omega) only [nI_clamp, vp_in_nI, hT_sI, hR_sI, hT_sJ, hR_sJ, hT_sR, hI_sJ, hI_sR, hJ_sI, hJ_sR, hI_eq, hI_ne, hI_nk]; first | assumption | exact okv3 (by assumption)))) | (focus (refine ⟨_, rfl, ?_⟩; (first | assumption | rfl | exact True.intro | exact Nat.le_of_ble_eq_true rfl | exact Or.inl rfl | exact Or.inr rfl | exact okv3 (by assumption) | decide | (focus (simp (disch := omega) only [nI_clamp, vp_in_nI, hT_sI, hR_sI, hT_sJ, hR_sJ, hT_sR, hI_sJ, hI_sR, hJ_sI, hJ_sR, hI_eq, hI_ne, hI_nk]; done)) | (focus (simp (disch := omega) only [nI_clamp, vp_in_nI, hT_sI, hR_sI, hT_sJ, hR_sJ, hT_sR, hI_sJ, hI_sR, hJ_sI, hJ_sR, hI_eq, hI_ne, hI_nk]; first | assumption | exact okv3 (by assumption)))))))))
    exact k c1 f1 1 _ (Or.inr ⟨_, rfl, by decide, rfl⟩)
theorem h_powerOn {C : Nat → Prop} {h h1 : CH} {o : Nat} {r1 : List Value ⊕ String} {Q : QT} (a13 : (hT h 300).1 = 13) (cls : Cls C wX9_powerOn [.ref 300] h r1 h1) (e : EOK Luns r1) (ho0 : hT h o = (101, 1)) (hco : ¬ C o) (k : CloC C h1 → Fr C h h1 → ∀ kv h2, HR (fun v => v.toInt64) o Luns r1 h1 kv h2 → Q (.inl [.int kv]) h2) : wL_powerOn [.ref 300, .ref o] h Q := by
  refine wgo (fun X hX => ?_) (by show 2 ≤ 3; decide)
  (refine go mL_powerOn hX [] 400 ?_; conv => whnf)
  repeat (first | (refine rs ?_; conv => whnf) | unfold k_call | ((with_reducible refine And.intro ?_ ?_); (first | (first | assumption | rfl | exact True.intro | exact Nat.le_of_ble_eq_true rfl | exact Or.inl rfl | exact Or.inr rfl | exact okv3 (by assumption) | decide | (focus (simp (disch := omega) only [a13, nI_clamp, vp_in_nI, hT_sI, hR_sI, hT_sJ, hR_sJ, hT_sR, hI_sJ, hI_sR, hJ_sI, hJ_sR, hI_eq, hI_ne, hI_nk]; done)) | (focus (simp (disch := omega) only [a13, nI_clamp, vp_in_nI, hT_sI, hR_sI, hT_sJ, hR_sJ, hT_sR, hI_sJ, hI_sR, hJ_sI, hJ_sR, hI_eq, hI_ne, hI_nk]; first | assumption | exact okv3 (by assumption)))) | (focus (refine ⟨_, rfl, ?_⟩; (first | assumption | rfl | exact True.intro | exact Nat.le_of_ble_eq_true rfl | exact Or.inl rfl | exact Or.inr rfl | exact okv3 (by assumption) | decide | (focus (simp (disch := omega) only [a13, nI_clamp, vp_in_nI, hT_sI, hR_sI, hT_sJ, hR_sJ, hT_sR, hI_sJ, hI_sR, hJ_sI, hJ_sR, hI_eq, hI_ne, hI_nk]; done)) | (focus (simp (disch := omega) only [a13, nI_clamp, vp_in_nI, hT_sI, hR_sI, hT_sJ, hR_sJ, hT_sR, hI_sJ, hI_sR, hJ_sI, hJ_sR, hI_eq, hI_ne, hI_nk]; first | assumption | exact okv3 (by assumption)))))))))
  refine cls _ (fun c1 f1 => ?_)
  have ho : hT h1 o = (101, 1) := (f1.2 o hco).1.trans ho0
  have ho1 : (hT h1 o).1 = 101 := by rw [ho]
  have ho2 : vp_in 0 (hT h1 o).2 := vp0 ho
  cases r1 with
  | inl vs =>
    obtain ⟨w, rfl⟩ := e
    repeat (first | (refine rs ?_; conv => whnf) | unfold k_call | ((with_reducible refine And.intro ?_ ?_); (first | (first | assumption | rfl | exact True.intro | exact Nat.le_of_ble_eq_true rfl | exact Or.inl rfl | exact Or.inr rfl | exact okv3 (by assumption) | decide | (focus (simp (disch := omega) only [nI_clamp, vp_in_nI, hT_sI, hR_sI, hT_sJ, hR_sJ, hT_sR, hI_sJ, hI_sR, hJ_sI, hJ_sR, hI_eq, hI_ne, hI_nk]; done)) | (focus (simp (disch := omega) only [nI_clamp, vp_in_nI, hT_sI, hR_sI, hT_sJ, hR_sJ, hT_sR, hI_sJ, hI_sR, hJ_sI, hJ_sR, hI_eq, hI_ne, hI_nk]; first | assumption | exact okv3 (by assumption)))) | (focus (refine ⟨_, rfl, ?_⟩; (first | assumption | rfl | exact True.intro | exact Nat.le_of_ble_eq_true rfl | exact Or.inl rfl | exact Or.inr rfl | exact okv3 (by assumption) | decide | (focus (simp (disch := omega) only [nI_clamp, vp_in_nI, hT_sI, hR_sI, hT_sJ, hR_sJ, hT_sR, hI_sJ, hI_sR, hJ_sI, hJ_sR, hI_eq, hI_ne, hI_nk]; done)) | (focus (simp (disch := omega) only [nI_clamp, vp_in_nI, hT_sI, hR_sI, hT_sJ, hR_sJ, hT_sR, hI_sJ, hI_sR, hJ_sI, hJ_sR, hI_eq, hI_ne, hI_nk]; first | assumption | exact okv3 (by assumption)))))))))
    exact k c1 f1 0 _ (Or.inl ⟨w, rfl, rfl, rfl⟩)
  | inr E =>
    obtain ⟨c, hc⟩ := e
    simp only [Luns, List.mem_cons, List.not_mem_nil, or_false, Prod.mk.injEq] at hc
    obtain ⟨rfl, rfl⟩ := hc
    show match ([("java/lang/UnsupportedOperationException", 12, 2)] : List (String × Nat × Nat)).find? (fun q => q.1 == "java/lang/UnsupportedOperationException") with | some q => _ | none => False
    rw [show ([("java/lang/UnsupportedOperationException", 12, 2)] : List (String × Nat × Nat)).find? (fun q => q.1 == "java/lang/UnsupportedOperationException") = some ("java/lang/UnsupportedOperationException", 12, 2) from by decide]
    intro cs ss g1 g2
    (refine go mL_powerOn hX [] 400 ?_; conv => whnf)
    repeat (first | (refine rs ?_; conv => whnf) | unfold k_call | ((with_reducible refine And.intro ?_ ?_); (first | (first | assumption | rfl | exact True.intro | exact Nat.le_of_ble_eq_true rfl | exact Or.inl rfl | exact Or.inr rfl | exact okv3 (by assumption) | decide | (focus (simp (disch := omega) only [nI_clamp, vp_in_nI, hT_sI, hR_sI, hT_sJ, hR_sJ, hT_sR, hI_sJ, hI_sR, hJ_sI, hJ_sR, hI_eq, hI_ne, hI_nk]; done)) | (focus (simp (disch := omega) only [nI_clamp, vp_in_nI, hT_sI, hR_sI, hT_sJ, hR_sJ, hT_sR, hI_sJ, hI_sR, hJ_sI, hJ_sR, hI_eq, hI_ne, hI_nk]; first | assumption | exact okv3 (by assumption)))) | (focus (refine ⟨_, rfl, ?_⟩; (first | assumption | rfl | exact True.intro | exact Nat.le_of_ble_eq_true rfl | exact Or.inl rfl | exact Or.inr rfl | exact okv3 (by assumption) | decide | (focus (simp (disch := omega) only [nI_clamp, vp_in_nI, hT_sI, hR_sI, hT_sJ, hR_sJ, hT_sR, hI_sJ, hI_sR, hJ_sI, hJ_sR, hI_eq, hI_ne, hI_nk]; done)) | (focus (simp (disch := omega) only [nI_clamp, vp_in_nI, hT_sI, hR_sI, hT_sJ, hR_sJ, hT_sR, hI_sJ, hI_sR, hJ_sI, hJ_sR, hI_eq, hI_ne, hI_nk]; first | assumption | exact okv3 (by assumption)))))))))
    exact k c1 f1 1 _ (Or.inr ⟨_, rfl, by decide, rfl⟩)
theorem h_damage {C : Nat → Prop} {h h1 : CH} {o : Nat} {x y v : Int32} {r1 : List Value ⊕ String} {Q : QT} (a13 : (hT h 300).1 = 13) (cls : Cls C wX9_damage [.ref 300, .int x, .int y, .int v] h r1 h1) (e : EOK Ldm r1) (ho0 : hT h o = (101, 1)) (hco : ¬ C o) (k : CloC C h1 → Fr C h h1 → ∀ kv h2, HR (fun v => v.toInt64) o Ldm r1 h1 kv h2 → Q (.inl [.int kv]) h2) : wL_damage [.ref 300, .int x, .int y, .int v, .ref o] h Q := by
  refine wgo (fun X hX => ?_) (by show 5 ≤ 6; decide)
  (refine go mL_damage hX [] 400 ?_; conv => whnf)
  repeat (first | (refine rs ?_; conv => whnf) | unfold k_call | ((with_reducible refine And.intro ?_ ?_); (first | (first | assumption | rfl | exact True.intro | exact Nat.le_of_ble_eq_true rfl | exact Or.inl rfl | exact Or.inr rfl | exact okv3 (by assumption) | decide | (focus (simp (disch := omega) only [a13, nI_clamp, vp_in_nI, hT_sI, hR_sI, hT_sJ, hR_sJ, hT_sR, hI_sJ, hI_sR, hJ_sI, hJ_sR, hI_eq, hI_ne, hI_nk]; done)) | (focus (simp (disch := omega) only [a13, nI_clamp, vp_in_nI, hT_sI, hR_sI, hT_sJ, hR_sJ, hT_sR, hI_sJ, hI_sR, hJ_sI, hJ_sR, hI_eq, hI_ne, hI_nk]; first | assumption | exact okv3 (by assumption)))) | (focus (refine ⟨_, rfl, ?_⟩; (first | assumption | rfl | exact True.intro | exact Nat.le_of_ble_eq_true rfl | exact Or.inl rfl | exact Or.inr rfl | exact okv3 (by assumption) | decide | (focus (simp (disch := omega) only [a13, nI_clamp, vp_in_nI, hT_sI, hR_sI, hT_sJ, hR_sJ, hT_sR, hI_sJ, hI_sR, hJ_sI, hJ_sR, hI_eq, hI_ne, hI_nk]; done)) | (focus (simp (disch := omega) only [a13, nI_clamp, vp_in_nI, hT_sI, hR_sI, hT_sJ, hR_sJ, hT_sR, hI_sJ, hI_sR, hJ_sI, hJ_sR, hI_eq, hI_ne, hI_nk]; first | assumption | exact okv3 (by assumption)))))))))
  refine cls _ (fun c1 f1 => ?_)
  have ho : hT h1 o = (101, 1) := (f1.2 o hco).1.trans ho0
  have ho1 : (hT h1 o).1 = 101 := by rw [ho]
  have ho2 : vp_in 0 (hT h1 o).2 := vp0 ho
  cases r1 with
  | inl vs =>
    obtain ⟨w, rfl⟩ := e
    repeat (first | (refine rs ?_; conv => whnf) | unfold k_call | ((with_reducible refine And.intro ?_ ?_); (first | (first | assumption | rfl | exact True.intro | exact Nat.le_of_ble_eq_true rfl | exact Or.inl rfl | exact Or.inr rfl | exact okv3 (by assumption) | decide | (focus (simp (disch := omega) only [nI_clamp, vp_in_nI, hT_sI, hR_sI, hT_sJ, hR_sJ, hT_sR, hI_sJ, hI_sR, hJ_sI, hJ_sR, hI_eq, hI_ne, hI_nk]; done)) | (focus (simp (disch := omega) only [nI_clamp, vp_in_nI, hT_sI, hR_sI, hT_sJ, hR_sJ, hT_sR, hI_sJ, hI_sR, hJ_sI, hJ_sR, hI_eq, hI_ne, hI_nk]; first | assumption | exact okv3 (by assumption)))) | (focus (refine ⟨_, rfl, ?_⟩; (first | assumption | rfl | exact True.intro | exact Nat.le_of_ble_eq_true rfl | exact Or.inl rfl | exact Or.inr rfl | exact okv3 (by assumption) | decide | (focus (simp (disch := omega) only [nI_clamp, vp_in_nI, hT_sI, hR_sI, hT_sJ, hR_sJ, hT_sR, hI_sJ, hI_sR, hJ_sI, hJ_sR, hI_eq, hI_ne, hI_nk]; done)) | (focus (simp (disch := omega) only [nI_clamp, vp_in_nI, hT_sI, hR_sI, hT_sJ, hR_sJ, hT_sR, hI_sJ, hI_sR, hJ_sI, hJ_sR, hI_eq, hI_ne, hI_nk]; first | assumption | exact okv3 (by assumption)))))))))
    exact k c1 f1 0 _ (Or.inl ⟨w, rfl, rfl, rfl⟩)
  | inr E =>
    obtain ⟨c, hc⟩ := e
    simp only [Ldm, List.mem_cons, List.not_mem_nil, or_false, Prod.mk.injEq] at hc
    rcases hc with ⟨rfl, rfl⟩ | ⟨rfl, rfl⟩ | ⟨rfl, rfl⟩
    · show match ([("java/lang/IndexOutOfBoundsException", 17, 5), ("java/lang/IllegalArgumentException", 21, 5), ("java/lang/UnsupportedOperationException", 25, 5)] : List (String × Nat × Nat)).find? (fun q => q.1 == "java/lang/IndexOutOfBoundsException") with | some q => _ | none => False
      rw [show ([("java/lang/IndexOutOfBoundsException", 17, 5), ("java/lang/IllegalArgumentException", 21, 5), ("java/lang/UnsupportedOperationException", 25, 5)] : List (String × Nat × Nat)).find? (fun q => q.1 == "java/lang/IndexOutOfBoundsException") = some ("java/lang/IndexOutOfBoundsException", 17, 5) from by decide]
      intro cs ss g1 g2
      (refine go mL_damage hX [] 400 ?_; conv => whnf)
      repeat (first | (refine rs ?_; conv => whnf) | unfold k_call | ((with_reducible refine And.intro ?_ ?_); (first | (first | assumption | rfl | exact True.intro | exact Nat.le_of_ble_eq_true rfl | exact Or.inl rfl | exact Or.inr rfl | exact okv3 (by assumption) | decide | (focus (simp (disch := omega) only [nI_clamp, vp_in_nI, hT_sI, hR_sI, hT_sJ, hR_sJ, hT_sR, hI_sJ, hI_sR, hJ_sI, hJ_sR, hI_eq, hI_ne, hI_nk]; done)) | (focus (simp (disch := omega) only [nI_clamp, vp_in_nI, hT_sI, hR_sI, hT_sJ, hR_sJ, hT_sR, hI_sJ, hI_sR, hJ_sI, hJ_sR, hI_eq, hI_ne, hI_nk]; first | assumption | exact okv3 (by assumption)))) | (focus (refine ⟨_, rfl, ?_⟩; (first | assumption | rfl | exact True.intro | exact Nat.le_of_ble_eq_true rfl | exact Or.inl rfl | exact Or.inr rfl | exact okv3 (by assumption) | decide | (focus (simp (disch := omega) only [nI_clamp, vp_in_nI, hT_sI, hR_sI, hT_sJ, hR_sJ, hT_sR, hI_sJ, hI_sR, hJ_sI, hJ_sR, hI_eq, hI_ne, hI_nk]; done)) | (focus (simp (disch := omega) only [nI_clamp, vp_in_nI, hT_sI, hR_sI, hT_sJ, hR_sJ, hT_sR, hI_sJ, hI_sR, hJ_sI, hJ_sR, hI_eq, hI_ne, hI_nk]; first | assumption | exact okv3 (by assumption)))))))))
      exact k c1 f1 1 _ (Or.inr ⟨_, rfl, by decide, rfl⟩)
    · show match ([("java/lang/IndexOutOfBoundsException", 17, 5), ("java/lang/IllegalArgumentException", 21, 5), ("java/lang/UnsupportedOperationException", 25, 5)] : List (String × Nat × Nat)).find? (fun q => q.1 == "java/lang/IllegalArgumentException") with | some q => _ | none => False
      rw [show ([("java/lang/IndexOutOfBoundsException", 17, 5), ("java/lang/IllegalArgumentException", 21, 5), ("java/lang/UnsupportedOperationException", 25, 5)] : List (String × Nat × Nat)).find? (fun q => q.1 == "java/lang/IllegalArgumentException") = some ("java/lang/IllegalArgumentException", 21, 5) from by decide]
      intro cs ss g1 g2
      (refine go mL_damage hX [] 400 ?_; conv => whnf)
      repeat (first | (refine rs ?_; conv => whnf) | unfold k_call | ((with_reducible refine And.intro ?_ ?_); (first | (first | assumption | rfl | exact True.intro | exact Nat.le_of_ble_eq_true rfl | exact Or.inl rfl | exact Or.inr rfl | exact okv3 (by assumption) | decide | (focus (simp (disch := omega) only [nI_clamp, vp_in_nI, hT_sI, hR_sI, hT_sJ, hR_sJ, hT_sR, hI_sJ, hI_sR, hJ_sI, hJ_sR, hI_eq, hI_ne, hI_nk]; done)) | (focus (simp (disch := omega) only [nI_clamp, vp_in_nI, hT_sI, hR_sI, hT_sJ, hR_sJ, hT_sR, hI_sJ, hI_sR, hJ_sI, hJ_sR, hI_eq, hI_ne, hI_nk]; first | assumption | exact okv3 (by assumption)))) | (focus (refine ⟨_, rfl, ?_⟩; (first | assumption | rfl | exact True.intro | exact Nat.le_of_ble_eq_true rfl | exact Or.inl rfl | exact Or.inr rfl | exact okv3 (by assumption) | decide | (focus (simp (disch := omega) only [nI_clamp, vp_in_nI, hT_sI, hR_sI, hT_sJ, hR_sJ, hT_sR, hI_sJ, hI_sR, hJ_sI, hJ_sR, hI_eq, hI_ne, hI_nk]; done)) | (focus (simp (disch := omega) only [nI_clamp, vp_in_nI, hT_sI, hR_sI, hT_sJ, hR_sJ, hT_sR, hI_sJ, hI_sR, hJ_sI, hJ_sR, hI_eq, hI_ne, hI_nk]; first | assumption | exact okv3 (by assumption)))))))))
      exact k c1 f1 2 _ (Or.inr ⟨_, rfl, by decide, rfl⟩)
    · show match ([("java/lang/IndexOutOfBoundsException", 17, 5), ("java/lang/IllegalArgumentException", 21, 5), ("java/lang/UnsupportedOperationException", 25, 5)] : List (String × Nat × Nat)).find? (fun q => q.1 == "java/lang/UnsupportedOperationException") with | some q => _ | none => False
      rw [show ([("java/lang/IndexOutOfBoundsException", 17, 5), ("java/lang/IllegalArgumentException", 21, 5), ("java/lang/UnsupportedOperationException", 25, 5)] : List (String × Nat × Nat)).find? (fun q => q.1 == "java/lang/UnsupportedOperationException") = some ("java/lang/UnsupportedOperationException", 25, 5) from by decide]
      intro cs ss g1 g2
      (refine go mL_damage hX [] 400 ?_; conv => whnf)
      repeat (first | (refine rs ?_; conv => whnf) | unfold k_call | ((with_reducible refine And.intro ?_ ?_); (first | (first | assumption | rfl | exact True.intro | exact Nat.le_of_ble_eq_true rfl | exact Or.inl rfl | exact Or.inr rfl | exact okv3 (by assumption) | decide | (focus (simp (disch := omega) only [nI_clamp, vp_in_nI, hT_sI, hR_sI, hT_sJ, hR_sJ, hT_sR, hI_sJ, hI_sR, hJ_sI, hJ_sR, hI_eq, hI_ne, hI_nk]; done)) | (focus (simp (disch := omega) only [nI_clamp, vp_in_nI, hT_sI, hR_sI, hT_sJ, hR_sJ, hT_sR, hI_sJ, hI_sR, hJ_sI, hJ_sR, hI_eq, hI_ne, hI_nk]; first | assumption | exact okv3 (by assumption)))) | (focus (refine ⟨_, rfl, ?_⟩; (first | assumption | rfl | exact True.intro | exact Nat.le_of_ble_eq_true rfl | exact Or.inl rfl | exact Or.inr rfl | exact okv3 (by assumption) | decide | (focus (simp (disch := omega) only [nI_clamp, vp_in_nI, hT_sI, hR_sI, hT_sJ, hR_sJ, hT_sR, hI_sJ, hI_sR, hJ_sI, hJ_sR, hI_eq, hI_ne, hI_nk]; done)) | (focus (simp (disch := omega) only [nI_clamp, vp_in_nI, hT_sI, hR_sI, hT_sJ, hR_sJ, hT_sR, hI_sJ, hI_sR, hJ_sI, hJ_sR, hI_eq, hI_ne, hI_nk]; first | assumption | exact okv3 (by assumption)))))))))
      exact k c1 f1 3 _ (Or.inr ⟨_, rfl, by decide, rfl⟩)
theorem h_scrub {C : Nat → Prop} {h h1 : CH} {o : Nat} {x : Int32} {r1 : List Value ⊕ String} {Q : QT} (a13 : (hT h 300).1 = 13) (cls : Cls C wX9_scrub [.ref 300, .int x] h r1 h1) (e : EOK Liob r1) (ho0 : hT h o = (101, 1)) (hco : ¬ C o) (k : CloC C h1 → Fr C h h1 → ∀ kv h2, HR (fun v => v.toInt64) o Liob r1 h1 kv h2 → Q (.inl [.int kv]) h2) : wL_scrub [.ref 300, .int x, .ref o] h Q := by
  refine wgo (fun X hX => ?_) (by show 3 ≤ 4; decide)
  (refine go mL_scrub hX [] 400 ?_; conv => whnf)
  repeat (first | (refine rs ?_; conv => whnf) | unfold k_call | ((with_reducible refine And.intro ?_ ?_); (first | (first | assumption | rfl | exact True.intro | exact Nat.le_of_ble_eq_true rfl | exact Or.inl rfl | exact Or.inr rfl | exact okv3 (by assumption) | decide | (focus (simp (disch := omega) only [a13, nI_clamp, vp_in_nI, hT_sI, hR_sI, hT_sJ, hR_sJ, hT_sR, hI_sJ, hI_sR, hJ_sI, hJ_sR, hI_eq, hI_ne, hI_nk]; done)) | (focus (simp (disch := omega) only [a13, nI_clamp, vp_in_nI, hT_sI, hR_sI, hT_sJ, hR_sJ, hT_sR, hI_sJ, hI_sR, hJ_sI, hJ_sR, hI_eq, hI_ne, hI_nk]; first | assumption | exact okv3 (by assumption)))) | (focus (refine ⟨_, rfl, ?_⟩; (first | assumption | rfl | exact True.intro | exact Nat.le_of_ble_eq_true rfl | exact Or.inl rfl | exact Or.inr rfl | exact okv3 (by assumption) | decide | (focus (simp (disch := omega) only [a13, nI_clamp, vp_in_nI, hT_sI, hR_sI, hT_sJ, hR_sJ, hT_sR, hI_sJ, hI_sR, hJ_sI, hJ_sR, hI_eq, hI_ne, hI_nk]; done)) | (focus (simp (disch := omega) only [a13, nI_clamp, vp_in_nI, hT_sI, hR_sI, hT_sJ, hR_sJ, hT_sR, hI_sJ, hI_sR, hJ_sI, hJ_sR, hI_eq, hI_ne, hI_nk]; first | assumption | exact okv3 (by assumption)))))))))
  refine cls _ (fun c1 f1 => ?_)
  have ho : hT h1 o = (101, 1) := (f1.2 o hco).1.trans ho0
  have ho1 : (hT h1 o).1 = 101 := by rw [ho]
  have ho2 : vp_in 0 (hT h1 o).2 := vp0 ho
  cases r1 with
  | inl vs =>
    obtain ⟨w, rfl⟩ := e
    repeat (first | (refine rs ?_; conv => whnf) | unfold k_call | ((with_reducible refine And.intro ?_ ?_); (first | (first | assumption | rfl | exact True.intro | exact Nat.le_of_ble_eq_true rfl | exact Or.inl rfl | exact Or.inr rfl | exact okv3 (by assumption) | decide | (focus (simp (disch := omega) only [nI_clamp, vp_in_nI, hT_sI, hR_sI, hT_sJ, hR_sJ, hT_sR, hI_sJ, hI_sR, hJ_sI, hJ_sR, hI_eq, hI_ne, hI_nk]; done)) | (focus (simp (disch := omega) only [nI_clamp, vp_in_nI, hT_sI, hR_sI, hT_sJ, hR_sJ, hT_sR, hI_sJ, hI_sR, hJ_sI, hJ_sR, hI_eq, hI_ne, hI_nk]; first | assumption | exact okv3 (by assumption)))) | (focus (refine ⟨_, rfl, ?_⟩; (first | assumption | rfl | exact True.intro | exact Nat.le_of_ble_eq_true rfl | exact Or.inl rfl | exact Or.inr rfl | exact okv3 (by assumption) | decide | (focus (simp (disch := omega) only [nI_clamp, vp_in_nI, hT_sI, hR_sI, hT_sJ, hR_sJ, hT_sR, hI_sJ, hI_sR, hJ_sI, hJ_sR, hI_eq, hI_ne, hI_nk]; done)) | (focus (simp (disch := omega) only [nI_clamp, vp_in_nI, hT_sI, hR_sI, hT_sJ, hR_sJ, hT_sR, hI_sJ, hI_sR, hJ_sI, hJ_sR, hI_eq, hI_ne, hI_nk]; first | assumption | exact okv3 (by assumption)))))))))
    exact k c1 f1 0 _ (Or.inl ⟨w, rfl, rfl, rfl⟩)
  | inr E =>
    obtain ⟨c, hc⟩ := e
    simp only [Liob, List.mem_cons, List.not_mem_nil, or_false, Prod.mk.injEq] at hc
    obtain ⟨rfl, rfl⟩ := hc
    show match ([("java/lang/IndexOutOfBoundsException", 13, 3)] : List (String × Nat × Nat)).find? (fun q => q.1 == "java/lang/IndexOutOfBoundsException") with | some q => _ | none => False
    rw [show ([("java/lang/IndexOutOfBoundsException", 13, 3)] : List (String × Nat × Nat)).find? (fun q => q.1 == "java/lang/IndexOutOfBoundsException") = some ("java/lang/IndexOutOfBoundsException", 13, 3) from by decide]
    intro cs ss g1 g2
    (refine go mL_scrub hX [] 400 ?_; conv => whnf)
    repeat (first | (refine rs ?_; conv => whnf) | unfold k_call | ((with_reducible refine And.intro ?_ ?_); (first | (first | assumption | rfl | exact True.intro | exact Nat.le_of_ble_eq_true rfl | exact Or.inl rfl | exact Or.inr rfl | exact okv3 (by assumption) | decide | (focus (simp (disch := omega) only [nI_clamp, vp_in_nI, hT_sI, hR_sI, hT_sJ, hR_sJ, hT_sR, hI_sJ, hI_sR, hJ_sI, hJ_sR, hI_eq, hI_ne, hI_nk]; done)) | (focus (simp (disch := omega) only [nI_clamp, vp_in_nI, hT_sI, hR_sI, hT_sJ, hR_sJ, hT_sR, hI_sJ, hI_sR, hJ_sI, hJ_sR, hI_eq, hI_ne, hI_nk]; first | assumption | exact okv3 (by assumption)))) | (focus (refine ⟨_, rfl, ?_⟩; (first | assumption | rfl | exact True.intro | exact Nat.le_of_ble_eq_true rfl | exact Or.inl rfl | exact Or.inr rfl | exact okv3 (by assumption) | decide | (focus (simp (disch := omega) only [nI_clamp, vp_in_nI, hT_sI, hR_sI, hT_sJ, hR_sJ, hT_sR, hI_sJ, hI_sR, hJ_sI, hJ_sR, hI_eq, hI_ne, hI_nk]; done)) | (focus (simp (disch := omega) only [nI_clamp, vp_in_nI, hT_sI, hR_sI, hT_sJ, hR_sJ, hT_sR, hI_sJ, hI_sR, hJ_sI, hJ_sR, hI_eq, hI_ne, hI_nk]; first | assumption | exact okv3 (by assumption)))))))))
    exact k c1 f1 1 _ (Or.inr ⟨_, rfl, by decide, rfl⟩)
theorem h_keepImage {C : Nat → Prop} {h h1 : CH} {o : Nat} {x : Int32} {r1 : List Value ⊕ String} {Q : QT} (a13 : (hT h 300).1 = 13) (cls : Cls C wX9_keepImage [.ref 300, .int x] h r1 h1) (e : EOK Laf r1) (ho0 : hT h o = (101, 1)) (hco : ¬ C o) (k : CloC C h1 → Fr C h h1 → ∀ kv h2, HR (fun v => v.toInt64) o Laf r1 h1 kv h2 → Q (.inl [.int kv]) h2) : wL_keepImage [.ref 300, .int x, .ref o] h Q := by
  refine wgo (fun X hX => ?_) (by show 3 ≤ 4; decide)
  (refine go mL_keepImage hX [] 400 ?_; conv => whnf)
  repeat (first | (refine rs ?_; conv => whnf) | unfold k_call | ((with_reducible refine And.intro ?_ ?_); (first | (first | assumption | rfl | exact True.intro | exact Nat.le_of_ble_eq_true rfl | exact Or.inl rfl | exact Or.inr rfl | exact okv3 (by assumption) | decide | (focus (simp (disch := omega) only [a13, nI_clamp, vp_in_nI, hT_sI, hR_sI, hT_sJ, hR_sJ, hT_sR, hI_sJ, hI_sR, hJ_sI, hJ_sR, hI_eq, hI_ne, hI_nk]; done)) | (focus (simp (disch := omega) only [a13, nI_clamp, vp_in_nI, hT_sI, hR_sI, hT_sJ, hR_sJ, hT_sR, hI_sJ, hI_sR, hJ_sI, hJ_sR, hI_eq, hI_ne, hI_nk]; first | assumption | exact okv3 (by assumption)))) | (focus (refine ⟨_, rfl, ?_⟩; (first | assumption | rfl | exact True.intro | exact Nat.le_of_ble_eq_true rfl | exact Or.inl rfl | exact Or.inr rfl | exact okv3 (by assumption) | decide | (focus (simp (disch := omega) only [a13, nI_clamp, vp_in_nI, hT_sI, hR_sI, hT_sJ, hR_sJ, hT_sR, hI_sJ, hI_sR, hJ_sI, hJ_sR, hI_eq, hI_ne, hI_nk]; done)) | (focus (simp (disch := omega) only [a13, nI_clamp, vp_in_nI, hT_sI, hR_sI, hT_sJ, hR_sJ, hT_sR, hI_sJ, hI_sR, hJ_sI, hJ_sR, hI_eq, hI_ne, hI_nk]; first | assumption | exact okv3 (by assumption)))))))))
  refine cls _ (fun c1 f1 => ?_)
  have ho : hT h1 o = (101, 1) := (f1.2 o hco).1.trans ho0
  have ho1 : (hT h1 o).1 = 101 := by rw [ho]
  have ho2 : vp_in 0 (hT h1 o).2 := vp0 ho
  cases r1 with
  | inl vs =>
    obtain ⟨w, rfl⟩ := e
    repeat (first | (refine rs ?_; conv => whnf) | unfold k_call | ((with_reducible refine And.intro ?_ ?_); (first | (first | assumption | rfl | exact True.intro | exact Nat.le_of_ble_eq_true rfl | exact Or.inl rfl | exact Or.inr rfl | exact okv3 (by assumption) | decide | (focus (simp (disch := omega) only [nI_clamp, vp_in_nI, hT_sI, hR_sI, hT_sJ, hR_sJ, hT_sR, hI_sJ, hI_sR, hJ_sI, hJ_sR, hI_eq, hI_ne, hI_nk]; done)) | (focus (simp (disch := omega) only [nI_clamp, vp_in_nI, hT_sI, hR_sI, hT_sJ, hR_sJ, hT_sR, hI_sJ, hI_sR, hJ_sI, hJ_sR, hI_eq, hI_ne, hI_nk]; first | assumption | exact okv3 (by assumption)))) | (focus (refine ⟨_, rfl, ?_⟩; (first | assumption | rfl | exact True.intro | exact Nat.le_of_ble_eq_true rfl | exact Or.inl rfl | exact Or.inr rfl | exact okv3 (by assumption) | decide | (focus (simp (disch := omega) only [nI_clamp, vp_in_nI, hT_sI, hR_sI, hT_sJ, hR_sJ, hT_sR, hI_sJ, hI_sR, hJ_sI, hJ_sR, hI_eq, hI_ne, hI_nk]; done)) | (focus (simp (disch := omega) only [nI_clamp, vp_in_nI, hT_sI, hR_sI, hT_sJ, hR_sJ, hT_sR, hI_sJ, hI_sR, hJ_sI, hJ_sR, hI_eq, hI_ne, hI_nk]; first | assumption | exact okv3 (by assumption)))))))))
    exact k c1 f1 0 _ (Or.inl ⟨w, rfl, rfl, rfl⟩)
  | inr E =>
    obtain ⟨c, hc⟩ := e
    simp only [Laf, List.mem_cons, List.not_mem_nil, or_false, Prod.mk.injEq] at hc
    rcases hc with ⟨rfl, rfl⟩ | ⟨rfl, rfl⟩
    · show match ([("java/lang/IndexOutOfBoundsException", 13, 3), ("java/lang/IllegalStateException", 16, 3)] : List (String × Nat × Nat)).find? (fun q => q.1 == "java/lang/IndexOutOfBoundsException") with | some q => _ | none => False
      rw [show ([("java/lang/IndexOutOfBoundsException", 13, 3), ("java/lang/IllegalStateException", 16, 3)] : List (String × Nat × Nat)).find? (fun q => q.1 == "java/lang/IndexOutOfBoundsException") = some ("java/lang/IndexOutOfBoundsException", 13, 3) from by decide]
      intro cs ss g1 g2
      (refine go mL_keepImage hX [] 400 ?_; conv => whnf)
      repeat (first | (refine rs ?_; conv => whnf) | unfold k_call | ((with_reducible refine And.intro ?_ ?_); (first | (first | assumption | rfl | exact True.intro | exact Nat.le_of_ble_eq_true rfl | exact Or.inl rfl | exact Or.inr rfl | exact okv3 (by assumption) | decide | (focus (simp (disch := omega) only [nI_clamp, vp_in_nI, hT_sI, hR_sI, hT_sJ, hR_sJ, hT_sR, hI_sJ, hI_sR, hJ_sI, hJ_sR, hI_eq, hI_ne, hI_nk]; done)) | (focus (simp (disch := omega) only [nI_clamp, vp_in_nI, hT_sI, hR_sI, hT_sJ, hR_sJ, hT_sR, hI_sJ, hI_sR, hJ_sI, hJ_sR, hI_eq, hI_ne, hI_nk]; first | assumption | exact okv3 (by assumption)))) | (focus (refine ⟨_, rfl, ?_⟩; (first | assumption | rfl | exact True.intro | exact Nat.le_of_ble_eq_true rfl | exact Or.inl rfl | exact Or.inr rfl | exact okv3 (by assumption) | decide | (focus (simp (disch := omega) only [nI_clamp, vp_in_nI, hT_sI, hR_sI, hT_sJ, hR_sJ, hT_sR, hI_sJ, hI_sR, hJ_sI, hJ_sR, hI_eq, hI_ne, hI_nk]; done)) | (focus (simp (disch := omega) only [nI_clamp, vp_in_nI, hT_sI, hR_sI, hT_sJ, hR_sJ, hT_sR, hI_sJ, hI_sR, hJ_sI, hJ_sR, hI_eq, hI_ne, hI_nk]; first | assumption | exact okv3 (by assumption)))))))))
      exact k c1 f1 1 _ (Or.inr ⟨_, rfl, by decide, rfl⟩)
    · show match ([("java/lang/IndexOutOfBoundsException", 13, 3), ("java/lang/IllegalStateException", 16, 3)] : List (String × Nat × Nat)).find? (fun q => q.1 == "java/lang/IllegalStateException") with | some q => _ | none => False
      rw [show ([("java/lang/IndexOutOfBoundsException", 13, 3), ("java/lang/IllegalStateException", 16, 3)] : List (String × Nat × Nat)).find? (fun q => q.1 == "java/lang/IllegalStateException") = some ("java/lang/IllegalStateException", 16, 3) from by decide]
      intro cs ss g1 g2
      (refine go mL_keepImage hX [] 400 ?_; conv => whnf)
      repeat (first | (refine rs ?_; conv => whnf) | unfold k_call | ((with_reducible refine And.intro ?_ ?_); (first | (first | assumption | rfl | exact True.intro | exact Nat.le_of_ble_eq_true rfl | exact Or.inl rfl | exact Or.inr rfl | exact okv3 (by assumption) | decide | (focus (simp (disch := omega) only [nI_clamp, vp_in_nI, hT_sI, hR_sI, hT_sJ, hR_sJ, hT_sR, hI_sJ, hI_sR, hJ_sI, hJ_sR, hI_eq, hI_ne, hI_nk]; done)) | (focus (simp (disch := omega) only [nI_clamp, vp_in_nI, hT_sI, hR_sI, hT_sJ, hR_sJ, hT_sR, hI_sJ, hI_sR, hJ_sI, hJ_sR, hI_eq, hI_ne, hI_nk]; first | assumption | exact okv3 (by assumption)))) | (focus (refine ⟨_, rfl, ?_⟩; (first | assumption | rfl | exact True.intro | exact Nat.le_of_ble_eq_true rfl | exact Or.inl rfl | exact Or.inr rfl | exact okv3 (by assumption) | decide | (focus (simp (disch := omega) only [nI_clamp, vp_in_nI, hT_sI, hR_sI, hT_sJ, hR_sJ, hT_sR, hI_sJ, hI_sR, hJ_sI, hJ_sR, hI_eq, hI_ne, hI_nk]; done)) | (focus (simp (disch := omega) only [nI_clamp, vp_in_nI, hT_sI, hR_sI, hT_sJ, hR_sJ, hT_sR, hI_sJ, hI_sR, hJ_sI, hJ_sR, hI_eq, hI_ne, hI_nk]; first | assumption | exact okv3 (by assumption)))))))))
      exact k c1 f1 2 _ (Or.inr ⟨_, rfl, by decide, rfl⟩)
theorem h_layBack {C : Nat → Prop} {h h1 : CH} {o : Nat} {x y : Int32} {r1 : List Value ⊕ String} {Q : QT} (a13 : (hT h 300).1 = 13) (cls : Cls C wX9_layBack [.ref 300, .int x, .int y] h r1 h1) (e : EOK Llb r1) (ho0 : hT h o = (101, 1)) (hco : ¬ C o) (k : CloC C h1 → Fr C h h1 → ∀ kv h2, HR (fun v => v.toInt64) o Llb r1 h1 kv h2 → Q (.inl [.int kv]) h2) : wL_layBack [.ref 300, .int x, .int y, .ref o] h Q := by
  refine wgo (fun X hX => ?_) (by show 4 ≤ 5; decide)
  (refine go mL_layBack hX [] 400 ?_; conv => whnf)
  repeat (first | (refine rs ?_; conv => whnf) | unfold k_call | ((with_reducible refine And.intro ?_ ?_); (first | (first | assumption | rfl | exact True.intro | exact Nat.le_of_ble_eq_true rfl | exact Or.inl rfl | exact Or.inr rfl | exact okv3 (by assumption) | decide | (focus (simp (disch := omega) only [a13, nI_clamp, vp_in_nI, hT_sI, hR_sI, hT_sJ, hR_sJ, hT_sR, hI_sJ, hI_sR, hJ_sI, hJ_sR, hI_eq, hI_ne, hI_nk]; done)) | (focus (simp (disch := omega) only [a13, nI_clamp, vp_in_nI, hT_sI, hR_sI, hT_sJ, hR_sJ, hT_sR, hI_sJ, hI_sR, hJ_sI, hJ_sR, hI_eq, hI_ne, hI_nk]; first | assumption | exact okv3 (by assumption)))) | (focus (refine ⟨_, rfl, ?_⟩; (first | assumption | rfl | exact True.intro | exact Nat.le_of_ble_eq_true rfl | exact Or.inl rfl | exact Or.inr rfl | exact okv3 (by assumption) | decide | (focus (simp (disch := omega) only [a13, nI_clamp, vp_in_nI, hT_sI, hR_sI, hT_sJ, hR_sJ, hT_sR, hI_sJ, hI_sR, hJ_sI, hJ_sR, hI_eq, hI_ne, hI_nk]; done)) | (focus (simp (disch := omega) only [a13, nI_clamp, vp_in_nI, hT_sI, hR_sI, hT_sJ, hR_sJ, hT_sR, hI_sJ, hI_sR, hJ_sI, hJ_sR, hI_eq, hI_ne, hI_nk]; first | assumption | exact okv3 (by assumption)))))))))
  refine cls _ (fun c1 f1 => ?_)
  have ho : hT h1 o = (101, 1) := (f1.2 o hco).1.trans ho0
  have ho1 : (hT h1 o).1 = 101 := by rw [ho]
  have ho2 : vp_in 0 (hT h1 o).2 := vp0 ho
  cases r1 with
  | inl vs =>
    obtain ⟨w, rfl⟩ := e
    repeat (first | (refine rs ?_; conv => whnf) | unfold k_call | ((with_reducible refine And.intro ?_ ?_); (first | (first | assumption | rfl | exact True.intro | exact Nat.le_of_ble_eq_true rfl | exact Or.inl rfl | exact Or.inr rfl | exact okv3 (by assumption) | decide | (focus (simp (disch := omega) only [nI_clamp, vp_in_nI, hT_sI, hR_sI, hT_sJ, hR_sJ, hT_sR, hI_sJ, hI_sR, hJ_sI, hJ_sR, hI_eq, hI_ne, hI_nk]; done)) | (focus (simp (disch := omega) only [nI_clamp, vp_in_nI, hT_sI, hR_sI, hT_sJ, hR_sJ, hT_sR, hI_sJ, hI_sR, hJ_sI, hJ_sR, hI_eq, hI_ne, hI_nk]; first | assumption | exact okv3 (by assumption)))) | (focus (refine ⟨_, rfl, ?_⟩; (first | assumption | rfl | exact True.intro | exact Nat.le_of_ble_eq_true rfl | exact Or.inl rfl | exact Or.inr rfl | exact okv3 (by assumption) | decide | (focus (simp (disch := omega) only [nI_clamp, vp_in_nI, hT_sI, hR_sI, hT_sJ, hR_sJ, hT_sR, hI_sJ, hI_sR, hJ_sI, hJ_sR, hI_eq, hI_ne, hI_nk]; done)) | (focus (simp (disch := omega) only [nI_clamp, vp_in_nI, hT_sI, hR_sI, hT_sJ, hR_sJ, hT_sR, hI_sJ, hI_sR, hJ_sI, hJ_sR, hI_eq, hI_ne, hI_nk]; first | assumption | exact okv3 (by assumption)))))))))
    exact k c1 f1 0 _ (Or.inl ⟨w, rfl, rfl, rfl⟩)
  | inr E =>
    obtain ⟨c, hc⟩ := e
    simp only [Llb, List.mem_cons, List.not_mem_nil, or_false, Prod.mk.injEq] at hc
    rcases hc with ⟨rfl, rfl⟩ | ⟨rfl, rfl⟩
    · show match ([("java/lang/IndexOutOfBoundsException", 15, 4), ("java/lang/UnsupportedOperationException", 19, 4)] : List (String × Nat × Nat)).find? (fun q => q.1 == "java/lang/IndexOutOfBoundsException") with | some q => _ | none => False
      rw [show ([("java/lang/IndexOutOfBoundsException", 15, 4), ("java/lang/UnsupportedOperationException", 19, 4)] : List (String × Nat × Nat)).find? (fun q => q.1 == "java/lang/IndexOutOfBoundsException") = some ("java/lang/IndexOutOfBoundsException", 15, 4) from by decide]
      intro cs ss g1 g2
      (refine go mL_layBack hX [] 400 ?_; conv => whnf)
      repeat (first | (refine rs ?_; conv => whnf) | unfold k_call | ((with_reducible refine And.intro ?_ ?_); (first | (first | assumption | rfl | exact True.intro | exact Nat.le_of_ble_eq_true rfl | exact Or.inl rfl | exact Or.inr rfl | exact okv3 (by assumption) | decide | (focus (simp (disch := omega) only [nI_clamp, vp_in_nI, hT_sI, hR_sI, hT_sJ, hR_sJ, hT_sR, hI_sJ, hI_sR, hJ_sI, hJ_sR, hI_eq, hI_ne, hI_nk]; done)) | (focus (simp (disch := omega) only [nI_clamp, vp_in_nI, hT_sI, hR_sI, hT_sJ, hR_sJ, hT_sR, hI_sJ, hI_sR, hJ_sI, hJ_sR, hI_eq, hI_ne, hI_nk]; first | assumption | exact okv3 (by assumption)))) | (focus (refine ⟨_, rfl, ?_⟩; (first | assumption | rfl | exact True.intro | exact Nat.le_of_ble_eq_true rfl | exact Or.inl rfl | exact Or.inr rfl | exact okv3 (by assumption) | decide | (focus (simp (disch := omega) only [nI_clamp, vp_in_nI, hT_sI, hR_sI, hT_sJ, hR_sJ, hT_sR, hI_sJ, hI_sR, hJ_sI, hJ_sR, hI_eq, hI_ne, hI_nk]; done)) | (focus (simp (disch := omega) only [nI_clamp, vp_in_nI, hT_sI, hR_sI, hT_sJ, hR_sJ, hT_sR, hI_sJ, hI_sR, hJ_sI, hJ_sR, hI_eq, hI_ne, hI_nk]; first | assumption | exact okv3 (by assumption)))))))))
      exact k c1 f1 1 _ (Or.inr ⟨_, rfl, by decide, rfl⟩)
    · show match ([("java/lang/IndexOutOfBoundsException", 15, 4), ("java/lang/UnsupportedOperationException", 19, 4)] : List (String × Nat × Nat)).find? (fun q => q.1 == "java/lang/UnsupportedOperationException") with | some q => _ | none => False
      rw [show ([("java/lang/IndexOutOfBoundsException", 15, 4), ("java/lang/UnsupportedOperationException", 19, 4)] : List (String × Nat × Nat)).find? (fun q => q.1 == "java/lang/UnsupportedOperationException") = some ("java/lang/UnsupportedOperationException", 19, 4) from by decide]
      intro cs ss g1 g2
      (refine go mL_layBack hX [] 400 ?_; conv => whnf)
      repeat (first | (refine rs ?_; conv => whnf) | unfold k_call | ((with_reducible refine And.intro ?_ ?_); (first | (first | assumption | rfl | exact True.intro | exact Nat.le_of_ble_eq_true rfl | exact Or.inl rfl | exact Or.inr rfl | exact okv3 (by assumption) | decide | (focus (simp (disch := omega) only [nI_clamp, vp_in_nI, hT_sI, hR_sI, hT_sJ, hR_sJ, hT_sR, hI_sJ, hI_sR, hJ_sI, hJ_sR, hI_eq, hI_ne, hI_nk]; done)) | (focus (simp (disch := omega) only [nI_clamp, vp_in_nI, hT_sI, hR_sI, hT_sJ, hR_sJ, hT_sR, hI_sJ, hI_sR, hJ_sI, hJ_sR, hI_eq, hI_ne, hI_nk]; first | assumption | exact okv3 (by assumption)))) | (focus (refine ⟨_, rfl, ?_⟩; (first | assumption | rfl | exact True.intro | exact Nat.le_of_ble_eq_true rfl | exact Or.inl rfl | exact Or.inr rfl | exact okv3 (by assumption) | decide | (focus (simp (disch := omega) only [nI_clamp, vp_in_nI, hT_sI, hR_sI, hT_sJ, hR_sJ, hT_sR, hI_sJ, hI_sR, hJ_sI, hJ_sR, hI_eq, hI_ne, hI_nk]; done)) | (focus (simp (disch := omega) only [nI_clamp, vp_in_nI, hT_sI, hR_sI, hT_sJ, hR_sJ, hT_sR, hI_sJ, hI_sR, hJ_sI, hJ_sR, hI_eq, hI_ne, hI_nk]; first | assumption | exact okv3 (by assumption)))))))))
      exact k c1 f1 2 _ (Or.inr ⟨_, rfl, by decide, rfl⟩)
theorem h_getWear {C : Nat → Prop} {h h1 : CH} {o : Nat} {x : Int32} {r1 : List Value ⊕ String} {Q : QT} (a13 : (hT h 300).1 = 13) (cls : Cls C wX9_getWear [.ref 300, .int x] h r1 h1) (e : EOK Liae r1) (ho0 : hT h o = (101, 1)) (hco : ¬ C o) (k : CloC C h1 → Fr C h h1 → ∀ kv h2, HR (fun v => v.toInt64) o Liae r1 h1 kv h2 → Q (.inl [.int kv]) h2) : wL_getWear [.ref 300, .int x, .ref o] h Q := by
  refine wgo (fun X hX => ?_) (by show 3 ≤ 4; decide)
  (refine go mL_getWear hX [] 400 ?_; conv => whnf)
  repeat (first | (refine rs ?_; conv => whnf) | unfold k_call | ((with_reducible refine And.intro ?_ ?_); (first | (first | assumption | rfl | exact True.intro | exact Nat.le_of_ble_eq_true rfl | exact Or.inl rfl | exact Or.inr rfl | exact okv3 (by assumption) | decide | (focus (simp (disch := omega) only [a13, nI_clamp, vp_in_nI, hT_sI, hR_sI, hT_sJ, hR_sJ, hT_sR, hI_sJ, hI_sR, hJ_sI, hJ_sR, hI_eq, hI_ne, hI_nk]; done)) | (focus (simp (disch := omega) only [a13, nI_clamp, vp_in_nI, hT_sI, hR_sI, hT_sJ, hR_sJ, hT_sR, hI_sJ, hI_sR, hJ_sI, hJ_sR, hI_eq, hI_ne, hI_nk]; first | assumption | exact okv3 (by assumption)))) | (focus (refine ⟨_, rfl, ?_⟩; (first | assumption | rfl | exact True.intro | exact Nat.le_of_ble_eq_true rfl | exact Or.inl rfl | exact Or.inr rfl | exact okv3 (by assumption) | decide | (focus (simp (disch := omega) only [a13, nI_clamp, vp_in_nI, hT_sI, hR_sI, hT_sJ, hR_sJ, hT_sR, hI_sJ, hI_sR, hJ_sI, hJ_sR, hI_eq, hI_ne, hI_nk]; done)) | (focus (simp (disch := omega) only [a13, nI_clamp, vp_in_nI, hT_sI, hR_sI, hT_sJ, hR_sJ, hT_sR, hI_sJ, hI_sR, hJ_sI, hJ_sR, hI_eq, hI_ne, hI_nk]; first | assumption | exact okv3 (by assumption)))))))))
  refine cls _ (fun c1 f1 => ?_)
  have ho : hT h1 o = (101, 1) := (f1.2 o hco).1.trans ho0
  have ho1 : (hT h1 o).1 = 101 := by rw [ho]
  have ho2 : vp_in 0 (hT h1 o).2 := vp0 ho
  cases r1 with
  | inl vs =>
    obtain ⟨w, rfl⟩ := e
    repeat (first | (refine rs ?_; conv => whnf) | unfold k_call | ((with_reducible refine And.intro ?_ ?_); (first | (first | assumption | rfl | exact True.intro | exact Nat.le_of_ble_eq_true rfl | exact Or.inl rfl | exact Or.inr rfl | exact okv3 (by assumption) | decide | (focus (simp (disch := omega) only [nI_clamp, vp_in_nI, hT_sI, hR_sI, hT_sJ, hR_sJ, hT_sR, hI_sJ, hI_sR, hJ_sI, hJ_sR, hI_eq, hI_ne, hI_nk]; done)) | (focus (simp (disch := omega) only [nI_clamp, vp_in_nI, hT_sI, hR_sI, hT_sJ, hR_sJ, hT_sR, hI_sJ, hI_sR, hJ_sI, hJ_sR, hI_eq, hI_ne, hI_nk]; first | assumption | exact okv3 (by assumption)))) | (focus (refine ⟨_, rfl, ?_⟩; (first | assumption | rfl | exact True.intro | exact Nat.le_of_ble_eq_true rfl | exact Or.inl rfl | exact Or.inr rfl | exact okv3 (by assumption) | decide | (focus (simp (disch := omega) only [nI_clamp, vp_in_nI, hT_sI, hR_sI, hT_sJ, hR_sJ, hT_sR, hI_sJ, hI_sR, hJ_sI, hJ_sR, hI_eq, hI_ne, hI_nk]; done)) | (focus (simp (disch := omega) only [nI_clamp, vp_in_nI, hT_sI, hR_sI, hT_sJ, hR_sJ, hT_sR, hI_sJ, hI_sR, hJ_sI, hJ_sR, hI_eq, hI_ne, hI_nk]; first | assumption | exact okv3 (by assumption)))))))))
    exact k c1 f1 0 _ (Or.inl ⟨w, rfl, rfl, rfl⟩)
  | inr E =>
    obtain ⟨c, hc⟩ := e
    simp only [Liae, List.mem_cons, List.not_mem_nil, or_false, Prod.mk.injEq] at hc
    obtain ⟨rfl, rfl⟩ := hc
    show match ([("java/lang/IllegalArgumentException", 13, 3)] : List (String × Nat × Nat)).find? (fun q => q.1 == "java/lang/IllegalArgumentException") with | some q => _ | none => False
    rw [show ([("java/lang/IllegalArgumentException", 13, 3)] : List (String × Nat × Nat)).find? (fun q => q.1 == "java/lang/IllegalArgumentException") = some ("java/lang/IllegalArgumentException", 13, 3) from by decide]
    intro cs ss g1 g2
    (refine go mL_getWear hX [] 400 ?_; conv => whnf)
    repeat (first | (refine rs ?_; conv => whnf) | unfold k_call | ((with_reducible refine And.intro ?_ ?_); (first | (first | assumption | rfl | exact True.intro | exact Nat.le_of_ble_eq_true rfl | exact Or.inl rfl | exact Or.inr rfl | exact okv3 (by assumption) | decide | (focus (simp (disch := omega) only [nI_clamp, vp_in_nI, hT_sI, hR_sI, hT_sJ, hR_sJ, hT_sR, hI_sJ, hI_sR, hJ_sI, hJ_sR, hI_eq, hI_ne, hI_nk]; done)) | (focus (simp (disch := omega) only [nI_clamp, vp_in_nI, hT_sI, hR_sI, hT_sJ, hR_sJ, hT_sR, hI_sJ, hI_sR, hJ_sI, hJ_sR, hI_eq, hI_ne, hI_nk]; first | assumption | exact okv3 (by assumption)))) | (focus (refine ⟨_, rfl, ?_⟩; (first | assumption | rfl | exact True.intro | exact Nat.le_of_ble_eq_true rfl | exact Or.inl rfl | exact Or.inr rfl | exact okv3 (by assumption) | decide | (focus (simp (disch := omega) only [nI_clamp, vp_in_nI, hT_sI, hR_sI, hT_sJ, hR_sJ, hT_sR, hI_sJ, hI_sR, hJ_sI, hJ_sR, hI_eq, hI_ne, hI_nk]; done)) | (focus (simp (disch := omega) only [nI_clamp, vp_in_nI, hT_sI, hR_sI, hT_sJ, hR_sJ, hT_sR, hI_sJ, hI_sR, hJ_sI, hJ_sR, hI_eq, hI_ne, hI_nk]; first | assumption | exact okv3 (by assumption)))))))))
    exact k c1 f1 1 _ (Or.inr ⟨_, rfl, by decide, rfl⟩)
theorem h_getBill {C : Nat → Prop} {h h1 : CH} {o : Nat} {x : Int32} {r1 : List Value ⊕ String} {Q : QT} (a13 : (hT h 300).1 = 13) (cls : Cls C wX9_getBill [.ref 300, .int x] h r1 h1) (e : EOKL Liae r1) (ho0 : hT h o = (101, 1)) (hco : ¬ C o) (k : CloC C h1 → Fr C h h1 → ∀ kv h2, HRL o Liae r1 h1 kv h2 → Q (.inl [.int kv]) h2) : wL_getBill [.ref 300, .int x, .ref o] h Q := by
  refine wgo (fun X hX => ?_) (by show 3 ≤ 4; decide)
  (refine go mL_getBill hX [] 400 ?_; conv => whnf)
  repeat (first | (refine rs ?_; conv => whnf) | unfold k_call | ((with_reducible refine And.intro ?_ ?_); (first | (first | assumption | rfl | exact True.intro | exact Nat.le_of_ble_eq_true rfl | exact Or.inl rfl | exact Or.inr rfl | exact okv3 (by assumption) | decide | (focus (simp (disch := omega) only [a13, nI_clamp, vp_in_nI, hT_sI, hR_sI, hT_sJ, hR_sJ, hT_sR, hI_sJ, hI_sR, hJ_sI, hJ_sR, hI_eq, hI_ne, hI_nk]; done)) | (focus (simp (disch := omega) only [a13, nI_clamp, vp_in_nI, hT_sI, hR_sI, hT_sJ, hR_sJ, hT_sR, hI_sJ, hI_sR, hJ_sI, hJ_sR, hI_eq, hI_ne, hI_nk]; first | assumption | exact okv3 (by assumption)))) | (focus (refine ⟨_, rfl, ?_⟩; (first | assumption | rfl | exact True.intro | exact Nat.le_of_ble_eq_true rfl | exact Or.inl rfl | exact Or.inr rfl | exact okv3 (by assumption) | decide | (focus (simp (disch := omega) only [a13, nI_clamp, vp_in_nI, hT_sI, hR_sI, hT_sJ, hR_sJ, hT_sR, hI_sJ, hI_sR, hJ_sI, hJ_sR, hI_eq, hI_ne, hI_nk]; done)) | (focus (simp (disch := omega) only [a13, nI_clamp, vp_in_nI, hT_sI, hR_sI, hT_sJ, hR_sJ, hT_sR, hI_sJ, hI_sR, hJ_sI, hJ_sR, hI_eq, hI_ne, hI_nk]; first | assumption | exact okv3 (by assumption)))))))))
  refine cls _ (fun c1 f1 => ?_)
  have ho : hT h1 o = (101, 1) := (f1.2 o hco).1.trans ho0
  have ho1 : (hT h1 o).1 = 101 := by rw [ho]
  have ho2 : vp_in 0 (hT h1 o).2 := vp0 ho
  cases r1 with
  | inl vs =>
    obtain ⟨w, rfl⟩ := e
    repeat (first | (refine rs ?_; conv => whnf) | unfold k_call | ((with_reducible refine And.intro ?_ ?_); (first | (first | assumption | rfl | exact True.intro | exact Nat.le_of_ble_eq_true rfl | exact Or.inl rfl | exact Or.inr rfl | exact okv3 (by assumption) | decide | (focus (simp (disch := omega) only [nI_clamp, vp_in_nI, hT_sI, hR_sI, hT_sJ, hR_sJ, hT_sR, hI_sJ, hI_sR, hJ_sI, hJ_sR, hI_eq, hI_ne, hI_nk]; done)) | (focus (simp (disch := omega) only [nI_clamp, vp_in_nI, hT_sI, hR_sI, hT_sJ, hR_sJ, hT_sR, hI_sJ, hI_sR, hJ_sI, hJ_sR, hI_eq, hI_ne, hI_nk]; first | assumption | exact okv3 (by assumption)))) | (focus (refine ⟨_, rfl, ?_⟩; (first | assumption | rfl | exact True.intro | exact Nat.le_of_ble_eq_true rfl | exact Or.inl rfl | exact Or.inr rfl | exact okv3 (by assumption) | decide | (focus (simp (disch := omega) only [nI_clamp, vp_in_nI, hT_sI, hR_sI, hT_sJ, hR_sJ, hT_sR, hI_sJ, hI_sR, hJ_sI, hJ_sR, hI_eq, hI_ne, hI_nk]; done)) | (focus (simp (disch := omega) only [nI_clamp, vp_in_nI, hT_sI, hR_sI, hT_sJ, hR_sJ, hT_sR, hI_sJ, hI_sR, hJ_sI, hJ_sR, hI_eq, hI_ne, hI_nk]; first | assumption | exact okv3 (by assumption)))))))))
    exact k c1 f1 0 _ (Or.inl ⟨w, rfl, rfl, rfl⟩)
  | inr E =>
    obtain ⟨c, hc⟩ := e
    simp only [Liae, List.mem_cons, List.not_mem_nil, or_false, Prod.mk.injEq] at hc
    obtain ⟨rfl, rfl⟩ := hc
    show match ([("java/lang/IllegalArgumentException", 12, 3)] : List (String × Nat × Nat)).find? (fun q => q.1 == "java/lang/IllegalArgumentException") with | some q => _ | none => False
    rw [show ([("java/lang/IllegalArgumentException", 12, 3)] : List (String × Nat × Nat)).find? (fun q => q.1 == "java/lang/IllegalArgumentException") = some ("java/lang/IllegalArgumentException", 12, 3) from by decide]
    intro cs ss g1 g2
    (refine go mL_getBill hX [] 400 ?_; conv => whnf)
    repeat (first | (refine rs ?_; conv => whnf) | unfold k_call | ((with_reducible refine And.intro ?_ ?_); (first | (first | assumption | rfl | exact True.intro | exact Nat.le_of_ble_eq_true rfl | exact Or.inl rfl | exact Or.inr rfl | exact okv3 (by assumption) | decide | (focus (simp (disch := omega) only [nI_clamp, vp_in_nI, hT_sI, hR_sI, hT_sJ, hR_sJ, hT_sR, hI_sJ, hI_sR, hJ_sI, hJ_sR, hI_eq, hI_ne, hI_nk]; done)) | (focus (simp (disch := omega) only [nI_clamp, vp_in_nI, hT_sI, hR_sI, hT_sJ, hR_sJ, hT_sR, hI_sJ, hI_sR, hJ_sI, hJ_sR, hI_eq, hI_ne, hI_nk]; first | assumption | exact okv3 (by assumption)))) | (focus (refine ⟨_, rfl, ?_⟩; (first | assumption | rfl | exact True.intro | exact Nat.le_of_ble_eq_true rfl | exact Or.inl rfl | exact Or.inr rfl | exact okv3 (by assumption) | decide | (focus (simp (disch := omega) only [nI_clamp, vp_in_nI, hT_sI, hR_sI, hT_sJ, hR_sJ, hT_sR, hI_sJ, hI_sR, hJ_sI, hJ_sR, hI_eq, hI_ne, hI_nk]; done)) | (focus (simp (disch := omega) only [nI_clamp, vp_in_nI, hT_sI, hR_sI, hT_sJ, hR_sJ, hT_sR, hI_sJ, hI_sR, hJ_sI, hJ_sR, hI_eq, hI_ne, hI_nk]; first | assumption | exact okv3 (by assumption)))))))))
    exact k c1 f1 1 _ (Or.inr ⟨_, rfl, by decide, rfl⟩)
theorem h_missesBy {C : Nat → Prop} {h h1 : CH} {o : Nat} {x y : Int32} {r1 : List Value ⊕ String} {Q : QT} (a13 : (hT h 300).1 = 13) (cls : Cls C wX9_missesBy [.ref 300, .int x, .int y] h r1 h1) (e : EOK Liae r1) (ho0 : hT h o = (101, 1)) (hco : ¬ C o) (k : CloC C h1 → Fr C h h1 → ∀ kv h2, HR (fun v => v.toInt64) o Liae r1 h1 kv h2 → Q (.inl [.int kv]) h2) : wL_missesBy [.ref 300, .int x, .int y, .ref o] h Q := by
  refine wgo (fun X hX => ?_) (by show 4 ≤ 5; decide)
  (refine go mL_missesBy hX [] 400 ?_; conv => whnf)
  repeat (first | (refine rs ?_; conv => whnf) | unfold k_call | ((with_reducible refine And.intro ?_ ?_); (first | (first | assumption | rfl | exact True.intro | exact Nat.le_of_ble_eq_true rfl | exact Or.inl rfl | exact Or.inr rfl | exact okv3 (by assumption) | decide | (focus (simp (disch := omega) only [a13, nI_clamp, vp_in_nI, hT_sI, hR_sI, hT_sJ, hR_sJ, hT_sR, hI_sJ, hI_sR, hJ_sI, hJ_sR, hI_eq, hI_ne, hI_nk]; done)) | (focus (simp (disch := omega) only [a13, nI_clamp, vp_in_nI, hT_sI, hR_sI, hT_sJ, hR_sJ, hT_sR, hI_sJ, hI_sR, hJ_sI, hJ_sR, hI_eq, hI_ne, hI_nk]; first | assumption | exact okv3 (by assumption)))) | (focus (refine ⟨_, rfl, ?_⟩; (first | assumption | rfl | exact True.intro | exact Nat.le_of_ble_eq_true rfl | exact Or.inl rfl | exact Or.inr rfl | exact okv3 (by assumption) | decide | (focus (simp (disch := omega) only [a13, nI_clamp, vp_in_nI, hT_sI, hR_sI, hT_sJ, hR_sJ, hT_sR, hI_sJ, hI_sR, hJ_sI, hJ_sR, hI_eq, hI_ne, hI_nk]; done)) | (focus (simp (disch := omega) only [a13, nI_clamp, vp_in_nI, hT_sI, hR_sI, hT_sJ, hR_sJ, hT_sR, hI_sJ, hI_sR, hJ_sI, hJ_sR, hI_eq, hI_ne, hI_nk]; first | assumption | exact okv3 (by assumption)))))))))
  refine cls _ (fun c1 f1 => ?_)
  have ho : hT h1 o = (101, 1) := (f1.2 o hco).1.trans ho0
  have ho1 : (hT h1 o).1 = 101 := by rw [ho]
  have ho2 : vp_in 0 (hT h1 o).2 := vp0 ho
  cases r1 with
  | inl vs =>
    obtain ⟨w, rfl⟩ := e
    repeat (first | (refine rs ?_; conv => whnf) | unfold k_call | ((with_reducible refine And.intro ?_ ?_); (first | (first | assumption | rfl | exact True.intro | exact Nat.le_of_ble_eq_true rfl | exact Or.inl rfl | exact Or.inr rfl | exact okv3 (by assumption) | decide | (focus (simp (disch := omega) only [nI_clamp, vp_in_nI, hT_sI, hR_sI, hT_sJ, hR_sJ, hT_sR, hI_sJ, hI_sR, hJ_sI, hJ_sR, hI_eq, hI_ne, hI_nk]; done)) | (focus (simp (disch := omega) only [nI_clamp, vp_in_nI, hT_sI, hR_sI, hT_sJ, hR_sJ, hT_sR, hI_sJ, hI_sR, hJ_sI, hJ_sR, hI_eq, hI_ne, hI_nk]; first | assumption | exact okv3 (by assumption)))) | (focus (refine ⟨_, rfl, ?_⟩; (first | assumption | rfl | exact True.intro | exact Nat.le_of_ble_eq_true rfl | exact Or.inl rfl | exact Or.inr rfl | exact okv3 (by assumption) | decide | (focus (simp (disch := omega) only [nI_clamp, vp_in_nI, hT_sI, hR_sI, hT_sJ, hR_sJ, hT_sR, hI_sJ, hI_sR, hJ_sI, hJ_sR, hI_eq, hI_ne, hI_nk]; done)) | (focus (simp (disch := omega) only [nI_clamp, vp_in_nI, hT_sI, hR_sI, hT_sJ, hR_sJ, hT_sR, hI_sJ, hI_sR, hJ_sI, hJ_sR, hI_eq, hI_ne, hI_nk]; first | assumption | exact okv3 (by assumption)))))))))
    exact k c1 f1 0 _ (Or.inl ⟨w, rfl, rfl, rfl⟩)
  | inr E =>
    obtain ⟨c, hc⟩ := e
    simp only [Liae, List.mem_cons, List.not_mem_nil, or_false, Prod.mk.injEq] at hc
    obtain ⟨rfl, rfl⟩ := hc
    show match ([("java/lang/IllegalArgumentException", 15, 4)] : List (String × Nat × Nat)).find? (fun q => q.1 == "java/lang/IllegalArgumentException") with | some q => _ | none => False
    rw [show ([("java/lang/IllegalArgumentException", 15, 4)] : List (String × Nat × Nat)).find? (fun q => q.1 == "java/lang/IllegalArgumentException") = some ("java/lang/IllegalArgumentException", 15, 4) from by decide]
    intro cs ss g1 g2
    (refine go mL_missesBy hX [] 400 ?_; conv => whnf)
    repeat (first | (refine rs ?_; conv => whnf) | unfold k_call | ((with_reducible refine And.intro ?_ ?_); (first | (first | assumption | rfl | exact True.intro | exact Nat.le_of_ble_eq_true rfl | exact Or.inl rfl | exact Or.inr rfl | exact okv3 (by assumption) | decide | (focus (simp (disch := omega) only [nI_clamp, vp_in_nI, hT_sI, hR_sI, hT_sJ, hR_sJ, hT_sR, hI_sJ, hI_sR, hJ_sI, hJ_sR, hI_eq, hI_ne, hI_nk]; done)) | (focus (simp (disch := omega) only [nI_clamp, vp_in_nI, hT_sI, hR_sI, hT_sJ, hR_sJ, hT_sR, hI_sJ, hI_sR, hJ_sI, hJ_sR, hI_eq, hI_ne, hI_nk]; first | assumption | exact okv3 (by assumption)))) | (focus (refine ⟨_, rfl, ?_⟩; (first | assumption | rfl | exact True.intro | exact Nat.le_of_ble_eq_true rfl | exact Or.inl rfl | exact Or.inr rfl | exact okv3 (by assumption) | decide | (focus (simp (disch := omega) only [nI_clamp, vp_in_nI, hT_sI, hR_sI, hT_sJ, hR_sJ, hT_sR, hI_sJ, hI_sR, hJ_sI, hJ_sR, hI_eq, hI_ne, hI_nk]; done)) | (focus (simp (disch := omega) only [nI_clamp, vp_in_nI, hT_sI, hR_sI, hT_sJ, hR_sJ, hT_sR, hI_sJ, hI_sR, hJ_sI, hJ_sR, hI_eq, hI_ne, hI_nk]; first | assumption | exact okv3 (by assumption)))))))))
    exact k c1 f1 1 _ (Or.inr ⟨_, rfl, by decide, rfl⟩)
theorem h_framesFor {C : Nat → Prop} {h h1 : CH} {o : Nat} {x : Int32} {r1 : List Value ⊕ String} {Q : QT} (a13 : (hT h 300).1 = 13) (cls : Cls C wX9_framesFor [.ref 300, .int x] h r1 h1) (e : EOK Liae r1) (ho0 : hT h o = (101, 1)) (hco : ¬ C o) (k : CloC C h1 → Fr C h h1 → ∀ kv h2, HR (fun v => v.toInt64) o Liae r1 h1 kv h2 → Q (.inl [.int kv]) h2) : wL_framesFor [.ref 300, .int x, .ref o] h Q := by
  refine wgo (fun X hX => ?_) (by show 3 ≤ 4; decide)
  (refine go mL_framesFor hX [] 400 ?_; conv => whnf)
  repeat (first | (refine rs ?_; conv => whnf) | unfold k_call | ((with_reducible refine And.intro ?_ ?_); (first | (first | assumption | rfl | exact True.intro | exact Nat.le_of_ble_eq_true rfl | exact Or.inl rfl | exact Or.inr rfl | exact okv3 (by assumption) | decide | (focus (simp (disch := omega) only [a13, nI_clamp, vp_in_nI, hT_sI, hR_sI, hT_sJ, hR_sJ, hT_sR, hI_sJ, hI_sR, hJ_sI, hJ_sR, hI_eq, hI_ne, hI_nk]; done)) | (focus (simp (disch := omega) only [a13, nI_clamp, vp_in_nI, hT_sI, hR_sI, hT_sJ, hR_sJ, hT_sR, hI_sJ, hI_sR, hJ_sI, hJ_sR, hI_eq, hI_ne, hI_nk]; first | assumption | exact okv3 (by assumption)))) | (focus (refine ⟨_, rfl, ?_⟩; (first | assumption | rfl | exact True.intro | exact Nat.le_of_ble_eq_true rfl | exact Or.inl rfl | exact Or.inr rfl | exact okv3 (by assumption) | decide | (focus (simp (disch := omega) only [a13, nI_clamp, vp_in_nI, hT_sI, hR_sI, hT_sJ, hR_sJ, hT_sR, hI_sJ, hI_sR, hJ_sI, hJ_sR, hI_eq, hI_ne, hI_nk]; done)) | (focus (simp (disch := omega) only [a13, nI_clamp, vp_in_nI, hT_sI, hR_sI, hT_sJ, hR_sJ, hT_sR, hI_sJ, hI_sR, hJ_sI, hJ_sR, hI_eq, hI_ne, hI_nk]; first | assumption | exact okv3 (by assumption)))))))))
  refine cls _ (fun c1 f1 => ?_)
  have ho : hT h1 o = (101, 1) := (f1.2 o hco).1.trans ho0
  have ho1 : (hT h1 o).1 = 101 := by rw [ho]
  have ho2 : vp_in 0 (hT h1 o).2 := vp0 ho
  cases r1 with
  | inl vs =>
    obtain ⟨w, rfl⟩ := e
    repeat (first | (refine rs ?_; conv => whnf) | unfold k_call | ((with_reducible refine And.intro ?_ ?_); (first | (first | assumption | rfl | exact True.intro | exact Nat.le_of_ble_eq_true rfl | exact Or.inl rfl | exact Or.inr rfl | exact okv3 (by assumption) | decide | (focus (simp (disch := omega) only [nI_clamp, vp_in_nI, hT_sI, hR_sI, hT_sJ, hR_sJ, hT_sR, hI_sJ, hI_sR, hJ_sI, hJ_sR, hI_eq, hI_ne, hI_nk]; done)) | (focus (simp (disch := omega) only [nI_clamp, vp_in_nI, hT_sI, hR_sI, hT_sJ, hR_sJ, hT_sR, hI_sJ, hI_sR, hJ_sI, hJ_sR, hI_eq, hI_ne, hI_nk]; first | assumption | exact okv3 (by assumption)))) | (focus (refine ⟨_, rfl, ?_⟩; (first | assumption | rfl | exact True.intro | exact Nat.le_of_ble_eq_true rfl | exact Or.inl rfl | exact Or.inr rfl | exact okv3 (by assumption) | decide | (focus (simp (disch := omega) only [nI_clamp, vp_in_nI, hT_sI, hR_sI, hT_sJ, hR_sJ, hT_sR, hI_sJ, hI_sR, hJ_sI, hJ_sR, hI_eq, hI_ne, hI_nk]; done)) | (focus (simp (disch := omega) only [nI_clamp, vp_in_nI, hT_sI, hR_sI, hT_sJ, hR_sJ, hT_sR, hI_sJ, hI_sR, hJ_sI, hJ_sR, hI_eq, hI_ne, hI_nk]; first | assumption | exact okv3 (by assumption)))))))))
    exact k c1 f1 0 _ (Or.inl ⟨w, rfl, rfl, rfl⟩)
  | inr E =>
    obtain ⟨c, hc⟩ := e
    simp only [Liae, List.mem_cons, List.not_mem_nil, or_false, Prod.mk.injEq] at hc
    obtain ⟨rfl, rfl⟩ := hc
    show match ([("java/lang/IllegalArgumentException", 13, 3)] : List (String × Nat × Nat)).find? (fun q => q.1 == "java/lang/IllegalArgumentException") with | some q => _ | none => False
    rw [show ([("java/lang/IllegalArgumentException", 13, 3)] : List (String × Nat × Nat)).find? (fun q => q.1 == "java/lang/IllegalArgumentException") = some ("java/lang/IllegalArgumentException", 13, 3) from by decide]
    intro cs ss g1 g2
    (refine go mL_framesFor hX [] 400 ?_; conv => whnf)
    repeat (first | (refine rs ?_; conv => whnf) | unfold k_call | ((with_reducible refine And.intro ?_ ?_); (first | (first | assumption | rfl | exact True.intro | exact Nat.le_of_ble_eq_true rfl | exact Or.inl rfl | exact Or.inr rfl | exact okv3 (by assumption) | decide | (focus (simp (disch := omega) only [nI_clamp, vp_in_nI, hT_sI, hR_sI, hT_sJ, hR_sJ, hT_sR, hI_sJ, hI_sR, hJ_sI, hJ_sR, hI_eq, hI_ne, hI_nk]; done)) | (focus (simp (disch := omega) only [nI_clamp, vp_in_nI, hT_sI, hR_sI, hT_sJ, hR_sJ, hT_sR, hI_sJ, hI_sR, hJ_sI, hJ_sR, hI_eq, hI_ne, hI_nk]; first | assumption | exact okv3 (by assumption)))) | (focus (refine ⟨_, rfl, ?_⟩; (first | assumption | rfl | exact True.intro | exact Nat.le_of_ble_eq_true rfl | exact Or.inl rfl | exact Or.inr rfl | exact okv3 (by assumption) | decide | (focus (simp (disch := omega) only [nI_clamp, vp_in_nI, hT_sI, hR_sI, hT_sJ, hR_sJ, hT_sR, hI_sJ, hI_sR, hJ_sI, hJ_sR, hI_eq, hI_ne, hI_nk]; done)) | (focus (simp (disch := omega) only [nI_clamp, vp_in_nI, hT_sI, hR_sI, hT_sJ, hR_sJ, hT_sR, hI_sJ, hI_sR, hJ_sI, hJ_sR, hI_eq, hI_ne, hI_nk]; first | assumption | exact okv3 (by assumption)))))))))
    exact k c1 f1 1 _ (Or.inr ⟨_, rfl, by decide, rfl⟩)
theorem h_getHitBits {C : Nat → Prop} {h h1 : CH} {o : Nat} {r1 : List Value ⊕ String} {Q : QT} (a13 : (hT h 300).1 = 13) (cls : Cls C wX9_getHitBits [.ref 300] h r1 h1) (e : EOK Lar r1) (ho0 : hT h o = (101, 1)) (hco : ¬ C o) (k : CloC C h1 → Fr C h h1 → ∀ kv h2, HR (fun v => v.toInt64) o Lar r1 h1 kv h2 → Q (.inl [.int kv]) h2) : wL_getHitBits [.ref 300, .ref o] h Q := by
  refine wgo (fun X hX => ?_) (by show 2 ≤ 3; decide)
  (refine go mL_getHitBits hX [] 400 ?_; conv => whnf)
  repeat (first | (refine rs ?_; conv => whnf) | unfold k_call | ((with_reducible refine And.intro ?_ ?_); (first | (first | assumption | rfl | exact True.intro | exact Nat.le_of_ble_eq_true rfl | exact Or.inl rfl | exact Or.inr rfl | exact okv3 (by assumption) | decide | (focus (simp (disch := omega) only [a13, nI_clamp, vp_in_nI, hT_sI, hR_sI, hT_sJ, hR_sJ, hT_sR, hI_sJ, hI_sR, hJ_sI, hJ_sR, hI_eq, hI_ne, hI_nk]; done)) | (focus (simp (disch := omega) only [a13, nI_clamp, vp_in_nI, hT_sI, hR_sI, hT_sJ, hR_sJ, hT_sR, hI_sJ, hI_sR, hJ_sI, hJ_sR, hI_eq, hI_ne, hI_nk]; first | assumption | exact okv3 (by assumption)))) | (focus (refine ⟨_, rfl, ?_⟩; (first | assumption | rfl | exact True.intro | exact Nat.le_of_ble_eq_true rfl | exact Or.inl rfl | exact Or.inr rfl | exact okv3 (by assumption) | decide | (focus (simp (disch := omega) only [a13, nI_clamp, vp_in_nI, hT_sI, hR_sI, hT_sJ, hR_sJ, hT_sR, hI_sJ, hI_sR, hJ_sI, hJ_sR, hI_eq, hI_ne, hI_nk]; done)) | (focus (simp (disch := omega) only [a13, nI_clamp, vp_in_nI, hT_sI, hR_sI, hT_sJ, hR_sJ, hT_sR, hI_sJ, hI_sR, hJ_sI, hJ_sR, hI_eq, hI_ne, hI_nk]; first | assumption | exact okv3 (by assumption)))))))))
  refine cls _ (fun c1 f1 => ?_)
  have ho : hT h1 o = (101, 1) := (f1.2 o hco).1.trans ho0
  have ho1 : (hT h1 o).1 = 101 := by rw [ho]
  have ho2 : vp_in 0 (hT h1 o).2 := vp0 ho
  cases r1 with
  | inl vs =>
    obtain ⟨w, rfl⟩ := e
    repeat (first | (refine rs ?_; conv => whnf) | unfold k_call | ((with_reducible refine And.intro ?_ ?_); (first | (first | assumption | rfl | exact True.intro | exact Nat.le_of_ble_eq_true rfl | exact Or.inl rfl | exact Or.inr rfl | exact okv3 (by assumption) | decide | (focus (simp (disch := omega) only [nI_clamp, vp_in_nI, hT_sI, hR_sI, hT_sJ, hR_sJ, hT_sR, hI_sJ, hI_sR, hJ_sI, hJ_sR, hI_eq, hI_ne, hI_nk]; done)) | (focus (simp (disch := omega) only [nI_clamp, vp_in_nI, hT_sI, hR_sI, hT_sJ, hR_sJ, hT_sR, hI_sJ, hI_sR, hJ_sI, hJ_sR, hI_eq, hI_ne, hI_nk]; first | assumption | exact okv3 (by assumption)))) | (focus (refine ⟨_, rfl, ?_⟩; (first | assumption | rfl | exact True.intro | exact Nat.le_of_ble_eq_true rfl | exact Or.inl rfl | exact Or.inr rfl | exact okv3 (by assumption) | decide | (focus (simp (disch := omega) only [nI_clamp, vp_in_nI, hT_sI, hR_sI, hT_sJ, hR_sJ, hT_sR, hI_sJ, hI_sR, hJ_sI, hJ_sR, hI_eq, hI_ne, hI_nk]; done)) | (focus (simp (disch := omega) only [nI_clamp, vp_in_nI, hT_sI, hR_sI, hT_sJ, hR_sJ, hT_sR, hI_sJ, hI_sR, hJ_sI, hJ_sR, hI_eq, hI_ne, hI_nk]; first | assumption | exact okv3 (by assumption)))))))))
    exact k c1 f1 0 _ (Or.inl ⟨w, rfl, rfl, rfl⟩)
  | inr E =>
    obtain ⟨c, hc⟩ := e
    simp only [Lar, List.mem_cons, List.not_mem_nil, or_false, Prod.mk.injEq] at hc
    obtain ⟨rfl, rfl⟩ := hc
    show match ([("java/lang/ArithmeticException", 12, 2)] : List (String × Nat × Nat)).find? (fun q => q.1 == "java/lang/ArithmeticException") with | some q => _ | none => False
    rw [show ([("java/lang/ArithmeticException", 12, 2)] : List (String × Nat × Nat)).find? (fun q => q.1 == "java/lang/ArithmeticException") = some ("java/lang/ArithmeticException", 12, 2) from by decide]
    intro cs ss g1 g2
    (refine go mL_getHitBits hX [] 400 ?_; conv => whnf)
    repeat (first | (refine rs ?_; conv => whnf) | unfold k_call | ((with_reducible refine And.intro ?_ ?_); (first | (first | assumption | rfl | exact True.intro | exact Nat.le_of_ble_eq_true rfl | exact Or.inl rfl | exact Or.inr rfl | exact okv3 (by assumption) | decide | (focus (simp (disch := omega) only [nI_clamp, vp_in_nI, hT_sI, hR_sI, hT_sJ, hR_sJ, hT_sR, hI_sJ, hI_sR, hJ_sI, hJ_sR, hI_eq, hI_ne, hI_nk]; done)) | (focus (simp (disch := omega) only [nI_clamp, vp_in_nI, hT_sI, hR_sI, hT_sJ, hR_sJ, hT_sR, hI_sJ, hI_sR, hJ_sI, hJ_sR, hI_eq, hI_ne, hI_nk]; first | assumption | exact okv3 (by assumption)))) | (focus (refine ⟨_, rfl, ?_⟩; (first | assumption | rfl | exact True.intro | exact Nat.le_of_ble_eq_true rfl | exact Or.inl rfl | exact Or.inr rfl | exact okv3 (by assumption) | decide | (focus (simp (disch := omega) only [nI_clamp, vp_in_nI, hT_sI, hR_sI, hT_sJ, hR_sJ, hT_sR, hI_sJ, hI_sR, hJ_sI, hJ_sR, hI_eq, hI_ne, hI_nk]; done)) | (focus (simp (disch := omega) only [nI_clamp, vp_in_nI, hT_sI, hR_sI, hT_sJ, hR_sJ, hT_sR, hI_sJ, hI_sR, hJ_sI, hJ_sR, hI_eq, hI_ne, hI_nk]; first | assumption | exact okv3 (by assumption)))))))))
    exact k c1 f1 1 _ (Or.inr ⟨_, rfl, by decide, rfl⟩)
