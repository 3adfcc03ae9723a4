/-! A CALL OF THE CLASS AND ONE OF THE REFERENCE, side by side -/
def Cls (C : Nat → Prop) (w : WT) (args : List Value) (h : CH) (r1 : List Value ⊕ String) (h1 : CH) : Prop := ∀ Q' : QT, (CloC C h1 → Fr C h h1 → Q' r1 h1) → w args h Q'
theorem cls_of {C : Nat → Prop} {w : WT} {args : List Value} {h h1 : CH} {r1 : List Value ⊕ String} (F : FrW w) (mono : ∀ av h (Q Q' : QT), (∀ r h, Q r h → Q' r h) → w av h Q → w av h Q') (G : Good C h [] args h) (ok : ∀ Q' : QT, Q' r1 h1 → w args h Q') : Cls C w args h r1 h1 := fun Q' k =>
  mono _ _ _ _ (fun r h' q => by
    obtain ⟨⟨e1, e2⟩, q2, q3, -⟩ := q
    subst e1
    subst e2
    exact k q2 q3) (F C h args h (fun r h' => r = r1 ∧ h' = h1) G (ok _ ⟨rfl, rfl⟩))
def Rfr (D : Nat → Prop) (w : WT) (args : List Value) (b : CH) (P : CH → Value → Prop) : Prop := ∀ Q' : QT, (∀ b' r, P b' r → CloC D b' → Fr D b b' → Q' (.inl [r]) b') → w args b Q'
theorem ref_of {D : Nat → Prop} {w : WT} {args : List Value} {b : CH} {P : CH → Value → Prop} (F : FrW w) (mono : ∀ av h (Q Q' : QT), (∀ r h, Q r h → Q' r h) → w av h Q → w av h Q') (G : Good D b [] args b) (ok : ∀ Q' : QT, (∀ b' r, P b' r → Q' (.inl [r]) b') → w args b Q') : Rfr D w args b P := fun Q' k =>
  mono _ _ _ _ (fun r b' q => by
    obtain ⟨⟨v, e1, e2⟩, q2, q3, -⟩ := q
    subst e1
    exact k b' v e2 q2 q3) (F D b args b (fun r b' => ∃ v, r = .inl [v] ∧ P b' v) G (ok _ (fun b' r p => ⟨r, rfl, p⟩)))
theorem good_of {C : Nat → Prop} {h : CH} {av : List Value} (c : CloC C h) (ha : ∀ v ∈ av, InC (CB C h) v) : Good C h [] av h := ⟨fun v hv => (by cases hv), ha, c, Nat.le_refl _, fun _ _ => ⟨rfl, rfl, rfl, rfl, rfl⟩⟩
theorem good0 {C : Nat → Prop} {h : CH} {a : Nat} (c : CloC C h) (ha : C a ∧ a < hN h) : Good C h [] [.ref a] h := good_of c (List.forall_mem_cons.mpr ⟨ha, fun v hv => by cases hv⟩)
theorem good1 {C : Nat → Prop} {h : CH} {a : Nat} {x : Int32} (c : CloC C h) (ha : C a ∧ a < hN h) : Good C h [] [.ref a, .int x] h := good_of c (List.forall_mem_cons.mpr ⟨ha, List.forall_mem_cons.mpr ⟨trivial, fun v hv => by cases hv⟩⟩)
theorem good2 {C : Nat → Prop} {h : CH} {a : Nat} {x y : Int32} (c : CloC C h) (ha : C a ∧ a < hN h) : Good C h [] [.ref a, .int x, .int y] h := good_of c (List.forall_mem_cons.mpr ⟨ha, List.forall_mem_cons.mpr ⟨trivial, List.forall_mem_cons.mpr ⟨trivial, fun v hv => by cases hv⟩⟩⟩)
theorem good3 {C : Nat → Prop} {h : CH} {a : Nat} {x y z : Int32} (c : CloC C h) (ha : C a ∧ a < hN h) : Good C h [] [.ref a, .int x, .int y, .int z] h := good_of c (List.forall_mem_cons.mpr ⟨ha, List.forall_mem_cons.mpr ⟨trivial, List.forall_mem_cons.mpr ⟨trivial, List.forall_mem_cons.mpr ⟨trivial, fun v hv => by cases hv⟩⟩⟩⟩)
theorem sep_c {C D : Nat → Prop} {n o d : Nat} {h : CH} (S : SEP C D o d h) (R : RR n h h) : C 300 ∧ 300 < hN h := C_all R.hs.1.1 S.1 S.2.2.1 300 (by omega) (by omega)
theorem sep_d {C D : Nat → Prop} {n o d : Nat} {h a : CH} (S : SEP C D o d h) (R : RR n a h) : D 361 ∧ 361 < hN h := D_all R.ml S.2.1 S.2.2.2.1 361 (by omega) (by omega)
/-- the class answers an int or throws one of L -/
def EOK (L : List (String × Int32)) (o : List Value ⊕ String) : Prop := match o with
  | .inl vs => ∃ v : Int32, vs = [.int v]
  | .inr E => ∃ c : Int32, (E, c) ∈ L
def EOKL (L : List (String × Int32)) (o : List Value ⊕ String) : Prop := match o with
  | .inl vs => ∃ v : Int64, vs = [.long v]
  | .inr E => ∃ c : Int32, (E, c) ∈ L
/-- what a helper of the law answers and puts down; g what it makes of an answer -/
def HR (g : Int32 → Int64) (o : Nat) (L : List (String × Int32)) (r1 : List Value ⊕ String) (h1 : CH) (kv : Int32) (h2 : CH) : Prop := (∃ v : Int32, r1 = .inl [.int v] ∧ kv = 0 ∧ h2 = sJ h1 o 0 (g v)) ∨ ∃ E, r1 = .inr E ∧ (E, kv) ∈ L ∧ h2 = h1
def HRL (o : Nat) (L : List (String × Int32)) (r1 : List Value ⊕ String) (h1 : CH) (kv : Int32) (h2 : CH) : Prop := (∃ v : Int64, r1 = .inl [.long v] ∧ kv = 0 ∧ h2 = sJ h1 o 0 v) ∨ ∃ E, r1 = .inr E ∧ (E, kv) ∈ L ∧ h2 = h1
def LOk (L : List (String × Int32)) : Prop := ∀ p ∈ L, ¬ p.2 = 0 ∧ ∀ q ∈ L, p.1 = q.1 → p.2 = q.2
theorem hr_oth {g : Int32 → Int64} {o d : Nat} {L : List (String × Int32)} {r1 : List Value ⊕ String} {h1 h2 : CH} {kv : Int32} (H : HR g o L r1 h1 kv h2) : Oth o d h1 h2 := by
  rcases H with ⟨v, -, -, e⟩ | ⟨E, -, -, e⟩
  · rw [e]; exact oth_sJ
  · rw [e]; exact oth_rfl o d h1
theorem hrl_oth {o d : Nat} {L : List (String × Int32)} {r1 : List Value ⊕ String} {h1 h2 : CH} {kv : Int32} (H : HRL o L r1 h1 kv h2) : Oth o d h1 h2 := by
  rcases H with ⟨v, -, -, e⟩ | ⟨E, -, -, e⟩
  · rw [e]; exact oth_sJ
  · rw [e]; exact oth_rfl o d h1
theorem ans_hr {g : Int32 → Int64} {o : Nat} {L : List (String × Int32)} {r1 : List Value ⊕ String} {h1 h2 : CH} {kv t r : Int32} (hL : LOk L) (A : Ans r1 L t r) (H : HR g o L r1 h1 kv h2) : t = kv ∧ (kv = 0 → hJ h2 o 0 = g r) := by
  rcases H with ⟨v, e1, e2, e3⟩ | ⟨E, e1, e2, e3⟩
  · rw [e1] at A
    obtain ⟨a1, a2⟩ := A
    have ev : v = r := by
      injection a2 with a2 _
      injection a2
    exact ⟨a1.trans e2.symm, fun _ => by rw [e3, hJ_eq, ev]⟩
  · rw [e1] at A
    have a1 : (E, t) ∈ L := A
    have z := (hL _ a1).2 _ e2 rfl
    exact ⟨z, fun q => absurd q (hL _ e2).1⟩
theorem ans_hrl {o : Nat} {L : List (String × Int32)} {r1 : List Value ⊕ String} {h1 h2 : CH} {kv t : Int32} {r : Int64} (hL : LOk L) (A : AnsL r1 L t r) (H : HRL o L r1 h1 kv h2) : t = kv ∧ (kv = 0 → hJ h2 o 0 = r) := by
  rcases H with ⟨v, e1, e2, e3⟩ | ⟨E, e1, e2, e3⟩
  · rw [e1] at A
    obtain ⟨a1, a2⟩ := A
    have ev : v = r := by
      injection a2 with a2 _
      injection a2
    exact ⟨a1.trans e2.symm, fun _ => by rw [e3, hJ_eq, ev]⟩
  · rw [e1] at A
    have a1 : (E, t) ∈ L := A
    have z := (hL _ a1).2 _ e2 rfl
    exact ⟨z, fun q => absurd q (hL _ e2).1⟩
theorem lcmp_self (x : Int64) : lg_cmp x x = 0 := (lg_cmp_eq _ _).mpr rfl
theorem vp0 {h : CH} {o k : Nat} (e : hT h o = (k, 1)) : vp_in 0 (hT h o).2 := by
  rw [e]
  exact vp_in_nI (n := 0) (N := 1) (by decide) (by decide)
