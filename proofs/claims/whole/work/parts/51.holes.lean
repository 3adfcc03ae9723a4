/-! THE HOLES' ROWS: boxes, lists, class objects, a text, clones, bits -/
def k_aBox (n : Nat) : Sem := fun X _ lv st h cs ss => match st with
  | .int i :: .ref a :: r => a = 262 ∧ vp_in i 256 ∧ X n lv (.ref (i.toNatClampNeg + 1) :: r) h cs ss
  | _ => False
def isBox (b : Nat) : Prop := 1 ≤ b ∧ b ≤ 256
theorem box_ne {b : Nat} (h : isBox b) : b ≠ 0 ∧ b < W0 ∧ b - 1 < 256 ∧ b - 1 + 1 = b := by unfold isBox at h; unfold W0; omega
theorem box_of {b : Nat} (h0 : 0 < b) (h : b ≤ 256) : isBox b := ⟨h0, h⟩
def k_gBox (n : Nat) : Sem := fun X _ lv st h cs ss => match st with
  | .ref a :: r => isBox a ∧ X n lv (.int (vb_c (a - 1)) :: r) h cs ss
  | _ => False
/-- a call on an object outside -/
def k_callO (n na : Nat) (P : Nat → Prop) (mc ms MC MS : Nat) (w : WT) : Sem := fun X Q lv st h cs ss => (∃ b : Nat, st[na - 1]? = some (.ref b) ∧ P b) ∧ k_call n na mc ms MC MS w X Q lv st h cs ss
def isTxt (b : Nat) : Prop := b = 260
/-- a cast of an object outside -/
def k_cc (n : Nat) (P : Nat → Prop) : Sem := fun X _ lv st h cs ss => match st with
  | .ref a :: r => P a ∧ X n lv (.ref a :: r) h cs ss
  | _ => False
/-- the length of an array, which may be one outside -/
def k_alenX (n q N : Nat) : Sem := fun X _ lv st h cs ss => match st with
  | .ref a :: r => if a = q then X n lv (.int (Int32.ofNat N) :: r) h cs ss else (100 ≤ (hT h a).1 ∧ X n lv (.int (Int32.ofNat (hT h a).2) :: r) h cs ss)
  | _ => False
/-- two references that are one -/
def k_aeq (t : Nat) : Sem := fun X _ lv st h cs ss => match st with
  | .ref b :: .ref a :: r => a = b ∧ X t lv r h cs ss
  | _ => False
/-- null, a box or an image into an array of objects -/
def k_sO (n : Nat) : Sem := fun X _ lv st h cs ss => match st with
  | .ref v :: .int i :: .ref a :: r => (hT h a).1 = 108 ∧ vp_in i (hT h a).2 ∧ (v ≤ 256 ∨ (hT h v).1 = 14) ∧ X n lv r (sR h a i.toNatClampNeg v) cs ss
  | _ => False
/-- references copied from one array to another (or within one) -/
def cpR (h : CH) (a b sp dp n : Nat) : CH := (h.1, h.2.1, h.2.2.1, h.2.2.2.1, fun x k => if x = b then va_cpy (hR h a) (hR h b) sp dp n k else h.2.2.2.2.1 x k, h.2.2.2.2.2)
theorem hR_cpR (h : CH) (a b sp dp n x k : Nat) : hR (cpR h a b sp dp n) x k = if x = b then va_cpy (hR h a) (hR h b) sp dp n k else hR h x k := rfl
def k_copyR (n : Nat) : Sem := fun X _ lv st h cs ss => match st with
  | .int len :: .int dp :: .ref b :: .int sp :: .ref a :: r => (hT h a).1 = 108 ∧ (hT h b).1 = 108 ∧ ¬ sp < 0 ∧ ¬ dp < 0 ∧ ¬ len < 0 ∧ sp.toNatClampNeg + len.toNatClampNeg ≤ (hT h a).2 ∧ dp.toNatClampNeg + len.toNatClampNeg ≤ (hT h b).2 ∧ (∀ i, i < len.toNatClampNeg → hR h a (sp.toNatClampNeg + i) ≤ 256) ∧ (r.map (fun v => v.category)).sum ≤ 8 ∧ X n lv r (cpR h a b sp.toNatClampNeg dp.toNatClampNeg len.toNatClampNeg) cs ss
  | _ => False
/-- the class object of an array of objects -/
def k_getC (n : Nat) : Sem := fun X _ lv st h cs ss => match st with
  | .ref a :: r => (hT h a).1 = 108 ∧ (r.map (fun v => v.category)).sum ≤ 8 ∧ X n lv (.ref 259 :: r) h cs ss
  | _ => False
/-- a clone of an array of ints -/
def clI (h : CH) (a : Nat) : CH := (h.1 + 1, fun x => if x = h.1 then (100, (hT h a).2) else h.2.1 x, fun x k => if x = h.1 then hI h a k else h.2.2.1 x k, fun x k => if x = h.1 then 0 else h.2.2.2.1 x k, fun x k => if x = h.1 then 0 else h.2.2.2.2.1 x k, fun x k => if x = h.1 then 0 else h.2.2.2.2.2 x k)
theorem hN_clI (h : CH) (a : Nat) : hN (clI h a) = hN h + 1 := rfl
theorem hT_clI (h : CH) (a x : Nat) : hT (clI h a) x = if x = hN h then (100, (hT h a).2) else hT h x := rfl
theorem hI_clI (h : CH) (a x k : Nat) : hI (clI h a) x k = if x = hN h then hI h a k else hI h x k := rfl
theorem hJ_clI (h : CH) (a x k : Nat) : hJ (clI h a) x k = if x = hN h then 0 else hJ h x k := rfl
theorem hR_clI (h : CH) (a x k : Nat) : hR (clI h a) x k = if x = hN h then 0 else hR h x k := rfl
theorem hD_clI (h : CH) (a x k : Nat) : hD (clI h a) x k = if x = hN h then 0 else hD h x k := rfl
def k_clo (n MC MS : Nat) : Sem := fun X _ lv st h cs ss => match st with
  | .ref a :: r => (hT h a).1 = 100 ∧ cs + 1 ≤ MC ∧ ss + (hT h a).2 ≤ MS ∧ (r.map (fun v => v.category)).sum ≤ 8 ∧ X n lv (.ref (hN h) :: r) (clI h a) (cs + 1) (ss + (hT h a).2)
  | _ => False
/-- a field of the text outside -/
def k_gTx (n : Nat) (v : Value) : Sem := fun X _ lv st h cs ss => match st with
  | .ref a :: r => a = 260 ∧ X n lv (v :: r) h cs ss
  | _ => False
def txB (i : Nat) : Int32 := [108, 102, 99, 98].getD i 0
def k_aTx (n : Nat) : Sem := fun X _ lv st h cs ss => match st with
  | .int i :: .ref a :: r => a = 261 ∧ vp_in i 4 ∧ X n lv (.int (txB i.toNatClampNeg) :: r) h cs ss
  | _ => False
def k_bits (n : Nat) : Sem := fun X _ lv st h cs ss => match st with
  | .float b :: r => (r.map (fun v => v.category)).sum ≤ 8 ∧ X n lv (.int b.toInt32 :: r) h cs ss
  | _ => False
theorem mono_aBox (n : Nat) : Mono (k_aBox n) := by
  intro X Y Q Q' hX hQ lv st h cs ss k
  unfold k_aBox at *; split at k <;> first | exact ⟨k.1, k.2.1, hX _ _ _ _ _ _ k.2.2⟩ | exact k.elim
theorem mono_gBox (n : Nat) : Mono (k_gBox n) := by
  intro X Y Q Q' hX hQ lv st h cs ss k
  unfold k_gBox at *; split at k <;> first | exact ⟨k.1, hX _ _ _ _ _ _ k.2⟩ | exact k.elim
theorem mono_callO (n na : Nat) (P : Nat → Prop) (mc ms MC MS : Nat) (w : WT) (hw : ∀ av h (Q Q' : QT), (∀ r h, Q r h → Q' r h) → w av h Q → w av h Q') : Mono (k_callO n na P mc ms MC MS w) := fun X Y Q Q' hX hQ lv st h cs ss k => ⟨k.1, mono_call n na mc ms MC MS w hw X Y Q Q' hX hQ lv st h cs ss k.2⟩
theorem mono_cc (n : Nat) (P : Nat → Prop) : Mono (k_cc n P) := by
  intro X Y Q Q' hX hQ lv st h cs ss k
  unfold k_cc at *; split at k <;> first | exact ⟨k.1, hX _ _ _ _ _ _ k.2⟩ | exact k.elim
theorem mono_alenX (n q N : Nat) : Mono (k_alenX n q N) := by
  intro X Y Q Q' hX hQ lv st h cs ss k
  unfold k_alenX at *
  split at k
  · split at k
    · next e => simp only [e, if_true]; exact hX _ _ _ _ _ _ k
    · next e => simp only [e, if_false]; exact ⟨k.1, hX _ _ _ _ _ _ k.2⟩
  · exact k.elim
theorem mono_aeq (t : Nat) : Mono (k_aeq t) := by
  intro X Y Q Q' hX hQ lv st h cs ss k
  unfold k_aeq at *; split at k <;> first | exact ⟨k.1, hX _ _ _ _ _ _ k.2⟩ | exact k.elim
theorem mono_sO (n : Nat) : Mono (k_sO n) := by
  intro X Y Q Q' hX hQ lv st h cs ss k
  unfold k_sO at *; split at k <;> first | exact ⟨k.1, k.2.1, k.2.2.1, hX _ _ _ _ _ _ k.2.2.2⟩ | exact k.elim
theorem mono_copyR (n : Nat) : Mono (k_copyR n) := by
  intro X Y Q Q' hX hQ lv st h cs ss k
  unfold k_copyR at *; split at k <;> first | exact ⟨k.1, k.2.1, k.2.2.1, k.2.2.2.1, k.2.2.2.2.1, k.2.2.2.2.2.1, k.2.2.2.2.2.2.1, k.2.2.2.2.2.2.2.1, k.2.2.2.2.2.2.2.2.1, hX _ _ _ _ _ _ k.2.2.2.2.2.2.2.2.2⟩ | exact k.elim
theorem mono_getC (n : Nat) : Mono (k_getC n) := by
  intro X Y Q Q' hX hQ lv st h cs ss k
  unfold k_getC at *; split at k <;> first | exact ⟨k.1, k.2.1, hX _ _ _ _ _ _ k.2.2⟩ | exact k.elim
theorem mono_clo (n MC MS : Nat) : Mono (k_clo n MC MS) := by
  intro X Y Q Q' hX hQ lv st h cs ss k
  unfold k_clo at *; split at k <;> first | exact ⟨k.1, k.2.1, k.2.2.1, k.2.2.2.1, hX _ _ _ _ _ _ k.2.2.2.2⟩ | exact k.elim
theorem mono_gTx (n : Nat) (v : Value) : Mono (k_gTx n v) := by
  intro X Y Q Q' hX hQ lv st h cs ss k
  unfold k_gTx at *; split at k <;> first | exact ⟨k.1, hX _ _ _ _ _ _ k.2⟩ | exact k.elim
theorem mono_aTx (n : Nat) : Mono (k_aTx n) := by
  intro X Y Q Q' hX hQ lv st h cs ss k
  unfold k_aTx at *; split at k <;> first | exact ⟨k.1, k.2.1, hX _ _ _ _ _ _ k.2.2⟩ | exact k.elim
theorem mono_bits (n : Nat) : Mono (k_bits n) := by
  intro X Y Q Q' hX hQ lv st h cs ss k
  unfold k_bits at *; split at k <;> first | exact ⟨k.1, hX _ _ _ _ _ _ k.2⟩ | exact k.elim
section HOLES
variable {g : Gc} {n0 : Nat} {ads : Nat → Nat} {p : Program} {l : Launch} {e : Env} {R : Room} {s : State} {m : MethodId} {args : Array Value} {below : List Frame} {meth : Method} {c : Code} {nL : Nat} {Qf : State → Prop} {Q : QT} {cc : ByteArray} {own : String} {pc : Nat}
theorem Act.gex (A : Act g p l s m args meth c cc nL own) : GEx g s := A.2.2.2.2.2.1.2.2.2.2.2.2
theorem Act.kq (A : Act g p l s m args meth c cc nL own) : ∀ a : Nat, a < (gH g).size → ¬ gF g a → s.heap[a]? = (gH g)[a]? := by
  obtain ⟨-, -, -, -, -, hX, -, -, -, hb⟩ := A
  have hz := hX.2.2.1
  exact fun a h1 _ => hb a (by omega)
theorem cv_out {ad : Nat → Nat} {h : CH} {H : Heap} {a : Nat} (hR : Rel g ad h H) (h1 : a ≠ 0) (h2 : a < W0) : cv ad (.ref a) = .ref (ga g a) := by rw [cv_ne0 h1, hR.2.2.2 a h2]
theorem refOK_out {ad : Nat → Nat} {h : CH} {H : Heap} {a : Nat} (hR : Rel g ad h H) (h2 : a < W0) : refOK (hN h) (.ref a) := Nat.lt_of_lt_of_le h2 hR.2.2.1.1
theorem box_recv (A : Act g p l s m args meth c cc nL own) {H : Heap} {locs : List Loc} (hS : va_S (gF g) s.heap H locs) {b : Nat} (hb : isBox b) : ∃ cell : Cell, H[ga g b]? = some cell ∧ cell.vm.isStatics = false ∧ s.vm.findClass "java/lang/Integer" = some cell.cls := by
  have h1 := (A.gex.1.kept A.kq).1 (b - 1) (by unfold isBox at hb; omega)
  rw [show (fun k => ga g (k + 1)) (b - 1) = ga g b by show ga g (b - 1 + 1) = _; rw [show b - 1 + 1 = b by unfold isBox at hb; omega]] at h1
  exact va_Orecv h1 hS
theorem txt_recv (A : Act g p l s m args meth c cc nL own) {H : Heap} {locs : List Loc} (hS : va_S (gF g) s.heap H locs) : ∃ cell : Cell, H[ga g 260]? = some cell ∧ cell.vm.isStatics = false ∧ s.vm.findClass "java/lang/String" = some cell.cls :=
  vk_recv (i := 0) (A.gex.2.2.2.2.2.2.2.2.2.2.1.kept A.kq) (by decide) hS
theorem o_gsI (A : Act g p l s m args meth c cc nL own) {C nm d ref : String} {z : Int32} {index : Nat} (hZ : va_Z C nm d (.int z) (gF g) s (gH g)) (hlink : Cond.fieldLink own index ref nm d ∈ AW) (hsame : ∀ x, s.fieldFound? C nm d = some x → s.fieldFound? ref nm d = some x) (hd : decode cc pc = .ok (.getstatic index, 3)) : Snd g n0 ads p l e R s m args below meth c nL Qf Q pc (k_push (pc + 3) (.int z)) := by
  intro lv st h cs ss k ad H locs ls hR h0 ha hS hl hlv hst
  exact va_gets A.1 A.2.1 (hZ.kept A.kq) hS A.2.2.2.1 (A.2.2.2.2.1 _ hlink) hsame hd (k ad H locs ls hR h0 ha hS hl hlv (List.forall_mem_cons.mpr ⟨trivial, hst⟩))
theorem o_gsR (A : Act g p l s m args meth c cc nL own) {C nm d ref : String} {q : Nat} {index : Nat} (hq0 : q ≠ 0) (hq : q < W0) (hZ : va_Z C nm d (.ref (ga g q)) (gF g) s (gH g)) (hlink : Cond.fieldLink own index ref nm d ∈ AW) (hsame : ∀ x, s.fieldFound? C nm d = some x → s.fieldFound? ref nm d = some x) (hd : decode cc pc = .ok (.getstatic index, 3)) : Snd g n0 ads p l e R s m args below meth c nL Qf Q pc (k_push (pc + 3) (.ref q)) := by
  intro lv st h cs ss k ad H locs ls hR h0 ha hS hl hlv hst
  refine va_gets A.1 A.2.1 (hZ.kept A.kq) hS A.2.2.2.1 (A.2.2.2.2.1 _ hlink) hsame hd ?_
  rw [← cv_out hR hq0 hq]
  exact k ad H locs ls hR h0 ha hS hl hlv (List.forall_mem_cons.mpr ⟨refOK_out hR hq, hst⟩)
theorem o_aBox (A : Act g p l s m args meth c cc nL own) (hd : decode cc pc = .ok (.aaload, 1)) : Snd g n0 ads p l e R s m args below meth c nL Qf Q pc (k_aBox (pc + 1)) := by
  intro lv st h cs ss k ad H locs ls hR h0 ha hS hl hlv hst
  unfold k_aBox at k
  split at k
  · next i a r =>
    obtain ⟨rfl, hin, k⟩ := k
    have hr := (List.forall_mem_cons.mp (List.forall_mem_cons.mp hst).2).2
    have hi : i.toNatClampNeg < 256 := Nat.not_le.mp fun q => hin (Or.inr q)
    show W p l e R s m args below meth c H locs cs ss Qf (F0 m pc ls (.int i :: cv ad (.ref 262) :: r.map (cv ad)))
    rw [cv_out hR (by decide) (by decide)]
    refine vb_tq A.1 A.2.1 (A.gex.2.2.2.1.kept A.kq) hS hin rfl hd ?_
    have h9 : i.toNatClampNeg + 1 < W0 := by unfold W0; omega
    show W p l e R s m args below meth c H locs cs ss Qf (F0 m (pc + 1) ls (.ref (ga g (i.toNatClampNeg + 1)) :: r.map (cv ad)))
    rw [← cv_out hR (by omega) h9]
    exact k ad H locs ls hR h0 ha hS hl hlv (List.forall_mem_cons.mpr ⟨refOK_out hR h9, hr⟩)
  · exact k.elim
theorem o_gBox (A : Act g p l s m args meth c cc nL own) {ref : String} {index : Nat} (hlink : Cond.fieldLink own index ref "value" "I" ∈ AW) (hsame : ∀ x, s.fieldFound? "java/lang/Integer" "value" "I" = some x → s.fieldFound? ref "value" "I" = some x) (hd : decode cc pc = .ok (.getfield index, 3)) : Snd g n0 ads p l e R s m args below meth c nL Qf Q pc (k_gBox (pc + 3)) := by
  intro lv st h cs ss k ad H locs ls hR h0 ha hS hl hlv hst
  unfold k_gBox at k
  split at k
  · next a r =>
    obtain ⟨hb, k⟩ := k
    show W p l e R s m args below meth c H locs cs ss Qf (F0 m pc ls (cv ad (.ref a) :: r.map (cv ad)))
    have hb2 := box_ne hb
    rw [cv_out hR hb2.1 hb2.2.1]
    rw [show ga g a = (fun k => ga g (k + 1)) (a - 1) by show _ = ga g (a - 1 + 1); rw [hb2.2.2.2]]
    exact va_getX (i := a - 1) (v := fun k => .int (vb_c k)) A.1 A.2.1 (A.gex.1.kept A.kq).2 hb2.2.2.1 hS A.2.2.2.1 (A.2.2.2.2.1 _ hlink) hsame hd (k ad H locs ls hR h0 ha hS hl hlv (List.forall_mem_cons.mpr ⟨trivial, (List.forall_mem_cons.mp hst).2⟩))
  · exact k.elim
theorem o_ccB (A : Act g p l s m args meth c cc nL own) {index : Nat} (hlink : Cond.classLink own index "java/lang/Integer" ∈ AW) (hd : decode cc pc = .ok (.checkcast index, 3)) : Snd g n0 ads p l e R s m args below meth c nL Qf Q pc (k_cc (pc + 3) isBox) := by
  intro lv st h cs ss k ad H locs ls hR h0 ha hS hl hlv hst
  unfold k_cc at k
  split at k
  · next a r =>
    obtain ⟨hb, k⟩ := k
    have e1 := cv_out (a := a) hR (box_ne hb).1 (box_ne hb).2.1
    show W p l e R s m args below meth c H locs cs ss Qf (F0 m pc ls (cv ad (.ref a) :: r.map (cv ad)))
    rw [e1]
    refine va_castE A.1 A.2.1 A.2.2.2.1 (A.2.2.2.2.1 _ hlink) (box_recv A hS hb) hd ?_
    rw [← e1]
    exact k ad H locs ls hR h0 ha hS hl hlv hst
  · exact k.elim
/-- a cast of an object of the world to its own class -/
theorem o_castC (A : Act g p l s m args meth c cc nL own) {C : String} {T : u_T} {N ci index : Nat} (hc : vwCl[ci]? = some (C, T, N)) (h99 : ci < 99) (hlink : Cond.classLink own index C ∈ AW) (hd : decode cc pc = .ok (.checkcast index, 3)) : Snd g n0 ads p l e R s m args below meth c nL Qf Q pc (k_cast (pc + 3) ci) := by
  intro lv st h cs ss k ad H locs ls hR h0 ha hS hl hlv hst
  unfold k_cast at k
  split at k
  · next a r =>
    have hb0 := hR.low k.1 (by omega)
    have he := wsOf_at (dA := gA g) (ad := ad) hb0 (List.forall_mem_cons.mp hst).1
    rw [ccell_obj k.1 (by omega)] at he
    show W p l e R s m args below meth c H locs cs ss Qf (F0 m pc ls (cv ad (.ref a) :: r.map (cv ad)))
    rw [cv_ref hb0]
    refine va_castE A.1 A.2.1 A.2.2.2.1 (A.2.2.2.2.1 _ hlink) (va_recv A.2.2.2.2.2.1.1 hR.1 hc he) hd ?_
    rw [← cv_ref hb0]
    exact k.2 ad H locs ls hR h0 ha hS hl hlv hst
  · exact k.elim
/-- a cast of an array of ints to its own class -/
theorem o_castI (A : Act g p l s m args meth c cc nL own) {index : Nat} (hlink : Cond.classLink own index "[I" ∈ AW) (hd : decode cc pc = .ok (.checkcast index, 3)) : Snd g n0 ads p l e R s m args below meth c nL Qf Q pc (k_cast (pc + 3) 100) := by
  intro lv st h cs ss k ad H locs ls hR h0 ha hS hl hlv hst
  unfold k_cast at k
  split at k
  · next a r =>
    have hb0 := hR.low k.1 (by decide)
    have he := wsOf_at (dA := gA g) (ad := ad) hb0 (List.forall_mem_cons.mp hst).1
    rw [ccell100 k.1] at he
    show W p l e R s m args below meth c H locs cs ss Qf (F0 m pc ls (cv ad (.ref a) :: r.map (cv ad)))
    rw [cv_ref hb0]
    refine va_castA A.1 A.2.1 A.2.2.2.1 (A.2.2.2.2.1 _ hlink) hR.1 (a - W0) he (va_nm_int (A.2.2.2.2.2.1.1.2 0 (gA g 0, .int) rfl).2) hd ?_
    rw [← cv_ref hb0]
    exact k.2 ad H locs ls hR h0 ha hS hl hlv hst
  · exact k.elim
theorem o_alenX (A : Act g p l s m args meth c cc nL own) {ty : FieldType} {q N : Nat} {f : Nat → Value} (hq0 : q ≠ 0) (hq : q < W0) (hT : va_T ty (ga g q) N f (gF g) s (gH g)) (hd : decode cc pc = .ok (.arraylength, 1)) : Snd g n0 ads p l e R s m args below meth c nL Qf Q pc (k_alenX (pc + 1) q N) := by
  intro lv st h cs ss k ad H locs ls hR h0 ha hS hl hlv hst
  unfold k_alenX at k
  split at k
  · next a r =>
    split at k
    · next e =>
      subst e
      show W p l e R s m args below meth c H locs cs ss Qf (F0 m pc ls (cv ad (.ref a) :: r.map (cv ad)))
      rw [cv_out hR hq0 hq]
      exact va_tlen A.1 A.2.1 (hT.kept A.kq) hS rfl hd (k ad H locs ls hR h0 ha hS hl hlv (List.forall_mem_cons.mpr ⟨trivial, (List.forall_mem_cons.mp hst).2⟩))
    · exact o_alen (Q := Q) A hd lv (.ref a :: r) h cs ss k ad H locs ls hR h0 ha hS hl hlv hst
  · exact k.elim
theorem o_acmpeq (A : Act g p l s m args meth c cc nL own) {off : Int} {t : Nat} (ht : (pc : Int) + off = (t : Int)) (hd : decode cc pc = .ok (.if_acmp .eq off, 3)) : Snd g n0 ads p l e R s m args below meth c nL Qf Q pc (k_aeq t) := by
  intro lv st h cs ss k ad H locs ls hR h0 ha hS hl hlv hst
  unfold k_aeq at k
  split at k
  · next b a r =>
    obtain ⟨rfl, k⟩ := k
    exact lv_acmp_eq (rx := ro ad a) (ry := ro ad a) A.1 A.2.1 hd ht (fun _ => k ad H locs ls hR h0 ha hS hl hlv (List.forall_mem_cons.mp (List.forall_mem_cons.mp hst).2).2) (fun q => absurd rfl q)
  · exact k.elim
theorem o_acmpne (A : Act g p l s m args meth c cc nL own) {off : Int} {t : Nat} (ht : (pc : Int) + off = (t : Int)) (hd : decode cc pc = .ok (.if_acmp .ne off, 3)) : Snd g n0 ads p l e R s m args below meth c nL Qf Q pc (k_aeq (pc + 3)) := by
  intro lv st h cs ss k ad H locs ls hR h0 ha hS hl hlv hst
  unfold k_aeq at k
  split at k
  · next b a r =>
    obtain ⟨rfl, k⟩ := k
    exact lv_acmp_ne (rx := ro ad a) (ry := ro ad a) A.1 A.2.1 hd ht (fun q => absurd rfl q) (fun _ => k ad H locs ls hR h0 ha hS hl hlv (List.forall_mem_cons.mp (List.forall_mem_cons.mp hst).2).2)
  · exact k.elim
theorem o_ldcM (A : Act g p l s m args meth c cc nL own) {index : Nat} (hlink : Cond.classLink own index "[Ljava/lang/Object;" ∈ AW) (hd : decode cc pc = .ok (.ldc index, 2)) : Snd g n0 ads p l e R s m args below meth c nL Qf Q pc (k_push (pc + 2) (.ref 259)) := by
  intro lv st h cs ss k ad H locs ls hR h0 ha hS hl hlv hst
  refine va_ldcM A.1 A.2.1 A.2.2.2.1 (A.2.2.2.2.1 _ hlink) A.gex.2.2.2.2.2.2.2.1 hd ?_
  rw [← cv_out hR (by decide) (by decide)]
  exact k ad H locs ls hR h0 ha hS hl hlv (List.forall_mem_cons.mpr ⟨refOK_out hR (by decide), hst⟩)
theorem o_getC (A : Act g p l s m args meth c cc nL own) {index : Nat} (hlink : Cond.methodLink own index ⟨"java/lang/Object", "getClass", "()Ljava/lang/Class;"⟩ ∈ AW) (hsel : Cond.selects "[Ljava/lang/Object;" ⟨"java/lang/Object", "getClass", "()Ljava/lang/Class;"⟩ ⟨"java/lang/Object", "getClass", "()Ljava/lang/Class;"⟩ ∈ AW) (hinst : Cond.instanceMethod ⟨"java/lang/Object", "getClass", "()Ljava/lang/Class;"⟩ ∈ AW) (hnat : Cond.native ⟨"java/lang/Object", "getClass", "()Ljava/lang/Class;"⟩ ∈ AW) (hF : 1 ≤ R.frames) (hL : 22 ≤ R.locals) (hd : decode cc pc = .ok (.invokevirtual index, 3)) : Snd g n0 ads p l e R s m args below meth c nL Qf Q pc (k_getC (pc + 3)) := by
  intro lv st h cs ss k ad H locs ls hR h0 ha hS hl hlv hst
  unfold k_getC at k
  split at k
  · next a r =>
    obtain ⟨k1, k2, k3⟩ := k
    have hb0 := hR.low k1 (by decide)
    have he := wsOf_at (dA := gA g) (ad := ad) hb0 (List.forall_mem_cons.mp hst).1
    rw [ccellR (c := 8) (by decide) k1] at he
    show W p l e R s m args below meth c H locs cs ss Qf (F0 m pc ls (cv ad (.ref a) :: r.map (cv ad)))
    rw [cv_ref hb0]
    refine va_getC (C := "[Ljava/lang/Object;") A.1 A.2.1 (A.2.2.1.trans hl.1.symm) A.2.2.2.1 (A.2.2.2.2.1 _ hlink) (va_Dc.use A.gex.2.2.2.2.2.2.2.2.1) (A.2.2.2.2.1 _ hsel) (A.2.2.2.2.1 _ hinst) (A.2.2.2.2.1 _ hnat) A.gex.2.2.2.2.2.2.2.1 ⟨_, hR.1 _ _ he, rfl, va_nmO (A.2.2.2.2.2.1.1.2 8 (gA g 8, .object "java/lang/Object") rfl).2 (by decide +kernel)⟩ hF (by rw [sum_cv]; omega) hd ?_
    rw [← cv_out hR (by decide) (by decide)]
    exact k3 ad H locs ls hR h0 ha hS hl hlv (List.forall_mem_cons.mpr ⟨refOK_out hR (by decide), (List.forall_mem_cons.mp hst).2⟩)
  · exact k.elim
theorem o_gTxV (A : Act g p l s m args meth c cc nL own) {ref : String} {index : Nat} (hlink : Cond.fieldLink own index ref "value" "[B" ∈ AW) (hsame : ∀ x, s.fieldFound? "java/lang/String" "value" "[B" = some x → s.fieldFound? ref "value" "[B" = some x) (hd : decode cc pc = .ok (.getfield index, 3)) : Snd g n0 ads p l e R s m args below meth c nL Qf Q pc (k_gTx (pc + 3) (.ref 261)) := by
  intro lv st h cs ss k ad H locs ls hR h0 ha hS hl hlv hst
  unfold k_gTx at k
  split at k
  · next a r =>
    obtain ⟨rfl, k⟩ := k
    show W p l e R s m args below meth c H locs cs ss Qf (F0 m pc ls (cv ad (.ref 260) :: r.map (cv ad)))
    rw [cv_out hR (by decide) (by decide)]
    refine vk_getf A.1 A.2.1 ((A.gex.2.2.2.2.2.2.2.2.2.2.1.kept A.kq).1 0 (by decide)).2.2.1 hS A.2.2.2.1 (A.2.2.2.2.1 _ hlink) hsame hd ?_
    rw [← cv_out (a := 261) hR (by decide) (by decide)]
    exact k ad H locs ls hR h0 ha hS hl hlv (List.forall_mem_cons.mpr ⟨refOK_out hR (by decide), (List.forall_mem_cons.mp hst).2⟩)
  · exact k.elim
theorem o_gTxC (A : Act g p l s m args meth c cc nL own) {ref : String} {index : Nat} (hlink : Cond.fieldLink own index ref "coder" "B" ∈ AW) (hsame : ∀ x, s.fieldFound? "java/lang/String" "coder" "B" = some x → s.fieldFound? ref "coder" "B" = some x) (hd : decode cc pc = .ok (.getfield index, 3)) : Snd g n0 ads p l e R s m args below meth c nL Qf Q pc (k_gTx (pc + 3) (.int 0)) := by
  intro lv st h cs ss k ad H locs ls hR h0 ha hS hl hlv hst
  unfold k_gTx at k
  split at k
  · next a r =>
    obtain ⟨rfl, k⟩ := k
    show W p l e R s m args below meth c H locs cs ss Qf (F0 m pc ls (cv ad (.ref 260) :: r.map (cv ad)))
    rw [cv_out hR (by decide) (by decide)]
    exact vk_getf A.1 A.2.1 ((A.gex.2.2.2.2.2.2.2.2.2.2.1.kept A.kq).1 0 (by decide)).2.1 hS A.2.2.2.1 (A.2.2.2.2.1 _ hlink) hsame hd (k ad H locs ls hR h0 ha hS hl hlv (List.forall_mem_cons.mpr ⟨trivial, (List.forall_mem_cons.mp hst).2⟩))
  · exact k.elim
theorem o_aTx (A : Act g p l s m args meth c cc nL own) (hd : decode cc pc = .ok (.baload, 1)) : Snd g n0 ads p l e R s m args below meth c nL Qf Q pc (k_aTx (pc + 1)) := by
  intro lv st h cs ss k ad H locs ls hR h0 ha hS hl hlv hst
  unfold k_aTx at k
  split at k
  · next i a r =>
    obtain ⟨rfl, hin, k⟩ := k
    show W p l e R s m args below meth c H locs cs ss Qf (F0 m pc ls (.int i :: cv ad (.ref 261) :: r.map (cv ad)))
    rw [cv_out hR (by decide) (by decide)]
    exact va_tb A.1 A.2.1 ((A.gex.2.2.2.2.2.2.2.2.2.2.1.kept A.kq).1 0 (by decide)).2.2.2 hS hin rfl hd (k ad H locs ls hR h0 ha hS hl hlv (List.forall_mem_cons.mpr ⟨trivial, (List.forall_mem_cons.mp (List.forall_mem_cons.mp hst).2).2⟩))
  · exact k.elim
theorem o_bits (A : Act g p l s m args meth c cc nL own) {index : Nat} (hlink : Cond.methodLink own index ⟨"java/lang/Float", "floatToRawIntBits", "(F)I"⟩ ∈ AW) (hnat : Cond.native ⟨"java/lang/Float", "floatToRawIntBits", "(F)I"⟩ ∈ AW) (hst9 : Cond.static ⟨"java/lang/Float", "floatToRawIntBits", "(F)I"⟩ ∈ AW) (hini : Cond.initialized "java/lang/Float" ∈ AW) (hF : 1 ≤ R.frames) (hL : 23 ≤ R.locals) (hd : decode cc pc = .ok (.invokestatic index, 3)) : Snd g n0 ads p l e R s m args below meth c nL Qf Q pc (k_bits (pc + 3)) := by
  intro lv st h cs ss k ad H locs ls hR h0 ha hS hl hlv hst
  unfold k_bits at k
  split at k
  · next b r => exact vn_f2i A.1 A.2.1 (A.2.2.1.trans hl.1.symm) A.2.2.2.1 (A.2.2.2.2.1 _ hlink) (A.2.2.2.2.1 _ hnat) (A.2.2.2.2.1 _ hst9) (A.2.2.2.2.1 _ hini) hF (by rw [sum_cv]; omega) hd (k.2 ad H locs ls hR h0 ha hS hl hlv (List.forall_mem_cons.mpr ⟨trivial, (List.forall_mem_cons.mp hst).2⟩))
  · exact k.elim
end HOLES
section HOLES2
variable {g : Gc} {n0 : Nat} {ads : Nat → Nat} {p : Program} {l : Launch} {e : Env} {R : Room} {s : State} {m : MethodId} {args : Array Value} {below : List Frame} {meth : Method} {c : Code} {nL : Nat} {Qf : State → Prop} {Q : QT} {cc : ByteArray} {own : String} {pc : Nat}
theorem Act.ow (A : Act g p l s m args meth c cc nL own) {w : Cond} (h : w ∈ OW) : va_Nw w s := A.2.2.2.2.2.1.2.2.2.1 _ h
theorem o_sO (A : Act g p l s m args meth c cc nL own) (hcB : Cond.castable "java/lang/Integer" "java/lang/Object" ∈ OW) (hcI : Cond.castable "WritebackModel$Image" "java/lang/Object" ∈ OW) (hd : decode cc pc = .ok (.aastore, 1)) : Snd g n0 ads p l e R s m args below meth c nL Qf Q pc (k_sO (pc + 1)) := by
  intro lv st h cs ss k ad H locs ls hRel h0 ha hS hl hlv hst
  unfold k_sO at k
  split at k
  · next v i a r =>
    have q := List.forall_mem_cons.mp hst
    have q2 := List.forall_mem_cons.mp q.2
    have q3 := List.forall_mem_cons.mp q2.2
    have ha0 := hRel.low k.1 (by omega)
    show W p l e R s m args below meth c H locs cs ss Qf (F0 m pc ls (cv ad (.ref v) :: .int i :: cv ad (.ref a) :: r.map (cv ad)))
    rw [cv_ref ha0]
    have he := wsOf_at (dA := gA g) (ad := ad) ha0 q3.1
    rw [ccellR (c := 8) (by decide) k.1] at he
    have hf : va_up (fun j => ro ad (hR h a j)) i.toNatClampNeg (ro ad v) = fun j => ro ad (hR (sR h a i.toNatClampNeg v) a j) := funext fun j => by
      rw [hR_sR]; unfold va_up; simp only [true_and]; split <;> rfl
    have hws : (wsOf (gA g) ad h).set (a - W0) (ad a, .inl (gA g 8, (hT h a).2, .inr (.inr (.inr (.inr (va_up (fun j => ro ad (hR h a j)) i.toNatClampNeg (ro ad v))))))) = wsOf (gA g) ad (sR h a i.toNatClampNeg v) := by
      rw [wsOf_set (h' := sR h a i.toNatClampNeg v) ha0 q3.1 rfl (fun b hb => ccell_sR hb), ccellR (h := sR h a i.toNatClampNeg v) (c := 8) (by decide) k.1, hf]
      rfl
    have fin : ∀ (H1 : Heap) (locs1 : List Loc), va_P (gD g) vwCl ((wsOf (gA g) ad h).set (a - W0) (ad a, .inl (gA g 8, (hT h a).2, .inr (.inr (.inr (.inr (va_up (fun j => ro ad (hR h a j)) i.toNatClampNeg (ro ad v)))))))) H1 → va_D (gF g) ((wsOf (gA g) ad h).set (a - W0) (ad a, .inl (gA g 8, (hT h a).2, .inr (.inr (.inr (.inr (va_up (fun j => ro ad (hR h a j)) i.toNatClampNeg (ro ad v)))))))) → va_S (gF g) s.heap H1 locs1 → W p l e R s m args below meth c H1 locs1 cs ss Qf (F0 m (pc + 1) ls (r.map (cv ad))) := by
      intro H1 locs1 hP1 hD1 hS1
      rw [hws] at hP1 hD1
      exact k.2.2.2 ad H1 locs1 ls ⟨hP1, hD1, WFh_sR hRel.2.2.1 q.1, hRel.2.2.2⟩ h0 ha hS1 hl hlv q3.2
    rcases Nat.eq_zero_or_pos v with z | zp
    · have z2 : ro ad v = none := by unfold ro; rw [if_pos z]
      have z3 : cv ad (.ref v) = .null := by show va_rf (ro ad v) = _; rw [z2]; rfl
      rw [z2] at fin
      rw [z3]
      exact va_astqN A.1 A.2.1 A.2.2.2.2.2.1.1 hRel.1 hRel.2.1 hS (a - W0) 8 he rfl k.2.1 hd fin
    · have v0 : v ≠ 0 := Nat.ne_of_gt zp
      have z2 : ro ad v = some (ad v) := by unfold ro; rw [if_neg v0]
      rw [z2] at fin
      rw [cv_ne0 v0]
      rcases k.2.2.1 with z | z
      · have hv := hRel.2.2.2 v (box_ne (box_of zp z)).2.1
        exact vb_astq (E := "java/lang/Object") (C := "java/lang/Integer") A.1 A.2.1 A.2.2.2.2.2.1.1 hRel.1 hRel.2.1 hS (a - W0) 8 he rfl (by rw [hv]; exact box_recv A hS ⟨zp, z⟩) (fun comp c0 h1 h2 => vb_asgC (A.ow hcB) comp c0 h1 h2) k.2.1 hd fin
      · have hv0 := hRel.low z (by omega)
        have hev := wsOf_at (dA := gA g) (ad := ad) hv0 q.1
        rw [ccell_obj z (by omega)] at hev
        exact vb_astq (E := "java/lang/Object") (C := "WritebackModel$Image") A.1 A.2.1 A.2.2.2.2.2.1.1 hRel.1 hRel.2.1 hS (a - W0) 8 he rfl (va_recv (ci := 14) A.2.2.2.2.2.1.1 hRel.1 rfl hev) (fun comp c0 h1 h2 => vb_asgC (A.ow hcI) comp c0 h1 h2) k.2.1 hd fin
  · exact k.elim
theorem ccell_cpR {dA : Nat → ClassId} {ad : Nat → Nat} {h : CH} {a b sp dp n x : Nat} (hx : x ≠ b) : ccell dA ad (cpR h a b sp dp n) x = ccell dA ad h x := ccell_ext rfl rfl rfl (funext fun j => by rw [hR_cpR, if_neg hx]) rfl
theorem WFh_cpR {h : CH} {a b sp dp n : Nat} (hw : WFh h) : WFh (cpR h a b sp dp n) := by
  refine ⟨hw.1, fun x j => ?_, hw.2.2.1, hw.2.2.2⟩
  rw [hR_cpR]
  show _ < hN h
  split
  · unfold va_cpy
    split
    · exact hw.2.1 _ _
    · exact hw.2.1 _ _
  · exact hw.2.1 x j
theorem o_copyR (A : Act g p l s m args meth c cc nL own) {index : Nat} (hcB : Cond.castable "java/lang/Integer" "java/lang/Object" ∈ OW) (hlink : Cond.methodLink own index arraycopyName ∈ AW) (hnat : Cond.native arraycopyName ∈ AW) (hst9 : Cond.static arraycopyName ∈ AW) (hini : Cond.initialized "java/lang/System" ∈ AW) (hF : 1 ≤ R.frames) (hL : 60 ≤ R.locals) (hd : decode cc pc = .ok (.invokestatic index, 3)) : Snd g n0 ads p l e R s m args below meth c nL Qf Q pc (k_copyR (pc + 3)) := by
  intro lv st h cs ss k ad H locs ls hRel h0 ha hS hl hlv hst
  unfold k_copyR at k
  split at k
  · next len dp b sp a r =>
    obtain ⟨k1, k2, k3, k4, k5, k6, k7, kB, k8, k9⟩ := k
    have q1 := List.forall_mem_cons.mp hst
    have q2 := List.forall_mem_cons.mp q1.2
    have q3 := List.forall_mem_cons.mp q2.2
    have q4 := List.forall_mem_cons.mp q3.2
    have q5 := List.forall_mem_cons.mp q4.2
    have ha0 := hRel.low k1 (by omega)
    have hb0 := hRel.low k2 (by omega)
    show W p l e R s m args below meth c H locs cs ss Qf (F0 m pc ls (.int len :: .int dp :: cv ad (.ref b) :: .int sp :: cv ad (.ref a) :: r.map (cv ad)))
    rw [cv_ref ha0, cv_ref hb0]
    have hea := wsOf_at (dA := gA g) (ad := ad) ha0 q5.1
    have heb := wsOf_at (dA := gA g) (ad := ad) hb0 q3.1
    rw [ccellR (c := 8) (by decide) k1] at hea
    rw [ccellR (c := 8) (by decide) k2] at heb
    have hf : va_cpy (fun j => ro ad (hR h a j)) (fun j => ro ad (hR h b j)) sp.toNatClampNeg dp.toNatClampNeg len.toNatClampNeg = fun j => ro ad (hR (cpR h a b sp.toNatClampNeg dp.toNatClampNeg len.toNatClampNeg) b j) := funext fun j => by
      rw [hR_cpR, if_pos rfl]; unfold va_cpy; split <;> rfl
    have hws : (wsOf (gA g) ad h).set (b - W0) (ad b, .inl (gA g 8, (hT h b).2, .inr (.inr (.inr (.inr (va_cpy (fun j => ro ad (hR h a j)) (fun j => ro ad (hR h b j)) sp.toNatClampNeg dp.toNatClampNeg len.toNatClampNeg)))))) = wsOf (gA g) ad (cpR h a b sp.toNatClampNeg dp.toNatClampNeg len.toNatClampNeg) := by
      rw [wsOf_set (h' := cpR h a b sp.toNatClampNeg dp.toNatClampNeg len.toNatClampNeg) hb0 q3.1 rfl (fun x hx => ccell_cpR hx), ccellR (h := cpR h a b sp.toNatClampNeg dp.toNatClampNeg len.toNatClampNeg) (c := 8) (by decide) k2, hf]
      rfl
    refine va_copyM A.1 A.2.1 (A.2.2.1.trans hl.1.symm) A.2.2.2.1 (A.2.2.2.2.1 _ hlink) (A.2.2.2.2.1 _ hnat) (A.2.2.2.2.1 _ hst9) (A.2.2.2.2.1 _ hini) A.2.2.2.2.2.1.1 hRel.1 hRel.2.1 hS (a - W0) (b - W0) 8 8 (E0 := "java/lang/Object") (E1 := "java/lang/Object") hea heb rfl rfl k3 k4 k5 k6 k7 (fun i hi y hy => ?_) hF ?_ hd (fun H1 locs1 hP1 hD1 hS1 => ?_)
    · have hy : ro ad (hR h a (sp.toNatClampNeg + i)) = some y := hy
      have hB := kB i hi
      unfold ro at hy
      split at hy
      · cases hy
      · next hz =>
        have hy := (Option.some.inj hy).symm
        subst hy
        obtain ⟨cell, g1, g2, g3⟩ := box_recv A hS (b := hR h a (sp.toNatClampNeg + i)) ⟨by omega, hB⟩
        rw [← hRel.2.2.2 _ (by unfold W0; omega)] at g1
        obtain ⟨kC, hkC, -⟩ := Vm.findClass_spec g3
        exact ⟨cell, g1, g2, ⟨kC, hkC⟩, fun comp h => vb_asgC (A.ow hcB) comp _ h g3⟩
    · rw [sum_cv]
      have : nativeFrameWords "java/lang/System" "arraycopy" 5 + 11 ≤ 52 := by decide +kernel
      omega
    · rw [hws] at hP1 hD1
      exact k9 ad H1 locs1 ls ⟨hP1, hD1, WFh_cpR hRel.2.2.1, hRel.2.2.2⟩ h0 ha hS1 hl hlv q5.2
  · exact k.elim
theorem wsOf_clI {dA : Nat → ClassId} {ad : Nat → Nat} {h : CH} {a q : Nat} (hw : WFh h) : wsOf dA (fun a => if a = hN h then q else ad a) (clI h a) = wsOf dA ad h ++ [(q, ccell dA (fun a => if a = hN h then q else ad a) (clI h a) (hN h))] := by
  have e1 : hN (clI h a) - W0 = (hN h - W0) + 1 := by have := hw.1; rw [hN_clI]; omega
  unfold wsOf
  rw [e1, List.range_succ, List.map_append]
  have e2 : W0 + (hN h - W0) = hN h := by have := hw.1; omega
  have eA : (List.range (hN h - W0)).map (fun i => ((fun a => if a = hN h then q else ad a) (W0 + i), ccell dA (fun a => if a = hN h then q else ad a) (clI h a) (W0 + i))) = (List.range (hN h - W0)).map (fun i => (ad (W0 + i), ccell dA ad h (W0 + i))) := by
    apply List.map_congr_left
    intro i hi
    rw [List.mem_range] at hi
    have hne : W0 + i ≠ hN h := by omega
    show ((if W0 + i = hN h then q else ad (W0 + i)), _) = _
    rw [if_neg hne]
    have c1 : ccell dA (fun a => if a = hN h then q else ad a) (clI h a) (W0 + i) = ccell dA (fun a => if a = hN h then q else ad a) h (W0 + i) := ccell_ext (by rw [hT_clI, if_neg hne]) (funext fun j => by rw [hI_clI, if_neg hne]) (funext fun j => by rw [hJ_clI, if_neg hne]) (funext fun j => by rw [hR_clI, if_neg hne]) (funext fun j => by rw [hD_clI, if_neg hne])
    rw [c1, ccell_congr hw.2.1 (fun a ha => if_neg (Nat.ne_of_lt ha))]
  rw [eA]
  simp only [List.map_cons, List.map_nil, e2, if_true]
theorem WFh_clI {h : CH} {a : Nat} (hw : WFh h) : WFh (clI h a) := by
  refine ⟨by rw [hN_clI]; exact Nat.le_succ_of_le hw.1, fun x k => ?_, fun x hx => ?_, fun x hx => ?_⟩
  · rw [hR_clI, hN_clI]
    split
    · omega
    · exact Nat.lt_succ_of_lt (hw.2.1 x k)
  · rw [hT_clI, if_neg (by have := hw.1; omega)]
    exact hw.2.2.1 x hx
  · rw [hT_clI]
    split
    · show 100 ≤ 108; decide
    · rw [hN_clI] at hx
      exact hw.2.2.2 x (by omega)
theorem o_clo (A : Act g p l s m args meth c cc nL own) {index : Nat} (hlink : Cond.methodLink own index ⟨"[I", "clone", "()Ljava/lang/Object;"⟩ ∈ AW) (hsame : Cond.sameMethod "[I" "java/lang/Object" "clone" "()Ljava/lang/Object;" ∈ AW) (hnat : Cond.native ⟨"java/lang/Object", "clone", "()Ljava/lang/Object;"⟩ ∈ AW) (hinst : Cond.instanceMethod ⟨"java/lang/Object", "clone", "()Ljava/lang/Object;"⟩ ∈ AW) (hsel : Cond.selects "[I" ⟨"[I", "clone", "()Ljava/lang/Object;"⟩ ⟨"java/lang/Object", "clone", "()Ljava/lang/Object;"⟩ ∈ AW) (hcl : Cond.castable "[I" "java/lang/Cloneable" ∈ OW) {MC MS : Nat} (hF : 1 ≤ R.frames) (hL : 22 ≤ R.locals) (hC : MC ≤ R.cells) (hM : MS ≤ R.slots) (hd : decode cc pc = .ok (.invokevirtual index, 3)) : Snd g n0 ads p l e R s m args below meth c nL Qf Q pc (k_clo (pc + 3) MC MS) := by
  intro lv st h cs ss k ad H locs ls hRel h0 ha hS hl hlv hst
  unfold k_clo at k
  split at k
  · next a r =>
    obtain ⟨k1, k2, k3, k4, k5⟩ := k
    have qst := (List.forall_mem_cons.mp hst).2
    have ha0 := hRel.low k1 (by decide)
    have he := wsOf_at (dA := gA g) (ad := ad) ha0 (List.forall_mem_cons.mp hst).1
    rw [ccell100 k1] at he
    show W p l e R s m args below meth c H locs cs ss Qf (F0 m pc ls (cv ad (.ref a) :: r.map (cv ad)))
    rw [cv_ref ha0]
    refine va_clone (ty := .int) A.1 A.2.1 (A.2.2.1.trans hl.1.symm) A.2.2.2.1 (A.2.2.2.2.1 _ hlink) (A.2.2.2.2.1 _ hsame) (A.2.2.2.2.1 _ hnat) (A.2.2.2.2.1 _ hinst) (A.2.2.2.2.1 _ hsel) (A.ow hcl) A.2.2.2.2.2.1.1 hRel.1 hRel.2.1 hS (fun q hq => Nat.le_trans A.2.2.2.2.2.2.2.2.1 hq) (a - W0) 0 he rfl (va_nm_int (A.2.2.2.2.2.1.1.2 0 (gA g 0, .int) rfl).2) (va_fit (F := fun j => .int (hI h a j)) (fun i _ => rfl)) hF (by rw [sum_cv]; omega) (Nat.le_trans k2 hC) (Nat.le_trans k3 hM) hd (fun q H1 hK1 hP1 hD1 hS1 => ?_)
    have hce : ccell (gA g) (fun a => if a = hN h then q else ad a) (clI h a) (hN h) = .inl (gA g 0, (hT h a).2, .inl (hI h a)) := by
      rw [ccell100 (by rw [hT_clI, if_pos rfl])]
      simp only [hT_clI, if_true]
      have ef : hI (clI h a) (hN h) = hI h a := funext fun j => by rw [hI_clI, if_pos rfl]
      rw [ef]
    have hws := wsOf_clI (dA := gA g) (ad := ad) (a := a) (q := q) hRel.2.2.1
    rw [hce] at hws
    rw [← hws] at hP1 hD1
    have hag : ∀ a, a < hN h → (fun a => if a = hN h then q else ad a) a = ad a := fun a ha => if_neg (Nat.ne_of_lt ha)
    have hW0 : W0 ≤ hN h := hRel.2.2.1.1
    have := k5 (fun a => if a = hN h then q else ad a) H1 locs ls ⟨hP1, hD1, WFh_clI hRel.2.2.1, fun a ha => (hag a (Nat.lt_of_lt_of_le ha hW0)).trans (hRel.2.2.2 a ha)⟩ (Nat.le_succ_of_le h0) (fun a ha2 => (hag a (Nat.lt_of_lt_of_le ha2 h0)).trans (ha a ha2)) hS1 (lvr_congr hl hlv hag) (fun v hv => refOK_mono (Nat.le_succ _) (hlv v hv)) (List.forall_mem_cons.mpr ⟨Nat.lt_succ_self _, fun v hv => refOK_mono (Nat.le_succ _) (qst v hv)⟩)
    rw [List.map_cons, map_congr_ref qst hag, cv_ref hW0, if_pos rfl] at this
    exact this
  · exact k.elim
theorem o_callO (A : Act g p l s m args meth c cc nL own) {y : MethodName} {bytes : ByteArray} {maxL index na MC MS : Nat} {ret : Option FieldType} {rm : Room} {w : WT} {C : String} {P : Nat → Prop} (hP : ∀ (H : Heap) (locs : List Loc) (b : Nat), va_S (gF g) s.heap H locs → P b → (b ≠ 0 ∧ b < W0) ∧ ∃ cell : Cell, H[ga g b]? = some cell ∧ cell.vm.isStatics = false ∧ s.vm.findClass C = some cell.cls) (hU : UM y bytes maxL ret rm w) (hcode : Cond.code y bytes maxL ret ∈ AW) (hcls : y.cls = C) (hlink : Cond.methodLink own index y ∈ AW) (hst9 : Cond.instanceMethod y ∈ AW) (hsel : Cond.selects C y y ∈ AW) (hini : Cond.initialized C ∈ AW)
    (hd9 : y.cls ≠ "java/lang/invoke/MethodHandle" ∧ y.cls ≠ "java/lang/invoke/VarHandle" ∧ (parseMethodDescriptor y.desc).map (fun d => d.parameters.length) = some na) (hRm : rm.frames + 1 ≤ R.frames ∧ 8 + (maxL + 11) + rm.locals ≤ R.locals) (hMC : MC ≤ R.cells) (hMS : MS ≤ R.slots) (hE : Exc g n0 ads p l e R s m args below meth c MC MS Qf Q pc) (hd : decode cc pc = .ok (.invokevirtual index, 3)) : Snd g n0 ads p l e R s m args below meth c nL Qf Q pc (k_callO (pc + 3) (na + 1) P rm.cells rm.slots MC MS w) := by
  intro lv st h cs ss k ad H locs ls hR h0 ha hS hl hlv hst
  obtain ⟨⟨b, hb1, hb2⟩, k1, k2, k3, k5, k4⟩ := k
  have hb1 : st[na]? = some (.ref b) := hb1
  have etk : st.take (na + 1) = st.take na ++ [.ref b] := by rw [List.take_succ, hb1]; rfl
  have erev : (st.take (na + 1)).reverse = .ref b :: (st.take na).reverse := by rw [etk, List.reverse_append]; rfl
  have e : st = (st.take na) ++ .ref b :: st.drop (na + 1) := by
    have := (List.take_append_drop (na + 1) st).symm
    rw [etk] at this
    rw [List.append_assoc] at this
    exact this
  have hS9 : CallFix p m c cc nL s args AW own := ⟨A.1, A.2.1, A.2.2.1, A.2.2.2.1, A.2.2.2.2.1⟩
  have hok : ∀ v ∈ (st.take (na + 1)).reverse, refOK (hN h) v := fun v hv => hst v (List.mem_of_mem_take (List.mem_reverse.mp hv))
  obtain ⟨⟨hb0, hbW⟩, hrc⟩ := hP H locs b hS hb2
  have ead : ad b = ga g b := hR.2.2.2 b hbW
  have hargs : ((st.take (na + 1)).reverse.map (cv ad)) = .ref (ad b) :: ((st.take na).reverse).map (cv ad) := by rw [erev, List.map_cons, cv_ne0 hb0]
  have hp : PreV s H C (ad b) (Pcu g ad h (st.take (na + 1)).reverse) (((st.take na).reverse).map (cv ad)) := ⟨Pcu_blind, by rw [ead]; exact hrc, fun U hU9 hW => by
    have := A.pre hR hS hok U hU9 hW
    rw [hargs] at this
    exact this⟩
  refine u_call (MC := MC) (MS := MS) (rest := st.drop (na + 1)) (st := st) A (vx_runV (b := ad b) (C := C) (As := ((st.take na).reverse).map (cv ad)) (rest := (st.drop (na + 1)).map (cv ad)) hS9 (hU l A.2.2.2.2.2.2.2.1 g ad h _ _ k4) (cwV na A.2.2.2.2.1 (goodIn_UM (ws := [.methodLink own index y, .instanceMethod y, .selects C y y, .initialized C]) hcode (by
      intro w hw
      rcases List.mem_cons.mp hw with q | hw
      · rw [q]; exact hlink
      rcases List.mem_cons.mp hw with q | hw
      · rw [q]; exact hst9
      rcases List.mem_cons.mp hw with q | hw
      · rw [q]; exact hsel
      rcases List.mem_cons.mp hw with q | hw
      · rw [q]; exact hini
      · cases hw)) rfl rfl rfl ⟨hcls, hd9⟩ hRm) hp rfl (by rw [List.length_map, List.length_reverse, List.length_take]; omega) hl.1 ?_ ?_ hd ⟨Nat.le_trans k2 hMC, Nat.le_trans k3 hMS⟩) hE h0 ha hS hl hlv (fun v hv => hst v (List.mem_of_mem_drop hv)) k2 k3
  · show st.map (cv ad) = _
    rw [← List.map_reverse, List.reverse_reverse, ← cv_ne0 hb0, ← List.map_cons, ← List.map_append, ← e]
  · refine lv_room ?_
    rw [sum_cv]
    exact k5
/-- a static method of another class -/
theorem o_callSx (A : Act g p l s m args meth c cc nL own) {y : MethodName} {bytes : ByteArray} {maxL index na MC MS : Nat} {ret : Option FieldType} {rm : Room} {w : WT} (hU : UM y bytes maxL ret rm w) (hcode : Cond.code y bytes maxL ret ∈ AW) (hlink : Cond.methodLink own index y ∈ AW) (hst9 : Cond.static y ∈ AW) (hini : Cond.initialized y.cls ∈ AW)
    (hd9 : y.cls ≠ "java/lang/invoke/MethodHandle" ∧ y.cls ≠ "java/lang/invoke/VarHandle" ∧ (parseMethodDescriptor y.desc).map (fun d => d.parameters.length) = some na) (hRm : rm.frames + 1 ≤ R.frames ∧ 8 + (maxL + 11) + rm.locals ≤ R.locals) (hMC : MC ≤ R.cells) (hMS : MS ≤ R.slots) (hE : Exc g n0 ads p l e R s m args below meth c MC MS Qf Q pc) (hd : decode cc pc = .ok (.invokestatic index, 3)) : Snd g n0 ads p l e R s m args below meth c nL Qf Q pc (k_call (pc + 3) na rm.cells rm.slots MC MS w) := by
  intro lv st h cs ss k ad H locs ls hR h0 ha hS hl hlv hst
  obtain ⟨k1, k2, k3, k5, k4⟩ := k
  have e : st = (st.take na).reverse.reverse ++ st.drop na := by rw [List.reverse_reverse, List.take_append_drop]
  have hS9 : CallFix p m c cc nL s args AW own := ⟨A.1, A.2.1, A.2.2.1, A.2.2.2.1, A.2.2.2.2.1⟩
  have hok : ∀ v ∈ (st.take na).reverse, refOK (hN h) v := fun v hv => hst v (List.mem_of_mem_take (List.mem_reverse.mp hv))
  refine u_call (MC := MC) (MS := MS) (rest := st.drop na) (st := st) A (vx_runS (As := ((st.take na).reverse).map (cv ad)) (rest := (st.drop na).map (cv ad)) hS9 (hU l A.2.2.2.2.2.2.2.1 g ad h _ _ k4) (va_cwS na A.2.2.2.2.1 (goodIn_UM (ws := [.methodLink own index y, .static y, .initialized y.cls]) hcode (by
      intro w hw
      rcases List.mem_cons.mp hw with q | hw
      · rw [q]; exact hlink
      rcases List.mem_cons.mp hw with q | hw
      · rw [q]; exact hst9
      rcases List.mem_cons.mp hw with q | hw
      · rw [q]; exact hini
      · cases hw)) rfl rfl rfl hd9 hRm) ⟨Pcu_blind, fun U hU9 hW => A.pre hR hS hok U hU9 hW⟩ rfl (by rw [List.length_map, List.length_reverse, List.length_take]; omega) hl.1 ?_ ?_ hd ⟨Nat.le_trans k2 hMC, Nat.le_trans k3 hMS⟩) hE h0 ha hS hl hlv (fun v hv => hst v (List.mem_of_mem_drop hv)) k2 k3
  · show st.map (cv ad) = _
    rw [← List.map_reverse, ← List.map_append, ← e]
  · refine lv_room ?_
    rw [sum_cv]
    exact k5
end HOLES2
section HOLES3
variable {g : Gc} {n0 : Nat} {ads : Nat → Nat} {p : Program} {l : Launch} {e : Env} {R : Room} {s : State} {m : MethodId} {args : Array Value} {below : List Frame} {meth : Method} {c : Code} {nL : Nat} {Qf : State → Prop} {Q : QT} {cc : ByteArray} {own : String} {pc : Nat}
theorem boxP (A : Act g p l s m args meth c cc nL own) : ∀ (H : Heap) (locs : List Loc) (b : Nat), va_S (gF g) s.heap H locs → isBox b → (b ≠ 0 ∧ b < W0) ∧ ∃ cell : Cell, H[ga g b]? = some cell ∧ cell.vm.isStatics = false ∧ s.vm.findClass "java/lang/Integer" = some cell.cls := fun _ _ _ hS hb => ⟨⟨(box_ne hb).1, (box_ne hb).2.1⟩, box_recv A hS hb⟩
theorem txtP (A : Act g p l s m args meth c cc nL own) : ∀ (H : Heap) (locs : List Loc) (b : Nat), va_S (gF g) s.heap H locs → isTxt b → (b ≠ 0 ∧ b < W0) ∧ ∃ cell : Cell, H[ga g b]? = some cell ∧ cell.vm.isStatics = false ∧ s.vm.findClass "java/lang/String" = some cell.cls := fun _ _ b hS hb => by
  have e : b = 260 := hb
  subst e
  exact ⟨⟨by decide, by decide⟩, txt_recv A hS⟩
theorem o_ldcTx (A : Act g p l s m args meth c cc nL "WritebackModel") (hd : decode cc pc = .ok (.ldc_w 312, 3)) : Snd g n0 ads p l e R s m args below meth c nL Qf Q pc (k_push (pc + 3) (.ref 260)) := by
  intro lv st h cs ss k ad H locs ls hR h0 ha hS hl hlv hst
  have hZ := A.gex.2.2.2.2.2.2.2.2.2.2.2
  have k2 := k ad H locs ls hR h0 ha hS hl hlv (List.forall_mem_cons.mpr ⟨refOK_out (a := 260) hR (by decide), hst⟩)
  rw [List.map_cons, cv_out (a := 260) hR (by decide) (by decide)] at k2
  intro T hT X
  obtain ⟨t, a1, b1⟩ := k2 T hT X
  exact ⟨t, X.ldcStringW A.1 A.2.2.2.1 (text := "lfcb") (index := 312) (a := ga g 260) hZ.1 hZ.2 (g := F0 m pc ls (st.map (cv ad))) rfl (by rw [A.2.1]; exact hd) t a1, b1⟩
theorem o_i2b (A : Act g p l s m args meth c cc nL own) (hd : decode cc pc = .ok (.i2b, 1)) : Snd g n0 ads p l e R s m args below meth c nL Qf Q pc (k_uI (pc + 1) (fun x => .int x.toInt8.toInt32)) := by
  intro lv st h cs ss k ad H locs ls hR h0 ha hS hl hlv hst
  unfold k_uI at k
  split at k
  · next x r => exact lv_i2b A.1 A.2.1 hd rfl (k ad H locs ls hR h0 ha hS hl hlv (List.forall_mem_cons.mpr ⟨trivial, (List.forall_mem_cons.mp hst).2⟩))
  · exact k.elim
theorem same_modCount {args : Array Value} (U : State) (x : ClassId × Class × Nat × Field) (h : ∀ w ∈ AW, w.before args U = true) (hw : Cond.sameField "java/util/ArrayList" "java/util/AbstractList" "modCount" "I" ∈ AW) (hx : U.fieldFound? "java/util/AbstractList" "modCount" "I" = some x) : U.fieldFound? "java/util/ArrayList" "modCount" "I" = some x := by
  have w := h _ hw
  cases hr : U.fieldFound? "java/util/ArrayList" "modCount" "I" with
  | none => simp [Cond.before, Cond.holds, Cond.value, hr] at w
  | some y => obtain ⟨c1, k1, i1, f1⟩ := y; rw [Cond.sameField_spec hr w] at hx; exact hx
end HOLES3
section HOLES4
variable {l : Launch}
theorem vx_ofWF {y : MethodName} {ws ws' : List Cond} {rm : Room} {Pc : Array Value → State → Prop} {Qc : Array Value → State → Outcome → State → Prop} {XC : String → State → State → Prop} {mc ms : Nat} {free : Addr → Prop} {cc : ByteArray} {maxL : Nat} {ret : Option FieldType}
    (hy : plainFor y = true) (hw : ws = Cond.code y cc maxL ret :: ws')
    (body : ∀ p e s m args below meth c s₁, BodyLoose p l y (headSpec ws rm) cc maxL ret e s m args below meth c s₁ → c.maxLocals = maxL → (∀ x ∈ c.exceptionTable.toList, False) → Pc args s →
      W p l e (headSpec ws rm).room s m args below meth c s.heap [] 0 0 (vx_MQ below Qc XC args s mc ms free) (entryFrame m args maxL)) : vx_Met l y ws rm Pc Qc XC mc ms free := by
  refine MetFree.of_bodySF (code := cc) (maxLocals := maxL) (ret := ret) hy ?_ ?_
  · intro args s m h hn
    obtain ⟨meth, c, h1, h2, h3, h4, h5, h6, -, -⟩ := Cond.code_spec hn (atoms_spec (ws := ws) h _ (by rw [hw]; exact List.mem_cons_self))
    exact ⟨meth, c, h1, h2, h3, h4, h5, h6⟩
  · intro p e s m args below meth c s₁ B hml hP _
    have hh0 : s₁.heap = s.heap := by rw [B.state]; rfl
    have ht : ∀ x ∈ c.exceptionTable.toList, False := by
      obtain ⟨meth9, c9, h1, h2, -, -, -, -, h7, -⟩ := Cond.code_spec B.named (atoms_spec (ws := ws) B.pre _ (by rw [hw]; exact List.mem_cons_self))
      cases Option.some.inj (h1.symm.trans B.method)
      cases Option.some.inj (h2.symm.trans (Stand.of_body B).code)
      intro x hx
      rw [Array.isEmpty_iff.mp h7] at hx
      cases hx
    obtain ⟨t, a1, o, b1, b2, b3⟩ := body p e s m args below meth c s₁ B hml ht hP s₁ hh0 (Stand.of_body B)
    exact ⟨t, o, a1, b1, b2, b3⟩
end HOLES4
theorem UM.ofF {y : MethodName} {cc : ByteArray} {maxL : Nat} {ret : Option FieldType} {rm : Room} {code : Nat → Sem} (hy : plainFor y = true) (hc : ∀ pc, SndM y cc maxL ret rm pc (code pc)) : UM y cc maxL ret rm (fun av h Q => (av.flatMap (fun v => if cat2 v = true then [v, Value.null] else [v])).length ≤ maxL ∧ wpI code Q 0 (ent maxL av) [] h 0 0) := by
  intro l hl g ad h av Q hw
  refine vx_ofWF (cc := cc) (maxL := maxL) (ret := ret) hy rfl ?_
  intro p e s m args below meth c s₁ B hml ht hP
  obtain ⟨rfl, hX, hR, hb1, hb2, hav⟩ := hP
  have hts : ∀ w ∈ Cond.code y cc maxL ret :: AW, w.before (av.map (cv ad)).toArray s = true := atoms_spec (ws := Cond.code y cc maxL ret :: AW) B.pre
  have hown : s.vm.findClass y.cls = some m.cls := findClass_of_methodNamed B.named
  have A : Act g p l s m (av.map (cv ad)).toArray meth c cc maxL y.cls := ⟨B.exec, B.bytes, hml, hown, AW_in hts, hX, B.notSynchronized, hl, hb1, hb2⟩
  have hS : va_S (gF g) s.heap s.heap [] := va_S.rf
  have hlen : (lg_sl (av.map (cv ad))).length ≤ maxL := by rw [← ent_len]; exact hw.1
  have hent := lv_entry (av.map (cv ad)) (n := maxL) hlen
  have key := hw.2 (Wok g (hN h) ad p l e rm s m (av.map (cv ad)).toArray below meth c maxL (vx_MQ below (Qcu g ad h Q) (XCu g ad h Q) (av.map (cv ad)).toArray s rm.cells rm.slots (gF g))) (fun pc => hc pc g h ad p l e s m _ below meth c Q A B.returns (name_of_methodNamed B.named B.method).1 ht)
  rw [lg_entry_eq]
  have hl0 : lvr ad (lg_sl (av.map (cv ad)) ++ List.replicate (maxL - (lg_sl (av.map (cv ad))).length) Slot.unset).toArray (ent maxL av) maxL := by
    refine ⟨hent.1, ?_, hent.2.1, fun i v hi hv => ?_⟩
    · show (_ ++ _ : List Value).length ≤ maxL
      rw [List.length_append, List.length_replicate]
      omega
    · have hi : ((av.flatMap (fun v => if cat2 v = true then [v, Value.null] else [v])) ++ List.replicate (maxL - (av.flatMap (fun v => if cat2 v = true then [v, Value.null] else [v])).length) Value.null)[i]? = some v := hi
      rcases Nat.lt_or_ge i (av.flatMap (fun v => if cat2 v = true then [v, Value.null] else [v])).length with q | q
      · rw [List.getElem?_append_left q] at hi
        have := ent_at (ad := ad) av 0 i v hi hv
        rw [Nat.zero_add] at this
        exact hent.2.2 _ this
      · rw [List.getElem?_append_right q] at hi
        exact absurd (List.eq_of_mem_replicate (List.mem_of_getElem? hi)) hv
  exact key ad s.heap [] _ hR (Nat.le_refl _) (fun _ _ => rfl) hS hl0 (ent_ref hav) (fun v hv => by cases hv)
theorem UM.ofTF {y : MethodName} {cc : ByteArray} {maxL : Nat} {ret : Option FieldType} {rm : Room} {L : List (Nat × Sem)} (hy : plainFor y = true) (hc : AllS y cc maxL ret rm L) : UM y cc maxL ret rm (wT maxL L) := UM.ofF hy (tab_snd hc)
theorem okr_byte : ∀ v, okv 3 v → narrow .byte (.int v) = .int v := fun v h => by
  rcases (h : v = 0 ∨ v = 1) with z | z <;> rw [z] <;> decide
