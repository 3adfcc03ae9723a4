/-! THE INSTRUCTIONS, 6: constructors, the JDK's numbers, copies -/
theorem met_of_vx {l : Launch} {y : MethodName} {ws : List Cond} {rm : Room} {Pc : Array Value → State → Prop} {Qc : Array Value → State → Outcome → State → Prop} {XC : String → State → State → Prop} {mc ms : Nat} {free : Addr → Prop} (h : vx_Met l y ws rm Pc Qc XC mc ms free) (hx : ∀ E st t, ¬ XC E st t) : Met l y ws rm Pc Qc mc ms free := by
  intro p e h1 h2 h3 s m args below h4 h5 h6 h7
  obtain ⟨n, o, a1, a2, a3, a4⟩ := h p e h1 h2 h3 s m args below h4 h5 h6 h7
  refine ⟨n, o, a1, a2, a3, ?_⟩
  rcases a4 with q | ⟨q, -, E, ce, L, hX, -⟩
  · exact q
  · exact (hx _ _ _ hX).elim
def k_callI (n na mc ms MC MS : Nat) (w : WT) : Sem := fun X _ lv st h cs ss => (∃ b : Nat, st[na]? = some (.ref b) ∧ b ≠ 0) ∧ cs + mc ≤ MC ∧ ss + ms ≤ MS ∧ ((st.drop (na + 1)).map (fun v => v.category)).sum ≤ 8 ∧ w (st.take (na + 1)).reverse h (fun r h' => match r with
  | .inl vs => X n lv (vs ++ st.drop (na + 1)) h' (cs + mc) (ss + ms)
  | .inr _ => False)
theorem mono_callI (n na mc ms MC MS : Nat) (w : WT) (hw : ∀ av h (Q Q' : QT), (∀ r h, Q r h → Q' r h) → w av h Q → w av h Q') : Mono (k_callI n na mc ms MC MS w) := by
  intro X Y Q Q' hX hQ lv st h cs ss k
  refine ⟨k.1, k.2.1, k.2.2.1, k.2.2.2.1, hw _ _ _ _ (fun r h' q => ?_) k.2.2.2.2⟩
  cases r with
  | inl vs => exact hX _ _ _ _ _ _ q
  | inr E => exact q
/-- Object's own constructor: nothing -/
def k_oinit (n : Nat) : Sem := fun X _ lv st h cs ss => match st with
  | .ref a :: r => a ≠ 0 ∧ (r.map (fun v => v.category)).sum ≤ 8 ∧ X n lv r h cs ss
  | _ => False
theorem mono_oinit (n : Nat) : Mono (k_oinit n) := by
  intro X Y Q Q' hX hQ lv st h cs ss k
  unfold k_oinit at *; split at k <;> first | exact ⟨k.1, k.2.1, hX _ _ _ _ _ _ k.2.2⟩ | exact k.elim
def k_abs (n MC MS : Nat) : Sem := fun X _ lv st h cs ss => match st with
  | .int x :: r => cs ≤ MC ∧ ss ≤ MS ∧ (r.map (fun v => v.category)).sum ≤ 8 ∧ X n lv (.int (if 0 ≤ x then x else 0 - x) :: r) h cs ss
  | _ => False
def k_max (n MC MS : Nat) : Sem := fun X _ lv st h cs ss => match st with
  | .int y :: .int x :: r => cs ≤ MC ∧ ss ≤ MS ∧ (r.map (fun v => v.category)).sum ≤ 8 ∧ X n lv (.int (if x < y then y else x) :: r) h cs ss
  | _ => False
def k_min (n MC MS : Nat) : Sem := fun X _ lv st h cs ss => match st with
  | .int y :: .int x :: r => cs ≤ MC ∧ ss ≤ MS ∧ (r.map (fun v => v.category)).sum ≤ 8 ∧ X n lv (.int (if y < x then y else x) :: r) h cs ss
  | _ => False
theorem mono_abs (n MC MS : Nat) : Mono (k_abs n MC MS) := by
  intro X Y Q Q' hX hQ lv st h cs ss k
  unfold k_abs at *; split at k <;> first | exact ⟨k.1, k.2.1, k.2.2.1, hX _ _ _ _ _ _ k.2.2.2⟩ | exact k.elim
theorem mono_max (n MC MS : Nat) : Mono (k_max n MC MS) := by
  intro X Y Q Q' hX hQ lv st h cs ss k
  unfold k_max at *; split at k <;> first | exact ⟨k.1, k.2.1, k.2.2.1, hX _ _ _ _ _ _ k.2.2.2⟩ | exact k.elim
theorem mono_min (n MC MS : Nat) : Mono (k_min n MC MS) := by
  intro X Y Q Q' hX hQ lv st h cs ss k
  unfold k_min at *; split at k <;> first | exact ⟨k.1, k.2.1, k.2.2.1, hX _ _ _ _ _ _ k.2.2.2⟩ | exact k.elim
section MORE
variable {g : Gc} {n0 : Nat} {ads : Nat → Nat} {p : Program} {l : Launch} {e : Env} {R : Room} {s : State} {m : MethodId} {args : Array Value} {below : List Frame} {meth : Method} {c : Code} {nL : Nat} {Qf : State → Prop} {Q : QT} {cc : ByteArray} {own : String} {pc : Nat}
theorem va_to_vx {H : Heap} {locs : List Loc} {cells slots mc ms : Nat} {gf : JFrame} {rest : List Value} {Qa : State → Outcome → State → Prop} {XC : String → State → State → Prop} {free : Addr → Prop} (h : va_Run p l e R s m args below meth c H locs cells slots mc ms gf rest Qa free) : vx_Run p l e R s m args below meth c H locs cells slots mc ms gf rest Qa XC free := fun T hT X => Or.inl (h T hT X)
theorem cv_ne0 {ad : Nat → Nat} {b : Nat} (h : b ≠ 0) : cv ad (.ref b) = .ref (ad b) := by
  show va_rf (ro ad b) = _
  unfold ro
  rw [if_neg h]
  rfl
theorem o_oinit (A : Act g p l s m args meth c cc nL own) {index : Nat} (hlink : Cond.methodLink own index Lib.objectInit ∈ AW) (hin : Cond.instanceMethod Lib.objectInit ∈ AW) (hco : Cond.code Lib.objectInit ⟨#[0xb1]⟩ 1 none ∈ AW) (hF : 1 ≤ R.frames) (hL : 20 ≤ R.locals) (hd : decode cc pc = .ok (.invokespecial index, 3)) : Snd g n0 ads p l e R s m args below meth c nL Qf Q pc (k_oinit (pc + 3)) := by
  intro lv st h cs ss k ad H locs ls hR h0 ha hS hl hlv hst
  unfold k_oinit at k
  split at k
  · next a r =>
    show W p l e R s m args below meth c H locs cs ss Qf (F0 m pc ls (cv ad (.ref a) :: r.map (cv ad)))
    rw [cv_ne0 k.1]
    refine W.objInit A.1 A.2.1 A.2.2.2.1 (A.2.2.2.2.1 _ hlink) (A.2.2.2.2.1 _ hin) (A.2.2.2.2.1 _ hco) (g := F0 m pc ls (.ref (ad a) :: r.map (cv ad))) rfl (hl.1.trans A.2.2.1.symm) rfl hd hF ?_ (k.2.2 ad H locs ls hR h0 ha hS hl hlv (List.forall_mem_cons.mp hst).2)
    have := lv_room (m := m) (pc := pc) (ls := ls) (rest := .ref (ad a) :: r.map (cv ad)) (st := r.map (cv ad)) (by rw [sum_cv]; exact k.2.1)
    omega
  · exact k.elim
/-- a constructor of another class's: by an ordinary link, or by one within a nest -/
theorem o_callI (A : Act g p l s m args meth c cc nL own) {y : MethodName} {bytes : ByteArray} {maxL index na MC MS : Nat} {rm : Room} {w : WT} (hU : UM y bytes maxL none rm w) (hcode : Cond.code y bytes maxL none ∈ AW) (hlink : Cond.methodLink own index y ∈ AW ∨ ∃ host, Cond.methodLinkNest own index y host ∈ OW) (hst9 : Cond.instanceMethod y ∈ AW) (hini : Cond.initialized y.cls ∈ AW) (hnm : y.name = "<init>")
    (hd9 : y.cls ≠ "java/lang/invoke/MethodHandle" ∧ y.cls ≠ "java/lang/invoke/VarHandle" ∧ (parseMethodDescriptor y.desc).map (fun d => d.parameters.length) = some na) (hRm : rm.frames + 1 ≤ R.frames ∧ 8 + (maxL + 11) + rm.locals ≤ R.locals) (hMC : MC ≤ R.cells) (hMS : MS ≤ R.slots) (hd : decode cc pc = .ok (.invokespecial index, 3)) : Snd g n0 ads p l e R s m args below meth c nL Qf Q pc (k_callI (pc + 3) na rm.cells rm.slots MC MS w) := by
  intro lv st h cs ss k ad H locs ls hR h0 ha hS hl hlv hst
  obtain ⟨⟨b, hb1, hb2⟩, k2, k3, k5, k4⟩ := k
  have etk : st.take (na + 1) = st.take na ++ [.ref b] := by rw [List.take_succ, hb1]; rfl
  have erev : (st.take (na + 1)).reverse = .ref b :: (st.take na).reverse := by rw [etk, List.reverse_append]; rfl
  have e9 : st = (st.take na) ++ .ref b :: st.drop (na + 1) := by
    have := (List.take_append_drop (na + 1) st).symm
    rw [etk] at this
    rw [List.append_assoc] at this
    exact this
  have hS9 : CallFix p m c cc nL s args AW own := ⟨A.1, A.2.1, A.2.2.1, A.2.2.2.1, A.2.2.2.2.1⟩
  have hok : ∀ v ∈ (st.take (na + 1)).reverse, refOK (hN h) v := fun v hv => hst v (List.mem_of_mem_take (List.mem_reverse.mp hv))
  have hargs : ((st.take (na + 1)).reverse.map (cv ad)) = .ref (ad b) :: ((st.take na).reverse).map (cv ad) := by rw [erev, List.map_cons, cv_ne0 hb2]
  have hp : PreS s H (Pcu g ad h (st.take (na + 1)).reverse) (.ref (ad b) :: ((st.take na).reverse).map (cv ad)) := ⟨Pcu_blind, fun U hU9 hW => by
    have := A.pre hR hS hok U hU9 hW
    rw [hargs] at this
    exact this⟩
  have hM := met_of_vx (hU l A.2.2.2.2.2.2.2.1 g ad h _ _ k4) (fun E s1 t q => by
    obtain ⟨⟨_, _, q, -⟩, -⟩ := q
    exact q)
  have hes : st.map (cv ad) = (((st.take na).reverse).map (cv ad)).reverse ++ .ref (ad b) :: (st.drop (na + 1)).map (cv ad) := by
    rw [← List.map_reverse, List.reverse_reverse, ← cv_ne0 hb2, ← List.map_cons, ← List.map_append, ← e9]
  have hlen9 : (((st.take na).reverse).map (cv ad)).length = na := by
    have := (List.getElem?_eq_some_iff.mp hb1).1
    rw [List.length_map, List.length_reverse, List.length_take]
    omega
  have hrun : va_Run p l e R s m args below meth c H locs cs ss rm.cells rm.slots (F0 m pc ls (st.map (cv ad))) ((st.drop (na + 1)).map (cv ad)) (Qcu g ad h (fun r h' => match r with
      | .inl vs => Wok g n0 ads p l e R s m args below meth c nL Qf (pc + 3) lv (vs ++ st.drop (na + 1)) h' (cs + rm.cells) (ss + rm.slots)
      | .inr _ => False) (Value.ref (ad b) :: ((st.take na).reverse).map (cv ad)).toArray) (gF g) := by
    rcases hlink with hlink | ⟨host, hlink⟩
    · exact va_runI (As := ((st.take na).reverse).map (cv ad)) (rest := (st.drop (na + 1)).map (cv ad)) hS9 hM (cwI na A.2.2.2.2.1 (goodIn_UM (ws := []) hcode (by simp)) rfl rfl rfl (A.2.2.2.2.1 _ hini) (A.2.2.2.2.1 _ hlink) (A.2.2.2.2.1 _ hst9) hnm hd9 hRm) hp rfl hlen9 hl.1 hes (lv_room (by rw [sum_cv]; exact k5)) hd ⟨Nat.le_trans k2 hMC, Nat.le_trans k3 hMS⟩
    · exact va_runIN (As := ((st.take na).reverse).map (cv ad)) (rest := (st.drop (na + 1)).map (cv ad)) hS9 hM ⟨va_cnB na A.2.2.2.2.1 (goodIn_UM (ws := []) hcode (by simp)) rfl rfl rfl (A.2.2.2.2.2.1.2.2.2.1 _ hlink) (A.2.2.2.2.1 _ hini) hd9 hRm, hnm, A.2.2.2.2.1 _ hst9⟩ hp rfl hlen9 hl.1 hes (lv_room (by rw [sum_cv]; exact k5)) hd ⟨Nat.le_trans k2 hMC, Nat.le_trans k3 hMS⟩
  have hrun2 := va_to_vx (XC := XCu g ad h (fun r h' => match r with
      | .inl vs => Wok g n0 ads p l e R s m args below meth c nL Qf (pc + 3) lv (vs ++ st.drop (na + 1)) h' (cs + rm.cells) (ss + rm.slots)
      | .inr _ => False)) hrun
  exact u_call (Q := fun _ _ => False) (MC := MC) (MS := MS) (rest := st.drop (na + 1)) (st := st) A hrun2 (fun _ _ _ _ _ _ _ _ _ _ _ q => q.elim) h0 ha hS hl hlv (fun v hv => hst v (List.mem_of_mem_drop hv)) k2 k3
theorem o_abs (A : Act g p l s m args meth c cc nL own) {index MC MS : Nat} (hlink : Cond.methodLink own index Lib.Math.abs.name ∈ AW) (hst9 : Cond.static Lib.Math.abs.name ∈ AW) (hini : Cond.initialized "java/lang/Math" ∈ AW) (hco : Cond.code Lib.Math.abs.name Lib.Math.abs.code 1 (some .int) ∈ AW) (hF : 1 ≤ R.frames) (hL : 21 ≤ R.locals) (hC : MC ≤ R.cells) (hM : MS ≤ R.slots) (hd : decode cc pc = .ok (.invokestatic index, 3)) : Snd g n0 ads p l e R s m args below meth c nL Qf Q pc (k_abs (pc + 3) MC MS) := by
  intro lv st h cs ss k ad H locs ls hR h0 ha hS hl hlv hst
  unfold k_abs at k
  split at k
  · next x r => exact va_mabs A.1 A.2.1 (A.2.2.1.trans hl.1.symm) A.2.2.2.1 (A.2.2.2.2.1 _ hlink) (A.2.2.2.2.1 _ hst9) (A.2.2.2.2.1 _ hini) (A.2.2.2.2.1 _ hco) hF (by rw [sum_cv]; have := k.2.2.1; omega) (Nat.le_trans k.1 hC) (Nat.le_trans k.2.1 hM) hd (k.2.2.2 ad H locs ls hR h0 ha hS hl hlv (List.forall_mem_cons.mpr ⟨trivial, (List.forall_mem_cons.mp hst).2⟩))
  · exact k.elim
theorem o_max (A : Act g p l s m args meth c cc nL own) {index MC MS : Nat} (hlink : Cond.methodLink own index Lib.Math.max.name ∈ AW) (hst9 : Cond.static Lib.Math.max.name ∈ AW) (hini : Cond.initialized "java/lang/Math" ∈ AW) (hco : Cond.code Lib.Math.max.name Lib.Math.max.code 2 (some .int) ∈ AW) (hF : 1 ≤ R.frames) (hL : 21 ≤ R.locals) (hC : MC ≤ R.cells) (hM : MS ≤ R.slots) (hd : decode cc pc = .ok (.invokestatic index, 3)) : Snd g n0 ads p l e R s m args below meth c nL Qf Q pc (k_max (pc + 3) MC MS) := by
  intro lv st h cs ss k ad H locs ls hR h0 ha hS hl hlv hst
  unfold k_max at k
  split at k
  · next y x r => exact va_mmax A.1 A.2.1 (A.2.2.1.trans hl.1.symm) A.2.2.2.1 (A.2.2.2.2.1 _ hlink) (A.2.2.2.2.1 _ hst9) (A.2.2.2.2.1 _ hini) (A.2.2.2.2.1 _ hco) hF (by rw [sum_cv]; have := k.2.2.1; omega) (Nat.le_trans k.1 hC) (Nat.le_trans k.2.1 hM) hd (k.2.2.2 ad H locs ls hR h0 ha hS hl hlv (List.forall_mem_cons.mpr ⟨trivial, (List.forall_mem_cons.mp (List.forall_mem_cons.mp hst).2).2⟩))
  · exact k.elim
theorem o_min (A : Act g p l s m args meth c cc nL own) {index MC MS : Nat} (hlink : Cond.methodLink own index Lib.Math.min.name ∈ AW) (hst9 : Cond.static Lib.Math.min.name ∈ AW) (hini : Cond.initialized "java/lang/Math" ∈ AW) (hco : Cond.code Lib.Math.min.name Lib.Math.min.code 2 (some .int) ∈ AW) (hF : 1 ≤ R.frames) (hL : 21 ≤ R.locals) (hC : MC ≤ R.cells) (hM : MS ≤ R.slots) (hd : decode cc pc = .ok (.invokestatic index, 3)) : Snd g n0 ads p l e R s m args below meth c nL Qf Q pc (k_min (pc + 3) MC MS) := by
  intro lv st h cs ss k ad H locs ls hR h0 ha hS hl hlv hst
  unfold k_min at k
  split at k
  · next y x r => exact va_mmin A.1 A.2.1 (A.2.2.1.trans hl.1.symm) A.2.2.2.1 (A.2.2.2.2.1 _ hlink) (A.2.2.2.2.1 _ hst9) (A.2.2.2.2.1 _ hini) (A.2.2.2.2.1 _ hco) hF (by rw [sum_cv]; have := k.2.2.1; omega) (Nat.le_trans k.1 hC) (Nat.le_trans k.2.1 hM) hd (k.2.2.2 ad H locs ls hR h0 ha hS hl hlv (List.forall_mem_cons.mpr ⟨trivial, (List.forall_mem_cons.mp (List.forall_mem_cons.mp hst).2).2⟩))
  · exact k.elim
end MORE
section MORE2
variable {g : Gc} {n0 : Nat} {ads : Nat → Nat} {p : Program} {l : Launch} {e : Env} {R : Room} {s : State} {m : MethodId} {args : Array Value} {below : List Frame} {meth : Method} {c : Code} {nL : Nat} {Qf : State → Prop} {Q : QT} {cc : ByteArray} {own : String} {pc : Nat}
theorem o_ldcfw (A : Act g p l s m args meth c cc nL own) {ix : Nat} {v : UInt32} (hw : Cond.constantFloat own ix v ∈ AW) (hd : decode cc pc = .ok (.ldc_w ix, 3)) : Snd g n0 ads p l e R s m args below meth c nL Qf Q pc (k_push (pc + 3) (.float v)) := by
  intro lv st h cs ss k ad H locs ls hR h0 ha hS hl hlv hst T hT X
  obtain ⟨t, a, b⟩ := k ad H locs ls hR h0 ha hS hl hlv (List.forall_mem_cons.mpr ⟨trivial, hst⟩) T hT X
  refine ⟨t, ?_, b⟩
  obtain ⟨kk, cf, hk, hcf, hcp⟩ := Cond.constantFloat_spec A.2.2.2.1 (A.2.2.2.2.1 _ hw)
  obtain ⟨k', hk', he⟩ := X.warmed.alike.2.2 _ _ hk
  jvm_step X.here [A.1, A.2.1, hd, ldc_w.wp_float (s := T) (f := F0 m pc ls (st.map (cv ad))) X.here.top hk' (by rw [he]; exact hcf) hcp]
  exact a
/-- System.arraycopy of ints, all within -/
def k_copyI (n : Nat) : Sem := fun X _ lv st h cs ss => match st with
  | .int len :: .int dp :: .ref b :: .int sp :: .ref a :: r => (hT h a).1 = 100 ∧ (hT h b).1 = 100 ∧ ¬ sp < 0 ∧ ¬ dp < 0 ∧ ¬ len < 0 ∧ sp.toNatClampNeg + len.toNatClampNeg ≤ (hT h a).2 ∧ dp.toNatClampNeg + len.toNatClampNeg ≤ (hT h b).2 ∧ (r.map (fun v => v.category)).sum ≤ 8 ∧ X n lv r (cpI h a b sp.toNatClampNeg dp.toNatClampNeg len.toNatClampNeg) cs ss
  | _ => False
theorem mono_copyI (n : Nat) : Mono (k_copyI n) := by
  intro X Y Q Q' hX hQ lv st h cs ss k
  unfold k_copyI at *; split at k <;> first | exact ⟨k.1, k.2.1, k.2.2.1, k.2.2.2.1, k.2.2.2.2.1, k.2.2.2.2.2.1, k.2.2.2.2.2.2.1, k.2.2.2.2.2.2.2.1, hX _ _ _ _ _ _ k.2.2.2.2.2.2.2.2⟩ | exact k.elim
theorem ccell_cpI {dA : Nat → ClassId} {ad : Nat → Nat} {h : CH} {a b sp dp n x : Nat} (hx : x ≠ b) : ccell dA ad (cpI h a b sp dp n) x = ccell dA ad h x := ccell_ext rfl (funext fun j => by rw [hI_cpI, if_neg hx]) rfl rfl rfl
theorem o_copyI (A : Act g p l s m args meth c cc nL own) {index : Nat} (hlink : Cond.methodLink own index arraycopyName ∈ AW) (hnat : Cond.native arraycopyName ∈ AW) (hst9 : Cond.static arraycopyName ∈ AW) (hini : Cond.initialized "java/lang/System" ∈ AW) (hF : 1 ≤ R.frames) (hL : 60 ≤ R.locals) (hd : decode cc pc = .ok (.invokestatic index, 3)) : Snd g n0 ads p l e R s m args below meth c nL Qf Q pc (k_copyI (pc + 3)) := by
  intro lv st h cs ss k ad H locs ls hRel h0 ha hS hl hlv hst
  unfold k_copyI at k
  split at k
  · next len dp b sp a r =>
    obtain ⟨k1, k2, k3, k4, k5, k6, k7, k8, k9⟩ := k
    have q1 := List.forall_mem_cons.mp hst
    have q2 := List.forall_mem_cons.mp q1.2
    have q3 := List.forall_mem_cons.mp q2.2
    have q4 := List.forall_mem_cons.mp q3.2
    have q5 := List.forall_mem_cons.mp q4.2
    have ha0 := hRel.low k1 (by omega)
    have hb0 := hRel.low k2 (by omega)
    show W p l e R s m args below meth c H locs cs ss Qf (F0 m pc ls (.int len :: .int dp :: cv ad (.ref b) :: .int sp :: cv ad (.ref a) :: r.map (cv ad)))
    rw [cv_ref ha0, cv_ref hb0]
    have hea := wsOf_at (dA := gA g) (ad := ad) ha0 q5.1
    have heb := wsOf_at (dA := gA g) (ad := ad) hb0 q3.1
    rw [ccell100 k1] at hea
    rw [ccell100 k2] at heb
    have hf : va_cpy (hI h a) (hI h b) sp.toNatClampNeg dp.toNatClampNeg len.toNatClampNeg = hI (cpI h a b sp.toNatClampNeg dp.toNatClampNeg len.toNatClampNeg) b := funext fun j => by rw [hI_cpI, if_pos rfl]
    have hws : (wsOf (gA g) ad h).set (b - W0) (ad b, .inl (gA g 0, (hT h b).2, .inl (va_cpy (hI h a) (hI h b) sp.toNatClampNeg dp.toNatClampNeg len.toNatClampNeg))) = wsOf (gA g) ad (cpI h a b sp.toNatClampNeg dp.toNatClampNeg len.toNatClampNeg) := by
      rw [wsOf_set (h' := cpI h a b sp.toNatClampNeg dp.toNatClampNeg len.toNatClampNeg) hb0 q3.1 rfl (fun x hx => ccell_cpI hx), ccell100 (h := cpI h a b sp.toNatClampNeg dp.toNatClampNeg len.toNatClampNeg) k2, hf]
      rfl
    refine va_copyi A.1 A.2.1 (A.2.2.1.trans hl.1.symm) A.2.2.2.1 (A.2.2.2.2.1 _ hlink) (A.2.2.2.2.1 _ hnat) (A.2.2.2.2.1 _ hst9) (A.2.2.2.2.1 _ hini) A.2.2.2.2.2.1.1 hRel.1 hRel.2.1 hS (a - W0) (b - W0) 0 0 (ty := .int) hea heb rfl rfl rfl k3 k4 k5 k6 k7 (fun i _ => rfl) hF ?_ hd (fun H1 locs1 hP1 hD1 hS1 => ?_)
    · rw [sum_cv]
      have : nativeFrameWords "java/lang/System" "arraycopy" 5 + 11 ≤ 52 := by decide +kernel
      omega
    · have hP1 : va_P (gD g) vwCl ((wsOf (gA g) ad h).set (b - W0) (ad b, .inl (gA g 0, (hT h b).2, .inl (va_cpy (hI h a) (hI h b) sp.toNatClampNeg dp.toNatClampNeg len.toNatClampNeg)))) H1 := hP1
      have hD1 : va_D (gF g) ((wsOf (gA g) ad h).set (b - W0) (ad b, .inl (gA g 0, (hT h b).2, .inl (va_cpy (hI h a) (hI h b) sp.toNatClampNeg dp.toNatClampNeg len.toNatClampNeg)))) := hD1
      rw [hws] at hP1 hD1
      exact k9 ad H1 locs1 ls ⟨hP1, hD1, hRel.2.2.1, hRel.2.2.2⟩ h0 ha hS1 hl hlv q5.2
  · exact k.elim
end MORE2
