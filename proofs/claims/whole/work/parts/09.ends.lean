/-! THE INSTRUCTIONS, 5: returns, throws, constructors' calls, the JDK's numbers; a method out of its code -/
def k_retV (MC MS : Nat) : Sem := fun _ Q _ st h cs ss => match st with
  | [] => cs ≤ MC ∧ ss ≤ MS ∧ Q (.inl []) h
  | _ => False
def k_retI (t MC MS : Nat) : Sem := fun _ Q _ st h cs ss => match st with
  | [.int v] => cs ≤ MC ∧ ss ≤ MS ∧ okv t v ∧ Q (.inl [.int v]) h
  | _ => False
def k_retL (MC MS : Nat) : Sem := fun _ Q _ st h cs ss => match st with
  | [.long v] => cs ≤ MC ∧ ss ≤ MS ∧ Q (.inl [.long v]) h
  | _ => False
def k_retF (MC MS : Nat) : Sem := fun _ Q _ st h cs ss => match st with
  | [.float v] => cs ≤ MC ∧ ss ≤ MS ∧ Q (.inl [.float v]) h
  | _ => False
def k_retD (MC MS : Nat) : Sem := fun _ Q _ st h cs ss => match st with
  | [.double v] => cs ≤ MC ∧ ss ≤ MS ∧ Q (.inl [.double v]) h
  | _ => False
def k_retA (MC MS : Nat) : Sem := fun _ Q _ st h cs ss => match st with
  | [.ref v] => cs ≤ MC ∧ ss ≤ MS ∧ Q (.inl [.ref v]) h
  | _ => False
def k_throw (E : String) (MC MS : Nat) : Sem := fun _ Q _ st h cs ss => cs + 1 ≤ MC ∧ ss + 6 ≤ MS ∧ (st.map (fun v => v.category)).sum ≤ 8 ∧ Q (.inr E) h
theorem mono_retV (MC MS : Nat) : Mono (k_retV MC MS) := by
  intro X Y Q Q' hX hQ lv st h cs ss k
  unfold k_retV at *; split at k <;> first | exact ⟨k.1, k.2.1, hQ _ _ k.2.2⟩ | exact k.elim
theorem mono_retI (t MC MS : Nat) : Mono (k_retI t MC MS) := by
  intro X Y Q Q' hX hQ lv st h cs ss k
  unfold k_retI at *; split at k <;> first | exact ⟨k.1, k.2.1, k.2.2.1, hQ _ _ k.2.2.2⟩ | exact k.elim
theorem mono_retL (MC MS : Nat) : Mono (k_retL MC MS) := by
  intro X Y Q Q' hX hQ lv st h cs ss k
  unfold k_retL at *; split at k <;> first | exact ⟨k.1, k.2.1, hQ _ _ k.2.2⟩ | exact k.elim
theorem mono_retF (MC MS : Nat) : Mono (k_retF MC MS) := by
  intro X Y Q Q' hX hQ lv st h cs ss k
  unfold k_retF at *; split at k <;> first | exact ⟨k.1, k.2.1, hQ _ _ k.2.2⟩ | exact k.elim
theorem mono_retD (MC MS : Nat) : Mono (k_retD MC MS) := by
  intro X Y Q Q' hX hQ lv st h cs ss k
  unfold k_retD at *; split at k <;> first | exact ⟨k.1, k.2.1, hQ _ _ k.2.2⟩ | exact k.elim
theorem mono_retA (MC MS : Nat) : Mono (k_retA MC MS) := by
  intro X Y Q Q' hX hQ lv st h cs ss k
  unfold k_retA at *; split at k <;> first | exact ⟨k.1, k.2.1, hQ _ _ k.2.2⟩ | exact k.elim
theorem mono_throw (E : String) (MC MS : Nat) : Mono (k_throw E MC MS) := fun _ _ _ _ _ hQ _ _ _ _ _ k => ⟨k.1, k.2.1, k.2.2.1, hQ _ _ k.2.2.2⟩
section ENDS
variable {g : Gc} {h0 : CH} {ads : Nat → Nat} {p : Program} {l : Launch} {e : Env} {R : Room} {s : State} {m : MethodId} {args : Array Value} {below : List Frame} {meth : Method} {c : Code} {nL : Nat} {Q : QT} {cc : ByteArray} {own : String} {pc : Nat} {MC MS : Nat}
theorem q_ret {ad : Nat → Nat} {h : CH} {H : Heap} {locs : List Loc} {vs : List Value} (hlen : vs.length ≤ 1) (hQ : Q (.inl vs) h) (hR : Rel g ad h H) (h1 : hN h0 ≤ hN h) (ha : ∀ a, a < hN h0 → ad a = ads a) (hS : va_S (gF g) s.heap H locs) (hst : ∀ v ∈ vs, refOK (hN h) v) (t : State) (ht : t.heap = H) : Qcu g ads h0 Q args s (.returned (vs.map (cv ad)).head?) t := ⟨⟨vs, ad, h, rfl, hlen, hQ, by rw [ht]; exact hR, h1, ha, hst⟩, va_S.F hS ht⟩
theorem o_retV (A : Act g p l s m args meth c cc nL own) (hr : meth.sig.returnType = none) (hd : decode cc pc = .ok (.return_, 1)) : Snd g (hN h0) ads p l e R s m args below meth c nL (vx_MQ below (Qcu g ads h0 Q) (XCu g ads h0 Q) args s MC MS (gF g)) Q pc (k_retV MC MS) := by
  intro lv st h cs ss k ad H locs ls hR h1 ha hS hl hlv hst
  unfold k_retV at k
  split at k
  · refine W.widen k.1 k.2.1 (vx_ret (W.vret A.1 A.2.1 hr (fun t ht hW => q_ret (by decide) k.2.2 hR h1 ha hS hst t ht) hS.2.2 hd (hlocks := A.2.2.2.2.2.2.1)))
  · exact k.elim
theorem o_retI (A : Act g p l s m args meth c cc nL own) {t : Nat} {ty : FieldType} (hr : meth.sig.returnType = some ty) (hok : ∀ v, okv t v → narrow ty (.int v) = .int v) (hd : decode cc pc = .ok (.ireturn, 1)) : Snd g (hN h0) ads p l e R s m args below meth c nL (vx_MQ below (Qcu g ads h0 Q) (XCu g ads h0 Q) args s MC MS (gF g)) Q pc (k_retI t MC MS) := by
  intro lv st h cs ss k ad H locs ls hR h1 ha hS hl hlv hst
  unfold k_retI at k
  split at k
  · next v => refine W.widen k.1 k.2.1 (vx_ret (W.zret A.1 A.2.1 hr (hok v k.2.2.1) (fun t ht hW => q_ret (vs := [.int v]) (Nat.le_refl 1) k.2.2.2 hR h1 ha hS hst t ht) hS.2.2 hd (hlocks := A.2.2.2.2.2.2.1)))
  · exact k.elim
theorem o_retL (A : Act g p l s m args meth c cc nL own) (hr : meth.sig.returnType = some .long) (hd : decode cc pc = .ok (.lreturn, 1)) : Snd g (hN h0) ads p l e R s m args below meth c nL (vx_MQ below (Qcu g ads h0 Q) (XCu g ads h0 Q) args s MC MS (gF g)) Q pc (k_retL MC MS) := by
  intro lv st h cs ss k ad H locs ls hR h1 ha hS hl hlv hst
  unfold k_retL at k
  split at k
  · next v => refine W.widen k.1 k.2.1 (vx_ret (W.lret A.1 A.2.1 hr (fun t ht hW => q_ret (vs := [.long v]) (Nat.le_refl 1) k.2.2 hR h1 ha hS hst t ht) hS.2.2 hd (hlocks := A.2.2.2.2.2.2.1)))
  · exact k.elim
theorem o_retF (A : Act g p l s m args meth c cc nL own) (hr : meth.sig.returnType = some .float) (hd : decode cc pc = .ok (.freturn, 1)) : Snd g (hN h0) ads p l e R s m args below meth c nL (vx_MQ below (Qcu g ads h0 Q) (XCu g ads h0 Q) args s MC MS (gF g)) Q pc (k_retF MC MS) := by
  intro lv st h cs ss k ad H locs ls hR h1 ha hS hl hlv hst
  unfold k_retF at k
  split at k
  · next v => refine W.widen k.1 k.2.1 (vx_ret (W.fret A.1 A.2.1 hr (fun t ht hW => q_ret (vs := [.float v]) (Nat.le_refl 1) k.2.2 hR h1 ha hS hst t ht) hS.2.2 hd (hlocks := A.2.2.2.2.2.2.1)))
  · exact k.elim
theorem o_retD (A : Act g p l s m args meth c cc nL own) (hr : meth.sig.returnType = some .double) (hd : decode cc pc = .ok (.dreturn, 1)) : Snd g (hN h0) ads p l e R s m args below meth c nL (vx_MQ below (Qcu g ads h0 Q) (XCu g ads h0 Q) args s MC MS (gF g)) Q pc (k_retD MC MS) := by
  intro lv st h cs ss k ad H locs ls hR h1 ha hS hl hlv hst
  unfold k_retD at k
  split at k
  · next v => refine W.widen k.1 k.2.1 (vx_ret (W.dret A.1 A.2.1 hr (fun t ht hW => q_ret (vs := [.double v]) (Nat.le_refl 1) k.2.2 hR h1 ha hS hst t ht) hS.2.2 hd (hlocks := A.2.2.2.2.2.2.1)))
  · exact k.elim
theorem o_retA (A : Act g p l s m args meth c cc nL own) {ty : FieldType} (hr : meth.sig.returnType = some ty) (hty : (∃ n, ty = .object n) ∨ ∃ t, ty = .array t) (hd : decode cc pc = .ok (.areturn, 1)) : Snd g (hN h0) ads p l e R s m args below meth c nL (vx_MQ below (Qcu g ads h0 Q) (XCu g ads h0 Q) args s MC MS (gF g)) Q pc (k_retA MC MS) := by
  intro lv st h cs ss k ad H locs ls hR h1 ha hS hl hlv hst
  unfold k_retA at k
  split at k
  · next v => refine W.widen k.1 k.2.1 (vx_ret (W.aret A.1 A.2.1 hr hty ((va_rf_cases ad v).imp id (fun z => ⟨_, z⟩)) (fun t ht hW => q_ret (vs := [.ref v]) (Nat.le_refl 1) k.2.2 hR h1 ha hS hst t ht) hS.2.2 hd (hlocks := A.2.2.2.2.2.2.1)))
  · exact k.elim
/-- the words of a throw: the good ones out of AW, the castable ones out of OW -/
theorem x_hat (A : Act g p l s m args meth c cc nL own) {L : List Cond} (h1 : ∀ w ∈ L, w ∈ AW ∨ w ∈ OW) : ∀ w ∈ L, w.before args s = true := fun w hw => (h1 w hw).elim (A.2.2.2.2.1 w) (fun q => va_Nw.use (okOW_tab (List.mem_filter.mp q).2) (A.2.2.2.2.2.1.2.2.2.1 w q))
theorem x_ot {L : List Cond} (h1 : ∀ w ∈ L, w ∈ AW ∨ w ∈ OW) : ∀ w ∈ L, vx_ot w = true := fun w hw => by
  unfold vx_ot
  rcases h1 w hw with q | q
  · rw [AW_good w q, Bool.or_true]
  · rw [okOW_tab (List.mem_filter.mp q).2, Bool.true_or]
theorem kept_GE (A : Act g p l s m args meth c cc nL own) : vx_Zq Bundle.tN "UNASSIGNED_STACK" Bundle.steD (gF g) s s.heap ∧ vx_Zq Bundle.tN "SUPPRESSED_SENTINEL" Bundle.listD (gF g) s s.heap := by
  obtain ⟨-, -, -, -, -, hX, -, -, -, hb⟩ := A
  have hz := hX.2.2.1
  have hq : ∀ a : Nat, a < (gH g).size → ¬ gF g a → s.heap[a]? = (gH g)[a]? := fun a h1 _ => hb a (by omega)
  exact ⟨hX.2.1.1.kept hq, hX.2.1.2.1.kept hq⟩
theorem o_throw (A : Act g p l s m args meth c cc nL own) {cls text : String} {ik is ic : Nat} (hcls : Bundle.fit cls = true) (hws : ∀ w ∈ Cond.classLink own ik cls :: Cond.initialized cls :: vx_atS own ic cls ["java/lang/RuntimeException", "java/lang/Exception"], w ∈ AW ∨ w ∈ OW) (hstr : Cond.stringRef own is text ∈ lw_tbl)
    (d0 : decode cc pc = .ok (.new ik, 3)) (d3 : decode cc (pc + 3) = .ok (.dup, 1)) (d4 : decode cc (pc + 4) = .ok (.ldc is, 2)) (d6 : decode cc (pc + 6) = .ok (.invokespecial ic, 3)) (d9 : decode cc (pc + 9) = .ok (.athrow, 1)) (hx : ∀ x ∈ c.exceptionTable.toList, False) (hF : 5 < R.frames) (hL : 90 ≤ R.locals) (hC : MC ≤ R.cells) (hM : MS ≤ R.slots) : Snd g (hN h0) ads p l e R s m args below meth c nL (vx_MQ below (Qcu g ads h0 Q) (XCu g ads h0 Q) args s MC MS (gF g)) Q pc (k_throw cls MC MS) := by
  intro lv st h cs ss k ad H locs ls hR h1 ha hS hl hlv hst
  have hw := x_hat A hws
  obtain ⟨sa, hsa⟩ := A.2.2.2.2.2.1.2.2.2.2.2.1 _ _ _ hstr
  have hz := kept_GE A
  refine vx_throwS A.1 A.2.1 A.2.2.2.2.2.2.2.1 A.2.2.2.1 hcls (by decide) (hw _ List.mem_cons_self) (hw _ (List.mem_cons_of_mem _ List.mem_cons_self)) hsa (fun w q => hw w (List.mem_cons_of_mem _ (List.mem_cons_of_mem _ q))) (x_ot hws) hz.1 hz.2 hS (hl.1.trans A.2.2.1.symm) d0 d3 d4 d6 d9 (fun x q => (hx x q).elim) hF ?_ (Nat.le_trans k.1 hC) (Nat.le_trans k.2.1 hM) A.2.2.2.2.2.2.1 (fun t hA hz1 hq => ?_) hS.2.2 k.1 k.2.1
  · rw [sum_cv]
    have := k.2.2.1
    show _ + (13 * (2 + 1) + 43) ≤ _
    omega
  · have hP : va_P (gD g) vwCl (wsOf (gA g) ad h) t.heap := fun i q hi => (hR.1 i q hi).kept (hq q.1 ((hR.1 i q hi).lt))
    refine ⟨⟨ad, h, k.2.2.2, ⟨hP, hR.2.1, hR.2.2.1, hR.2.2.2⟩, h1, ha⟩, Nat.le_trans hS.1 hz1, fun q hq1 hq2 => ?_⟩
    rw [hq q (Nat.lt_of_lt_of_le hq1 hS.1)]
    exact hS.2.1 q hq1 hq2
theorem o_throwW (A : Act g p l s m args meth c cc nL own) {cls text : String} {ik is ic : Nat} (hcls : Bundle.fit cls = true) (hws : ∀ w ∈ Cond.classLink own ik cls :: Cond.initialized cls :: vx_atS own ic cls ["java/lang/RuntimeException", "java/lang/Exception"], w ∈ AW ∨ w ∈ OW) (hstr : Cond.stringRef own is text ∈ lw_tbl)
    (d0 : decode cc pc = .ok (.new ik, 3)) (d3 : decode cc (pc + 3) = .ok (.dup, 1)) (d4 : decode cc (pc + 4) = .ok (.ldc_w is, 3)) (d7 : decode cc (pc + 7) = .ok (.invokespecial ic, 3)) (d10 : decode cc (pc + 10) = .ok (.athrow, 1)) (hx : ∀ x ∈ c.exceptionTable.toList, False) (hF : 5 < R.frames) (hL : 90 ≤ R.locals) (hC : MC ≤ R.cells) (hM : MS ≤ R.slots) : Snd g (hN h0) ads p l e R s m args below meth c nL (vx_MQ below (Qcu g ads h0 Q) (XCu g ads h0 Q) args s MC MS (gF g)) Q pc (k_throw cls MC MS) := by
  intro lv st h cs ss k ad H locs ls hR h1 ha hS hl hlv hst
  have hw := x_hat A hws
  obtain ⟨sa, hsa⟩ := A.2.2.2.2.2.1.2.2.2.2.2.1 _ _ _ hstr
  have hz := kept_GE A
  refine vx_throwSW A.1 A.2.1 A.2.2.2.2.2.2.2.1 A.2.2.2.1 hcls (by decide) (hw _ List.mem_cons_self) (hw _ (List.mem_cons_of_mem _ List.mem_cons_self)) hsa (fun w q => hw w (List.mem_cons_of_mem _ (List.mem_cons_of_mem _ q))) (x_ot hws) hz.1 hz.2 hS (hl.1.trans A.2.2.1.symm) d0 d3 d4 d7 d10 (fun x q => (hx x q).elim) hF ?_ (Nat.le_trans k.1 hC) (Nat.le_trans k.2.1 hM) A.2.2.2.2.2.2.1 (fun t hA hz1 hq => ?_) hS.2.2 k.1 k.2.1
  · rw [sum_cv]
    have := k.2.2.1
    show _ + (13 * (2 + 1) + 43) ≤ _
    omega
  · have hP : va_P (gD g) vwCl (wsOf (gA g) ad h) t.heap := fun i q hi => (hR.1 i q hi).kept (hq q.1 ((hR.1 i q hi).lt))
    refine ⟨⟨ad, h, k.2.2.2, ⟨hP, hR.2.1, hR.2.2.1, hR.2.2.2⟩, h1, ha⟩, Nat.le_trans hS.1 hz1, fun q hq1 hq2 => ?_⟩
    rw [hq q (Nat.lt_of_lt_of_le hq1 hS.1)]
    exact hS.2.1 q hq1 hq2
end ENDS
/-- a method's instruction does what its k_ says, in any activation of the method -/
def SndM (y : MethodName) (cc : ByteArray) (maxL : Nat) (ret : Option FieldType) (rm : Room) (pc : Nat) (sm : Sem) : Prop :=
  ∀ (g : Gc) (h0 : CH) (ads : Nat → Nat) (p : Program) (l : Launch) (e : Env) (s : State) (m : MethodId) (args : Array Value) (below : List Frame) (meth : Method) (c : Code) (Q : QT), Act g p l s m args meth c cc maxL y.cls → meth.sig.returnType = ret → meth.name = y.name → (∀ x ∈ c.exceptionTable.toList, False) → Snd g (hN h0) ads p l e rm s m args below meth c maxL (vx_MQ below (Qcu g ads h0 Q) (XCu g ads h0 Q) args s rm.cells rm.slots (gF g)) Q pc sm
theorem snd_no {g : Gc} {n0 : Nat} {ads : Nat → Nat} {p : Program} {l : Launch} {e : Env} {R : Room} {s : State} {m : MethodId} {args : Array Value} {below : List Frame} {meth : Method} {c : Code} {nL : Nat} {Qf : State → Prop} {Q : QT} {pc : Nat} : Snd g n0 ads p l e R s m args below meth c nL Qf Q pc k_no := fun _ _ _ _ _ k => k.elim
theorem ent_at {ad : Nat → Nat} : ∀ (av : List Value) (i j : Nat) (v : Value), (av.flatMap (fun v => if cat2 v = true then [v, Value.null] else [v]))[j]? = some v → v ≠ .null → (i + j, cv ad v) ∈ lv_args i (av.map (cv ad))
  | [], i, j, v, h, hv => by simp at h
  | x :: r, i, j, v, h, hv => by
    rw [List.flatMap_cons] at h
    rw [List.map_cons]
    show _ ∈ (i, cv ad x) :: lv_args (if (cv ad x).category = 2 then i + 2 else i + 1) (r.map (cv ad))
    cases hx : cat2 x with
    | true =>
      rw [hx, if_pos rfl] at h
      rw [if_pos (cat2_cv2 hx)]
      match j, h with
      | 0, h => cases h; exact List.mem_cons_self
      | 1, h => cases h; exact absurd rfl hv
      | j + 2, h =>
        have h2 : (r.flatMap (fun v => if cat2 v = true then [v, Value.null] else [v]))[j]? = some v := h
        have := ent_at (ad := ad) r (i + 2) j v h2 hv
        rw [show i + (j + 2) = i + 2 + j by omega]
        exact List.mem_cons_of_mem _ this
    | false =>
      rw [hx, if_neg (by decide)] at h
      rw [if_neg (by rw [cat2_cv hx]; decide)]
      match j, h with
      | 0, h => cases h; exact List.mem_cons_self
      | j + 1, h =>
        have h2 : (r.flatMap (fun v => if cat2 v = true then [v, Value.null] else [v]))[j]? = some v := h
        have := ent_at (ad := ad) r (i + 1) j v h2 hv
        rw [show i + (j + 1) = i + 1 + j by omega]
        exact List.mem_cons_of_mem _ this
theorem ent_len (ad : Nat → Nat) : ∀ (av : List Value), (av.flatMap (fun v => if cat2 v = true then [v, Value.null] else [v])).length = (lg_sl (av.map (cv ad))).length
  | [] => rfl
  | x :: r => by
    have ih := ent_len ad r
    rw [List.map_cons]
    show _ = (List.flatMap _ (cv ad x :: r.map (cv ad))).length
    rw [List.flatMap_cons, List.flatMap_cons, List.length_append, List.length_append, ih]
    show _ = _ + (lg_sl (r.map (cv ad))).length
    cases hx : cat2 x with
    | true => rw [if_pos rfl, if_pos (cat2_cv2 hx)]; rfl
    | false => rw [if_neg (by decide), if_neg (by rw [cat2_cv hx]; decide)]; rfl
theorem ent_ref {n nL : Nat} {av : List Value} (h : ∀ v ∈ av, refOK n v) : ∀ v ∈ ent nL av, refOK n v := by
  intro v hv
  rcases List.mem_append.mp hv with q | q
  · obtain ⟨x, hx, hq⟩ := List.mem_flatMap.mp q
    split at hq
    · rcases List.mem_cons.mp hq with z | z
      · rw [z]; exact h x hx
      · rw [List.mem_singleton.mp z]; trivial
    · rw [List.mem_singleton.mp hq]; exact h x hx
  · rw [List.eq_of_mem_replicate q]; trivial
theorem UM.of {y : MethodName} {cc : ByteArray} {maxL : Nat} {ret : Option FieldType} {rm : Room} {code : Nat → Sem} (hy : plainName y.cls = true) (hc : ∀ pc, SndM y cc maxL ret rm pc (code pc)) : UM y cc maxL ret rm (fun av h Q => (av.flatMap (fun v => if cat2 v = true then [v, Value.null] else [v])).length ≤ maxL ∧ wpI code Q 0 (ent maxL av) [] h 0 0) := by
  intro l hl g ad h av Q hw
  refine vx_ofW (cc := cc) (maxL := maxL) (ret := ret) hy rfl ?_
  intro p e s m args below meth c s₁ B hml ht hP
  obtain ⟨rfl, hX, hR, hb1, hb2, hav⟩ := hP
  have hts : ∀ w ∈ Cond.code y cc maxL ret :: AW, w.before (av.map (cv ad)).toArray s = true := atoms_spec (ws := Cond.code y cc maxL ret :: AW) B.pre
  have hown : s.vm.findClass y.cls = some m.cls := findClass_of_methodNamed B.named
  have A : Act g p l s m (av.map (cv ad)).toArray meth c cc maxL y.cls := ⟨B.exec, B.bytes, hml, hown, AW_in hts, hX, B.notSynchronized, hl, hb1, hb2⟩
  have hS : va_S (gF g) s.heap s.heap [] := va_S.rf
  have hlen : (lg_sl (av.map (cv ad))).length ≤ maxL := by rw [← ent_len]; exact hw.1
  have hent := lv_entry (av.map (cv ad)) (n := maxL) hlen
  have key := hw.2 (Wok g (hN h) ad p l e rm s m (av.map (cv ad)).toArray below meth c maxL (vx_MQ below (Qcu g ad h Q) (XCu g ad h Q) (av.map (cv ad)).toArray s rm.cells rm.slots (gF g))) (fun pc => hc pc g h ad p l e s m _ below meth c Q A B.returns (name_of_methodNamed B.named B.method).1 ht)
  rw [lg_entry_eq]
  have hl0 : lvr ad (lg_sl (av.map (cv ad)) ++ List.replicate (maxL - (lg_sl (av.map (cv ad))).length) Slot.unset).toArray (ent maxL av) maxL := by
    refine ⟨hent.1, ?_, hent.2.1, fun i v hi hv => ?_⟩
    · show (_ ++ _ : List Value).length ≤ maxL
      rw [List.length_append, List.length_replicate]
      omega
    · have hi : ((av.flatMap (fun v => if cat2 v = true then [v, Value.null] else [v])) ++ List.replicate (maxL - (av.flatMap (fun v => if cat2 v = true then [v, Value.null] else [v])).length) Value.null)[i]? = some v := hi
      rcases Nat.lt_or_ge i (av.flatMap (fun v => if cat2 v = true then [v, Value.null] else [v])).length with q | q
      · rw [List.getElem?_append_left q] at hi
        have := ent_at (ad := ad) av 0 i v hi hv
        rw [Nat.zero_add] at this
        exact hent.2.2 _ this
      · rw [List.getElem?_append_right q] at hi
        exact absurd (List.eq_of_mem_replicate (List.mem_of_getElem? hi)) hv
  exact key ad s.heap [] _ hR (Nat.le_refl _) (fun _ _ => rfl) hS hl0 (ent_ref hav) (fun v hv => by cases hv)
