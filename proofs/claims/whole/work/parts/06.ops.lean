/-! THE INSTRUCTIONS, 2: each does what its k_ says (printed by wip/whole/mk06.py) -/
def Snd (g : Gc) (n0 : Nat) (ads : Nat → Nat) (p : Program) (l : Launch) (e : Env) (R : Room) (s : State) (m : MethodId) (args : Array Value) (below : List Frame) (meth : Method) (c : Code) (nL : Nat) (Qf : State → Prop) (Q : QT) (pc : Nat) (sm : Sem) : Prop :=
  ∀ (lv st : List Value) (h : CH) (cs ss : Nat), sm (Wok g n0 ads p l e R s m args below meth c nL Qf) Q lv st h cs ss → Wok g n0 ads p l e R s m args below meth c nL Qf pc lv st h cs ss
theorem va_rf_cases (ad : Nat → Nat) (x : Nat) : va_rf (ro ad x) = .null ∨ va_rf (ro ad x) = .ref (ad x) := by
  unfold ro
  split
  · exact Or.inl rfl
  · exact Or.inr rfl
theorem lvr_of_has {ad : Nat → Nat} {ls ls' : Array Slot} {lv : List Value} {nL i : Nat} {v : Value} (h : lvr ad ls lv nL) (h' : lv_has ls' nL ((i, cv ad v) :: (alist ad lv).filter (fun q => !(q.1 == i) && !(q.1 + 1 == i && q.2.category == 2)))) : lvr ad ls' (put1 lv i v) nL := by
  refine ⟨h'.1, by rw [put1_len]; exact h.2.1, h'.2.1, fun j w hw hn => ?_⟩
  by_cases hj : j = i
  · subst hj
    have hwv : w = v := by
      cases j with
      | zero =>
        have hw : (lv.set 0 v)[0]? = some w := hw
        rw [List.getElem?_set] at hw
        simp at hw
        exact hw.2.symm
      | succ j =>
        rw [put1_s] at hw
        split at hw <;> (rw [List.getElem?_set] at hw; simp at hw; exact hw.2.symm)
    subst hwv
    exact h'.2.2 (j, cv ad w) List.mem_cons_self
  · refine h'.2.2 (j, cv ad w) (List.mem_cons_of_mem _ (List.mem_filter.mpr ⟨?_, ?_⟩))
    · refine alist_mem.mpr ⟨w, ?_, hn, rfl⟩
      cases i with
      | zero =>
        have hw : (lv.set 0 v)[j]? = some w := hw
        rw [List.getElem?_set, if_neg (fun q => hj q.symm)] at hw
        exact hw
      | succ i =>
        rw [put1_s] at hw
        split at hw
        · rw [List.getElem?_set, if_neg (fun q => hj q.symm), List.getElem?_set] at hw
          split at hw
          · split at hw
            · cases hw; exact absurd rfl hn
            · cases hw
          · exact hw
        · rw [List.getElem?_set, if_neg (fun q => hj q.symm)] at hw
          exact hw
    · simp only [Bool.and_eq_true, Bool.not_eq_true', beq_eq_false_iff_ne, ne_eq, Bool.and_eq_false_iff]
      refine ⟨hj, ?_⟩
      by_cases hji : j + 1 = i
      · right
        subst hji
        rw [put1_s] at hw
        split at hw
        · rw [List.getElem?_set, if_neg (by omega), List.getElem?_set] at hw
          simp at hw
          exact absurd hw.2.symm hn
        · next hcc =>
          rw [List.getElem?_set, if_neg (by omega)] at hw
          have hd : lv.getD j .null = w := by rw [List.getD_eq_getElem?_getD, hw]; rfl
          rw [hd] at hcc
          have := cat2_cv (ad := ad) (v := w) (by simpa using hcc)
          rw [this]
          decide
      · left; exact hji
section OPS
variable {g : Gc} {n0 : Nat} {ads : Nat → Nat} {p : Program} {l : Launch} {e : Env} {R : Room} {s : State} {m : MethodId} {args : Array Value} {below : List Frame} {meth : Method} {c : Code} {nL : Nat} {Qf : State → Prop} {Q : QT} {cc : ByteArray} {own : String} {pc : Nat}


theorem o_iconst (A : Act g p l s m args meth c cc nL own) {n : Int} {v : Int32} (hv : Int32.ofInt n = v) (hd : decode cc pc = .ok (.iconst n, 1)) : Snd g n0 ads p l e R s m args below meth c nL Qf Q pc (k_push (pc + 1) (.int v)) := by
  intro lv st h cs ss k ad H locs ls hR h0 ha hS hl hlv hst
  exact lv_iconst A.1 A.2.1 hd hv (k ad H locs ls hR h0 ha hS hl hlv (List.forall_mem_cons.mpr ⟨trivial, hst⟩))
theorem o_bipush (A : Act g p l s m args meth c cc nL own) {n : Int} {v : Int32} (hv : (Int8.ofInt n).toInt32 = v) (hd : decode cc pc = .ok (.bipush n, 2)) : Snd g n0 ads p l e R s m args below meth c nL Qf Q pc (k_push (pc + 2) (.int v)) := by
  intro lv st h cs ss k ad H locs ls hR h0 ha hS hl hlv hst
  exact lv_bipush A.1 A.2.1 hd hv (k ad H locs ls hR h0 ha hS hl hlv (List.forall_mem_cons.mpr ⟨trivial, hst⟩))
theorem o_sipush (A : Act g p l s m args meth c cc nL own) {n : Int} {v : Int32} (hv : (Int16.ofInt n).toInt32 = v) (hd : decode cc pc = .ok (.sipush n, 3)) : Snd g n0 ads p l e R s m args below meth c nL Qf Q pc (k_push (pc + 3) (.int v)) := by
  intro lv st h cs ss k ad H locs ls hR h0 ha hS hl hlv hst
  exact lv_sipush A.1 A.2.1 hd hv (k ad H locs ls hR h0 ha hS hl hlv (List.forall_mem_cons.mpr ⟨trivial, hst⟩))
theorem o_lconst (A : Act g p l s m args meth c cc nL own) {n : Fin 2} {v : Int64} (hv : Int64.ofNat (n : Nat) = v) (hd : decode cc pc = .ok (.lconst n, 1)) : Snd g n0 ads p l e R s m args below meth c nL Qf Q pc (k_push (pc + 1) (.long v)) := by
  intro lv st h cs ss k ad H locs ls hR h0 ha hS hl hlv hst
  exact lv_lconst A.1 A.2.1 hd hv (k ad H locs ls hR h0 ha hS hl hlv (List.forall_mem_cons.mpr ⟨trivial, hst⟩))
theorem o_fconst0 (A : Act g p l s m args meth c cc nL own)  (hd : decode cc pc = .ok (.fconst 0, 1)) : Snd g n0 ads p l e R s m args below meth c nL Qf Q pc (k_push (pc + 1) (.float FP.fconst0)) := by
  intro lv st h cs ss k ad H locs ls hR h0 ha hS hl hlv hst
  exact lv_fconst0 A.1 A.2.1 hd (k ad H locs ls hR h0 ha hS hl hlv (List.forall_mem_cons.mpr ⟨trivial, hst⟩))
theorem o_fconst1 (A : Act g p l s m args meth c cc nL own)  (hd : decode cc pc = .ok (.fconst 1, 1)) : Snd g n0 ads p l e R s m args below meth c nL Qf Q pc (k_push (pc + 1) (.float FP.fconst1)) := by
  intro lv st h cs ss k ad H locs ls hR h0 ha hS hl hlv hst
  exact lv_fconst1 A.1 A.2.1 hd (k ad H locs ls hR h0 ha hS hl hlv (List.forall_mem_cons.mpr ⟨trivial, hst⟩))
theorem o_fconst2 (A : Act g p l s m args meth c cc nL own)  (hd : decode cc pc = .ok (.fconst 2, 1)) : Snd g n0 ads p l e R s m args below meth c nL Qf Q pc (k_push (pc + 1) (.float FP.fconst2)) := by
  intro lv st h cs ss k ad H locs ls hR h0 ha hS hl hlv hst
  exact lv_fconst2 A.1 A.2.1 hd (k ad H locs ls hR h0 ha hS hl hlv (List.forall_mem_cons.mpr ⟨trivial, hst⟩))
theorem o_dconst0 (A : Act g p l s m args meth c cc nL own)  (hd : decode cc pc = .ok (.dconst 0, 1)) : Snd g n0 ads p l e R s m args below meth c nL Qf Q pc (k_push (pc + 1) (.double FP.dconst0)) := by
  intro lv st h cs ss k ad H locs ls hR h0 ha hS hl hlv hst
  exact lv_dconst0 A.1 A.2.1 hd (k ad H locs ls hR h0 ha hS hl hlv (List.forall_mem_cons.mpr ⟨trivial, hst⟩))
theorem o_ldc (A : Act g p l s m args meth c cc nL own) {ix : Nat} {v : Int32} (hw : Cond.constant own ix v ∈ AW) (hd : decode cc pc = .ok (.ldc ix, 2)) : Snd g n0 ads p l e R s m args below meth c nL Qf Q pc (k_push (pc + 2) (.int v)) := by
  intro lv st h cs ss k ad H locs ls hR h0 ha hS hl hlv hst
  exact lv_ldc A.1 A.2.1 A.2.2.2.1 (A.2.2.2.2.1 _ hw) hd (k ad H locs ls hR h0 ha hS hl hlv (List.forall_mem_cons.mpr ⟨trivial, hst⟩))
theorem o_ldcf (A : Act g p l s m args meth c cc nL own) {ix : Nat} {v : UInt32} (hw : Cond.constantFloat own ix v ∈ AW) (hd : decode cc pc = .ok (.ldc ix, 2)) : Snd g n0 ads p l e R s m args below meth c nL Qf Q pc (k_push (pc + 2) (.float v)) := by
  intro lv st h cs ss k ad H locs ls hR h0 ha hS hl hlv hst
  exact lv_ldcf A.1 A.2.1 A.2.2.2.1 (A.2.2.2.2.1 _ hw) hd (k ad H locs ls hR h0 ha hS hl hlv (List.forall_mem_cons.mpr ⟨trivial, hst⟩))
theorem o_ldc2 (A : Act g p l s m args meth c cc nL own) {ix : Nat} {v : Int64} (hw : Cond.constantLong own ix v ∈ AW) (hd : decode cc pc = .ok (.ldc2_w ix, 3)) : Snd g n0 ads p l e R s m args below meth c nL Qf Q pc (k_push (pc + 3) (.long v)) := by
  intro lv st h cs ss k ad H locs ls hR h0 ha hS hl hlv hst
  exact lv_ldc2 A.1 A.2.1 A.2.2.2.1 (A.2.2.2.2.1 _ hw) hd (k ad H locs ls hR h0 ha hS hl hlv (List.forall_mem_cons.mpr ⟨trivial, hst⟩))
theorem o_null (A : Act g p l s m args meth c cc nL own)  (hd : decode cc pc = .ok (.aconst_null, 1)) : Snd g n0 ads p l e R s m args below meth c nL Qf Q pc (k_push (pc + 1) (.ref 0)) := by
  intro lv st h cs ss k ad H locs ls hR h0 ha hS hl hlv hst
  exact lv_null A.1 A.2.1 hd (k ad H locs ls hR h0 ha hS hl hlv (List.forall_mem_cons.mpr ⟨Nat.lt_of_lt_of_le (by decide) hR.2.2.1.1, hst⟩))
theorem o_goto (A : Act g p l s m args meth c cc nL own) {off : Int} {t : Nat} (ht : (pc : Int) + off = (t : Int)) (hd : decode cc pc = .ok (.goto off, 3)) : Snd g n0 ads p l e R s m args below meth c nL Qf Q pc (k_goto t) := by
  intro lv st h cs ss k ad H locs ls hR h0 ha hS hl hlv hst
  exact lv_goto A.1 A.2.1 hd ht (k ad H locs ls hR h0 ha hS hl hlv hst)
theorem o_ldI (A : Act g p l s m args meth c cc nL own) {i : Nat} (hd : decode cc pc = .ok (.iload i, 2)) : Snd g n0 ads p l e R s m args below meth c nL Qf Q pc (k_ldI (pc + 2) i) := by
  intro lv st h cs ss k ad H locs ls hR h0 ha hS hl hlv hst
  unfold k_ldI at k
  split at k
  · next x e => exact lv_iload A.1 A.2.1 hd (lvr_at hl e (by simp)) (k ad H locs ls hR h0 ha hS hl hlv (List.forall_mem_cons.mpr ⟨trivial, hst⟩))
  · exact k.elim
theorem o_ldIn (A : Act g p l s m args meth c cc nL own) {q : Fin 4} {i : Nat} (hi : (q : Nat) = i) (hd : decode cc pc = .ok (.iload_n q, 1)) : Snd g n0 ads p l e R s m args below meth c nL Qf Q pc (k_ldI (pc + 1) i) := by
  intro lv st h cs ss k ad H locs ls hR h0 ha hS hl hlv hst
  unfold k_ldI at k
  split at k
  · next x e => exact lv_iload_n A.1 A.2.1 hd hi (lvr_at hl e (by simp)) (k ad H locs ls hR h0 ha hS hl hlv (List.forall_mem_cons.mpr ⟨trivial, hst⟩))
  · exact k.elim
theorem o_ldL (A : Act g p l s m args meth c cc nL own) {i : Nat} (hd : decode cc pc = .ok (.lload i, 2)) : Snd g n0 ads p l e R s m args below meth c nL Qf Q pc (k_ldL (pc + 2) i) := by
  intro lv st h cs ss k ad H locs ls hR h0 ha hS hl hlv hst
  unfold k_ldL at k
  split at k
  · next x e => exact lv_lload A.1 A.2.1 hd (lvr_at hl e (by simp)) (k ad H locs ls hR h0 ha hS hl hlv (List.forall_mem_cons.mpr ⟨trivial, hst⟩))
  · exact k.elim
theorem o_ldLn (A : Act g p l s m args meth c cc nL own) {q : Fin 4} {i : Nat} (hi : (q : Nat) = i) (hd : decode cc pc = .ok (.lload_n q, 1)) : Snd g n0 ads p l e R s m args below meth c nL Qf Q pc (k_ldL (pc + 1) i) := by
  intro lv st h cs ss k ad H locs ls hR h0 ha hS hl hlv hst
  unfold k_ldL at k
  split at k
  · next x e => exact lv_lload_n A.1 A.2.1 hd hi (lvr_at hl e (by simp)) (k ad H locs ls hR h0 ha hS hl hlv (List.forall_mem_cons.mpr ⟨trivial, hst⟩))
  · exact k.elim
theorem o_ldF (A : Act g p l s m args meth c cc nL own) {i : Nat} (hd : decode cc pc = .ok (.fload i, 2)) : Snd g n0 ads p l e R s m args below meth c nL Qf Q pc (k_ldF (pc + 2) i) := by
  intro lv st h cs ss k ad H locs ls hR h0 ha hS hl hlv hst
  unfold k_ldF at k
  split at k
  · next x e => exact lv_fload A.1 A.2.1 hd (lvr_at hl e (by simp)) (k ad H locs ls hR h0 ha hS hl hlv (List.forall_mem_cons.mpr ⟨trivial, hst⟩))
  · exact k.elim
theorem o_ldFn (A : Act g p l s m args meth c cc nL own) {q : Fin 4} {i : Nat} (hi : (q : Nat) = i) (hd : decode cc pc = .ok (.fload_n q, 1)) : Snd g n0 ads p l e R s m args below meth c nL Qf Q pc (k_ldF (pc + 1) i) := by
  intro lv st h cs ss k ad H locs ls hR h0 ha hS hl hlv hst
  unfold k_ldF at k
  split at k
  · next x e => exact lv_fload_n A.1 A.2.1 hd hi (lvr_at hl e (by simp)) (k ad H locs ls hR h0 ha hS hl hlv (List.forall_mem_cons.mpr ⟨trivial, hst⟩))
  · exact k.elim
theorem o_ldD (A : Act g p l s m args meth c cc nL own) {i : Nat} (hd : decode cc pc = .ok (.dload i, 2)) : Snd g n0 ads p l e R s m args below meth c nL Qf Q pc (k_ldD (pc + 2) i) := by
  intro lv st h cs ss k ad H locs ls hR h0 ha hS hl hlv hst
  unfold k_ldD at k
  split at k
  · next x e => exact lv_dload A.1 A.2.1 hd (lvr_at hl e (by simp)) (k ad H locs ls hR h0 ha hS hl hlv (List.forall_mem_cons.mpr ⟨trivial, hst⟩))
  · exact k.elim
theorem o_ldDn (A : Act g p l s m args meth c cc nL own) {q : Fin 4} {i : Nat} (hi : (q : Nat) = i) (hd : decode cc pc = .ok (.dload_n q, 1)) : Snd g n0 ads p l e R s m args below meth c nL Qf Q pc (k_ldD (pc + 1) i) := by
  intro lv st h cs ss k ad H locs ls hR h0 ha hS hl hlv hst
  unfold k_ldD at k
  split at k
  · next x e => exact lv_dload_n A.1 A.2.1 hd hi (lvr_at hl e (by simp)) (k ad H locs ls hR h0 ha hS hl hlv (List.forall_mem_cons.mpr ⟨trivial, hst⟩))
  · exact k.elim
theorem o_ldA (A : Act g p l s m args meth c cc nL own) {i : Nat} (hd : decode cc pc = .ok (.aload i, 2)) : Snd g n0 ads p l e R s m args below meth c nL Qf Q pc (k_ldA (pc + 2) i) := by
  intro lv st h cs ss k ad H locs ls hR h0 ha hS hl hlv hst
  unfold k_ldA at k
  split at k
  · next x e1 =>
    have hl1 := lvr_at hl e1 (by simp)
    have k1 := k ad H locs ls hR h0 ha hS hl hlv (List.forall_mem_cons.mpr ⟨hlv _ (mem_getD e1 (by simp)), hst⟩)
    have hl1 : ls[i]? = some (.val (va_rf (ro ad x))) := hl1
    have k1 : W p l e R s m args below meth c H locs cs ss Qf (F0 m (pc + 2) ls (va_rf (ro ad x) :: st.map (cv ad))) := k1
    intro T hT X
    obtain ⟨t, a, b⟩ := k1 T hT X
    refine ⟨t, ?_, b⟩
    rcases va_rf_cases ad x with z | z <;> rw [z] at hl1 a <;> (jvm_step X.here [X.here.top, A.1, A.2.1, hd, hl1, Value.isRef]; exact a)
  · exact k.elim
theorem o_ldAn (A : Act g p l s m args meth c cc nL own) {q : Fin 4} {i : Nat} (hi : (q : Nat) = i) (hd : decode cc pc = .ok (.aload_n q, 1)) : Snd g n0 ads p l e R s m args below meth c nL Qf Q pc (k_ldA (pc + 1) i) := by
  intro lv st h cs ss k ad H locs ls hR h0 ha hS hl hlv hst
  subst hi
  unfold k_ldA at k
  split at k
  · next x e1 =>
    have hl1 := lvr_at hl e1 (by simp)
    have k1 := k ad H locs ls hR h0 ha hS hl hlv (List.forall_mem_cons.mpr ⟨hlv _ (mem_getD e1 (by simp)), hst⟩)
    have hl1 : ls[(q : Nat)]? = some (.val (va_rf (ro ad x))) := hl1
    have k1 : W p l e R s m args below meth c H locs cs ss Qf (F0 m (pc + 1) ls (va_rf (ro ad x) :: st.map (cv ad))) := k1
    intro T hT X
    obtain ⟨t, a, b⟩ := k1 T hT X
    refine ⟨t, ?_, b⟩
    rcases va_rf_cases ad x with z | z <;> rw [z] at hl1 a <;> (jvm_step X.here [X.here.top, A.1, A.2.1, hd, hl1, Value.isRef]; exact a)
  · exact k.elim
theorem o_stI (A : Act g p l s m args meth c cc nL own) {i : Nat} (hb : i < nL) (hd : decode cc pc = .ok (.istore i, 2)) : Snd g n0 ads p l e R s m args below meth c nL Qf Q pc (k_stI (pc + 2) i) := by
  intro lv st h cs ss k ad H locs ls hR h0 ha hS hl hlv hst
  unfold k_stI at k
  split at k
  · next x r =>
    obtain ⟨ls', e', h'⟩ := lvr_put1 (v := .int x) hl hb rfl
    have e' : storeLocals ls _ (.int x) = some ls' := e'
    intro T hT X
    obtain ⟨t, a, b⟩ := k ad H locs ls' hR h0 ha hS h' (put1_ref hlv trivial) (List.forall_mem_cons.mp hst).2 T hT X
    refine ⟨t, ?_, b⟩
    show Steps p.tables e below (T.setTop (F0 m pc ls (.int x :: r.map (cv ad)))) t
    jvm_step X.here [X.here.top, ↓top_set X.here.top, A.1, A.2.1, hd, e', Value.isRef]
    exact a
  · exact k.elim
theorem o_stIn (A : Act g p l s m args meth c cc nL own) {q : Fin 4} {i : Nat} (hi : (q : Nat) = i) (hb : i < nL) (hd : decode cc pc = .ok (.istore_n q, 1)) : Snd g n0 ads p l e R s m args below meth c nL Qf Q pc (k_stI (pc + 1) i) := by
  intro lv st h cs ss k ad H locs ls hR h0 ha hS hl hlv hst
  subst hi
  unfold k_stI at k
  split at k
  · next x r =>
    obtain ⟨ls', e', h'⟩ := lvr_put1 (v := .int x) hl hb rfl
    have e' : storeLocals ls _ (.int x) = some ls' := e'
    intro T hT X
    obtain ⟨t, a, b⟩ := k ad H locs ls' hR h0 ha hS h' (put1_ref hlv trivial) (List.forall_mem_cons.mp hst).2 T hT X
    refine ⟨t, ?_, b⟩
    show Steps p.tables e below (T.setTop (F0 m pc ls (.int x :: r.map (cv ad)))) t
    jvm_step X.here [X.here.top, ↓top_set X.here.top, A.1, A.2.1, hd, e', Value.isRef]
    exact a
  · exact k.elim
theorem o_stF (A : Act g p l s m args meth c cc nL own) {i : Nat} (hb : i < nL) (hd : decode cc pc = .ok (.fstore i, 2)) : Snd g n0 ads p l e R s m args below meth c nL Qf Q pc (k_stF (pc + 2) i) := by
  intro lv st h cs ss k ad H locs ls hR h0 ha hS hl hlv hst
  unfold k_stF at k
  split at k
  · next x r =>
    obtain ⟨ls', e', h'⟩ := lvr_put1 (v := .float x) hl hb rfl
    have e' : storeLocals ls _ (.float x) = some ls' := e'
    intro T hT X
    obtain ⟨t, a, b⟩ := k ad H locs ls' hR h0 ha hS h' (put1_ref hlv trivial) (List.forall_mem_cons.mp hst).2 T hT X
    refine ⟨t, ?_, b⟩
    show Steps p.tables e below (T.setTop (F0 m pc ls (.float x :: r.map (cv ad)))) t
    jvm_step X.here [X.here.top, ↓top_set X.here.top, A.1, A.2.1, hd, e', Value.isRef]
    exact a
  · exact k.elim
theorem o_stFn (A : Act g p l s m args meth c cc nL own) {q : Fin 4} {i : Nat} (hi : (q : Nat) = i) (hb : i < nL) (hd : decode cc pc = .ok (.fstore_n q, 1)) : Snd g n0 ads p l e R s m args below meth c nL Qf Q pc (k_stF (pc + 1) i) := by
  intro lv st h cs ss k ad H locs ls hR h0 ha hS hl hlv hst
  subst hi
  unfold k_stF at k
  split at k
  · next x r =>
    obtain ⟨ls', e', h'⟩ := lvr_put1 (v := .float x) hl hb rfl
    have e' : storeLocals ls _ (.float x) = some ls' := e'
    intro T hT X
    obtain ⟨t, a, b⟩ := k ad H locs ls' hR h0 ha hS h' (put1_ref hlv trivial) (List.forall_mem_cons.mp hst).2 T hT X
    refine ⟨t, ?_, b⟩
    show Steps p.tables e below (T.setTop (F0 m pc ls (.float x :: r.map (cv ad)))) t
    jvm_step X.here [X.here.top, ↓top_set X.here.top, A.1, A.2.1, hd, e', Value.isRef]
    exact a
  · exact k.elim
theorem o_stA (A : Act g p l s m args meth c cc nL own) {i : Nat} (hb : i < nL) (hd : decode cc pc = .ok (.astore i, 2)) : Snd g n0 ads p l e R s m args below meth c nL Qf Q pc (k_stA (pc + 2) i) := by
  intro lv st h cs ss k ad H locs ls hR h0 ha hS hl hlv hst
  unfold k_stA at k
  split at k
  · next x r =>
    obtain ⟨ls', e', h'⟩ := lvr_put1 (v := .ref x) hl hb rfl
    have e' : storeLocals ls _ (va_rf (ro ad x)) = some ls' := e'
    intro T hT X
    obtain ⟨t, a, b⟩ := k ad H locs ls' hR h0 ha hS h' (put1_ref hlv (List.forall_mem_cons.mp hst).1) (List.forall_mem_cons.mp hst).2 T hT X
    refine ⟨t, ?_, b⟩
    show Steps p.tables e below (T.setTop (F0 m pc ls (va_rf (ro ad x) :: r.map (cv ad)))) t
    rcases va_rf_cases ad x with z | z <;> rw [z] at e' ⊢ <;> (jvm_step X.here [X.here.top, ↓top_set X.here.top, A.1, A.2.1, hd, e', Value.isRef]; exact a)
  · exact k.elim
theorem o_stAn (A : Act g p l s m args meth c cc nL own) {q : Fin 4} {i : Nat} (hi : (q : Nat) = i) (hb : i < nL) (hd : decode cc pc = .ok (.astore_n q, 1)) : Snd g n0 ads p l e R s m args below meth c nL Qf Q pc (k_stA (pc + 1) i) := by
  intro lv st h cs ss k ad H locs ls hR h0 ha hS hl hlv hst
  subst hi
  unfold k_stA at k
  split at k
  · next x r =>
    obtain ⟨ls', e', h'⟩ := lvr_put1 (v := .ref x) hl hb rfl
    have e' : storeLocals ls _ (va_rf (ro ad x)) = some ls' := e'
    intro T hT X
    obtain ⟨t, a, b⟩ := k ad H locs ls' hR h0 ha hS h' (put1_ref hlv (List.forall_mem_cons.mp hst).1) (List.forall_mem_cons.mp hst).2 T hT X
    refine ⟨t, ?_, b⟩
    show Steps p.tables e below (T.setTop (F0 m pc ls (va_rf (ro ad x) :: r.map (cv ad)))) t
    rcases va_rf_cases ad x with z | z <;> rw [z] at e' ⊢ <;> (jvm_step X.here [X.here.top, ↓top_set X.here.top, A.1, A.2.1, hd, e', Value.isRef]; exact a)
  · exact k.elim
theorem o_stL (A : Act g p l s m args meth c cc nL own) {i : Nat} (hb : i + 1 < nL) (hd : decode cc pc = .ok (.lstore i, 2)) : Snd g n0 ads p l e R s m args below meth c nL Qf Q pc (k_stL (pc + 2) i) := by
  intro lv st h cs ss k ad H locs ls hR h0 ha hS hl hlv hst
  unfold k_stL at k
  split at k
  · next x r =>
    obtain ⟨ls', e', h'⟩ := lvr_put2 (v := .long x) hl hb rfl
    have e' : storeLocals ls _ (.long x) = some ls' := e'
    intro T hT X
    obtain ⟨t, a, b⟩ := k ad H locs ls' hR h0 ha hS h' (put2_ref hlv trivial) (List.forall_mem_cons.mp hst).2 T hT X
    refine ⟨t, ?_, b⟩
    show Steps p.tables e below (T.setTop (F0 m pc ls (.long x :: r.map (cv ad)))) t
    jvm_step X.here [X.here.top, ↓top_set X.here.top, A.1, A.2.1, hd, e', Value.isRef]
    exact a
  · exact k.elim
theorem o_stLn (A : Act g p l s m args meth c cc nL own) {q : Fin 4} {i : Nat} (hi : (q : Nat) = i) (hb : i + 1 < nL) (hd : decode cc pc = .ok (.lstore_n q, 1)) : Snd g n0 ads p l e R s m args below meth c nL Qf Q pc (k_stL (pc + 1) i) := by
  intro lv st h cs ss k ad H locs ls hR h0 ha hS hl hlv hst
  subst hi
  unfold k_stL at k
  split at k
  · next x r =>
    obtain ⟨ls', e', h'⟩ := lvr_put2 (v := .long x) hl hb rfl
    have e' : storeLocals ls _ (.long x) = some ls' := e'
    intro T hT X
    obtain ⟨t, a, b⟩ := k ad H locs ls' hR h0 ha hS h' (put2_ref hlv trivial) (List.forall_mem_cons.mp hst).2 T hT X
    refine ⟨t, ?_, b⟩
    show Steps p.tables e below (T.setTop (F0 m pc ls (.long x :: r.map (cv ad)))) t
    jvm_step X.here [X.here.top, ↓top_set X.here.top, A.1, A.2.1, hd, e', Value.isRef]
    exact a
  · exact k.elim
theorem o_stD (A : Act g p l s m args meth c cc nL own) {i : Nat} (hb : i + 1 < nL) (hd : decode cc pc = .ok (.dstore i, 2)) : Snd g n0 ads p l e R s m args below meth c nL Qf Q pc (k_stD (pc + 2) i) := by
  intro lv st h cs ss k ad H locs ls hR h0 ha hS hl hlv hst
  unfold k_stD at k
  split at k
  · next x r =>
    obtain ⟨ls', e', h'⟩ := lvr_put2 (v := .double x) hl hb rfl
    have e' : storeLocals ls _ (.double x) = some ls' := e'
    intro T hT X
    obtain ⟨t, a, b⟩ := k ad H locs ls' hR h0 ha hS h' (put2_ref hlv trivial) (List.forall_mem_cons.mp hst).2 T hT X
    refine ⟨t, ?_, b⟩
    show Steps p.tables e below (T.setTop (F0 m pc ls (.double x :: r.map (cv ad)))) t
    jvm_step X.here [X.here.top, ↓top_set X.here.top, A.1, A.2.1, hd, e', Value.isRef]
    exact a
  · exact k.elim
theorem o_stDn (A : Act g p l s m args meth c cc nL own) {q : Fin 4} {i : Nat} (hi : (q : Nat) = i) (hb : i + 1 < nL) (hd : decode cc pc = .ok (.dstore_n q, 1)) : Snd g n0 ads p l e R s m args below meth c nL Qf Q pc (k_stD (pc + 1) i) := by
  intro lv st h cs ss k ad H locs ls hR h0 ha hS hl hlv hst
  subst hi
  unfold k_stD at k
  split at k
  · next x r =>
    obtain ⟨ls', e', h'⟩ := lvr_put2 (v := .double x) hl hb rfl
    have e' : storeLocals ls _ (.double x) = some ls' := e'
    intro T hT X
    obtain ⟨t, a, b⟩ := k ad H locs ls' hR h0 ha hS h' (put2_ref hlv trivial) (List.forall_mem_cons.mp hst).2 T hT X
    refine ⟨t, ?_, b⟩
    show Steps p.tables e below (T.setTop (F0 m pc ls (.double x :: r.map (cv ad)))) t
    jvm_step X.here [X.here.top, ↓top_set X.here.top, A.1, A.2.1, hd, e', Value.isRef]
    exact a
  · exact k.elim
theorem o_iinc (A : Act g p l s m args meth c cc nL own) {i : Nat} {n : Int} {d : Int32} (hdd : Int32.ofInt n = d) (hb : i < nL) (hd : decode cc pc = .ok (.iinc i n, 3)) : Snd g n0 ads p l e R s m args below meth c nL Qf Q pc (k_iinc (pc + 3) i d) := by
  intro lv st h cs ss k ad H locs ls hR h0 ha hS hl hlv hst
  subst hdd
  unfold k_iinc at k
  split at k
  · next x e1 =>
    have hl1 := lvr_at hl e1 (by simp)
    have hl1 : ls[i]? = some (.val (.int x)) := hl1
    obtain ⟨ls', e', h'⟩ := lvr_put1 (v := .int (x + Int32.ofInt n)) hl hb rfl
    have e' : storeLocals ls i (.int (x + Int32.ofInt n)) = some ls' := e'
    obtain ⟨j, hj⟩ := List.getElem?_of_mem (alist_mem.mpr ⟨.int x, getD_some e1 (by simp), by simp, rfl⟩ : (i, cv ad (.int x)) ∈ alist ad lv)
    refine lv_iinc A.1 A.2.1 hd (lvr_has hl) hj rfl hb rfl (fun ls2 hl2 => ?_)
    refine k ad H locs ls2 hR h0 ha hS ?_ (put1_ref hlv trivial) hst
    exact lvr_of_has hl hl2
  · exact k.elim
theorem o_iadd (A : Act g p l s m args meth c cc nL own)  (hd : decode cc pc = .ok (.iadd, 1)) : Snd g n0 ads p l e R s m args below meth c nL Qf Q pc (k_bI (pc + 1) (fun x y => x + y)) := by
  intro lv st h cs ss k ad H locs ls hR h0 ha hS hl hlv hst
  unfold k_bI at k
  split at k
  · exact lv_iadd A.1 A.2.1 hd (k ad H locs ls hR h0 ha hS hl hlv (List.forall_mem_cons.mpr ⟨trivial, (List.forall_mem_cons.mp (List.forall_mem_cons.mp hst).2).2⟩))
  · exact k.elim
theorem o_isub (A : Act g p l s m args meth c cc nL own)  (hd : decode cc pc = .ok (.isub, 1)) : Snd g n0 ads p l e R s m args below meth c nL Qf Q pc (k_bI (pc + 1) (fun x y => x - y)) := by
  intro lv st h cs ss k ad H locs ls hR h0 ha hS hl hlv hst
  unfold k_bI at k
  split at k
  · exact lv_isub A.1 A.2.1 hd (k ad H locs ls hR h0 ha hS hl hlv (List.forall_mem_cons.mpr ⟨trivial, (List.forall_mem_cons.mp (List.forall_mem_cons.mp hst).2).2⟩))
  · exact k.elim
theorem o_imul (A : Act g p l s m args meth c cc nL own)  (hd : decode cc pc = .ok (.imul, 1)) : Snd g n0 ads p l e R s m args below meth c nL Qf Q pc (k_bI (pc + 1) (fun x y => x * y)) := by
  intro lv st h cs ss k ad H locs ls hR h0 ha hS hl hlv hst
  unfold k_bI at k
  split at k
  · exact lv_imul A.1 A.2.1 hd (k ad H locs ls hR h0 ha hS hl hlv (List.forall_mem_cons.mpr ⟨trivial, (List.forall_mem_cons.mp (List.forall_mem_cons.mp hst).2).2⟩))
  · exact k.elim
theorem o_iand (A : Act g p l s m args meth c cc nL own)  (hd : decode cc pc = .ok (.iand, 1)) : Snd g n0 ads p l e R s m args below meth c nL Qf Q pc (k_bI (pc + 1) (fun x y => x &&& y)) := by
  intro lv st h cs ss k ad H locs ls hR h0 ha hS hl hlv hst
  unfold k_bI at k
  split at k
  · exact lv_iand A.1 A.2.1 hd (k ad H locs ls hR h0 ha hS hl hlv (List.forall_mem_cons.mpr ⟨trivial, (List.forall_mem_cons.mp (List.forall_mem_cons.mp hst).2).2⟩))
  · exact k.elim
theorem o_ior (A : Act g p l s m args meth c cc nL own)  (hd : decode cc pc = .ok (.ior, 1)) : Snd g n0 ads p l e R s m args below meth c nL Qf Q pc (k_bI (pc + 1) (fun x y => x ||| y)) := by
  intro lv st h cs ss k ad H locs ls hR h0 ha hS hl hlv hst
  unfold k_bI at k
  split at k
  · exact lv_ior A.1 A.2.1 hd (k ad H locs ls hR h0 ha hS hl hlv (List.forall_mem_cons.mpr ⟨trivial, (List.forall_mem_cons.mp (List.forall_mem_cons.mp hst).2).2⟩))
  · exact k.elim
theorem o_ishl (A : Act g p l s m args meth c cc nL own)  (hd : decode cc pc = .ok (.ishl, 1)) : Snd g n0 ads p l e R s m args below meth c nL Qf Q pc (k_bI (pc + 1) (fun x y => x <<< (y &&& 31))) := by
  intro lv st h cs ss k ad H locs ls hR h0 ha hS hl hlv hst
  unfold k_bI at k
  split at k
  · exact lv_ishl A.1 A.2.1 hd (k ad H locs ls hR h0 ha hS hl hlv (List.forall_mem_cons.mpr ⟨trivial, (List.forall_mem_cons.mp (List.forall_mem_cons.mp hst).2).2⟩))
  · exact k.elim
theorem o_ishr (A : Act g p l s m args meth c cc nL own)  (hd : decode cc pc = .ok (.ishr, 1)) : Snd g n0 ads p l e R s m args below meth c nL Qf Q pc (k_bI (pc + 1) (fun x y => x >>> (y &&& 31))) := by
  intro lv st h cs ss k ad H locs ls hR h0 ha hS hl hlv hst
  unfold k_bI at k
  split at k
  · exact lv_ishr A.1 A.2.1 hd (k ad H locs ls hR h0 ha hS hl hlv (List.forall_mem_cons.mpr ⟨trivial, (List.forall_mem_cons.mp (List.forall_mem_cons.mp hst).2).2⟩))
  · exact k.elim
theorem o_iushr (A : Act g p l s m args meth c cc nL own)  (hd : decode cc pc = .ok (.iushr, 1)) : Snd g n0 ads p l e R s m args below meth c nL Qf Q pc (k_bI (pc + 1) (fun x y => (x.toUInt32 >>> (y.toUInt32 &&& Int32.toUInt32 31)).toInt32)) := by
  intro lv st h cs ss k ad H locs ls hR h0 ha hS hl hlv hst
  unfold k_bI at k
  split at k
  · exact lv_iushr A.1 A.2.1 hd rfl (k ad H locs ls hR h0 ha hS hl hlv (List.forall_mem_cons.mpr ⟨trivial, (List.forall_mem_cons.mp (List.forall_mem_cons.mp hst).2).2⟩))
  · exact k.elim
theorem o_idiv (A : Act g p l s m args meth c cc nL own)  (hd : decode cc pc = .ok (.idiv, 1)) : Snd g n0 ads p l e R s m args below meth c nL Qf Q pc (k_dI (pc + 1) (fun x y => x / y)) := by
  intro lv st h cs ss k ad H locs ls hR h0 ha hS hl hlv hst
  unfold k_dI at k
  split at k
  · exact lv_idiv A.1 A.2.1 hd k.1 (k.2 ad H locs ls hR h0 ha hS hl hlv (List.forall_mem_cons.mpr ⟨trivial, (List.forall_mem_cons.mp (List.forall_mem_cons.mp hst).2).2⟩))
  · exact k.elim
theorem o_irem (A : Act g p l s m args meth c cc nL own)  (hd : decode cc pc = .ok (.irem, 1)) : Snd g n0 ads p l e R s m args below meth c nL Qf Q pc (k_dI (pc + 1) (fun x y => x - x / y * y)) := by
  intro lv st h cs ss k ad H locs ls hR h0 ha hS hl hlv hst
  unfold k_dI at k
  split at k
  · exact lv_irem A.1 A.2.1 hd k.1 (k.2 ad H locs ls hR h0 ha hS hl hlv (List.forall_mem_cons.mpr ⟨trivial, (List.forall_mem_cons.mp (List.forall_mem_cons.mp hst).2).2⟩))
  · exact k.elim
theorem o_ladd (A : Act g p l s m args meth c cc nL own)  (hd : decode cc pc = .ok (.ladd, 1)) : Snd g n0 ads p l e R s m args below meth c nL Qf Q pc (k_bL (pc + 1) (fun x y => x + y)) := by
  intro lv st h cs ss k ad H locs ls hR h0 ha hS hl hlv hst
  unfold k_bL at k
  split at k
  · exact lv_ladd A.1 A.2.1 hd (k ad H locs ls hR h0 ha hS hl hlv (List.forall_mem_cons.mpr ⟨trivial, (List.forall_mem_cons.mp (List.forall_mem_cons.mp hst).2).2⟩))
  · exact k.elim
theorem o_lmul (A : Act g p l s m args meth c cc nL own)  (hd : decode cc pc = .ok (.lmul, 1)) : Snd g n0 ads p l e R s m args below meth c nL Qf Q pc (k_bL (pc + 1) (fun x y => x * y)) := by
  intro lv st h cs ss k ad H locs ls hR h0 ha hS hl hlv hst
  unfold k_bL at k
  split at k
  · exact lv_lmul A.1 A.2.1 hd (k ad H locs ls hR h0 ha hS hl hlv (List.forall_mem_cons.mpr ⟨trivial, (List.forall_mem_cons.mp (List.forall_mem_cons.mp hst).2).2⟩))
  · exact k.elim
theorem o_lcmp (A : Act g p l s m args meth c cc nL own)  (hd : decode cc pc = .ok (.lcmp, 1)) : Snd g n0 ads p l e R s m args below meth c nL Qf Q pc (k_lcmp (pc + 1)) := by
  intro lv st h cs ss k ad H locs ls hR h0 ha hS hl hlv hst
  unfold k_lcmp at k
  split at k
  · exact W.lcmp A.1 A.2.1 hd (k ad H locs ls hR h0 ha hS hl hlv (List.forall_mem_cons.mpr ⟨trivial, (List.forall_mem_cons.mp (List.forall_mem_cons.mp hst).2).2⟩))
  · exact k.elim
theorem o_i2l (A : Act g p l s m args meth c cc nL own)  (hd : decode cc pc = .ok (.i2l, 1)) : Snd g n0 ads p l e R s m args below meth c nL Qf Q pc (k_uI (pc + 1) (fun x => .long x.toInt64)) := by
  intro lv st h cs ss k ad H locs ls hR h0 ha hS hl hlv hst
  unfold k_uI at k
  split at k
  · exact lv_i2l A.1 A.2.1 hd rfl (k ad H locs ls hR h0 ha hS hl hlv (List.forall_mem_cons.mpr ⟨trivial, (List.forall_mem_cons.mp hst).2⟩))
  · exact k.elim
theorem o_i2c (A : Act g p l s m args meth c cc nL own)  (hd : decode cc pc = .ok (.i2c, 1)) : Snd g n0 ads p l e R s m args below meth c nL Qf Q pc (k_uI (pc + 1) (fun x => .int (x.toUInt32 % 65536).toInt32)) := by
  intro lv st h cs ss k ad H locs ls hR h0 ha hS hl hlv hst
  unfold k_uI at k
  split at k
  · exact lv_i2c A.1 A.2.1 hd rfl (k ad H locs ls hR h0 ha hS hl hlv (List.forall_mem_cons.mpr ⟨trivial, (List.forall_mem_cons.mp hst).2⟩))
  · exact k.elim
theorem o_ineg (A : Act g p l s m args meth c cc nL own)  (hd : decode cc pc = .ok (.ineg, 1)) : Snd g n0 ads p l e R s m args below meth c nL Qf Q pc (k_uI (pc + 1) (fun x => .int (-x))) := by
  intro lv st h cs ss k ad H locs ls hR h0 ha hS hl hlv hst
  unfold k_uI at k
  split at k
  · exact lv_ineg A.1 A.2.1 hd (k ad H locs ls hR h0 ha hS hl hlv (List.forall_mem_cons.mpr ⟨trivial, (List.forall_mem_cons.mp hst).2⟩))
  · exact k.elim
theorem o_i2f (A : Act g p l s m args meth c cc nL own)  (hd : decode cc pc = .ok (.i2f, 1)) : Snd g n0 ads p l e R s m args below meth c nL Qf Q pc (k_uI (pc + 1) (fun x => .float (FP.i2f x))) := by
  intro lv st h cs ss k ad H locs ls hR h0 ha hS hl hlv hst
  unfold k_uI at k
  split at k
  · exact lv_i2f A.1 A.2.1 hd (k ad H locs ls hR h0 ha hS hl hlv (List.forall_mem_cons.mpr ⟨trivial, (List.forall_mem_cons.mp hst).2⟩))
  · exact k.elim
theorem o_i2d (A : Act g p l s m args meth c cc nL own)  (hd : decode cc pc = .ok (.i2d, 1)) : Snd g n0 ads p l e R s m args below meth c nL Qf Q pc (k_uI (pc + 1) (fun x => .double (FP.i2d x))) := by
  intro lv st h cs ss k ad H locs ls hR h0 ha hS hl hlv hst
  unfold k_uI at k
  split at k
  · exact lv_i2d A.1 A.2.1 hd (k ad H locs ls hR h0 ha hS hl hlv (List.forall_mem_cons.mpr ⟨trivial, (List.forall_mem_cons.mp hst).2⟩))
  · exact k.elim
theorem o_l2d (A : Act g p l s m args meth c cc nL own)  (hd : decode cc pc = .ok (.l2d, 1)) : Snd g n0 ads p l e R s m args below meth c nL Qf Q pc (k_l2d (pc + 1)) := by
  intro lv st h cs ss k ad H locs ls hR h0 ha hS hl hlv hst
  unfold k_l2d at k
  split at k
  · exact lv_l2d A.1 A.2.1 hd (k ad H locs ls hR h0 ha hS hl hlv (List.forall_mem_cons.mpr ⟨trivial, (List.forall_mem_cons.mp hst).2⟩))
  · exact k.elim
theorem o_f2i (A : Act g p l s m args meth c cc nL own)  (hd : decode cc pc = .ok (.f2i, 1)) : Snd g n0 ads p l e R s m args below meth c nL Qf Q pc (k_f2i (pc + 1)) := by
  intro lv st h cs ss k ad H locs ls hR h0 ha hS hl hlv hst
  unfold k_f2i at k
  split at k
  · exact lv_f2i A.1 A.2.1 hd (k ad H locs ls hR h0 ha hS hl hlv (List.forall_mem_cons.mpr ⟨trivial, (List.forall_mem_cons.mp hst).2⟩))
  · exact k.elim
theorem o_f2d (A : Act g p l s m args meth c cc nL own)  (hd : decode cc pc = .ok (.f2d, 1)) : Snd g n0 ads p l e R s m args below meth c nL Qf Q pc (k_f2d (pc + 1)) := by
  intro lv st h cs ss k ad H locs ls hR h0 ha hS hl hlv hst
  unfold k_f2d at k
  split at k
  · exact lv_f2d A.1 A.2.1 hd k.1 (k.2 ad H locs ls hR h0 ha hS hl hlv (List.forall_mem_cons.mpr ⟨trivial, (List.forall_mem_cons.mp hst).2⟩))
  · exact k.elim
theorem o_fsub (A : Act g p l s m args meth c cc nL own)  (hd : decode cc pc = .ok (.fsub, 1)) : Snd g n0 ads p l e R s m args below meth c nL Qf Q pc (k_bF (pc + 1) FP.fsub) := by
  intro lv st h cs ss k ad H locs ls hR h0 ha hS hl hlv hst
  unfold k_bF at k
  split at k
  · exact lv_fsub A.1 A.2.1 hd k.1 (k.2 ad H locs ls hR h0 ha hS hl hlv (List.forall_mem_cons.mpr ⟨trivial, (List.forall_mem_cons.mp (List.forall_mem_cons.mp hst).2).2⟩))
  · exact k.elim
theorem o_fmul (A : Act g p l s m args meth c cc nL own)  (hd : decode cc pc = .ok (.fmul, 1)) : Snd g n0 ads p l e R s m args below meth c nL Qf Q pc (k_bF (pc + 1) FP.fmul) := by
  intro lv st h cs ss k ad H locs ls hR h0 ha hS hl hlv hst
  unfold k_bF at k
  split at k
  · exact lv_fmul A.1 A.2.1 hd k.1 (k.2 ad H locs ls hR h0 ha hS hl hlv (List.forall_mem_cons.mpr ⟨trivial, (List.forall_mem_cons.mp (List.forall_mem_cons.mp hst).2).2⟩))
  · exact k.elim
theorem o_fdiv (A : Act g p l s m args meth c cc nL own)  (hd : decode cc pc = .ok (.fdiv, 1)) : Snd g n0 ads p l e R s m args below meth c nL Qf Q pc (k_bF (pc + 1) FP.fdiv) := by
  intro lv st h cs ss k ad H locs ls hR h0 ha hS hl hlv hst
  unfold k_bF at k
  split at k
  · exact lv_fdiv A.1 A.2.1 hd k.1 (k.2 ad H locs ls hR h0 ha hS hl hlv (List.forall_mem_cons.mpr ⟨trivial, (List.forall_mem_cons.mp (List.forall_mem_cons.mp hst).2).2⟩))
  · exact k.elim
theorem o_ddiv (A : Act g p l s m args meth c cc nL own)  (hd : decode cc pc = .ok (.ddiv, 1)) : Snd g n0 ads p l e R s m args below meth c nL Qf Q pc (k_bD (pc + 1) FP.ddiv) := by
  intro lv st h cs ss k ad H locs ls hR h0 ha hS hl hlv hst
  unfold k_bD at k
  split at k
  · exact lv_ddiv A.1 A.2.1 hd k.1 (k.2 ad H locs ls hR h0 ha hS hl hlv (List.forall_mem_cons.mpr ⟨trivial, (List.forall_mem_cons.mp (List.forall_mem_cons.mp hst).2).2⟩))
  · exact k.elim
theorem o_fcmp (A : Act g p l s m args meth c cc nL own) {op : CmpOp} (hd : decode cc pc = .ok (.fcmp op, 1)) : Snd g n0 ads p l e R s m args below meth c nL Qf Q pc (k_fcmp (pc + 1) op) := by
  intro lv st h cs ss k ad H locs ls hR h0 ha hS hl hlv hst
  unfold k_fcmp at k
  split at k
  · exact lv_fcmp A.1 A.2.1 hd (k ad H locs ls hR h0 ha hS hl hlv (List.forall_mem_cons.mpr ⟨trivial, (List.forall_mem_cons.mp (List.forall_mem_cons.mp hst).2).2⟩))
  · exact k.elim
theorem o_dcmp (A : Act g p l s m args meth c cc nL own) {op : CmpOp} (hd : decode cc pc = .ok (.dcmp op, 1)) : Snd g n0 ads p l e R s m args below meth c nL Qf Q pc (k_dcmp (pc + 1) op) := by
  intro lv st h cs ss k ad H locs ls hR h0 ha hS hl hlv hst
  unfold k_dcmp at k
  split at k
  · exact lv_dcmp A.1 A.2.1 hd (k ad H locs ls hR h0 ha hS hl hlv (List.forall_mem_cons.mpr ⟨trivial, (List.forall_mem_cons.mp (List.forall_mem_cons.mp hst).2).2⟩))
  · exact k.elim
theorem o_if_eq (A : Act g p l s m args meth c cc nL own) {off : Int} {t : Nat} (ht : (pc : Int) + off = (t : Int)) (hd : decode cc pc = .ok (.ifCond .eq off, 3)) : Snd g n0 ads p l e R s m args below meth c nL Qf Q pc (k_if (pc + 3) t (fun x => x = 0)) := by
  intro lv st h cs ss k ad H locs ls hR h0 ha hS hl hlv hst
  unfold k_if at k
  split at k
  · exact lv_if_eq A.1 A.2.1 hd ht (fun q => k.1 q ad H locs ls hR h0 ha hS hl hlv (List.forall_mem_cons.mp hst).2) (fun q => k.2 q ad H locs ls hR h0 ha hS hl hlv (List.forall_mem_cons.mp hst).2)
  · exact k.elim
theorem o_if_ne (A : Act g p l s m args meth c cc nL own) {off : Int} {t : Nat} (ht : (pc : Int) + off = (t : Int)) (hd : decode cc pc = .ok (.ifCond .ne off, 3)) : Snd g n0 ads p l e R s m args below meth c nL Qf Q pc (k_if t (pc + 3) (fun x => x = 0)) := by
  intro lv st h cs ss k ad H locs ls hR h0 ha hS hl hlv hst
  unfold k_if at k
  split at k
  · exact lv_if_ne A.1 A.2.1 hd ht (fun q => k.2 q ad H locs ls hR h0 ha hS hl hlv (List.forall_mem_cons.mp hst).2) (fun q => k.1 q ad H locs ls hR h0 ha hS hl hlv (List.forall_mem_cons.mp hst).2)
  · exact k.elim
theorem o_if_lt (A : Act g p l s m args meth c cc nL own) {off : Int} {t : Nat} (ht : (pc : Int) + off = (t : Int)) (hd : decode cc pc = .ok (.ifCond .lt off, 3)) : Snd g n0 ads p l e R s m args below meth c nL Qf Q pc (k_if (pc + 3) t (fun x => x < 0)) := by
  intro lv st h cs ss k ad H locs ls hR h0 ha hS hl hlv hst
  unfold k_if at k
  split at k
  · exact lv_if_lt A.1 A.2.1 hd ht (fun q => k.1 q ad H locs ls hR h0 ha hS hl hlv (List.forall_mem_cons.mp hst).2) (fun q => k.2 q ad H locs ls hR h0 ha hS hl hlv (List.forall_mem_cons.mp hst).2)
  · exact k.elim
theorem o_if_ge (A : Act g p l s m args meth c cc nL own) {off : Int} {t : Nat} (ht : (pc : Int) + off = (t : Int)) (hd : decode cc pc = .ok (.ifCond .ge off, 3)) : Snd g n0 ads p l e R s m args below meth c nL Qf Q pc (k_if (pc + 3) t (fun x => 0 ≤ x)) := by
  intro lv st h cs ss k ad H locs ls hR h0 ha hS hl hlv hst
  unfold k_if at k
  split at k
  · exact lv_if_ge A.1 A.2.1 hd ht (fun q => k.1 q ad H locs ls hR h0 ha hS hl hlv (List.forall_mem_cons.mp hst).2) (fun q => k.2 q ad H locs ls hR h0 ha hS hl hlv (List.forall_mem_cons.mp hst).2)
  · exact k.elim
theorem o_if_gt (A : Act g p l s m args meth c cc nL own) {off : Int} {t : Nat} (ht : (pc : Int) + off = (t : Int)) (hd : decode cc pc = .ok (.ifCond .gt off, 3)) : Snd g n0 ads p l e R s m args below meth c nL Qf Q pc (k_if (pc + 3) t (fun x => 0 < x)) := by
  intro lv st h cs ss k ad H locs ls hR h0 ha hS hl hlv hst
  unfold k_if at k
  split at k
  · exact lv_if_gt A.1 A.2.1 hd ht (fun q => k.1 q ad H locs ls hR h0 ha hS hl hlv (List.forall_mem_cons.mp hst).2) (fun q => k.2 q ad H locs ls hR h0 ha hS hl hlv (List.forall_mem_cons.mp hst).2)
  · exact k.elim
theorem o_if_le (A : Act g p l s m args meth c cc nL own) {off : Int} {t : Nat} (ht : (pc : Int) + off = (t : Int)) (hd : decode cc pc = .ok (.ifCond .le off, 3)) : Snd g n0 ads p l e R s m args below meth c nL Qf Q pc (k_if (pc + 3) t (fun x => x ≤ 0)) := by
  intro lv st h cs ss k ad H locs ls hR h0 ha hS hl hlv hst
  unfold k_if at k
  split at k
  · exact lv_if_le A.1 A.2.1 hd ht (fun q => k.1 q ad H locs ls hR h0 ha hS hl hlv (List.forall_mem_cons.mp hst).2) (fun q => k.2 q ad H locs ls hR h0 ha hS hl hlv (List.forall_mem_cons.mp hst).2)
  · exact k.elim
theorem o_ic_eq (A : Act g p l s m args meth c cc nL own) {off : Int} {t : Nat} (ht : (pc : Int) + off = (t : Int)) (hd : decode cc pc = .ok (.if_icmp .eq off, 3)) : Snd g n0 ads p l e R s m args below meth c nL Qf Q pc (k_ic (pc + 3) t (fun x y => x = y)) := by
  intro lv st h cs ss k ad H locs ls hR h0 ha hS hl hlv hst
  unfold k_ic at k
  split at k
  · exact lv_icmp_eq A.1 A.2.1 hd ht (fun q => k.1 q ad H locs ls hR h0 ha hS hl hlv (List.forall_mem_cons.mp (List.forall_mem_cons.mp hst).2).2) (fun q => k.2 q ad H locs ls hR h0 ha hS hl hlv (List.forall_mem_cons.mp (List.forall_mem_cons.mp hst).2).2)
  · exact k.elim
theorem o_ic_ne (A : Act g p l s m args meth c cc nL own) {off : Int} {t : Nat} (ht : (pc : Int) + off = (t : Int)) (hd : decode cc pc = .ok (.if_icmp .ne off, 3)) : Snd g n0 ads p l e R s m args below meth c nL Qf Q pc (k_ic t (pc + 3) (fun x y => x = y)) := by
  intro lv st h cs ss k ad H locs ls hR h0 ha hS hl hlv hst
  unfold k_ic at k
  split at k
  · exact lv_icmp_ne A.1 A.2.1 hd ht (fun q => k.2 q ad H locs ls hR h0 ha hS hl hlv (List.forall_mem_cons.mp (List.forall_mem_cons.mp hst).2).2) (fun q => k.1 q ad H locs ls hR h0 ha hS hl hlv (List.forall_mem_cons.mp (List.forall_mem_cons.mp hst).2).2)
  · exact k.elim
theorem o_ic_lt (A : Act g p l s m args meth c cc nL own) {off : Int} {t : Nat} (ht : (pc : Int) + off = (t : Int)) (hd : decode cc pc = .ok (.if_icmp .lt off, 3)) : Snd g n0 ads p l e R s m args below meth c nL Qf Q pc (k_ic (pc + 3) t (fun x y => x < y)) := by
  intro lv st h cs ss k ad H locs ls hR h0 ha hS hl hlv hst
  unfold k_ic at k
  split at k
  · exact lv_icmp_lt A.1 A.2.1 hd ht (fun q => k.1 q ad H locs ls hR h0 ha hS hl hlv (List.forall_mem_cons.mp (List.forall_mem_cons.mp hst).2).2) (fun q => k.2 q ad H locs ls hR h0 ha hS hl hlv (List.forall_mem_cons.mp (List.forall_mem_cons.mp hst).2).2)
  · exact k.elim
theorem o_ic_ge (A : Act g p l s m args meth c cc nL own) {off : Int} {t : Nat} (ht : (pc : Int) + off = (t : Int)) (hd : decode cc pc = .ok (.if_icmp .ge off, 3)) : Snd g n0 ads p l e R s m args below meth c nL Qf Q pc (k_ic (pc + 3) t (fun x y => y ≤ x)) := by
  intro lv st h cs ss k ad H locs ls hR h0 ha hS hl hlv hst
  unfold k_ic at k
  split at k
  · exact lv_icmp_ge A.1 A.2.1 hd ht (fun q => k.1 q ad H locs ls hR h0 ha hS hl hlv (List.forall_mem_cons.mp (List.forall_mem_cons.mp hst).2).2) (fun q => k.2 q ad H locs ls hR h0 ha hS hl hlv (List.forall_mem_cons.mp (List.forall_mem_cons.mp hst).2).2)
  · exact k.elim
theorem o_ic_gt (A : Act g p l s m args meth c cc nL own) {off : Int} {t : Nat} (ht : (pc : Int) + off = (t : Int)) (hd : decode cc pc = .ok (.if_icmp .gt off, 3)) : Snd g n0 ads p l e R s m args below meth c nL Qf Q pc (k_ic (pc + 3) t (fun x y => y < x)) := by
  intro lv st h cs ss k ad H locs ls hR h0 ha hS hl hlv hst
  unfold k_ic at k
  split at k
  · exact lv_icmp_gt A.1 A.2.1 hd ht (fun q => k.1 q ad H locs ls hR h0 ha hS hl hlv (List.forall_mem_cons.mp (List.forall_mem_cons.mp hst).2).2) (fun q => k.2 q ad H locs ls hR h0 ha hS hl hlv (List.forall_mem_cons.mp (List.forall_mem_cons.mp hst).2).2)
  · exact k.elim
theorem o_ic_le (A : Act g p l s m args meth c cc nL own) {off : Int} {t : Nat} (ht : (pc : Int) + off = (t : Int)) (hd : decode cc pc = .ok (.if_icmp .le off, 3)) : Snd g n0 ads p l e R s m args below meth c nL Qf Q pc (k_ic (pc + 3) t (fun x y => x ≤ y)) := by
  intro lv st h cs ss k ad H locs ls hR h0 ha hS hl hlv hst
  unfold k_ic at k
  split at k
  · exact lv_icmp_le A.1 A.2.1 hd ht (fun q => k.1 q ad H locs ls hR h0 ha hS hl hlv (List.forall_mem_cons.mp (List.forall_mem_cons.mp hst).2).2) (fun q => k.2 q ad H locs ls hR h0 ha hS hl hlv (List.forall_mem_cons.mp (List.forall_mem_cons.mp hst).2).2)
  · exact k.elim
theorem o_ifnull (A : Act g p l s m args meth c cc nL own) {off : Int} {t : Nat} (ht : (pc : Int) + off = (t : Int)) (hd : decode cc pc = .ok (.ifnull off, 3)) : Snd g n0 ads p l e R s m args below meth c nL Qf Q pc (k_nul t (pc + 3)) := by
  intro lv st h cs ss k ad H locs ls hR h0 ha hS hl hlv hst
  unfold k_nul at k
  split at k
  · next a r =>
    show W p l e R s m args below meth c H locs cs ss Qf (F0 m pc ls (va_rf (ro ad a) :: r.map (cv ad)))
    by_cases q : a = 0
    · rw [show va_rf (ro ad a) = .null by unfold ro; rw [if_pos q]; rfl]
      exact lv_ifnullN A.1 A.2.1 hd ht (k.1 q ad H locs ls hR h0 ha hS hl hlv (List.forall_mem_cons.mp hst).2)
    · rw [show va_rf (ro ad a) = .ref (ad a) by unfold ro; rw [if_neg q]; rfl]
      exact lv_ifnull A.1 A.2.1 hd (k.2 q ad H locs ls hR h0 ha hS hl hlv (List.forall_mem_cons.mp hst).2)
  · exact k.elim
theorem o_ifnonnull (A : Act g p l s m args meth c cc nL own) {off : Int} {t : Nat} (ht : (pc : Int) + off = (t : Int)) (hd : decode cc pc = .ok (.ifnonnull off, 3)) : Snd g n0 ads p l e R s m args below meth c nL Qf Q pc (k_nul (pc + 3) t) := by
  intro lv st h cs ss k ad H locs ls hR h0 ha hS hl hlv hst
  unfold k_nul at k
  split at k
  · next a r =>
    show W p l e R s m args below meth c H locs cs ss Qf (F0 m pc ls (va_rf (ro ad a) :: r.map (cv ad)))
    by_cases q : a = 0
    · rw [show va_rf (ro ad a) = .null by unfold ro; rw [if_pos q]; rfl]
      exact lv_ifnonnullN A.1 A.2.1 hd (k.1 q ad H locs ls hR h0 ha hS hl hlv (List.forall_mem_cons.mp hst).2)
    · rw [show va_rf (ro ad a) = .ref (ad a) by unfold ro; rw [if_neg q]; rfl]
      exact lv_ifnonnull A.1 A.2.1 hd ht (k.2 q ad H locs ls hR h0 ha hS hl hlv (List.forall_mem_cons.mp hst).2)
  · exact k.elim
theorem o_dup (A : Act g p l s m args meth c cc nL own)  (hd : decode cc pc = .ok (.dup, 1)) : Snd g n0 ads p l e R s m args below meth c nL Qf Q pc (k_dup (pc + 1)) := by
  intro lv st h cs ss k ad H locs ls hR h0 ha hS hl hlv hst
  unfold k_dup at k
  split at k
  · have q := List.forall_mem_cons.mp hst
    exact lv_dup A.1 A.2.1 hd (cat2_cv k.1) (k.2 ad H locs ls hR h0 ha hS hl hlv (List.forall_mem_cons.mpr ⟨q.1, hst⟩))
  · exact k.elim
theorem o_pop (A : Act g p l s m args meth c cc nL own)  (hd : decode cc pc = .ok (.pop, 1)) : Snd g n0 ads p l e R s m args below meth c nL Qf Q pc (k_pop (pc + 1)) := by
  intro lv st h cs ss k ad H locs ls hR h0 ha hS hl hlv hst
  unfold k_pop at k
  split at k
  · have q := List.forall_mem_cons.mp hst
    exact lv_pop A.1 A.2.1 hd (cat2_cv k.1) (k.2 ad H locs ls hR h0 ha hS hl hlv q.2)
  · exact k.elim
theorem o_dupx1 (A : Act g p l s m args meth c cc nL own)  (hd : decode cc pc = .ok (.dup_x1, 1)) : Snd g n0 ads p l e R s m args below meth c nL Qf Q pc (k_dupx1 (pc + 1)) := by
  intro lv st h cs ss k ad H locs ls hR h0 ha hS hl hlv hst
  unfold k_dupx1 at k
  split at k
  · have q := List.forall_mem_cons.mp hst
    have q2 := List.forall_mem_cons.mp q.2
    exact lv_dup_x1 A.1 A.2.1 hd (cat2_cv k.1) (cat2_cv k.2.1) (k.2.2 ad H locs ls hR h0 ha hS hl hlv (List.forall_mem_cons.mpr ⟨q.1, List.forall_mem_cons.mpr ⟨q2.1, List.forall_mem_cons.mpr ⟨q.1, q2.2⟩⟩⟩))
  · exact k.elim
theorem o_dup2 (A : Act g p l s m args meth c cc nL own)  (hd : decode cc pc = .ok (.dup2, 1)) : Snd g n0 ads p l e R s m args below meth c nL Qf Q pc (k_dup2 (pc + 1)) := by
  intro lv st h cs ss k ad H locs ls hR h0 ha hS hl hlv hst
  unfold k_dup2 at k
  split at k
  · have q := List.forall_mem_cons.mp hst
    have q2 := List.forall_mem_cons.mp q.2
    exact lv_dup2_11 A.1 A.2.1 hd (cat2_cv k.1) (cat2_cv k.2.1) (k.2.2 ad H locs ls hR h0 ha hS hl hlv (List.forall_mem_cons.mpr ⟨q.1, List.forall_mem_cons.mpr ⟨q2.1, hst⟩⟩))
  · exact k.elim
end OPS
