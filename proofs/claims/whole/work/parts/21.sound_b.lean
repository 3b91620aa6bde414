/-! SOUNDNESS, second piece: the instructions that leave the heap as it is. -/
theorem pl_load_inv {ls st : List mV} {S : mSh} {M : mMem} {i t : Nat} {r : Option Prop × List mV × List mV × mSh × mMem} (h : pl_load ls st S M i t = some r) :
    (t = 0 ∧ ∃ x, ls.getD i vU = vI x ∧ r = (none, ls, vI x :: st, S, M)) ∨ (t = 1 ∧ ∃ x, ls.getD i vU = vL x ∧ ls.getD (i + 1) (vI 0) = vU ∧ r = (none, ls, vL x :: st, S, M)) ∨ (t = 2 ∧ ∃ x, ls.getD i vU = vA x ∧ r = (none, ls, vA x :: st, S, M)) := by
  unfold pl_load at h
  split at h
  · rename_i x e
    exact Or.inl ⟨rfl, x, e, (Option.some.inj h).symm⟩
  · rename_i x e
    split at h
    · rename_i u e2
      exact Or.inr (Or.inl ⟨rfl, x, e, e2, (Option.some.inj h).symm⟩)
    · cases h
  · rename_i x e
    exact Or.inr (Or.inr ⟨rfl, x, e, (Option.some.inj h).symm⟩)
  · cases h
theorem pl_store_inv {ls st : List mV} {S : mSh} {M : mMem} {i t : Nat} {r : Option Prop × List mV × List mV × mSh × mMem} (h : pl_store ls st S M i t = some r) :
    (t = 0 ∧ ∃ x st', st = vI x :: st' ∧ i < ls.length ∧ r = (none, st1 ls i (vI x), st', S, M)) ∨ (t = 1 ∧ ∃ x st', st = vL x :: st' ∧ i + 1 < ls.length ∧ r = (none, st2 ls i (vL x), st', S, M)) ∨ (t = 2 ∧ ∃ x st', st = vA x :: st' ∧ i < ls.length ∧ r = (none, st1 ls i (vA x), st', S, M)) := by
  unfold pl_store at h
  split at h
  · rename_i x st'
    split at h
    · rename_i e
      exact Or.inl ⟨rfl, x, st', rfl, Nat.blt_eq.mp e, (Option.some.inj h).symm⟩
    · cases h
  · rename_i x st'
    split at h
    · rename_i e
      exact Or.inr (Or.inl ⟨rfl, x, st', rfl, Nat.blt_eq.mp e, (Option.some.inj h).symm⟩)
    · cases h
  · rename_i x st'
    split at h
    · rename_i e
      exact Or.inr (Or.inr ⟨rfl, x, st', rfl, Nat.blt_eq.mp e, (Option.some.inj h).symm⟩)
    · cases h
  · cases h
theorem pl_bin_inv {ls st : List mV} {S : mSh} {M : mMem} {c : Int → Int → Option Prop} {f : Int → Int → Int} {r : Option Prop × List mV × List mV × mSh × mMem} (h : pl_bin ls st S M c f = some r) :
    ∃ x y st', st = vI y :: vI x :: st' ∧ r = (c x y, ls, vI (f x y) :: st', S, M) := by
  unfold pl_bin at h
  split at h
  · rename_i y x st'
    exact ⟨x, y, st', rfl, (Option.some.inj h).symm⟩
  · cases h
theorem pl_binL_inv {ls st : List mV} {S : mSh} {M : mMem} {c : Int → Int → Option Prop} {f : Int → Int → Int} {r : Option Prop × List mV × List mV × mSh × mMem} (h : pl_binL ls st S M c f = some r) :
    ∃ x y st', st = vL y :: vL x :: st' ∧ r = (c x y, ls, vL (f x y) :: st', S, M) := by
  unfold pl_binL at h
  split at h
  · rename_i y x st'
    exact ⟨x, y, st', rfl, (Option.some.inj h).symm⟩
  · cases h
/-- how long an instruction is -/
def ilen : Instr → Nat
  | .iload _ | .lload _ | .aload _ | .istore _ | .lstore _ | .astore _ | .bipush _ | .ldc _ | .newarray _ => 2
  | .iinc _ _ | .sipush _ | .ldc_w _ | .ldc2_w _ | .getfield _ | .putfield _ | .new _ | .anewarray _ | .invokestatic _ | .invokespecial _ | .invokevirtual _ | .goto _ | .ifCond _ _ | .if_icmp _ _ | .ifnull _ => 3
  | _ => 1
/-- those that leave the heap -/
def insA : Instr → mInf → Bool
  | .ldc _, inf | .ldc_w _, inf => Nat.beq inf.1 0
  | .aconst_null, _ | .iload _, _ | .iload_n _, _ | .lload _, _ | .lload_n _, _ | .aload _, _ | .aload_n _, _ | .istore _, _ | .istore_n _, _ | .lstore _, _ | .lstore_n _, _ | .astore _, _ | .astore_n _, _ | .iinc _ _, _ | .iconst _, _ | .bipush _, _ | .sipush _, _ | .lconst _, _ | .ldc2_w _, _ | .dup, _ | .pop, _ | .dup2, _ | .iadd, _ | .isub, _ | .imul, _ | .idiv, _ | .irem, _ | .iand, _ | .ior, _ | .ishl, _ | .ishr, _ | .ineg, _ | .ladd, _ | .lsub, _ | .lmul, _ | .ldiv, _ | .lrem, _ | .lcmp, _ | .i2l, _ | .l2i, _ => true
  | _, _ => false
def bR (x lo hi : Int) : Bool := decide (lo ≤ x) && decide (x ≤ hi)
theorem bR_spec {x lo hi : Int} (h : bR x lo hi = true) : lo ≤ x ∧ x ≤ hi := by
  unfold bR at h
  simp only [Bool.and_eq_true, decide_eq_true_eq] at h
  exact h
/-- the constants of an instruction are in range -/
def okA : Instr → mInf → Bool
  | .iconst v, _ => bR v (-1) 5
  | .bipush v, _ => bR v (-128) 127
  | .sipush v, _ => bR v (-32768) 32767
  | .ldc _, inf | .ldc_w _, inf => bR inf.2.1 (-2147483648) 2147483647
  | .ldc2_w _, inf => bR inf.2.1 (-9223372036854775808) 9223372036854775807
  | _, _ => true
/-- the words that a constant needs -/
def needA (own : String) : Instr → mInf → List Jvm.Cond
  | .ldc i, inf => [.constant own i (Int32.ofInt inf.2.1)]
  | .ldc_w i, inf => [.constant own i (Int32.ofInt inf.2.1)]
  | .ldc2_w i, inf => [.constantLong own i (Int64.ofInt inf.2.1)]
  | _, _ => []
theorem byte_ext {v : Int} (h : -128 ≤ v ∧ v ≤ 127) : (Int8.ofInt v).toInt32 = Int32.ofInt v := by
  rw [← Int32.toInt_inj, Int8.toInt_toInt32, Int8.toInt_ofInt_of_le (by have := h.1; omega) (by have := h.2; omega), i32_t ⟨by have := h.1; omega, by have := h.2; omega⟩]
theorem short_ext {v : Int} (h : -32768 ≤ v ∧ v ≤ 32767) : (Int16.ofInt v).toInt32 = Int32.ofInt v := by
  rw [← Int32.toInt_inj, Int16.toInt_toInt32, Int16.toInt_ofInt_of_le (by have := h.1; omega) (by have := h.2; omega), i32_t ⟨by have := h.1; omega, by have := h.2; omega⟩]
theorem gdb_i {ls : List mV} {i : Nat} {x : Int} (h : ls.getD i vU = vI x) : gdb ls i = true := by unfold gdb; rw [h]
theorem gdb_a {ls : List mV} {i : Nat} {x : Int} (h : ls.getD i vU = vA x) : gdb ls i = true := by unfold gdb; rw [h]
theorem gdb_l {ls : List mV} {i : Nat} {x : Int} (h : ls.getD i vU = vL x) (h2 : ls.getD (i + 1) (vI 0) = vU) : gdb ls i = true := by unfold gdb; rw [h]; dsimp only; rw [h2]
theorem okvs_cons {n : Int} {v : mV} {st : List mV} (h1 : okv n v) (h2 : ∀ w ∈ st, okv n w) : ∀ w ∈ v :: st, okv n w := fun w hw => (List.mem_cons.mp hw).elim (fun e => e ▸ h1) (h2 w)
theorem okvs_tl {n : Int} {v : mV} {st : List mV} (h : ∀ w ∈ v :: st, okv n w) : ∀ w ∈ st, okv n w := fun w hw => h w (List.mem_cons_of_mem _ hw)
theorem okvs_hd {n : Int} {v : mV} {st : List mV} (h : ∀ w ∈ v :: st, okv n w) : okv n v := h v List.mem_cons_self
section PSA
variable {p : Program} {l : Launch} {e : Env} {R : Room} {s : State} {m : MethodId} {args : Array Value} {below : List Frame} {meth : Method} {c : Code} {H : Heap} {locs : List Loc} {cells slots : Nat} {Q : State → Prop}
variable {cc : ByteArray} {pc : Nat} {as : List Nat} {ak : Nat → Nat} {n : Int} {nL : Nat} {rls : Array Slot} {own : String}
theorem ps_aload (hx : p.tables.exec = Jvm.exec) (hb : c.code = cc) {i : Nat} {x : Int} {ls st : List mV} (hd : decode cc pc = .ok (.aload i, 2)) (hl : LR as ak n rls nL ls) (hv : ls.getD i vU = vA x)
    (kk : W p l e R s m args below meth c H locs cells slots Q (F0 m (pc + 2) rls ((vA x :: st).map (enc as ak)))) : W p l e R s m args below meth c H locs cells slots Q (F0 m pc rls (st.map (enc as ak))) := by
  have h1 := hl.at hv (gdb_a hv) (fun e => by cases e)
  have kk : W p l e R s m args below meth c H locs cells slots Q (F0 m (pc + 2) rls (encR as ak x :: st.map (enc as ak))) := kk
  have h1 : rls[i]? = some (.val (encR as ak x)) := h1
  rcases encR_or as ak x with q | ⟨y, q⟩
  · rw [q] at h1 kk; exact lv_aloadN hx hb hd h1 kk
  · rw [q] at h1 kk; exact lv_aload hx hb hd h1 kk
theorem ps_aload_n (hx : p.tables.exec = Jvm.exec) (hb : c.code = cc) {i : Fin 4} {x : Int} {ls st : List mV} (hd : decode cc pc = .ok (.aload_n i, 1)) (hl : LR as ak n rls nL ls) (hv : ls.getD i.val vU = vA x)
    (kk : W p l e R s m args below meth c H locs cells slots Q (F0 m (pc + 1) rls ((vA x :: st).map (enc as ak)))) : W p l e R s m args below meth c H locs cells slots Q (F0 m pc rls (st.map (enc as ak))) := by
  have h1 := hl.at hv (gdb_a hv) (fun e => by cases e)
  have kk : W p l e R s m args below meth c H locs cells slots Q (F0 m (pc + 1) rls (encR as ak x :: st.map (enc as ak))) := kk
  have h1 : rls[i.val]? = some (.val (encR as ak x)) := h1
  rcases encR_or as ak x with q | ⟨y, q⟩
  · rw [q] at h1 kk; exact lv_aload_nN hx hb hd rfl h1 kk
  · rw [q] at h1 kk; exact lv_aload_n hx hb hd rfl h1 kk
theorem ps_astore (hx : p.tables.exec = Jvm.exec) (hb : c.code = cc) {i : Nat} {x : Int} {ls st : List mV} (hd : decode cc pc = .ok (.astore i, 2)) (hl : LR as ak n rls nL ls) (hi : i < ls.length) (hok : okv n (vA x))
    (kk : ∀ rls', LR as ak n rls' nL (st1 ls i (vA x)) → W p l e R s m args below meth c H locs cells slots Q (F0 m (pc + 2) rls' (st.map (enc as ak)))) : W p l e R s m args below meth c H locs cells slots Q (F0 m pc rls ((vA x :: st).map (enc as ak))) := by
  show W p l e R s m args below meth c H locs cells slots Q (F0 m pc rls (encR as ak x :: st.map (enc as ak)))
  have h9 : ∀ rls', lv_has rls' nL ((i, encR as ak x) :: (lvl as ak ls).filter (fun q => !(q.1 == i) && !(q.1 + 1 == i && q.2.category == 2))) → W p l e R s m args below meth c H locs cells slots Q (F0 m (pc + 2) rls' (st.map (enc as ak))) := fun rls' h' => kk rls' (hl.set1 hi rfl hok h')
  have hi2 : i < nL := hl.2.1 ▸ hi
  rcases encR_or as ak x with q | ⟨y, q⟩
  · rw [q] at h9 ⊢; exact lv_astoreN hx hb hd hl.1 hi2 rfl h9
  · rw [q] at h9 ⊢; exact lv_astore hx hb hd hl.1 hi2 rfl h9
theorem ps_astore_n (hx : p.tables.exec = Jvm.exec) (hb : c.code = cc) {i : Fin 4} {x : Int} {ls st : List mV} (hd : decode cc pc = .ok (.astore_n i, 1)) (hl : LR as ak n rls nL ls) (hi : i.val < ls.length) (hok : okv n (vA x))
    (kk : ∀ rls', LR as ak n rls' nL (st1 ls i.val (vA x)) → W p l e R s m args below meth c H locs cells slots Q (F0 m (pc + 1) rls' (st.map (enc as ak)))) : W p l e R s m args below meth c H locs cells slots Q (F0 m pc rls ((vA x :: st).map (enc as ak))) := by
  show W p l e R s m args below meth c H locs cells slots Q (F0 m pc rls (encR as ak x :: st.map (enc as ak)))
  have h9 : ∀ rls', lv_has rls' nL ((i.val, encR as ak x) :: (lvl as ak ls).filter (fun q => !(q.1 == i.val) && !(q.1 + 1 == i.val && q.2.category == 2))) → W p l e R s m args below meth c H locs cells slots Q (F0 m (pc + 1) rls' (st.map (enc as ak))) := fun rls' h' => kk rls' (hl.set1 hi rfl hok h')
  have hi2 : i.val < nL := hl.2.1 ▸ hi
  rcases encR_or as ak x with q | ⟨y, q⟩
  · rw [q] at h9 ⊢; exact lv_astore_nN hx hb hd rfl hl.1 hi2 rfl h9
  · rw [q] at h9 ⊢; exact lv_astore_n hx hb hd rfl hl.1 hi2 rfl h9
end PSA
