/-! SOUNDNESS: the body of a method, whatever it runs. -/
def BodyAt (P : List mMeth) (l : Launch) (n0 : Nat) (D : va_G) (cy : Int → ClassId) (ak av : Nat → Nat) (L : Nat) (xs : Nat → Int32) (n : Nat) : Prop :=
  ∀ (d j : Nat) (x : mEnt) (cs : List mEnt) (ls st : List mV) (S : mSh) (M : mMem) (r : Option mV) (Sf : mSh) (Mf : mMem), ex P n d j (x :: cs) ls st S M = some (r, Sf, Mf) → (x :: cs) <:+ mCode P j → j < P.length →
  ∀ (p : Program) (e : Env) (R : Room) (s : State) (m : MethodId) (args : Array Value) (below : List Frame) (meth : Method) (c : Code) (H : Heap) (locs : List Loc) (cells slots : Nat) (Q : State → Prop) (as : List Nat) (rls : Array Slot),
    p.tables.exec = Jvm.exec → c.code = bOf j → c.maxLocals = mxOf P j → s.vm.findClass (yOf j).cls = some m.cls → (∀ w ∈ WSg, w.before args s = true) → meth.name = (yOf j).name → CU n0 D cy ak av L xs s → d + 6 ≤ R.frames → 64 * d + 300 ≤ R.locals →
    RW n0 D cy ak s S M as H locs → LR as ak (sN S) rls (mxOf P j) ls → (∀ v ∈ st, okv (sN S) v) → SCM L xs S M → cells + (sN Sf - sN S).toNat ≤ R.cells → slots + (sU Sf - sU S).toNat ≤ R.slots →
    (∀ (bs : List Nat) (H1 : Heap) (locs1 : List Loc) (rls1 : Array Slot) (pcR : Nat) (insR : Instr) (stR : List mV) (cR : Prop), rt (mRet P j) insR stR = some (cR, r) → cR → decode (bOf j) pcR = .ok (insR, 1) → (∀ v ∈ stR, okv (sN Sf) v) → RW n0 D cy ak s Sf Mf (as ++ bs) H1 locs1 →
      W p l e R s m args below meth c H1 locs1 (cells + (sN Sf - sN S).toNat) (slots + (sU Sf - sU S).toNat) Q (F0 m pcR rls1 (stR.map (enc (as ++ bs) ak)))) →
    W p l e R s m args below meth c H locs cells slots Q (F0 m x.1 rls (st.map (enc as ak)))
theorem SCM.grow {L : Nat} {xs : Nat → Int32} {S S' : mSh} {M M' : mMem} (h : SCM L xs S M) (g : Grow S M S' M') : SCM L xs S' M' := ⟨g.2.2.1.trans h.1, h.2.1, fun j hj => by rw [g.2.2.2]; exact h.2.2 j hj⟩
theorem mCode_nil {P : List mMeth} {q : Nat} (h : ¬ q < P.length) : mCode P q = [] := by
  unfold mCode mGet
  rw [List.getD_eq_getElem?_getD, List.getElem?_eq_none (by omega)]
  rfl
set_option maxHeartbeats 4000000 in
theorem met_of {P : List mMeth} (hP : PROK P) {l : Launch} {n0 : Nat} {D : va_G} {cy : Int → ClassId} {ak av : Nat → Nat} {L : Nat} {xs : Nat → Int32} {n : Nat} (hB : BodyAt P l n0 D cy ak av L xs n)
    {d q : Nat} {A : List mV} {S : mSh} {M : mMem} {r : Option mV} {S1 : mSh} {M1 : mMem} (hex : ex P n d q (mCode P q) (iniL A (mxOf P q)) [] S M = some (r, S1, M1)) {as : List Nat} (hAu : ∀ v ∈ A, v ≠ vU) (hAo : ∀ v ∈ A, okv (sN S) v) (hAw : (iniA A).length ≤ mxOf P q) (h0 : 0 ≤ sN S) (hsc : SCM L xs S M) :
    Met l (yOf q) (wsOf (yOf q) (bOf q) (mxOf P q) (rOf q)) (rmD d (sN S1 - sN S).toNat (sU S1 - sU S).toNat) (va_Pc (A.map (enc as ak)) (fun U => HU n0 D cy ak S M as U.heap ∧ CU n0 D cy ak av L xs U)) (Qm n0 D cy ak r S1 M1 as) (sN S1 - sN S).toNat (sU S1 - sU S).toNat (fun q => n0 ≤ q) := by
  have hq : q < P.length := by
    rcases Nat.lt_or_ge q P.length with h | h
    · exact h
    · rw [mCode_nil (by omega)] at hex
      cases n with
      | zero => rw [ex_0] at hex; cases hex
      | succ n => rw [ex_nil] at hex; cases hex
  obtain ⟨hent, hseq, m1, m2, m3, m4, m5, m6⟩ := hP.2 q hq
  obtain ⟨x, cs, hcode⟩ : ∃ x cs, mCode P q = x :: cs := by
    cases hc : mCode P q with
    | nil =>
      rw [hc] at hex
      cases n with
      | zero => rw [ex_0] at hex; cases hex
      | succ n => rw [ex_nil] at hex; cases hex
    | cons x cs => exact ⟨x, cs, rfl⟩
  have hg := ex_grow hP.1 n d q _ _ _ _ _ _ _ _ hex (List.suffix_refl _) h0
  refine Met.ofW (cc := bOf q) (maxL := mxOf P q) (ret := rOf q) m3 rfl ?_
  intro p e s m args below meth c s₁ B hml hv
  obtain ⟨rfl, ⟨u1, u2, u3, u4⟩, hCU⟩ := hv
  have hx := B.exec
  have hb := B.bytes
  have hr := B.returns
  have hts := atoms_spec (ws := wsOf (yOf q) (bOf q) (mxOf P q) (rOf q)) B.pre
  have hlocks := B.notSynchronized
  have hown : s.vm.findClass (yOf q).cls = some m.cls := findClass_of_methodNamed B.named
  have hnm : meth.name = (yOf q).name := (name_of_methodNamed B.named B.method).1
  have hl := lv_entry (A.map (enc as ak)) (n := mxOf P q) (by rw [← iniA_len as ak A hAu]; exact hAw)
  rw [lg_entry_eq]
  generalize (lg_sl (A.map (enc as ak)) ++ List.replicate (mxOf P q - (lg_sl (A.map (enc as ak))).length) Slot.unset).toArray = ls0 at hl ⊢
  have hLR : LR as ak (sN S) ls0 (mxOf P q) (iniL A (mxOf P q)) := entry_LR hAu hAo hAw hl
  have hx0 : x.1 = 0 := m6 x cs hcode
  have hRW : RW n0 D cy ak s S M as s.heap [] := ⟨u1, u2, u3, u4, va_S.rf⟩
  rw [hcode] at hex
  have key := hB d q x cs (iniL A (mxOf P q)) [] S M r S1 M1 hex (by rw [hcode]; exact List.suffix_refl _) hq p e (headSpec (wsOf (yOf q) (bOf q) (mxOf P q) (rOf q)) (rmD d (sN S1 - sN S).toNat (sU S1 - sU S).toNat)).room s m (A.map (enc as ak)).toArray below meth c s.heap [] 0 0
    (MQ below (Qm n0 D cy ak r S1 M1 as) (A.map (enc as ak)).toArray s (sN S1 - sN S).toNat (sU S1 - sU S).toNat (fun q => n0 ≤ q)) as ls0 hx hb hml hown (fun w hw => hts w (ws_in w hw)) hnm hCU (Nat.le_refl _) (Nat.le_refl _) hRW hLR (fun v hv => by cases hv) hsc (by rw [Nat.zero_add]; exact Nat.le_refl _) (by rw [Nat.zero_add]; exact Nat.le_refl _) ?_
  · rw [hx0] at key
    exact key
  · intro bs H1 locs1 rls1 pcR insR stR cR hrt hcR hdec hokR hRW1
    rw [Nat.zero_add, Nat.zero_add]
    obtain ⟨w1, w2, w3, w4, w5⟩ := hRW1
    have post : ∀ (o : Option Value), o = r.map (enc (as ++ bs) ak) → (∀ v, r = some v → okv (sN S1) v) → ∀ t : State, t.heap = H1 → s.WarmedH t.vm → Qm n0 D cy ak r S1 M1 as (A.map (enc as ak)).toArray s (.returned o) t := by
      intro o ho hok t ht hW
      refine ⟨⟨bs, by rw [ho], hok, w1, w2, by rw [ht]; exact w3, w4⟩, ?_⟩
      exact w5.F ht
    have free : ∀ z ∈ locs1, n0 ≤ z.base := w5.2.2
    rcases rt_inv hrt with ⟨k0, rfl, z, rfl, rfl⟩ | ⟨k0, rfl, z, rfl, rfl, rfl⟩ | ⟨k0, rfl, z, rfl, rfl⟩ | ⟨k0, rfl, z, rfl, rfl⟩ | ⟨k0, rfl, rfl, rfl⟩
    · rw [k0] at m5
      have hret : rOf q = some .int := by
        revert m5; cases rOf q with
        | none => intro h; cases h
        | some f => cases f <;> intro h <;> first | rfl | cases h
      exact W.iret hx hb (hr.trans hret) (post _ rfl (fun v hv => by cases hv; exact okvs_hd hokR)) free hdec
    · rw [k0] at m5
      have hret : rOf q = some .boolean := by
        revert m5; cases rOf q with
        | none => intro h; cases h
        | some f => cases f <;> intro h <;> first | rfl | cases h
      exact W.zret (ty := .boolean) hx hb (hr.trans hret) (by rcases hcR with rfl | rfl <;> rfl) (post _ rfl (fun v hv => by cases hv; exact okvs_hd hokR)) free hdec
    · rw [k0] at m5
      have hret : rOf q = some .long := by
        revert m5; cases rOf q with
        | none => intro h; cases h
        | some f => cases f <;> intro h <;> first | rfl | cases h
      exact W.lret hx hb (hr.trans hret) (post _ rfl (fun v hv => by cases hv; exact okvs_hd hokR)) free hdec
    · rw [k0] at m5
      have hret : ∃ nn, rOf q = some (.object nn) := by
        revert m5; cases rOf q with
        | none => intro h; cases h
        | some f => cases f <;> intro h <;> first | exact ⟨_, rfl⟩ | cases h
      obtain ⟨nn, hret⟩ := hret
      exact W.aret hx hb (hr.trans hret) (Or.inl ⟨nn, rfl⟩) (encR_or _ _ z) (post _ rfl (fun v hv => by cases hv; exact okvs_hd hokR)) free hdec
    · rw [k0] at m5
      have hret : rOf q = none := by
        revert m5; cases rOf q with
        | none => intro _; rfl
        | some f => cases f <;> intro h <;> cases h
      exact W.vret hx hb (hr.trans hret) (post _ rfl (fun v hv => by cases hv)) free hdec
