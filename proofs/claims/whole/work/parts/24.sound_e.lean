/-! SOUNDNESS, fifth piece: the relation of the real heap and the mini memory; fields. -/
theorem at_app {D : va_G} {cy : Int → ClassId} {S : mSh} {M : mMem} {as bs : List Nat} {ak : Nat → Nat} {a : Int} {x : Nat} {H : Heap} (hn : (as.length : Int) = sN S) (h : okC S M a) (ha : va_at D vwCl (x, cel cy S M as ak a) H) : va_at D vwCl (x, cel cy S M (as ++ bs) ak a) H := by
  have h1 := cel_app (cy := cy) (bs := bs) (ak := ak) hn h
  revert h1 ha
  generalize cel cy S M (as ++ bs) ak a = u
  generalize cel cy S M as ak a = w
  intro ha h1
  match u, w, h1, ha with
  | .inr q, .inr r, h1, ha =>
    have h1 : q = r := h1
    rw [h1]; exact ha
  | .inl q, .inl r, h1, ha =>
    have h1 : vp_cell q.1 q.2 = vp_cell r.1 r.2 := h1
    show H[x]? = some (vp_cell q.1 q.2)
    rw [h1]; exact ha
theorem wld_len {cy : Int → ClassId} {S : mSh} {M : mMem} {as : List Nat} {ak : Nat → Nat} : (wld cy S M as ak).length = as.length := by unfold wld; simp
theorem wld_get {cy : Int → ClassId} {S : mSh} {M : mMem} {as : List Nat} {ak : Nat → Nat} {k : Nat} {q : Nat × va_E} (h : (wld cy S M as ak)[k]? = some q) : k < as.length ∧ q = (as.getD k 0, cel cy S M as ak ((k : Int) + 1)) := by
  have hk : k < as.length := by
    have := (List.getElem?_eq_some_iff.mp h).1
    rwa [wld_len] at this
  unfold wld at h
  rw [List.getElem?_map, List.getElem?_range hk] at h
  exact ⟨hk, (Option.some.inj h).symm⟩
theorem wld_D {A : Nat → Prop} {cy : Int → ClassId} {S S' : mSh} {M M' : mMem} {as : List Nat} {ak : Nat → Nat} (h : va_D A (wld cy S M as ak)) : va_D A (wld cy S' M' as ak) := by
  have key : ∀ (k : Nat) (q : Nat × va_E), (wld cy S' M' as ak)[k]? = some q → ∃ r : Nat × va_E, (wld cy S M as ak)[k]? = some r ∧ r.1 = q.1 := by
    intro k q hq
    obtain ⟨hk, e⟩ := wld_get hq
    refine ⟨(as.getD k 0, cel cy S M as ak ((k : Int) + 1)), ?_, by rw [e]⟩
    unfold wld
    rw [List.getElem?_map, List.getElem?_range hk]; rfl
  refine ⟨fun i j p q hi hj e => ?_, fun k q hq => ?_⟩
  · obtain ⟨r1, a1, a2⟩ := key i p hi
    obtain ⟨r2, b1, b2⟩ := key j q hj
    exact h.1 i j r1 r2 a1 b1 (by rw [a2, b2, e])
  · obtain ⟨r, a1, a2⟩ := key k q hq
    rw [← a2]; exact h.2 k r a1
theorem wld_push {D : va_G} {cy : Int → ClassId} {S S' : mSh} {M M' : mMem} {as : List Nat} {ak : Nat → Nat} {q : Nat} {en : va_E} {H : Heap} (hn : (as.length : Int) = sN S) (hM : MOK S M)
    (hold : ∀ (bs : List Nat) a, 1 ≤ a → a ≤ sN S → cel cy S' M' bs ak a = cel cy S M bs ak a) (hnew : cel cy S' M' (as ++ [q]) ak (sN S + 1) = en)
    (h : va_P D vwCl (wld cy S M as ak ++ [(q, en)]) H) : va_P D vwCl (wld cy S' M' (as ++ [q]) ak) H := by
  intro k w hw
  obtain ⟨hk, e⟩ := wld_get hw
  rw [List.length_append] at hk
  simp only [List.length_cons, List.length_nil] at hk
  by_cases hk2 : k < as.length
  · have h1 : (wld cy S M as ak)[k]? = some (as.getD k 0, cel cy S M as ak ((k : Int) + 1)) := by
      unfold wld; rw [List.getElem?_map, List.getElem?_range hk2]; rfl
    have h2 := h k (as.getD k 0, cel cy S M as ak ((k : Int) + 1)) (by rw [List.getElem?_append_left (by rw [wld_len]; exact hk2)]; exact h1)
    have h3 := at_app (bs := [q]) hn (hM ((k : Int) + 1) (by omega) (by omega)) h2
    rw [e, hold _ _ (by omega) (by omega)]
    rw [List.getD_eq_getElem?_getD, List.getElem?_append_left hk2, ← List.getD_eq_getElem?_getD]
    exact h3
  · have hk3 : k = as.length := by omega
    have h2 := h k (q, en) (by rw [List.getElem?_append_right (by rw [wld_len]; omega), wld_len, hk3, Nat.sub_self]; rfl)
    have e2 : (k : Int) + 1 = sN S + 1 := by omega
    rw [e, e2, hnew]
    rw [List.getD_eq_getElem?_getD, List.getElem?_append_right (by omega), hk3, Nat.sub_self]
    exact h2
theorem wld_Dpush {A : Nat → Prop} {cy : Int → ClassId} {S S' : mSh} {M M' : mMem} {as : List Nat} {ak : Nat → Nat} {q : Nat} {en : va_E} (h : va_D A (wld cy S M as ak ++ [(q, en)])) : va_D A (wld cy S' M' (as ++ [q]) ak) := by
  have key : ∀ (k : Nat) (w : Nat × va_E), (wld cy S' M' (as ++ [q]) ak)[k]? = some w → ∃ r : Nat × va_E, (wld cy S M as ak ++ [(q, en)])[k]? = some r ∧ r.1 = w.1 := by
    intro k w hw
    obtain ⟨hk, e⟩ := wld_get hw
    rw [List.length_append] at hk
    simp only [List.length_cons, List.length_nil] at hk
    by_cases hk2 : k < as.length
    · refine ⟨(as.getD k 0, cel cy S M as ak ((k : Int) + 1)), ?_, ?_⟩
      · rw [List.getElem?_append_left (by rw [wld_len]; exact hk2)]
        unfold wld; rw [List.getElem?_map, List.getElem?_range hk2]; rfl
      · rw [e, List.getD_eq_getElem?_getD, List.getD_eq_getElem?_getD, List.getElem?_append_left hk2]
    · have hk3 : k = as.length := by omega
      refine ⟨(q, en), ?_, ?_⟩
      · rw [List.getElem?_append_right (by rw [wld_len]; omega), wld_len, hk3, Nat.sub_self]; rfl
      · rw [e, List.getD_eq_getElem?_getD, List.getElem?_append_right (by omega), hk3, Nat.sub_self]; rfl
  refine ⟨fun i j p w hi hj e => ?_, fun k w hw => ?_⟩
  · obtain ⟨r1, a1, a2⟩ := key i p hi
    obtain ⟨r2, b1, b2⟩ := key j w hj
    exact h.1 i j r1 r2 a1 b1 (by rw [a2, b2, e])
  · obtain ⟨r, a1, a2⟩ := key k w hw
    rw [← a2]; exact h.2 k r a1
def tysL (cy : Int → ClassId) : List (ClassId × FieldType) := [(cy 20, .int), (cy 21, .long), (cy 22, .boolean), (cy 23, .object RX6), (cy 24, .object RX4), (cy 25, .object RX3)]
/-- the relation: memory and heap -/
def RW (n0 : Nat) (D : va_G) (cy : Int → ClassId) (ak : Nat → Nat) (s : State) (S : mSh) (M : mMem) (as : List Nat) (H : Heap) (locs : List Loc) : Prop :=
  (as.length : Int) = sN S ∧ MOK S M ∧ va_P D vwCl (wld cy S M as ak) H ∧ va_D (fun q => n0 ≤ q) (wld cy S M as ak) ∧ va_S (fun q => n0 ≤ q) s.heap H locs
/-- what is checked of a field's instruction -/
def fchk (inf : mInf) : Bool := decide (0 ≤ inf.2.1) && decide (inf.2.1 < 10) && decide (0 ≤ inf.2.2.1) && decide (inf.2.2.1.toNat < (fTab inf.2.1).length) && decide ((fTab inf.2.1).getD inf.2.2.1.toNat (9, 0) = (inf.1, inf.2.2.2))
theorem fchk_spec {t : Nat} {ci k off : Int} (h : fchk (t, ci, k, off) = true) : 0 ≤ ci ∧ ci < 10 ∧ 0 ≤ k ∧ k.toNat < (fTab ci).length ∧ (fTab ci).getD k.toNat (9, 0) = (t, off) := by
  unfold fchk at h
  simp only [Bool.and_eq_true, decide_eq_true_eq] at h
  exact ⟨h.1.1.1.1, h.1.1.1.2, h.1.1.2, h.1.2, h.2⟩
def clOf (ci : Int) : vw_C := vwCl.getD ci.toNat (RX0, TX0, 6)
theorem clOf_get {ci : Int} (h0 : 0 ≤ ci) (h : ci < 10) : vwCl[ci.toNat]? = some (clOf ci) := by
  unfold clOf
  rw [List.getD_eq_getElem?_getD]
  have : ci.toNat < vwCl.length := by show ci.toNat < 10; omega
  rw [List.getElem?_eq_getElem this]; rfl
theorem fTab_len {ci : Int} (h0 : 0 ≤ ci) (h : ci < 10) : (fTab ci).length = (clOf ci).2.2 := (fT_ok _ _ (clOf_get h0 h)).1
def needF (own : String) (i : Nat) (inf : mInf) : List Jvm.Cond := [.fieldLink own i ((clOf inf.2.1).2.1 inf.2.2.1.toNat).1 ((clOf inf.2.1).2.1 inf.2.2.1.toNat).2.1 ((clOf inf.2.1).2.1 inf.2.2.1.toNat).2.2.1]
theorem pl_getf_inv {inf : mInf} {ls st : List mV} {S : mSh} {M : mMem} {r : Option Prop × List mV × List mV × mSh × mMem} (h : pl_getf inf ls st S M = some r) :
    ∃ (t : Nat) (ci k off a : Int) (st' : List mV), inf = (t, ci, k, off) ∧ st = vA a :: st' ∧ t ≤ 4 ∧ r = (some (if t = 3 then isO S a ci ∧ sF S a k = 1 else isO S a ci), ls, (if t = 1 then vL (M a k) else if t = 2 then vA (M a k) else if t = 3 then vA (a + off) else vI (M a k)) :: st', S, M) := by
  unfold pl_getf at h
  split at h <;> first | cases h; done | (rename_i ci k _ a st'; exact ⟨_, ci, k, _, a, st', rfl, rfl, by decide, (Option.some.inj h).symm⟩) | (rename_i ci k off a st'; exact ⟨_, ci, k, off, a, st', rfl, rfl, by decide, (Option.some.inj h).symm⟩)
theorem fldL_get {S : mSh} {r : Int → Int} {as : List Nat} {ak : Nat → Nat} {a : Int} {k : Nat} (h : k < (fTab (sK S a)).length) : (fldL S r as ak a)[k]? = some (fval S r as ak a ((fTab (sK S a)).getD k (9, 0)) k) := by
  unfold fldL
  rw [List.getElem?_map, List.getElem?_range h]; rfl
theorem kcast {k : Int} (h : 0 ≤ k) : ((k.toNat : Nat) : Int) = k := by omega
section PSE
variable {p : Program} {l : Launch} {e : Env} {R : Room} {s : State} {m : MethodId} {args : Array Value} {below : List Frame} {meth : Method} {c : Code} {H : Heap} {locs : List Loc} {cells slots : Nat} {Q : State → Prop}
variable {cc : ByteArray} {pc : Nat} {as : List Nat} {ak : Nat → Nat} {nL n0 : Nat} {rls : Array Slot} {own : String} {D : va_G} {cy : Int → ClassId} {Ts : List Jvm.Cond}
theorem ps_getf (hx : p.tables.exec = Jvm.exec) (hb : c.code = cc) (hown : s.vm.findClass own = some m.cls) (hts : ∀ w ∈ Ts, w.before args s = true) (hin : ∀ (ci : Nat) (q : vw_C), vwCl[ci]? = some q → ∀ w ∈ u_ws q.1 q.2.1 q.2.2, w ∈ Ts) (hK : va_K D vwCl (tysL cy) s)
    {i : Nat} {inf : mInf} {ls st : List mV} {S : mSh} {M : mMem} {oc : Option Prop} {ls' st' : List mV} {S' : mSh} {M' : mMem}
    (hp : pl_getf inf ls st S M = some (oc, ls', st', S', M')) (hc : ∀ q, oc = some q → q) (hd : decode cc pc = .ok (.getfield i, 3)) (hk : fchk inf = true) (hw : ∀ w ∈ needF own i inf, w.before args s = true)
    (hR : RW n0 D cy ak s S M as H locs) (hst : ∀ v ∈ st, okv (sN S) v)
    (kk : S' = S → M' = M → ls' = ls → (∀ v ∈ st', okv (sN S) v) → W p l e R s m args below meth c H locs cells slots Q (F0 m (pc + 3) rls (st'.map (enc as ak)))) :
    W p l e R s m args below meth c H locs cells slots Q (F0 m pc rls (st.map (enc as ak))) := by
  obtain ⟨t, ci, k, off, a, st2, rfl, rfl, ht, hr⟩ := pl_getf_inv hp
  cases hr
  obtain ⟨f1, f2, f3, f4, f5⟩ := fchk_spec hk
  have hcnd := hc _ rfl
  have hO : isO S a ci := by
    by_cases h3 : t = 3
    · rw [if_pos h3] at hcnd; exact hcnd.1
    · rw [if_neg h3] at hcnd; exact hcnd
  obtain ⟨o1, o2, o3⟩ := hO
  obtain ⟨r1, r2, r3, r4, r5⟩ := hR
  have hM := r2 a o1 o2
  have hlt : sK S a < 20 := by omega
  obtain ⟨-, -, hM⟩ := hM.1 hlt
  have hMk := hM k.toNat (by rw [o3]; exact f4)
  rw [o3, f5, kcast f3] at hMk
  show W p l e R s m args below meth c H locs cells slots Q (F0 m pc rls (encR as ak a :: st2.map (enc as ak)))
  rw [encR_pos o1]
  have he : (wld cy S M as ak)[(a - 1).toNat]? = some (as.getD (a - 1).toNat 0, .inr (ci.toNat, fldL S (M a) as ak a)) := by
    rw [wld_at o1 (by omega)]
    unfold cel
    rw [if_pos hlt, o3]
  have hcl := clOf_get f1 f2
  have hkN : k.toNat < (clOf ci).2.2 := by rw [← fTab_len f1 f2]; exact f4
  have hv : (fldL S (M a) as ak a)[k.toNat]? = some (fval S (M a) as ak a (t, off) k.toNat) := by
    rw [fldL_get (by rw [o3]; exact f4), o3, f5]
  refine va_get (C := (clOf ci).1) (T := (clOf ci).2.1) (N := (clOf ci).2.2) (ref := ((clOf ci).2.1 k.toNat).1) hx hb hts (hin _ _ hcl) hown hK r3 (a - 1).toNat he hcl k.toNat hkN (hw _ List.mem_cons_self) (fun _ h9 => h9) hv hd ?_
  have hval : ∀ v : mV, fval S (M a) as ak a (t, off) k.toNat = enc as ak v → okv (sN S) v → (if t = 1 then vL (M a k) else if t = 2 then vA (M a k) else if t = 3 then vA (a + off) else vI (M a k)) = v → W p l e R s m args below meth c H locs cells slots Q (F0 m (pc + 3) rls (fval S (M a) as ak a (t, off) k.toNat :: st2.map (enc as ak))) := by
    intro v h1 h2 h3
    rw [h1]
    rw [h3] at kk
    exact kk rfl rfl rfl (okvs_cons h2 (okvs_tl hst))
  have kc := kcast f3
  match t, ht, hval, hMk, hcnd with
  | 0, _, hval, hMk, _ => exact hval (vI (M a k)) (by show Value.int (Int32.ofInt (M a k.toNat)) = _; rw [kc]; rfl) hMk.1 rfl
  | 1, _, hval, hMk, _ => exact hval (vL (M a k)) (by show Value.long (Int64.ofInt (M a k.toNat)) = _; rw [kc]; rfl) hMk.1 rfl
  | 2, _, hval, hMk, _ => exact hval (vA (M a k)) (by show encR as ak (M a k.toNat) = _; rw [kc]; rfl) hMk.1 rfl
  | 3, _, hval, hMk, hcnd =>
    have hf : sF S a k = 1 := hcnd.2
    exact hval (vA (a + off)) (by show (if sF S a k.toNat = 1 then encR as ak (a + off) else .null) = _; rw [kc, if_pos hf]; rfl) (hMk.2 rfl hf) rfl
  | 4, _, hval, hMk, _ =>
    refine hval (vI (M a k)) (by show Value.int (Int32.ofInt (M a k.toNat)) = _; rw [kc]; rfl) ?_ rfl
    have h9 : M a k = 0 ∨ M a k = 1 := hMk.1
    show R32 (M a k)
    rcases h9 with h9 | h9 <;> rw [h9] <;> exact ⟨by decide, by decide⟩
end PSE
