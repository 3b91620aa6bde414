/-! SOUNDNESS, ninth piece: new cells. -/
theorem RA_inj {s : State} {c1 c2 : ClassId} {ty : FieldType} (h1 : va_RA s c1 ty) (h2 : va_RA s c2 ty) : c1 = c2 := by
  cases ty with
  | object C =>
    obtain ⟨_, _, -, -, -, e1⟩ := h1
    obtain ⟨_, _, -, -, -, e2⟩ := h2
    exact Option.some.inj (e1.symm.trans e2)
  | _ => exact Option.some.inj ((show s.vm.findClass _ = some c1 from h1).symm.trans (show s.vm.findClass _ = some c2 from h2))
theorem newK {S : mSh} {kd len sl a : Int} (h : a ≠ sN S + 1) : sK (sNew S kd len sl) a = sK S a := if_neg h
theorem newL {S : mSh} {kd len sl a : Int} (h : a ≠ sN S + 1) : sL (sNew S kd len sl) a = sL S a := if_neg h
theorem newF {S : mSh} {kd len sl a k : Int} (h : a ≠ sN S + 1) : sF (sNew S kd len sl) a k = sF S a k := if_neg h
theorem newK1 {S : mSh} {kd len sl : Int} : sK (sNew S kd len sl) (sN S + 1) = kd := if_pos rfl
theorem newL1 {S : mSh} {kd len sl : Int} : sL (sNew S kd len sl) (sN S + 1) = len := if_pos rfl
theorem newF1 {S : mSh} {kd len sl k : Int} : sF (sNew S kd len sl) (sN S + 1) k = 0 := if_pos rfl
theorem newN {S : mSh} {kd len sl : Int} : sN (sNew S kd len sl) = sN S + 1 := rfl
theorem newU {S : mSh} {kd len sl : Int} : sU (sNew S kd len sl) = sU S + sl := rfl
theorem zr_row {M : mMem} {a b : Int} (h : b ≠ a) : zr M a b = M b := funext fun _ => if_neg h
theorem zr_row1 {M : mMem} {a : Int} : zr M a a = fun _ => 0 := funext fun _ => if_pos rfl
theorem cel_new {cy : Int → ClassId} {S : mSh} {M : mMem} {as : List Nat} {ak : Nat → Nat} {kd len sl a : Int} (h : a ≠ sN S + 1) : cel cy (sNew S kd len sl) (zr M (sN S + 1)) as ak a = cel cy S M as ak a := by
  unfold cel fldL
  rw [newK h, newL h, zr_row h]
  have : ∀ q j, fval (sNew S kd len sl) (M a) as ak a q j = fval S (M a) as ak a q j := fun q j => fval_S (newF h)
  simp only [this]
theorem okT_0 {n : Int} (h : 0 ≤ n) (t : Nat) : okT n t 0 := by
  match t with
  | 0 => exact ⟨by decide, by decide⟩
  | 1 => exact ⟨by decide, by decide⟩
  | 2 => exact h
  | 3 => exact trivial
  | _ + 4 => exact Or.inl rfl
theorem MOK_new {S : mSh} {M : mMem} {kd len sl : Int} (h : MOK S M) (h0 : 0 ≤ sN S) (hk : (0 ≤ kd ∧ kd < 10) ∨ (20 ≤ kd ∧ kd ≤ 25)) (hl : 0 ≤ len ∧ len ≤ 100000) : MOK (sNew S kd len sl) (zr M (sN S + 1)) := by
  intro b h1 h2
  rw [newN] at h2
  by_cases hb : b = sN S + 1
  · subst hb
    refine ⟨fun hlt => ?_, fun hge => ?_⟩
    · rw [newK1] at hlt ⊢
      refine ⟨by omega, by omega, fun k hkl => ⟨?_, fun _ h9 => ?_⟩⟩
      · rw [zr_row1]; exact okT_0 (by rw [newN]; omega) _
      · rw [newF1] at h9; omega
    · rw [newK1] at hge ⊢
      rw [newL1]
      exact ⟨by omega, hl.1, hl.2, fun i _ _ => by rw [zr_row1]; exact okT_0 (by rw [newN]; omega) _⟩
  · obtain ⟨g1, g2⟩ := h b h1 (by omega)
    refine ⟨fun hlt => ?_, fun hge => ?_⟩
    · rw [newK hb] at hlt ⊢
      obtain ⟨e1, e2, e3⟩ := g1 hlt
      refine ⟨e1, e2, fun k hkl => ⟨?_, fun q1 q2 => ?_⟩⟩
      · rw [zr_row hb]; exact (e3 k hkl).1.mono (by rw [newN]; omega)
      · rw [newF hb] at q2; have := (e3 k hkl).2 q1 q2; rw [newN]; omega
    · rw [newK hb] at hge ⊢
      rw [newL hb]
      obtain ⟨e1, e2, e3, e4⟩ := g2 hge
      exact ⟨e1, e2, e3, fun i q1 q2 => by rw [zr_row hb]; exact (e4 i q1 q2).mono (by rw [newN]; omega)⟩
theorem okvs_mono {n n' : Int} (h : n ≤ n') {st : List mV} (hs : ∀ v ∈ st, okv n v) : ∀ v ∈ st, okv n' v := fun v hv => (hs v hv).mono h
theorem map_enc_app {as bs : List Nat} {ak : Nat → Nat} {st : List mV} {n : Int} (hn : n ≤ (as.length : Int)) (hs : ∀ v ∈ st, okv n v) : st.map (enc (as ++ bs) ak) = st.map (enc as ak) := List.map_congr_left fun v hv => enc_app ((hs v hv).mono hn)
theorem enc_last {as : List Nat} {q : Nat} {ak : Nat → Nat} {n : Int} (h : (as.length : Int) = n) : enc (as ++ [q]) ak (vA (n + 1)) = .ref q := by
  show encR (as ++ [q]) ak (n + 1) = .ref q
  rw [encR_pos (by omega)]
  have e : (n + 1 - 1).toNat = as.length := by omega
  rw [e, List.getD_eq_getElem?_getD, List.getElem?_append_right (Nat.le_refl _), Nat.sub_self]
  rfl
section PSI
variable {p : Program} {l : Launch} {e : Env} {R : Room} {s : State} {m : MethodId} {args : Array Value} {below : List Frame} {meth : Method} {c : Code} {H : Heap} {locs : List Loc} {cells slots : Nat} {Q : State → Prop}
variable {cc : ByteArray} {pc : Nat} {as : List Nat} {ak : Nat → Nat} {nL n0 : Nat} {rls : Array Slot} {own : String} {D : va_G} {cy : Int → ClassId} {Ts : List Jvm.Cond}
/-- the relation with a new cell -/
theorem RW_new {S : mSh} {M : mMem} {kd len sl : Int} {q : Nat} {en : va_E} {H1 : Heap} (hR : RW n0 D cy ak s S M as H locs) (hk : (0 ≤ kd ∧ kd < 10) ∨ (20 ≤ kd ∧ kd ≤ 25)) (hl : 0 ≤ len ∧ len ≤ 100000)
    (hnew : cel cy (sNew S kd len sl) (zr M (sN S + 1)) (as ++ [q]) ak (sN S + 1) = en)
    (hP : va_P D vwCl (wld cy S M as ak ++ [(q, en)]) H1) (hD : va_D (fun q => n0 ≤ q) (wld cy S M as ak ++ [(q, en)])) (hS : va_S (fun q => n0 ≤ q) s.heap H1 locs) : RW n0 D cy ak s (sNew S kd len sl) (zr M (sN S + 1)) (as ++ [q]) H1 locs := by
  obtain ⟨r1, r2, r3, r4, r5⟩ := hR
  refine ⟨by rw [newN, List.length_append, ← r1]; rfl, MOK_new r2 (by omega) hk hl, wld_push r1 r2 (fun bs a h1 h2 => cel_new (by omega)) hnew hP, wld_Dpush hD, hS⟩
theorem ps_newa (hx : p.tables.exec = Jvm.exec) (hb : c.code = cc) (hK : va_K D vwCl (tysL cy) s) (hA0 : n0 ≤ s.heap.size) {atype : ArrayType} {ty : FieldType} {kd : Int} {t0 : Nat} (hty : newarray.typeOf atype = ty) (ht0 : (tysL cy)[t0]? = some (cy kd, ty))
    (hkd : (kd = 20 ∧ ty = .int) ∨ (kd = 21 ∧ ty = .long) ∨ (kd = 22 ∧ ty = .boolean)) (harr : (Cond.arrayClass ty).before args s = true) {len : Int} (hlen : 0 ≤ len ∧ len ≤ 100000) {st : List mV} {S : mSh} {M : mMem} (hd : decode cc pc = .ok (.newarray atype, 2)) (hR : RW n0 D cy ak s S M as H locs)
    (hcells : cells + 1 ≤ R.cells) (hslots : slots + len.toNat ≤ R.slots) (hst : ∀ v ∈ st, okv (sN S) v)
    (kk : ∀ q H1, RW n0 D cy ak s (sNew S kd len len) (zr M (sN S + 1)) (as ++ [q]) H1 locs → W p l e R s m args below meth c H1 locs (cells + 1) (slots + len.toNat) Q (F0 m (pc + 2) rls ((vA (sN S + 1) :: st).map (enc (as ++ [q]) ak)))) :
    W p l e R s m args below meth c H locs cells slots Q (F0 m pc rls ((vI len :: st).map (enc as ak))) := by
  subst hty
  have hR' := hR
  obtain ⟨r1, r2, r3, r4, r5⟩ := hR'
  have h0 : 0 ≤ sN S := by omega
  show W p l e R s m args below meth c H locs cells slots Q (F0 m pc rls (.int (Int32.ofInt len) :: st.map (enc as ak)))
  have hneg : ¬ Int32.ofInt len < 0 := fun h9 => by have := (i32_lt (x := len) (y := 0) ⟨by omega, by omega⟩ r32_0).mp h9; omega
  have fin : ∀ a0 : (Nat → Int32) ⊕ (Nat → Int64) ⊕ (Nat → UInt32) ⊕ (Nat → UInt64) ⊕ (Nat → Option Nat), (∀ cA : ClassId, vp_cell cA (len.toNat, a0) = arrV cA len.toNat (fun _ => defaultValue (newarray.typeOf atype))) → (∀ bs : List Nat, cont kd (fun _ => 0) bs ak = a0) → len.toNat * componentBytes (newarray.typeOf atype) ≤ 536870912 →
      W p l e R s m args below meth c H locs cells slots Q (F0 m pc rls (.int (Int32.ofInt len) :: st.map (enc as ak))) := by
    intro a0 h1 h2 h3
    refine va_newa (atype := atype) hx hb harr rfl hK r3 r4 r5 (fun q h => Nat.le_trans hA0 h) h1 hneg (clamp_i hlen.1 hlen.2) h3 hcells hslots hd ?_
    intro q cA H1 q1 q2 q3 q4
    have hcA : cA = cy kd := RA_inj ((q1.2 (tysL cy).length _ (by rw [List.getElem?_append_right (Nat.le_refl _), Nat.sub_self]; rfl)).2) ((hK.2 _ _ ht0).2)
    subst hcA
    have hcel : cel cy (sNew S kd len len) (zr M (sN S + 1)) (as ++ [q]) ak (sN S + 1) = .inl (cy kd, len.toNat, a0) := by
      unfold cel
      rw [newK1, newL1, zr_row1, if_neg (by omega), h2]
    have kk := kk q H1 (RW_new hR (by omega) hlen hcel q2 q3 q4)
    rw [List.map_cons, enc_last r1, map_enc_app (n := sN S) (by omega) hst] at kk
    exact kk
  rcases hkd with ⟨rfl, h9⟩ | ⟨rfl, h9⟩ | ⟨rfl, h9⟩
  · refine fin (.inl (fun _ => Int32.ofInt 0)) (fun cA => ?_) (fun bs => rfl) ?_
    · rw [h9]; rfl
    · rw [h9]; show len.toNat * 4 ≤ 536870912; omega
  · refine fin (.inr (.inl (fun _ => Int64.ofInt 0))) (fun cA => ?_) (fun bs => rfl) ?_
    · rw [h9]; rfl
    · rw [h9]; show len.toNat * 8 ≤ 536870912; omega
  · refine fin (.inl (fun _ => Int32.ofInt 0)) (fun cA => ?_) (fun bs => rfl) ?_
    · rw [h9]; rfl
    · rw [h9]; show len.toNat * 1 ≤ 536870912; omega
theorem ps_newq (hx : p.tables.exec = Jvm.exec) (hb : c.code = cc) (hown : s.vm.findClass own = some m.cls) (hK : va_K D vwCl (tysL cy) s) (hA0 : n0 ≤ s.heap.size) {i : Nat} {C : String} {kd : Int} {t0 : Nat} (ht0 : (tysL cy)[t0]? = some (cy kd, .object C)) (hkd : kd = 23 ∨ kd = 24 ∨ kd = 25)
    (hcl : (Cond.classLink own i C).before args s = true) (hover : va_AO C s) {len : Int} (hlen : 0 ≤ len ∧ len ≤ 100000) {st : List mV} {S : mSh} {M : mMem} (hd : decode cc pc = .ok (.anewarray i, 3)) (hR : RW n0 D cy ak s S M as H locs)
    (hcells : cells + 1 ≤ R.cells) (hslots : slots + len.toNat ≤ R.slots) (hst : ∀ v ∈ st, okv (sN S) v)
    (kk : ∀ q H1, RW n0 D cy ak s (sNew S kd len len) (zr M (sN S + 1)) (as ++ [q]) H1 locs → W p l e R s m args below meth c H1 locs (cells + 1) (slots + len.toNat) Q (F0 m (pc + 3) rls ((vA (sN S + 1) :: st).map (enc (as ++ [q]) ak)))) :
    W p l e R s m args below meth c H locs cells slots Q (F0 m pc rls ((vI len :: st).map (enc as ak))) := by
  have hR' := hR
  obtain ⟨r1, r2, r3, r4, r5⟩ := hR'
  have h0 : 0 ≤ sN S := by omega
  show W p l e R s m args below meth c H locs cells slots Q (F0 m pc rls (.int (Int32.ofInt len) :: st.map (enc as ak)))
  have hneg : ¬ Int32.ofInt len < 0 := fun h9 => by have := (i32_lt (x := len) (y := 0) ⟨by omega, by omega⟩ r32_0).mp h9; omega
  refine va_newq hx hb hown hcl hover hK r3 r4 r5 (fun q h => Nat.le_trans hA0 h) hneg (clamp_i hlen.1 hlen.2) (by omega) hcells hslots hd ?_
  intro q cA H1 q1 q2 q3 q4
  have hcA : cA = cy kd := RA_inj ((q1.2 (tysL cy).length _ (by rw [List.getElem?_append_right (Nat.le_refl _), Nat.sub_self]; rfl)).2) ((hK.2 _ _ ht0).2)
  subst hcA
  have hcel : cel cy (sNew S kd len len) (zr M (sN S + 1)) (as ++ [q]) ak (sN S + 1) = .inl (cy kd, len.toNat, .inr (.inr (.inr (.inr (fun _ => none))))) := by
    unfold cel
    rw [newK1, newL1, zr_row1, if_neg (by omega), cont_q (by omega) (by omega)]
    rfl
  have kk := kk q H1 (RW_new hR (by omega) hlen hcel q2 q3 q4)
  rw [List.map_cons, enc_last r1, map_enc_app (n := sN S) (by omega) hst] at kk
  exact kk
theorem def_tag {f : FieldType} {fin : Bool} {S : mSh} {as : List Nat} {ak : Nat → Nat} {a off : Int} {t k : Nat} (ht : tagOf f fin = t) (h9 : t ≠ 9) (hF : sF S a k = 0) : defaultValue f = fval S (fun _ => 0) as ak a (t, off) k := by
  subst ht
  have e3 : (if sF S a k = 1 then encR as ak (a + off) else Value.null) = .null := if_neg (by omega)
  have e0 : encR as ak 0 = .null := if_pos rfl
  cases f with
  | int => rfl
  | long => rfl
  | boolean => rfl
  | object n => cases fin
                · show Value.null = encR as ak 0; rw [e0]
                · show Value.null = (if sF S a k = 1 then encR as ak (a + off) else Value.null); rw [e3]
  | array n => cases fin
               · show Value.null = encR as ak 0; rw [e0]
               · show Value.null = (if sF S a k = 1 then encR as ak (a + off) else Value.null); rw [e3]
  | _ => exact absurd rfl h9
theorem ps_new (hx : p.tables.exec = Jvm.exec) (hb : c.code = cc) (hown : s.vm.findClass own = some m.cls) (hts : ∀ w ∈ Ts, w.before args s = true) (hin : ∀ (ci : Nat) (q : vw_C), vwCl[ci]? = some q → ∀ w ∈ u_ws q.1 q.2.1 q.2.2, w ∈ Ts) (hK : va_K D vwCl (tysL cy) s) (hA0 : n0 ≤ s.heap.size)
    {i : Nat} {ci : Int} (hci : 0 ≤ ci ∧ ci < 10) (hcl : (Cond.classLink own i (clOf ci).1).before args s = true) (hinst : (Cond.instantiable (clOf ci).1 (clOf ci).2.2).before args s = true) (hini : (Cond.initialized (clOf ci).1).before args s = true)
    {st : List mV} {S : mSh} {M : mMem} {sl : Int} (hsl : sl = ((clOf ci).2.2 : Int)) (hd : decode cc pc = .ok (.new i, 3)) (hR : RW n0 D cy ak s S M as H locs) (hcells : cells + 1 ≤ R.cells) (hslots : slots + (clOf ci).2.2 ≤ R.slots) (hst : ∀ v ∈ st, okv (sN S) v)
    (kk : ∀ q H1, RW n0 D cy ak s (sNew S ci 0 sl) (zr M (sN S + 1)) (as ++ [q]) H1 locs → W p l e R s m args below meth c H1 locs (cells + 1) (slots + (clOf ci).2.2) Q (F0 m (pc + 3) rls ((vA (sN S + 1) :: st).map (enc (as ++ [q]) ak)))) :
    W p l e R s m args below meth c H locs cells slots Q (F0 m pc rls (st.map (enc as ak))) := by
  have hR' := hR
  obtain ⟨r1, r2, r3, r4, r5⟩ := hR'
  have h0 : 0 ≤ sN S := by omega
  have hclo := clOf_get hci.1 hci.2
  have hval : ∀ (bs : List Nat) (j : Nat), j < (clOf ci).2.2 → defaultValue (tyC ci.toNat j) = fval (sNew S ci 0 sl) (fun _ => 0) bs ak (sN S + 1) ((fTab ci).getD j (9, 0)) j := by
    intro bs j hj
    obtain ⟨t1, t2, -⟩ := (fT_ok _ _ hclo).2 j hj
    have e : (fTab ci).getD j (9, 0) = (((fTab ci).getD j (9, 0)).1, ((fTab ci).getD j (9, 0)).2) := rfl
    rw [e]
    exact def_tag (fin := ((clOf ci).2.1 j).2.2.2) (show tagOf (tyC ci.toNat j) _ = ((fTab ci).getD j (9, 0)).1 from t1.symm) (by rw [show ((fTab ci).getD j (9, 0)).1 = _ from t1]; exact t2) newF1
  have hfl : ∀ bs : List Nat, fldL (sNew S ci 0 sl) (fun _ => 0) bs ak (sN S + 1) = (List.range (clOf ci).2.2).map (fun j => defaultValue (tyC ci.toNat j)) := by
    intro bs
    unfold fldL
    rw [newK1, fTab_len hci.1 hci.2]
    exact List.map_congr_left fun j hj => (hval bs j (List.mem_range.mp hj)).symm
  refine va_new (C := (clOf ci).1) (T := (clOf ci).2.1) (N := (clOf ci).2.2) (fs := (List.range (clOf ci).2.2).map (fun j => defaultValue (tyC ci.toNat j))) hx hb hts (hin _ _ hclo) (tyC ci.toNat) (tyC_ok _ _ hclo) hown hcl hinst hini hK r3 r4 r5 (fun q h => Nat.le_trans hA0 h) hclo ?_ hcells hslots hd ?_
  · intro j hj
    unfold vp_V
    rw [List.getD_eq_getElem?_getD, List.getElem?_map, List.getElem?_range hj]
    rfl
  · intro q H1 q1 q2 q3
    have hcel : cel cy (sNew S ci 0 sl) (zr M (sN S + 1)) (as ++ [q]) ak (sN S + 1) = .inr (ci.toNat, (List.range (clOf ci).2.2).map (fun j => defaultValue (tyC ci.toNat j))) := by
      unfold cel
      rw [newK1, if_pos (by omega), zr_row1, hfl]
    have kk := kk q H1 (RW_new hR (by omega) ⟨by decide, by decide⟩ hcel q1 q2 q3)
    rw [List.map_cons, enc_last r1, map_enc_app (n := sN S) (by omega) hst] at kk
    exact kk
end PSI
