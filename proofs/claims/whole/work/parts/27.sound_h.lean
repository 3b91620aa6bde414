/-! SOUNDNESS, eighth piece: arrays read and written. -/
theorem clamp_i {i : Int} (h0 : 0 ≤ i) (h : i ≤ 100000) : (Int32.ofInt i).toNatClampNeg = i.toNat := Int32.toNatClampNeg_ofInt_of_le (by omega) (by omega)
theorem in_i {i : Int} {n : Nat} (h0 : 0 ≤ i) (h : i < (n : Int)) (hn : n ≤ 100000) : vp_in (Int32.ofInt i) n := vp_in_iff.mpr (by rw [i32_t ⟨by omega, by omega⟩]; exact ⟨h0, h⟩)
def tyIx (kd : Int) : Nat := (kd - 20).toNat
theorem cont_i {kd : Int} (h : kd = 20 ∨ kd = 22) (r : Int → Int) (as : List Nat) (ak : Nat → Nat) : cont kd r as ak = .inl (fun i => Int32.ofInt (r i)) := if_pos h
theorem cont_l (r : Int → Int) (as : List Nat) (ak : Nat → Nat) : cont 21 r as ak = .inr (.inl (fun i => Int64.ofInt (r i))) := rfl
theorem cont_q {kd : Int} (h1 : ¬ (kd = 20 ∨ kd = 22)) (h2 : ¬ kd = 21) (r : Int → Int) (as : List Nat) (ak : Nat → Nat) : cont kd r as ak = .inr (.inr (.inr (.inr (fun i => optR as ak (r i))))) := by unfold cont; rw [if_neg h1, if_neg h2]
theorem celA {cy : Int → ClassId} {S : mSh} {M : mMem} {as : List Nat} {ak : Nat → Nat} {a kd : Int} (hO : isO S a kd) (hk : 20 ≤ kd) (hn : (as.length : Int) = sN S) : (wld cy S M as ak)[(a - 1).toNat]? = some (as.getD (a - 1).toNat 0, .inl (cy kd, (sL S a).toNat, cont kd (M a) as ak)) := by
  obtain ⟨o1, o2, o3⟩ := hO
  rw [wld_at o1 (by omega)]
  unfold cel
  rw [if_neg (by omega), o3]
theorem wldA {cy : Int → ClassId} {S : mSh} {M : mMem} {as : List Nat} {ak : Nat → Nat} {a kd i x : Int} (hO : isO S a kd) (hk : 20 ≤ kd) (hn : (as.length : Int) = sN S) : wld cy S (up M a i x) as ak = (wld cy S M as ak).set (a - 1).toNat (as.getD (a - 1).toNat 0, .inl (cy kd, (sL S a).toNat, cont kd (up M a i x a) as ak)) := by
  obtain ⟨o1, o2, o3⟩ := hO
  rw [wld_set o1 (by omega) (fun b hb => cel_ne (up_row hb))]
  unfold cel
  rw [if_neg (by omega), o3]
theorem MOK_upA {S : mSh} {M : mMem} {a i x kd : Int} (h : MOK S M) (hO : isO S a kd) (hk : 20 ≤ kd) (hx : okT (sN S) (elemT kd) x) : MOK S (up M a i x) := by
  intro b h1 h2
  refine okC_up (h b h1 h2) (fun e hlt j hj => ?_) (fun e hge => ?_)
  · rw [hO.2.2] at hlt; omega
  · rw [hO.2.2]; exact hx
theorem up_fun {M : mMem} {a i x : Int} (h0 : 0 ≤ i) (j : Nat) : up M a i x a j = if j = i.toNat then x else M a j := by
  unfold up
  by_cases h : j = i.toNat
  · rw [if_pos ⟨rfl, by omega⟩, if_pos h]
  · rw [if_neg (fun q => h (by have := q.2; omega)), if_neg h]
section PSH
variable {p : Program} {l : Launch} {e : Env} {R : Room} {s : State} {m : MethodId} {args : Array Value} {below : List Frame} {meth : Method} {c : Code} {H : Heap} {locs : List Loc} {cells slots : Nat} {Q : State → Prop}
variable {cc : ByteArray} {pc : Nat} {as : List Nat} {ak : Nat → Nat} {nL n0 : Nat} {rls : Array Slot} {own : String} {D : va_G} {cy : Int → ClassId} {Ts : List Jvm.Cond}
/-- what an array's entry in the relation says -/
theorem RW.arr {S : mSh} {M : mMem} {a kd i : Int} (hR : RW n0 D cy ak s S M as H locs) (h : inA S a kd i) (hk : 20 ≤ kd) : 0 ≤ sL S a ∧ sL S a ≤ 100000 ∧ 0 ≤ i ∧ i < sL S a ∧ okT (sN S) (elemT kd) (M a i) := by
  obtain ⟨⟨o1, o2, o3⟩, h0, h1⟩ := h
  obtain ⟨-, g1, g2, g3⟩ := (hR.2.1 a o1 o2).2 (by omega)
  rw [o3] at g3
  exact ⟨g1, g2, h0, h1, g3 i h0 h1⟩
theorem ps_iald (hx : p.tables.exec = Jvm.exec) (hb : c.code = cc) (hK : va_K D vwCl (tysL cy) s) {a i : Int} {st : List mV} {S : mSh} {M : mMem} (hd : decode cc pc = .ok (.iaload, 1)) (hA : inA S a 20 i) (hR : RW n0 D cy ak s S M as H locs)
    (kk : okv (sN S) (vI (M a i)) → W p l e R s m args below meth c H locs cells slots Q (F0 m (pc + 1) rls ((vI (M a i) :: st).map (enc as ak)))) : W p l e R s m args below meth c H locs cells slots Q (F0 m pc rls ((vI i :: vA a :: st).map (enc as ak))) := by
  obtain ⟨g0, g1, g2, g3, g4⟩ := hR.arr hA (by decide)
  have he := celA (cy := cy) (M := M) (ak := ak) hA.1 (by decide) hR.1
  rw [cont_i (Or.inl rfl)] at he
  show W p l e R s m args below meth c H locs cells slots Q (F0 m pc rls (.int (Int32.ofInt i) :: encR as ak a :: st.map (enc as ak)))
  rw [encR_pos hA.1.1]
  refine va_iald hx hb hK hR.2.2.1 (a - 1).toNat 0 he rfl (in_i g2 (by omega) (by omega)) hd ?_
  rw [clamp_i g2 (by omega), kcast g2]
  exact kk g4
theorem ps_zald (hx : p.tables.exec = Jvm.exec) (hb : c.code = cc) (hK : va_K D vwCl (tysL cy) s) {a i : Int} {st : List mV} {S : mSh} {M : mMem} (hd : decode cc pc = .ok (.baload, 1)) (hA : inA S a 22 i) (hR : RW n0 D cy ak s S M as H locs)
    (kk : okv (sN S) (vI (M a i)) → W p l e R s m args below meth c H locs cells slots Q (F0 m (pc + 1) rls ((vI (M a i) :: st).map (enc as ak)))) : W p l e R s m args below meth c H locs cells slots Q (F0 m pc rls ((vI i :: vA a :: st).map (enc as ak))) := by
  obtain ⟨g0, g1, g2, g3, g4⟩ := hR.arr hA (by decide)
  have he := celA (cy := cy) (M := M) (ak := ak) hA.1 (by decide) hR.1
  rw [cont_i (Or.inr rfl)] at he
  show W p l e R s m args below meth c H locs cells slots Q (F0 m pc rls (.int (Int32.ofInt i) :: encR as ak a :: st.map (enc as ak)))
  rw [encR_pos hA.1.1]
  refine va_zald hx hb hK hR.2.2.1 (a - 1).toNat 2 he rfl (in_i g2 (by omega) (by omega)) hd ?_
  rw [clamp_i g2 (by omega), kcast g2]
  refine kk ?_
  have h9 : M a i = 0 ∨ M a i = 1 := g4
  show R32 (M a i)
  rcases h9 with h9 | h9 <;> rw [h9] <;> exact ⟨by decide, by decide⟩
theorem ps_lald (hx : p.tables.exec = Jvm.exec) (hb : c.code = cc) (hK : va_K D vwCl (tysL cy) s) {a i : Int} {st : List mV} {S : mSh} {M : mMem} (hd : decode cc pc = .ok (.laload, 1)) (hA : inA S a 21 i) (hR : RW n0 D cy ak s S M as H locs)
    (kk : okv (sN S) (vL (M a i)) → W p l e R s m args below meth c H locs cells slots Q (F0 m (pc + 1) rls ((vL (M a i) :: st).map (enc as ak)))) : W p l e R s m args below meth c H locs cells slots Q (F0 m pc rls ((vI i :: vA a :: st).map (enc as ak))) := by
  obtain ⟨g0, g1, g2, g3, g4⟩ := hR.arr hA (by decide)
  have he := celA (cy := cy) (M := M) (ak := ak) hA.1 (by decide) hR.1
  rw [cont_l] at he
  show W p l e R s m args below meth c H locs cells slots Q (F0 m pc rls (.int (Int32.ofInt i) :: encR as ak a :: st.map (enc as ak)))
  rw [encR_pos hA.1.1]
  refine va_lald hx hb hK hR.2.2.1 (a - 1).toNat 1 he rfl (in_i g2 (by omega) (by omega)) hd ?_
  rw [clamp_i g2 (by omega), kcast g2]
  exact kk g4
theorem elemT_q {kd : Int} (h : kd = 23 ∨ kd = 24 ∨ kd = 25) : elemT kd = 2 := by rcases h with rfl | rfl | rfl <;> rfl
theorem ps_aald (hx : p.tables.exec = Jvm.exec) (hb : c.code = cc) (hK : va_K D vwCl (tysL cy) s) {a i kd : Int} (hkd : kd = 23 ∨ kd = 24 ∨ kd = 25) {st : List mV} {S : mSh} {M : mMem} (hd : decode cc pc = .ok (.aaload, 1)) (hA : inA S a kd i) (hR : RW n0 D cy ak s S M as H locs)
    (kk : okv (sN S) (vA (M a i)) → W p l e R s m args below meth c H locs cells slots Q (F0 m (pc + 1) rls ((vA (M a i) :: st).map (enc as ak)))) : W p l e R s m args below meth c H locs cells slots Q (F0 m pc rls ((vI i :: vA a :: st).map (enc as ak))) := by
  obtain ⟨g0, g1, g2, g3, g4⟩ := hR.arr hA (by omega)
  rw [elemT_q hkd] at g4
  have he := celA (cy := cy) (M := M) (ak := ak) hA.1 (by omega) hR.1
  rw [cont_q (by omega) (by omega)] at he
  show W p l e R s m args below meth c H locs cells slots Q (F0 m pc rls (.int (Int32.ofInt i) :: encR as ak a :: st.map (enc as ak)))
  rw [encR_pos hA.1.1]
  have kk := kk g4
  have kk : W p l e R s m args below meth c H locs cells slots Q (F0 m (pc + 1) rls (va_rf (optR as ak (M a i)) :: st.map (enc as ak))) := by rw [rf_optR]; exact kk
  have fin : ∀ (t0 : Nat) (C : String), (tysL cy)[t0]? = some (cy kd, .object C) → W p l e R s m args below meth c H locs cells slots Q (F0 m pc rls (.int (Int32.ofInt i) :: .ref (as.getD (a - 1).toNat 0) :: st.map (enc as ak))) := by
    intro t0 C ht
    refine va_aldq hx hb hK hR.2.2.1 (a - 1).toNat t0 he ht (in_i g2 (by omega) (by omega)) hd ?_
    rw [clamp_i g2 (by omega), kcast g2]
    exact kk
  rcases hkd with rfl | rfl | rfl
  · exact fin 3 RX6 rfl
  · exact fin 4 RX4 rfl
  · exact fin 5 RX3 rfl
theorem ps_alen (hx : p.tables.exec = Jvm.exec) (hb : c.code = cc) (hK : va_K D vwCl (tysL cy) s) {a kd : Int} (hkd : 20 ≤ kd ∧ kd ≤ 25) {st : List mV} {S : mSh} {M : mMem} (hd : decode cc pc = .ok (.arraylength, 1)) (hA : isO S a kd) (hR : RW n0 D cy ak s S M as H locs)
    (kk : okv (sN S) (vI (sL S a)) → W p l e R s m args below meth c H locs cells slots Q (F0 m (pc + 1) rls ((vI (sL S a) :: st).map (enc as ak)))) : W p l e R s m args below meth c H locs cells slots Q (F0 m pc rls ((vA a :: st).map (enc as ak))) := by
  obtain ⟨o1, o2, o3⟩ := hA
  obtain ⟨-, g1, g2, -⟩ := (hR.2.1 a o1 o2).2 (by omega)
  have he := celA (cy := cy) (M := M) (ak := ak) ⟨o1, o2, o3⟩ (by omega) hR.1
  show W p l e R s m args below meth c H locs cells slots Q (F0 m pc rls (encR as ak a :: st.map (enc as ak)))
  rw [encR_pos o1]
  have fin : ∀ (t0 : Nat) (ty : FieldType), (tysL cy)[t0]? = some (cy kd, ty) → W p l e R s m args below meth c H locs cells slots Q (F0 m pc rls (.ref (as.getD (a - 1).toNat 0) :: st.map (enc as ak))) := by
    intro t0 ty ht
    refine va_alen (v := Int32.ofInt (sL S a)) hx hb hK hR.2.2.1 (a - 1).toNat t0 he ht ?_ hd (kk ⟨by omega, by omega⟩)
    show Int32.ofNat (sL S a).toNat = Int32.ofInt (sL S a)
    rw [← Int32.ofInt_eq_ofNat, Int.toNat_of_nonneg g1]
  rcases (show kd = 20 ∨ kd = 21 ∨ kd = 22 ∨ kd = 23 ∨ kd = 24 ∨ kd = 25 by omega) with rfl | rfl | rfl | rfl | rfl | rfl
  · exact fin 0 _ rfl
  · exact fin 1 _ rfl
  · exact fin 2 _ rfl
  · exact fin 3 _ rfl
  · exact fin 4 _ rfl
  · exact fin 5 _ rfl
theorem ps_iast (hx : p.tables.exec = Jvm.exec) (hb : c.code = cc) (hK : va_K D vwCl (tysL cy) s) {a i x : Int} {st : List mV} {S : mSh} {M : mMem} (hd : decode cc pc = .ok (.iastore, 1)) (hA : inA S a 20 i) (hxr : R32 x) (hR : RW n0 D cy ak s S M as H locs)
    (kk : ∀ H1 locs1, RW n0 D cy ak s S (up M a i x) as H1 locs1 → W p l e R s m args below meth c H1 locs1 cells slots Q (F0 m (pc + 1) rls (st.map (enc as ak)))) : W p l e R s m args below meth c H locs cells slots Q (F0 m pc rls ((vI x :: vI i :: vA a :: st).map (enc as ak))) := by
  obtain ⟨g0, g1, g2, g3, g4⟩ := hR.arr hA (by decide)
  obtain ⟨r1, r2, r3, r4, r5⟩ := hR
  have he := celA (cy := cy) (M := M) (ak := ak) hA.1 (by decide) r1
  rw [cont_i (Or.inl rfl)] at he
  have hw := wldA (cy := cy) (M := M) (ak := ak) (i := i) (x := x) hA.1 (by decide) r1
  rw [cont_i (Or.inl rfl)] at hw
  have hf : (fun j : Nat => Int32.ofInt (up M a i x a j)) = upd (fun j : Nat => Int32.ofInt (M a j)) i.toNat (Int32.ofInt x) := by
    funext j; unfold upd; rw [up_fun g2]; split <;> rfl
  rw [hf] at hw
  show W p l e R s m args below meth c H locs cells slots Q (F0 m pc rls (.int (Int32.ofInt x) :: .int (Int32.ofInt i) :: encR as ak a :: st.map (enc as ak)))
  rw [encR_pos hA.1.1]
  refine va_iast hx hb hK r3 r4 r5 (a - 1).toNat 0 he rfl (in_i g2 (by omega) (by omega)) hd ?_
  intro H1 locs1 q1 q2 q3
  rw [clamp_i g2 (by omega), ← hw] at q1 q2
  exact kk H1 locs1 ⟨r1, MOK_upA r2 hA.1 (by decide) hxr, q1, q2, q3⟩
theorem ps_last (hx : p.tables.exec = Jvm.exec) (hb : c.code = cc) (hK : va_K D vwCl (tysL cy) s) {a i x : Int} {st : List mV} {S : mSh} {M : mMem} (hd : decode cc pc = .ok (.lastore, 1)) (hA : inA S a 21 i) (hxr : R64 x) (hR : RW n0 D cy ak s S M as H locs)
    (kk : ∀ H1 locs1, RW n0 D cy ak s S (up M a i x) as H1 locs1 → W p l e R s m args below meth c H1 locs1 cells slots Q (F0 m (pc + 1) rls (st.map (enc as ak)))) : W p l e R s m args below meth c H locs cells slots Q (F0 m pc rls ((vL x :: vI i :: vA a :: st).map (enc as ak))) := by
  obtain ⟨g0, g1, g2, g3, g4⟩ := hR.arr hA (by decide)
  obtain ⟨r1, r2, r3, r4, r5⟩ := hR
  have he := celA (cy := cy) (M := M) (ak := ak) hA.1 (by decide) r1
  rw [cont_l] at he
  have hw := wldA (cy := cy) (M := M) (ak := ak) (i := i) (x := x) hA.1 (by decide) r1
  rw [cont_l] at hw
  have hf : (fun j : Nat => Int64.ofInt (up M a i x a j)) = vp_updL (fun j : Nat => Int64.ofInt (M a j)) i.toNat (Int64.ofInt x) := by
    funext j; unfold vp_updL; rw [up_fun g2]; split <;> rfl
  rw [hf] at hw
  show W p l e R s m args below meth c H locs cells slots Q (F0 m pc rls (.long (Int64.ofInt x) :: .int (Int32.ofInt i) :: encR as ak a :: st.map (enc as ak)))
  rw [encR_pos hA.1.1]
  refine va_last hx hb hK r3 r4 r5 (a - 1).toNat 1 he rfl (in_i g2 (by omega) (by omega)) hd ?_
  intro H1 locs1 q1 q2 q3
  rw [clamp_i g2 (by omega), ← hw] at q1 q2
  exact kk H1 locs1 ⟨r1, MOK_upA r2 hA.1 (by decide) hxr, q1, q2, q3⟩
theorem nar_bool {x : Int} (h : x = 0 ∨ x = 1) : vp_nar .boolean (Int32.ofInt x) = Int32.ofInt x := by rcases h with rfl | rfl <;> rfl
theorem ps_zast (hx : p.tables.exec = Jvm.exec) (hb : c.code = cc) (hK : va_K D vwCl (tysL cy) s) {a i x : Int} {st : List mV} {S : mSh} {M : mMem} (hd : decode cc pc = .ok (.bastore, 1)) (hA : inA S a 22 i) (hxr : x = 0 ∨ x = 1) (hR : RW n0 D cy ak s S M as H locs)
    (kk : ∀ H1 locs1, RW n0 D cy ak s S (up M a i x) as H1 locs1 → W p l e R s m args below meth c H1 locs1 cells slots Q (F0 m (pc + 1) rls (st.map (enc as ak)))) : W p l e R s m args below meth c H locs cells slots Q (F0 m pc rls ((vI x :: vI i :: vA a :: st).map (enc as ak))) := by
  obtain ⟨g0, g1, g2, g3, g4⟩ := hR.arr hA (by decide)
  obtain ⟨r1, r2, r3, r4, r5⟩ := hR
  have he := celA (cy := cy) (M := M) (ak := ak) hA.1 (by decide) r1
  rw [cont_i (Or.inr rfl)] at he
  have hw := wldA (cy := cy) (M := M) (ak := ak) (i := i) (x := x) hA.1 (by decide) r1
  rw [cont_i (Or.inr rfl)] at hw
  have hf : (fun j : Nat => Int32.ofInt (up M a i x a j)) = upd (fun j : Nat => Int32.ofInt (M a j)) i.toNat (Int32.ofInt x) := by
    funext j; unfold upd; rw [up_fun g2]; split <;> rfl
  rw [hf] at hw
  show W p l e R s m args below meth c H locs cells slots Q (F0 m pc rls (.int (Int32.ofInt x) :: .int (Int32.ofInt i) :: encR as ak a :: st.map (enc as ak)))
  rw [encR_pos hA.1.1]
  refine va_zast hx hb hK r3 r4 r5 (a - 1).toNat 2 he rfl (in_i g2 (by omega) (by omega)) hd ?_
  intro H1 locs1 q1 q2 q3
  rw [clamp_i g2 (by omega), nar_bool hxr, ← hw] at q1 q2
  exact kk H1 locs1 ⟨r1, MOK_upA r2 hA.1 (by decide) hxr, q1, q2, q3⟩
theorem ps_aast (hx : p.tables.exec = Jvm.exec) (hb : c.code = cc) (hK : va_K D vwCl (tysL cy) s) {a i x kd ec : Int} (hkd : (kd = 23 ∧ ec = 6) ∨ (kd = 24 ∧ ec = 4) ∨ (kd = 25 ∧ ec = 3)) {st : List mV} {S : mSh} {M : mMem} (hd : decode cc pc = .ok (.aastore, 1)) (hA : inA S a kd i) (hxo : isO S x ec) (hR : RW n0 D cy ak s S M as H locs)
    (kk : ∀ H1 locs1, RW n0 D cy ak s S (up M a i x) as H1 locs1 → W p l e R s m args below meth c H1 locs1 cells slots Q (F0 m (pc + 1) rls (st.map (enc as ak)))) : W p l e R s m args below meth c H locs cells slots Q (F0 m pc rls ((vA x :: vI i :: vA a :: st).map (enc as ak))) := by
  obtain ⟨g0, g1, g2, g3, g4⟩ := hR.arr hA (by omega)
  obtain ⟨r1, r2, r3, r4, r5⟩ := hR
  have he := celA (cy := cy) (M := M) (ak := ak) hA.1 (by omega) r1
  rw [cont_q (by omega) (by omega)] at he
  have hw := wldA (cy := cy) (M := M) (ak := ak) (i := i) (x := x) hA.1 (by omega) r1
  rw [cont_q (by omega) (by omega)] at hw
  have hox : optR as ak x = some (as.getD (x - 1).toNat 0) := by unfold optR; rw [if_neg (by have := hxo.1; omega), if_pos (by have := hxo.1; omega)]
  have hf : (fun j : Nat => optR as ak (up M a i x a j)) = va_up (fun j : Nat => optR as ak (M a j)) i.toNat (some (as.getD (x - 1).toNat 0)) := by
    funext j; unfold va_up; rw [up_fun g2]
    by_cases hj : j = i.toNat
    · rw [if_pos hj, if_pos hj, hox]
    · rw [if_neg hj, if_neg hj]
  rw [hf] at hw
  show W p l e R s m args below meth c H locs cells slots Q (F0 m pc rls (encR as ak x :: .int (Int32.ofInt i) :: encR as ak a :: st.map (enc as ak)))
  rw [encR_pos hA.1.1, encR_pos hxo.1]
  have hex : (wld cy S M as ak)[(x - 1).toNat]? = some (as.getD (x - 1).toNat 0, .inr (ec.toNat, fldL S (M x) as ak x)) := by
    rw [wld_at hxo.1 (by have := hxo.2.1; omega)]
    unfold cel
    rw [if_pos (by rw [hxo.2.2]; omega), hxo.2.2]
  have fin : ∀ (t0 : Nat) (r : vw_C), (tysL cy)[t0]? = some (cy kd, .object r.1) → vwCl[ec.toNat]? = some r → W p l e R s m args below meth c H locs cells slots Q (F0 m pc rls (.ref (as.getD (x - 1).toNat 0) :: .int (Int32.ofInt i) :: .ref (as.getD (a - 1).toNat 0) :: st.map (enc as ak))) := by
    intro t0 r ht hr
    refine va_astq hx hb hK r3 r4 r5 (a - 1).toNat t0 (x - 1).toNat ec.toNat he ht hex hr (in_i g2 (by omega) (by omega)) hd ?_
    intro H1 locs1 q1 q2 q3
    rw [clamp_i g2 (by omega), ← hw] at q1 q2
    exact kk H1 locs1 ⟨r1, MOK_upA r2 hA.1 (by omega) (by rw [elemT_q (by omega)]; exact hxo.2.1), q1, q2, q3⟩
  rcases hkd with ⟨rfl, rfl⟩ | ⟨rfl, rfl⟩ | ⟨rfl, rfl⟩
  · exact fin 3 (RX6, TX6, 4) rfl rfl
  · exact fin 4 (RX4, TX4, 8) rfl rfl
  · exact fin 5 (RX3, TX3, 10) rfl rfl
end PSH
