/-! SOUNDNESS, seventh piece: putfield. -/
theorem sSet_K (S : mSh) (a k b : Int) : sK (sSet S a k) b = sK S b := rfl
theorem sSet_N (S : mSh) (a k : Int) : sN (sSet S a k) = sN S := rfl
theorem sSet_U (S : mSh) (a k : Int) : sU (sSet S a k) = sU S := rfl
theorem sSet_L (S : mSh) (a k b : Int) : sL (sSet S a k) b = sL S b := rfl
theorem sSet_F (S : mSh) (a k b j : Int) : sF (sSet S a k) b j = if b = a ∧ j = k then 1 else sF S b j := rfl
theorem fval_S {S S' : mSh} {r : Int → Int} {as : List Nat} {ak : Nat → Nat} {a : Int} {q : Nat × Int} {k : Nat} (h : sF S' a k = sF S a k) : fval S' r as ak a q k = fval S r as ak a q k := by
  obtain ⟨t, o⟩ := q
  match t with
  | 0 => rfl
  | 1 => rfl
  | 2 => rfl
  | 3 => show (if sF S' a k = 1 then encR as ak (a + o) else .null) = (if sF S a k = 1 then encR as ak (a + o) else .null); rw [h]
  | _ + 4 => rfl
theorem cel_sSet {cy : Int → ClassId} {S : mSh} {M : mMem} {as : List Nat} {ak : Nat → Nat} {a k b : Int} (h : b ≠ a) : cel cy (sSet S a k) M as ak b = cel cy S M as ak b := by
  unfold cel fldL
  rw [sSet_K, sSet_L]
  have : ∀ q j, fval (sSet S a k) (M b) as ak b q j = fval S (M b) as ak b q j := fun q j => fval_S (by rw [sSet_F, if_neg (fun q => h q.1)])
  simp only [this]
section PSG
variable {p : Program} {l : Launch} {e : Env} {R : Room} {s : State} {m : MethodId} {args : Array Value} {below : List Frame} {meth : Method} {c : Code} {H : Heap} {locs : List Loc} {cells slots : Nat} {Q : State → Prop}
variable {cc : ByteArray} {pc : Nat} {as : List Nat} {ak : Nat → Nat} {nL n0 : Nat} {rls : Array Slot} {own : String} {D : va_G} {cy : Int → ClassId} {Ts : List Jvm.Cond}
/-- a field that isn't final -/
theorem ps_putM (hx : p.tables.exec = Jvm.exec) (hb : c.code = cc) (hown : s.vm.findClass own = some m.cls) (hts : ∀ w ∈ Ts, w.before args s = true) (hin : ∀ (ci : Nat) (q : vw_C), vwCl[ci]? = some q → ∀ w ∈ u_ws q.1 q.2.1 q.2.2, w ∈ Ts) (hK : va_K D vwCl (tysL cy) s)
    {i t : Nat} {ci k off a x : Int} {v : mV} {st : List mV} {S : mSh} {M : mMem}
    (hd : decode cc pc = .ok (.putfield i, 3)) (hk : fchk (t, ci, k, off) = true) (hw : ∀ w ∈ needF own i (t, ci, k, off), w.before args s = true) (hO : isO S a ci) (ht : t ≠ 3)
    (hv : fval S (up M a k x a) as ak a (t, off) k.toNat = enc as ak v) (hfit : (t = 0 ∧ ∃ x : Int32, enc as ak v = .int x) ∨ (t = 1 ∧ ∃ x : Int64, enc as ak v = .long x) ∨ ((t = 2 ∨ t = 3) ∧ (enc as ak v = .null ∨ ∃ x : Nat, enc as ak v = .ref x)) ∨ (t = 4 ∧ (enc as ak v = .int 0 ∨ enc as ak v = .int 1))) (hok : okT (sN S) t x)
    (hR : RW n0 D cy ak s S M as H locs)
    (kk : ∀ H1 locs1, RW n0 D cy ak s S (up M a k x) as H1 locs1 → W p l e R s m args below meth c H1 locs1 cells slots Q (F0 m (pc + 3) rls (st.map (enc as ak)))) :
    W p l e R s m args below meth c H locs cells slots Q (F0 m pc rls ((v :: vA a :: st).map (enc as ak))) := by
  obtain ⟨f1, f2, f3, f4, f5⟩ := fchk_spec hk
  obtain ⟨o1, o2, o3⟩ := hO
  obtain ⟨r1, r2, r3, r4, r5⟩ := hR
  have hlt : sK S a < 20 := by omega
  show W p l e R s m args below meth c H locs cells slots Q (F0 m pc rls (enc as ak v :: encR as ak a :: st.map (enc as ak)))
  rw [encR_pos o1]
  have he : (wld cy S M as ak)[(a - 1).toNat]? = some (as.getD (a - 1).toNat 0, .inr (ci.toNat, fldL S (M a) as ak a)) := by
    rw [wld_at o1 (by omega)]
    unfold cel
    rw [if_pos hlt, o3]
  have hcl := clOf_get f1 f2
  have hkN : k.toNat < (clOf ci).2.2 := by rw [← fTab_len f1 f2]; exact f4
  have htag := ((fT_ok _ _ hcl).2 k.toNat hkN).1
  have htg : tagOf (tyC ci.toNat k.toNat) ((clOf ci).2.1 k.toNat).2.2.2 = t := by
    rw [← htag]; show ((fTab ci).getD k.toNat (9, 0)).1 = t; rw [f5]
  have hfin : ((clOf ci).2.1 k.toNat).2.2.2 = false := by
    rw [finC _ _ hcl k.toNat hkN]
    refine decide_eq_false ?_
    show ¬ ((fTab ci).getD k.toNat (9, 0)).1 = 3
    rw [f5]; exact ht
  obtain ⟨hn1, hn2⟩ := fit_tag htg hfit
  have hlen : k.toNat < (fldL S (M a) as ak a).length := by unfold fldL; rw [List.length_map, List.length_range, o3]; exact f4
  have hcel : cel cy S (up M a k x) as ak a = .inr (ci.toNat, (fldL S (M a) as ak a).set k.toNat (enc as ak v)) := by
    unfold cel
    rw [if_pos hlt, o3, fld_set (v := enc as ak v) f3 (by rw [o3]; exact f4) (by rw [o3, f5]; exact hv)]
  have hw1 : wld cy S (up M a k x) as ak = (wld cy S M as ak).set (a - 1).toNat (as.getD (a - 1).toNat 0, .inr (ci.toNat, (fldL S (M a) as ak a).set k.toNat (enc as ak v))) := by
    rw [wld_set o1 (by omega) (fun b hb => cel_ne (up_row hb)), hcel]
  refine va_put (C := (clOf ci).1) (T := (clOf ci).2.1) (N := (clOf ci).2.2) (ref := ((clOf ci).2.1 k.toNat).1) hx hb hts (hin _ _ hcl) (tyC ci.toNat) (tyC_ok _ _ hcl) (nmC _ _ hcl) hown hK r3 r4 r5 (a - 1).toNat he hcl k.toNat hkN (hw _ List.mem_cons_self) (fun _ h9 => h9) hfin (tyC_ok _ _ hcl _ hkN) hn1 hn2 hlen hd ?_
  intro H1 locs1 q1 q2 q3
  rw [← hw1] at q1 q2
  exact kk H1 locs1 ⟨r1, MOK_upF r2 ⟨o1, o2, o3⟩ (by omega) f3 f5 hok, q1, q2, q3⟩
/-- a final field, in a constructor -/
theorem ps_putX (hx : p.tables.exec = Jvm.exec) (hb : c.code = cc) (hown : s.vm.findClass own = some m.cls) (hts : ∀ w ∈ Ts, w.before args s = true) (hin : ∀ (ci : Nat) (q : vw_C), vwCl[ci]? = some q → ∀ w ∈ u_ws q.1 q.2.1 q.2.2, w ∈ Ts) (hK : va_K D vwCl (tysL cy) s)
    {i : Nat} {ci k off a x : Int} {st : List mV} {S : mSh} {M : mMem} (hinit : meth.name = "<init>") (hdecl : (clOf ci).1 = own)
    (hd : decode cc pc = .ok (.putfield i, 3)) (hk : fchk (3, ci, k, off) = true) (hw : ∀ w ∈ needF own i (3, ci, k, off), w.before args s = true) (hO : isO S a ci) (hxx : x = a + off) (hok : x ≤ sN S)
    (hR : RW n0 D cy ak s S M as H locs)
    (kk : ∀ H1 locs1, RW n0 D cy ak s (sSet S a k) M as H1 locs1 → W p l e R s m args below meth c H1 locs1 cells slots Q (F0 m (pc + 3) rls (st.map (enc as ak)))) :
    W p l e R s m args below meth c H locs cells slots Q (F0 m pc rls ((vA x :: vA a :: st).map (enc as ak))) := by
  obtain ⟨f1, f2, f3, f4, f5⟩ := fchk_spec hk
  obtain ⟨o1, o2, o3⟩ := hO
  obtain ⟨r1, r2, r3, r4, r5⟩ := hR
  have hlt : sK S a < 20 := by omega
  show W p l e R s m args below meth c H locs cells slots Q (F0 m pc rls (encR as ak x :: encR as ak a :: st.map (enc as ak)))
  rw [encR_pos o1]
  have he : (wld cy S M as ak)[(a - 1).toNat]? = some (as.getD (a - 1).toNat 0, .inr (ci.toNat, fldL S (M a) as ak a)) := by
    rw [wld_at o1 (by omega)]
    unfold cel
    rw [if_pos hlt, o3]
  have hcl := clOf_get f1 f2
  have hkN : k.toNat < (clOf ci).2.2 := by rw [← fTab_len f1 f2]; exact f4
  have htag := ((fT_ok _ _ hcl).2 k.toNat hkN).1
  have htg : tagOf (tyC ci.toNat k.toNat) ((clOf ci).2.1 k.toNat).2.2.2 = 3 := by
    rw [← htag]; show ((fTab ci).getD k.toNat (9, 0)).1 = 3; rw [f5]
  have hfin : ((clOf ci).2.1 k.toNat).2.2.2 = true := by
    rw [finC _ _ hcl k.toNat hkN]
    refine decide_eq_true ?_
    show ((fTab ci).getD k.toNat (9, 0)).1 = 3
    rw [f5]
  obtain ⟨hn1, hn2⟩ := fit_tag htg (Or.inr (Or.inr (Or.inl ⟨Or.inr rfl, encR_or as ak x⟩)))
  have hlen : k.toNat < (fldL S (M a) as ak a).length := by unfold fldL; rw [List.length_map, List.length_range, o3]; exact f4
  have kc := kcast f3
  have hcel : cel cy (sSet S a k) M as ak a = .inr (ci.toNat, (fldL S (M a) as ak a).set k.toNat (encR as ak x)) := by
    unfold cel
    rw [sSet_K, if_pos hlt, o3]
    congr 2
    unfold fldL
    rw [sSet_K, map_range_set (k := k.toNat) (g := fun j => fval S (M a) as ak a ((fTab (sK S a)).getD j (9, 0)) j) (by rw [o3]; exact f4) (fun j hj => fval_S (by rw [sSet_F, if_neg (fun q => hj (by omega))]))]
    congr 1
    rw [o3, f5]
    show (if sF (sSet S a k) a k.toNat = 1 then encR as ak (a + off) else .null) = encR as ak x
    have e1 : sF (sSet S a k) a k = 1 := by rw [sSet_F]; exact if_pos ⟨rfl, rfl⟩
    rw [kc, if_pos e1, hxx]
  have hw1 : wld cy (sSet S a k) M as ak = (wld cy S M as ak).set (a - 1).toNat (as.getD (a - 1).toNat 0, .inr (ci.toNat, (fldL S (M a) as ak a).set k.toNat (encR as ak x))) := by
    rw [wld_set o1 (by omega) (fun b hb => cel_sSet hb), hcel]
  refine va_putF (C := (clOf ci).1) (T := (clOf ci).2.1) (N := (clOf ci).2.2) (ref := ((clOf ci).2.1 k.toNat).1) hx hb hts (hin _ _ hcl) (tyC ci.toNat) (tyC_ok _ _ hcl) (nmC _ _ hcl) hown hK r3 r4 r5 (a - 1).toNat he hcl k.toNat hkN (hw _ List.mem_cons_self) (fun _ h9 => h9) hfin hinit (((fT_ok _ _ hcl).2 k.toNat hkN).2.2.trans hdecl) (tyC_ok _ _ hcl _ hkN) hn1 hn2 hlen hd ?_
  intro H1 locs1 q1 q2 q3
  rw [← hw1] at q1 q2
  refine kk H1 locs1 ⟨r1, ?_, q1, q2, q3⟩
  intro b h1 h2
  refine ⟨fun hkb => ?_, fun hkb => (r2 b h1 h2).2 hkb⟩
  obtain ⟨g1, g2, g3⟩ := (r2 b h1 h2).1 hkb
  refine ⟨g1, g2, fun j hj => ⟨(g3 j hj).1, fun e1 e2 => ?_⟩⟩
  rw [sSet_F] at e2
  by_cases hc : b = a ∧ (j : Int) = k
  · rw [sSet_K, hc.1, o3, show j = k.toNat by omega, f5]
    show a + off ≤ sN S
    omega
  · rw [if_neg hc] at e2
    exact (g3 j hj).2 e1 e2
end PSG
