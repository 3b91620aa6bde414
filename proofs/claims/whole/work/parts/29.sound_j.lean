/-! SOUNDNESS, tenth piece: max, min, arraycopy, Object's constructor. -/
theorem cpy_row {M : mMem} {a sp b dp n z : Int} (h : z ≠ b) : cpy M a sp b dp n z = M z := funext fun _ => if_neg (fun q => h q.1)
theorem wldC {cy : Int → ClassId} {S : mSh} {M : mMem} {as : List Nat} {ak : Nat → Nat} {a sp b dp n kd : Int} (hO : isO S b kd) (hk : 20 ≤ kd) (hn : (as.length : Int) = sN S) : wld cy S (cpy M a sp b dp n) as ak = (wld cy S M as ak).set (b - 1).toNat (as.getD (b - 1).toNat 0, .inl (cy kd, (sL S b).toNat, cont kd (cpy M a sp b dp n b) as ak)) := by
  obtain ⟨o1, o2, o3⟩ := hO
  rw [wld_set o1 (by omega) (fun z hz => cel_ne (cpy_row hz))]
  unfold cel
  rw [if_neg (by omega), o3]
theorem MOK_cpy {S : mSh} {M : mMem} {a sp b dp n kd : Int} (h : MOK S M) (ha : isO S a kd) (hb : isO S b kd) (hk : 20 ≤ kd) (h0 : 0 ≤ sp) (h1 : sp + n ≤ sL S a) : MOK S (cpy M a sp b dp n) := by
  intro z h2 h3
  by_cases hz : z = b
  · subst hz
    have gz := h z h2 h3
    have ga := (h a ha.1 ha.2.1).2 (by rw [ha.2.2]; exact hk)
    rw [ha.2.2] at ga
    refine ⟨fun hlt => ?_, fun hge => ?_⟩
    · rw [hb.2.2] at hlt; omega
    · obtain ⟨e1, e2, e3, e4⟩ := gz.2 hge
      refine ⟨e1, e2, e3, fun i q1 q2 => ?_⟩
      unfold cpy
      by_cases hc : z = z ∧ dp ≤ i ∧ i < dp + n
      · rw [if_pos hc, hb.2.2]; exact ga.2.2.2 _ (by omega) (by omega)
      · rw [if_neg hc]; exact e4 i q1 q2
  · have gz := h z h2 h3
    unfold okC
    rw [cpy_row hz]
    exact gz
theorem cpy_fun {β : Type} {M : mMem} {a sp b dp n : Int} (g : Int → β) (h0 : 0 ≤ sp) (h1 : 0 ≤ dp) (h2 : 0 ≤ n) : (fun j : Nat => g (cpy M a sp b dp n b j)) = va_cpy (fun j : Nat => g (M a j)) (fun j : Nat => g (M b j)) sp.toNat dp.toNat n.toNat := by
  funext j
  unfold va_cpy cpy
  by_cases hc : dp.toNat ≤ j ∧ j < dp.toNat + n.toNat
  · rw [if_pos hc, if_pos ⟨rfl, by omega, by omega⟩]
    have : sp + ((j : Int) - dp) = ((sp.toNat + (j - dp.toNat) : Nat) : Int) := by omega
    rw [this]
  · rw [if_neg hc, if_neg (fun q => hc (by have := q.2; omega))]
section PSJ
variable {p : Program} {l : Launch} {e : Env} {R : Room} {s : State} {m : MethodId} {args : Array Value} {below : List Frame} {meth : Method} {c : Code} {H : Heap} {locs : List Loc} {cells slots : Nat} {Q : State → Prop}
variable {cc : ByteArray} {pc : Nat} {as : List Nat} {ak : Nat → Nat} {nL n0 : Nat} {rls : Array Slot} {own : String} {D : va_G} {cy : Int → ClassId} {Ts : List Jvm.Cond}
def needMax (own : String) (i : Nat) : List Jvm.Cond := [.methodLink own i Lib.Math.max.name, .static Lib.Math.max.name, .initialized "java/lang/Math", .code Lib.Math.max.name Lib.Math.max.code 2 (some .int)]
def needMin (own : String) (i : Nat) : List Jvm.Cond := [.methodLink own i Lib.Math.min.name, .static Lib.Math.min.name, .initialized "java/lang/Math", .code Lib.Math.min.name Lib.Math.min.code 2 (some .int)]
def needCpy (own : String) (i : Nat) : List Jvm.Cond := [.methodLink own i arraycopyName, .native arraycopyName, .static arraycopyName, .initialized "java/lang/System"]
def needObj (own : String) (i : Nat) : List Jvm.Cond := [.methodLink own i Lib.objectInit, .instanceMethod Lib.objectInit, .code Lib.objectInit ⟨#[0xb1]⟩ 1 none]
theorem ps_max (hx : p.tables.exec = Jvm.exec) (hb : c.code = cc) (hml : c.maxLocals = rls.size) (hown : s.vm.findClass own = some m.cls) {i : Nat} (hw : ∀ w ∈ needMax own i, w.before args s = true) (hfr : 1 ≤ R.frames) (hlo : 40 ≤ R.locals) (hc : cells ≤ R.cells) (hs : slots ≤ R.slots)
    {x y : Int} {st : List mV} (hd : decode cc pc = .ok (.invokestatic i, 3)) (hst : stw st ≤ 8) (hxr : R32 x) (hyr : R32 y)
    (kk : W p l e R s m args below meth c H locs cells slots Q (F0 m (pc + 3) rls ((vI (if x < y then y else x) :: st).map (enc as ak)))) : W p l e R s m args below meth c H locs cells slots Q (F0 m pc rls ((vI y :: vI x :: st).map (enc as ak))) := by
  have h1 := stw_enc as ak st
  refine va_mmax (x := Int32.ofInt x) (y := Int32.ofInt y) (rest := st.map (enc as ak)) hx hb hml hown (hw _ (List.mem_of_getElem? (i := 0) rfl)) (hw _ (List.mem_of_getElem? (i := 1) rfl)) (hw _ (List.mem_of_getElem? (i := 2) rfl)) (hw _ (List.mem_of_getElem? (i := 3) rfl)) hfr (by omega) hc hs hd ?_
  have e1 : (if Int32.ofInt x < Int32.ofInt y then Int32.ofInt y else Int32.ofInt x) = Int32.ofInt (if x < y then y else x) := by
    by_cases h : x < y
    · rw [if_pos h, if_pos ((i32_lt hxr hyr).mpr h)]
    · rw [if_neg h, if_neg (fun q => h ((i32_lt hxr hyr).mp q))]
  rw [e1]
  exact kk
theorem ps_min (hx : p.tables.exec = Jvm.exec) (hb : c.code = cc) (hml : c.maxLocals = rls.size) (hown : s.vm.findClass own = some m.cls) {i : Nat} (hw : ∀ w ∈ needMin own i, w.before args s = true) (hfr : 1 ≤ R.frames) (hlo : 40 ≤ R.locals) (hc : cells ≤ R.cells) (hs : slots ≤ R.slots)
    {x y : Int} {st : List mV} (hd : decode cc pc = .ok (.invokestatic i, 3)) (hst : stw st ≤ 8) (hxr : R32 x) (hyr : R32 y)
    (kk : W p l e R s m args below meth c H locs cells slots Q (F0 m (pc + 3) rls ((vI (if y < x then y else x) :: st).map (enc as ak)))) : W p l e R s m args below meth c H locs cells slots Q (F0 m pc rls ((vI y :: vI x :: st).map (enc as ak))) := by
  have h1 := stw_enc as ak st
  refine va_mmin (x := Int32.ofInt x) (y := Int32.ofInt y) (rest := st.map (enc as ak)) hx hb hml hown (hw _ (List.mem_of_getElem? (i := 0) rfl)) (hw _ (List.mem_of_getElem? (i := 1) rfl)) (hw _ (List.mem_of_getElem? (i := 2) rfl)) (hw _ (List.mem_of_getElem? (i := 3) rfl)) hfr (by omega) hc hs hd ?_
  have e1 : (if Int32.ofInt y < Int32.ofInt x then Int32.ofInt y else Int32.ofInt x) = Int32.ofInt (if y < x then y else x) := by
    by_cases h : y < x
    · rw [if_pos h, if_pos ((i32_lt hyr hxr).mpr h)]
    · rw [if_neg h, if_neg (fun q => h ((i32_lt hyr hxr).mp q))]
  rw [e1]
  exact kk
theorem ps_obj (hx : p.tables.exec = Jvm.exec) (hb : c.code = cc) (hml : c.maxLocals = rls.size) (hown : s.vm.findClass own = some m.cls) {i : Nat} (hw : ∀ w ∈ needObj own i, w.before args s = true) (hfr : 1 ≤ R.frames) (hlo : 40 ≤ R.locals)
    {a : Int} {st : List mV} (hd : decode cc pc = .ok (.invokespecial i, 3)) (hst : stw st ≤ 8) (ha : 1 ≤ a)
    (kk : W p l e R s m args below meth c H locs cells slots Q (F0 m (pc + 3) rls (st.map (enc as ak)))) : W p l e R s m args below meth c H locs cells slots Q (F0 m pc rls ((vA a :: st).map (enc as ak))) := by
  have h1 := stw_enc as ak st
  show W p l e R s m args below meth c H locs cells slots Q (F0 m pc rls (encR as ak a :: st.map (enc as ak)))
  rw [encR_pos ha]
  refine W.objInit hx hb hown (hw _ (List.mem_of_getElem? (i := 0) rfl)) (hw _ (List.mem_of_getElem? (i := 1) rfl)) (hw _ (List.mem_of_getElem? (i := 2) rfl)) rfl hml.symm rfl hd hfr ?_ ?_
  · show 2 * 0 + ((st.map (enc as ak)).map fun v => v.category).sum + 12 ≤ R.locals
    omega
  · exact W.eq (g2 := F0 m (pc + 3) rls (st.map (enc as ak))) rfl kk
theorem clampR {x : Int} (h0 : 0 ≤ x) (h : x ≤ 100000) : ¬ Int32.ofInt x < 0 ∧ (Int32.ofInt x).toNatClampNeg = x.toNat := ⟨fun h9 => by have := (i32_lt (x := x) (y := 0) ⟨by omega, by omega⟩ r32_0).mp h9; omega, clamp_i h0 h⟩
set_option maxHeartbeats 2000000 in
theorem ps_cpy (hx : p.tables.exec = Jvm.exec) (hb : c.code = cc) (hml : c.maxLocals = rls.size) (hown : s.vm.findClass own = some m.cls) (hK : va_K D vwCl (tysL cy) s) {i : Nat} (hw : ∀ w ∈ needCpy own i, w.before args s = true) (hfr : 1 ≤ R.frames) (hlo : 40 ≤ R.locals)
    {a sp b dp n kd : Int} (hkd : kd = 20 ∨ kd = 21 ∨ kd = 23) {st : List mV} {S : mSh} {M : mMem} (hd : decode cc pc = .ok (.invokestatic i, 3)) (hst : stw st ≤ 8) (ha : isO S a kd) (hbo : isO S b kd) (hr : 0 ≤ sp ∧ 0 ≤ dp ∧ 0 ≤ n ∧ sp + n ≤ sL S a ∧ dp + n ≤ sL S b)
    (hel : kd = 23 → ∀ i, 0 ≤ i → i < n → M a (sp + i) = 0 ∨ isO S (M a (sp + i)) 6) (hR : RW n0 D cy ak s S M as H locs)
    (kk : ∀ H1 locs1, RW n0 D cy ak s S (cpy M a sp b dp n) as H1 locs1 → W p l e R s m args below meth c H1 locs1 cells slots Q (F0 m (pc + 3) rls (st.map (enc as ak)))) :
    W p l e R s m args below meth c H locs cells slots Q (F0 m pc rls ((vI n :: vI dp :: vA b :: vI sp :: vA a :: st).map (enc as ak))) := by
  have h1 := stw_enc as ak st
  have hk20 : 20 ≤ kd := by omega
  obtain ⟨r1, r2, r3, r4, r5⟩ := hR
  obtain ⟨p1, p2, p3, p4, p5⟩ := hr
  obtain ⟨-, la0, la1, -⟩ := (r2 a ha.1 ha.2.1).2 (by rw [ha.2.2]; exact hk20)
  obtain ⟨-, lb0, lb1, -⟩ := (r2 b hbo.1 hbo.2.1).2 (by rw [hbo.2.2]; exact hk20)
  have hea := celA (cy := cy) (M := M) (ak := ak) ha hk20 r1
  have heb := celA (cy := cy) (M := M) (ak := ak) hbo hk20 r1
  have hwl := wldC (cy := cy) (M := M) (ak := ak) (a := a) (sp := sp) (dp := dp) (n := n) hbo hk20 r1
  have hMOK : MOK S (cpy M a sp b dp n) := MOK_cpy r2 ha hbo hk20 p1 p4
  obtain ⟨s1, s2⟩ := clampR p1 (by omega)
  obtain ⟨d1, d2⟩ := clampR p2 (by omega)
  obtain ⟨n1, n2⟩ := clampR p3 (by omega)
  show W p l e R s m args below meth c H locs cells slots Q (F0 m pc rls (.int (Int32.ofInt n) :: .int (Int32.ofInt dp) :: encR as ak b :: .int (Int32.ofInt sp) :: encR as ak a :: st.map (enc as ak)))
  rw [encR_pos ha.1, encR_pos hbo.1]
  have hloc : ((st.map (enc as ak)).map fun v => v.category).sum + (nativeFrameWords "java/lang/System" "arraycopy" 5 + 11) ≤ R.locals := by
    have : nativeFrameWords "java/lang/System" "arraycopy" 5 ≤ 20 := by decide
    omega
  have w0 := hw _ (List.mem_of_getElem? (i := 0) rfl)
  have w1 := hw _ (List.mem_of_getElem? (i := 1) rfl)
  have w2 := hw _ (List.mem_of_getElem? (i := 2) rfl)
  have w3 := hw _ (List.mem_of_getElem? (i := 3) rfl)
  have b1 : (Int32.ofInt sp).toNatClampNeg + (Int32.ofInt n).toNatClampNeg ≤ (sL S a).toNat := by rw [s2, n2]; omega
  have b2 : (Int32.ofInt dp).toNatClampNeg + (Int32.ofInt n).toNatClampNeg ≤ (sL S b).toNat := by rw [d2, n2]; omega
  rcases hkd with rfl | rfl | rfl
  · rw [cont_i (Or.inl rfl)] at hea heb hwl
    rw [cpy_fun Int32.ofInt p1 p2 p3] at hwl
    refine va_copyi hx hb hml hown w0 w1 w2 w3 hK r3 r4 r5 (a - 1).toNat (b - 1).toNat 0 0 hea heb rfl rfl rfl s1 d1 n1 b1 b2 (fun _ _ => rfl) hfr hloc hd ?_
    intro H1 locs1 q1 q2 q3
    rw [s2, d2, n2, ← hwl] at q1 q2
    exact kk H1 locs1 ⟨r1, hMOK, q1, q2, q3⟩
  · rw [cont_l] at hea heb hwl
    rw [cpy_fun Int64.ofInt p1 p2 p3] at hwl
    refine va_copyl hx hb hml hown w0 w1 w2 w3 hK r3 r4 r5 (a - 1).toNat (b - 1).toNat 1 1 hea heb rfl rfl rfl s1 d1 n1 b1 b2 (fun _ _ => rfl) hfr hloc hd ?_
    intro H1 locs1 q1 q2 q3
    rw [s2, d2, n2, ← hwl] at q1 q2
    exact kk H1 locs1 ⟨r1, hMOK, q1, q2, q3⟩
  · rw [cont_q (by decide) (by decide)] at hea heb hwl
    rw [cpy_fun (optR as ak) p1 p2 p3] at hwl
    refine va_copyq (C := RX6) (E0 := RX6) (E1 := RX6) hx hb hml hown w0 w1 w2 w3 hK r3 r4 r5 (a - 1).toNat (b - 1).toNat 3 3 hea heb rfl rfl s1 d1 n1 b1 b2 ?_ ?_ hfr hloc hd ?_
    · intro j hj y hy
      rw [n2] at hj
      rw [s2] at hy
      have e1 : ((sp.toNat + j : Nat) : Int) = sp + (j : Int) := by omega
      rw [e1] at hy
      rcases hel rfl (j : Int) (by omega) (by omega) with h9 | h9
      · rw [h9] at hy
        unfold optR at hy
        rw [if_pos rfl] at hy
        cases hy
      · unfold optR at hy
        rw [if_neg (by have := h9.1; omega), if_pos (by have := h9.1; omega)] at hy
        cases hy
        have hex : (wld cy S M as ak)[(M a (sp + (j : Int)) - 1).toNat]? = some (as.getD (M a (sp + (j : Int)) - 1).toNat 0, .inr (6, fldL S (M (M a (sp + (j : Int)))) as ak (M a (sp + (j : Int))))) := by
          rw [wld_at h9.1 (by have := h9.2.1; omega)]
          unfold cel
          rw [if_pos (by rw [h9.2.2]; decide), h9.2.2]
          rfl
        exact va_recv hK r3 (ci := 6) (q := (RX6, TX6, 4)) rfl hex
    · intro comp c0 h1 h2
      rw [h1] at h2
      cases h2
      exact va_asg _ _
    · intro H1 locs1 q1 q2 q3
      rw [s2, d2, n2, ← hwl] at q1 q2
      exact kk H1 locs1 ⟨r1, hMOK, q1, q2, q3⟩
end PSJ
