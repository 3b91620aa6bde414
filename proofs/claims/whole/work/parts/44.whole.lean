/-! THE CLAIM OUT OF ONE WALK OF THE LAW'S BODY. Your part is whole_start (and what it stands on); all else here is the same for every law, but numbers. -/
def R_law : String := "SoleraCellarLaw"
def lw_P (b : Addr) (xs : List Int32) (args : Array Value) (s : State) : Prop := args = #[.ref b] ∧ s.IntsAt b xs ∧ xs.length ≤ 3072 ∧ (Jvm.Cond.and given_1 narrow_1).before args s = true
def lw_Q (_ : Array Value) (s : State) (o : Outcome) (t : State) : Prop := o = .returned (some (.int 1)) ∧ Framed s o t [] 600000 7302250
def lw_Z (below : List Frame) (a : Array Value) (s : State) : State → Prop := fun t => ∃ o, t.status = .running ∧ Ended t below o ∧ lw_Q a s o t
/-- the law's own end, with 1 on the stack, nothing written that was there before, its room as the claim has it -/
theorem lw_ret {p : Program} {l : Launch} {e : Env} {s : State} {m : MethodId} {below : List Frame} {meth : Method} {c : Code} {b : Nat} (hx : p.tables.exec = Jvm.exec) (hb : c.code = code) (hr : meth.sig.returnType = ret) (hlocks : meth.locks = false) {pc : Nat} {H : Heap} {ls : Array Slot} (hdg : decode code pc = .ok (.ireturn, 1)) : W p l e room_1 s m #[Value.ref b] below meth c H [] 600000 7302250 (lw_Z below #[Value.ref b] s) (F0 m pc ls [.int 1]) := by
  intro T hT X
  obtain ⟨fs, hret, hrun, hended, hW, hframe⟩ := X.leave (v := some (.int 1)) (hlocks := hlocks) (fun h => by rw [hr] at h; cases h)
  have hmeth' : T.vm.method? m = some meth := X.method'
  refine ⟨T.setFrames fs, ?_, .returned (some (.int 1)), hrun, hended, rfl, ⟨_, rfl⟩, hW, hframe⟩
  jvm_step X.here [X.here.top, hx, hb, hdg, hmeth', hr, ret, narrow_b1]
  (try refine ⟨rfl, ?_⟩); (try refine ⟨rfl, ?_⟩)
  first | (intro acts; rw [hret _ acts rfl rfl rfl]) | rw [hret _ _ rfl rfl rfl]
  exact Steps.refl _
/-- what holds at the law's entry: the machine, the code, the tables' words (any of lw_tbl by 'hts w (by decide +kernel)'), the script of L ints xs at the cell b, what the Statement gives of the start (any of its parts by flat_of_before) -/
def lw_At (p : Program) (s : State) (m : MethodId) (meth : Method) (c : Code) (b L : Nat) (xs : Nat → Int32) : Prop :=
  p.tables.exec = Jvm.exec ∧ c.code = code ∧ meth.sig.returnType = ret ∧ c.maxLocals = 4 ∧ s.vm.findClass R_law = some m.cls ∧ (∀ w ∈ lw_tbl, w.before #[Value.ref b] s = true) ∧ va_X b L xs s s.heap ∧ b < s.heap.size ∧ meth.locks = false ∧ (Jvm.Cond.and given_1 narrow_1).before #[Value.ref b] s = true ∧ meth.name = "law"
def S0 (L : Nat) : mSh := (0, 0, fun _ => 0, fun a => if a = -1 then (L : Int) else 0, fun _ _ => 0)
def M0 (xs : Nat → Int32) : mMem := fun a i => if a = -1 then (xs i.toNat).toInt else 0
/-- what is left: the law over the mini machine -/
def LawOK : Prop := ∀ (L : Nat) (xs : Nat → Int32), L ≤ 3072 → WP PR 1000 258 0 [vA (-1), vU, vU, vU] [] (S0 L) (M0 xs) (fun r S M => r = some (vI 1) ∧ sN S ≤ 600000 ∧ sU S ≤ 7302250)
set_option maxRecDepth 100000 in
set_option maxHeartbeats 4000000 in
theorem whole_open (hlaw : LawOK) {p : Program} {e : Env} {s : State} {m : MethodId} {below : List Frame} {meth : Method} {c : Code} (l : Launch) {b L : Nat} {xs : Nat → Int32} (hL : L ≤ 3072) (C0 : lw_At p s m meth c b L xs) : W p l e room_1 s m #[Value.ref b] below meth c s.heap [] 0 0 (lw_Z below #[Value.ref b] s) (entryFrame m ([Value.ref b] : List Value).toArray 4) := by
  obtain ⟨hx, hb, hr, hml, hown, hts, hX, hbl, hlocks, hgv, hname⟩ := id C0
  have hf := flat_of_before _ hgv
  have hA : ∀ a : Nat, a < s.heap.size → ¬ s.heap.size ≤ a := fun a h => Nat.not_le.mpr h
  obtain ⟨ak, av, hak, hstr⟩ := str_start (n0 := s.heap.size) hA hf hts b
  have a6 : va_AO RX6 s := va_AO.of (hts (.arrayOver (.object RX6)) (List.mem_of_getElem? (i := 282) (by decide +kernel)))
  have a4 : va_AO RX4 s := va_AO.of (hts (.arrayOver (.object RX4)) (List.mem_of_getElem? (i := 331) (by decide +kernel)))
  have a3 : va_AO RX3 s := va_AO.of (hts (.arrayOver (.object RX3)) (List.mem_of_getElem? (i := 323) (by decide +kernel)))
  obtain ⟨c20, k20⟩ := arr_prim (hts (.arrayClass .int) (List.mem_of_getElem? (i := 159) (by decide +kernel))) (by decide)
  obtain ⟨c21, k21⟩ := arr_prim (hts (.arrayClass .long) (List.mem_of_getElem? (i := 279) (by decide +kernel))) (by decide)
  obtain ⟨c22, k22⟩ := arr_prim (hts (.arrayClass .boolean) (List.mem_of_getElem? (i := 347) (by decide +kernel))) (by decide)
  obtain ⟨c23, k23⟩ := arr_obj a6
  obtain ⟨c24, k24⟩ := arr_obj a4
  obtain ⟨c25, k25⟩ := arr_obj a3
  obtain ⟨d0, i0, hKn0⟩ := u_known (C := RX0) (T := TX0) (N := 6) (n := 6) hts inT0 (hts (.instantiable RX0 6) (List.mem_of_getElem? (i := 359) (by decide +kernel)))
  obtain ⟨d1, i1, hKn1⟩ := u_known (C := RX1) (T := TX1) (N := 4) (n := 4) hts inT1 (hts (.instantiable RX1 4) (List.mem_of_getElem? (i := 325) (by decide +kernel)))
  obtain ⟨d2, i2, hKn2⟩ := u_known (C := RX2) (T := TX2) (N := 10) (n := 10) hts inT2 (hts (.instantiable RX2 10) (List.mem_of_getElem? (i := 161) (by decide +kernel)))
  obtain ⟨d3, i3, hKn3⟩ := u_known (C := RX3) (T := TX3) (N := 10) (n := 10) hts inT3 (hts (.instantiable RX3 10) (List.mem_of_getElem? (i := 225) (by decide +kernel)))
  obtain ⟨d4, i4, hKn4⟩ := u_known (C := RX4) (T := TX4) (N := 8) (n := 8) hts inT4 (hts (.instantiable RX4 8) (List.mem_of_getElem? (i := 231) (by decide +kernel)))
  obtain ⟨d5, i5, hKn5⟩ := u_known (C := RX5) (T := TX5) (N := 2) (n := 2) hts inT5 (hts (.instantiable RX5 2) (List.mem_of_getElem? (i := 143) (by decide +kernel)))
  obtain ⟨d6, i6, hKn6⟩ := u_known (C := RX6) (T := TX6) (N := 4) (n := 4) hts inT6 (hts (.instantiable RX6 4) (List.mem_of_getElem? (i := 167) (by decide +kernel)))
  obtain ⟨d7, i7, hKn7⟩ := u_known (C := RX7) (T := TX7) (N := 7) (n := 7) hts inT7 (hts (.instantiable RX7 7) (List.mem_of_getElem? (i := 351) (by decide +kernel)))
  obtain ⟨d8, i8, hKn8⟩ := u_known (C := RX8) (T := TX8) (N := 15) (n := 15) hts inT8 (hts (.instantiable RX8 15) (List.mem_of_getElem? (i := 135) (by decide +kernel)))
  obtain ⟨d9, i9, hKn9⟩ := u_known (C := RX9) (T := TX9) (N := 55) (n := 55) hts inT9 (hts (.instantiable RX9 55) (List.mem_of_getElem? (i := 1085) (by decide +kernel)))
  obtain ⟨cy, hcy⟩ : ∃ cy : Int → ClassId, cy 20 = c20 ∧ cy 21 = c21 ∧ cy 22 = c22 ∧ cy 23 = c23 ∧ cy 24 = c24 ∧ cy 25 = c25 := ⟨fun k => if k = 20 then c20 else if k = 21 then c21 else if k = 22 then c22 else if k = 23 then c23 else if k = 24 then c24 else c25, rfl, rfl, rfl, rfl, rfl, rfl⟩
  obtain ⟨e20, e21, e22, e23, e24, e25⟩ := hcy
  obtain ⟨dC, dI, hKc⟩ : ∃ (dC : Nat → ClassId) (dI : Nat → Nat → Nat), ∀ (k : Nat) (q : vw_C), vwCl[k]? = some q → u_Kn s q.1 q.2.1 q.2.2 (dC k) (dI k) := by
    refine ⟨fun k => match k with | 0 => d0 | 1 => d1 | 2 => d2 | 3 => d3 | 4 => d4 | 5 => d5 | 6 => d6 | 7 => d7 | 8 => d8 | _ => d9, fun k => match k with | 0 => i0 | 1 => i1 | 2 => i2 | 3 => i3 | 4 => i4 | 5 => i5 | 6 => i6 | 7 => i7 | 8 => i8 | _ => i9, ?_⟩
    intro k q hq
    match k, hq with
    | 0, hq => cases hq; exact hKn0
    | 1, hq => cases hq; exact hKn1
    | 2, hq => cases hq; exact hKn2
    | 3, hq => cases hq; exact hKn3
    | 4, hq => cases hq; exact hKn4
    | 5, hq => cases hq; exact hKn5
    | 6, hq => cases hq; exact hKn6
    | 7, hq => cases hq; exact hKn7
    | 8, hq => cases hq; exact hKn8
    | 9, hq => cases hq; exact hKn9
    | k + 10, hq => simp [vwCl] at hq
  have hK : va_K (dC, dI) vwCl (tysL cy) s := by
    refine ⟨hKc, fun k q hq => ?_⟩
    unfold tysL at hq
    rw [e20, e21, e22, e23, e24, e25] at hq
    match k, hq with
    | 0, hq => cases hq; exact k20
    | 1, hq => cases hq; exact k21
    | 2, hq => cases hq; exact k22
    | 3, hq => cases hq; exact k23
    | 4, hq => cases hq; exact k24
    | 5, hq => cases hq; exact k25
    | k + 6, hq => simp at hq
  have hnest : ∀ w ∈ nestW, va_Nw w s := by
    intro w hw
    simp only [nestW, List.mem_cons, List.not_mem_nil, or_false] at hw
    rcases hw with rfl | rfl | rfl | rfl
    · exact va_Nw.of rfl (hts (.methodLinkNest RX8 9 yX5_init RX8) (List.mem_of_getElem? (i := 144) (by decide +kernel)))
    · exact va_Nw.of rfl (hts (.methodLinkNest RX3 11 yX4_init RX8) (List.mem_of_getElem? (i := 232) (by decide +kernel)))
    · exact va_Nw.of rfl (hts (.methodLinkNest RX1 21 yX4_init RX8) (List.mem_of_getElem? (i := 332) (by decide +kernel)))
    · exact va_Nw.of rfl (hts (.methodLinkNest RX8 49 yX4_init RX8) (List.mem_of_getElem? (i := 349) (by decide +kernel)))
  have hZ : va_Z "java/lang/String" "COMPACT_STRINGS" "Z" (.int 1) (fun z => s.heap.size ≤ z) s s.heap := va_Zof (hts (.laysStatic "java/lang/String" "COMPACT_STRINGS" "Z") (List.mem_of_getElem? (i := 665) (by decide +kernel))) (hts (.initialized "java/lang/String") (List.mem_of_getElem? (i := 129) (by decide +kernel))) (va_eqt (hf (.eq (.static "java/lang/String" "COMPACT_STRINGS" "Z") (.int 1)) (by decide +kernel))) hA
  have hZq : va_Zq "jdk/internal/util/Preconditions" "SIOOBE_FORMATTER" "Ljava/util/function/BiFunction;" (fun z => s.heap.size ≤ z) s s.heap := va_Zqof (hts (.laysStatic "jdk/internal/util/Preconditions" "SIOOBE_FORMATTER" "Ljava/util/function/BiFunction;") (List.mem_of_getElem? (i := 681) (by decide +kernel))) (hts (.initialized "jdk/internal/util/Preconditions") (List.mem_of_getElem? (i := 131) (by decide +kernel))) (hf (.isRef (.static "jdk/internal/util/Preconditions" "SIOOBE_FORMATTER" "Ljava/util/function/BiFunction;")) (by decide +kernel)) hA
  have hCU : CU s.heap.size (dC, dI) cy ak av L xs s := ⟨hK, Nat.le_refl _, ⟨a6, a4, a3⟩, hnest, ⟨hstr, hZ, hZq⟩, by rw [hak]; exact hX, by rw [hak]; exact hbl, by rw [hak]; exact hA b hbl⟩
  obtain ⟨n, r, hex, hr1, hN, hU⟩ := hlaw L xs hL
  obtain ⟨r, Sf, Mf⟩ := r
  have hr1 : r = some (vI 1) := hr1
  have hN : sN Sf ≤ 600000 := hN
  have hU : sU Sf ≤ 7302250 := hU
  subst hr1
  obtain ⟨x2, cs2, hcs⟩ := ex_ne hex
  have hpc : x2.1 = 0 := mAt_hd hcs
  rw [hcs] at hex
  have hsuf : x2 :: cs2 <:+ mCode PR 258 := hcs ▸ mAt_suf PR 258 0
  have hl := lv_entry ([.ref b]) (n := 4) (Nat.le_of_ble_eq_true rfl)
  rw [lg_entry_eq]
  generalize (lg_sl ([.ref b]) ++ List.replicate (4 - (lg_sl ([.ref b])).length) Slot.unset).toArray = ls0 at hl ⊢
  have henc : ([vA (-1)] : List mV).map (enc [] ak) = [.ref b] := by
    show [encR [] ak (-1)] = _
    have : encR [] ak (-1) = .ref (ak 1) := rfl
    rw [this, hak]
  have hLR : LR [] ak (sN (S0 L)) ls0 4 [vA (-1), vU, vU, vU] := entry_LR (A := [vA (-1)]) (fun v hv => by rw [List.mem_singleton.mp hv]; exact fun q => by cases q) (fun v hv => by rw [List.mem_singleton.mp hv]; show (-1 : Int) ≤ 0; decide) (Nat.le_of_ble_eq_true rfl) (by rw [henc]; exact hl)
  have hRW : RW s.heap.size (dC, dI) cy ak s (S0 L) (M0 xs) [] s.heap [] := by
    refine ⟨rfl, fun a h1 h2 => ?_, fun k q h => by simp [wld] at h, ⟨fun i j p q h => by simp [wld] at h, fun k q h => by simp [wld] at h⟩, va_S.rf⟩
    have h2 : a ≤ 0 := h2
    omega
  have hsc : SCM L xs (S0 L) (M0 xs) := ⟨rfl, by omega, fun j hj => by show (if (-1 : Int) = -1 then _ else _) = _; rw [if_pos rfl]; rfl⟩
  have key := body_all PR_prok l s.heap.size (dC, dI) cy ak av L xs glC n 1000 258 x2 cs2 [vA (-1), vU, vU, vU] [] (S0 L) (M0 xs) (some (vI 1)) Sf Mf hex hsuf (by rw [PR_len]; decide) p e room_1 s m #[Value.ref b] below meth c s.heap [] 0 0 (lw_Z below #[Value.ref b] s) [] ls0 hx hb hml hown (fun w hw => hts w (List.mem_filter.mp hw).1) hname hCU (by decide) (by decide) hRW hLR (fun v hv => by cases hv) hsc
    (by show 0 + (sN Sf - 0).toNat ≤ 600000; omega) (by show 0 + (sU Sf - 0).toNat ≤ 7302250; omega) ?_
  · rw [hpc] at key
    exact key
  · intro bs H1 locs1 rls1 pcR insR stR cR hrt hcR hdec hokR hRW1
    rcases rt_inv hrt with ⟨k0, rfl, z, rfl, e0⟩ | ⟨k0, rfl, z, rfl, e0, -⟩ | ⟨k0, rfl, z, rfl, e0⟩ | ⟨k0, rfl, z, rfl, e0⟩ | ⟨k0, rfl, rfl, e0⟩
    · cases e0
      refine va_forget hRW1.2.2.2.2.2.2 (W.widen (k := 600000) (n := 7302250) (by show 0 + (sN Sf - 0).toNat ≤ 600000; omega) (by show 0 + (sU Sf - 0).toNat ≤ 7302250; omega) ?_)
      exact lw_ret hx hb hr hlocks hdec
    · cases e0
      refine va_forget hRW1.2.2.2.2.2.2 (W.widen (k := 600000) (n := 7302250) (by show 0 + (sN Sf - 0).toNat ≤ 600000; omega) (by show 0 + (sU Sf - 0).toNat ≤ 7302250; omega) ?_)
      exact lw_ret hx hb hr hlocks hdec
    · cases e0
    · cases e0
    · cases e0
