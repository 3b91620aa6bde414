/-! SOUNDNESS, eleventh piece: what holds at every method's entry (text constants, the script, links), and how it moves. -/
def nestW : List Jvm.Cond := [.methodLinkNest RX8 9 yX5_init RX8, .methodLinkNest RX3 11 yX4_init RX8, .methodLinkNest RX1 21 yX4_init RX8, .methodLinkNest RX8 49 yX4_init RX8]
def stOne (n0 : Nat) (ak av : Nat → Nat) (U : State) (H : Heap) (q : Int × List Int) : Prop :=
  va_O "java/lang/String" (ak q.1.toNat) (fun z => n0 ≤ z) U H ∧ va_OF "java/lang/String" "coder" "B" (.int 0) (ak q.1.toNat) (fun z => n0 ≤ z) U H ∧ va_OF "java/lang/String" "value" "[B" (.ref (av q.1.toNat)) (ak q.1.toNat) (fun z => n0 ≤ z) U H ∧
  va_T .byte (av q.1.toNat) q.2.length (fun j => .int (Int32.ofInt (q.2.getD j 0))) (fun z => n0 ≤ z) U H ∧ ∃ tx : String, vk_R RX2 q.1.toNat tx (ak q.1.toNat) U
def STR (n0 : Nat) (ak av : Nat → Nat) (U : State) (H : Heap) : Prop := (∀ q ∈ strT, stOne n0 ak av U H q) ∧ va_Z "java/lang/String" "COMPACT_STRINGS" "Z" (.int 1) (fun z => n0 ≤ z) U H ∧ va_Zq "jdk/internal/util/Preconditions" "SIOOBE_FORMATTER" "Ljava/util/function/BiFunction;" (fun z => n0 ≤ z) U H
/-- what does not change of a state that a method may begin in -/
def CU (n0 : Nat) (D : va_G) (cy : Int → ClassId) (ak av : Nat → Nat) (L : Nat) (xs : Nat → Int32) (U : State) : Prop :=
  va_K D vwCl (tysL cy) U ∧ n0 ≤ U.heap.size ∧ (va_AO RX6 U ∧ va_AO RX4 U ∧ va_AO RX3 U) ∧ (∀ w ∈ nestW, va_Nw w U) ∧ STR n0 ak av U U.heap ∧ (va_X (ak 1) L xs U U.heap ∧ ak 1 < U.heap.size ∧ ¬ n0 ≤ ak 1)
theorem STR.moved {n0 : Nat} {ak av : Nat → Nat} {s U : State} {H H1 : Heap} (hW : s.WarmedH U.vm) (h : STR n0 ak av s H) (hq : ∀ a : Nat, a < H.size → ¬ n0 ≤ a → H1[a]? = H[a]?) : STR n0 ak av U H1 := by
  obtain ⟨h1, h2, h3⟩ := h
  have ha := hW.alike
  refine ⟨fun q hq1 => ?_, (h2.moved ha).kept hq, (h3.moved ha).kept hq⟩
  obtain ⟨g1, g2, g3, g4, tx, g5⟩ := h1 q hq1
  exact ⟨(g1.moved ha).kept hq, (g2.moved ha).kept hq, (g3.moved ha).kept hq, (g4.moved ha).kept hq, tx, g5.warm hW⟩
theorem nest_moved {s U : State} (hW : s.WarmedH U.vm) (h : ∀ w ∈ nestW, va_Nw w s) : ∀ w ∈ nestW, va_Nw w U := by
  intro w hw
  have h1 := h w hw
  simp only [nestW, List.mem_cons, List.not_mem_nil, or_false] at hw
  rcases hw with rfl | rfl | rfl | rfl <;> exact va_Nw.warmM hW h1
theorem CU.moved {n0 : Nat} {D : va_G} {cy : Int → ClassId} {ak av : Nat → Nat} {L : Nat} {xs : Nat → Int32} {s U : State} {H : Heap} {locs : List Loc} (h : CU n0 D cy ak av L xs s) (hS : va_S (fun q => n0 ≤ q) s.heap H locs) (hU : U.heap = H) (hW : s.WarmedH U.vm) : CU n0 D cy ak av L xs U := by
  obtain ⟨h1, h2, ⟨h3, h4, h5⟩, h6, h7, h8, h9, h10⟩ := h
  have ha := hW.alike
  subst hU
  have hsz := hS.1
  exact ⟨h1.moved ha, by omega, ⟨h3.moved ha, h4.moved ha, h5.moved ha⟩, nest_moved hW h6, h7.moved hW hS.2.1, (h8.moved ha).kept (hS.2.1 _ h9 h10), by omega, h10⟩
theorem CU.blind {n0 : Nat} {D : va_G} {cy : Int → ClassId} {ak av : Nat → Nat} {L : Nat} {xs : Nat → Int32} {U : State} {g : JFrame} {mk : MethodId} {a : Array Value} (h : CU n0 D cy ak av L xs U) : CU n0 D cy ak av L xs (U.calling g mk a) := by
  obtain ⟨h1, h2, ⟨h3, h4, h5⟩, h6, ⟨h7, h11, h12⟩, h8, h9, h10⟩ := h
  have ha : U.vm.Alike (U.calling g mk a).vm := Vm.Alike.refl U.vm
  refine ⟨h1.moved ha, h2, ⟨h3.moved ha, h4.moved ha, h5.moved ha⟩, fun w hw => ?_, ⟨fun q hq => ?_, h11.moved ha, h12.moved ha⟩, h8.moved ha, h9, h10⟩
  · have h1 := h6 w hw
    simp only [nestW, List.mem_cons, List.not_mem_nil, or_false] at hw
    rcases hw with rfl | rfl | rfl | rfl <;> exact va_Nw.same rfl rfl h1
  · obtain ⟨g1, g2, g3, g4, tx, g5⟩ := h7 q hq
    exact ⟨g1.moved ha, g2.moved ha, g3.moved ha, g4.moved ha, tx, vk_R.same rfl g5⟩
def WSg : List Jvm.Cond := lw_tbl.filter goodWord
theorem good_ws {Ts Lw : List Jvm.Cond} (hT : ∀ w ∈ WSg, w ∈ Ts) (h : ∀ w ∈ Lw, w ∈ WSg) : GoodIn Ts Lw := fun w hw => ⟨hT w (h w hw), good_of_word (List.mem_filter.mp (h w hw)).2⟩
section PSK
variable {p : Program} {l : Launch} {e : Env} {R : Room} {s : State} {m : MethodId} {args : Array Value} {below : List Frame} {meth : Method} {c : Code} {H : Heap} {locs : List Loc} {cells slots : Nat} {Q : State → Prop}
variable {cc : ByteArray} {pc : Nat} {as : List Nat} {ak av : Nat → Nat} {nL n0 : Nat} {rls : Array Slot} {D : va_G} {cy : Int → ClassId} {Ts : List Jvm.Cond}
theorem ps_ldcS (hx : p.tables.exec = Jvm.exec) (hb : c.code = cc) (hown : s.vm.findClass RX2 = some m.cls) (hS : STR n0 ak av s s.heap) {i : Nat} {q : Int × List Int} (hq : q ∈ strT) (hqp : 0 < q.1) (hi : q.1.toNat = i) {st : List mV} (hd : decode cc pc = .ok (.ldc i, 2))
    (kk : W p l e R s m args below meth c H locs cells slots Q (F0 m (pc + 2) rls ((vA (-q.1) :: st).map (enc as ak)))) : W p l e R s m args below meth c H locs cells slots Q (F0 m pc rls (st.map (enc as ak))) := by
  subst hi
  obtain ⟨-, -, -, -, tx, h5⟩ := hS.1 q hq
  refine va_ldcS hx hb hown h5 hd ?_
  have e1 : enc as ak (vA (-q.1)) = .ref (ak q.1.toNat) := by
    show encR as ak (-q.1) = _
    unfold encR
    rw [if_neg (by omega), if_neg (by omega), Int.neg_neg]
  rw [List.map_cons, e1] at kk
  exact kk
theorem ps_sld (hx : p.tables.exec = Jvm.exec) (hb : c.code = cc) {L : Nat} {xs : Nat → Int32} (hX : va_X (ak 1) L xs s s.heap) (hbl : ak 1 < s.heap.size) (hbA : ¬ n0 ≤ ak 1) (hL : L ≤ 100000) {i x : Int} {st : List mV} (hS : va_S (fun q => n0 ≤ q) s.heap H locs) (h0 : 0 ≤ i) (h1 : i < (L : Int)) (hxx : (xs i.toNat).toInt = x) (hd : decode cc pc = .ok (.iaload, 1))
    (kk : W p l e R s m args below meth c H locs cells slots Q (F0 m (pc + 1) rls ((vI x :: st).map (enc as ak)))) : W p l e R s m args below meth c H locs cells slots Q (F0 m pc rls ((vI i :: vA (-1) :: st).map (enc as ak))) := by
  show W p l e R s m args below meth c H locs cells slots Q (F0 m pc rls (.int (Int32.ofInt i) :: .ref (ak 1) :: st.map (enc as ak)))
  refine va_sld hx hb hX hbl hbA hS (in_i h0 h1 hL) hd ?_
  rw [clamp_i h0 (by omega)]
  have : xs i.toNat = Int32.ofInt x := by rw [← hxx, Int32.ofInt_toInt]
  rw [this]
  exact kk
theorem ps_slen (hx : p.tables.exec = Jvm.exec) (hb : c.code = cc) {L : Nat} {xs : Nat → Int32} (hX : va_X (ak 1) L xs s s.heap) (hbl : ak 1 < s.heap.size) (hbA : ¬ n0 ≤ ak 1) {st : List mV} (hS : va_S (fun q => n0 ≤ q) s.heap H locs) (hd : decode cc pc = .ok (.arraylength, 1))
    (kk : W p l e R s m args below meth c H locs cells slots Q (F0 m (pc + 1) rls ((vI (L : Int) :: st).map (enc as ak)))) : W p l e R s m args below meth c H locs cells slots Q (F0 m pc rls ((vA (-1) :: st).map (enc as ak))) := by
  show W p l e R s m args below meth c H locs cells slots Q (F0 m pc rls (.ref (ak 1) :: st.map (enc as ak)))
  refine va_slen hx hb hX hbl hbA hS hd ?_
  rw [← Int32.ofInt_eq_ofNat]
  exact kk
end PSK
