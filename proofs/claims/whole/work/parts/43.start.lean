/-! What the Statement gives at the law's entry, in the words of the soundness parts. -/
def strX : List (Int × String) := [(99, "loses"), (101, "yields"), (103, "bars"), (105, "pour"), (107, "rack"), (109, "bottle"), (111, "pass"), (81, "from"), (83, "in"), (177, "["), (179, "]"), (191, "cask"), (193, "tier"), (195, "size"), (196, "full"), (198, "mean"), (200, "year"), (202, "mood"), (204, "done"), (206, "latest"), (208, "bottled"), (210, "room"), (171, "*"), (173, "/"), (175, "%"), (164, "+"), (166, "-"), (113, "times"), (94, "if"), (140, "not"), (142, "("), (147, ")"), (155, "<"), (157, ">"), (159, "="), (138, "and"), (124, "or"), (54, ";")]
def strN (a : Int) : String := match strX.find? (fun q => q.1 == a) with
  | some q => q.2
  | none => ""
def strW (q : Int × List Int) : List Jvm.Cond := [.exactly (.string RX2 q.1.toNat) "java/lang/String", .eq (.field (.string RX2 q.1.toNat) "java/lang/String" "coder" "B") (.int 0), .arrayOf (.field (.string RX2 q.1.toNat) "java/lang/String" "value" "[B") .byte, .eq (.length (.field (.string RX2 q.1.toNat) "java/lang/String" "value" "[B")) (.int (Int32.ofNat q.2.length))] ++ (List.range q.2.length).map (fun j => Jvm.Cond.eq (.elem (.field (.string RX2 q.1.toNat) "java/lang/String" "value" "[B") (.int (Int32.ofNat j))) (.int (Int32.ofInt (q.2.getD j 0))))
set_option maxRecDepth 1000000 in
theorem strW_in : ∀ q ∈ strT, ∀ w ∈ strW q, w ∈ flatC (Jvm.Cond.and given_1 narrow_1) := by decide +kernel
set_option maxRecDepth 1000000 in
theorem strR_in : ∀ q ∈ strT, Jvm.Cond.stringRef RX2 q.1.toNat (strN q.1) ∈ lw_tbl := by decide +kernel
theorem strT_uq : ∀ q ∈ strT, ∀ r ∈ strT, q.1.toNat = r.1.toNat → q = r := by decide +kernel
theorem strT_big : ∀ q ∈ strT, q.1.toNat ≠ 1 := by decide +kernel
theorem arr_prim {s : State} {args : Array Value} {ty : FieldType} (h : (Cond.arrayClass ty).before args s = true) (hty : ty = .int ∨ ty = .long ∨ ty = .boolean) : ∃ cA : ClassId, ArrOfT s cA ty ∧ va_RA s cA ty := by
  obtain ⟨cA, kA, comp, h1, h2, h3⟩ := Cond.arrayClass_spec h
  refine ⟨cA, fun n z => ⟨fun k h => by cases h, kA, h2, comp, h3⟩, ?_⟩
  rcases hty with rfl | rfl | rfl <;> exact h1
theorem arr_obj {s : State} {C : String} (h : va_AO C s) : ∃ cA : ClassId, ArrOfT s cA (.object C) ∧ va_RA s cA (.object C) := by
  obtain ⟨comp, c, k, h1, h2, h3, h4, h5⟩ := Cond.arrayOver_spec h
  exact ⟨c, fun n z => ⟨fun k h => by cases h, k, h3, comp, h4⟩, k, comp, h3, h4, h1, h5⟩
theorem str_start {s : State} {args : Array Value} {n0 : Nat} (hA : ∀ a : Nat, a < s.heap.size → ¬ n0 ≤ a) (hf : ∀ w ∈ flatC (Jvm.Cond.and given_1 narrow_1), w.before args s = true) (hts : ∀ w ∈ lw_tbl, w.before args s = true) (b : Nat) :
    ∃ ak av : Nat → Nat, ak 1 = b ∧ ∀ q ∈ strT, stOne n0 ak av s s.heap q := by
  have h0 : ∀ i : Nat, ∃ z : Nat × Nat, ∀ q ∈ strT, q.1.toNat = i → (Term.string RX2 q.1.toNat).eval args s none [] s = some (.ref z.1) ∧ va_O "java/lang/String" z.1 (fun z => n0 ≤ z) s s.heap ∧ va_OF "java/lang/String" "coder" "B" (.int 0) z.1 (fun z => n0 ≤ z) s s.heap ∧ va_OF "java/lang/String" "value" "[B" (.ref z.2) z.1 (fun z => n0 ≤ z) s s.heap ∧ va_T .byte z.2 q.2.length (fun j => .int (Int32.ofInt (q.2.getD j 0))) (fun z => n0 ≤ z) s s.heap := by
    intro i
    by_cases hex : ∃ q ∈ strT, q.1.toNat = i
    · obtain ⟨q, hq, hi⟩ := hex
      have hw : ∀ w ∈ strW q, w.before args s = true := fun w h => hf w (strW_in q hq w h)
      have w0 := hw _ (List.mem_append_left _ (List.mem_of_getElem? (i := 0) rfl))
      have w1 := hw _ (List.mem_append_left _ (List.mem_of_getElem? (i := 1) rfl))
      have w2 := hw _ (List.mem_append_left _ (List.mem_of_getElem? (i := 2) rfl))
      have w3 := hw _ (List.mem_append_left _ (List.mem_of_getElem? (i := 3) rfl))
      have w4 : ∀ j : Nat, j < q.2.length → (Cond.eq (.elem (.field (.string RX2 q.1.toNat) "java/lang/String" "value" "[B") (.int (Int32.ofNat j))) (.int (Int32.ofInt (q.2.getD j 0)))).before args s = true := fun j hj => hw _ (List.mem_append_right _ (List.mem_map.mpr ⟨j, List.mem_range.mpr hj, rfl⟩))
      obtain ⟨a, c, cA, kA, q1, q2, q3, q4, q5, q6, -⟩ := Cond.exactly_spec (args := args) (first := s) (o := none) (s := s) (idx := []) (t := Term.string RX2 q.1.toNat) (cls := "java/lang/String") w0
      have hlen := (strT_ok q hq).2.1
      obtain ⟨t, ht, hT⟩ := va_Tof (N := q.2.length) (f := fun j => .int (Int32.ofInt (q.2.getD j 0))) (A := fun z => n0 ≤ z) (by omega) w2 (va_eqt w3) (fun j hj => va_eqt (w4 j hj)) hA
      refine ⟨(a, t), fun r hr hri => ?_⟩
      have er : r = q := strT_uq r hr q hq (by omega)
      subst er
      exact ⟨q1, ⟨cA, q3, q5, by rw [q6]; exact q2, hA a (Array.getElem?_eq_some_iff.mp q3).1⟩, vk_OFof q1 (va_eqt w1) hA, vk_OFof q1 ht hA, hT⟩
    · exact ⟨(0, 0), fun q hq hi => absurd ⟨q, hq, hi⟩ hex⟩
  obtain ⟨ad, had⟩ := Classical.axiomOfChoice h0
  refine ⟨fun i => if i = 1 then b else (ad i).1, fun i => (ad i).2, if_pos rfl, fun q hq => ?_⟩
  have e1 : (if q.1.toNat = 1 then b else (ad q.1.toNat).1) = (ad q.1.toNat).1 := if_neg (strT_big q hq)
  obtain ⟨g1, g2, g3, g4, g5⟩ := had q.1.toNat q hq rfl
  unfold stOne
  dsimp only
  rw [e1]
  exact ⟨g2, g3, g4, g5, strN q.1, vk_R.of (hts _ (strR_in q hq)) g1⟩
