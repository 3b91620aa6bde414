/-! The library's text members over the Reader's constants: contracts. -/
def wsOf (y : MethodName) (b : ByteArray) (n : Nat) (r : Option FieldType) : List Jvm.Cond := .code y b n r :: WSg
def rmJ (f w : Nat) : Room := { frames := f, cells := 0, slots := 0, locals := w }
theorem ws_in {y : MethodName} {b : ByteArray} {n : Nat} {r : Option FieldType} : ∀ w ∈ WSg, w ∈ wsOf y b n r := fun _ h => List.mem_cons_of_mem _ h
theorem ws_sub {y : MethodName} {b : ByteArray} {n : Nat} {r : Option FieldType} (h : (Jvm.Cond.code y b n r) ∈ WSg) : ∀ w ∈ wsOf y b n r, w ∈ WSg := fun w hw => (List.mem_cons.mp hw).elim (fun e => e ▸ h) id
section STRC
variable (l : Launch) (n0 : Nat) (D : va_G) (cy : Int → ClassId) (ak av : Nat → Nat) (L : Nat) (xs : Nat → Int32)
set_option maxRecDepth 100000 in
theorem c_cod {q : Int × List Int} (hq : q ∈ strT) : Met l yj_cod (wsOf yj_cod bj_cod 1 (some .byte)) (rmJ 0 0) (va_Pc [.ref (ak q.1.toNat)] (CU n0 D cy ak av L xs)) (QcRead 0) 0 0 (fun _ => False) := by
  refine Met.ofW (cc := bj_cod) (maxL := 1) (ret := some .byte) (by decide) rfl ?_
  intro p e s m args below meth c s₁ B hml hv
  obtain ⟨rfl, hC⟩ := hv
  have hx := B.exec
  have hb := B.bytes
  have hr := B.returns
  have hts := atoms_spec (ws := wsOf yj_cod bj_cod 1 (some .byte)) B.pre
  have hlocks := B.notSynchronized
  have hown : s.vm.findClass RJ0 = some m.cls := findClass_of_methodNamed B.named
  have hl := lv_entry ([.ref (ak q.1.toNat)]) (n := 1) (Nat.le_of_ble_eq_true rfl)
  rw [lg_entry_eq]
  generalize (lg_sl ([.ref (ak q.1.toNat)]) ++ List.replicate (1 - (lg_sl ([.ref (ak q.1.toNat)])).length) Slot.unset).toArray = ls at hl ⊢
  have hl : lv_has ls 1 [(0, .ref (ak q.1.toNat))] := hl
  obtain ⟨hS1, hZ, -⟩ := hC.2.2.2.2.1
  obtain ⟨-, h2, -⟩ := hS1 q hq
  refine va_gets hx hb hZ va_S.rf hown (hts _ (ws_in _ jw_f38)) (fun _ h => h) dj_cod_0 ?_
  refine lv_if_eq (tgt := 13) hx hb dj_cod_3 (by decide) (fun h => absurd h (by decide)) (fun _ => ?_)
  refine lv_aload_n hx hb dj_cod_6 rfl (lv_at hl 0 rfl) ?_
  refine vk_getf hx hb h2 va_S.rf hown (hts _ (ws_in _ jw_f15)) (fun _ h => h) dj_cod_7 ?_
  refine lv_goto (tgt := 14) hx hb dj_cod_10 (by decide) ?_
  exact W.zret (ty := .byte) hx hb hr rfl (fun t ht hw => ⟨rfl, ht⟩) (fun _ h => by cases h) dj_cod_14
set_option maxRecDepth 100000 in
theorem c_lat {q : Int × List Int} (hq : q ∈ strT) : Met l yj_lat (wsOf yj_lat bj_lat 1 (some .boolean)) (rmJ 0 0) (va_Pc [.ref (ak q.1.toNat)] (CU n0 D cy ak av L xs)) (QcRead 1) 0 0 (fun _ => False) := by
  refine Met.ofW (cc := bj_lat) (maxL := 1) (ret := some .boolean) (by decide) rfl ?_
  intro p e s m args below meth c s₁ B hml hv
  obtain ⟨rfl, hC⟩ := hv
  have hx := B.exec
  have hb := B.bytes
  have hr := B.returns
  have hts := atoms_spec (ws := wsOf yj_lat bj_lat 1 (some .boolean)) B.pre
  have hlocks := B.notSynchronized
  have hown : s.vm.findClass RJ0 = some m.cls := findClass_of_methodNamed B.named
  have hl := lv_entry ([.ref (ak q.1.toNat)]) (n := 1) (Nat.le_of_ble_eq_true rfl)
  rw [lg_entry_eq]
  generalize (lg_sl ([.ref (ak q.1.toNat)]) ++ List.replicate (1 - (lg_sl ([.ref (ak q.1.toNat)])).length) Slot.unset).toArray = ls at hl ⊢
  have hl : lv_has ls 1 [(0, .ref (ak q.1.toNat))] := hl
  obtain ⟨hS1, hZ, -⟩ := hC.2.2.2.2.1
  obtain ⟨-, h2, -⟩ := hS1 q hq
  refine va_gets hx hb hZ va_S.rf hown (hts _ (ws_in _ jw_f38)) (fun _ h => h) dj_lat_0 ?_
  refine lv_if_eq (tgt := 17) hx hb dj_lat_3 (by decide) (fun h => absurd h (by decide)) (fun _ => ?_)
  refine lv_aload_n hx hb dj_lat_6 rfl (lv_at hl 0 rfl) ?_
  refine vk_getf hx hb h2 va_S.rf hown (hts _ (ws_in _ jw_f15)) (fun _ h => h) dj_lat_7 ?_
  refine lv_if_ne (tgt := 17) hx hb dj_lat_10 (by decide) (fun h => absurd rfl h) (fun _ => ?_)
  refine lv_iconst (v := 1) hx hb dj_lat_13 (by decide) ?_
  refine lv_goto (tgt := 18) hx hb dj_lat_14 (by decide) ?_
  exact W.zret (ty := .boolean) hx hb hr rfl (fun t ht hw => ⟨rfl, ht⟩) (fun _ h => by cases h) dj_lat_18
set_option maxRecDepth 100000 in
theorem c_len {q : Int × List Int} (hq : q ∈ strT) : Met l yj_len (wsOf yj_len bj_len 1 (some .int)) (rmJ 1 20) (va_Pc [.ref (ak q.1.toNat)] (CU n0 D cy ak av L xs)) (QcRead (Int32.ofNat q.2.length)) 0 0 (fun _ => False) := by
  refine Met.ofW (cc := bj_len) (maxL := 1) (ret := some .int) (by decide) rfl ?_
  intro p e s m args below meth c s₁ B hml hv
  obtain ⟨rfl, hC⟩ := hv
  have hx := B.exec
  have hb := B.bytes
  have hr := B.returns
  have hts := atoms_spec (ws := wsOf yj_len bj_len 1 (some .int)) B.pre
  have hlocks := B.notSynchronized
  have hown : s.vm.findClass RJ0 = some m.cls := findClass_of_methodNamed B.named
  have hl := lv_entry ([.ref (ak q.1.toNat)]) (n := 1) (Nat.le_of_ble_eq_true rfl)
  rw [lg_entry_eq]
  generalize (lg_sl ([.ref (ak q.1.toNat)]) ++ List.replicate (1 - (lg_sl ([.ref (ak q.1.toNat)])).length) Slot.unset).toArray = ls at hl ⊢
  have hl : lv_has ls 1 [(0, .ref (ak q.1.toNat))] := hl
  obtain ⟨hS1, hZ, -⟩ := hC.2.2.2.2.1
  obtain ⟨h1, h2, h3, h4, -⟩ := hS1 q hq
  refine lv_aload_n hx hb dj_len_0 rfl (lv_at hl 0 rfl) ?_
  refine vk_getf hx hb h3 va_S.rf hown (hts _ (ws_in _ jw_f9)) (fun _ h => h) dj_len_1 ?_
  refine va_tlen (v := Int32.ofNat q.2.length) hx hb h4 va_S.rf rfl dj_len_4 ?_
  refine lv_aload_n hx hb dj_len_5 rfl (lv_at hl 0 rfl) ?_
  obtain ⟨cell, o1, o2, o3, -⟩ := h1
  refine W.callR (W.runV (As := []) (rest := [.int (Int32.ofNat q.2.length)]) ⟨hx, hb, hml, hown, hts⟩ (c_cod hq) (cwV (C := RJ0) 0 hts (good_ws ws_in (fun w hw => ?_)) rfl rfl rfl (by decide +kernel) ⟨Nat.le_refl _, Nat.le_of_ble_eq_true rfl⟩) ⟨fun a U g mk q => ⟨q.1, q.2.blind⟩, ⟨cell, o1, o2, o3⟩, fun U hU hW => ⟨rfl, hC.moved va_S.rf hU hW⟩⟩ rfl rfl hl.1 rfl (lv_room (Nat.le_of_ble_eq_true rfl)) dj_len_6 ⟨Nat.zero_le _, Nat.zero_le _⟩) ?_
  · rcases List.mem_append.mp hw with hw | hw
    · simp only [List.mem_cons, List.not_mem_nil, or_false] at hw
      rcases hw with rfl | rfl | rfl | rfl
      · exact jw_m_cod
      · exact jw_i_cod
      · exact jw_s_cod
      · exact jw_n_0
    · exact ws_sub jw_c_cod w hw
  · refine W.eq (g2 := F0 m 9 ls [.int 0, .int (Int32.ofNat q.2.length)]) rfl ?_
    refine lv_ishr hx hb dj_len_9 ?_
    rw [sb_shr0]
    exact W.iret hx hb hr (fun t ht hw => ⟨rfl, ht⟩) (fun _ h => by cases h) dj_len_10
set_option maxRecDepth 100000 in
theorem c_prc {i n : Int32} (f : Option Nat) (h0 : ¬ i < 0) (h1 : i < n) : Met l yj_prc (wsOf yj_prc bj_prc 3 (some .int)) (rmJ 0 0) (va_Pc [.int i, .int n, va_rf f] (CU n0 D cy ak av L xs)) (QcRead i) 0 0 (fun _ => False) := by
  refine Met.ofW (cc := bj_prc) (maxL := 3) (ret := some .int) (by decide) rfl ?_
  intro p e s m args below meth c s₁ B hml hv
  obtain ⟨rfl, hC⟩ := hv
  have hx := B.exec
  have hb := B.bytes
  have hr := B.returns
  have hlocks := B.notSynchronized
  have hcat : (va_rf f).category = 1 := by cases f <;> rfl
  have hl := lv_entry ([.int i, .int n, va_rf f]) (n := 3) (by cases f <;> exact Nat.le_of_ble_eq_true rfl)
  rw [lg_entry_eq]
  generalize (lg_sl ([.int i, .int n, va_rf f]) ++ List.replicate (3 - (lg_sl ([.int i, .int n, va_rf f])).length) Slot.unset).toArray = ls at hl ⊢
  have hl : lv_has ls 3 [(0, .int i), (1, .int n), (2, va_rf f)] := hl
  refine lv_iload_n hx hb dj_prc_0 rfl (lv_at hl 0 rfl) ?_
  refine lv_if_lt (tgt := 9) hx hb dj_prc_1 (by decide) (fun h => absurd h h0) (fun _ => ?_)
  refine lv_iload_n hx hb dj_prc_4 rfl (lv_at hl 0 rfl) ?_
  refine lv_iload_n hx hb dj_prc_5 rfl (lv_at hl 1 rfl) ?_
  refine lv_icmp_lt (tgt := 16) hx hb dj_prc_6 (by decide) (fun _ => ?_) (fun h => absurd h1 h)
  refine lv_iload_n hx hb dj_prc_16 rfl (lv_at hl 0 rfl) ?_
  exact W.iret hx hb hr (fun t ht hw => ⟨rfl, ht⟩) (fun _ h => by cases h) dj_prc_17
def QcVoid : Array Value → State → Outcome → State → Prop := fun _ st o t => o = .returned none ∧ t.heap = st.heap
end STRC
