/-! The library's text members over the Reader's constants: contracts. -/
def wsOf (y : MethodName) (b : ByteArray) (n : Nat) (r : Option FieldType) : List Jvm.Cond := .code y b n r :: WSg
def rmJ (f w : Nat) : Room := { frames := f, cells := 0, slots := 0, locals := w }
theorem ws_in {y : MethodName} {b : ByteArray} {n : Nat} {r : Option FieldType} : ∀ w ∈ WSg, w ∈ wsOf y b n r := fun _ h => List.mem_cons_of_mem _ h
theorem ws_sub {y : MethodName} {b : ByteArray} {n : Nat} {r : Option FieldType} (h : (Jvm.Cond.code y b n r) ∈ WSg) : ∀ w ∈ wsOf y b n r, w ∈ WSg := fun w hw => (List.mem_cons.mp hw).elim (fun e => e ▸ h) id
section STRC
variable (l : Launch) (n0 : Nat) (D : va_G) (cy : Int → ClassId) (ak av : Nat → Nat) (L : Nat) (xs : Nat → Int32)
set_option maxRecDepth 100000 in
theorem c_cod {q : Int × List Int} (hq : q ∈ strT) : Met l yj_cod (wsOf yj_cod bj_cod 1 (some .byte)) (rmJ 0 0) (va_Pc [.ref (ak q.1.toNat)] (CU n0 D cy ak av L xs)) (QcRead 0) 0 0 (fun _ => False) := by
  refine Met.ofW (cc := bj_cod) (maxL := 1) (ret := some .byte) (by decide) rfl ?_
  intro p e s m args below meth c s₁ B hml hv
  obtain ⟨rfl, hC⟩ := hv
  have hx := B.exec
  have hb := B.bytes
  have hr := B.returns
  have hts := atoms_spec (ws := wsOf yj_cod bj_cod 1 (some .byte)) B.pre
  have hlocks := B.notSynchronized
  have hown : s.vm.findClass RJ0 = some m.cls := findClass_of_methodNamed B.named
  have hl := lv_entry ([.ref (ak q.1.toNat)]) (n := 1) (Nat.le_of_ble_eq_true rfl)
  rw [lg_entry_eq]
  generalize (lg_sl ([.ref (ak q.1.toNat)]) ++ List.replicate (1 - (lg_sl ([.ref (ak q.1.toNat)])).length) Slot.unset).toArray = ls at hl ⊢
  have hl : lv_has ls 1 [(0, .ref (ak q.1.toNat))] := hl
  obtain ⟨hS1, hZ, -⟩ := hC.2.2.2.2.1
  obtain ⟨-, h2, -⟩ := hS1 q hq
  refine va_gets hx hb hZ va_S.rf hown (hts _ (ws_in _ jw_f38)) (fun _ h => h) dj_cod_0 ?_
  refine lv_if_eq (tgt := 13) hx hb dj_cod_3 (by decide) (fun h => absurd h (by decide)) (fun _ => ?_)
  refine lv_aload_n hx hb dj_cod_6 rfl (lv_at hl 0 rfl) ?_
  refine vk_getf hx hb h2 va_S.rf hown (hts _ (ws_in _ jw_f15)) (fun _ h => h) dj_cod_7 ?_
  refine lv_goto (tgt := 14) hx hb dj_cod_10 (by decide) ?_
  exact W.zret (ty := .byte) hx hb hr rfl (fun t ht hw => ⟨rfl, ht⟩) (fun _ h => by cases h) dj_cod_14
set_option maxRecDepth 100000 in
theorem c_lat {q : Int × List Int} (hq : q ∈ strT) : Met l yj_lat (wsOf yj_lat bj_lat 1 (some .boolean)) (rmJ 0 0) (va_Pc [.ref (ak q.1.toNat)] (CU n0 D cy ak av L xs)) (QcRead 1) 0 0 (fun _ => False) := by
  refine Met.ofW (cc := bj_lat) (maxL := 1) (ret := some .boolean) (by decide) rfl ?_
  intro p e s m args below meth c s₁ B hml hv
  obtain ⟨rfl, hC⟩ := hv
  have hx := B.exec
  have hb := B.bytes
  have hr := B.returns
  have hts := atoms_spec (ws := wsOf yj_lat bj_lat 1 (some .boolean)) B.pre
  have hlocks := B.notSynchronized
  have hown : s.vm.findClass RJ0 = some m.cls := findClass_of_methodNamed B.named
  have hl := lv_entry ([.ref (ak q.1.toNat)]) (n := 1) (Nat.le_of_ble_eq_true rfl)
  rw [lg_entry_eq]
  generalize (lg_sl ([.ref (ak q.1.toNat)]) ++ List.replicate (1 - (lg_sl ([.ref (ak q.1.toNat)])).length) Slot.unset).toArray = ls at hl ⊢
  have hl : lv_has ls 1 [(0, .ref (ak q.1.toNat))] := hl
  obtain ⟨hS1, hZ, -⟩ := hC.2.2.2.2.1
  obtain ⟨-, h2, -⟩ := hS1 q hq
  refine va_gets hx hb hZ va_S.rf hown (hts _ (ws_in _ jw_f38)) (fun _ h => h) dj_lat_0 ?_
  refine lv_if_eq (tgt := 17) hx hb dj_lat_3 (by decide) (fun h => absurd h (by decide)) (fun _ => ?_)
  refine lv_aload_n hx hb dj_lat_6 rfl (lv_at hl 0 rfl) ?_
  refine vk_getf hx hb h2 va_S.rf hown (hts _ (ws_in _ jw_f15)) (fun _ h => h) dj_lat_7 ?_
  refine lv_if_ne (tgt := 17) hx hb dj_lat_10 (by decide) (fun h => absurd rfl h) (fun _ => ?_)
  refine lv_iconst (v := 1) hx hb dj_lat_13 (by decide) ?_
  refine lv_goto (tgt := 18) hx hb dj_lat_14 (by decide) ?_
  exact W.zret (ty := .boolean) hx hb hr rfl (fun t ht hw => ⟨rfl, ht⟩) (fun _ h => by cases h) dj_lat_18
set_option maxRecDepth 100000 in
theorem c_len {q : Int × List Int} (hq : q ∈ strT) : Met l yj_len (wsOf yj_len bj_len 1 (some .int)) (rmJ 1 20) (va_Pc [.ref (ak q.1.toNat)] (CU n0 D cy ak av L xs)) (QcRead (Int32.ofNat q.2.length)) 0 0 (fun _ => False) := by
  refine Met.ofW (cc := bj_len) (maxL := 1) (ret := some .int) (by decide) rfl ?_
  intro p e s m args below meth c s₁ B hml hv
  obtain ⟨rfl, hC⟩ := hv
  have hx := B.exec
  have hb := B.bytes
  have hr := B.returns
  have hts := atoms_spec (ws := wsOf yj_len bj_len 1 (some .int)) B.pre
  have hlocks := B.notSynchronized
  have hown : s.vm.findClass RJ0 = some m.cls := findClass_of_methodNamed B.named
  have hl := lv_entry ([.ref (ak q.1.toNat)]) (n := 1) (Nat.le_of_ble_eq_true rfl)
  rw [lg_entry_eq]
  generalize (lg_sl ([.ref (ak q.1.toNat)]) ++ List.replicate (1 - (lg_sl ([.ref (ak q.1.toNat)])).length) Slot.unset).toArray = ls at hl ⊢
  have hl : lv_has ls 1 [(0, .ref (ak q.1.toNat))] := hl
  obtain ⟨hS1, hZ, -⟩ := hC.2.2.2.2.1
  obtain ⟨h1, h2, h3, h4, -⟩ := hS1 q hq
  refine lv_aload_n hx hb dj_len_0 rfl (lv_at hl 0 rfl) ?_
  refine vk_getf hx hb h3 va_S.rf hown (hts _ (ws_in _ jw_f9)) (fun _ h => h) dj_len_1 ?_
  refine va_tlen (v := Int32.ofNat q.2.length) hx hb h4 va_S.rf rfl dj_len_4 ?_
  refine lv_aload_n hx hb dj_len_5 rfl (lv_at hl 0 rfl) ?_
  obtain ⟨cell, o1, o2, o3, -⟩ := h1
  refine W.callR (W.runV (As := []) (rest := [.int (Int32.ofNat q.2.length)]) ⟨hx, hb, hml, hown, hts⟩ (c_cod l n0 D cy ak av L xs hq) (cwV (C := RJ0) 0 hts (good_ws ws_in (fun w hw => ?_)) rfl rfl rfl (by decide +kernel) ⟨Nat.le_refl _, Nat.le_of_ble_eq_true rfl⟩) ⟨fun a U g mk q => ⟨q.1, q.2.blind⟩, ⟨cell, o1, o2, o3⟩, fun U hU hW => ⟨rfl, hC.moved va_S.rf hU hW⟩⟩ rfl rfl hl.1 rfl (lv_room (Nat.le_of_ble_eq_true rfl)) dj_len_6 ⟨Nat.zero_le _, Nat.zero_le _⟩) ?_
  · rcases List.mem_append.mp hw with hw | hw
    · simp only [List.mem_cons, List.not_mem_nil, or_false] at hw
      rcases hw with rfl | rfl | rfl | rfl
      · exact jw_m_cod
      · exact jw_i_cod
      · exact jw_s_cod
      · exact jw_n_0
    · exact ws_sub jw_c_cod w hw
  · refine W.eq (g2 := F0 m 9 ls [.int 0, .int (Int32.ofNat q.2.length)]) rfl ?_
    refine lv_ishr hx hb dj_len_9 ?_
    rw [sb_shr0]
    exact W.iret hx hb hr (fun t ht hw => ⟨rfl, ht⟩) (fun _ h => by cases h) dj_len_10
set_option maxRecDepth 100000 in
theorem c_prc {i n : Int32} (f : Option Nat) (h0 : ¬ i < 0) (h1 : i < n) : Met l yj_prc (wsOf yj_prc bj_prc 3 (some .int)) (rmJ 0 0) (va_Pc [.int i, .int n, va_rf f] (CU n0 D cy ak av L xs)) (QcRead i) 0 0 (fun _ => False) := by
  refine Met.ofW (cc := bj_prc) (maxL := 3) (ret := some .int) (by decide) rfl ?_
  intro p e s m args below meth c s₁ B hml hv
  obtain ⟨rfl, hC⟩ := hv
  have hx := B.exec
  have hb := B.bytes
  have hr := B.returns
  have hlocks := B.notSynchronized
  have hcat : (va_rf f).category = 1 := by cases f <;> rfl
  have hl := lv_entry ([.int i, .int n, va_rf f]) (n := 3) (by cases f <;> exact Nat.le_of_ble_eq_true rfl)
  rw [lg_entry_eq]
  generalize (lg_sl ([.int i, .int n, va_rf f]) ++ List.replicate (3 - (lg_sl ([.int i, .int n, va_rf f])).length) Slot.unset).toArray = ls at hl ⊢
  have hl : lv_has ls 3 [(0, .int i), (1, .int n), (2, va_rf f)] := hl
  refine lv_iload_n hx hb dj_prc_0 rfl (lv_at hl 0 rfl) ?_
  refine lv_if_lt (tgt := 9) hx hb dj_prc_1 (by decide) (fun h => absurd h h0) (fun _ => ?_)
  refine lv_iload_n hx hb dj_prc_4 rfl (lv_at hl 0 rfl) ?_
  refine lv_iload_n hx hb dj_prc_5 rfl (lv_at hl 1 rfl) ?_
  refine lv_icmp_lt (tgt := 16) hx hb dj_prc_6 (by decide) (fun _ => ?_) (fun h => absurd h1 h)
  refine lv_iload_n hx hb dj_prc_16 rfl (lv_at hl 0 rfl) ?_
  exact W.iret hx hb hr (fun t ht hw => ⟨rfl, ht⟩) (fun _ h => by cases h) dj_prc_17
def QcVoid : Array Value → State → Outcome → State → Prop := fun _ st o t => o = .returned none ∧ t.heap = st.heap
set_option maxRecDepth 100000 in
theorem c_chk {i n : Int32} (h0 : ¬ i < 0) (h1 : i < n) : Met l yj_chk (wsOf yj_chk bj_chk 2 none) (rmJ 1 30) (va_Pc [.int i, .int n] (CU n0 D cy ak av L xs)) QcVoid 0 0 (fun _ => False) := by
  refine Met.ofW (cc := bj_chk) (maxL := 2) (ret := none) (by decide) rfl ?_
  intro p e s m args below meth c s₁ B hml hv
  obtain ⟨rfl, hC⟩ := hv
  have hx := B.exec
  have hb := B.bytes
  have hr := B.returns
  have hts := atoms_spec (ws := wsOf yj_chk bj_chk 2 none) B.pre
  have hlocks := B.notSynchronized
  have hown : s.vm.findClass RJ0 = some m.cls := findClass_of_methodNamed B.named
  have hl := lv_entry ([.int i, .int n]) (n := 2) (Nat.le_of_ble_eq_true rfl)
  rw [lg_entry_eq]
  generalize (lg_sl ([.int i, .int n]) ++ List.replicate (2 - (lg_sl ([.int i, .int n])).length) Slot.unset).toArray = ls at hl ⊢
  have hl : lv_has ls 2 [(0, .int i), (1, .int n)] := hl
  obtain ⟨-, -, hZ⟩ := hC.2.2.2.2.1
  refine lv_iload_n hx hb dj_chk_0 rfl (lv_at hl 0 rfl) ?_
  refine lv_iload_n hx hb dj_chk_1 rfl (lv_at hl 1 rfl) ?_
  have fin : ∀ f : Option Nat, va_Z "jdk/internal/util/Preconditions" "SIOOBE_FORMATTER" "Ljava/util/function/BiFunction;" (va_rf f) (fun z => n0 ≤ z) s s.heap → W p l e (headSpec (wsOf yj_chk bj_chk 2 none) (rmJ 1 30)).room s m [Value.int i, Value.int n].toArray below meth c s.heap [] 0 0 (MQ below QcVoid [Value.int i, Value.int n].toArray s 0 0 (fun _ => False)) (F0 m 2 ls [.int n, .int i]) := by
    intro f hZf
    refine va_gets hx hb hZf va_S.rf hown (hts _ (ws_in _ jw_f1053)) (fun _ h => h) dj_chk_2 ?_
    refine W.callR (W.runS (As := [.int i, .int n, va_rf f]) (rest := []) ⟨hx, hb, hml, hown, hts⟩ (c_prc l n0 D cy ak av L xs f h0 h1) (va_cwS 3 hts (good_ws ws_in (fun w hw => ?_)) rfl rfl rfl (by decide +kernel) ⟨Nat.le_refl _, Nat.le_of_ble_eq_true rfl⟩) ⟨fun a U g mk q => ⟨q.1, q.2.blind⟩, fun U hU hW => ⟨rfl, hC.moved va_S.rf hU hW⟩⟩ rfl rfl hl.1 rfl (lv_room (Nat.le_of_ble_eq_true rfl)) dj_chk_5 ⟨Nat.zero_le _, Nat.zero_le _⟩) ?_
    · rcases List.mem_append.mp hw with hw | hw
      · simp only [List.mem_cons, List.not_mem_nil, or_false] at hw
        rcases hw with rfl | rfl | rfl
        · exact jw_m_prc
        · exact jw_t_prc
        · exact jw_n_3
      · exact ws_sub jw_c_prc w hw
    · refine W.eq (g2 := F0 m 8 ls [.int i]) rfl ?_
      refine lv_pop hx hb dj_chk_8 rfl ?_
      exact W.vret hx hb hr (fun t ht hw => ⟨rfl, ht⟩) (fun _ h => by cases h) dj_chk_9
  rcases hZ with hZ | ⟨t, hZ⟩
  · exact fin none hZ
  · exact fin (some t) hZ
set_option maxRecDepth 100000 in
theorem c_lch {q : Int × List Int} (hq : q ∈ strT) {i : Int} (h0 : 0 ≤ i) (h1 : i < (q.2.length : Int)) (hlen : q.2.length ≤ 100) (hch : 0 ≤ q.2.getD i.toNat 0 ∧ q.2.getD i.toNat 0 ≤ 127) : Met l yj_lch (wsOf yj_lch bj_lch 2 (some .char)) (rmJ 2 60) (va_Pc [.ref (av q.1.toNat), .int (Int32.ofInt i)] (CU n0 D cy ak av L xs)) (QcRead (Int32.ofInt (q.2.getD i.toNat 0))) 0 0 (fun _ => False) := by
  refine Met.ofW (cc := bj_lch) (maxL := 2) (ret := some .char) (by decide) rfl ?_
  intro p e s m args below meth c s₁ B hml hv
  obtain ⟨rfl, hC⟩ := hv
  have hx := B.exec
  have hb := B.bytes
  have hr := B.returns
  have hts := atoms_spec (ws := wsOf yj_lch bj_lch 2 (some .char)) B.pre
  have hlocks := B.notSynchronized
  have hown : s.vm.findClass RJ1 = some m.cls := findClass_of_methodNamed B.named
  have hl := lv_entry ([.ref (av q.1.toNat), .int (Int32.ofInt i)]) (n := 2) (Nat.le_of_ble_eq_true rfl)
  rw [lg_entry_eq]
  generalize (lg_sl ([.ref (av q.1.toNat), .int (Int32.ofInt i)]) ++ List.replicate (2 - (lg_sl ([.ref (av q.1.toNat), .int (Int32.ofInt i)])).length) Slot.unset).toArray = ls at hl ⊢
  have hl : lv_has ls 2 [(0, .ref (av q.1.toNat)), (1, .int (Int32.ofInt i))] := hl
  obtain ⟨hS1, -, -⟩ := hC.2.2.2.2.1
  obtain ⟨-, -, -, h4, -⟩ := hS1 q hq
  have i0 : ¬ Int32.ofInt i < 0 := (clampR h0 (by omega)).1
  have i1 : Int32.ofInt i < Int32.ofNat q.2.length := by rw [← Int32.ofInt_eq_ofNat]; exact (i32_lt ⟨by omega, by omega⟩ ⟨by omega, by omega⟩).mpr h1
  refine lv_iload_n hx hb dj_lch_0 rfl (lv_at hl 1 rfl) ?_
  refine lv_aload_n hx hb dj_lch_1 rfl (lv_at hl 0 rfl) ?_
  refine va_tlen (v := Int32.ofNat q.2.length) hx hb h4 va_S.rf rfl dj_lch_2 ?_
  intro T hT X
  obtain ⟨v, st₀, t, T', L', e0, X', hL', e1, ⟨ev, eh⟩, st⟩ := W.runS (As := [.int (Int32.ofInt i), .int (Int32.ofNat q.2.length)]) (rest := []) (g := F0 m 3 ls [.int (Int32.ofNat q.2.length), .int (Int32.ofInt i)]) ⟨hx, hb, hml, hown, hts⟩ (c_chk l n0 D cy ak av L xs i0 i1) (va_cwS 2 hts (good_ws ws_in (fun w hw => by
      rcases List.mem_append.mp hw with hw | hw
      · simp only [List.mem_cons, List.not_mem_nil, or_false] at hw
        rcases hw with rfl | rfl | rfl
        · exact jw_m_chk
        · exact jw_t_chk
        · exact jw_n_0
      · exact ws_sub jw_c_chk w hw)) rfl rfl rfl (by decide +kernel) ⟨Nat.le_refl _, Nat.le_of_ble_eq_true rfl⟩) ⟨fun a U g mk q => ⟨q.1, q.2.blind⟩, fun U hU hW => ⟨rfl, hC.moved va_S.rf hU hW⟩⟩ rfl rfl hl.1 rfl (lv_room (Nat.le_of_ble_eq_true rfl)) dj_lch_3 ⟨Nat.zero_le _, Nat.zero_le _⟩ T hT X
  cases ev
  have k : W p l e (headSpec (wsOf yj_lch bj_lch 2 (some .char)) (rmJ 2 60)).room s m [Value.ref (av q.1.toNat), Value.int (Int32.ofInt i)].toArray below meth c s.heap [] 0 0 (MQ below (QcRead (Int32.ofInt (q.2.getD i.toNat 0))) [Value.ref (av q.1.toNat), Value.int (Int32.ofInt i)].toArray s 0 0 (fun _ => False)) (F0 m 6 ls []) := by
    refine lv_aload_n hx hb dj_lch_6 rfl (lv_at hl 0 rfl) ?_
    refine lv_iload_n hx hb dj_lch_7 rfl (lv_at hl 1 rfl) ?_
    refine va_tb (v := .int (Int32.ofInt (q.2.getD i.toNat 0))) hx hb h4 va_S.rf (in_i h0 h1 (by omega)) (by rw [clamp_i h0 (by omega)]) dj_lch_8 ?_
    refine lv_sipush (v := 255) hx hb dj_lch_9 (by decide) ?_
    refine lv_iand hx hb dj_lch_12 ?_
    obtain ⟨nn, hnn, enn⟩ : ∃ nn : Nat, nn < 128 ∧ q.2.getD i.toNat 0 = (nn : Int) := ⟨(q.2.getD i.toNat 0).toNat, by omega, by omega⟩
    have key : ∀ nn : Nat, nn < 128 → (Int32.ofInt (nn : Int) &&& 255) = Int32.ofInt (nn : Int) ∧ ((Int32.ofInt (nn : Int)).toUInt32 % 65536).toInt32 = Int32.ofInt (nn : Int) ∧ narrow .char (.int (Int32.ofInt (nn : Int))) = .int (Int32.ofInt (nn : Int)) := by decide +kernel
    obtain ⟨k1, k2, k3⟩ := key nn hnn
    rw [enn, k1]
    refine lv_i2c hx hb dj_lch_13 k2 ?_
    exact W.zret (ty := .char) hx hb hr k3 (fun t ht hw => ⟨rfl, ht⟩) (fun _ h => by cases h) dj_lch_14
  obtain ⟨t2, a1, b1⟩ := k T' (by rw [e1, eh, e0]) (Stand.forget X' (fun q h => (hL' q h).elim))
  exact ⟨t2, st t2 a1, b1⟩
set_option maxRecDepth 100000 in
theorem c_chr {q : Int × List Int} (hq : q ∈ strT) {i : Int} (h0 : 0 ≤ i) (h1 : i < (q.2.length : Int)) (hlen : q.2.length ≤ 100) (hch : 0 ≤ q.2.getD i.toNat 0 ∧ q.2.getD i.toNat 0 ≤ 127) : Met l yj_chr (wsOf yj_chr bj_chr 2 (some .char)) (rmJ 3 100) (va_Pc [.ref (ak q.1.toNat), .int (Int32.ofInt i)] (CU n0 D cy ak av L xs)) (QcRead (Int32.ofInt (q.2.getD i.toNat 0))) 0 0 (fun _ => False) := by
  refine Met.ofW (cc := bj_chr) (maxL := 2) (ret := some .char) (by decide) rfl ?_
  intro p e s m args below meth c s₁ B hml hv
  obtain ⟨rfl, hC⟩ := hv
  have hx := B.exec
  have hb := B.bytes
  have hr := B.returns
  have hts := atoms_spec (ws := wsOf yj_chr bj_chr 2 (some .char)) B.pre
  have hlocks := B.notSynchronized
  have hown : s.vm.findClass RJ0 = some m.cls := findClass_of_methodNamed B.named
  have hl := lv_entry ([.ref (ak q.1.toNat), .int (Int32.ofInt i)]) (n := 2) (Nat.le_of_ble_eq_true rfl)
  rw [lg_entry_eq]
  generalize (lg_sl ([.ref (ak q.1.toNat), .int (Int32.ofInt i)]) ++ List.replicate (2 - (lg_sl ([.ref (ak q.1.toNat), .int (Int32.ofInt i)])).length) Slot.unset).toArray = ls at hl ⊢
  have hl : lv_has ls 2 [(0, .ref (ak q.1.toNat)), (1, .int (Int32.ofInt i))] := hl
  obtain ⟨hS1, -, -⟩ := hC.2.2.2.2.1
  obtain ⟨g1, g2, g3, g4, -⟩ := hS1 q hq
  refine lv_aload_n hx hb dj_chr_0 rfl (lv_at hl 0 rfl) ?_
  obtain ⟨cell, o1, o2, o3, -⟩ := g1
  refine W.callR (W.runV (As := []) (rest := []) ⟨hx, hb, hml, hown, hts⟩ (c_lat l n0 D cy ak av L xs hq) (cwV (C := RJ0) 0 hts (good_ws ws_in (fun w hw => ?_)) rfl rfl rfl (by decide +kernel) ⟨Nat.le_of_ble_eq_true rfl, Nat.le_of_ble_eq_true rfl⟩) ⟨fun a U g mk q => ⟨q.1, q.2.blind⟩, ⟨cell, o1, o2, o3⟩, fun U hU hW => ⟨rfl, hC.moved va_S.rf hU hW⟩⟩ rfl rfl hl.1 rfl (lv_room (Nat.le_of_ble_eq_true rfl)) dj_chr_1 ⟨Nat.zero_le _, Nat.zero_le _⟩) ?_
  · rcases List.mem_append.mp hw with hw | hw
    · simp only [List.mem_cons, List.not_mem_nil, or_false] at hw
      rcases hw with rfl | rfl | rfl | rfl
      · exact jw_m_lat
      · exact jw_i_lat
      · exact jw_s_lat
      · exact jw_n_0
    · exact ws_sub jw_c_lat w hw
  · refine W.eq (g2 := F0 m 4 ls [.int 1]) rfl ?_
    refine lv_if_eq (tgt := 16) hx hb dj_chr_4 (by decide) (fun h => absurd h (by decide)) (fun _ => ?_)
    refine lv_aload_n hx hb dj_chr_7 rfl (lv_at hl 0 rfl) ?_
    refine vk_getf hx hb g3 va_S.rf hown (hts _ (ws_in _ jw_f9)) (fun _ h => h) dj_chr_8 ?_
    refine lv_iload_n hx hb dj_chr_11 rfl (lv_at hl 1 rfl) ?_
    refine W.callR (W.runS (As := [.ref (av q.1.toNat), .int (Int32.ofInt i)]) (rest := []) ⟨hx, hb, hml, hown, hts⟩ (c_lch l n0 D cy ak av L xs hq h0 h1 hlen hch) (va_cwS 2 hts (good_ws ws_in (fun w hw => ?_)) rfl rfl rfl (by decide +kernel) ⟨Nat.le_refl _, Nat.le_of_ble_eq_true rfl⟩) ⟨fun a U g mk q => ⟨q.1, q.2.blind⟩, fun U hU hW => ⟨rfl, hC.moved va_S.rf hU hW⟩⟩ rfl rfl hl.1 rfl (lv_room (Nat.le_of_ble_eq_true rfl)) dj_chr_12 ⟨Nat.zero_le _, Nat.zero_le _⟩) ?_
    · rcases List.mem_append.mp hw with hw | hw
      · simp only [List.mem_cons, List.not_mem_nil, or_false] at hw
        rcases hw with rfl | rfl | rfl
        · exact jw_m_lch
        · exact jw_t_lch
        · exact jw_n_1
      · exact ws_sub jw_c_lch w hw
    · refine W.eq (g2 := F0 m 15 ls [.int (Int32.ofInt (q.2.getD i.toNat 0))]) rfl ?_
      have key : ∀ nn : Nat, nn < 128 → narrow .char (.int (Int32.ofInt (nn : Int))) = .int (Int32.ofInt (nn : Int)) := by decide +kernel
      have k3 := key (q.2.getD i.toNat 0).toNat (by omega)
      rw [Int.toNat_of_nonneg hch.1] at k3
      exact W.zret (ty := .char) hx hb hr k3 (fun t ht hw => ⟨rfl, ht⟩) (fun _ h => by cases h) dj_chr_15
/-- the constants' tables -/
theorem strT_ok : ∀ q ∈ strT, 0 < q.1 ∧ q.2.length ≤ 100 ∧ (strOf (-q.1)) = q.2 ∧ ∀ x ∈ q.2, 0 ≤ x ∧ x ≤ 127 := by decide +kernel
end STRC
