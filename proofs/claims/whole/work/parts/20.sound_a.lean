/-! SOUNDNESS, first piece: values, locals, instructions that leave the heap. -/
def encR (as : List Nat) (ak : Nat → Nat) (a : Int) : Value := if a = 0 then .null else if 0 < a then .ref (as.getD (a - 1).toNat 0) else .ref (ak (-a).toNat)
def enc (as : List Nat) (ak : Nat → Nat) : mV → Value
  | .inl x => .int (Int32.ofInt x)
  | .inr (.inl x) => .long (Int64.ofInt x)
  | .inr (.inr (.inl a)) => encR as ak a
  | .inr (.inr (.inr _)) => .null
def okv (n : Int) : mV → Prop
  | .inl x => R32 x
  | .inr (.inl x) => R64 x
  | .inr (.inr (.inl a)) => a ≤ n
  | .inr (.inr (.inr _)) => True
theorem okv.mono {n n' : Int} (h : n ≤ n') {v : mV} (hv : okv n v) : okv n' v := by
  match v, hv with
  | .inl _, hv => exact hv
  | .inr (.inl _), hv => exact hv
  | .inr (.inr (.inl a)), hv => exact Int.le_trans (show a ≤ n from hv) h
  | .inr (.inr (.inr _)), _ => exact trivial
theorem encR_app {as bs : List Nat} {ak : Nat → Nat} {a : Int} (h : a ≤ (as.length : Int)) : encR (as ++ bs) ak a = encR as ak a := by
  unfold encR
  by_cases h0 : a = 0
  · rw [if_pos h0, if_pos h0]
  · rw [if_neg h0, if_neg h0]
    by_cases h1 : 0 < a
    · rw [if_pos h1, if_pos h1, List.getD_eq_getElem?_getD, List.getD_eq_getElem?_getD, List.getElem?_append_left (by omega)]
    · rw [if_neg h1, if_neg h1]
theorem enc_app {as bs : List Nat} {ak : Nat → Nat} {v : mV} (h : okv (as.length : Int) v) : enc (as ++ bs) ak v = enc as ak v := by
  match v, h with
  | .inl _, _ => rfl
  | .inr (.inl _), _ => rfl
  | .inr (.inr (.inl a)), h => exact encR_app h
  | .inr (.inr (.inr _)), _ => rfl
theorem encR_cat (as : List Nat) (ak : Nat → Nat) (a : Int) : (encR as ak a).category = 1 := by
  unfold encR
  split
  · rfl
  · split <;> rfl
theorem enc_cat (as : List Nat) (ak : Nat → Nat) {v : mV} (h : c1 v = true) : (enc as ak v).category = 1 := by
  match v, h with
  | .inl _, _ => rfl
  | .inr (.inr (.inl a)), _ => exact encR_cat as ak a
theorem encR_or (as : List Nat) (ak : Nat → Nat) (a : Int) : encR as ak a = .null ∨ ∃ x : Nat, encR as ak a = .ref x := by
  unfold encR
  split
  · exact Or.inl rfl
  · split
    · exact Or.inr ⟨_, rfl⟩
    · exact Or.inr ⟨_, rfl⟩
theorem stw_enc (as : List Nat) (ak : Nat → Nat) : ∀ (st : List mV), ((st.map (enc as ak)).map fun v => v.category).sum ≤ stw st := by
  intro st
  induction st with
  | nil => exact Nat.le_refl _
  | cons v st ih =>
    rw [List.map_cons, List.map_cons, List.sum_cons]
    cases hc : c1 v with
    | true =>
      have e : stw (v :: st) = 1 + stw st := by rw [stw, hc]
      rw [enc_cat as ak hc, e]; omega
    | false =>
      have e : stw (v :: st) = 2 + stw st := by rw [stw, hc]
      rw [e]
      rcases lv_cat (enc as ak v) with q | q <;> omega
/-- which locals are good: an unset one isn't, a long is while the local behind it is unset -/
def gdb (ml : List mV) (i : Nat) : Bool := match ml.getD i vU with
  | .inl _ => true
  | .inr (.inl _) => match ml.getD (i + 1) (vI 0) with
    | .inr (.inr (.inr _)) => true
    | _ => false
  | .inr (.inr (.inl _)) => true
  | .inr (.inr (.inr _)) => false
def lvl (as : List Nat) (ak : Nat → Nat) (ml : List mV) : List (Nat × Value) := (List.range ml.length).filterMap (fun i => if gdb ml i = true then some (i, enc as ak (ml.getD i vU)) else none)
theorem mem_lvl {as : List Nat} {ak : Nat → Nat} {ml : List mV} {q : Nat × Value} : q ∈ lvl as ak ml ↔ q.1 < ml.length ∧ gdb ml q.1 = true ∧ q.2 = enc as ak (ml.getD q.1 vU) := by
  unfold lvl
  rw [List.mem_filterMap]
  constructor
  · rintro ⟨i, hi, h⟩
    by_cases hg : gdb ml i = true
    · rw [if_pos hg] at h
      cases h
      exact ⟨List.mem_range.mp hi, hg, rfl⟩
    · rw [if_neg hg] at h; cases h
  · rintro ⟨h1, h2, h3⟩
    refine ⟨q.1, List.mem_range.mpr h1, ?_⟩
    rw [if_pos h2, ← h3]
def LR (as : List Nat) (ak : Nat → Nat) (n : Int) (ls : Array Slot) (nL : Nat) (ml : List mV) : Prop := lv_has ls nL (lvl as ak ml) ∧ ml.length = nL ∧ ∀ v ∈ ml, okv n v
theorem getD_mem {ml : List mV} {i : Nat} {v : mV} (h : ml.getD i vU = v) (hv : v ≠ vU) : i < ml.length ∧ v ∈ ml := by
  rw [List.getD_eq_getElem?_getD] at h
  cases hi : ml[i]? with
  | none => rw [hi] at h; exact absurd h.symm hv
  | some w =>
    rw [hi] at h
    simp only [Option.getD_some] at h
    subst h
    exact ⟨(List.getElem?_eq_some_iff.mp hi).1, List.mem_of_getElem? hi⟩
theorem LR.at {as : List Nat} {ak : Nat → Nat} {n : Int} {ls : Array Slot} {nL : Nat} {ml : List mV} (h : LR as ak n ls nL ml) {i : Nat} {v : mV} (hv : ml.getD i vU = v) (hg : gdb ml i = true) (hn : v ≠ vU) : ls[i]? = some (.val (enc as ak v)) := by
  refine h.1.2.2 (i, enc as ak v) (mem_lvl.mpr ⟨(getD_mem hv hn).1, hg, ?_⟩)
  rw [hv]
theorem LR.ok {as : List Nat} {ak : Nat → Nat} {n : Int} {ls : Array Slot} {nL : Nat} {ml : List mV} (h : LR as ak n ls nL ml) {i : Nat} {v : mV} (hv : ml.getD i vU = v) (hn : v ≠ vU) : okv n v := h.2.2 v (getD_mem hv hn).2
theorem LR.moved {as bs : List Nat} {ak : Nat → Nat} {n n' : Int} {ls : Array Slot} {nL : Nat} {ml : List mV} (h : LR as ak n ls nL ml) (hn : n ≤ (as.length : Int)) (hn' : n ≤ n') : LR (as ++ bs) ak n' ls nL ml := by
  refine ⟨⟨h.1.1, h.1.2.1, fun q hq => ?_⟩, h.2.1, fun v hv => (h.2.2 v hv).mono hn'⟩
  obtain ⟨h1, h2, h3⟩ := mem_lvl.mp hq
  refine h.1.2.2 q (mem_lvl.mpr ⟨h1, h2, ?_⟩)
  rw [h3]
  refine enc_app ?_
  rw [List.getD_eq_getElem?_getD, List.getElem?_eq_getElem h1]
  exact (h.2.2 _ (List.getElem_mem h1)).mono hn
theorem getD_set_ne {ml : List mV} {i k : Nat} {v d : mV} (h : k ≠ i) : (ml.set i v).getD k d = ml.getD k d := by
  rw [List.getD_eq_getElem?_getD, List.getD_eq_getElem?_getD, List.getElem?_set_ne (fun e => h e.symm)]
theorem getD_set_eq {ml : List mV} {i : Nat} {v d : mV} (h : i < ml.length) : (ml.set i v).getD i d = v := by
  rw [List.getD_eq_getElem?_getD, List.getElem?_set_self h]; rfl
/-- a good local of the new row is a good one of the old row, or the new one -/
theorem gdb_set {ml : List mV} {i k : Nat} {v : mV} (hi : i < ml.length) (hv : v ≠ vU) (hk : k ≠ i) (h : gdb (ml.set i v) k = true) : gdb ml k = true ∧ ¬ (k + 1 = i ∧ c1 (ml.getD k vU) = false) := by
  unfold gdb at h ⊢
  rw [getD_set_ne hk] at h
  match hm : ml.getD k vU, h with
  | .inl _, _ => exact ⟨rfl, fun q => by simp [c1] at q⟩
  | .inr (.inr (.inl _)), _ => exact ⟨rfl, fun q => by simp [c1] at q⟩
  | .inr (.inl x), h =>
    by_cases hk1 : k + 1 = i
    · rw [hk1] at h
      dsimp only at h
      rw [getD_set_eq hi] at h
      match v, hv, h with
      | .inr (.inr (.inr u)), hv, _ => exact absurd rfl hv
    · dsimp only at h
      rw [getD_set_ne hk1] at h
      exact ⟨h, fun q => hk1 q.1⟩
theorem enc_cat2 (as : List Nat) (ak : Nat → Nat) {v : mV} (h : ((enc as ak v).category == 2) = true) : c1 v = false := by
  cases hc : c1 v with
  | false => rfl
  | true => rw [enc_cat as ak hc] at h; cases h
theorem LR.set1 {as : List Nat} {ak : Nat → Nat} {n : Int} {ls ls' : Array Slot} {nL : Nat} {ml : List mV} {i : Nat} {v : mV} (h : LR as ak n ls nL ml) (hi : i < ml.length) (hv : c1 v = true) (hok : okv n v)
    (h' : lv_has ls' nL ((i, enc as ak v) :: (lvl as ak ml).filter (fun q => !(q.1 == i) && !(q.1 + 1 == i && q.2.category == 2)))) : LR as ak n ls' nL (st1 ml i v) := by
  have hv0 : v ≠ vU := fun e => by rw [e] at hv; cases hv
  refine ⟨⟨h'.1, h'.2.1, fun q hq => ?_⟩, by rw [st1, List.length_set]; exact h.2.1, fun w hw => ?_⟩
  · obtain ⟨h1, h2, h3⟩ := mem_lvl.mp hq
    rw [st1] at h1 h2 h3
    rw [List.length_set] at h1
    by_cases hk : q.1 = i
    · have e : q = (i, enc as ak v) := by
        refine Prod.ext hk ?_
        rw [h3, hk, getD_set_eq hi]
      rw [e]
      exact h'.2.2 _ List.mem_cons_self
    · obtain ⟨g1, g2⟩ := gdb_set hi hv0 hk h2
      rw [getD_set_ne hk] at h3
      refine h'.2.2 q (List.mem_cons_of_mem _ (List.mem_filter.mpr ⟨mem_lvl.mpr ⟨h1, g1, h3⟩, ?_⟩))
      simp only [Bool.and_eq_true, Bool.not_eq_true', beq_eq_false_iff_ne, ne_eq, Bool.and_eq_false_iff]
      refine ⟨hk, ?_⟩
      by_cases e1 : q.1 + 1 = i
      · right
        intro e2
        exact g2 ⟨e1, enc_cat2 as ak (by rw [← h3]; simp [e2])⟩
      · exact Or.inl e1
  · rw [st1] at hw
    rcases List.mem_or_eq_of_mem_set hw with hw | rfl
    · exact h.2.2 w hw
    · exact hok
theorem LR.set2 {as : List Nat} {ak : Nat → Nat} {n : Int} {ls ls' : Array Slot} {nL : Nat} {ml : List mV} {i : Nat} {x : Int} (h : LR as ak n ls nL ml) (hi : i + 1 < ml.length) (hok : R64 x)
    (h' : lv_has ls' nL ((i, Value.long (Int64.ofInt x)) :: (lvl as ak ml).filter (fun q => !(q.1 == i) && (!(q.1 == i + 1) && !(q.1 + 1 == i && q.2.category == 2))))) : LR as ak n ls' nL (st2 ml i (vL x)) := by
  have hl : (ml.set (i + 1) vU).length = ml.length := List.length_set
  refine ⟨⟨h'.1, h'.2.1, fun q hq => ?_⟩, by rw [st2, List.length_set, List.length_set]; exact h.2.1, fun w hw => ?_⟩
  · obtain ⟨h1, h2, h3⟩ := mem_lvl.mp hq
    rw [st2] at h1 h2 h3
    rw [List.length_set, hl] at h1
    by_cases hk : q.1 = i
    · have e : q = (i, Value.long (Int64.ofInt x)) := by
        refine Prod.ext hk ?_
        rw [h3, hk, getD_set_eq (by omega)]; rfl
      rw [e]
      exact h'.2.2 _ List.mem_cons_self
    · obtain ⟨g1, g2⟩ := gdb_set (by omega) (fun e => by cases e) hk h2
      rw [getD_set_ne hk] at h3
      by_cases hk2 : q.1 = i + 1
      · unfold gdb at g1
        rw [hk2, getD_set_eq hi] at g1
        cases g1
      · rw [getD_set_ne hk2] at h3
        have g3 : gdb ml q.1 = true := by
          unfold gdb at g1 ⊢
          rw [getD_set_ne hk2] at g1
          by_cases hk3 : q.1 + 1 = i + 1
          · omega
          · rw [getD_set_ne hk3] at g1; exact g1
        rw [getD_set_ne hk2] at g2
        refine h'.2.2 q (List.mem_cons_of_mem _ (List.mem_filter.mpr ⟨mem_lvl.mpr ⟨h1, g3, h3⟩, ?_⟩))
        simp only [Bool.and_eq_true, Bool.not_eq_true', beq_eq_false_iff_ne, ne_eq, Bool.and_eq_false_iff]
        refine ⟨hk, hk2, ?_⟩
        by_cases e1 : q.1 + 1 = i
        · right
          intro e2
          exact g2 ⟨e1, enc_cat2 as ak (by rw [← h3]; simp [e2])⟩
        · exact Or.inl e1
  · rw [st2] at hw
    rcases List.mem_or_eq_of_mem_set hw with hw | rfl
    · rcases List.mem_or_eq_of_mem_set hw with hw | rfl
      · exact h.2.2 w hw
      · exact trivial
    · exact hok
/-! numbers -/
theorem i32_t {x : Int} (h : R32 x) : (Int32.ofInt x).toInt = x := Int32.toInt_ofInt_of_le (by have := h.1; omega) (by have := h.2; omega)
theorem i64_t {x : Int} (h : R64 x) : (Int64.ofInt x).toInt = x := Int64.toInt_ofInt_of_le (by have := h.1; omega) (by have := h.2; omega)
theorem i32_lt {x y : Int} (hx : R32 x) (hy : R32 y) : Int32.ofInt x < Int32.ofInt y ↔ x < y := by rw [Int32.lt_iff_toInt_lt, i32_t hx, i32_t hy]
theorem i32_le {x y : Int} (hx : R32 x) (hy : R32 y) : Int32.ofInt x ≤ Int32.ofInt y ↔ x ≤ y := by rw [Int32.le_iff_toInt_le, i32_t hx, i32_t hy]
theorem i32_eq {x y : Int} (hx : R32 x) (hy : R32 y) : Int32.ofInt x = Int32.ofInt y ↔ x = y := by rw [← Int32.toInt_inj, i32_t hx, i32_t hy]
theorem i64_eq {x y : Int} (hx : R64 x) (hy : R64 y) : Int64.ofInt x = Int64.ofInt y ↔ x = y := by rw [← Int64.toInt_inj, i64_t hx, i64_t hy]
theorem i64_lt {x y : Int} (hx : R64 x) (hy : R64 y) : Int64.ofInt x < Int64.ofInt y ↔ x < y := by rw [Int64.lt_iff_toInt_lt, i64_t hx, i64_t hy]
theorem r32_rng (x : Int32) : R32 x.toInt := ⟨Int32.le_toInt x, by have := Int32.toInt_lt x; omega⟩
theorem r32_0 : R32 0 := ⟨by decide, by decide⟩
theorem i32_0 : Int32.ofInt 0 = 0 := rfl
theorem lcp_enc {x y : Int} (hx : R64 x) (hy : R64 y) : lg_cmp (Int64.ofInt x) (Int64.ofInt y) = Int32.ofInt (lcp x y) := by
  unfold lg_cmp lcp
  simp only [gt_iff_lt, i64_lt hy hx, i64_eq hx hy]
  by_cases h1 : y < x
  · rw [if_pos h1, if_neg (by omega), if_neg (by omega)]; rfl
  · rw [if_neg h1]
    by_cases h2 : x = y
    · rw [if_pos h2, if_neg (by omega), if_pos h2]; rfl
    · rw [if_neg h2, if_pos (by omega)]; rfl
theorem lcp_rng (x y : Int) : R32 (lcp x y) := by
  unfold lcp
  split
  · exact ⟨by decide, by decide⟩
  · split <;> exact ⟨by decide, by decide⟩
theorem w32_rng (x : Int) : R32 (w32 x) := by
  unfold w32
  constructor <;> (rw [Int.bmod_def]; omega)
theorem w32_enc (x : Int) : (Int64.ofInt x).toInt32 = Int32.ofInt (w32 x) := by
  rw [Int64.toInt32_ofInt, ← Int32.toInt_inj, i32_t (w32_rng x), Int32.toInt_ofInt]; rfl
theorem i32_div {x y : Int} (hx : R32 x) (hy : R32 y) : Int32.ofInt (x.tdiv y) = Int32.ofInt x / Int32.ofInt y := Int32.ofInt_tdiv (by have := hx.1; simpa using this) (Int.le_trans hx.2 (by decide)) (by have := hy.1; simpa using this) (Int.le_trans hy.2 (by decide))
theorem i64_div {x y : Int} (hx : R64 x) (hy : R64 y) : Int64.ofInt (x.tdiv y) = Int64.ofInt x / Int64.ofInt y := Int64.ofInt_tdiv (by have := hx.1; simpa using this) (Int.le_trans hx.2 (by decide)) (by have := hy.1; simpa using this) (Int.le_trans hy.2 (by decide))
theorem i32_rem {x y : Int} (hx : R32 x) (hy : R32 y) : Int32.ofInt x - Int32.ofInt x / Int32.ofInt y * Int32.ofInt y = Int32.ofInt (x.tmod y) := by
  rw [← i32_div hx hy, ← Int32.ofInt_mul, ← Int32.ofInt_sub, Int.tmod_def, Int.mul_comm]
theorem i64_rem {x y : Int} (hx : R64 x) (hy : R64 y) : Int64.ofInt x - Int64.ofInt x / Int64.ofInt y * Int64.ofInt y = Int64.ofInt (x.tmod y) := by
  rw [← i64_div hx hy, ← Int64.ofInt_mul, ← Int64.ofInt_sub, Int.tmod_def, Int.mul_comm]
theorem i32_long {x : Int} (h : R32 x) : (Int32.ofInt x).toInt64 = Int64.ofInt x := by
  rw [← Int64.toInt_inj, Int32.toInt_toInt64, i32_t h, i64_t ⟨by have := h.1; omega, by have := h.2; omega⟩]
theorem tmod_abs_lt {x y : Int} (h0 : y ≠ 0) : (x.tmod y).natAbs < y.natAbs := by
  rw [Int.natAbs_tmod]; exact Nat.mod_lt _ (by omega)
theorem tmod_R32 {x y : Int} (hy : R32 y) (h0 : y ≠ 0) : R32 (x.tmod y) := by
  have h2 := tmod_abs_lt (x := x) h0
  obtain ⟨b1, b2⟩ := hy
  constructor <;> omega
theorem tmod_R64 {x y : Int} (hy : R64 y) (h0 : y ≠ 0) : R64 (x.tmod y) := by
  have h2 := tmod_abs_lt (x := x) h0
  obtain ⟨b1, b2⟩ := hy
  constructor <;> omega
