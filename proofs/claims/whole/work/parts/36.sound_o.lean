/-! SOUNDNESS: calls and entries. -/
def yOf (j : Nat) : MethodName := (NM.getD j (yX0_init, cX0_init, none)).1
def bOf (j : Nat) : ByteArray := (NM.getD j (yX0_init, cX0_init, none)).2.1
def rOf (j : Nat) : Option FieldType := (NM.getD j (yX0_init, cX0_init, none)).2.2
def mxOf (P : List mMeth) (j : Nat) : Nat := (mGet P j).2.2.1
def HU (n0 : Nat) (D : va_G) (cy : Int → ClassId) (ak : Nat → Nat) (S : mSh) (M : mMem) (as : List Nat) (H : Heap) : Prop := (as.length : Int) = sN S ∧ MOK S M ∧ va_P D vwCl (wld cy S M as ak) H ∧ va_D (fun q => n0 ≤ q) (wld cy S M as ak)
def Qm (n0 : Nat) (D : va_G) (cy : Int → ClassId) (ak : Nat → Nat) (r : Option mV) (S1 : mSh) (M1 : mMem) (as : List Nat) : Array Value → State → Outcome → State → Prop := fun _ st o t =>
  (∃ bs : List Nat, o = .returned (r.map (enc (as ++ bs) ak)) ∧ (∀ v, r = some v → okv (sN S1) v) ∧ HU n0 D cy ak S1 M1 (as ++ bs) t.heap) ∧ va_F (fun q => n0 ≤ q) st t
def rmD (d mc ms : Nat) : Room := { frames := d + 6, cells := mc, slots := ms, locals := 64 * d + 300 }
theorem popA_inv : ∀ (ts : List Nat) (st acc A st' : List mV), popA ts st acc = some (A, st') → ∃ B : List mV, A = B ++ acc ∧ st = B.reverse ++ st' ∧ B.length = ts.length := by
  intro ts
  induction ts with
  | nil =>
    intro st acc A st' h
    cases h
    exact ⟨[], rfl, rfl, rfl⟩
  | cons t ts ih =>
    intro st acc A st' h
    rcases t with _ | _ | _ | t
    · rcases st with _ | ⟨v, st⟩
      · cases h
      · rcases v with z | z | z | z
        · obtain ⟨B, e1, e2, e3⟩ := ih _ _ _ _ (show popA ts st (vI z :: acc) = some (A, st') from h)
          exact ⟨B ++ [vI z], by rw [e1, List.append_assoc]; rfl, by rw [List.reverse_append, e2]; rfl, by rw [List.length_append, e3]; rfl⟩
        · cases h
        · cases h
        · cases h
    · rcases st with _ | ⟨v, st⟩
      · cases h
      · rcases v with z | z | z | z
        · cases h
        · obtain ⟨B, e1, e2, e3⟩ := ih _ _ _ _ (show popA ts st (vL z :: acc) = some (A, st') from h)
          exact ⟨B ++ [vL z], by rw [e1, List.append_assoc]; rfl, by rw [List.reverse_append, e2]; rfl, by rw [List.length_append, e3]; rfl⟩
        · cases h
        · cases h
    · rcases st with _ | ⟨v, st⟩
      · cases h
      · rcases v with z | z | z | z
        · cases h
        · cases h
        · obtain ⟨B, e1, e2, e3⟩ := ih _ _ _ _ (show popA ts st (vA z :: acc) = some (A, st') from h)
          exact ⟨B ++ [vA z], by rw [e1, List.append_assoc]; rfl, by rw [List.reverse_append, e2]; rfl, by rw [List.length_append, e3]; rfl⟩
        · cases h
    · rcases st with _ | ⟨v, st⟩
      · cases h
      · rcases v with z | z | z | z
        · cases h
        · cases h
        · cases h
        · cases h
/-- no argument is unset -/
theorem popA_set : ∀ (ts : List Nat) (st acc A st' : List mV), popA ts st acc = some (A, st') → (∀ v ∈ acc, v ≠ vU) → ∀ v ∈ A, v ≠ vU := by
  intro ts
  induction ts with
  | nil =>
    intro st acc A st' h ha
    cases h
    exact ha
  | cons t ts ih =>
    intro st acc A st' h ha
    rcases t with _ | _ | _ | t
    · rcases st with _ | ⟨v, st⟩
      · cases h
      · rcases v with z | z | z | z
        · exact ih _ _ _ _ (show popA ts st (vI z :: acc) = some (A, st') from h) (fun v hv => (List.mem_cons.mp hv).elim (fun e => by rw [e]; exact fun q => by cases q) (ha v))
        · cases h
        · cases h
        · cases h
    · rcases st with _ | ⟨v, st⟩
      · cases h
      · rcases v with z | z | z | z
        · cases h
        · exact ih _ _ _ _ (show popA ts st (vL z :: acc) = some (A, st') from h) (fun v hv => (List.mem_cons.mp hv).elim (fun e => by rw [e]; exact fun q => by cases q) (ha v))
        · cases h
        · cases h
    · rcases st with _ | ⟨v, st⟩
      · cases h
      · rcases v with z | z | z | z
        · cases h
        · cases h
        · exact ih _ _ _ _ (show popA ts st (vA z :: acc) = some (A, st') from h) (fun v hv => (List.mem_cons.mp hv).elim (fun e => by rw [e]; exact fun q => by cases q) (ha v))
        · cases h
    · rcases st with _ | ⟨v, st⟩
      · cases h
      · rcases v with z | z | z | z
        · cases h
        · cases h
        · cases h
        · cases h
/-! the locals of a call -/
theorem enc_c1 (as : List Nat) (ak : Nat → Nat) {v : mV} (h : c1 v = true) : ¬ (enc as ak v).category = 2 := by rw [enc_cat as ak h]; decide
theorem iniA_args (as : List Nat) (ak : Nat → Nat) : ∀ (A : List mV) (k : Nat), (∀ v ∈ A, v ≠ vU) → ∀ i v, (iniA A)[i]? = some v → v ≠ vU → (k + i, enc as ak v) ∈ lv_args k (A.map (enc as ak)) := by
  intro A
  induction A with
  | nil => intro k hA i v h; simp [iniA] at h
  | cons w A ih =>
    intro k hA i v h hv
    have hA' : ∀ v ∈ A, v ≠ vU := fun v hv => hA v (List.mem_cons_of_mem _ hv)
    rw [List.map_cons, lv_args]
    match w, hA, h with
    | .inr (.inl x), _, h =>
      have e2 : (enc as ak (.inr (.inl x))).category = 2 := rfl
      rw [if_pos e2]
      match i, h with
      | 0, h => cases h; exact List.mem_cons_self
      | 1, h => cases h; exact absurd rfl hv
      | i + 2, h =>
        have h : (iniA A)[i]? = some v := h
        have := ih (k + 2) hA' i v h hv
        rw [show k + (i + 2) = k + 2 + i by omega]
        exact List.mem_cons_of_mem _ this
    | .inl x, _, h =>
      have e2 : ¬ (enc as ak (.inl x)).category = 2 := enc_c1 as ak rfl
      rw [if_neg e2]
      match i, h with
      | 0, h => cases h; exact List.mem_cons_self
      | i + 1, h =>
        have h : (iniA A)[i]? = some v := h
        have := ih (k + 1) hA' i v h hv
        rw [show k + (i + 1) = k + 1 + i by omega]
        exact List.mem_cons_of_mem _ this
    | .inr (.inr (.inl x)), _, h =>
      have e2 : ¬ (enc as ak (.inr (.inr (.inl x)))).category = 2 := enc_c1 as ak rfl
      rw [if_neg e2]
      match i, h with
      | 0, h => cases h; exact List.mem_cons_self
      | i + 1, h =>
        have h : (iniA A)[i]? = some v := h
        have := ih (k + 1) hA' i v h hv
        rw [show k + (i + 1) = k + 1 + i by omega]
        exact List.mem_cons_of_mem _ this
    | .inr (.inr (.inr u)), hA, _ => exact absurd rfl (hA _ List.mem_cons_self)
theorem iniA_len (as : List Nat) (ak : Nat → Nat) : ∀ (A : List mV), (∀ v ∈ A, v ≠ vU) → (iniA A).length = (lg_sl (A.map (enc as ak))).length := by
  intro A
  induction A with
  | nil => intro _; rfl
  | cons w A ih =>
    intro hA
    have hA' : ∀ v ∈ A, v ≠ vU := fun v hv => hA v (List.mem_cons_of_mem _ hv)
    have := ih hA'
    rw [List.map_cons]
    match w, hA with
    | .inr (.inl x), _ =>
      have e2 : lg_sl (enc as ak (.inr (.inl x)) :: A.map (enc as ak)) = [.val (enc as ak (.inr (.inl x))), .second] ++ lg_sl (A.map (enc as ak)) := by
        have : (enc as ak (.inr (.inl x))).category = 2 := rfl
        simp [lg_sl, this]
      rw [e2]; simp [iniA, this]
    | .inl x, _ =>
      have e2 : lg_sl (enc as ak (.inl x) :: A.map (enc as ak)) = [.val (enc as ak (.inl x))] ++ lg_sl (A.map (enc as ak)) := by
        have : ¬ (enc as ak (.inl x)).category = 2 := enc_c1 as ak rfl
        simp [lg_sl, this]
      rw [e2]; simp [iniA, this]
    | .inr (.inr (.inl x)), _ =>
      have e2 : lg_sl (enc as ak (.inr (.inr (.inl x))) :: A.map (enc as ak)) = [.val (enc as ak (.inr (.inr (.inl x))))] ++ lg_sl (A.map (enc as ak)) := by
        have : ¬ (enc as ak (.inr (.inr (.inl x)))).category = 2 := enc_c1 as ak rfl
        simp [lg_sl, this]
      rw [e2]; simp [iniA, this]
    | .inr (.inr (.inr u)), hA => exact absurd rfl (hA _ List.mem_cons_self)
theorem iniA_ok {n : Int} : ∀ (A : List mV), (∀ v ∈ A, okv n v) → ∀ v ∈ iniA A, okv n v := by
  intro A
  induction A with
  | nil => intro _ v hv; cases hv
  | cons w A ih =>
    intro hA v hv
    have hA' : ∀ v ∈ A, okv n v := fun v hv => hA v (List.mem_cons_of_mem _ hv)
    match w, hA, hv with
    | .inr (.inl x), hA, hv =>
      rcases List.mem_cons.mp (show v ∈ vL x :: vU :: iniA A from hv) with rfl | hv
      · exact hA _ List.mem_cons_self
      · rcases List.mem_cons.mp hv with rfl | hv
        · exact trivial
        · exact ih hA' v hv
    | .inl x, hA, hv =>
      rcases List.mem_cons.mp (show v ∈ vI x :: iniA A from hv) with rfl | hv
      · exact hA _ List.mem_cons_self
      · exact ih hA' v hv
    | .inr (.inr (.inl x)), hA, hv =>
      rcases List.mem_cons.mp (show v ∈ vA x :: iniA A from hv) with rfl | hv
      · exact hA _ List.mem_cons_self
      · exact ih hA' v hv
    | .inr (.inr (.inr u)), hA, hv =>
      rcases List.mem_cons.mp (show v ∈ .inr (.inr (.inr u)) :: iniA A from hv) with rfl | hv
      · exact trivial
      · exact ih hA' v hv
theorem gdb_ne {ml : List mV} {i : Nat} (h : gdb ml i = true) : ml.getD i vU ≠ vU := by
  intro e
  unfold gdb at h
  rw [e] at h
  cases h
theorem entry_LR {as : List Nat} {ak : Nat → Nat} {n : Int} {nL : Nat} {A : List mV} {ls : Array Slot} (hA : ∀ v ∈ A, v ≠ vU) (hok : ∀ v ∈ A, okv n v) (hlen : (iniA A).length ≤ nL) (h : lv_has ls nL (lv_args 0 (A.map (enc as ak)))) : LR as ak n ls nL (iniL A nL) := by
  have hl : (iniL A nL).length = nL := by unfold iniL; rw [List.length_append, List.length_replicate]; omega
  refine ⟨⟨h.1, h.2.1, fun q hq => ?_⟩, hl, fun v hv => ?_⟩
  · obtain ⟨h1, h2, h3⟩ := mem_lvl.mp hq
    have hne := gdb_ne h2
    have hget : (iniL A nL)[q.1]? = some ((iniL A nL).getD q.1 vU) := by
      rw [List.getD_eq_getElem?_getD, List.getElem?_eq_getElem h1]; rfl
    generalize (iniL A nL).getD q.1 vU = v at hne hget h3
    unfold iniL at hget
    by_cases hq1 : q.1 < (iniA A).length
    · rw [List.getElem?_append_left hq1] at hget
      have := iniA_args as ak A 0 hA q.1 v hget hne
      rw [Nat.zero_add, ← h3] at this
      exact h.2.2 q this
    · rw [List.getElem?_append_right (by omega)] at hget
      exact absurd (List.eq_of_mem_replicate (List.mem_of_getElem? hget)) hne
  · unfold iniL at hv
    rcases List.mem_append.mp hv with hv | hv
    · exact iniA_ok A hok v hv
    · rw [List.eq_of_mem_replicate hv]; exact trivial
section PSO
variable {p : Program} {l : Launch} {e : Env} {R : Room} {s : State} {m : MethodId} {args : Array Value} {below : List Frame} {meth : Method} {c : Code} {H : Heap} {locs : List Loc} {cells slots mc ms : Nat} {Q : State → Prop}
variable {pc : Nat} {as : List Nat} {ak : Nat → Nat} {n0 : Nat} {rls : Array Slot} {D : va_G} {cy : Int → ClassId} {r : Option mV} {S1 : mSh} {M1 : mMem} {st0 rest : List Value} {a : Array Value}
theorem callW (hr : CallRun p l e R s m args below meth c H locs cells slots mc ms (F0 m pc rls st0) rest (Qm n0 D cy ak r S1 M1 as a) (fun q => n0 ≤ q)) (hS : va_S (fun q => n0 ≤ q) s.heap H locs)
    (kk : ∀ bs H1 locs1, RW n0 D cy ak s S1 M1 (as ++ bs) H1 locs1 → (∀ v, r = some v → okv (sN S1) v) → W p l e R s m args below meth c H1 locs1 (cells + mc) (slots + ms) Q (F0 m (pc + 3) rls ((r.map (enc (as ++ bs) ak)).toList ++ rest))) : W p l e R s m args below meth c H locs cells slots Q (F0 m pc rls st0) := by
  intro T hT X
  obtain ⟨v, st₀, t, T', L, e0, X', hL, e1, ⟨⟨bs, ev, hok, g1, g2, g3, g4⟩, hz, hk⟩, st⟩ := hr T hT X
  cases ev
  rw [e0] at hz hk
  obtain ⟨t2, a1, b1⟩ := kk bs T'.heap (locs ++ L) ⟨g1, g2, by rw [e1]; exact g3, g4, ⟨Nat.le_trans hS.1 (by rw [e1]; exact hz), fun q h1 h2 => by rw [e1, hk q (Nat.lt_of_lt_of_le h1 hS.1) h2]; exact hS.2.1 q h1 h2, fun q hq => by
      rcases List.mem_append.mp hq with h | h
      · exact hS.2.2 q h
      · exact hL q h⟩⟩ hok T' rfl X'
  exact ⟨t2, st t2 a1, b1⟩
end PSO
