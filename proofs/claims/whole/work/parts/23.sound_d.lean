/-! SOUNDNESS, fourth piece: the world of cells out of the mini memory. -/
def optR (as : List Nat) (ak : Nat → Nat) (a : Int) : Option Nat := if a = 0 then none else if 0 < a then some (as.getD (a - 1).toNat 0) else some (ak (-a).toNat)
theorem rf_optR (as : List Nat) (ak : Nat → Nat) (a : Int) : va_rf (optR as ak a) = encR as ak a := by
  unfold optR encR
  split
  · rfl
  · split <;> rfl
theorem optR_app {as bs : List Nat} {ak : Nat → Nat} {a : Int} (h : a ≤ (as.length : Int)) : optR (as ++ bs) ak a = optR as ak a := by
  unfold optR
  by_cases h0 : a = 0
  · rw [if_pos h0, if_pos h0]
  · rw [if_neg h0, if_neg h0]
    by_cases h1 : 0 < a
    · rw [if_pos h1, if_pos h1, List.getD_eq_getElem?_getD, List.getD_eq_getElem?_getD, List.getElem?_append_left (by omega)]
    · rw [if_neg h1, if_neg h1]
/-- what a field holds: by its tag -/
def fval (S : mSh) (r : Int → Int) (as : List Nat) (ak : Nat → Nat) (a : Int) (q : Nat × Int) (k : Nat) : Value := match q.1 with
  | 0 => .int (Int32.ofInt (r k))
  | 1 => .long (Int64.ofInt (r k))
  | 2 => encR as ak (r k)
  | 3 => if sF S a k = 1 then encR as ak (a + q.2) else .null
  | _ => .int (Int32.ofInt (r k))
def fldL (S : mSh) (r : Int → Int) (as : List Nat) (ak : Nat → Nat) (a : Int) : List Value := (List.range (fTab (sK S a)).length).map (fun k => fval S r as ak a ((fTab (sK S a)).getD k (9, 0)) k)
def cont (kd : Int) (r : Int → Int) (as : List Nat) (ak : Nat → Nat) : (Nat → Int32) ⊕ (Nat → Int64) ⊕ (Nat → UInt32) ⊕ (Nat → UInt64) ⊕ (Nat → Option Nat) :=
  if kd = 20 ∨ kd = 22 then .inl (fun i => Int32.ofInt (r i)) else if kd = 21 then .inr (.inl (fun i => Int64.ofInt (r i))) else .inr (.inr (.inr (.inr (fun i => optR as ak (r i)))))
def cel (cy : Int → ClassId) (S : mSh) (M : mMem) (as : List Nat) (ak : Nat → Nat) (a : Int) : va_E := if sK S a < 20 then .inr ((sK S a).toNat, fldL S (M a) as ak a) else .inl (cy (sK S a), (sL S a).toNat, cont (sK S a) (M a) as ak)
def wld (cy : Int → ClassId) (S : mSh) (M : mMem) (as : List Nat) (ak : Nat → Nat) : va_W := (List.range as.length).map (fun k => (as.getD k 0, cel cy S M as ak ((k : Int) + 1)))
theorem wld_at {cy : Int → ClassId} {S : mSh} {M : mMem} {as : List Nat} {ak : Nat → Nat} {a : Int} (h1 : 1 ≤ a) (h2 : a ≤ (as.length : Int)) : (wld cy S M as ak)[(a - 1).toNat]? = some (as.getD (a - 1).toNat 0, cel cy S M as ak a) := by
  unfold wld
  rw [List.getElem?_map, List.getElem?_range (by omega)]
  have e : (((a - 1).toNat : Nat) : Int) + 1 = a := by omega
  show some (as.getD (a - 1).toNat 0, cel cy S M as ak ((((a - 1).toNat : Nat) : Int) + 1)) = _
  rw [e]
theorem encR_pos {as : List Nat} {ak : Nat → Nat} {a : Int} (h : 1 ≤ a) : encR as ak a = .ref (as.getD (a - 1).toNat 0) := by
  unfold encR
  rw [if_neg (by omega), if_pos (by omega)]
theorem map_range_set {β : Type} {n k : Nat} {f g : Nat → β} (hk : k < n) (h : ∀ i, i ≠ k → f i = g i) : (List.range n).map f = ((List.range n).map g).set k (f k) := by
  refine List.ext_getElem? fun i => ?_
  by_cases hi : i = k
  · subst hi
    rw [List.getElem?_set_self (by simpa using hk), List.getElem?_map, List.getElem?_range hk]; rfl
  · rw [List.getElem?_set_ne (fun e => hi e.symm), List.getElem?_map, List.getElem?_map]
    cases hr : (List.range n)[i]? with
    | none => rfl
    | some j =>
      have : j = i := by
        rw [List.getElem?_eq_some_iff] at hr
        obtain ⟨hlt, e⟩ := hr
        rw [List.getElem_range] at e
        exact e.symm
      subst this
      show some (f j) = some (g j)
      rw [h j hi]
/-- only one cell has changed -/
theorem wld_set {cy : Int → ClassId} {S S' : mSh} {M M' : mMem} {as : List Nat} {ak : Nat → Nat} {a : Int} (h1 : 1 ≤ a) (h2 : a ≤ (as.length : Int)) (h : ∀ b, b ≠ a → cel cy S' M' as ak b = cel cy S M as ak b) :
    wld cy S' M' as ak = (wld cy S M as ak).set (a - 1).toNat (as.getD (a - 1).toNat 0, cel cy S' M' as ak a) := by
  have e : (((a - 1).toNat : Nat) : Int) + 1 = a := by omega
  unfold wld
  rw [map_range_set (k := (a - 1).toNat) (g := fun k => (as.getD k 0, cel cy S M as ak ((k : Int) + 1))) (by omega) (fun i hi => by rw [h _ (by omega)]), e]
def okT (n : Int) (t : Nat) (x : Int) : Prop := match t with
  | 0 => R32 x
  | 1 => R64 x
  | 2 => x ≤ n
  | 3 => True
  | _ => x = 0 ∨ x = 1
theorem okT.mono {n n' : Int} (h : n ≤ n') {t : Nat} {x : Int} (hx : okT n t x) : okT n' t x := by
  match t, hx with
  | 0, hx => exact hx
  | 1, hx => exact hx
  | 2, hx => exact Int.le_trans (show x ≤ n from hx) h
  | 3, _ => exact trivial
  | _ + 4, hx => exact hx
def elemT (kd : Int) : Nat := if kd = 20 then 0 else if kd = 21 then 1 else if kd = 22 then 4 else 2
/-- the memory's numbers are in their ranges -/
def okC (S : mSh) (M : mMem) (a : Int) : Prop :=
  (sK S a < 20 → 0 ≤ sK S a ∧ sK S a < 10 ∧ ∀ k : Nat, k < (fTab (sK S a)).length → okT (sN S) ((fTab (sK S a)).getD k (9, 0)).1 (M a k) ∧ (((fTab (sK S a)).getD k (9, 0)).1 = 3 → sF S a k = 1 → a + ((fTab (sK S a)).getD k (9, 0)).2 ≤ sN S)) ∧
  (20 ≤ sK S a → sK S a ≤ 25 ∧ 0 ≤ sL S a ∧ sL S a ≤ 100000 ∧ ∀ i, 0 ≤ i → i < sL S a → okT (sN S) (elemT (sK S a)) (M a i))
def MOK (S : mSh) (M : mMem) : Prop := ∀ a, 1 ≤ a → a ≤ sN S → okC S M a
theorem fval_app {S : mSh} {M : mMem} {as bs : List Nat} {ak : Nat → Nat} {a : Int} {q : Nat × Int} {k : Nat} (h1 : okT (as.length : Int) q.1 (M a k)) (h2 : q.1 = 3 → sF S a k = 1 → a + q.2 ≤ (as.length : Int)) : fval S (M a) (as ++ bs) ak a q k = fval S (M a) as ak a q k := by
  obtain ⟨t, o⟩ := q
  match t, h1, h2 with
  | 0, _, _ => rfl
  | 1, _, _ => rfl
  | 2, h1, _ => exact encR_app h1
  | 3, _, h2 =>
    show (if sF S a k = 1 then encR (as ++ bs) ak (a + o) else .null) = (if sF S a k = 1 then encR as ak (a + o) else .null)
    by_cases hf : sF S a k = 1
    · rw [if_pos hf, if_pos hf]; exact encR_app (h2 rfl hf)
    · rw [if_neg hf, if_neg hf]
  | _ + 4, _, _ => rfl
/-- the world as it was, and one cell behind it -/
theorem cel_app {cy : Int → ClassId} {S : mSh} {M : mMem} {as bs : List Nat} {ak : Nat → Nat} {a : Int} (hn : (as.length : Int) = sN S) (h : okC S M a) : (match cel cy S M (as ++ bs) ak a, cel cy S M as ak a with
    | .inr q, .inr r => q = r
    | .inl q, .inl r => vp_cell q.1 q.2 = vp_cell r.1 r.2
    | _, _ => False) := by
  by_cases hk : sK S a < 20
  · have e1 : cel cy S M (as ++ bs) ak a = .inr ((sK S a).toNat, fldL S (M a) (as ++ bs) ak a) := if_pos hk
    have e2 : cel cy S M as ak a = .inr ((sK S a).toNat, fldL S (M a) as ak a) := if_pos hk
    rw [e1, e2]
    have : fldL S (M a) (as ++ bs) ak a = fldL S (M a) as ak a := by
      unfold fldL
      refine List.map_congr_left fun k hk2 => ?_
      obtain ⟨-, -, h3⟩ := h.1 hk
      obtain ⟨h4, h5⟩ := h3 k (List.mem_range.mp hk2)
      exact fval_app (by rw [hn]; exact h4) (by rw [hn]; exact h5)
    show ((sK S a).toNat, fldL S (M a) (as ++ bs) ak a) = ((sK S a).toNat, fldL S (M a) as ak a)
    rw [this]
  · have e1 : cel cy S M (as ++ bs) ak a = .inl (cy (sK S a), (sL S a).toNat, cont (sK S a) (M a) (as ++ bs) ak) := if_neg hk
    have e2 : cel cy S M as ak a = .inl (cy (sK S a), (sL S a).toNat, cont (sK S a) (M a) as ak) := if_neg hk
    rw [e1, e2]
    obtain ⟨-, h0, -, h3⟩ := h.2 (by omega)
    show vp_cell (cy (sK S a)) ((sL S a).toNat, cont (sK S a) (M a) (as ++ bs) ak) = vp_cell (cy (sK S a)) ((sL S a).toNat, cont (sK S a) (M a) as ak)
    by_cases k1 : sK S a = 20 ∨ sK S a = 22
    · have f1 : cont (sK S a) (M a) (as ++ bs) ak = cont (sK S a) (M a) as ak := by unfold cont; rw [if_pos k1, if_pos k1]
      rw [f1]
    · by_cases k2 : sK S a = 21
      · have f1 : cont (sK S a) (M a) (as ++ bs) ak = cont (sK S a) (M a) as ak := by unfold cont; rw [if_neg k1, if_neg k1, if_pos k2, if_pos k2]
        rw [f1]
      · have f1 : cont (sK S a) (M a) (as ++ bs) ak = .inr (.inr (.inr (.inr (fun i => optR (as ++ bs) ak (M a i))))) := by unfold cont; rw [if_neg k1, if_neg k2]
        have f2 : cont (sK S a) (M a) as ak = .inr (.inr (.inr (.inr (fun i => optR as ak (M a i))))) := by unfold cont; rw [if_neg k1, if_neg k2]
        rw [f1, f2, vp_cell_q, vp_cell_q]
        unfold arrV
        congr 1
        refine Array.ext (by simp) fun i hi1 hi2 => ?_
        simp only [Array.getElem_ofFn]
        have hi3 : i < (sL S a).toNat := by simpa using hi1
        have h4 := h3 (i : Int) (by omega) (by omega)
        have h5 : elemT (sK S a) = 2 := by unfold elemT; rw [if_neg (fun q => k1 (Or.inl q)), if_neg k2, if_neg (fun q => k1 (Or.inr q))]
        rw [h5] at h4
        rw [optR_app (by rw [hn]; exact h4)]
