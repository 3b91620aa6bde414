/-! SOUNDNESS, sixth piece: fields written. -/
theorem up_row {M : mMem} {a i v b : Int} (h : b ≠ a) : up M a i v b = M b := funext fun _ => up_na h
theorem cel_ne {cy : Int → ClassId} {S : mSh} {M M' : mMem} {as : List Nat} {ak : Nat → Nat} {b : Int} (h : M' b = M b) : cel cy S M' as ak b = cel cy S M as ak b := by unfold cel; rw [h]
theorem fval_ne {S : mSh} {r r' : Int → Int} {as : List Nat} {ak : Nat → Nat} {a : Int} {q : Nat × Int} {k : Nat} (h : r' k = r k) : fval S r' as ak a q k = fval S r as ak a q k := by
  obtain ⟨t, o⟩ := q
  match t with
  | 0 => show Value.int (Int32.ofInt (r' k)) = Value.int (Int32.ofInt (r k)); rw [h]
  | 1 => show Value.long (Int64.ofInt (r' k)) = Value.long (Int64.ofInt (r k)); rw [h]
  | 2 => show encR as ak (r' k) = encR as ak (r k); rw [h]
  | 3 => rfl
  | _ + 4 => show Value.int (Int32.ofInt (r' k)) = Value.int (Int32.ofInt (r k)); rw [h]
/-- memory stays good when a good number is written -/
theorem okC_up {S : mSh} {M : mMem} {a i x b : Int} (h : okC S M b) (hf : b = a → sK S a < 20 → ∀ k : Nat, (k : Int) = i → okT (sN S) ((fTab (sK S a)).getD k (9, 0)).1 x) (hg : b = a → 20 ≤ sK S a → okT (sN S) (elemT (sK S a)) x) : okC S (up M a i x) b := by
  refine ⟨fun hk => ?_, fun hk => ?_⟩
  · obtain ⟨h1, h2, h3⟩ := h.1 hk
    refine ⟨h1, h2, fun k hkl => ⟨?_, (h3 k hkl).2⟩⟩
    unfold up
    by_cases hc : b = a ∧ (k : Int) = i
    · rw [if_pos hc, hc.1]; exact hf hc.1 (hc.1 ▸ hk) k hc.2
    · rw [if_neg hc]; exact (h3 k hkl).1
  · obtain ⟨h1, h2, h3, h4⟩ := h.2 hk
    refine ⟨h1, h2, h3, fun j hj1 hj2 => ?_⟩
    unfold up
    by_cases hc : b = a ∧ j = i
    · rw [if_pos hc, hc.1]; exact hg hc.1 (hc.1 ▸ hk)
    · rw [if_neg hc]; exact h4 j hj1 hj2
theorem MOK_upF {S : mSh} {M : mMem} {a k x ci : Int} {t : Nat} {off : Int} (h : MOK S M) (hO : isO S a ci) (hc : ci < 20) (hk : 0 ≤ k) (hf : (fTab ci).getD k.toNat (9, 0) = (t, off)) (hx : okT (sN S) t x) : MOK S (up M a k x) := by
  intro b h1 h2
  refine okC_up (h b h1 h2) (fun e hlt j hj => ?_) (fun e hge => ?_)
  · rw [hO.2.2, show j = k.toNat by omega, hf]; exact hx
  · rw [hO.2.2] at hge; omega
theorem fld_set {S : mSh} {M : mMem} {as : List Nat} {ak : Nat → Nat} {a k x : Int} {v : Value} (hk : 0 ≤ k) (hl : k.toNat < (fTab (sK S a)).length) (hv : fval S (up M a k x a) as ak a ((fTab (sK S a)).getD k.toNat (9, 0)) k.toNat = v) :
    fldL S (up M a k x a) as ak a = (fldL S (M a) as ak a).set k.toNat v := by
  unfold fldL
  rw [map_range_set (k := k.toNat) (g := fun j => fval S (M a) as ak a ((fTab (sK S a)).getD j (9, 0)) j) hl (fun i hi => fval_ne (up_ni (by omega))), hv]
theorem pl_putf_inv {inf : mInf} {ls st : List mV} {S : mSh} {M : mMem} {r : Option Prop × List mV × List mV × mSh × mMem} (h : pl_putf inf ls st S M = some r) :
    ∃ (t : Nat) (ci k off a x : Int) (v : mV) (st' : List mV), inf = (t, ci, k, off) ∧ st = v :: vA a :: st' ∧
      ((t = 0 ∧ v = vI x ∧ r = (some (isO S a ci), ls, st', S, up M a k x)) ∨ (t = 1 ∧ v = vL x ∧ r = (some (isO S a ci), ls, st', S, up M a k x)) ∨ (t = 2 ∧ v = vA x ∧ r = (some (isO S a ci), ls, st', S, up M a k x)) ∨
       (t = 3 ∧ v = vA x ∧ r = (some (isO S a ci ∧ x = a + off), ls, st', sSet S a k, M)) ∨ (t = 4 ∧ v = vI x ∧ r = (some (isO S a ci ∧ (x = 0 ∨ x = 1)), ls, st', S, up M a k x))) := by
  unfold pl_putf at h
  split at h
  · rename_i ci k off x a st'
    exact ⟨_, ci, k, off, a, x, _, st', rfl, rfl, Or.inl ⟨rfl, rfl, (Option.some.inj h).symm⟩⟩
  · rename_i ci k off x a st'
    exact ⟨_, ci, k, off, a, x, _, st', rfl, rfl, Or.inr (Or.inl ⟨rfl, rfl, (Option.some.inj h).symm⟩)⟩
  · rename_i ci k off x a st'
    exact ⟨_, ci, k, off, a, x, _, st', rfl, rfl, Or.inr (Or.inr (Or.inl ⟨rfl, rfl, (Option.some.inj h).symm⟩))⟩
  · rename_i ci k off x a st'
    exact ⟨_, ci, k, off, a, x, _, st', rfl, rfl, Or.inr (Or.inr (Or.inr (Or.inl ⟨rfl, rfl, (Option.some.inj h).symm⟩)))⟩
  · rename_i ci k off x a st'
    exact ⟨_, ci, k, off, a, x, _, st', rfl, rfl, Or.inr (Or.inr (Or.inr (Or.inr ⟨rfl, rfl, (Option.some.inj h).symm⟩)))⟩
  · cases h
/-- a value fits a field of its tag -/
theorem fit_tag {f : FieldType} {fin : Bool} {v : Value} {t : Nat} (ht : tagOf f fin = t) (h : (t = 0 ∧ ∃ x : Int32, v = .int x) ∨ (t = 1 ∧ ∃ x : Int64, v = .long x) ∨ ((t = 2 ∨ t = 3) ∧ (v = .null ∨ ∃ x : Nat, v = .ref x)) ∨ (t = 4 ∧ (v = .int 0 ∨ v = .int 1))) : narrow f v = v ∧ fits f v = true := by
  subst ht
  cases f with
  | int => rcases h with ⟨-, x, rfl⟩ | ⟨h, -⟩ | ⟨h | h, -⟩ | ⟨h, -⟩ <;> first | exact ⟨rfl, rfl⟩ | cases h
  | long => rcases h with ⟨h, -⟩ | ⟨-, x, rfl⟩ | ⟨h | h, -⟩ | ⟨h, -⟩ <;> first | exact ⟨rfl, rfl⟩ | cases h
  | boolean => rcases h with ⟨h, -⟩ | ⟨h, -⟩ | ⟨h | h, -⟩ | ⟨-, rfl | rfl⟩ <;> first | exact ⟨rfl, rfl⟩ | cases h
  | object n => cases fin <;> rcases h with ⟨h, -⟩ | ⟨h, -⟩ | ⟨-, rfl | ⟨x, rfl⟩⟩ | ⟨h, -⟩ <;> first | exact ⟨rfl, rfl⟩ | cases h
  | array n => cases fin <;> rcases h with ⟨h, -⟩ | ⟨h, -⟩ | ⟨-, rfl | ⟨x, rfl⟩⟩ | ⟨h, -⟩ <;> first | exact ⟨rfl, rfl⟩ | cases h
  | _ => rcases h with ⟨h, -⟩ | ⟨h, -⟩ | ⟨h | h, -⟩ | ⟨h, -⟩ <;> cases h
