/-! SOUNDNESS: what is checked of a program; a called method. -/
def noFall : Instr → Bool
  | .goto _ | .tableswitch _ _ _ _ | .ireturn | .lreturn | .areturn | .return_ => true
  | _ => false
def isSt (P : List mMeth) (q : Nat) : Bool := decide ((mGet P q).1 = -1)
def needC (P : List mMeth) (own : String) (ins : Instr) (inf : mInf) : List Jvm.Cond := match inf.1 with
  | 0 => (match ins with
    | .invokestatic i => [.methodLink own i (yOf inf.2.1.toNat), .static (yOf inf.2.1.toNat), .initialized (yOf inf.2.1.toNat).cls, .code (yOf inf.2.1.toNat) (bOf inf.2.1.toNat) (mxOf P inf.2.1.toNat) (rOf inf.2.1.toNat)]
    | .invokevirtual i => [.methodLink own i (yOf inf.2.1.toNat), .instanceMethod (yOf inf.2.1.toNat), .selects (yOf inf.2.1.toNat).cls (yOf inf.2.1.toNat) (yOf inf.2.1.toNat), .initialized (yOf inf.2.1.toNat).cls, .code (yOf inf.2.1.toNat) (bOf inf.2.1.toNat) (mxOf P inf.2.1.toNat) (rOf inf.2.1.toNat)]
    | .invokespecial i => if inf.2.2.1 = 0 then [.methodLink own i (yOf inf.2.1.toNat), .instanceMethod (yOf inf.2.1.toNat), .initialized (yOf inf.2.1.toNat).cls, .code (yOf inf.2.1.toNat) (bOf inf.2.1.toNat) (mxOf P inf.2.1.toNat) (rOf inf.2.1.toNat)] else [.instanceMethod (yOf inf.2.1.toNat), .initialized (yOf inf.2.1.toNat).cls, .code (yOf inf.2.1.toNat) (bOf inf.2.1.toNat) (mxOf P inf.2.1.toNat) (rOf inf.2.1.toNat)]
    | _ => [])
  | _ => []
def callOK (P : List mMeth) (own : String) (ins : Instr) (inf : mInf) : Bool := match inf.1 with
  | 0 => (match ins with
    | .invokestatic _ => isSt P inf.2.1.toNat
    | .invokevirtual _ => !(isSt P inf.2.1.toNat) && bR (mGet P inf.2.1.toNat).1 0 9 && decide ((clOf (mGet P inf.2.1.toNat).1).1 = (yOf inf.2.1.toNat).cls)
    | .invokespecial i => !(isSt P inf.2.1.toNat) && decide ((yOf inf.2.1.toNat).name = "<init>") && decide (rOf inf.2.1.toNat = none) && (decide (inf.2.2.1 = 0) || decide (Jvm.Cond.methodLinkNest own i (yOf inf.2.1.toNat) RX8 ∈ nestW))
    | _ => true)
  | _ => true
def entOK (P : List mMeth) (j : Nat) (x : mEnt) : Prop :=
  (∃ len, decode (bOf j) x.1 = .ok (x.2.1, len) ∧ (isSw x.2.1 = true ∨ len = ilen x.2.1)) ∧ jmOK x.1 x.2.1 = true ∧ okB (yOf j).cls (yOf j).name x.2.1 x.2.2 = true ∧ (∀ w ∈ needB (yOf j).cls x.2.1 x.2.2, w ∈ WSg) ∧ (∀ w ∈ needC P (yOf j).cls x.2.1 x.2.2, w ∈ WSg) ∧ callOK P (yOf j).cls x.2.1 x.2.2 = true
def argw : List Nat → Nat
  | [] => 0
  | 1 :: ts => 2 + argw ts
  | _ :: ts => 1 + argw ts
def nPar (P : List mMeth) (q : Nat) : Nat := (mGet P q).2.1.length - (match isSt P q with | true => 0 | false => 1)
def retOK (k : Nat) (r : Option FieldType) : Bool := match k, r with
  | 0, some .int => true
  | 1, some .long => true
  | 2, some (.object _) => true
  | 3, none => true
  | 4, some .boolean => true
  | _, _ => false
def metOK (P : List mMeth) (q : Nat) : Prop :=
  mxOf P q ≤ 40 ∧ argw (mGet P q).2.1 ≤ mxOf P q ∧ plainName (yOf q).cls = true ∧ ((yOf q).cls ≠ "java/lang/invoke/MethodHandle" ∧ (yOf q).cls ≠ "java/lang/invoke/VarHandle" ∧ (parseMethodDescriptor (yOf q).desc).map (fun d => d.parameters.length) = some (nPar P q)) ∧ retOK (mRet P q) (rOf q) = true ∧ (∀ x cs, mCode P q = x :: cs → x.1 = 0)
def PROK (P : List mMeth) : Prop := newOK P ∧ ∀ j, j < P.length → (∀ x ∈ mCode P j, entOK P j x) ∧ (∀ (x x2 : mEnt) (rest : List mEnt), x :: x2 :: rest <:+ mCode P j → noFall x.2.1 = false → x2.1 = x.1 + ilen x.2.1) ∧ metOK P j
theorem argw_app : ∀ (a b : List Nat), argw (a ++ b) = argw a + argw b := by
  intro a
  induction a with
  | nil => intro b; simp [argw]
  | cons t a ih =>
    intro b
    rcases t with _ | _ | t
    · show 1 + argw (a ++ b) = 1 + argw a + argw b; rw [ih]; omega
    · show 2 + argw (a ++ b) = 2 + argw a + argw b; rw [ih]; omega
    · show 1 + argw (a ++ b) = 1 + argw a + argw b; rw [ih]; omega
theorem argw_rev (a : List Nat) : argw a.reverse = argw a := by
  induction a with
  | nil => rfl
  | cons t a ih =>
    rw [List.reverse_cons, argw_app, ih]
    rcases t with _ | _ | t
    · show argw a + (1 + 0) = 1 + argw a; omega
    · show argw a + (2 + 0) = 2 + argw a; omega
    · show argw a + (1 + 0) = 1 + argw a; omega
theorem popA_w : ∀ (ts : List Nat) (st acc A st' : List mV), popA ts st acc = some (A, st') → (iniA A).length = argw ts + (iniA acc).length := by
  intro ts
  induction ts with
  | nil =>
    intro st acc A st' h
    cases h
    show _ = 0 + _
    omega
  | cons t ts ih =>
    intro st acc A st' h
    rcases t with _ | _ | _ | t
    · rcases st with _ | ⟨v, st⟩
      · cases h
      · rcases v with z | z | z | z
        · have := ih _ _ _ _ (show popA ts st (vI z :: acc) = some (A, st') from h)
          have e1 : (iniA (vI z :: acc)).length = (iniA acc).length + 1 := rfl
          show _ = 1 + argw ts + _
          omega
        · cases h
        · cases h
        · cases h
    · rcases st with _ | ⟨v, st⟩
      · cases h
      · rcases v with z | z | z | z
        · cases h
        · have := ih _ _ _ _ (show popA ts st (vL z :: acc) = some (A, st') from h)
          have e1 : (iniA (vL z :: acc)).length = (iniA acc).length + 1 + 1 := rfl
          show _ = 2 + argw ts + _
          omega
        · cases h
        · cases h
    · rcases st with _ | ⟨v, st⟩
      · cases h
      · rcases v with z | z | z | z
        · cases h
        · cases h
        · have := ih _ _ _ _ (show popA ts st (vA z :: acc) = some (A, st') from h)
          have e1 : (iniA (vA z :: acc)).length = (iniA acc).length + 1 := rfl
          show _ = 1 + argw ts + _
          omega
        · cases h
    · rcases st with _ | ⟨v, st⟩
      · cases h
      · rcases v with z | z | z | z
        · cases h
        · cases h
        · cases h
        · cases h
theorem ca_inv {P : List mMeth} {ins : Instr} {inf : mInf} {st : List mV} {S : mSh} {cn : Prop} {q : Nat} {las st' : List mV} (h : ca P ins inf st S = some (cn, q, las, st')) :
    inf.1 = 0 ∧ q = inf.2.1.toNat ∧ ∃ A, popA (mGet P q).2.1.reverse st [] = some (A, st') ∧ stw st' ≤ 8 ∧ las = iniL A (mxOf P q) ∧ ((∃ i, ins = .invokestatic i) ∨ (∃ i, ins = .invokevirtual i ∧ cn = rcv S (mGet P q).1 A) ∨ (∃ i, ins = .invokespecial i ∧ cn = rcv S (mGet P q).1 A)) := by
  obtain ⟨t, j, z, w⟩ := inf
  rcases t with _ | t
  · unfold ca at h
    dsimp only at h
    cases hp : popA (mGet P j.toNat).2.1.reverse st [] with
    | none => rw [hp] at h; cases h
    | some y =>
      obtain ⟨A, st2⟩ := y
      rw [hp] at h
      dsimp only at h
      cases hb : Nat.ble (stw st2) 8 with
      | false => rw [hb] at h; cases h
      | true =>
        rw [hb] at h
        cases ins
        case invokestatic i =>
          cases h
          exact ⟨rfl, rfl, A, hp, Nat.ble_eq.mp hb, rfl, Or.inl ⟨i, rfl⟩⟩
        case invokevirtual i =>
          cases h
          exact ⟨rfl, rfl, A, hp, Nat.ble_eq.mp hb, rfl, Or.inr (Or.inl ⟨i, rfl, rfl⟩)⟩
        case invokespecial i =>
          cases h
          exact ⟨rfl, rfl, A, hp, Nat.ble_eq.mp hb, rfl, Or.inr (Or.inr ⟨i, rfl, rfl⟩)⟩
        all_goals cases h
  · cases h
theorem dw_hd {α : Type} {f : α → Bool} : ∀ {l : List α} {y : α} {ys : List α}, l.dropWhile f = y :: ys → f y = false := by
  intro l
  induction l with
  | nil => intro y ys h; cases h
  | cons x l ih =>
    intro y ys h
    rw [List.dropWhile_cons] at h
    by_cases hx : f x = true
    · rw [if_pos hx] at h; exact ih h
    · rw [if_neg hx] at h
      cases h
      exact Bool.not_eq_true _ ▸ hx
theorem mAt_hd {P : List mMeth} {j t : Nat} {y : mEnt} {ys : List mEnt} (h : mAt P j t = y :: ys) : y.1 = t := by
  have := dw_hd h
  simp only [Bool.not_eq_false'] at this
  exact Nat.eq_of_beq_eq_true this
theorem pl_fall {ins : Instr} {inf : mInf} {ls st : List mV} {S : mSh} {M : mMem} {y : Option Prop × List mV × List mV × mSh × mMem} (h : pl ins inf ls st S M = some y) : noFall ins = false := by
  cases ins <;> first | rfl | cases h
theorem pl_sw {ins : Instr} {inf : mInf} {ls st : List mV} {S : mSh} {M : mMem} {y : Option Prop × List mV × List mV × mSh × mMem} (h : pl ins inf ls st S M = some y) : isSw ins = false := by
  cases ins <;> first | rfl | cases h
theorem jm_fall {pc t : Nat} {ins : Instr} {st st' : List mV} {cn : Prop} (h : jm pc ins st = some (cn, t, st')) (hc : ¬ cn) : noFall ins = false ∧ ilen ins = 3 := by
  cases ins
  case goto off => cases h; exact absurd trivial hc
  case tableswitch a b d f =>
    unfold jm at h
    dsimp only at h
    split at h
    · cases h; exact absurd trivial hc
    · cases h
  case ifCond a b => exact ⟨rfl, rfl⟩
  case if_icmp a b => exact ⟨rfl, rfl⟩
  case ifnull a => exact ⟨rfl, rfl⟩
  all_goals cases h
theorem rt_inv {k : Nat} {ins : Instr} {st : List mV} {cn : Prop} {r : Option mV} (h : rt k ins st = some (cn, r)) :
    (k = 0 ∧ ins = .ireturn ∧ ∃ x, st = [vI x] ∧ r = some (vI x)) ∨ (k = 4 ∧ ins = .ireturn ∧ ∃ x, st = [vI x] ∧ r = some (vI x) ∧ cn = (x = 0 ∨ x = 1)) ∨ (k = 1 ∧ ins = .lreturn ∧ ∃ x, st = [vL x] ∧ r = some (vL x)) ∨ (k = 2 ∧ ins = .areturn ∧ ∃ x, st = [vA x] ∧ r = some (vA x)) ∨ (k = 3 ∧ ins = .return_ ∧ st = [] ∧ r = none) := by
  unfold rt at h
  split at h
  · cases h; exact Or.inl ⟨rfl, rfl, _, rfl, rfl⟩
  · cases h; exact Or.inr (Or.inl ⟨rfl, rfl, _, rfl, rfl, rfl⟩)
  · cases h; exact Or.inr (Or.inr (Or.inl ⟨rfl, rfl, _, rfl, rfl⟩))
  · cases h; exact Or.inr (Or.inr (Or.inr (Or.inl ⟨rfl, rfl, _, rfl, rfl⟩)))
  · cases h; exact Or.inr (Or.inr (Or.inr (Or.inr ⟨rfl, rfl, rfl, rfl⟩)))
  · cases h
theorem rt_sw {k : Nat} {ins : Instr} {st : List mV} {cn : Prop} {r : Option mV} (h : rt k ins st = some (cn, r)) : isSw ins = false ∧ ilen ins = 1 := by
  rcases rt_inv h with ⟨-, rfl, -⟩ | ⟨-, rfl, -⟩ | ⟨-, rfl, -⟩ | ⟨-, rfl, -⟩ | ⟨-, rfl, -⟩ <;> exact ⟨rfl, rfl⟩
