/-! SOUNDNESS: what a run never undoes: cells are kept, the script stays. -/
theorem plA_same {ins : Instr} {inf : mInf} {ls st : List mV} {S : mSh} {M : mMem} {oc : Option Prop} {ls' st' : List mV} {S' : mSh} {M' : mMem} (hA : insA ins inf = true) (h : pl ins inf ls st S M = some (oc, ls', st', S', M')) : S' = S ∧ M' = M := by
  cases ins
  case aconst_null => cases h; exact ⟨rfl, rfl⟩
  case iload i => rcases pl_load_inv h with ⟨-, x, -, h⟩ | ⟨-, x, -, -, h⟩ | ⟨-, x, -, h⟩ <;> (cases h; exact ⟨rfl, rfl⟩)
  case iload_n i => rcases pl_load_inv h with ⟨-, x, -, h⟩ | ⟨-, x, -, -, h⟩ | ⟨-, x, -, h⟩ <;> (cases h; exact ⟨rfl, rfl⟩)
  case lload i => rcases pl_load_inv h with ⟨-, x, -, h⟩ | ⟨-, x, -, -, h⟩ | ⟨-, x, -, h⟩ <;> (cases h; exact ⟨rfl, rfl⟩)
  case lload_n i => rcases pl_load_inv h with ⟨-, x, -, h⟩ | ⟨-, x, -, -, h⟩ | ⟨-, x, -, h⟩ <;> (cases h; exact ⟨rfl, rfl⟩)
  case aload i => rcases pl_load_inv h with ⟨-, x, -, h⟩ | ⟨-, x, -, -, h⟩ | ⟨-, x, -, h⟩ <;> (cases h; exact ⟨rfl, rfl⟩)
  case aload_n i => rcases pl_load_inv h with ⟨-, x, -, h⟩ | ⟨-, x, -, -, h⟩ | ⟨-, x, -, h⟩ <;> (cases h; exact ⟨rfl, rfl⟩)
  case istore i => rcases pl_store_inv h with ⟨-, x, y, -, -, h⟩ | ⟨-, x, y, -, -, h⟩ | ⟨-, x, y, -, -, h⟩ <;> (cases h; exact ⟨rfl, rfl⟩)
  case istore_n i => rcases pl_store_inv h with ⟨-, x, y, -, -, h⟩ | ⟨-, x, y, -, -, h⟩ | ⟨-, x, y, -, -, h⟩ <;> (cases h; exact ⟨rfl, rfl⟩)
  case lstore i => rcases pl_store_inv h with ⟨-, x, y, -, -, h⟩ | ⟨-, x, y, -, -, h⟩ | ⟨-, x, y, -, -, h⟩ <;> (cases h; exact ⟨rfl, rfl⟩)
  case lstore_n i => rcases pl_store_inv h with ⟨-, x, y, -, -, h⟩ | ⟨-, x, y, -, -, h⟩ | ⟨-, x, y, -, -, h⟩ <;> (cases h; exact ⟨rfl, rfl⟩)
  case astore i => rcases pl_store_inv h with ⟨-, x, y, -, -, h⟩ | ⟨-, x, y, -, -, h⟩ | ⟨-, x, y, -, -, h⟩ <;> (cases h; exact ⟨rfl, rfl⟩)
  case astore_n i => rcases pl_store_inv h with ⟨-, x, y, -, -, h⟩ | ⟨-, x, y, -, -, h⟩ | ⟨-, x, y, -, -, h⟩ <;> (cases h; exact ⟨rfl, rfl⟩)
  case iinc i k => unfold pl at h; dsimp only at h; split at h <;> first | (cases h; exact ⟨rfl, rfl⟩) | cases h
  case iconst v => cases h; exact ⟨rfl, rfl⟩
  case bipush v => cases h; exact ⟨rfl, rfl⟩
  case sipush v => cases h; exact ⟨rfl, rfl⟩
  case lconst v => cases h; exact ⟨rfl, rfl⟩
  case ldc i =>
    obtain ⟨t, v, a, b⟩ := inf
    have ht : t = 0 := Nat.eq_of_beq_eq_true hA
    subst ht; cases h; exact ⟨rfl, rfl⟩
  case ldc_w i =>
    obtain ⟨t, v, a, b⟩ := inf
    have ht : t = 0 := Nat.eq_of_beq_eq_true hA
    subst ht; cases h; exact ⟨rfl, rfl⟩
  case ldc2_w i => cases h; exact ⟨rfl, rfl⟩
  case dup => unfold pl at h; dsimp only at h; split at h <;> first | cases h | (split at h <;> first | (cases h; exact ⟨rfl, rfl⟩) | cases h)
  case pop => unfold pl at h; dsimp only at h; split at h <;> first | cases h | (split at h <;> first | (cases h; exact ⟨rfl, rfl⟩) | cases h)
  case dup2 => unfold pl at h; dsimp only at h; split at h <;> first | cases h | (split at h <;> first | (cases h; exact ⟨rfl, rfl⟩) | cases h)
  case iadd => obtain ⟨x, y, z, -, h⟩ := pl_bin_inv h; cases h; exact ⟨rfl, rfl⟩
  case isub => obtain ⟨x, y, z, -, h⟩ := pl_bin_inv h; cases h; exact ⟨rfl, rfl⟩
  case imul => obtain ⟨x, y, z, -, h⟩ := pl_bin_inv h; cases h; exact ⟨rfl, rfl⟩
  case idiv => obtain ⟨x, y, z, -, h⟩ := pl_bin_inv h; cases h; exact ⟨rfl, rfl⟩
  case irem => obtain ⟨x, y, z, -, h⟩ := pl_bin_inv h; cases h; exact ⟨rfl, rfl⟩
  case iand => obtain ⟨x, y, z, -, h⟩ := pl_bin_inv h; cases h; exact ⟨rfl, rfl⟩
  case ior => obtain ⟨x, y, z, -, h⟩ := pl_bin_inv h; cases h; exact ⟨rfl, rfl⟩
  case ishl => obtain ⟨x, y, z, -, h⟩ := pl_bin_inv h; cases h; exact ⟨rfl, rfl⟩
  case ishr => obtain ⟨x, y, z, -, h⟩ := pl_bin_inv h; cases h; exact ⟨rfl, rfl⟩
  case ineg => unfold pl at h; dsimp only at h; split at h <;> first | (cases h; exact ⟨rfl, rfl⟩) | cases h
  case ladd => obtain ⟨x, y, z, -, h⟩ := pl_binL_inv h; cases h; exact ⟨rfl, rfl⟩
  case lsub => obtain ⟨x, y, z, -, h⟩ := pl_binL_inv h; cases h; exact ⟨rfl, rfl⟩
  case lmul => obtain ⟨x, y, z, -, h⟩ := pl_binL_inv h; cases h; exact ⟨rfl, rfl⟩
  case ldiv => obtain ⟨x, y, z, -, h⟩ := pl_binL_inv h; cases h; exact ⟨rfl, rfl⟩
  case lrem => obtain ⟨x, y, z, -, h⟩ := pl_binL_inv h; cases h; exact ⟨rfl, rfl⟩
  case lcmp => unfold pl at h; dsimp only at h; split at h <;> first | (cases h; exact ⟨rfl, rfl⟩) | cases h
  case i2l => unfold pl at h; dsimp only at h; split at h <;> first | (cases h; exact ⟨rfl, rfl⟩) | cases h
  case l2i => unfold pl at h; dsimp only at h; split at h <;> first | (cases h; exact ⟨rfl, rfl⟩) | cases h
  all_goals cases hA
/-- what a step, a run keeps -/
def Grow (S : mSh) (M : mMem) (S' : mSh) (M' : mMem) : Prop := sN S ≤ sN S' ∧ sU S ≤ sU S' ∧ sL S' (-1) = sL S (-1) ∧ M' (-1) = M (-1)
theorem Grow.rf {S : mSh} {M : mMem} : Grow S M S M := ⟨Int.le_refl _, Int.le_refl _, rfl, rfl⟩
theorem Grow.tr {S S1 S2 : mSh} {M M1 M2 : mMem} (h : Grow S M S1 M1) (h' : Grow S1 M1 S2 M2) : Grow S M S2 M2 := ⟨Int.le_trans h.1 h'.1, Int.le_trans h.2.1 h'.2.1, h'.2.2.1.trans h.2.2.1, h'.2.2.2.trans h.2.2.2⟩
theorem grow_up {S : mSh} {M : mMem} {a i x : Int} (h : 1 ≤ a) : Grow S M S (up M a i x) := ⟨Int.le_refl _, Int.le_refl _, rfl, up_row (by omega)⟩
theorem grow_new {S : mSh} {M : mMem} {kd len sl : Int} (h0 : 0 ≤ sN S) (hs : 0 ≤ sl) : Grow S M (sNew S kd len sl) (zr M (sN S + 1)) := ⟨by rw [newN]; omega, by rw [newU]; omega, newL (by omega), zr_row (by omega)⟩
theorem pl_grow {ins : Instr} {inf : mInf} {ls st : List mV} {S : mSh} {M : mMem} {oc : Option Prop} {ls' st' : List mV} {S' : mSh} {M' : mMem} (h : pl ins inf ls st S M = some (oc, ls', st', S', M')) (hc : ∀ q, oc = some q → q) (h0 : 0 ≤ sN S) (hnew : ∀ i, ins = .new i → 0 ≤ inf.2.2.1) : Grow S M S' M' := by
  by_cases hA : insA ins inf = true
  · obtain ⟨rfl, rfl⟩ := plA_same hA h
    exact Grow.rf
  cases ins
  case ldc i =>
    have g : pl_cst inf ls st S M = some (oc, ls', st', S', M') := h
    unfold pl_cst at g
    split at g <;> first | (cases g; exact Grow.rf) | cases g
  case ldc_w i =>
    have g : pl_cst inf ls st S M = some (oc, ls', st', S', M') := h
    unfold pl_cst at g
    split at g <;> first | (cases g; exact Grow.rf) | cases g
  case getfield i =>
    obtain ⟨_, _, _, _, _, _, -, -, -, hr⟩ := pl_getf_inv h
    cases hr; exact Grow.rf
  case putfield i =>
    obtain ⟨t, ci, k, off, a, x, v, st2, -, -, hcase⟩ := pl_putf_inv h
    rcases hcase with ⟨-, -, hr⟩ | ⟨-, -, hr⟩ | ⟨-, -, hr⟩ | ⟨-, -, hr⟩ | ⟨-, -, hr⟩
    · cases hr; exact grow_up (hc _ rfl).1
    · cases hr; exact grow_up (hc _ rfl).1
    · cases hr; exact grow_up (hc _ rfl).1
    · cases hr; exact ⟨Int.le_refl _, Int.le_refl _, rfl, rfl⟩
    · cases hr; exact grow_up (hc _ rfl).1.1
  case iaload =>
    obtain ⟨t, v, a0, b0⟩ := inf
    obtain ⟨i, a, st2, -, ⟨-, hr⟩ | ⟨-, hr⟩⟩ := ald_i_inv (show pl_ald (t, v, a0, b0) ls st S M .iaload = _ from h) <;> (cases hr; exact Grow.rf)
  case laload => simp only [pl, pl_ald] at h; split at h <;> first | (cases h; exact Grow.rf) | cases h
  case baload => simp only [pl, pl_ald] at h; split at h <;> first | (cases h; exact Grow.rf) | cases h
  case aaload => simp only [pl, pl_ald] at h; split at h <;> first | (cases h; exact Grow.rf) | cases h
  case arraylength =>
    obtain ⟨t, v, a0, b0⟩ := inf
    obtain ⟨a, st2, -, ⟨-, hr⟩ | ⟨-, hr⟩⟩ := ald_n_inv (show pl_ald (t, v, a0, b0) ls st S M .arraylength = _ from h) <;> (cases hr; exact Grow.rf)
  case iastore => simp only [pl, pl_ast] at h; split at h <;> first | (cases h; exact grow_up (hc _ rfl).1.1) | cases h
  case lastore => simp only [pl, pl_ast] at h; split at h <;> first | (cases h; exact grow_up (hc _ rfl).1.1) | cases h
  case bastore => simp only [pl, pl_ast] at h; split at h <;> first | (cases h; exact grow_up (hc _ rfl).1.1.1) | cases h
  case aastore => simp only [pl, pl_ast] at h; split at h <;> first | (cases h; exact grow_up (hc _ rfl).1.1.1) | cases h
  case new i => cases h; exact grow_new h0 (hnew i rfl)
  case newarray at_ =>
    have main : ∀ kd : Int, pl_newa kd ls st S M = some (oc, ls', st', S', M') → Grow S M S' M' := by
      intro kd g
      unfold pl_newa at g
      split at g <;> first | (cases g; exact grow_new h0 (hc _ rfl).1) | cases g
    cases at_ with
    | int => exact main 20 h
    | long => exact main 21 h
    | boolean => exact main 22 h
    | _ => cases h
  case anewarray i =>
    have g : pl_newa inf.2.1 ls st S M = some (oc, ls', st', S', M') := h
    unfold pl_newa at g
    split at g <;> first | (cases g; exact grow_new h0 (hc _ rfl).1) | cases g
  case invokestatic i =>
    have g : pl_lib inf ls st S M = some (oc, ls', st', S', M') := h
    unfold pl_lib at g
    split at g <;> first | (cases g; done) | (split at g <;> first | (cases g; done) | (cases g; first | exact Grow.rf | exact ⟨Int.le_refl _, Int.le_refl _, rfl, cpy_row (by have := (hc _ rfl).2.1.1; omega)⟩))
  case invokespecial i =>
    have g : pl_lib inf ls st S M = some (oc, ls', st', S', M') := h
    unfold pl_lib at g
    split at g <;> first | (cases g; done) | (split at g <;> first | (cases g; done) | (cases g; first | exact Grow.rf | exact ⟨Int.le_refl _, Int.le_refl _, rfl, cpy_row (by have := (hc _ rfl).2.1.1; omega)⟩))
  case invokevirtual i =>
    have g : pl_lib inf ls st S M = some (oc, ls', st', S', M') := h
    unfold pl_lib at g
    split at g <;> first | (cases g; done) | (split at g <;> first | (cases g; done) | (cases g; first | exact Grow.rf | exact ⟨Int.le_refl _, Int.le_refl _, rfl, cpy_row (by have := (hc _ rfl).2.1.1; omega)⟩))
  all_goals first | exact absurd rfl hA | cases h
/-- every 'new' of a program has its slots -/
def newOK (P : List mMeth) : Prop := ∀ (j : Nat) (x : mEnt), x ∈ mCode P j → ∀ i, x.2.1 = .new i → 0 ≤ x.2.2.2.2.1
theorem mAt_suf (P : List mMeth) (j t : Nat) : mAt P j t <:+ mCode P j := List.dropWhile_suffix _
theorem suf_tl {α : Type} {x : α} {cs l : List α} (h : x :: cs <:+ l) : cs <:+ l := (List.suffix_cons x cs).trans h
theorem suf_hd {α : Type} {x : α} {cs l : List α} (h : x :: cs <:+ l) : x ∈ l := h.subset List.mem_cons_self
theorem ex_grow {P : List mMeth} (hN : newOK P) : ∀ (n d j : Nat) (cs : List mEnt) (ls st : List mV) (S : mSh) (M : mMem) (r : Option mV) (Sf : mSh) (Mf : mMem), ex P n d j cs ls st S M = some (r, Sf, Mf) → cs <:+ mCode P j → 0 ≤ sN S → Grow S M Sf Mf := by
  intro n
  induction n with
  | zero => intro d j cs ls st S M r Sf Mf h; rw [ex_0] at h; cases h
  | succ n ih =>
    intro d j cs ls st S M r Sf Mf h hs h0
    cases cs with
    | nil => rw [ex_nil] at h; cases h
    | cons x cs =>
      obtain ⟨pc, ins, inf⟩ := x
      rw [ex_cons, exB.eq_def] at h
      cases hp : pl ins inf ls st S M with
      | some y =>
        obtain ⟨c, ls', st', S', M'⟩ := y
        rw [hp] at h
        cases c with
        | none =>
          have g := pl_grow hp (fun q e => by cases e) h0 (fun i e => hN j _ (suf_hd hs) i e)
          exact g.tr (ih _ _ _ _ _ _ _ _ _ _ h (suf_tl hs) (Int.le_trans h0 g.1))
        | some c =>
          dsimp only at h
          rcases pif_some h with ⟨hc, h⟩ | ⟨hc, h⟩
          · have g := pl_grow hp (fun q e => by cases e; exact hc) h0 (fun i e => hN j _ (suf_hd hs) i e)
            exact g.tr (ih _ _ _ _ _ _ _ _ _ _ h (suf_tl hs) (Int.le_trans h0 g.1))
          · cases h
      | none =>
        rw [hp] at h
        dsimp only at h
        cases hj : jm pc ins st with
        | some y =>
          obtain ⟨c, t, st'⟩ := y
          rw [hj] at h
          dsimp only at h
          rcases pif_some h with ⟨hc, h⟩ | ⟨hc, h⟩
          · exact ih _ _ _ _ _ _ _ _ _ _ h (mAt_suf P j t) h0
          · exact ih _ _ _ _ _ _ _ _ _ _ h (suf_tl hs) h0
        | none =>
          rw [hj] at h
          dsimp only at h
          cases hr : rt (mRet P j) ins st with
          | some y =>
            obtain ⟨c, v⟩ := y
            rw [hr] at h
            dsimp only at h
            rcases pif_some h with ⟨hc, h⟩ | ⟨hc, h⟩
            · cases h; exact Grow.rf
            · cases h
          | none =>
            rw [hr] at h
            dsimp only at h
            cases d with
            | zero => cases h
            | succ d =>
              dsimp only at h
              cases hca : ca P ins inf st S with
              | none => rw [hca] at h; cases h
              | some y =>
                obtain ⟨c, q, las, st'⟩ := y
                rw [hca] at h
                dsimp only at h
                rcases pif_some h with ⟨hc, h⟩ | ⟨hc, h⟩
                · cases he : ex P n d q (mCode P q) las [] S M with
                  | none => rw [he] at h; cases h
                  | some y =>
                    obtain ⟨v, S', M'⟩ := y
                    rw [he] at h
                    have g := ih _ _ _ _ _ _ _ _ _ _ he (List.suffix_refl _) h0
                    exact g.tr (ih _ _ _ _ _ _ _ _ _ _ h (suf_tl hs) (Int.le_trans h0 g.1))
                · cases h
