/-! What a run keeps: kinds, lengths, flags of the cells that are there. -/
def GrF (S S' : mSh) : Prop := sN S ≤ sN S' ∧ ∀ a, 1 ≤ a → a ≤ sN S → sK S' a = sK S a ∧ sL S' a = sL S a ∧ ∀ k, sF S a k = 1 → sF S' a k = 1
theorem GrF.rf (S : mSh) : GrF S S := ⟨Int.le_refl _, fun _ _ _ => ⟨rfl, rfl, fun _ h => h⟩⟩
theorem GrF.tr {S S' S'' : mSh} (h : GrF S S') (h' : GrF S' S'') : GrF S S'' := ⟨Int.le_trans h.1 h'.1, fun a h1 h2 => by
  obtain ⟨x1, x2, x3⟩ := h.2 a h1 h2
  obtain ⟨y1, y2, y3⟩ := h'.2 a h1 (Int.le_trans h2 h.1)
  exact ⟨y1.trans x1, y2.trans x2, fun k q => y3 k (x3 k q)⟩⟩
theorem GrF.nw (S : mSh) {k l u : Int} : GrF S (sNew S k l u) := ⟨by rw [sn_new]; omega, fun a q0 q1 => ⟨sk_ne (by omega), sl_ne (by omega), fun _ q => (sf_ne (by omega)).trans q⟩⟩
theorem GrF.st {S : mSh} {b x : Int} : GrF S (sSet S b x) := ⟨Int.le_refl _, fun a q0 q1 => ⟨rfl, rfl, fun k q => by
  by_cases e : a = b ∧ k = x
  · rw [e.1, e.2]; exact sf_self
  · exact (sf_set e).trans q⟩⟩
theorem isO.gf {S S' : mSh} {a kd : Int} (h : isO S a kd) (g : GrF S S') : isO S' a kd := ⟨h.1, Int.le_trans h.2.1 g.1, (g.2 a h.1 h.2.1).1.trans h.2.2⟩
theorem Lay.gf {S S' : mSh} (h : Lay S) (g : GrF S S') : Lay S' := fun a h1 h2 => by
  obtain ⟨x0, x1, x2, x3⟩ := h a h1 h2
  obtain ⟨y1, y2, y3⟩ := g.2 a h1 x0
  exact ⟨Int.le_trans x0 g.1, y1.trans x1, y2.trans x2, fun k hk => y3 k (x3 k hk)⟩
theorem pl_growF {ins : Instr} {inf : mInf} {ls st : List mV} {S : mSh} {M : mMem} {oc : Option Prop} {ls' st' : List mV} {S' : mSh} {M' : mMem} (h : pl ins inf ls st S M = some (oc, ls', st', S', M')) (hc : ∀ q, oc = some q → q) (h0 : 0 ≤ sN S) (hnew : ∀ i, ins = .new i → 0 ≤ inf.2.2.1) : GrF S S' := by
  by_cases hA : insA ins inf = true
  · obtain ⟨rfl, rfl⟩ := plA_same hA h
    exact (GrF.rf _)
  cases ins
  case ldc i =>
    have g : pl_cst inf ls st S M = some (oc, ls', st', S', M') := h
    unfold pl_cst at g
    split at g <;> first | (cases g; exact (GrF.rf _)) | cases g
  case ldc_w i =>
    have g : pl_cst inf ls st S M = some (oc, ls', st', S', M') := h
    unfold pl_cst at g
    split at g <;> first | (cases g; exact (GrF.rf _)) | cases g
  case getfield i =>
    obtain ⟨_, _, _, _, _, _, -, -, -, hr⟩ := pl_getf_inv h
    cases hr; exact (GrF.rf _)
  case putfield i =>
    obtain ⟨t, ci, k, off, a, x, v, st2, -, -, hcase⟩ := pl_putf_inv h
    rcases hcase with ⟨-, -, hr⟩ | ⟨-, -, hr⟩ | ⟨-, -, hr⟩ | ⟨-, -, hr⟩ | ⟨-, -, hr⟩
    · cases hr; exact (GrF.rf _)
    · cases hr; exact (GrF.rf _)
    · cases hr; exact (GrF.rf _)
    · cases hr; exact GrF.st
    · cases hr; exact (GrF.rf _)
  case iaload =>
    obtain ⟨t, v, a0, b0⟩ := inf
    obtain ⟨i, a, st2, -, ⟨-, hr⟩ | ⟨-, hr⟩⟩ := ald_i_inv (show pl_ald (t, v, a0, b0) ls st S M .iaload = _ from h) <;> (cases hr; exact (GrF.rf _))
  case laload => simp only [pl, pl_ald] at h; split at h <;> first | (cases h; exact (GrF.rf _)) | cases h
  case baload => simp only [pl, pl_ald] at h; split at h <;> first | (cases h; exact (GrF.rf _)) | cases h
  case aaload => simp only [pl, pl_ald] at h; split at h <;> first | (cases h; exact (GrF.rf _)) | cases h
  case arraylength =>
    obtain ⟨t, v, a0, b0⟩ := inf
    obtain ⟨a, st2, -, ⟨-, hr⟩ | ⟨-, hr⟩⟩ := ald_n_inv (show pl_ald (t, v, a0, b0) ls st S M .arraylength = _ from h) <;> (cases hr; exact (GrF.rf _))
  case iastore => simp only [pl, pl_ast] at h; split at h <;> first | (cases h; exact (GrF.rf _)) | cases h
  case lastore => simp only [pl, pl_ast] at h; split at h <;> first | (cases h; exact (GrF.rf _)) | cases h
  case bastore => simp only [pl, pl_ast] at h; split at h <;> first | (cases h; exact (GrF.rf _)) | cases h
  case aastore => simp only [pl, pl_ast] at h; split at h <;> first | (cases h; exact (GrF.rf _)) | cases h
  case new i => cases h; exact GrF.nw _
  case newarray at_ =>
    have main : ∀ kd : Int, pl_newa kd ls st S M = some (oc, ls', st', S', M') → GrF S S' := by
      intro kd g
      unfold pl_newa at g
      split at g <;> first | (cases g; exact GrF.nw _) | cases g
    cases at_ with
    | int => exact main 20 h
    | long => exact main 21 h
    | boolean => exact main 22 h
    | _ => cases h
  case anewarray i =>
    have g : pl_newa inf.2.1 ls st S M = some (oc, ls', st', S', M') := h
    unfold pl_newa at g
    split at g <;> first | (cases g; exact GrF.nw _) | cases g
  case invokestatic i =>
    have g : pl_lib inf ls st S M = some (oc, ls', st', S', M') := h
    unfold pl_lib at g
    split at g <;> first | (cases g; done) | (split at g <;> first | (cases g; done) | (cases g; exact (GrF.rf _)))
  case invokespecial i =>
    have g : pl_lib inf ls st S M = some (oc, ls', st', S', M') := h
    unfold pl_lib at g
    split at g <;> first | (cases g; done) | (split at g <;> first | (cases g; done) | (cases g; exact (GrF.rf _)))
  case invokevirtual i =>
    have g : pl_lib inf ls st S M = some (oc, ls', st', S', M') := h
    unfold pl_lib at g
    split at g <;> first | (cases g; done) | (split at g <;> first | (cases g; done) | (cases g; exact (GrF.rf _)))
  all_goals first | exact absurd rfl hA | cases h
theorem ex_growF {P : List mMeth} (hN : newOK P) : ∀ (n d j : Nat) (cs : List mEnt) (ls st : List mV) (S : mSh) (M : mMem) (r : Option mV) (Sf : mSh) (Mf : mMem), ex P n d j cs ls st S M = some (r, Sf, Mf) → cs <:+ mCode P j → 0 ≤ sN S → GrF S Sf := by
  intro n
  induction n with
  | zero => intro d j cs ls st S M r Sf Mf h; rw [ex_0] at h; cases h
  | succ n ih =>
    intro d j cs ls st S M r Sf Mf h hs h0
    cases cs with
    | nil => rw [ex_nil] at h; cases h
    | cons x cs =>
      obtain ⟨pc, ins, inf⟩ := x
      rw [ex_cons, exB.eq_def] at h
      cases hp : pl ins inf ls st S M with
      | some y =>
        obtain ⟨c, ls', st', S', M'⟩ := y
        rw [hp] at h
        cases c with
        | none =>
          have g := pl_growF hp (fun q e => by cases e) h0 (fun i e => hN j _ (suf_hd hs) i e)
          exact g.tr (ih _ _ _ _ _ _ _ _ _ _ h (suf_tl hs) (Int.le_trans h0 g.1))
        | some c =>
          dsimp only at h
          rcases pif_some h with ⟨hc, h⟩ | ⟨hc, h⟩
          · have g := pl_growF hp (fun q e => by cases e; exact hc) h0 (fun i e => hN j _ (suf_hd hs) i e)
            exact g.tr (ih _ _ _ _ _ _ _ _ _ _ h (suf_tl hs) (Int.le_trans h0 g.1))
          · cases h
      | none =>
        rw [hp] at h
        dsimp only at h
        cases hj : jm pc ins st with
        | some y =>
          obtain ⟨c, t, st'⟩ := y
          rw [hj] at h
          dsimp only at h
          rcases pif_some h with ⟨hc, h⟩ | ⟨hc, h⟩
          · exact ih _ _ _ _ _ _ _ _ _ _ h (mAt_suf P j t) h0
          · exact ih _ _ _ _ _ _ _ _ _ _ h (suf_tl hs) h0
        | none =>
          rw [hj] at h
          dsimp only at h
          cases hr : rt (mRet P j) ins st with
          | some y =>
            obtain ⟨c, v⟩ := y
            rw [hr] at h
            dsimp only at h
            rcases pif_some h with ⟨hc, h⟩ | ⟨hc, h⟩
            · cases h; exact (GrF.rf _)
            · cases h
          | none =>
            rw [hr] at h
            dsimp only at h
            cases d with
            | zero => cases h
            | succ d =>
              dsimp only at h
              cases hca : ca P ins inf st S with
              | none => rw [hca] at h; cases h
              | some y =>
                obtain ⟨c, q, las, st'⟩ := y
                rw [hca] at h
                dsimp only at h
                rcases pif_some h with ⟨hc, h⟩ | ⟨hc, h⟩
                · cases he : ex P n d q (mCode P q) las [] S M with
                  | none => rw [he] at h; cases h
                  | some y =>
                    obtain ⟨v, S', M'⟩ := y
                    rw [he] at h
                    have g := ih _ _ _ _ _ _ _ _ _ _ he (List.suffix_refl _) h0
                    exact g.tr (ih _ _ _ _ _ _ _ _ _ _ h (suf_tl hs) (Int.le_trans h0 g.1))
                · cases h
/-- every run: what it keeps, besides -/
theorem WP.gw {d j pc : Nat} {ls st : List mV} {S : mSh} {M : mMem} {Q : Option mV → mSh → mMem → Prop} (h : WP PR d j pc ls st S M Q) (h0 : 0 ≤ sN S) : WP PR d j pc ls st S M (fun r S' M' => Q r S' M' ∧ Grow S M S' M' ∧ GrF S S') := by
  obtain ⟨n, ⟨r, S', M'⟩, h1, h2⟩ := h
  exact ⟨n, ⟨r, S', M'⟩, h1, h2, ex_grow PR_prok.1 _ _ _ _ _ _ _ _ _ _ _ h1 (mAt_suf PR j pc) h0, ex_growF PR_prok.1 _ _ _ _ _ _ _ _ _ _ _ h1 (mAt_suf PR j pc) h0⟩
/-- one case of the law: both calls, the same answer -/
theorem twoI {n : Int} {E F : mSh → mMem → (Option mV → mSh → mMem → Prop) → Prop} (t : TwoI n E F) {d d1 d2 j1 j2 : Nat} {l1 l2 : List mV} (hE : E = fun S M Q => WP PR d1 j1 0 l1 [] S M Q) (hF : F = fun S M Q => WP PR d2 j2 0 l2 [] S M Q) (hd1 : d1 ≤ d) (hd2 : d2 ≤ d) {S : mSh} {M : mMem} {Q : Option mV → mSh → mMem → Prop} (h : CP n S M) (hn : n < 512)
    (k : ∀ v S1 M1, Lay S1 → sL S1 (-1) = sL S (-1) → M1 (-1) = M (-1) → (∀ Q2 : Option mV → mSh → mMem → Prop, (∀ S2 M2, CP (n + 1) S2 M2 → sL S2 (-1) = sL S (-1) → M2 (-1) = M (-1) → Q2 (some (vI v)) S2 M2) → WP PR d j2 0 l2 [] S1 M1 Q2) → Q (some (vI v)) S1 M1) : WP PR d j1 0 l1 [] S M Q := by
  have h0 : 0 ≤ sN S := by have := (h.lay 1 (by decide) (by decide)).1; omega
  have a := t S M h hn
  rw [hE] at a
  refine (WP.gw a h0).mono hd1 (fun r S1 M1 q => ?_)
  obtain ⟨⟨v, rfl, q1⟩, q2, q3⟩ := q
  rw [hF] at q1
  refine k v S1 M1 (h.lay.gf q3) q2.2.2.1 q2.2.2.2 (fun Q2 kk => (WP.gw q1 (Int.le_trans h0 q2.1)).mono hd2 (fun r2 S2 M2 z => ?_))
  obtain ⟨⟨rfl, z1⟩, z2, -⟩ := z
  exact kk S2 M2 z1 (z2.2.2.1.trans q2.2.2.1) (z2.2.2.2.trans q2.2.2.2)
theorem twoL {n : Int} {E F : mSh → mMem → (Option mV → mSh → mMem → Prop) → Prop} (t : TwoL n E F) {d d1 d2 j1 j2 : Nat} {l1 l2 : List mV} (hE : E = fun S M Q => WP PR d1 j1 0 l1 [] S M Q) (hF : F = fun S M Q => WP PR d2 j2 0 l2 [] S M Q) (hd1 : d1 ≤ d) (hd2 : d2 ≤ d) {S : mSh} {M : mMem} {Q : Option mV → mSh → mMem → Prop} (h : CP n S M) (hn : n < 512)
    (k : ∀ v S1 M1, Lay S1 → sL S1 (-1) = sL S (-1) → M1 (-1) = M (-1) → (∀ Q2 : Option mV → mSh → mMem → Prop, (∀ S2 M2, CP (n + 1) S2 M2 → sL S2 (-1) = sL S (-1) → M2 (-1) = M (-1) → Q2 (some (vL v)) S2 M2) → WP PR d j2 0 l2 [] S1 M1 Q2) → Q (some (vL v)) S1 M1) : WP PR d j1 0 l1 [] S M Q := by
  have h0 : 0 ≤ sN S := by have := (h.lay 1 (by decide) (by decide)).1; omega
  have a := t S M h hn
  rw [hE] at a
  refine (WP.gw a h0).mono hd1 (fun r S1 M1 q => ?_)
  obtain ⟨⟨v, rfl, q1⟩, q2, q3⟩ := q
  rw [hF] at q1
  refine k v S1 M1 (h.lay.gf q3) q2.2.2.1 q2.2.2.2 (fun Q2 kk => (WP.gw q1 (Int.le_trans h0 q2.1)).mono hd2 (fun r2 S2 M2 z => ?_))
  obtain ⟨⟨rfl, z1⟩, z2, -⟩ := z
  exact kk S2 M2 z1 (z2.2.2.1.trans q2.2.2.1) (z2.2.2.2.trans q2.2.2.2)
