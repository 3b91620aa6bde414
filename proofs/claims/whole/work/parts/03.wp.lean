/-! Rules over the mini machine: fuel and depth may grow; WP of a rest of a method; blocks, branches, calls, returns. -/
theorem pif_some {α : Type} {c : Prop} {a b : Option α} {r : α} (h : pif c a b = some r) : (c ∧ a = some r) ∨ (¬ c ∧ b = some r) := by
  by_cases hc : c
  · rw [pif_t hc] at h; exact Or.inl ⟨hc, h⟩
  · rw [pif_f hc] at h; exact Or.inr ⟨hc, h⟩
theorem ex_mono (P : List mMeth) : ∀ (n d d' j : Nat) (cs : List mEnt) (ls st : List mV) (S : mSh) (M : mMem) (r : Option mV × mSh × mMem), d ≤ d' → ex P n d j cs ls st S M = some r → ex P (n + 1) d' j cs ls st S M = some r := by
  intro n
  induction n with
  | zero => intro d d' j cs ls st S M r hd h; rw [ex_0] at h; cases h
  | succ n ih =>
    intro d d' j cs ls st S M r hd h
    cases cs with
    | nil => rw [ex_nil] at h; cases h
    | cons q cs =>
      obtain ⟨pc, ins, inf⟩ := q
      rw [ex_cons, exB.eq_def] at h ⊢
      cases hp : pl ins inf ls st S M with
      | some x =>
        obtain ⟨c, ls', st', S', M'⟩ := x
        rw [hp] at h
        cases c with
        | none => exact ih _ _ _ _ _ _ _ _ _ hd h
        | some c =>
          dsimp only at h ⊢
          rcases pif_some h with ⟨hc, h⟩ | ⟨hc, h⟩
          · rw [pif_t hc]; exact ih _ _ _ _ _ _ _ _ _ hd h
          · cases h
      | none =>
        rw [hp] at h
        dsimp only at h ⊢
        cases hj : jm pc ins st with
        | some x =>
          obtain ⟨c, t, st'⟩ := x
          rw [hj] at h
          dsimp only at h ⊢
          rcases pif_some h with ⟨hc, h⟩ | ⟨hc, h⟩
          · rw [pif_t hc]; exact ih _ _ _ _ _ _ _ _ _ hd h
          · rw [pif_f hc]; exact ih _ _ _ _ _ _ _ _ _ hd h
        | none =>
          rw [hj] at h
          dsimp only at h ⊢
          cases hr : rt (mRet P j) ins st with
          | some x =>
            obtain ⟨c, v⟩ := x
            rw [hr] at h
            exact h
          | none =>
            rw [hr] at h
            dsimp only at h ⊢
            cases d with
            | zero => cases h
            | succ d =>
              cases d' with
              | zero => omega
              | succ d' =>
                dsimp only at h ⊢
                cases hca : ca P ins inf st S with
                | none => rw [hca] at h; cases h
                | some x =>
                  obtain ⟨c, q, las, st'⟩ := x
                  rw [hca] at h
                  dsimp only at h ⊢
                  rcases pif_some h with ⟨hc, h⟩ | ⟨hc, h⟩
                  · rw [pif_t hc]
                    cases he : ex P n d q (mCode P q) las [] S M with
                    | none => rw [he] at h; cases h
                    | some x =>
                      obtain ⟨v, S', M'⟩ := x
                      rw [he] at h
                      rw [ih d d' _ _ _ _ _ _ _ (by omega) he]
                      exact ih _ _ _ _ _ _ _ _ _ hd h
                  · cases h
theorem ex_le (P : List mMeth) {n n' d d' j : Nat} {cs : List mEnt} {ls st : List mV} {S : mSh} {M : mMem} {r : Option mV × mSh × mMem} (hn : n ≤ n') (hd : d ≤ d') (h : ex P n d j cs ls st S M = some r) : ex P (n' + 1) d' j cs ls st S M = some r := by
  obtain ⟨k, rfl⟩ : ∃ k, n' = n + k := ⟨n' - n, by omega⟩
  clear hn
  induction k with
  | zero => exact ex_mono P n d d' j cs ls st S M r hd h
  | succ k ih => exact ex_mono P _ d' d' j cs ls st S M r (Nat.le_refl _) ih
/-- the rest of method j from pc on comes to its end, with Q -/
def WP (P : List mMeth) (d j pc : Nat) (ls st : List mV) (S : mSh) (M : mMem) (Q : Option mV → mSh → mMem → Prop) : Prop :=
  ∃ n r, ex P n d j (mAt P j pc) ls st S M = some r ∧ Q r.1 r.2.1 r.2.2
theorem WP.mono {P : List mMeth} {d d' j pc : Nat} {ls st : List mV} {S : mSh} {M : mMem} {Q Q' : Option mV → mSh → mMem → Prop} (h : WP P d j pc ls st S M Q) (hd : d ≤ d') (hQ : ∀ r S' M', Q r S' M' → Q' r S' M') : WP P d' j pc ls st S M Q' := by
  obtain ⟨n, r, h1, h2⟩ := h
  exact ⟨n + 1, r, ex_mono P _ _ _ _ _ _ _ _ _ _ hd h1, hQ _ _ _ h2⟩
theorem WP.dm {P : List mMeth} {d d' j pc : Nat} {ls st : List mV} {S : mSh} {M : mMem} {Q : Option mV → mSh → mMem → Prop} (hd : d ≤ d') (h : WP P d j pc ls st S M Q) : WP P d' j pc ls st S M Q := h.mono hd (fun _ _ _ h => h)
theorem WP.post {P : List mMeth} {d j pc : Nat} {ls st : List mV} {S : mSh} {M : mMem} {Q Q' : Option mV → mSh → mMem → Prop} (h : WP P d j pc ls st S M Q) (hQ : ∀ r S' M', Q r S' M' → Q' r S' M') : WP P d j pc ls st S M Q' := h.mono (Nat.le_refl _) hQ
/-- a straight stretch: its conditions, then what is behind it -/
def wpl : List mEnt → List mV → List mV → mSh → mMem → (List mV → List mV → mSh → mMem → Prop) → Prop
  | [], ls, st, S, M, K => K ls st S M
  | (_, ins, inf) :: cs, ls, st, S, M, K => match pl ins inf ls st S M with
    | some (none, ls', st', S', M') => wpl cs ls' st' S' M' K
    | some (some c, ls', st', S', M') => c ∧ wpl cs ls' st' S' M' K
    | none => False
theorem wpl_ex {P : List mMeth} {d j : Nat} {rest : List mEnt} {Q : Option mV → mSh → mMem → Prop} {K : List mV → List mV → mSh → mMem → Prop}
    (hK : ∀ ls st S M, K ls st S M → ∃ n r, ex P n d j rest ls st S M = some r ∧ Q r.1 r.2.1 r.2.2) :
    ∀ (B : List mEnt) (ls st : List mV) (S : mSh) (M : mMem), wpl B ls st S M K → ∃ n r, ex P n d j (B ++ rest) ls st S M = some r ∧ Q r.1 r.2.1 r.2.2 := by
  intro B
  induction B with
  | nil => intro ls st S M h; exact hK _ _ _ _ h
  | cons q B ih =>
    intro ls st S M h
    obtain ⟨pc, ins, inf⟩ := q
    rw [wpl] at h
    cases hp : pl ins inf ls st S M with
    | none => rw [hp] at h; exact h.elim
    | some x =>
      obtain ⟨c, ls', st', S', M'⟩ := x
      rw [hp] at h
      cases c with
      | none =>
        obtain ⟨n, r, h1, h2⟩ := ih _ _ _ _ h
        refine ⟨n + 1, r, ?_, h2⟩
        rw [List.cons_append, ex_cons, exB.eq_def, hp]; exact h1
      | some c =>
        obtain ⟨hc, h⟩ := h
        obtain ⟨n, r, h1, h2⟩ := ih _ _ _ _ h
        refine ⟨n + 1, r, ?_, h2⟩
        rw [List.cons_append, ex_cons, exB.eq_def, hp]
        dsimp only
        rw [pif_t hc]; exact h1
section WPR
variable {P : List mMeth} {d j pc : Nat} {ls st : List mV} {S : mSh} {M : mMem} {Q : Option mV → mSh → mMem → Prop}
/-- a block that runs on into another -/
theorem WP.blk (pc' : Nat) (B : List mEnt) (h : mAt P j pc = B ++ mAt P j pc') (k : wpl B ls st S M (fun ls st S M => WP P d j pc' ls st S M Q)) : WP P d j pc ls st S M Q := by
  obtain ⟨n, r, h1, h2⟩ := wpl_ex (rest := mAt P j pc') (d := d) (P := P) (j := j) (Q := Q) (fun _ _ _ _ h => h) B ls st S M k
  exact ⟨n, r, by rw [h]; exact h1, h2⟩
/-- at a jump -/
theorem ex_jm {cs : List mEnt} {pcB t : Nat} {ins : Instr} {inf : mInf} {c : Prop} {st' : List mV} (hp : pl ins inf ls st S M = none) (hj : jm pcB ins st = some (c, t, st'))
    (ht : c → WP P d j t ls st' S M Q) (hf : ¬ c → ∃ n r, ex P n d j cs ls st' S M = some r ∧ Q r.1 r.2.1 r.2.2) : ∃ n r, ex P n d j ((pcB, ins, inf) :: cs) ls st S M = some r ∧ Q r.1 r.2.1 r.2.2 := by
  by_cases hc : c
  · obtain ⟨n, r, h1, h2⟩ := ht hc
    refine ⟨n + 1, r, ?_, h2⟩
    rw [ex_cons, exB.eq_def, hp]; dsimp only; rw [hj]; dsimp only; rw [pif_t hc]; exact h1
  · obtain ⟨n, r, h1, h2⟩ := hf hc
    refine ⟨n + 1, r, ?_, h2⟩
    rw [ex_cons, exB.eq_def, hp]; dsimp only; rw [hj]; dsimp only; rw [pif_f hc]; exact h1
/-- a block that ends with a jump -/
theorem WP.br (pc' pcB : Nat) (ins : Instr) (inf : mInf) (B : List mEnt) (h : mAt P j pc = B ++ (pcB, ins, inf) :: mAt P j pc')
    (k : wpl B ls st S M (fun ls st S M => pl ins inf ls st S M = none ∧ match jm pcB ins st with
      | some (c, t, st') => (c → WP P d j t ls st' S M Q) ∧ (¬ c → WP P d j pc' ls st' S M Q)
      | none => False)) : WP P d j pc ls st S M Q := by
  obtain ⟨n, r, h1, h2⟩ := wpl_ex (rest := (pcB, ins, inf) :: mAt P j pc') (d := d) (P := P) (j := j) (Q := Q) (fun ls st S M h => by
    obtain ⟨hp, h⟩ := h
    cases hj : jm pcB ins st with
    | none => rw [hj] at h; exact h.elim
    | some x =>
      obtain ⟨c, t, st'⟩ := x
      rw [hj] at h
      exact ex_jm hp hj h.1 h.2) B ls st S M k
  exact ⟨n, r, by rw [h]; exact h1, h2⟩
/-- a block that ends with a jump that is always taken (a goto, a switch) -/
theorem WP.go (pcB : Nat) (ins : Instr) (inf : mInf) (B cs : List mEnt) (h : mAt P j pc = B ++ (pcB, ins, inf) :: cs)
    (k : wpl B ls st S M (fun ls st S M => pl ins inf ls st S M = none ∧ match jm pcB ins st with
      | some (c, t, st') => c ∧ WP P d j t ls st' S M Q
      | none => False)) : WP P d j pc ls st S M Q := by
  obtain ⟨n, r, h1, h2⟩ := wpl_ex (rest := (pcB, ins, inf) :: cs) (d := d) (P := P) (j := j) (Q := Q) (fun ls st S M h => by
    obtain ⟨hp, h⟩ := h
    cases hj : jm pcB ins st with
    | none => rw [hj] at h; exact h.elim
    | some x =>
      obtain ⟨c, t, st'⟩ := x
      rw [hj] at h
      exact ex_jm hp hj (fun _ => h.2) (fun hn => absurd h.1 hn)) B ls st S M k
  exact ⟨n, r, by rw [h]; exact h1, h2⟩
/-- a block that ends with a return -/
theorem WP.ret (pcB : Nat) (ins : Instr) (inf : mInf) (B cs : List mEnt) (h : mAt P j pc = B ++ (pcB, ins, inf) :: cs)
    (k : wpl B ls st S M (fun ls st S M => pl ins inf ls st S M = none ∧ jm pcB ins st = none ∧ match rt (mRet P j) ins st with
      | some (c, r) => c ∧ Q r S M
      | none => False)) : WP P d j pc ls st S M Q := by
  obtain ⟨n, r, h1, h2⟩ := wpl_ex (rest := (pcB, ins, inf) :: cs) (d := d) (P := P) (j := j) (Q := Q) (fun ls st S M h => by
    obtain ⟨hp, hj, h⟩ := h
    cases hr : rt (mRet P j) ins st with
    | none => rw [hr] at h; exact h.elim
    | some x =>
      obtain ⟨c, v⟩ := x
      rw [hr] at h
      refine ⟨1, (v, S, M), ?_, h.2⟩
      rw [ex_cons, exB.eq_def, hp]; dsimp only; rw [hj]; dsimp only; rw [hr]; dsimp only; rw [pif_t h.1]) B ls st S M k
  exact ⟨n, r, by rw [h]; exact h1, h2⟩
/-- a block that ends with a call of an own method -/
theorem WP.call (pc' pcB : Nat) (ins : Instr) (inf : mInf) (B : List mEnt) (h : mAt P j pc = B ++ (pcB, ins, inf) :: mAt P j pc')
    (k : wpl B ls st S M (fun ls st S M => pl ins inf ls st S M = none ∧ jm pcB ins st = none ∧ rt (mRet P j) ins st = none ∧ match ca P ins inf st S with
      | some (c, q, las, st') => c ∧ mAt P q 0 = mCode P q ∧ WP P d q 0 las [] S M (fun r S' M' => WP P (d + 1) j pc' ls (r.toList ++ st') S' M' Q)
      | none => False)) : WP P (d + 1) j pc ls st S M Q := by
  obtain ⟨n, r, h1, h2⟩ := wpl_ex (rest := (pcB, ins, inf) :: mAt P j pc') (d := d + 1) (P := P) (j := j) (Q := Q) (fun ls st S M h => by
    obtain ⟨hp, hj, hr, h⟩ := h
    cases hc : ca P ins inf st S with
    | none => rw [hc] at h; exact h.elim
    | some x =>
      obtain ⟨c, q, las, st'⟩ := x
      rw [hc] at h
      obtain ⟨hc1, h0, n1, r1, e1, n2, r2, e2, hq⟩ := h
      rw [h0] at e1
      refine ⟨max n1 n2 + 1 + 1, r2, ?_, hq⟩
      have e1' := ex_le P (Nat.le_max_left n1 n2) (Nat.le_refl d) e1
      have e2' := ex_le P (Nat.le_max_right n1 n2) (Nat.le_refl (d + 1)) e2
      obtain ⟨v, S', M'⟩ := r1
      rw [ex_cons, exB.eq_def, hp]; dsimp only; rw [hj]; dsimp only; rw [hr]; dsimp only; rw [hc]; dsimp only; rw [pif_t hc1, e1']
      exact e2') B ls st S M k
  exact ⟨n, r, by rw [h]; exact h1, h2⟩
theorem take_drop_of {k : Nat} {l r : List mEnt} (h : l.drop k = r) : l = l.take k ++ r := by rw [← h, List.take_append_drop]
theorem WP.bl (k pc' : Nat) (h : (mAt P j pc).drop k = mAt P j pc') (kk : wpl ((mAt P j pc).take k) ls st S M (fun ls st S M => WP P d j pc' ls st S M Q)) : WP P d j pc ls st S M Q := WP.blk pc' _ (take_drop_of h) kk
theorem WP.gt (k pcB : Nat) (off : Int) (inf : mInf) (cs : List mEnt) (t : Nat) (h : (mAt P j pc).drop k = (pcB, .goto off, inf) :: cs) (ht : ((pcB : Int) + off).toNat = t) (kk : wpl ((mAt P j pc).take k) ls st S M (fun ls st S M => WP P d j t ls st S M Q)) : WP P d j pc ls st S M Q := by
  subst ht
  refine WP.go pcB (.goto off) inf _ cs (take_drop_of h) ?_
  have e : (fun (ls st : List mV) (S : mSh) (M : mMem) => WP P d j ((pcB : Int) + off).toNat ls st S M Q) = (fun (ls st : List mV) (S : mSh) (M : mMem) => pl (.goto off) inf ls st S M = none ∧ match jm pcB (.goto off) st with
      | some (c, t, st') => c ∧ WP P d j t ls st' S M Q
      | none => False) := by
    funext ls st S M
    exact propext ⟨fun h => ⟨rfl, trivial, h⟩, fun h => h.2.2⟩
  rw [← e]
  exact kk
theorem wpl_mono {K K' : List mV → List mV → mSh → mMem → Prop} (hK : ∀ ls st S M, K ls st S M → K' ls st S M) : ∀ (B : List mEnt) (ls st : List mV) (S : mSh) (M : mMem), wpl B ls st S M K → wpl B ls st S M K' := by
  intro B
  induction B with
  | nil => intro ls st S M h; exact hK _ _ _ _ h
  | cons q B ih =>
    intro ls st S M h
    obtain ⟨pc, ins, inf⟩ := q
    rw [wpl] at h ⊢
    cases hp : pl ins inf ls st S M with
    | none => rw [hp] at h; exact h.elim
    | some x =>
      obtain ⟨c, ls', st', S', M'⟩ := x
      rw [hp] at h
      cases c with
      | none => exact ih _ _ _ _ h
      | some c => exact ⟨h.1, ih _ _ _ _ h.2⟩
theorem WP.if0 (k pc' pcB : Nat) (c : Jvm.ClassFile.Cond) (off : Int) (inf : mInf) (t : Nat) (h : (mAt P j pc).drop k = (pcB, .ifCond c off, inf) :: mAt P j pc') (ht : ((pcB : Int) + off).toNat = t)
    (kk : wpl ((mAt P j pc).take k) ls st S M (fun ls st S M => match st with
      | .inl x :: st' => (jc c x 0 → WP P d j t ls st' S M Q) ∧ (¬ jc c x 0 → WP P d j pc' ls st' S M Q)
      | _ => False)) : WP P d j pc ls st S M Q := by
  subst ht
  refine WP.br pc' pcB (.ifCond c off) inf _ (take_drop_of h) (wpl_mono (fun ls st S M h => ⟨rfl, ?_⟩) _ _ _ _ _ kk)
  match st, h with
  | .inl x :: st', h => exact h
theorem WP.if2 (k pc' pcB : Nat) (c : Jvm.ClassFile.Cond) (off : Int) (inf : mInf) (t : Nat) (h : (mAt P j pc).drop k = (pcB, .if_icmp c off, inf) :: mAt P j pc') (ht : ((pcB : Int) + off).toNat = t)
    (kk : wpl ((mAt P j pc).take k) ls st S M (fun ls st S M => match st with
      | .inl y :: .inl x :: st' => (jc c x y → WP P d j t ls st' S M Q) ∧ (¬ jc c x y → WP P d j pc' ls st' S M Q)
      | _ => False)) : WP P d j pc ls st S M Q := by
  subst ht
  refine WP.br pc' pcB (.if_icmp c off) inf _ (take_drop_of h) (wpl_mono (fun ls st S M h => ⟨rfl, ?_⟩) _ _ _ _ _ kk)
  match st, h with
  | .inl y :: .inl x :: st', h => exact h
theorem WP.ifn (k pc' pcB : Nat) (off : Int) (inf : mInf) (t : Nat) (h : (mAt P j pc).drop k = (pcB, .ifnull off, inf) :: mAt P j pc') (ht : ((pcB : Int) + off).toNat = t)
    (kk : wpl ((mAt P j pc).take k) ls st S M (fun ls st S M => match st with
      | .inr (.inr (.inl a)) :: st' => (a = 0 → WP P d j t ls st' S M Q) ∧ (¬ a = 0 → WP P d j pc' ls st' S M Q)
      | _ => False)) : WP P d j pc ls st S M Q := by
  subst ht
  refine WP.br pc' pcB (.ifnull off) inf _ (take_drop_of h) (wpl_mono (fun ls st S M h => ⟨rfl, ?_⟩) _ _ _ _ _ kk)
  match st, h with
  | .inr (.inr (.inl a)) :: st', h => exact h
theorem WP.sw (k pcB : Nat) (dflt lo hi : Int) (offs : Array Int) (inf : mInf) (cs : List mEnt) (h : (mAt P j pc).drop k = (pcB, .tableswitch dflt lo hi offs, inf) :: cs)
    (kk : wpl ((mAt P j pc).take k) ls st S M (fun ls st S M => match st with
      | .inl x :: st' => WP P d j (swT pcB x dflt lo hi offs.toList) ls st' S M Q
      | _ => False)) : WP P d j pc ls st S M Q := by
  refine WP.go pcB (.tableswitch dflt lo hi offs) inf _ cs (take_drop_of h) (wpl_mono (fun ls st S M h => ⟨rfl, ?_⟩) _ _ _ _ _ kk)
  match st, h with
  | .inl x :: st', h => exact ⟨trivial, h⟩
theorem WP.re (k pcB : Nat) (ins : Instr) (inf : mInf) (cs : List mEnt) (h : (mAt P j pc).drop k = (pcB, ins, inf) :: cs)
    (kk : wpl ((mAt P j pc).take k) ls st S M (fun ls st S M => pl ins inf ls st S M = none ∧ jm pcB ins st = none ∧ match rt (mRet P j) ins st with
      | some (c, r) => c ∧ Q r S M
      | none => False)) : WP P d j pc ls st S M Q := WP.ret pcB ins inf _ cs (take_drop_of h) kk
theorem WP.ca (k pc' pcB : Nat) (ins : Instr) (inf : mInf) (h : (mAt P j pc).drop k = (pcB, ins, inf) :: mAt P j pc')
    (kk : wpl ((mAt P j pc).take k) ls st S M (fun ls st S M => pl ins inf ls st S M = none ∧ jm pcB ins st = none ∧ rt (mRet P j) ins st = none ∧ match ca P ins inf st S with
      | some (c, q, las, st') => c ∧ mAt P q 0 = mCode P q ∧ WP P d q 0 las [] S M (fun r S' M' => WP P (d + 1) j pc' ls (r.toList ++ st') S' M' Q)
      | none => False)) : WP P (d + 1) j pc ls st S M Q := WP.call pc' pcB ins inf _ (take_drop_of h) kk
end WPR
theorem inA_of {S : mSh} {a kd i n : Int} (o : isO S a kd) (l : sL S a = n) (h : 0 ≤ i ∧ i < n) : inA S a kd i := ⟨o, h.1, l.symm ▸ h.2⟩
theorem isO_ne {S : mSh} {a b k k' : Int} (h : isO S a k) (h' : isO S b k') (n : k ≠ k') : a ≠ b := fun e => n (by rw [← h.2.2, ← h'.2.2, e])
theorem up_s (M : mMem) (a i v : Int) : up M a i v a i = v := if_pos ⟨rfl, rfl⟩
theorem up_na {M : mMem} {a i v b k : Int} (h : b ≠ a) : up M a i v b k = M b k := if_neg (fun e => h e.1)
theorem up_ni {M : mMem} {a i v b k : Int} (h : k ≠ i) : up M a i v b k = M b k := if_neg (fun e => h e.2)
theorem lcp_lt {x y : Int} : lcp x y < 0 ↔ x < y := by unfold lcp; split <;> (try split) <;> omega
theorem lcp_gt {x y : Int} : 0 < lcp x y ↔ y < x := by unfold lcp; split <;> (try split) <;> omega
theorem lcp_le {x y : Int} : lcp x y ≤ 0 ↔ x ≤ y := by unfold lcp; split <;> (try split) <;> omega
theorem lcp_ge {x y : Int} : 0 ≤ lcp x y ↔ y ≤ x := by unfold lcp; split <;> (try split) <;> omega
theorem lcp_eq {x y : Int} : lcp x y = 0 ↔ x = y := by unfold lcp; split <;> (try split) <;> omega
theorem w32_id {x : Int} (h : -2147483648 ≤ x ∧ x ≤ 2147483647) : w32 x = x := by unfold w32; rw [Int.bmod_def]; omega
