/-! The reference reads a sum of an order. -/
section OA
variable {d : Nat} {S : mSh} {M : mMem} {Q : Option mV → mSh → mMem → Prop} {tp : Int → Int} {len p nl lf : Int}
/-- what a sum of an order leaves: its two places, more code -/
def SumW (M : mMem) (at' : Int) (o : Option Den) (M' : mMem) : Prop := SecN (cdO M') (M' 200 23) (M' 223 at') (M' 223 (at' + 1)) o ∧ (∀ a i, ¬ ((a = 200 ∧ ((14 ≤ i ∧ i ≤ 19) ∨ i = 23 ∨ i = 26 ∨ i = 29 ∨ i = 30)) ∨ (211 ≤ a ∧ a ≤ 214) ∨ (a = 223 ∧ (i = at' ∨ i = at' + 1))) → M' a i = M a i) ∧ M 200 23 ≤ M' 200 23 ∧ (∀ i, 0 ≤ i → i < M 200 23 → cdO M' i = cdO M i)
theorem s_readSum (L : Lay S) (hlf : ¬ lf = 0) (h : EPre lf tp len p nl M) (ht : TabM M) {at' : Int} (ha : 0 ≤ at' ∧ at' + 1 < 120)
    (kG : ∀ q m D M', prs tp len false FU 4 D0 p nl 0 = .inr (q, m, D) → EPre lf tp len q m M' → p < q → SumW M at' (some D) M' → Q none S M')
    (kB : ∀ f M', prs tp len false FU 4 D0 p nl 0 = .inl f → BadR M f M' → Q none S M') : e_X9_readSum (d + 7) at' S M Q := by
  have f1 : ∀ a i, ¬ (a = 223 ∧ i = at') → up M 223 at' (M 200 23) a i = M a i := fun a i w => by
    by_cases ea : a = 223
    · subst ea; exact up_ni (by omega)
    · exact up_na ea
  have e1 : up M 223 at' (M 200 23) 223 at' = M 200 23 := up_s _ _ _ _
  refine b_X9_readSum_0 L (by omega) (fun w => absurd h.2.2.1 w) (fun _ => b_X9_readSum_17 L ?_)
  generalize up M 223 at' (M 200 23) = M1 at f1 e1
  have p1 : EPre lf tp len p nl M1 := h.cg (fun a i w => f1 a i (by omega))
  have c1 : cdO M1 = cdO M := funext fun i => cdO_eq (f1 _ _ (by omega)) (f1 _ _ (by omega))
  have n1 : M1 200 23 = M 200 23 := f1 _ _ (by omega)
  refine s_rdEx L (laws := false) (Or.inr ⟨rfl, hlf⟩) (nt := 4) (Or.inl ⟨rfl, rfl⟩) p1 (ht.mvT (fun a i w => f1 a i (by omega))) (fun q m D M2 eq p2 hq sg _ fe fr => b_X9_readSum_22 L (by omega) ?_) (fun f M2 eq b => b_X9_readSum_22 L (by omega) (kB f _ eq ⟨by rw [up_na (by decide), up_na (by decide)]; exact b.1, (FrTM.tr (fun a i w => f1 a i (by omega)) (FrTM.ofP b.2.1)).tr (fun a i w => up_na (by omega))⟩))
  have f3 : ∀ a i, ¬ (a = 223 ∧ i = at' + 1) → up M2 223 (at' + 1) (M2 200 23) a i = M2 a i := fun a i w => by
    by_cases ea : a = 223
    · subst ea; exact up_ni (by omega)
    · exact up_na ea
  have c3 : cdO (up M2 223 (at' + 1) (M2 200 23)) = cdO M2 := funext fun i => cdO_eq (f3 _ _ (by omega)) (f3 _ _ (by omega))
  have lt := sg.lt
  have h23 := h.2.2.2.2.1
  refine kG q m D _ eq (p2.cg (fun a i w => f3 a i (by omega))) hq ⟨?_, fun a i w => by rw [f3 _ _ (by omega), fr _ _ (by omega), f1 _ _ (by omega)], by rw [f3 _ _ (by omega)]; omega, fun i q0 q1 => by rw [c3, fe i q0 (by omega), c1]⟩
  rw [c3, f3 200 23 (by omega), up_s, f3 223 at' (by omega), fr 223 at' (by omega), e1]
  exact ⟨by omega, Int.le_refl _, m - nl, by have := p2.2.2.2.2.2; have := p1.2.2.2.2.2; omega, by rw [← n1]; exact sg⟩
theorem s_readSumB (L : Lay S) {M0 : mMem} {f at' : Int} (h : BadR M0 f M) (ha : 0 ≤ at' ∧ at' + 1 < 120) (k : ∀ M', BadR M0 f M' → Q none S M') : e_X9_readSum d at' S M Q :=
  b_X9_readSum_0 L (by omega) (fun _ => b_X9_readSum_22 L (by omega) (k _ ⟨by rw [up_na (by decide), up_na (by decide), up_na (by decide), up_na (by decide)]; exact h.1, h.2.tr (fun a i w => by rw [up_na (by omega), up_na (by omega)])⟩)) (fun w => absurd w (by rw [h.1.1]; decide))
end OA
