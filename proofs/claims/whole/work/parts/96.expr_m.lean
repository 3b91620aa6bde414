/-! The reference reads a sum or a test: the whole. -/
section RX
variable {d : Nat} {S : mSh} {tp : Int → Int} {len lf : Int} {laws : Bool}
theorem rm_all (L : Lay S) {x1 : Int} (hlf : (laws = true ∧ lf = 0) ∨ (laws = false ∧ ¬ lf = 0)) : ∀ n : Nat, RM0 S d x1 lf laws tp len n ∧ RLs S d x1 lf laws tp len 1 6 n ∧ RMs S d x1 lf laws tp len 2 6 n ∧ RLs S d x1 lf laws tp len 3 5 n ∧ RMs S d x1 lf laws tp len 4 5 n ∧ RMt S d x1 lf laws tp len 5 4 4 n ∧ RMt S d x1 lf laws tp len 6 3 4 n ∧ RLt S d x1 lf laws tp len 7 2 n ∧ RMt S d x1 lf laws tp len 8 2 2 n ∧ RLt S d x1 lf laws tp len 9 1 n ∧ RMt S d x1 lf laws tp len 10 1 1 n := by
  intro n
  induction n with
  | zero =>
    have a2 : ∀ nt l, RMs S d x1 lf laws tp len nt l 0 := fun nt l T p nl dp P M Q A _ h _ _ hmu => by have := h.bds; exact absurd hmu (by omega)
    have a3 : ∀ nt l, RLs S d x1 lf laws tp len nt l 0 := fun nt l p nl dp P M Q A c0 n0 M0 h _ _ _ hmu => by have := h.pl; exact absurd hmu (by omega)
    have a4 : ∀ nt l l', RMt S d x1 lf laws tp len nt l l' 0 := fun nt l l' p nl dp P M Q A _ h _ _ _ _ hmu => by have := h.bds; exact absurd hmu (by omega)
    have a5 : ∀ nt l, RLt S d x1 lf laws tp len nt l 0 := fun nt l p nl dp P M Q A c0 n0 M0 h _ _ _ _ _ hmu => by have := h.pl; exact absurd hmu (by omega)
    exact ⟨fun T p nl dp P M Q A _ h _ hmu => by have := h.bds; exact absurd hmu (by omega), a3 _ _, a2 _ _, a3 _ _, a2 _ _, a4 _ _ _, a4 _ _ _, a5 _ _, a4 _ _ _, a5 _ _, a4 _ _ _⟩
  | succ n ih =>
    obtain ⟨i0, i1, i2, i3, i4, i5, i6, i7, i8, i9, i10⟩ := ih
    exact ⟨rm_part L hlf n i4, rm_termL L n i0 i1, rm_term L n i0 i1, rm_sumL L n i2 i3, rm_sum L n i2 i3, rm_cmp L n i4, rm_plain L n i5 i6 i10, rm_bothL L n i6 i7, rm_both L n i6 i7, rm_testL L n i8 i9, rm_test L n i8 i9⟩
/-- the reference between sums and tests -/
def EPre (lf : Int) (tp : Int → Int) (len p nl : Int) (M : mMem) : Prop := RdM tp len p M ∧ M 200 26 = nl ∧ M 200 19 = 0 ∧ M 200 20 = lf ∧ (0 ≤ M 200 23 ∧ M 200 23 ≤ p) ∧ (0 ≤ nl ∧ nl ≤ 50)
def BadE (M0 : mMem) (f : Int) (M : mMem) : Prop := (M 200 19 = 1 ∧ M 200 18 = f) ∧ FrPs M0 M ∧ (0 ≤ M 200 23 ∧ M 200 23 ≤ 400)
theorem s_rdEx (L : Lay S) (hlf : (laws = true ∧ lf = 0) ∨ (laws = false ∧ ¬ lf = 0)) {x1 p nl : Int} {nt : Nat} (hx : (x1 = 0 ∧ nt = 4) ∨ (x1 = 1 ∧ nt = 10)) {M : mMem} {Q : Option mV → mSh → mMem → Prop} (h : EPre lf tp len p nl M) (ht : TabM M)
    (kG : ∀ q m D M', prs tp len laws FU nt D0 p nl 0 = .inr (q, m, D) → EPre lf tp len q m M' → p < q → SegM (cdO M') (M 200 23) (M' 200 23) (m - nl) D → (x1 = 1 → isB D) → (∀ i, 0 ≤ i → i < M 200 23 → cdO M' i = cdO M i) → FrPs M M' → Q none S M')
    (kB : ∀ f M', prs tp len laws FU nt D0 p nl 0 = .inl f → BadE M f M' → Q none S M') : e_X9_readExpression (d + 6) x1 S M Q := by
  obtain ⟨h1, h2, h3, h4, h5, h6⟩ := h
  have hp := h1.2.2.2.1
  have hl := h1.1.1
  generalize hM1 : up (up M 200 29 0) 200 30 0 = M1
  have ne : ∀ a i, ¬ (a = 200 ∧ (i = 29 ∨ i = 30)) → M1 a i = M a i := fun a i q => by
    rw [← hM1]
    by_cases ea : a = 200
    · subst ea; rw [up_ni (by omega), up_ni (by omega)]
    · rw [up_na ea, up_na ea]
  have n23 : M1 200 23 = M 200 23 := ne _ _ (by omega)
  have c1 : cdO M1 = cdO M := funext fun i => cdO_eq (ne _ _ (by omega)) (ne _ _ (by omega))
  have f1 : FrPs M M1 := fun a i q => ne a i (by omega)
  have m1 : MPs lf tp len p nl 0 [] M1 := ⟨h1.congr (fun a i q => ne a i (by omega)), by rw [ne _ _ (by omega)]; exact h2, by rw [← hM1, up_s], by rw [ne _ _ (by omega)]; exact h3, by rw [ne _ _ (by omega)]; exact h4, by show M1 200 29 = 0; rw [← hM1, up_ni (by decide), up_s], trivial, by rw [n23, ln_0]; omega, h6, by decide⟩
  -- the end, without a fault and with one
  have fin : ∀ (bt : Bool) (lvl q m : Int) (D : Den) (M2 : mMem), 1 ≤ lvl → (x1 = 1 → bt = true) → p < q → prs tp len laws FU nt D0 p nl 0 = .inr (q, m, D) → ResM bt lvl lf tp len M1 (M1 200 23) nl [] q m 0 D M2 → WX S d x1 4 M2 Q := by
    intro bt lvl q m D M2 hlv hbt hq eq gd
    refine b_X9_readExpression_20 L (fun w => absurd gd.pl.2.1 w) (fun _ => b_X9_readExpression_27 (fun _ => b_X9_readExpression_76 L (s_stl L (gd.up5 hlv) trivial (fun M3 m3 sg hB fe fr => b_X9_readExpression_81 (kG q m D M3 eq ?_ hq (by rw [← n23]; exact sg) (fun w => hB (hbt w)) (fun i q0 q1 => by rw [fe i q0 (by omega), c1]) (f1.tr fr))))) (fun w => absurd rfl w))
    obtain ⟨a1, a2, a3, a4, a5, a6, a7, a8, a9, a10⟩ := m3
    rw [ln_0] at a8
    exact ⟨a1, a2, a4, a5, by omega, a9⟩
  have bad : ∀ f M2 T', prs tp len laws FU nt D0 p nl 0 = .inl f → BadM M1 f M2 → WX S d x1 T' M2 Q := by
    intro f M2 T' eq b
    obtain ⟨b1, b2, P, b3, b4, b5⟩ := b
    refine b_X9_readExpression_20 L (fun _ => b_X9_readExpression_76 L (s_setW L P M2 b3 b4 b5 (fun M3 f3 r3 => b_X9_readExpression_81 (kB f M3 eq ⟨by rw [f3 _ _ (by omega), f3 _ _ (by omega)]; exact b1, (f1.tr b2).tr (FrPs.ofS f3), r3⟩)))) (fun w => absurd b1.1 (by omega))
  have ra := rm_all (d := d) (tp := tp) (len := len) (x1 := x1) L hlf FU
  refine b_X9_readExpression_0 L (fun hx0 => b_X9_readExpression_18 ?_) (fun q => b_X9_readExpression_14 ?_)
  · rw [hM1]
    obtain ⟨-, rfl⟩ : x1 = 0 ∧ nt = 4 := by omega
    refine ra.2.2.2.2.1 1 p nl 0 [] M1 Q D0 (Or.inl rfl) m1 (ht.mv f1) trivial (by unfold FU; omega) (fun q m D M2 eq es a1 a2 gd => ?_) bad
    obtain ⟨pend, g1, g2, g3⟩ := id gd
    have ok := okP_a.mp g1.2.2.2.2.2.2.1
    have hin : inn (pend ++ []) = -1 := (inn_a (by decide) ok.1 g2).trans rfl
    exact ex_bs L g1.2.2.2.1 (fun Q' kQ => s_bsNo L g1 (es.2 (by decide)) (es.1 (by decide)) (b_X9_behindSum_101 (fun _ => b_X9_behindSum_152 (fun w => absurd hin w) (fun _ => b_X9_behindSum_157 (fun w => absurd hx0 w) (fun _ => b_X9_behindSum_161 (kQ 4 M2 (fin false 5 _ m D M2 (by decide) (fun w => absurd w (by omega)) a1 eq gd))))) (fun w => absurd (hin.symm.trans w) (by decide))))
  · rw [hM1]
    obtain ⟨-, rfl⟩ : x1 = 1 ∧ nt = 10 := by omega
    refine ra.2.2.2.2.2.2.2.2.2.2 p nl 0 [] M1 Q D0 (fun w => absurd w (by decide)) m1 (ht.mv f1) trivial (by show ¬ (-1 : Int) = 32; decide) q (by unfold FU; omega) (fun q m D M2 eq es a1 a2 gd => ?_) bad
    obtain ⟨pend, g1, g2, g3⟩ := id gd
    have ok := okP_a.mp g1.2.2.2.2.2.2.1
    have lq := g1.bds
    have hin : inn (pend ++ []) = -1 := (inn_a (by decide) ok.1 g2).trans rfl
    exact ex_bt L g1.2.2.2.1 (fun Q' kQ => b_X9_behindTest_0 L (s_isWord L g1.1 (fun w => absurd w (es.1 (by decide))) (fun _ => b_X9_behindTest_7 (fun w => absurd rfl w) (fun _ => b_X9_behindTest_12 L (s_isWord L g1.1 (fun w => absurd w (es.2 (by decide))) (fun _ => b_X9_behindTest_19 (fun _ => b_X9_behindTest_76 L (s_inner L g1.2.2.2.2.2.1 (by omega) (b_X9_behindTest_80 (fun w => absurd hin w) (fun _ => b_X9_behindTest_84 (kQ 4 M2 (fin true 1 _ m D M2 (by decide) (fun _ => rfl) a1 eq gd)))))) (fun w => absurd rfl w)))) )))
end RX
