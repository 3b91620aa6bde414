/-- SoleraCellarModel.isSign(I)Z -/
abbrev e_X9_isSign (d : Nat) (a1 : Int) (S : mSh) (M : mMem) (Q : Option mV → mSh → mMem → Prop) : Prop := WP PR d 167 0 [vA 200, vI a1] [] S M Q
set_option maxRecDepth 100000 in
theorem b_X9_isSign_0 {d : Nat} {S : mSh} {M : mMem} {Q : Option mV → mSh → mMem → Prop} {x1 : Int} (L : Lay S) (kt : ¬ M 200 16 = 3 → WP PR d 167 22 [vA 200, vI x1] [] S M Q) (kf : M 200 16 = 3 → WP PR d 167 8 [vA 200, vI x1] [] S M Q) : WP PR d 167 0 [vA 200, vI x1] [] S M Q := by
  refine WP.if2 3 8 5 .ne 17 (0, 0, 0, 0) 22 rfl rfl ?_
  exact And.intro (lo200 L) (⟨kt, fun hc => kf (Decidable.not_not.mp hc)⟩)
set_option maxRecDepth 100000 in
theorem b_X9_isSign_8 {d : Nat} {S : mSh} {M : mMem} {Q : Option mV → mSh → mMem → Prop} {x1 : Int} (L : Lay S) (kt : ¬ (M 200 17) = x1 → WP PR d 167 22 [vA 200, vI x1] [] S M Q) (kf : (M 200 17) = x1 → WP PR d 167 18 [vA 200, vI x1] [] S M Q) : WP PR d 167 8 [vA 200, vI x1] [] S M Q := by
  refine WP.if0 5 18 15 .ne 7 (0, 0, 0, 0) 22 rfl rfl ?_
  exact And.intro (lo200 L) (⟨fun hc => kt (fun e => hc (lcp_eq.mpr e)), fun hc => kf (lcp_eq.mp (Decidable.not_not.mp hc))⟩)
set_option maxRecDepth 100000 in
theorem b_X9_isSign_18 {d : Nat} {S : mSh} {M : mMem} {Q : Option mV → mSh → mMem → Prop} {x1 : Int} (k : Q (some (vI 1)) S M) : WP PR d 167 18 [vA 200, vI x1] [] S M Q := by
  refine WP.gt 1 19 4 (0, 0, 0, 0) _ 23 rfl rfl ?_
  show WP PR d 167 23 [vA 200, vI x1] [vI 1] S M Q
  refine WP.re 0 23 .ireturn (0, 0, 0, 0) _ rfl ?_
  exact ⟨rfl, rfl, Or.inr rfl, k⟩
set_option maxRecDepth 100000 in
theorem b_X9_isSign_22 {d : Nat} {S : mSh} {M : mMem} {Q : Option mV → mSh → mMem → Prop} {x1 : Int} (k : Q (some (vI 0)) S M) : WP PR d 167 22 [vA 200, vI x1] [] S M Q := by
  refine WP.re 1 23 .ireturn (0, 0, 0, 0) _ rfl ?_
  exact ⟨rfl, rfl, Or.inl rfl, k⟩
/-- SoleraCellarModel.must(Z)V -/
abbrev e_X9_must (d : Nat) (a1 : Int) (S : mSh) (M : mMem) (Q : Option mV → mSh → mMem → Prop) : Prop := WP PR d 168 0 [vA 200, vI a1] [] S M Q
set_option maxRecDepth 100000 in
theorem b_X9_must_0 {d : Nat} {S : mSh} {M : mMem} {Q : Option mV → mSh → mMem → Prop} {x1 : Int} (L : Lay S) (kt : ¬ M 200 19 = 0 → WP PR d 168 24 [vA 200, vI x1] [] S M Q) (kf : M 200 19 = 0 → WP PR d 168 7 [vA 200, vI x1] [] S M Q) : WP PR d 168 0 [vA 200, vI x1] [] S M Q := by
  refine WP.if0 2 7 4 .ne 20 (0, 0, 0, 0) 24 rfl rfl ?_
  exact And.intro (lo200 L) (⟨kt, fun hc => kf (Decidable.not_not.mp hc)⟩)
set_option maxRecDepth 100000 in
theorem b_X9_must_7 {d : Nat} {S : mSh} {M : mMem} {Q : Option mV → mSh → mMem → Prop} {x1 : Int} (kt : ¬ x1 = 0 → WP PR d 168 24 [vA 200, vI x1] [] S M Q) (kf : x1 = 0 → WP PR d 168 11 [vA 200, vI x1] [] S M Q) : WP PR d 168 7 [vA 200, vI x1] [] S M Q := by
  refine WP.if0 1 11 8 .ne 16 (0, 0, 0, 0) 24 rfl rfl ?_
  exact ⟨kt, fun hc => kf (Decidable.not_not.mp hc)⟩
set_option maxRecDepth 100000 in
theorem b_X9_must_11 {d : Nat} {S : mSh} {M : mMem} {Q : Option mV → mSh → mMem → Prop} {x1 : Int} (L : Lay S) (k : Q (none) S (up (up M 200 19 1) 200 18 (M 200 14))) : WP PR d 168 11 [vA 200, vI x1] [] S M Q := by
  refine WP.if0 9 31 28 .ne 7 (0, 0, 0, 0) 35 rfl rfl ?_
  refine And.intro (⟨lo200 L, Or.inr rfl⟩) (And.intro (lo200 L) (And.intro (lo200 L) (And.intro (lo200 L) (⟨fun _ => ?_, fun h => absurd (show ¬ (1 : Int) = (0 : Int) by decide) h⟩))))
  show WP PR d 168 35 [vA 200, vI x1] [] S (up (up M 200 19 1) 200 18 (M 200 14)) Q
  refine WP.re 0 35 .return_ (0, 0, 0, 0) _ rfl ?_
  exact ⟨rfl, rfl, trivial, k⟩
set_option maxRecDepth 100000 in
theorem b_X9_must_24 {d : Nat} {S : mSh} {M : mMem} {Q : Option mV → mSh → mMem → Prop} {x1 : Int} (L : Lay S) (kt : ¬ M 200 19 = 0 → WP PR d 168 35 [vA 200, vI x1] [] S M Q) (kf : M 200 19 = 0 → WP PR d 168 31 [vA 200, vI x1] [] S M Q) : WP PR d 168 24 [vA 200, vI x1] [] S M Q := by
  refine WP.if0 2 31 28 .ne 7 (0, 0, 0, 0) 35 rfl rfl ?_
  exact And.intro (lo200 L) (⟨kt, fun hc => kf (Decidable.not_not.mp hc)⟩)
set_option maxRecDepth 100000 in
theorem b_X9_must_31 {d : Nat} {S : mSh} {M : mMem} {Q : Option mV → mSh → mMem → Prop} {x1 : Int} (L : Lay S) (k : WP PR d 165 0 [vA 200] [] S M (fun r S2 M2 => WP PR (d + 1) 168 35 [vA 200, vI x1] (r.toList ++ []) S2 M2 Q)) : WP PR (d + 1) 168 31 [vA 200, vI x1] [] S M Q := by
  refine WP.ca 1 35 32 (.invokevirtual 233) (0, 165, 0, 0) rfl ?_
  exact ⟨rfl, rfl, rfl, lo200 L, rfl, k⟩
set_option maxRecDepth 100000 in
theorem b_X9_must_35 {d : Nat} {S : mSh} {M : mMem} {Q : Option mV → mSh → mMem → Prop} {x1 : Int} (k : Q (none) S M) : WP PR d 168 35 [vA 200, vI x1] [] S M Q := by
  refine WP.re 0 35 .return_ (0, 0, 0, 0) _ rfl ?_
  exact ⟨rfl, rfl, trivial, k⟩
/-- SoleraCellarModel.number(JJ)I -/
abbrev e_X9_number (d : Nat) (a1 a2 : Int) (S : mSh) (M : mMem) (Q : Option mV → mSh → mMem → Prop) : Prop := WP PR d 169 0 [vA 200, vL a1, vU, vL a2, vU, vU] [] S M Q
set_option maxRecDepth 100000 in
theorem b_X9_number_0 {d : Nat} {S : mSh} {M : mMem} {Q : Option mV → mSh → mMem → Prop} {x1 x3 : Int} (L : Lay S) (kt : ¬ M 200 16 = 2 → WP PR d 169 32 [vA 200, vL x1, vU, vL x3, vU, vI (w32 (M 200 17))] [vA 200] S M Q) (kf : M 200 16 = 2 → WP PR d 169 16 [vA 200, vL x1, vU, vL x3, vU, vI (w32 (M 200 17))] [vA 200] S M Q) : WP PR d 169 0 [vA 200, vL x1, vU, vL x3, vU, vU] [] S M Q := by
  refine WP.if2 8 16 13 .ne 19 (0, 0, 0, 0) 32 rfl rfl ?_
  exact And.intro (lo200 L) (And.intro (lo200 L) (⟨kt, fun hc => kf (Decidable.not_not.mp hc)⟩))
set_option maxRecDepth 100000 in
theorem b_X9_number_16 {d : Nat} {S : mSh} {M : mMem} {Q : Option mV → mSh → mMem → Prop} {x1 x3 x5 : Int} (L : Lay S) (k : WP PR d 132 0 [vL (M 200 17), vU, vL x1, vU, vL x3, vU] [] S M (fun r S2 M2 => WP PR (d + 1) 169 25 [vA 200, vL x1, vU, vL x3, vU, vI x5] (r.toList ++ [vA 200]) S2 M2 Q)) : WP PR (d + 1) 169 16 [vA 200, vL x1, vU, vL x3, vU, vI x5] [vA 200] S M Q := by
  refine WP.ca 4 25 22 (.invokestatic 153) (0, 132, 0, 0) rfl ?_
  exact And.intro (lo200 L) (⟨rfl, rfl, rfl, trivial, rfl, k⟩)
set_option maxRecDepth 100000 in
theorem b_X9_number_25 {d : Nat} {S : mSh} {M : mMem} {Q : Option mV → mSh → mMem → Prop} {x1 x3 x5 s1 : Int} (kt : s1 = 0 → WP PR d 169 32 [vA 200, vL x1, vU, vL x3, vU, vI x5] [vA 200] S M Q) (kf : ¬ s1 = 0 → WP PR d 169 28 [vA 200, vL x1, vU, vL x3, vU, vI x5] [vA 200] S M Q) : WP PR d 169 25 [vA 200, vL x1, vU, vL x3, vU, vI x5] [vI s1, vA 200] S M Q := by
  refine WP.if0 0 28 25 .eq 7 (0, 0, 0, 0) 32 rfl rfl ?_
  exact ⟨kt, fun hc => kf hc⟩
set_option maxRecDepth 100000 in
theorem b_X9_number_28 {d : Nat} {S : mSh} {M : mMem} {Q : Option mV → mSh → mMem → Prop} {x1 x3 x5 : Int} (L : Lay S) (k : WP PR d 168 0 [vA 200, vI 1] [] S M (fun r S2 M2 => WP PR (d + 1) 169 36 [vA 200, vL x1, vU, vL x3, vU, vI x5] (r.toList ++ []) S2 M2 Q)) : WP PR (d + 1) 169 28 [vA 200, vL x1, vU, vL x3, vU, vI x5] [vA 200] S M Q := by
  refine WP.gt 1 29 4 (0, 0, 0, 0) _ 33 rfl rfl ?_
  show WP PR (d + 1) 169 33 [vA 200, vL x1, vU, vL x3, vU, vI x5] [vI 1, vA 200] S M Q
  refine WP.ca 0 36 33 (.invokevirtual 260) (0, 168, 0, 0) rfl ?_
  exact ⟨rfl, rfl, rfl, lo200 L, rfl, k⟩
set_option maxRecDepth 100000 in
theorem b_X9_number_32 {d : Nat} {S : mSh} {M : mMem} {Q : Option mV → mSh → mMem → Prop} {x1 x3 x5 : Int} (L : Lay S) (k : WP PR d 168 0 [vA 200, vI 0] [] S M (fun r S2 M2 => WP PR (d + 1) 169 36 [vA 200, vL x1, vU, vL x3, vU, vI x5] (r.toList ++ []) S2 M2 Q)) : WP PR (d + 1) 169 32 [vA 200, vL x1, vU, vL x3, vU, vI x5] [vA 200] S M Q := by
  refine WP.ca 1 36 33 (.invokevirtual 260) (0, 168, 0, 0) rfl ?_
  exact ⟨rfl, rfl, rfl, lo200 L, rfl, k⟩
set_option maxRecDepth 100000 in
theorem b_X9_number_36 {d : Nat} {S : mSh} {M : mMem} {Q : Option mV → mSh → mMem → Prop} {x1 x3 x5 : Int} (k : Q (some (vI x5)) S M) : WP PR d 169 36 [vA 200, vL x1, vU, vL x3, vU, vI x5] [] S M Q := by
  refine WP.re 1 38 .ireturn (0, 0, 0, 0) _ rfl ?_
  exact ⟨rfl, rfl, trivial, k⟩
/-- SoleraCellarModel.fault()I -/
abbrev e_X9_fault (d : Nat) (S : mSh) (M : mMem) (Q : Option mV → mSh → mMem → Prop) : Prop := WP PR d 170 0 [vA 200] [] S M Q
set_option maxRecDepth 100000 in
theorem b_X9_fault_0 {d : Nat} {S : mSh} {M : mMem} {Q : Option mV → mSh → mMem → Prop} (L : Lay S) (k : Q (some (vI (M 200 18))) S (up M 200 0 0)) : WP PR d 170 0 [vA 200] [] S M Q := by
  refine WP.re 5 9 .ireturn (0, 0, 0, 0) _ rfl ?_
  exact And.intro (lo200 L) (And.intro (lo200 L) (⟨rfl, rfl, trivial, k⟩))
/-- SoleraCellarModel.emit(II)V -/
abbrev e_X9_emit (d : Nat) (a1 a2 : Int) (S : mSh) (M : mMem) (Q : Option mV → mSh → mMem → Prop) : Prop := WP PR d 171 0 [vA 200, vI a1, vI a2] [] S M Q
set_option maxRecDepth 100000 in
theorem b_X9_emit_0 {d : Nat} {S : mSh} {M : mMem} {Q : Option mV → mSh → mMem → Prop} {x1 x2 : Int} (L : Lay S) (hc : (0 ≤ M 200 23 ∧ M 200 23 < 400) ∧ R32 ((M 200 23) + 1)) (k : Q (none) S (up (up (up M 211 (M 200 23) x1) 212 (M 200 23) x2) 200 23 ((M 200 23) + 1))) : WP PR d 171 0 [vA 200, vI x1, vI x2] [] S M Q := by
  refine WP.re 18 30 .return_ (0, 0, 0, 0) _ rfl ?_
  exact And.intro (⟨lo200 L, lf200_24 L⟩) (And.intro (lo200 L) (And.intro (inA_of (lo211 L) (ll211 L) hc.1) (And.intro (⟨lo200 L, lf200_25 L⟩) (And.intro (lo200 L) (And.intro (inA_of (lo212 L) (ll212 L) hc.1) (And.intro (lo200 L) (And.intro (hc.2) (And.intro (lo200 L) (⟨rfl, rfl, trivial, k⟩)))))))))
/-- SoleraCellarModel.push(II)V -/
abbrev e_X9_push (d : Nat) (a1 a2 : Int) (S : mSh) (M : mMem) (Q : Option mV → mSh → mMem → Prop) : Prop := WP PR d 172 0 [vA 200, vI a1, vI a2] [] S M Q
set_option maxRecDepth 100000 in
theorem b_X9_push_0 {d : Nat} {S : mSh} {M : mMem} {Q : Option mV → mSh → mMem → Prop} {x1 x2 : Int} (L : Lay S) (hc : (0 ≤ M 200 29 ∧ M 200 29 < 400) ∧ R32 ((M 200 29) + 1)) (k : Q (none) S (up (up (up M 213 (M 200 29) x1) 214 (M 200 29) x2) 200 29 ((M 200 29) + 1))) : WP PR d 172 0 [vA 200, vI x1, vI x2] [] S M Q := by
  refine WP.re 18 30 .return_ (0, 0, 0, 0) _ rfl ?_
  exact And.intro (⟨lo200 L, lf200_27 L⟩) (And.intro (lo200 L) (And.intro (inA_of (lo213 L) (ll213 L) hc.1) (And.intro (⟨lo200 L, lf200_28 L⟩) (And.intro (lo200 L) (And.intro (inA_of (lo214 L) (ll214 L) hc.1) (And.intro (lo200 L) (And.intro (hc.2) (And.intro (lo200 L) (⟨rfl, rfl, trivial, k⟩)))))))))
/-- SoleraCellarModel.binds(I)I -/
abbrev e_X9_binds (d : Nat) (a0 : Int) (S : mSh) (M : mMem) (Q : Option mV → mSh → mMem → Prop) : Prop := WP PR d 173 0 [vI a0] [] S M Q
set_option maxRecDepth 100000 in
theorem b_X9_binds_0 {d : Nat} {S : mSh} {M : mMem} {Q : Option mV → mSh → mMem → Prop} {x0 : Int} (kt : x0 < 31 → WP PR d 173 10 [vI x0] [] S M Q) (kf : 31 ≤ x0 → WP PR d 173 6 [vI x0] [] S M Q) : WP PR d 173 0 [vI x0] [] S M Q := by
  refine WP.if2 2 6 3 .lt 7 (0, 0, 0, 0) 10 rfl rfl ?_
  exact ⟨kt, fun hc => kf (Int.not_lt.mp hc)⟩
set_option maxRecDepth 100000 in
theorem b_X9_binds_6 {d : Nat} {S : mSh} {M : mMem} {Q : Option mV → mSh → mMem → Prop} {x0 : Int} (k : Q (some (vI 0)) S M) : WP PR d 173 6 [vI x0] [] S M Q := by
  refine WP.gt 1 7 55 (0, 0, 0, 0) _ 62 rfl rfl ?_
  show WP PR d 173 62 [vI x0] [vI 0] S M Q
  refine WP.re 0 62 .ireturn (0, 0, 0, 0) _ rfl ?_
  exact ⟨rfl, rfl, trivial, k⟩
set_option maxRecDepth 100000 in
theorem b_X9_binds_10 {d : Nat} {S : mSh} {M : mMem} {Q : Option mV → mSh → mMem → Prop} {x0 : Int} (kt : ¬ x0 = 30 → WP PR d 173 20 [vI x0] [] S M Q) (kf : x0 = 30 → WP PR d 173 16 [vI x0] [] S M Q) : WP PR d 173 10 [vI x0] [] S M Q := by
  refine WP.if2 2 16 13 .ne 7 (0, 0, 0, 0) 20 rfl rfl ?_
  exact ⟨kt, fun hc => kf (Decidable.not_not.mp hc)⟩
set_option maxRecDepth 100000 in
theorem b_X9_binds_16 {d : Nat} {S : mSh} {M : mMem} {Q : Option mV → mSh → mMem → Prop} {x0 : Int} (k : Q (some (vI 1)) S M) : WP PR d 173 16 [vI x0] [] S M Q := by
  refine WP.gt 1 17 45 (0, 0, 0, 0) _ 62 rfl rfl ?_
  show WP PR d 173 62 [vI x0] [vI 1] S M Q
  refine WP.re 0 62 .ireturn (0, 0, 0, 0) _ rfl ?_
  exact ⟨rfl, rfl, trivial, k⟩
set_option maxRecDepth 100000 in
theorem b_X9_binds_20 {d : Nat} {S : mSh} {M : mMem} {Q : Option mV → mSh → mMem → Prop} {x0 : Int} (kt : ¬ x0 = 29 → WP PR d 173 30 [vI x0] [] S M Q) (kf : x0 = 29 → WP PR d 173 26 [vI x0] [] S M Q) : WP PR d 173 20 [vI x0] [] S M Q := by
  refine WP.if2 2 26 23 .ne 7 (0, 0, 0, 0) 30 rfl rfl ?_
  exact ⟨kt, fun hc => kf (Decidable.not_not.mp hc)⟩
set_option maxRecDepth 100000 in
theorem b_X9_binds_26 {d : Nat} {S : mSh} {M : mMem} {Q : Option mV → mSh → mMem → Prop} {x0 : Int} (k : Q (some (vI 2)) S M) : WP PR d 173 26 [vI x0] [] S M Q := by
  refine WP.gt 1 27 35 (0, 0, 0, 0) _ 62 rfl rfl ?_
  show WP PR d 173 62 [vI x0] [vI 2] S M Q
  refine WP.re 0 62 .ireturn (0, 0, 0, 0) _ rfl ?_
  exact ⟨rfl, rfl, trivial, k⟩
set_option maxRecDepth 100000 in
theorem b_X9_binds_30 {d : Nat} {S : mSh} {M : mMem} {Q : Option mV → mSh → mMem → Prop} {x0 : Int} (kt : ¬ x0 = 28 → WP PR d 173 40 [vI x0] [] S M Q) (kf : x0 = 28 → WP PR d 173 36 [vI x0] [] S M Q) : WP PR d 173 30 [vI x0] [] S M Q := by
  refine WP.if2 2 36 33 .ne 7 (0, 0, 0, 0) 40 rfl rfl ?_
  exact ⟨kt, fun hc => kf (Decidable.not_not.mp hc)⟩
set_option maxRecDepth 100000 in
theorem b_X9_binds_36 {d : Nat} {S : mSh} {M : mMem} {Q : Option mV → mSh → mMem → Prop} {x0 : Int} (k : Q (some (vI 3)) S M) : WP PR d 173 36 [vI x0] [] S M Q := by
  refine WP.gt 1 37 25 (0, 0, 0, 0) _ 62 rfl rfl ?_
  show WP PR d 173 62 [vI x0] [vI 3] S M Q
  refine WP.re 0 62 .ireturn (0, 0, 0, 0) _ rfl ?_
  exact ⟨rfl, rfl, trivial, k⟩
set_option maxRecDepth 100000 in
theorem b_X9_binds_40 {d : Nat} {S : mSh} {M : mMem} {Q : Option mV → mSh → mMem → Prop} {x0 : Int} (kt : x0 < 25 → WP PR d 173 50 [vI x0] [] S M Q) (kf : 25 ≤ x0 → WP PR d 173 46 [vI x0] [] S M Q) : WP PR d 173 40 [vI x0] [] S M Q := by
  refine WP.if2 2 46 43 .lt 7 (0, 0, 0, 0) 50 rfl rfl ?_
  exact ⟨kt, fun hc => kf (Int.not_lt.mp hc)⟩
set_option maxRecDepth 100000 in
theorem b_X9_binds_46 {d : Nat} {S : mSh} {M : mMem} {Q : Option mV → mSh → mMem → Prop} {x0 : Int} (k : Q (some (vI 4)) S M) : WP PR d 173 46 [vI x0] [] S M Q := by
  refine WP.gt 1 47 15 (0, 0, 0, 0) _ 62 rfl rfl ?_
  show WP PR d 173 62 [vI x0] [vI 4] S M Q
  refine WP.re 0 62 .ireturn (0, 0, 0, 0) _ rfl ?_
  exact ⟨rfl, rfl, trivial, k⟩
set_option maxRecDepth 100000 in
theorem b_X9_binds_50 {d : Nat} {S : mSh} {M : mMem} {Q : Option mV → mSh → mMem → Prop} {x0 : Int} (kt : x0 < 22 → WP PR d 173 61 [vI x0] [] S M Q) (kf : 22 ≤ x0 → WP PR d 173 56 [vI x0] [] S M Q) : WP PR d 173 50 [vI x0] [] S M Q := by
  refine WP.if2 2 56 53 .lt 8 (0, 0, 0, 0) 61 rfl rfl ?_
  exact ⟨kt, fun hc => kf (Int.not_lt.mp hc)⟩
set_option maxRecDepth 100000 in
theorem b_X9_binds_56 {d : Nat} {S : mSh} {M : mMem} {Q : Option mV → mSh → mMem → Prop} {x0 : Int} (k : Q (some (vI 6)) S M) : WP PR d 173 56 [vI x0] [] S M Q := by
  refine WP.gt 1 58 4 (0, 0, 0, 0) _ 62 rfl rfl ?_
  show WP PR d 173 62 [vI x0] [vI 6] S M Q
  refine WP.re 0 62 .ireturn (0, 0, 0, 0) _ rfl ?_
  exact ⟨rfl, rfl, trivial, k⟩
set_option maxRecDepth 100000 in
theorem b_X9_binds_61 {d : Nat} {S : mSh} {M : mMem} {Q : Option mV → mSh → mMem → Prop} {x0 : Int} (k : Q (some (vI 5)) S M) : WP PR d 173 61 [vI x0] [] S M Q := by
  refine WP.re 1 62 .ireturn (0, 0, 0, 0) _ rfl ?_
  exact ⟨rfl, rfl, trivial, k⟩
/-- SoleraCellarModel.settle(I)V -/
abbrev e_X9_settle (d : Nat) (a1 : Int) (S : mSh) (M : mMem) (Q : Option mV → mSh → mMem → Prop) : Prop := WP PR d 174 0 [vA 200, vI a1] [] S M Q
set_option maxRecDepth 100000 in
theorem b_X9_settle_0 {d : Nat} {S : mSh} {M : mMem} {Q : Option mV → mSh → mMem → Prop} {x1 : Int} (L : Lay S) (kt : M 200 29 ≤ 0 → WP PR d 174 101 [vA 200, vI x1] [] S M Q) (kf : 0 < M 200 29 → WP PR d 174 7 [vA 200, vI x1] [] S M Q) : WP PR d 174 0 [vA 200, vI x1] [] S M Q := by
  refine WP.if0 2 7 4 .le 97 (0, 0, 0, 0) 101 rfl rfl ?_
  exact And.intro (lo200 L) (⟨kt, fun hc => kf (Int.not_le.mp hc)⟩)
set_option maxRecDepth 100000 in
theorem b_X9_settle_7 {d : Nat} {S : mSh} {M : mMem} {Q : Option mV → mSh → mMem → Prop} {x1 : Int} (L : Lay S) (hc : R32 ((M 200 29) - 1) ∧ (0 ≤ (M 200 29) - 1 ∧ (M 200 29) - 1 < 400)) (k : WP PR d 173 0 [vI (M 213 ((M 200 29) - 1))] [] S M (fun r S2 M2 => WP PR (d + 1) 174 21 [vA 200, vI x1] (r.toList ++ []) S2 M2 Q)) : WP PR (d + 1) 174 7 [vA 200, vI x1] [] S M Q := by
  refine WP.ca 7 21 18 (.invokestatic 270) (0, 173, 0, 0) rfl ?_
  exact And.intro (⟨lo200 L, lf200_27 L⟩) (And.intro (lo200 L) (And.intro (hc.1) (And.intro (inA_of (lo213 L) (ll213 L) hc.2) (⟨rfl, rfl, rfl, trivial, rfl, k⟩))))
set_option maxRecDepth 100000 in
theorem b_X9_settle_21 {d : Nat} {S : mSh} {M : mMem} {Q : Option mV → mSh → mMem → Prop} {x1 s0 : Int} (kt : s0 < x1 → WP PR d 174 101 [vA 200, vI x1] [] S M Q) (kf : x1 ≤ s0 → WP PR d 174 25 [vA 200, vI x1] [] S M Q) : WP PR d 174 21 [vA 200, vI x1] [vI s0] S M Q := by
  refine WP.if2 1 25 22 .lt 79 (0, 0, 0, 0) 101 rfl rfl ?_
  exact ⟨kt, fun hc => kf (Int.not_lt.mp hc)⟩
set_option maxRecDepth 100000 in
theorem b_X9_settle_25 {d : Nat} {S : mSh} {M : mMem} {Q : Option mV → mSh → mMem → Prop} {x1 : Int} (L : Lay S) (hc : R32 ((M 200 29) - 1) ∧ (0 ≤ (M 200 29) - 1 ∧ (M 200 29) - 1 < 400)) (kt : M 213 ((M 200 29) - 1) = 29 → WP PR d 174 63 [vA 200, vI x1] [] S (up M 200 29 ((M 200 29) - 1)) Q) (kf : ¬ M 213 ((M 200 29) - 1) = 29 → WP PR d 174 49 [vA 200, vI x1] [] S (up M 200 29 ((M 200 29) - 1)) Q) : WP PR d 174 25 [vA 200, vI x1] [] S M Q := by
  refine WP.if2 12 49 46 .eq 17 (0, 0, 0, 0) 63 rfl rfl ?_
  exact And.intro (lo200 L) (And.intro (hc.1) (And.intro (lo200 L) (And.intro (⟨lo200 L, lf200_27 L⟩) (And.intro (lo200 L) (And.intro (inA_of (lo213 L) (ll213 L) hc.2) (⟨kt, fun hc => kf hc⟩))))))
set_option maxRecDepth 100000 in
theorem b_X9_settle_49 {d : Nat} {S : mSh} {M : mMem} {Q : Option mV → mSh → mMem → Prop} {x1 : Int} (L : Lay S) (hc : (0 ≤ M 200 29 ∧ M 200 29 < 400)) (kt : ¬ M 213 (M 200 29) = 30 → WP PR d 174 84 [vA 200, vI x1] [] S M Q) (kf : M 213 (M 200 29) = 30 → WP PR d 174 63 [vA 200, vI x1] [] S M Q) : WP PR d 174 49 [vA 200, vI x1] [] S M Q := by
  refine WP.if2 6 63 60 .ne 24 (0, 0, 0, 0) 84 rfl rfl ?_
  exact And.intro (⟨lo200 L, lf200_27 L⟩) (And.intro (lo200 L) (And.intro (inA_of (lo213 L) (ll213 L) hc) (⟨kt, fun hc => kf (Decidable.not_not.mp hc)⟩)))
set_option maxRecDepth 100000 in
theorem b_X9_settle_63 {d : Nat} {S : mSh} {M : mMem} {Q : Option mV → mSh → mMem → Prop} {x1 : Int} (L : Lay S) (hc : (0 ≤ M 200 29 ∧ M 200 29 < 400) ∧ (0 ≤ M 214 (M 200 29) ∧ M 214 (M 200 29) < 400)) (k : WP PR d 174 0 [vA 200, vI x1] [] S (up M 212 (M 214 (M 200 29)) (M 200 23)) Q) : WP PR d 174 63 [vA 200, vI x1] [] S M Q := by
  refine WP.gt 10 81 (-81) (0, 0, 0, 0) _ 0 rfl rfl ?_
  exact And.intro (⟨lo200 L, lf200_25 L⟩) (And.intro (⟨lo200 L, lf200_28 L⟩) (And.intro (lo200 L) (And.intro (inA_of (lo214 L) (ll214 L) hc.1) (And.intro (lo200 L) (And.intro (inA_of (lo212 L) (ll212 L) hc.2) (k))))))
set_option maxRecDepth 100000 in
theorem b_X9_settle_84 {d : Nat} {S : mSh} {M : mMem} {Q : Option mV → mSh → mMem → Prop} {x1 : Int} (L : Lay S) (hc : (0 ≤ M 200 29 ∧ M 200 29 < 400)) (k : WP PR d 171 0 [vA 200, vI (M 213 (M 200 29)), vI 0] [] S M (fun r S2 M2 => WP PR (d + 1) 174 98 [vA 200, vI x1] (r.toList ++ []) S2 M2 Q)) : WP PR (d + 1) 174 84 [vA 200, vI x1] [] S M Q := by
  refine WP.ca 7 98 95 (.invokevirtual 273) (0, 171, 0, 0) rfl ?_
  exact And.intro (⟨lo200 L, lf200_27 L⟩) (And.intro (lo200 L) (And.intro (inA_of (lo213 L) (ll213 L) hc) (⟨rfl, rfl, rfl, lo200 L, rfl, k⟩)))
set_option maxRecDepth 100000 in
theorem b_X9_settle_98 {d : Nat} {S : mSh} {M : mMem} {Q : Option mV → mSh → mMem → Prop} {x1 : Int} (k : WP PR d 174 0 [vA 200, vI x1] [] S M Q) : WP PR d 174 98 [vA 200, vI x1] [] S M Q := by
  refine WP.gt 0 98 (-98) (0, 0, 0, 0) _ 0 rfl rfl ?_
  exact k
set_option maxRecDepth 100000 in
theorem b_X9_settle_101 {d : Nat} {S : mSh} {M : mMem} {Q : Option mV → mSh → mMem → Prop} {x1 : Int} (k : Q (none) S M) : WP PR d 174 101 [vA 200, vI x1] [] S M Q := by
  refine WP.re 0 101 .return_ (0, 0, 0, 0) _ rfl ?_
  exact ⟨rfl, rfl, trivial, k⟩
/-- SoleraCellarModel.inner()I -/
abbrev e_X9_inner (d : Nat) (S : mSh) (M : mMem) (Q : Option mV → mSh → mMem → Prop) : Prop := WP PR d 175 0 [vA 200, vU, vU] [] S M Q
set_option maxRecDepth 100000 in
theorem b_X9_inner_0 {d : Nat} {S : mSh} {M : mMem} {Q : Option mV → mSh → mMem → Prop} (k : WP PR d 175 4 [vA 200, vI (-1), vI 0] [] S M Q) : WP PR d 175 0 [vA 200, vU, vU] [] S M Q := by
  refine WP.bl 4 4 rfl ?_
  exact k
set_option maxRecDepth 100000 in
theorem b_X9_inner_4 {d : Nat} {S : mSh} {M : mMem} {Q : Option mV → mSh → mMem → Prop} {x1 x2 : Int} (L : Lay S) (kt : M 200 29 ≤ x2 → WP PR d 175 40 [vA 200, vI x1, vI x2] [] S M Q) (kf : x2 < M 200 29 → WP PR d 175 12 [vA 200, vI x1, vI x2] [] S M Q) : WP PR d 175 4 [vA 200, vI x1, vI x2] [] S M Q := by
  refine WP.if2 3 12 9 .ge 31 (0, 0, 0, 0) 40 rfl rfl ?_
  exact And.intro (lo200 L) (⟨kt, fun hc => kf (Int.not_le.mp hc)⟩)
set_option maxRecDepth 100000 in
theorem b_X9_inner_12 {d : Nat} {S : mSh} {M : mMem} {Q : Option mV → mSh → mMem → Prop} {x1 x2 : Int} (L : Lay S) (hc : (0 ≤ x2 ∧ x2 < 400)) (kt : M 213 x2 < 31 → WP PR d 175 32 [vA 200, vI x1, vI x2] [] S M Q) (kf : 31 ≤ M 213 x2 → WP PR d 175 23 [vA 200, vI x1, vI x2] [] S M Q) : WP PR d 175 12 [vA 200, vI x1, vI x2] [] S M Q := by
  refine WP.if2 5 23 20 .lt 12 (0, 0, 0, 0) 32 rfl rfl ?_
  exact And.intro (⟨lo200 L, lf200_27 L⟩) (And.intro (inA_of (lo213 L) (ll213 L) hc) (⟨kt, fun hc => kf (Int.not_lt.mp hc)⟩))
set_option maxRecDepth 100000 in
theorem b_X9_inner_23 {d : Nat} {S : mSh} {M : mMem} {Q : Option mV → mSh → mMem → Prop} {x1 x2 : Int} (L : Lay S) (hc : (0 ≤ x2 ∧ x2 < 400) ∧ R32 (x2 + 1)) (k : WP PR d 175 4 [vA 200, vI (M 213 x2), vI (x2 + 1)] [] S M Q) : WP PR d 175 23 [vA 200, vI x1, vI x2] [] S M Q := by
  refine WP.gt 4 29 4 (0, 0, 0, 0) _ 33 rfl rfl ?_
  refine And.intro (⟨lo200 L, lf200_27 L⟩) (And.intro (inA_of (lo213 L) (ll213 L) hc.1) (?_))
  show WP PR d 175 33 [vA 200, vI x1, vI x2] [vI (M 213 x2)] S M Q
  refine WP.gt 2 37 (-33) (0, 0, 0, 0) _ 4 rfl rfl ?_
  exact And.intro (hc.2) (k)
set_option maxRecDepth 100000 in
theorem b_X9_inner_32 {d : Nat} {S : mSh} {M : mMem} {Q : Option mV → mSh → mMem → Prop} {x1 x2 : Int} (hc : R32 (x2 + 1)) (k : WP PR d 175 4 [vA 200, vI x1, vI (x2 + 1)] [] S M Q) : WP PR d 175 32 [vA 200, vI x1, vI x2] [] S M Q := by
  refine WP.gt 3 37 (-33) (0, 0, 0, 0) _ 4 rfl rfl ?_
  exact And.intro (hc) (k)
set_option maxRecDepth 100000 in
theorem b_X9_inner_40 {d : Nat} {S : mSh} {M : mMem} {Q : Option mV → mSh → mMem → Prop} {x1 x2 : Int} (k : Q (some (vI x1)) S M) : WP PR d 175 40 [vA 200, vI x1, vI x2] [] S M Q := by
  refine WP.re 1 41 .ireturn (0, 0, 0, 0) _ rfl ?_
  exact ⟨rfl, rfl, trivial, k⟩
/-- SoleraCellarModel.isCompared()Z -/
abbrev e_X9_isCompared (d : Nat) (S : mSh) (M : mMem) (Q : Option mV → mSh → mMem → Prop) : Prop := WP PR d 176 0 [vA 200, vU] [] S M Q
set_option maxRecDepth 100000 in
theorem b_X9_isCompared_0 {d : Nat} {S : mSh} {M : mMem} {Q : Option mV → mSh → mMem → Prop} (L : Lay S) (hc : R32 ((M 200 29) - 1)) (k : WP PR d 176 7 [vA 200, vI ((M 200 29) - 1)] [] S M Q) : WP PR d 176 0 [vA 200, vU] [] S M Q := by
  refine WP.bl 5 7 rfl ?_
  exact And.intro (lo200 L) (And.intro (hc) (k))
set_option maxRecDepth 100000 in
theorem b_X9_isCompared_7 {d : Nat} {S : mSh} {M : mMem} {Q : Option mV → mSh → mMem → Prop} {x1 : Int} (kt : x1 < 0 → WP PR d 176 36 [vA 200, vI x1] [] S M Q) (kf : 0 ≤ x1 → WP PR d 176 11 [vA 200, vI x1] [] S M Q) : WP PR d 176 7 [vA 200, vI x1] [] S M Q := by
  refine WP.if0 1 11 8 .lt 28 (0, 0, 0, 0) 36 rfl rfl ?_
  exact ⟨kt, fun hc => kf (Int.not_lt.mp hc)⟩
set_option maxRecDepth 100000 in
theorem b_X9_isCompared_11 {d : Nat} {S : mSh} {M : mMem} {Q : Option mV → mSh → mMem → Prop} {x1 : Int} (L : Lay S) (hc : (0 ≤ x1 ∧ x1 < 400)) (k : WP PR d 132 0 [vL (M 213 x1), vU, vL 20, vU, vL 24, vU] [] S M (fun r S2 M2 => WP PR (d + 1) 176 27 [vA 200, vI x1] (r.toList ++ []) S2 M2 Q)) : WP PR (d + 1) 176 11 [vA 200, vI x1] [] S M Q := by
  refine WP.ca 7 27 24 (.invokestatic 153) (0, 132, 0, 0) rfl ?_
  exact And.intro (⟨lo200 L, lf200_27 L⟩) (And.intro (inA_of (lo213 L) (ll213 L) hc) (⟨rfl, rfl, rfl, trivial, rfl, k⟩))
set_option maxRecDepth 100000 in
theorem b_X9_isCompared_27 {d : Nat} {S : mSh} {M : mMem} {Q : Option mV → mSh → mMem → Prop} {x1 s0 : Int} (kt : s0 = 0 → WP PR d 176 36 [vA 200, vI x1] [] S M Q) (kf : ¬ s0 = 0 → WP PR d 176 30 [vA 200, vI x1] [] S M Q) : WP PR d 176 27 [vA 200, vI x1] [vI s0] S M Q := by
  refine WP.if0 0 30 27 .eq 9 (0, 0, 0, 0) 36 rfl rfl ?_
  exact ⟨kt, fun hc => kf hc⟩
set_option maxRecDepth 100000 in
theorem b_X9_isCompared_30 {d : Nat} {S : mSh} {M : mMem} {Q : Option mV → mSh → mMem → Prop} {x1 : Int} (hc : R32 (x1 + (-1))) (k : WP PR d 176 7 [vA 200, vI (x1 + (-1))] [] S M Q) : WP PR d 176 30 [vA 200, vI x1] [] S M Q := by
  refine WP.gt 1 33 (-26) (0, 0, 0, 0) _ 7 rfl rfl ?_
  exact And.intro (hc) (k)
set_option maxRecDepth 100000 in
theorem b_X9_isCompared_36 {d : Nat} {S : mSh} {M : mMem} {Q : Option mV → mSh → mMem → Prop} {x1 : Int} (kt : x1 < 0 → WP PR d 176 63 [vA 200, vI x1] [] S M Q) (kf : 0 ≤ x1 → WP PR d 176 40 [vA 200, vI x1] [] S M Q) : WP PR d 176 36 [vA 200, vI x1] [] S M Q := by
  refine WP.if0 1 40 37 .lt 26 (0, 0, 0, 0) 63 rfl rfl ?_
  exact ⟨kt, fun hc => kf (Int.not_lt.mp hc)⟩
set_option maxRecDepth 100000 in
theorem b_X9_isCompared_40 {d : Nat} {S : mSh} {M : mMem} {Q : Option mV → mSh → mMem → Prop} {x1 : Int} (L : Lay S) (hc : (0 ≤ x1 ∧ x1 < 400)) (k : WP PR d 132 0 [vL (M 213 x1), vU, vL 25, vU, vL 27, vU] [] S M (fun r S2 M2 => WP PR (d + 1) 176 56 [vA 200, vI x1] (r.toList ++ []) S2 M2 Q)) : WP PR (d + 1) 176 40 [vA 200, vI x1] [] S M Q := by
  refine WP.ca 7 56 53 (.invokestatic 153) (0, 132, 0, 0) rfl ?_
  exact And.intro (⟨lo200 L, lf200_27 L⟩) (And.intro (inA_of (lo213 L) (ll213 L) hc) (⟨rfl, rfl, rfl, trivial, rfl, k⟩))
set_option maxRecDepth 100000 in
theorem b_X9_isCompared_56 {d : Nat} {S : mSh} {M : mMem} {Q : Option mV → mSh → mMem → Prop} {x1 s0 : Int} (kt : s0 = 0 → WP PR d 176 63 [vA 200, vI x1] [] S M Q) (kf : ¬ s0 = 0 → WP PR d 176 59 [vA 200, vI x1] [] S M Q) : WP PR d 176 56 [vA 200, vI x1] [vI s0] S M Q := by
  refine WP.if0 0 59 56 .eq 7 (0, 0, 0, 0) 63 rfl rfl ?_
  exact ⟨kt, fun hc => kf hc⟩
set_option maxRecDepth 100000 in
theorem b_X9_isCompared_59 {d : Nat} {S : mSh} {M : mMem} {Q : Option mV → mSh → mMem → Prop} {x1 : Int} (k : Q (some (vI 1)) S M) : WP PR d 176 59 [vA 200, vI x1] [] S M Q := by
  refine WP.gt 1 60 4 (0, 0, 0, 0) _ 64 rfl rfl ?_
  show WP PR d 176 64 [vA 200, vI x1] [vI 1] S M Q
  refine WP.re 0 64 .ireturn (0, 0, 0, 0) _ rfl ?_
  exact ⟨rfl, rfl, Or.inr rfl, k⟩
set_option maxRecDepth 100000 in
theorem b_X9_isCompared_63 {d : Nat} {S : mSh} {M : mMem} {Q : Option mV → mSh → mMem → Prop} {x1 : Int} (k : Q (some (vI 0)) S M) : WP PR d 176 63 [vA 200, vI x1] [] S M Q := by
  refine WP.re 1 64 .ireturn (0, 0, 0, 0) _ rfl ?_
  exact ⟨rfl, rfl, Or.inl rfl, k⟩
/-- SoleraCellarModel.partAt()I -/
abbrev e_X9_partAt (d : Nat) (S : mSh) (M : mMem) (Q : Option mV → mSh → mMem → Prop) : Prop := WP PR d 177 0 [vA 200, vU, vU] [] S M Q
set_option maxRecDepth 100000 in
theorem b_X9_partAt_0 {d : Nat} {S : mSh} {M : mMem} {Q : Option mV → mSh → mMem → Prop} (k : WP PR d 177 4 [vA 200, vI (-1), vI 0] [] S M Q) : WP PR d 177 0 [vA 200, vU, vU] [] S M Q := by
  refine WP.bl 4 4 rfl ?_
  exact k
set_option maxRecDepth 100000 in
theorem b_X9_partAt_4 {d : Nat} {S : mSh} {M : mMem} {Q : Option mV → mSh → mMem → Prop} {x1 x2 : Int} (kt : 7 ≤ x2 → WP PR d 177 37 [vA 200, vI x1, vI x2] [] S M Q) (kf : x2 < 7 → WP PR d 177 10 [vA 200, vI x1, vI x2] [] S M Q) : WP PR d 177 4 [vA 200, vI x1, vI x2] [] S M Q := by
  refine WP.if2 2 10 7 .ge 30 (0, 0, 0, 0) 37 rfl rfl ?_
  exact ⟨kt, fun hc => kf (Int.not_le.mp hc)⟩
set_option maxRecDepth 100000 in
theorem b_X9_partAt_10 {d : Nat} {S : mSh} {M : mMem} {Q : Option mV → mSh → mMem → Prop} {x1 x2 : Int} (L : Lay S) (hc : (0 ≤ x2 ∧ x2 < 7)) (k : WP PR d 166 0 [vA 200, vL (M 215 x2), vU] [] S M (fun r S2 M2 => WP PR (d + 1) 177 20 [vA 200, vI x1, vI x2] (r.toList ++ []) S2 M2 Q)) : WP PR (d + 1) 177 10 [vA 200, vI x1, vI x2] [] S M Q := by
  refine WP.ca 5 20 17 (.invokevirtual 283) (0, 166, 0, 0) rfl ?_
  exact And.intro (⟨lo200 L, lf200_31 L⟩) (And.intro (inA_of (lo215 L) (ll215 L) hc) (⟨rfl, rfl, rfl, lo200 L, rfl, k⟩))
set_option maxRecDepth 100000 in
theorem b_X9_partAt_20 {d : Nat} {S : mSh} {M : mMem} {Q : Option mV → mSh → mMem → Prop} {x1 x2 s0 : Int} (kt : s0 = 0 → WP PR d 177 29 [vA 200, vI x1, vI x2] [] S M Q) (kf : ¬ s0 = 0 → WP PR d 177 23 [vA 200, vI x1, vI x2] [] S M Q) : WP PR d 177 20 [vA 200, vI x1, vI x2] [vI s0] S M Q := by
  refine WP.if0 0 23 20 .eq 9 (0, 0, 0, 0) 29 rfl rfl ?_
  exact ⟨kt, fun hc => kf hc⟩
set_option maxRecDepth 100000 in
theorem b_X9_partAt_23 {d : Nat} {S : mSh} {M : mMem} {Q : Option mV → mSh → mMem → Prop} {x1 x2 : Int} (hc : R32 (x2 + 1)) (k : WP PR d 177 4 [vA 200, vI (x2 + 1), vI (x2 + 1)] [] S M Q) : WP PR d 177 23 [vA 200, vI x1, vI x2] [] S M Q := by
  refine WP.gt 3 26 4 (0, 0, 0, 0) _ 30 rfl rfl ?_
  refine And.intro (hc) (?_)
  show WP PR d 177 30 [vA 200, vI x1, vI x2] [vI (x2 + 1)] S M Q
  refine WP.gt 2 34 (-30) (0, 0, 0, 0) _ 4 rfl rfl ?_
  exact And.intro (hc) (k)
set_option maxRecDepth 100000 in
theorem b_X9_partAt_29 {d : Nat} {S : mSh} {M : mMem} {Q : Option mV → mSh → mMem → Prop} {x1 x2 : Int} (hc : R32 (x2 + 1)) (k : WP PR d 177 4 [vA 200, vI x1, vI (x2 + 1)] [] S M Q) : WP PR d 177 29 [vA 200, vI x1, vI x2] [] S M Q := by
  refine WP.gt 3 34 (-30) (0, 0, 0, 0) _ 4 rfl rfl ?_
  exact And.intro (hc) (k)
set_option maxRecDepth 100000 in
theorem b_X9_partAt_37 {d : Nat} {S : mSh} {M : mMem} {Q : Option mV → mSh → mMem → Prop} {x1 x2 : Int} (k : Q (some (vI x1)) S M) : WP PR d 177 37 [vA 200, vI x1, vI x2] [] S M Q := by
  refine WP.re 1 38 .ireturn (0, 0, 0, 0) _ rfl ?_
  exact ⟨rfl, rfl, trivial, k⟩
/-- SoleraCellarModel.orderPartAt()I -/
abbrev e_X9_orderPartAt (d : Nat) (S : mSh) (M : mMem) (Q : Option mV → mSh → mMem → Prop) : Prop := WP PR d 178 0 [vA 200, vU, vU] [] S M Q
set_option maxRecDepth 100000 in
theorem b_X9_orderPartAt_0 {d : Nat} {S : mSh} {M : mMem} {Q : Option mV → mSh → mMem → Prop} (k : WP PR d 178 4 [vA 200, vI (-1), vI 0] [] S M Q) : WP PR d 178 0 [vA 200, vU, vU] [] S M Q := by
  refine WP.bl 4 4 rfl ?_
  exact k
set_option maxRecDepth 100000 in
theorem b_X9_orderPartAt_4 {d : Nat} {S : mSh} {M : mMem} {Q : Option mV → mSh → mMem → Prop} {x1 x2 : Int} (kt : 7 ≤ x2 → WP PR d 178 37 [vA 200, vI x1, vI x2] [] S M Q) (kf : x2 < 7 → WP PR d 178 10 [vA 200, vI x1, vI x2] [] S M Q) : WP PR d 178 4 [vA 200, vI x1, vI x2] [] S M Q := by
  refine WP.if2 2 10 7 .ge 30 (0, 0, 0, 0) 37 rfl rfl ?_
  exact ⟨kt, fun hc => kf (Int.not_le.mp hc)⟩
set_option maxRecDepth 100000 in
theorem b_X9_orderPartAt_10 {d : Nat} {S : mSh} {M : mMem} {Q : Option mV → mSh → mMem → Prop} {x1 x2 : Int} (L : Lay S) (hc : (0 ≤ x2 ∧ x2 < 7)) (k : WP PR d 166 0 [vA 200, vL (M 216 x2), vU] [] S M (fun r S2 M2 => WP PR (d + 1) 178 20 [vA 200, vI x1, vI x2] (r.toList ++ []) S2 M2 Q)) : WP PR (d + 1) 178 10 [vA 200, vI x1, vI x2] [] S M Q := by
  refine WP.ca 5 20 17 (.invokevirtual 283) (0, 166, 0, 0) rfl ?_
  exact And.intro (⟨lo200 L, lf200_32 L⟩) (And.intro (inA_of (lo216 L) (ll216 L) hc) (⟨rfl, rfl, rfl, lo200 L, rfl, k⟩))
set_option maxRecDepth 100000 in
theorem b_X9_orderPartAt_20 {d : Nat} {S : mSh} {M : mMem} {Q : Option mV → mSh → mMem → Prop} {x1 x2 s0 : Int} (kt : s0 = 0 → WP PR d 178 29 [vA 200, vI x1, vI x2] [] S M Q) (kf : ¬ s0 = 0 → WP PR d 178 23 [vA 200, vI x1, vI x2] [] S M Q) : WP PR d 178 20 [vA 200, vI x1, vI x2] [vI s0] S M Q := by
  refine WP.if0 0 23 20 .eq 9 (0, 0, 0, 0) 29 rfl rfl ?_
  exact ⟨kt, fun hc => kf hc⟩
set_option maxRecDepth 100000 in
theorem b_X9_orderPartAt_23 {d : Nat} {S : mSh} {M : mMem} {Q : Option mV → mSh → mMem → Prop} {x1 x2 : Int} (hc : R32 (x2 + 1)) (k : WP PR d 178 4 [vA 200, vI (x2 + 1), vI (x2 + 1)] [] S M Q) : WP PR d 178 23 [vA 200, vI x1, vI x2] [] S M Q := by
  refine WP.gt 3 26 4 (0, 0, 0, 0) _ 30 rfl rfl ?_
  refine And.intro (hc) (?_)
  show WP PR d 178 30 [vA 200, vI x1, vI x2] [vI (x2 + 1)] S M Q
  refine WP.gt 2 34 (-30) (0, 0, 0, 0) _ 4 rfl rfl ?_
  exact And.intro (hc) (k)
set_option maxRecDepth 100000 in
theorem b_X9_orderPartAt_29 {d : Nat} {S : mSh} {M : mMem} {Q : Option mV → mSh → mMem → Prop} {x1 x2 : Int} (hc : R32 (x2 + 1)) (k : WP PR d 178 4 [vA 200, vI x1, vI (x2 + 1)] [] S M Q) : WP PR d 178 29 [vA 200, vI x1, vI x2] [] S M Q := by
  refine WP.gt 3 34 (-30) (0, 0, 0, 0) _ 4 rfl rfl ?_
  exact And.intro (hc) (k)
set_option maxRecDepth 100000 in
theorem b_X9_orderPartAt_37 {d : Nat} {S : mSh} {M : mMem} {Q : Option mV → mSh → mMem → Prop} {x1 x2 : Int} (k : Q (some (vI x1)) S M) : WP PR d 178 37 [vA 200, vI x1, vI x2] [] S M Q := by
  refine WP.re 1 38 .ireturn (0, 0, 0, 0) _ rfl ?_
  exact ⟨rfl, rfl, trivial, k⟩
/-- SoleraCellarModel.openBracket(I)V -/
abbrev e_X9_openBracket (d : Nat) (a1 : Int) (S : mSh) (M : mMem) (Q : Option mV → mSh → mMem → Prop) : Prop := WP PR d 179 0 [vA 200, vI a1] [] S M Q
set_option maxRecDepth 100000 in
theorem b_X9_openBracket_0 {d : Nat} {S : mSh} {M : mMem} {Q : Option mV → mSh → mMem → Prop} {x1 : Int} (L : Lay S) (kt : 8 ≤ M 200 30 → WP PR d 179 14 [vA 200, vI x1] [vA 200] S M Q) (kf : M 200 30 < 8 → WP PR d 179 10 [vA 200, vI x1] [vA 200] S M Q) : WP PR d 179 0 [vA 200, vI x1] [] S M Q := by
  refine WP.if2 4 10 7 .ge 7 (0, 0, 0, 0) 14 rfl rfl ?_
  exact And.intro (lo200 L) (⟨kt, fun hc => kf (Int.not_le.mp hc)⟩)
set_option maxRecDepth 100000 in
theorem b_X9_openBracket_10 {d : Nat} {S : mSh} {M : mMem} {Q : Option mV → mSh → mMem → Prop} {x1 : Int} (L : Lay S) (k : WP PR d 168 0 [vA 200, vI 1] [] S M (fun r S2 M2 => WP PR (d + 1) 179 18 [vA 200, vI x1] (r.toList ++ []) S2 M2 Q)) : WP PR (d + 1) 179 10 [vA 200, vI x1] [vA 200] S M Q := by
  refine WP.gt 1 11 4 (0, 0, 0, 0) _ 15 rfl rfl ?_
  show WP PR (d + 1) 179 15 [vA 200, vI x1] [vI 1, vA 200] S M Q
  refine WP.ca 0 18 15 (.invokevirtual 260) (0, 168, 0, 0) rfl ?_
  exact ⟨rfl, rfl, rfl, lo200 L, rfl, k⟩
set_option maxRecDepth 100000 in
theorem b_X9_openBracket_14 {d : Nat} {S : mSh} {M : mMem} {Q : Option mV → mSh → mMem → Prop} {x1 : Int} (L : Lay S) (k : WP PR d 168 0 [vA 200, vI 0] [] S M (fun r S2 M2 => WP PR (d + 1) 179 18 [vA 200, vI x1] (r.toList ++ []) S2 M2 Q)) : WP PR (d + 1) 179 14 [vA 200, vI x1] [vA 200] S M Q := by
  refine WP.ca 1 18 15 (.invokevirtual 260) (0, 168, 0, 0) rfl ?_
  exact ⟨rfl, rfl, rfl, lo200 L, rfl, k⟩
set_option maxRecDepth 100000 in
theorem b_X9_openBracket_18 {d : Nat} {S : mSh} {M : mMem} {Q : Option mV → mSh → mMem → Prop} {x1 : Int} (L : Lay S) (kt : ¬ M 200 19 = 0 → WP PR d 179 41 [vA 200, vI x1] [] S M Q) (kf : M 200 19 = 0 → WP PR d 179 25 [vA 200, vI x1] [] S M Q) : WP PR d 179 18 [vA 200, vI x1] [] S M Q := by
  refine WP.if0 2 25 22 .ne 19 (0, 0, 0, 0) 41 rfl rfl ?_
  exact And.intro (lo200 L) (⟨kt, fun hc => kf (Decidable.not_not.mp hc)⟩)
set_option maxRecDepth 100000 in
theorem b_X9_openBracket_25 {d : Nat} {S : mSh} {M : mMem} {Q : Option mV → mSh → mMem → Prop} {x1 : Int} (L : Lay S) (hc : R32 ((M 200 30) + 1)) (k : WP PR d 172 0 [vA 200, vI x1, vI 0] [] S (up M 200 30 ((M 200 30) + 1)) (fun r S2 M2 => WP PR (d + 1) 179 41 [vA 200, vI x1] (r.toList ++ []) S2 M2 Q)) : WP PR (d + 1) 179 25 [vA 200, vI x1] [] S M Q := by
  refine WP.ca 9 41 38 (.invokevirtual 290) (0, 172, 0, 0) rfl ?_
  exact And.intro (lo200 L) (And.intro (hc) (And.intro (lo200 L) (⟨rfl, rfl, rfl, lo200 L, rfl, k⟩)))
set_option maxRecDepth 100000 in
theorem b_X9_openBracket_41 {d : Nat} {S : mSh} {M : mMem} {Q : Option mV → mSh → mMem → Prop} {x1 : Int} (k : Q (none) S M) : WP PR d 179 41 [vA 200, vI x1] [] S M Q := by
  refine WP.re 0 41 .return_ (0, 0, 0, 0) _ rfl ?_
  exact ⟨rfl, rfl, trivial, k⟩
/-- SoleraCellarModel.leaf(ZII)V -/
abbrev e_X9_leaf (d : Nat) (a1 a2 a3 : Int) (S : mSh) (M : mMem) (Q : Option mV → mSh → mMem → Prop) : Prop := WP PR d 180 0 [vA 200, vI a1, vI a2, vI a3] [] S M Q
set_option maxRecDepth 100000 in
theorem b_X9_leaf_0 {d : Nat} {S : mSh} {M : mMem} {Q : Option mV → mSh → mMem → Prop} {x1 x2 x3 : Int} (kt : x1 = 0 → WP PR d 180 18 [vA 200, vI x1, vI x2, vI x3] [vA 200] S M Q) (kf : ¬ x1 = 0 → WP PR d 180 5 [vA 200, vI x1, vI x2, vI x3] [vA 200] S M Q) : WP PR d 180 0 [vA 200, vI x1, vI x2, vI x3] [] S M Q := by
  refine WP.if0 2 5 2 .eq 16 (0, 0, 0, 0) 18 rfl rfl ?_
  exact ⟨kt, fun hc => kf hc⟩
set_option maxRecDepth 100000 in
theorem b_X9_leaf_5 {d : Nat} {S : mSh} {M : mMem} {Q : Option mV → mSh → mMem → Prop} {x1 x2 x3 : Int} (L : Lay S) (kt : 50 ≤ M 200 26 → WP PR d 180 18 [vA 200, vI x1, vI x2, vI x3] [vA 200] S M Q) (kf : M 200 26 < 50 → WP PR d 180 14 [vA 200, vI x1, vI x2, vI x3] [vA 200] S M Q) : WP PR d 180 5 [vA 200, vI x1, vI x2, vI x3] [vA 200] S M Q := by
  refine WP.if2 3 14 11 .ge 7 (0, 0, 0, 0) 18 rfl rfl ?_
  exact And.intro (lo200 L) (⟨kt, fun hc => kf (Int.not_le.mp hc)⟩)
set_option maxRecDepth 100000 in
theorem b_X9_leaf_14 {d : Nat} {S : mSh} {M : mMem} {Q : Option mV → mSh → mMem → Prop} {x1 x2 x3 : Int} (L : Lay S) (k : WP PR d 168 0 [vA 200, vI 1] [] S M (fun r S2 M2 => WP PR (d + 1) 180 22 [vA 200, vI x1, vI x2, vI x3] (r.toList ++ []) S2 M2 Q)) : WP PR (d + 1) 180 14 [vA 200, vI x1, vI x2, vI x3] [vA 200] S M Q := by
  refine WP.gt 1 15 4 (0, 0, 0, 0) _ 19 rfl rfl ?_
  show WP PR (d + 1) 180 19 [vA 200, vI x1, vI x2, vI x3] [vI 1, vA 200] S M Q
  refine WP.ca 0 22 19 (.invokevirtual 260) (0, 168, 0, 0) rfl ?_
  exact ⟨rfl, rfl, rfl, lo200 L, rfl, k⟩
set_option maxRecDepth 100000 in
theorem b_X9_leaf_18 {d : Nat} {S : mSh} {M : mMem} {Q : Option mV → mSh → mMem → Prop} {x1 x2 x3 : Int} (L : Lay S) (k : WP PR d 168 0 [vA 200, vI 0] [] S M (fun r S2 M2 => WP PR (d + 1) 180 22 [vA 200, vI x1, vI x2, vI x3] (r.toList ++ []) S2 M2 Q)) : WP PR (d + 1) 180 18 [vA 200, vI x1, vI x2, vI x3] [vA 200] S M Q := by
  refine WP.ca 1 22 19 (.invokevirtual 260) (0, 168, 0, 0) rfl ?_
  exact ⟨rfl, rfl, rfl, lo200 L, rfl, k⟩
set_option maxRecDepth 100000 in
theorem b_X9_leaf_22 {d : Nat} {S : mSh} {M : mMem} {Q : Option mV → mSh → mMem → Prop} {x1 x2 x3 : Int} (L : Lay S) (kt : ¬ M 200 19 = 0 → WP PR d 180 45 [vA 200, vI x1, vI x2, vI x3] [] S M Q) (kf : M 200 19 = 0 → WP PR d 180 29 [vA 200, vI x1, vI x2, vI x3] [] S M Q) : WP PR d 180 22 [vA 200, vI x1, vI x2, vI x3] [] S M Q := by
  refine WP.if0 2 29 26 .ne 19 (0, 0, 0, 0) 45 rfl rfl ?_
  exact And.intro (lo200 L) (⟨kt, fun hc => kf (Decidable.not_not.mp hc)⟩)
set_option maxRecDepth 100000 in
theorem b_X9_leaf_29 {d : Nat} {S : mSh} {M : mMem} {Q : Option mV → mSh → mMem → Prop} {x1 x2 x3 : Int} (L : Lay S) (k : WP PR d 171 0 [vA 200, vI x2, vI x3] [] S M (fun r S2 M2 => WP PR (d + 1) 180 35 [vA 200, vI x1, vI x2, vI x3] (r.toList ++ []) S2 M2 Q)) : WP PR (d + 1) 180 29 [vA 200, vI x1, vI x2, vI x3] [] S M Q := by
  refine WP.ca 3 35 32 (.invokevirtual 273) (0, 171, 0, 0) rfl ?_
  exact ⟨rfl, rfl, rfl, lo200 L, rfl, k⟩
set_option maxRecDepth 100000 in
theorem b_X9_leaf_35 {d : Nat} {S : mSh} {M : mMem} {Q : Option mV → mSh → mMem → Prop} {x1 x2 x3 : Int} (L : Lay S) (hc : R32 ((M 200 26) + 1)) (k : Q (none) S (up M 200 26 ((M 200 26) + 1))) : WP PR d 180 35 [vA 200, vI x1, vI x2, vI x3] [] S M Q := by
  refine WP.re 6 45 .return_ (0, 0, 0, 0) _ rfl ?_
  exact And.intro (lo200 L) (And.intro (hc) (And.intro (lo200 L) (⟨rfl, rfl, trivial, k⟩)))
set_option maxRecDepth 100000 in
theorem b_X9_leaf_45 {d : Nat} {S : mSh} {M : mMem} {Q : Option mV → mSh → mMem → Prop} {x1 x2 x3 : Int} (k : Q (none) S M) : WP PR d 180 45 [vA 200, vI x1, vI x2, vI x3] [] S M Q := by
  refine WP.re 0 45 .return_ (0, 0, 0, 0) _ rfl ?_
  exact ⟨rfl, rfl, trivial, k⟩
/-- SoleraCellarModel.readPart()I -/
abbrev e_X9_readPart (d : Nat) (S : mSh) (M : mMem) (Q : Option mV → mSh → mMem → Prop) : Prop := WP PR d 181 0 [vA 200, vU, vU, vU] [] S M Q
set_option maxRecDepth 100000 in
theorem b_X9_readPart_0 {d : Nat} {S : mSh} {M : mMem} {Q : Option mV → mSh → mMem → Prop} (L : Lay S) (k : WP PR d 167 0 [vA 200, vI 91] [] S M (fun r S2 M2 => WP PR (d + 1) 181 6 [vA 200, vU, vU, vU] (r.toList ++ []) S2 M2 Q)) : WP PR (d + 1) 181 0 [vA 200, vU, vU, vU] [] S M Q := by
  refine WP.ca 2 6 3 (.invokevirtual 296) (0, 167, 0, 0) rfl ?_
  exact ⟨rfl, rfl, rfl, lo200 L, rfl, k⟩
set_option maxRecDepth 100000 in
theorem b_X9_readPart_6 {d : Nat} {S : mSh} {M : mMem} {Q : Option mV → mSh → mMem → Prop} {s0 : Int} {u1 u2 u3 : mV} (kt : s0 = 0 → WP PR d 181 17 [vA 200, u1, u2, u3] [] S M Q) (kf : ¬ s0 = 0 → WP PR d 181 9 [vA 200, u1, u2, u3] [] S M Q) : WP PR d 181 6 [vA 200, u1, u2, u3] [vI s0] S M Q := by
  refine WP.if0 0 9 6 .eq 11 (0, 0, 0, 0) 17 rfl rfl ?_
  exact ⟨kt, fun hc => kf hc⟩
set_option maxRecDepth 100000 in
theorem b_X9_readPart_9 {d : Nat} {S : mSh} {M : mMem} {Q : Option mV → mSh → mMem → Prop} {u1 u2 u3 : mV} (L : Lay S) (k : WP PR d 179 0 [vA 200, vI 32] [] S M (fun r S2 M2 => WP PR (d + 1) 181 15 [vA 200, u1, u2, u3] (r.toList ++ []) S2 M2 Q)) : WP PR (d + 1) 181 9 [vA 200, u1, u2, u3] [] S M Q := by
  refine WP.ca 2 15 12 (.invokevirtual 299) (0, 179, 0, 0) rfl ?_
  exact ⟨rfl, rfl, rfl, lo200 L, rfl, k⟩
set_option maxRecDepth 100000 in
theorem b_X9_readPart_15 {d : Nat} {S : mSh} {M : mMem} {Q : Option mV → mSh → mMem → Prop} {u1 u2 u3 : mV} (k : Q (some (vI 1)) S M) : WP PR d 181 15 [vA 200, u1, u2, u3] [] S M Q := by
  refine WP.re 1 16 .ireturn (0, 0, 0, 0) _ rfl ?_
  exact ⟨rfl, rfl, trivial, k⟩
set_option maxRecDepth 100000 in
theorem b_X9_readPart_17 {d : Nat} {S : mSh} {M : mMem} {Q : Option mV → mSh → mMem → Prop} {u1 u2 u3 : mV} (L : Lay S) (kt : M 200 20 = 0 → WP PR d 181 31 [vA 200, u1, u2, u3] [] S M Q) (kf : ¬ M 200 20 = 0 → WP PR d 181 24 [vA 200, u1, u2, u3] [] S M Q) : WP PR d 181 17 [vA 200, u1, u2, u3] [] S M Q := by
  refine WP.if0 2 24 21 .eq 10 (0, 0, 0, 0) 31 rfl rfl ?_
  exact And.intro (lo200 L) (⟨kt, fun hc => kf hc⟩)
set_option maxRecDepth 100000 in
theorem b_X9_readPart_24 {d : Nat} {S : mSh} {M : mMem} {Q : Option mV → mSh → mMem → Prop} {u1 u2 u3 : mV} (L : Lay S) (k : WP PR d 178 0 [vA 200, vU, vU] [] S M (fun r S2 M2 => WP PR (d + 1) 181 28 [vA 200, u1, u2, u3] (r.toList ++ []) S2 M2 Q)) : WP PR (d + 1) 181 24 [vA 200, u1, u2, u3] [] S M Q := by
  refine WP.ca 1 28 25 (.invokevirtual 305) (0, 178, 0, 0) rfl ?_
  exact ⟨rfl, rfl, rfl, lo200 L, rfl, k⟩
set_option maxRecDepth 100000 in
theorem b_X9_readPart_28 {d : Nat} {S : mSh} {M : mMem} {Q : Option mV → mSh → mMem → Prop} {s0 : Int} {u1 u2 u3 : mV} (L : Lay S) (kt : ¬ M 200 16 = 2 → WP PR d 181 59 [vA 200, vI s0, u2, u3] [] S M Q) (kf : M 200 16 = 2 → WP PR d 181 44 [vA 200, vI s0, u2, u3] [] S M Q) : WP PR d 181 28 [vA 200, u1, u2, u3] [vI s0] S M Q := by
  refine WP.gt 0 28 7 (0, 0, 0, 0) _ 35 rfl rfl ?_
  show WP PR d 181 35 [vA 200, u1, u2, u3] [vI s0] S M Q
  refine WP.if2 4 44 41 .ne 18 (0, 0, 0, 0) 59 rfl rfl ?_
  exact And.intro (lo200 L) (⟨kt, fun hc => kf (Decidable.not_not.mp hc)⟩)
set_option maxRecDepth 100000 in
theorem b_X9_readPart_31 {d : Nat} {S : mSh} {M : mMem} {Q : Option mV → mSh → mMem → Prop} {u1 u2 u3 : mV} (L : Lay S) (k : WP PR d 177 0 [vA 200, vU, vU] [] S M (fun r S2 M2 => WP PR (d + 1) 181 35 [vA 200, u1, u2, u3] (r.toList ++ []) S2 M2 Q)) : WP PR (d + 1) 181 31 [vA 200, u1, u2, u3] [] S M Q := by
  refine WP.ca 1 35 32 (.invokevirtual 309) (0, 177, 0, 0) rfl ?_
  exact ⟨rfl, rfl, rfl, lo200 L, rfl, k⟩
set_option maxRecDepth 100000 in
theorem b_X9_readPart_35 {d : Nat} {S : mSh} {M : mMem} {Q : Option mV → mSh → mMem → Prop} {s0 : Int} {u1 u2 u3 : mV} (L : Lay S) (kt : ¬ M 200 16 = 2 → WP PR d 181 59 [vA 200, vI s0, u2, u3] [] S M Q) (kf : M 200 16 = 2 → WP PR d 181 44 [vA 200, vI s0, u2, u3] [] S M Q) : WP PR d 181 35 [vA 200, u1, u2, u3] [vI s0] S M Q := by
  refine WP.if2 4 44 41 .ne 18 (0, 0, 0, 0) 59 rfl rfl ?_
  exact And.intro (lo200 L) (⟨kt, fun hc => kf (Decidable.not_not.mp hc)⟩)
set_option maxRecDepth 100000 in
theorem b_X9_readPart_44 {d : Nat} {S : mSh} {M : mMem} {Q : Option mV → mSh → mMem → Prop} {x1 : Int} {u2 u3 : mV} (L : Lay S) (kt : 1000 < (M 200 17) → WP PR d 181 59 [vA 200, vI x1, u2, u3] [] S M Q) (kf : (M 200 17) ≤ 1000 → WP PR d 181 55 [vA 200, vI x1, u2, u3] [] S M Q) : WP PR d 181 44 [vA 200, vI x1, u2, u3] [] S M Q := by
  refine WP.if0 4 55 52 .gt 7 (0, 0, 0, 0) 59 rfl rfl ?_
  exact And.intro (lo200 L) (⟨fun hc => kt (lcp_gt.mp hc), fun hc => kf (lcp_le.mp (Int.not_lt.mp hc))⟩)
set_option maxRecDepth 100000 in
theorem b_X9_readPart_55 {d : Nat} {S : mSh} {M : mMem} {Q : Option mV → mSh → mMem → Prop} {x1 : Int} {u2 u3 : mV} (kt : ¬ x1 = (-1) → WP PR d 181 71 [vA 200, vI x1, vI 1, u3] [vA 200] S M Q) (kf : x1 = (-1) → WP PR d 181 67 [vA 200, vI x1, vI 1, u3] [vA 200] S M Q) : WP PR d 181 55 [vA 200, vI x1, u2, u3] [] S M Q := by
  refine WP.gt 1 56 4 (0, 0, 0, 0) _ 60 rfl rfl ?_
  show WP PR d 181 60 [vA 200, vI x1, u2, u3] [vI 1] S M Q
  refine WP.if2 4 67 64 .ne 7 (0, 0, 0, 0) 71 rfl rfl ?_
  exact ⟨kt, fun hc => kf (Decidable.not_not.mp hc)⟩
set_option maxRecDepth 100000 in
theorem b_X9_readPart_59 {d : Nat} {S : mSh} {M : mMem} {Q : Option mV → mSh → mMem → Prop} {x1 : Int} {u2 u3 : mV} (kt : ¬ x1 = (-1) → WP PR d 181 71 [vA 200, vI x1, vI 0, u3] [vA 200] S M Q) (kf : x1 = (-1) → WP PR d 181 67 [vA 200, vI x1, vI 0, u3] [vA 200] S M Q) : WP PR d 181 59 [vA 200, vI x1, u2, u3] [] S M Q := by
  refine WP.if2 5 67 64 .ne 7 (0, 0, 0, 0) 71 rfl rfl ?_
  exact ⟨kt, fun hc => kf (Decidable.not_not.mp hc)⟩
set_option maxRecDepth 100000 in
theorem b_X9_readPart_67 {d : Nat} {S : mSh} {M : mMem} {Q : Option mV → mSh → mMem → Prop} {x1 x2 : Int} {u3 : mV} (kt : x2 = 0 → WP PR d 181 75 [vA 200, vI x1, vI x2, u3] [vA 200] S M Q) (kf : ¬ x2 = 0 → WP PR d 181 71 [vA 200, vI x1, vI x2, u3] [vA 200] S M Q) : WP PR d 181 67 [vA 200, vI x1, vI x2, u3] [vA 200] S M Q := by
  refine WP.if0 1 71 68 .eq 7 (0, 0, 0, 0) 75 rfl rfl ?_
  exact ⟨kt, fun hc => kf hc⟩
set_option maxRecDepth 100000 in
theorem b_X9_readPart_71 {d : Nat} {S : mSh} {M : mMem} {Q : Option mV → mSh → mMem → Prop} {x1 x2 : Int} {u3 : mV} (kt : ¬ x1 = (-1) → WP PR d 181 85 [vA 200, vI x1, vI x2, u3] [vI 1, vA 200] S M Q) (kf : x1 = (-1) → WP PR d 181 81 [vA 200, vI x1, vI x2, u3] [vI 1, vA 200] S M Q) : WP PR d 181 71 [vA 200, vI x1, vI x2, u3] [vA 200] S M Q := by
  refine WP.gt 1 72 4 (0, 0, 0, 0) _ 76 rfl rfl ?_
  show WP PR d 181 76 [vA 200, vI x1, vI x2, u3] [vI 1, vA 200] S M Q
  refine WP.if2 2 81 78 .ne 7 (0, 0, 0, 0) 85 rfl rfl ?_
  exact ⟨kt, fun hc => kf (Decidable.not_not.mp hc)⟩
set_option maxRecDepth 100000 in
theorem b_X9_readPart_75 {d : Nat} {S : mSh} {M : mMem} {Q : Option mV → mSh → mMem → Prop} {x1 x2 : Int} {u3 : mV} (kt : ¬ x1 = (-1) → WP PR d 181 85 [vA 200, vI x1, vI x2, u3] [vI 0, vA 200] S M Q) (kf : x1 = (-1) → WP PR d 181 81 [vA 200, vI x1, vI x2, u3] [vI 0, vA 200] S M Q) : WP PR d 181 75 [vA 200, vI x1, vI x2, u3] [vA 200] S M Q := by
  refine WP.if2 3 81 78 .ne 7 (0, 0, 0, 0) 85 rfl rfl ?_
  exact ⟨kt, fun hc => kf (Decidable.not_not.mp hc)⟩
set_option maxRecDepth 100000 in
theorem b_X9_readPart_81 {d : Nat} {S : mSh} {M : mMem} {Q : Option mV → mSh → mMem → Prop} {x1 x2 s1 : Int} {u3 : mV} (kt : x2 = 0 → WP PR d 181 98 [vA 200, vI x1, vI x2, u3] [vI 0, vI s1, vA 200] S M Q) (kf : ¬ x2 = 0 → WP PR d 181 90 [vA 200, vI x1, vI x2, u3] [vI 0, vI s1, vA 200] S M Q) : WP PR d 181 81 [vA 200, vI x1, vI x2, u3] [vI s1, vA 200] S M Q := by
  refine WP.gt 1 82 4 (0, 0, 0, 0) _ 86 rfl rfl ?_
  show WP PR d 181 86 [vA 200, vI x1, vI x2, u3] [vI 0, vI s1, vA 200] S M Q
  refine WP.if0 1 90 87 .eq 11 (0, 0, 0, 0) 98 rfl rfl ?_
  exact ⟨kt, fun hc => kf hc⟩
set_option maxRecDepth 100000 in
theorem b_X9_readPart_85 {d : Nat} {S : mSh} {M : mMem} {Q : Option mV → mSh → mMem → Prop} {x1 x2 s1 : Int} {u3 : mV} (kt : x2 = 0 → WP PR d 181 98 [vA 200, vI x1, vI x2, u3] [vI x1, vI s1, vA 200] S M Q) (kf : ¬ x2 = 0 → WP PR d 181 90 [vA 200, vI x1, vI x2, u3] [vI x1, vI s1, vA 200] S M Q) : WP PR d 181 85 [vA 200, vI x1, vI x2, u3] [vI s1, vA 200] S M Q := by
  refine WP.if0 2 90 87 .eq 11 (0, 0, 0, 0) 98 rfl rfl ?_
  exact ⟨kt, fun hc => kf hc⟩
set_option maxRecDepth 100000 in
theorem b_X9_readPart_90 {d : Nat} {S : mSh} {M : mMem} {Q : Option mV → mSh → mMem → Prop} {x1 x2 s1 s2 : Int} {u3 : mV} (L : Lay S) (k : WP PR d 180 0 [vA 200, vI s1, vI s2, vI (w32 (M 200 17))] [] S M (fun r S2 M2 => WP PR (d + 1) 181 102 [vA 200, vI x1, vI x2, u3] (r.toList ++ []) S2 M2 Q)) : WP PR (d + 1) 181 90 [vA 200, vI x1, vI x2, u3] [vI s2, vI s1, vA 200] S M Q := by
  refine WP.gt 3 95 4 (0, 0, 0, 0) _ 99 rfl rfl ?_
  refine And.intro (lo200 L) (?_)
  show WP PR (d + 1) 181 99 [vA 200, vI x1, vI x2, u3] [vI (w32 (M 200 17)), vI s2, vI s1, vA 200] S M Q
  refine WP.ca 0 102 99 (.invokevirtual 312) (0, 180, 0, 0) rfl ?_
  exact ⟨rfl, rfl, rfl, lo200 L, rfl, k⟩
set_option maxRecDepth 100000 in
theorem b_X9_readPart_98 {d : Nat} {S : mSh} {M : mMem} {Q : Option mV → mSh → mMem → Prop} {x1 x2 s1 s2 : Int} {u3 : mV} (L : Lay S) (k : WP PR d 180 0 [vA 200, vI s1, vI s2, vI 0] [] S M (fun r S2 M2 => WP PR (d + 1) 181 102 [vA 200, vI x1, vI x2, u3] (r.toList ++ []) S2 M2 Q)) : WP PR (d + 1) 181 98 [vA 200, vI x1, vI x2, u3] [vI s2, vI s1, vA 200] S M Q := by
  refine WP.ca 1 102 99 (.invokevirtual 312) (0, 180, 0, 0) rfl ?_
  exact ⟨rfl, rfl, rfl, lo200 L, rfl, k⟩
set_option maxRecDepth 100000 in
theorem b_X9_readPart_102 {d : Nat} {S : mSh} {M : mMem} {Q : Option mV → mSh → mMem → Prop} {x1 x2 : Int} {u3 : mV} (L : Lay S) (kt : M 200 20 = 0 → WP PR d 181 142 [vA 200, vI x1, vI x2, u3] [] S M Q) (kf : ¬ M 200 20 = 0 → WP PR d 181 109 [vA 200, vI x1, vI x2, u3] [] S M Q) : WP PR d 181 102 [vA 200, vI x1, vI x2, u3] [] S M Q := by
  refine WP.if0 2 109 106 .eq 36 (0, 0, 0, 0) 142 rfl rfl ?_
  exact And.intro (lo200 L) (⟨kt, fun hc => kf hc⟩)
set_option maxRecDepth 100000 in
theorem b_X9_readPart_109 {d : Nat} {S : mSh} {M : mMem} {Q : Option mV → mSh → mMem → Prop} {x1 x2 : Int} {u3 : mV} (kt : x1 < 5 → WP PR d 181 142 [vA 200, vI x1, vI x2, u3] [] S M Q) (kf : 5 ≤ x1 → WP PR d 181 114 [vA 200, vI x1, vI x2, u3] [] S M Q) : WP PR d 181 109 [vA 200, vI x1, vI x2, u3] [] S M Q := by
  refine WP.if2 2 114 111 .lt 31 (0, 0, 0, 0) 142 rfl rfl ?_
  exact ⟨kt, fun hc => kf (Int.not_lt.mp hc)⟩
set_option maxRecDepth 100000 in
theorem b_X9_readPart_114 {d : Nat} {S : mSh} {M : mMem} {Q : Option mV → mSh → mMem → Prop} {x1 x2 : Int} {u3 : mV} (L : Lay S) (kt : ¬ M 200 19 = 0 → WP PR d 181 142 [vA 200, vI x1, vI x2, u3] [] S M Q) (kf : M 200 19 = 0 → WP PR d 181 121 [vA 200, vI x1, vI x2, u3] [] S M Q) : WP PR d 181 114 [vA 200, vI x1, vI x2, u3] [] S M Q := by
  refine WP.if0 2 121 118 .ne 24 (0, 0, 0, 0) 142 rfl rfl ?_
  exact And.intro (lo200 L) (⟨kt, fun hc => kf (Decidable.not_not.mp hc)⟩)
set_option maxRecDepth 100000 in
theorem b_X9_readPart_121 {d : Nat} {S : mSh} {M : mMem} {Q : Option mV → mSh → mMem → Prop} {x1 x2 : Int} {u3 : mV} (L : Lay S) (hc : R32 ((M 200 23) - 1)) (k : WP PR d 169 0 [vA 200, vL 0, vU, vL 7, vU, vU] [] S M (fun r S2 M2 => WP PR (d + 1) 181 141 [vA 200, vI x1, vI x2, vI ((M 200 23) - 1)] (r.toList ++ [vI ((M 200 23) - 1), vA 212]) S2 M2 Q)) : WP PR (d + 1) 181 121 [vA 200, vI x1, vI x2, u3] [] S M Q := by
  refine WP.ca 11 141 138 (.invokevirtual 318) (0, 169, 0, 0) rfl ?_
  exact And.intro (lo200 L) (And.intro (hc) (And.intro (⟨lo200 L, lf200_25 L⟩) (⟨rfl, rfl, rfl, lo200 L, rfl, k⟩)))
set_option maxRecDepth 100000 in
theorem b_X9_readPart_141 {d : Nat} {S : mSh} {M : mMem} {Q : Option mV → mSh → mMem → Prop} {x1 x2 x3 s0 s1 s2 : Int} (ho1 : isO S s0 20) (hc : (0 ≤ s1 ∧ s1 < sL S s0)) (k : Q (some (vI 3)) S (up M s0 s1 s2)) : WP PR d 181 141 [vA 200, vI x1, vI x2, vI x3] [vI s2, vI s1, vA s0] S M Q := by
  refine WP.re 2 143 .ireturn (0, 0, 0, 0) _ rfl ?_
  exact And.intro (inA_of (ho1) (rfl) hc) (⟨rfl, rfl, trivial, k⟩)
set_option maxRecDepth 100000 in
theorem b_X9_readPart_142 {d : Nat} {S : mSh} {M : mMem} {Q : Option mV → mSh → mMem → Prop} {x1 x2 : Int} {u3 : mV} (k : Q (some (vI 3)) S M) : WP PR d 181 142 [vA 200, vI x1, vI x2, u3] [] S M Q := by
  refine WP.re 1 143 .ireturn (0, 0, 0, 0) _ rfl ?_
  exact ⟨rfl, rfl, trivial, k⟩
/-- SoleraCellarModel.readPlain()I -/
abbrev e_X9_readPlain (d : Nat) (S : mSh) (M : mMem) (Q : Option mV → mSh → mMem → Prop) : Prop := WP PR d 182 0 [vA 200] [] S M Q
set_option maxRecDepth 100000 in
theorem b_X9_readPlain_0 {d : Nat} {S : mSh} {M : mMem} {Q : Option mV → mSh → mMem → Prop} (L : Lay S) (k : WP PR d 166 0 [vA 200, vL 14836, vU] [] S M (fun r S2 M2 => WP PR (d + 1) 182 7 [vA 200] (r.toList ++ []) S2 M2 Q)) : WP PR (d + 1) 182 0 [vA 200] [] S M Q := by
  refine WP.ca 2 7 4 (.invokevirtual 283) (0, 166, 0, 0) rfl ?_
  exact ⟨rfl, rfl, rfl, lo200 L, rfl, k⟩
set_option maxRecDepth 100000 in
theorem b_X9_readPlain_7 {d : Nat} {S : mSh} {M : mMem} {Q : Option mV → mSh → mMem → Prop} {s0 : Int} (kt : s0 = 0 → WP PR d 182 23 [vA 200] [] S M Q) (kf : ¬ s0 = 0 → WP PR d 182 10 [vA 200] [] S M Q) : WP PR d 182 7 [vA 200] [vI s0] S M Q := by
  refine WP.if0 0 10 7 .eq 16 (0, 0, 0, 0) 23 rfl rfl ?_
  exact ⟨kt, fun hc => kf hc⟩
set_option maxRecDepth 100000 in
theorem b_X9_readPlain_10 {d : Nat} {S : mSh} {M : mMem} {Q : Option mV → mSh → mMem → Prop} (L : Lay S) (k : WP PR d 172 0 [vA 200, vI 28, vI 0] [] S M (fun r S2 M2 => WP PR (d + 1) 182 17 [vA 200] (r.toList ++ []) S2 M2 Q)) : WP PR (d + 1) 182 10 [vA 200] [] S M Q := by
  refine WP.ca 3 17 14 (.invokevirtual 290) (0, 172, 0, 0) rfl ?_
  exact ⟨rfl, rfl, rfl, lo200 L, rfl, k⟩
set_option maxRecDepth 100000 in
theorem b_X9_readPlain_17 {d : Nat} {S : mSh} {M : mMem} {Q : Option mV → mSh → mMem → Prop} (L : Lay S) (k : WP PR d 165 0 [vA 200] [] S M (fun r S2 M2 => WP PR (d + 1) 182 21 [vA 200] (r.toList ++ []) S2 M2 Q)) : WP PR (d + 1) 182 17 [vA 200] [] S M Q := by
  refine WP.ca 1 21 18 (.invokevirtual 233) (0, 165, 0, 0) rfl ?_
  exact ⟨rfl, rfl, rfl, lo200 L, rfl, k⟩
set_option maxRecDepth 100000 in
theorem b_X9_readPlain_21 {d : Nat} {S : mSh} {M : mMem} {Q : Option mV → mSh → mMem → Prop} (k : Q (some (vI 0)) S M) : WP PR d 182 21 [vA 200] [] S M Q := by
  refine WP.re 1 22 .ireturn (0, 0, 0, 0) _ rfl ?_
  exact ⟨rfl, rfl, trivial, k⟩
set_option maxRecDepth 100000 in
theorem b_X9_readPlain_23 {d : Nat} {S : mSh} {M : mMem} {Q : Option mV → mSh → mMem → Prop} (L : Lay S) (k : WP PR d 167 0 [vA 200, vI 40] [] S M (fun r S2 M2 => WP PR (d + 1) 182 29 [vA 200] (r.toList ++ []) S2 M2 Q)) : WP PR (d + 1) 182 23 [vA 200] [] S M Q := by
  refine WP.ca 2 29 26 (.invokevirtual 296) (0, 167, 0, 0) rfl ?_
  exact ⟨rfl, rfl, rfl, lo200 L, rfl, k⟩
set_option maxRecDepth 100000 in
theorem b_X9_readPlain_29 {d : Nat} {S : mSh} {M : mMem} {Q : Option mV → mSh → mMem → Prop} {s0 : Int} (kt : s0 = 0 → WP PR d 182 40 [vA 200] [] S M Q) (kf : ¬ s0 = 0 → WP PR d 182 32 [vA 200] [] S M Q) : WP PR d 182 29 [vA 200] [vI s0] S M Q := by
  refine WP.if0 0 32 29 .eq 11 (0, 0, 0, 0) 40 rfl rfl ?_
  exact ⟨kt, fun hc => kf hc⟩
set_option maxRecDepth 100000 in
theorem b_X9_readPlain_32 {d : Nat} {S : mSh} {M : mMem} {Q : Option mV → mSh → mMem → Prop} (L : Lay S) (k : WP PR d 179 0 [vA 200, vI 31] [] S M (fun r S2 M2 => WP PR (d + 1) 182 38 [vA 200] (r.toList ++ []) S2 M2 Q)) : WP PR (d + 1) 182 32 [vA 200] [] S M Q := by
  refine WP.ca 2 38 35 (.invokevirtual 299) (0, 179, 0, 0) rfl ?_
  exact ⟨rfl, rfl, rfl, lo200 L, rfl, k⟩
set_option maxRecDepth 100000 in
theorem b_X9_readPlain_38 {d : Nat} {S : mSh} {M : mMem} {Q : Option mV → mSh → mMem → Prop} (k : Q (some (vI 0)) S M) : WP PR d 182 38 [vA 200] [] S M Q := by
  refine WP.re 1 39 .ireturn (0, 0, 0, 0) _ rfl ?_
  exact ⟨rfl, rfl, trivial, k⟩
set_option maxRecDepth 100000 in
theorem b_X9_readPlain_40 {d : Nat} {S : mSh} {M : mMem} {Q : Option mV → mSh → mMem → Prop} (L : Lay S) (k : WP PR d 181 0 [vA 200, vU, vU, vU] [] S M (fun r S2 M2 => WP PR (d + 1) 182 44 [vA 200] (r.toList ++ []) S2 M2 Q)) : WP PR (d + 1) 182 40 [vA 200] [] S M Q := by
  refine WP.ca 1 44 41 (.invokevirtual 324) (0, 181, 0, 0) rfl ?_
  exact ⟨rfl, rfl, rfl, lo200 L, rfl, k⟩
set_option maxRecDepth 100000 in
theorem b_X9_readPlain_44 {d : Nat} {S : mSh} {M : mMem} {Q : Option mV → mSh → mMem → Prop} {s0 : Int} (k : Q (some (vI s0)) S M) : WP PR d 182 44 [vA 200] [vI s0] S M Q := by
  refine WP.re 0 44 .ireturn (0, 0, 0, 0) _ rfl ?_
  exact ⟨rfl, rfl, trivial, k⟩
/-- SoleraCellarModel.behindSum(Z)I -/
abbrev e_X9_behindSum (d : Nat) (a1 : Int) (S : mSh) (M : mMem) (Q : Option mV → mSh → mMem → Prop) : Prop := WP PR d 183 0 [vA 200, vI a1, vU, vU] [] S M Q
set_option maxRecDepth 100000 in
theorem b_X9_behindSum_0 {d : Nat} {S : mSh} {M : mMem} {Q : Option mV → mSh → mMem → Prop} {x1 : Int} (L : Lay S) (k : WP PR d 167 0 [vA 200, vI 43] [] S M (fun r S2 M2 => WP PR (d + 1) 183 6 [vA 200, vI x1, vU, vU] (r.toList ++ []) S2 M2 Q)) : WP PR (d + 1) 183 0 [vA 200, vI x1, vU, vU] [] S M Q := by
  refine WP.ca 2 6 3 (.invokevirtual 296) (0, 167, 0, 0) rfl ?_
  exact ⟨rfl, rfl, rfl, lo200 L, rfl, k⟩
set_option maxRecDepth 100000 in
theorem b_X9_behindSum_6 {d : Nat} {S : mSh} {M : mMem} {Q : Option mV → mSh → mMem → Prop} {x1 s0 : Int} {u2 u3 : mV} (kt : s0 = 0 → WP PR d 183 14 [vA 200, vI x1, u2, u3] [] S M Q) (kf : ¬ s0 = 0 → WP PR d 183 9 [vA 200, vI x1, u2, u3] [] S M Q) : WP PR d 183 6 [vA 200, vI x1, u2, u3] [vI s0] S M Q := by
  refine WP.if0 0 9 6 .eq 8 (0, 0, 0, 0) 14 rfl rfl ?_
  exact ⟨kt, fun hc => kf hc⟩
set_option maxRecDepth 100000 in
theorem b_X9_behindSum_9 {d : Nat} {S : mSh} {M : mMem} {Q : Option mV → mSh → mMem → Prop} {x1 : Int} {u2 u3 : mV} (k : WP PR d 173 0 [vI 20] [] S M (fun r S2 M2 => WP PR (d + 1) 183 82 [vA 200, vI x1, vI 20, u3] (r.toList ++ [vA 200]) S2 M2 Q)) : WP PR (d + 1) 183 9 [vA 200, vI x1, u2, u3] [] S M Q := by
  refine WP.gt 1 11 60 (0, 0, 0, 0) _ 71 rfl rfl ?_
  show WP PR (d + 1) 183 71 [vA 200, vI x1, u2, u3] [vI 20] S M Q
  refine WP.if2 3 77 74 .eq 23 (0, 0, 0, 0) 97 rfl rfl ?_
  refine ⟨fun h => absurd h (show ¬ ((20 : Int) = ((-1) : Int)) by decide), fun _ => ?_⟩
  show WP PR (d + 1) 183 77 [vA 200, vI x1, vI 20, u3] [] S M Q
  refine WP.ca 2 82 79 (.invokestatic 270) (0, 173, 0, 0) rfl ?_
  exact ⟨rfl, rfl, rfl, trivial, rfl, k⟩
set_option maxRecDepth 100000 in
theorem b_X9_behindSum_14 {d : Nat} {S : mSh} {M : mMem} {Q : Option mV → mSh → mMem → Prop} {x1 : Int} {u2 u3 : mV} (L : Lay S) (k : WP PR d 167 0 [vA 200, vI 45] [] S M (fun r S2 M2 => WP PR (d + 1) 183 20 [vA 200, vI x1, u2, u3] (r.toList ++ []) S2 M2 Q)) : WP PR (d + 1) 183 14 [vA 200, vI x1, u2, u3] [] S M Q := by
  refine WP.ca 2 20 17 (.invokevirtual 296) (0, 167, 0, 0) rfl ?_
  exact ⟨rfl, rfl, rfl, lo200 L, rfl, k⟩
set_option maxRecDepth 100000 in
theorem b_X9_behindSum_20 {d : Nat} {S : mSh} {M : mMem} {Q : Option mV → mSh → mMem → Prop} {x1 s0 : Int} {u2 u3 : mV} (kt : s0 = 0 → WP PR d 183 28 [vA 200, vI x1, u2, u3] [] S M Q) (kf : ¬ s0 = 0 → WP PR d 183 23 [vA 200, vI x1, u2, u3] [] S M Q) : WP PR d 183 20 [vA 200, vI x1, u2, u3] [vI s0] S M Q := by
  refine WP.if0 0 23 20 .eq 8 (0, 0, 0, 0) 28 rfl rfl ?_
  exact ⟨kt, fun hc => kf hc⟩
set_option maxRecDepth 100000 in
theorem b_X9_behindSum_23 {d : Nat} {S : mSh} {M : mMem} {Q : Option mV → mSh → mMem → Prop} {x1 : Int} {u2 u3 : mV} (k : WP PR d 173 0 [vI 21] [] S M (fun r S2 M2 => WP PR (d + 1) 183 82 [vA 200, vI x1, vI 21, u3] (r.toList ++ [vA 200]) S2 M2 Q)) : WP PR (d + 1) 183 23 [vA 200, vI x1, u2, u3] [] S M Q := by
  refine WP.gt 1 25 46 (0, 0, 0, 0) _ 71 rfl rfl ?_
  show WP PR (d + 1) 183 71 [vA 200, vI x1, u2, u3] [vI 21] S M Q
  refine WP.if2 3 77 74 .eq 23 (0, 0, 0, 0) 97 rfl rfl ?_
  refine ⟨fun h => absurd h (show ¬ ((21 : Int) = ((-1) : Int)) by decide), fun _ => ?_⟩
  show WP PR (d + 1) 183 77 [vA 200, vI x1, vI 21, u3] [] S M Q
  refine WP.ca 2 82 79 (.invokestatic 270) (0, 173, 0, 0) rfl ?_
  exact ⟨rfl, rfl, rfl, trivial, rfl, k⟩
set_option maxRecDepth 100000 in
theorem b_X9_behindSum_28 {d : Nat} {S : mSh} {M : mMem} {Q : Option mV → mSh → mMem → Prop} {x1 : Int} {u2 u3 : mV} (L : Lay S) (k : WP PR d 167 0 [vA 200, vI 42] [] S M (fun r S2 M2 => WP PR (d + 1) 183 34 [vA 200, vI x1, u2, u3] (r.toList ++ []) S2 M2 Q)) : WP PR (d + 1) 183 28 [vA 200, vI x1, u2, u3] [] S M Q := by
  refine WP.ca 2 34 31 (.invokevirtual 296) (0, 167, 0, 0) rfl ?_
  exact ⟨rfl, rfl, rfl, lo200 L, rfl, k⟩
set_option maxRecDepth 100000 in
theorem b_X9_behindSum_34 {d : Nat} {S : mSh} {M : mMem} {Q : Option mV → mSh → mMem → Prop} {x1 s0 : Int} {u2 u3 : mV} (kt : s0 = 0 → WP PR d 183 42 [vA 200, vI x1, u2, u3] [] S M Q) (kf : ¬ s0 = 0 → WP PR d 183 37 [vA 200, vI x1, u2, u3] [] S M Q) : WP PR d 183 34 [vA 200, vI x1, u2, u3] [vI s0] S M Q := by
  refine WP.if0 0 37 34 .eq 8 (0, 0, 0, 0) 42 rfl rfl ?_
  exact ⟨kt, fun hc => kf hc⟩
set_option maxRecDepth 100000 in
theorem b_X9_behindSum_37 {d : Nat} {S : mSh} {M : mMem} {Q : Option mV → mSh → mMem → Prop} {x1 : Int} {u2 u3 : mV} (k : WP PR d 173 0 [vI 22] [] S M (fun r S2 M2 => WP PR (d + 1) 183 82 [vA 200, vI x1, vI 22, u3] (r.toList ++ [vA 200]) S2 M2 Q)) : WP PR (d + 1) 183 37 [vA 200, vI x1, u2, u3] [] S M Q := by
  refine WP.gt 1 39 32 (0, 0, 0, 0) _ 71 rfl rfl ?_
  show WP PR (d + 1) 183 71 [vA 200, vI x1, u2, u3] [vI 22] S M Q
  refine WP.if2 3 77 74 .eq 23 (0, 0, 0, 0) 97 rfl rfl ?_
  refine ⟨fun h => absurd h (show ¬ ((22 : Int) = ((-1) : Int)) by decide), fun _ => ?_⟩
  show WP PR (d + 1) 183 77 [vA 200, vI x1, vI 22, u3] [] S M Q
  refine WP.ca 2 82 79 (.invokestatic 270) (0, 173, 0, 0) rfl ?_
  exact ⟨rfl, rfl, rfl, trivial, rfl, k⟩
set_option maxRecDepth 100000 in
theorem b_X9_behindSum_42 {d : Nat} {S : mSh} {M : mMem} {Q : Option mV → mSh → mMem → Prop} {x1 : Int} {u2 u3 : mV} (L : Lay S) (k : WP PR d 167 0 [vA 200, vI 47] [] S M (fun r S2 M2 => WP PR (d + 1) 183 48 [vA 200, vI x1, u2, u3] (r.toList ++ []) S2 M2 Q)) : WP PR (d + 1) 183 42 [vA 200, vI x1, u2, u3] [] S M Q := by
  refine WP.ca 2 48 45 (.invokevirtual 296) (0, 167, 0, 0) rfl ?_
  exact ⟨rfl, rfl, rfl, lo200 L, rfl, k⟩
set_option maxRecDepth 100000 in
theorem b_X9_behindSum_48 {d : Nat} {S : mSh} {M : mMem} {Q : Option mV → mSh → mMem → Prop} {x1 s0 : Int} {u2 u3 : mV} (kt : s0 = 0 → WP PR d 183 56 [vA 200, vI x1, u2, u3] [] S M Q) (kf : ¬ s0 = 0 → WP PR d 183 51 [vA 200, vI x1, u2, u3] [] S M Q) : WP PR d 183 48 [vA 200, vI x1, u2, u3] [vI s0] S M Q := by
  refine WP.if0 0 51 48 .eq 8 (0, 0, 0, 0) 56 rfl rfl ?_
  exact ⟨kt, fun hc => kf hc⟩
set_option maxRecDepth 100000 in
theorem b_X9_behindSum_51 {d : Nat} {S : mSh} {M : mMem} {Q : Option mV → mSh → mMem → Prop} {x1 : Int} {u2 u3 : mV} (k : WP PR d 173 0 [vI 23] [] S M (fun r S2 M2 => WP PR (d + 1) 183 82 [vA 200, vI x1, vI 23, u3] (r.toList ++ [vA 200]) S2 M2 Q)) : WP PR (d + 1) 183 51 [vA 200, vI x1, u2, u3] [] S M Q := by
  refine WP.gt 1 53 18 (0, 0, 0, 0) _ 71 rfl rfl ?_
  show WP PR (d + 1) 183 71 [vA 200, vI x1, u2, u3] [vI 23] S M Q
  refine WP.if2 3 77 74 .eq 23 (0, 0, 0, 0) 97 rfl rfl ?_
  refine ⟨fun h => absurd h (show ¬ ((23 : Int) = ((-1) : Int)) by decide), fun _ => ?_⟩
  show WP PR (d + 1) 183 77 [vA 200, vI x1, vI 23, u3] [] S M Q
  refine WP.ca 2 82 79 (.invokestatic 270) (0, 173, 0, 0) rfl ?_
  exact ⟨rfl, rfl, rfl, trivial, rfl, k⟩
set_option maxRecDepth 100000 in
theorem b_X9_behindSum_56 {d : Nat} {S : mSh} {M : mMem} {Q : Option mV → mSh → mMem → Prop} {x1 : Int} {u2 u3 : mV} (L : Lay S) (k : WP PR d 167 0 [vA 200, vI 37] [] S M (fun r S2 M2 => WP PR (d + 1) 183 62 [vA 200, vI x1, u2, u3] (r.toList ++ []) S2 M2 Q)) : WP PR (d + 1) 183 56 [vA 200, vI x1, u2, u3] [] S M Q := by
  refine WP.ca 2 62 59 (.invokevirtual 296) (0, 167, 0, 0) rfl ?_
  exact ⟨rfl, rfl, rfl, lo200 L, rfl, k⟩
set_option maxRecDepth 100000 in
theorem b_X9_behindSum_62 {d : Nat} {S : mSh} {M : mMem} {Q : Option mV → mSh → mMem → Prop} {x1 s0 : Int} {u2 u3 : mV} (kt : s0 = 0 → WP PR d 183 70 [vA 200, vI x1, u2, u3] [] S M Q) (kf : ¬ s0 = 0 → WP PR d 183 65 [vA 200, vI x1, u2, u3] [] S M Q) : WP PR d 183 62 [vA 200, vI x1, u2, u3] [vI s0] S M Q := by
  refine WP.if0 0 65 62 .eq 8 (0, 0, 0, 0) 70 rfl rfl ?_
  exact ⟨kt, fun hc => kf hc⟩
set_option maxRecDepth 100000 in
theorem b_X9_behindSum_65 {d : Nat} {S : mSh} {M : mMem} {Q : Option mV → mSh → mMem → Prop} {x1 : Int} {u2 u3 : mV} (k : WP PR d 173 0 [vI 24] [] S M (fun r S2 M2 => WP PR (d + 1) 183 82 [vA 200, vI x1, vI 24, u3] (r.toList ++ [vA 200]) S2 M2 Q)) : WP PR (d + 1) 183 65 [vA 200, vI x1, u2, u3] [] S M Q := by
  refine WP.gt 1 67 4 (0, 0, 0, 0) _ 71 rfl rfl ?_
  show WP PR (d + 1) 183 71 [vA 200, vI x1, u2, u3] [vI 24] S M Q
  refine WP.if2 3 77 74 .eq 23 (0, 0, 0, 0) 97 rfl rfl ?_
  refine ⟨fun h => absurd h (show ¬ ((24 : Int) = ((-1) : Int)) by decide), fun _ => ?_⟩
  show WP PR (d + 1) 183 77 [vA 200, vI x1, vI 24, u3] [] S M Q
  refine WP.ca 2 82 79 (.invokestatic 270) (0, 173, 0, 0) rfl ?_
  exact ⟨rfl, rfl, rfl, trivial, rfl, k⟩
set_option maxRecDepth 100000 in
theorem b_X9_behindSum_70 {d : Nat} {S : mSh} {M : mMem} {Q : Option mV → mSh → mMem → Prop} {x1 : Int} {u2 u3 : mV} (L : Lay S) (k : WP PR d 175 0 [vA 200, vU, vU] [] S M (fun r S2 M2 => WP PR (d + 1) 183 101 [vA 200, vI x1, vI (-1), u3] (r.toList ++ []) S2 M2 Q)) : WP PR (d + 1) 183 70 [vA 200, vI x1, u2, u3] [] S M Q := by
  refine WP.if2 4 77 74 .eq 23 (0, 0, 0, 0) 97 rfl rfl ?_
  refine ⟨fun _ => ?_, fun h => absurd (show ((-1) : Int) = ((-1) : Int) by decide) h⟩
  show WP PR (d + 1) 183 97 [vA 200, vI x1, vI (-1), u3] [] S M Q
  refine WP.ca 1 101 98 (.invokevirtual 330) (0, 175, 0, 0) rfl ?_
  exact ⟨rfl, rfl, rfl, lo200 L, rfl, k⟩
set_option maxRecDepth 100000 in
theorem b_X9_behindSum_82 {d : Nat} {S : mSh} {M : mMem} {Q : Option mV → mSh → mMem → Prop} {x1 x2 s1 : Int} {u3 : mV} (L : Lay S) (k : WP PR d 174 0 [vA 200, vI s1] [] S M (fun r S2 M2 => WP PR (d + 1) 183 85 [vA 200, vI x1, vI x2, u3] (r.toList ++ []) S2 M2 Q)) : WP PR (d + 1) 183 82 [vA 200, vI x1, vI x2, u3] [vI s1, vA 200] S M Q := by
  refine WP.ca 0 85 82 (.invokevirtual 327) (0, 174, 0, 0) rfl ?_
  exact ⟨rfl, rfl, rfl, lo200 L, rfl, k⟩
set_option maxRecDepth 100000 in
theorem b_X9_behindSum_85 {d : Nat} {S : mSh} {M : mMem} {Q : Option mV → mSh → mMem → Prop} {x1 x2 : Int} {u3 : mV} (L : Lay S) (k : WP PR d 172 0 [vA 200, vI x2, vI 0] [] S M (fun r S2 M2 => WP PR (d + 1) 183 91 [vA 200, vI x1, vI x2, u3] (r.toList ++ []) S2 M2 Q)) : WP PR (d + 1) 183 85 [vA 200, vI x1, vI x2, u3] [] S M Q := by
  refine WP.ca 3 91 88 (.invokevirtual 290) (0, 172, 0, 0) rfl ?_
  exact ⟨rfl, rfl, rfl, lo200 L, rfl, k⟩
set_option maxRecDepth 100000 in
theorem b_X9_behindSum_91 {d : Nat} {S : mSh} {M : mMem} {Q : Option mV → mSh → mMem → Prop} {x1 x2 : Int} {u3 : mV} (L : Lay S) (k : WP PR d 165 0 [vA 200] [] S M (fun r S2 M2 => WP PR (d + 1) 183 95 [vA 200, vI x1, vI x2, u3] (r.toList ++ []) S2 M2 Q)) : WP PR (d + 1) 183 91 [vA 200, vI x1, vI x2, u3] [] S M Q := by
  refine WP.ca 1 95 92 (.invokevirtual 233) (0, 165, 0, 0) rfl ?_
  exact ⟨rfl, rfl, rfl, lo200 L, rfl, k⟩
set_option maxRecDepth 100000 in
theorem b_X9_behindSum_95 {d : Nat} {S : mSh} {M : mMem} {Q : Option mV → mSh → mMem → Prop} {x1 x2 : Int} {u3 : mV} (k : Q (some (vI 1)) S M) : WP PR d 183 95 [vA 200, vI x1, vI x2, u3] [] S M Q := by
  refine WP.re 1 96 .ireturn (0, 0, 0, 0) _ rfl ?_
  exact ⟨rfl, rfl, trivial, k⟩
set_option maxRecDepth 100000 in
theorem b_X9_behindSum_101 {d : Nat} {S : mSh} {M : mMem} {Q : Option mV → mSh → mMem → Prop} {x1 x2 s0 : Int} {u3 : mV} (kt : ¬ s0 = 32 → WP PR d 183 152 [vA 200, vI x1, vI x2, vI s0] [] S M Q) (kf : s0 = 32 → WP PR d 183 108 [vA 200, vI x1, vI x2, vI s0] [] S M Q) : WP PR d 183 101 [vA 200, vI x1, vI x2, u3] [vI s0] S M Q := by
  refine WP.if2 3 108 105 .ne 47 (0, 0, 0, 0) 152 rfl rfl ?_
  exact ⟨kt, fun hc => kf (Decidable.not_not.mp hc)⟩
set_option maxRecDepth 100000 in
theorem b_X9_behindSum_108 {d : Nat} {S : mSh} {M : mMem} {Q : Option mV → mSh → mMem → Prop} {x1 x2 x3 : Int} (L : Lay S) (k : WP PR d 167 0 [vA 200, vI 93] [] S M (fun r S2 M2 => WP PR (d + 1) 183 115 [vA 200, vI x1, vI x2, vI x3] (r.toList ++ [vA 200]) S2 M2 Q)) : WP PR (d + 1) 183 108 [vA 200, vI x1, vI x2, vI x3] [] S M Q := by
  refine WP.ca 3 115 112 (.invokevirtual 296) (0, 167, 0, 0) rfl ?_
  exact ⟨rfl, rfl, rfl, lo200 L, rfl, k⟩
set_option maxRecDepth 100000 in
theorem b_X9_behindSum_115 {d : Nat} {S : mSh} {M : mMem} {Q : Option mV → mSh → mMem → Prop} {x1 x2 x3 s1 : Int} (L : Lay S) (k : WP PR d 168 0 [vA 200, vI s1] [] S M (fun r S2 M2 => WP PR (d + 1) 183 118 [vA 200, vI x1, vI x2, vI x3] (r.toList ++ []) S2 M2 Q)) : WP PR (d + 1) 183 115 [vA 200, vI x1, vI x2, vI x3] [vI s1, vA 200] S M Q := by
  refine WP.ca 0 118 115 (.invokevirtual 260) (0, 168, 0, 0) rfl ?_
  exact ⟨rfl, rfl, rfl, lo200 L, rfl, k⟩
set_option maxRecDepth 100000 in
theorem b_X9_behindSum_118 {d : Nat} {S : mSh} {M : mMem} {Q : Option mV → mSh → mMem → Prop} {x1 x2 x3 : Int} (L : Lay S) (kt : ¬ M 200 19 = 0 → WP PR d 183 150 [vA 200, vI x1, vI x2, vI x3] [] S M Q) (kf : M 200 19 = 0 → WP PR d 183 125 [vA 200, vI x1, vI x2, vI x3] [] S M Q) : WP PR d 183 118 [vA 200, vI x1, vI x2, vI x3] [] S M Q := by
  refine WP.if0 2 125 122 .ne 28 (0, 0, 0, 0) 150 rfl rfl ?_
  exact And.intro (lo200 L) (⟨kt, fun hc => kf (Decidable.not_not.mp hc)⟩)
set_option maxRecDepth 100000 in
theorem b_X9_behindSum_125 {d : Nat} {S : mSh} {M : mMem} {Q : Option mV → mSh → mMem → Prop} {x1 x2 x3 : Int} (L : Lay S) (k : WP PR d 174 0 [vA 200, vI 5] [] S M (fun r S2 M2 => WP PR (d + 1) 183 130 [vA 200, vI x1, vI x2, vI x3] (r.toList ++ []) S2 M2 Q)) : WP PR (d + 1) 183 125 [vA 200, vI x1, vI x2, vI x3] [] S M Q := by
  refine WP.ca 2 130 127 (.invokevirtual 327) (0, 174, 0, 0) rfl ?_
  exact ⟨rfl, rfl, rfl, lo200 L, rfl, k⟩
set_option maxRecDepth 100000 in
theorem b_X9_behindSum_130 {d : Nat} {S : mSh} {M : mMem} {Q : Option mV → mSh → mMem → Prop} {x1 x2 x3 : Int} (L : Lay S) (hc : R32 ((M 200 29) - 1) ∧ R32 ((M 200 30) - 1)) (k : Q (some (vI 3)) S (up (up M 200 29 ((M 200 29) - 1)) 200 30 ((M 200 30) - 1))) : WP PR d 183 130 [vA 200, vI x1, vI x2, vI x3] [] S M Q := by
  refine WP.re 13 151 .ireturn (0, 0, 0, 0) _ rfl ?_
  exact And.intro (lo200 L) (And.intro (hc.1) (And.intro (lo200 L) (And.intro (lo200 L) (And.intro (hc.2) (And.intro (lo200 L) (⟨rfl, rfl, trivial, k⟩))))))
set_option maxRecDepth 100000 in
theorem b_X9_behindSum_150 {d : Nat} {S : mSh} {M : mMem} {Q : Option mV → mSh → mMem → Prop} {x1 x2 x3 : Int} (k : Q (some (vI 3)) S M) : WP PR d 183 150 [vA 200, vI x1, vI x2, vI x3] [] S M Q := by
  refine WP.re 1 151 .ireturn (0, 0, 0, 0) _ rfl ?_
  exact ⟨rfl, rfl, trivial, k⟩
set_option maxRecDepth 100000 in
theorem b_X9_behindSum_152 {d : Nat} {S : mSh} {M : mMem} {Q : Option mV → mSh → mMem → Prop} {x1 x2 x3 : Int} (kt : ¬ x3 = (-1) → WP PR d 183 163 [vA 200, vI x1, vI x2, vI x3] [] S M Q) (kf : x3 = (-1) → WP PR d 183 157 [vA 200, vI x1, vI x2, vI x3] [] S M Q) : WP PR d 183 152 [vA 200, vI x1, vI x2, vI x3] [] S M Q := by
  refine WP.if2 2 157 154 .ne 9 (0, 0, 0, 0) 163 rfl rfl ?_
  exact ⟨kt, fun hc => kf (Decidable.not_not.mp hc)⟩
set_option maxRecDepth 100000 in
theorem b_X9_behindSum_157 {d : Nat} {S : mSh} {M : mMem} {Q : Option mV → mSh → mMem → Prop} {x1 x2 x3 : Int} (kt : ¬ x1 = 0 → WP PR d 183 163 [vA 200, vI x1, vI x2, vI x3] [] S M Q) (kf : x1 = 0 → WP PR d 183 161 [vA 200, vI x1, vI x2, vI x3] [] S M Q) : WP PR d 183 157 [vA 200, vI x1, vI x2, vI x3] [] S M Q := by
  refine WP.if0 1 161 158 .ne 5 (0, 0, 0, 0) 163 rfl rfl ?_
  exact ⟨kt, fun hc => kf (Decidable.not_not.mp hc)⟩
set_option maxRecDepth 100000 in
theorem b_X9_behindSum_161 {d : Nat} {S : mSh} {M : mMem} {Q : Option mV → mSh → mMem → Prop} {x1 x2 x3 : Int} (k : Q (some (vI 4)) S M) : WP PR d 183 161 [vA 200, vI x1, vI x2, vI x3] [] S M Q := by
  refine WP.re 1 162 .ireturn (0, 0, 0, 0) _ rfl ?_
  exact ⟨rfl, rfl, trivial, k⟩
set_option maxRecDepth 100000 in
theorem b_X9_behindSum_163 {d : Nat} {S : mSh} {M : mMem} {Q : Option mV → mSh → mMem → Prop} {x1 x2 x3 : Int} (L : Lay S) (k : WP PR d 176 0 [vA 200, vU] [] S M (fun r S2 M2 => WP PR (d + 1) 183 167 [vA 200, vI x1, vI x2, vI x3] (r.toList ++ []) S2 M2 Q)) : WP PR (d + 1) 183 163 [vA 200, vI x1, vI x2, vI x3] [] S M Q := by
  refine WP.ca 1 167 164 (.invokevirtual 333) (0, 176, 0, 0) rfl ?_
  exact ⟨rfl, rfl, rfl, lo200 L, rfl, k⟩
set_option maxRecDepth 100000 in
theorem b_X9_behindSum_167 {d : Nat} {S : mSh} {M : mMem} {Q : Option mV → mSh → mMem → Prop} {x1 x2 x3 s0 : Int} (kt : s0 = 0 → WP PR d 183 172 [vA 200, vI x1, vI x2, vI x3] [] S M Q) (kf : ¬ s0 = 0 → WP PR d 183 170 [vA 200, vI x1, vI x2, vI x3] [] S M Q) : WP PR d 183 167 [vA 200, vI x1, vI x2, vI x3] [vI s0] S M Q := by
  refine WP.if0 0 170 167 .eq 5 (0, 0, 0, 0) 172 rfl rfl ?_
  exact ⟨kt, fun hc => kf hc⟩
set_option maxRecDepth 100000 in
theorem b_X9_behindSum_170 {d : Nat} {S : mSh} {M : mMem} {Q : Option mV → mSh → mMem → Prop} {x1 x2 x3 : Int} (k : Q (some (vI 2)) S M) : WP PR d 183 170 [vA 200, vI x1, vI x2, vI x3] [] S M Q := by
  refine WP.re 1 171 .ireturn (0, 0, 0, 0) _ rfl ?_
  exact ⟨rfl, rfl, trivial, k⟩
set_option maxRecDepth 100000 in
theorem b_X9_behindSum_172 {d : Nat} {S : mSh} {M : mMem} {Q : Option mV → mSh → mMem → Prop} {x1 x2 x3 : Int} (L : Lay S) (k : WP PR d 167 0 [vA 200, vI 60] [] S M (fun r S2 M2 => WP PR (d + 1) 183 178 [vA 200, vI x1, vI x2, vI x3] (r.toList ++ []) S2 M2 Q)) : WP PR (d + 1) 183 172 [vA 200, vI x1, vI x2, vI x3] [] S M Q := by
  refine WP.ca 2 178 175 (.invokevirtual 296) (0, 167, 0, 0) rfl ?_
  exact ⟨rfl, rfl, rfl, lo200 L, rfl, k⟩
set_option maxRecDepth 100000 in
theorem b_X9_behindSum_178 {d : Nat} {S : mSh} {M : mMem} {Q : Option mV → mSh → mMem → Prop} {x1 x2 x3 s0 : Int} (kt : s0 = 0 → WP PR d 183 186 [vA 200, vI x1, vI x2, vI x3] [] S M Q) (kf : ¬ s0 = 0 → WP PR d 183 181 [vA 200, vI x1, vI x2, vI x3] [] S M Q) : WP PR d 183 178 [vA 200, vI x1, vI x2, vI x3] [vI s0] S M Q := by
  refine WP.if0 0 181 178 .eq 8 (0, 0, 0, 0) 186 rfl rfl ?_
  exact ⟨kt, fun hc => kf hc⟩
set_option maxRecDepth 100000 in
theorem b_X9_behindSum_181 {d : Nat} {S : mSh} {M : mMem} {Q : Option mV → mSh → mMem → Prop} {x1 x2 x3 : Int} (L : Lay S) (k : WP PR d 168 0 [vA 200, vI 1] [] S M (fun r S2 M2 => WP PR (d + 1) 183 227 [vA 200, vI x1, vI 25, vI x3] (r.toList ++ []) S2 M2 Q)) : WP PR (d + 1) 183 181 [vA 200, vI x1, vI x2, vI x3] [] S M Q := by
  refine WP.gt 1 183 19 (0, 0, 0, 0) _ 202 rfl rfl ?_
  show WP PR (d + 1) 183 202 [vA 200, vI x1, vI x2, vI x3] [vI 25] S M Q
  refine WP.if2 4 210 207 .ne 12 (0, 0, 0, 0) 219 rfl rfl ?_
  refine ⟨fun _ => ?_, fun h => absurd (show ¬ (25 : Int) = (27 : Int) by decide) h⟩
  show WP PR (d + 1) 183 219 [vA 200, vI x1, vI 25, vI x3] [vA 200] S M Q
  refine WP.gt 1 220 4 (0, 0, 0, 0) _ 224 rfl rfl ?_
  show WP PR (d + 1) 183 224 [vA 200, vI x1, vI 25, vI x3] [vI 1, vA 200] S M Q
  refine WP.ca 0 227 224 (.invokevirtual 260) (0, 168, 0, 0) rfl ?_
  exact ⟨rfl, rfl, rfl, lo200 L, rfl, k⟩
set_option maxRecDepth 100000 in
theorem b_X9_behindSum_186 {d : Nat} {S : mSh} {M : mMem} {Q : Option mV → mSh → mMem → Prop} {x1 x2 x3 : Int} (L : Lay S) (k : WP PR d 167 0 [vA 200, vI 62] [] S M (fun r S2 M2 => WP PR (d + 1) 183 192 [vA 200, vI x1, vI x2, vI x3] (r.toList ++ []) S2 M2 Q)) : WP PR (d + 1) 183 186 [vA 200, vI x1, vI x2, vI x3] [] S M Q := by
  refine WP.ca 2 192 189 (.invokevirtual 296) (0, 167, 0, 0) rfl ?_
  exact ⟨rfl, rfl, rfl, lo200 L, rfl, k⟩
set_option maxRecDepth 100000 in
theorem b_X9_behindSum_192 {d : Nat} {S : mSh} {M : mMem} {Q : Option mV → mSh → mMem → Prop} {x1 x2 x3 s0 : Int} (kt : s0 = 0 → WP PR d 183 200 [vA 200, vI x1, vI x2, vI x3] [] S M Q) (kf : ¬ s0 = 0 → WP PR d 183 195 [vA 200, vI x1, vI x2, vI x3] [] S M Q) : WP PR d 183 192 [vA 200, vI x1, vI x2, vI x3] [vI s0] S M Q := by
  refine WP.if0 0 195 192 .eq 8 (0, 0, 0, 0) 200 rfl rfl ?_
  exact ⟨kt, fun hc => kf hc⟩
set_option maxRecDepth 100000 in
theorem b_X9_behindSum_195 {d : Nat} {S : mSh} {M : mMem} {Q : Option mV → mSh → mMem → Prop} {x1 x2 x3 : Int} (L : Lay S) (k : WP PR d 168 0 [vA 200, vI 1] [] S M (fun r S2 M2 => WP PR (d + 1) 183 227 [vA 200, vI x1, vI 26, vI x3] (r.toList ++ []) S2 M2 Q)) : WP PR (d + 1) 183 195 [vA 200, vI x1, vI x2, vI x3] [] S M Q := by
  refine WP.gt 1 197 5 (0, 0, 0, 0) _ 202 rfl rfl ?_
  show WP PR (d + 1) 183 202 [vA 200, vI x1, vI x2, vI x3] [vI 26] S M Q
  refine WP.if2 4 210 207 .ne 12 (0, 0, 0, 0) 219 rfl rfl ?_
  refine ⟨fun _ => ?_, fun h => absurd (show ¬ (26 : Int) = (27 : Int) by decide) h⟩
  show WP PR (d + 1) 183 219 [vA 200, vI x1, vI 26, vI x3] [vA 200] S M Q
  refine WP.gt 1 220 4 (0, 0, 0, 0) _ 224 rfl rfl ?_
  show WP PR (d + 1) 183 224 [vA 200, vI x1, vI 26, vI x3] [vI 1, vA 200] S M Q
  refine WP.ca 0 227 224 (.invokevirtual 260) (0, 168, 0, 0) rfl ?_
  exact ⟨rfl, rfl, rfl, lo200 L, rfl, k⟩
set_option maxRecDepth 100000 in
theorem b_X9_behindSum_200 {d : Nat} {S : mSh} {M : mMem} {Q : Option mV → mSh → mMem → Prop} {x1 x2 x3 : Int} (L : Lay S) (k : WP PR d 167 0 [vA 200, vI 61] [] S M (fun r S2 M2 => WP PR (d + 1) 183 216 [vA 200, vI x1, vI 27, vI x3] (r.toList ++ [vA 200]) S2 M2 Q)) : WP PR (d + 1) 183 200 [vA 200, vI x1, vI x2, vI x3] [] S M Q := by
  refine WP.if2 5 210 207 .ne 12 (0, 0, 0, 0) 219 rfl rfl ?_
  refine ⟨fun h => absurd h (show ¬ (¬ (27 : Int) = (27 : Int)) by decide), fun _ => ?_⟩
  show WP PR (d + 1) 183 210 [vA 200, vI x1, vI 27, vI x3] [vA 200] S M Q
  refine WP.ca 2 216 213 (.invokevirtual 296) (0, 167, 0, 0) rfl ?_
  exact ⟨rfl, rfl, rfl, lo200 L, rfl, k⟩
set_option maxRecDepth 100000 in
theorem b_X9_behindSum_216 {d : Nat} {S : mSh} {M : mMem} {Q : Option mV → mSh → mMem → Prop} {x1 x2 x3 s1 : Int} (kt : s1 = 0 → WP PR d 183 223 [vA 200, vI x1, vI x2, vI x3] [vA 200] S M Q) (kf : ¬ s1 = 0 → WP PR d 183 219 [vA 200, vI x1, vI x2, vI x3] [vA 200] S M Q) : WP PR d 183 216 [vA 200, vI x1, vI x2, vI x3] [vI s1, vA 200] S M Q := by
  refine WP.if0 0 219 216 .eq 7 (0, 0, 0, 0) 223 rfl rfl ?_
  exact ⟨kt, fun hc => kf hc⟩
set_option maxRecDepth 100000 in
theorem b_X9_behindSum_219 {d : Nat} {S : mSh} {M : mMem} {Q : Option mV → mSh → mMem → Prop} {x1 x2 x3 : Int} (L : Lay S) (k : WP PR d 168 0 [vA 200, vI 1] [] S M (fun r S2 M2 => WP PR (d + 1) 183 227 [vA 200, vI x1, vI x2, vI x3] (r.toList ++ []) S2 M2 Q)) : WP PR (d + 1) 183 219 [vA 200, vI x1, vI x2, vI x3] [vA 200] S M Q := by
  refine WP.gt 1 220 4 (0, 0, 0, 0) _ 224 rfl rfl ?_
  show WP PR (d + 1) 183 224 [vA 200, vI x1, vI x2, vI x3] [vI 1, vA 200] S M Q
  refine WP.ca 0 227 224 (.invokevirtual 260) (0, 168, 0, 0) rfl ?_
  exact ⟨rfl, rfl, rfl, lo200 L, rfl, k⟩
set_option maxRecDepth 100000 in
theorem b_X9_behindSum_223 {d : Nat} {S : mSh} {M : mMem} {Q : Option mV → mSh → mMem → Prop} {x1 x2 x3 : Int} (L : Lay S) (k : WP PR d 168 0 [vA 200, vI 0] [] S M (fun r S2 M2 => WP PR (d + 1) 183 227 [vA 200, vI x1, vI x2, vI x3] (r.toList ++ []) S2 M2 Q)) : WP PR (d + 1) 183 223 [vA 200, vI x1, vI x2, vI x3] [vA 200] S M Q := by
  refine WP.ca 1 227 224 (.invokevirtual 260) (0, 168, 0, 0) rfl ?_
  exact ⟨rfl, rfl, rfl, lo200 L, rfl, k⟩
set_option maxRecDepth 100000 in
theorem b_X9_behindSum_227 {d : Nat} {S : mSh} {M : mMem} {Q : Option mV → mSh → mMem → Prop} {x1 x2 x3 : Int} (L : Lay S) (kt : ¬ M 200 19 = 0 → WP PR d 183 245 [vA 200, vI x1, vI x2, vI x3] [] S M Q) (kf : M 200 19 = 0 → WP PR d 183 234 [vA 200, vI x1, vI x2, vI x3] [] S M Q) : WP PR d 183 227 [vA 200, vI x1, vI x2, vI x3] [] S M Q := by
  refine WP.if0 2 234 231 .ne 14 (0, 0, 0, 0) 245 rfl rfl ?_
  exact And.intro (lo200 L) (⟨kt, fun hc => kf (Decidable.not_not.mp hc)⟩)
set_option maxRecDepth 100000 in
theorem b_X9_behindSum_234 {d : Nat} {S : mSh} {M : mMem} {Q : Option mV → mSh → mMem → Prop} {x1 x2 x3 : Int} (L : Lay S) (k : WP PR d 174 0 [vA 200, vI 5] [] S M (fun r S2 M2 => WP PR (d + 1) 183 239 [vA 200, vI x1, vI x2, vI x3] (r.toList ++ []) S2 M2 Q)) : WP PR (d + 1) 183 234 [vA 200, vI x1, vI x2, vI x3] [] S M Q := by
  refine WP.ca 2 239 236 (.invokevirtual 327) (0, 174, 0, 0) rfl ?_
  exact ⟨rfl, rfl, rfl, lo200 L, rfl, k⟩
set_option maxRecDepth 100000 in
theorem b_X9_behindSum_239 {d : Nat} {S : mSh} {M : mMem} {Q : Option mV → mSh → mMem → Prop} {x1 x2 x3 : Int} (L : Lay S) (k : WP PR d 172 0 [vA 200, vI x2, vI 0] [] S M (fun r S2 M2 => WP PR (d + 1) 183 245 [vA 200, vI x1, vI x2, vI x3] (r.toList ++ []) S2 M2 Q)) : WP PR (d + 1) 183 239 [vA 200, vI x1, vI x2, vI x3] [] S M Q := by
  refine WP.ca 3 245 242 (.invokevirtual 290) (0, 172, 0, 0) rfl ?_
  exact ⟨rfl, rfl, rfl, lo200 L, rfl, k⟩
set_option maxRecDepth 100000 in
theorem b_X9_behindSum_245 {d : Nat} {S : mSh} {M : mMem} {Q : Option mV → mSh → mMem → Prop} {x1 x2 x3 : Int} (k : Q (some (vI 1)) S M) : WP PR d 183 245 [vA 200, vI x1, vI x2, vI x3] [] S M Q := by
  refine WP.re 1 246 .ireturn (0, 0, 0, 0) _ rfl ?_
  exact ⟨rfl, rfl, trivial, k⟩
/-- SoleraCellarModel.behindTest()I -/
abbrev e_X9_behindTest (d : Nat) (S : mSh) (M : mMem) (Q : Option mV → mSh → mMem → Prop) : Prop := WP PR d 184 0 [vA 200, vU] [] S M Q
set_option maxRecDepth 100000 in
theorem b_X9_behindTest_0 {d : Nat} {S : mSh} {M : mMem} {Q : Option mV → mSh → mMem → Prop} (L : Lay S) (k : WP PR d 166 0 [vA 200, vL 1476, vU] [] S M (fun r S2 M2 => WP PR (d + 1) 184 7 [vA 200, vU] (r.toList ++ []) S2 M2 Q)) : WP PR (d + 1) 184 0 [vA 200, vU] [] S M Q := by
  refine WP.ca 2 7 4 (.invokevirtual 283) (0, 166, 0, 0) rfl ?_
  exact ⟨rfl, rfl, rfl, lo200 L, rfl, k⟩
set_option maxRecDepth 100000 in
theorem b_X9_behindTest_7 {d : Nat} {S : mSh} {M : mMem} {Q : Option mV → mSh → mMem → Prop} {s0 : Int} {u1 : mV} (kt : ¬ s0 = 0 → WP PR d 184 22 [vA 200, vI s0] [] S M Q) (kf : s0 = 0 → WP PR d 184 12 [vA 200, vI s0] [] S M Q) : WP PR d 184 7 [vA 200, u1] [vI s0] S M Q := by
  refine WP.if0 2 12 9 .ne 13 (0, 0, 0, 0) 22 rfl rfl ?_
  exact ⟨kt, fun hc => kf (Decidable.not_not.mp hc)⟩
set_option maxRecDepth 100000 in
theorem b_X9_behindTest_12 {d : Nat} {S : mSh} {M : mMem} {Q : Option mV → mSh → mMem → Prop} {x1 : Int} (L : Lay S) (k : WP PR d 166 0 [vA 200, vL 498, vU] [] S M (fun r S2 M2 => WP PR (d + 1) 184 19 [vA 200, vI x1] (r.toList ++ []) S2 M2 Q)) : WP PR (d + 1) 184 12 [vA 200, vI x1] [] S M Q := by
  refine WP.ca 2 19 16 (.invokevirtual 283) (0, 166, 0, 0) rfl ?_
  exact ⟨rfl, rfl, rfl, lo200 L, rfl, k⟩
set_option maxRecDepth 100000 in
theorem b_X9_behindTest_19 {d : Nat} {S : mSh} {M : mMem} {Q : Option mV → mSh → mMem → Prop} {x1 s0 : Int} (kt : s0 = 0 → WP PR d 184 76 [vA 200, vI x1] [] S M Q) (kf : ¬ s0 = 0 → WP PR d 184 22 [vA 200, vI x1] [] S M Q) : WP PR d 184 19 [vA 200, vI x1] [vI s0] S M Q := by
  refine WP.if0 0 22 19 .eq 57 (0, 0, 0, 0) 76 rfl rfl ?_
  exact ⟨kt, fun hc => kf hc⟩
set_option maxRecDepth 100000 in
theorem b_X9_behindTest_22 {d : Nat} {S : mSh} {M : mMem} {Q : Option mV → mSh → mMem → Prop} {x1 : Int} (kt : x1 = 0 → WP PR d 184 31 [vA 200, vI x1] [vA 200] S M Q) (kf : ¬ x1 = 0 → WP PR d 184 27 [vA 200, vI x1] [vA 200] S M Q) : WP PR d 184 22 [vA 200, vI x1] [] S M Q := by
  refine WP.if0 2 27 24 .eq 7 (0, 0, 0, 0) 31 rfl rfl ?_
  exact ⟨kt, fun hc => kf hc⟩
set_option maxRecDepth 100000 in
theorem b_X9_behindTest_27 {d : Nat} {S : mSh} {M : mMem} {Q : Option mV → mSh → mMem → Prop} {x1 : Int} (L : Lay S) (k : WP PR d 174 0 [vA 200, vI 2] [] S M (fun r S2 M2 => WP PR (d + 1) 184 35 [vA 200, vI x1] (r.toList ++ []) S2 M2 Q)) : WP PR (d + 1) 184 27 [vA 200, vI x1] [vA 200] S M Q := by
  refine WP.gt 1 28 4 (0, 0, 0, 0) _ 32 rfl rfl ?_
  show WP PR (d + 1) 184 32 [vA 200, vI x1] [vI 2, vA 200] S M Q
  refine WP.ca 0 35 32 (.invokevirtual 327) (0, 174, 0, 0) rfl ?_
  exact ⟨rfl, rfl, rfl, lo200 L, rfl, k⟩
set_option maxRecDepth 100000 in
theorem b_X9_behindTest_31 {d : Nat} {S : mSh} {M : mMem} {Q : Option mV → mSh → mMem → Prop} {x1 : Int} (L : Lay S) (k : WP PR d 174 0 [vA 200, vI 1] [] S M (fun r S2 M2 => WP PR (d + 1) 184 35 [vA 200, vI x1] (r.toList ++ []) S2 M2 Q)) : WP PR (d + 1) 184 31 [vA 200, vI x1] [vA 200] S M Q := by
  refine WP.ca 1 35 32 (.invokevirtual 327) (0, 174, 0, 0) rfl ?_
  exact ⟨rfl, rfl, rfl, lo200 L, rfl, k⟩
set_option maxRecDepth 100000 in
theorem b_X9_behindTest_35 {d : Nat} {S : mSh} {M : mMem} {Q : Option mV → mSh → mMem → Prop} {x1 : Int} (kt : x1 = 0 → WP PR d 184 45 [vA 200, vI x1] [vA 200] S M Q) (kf : ¬ x1 = 0 → WP PR d 184 40 [vA 200, vI x1] [vA 200] S M Q) : WP PR d 184 35 [vA 200, vI x1] [] S M Q := by
  refine WP.if0 2 40 37 .eq 8 (0, 0, 0, 0) 45 rfl rfl ?_
  exact ⟨kt, fun hc => kf hc⟩
set_option maxRecDepth 100000 in
theorem b_X9_behindTest_40 {d : Nat} {S : mSh} {M : mMem} {Q : Option mV → mSh → mMem → Prop} {x1 : Int} (L : Lay S) (k : WP PR d 172 0 [vA 200, vI 29, vI (M 200 23)] [] S M (fun r S2 M2 => WP PR (d + 1) 184 54 [vA 200, vI x1] (r.toList ++ []) S2 M2 Q)) : WP PR (d + 1) 184 40 [vA 200, vI x1] [vA 200] S M Q := by
  refine WP.gt 1 42 5 (0, 0, 0, 0) _ 47 rfl rfl ?_
  show WP PR (d + 1) 184 47 [vA 200, vI x1] [vI 29, vA 200] S M Q
  refine WP.ca 2 54 51 (.invokevirtual 290) (0, 172, 0, 0) rfl ?_
  exact And.intro (lo200 L) (⟨rfl, rfl, rfl, lo200 L, rfl, k⟩)
set_option maxRecDepth 100000 in
theorem b_X9_behindTest_45 {d : Nat} {S : mSh} {M : mMem} {Q : Option mV → mSh → mMem → Prop} {x1 : Int} (L : Lay S) (k : WP PR d 172 0 [vA 200, vI 30, vI (M 200 23)] [] S M (fun r S2 M2 => WP PR (d + 1) 184 54 [vA 200, vI x1] (r.toList ++ []) S2 M2 Q)) : WP PR (d + 1) 184 45 [vA 200, vI x1] [vA 200] S M Q := by
  refine WP.ca 3 54 51 (.invokevirtual 290) (0, 172, 0, 0) rfl ?_
  exact And.intro (lo200 L) (⟨rfl, rfl, rfl, lo200 L, rfl, k⟩)
set_option maxRecDepth 100000 in
theorem b_X9_behindTest_54 {d : Nat} {S : mSh} {M : mMem} {Q : Option mV → mSh → mMem → Prop} {x1 : Int} (kt : x1 = 0 → WP PR d 184 64 [vA 200, vI x1] [vA 200] S M Q) (kf : ¬ x1 = 0 → WP PR d 184 59 [vA 200, vI x1] [vA 200] S M Q) : WP PR d 184 54 [vA 200, vI x1] [] S M Q := by
  refine WP.if0 2 59 56 .eq 8 (0, 0, 0, 0) 64 rfl rfl ?_
  exact ⟨kt, fun hc => kf hc⟩
set_option maxRecDepth 100000 in
theorem b_X9_behindTest_59 {d : Nat} {S : mSh} {M : mMem} {Q : Option mV → mSh → mMem → Prop} {x1 : Int} (L : Lay S) (k : WP PR d 171 0 [vA 200, vI 29, vI 0] [] S M (fun r S2 M2 => WP PR (d + 1) 184 70 [vA 200, vI x1] (r.toList ++ []) S2 M2 Q)) : WP PR (d + 1) 184 59 [vA 200, vI x1] [vA 200] S M Q := by
  refine WP.gt 1 61 5 (0, 0, 0, 0) _ 66 rfl rfl ?_
  show WP PR (d + 1) 184 66 [vA 200, vI x1] [vI 29, vA 200] S M Q
  refine WP.ca 1 70 67 (.invokevirtual 273) (0, 171, 0, 0) rfl ?_
  exact ⟨rfl, rfl, rfl, lo200 L, rfl, k⟩
set_option maxRecDepth 100000 in
theorem b_X9_behindTest_64 {d : Nat} {S : mSh} {M : mMem} {Q : Option mV → mSh → mMem → Prop} {x1 : Int} (L : Lay S) (k : WP PR d 171 0 [vA 200, vI 30, vI 0] [] S M (fun r S2 M2 => WP PR (d + 1) 184 70 [vA 200, vI x1] (r.toList ++ []) S2 M2 Q)) : WP PR (d + 1) 184 64 [vA 200, vI x1] [vA 200] S M Q := by
  refine WP.ca 2 70 67 (.invokevirtual 273) (0, 171, 0, 0) rfl ?_
  exact ⟨rfl, rfl, rfl, lo200 L, rfl, k⟩
set_option maxRecDepth 100000 in
theorem b_X9_behindTest_70 {d : Nat} {S : mSh} {M : mMem} {Q : Option mV → mSh → mMem → Prop} {x1 : Int} (L : Lay S) (k : WP PR d 165 0 [vA 200] [] S M (fun r S2 M2 => WP PR (d + 1) 184 74 [vA 200, vI x1] (r.toList ++ []) S2 M2 Q)) : WP PR (d + 1) 184 70 [vA 200, vI x1] [] S M Q := by
  refine WP.ca 1 74 71 (.invokevirtual 233) (0, 165, 0, 0) rfl ?_
  exact ⟨rfl, rfl, rfl, lo200 L, rfl, k⟩
set_option maxRecDepth 100000 in
theorem b_X9_behindTest_74 {d : Nat} {S : mSh} {M : mMem} {Q : Option mV → mSh → mMem → Prop} {x1 : Int} (k : Q (some (vI 0)) S M) : WP PR d 184 74 [vA 200, vI x1] [] S M Q := by
  refine WP.re 1 75 .ireturn (0, 0, 0, 0) _ rfl ?_
  exact ⟨rfl, rfl, trivial, k⟩
set_option maxRecDepth 100000 in
theorem b_X9_behindTest_76 {d : Nat} {S : mSh} {M : mMem} {Q : Option mV → mSh → mMem → Prop} {x1 : Int} (L : Lay S) (k : WP PR d 175 0 [vA 200, vU, vU] [] S M (fun r S2 M2 => WP PR (d + 1) 184 80 [vA 200, vI x1] (r.toList ++ []) S2 M2 Q)) : WP PR (d + 1) 184 76 [vA 200, vI x1] [] S M Q := by
  refine WP.ca 1 80 77 (.invokevirtual 330) (0, 175, 0, 0) rfl ?_
  exact ⟨rfl, rfl, rfl, lo200 L, rfl, k⟩
set_option maxRecDepth 100000 in
theorem b_X9_behindTest_80 {d : Nat} {S : mSh} {M : mMem} {Q : Option mV → mSh → mMem → Prop} {x1 s0 : Int} (kt : ¬ s0 = (-1) → WP PR d 184 86 [vA 200, vI x1] [] S M Q) (kf : s0 = (-1) → WP PR d 184 84 [vA 200, vI x1] [] S M Q) : WP PR d 184 80 [vA 200, vI x1] [vI s0] S M Q := by
  refine WP.if2 1 84 81 .ne 5 (0, 0, 0, 0) 86 rfl rfl ?_
  exact ⟨kt, fun hc => kf (Decidable.not_not.mp hc)⟩
set_option maxRecDepth 100000 in
theorem b_X9_behindTest_84 {d : Nat} {S : mSh} {M : mMem} {Q : Option mV → mSh → mMem → Prop} {x1 : Int} (k : Q (some (vI 4)) S M) : WP PR d 184 84 [vA 200, vI x1] [] S M Q := by
  refine WP.re 1 85 .ireturn (0, 0, 0, 0) _ rfl ?_
  exact ⟨rfl, rfl, trivial, k⟩
set_option maxRecDepth 100000 in
theorem b_X9_behindTest_86 {d : Nat} {S : mSh} {M : mMem} {Q : Option mV → mSh → mMem → Prop} {x1 : Int} (L : Lay S) (k : WP PR d 167 0 [vA 200, vI 41] [] S M (fun r S2 M2 => WP PR (d + 1) 184 93 [vA 200, vI x1] (r.toList ++ [vA 200]) S2 M2 Q)) : WP PR (d + 1) 184 86 [vA 200, vI x1] [] S M Q := by
  refine WP.ca 3 93 90 (.invokevirtual 296) (0, 167, 0, 0) rfl ?_
  exact ⟨rfl, rfl, rfl, lo200 L, rfl, k⟩
set_option maxRecDepth 100000 in
theorem b_X9_behindTest_93 {d : Nat} {S : mSh} {M : mMem} {Q : Option mV → mSh → mMem → Prop} {x1 s1 : Int} (L : Lay S) (k : WP PR d 168 0 [vA 200, vI s1] [] S M (fun r S2 M2 => WP PR (d + 1) 184 96 [vA 200, vI x1] (r.toList ++ []) S2 M2 Q)) : WP PR (d + 1) 184 93 [vA 200, vI x1] [vI s1, vA 200] S M Q := by
  refine WP.ca 0 96 93 (.invokevirtual 260) (0, 168, 0, 0) rfl ?_
  exact ⟨rfl, rfl, rfl, lo200 L, rfl, k⟩
set_option maxRecDepth 100000 in
theorem b_X9_behindTest_96 {d : Nat} {S : mSh} {M : mMem} {Q : Option mV → mSh → mMem → Prop} {x1 : Int} (L : Lay S) (kt : ¬ M 200 19 = 0 → WP PR d 184 128 [vA 200, vI x1] [] S M Q) (kf : M 200 19 = 0 → WP PR d 184 103 [vA 200, vI x1] [] S M Q) : WP PR d 184 96 [vA 200, vI x1] [] S M Q := by
  refine WP.if0 2 103 100 .ne 28 (0, 0, 0, 0) 128 rfl rfl ?_
  exact And.intro (lo200 L) (⟨kt, fun hc => kf (Decidable.not_not.mp hc)⟩)
set_option maxRecDepth 100000 in
theorem b_X9_behindTest_103 {d : Nat} {S : mSh} {M : mMem} {Q : Option mV → mSh → mMem → Prop} {x1 : Int} (L : Lay S) (k : WP PR d 174 0 [vA 200, vI 1] [] S M (fun r S2 M2 => WP PR (d + 1) 184 108 [vA 200, vI x1] (r.toList ++ []) S2 M2 Q)) : WP PR (d + 1) 184 103 [vA 200, vI x1] [] S M Q := by
  refine WP.ca 2 108 105 (.invokevirtual 327) (0, 174, 0, 0) rfl ?_
  exact ⟨rfl, rfl, rfl, lo200 L, rfl, k⟩
set_option maxRecDepth 100000 in
theorem b_X9_behindTest_108 {d : Nat} {S : mSh} {M : mMem} {Q : Option mV → mSh → mMem → Prop} {x1 : Int} (L : Lay S) (hc : R32 ((M 200 29) - 1) ∧ R32 ((M 200 30) - 1)) (k : Q (some (vI 2)) S (up (up M 200 29 ((M 200 29) - 1)) 200 30 ((M 200 30) - 1))) : WP PR d 184 108 [vA 200, vI x1] [] S M Q := by
  refine WP.re 13 129 .ireturn (0, 0, 0, 0) _ rfl ?_
  exact And.intro (lo200 L) (And.intro (hc.1) (And.intro (lo200 L) (And.intro (lo200 L) (And.intro (hc.2) (And.intro (lo200 L) (⟨rfl, rfl, trivial, k⟩))))))
set_option maxRecDepth 100000 in
theorem b_X9_behindTest_128 {d : Nat} {S : mSh} {M : mMem} {Q : Option mV → mSh → mMem → Prop} {x1 : Int} (k : Q (some (vI 2)) S M) : WP PR d 184 128 [vA 200, vI x1] [] S M Q := by
  refine WP.re 1 129 .ireturn (0, 0, 0, 0) _ rfl ?_
  exact ⟨rfl, rfl, trivial, k⟩
/-- SoleraCellarModel.readExpression(Z)V -/
abbrev e_X9_readExpression (d : Nat) (a1 : Int) (S : mSh) (M : mMem) (Q : Option mV → mSh → mMem → Prop) : Prop := WP PR d 185 0 [vA 200, vI a1, vU] [] S M Q
set_option maxRecDepth 100000 in
theorem b_X9_readExpression_0 {d : Nat} {S : mSh} {M : mMem} {Q : Option mV → mSh → mMem → Prop} {x1 : Int} (L : Lay S) (kt : x1 = 0 → WP PR d 185 18 [vA 200, vI x1, vU] [] S (up (up M 200 29 0) 200 30 0) Q) (kf : ¬ x1 = 0 → WP PR d 185 14 [vA 200, vI x1, vU] [] S (up (up M 200 29 0) 200 30 0) Q) : WP PR d 185 0 [vA 200, vI x1, vU] [] S M Q := by
  refine WP.if0 7 14 11 .eq 7 (0, 0, 0, 0) 18 rfl rfl ?_
  exact And.intro (lo200 L) (And.intro (lo200 L) (⟨kt, fun hc => kf hc⟩))
set_option maxRecDepth 100000 in
theorem b_X9_readExpression_14 {d : Nat} {S : mSh} {M : mMem} {Q : Option mV → mSh → mMem → Prop} {x1 : Int} {u2 : mV} (k : WP PR d 185 20 [vA 200, vI x1, vI 0] [] S M Q) : WP PR d 185 14 [vA 200, vI x1, u2] [] S M Q := by
  refine WP.gt 1 15 4 (0, 0, 0, 0) _ 19 rfl rfl ?_
  show WP PR d 185 19 [vA 200, vI x1, u2] [vI 0] S M Q
  refine WP.bl 1 20 rfl ?_
  exact k
set_option maxRecDepth 100000 in
theorem b_X9_readExpression_18 {d : Nat} {S : mSh} {M : mMem} {Q : Option mV → mSh → mMem → Prop} {x1 : Int} {u2 : mV} (k : WP PR d 185 20 [vA 200, vI x1, vI 1] [] S M Q) : WP PR d 185 18 [vA 200, vI x1, u2] [] S M Q := by
  refine WP.bl 2 20 rfl ?_
  exact k
set_option maxRecDepth 100000 in
theorem b_X9_readExpression_20 {d : Nat} {S : mSh} {M : mMem} {Q : Option mV → mSh → mMem → Prop} {x1 x2 : Int} (L : Lay S) (kt : ¬ M 200 19 = 0 → WP PR d 185 76 [vA 200, vI x1, vI x2] [] S M Q) (kf : M 200 19 = 0 → WP PR d 185 27 [vA 200, vI x1, vI x2] [] S M Q) : WP PR d 185 20 [vA 200, vI x1, vI x2] [] S M Q := by
  refine WP.if0 2 27 24 .ne 52 (0, 0, 0, 0) 76 rfl rfl ?_
  exact And.intro (lo200 L) (⟨kt, fun hc => kf (Decidable.not_not.mp hc)⟩)
set_option maxRecDepth 100000 in
theorem b_X9_readExpression_27 {d : Nat} {S : mSh} {M : mMem} {Q : Option mV → mSh → mMem → Prop} {x1 x2 : Int} (kt : x2 = 4 → WP PR d 185 76 [vA 200, vI x1, vI x2] [] S M Q) (kf : ¬ x2 = 4 → WP PR d 185 32 [vA 200, vI x1, vI x2] [] S M Q) : WP PR d 185 27 [vA 200, vI x1, vI x2] [] S M Q := by
  refine WP.if2 2 32 29 .eq 47 (0, 0, 0, 0) 76 rfl rfl ?_
  exact ⟨kt, fun hc => kf hc⟩
set_option maxRecDepth 100000 in
theorem b_X9_readExpression_32 {d : Nat} {S : mSh} {M : mMem} {Q : Option mV → mSh → mMem → Prop} {x1 x2 : Int} (kt : ¬ x2 = 0 → WP PR d 185 43 [vA 200, vI x1, vI x2] [] S M Q) (kf : x2 = 0 → WP PR d 185 36 [vA 200, vI x1, vI x2] [] S M Q) : WP PR d 185 32 [vA 200, vI x1, vI x2] [] S M Q := by
  refine WP.if0 1 36 33 .ne 10 (0, 0, 0, 0) 43 rfl rfl ?_
  exact ⟨kt, fun hc => kf (Decidable.not_not.mp hc)⟩
set_option maxRecDepth 100000 in
theorem b_X9_readExpression_36 {d : Nat} {S : mSh} {M : mMem} {Q : Option mV → mSh → mMem → Prop} {x1 x2 : Int} (L : Lay S) (k : WP PR d 182 0 [vA 200] [] S M (fun r S2 M2 => WP PR (d + 1) 185 40 [vA 200, vI x1, vI x2] (r.toList ++ []) S2 M2 Q)) : WP PR (d + 1) 185 36 [vA 200, vI x1, vI x2] [] S M Q := by
  refine WP.ca 1 40 37 (.invokevirtual 341) (0, 182, 0, 0) rfl ?_
  exact ⟨rfl, rfl, rfl, lo200 L, rfl, k⟩
set_option maxRecDepth 100000 in
theorem b_X9_readExpression_40 {d : Nat} {S : mSh} {M : mMem} {Q : Option mV → mSh → mMem → Prop} {x1 x2 s0 : Int} (k : WP PR d 185 20 [vA 200, vI x1, vI s0] [] S M Q) : WP PR d 185 40 [vA 200, vI x1, vI x2] [vI s0] S M Q := by
  refine WP.gt 0 40 32 (0, 0, 0, 0) _ 72 rfl rfl ?_
  show WP PR d 185 72 [vA 200, vI x1, vI x2] [vI s0] S M Q
  refine WP.gt 1 73 (-53) (0, 0, 0, 0) _ 20 rfl rfl ?_
  exact k
set_option maxRecDepth 100000 in
theorem b_X9_readExpression_43 {d : Nat} {S : mSh} {M : mMem} {Q : Option mV → mSh → mMem → Prop} {x1 x2 : Int} (kt : ¬ x2 = 1 → WP PR d 185 55 [vA 200, vI x1, vI x2] [] S M Q) (kf : x2 = 1 → WP PR d 185 48 [vA 200, vI x1, vI x2] [] S M Q) : WP PR d 185 43 [vA 200, vI x1, vI x2] [] S M Q := by
  refine WP.if2 2 48 45 .ne 10 (0, 0, 0, 0) 55 rfl rfl ?_
  exact ⟨kt, fun hc => kf (Decidable.not_not.mp hc)⟩
set_option maxRecDepth 100000 in
theorem b_X9_readExpression_48 {d : Nat} {S : mSh} {M : mMem} {Q : Option mV → mSh → mMem → Prop} {x1 x2 : Int} (L : Lay S) (k : WP PR d 181 0 [vA 200, vU, vU, vU] [] S M (fun r S2 M2 => WP PR (d + 1) 185 52 [vA 200, vI x1, vI x2] (r.toList ++ []) S2 M2 Q)) : WP PR (d + 1) 185 48 [vA 200, vI x1, vI x2] [] S M Q := by
  refine WP.ca 1 52 49 (.invokevirtual 324) (0, 181, 0, 0) rfl ?_
  exact ⟨rfl, rfl, rfl, lo200 L, rfl, k⟩
set_option maxRecDepth 100000 in
theorem b_X9_readExpression_52 {d : Nat} {S : mSh} {M : mMem} {Q : Option mV → mSh → mMem → Prop} {x1 x2 s0 : Int} (k : WP PR d 185 20 [vA 200, vI x1, vI s0] [] S M Q) : WP PR d 185 52 [vA 200, vI x1, vI x2] [vI s0] S M Q := by
  refine WP.gt 0 52 20 (0, 0, 0, 0) _ 72 rfl rfl ?_
  show WP PR d 185 72 [vA 200, vI x1, vI x2] [vI s0] S M Q
  refine WP.gt 1 73 (-53) (0, 0, 0, 0) _ 20 rfl rfl ?_
  exact k
set_option maxRecDepth 100000 in
theorem b_X9_readExpression_55 {d : Nat} {S : mSh} {M : mMem} {Q : Option mV → mSh → mMem → Prop} {x1 x2 : Int} (kt : ¬ x2 = 3 → WP PR d 185 68 [vA 200, vI x1, vI x2] [] S M Q) (kf : x2 = 3 → WP PR d 185 60 [vA 200, vI x1, vI x2] [] S M Q) : WP PR d 185 55 [vA 200, vI x1, vI x2] [] S M Q := by
  refine WP.if2 2 60 57 .ne 11 (0, 0, 0, 0) 68 rfl rfl ?_
  exact ⟨kt, fun hc => kf (Decidable.not_not.mp hc)⟩
set_option maxRecDepth 100000 in
theorem b_X9_readExpression_60 {d : Nat} {S : mSh} {M : mMem} {Q : Option mV → mSh → mMem → Prop} {x1 x2 : Int} (L : Lay S) (k : WP PR d 183 0 [vA 200, vI x1, vU, vU] [] S M (fun r S2 M2 => WP PR (d + 1) 185 65 [vA 200, vI x1, vI x2] (r.toList ++ []) S2 M2 Q)) : WP PR (d + 1) 185 60 [vA 200, vI x1, vI x2] [] S M Q := by
  refine WP.ca 2 65 62 (.invokevirtual 344) (0, 183, 0, 0) rfl ?_
  exact ⟨rfl, rfl, rfl, lo200 L, rfl, k⟩
set_option maxRecDepth 100000 in
theorem b_X9_readExpression_65 {d : Nat} {S : mSh} {M : mMem} {Q : Option mV → mSh → mMem → Prop} {x1 x2 s0 : Int} (k : WP PR d 185 20 [vA 200, vI x1, vI s0] [] S M Q) : WP PR d 185 65 [vA 200, vI x1, vI x2] [vI s0] S M Q := by
  refine WP.gt 0 65 7 (0, 0, 0, 0) _ 72 rfl rfl ?_
  show WP PR d 185 72 [vA 200, vI x1, vI x2] [vI s0] S M Q
  refine WP.gt 1 73 (-53) (0, 0, 0, 0) _ 20 rfl rfl ?_
  exact k
set_option maxRecDepth 100000 in
theorem b_X9_readExpression_68 {d : Nat} {S : mSh} {M : mMem} {Q : Option mV → mSh → mMem → Prop} {x1 x2 : Int} (L : Lay S) (k : WP PR d 184 0 [vA 200, vU] [] S M (fun r S2 M2 => WP PR (d + 1) 185 72 [vA 200, vI x1, vI x2] (r.toList ++ []) S2 M2 Q)) : WP PR (d + 1) 185 68 [vA 200, vI x1, vI x2] [] S M Q := by
  refine WP.ca 1 72 69 (.invokevirtual 348) (0, 184, 0, 0) rfl ?_
  exact ⟨rfl, rfl, rfl, lo200 L, rfl, k⟩
set_option maxRecDepth 100000 in
theorem b_X9_readExpression_72 {d : Nat} {S : mSh} {M : mMem} {Q : Option mV → mSh → mMem → Prop} {x1 x2 s0 : Int} (k : WP PR d 185 20 [vA 200, vI x1, vI s0] [] S M Q) : WP PR d 185 72 [vA 200, vI x1, vI x2] [vI s0] S M Q := by
  refine WP.gt 1 73 (-53) (0, 0, 0, 0) _ 20 rfl rfl ?_
  exact k
set_option maxRecDepth 100000 in
theorem b_X9_readExpression_76 {d : Nat} {S : mSh} {M : mMem} {Q : Option mV → mSh → mMem → Prop} {x1 x2 : Int} (L : Lay S) (k : WP PR d 174 0 [vA 200, vI 1] [] S M (fun r S2 M2 => WP PR (d + 1) 185 81 [vA 200, vI x1, vI x2] (r.toList ++ []) S2 M2 Q)) : WP PR (d + 1) 185 76 [vA 200, vI x1, vI x2] [] S M Q := by
  refine WP.ca 2 81 78 (.invokevirtual 327) (0, 174, 0, 0) rfl ?_
  exact ⟨rfl, rfl, rfl, lo200 L, rfl, k⟩
set_option maxRecDepth 100000 in
theorem b_X9_readExpression_81 {d : Nat} {S : mSh} {M : mMem} {Q : Option mV → mSh → mMem → Prop} {x1 x2 : Int} (k : Q (none) S M) : WP PR d 185 81 [vA 200, vI x1, vI x2] [] S M Q := by
  refine WP.re 0 81 .return_ (0, 0, 0, 0) _ rfl ?_
  exact ⟨rfl, rfl, trivial, k⟩
/-- SoleraCellarModel.beginText(Z)V -/
abbrev e_X9_beginText (d : Nat) (a1 : Int) (S : mSh) (M : mMem) (Q : Option mV → mSh → mMem → Prop) : Prop := WP PR d 186 0 [vA 200, vI a1] [] S M Q
set_option maxRecDepth 100000 in
theorem b_X9_beginText_0 {d : Nat} {S : mSh} {M : mMem} {Q : Option mV → mSh → mMem → Prop} {x1 : Int} (L : Lay S) (hc : (x1 = 0 ∨ x1 = 1)) (k : WP PR d 164 0 [vA 200] [] S (up M 200 20 x1) (fun r S2 M2 => WP PR (d + 1) 186 9 [vA 200, vI x1] (r.toList ++ []) S2 M2 Q)) : WP PR (d + 1) 186 0 [vA 200, vI x1] [] S M Q := by
  refine WP.ca 4 9 6 (.invokevirtual 351) (0, 164, 0, 0) rfl ?_
  exact And.intro (⟨lo200 L, hc⟩) (⟨rfl, rfl, rfl, lo200 L, rfl, k⟩)
set_option maxRecDepth 100000 in
theorem b_X9_beginText_9 {d : Nat} {S : mSh} {M : mMem} {Q : Option mV → mSh → mMem → Prop} {x1 : Int} (L : Lay S) (k : Q (none) S (up (up (up M 200 21 0) 200 23 0) 200 26 0)) : WP PR d 186 9 [vA 200, vI x1] [] S M Q := by
  refine WP.re 9 24 .return_ (0, 0, 0, 0) _ rfl ?_
  exact And.intro (lo200 L) (And.intro (lo200 L) (And.intro (lo200 L) (⟨rfl, rfl, trivial, k⟩)))
/-- SoleraCellarModel.endText()V -/
abbrev e_X9_endText (d : Nat) (S : mSh) (M : mMem) (Q : Option mV → mSh → mMem → Prop) : Prop := WP PR d 187 0 [vA 200] [] S M Q
set_option maxRecDepth 100000 in
theorem b_X9_endText_0 {d : Nat} {S : mSh} {M : mMem} {Q : Option mV → mSh → mMem → Prop} (L : Lay S) (kt : ¬ M 200 19 = 0 → WP PR d 187 19 [vA 200] [] S M Q) (kf : M 200 19 = 0 → WP PR d 187 7 [vA 200] [] S M Q) : WP PR d 187 0 [vA 200] [] S M Q := by
  refine WP.if0 2 7 4 .ne 15 (0, 0, 0, 0) 19 rfl rfl ?_
  exact And.intro (lo200 L) (⟨kt, fun hc => kf (Decidable.not_not.mp hc)⟩)
set_option maxRecDepth 100000 in
theorem b_X9_endText_7 {d : Nat} {S : mSh} {M : mMem} {Q : Option mV → mSh → mMem → Prop} (L : Lay S) (kt : M 200 16 = 0 → WP PR d 187 19 [vA 200] [] S M Q) (kf : ¬ M 200 16 = 0 → WP PR d 187 14 [vA 200] [] S M Q) : WP PR d 187 7 [vA 200] [] S M Q := by
  refine WP.if0 2 14 11 .eq 8 (0, 0, 0, 0) 19 rfl rfl ?_
  exact And.intro (lo200 L) (⟨kt, fun hc => kf hc⟩)
set_option maxRecDepth 100000 in
theorem b_X9_endText_14 {d : Nat} {S : mSh} {M : mMem} {Q : Option mV → mSh → mMem → Prop} (L : Lay S) (k : WP PR d 168 0 [vA 200, vI 0] [] S M (fun r S2 M2 => WP PR (d + 1) 187 19 [vA 200] (r.toList ++ []) S2 M2 Q)) : WP PR (d + 1) 187 14 [vA 200] [] S M Q := by
  refine WP.ca 2 19 16 (.invokevirtual 260) (0, 168, 0, 0) rfl ?_
  exact ⟨rfl, rfl, rfl, lo200 L, rfl, k⟩
set_option maxRecDepth 100000 in
theorem b_X9_endText_19 {d : Nat} {S : mSh} {M : mMem} {Q : Option mV → mSh → mMem → Prop} (L : Lay S) (k : Q (none) S (up (up M 200 20 0) 200 13 0)) : WP PR d 187 19 [vA 200] [] S M Q := by
  refine WP.re 6 29 .return_ (0, 0, 0, 0) _ rfl ?_
  exact And.intro (⟨lo200 L, Or.inl rfl⟩) (And.intro (lo200 L) (⟨rfl, rfl, trivial, k⟩))
/-- SoleraCellarModel.readLaw()V -/
abbrev e_X9_readLaw (d : Nat) (S : mSh) (M : mMem) (Q : Option mV → mSh → mMem → Prop) : Prop := WP PR d 188 0 [vA 200, vU, vU, vU] [] S M Q
set_option maxRecDepth 100000 in
theorem b_X9_readLaw_0 {d : Nat} {S : mSh} {M : mMem} {Q : Option mV → mSh → mMem → Prop} (k : WP PR d 188 4 [vA 200, vI (-1), vI 0, vU] [] S M Q) : WP PR d 188 0 [vA 200, vU, vU, vU] [] S M Q := by
  refine WP.bl 4 4 rfl ?_
  exact k
set_option maxRecDepth 100000 in
theorem b_X9_readLaw_4 {d : Nat} {S : mSh} {M : mMem} {Q : Option mV → mSh → mMem → Prop} {x1 x2 : Int} {u3 : mV} (kt : 3 ≤ x2 → WP PR d 188 34 [vA 200, vI x1, vI x2, u3] [] S M Q) (kf : x2 < 3 → WP PR d 188 9 [vA 200, vI x1, vI x2, u3] [] S M Q) : WP PR d 188 4 [vA 200, vI x1, vI x2, u3] [] S M Q := by
  refine WP.if2 2 9 6 .ge 28 (0, 0, 0, 0) 34 rfl rfl ?_
  exact ⟨kt, fun hc => kf (Int.not_le.mp hc)⟩
set_option maxRecDepth 100000 in
theorem b_X9_readLaw_9 {d : Nat} {S : mSh} {M : mMem} {Q : Option mV → mSh → mMem → Prop} {x1 x2 : Int} {u3 : mV} (L : Lay S) (hc : (0 ≤ x2 ∧ x2 < 3)) (k : WP PR d 166 0 [vA 200, vL (M 217 x2), vU] [] S M (fun r S2 M2 => WP PR (d + 1) 188 19 [vA 200, vI x1, vI x2, u3] (r.toList ++ []) S2 M2 Q)) : WP PR (d + 1) 188 9 [vA 200, vI x1, vI x2, u3] [] S M Q := by
  refine WP.ca 5 19 16 (.invokevirtual 283) (0, 166, 0, 0) rfl ?_
  exact And.intro (⟨lo200 L, lf200_33 L⟩) (And.intro (inA_of (lo217 L) (ll217 L) hc) (⟨rfl, rfl, rfl, lo200 L, rfl, k⟩))
set_option maxRecDepth 100000 in
theorem b_X9_readLaw_19 {d : Nat} {S : mSh} {M : mMem} {Q : Option mV → mSh → mMem → Prop} {x1 x2 s0 : Int} {u3 : mV} (kt : s0 = 0 → WP PR d 188 26 [vA 200, vI x1, vI x2, u3] [] S M Q) (kf : ¬ s0 = 0 → WP PR d 188 22 [vA 200, vI x1, vI x2, u3] [] S M Q) : WP PR d 188 19 [vA 200, vI x1, vI x2, u3] [vI s0] S M Q := by
  refine WP.if0 0 22 19 .eq 7 (0, 0, 0, 0) 26 rfl rfl ?_
  exact ⟨kt, fun hc => kf hc⟩
set_option maxRecDepth 100000 in
theorem b_X9_readLaw_22 {d : Nat} {S : mSh} {M : mMem} {Q : Option mV → mSh → mMem → Prop} {x1 x2 : Int} {u3 : mV} (hc : R32 (x2 + 1)) (k : WP PR d 188 4 [vA 200, vI x2, vI (x2 + 1), u3] [] S M Q) : WP PR d 188 22 [vA 200, vI x1, vI x2, u3] [] S M Q := by
  refine WP.gt 1 23 4 (0, 0, 0, 0) _ 27 rfl rfl ?_
  show WP PR d 188 27 [vA 200, vI x1, vI x2, u3] [vI x2] S M Q
  refine WP.gt 2 31 (-27) (0, 0, 0, 0) _ 4 rfl rfl ?_
  exact And.intro (hc) (k)
set_option maxRecDepth 100000 in
theorem b_X9_readLaw_26 {d : Nat} {S : mSh} {M : mMem} {Q : Option mV → mSh → mMem → Prop} {x1 x2 : Int} {u3 : mV} (hc : R32 (x2 + 1)) (k : WP PR d 188 4 [vA 200, vI x1, vI (x2 + 1), u3] [] S M Q) : WP PR d 188 26 [vA 200, vI x1, vI x2, u3] [] S M Q := by
  refine WP.gt 3 31 (-27) (0, 0, 0, 0) _ 4 rfl rfl ?_
  exact And.intro (hc) (k)
set_option maxRecDepth 100000 in
theorem b_X9_readLaw_34 {d : Nat} {S : mSh} {M : mMem} {Q : Option mV → mSh → mMem → Prop} {x1 x2 : Int} {u3 : mV} (kt : x1 = (-1) → WP PR d 188 53 [vA 200, vI x1, vI x2, u3] [vA 200] S M Q) (kf : ¬ x1 = (-1) → WP PR d 188 40 [vA 200, vI x1, vI x2, u3] [vA 200] S M Q) : WP PR d 188 34 [vA 200, vI x1, vI x2, u3] [] S M Q := by
  refine WP.if2 3 40 37 .eq 16 (0, 0, 0, 0) 53 rfl rfl ?_
  exact ⟨kt, fun hc => kf hc⟩
set_option maxRecDepth 100000 in
theorem b_X9_readLaw_40 {d : Nat} {S : mSh} {M : mMem} {Q : Option mV → mSh → mMem → Prop} {x1 x2 : Int} {u3 : mV} (L : Lay S) (kt : 12 ≤ M 200 21 → WP PR d 188 53 [vA 200, vI x1, vI x2, u3] [vA 200] S M Q) (kf : M 200 21 < 12 → WP PR d 188 49 [vA 200, vI x1, vI x2, u3] [vA 200] S M Q) : WP PR d 188 40 [vA 200, vI x1, vI x2, u3] [vA 200] S M Q := by
  refine WP.if2 3 49 46 .ge 7 (0, 0, 0, 0) 53 rfl rfl ?_
  exact And.intro (lo200 L) (⟨kt, fun hc => kf (Int.not_le.mp hc)⟩)
set_option maxRecDepth 100000 in
theorem b_X9_readLaw_49 {d : Nat} {S : mSh} {M : mMem} {Q : Option mV → mSh → mMem → Prop} {x1 x2 : Int} {u3 : mV} (L : Lay S) (k : WP PR d 168 0 [vA 200, vI 1] [] S M (fun r S2 M2 => WP PR (d + 1) 188 57 [vA 200, vI x1, vI x2, u3] (r.toList ++ []) S2 M2 Q)) : WP PR (d + 1) 188 49 [vA 200, vI x1, vI x2, u3] [vA 200] S M Q := by
  refine WP.gt 1 50 4 (0, 0, 0, 0) _ 54 rfl rfl ?_
  show WP PR (d + 1) 188 54 [vA 200, vI x1, vI x2, u3] [vI 1, vA 200] S M Q
  refine WP.ca 0 57 54 (.invokevirtual 260) (0, 168, 0, 0) rfl ?_
  exact ⟨rfl, rfl, rfl, lo200 L, rfl, k⟩
set_option maxRecDepth 100000 in
theorem b_X9_readLaw_53 {d : Nat} {S : mSh} {M : mMem} {Q : Option mV → mSh → mMem → Prop} {x1 x2 : Int} {u3 : mV} (L : Lay S) (k : WP PR d 168 0 [vA 200, vI 0] [] S M (fun r S2 M2 => WP PR (d + 1) 188 57 [vA 200, vI x1, vI x2, u3] (r.toList ++ []) S2 M2 Q)) : WP PR (d + 1) 188 53 [vA 200, vI x1, vI x2, u3] [vA 200] S M Q := by
  refine WP.ca 1 57 54 (.invokevirtual 260) (0, 168, 0, 0) rfl ?_
  exact ⟨rfl, rfl, rfl, lo200 L, rfl, k⟩
set_option maxRecDepth 100000 in
theorem b_X9_readLaw_57 {d : Nat} {S : mSh} {M : mMem} {Q : Option mV → mSh → mMem → Prop} {x1 x2 : Int} {u3 : mV} (L : Lay S) (kt : M 200 19 = 0 → WP PR d 188 65 [vA 200, vI x1, vI x2, u3] [] S M Q) (kf : ¬ M 200 19 = 0 → WP PR d 188 64 [vA 200, vI x1, vI x2, u3] [] S M Q) : WP PR d 188 57 [vA 200, vI x1, vI x2, u3] [] S M Q := by
  refine WP.if0 2 64 61 .eq 4 (0, 0, 0, 0) 65 rfl rfl ?_
  exact And.intro (lo200 L) (⟨kt, fun hc => kf hc⟩)
set_option maxRecDepth 100000 in
theorem b_X9_readLaw_64 {d : Nat} {S : mSh} {M : mMem} {Q : Option mV → mSh → mMem → Prop} {x1 x2 : Int} {u3 : mV} (k : Q (none) S M) : WP PR d 188 64 [vA 200, vI x1, vI x2, u3] [] S M Q := by
  refine WP.re 0 64 .return_ (0, 0, 0, 0) _ rfl ?_
  exact ⟨rfl, rfl, trivial, k⟩
set_option maxRecDepth 100000 in
theorem b_X9_readLaw_65 {d : Nat} {S : mSh} {M : mMem} {Q : Option mV → mSh → mMem → Prop} {x1 x2 : Int} {u3 : mV} (L : Lay S) (hc : R32 (8 * (M 200 21))) (k : WP PR d 188 75 [vA 200, vI x1, vI (8 * (M 200 21)), vI 0] [] S M Q) : WP PR d 188 65 [vA 200, vI x1, vI x2, u3] [] S M Q := by
  refine WP.bl 7 75 rfl ?_
  exact And.intro (lo200 L) (And.intro (hc) (k))
set_option maxRecDepth 100000 in
theorem b_X9_readLaw_75 {d : Nat} {S : mSh} {M : mMem} {Q : Option mV → mSh → mMem → Prop} {x1 x2 x3 : Int} (kt : 8 ≤ x3 → WP PR d 188 96 [vA 200, vI x1, vI x2, vI x3] [] S M Q) (kf : x3 < 8 → WP PR d 188 81 [vA 200, vI x1, vI x2, vI x3] [] S M Q) : WP PR d 188 75 [vA 200, vI x1, vI x2, vI x3] [] S M Q := by
  refine WP.if2 2 81 78 .ge 18 (0, 0, 0, 0) 96 rfl rfl ?_
  exact ⟨kt, fun hc => kf (Int.not_le.mp hc)⟩
set_option maxRecDepth 100000 in
theorem b_X9_readLaw_81 {d : Nat} {S : mSh} {M : mMem} {Q : Option mV → mSh → mMem → Prop} {x1 x2 x3 : Int} (L : Lay S) (hc : R32 (x2 + x3) ∧ (0 ≤ x2 + x3 ∧ x2 + x3 < 96) ∧ R32 (x3 + 1)) (k : WP PR d 188 75 [vA 200, vI x1, vI x2, vI (x3 + 1)] [] S (up M 210 (x2 + x3) 0) Q) : WP PR d 188 81 [vA 200, vI x1, vI x2, vI x3] [] S M Q := by
  refine WP.gt 8 93 (-18) (0, 0, 0, 0) _ 75 rfl rfl ?_
  exact And.intro (⟨lo200 L, lf200_22 L⟩) (And.intro (hc.1) (And.intro (inA_of (lo210 L) (ll210 L) hc.2.1) (And.intro (hc.2.2) (k))))
set_option maxRecDepth 100000 in
theorem b_X9_readLaw_96 {d : Nat} {S : mSh} {M : mMem} {Q : Option mV → mSh → mMem → Prop} {x1 x2 x3 : Int} (L : Lay S) (hc : (0 ≤ x2 ∧ x2 < 96) ∧ R32 ((M 200 21) + 1) ∧ R32 (x2 + 3) ∧ (0 ≤ x2 + 3 ∧ x2 + 3 < 96)) (kt : x1 = 2 → WP PR d 188 135 [vA 200, vI x1, vI x2, vI x3] [] S (up (up (up M 210 x2 x1) 200 21 ((M 200 21) + 1)) 210 (x2 + 3) (M 200 23)) Q) (kf : ¬ x1 = 2 → WP PR d 188 130 [vA 200, vI x1, vI x2, vI x3] [] S (up (up (up M 210 x2 x1) 200 21 ((M 200 21) + 1)) 210 (x2 + 3) (M 200 23)) Q) : WP PR d 188 96 [vA 200, vI x1, vI x2, vI x3] [] S M Q := by
  refine WP.if2 21 130 127 .eq 8 (0, 0, 0, 0) 135 rfl rfl ?_
  exact And.intro (⟨lo200 L, lf200_22 L⟩) (And.intro (inA_of (lo210 L) (ll210 L) hc.1) (And.intro (lo200 L) (And.intro (hc.2.1) (And.intro (lo200 L) (And.intro (⟨lo200 L, lf200_22 L⟩) (And.intro (hc.2.2.1) (And.intro (lo200 L) (And.intro (inA_of (lo210 L) (ll210 L) hc.2.2.2) (⟨kt, fun hc => kf hc⟩)))))))))
set_option maxRecDepth 100000 in
theorem b_X9_readLaw_130 {d : Nat} {S : mSh} {M : mMem} {Q : Option mV → mSh → mMem → Prop} {x1 x2 x3 : Int} (L : Lay S) (k : WP PR d 185 0 [vA 200, vI 0, vU] [] S M (fun r S2 M2 => WP PR (d + 1) 188 135 [vA 200, vI x1, vI x2, vI x3] (r.toList ++ []) S2 M2 Q)) : WP PR (d + 1) 188 130 [vA 200, vI x1, vI x2, vI x3] [] S M Q := by
  refine WP.ca 2 135 132 (.invokevirtual 357) (0, 185, 0, 0) rfl ?_
  exact ⟨rfl, rfl, rfl, lo200 L, rfl, k⟩
set_option maxRecDepth 100000 in
theorem b_X9_readLaw_135 {d : Nat} {S : mSh} {M : mMem} {Q : Option mV → mSh → mMem → Prop} {x1 x2 x3 : Int} (L : Lay S) (hc : R32 (x2 + 4) ∧ (0 ≤ x2 + 4 ∧ x2 + 4 < 96) ∧ R32 (x2 + 5) ∧ (0 ≤ x2 + 5 ∧ x2 + 5 < 96)) (kt : ¬ M 200 19 = 0 → WP PR d 188 185 [vA 200, vI x1, vI x2, vI x3] [] S (up (up M 210 (x2 + 4) (M 200 23)) 210 (x2 + 5) (M 200 23)) Q) (kf : M 200 19 = 0 → WP PR d 188 166 [vA 200, vI x1, vI x2, vI x3] [] S (up (up M 210 (x2 + 4) (M 200 23)) 210 (x2 + 5) (M 200 23)) Q) : WP PR d 188 135 [vA 200, vI x1, vI x2, vI x3] [] S M Q := by
  refine WP.if0 18 166 163 .ne 22 (0, 0, 0, 0) 185 rfl rfl ?_
  exact And.intro (⟨lo200 L, lf200_22 L⟩) (And.intro (hc.1) (And.intro (lo200 L) (And.intro (inA_of (lo210 L) (ll210 L) hc.2.1) (And.intro (⟨lo200 L, lf200_22 L⟩) (And.intro (hc.2.2.1) (And.intro (lo200 L) (And.intro (inA_of (lo210 L) (ll210 L) hc.2.2.2) (And.intro (lo200 L) (⟨kt, fun hc => kf (Decidable.not_not.mp hc)⟩)))))))))
set_option maxRecDepth 100000 in
theorem b_X9_readLaw_166 {d : Nat} {S : mSh} {M : mMem} {Q : Option mV → mSh → mMem → Prop} {x1 x2 x3 : Int} (L : Lay S) (k : WP PR d 166 0 [vA 200, vL 294, vU] [] S M (fun r S2 M2 => WP PR (d + 1) 188 173 [vA 200, vI x1, vI x2, vI x3] (r.toList ++ []) S2 M2 Q)) : WP PR (d + 1) 188 166 [vA 200, vI x1, vI x2, vI x3] [] S M Q := by
  refine WP.ca 2 173 170 (.invokevirtual 283) (0, 166, 0, 0) rfl ?_
  exact ⟨rfl, rfl, rfl, lo200 L, rfl, k⟩
set_option maxRecDepth 100000 in
theorem b_X9_readLaw_173 {d : Nat} {S : mSh} {M : mMem} {Q : Option mV → mSh → mMem → Prop} {x1 x2 x3 s0 : Int} (kt : s0 = 0 → WP PR d 188 185 [vA 200, vI x1, vI x2, vI x3] [] S M Q) (kf : ¬ s0 = 0 → WP PR d 188 176 [vA 200, vI x1, vI x2, vI x3] [] S M Q) : WP PR d 188 173 [vA 200, vI x1, vI x2, vI x3] [vI s0] S M Q := by
  refine WP.if0 0 176 173 .eq 12 (0, 0, 0, 0) 185 rfl rfl ?_
  exact ⟨kt, fun hc => kf hc⟩
set_option maxRecDepth 100000 in
theorem b_X9_readLaw_176 {d : Nat} {S : mSh} {M : mMem} {Q : Option mV → mSh → mMem → Prop} {x1 x2 x3 : Int} (L : Lay S) (k : WP PR d 165 0 [vA 200] [] S M (fun r S2 M2 => WP PR (d + 1) 188 180 [vA 200, vI x1, vI x2, vI x3] (r.toList ++ []) S2 M2 Q)) : WP PR (d + 1) 188 176 [vA 200, vI x1, vI x2, vI x3] [] S M Q := by
  refine WP.ca 1 180 177 (.invokevirtual 233) (0, 165, 0, 0) rfl ?_
  exact ⟨rfl, rfl, rfl, lo200 L, rfl, k⟩
set_option maxRecDepth 100000 in
theorem b_X9_readLaw_180 {d : Nat} {S : mSh} {M : mMem} {Q : Option mV → mSh → mMem → Prop} {x1 x2 x3 : Int} (L : Lay S) (k : WP PR d 185 0 [vA 200, vI 1, vU] [] S M (fun r S2 M2 => WP PR (d + 1) 188 185 [vA 200, vI x1, vI x2, vI x3] (r.toList ++ []) S2 M2 Q)) : WP PR (d + 1) 188 180 [vA 200, vI x1, vI x2, vI x3] [] S M Q := by
  refine WP.ca 2 185 182 (.invokevirtual 357) (0, 185, 0, 0) rfl ?_
  exact ⟨rfl, rfl, rfl, lo200 L, rfl, k⟩
set_option maxRecDepth 100000 in
theorem b_X9_readLaw_185 {d : Nat} {S : mSh} {M : mMem} {Q : Option mV → mSh → mMem → Prop} {x1 x2 x3 : Int} (L : Lay S) (hc : R32 (x2 + 6) ∧ (0 ≤ x2 + 6 ∧ x2 + 6 < 96)) (k : Q (none) S (up M 210 (x2 + 6) (M 200 23))) : WP PR d 188 185 [vA 200, vI x1, vI x2, vI x3] [] S M Q := by
  refine WP.re 8 198 .return_ (0, 0, 0, 0) _ rfl ?_
  exact And.intro (⟨lo200 L, lf200_22 L⟩) (And.intro (hc.1) (And.intro (lo200 L) (And.intro (inA_of (lo210 L) (ll210 L) hc.2) (⟨rfl, rfl, trivial, k⟩))))
