/-! Blocks (by program: wip/whole/gen3.py). -/
/-- SoleraCellarModel.<init>()V -/
abbrev e_X9_init (d : Nat) (a0 : Int) (S : mSh) (M : mMem) (Q : Option mV → mSh → mMem → Prop) : Prop := WP PR d 131 0 [vA a0] [] S M Q
/-- SoleraCellarModel.in(JJJ)Z -/
abbrev e_X9_in (d : Nat) (a0 a1 a2 : Int) (S : mSh) (M : mMem) (Q : Option mV → mSh → mMem → Prop) : Prop := WP PR d 132 0 [vL a0, vU, vL a1, vU, vL a2, vU] [] S M Q
set_option maxRecDepth 100000 in
theorem b_X9_in_0 {d : Nat} {S : mSh} {M : mMem} {Q : Option mV → mSh → mMem → Prop} {x0 x2 x4 : Int} (kt : x0 < x2 → WP PR d 132 17 [vL x0, vU, vL x2, vU, vL x4, vU] [] S M Q) (kf : x2 ≤ x0 → WP PR d 132 6 [vL x0, vU, vL x2, vU, vL x4, vU] [] S M Q) : WP PR d 132 0 [vL x0, vU, vL x2, vU, vL x4, vU] [] S M Q := by
  refine WP.if0 3 6 3 .lt 14 (0, 0, 0, 0) 17 rfl rfl ?_
  exact ⟨fun hc => kt (lcp_lt.mp hc), fun hc => kf (lcp_ge.mp (Int.not_lt.mp hc))⟩
set_option maxRecDepth 100000 in
theorem b_X9_in_6 {d : Nat} {S : mSh} {M : mMem} {Q : Option mV → mSh → mMem → Prop} {x0 x2 x4 : Int} (kt : x4 < x0 → WP PR d 132 17 [vL x0, vU, vL x2, vU, vL x4, vU] [] S M Q) (kf : x0 ≤ x4 → WP PR d 132 13 [vL x0, vU, vL x2, vU, vL x4, vU] [] S M Q) : WP PR d 132 6 [vL x0, vU, vL x2, vU, vL x4, vU] [] S M Q := by
  refine WP.if0 3 13 10 .gt 7 (0, 0, 0, 0) 17 rfl rfl ?_
  exact ⟨fun hc => kt (lcp_gt.mp hc), fun hc => kf (lcp_le.mp (Int.not_lt.mp hc))⟩
set_option maxRecDepth 100000 in
theorem b_X9_in_13 {d : Nat} {S : mSh} {M : mMem} {Q : Option mV → mSh → mMem → Prop} {x0 x2 x4 : Int} (k : Q (some (vI 1)) S M) : WP PR d 132 13 [vL x0, vU, vL x2, vU, vL x4, vU] [] S M Q := by
  refine WP.gt 1 14 4 (0, 0, 0, 0) _ 18 rfl rfl ?_
  show WP PR d 132 18 [vL x0, vU, vL x2, vU, vL x4, vU] [vI 1] S M Q
  refine WP.re 0 18 .ireturn (0, 0, 0, 0) _ rfl ?_
  exact ⟨rfl, rfl, Or.inr rfl, k⟩
set_option maxRecDepth 100000 in
theorem b_X9_in_17 {d : Nat} {S : mSh} {M : mMem} {Q : Option mV → mSh → mMem → Prop} {x0 x2 x4 : Int} (k : Q (some (vI 0)) S M) : WP PR d 132 17 [vL x0, vU, vL x2, vU, vL x4, vU] [] S M Q := by
  refine WP.re 1 18 .ireturn (0, 0, 0, 0) _ rfl ?_
  exact ⟨rfl, rfl, Or.inl rfl, k⟩
/-- SoleraCellarModel.is(II)Z -/
abbrev e_X9_is (d : Nat) (a0 a1 : Int) (S : mSh) (M : mMem) (Q : Option mV → mSh → mMem → Prop) : Prop := WP PR d 133 0 [vI a0, vI a1] [] S M Q
set_option maxRecDepth 100000 in
theorem b_X9_is_0 {d : Nat} {S : mSh} {M : mMem} {Q : Option mV → mSh → mMem → Prop} {x0 x1 : Int} (kt : ¬ band (bshr x0 x1) 1 = 1 → WP PR d 133 13 [vI x0, vI x1] [] S M Q) (kf : band (bshr x0 x1) 1 = 1 → WP PR d 133 9 [vI x0, vI x1] [] S M Q) : WP PR d 133 0 [vI x0, vI x1] [] S M Q := by
  refine WP.if2 6 9 6 .ne 7 (0, 0, 0, 0) 13 rfl rfl ?_
  exact ⟨kt, fun hc => kf (Decidable.not_not.mp hc)⟩
set_option maxRecDepth 100000 in
theorem b_X9_is_9 {d : Nat} {S : mSh} {M : mMem} {Q : Option mV → mSh → mMem → Prop} {x0 x1 : Int} (k : Q (some (vI 1)) S M) : WP PR d 133 9 [vI x0, vI x1] [] S M Q := by
  refine WP.gt 1 10 4 (0, 0, 0, 0) _ 14 rfl rfl ?_
  show WP PR d 133 14 [vI x0, vI x1] [vI 1] S M Q
  refine WP.re 0 14 .ireturn (0, 0, 0, 0) _ rfl ?_
  exact ⟨rfl, rfl, Or.inr rfl, k⟩
set_option maxRecDepth 100000 in
theorem b_X9_is_13 {d : Nat} {S : mSh} {M : mMem} {Q : Option mV → mSh → mMem → Prop} {x0 x1 : Int} (k : Q (some (vI 0)) S M) : WP PR d 133 13 [vI x0, vI x1] [] S M Q := by
  refine WP.re 1 14 .ireturn (0, 0, 0, 0) _ rfl ?_
  exact ⟨rfl, rfl, Or.inl rfl, k⟩
/-- SoleraCellarModel.bounded(JII)I -/
abbrev e_X9_bounded (d : Nat) (a0 a1 a2 : Int) (S : mSh) (M : mMem) (Q : Option mV → mSh → mMem → Prop) : Prop := WP PR d 134 0 [vL a0, vU, vI a1, vI a2] [] S M Q
set_option maxRecDepth 100000 in
theorem b_X9_bounded_0 {d : Nat} {S : mSh} {M : mMem} {Q : Option mV → mSh → mMem → Prop} {x0 x2 x3 : Int} (kt : x2 ≤ x0 → WP PR d 134 11 [vL x0, vU, vI x2, vI x3] [] S M Q) (kf : x0 < x2 → WP PR d 134 7 [vL x0, vU, vI x2, vI x3] [] S M Q) : WP PR d 134 0 [vL x0, vU, vI x2, vI x3] [] S M Q := by
  refine WP.if0 4 7 4 .ge 7 (0, 0, 0, 0) 11 rfl rfl ?_
  exact ⟨fun hc => kt (lcp_ge.mp hc), fun hc => kf (lcp_lt.mp (Int.not_le.mp hc))⟩
set_option maxRecDepth 100000 in
theorem b_X9_bounded_7 {d : Nat} {S : mSh} {M : mMem} {Q : Option mV → mSh → mMem → Prop} {x0 x2 x3 : Int} (k : Q (some (vI x2)) S M) : WP PR d 134 7 [vL x0, vU, vI x2, vI x3] [] S M Q := by
  refine WP.gt 1 8 16 (0, 0, 0, 0) _ 24 rfl rfl ?_
  show WP PR d 134 24 [vL x0, vU, vI x2, vI x3] [vI x2] S M Q
  refine WP.re 0 24 .ireturn (0, 0, 0, 0) _ rfl ?_
  exact ⟨rfl, rfl, trivial, k⟩
set_option maxRecDepth 100000 in
theorem b_X9_bounded_11 {d : Nat} {S : mSh} {M : mMem} {Q : Option mV → mSh → mMem → Prop} {x0 x2 x3 : Int} (kt : x0 ≤ x3 → WP PR d 134 22 [vL x0, vU, vI x2, vI x3] [] S M Q) (kf : x3 < x0 → WP PR d 134 18 [vL x0, vU, vI x2, vI x3] [] S M Q) : WP PR d 134 11 [vL x0, vU, vI x2, vI x3] [] S M Q := by
  refine WP.if0 4 18 15 .le 7 (0, 0, 0, 0) 22 rfl rfl ?_
  exact ⟨fun hc => kt (lcp_le.mp hc), fun hc => kf (lcp_gt.mp (Int.not_le.mp hc))⟩
set_option maxRecDepth 100000 in
theorem b_X9_bounded_18 {d : Nat} {S : mSh} {M : mMem} {Q : Option mV → mSh → mMem → Prop} {x0 x2 x3 : Int} (k : Q (some (vI x3)) S M) : WP PR d 134 18 [vL x0, vU, vI x2, vI x3] [] S M Q := by
  refine WP.gt 1 19 5 (0, 0, 0, 0) _ 24 rfl rfl ?_
  show WP PR d 134 24 [vL x0, vU, vI x2, vI x3] [vI x3] S M Q
  refine WP.re 0 24 .ireturn (0, 0, 0, 0) _ rfl ?_
  exact ⟨rfl, rfl, trivial, k⟩
set_option maxRecDepth 100000 in
theorem b_X9_bounded_22 {d : Nat} {S : mSh} {M : mMem} {Q : Option mV → mSh → mMem → Prop} {x0 x2 x3 : Int} (k : Q (some (vI (w32 x0))) S M) : WP PR d 134 22 [vL x0, vU, vI x2, vI x3] [] S M Q := by
  refine WP.re 2 24 .ireturn (0, 0, 0, 0) _ rfl ?_
  exact ⟨rfl, rfl, trivial, k⟩
/-- SoleraCellarModel.tell(I)I -/
abbrev e_X9_tell (d : Nat) (a1 : Int) (S : mSh) (M : mMem) (Q : Option mV → mSh → mMem → Prop) : Prop := WP PR d 135 0 [vA 200, vI a1] [] S M Q
set_option maxRecDepth 100000 in
theorem b_X9_tell_0 {d : Nat} {S : mSh} {M : mMem} {Q : Option mV → mSh → mMem → Prop} {x1 : Int} (kt : 0 ≤ x1 → WP PR d 135 9 [vA 200, vI x1] [vA 200] S M Q) (kf : x1 < 0 → WP PR d 135 5 [vA 200, vI x1] [vA 200] S M Q) : WP PR d 135 0 [vA 200, vI x1] [] S M Q := by
  refine WP.if0 2 5 2 .ge 7 (0, 0, 0, 0) 9 rfl rfl ?_
  exact ⟨kt, fun hc => kf (Int.not_le.mp hc)⟩
set_option maxRecDepth 100000 in
theorem b_X9_tell_5 {d : Nat} {S : mSh} {M : mMem} {Q : Option mV → mSh → mMem → Prop} {x1 : Int} (L : Lay S) (kt : 0 ≤ x1 → WP PR d 135 28 [vA 200, vI x1] [] S (up M 200 1 x1) Q) (kf : x1 < 0 → WP PR d 135 17 [vA 200, vI x1] [] S (up M 200 1 x1) Q) : WP PR d 135 5 [vA 200, vI x1] [vA 200] S M Q := by
  refine WP.gt 1 6 4 (0, 0, 0, 0) _ 10 rfl rfl ?_
  show WP PR d 135 10 [vA 200, vI x1] [vI x1, vA 200] S M Q
  refine WP.if0 2 17 14 .ge 14 (0, 0, 0, 0) 28 rfl rfl ?_
  exact And.intro (lo200 L) (⟨kt, fun hc => kf (Int.not_le.mp hc)⟩)
set_option maxRecDepth 100000 in
theorem b_X9_tell_9 {d : Nat} {S : mSh} {M : mMem} {Q : Option mV → mSh → mMem → Prop} {x1 : Int} (L : Lay S) (kt : 0 ≤ x1 → WP PR d 135 28 [vA 200, vI x1] [] S (up M 200 1 0) Q) (kf : x1 < 0 → WP PR d 135 17 [vA 200, vI x1] [] S (up M 200 1 0) Q) : WP PR d 135 9 [vA 200, vI x1] [vA 200] S M Q := by
  refine WP.if0 3 17 14 .ge 14 (0, 0, 0, 0) 28 rfl rfl ?_
  exact And.intro (lo200 L) (⟨kt, fun hc => kf (Int.not_le.mp hc)⟩)
set_option maxRecDepth 100000 in
theorem b_X9_tell_17 {d : Nat} {S : mSh} {M : mMem} {Q : Option mV → mSh → mMem → Prop} {x1 : Int} (L : Lay S) (hc : R32 (-x1) ∧ (0 ≤ -x1 ∧ -x1 < 7) ∧ R32 ((M 201 (-x1)) + 1)) (k : Q (some (vI x1)) S (up M 201 (-x1) ((M 201 (-x1)) + 1))) : WP PR d 135 17 [vA 200, vI x1] [] S M Q := by
  refine WP.re 10 29 .ireturn (0, 0, 0, 0) _ rfl ?_
  exact And.intro (⟨lo200 L, lf200_2 L⟩) (And.intro (hc.1) (And.intro (inA_of (lo201 L) (ll201 L) hc.2.1) (And.intro (hc.2.2) (And.intro (inA_of (lo201 L) (ll201 L) hc.2.1) (⟨rfl, rfl, trivial, k⟩)))))
set_option maxRecDepth 100000 in
theorem b_X9_tell_28 {d : Nat} {S : mSh} {M : mMem} {Q : Option mV → mSh → mMem → Prop} {x1 : Int} (k : Q (some (vI x1)) S M) : WP PR d 135 28 [vA 200, vI x1] [] S M Q := by
  refine WP.re 1 29 .ireturn (0, 0, 0, 0) _ rfl ?_
  exact ⟨rfl, rfl, trivial, k⟩
/-- SoleraCellarModel.change(II)I -/
abbrev e_X9_change (d : Nat) (a1 a2 : Int) (S : mSh) (M : mMem) (Q : Option mV → mSh → mMem → Prop) : Prop := WP PR d 136 0 [vA 200, vI a1, vI a2, vU] [] S M Q
set_option maxRecDepth 100000 in
theorem b_X9_change_0 {d : Nat} {S : mSh} {M : mMem} {Q : Option mV → mSh → mMem → Prop} {x1 x2 : Int} (L : Lay S) (hc : (0 ≤ x1 ∧ x1 < 9390)) (k : Q (some (vI (M 202 x1))) S (up (up M 202 x1 x2) 200 1 0)) : WP PR d 136 0 [vA 200, vI x1, vI x2, vU] [] S M Q := by
  refine WP.re 14 20 .ireturn (0, 0, 0, 0) _ rfl ?_
  exact And.intro (⟨lo200 L, lf200_3 L⟩) (And.intro (inA_of (lo202 L) (ll202 L) hc) (And.intro (⟨lo200 L, lf200_3 L⟩) (And.intro (inA_of (lo202 L) (ll202 L) hc) (And.intro (lo200 L) (⟨rfl, rfl, trivial, k⟩)))))
/-- SoleraCellarModel.lasting(I)I -/
abbrev e_X9_lasting (d : Nat) (a1 : Int) (S : mSh) (M : mMem) (Q : Option mV → mSh → mMem → Prop) : Prop := WP PR d 137 0 [vA 200, vI a1] [] S M Q
set_option maxRecDepth 100000 in
theorem b_X9_lasting_0 {d : Nat} {S : mSh} {M : mMem} {Q : Option mV → mSh → mMem → Prop} {x1 : Int} (kt : 0 ≤ x1 → WP PR d 137 12 [vA 200, vI x1] [vA 200] S M Q) (kf : x1 < 0 → WP PR d 137 5 [vA 200, vI x1] [vA 200] S M Q) : WP PR d 137 0 [vA 200, vI x1] [] S M Q := by
  refine WP.if0 2 5 2 .ge 10 (0, 0, 0, 0) 12 rfl rfl ?_
  exact ⟨kt, fun hc => kf (Int.not_le.mp hc)⟩
set_option maxRecDepth 100000 in
theorem b_X9_lasting_5 {d : Nat} {S : mSh} {M : mMem} {Q : Option mV → mSh → mMem → Prop} {x1 : Int} (L : Lay S) (k : WP PR d 135 0 [vA 200, vI x1] [] S (up M 200 8 (M 200 8)) (fun r S2 M2 => WP PR (d + 1) 137 21 [vA 200, vI x1] (r.toList ++ []) S2 M2 Q)) : WP PR (d + 1) 137 5 [vA 200, vI x1] [vA 200] S M Q := by
  refine WP.gt 2 9 4 (0, 0, 0, 0) _ 13 rfl rfl ?_
  refine And.intro (lo200 L) (?_)
  show WP PR (d + 1) 137 13 [vA 200, vI x1] [vI (M 200 8), vA 200] S M Q
  refine WP.ca 3 21 18 (.invokevirtual 142) (0, 135, 0, 0) rfl ?_
  exact And.intro (lo200 L) (⟨rfl, rfl, rfl, lo200 L, rfl, k⟩)
set_option maxRecDepth 100000 in
theorem b_X9_lasting_12 {d : Nat} {S : mSh} {M : mMem} {Q : Option mV → mSh → mMem → Prop} {x1 : Int} (L : Lay S) (k : WP PR d 135 0 [vA 200, vI x1] [] S (up M 200 8 0) (fun r S2 M2 => WP PR (d + 1) 137 21 [vA 200, vI x1] (r.toList ++ []) S2 M2 Q)) : WP PR (d + 1) 137 12 [vA 200, vI x1] [vA 200] S M Q := by
  refine WP.ca 4 21 18 (.invokevirtual 142) (0, 135, 0, 0) rfl ?_
  exact And.intro (lo200 L) (⟨rfl, rfl, rfl, lo200 L, rfl, k⟩)
set_option maxRecDepth 100000 in
theorem b_X9_lasting_21 {d : Nat} {S : mSh} {M : mMem} {Q : Option mV → mSh → mMem → Prop} {x1 s0 : Int} (k : Q (some (vI s0)) S M) : WP PR d 137 21 [vA 200, vI x1] [vI s0] S M Q := by
  refine WP.re 0 21 .ireturn (0, 0, 0, 0) _ rfl ?_
  exact ⟨rfl, rfl, trivial, k⟩
/-- SoleraCellarModel.keepAll(I)V -/
abbrev e_X9_keepAll (d : Nat) (a1 : Int) (S : mSh) (M : mMem) (Q : Option mV → mSh → mMem → Prop) : Prop := WP PR d 138 0 [vA 200, vI a1, vU] [] S M Q
set_option maxRecDepth 100000 in
theorem b_X9_keepAll_0 {d : Nat} {S : mSh} {M : mMem} {Q : Option mV → mSh → mMem → Prop} {x1 : Int} (k : WP PR d 138 2 [vA 200, vI x1, vI 0] [] S M Q) : WP PR d 138 0 [vA 200, vI x1, vU] [] S M Q := by
  refine WP.bl 2 2 rfl ?_
  exact k
set_option maxRecDepth 100000 in
theorem b_X9_keepAll_2 {d : Nat} {S : mSh} {M : mMem} {Q : Option mV → mSh → mMem → Prop} {x1 x2 : Int} (kt : 165 ≤ x2 → WP PR d 138 35 [vA 200, vI x1, vI x2] [] S M Q) (kf : x2 < 165 → WP PR d 138 9 [vA 200, vI x1, vI x2] [] S M Q) : WP PR d 138 2 [vA 200, vI x1, vI x2] [] S M Q := by
  refine WP.if2 2 9 6 .ge 29 (0, 0, 0, 0) 35 rfl rfl ?_
  exact ⟨kt, fun hc => kf (Int.not_le.mp hc)⟩
set_option maxRecDepth 100000 in
theorem b_X9_keepAll_9 {d : Nat} {S : mSh} {M : mMem} {Q : Option mV → mSh → mMem → Prop} {x1 x2 : Int} (L : Lay S) (hc : R32 (165 * x1) ∧ R32 ((165 * x1) + x2) ∧ R32 (5 + x2) ∧ (0 ≤ 5 + x2 ∧ 5 + x2 < 9390) ∧ (0 ≤ (165 * x1) + x2 ∧ (165 * x1) + x2 < 2970) ∧ R32 (x2 + 1)) (k : WP PR d 138 2 [vA 200, vI x1, vI (x2 + 1)] [] S (up M 205 ((165 * x1) + x2) (M 202 (5 + x2))) Q) : WP PR d 138 9 [vA 200, vI x1, vI x2] [] S M Q := by
  refine WP.gt 15 32 (-30) (0, 0, 0, 0) _ 2 rfl rfl ?_
  exact And.intro (⟨lo200 L, lf200_6 L⟩) (And.intro (hc.1) (And.intro (hc.2.1) (And.intro (⟨lo200 L, lf200_3 L⟩) (And.intro (hc.2.2.1) (And.intro (inA_of (lo202 L) (ll202 L) hc.2.2.2.1) (And.intro (inA_of (lo205 L) (ll205 L) hc.2.2.2.2.1) (And.intro (hc.2.2.2.2.2) (k))))))))
set_option maxRecDepth 100000 in
theorem b_X9_keepAll_35 {d : Nat} {S : mSh} {M : mMem} {Q : Option mV → mSh → mMem → Prop} {x1 x2 : Int} (k : Q (none) S M) : WP PR d 138 35 [vA 200, vI x1, vI x2] [] S M Q := by
  refine WP.re 0 35 .return_ (0, 0, 0, 0) _ rfl ?_
  exact ⟨rfl, rfl, trivial, k⟩
/-- SoleraCellarModel.putBack(I)V -/
abbrev e_X9_putBack (d : Nat) (a1 : Int) (S : mSh) (M : mMem) (Q : Option mV → mSh → mMem → Prop) : Prop := WP PR d 139 0 [vA 200, vI a1, vU] [] S M Q
set_option maxRecDepth 100000 in
theorem b_X9_putBack_0 {d : Nat} {S : mSh} {M : mMem} {Q : Option mV → mSh → mMem → Prop} {x1 : Int} (k : WP PR d 139 2 [vA 200, vI x1, vI 0] [] S M Q) : WP PR d 139 0 [vA 200, vI x1, vU] [] S M Q := by
  refine WP.bl 2 2 rfl ?_
  exact k
set_option maxRecDepth 100000 in
theorem b_X9_putBack_2 {d : Nat} {S : mSh} {M : mMem} {Q : Option mV → mSh → mMem → Prop} {x1 x2 : Int} (kt : 165 ≤ x2 → WP PR d 139 35 [vA 200, vI x1, vI x2] [] S M Q) (kf : x2 < 165 → WP PR d 139 9 [vA 200, vI x1, vI x2] [] S M Q) : WP PR d 139 2 [vA 200, vI x1, vI x2] [] S M Q := by
  refine WP.if2 2 9 6 .ge 29 (0, 0, 0, 0) 35 rfl rfl ?_
  exact ⟨kt, fun hc => kf (Int.not_le.mp hc)⟩
set_option maxRecDepth 100000 in
theorem b_X9_putBack_9 {d : Nat} {S : mSh} {M : mMem} {Q : Option mV → mSh → mMem → Prop} {x1 x2 : Int} (L : Lay S) (hc : R32 (5 + x2) ∧ R32 (165 * x1) ∧ R32 ((165 * x1) + x2) ∧ (0 ≤ (165 * x1) + x2 ∧ (165 * x1) + x2 < 2970) ∧ (0 ≤ 5 + x2 ∧ 5 + x2 < 9390) ∧ R32 (x2 + 1)) (k : WP PR d 139 2 [vA 200, vI x1, vI (x2 + 1)] [] S (up M 202 (5 + x2) (M 205 ((165 * x1) + x2))) Q) : WP PR d 139 9 [vA 200, vI x1, vI x2] [] S M Q := by
  refine WP.gt 15 32 (-30) (0, 0, 0, 0) _ 2 rfl rfl ?_
  exact And.intro (⟨lo200 L, lf200_3 L⟩) (And.intro (hc.1) (And.intro (⟨lo200 L, lf200_6 L⟩) (And.intro (hc.2.1) (And.intro (hc.2.2.1) (And.intro (inA_of (lo205 L) (ll205 L) hc.2.2.2.1) (And.intro (inA_of (lo202 L) (ll202 L) hc.2.2.2.2.1) (And.intro (hc.2.2.2.2.2) (k))))))))
set_option maxRecDepth 100000 in
theorem b_X9_putBack_35 {d : Nat} {S : mSh} {M : mMem} {Q : Option mV → mSh → mMem → Prop} {x1 x2 : Int} (k : Q (none) S M) : WP PR d 139 35 [vA 200, vI x1, vI x2] [] S M Q := by
  refine WP.re 0 35 .return_ (0, 0, 0, 0) _ rfl ?_
  exact ⟨rfl, rfl, trivial, k⟩
/-- SoleraCellarModel.remember(I)V -/
abbrev e_X9_remember (d : Nat) (a1 : Int) (S : mSh) (M : mMem) (Q : Option mV → mSh → mMem → Prop) : Prop := WP PR d 140 0 [vA 200, vI a1, vU] [] S M Q
set_option maxRecDepth 100000 in
theorem b_X9_remember_0 {d : Nat} {S : mSh} {M : mMem} {Q : Option mV → mSh → mMem → Prop} {x1 : Int} (L : Lay S) (kt : ¬ M 200 8 = 16 → WP PR d 140 78 [vA 200, vI x1, vU] [] S M Q) (kf : M 200 8 = 16 → WP PR d 140 9 [vA 200, vI x1, vU] [] S M Q) : WP PR d 140 0 [vA 200, vI x1, vU] [] S M Q := by
  refine WP.if2 3 9 6 .ne 72 (0, 0, 0, 0) 78 rfl rfl ?_
  exact And.intro (lo200 L) (⟨kt, fun hc => kf (Decidable.not_not.mp hc)⟩)
set_option maxRecDepth 100000 in
theorem b_X9_remember_9 {d : Nat} {S : mSh} {M : mMem} {Q : Option mV → mSh → mMem → Prop} {x1 : Int} {u2 : mV} (k : WP PR d 140 11 [vA 200, vI x1, vI 0] [] S M Q) : WP PR d 140 9 [vA 200, vI x1, u2] [] S M Q := by
  refine WP.bl 2 11 rfl ?_
  exact k
set_option maxRecDepth 100000 in
theorem b_X9_remember_11 {d : Nat} {S : mSh} {M : mMem} {Q : Option mV → mSh → mMem → Prop} {x1 x2 : Int} (kt : 2475 ≤ x2 → WP PR d 140 40 [vA 200, vI x1, vI x2] [] S M Q) (kf : x2 < 2475 → WP PR d 140 18 [vA 200, vI x1, vI x2] [] S M Q) : WP PR d 140 11 [vA 200, vI x1, vI x2] [] S M Q := by
  refine WP.if2 2 18 15 .ge 25 (0, 0, 0, 0) 40 rfl rfl ?_
  exact ⟨kt, fun hc => kf (Int.not_le.mp hc)⟩
set_option maxRecDepth 100000 in
theorem b_X9_remember_18 {d : Nat} {S : mSh} {M : mMem} {Q : Option mV → mSh → mMem → Prop} {x1 x2 : Int} (L : Lay S) (hc : R32 (x2 + 165) ∧ (0 ≤ x2 + 165 ∧ x2 + 165 < 2970) ∧ (0 ≤ x2 ∧ x2 < 2970) ∧ R32 (x2 + 1)) (k : WP PR d 140 11 [vA 200, vI x1, vI (x2 + 1)] [] S (up M 205 x2 (M 205 (x2 + 165))) Q) : WP PR d 140 18 [vA 200, vI x1, vI x2] [] S M Q := by
  refine WP.gt 11 37 (-26) (0, 0, 0, 0) _ 11 rfl rfl ?_
  exact And.intro (⟨lo200 L, lf200_6 L⟩) (And.intro (⟨lo200 L, lf200_6 L⟩) (And.intro (hc.1) (And.intro (inA_of (lo205 L) (ll205 L) hc.2.1) (And.intro (inA_of (lo205 L) (ll205 L) hc.2.2.1) (And.intro (hc.2.2.2) (k))))))
set_option maxRecDepth 100000 in
theorem b_X9_remember_40 {d : Nat} {S : mSh} {M : mMem} {Q : Option mV → mSh → mMem → Prop} {x1 x2 : Int} (k : WP PR d 140 42 [vA 200, vI x1, vI 0] [] S M Q) : WP PR d 140 40 [vA 200, vI x1, vI x2] [] S M Q := by
  refine WP.bl 2 42 rfl ?_
  exact k
set_option maxRecDepth 100000 in
theorem b_X9_remember_42 {d : Nat} {S : mSh} {M : mMem} {Q : Option mV → mSh → mMem → Prop} {x1 x2 : Int} (kt : 15 ≤ x2 → WP PR d 140 68 [vA 200, vI x1, vI x2] [] S M Q) (kf : x2 < 15 → WP PR d 140 48 [vA 200, vI x1, vI x2] [] S M Q) : WP PR d 140 42 [vA 200, vI x1, vI x2] [] S M Q := by
  refine WP.if2 2 48 45 .ge 23 (0, 0, 0, 0) 68 rfl rfl ?_
  exact ⟨kt, fun hc => kf (Int.not_le.mp hc)⟩
set_option maxRecDepth 100000 in
theorem b_X9_remember_48 {d : Nat} {S : mSh} {M : mMem} {Q : Option mV → mSh → mMem → Prop} {x1 x2 : Int} (L : Lay S) (hc : R32 (x2 + 1) ∧ (0 ≤ x2 + 1 ∧ x2 + 1 < 16) ∧ (0 ≤ x2 ∧ x2 < 16)) (k : WP PR d 140 42 [vA 200, vI x1, vI (x2 + 1)] [] S (up M 206 x2 (M 206 (x2 + 1))) Q) : WP PR d 140 48 [vA 200, vI x1, vI x2] [] S M Q := by
  refine WP.gt 11 65 (-23) (0, 0, 0, 0) _ 42 rfl rfl ?_
  exact And.intro (⟨lo200 L, lf200_7 L⟩) (And.intro (⟨lo200 L, lf200_7 L⟩) (And.intro (hc.1) (And.intro (inA_of (lo206 L) (ll206 L) hc.2.1) (And.intro (inA_of (lo206 L) (ll206 L) hc.2.2) (And.intro (hc.1) (k))))))
set_option maxRecDepth 100000 in
theorem b_X9_remember_68 {d : Nat} {S : mSh} {M : mMem} {Q : Option mV → mSh → mMem → Prop} {x1 x2 : Int} (L : Lay S) (hc : R32 ((M 200 8) - 1)) (k : WP PR d 138 0 [vA 200, vI ((M 200 8) - 1), vU] [] S (up M 200 8 ((M 200 8) - 1)) (fun r S2 M2 => WP PR (d + 1) 140 86 [vA 200, vI x1, vI x2] (r.toList ++ []) S2 M2 Q)) : WP PR (d + 1) 140 68 [vA 200, vI x1, vI x2] [] S M Q := by
  refine WP.ca 9 86 83 (.invokevirtual 146) (0, 138, 0, 0) rfl ?_
  exact And.intro (lo200 L) (And.intro (hc) (And.intro (lo200 L) (And.intro (lo200 L) (⟨rfl, rfl, rfl, lo200 L, rfl, k⟩))))
set_option maxRecDepth 100000 in
theorem b_X9_remember_78 {d : Nat} {S : mSh} {M : mMem} {Q : Option mV → mSh → mMem → Prop} {x1 : Int} {u2 : mV} (L : Lay S) (k : WP PR d 138 0 [vA 200, vI (M 200 8), vU] [] S M (fun r S2 M2 => WP PR (d + 1) 140 86 [vA 200, vI x1, u2] (r.toList ++ []) S2 M2 Q)) : WP PR (d + 1) 140 78 [vA 200, vI x1, u2] [] S M Q := by
  refine WP.ca 3 86 83 (.invokevirtual 146) (0, 138, 0, 0) rfl ?_
  exact And.intro (lo200 L) (⟨rfl, rfl, rfl, lo200 L, rfl, k⟩)
set_option maxRecDepth 100000 in
theorem b_X9_remember_86 {d : Nat} {S : mSh} {M : mMem} {Q : Option mV → mSh → mMem → Prop} {x1 : Int} {u2 : mV} (L : Lay S) (hc : (0 ≤ M 200 8 ∧ M 200 8 < 16) ∧ R32 ((M 200 8) + 1)) (k : Q (none) S (up (up M 206 (M 200 8) x1) 200 8 ((M 200 8) + 1))) : WP PR d 140 86 [vA 200, vI x1, u2] [] S M Q := by
  refine WP.re 12 106 .return_ (0, 0, 0, 0) _ rfl ?_
  exact And.intro (⟨lo200 L, lf200_7 L⟩) (And.intro (lo200 L) (And.intro (inA_of (lo206 L) (ll206 L) hc.1) (And.intro (lo200 L) (And.intro (hc.2) (And.intro (lo200 L) (⟨rfl, rfl, trivial, k⟩))))))
/-- SoleraCellarModel.undo()I -/
abbrev e_X9_undo (d : Nat) (S : mSh) (M : mMem) (Q : Option mV → mSh → mMem → Prop) : Prop := WP PR d 141 0 [vA 200] [] S M Q
set_option maxRecDepth 100000 in
theorem b_X9_undo_0 {d : Nat} {S : mSh} {M : mMem} {Q : Option mV → mSh → mMem → Prop} (L : Lay S) (kt : ¬ M 200 8 = 0 → WP PR d 141 19 [vA 200] [] S (up M 200 0 0) Q) (kf : M 200 8 = 0 → WP PR d 141 12 [vA 200] [] S (up M 200 0 0) Q) : WP PR d 141 0 [vA 200] [] S M Q := by
  refine WP.if0 5 12 9 .ne 10 (0, 0, 0, 0) 19 rfl rfl ?_
  exact And.intro (lo200 L) (And.intro (lo200 L) (⟨kt, fun hc => kf (Decidable.not_not.mp hc)⟩))
set_option maxRecDepth 100000 in
theorem b_X9_undo_12 {d : Nat} {S : mSh} {M : mMem} {Q : Option mV → mSh → mMem → Prop} (L : Lay S) (k : WP PR d 135 0 [vA 200, vI (-3)] [] S M (fun r S2 M2 => WP PR (d + 1) 141 18 [vA 200] (r.toList ++ []) S2 M2 Q)) : WP PR (d + 1) 141 12 [vA 200] [] S M Q := by
  refine WP.ca 2 18 15 (.invokevirtual 142) (0, 135, 0, 0) rfl ?_
  exact ⟨rfl, rfl, rfl, lo200 L, rfl, k⟩
set_option maxRecDepth 100000 in
theorem b_X9_undo_18 {d : Nat} {S : mSh} {M : mMem} {Q : Option mV → mSh → mMem → Prop} {s0 : Int} (k : Q (some (vI s0)) S M) : WP PR d 141 18 [vA 200] [vI s0] S M Q := by
  refine WP.re 0 18 .ireturn (0, 0, 0, 0) _ rfl ?_
  exact ⟨rfl, rfl, trivial, k⟩
set_option maxRecDepth 100000 in
theorem b_X9_undo_19 {d : Nat} {S : mSh} {M : mMem} {Q : Option mV → mSh → mMem → Prop} (L : Lay S) (hc : R32 ((M 200 8) - 1)) (k : WP PR d 139 0 [vA 200, vI ((M 200 8) - 1), vU] [] S (up M 200 8 ((M 200 8) - 1)) (fun r S2 M2 => WP PR (d + 1) 141 37 [vA 200] (r.toList ++ []) S2 M2 Q)) : WP PR (d + 1) 141 19 [vA 200] [] S M Q := by
  refine WP.ca 9 37 34 (.invokevirtual 150) (0, 139, 0, 0) rfl ?_
  exact And.intro (lo200 L) (And.intro (hc) (And.intro (lo200 L) (And.intro (lo200 L) (⟨rfl, rfl, rfl, lo200 L, rfl, k⟩))))
set_option maxRecDepth 100000 in
theorem b_X9_undo_37 {d : Nat} {S : mSh} {M : mMem} {Q : Option mV → mSh → mMem → Prop} (L : Lay S) (hc : (0 ≤ M 200 8 ∧ M 200 8 < 16)) (k : WP PR d 135 0 [vA 200, vI (M 206 (M 200 8))] [] S M (fun r S2 M2 => WP PR (d + 1) 141 50 [vA 200] (r.toList ++ []) S2 M2 Q)) : WP PR (d + 1) 141 37 [vA 200] [] S M Q := by
  refine WP.ca 6 50 47 (.invokevirtual 142) (0, 135, 0, 0) rfl ?_
  exact And.intro (⟨lo200 L, lf200_7 L⟩) (And.intro (lo200 L) (And.intro (inA_of (lo206 L) (ll206 L) hc) (⟨rfl, rfl, rfl, lo200 L, rfl, k⟩)))
set_option maxRecDepth 100000 in
theorem b_X9_undo_50 {d : Nat} {S : mSh} {M : mMem} {Q : Option mV → mSh → mMem → Prop} {s0 : Int} (k : Q (some (vI s0)) S M) : WP PR d 141 50 [vA 200] [vI s0] S M Q := by
  refine WP.re 0 50 .ireturn (0, 0, 0, 0) _ rfl ?_
  exact ⟨rfl, rfl, trivial, k⟩
/-- SoleraCellarModel.image(I)I -/
abbrev e_X9_image (d : Nat) (a1 : Int) (S : mSh) (M : mMem) (Q : Option mV → mSh → mMem → Prop) : Prop := WP PR d 142 0 [vA 200, vI a1, vU] [] S M Q
set_option maxRecDepth 100000 in
theorem b_X9_image_0 {d : Nat} {S : mSh} {M : mMem} {Q : Option mV → mSh → mMem → Prop} {x1 : Int} (L : Lay S) (k : WP PR d 132 0 [vL x1, vU, vL 0, vU, vL 1, vU] [] S (up M 200 0 0) (fun r S2 M2 => WP PR (d + 1) 142 12 [vA 200, vI x1, vU] (r.toList ++ []) S2 M2 Q)) : WP PR (d + 1) 142 0 [vA 200, vI x1, vU] [] S M Q := by
  refine WP.ca 7 12 9 (.invokestatic 153) (0, 132, 0, 0) rfl ?_
  exact And.intro (lo200 L) (⟨rfl, rfl, rfl, trivial, rfl, k⟩)
set_option maxRecDepth 100000 in
theorem b_X9_image_12 {d : Nat} {S : mSh} {M : mMem} {Q : Option mV → mSh → mMem → Prop} {x1 s0 : Int} {u2 : mV} (kt : ¬ s0 = 0 → WP PR d 142 21 [vA 200, vI x1, u2] [] S M Q) (kf : s0 = 0 → WP PR d 142 15 [vA 200, vI x1, u2] [] S M Q) : WP PR d 142 12 [vA 200, vI x1, u2] [vI s0] S M Q := by
  refine WP.if0 0 15 12 .ne 9 (0, 0, 0, 0) 21 rfl rfl ?_
  exact ⟨kt, fun hc => kf (Decidable.not_not.mp hc)⟩
set_option maxRecDepth 100000 in
theorem b_X9_image_15 {d : Nat} {S : mSh} {M : mMem} {Q : Option mV → mSh → mMem → Prop} {x1 : Int} {u2 : mV} (L : Lay S) (k : WP PR d 135 0 [vA 200, vI (-1)] [] S M (fun r S2 M2 => WP PR (d + 1) 142 20 [vA 200, vI x1, u2] (r.toList ++ []) S2 M2 Q)) : WP PR (d + 1) 142 15 [vA 200, vI x1, u2] [] S M Q := by
  refine WP.ca 2 20 17 (.invokevirtual 142) (0, 135, 0, 0) rfl ?_
  exact ⟨rfl, rfl, rfl, lo200 L, rfl, k⟩
set_option maxRecDepth 100000 in
theorem b_X9_image_20 {d : Nat} {S : mSh} {M : mMem} {Q : Option mV → mSh → mMem → Prop} {x1 s0 : Int} {u2 : mV} (k : Q (some (vI s0)) S M) : WP PR d 142 20 [vA 200, vI x1, u2] [vI s0] S M Q := by
  refine WP.re 0 20 .ireturn (0, 0, 0, 0) _ rfl ?_
  exact ⟨rfl, rfl, trivial, k⟩
set_option maxRecDepth 100000 in
theorem b_X9_image_21 {d : Nat} {S : mSh} {M : mMem} {Q : Option mV → mSh → mMem → Prop} {x1 : Int} {u2 : mV} (k : WP PR d 142 23 [vA 200, vI x1, vI 0] [] S M Q) : WP PR d 142 21 [vA 200, vI x1, u2] [] S M Q := by
  refine WP.bl 2 23 rfl ?_
  exact k
set_option maxRecDepth 100000 in
theorem b_X9_image_23 {d : Nat} {S : mSh} {M : mMem} {Q : Option mV → mSh → mMem → Prop} {x1 x2 : Int} (kt : 9390 ≤ x2 → WP PR d 142 54 [vA 200, vI x1, vI x2] [] S M Q) (kf : x2 < 9390 → WP PR d 142 30 [vA 200, vI x1, vI x2] [] S M Q) : WP PR d 142 23 [vA 200, vI x1, vI x2] [] S M Q := by
  refine WP.if2 2 30 27 .ge 27 (0, 0, 0, 0) 54 rfl rfl ?_
  exact ⟨kt, fun hc => kf (Int.not_le.mp hc)⟩
set_option maxRecDepth 100000 in
theorem b_X9_image_30 {d : Nat} {S : mSh} {M : mMem} {Q : Option mV → mSh → mMem → Prop} {x1 x2 : Int} (L : Lay S) (hc : R32 (9390 * x1) ∧ R32 ((9390 * x1) + x2) ∧ (0 ≤ x2 ∧ x2 < 9390) ∧ (0 ≤ (9390 * x1) + x2 ∧ (9390 * x1) + x2 < 18780) ∧ R32 (x2 + 1)) (k : WP PR d 142 23 [vA 200, vI x1, vI (x2 + 1)] [] S (up M 203 ((9390 * x1) + x2) (M 202 x2)) Q) : WP PR d 142 30 [vA 200, vI x1, vI x2] [] S M Q := by
  refine WP.gt 13 51 (-28) (0, 0, 0, 0) _ 23 rfl rfl ?_
  exact And.intro (⟨lo200 L, lf200_4 L⟩) (And.intro (hc.1) (And.intro (hc.2.1) (And.intro (⟨lo200 L, lf200_3 L⟩) (And.intro (inA_of (lo202 L) (ll202 L) hc.2.2.1) (And.intro (inA_of (lo203 L) (ll203 L) hc.2.2.2.1) (And.intro (hc.2.2.2.2) (k)))))))
set_option maxRecDepth 100000 in
theorem b_X9_image_54 {d : Nat} {S : mSh} {M : mMem} {Q : Option mV → mSh → mMem → Prop} {x1 x2 : Int} (L : Lay S) (hc : (0 ≤ x1 ∧ x1 < 2)) (k : WP PR d 135 0 [vA 200, vI 0] [] S (up M 204 x1 1) (fun r S2 M2 => WP PR (d + 1) 142 66 [vA 200, vI x1, vI x2] (r.toList ++ []) S2 M2 Q)) : WP PR (d + 1) 142 54 [vA 200, vI x1, vI x2] [] S M Q := by
  refine WP.ca 7 66 63 (.invokevirtual 142) (0, 135, 0, 0) rfl ?_
  exact And.intro (⟨lo200 L, lf200_5 L⟩) (And.intro (⟨inA_of (lo204 L) (ll204 L) hc, Or.inr rfl⟩) (⟨rfl, rfl, rfl, lo200 L, rfl, k⟩))
set_option maxRecDepth 100000 in
theorem b_X9_image_66 {d : Nat} {S : mSh} {M : mMem} {Q : Option mV → mSh → mMem → Prop} {x1 x2 s0 : Int} (k : Q (some (vI s0)) S M) : WP PR d 142 66 [vA 200, vI x1, vI x2] [vI s0] S M Q := by
  refine WP.re 0 66 .ireturn (0, 0, 0, 0) _ rfl ?_
  exact ⟨rfl, rfl, trivial, k⟩
/-- SoleraCellarModel.back(I)I -/
abbrev e_X9_back (d : Nat) (a1 : Int) (S : mSh) (M : mMem) (Q : Option mV → mSh → mMem → Prop) : Prop := WP PR d 143 0 [vA 200, vI a1, vU] [] S M Q
set_option maxRecDepth 100000 in
theorem b_X9_back_0 {d : Nat} {S : mSh} {M : mMem} {Q : Option mV → mSh → mMem → Prop} {x1 : Int} (L : Lay S) (k : WP PR d 132 0 [vL x1, vU, vL 0, vU, vL 1, vU] [] S (up M 200 0 0) (fun r S2 M2 => WP PR (d + 1) 143 12 [vA 200, vI x1, vU] (r.toList ++ []) S2 M2 Q)) : WP PR (d + 1) 143 0 [vA 200, vI x1, vU] [] S M Q := by
  refine WP.ca 7 12 9 (.invokestatic 153) (0, 132, 0, 0) rfl ?_
  exact And.intro (lo200 L) (⟨rfl, rfl, rfl, trivial, rfl, k⟩)
set_option maxRecDepth 100000 in
theorem b_X9_back_12 {d : Nat} {S : mSh} {M : mMem} {Q : Option mV → mSh → mMem → Prop} {x1 s0 : Int} {u2 : mV} (kt : ¬ s0 = 0 → WP PR d 143 21 [vA 200, vI x1, u2] [] S M Q) (kf : s0 = 0 → WP PR d 143 15 [vA 200, vI x1, u2] [] S M Q) : WP PR d 143 12 [vA 200, vI x1, u2] [vI s0] S M Q := by
  refine WP.if0 0 15 12 .ne 9 (0, 0, 0, 0) 21 rfl rfl ?_
  exact ⟨kt, fun hc => kf (Decidable.not_not.mp hc)⟩
set_option maxRecDepth 100000 in
theorem b_X9_back_15 {d : Nat} {S : mSh} {M : mMem} {Q : Option mV → mSh → mMem → Prop} {x1 : Int} {u2 : mV} (L : Lay S) (k : WP PR d 135 0 [vA 200, vI (-1)] [] S M (fun r S2 M2 => WP PR (d + 1) 143 20 [vA 200, vI x1, u2] (r.toList ++ []) S2 M2 Q)) : WP PR (d + 1) 143 15 [vA 200, vI x1, u2] [] S M Q := by
  refine WP.ca 2 20 17 (.invokevirtual 142) (0, 135, 0, 0) rfl ?_
  exact ⟨rfl, rfl, rfl, lo200 L, rfl, k⟩
set_option maxRecDepth 100000 in
theorem b_X9_back_20 {d : Nat} {S : mSh} {M : mMem} {Q : Option mV → mSh → mMem → Prop} {x1 s0 : Int} {u2 : mV} (k : Q (some (vI s0)) S M) : WP PR d 143 20 [vA 200, vI x1, u2] [vI s0] S M Q := by
  refine WP.re 0 20 .ireturn (0, 0, 0, 0) _ rfl ?_
  exact ⟨rfl, rfl, trivial, k⟩
set_option maxRecDepth 100000 in
theorem b_X9_back_21 {d : Nat} {S : mSh} {M : mMem} {Q : Option mV → mSh → mMem → Prop} {x1 : Int} {u2 : mV} (L : Lay S) (hc : (0 ≤ x1 ∧ x1 < 2)) (kt : ¬ M 204 x1 = 0 → WP PR d 143 37 [vA 200, vI x1, u2] [] S M Q) (kf : M 204 x1 = 0 → WP PR d 143 30 [vA 200, vI x1, u2] [] S M Q) : WP PR d 143 21 [vA 200, vI x1, u2] [] S M Q := by
  refine WP.if0 4 30 27 .ne 10 (0, 0, 0, 0) 37 rfl rfl ?_
  exact And.intro (⟨lo200 L, lf200_5 L⟩) (And.intro (inA_of (lo204 L) (ll204 L) hc) (⟨kt, fun hc => kf (Decidable.not_not.mp hc)⟩))
set_option maxRecDepth 100000 in
theorem b_X9_back_30 {d : Nat} {S : mSh} {M : mMem} {Q : Option mV → mSh → mMem → Prop} {x1 : Int} {u2 : mV} (L : Lay S) (k : WP PR d 135 0 [vA 200, vI (-2)] [] S M (fun r S2 M2 => WP PR (d + 1) 143 36 [vA 200, vI x1, u2] (r.toList ++ []) S2 M2 Q)) : WP PR (d + 1) 143 30 [vA 200, vI x1, u2] [] S M Q := by
  refine WP.ca 2 36 33 (.invokevirtual 142) (0, 135, 0, 0) rfl ?_
  exact ⟨rfl, rfl, rfl, lo200 L, rfl, k⟩
set_option maxRecDepth 100000 in
theorem b_X9_back_36 {d : Nat} {S : mSh} {M : mMem} {Q : Option mV → mSh → mMem → Prop} {x1 s0 : Int} {u2 : mV} (k : Q (some (vI s0)) S M) : WP PR d 143 36 [vA 200, vI x1, u2] [vI s0] S M Q := by
  refine WP.re 0 36 .ireturn (0, 0, 0, 0) _ rfl ?_
  exact ⟨rfl, rfl, trivial, k⟩
set_option maxRecDepth 100000 in
theorem b_X9_back_37 {d : Nat} {S : mSh} {M : mMem} {Q : Option mV → mSh → mMem → Prop} {x1 : Int} {u2 : mV} (k : WP PR d 143 39 [vA 200, vI x1, vI 0] [] S M Q) : WP PR d 143 37 [vA 200, vI x1, u2] [] S M Q := by
  refine WP.bl 2 39 rfl ?_
  exact k
set_option maxRecDepth 100000 in
theorem b_X9_back_39 {d : Nat} {S : mSh} {M : mMem} {Q : Option mV → mSh → mMem → Prop} {x1 x2 : Int} (kt : 9390 ≤ x2 → WP PR d 143 70 [vA 200, vI x1, vI x2] [] S M Q) (kf : x2 < 9390 → WP PR d 143 46 [vA 200, vI x1, vI x2] [] S M Q) : WP PR d 143 39 [vA 200, vI x1, vI x2] [] S M Q := by
  refine WP.if2 2 46 43 .ge 27 (0, 0, 0, 0) 70 rfl rfl ?_
  exact ⟨kt, fun hc => kf (Int.not_le.mp hc)⟩
set_option maxRecDepth 100000 in
theorem b_X9_back_46 {d : Nat} {S : mSh} {M : mMem} {Q : Option mV → mSh → mMem → Prop} {x1 x2 : Int} (L : Lay S) (hc : R32 (9390 * x1) ∧ R32 ((9390 * x1) + x2) ∧ (0 ≤ (9390 * x1) + x2 ∧ (9390 * x1) + x2 < 18780) ∧ (0 ≤ x2 ∧ x2 < 9390) ∧ R32 (x2 + 1)) (k : WP PR d 143 39 [vA 200, vI x1, vI (x2 + 1)] [] S (up M 202 x2 (M 203 ((9390 * x1) + x2))) Q) : WP PR d 143 46 [vA 200, vI x1, vI x2] [] S M Q := by
  refine WP.gt 13 67 (-28) (0, 0, 0, 0) _ 39 rfl rfl ?_
  exact And.intro (⟨lo200 L, lf200_3 L⟩) (And.intro (⟨lo200 L, lf200_4 L⟩) (And.intro (hc.1) (And.intro (hc.2.1) (And.intro (inA_of (lo203 L) (ll203 L) hc.2.2.1) (And.intro (inA_of (lo202 L) (ll202 L) hc.2.2.2.1) (And.intro (hc.2.2.2.2) (k)))))))
set_option maxRecDepth 100000 in
theorem b_X9_back_70 {d : Nat} {S : mSh} {M : mMem} {Q : Option mV → mSh → mMem → Prop} {x1 x2 : Int} (L : Lay S) (k : WP PR d 137 0 [vA 200, vI 0] [] S M (fun r S2 M2 => WP PR (d + 1) 143 75 [vA 200, vI x1, vI x2] (r.toList ++ []) S2 M2 Q)) : WP PR (d + 1) 143 70 [vA 200, vI x1, vI x2] [] S M Q := by
  refine WP.ca 2 75 72 (.invokevirtual 157) (0, 137, 0, 0) rfl ?_
  exact ⟨rfl, rfl, rfl, lo200 L, rfl, k⟩
set_option maxRecDepth 100000 in
theorem b_X9_back_75 {d : Nat} {S : mSh} {M : mMem} {Q : Option mV → mSh → mMem → Prop} {x1 x2 s0 : Int} (k : Q (some (vI s0)) S M) : WP PR d 143 75 [vA 200, vI x1, vI x2] [vI s0] S M Q := by
  refine WP.re 0 75 .ireturn (0, 0, 0, 0) _ rfl ?_
  exact ⟨rfl, rfl, trivial, k⟩
/-- SoleraCellarModel.isCask(I)Z -/
abbrev e_X9_isCask (d : Nat) (a1 : Int) (S : mSh) (M : mMem) (Q : Option mV → mSh → mMem → Prop) : Prop := WP PR d 144 0 [vA 200, vI a1] [] S M Q
set_option maxRecDepth 100000 in
theorem b_X9_isCask_0 {d : Nat} {S : mSh} {M : mMem} {Q : Option mV → mSh → mMem → Prop} {x1 : Int} (L : Lay S) (hc : R64 ((M 202 0) - 1)) (k : WP PR d 132 0 [vL x1, vU, vL 0, vU, vL ((M 202 0) - 1), vU] [] S M (fun r S2 M2 => WP PR (d + 1) 144 15 [vA 200, vI x1] (r.toList ++ []) S2 M2 Q)) : WP PR (d + 1) 144 0 [vA 200, vI x1] [] S M Q := by
  refine WP.ca 10 15 12 (.invokestatic 153) (0, 132, 0, 0) rfl ?_
  exact And.intro (⟨lo200 L, lf200_3 L⟩) (And.intro (inA_of (lo202 L) (ll202 L) (by decide)) (And.intro (hc) (⟨rfl, rfl, rfl, trivial, rfl, k⟩)))
set_option maxRecDepth 100000 in
theorem b_X9_isCask_15 {d : Nat} {S : mSh} {M : mMem} {Q : Option mV → mSh → mMem → Prop} {x1 s0 : Int} (hc : (s0 = 0 ∨ s0 = 1)) (k : Q (some (vI s0)) S M) : WP PR d 144 15 [vA 200, vI x1] [vI s0] S M Q := by
  refine WP.re 0 15 .ireturn (0, 0, 0, 0) _ rfl ?_
  exact ⟨rfl, rfl, hc, k⟩
/-- SoleraCellarModel.dropsOf(II)I -/
abbrev e_X9_dropsOf (d : Nat) (a1 a2 : Int) (S : mSh) (M : mMem) (Q : Option mV → mSh → mMem → Prop) : Prop := WP PR d 145 0 [vA 200, vI a1, vI a2] [] S M Q
set_option maxRecDepth 100000 in
theorem b_X9_dropsOf_0 {d : Nat} {S : mSh} {M : mMem} {Q : Option mV → mSh → mMem → Prop} {x1 x2 : Int} (L : Lay S) (hc : R32 (20 * x1) ∧ R32 (10 + (20 * x1)) ∧ R32 ((10 + (20 * x1)) + x2) ∧ (0 ≤ (10 + (20 * x1)) + x2 ∧ (10 + (20 * x1)) + x2 < 9390)) (k : Q (some (vI (M 202 ((10 + (20 * x1)) + x2)))) S M) : WP PR d 145 0 [vA 200, vI x1, vI x2] [] S M Q := by
  refine WP.re 10 14 .ireturn (0, 0, 0, 0) _ rfl ?_
  exact And.intro (⟨lo200 L, lf200_3 L⟩) (And.intro (hc.1) (And.intro (hc.2.1) (And.intro (hc.2.2.1) (And.intro (inA_of (lo202 L) (ll202 L) hc.2.2.2) (⟨rfl, rfl, trivial, k⟩)))))
/-- SoleraCellarModel.allOf(I)I -/
abbrev e_X9_allOf (d : Nat) (a1 : Int) (S : mSh) (M : mMem) (Q : Option mV → mSh → mMem → Prop) : Prop := WP PR d 146 0 [vA 200, vI a1, vU, vU] [] S M Q
set_option maxRecDepth 100000 in
theorem b_X9_allOf_0 {d : Nat} {S : mSh} {M : mMem} {Q : Option mV → mSh → mMem → Prop} {x1 : Int} (k : WP PR d 146 4 [vA 200, vI x1, vI 0, vI 0] [] S M Q) : WP PR d 146 0 [vA 200, vI x1, vU, vU] [] S M Q := by
  refine WP.bl 4 4 rfl ?_
  exact k
set_option maxRecDepth 100000 in
theorem b_X9_allOf_4 {d : Nat} {S : mSh} {M : mMem} {Q : Option mV → mSh → mMem → Prop} {x1 x2 x3 : Int} (kt : 20 ≤ x3 → WP PR d 146 25 [vA 200, vI x1, vI x2, vI x3] [] S M Q) (kf : x3 < 20 → WP PR d 146 10 [vA 200, vI x1, vI x2, vI x3] [] S M Q) : WP PR d 146 4 [vA 200, vI x1, vI x2, vI x3] [] S M Q := by
  refine WP.if2 2 10 7 .ge 18 (0, 0, 0, 0) 25 rfl rfl ?_
  exact ⟨kt, fun hc => kf (Int.not_le.mp hc)⟩
set_option maxRecDepth 100000 in
theorem b_X9_allOf_10 {d : Nat} {S : mSh} {M : mMem} {Q : Option mV → mSh → mMem → Prop} {x1 x2 x3 : Int} (L : Lay S) (k : WP PR d 145 0 [vA 200, vI x1, vI x3] [] S M (fun r S2 M2 => WP PR (d + 1) 146 17 [vA 200, vI x1, vI x2, vI x3] (r.toList ++ [vI x2]) S2 M2 Q)) : WP PR (d + 1) 146 10 [vA 200, vI x1, vI x2, vI x3] [] S M Q := by
  refine WP.ca 4 17 14 (.invokevirtual 160) (0, 145, 0, 0) rfl ?_
  exact ⟨rfl, rfl, rfl, lo200 L, rfl, k⟩
set_option maxRecDepth 100000 in
theorem b_X9_allOf_17 {d : Nat} {S : mSh} {M : mMem} {Q : Option mV → mSh → mMem → Prop} {x1 x2 x3 s0 s1 : Int} (hc : R32 (s0 + s1) ∧ R32 (x3 + 1)) (k : WP PR d 146 4 [vA 200, vI x1, vI (s0 + s1), vI (x3 + 1)] [] S M Q) : WP PR d 146 17 [vA 200, vI x1, vI x2, vI x3] [vI s1, vI s0] S M Q := by
  refine WP.gt 3 22 (-18) (0, 0, 0, 0) _ 4 rfl rfl ?_
  exact And.intro (hc.1) (And.intro (hc.2) (k))
set_option maxRecDepth 100000 in
theorem b_X9_allOf_25 {d : Nat} {S : mSh} {M : mMem} {Q : Option mV → mSh → mMem → Prop} {x1 x2 x3 : Int} (k : Q (some (vI x2)) S M) : WP PR d 146 25 [vA 200, vI x1, vI x2, vI x3] [] S M Q := by
  refine WP.re 1 26 .ireturn (0, 0, 0, 0) _ rfl ?_
  exact ⟨rfl, rfl, trivial, k⟩
/-- SoleraCellarModel.meanOf(I)I -/
abbrev e_X9_meanOf (d : Nat) (a1 : Int) (S : mSh) (M : mMem) (Q : Option mV → mSh → mMem → Prop) : Prop := WP PR d 147 0 [vA 200, vI a1, vU, vU, vU] [] S M Q
set_option maxRecDepth 100000 in
theorem b_X9_meanOf_0 {d : Nat} {S : mSh} {M : mMem} {Q : Option mV → mSh → mMem → Prop} {x1 : Int} (k : WP PR d 147 5 [vA 200, vI x1, vL 0, vU, vI 0] [] S M Q) : WP PR d 147 0 [vA 200, vI x1, vU, vU, vU] [] S M Q := by
  refine WP.bl 4 5 rfl ?_
  exact k
set_option maxRecDepth 100000 in
theorem b_X9_meanOf_5 {d : Nat} {S : mSh} {M : mMem} {Q : Option mV → mSh → mMem → Prop} {x1 x2 x4 : Int} (kt : 20 ≤ x4 → WP PR d 147 37 [vA 200, vI x1, vL x2, vU, vI x4] [] S M Q) (kf : x4 < 20 → WP PR d 147 12 [vA 200, vI x1, vL x2, vU, vI x4] [] S M Q) : WP PR d 147 5 [vA 200, vI x1, vL x2, vU, vI x4] [] S M Q := by
  refine WP.if2 2 12 9 .ge 28 (0, 0, 0, 0) 37 rfl rfl ?_
  exact ⟨kt, fun hc => kf (Int.not_le.mp hc)⟩
set_option maxRecDepth 100000 in
theorem b_X9_meanOf_12 {d : Nat} {S : mSh} {M : mMem} {Q : Option mV → mSh → mMem → Prop} {x1 x2 x4 : Int} (L : Lay S) (hc : R64 (1000 * x4)) (k : WP PR d 145 0 [vA 200, vI x1, vI x4] [] S M (fun r S2 M2 => WP PR (d + 1) 147 27 [vA 200, vI x1, vL x2, vU, vI x4] (r.toList ++ [vL (1000 * x4), vL x2]) S2 M2 Q)) : WP PR (d + 1) 147 12 [vA 200, vI x1, vL x2, vU, vI x4] [] S M Q := by
  refine WP.ca 8 27 24 (.invokevirtual 160) (0, 145, 0, 0) rfl ?_
  exact And.intro (hc) (⟨rfl, rfl, rfl, lo200 L, rfl, k⟩)
set_option maxRecDepth 100000 in
theorem b_X9_meanOf_27 {d : Nat} {S : mSh} {M : mMem} {Q : Option mV → mSh → mMem → Prop} {x1 x2 x4 s0 s1 s2 : Int} (hc : R64 (s1 * s2) ∧ R64 (s0 + (s1 * s2)) ∧ R32 (x4 + 1)) (k : WP PR d 147 5 [vA 200, vI x1, vL (s0 + (s1 * s2)), vU, vI (x4 + 1)] [] S M Q) : WP PR d 147 27 [vA 200, vI x1, vL x2, vU, vI x4] [vI s2, vL s1, vL s0] S M Q := by
  refine WP.gt 5 34 (-29) (0, 0, 0, 0) _ 5 rfl rfl ?_
  exact And.intro (hc.1) (And.intro (hc.2.1) (And.intro (hc.2.2) (k)))
set_option maxRecDepth 100000 in
theorem b_X9_meanOf_37 {d : Nat} {S : mSh} {M : mMem} {Q : Option mV → mSh → mMem → Prop} {x1 x2 x4 : Int} (L : Lay S) (k : WP PR d 146 0 [vA 200, vI x1, vU, vU] [] S M (fun r S2 M2 => WP PR (d + 1) 147 42 [vA 200, vI x1, vL x2, vU, vI x4] (r.toList ++ []) S2 M2 Q)) : WP PR (d + 1) 147 37 [vA 200, vI x1, vL x2, vU, vI x4] [] S M Q := by
  refine WP.ca 2 42 39 (.invokevirtual 166) (0, 146, 0, 0) rfl ?_
  exact ⟨rfl, rfl, rfl, lo200 L, rfl, k⟩
set_option maxRecDepth 100000 in
theorem b_X9_meanOf_42 {d : Nat} {S : mSh} {M : mMem} {Q : Option mV → mSh → mMem → Prop} {x1 x2 x4 s0 : Int} (kt : ¬ s0 = 0 → WP PR d 147 53 [vA 200, vI x1, vL x2, vU, vI s0] [] S M Q) (kf : s0 = 0 → WP PR d 147 49 [vA 200, vI x1, vL x2, vU, vI s0] [] S M Q) : WP PR d 147 42 [vA 200, vI x1, vL x2, vU, vI x4] [vI s0] S M Q := by
  refine WP.if0 2 49 46 .ne 7 (0, 0, 0, 0) 53 rfl rfl ?_
  exact ⟨kt, fun hc => kf (Decidable.not_not.mp hc)⟩
set_option maxRecDepth 100000 in
theorem b_X9_meanOf_49 {d : Nat} {S : mSh} {M : mMem} {Q : Option mV → mSh → mMem → Prop} {x1 x2 x4 : Int} (k : Q (some (vI (-1))) S M) : WP PR d 147 49 [vA 200, vI x1, vL x2, vU, vI x4] [] S M Q := by
  refine WP.gt 1 50 9 (0, 0, 0, 0) _ 59 rfl rfl ?_
  show WP PR d 147 59 [vA 200, vI x1, vL x2, vU, vI x4] [vI (-1)] S M Q
  refine WP.re 0 59 .ireturn (0, 0, 0, 0) _ rfl ?_
  exact ⟨rfl, rfl, trivial, k⟩
set_option maxRecDepth 100000 in
theorem b_X9_meanOf_53 {d : Nat} {S : mSh} {M : mMem} {Q : Option mV → mSh → mMem → Prop} {x1 x2 x4 : Int} (hc : x4 ≠ 0 ∧ R64 (x2.tdiv x4)) (k : Q (some (vI (w32 (x2.tdiv x4)))) S M) : WP PR d 147 53 [vA 200, vI x1, vL x2, vU, vI x4] [] S M Q := by
  refine WP.re 5 59 .ireturn (0, 0, 0, 0) _ rfl ?_
  exact And.intro (⟨hc.1, hc.2⟩) (⟨rfl, rfl, trivial, k⟩)
/-- SoleraCellarModel.wholeMean(I)I -/
abbrev e_X9_wholeMean (d : Nat) (a1 : Int) (S : mSh) (M : mMem) (Q : Option mV → mSh → mMem → Prop) : Prop := WP PR d 148 0 [vA 200, vI a1, vU] [] S M Q
set_option maxRecDepth 100000 in
theorem b_X9_wholeMean_0 {d : Nat} {S : mSh} {M : mMem} {Q : Option mV → mSh → mMem → Prop} {x1 : Int} (L : Lay S) (k : WP PR d 147 0 [vA 200, vI x1, vU, vU, vU] [] S M (fun r S2 M2 => WP PR (d + 1) 148 5 [vA 200, vI x1, vU] (r.toList ++ []) S2 M2 Q)) : WP PR (d + 1) 148 0 [vA 200, vI x1, vU] [] S M Q := by
  refine WP.ca 2 5 2 (.invokevirtual 169) (0, 147, 0, 0) rfl ?_
  exact ⟨rfl, rfl, rfl, lo200 L, rfl, k⟩
set_option maxRecDepth 100000 in
theorem b_X9_wholeMean_5 {d : Nat} {S : mSh} {M : mMem} {Q : Option mV → mSh → mMem → Prop} {x1 s0 : Int} {u2 : mV} (kt : ¬ s0 = (-1) → WP PR d 148 15 [vA 200, vI x1, vI s0] [] S M Q) (kf : s0 = (-1) → WP PR d 148 11 [vA 200, vI x1, vI s0] [] S M Q) : WP PR d 148 5 [vA 200, vI x1, u2] [vI s0] S M Q := by
  refine WP.if2 3 11 8 .ne 7 (0, 0, 0, 0) 15 rfl rfl ?_
  exact ⟨kt, fun hc => kf (Decidable.not_not.mp hc)⟩
set_option maxRecDepth 100000 in
theorem b_X9_wholeMean_11 {d : Nat} {S : mSh} {M : mMem} {Q : Option mV → mSh → mMem → Prop} {x1 x2 : Int} (k : Q (some (vI (-1))) S M) : WP PR d 148 11 [vA 200, vI x1, vI x2] [] S M Q := by
  refine WP.gt 1 12 8 (0, 0, 0, 0) _ 20 rfl rfl ?_
  show WP PR d 148 20 [vA 200, vI x1, vI x2] [vI (-1)] S M Q
  refine WP.re 0 20 .ireturn (0, 0, 0, 0) _ rfl ?_
  exact ⟨rfl, rfl, trivial, k⟩
set_option maxRecDepth 100000 in
theorem b_X9_wholeMean_15 {d : Nat} {S : mSh} {M : mMem} {Q : Option mV → mSh → mMem → Prop} {x1 x2 : Int} (hc : R32 (x2.tdiv 1000)) (k : Q (some (vI (x2.tdiv 1000))) S M) : WP PR d 148 15 [vA 200, vI x1, vI x2] [] S M Q := by
  refine WP.re 3 20 .ireturn (0, 0, 0, 0) _ rfl ?_
  exact And.intro (⟨by decide, hc⟩) (⟨rfl, rfl, trivial, k⟩)
/-- SoleraCellarModel.olderThan(II)I -/
abbrev e_X9_olderThan (d : Nat) (a1 a2 : Int) (S : mSh) (M : mMem) (Q : Option mV → mSh → mMem → Prop) : Prop := WP PR d 149 0 [vA 200, vI a1, vI a2, vU, vU] [] S M Q
set_option maxRecDepth 100000 in
theorem b_X9_olderThan_0 {d : Nat} {S : mSh} {M : mMem} {Q : Option mV → mSh → mMem → Prop} {x1 x2 : Int} (k : WP PR d 149 5 [vA 200, vI x1, vI x2, vI 0, vI x2] [] S M Q) : WP PR d 149 0 [vA 200, vI x1, vI x2, vU, vU] [] S M Q := by
  refine WP.bl 4 5 rfl ?_
  exact k
set_option maxRecDepth 100000 in
theorem b_X9_olderThan_5 {d : Nat} {S : mSh} {M : mMem} {Q : Option mV → mSh → mMem → Prop} {x1 x2 x3 x4 : Int} (kt : 20 ≤ x4 → WP PR d 149 28 [vA 200, vI x1, vI x2, vI x3, vI x4] [] S M Q) (kf : x4 < 20 → WP PR d 149 12 [vA 200, vI x1, vI x2, vI x3, vI x4] [] S M Q) : WP PR d 149 5 [vA 200, vI x1, vI x2, vI x3, vI x4] [] S M Q := by
  refine WP.if2 2 12 9 .ge 19 (0, 0, 0, 0) 28 rfl rfl ?_
  exact ⟨kt, fun hc => kf (Int.not_le.mp hc)⟩
set_option maxRecDepth 100000 in
theorem b_X9_olderThan_12 {d : Nat} {S : mSh} {M : mMem} {Q : Option mV → mSh → mMem → Prop} {x1 x2 x3 x4 : Int} (L : Lay S) (k : WP PR d 145 0 [vA 200, vI x1, vI x4] [] S M (fun r S2 M2 => WP PR (d + 1) 149 20 [vA 200, vI x1, vI x2, vI x3, vI x4] (r.toList ++ [vI x3]) S2 M2 Q)) : WP PR (d + 1) 149 12 [vA 200, vI x1, vI x2, vI x3, vI x4] [] S M Q := by
  refine WP.ca 4 20 17 (.invokevirtual 160) (0, 145, 0, 0) rfl ?_
  exact ⟨rfl, rfl, rfl, lo200 L, rfl, k⟩
set_option maxRecDepth 100000 in
theorem b_X9_olderThan_20 {d : Nat} {S : mSh} {M : mMem} {Q : Option mV → mSh → mMem → Prop} {x1 x2 x3 x4 s0 s1 : Int} (hc : R32 (s0 + s1) ∧ R32 (x4 + 1)) (k : WP PR d 149 5 [vA 200, vI x1, vI x2, vI (s0 + s1), vI (x4 + 1)] [] S M Q) : WP PR d 149 20 [vA 200, vI x1, vI x2, vI x3, vI x4] [vI s1, vI s0] S M Q := by
  refine WP.gt 3 25 (-20) (0, 0, 0, 0) _ 5 rfl rfl ?_
  exact And.intro (hc.1) (And.intro (hc.2) (k))
set_option maxRecDepth 100000 in
theorem b_X9_olderThan_28 {d : Nat} {S : mSh} {M : mMem} {Q : Option mV → mSh → mMem → Prop} {x1 x2 x3 x4 : Int} (k : Q (some (vI x3)) S M) : WP PR d 149 28 [vA 200, vI x1, vI x2, vI x3, vI x4] [] S M Q := by
  refine WP.re 1 29 .ireturn (0, 0, 0, 0) _ rfl ?_
  exact ⟨rfl, rfl, trivial, k⟩
/-- SoleraCellarModel.labelOf(I)I -/
abbrev e_X9_labelOf (d : Nat) (a1 : Int) (S : mSh) (M : mMem) (Q : Option mV → mSh → mMem → Prop) : Prop := WP PR d 150 0 [vA 200, vI a1, vU, vU, vU] [] S M Q
set_option maxRecDepth 100000 in
theorem b_X9_labelOf_0 {d : Nat} {S : mSh} {M : mMem} {Q : Option mV → mSh → mMem → Prop} {x1 : Int} (L : Lay S) (k : WP PR d 146 0 [vA 200, vI x1, vU, vU] [] S M (fun r S2 M2 => WP PR (d + 1) 150 5 [vA 200, vI x1, vU, vU, vU] (r.toList ++ []) S2 M2 Q)) : WP PR (d + 1) 150 0 [vA 200, vI x1, vU, vU, vU] [] S M Q := by
  refine WP.ca 2 5 2 (.invokevirtual 166) (0, 146, 0, 0) rfl ?_
  exact ⟨rfl, rfl, rfl, lo200 L, rfl, k⟩
set_option maxRecDepth 100000 in
theorem b_X9_labelOf_5 {d : Nat} {S : mSh} {M : mMem} {Q : Option mV → mSh → mMem → Prop} {x1 s0 : Int} {u2 u3 u4 : mV} (k : WP PR d 150 11 [vA 200, vI x1, vI s0, vI (-1), vI 0] [] S M Q) : WP PR d 150 5 [vA 200, vI x1, u2, u3, u4] [vI s0] S M Q := by
  refine WP.bl 5 11 rfl ?_
  exact k
set_option maxRecDepth 100000 in
theorem b_X9_labelOf_11 {d : Nat} {S : mSh} {M : mMem} {Q : Option mV → mSh → mMem → Prop} {x1 x2 x3 x4 : Int} (kt : 20 ≤ x4 → WP PR d 150 62 [vA 200, vI x1, vI x2, vI x3, vI x4] [] S M Q) (kf : x4 < 20 → WP PR d 150 18 [vA 200, vI x1, vI x2, vI x3, vI x4] [] S M Q) : WP PR d 150 11 [vA 200, vI x1, vI x2, vI x3, vI x4] [] S M Q := by
  refine WP.if2 2 18 15 .ge 47 (0, 0, 0, 0) 62 rfl rfl ?_
  exact ⟨kt, fun hc => kf (Int.not_le.mp hc)⟩
set_option maxRecDepth 100000 in
theorem b_X9_labelOf_18 {d : Nat} {S : mSh} {M : mMem} {Q : Option mV → mSh → mMem → Prop} {x1 x2 x3 x4 : Int} (kt : x2 ≤ 0 → WP PR d 150 62 [vA 200, vI x1, vI x2, vI x3, vI x4] [] S M Q) (kf : 0 < x2 → WP PR d 150 22 [vA 200, vI x1, vI x2, vI x3, vI x4] [] S M Q) : WP PR d 150 18 [vA 200, vI x1, vI x2, vI x3, vI x4] [] S M Q := by
  refine WP.if0 1 22 19 .le 43 (0, 0, 0, 0) 62 rfl rfl ?_
  exact ⟨kt, fun hc => kf (Int.not_le.mp hc)⟩
set_option maxRecDepth 100000 in
theorem b_X9_labelOf_22 {d : Nat} {S : mSh} {M : mMem} {Q : Option mV → mSh → mMem → Prop} {x1 x2 x3 x4 : Int} (L : Lay S) (k : WP PR d 149 0 [vA 200, vI x1, vI x4, vU, vU] [] S M (fun r S2 M2 => WP PR (d + 1) 150 32 [vA 200, vI x1, vI x2, vI x3, vI x4] (r.toList ++ [vL 100]) S2 M2 Q)) : WP PR (d + 1) 150 22 [vA 200, vI x1, vI x2, vI x3, vI x4] [] S M Q := by
  refine WP.ca 4 32 29 (.invokevirtual 174) (0, 149, 0, 0) rfl ?_
  exact ⟨rfl, rfl, rfl, lo200 L, rfl, k⟩
set_option maxRecDepth 100000 in
theorem b_X9_labelOf_32 {d : Nat} {S : mSh} {M : mMem} {Q : Option mV → mSh → mMem → Prop} {x1 x2 x3 x4 s0 s1 : Int} (L : Lay S) (hc : R64 (s0 * s1) ∧ R64 (x2 * (M 202 8))) (kt : (s0 * s1) < (x2 * (M 202 8)) → WP PR d 150 54 [vA 200, vI x1, vI x2, vI x3, vI x4] [] S M Q) (kf : (x2 * (M 202 8)) ≤ (s0 * s1) → WP PR d 150 49 [vA 200, vI x1, vI x2, vI x3, vI x4] [] S M Q) : WP PR d 150 32 [vA 200, vI x1, vI x2, vI x3, vI x4] [vI s1, vL s0] S M Q := by
  refine WP.if0 11 49 46 .lt 8 (0, 0, 0, 0) 54 rfl rfl ?_
  exact And.intro (hc.1) (And.intro (⟨lo200 L, lf200_3 L⟩) (And.intro (inA_of (lo202 L) (ll202 L) (by decide)) (And.intro (hc.2) (⟨fun hc => kt (lcp_lt.mp hc), fun hc => kf (lcp_ge.mp (Int.not_lt.mp hc))⟩))))
set_option maxRecDepth 100000 in
theorem b_X9_labelOf_49 {d : Nat} {S : mSh} {M : mMem} {Q : Option mV → mSh → mMem → Prop} {x1 x2 x3 x4 : Int} (hc : R32 (x4 + 1)) (k : WP PR d 150 11 [vA 200, vI x1, vI x2, vI x4, vI (x4 + 1)] [] S M Q) : WP PR d 150 49 [vA 200, vI x1, vI x2, vI x3, vI x4] [] S M Q := by
  refine WP.gt 1 51 4 (0, 0, 0, 0) _ 55 rfl rfl ?_
  show WP PR d 150 55 [vA 200, vI x1, vI x2, vI x3, vI x4] [vI x4] S M Q
  refine WP.gt 2 59 (-48) (0, 0, 0, 0) _ 11 rfl rfl ?_
  exact And.intro (hc) (k)
set_option maxRecDepth 100000 in
theorem b_X9_labelOf_54 {d : Nat} {S : mSh} {M : mMem} {Q : Option mV → mSh → mMem → Prop} {x1 x2 x3 x4 : Int} (hc : R32 (x4 + 1)) (k : WP PR d 150 11 [vA 200, vI x1, vI x2, vI x3, vI (x4 + 1)] [] S M Q) : WP PR d 150 54 [vA 200, vI x1, vI x2, vI x3, vI x4] [] S M Q := by
  refine WP.gt 3 59 (-48) (0, 0, 0, 0) _ 11 rfl rfl ?_
  exact And.intro (hc) (k)
set_option maxRecDepth 100000 in
theorem b_X9_labelOf_62 {d : Nat} {S : mSh} {M : mMem} {Q : Option mV → mSh → mMem → Prop} {x1 x2 x3 x4 : Int} (k : Q (some (vI x3)) S M) : WP PR d 150 62 [vA 200, vI x1, vI x2, vI x3, vI x4] [] S M Q := by
  refine WP.re 1 63 .ireturn (0, 0, 0, 0) _ rfl ?_
  exact ⟨rfl, rfl, trivial, k⟩
/-- SoleraCellarModel.roomOf(I)I -/
abbrev e_X9_roomOf (d : Nat) (a1 : Int) (S : mSh) (M : mMem) (Q : Option mV → mSh → mMem → Prop) : Prop := WP PR d 151 0 [vA 200, vI a1] [] S M Q
set_option maxRecDepth 100000 in
theorem b_X9_roomOf_0 {d : Nat} {S : mSh} {M : mMem} {Q : Option mV → mSh → mMem → Prop} {x1 : Int} (L : Lay S) (hc : R32 (178 + x1) ∧ (0 ≤ 178 + x1 ∧ 178 + x1 < 9390) ∧ R32 (1000 * (M 202 (178 + x1)))) (k : WP PR d 146 0 [vA 200, vI x1, vU, vU] [] S M (fun r S2 M2 => WP PR (d + 1) 151 19 [vA 200, vI x1] (r.toList ++ [vI (1000 * (M 202 (178 + x1)))]) S2 M2 Q)) : WP PR (d + 1) 151 0 [vA 200, vI x1] [] S M Q := by
  refine WP.ca 10 19 16 (.invokevirtual 166) (0, 146, 0, 0) rfl ?_
  exact And.intro (⟨lo200 L, lf200_3 L⟩) (And.intro (hc.1) (And.intro (inA_of (lo202 L) (ll202 L) hc.2.1) (And.intro (hc.2.2) (⟨rfl, rfl, rfl, lo200 L, rfl, k⟩))))
set_option maxRecDepth 100000 in
theorem b_X9_roomOf_19 {d : Nat} {S : mSh} {M : mMem} {Q : Option mV → mSh → mMem → Prop} {x1 s0 s1 : Int} (hc : R32 (s0 - s1)) (k : Q (some (vI (s0 - s1))) S M) : WP PR d 151 19 [vA 200, vI x1] [vI s1, vI s0] S M Q := by
  refine WP.re 1 20 .ireturn (0, 0, 0, 0) _ rfl ?_
  exact And.intro (hc) (⟨rfl, rfl, trivial, k⟩)
/-- SoleraCellarModel.comes(II)I -/
abbrev e_X9_comes (d : Nat) (a1 a2 : Int) (S : mSh) (M : mMem) (Q : Option mV → mSh → mMem → Prop) : Prop := WP PR d 152 0 [vA 200, vI a1, vI a2, vU, vU] [] S M Q
set_option maxRecDepth 100000 in
theorem b_X9_comes_0 {d : Nat} {S : mSh} {M : mMem} {Q : Option mV → mSh → mMem → Prop} {x1 x2 : Int} (k : WP PR d 132 0 [vL x1, vU, vL 0, vU, vL 4, vU] [] S M (fun r S2 M2 => WP PR (d + 1) 152 9 [vA 200, vI x1, vI x2, vU, vU] (r.toList ++ []) S2 M2 Q)) : WP PR (d + 1) 152 0 [vA 200, vI x1, vI x2, vU, vU] [] S M Q := by
  refine WP.ca 4 9 6 (.invokestatic 153) (0, 132, 0, 0) rfl ?_
  exact ⟨rfl, rfl, rfl, trivial, rfl, k⟩
set_option maxRecDepth 100000 in
theorem b_X9_comes_9 {d : Nat} {S : mSh} {M : mMem} {Q : Option mV → mSh → mMem → Prop} {x1 x2 s0 : Int} {u3 u4 : mV} (kt : s0 = 0 → WP PR d 152 24 [vA 200, vI x1, vI x2, u3, u4] [] S M Q) (kf : ¬ s0 = 0 → WP PR d 152 12 [vA 200, vI x1, vI x2, u3, u4] [] S M Q) : WP PR d 152 9 [vA 200, vI x1, vI x2, u3, u4] [vI s0] S M Q := by
  refine WP.if0 0 12 9 .eq 15 (0, 0, 0, 0) 24 rfl rfl ?_
  exact ⟨kt, fun hc => kf hc⟩
set_option maxRecDepth 100000 in
theorem b_X9_comes_12 {d : Nat} {S : mSh} {M : mMem} {Q : Option mV → mSh → mMem → Prop} {x1 x2 : Int} {u3 u4 : mV} (k : WP PR d 132 0 [vL x2, vU, vL 1, vU, vL 999, vU] [] S M (fun r S2 M2 => WP PR (d + 1) 152 21 [vA 200, vI x1, vI x2, u3, u4] (r.toList ++ []) S2 M2 Q)) : WP PR (d + 1) 152 12 [vA 200, vI x1, vI x2, u3, u4] [] S M Q := by
  refine WP.ca 4 21 18 (.invokestatic 153) (0, 132, 0, 0) rfl ?_
  exact ⟨rfl, rfl, rfl, trivial, rfl, k⟩
set_option maxRecDepth 100000 in
theorem b_X9_comes_21 {d : Nat} {S : mSh} {M : mMem} {Q : Option mV → mSh → mMem → Prop} {x1 x2 s0 : Int} {u3 u4 : mV} (kt : ¬ s0 = 0 → WP PR d 152 26 [vA 200, vI x1, vI x2, u3, u4] [] S M Q) (kf : s0 = 0 → WP PR d 152 24 [vA 200, vI x1, vI x2, u3, u4] [] S M Q) : WP PR d 152 21 [vA 200, vI x1, vI x2, u3, u4] [vI s0] S M Q := by
  refine WP.if0 0 24 21 .ne 5 (0, 0, 0, 0) 26 rfl rfl ?_
  exact ⟨kt, fun hc => kf (Decidable.not_not.mp hc)⟩
set_option maxRecDepth 100000 in
theorem b_X9_comes_24 {d : Nat} {S : mSh} {M : mMem} {Q : Option mV → mSh → mMem → Prop} {x1 x2 : Int} {u3 u4 : mV} (k : Q (some (vI (-1))) S M) : WP PR d 152 24 [vA 200, vI x1, vI x2, u3, u4] [] S M Q := by
  refine WP.re 1 25 .ireturn (0, 0, 0, 0) _ rfl ?_
  exact ⟨rfl, rfl, trivial, k⟩
set_option maxRecDepth 100000 in
theorem b_X9_comes_26 {d : Nat} {S : mSh} {M : mMem} {Q : Option mV → mSh → mMem → Prop} {x1 x2 : Int} {u3 u4 : mV} (L : Lay S) (kt : ¬ M 202 0 = 8 → WP PR d 152 42 [vA 200, vI x1, vI x2, vI (M 202 0), u4] [] S M Q) (kf : M 202 0 = 8 → WP PR d 152 39 [vA 200, vI x1, vI x2, vI (M 202 0), u4] [] S M Q) : WP PR d 152 26 [vA 200, vI x1, vI x2, u3, u4] [] S M Q := by
  refine WP.if2 7 39 36 .ne 6 (0, 0, 0, 0) 42 rfl rfl ?_
  exact And.intro (⟨lo200 L, lf200_3 L⟩) (And.intro (inA_of (lo202 L) (ll202 L) (by decide)) (⟨kt, fun hc => kf (Decidable.not_not.mp hc)⟩))
set_option maxRecDepth 100000 in
theorem b_X9_comes_39 {d : Nat} {S : mSh} {M : mMem} {Q : Option mV → mSh → mMem → Prop} {x1 x2 x3 : Int} {u4 : mV} (k : Q (some (vI (-5))) S M) : WP PR d 152 39 [vA 200, vI x1, vI x2, vI x3, u4] [] S M Q := by
  refine WP.re 1 41 .ireturn (0, 0, 0, 0) _ rfl ?_
  exact ⟨rfl, rfl, trivial, k⟩
set_option maxRecDepth 100000 in
theorem b_X9_comes_42 {d : Nat} {S : mSh} {M : mMem} {Q : Option mV → mSh → mMem → Prop} {x1 x2 x3 : Int} {u4 : mV} (L : Lay S) (hc : R32 (170 + x3) ∧ (0 ≤ 170 + x3 ∧ 170 + x3 < 9390) ∧ R32 (178 + x3) ∧ (0 ≤ 178 + x3 ∧ 178 + x3 < 9390)) (k : WP PR d 152 67 [vA 200, vI x1, vI x2, vI x3, vI 0] [] S (up (up M 202 (170 + x3) x1) 202 (178 + x3) x2) Q) : WP PR d 152 42 [vA 200, vI x1, vI x2, vI x3, u4] [] S M Q := by
  refine WP.bl 16 67 rfl ?_
  exact And.intro (⟨lo200 L, lf200_3 L⟩) (And.intro (hc.1) (And.intro (inA_of (lo202 L) (ll202 L) hc.2.1) (And.intro (⟨lo200 L, lf200_3 L⟩) (And.intro (hc.2.2.1) (And.intro (inA_of (lo202 L) (ll202 L) hc.2.2.2) (k))))))
set_option maxRecDepth 100000 in
theorem b_X9_comes_67 {d : Nat} {S : mSh} {M : mMem} {Q : Option mV → mSh → mMem → Prop} {x1 x2 x3 x4 : Int} (kt : 20 ≤ x4 → WP PR d 152 96 [vA 200, vI x1, vI x2, vI x3, vI x4] [] S M Q) (kf : x4 < 20 → WP PR d 152 74 [vA 200, vI x1, vI x2, vI x3, vI x4] [] S M Q) : WP PR d 152 67 [vA 200, vI x1, vI x2, vI x3, vI x4] [] S M Q := by
  refine WP.if2 2 74 71 .ge 25 (0, 0, 0, 0) 96 rfl rfl ?_
  exact ⟨kt, fun hc => kf (Int.not_le.mp hc)⟩
set_option maxRecDepth 100000 in
theorem b_X9_comes_74 {d : Nat} {S : mSh} {M : mMem} {Q : Option mV → mSh → mMem → Prop} {x1 x2 x3 x4 : Int} (L : Lay S) (hc : R32 (20 * x3) ∧ R32 (10 + (20 * x3)) ∧ R32 ((10 + (20 * x3)) + x4) ∧ (0 ≤ (10 + (20 * x3)) + x4 ∧ (10 + (20 * x3)) + x4 < 9390) ∧ R32 (x4 + 1)) (k : WP PR d 152 67 [vA 200, vI x1, vI x2, vI x3, vI (x4 + 1)] [] S (up M 202 ((10 + (20 * x3)) + x4) 0) Q) : WP PR d 152 74 [vA 200, vI x1, vI x2, vI x3, vI x4] [] S M Q := by
  refine WP.gt 12 93 (-26) (0, 0, 0, 0) _ 67 rfl rfl ?_
  exact And.intro (⟨lo200 L, lf200_3 L⟩) (And.intro (hc.1) (And.intro (hc.2.1) (And.intro (hc.2.2.1) (And.intro (inA_of (lo202 L) (ll202 L) hc.2.2.2.1) (And.intro (hc.2.2.2.2) (k))))))
set_option maxRecDepth 100000 in
theorem b_X9_comes_96 {d : Nat} {S : mSh} {M : mMem} {Q : Option mV → mSh → mMem → Prop} {x1 x2 x3 x4 : Int} (L : Lay S) (hc : R32 ((M 202 0) + 1)) (k : Q (some (vI x3)) S (up M 202 0 ((M 202 0) + 1))) : WP PR d 152 96 [vA 200, vI x1, vI x2, vI x3, vI x4] [] S M Q := by
  refine WP.re 9 107 .ireturn (0, 0, 0, 0) _ rfl ?_
  exact And.intro (⟨lo200 L, lf200_3 L⟩) (And.intro (inA_of (lo202 L) (ll202 L) (by decide)) (And.intro (hc) (And.intro (inA_of (lo202 L) (ll202 L) (by decide)) (⟨rfl, rfl, trivial, k⟩))))
/-- SoleraCellarModel.cask(II)I -/
abbrev e_X9_cask (d : Nat) (a1 a2 : Int) (S : mSh) (M : mMem) (Q : Option mV → mSh → mMem → Prop) : Prop := WP PR d 153 0 [vA 200, vI a1, vI a2] [] S M Q
set_option maxRecDepth 100000 in
theorem b_X9_cask_0 {d : Nat} {S : mSh} {M : mMem} {Q : Option mV → mSh → mMem → Prop} {x1 x2 : Int} (L : Lay S) (k : WP PR d 152 0 [vA 200, vI x1, vI x2, vU, vU] [] S (up M 200 0 0) (fun r S2 M2 => WP PR (d + 1) 153 12 [vA 200, vI x1, vI x2] (r.toList ++ [vA 200]) S2 M2 Q)) : WP PR (d + 1) 153 0 [vA 200, vI x1, vI x2] [] S M Q := by
  refine WP.ca 7 12 9 (.invokevirtual 181) (0, 152, 0, 0) rfl ?_
  exact And.intro (lo200 L) (⟨rfl, rfl, rfl, lo200 L, rfl, k⟩)
set_option maxRecDepth 100000 in
theorem b_X9_cask_12 {d : Nat} {S : mSh} {M : mMem} {Q : Option mV → mSh → mMem → Prop} {x1 x2 s1 : Int} (L : Lay S) (k : WP PR d 137 0 [vA 200, vI s1] [] S M (fun r S2 M2 => WP PR (d + 1) 153 15 [vA 200, vI x1, vI x2] (r.toList ++ []) S2 M2 Q)) : WP PR (d + 1) 153 12 [vA 200, vI x1, vI x2] [vI s1, vA 200] S M Q := by
  refine WP.ca 0 15 12 (.invokevirtual 157) (0, 137, 0, 0) rfl ?_
  exact ⟨rfl, rfl, rfl, lo200 L, rfl, k⟩
set_option maxRecDepth 100000 in
theorem b_X9_cask_15 {d : Nat} {S : mSh} {M : mMem} {Q : Option mV → mSh → mMem → Prop} {x1 x2 s0 : Int} (k : Q (some (vI s0)) S M) : WP PR d 153 15 [vA 200, vI x1, vI x2] [vI s0] S M Q := by
  refine WP.re 0 15 .ireturn (0, 0, 0, 0) _ rfl ?_
  exact ⟨rfl, rfl, trivial, k⟩
/-- SoleraCellarModel.of(II)I -/
abbrev e_X9_of (d : Nat) (a1 a2 : Int) (S : mSh) (M : mMem) (Q : Option mV → mSh → mMem → Prop) : Prop := WP PR d 154 0 [vA 200, vI a1, vI a2] [] S M Q
set_option maxRecDepth 100000 in
theorem b_X9_of_0 {d : Nat} {S : mSh} {M : mMem} {Q : Option mV → mSh → mMem → Prop} {x1 x2 : Int} (L : Lay S) (k : WP PR d 144 0 [vA 200, vI x1] [] S (up M 200 0 0) (fun r S2 M2 => WP PR (d + 1) 154 10 [vA 200, vI x1, vI x2] (r.toList ++ []) S2 M2 Q)) : WP PR (d + 1) 154 0 [vA 200, vI x1, vI x2] [] S M Q := by
  refine WP.ca 5 10 7 (.invokevirtual 184) (0, 144, 0, 0) rfl ?_
  exact And.intro (lo200 L) (⟨rfl, rfl, rfl, lo200 L, rfl, k⟩)
set_option maxRecDepth 100000 in
theorem b_X9_of_10 {d : Nat} {S : mSh} {M : mMem} {Q : Option mV → mSh → mMem → Prop} {x1 x2 s0 : Int} (kt : ¬ s0 = 0 → WP PR d 154 15 [vA 200, vI x1, vI x2] [] S M Q) (kf : s0 = 0 → WP PR d 154 13 [vA 200, vI x1, vI x2] [] S M Q) : WP PR d 154 10 [vA 200, vI x1, vI x2] [vI s0] S M Q := by
  refine WP.if0 0 13 10 .ne 5 (0, 0, 0, 0) 15 rfl rfl ?_
  exact ⟨kt, fun hc => kf (Decidable.not_not.mp hc)⟩
set_option maxRecDepth 100000 in
theorem b_X9_of_13 {d : Nat} {S : mSh} {M : mMem} {Q : Option mV → mSh → mMem → Prop} {x1 x2 : Int} (k : Q (some (vI (-1))) S M) : WP PR d 154 13 [vA 200, vI x1, vI x2] [] S M Q := by
  refine WP.re 1 14 .ireturn (0, 0, 0, 0) _ rfl ?_
  exact ⟨rfl, rfl, trivial, k⟩
set_option maxRecDepth 100000 in
theorem b_X9_of_15 {d : Nat} {S : mSh} {M : mMem} {Q : Option mV → mSh → mMem → Prop} {x1 x2 : Int} (k : WP PR d 154 (swT 16 x2 114 0 7 [48, 59, 70, 76, 82, 88, 94, 100]) [vA 200, vI x1, vI x2] [] S M Q) : WP PR d 154 15 [vA 200, vI x1, vI x2] [] S M Q := by
  refine WP.sw 1 16 114 0 7 #[48, 59, 70, 76, 82, 88, 94, 100] (0, 0, 0, 0) _ rfl ?_
  exact k
set_option maxRecDepth 100000 in
theorem b_X9_of_64 {d : Nat} {S : mSh} {M : mMem} {Q : Option mV → mSh → mMem → Prop} {x1 x2 : Int} (L : Lay S) (hc : R32 (170 + x1) ∧ (0 ≤ 170 + x1 ∧ 170 + x1 < 9390)) (k : Q (some (vI (M 202 (170 + x1)))) S M) : WP PR d 154 64 [vA 200, vI x1, vI x2] [] S M Q := by
  refine WP.re 6 74 .ireturn (0, 0, 0, 0) _ rfl ?_
  exact And.intro (⟨lo200 L, lf200_3 L⟩) (And.intro (hc.1) (And.intro (inA_of (lo202 L) (ll202 L) hc.2) (⟨rfl, rfl, trivial, k⟩)))
set_option maxRecDepth 100000 in
theorem b_X9_of_75 {d : Nat} {S : mSh} {M : mMem} {Q : Option mV → mSh → mMem → Prop} {x1 x2 : Int} (L : Lay S) (hc : R32 (178 + x1) ∧ (0 ≤ 178 + x1 ∧ 178 + x1 < 9390)) (k : Q (some (vI (M 202 (178 + x1)))) S M) : WP PR d 154 75 [vA 200, vI x1, vI x2] [] S M Q := by
  refine WP.re 6 85 .ireturn (0, 0, 0, 0) _ rfl ?_
  exact And.intro (⟨lo200 L, lf200_3 L⟩) (And.intro (hc.1) (And.intro (inA_of (lo202 L) (ll202 L) hc.2) (⟨rfl, rfl, trivial, k⟩)))
set_option maxRecDepth 100000 in
theorem b_X9_of_86 {d : Nat} {S : mSh} {M : mMem} {Q : Option mV → mSh → mMem → Prop} {x1 x2 : Int} (L : Lay S) (k : WP PR d 146 0 [vA 200, vI x1, vU, vU] [] S M (fun r S2 M2 => WP PR (d + 1) 154 91 [vA 200, vI x1, vI x2] (r.toList ++ []) S2 M2 Q)) : WP PR (d + 1) 154 86 [vA 200, vI x1, vI x2] [] S M Q := by
  refine WP.ca 2 91 88 (.invokevirtual 166) (0, 146, 0, 0) rfl ?_
  exact ⟨rfl, rfl, rfl, lo200 L, rfl, k⟩
set_option maxRecDepth 100000 in
theorem b_X9_of_91 {d : Nat} {S : mSh} {M : mMem} {Q : Option mV → mSh → mMem → Prop} {x1 x2 s0 : Int} (k : Q (some (vI s0)) S M) : WP PR d 154 91 [vA 200, vI x1, vI x2] [vI s0] S M Q := by
  refine WP.re 0 91 .ireturn (0, 0, 0, 0) _ rfl ?_
  exact ⟨rfl, rfl, trivial, k⟩
set_option maxRecDepth 100000 in
theorem b_X9_of_92 {d : Nat} {S : mSh} {M : mMem} {Q : Option mV → mSh → mMem → Prop} {x1 x2 : Int} (L : Lay S) (k : WP PR d 147 0 [vA 200, vI x1, vU, vU, vU] [] S M (fun r S2 M2 => WP PR (d + 1) 154 97 [vA 200, vI x1, vI x2] (r.toList ++ []) S2 M2 Q)) : WP PR (d + 1) 154 92 [vA 200, vI x1, vI x2] [] S M Q := by
  refine WP.ca 2 97 94 (.invokevirtual 169) (0, 147, 0, 0) rfl ?_
  exact ⟨rfl, rfl, rfl, lo200 L, rfl, k⟩
set_option maxRecDepth 100000 in
theorem b_X9_of_97 {d : Nat} {S : mSh} {M : mMem} {Q : Option mV → mSh → mMem → Prop} {x1 x2 s0 : Int} (k : Q (some (vI s0)) S M) : WP PR d 154 97 [vA 200, vI x1, vI x2] [vI s0] S M Q := by
  refine WP.re 0 97 .ireturn (0, 0, 0, 0) _ rfl ?_
  exact ⟨rfl, rfl, trivial, k⟩
set_option maxRecDepth 100000 in
theorem b_X9_of_98 {d : Nat} {S : mSh} {M : mMem} {Q : Option mV → mSh → mMem → Prop} {x1 x2 : Int} (L : Lay S) (k : WP PR d 150 0 [vA 200, vI x1, vU, vU, vU] [] S M (fun r S2 M2 => WP PR (d + 1) 154 103 [vA 200, vI x1, vI x2] (r.toList ++ []) S2 M2 Q)) : WP PR (d + 1) 154 98 [vA 200, vI x1, vI x2] [] S M Q := by
  refine WP.ca 2 103 100 (.invokevirtual 188) (0, 150, 0, 0) rfl ?_
  exact ⟨rfl, rfl, rfl, lo200 L, rfl, k⟩
set_option maxRecDepth 100000 in
theorem b_X9_of_103 {d : Nat} {S : mSh} {M : mMem} {Q : Option mV → mSh → mMem → Prop} {x1 x2 s0 : Int} (k : Q (some (vI s0)) S M) : WP PR d 154 103 [vA 200, vI x1, vI x2] [vI s0] S M Q := by
  refine WP.re 0 103 .ireturn (0, 0, 0, 0) _ rfl ?_
  exact ⟨rfl, rfl, trivial, k⟩
set_option maxRecDepth 100000 in
theorem b_X9_of_104 {d : Nat} {S : mSh} {M : mMem} {Q : Option mV → mSh → mMem → Prop} {x1 x2 : Int} (L : Lay S) (k : WP PR d 197 0 [vA 200, vI x1] [] S M (fun r S2 M2 => WP PR (d + 1) 154 109 [vA 200, vI x1, vI x2] (r.toList ++ []) S2 M2 Q)) : WP PR (d + 1) 154 104 [vA 200, vI x1, vI x2] [] S M Q := by
  refine WP.ca 2 109 106 (.invokevirtual 191) (0, 197, 0, 0) rfl ?_
  exact ⟨rfl, rfl, rfl, lo200 L, rfl, k⟩
set_option maxRecDepth 100000 in
theorem b_X9_of_109 {d : Nat} {S : mSh} {M : mMem} {Q : Option mV → mSh → mMem → Prop} {x1 x2 s0 : Int} (k : Q (some (vI s0)) S M) : WP PR d 154 109 [vA 200, vI x1, vI x2] [vI s0] S M Q := by
  refine WP.re 0 109 .ireturn (0, 0, 0, 0) _ rfl ?_
  exact ⟨rfl, rfl, trivial, k⟩
set_option maxRecDepth 100000 in
theorem b_X9_of_110 {d : Nat} {S : mSh} {M : mMem} {Q : Option mV → mSh → mMem → Prop} {x1 x2 : Int} (L : Lay S) (k : WP PR d 198 0 [vA 200, vI x1] [] S M (fun r S2 M2 => WP PR (d + 1) 154 115 [vA 200, vI x1, vI x2] (r.toList ++ []) S2 M2 Q)) : WP PR (d + 1) 154 110 [vA 200, vI x1, vI x2] [] S M Q := by
  refine WP.ca 2 115 112 (.invokevirtual 194) (0, 198, 0, 0) rfl ?_
  exact ⟨rfl, rfl, rfl, lo200 L, rfl, k⟩
set_option maxRecDepth 100000 in
theorem b_X9_of_115 {d : Nat} {S : mSh} {M : mMem} {Q : Option mV → mSh → mMem → Prop} {x1 x2 s0 : Int} (k : Q (some (vI s0)) S M) : WP PR d 154 115 [vA 200, vI x1, vI x2] [vI s0] S M Q := by
  refine WP.re 0 115 .ireturn (0, 0, 0, 0) _ rfl ?_
  exact ⟨rfl, rfl, trivial, k⟩
set_option maxRecDepth 100000 in
theorem b_X9_of_116 {d : Nat} {S : mSh} {M : mMem} {Q : Option mV → mSh → mMem → Prop} {x1 x2 : Int} (L : Lay S) (k : WP PR d 199 0 [vA 200, vI x1] [] S M (fun r S2 M2 => WP PR (d + 1) 154 121 [vA 200, vI x1, vI x2] (r.toList ++ []) S2 M2 Q)) : WP PR (d + 1) 154 116 [vA 200, vI x1, vI x2] [] S M Q := by
  refine WP.ca 2 121 118 (.invokevirtual 197) (0, 199, 0, 0) rfl ?_
  exact ⟨rfl, rfl, rfl, lo200 L, rfl, k⟩
set_option maxRecDepth 100000 in
theorem b_X9_of_121 {d : Nat} {S : mSh} {M : mMem} {Q : Option mV → mSh → mMem → Prop} {x1 x2 s0 : Int} (kt : s0 = 0 → WP PR d 154 128 [vA 200, vI x1, vI x2] [] S M Q) (kf : ¬ s0 = 0 → WP PR d 154 124 [vA 200, vI x1, vI x2] [] S M Q) : WP PR d 154 121 [vA 200, vI x1, vI x2] [vI s0] S M Q := by
  refine WP.if0 0 124 121 .eq 7 (0, 0, 0, 0) 128 rfl rfl ?_
  exact ⟨kt, fun hc => kf hc⟩
set_option maxRecDepth 100000 in
theorem b_X9_of_124 {d : Nat} {S : mSh} {M : mMem} {Q : Option mV → mSh → mMem → Prop} {x1 x2 : Int} (k : Q (some (vI 1)) S M) : WP PR d 154 124 [vA 200, vI x1, vI x2] [] S M Q := by
  refine WP.gt 1 125 4 (0, 0, 0, 0) _ 129 rfl rfl ?_
  show WP PR d 154 129 [vA 200, vI x1, vI x2] [vI 1] S M Q
  refine WP.re 0 129 .ireturn (0, 0, 0, 0) _ rfl ?_
  exact ⟨rfl, rfl, trivial, k⟩
set_option maxRecDepth 100000 in
theorem b_X9_of_128 {d : Nat} {S : mSh} {M : mMem} {Q : Option mV → mSh → mMem → Prop} {x1 x2 : Int} (k : Q (some (vI 0)) S M) : WP PR d 154 128 [vA 200, vI x1, vI x2] [] S M Q := by
  refine WP.re 1 129 .ireturn (0, 0, 0, 0) _ rfl ?_
  exact ⟨rfl, rfl, trivial, k⟩
set_option maxRecDepth 100000 in
theorem b_X9_of_130 {d : Nat} {S : mSh} {M : mMem} {Q : Option mV → mSh → mMem → Prop} {x1 x2 : Int} (k : WP PR d 132 0 [vL x2, vU, vL 8, vU, vL 27, vU] [] S M (fun r S2 M2 => WP PR (d + 1) 154 141 [vA 200, vI x1, vI x2] (r.toList ++ []) S2 M2 Q)) : WP PR (d + 1) 154 130 [vA 200, vI x1, vI x2] [] S M Q := by
  refine WP.ca 4 141 138 (.invokestatic 153) (0, 132, 0, 0) rfl ?_
  exact ⟨rfl, rfl, rfl, trivial, rfl, k⟩
set_option maxRecDepth 100000 in
theorem b_X9_of_141 {d : Nat} {S : mSh} {M : mMem} {Q : Option mV → mSh → mMem → Prop} {x1 x2 s0 : Int} (kt : s0 = 0 → WP PR d 154 156 [vA 200, vI x1, vI x2] [] S M Q) (kf : ¬ s0 = 0 → WP PR d 154 144 [vA 200, vI x1, vI x2] [] S M Q) : WP PR d 154 141 [vA 200, vI x1, vI x2] [vI s0] S M Q := by
  refine WP.if0 0 144 141 .eq 15 (0, 0, 0, 0) 156 rfl rfl ?_
  exact ⟨kt, fun hc => kf hc⟩
set_option maxRecDepth 100000 in
theorem b_X9_of_144 {d : Nat} {S : mSh} {M : mMem} {Q : Option mV → mSh → mMem → Prop} {x1 x2 : Int} (L : Lay S) (hc : R32 (x2 - 8)) (k : WP PR d 145 0 [vA 200, vI x1, vI (x2 - 8)] [] S M (fun r S2 M2 => WP PR (d + 1) 154 153 [vA 200, vI x1, vI x2] (r.toList ++ []) S2 M2 Q)) : WP PR (d + 1) 154 144 [vA 200, vI x1, vI x2] [] S M Q := by
  refine WP.ca 5 153 150 (.invokevirtual 160) (0, 145, 0, 0) rfl ?_
  exact And.intro (hc) (⟨rfl, rfl, rfl, lo200 L, rfl, k⟩)
set_option maxRecDepth 100000 in
theorem b_X9_of_153 {d : Nat} {S : mSh} {M : mMem} {Q : Option mV → mSh → mMem → Prop} {x1 x2 s0 : Int} (k : Q (some (vI s0)) S M) : WP PR d 154 153 [vA 200, vI x1, vI x2] [vI s0] S M Q := by
  refine WP.gt 0 153 4 (0, 0, 0, 0) _ 157 rfl rfl ?_
  show WP PR d 154 157 [vA 200, vI x1, vI x2] [vI s0] S M Q
  refine WP.re 0 157 .ireturn (0, 0, 0, 0) _ rfl ?_
  exact ⟨rfl, rfl, trivial, k⟩
set_option maxRecDepth 100000 in
theorem b_X9_of_156 {d : Nat} {S : mSh} {M : mMem} {Q : Option mV → mSh → mMem → Prop} {x1 x2 : Int} (k : Q (some (vI (-1))) S M) : WP PR d 154 156 [vA 200, vI x1, vI x2] [] S M Q := by
  refine WP.re 1 157 .ireturn (0, 0, 0, 0) _ rfl ?_
  exact ⟨rfl, rfl, trivial, k⟩
/-- SoleraCellarModel.old(II)J -/
abbrev e_X9_old (d : Nat) (a1 a2 : Int) (S : mSh) (M : mMem) (Q : Option mV → mSh → mMem → Prop) : Prop := WP PR d 155 0 [vA 200, vI a1, vI a2] [] S M Q
set_option maxRecDepth 100000 in
theorem b_X9_old_0 {d : Nat} {S : mSh} {M : mMem} {Q : Option mV → mSh → mMem → Prop} {x1 x2 : Int} (L : Lay S) (k : WP PR d 144 0 [vA 200, vI x1] [] S (up M 200 0 0) (fun r S2 M2 => WP PR (d + 1) 155 10 [vA 200, vI x1, vI x2] (r.toList ++ []) S2 M2 Q)) : WP PR (d + 1) 155 0 [vA 200, vI x1, vI x2] [] S M Q := by
  refine WP.ca 5 10 7 (.invokevirtual 184) (0, 144, 0, 0) rfl ?_
  exact And.intro (lo200 L) (⟨rfl, rfl, rfl, lo200 L, rfl, k⟩)
set_option maxRecDepth 100000 in
theorem b_X9_old_10 {d : Nat} {S : mSh} {M : mMem} {Q : Option mV → mSh → mMem → Prop} {x1 x2 s0 : Int} (kt : s0 = 0 → WP PR d 155 33 [vA 200, vI x1, vI x2] [] S M Q) (kf : ¬ s0 = 0 → WP PR d 155 13 [vA 200, vI x1, vI x2] [] S M Q) : WP PR d 155 10 [vA 200, vI x1, vI x2] [vI s0] S M Q := by
  refine WP.if0 0 13 10 .eq 23 (0, 0, 0, 0) 33 rfl rfl ?_
  exact ⟨kt, fun hc => kf hc⟩
set_option maxRecDepth 100000 in
theorem b_X9_old_13 {d : Nat} {S : mSh} {M : mMem} {Q : Option mV → mSh → mMem → Prop} {x1 x2 : Int} (k : WP PR d 132 0 [vL x2, vU, vL 0, vU, vL 19, vU] [] S M (fun r S2 M2 => WP PR (d + 1) 155 22 [vA 200, vI x1, vI x2] (r.toList ++ []) S2 M2 Q)) : WP PR (d + 1) 155 13 [vA 200, vI x1, vI x2] [] S M Q := by
  refine WP.ca 4 22 19 (.invokestatic 153) (0, 132, 0, 0) rfl ?_
  exact ⟨rfl, rfl, rfl, trivial, rfl, k⟩
set_option maxRecDepth 100000 in
theorem b_X9_old_22 {d : Nat} {S : mSh} {M : mMem} {Q : Option mV → mSh → mMem → Prop} {x1 x2 s0 : Int} (kt : s0 = 0 → WP PR d 155 33 [vA 200, vI x1, vI x2] [] S M Q) (kf : ¬ s0 = 0 → WP PR d 155 25 [vA 200, vI x1, vI x2] [] S M Q) : WP PR d 155 22 [vA 200, vI x1, vI x2] [vI s0] S M Q := by
  refine WP.if0 0 25 22 .eq 11 (0, 0, 0, 0) 33 rfl rfl ?_
  exact ⟨kt, fun hc => kf hc⟩
set_option maxRecDepth 100000 in
theorem b_X9_old_25 {d : Nat} {S : mSh} {M : mMem} {Q : Option mV → mSh → mMem → Prop} {x1 x2 : Int} (L : Lay S) (k : WP PR d 146 0 [vA 200, vI x1, vU, vU] [] S M (fun r S2 M2 => WP PR (d + 1) 155 30 [vA 200, vI x1, vI x2] (r.toList ++ []) S2 M2 Q)) : WP PR (d + 1) 155 25 [vA 200, vI x1, vI x2] [] S M Q := by
  refine WP.ca 2 30 27 (.invokevirtual 166) (0, 146, 0, 0) rfl ?_
  exact ⟨rfl, rfl, rfl, lo200 L, rfl, k⟩
set_option maxRecDepth 100000 in
theorem b_X9_old_30 {d : Nat} {S : mSh} {M : mMem} {Q : Option mV → mSh → mMem → Prop} {x1 x2 s0 : Int} (kt : ¬ s0 = 0 → WP PR d 155 37 [vA 200, vI x1, vI x2] [] S M Q) (kf : s0 = 0 → WP PR d 155 33 [vA 200, vI x1, vI x2] [] S M Q) : WP PR d 155 30 [vA 200, vI x1, vI x2] [vI s0] S M Q := by
  refine WP.if0 0 33 30 .ne 7 (0, 0, 0, 0) 37 rfl rfl ?_
  exact ⟨kt, fun hc => kf (Decidable.not_not.mp hc)⟩
set_option maxRecDepth 100000 in
theorem b_X9_old_33 {d : Nat} {S : mSh} {M : mMem} {Q : Option mV → mSh → mMem → Prop} {x1 x2 : Int} (k : Q (some (vL (-1))) S M) : WP PR d 155 33 [vA 200, vI x1, vI x2] [] S M Q := by
  refine WP.re 1 36 .lreturn (0, 0, 0, 0) _ rfl ?_
  exact ⟨rfl, rfl, trivial, k⟩
set_option maxRecDepth 100000 in
theorem b_X9_old_37 {d : Nat} {S : mSh} {M : mMem} {Q : Option mV → mSh → mMem → Prop} {x1 x2 : Int} (L : Lay S) (k : WP PR d 149 0 [vA 200, vI x1, vI x2, vU, vU] [] S M (fun r S2 M2 => WP PR (d + 1) 155 46 [vA 200, vI x1, vI x2] (r.toList ++ [vL 1000000000000]) S2 M2 Q)) : WP PR (d + 1) 155 37 [vA 200, vI x1, vI x2] [] S M Q := by
  refine WP.ca 4 46 43 (.invokevirtual 174) (0, 149, 0, 0) rfl ?_
  exact ⟨rfl, rfl, rfl, lo200 L, rfl, k⟩
set_option maxRecDepth 100000 in
theorem b_X9_old_46 {d : Nat} {S : mSh} {M : mMem} {Q : Option mV → mSh → mMem → Prop} {x1 x2 s0 s1 : Int} (L : Lay S) (hc : R64 (s0 * s1)) (k : WP PR d 146 0 [vA 200, vI x1, vU, vU] [] S M (fun r S2 M2 => WP PR (d + 1) 155 53 [vA 200, vI x1, vI x2] (r.toList ++ [vL (s0 * s1)]) S2 M2 Q)) : WP PR (d + 1) 155 46 [vA 200, vI x1, vI x2] [vI s1, vL s0] S M Q := by
  refine WP.ca 4 53 50 (.invokevirtual 166) (0, 146, 0, 0) rfl ?_
  exact And.intro (hc) (⟨rfl, rfl, rfl, lo200 L, rfl, k⟩)
set_option maxRecDepth 100000 in
theorem b_X9_old_53 {d : Nat} {S : mSh} {M : mMem} {Q : Option mV → mSh → mMem → Prop} {x1 x2 s0 s1 : Int} (hc : s1 ≠ 0 ∧ R64 (s0.tdiv s1)) (k : Q (some (vL (s0.tdiv s1))) S M) : WP PR d 155 53 [vA 200, vI x1, vI x2] [vI s1, vL s0] S M Q := by
  refine WP.re 2 55 .lreturn (0, 0, 0, 0) _ rfl ?_
  exact And.intro (⟨hc.1, hc.2⟩) (⟨rfl, rfl, trivial, k⟩)
/-- SoleraCellarModel.terms(II)I -/
abbrev e_X9_terms (d : Nat) (a1 a2 : Int) (S : mSh) (M : mMem) (Q : Option mV → mSh → mMem → Prop) : Prop := WP PR d 156 0 [vA 200, vI a1, vI a2, vU] [] S M Q
set_option maxRecDepth 100000 in
theorem b_X9_terms_0 {d : Nat} {S : mSh} {M : mMem} {Q : Option mV → mSh → mMem → Prop} {x1 x2 : Int} (L : Lay S) (kt : ¬ x1 = 0 → WP PR d 156 21 [vA 200, vI x1, vI x2, vU] [] S (up M 200 0 0) Q) (kf : x1 = 0 → WP PR d 156 9 [vA 200, vI x1, vI x2, vU] [] S (up M 200 0 0) Q) : WP PR d 156 0 [vA 200, vI x1, vI x2, vU] [] S M Q := by
  refine WP.if0 4 9 6 .ne 15 (0, 0, 0, 0) 21 rfl rfl ?_
  exact And.intro (lo200 L) (⟨kt, fun hc => kf (Decidable.not_not.mp hc)⟩)
set_option maxRecDepth 100000 in
theorem b_X9_terms_9 {d : Nat} {S : mSh} {M : mMem} {Q : Option mV → mSh → mMem → Prop} {x1 x2 : Int} {u3 : mV} (k : WP PR d 132 0 [vL x2, vU, vL 0, vU, vL 999, vU] [] S M (fun r S2 M2 => WP PR (d + 1) 156 18 [vA 200, vI x1, vI x2, u3] (r.toList ++ []) S2 M2 Q)) : WP PR (d + 1) 156 9 [vA 200, vI x1, vI x2, u3] [] S M Q := by
  refine WP.ca 4 18 15 (.invokestatic 153) (0, 132, 0, 0) rfl ?_
  exact ⟨rfl, rfl, rfl, trivial, rfl, k⟩
set_option maxRecDepth 100000 in
theorem b_X9_terms_18 {d : Nat} {S : mSh} {M : mMem} {Q : Option mV → mSh → mMem → Prop} {x1 x2 s0 : Int} {u3 : mV} (kt : ¬ s0 = 0 → WP PR d 156 88 [vA 200, vI x1, vI x2, vI s0] [] S M Q) (kf : s0 = 0 → WP PR d 156 82 [vA 200, vI x1, vI x2, vI s0] [] S M Q) : WP PR d 156 18 [vA 200, vI x1, vI x2, u3] [vI s0] S M Q := by
  refine WP.gt 0 18 59 (0, 0, 0, 0) _ 77 rfl rfl ?_
  show WP PR d 156 77 [vA 200, vI x1, vI x2, u3] [vI s0] S M Q
  refine WP.if0 2 82 79 .ne 9 (0, 0, 0, 0) 88 rfl rfl ?_
  exact ⟨kt, fun hc => kf (Decidable.not_not.mp hc)⟩
set_option maxRecDepth 100000 in
theorem b_X9_terms_21 {d : Nat} {S : mSh} {M : mMem} {Q : Option mV → mSh → mMem → Prop} {x1 x2 : Int} {u3 : mV} (kt : ¬ x1 = 1 → WP PR d 156 38 [vA 200, vI x1, vI x2, u3] [] S M Q) (kf : x1 = 1 → WP PR d 156 26 [vA 200, vI x1, vI x2, u3] [] S M Q) : WP PR d 156 21 [vA 200, vI x1, vI x2, u3] [] S M Q := by
  refine WP.if2 2 26 23 .ne 15 (0, 0, 0, 0) 38 rfl rfl ?_
  exact ⟨kt, fun hc => kf (Decidable.not_not.mp hc)⟩
set_option maxRecDepth 100000 in
theorem b_X9_terms_26 {d : Nat} {S : mSh} {M : mMem} {Q : Option mV → mSh → mMem → Prop} {x1 x2 : Int} {u3 : mV} (k : WP PR d 132 0 [vL x2, vU, vL 0, vU, vL 10, vU] [] S M (fun r S2 M2 => WP PR (d + 1) 156 35 [vA 200, vI x1, vI x2, u3] (r.toList ++ []) S2 M2 Q)) : WP PR (d + 1) 156 26 [vA 200, vI x1, vI x2, u3] [] S M Q := by
  refine WP.ca 4 35 32 (.invokestatic 153) (0, 132, 0, 0) rfl ?_
  exact ⟨rfl, rfl, rfl, trivial, rfl, k⟩
set_option maxRecDepth 100000 in
theorem b_X9_terms_35 {d : Nat} {S : mSh} {M : mMem} {Q : Option mV → mSh → mMem → Prop} {x1 x2 s0 : Int} {u3 : mV} (kt : ¬ s0 = 0 → WP PR d 156 88 [vA 200, vI x1, vI x2, vI s0] [] S M Q) (kf : s0 = 0 → WP PR d 156 82 [vA 200, vI x1, vI x2, vI s0] [] S M Q) : WP PR d 156 35 [vA 200, vI x1, vI x2, u3] [vI s0] S M Q := by
  refine WP.gt 0 35 42 (0, 0, 0, 0) _ 77 rfl rfl ?_
  show WP PR d 156 77 [vA 200, vI x1, vI x2, u3] [vI s0] S M Q
  refine WP.if0 2 82 79 .ne 9 (0, 0, 0, 0) 88 rfl rfl ?_
  exact ⟨kt, fun hc => kf (Decidable.not_not.mp hc)⟩
set_option maxRecDepth 100000 in
theorem b_X9_terms_38 {d : Nat} {S : mSh} {M : mMem} {Q : Option mV → mSh → mMem → Prop} {x1 x2 : Int} {u3 : mV} (kt : ¬ x1 = 2 → WP PR d 156 55 [vA 200, vI x1, vI x2, u3] [] S M Q) (kf : x1 = 2 → WP PR d 156 43 [vA 200, vI x1, vI x2, u3] [] S M Q) : WP PR d 156 38 [vA 200, vI x1, vI x2, u3] [] S M Q := by
  refine WP.if2 2 43 40 .ne 15 (0, 0, 0, 0) 55 rfl rfl ?_
  exact ⟨kt, fun hc => kf (Decidable.not_not.mp hc)⟩
set_option maxRecDepth 100000 in
theorem b_X9_terms_43 {d : Nat} {S : mSh} {M : mMem} {Q : Option mV → mSh → mMem → Prop} {x1 x2 : Int} {u3 : mV} (k : WP PR d 132 0 [vL x2, vU, vL 0, vU, vL 9, vU] [] S M (fun r S2 M2 => WP PR (d + 1) 156 52 [vA 200, vI x1, vI x2, u3] (r.toList ++ []) S2 M2 Q)) : WP PR (d + 1) 156 43 [vA 200, vI x1, vI x2, u3] [] S M Q := by
  refine WP.ca 4 52 49 (.invokestatic 153) (0, 132, 0, 0) rfl ?_
  exact ⟨rfl, rfl, rfl, trivial, rfl, k⟩
set_option maxRecDepth 100000 in
theorem b_X9_terms_52 {d : Nat} {S : mSh} {M : mMem} {Q : Option mV → mSh → mMem → Prop} {x1 x2 s0 : Int} {u3 : mV} (kt : ¬ s0 = 0 → WP PR d 156 88 [vA 200, vI x1, vI x2, vI s0] [] S M Q) (kf : s0 = 0 → WP PR d 156 82 [vA 200, vI x1, vI x2, vI s0] [] S M Q) : WP PR d 156 52 [vA 200, vI x1, vI x2, u3] [vI s0] S M Q := by
  refine WP.gt 0 52 25 (0, 0, 0, 0) _ 77 rfl rfl ?_
  show WP PR d 156 77 [vA 200, vI x1, vI x2, u3] [vI s0] S M Q
  refine WP.if0 2 82 79 .ne 9 (0, 0, 0, 0) 88 rfl rfl ?_
  exact ⟨kt, fun hc => kf (Decidable.not_not.mp hc)⟩
set_option maxRecDepth 100000 in
theorem b_X9_terms_55 {d : Nat} {S : mSh} {M : mMem} {Q : Option mV → mSh → mMem → Prop} {x1 x2 : Int} {u3 : mV} (kt : ¬ x1 = 3 → WP PR d 156 76 [vA 200, vI x1, vI x2, u3] [] S M Q) (kf : x1 = 3 → WP PR d 156 60 [vA 200, vI x1, vI x2, u3] [] S M Q) : WP PR d 156 55 [vA 200, vI x1, vI x2, u3] [] S M Q := by
  refine WP.if2 2 60 57 .ne 19 (0, 0, 0, 0) 76 rfl rfl ?_
  exact ⟨kt, fun hc => kf (Decidable.not_not.mp hc)⟩
set_option maxRecDepth 100000 in
theorem b_X9_terms_60 {d : Nat} {S : mSh} {M : mMem} {Q : Option mV → mSh → mMem → Prop} {x1 x2 : Int} {u3 : mV} (k : WP PR d 132 0 [vL x2, vU, vL 1, vU, vL 100, vU] [] S M (fun r S2 M2 => WP PR (d + 1) 156 69 [vA 200, vI x1, vI x2, u3] (r.toList ++ []) S2 M2 Q)) : WP PR (d + 1) 156 60 [vA 200, vI x1, vI x2, u3] [] S M Q := by
  refine WP.ca 4 69 66 (.invokestatic 153) (0, 132, 0, 0) rfl ?_
  exact ⟨rfl, rfl, rfl, trivial, rfl, k⟩
set_option maxRecDepth 100000 in
theorem b_X9_terms_69 {d : Nat} {S : mSh} {M : mMem} {Q : Option mV → mSh → mMem → Prop} {x1 x2 s0 : Int} {u3 : mV} (kt : s0 = 0 → WP PR d 156 76 [vA 200, vI x1, vI x2, u3] [] S M Q) (kf : ¬ s0 = 0 → WP PR d 156 72 [vA 200, vI x1, vI x2, u3] [] S M Q) : WP PR d 156 69 [vA 200, vI x1, vI x2, u3] [vI s0] S M Q := by
  refine WP.if0 0 72 69 .eq 7 (0, 0, 0, 0) 76 rfl rfl ?_
  exact ⟨kt, fun hc => kf hc⟩
set_option maxRecDepth 100000 in
theorem b_X9_terms_72 {d : Nat} {S : mSh} {M : mMem} {Q : Option mV → mSh → mMem → Prop} {x1 x2 : Int} {u3 : mV} (L : Lay S) (hc : R32 (5 + x1)) (k : WP PR d 136 0 [vA 200, vI (5 + x1), vI x2, vU] [] S (up M 200 8 0) (fun r S2 M2 => WP PR (d + 1) 156 101 [vA 200, vI x1, vI x2, vI 1] (r.toList ++ []) S2 M2 Q)) : WP PR (d + 1) 156 72 [vA 200, vI x1, vI x2, u3] [] S M Q := by
  refine WP.gt 1 73 4 (0, 0, 0, 0) _ 77 rfl rfl ?_
  show WP PR (d + 1) 156 77 [vA 200, vI x1, vI x2, u3] [vI 1] S M Q
  refine WP.if0 2 82 79 .ne 9 (0, 0, 0, 0) 88 rfl rfl ?_
  refine ⟨fun _ => ?_, fun h => absurd (show ¬ (1 : Int) = (0 : Int) by decide) h⟩
  show WP PR (d + 1) 156 88 [vA 200, vI x1, vI x2, vI 1] [] S M Q
  refine WP.ca 8 101 98 (.invokevirtual 214) (0, 136, 0, 0) rfl ?_
  exact And.intro (lo200 L) (And.intro (hc) (⟨rfl, rfl, rfl, lo200 L, rfl, k⟩))
set_option maxRecDepth 100000 in
theorem b_X9_terms_76 {d : Nat} {S : mSh} {M : mMem} {Q : Option mV → mSh → mMem → Prop} {x1 x2 : Int} {u3 : mV} (L : Lay S) (k : WP PR d 135 0 [vA 200, vI (-1)] [] S M (fun r S2 M2 => WP PR (d + 1) 156 87 [vA 200, vI x1, vI x2, vI 0] (r.toList ++ []) S2 M2 Q)) : WP PR (d + 1) 156 76 [vA 200, vI x1, vI x2, u3] [] S M Q := by
  refine WP.if0 3 82 79 .ne 9 (0, 0, 0, 0) 88 rfl rfl ?_
  refine ⟨fun h => absurd h (show ¬ (¬ (0 : Int) = (0 : Int)) by decide), fun _ => ?_⟩
  show WP PR (d + 1) 156 82 [vA 200, vI x1, vI x2, vI 0] [] S M Q
  refine WP.ca 2 87 84 (.invokevirtual 142) (0, 135, 0, 0) rfl ?_
  exact ⟨rfl, rfl, rfl, lo200 L, rfl, k⟩
set_option maxRecDepth 100000 in
theorem b_X9_terms_82 {d : Nat} {S : mSh} {M : mMem} {Q : Option mV → mSh → mMem → Prop} {x1 x2 x3 : Int} (L : Lay S) (k : WP PR d 135 0 [vA 200, vI (-1)] [] S M (fun r S2 M2 => WP PR (d + 1) 156 87 [vA 200, vI x1, vI x2, vI x3] (r.toList ++ []) S2 M2 Q)) : WP PR (d + 1) 156 82 [vA 200, vI x1, vI x2, vI x3] [] S M Q := by
  refine WP.ca 2 87 84 (.invokevirtual 142) (0, 135, 0, 0) rfl ?_
  exact ⟨rfl, rfl, rfl, lo200 L, rfl, k⟩
set_option maxRecDepth 100000 in
theorem b_X9_terms_87 {d : Nat} {S : mSh} {M : mMem} {Q : Option mV → mSh → mMem → Prop} {x1 x2 x3 s0 : Int} (k : Q (some (vI s0)) S M) : WP PR d 156 87 [vA 200, vI x1, vI x2, vI x3] [vI s0] S M Q := by
  refine WP.re 0 87 .ireturn (0, 0, 0, 0) _ rfl ?_
  exact ⟨rfl, rfl, trivial, k⟩
set_option maxRecDepth 100000 in
theorem b_X9_terms_88 {d : Nat} {S : mSh} {M : mMem} {Q : Option mV → mSh → mMem → Prop} {x1 x2 x3 : Int} (L : Lay S) (hc : R32 (5 + x1)) (k : WP PR d 136 0 [vA 200, vI (5 + x1), vI x2, vU] [] S (up M 200 8 0) (fun r S2 M2 => WP PR (d + 1) 156 101 [vA 200, vI x1, vI x2, vI x3] (r.toList ++ []) S2 M2 Q)) : WP PR (d + 1) 156 88 [vA 200, vI x1, vI x2, vI x3] [] S M Q := by
  refine WP.ca 8 101 98 (.invokevirtual 214) (0, 136, 0, 0) rfl ?_
  exact And.intro (lo200 L) (And.intro (hc) (⟨rfl, rfl, rfl, lo200 L, rfl, k⟩))
set_option maxRecDepth 100000 in
theorem b_X9_terms_101 {d : Nat} {S : mSh} {M : mMem} {Q : Option mV → mSh → mMem → Prop} {x1 x2 x3 s0 : Int} (k : Q (some (vI s0)) S M) : WP PR d 156 101 [vA 200, vI x1, vI x2, vI x3] [vI s0] S M Q := by
  refine WP.re 0 101 .ireturn (0, 0, 0, 0) _ rfl ?_
  exact ⟨rfl, rfl, trivial, k⟩
/-- SoleraCellarModel.row()I -/
abbrev e_X9_row (d : Nat) (S : mSh) (M : mMem) (Q : Option mV → mSh → mMem → Prop) : Prop := WP PR d 157 0 [vA 200, vU, vU, vU, vU] [] S M Q
set_option maxRecDepth 100000 in
theorem b_X9_row_0 {d : Nat} {S : mSh} {M : mMem} {Q : Option mV → mSh → mMem → Prop} (L : Lay S) (kt : ¬ M 200 13 = 0 → WP PR d 157 26 [vA 200, vI (M 200 13), vU, vU, vU] [] S (up (up M 200 0 0) 200 13 0) Q) (kf : M 200 13 = 0 → WP PR d 157 19 [vA 200, vI (M 200 13), vU, vU, vU] [] S (up (up M 200 0 0) 200 13 0) Q) : WP PR d 157 0 [vA 200, vU, vU, vU, vU] [] S M Q := by
  refine WP.if0 10 19 16 .ne 10 (0, 0, 0, 0) 26 rfl rfl ?_
  exact And.intro (lo200 L) (And.intro (lo200 L) (And.intro (lo200 L) (⟨kt, fun hc => kf (Decidable.not_not.mp hc)⟩)))
set_option maxRecDepth 100000 in
theorem b_X9_row_19 {d : Nat} {S : mSh} {M : mMem} {Q : Option mV → mSh → mMem → Prop} {x1 : Int} {u2 u3 u4 : mV} (L : Lay S) (k : WP PR d 135 0 [vA 200, vI (-6)] [] S M (fun r S2 M2 => WP PR (d + 1) 157 25 [vA 200, vI x1, u2, u3, u4] (r.toList ++ []) S2 M2 Q)) : WP PR (d + 1) 157 19 [vA 200, vI x1, u2, u3, u4] [] S M Q := by
  refine WP.ca 2 25 22 (.invokevirtual 142) (0, 135, 0, 0) rfl ?_
  exact ⟨rfl, rfl, rfl, lo200 L, rfl, k⟩
set_option maxRecDepth 100000 in
theorem b_X9_row_25 {d : Nat} {S : mSh} {M : mMem} {Q : Option mV → mSh → mMem → Prop} {x1 s0 : Int} {u2 u3 u4 : mV} (k : Q (some (vI s0)) S M) : WP PR d 157 25 [vA 200, vI x1, u2, u3, u4] [vI s0] S M Q := by
  refine WP.re 0 25 .ireturn (0, 0, 0, 0) _ rfl ?_
  exact ⟨rfl, rfl, trivial, k⟩
set_option maxRecDepth 100000 in
theorem b_X9_row_26 {d : Nat} {S : mSh} {M : mMem} {Q : Option mV → mSh → mMem → Prop} {x1 : Int} {u2 u3 u4 : mV} (L : Lay S) (k : WP PR d 157 35 [vA 200, vI x1, vI 0, vI 0, u4] [] S (up M 200 11 0) Q) : WP PR d 157 26 [vA 200, vI x1, u2, u3, u4] [] S M Q := by
  refine WP.bl 7 35 rfl ?_
  exact And.intro (lo200 L) (k)
set_option maxRecDepth 100000 in
theorem b_X9_row_35 {d : Nat} {S : mSh} {M : mMem} {Q : Option mV → mSh → mMem → Prop} {x1 x2 x3 : Int} {u4 : mV} (kt : x1 ≤ x3 → WP PR d 157 142 [vA 200, vI x1, vI x2, vI x3, u4] [] S M Q) (kf : x3 < x1 → WP PR d 157 40 [vA 200, vI x1, vI x2, vI x3, u4] [] S M Q) : WP PR d 157 35 [vA 200, vI x1, vI x2, vI x3, u4] [] S M Q := by
  refine WP.if2 2 40 37 .ge 105 (0, 0, 0, 0) 142 rfl rfl ?_
  exact ⟨kt, fun hc => kf (Int.not_le.mp hc)⟩
set_option maxRecDepth 100000 in
theorem b_X9_row_40 {d : Nat} {S : mSh} {M : mMem} {Q : Option mV → mSh → mMem → Prop} {x1 x2 x3 : Int} {u4 : mV} (hc : R32 (x3 + 2)) (kt : x1 ≤ x3 + 2 → WP PR d 157 87 [vA 200, vI x1, vI x2, vI x3, u4] [] S M Q) (kf : x3 + 2 < x1 → WP PR d 157 47 [vA 200, vI x1, vI x2, vI x3, u4] [] S M Q) : WP PR d 157 40 [vA 200, vI x1, vI x2, vI x3, u4] [] S M Q := by
  refine WP.if2 4 47 44 .ge 43 (0, 0, 0, 0) 87 rfl rfl ?_
  exact And.intro (hc) (⟨kt, fun hc => kf (Int.not_le.mp hc)⟩)
set_option maxRecDepth 100000 in
theorem b_X9_row_47 {d : Nat} {S : mSh} {M : mMem} {Q : Option mV → mSh → mMem → Prop} {x1 x2 x3 : Int} {u4 : mV} (L : Lay S) (hc : R32 (x3 + 2) ∧ (0 ≤ x3 + 2 ∧ x3 + 2 < 400) ∧ R32 (x3 + 1) ∧ (0 ≤ x3 + 1 ∧ x3 + 1 < 400)) (kt : M 209 (x3 + 1) < M 209 (x3 + 2) → WP PR d 157 87 [vA 200, vI x1, vI x2, vI x3, u4] [] S M Q) (kf : M 209 (x3 + 2) ≤ M 209 (x3 + 1) → WP PR d 157 66 [vA 200, vI x1, vI x2, vI x3, u4] [] S M Q) : WP PR d 157 47 [vA 200, vI x1, vI x2, vI x3, u4] [] S M Q := by
  refine WP.if2 12 66 63 .gt 24 (0, 0, 0, 0) 87 rfl rfl ?_
  exact And.intro (⟨lo200 L, lf200_12 L⟩) (And.intro (hc.1) (And.intro (inA_of (lo209 L) (ll209 L) hc.2.1) (And.intro (⟨lo200 L, lf200_12 L⟩) (And.intro (hc.2.2.1) (And.intro (inA_of (lo209 L) (ll209 L) hc.2.2.2) (⟨kt, fun hc => kf (Int.not_lt.mp hc)⟩))))))
set_option maxRecDepth 100000 in
theorem b_X9_row_66 {d : Nat} {S : mSh} {M : mMem} {Q : Option mV → mSh → mMem → Prop} {x1 x2 x3 : Int} {u4 : mV} (L : Lay S) (hc : (0 ≤ x3 ∧ x3 < 400) ∧ R32 (x3 + 1) ∧ (0 ≤ x3 + 1 ∧ x3 + 1 < 400)) (k : WP PR d 152 0 [vA 200, vI (M 209 x3), vI (M 209 (x3 + 1)), vU, vU] [] S M (fun r S2 M2 => WP PR (d + 1) 157 84 [vA 200, vI x1, vI x2, vI x3, u4] (r.toList ++ []) S2 M2 Q)) : WP PR (d + 1) 157 66 [vA 200, vI x1, vI x2, vI x3, u4] [] S M Q := by
  refine WP.ca 11 84 81 (.invokevirtual 181) (0, 152, 0, 0) rfl ?_
  exact And.intro (⟨lo200 L, lf200_12 L⟩) (And.intro (inA_of (lo209 L) (ll209 L) hc.1) (And.intro (⟨lo200 L, lf200_12 L⟩) (And.intro (hc.2.1) (And.intro (inA_of (lo209 L) (ll209 L) hc.2.2) (⟨rfl, rfl, rfl, lo200 L, rfl, k⟩)))))
set_option maxRecDepth 100000 in
theorem b_X9_row_84 {d : Nat} {S : mSh} {M : mMem} {Q : Option mV → mSh → mMem → Prop} {x1 x2 x3 s0 : Int} {u4 : mV} (kt : s0 < 0 → WP PR d 157 126 [vA 200, vI x1, vI x2, vI x3, vI s0] [] S M Q) (kf : 0 ≤ s0 → WP PR d 157 95 [vA 200, vI x1, vI x2, vI x3, vI s0] [] S M Q) : WP PR d 157 84 [vA 200, vI x1, vI x2, vI x3, u4] [vI s0] S M Q := by
  refine WP.gt 0 84 4 (0, 0, 0, 0) _ 88 rfl rfl ?_
  show WP PR d 157 88 [vA 200, vI x1, vI x2, vI x3, u4] [vI s0] S M Q
  refine WP.if0 2 95 92 .lt 34 (0, 0, 0, 0) 126 rfl rfl ?_
  exact ⟨kt, fun hc => kf (Int.not_lt.mp hc)⟩
set_option maxRecDepth 100000 in
theorem b_X9_row_87 {d : Nat} {S : mSh} {M : mMem} {Q : Option mV → mSh → mMem → Prop} {x1 x2 x3 : Int} {u4 : mV} (L : Lay S) (hc : R32 ((M 200 11) + 1) ∧ R32 (x3 + 3)) (k : WP PR d 157 35 [vA 200, vI x1, vI x2, vI (x3 + 3), vI (-1)] [] S (up M 200 11 ((M 200 11) + 1)) Q) : WP PR d 157 87 [vA 200, vI x1, vI x2, vI x3, u4] [] S M Q := by
  refine WP.if0 3 95 92 .lt 34 (0, 0, 0, 0) 126 rfl rfl ?_
  refine ⟨fun _ => ?_, fun h => absurd (show ((-1) : Int) < (0 : Int) by decide) h⟩
  show WP PR d 157 126 [vA 200, vI x1, vI x2, vI x3, vI (-1)] [] S M Q
  refine WP.gt 7 139 (-104) (0, 0, 0, 0) _ 35 rfl rfl ?_
  exact And.intro (lo200 L) (And.intro (hc.1) (And.intro (lo200 L) (And.intro (hc.2) (k))))
set_option maxRecDepth 100000 in
theorem b_X9_row_95 {d : Nat} {S : mSh} {M : mMem} {Q : Option mV → mSh → mMem → Prop} {x1 x2 x3 x4 : Int} (L : Lay S) (hc : R32 (20 * x4) ∧ R32 (10 + (20 * x4)) ∧ R32 (x3 + 2) ∧ (0 ≤ x3 + 2 ∧ x3 + 2 < 400) ∧ R32 (1000 * (M 209 (x3 + 2))) ∧ (0 ≤ 10 + (20 * x4) ∧ 10 + (20 * x4) < 9390) ∧ R32 (x2 + 1) ∧ R32 (x3 + 3)) (k : WP PR d 157 35 [vA 200, vI x1, vI (x2 + 1), vI (x3 + 3), vI x4] [] S (up M 202 (10 + (20 * x4)) (1000 * (M 209 (x3 + 2)))) Q) : WP PR d 157 95 [vA 200, vI x1, vI x2, vI x3, vI x4] [] S M Q := by
  refine WP.gt 17 123 13 (0, 0, 0, 0) _ 136 rfl rfl ?_
  refine And.intro (⟨lo200 L, lf200_3 L⟩) (And.intro (hc.1) (And.intro (hc.2.1) (And.intro (⟨lo200 L, lf200_12 L⟩) (And.intro (hc.2.2.1) (And.intro (inA_of (lo209 L) (ll209 L) hc.2.2.2.1) (And.intro (hc.2.2.2.2.1) (And.intro (inA_of (lo202 L) (ll202 L) hc.2.2.2.2.2.1) (And.intro (hc.2.2.2.2.2.2.1) (?_)))))))))
  show WP PR d 157 136 [vA 200, vI x1, vI (x2 + 1), vI x3, vI x4] [] S (up M 202 (10 + (20 * x4)) (1000 * (M 209 (x3 + 2)))) Q
  refine WP.gt 1 139 (-104) (0, 0, 0, 0) _ 35 rfl rfl ?_
  exact And.intro (hc.2.2.2.2.2.2.2) (k)
set_option maxRecDepth 100000 in
theorem b_X9_row_126 {d : Nat} {S : mSh} {M : mMem} {Q : Option mV → mSh → mMem → Prop} {x1 x2 x3 x4 : Int} (L : Lay S) (hc : R32 ((M 200 11) + 1) ∧ R32 (x3 + 3)) (k : WP PR d 157 35 [vA 200, vI x1, vI x2, vI (x3 + 3), vI x4] [] S (up M 200 11 ((M 200 11) + 1)) Q) : WP PR d 157 126 [vA 200, vI x1, vI x2, vI x3, vI x4] [] S M Q := by
  refine WP.gt 7 139 (-104) (0, 0, 0, 0) _ 35 rfl rfl ?_
  exact And.intro (lo200 L) (And.intro (hc.1) (And.intro (lo200 L) (And.intro (hc.2) (k))))
set_option maxRecDepth 100000 in
theorem b_X9_row_142 {d : Nat} {S : mSh} {M : mMem} {Q : Option mV → mSh → mMem → Prop} {x1 x2 x3 : Int} {u4 : mV} (L : Lay S) (k : WP PR d 137 0 [vA 200, vI x2] [] S M (fun r S2 M2 => WP PR (d + 1) 157 147 [vA 200, vI x1, vI x2, vI x3, u4] (r.toList ++ []) S2 M2 Q)) : WP PR (d + 1) 157 142 [vA 200, vI x1, vI x2, vI x3, u4] [] S M Q := by
  refine WP.ca 2 147 144 (.invokevirtual 157) (0, 137, 0, 0) rfl ?_
  exact ⟨rfl, rfl, rfl, lo200 L, rfl, k⟩
set_option maxRecDepth 100000 in
theorem b_X9_row_147 {d : Nat} {S : mSh} {M : mMem} {Q : Option mV → mSh → mMem → Prop} {x1 x2 x3 s0 : Int} {u4 : mV} (k : Q (some (vI s0)) S M) : WP PR d 157 147 [vA 200, vI x1, vI x2, vI x3, u4] [vI s0] S M Q := by
  refine WP.re 0 147 .ireturn (0, 0, 0, 0) _ rfl ?_
  exact ⟨rfl, rfl, trivial, k⟩
/-- SoleraCellarModel.leaks()I -/
abbrev e_X9_leaks (d : Nat) (S : mSh) (M : mMem) (Q : Option mV → mSh → mMem → Prop) : Prop := WP PR d 158 0 [vA 200] [] S M Q
set_option maxRecDepth 100000 in
theorem b_X9_leaks_0 {d : Nat} {S : mSh} {M : mMem} {Q : Option mV → mSh → mMem → Prop} (L : Lay S) (k : Q (some (vI (M 200 11))) S (up M 200 0 0)) : WP PR d 158 0 [vA 200] [] S M Q := by
  refine WP.re 5 9 .ireturn (0, 0, 0, 0) _ rfl ?_
  exact And.intro (lo200 L) (And.intro (lo200 L) (⟨rfl, rfl, trivial, k⟩))
/-- SoleraCellarModel.four(I)V -/
abbrev e_X9_four (d : Nat) (a1 : Int) (S : mSh) (M : mMem) (Q : Option mV → mSh → mMem → Prop) : Prop := WP PR d 159 0 [vA 200, vI a1, vU] [] S M Q
set_option maxRecDepth 100000 in
theorem b_X9_four_0 {d : Nat} {S : mSh} {M : mMem} {Q : Option mV → mSh → mMem → Prop} {x1 : Int} (k : WP PR d 159 3 [vA 200, vI x1, vI 24] [] S M Q) : WP PR d 159 0 [vA 200, vI x1, vU] [] S M Q := by
  refine WP.bl 2 3 rfl ?_
  exact k
set_option maxRecDepth 100000 in
theorem b_X9_four_3 {d : Nat} {S : mSh} {M : mMem} {Q : Option mV → mSh → mMem → Prop} {x1 x2 : Int} (kt : x2 < 0 → WP PR d 159 39 [vA 200, vI x1, vI x2] [] S M Q) (kf : 0 ≤ x2 → WP PR d 159 7 [vA 200, vI x1, vI x2] [] S M Q) : WP PR d 159 3 [vA 200, vI x1, vI x2] [] S M Q := by
  refine WP.if0 1 7 4 .lt 35 (0, 0, 0, 0) 39 rfl rfl ?_
  exact ⟨kt, fun hc => kf (Int.not_lt.mp hc)⟩
set_option maxRecDepth 100000 in
theorem b_X9_four_7 {d : Nat} {S : mSh} {M : mMem} {Q : Option mV → mSh → mMem → Prop} {x1 x2 : Int} (L : Lay S) (hc : (0 ≤ M 200 13 ∧ M 200 13 < 400) ∧ R32 ((M 200 13) + 1) ∧ R32 (x2 + (-8))) (k : WP PR d 159 3 [vA 200, vI x1, vI (x2 + (-8))] [] S (up (up M 209 (M 200 13) (band (bshr x1 x2) 255)) 200 13 ((M 200 13) + 1)) Q) : WP PR d 159 7 [vA 200, vI x1, vI x2] [] S M Q := by
  refine WP.gt 17 36 (-33) (0, 0, 0, 0) _ 3 rfl rfl ?_
  exact And.intro (⟨lo200 L, lf200_12 L⟩) (And.intro (lo200 L) (And.intro (inA_of (lo209 L) (ll209 L) hc.1) (And.intro (lo200 L) (And.intro (hc.2.1) (And.intro (lo200 L) (And.intro (hc.2.2) (k)))))))
set_option maxRecDepth 100000 in
theorem b_X9_four_39 {d : Nat} {S : mSh} {M : mMem} {Q : Option mV → mSh → mMem → Prop} {x1 x2 : Int} (k : Q (none) S M) : WP PR d 159 39 [vA 200, vI x1, vI x2] [] S M Q := by
  refine WP.re 0 39 .return_ (0, 0, 0, 0) _ rfl ?_
  exact ⟨rfl, rfl, trivial, k⟩
/-- SoleraCellarModel.feed(IIIII)I -/
abbrev e_X9_feed (d : Nat) (a1 a2 a3 a4 a5 : Int) (S : mSh) (M : mMem) (Q : Option mV → mSh → mMem → Prop) : Prop := WP PR d 160 0 [vA 200, vI a1, vI a2, vI a3, vI a4, vI a5] [] S M Q
set_option maxRecDepth 100000 in
theorem b_X9_feed_0 {d : Nat} {S : mSh} {M : mMem} {Q : Option mV → mSh → mMem → Prop} {x1 x2 x3 x4 x5 : Int} (L : Lay S) (hc : R32 ((M 200 13) + 20)) (kt : (M 200 13) + 20 ≤ 400 → WP PR d 160 20 [vA 200, vI x1, vI x2, vI x3, vI x4, vI x5] [] S (up M 200 0 0) Q) (kf : 400 < (M 200 13) + 20 → WP PR d 160 18 [vA 200, vI x1, vI x2, vI x3, vI x4, vI x5] [] S (up M 200 0 0) Q) : WP PR d 160 0 [vA 200, vI x1, vI x2, vI x3, vI x4, vI x5] [] S M Q := by
  refine WP.if2 8 18 15 .le 5 (0, 0, 0, 0) 20 rfl rfl ?_
  exact And.intro (lo200 L) (And.intro (lo200 L) (And.intro (hc) (⟨kt, fun hc => kf (Int.not_le.mp hc)⟩)))
set_option maxRecDepth 100000 in
theorem b_X9_feed_18 {d : Nat} {S : mSh} {M : mMem} {Q : Option mV → mSh → mMem → Prop} {x1 x2 x3 x4 x5 : Int} (k : Q (some (vI (-1))) S M) : WP PR d 160 18 [vA 200, vI x1, vI x2, vI x3, vI x4, vI x5] [] S M Q := by
  refine WP.re 1 19 .ireturn (0, 0, 0, 0) _ rfl ?_
  exact ⟨rfl, rfl, trivial, k⟩
set_option maxRecDepth 100000 in
theorem b_X9_feed_20 {d : Nat} {S : mSh} {M : mMem} {Q : Option mV → mSh → mMem → Prop} {x1 x2 x3 x4 x5 : Int} (L : Lay S) (k : WP PR d 159 0 [vA 200, vI x1, vU] [] S M (fun r S2 M2 => WP PR (d + 1) 160 25 [vA 200, vI x1, vI x2, vI x3, vI x4, vI x5] (r.toList ++ []) S2 M2 Q)) : WP PR (d + 1) 160 20 [vA 200, vI x1, vI x2, vI x3, vI x4, vI x5] [] S M Q := by
  refine WP.ca 2 25 22 (.invokevirtual 223) (0, 159, 0, 0) rfl ?_
  exact ⟨rfl, rfl, rfl, lo200 L, rfl, k⟩
set_option maxRecDepth 100000 in
theorem b_X9_feed_25 {d : Nat} {S : mSh} {M : mMem} {Q : Option mV → mSh → mMem → Prop} {x1 x2 x3 x4 x5 : Int} (L : Lay S) (k : WP PR d 159 0 [vA 200, vI x2, vU] [] S M (fun r S2 M2 => WP PR (d + 1) 160 30 [vA 200, vI x1, vI x2, vI x3, vI x4, vI x5] (r.toList ++ []) S2 M2 Q)) : WP PR (d + 1) 160 25 [vA 200, vI x1, vI x2, vI x3, vI x4, vI x5] [] S M Q := by
  refine WP.ca 2 30 27 (.invokevirtual 223) (0, 159, 0, 0) rfl ?_
  exact ⟨rfl, rfl, rfl, lo200 L, rfl, k⟩
set_option maxRecDepth 100000 in
theorem b_X9_feed_30 {d : Nat} {S : mSh} {M : mMem} {Q : Option mV → mSh → mMem → Prop} {x1 x2 x3 x4 x5 : Int} (L : Lay S) (k : WP PR d 159 0 [vA 200, vI x3, vU] [] S M (fun r S2 M2 => WP PR (d + 1) 160 35 [vA 200, vI x1, vI x2, vI x3, vI x4, vI x5] (r.toList ++ []) S2 M2 Q)) : WP PR (d + 1) 160 30 [vA 200, vI x1, vI x2, vI x3, vI x4, vI x5] [] S M Q := by
  refine WP.ca 2 35 32 (.invokevirtual 223) (0, 159, 0, 0) rfl ?_
  exact ⟨rfl, rfl, rfl, lo200 L, rfl, k⟩
set_option maxRecDepth 100000 in
theorem b_X9_feed_35 {d : Nat} {S : mSh} {M : mMem} {Q : Option mV → mSh → mMem → Prop} {x1 x2 x3 x4 x5 : Int} (L : Lay S) (k : WP PR d 159 0 [vA 200, vI x4, vU] [] S M (fun r S2 M2 => WP PR (d + 1) 160 41 [vA 200, vI x1, vI x2, vI x3, vI x4, vI x5] (r.toList ++ []) S2 M2 Q)) : WP PR (d + 1) 160 35 [vA 200, vI x1, vI x2, vI x3, vI x4, vI x5] [] S M Q := by
  refine WP.ca 2 41 38 (.invokevirtual 223) (0, 159, 0, 0) rfl ?_
  exact ⟨rfl, rfl, rfl, lo200 L, rfl, k⟩
set_option maxRecDepth 100000 in
theorem b_X9_feed_41 {d : Nat} {S : mSh} {M : mMem} {Q : Option mV → mSh → mMem → Prop} {x1 x2 x3 x4 x5 : Int} (L : Lay S) (k : WP PR d 159 0 [vA 200, vI x5, vU] [] S M (fun r S2 M2 => WP PR (d + 1) 160 47 [vA 200, vI x1, vI x2, vI x3, vI x4, vI x5] (r.toList ++ []) S2 M2 Q)) : WP PR (d + 1) 160 41 [vA 200, vI x1, vI x2, vI x3, vI x4, vI x5] [] S M Q := by
  refine WP.ca 2 47 44 (.invokevirtual 223) (0, 159, 0, 0) rfl ?_
  exact ⟨rfl, rfl, rfl, lo200 L, rfl, k⟩
set_option maxRecDepth 100000 in
theorem b_X9_feed_47 {d : Nat} {S : mSh} {M : mMem} {Q : Option mV → mSh → mMem → Prop} {x1 x2 x3 x4 x5 : Int} (L : Lay S) (k : Q (some (vI (M 200 13))) S M) : WP PR d 160 47 [vA 200, vI x1, vI x2, vI x3, vI x4, vI x5] [] S M Q := by
  refine WP.re 2 51 .ireturn (0, 0, 0, 0) _ rfl ?_
  exact And.intro (lo200 L) (⟨rfl, rfl, trivial, k⟩)
/-- SoleraCellarModel.end(I)I -/
abbrev e_X9_end (d : Nat) (a1 : Int) (S : mSh) (M : mMem) (Q : Option mV → mSh → mMem → Prop) : Prop := WP PR d 161 0 [vA 200, vI a1] [] S M Q
set_option maxRecDepth 100000 in
theorem b_X9_end_0 {d : Nat} {S : mSh} {M : mMem} {Q : Option mV → mSh → mMem → Prop} {x1 : Int} (L : Lay S) (kt : x1 < 0 → WP PR d 161 17 [vA 200, vI x1] [] S (up M 200 0 0) Q) (kf : 0 ≤ x1 → WP PR d 161 9 [vA 200, vI x1] [] S (up M 200 0 0) Q) : WP PR d 161 0 [vA 200, vI x1] [] S M Q := by
  refine WP.if0 4 9 6 .lt 11 (0, 0, 0, 0) 17 rfl rfl ?_
  exact And.intro (lo200 L) (⟨kt, fun hc => kf (Int.not_lt.mp hc)⟩)
set_option maxRecDepth 100000 in
theorem b_X9_end_9 {d : Nat} {S : mSh} {M : mMem} {Q : Option mV → mSh → mMem → Prop} {x1 : Int} (L : Lay S) (kt : x1 ≤ M 200 13 → WP PR d 161 19 [vA 200, vI x1] [] S M Q) (kf : M 200 13 < x1 → WP PR d 161 17 [vA 200, vI x1] [] S M Q) : WP PR d 161 9 [vA 200, vI x1] [] S M Q := by
  refine WP.if2 3 17 14 .le 5 (0, 0, 0, 0) 19 rfl rfl ?_
  exact And.intro (lo200 L) (⟨kt, fun hc => kf (Int.not_le.mp hc)⟩)
set_option maxRecDepth 100000 in
theorem b_X9_end_17 {d : Nat} {S : mSh} {M : mMem} {Q : Option mV → mSh → mMem → Prop} {x1 : Int} (k : Q (some (vI (-1))) S M) : WP PR d 161 17 [vA 200, vI x1] [] S M Q := by
  refine WP.re 1 18 .ireturn (0, 0, 0, 0) _ rfl ?_
  exact ⟨rfl, rfl, trivial, k⟩
set_option maxRecDepth 100000 in
theorem b_X9_end_19 {d : Nat} {S : mSh} {M : mMem} {Q : Option mV → mSh → mMem → Prop} {x1 : Int} (L : Lay S) (k : Q (some (vI x1)) S (up M 200 13 x1)) : WP PR d 161 19 [vA 200, vI x1] [] S M Q := by
  refine WP.re 4 25 .ireturn (0, 0, 0, 0) _ rfl ?_
  exact And.intro (lo200 L) (⟨rfl, rfl, trivial, k⟩)
/-- SoleraCellarModel.isSmall(I)Z -/
abbrev e_X9_isSmall (d : Nat) (a0 : Int) (S : mSh) (M : mMem) (Q : Option mV → mSh → mMem → Prop) : Prop := WP PR d 162 0 [vI a0] [] S M Q
set_option maxRecDepth 100000 in
theorem b_X9_isSmall_0 {d : Nat} {S : mSh} {M : mMem} {Q : Option mV → mSh → mMem → Prop} {x0 : Int} (kt : x0 < 97 → WP PR d 162 16 [vI x0] [] S M Q) (kf : 97 ≤ x0 → WP PR d 162 6 [vI x0] [] S M Q) : WP PR d 162 0 [vI x0] [] S M Q := by
  refine WP.if2 2 6 3 .lt 13 (0, 0, 0, 0) 16 rfl rfl ?_
  exact ⟨kt, fun hc => kf (Int.not_lt.mp hc)⟩
set_option maxRecDepth 100000 in
theorem b_X9_isSmall_6 {d : Nat} {S : mSh} {M : mMem} {Q : Option mV → mSh → mMem → Prop} {x0 : Int} (kt : 122 < x0 → WP PR d 162 16 [vI x0] [] S M Q) (kf : x0 ≤ 122 → WP PR d 162 12 [vI x0] [] S M Q) : WP PR d 162 6 [vI x0] [] S M Q := by
  refine WP.if2 2 12 9 .gt 7 (0, 0, 0, 0) 16 rfl rfl ?_
  exact ⟨kt, fun hc => kf (Int.not_lt.mp hc)⟩
set_option maxRecDepth 100000 in
theorem b_X9_isSmall_12 {d : Nat} {S : mSh} {M : mMem} {Q : Option mV → mSh → mMem → Prop} {x0 : Int} (k : Q (some (vI 1)) S M) : WP PR d 162 12 [vI x0] [] S M Q := by
  refine WP.gt 1 13 4 (0, 0, 0, 0) _ 17 rfl rfl ?_
  show WP PR d 162 17 [vI x0] [vI 1] S M Q
  refine WP.re 0 17 .ireturn (0, 0, 0, 0) _ rfl ?_
  exact ⟨rfl, rfl, Or.inr rfl, k⟩
set_option maxRecDepth 100000 in
theorem b_X9_isSmall_16 {d : Nat} {S : mSh} {M : mMem} {Q : Option mV → mSh → mMem → Prop} {x0 : Int} (k : Q (some (vI 0)) S M) : WP PR d 162 16 [vI x0] [] S M Q := by
  refine WP.re 1 17 .ireturn (0, 0, 0, 0) _ rfl ?_
  exact ⟨rfl, rfl, Or.inl rfl, k⟩
/-- SoleraCellarModel.isDigit(I)Z -/
abbrev e_X9_isDigit (d : Nat) (a0 : Int) (S : mSh) (M : mMem) (Q : Option mV → mSh → mMem → Prop) : Prop := WP PR d 163 0 [vI a0] [] S M Q
set_option maxRecDepth 100000 in
theorem b_X9_isDigit_0 {d : Nat} {S : mSh} {M : mMem} {Q : Option mV → mSh → mMem → Prop} {x0 : Int} (kt : x0 < 48 → WP PR d 163 16 [vI x0] [] S M Q) (kf : 48 ≤ x0 → WP PR d 163 6 [vI x0] [] S M Q) : WP PR d 163 0 [vI x0] [] S M Q := by
  refine WP.if2 2 6 3 .lt 13 (0, 0, 0, 0) 16 rfl rfl ?_
  exact ⟨kt, fun hc => kf (Int.not_lt.mp hc)⟩
set_option maxRecDepth 100000 in
theorem b_X9_isDigit_6 {d : Nat} {S : mSh} {M : mMem} {Q : Option mV → mSh → mMem → Prop} {x0 : Int} (kt : 57 < x0 → WP PR d 163 16 [vI x0] [] S M Q) (kf : x0 ≤ 57 → WP PR d 163 12 [vI x0] [] S M Q) : WP PR d 163 6 [vI x0] [] S M Q := by
  refine WP.if2 2 12 9 .gt 7 (0, 0, 0, 0) 16 rfl rfl ?_
  exact ⟨kt, fun hc => kf (Int.not_lt.mp hc)⟩
set_option maxRecDepth 100000 in
theorem b_X9_isDigit_12 {d : Nat} {S : mSh} {M : mMem} {Q : Option mV → mSh → mMem → Prop} {x0 : Int} (k : Q (some (vI 1)) S M) : WP PR d 163 12 [vI x0] [] S M Q := by
  refine WP.gt 1 13 4 (0, 0, 0, 0) _ 17 rfl rfl ?_
  show WP PR d 163 17 [vI x0] [vI 1] S M Q
  refine WP.re 0 17 .ireturn (0, 0, 0, 0) _ rfl ?_
  exact ⟨rfl, rfl, Or.inr rfl, k⟩
set_option maxRecDepth 100000 in
theorem b_X9_isDigit_16 {d : Nat} {S : mSh} {M : mMem} {Q : Option mV → mSh → mMem → Prop} {x0 : Int} (k : Q (some (vI 0)) S M) : WP PR d 163 16 [vI x0] [] S M Q := by
  refine WP.re 1 17 .ireturn (0, 0, 0, 0) _ rfl ?_
  exact ⟨rfl, rfl, Or.inl rfl, k⟩
/-- SoleraCellarModel.begin()V -/
abbrev e_X9_begin (d : Nat) (S : mSh) (M : mMem) (Q : Option mV → mSh → mMem → Prop) : Prop := WP PR d 164 0 [vA 200] [] S M Q
set_option maxRecDepth 100000 in
theorem b_X9_begin_0 {d : Nat} {S : mSh} {M : mMem} {Q : Option mV → mSh → mMem → Prop} (L : Lay S) (k : WP PR d 165 0 [vA 200] [] S (up (up (up M 200 15 0) 200 19 0) 200 18 (-1)) (fun r S2 M2 => WP PR (d + 1) 164 19 [vA 200] (r.toList ++ []) S2 M2 Q)) : WP PR (d + 1) 164 0 [vA 200] [] S M Q := by
  refine WP.ca 10 19 16 (.invokevirtual 233) (0, 165, 0, 0) rfl ?_
  exact And.intro (lo200 L) (And.intro (⟨lo200 L, Or.inl rfl⟩) (And.intro (lo200 L) (⟨rfl, rfl, rfl, lo200 L, rfl, k⟩)))
set_option maxRecDepth 100000 in
theorem b_X9_begin_19 {d : Nat} {S : mSh} {M : mMem} {Q : Option mV → mSh → mMem → Prop} (k : Q (none) S M) : WP PR d 164 19 [vA 200] [] S M Q := by
  refine WP.re 0 19 .return_ (0, 0, 0, 0) _ rfl ?_
  exact ⟨rfl, rfl, trivial, k⟩
/-- SoleraCellarModel.next()V -/
abbrev e_X9_next (d : Nat) (S : mSh) (M : mMem) (Q : Option mV → mSh → mMem → Prop) : Prop := WP PR d 165 0 [vA 200] [] S M Q
set_option maxRecDepth 100000 in
theorem b_X9_next_0 {d : Nat} {S : mSh} {M : mMem} {Q : Option mV → mSh → mMem → Prop} (L : Lay S) (k : WP PR d 165 8 [vA 200] [] S (up M 200 14 (M 200 15)) Q) : WP PR d 165 0 [vA 200] [] S M Q := by
  refine WP.bl 4 8 rfl ?_
  exact And.intro (lo200 L) (And.intro (lo200 L) (k))
set_option maxRecDepth 100000 in
theorem b_X9_next_8 {d : Nat} {S : mSh} {M : mMem} {Q : Option mV → mSh → mMem → Prop} (L : Lay S) (kt : M 200 13 ≤ M 200 14 → WP PR d 165 46 [vA 200] [] S M Q) (kf : M 200 14 < M 200 13 → WP PR d 165 19 [vA 200] [] S M Q) : WP PR d 165 8 [vA 200] [] S M Q := by
  refine WP.if2 4 19 16 .ge 30 (0, 0, 0, 0) 46 rfl rfl ?_
  exact And.intro (lo200 L) (And.intro (lo200 L) (⟨kt, fun hc => kf (Int.not_le.mp hc)⟩))
set_option maxRecDepth 100000 in
theorem b_X9_next_19 {d : Nat} {S : mSh} {M : mMem} {Q : Option mV → mSh → mMem → Prop} (L : Lay S) (hc : (0 ≤ M 200 14 ∧ M 200 14 < 400)) (kt : ¬ M 209 (M 200 14) = 32 → WP PR d 165 46 [vA 200] [] S M Q) (kf : M 209 (M 200 14) = 32 → WP PR d 165 33 [vA 200] [] S M Q) : WP PR d 165 19 [vA 200] [] S M Q := by
  refine WP.if2 6 33 30 .ne 16 (0, 0, 0, 0) 46 rfl rfl ?_
  exact And.intro (⟨lo200 L, lf200_12 L⟩) (And.intro (lo200 L) (And.intro (inA_of (lo209 L) (ll209 L) hc) (⟨kt, fun hc => kf (Decidable.not_not.mp hc)⟩)))
set_option maxRecDepth 100000 in
theorem b_X9_next_33 {d : Nat} {S : mSh} {M : mMem} {Q : Option mV → mSh → mMem → Prop} (L : Lay S) (hc : R32 ((M 200 14) + 1)) (k : WP PR d 165 8 [vA 200] [] S (up M 200 14 ((M 200 14) + 1)) Q) : WP PR d 165 33 [vA 200] [] S M Q := by
  refine WP.gt 6 43 (-35) (0, 0, 0, 0) _ 8 rfl rfl ?_
  exact And.intro (lo200 L) (And.intro (hc) (And.intro (lo200 L) (k)))
set_option maxRecDepth 100000 in
theorem b_X9_next_46 {d : Nat} {S : mSh} {M : mMem} {Q : Option mV → mSh → mMem → Prop} (L : Lay S) (kt : ¬ M 200 14 = M 200 13 → WP PR d 165 75 [vA 200] [vA 200] S (up (up M 200 15 (M 200 14)) 200 17 0) Q) (kf : M 200 14 = M 200 13 → WP PR d 165 71 [vA 200] [vA 200] S (up (up M 200 15 (M 200 14)) 200 17 0) Q) : WP PR d 165 46 [vA 200] [] S M Q := by
  refine WP.if2 12 71 68 .ne 7 (0, 0, 0, 0) 75 rfl rfl ?_
  exact And.intro (lo200 L) (And.intro (lo200 L) (And.intro (lo200 L) (And.intro (lo200 L) (And.intro (lo200 L) (⟨kt, fun hc => kf (Decidable.not_not.mp hc)⟩)))))
set_option maxRecDepth 100000 in
theorem b_X9_next_71 {d : Nat} {S : mSh} {M : mMem} {Q : Option mV → mSh → mMem → Prop} (L : Lay S) (k : WP PR d 165 149 [vA 200] [] S (up M 200 16 0) Q) : WP PR d 165 71 [vA 200] [vA 200] S M Q := by
  refine WP.gt 1 72 42 (0, 0, 0, 0) _ 114 rfl rfl ?_
  show WP PR d 165 114 [vA 200] [vI 0, vA 200] S M Q
  refine WP.if2 4 125 122 .ne 27 (0, 0, 0, 0) 149 rfl rfl ?_
  refine And.intro (lo200 L) (And.intro (lo200 L) (⟨fun _ => ?_, fun h => absurd (show ¬ (0 : Int) = (3 : Int) by decide) h⟩))
  show WP PR d 165 149 [vA 200] [] S (up M 200 16 0) Q
  exact k
set_option maxRecDepth 100000 in
theorem b_X9_next_75 {d : Nat} {S : mSh} {M : mMem} {Q : Option mV → mSh → mMem → Prop} (L : Lay S) (hc : (0 ≤ M 200 14 ∧ M 200 14 < 400)) (k : WP PR d 162 0 [vI (M 209 (M 200 14))] [] S M (fun r S2 M2 => WP PR (d + 1) 165 87 [vA 200] (r.toList ++ [vA 200]) S2 M2 Q)) : WP PR (d + 1) 165 75 [vA 200] [vA 200] S M Q := by
  refine WP.ca 5 87 84 (.invokestatic 243) (0, 162, 0, 0) rfl ?_
  exact And.intro (⟨lo200 L, lf200_12 L⟩) (And.intro (lo200 L) (And.intro (inA_of (lo209 L) (ll209 L) hc) (⟨rfl, rfl, rfl, trivial, rfl, k⟩)))
set_option maxRecDepth 100000 in
theorem b_X9_next_87 {d : Nat} {S : mSh} {M : mMem} {Q : Option mV → mSh → mMem → Prop} {s1 : Int} (kt : s1 = 0 → WP PR d 165 94 [vA 200] [vA 200] S M Q) (kf : ¬ s1 = 0 → WP PR d 165 90 [vA 200] [vA 200] S M Q) : WP PR d 165 87 [vA 200] [vI s1, vA 200] S M Q := by
  refine WP.if0 0 90 87 .eq 7 (0, 0, 0, 0) 94 rfl rfl ?_
  exact ⟨kt, fun hc => kf hc⟩
set_option maxRecDepth 100000 in
theorem b_X9_next_90 {d : Nat} {S : mSh} {M : mMem} {Q : Option mV → mSh → mMem → Prop} (L : Lay S) (k : WP PR d 165 149 [vA 200] [] S (up M 200 16 1) Q) : WP PR d 165 90 [vA 200] [vA 200] S M Q := by
  refine WP.gt 1 91 23 (0, 0, 0, 0) _ 114 rfl rfl ?_
  show WP PR d 165 114 [vA 200] [vI 1, vA 200] S M Q
  refine WP.if2 4 125 122 .ne 27 (0, 0, 0, 0) 149 rfl rfl ?_
  refine And.intro (lo200 L) (And.intro (lo200 L) (⟨fun _ => ?_, fun h => absurd (show ¬ (1 : Int) = (3 : Int) by decide) h⟩))
  show WP PR d 165 149 [vA 200] [] S (up M 200 16 1) Q
  exact k
set_option maxRecDepth 100000 in
theorem b_X9_next_94 {d : Nat} {S : mSh} {M : mMem} {Q : Option mV → mSh → mMem → Prop} (L : Lay S) (hc : (0 ≤ M 200 14 ∧ M 200 14 < 400)) (k : WP PR d 163 0 [vI (M 209 (M 200 14))] [] S M (fun r S2 M2 => WP PR (d + 1) 165 106 [vA 200] (r.toList ++ [vA 200]) S2 M2 Q)) : WP PR (d + 1) 165 94 [vA 200] [vA 200] S M Q := by
  refine WP.ca 5 106 103 (.invokestatic 246) (0, 163, 0, 0) rfl ?_
  exact And.intro (⟨lo200 L, lf200_12 L⟩) (And.intro (lo200 L) (And.intro (inA_of (lo209 L) (ll209 L) hc) (⟨rfl, rfl, rfl, trivial, rfl, k⟩)))
set_option maxRecDepth 100000 in
theorem b_X9_next_106 {d : Nat} {S : mSh} {M : mMem} {Q : Option mV → mSh → mMem → Prop} {s1 : Int} (kt : s1 = 0 → WP PR d 165 113 [vA 200] [vA 200] S M Q) (kf : ¬ s1 = 0 → WP PR d 165 109 [vA 200] [vA 200] S M Q) : WP PR d 165 106 [vA 200] [vI s1, vA 200] S M Q := by
  refine WP.if0 0 109 106 .eq 7 (0, 0, 0, 0) 113 rfl rfl ?_
  exact ⟨kt, fun hc => kf hc⟩
set_option maxRecDepth 100000 in
theorem b_X9_next_109 {d : Nat} {S : mSh} {M : mMem} {Q : Option mV → mSh → mMem → Prop} (L : Lay S) (k : WP PR d 165 149 [vA 200] [] S (up M 200 16 2) Q) : WP PR d 165 109 [vA 200] [vA 200] S M Q := by
  refine WP.gt 1 110 4 (0, 0, 0, 0) _ 114 rfl rfl ?_
  show WP PR d 165 114 [vA 200] [vI 2, vA 200] S M Q
  refine WP.if2 4 125 122 .ne 27 (0, 0, 0, 0) 149 rfl rfl ?_
  refine And.intro (lo200 L) (And.intro (lo200 L) (⟨fun _ => ?_, fun h => absurd (show ¬ (2 : Int) = (3 : Int) by decide) h⟩))
  show WP PR d 165 149 [vA 200] [] S (up M 200 16 2) Q
  exact k
set_option maxRecDepth 100000 in
theorem b_X9_next_113 {d : Nat} {S : mSh} {M : mMem} {Q : Option mV → mSh → mMem → Prop} (L : Lay S) (hc : (0 ≤ M 200 14 ∧ M 200 14 < 400) ∧ R32 ((M 200 15) + 1)) (k : WP PR d 165 149 [vA 200] [] S (up (up (up M 200 16 3) 200 17 (M 209 (M 200 14))) 200 15 ((M 200 15) + 1)) Q) : WP PR d 165 113 [vA 200] [vA 200] S M Q := by
  refine WP.if2 5 125 122 .ne 27 (0, 0, 0, 0) 149 rfl rfl ?_
  refine And.intro (lo200 L) (And.intro (lo200 L) (⟨fun h => absurd h (show ¬ (¬ (3 : Int) = (3 : Int)) by decide), fun _ => ?_⟩))
  show WP PR d 165 125 [vA 200] [] S (up M 200 16 3) Q
  refine WP.bl 14 149 rfl ?_
  exact And.intro (⟨lo200 L, lf200_12 L⟩) (And.intro (lo200 L) (And.intro (inA_of (lo209 L) (ll209 L) hc.1) (And.intro (lo200 L) (And.intro (lo200 L) (And.intro (hc.2) (And.intro (lo200 L) (k)))))))
set_option maxRecDepth 100000 in
theorem b_X9_next_149 {d : Nat} {S : mSh} {M : mMem} {Q : Option mV → mSh → mMem → Prop} (L : Lay S) (kt : ¬ M 200 16 = 1 → WP PR d 165 243 [vA 200] [] S M Q) (kf : M 200 16 = 1 → WP PR d 165 157 [vA 200] [] S M Q) : WP PR d 165 149 [vA 200] [] S M Q := by
  refine WP.if2 3 157 154 .ne 89 (0, 0, 0, 0) 243 rfl rfl ?_
  exact And.intro (lo200 L) (⟨kt, fun hc => kf (Decidable.not_not.mp hc)⟩)
set_option maxRecDepth 100000 in
theorem b_X9_next_157 {d : Nat} {S : mSh} {M : mMem} {Q : Option mV → mSh → mMem → Prop} (L : Lay S) (kt : M 200 13 ≤ M 200 15 → WP PR d 165 243 [vA 200] [] S M Q) (kf : M 200 15 < M 200 13 → WP PR d 165 168 [vA 200] [] S M Q) : WP PR d 165 157 [vA 200] [] S M Q := by
  refine WP.if2 4 168 165 .ge 78 (0, 0, 0, 0) 243 rfl rfl ?_
  exact And.intro (lo200 L) (And.intro (lo200 L) (⟨kt, fun hc => kf (Int.not_le.mp hc)⟩))
set_option maxRecDepth 100000 in
theorem b_X9_next_168 {d : Nat} {S : mSh} {M : mMem} {Q : Option mV → mSh → mMem → Prop} (L : Lay S) (hc : (0 ≤ M 200 15 ∧ M 200 15 < 400)) (k : WP PR d 162 0 [vI (M 209 (M 200 15))] [] S M (fun r S2 M2 => WP PR (d + 1) 165 180 [vA 200] (r.toList ++ []) S2 M2 Q)) : WP PR (d + 1) 165 168 [vA 200] [] S M Q := by
  refine WP.ca 5 180 177 (.invokestatic 243) (0, 162, 0, 0) rfl ?_
  exact And.intro (⟨lo200 L, lf200_12 L⟩) (And.intro (lo200 L) (And.intro (inA_of (lo209 L) (ll209 L) hc) (⟨rfl, rfl, rfl, trivial, rfl, k⟩)))
set_option maxRecDepth 100000 in
theorem b_X9_next_180 {d : Nat} {S : mSh} {M : mMem} {Q : Option mV → mSh → mMem → Prop} {s0 : Int} (kt : s0 = 0 → WP PR d 165 243 [vA 200] [] S M Q) (kf : ¬ s0 = 0 → WP PR d 165 183 [vA 200] [] S M Q) : WP PR d 165 180 [vA 200] [vI s0] S M Q := by
  refine WP.if0 0 183 180 .eq 63 (0, 0, 0, 0) 243 rfl rfl ?_
  exact ⟨kt, fun hc => kf hc⟩
set_option maxRecDepth 100000 in
theorem b_X9_next_183 {d : Nat} {S : mSh} {M : mMem} {Q : Option mV → mSh → mMem → Prop} (L : Lay S) (hc : R32 ((M 200 15) - (M 200 14))) (kt : 10 ≤ (M 200 15) - (M 200 14) → WP PR d 165 224 [vA 200] [vA 200] S M Q) (kf : (M 200 15) - (M 200 14) < 10 → WP PR d 165 198 [vA 200] [vA 200] S M Q) : WP PR d 165 183 [vA 200] [] S M Q := by
  refine WP.if2 7 198 195 .ge 29 (0, 0, 0, 0) 224 rfl rfl ?_
  exact And.intro (lo200 L) (And.intro (lo200 L) (And.intro (hc) (⟨kt, fun hc => kf (Int.not_le.mp hc)⟩)))
set_option maxRecDepth 100000 in
theorem b_X9_next_198 {d : Nat} {S : mSh} {M : mMem} {Q : Option mV → mSh → mMem → Prop} (L : Lay S) (hc : R64 ((M 200 17) * 32) ∧ (0 ≤ M 200 15 ∧ M 200 15 < 400) ∧ R64 (((M 200 17) * 32) + (M 209 (M 200 15))) ∧ R64 ((((M 200 17) * 32) + (M 209 (M 200 15))) - 96) ∧ R32 ((M 200 15) + 1)) (k : WP PR d 165 149 [vA 200] [] S (up (up M 200 17 ((((M 200 17) * 32) + (M 209 (M 200 15))) - 96)) 200 15 ((M 200 15) + 1)) Q) : WP PR d 165 198 [vA 200] [vA 200] S M Q := by
  refine WP.gt 13 221 6 (0, 0, 0, 0) _ 227 rfl rfl ?_
  refine And.intro (lo200 L) (And.intro (hc.1) (And.intro (⟨lo200 L, lf200_12 L⟩) (And.intro (lo200 L) (And.intro (inA_of (lo209 L) (ll209 L) hc.2.1) (And.intro (hc.2.2.1) (And.intro (hc.2.2.2.1) (?_)))))))
  show WP PR d 165 227 [vA 200] [vL ((((M 200 17) * 32) + (M 209 (M 200 15))) - 96), vA 200] S M Q
  refine WP.gt 7 240 (-91) (0, 0, 0, 0) _ 149 rfl rfl ?_
  exact And.intro (lo200 L) (And.intro (lo200 L) (And.intro (hc.2.2.2.2) (And.intro (lo200 L) (k))))
set_option maxRecDepth 100000 in
theorem b_X9_next_224 {d : Nat} {S : mSh} {M : mMem} {Q : Option mV → mSh → mMem → Prop} (L : Lay S) (hc : R32 ((M 200 15) + 1)) (k : WP PR d 165 149 [vA 200] [] S (up (up M 200 17 (-1)) 200 15 ((M 200 15) + 1)) Q) : WP PR d 165 224 [vA 200] [vA 200] S M Q := by
  refine WP.gt 8 240 (-91) (0, 0, 0, 0) _ 149 rfl rfl ?_
  exact And.intro (lo200 L) (And.intro (lo200 L) (And.intro (hc) (And.intro (lo200 L) (k))))
set_option maxRecDepth 100000 in
theorem b_X9_next_243 {d : Nat} {S : mSh} {M : mMem} {Q : Option mV → mSh → mMem → Prop} (L : Lay S) (kt : ¬ M 200 16 = 2 → WP PR d 165 335 [vA 200] [] S M Q) (kf : M 200 16 = 2 → WP PR d 165 251 [vA 200] [] S M Q) : WP PR d 165 243 [vA 200] [] S M Q := by
  refine WP.if2 3 251 248 .ne 87 (0, 0, 0, 0) 335 rfl rfl ?_
  exact And.intro (lo200 L) (⟨kt, fun hc => kf (Decidable.not_not.mp hc)⟩)
set_option maxRecDepth 100000 in
theorem b_X9_next_251 {d : Nat} {S : mSh} {M : mMem} {Q : Option mV → mSh → mMem → Prop} (L : Lay S) (kt : M 200 13 ≤ M 200 15 → WP PR d 165 335 [vA 200] [] S M Q) (kf : M 200 15 < M 200 13 → WP PR d 165 262 [vA 200] [] S M Q) : WP PR d 165 251 [vA 200] [] S M Q := by
  refine WP.if2 4 262 259 .ge 76 (0, 0, 0, 0) 335 rfl rfl ?_
  exact And.intro (lo200 L) (And.intro (lo200 L) (⟨kt, fun hc => kf (Int.not_le.mp hc)⟩))
set_option maxRecDepth 100000 in
theorem b_X9_next_262 {d : Nat} {S : mSh} {M : mMem} {Q : Option mV → mSh → mMem → Prop} (L : Lay S) (hc : (0 ≤ M 200 15 ∧ M 200 15 < 400)) (k : WP PR d 163 0 [vI (M 209 (M 200 15))] [] S M (fun r S2 M2 => WP PR (d + 1) 165 274 [vA 200] (r.toList ++ []) S2 M2 Q)) : WP PR (d + 1) 165 262 [vA 200] [] S M Q := by
  refine WP.ca 5 274 271 (.invokestatic 246) (0, 163, 0, 0) rfl ?_
  exact And.intro (⟨lo200 L, lf200_12 L⟩) (And.intro (lo200 L) (And.intro (inA_of (lo209 L) (ll209 L) hc) (⟨rfl, rfl, rfl, trivial, rfl, k⟩)))
set_option maxRecDepth 100000 in
theorem b_X9_next_274 {d : Nat} {S : mSh} {M : mMem} {Q : Option mV → mSh → mMem → Prop} {s0 : Int} (kt : s0 = 0 → WP PR d 165 335 [vA 200] [] S M Q) (kf : ¬ s0 = 0 → WP PR d 165 277 [vA 200] [] S M Q) : WP PR d 165 274 [vA 200] [vI s0] S M Q := by
  refine WP.if0 0 277 274 .eq 61 (0, 0, 0, 0) 335 rfl rfl ?_
  exact ⟨kt, fun hc => kf hc⟩
set_option maxRecDepth 100000 in
theorem b_X9_next_277 {d : Nat} {S : mSh} {M : mMem} {Q : Option mV → mSh → mMem → Prop} (L : Lay S) (kt : (M 200 17) ≤ 1000000 → WP PR d 165 296 [vA 200] [vA 200] S M Q) (kf : 1000000 < (M 200 17) → WP PR d 165 289 [vA 200] [vA 200] S M Q) : WP PR d 165 277 [vA 200] [] S M Q := by
  refine WP.if0 5 289 286 .le 10 (0, 0, 0, 0) 296 rfl rfl ?_
  exact And.intro (lo200 L) (⟨fun hc => kt (lcp_le.mp hc), fun hc => kf (lcp_gt.mp (Int.not_le.mp hc))⟩)
set_option maxRecDepth 100000 in
theorem b_X9_next_289 {d : Nat} {S : mSh} {M : mMem} {Q : Option mV → mSh → mMem → Prop} (L : Lay S) (hc : R32 ((M 200 15) + 1)) (k : WP PR d 165 243 [vA 200] [] S (up (up M 200 17 (M 200 17)) 200 15 ((M 200 15) + 1)) Q) : WP PR d 165 289 [vA 200] [vA 200] S M Q := by
  refine WP.gt 2 293 26 (0, 0, 0, 0) _ 319 rfl rfl ?_
  refine And.intro (lo200 L) (?_)
  show WP PR d 165 319 [vA 200] [vL (M 200 17), vA 200] S M Q
  refine WP.gt 7 332 (-89) (0, 0, 0, 0) _ 243 rfl rfl ?_
  exact And.intro (lo200 L) (And.intro (lo200 L) (And.intro (hc) (And.intro (lo200 L) (k))))
set_option maxRecDepth 100000 in
theorem b_X9_next_296 {d : Nat} {S : mSh} {M : mMem} {Q : Option mV → mSh → mMem → Prop} (L : Lay S) (hc : R64 ((M 200 17) * 10) ∧ (0 ≤ M 200 15 ∧ M 200 15 < 400) ∧ R64 (((M 200 17) * 10) + (M 209 (M 200 15))) ∧ R64 ((((M 200 17) * 10) + (M 209 (M 200 15))) - 48) ∧ R32 ((M 200 15) + 1)) (k : WP PR d 165 243 [vA 200] [] S (up (up M 200 17 ((((M 200 17) * 10) + (M 209 (M 200 15))) - 48)) 200 15 ((M 200 15) + 1)) Q) : WP PR d 165 296 [vA 200] [vA 200] S M Q := by
  refine WP.gt 20 332 (-89) (0, 0, 0, 0) _ 243 rfl rfl ?_
  exact And.intro (lo200 L) (And.intro (hc.1) (And.intro (⟨lo200 L, lf200_12 L⟩) (And.intro (lo200 L) (And.intro (inA_of (lo209 L) (ll209 L) hc.2.1) (And.intro (hc.2.2.1) (And.intro (hc.2.2.2.1) (And.intro (lo200 L) (And.intro (lo200 L) (And.intro (hc.2.2.2.2) (And.intro (lo200 L) (k)))))))))))
set_option maxRecDepth 100000 in
theorem b_X9_next_335 {d : Nat} {S : mSh} {M : mMem} {Q : Option mV → mSh → mMem → Prop} (k : Q (none) S M) : WP PR d 165 335 [vA 200] [] S M Q := by
  refine WP.re 0 335 .return_ (0, 0, 0, 0) _ rfl ?_
  exact ⟨rfl, rfl, trivial, k⟩
/-- SoleraCellarModel.isWord(J)Z -/
abbrev e_X9_isWord (d : Nat) (a1 : Int) (S : mSh) (M : mMem) (Q : Option mV → mSh → mMem → Prop) : Prop := WP PR d 166 0 [vA 200, vL a1, vU] [] S M Q
set_option maxRecDepth 100000 in
theorem b_X9_isWord_0 {d : Nat} {S : mSh} {M : mMem} {Q : Option mV → mSh → mMem → Prop} {x1 : Int} (L : Lay S) (kt : ¬ M 200 16 = 1 → WP PR d 166 21 [vA 200, vL x1, vU] [] S M Q) (kf : M 200 16 = 1 → WP PR d 166 8 [vA 200, vL x1, vU] [] S M Q) : WP PR d 166 0 [vA 200, vL x1, vU] [] S M Q := by
  refine WP.if2 3 8 5 .ne 16 (0, 0, 0, 0) 21 rfl rfl ?_
  exact And.intro (lo200 L) (⟨kt, fun hc => kf (Decidable.not_not.mp hc)⟩)
set_option maxRecDepth 100000 in
theorem b_X9_isWord_8 {d : Nat} {S : mSh} {M : mMem} {Q : Option mV → mSh → mMem → Prop} {x1 : Int} (L : Lay S) (kt : ¬ (M 200 17) = x1 → WP PR d 166 21 [vA 200, vL x1, vU] [] S M Q) (kf : (M 200 17) = x1 → WP PR d 166 17 [vA 200, vL x1, vU] [] S M Q) : WP PR d 166 8 [vA 200, vL x1, vU] [] S M Q := by
  refine WP.if0 4 17 14 .ne 7 (0, 0, 0, 0) 21 rfl rfl ?_
  exact And.intro (lo200 L) (⟨fun hc => kt (fun e => hc (lcp_eq.mpr e)), fun hc => kf (lcp_eq.mp (Decidable.not_not.mp hc))⟩)
set_option maxRecDepth 100000 in
theorem b_X9_isWord_17 {d : Nat} {S : mSh} {M : mMem} {Q : Option mV → mSh → mMem → Prop} {x1 : Int} (k : Q (some (vI 1)) S M) : WP PR d 166 17 [vA 200, vL x1, vU] [] S M Q := by
  refine WP.gt 1 18 4 (0, 0, 0, 0) _ 22 rfl rfl ?_
  show WP PR d 166 22 [vA 200, vL x1, vU] [vI 1] S M Q
  refine WP.re 0 22 .ireturn (0, 0, 0, 0) _ rfl ?_
  exact ⟨rfl, rfl, Or.inr rfl, k⟩
set_option maxRecDepth 100000 in
theorem b_X9_isWord_21 {d : Nat} {S : mSh} {M : mMem} {Q : Option mV → mSh → mMem → Prop} {x1 : Int} (k : Q (some (vI 0)) S M) : WP PR d 166 21 [vA 200, vL x1, vU] [] S M Q := by
  refine WP.re 1 22 .ireturn (0, 0, 0, 0) _ rfl ?_
  exact ⟨rfl, rfl, Or.inl rfl, k⟩
