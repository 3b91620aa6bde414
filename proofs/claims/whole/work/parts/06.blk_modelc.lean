/-- SoleraCellarModel.law()I -/
abbrev e_X9_law (d : Nat) (S : mSh) (M : mMem) (Q : Option mV → mSh → mMem → Prop) : Prop := WP PR d 189 0 [vA 200, vU, vU] [] S M Q
set_option maxRecDepth 100000 in
theorem b_X9_law_0 {d : Nat} {S : mSh} {M : mMem} {Q : Option mV → mSh → mMem → Prop} (L : Lay S) (kt : ¬ M 202 2 = 6 → WP PR d 189 28 [vA 200, vU, vU] [] S (up M 200 0 0) Q) (kf : M 202 2 = 6 → WP PR d 189 16 [vA 200, vU, vU] [] S (up M 200 0 0) Q) : WP PR d 189 0 [vA 200, vU, vU] [] S M Q := by
  refine WP.if2 8 16 13 .ne 15 (0, 0, 0, 0) 28 rfl rfl ?_
  exact And.intro (lo200 L) (And.intro (⟨lo200 L, lf200_3 L⟩) (And.intro (inA_of (lo202 L) (ll202 L) (by decide)) (⟨kt, fun hc => kf (Decidable.not_not.mp hc)⟩)))
set_option maxRecDepth 100000 in
theorem b_X9_law_16 {d : Nat} {S : mSh} {M : mMem} {Q : Option mV → mSh → mMem → Prop} {u1 u2 : mV} (L : Lay S) (k : WP PR d 135 0 [vA 200, vI (-5)] [] S (up M 200 13 0) (fun r S2 M2 => WP PR (d + 1) 189 27 [vA 200, u1, u2] (r.toList ++ []) S2 M2 Q)) : WP PR (d + 1) 189 16 [vA 200, u1, u2] [] S M Q := by
  refine WP.ca 5 27 24 (.invokevirtual 142) (0, 135, 0, 0) rfl ?_
  exact And.intro (lo200 L) (⟨rfl, rfl, rfl, lo200 L, rfl, k⟩)
set_option maxRecDepth 100000 in
theorem b_X9_law_27 {d : Nat} {S : mSh} {M : mMem} {Q : Option mV → mSh → mMem → Prop} {s0 : Int} {u1 u2 : mV} (k : Q (some (vI s0)) S M) : WP PR d 189 27 [vA 200, u1, u2] [vI s0] S M Q := by
  refine WP.re 0 27 .ireturn (0, 0, 0, 0) _ rfl ?_
  exact ⟨rfl, rfl, trivial, k⟩
set_option maxRecDepth 100000 in
theorem b_X9_law_28 {d : Nat} {S : mSh} {M : mMem} {Q : Option mV → mSh → mMem → Prop} {u1 u2 : mV} (L : Lay S) (k : WP PR d 186 0 [vA 200, vI 0] [] S M (fun r S2 M2 => WP PR (d + 1) 189 33 [vA 200, u1, u2] (r.toList ++ []) S2 M2 Q)) : WP PR (d + 1) 189 28 [vA 200, u1, u2] [] S M Q := by
  refine WP.ca 2 33 30 (.invokevirtual 362) (0, 186, 0, 0) rfl ?_
  exact ⟨rfl, rfl, rfl, lo200 L, rfl, k⟩
set_option maxRecDepth 100000 in
theorem b_X9_law_33 {d : Nat} {S : mSh} {M : mMem} {Q : Option mV → mSh → mMem → Prop} {u1 u2 : mV} (L : Lay S) (k : WP PR d 188 0 [vA 200, vU, vU, vU] [] S M (fun r S2 M2 => WP PR (d + 1) 189 37 [vA 200, u1, u2] (r.toList ++ []) S2 M2 Q)) : WP PR (d + 1) 189 33 [vA 200, u1, u2] [] S M Q := by
  refine WP.ca 1 37 34 (.invokevirtual 365) (0, 188, 0, 0) rfl ?_
  exact ⟨rfl, rfl, rfl, lo200 L, rfl, k⟩
set_option maxRecDepth 100000 in
theorem b_X9_law_37 {d : Nat} {S : mSh} {M : mMem} {Q : Option mV → mSh → mMem → Prop} {u1 u2 : mV} (L : Lay S) (kt : ¬ M 200 19 = 0 → WP PR d 189 64 [vA 200, u1, u2] [] S M Q) (kf : M 200 19 = 0 → WP PR d 189 44 [vA 200, u1, u2] [] S M Q) : WP PR d 189 37 [vA 200, u1, u2] [] S M Q := by
  refine WP.if0 2 44 41 .ne 23 (0, 0, 0, 0) 64 rfl rfl ?_
  exact And.intro (lo200 L) (⟨kt, fun hc => kf (Decidable.not_not.mp hc)⟩)
set_option maxRecDepth 100000 in
theorem b_X9_law_44 {d : Nat} {S : mSh} {M : mMem} {Q : Option mV → mSh → mMem → Prop} {u1 u2 : mV} (L : Lay S) (k : WP PR d 167 0 [vA 200, vI 59] [] S M (fun r S2 M2 => WP PR (d + 1) 189 50 [vA 200, u1, u2] (r.toList ++ []) S2 M2 Q)) : WP PR (d + 1) 189 44 [vA 200, u1, u2] [] S M Q := by
  refine WP.ca 2 50 47 (.invokevirtual 296) (0, 167, 0, 0) rfl ?_
  exact ⟨rfl, rfl, rfl, lo200 L, rfl, k⟩
set_option maxRecDepth 100000 in
theorem b_X9_law_50 {d : Nat} {S : mSh} {M : mMem} {Q : Option mV → mSh → mMem → Prop} {s0 : Int} {u1 u2 : mV} (kt : s0 = 0 → WP PR d 189 64 [vA 200, u1, u2] [] S M Q) (kf : ¬ s0 = 0 → WP PR d 189 53 [vA 200, u1, u2] [] S M Q) : WP PR d 189 50 [vA 200, u1, u2] [vI s0] S M Q := by
  refine WP.if0 0 53 50 .eq 14 (0, 0, 0, 0) 64 rfl rfl ?_
  exact ⟨kt, fun hc => kf hc⟩
set_option maxRecDepth 100000 in
theorem b_X9_law_53 {d : Nat} {S : mSh} {M : mMem} {Q : Option mV → mSh → mMem → Prop} {u1 u2 : mV} (L : Lay S) (k : WP PR d 165 0 [vA 200] [] S M (fun r S2 M2 => WP PR (d + 1) 189 57 [vA 200, u1, u2] (r.toList ++ []) S2 M2 Q)) : WP PR (d + 1) 189 53 [vA 200, u1, u2] [] S M Q := by
  refine WP.ca 1 57 54 (.invokevirtual 233) (0, 165, 0, 0) rfl ?_
  exact ⟨rfl, rfl, rfl, lo200 L, rfl, k⟩
set_option maxRecDepth 100000 in
theorem b_X9_law_57 {d : Nat} {S : mSh} {M : mMem} {Q : Option mV → mSh → mMem → Prop} {u1 u2 : mV} (L : Lay S) (k : WP PR d 188 0 [vA 200, vU, vU, vU] [] S M (fun r S2 M2 => WP PR (d + 1) 189 61 [vA 200, u1, u2] (r.toList ++ []) S2 M2 Q)) : WP PR (d + 1) 189 57 [vA 200, u1, u2] [] S M Q := by
  refine WP.ca 1 61 58 (.invokevirtual 365) (0, 188, 0, 0) rfl ?_
  exact ⟨rfl, rfl, rfl, lo200 L, rfl, k⟩
set_option maxRecDepth 100000 in
theorem b_X9_law_61 {d : Nat} {S : mSh} {M : mMem} {Q : Option mV → mSh → mMem → Prop} {u1 u2 : mV} (k : WP PR d 189 37 [vA 200, u1, u2] [] S M Q) : WP PR d 189 61 [vA 200, u1, u2] [] S M Q := by
  refine WP.gt 0 61 (-24) (0, 0, 0, 0) _ 37 rfl rfl ?_
  exact k
set_option maxRecDepth 100000 in
theorem b_X9_law_64 {d : Nat} {S : mSh} {M : mMem} {Q : Option mV → mSh → mMem → Prop} {u1 u2 : mV} (L : Lay S) (k : WP PR d 187 0 [vA 200] [] S M (fun r S2 M2 => WP PR (d + 1) 189 68 [vA 200, u1, u2] (r.toList ++ []) S2 M2 Q)) : WP PR (d + 1) 189 64 [vA 200, u1, u2] [] S M Q := by
  refine WP.ca 1 68 65 (.invokevirtual 368) (0, 187, 0, 0) rfl ?_
  exact ⟨rfl, rfl, rfl, lo200 L, rfl, k⟩
set_option maxRecDepth 100000 in
theorem b_X9_law_68 {d : Nat} {S : mSh} {M : mMem} {Q : Option mV → mSh → mMem → Prop} {u1 u2 : mV} (L : Lay S) (kt : M 200 19 = 0 → WP PR d 189 82 [vA 200, u1, u2] [] S M Q) (kf : ¬ M 200 19 = 0 → WP PR d 189 75 [vA 200, u1, u2] [] S M Q) : WP PR d 189 68 [vA 200, u1, u2] [] S M Q := by
  refine WP.if0 2 75 72 .eq 10 (0, 0, 0, 0) 82 rfl rfl ?_
  exact And.intro (lo200 L) (⟨kt, fun hc => kf hc⟩)
set_option maxRecDepth 100000 in
theorem b_X9_law_75 {d : Nat} {S : mSh} {M : mMem} {Q : Option mV → mSh → mMem → Prop} {u1 u2 : mV} (L : Lay S) (k : WP PR d 135 0 [vA 200, vI (-6)] [] S M (fun r S2 M2 => WP PR (d + 1) 189 81 [vA 200, u1, u2] (r.toList ++ []) S2 M2 Q)) : WP PR (d + 1) 189 75 [vA 200, u1, u2] [] S M Q := by
  refine WP.ca 2 81 78 (.invokevirtual 142) (0, 135, 0, 0) rfl ?_
  exact ⟨rfl, rfl, rfl, lo200 L, rfl, k⟩
set_option maxRecDepth 100000 in
theorem b_X9_law_81 {d : Nat} {S : mSh} {M : mMem} {Q : Option mV → mSh → mMem → Prop} {s0 : Int} {u1 u2 : mV} (k : Q (some (vI s0)) S M) : WP PR d 189 81 [vA 200, u1, u2] [vI s0] S M Q := by
  refine WP.re 0 81 .ireturn (0, 0, 0, 0) _ rfl ?_
  exact ⟨rfl, rfl, trivial, k⟩
set_option maxRecDepth 100000 in
theorem b_X9_law_82 {d : Nat} {S : mSh} {M : mMem} {Q : Option mV → mSh → mMem → Prop} {u1 u2 : mV} (L : Lay S) (hc : R32 (900 * (M 202 2)) ∧ R32 (3990 + (900 * (M 202 2))) ∧ R32 ((3990 + (900 * (M 202 2))) + 1) ∧ (0 ≤ (3990 + (900 * (M 202 2))) + 1 ∧ (3990 + (900 * (M 202 2))) + 1 < 9390)) (k : WP PR d 189 111 [vA 200, vI (3990 + (900 * (M 202 2))), vI 0] [] S (up M 202 ((3990 + (900 * (M 202 2))) + 1) (M 200 21)) Q) : WP PR d 189 82 [vA 200, u1, u2] [] S M Q := by
  refine WP.bl 19 111 rfl ?_
  exact And.intro (⟨lo200 L, lf200_3 L⟩) (And.intro (inA_of (lo202 L) (ll202 L) (by decide)) (And.intro (hc.1) (And.intro (hc.2.1) (And.intro (⟨lo200 L, lf200_3 L⟩) (And.intro (hc.2.2.1) (And.intro (lo200 L) (And.intro (inA_of (lo202 L) (ll202 L) hc.2.2.2) (k))))))))
set_option maxRecDepth 100000 in
theorem b_X9_law_111 {d : Nat} {S : mSh} {M : mMem} {Q : Option mV → mSh → mMem → Prop} {x1 x2 : Int} (L : Lay S) (hc : R32 (8 * (M 200 21))) (kt : 8 * (M 200 21) ≤ x2 → WP PR d 189 144 [vA 200, vI x1, vI x2] [] S M Q) (kf : x2 < 8 * (M 200 21) → WP PR d 189 122 [vA 200, vI x1, vI x2] [] S M Q) : WP PR d 189 111 [vA 200, vI x1, vI x2] [] S M Q := by
  refine WP.if2 5 122 119 .ge 25 (0, 0, 0, 0) 144 rfl rfl ?_
  exact And.intro (lo200 L) (And.intro (hc) (⟨kt, fun hc => kf (Int.not_le.mp hc)⟩))
set_option maxRecDepth 100000 in
theorem b_X9_law_122 {d : Nat} {S : mSh} {M : mMem} {Q : Option mV → mSh → mMem → Prop} {x1 x2 : Int} (L : Lay S) (hc : R32 (x1 + 2) ∧ R32 ((x1 + 2) + x2) ∧ (0 ≤ x2 ∧ x2 < 96) ∧ (0 ≤ (x1 + 2) + x2 ∧ (x1 + 2) + x2 < 9390) ∧ R32 (x2 + 1)) (k : WP PR d 189 111 [vA 200, vI x1, vI (x2 + 1)] [] S (up M 202 ((x1 + 2) + x2) (M 210 x2)) Q) : WP PR d 189 122 [vA 200, vI x1, vI x2] [] S M Q := by
  refine WP.gt 13 141 (-30) (0, 0, 0, 0) _ 111 rfl rfl ?_
  exact And.intro (⟨lo200 L, lf200_3 L⟩) (And.intro (hc.1) (And.intro (hc.2.1) (And.intro (⟨lo200 L, lf200_22 L⟩) (And.intro (inA_of (lo210 L) (ll210 L) hc.2.2.1) (And.intro (inA_of (lo202 L) (ll202 L) hc.2.2.2.1) (And.intro (hc.2.2.2.2) (k)))))))
set_option maxRecDepth 100000 in
theorem b_X9_law_144 {d : Nat} {S : mSh} {M : mMem} {Q : Option mV → mSh → mMem → Prop} {x1 x2 : Int} (k : WP PR d 189 146 [vA 200, vI x1, vI 0] [] S M Q) : WP PR d 189 144 [vA 200, vI x1, vI x2] [] S M Q := by
  refine WP.bl 2 146 rfl ?_
  exact k
set_option maxRecDepth 100000 in
theorem b_X9_law_146 {d : Nat} {S : mSh} {M : mMem} {Q : Option mV → mSh → mMem → Prop} {x1 x2 : Int} (L : Lay S) (kt : M 200 23 ≤ x2 → WP PR d 189 200 [vA 200, vI x1, vI x2] [] S M Q) (kf : x2 < M 200 23 → WP PR d 189 154 [vA 200, vI x1, vI x2] [] S M Q) : WP PR d 189 146 [vA 200, vI x1, vI x2] [] S M Q := by
  refine WP.if2 3 154 151 .ge 49 (0, 0, 0, 0) 200 rfl rfl ?_
  exact And.intro (lo200 L) (⟨kt, fun hc => kf (Int.not_le.mp hc)⟩)
set_option maxRecDepth 100000 in
theorem b_X9_law_154 {d : Nat} {S : mSh} {M : mMem} {Q : Option mV → mSh → mMem → Prop} {x1 x2 : Int} (L : Lay S) (hc : R32 (x1 + 98) ∧ R32 (2 * x2) ∧ R32 ((x1 + 98) + (2 * x2)) ∧ (0 ≤ x2 ∧ x2 < 400) ∧ (0 ≤ (x1 + 98) + (2 * x2) ∧ (x1 + 98) + (2 * x2) < 9390) ∧ R32 (((x1 + 98) + (2 * x2)) + 1) ∧ (0 ≤ ((x1 + 98) + (2 * x2)) + 1 ∧ ((x1 + 98) + (2 * x2)) + 1 < 9390) ∧ R32 (x2 + 1)) (k : WP PR d 189 146 [vA 200, vI x1, vI (x2 + 1)] [] S (up (up M 202 ((x1 + 98) + (2 * x2)) (M 211 x2)) 202 (((x1 + 98) + (2 * x2)) + 1) (M 212 x2)) Q) : WP PR d 189 154 [vA 200, vI x1, vI x2] [] S M Q := by
  refine WP.gt 31 197 (-51) (0, 0, 0, 0) _ 146 rfl rfl ?_
  exact And.intro (⟨lo200 L, lf200_3 L⟩) (And.intro (hc.1) (And.intro (hc.2.1) (And.intro (hc.2.2.1) (And.intro (⟨lo200 L, lf200_24 L⟩) (And.intro (inA_of (lo211 L) (ll211 L) hc.2.2.2.1) (And.intro (inA_of (lo202 L) (ll202 L) hc.2.2.2.2.1) (And.intro (⟨lo200 L, lf200_3 L⟩) (And.intro (hc.1) (And.intro (hc.2.1) (And.intro (hc.2.2.1) (And.intro (hc.2.2.2.2.2.1) (And.intro (⟨lo200 L, lf200_25 L⟩) (And.intro (inA_of (lo212 L) (ll212 L) hc.2.2.2.1) (And.intro (inA_of (lo202 L) (ll202 L) hc.2.2.2.2.2.2.1) (And.intro (hc.2.2.2.2.2.2.2) (k))))))))))))))))
set_option maxRecDepth 100000 in
theorem b_X9_law_200 {d : Nat} {S : mSh} {M : mMem} {Q : Option mV → mSh → mMem → Prop} {x1 x2 : Int} (L : Lay S) (hc : R32 ((M 202 2) + 1) ∧ R32 (((M 202 2) + 1) - 1)) (k : WP PR d 135 0 [vA 200, vI (((M 202 2) + 1) - 1)] [] S (up M 202 2 ((M 202 2) + 1)) (fun r S2 M2 => WP PR (d + 1) 189 222 [vA 200, vI x1, vI x2] (r.toList ++ []) S2 M2 Q)) : WP PR (d + 1) 189 200 [vA 200, vI x1, vI x2] [] S M Q := by
  refine WP.ca 15 222 219 (.invokevirtual 142) (0, 135, 0, 0) rfl ?_
  exact And.intro (⟨lo200 L, lf200_3 L⟩) (And.intro (inA_of (lo202 L) (ll202 L) (by decide)) (And.intro (hc.1) (And.intro (inA_of (lo202 L) (ll202 L) (by decide)) (And.intro (⟨lo200 L, lf200_3 L⟩) (And.intro (inA_of (lo202 L) (ll202 L) (by decide)) (And.intro (hc.2) (⟨rfl, rfl, rfl, lo200 L, rfl, k⟩)))))))
set_option maxRecDepth 100000 in
theorem b_X9_law_222 {d : Nat} {S : mSh} {M : mMem} {Q : Option mV → mSh → mMem → Prop} {x1 x2 s0 : Int} (k : Q (some (vI s0)) S M) : WP PR d 189 222 [vA 200, vI x1, vI x2] [vI s0] S M Q := by
  refine WP.re 0 222 .ireturn (0, 0, 0, 0) _ rfl ?_
  exact ⟨rfl, rfl, trivial, k⟩
/-- SoleraCellarModel.isLaw(I)Z -/
abbrev e_X9_isLaw (d : Nat) (a1 : Int) (S : mSh) (M : mMem) (Q : Option mV → mSh → mMem → Prop) : Prop := WP PR d 190 0 [vA 200, vI a1] [] S M Q
set_option maxRecDepth 100000 in
theorem b_X9_isLaw_0 {d : Nat} {S : mSh} {M : mMem} {Q : Option mV → mSh → mMem → Prop} {x1 : Int} (kt : x1 = (-1) → WP PR d 190 23 [vA 200, vI x1] [] S M Q) (kf : ¬ x1 = (-1) → WP PR d 190 5 [vA 200, vI x1] [] S M Q) : WP PR d 190 0 [vA 200, vI x1] [] S M Q := by
  refine WP.if2 2 5 2 .eq 21 (0, 0, 0, 0) 23 rfl rfl ?_
  exact ⟨kt, fun hc => kf hc⟩
set_option maxRecDepth 100000 in
theorem b_X9_isLaw_5 {d : Nat} {S : mSh} {M : mMem} {Q : Option mV → mSh → mMem → Prop} {x1 : Int} (L : Lay S) (hc : R64 ((M 202 2) - 1)) (k : WP PR d 132 0 [vL x1, vU, vL 0, vU, vL ((M 202 2) - 1), vU] [] S M (fun r S2 M2 => WP PR (d + 1) 190 20 [vA 200, vI x1] (r.toList ++ []) S2 M2 Q)) : WP PR (d + 1) 190 5 [vA 200, vI x1] [] S M Q := by
  refine WP.ca 10 20 17 (.invokestatic 153) (0, 132, 0, 0) rfl ?_
  exact And.intro (⟨lo200 L, lf200_3 L⟩) (And.intro (inA_of (lo202 L) (ll202 L) (by decide)) (And.intro (hc) (⟨rfl, rfl, rfl, trivial, rfl, k⟩)))
set_option maxRecDepth 100000 in
theorem b_X9_isLaw_20 {d : Nat} {S : mSh} {M : mMem} {Q : Option mV → mSh → mMem → Prop} {x1 s0 : Int} (kt : s0 = 0 → WP PR d 190 27 [vA 200, vI x1] [] S M Q) (kf : ¬ s0 = 0 → WP PR d 190 23 [vA 200, vI x1] [] S M Q) : WP PR d 190 20 [vA 200, vI x1] [vI s0] S M Q := by
  refine WP.if0 0 23 20 .eq 7 (0, 0, 0, 0) 27 rfl rfl ?_
  exact ⟨kt, fun hc => kf hc⟩
set_option maxRecDepth 100000 in
theorem b_X9_isLaw_23 {d : Nat} {S : mSh} {M : mMem} {Q : Option mV → mSh → mMem → Prop} {x1 : Int} (k : Q (some (vI 1)) S M) : WP PR d 190 23 [vA 200, vI x1] [] S M Q := by
  refine WP.gt 1 24 4 (0, 0, 0, 0) _ 28 rfl rfl ?_
  show WP PR d 190 28 [vA 200, vI x1] [vI 1] S M Q
  refine WP.re 0 28 .ireturn (0, 0, 0, 0) _ rfl ?_
  exact ⟨rfl, rfl, Or.inr rfl, k⟩
set_option maxRecDepth 100000 in
theorem b_X9_isLaw_27 {d : Nat} {S : mSh} {M : mMem} {Q : Option mV → mSh → mMem → Prop} {x1 : Int} (k : Q (some (vI 0)) S M) : WP PR d 190 27 [vA 200, vI x1] [] S M Q := by
  refine WP.re 1 28 .ireturn (0, 0, 0, 0) _ rfl ?_
  exact ⟨rfl, rfl, Or.inl rfl, k⟩
/-- SoleraCellarModel.force(I)I -/
abbrev e_X9_force (d : Nat) (a1 : Int) (S : mSh) (M : mMem) (Q : Option mV → mSh → mMem → Prop) : Prop := WP PR d 191 0 [vA 200, vI a1] [] S M Q
set_option maxRecDepth 100000 in
theorem b_X9_force_0 {d : Nat} {S : mSh} {M : mMem} {Q : Option mV → mSh → mMem → Prop} {x1 : Int} (L : Lay S) (k : WP PR d 190 0 [vA 200, vI x1] [] S (up M 200 0 0) (fun r S2 M2 => WP PR (d + 1) 191 10 [vA 200, vI x1] (r.toList ++ []) S2 M2 Q)) : WP PR (d + 1) 191 0 [vA 200, vI x1] [] S M Q := by
  refine WP.ca 5 10 7 (.invokevirtual 371) (0, 190, 0, 0) rfl ?_
  exact And.intro (lo200 L) (⟨rfl, rfl, rfl, lo200 L, rfl, k⟩)
set_option maxRecDepth 100000 in
theorem b_X9_force_10 {d : Nat} {S : mSh} {M : mMem} {Q : Option mV → mSh → mMem → Prop} {x1 s0 : Int} (kt : s0 = 0 → WP PR d 191 22 [vA 200, vI x1] [] S M Q) (kf : ¬ s0 = 0 → WP PR d 191 13 [vA 200, vI x1] [] S M Q) : WP PR d 191 10 [vA 200, vI x1] [vI s0] S M Q := by
  refine WP.if0 0 13 10 .eq 12 (0, 0, 0, 0) 22 rfl rfl ?_
  exact ⟨kt, fun hc => kf hc⟩
set_option maxRecDepth 100000 in
theorem b_X9_force_13 {d : Nat} {S : mSh} {M : mMem} {Q : Option mV → mSh → mMem → Prop} {x1 : Int} (L : Lay S) (k : WP PR d 136 0 [vA 200, vI 4, vI x1, vU] [] S M (fun r S2 M2 => WP PR (d + 1) 191 19 [vA 200, vI x1] (r.toList ++ []) S2 M2 Q)) : WP PR (d + 1) 191 13 [vA 200, vI x1] [] S M Q := by
  refine WP.ca 3 19 16 (.invokevirtual 214) (0, 136, 0, 0) rfl ?_
  exact ⟨rfl, rfl, rfl, lo200 L, rfl, k⟩
set_option maxRecDepth 100000 in
theorem b_X9_force_19 {d : Nat} {S : mSh} {M : mMem} {Q : Option mV → mSh → mMem → Prop} {x1 s0 : Int} (k : Q (some (vI s0)) S M) : WP PR d 191 19 [vA 200, vI x1] [vI s0] S M Q := by
  refine WP.gt 0 19 9 (0, 0, 0, 0) _ 28 rfl rfl ?_
  show WP PR d 191 28 [vA 200, vI x1] [vI s0] S M Q
  refine WP.re 0 28 .ireturn (0, 0, 0, 0) _ rfl ?_
  exact ⟨rfl, rfl, trivial, k⟩
set_option maxRecDepth 100000 in
theorem b_X9_force_22 {d : Nat} {S : mSh} {M : mMem} {Q : Option mV → mSh → mMem → Prop} {x1 : Int} (L : Lay S) (k : WP PR d 135 0 [vA 200, vI (-2)] [] S M (fun r S2 M2 => WP PR (d + 1) 191 28 [vA 200, vI x1] (r.toList ++ []) S2 M2 Q)) : WP PR (d + 1) 191 22 [vA 200, vI x1] [] S M Q := by
  refine WP.ca 2 28 25 (.invokevirtual 142) (0, 135, 0, 0) rfl ?_
  exact ⟨rfl, rfl, rfl, lo200 L, rfl, k⟩
set_option maxRecDepth 100000 in
theorem b_X9_force_28 {d : Nat} {S : mSh} {M : mMem} {Q : Option mV → mSh → mMem → Prop} {x1 s0 : Int} (k : Q (some (vI s0)) S M) : WP PR d 191 28 [vA 200, vI x1] [vI s0] S M Q := by
  refine WP.re 0 28 .ireturn (0, 0, 0, 0) _ rfl ?_
  exact ⟨rfl, rfl, trivial, k⟩
/-- SoleraCellarModel.factOf(II)J -/
abbrev e_X9_factOf (d : Nat) (a1 a2 : Int) (S : mSh) (M : mMem) (Q : Option mV → mSh → mMem → Prop) : Prop := WP PR d 192 0 [vA 200, vI a1, vI a2] [] S M Q
set_option maxRecDepth 100000 in
theorem b_X9_factOf_0 {d : Nat} {S : mSh} {M : mMem} {Q : Option mV → mSh → mMem → Prop} {x1 x2 : Int} (L : Lay S) (k : WP PR d 144 0 [vA 200, vI x2] [] S M (fun r S2 M2 => WP PR (d + 1) 192 5 [vA 200, vI x1, vI x2] (r.toList ++ []) S2 M2 Q)) : WP PR (d + 1) 192 0 [vA 200, vI x1, vI x2] [] S M Q := by
  refine WP.ca 2 5 2 (.invokevirtual 184) (0, 144, 0, 0) rfl ?_
  exact ⟨rfl, rfl, rfl, lo200 L, rfl, k⟩
set_option maxRecDepth 100000 in
theorem b_X9_factOf_5 {d : Nat} {S : mSh} {M : mMem} {Q : Option mV → mSh → mMem → Prop} {x1 x2 s0 : Int} (kt : ¬ s0 = 0 → WP PR d 192 12 [vA 200, vI x1, vI x2] [] S M Q) (kf : s0 = 0 → WP PR d 192 8 [vA 200, vI x1, vI x2] [] S M Q) : WP PR d 192 5 [vA 200, vI x1, vI x2] [vI s0] S M Q := by
  refine WP.if0 0 8 5 .ne 7 (0, 0, 0, 0) 12 rfl rfl ?_
  exact ⟨kt, fun hc => kf (Decidable.not_not.mp hc)⟩
set_option maxRecDepth 100000 in
theorem b_X9_factOf_8 {d : Nat} {S : mSh} {M : mMem} {Q : Option mV → mSh → mMem → Prop} {x1 x2 : Int} (k : Q (some (vL (-1))) S M) : WP PR d 192 8 [vA 200, vI x1, vI x2] [] S M Q := by
  refine WP.re 1 11 .lreturn (0, 0, 0, 0) _ rfl ?_
  exact ⟨rfl, rfl, trivial, k⟩
set_option maxRecDepth 100000 in
theorem b_X9_factOf_12 {d : Nat} {S : mSh} {M : mMem} {Q : Option mV → mSh → mMem → Prop} {x1 x2 : Int} (kt : ¬ x1 = 5 → WP PR d 192 30 [vA 200, vI x1, vI x2] [] S M Q) (kf : x1 = 5 → WP PR d 192 17 [vA 200, vI x1, vI x2] [] S M Q) : WP PR d 192 12 [vA 200, vI x1, vI x2] [] S M Q := by
  refine WP.if2 2 17 14 .ne 16 (0, 0, 0, 0) 30 rfl rfl ?_
  exact ⟨kt, fun hc => kf (Decidable.not_not.mp hc)⟩
set_option maxRecDepth 100000 in
theorem b_X9_factOf_17 {d : Nat} {S : mSh} {M : mMem} {Q : Option mV → mSh → mMem → Prop} {x1 x2 : Int} (L : Lay S) (k : WP PR d 146 0 [vA 200, vI x2, vU, vU] [] S M (fun r S2 M2 => WP PR (d + 1) 192 22 [vA 200, vI x1, vI x2] (r.toList ++ []) S2 M2 Q)) : WP PR (d + 1) 192 17 [vA 200, vI x1, vI x2] [] S M Q := by
  refine WP.ca 2 22 19 (.invokevirtual 166) (0, 146, 0, 0) rfl ?_
  exact ⟨rfl, rfl, rfl, lo200 L, rfl, k⟩
set_option maxRecDepth 100000 in
theorem b_X9_factOf_22 {d : Nat} {S : mSh} {M : mMem} {Q : Option mV → mSh → mMem → Prop} {x1 x2 s0 : Int} (hc : R32 (s0.tdiv 1000)) (k : Q (some (vL (s0.tdiv 1000))) S M) : WP PR d 192 22 [vA 200, vI x1, vI x2] [vI s0] S M Q := by
  refine WP.gt 3 27 28 (0, 0, 0, 0) _ 55 rfl rfl ?_
  refine And.intro (⟨by decide, hc⟩) (?_)
  show WP PR d 192 55 [vA 200, vI x1, vI x2] [vL (s0.tdiv 1000)] S M Q
  refine WP.re 0 55 .lreturn (0, 0, 0, 0) _ rfl ?_
  exact ⟨rfl, rfl, trivial, k⟩
set_option maxRecDepth 100000 in
theorem b_X9_factOf_30 {d : Nat} {S : mSh} {M : mMem} {Q : Option mV → mSh → mMem → Prop} {x1 x2 : Int} (kt : ¬ x1 = 6 → WP PR d 192 49 [vA 200, vI x1, vI x2] [] S M Q) (kf : x1 = 6 → WP PR d 192 36 [vA 200, vI x1, vI x2] [] S M Q) : WP PR d 192 30 [vA 200, vI x1, vI x2] [] S M Q := by
  refine WP.if2 2 36 33 .ne 16 (0, 0, 0, 0) 49 rfl rfl ?_
  exact ⟨kt, fun hc => kf (Decidable.not_not.mp hc)⟩
set_option maxRecDepth 100000 in
theorem b_X9_factOf_36 {d : Nat} {S : mSh} {M : mMem} {Q : Option mV → mSh → mMem → Prop} {x1 x2 : Int} (L : Lay S) (k : WP PR d 151 0 [vA 200, vI x2] [] S M (fun r S2 M2 => WP PR (d + 1) 192 41 [vA 200, vI x1, vI x2] (r.toList ++ []) S2 M2 Q)) : WP PR (d + 1) 192 36 [vA 200, vI x1, vI x2] [] S M Q := by
  refine WP.ca 2 41 38 (.invokevirtual 374) (0, 151, 0, 0) rfl ?_
  exact ⟨rfl, rfl, rfl, lo200 L, rfl, k⟩
set_option maxRecDepth 100000 in
theorem b_X9_factOf_41 {d : Nat} {S : mSh} {M : mMem} {Q : Option mV → mSh → mMem → Prop} {x1 x2 s0 : Int} (hc : R32 (s0.tdiv 1000)) (k : Q (some (vL (s0.tdiv 1000))) S M) : WP PR d 192 41 [vA 200, vI x1, vI x2] [vI s0] S M Q := by
  refine WP.gt 3 46 9 (0, 0, 0, 0) _ 55 rfl rfl ?_
  refine And.intro (⟨by decide, hc⟩) (?_)
  show WP PR d 192 55 [vA 200, vI x1, vI x2] [vL (s0.tdiv 1000)] S M Q
  refine WP.re 0 55 .lreturn (0, 0, 0, 0) _ rfl ?_
  exact ⟨rfl, rfl, trivial, k⟩
set_option maxRecDepth 100000 in
theorem b_X9_factOf_49 {d : Nat} {S : mSh} {M : mMem} {Q : Option mV → mSh → mMem → Prop} {x1 x2 : Int} (L : Lay S) (k : WP PR d 148 0 [vA 200, vI x2, vU] [] S M (fun r S2 M2 => WP PR (d + 1) 192 54 [vA 200, vI x1, vI x2] (r.toList ++ []) S2 M2 Q)) : WP PR (d + 1) 192 49 [vA 200, vI x1, vI x2] [] S M Q := by
  refine WP.ca 2 54 51 (.invokevirtual 377) (0, 148, 0, 0) rfl ?_
  exact ⟨rfl, rfl, rfl, lo200 L, rfl, k⟩
set_option maxRecDepth 100000 in
theorem b_X9_factOf_54 {d : Nat} {S : mSh} {M : mMem} {Q : Option mV → mSh → mMem → Prop} {x1 x2 s0 : Int} (k : Q (some (vL s0)) S M) : WP PR d 192 54 [vA 200, vI x1, vI x2] [vI s0] S M Q := by
  refine WP.re 1 55 .lreturn (0, 0, 0, 0) _ rfl ?_
  exact ⟨rfl, rfl, trivial, k⟩
/-- SoleraCellarModel.reckon(IJJ)J -/
abbrev e_X9_reckon (d : Nat) (a1 a2 a3 : Int) (S : mSh) (M : mMem) (Q : Option mV → mSh → mMem → Prop) : Prop := WP PR d 193 0 [vA 200, vI a1, vL a2, vU, vL a3, vU] [] S M Q
set_option maxRecDepth 100000 in
theorem b_X9_reckon_0 {d : Nat} {S : mSh} {M : mMem} {Q : Option mV → mSh → mMem → Prop} {x1 x2 x4 : Int} (k : WP PR d 193 (swT 1 x1 148 20 26 [43, 48, 53, 58, 90, 122, 135]) [vA 200, vI x1, vL x2, vU, vL x4, vU] [] S M Q) : WP PR d 193 0 [vA 200, vI x1, vL x2, vU, vL x4, vU] [] S M Q := by
  refine WP.sw 1 1 148 20 26 #[43, 48, 53, 58, 90, 122, 135] (0, 0, 0, 0) _ rfl ?_
  exact k
set_option maxRecDepth 100000 in
theorem b_X9_reckon_44 {d : Nat} {S : mSh} {M : mMem} {Q : Option mV → mSh → mMem → Prop} {x1 x2 x4 : Int} (hc : R64 (x2 + x4)) (k : Q (some (vL (x2 + x4))) S M) : WP PR d 193 44 [vA 200, vI x1, vL x2, vU, vL x4, vU] [] S M Q := by
  refine WP.re 3 48 .lreturn (0, 0, 0, 0) _ rfl ?_
  exact And.intro (hc) (⟨rfl, rfl, trivial, k⟩)
set_option maxRecDepth 100000 in
theorem b_X9_reckon_49 {d : Nat} {S : mSh} {M : mMem} {Q : Option mV → mSh → mMem → Prop} {x1 x2 x4 : Int} (hc : R64 (x2 - x4)) (k : Q (some (vL (x2 - x4))) S M) : WP PR d 193 49 [vA 200, vI x1, vL x2, vU, vL x4, vU] [] S M Q := by
  refine WP.re 3 53 .lreturn (0, 0, 0, 0) _ rfl ?_
  exact And.intro (hc) (⟨rfl, rfl, trivial, k⟩)
set_option maxRecDepth 100000 in
theorem b_X9_reckon_54 {d : Nat} {S : mSh} {M : mMem} {Q : Option mV → mSh → mMem → Prop} {x1 x2 x4 : Int} (hc : R64 (x2 * x4)) (k : Q (some (vL (x2 * x4))) S M) : WP PR d 193 54 [vA 200, vI x1, vL x2, vU, vL x4, vU] [] S M Q := by
  refine WP.re 3 58 .lreturn (0, 0, 0, 0) _ rfl ?_
  exact And.intro (hc) (⟨rfl, rfl, trivial, k⟩)
set_option maxRecDepth 100000 in
theorem b_X9_reckon_59 {d : Nat} {S : mSh} {M : mMem} {Q : Option mV → mSh → mMem → Prop} {x1 x2 x4 : Int} (kt : ¬ x4 = 0 → WP PR d 193 71 [vA 200, vI x1, vL x2, vU, vL x4, vU] [vA 200] S M Q) (kf : x4 = 0 → WP PR d 193 67 [vA 200, vI x1, vL x2, vU, vL x4, vU] [vA 200] S M Q) : WP PR d 193 59 [vA 200, vI x1, vL x2, vU, vL x4, vU] [] S M Q := by
  refine WP.if0 4 67 64 .ne 7 (0, 0, 0, 0) 71 rfl rfl ?_
  exact ⟨fun hc => kt (fun e => hc (lcp_eq.mpr e)), fun hc => kf (lcp_eq.mp (Decidable.not_not.mp hc))⟩
set_option maxRecDepth 100000 in
theorem b_X9_reckon_67 {d : Nat} {S : mSh} {M : mMem} {Q : Option mV → mSh → mMem → Prop} {x1 x2 x4 : Int} (L : Lay S) (k : Q (some (vL 0)) S (up M 200 38 1)) : WP PR d 193 67 [vA 200, vI x1, vL x2, vU, vL x4, vU] [vA 200] S M Q := by
  refine WP.gt 1 68 4 (0, 0, 0, 0) _ 72 rfl rfl ?_
  show WP PR d 193 72 [vA 200, vI x1, vL x2, vU, vL x4, vU] [vI 1, vA 200] S M Q
  refine WP.if0 3 82 79 .eq 7 (0, 0, 0, 0) 86 rfl rfl ?_
  refine And.intro (⟨lo200 L, Or.inr rfl⟩) (And.intro (lo200 L) (⟨fun h => absurd h (show ¬ ((1 : Int) = (0 : Int)) by decide), fun _ => ?_⟩))
  show WP PR d 193 82 [vA 200, vI x1, vL x2, vU, vL x4, vU] [] S (up M 200 38 1) Q
  refine WP.gt 1 83 7 (0, 0, 0, 0) _ 90 rfl rfl ?_
  show WP PR d 193 90 [vA 200, vI x1, vL x2, vU, vL x4, vU] [vL 0] S (up M 200 38 1) Q
  refine WP.re 0 90 .lreturn (0, 0, 0, 0) _ rfl ?_
  exact ⟨rfl, rfl, trivial, k⟩
set_option maxRecDepth 100000 in
theorem b_X9_reckon_71 {d : Nat} {S : mSh} {M : mMem} {Q : Option mV → mSh → mMem → Prop} {x1 x2 x4 : Int} (L : Lay S) (hc : x4 ≠ 0 ∧ R64 (x2.tdiv x4)) (k : Q (some (vL (x2.tdiv x4))) S (up M 200 38 0)) : WP PR d 193 71 [vA 200, vI x1, vL x2, vU, vL x4, vU] [vA 200] S M Q := by
  refine WP.if0 4 82 79 .eq 7 (0, 0, 0, 0) 86 rfl rfl ?_
  refine And.intro (⟨lo200 L, Or.inl rfl⟩) (And.intro (lo200 L) (⟨fun _ => ?_, fun h => absurd (show (0 : Int) = (0 : Int) by decide) h⟩))
  show WP PR d 193 86 [vA 200, vI x1, vL x2, vU, vL x4, vU] [] S (up M 200 38 0) Q
  refine WP.re 3 90 .lreturn (0, 0, 0, 0) _ rfl ?_
  exact And.intro (⟨hc.1, hc.2⟩) (⟨rfl, rfl, trivial, k⟩)
set_option maxRecDepth 100000 in
theorem b_X9_reckon_91 {d : Nat} {S : mSh} {M : mMem} {Q : Option mV → mSh → mMem → Prop} {x1 x2 x4 : Int} (kt : ¬ x4 = 0 → WP PR d 193 103 [vA 200, vI x1, vL x2, vU, vL x4, vU] [vA 200] S M Q) (kf : x4 = 0 → WP PR d 193 99 [vA 200, vI x1, vL x2, vU, vL x4, vU] [vA 200] S M Q) : WP PR d 193 91 [vA 200, vI x1, vL x2, vU, vL x4, vU] [] S M Q := by
  refine WP.if0 4 99 96 .ne 7 (0, 0, 0, 0) 103 rfl rfl ?_
  exact ⟨fun hc => kt (fun e => hc (lcp_eq.mpr e)), fun hc => kf (lcp_eq.mp (Decidable.not_not.mp hc))⟩
set_option maxRecDepth 100000 in
theorem b_X9_reckon_99 {d : Nat} {S : mSh} {M : mMem} {Q : Option mV → mSh → mMem → Prop} {x1 x2 x4 : Int} (L : Lay S) (k : Q (some (vL 0)) S (up M 200 38 1)) : WP PR d 193 99 [vA 200, vI x1, vL x2, vU, vL x4, vU] [vA 200] S M Q := by
  refine WP.gt 1 100 4 (0, 0, 0, 0) _ 104 rfl rfl ?_
  show WP PR d 193 104 [vA 200, vI x1, vL x2, vU, vL x4, vU] [vI 1, vA 200] S M Q
  refine WP.if0 3 114 111 .eq 7 (0, 0, 0, 0) 118 rfl rfl ?_
  refine And.intro (⟨lo200 L, Or.inr rfl⟩) (And.intro (lo200 L) (⟨fun h => absurd h (show ¬ ((1 : Int) = (0 : Int)) by decide), fun _ => ?_⟩))
  show WP PR d 193 114 [vA 200, vI x1, vL x2, vU, vL x4, vU] [] S (up M 200 38 1) Q
  refine WP.gt 1 115 7 (0, 0, 0, 0) _ 122 rfl rfl ?_
  show WP PR d 193 122 [vA 200, vI x1, vL x2, vU, vL x4, vU] [vL 0] S (up M 200 38 1) Q
  refine WP.re 0 122 .lreturn (0, 0, 0, 0) _ rfl ?_
  exact ⟨rfl, rfl, trivial, k⟩
set_option maxRecDepth 100000 in
theorem b_X9_reckon_103 {d : Nat} {S : mSh} {M : mMem} {Q : Option mV → mSh → mMem → Prop} {x1 x2 x4 : Int} (L : Lay S) (hc : x4 ≠ 0 ∧ R64 (x2.tdiv x4)) (k : Q (some (vL (x2.tmod x4))) S (up M 200 38 0)) : WP PR d 193 103 [vA 200, vI x1, vL x2, vU, vL x4, vU] [vA 200] S M Q := by
  refine WP.if0 4 114 111 .eq 7 (0, 0, 0, 0) 118 rfl rfl ?_
  refine And.intro (⟨lo200 L, Or.inl rfl⟩) (And.intro (lo200 L) (⟨fun _ => ?_, fun h => absurd (show (0 : Int) = (0 : Int) by decide) h⟩))
  show WP PR d 193 118 [vA 200, vI x1, vL x2, vU, vL x4, vU] [] S (up M 200 38 0) Q
  refine WP.re 3 122 .lreturn (0, 0, 0, 0) _ rfl ?_
  exact And.intro (⟨hc.1, hc.2⟩) (⟨rfl, rfl, trivial, k⟩)
set_option maxRecDepth 100000 in
theorem b_X9_reckon_123 {d : Nat} {S : mSh} {M : mMem} {Q : Option mV → mSh → mMem → Prop} {x1 x2 x4 : Int} (kt : x4 ≤ x2 → WP PR d 193 134 [vA 200, vI x1, vL x2, vU, vL x4, vU] [] S M Q) (kf : x2 < x4 → WP PR d 193 130 [vA 200, vI x1, vL x2, vU, vL x4, vU] [] S M Q) : WP PR d 193 123 [vA 200, vI x1, vL x2, vU, vL x4, vU] [] S M Q := by
  refine WP.if0 3 130 127 .ge 7 (0, 0, 0, 0) 134 rfl rfl ?_
  exact ⟨fun hc => kt (lcp_ge.mp hc), fun hc => kf (lcp_lt.mp (Int.not_le.mp hc))⟩
set_option maxRecDepth 100000 in
theorem b_X9_reckon_130 {d : Nat} {S : mSh} {M : mMem} {Q : Option mV → mSh → mMem → Prop} {x1 x2 x4 : Int} (k : Q (some (vL 1)) S M) : WP PR d 193 130 [vA 200, vI x1, vL x2, vU, vL x4, vU] [] S M Q := by
  refine WP.gt 1 131 4 (0, 0, 0, 0) _ 135 rfl rfl ?_
  show WP PR d 193 135 [vA 200, vI x1, vL x2, vU, vL x4, vU] [vL 1] S M Q
  refine WP.re 0 135 .lreturn (0, 0, 0, 0) _ rfl ?_
  exact ⟨rfl, rfl, trivial, k⟩
set_option maxRecDepth 100000 in
theorem b_X9_reckon_134 {d : Nat} {S : mSh} {M : mMem} {Q : Option mV → mSh → mMem → Prop} {x1 x2 x4 : Int} (k : Q (some (vL 0)) S M) : WP PR d 193 134 [vA 200, vI x1, vL x2, vU, vL x4, vU] [] S M Q := by
  refine WP.re 1 135 .lreturn (0, 0, 0, 0) _ rfl ?_
  exact ⟨rfl, rfl, trivial, k⟩
set_option maxRecDepth 100000 in
theorem b_X9_reckon_136 {d : Nat} {S : mSh} {M : mMem} {Q : Option mV → mSh → mMem → Prop} {x1 x2 x4 : Int} (kt : x2 ≤ x4 → WP PR d 193 147 [vA 200, vI x1, vL x2, vU, vL x4, vU] [] S M Q) (kf : x4 < x2 → WP PR d 193 143 [vA 200, vI x1, vL x2, vU, vL x4, vU] [] S M Q) : WP PR d 193 136 [vA 200, vI x1, vL x2, vU, vL x4, vU] [] S M Q := by
  refine WP.if0 3 143 140 .le 7 (0, 0, 0, 0) 147 rfl rfl ?_
  exact ⟨fun hc => kt (lcp_le.mp hc), fun hc => kf (lcp_gt.mp (Int.not_le.mp hc))⟩
set_option maxRecDepth 100000 in
theorem b_X9_reckon_143 {d : Nat} {S : mSh} {M : mMem} {Q : Option mV → mSh → mMem → Prop} {x1 x2 x4 : Int} (k : Q (some (vL 1)) S M) : WP PR d 193 143 [vA 200, vI x1, vL x2, vU, vL x4, vU] [] S M Q := by
  refine WP.gt 1 144 4 (0, 0, 0, 0) _ 148 rfl rfl ?_
  show WP PR d 193 148 [vA 200, vI x1, vL x2, vU, vL x4, vU] [vL 1] S M Q
  refine WP.re 0 148 .lreturn (0, 0, 0, 0) _ rfl ?_
  exact ⟨rfl, rfl, trivial, k⟩
set_option maxRecDepth 100000 in
theorem b_X9_reckon_147 {d : Nat} {S : mSh} {M : mMem} {Q : Option mV → mSh → mMem → Prop} {x1 x2 x4 : Int} (k : Q (some (vL 0)) S M) : WP PR d 193 147 [vA 200, vI x1, vL x2, vU, vL x4, vU] [] S M Q := by
  refine WP.re 1 148 .lreturn (0, 0, 0, 0) _ rfl ?_
  exact ⟨rfl, rfl, trivial, k⟩
set_option maxRecDepth 100000 in
theorem b_X9_reckon_149 {d : Nat} {S : mSh} {M : mMem} {Q : Option mV → mSh → mMem → Prop} {x1 x2 x4 : Int} (kt : ¬ x2 = x4 → WP PR d 193 160 [vA 200, vI x1, vL x2, vU, vL x4, vU] [] S M Q) (kf : x2 = x4 → WP PR d 193 156 [vA 200, vI x1, vL x2, vU, vL x4, vU] [] S M Q) : WP PR d 193 149 [vA 200, vI x1, vL x2, vU, vL x4, vU] [] S M Q := by
  refine WP.if0 3 156 153 .ne 7 (0, 0, 0, 0) 160 rfl rfl ?_
  exact ⟨fun hc => kt (fun e => hc (lcp_eq.mpr e)), fun hc => kf (lcp_eq.mp (Decidable.not_not.mp hc))⟩
set_option maxRecDepth 100000 in
theorem b_X9_reckon_156 {d : Nat} {S : mSh} {M : mMem} {Q : Option mV → mSh → mMem → Prop} {x1 x2 x4 : Int} (k : Q (some (vL 1)) S M) : WP PR d 193 156 [vA 200, vI x1, vL x2, vU, vL x4, vU] [] S M Q := by
  refine WP.gt 1 157 4 (0, 0, 0, 0) _ 161 rfl rfl ?_
  show WP PR d 193 161 [vA 200, vI x1, vL x2, vU, vL x4, vU] [vL 1] S M Q
  refine WP.re 0 161 .lreturn (0, 0, 0, 0) _ rfl ?_
  exact ⟨rfl, rfl, trivial, k⟩
set_option maxRecDepth 100000 in
theorem b_X9_reckon_160 {d : Nat} {S : mSh} {M : mMem} {Q : Option mV → mSh → mMem → Prop} {x1 x2 x4 : Int} (k : Q (some (vL 0)) S M) : WP PR d 193 160 [vA 200, vI x1, vL x2, vU, vL x4, vU] [] S M Q := by
  refine WP.re 1 161 .lreturn (0, 0, 0, 0) _ rfl ?_
  exact ⟨rfl, rfl, trivial, k⟩
/-- SoleraCellarModel.reckonAll(II)V -/
abbrev e_X9_reckonAll (d : Nat) (a1 a2 : Int) (S : mSh) (M : mMem) (Q : Option mV → mSh → mMem → Prop) : Prop := WP PR d 194 0 [vA 200, vI a1, vI a2, vU, vU, vU, vU] [] S M Q
set_option maxRecDepth 100000 in
theorem b_X9_reckonAll_0 {d : Nat} {S : mSh} {M : mMem} {Q : Option mV → mSh → mMem → Prop} {x1 x2 : Int} (L : Lay S) (k : WP PR d 194 10 [vA 200, vI x1, vI x2, vI 0, vI x1, vU, vU] [] S (up M 200 38 0) Q) : WP PR d 194 0 [vA 200, vI x1, vI x2, vU, vU, vU, vU] [] S M Q := by
  refine WP.bl 7 10 rfl ?_
  exact And.intro (⟨lo200 L, Or.inl rfl⟩) (k)
set_option maxRecDepth 100000 in
theorem b_X9_reckonAll_10 {d : Nat} {S : mSh} {M : mMem} {Q : Option mV → mSh → mMem → Prop} {x1 x2 x3 x4 : Int} {u5 u6 : mV} (kt : x2 ≤ x4 → WP PR d 194 313 [vA 200, vI x1, vI x2, vI x3, vI x4, u5, u6] [] S M Q) (kf : x4 < x2 → WP PR d 194 16 [vA 200, vI x1, vI x2, vI x3, vI x4, u5, u6] [] S M Q) : WP PR d 194 10 [vA 200, vI x1, vI x2, vI x3, vI x4, u5, u6] [] S M Q := by
  refine WP.if2 2 16 13 .ge 300 (0, 0, 0, 0) 313 rfl rfl ?_
  exact ⟨kt, fun hc => kf (Int.not_le.mp hc)⟩
set_option maxRecDepth 100000 in
theorem b_X9_reckonAll_16 {d : Nat} {S : mSh} {M : mMem} {Q : Option mV → mSh → mMem → Prop} {x1 x2 x3 x4 : Int} {u5 u6 : mV} (L : Lay S) (kt : ¬ M 200 38 = 0 → WP PR d 194 313 [vA 200, vI x1, vI x2, vI x3, vI x4, u5, u6] [] S M Q) (kf : M 200 38 = 0 → WP PR d 194 23 [vA 200, vI x1, vI x2, vI x3, vI x4, u5, u6] [] S M Q) : WP PR d 194 16 [vA 200, vI x1, vI x2, vI x3, vI x4, u5, u6] [] S M Q := by
  refine WP.if0 2 23 20 .ne 293 (0, 0, 0, 0) 313 rfl rfl ?_
  exact And.intro (lo200 L) (⟨kt, fun hc => kf (Decidable.not_not.mp hc)⟩)
set_option maxRecDepth 100000 in
theorem b_X9_reckonAll_23 {d : Nat} {S : mSh} {M : mMem} {Q : Option mV → mSh → mMem → Prop} {x1 x2 x3 x4 : Int} {u5 u6 : mV} (L : Lay S) (kt : M 200 20 = 0 → WP PR d 194 40 [vA 200, vI x1, vI x2, vI x3, vI x4, u5, u6] [] S M Q) (kf : ¬ M 200 20 = 0 → WP PR d 194 30 [vA 200, vI x1, vI x2, vI x3, vI x4, u5, u6] [] S M Q) : WP PR d 194 23 [vA 200, vI x1, vI x2, vI x3, vI x4, u5, u6] [] S M Q := by
  refine WP.if0 2 30 27 .eq 13 (0, 0, 0, 0) 40 rfl rfl ?_
  exact And.intro (lo200 L) (⟨kt, fun hc => kf hc⟩)
set_option maxRecDepth 100000 in
theorem b_X9_reckonAll_30 {d : Nat} {S : mSh} {M : mMem} {Q : Option mV → mSh → mMem → Prop} {x1 x2 x3 x4 : Int} {u5 u6 : mV} (L : Lay S) (hc : (0 ≤ x4 ∧ x4 < 400)) (kt : M 200 20 = 0 → WP PR d 194 76 [vA 200, vI x1, vI x2, vI x3, vI x4, vI (M 211 x4), u6] [] S M Q) (kf : ¬ M 200 20 = 0 → WP PR d 194 66 [vA 200, vI x1, vI x2, vI x3, vI x4, vI (M 211 x4), u6] [] S M Q) : WP PR d 194 30 [vA 200, vI x1, vI x2, vI x3, vI x4, u5, u6] [] S M Q := by
  refine WP.gt 4 37 20 (0, 0, 0, 0) _ 57 rfl rfl ?_
  refine And.intro (⟨lo200 L, lf200_24 L⟩) (And.intro (inA_of (lo211 L) (ll211 L) hc) (?_))
  show WP PR d 194 57 [vA 200, vI x1, vI x2, vI x3, vI x4, u5, u6] [vI (M 211 x4)] S M Q
  refine WP.if0 3 66 63 .eq 13 (0, 0, 0, 0) 76 rfl rfl ?_
  exact And.intro (lo200 L) (⟨kt, fun hc => kf hc⟩)
set_option maxRecDepth 100000 in
theorem b_X9_reckonAll_40 {d : Nat} {S : mSh} {M : mMem} {Q : Option mV → mSh → mMem → Prop} {x1 x2 x3 x4 : Int} {u5 u6 : mV} (L : Lay S) (hc : R32 ((M 200 34) + 98) ∧ R32 (2 * x4) ∧ R32 (((M 200 34) + 98) + (2 * x4)) ∧ (0 ≤ ((M 200 34) + 98) + (2 * x4) ∧ ((M 200 34) + 98) + (2 * x4) < 9390)) (kt : M 200 20 = 0 → WP PR d 194 76 [vA 200, vI x1, vI x2, vI x3, vI x4, vI (M 202 (((M 200 34) + 98) + (2 * x4))), u6] [] S M Q) (kf : ¬ M 200 20 = 0 → WP PR d 194 66 [vA 200, vI x1, vI x2, vI x3, vI x4, vI (M 202 (((M 200 34) + 98) + (2 * x4))), u6] [] S M Q) : WP PR d 194 40 [vA 200, vI x1, vI x2, vI x3, vI x4, u5, u6] [] S M Q := by
  refine WP.if0 14 66 63 .eq 13 (0, 0, 0, 0) 76 rfl rfl ?_
  exact And.intro (⟨lo200 L, lf200_3 L⟩) (And.intro (lo200 L) (And.intro (hc.1) (And.intro (hc.2.1) (And.intro (hc.2.2.1) (And.intro (inA_of (lo202 L) (ll202 L) hc.2.2.2) (And.intro (lo200 L) (⟨kt, fun hc => kf hc⟩)))))))
set_option maxRecDepth 100000 in
theorem b_X9_reckonAll_66 {d : Nat} {S : mSh} {M : mMem} {Q : Option mV → mSh → mMem → Prop} {x1 x2 x3 x4 x5 : Int} {u6 : mV} (L : Lay S) (hc : (0 ≤ x4 ∧ x4 < 400) ∧ R32 (x4 + 1)) (kt : 20 ≤ x5 → WP PR d 194 171 [vA 200, vI x1, vI x2, vI x3, vI (x4 + 1), vI x5, vI (M 212 x4)] [] S M Q) (kf : x5 < 20 → WP PR d 194 107 [vA 200, vI x1, vI x2, vI x3, vI (x4 + 1), vI x5, vI (M 212 x4)] [] S M Q) : WP PR d 194 66 [vA 200, vI x1, vI x2, vI x3, vI x4, vI x5, u6] [] S M Q := by
  refine WP.gt 4 73 22 (0, 0, 0, 0) _ 95 rfl rfl ?_
  refine And.intro (⟨lo200 L, lf200_25 L⟩) (And.intro (inA_of (lo212 L) (ll212 L) hc.1) (?_))
  show WP PR d 194 95 [vA 200, vI x1, vI x2, vI x3, vI x4, vI x5, u6] [vI (M 212 x4)] S M Q
  refine WP.if2 4 107 104 .ge 67 (0, 0, 0, 0) 171 rfl rfl ?_
  exact And.intro (hc.2) (⟨kt, fun hc => kf (Int.not_le.mp hc)⟩)
set_option maxRecDepth 100000 in
theorem b_X9_reckonAll_76 {d : Nat} {S : mSh} {M : mMem} {Q : Option mV → mSh → mMem → Prop} {x1 x2 x3 x4 x5 : Int} {u6 : mV} (L : Lay S) (hc : R32 ((M 200 34) + 98) ∧ R32 (2 * x4) ∧ R32 (((M 200 34) + 98) + (2 * x4)) ∧ R32 ((((M 200 34) + 98) + (2 * x4)) + 1) ∧ (0 ≤ (((M 200 34) + 98) + (2 * x4)) + 1 ∧ (((M 200 34) + 98) + (2 * x4)) + 1 < 9390) ∧ R32 (x4 + 1)) (kt : 20 ≤ x5 → WP PR d 194 171 [vA 200, vI x1, vI x2, vI x3, vI (x4 + 1), vI x5, vI (M 202 ((((M 200 34) + 98) + (2 * x4)) + 1))] [] S M Q) (kf : x5 < 20 → WP PR d 194 107 [vA 200, vI x1, vI x2, vI x3, vI (x4 + 1), vI x5, vI (M 202 ((((M 200 34) + 98) + (2 * x4)) + 1))] [] S M Q) : WP PR d 194 76 [vA 200, vI x1, vI x2, vI x3, vI x4, vI x5, u6] [] S M Q := by
  refine WP.if2 17 107 104 .ge 67 (0, 0, 0, 0) 171 rfl rfl ?_
  exact And.intro (⟨lo200 L, lf200_3 L⟩) (And.intro (lo200 L) (And.intro (hc.1) (And.intro (hc.2.1) (And.intro (hc.2.2.1) (And.intro (hc.2.2.2.1) (And.intro (inA_of (lo202 L) (ll202 L) hc.2.2.2.2.1) (And.intro (hc.2.2.2.2.2) (⟨kt, fun hc => kf (Int.not_le.mp hc)⟩))))))))
set_option maxRecDepth 100000 in
theorem b_X9_reckonAll_107 {d : Nat} {S : mSh} {M : mMem} {Q : Option mV → mSh → mMem → Prop} {x1 x2 x3 x4 x5 x6 : Int} (L : Lay S) (kt : ¬ x5 = 0 → WP PR d 194 123 [vA 200, vI x1, vI x2, vI x3, vI x4, vI x5, vI x6] [vI x3, vA 220] S M Q) (kf : x5 = 0 → WP PR d 194 117 [vA 200, vI x1, vI x2, vI x3, vI x4, vI x5, vI x6] [vI x3, vA 220] S M Q) : WP PR d 194 107 [vA 200, vI x1, vI x2, vI x3, vI x4, vI x5, vI x6] [] S M Q := by
  refine WP.if0 4 117 114 .ne 9 (0, 0, 0, 0) 123 rfl rfl ?_
  exact And.intro (⟨lo200 L, lf200_37 L⟩) (⟨kt, fun hc => kf (Decidable.not_not.mp hc)⟩)
set_option maxRecDepth 100000 in
theorem b_X9_reckonAll_117 {d : Nat} {S : mSh} {M : mMem} {Q : Option mV → mSh → mMem → Prop} {x1 x2 x3 x4 x5 x6 s0 s1 : Int} (ho1 : isO S s0 21) (hc : (0 ≤ s1 ∧ s1 < sL S s0) ∧ R32 (x3 + 1)) (k : WP PR d 194 10 [vA 200, vI x1, vI x2, vI (x3 + 1), vI x4, vI x5, vI x6] [] S (up M s0 s1 x6) Q) : WP PR d 194 117 [vA 200, vI x1, vI x2, vI x3, vI x4, vI x5, vI x6] [vI s1, vA s0] S M Q := by
  refine WP.gt 2 120 44 (0, 0, 0, 0) _ 164 rfl rfl ?_
  show WP PR d 194 164 [vA 200, vI x1, vI x2, vI x3, vI x4, vI x5, vI x6] [vL x6, vI s1, vA s0] S M Q
  refine WP.gt 2 168 142 (0, 0, 0, 0) _ 310 rfl rfl ?_
  refine And.intro (inA_of (ho1) (rfl) hc.1) (And.intro (hc.2) (?_))
  show WP PR d 194 310 [vA 200, vI x1, vI x2, vI (x3 + 1), vI x4, vI x5, vI x6] [] S (up M s0 s1 x6) Q
  refine WP.gt 0 310 (-300) (0, 0, 0, 0) _ 10 rfl rfl ?_
  exact k
set_option maxRecDepth 100000 in
theorem b_X9_reckonAll_123 {d : Nat} {S : mSh} {M : mMem} {Q : Option mV → mSh → mMem → Prop} {x1 x2 x3 x4 x5 x6 s0 s1 : Int} (L : Lay S) (kt : ¬ M 200 20 = 0 → WP PR d 194 140 [vA 200, vI x1, vI x2, vI x3, vI x4, vI x5, vI x6] [vI s1, vA s0] S M Q) (kf : M 200 20 = 0 → WP PR d 194 130 [vA 200, vI x1, vI x2, vI x3, vI x4, vI x5, vI x6] [vI s1, vA s0] S M Q) : WP PR d 194 123 [vA 200, vI x1, vI x2, vI x3, vI x4, vI x5, vI x6] [vI s1, vA s0] S M Q := by
  refine WP.if0 2 130 127 .ne 13 (0, 0, 0, 0) 140 rfl rfl ?_
  exact And.intro (lo200 L) (⟨kt, fun hc => kf (Decidable.not_not.mp hc)⟩)
set_option maxRecDepth 100000 in
theorem b_X9_reckonAll_130 {d : Nat} {S : mSh} {M : mMem} {Q : Option mV → mSh → mMem → Prop} {x1 x2 x3 x4 x5 x6 s0 s1 : Int} (L : Lay S) (ho1 : isO S s0 21) (hc : (0 ≤ x5 ∧ x5 < 13) ∧ (0 ≤ s1 ∧ s1 < sL S s0) ∧ R32 (x3 + 1)) (k : WP PR d 194 10 [vA 200, vI x1, vI x2, vI (x3 + 1), vI x4, vI x5, vI x6] [] S (up M s0 s1 (M 218 x5)) Q) : WP PR d 194 130 [vA 200, vI x1, vI x2, vI x3, vI x4, vI x5, vI x6] [vI s1, vA s0] S M Q := by
  refine WP.gt 4 137 27 (0, 0, 0, 0) _ 164 rfl rfl ?_
  refine And.intro (⟨lo200 L, lf200_35 L⟩) (And.intro (inA_of (lo218 L) (ll218 L) hc.1) (?_))
  show WP PR d 194 164 [vA 200, vI x1, vI x2, vI x3, vI x4, vI x5, vI x6] [vL (M 218 x5), vI s1, vA s0] S M Q
  refine WP.gt 2 168 142 (0, 0, 0, 0) _ 310 rfl rfl ?_
  refine And.intro (inA_of (ho1) (rfl) hc.2.1) (And.intro (hc.2.2) (?_))
  show WP PR d 194 310 [vA 200, vI x1, vI x2, vI (x3 + 1), vI x4, vI x5, vI x6] [] S (up M s0 s1 (M 218 x5)) Q
  refine WP.gt 0 310 (-300) (0, 0, 0, 0) _ 10 rfl rfl ?_
  exact k
set_option maxRecDepth 100000 in
theorem b_X9_reckonAll_140 {d : Nat} {S : mSh} {M : mMem} {Q : Option mV → mSh → mMem → Prop} {x1 x2 x3 x4 x5 x6 s0 s1 : Int} (kt : 5 ≤ x5 → WP PR d 194 156 [vA 200, vI x1, vI x2, vI x3, vI x4, vI x5, vI x6] [vI s1, vA s0] S M Q) (kf : x5 < 5 → WP PR d 194 146 [vA 200, vI x1, vI x2, vI x3, vI x4, vI x5, vI x6] [vI s1, vA s0] S M Q) : WP PR d 194 140 [vA 200, vI x1, vI x2, vI x3, vI x4, vI x5, vI x6] [vI s1, vA s0] S M Q := by
  refine WP.if2 2 146 143 .ge 13 (0, 0, 0, 0) 156 rfl rfl ?_
  exact ⟨kt, fun hc => kf (Int.not_le.mp hc)⟩
set_option maxRecDepth 100000 in
theorem b_X9_reckonAll_146 {d : Nat} {S : mSh} {M : mMem} {Q : Option mV → mSh → mMem → Prop} {x1 x2 x3 x4 x5 x6 s0 s1 : Int} (L : Lay S) (ho1 : isO S s0 21) (hc : (0 ≤ x5 ∧ x5 < 13) ∧ (0 ≤ s1 ∧ s1 < sL S s0) ∧ R32 (x3 + 1)) (k : WP PR d 194 10 [vA 200, vI x1, vI x2, vI (x3 + 1), vI x4, vI x5, vI x6] [] S (up M s0 s1 (M 219 x5)) Q) : WP PR d 194 146 [vA 200, vI x1, vI x2, vI x3, vI x4, vI x5, vI x6] [vI s1, vA s0] S M Q := by
  refine WP.gt 4 153 11 (0, 0, 0, 0) _ 164 rfl rfl ?_
  refine And.intro (⟨lo200 L, lf200_36 L⟩) (And.intro (inA_of (lo219 L) (ll219 L) hc.1) (?_))
  show WP PR d 194 164 [vA 200, vI x1, vI x2, vI x3, vI x4, vI x5, vI x6] [vL (M 219 x5), vI s1, vA s0] S M Q
  refine WP.gt 2 168 142 (0, 0, 0, 0) _ 310 rfl rfl ?_
  refine And.intro (inA_of (ho1) (rfl) hc.2.1) (And.intro (hc.2.2) (?_))
  show WP PR d 194 310 [vA 200, vI x1, vI x2, vI (x3 + 1), vI x4, vI x5, vI x6] [] S (up M s0 s1 (M 219 x5)) Q
  refine WP.gt 0 310 (-300) (0, 0, 0, 0) _ 10 rfl rfl ?_
  exact k
set_option maxRecDepth 100000 in
theorem b_X9_reckonAll_156 {d : Nat} {S : mSh} {M : mMem} {Q : Option mV → mSh → mMem → Prop} {x1 x2 x3 x4 x5 x6 s0 s1 : Int} (L : Lay S) (k : WP PR d 192 0 [vA 200, vI x5, vI x6] [] S M (fun r S2 M2 => WP PR (d + 1) 194 164 [vA 200, vI x1, vI x2, vI x3, vI x4, vI x5, vI x6] (r.toList ++ [vI s1, vA s0]) S2 M2 Q)) : WP PR (d + 1) 194 156 [vA 200, vI x1, vI x2, vI x3, vI x4, vI x5, vI x6] [vI s1, vA s0] S M Q := by
  refine WP.ca 3 164 161 (.invokevirtual 386) (0, 192, 0, 0) rfl ?_
  exact ⟨rfl, rfl, rfl, lo200 L, rfl, k⟩
set_option maxRecDepth 100000 in
theorem b_X9_reckonAll_164 {d : Nat} {S : mSh} {M : mMem} {Q : Option mV → mSh → mMem → Prop} {x1 x2 x3 x4 x5 x6 s0 s1 s2 : Int} (ho1 : isO S s0 21) (hc : (0 ≤ s1 ∧ s1 < sL S s0) ∧ R32 (x3 + 1)) (k : WP PR d 194 10 [vA 200, vI x1, vI x2, vI (x3 + 1), vI x4, vI x5, vI x6] [] S (up M s0 s1 s2) Q) : WP PR d 194 164 [vA 200, vI x1, vI x2, vI x3, vI x4, vI x5, vI x6] [vL s2, vI s1, vA s0] S M Q := by
  refine WP.gt 2 168 142 (0, 0, 0, 0) _ 310 rfl rfl ?_
  refine And.intro (inA_of (ho1) (rfl) hc.1) (And.intro (hc.2) (?_))
  show WP PR d 194 310 [vA 200, vI x1, vI x2, vI (x3 + 1), vI x4, vI x5, vI x6] [] S (up M s0 s1 s2) Q
  refine WP.gt 0 310 (-300) (0, 0, 0, 0) _ 10 rfl rfl ?_
  exact k
set_option maxRecDepth 100000 in
theorem b_X9_reckonAll_171 {d : Nat} {S : mSh} {M : mMem} {Q : Option mV → mSh → mMem → Prop} {x1 x2 x3 x4 x5 x6 : Int} (kt : 28 ≤ x5 → WP PR d 194 248 [vA 200, vI x1, vI x2, vI x3, vI x4, vI x5, vI x6] [] S M Q) (kf : x5 < 28 → WP PR d 194 178 [vA 200, vI x1, vI x2, vI x3, vI x4, vI x5, vI x6] [] S M Q) : WP PR d 194 171 [vA 200, vI x1, vI x2, vI x3, vI x4, vI x5, vI x6] [] S M Q := by
  refine WP.if2 2 178 175 .ge 73 (0, 0, 0, 0) 248 rfl rfl ?_
  exact ⟨kt, fun hc => kf (Int.not_le.mp hc)⟩
set_option maxRecDepth 100000 in
theorem b_X9_reckonAll_178 {d : Nat} {S : mSh} {M : mMem} {Q : Option mV → mSh → mMem → Prop} {x1 x2 x3 x4 x5 x6 : Int} (L : Lay S) (hc : R32 (x3 + (-1)) ∧ R32 ((x3 + (-1)) - 1) ∧ (0 ≤ (x3 + (-1)) - 1 ∧ (x3 + (-1)) - 1 < 400) ∧ (0 ≤ x3 + (-1) ∧ x3 + (-1) < 400)) (k : WP PR d 193 0 [vA 200, vI x5, vL (M 220 ((x3 + (-1)) - 1)), vU, vL (M 220 (x3 + (-1))), vU] [] S M (fun r S2 M2 => WP PR (d + 1) 194 208 [vA 200, vI x1, vI x2, vI (x3 + (-1)), vI x4, vI x5, vI x6] (r.toList ++ [vI ((x3 + (-1)) - 1), vA 220]) S2 M2 Q)) : WP PR (d + 1) 194 178 [vA 200, vI x1, vI x2, vI x3, vI x4, vI x5, vI x6] [] S M Q := by
  refine WP.ca 18 208 205 (.invokevirtual 390) (0, 193, 0, 0) rfl ?_
  exact And.intro (hc.1) (And.intro (⟨lo200 L, lf200_37 L⟩) (And.intro (hc.2.1) (And.intro (⟨lo200 L, lf200_37 L⟩) (And.intro (hc.2.1) (And.intro (inA_of (lo220 L) (ll220 L) hc.2.2.1) (And.intro (⟨lo200 L, lf200_37 L⟩) (And.intro (inA_of (lo220 L) (ll220 L) hc.2.2.2) (⟨rfl, rfl, rfl, lo200 L, rfl, k⟩))))))))
set_option maxRecDepth 100000 in
theorem b_X9_reckonAll_208 {d : Nat} {S : mSh} {M : mMem} {Q : Option mV → mSh → mMem → Prop} {x1 x2 x3 x4 x5 x6 s0 s1 s2 : Int} (L : Lay S) (ho1 : isO S s0 21) (hc : (0 ≤ s1 ∧ s1 < sL S s0)) (kt : ¬ (up M s0 s1 s2) 200 38 = 0 → WP PR d 194 237 [vA 200, vI x1, vI x2, vI x3, vI x4, vI x5, vI x6] [vA 200] S (up M s0 s1 s2) Q) (kf : (up M s0 s1 s2) 200 38 = 0 → WP PR d 194 217 [vA 200, vI x1, vI x2, vI x3, vI x4, vI x5, vI x6] [vA 200] S (up M s0 s1 s2) Q) : WP PR d 194 208 [vA 200, vI x1, vI x2, vI x3, vI x4, vI x5, vI x6] [vL s2, vI s1, vA s0] S M Q := by
  refine WP.if0 4 217 214 .ne 23 (0, 0, 0, 0) 237 rfl rfl ?_
  exact And.intro (inA_of (ho1) (rfl) hc) (And.intro (lo200 L) (⟨kt, fun hc => kf (Decidable.not_not.mp hc)⟩))
set_option maxRecDepth 100000 in
theorem b_X9_reckonAll_217 {d : Nat} {S : mSh} {M : mMem} {Q : Option mV → mSh → mMem → Prop} {x1 x2 x3 x4 x5 x6 : Int} (L : Lay S) (hc : R32 (x3 - 1) ∧ (0 ≤ x3 - 1 ∧ x3 - 1 < 400)) (k : WP PR d 132 0 [vL (M 220 (x3 - 1)), vU, vL (-1000000000), vU, vL 1000000000, vU] [] S M (fun r S2 M2 => WP PR (d + 1) 194 234 [vA 200, vI x1, vI x2, vI x3, vI x4, vI x5, vI x6] (r.toList ++ [vA 200]) S2 M2 Q)) : WP PR (d + 1) 194 217 [vA 200, vI x1, vI x2, vI x3, vI x4, vI x5, vI x6] [vA 200] S M Q := by
  refine WP.ca 8 234 231 (.invokestatic 153) (0, 132, 0, 0) rfl ?_
  exact And.intro (⟨lo200 L, lf200_37 L⟩) (And.intro (hc.1) (And.intro (inA_of (lo220 L) (ll220 L) hc.2) (⟨rfl, rfl, rfl, trivial, rfl, k⟩)))
set_option maxRecDepth 100000 in
theorem b_X9_reckonAll_234 {d : Nat} {S : mSh} {M : mMem} {Q : Option mV → mSh → mMem → Prop} {x1 x2 x3 x4 x5 x6 s1 : Int} (kt : ¬ s1 = 0 → WP PR d 194 241 [vA 200, vI x1, vI x2, vI x3, vI x4, vI x5, vI x6] [vA 200] S M Q) (kf : s1 = 0 → WP PR d 194 237 [vA 200, vI x1, vI x2, vI x3, vI x4, vI x5, vI x6] [vA 200] S M Q) : WP PR d 194 234 [vA 200, vI x1, vI x2, vI x3, vI x4, vI x5, vI x6] [vI s1, vA 200] S M Q := by
  refine WP.if0 0 237 234 .ne 7 (0, 0, 0, 0) 241 rfl rfl ?_
  exact ⟨kt, fun hc => kf (Decidable.not_not.mp hc)⟩
set_option maxRecDepth 100000 in
theorem b_X9_reckonAll_237 {d : Nat} {S : mSh} {M : mMem} {Q : Option mV → mSh → mMem → Prop} {x1 x2 x3 x4 x5 x6 : Int} (L : Lay S) (k : WP PR d 194 10 [vA 200, vI x1, vI x2, vI x3, vI x4, vI x5, vI x6] [] S (up M 200 38 1) Q) : WP PR d 194 237 [vA 200, vI x1, vI x2, vI x3, vI x4, vI x5, vI x6] [vA 200] S M Q := by
  refine WP.gt 1 238 4 (0, 0, 0, 0) _ 242 rfl rfl ?_
  show WP PR d 194 242 [vA 200, vI x1, vI x2, vI x3, vI x4, vI x5, vI x6] [vI 1, vA 200] S M Q
  refine WP.gt 1 245 65 (0, 0, 0, 0) _ 310 rfl rfl ?_
  refine And.intro (⟨lo200 L, Or.inr rfl⟩) (?_)
  show WP PR d 194 310 [vA 200, vI x1, vI x2, vI x3, vI x4, vI x5, vI x6] [] S (up M 200 38 1) Q
  refine WP.gt 0 310 (-300) (0, 0, 0, 0) _ 10 rfl rfl ?_
  exact k
set_option maxRecDepth 100000 in
theorem b_X9_reckonAll_241 {d : Nat} {S : mSh} {M : mMem} {Q : Option mV → mSh → mMem → Prop} {x1 x2 x3 x4 x5 x6 : Int} (L : Lay S) (k : WP PR d 194 10 [vA 200, vI x1, vI x2, vI x3, vI x4, vI x5, vI x6] [] S (up M 200 38 0) Q) : WP PR d 194 241 [vA 200, vI x1, vI x2, vI x3, vI x4, vI x5, vI x6] [vA 200] S M Q := by
  refine WP.gt 2 245 65 (0, 0, 0, 0) _ 310 rfl rfl ?_
  refine And.intro (⟨lo200 L, Or.inl rfl⟩) (?_)
  show WP PR d 194 310 [vA 200, vI x1, vI x2, vI x3, vI x4, vI x5, vI x6] [] S (up M 200 38 0) Q
  refine WP.gt 0 310 (-300) (0, 0, 0, 0) _ 10 rfl rfl ?_
  exact k
set_option maxRecDepth 100000 in
theorem b_X9_reckonAll_248 {d : Nat} {S : mSh} {M : mMem} {Q : Option mV → mSh → mMem → Prop} {x1 x2 x3 x4 x5 x6 : Int} (kt : ¬ x5 = 28 → WP PR d 194 276 [vA 200, vI x1, vI x2, vI x3, vI x4, vI x5, vI x6] [] S M Q) (kf : x5 = 28 → WP PR d 194 255 [vA 200, vI x1, vI x2, vI x3, vI x4, vI x5, vI x6] [] S M Q) : WP PR d 194 248 [vA 200, vI x1, vI x2, vI x3, vI x4, vI x5, vI x6] [] S M Q := by
  refine WP.if2 2 255 252 .ne 24 (0, 0, 0, 0) 276 rfl rfl ?_
  exact ⟨kt, fun hc => kf (Decidable.not_not.mp hc)⟩
set_option maxRecDepth 100000 in
theorem b_X9_reckonAll_255 {d : Nat} {S : mSh} {M : mMem} {Q : Option mV → mSh → mMem → Prop} {x1 x2 x3 x4 x5 x6 : Int} (L : Lay S) (hc : R32 (x3 - 1) ∧ (0 ≤ x3 - 1 ∧ x3 - 1 < 400) ∧ R64 (1 - (M 220 (x3 - 1)))) (k : WP PR d 194 10 [vA 200, vI x1, vI x2, vI x3, vI x4, vI x5, vI x6] [] S (up M 220 (x3 - 1) (1 - (M 220 (x3 - 1)))) Q) : WP PR d 194 255 [vA 200, vI x1, vI x2, vI x3, vI x4, vI x5, vI x6] [] S M Q := by
  refine WP.gt 14 273 37 (0, 0, 0, 0) _ 310 rfl rfl ?_
  refine And.intro (⟨lo200 L, lf200_37 L⟩) (And.intro (hc.1) (And.intro (⟨lo200 L, lf200_37 L⟩) (And.intro (hc.1) (And.intro (inA_of (lo220 L) (ll220 L) hc.2.1) (And.intro (hc.2.2) (And.intro (inA_of (lo220 L) (ll220 L) hc.2.1) (?_)))))))
  show WP PR d 194 310 [vA 200, vI x1, vI x2, vI x3, vI x4, vI x5, vI x6] [] S (up M 220 (x3 - 1) (1 - (M 220 (x3 - 1)))) Q
  refine WP.gt 0 310 (-300) (0, 0, 0, 0) _ 10 rfl rfl ?_
  exact k
set_option maxRecDepth 100000 in
theorem b_X9_reckonAll_276 {d : Nat} {S : mSh} {M : mMem} {Q : Option mV → mSh → mMem → Prop} {x1 x2 x3 x4 x5 x6 : Int} (L : Lay S) (hc : R32 (x3 - 1) ∧ (0 ≤ x3 - 1 ∧ x3 - 1 < 400)) (kt : ¬ x5 = 29 → WP PR d 194 295 [vA 200, vI x1, vI x2, vI x3, vI x4, vI x5, vI x6] [vL (M 220 (x3 - 1))] S M Q) (kf : x5 = 29 → WP PR d 194 291 [vA 200, vI x1, vI x2, vI x3, vI x4, vI x5, vI x6] [vL (M 220 (x3 - 1))] S M Q) : WP PR d 194 276 [vA 200, vI x1, vI x2, vI x3, vI x4, vI x5, vI x6] [] S M Q := by
  refine WP.if2 8 291 288 .ne 7 (0, 0, 0, 0) 295 rfl rfl ?_
  exact And.intro (⟨lo200 L, lf200_37 L⟩) (And.intro (hc.1) (And.intro (inA_of (lo220 L) (ll220 L) hc.2) (⟨kt, fun hc => kf (Decidable.not_not.mp hc)⟩)))
set_option maxRecDepth 100000 in
theorem b_X9_reckonAll_291 {d : Nat} {S : mSh} {M : mMem} {Q : Option mV → mSh → mMem → Prop} {x1 x2 x3 x4 x5 x6 s0 : Int} (kt : ¬ s0 = 0 → WP PR d 194 307 [vA 200, vI x1, vI x2, vI x3, vI x4, vI x5, vI x6] [] S M Q) (kf : s0 = 0 → WP PR d 194 300 [vA 200, vI x1, vI x2, vI x3, vI x4, vI x5, vI x6] [] S M Q) : WP PR d 194 291 [vA 200, vI x1, vI x2, vI x3, vI x4, vI x5, vI x6] [vL s0] S M Q := by
  refine WP.gt 1 292 4 (0, 0, 0, 0) _ 296 rfl rfl ?_
  show WP PR d 194 296 [vA 200, vI x1, vI x2, vI x3, vI x4, vI x5, vI x6] [vL 0, vL s0] S M Q
  refine WP.if0 1 300 297 .ne 10 (0, 0, 0, 0) 307 rfl rfl ?_
  exact ⟨fun hc => kt (fun e => hc (lcp_eq.mpr e)), fun hc => kf (lcp_eq.mp (Decidable.not_not.mp hc))⟩
set_option maxRecDepth 100000 in
theorem b_X9_reckonAll_295 {d : Nat} {S : mSh} {M : mMem} {Q : Option mV → mSh → mMem → Prop} {x1 x2 x3 x4 x5 x6 s0 : Int} (kt : ¬ s0 = 1 → WP PR d 194 307 [vA 200, vI x1, vI x2, vI x3, vI x4, vI x5, vI x6] [] S M Q) (kf : s0 = 1 → WP PR d 194 300 [vA 200, vI x1, vI x2, vI x3, vI x4, vI x5, vI x6] [] S M Q) : WP PR d 194 295 [vA 200, vI x1, vI x2, vI x3, vI x4, vI x5, vI x6] [vL s0] S M Q := by
  refine WP.if0 2 300 297 .ne 10 (0, 0, 0, 0) 307 rfl rfl ?_
  exact ⟨fun hc => kt (fun e => hc (lcp_eq.mpr e)), fun hc => kf (lcp_eq.mp (Decidable.not_not.mp hc))⟩
set_option maxRecDepth 100000 in
theorem b_X9_reckonAll_300 {d : Nat} {S : mSh} {M : mMem} {Q : Option mV → mSh → mMem → Prop} {x1 x2 x3 x4 x5 x6 : Int} (k : WP PR d 194 10 [vA 200, vI x1, vI x2, vI x3, vI x6, vI x5, vI x6] [] S M Q) : WP PR d 194 300 [vA 200, vI x1, vI x2, vI x3, vI x4, vI x5, vI x6] [] S M Q := by
  refine WP.gt 2 304 6 (0, 0, 0, 0) _ 310 rfl rfl ?_
  show WP PR d 194 310 [vA 200, vI x1, vI x2, vI x3, vI x6, vI x5, vI x6] [] S M Q
  refine WP.gt 0 310 (-300) (0, 0, 0, 0) _ 10 rfl rfl ?_
  exact k
set_option maxRecDepth 100000 in
theorem b_X9_reckonAll_307 {d : Nat} {S : mSh} {M : mMem} {Q : Option mV → mSh → mMem → Prop} {x1 x2 x3 x4 x5 x6 : Int} (hc : R32 (x3 + (-1))) (k : WP PR d 194 10 [vA 200, vI x1, vI x2, vI (x3 + (-1)), vI x4, vI x5, vI x6] [] S M Q) : WP PR d 194 307 [vA 200, vI x1, vI x2, vI x3, vI x4, vI x5, vI x6] [] S M Q := by
  refine WP.gt 1 310 (-300) (0, 0, 0, 0) _ 10 rfl rfl ?_
  exact And.intro (hc) (k)
set_option maxRecDepth 100000 in
theorem b_X9_reckonAll_313 {d : Nat} {S : mSh} {M : mMem} {Q : Option mV → mSh → mMem → Prop} {x1 x2 x3 x4 : Int} {u5 u6 : mV} (kt : x3 ≤ 0 → WP PR d 194 327 [vA 200, vI x1, vI x2, vI x3, vI x4, u5, u6] [vA 200] S M Q) (kf : 0 < x3 → WP PR d 194 318 [vA 200, vI x1, vI x2, vI x3, vI x4, u5, u6] [vA 200] S M Q) : WP PR d 194 313 [vA 200, vI x1, vI x2, vI x3, vI x4, u5, u6] [] S M Q := by
  refine WP.if0 2 318 315 .le 12 (0, 0, 0, 0) 327 rfl rfl ?_
  exact ⟨kt, fun hc => kf (Int.not_le.mp hc)⟩
set_option maxRecDepth 100000 in
theorem b_X9_reckonAll_318 {d : Nat} {S : mSh} {M : mMem} {Q : Option mV → mSh → mMem → Prop} {x1 x2 x3 x4 : Int} {u5 u6 : mV} (L : Lay S) (k : Q (none) S (up M 200 39 (M 220 0))) : WP PR d 194 318 [vA 200, vI x1, vI x2, vI x3, vI x4, u5, u6] [vA 200] S M Q := by
  refine WP.gt 4 324 4 (0, 0, 0, 0) _ 328 rfl rfl ?_
  refine And.intro (⟨lo200 L, lf200_37 L⟩) (And.intro (inA_of (lo220 L) (ll220 L) (by decide)) (?_))
  show WP PR d 194 328 [vA 200, vI x1, vI x2, vI x3, vI x4, u5, u6] [vL (M 220 0), vA 200] S M Q
  refine WP.re 1 331 .return_ (0, 0, 0, 0) _ rfl ?_
  exact And.intro (lo200 L) (⟨rfl, rfl, trivial, k⟩)
set_option maxRecDepth 100000 in
theorem b_X9_reckonAll_327 {d : Nat} {S : mSh} {M : mMem} {Q : Option mV → mSh → mMem → Prop} {x1 x2 x3 x4 : Int} {u5 u6 : mV} (L : Lay S) (k : Q (none) S (up M 200 39 0)) : WP PR d 194 327 [vA 200, vI x1, vI x2, vI x3, vI x4, u5, u6] [vA 200] S M Q := by
  refine WP.re 2 331 .return_ (0, 0, 0, 0) _ rfl ?_
  exact And.intro (lo200 L) (⟨rfl, rfl, trivial, k⟩)
/-- SoleraCellarModel.isSo(I)Z -/
abbrev e_X9_isSo (d : Nat) (a1 : Int) (S : mSh) (M : mMem) (Q : Option mV → mSh → mMem → Prop) : Prop := WP PR d 195 0 [vA 200, vI a1] [] S M Q
set_option maxRecDepth 100000 in
theorem b_X9_isSo_0 {d : Nat} {S : mSh} {M : mMem} {Q : Option mV → mSh → mMem → Prop} {x1 : Int} (L : Lay S) (hc : R32 (x1 + 5) ∧ (0 ≤ x1 + 5 ∧ x1 + 5 < 9390) ∧ R32 (x1 + 6) ∧ (0 ≤ x1 + 6 ∧ x1 + 6 < 9390)) (kt : M 202 (x1 + 6) ≤ M 202 (x1 + 5) → WP PR d 195 59 [vA 200, vI x1] [] S M Q) (kf : M 202 (x1 + 5) < M 202 (x1 + 6) → WP PR d 195 20 [vA 200, vI x1] [] S M Q) : WP PR d 195 0 [vA 200, vI x1] [] S M Q := by
  refine WP.if2 12 20 17 .ge 42 (0, 0, 0, 0) 59 rfl rfl ?_
  exact And.intro (⟨lo200 L, lf200_3 L⟩) (And.intro (hc.1) (And.intro (inA_of (lo202 L) (ll202 L) hc.2.1) (And.intro (⟨lo200 L, lf200_3 L⟩) (And.intro (hc.2.2.1) (And.intro (inA_of (lo202 L) (ll202 L) hc.2.2.2) (⟨kt, fun hc => kf (Int.not_le.mp hc)⟩))))))
set_option maxRecDepth 100000 in
theorem b_X9_isSo_20 {d : Nat} {S : mSh} {M : mMem} {Q : Option mV → mSh → mMem → Prop} {x1 : Int} (L : Lay S) (hc : R32 (x1 + 5) ∧ (0 ≤ x1 + 5 ∧ x1 + 5 < 9390) ∧ R32 (x1 + 6) ∧ (0 ≤ x1 + 6 ∧ x1 + 6 < 9390)) (k : WP PR d 194 0 [vA 200, vI (M 202 (x1 + 5)), vI (M 202 (x1 + 6)), vU, vU, vU, vU] [] S M (fun r S2 M2 => WP PR (d + 1) 195 41 [vA 200, vI x1] (r.toList ++ []) S2 M2 Q)) : WP PR (d + 1) 195 20 [vA 200, vI x1] [] S M Q := by
  refine WP.ca 13 41 38 (.invokevirtual 401) (0, 194, 0, 0) rfl ?_
  exact And.intro (⟨lo200 L, lf200_3 L⟩) (And.intro (hc.1) (And.intro (inA_of (lo202 L) (ll202 L) hc.2.1) (And.intro (⟨lo200 L, lf200_3 L⟩) (And.intro (hc.2.2.1) (And.intro (inA_of (lo202 L) (ll202 L) hc.2.2.2) (⟨rfl, rfl, rfl, lo200 L, rfl, k⟩))))))
set_option maxRecDepth 100000 in
theorem b_X9_isSo_41 {d : Nat} {S : mSh} {M : mMem} {Q : Option mV → mSh → mMem → Prop} {x1 : Int} (L : Lay S) (kt : ¬ M 200 38 = 0 → WP PR d 195 57 [vA 200, vI x1] [] S M Q) (kf : M 200 38 = 0 → WP PR d 195 48 [vA 200, vI x1] [] S M Q) : WP PR d 195 41 [vA 200, vI x1] [] S M Q := by
  refine WP.if0 2 48 45 .ne 12 (0, 0, 0, 0) 57 rfl rfl ?_
  exact And.intro (lo200 L) (⟨kt, fun hc => kf (Decidable.not_not.mp hc)⟩)
set_option maxRecDepth 100000 in
theorem b_X9_isSo_48 {d : Nat} {S : mSh} {M : mMem} {Q : Option mV → mSh → mMem → Prop} {x1 : Int} (L : Lay S) (kt : ¬ (M 200 39) = 0 → WP PR d 195 59 [vA 200, vI x1] [] S M Q) (kf : (M 200 39) = 0 → WP PR d 195 57 [vA 200, vI x1] [] S M Q) : WP PR d 195 48 [vA 200, vI x1] [] S M Q := by
  refine WP.if0 4 57 54 .ne 5 (0, 0, 0, 0) 59 rfl rfl ?_
  exact And.intro (lo200 L) (⟨fun hc => kt (fun e => hc (lcp_eq.mpr e)), fun hc => kf (lcp_eq.mp (Decidable.not_not.mp hc))⟩)
set_option maxRecDepth 100000 in
theorem b_X9_isSo_57 {d : Nat} {S : mSh} {M : mMem} {Q : Option mV → mSh → mMem → Prop} {x1 : Int} (k : Q (some (vI 0)) S M) : WP PR d 195 57 [vA 200, vI x1] [] S M Q := by
  refine WP.re 1 58 .ireturn (0, 0, 0, 0) _ rfl ?_
  exact ⟨rfl, rfl, Or.inl rfl, k⟩
set_option maxRecDepth 100000 in
theorem b_X9_isSo_59 {d : Nat} {S : mSh} {M : mMem} {Q : Option mV → mSh → mMem → Prop} {x1 : Int} (L : Lay S) (hc : (0 ≤ x1 ∧ x1 < 9390)) (kt : M 202 x1 = 2 → WP PR d 195 110 [vA 200, vI x1] [] S M Q) (kf : ¬ M 202 x1 = 2 → WP PR d 195 69 [vA 200, vI x1] [] S M Q) : WP PR d 195 59 [vA 200, vI x1] [] S M Q := by
  refine WP.if2 5 69 66 .eq 44 (0, 0, 0, 0) 110 rfl rfl ?_
  exact And.intro (⟨lo200 L, lf200_3 L⟩) (And.intro (inA_of (lo202 L) (ll202 L) hc) (⟨kt, fun hc => kf hc⟩))
set_option maxRecDepth 100000 in
theorem b_X9_isSo_69 {d : Nat} {S : mSh} {M : mMem} {Q : Option mV → mSh → mMem → Prop} {x1 : Int} (L : Lay S) (hc : R32 (x1 + 3) ∧ (0 ≤ x1 + 3 ∧ x1 + 3 < 9390) ∧ R32 (x1 + 4) ∧ (0 ≤ x1 + 4 ∧ x1 + 4 < 9390)) (k : WP PR d 194 0 [vA 200, vI (M 202 (x1 + 3)), vI (M 202 (x1 + 4)), vU, vU, vU, vU] [] S M (fun r S2 M2 => WP PR (d + 1) 195 89 [vA 200, vI x1] (r.toList ++ []) S2 M2 Q)) : WP PR (d + 1) 195 69 [vA 200, vI x1] [] S M Q := by
  refine WP.ca 13 89 86 (.invokevirtual 401) (0, 194, 0, 0) rfl ?_
  exact And.intro (⟨lo200 L, lf200_3 L⟩) (And.intro (hc.1) (And.intro (inA_of (lo202 L) (ll202 L) hc.2.1) (And.intro (⟨lo200 L, lf200_3 L⟩) (And.intro (hc.2.2.1) (And.intro (inA_of (lo202 L) (ll202 L) hc.2.2.2) (⟨rfl, rfl, rfl, lo200 L, rfl, k⟩))))))
set_option maxRecDepth 100000 in
theorem b_X9_isSo_89 {d : Nat} {S : mSh} {M : mMem} {Q : Option mV → mSh → mMem → Prop} {x1 : Int} (L : Lay S) (kt : ¬ M 200 38 = 0 → WP PR d 195 108 [vA 200, vI x1] [] S (up M 200 40 (M 200 39)) Q) (kf : M 200 38 = 0 → WP PR d 195 104 [vA 200, vI x1] [] S (up M 200 40 (M 200 39)) Q) : WP PR d 195 89 [vA 200, vI x1] [] S M Q := by
  refine WP.if0 6 104 101 .ne 7 (0, 0, 0, 0) 108 rfl rfl ?_
  exact And.intro (lo200 L) (And.intro (lo200 L) (And.intro (lo200 L) (⟨kt, fun hc => kf (Decidable.not_not.mp hc)⟩)))
set_option maxRecDepth 100000 in
theorem b_X9_isSo_104 {d : Nat} {S : mSh} {M : mMem} {Q : Option mV → mSh → mMem → Prop} {x1 : Int} (k : Q (some (vI 1)) S M) : WP PR d 195 104 [vA 200, vI x1] [] S M Q := by
  refine WP.gt 1 105 4 (0, 0, 0, 0) _ 109 rfl rfl ?_
  show WP PR d 195 109 [vA 200, vI x1] [vI 1] S M Q
  refine WP.re 0 109 .ireturn (0, 0, 0, 0) _ rfl ?_
  exact ⟨rfl, rfl, Or.inr rfl, k⟩
set_option maxRecDepth 100000 in
theorem b_X9_isSo_108 {d : Nat} {S : mSh} {M : mMem} {Q : Option mV → mSh → mMem → Prop} {x1 : Int} (k : Q (some (vI 0)) S M) : WP PR d 195 108 [vA 200, vI x1] [] S M Q := by
  refine WP.re 1 109 .ireturn (0, 0, 0, 0) _ rfl ?_
  exact ⟨rfl, rfl, Or.inl rfl, k⟩
set_option maxRecDepth 100000 in
theorem b_X9_isSo_110 {d : Nat} {S : mSh} {M : mMem} {Q : Option mV → mSh → mMem → Prop} {x1 : Int} (k : Q (some (vI 1)) S M) : WP PR d 195 110 [vA 200, vI x1] [] S M Q := by
  refine WP.re 1 111 .ireturn (0, 0, 0, 0) _ rfl ?_
  exact ⟨rfl, rfl, Or.inr rfl, k⟩
/-- SoleraCellarModel.tells(IIJ)J -/
abbrev e_X9_tells (d : Nat) (a1 a2 a3 : Int) (S : mSh) (M : mMem) (Q : Option mV → mSh → mMem → Prop) : Prop := WP PR d 196 0 [vA 200, vI a1, vI a2, vL a3, vU, vU, vU, vU, vU, vU] [] S M Q
set_option maxRecDepth 100000 in
theorem b_X9_tells_0 {d : Nat} {S : mSh} {M : mMem} {Q : Option mV → mSh → mMem → Prop} {x1 x2 x3 : Int} (L : Lay S) (kt : ¬ M 202 4 = (-1) → WP PR d 196 12 [vA 200, vI x1, vI x2, vL x3, vU, vU, vU, vU, vU, vU] [] S M Q) (kf : M 202 4 = (-1) → WP PR d 196 10 [vA 200, vI x1, vI x2, vL x3, vU, vU, vU, vU, vU, vU] [] S M Q) : WP PR d 196 0 [vA 200, vI x1, vI x2, vL x3, vU, vU, vU, vU, vU, vU] [] S M Q := by
  refine WP.if2 5 10 7 .ne 5 (0, 0, 0, 0) 12 rfl rfl ?_
  exact And.intro (⟨lo200 L, lf200_3 L⟩) (And.intro (inA_of (lo202 L) (ll202 L) (by decide)) (⟨kt, fun hc => kf (Decidable.not_not.mp hc)⟩))
set_option maxRecDepth 100000 in
theorem b_X9_tells_10 {d : Nat} {S : mSh} {M : mMem} {Q : Option mV → mSh → mMem → Prop} {x1 x2 x3 : Int} {u5 u6 u7 u8 u9 : mV} (k : Q (some (vL x3)) S M) : WP PR d 196 10 [vA 200, vI x1, vI x2, vL x3, vU, u5, u6, u7, u8, u9] [] S M Q := by
  refine WP.re 1 11 .lreturn (0, 0, 0, 0) _ rfl ?_
  exact ⟨rfl, rfl, trivial, k⟩
set_option maxRecDepth 100000 in
theorem b_X9_tells_12 {d : Nat} {S : mSh} {M : mMem} {Q : Option mV → mSh → mMem → Prop} {x1 x2 x3 : Int} {u5 u6 u7 u8 u9 : mV} (L : Lay S) (hc : R32 (900 * (M 202 4)) ∧ R32 (3990 + (900 * (M 202 4))) ∧ R32 (170 + x2) ∧ (0 ≤ 170 + x2 ∧ 170 + x2 < 9390) ∧ R32 (178 + x2) ∧ (0 ≤ 178 + x2 ∧ 178 + x2 < 9390)) (k : WP PR d 146 0 [vA 200, vI x2, vU, vU] [] S (up (up (up (up (up M 200 20 0) 200 34 (3990 + (900 * (M 202 4)))) 218 1 x2) 218 2 (M 202 (170 + x2))) 218 3 (M 202 (178 + x2))) (fun r S2 M2 => WP PR (d + 1) 196 93 [vA 200, vI x1, vI x2, vL x3, vU, vI (M 200 20), u6, u7, u8, u9] (r.toList ++ [vI 4, vA 218]) S2 M2 Q)) : WP PR (d + 1) 196 12 [vA 200, vI x1, vI x2, vL x3, vU, u5, u6, u7, u8, u9] [] S M Q := by
  refine WP.ca 49 93 90 (.invokevirtual 166) (0, 146, 0, 0) rfl ?_
  exact And.intro (lo200 L) (And.intro (⟨lo200 L, Or.inl rfl⟩) (And.intro (⟨lo200 L, lf200_3 L⟩) (And.intro (inA_of (lo202 L) (ll202 L) (by decide)) (And.intro (hc.1) (And.intro (hc.2.1) (And.intro (lo200 L) (And.intro (⟨lo200 L, lf200_35 L⟩) (And.intro (inA_of (lo218 L) (ll218 L) (by decide)) (And.intro (⟨lo200 L, lf200_35 L⟩) (And.intro (⟨lo200 L, lf200_3 L⟩) (And.intro (hc.2.2.1) (And.intro (inA_of (lo202 L) (ll202 L) hc.2.2.2.1) (And.intro (inA_of (lo218 L) (ll218 L) (by decide)) (And.intro (⟨lo200 L, lf200_35 L⟩) (And.intro (⟨lo200 L, lf200_3 L⟩) (And.intro (hc.2.2.2.2.1) (And.intro (inA_of (lo202 L) (ll202 L) hc.2.2.2.2.2) (And.intro (inA_of (lo218 L) (ll218 L) (by decide)) (And.intro (⟨lo200 L, lf200_35 L⟩) (⟨rfl, rfl, rfl, lo200 L, rfl, k⟩))))))))))))))))))))
set_option maxRecDepth 100000 in
theorem b_X9_tells_93 {d : Nat} {S : mSh} {M : mMem} {Q : Option mV → mSh → mMem → Prop} {x1 x2 x3 x5 s0 s1 s2 : Int} {u6 u7 u8 u9 : mV} (L : Lay S) (ho1 : isO S s0 21) (hc : R32 (s2.tdiv 1000) ∧ (0 ≤ s1 ∧ s1 < sL S s0)) (k : WP PR d 148 0 [vA 200, vI x2, vU] [] S (up M s0 s1 (s2.tdiv 1000)) (fun r S2 M2 => WP PR (d + 1) 196 109 [vA 200, vI x1, vI x2, vL x3, vU, vI x5, u6, u7, u8, u9] (r.toList ++ [vI 5, vA 218]) S2 M2 Q)) : WP PR (d + 1) 196 93 [vA 200, vI x1, vI x2, vL x3, vU, vI x5, u6, u7, u8, u9] [vI s2, vI s1, vA s0] S M Q := by
  refine WP.ca 9 109 106 (.invokevirtual 377) (0, 148, 0, 0) rfl ?_
  exact And.intro (⟨by decide, hc.1⟩) (And.intro (inA_of (ho1) (rfl) hc.2) (And.intro (⟨lo200 L, lf200_35 L⟩) (⟨rfl, rfl, rfl, lo200 L, rfl, k⟩)))
set_option maxRecDepth 100000 in
theorem b_X9_tells_109 {d : Nat} {S : mSh} {M : mMem} {Q : Option mV → mSh → mMem → Prop} {x1 x2 x3 x5 s0 s1 s2 : Int} {u6 u7 u8 u9 : mV} (L : Lay S) (ho1 : isO S s0 21) (hc : (0 ≤ s1 ∧ s1 < sL S s0)) (k : WP PR d 196 146 [vA 200, vI x1, vI x2, vL x3, vU, vI x5, vL x3, vU, vI 0, u9] [] S (up (up (up M s0 s1 s2) 218 6 ((up M s0 s1 s2) 202 5)) 218 7 ((up M s0 s1 s2) 202 7)) Q) : WP PR d 196 109 [vA 200, vI x1, vI x2, vL x3, vU, vI x5, u6, u7, u8, u9] [vI s2, vI s1, vA s0] S M Q := by
  refine WP.bl 24 146 rfl ?_
  exact And.intro (inA_of (ho1) (rfl) hc) (And.intro (⟨lo200 L, lf200_35 L⟩) (And.intro (⟨lo200 L, lf200_3 L⟩) (And.intro (inA_of (lo202 L) (ll202 L) (by decide)) (And.intro (inA_of (lo218 L) (ll218 L) (by decide)) (And.intro (⟨lo200 L, lf200_35 L⟩) (And.intro (⟨lo200 L, lf200_3 L⟩) (And.intro (inA_of (lo202 L) (ll202 L) (by decide)) (And.intro (inA_of (lo218 L) (ll218 L) (by decide)) (k)))))))))
set_option maxRecDepth 100000 in
theorem b_X9_tells_146 {d : Nat} {S : mSh} {M : mMem} {Q : Option mV → mSh → mMem → Prop} {x1 x2 x3 x5 x6 x8 : Int} {u9 : mV} (L : Lay S) (hc : R32 ((M 200 34) + 1) ∧ (0 ≤ (M 200 34) + 1 ∧ (M 200 34) + 1 < 9390)) (kt : M 202 ((M 200 34) + 1) ≤ x8 → WP PR d 196 217 [vA 200, vI x1, vI x2, vL x3, vU, vI x5, vL x6, vU, vI x8, u9] [] S M Q) (kf : x8 < M 202 ((M 200 34) + 1) → WP PR d 196 162 [vA 200, vI x1, vI x2, vL x3, vU, vI x5, vL x6, vU, vI x8, u9] [] S M Q) : WP PR d 196 146 [vA 200, vI x1, vI x2, vL x3, vU, vI x5, vL x6, vU, vI x8, u9] [] S M Q := by
  refine WP.if2 8 162 159 .ge 58 (0, 0, 0, 0) 217 rfl rfl ?_
  exact And.intro (⟨lo200 L, lf200_3 L⟩) (And.intro (lo200 L) (And.intro (hc.1) (And.intro (inA_of (lo202 L) (ll202 L) hc.2) (⟨kt, fun hc => kf (Int.not_le.mp hc)⟩))))
set_option maxRecDepth 100000 in
theorem b_X9_tells_162 {d : Nat} {S : mSh} {M : mMem} {Q : Option mV → mSh → mMem → Prop} {x1 x2 x3 x5 x6 x8 : Int} {u9 : mV} (L : Lay S) (hc : R32 ((M 200 34) + 2) ∧ R32 (8 * x8) ∧ R32 (((M 200 34) + 2) + (8 * x8)) ∧ (0 ≤ ((M 200 34) + 2) + (8 * x8) ∧ ((M 200 34) + 2) + (8 * x8) < 9390)) (kt : ¬ M 202 (((M 200 34) + 2) + (8 * x8)) = x1 → WP PR d 196 211 [vA 200, vI x1, vI x2, vL x3, vU, vI x5, vL x6, vU, vI x8, vI (((M 200 34) + 2) + (8 * x8))] [] S M Q) (kf : M 202 (((M 200 34) + 2) + (8 * x8)) = x1 → WP PR d 196 187 [vA 200, vI x1, vI x2, vL x3, vU, vI x5, vL x6, vU, vI x8, vI (((M 200 34) + 2) + (8 * x8))] [] S M Q) : WP PR d 196 162 [vA 200, vI x1, vI x2, vL x3, vU, vI x5, vL x6, vU, vI x8, u9] [] S M Q := by
  refine WP.if2 14 187 184 .ne 27 (0, 0, 0, 0) 211 rfl rfl ?_
  exact And.intro (lo200 L) (And.intro (hc.1) (And.intro (hc.2.1) (And.intro (hc.2.2.1) (And.intro (⟨lo200 L, lf200_3 L⟩) (And.intro (inA_of (lo202 L) (ll202 L) hc.2.2.2) (⟨kt, fun hc => kf (Decidable.not_not.mp hc)⟩))))))
set_option maxRecDepth 100000 in
theorem b_X9_tells_187 {d : Nat} {S : mSh} {M : mMem} {Q : Option mV → mSh → mMem → Prop} {x1 x2 x3 x5 x6 x8 x9 : Int} (L : Lay S) (k : WP PR d 195 0 [vA 200, vI x9] [] S M (fun r S2 M2 => WP PR (d + 1) 196 193 [vA 200, vI x1, vI x2, vL x3, vU, vI x5, vL x6, vU, vI x8, vI x9] (r.toList ++ []) S2 M2 Q)) : WP PR (d + 1) 196 187 [vA 200, vI x1, vI x2, vL x3, vU, vI x5, vL x6, vU, vI x8, vI x9] [] S M Q := by
  refine WP.ca 2 193 190 (.invokevirtual 407) (0, 195, 0, 0) rfl ?_
  exact ⟨rfl, rfl, rfl, lo200 L, rfl, k⟩
set_option maxRecDepth 100000 in
theorem b_X9_tells_193 {d : Nat} {S : mSh} {M : mMem} {Q : Option mV → mSh → mMem → Prop} {x1 x2 x3 x5 x6 x8 x9 s0 : Int} (kt : s0 = 0 → WP PR d 196 211 [vA 200, vI x1, vI x2, vL x3, vU, vI x5, vL x6, vU, vI x8, vI x9] [] S M Q) (kf : ¬ s0 = 0 → WP PR d 196 196 [vA 200, vI x1, vI x2, vL x3, vU, vI x5, vL x6, vU, vI x8, vI x9] [] S M Q) : WP PR d 196 193 [vA 200, vI x1, vI x2, vL x3, vU, vI x5, vL x6, vU, vI x8, vI x9] [vI s0] S M Q := by
  refine WP.if0 0 196 193 .eq 18 (0, 0, 0, 0) 211 rfl rfl ?_
  exact ⟨kt, fun hc => kf hc⟩
set_option maxRecDepth 100000 in
theorem b_X9_tells_196 {d : Nat} {S : mSh} {M : mMem} {Q : Option mV → mSh → mMem → Prop} {x1 x2 x3 x5 x6 x8 x9 : Int} (kt : ¬ x1 = 2 → WP PR d 196 205 [vA 200, vI x1, vI x2, vL x3, vU, vI x5, vL x6, vU, vI x8, vI x9] [] S M Q) (kf : x1 = 2 → WP PR d 196 201 [vA 200, vI x1, vI x2, vL x3, vU, vI x5, vL x6, vU, vI x8, vI x9] [] S M Q) : WP PR d 196 196 [vA 200, vI x1, vI x2, vL x3, vU, vI x5, vL x6, vU, vI x8, vI x9] [] S M Q := by
  refine WP.if2 2 201 198 .ne 7 (0, 0, 0, 0) 205 rfl rfl ?_
  exact ⟨kt, fun hc => kf (Decidable.not_not.mp hc)⟩
set_option maxRecDepth 100000 in
theorem b_X9_tells_201 {d : Nat} {S : mSh} {M : mMem} {Q : Option mV → mSh → mMem → Prop} {x1 x2 x3 x5 x6 x8 x9 : Int} (hc : R32 (x8 + 1)) (k : WP PR d 196 146 [vA 200, vI x1, vI x2, vL x3, vU, vI x5, vL 1, vU, vI (x8 + 1), vI x9] [] S M Q) : WP PR d 196 201 [vA 200, vI x1, vI x2, vL x3, vU, vI x5, vL x6, vU, vI x8, vI x9] [] S M Q := by
  refine WP.gt 1 202 7 (0, 0, 0, 0) _ 209 rfl rfl ?_
  show WP PR d 196 209 [vA 200, vI x1, vI x2, vL x3, vU, vI x5, vL x6, vU, vI x8, vI x9] [vL 1] S M Q
  refine WP.gt 2 214 (-68) (0, 0, 0, 0) _ 146 rfl rfl ?_
  exact And.intro (hc) (k)
set_option maxRecDepth 100000 in
theorem b_X9_tells_205 {d : Nat} {S : mSh} {M : mMem} {Q : Option mV → mSh → mMem → Prop} {x1 x2 x3 x5 x6 x8 x9 : Int} (L : Lay S) (hc : R32 (x8 + 1)) (k : WP PR d 196 146 [vA 200, vI x1, vI x2, vL x3, vU, vI x5, vL (M 200 40), vU, vI (x8 + 1), vI x9] [] S M Q) : WP PR d 196 205 [vA 200, vI x1, vI x2, vL x3, vU, vI x5, vL x6, vU, vI x8, vI x9] [] S M Q := by
  refine WP.gt 4 214 (-68) (0, 0, 0, 0) _ 146 rfl rfl ?_
  exact And.intro (lo200 L) (And.intro (hc) (k))
set_option maxRecDepth 100000 in
theorem b_X9_tells_211 {d : Nat} {S : mSh} {M : mMem} {Q : Option mV → mSh → mMem → Prop} {x1 x2 x3 x5 x6 x8 x9 : Int} (hc : R32 (x8 + 1)) (k : WP PR d 196 146 [vA 200, vI x1, vI x2, vL x3, vU, vI x5, vL x6, vU, vI (x8 + 1), vI x9] [] S M Q) : WP PR d 196 211 [vA 200, vI x1, vI x2, vL x3, vU, vI x5, vL x6, vU, vI x8, vI x9] [] S M Q := by
  refine WP.gt 1 214 (-68) (0, 0, 0, 0) _ 146 rfl rfl ?_
  exact And.intro (hc) (k)
set_option maxRecDepth 100000 in
theorem b_X9_tells_217 {d : Nat} {S : mSh} {M : mMem} {Q : Option mV → mSh → mMem → Prop} {x1 x2 x3 x5 x6 x8 : Int} {u9 : mV} (L : Lay S) (hc : (x5 = 0 ∨ x5 = 1)) (k : Q (some (vL x6)) S (up M 200 20 x5)) : WP PR d 196 217 [vA 200, vI x1, vI x2, vL x3, vU, vI x5, vL x6, vU, vI x8, u9] [] S M Q := by
  refine WP.re 4 225 .lreturn (0, 0, 0, 0) _ rfl ?_
  exact And.intro (⟨lo200 L, hc⟩) (⟨rfl, rfl, trivial, k⟩)
/-- SoleraCellarModel.losesOf(I)I -/
abbrev e_X9_losesOf (d : Nat) (a1 : Int) (S : mSh) (M : mMem) (Q : Option mV → mSh → mMem → Prop) : Prop := WP PR d 197 0 [vA 200, vI a1] [] S M Q
set_option maxRecDepth 100000 in
theorem b_X9_losesOf_0 {d : Nat} {S : mSh} {M : mMem} {Q : Option mV → mSh → mMem → Prop} {x1 : Int} (L : Lay S) (k : WP PR d 196 0 [vA 200, vI 0, vI x1, vL 0, vU, vU, vU, vU, vU, vU] [] S M (fun r S2 M2 => WP PR (d + 1) 197 7 [vA 200, vI x1] (r.toList ++ []) S2 M2 Q)) : WP PR (d + 1) 197 0 [vA 200, vI x1] [] S M Q := by
  refine WP.ca 4 7 4 (.invokevirtual 410) (0, 196, 0, 0) rfl ?_
  exact ⟨rfl, rfl, rfl, lo200 L, rfl, k⟩
set_option maxRecDepth 100000 in
theorem b_X9_losesOf_7 {d : Nat} {S : mSh} {M : mMem} {Q : Option mV → mSh → mMem → Prop} {x1 s0 : Int} (k : WP PR d 134 0 [vL s0, vU, vI 0, vI 99] [] S M (fun r S2 M2 => WP PR (d + 1) 197 13 [vA 200, vI x1] (r.toList ++ []) S2 M2 Q)) : WP PR (d + 1) 197 7 [vA 200, vI x1] [vL s0] S M Q := by
  refine WP.ca 2 13 10 (.invokestatic 414) (0, 134, 0, 0) rfl ?_
  exact ⟨rfl, rfl, rfl, trivial, rfl, k⟩
set_option maxRecDepth 100000 in
theorem b_X9_losesOf_13 {d : Nat} {S : mSh} {M : mMem} {Q : Option mV → mSh → mMem → Prop} {x1 s0 : Int} (k : Q (some (vI s0)) S M) : WP PR d 197 13 [vA 200, vI x1] [vI s0] S M Q := by
  refine WP.re 0 13 .ireturn (0, 0, 0, 0) _ rfl ?_
  exact ⟨rfl, rfl, trivial, k⟩
/-- SoleraCellarModel.yieldsOf(I)I -/
abbrev e_X9_yieldsOf (d : Nat) (a1 : Int) (S : mSh) (M : mMem) (Q : Option mV → mSh → mMem → Prop) : Prop := WP PR d 198 0 [vA 200, vI a1] [] S M Q
set_option maxRecDepth 100000 in
theorem b_X9_yieldsOf_0 {d : Nat} {S : mSh} {M : mMem} {Q : Option mV → mSh → mMem → Prop} {x1 : Int} (L : Lay S) (k : WP PR d 196 0 [vA 200, vI 1, vI x1, vL 999, vU, vU, vU, vU, vU, vU] [] S M (fun r S2 M2 => WP PR (d + 1) 198 9 [vA 200, vI x1] (r.toList ++ []) S2 M2 Q)) : WP PR (d + 1) 198 0 [vA 200, vI x1] [] S M Q := by
  refine WP.ca 4 9 6 (.invokevirtual 410) (0, 196, 0, 0) rfl ?_
  exact ⟨rfl, rfl, rfl, lo200 L, rfl, k⟩
set_option maxRecDepth 100000 in
theorem b_X9_yieldsOf_9 {d : Nat} {S : mSh} {M : mMem} {Q : Option mV → mSh → mMem → Prop} {x1 s0 : Int} (k : WP PR d 134 0 [vL s0, vU, vI 0, vI 999] [] S M (fun r S2 M2 => WP PR (d + 1) 198 16 [vA 200, vI x1] (r.toList ++ []) S2 M2 Q)) : WP PR (d + 1) 198 9 [vA 200, vI x1] [vL s0] S M Q := by
  refine WP.ca 2 16 13 (.invokestatic 414) (0, 134, 0, 0) rfl ?_
  exact ⟨rfl, rfl, rfl, trivial, rfl, k⟩
set_option maxRecDepth 100000 in
theorem b_X9_yieldsOf_16 {d : Nat} {S : mSh} {M : mMem} {Q : Option mV → mSh → mMem → Prop} {x1 s0 : Int} (k : Q (some (vI s0)) S M) : WP PR d 198 16 [vA 200, vI x1] [vI s0] S M Q := by
  refine WP.re 0 16 .ireturn (0, 0, 0, 0) _ rfl ?_
  exact ⟨rfl, rfl, trivial, k⟩
/-- SoleraCellarModel.isBarred(I)Z -/
abbrev e_X9_isBarred (d : Nat) (a1 : Int) (S : mSh) (M : mMem) (Q : Option mV → mSh → mMem → Prop) : Prop := WP PR d 199 0 [vA 200, vI a1] [] S M Q
set_option maxRecDepth 100000 in
theorem b_X9_isBarred_0 {d : Nat} {S : mSh} {M : mMem} {Q : Option mV → mSh → mMem → Prop} {x1 : Int} (L : Lay S) (k : WP PR d 196 0 [vA 200, vI 2, vI x1, vL 0, vU, vU, vU, vU, vU, vU] [] S M (fun r S2 M2 => WP PR (d + 1) 199 7 [vA 200, vI x1] (r.toList ++ []) S2 M2 Q)) : WP PR (d + 1) 199 0 [vA 200, vI x1] [] S M Q := by
  refine WP.ca 4 7 4 (.invokevirtual 410) (0, 196, 0, 0) rfl ?_
  exact ⟨rfl, rfl, rfl, lo200 L, rfl, k⟩
set_option maxRecDepth 100000 in
theorem b_X9_isBarred_7 {d : Nat} {S : mSh} {M : mMem} {Q : Option mV → mSh → mMem → Prop} {x1 s0 : Int} (kt : ¬ s0 = 1 → WP PR d 199 16 [vA 200, vI x1] [] S M Q) (kf : s0 = 1 → WP PR d 199 12 [vA 200, vI x1] [] S M Q) : WP PR d 199 7 [vA 200, vI x1] [vL s0] S M Q := by
  refine WP.if0 2 12 9 .ne 7 (0, 0, 0, 0) 16 rfl rfl ?_
  exact ⟨fun hc => kt (fun e => hc (lcp_eq.mpr e)), fun hc => kf (lcp_eq.mp (Decidable.not_not.mp hc))⟩
set_option maxRecDepth 100000 in
theorem b_X9_isBarred_12 {d : Nat} {S : mSh} {M : mMem} {Q : Option mV → mSh → mMem → Prop} {x1 : Int} (k : Q (some (vI 1)) S M) : WP PR d 199 12 [vA 200, vI x1] [] S M Q := by
  refine WP.gt 1 13 4 (0, 0, 0, 0) _ 17 rfl rfl ?_
  show WP PR d 199 17 [vA 200, vI x1] [vI 1] S M Q
  refine WP.re 0 17 .ireturn (0, 0, 0, 0) _ rfl ?_
  exact ⟨rfl, rfl, Or.inr rfl, k⟩
set_option maxRecDepth 100000 in
theorem b_X9_isBarred_16 {d : Nat} {S : mSh} {M : mMem} {Q : Option mV → mSh → mMem → Prop} {x1 : Int} (k : Q (some (vI 0)) S M) : WP PR d 199 16 [vA 200, vI x1] [] S M Q := by
  refine WP.re 1 17 .ireturn (0, 0, 0, 0) _ rfl ?_
  exact ⟨rfl, rfl, Or.inl rfl, k⟩
/-- SoleraCellarModel.takeOut(II)I -/
abbrev e_X9_takeOut (d : Nat) (a1 a2 : Int) (S : mSh) (M : mMem) (Q : Option mV → mSh → mMem → Prop) : Prop := WP PR d 200 0 [vA 200, vI a1, vI a2, vU, vU, vU, vU, vU, vU] [] S M Q
set_option maxRecDepth 100000 in
theorem b_X9_takeOut_0 {d : Nat} {S : mSh} {M : mMem} {Q : Option mV → mSh → mMem → Prop} {x1 x2 : Int} (L : Lay S) (k : WP PR d 146 0 [vA 200, vI x1, vU, vU] [] S M (fun r S2 M2 => WP PR (d + 1) 200 5 [vA 200, vI x1, vI x2, vU, vU, vU, vU, vU, vU] (r.toList ++ []) S2 M2 Q)) : WP PR (d + 1) 200 0 [vA 200, vI x1, vI x2, vU, vU, vU, vU, vU, vU] [] S M Q := by
  refine WP.ca 2 5 2 (.invokevirtual 166) (0, 146, 0, 0) rfl ?_
  exact ⟨rfl, rfl, rfl, lo200 L, rfl, k⟩
set_option maxRecDepth 100000 in
theorem b_X9_takeOut_5 {d : Nat} {S : mSh} {M : mMem} {Q : Option mV → mSh → mMem → Prop} {x1 x2 s0 : Int} {u3 u4 u5 u6 u7 u8 : mV} (hc : R32 (1000 * x2)) (k : WP PR d 200 17 [vA 200, vI x1, vI x2, vL s0, vU, vI (1000 * x2), vI 0, u7, u8] [] S M Q) : WP PR d 200 5 [vA 200, vI x1, vI x2, u3, u4, u5, u6, u7, u8] [vI s0] S M Q := by
  refine WP.bl 8 17 rfl ?_
  exact And.intro (hc) (k)
set_option maxRecDepth 100000 in
theorem b_X9_takeOut_17 {d : Nat} {S : mSh} {M : mMem} {Q : Option mV → mSh → mMem → Prop} {x1 x2 x3 x5 x6 : Int} {u7 u8 : mV} (kt : 20 ≤ x6 → WP PR d 200 67 [vA 200, vI x1, vI x2, vL x3, vU, vI x5, vI x6, u7, u8] [] S M Q) (kf : x6 < 20 → WP PR d 200 24 [vA 200, vI x1, vI x2, vL x3, vU, vI x5, vI x6, u7, u8] [] S M Q) : WP PR d 200 17 [vA 200, vI x1, vI x2, vL x3, vU, vI x5, vI x6, u7, u8] [] S M Q := by
  refine WP.if2 2 24 21 .ge 46 (0, 0, 0, 0) 67 rfl rfl ?_
  exact ⟨kt, fun hc => kf (Int.not_le.mp hc)⟩
set_option maxRecDepth 100000 in
theorem b_X9_takeOut_24 {d : Nat} {S : mSh} {M : mMem} {Q : Option mV → mSh → mMem → Prop} {x1 x2 x3 x5 x6 : Int} {u7 u8 : mV} (L : Lay S) (k : WP PR d 145 0 [vA 200, vI x1, vI x6] [] S M (fun r S2 M2 => WP PR (d + 1) 200 37 [vA 200, vI x1, vI x2, vL x3, vU, vI x5, vI x6, u7, u8] (r.toList ++ [vI x6, vA 221]) S2 M2 Q)) : WP PR (d + 1) 200 24 [vA 200, vI x1, vI x2, vL x3, vU, vI x5, vI x6, u7, u8] [] S M Q := by
  refine WP.ca 6 37 34 (.invokevirtual 160) (0, 145, 0, 0) rfl ?_
  exact And.intro (⟨lo200 L, lf200_41 L⟩) (⟨rfl, rfl, rfl, lo200 L, rfl, k⟩)
set_option maxRecDepth 100000 in
theorem b_X9_takeOut_37 {d : Nat} {S : mSh} {M : mMem} {Q : Option mV → mSh → mMem → Prop} {x1 x2 x3 x5 x6 s0 s1 s2 : Int} {u7 u8 : mV} (L : Lay S) (ho1 : isO S s0 20) (hc : R64 (s2 * x2) ∧ R64 ((s2 * x2) * 1000) ∧ x3 ≠ 0 ∧ R64 (((s2 * x2) * 1000).tdiv x3) ∧ (0 ≤ s1 ∧ s1 < sL S s0) ∧ (0 ≤ x6 ∧ x6 < 20) ∧ R32 (x5 - ((up M s0 s1 (w32 (((s2 * x2) * 1000).tdiv x3))) 221 x6)) ∧ R32 (x6 + 1)) (k : WP PR d 200 17 [vA 200, vI x1, vI x2, vL x3, vU, vI (x5 - ((up M s0 s1 (w32 (((s2 * x2) * 1000).tdiv x3))) 221 x6)), vI (x6 + 1), u7, u8] [] S (up M s0 s1 (w32 (((s2 * x2) * 1000).tdiv x3))) Q) : WP PR d 200 37 [vA 200, vI x1, vI x2, vL x3, vU, vI x5, vI x6, u7, u8] [vI s2, vI s1, vA s0] S M Q := by
  refine WP.gt 18 64 (-47) (0, 0, 0, 0) _ 17 rfl rfl ?_
  exact And.intro (hc.1) (And.intro (hc.2.1) (And.intro (⟨hc.2.2.1, hc.2.2.2.1⟩) (And.intro (inA_of (ho1) (rfl) hc.2.2.2.2.1) (And.intro (⟨lo200 L, lf200_41 L⟩) (And.intro (inA_of (lo221 L) (ll221 L) hc.2.2.2.2.2.1) (And.intro (hc.2.2.2.2.2.2.1) (And.intro (hc.2.2.2.2.2.2.2) (k))))))))
set_option maxRecDepth 100000 in
theorem b_X9_takeOut_67 {d : Nat} {S : mSh} {M : mMem} {Q : Option mV → mSh → mMem → Prop} {x1 x2 x3 x5 x6 : Int} {u7 u8 : mV} (k : WP PR d 200 74 [vA 200, vI x1, vI x2, vL x3, vU, vI x5, vL 0, vU, vI 19] [] S M Q) : WP PR d 200 67 [vA 200, vI x1, vI x2, vL x3, vU, vI x5, vI x6, u7, u8] [] S M Q := by
  refine WP.bl 4 74 rfl ?_
  exact k
set_option maxRecDepth 100000 in
theorem b_X9_takeOut_74 {d : Nat} {S : mSh} {M : mMem} {Q : Option mV → mSh → mMem → Prop} {x1 x2 x3 x5 x6 x8 : Int} (kt : x8 < 0 → WP PR d 200 163 [vA 200, vI x1, vI x2, vL x3, vU, vI x5, vL x6, vU, vI x8] [] S M Q) (kf : 0 ≤ x8 → WP PR d 200 79 [vA 200, vI x1, vI x2, vL x3, vU, vI x5, vL x6, vU, vI x8] [] S M Q) : WP PR d 200 74 [vA 200, vI x1, vI x2, vL x3, vU, vI x5, vL x6, vU, vI x8] [] S M Q := by
  refine WP.if0 1 79 76 .lt 87 (0, 0, 0, 0) 163 rfl rfl ?_
  exact ⟨kt, fun hc => kf (Int.not_lt.mp hc)⟩
set_option maxRecDepth 100000 in
theorem b_X9_takeOut_79 {d : Nat} {S : mSh} {M : mMem} {Q : Option mV → mSh → mMem → Prop} {x1 x2 x3 x5 x6 x8 : Int} (kt : x5 ≤ 0 → WP PR d 200 115 [vA 200, vI x1, vI x2, vL x3, vU, vI x5, vL x6, vU, vI x8] [] S M Q) (kf : 0 < x5 → WP PR d 200 84 [vA 200, vI x1, vI x2, vL x3, vU, vI x5, vL x6, vU, vI x8] [] S M Q) : WP PR d 200 79 [vA 200, vI x1, vI x2, vL x3, vU, vI x5, vL x6, vU, vI x8] [] S M Q := by
  refine WP.if0 1 84 81 .le 34 (0, 0, 0, 0) 115 rfl rfl ?_
  exact ⟨kt, fun hc => kf (Int.not_le.mp hc)⟩
set_option maxRecDepth 100000 in
theorem b_X9_takeOut_84 {d : Nat} {S : mSh} {M : mMem} {Q : Option mV → mSh → mMem → Prop} {x1 x2 x3 x5 x6 x8 : Int} (L : Lay S) (hc : (0 ≤ x8 ∧ x8 < 20)) (k : WP PR d 145 0 [vA 200, vI x1, vI x8] [] S M (fun r S2 M2 => WP PR (d + 1) 200 98 [vA 200, vI x1, vI x2, vL x3, vU, vI x5, vL x6, vU, vI x8] (r.toList ++ [vI (M 221 x8)]) S2 M2 Q)) : WP PR (d + 1) 200 84 [vA 200, vI x1, vI x2, vL x3, vU, vI x5, vL x6, vU, vI x8] [] S M Q := by
  refine WP.ca 7 98 95 (.invokevirtual 160) (0, 145, 0, 0) rfl ?_
  exact And.intro (⟨lo200 L, lf200_41 L⟩) (And.intro (inA_of (lo221 L) (ll221 L) hc) (⟨rfl, rfl, rfl, lo200 L, rfl, k⟩))
set_option maxRecDepth 100000 in
theorem b_X9_takeOut_98 {d : Nat} {S : mSh} {M : mMem} {Q : Option mV → mSh → mMem → Prop} {x1 x2 x3 x5 x6 x8 s0 s1 : Int} (kt : s1 ≤ s0 → WP PR d 200 115 [vA 200, vI x1, vI x2, vL x3, vU, vI x5, vL x6, vU, vI x8] [] S M Q) (kf : s0 < s1 → WP PR d 200 101 [vA 200, vI x1, vI x2, vL x3, vU, vI x5, vL x6, vU, vI x8] [] S M Q) : WP PR d 200 98 [vA 200, vI x1, vI x2, vL x3, vU, vI x5, vL x6, vU, vI x8] [vI s1, vI s0] S M Q := by
  refine WP.if2 0 101 98 .ge 17 (0, 0, 0, 0) 115 rfl rfl ?_
  exact ⟨kt, fun hc => kf (Int.not_le.mp hc)⟩
set_option maxRecDepth 100000 in
theorem b_X9_takeOut_101_i {d : Nat} {S : mSh} {M : mMem} {Q : Option mV → mSh → mMem → Prop} {x1 x2 x3 x5 x6 x8 : Int} {v1 : Int} (ev1 : (up M 221 x8 ((M 221 x8) + 1)) 221 x8 = v1) {v2 : Int} (ev2 : (up M 221 x8 ((M 221 x8) + 1)) 221 x8 = v2) (L : Lay S) (hc : (0 ≤ x8 ∧ x8 < 20) ∧ R32 ((M 221 x8) + 1) ∧ R32 (x5 + (-1)) ∧ R64 (x8 * v1) ∧ R64 (x6 + (x8 * v1)) ∧ R32 (20 * x1) ∧ R32 (10 + (20 * x1)) ∧ R32 ((10 + (20 * x1)) + x8) ∧ (0 ≤ (10 + (20 * x1)) + x8 ∧ (10 + (20 * x1)) + x8 < 9390) ∧ R32 ((M 202 ((10 + (20 * x1)) + x8)) - v2) ∧ R32 (x8 + (-1))) (k : WP PR d 200 74 [vA 200, vI x1, vI x2, vL x3, vU, vI (x5 + (-1)), vL (x6 + (x8 * v1)), vU, vI (x8 + (-1))] [] S (up (up M 221 x8 ((M 221 x8) + 1)) 202 ((10 + (20 * x1)) + x8) ((M 202 ((10 + (20 * x1)) + x8)) - v2)) Q) : WP PR d 200 101 [vA 200, vI x1, vI x2, vL x3, vU, vI x5, vL x6, vU, vI x8] [] S M Q := by
  subst ev1
  subst ev2
  refine WP.gt 38 160 (-86) (0, 0, 0, 0) _ 74 rfl rfl ?_
  exact And.intro (⟨lo200 L, lf200_41 L⟩) (And.intro (inA_of (lo221 L) (ll221 L) hc.1) (And.intro (hc.2.1) (And.intro (inA_of (lo221 L) (ll221 L) hc.1) (And.intro (hc.2.2.1) (And.intro (⟨lo200 L, lf200_41 L⟩) (And.intro (inA_of (lo221 L) (ll221 L) hc.1) (And.intro (hc.2.2.2.1) (And.intro (hc.2.2.2.2.1) (And.intro (⟨lo200 L, lf200_3 L⟩) (And.intro (hc.2.2.2.2.2.1) (And.intro (hc.2.2.2.2.2.2.1) (And.intro (hc.2.2.2.2.2.2.2.1) (And.intro (inA_of (lo202 L) (ll202 L) hc.2.2.2.2.2.2.2.2.1) (And.intro (⟨lo200 L, lf200_41 L⟩) (And.intro (inA_of (lo221 L) (ll221 L) hc.1) (And.intro (hc.2.2.2.2.2.2.2.2.2.1) (And.intro (inA_of (lo202 L) (ll202 L) hc.2.2.2.2.2.2.2.2.1) (And.intro (hc.2.2.2.2.2.2.2.2.2.2) (k)))))))))))))))))))
theorem b_X9_takeOut_101 {d : Nat} {S : mSh} {M : mMem} {Q : Option mV → mSh → mMem → Prop} {x1 x2 x3 x5 x6 x8 : Int} (L : Lay S) (hc : (0 ≤ x8 ∧ x8 < 20) ∧ R32 ((M 221 x8) + 1) ∧ R32 (x5 + (-1)) ∧ R64 (x8 * ((M 221 x8) + 1)) ∧ R64 (x6 + (x8 * ((M 221 x8) + 1))) ∧ R32 (20 * x1) ∧ R32 (10 + (20 * x1)) ∧ R32 ((10 + (20 * x1)) + x8) ∧ (0 ≤ (10 + (20 * x1)) + x8 ∧ (10 + (20 * x1)) + x8 < 9390) ∧ R32 ((M 202 ((10 + (20 * x1)) + x8)) - ((M 221 x8) + 1)) ∧ R32 (x8 + (-1))) (k : WP PR d 200 74 [vA 200, vI x1, vI x2, vL x3, vU, vI (x5 + (-1)), vL (x6 + (x8 * ((M 221 x8) + 1))), vU, vI (x8 + (-1))] [] S (up (up M 221 x8 ((M 221 x8) + 1)) 202 ((10 + (20 * x1)) + x8) ((M 202 ((10 + (20 * x1)) + x8)) - ((M 221 x8) + 1))) Q) : WP PR d 200 101 [vA 200, vI x1, vI x2, vL x3, vU, vI x5, vL x6, vU, vI x8] [] S M Q := b_X9_takeOut_101_i (show (up M 221 x8 ((M 221 x8) + 1)) 221 x8 = (M 221 x8) + 1 from up_s _ _ _ _) (show (up M 221 x8 ((M 221 x8) + 1)) 221 x8 = (M 221 x8) + 1 from up_s _ _ _ _) L hc k
set_option maxRecDepth 100000 in
theorem b_X9_takeOut_115 {d : Nat} {S : mSh} {M : mMem} {Q : Option mV → mSh → mMem → Prop} {x1 x2 x3 x5 x6 x8 : Int} (L : Lay S) (hc : (0 ≤ x8 ∧ x8 < 20) ∧ R64 (x8 * (M 221 x8)) ∧ R64 (x6 + (x8 * (M 221 x8))) ∧ R32 (20 * x1) ∧ R32 (10 + (20 * x1)) ∧ R32 ((10 + (20 * x1)) + x8) ∧ (0 ≤ (10 + (20 * x1)) + x8 ∧ (10 + (20 * x1)) + x8 < 9390) ∧ R32 ((M 202 ((10 + (20 * x1)) + x8)) - (M 221 x8)) ∧ R32 (x8 + (-1))) (k : WP PR d 200 74 [vA 200, vI x1, vI x2, vL x3, vU, vI x5, vL (x6 + (x8 * (M 221 x8))), vU, vI (x8 + (-1))] [] S (up M 202 ((10 + (20 * x1)) + x8) ((M 202 ((10 + (20 * x1)) + x8)) - (M 221 x8))) Q) : WP PR d 200 115 [vA 200, vI x1, vI x2, vL x3, vU, vI x5, vL x6, vU, vI x8] [] S M Q := by
  refine WP.gt 29 160 (-86) (0, 0, 0, 0) _ 74 rfl rfl ?_
  exact And.intro (⟨lo200 L, lf200_41 L⟩) (And.intro (inA_of (lo221 L) (ll221 L) hc.1) (And.intro (hc.2.1) (And.intro (hc.2.2.1) (And.intro (⟨lo200 L, lf200_3 L⟩) (And.intro (hc.2.2.2.1) (And.intro (hc.2.2.2.2.1) (And.intro (hc.2.2.2.2.2.1) (And.intro (inA_of (lo202 L) (ll202 L) hc.2.2.2.2.2.2.1) (And.intro (⟨lo200 L, lf200_41 L⟩) (And.intro (inA_of (lo221 L) (ll221 L) hc.1) (And.intro (hc.2.2.2.2.2.2.2.1) (And.intro (inA_of (lo202 L) (ll202 L) hc.2.2.2.2.2.2.1) (And.intro (hc.2.2.2.2.2.2.2.2) (k))))))))))))))
set_option maxRecDepth 100000 in
theorem b_X9_takeOut_163 {d : Nat} {S : mSh} {M : mMem} {Q : Option mV → mSh → mMem → Prop} {x1 x2 x3 x5 x6 x8 : Int} (hc : x2 ≠ 0 ∧ R64 (x6.tdiv x2)) (k : Q (some (vI (w32 (x6.tdiv x2)))) S M) : WP PR d 200 163 [vA 200, vI x1, vI x2, vL x3, vU, vI x5, vL x6, vU, vI x8] [] S M Q := by
  refine WP.re 5 169 .ireturn (0, 0, 0, 0) _ rfl ?_
  exact And.intro (⟨hc.1, hc.2⟩) (⟨rfl, rfl, trivial, k⟩)
/-- SoleraCellarModel.whyNotPour(II)I -/
abbrev e_X9_whyNotPour (d : Nat) (a1 a2 : Int) (S : mSh) (M : mMem) (Q : Option mV → mSh → mMem → Prop) : Prop := WP PR d 201 0 [vA 200, vI a1, vI a2] [] S M Q
set_option maxRecDepth 100000 in
theorem b_X9_whyNotPour_0 {d : Nat} {S : mSh} {M : mMem} {Q : Option mV → mSh → mMem → Prop} {x1 x2 : Int} (k : WP PR d 132 0 [vL x2, vU, vL 1, vU, vL 999, vU] [] S M (fun r S2 M2 => WP PR (d + 1) 201 9 [vA 200, vI x1, vI x2] (r.toList ++ []) S2 M2 Q)) : WP PR (d + 1) 201 0 [vA 200, vI x1, vI x2] [] S M Q := by
  refine WP.ca 4 9 6 (.invokestatic 153) (0, 132, 0, 0) rfl ?_
  exact ⟨rfl, rfl, rfl, trivial, rfl, k⟩
set_option maxRecDepth 100000 in
theorem b_X9_whyNotPour_9 {d : Nat} {S : mSh} {M : mMem} {Q : Option mV → mSh → mMem → Prop} {x1 x2 s0 : Int} (kt : ¬ s0 = 0 → WP PR d 201 14 [vA 200, vI x1, vI x2] [] S M Q) (kf : s0 = 0 → WP PR d 201 12 [vA 200, vI x1, vI x2] [] S M Q) : WP PR d 201 9 [vA 200, vI x1, vI x2] [vI s0] S M Q := by
  refine WP.if0 0 12 9 .ne 5 (0, 0, 0, 0) 14 rfl rfl ?_
  exact ⟨kt, fun hc => kf (Decidable.not_not.mp hc)⟩
set_option maxRecDepth 100000 in
theorem b_X9_whyNotPour_12 {d : Nat} {S : mSh} {M : mMem} {Q : Option mV → mSh → mMem → Prop} {x1 x2 : Int} (k : Q (some (vI (-1))) S M) : WP PR d 201 12 [vA 200, vI x1, vI x2] [] S M Q := by
  refine WP.re 1 13 .ireturn (0, 0, 0, 0) _ rfl ?_
  exact ⟨rfl, rfl, trivial, k⟩
set_option maxRecDepth 100000 in
theorem b_X9_whyNotPour_14 {d : Nat} {S : mSh} {M : mMem} {Q : Option mV → mSh → mMem → Prop} {x1 x2 : Int} (L : Lay S) (k : WP PR d 144 0 [vA 200, vI x1] [] S M (fun r S2 M2 => WP PR (d + 1) 201 19 [vA 200, vI x1, vI x2] (r.toList ++ []) S2 M2 Q)) : WP PR (d + 1) 201 14 [vA 200, vI x1, vI x2] [] S M Q := by
  refine WP.ca 2 19 16 (.invokevirtual 184) (0, 144, 0, 0) rfl ?_
  exact ⟨rfl, rfl, rfl, lo200 L, rfl, k⟩
set_option maxRecDepth 100000 in
theorem b_X9_whyNotPour_19 {d : Nat} {S : mSh} {M : mMem} {Q : Option mV → mSh → mMem → Prop} {x1 x2 s0 : Int} (kt : ¬ s0 = 0 → WP PR d 201 25 [vA 200, vI x1, vI x2] [] S M Q) (kf : s0 = 0 → WP PR d 201 22 [vA 200, vI x1, vI x2] [] S M Q) : WP PR d 201 19 [vA 200, vI x1, vI x2] [vI s0] S M Q := by
  refine WP.if0 0 22 19 .ne 6 (0, 0, 0, 0) 25 rfl rfl ?_
  exact ⟨kt, fun hc => kf (Decidable.not_not.mp hc)⟩
set_option maxRecDepth 100000 in
theorem b_X9_whyNotPour_22 {d : Nat} {S : mSh} {M : mMem} {Q : Option mV → mSh → mMem → Prop} {x1 x2 : Int} (k : Q (some (vI (-2))) S M) : WP PR d 201 22 [vA 200, vI x1, vI x2] [] S M Q := by
  refine WP.re 1 24 .ireturn (0, 0, 0, 0) _ rfl ?_
  exact ⟨rfl, rfl, trivial, k⟩
set_option maxRecDepth 100000 in
theorem b_X9_whyNotPour_25 {d : Nat} {S : mSh} {M : mMem} {Q : Option mV → mSh → mMem → Prop} {x1 x2 : Int} (L : Lay S) (k : WP PR d 151 0 [vA 200, vI x1] [] S M (fun r S2 M2 => WP PR (d + 1) 201 30 [vA 200, vI x1, vI x2] (r.toList ++ []) S2 M2 Q)) : WP PR (d + 1) 201 25 [vA 200, vI x1, vI x2] [] S M Q := by
  refine WP.ca 2 30 27 (.invokevirtual 374) (0, 151, 0, 0) rfl ?_
  exact ⟨rfl, rfl, rfl, lo200 L, rfl, k⟩
set_option maxRecDepth 100000 in
theorem b_X9_whyNotPour_30 {d : Nat} {S : mSh} {M : mMem} {Q : Option mV → mSh → mMem → Prop} {x1 x2 s0 : Int} (hc : R32 (1000 * x2)) (kt : 1000 * x2 ≤ s0 → WP PR d 201 43 [vA 200, vI x1, vI x2] [] S M Q) (kf : s0 < 1000 * x2 → WP PR d 201 38 [vA 200, vI x1, vI x2] [] S M Q) : WP PR d 201 30 [vA 200, vI x1, vI x2] [vI s0] S M Q := by
  refine WP.if2 3 38 35 .ge 8 (0, 0, 0, 0) 43 rfl rfl ?_
  exact And.intro (hc) (⟨kt, fun hc => kf (Int.not_le.mp hc)⟩)
set_option maxRecDepth 100000 in
theorem b_X9_whyNotPour_38 {d : Nat} {S : mSh} {M : mMem} {Q : Option mV → mSh → mMem → Prop} {x1 x2 : Int} (k : Q (some (vI (-3))) S M) : WP PR d 201 38 [vA 200, vI x1, vI x2] [] S M Q := by
  refine WP.gt 1 40 4 (0, 0, 0, 0) _ 44 rfl rfl ?_
  show WP PR d 201 44 [vA 200, vI x1, vI x2] [vI (-3)] S M Q
  refine WP.re 0 44 .ireturn (0, 0, 0, 0) _ rfl ?_
  exact ⟨rfl, rfl, trivial, k⟩
set_option maxRecDepth 100000 in
theorem b_X9_whyNotPour_43 {d : Nat} {S : mSh} {M : mMem} {Q : Option mV → mSh → mMem → Prop} {x1 x2 : Int} (k : Q (some (vI 0)) S M) : WP PR d 201 43 [vA 200, vI x1, vI x2] [] S M Q := by
  refine WP.re 1 44 .ireturn (0, 0, 0, 0) _ rfl ?_
  exact ⟨rfl, rfl, trivial, k⟩
/-- SoleraCellarModel.pourIt(II)I -/
abbrev e_X9_pourIt (d : Nat) (a1 a2 : Int) (S : mSh) (M : mMem) (Q : Option mV → mSh → mMem → Prop) : Prop := WP PR d 202 0 [vA 200, vI a1, vI a2] [] S M Q
set_option maxRecDepth 100000 in
theorem b_X9_pourIt_0 {d : Nat} {S : mSh} {M : mMem} {Q : Option mV → mSh → mMem → Prop} {x1 x2 : Int} (L : Lay S) (hc : R32 (20 * x1) ∧ R32 (10 + (20 * x1)) ∧ (0 ≤ 10 + (20 * x1) ∧ 10 + (20 * x1) < 9390) ∧ R32 (1000 * x2) ∧ R32 ((M 202 (10 + (20 * x1))) + (1000 * x2))) (k : WP PR d 146 0 [vA 200, vI x1, vU, vU] [] S (up M 202 (10 + (20 * x1)) ((M 202 (10 + (20 * x1))) + (1000 * x2))) (fun r S2 M2 => WP PR (d + 1) 202 25 [vA 200, vI x1, vI x2] (r.toList ++ []) S2 M2 Q)) : WP PR (d + 1) 202 0 [vA 200, vI x1, vI x2] [] S M Q := by
  refine WP.ca 16 25 22 (.invokevirtual 166) (0, 146, 0, 0) rfl ?_
  exact And.intro (⟨lo200 L, lf200_3 L⟩) (And.intro (hc.1) (And.intro (hc.2.1) (And.intro (inA_of (lo202 L) (ll202 L) hc.2.2.1) (And.intro (hc.2.2.2.1) (And.intro (hc.2.2.2.2) (And.intro (inA_of (lo202 L) (ll202 L) hc.2.2.1) (⟨rfl, rfl, rfl, lo200 L, rfl, k⟩)))))))
set_option maxRecDepth 100000 in
theorem b_X9_pourIt_25 {d : Nat} {S : mSh} {M : mMem} {Q : Option mV → mSh → mMem → Prop} {x1 x2 s0 : Int} (hc : R32 (s0.tdiv 1000)) (k : Q (some (vI (s0.tdiv 1000))) S M) : WP PR d 202 25 [vA 200, vI x1, vI x2] [vI s0] S M Q := by
  refine WP.re 2 29 .ireturn (0, 0, 0, 0) _ rfl ?_
  exact And.intro (⟨by decide, hc⟩) (⟨rfl, rfl, trivial, k⟩)
/-- SoleraCellarModel.pourNow(II)I -/
abbrev e_X9_pourNow (d : Nat) (a1 a2 : Int) (S : mSh) (M : mMem) (Q : Option mV → mSh → mMem → Prop) : Prop := WP PR d 203 0 [vA 200, vI a1, vI a2, vU] [] S M Q
set_option maxRecDepth 100000 in
theorem b_X9_pourNow_0 {d : Nat} {S : mSh} {M : mMem} {Q : Option mV → mSh → mMem → Prop} {x1 x2 : Int} (L : Lay S) (k : WP PR d 201 0 [vA 200, vI x1, vI x2] [] S M (fun r S2 M2 => WP PR (d + 1) 203 6 [vA 200, vI x1, vI x2, vU] (r.toList ++ []) S2 M2 Q)) : WP PR (d + 1) 203 0 [vA 200, vI x1, vI x2, vU] [] S M Q := by
  refine WP.ca 3 6 3 (.invokevirtual 418) (0, 201, 0, 0) rfl ?_
  exact ⟨rfl, rfl, rfl, lo200 L, rfl, k⟩
set_option maxRecDepth 100000 in
theorem b_X9_pourNow_6 {d : Nat} {S : mSh} {M : mMem} {Q : Option mV → mSh → mMem → Prop} {x1 x2 s0 : Int} {u3 : mV} (kt : 0 ≤ s0 → WP PR d 203 13 [vA 200, vI x1, vI x2, vI s0] [] S M Q) (kf : s0 < 0 → WP PR d 203 11 [vA 200, vI x1, vI x2, vI s0] [] S M Q) : WP PR d 203 6 [vA 200, vI x1, vI x2, u3] [vI s0] S M Q := by
  refine WP.if0 2 11 8 .ge 5 (0, 0, 0, 0) 13 rfl rfl ?_
  exact ⟨kt, fun hc => kf (Int.not_le.mp hc)⟩
set_option maxRecDepth 100000 in
theorem b_X9_pourNow_11 {d : Nat} {S : mSh} {M : mMem} {Q : Option mV → mSh → mMem → Prop} {x1 x2 x3 : Int} (k : Q (some (vI x3)) S M) : WP PR d 203 11 [vA 200, vI x1, vI x2, vI x3] [] S M Q := by
  refine WP.re 1 12 .ireturn (0, 0, 0, 0) _ rfl ?_
  exact ⟨rfl, rfl, trivial, k⟩
set_option maxRecDepth 100000 in
theorem b_X9_pourNow_13 {d : Nat} {S : mSh} {M : mMem} {Q : Option mV → mSh → mMem → Prop} {x1 x2 x3 : Int} (L : Lay S) (k : WP PR d 140 0 [vA 200, vI 0, vU] [] S M (fun r S2 M2 => WP PR (d + 1) 203 18 [vA 200, vI x1, vI x2, vI x3] (r.toList ++ []) S2 M2 Q)) : WP PR (d + 1) 203 13 [vA 200, vI x1, vI x2, vI x3] [] S M Q := by
  refine WP.ca 2 18 15 (.invokevirtual 421) (0, 140, 0, 0) rfl ?_
  exact ⟨rfl, rfl, rfl, lo200 L, rfl, k⟩
set_option maxRecDepth 100000 in
theorem b_X9_pourNow_18 {d : Nat} {S : mSh} {M : mMem} {Q : Option mV → mSh → mMem → Prop} {x1 x2 x3 : Int} (L : Lay S) (k : WP PR d 202 0 [vA 200, vI x1, vI x2] [] S M (fun r S2 M2 => WP PR (d + 1) 203 24 [vA 200, vI x1, vI x2, vI x3] (r.toList ++ []) S2 M2 Q)) : WP PR (d + 1) 203 18 [vA 200, vI x1, vI x2, vI x3] [] S M Q := by
  refine WP.ca 3 24 21 (.invokevirtual 424) (0, 202, 0, 0) rfl ?_
  exact ⟨rfl, rfl, rfl, lo200 L, rfl, k⟩
set_option maxRecDepth 100000 in
theorem b_X9_pourNow_24 {d : Nat} {S : mSh} {M : mMem} {Q : Option mV → mSh → mMem → Prop} {x1 x2 x3 s0 : Int} (k : Q (some (vI s0)) S M) : WP PR d 203 24 [vA 200, vI x1, vI x2, vI x3] [vI s0] S M Q := by
  refine WP.re 0 24 .ireturn (0, 0, 0, 0) _ rfl ?_
  exact ⟨rfl, rfl, trivial, k⟩
/-- SoleraCellarModel.pour(II)I -/
abbrev e_X9_pour (d : Nat) (a1 a2 : Int) (S : mSh) (M : mMem) (Q : Option mV → mSh → mMem → Prop) : Prop := WP PR d 204 0 [vA 200, vI a1, vI a2] [] S M Q
set_option maxRecDepth 100000 in
theorem b_X9_pour_0 {d : Nat} {S : mSh} {M : mMem} {Q : Option mV → mSh → mMem → Prop} {x1 x2 : Int} (L : Lay S) (k : WP PR d 203 0 [vA 200, vI x1, vI x2, vU] [] S (up M 200 0 0) (fun r S2 M2 => WP PR (d + 1) 204 12 [vA 200, vI x1, vI x2] (r.toList ++ [vA 200]) S2 M2 Q)) : WP PR (d + 1) 204 0 [vA 200, vI x1, vI x2] [] S M Q := by
  refine WP.ca 7 12 9 (.invokevirtual 427) (0, 203, 0, 0) rfl ?_
  exact And.intro (lo200 L) (⟨rfl, rfl, rfl, lo200 L, rfl, k⟩)
set_option maxRecDepth 100000 in
theorem b_X9_pour_12 {d : Nat} {S : mSh} {M : mMem} {Q : Option mV → mSh → mMem → Prop} {x1 x2 s1 : Int} (L : Lay S) (k : WP PR d 135 0 [vA 200, vI s1] [] S M (fun r S2 M2 => WP PR (d + 1) 204 15 [vA 200, vI x1, vI x2] (r.toList ++ []) S2 M2 Q)) : WP PR (d + 1) 204 12 [vA 200, vI x1, vI x2] [vI s1, vA 200] S M Q := by
  refine WP.ca 0 15 12 (.invokevirtual 142) (0, 135, 0, 0) rfl ?_
  exact ⟨rfl, rfl, rfl, lo200 L, rfl, k⟩
set_option maxRecDepth 100000 in
theorem b_X9_pour_15 {d : Nat} {S : mSh} {M : mMem} {Q : Option mV → mSh → mMem → Prop} {x1 x2 s0 : Int} (k : Q (some (vI s0)) S M) : WP PR d 204 15 [vA 200, vI x1, vI x2] [vI s0] S M Q := by
  refine WP.re 0 15 .ireturn (0, 0, 0, 0) _ rfl ?_
  exact ⟨rfl, rfl, trivial, k⟩
/-- SoleraCellarModel.whyNotRack(III)I -/
abbrev e_X9_whyNotRack (d : Nat) (a1 a2 a3 : Int) (S : mSh) (M : mMem) (Q : Option mV → mSh → mMem → Prop) : Prop := WP PR d 205 0 [vA 200, vI a1, vI a2, vI a3, vU] [] S M Q
set_option maxRecDepth 100000 in
theorem b_X9_whyNotRack_0 {d : Nat} {S : mSh} {M : mMem} {Q : Option mV → mSh → mMem → Prop} {x1 x2 x3 : Int} (k : WP PR d 132 0 [vL x3, vU, vL 1, vU, vL 999, vU] [] S M (fun r S2 M2 => WP PR (d + 1) 205 9 [vA 200, vI x1, vI x2, vI x3, vU] (r.toList ++ []) S2 M2 Q)) : WP PR (d + 1) 205 0 [vA 200, vI x1, vI x2, vI x3, vU] [] S M Q := by
  refine WP.ca 4 9 6 (.invokestatic 153) (0, 132, 0, 0) rfl ?_
  exact ⟨rfl, rfl, rfl, trivial, rfl, k⟩
set_option maxRecDepth 100000 in
theorem b_X9_whyNotRack_9 {d : Nat} {S : mSh} {M : mMem} {Q : Option mV → mSh → mMem → Prop} {x1 x2 x3 s0 : Int} {u4 : mV} (kt : ¬ s0 = 0 → WP PR d 205 14 [vA 200, vI x1, vI x2, vI x3, u4] [] S M Q) (kf : s0 = 0 → WP PR d 205 12 [vA 200, vI x1, vI x2, vI x3, u4] [] S M Q) : WP PR d 205 9 [vA 200, vI x1, vI x2, vI x3, u4] [vI s0] S M Q := by
  refine WP.if0 0 12 9 .ne 5 (0, 0, 0, 0) 14 rfl rfl ?_
  exact ⟨kt, fun hc => kf (Decidable.not_not.mp hc)⟩
set_option maxRecDepth 100000 in
theorem b_X9_whyNotRack_12 {d : Nat} {S : mSh} {M : mMem} {Q : Option mV → mSh → mMem → Prop} {x1 x2 x3 : Int} {u4 : mV} (k : Q (some (vI (-1))) S M) : WP PR d 205 12 [vA 200, vI x1, vI x2, vI x3, u4] [] S M Q := by
  refine WP.re 1 13 .ireturn (0, 0, 0, 0) _ rfl ?_
  exact ⟨rfl, rfl, trivial, k⟩
set_option maxRecDepth 100000 in
theorem b_X9_whyNotRack_14 {d : Nat} {S : mSh} {M : mMem} {Q : Option mV → mSh → mMem → Prop} {x1 x2 x3 : Int} {u4 : mV} (L : Lay S) (k : WP PR d 144 0 [vA 200, vI x1] [] S M (fun r S2 M2 => WP PR (d + 1) 205 19 [vA 200, vI x1, vI x2, vI x3, u4] (r.toList ++ []) S2 M2 Q)) : WP PR (d + 1) 205 14 [vA 200, vI x1, vI x2, vI x3, u4] [] S M Q := by
  refine WP.ca 2 19 16 (.invokevirtual 184) (0, 144, 0, 0) rfl ?_
  exact ⟨rfl, rfl, rfl, lo200 L, rfl, k⟩
set_option maxRecDepth 100000 in
theorem b_X9_whyNotRack_19 {d : Nat} {S : mSh} {M : mMem} {Q : Option mV → mSh → mMem → Prop} {x1 x2 x3 s0 : Int} {u4 : mV} (kt : s0 = 0 → WP PR d 205 30 [vA 200, vI x1, vI x2, vI x3, u4] [] S M Q) (kf : ¬ s0 = 0 → WP PR d 205 22 [vA 200, vI x1, vI x2, vI x3, u4] [] S M Q) : WP PR d 205 19 [vA 200, vI x1, vI x2, vI x3, u4] [vI s0] S M Q := by
  refine WP.if0 0 22 19 .eq 11 (0, 0, 0, 0) 30 rfl rfl ?_
  exact ⟨kt, fun hc => kf hc⟩
set_option maxRecDepth 100000 in
theorem b_X9_whyNotRack_22 {d : Nat} {S : mSh} {M : mMem} {Q : Option mV → mSh → mMem → Prop} {x1 x2 x3 : Int} {u4 : mV} (L : Lay S) (k : WP PR d 144 0 [vA 200, vI x2] [] S M (fun r S2 M2 => WP PR (d + 1) 205 27 [vA 200, vI x1, vI x2, vI x3, u4] (r.toList ++ []) S2 M2 Q)) : WP PR (d + 1) 205 22 [vA 200, vI x1, vI x2, vI x3, u4] [] S M Q := by
  refine WP.ca 2 27 24 (.invokevirtual 184) (0, 144, 0, 0) rfl ?_
  exact ⟨rfl, rfl, rfl, lo200 L, rfl, k⟩
set_option maxRecDepth 100000 in
theorem b_X9_whyNotRack_27 {d : Nat} {S : mSh} {M : mMem} {Q : Option mV → mSh → mMem → Prop} {x1 x2 x3 s0 : Int} {u4 : mV} (kt : ¬ s0 = 0 → WP PR d 205 33 [vA 200, vI x1, vI x2, vI x3, u4] [] S M Q) (kf : s0 = 0 → WP PR d 205 30 [vA 200, vI x1, vI x2, vI x3, u4] [] S M Q) : WP PR d 205 27 [vA 200, vI x1, vI x2, vI x3, u4] [vI s0] S M Q := by
  refine WP.if0 0 30 27 .ne 6 (0, 0, 0, 0) 33 rfl rfl ?_
  exact ⟨kt, fun hc => kf (Decidable.not_not.mp hc)⟩
set_option maxRecDepth 100000 in
theorem b_X9_whyNotRack_30 {d : Nat} {S : mSh} {M : mMem} {Q : Option mV → mSh → mMem → Prop} {x1 x2 x3 : Int} {u4 : mV} (k : Q (some (vI (-2))) S M) : WP PR d 205 30 [vA 200, vI x1, vI x2, vI x3, u4] [] S M Q := by
  refine WP.re 1 32 .ireturn (0, 0, 0, 0) _ rfl ?_
  exact ⟨rfl, rfl, trivial, k⟩
set_option maxRecDepth 100000 in
theorem b_X9_whyNotRack_33 {d : Nat} {S : mSh} {M : mMem} {Q : Option mV → mSh → mMem → Prop} {x1 x2 x3 : Int} {u4 : mV} (L : Lay S) (hc : R32 (170 + x2) ∧ (0 ≤ 170 + x2 ∧ 170 + x2 < 9390) ∧ R32 (170 + x1) ∧ (0 ≤ 170 + x1 ∧ 170 + x1 < 9390) ∧ R32 ((M 202 (170 + x1)) - 1)) (kt : ¬ M 202 (170 + x2) = (M 202 (170 + x1)) - 1 → WP PR d 205 78 [vA 200, vI x1, vI x2, vI x3, u4] [] S M Q) (kf : M 202 (170 + x2) = (M 202 (170 + x1)) - 1 → WP PR d 205 58 [vA 200, vI x1, vI x2, vI x3, u4] [] S M Q) : WP PR d 205 33 [vA 200, vI x1, vI x2, vI x3, u4] [] S M Q := by
  refine WP.if2 14 58 55 .ne 23 (0, 0, 0, 0) 78 rfl rfl ?_
  exact And.intro (⟨lo200 L, lf200_3 L⟩) (And.intro (hc.1) (And.intro (inA_of (lo202 L) (ll202 L) hc.2.1) (And.intro (⟨lo200 L, lf200_3 L⟩) (And.intro (hc.2.2.1) (And.intro (inA_of (lo202 L) (ll202 L) hc.2.2.2.1) (And.intro (hc.2.2.2.2) (⟨kt, fun hc => kf (Decidable.not_not.mp hc)⟩)))))))
set_option maxRecDepth 100000 in
theorem b_X9_whyNotRack_58 {d : Nat} {S : mSh} {M : mMem} {Q : Option mV → mSh → mMem → Prop} {x1 x2 x3 : Int} {u4 : mV} (L : Lay S) (k : WP PR d 199 0 [vA 200, vI x1] [] S M (fun r S2 M2 => WP PR (d + 1) 205 63 [vA 200, vI x1, vI x2, vI x3, u4] (r.toList ++ []) S2 M2 Q)) : WP PR (d + 1) 205 58 [vA 200, vI x1, vI x2, vI x3, u4] [] S M Q := by
  refine WP.ca 2 63 60 (.invokevirtual 197) (0, 199, 0, 0) rfl ?_
  exact ⟨rfl, rfl, rfl, lo200 L, rfl, k⟩
set_option maxRecDepth 100000 in
theorem b_X9_whyNotRack_63 {d : Nat} {S : mSh} {M : mMem} {Q : Option mV → mSh → mMem → Prop} {x1 x2 x3 s0 : Int} {u4 : mV} (kt : ¬ s0 = 0 → WP PR d 205 78 [vA 200, vI x1, vI x2, vI x3, u4] [] S M Q) (kf : s0 = 0 → WP PR d 205 66 [vA 200, vI x1, vI x2, vI x3, u4] [] S M Q) : WP PR d 205 63 [vA 200, vI x1, vI x2, vI x3, u4] [vI s0] S M Q := by
  refine WP.if0 0 66 63 .ne 15 (0, 0, 0, 0) 78 rfl rfl ?_
  exact ⟨kt, fun hc => kf (Decidable.not_not.mp hc)⟩
set_option maxRecDepth 100000 in
theorem b_X9_whyNotRack_66 {d : Nat} {S : mSh} {M : mMem} {Q : Option mV → mSh → mMem → Prop} {x1 x2 x3 : Int} {u4 : mV} (L : Lay S) (k : WP PR d 199 0 [vA 200, vI x2] [] S M (fun r S2 M2 => WP PR (d + 1) 205 71 [vA 200, vI x1, vI x2, vI x3, u4] (r.toList ++ []) S2 M2 Q)) : WP PR (d + 1) 205 66 [vA 200, vI x1, vI x2, vI x3, u4] [] S M Q := by
  refine WP.ca 2 71 68 (.invokevirtual 197) (0, 199, 0, 0) rfl ?_
  exact ⟨rfl, rfl, rfl, lo200 L, rfl, k⟩
set_option maxRecDepth 100000 in
theorem b_X9_whyNotRack_71 {d : Nat} {S : mSh} {M : mMem} {Q : Option mV → mSh → mMem → Prop} {x1 x2 x3 s0 : Int} {u4 : mV} (kt : ¬ s0 = 0 → WP PR d 205 78 [vA 200, vI x1, vI x2, vI x3, u4] [] S M Q) (kf : s0 = 0 → WP PR d 205 74 [vA 200, vI x1, vI x2, vI x3, u4] [] S M Q) : WP PR d 205 71 [vA 200, vI x1, vI x2, vI x3, u4] [vI s0] S M Q := by
  refine WP.if0 0 74 71 .ne 7 (0, 0, 0, 0) 78 rfl rfl ?_
  exact ⟨kt, fun hc => kf (Decidable.not_not.mp hc)⟩
set_option maxRecDepth 100000 in
theorem b_X9_whyNotRack_74 {d : Nat} {S : mSh} {M : mMem} {Q : Option mV → mSh → mMem → Prop} {x1 x2 x3 : Int} {u4 : mV} (L : Lay S) (k : WP PR d 198 0 [vA 200, vI x1] [] S M (fun r S2 M2 => WP PR (d + 1) 205 91 [vA 200, vI x1, vI x2, vI x3, vI 1] (r.toList ++ []) S2 M2 Q)) : WP PR (d + 1) 205 74 [vA 200, vI x1, vI x2, vI x3, u4] [] S M Q := by
  refine WP.gt 1 75 4 (0, 0, 0, 0) _ 79 rfl rfl ?_
  show WP PR (d + 1) 205 79 [vA 200, vI x1, vI x2, vI x3, u4] [vI 1] S M Q
  refine WP.if0 2 86 83 .eq 42 (0, 0, 0, 0) 125 rfl rfl ?_
  refine ⟨fun h => absurd h (show ¬ ((1 : Int) = (0 : Int)) by decide), fun _ => ?_⟩
  show WP PR (d + 1) 205 86 [vA 200, vI x1, vI x2, vI x3, vI 1] [] S M Q
  refine WP.ca 2 91 88 (.invokevirtual 194) (0, 198, 0, 0) rfl ?_
  exact ⟨rfl, rfl, rfl, lo200 L, rfl, k⟩
set_option maxRecDepth 100000 in
theorem b_X9_whyNotRack_78 {d : Nat} {S : mSh} {M : mMem} {Q : Option mV → mSh → mMem → Prop} {x1 x2 x3 : Int} {u4 : mV} (k : Q (some (vI (-3))) S M) : WP PR d 205 78 [vA 200, vI x1, vI x2, vI x3, u4] [] S M Q := by
  refine WP.if0 3 86 83 .eq 42 (0, 0, 0, 0) 125 rfl rfl ?_
  refine ⟨fun _ => ?_, fun h => absurd (show (0 : Int) = (0 : Int) by decide) h⟩
  show WP PR d 205 125 [vA 200, vI x1, vI x2, vI x3, vI 0] [] S M Q
  refine WP.re 1 127 .ireturn (0, 0, 0, 0) _ rfl ?_
  exact ⟨rfl, rfl, trivial, k⟩
set_option maxRecDepth 100000 in
theorem b_X9_whyNotRack_91 {d : Nat} {S : mSh} {M : mMem} {Q : Option mV → mSh → mMem → Prop} {x1 x2 x3 x4 s0 : Int} (kt : s0 < x3 → WP PR d 205 125 [vA 200, vI x1, vI x2, vI x3, vI x4] [] S M Q) (kf : x3 ≤ s0 → WP PR d 205 95 [vA 200, vI x1, vI x2, vI x3, vI x4] [] S M Q) : WP PR d 205 91 [vA 200, vI x1, vI x2, vI x3, vI x4] [vI s0] S M Q := by
  refine WP.if2 1 95 92 .lt 33 (0, 0, 0, 0) 125 rfl rfl ?_
  exact ⟨kt, fun hc => kf (Int.not_lt.mp hc)⟩
set_option maxRecDepth 100000 in
theorem b_X9_whyNotRack_95 {d : Nat} {S : mSh} {M : mMem} {Q : Option mV → mSh → mMem → Prop} {x1 x2 x3 x4 : Int} (L : Lay S) (k : WP PR d 146 0 [vA 200, vI x1, vU, vU] [] S M (fun r S2 M2 => WP PR (d + 1) 205 100 [vA 200, vI x1, vI x2, vI x3, vI x4] (r.toList ++ []) S2 M2 Q)) : WP PR (d + 1) 205 95 [vA 200, vI x1, vI x2, vI x3, vI x4] [] S M Q := by
  refine WP.ca 2 100 97 (.invokevirtual 166) (0, 146, 0, 0) rfl ?_
  exact ⟨rfl, rfl, rfl, lo200 L, rfl, k⟩
set_option maxRecDepth 100000 in
theorem b_X9_whyNotRack_100 {d : Nat} {S : mSh} {M : mMem} {Q : Option mV → mSh → mMem → Prop} {x1 x2 x3 x4 s0 : Int} (hc : R32 (1000 * x3)) (kt : s0 < 1000 * x3 → WP PR d 205 125 [vA 200, vI x1, vI x2, vI x3, vI x4] [] S M Q) (kf : 1000 * x3 ≤ s0 → WP PR d 205 108 [vA 200, vI x1, vI x2, vI x3, vI x4] [] S M Q) : WP PR d 205 100 [vA 200, vI x1, vI x2, vI x3, vI x4] [vI s0] S M Q := by
  refine WP.if2 3 108 105 .lt 20 (0, 0, 0, 0) 125 rfl rfl ?_
  exact And.intro (hc) (⟨kt, fun hc => kf (Int.not_lt.mp hc)⟩)
set_option maxRecDepth 100000 in
theorem b_X9_whyNotRack_108 {d : Nat} {S : mSh} {M : mMem} {Q : Option mV → mSh → mMem → Prop} {x1 x2 x3 x4 : Int} (L : Lay S) (k : WP PR d 151 0 [vA 200, vI x2] [] S M (fun r S2 M2 => WP PR (d + 1) 205 113 [vA 200, vI x1, vI x2, vI x3, vI x4] (r.toList ++ []) S2 M2 Q)) : WP PR (d + 1) 205 108 [vA 200, vI x1, vI x2, vI x3, vI x4] [] S M Q := by
  refine WP.ca 2 113 110 (.invokevirtual 374) (0, 151, 0, 0) rfl ?_
  exact ⟨rfl, rfl, rfl, lo200 L, rfl, k⟩
set_option maxRecDepth 100000 in
theorem b_X9_whyNotRack_113 {d : Nat} {S : mSh} {M : mMem} {Q : Option mV → mSh → mMem → Prop} {x1 x2 x3 x4 s0 : Int} (hc : R32 (1000 * x3)) (kt : s0 < 1000 * x3 → WP PR d 205 125 [vA 200, vI x1, vI x2, vI x3, vI x4] [] S M Q) (kf : 1000 * x3 ≤ s0 → WP PR d 205 121 [vA 200, vI x1, vI x2, vI x3, vI x4] [] S M Q) : WP PR d 205 113 [vA 200, vI x1, vI x2, vI x3, vI x4] [vI s0] S M Q := by
  refine WP.if2 3 121 118 .lt 7 (0, 0, 0, 0) 125 rfl rfl ?_
  exact And.intro (hc) (⟨kt, fun hc => kf (Int.not_lt.mp hc)⟩)
set_option maxRecDepth 100000 in
theorem b_X9_whyNotRack_121 {d : Nat} {S : mSh} {M : mMem} {Q : Option mV → mSh → mMem → Prop} {x1 x2 x3 x4 : Int} (k : Q (some (vI 0)) S M) : WP PR d 205 121 [vA 200, vI x1, vI x2, vI x3, vI x4] [] S M Q := by
  refine WP.gt 1 122 5 (0, 0, 0, 0) _ 127 rfl rfl ?_
  show WP PR d 205 127 [vA 200, vI x1, vI x2, vI x3, vI x4] [vI 0] S M Q
  refine WP.re 0 127 .ireturn (0, 0, 0, 0) _ rfl ?_
  exact ⟨rfl, rfl, trivial, k⟩
set_option maxRecDepth 100000 in
theorem b_X9_whyNotRack_125 {d : Nat} {S : mSh} {M : mMem} {Q : Option mV → mSh → mMem → Prop} {x1 x2 x3 x4 : Int} (k : Q (some (vI (-3))) S M) : WP PR d 205 125 [vA 200, vI x1, vI x2, vI x3, vI x4] [] S M Q := by
  refine WP.re 1 127 .ireturn (0, 0, 0, 0) _ rfl ?_
  exact ⟨rfl, rfl, trivial, k⟩
/-- SoleraCellarModel.rackIt(III)I -/
abbrev e_X9_rackIt (d : Nat) (a1 a2 a3 : Int) (S : mSh) (M : mMem) (Q : Option mV → mSh → mMem → Prop) : Prop := WP PR d 206 0 [vA 200, vI a1, vI a2, vI a3, vU] [] S M Q
set_option maxRecDepth 100000 in
theorem b_X9_rackIt_0 {d : Nat} {S : mSh} {M : mMem} {Q : Option mV → mSh → mMem → Prop} {x1 x2 x3 : Int} (L : Lay S) (k : WP PR d 200 0 [vA 200, vI x1, vI x3, vU, vU, vU, vU, vU, vU] [] S M (fun r S2 M2 => WP PR (d + 1) 206 6 [vA 200, vI x1, vI x2, vI x3, vU] (r.toList ++ []) S2 M2 Q)) : WP PR (d + 1) 206 0 [vA 200, vI x1, vI x2, vI x3, vU] [] S M Q := by
  refine WP.ca 3 6 3 (.invokevirtual 430) (0, 200, 0, 0) rfl ?_
  exact ⟨rfl, rfl, rfl, lo200 L, rfl, k⟩
set_option maxRecDepth 100000 in
theorem b_X9_rackIt_6 {d : Nat} {S : mSh} {M : mMem} {Q : Option mV → mSh → mMem → Prop} {x1 x2 x3 s0 : Int} {u4 : mV} (k : WP PR d 206 10 [vA 200, vI x1, vI x2, vI x3, vI 0] [] S M Q) : WP PR d 206 6 [vA 200, vI x1, vI x2, vI x3, u4] [vI s0] S M Q := by
  refine WP.bl 3 10 rfl ?_
  exact k
set_option maxRecDepth 100000 in
theorem b_X9_rackIt_10 {d : Nat} {S : mSh} {M : mMem} {Q : Option mV → mSh → mMem → Prop} {x1 x2 x3 x4 : Int} (kt : 20 ≤ x4 → WP PR d 206 48 [vA 200, vI x1, vI x2, vI x3, vI x4] [] S M Q) (kf : x4 < 20 → WP PR d 206 17 [vA 200, vI x1, vI x2, vI x3, vI x4] [] S M Q) : WP PR d 206 10 [vA 200, vI x1, vI x2, vI x3, vI x4] [] S M Q := by
  refine WP.if2 2 17 14 .ge 34 (0, 0, 0, 0) 48 rfl rfl ?_
  exact ⟨kt, fun hc => kf (Int.not_le.mp hc)⟩
set_option maxRecDepth 100000 in
theorem b_X9_rackIt_17 {d : Nat} {S : mSh} {M : mMem} {Q : Option mV → mSh → mMem → Prop} {x1 x2 x3 x4 : Int} (L : Lay S) (hc : R32 (20 * x2) ∧ R32 (10 + (20 * x2)) ∧ R32 ((10 + (20 * x2)) + x4) ∧ (0 ≤ (10 + (20 * x2)) + x4 ∧ (10 + (20 * x2)) + x4 < 9390) ∧ (0 ≤ x4 ∧ x4 < 20) ∧ R32 ((M 202 ((10 + (20 * x2)) + x4)) + (M 221 x4)) ∧ R32 (x4 + 1)) (k : WP PR d 206 10 [vA 200, vI x1, vI x2, vI x3, vI (x4 + 1)] [] S (up M 202 ((10 + (20 * x2)) + x4) ((M 202 ((10 + (20 * x2)) + x4)) + (M 221 x4))) Q) : WP PR d 206 17 [vA 200, vI x1, vI x2, vI x3, vI x4] [] S M Q := by
  refine WP.gt 18 45 (-35) (0, 0, 0, 0) _ 10 rfl rfl ?_
  exact And.intro (⟨lo200 L, lf200_3 L⟩) (And.intro (hc.1) (And.intro (hc.2.1) (And.intro (hc.2.2.1) (And.intro (inA_of (lo202 L) (ll202 L) hc.2.2.2.1) (And.intro (⟨lo200 L, lf200_41 L⟩) (And.intro (inA_of (lo221 L) (ll221 L) hc.2.2.2.2.1) (And.intro (hc.2.2.2.2.2.1) (And.intro (inA_of (lo202 L) (ll202 L) hc.2.2.2.1) (And.intro (hc.2.2.2.2.2.2) (k))))))))))
set_option maxRecDepth 100000 in
theorem b_X9_rackIt_48 {d : Nat} {S : mSh} {M : mMem} {Q : Option mV → mSh → mMem → Prop} {x1 x2 x3 x4 : Int} (L : Lay S) (k : WP PR d 147 0 [vA 200, vI x2, vU, vU, vU] [] S M (fun r S2 M2 => WP PR (d + 1) 206 53 [vA 200, vI x1, vI x2, vI x3, vI x4] (r.toList ++ []) S2 M2 Q)) : WP PR (d + 1) 206 48 [vA 200, vI x1, vI x2, vI x3, vI x4] [] S M Q := by
  refine WP.ca 2 53 50 (.invokevirtual 169) (0, 147, 0, 0) rfl ?_
  exact ⟨rfl, rfl, rfl, lo200 L, rfl, k⟩
set_option maxRecDepth 100000 in
theorem b_X9_rackIt_53 {d : Nat} {S : mSh} {M : mMem} {Q : Option mV → mSh → mMem → Prop} {x1 x2 x3 x4 s0 : Int} (k : Q (some (vI s0)) S M) : WP PR d 206 53 [vA 200, vI x1, vI x2, vI x3, vI x4] [vI s0] S M Q := by
  refine WP.re 0 53 .ireturn (0, 0, 0, 0) _ rfl ?_
  exact ⟨rfl, rfl, trivial, k⟩
/-- SoleraCellarModel.rackNow(III)I -/
abbrev e_X9_rackNow (d : Nat) (a1 a2 a3 : Int) (S : mSh) (M : mMem) (Q : Option mV → mSh → mMem → Prop) : Prop := WP PR d 207 0 [vA 200, vI a1, vI a2, vI a3, vU] [] S M Q
set_option maxRecDepth 100000 in
theorem b_X9_rackNow_0 {d : Nat} {S : mSh} {M : mMem} {Q : Option mV → mSh → mMem → Prop} {x1 x2 x3 : Int} (L : Lay S) (k : WP PR d 205 0 [vA 200, vI x1, vI x2, vI x3, vU] [] S M (fun r S2 M2 => WP PR (d + 1) 207 7 [vA 200, vI x1, vI x2, vI x3, vU] (r.toList ++ []) S2 M2 Q)) : WP PR (d + 1) 207 0 [vA 200, vI x1, vI x2, vI x3, vU] [] S M Q := by
  refine WP.ca 4 7 4 (.invokevirtual 433) (0, 205, 0, 0) rfl ?_
  exact ⟨rfl, rfl, rfl, lo200 L, rfl, k⟩
set_option maxRecDepth 100000 in
theorem b_X9_rackNow_7 {d : Nat} {S : mSh} {M : mMem} {Q : Option mV → mSh → mMem → Prop} {x1 x2 x3 s0 : Int} {u4 : mV} (kt : 0 ≤ s0 → WP PR d 207 17 [vA 200, vI x1, vI x2, vI x3, vI s0] [] S M Q) (kf : s0 < 0 → WP PR d 207 14 [vA 200, vI x1, vI x2, vI x3, vI s0] [] S M Q) : WP PR d 207 7 [vA 200, vI x1, vI x2, vI x3, u4] [vI s0] S M Q := by
  refine WP.if0 2 14 11 .ge 6 (0, 0, 0, 0) 17 rfl rfl ?_
  exact ⟨kt, fun hc => kf (Int.not_le.mp hc)⟩
set_option maxRecDepth 100000 in
theorem b_X9_rackNow_14 {d : Nat} {S : mSh} {M : mMem} {Q : Option mV → mSh → mMem → Prop} {x1 x2 x3 x4 : Int} (k : Q (some (vI x4)) S M) : WP PR d 207 14 [vA 200, vI x1, vI x2, vI x3, vI x4] [] S M Q := by
  refine WP.re 1 16 .ireturn (0, 0, 0, 0) _ rfl ?_
  exact ⟨rfl, rfl, trivial, k⟩
set_option maxRecDepth 100000 in
theorem b_X9_rackNow_17 {d : Nat} {S : mSh} {M : mMem} {Q : Option mV → mSh → mMem → Prop} {x1 x2 x3 x4 : Int} (L : Lay S) (k : WP PR d 140 0 [vA 200, vI 1, vU] [] S M (fun r S2 M2 => WP PR (d + 1) 207 22 [vA 200, vI x1, vI x2, vI x3, vI x4] (r.toList ++ []) S2 M2 Q)) : WP PR (d + 1) 207 17 [vA 200, vI x1, vI x2, vI x3, vI x4] [] S M Q := by
  refine WP.ca 2 22 19 (.invokevirtual 421) (0, 140, 0, 0) rfl ?_
  exact ⟨rfl, rfl, rfl, lo200 L, rfl, k⟩
set_option maxRecDepth 100000 in
theorem b_X9_rackNow_22 {d : Nat} {S : mSh} {M : mMem} {Q : Option mV → mSh → mMem → Prop} {x1 x2 x3 x4 : Int} (L : Lay S) (k : WP PR d 206 0 [vA 200, vI x1, vI x2, vI x3, vU] [] S M (fun r S2 M2 => WP PR (d + 1) 207 29 [vA 200, vI x1, vI x2, vI x3, vI x4] (r.toList ++ []) S2 M2 Q)) : WP PR (d + 1) 207 22 [vA 200, vI x1, vI x2, vI x3, vI x4] [] S M Q := by
  refine WP.ca 4 29 26 (.invokevirtual 437) (0, 206, 0, 0) rfl ?_
  exact ⟨rfl, rfl, rfl, lo200 L, rfl, k⟩
set_option maxRecDepth 100000 in
theorem b_X9_rackNow_29 {d : Nat} {S : mSh} {M : mMem} {Q : Option mV → mSh → mMem → Prop} {x1 x2 x3 x4 s0 : Int} (k : Q (some (vI s0)) S M) : WP PR d 207 29 [vA 200, vI x1, vI x2, vI x3, vI x4] [vI s0] S M Q := by
  refine WP.re 0 29 .ireturn (0, 0, 0, 0) _ rfl ?_
  exact ⟨rfl, rfl, trivial, k⟩
/-- SoleraCellarModel.rack(III)I -/
abbrev e_X9_rack (d : Nat) (a1 a2 a3 : Int) (S : mSh) (M : mMem) (Q : Option mV → mSh → mMem → Prop) : Prop := WP PR d 208 0 [vA 200, vI a1, vI a2, vI a3] [] S M Q
set_option maxRecDepth 100000 in
theorem b_X9_rack_0 {d : Nat} {S : mSh} {M : mMem} {Q : Option mV → mSh → mMem → Prop} {x1 x2 x3 : Int} (L : Lay S) (k : WP PR d 207 0 [vA 200, vI x1, vI x2, vI x3, vU] [] S (up M 200 0 0) (fun r S2 M2 => WP PR (d + 1) 208 13 [vA 200, vI x1, vI x2, vI x3] (r.toList ++ [vA 200]) S2 M2 Q)) : WP PR (d + 1) 208 0 [vA 200, vI x1, vI x2, vI x3] [] S M Q := by
  refine WP.ca 8 13 10 (.invokevirtual 440) (0, 207, 0, 0) rfl ?_
  exact And.intro (lo200 L) (⟨rfl, rfl, rfl, lo200 L, rfl, k⟩)
set_option maxRecDepth 100000 in
theorem b_X9_rack_13 {d : Nat} {S : mSh} {M : mMem} {Q : Option mV → mSh → mMem → Prop} {x1 x2 x3 s1 : Int} (L : Lay S) (k : WP PR d 135 0 [vA 200, vI s1] [] S M (fun r S2 M2 => WP PR (d + 1) 208 16 [vA 200, vI x1, vI x2, vI x3] (r.toList ++ []) S2 M2 Q)) : WP PR (d + 1) 208 13 [vA 200, vI x1, vI x2, vI x3] [vI s1, vA 200] S M Q := by
  refine WP.ca 0 16 13 (.invokevirtual 142) (0, 135, 0, 0) rfl ?_
  exact ⟨rfl, rfl, rfl, lo200 L, rfl, k⟩
set_option maxRecDepth 100000 in
theorem b_X9_rack_16 {d : Nat} {S : mSh} {M : mMem} {Q : Option mV → mSh → mMem → Prop} {x1 x2 x3 s0 : Int} (k : Q (some (vI s0)) S M) : WP PR d 208 16 [vA 200, vI x1, vI x2, vI x3] [vI s0] S M Q := by
  refine WP.re 0 16 .ireturn (0, 0, 0, 0) _ rfl ?_
  exact ⟨rfl, rfl, trivial, k⟩
/-- SoleraCellarModel.whyNotBottle(II)I -/
abbrev e_X9_whyNotBottle (d : Nat) (a1 a2 : Int) (S : mSh) (M : mMem) (Q : Option mV → mSh → mMem → Prop) : Prop := WP PR d 209 0 [vA 200, vI a1, vI a2] [] S M Q
set_option maxRecDepth 100000 in
theorem b_X9_whyNotBottle_0 {d : Nat} {S : mSh} {M : mMem} {Q : Option mV → mSh → mMem → Prop} {x1 x2 : Int} (k : WP PR d 132 0 [vL x2, vU, vL 1, vU, vL 999, vU] [] S M (fun r S2 M2 => WP PR (d + 1) 209 9 [vA 200, vI x1, vI x2] (r.toList ++ []) S2 M2 Q)) : WP PR (d + 1) 209 0 [vA 200, vI x1, vI x2] [] S M Q := by
  refine WP.ca 4 9 6 (.invokestatic 153) (0, 132, 0, 0) rfl ?_
  exact ⟨rfl, rfl, rfl, trivial, rfl, k⟩
set_option maxRecDepth 100000 in
theorem b_X9_whyNotBottle_9 {d : Nat} {S : mSh} {M : mMem} {Q : Option mV → mSh → mMem → Prop} {x1 x2 s0 : Int} (kt : ¬ s0 = 0 → WP PR d 209 14 [vA 200, vI x1, vI x2] [] S M Q) (kf : s0 = 0 → WP PR d 209 12 [vA 200, vI x1, vI x2] [] S M Q) : WP PR d 209 9 [vA 200, vI x1, vI x2] [vI s0] S M Q := by
  refine WP.if0 0 12 9 .ne 5 (0, 0, 0, 0) 14 rfl rfl ?_
  exact ⟨kt, fun hc => kf (Decidable.not_not.mp hc)⟩
set_option maxRecDepth 100000 in
theorem b_X9_whyNotBottle_12 {d : Nat} {S : mSh} {M : mMem} {Q : Option mV → mSh → mMem → Prop} {x1 x2 : Int} (k : Q (some (vI (-1))) S M) : WP PR d 209 12 [vA 200, vI x1, vI x2] [] S M Q := by
  refine WP.re 1 13 .ireturn (0, 0, 0, 0) _ rfl ?_
  exact ⟨rfl, rfl, trivial, k⟩
set_option maxRecDepth 100000 in
theorem b_X9_whyNotBottle_14 {d : Nat} {S : mSh} {M : mMem} {Q : Option mV → mSh → mMem → Prop} {x1 x2 : Int} (L : Lay S) (k : WP PR d 144 0 [vA 200, vI x1] [] S M (fun r S2 M2 => WP PR (d + 1) 209 19 [vA 200, vI x1, vI x2] (r.toList ++ []) S2 M2 Q)) : WP PR (d + 1) 209 14 [vA 200, vI x1, vI x2] [] S M Q := by
  refine WP.ca 2 19 16 (.invokevirtual 184) (0, 144, 0, 0) rfl ?_
  exact ⟨rfl, rfl, rfl, lo200 L, rfl, k⟩
set_option maxRecDepth 100000 in
theorem b_X9_whyNotBottle_19 {d : Nat} {S : mSh} {M : mMem} {Q : Option mV → mSh → mMem → Prop} {x1 x2 s0 : Int} (kt : ¬ s0 = 0 → WP PR d 209 25 [vA 200, vI x1, vI x2] [] S M Q) (kf : s0 = 0 → WP PR d 209 22 [vA 200, vI x1, vI x2] [] S M Q) : WP PR d 209 19 [vA 200, vI x1, vI x2] [vI s0] S M Q := by
  refine WP.if0 0 22 19 .ne 6 (0, 0, 0, 0) 25 rfl rfl ?_
  exact ⟨kt, fun hc => kf (Decidable.not_not.mp hc)⟩
set_option maxRecDepth 100000 in
theorem b_X9_whyNotBottle_22 {d : Nat} {S : mSh} {M : mMem} {Q : Option mV → mSh → mMem → Prop} {x1 x2 : Int} (k : Q (some (vI (-2))) S M) : WP PR d 209 22 [vA 200, vI x1, vI x2] [] S M Q := by
  refine WP.re 1 24 .ireturn (0, 0, 0, 0) _ rfl ?_
  exact ⟨rfl, rfl, trivial, k⟩
set_option maxRecDepth 100000 in
theorem b_X9_whyNotBottle_25 {d : Nat} {S : mSh} {M : mMem} {Q : Option mV → mSh → mMem → Prop} {x1 x2 : Int} (L : Lay S) (hc : R32 (170 + x1) ∧ (0 ≤ 170 + x1 ∧ 170 + x1 < 9390)) (kt : ¬ M 202 (170 + x1) = 0 → WP PR d 209 72 [vA 200, vI x1, vI x2] [] S M Q) (kf : M 202 (170 + x1) = 0 → WP PR d 209 38 [vA 200, vI x1, vI x2] [] S M Q) : WP PR d 209 25 [vA 200, vI x1, vI x2] [] S M Q := by
  refine WP.if0 6 38 35 .ne 37 (0, 0, 0, 0) 72 rfl rfl ?_
  exact And.intro (⟨lo200 L, lf200_3 L⟩) (And.intro (hc.1) (And.intro (inA_of (lo202 L) (ll202 L) hc.2) (⟨kt, fun hc => kf (Decidable.not_not.mp hc)⟩)))
set_option maxRecDepth 100000 in
theorem b_X9_whyNotBottle_38 {d : Nat} {S : mSh} {M : mMem} {Q : Option mV → mSh → mMem → Prop} {x1 x2 : Int} (L : Lay S) (k : WP PR d 199 0 [vA 200, vI x1] [] S M (fun r S2 M2 => WP PR (d + 1) 209 43 [vA 200, vI x1, vI x2] (r.toList ++ []) S2 M2 Q)) : WP PR (d + 1) 209 38 [vA 200, vI x1, vI x2] [] S M Q := by
  refine WP.ca 2 43 40 (.invokevirtual 197) (0, 199, 0, 0) rfl ?_
  exact ⟨rfl, rfl, rfl, lo200 L, rfl, k⟩
set_option maxRecDepth 100000 in
theorem b_X9_whyNotBottle_43 {d : Nat} {S : mSh} {M : mMem} {Q : Option mV → mSh → mMem → Prop} {x1 x2 s0 : Int} (kt : ¬ s0 = 0 → WP PR d 209 72 [vA 200, vI x1, vI x2] [] S M Q) (kf : s0 = 0 → WP PR d 209 46 [vA 200, vI x1, vI x2] [] S M Q) : WP PR d 209 43 [vA 200, vI x1, vI x2] [vI s0] S M Q := by
  refine WP.if0 0 46 43 .ne 29 (0, 0, 0, 0) 72 rfl rfl ?_
  exact ⟨kt, fun hc => kf (Decidable.not_not.mp hc)⟩
set_option maxRecDepth 100000 in
theorem b_X9_whyNotBottle_46 {d : Nat} {S : mSh} {M : mMem} {Q : Option mV → mSh → mMem → Prop} {x1 x2 : Int} (L : Lay S) (k : WP PR d 198 0 [vA 200, vI x1] [] S M (fun r S2 M2 => WP PR (d + 1) 209 51 [vA 200, vI x1, vI x2] (r.toList ++ []) S2 M2 Q)) : WP PR (d + 1) 209 46 [vA 200, vI x1, vI x2] [] S M Q := by
  refine WP.ca 2 51 48 (.invokevirtual 194) (0, 198, 0, 0) rfl ?_
  exact ⟨rfl, rfl, rfl, lo200 L, rfl, k⟩
set_option maxRecDepth 100000 in
theorem b_X9_whyNotBottle_51 {d : Nat} {S : mSh} {M : mMem} {Q : Option mV → mSh → mMem → Prop} {x1 x2 s0 : Int} (kt : s0 < x2 → WP PR d 209 72 [vA 200, vI x1, vI x2] [] S M Q) (kf : x2 ≤ s0 → WP PR d 209 55 [vA 200, vI x1, vI x2] [] S M Q) : WP PR d 209 51 [vA 200, vI x1, vI x2] [vI s0] S M Q := by
  refine WP.if2 1 55 52 .lt 20 (0, 0, 0, 0) 72 rfl rfl ?_
  exact ⟨kt, fun hc => kf (Int.not_lt.mp hc)⟩
set_option maxRecDepth 100000 in
theorem b_X9_whyNotBottle_55 {d : Nat} {S : mSh} {M : mMem} {Q : Option mV → mSh → mMem → Prop} {x1 x2 : Int} (L : Lay S) (k : WP PR d 146 0 [vA 200, vI x1, vU, vU] [] S M (fun r S2 M2 => WP PR (d + 1) 209 60 [vA 200, vI x1, vI x2] (r.toList ++ []) S2 M2 Q)) : WP PR (d + 1) 209 55 [vA 200, vI x1, vI x2] [] S M Q := by
  refine WP.ca 2 60 57 (.invokevirtual 166) (0, 146, 0, 0) rfl ?_
  exact ⟨rfl, rfl, rfl, lo200 L, rfl, k⟩
set_option maxRecDepth 100000 in
theorem b_X9_whyNotBottle_60 {d : Nat} {S : mSh} {M : mMem} {Q : Option mV → mSh → mMem → Prop} {x1 x2 s0 : Int} (hc : R32 (1000 * x2)) (kt : s0 < 1000 * x2 → WP PR d 209 72 [vA 200, vI x1, vI x2] [] S M Q) (kf : 1000 * x2 ≤ s0 → WP PR d 209 68 [vA 200, vI x1, vI x2] [] S M Q) : WP PR d 209 60 [vA 200, vI x1, vI x2] [vI s0] S M Q := by
  refine WP.if2 3 68 65 .lt 7 (0, 0, 0, 0) 72 rfl rfl ?_
  exact And.intro (hc) (⟨kt, fun hc => kf (Int.not_lt.mp hc)⟩)
set_option maxRecDepth 100000 in
theorem b_X9_whyNotBottle_68 {d : Nat} {S : mSh} {M : mMem} {Q : Option mV → mSh → mMem → Prop} {x1 x2 : Int} (k : Q (some (vI 0)) S M) : WP PR d 209 68 [vA 200, vI x1, vI x2] [] S M Q := by
  refine WP.gt 1 69 5 (0, 0, 0, 0) _ 74 rfl rfl ?_
  show WP PR d 209 74 [vA 200, vI x1, vI x2] [vI 0] S M Q
  refine WP.re 0 74 .ireturn (0, 0, 0, 0) _ rfl ?_
  exact ⟨rfl, rfl, trivial, k⟩
set_option maxRecDepth 100000 in
theorem b_X9_whyNotBottle_72 {d : Nat} {S : mSh} {M : mMem} {Q : Option mV → mSh → mMem → Prop} {x1 x2 : Int} (k : Q (some (vI (-3))) S M) : WP PR d 209 72 [vA 200, vI x1, vI x2] [] S M Q := by
  refine WP.re 1 74 .ireturn (0, 0, 0, 0) _ rfl ?_
  exact ⟨rfl, rfl, trivial, k⟩
/-- SoleraCellarModel.bottleIt(II)I -/
abbrev e_X9_bottleIt (d : Nat) (a1 a2 : Int) (S : mSh) (M : mMem) (Q : Option mV → mSh → mMem → Prop) : Prop := WP PR d 210 0 [vA 200, vI a1, vI a2, vU] [] S M Q
set_option maxRecDepth 100000 in
theorem b_X9_bottleIt_0 {d : Nat} {S : mSh} {M : mMem} {Q : Option mV → mSh → mMem → Prop} {x1 x2 : Int} (L : Lay S) (k : WP PR d 200 0 [vA 200, vI x1, vI x2, vU, vU, vU, vU, vU, vU] [] S M (fun r S2 M2 => WP PR (d + 1) 210 6 [vA 200, vI x1, vI x2, vU] (r.toList ++ []) S2 M2 Q)) : WP PR (d + 1) 210 0 [vA 200, vI x1, vI x2, vU] [] S M Q := by
  refine WP.ca 3 6 3 (.invokevirtual 430) (0, 200, 0, 0) rfl ?_
  exact ⟨rfl, rfl, rfl, lo200 L, rfl, k⟩
set_option maxRecDepth 100000 in
theorem b_X9_bottleIt_6 {d : Nat} {S : mSh} {M : mMem} {Q : Option mV → mSh → mMem → Prop} {x1 x2 s0 : Int} {u3 : mV} (L : Lay S) (hc : R32 ((M 202 9) + x2)) (k : WP PR d 134 0 [vL ((M 202 9) + x2), vU, vI 0, vI 999999] [] S M (fun r S2 M2 => WP PR (d + 1) 210 30 [vA 200, vI x1, vI x2, vI s0] (r.toList ++ [vI 9, vA 202]) S2 M2 Q)) : WP PR (d + 1) 210 6 [vA 200, vI x1, vI x2, u3] [vI s0] S M Q := by
  refine WP.ca 13 30 27 (.invokestatic 414) (0, 134, 0, 0) rfl ?_
  exact And.intro (⟨lo200 L, lf200_3 L⟩) (And.intro (⟨lo200 L, lf200_3 L⟩) (And.intro (inA_of (lo202 L) (ll202 L) (by decide)) (And.intro (hc) (⟨rfl, rfl, rfl, trivial, rfl, k⟩))))
set_option maxRecDepth 100000 in
theorem b_X9_bottleIt_30 {d : Nat} {S : mSh} {M : mMem} {Q : Option mV → mSh → mMem → Prop} {x1 x2 x3 s0 s1 s2 : Int} (L : Lay S) (ho1 : isO S s0 20) (hc : (0 ≤ s1 ∧ s1 < sL S s0) ∧ R32 (((up M s0 s1 s2) 200 42) + x2)) (kt : (up M s0 s1 s2) 200 43 ≤ x3 → WP PR d 210 54 [vA 200, vI x1, vI x2, vI x3] [vA 200] S (up (up M s0 s1 s2) 200 42 (((up M s0 s1 s2) 200 42) + x2)) Q) (kf : x3 < (up M s0 s1 s2) 200 43 → WP PR d 210 50 [vA 200, vI x1, vI x2, vI x3] [vA 200] S (up (up M s0 s1 s2) 200 42 (((up M s0 s1 s2) 200 42) + x2)) Q) : WP PR d 210 30 [vA 200, vI x1, vI x2, vI x3] [vI s2, vI s1, vA s0] S M Q := by
  refine WP.if2 11 50 47 .ge 7 (0, 0, 0, 0) 54 rfl rfl ?_
  exact And.intro (inA_of (ho1) (rfl) hc.1) (And.intro (lo200 L) (And.intro (hc.2) (And.intro (lo200 L) (And.intro (lo200 L) (⟨kt, fun hc => kf (Int.not_le.mp hc)⟩)))))
set_option maxRecDepth 100000 in
theorem b_X9_bottleIt_50 {d : Nat} {S : mSh} {M : mMem} {Q : Option mV → mSh → mMem → Prop} {x1 x2 x3 : Int} (L : Lay S) (k : Q (some (vI x3)) S (up M 200 43 x3)) : WP PR d 210 50 [vA 200, vI x1, vI x2, vI x3] [vA 200] S M Q := by
  refine WP.gt 1 51 7 (0, 0, 0, 0) _ 58 rfl rfl ?_
  show WP PR d 210 58 [vA 200, vI x1, vI x2, vI x3] [vI x3, vA 200] S M Q
  refine WP.re 2 62 .ireturn (0, 0, 0, 0) _ rfl ?_
  exact And.intro (lo200 L) (⟨rfl, rfl, trivial, k⟩)
set_option maxRecDepth 100000 in
theorem b_X9_bottleIt_54 {d : Nat} {S : mSh} {M : mMem} {Q : Option mV → mSh → mMem → Prop} {x1 x2 x3 : Int} (L : Lay S) (k : Q (some (vI x3)) S (up M 200 43 (M 200 43))) : WP PR d 210 54 [vA 200, vI x1, vI x2, vI x3] [vA 200] S M Q := by
  refine WP.re 4 62 .ireturn (0, 0, 0, 0) _ rfl ?_
  exact And.intro (lo200 L) (And.intro (lo200 L) (⟨rfl, rfl, trivial, k⟩))
/-- SoleraCellarModel.bottleNow(II)I -/
abbrev e_X9_bottleNow (d : Nat) (a1 a2 : Int) (S : mSh) (M : mMem) (Q : Option mV → mSh → mMem → Prop) : Prop := WP PR d 211 0 [vA 200, vI a1, vI a2, vU] [] S M Q
set_option maxRecDepth 100000 in
theorem b_X9_bottleNow_0 {d : Nat} {S : mSh} {M : mMem} {Q : Option mV → mSh → mMem → Prop} {x1 x2 : Int} (L : Lay S) (k : WP PR d 209 0 [vA 200, vI x1, vI x2] [] S M (fun r S2 M2 => WP PR (d + 1) 211 6 [vA 200, vI x1, vI x2, vU] (r.toList ++ []) S2 M2 Q)) : WP PR (d + 1) 211 0 [vA 200, vI x1, vI x2, vU] [] S M Q := by
  refine WP.ca 3 6 3 (.invokevirtual 450) (0, 209, 0, 0) rfl ?_
  exact ⟨rfl, rfl, rfl, lo200 L, rfl, k⟩
set_option maxRecDepth 100000 in
theorem b_X9_bottleNow_6 {d : Nat} {S : mSh} {M : mMem} {Q : Option mV → mSh → mMem → Prop} {x1 x2 s0 : Int} {u3 : mV} (kt : 0 ≤ s0 → WP PR d 211 13 [vA 200, vI x1, vI x2, vI s0] [] S M Q) (kf : s0 < 0 → WP PR d 211 11 [vA 200, vI x1, vI x2, vI s0] [] S M Q) : WP PR d 211 6 [vA 200, vI x1, vI x2, u3] [vI s0] S M Q := by
  refine WP.if0 2 11 8 .ge 5 (0, 0, 0, 0) 13 rfl rfl ?_
  exact ⟨kt, fun hc => kf (Int.not_le.mp hc)⟩
set_option maxRecDepth 100000 in
theorem b_X9_bottleNow_11 {d : Nat} {S : mSh} {M : mMem} {Q : Option mV → mSh → mMem → Prop} {x1 x2 x3 : Int} (k : Q (some (vI x3)) S M) : WP PR d 211 11 [vA 200, vI x1, vI x2, vI x3] [] S M Q := by
  refine WP.re 1 12 .ireturn (0, 0, 0, 0) _ rfl ?_
  exact ⟨rfl, rfl, trivial, k⟩
set_option maxRecDepth 100000 in
theorem b_X9_bottleNow_13 {d : Nat} {S : mSh} {M : mMem} {Q : Option mV → mSh → mMem → Prop} {x1 x2 x3 : Int} (L : Lay S) (k : WP PR d 140 0 [vA 200, vI 2, vU] [] S M (fun r S2 M2 => WP PR (d + 1) 211 18 [vA 200, vI x1, vI x2, vI x3] (r.toList ++ []) S2 M2 Q)) : WP PR (d + 1) 211 13 [vA 200, vI x1, vI x2, vI x3] [] S M Q := by
  refine WP.ca 2 18 15 (.invokevirtual 421) (0, 140, 0, 0) rfl ?_
  exact ⟨rfl, rfl, rfl, lo200 L, rfl, k⟩
set_option maxRecDepth 100000 in
theorem b_X9_bottleNow_18 {d : Nat} {S : mSh} {M : mMem} {Q : Option mV → mSh → mMem → Prop} {x1 x2 x3 : Int} (L : Lay S) (k : WP PR d 210 0 [vA 200, vI x1, vI x2, vU] [] S M (fun r S2 M2 => WP PR (d + 1) 211 24 [vA 200, vI x1, vI x2, vI x3] (r.toList ++ []) S2 M2 Q)) : WP PR (d + 1) 211 18 [vA 200, vI x1, vI x2, vI x3] [] S M Q := by
  refine WP.ca 3 24 21 (.invokevirtual 453) (0, 210, 0, 0) rfl ?_
  exact ⟨rfl, rfl, rfl, lo200 L, rfl, k⟩
set_option maxRecDepth 100000 in
theorem b_X9_bottleNow_24 {d : Nat} {S : mSh} {M : mMem} {Q : Option mV → mSh → mMem → Prop} {x1 x2 x3 s0 : Int} (k : Q (some (vI s0)) S M) : WP PR d 211 24 [vA 200, vI x1, vI x2, vI x3] [vI s0] S M Q := by
  refine WP.re 0 24 .ireturn (0, 0, 0, 0) _ rfl ?_
  exact ⟨rfl, rfl, trivial, k⟩
/-- SoleraCellarModel.bottle(II)I -/
abbrev e_X9_bottle (d : Nat) (a1 a2 : Int) (S : mSh) (M : mMem) (Q : Option mV → mSh → mMem → Prop) : Prop := WP PR d 212 0 [vA 200, vI a1, vI a2] [] S M Q
set_option maxRecDepth 100000 in
theorem b_X9_bottle_0 {d : Nat} {S : mSh} {M : mMem} {Q : Option mV → mSh → mMem → Prop} {x1 x2 : Int} (L : Lay S) (k : WP PR d 211 0 [vA 200, vI x1, vI x2, vU] [] S (up M 200 0 0) (fun r S2 M2 => WP PR (d + 1) 212 12 [vA 200, vI x1, vI x2] (r.toList ++ [vA 200]) S2 M2 Q)) : WP PR (d + 1) 212 0 [vA 200, vI x1, vI x2] [] S M Q := by
  refine WP.ca 7 12 9 (.invokevirtual 456) (0, 211, 0, 0) rfl ?_
  exact And.intro (lo200 L) (⟨rfl, rfl, rfl, lo200 L, rfl, k⟩)
set_option maxRecDepth 100000 in
theorem b_X9_bottle_12 {d : Nat} {S : mSh} {M : mMem} {Q : Option mV → mSh → mMem → Prop} {x1 x2 s1 : Int} (L : Lay S) (k : WP PR d 135 0 [vA 200, vI s1] [] S M (fun r S2 M2 => WP PR (d + 1) 212 15 [vA 200, vI x1, vI x2] (r.toList ++ []) S2 M2 Q)) : WP PR (d + 1) 212 12 [vA 200, vI x1, vI x2] [vI s1, vA 200] S M Q := by
  refine WP.ca 0 15 12 (.invokevirtual 142) (0, 135, 0, 0) rfl ?_
  exact ⟨rfl, rfl, rfl, lo200 L, rfl, k⟩
set_option maxRecDepth 100000 in
theorem b_X9_bottle_15 {d : Nat} {S : mSh} {M : mMem} {Q : Option mV → mSh → mMem → Prop} {x1 x2 s0 : Int} (k : Q (some (vI s0)) S M) : WP PR d 212 15 [vA 200, vI x1, vI x2] [vI s0] S M Q := by
  refine WP.re 0 15 .ireturn (0, 0, 0, 0) _ rfl ?_
  exact ⟨rfl, rfl, trivial, k⟩
/-- SoleraCellarModel.lossOf(I)I -/
abbrev e_X9_lossOf (d : Nat) (a1 : Int) (S : mSh) (M : mMem) (Q : Option mV → mSh → mMem → Prop) : Prop := WP PR d 213 0 [vA 200, vI a1, vU, vU, vU] [] S M Q
set_option maxRecDepth 100000 in
theorem b_X9_lossOf_0 {d : Nat} {S : mSh} {M : mMem} {Q : Option mV → mSh → mMem → Prop} {x1 : Int} (L : Lay S) (k : WP PR d 197 0 [vA 200, vI x1] [] S M (fun r S2 M2 => WP PR (d + 1) 213 5 [vA 200, vI x1, vU, vU, vU] (r.toList ++ []) S2 M2 Q)) : WP PR (d + 1) 213 0 [vA 200, vI x1, vU, vU, vU] [] S M Q := by
  refine WP.ca 2 5 2 (.invokevirtual 191) (0, 197, 0, 0) rfl ?_
  exact ⟨rfl, rfl, rfl, lo200 L, rfl, k⟩
set_option maxRecDepth 100000 in
theorem b_X9_lossOf_5 {d : Nat} {S : mSh} {M : mMem} {Q : Option mV → mSh → mMem → Prop} {x1 s0 : Int} {u2 u3 u4 : mV} (k : WP PR d 213 11 [vA 200, vI x1, vI s0, vI 0, vI 0] [] S M Q) : WP PR d 213 5 [vA 200, vI x1, u2, u3, u4] [vI s0] S M Q := by
  refine WP.bl 5 11 rfl ?_
  exact k
set_option maxRecDepth 100000 in
theorem b_X9_lossOf_11 {d : Nat} {S : mSh} {M : mMem} {Q : Option mV → mSh → mMem → Prop} {x1 x2 x3 x4 : Int} (kt : 20 ≤ x4 → WP PR d 213 43 [vA 200, vI x1, vI x2, vI x3, vI x4] [] S M Q) (kf : x4 < 20 → WP PR d 213 18 [vA 200, vI x1, vI x2, vI x3, vI x4] [] S M Q) : WP PR d 213 11 [vA 200, vI x1, vI x2, vI x3, vI x4] [] S M Q := by
  refine WP.if2 2 18 15 .ge 28 (0, 0, 0, 0) 43 rfl rfl ?_
  exact ⟨kt, fun hc => kf (Int.not_le.mp hc)⟩
set_option maxRecDepth 100000 in
theorem b_X9_lossOf_18 {d : Nat} {S : mSh} {M : mMem} {Q : Option mV → mSh → mMem → Prop} {x1 x2 x3 x4 : Int} (L : Lay S) (k : WP PR d 145 0 [vA 200, vI x1, vI x4] [] S M (fun r S2 M2 => WP PR (d + 1) 213 26 [vA 200, vI x1, vI x2, vI x3, vI x4] (r.toList ++ [vI x3]) S2 M2 Q)) : WP PR (d + 1) 213 18 [vA 200, vI x1, vI x2, vI x3, vI x4] [] S M Q := by
  refine WP.ca 4 26 23 (.invokevirtual 160) (0, 145, 0, 0) rfl ?_
  exact ⟨rfl, rfl, rfl, lo200 L, rfl, k⟩
set_option maxRecDepth 100000 in
theorem b_X9_lossOf_26 {d : Nat} {S : mSh} {M : mMem} {Q : Option mV → mSh → mMem → Prop} {x1 x2 x3 x4 s0 s1 : Int} (hc : R64 (s1 * x2) ∧ R64 ((s1 * x2).tdiv 1000) ∧ R32 (s0 + (w32 ((s1 * x2).tdiv 1000))) ∧ R32 (x4 + 1)) (k : WP PR d 213 11 [vA 200, vI x1, vI x2, vI (s0 + (w32 ((s1 * x2).tdiv 1000))), vI (x4 + 1)] [] S M Q) : WP PR d 213 26 [vA 200, vI x1, vI x2, vI x3, vI x4] [vI s1, vI s0] S M Q := by
  refine WP.gt 10 40 (-29) (0, 0, 0, 0) _ 11 rfl rfl ?_
  exact And.intro (hc.1) (And.intro (⟨by decide, hc.2.1⟩) (And.intro (hc.2.2.1) (And.intro (hc.2.2.2) (k))))
set_option maxRecDepth 100000 in
theorem b_X9_lossOf_43 {d : Nat} {S : mSh} {M : mMem} {Q : Option mV → mSh → mMem → Prop} {x1 x2 x3 x4 : Int} (k : Q (some (vI x3)) S M) : WP PR d 213 43 [vA 200, vI x1, vI x2, vI x3, vI x4] [] S M Q := by
  refine WP.re 1 44 .ireturn (0, 0, 0, 0) _ rfl ?_
  exact ⟨rfl, rfl, trivial, k⟩
