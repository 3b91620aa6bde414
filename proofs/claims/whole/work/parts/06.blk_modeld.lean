/-- SoleraCellarModel.passIt()I -/
abbrev e_X9_passIt (d : Nat) (S : mSh) (M : mMem) (Q : Option mV → mSh → mMem → Prop) : Prop := WP PR d 214 0 [vA 200, vU, vU, vU, vU, vU, vU] [] S M Q
set_option maxRecDepth 100000 in
theorem b_X9_passIt_0 {d : Nat} {S : mSh} {M : mMem} {Q : Option mV → mSh → mMem → Prop} (k : WP PR d 214 4 [vA 200, vI 0, vI 0, vU, vU, vU, vU] [] S M Q) : WP PR d 214 0 [vA 200, vU, vU, vU, vU, vU, vU] [] S M Q := by
  refine WP.bl 4 4 rfl ?_
  exact k
set_option maxRecDepth 100000 in
theorem b_X9_passIt_4 {d : Nat} {S : mSh} {M : mMem} {Q : Option mV → mSh → mMem → Prop} {x1 x2 : Int} {u3 u4 u5 u6 : mV} (L : Lay S) (kt : M 202 0 ≤ x2 → WP PR d 214 162 [vA 200, vI x1, vI x2, u3, u4, u5, u6] [] S M Q) (kf : x2 < M 202 0 → WP PR d 214 14 [vA 200, vI x1, vI x2, u3, u4, u5, u6] [] S M Q) : WP PR d 214 4 [vA 200, vI x1, vI x2, u3, u4, u5, u6] [] S M Q := by
  refine WP.if2 5 14 11 .ge 151 (0, 0, 0, 0) 162 rfl rfl ?_
  exact And.intro (⟨lo200 L, lf200_3 L⟩) (And.intro (inA_of (lo202 L) (ll202 L) (by decide)) (⟨kt, fun hc => kf (Int.not_le.mp hc)⟩))
set_option maxRecDepth 100000 in
theorem b_X9_passIt_14 {d : Nat} {S : mSh} {M : mMem} {Q : Option mV → mSh → mMem → Prop} {x1 x2 : Int} {u3 u4 u5 u6 : mV} (L : Lay S) (k : WP PR d 197 0 [vA 200, vI x2] [] S M (fun r S2 M2 => WP PR (d + 1) 214 19 [vA 200, vI x1, vI x2, u3, u4, u5, u6] (r.toList ++ []) S2 M2 Q)) : WP PR (d + 1) 214 14 [vA 200, vI x1, vI x2, u3, u4, u5, u6] [] S M Q := by
  refine WP.ca 2 19 16 (.invokevirtual 191) (0, 197, 0, 0) rfl ?_
  exact ⟨rfl, rfl, rfl, lo200 L, rfl, k⟩
set_option maxRecDepth 100000 in
theorem b_X9_passIt_19 {d : Nat} {S : mSh} {M : mMem} {Q : Option mV → mSh → mMem → Prop} {x1 x2 s0 : Int} {u3 u4 u5 u6 : mV} (hc : R32 (20 * x2) ∧ R32 (10 + (20 * x2))) (k : WP PR d 214 32 [vA 200, vI x1, vI x2, vI s0, vI (10 + (20 * x2)), vI 0, u6] [] S M Q) : WP PR d 214 19 [vA 200, vI x1, vI x2, u3, u4, u5, u6] [vI s0] S M Q := by
  refine WP.bl 9 32 rfl ?_
  exact And.intro (hc.1) (And.intro (hc.2) (k))
set_option maxRecDepth 100000 in
theorem b_X9_passIt_32 {d : Nat} {S : mSh} {M : mMem} {Q : Option mV → mSh → mMem → Prop} {x1 x2 x3 x4 x5 : Int} {u6 : mV} (kt : 20 ≤ x5 → WP PR d 214 86 [vA 200, vI x1, vI x2, vI x3, vI x4, vI x5, u6] [] S M Q) (kf : x5 < 20 → WP PR d 214 39 [vA 200, vI x1, vI x2, vI x3, vI x4, vI x5, u6] [] S M Q) : WP PR d 214 32 [vA 200, vI x1, vI x2, vI x3, vI x4, vI x5, u6] [] S M Q := by
  refine WP.if2 2 39 36 .ge 50 (0, 0, 0, 0) 86 rfl rfl ?_
  exact ⟨kt, fun hc => kf (Int.not_le.mp hc)⟩
set_option maxRecDepth 100000 in
theorem b_X9_passIt_39 {d : Nat} {S : mSh} {M : mMem} {Q : Option mV → mSh → mMem → Prop} {x1 x2 x3 x4 x5 : Int} {u6 : mV} (L : Lay S) (hc : R32 (x4 + x5) ∧ (0 ≤ x4 + x5 ∧ x4 + x5 < 9390) ∧ R64 ((M 202 (x4 + x5)) * x3) ∧ R64 (((M 202 (x4 + x5)) * x3).tdiv 1000) ∧ R32 ((M 202 (x4 + x5)) - (w32 (((M 202 (x4 + x5)) * x3).tdiv 1000))) ∧ R32 (x1 + (w32 (((M 202 (x4 + x5)) * x3).tdiv 1000))) ∧ R32 (x5 + 1)) (k : WP PR d 214 32 [vA 200, vI (x1 + (w32 (((M 202 (x4 + x5)) * x3).tdiv 1000))), vI x2, vI x3, vI x4, vI (x5 + 1), vI (w32 (((M 202 (x4 + x5)) * x3).tdiv 1000))] [] S (up M 202 (x4 + x5) ((M 202 (x4 + x5)) - (w32 (((M 202 (x4 + x5)) * x3).tdiv 1000)))) Q) : WP PR d 214 39 [vA 200, vI x1, vI x2, vI x3, vI x4, vI x5, u6] [] S M Q := by
  refine WP.gt 29 83 (-51) (0, 0, 0, 0) _ 32 rfl rfl ?_
  exact And.intro (⟨lo200 L, lf200_3 L⟩) (And.intro (hc.1) (And.intro (inA_of (lo202 L) (ll202 L) hc.2.1) (And.intro (hc.2.2.1) (And.intro (⟨by decide, hc.2.2.2.1⟩) (And.intro (⟨lo200 L, lf200_3 L⟩) (And.intro (hc.1) (And.intro (inA_of (lo202 L) (ll202 L) hc.2.1) (And.intro (hc.2.2.2.2.1) (And.intro (inA_of (lo202 L) (ll202 L) hc.2.1) (And.intro (hc.2.2.2.2.2.1) (And.intro (hc.2.2.2.2.2.2) (k))))))))))))
set_option maxRecDepth 100000 in
theorem b_X9_passIt_86 {d : Nat} {S : mSh} {M : mMem} {Q : Option mV → mSh → mMem → Prop} {x1 x2 x3 x4 x5 : Int} {u6 : mV} (L : Lay S) (hc : R32 (x4 + 19) ∧ (0 ≤ x4 + 19 ∧ x4 + 19 < 9390) ∧ R32 ((x4 + 19) - 1) ∧ (0 ≤ (x4 + 19) - 1 ∧ (x4 + 19) - 1 < 9390) ∧ R32 ((M 202 (x4 + 19)) + (M 202 ((x4 + 19) - 1)))) (k : WP PR d 214 115 [vA 200, vI x1, vI x2, vI x3, vI x4, vI 18, u6] [] S (up M 202 (x4 + 19) ((M 202 (x4 + 19)) + (M 202 ((x4 + 19) - 1)))) Q) : WP PR d 214 86 [vA 200, vI x1, vI x2, vI x3, vI x4, vI x5, u6] [] S M Q := by
  refine WP.bl 19 115 rfl ?_
  exact And.intro (⟨lo200 L, lf200_3 L⟩) (And.intro (hc.1) (And.intro (inA_of (lo202 L) (ll202 L) hc.2.1) (And.intro (⟨lo200 L, lf200_3 L⟩) (And.intro (hc.1) (And.intro (hc.2.2.1) (And.intro (inA_of (lo202 L) (ll202 L) hc.2.2.2.1) (And.intro (hc.2.2.2.2) (And.intro (inA_of (lo202 L) (ll202 L) hc.2.1) (k)))))))))
set_option maxRecDepth 100000 in
theorem b_X9_passIt_115 {d : Nat} {S : mSh} {M : mMem} {Q : Option mV → mSh → mMem → Prop} {x1 x2 x3 x4 x5 : Int} {u6 : mV} (kt : x5 ≤ 0 → WP PR d 214 148 [vA 200, vI x1, vI x2, vI x3, vI x4, vI x5, u6] [] S M Q) (kf : 0 < x5 → WP PR d 214 120 [vA 200, vI x1, vI x2, vI x3, vI x4, vI x5, u6] [] S M Q) : WP PR d 214 115 [vA 200, vI x1, vI x2, vI x3, vI x4, vI x5, u6] [] S M Q := by
  refine WP.if0 1 120 117 .le 31 (0, 0, 0, 0) 148 rfl rfl ?_
  exact ⟨kt, fun hc => kf (Int.not_le.mp hc)⟩
set_option maxRecDepth 100000 in
theorem b_X9_passIt_120 {d : Nat} {S : mSh} {M : mMem} {Q : Option mV → mSh → mMem → Prop} {x1 x2 x3 x4 x5 : Int} {u6 : mV} (L : Lay S) (hc : R32 (x4 + x5) ∧ R32 ((x4 + x5) - 1) ∧ (0 ≤ (x4 + x5) - 1 ∧ (x4 + x5) - 1 < 9390) ∧ (0 ≤ x4 + x5 ∧ x4 + x5 < 9390) ∧ R32 (x5 + (-1))) (k : WP PR d 214 115 [vA 200, vI x1, vI x2, vI x3, vI x4, vI (x5 + (-1)), u6] [] S (up M 202 (x4 + x5) (M 202 ((x4 + x5) - 1))) Q) : WP PR d 214 120 [vA 200, vI x1, vI x2, vI x3, vI x4, vI x5, u6] [] S M Q := by
  refine WP.gt 15 145 (-30) (0, 0, 0, 0) _ 115 rfl rfl ?_
  exact And.intro (⟨lo200 L, lf200_3 L⟩) (And.intro (hc.1) (And.intro (⟨lo200 L, lf200_3 L⟩) (And.intro (hc.1) (And.intro (hc.2.1) (And.intro (inA_of (lo202 L) (ll202 L) hc.2.2.1) (And.intro (inA_of (lo202 L) (ll202 L) hc.2.2.2.1) (And.intro (hc.2.2.2.2) (k))))))))
set_option maxRecDepth 100000 in
theorem b_X9_passIt_148 {d : Nat} {S : mSh} {M : mMem} {Q : Option mV → mSh → mMem → Prop} {x1 x2 x3 x4 x5 : Int} {u6 : mV} (L : Lay S) (hc : (0 ≤ x4 ∧ x4 < 9390) ∧ R32 (x2 + 1)) (k : WP PR d 214 4 [vA 200, vI x1, vI (x2 + 1), vI x3, vI x4, vI x5, u6] [] S (up M 202 x4 0) Q) : WP PR d 214 148 [vA 200, vI x1, vI x2, vI x3, vI x4, vI x5, u6] [] S M Q := by
  refine WP.gt 6 159 (-155) (0, 0, 0, 0) _ 4 rfl rfl ?_
  exact And.intro (⟨lo200 L, lf200_3 L⟩) (And.intro (inA_of (lo202 L) (ll202 L) hc.1) (And.intro (hc.2) (k)))
set_option maxRecDepth 100000 in
theorem b_X9_passIt_162 {d : Nat} {S : mSh} {M : mMem} {Q : Option mV → mSh → mMem → Prop} {x1 x2 : Int} {u3 u4 u5 u6 : mV} (L : Lay S) (hc : R32 ((M 202 5) + 1)) (k : Q (some (vI x1)) S (up M 202 5 ((M 202 5) + 1))) : WP PR d 214 162 [vA 200, vI x1, vI x2, u3, u4, u5, u6] [] S M Q := by
  refine WP.re 9 173 .ireturn (0, 0, 0, 0) _ rfl ?_
  exact And.intro (⟨lo200 L, lf200_3 L⟩) (And.intro (inA_of (lo202 L) (ll202 L) (by decide)) (And.intro (hc) (And.intro (inA_of (lo202 L) (ll202 L) (by decide)) (⟨rfl, rfl, trivial, k⟩))))
/-- SoleraCellarModel.passNow()I -/
abbrev e_X9_passNow (d : Nat) (S : mSh) (M : mMem) (Q : Option mV → mSh → mMem → Prop) : Prop := WP PR d 215 0 [vA 200] [] S M Q
set_option maxRecDepth 100000 in
theorem b_X9_passNow_0 {d : Nat} {S : mSh} {M : mMem} {Q : Option mV → mSh → mMem → Prop} (L : Lay S) (kt : ¬ M 202 5 = 999 → WP PR d 215 15 [vA 200] [] S M Q) (kf : M 202 5 = 999 → WP PR d 215 12 [vA 200] [] S M Q) : WP PR d 215 0 [vA 200] [] S M Q := by
  refine WP.if2 5 12 9 .ne 6 (0, 0, 0, 0) 15 rfl rfl ?_
  exact And.intro (⟨lo200 L, lf200_3 L⟩) (And.intro (inA_of (lo202 L) (ll202 L) (by decide)) (⟨kt, fun hc => kf (Decidable.not_not.mp hc)⟩))
set_option maxRecDepth 100000 in
theorem b_X9_passNow_12 {d : Nat} {S : mSh} {M : mMem} {Q : Option mV → mSh → mMem → Prop} (k : Q (some (vI (-3))) S M) : WP PR d 215 12 [vA 200] [] S M Q := by
  refine WP.re 1 14 .ireturn (0, 0, 0, 0) _ rfl ?_
  exact ⟨rfl, rfl, trivial, k⟩
set_option maxRecDepth 100000 in
theorem b_X9_passNow_15 {d : Nat} {S : mSh} {M : mMem} {Q : Option mV → mSh → mMem → Prop} (L : Lay S) (k : WP PR d 140 0 [vA 200, vI 3, vU] [] S M (fun r S2 M2 => WP PR (d + 1) 215 20 [vA 200] (r.toList ++ []) S2 M2 Q)) : WP PR (d + 1) 215 15 [vA 200] [] S M Q := by
  refine WP.ca 2 20 17 (.invokevirtual 421) (0, 140, 0, 0) rfl ?_
  exact ⟨rfl, rfl, rfl, lo200 L, rfl, k⟩
set_option maxRecDepth 100000 in
theorem b_X9_passNow_20 {d : Nat} {S : mSh} {M : mMem} {Q : Option mV → mSh → mMem → Prop} (L : Lay S) (k : WP PR d 214 0 [vA 200, vU, vU, vU, vU, vU, vU] [] S M (fun r S2 M2 => WP PR (d + 1) 215 24 [vA 200] (r.toList ++ []) S2 M2 Q)) : WP PR (d + 1) 215 20 [vA 200] [] S M Q := by
  refine WP.ca 1 24 21 (.invokevirtual 459) (0, 214, 0, 0) rfl ?_
  exact ⟨rfl, rfl, rfl, lo200 L, rfl, k⟩
set_option maxRecDepth 100000 in
theorem b_X9_passNow_24 {d : Nat} {S : mSh} {M : mMem} {Q : Option mV → mSh → mMem → Prop} {s0 : Int} (k : Q (some (vI s0)) S M) : WP PR d 215 24 [vA 200] [vI s0] S M Q := by
  refine WP.re 0 24 .ireturn (0, 0, 0, 0) _ rfl ?_
  exact ⟨rfl, rfl, trivial, k⟩
/-- SoleraCellarModel.pass()I -/
abbrev e_X9_pass (d : Nat) (S : mSh) (M : mMem) (Q : Option mV → mSh → mMem → Prop) : Prop := WP PR d 216 0 [vA 200] [] S M Q
set_option maxRecDepth 100000 in
theorem b_X9_pass_0 {d : Nat} {S : mSh} {M : mMem} {Q : Option mV → mSh → mMem → Prop} (L : Lay S) (k : WP PR d 215 0 [vA 200] [] S (up M 200 0 0) (fun r S2 M2 => WP PR (d + 1) 216 10 [vA 200] (r.toList ++ [vA 200]) S2 M2 Q)) : WP PR (d + 1) 216 0 [vA 200] [] S M Q := by
  refine WP.ca 5 10 7 (.invokevirtual 462) (0, 215, 0, 0) rfl ?_
  exact And.intro (lo200 L) (⟨rfl, rfl, rfl, lo200 L, rfl, k⟩)
set_option maxRecDepth 100000 in
theorem b_X9_pass_10 {d : Nat} {S : mSh} {M : mMem} {Q : Option mV → mSh → mMem → Prop} {s1 : Int} (L : Lay S) (k : WP PR d 135 0 [vA 200, vI s1] [] S M (fun r S2 M2 => WP PR (d + 1) 216 13 [vA 200] (r.toList ++ []) S2 M2 Q)) : WP PR (d + 1) 216 10 [vA 200] [vI s1, vA 200] S M Q := by
  refine WP.ca 0 13 10 (.invokevirtual 142) (0, 135, 0, 0) rfl ?_
  exact ⟨rfl, rfl, rfl, lo200 L, rfl, k⟩
set_option maxRecDepth 100000 in
theorem b_X9_pass_13 {d : Nat} {S : mSh} {M : mMem} {Q : Option mV → mSh → mMem → Prop} {s0 : Int} (k : Q (some (vI s0)) S M) : WP PR d 216 13 [vA 200] [vI s0] S M Q := by
  refine WP.re 0 13 .ireturn (0, 0, 0, 0) _ rfl ?_
  exact ⟨rfl, rfl, trivial, k⟩
/-- SoleraCellarModel.readSum(I)V -/
abbrev e_X9_readSum (d : Nat) (a1 : Int) (S : mSh) (M : mMem) (Q : Option mV → mSh → mMem → Prop) : Prop := WP PR d 217 0 [vA 200, vI a1] [] S M Q
set_option maxRecDepth 100000 in
theorem b_X9_readSum_0 {d : Nat} {S : mSh} {M : mMem} {Q : Option mV → mSh → mMem → Prop} {x1 : Int} (L : Lay S) (hc : (0 ≤ x1 ∧ x1 < 120)) (kt : ¬ M 200 19 = 0 → WP PR d 217 22 [vA 200, vI x1] [] S (up M 223 x1 (M 200 23)) Q) (kf : M 200 19 = 0 → WP PR d 217 17 [vA 200, vI x1] [] S (up M 223 x1 (M 200 23)) Q) : WP PR d 217 0 [vA 200, vI x1] [] S M Q := by
  refine WP.if0 8 17 14 .ne 8 (0, 0, 0, 0) 22 rfl rfl ?_
  exact And.intro (⟨lo200 L, lf200_45 L⟩) (And.intro (lo200 L) (And.intro (inA_of (lo223 L) (ll223 L) hc) (And.intro (lo200 L) (⟨kt, fun hc => kf (Decidable.not_not.mp hc)⟩))))
set_option maxRecDepth 100000 in
theorem b_X9_readSum_17 {d : Nat} {S : mSh} {M : mMem} {Q : Option mV → mSh → mMem → Prop} {x1 : Int} (L : Lay S) (k : WP PR d 185 0 [vA 200, vI 0, vU] [] S M (fun r S2 M2 => WP PR (d + 1) 217 22 [vA 200, vI x1] (r.toList ++ []) S2 M2 Q)) : WP PR (d + 1) 217 17 [vA 200, vI x1] [] S M Q := by
  refine WP.ca 2 22 19 (.invokevirtual 357) (0, 185, 0, 0) rfl ?_
  exact ⟨rfl, rfl, rfl, lo200 L, rfl, k⟩
set_option maxRecDepth 100000 in
theorem b_X9_readSum_22 {d : Nat} {S : mSh} {M : mMem} {Q : Option mV → mSh → mMem → Prop} {x1 : Int} (L : Lay S) (hc : R32 (x1 + 1) ∧ (0 ≤ x1 + 1 ∧ x1 + 1 < 120)) (k : Q (none) S (up M 223 (x1 + 1) (M 200 23))) : WP PR d 217 22 [vA 200, vI x1] [] S M Q := by
  refine WP.re 8 34 .return_ (0, 0, 0, 0) _ rfl ?_
  exact And.intro (⟨lo200 L, lf200_45 L⟩) (And.intro (hc.1) (And.intro (lo200 L) (And.intro (inA_of (lo223 L) (ll223 L) hc.2) (⟨rfl, rfl, trivial, k⟩))))
/-- SoleraCellarModel.readBehind(JI)V -/
abbrev e_X9_readBehind (d : Nat) (a1 a2 : Int) (S : mSh) (M : mMem) (Q : Option mV → mSh → mMem → Prop) : Prop := WP PR d 218 0 [vA 200, vL a1, vU, vI a2] [] S M Q
set_option maxRecDepth 100000 in
theorem b_X9_readBehind_0 {d : Nat} {S : mSh} {M : mMem} {Q : Option mV → mSh → mMem → Prop} {x1 x3 : Int} (L : Lay S) (kt : ¬ M 200 19 = 0 → WP PR d 218 16 [vA 200, vL x1, vU, vI x3] [] S M Q) (kf : M 200 19 = 0 → WP PR d 218 7 [vA 200, vL x1, vU, vI x3] [] S M Q) : WP PR d 218 0 [vA 200, vL x1, vU, vI x3] [] S M Q := by
  refine WP.if0 2 7 4 .ne 12 (0, 0, 0, 0) 16 rfl rfl ?_
  exact And.intro (lo200 L) (⟨kt, fun hc => kf (Decidable.not_not.mp hc)⟩)
set_option maxRecDepth 100000 in
theorem b_X9_readBehind_7 {d : Nat} {S : mSh} {M : mMem} {Q : Option mV → mSh → mMem → Prop} {x1 x3 : Int} (L : Lay S) (k : WP PR d 166 0 [vA 200, vL x1, vU] [] S M (fun r S2 M2 => WP PR (d + 1) 218 13 [vA 200, vL x1, vU, vI x3] (r.toList ++ [vA 200]) S2 M2 Q)) : WP PR (d + 1) 218 7 [vA 200, vL x1, vU, vI x3] [] S M Q := by
  refine WP.ca 3 13 10 (.invokevirtual 283) (0, 166, 0, 0) rfl ?_
  exact ⟨rfl, rfl, rfl, lo200 L, rfl, k⟩
set_option maxRecDepth 100000 in
theorem b_X9_readBehind_13 {d : Nat} {S : mSh} {M : mMem} {Q : Option mV → mSh → mMem → Prop} {x1 x3 s1 : Int} (L : Lay S) (k : WP PR d 168 0 [vA 200, vI s1] [] S M (fun r S2 M2 => WP PR (d + 1) 218 16 [vA 200, vL x1, vU, vI x3] (r.toList ++ []) S2 M2 Q)) : WP PR (d + 1) 218 13 [vA 200, vL x1, vU, vI x3] [vI s1, vA 200] S M Q := by
  refine WP.ca 0 16 13 (.invokevirtual 260) (0, 168, 0, 0) rfl ?_
  exact ⟨rfl, rfl, rfl, lo200 L, rfl, k⟩
set_option maxRecDepth 100000 in
theorem b_X9_readBehind_16 {d : Nat} {S : mSh} {M : mMem} {Q : Option mV → mSh → mMem → Prop} {x1 x3 : Int} (L : Lay S) (k : WP PR d 217 0 [vA 200, vI x3] [] S M (fun r S2 M2 => WP PR (d + 1) 218 21 [vA 200, vL x1, vU, vI x3] (r.toList ++ []) S2 M2 Q)) : WP PR (d + 1) 218 16 [vA 200, vL x1, vU, vI x3] [] S M Q := by
  refine WP.ca 2 21 18 (.invokevirtual 465) (0, 217, 0, 0) rfl ?_
  exact ⟨rfl, rfl, rfl, lo200 L, rfl, k⟩
set_option maxRecDepth 100000 in
theorem b_X9_readBehind_21 {d : Nat} {S : mSh} {M : mMem} {Q : Option mV → mSh → mMem → Prop} {x1 x3 : Int} (k : Q (none) S M) : WP PR d 218 21 [vA 200, vL x1, vU, vI x3] [] S M Q := by
  refine WP.re 0 21 .return_ (0, 0, 0, 0) _ rfl ?_
  exact ⟨rfl, rfl, trivial, k⟩
/-- SoleraCellarModel.readOrder()V -/
abbrev e_X9_readOrder (d : Nat) (S : mSh) (M : mMem) (Q : Option mV → mSh → mMem → Prop) : Prop := WP PR d 219 0 [vA 200, vU, vU, vU] [] S M Q
set_option maxRecDepth 100000 in
theorem b_X9_readOrder_0 {d : Nat} {S : mSh} {M : mMem} {Q : Option mV → mSh → mMem → Prop} (k : WP PR d 219 4 [vA 200, vI (-1), vI 0, vU] [] S M Q) : WP PR d 219 0 [vA 200, vU, vU, vU] [] S M Q := by
  refine WP.bl 4 4 rfl ?_
  exact k
set_option maxRecDepth 100000 in
theorem b_X9_readOrder_4 {d : Nat} {S : mSh} {M : mMem} {Q : Option mV → mSh → mMem → Prop} {x1 x2 : Int} {u3 : mV} (kt : 4 ≤ x2 → WP PR d 219 34 [vA 200, vI x1, vI x2, u3] [] S M Q) (kf : x2 < 4 → WP PR d 219 9 [vA 200, vI x1, vI x2, u3] [] S M Q) : WP PR d 219 4 [vA 200, vI x1, vI x2, u3] [] S M Q := by
  refine WP.if2 2 9 6 .ge 28 (0, 0, 0, 0) 34 rfl rfl ?_
  exact ⟨kt, fun hc => kf (Int.not_le.mp hc)⟩
set_option maxRecDepth 100000 in
theorem b_X9_readOrder_9 {d : Nat} {S : mSh} {M : mMem} {Q : Option mV → mSh → mMem → Prop} {x1 x2 : Int} {u3 : mV} (L : Lay S) (hc : (0 ≤ x2 ∧ x2 < 4)) (k : WP PR d 166 0 [vA 200, vL (M 222 x2), vU] [] S M (fun r S2 M2 => WP PR (d + 1) 219 19 [vA 200, vI x1, vI x2, u3] (r.toList ++ []) S2 M2 Q)) : WP PR (d + 1) 219 9 [vA 200, vI x1, vI x2, u3] [] S M Q := by
  refine WP.ca 5 19 16 (.invokevirtual 283) (0, 166, 0, 0) rfl ?_
  exact And.intro (⟨lo200 L, lf200_44 L⟩) (And.intro (inA_of (lo222 L) (ll222 L) hc) (⟨rfl, rfl, rfl, lo200 L, rfl, k⟩))
set_option maxRecDepth 100000 in
theorem b_X9_readOrder_19 {d : Nat} {S : mSh} {M : mMem} {Q : Option mV → mSh → mMem → Prop} {x1 x2 s0 : Int} {u3 : mV} (kt : s0 = 0 → WP PR d 219 26 [vA 200, vI x1, vI x2, u3] [] S M Q) (kf : ¬ s0 = 0 → WP PR d 219 22 [vA 200, vI x1, vI x2, u3] [] S M Q) : WP PR d 219 19 [vA 200, vI x1, vI x2, u3] [vI s0] S M Q := by
  refine WP.if0 0 22 19 .eq 7 (0, 0, 0, 0) 26 rfl rfl ?_
  exact ⟨kt, fun hc => kf hc⟩
set_option maxRecDepth 100000 in
theorem b_X9_readOrder_22 {d : Nat} {S : mSh} {M : mMem} {Q : Option mV → mSh → mMem → Prop} {x1 x2 : Int} {u3 : mV} (hc : R32 (x2 + 1)) (k : WP PR d 219 4 [vA 200, vI x2, vI (x2 + 1), u3] [] S M Q) : WP PR d 219 22 [vA 200, vI x1, vI x2, u3] [] S M Q := by
  refine WP.gt 1 23 4 (0, 0, 0, 0) _ 27 rfl rfl ?_
  show WP PR d 219 27 [vA 200, vI x1, vI x2, u3] [vI x2] S M Q
  refine WP.gt 2 31 (-27) (0, 0, 0, 0) _ 4 rfl rfl ?_
  exact And.intro (hc) (k)
set_option maxRecDepth 100000 in
theorem b_X9_readOrder_26 {d : Nat} {S : mSh} {M : mMem} {Q : Option mV → mSh → mMem → Prop} {x1 x2 : Int} {u3 : mV} (hc : R32 (x2 + 1)) (k : WP PR d 219 4 [vA 200, vI x1, vI (x2 + 1), u3] [] S M Q) : WP PR d 219 26 [vA 200, vI x1, vI x2, u3] [] S M Q := by
  refine WP.gt 3 31 (-27) (0, 0, 0, 0) _ 4 rfl rfl ?_
  exact And.intro (hc) (k)
set_option maxRecDepth 100000 in
theorem b_X9_readOrder_34 {d : Nat} {S : mSh} {M : mMem} {Q : Option mV → mSh → mMem → Prop} {x1 x2 : Int} {u3 : mV} (kt : x1 = (-1) → WP PR d 219 53 [vA 200, vI x1, vI x2, u3] [vA 200] S M Q) (kf : ¬ x1 = (-1) → WP PR d 219 40 [vA 200, vI x1, vI x2, u3] [vA 200] S M Q) : WP PR d 219 34 [vA 200, vI x1, vI x2, u3] [] S M Q := by
  refine WP.if2 3 40 37 .eq 16 (0, 0, 0, 0) 53 rfl rfl ?_
  exact ⟨kt, fun hc => kf hc⟩
set_option maxRecDepth 100000 in
theorem b_X9_readOrder_40 {d : Nat} {S : mSh} {M : mMem} {Q : Option mV → mSh → mMem → Prop} {x1 x2 : Int} {u3 : mV} (L : Lay S) (kt : 12 ≤ M 200 21 → WP PR d 219 53 [vA 200, vI x1, vI x2, u3] [vA 200] S M Q) (kf : M 200 21 < 12 → WP PR d 219 49 [vA 200, vI x1, vI x2, u3] [vA 200] S M Q) : WP PR d 219 40 [vA 200, vI x1, vI x2, u3] [vA 200] S M Q := by
  refine WP.if2 3 49 46 .ge 7 (0, 0, 0, 0) 53 rfl rfl ?_
  exact And.intro (lo200 L) (⟨kt, fun hc => kf (Int.not_le.mp hc)⟩)
set_option maxRecDepth 100000 in
theorem b_X9_readOrder_49 {d : Nat} {S : mSh} {M : mMem} {Q : Option mV → mSh → mMem → Prop} {x1 x2 : Int} {u3 : mV} (L : Lay S) (k : WP PR d 168 0 [vA 200, vI 1] [] S M (fun r S2 M2 => WP PR (d + 1) 219 57 [vA 200, vI x1, vI x2, u3] (r.toList ++ []) S2 M2 Q)) : WP PR (d + 1) 219 49 [vA 200, vI x1, vI x2, u3] [vA 200] S M Q := by
  refine WP.gt 1 50 4 (0, 0, 0, 0) _ 54 rfl rfl ?_
  show WP PR (d + 1) 219 54 [vA 200, vI x1, vI x2, u3] [vI 1, vA 200] S M Q
  refine WP.ca 0 57 54 (.invokevirtual 260) (0, 168, 0, 0) rfl ?_
  exact ⟨rfl, rfl, rfl, lo200 L, rfl, k⟩
set_option maxRecDepth 100000 in
theorem b_X9_readOrder_53 {d : Nat} {S : mSh} {M : mMem} {Q : Option mV → mSh → mMem → Prop} {x1 x2 : Int} {u3 : mV} (L : Lay S) (k : WP PR d 168 0 [vA 200, vI 0] [] S M (fun r S2 M2 => WP PR (d + 1) 219 57 [vA 200, vI x1, vI x2, u3] (r.toList ++ []) S2 M2 Q)) : WP PR (d + 1) 219 53 [vA 200, vI x1, vI x2, u3] [vA 200] S M Q := by
  refine WP.ca 1 57 54 (.invokevirtual 260) (0, 168, 0, 0) rfl ?_
  exact ⟨rfl, rfl, rfl, lo200 L, rfl, k⟩
set_option maxRecDepth 100000 in
theorem b_X9_readOrder_57 {d : Nat} {S : mSh} {M : mMem} {Q : Option mV → mSh → mMem → Prop} {x1 x2 : Int} {u3 : mV} (L : Lay S) (kt : M 200 19 = 0 → WP PR d 219 65 [vA 200, vI x1, vI x2, u3] [] S M Q) (kf : ¬ M 200 19 = 0 → WP PR d 219 64 [vA 200, vI x1, vI x2, u3] [] S M Q) : WP PR d 219 57 [vA 200, vI x1, vI x2, u3] [] S M Q := by
  refine WP.if0 2 64 61 .eq 4 (0, 0, 0, 0) 65 rfl rfl ?_
  exact And.intro (lo200 L) (⟨kt, fun hc => kf hc⟩)
set_option maxRecDepth 100000 in
theorem b_X9_readOrder_64 {d : Nat} {S : mSh} {M : mMem} {Q : Option mV → mSh → mMem → Prop} {x1 x2 : Int} {u3 : mV} (k : Q (none) S M) : WP PR d 219 64 [vA 200, vI x1, vI x2, u3] [] S M Q := by
  refine WP.re 0 64 .return_ (0, 0, 0, 0) _ rfl ?_
  exact ⟨rfl, rfl, trivial, k⟩
set_option maxRecDepth 100000 in
theorem b_X9_readOrder_65 {d : Nat} {S : mSh} {M : mMem} {Q : Option mV → mSh → mMem → Prop} {x1 x2 : Int} {u3 : mV} (L : Lay S) (hc : R32 (10 * (M 200 21)) ∧ R32 ((M 200 21) + 1)) (k : WP PR d 219 85 [vA 200, vI x1, vI (10 * (M 200 21)), vI 0] [] S (up M 200 21 ((M 200 21) + 1)) Q) : WP PR d 219 65 [vA 200, vI x1, vI x2, u3] [] S M Q := by
  refine WP.bl 13 85 rfl ?_
  exact And.intro (lo200 L) (And.intro (hc.1) (And.intro (lo200 L) (And.intro (hc.2) (And.intro (lo200 L) (k)))))
set_option maxRecDepth 100000 in
theorem b_X9_readOrder_85 {d : Nat} {S : mSh} {M : mMem} {Q : Option mV → mSh → mMem → Prop} {x1 x2 x3 : Int} (kt : 10 ≤ x3 → WP PR d 219 106 [vA 200, vI x1, vI x2, vI x3] [] S M Q) (kf : x3 < 10 → WP PR d 219 91 [vA 200, vI x1, vI x2, vI x3] [] S M Q) : WP PR d 219 85 [vA 200, vI x1, vI x2, vI x3] [] S M Q := by
  refine WP.if2 2 91 88 .ge 18 (0, 0, 0, 0) 106 rfl rfl ?_
  exact ⟨kt, fun hc => kf (Int.not_le.mp hc)⟩
set_option maxRecDepth 100000 in
theorem b_X9_readOrder_91 {d : Nat} {S : mSh} {M : mMem} {Q : Option mV → mSh → mMem → Prop} {x1 x2 x3 : Int} (L : Lay S) (hc : R32 (x2 + x3) ∧ (0 ≤ x2 + x3 ∧ x2 + x3 < 120) ∧ R32 (x3 + 1)) (k : WP PR d 219 85 [vA 200, vI x1, vI x2, vI (x3 + 1)] [] S (up M 223 (x2 + x3) 0) Q) : WP PR d 219 91 [vA 200, vI x1, vI x2, vI x3] [] S M Q := by
  refine WP.gt 8 103 (-18) (0, 0, 0, 0) _ 85 rfl rfl ?_
  exact And.intro (⟨lo200 L, lf200_45 L⟩) (And.intro (hc.1) (And.intro (inA_of (lo223 L) (ll223 L) hc.2.1) (And.intro (hc.2.2) (k))))
set_option maxRecDepth 100000 in
theorem b_X9_readOrder_106 {d : Nat} {S : mSh} {M : mMem} {Q : Option mV → mSh → mMem → Prop} {x1 x2 x3 : Int} (L : Lay S) (hc : (0 ≤ x2 ∧ x2 < 120)) (kt : x1 = 3 → WP PR d 219 125 [vA 200, vI x1, vI x2, vI x3] [] S (up M 223 x2 x1) Q) (kf : ¬ x1 = 3 → WP PR d 219 118 [vA 200, vI x1, vI x2, vI x3] [] S (up M 223 x2 x1) Q) : WP PR d 219 106 [vA 200, vI x1, vI x2, vI x3] [] S M Q := by
  refine WP.if2 7 118 115 .eq 10 (0, 0, 0, 0) 125 rfl rfl ?_
  exact And.intro (⟨lo200 L, lf200_45 L⟩) (And.intro (inA_of (lo223 L) (ll223 L) hc) (⟨kt, fun hc => kf hc⟩))
set_option maxRecDepth 100000 in
theorem b_X9_readOrder_118 {d : Nat} {S : mSh} {M : mMem} {Q : Option mV → mSh → mMem → Prop} {x1 x2 x3 : Int} (L : Lay S) (hc : R32 (x2 + 1)) (k : WP PR d 217 0 [vA 200, vI (x2 + 1)] [] S M (fun r S2 M2 => WP PR (d + 1) 219 125 [vA 200, vI x1, vI x2, vI x3] (r.toList ++ []) S2 M2 Q)) : WP PR (d + 1) 219 118 [vA 200, vI x1, vI x2, vI x3] [] S M Q := by
  refine WP.ca 4 125 122 (.invokevirtual 465) (0, 217, 0, 0) rfl ?_
  exact And.intro (hc) (⟨rfl, rfl, rfl, lo200 L, rfl, k⟩)
set_option maxRecDepth 100000 in
theorem b_X9_readOrder_125 {d : Nat} {S : mSh} {M : mMem} {Q : Option mV → mSh → mMem → Prop} {x1 x2 x3 : Int} (kt : x1 = 1 → WP PR d 219 135 [vA 200, vI x1, vI x2, vI x3] [] S M Q) (kf : ¬ x1 = 1 → WP PR d 219 130 [vA 200, vI x1, vI x2, vI x3] [] S M Q) : WP PR d 219 125 [vA 200, vI x1, vI x2, vI x3] [] S M Q := by
  refine WP.if2 2 130 127 .eq 8 (0, 0, 0, 0) 135 rfl rfl ?_
  exact ⟨kt, fun hc => kf hc⟩
set_option maxRecDepth 100000 in
theorem b_X9_readOrder_130 {d : Nat} {S : mSh} {M : mMem} {Q : Option mV → mSh → mMem → Prop} {x1 x2 x3 : Int} (kt : ¬ x1 = 2 → WP PR d 219 145 [vA 200, vI x1, vI x2, vI x3] [] S M Q) (kf : x1 = 2 → WP PR d 219 135 [vA 200, vI x1, vI x2, vI x3] [] S M Q) : WP PR d 219 130 [vA 200, vI x1, vI x2, vI x3] [] S M Q := by
  refine WP.if2 2 135 132 .ne 13 (0, 0, 0, 0) 145 rfl rfl ?_
  exact ⟨kt, fun hc => kf (Decidable.not_not.mp hc)⟩
set_option maxRecDepth 100000 in
theorem b_X9_readOrder_135 {d : Nat} {S : mSh} {M : mMem} {Q : Option mV → mSh → mMem → Prop} {x1 x2 x3 : Int} (L : Lay S) (hc : R32 (x2 + 3)) (k : WP PR d 218 0 [vA 200, vL 215533, vU, vI (x2 + 3)] [] S M (fun r S2 M2 => WP PR (d + 1) 219 145 [vA 200, vI x1, vI x2, vI x3] (r.toList ++ []) S2 M2 Q)) : WP PR (d + 1) 219 135 [vA 200, vI x1, vI x2, vI x3] [] S M Q := by
  refine WP.ca 5 145 142 (.invokevirtual 470) (0, 218, 0, 0) rfl ?_
  exact And.intro (hc) (⟨rfl, rfl, rfl, lo200 L, rfl, k⟩)
set_option maxRecDepth 100000 in
theorem b_X9_readOrder_145 {d : Nat} {S : mSh} {M : mMem} {Q : Option mV → mSh → mMem → Prop} {x1 x2 x3 : Int} (kt : x1 = 1 → WP PR d 219 154 [vA 200, vI x1, vI x2, vI x3] [] S M Q) (kf : ¬ x1 = 1 → WP PR d 219 150 [vA 200, vI x1, vI x2, vI x3] [] S M Q) : WP PR d 219 145 [vA 200, vI x1, vI x2, vI x3] [] S M Q := by
  refine WP.if2 2 150 147 .eq 7 (0, 0, 0, 0) 154 rfl rfl ?_
  exact ⟨kt, fun hc => kf hc⟩
set_option maxRecDepth 100000 in
theorem b_X9_readOrder_150 {d : Nat} {S : mSh} {M : mMem} {Q : Option mV → mSh → mMem → Prop} {x1 x2 x3 : Int} (kt : ¬ x1 = 0 → WP PR d 219 164 [vA 200, vI x1, vI x2, vI x3] [] S M Q) (kf : x1 = 0 → WP PR d 219 154 [vA 200, vI x1, vI x2, vI x3] [] S M Q) : WP PR d 219 150 [vA 200, vI x1, vI x2, vI x3] [] S M Q := by
  refine WP.if0 1 154 151 .ne 13 (0, 0, 0, 0) 164 rfl rfl ?_
  exact ⟨kt, fun hc => kf (Decidable.not_not.mp hc)⟩
set_option maxRecDepth 100000 in
theorem b_X9_readOrder_154 {d : Nat} {S : mSh} {M : mMem} {Q : Option mV → mSh → mMem → Prop} {x1 x2 x3 : Int} (L : Lay S) (hc : R32 (x2 + 5)) (k : WP PR d 218 0 [vA 200, vL 302, vU, vI (x2 + 5)] [] S M (fun r S2 M2 => WP PR (d + 1) 219 164 [vA 200, vI x1, vI x2, vI x3] (r.toList ++ []) S2 M2 Q)) : WP PR (d + 1) 219 154 [vA 200, vI x1, vI x2, vI x3] [] S M Q := by
  refine WP.ca 5 164 161 (.invokevirtual 470) (0, 218, 0, 0) rfl ?_
  exact And.intro (hc) (⟨rfl, rfl, rfl, lo200 L, rfl, k⟩)
set_option maxRecDepth 100000 in
theorem b_X9_readOrder_164 {d : Nat} {S : mSh} {M : mMem} {Q : Option mV → mSh → mMem → Prop} {x1 x2 x3 : Int} (L : Lay S) (hc : R32 (x2 + 9) ∧ (0 ≤ x2 + 9 ∧ x2 + 9 < 120)) (kt : ¬ M 200 19 = 0 → WP PR d 219 212 [vA 200, vI x1, vI x2, vI x3] [] S (up M 223 (x2 + 9) 1) Q) (kf : M 200 19 = 0 → WP PR d 219 181 [vA 200, vI x1, vI x2, vI x3] [] S (up M 223 (x2 + 9) 1) Q) : WP PR d 219 164 [vA 200, vI x1, vI x2, vI x3] [] S M Q := by
  refine WP.if0 9 181 178 .ne 34 (0, 0, 0, 0) 212 rfl rfl ?_
  exact And.intro (⟨lo200 L, lf200_45 L⟩) (And.intro (hc.1) (And.intro (inA_of (lo223 L) (ll223 L) hc.2) (And.intro (lo200 L) (⟨kt, fun hc => kf (Decidable.not_not.mp hc)⟩))))
set_option maxRecDepth 100000 in
theorem b_X9_readOrder_181 {d : Nat} {S : mSh} {M : mMem} {Q : Option mV → mSh → mMem → Prop} {x1 x2 x3 : Int} (L : Lay S) (k : WP PR d 166 0 [vA 200, vL 21279923, vU] [] S M (fun r S2 M2 => WP PR (d + 1) 219 188 [vA 200, vI x1, vI x2, vI x3] (r.toList ++ []) S2 M2 Q)) : WP PR (d + 1) 219 181 [vA 200, vI x1, vI x2, vI x3] [] S M Q := by
  refine WP.ca 2 188 185 (.invokevirtual 283) (0, 166, 0, 0) rfl ?_
  exact ⟨rfl, rfl, rfl, lo200 L, rfl, k⟩
set_option maxRecDepth 100000 in
theorem b_X9_readOrder_188 {d : Nat} {S : mSh} {M : mMem} {Q : Option mV → mSh → mMem → Prop} {x1 x2 x3 s0 : Int} (kt : s0 = 0 → WP PR d 219 212 [vA 200, vI x1, vI x2, vI x3] [] S M Q) (kf : ¬ s0 = 0 → WP PR d 219 191 [vA 200, vI x1, vI x2, vI x3] [] S M Q) : WP PR d 219 188 [vA 200, vI x1, vI x2, vI x3] [vI s0] S M Q := by
  refine WP.if0 0 191 188 .eq 24 (0, 0, 0, 0) 212 rfl rfl ?_
  exact ⟨kt, fun hc => kf hc⟩
set_option maxRecDepth 100000 in
theorem b_X9_readOrder_191 {d : Nat} {S : mSh} {M : mMem} {Q : Option mV → mSh → mMem → Prop} {x1 x2 x3 : Int} (L : Lay S) (k : WP PR d 165 0 [vA 200] [] S M (fun r S2 M2 => WP PR (d + 1) 219 195 [vA 200, vI x1, vI x2, vI x3] (r.toList ++ []) S2 M2 Q)) : WP PR (d + 1) 219 191 [vA 200, vI x1, vI x2, vI x3] [] S M Q := by
  refine WP.ca 1 195 192 (.invokevirtual 233) (0, 165, 0, 0) rfl ?_
  exact ⟨rfl, rfl, rfl, lo200 L, rfl, k⟩
set_option maxRecDepth 100000 in
theorem b_X9_readOrder_195 {d : Nat} {S : mSh} {M : mMem} {Q : Option mV → mSh → mMem → Prop} {x1 x2 x3 : Int} (L : Lay S) (hc : R32 (x2 + 9)) (k : WP PR d 169 0 [vA 200, vL 1, vU, vL 20, vU, vU] [] S M (fun r S2 M2 => WP PR (d + 1) 219 211 [vA 200, vI x1, vI x2, vI x3] (r.toList ++ [vI (x2 + 9), vA 223]) S2 M2 Q)) : WP PR (d + 1) 219 195 [vA 200, vI x1, vI x2, vI x3] [] S M Q := by
  refine WP.ca 8 211 208 (.invokevirtual 318) (0, 169, 0, 0) rfl ?_
  exact And.intro (⟨lo200 L, lf200_45 L⟩) (And.intro (hc) (⟨rfl, rfl, rfl, lo200 L, rfl, k⟩))
set_option maxRecDepth 100000 in
theorem b_X9_readOrder_211 {d : Nat} {S : mSh} {M : mMem} {Q : Option mV → mSh → mMem → Prop} {x1 x2 x3 s0 s1 s2 : Int} (L : Lay S) (ho1 : isO S s0 20) (hc : (0 ≤ s1 ∧ s1 < sL S s0) ∧ R32 (x2 + 7) ∧ (0 ≤ x2 + 7 ∧ x2 + 7 < 120)) (kt : ¬ (up M s0 s1 s2) 200 19 = 0 → WP PR d 219 251 [vA 200, vI x1, vI x2, vI x3] [] S (up (up M s0 s1 s2) 223 (x2 + 7) ((up M s0 s1 s2) 200 23)) Q) (kf : (up M s0 s1 s2) 200 19 = 0 → WP PR d 219 232 [vA 200, vI x1, vI x2, vI x3] [] S (up (up M s0 s1 s2) 223 (x2 + 7) ((up M s0 s1 s2) 200 23)) Q) : WP PR d 219 211 [vA 200, vI x1, vI x2, vI x3] [vI s2, vI s1, vA s0] S M Q := by
  refine WP.if0 11 232 229 .ne 22 (0, 0, 0, 0) 251 rfl rfl ?_
  exact And.intro (inA_of (ho1) (rfl) hc.1) (And.intro (⟨lo200 L, lf200_45 L⟩) (And.intro (hc.2.1) (And.intro (lo200 L) (And.intro (inA_of (lo223 L) (ll223 L) hc.2.2) (And.intro (lo200 L) (⟨kt, fun hc => kf (Decidable.not_not.mp hc)⟩))))))
set_option maxRecDepth 100000 in
theorem b_X9_readOrder_212 {d : Nat} {S : mSh} {M : mMem} {Q : Option mV → mSh → mMem → Prop} {x1 x2 x3 : Int} (L : Lay S) (hc : R32 (x2 + 7) ∧ (0 ≤ x2 + 7 ∧ x2 + 7 < 120)) (kt : ¬ M 200 19 = 0 → WP PR d 219 251 [vA 200, vI x1, vI x2, vI x3] [] S (up M 223 (x2 + 7) (M 200 23)) Q) (kf : M 200 19 = 0 → WP PR d 219 232 [vA 200, vI x1, vI x2, vI x3] [] S (up M 223 (x2 + 7) (M 200 23)) Q) : WP PR d 219 212 [vA 200, vI x1, vI x2, vI x3] [] S M Q := by
  refine WP.if0 10 232 229 .ne 22 (0, 0, 0, 0) 251 rfl rfl ?_
  exact And.intro (⟨lo200 L, lf200_45 L⟩) (And.intro (hc.1) (And.intro (lo200 L) (And.intro (inA_of (lo223 L) (ll223 L) hc.2) (And.intro (lo200 L) (⟨kt, fun hc => kf (Decidable.not_not.mp hc)⟩)))))
set_option maxRecDepth 100000 in
theorem b_X9_readOrder_232 {d : Nat} {S : mSh} {M : mMem} {Q : Option mV → mSh → mMem → Prop} {x1 x2 x3 : Int} (L : Lay S) (k : WP PR d 166 0 [vA 200, vL 294, vU] [] S M (fun r S2 M2 => WP PR (d + 1) 219 239 [vA 200, vI x1, vI x2, vI x3] (r.toList ++ []) S2 M2 Q)) : WP PR (d + 1) 219 232 [vA 200, vI x1, vI x2, vI x3] [] S M Q := by
  refine WP.ca 2 239 236 (.invokevirtual 283) (0, 166, 0, 0) rfl ?_
  exact ⟨rfl, rfl, rfl, lo200 L, rfl, k⟩
set_option maxRecDepth 100000 in
theorem b_X9_readOrder_239 {d : Nat} {S : mSh} {M : mMem} {Q : Option mV → mSh → mMem → Prop} {x1 x2 x3 s0 : Int} (kt : s0 = 0 → WP PR d 219 251 [vA 200, vI x1, vI x2, vI x3] [] S M Q) (kf : ¬ s0 = 0 → WP PR d 219 242 [vA 200, vI x1, vI x2, vI x3] [] S M Q) : WP PR d 219 239 [vA 200, vI x1, vI x2, vI x3] [vI s0] S M Q := by
  refine WP.if0 0 242 239 .eq 12 (0, 0, 0, 0) 251 rfl rfl ?_
  exact ⟨kt, fun hc => kf hc⟩
set_option maxRecDepth 100000 in
theorem b_X9_readOrder_242 {d : Nat} {S : mSh} {M : mMem} {Q : Option mV → mSh → mMem → Prop} {x1 x2 x3 : Int} (L : Lay S) (k : WP PR d 165 0 [vA 200] [] S M (fun r S2 M2 => WP PR (d + 1) 219 246 [vA 200, vI x1, vI x2, vI x3] (r.toList ++ []) S2 M2 Q)) : WP PR (d + 1) 219 242 [vA 200, vI x1, vI x2, vI x3] [] S M Q := by
  refine WP.ca 1 246 243 (.invokevirtual 233) (0, 165, 0, 0) rfl ?_
  exact ⟨rfl, rfl, rfl, lo200 L, rfl, k⟩
set_option maxRecDepth 100000 in
theorem b_X9_readOrder_246 {d : Nat} {S : mSh} {M : mMem} {Q : Option mV → mSh → mMem → Prop} {x1 x2 x3 : Int} (L : Lay S) (k : WP PR d 185 0 [vA 200, vI 1, vU] [] S M (fun r S2 M2 => WP PR (d + 1) 219 251 [vA 200, vI x1, vI x2, vI x3] (r.toList ++ []) S2 M2 Q)) : WP PR (d + 1) 219 246 [vA 200, vI x1, vI x2, vI x3] [] S M Q := by
  refine WP.ca 2 251 248 (.invokevirtual 357) (0, 185, 0, 0) rfl ?_
  exact ⟨rfl, rfl, rfl, lo200 L, rfl, k⟩
set_option maxRecDepth 100000 in
theorem b_X9_readOrder_251 {d : Nat} {S : mSh} {M : mMem} {Q : Option mV → mSh → mMem → Prop} {x1 x2 x3 : Int} (L : Lay S) (hc : R32 (x2 + 8) ∧ (0 ≤ x2 + 8 ∧ x2 + 8 < 120)) (k : Q (none) S (up M 223 (x2 + 8) (M 200 23))) : WP PR d 219 251 [vA 200, vI x1, vI x2, vI x3] [] S M Q := by
  refine WP.re 8 264 .return_ (0, 0, 0, 0) _ rfl ?_
  exact And.intro (⟨lo200 L, lf200_45 L⟩) (And.intro (hc.1) (And.intro (lo200 L) (And.intro (inA_of (lo223 L) (ll223 L) hc.2) (⟨rfl, rfl, trivial, k⟩))))
/-- SoleraCellarModel.readOrders()V -/
abbrev e_X9_readOrders (d : Nat) (S : mSh) (M : mMem) (Q : Option mV → mSh → mMem → Prop) : Prop := WP PR d 220 0 [vA 200] [] S M Q
set_option maxRecDepth 100000 in
theorem b_X9_readOrders_0 {d : Nat} {S : mSh} {M : mMem} {Q : Option mV → mSh → mMem → Prop} (L : Lay S) (k : WP PR d 186 0 [vA 200, vI 1] [] S M (fun r S2 M2 => WP PR (d + 1) 220 5 [vA 200] (r.toList ++ []) S2 M2 Q)) : WP PR (d + 1) 220 0 [vA 200] [] S M Q := by
  refine WP.ca 2 5 2 (.invokevirtual 362) (0, 186, 0, 0) rfl ?_
  exact ⟨rfl, rfl, rfl, lo200 L, rfl, k⟩
set_option maxRecDepth 100000 in
theorem b_X9_readOrders_5 {d : Nat} {S : mSh} {M : mMem} {Q : Option mV → mSh → mMem → Prop} (L : Lay S) (k : WP PR d 219 0 [vA 200, vU, vU, vU] [] S M (fun r S2 M2 => WP PR (d + 1) 220 9 [vA 200] (r.toList ++ []) S2 M2 Q)) : WP PR (d + 1) 220 5 [vA 200] [] S M Q := by
  refine WP.ca 1 9 6 (.invokevirtual 478) (0, 219, 0, 0) rfl ?_
  exact ⟨rfl, rfl, rfl, lo200 L, rfl, k⟩
set_option maxRecDepth 100000 in
theorem b_X9_readOrders_9 {d : Nat} {S : mSh} {M : mMem} {Q : Option mV → mSh → mMem → Prop} (L : Lay S) (kt : ¬ M 200 19 = 0 → WP PR d 220 36 [vA 200] [] S M Q) (kf : M 200 19 = 0 → WP PR d 220 16 [vA 200] [] S M Q) : WP PR d 220 9 [vA 200] [] S M Q := by
  refine WP.if0 2 16 13 .ne 23 (0, 0, 0, 0) 36 rfl rfl ?_
  exact And.intro (lo200 L) (⟨kt, fun hc => kf (Decidable.not_not.mp hc)⟩)
set_option maxRecDepth 100000 in
theorem b_X9_readOrders_16 {d : Nat} {S : mSh} {M : mMem} {Q : Option mV → mSh → mMem → Prop} (L : Lay S) (k : WP PR d 167 0 [vA 200, vI 59] [] S M (fun r S2 M2 => WP PR (d + 1) 220 22 [vA 200] (r.toList ++ []) S2 M2 Q)) : WP PR (d + 1) 220 16 [vA 200] [] S M Q := by
  refine WP.ca 2 22 19 (.invokevirtual 296) (0, 167, 0, 0) rfl ?_
  exact ⟨rfl, rfl, rfl, lo200 L, rfl, k⟩
set_option maxRecDepth 100000 in
theorem b_X9_readOrders_22 {d : Nat} {S : mSh} {M : mMem} {Q : Option mV → mSh → mMem → Prop} {s0 : Int} (kt : s0 = 0 → WP PR d 220 36 [vA 200] [] S M Q) (kf : ¬ s0 = 0 → WP PR d 220 25 [vA 200] [] S M Q) : WP PR d 220 22 [vA 200] [vI s0] S M Q := by
  refine WP.if0 0 25 22 .eq 14 (0, 0, 0, 0) 36 rfl rfl ?_
  exact ⟨kt, fun hc => kf hc⟩
set_option maxRecDepth 100000 in
theorem b_X9_readOrders_25 {d : Nat} {S : mSh} {M : mMem} {Q : Option mV → mSh → mMem → Prop} (L : Lay S) (k : WP PR d 165 0 [vA 200] [] S M (fun r S2 M2 => WP PR (d + 1) 220 29 [vA 200] (r.toList ++ []) S2 M2 Q)) : WP PR (d + 1) 220 25 [vA 200] [] S M Q := by
  refine WP.ca 1 29 26 (.invokevirtual 233) (0, 165, 0, 0) rfl ?_
  exact ⟨rfl, rfl, rfl, lo200 L, rfl, k⟩
set_option maxRecDepth 100000 in
theorem b_X9_readOrders_29 {d : Nat} {S : mSh} {M : mMem} {Q : Option mV → mSh → mMem → Prop} (L : Lay S) (k : WP PR d 219 0 [vA 200, vU, vU, vU] [] S M (fun r S2 M2 => WP PR (d + 1) 220 33 [vA 200] (r.toList ++ []) S2 M2 Q)) : WP PR (d + 1) 220 29 [vA 200] [] S M Q := by
  refine WP.ca 1 33 30 (.invokevirtual 478) (0, 219, 0, 0) rfl ?_
  exact ⟨rfl, rfl, rfl, lo200 L, rfl, k⟩
set_option maxRecDepth 100000 in
theorem b_X9_readOrders_33 {d : Nat} {S : mSh} {M : mMem} {Q : Option mV → mSh → mMem → Prop} (k : WP PR d 220 9 [vA 200] [] S M Q) : WP PR d 220 33 [vA 200] [] S M Q := by
  refine WP.gt 0 33 (-24) (0, 0, 0, 0) _ 9 rfl rfl ?_
  exact k
set_option maxRecDepth 100000 in
theorem b_X9_readOrders_36 {d : Nat} {S : mSh} {M : mMem} {Q : Option mV → mSh → mMem → Prop} (L : Lay S) (k : WP PR d 187 0 [vA 200] [] S M (fun r S2 M2 => WP PR (d + 1) 220 40 [vA 200] (r.toList ++ []) S2 M2 Q)) : WP PR (d + 1) 220 36 [vA 200] [] S M Q := by
  refine WP.ca 1 40 37 (.invokevirtual 368) (0, 187, 0, 0) rfl ?_
  exact ⟨rfl, rfl, rfl, lo200 L, rfl, k⟩
set_option maxRecDepth 100000 in
theorem b_X9_readOrders_40 {d : Nat} {S : mSh} {M : mMem} {Q : Option mV → mSh → mMem → Prop} (k : Q (none) S M) : WP PR d 220 40 [vA 200] [] S M Q := by
  refine WP.re 0 40 .return_ (0, 0, 0, 0) _ rfl ?_
  exact ⟨rfl, rfl, trivial, k⟩
/-- SoleraCellarModel.plan()I -/
abbrev e_X9_plan (d : Nat) (S : mSh) (M : mMem) (Q : Option mV → mSh → mMem → Prop) : Prop := WP PR d 221 0 [vA 200, vU, vU] [] S M Q
set_option maxRecDepth 100000 in
theorem b_X9_plan_0 {d : Nat} {S : mSh} {M : mMem} {Q : Option mV → mSh → mMem → Prop} (L : Lay S) (kt : ¬ M 202 3 = 4 → WP PR d 221 27 [vA 200, vU, vU] [] S (up M 200 0 0) Q) (kf : M 202 3 = 4 → WP PR d 221 15 [vA 200, vU, vU] [] S (up M 200 0 0) Q) : WP PR d 221 0 [vA 200, vU, vU] [] S M Q := by
  refine WP.if2 8 15 12 .ne 15 (0, 0, 0, 0) 27 rfl rfl ?_
  exact And.intro (lo200 L) (And.intro (⟨lo200 L, lf200_3 L⟩) (And.intro (inA_of (lo202 L) (ll202 L) (by decide)) (⟨kt, fun hc => kf (Decidable.not_not.mp hc)⟩)))
set_option maxRecDepth 100000 in
theorem b_X9_plan_15 {d : Nat} {S : mSh} {M : mMem} {Q : Option mV → mSh → mMem → Prop} {u1 u2 : mV} (L : Lay S) (k : WP PR d 135 0 [vA 200, vI (-5)] [] S (up M 200 13 0) (fun r S2 M2 => WP PR (d + 1) 221 26 [vA 200, u1, u2] (r.toList ++ []) S2 M2 Q)) : WP PR (d + 1) 221 15 [vA 200, u1, u2] [] S M Q := by
  refine WP.ca 5 26 23 (.invokevirtual 142) (0, 135, 0, 0) rfl ?_
  exact And.intro (lo200 L) (⟨rfl, rfl, rfl, lo200 L, rfl, k⟩)
set_option maxRecDepth 100000 in
theorem b_X9_plan_26 {d : Nat} {S : mSh} {M : mMem} {Q : Option mV → mSh → mMem → Prop} {s0 : Int} {u1 u2 : mV} (k : Q (some (vI s0)) S M) : WP PR d 221 26 [vA 200, u1, u2] [vI s0] S M Q := by
  refine WP.re 0 26 .ireturn (0, 0, 0, 0) _ rfl ?_
  exact ⟨rfl, rfl, trivial, k⟩
set_option maxRecDepth 100000 in
theorem b_X9_plan_27 {d : Nat} {S : mSh} {M : mMem} {Q : Option mV → mSh → mMem → Prop} {u1 u2 : mV} (L : Lay S) (k : WP PR d 220 0 [vA 200] [] S M (fun r S2 M2 => WP PR (d + 1) 221 31 [vA 200, u1, u2] (r.toList ++ []) S2 M2 Q)) : WP PR (d + 1) 221 27 [vA 200, u1, u2] [] S M Q := by
  refine WP.ca 1 31 28 (.invokevirtual 481) (0, 220, 0, 0) rfl ?_
  exact ⟨rfl, rfl, rfl, lo200 L, rfl, k⟩
set_option maxRecDepth 100000 in
theorem b_X9_plan_31 {d : Nat} {S : mSh} {M : mMem} {Q : Option mV → mSh → mMem → Prop} {u1 u2 : mV} (L : Lay S) (kt : M 200 19 = 0 → WP PR d 221 45 [vA 200, u1, u2] [] S M Q) (kf : ¬ M 200 19 = 0 → WP PR d 221 38 [vA 200, u1, u2] [] S M Q) : WP PR d 221 31 [vA 200, u1, u2] [] S M Q := by
  refine WP.if0 2 38 35 .eq 10 (0, 0, 0, 0) 45 rfl rfl ?_
  exact And.intro (lo200 L) (⟨kt, fun hc => kf hc⟩)
set_option maxRecDepth 100000 in
theorem b_X9_plan_38 {d : Nat} {S : mSh} {M : mMem} {Q : Option mV → mSh → mMem → Prop} {u1 u2 : mV} (L : Lay S) (k : WP PR d 135 0 [vA 200, vI (-6)] [] S M (fun r S2 M2 => WP PR (d + 1) 221 44 [vA 200, u1, u2] (r.toList ++ []) S2 M2 Q)) : WP PR (d + 1) 221 38 [vA 200, u1, u2] [] S M Q := by
  refine WP.ca 2 44 41 (.invokevirtual 142) (0, 135, 0, 0) rfl ?_
  exact ⟨rfl, rfl, rfl, lo200 L, rfl, k⟩
set_option maxRecDepth 100000 in
theorem b_X9_plan_44 {d : Nat} {S : mSh} {M : mMem} {Q : Option mV → mSh → mMem → Prop} {s0 : Int} {u1 u2 : mV} (k : Q (some (vI s0)) S M) : WP PR d 221 44 [vA 200, u1, u2] [vI s0] S M Q := by
  refine WP.re 0 44 .ireturn (0, 0, 0, 0) _ rfl ?_
  exact ⟨rfl, rfl, trivial, k⟩
set_option maxRecDepth 100000 in
theorem b_X9_plan_45 {d : Nat} {S : mSh} {M : mMem} {Q : Option mV → mSh → mMem → Prop} {u1 u2 : mV} (L : Lay S) (hc : R32 (948 * (M 202 3)) ∧ R32 (198 + (948 * (M 202 3))) ∧ (0 ≤ 198 + (948 * (M 202 3)) ∧ 198 + (948 * (M 202 3)) < 9390) ∧ R32 ((198 + (948 * (M 202 3))) + 1) ∧ (0 ≤ (198 + (948 * (M 202 3))) + 1 ∧ (198 + (948 * (M 202 3))) + 1 < 9390)) (k : WP PR d 221 84 [vA 200, vI (198 + (948 * (M 202 3))), vI 0] [] S (up (up M 202 (198 + (948 * (M 202 3))) (M 200 21)) 202 ((198 + (948 * (M 202 3))) + 1) (M 200 23)) Q) : WP PR d 221 45 [vA 200, u1, u2] [] S M Q := by
  refine WP.bl 25 84 rfl ?_
  exact And.intro (⟨lo200 L, lf200_3 L⟩) (And.intro (inA_of (lo202 L) (ll202 L) (by decide)) (And.intro (hc.1) (And.intro (hc.2.1) (And.intro (⟨lo200 L, lf200_3 L⟩) (And.intro (lo200 L) (And.intro (inA_of (lo202 L) (ll202 L) hc.2.2.1) (And.intro (⟨lo200 L, lf200_3 L⟩) (And.intro (hc.2.2.2.1) (And.intro (lo200 L) (And.intro (inA_of (lo202 L) (ll202 L) hc.2.2.2.2) (k)))))))))))
set_option maxRecDepth 100000 in
theorem b_X9_plan_84 {d : Nat} {S : mSh} {M : mMem} {Q : Option mV → mSh → mMem → Prop} {x1 x2 : Int} (L : Lay S) (hc : R32 (10 * (M 200 21))) (kt : 10 * (M 200 21) ≤ x2 → WP PR d 221 117 [vA 200, vI x1, vI x2] [] S M Q) (kf : x2 < 10 * (M 200 21) → WP PR d 221 95 [vA 200, vI x1, vI x2] [] S M Q) : WP PR d 221 84 [vA 200, vI x1, vI x2] [] S M Q := by
  refine WP.if2 5 95 92 .ge 25 (0, 0, 0, 0) 117 rfl rfl ?_
  exact And.intro (lo200 L) (And.intro (hc) (⟨kt, fun hc => kf (Int.not_le.mp hc)⟩))
set_option maxRecDepth 100000 in
theorem b_X9_plan_95 {d : Nat} {S : mSh} {M : mMem} {Q : Option mV → mSh → mMem → Prop} {x1 x2 : Int} (L : Lay S) (hc : R32 (x1 + 2) ∧ R32 ((x1 + 2) + x2) ∧ (0 ≤ x2 ∧ x2 < 120) ∧ (0 ≤ (x1 + 2) + x2 ∧ (x1 + 2) + x2 < 9390) ∧ R32 (x2 + 1)) (k : WP PR d 221 84 [vA 200, vI x1, vI (x2 + 1)] [] S (up M 202 ((x1 + 2) + x2) (M 223 x2)) Q) : WP PR d 221 95 [vA 200, vI x1, vI x2] [] S M Q := by
  refine WP.gt 13 114 (-30) (0, 0, 0, 0) _ 84 rfl rfl ?_
  exact And.intro (⟨lo200 L, lf200_3 L⟩) (And.intro (hc.1) (And.intro (hc.2.1) (And.intro (⟨lo200 L, lf200_45 L⟩) (And.intro (inA_of (lo223 L) (ll223 L) hc.2.2.1) (And.intro (inA_of (lo202 L) (ll202 L) hc.2.2.2.1) (And.intro (hc.2.2.2.2) (k)))))))
set_option maxRecDepth 100000 in
theorem b_X9_plan_117 {d : Nat} {S : mSh} {M : mMem} {Q : Option mV → mSh → mMem → Prop} {x1 x2 : Int} (k : WP PR d 221 119 [vA 200, vI x1, vI 0] [] S M Q) : WP PR d 221 117 [vA 200, vI x1, vI x2] [] S M Q := by
  refine WP.bl 2 119 rfl ?_
  exact k
set_option maxRecDepth 100000 in
theorem b_X9_plan_119 {d : Nat} {S : mSh} {M : mMem} {Q : Option mV → mSh → mMem → Prop} {x1 x2 : Int} (L : Lay S) (kt : M 200 23 ≤ x2 → WP PR d 221 175 [vA 200, vI x1, vI x2] [] S M Q) (kf : x2 < M 200 23 → WP PR d 221 127 [vA 200, vI x1, vI x2] [] S M Q) : WP PR d 221 119 [vA 200, vI x1, vI x2] [] S M Q := by
  refine WP.if2 3 127 124 .ge 51 (0, 0, 0, 0) 175 rfl rfl ?_
  exact And.intro (lo200 L) (⟨kt, fun hc => kf (Int.not_le.mp hc)⟩)
set_option maxRecDepth 100000 in
theorem b_X9_plan_127 {d : Nat} {S : mSh} {M : mMem} {Q : Option mV → mSh → mMem → Prop} {x1 x2 : Int} (L : Lay S) (hc : R32 (x1 + 146) ∧ R32 (2 * x2) ∧ R32 ((x1 + 146) + (2 * x2)) ∧ (0 ≤ x2 ∧ x2 < 400) ∧ (0 ≤ (x1 + 146) + (2 * x2) ∧ (x1 + 146) + (2 * x2) < 9390) ∧ R32 (((x1 + 146) + (2 * x2)) + 1) ∧ (0 ≤ ((x1 + 146) + (2 * x2)) + 1 ∧ ((x1 + 146) + (2 * x2)) + 1 < 9390) ∧ R32 (x2 + 1)) (k : WP PR d 221 119 [vA 200, vI x1, vI (x2 + 1)] [] S (up (up M 202 ((x1 + 146) + (2 * x2)) (M 211 x2)) 202 (((x1 + 146) + (2 * x2)) + 1) (M 212 x2)) Q) : WP PR d 221 127 [vA 200, vI x1, vI x2] [] S M Q := by
  refine WP.gt 31 172 (-53) (0, 0, 0, 0) _ 119 rfl rfl ?_
  exact And.intro (⟨lo200 L, lf200_3 L⟩) (And.intro (hc.1) (And.intro (hc.2.1) (And.intro (hc.2.2.1) (And.intro (⟨lo200 L, lf200_24 L⟩) (And.intro (inA_of (lo211 L) (ll211 L) hc.2.2.2.1) (And.intro (inA_of (lo202 L) (ll202 L) hc.2.2.2.2.1) (And.intro (⟨lo200 L, lf200_3 L⟩) (And.intro (hc.1) (And.intro (hc.2.1) (And.intro (hc.2.2.1) (And.intro (hc.2.2.2.2.2.1) (And.intro (⟨lo200 L, lf200_25 L⟩) (And.intro (inA_of (lo212 L) (ll212 L) hc.2.2.2.1) (And.intro (inA_of (lo202 L) (ll202 L) hc.2.2.2.2.2.2.1) (And.intro (hc.2.2.2.2.2.2.2) (k))))))))))))))))
set_option maxRecDepth 100000 in
theorem b_X9_plan_175 {d : Nat} {S : mSh} {M : mMem} {Q : Option mV → mSh → mMem → Prop} {x1 x2 : Int} (L : Lay S) (hc : R32 ((M 202 3) + 1) ∧ R32 (((M 202 3) + 1) - 1)) (k : WP PR d 135 0 [vA 200, vI (((M 202 3) + 1) - 1)] [] S (up M 202 3 ((M 202 3) + 1)) (fun r S2 M2 => WP PR (d + 1) 221 197 [vA 200, vI x1, vI x2] (r.toList ++ []) S2 M2 Q)) : WP PR (d + 1) 221 175 [vA 200, vI x1, vI x2] [] S M Q := by
  refine WP.ca 15 197 194 (.invokevirtual 142) (0, 135, 0, 0) rfl ?_
  exact And.intro (⟨lo200 L, lf200_3 L⟩) (And.intro (inA_of (lo202 L) (ll202 L) (by decide)) (And.intro (hc.1) (And.intro (inA_of (lo202 L) (ll202 L) (by decide)) (And.intro (⟨lo200 L, lf200_3 L⟩) (And.intro (inA_of (lo202 L) (ll202 L) (by decide)) (And.intro (hc.2) (⟨rfl, rfl, rfl, lo200 L, rfl, k⟩)))))))
set_option maxRecDepth 100000 in
theorem b_X9_plan_197 {d : Nat} {S : mSh} {M : mMem} {Q : Option mV → mSh → mMem → Prop} {x1 x2 s0 : Int} (k : Q (some (vI s0)) S M) : WP PR d 221 197 [vA 200, vI x1, vI x2] [vI s0] S M Q := by
  refine WP.re 0 197 .ireturn (0, 0, 0, 0) _ rfl ?_
  exact ⟨rfl, rfl, trivial, k⟩
/-- SoleraCellarModel.loadPlan(I)V -/
abbrev e_X9_loadPlan (d : Nat) (a1 : Int) (S : mSh) (M : mMem) (Q : Option mV → mSh → mMem → Prop) : Prop := WP PR d 222 0 [vA 200, vI a1, vU, vU] [] S M Q
set_option maxRecDepth 100000 in
theorem b_X9_loadPlan_0 {d : Nat} {S : mSh} {M : mMem} {Q : Option mV → mSh → mMem → Prop} {x1 : Int} (L : Lay S) (hc : R32 (948 * x1) ∧ R32 (198 + (948 * x1)) ∧ (0 ≤ 198 + (948 * x1) ∧ 198 + (948 * x1) < 9390) ∧ R32 ((198 + (948 * x1)) + 1) ∧ (0 ≤ (198 + (948 * x1)) + 1 ∧ (198 + (948 * x1)) + 1 < 9390)) (k : WP PR d 222 34 [vA 200, vI x1, vI (198 + (948 * x1)), vI 0] [] S (up (up M 200 21 (M 202 (198 + (948 * x1)))) 200 23 (M 202 ((198 + (948 * x1)) + 1))) Q) : WP PR d 222 0 [vA 200, vI x1, vU, vU] [] S M Q := by
  refine WP.bl 22 34 rfl ?_
  exact And.intro (hc.1) (And.intro (hc.2.1) (And.intro (⟨lo200 L, lf200_3 L⟩) (And.intro (inA_of (lo202 L) (ll202 L) hc.2.2.1) (And.intro (lo200 L) (And.intro (⟨lo200 L, lf200_3 L⟩) (And.intro (hc.2.2.2.1) (And.intro (inA_of (lo202 L) (ll202 L) hc.2.2.2.2) (And.intro (lo200 L) (k)))))))))
set_option maxRecDepth 100000 in
theorem b_X9_loadPlan_34 {d : Nat} {S : mSh} {M : mMem} {Q : Option mV → mSh → mMem → Prop} {x1 x2 x3 : Int} (L : Lay S) (hc : R32 (10 * (M 200 21))) (kt : 10 * (M 200 21) ≤ x3 → WP PR d 222 67 [vA 200, vI x1, vI x2, vI x3] [] S M Q) (kf : x3 < 10 * (M 200 21) → WP PR d 222 45 [vA 200, vI x1, vI x2, vI x3] [] S M Q) : WP PR d 222 34 [vA 200, vI x1, vI x2, vI x3] [] S M Q := by
  refine WP.if2 5 45 42 .ge 25 (0, 0, 0, 0) 67 rfl rfl ?_
  exact And.intro (lo200 L) (And.intro (hc) (⟨kt, fun hc => kf (Int.not_le.mp hc)⟩))
set_option maxRecDepth 100000 in
theorem b_X9_loadPlan_45 {d : Nat} {S : mSh} {M : mMem} {Q : Option mV → mSh → mMem → Prop} {x1 x2 x3 : Int} (L : Lay S) (hc : R32 (x2 + 2) ∧ R32 ((x2 + 2) + x3) ∧ (0 ≤ (x2 + 2) + x3 ∧ (x2 + 2) + x3 < 9390) ∧ (0 ≤ x3 ∧ x3 < 120) ∧ R32 (x3 + 1)) (k : WP PR d 222 34 [vA 200, vI x1, vI x2, vI (x3 + 1)] [] S (up M 223 x3 (M 202 ((x2 + 2) + x3))) Q) : WP PR d 222 45 [vA 200, vI x1, vI x2, vI x3] [] S M Q := by
  refine WP.gt 13 64 (-30) (0, 0, 0, 0) _ 34 rfl rfl ?_
  exact And.intro (⟨lo200 L, lf200_45 L⟩) (And.intro (⟨lo200 L, lf200_3 L⟩) (And.intro (hc.1) (And.intro (hc.2.1) (And.intro (inA_of (lo202 L) (ll202 L) hc.2.2.1) (And.intro (inA_of (lo223 L) (ll223 L) hc.2.2.2.1) (And.intro (hc.2.2.2.2) (k)))))))
set_option maxRecDepth 100000 in
theorem b_X9_loadPlan_67 {d : Nat} {S : mSh} {M : mMem} {Q : Option mV → mSh → mMem → Prop} {x1 x2 x3 : Int} (k : WP PR d 222 69 [vA 200, vI x1, vI x2, vI 0] [] S M Q) : WP PR d 222 67 [vA 200, vI x1, vI x2, vI x3] [] S M Q := by
  refine WP.bl 2 69 rfl ?_
  exact k
set_option maxRecDepth 100000 in
theorem b_X9_loadPlan_69 {d : Nat} {S : mSh} {M : mMem} {Q : Option mV → mSh → mMem → Prop} {x1 x2 x3 : Int} (L : Lay S) (kt : M 200 23 ≤ x3 → WP PR d 222 125 [vA 200, vI x1, vI x2, vI x3] [] S M Q) (kf : x3 < M 200 23 → WP PR d 222 77 [vA 200, vI x1, vI x2, vI x3] [] S M Q) : WP PR d 222 69 [vA 200, vI x1, vI x2, vI x3] [] S M Q := by
  refine WP.if2 3 77 74 .ge 51 (0, 0, 0, 0) 125 rfl rfl ?_
  exact And.intro (lo200 L) (⟨kt, fun hc => kf (Int.not_le.mp hc)⟩)
set_option maxRecDepth 100000 in
theorem b_X9_loadPlan_77 {d : Nat} {S : mSh} {M : mMem} {Q : Option mV → mSh → mMem → Prop} {x1 x2 x3 : Int} (L : Lay S) (hc : R32 (x2 + 146) ∧ R32 (2 * x3) ∧ R32 ((x2 + 146) + (2 * x3)) ∧ (0 ≤ (x2 + 146) + (2 * x3) ∧ (x2 + 146) + (2 * x3) < 9390) ∧ (0 ≤ x3 ∧ x3 < 400) ∧ R32 (((x2 + 146) + (2 * x3)) + 1) ∧ (0 ≤ ((x2 + 146) + (2 * x3)) + 1 ∧ ((x2 + 146) + (2 * x3)) + 1 < 9390) ∧ R32 (x3 + 1)) (k : WP PR d 222 69 [vA 200, vI x1, vI x2, vI (x3 + 1)] [] S (up (up M 211 x3 (M 202 ((x2 + 146) + (2 * x3)))) 212 x3 (M 202 (((x2 + 146) + (2 * x3)) + 1))) Q) : WP PR d 222 77 [vA 200, vI x1, vI x2, vI x3] [] S M Q := by
  refine WP.gt 31 122 (-53) (0, 0, 0, 0) _ 69 rfl rfl ?_
  exact And.intro (⟨lo200 L, lf200_24 L⟩) (And.intro (⟨lo200 L, lf200_3 L⟩) (And.intro (hc.1) (And.intro (hc.2.1) (And.intro (hc.2.2.1) (And.intro (inA_of (lo202 L) (ll202 L) hc.2.2.2.1) (And.intro (inA_of (lo211 L) (ll211 L) hc.2.2.2.2.1) (And.intro (⟨lo200 L, lf200_25 L⟩) (And.intro (⟨lo200 L, lf200_3 L⟩) (And.intro (hc.1) (And.intro (hc.2.1) (And.intro (hc.2.2.1) (And.intro (hc.2.2.2.2.2.1) (And.intro (inA_of (lo202 L) (ll202 L) hc.2.2.2.2.2.2.1) (And.intro (inA_of (lo212 L) (ll212 L) hc.2.2.2.2.1) (And.intro (hc.2.2.2.2.2.2.2) (k))))))))))))))))
set_option maxRecDepth 100000 in
theorem b_X9_loadPlan_125 {d : Nat} {S : mSh} {M : mMem} {Q : Option mV → mSh → mMem → Prop} {x1 x2 x3 : Int} (k : Q (none) S M) : WP PR d 222 125 [vA 200, vI x1, vI x2, vI x3] [] S M Q := by
  refine WP.re 0 125 .return_ (0, 0, 0, 0) _ rfl ?_
  exact ⟨rfl, rfl, trivial, k⟩
/-- SoleraCellarModel.isPlan(I)Z -/
abbrev e_X9_isPlan (d : Nat) (a1 : Int) (S : mSh) (M : mMem) (Q : Option mV → mSh → mMem → Prop) : Prop := WP PR d 223 0 [vA 200, vI a1] [] S M Q
set_option maxRecDepth 100000 in
theorem b_X9_isPlan_0 {d : Nat} {S : mSh} {M : mMem} {Q : Option mV → mSh → mMem → Prop} {x1 : Int} (L : Lay S) (hc : R64 ((M 202 3) - 1)) (k : WP PR d 132 0 [vL x1, vU, vL 0, vU, vL ((M 202 3) - 1), vU] [] S M (fun r S2 M2 => WP PR (d + 1) 223 15 [vA 200, vI x1] (r.toList ++ []) S2 M2 Q)) : WP PR (d + 1) 223 0 [vA 200, vI x1] [] S M Q := by
  refine WP.ca 10 15 12 (.invokestatic 153) (0, 132, 0, 0) rfl ?_
  exact And.intro (⟨lo200 L, lf200_3 L⟩) (And.intro (inA_of (lo202 L) (ll202 L) (by decide)) (And.intro (hc) (⟨rfl, rfl, rfl, trivial, rfl, k⟩)))
set_option maxRecDepth 100000 in
theorem b_X9_isPlan_15 {d : Nat} {S : mSh} {M : mMem} {Q : Option mV → mSh → mMem → Prop} {x1 s0 : Int} (hc : (s0 = 0 ∨ s0 = 1)) (k : Q (some (vI s0)) S M) : WP PR d 223 15 [vA 200, vI x1] [vI s0] S M Q := by
  refine WP.re 0 15 .ireturn (0, 0, 0, 0) _ rfl ?_
  exact ⟨rfl, rfl, hc, k⟩
/-- SoleraCellarModel.sumOf(I)I -/
abbrev e_X9_sumOf (d : Nat) (a1 : Int) (S : mSh) (M : mMem) (Q : Option mV → mSh → mMem → Prop) : Prop := WP PR d 224 0 [vA 200, vI a1] [] S M Q
set_option maxRecDepth 100000 in
theorem b_X9_sumOf_0 {d : Nat} {S : mSh} {M : mMem} {Q : Option mV → mSh → mMem → Prop} {x1 : Int} (L : Lay S) (kt : ¬ M 200 49 = 0 → WP PR d 224 24 [vA 200, vI x1] [] S M Q) (kf : M 200 49 = 0 → WP PR d 224 7 [vA 200, vI x1] [] S M Q) : WP PR d 224 0 [vA 200, vI x1] [] S M Q := by
  refine WP.if0 2 7 4 .ne 20 (0, 0, 0, 0) 24 rfl rfl ?_
  exact And.intro (lo200 L) (⟨kt, fun hc => kf (Decidable.not_not.mp hc)⟩)
set_option maxRecDepth 100000 in
theorem b_X9_sumOf_7 {d : Nat} {S : mSh} {M : mMem} {Q : Option mV → mSh → mMem → Prop} {x1 : Int} (L : Lay S) (hc : (0 ≤ x1 ∧ x1 < 120) ∧ R32 (x1 + 1) ∧ (0 ≤ x1 + 1 ∧ x1 + 1 < 120)) (kt : ¬ M 223 x1 = M 223 (x1 + 1) → WP PR d 224 26 [vA 200, vI x1] [] S M Q) (kf : M 223 x1 = M 223 (x1 + 1) → WP PR d 224 24 [vA 200, vI x1] [] S M Q) : WP PR d 224 7 [vA 200, vI x1] [] S M Q := by
  refine WP.if2 10 24 21 .ne 5 (0, 0, 0, 0) 26 rfl rfl ?_
  exact And.intro (⟨lo200 L, lf200_45 L⟩) (And.intro (inA_of (lo223 L) (ll223 L) hc.1) (And.intro (⟨lo200 L, lf200_45 L⟩) (And.intro (hc.2.1) (And.intro (inA_of (lo223 L) (ll223 L) hc.2.2) (⟨kt, fun hc => kf (Decidable.not_not.mp hc)⟩)))))
set_option maxRecDepth 100000 in
theorem b_X9_sumOf_24 {d : Nat} {S : mSh} {M : mMem} {Q : Option mV → mSh → mMem → Prop} {x1 : Int} (k : Q (some (vI (-1))) S M) : WP PR d 224 24 [vA 200, vI x1] [] S M Q := by
  refine WP.re 1 25 .ireturn (0, 0, 0, 0) _ rfl ?_
  exact ⟨rfl, rfl, trivial, k⟩
set_option maxRecDepth 100000 in
theorem b_X9_sumOf_26 {d : Nat} {S : mSh} {M : mMem} {Q : Option mV → mSh → mMem → Prop} {x1 : Int} (L : Lay S) (hc : (0 ≤ x1 ∧ x1 < 120) ∧ R32 (x1 + 1) ∧ (0 ≤ x1 + 1 ∧ x1 + 1 < 120)) (k : WP PR d 194 0 [vA 200, vI (M 223 x1), vI (M 223 (x1 + 1)), vU, vU, vU, vU] [] S (up M 200 20 1) (fun r S2 M2 => WP PR (d + 1) 224 49 [vA 200, vI x1] (r.toList ++ []) S2 M2 Q)) : WP PR (d + 1) 224 26 [vA 200, vI x1] [] S M Q := by
  refine WP.ca 14 49 46 (.invokevirtual 401) (0, 194, 0, 0) rfl ?_
  exact And.intro (⟨lo200 L, Or.inr rfl⟩) (And.intro (⟨lo200 L, lf200_45 L⟩) (And.intro (inA_of (lo223 L) (ll223 L) hc.1) (And.intro (⟨lo200 L, lf200_45 L⟩) (And.intro (hc.2.1) (And.intro (inA_of (lo223 L) (ll223 L) hc.2.2) (⟨rfl, rfl, rfl, lo200 L, rfl, k⟩))))))
set_option maxRecDepth 100000 in
theorem b_X9_sumOf_49 {d : Nat} {S : mSh} {M : mMem} {Q : Option mV → mSh → mMem → Prop} {x1 : Int} (L : Lay S) (hc : (M 200 38 = 0 ∨ M 200 38 = 1)) (k : Q (some (vI (w32 (M 200 39)))) S (up (up M 200 20 0) 200 49 (M 200 38))) : WP PR d 224 49 [vA 200, vI x1] [] S M Q := by
  refine WP.re 10 67 .ireturn (0, 0, 0, 0) _ rfl ?_
  exact And.intro (⟨lo200 L, Or.inl rfl⟩) (And.intro (lo200 L) (And.intro (⟨lo200 L, hc⟩) (And.intro (lo200 L) (⟨rfl, rfl, trivial, k⟩))))
/-- SoleraCellarModel.setNow()V -/
abbrev e_X9_setNow (d : Nat) (S : mSh) (M : mMem) (Q : Option mV → mSh → mMem → Prop) : Prop := WP PR d 225 0 [vA 200] [] S M Q
set_option maxRecDepth 100000 in
theorem b_X9_setNow_0 {d : Nat} {S : mSh} {M : mMem} {Q : Option mV → mSh → mMem → Prop} (L : Lay S) (k : Q (none) S (up (up (up (up (up M 219 1 (M 202 5)) 219 2 (M 200 46)) 219 3 (M 200 47)) 219 4 (M 202 9)) 200 49 0)) : WP PR d 225 0 [vA 200] [] S M Q := by
  refine WP.re 35 54 .return_ (0, 0, 0, 0) _ rfl ?_
  exact And.intro (⟨lo200 L, lf200_36 L⟩) (And.intro (⟨lo200 L, lf200_3 L⟩) (And.intro (inA_of (lo202 L) (ll202 L) (by decide)) (And.intro (inA_of (lo219 L) (ll219 L) (by decide)) (And.intro (⟨lo200 L, lf200_36 L⟩) (And.intro (lo200 L) (And.intro (inA_of (lo219 L) (ll219 L) (by decide)) (And.intro (⟨lo200 L, lf200_36 L⟩) (And.intro (lo200 L) (And.intro (inA_of (lo219 L) (ll219 L) (by decide)) (And.intro (⟨lo200 L, lf200_36 L⟩) (And.intro (⟨lo200 L, lf200_3 L⟩) (And.intro (inA_of (lo202 L) (ll202 L) (by decide)) (And.intro (inA_of (lo219 L) (ll219 L) (by decide)) (And.intro (⟨lo200 L, Or.inl rfl⟩) (⟨rfl, rfl, trivial, k⟩)))))))))))))))
/-- SoleraCellarModel.isAsked(I)Z -/
abbrev e_X9_isAsked (d : Nat) (a1 : Int) (S : mSh) (M : mMem) (Q : Option mV → mSh → mMem → Prop) : Prop := WP PR d 226 0 [vA 200, vI a1, vU, vU] [] S M Q
set_option maxRecDepth 100000 in
theorem b_X9_isAsked_0 {d : Nat} {S : mSh} {M : mMem} {Q : Option mV → mSh → mMem → Prop} {x1 : Int} (L : Lay S) (k : WP PR d 225 0 [vA 200] [] S M (fun r S2 M2 => WP PR (d + 1) 226 4 [vA 200, vI x1, vU, vU] (r.toList ++ []) S2 M2 Q)) : WP PR (d + 1) 226 0 [vA 200, vI x1, vU, vU] [] S M Q := by
  refine WP.ca 1 4 1 (.invokevirtual 493) (0, 225, 0, 0) rfl ?_
  exact ⟨rfl, rfl, rfl, lo200 L, rfl, k⟩
set_option maxRecDepth 100000 in
theorem b_X9_isAsked_4 {d : Nat} {S : mSh} {M : mMem} {Q : Option mV → mSh → mMem → Prop} {x1 : Int} {u2 u3 : mV} (L : Lay S) (hc : R32 (x1 + 7) ∧ (0 ≤ x1 + 7 ∧ x1 + 7 < 120) ∧ R32 (x1 + 8) ∧ (0 ≤ x1 + 8 ∧ x1 + 8 < 120)) (kt : ¬ M 223 (x1 + 7) = M 223 (x1 + 8) → WP PR d 226 27 [vA 200, vI x1, u2, u3] [] S M Q) (kf : M 223 (x1 + 7) = M 223 (x1 + 8) → WP PR d 226 25 [vA 200, vI x1, u2, u3] [] S M Q) : WP PR d 226 4 [vA 200, vI x1, u2, u3] [] S M Q := by
  refine WP.if2 12 25 22 .ne 5 (0, 0, 0, 0) 27 rfl rfl ?_
  exact And.intro (⟨lo200 L, lf200_45 L⟩) (And.intro (hc.1) (And.intro (inA_of (lo223 L) (ll223 L) hc.2.1) (And.intro (⟨lo200 L, lf200_45 L⟩) (And.intro (hc.2.2.1) (And.intro (inA_of (lo223 L) (ll223 L) hc.2.2.2) (⟨kt, fun hc => kf (Decidable.not_not.mp hc)⟩))))))
set_option maxRecDepth 100000 in
theorem b_X9_isAsked_25 {d : Nat} {S : mSh} {M : mMem} {Q : Option mV → mSh → mMem → Prop} {x1 : Int} {u2 u3 : mV} (k : Q (some (vI 1)) S M) : WP PR d 226 25 [vA 200, vI x1, u2, u3] [] S M Q := by
  refine WP.re 1 26 .ireturn (0, 0, 0, 0) _ rfl ?_
  exact ⟨rfl, rfl, Or.inr rfl, k⟩
set_option maxRecDepth 100000 in
theorem b_X9_isAsked_27 {d : Nat} {S : mSh} {M : mMem} {Q : Option mV → mSh → mMem → Prop} {x1 : Int} {u2 u3 : mV} (L : Lay S) (hc : R32 (x1 + 7)) (k : WP PR d 224 0 [vA 200, vI (x1 + 7)] [] S M (fun r S2 M2 => WP PR (d + 1) 226 35 [vA 200, vI x1, u2, u3] (r.toList ++ []) S2 M2 Q)) : WP PR (d + 1) 226 27 [vA 200, vI x1, u2, u3] [] S M Q := by
  refine WP.ca 4 35 32 (.invokevirtual 496) (0, 224, 0, 0) rfl ?_
  exact And.intro (hc) (⟨rfl, rfl, rfl, lo200 L, rfl, k⟩)
set_option maxRecDepth 100000 in
theorem b_X9_isAsked_35 {d : Nat} {S : mSh} {M : mMem} {Q : Option mV → mSh → mMem → Prop} {x1 s0 : Int} {u2 u3 : mV} (L : Lay S) (kt : ¬ M 200 49 = 0 → WP PR d 226 51 [vA 200, vI x1, vI s0, u3] [] S M Q) (kf : M 200 49 = 0 → WP PR d 226 43 [vA 200, vI x1, vI s0, u3] [] S M Q) : WP PR d 226 35 [vA 200, vI x1, u2, u3] [vI s0] S M Q := by
  refine WP.if0 3 43 40 .ne 11 (0, 0, 0, 0) 51 rfl rfl ?_
  exact And.intro (lo200 L) (⟨kt, fun hc => kf (Decidable.not_not.mp hc)⟩)
set_option maxRecDepth 100000 in
theorem b_X9_isAsked_43 {d : Nat} {S : mSh} {M : mMem} {Q : Option mV → mSh → mMem → Prop} {x1 x2 : Int} {u3 : mV} (kt : x2 = 0 → WP PR d 226 51 [vA 200, vI x1, vI x2, u3] [] S M Q) (kf : ¬ x2 = 0 → WP PR d 226 47 [vA 200, vI x1, vI x2, u3] [] S M Q) : WP PR d 226 43 [vA 200, vI x1, vI x2, u3] [] S M Q := by
  refine WP.if0 1 47 44 .eq 7 (0, 0, 0, 0) 51 rfl rfl ?_
  exact ⟨kt, fun hc => kf hc⟩
set_option maxRecDepth 100000 in
theorem b_X9_isAsked_47 {d : Nat} {S : mSh} {M : mMem} {Q : Option mV → mSh → mMem → Prop} {x1 x2 : Int} {u3 : mV} (L : Lay S) (k : Q (some (vI 1)) S (up M 200 49 0)) : WP PR d 226 47 [vA 200, vI x1, vI x2, u3] [] S M Q := by
  refine WP.gt 1 48 4 (0, 0, 0, 0) _ 52 rfl rfl ?_
  show WP PR d 226 52 [vA 200, vI x1, vI x2, u3] [vI 1] S M Q
  refine WP.re 5 59 .ireturn (0, 0, 0, 0) _ rfl ?_
  exact And.intro (⟨lo200 L, Or.inl rfl⟩) (⟨rfl, rfl, Or.inr rfl, k⟩)
set_option maxRecDepth 100000 in
theorem b_X9_isAsked_51 {d : Nat} {S : mSh} {M : mMem} {Q : Option mV → mSh → mMem → Prop} {x1 x2 : Int} {u3 : mV} (L : Lay S) (k : Q (some (vI 0)) S (up M 200 49 0)) : WP PR d 226 51 [vA 200, vI x1, vI x2, u3] [] S M Q := by
  refine WP.re 6 59 .ireturn (0, 0, 0, 0) _ rfl ?_
  exact And.intro (⟨lo200 L, Or.inl rfl⟩) (⟨rfl, rfl, Or.inl rfl, k⟩)
/-- SoleraCellarModel.act(IIII)I -/
abbrev e_X9_act (d : Nat) (a1 a2 a3 a4 : Int) (S : mSh) (M : mMem) (Q : Option mV → mSh → mMem → Prop) : Prop := WP PR d 227 0 [vA 200, vI a1, vI a2, vI a3, vI a4] [] S M Q
set_option maxRecDepth 100000 in
theorem b_X9_act_0 {d : Nat} {S : mSh} {M : mMem} {Q : Option mV → mSh → mMem → Prop} {x1 x2 x3 x4 : Int} (k : WP PR d 227 (swT 1 x1 51 0 2 [27, 35, 44]) [vA 200, vI x1, vI x2, vI x3, vI x4] [] S M Q) : WP PR d 227 0 [vA 200, vI x1, vI x2, vI x3, vI x4] [] S M Q := by
  refine WP.sw 1 1 51 0 2 #[27, 35, 44] (0, 0, 0, 0) _ rfl ?_
  exact k
set_option maxRecDepth 100000 in
theorem b_X9_act_28 {d : Nat} {S : mSh} {M : mMem} {Q : Option mV → mSh → mMem → Prop} {x1 x2 x3 x4 : Int} (L : Lay S) (k : WP PR d 203 0 [vA 200, vI x4, vI x2, vU] [] S M (fun r S2 M2 => WP PR (d + 1) 227 35 [vA 200, vI x1, vI x2, vI x3, vI x4] (r.toList ++ []) S2 M2 Q)) : WP PR (d + 1) 227 28 [vA 200, vI x1, vI x2, vI x3, vI x4] [] S M Q := by
  refine WP.ca 3 35 32 (.invokevirtual 427) (0, 203, 0, 0) rfl ?_
  exact ⟨rfl, rfl, rfl, lo200 L, rfl, k⟩
set_option maxRecDepth 100000 in
theorem b_X9_act_35 {d : Nat} {S : mSh} {M : mMem} {Q : Option mV → mSh → mMem → Prop} {x1 x2 x3 x4 s0 : Int} (k : Q (some (vI s0)) S M) : WP PR d 227 35 [vA 200, vI x1, vI x2, vI x3, vI x4] [vI s0] S M Q := by
  refine WP.re 0 35 .ireturn (0, 0, 0, 0) _ rfl ?_
  exact ⟨rfl, rfl, trivial, k⟩
set_option maxRecDepth 100000 in
theorem b_X9_act_36 {d : Nat} {S : mSh} {M : mMem} {Q : Option mV → mSh → mMem → Prop} {x1 x2 x3 x4 : Int} (L : Lay S) (k : WP PR d 207 0 [vA 200, vI x3, vI x4, vI x2, vU] [] S M (fun r S2 M2 => WP PR (d + 1) 227 44 [vA 200, vI x1, vI x2, vI x3, vI x4] (r.toList ++ []) S2 M2 Q)) : WP PR (d + 1) 227 36 [vA 200, vI x1, vI x2, vI x3, vI x4] [] S M Q := by
  refine WP.ca 4 44 41 (.invokevirtual 440) (0, 207, 0, 0) rfl ?_
  exact ⟨rfl, rfl, rfl, lo200 L, rfl, k⟩
set_option maxRecDepth 100000 in
theorem b_X9_act_44 {d : Nat} {S : mSh} {M : mMem} {Q : Option mV → mSh → mMem → Prop} {x1 x2 x3 x4 s0 : Int} (k : Q (some (vI s0)) S M) : WP PR d 227 44 [vA 200, vI x1, vI x2, vI x3, vI x4] [vI s0] S M Q := by
  refine WP.re 0 44 .ireturn (0, 0, 0, 0) _ rfl ?_
  exact ⟨rfl, rfl, trivial, k⟩
set_option maxRecDepth 100000 in
theorem b_X9_act_45 {d : Nat} {S : mSh} {M : mMem} {Q : Option mV → mSh → mMem → Prop} {x1 x2 x3 x4 : Int} (L : Lay S) (k : WP PR d 211 0 [vA 200, vI x3, vI x2, vU] [] S M (fun r S2 M2 => WP PR (d + 1) 227 51 [vA 200, vI x1, vI x2, vI x3, vI x4] (r.toList ++ []) S2 M2 Q)) : WP PR (d + 1) 227 45 [vA 200, vI x1, vI x2, vI x3, vI x4] [] S M Q := by
  refine WP.ca 3 51 48 (.invokevirtual 456) (0, 211, 0, 0) rfl ?_
  exact ⟨rfl, rfl, rfl, lo200 L, rfl, k⟩
set_option maxRecDepth 100000 in
theorem b_X9_act_51 {d : Nat} {S : mSh} {M : mMem} {Q : Option mV → mSh → mMem → Prop} {x1 x2 x3 x4 s0 : Int} (k : Q (some (vI s0)) S M) : WP PR d 227 51 [vA 200, vI x1, vI x2, vI x3, vI x4] [vI s0] S M Q := by
  refine WP.re 0 51 .ireturn (0, 0, 0, 0) _ rfl ?_
  exact ⟨rfl, rfl, trivial, k⟩
set_option maxRecDepth 100000 in
theorem b_X9_act_52 {d : Nat} {S : mSh} {M : mMem} {Q : Option mV → mSh → mMem → Prop} {x1 x2 x3 x4 : Int} (L : Lay S) (k : WP PR d 215 0 [vA 200] [] S M (fun r S2 M2 => WP PR (d + 1) 227 56 [vA 200, vI x1, vI x2, vI x3, vI x4] (r.toList ++ []) S2 M2 Q)) : WP PR (d + 1) 227 52 [vA 200, vI x1, vI x2, vI x3, vI x4] [] S M Q := by
  refine WP.ca 1 56 53 (.invokevirtual 462) (0, 215, 0, 0) rfl ?_
  exact ⟨rfl, rfl, rfl, lo200 L, rfl, k⟩
set_option maxRecDepth 100000 in
theorem b_X9_act_56 {d : Nat} {S : mSh} {M : mMem} {Q : Option mV → mSh → mMem → Prop} {x1 x2 x3 x4 s0 : Int} (k : Q (some (vI s0)) S M) : WP PR d 227 56 [vA 200, vI x1, vI x2, vI x3, vI x4] [vI s0] S M Q := by
  refine WP.re 0 56 .ireturn (0, 0, 0, 0) _ rfl ?_
  exact ⟨rfl, rfl, trivial, k⟩
/-- SoleraCellarModel.runOnce(I)I -/
abbrev e_X9_runOnce (d : Nat) (a1 : Int) (S : mSh) (M : mMem) (Q : Option mV → mSh → mMem → Prop) : Prop := WP PR d 228 0 [vA 200, vI a1, vU, vU, vU, vU] [] S M Q
set_option maxRecDepth 100000 in
theorem b_X9_runOnce_0 {d : Nat} {S : mSh} {M : mMem} {Q : Option mV → mSh → mMem → Prop} {x1 : Int} (L : Lay S) (hc : R32 (x1 + 1)) (k : WP PR d 224 0 [vA 200, vI (x1 + 1)] [] S M (fun r S2 M2 => WP PR (d + 1) 228 7 [vA 200, vI x1, vU, vU, vU, vU] (r.toList ++ []) S2 M2 Q)) : WP PR (d + 1) 228 0 [vA 200, vI x1, vU, vU, vU, vU] [] S M Q := by
  refine WP.ca 4 7 4 (.invokevirtual 496) (0, 224, 0, 0) rfl ?_
  exact And.intro (hc) (⟨rfl, rfl, rfl, lo200 L, rfl, k⟩)
set_option maxRecDepth 100000 in
theorem b_X9_runOnce_7 {d : Nat} {S : mSh} {M : mMem} {Q : Option mV → mSh → mMem → Prop} {x1 s0 : Int} {u2 u3 u4 u5 : mV} (L : Lay S) (hc : R32 (x1 + 3)) (k : WP PR d 224 0 [vA 200, vI (x1 + 3)] [] S M (fun r S2 M2 => WP PR (d + 1) 228 15 [vA 200, vI x1, vI s0, u3, u4, u5] (r.toList ++ []) S2 M2 Q)) : WP PR (d + 1) 228 7 [vA 200, vI x1, u2, u3, u4, u5] [vI s0] S M Q := by
  refine WP.ca 5 15 12 (.invokevirtual 496) (0, 224, 0, 0) rfl ?_
  exact And.intro (hc) (⟨rfl, rfl, rfl, lo200 L, rfl, k⟩)
set_option maxRecDepth 100000 in
theorem b_X9_runOnce_15 {d : Nat} {S : mSh} {M : mMem} {Q : Option mV → mSh → mMem → Prop} {x1 x2 s0 : Int} {u3 u4 u5 : mV} (L : Lay S) (hc : R32 (x1 + 5)) (k : WP PR d 224 0 [vA 200, vI (x1 + 5)] [] S M (fun r S2 M2 => WP PR (d + 1) 228 23 [vA 200, vI x1, vI x2, vI s0, u4, u5] (r.toList ++ []) S2 M2 Q)) : WP PR (d + 1) 228 15 [vA 200, vI x1, vI x2, u3, u4, u5] [vI s0] S M Q := by
  refine WP.ca 5 23 20 (.invokevirtual 496) (0, 224, 0, 0) rfl ?_
  exact And.intro (hc) (⟨rfl, rfl, rfl, lo200 L, rfl, k⟩)
set_option maxRecDepth 100000 in
theorem b_X9_runOnce_23 {d : Nat} {S : mSh} {M : mMem} {Q : Option mV → mSh → mMem → Prop} {x1 x2 x3 s0 : Int} {u4 u5 : mV} (L : Lay S) (kt : M 200 49 = 0 → WP PR d 228 35 [vA 200, vI x1, vI x2, vI x3, vI s0, u5] [] S M Q) (kf : ¬ M 200 49 = 0 → WP PR d 228 32 [vA 200, vI x1, vI x2, vI x3, vI s0, u5] [] S M Q) : WP PR d 228 23 [vA 200, vI x1, vI x2, vI x3, u4, u5] [vI s0] S M Q := by
  refine WP.if0 3 32 29 .eq 6 (0, 0, 0, 0) 35 rfl rfl ?_
  exact And.intro (lo200 L) (⟨kt, fun hc => kf hc⟩)
set_option maxRecDepth 100000 in
theorem b_X9_runOnce_32 {d : Nat} {S : mSh} {M : mMem} {Q : Option mV → mSh → mMem → Prop} {x1 x2 x3 x4 : Int} {u5 : mV} (k : Q (some (vI (-3))) S M) : WP PR d 228 32 [vA 200, vI x1, vI x2, vI x3, vI x4, u5] [] S M Q := by
  refine WP.re 1 34 .ireturn (0, 0, 0, 0) _ rfl ?_
  exact ⟨rfl, rfl, trivial, k⟩
set_option maxRecDepth 100000 in
theorem b_X9_runOnce_35 {d : Nat} {S : mSh} {M : mMem} {Q : Option mV → mSh → mMem → Prop} {x1 x2 x3 x4 : Int} {u5 : mV} (L : Lay S) (hc : (0 ≤ x1 ∧ x1 < 120)) (k : WP PR d 227 0 [vA 200, vI (M 223 x1), vI x2, vI x3, vI x4] [] S M (fun r S2 M2 => WP PR (d + 1) 228 49 [vA 200, vI x1, vI x2, vI x3, vI x4, u5] (r.toList ++ []) S2 M2 Q)) : WP PR (d + 1) 228 35 [vA 200, vI x1, vI x2, vI x3, vI x4, u5] [] S M Q := by
  refine WP.ca 8 49 46 (.invokevirtual 499) (0, 227, 0, 0) rfl ?_
  exact And.intro (⟨lo200 L, lf200_45 L⟩) (And.intro (inA_of (lo223 L) (ll223 L) hc) (⟨rfl, rfl, rfl, lo200 L, rfl, k⟩))
set_option maxRecDepth 100000 in
theorem b_X9_runOnce_49 {d : Nat} {S : mSh} {M : mMem} {Q : Option mV → mSh → mMem → Prop} {x1 x2 x3 x4 s0 : Int} {u5 : mV} (kt : 0 ≤ s0 → WP PR d 228 59 [vA 200, vI x1, vI x2, vI x3, vI x4, vI s0] [] S M Q) (kf : s0 < 0 → WP PR d 228 56 [vA 200, vI x1, vI x2, vI x3, vI x4, vI s0] [] S M Q) : WP PR d 228 49 [vA 200, vI x1, vI x2, vI x3, vI x4, u5] [vI s0] S M Q := by
  refine WP.if0 2 56 53 .ge 6 (0, 0, 0, 0) 59 rfl rfl ?_
  exact ⟨kt, fun hc => kf (Int.not_le.mp hc)⟩
set_option maxRecDepth 100000 in
theorem b_X9_runOnce_56 {d : Nat} {S : mSh} {M : mMem} {Q : Option mV → mSh → mMem → Prop} {x1 x2 x3 x4 x5 : Int} (k : Q (some (vI (-3))) S M) : WP PR d 228 56 [vA 200, vI x1, vI x2, vI x3, vI x4, vI x5] [] S M Q := by
  refine WP.re 1 58 .ireturn (0, 0, 0, 0) _ rfl ?_
  exact ⟨rfl, rfl, trivial, k⟩
set_option maxRecDepth 100000 in
theorem b_X9_runOnce_59 {d : Nat} {S : mSh} {M : mMem} {Q : Option mV → mSh → mMem → Prop} {x1 x2 x3 x4 x5 : Int} (L : Lay S) (hc : (0 ≤ x1 ∧ x1 < 120)) (kt : ¬ M 223 x1 = 2 → WP PR d 228 75 [vA 200, vI x1, vI x2, vI x3, vI x4, vI x5] [vA 200] S M Q) (kf : M 223 x1 = 2 → WP PR d 228 70 [vA 200, vI x1, vI x2, vI x3, vI x4, vI x5] [vA 200] S M Q) : WP PR d 228 59 [vA 200, vI x1, vI x2, vI x3, vI x4, vI x5] [] S M Q := by
  refine WP.if2 6 70 67 .ne 8 (0, 0, 0, 0) 75 rfl rfl ?_
  exact And.intro (⟨lo200 L, lf200_45 L⟩) (And.intro (inA_of (lo223 L) (ll223 L) hc) (⟨kt, fun hc => kf (Decidable.not_not.mp hc)⟩))
set_option maxRecDepth 100000 in
theorem b_X9_runOnce_70 {d : Nat} {S : mSh} {M : mMem} {Q : Option mV → mSh → mMem → Prop} {x1 x2 x3 x4 x5 : Int} (L : Lay S) (hc : R32 ((M 200 46) + 1)) (k : Q (some (vI 0)) S (up (up M 200 47 x5) 200 46 ((M 200 46) + 1))) : WP PR d 228 70 [vA 200, vI x1, vI x2, vI x3, vI x4, vI x5] [vA 200] S M Q := by
  refine WP.gt 1 72 7 (0, 0, 0, 0) _ 79 rfl rfl ?_
  show WP PR d 228 79 [vA 200, vI x1, vI x2, vI x3, vI x4, vI x5] [vI x5, vA 200] S M Q
  refine WP.re 8 93 .ireturn (0, 0, 0, 0) _ rfl ?_
  exact And.intro (lo200 L) (And.intro (lo200 L) (And.intro (hc) (And.intro (lo200 L) (⟨rfl, rfl, trivial, k⟩))))
set_option maxRecDepth 100000 in
theorem b_X9_runOnce_75 {d : Nat} {S : mSh} {M : mMem} {Q : Option mV → mSh → mMem → Prop} {x1 x2 x3 x4 x5 : Int} (L : Lay S) (hc : R32 ((M 200 46) + 1)) (k : Q (some (vI 0)) S (up (up M 200 47 (M 200 47)) 200 46 ((M 200 46) + 1))) : WP PR d 228 75 [vA 200, vI x1, vI x2, vI x3, vI x4, vI x5] [vA 200] S M Q := by
  refine WP.re 10 93 .ireturn (0, 0, 0, 0) _ rfl ?_
  exact And.intro (lo200 L) (And.intro (lo200 L) (And.intro (lo200 L) (And.intro (hc) (And.intro (lo200 L) (⟨rfl, rfl, trivial, k⟩)))))
/-- SoleraCellarModel.orders()I -/
abbrev e_X9_orders (d : Nat) (S : mSh) (M : mMem) (Q : Option mV → mSh → mMem → Prop) : Prop := WP PR d 229 0 [vA 200, vU, vU, vU] [] S M Q
set_option maxRecDepth 100000 in
theorem b_X9_orders_0 {d : Nat} {S : mSh} {M : mMem} {Q : Option mV → mSh → mMem → Prop} (L : Lay S) (k : WP PR d 220 0 [vA 200] [] S (up (up M 200 0 0) 200 48 (-1)) (fun r S2 M2 => WP PR (d + 1) 229 14 [vA 200, vU, vU, vU] (r.toList ++ []) S2 M2 Q)) : WP PR (d + 1) 229 0 [vA 200, vU, vU, vU] [] S M Q := by
  refine WP.ca 7 14 11 (.invokevirtual 481) (0, 220, 0, 0) rfl ?_
  exact And.intro (lo200 L) (And.intro (lo200 L) (⟨rfl, rfl, rfl, lo200 L, rfl, k⟩))
set_option maxRecDepth 100000 in
theorem b_X9_orders_14 {d : Nat} {S : mSh} {M : mMem} {Q : Option mV → mSh → mMem → Prop} {u1 u2 u3 : mV} (L : Lay S) (kt : M 200 19 = 0 → WP PR d 229 28 [vA 200, u1, u2, u3] [] S M Q) (kf : ¬ M 200 19 = 0 → WP PR d 229 21 [vA 200, u1, u2, u3] [] S M Q) : WP PR d 229 14 [vA 200, u1, u2, u3] [] S M Q := by
  refine WP.if0 2 21 18 .eq 10 (0, 0, 0, 0) 28 rfl rfl ?_
  exact And.intro (lo200 L) (⟨kt, fun hc => kf hc⟩)
set_option maxRecDepth 100000 in
theorem b_X9_orders_21 {d : Nat} {S : mSh} {M : mMem} {Q : Option mV → mSh → mMem → Prop} {u1 u2 u3 : mV} (L : Lay S) (k : WP PR d 135 0 [vA 200, vI (-6)] [] S M (fun r S2 M2 => WP PR (d + 1) 229 27 [vA 200, u1, u2, u3] (r.toList ++ []) S2 M2 Q)) : WP PR (d + 1) 229 21 [vA 200, u1, u2, u3] [] S M Q := by
  refine WP.ca 2 27 24 (.invokevirtual 142) (0, 135, 0, 0) rfl ?_
  exact ⟨rfl, rfl, rfl, lo200 L, rfl, k⟩
set_option maxRecDepth 100000 in
theorem b_X9_orders_27 {d : Nat} {S : mSh} {M : mMem} {Q : Option mV → mSh → mMem → Prop} {s0 : Int} {u1 u2 u3 : mV} (k : Q (some (vI s0)) S M) : WP PR d 229 27 [vA 200, u1, u2, u3] [vI s0] S M Q := by
  refine WP.re 0 27 .ireturn (0, 0, 0, 0) _ rfl ?_
  exact ⟨rfl, rfl, trivial, k⟩
set_option maxRecDepth 100000 in
theorem b_X9_orders_28 {d : Nat} {S : mSh} {M : mMem} {Q : Option mV → mSh → mMem → Prop} {u1 u2 u3 : mV} (L : Lay S) (k : WP PR d 138 0 [vA 200, vI 17, vU] [] S M (fun r S2 M2 => WP PR (d + 1) 229 34 [vA 200, u1, u2, u3] (r.toList ++ []) S2 M2 Q)) : WP PR (d + 1) 229 28 [vA 200, u1, u2, u3] [] S M Q := by
  refine WP.ca 2 34 31 (.invokevirtual 146) (0, 138, 0, 0) rfl ?_
  exact ⟨rfl, rfl, rfl, lo200 L, rfl, k⟩
set_option maxRecDepth 100000 in
theorem b_X9_orders_34 {d : Nat} {S : mSh} {M : mMem} {Q : Option mV → mSh → mMem → Prop} {u1 u2 u3 : mV} (L : Lay S) (k : WP PR d 230 0 [vA 200, vU] [] S M (fun r S2 M2 => WP PR (d + 1) 229 43 [vA 200, vI (M 200 8), u2, u3] (r.toList ++ []) S2 M2 Q)) : WP PR (d + 1) 229 34 [vA 200, u1, u2, u3] [] S M Q := by
  refine WP.ca 4 43 40 (.invokevirtual 503) (0, 230, 0, 0) rfl ?_
  exact And.intro (lo200 L) (⟨rfl, rfl, rfl, lo200 L, rfl, k⟩)
set_option maxRecDepth 100000 in
theorem b_X9_orders_43 {d : Nat} {S : mSh} {M : mMem} {Q : Option mV → mSh → mMem → Prop} {x1 : Int} {u2 u3 : mV} (L : Lay S) (k : WP PR d 229 55 [vA 200, vI x1, vI 0, u3] [] S (up (up M 200 46 0) 200 47 (-1)) Q) : WP PR d 229 43 [vA 200, vI x1, u2, u3] [] S M Q := by
  refine WP.bl 8 55 rfl ?_
  exact And.intro (lo200 L) (And.intro (lo200 L) (k))
set_option maxRecDepth 100000 in
theorem b_X9_orders_55 {d : Nat} {S : mSh} {M : mMem} {Q : Option mV → mSh → mMem → Prop} {x1 x2 : Int} {u3 : mV} (L : Lay S) (kt : M 200 21 ≤ x2 → WP PR d 229 132 [vA 200, vI x1, vI x2, u3] [] S M Q) (kf : x2 < M 200 21 → WP PR d 229 63 [vA 200, vI x1, vI x2, u3] [] S M Q) : WP PR d 229 55 [vA 200, vI x1, vI x2, u3] [] S M Q := by
  refine WP.if2 3 63 60 .ge 72 (0, 0, 0, 0) 132 rfl rfl ?_
  exact And.intro (lo200 L) (⟨kt, fun hc => kf (Int.not_le.mp hc)⟩)
set_option maxRecDepth 100000 in
theorem b_X9_orders_63 {d : Nat} {S : mSh} {M : mMem} {Q : Option mV → mSh → mMem → Prop} {x1 x2 : Int} {u3 : mV} (k : WP PR d 229 65 [vA 200, vI x1, vI x2, vI 0] [] S M Q) : WP PR d 229 63 [vA 200, vI x1, vI x2, u3] [] S M Q := by
  refine WP.bl 2 65 rfl ?_
  exact k
set_option maxRecDepth 100000 in
theorem b_X9_orders_65 {d : Nat} {S : mSh} {M : mMem} {Q : Option mV → mSh → mMem → Prop} {x1 x2 x3 : Int} (L : Lay S) (hc : R32 (10 * x2) ∧ R32 ((10 * x2) + 9) ∧ (0 ≤ (10 * x2) + 9 ∧ (10 * x2) + 9 < 120)) (kt : M 223 ((10 * x2) + 9) ≤ x3 → WP PR d 229 126 [vA 200, vI x1, vI x2, vI x3] [] S M Q) (kf : x3 < M 223 ((10 * x2) + 9) → WP PR d 229 81 [vA 200, vI x1, vI x2, vI x3] [] S M Q) : WP PR d 229 65 [vA 200, vI x1, vI x2, vI x3] [] S M Q := by
  refine WP.if2 9 81 78 .ge 48 (0, 0, 0, 0) 126 rfl rfl ?_
  exact And.intro (⟨lo200 L, lf200_45 L⟩) (And.intro (hc.1) (And.intro (hc.2.1) (And.intro (inA_of (lo223 L) (ll223 L) hc.2.2) (⟨kt, fun hc => kf (Int.not_le.mp hc)⟩))))
set_option maxRecDepth 100000 in
theorem b_X9_orders_81 {d : Nat} {S : mSh} {M : mMem} {Q : Option mV → mSh → mMem → Prop} {x1 x2 x3 : Int} (L : Lay S) (hc : R32 (10 * x2)) (k : WP PR d 226 0 [vA 200, vI (10 * x2), vU, vU] [] S M (fun r S2 M2 => WP PR (d + 1) 229 89 [vA 200, vI x1, vI x2, vI x3] (r.toList ++ []) S2 M2 Q)) : WP PR (d + 1) 229 81 [vA 200, vI x1, vI x2, vI x3] [] S M Q := by
  refine WP.ca 4 89 86 (.invokevirtual 506) (0, 226, 0, 0) rfl ?_
  exact And.intro (hc) (⟨rfl, rfl, rfl, lo200 L, rfl, k⟩)
set_option maxRecDepth 100000 in
theorem b_X9_orders_89 {d : Nat} {S : mSh} {M : mMem} {Q : Option mV → mSh → mMem → Prop} {x1 x2 x3 s0 : Int} (kt : s0 = 0 → WP PR d 229 120 [vA 200, vI x1, vI x2, vI x3] [] S M Q) (kf : ¬ s0 = 0 → WP PR d 229 92 [vA 200, vI x1, vI x2, vI x3] [] S M Q) : WP PR d 229 89 [vA 200, vI x1, vI x2, vI x3] [vI s0] S M Q := by
  refine WP.if0 0 92 89 .eq 31 (0, 0, 0, 0) 120 rfl rfl ?_
  exact ⟨kt, fun hc => kf hc⟩
set_option maxRecDepth 100000 in
theorem b_X9_orders_92 {d : Nat} {S : mSh} {M : mMem} {Q : Option mV → mSh → mMem → Prop} {x1 x2 x3 : Int} (L : Lay S) (hc : R32 (10 * x2)) (k : WP PR d 228 0 [vA 200, vI (10 * x2), vU, vU, vU, vU] [] S M (fun r S2 M2 => WP PR (d + 1) 229 100 [vA 200, vI x1, vI x2, vI x3] (r.toList ++ []) S2 M2 Q)) : WP PR (d + 1) 229 92 [vA 200, vI x1, vI x2, vI x3] [] S M Q := by
  refine WP.ca 4 100 97 (.invokevirtual 509) (0, 228, 0, 0) rfl ?_
  exact And.intro (hc) (⟨rfl, rfl, rfl, lo200 L, rfl, k⟩)
set_option maxRecDepth 100000 in
theorem b_X9_orders_100 {d : Nat} {S : mSh} {M : mMem} {Q : Option mV → mSh → mMem → Prop} {x1 x2 x3 s0 : Int} (kt : 0 ≤ s0 → WP PR d 229 120 [vA 200, vI x1, vI x2, vI x3] [] S M Q) (kf : s0 < 0 → WP PR d 229 103 [vA 200, vI x1, vI x2, vI x3] [] S M Q) : WP PR d 229 100 [vA 200, vI x1, vI x2, vI x3] [vI s0] S M Q := by
  refine WP.if0 0 103 100 .ge 20 (0, 0, 0, 0) 120 rfl rfl ?_
  exact ⟨kt, fun hc => kf (Int.not_le.mp hc)⟩
set_option maxRecDepth 100000 in
theorem b_X9_orders_103 {d : Nat} {S : mSh} {M : mMem} {Q : Option mV → mSh → mMem → Prop} {x1 x2 x3 : Int} (L : Lay S) (k : WP PR d 231 0 [vA 200, vI x1, vU] [] S M (fun r S2 M2 => WP PR (d + 1) 229 108 [vA 200, vI x1, vI x2, vI x3] (r.toList ++ []) S2 M2 Q)) : WP PR (d + 1) 229 103 [vA 200, vI x1, vI x2, vI x3] [] S M Q := by
  refine WP.ca 2 108 105 (.invokevirtual 512) (0, 231, 0, 0) rfl ?_
  exact ⟨rfl, rfl, rfl, lo200 L, rfl, k⟩
set_option maxRecDepth 100000 in
theorem b_X9_orders_108 {d : Nat} {S : mSh} {M : mMem} {Q : Option mV → mSh → mMem → Prop} {x1 x2 x3 : Int} (L : Lay S) (k : WP PR d 135 0 [vA 200, vI (-3)] [] S (up M 200 48 x2) (fun r S2 M2 => WP PR (d + 1) 229 119 [vA 200, vI x1, vI x2, vI x3] (r.toList ++ []) S2 M2 Q)) : WP PR (d + 1) 229 108 [vA 200, vI x1, vI x2, vI x3] [] S M Q := by
  refine WP.ca 5 119 116 (.invokevirtual 142) (0, 135, 0, 0) rfl ?_
  exact And.intro (lo200 L) (⟨rfl, rfl, rfl, lo200 L, rfl, k⟩)
set_option maxRecDepth 100000 in
theorem b_X9_orders_119 {d : Nat} {S : mSh} {M : mMem} {Q : Option mV → mSh → mMem → Prop} {x1 x2 x3 s0 : Int} (k : Q (some (vI s0)) S M) : WP PR d 229 119 [vA 200, vI x1, vI x2, vI x3] [vI s0] S M Q := by
  refine WP.re 0 119 .ireturn (0, 0, 0, 0) _ rfl ?_
  exact ⟨rfl, rfl, trivial, k⟩
set_option maxRecDepth 100000 in
theorem b_X9_orders_120 {d : Nat} {S : mSh} {M : mMem} {Q : Option mV → mSh → mMem → Prop} {x1 x2 x3 : Int} (hc : R32 (x3 + 1)) (k : WP PR d 229 65 [vA 200, vI x1, vI x2, vI (x3 + 1)] [] S M Q) : WP PR d 229 120 [vA 200, vI x1, vI x2, vI x3] [] S M Q := by
  refine WP.gt 1 123 (-58) (0, 0, 0, 0) _ 65 rfl rfl ?_
  exact And.intro (hc) (k)
set_option maxRecDepth 100000 in
theorem b_X9_orders_126 {d : Nat} {S : mSh} {M : mMem} {Q : Option mV → mSh → mMem → Prop} {x1 x2 x3 : Int} (hc : R32 (x2 + 1)) (k : WP PR d 229 55 [vA 200, vI x1, vI (x2 + 1), vI x3] [] S M Q) : WP PR d 229 126 [vA 200, vI x1, vI x2, vI x3] [] S M Q := by
  refine WP.gt 1 129 (-74) (0, 0, 0, 0) _ 55 rfl rfl ?_
  exact And.intro (hc) (k)
set_option maxRecDepth 100000 in
theorem b_X9_orders_132 {d : Nat} {S : mSh} {M : mMem} {Q : Option mV → mSh → mMem → Prop} {x1 x2 : Int} {u3 : mV} (L : Lay S) (k : WP PR d 135 0 [vA 200, vI (M 200 46)] [] S M (fun r S2 M2 => WP PR (d + 1) 229 140 [vA 200, vI x1, vI x2, u3] (r.toList ++ []) S2 M2 Q)) : WP PR (d + 1) 229 132 [vA 200, vI x1, vI x2, u3] [] S M Q := by
  refine WP.ca 3 140 137 (.invokevirtual 142) (0, 135, 0, 0) rfl ?_
  exact And.intro (lo200 L) (⟨rfl, rfl, rfl, lo200 L, rfl, k⟩)
set_option maxRecDepth 100000 in
theorem b_X9_orders_140 {d : Nat} {S : mSh} {M : mMem} {Q : Option mV → mSh → mMem → Prop} {x1 x2 s0 : Int} {u3 : mV} (k : Q (some (vI s0)) S M) : WP PR d 229 140 [vA 200, vI x1, vI x2, u3] [vI s0] S M Q := by
  refine WP.re 0 140 .ireturn (0, 0, 0, 0) _ rfl ?_
  exact ⟨rfl, rfl, trivial, k⟩
/-- SoleraCellarModel.keepUndos()V -/
abbrev e_X9_keepUndos (d : Nat) (S : mSh) (M : mMem) (Q : Option mV → mSh → mMem → Prop) : Prop := WP PR d 230 0 [vA 200, vU] [] S M Q
set_option maxRecDepth 100000 in
theorem b_X9_keepUndos_0 {d : Nat} {S : mSh} {M : mMem} {Q : Option mV → mSh → mMem → Prop} (k : WP PR d 230 2 [vA 200, vI 0] [] S M Q) : WP PR d 230 0 [vA 200, vU] [] S M Q := by
  refine WP.bl 2 2 rfl ?_
  exact k
set_option maxRecDepth 100000 in
theorem b_X9_keepUndos_2 {d : Nat} {S : mSh} {M : mMem} {Q : Option mV → mSh → mMem → Prop} {x1 : Int} (kt : 2640 ≤ x1 → WP PR d 230 27 [vA 200, vI x1] [] S M Q) (kf : x1 < 2640 → WP PR d 230 9 [vA 200, vI x1] [] S M Q) : WP PR d 230 2 [vA 200, vI x1] [] S M Q := by
  refine WP.if2 2 9 6 .ge 21 (0, 0, 0, 0) 27 rfl rfl ?_
  exact ⟨kt, fun hc => kf (Int.not_le.mp hc)⟩
set_option maxRecDepth 100000 in
theorem b_X9_keepUndos_9 {d : Nat} {S : mSh} {M : mMem} {Q : Option mV → mSh → mMem → Prop} {x1 : Int} (L : Lay S) (hc : (0 ≤ x1 ∧ x1 < 2970) ∧ (0 ≤ x1 ∧ x1 < 2640) ∧ R32 (x1 + 1)) (k : WP PR d 230 2 [vA 200, vI (x1 + 1)] [] S (up M 207 x1 (M 205 x1)) Q) : WP PR d 230 9 [vA 200, vI x1] [] S M Q := by
  refine WP.gt 9 24 (-22) (0, 0, 0, 0) _ 2 rfl rfl ?_
  exact And.intro (⟨lo200 L, lf200_9 L⟩) (And.intro (⟨lo200 L, lf200_6 L⟩) (And.intro (inA_of (lo205 L) (ll205 L) hc.1) (And.intro (inA_of (lo207 L) (ll207 L) hc.2.1) (And.intro (hc.2.2) (k)))))
set_option maxRecDepth 100000 in
theorem b_X9_keepUndos_27 {d : Nat} {S : mSh} {M : mMem} {Q : Option mV → mSh → mMem → Prop} {x1 : Int} (k : WP PR d 230 29 [vA 200, vI 0] [] S M Q) : WP PR d 230 27 [vA 200, vI x1] [] S M Q := by
  refine WP.bl 2 29 rfl ?_
  exact k
set_option maxRecDepth 100000 in
theorem b_X9_keepUndos_29 {d : Nat} {S : mSh} {M : mMem} {Q : Option mV → mSh → mMem → Prop} {x1 : Int} (kt : 16 ≤ x1 → WP PR d 230 53 [vA 200, vI x1] [] S M Q) (kf : x1 < 16 → WP PR d 230 35 [vA 200, vI x1] [] S M Q) : WP PR d 230 29 [vA 200, vI x1] [] S M Q := by
  refine WP.if2 2 35 32 .ge 21 (0, 0, 0, 0) 53 rfl rfl ?_
  exact ⟨kt, fun hc => kf (Int.not_le.mp hc)⟩
set_option maxRecDepth 100000 in
theorem b_X9_keepUndos_35 {d : Nat} {S : mSh} {M : mMem} {Q : Option mV → mSh → mMem → Prop} {x1 : Int} (L : Lay S) (hc : (0 ≤ x1 ∧ x1 < 16) ∧ R32 (x1 + 1)) (k : WP PR d 230 29 [vA 200, vI (x1 + 1)] [] S (up M 208 x1 (M 206 x1)) Q) : WP PR d 230 35 [vA 200, vI x1] [] S M Q := by
  refine WP.gt 9 50 (-21) (0, 0, 0, 0) _ 29 rfl rfl ?_
  exact And.intro (⟨lo200 L, lf200_10 L⟩) (And.intro (⟨lo200 L, lf200_7 L⟩) (And.intro (inA_of (lo206 L) (ll206 L) hc.1) (And.intro (inA_of (lo208 L) (ll208 L) hc.1) (And.intro (hc.2) (k)))))
set_option maxRecDepth 100000 in
theorem b_X9_keepUndos_53 {d : Nat} {S : mSh} {M : mMem} {Q : Option mV → mSh → mMem → Prop} {x1 : Int} (k : Q (none) S M) : WP PR d 230 53 [vA 200, vI x1] [] S M Q := by
  refine WP.re 0 53 .return_ (0, 0, 0, 0) _ rfl ?_
  exact ⟨rfl, rfl, trivial, k⟩
/-- SoleraCellarModel.giveBack(I)V -/
abbrev e_X9_giveBack (d : Nat) (a1 : Int) (S : mSh) (M : mMem) (Q : Option mV → mSh → mMem → Prop) : Prop := WP PR d 231 0 [vA 200, vI a1, vU] [] S M Q
set_option maxRecDepth 100000 in
theorem b_X9_giveBack_0 {d : Nat} {S : mSh} {M : mMem} {Q : Option mV → mSh → mMem → Prop} {x1 : Int} (L : Lay S) (k : WP PR d 139 0 [vA 200, vI 17, vU] [] S M (fun r S2 M2 => WP PR (d + 1) 231 6 [vA 200, vI x1, vU] (r.toList ++ []) S2 M2 Q)) : WP PR (d + 1) 231 0 [vA 200, vI x1, vU] [] S M Q := by
  refine WP.ca 2 6 3 (.invokevirtual 150) (0, 139, 0, 0) rfl ?_
  exact ⟨rfl, rfl, rfl, lo200 L, rfl, k⟩
set_option maxRecDepth 100000 in
theorem b_X9_giveBack_6 {d : Nat} {S : mSh} {M : mMem} {Q : Option mV → mSh → mMem → Prop} {x1 : Int} {u2 : mV} (k : WP PR d 231 8 [vA 200, vI x1, vI 0] [] S M Q) : WP PR d 231 6 [vA 200, vI x1, u2] [] S M Q := by
  refine WP.bl 2 8 rfl ?_
  exact k
set_option maxRecDepth 100000 in
theorem b_X9_giveBack_8 {d : Nat} {S : mSh} {M : mMem} {Q : Option mV → mSh → mMem → Prop} {x1 x2 : Int} (kt : 2640 ≤ x2 → WP PR d 231 33 [vA 200, vI x1, vI x2] [] S M Q) (kf : x2 < 2640 → WP PR d 231 15 [vA 200, vI x1, vI x2] [] S M Q) : WP PR d 231 8 [vA 200, vI x1, vI x2] [] S M Q := by
  refine WP.if2 2 15 12 .ge 21 (0, 0, 0, 0) 33 rfl rfl ?_
  exact ⟨kt, fun hc => kf (Int.not_le.mp hc)⟩
set_option maxRecDepth 100000 in
theorem b_X9_giveBack_15 {d : Nat} {S : mSh} {M : mMem} {Q : Option mV → mSh → mMem → Prop} {x1 x2 : Int} (L : Lay S) (hc : (0 ≤ x2 ∧ x2 < 2640) ∧ (0 ≤ x2 ∧ x2 < 2970) ∧ R32 (x2 + 1)) (k : WP PR d 231 8 [vA 200, vI x1, vI (x2 + 1)] [] S (up M 205 x2 (M 207 x2)) Q) : WP PR d 231 15 [vA 200, vI x1, vI x2] [] S M Q := by
  refine WP.gt 9 30 (-22) (0, 0, 0, 0) _ 8 rfl rfl ?_
  exact And.intro (⟨lo200 L, lf200_6 L⟩) (And.intro (⟨lo200 L, lf200_9 L⟩) (And.intro (inA_of (lo207 L) (ll207 L) hc.1) (And.intro (inA_of (lo205 L) (ll205 L) hc.2.1) (And.intro (hc.2.2) (k)))))
set_option maxRecDepth 100000 in
theorem b_X9_giveBack_33 {d : Nat} {S : mSh} {M : mMem} {Q : Option mV → mSh → mMem → Prop} {x1 x2 : Int} (k : WP PR d 231 35 [vA 200, vI x1, vI 0] [] S M Q) : WP PR d 231 33 [vA 200, vI x1, vI x2] [] S M Q := by
  refine WP.bl 2 35 rfl ?_
  exact k
set_option maxRecDepth 100000 in
theorem b_X9_giveBack_35 {d : Nat} {S : mSh} {M : mMem} {Q : Option mV → mSh → mMem → Prop} {x1 x2 : Int} (kt : 16 ≤ x2 → WP PR d 231 59 [vA 200, vI x1, vI x2] [] S M Q) (kf : x2 < 16 → WP PR d 231 41 [vA 200, vI x1, vI x2] [] S M Q) : WP PR d 231 35 [vA 200, vI x1, vI x2] [] S M Q := by
  refine WP.if2 2 41 38 .ge 21 (0, 0, 0, 0) 59 rfl rfl ?_
  exact ⟨kt, fun hc => kf (Int.not_le.mp hc)⟩
set_option maxRecDepth 100000 in
theorem b_X9_giveBack_41 {d : Nat} {S : mSh} {M : mMem} {Q : Option mV → mSh → mMem → Prop} {x1 x2 : Int} (L : Lay S) (hc : (0 ≤ x2 ∧ x2 < 16) ∧ R32 (x2 + 1)) (k : WP PR d 231 35 [vA 200, vI x1, vI (x2 + 1)] [] S (up M 206 x2 (M 208 x2)) Q) : WP PR d 231 41 [vA 200, vI x1, vI x2] [] S M Q := by
  refine WP.gt 9 56 (-21) (0, 0, 0, 0) _ 35 rfl rfl ?_
  exact And.intro (⟨lo200 L, lf200_7 L⟩) (And.intro (⟨lo200 L, lf200_10 L⟩) (And.intro (inA_of (lo208 L) (ll208 L) hc.1) (And.intro (inA_of (lo206 L) (ll206 L) hc.1) (And.intro (hc.2) (k)))))
set_option maxRecDepth 100000 in
theorem b_X9_giveBack_59 {d : Nat} {S : mSh} {M : mMem} {Q : Option mV → mSh → mMem → Prop} {x1 x2 : Int} (L : Lay S) (k : Q (none) S (up M 200 8 x1)) : WP PR d 231 59 [vA 200, vI x1, vI x2] [] S M Q := by
  refine WP.re 3 64 .return_ (0, 0, 0, 0) _ rfl ?_
  exact And.intro (lo200 L) (⟨rfl, rfl, trivial, k⟩)
/-- SoleraCellarModel.stopped()I -/
abbrev e_X9_stopped (d : Nat) (S : mSh) (M : mMem) (Q : Option mV → mSh → mMem → Prop) : Prop := WP PR d 232 0 [vA 200] [] S M Q
set_option maxRecDepth 100000 in
theorem b_X9_stopped_0 {d : Nat} {S : mSh} {M : mMem} {Q : Option mV → mSh → mMem → Prop} (L : Lay S) (k : Q (some (vI (M 200 48))) S (up M 200 0 0)) : WP PR d 232 0 [vA 200] [] S M Q := by
  refine WP.re 5 9 .ireturn (0, 0, 0, 0) _ rfl ?_
  exact And.intro (lo200 L) (And.intro (lo200 L) (⟨rfl, rfl, trivial, k⟩))
/-- SoleraCellarModel.planOnce(I)I -/
abbrev e_X9_planOnce (d : Nat) (a1 : Int) (S : mSh) (M : mMem) (Q : Option mV → mSh → mMem → Prop) : Prop := WP PR d 233 0 [vA 200, vI a1, vU, vU, vU, vU, vU] [] S M Q
set_option maxRecDepth 100000 in
theorem b_X9_planOnce_0 {d : Nat} {S : mSh} {M : mMem} {Q : Option mV → mSh → mMem → Prop} {x1 : Int} (L : Lay S) (hc : R32 (x1 + 1)) (k : WP PR d 224 0 [vA 200, vI (x1 + 1)] [] S M (fun r S2 M2 => WP PR (d + 1) 233 7 [vA 200, vI x1, vU, vU, vU, vU, vU] (r.toList ++ []) S2 M2 Q)) : WP PR (d + 1) 233 0 [vA 200, vI x1, vU, vU, vU, vU, vU] [] S M Q := by
  refine WP.ca 4 7 4 (.invokevirtual 496) (0, 224, 0, 0) rfl ?_
  exact And.intro (hc) (⟨rfl, rfl, rfl, lo200 L, rfl, k⟩)
set_option maxRecDepth 100000 in
theorem b_X9_planOnce_7 {d : Nat} {S : mSh} {M : mMem} {Q : Option mV → mSh → mMem → Prop} {x1 s0 : Int} {u2 u3 u4 u5 u6 : mV} (L : Lay S) (hc : R32 (x1 + 3)) (k : WP PR d 224 0 [vA 200, vI (x1 + 3)] [] S M (fun r S2 M2 => WP PR (d + 1) 233 15 [vA 200, vI x1, vI s0, u3, u4, u5, u6] (r.toList ++ []) S2 M2 Q)) : WP PR (d + 1) 233 7 [vA 200, vI x1, u2, u3, u4, u5, u6] [vI s0] S M Q := by
  refine WP.ca 5 15 12 (.invokevirtual 496) (0, 224, 0, 0) rfl ?_
  exact And.intro (hc) (⟨rfl, rfl, rfl, lo200 L, rfl, k⟩)
set_option maxRecDepth 100000 in
theorem b_X9_planOnce_15 {d : Nat} {S : mSh} {M : mMem} {Q : Option mV → mSh → mMem → Prop} {x1 x2 s0 : Int} {u3 u4 u5 u6 : mV} (L : Lay S) (hc : R32 (x1 + 5)) (k : WP PR d 224 0 [vA 200, vI (x1 + 5)] [] S M (fun r S2 M2 => WP PR (d + 1) 233 23 [vA 200, vI x1, vI x2, vI s0, u4, u5, u6] (r.toList ++ []) S2 M2 Q)) : WP PR (d + 1) 233 15 [vA 200, vI x1, vI x2, u3, u4, u5, u6] [vI s0] S M Q := by
  refine WP.ca 5 23 20 (.invokevirtual 496) (0, 224, 0, 0) rfl ?_
  exact And.intro (hc) (⟨rfl, rfl, rfl, lo200 L, rfl, k⟩)
set_option maxRecDepth 100000 in
theorem b_X9_planOnce_23 {d : Nat} {S : mSh} {M : mMem} {Q : Option mV → mSh → mMem → Prop} {x1 x2 x3 s0 : Int} {u4 u5 u6 : mV} (L : Lay S) (kt : M 200 49 = 0 → WP PR d 233 35 [vA 200, vI x1, vI x2, vI x3, vI s0, u5, u6] [] S M Q) (kf : ¬ M 200 49 = 0 → WP PR d 233 32 [vA 200, vI x1, vI x2, vI x3, vI s0, u5, u6] [] S M Q) : WP PR d 233 23 [vA 200, vI x1, vI x2, vI x3, u4, u5, u6] [vI s0] S M Q := by
  refine WP.if0 3 32 29 .eq 6 (0, 0, 0, 0) 35 rfl rfl ?_
  exact And.intro (lo200 L) (⟨kt, fun hc => kf hc⟩)
set_option maxRecDepth 100000 in
theorem b_X9_planOnce_32 {d : Nat} {S : mSh} {M : mMem} {Q : Option mV → mSh → mMem → Prop} {x1 x2 x3 x4 : Int} {u5 u6 : mV} (k : Q (some (vI (-3))) S M) : WP PR d 233 32 [vA 200, vI x1, vI x2, vI x3, vI x4, u5, u6] [] S M Q := by
  refine WP.re 1 34 .ireturn (0, 0, 0, 0) _ rfl ?_
  exact ⟨rfl, rfl, trivial, k⟩
set_option maxRecDepth 100000 in
theorem b_X9_planOnce_35 {d : Nat} {S : mSh} {M : mMem} {Q : Option mV → mSh → mMem → Prop} {x1 x2 x3 x4 : Int} {u5 u6 : mV} (L : Lay S) (hc : (0 ≤ x1 ∧ x1 < 120)) (kt : ¬ M 223 x1 = 0 → WP PR d 233 58 [vA 200, vI x1, vI x2, vI x3, vI x4, vI (M 223 x1), u6] [] S M Q) (kf : M 223 x1 = 0 → WP PR d 233 48 [vA 200, vI x1, vI x2, vI x3, vI x4, vI (M 223 x1), u6] [] S M Q) : WP PR d 233 35 [vA 200, vI x1, vI x2, vI x3, vI x4, u5, u6] [] S M Q := by
  refine WP.if0 6 48 45 .ne 13 (0, 0, 0, 0) 58 rfl rfl ?_
  exact And.intro (⟨lo200 L, lf200_45 L⟩) (And.intro (inA_of (lo223 L) (ll223 L) hc) (⟨kt, fun hc => kf (Decidable.not_not.mp hc)⟩))
set_option maxRecDepth 100000 in
theorem b_X9_planOnce_48 {d : Nat} {S : mSh} {M : mMem} {Q : Option mV → mSh → mMem → Prop} {x1 x2 x3 x4 x5 : Int} {u6 : mV} (L : Lay S) (k : WP PR d 201 0 [vA 200, vI x4, vI x2] [] S M (fun r S2 M2 => WP PR (d + 1) 233 55 [vA 200, vI x1, vI x2, vI x3, vI x4, vI x5, u6] (r.toList ++ []) S2 M2 Q)) : WP PR (d + 1) 233 48 [vA 200, vI x1, vI x2, vI x3, vI x4, vI x5, u6] [] S M Q := by
  refine WP.ca 3 55 52 (.invokevirtual 418) (0, 201, 0, 0) rfl ?_
  exact ⟨rfl, rfl, rfl, lo200 L, rfl, k⟩
set_option maxRecDepth 100000 in
theorem b_X9_planOnce_55 {d : Nat} {S : mSh} {M : mMem} {Q : Option mV → mSh → mMem → Prop} {x1 x2 x3 x4 x5 s0 : Int} {u6 : mV} (kt : 0 ≤ s0 → WP PR d 233 91 [vA 200, vI x1, vI x2, vI x3, vI x4, vI x5, vI s0] [] S M Q) (kf : s0 < 0 → WP PR d 233 88 [vA 200, vI x1, vI x2, vI x3, vI x4, vI x5, vI s0] [] S M Q) : WP PR d 233 55 [vA 200, vI x1, vI x2, vI x3, vI x4, vI x5, u6] [vI s0] S M Q := by
  refine WP.gt 0 55 26 (0, 0, 0, 0) _ 81 rfl rfl ?_
  show WP PR d 233 81 [vA 200, vI x1, vI x2, vI x3, vI x4, vI x5, u6] [vI s0] S M Q
  refine WP.if0 2 88 85 .ge 6 (0, 0, 0, 0) 91 rfl rfl ?_
  exact ⟨kt, fun hc => kf (Int.not_le.mp hc)⟩
set_option maxRecDepth 100000 in
theorem b_X9_planOnce_58 {d : Nat} {S : mSh} {M : mMem} {Q : Option mV → mSh → mMem → Prop} {x1 x2 x3 x4 x5 : Int} {u6 : mV} (kt : ¬ x5 = 1 → WP PR d 233 75 [vA 200, vI x1, vI x2, vI x3, vI x4, vI x5, u6] [] S M Q) (kf : x5 = 1 → WP PR d 233 64 [vA 200, vI x1, vI x2, vI x3, vI x4, vI x5, u6] [] S M Q) : WP PR d 233 58 [vA 200, vI x1, vI x2, vI x3, vI x4, vI x5, u6] [] S M Q := by
  refine WP.if2 2 64 61 .ne 14 (0, 0, 0, 0) 75 rfl rfl ?_
  exact ⟨kt, fun hc => kf (Decidable.not_not.mp hc)⟩
set_option maxRecDepth 100000 in
theorem b_X9_planOnce_64 {d : Nat} {S : mSh} {M : mMem} {Q : Option mV → mSh → mMem → Prop} {x1 x2 x3 x4 x5 : Int} {u6 : mV} (L : Lay S) (k : WP PR d 205 0 [vA 200, vI x3, vI x4, vI x2, vU] [] S M (fun r S2 M2 => WP PR (d + 1) 233 72 [vA 200, vI x1, vI x2, vI x3, vI x4, vI x5, u6] (r.toList ++ []) S2 M2 Q)) : WP PR (d + 1) 233 64 [vA 200, vI x1, vI x2, vI x3, vI x4, vI x5, u6] [] S M Q := by
  refine WP.ca 4 72 69 (.invokevirtual 433) (0, 205, 0, 0) rfl ?_
  exact ⟨rfl, rfl, rfl, lo200 L, rfl, k⟩
set_option maxRecDepth 100000 in
theorem b_X9_planOnce_72 {d : Nat} {S : mSh} {M : mMem} {Q : Option mV → mSh → mMem → Prop} {x1 x2 x3 x4 x5 s0 : Int} {u6 : mV} (kt : 0 ≤ s0 → WP PR d 233 91 [vA 200, vI x1, vI x2, vI x3, vI x4, vI x5, vI s0] [] S M Q) (kf : s0 < 0 → WP PR d 233 88 [vA 200, vI x1, vI x2, vI x3, vI x4, vI x5, vI s0] [] S M Q) : WP PR d 233 72 [vA 200, vI x1, vI x2, vI x3, vI x4, vI x5, u6] [vI s0] S M Q := by
  refine WP.gt 0 72 9 (0, 0, 0, 0) _ 81 rfl rfl ?_
  show WP PR d 233 81 [vA 200, vI x1, vI x2, vI x3, vI x4, vI x5, u6] [vI s0] S M Q
  refine WP.if0 2 88 85 .ge 6 (0, 0, 0, 0) 91 rfl rfl ?_
  exact ⟨kt, fun hc => kf (Int.not_le.mp hc)⟩
set_option maxRecDepth 100000 in
theorem b_X9_planOnce_75 {d : Nat} {S : mSh} {M : mMem} {Q : Option mV → mSh → mMem → Prop} {x1 x2 x3 x4 x5 : Int} {u6 : mV} (L : Lay S) (k : WP PR d 209 0 [vA 200, vI x3, vI x2] [] S M (fun r S2 M2 => WP PR (d + 1) 233 81 [vA 200, vI x1, vI x2, vI x3, vI x4, vI x5, u6] (r.toList ++ []) S2 M2 Q)) : WP PR (d + 1) 233 75 [vA 200, vI x1, vI x2, vI x3, vI x4, vI x5, u6] [] S M Q := by
  refine WP.ca 3 81 78 (.invokevirtual 450) (0, 209, 0, 0) rfl ?_
  exact ⟨rfl, rfl, rfl, lo200 L, rfl, k⟩
set_option maxRecDepth 100000 in
theorem b_X9_planOnce_81 {d : Nat} {S : mSh} {M : mMem} {Q : Option mV → mSh → mMem → Prop} {x1 x2 x3 x4 x5 s0 : Int} {u6 : mV} (kt : 0 ≤ s0 → WP PR d 233 91 [vA 200, vI x1, vI x2, vI x3, vI x4, vI x5, vI s0] [] S M Q) (kf : s0 < 0 → WP PR d 233 88 [vA 200, vI x1, vI x2, vI x3, vI x4, vI x5, vI s0] [] S M Q) : WP PR d 233 81 [vA 200, vI x1, vI x2, vI x3, vI x4, vI x5, u6] [vI s0] S M Q := by
  refine WP.if0 2 88 85 .ge 6 (0, 0, 0, 0) 91 rfl rfl ?_
  exact ⟨kt, fun hc => kf (Int.not_le.mp hc)⟩
set_option maxRecDepth 100000 in
theorem b_X9_planOnce_88 {d : Nat} {S : mSh} {M : mMem} {Q : Option mV → mSh → mMem → Prop} {x1 x2 x3 x4 x5 x6 : Int} (k : Q (some (vI (-3))) S M) : WP PR d 233 88 [vA 200, vI x1, vI x2, vI x3, vI x4, vI x5, vI x6] [] S M Q := by
  refine WP.re 1 90 .ireturn (0, 0, 0, 0) _ rfl ?_
  exact ⟨rfl, rfl, trivial, k⟩
set_option maxRecDepth 100000 in
theorem b_X9_planOnce_91 {d : Nat} {S : mSh} {M : mMem} {Q : Option mV → mSh → mMem → Prop} {x1 x2 x3 x4 x5 x6 : Int} (kt : ¬ x5 = 0 → WP PR d 233 107 [vA 200, vI x1, vI x2, vI x3, vI x4, vI x5, vI x6] [] S M Q) (kf : x5 = 0 → WP PR d 233 96 [vA 200, vI x1, vI x2, vI x3, vI x4, vI x5, vI x6] [] S M Q) : WP PR d 233 91 [vA 200, vI x1, vI x2, vI x3, vI x4, vI x5, vI x6] [] S M Q := by
  refine WP.if0 1 96 93 .ne 14 (0, 0, 0, 0) 107 rfl rfl ?_
  exact ⟨kt, fun hc => kf (Decidable.not_not.mp hc)⟩
set_option maxRecDepth 100000 in
theorem b_X9_planOnce_96 {d : Nat} {S : mSh} {M : mMem} {Q : Option mV → mSh → mMem → Prop} {x1 x2 x3 x4 x5 x6 : Int} (L : Lay S) (k : WP PR d 202 0 [vA 200, vI x4, vI x2] [] S M (fun r S2 M2 => WP PR (d + 1) 233 103 [vA 200, vI x1, vI x2, vI x3, vI x4, vI x5, vI x6] (r.toList ++ []) S2 M2 Q)) : WP PR (d + 1) 233 96 [vA 200, vI x1, vI x2, vI x3, vI x4, vI x5, vI x6] [] S M Q := by
  refine WP.ca 3 103 100 (.invokevirtual 424) (0, 202, 0, 0) rfl ?_
  exact ⟨rfl, rfl, rfl, lo200 L, rfl, k⟩
set_option maxRecDepth 100000 in
theorem b_X9_planOnce_103 {d : Nat} {S : mSh} {M : mMem} {Q : Option mV → mSh → mMem → Prop} {x1 x2 x3 x4 x5 x6 s0 : Int} (L : Lay S) (hc : R32 ((M 200 46) + 1)) (k : Q (some (vI 0)) S (up M 200 46 ((M 200 46) + 1))) : WP PR d 233 103 [vA 200, vI x1, vI x2, vI x3, vI x4, vI x5, vI x6] [vI s0] S M Q := by
  refine WP.gt 1 104 31 (0, 0, 0, 0) _ 135 rfl rfl ?_
  show WP PR d 233 135 [vA 200, vI x1, vI x2, vI x3, vI x4, vI x5, vI x6] [] S M Q
  refine WP.re 7 146 .ireturn (0, 0, 0, 0) _ rfl ?_
  exact And.intro (lo200 L) (And.intro (hc) (And.intro (lo200 L) (⟨rfl, rfl, trivial, k⟩)))
set_option maxRecDepth 100000 in
theorem b_X9_planOnce_107 {d : Nat} {S : mSh} {M : mMem} {Q : Option mV → mSh → mMem → Prop} {x1 x2 x3 x4 x5 x6 : Int} (kt : ¬ x5 = 1 → WP PR d 233 125 [vA 200, vI x1, vI x2, vI x3, vI x4, vI x5, vI x6] [] S M Q) (kf : x5 = 1 → WP PR d 233 113 [vA 200, vI x1, vI x2, vI x3, vI x4, vI x5, vI x6] [] S M Q) : WP PR d 233 107 [vA 200, vI x1, vI x2, vI x3, vI x4, vI x5, vI x6] [] S M Q := by
  refine WP.if2 2 113 110 .ne 15 (0, 0, 0, 0) 125 rfl rfl ?_
  exact ⟨kt, fun hc => kf (Decidable.not_not.mp hc)⟩
set_option maxRecDepth 100000 in
theorem b_X9_planOnce_113 {d : Nat} {S : mSh} {M : mMem} {Q : Option mV → mSh → mMem → Prop} {x1 x2 x3 x4 x5 x6 : Int} (L : Lay S) (k : WP PR d 206 0 [vA 200, vI x3, vI x4, vI x2, vU] [] S M (fun r S2 M2 => WP PR (d + 1) 233 121 [vA 200, vI x1, vI x2, vI x3, vI x4, vI x5, vI x6] (r.toList ++ []) S2 M2 Q)) : WP PR (d + 1) 233 113 [vA 200, vI x1, vI x2, vI x3, vI x4, vI x5, vI x6] [] S M Q := by
  refine WP.ca 4 121 118 (.invokevirtual 437) (0, 206, 0, 0) rfl ?_
  exact ⟨rfl, rfl, rfl, lo200 L, rfl, k⟩
set_option maxRecDepth 100000 in
theorem b_X9_planOnce_121 {d : Nat} {S : mSh} {M : mMem} {Q : Option mV → mSh → mMem → Prop} {x1 x2 x3 x4 x5 x6 s0 : Int} (L : Lay S) (hc : R32 ((M 200 46) + 1)) (k : Q (some (vI 0)) S (up M 200 46 ((M 200 46) + 1))) : WP PR d 233 121 [vA 200, vI x1, vI x2, vI x3, vI x4, vI x5, vI x6] [vI s0] S M Q := by
  refine WP.gt 1 122 13 (0, 0, 0, 0) _ 135 rfl rfl ?_
  show WP PR d 233 135 [vA 200, vI x1, vI x2, vI x3, vI x4, vI x5, vI x6] [] S M Q
  refine WP.re 7 146 .ireturn (0, 0, 0, 0) _ rfl ?_
  exact And.intro (lo200 L) (And.intro (hc) (And.intro (lo200 L) (⟨rfl, rfl, trivial, k⟩)))
set_option maxRecDepth 100000 in
theorem b_X9_planOnce_125 {d : Nat} {S : mSh} {M : mMem} {Q : Option mV → mSh → mMem → Prop} {x1 x2 x3 x4 x5 x6 : Int} (L : Lay S) (k : WP PR d 210 0 [vA 200, vI x3, vI x2, vU] [] S M (fun r S2 M2 => WP PR (d + 1) 233 132 [vA 200, vI x1, vI x2, vI x3, vI x4, vI x5, vI x6] (r.toList ++ [vA 200]) S2 M2 Q)) : WP PR (d + 1) 233 125 [vA 200, vI x1, vI x2, vI x3, vI x4, vI x5, vI x6] [] S M Q := by
  refine WP.ca 4 132 129 (.invokevirtual 453) (0, 210, 0, 0) rfl ?_
  exact ⟨rfl, rfl, rfl, lo200 L, rfl, k⟩
set_option maxRecDepth 100000 in
theorem b_X9_planOnce_132 {d : Nat} {S : mSh} {M : mMem} {Q : Option mV → mSh → mMem → Prop} {x1 x2 x3 x4 x5 x6 s1 : Int} (L : Lay S) (hc : R32 ((M 200 46) + 1)) (k : Q (some (vI 0)) S (up (up M 200 47 s1) 200 46 ((M 200 46) + 1))) : WP PR d 233 132 [vA 200, vI x1, vI x2, vI x3, vI x4, vI x5, vI x6] [vI s1, vA 200] S M Q := by
  refine WP.re 8 146 .ireturn (0, 0, 0, 0) _ rfl ?_
  exact And.intro (lo200 L) (And.intro (lo200 L) (And.intro (hc) (And.intro (lo200 L) (⟨rfl, rfl, trivial, k⟩))))
/-- SoleraCellarModel.planYear()V -/
abbrev e_X9_planYear (d : Nat) (S : mSh) (M : mMem) (Q : Option mV → mSh → mMem → Prop) : Prop := WP PR d 234 0 [vA 200, vU, vU, vU] [] S M Q
set_option maxRecDepth 100000 in
theorem b_X9_planYear_0 {d : Nat} {S : mSh} {M : mMem} {Q : Option mV → mSh → mMem → Prop} (L : Lay S) (k : WP PR d 234 17 [vA 200, vI 0, vU, vU] [] S (up (up (up M 200 46 0) 200 47 (-1)) 200 50 0) Q) : WP PR d 234 0 [vA 200, vU, vU, vU] [] S M Q := by
  refine WP.bl 11 17 rfl ?_
  exact And.intro (lo200 L) (And.intro (lo200 L) (And.intro (⟨lo200 L, Or.inl rfl⟩) (k)))
set_option maxRecDepth 100000 in
theorem b_X9_planYear_17 {d : Nat} {S : mSh} {M : mMem} {Q : Option mV → mSh → mMem → Prop} {x1 : Int} {u2 u3 : mV} (L : Lay S) (kt : M 200 21 ≤ x1 → WP PR d 234 88 [vA 200, vI x1, u2, u3] [] S M Q) (kf : x1 < M 200 21 → WP PR d 234 25 [vA 200, vI x1, u2, u3] [] S M Q) : WP PR d 234 17 [vA 200, vI x1, u2, u3] [] S M Q := by
  refine WP.if2 3 25 22 .ge 66 (0, 0, 0, 0) 88 rfl rfl ?_
  exact And.intro (lo200 L) (⟨kt, fun hc => kf (Int.not_le.mp hc)⟩)
set_option maxRecDepth 100000 in
theorem b_X9_planYear_25 {d : Nat} {S : mSh} {M : mMem} {Q : Option mV → mSh → mMem → Prop} {x1 : Int} {u2 u3 : mV} (hc : R32 (10 * x1)) (k : WP PR d 234 32 [vA 200, vI x1, vI (10 * x1), vI 0] [] S M Q) : WP PR d 234 25 [vA 200, vI x1, u2, u3] [] S M Q := by
  refine WP.bl 6 32 rfl ?_
  exact And.intro (hc) (k)
set_option maxRecDepth 100000 in
theorem b_X9_planYear_32 {d : Nat} {S : mSh} {M : mMem} {Q : Option mV → mSh → mMem → Prop} {x1 x2 x3 : Int} (L : Lay S) (hc : R32 (x2 + 9) ∧ (0 ≤ x2 + 9 ∧ x2 + 9 < 120)) (kt : M 223 (x2 + 9) ≤ x3 → WP PR d 234 82 [vA 200, vI x1, vI x2, vI x3] [] S M Q) (kf : x3 < M 223 (x2 + 9) → WP PR d 234 45 [vA 200, vI x1, vI x2, vI x3] [] S M Q) : WP PR d 234 32 [vA 200, vI x1, vI x2, vI x3] [] S M Q := by
  refine WP.if2 7 45 42 .ge 40 (0, 0, 0, 0) 82 rfl rfl ?_
  exact And.intro (⟨lo200 L, lf200_45 L⟩) (And.intro (hc.1) (And.intro (inA_of (lo223 L) (ll223 L) hc.2) (⟨kt, fun hc => kf (Int.not_le.mp hc)⟩)))
set_option maxRecDepth 100000 in
theorem b_X9_planYear_45 {d : Nat} {S : mSh} {M : mMem} {Q : Option mV → mSh → mMem → Prop} {x1 x2 x3 : Int} (L : Lay S) (hc : (0 ≤ x2 ∧ x2 < 120)) (kt : M 223 x2 = 3 → WP PR d 234 82 [vA 200, vI x1, vI x2, vI x3] [] S M Q) (kf : ¬ M 223 x2 = 3 → WP PR d 234 55 [vA 200, vI x1, vI x2, vI x3] [] S M Q) : WP PR d 234 45 [vA 200, vI x1, vI x2, vI x3] [] S M Q := by
  refine WP.if2 5 55 52 .eq 30 (0, 0, 0, 0) 82 rfl rfl ?_
  exact And.intro (⟨lo200 L, lf200_45 L⟩) (And.intro (inA_of (lo223 L) (ll223 L) hc) (⟨kt, fun hc => kf hc⟩))
set_option maxRecDepth 100000 in
theorem b_X9_planYear_55 {d : Nat} {S : mSh} {M : mMem} {Q : Option mV → mSh → mMem → Prop} {x1 x2 x3 : Int} (L : Lay S) (k : WP PR d 226 0 [vA 200, vI x2, vU, vU] [] S M (fun r S2 M2 => WP PR (d + 1) 234 60 [vA 200, vI x1, vI x2, vI x3] (r.toList ++ []) S2 M2 Q)) : WP PR (d + 1) 234 55 [vA 200, vI x1, vI x2, vI x3] [] S M Q := by
  refine WP.ca 2 60 57 (.invokevirtual 506) (0, 226, 0, 0) rfl ?_
  exact ⟨rfl, rfl, rfl, lo200 L, rfl, k⟩
set_option maxRecDepth 100000 in
theorem b_X9_planYear_60 {d : Nat} {S : mSh} {M : mMem} {Q : Option mV → mSh → mMem → Prop} {x1 x2 x3 s0 : Int} (kt : s0 = 0 → WP PR d 234 76 [vA 200, vI x1, vI x2, vI x3] [] S M Q) (kf : ¬ s0 = 0 → WP PR d 234 63 [vA 200, vI x1, vI x2, vI x3] [] S M Q) : WP PR d 234 60 [vA 200, vI x1, vI x2, vI x3] [vI s0] S M Q := by
  refine WP.if0 0 63 60 .eq 16 (0, 0, 0, 0) 76 rfl rfl ?_
  exact ⟨kt, fun hc => kf hc⟩
set_option maxRecDepth 100000 in
theorem b_X9_planYear_63 {d : Nat} {S : mSh} {M : mMem} {Q : Option mV → mSh → mMem → Prop} {x1 x2 x3 : Int} (L : Lay S) (k : WP PR d 233 0 [vA 200, vI x2, vU, vU, vU, vU, vU] [] S M (fun r S2 M2 => WP PR (d + 1) 234 68 [vA 200, vI x1, vI x2, vI x3] (r.toList ++ []) S2 M2 Q)) : WP PR (d + 1) 234 63 [vA 200, vI x1, vI x2, vI x3] [] S M Q := by
  refine WP.ca 2 68 65 (.invokevirtual 518) (0, 233, 0, 0) rfl ?_
  exact ⟨rfl, rfl, rfl, lo200 L, rfl, k⟩
set_option maxRecDepth 100000 in
theorem b_X9_planYear_68 {d : Nat} {S : mSh} {M : mMem} {Q : Option mV → mSh → mMem → Prop} {x1 x2 x3 s0 : Int} (kt : 0 ≤ s0 → WP PR d 234 76 [vA 200, vI x1, vI x2, vI x3] [] S M Q) (kf : s0 < 0 → WP PR d 234 71 [vA 200, vI x1, vI x2, vI x3] [] S M Q) : WP PR d 234 68 [vA 200, vI x1, vI x2, vI x3] [vI s0] S M Q := by
  refine WP.if0 0 71 68 .ge 8 (0, 0, 0, 0) 76 rfl rfl ?_
  exact ⟨kt, fun hc => kf (Int.not_le.mp hc)⟩
set_option maxRecDepth 100000 in
theorem b_X9_planYear_71 {d : Nat} {S : mSh} {M : mMem} {Q : Option mV → mSh → mMem → Prop} {x1 x2 x3 : Int} (L : Lay S) (hc : R32 (x3 + 1)) (k : WP PR d 234 32 [vA 200, vI x1, vI x2, vI (x3 + 1)] [] S (up M 200 50 1) Q) : WP PR d 234 71 [vA 200, vI x1, vI x2, vI x3] [] S M Q := by
  refine WP.gt 4 79 (-47) (0, 0, 0, 0) _ 32 rfl rfl ?_
  exact And.intro (⟨lo200 L, Or.inr rfl⟩) (And.intro (hc) (k))
set_option maxRecDepth 100000 in
theorem b_X9_planYear_76 {d : Nat} {S : mSh} {M : mMem} {Q : Option mV → mSh → mMem → Prop} {x1 x2 x3 : Int} (hc : R32 (x3 + 1)) (k : WP PR d 234 32 [vA 200, vI x1, vI x2, vI (x3 + 1)] [] S M Q) : WP PR d 234 76 [vA 200, vI x1, vI x2, vI x3] [] S M Q := by
  refine WP.gt 1 79 (-47) (0, 0, 0, 0) _ 32 rfl rfl ?_
  exact And.intro (hc) (k)
set_option maxRecDepth 100000 in
theorem b_X9_planYear_82 {d : Nat} {S : mSh} {M : mMem} {Q : Option mV → mSh → mMem → Prop} {x1 x2 x3 : Int} (hc : R32 (x1 + 1)) (k : WP PR d 234 17 [vA 200, vI (x1 + 1), vI x2, vI x3] [] S M Q) : WP PR d 234 82 [vA 200, vI x1, vI x2, vI x3] [] S M Q := by
  refine WP.gt 1 85 (-68) (0, 0, 0, 0) _ 17 rfl rfl ?_
  exact And.intro (hc) (k)
set_option maxRecDepth 100000 in
theorem b_X9_planYear_88 {d : Nat} {S : mSh} {M : mMem} {Q : Option mV → mSh → mMem → Prop} {x1 : Int} {u2 u3 : mV} (L : Lay S) (k : WP PR d 214 0 [vA 200, vU, vU, vU, vU, vU, vU] [] S M (fun r S2 M2 => WP PR (d + 1) 234 92 [vA 200, vI x1, u2, u3] (r.toList ++ []) S2 M2 Q)) : WP PR (d + 1) 234 88 [vA 200, vI x1, u2, u3] [] S M Q := by
  refine WP.ca 1 92 89 (.invokevirtual 459) (0, 214, 0, 0) rfl ?_
  exact ⟨rfl, rfl, rfl, lo200 L, rfl, k⟩
set_option maxRecDepth 100000 in
theorem b_X9_planYear_92 {d : Nat} {S : mSh} {M : mMem} {Q : Option mV → mSh → mMem → Prop} {x1 s0 : Int} {u2 u3 : mV} (k : Q (none) S M) : WP PR d 234 92 [vA 200, vI x1, u2, u3] [vI s0] S M Q := by
  refine WP.re 1 93 .return_ (0, 0, 0, 0) _ rfl ?_
  exact ⟨rfl, rfl, trivial, k⟩
/-- SoleraCellarModel.beginPlan(I)V -/
abbrev e_X9_beginPlan (d : Nat) (a1 : Int) (S : mSh) (M : mMem) (Q : Option mV → mSh → mMem → Prop) : Prop := WP PR d 235 0 [vA 200, vI a1] [] S M Q
set_option maxRecDepth 100000 in
theorem b_X9_beginPlan_0 {d : Nat} {S : mSh} {M : mMem} {Q : Option mV → mSh → mMem → Prop} {x1 : Int} (L : Lay S) (k : WP PR d 222 0 [vA 200, vI x1, vU, vU] [] S M (fun r S2 M2 => WP PR (d + 1) 235 5 [vA 200, vI x1] (r.toList ++ []) S2 M2 Q)) : WP PR (d + 1) 235 0 [vA 200, vI x1] [] S M Q := by
  refine WP.ca 2 5 2 (.invokevirtual 521) (0, 222, 0, 0) rfl ?_
  exact ⟨rfl, rfl, rfl, lo200 L, rfl, k⟩
set_option maxRecDepth 100000 in
theorem b_X9_beginPlan_5 {d : Nat} {S : mSh} {M : mMem} {Q : Option mV → mSh → mMem → Prop} {x1 : Int} (L : Lay S) (k : WP PR d 138 0 [vA 200, vI 16, vU] [] S M (fun r S2 M2 => WP PR (d + 1) 235 11 [vA 200, vI x1] (r.toList ++ []) S2 M2 Q)) : WP PR (d + 1) 235 5 [vA 200, vI x1] [] S M Q := by
  refine WP.ca 2 11 8 (.invokevirtual 146) (0, 138, 0, 0) rfl ?_
  exact ⟨rfl, rfl, rfl, lo200 L, rfl, k⟩
set_option maxRecDepth 100000 in
theorem b_X9_beginPlan_11 {d : Nat} {S : mSh} {M : mMem} {Q : Option mV → mSh → mMem → Prop} {x1 : Int} (L : Lay S) (k : Q (none) S (up (up M 200 42 0) 200 43 100000000)) : WP PR d 235 11 [vA 200, vI x1] [] S M Q := by
  refine WP.re 6 23 .return_ (0, 0, 0, 0) _ rfl ?_
  exact And.intro (lo200 L) (And.intro (lo200 L) (⟨rfl, rfl, trivial, k⟩))
/-- SoleraCellarModel.byPlan(IIII)I -/
abbrev e_X9_byPlan (d : Nat) (a1 a2 a3 a4 : Int) (S : mSh) (M : mMem) (Q : Option mV → mSh → mMem → Prop) : Prop := WP PR d 236 0 [vA 200, vI a1, vI a2, vI a3, vI a4, vU] [] S M Q
set_option maxRecDepth 100000 in
theorem b_X9_byPlan_0 {d : Nat} {S : mSh} {M : mMem} {Q : Option mV → mSh → mMem → Prop} {x1 x2 x3 x4 : Int} (L : Lay S) (k : WP PR d 223 0 [vA 200, vI x1] [] S (up M 200 0 0) (fun r S2 M2 => WP PR (d + 1) 236 10 [vA 200, vI x1, vI x2, vI x3, vI x4, vU] (r.toList ++ []) S2 M2 Q)) : WP PR (d + 1) 236 0 [vA 200, vI x1, vI x2, vI x3, vI x4, vU] [] S M Q := by
  refine WP.ca 5 10 7 (.invokevirtual 525) (0, 223, 0, 0) rfl ?_
  exact And.intro (lo200 L) (⟨rfl, rfl, rfl, lo200 L, rfl, k⟩)
set_option maxRecDepth 100000 in
theorem b_X9_byPlan_10 {d : Nat} {S : mSh} {M : mMem} {Q : Option mV → mSh → mMem → Prop} {x1 x2 x3 x4 s0 : Int} {u5 : mV} (kt : s0 = 0 → WP PR d 236 46 [vA 200, vI x1, vI x2, vI x3, vI x4, u5] [] S M Q) (kf : ¬ s0 = 0 → WP PR d 236 13 [vA 200, vI x1, vI x2, vI x3, vI x4, u5] [] S M Q) : WP PR d 236 10 [vA 200, vI x1, vI x2, vI x3, vI x4, u5] [vI s0] S M Q := by
  refine WP.if0 0 13 10 .eq 36 (0, 0, 0, 0) 46 rfl rfl ?_
  exact ⟨kt, fun hc => kf hc⟩
set_option maxRecDepth 100000 in
theorem b_X9_byPlan_13 {d : Nat} {S : mSh} {M : mMem} {Q : Option mV → mSh → mMem → Prop} {x1 x2 x3 x4 : Int} {u5 : mV} (k : WP PR d 132 0 [vL x2, vU, vL 0, vU, vL 60, vU] [] S M (fun r S2 M2 => WP PR (d + 1) 236 22 [vA 200, vI x1, vI x2, vI x3, vI x4, u5] (r.toList ++ []) S2 M2 Q)) : WP PR (d + 1) 236 13 [vA 200, vI x1, vI x2, vI x3, vI x4, u5] [] S M Q := by
  refine WP.ca 4 22 19 (.invokestatic 153) (0, 132, 0, 0) rfl ?_
  exact ⟨rfl, rfl, rfl, trivial, rfl, k⟩
set_option maxRecDepth 100000 in
theorem b_X9_byPlan_22 {d : Nat} {S : mSh} {M : mMem} {Q : Option mV → mSh → mMem → Prop} {x1 x2 x3 x4 s0 : Int} {u5 : mV} (kt : s0 = 0 → WP PR d 236 46 [vA 200, vI x1, vI x2, vI x3, vI x4, u5] [] S M Q) (kf : ¬ s0 = 0 → WP PR d 236 25 [vA 200, vI x1, vI x2, vI x3, vI x4, u5] [] S M Q) : WP PR d 236 22 [vA 200, vI x1, vI x2, vI x3, vI x4, u5] [vI s0] S M Q := by
  refine WP.if0 0 25 22 .eq 24 (0, 0, 0, 0) 46 rfl rfl ?_
  exact ⟨kt, fun hc => kf hc⟩
set_option maxRecDepth 100000 in
theorem b_X9_byPlan_25 {d : Nat} {S : mSh} {M : mMem} {Q : Option mV → mSh → mMem → Prop} {x1 x2 x3 x4 : Int} {u5 : mV} (L : Lay S) (k : WP PR d 144 0 [vA 200, vI x3] [] S M (fun r S2 M2 => WP PR (d + 1) 236 30 [vA 200, vI x1, vI x2, vI x3, vI x4, u5] (r.toList ++ []) S2 M2 Q)) : WP PR (d + 1) 236 25 [vA 200, vI x1, vI x2, vI x3, vI x4, u5] [] S M Q := by
  refine WP.ca 2 30 27 (.invokevirtual 184) (0, 144, 0, 0) rfl ?_
  exact ⟨rfl, rfl, rfl, lo200 L, rfl, k⟩
set_option maxRecDepth 100000 in
theorem b_X9_byPlan_30 {d : Nat} {S : mSh} {M : mMem} {Q : Option mV → mSh → mMem → Prop} {x1 x2 x3 x4 s0 : Int} {u5 : mV} (kt : s0 = 0 → WP PR d 236 46 [vA 200, vI x1, vI x2, vI x3, vI x4, u5] [] S M Q) (kf : ¬ s0 = 0 → WP PR d 236 33 [vA 200, vI x1, vI x2, vI x3, vI x4, u5] [] S M Q) : WP PR d 236 30 [vA 200, vI x1, vI x2, vI x3, vI x4, u5] [vI s0] S M Q := by
  refine WP.if0 0 33 30 .eq 16 (0, 0, 0, 0) 46 rfl rfl ?_
  exact ⟨kt, fun hc => kf hc⟩
set_option maxRecDepth 100000 in
theorem b_X9_byPlan_33 {d : Nat} {S : mSh} {M : mMem} {Q : Option mV → mSh → mMem → Prop} {x1 x2 x3 x4 : Int} {u5 : mV} (k : WP PR d 132 0 [vL x4, vU, vL 0, vU, vL 2, vU] [] S M (fun r S2 M2 => WP PR (d + 1) 236 43 [vA 200, vI x1, vI x2, vI x3, vI x4, u5] (r.toList ++ []) S2 M2 Q)) : WP PR (d + 1) 236 33 [vA 200, vI x1, vI x2, vI x3, vI x4, u5] [] S M Q := by
  refine WP.ca 4 43 40 (.invokestatic 153) (0, 132, 0, 0) rfl ?_
  exact ⟨rfl, rfl, rfl, trivial, rfl, k⟩
set_option maxRecDepth 100000 in
theorem b_X9_byPlan_43 {d : Nat} {S : mSh} {M : mMem} {Q : Option mV → mSh → mMem → Prop} {x1 x2 x3 x4 s0 : Int} {u5 : mV} (kt : ¬ s0 = 0 → WP PR d 236 48 [vA 200, vI x1, vI x2, vI x3, vI x4, u5] [] S M Q) (kf : s0 = 0 → WP PR d 236 46 [vA 200, vI x1, vI x2, vI x3, vI x4, u5] [] S M Q) : WP PR d 236 43 [vA 200, vI x1, vI x2, vI x3, vI x4, u5] [vI s0] S M Q := by
  refine WP.if0 0 46 43 .ne 5 (0, 0, 0, 0) 48 rfl rfl ?_
  exact ⟨kt, fun hc => kf (Decidable.not_not.mp hc)⟩
set_option maxRecDepth 100000 in
theorem b_X9_byPlan_46 {d : Nat} {S : mSh} {M : mMem} {Q : Option mV → mSh → mMem → Prop} {x1 x2 x3 x4 : Int} {u5 : mV} (k : Q (some (vI (-1))) S M) : WP PR d 236 46 [vA 200, vI x1, vI x2, vI x3, vI x4, u5] [] S M Q := by
  refine WP.re 1 47 .ireturn (0, 0, 0, 0) _ rfl ?_
  exact ⟨rfl, rfl, trivial, k⟩
set_option maxRecDepth 100000 in
theorem b_X9_byPlan_48 {d : Nat} {S : mSh} {M : mMem} {Q : Option mV → mSh → mMem → Prop} {x1 x2 x3 x4 : Int} {u5 : mV} (L : Lay S) (k : WP PR d 235 0 [vA 200, vI x1] [] S M (fun r S2 M2 => WP PR (d + 1) 236 53 [vA 200, vI x1, vI x2, vI x3, vI x4, u5] (r.toList ++ []) S2 M2 Q)) : WP PR (d + 1) 236 48 [vA 200, vI x1, vI x2, vI x3, vI x4, u5] [] S M Q := by
  refine WP.ca 2 53 50 (.invokevirtual 532) (0, 235, 0, 0) rfl ?_
  exact ⟨rfl, rfl, rfl, lo200 L, rfl, k⟩
set_option maxRecDepth 100000 in
theorem b_X9_byPlan_53 {d : Nat} {S : mSh} {M : mMem} {Q : Option mV → mSh → mMem → Prop} {x1 x2 x3 x4 : Int} {u5 : mV} (k : WP PR d 236 56 [vA 200, vI x1, vI x2, vI x3, vI x4, vI 0] [] S M Q) : WP PR d 236 53 [vA 200, vI x1, vI x2, vI x3, vI x4, u5] [] S M Q := by
  refine WP.bl 2 56 rfl ?_
  exact k
set_option maxRecDepth 100000 in
theorem b_X9_byPlan_56 {d : Nat} {S : mSh} {M : mMem} {Q : Option mV → mSh → mMem → Prop} {x1 x2 x3 x4 x5 : Int} (kt : x2 ≤ x5 → WP PR d 236 72 [vA 200, vI x1, vI x2, vI x3, vI x4, vI x5] [] S M Q) (kf : x5 < x2 → WP PR d 236 62 [vA 200, vI x1, vI x2, vI x3, vI x4, vI x5] [] S M Q) : WP PR d 236 56 [vA 200, vI x1, vI x2, vI x3, vI x4, vI x5] [] S M Q := by
  refine WP.if2 2 62 59 .ge 13 (0, 0, 0, 0) 72 rfl rfl ?_
  exact ⟨kt, fun hc => kf (Int.not_le.mp hc)⟩
set_option maxRecDepth 100000 in
theorem b_X9_byPlan_62 {d : Nat} {S : mSh} {M : mMem} {Q : Option mV → mSh → mMem → Prop} {x1 x2 x3 x4 x5 : Int} (L : Lay S) (k : WP PR d 234 0 [vA 200, vU, vU, vU] [] S M (fun r S2 M2 => WP PR (d + 1) 236 66 [vA 200, vI x1, vI x2, vI x3, vI x4, vI x5] (r.toList ++ []) S2 M2 Q)) : WP PR (d + 1) 236 62 [vA 200, vI x1, vI x2, vI x3, vI x4, vI x5] [] S M Q := by
  refine WP.ca 1 66 63 (.invokevirtual 535) (0, 234, 0, 0) rfl ?_
  exact ⟨rfl, rfl, rfl, lo200 L, rfl, k⟩
set_option maxRecDepth 100000 in
theorem b_X9_byPlan_66 {d : Nat} {S : mSh} {M : mMem} {Q : Option mV → mSh → mMem → Prop} {x1 x2 x3 x4 x5 : Int} (hc : R32 (x5 + 1)) (k : WP PR d 236 56 [vA 200, vI x1, vI x2, vI x3, vI x4, vI (x5 + 1)] [] S M Q) : WP PR d 236 66 [vA 200, vI x1, vI x2, vI x3, vI x4, vI x5] [] S M Q := by
  refine WP.gt 1 69 (-13) (0, 0, 0, 0) _ 56 rfl rfl ?_
  exact And.intro (hc) (k)
set_option maxRecDepth 100000 in
theorem b_X9_byPlan_72 {d : Nat} {S : mSh} {M : mMem} {Q : Option mV → mSh → mMem → Prop} {x1 x2 x3 x4 x5 : Int} (kt : ¬ x4 = 0 → WP PR d 236 85 [vA 200, vI x1, vI x2, vI x3, vI x4, vI x5] [] S M Q) (kf : x4 = 0 → WP PR d 236 77 [vA 200, vI x1, vI x2, vI x3, vI x4, vI x5] [] S M Q) : WP PR d 236 72 [vA 200, vI x1, vI x2, vI x3, vI x4, vI x5] [] S M Q := by
  refine WP.if0 1 77 74 .ne 11 (0, 0, 0, 0) 85 rfl rfl ?_
  exact ⟨kt, fun hc => kf (Decidable.not_not.mp hc)⟩
set_option maxRecDepth 100000 in
theorem b_X9_byPlan_77 {d : Nat} {S : mSh} {M : mMem} {Q : Option mV → mSh → mMem → Prop} {x1 x2 x3 x4 x5 : Int} (L : Lay S) (k : WP PR d 146 0 [vA 200, vI x3, vU, vU] [] S M (fun r S2 M2 => WP PR (d + 1) 236 82 [vA 200, vI x1, vI x2, vI x3, vI x4, vI x5] (r.toList ++ []) S2 M2 Q)) : WP PR (d + 1) 236 77 [vA 200, vI x1, vI x2, vI x3, vI x4, vI x5] [] S M Q := by
  refine WP.ca 2 82 79 (.invokevirtual 166) (0, 146, 0, 0) rfl ?_
  exact ⟨rfl, rfl, rfl, lo200 L, rfl, k⟩
set_option maxRecDepth 100000 in
theorem b_X9_byPlan_82 {d : Nat} {S : mSh} {M : mMem} {Q : Option mV → mSh → mMem → Prop} {x1 x2 x3 x4 x5 s0 : Int} (L : Lay S) (k : WP PR d 139 0 [vA 200, vI 16, vU] [] S M (fun r S2 M2 => WP PR (d + 1) 236 112 [vA 200, vI x1, vI x2, vI x3, vI x4, vI s0] (r.toList ++ []) S2 M2 Q)) : WP PR (d + 1) 236 82 [vA 200, vI x1, vI x2, vI x3, vI x4, vI x5] [vI s0] S M Q := by
  refine WP.gt 0 82 22 (0, 0, 0, 0) _ 104 rfl rfl ?_
  show WP PR (d + 1) 236 104 [vA 200, vI x1, vI x2, vI x3, vI x4, vI x5] [vI s0] S M Q
  refine WP.ca 3 112 109 (.invokevirtual 150) (0, 139, 0, 0) rfl ?_
  exact ⟨rfl, rfl, rfl, lo200 L, rfl, k⟩
set_option maxRecDepth 100000 in
theorem b_X9_byPlan_85 {d : Nat} {S : mSh} {M : mMem} {Q : Option mV → mSh → mMem → Prop} {x1 x2 x3 x4 x5 : Int} (kt : ¬ x4 = 1 → WP PR d 236 99 [vA 200, vI x1, vI x2, vI x3, vI x4, vI x5] [] S M Q) (kf : x4 = 1 → WP PR d 236 91 [vA 200, vI x1, vI x2, vI x3, vI x4, vI x5] [] S M Q) : WP PR d 236 85 [vA 200, vI x1, vI x2, vI x3, vI x4, vI x5] [] S M Q := by
  refine WP.if2 2 91 88 .ne 11 (0, 0, 0, 0) 99 rfl rfl ?_
  exact ⟨kt, fun hc => kf (Decidable.not_not.mp hc)⟩
set_option maxRecDepth 100000 in
theorem b_X9_byPlan_91 {d : Nat} {S : mSh} {M : mMem} {Q : Option mV → mSh → mMem → Prop} {x1 x2 x3 x4 x5 : Int} (L : Lay S) (k : WP PR d 147 0 [vA 200, vI x3, vU, vU, vU] [] S M (fun r S2 M2 => WP PR (d + 1) 236 96 [vA 200, vI x1, vI x2, vI x3, vI x4, vI x5] (r.toList ++ []) S2 M2 Q)) : WP PR (d + 1) 236 91 [vA 200, vI x1, vI x2, vI x3, vI x4, vI x5] [] S M Q := by
  refine WP.ca 2 96 93 (.invokevirtual 169) (0, 147, 0, 0) rfl ?_
  exact ⟨rfl, rfl, rfl, lo200 L, rfl, k⟩
set_option maxRecDepth 100000 in
theorem b_X9_byPlan_96 {d : Nat} {S : mSh} {M : mMem} {Q : Option mV → mSh → mMem → Prop} {x1 x2 x3 x4 x5 s0 : Int} (L : Lay S) (k : WP PR d 139 0 [vA 200, vI 16, vU] [] S M (fun r S2 M2 => WP PR (d + 1) 236 112 [vA 200, vI x1, vI x2, vI x3, vI x4, vI s0] (r.toList ++ []) S2 M2 Q)) : WP PR (d + 1) 236 96 [vA 200, vI x1, vI x2, vI x3, vI x4, vI x5] [vI s0] S M Q := by
  refine WP.gt 0 96 8 (0, 0, 0, 0) _ 104 rfl rfl ?_
  show WP PR (d + 1) 236 104 [vA 200, vI x1, vI x2, vI x3, vI x4, vI x5] [vI s0] S M Q
  refine WP.ca 3 112 109 (.invokevirtual 150) (0, 139, 0, 0) rfl ?_
  exact ⟨rfl, rfl, rfl, lo200 L, rfl, k⟩
set_option maxRecDepth 100000 in
theorem b_X9_byPlan_99 {d : Nat} {S : mSh} {M : mMem} {Q : Option mV → mSh → mMem → Prop} {x1 x2 x3 x4 x5 : Int} (L : Lay S) (k : WP PR d 150 0 [vA 200, vI x3, vU, vU, vU] [] S M (fun r S2 M2 => WP PR (d + 1) 236 104 [vA 200, vI x1, vI x2, vI x3, vI x4, vI x5] (r.toList ++ []) S2 M2 Q)) : WP PR (d + 1) 236 99 [vA 200, vI x1, vI x2, vI x3, vI x4, vI x5] [] S M Q := by
  refine WP.ca 2 104 101 (.invokevirtual 188) (0, 150, 0, 0) rfl ?_
  exact ⟨rfl, rfl, rfl, lo200 L, rfl, k⟩
set_option maxRecDepth 100000 in
theorem b_X9_byPlan_104 {d : Nat} {S : mSh} {M : mMem} {Q : Option mV → mSh → mMem → Prop} {x1 x2 x3 x4 x5 s0 : Int} (L : Lay S) (k : WP PR d 139 0 [vA 200, vI 16, vU] [] S M (fun r S2 M2 => WP PR (d + 1) 236 112 [vA 200, vI x1, vI x2, vI x3, vI x4, vI s0] (r.toList ++ []) S2 M2 Q)) : WP PR (d + 1) 236 104 [vA 200, vI x1, vI x2, vI x3, vI x4, vI x5] [vI s0] S M Q := by
  refine WP.ca 3 112 109 (.invokevirtual 150) (0, 139, 0, 0) rfl ?_
  exact ⟨rfl, rfl, rfl, lo200 L, rfl, k⟩
set_option maxRecDepth 100000 in
theorem b_X9_byPlan_112 {d : Nat} {S : mSh} {M : mMem} {Q : Option mV → mSh → mMem → Prop} {x1 x2 x3 x4 x5 : Int} (k : Q (some (vI x5)) S M) : WP PR d 236 112 [vA 200, vI x1, vI x2, vI x3, vI x4, vI x5] [] S M Q := by
  refine WP.re 1 114 .ireturn (0, 0, 0, 0) _ rfl ?_
  exact ⟨rfl, rfl, trivial, k⟩
/-- SoleraCellarModel.oldEnough(III)I -/
abbrev e_X9_oldEnough (d : Nat) (a1 a2 a3 : Int) (S : mSh) (M : mMem) (Q : Option mV → mSh → mMem → Prop) : Prop := WP PR d 237 0 [vA 200, vI a1, vI a2, vI a3, vU] [] S M Q
set_option maxRecDepth 100000 in
theorem b_X9_oldEnough_0 {d : Nat} {S : mSh} {M : mMem} {Q : Option mV → mSh → mMem → Prop} {x1 x2 x3 : Int} (L : Lay S) (k : WP PR d 223 0 [vA 200, vI x1] [] S (up M 200 0 0) (fun r S2 M2 => WP PR (d + 1) 237 10 [vA 200, vI x1, vI x2, vI x3, vU] (r.toList ++ []) S2 M2 Q)) : WP PR (d + 1) 237 0 [vA 200, vI x1, vI x2, vI x3, vU] [] S M Q := by
  refine WP.ca 5 10 7 (.invokevirtual 525) (0, 223, 0, 0) rfl ?_
  exact And.intro (lo200 L) (⟨rfl, rfl, rfl, lo200 L, rfl, k⟩)
set_option maxRecDepth 100000 in
theorem b_X9_oldEnough_10 {d : Nat} {S : mSh} {M : mMem} {Q : Option mV → mSh → mMem → Prop} {x1 x2 x3 s0 : Int} {u4 : mV} (kt : s0 = 0 → WP PR d 237 33 [vA 200, vI x1, vI x2, vI x3, u4] [] S M Q) (kf : ¬ s0 = 0 → WP PR d 237 13 [vA 200, vI x1, vI x2, vI x3, u4] [] S M Q) : WP PR d 237 10 [vA 200, vI x1, vI x2, vI x3, u4] [vI s0] S M Q := by
  refine WP.if0 0 13 10 .eq 23 (0, 0, 0, 0) 33 rfl rfl ?_
  exact ⟨kt, fun hc => kf hc⟩
set_option maxRecDepth 100000 in
theorem b_X9_oldEnough_13 {d : Nat} {S : mSh} {M : mMem} {Q : Option mV → mSh → mMem → Prop} {x1 x2 x3 : Int} {u4 : mV} (L : Lay S) (k : WP PR d 144 0 [vA 200, vI x2] [] S M (fun r S2 M2 => WP PR (d + 1) 237 18 [vA 200, vI x1, vI x2, vI x3, u4] (r.toList ++ []) S2 M2 Q)) : WP PR (d + 1) 237 13 [vA 200, vI x1, vI x2, vI x3, u4] [] S M Q := by
  refine WP.ca 2 18 15 (.invokevirtual 184) (0, 144, 0, 0) rfl ?_
  exact ⟨rfl, rfl, rfl, lo200 L, rfl, k⟩
set_option maxRecDepth 100000 in
theorem b_X9_oldEnough_18 {d : Nat} {S : mSh} {M : mMem} {Q : Option mV → mSh → mMem → Prop} {x1 x2 x3 s0 : Int} {u4 : mV} (kt : s0 = 0 → WP PR d 237 33 [vA 200, vI x1, vI x2, vI x3, u4] [] S M Q) (kf : ¬ s0 = 0 → WP PR d 237 21 [vA 200, vI x1, vI x2, vI x3, u4] [] S M Q) : WP PR d 237 18 [vA 200, vI x1, vI x2, vI x3, u4] [vI s0] S M Q := by
  refine WP.if0 0 21 18 .eq 15 (0, 0, 0, 0) 33 rfl rfl ?_
  exact ⟨kt, fun hc => kf hc⟩
set_option maxRecDepth 100000 in
theorem b_X9_oldEnough_21 {d : Nat} {S : mSh} {M : mMem} {Q : Option mV → mSh → mMem → Prop} {x1 x2 x3 : Int} {u4 : mV} (k : WP PR d 132 0 [vL x3, vU, vL 0, vU, vL 19000, vU] [] S M (fun r S2 M2 => WP PR (d + 1) 237 30 [vA 200, vI x1, vI x2, vI x3, u4] (r.toList ++ []) S2 M2 Q)) : WP PR (d + 1) 237 21 [vA 200, vI x1, vI x2, vI x3, u4] [] S M Q := by
  refine WP.ca 4 30 27 (.invokestatic 153) (0, 132, 0, 0) rfl ?_
  exact ⟨rfl, rfl, rfl, trivial, rfl, k⟩
set_option maxRecDepth 100000 in
theorem b_X9_oldEnough_30 {d : Nat} {S : mSh} {M : mMem} {Q : Option mV → mSh → mMem → Prop} {x1 x2 x3 s0 : Int} {u4 : mV} (kt : ¬ s0 = 0 → WP PR d 237 35 [vA 200, vI x1, vI x2, vI x3, u4] [] S M Q) (kf : s0 = 0 → WP PR d 237 33 [vA 200, vI x1, vI x2, vI x3, u4] [] S M Q) : WP PR d 237 30 [vA 200, vI x1, vI x2, vI x3, u4] [vI s0] S M Q := by
  refine WP.if0 0 33 30 .ne 5 (0, 0, 0, 0) 35 rfl rfl ?_
  exact ⟨kt, fun hc => kf (Decidable.not_not.mp hc)⟩
set_option maxRecDepth 100000 in
theorem b_X9_oldEnough_33 {d : Nat} {S : mSh} {M : mMem} {Q : Option mV → mSh → mMem → Prop} {x1 x2 x3 : Int} {u4 : mV} (k : Q (some (vI (-1))) S M) : WP PR d 237 33 [vA 200, vI x1, vI x2, vI x3, u4] [] S M Q := by
  refine WP.re 1 34 .ireturn (0, 0, 0, 0) _ rfl ?_
  exact ⟨rfl, rfl, trivial, k⟩
set_option maxRecDepth 100000 in
theorem b_X9_oldEnough_35 {d : Nat} {S : mSh} {M : mMem} {Q : Option mV → mSh → mMem → Prop} {x1 x2 x3 : Int} {u4 : mV} (L : Lay S) (k : WP PR d 235 0 [vA 200, vI x1] [] S M (fun r S2 M2 => WP PR (d + 1) 237 40 [vA 200, vI x1, vI x2, vI x3, u4] (r.toList ++ []) S2 M2 Q)) : WP PR (d + 1) 237 35 [vA 200, vI x1, vI x2, vI x3, u4] [] S M Q := by
  refine WP.ca 2 40 37 (.invokevirtual 532) (0, 235, 0, 0) rfl ?_
  exact ⟨rfl, rfl, rfl, lo200 L, rfl, k⟩
set_option maxRecDepth 100000 in
theorem b_X9_oldEnough_40 {d : Nat} {S : mSh} {M : mMem} {Q : Option mV → mSh → mMem → Prop} {x1 x2 x3 : Int} {u4 : mV} (k : WP PR d 237 43 [vA 200, vI x1, vI x2, vI x3, vI 0] [] S M Q) : WP PR d 237 40 [vA 200, vI x1, vI x2, vI x3, u4] [] S M Q := by
  refine WP.bl 2 43 rfl ?_
  exact k
set_option maxRecDepth 100000 in
theorem b_X9_oldEnough_43 {d : Nat} {S : mSh} {M : mMem} {Q : Option mV → mSh → mMem → Prop} {x1 x2 x3 x4 : Int} (kt : 60 < x4 → WP PR d 237 69 [vA 200, vI x1, vI x2, vI x3, vI x4] [] S M Q) (kf : x4 ≤ 60 → WP PR d 237 50 [vA 200, vI x1, vI x2, vI x3, vI x4] [] S M Q) : WP PR d 237 43 [vA 200, vI x1, vI x2, vI x3, vI x4] [] S M Q := by
  refine WP.if2 2 50 47 .gt 22 (0, 0, 0, 0) 69 rfl rfl ?_
  exact ⟨kt, fun hc => kf (Int.not_lt.mp hc)⟩
set_option maxRecDepth 100000 in
theorem b_X9_oldEnough_50 {d : Nat} {S : mSh} {M : mMem} {Q : Option mV → mSh → mMem → Prop} {x1 x2 x3 x4 : Int} (L : Lay S) (k : WP PR d 147 0 [vA 200, vI x2, vU, vU, vU] [] S M (fun r S2 M2 => WP PR (d + 1) 237 55 [vA 200, vI x1, vI x2, vI x3, vI x4] (r.toList ++ []) S2 M2 Q)) : WP PR (d + 1) 237 50 [vA 200, vI x1, vI x2, vI x3, vI x4] [] S M Q := by
  refine WP.ca 2 55 52 (.invokevirtual 169) (0, 147, 0, 0) rfl ?_
  exact ⟨rfl, rfl, rfl, lo200 L, rfl, k⟩
set_option maxRecDepth 100000 in
theorem b_X9_oldEnough_55 {d : Nat} {S : mSh} {M : mMem} {Q : Option mV → mSh → mMem → Prop} {x1 x2 x3 x4 s0 : Int} (kt : x3 ≤ s0 → WP PR d 237 69 [vA 200, vI x1, vI x2, vI x3, vI x4] [] S M Q) (kf : s0 < x3 → WP PR d 237 59 [vA 200, vI x1, vI x2, vI x3, vI x4] [] S M Q) : WP PR d 237 55 [vA 200, vI x1, vI x2, vI x3, vI x4] [vI s0] S M Q := by
  refine WP.if2 1 59 56 .ge 13 (0, 0, 0, 0) 69 rfl rfl ?_
  exact ⟨kt, fun hc => kf (Int.not_le.mp hc)⟩
set_option maxRecDepth 100000 in
theorem b_X9_oldEnough_59 {d : Nat} {S : mSh} {M : mMem} {Q : Option mV → mSh → mMem → Prop} {x1 x2 x3 x4 : Int} (L : Lay S) (k : WP PR d 234 0 [vA 200, vU, vU, vU] [] S M (fun r S2 M2 => WP PR (d + 1) 237 63 [vA 200, vI x1, vI x2, vI x3, vI x4] (r.toList ++ []) S2 M2 Q)) : WP PR (d + 1) 237 59 [vA 200, vI x1, vI x2, vI x3, vI x4] [] S M Q := by
  refine WP.ca 1 63 60 (.invokevirtual 535) (0, 234, 0, 0) rfl ?_
  exact ⟨rfl, rfl, rfl, lo200 L, rfl, k⟩
set_option maxRecDepth 100000 in
theorem b_X9_oldEnough_63 {d : Nat} {S : mSh} {M : mMem} {Q : Option mV → mSh → mMem → Prop} {x1 x2 x3 x4 : Int} (hc : R32 (x4 + 1)) (k : WP PR d 237 43 [vA 200, vI x1, vI x2, vI x3, vI (x4 + 1)] [] S M Q) : WP PR d 237 63 [vA 200, vI x1, vI x2, vI x3, vI x4] [] S M Q := by
  refine WP.gt 1 66 (-23) (0, 0, 0, 0) _ 43 rfl rfl ?_
  exact And.intro (hc) (k)
set_option maxRecDepth 100000 in
theorem b_X9_oldEnough_69 {d : Nat} {S : mSh} {M : mMem} {Q : Option mV → mSh → mMem → Prop} {x1 x2 x3 x4 : Int} (L : Lay S) (k : WP PR d 139 0 [vA 200, vI 16, vU] [] S M (fun r S2 M2 => WP PR (d + 1) 237 75 [vA 200, vI x1, vI x2, vI x3, vI x4] (r.toList ++ []) S2 M2 Q)) : WP PR (d + 1) 237 69 [vA 200, vI x1, vI x2, vI x3, vI x4] [] S M Q := by
  refine WP.ca 2 75 72 (.invokevirtual 150) (0, 139, 0, 0) rfl ?_
  exact ⟨rfl, rfl, rfl, lo200 L, rfl, k⟩
set_option maxRecDepth 100000 in
theorem b_X9_oldEnough_75 {d : Nat} {S : mSh} {M : mMem} {Q : Option mV → mSh → mMem → Prop} {x1 x2 x3 x4 : Int} (kt : x4 ≤ 60 → WP PR d 237 86 [vA 200, vI x1, vI x2, vI x3, vI x4] [] S M Q) (kf : 60 < x4 → WP PR d 237 82 [vA 200, vI x1, vI x2, vI x3, vI x4] [] S M Q) : WP PR d 237 75 [vA 200, vI x1, vI x2, vI x3, vI x4] [] S M Q := by
  refine WP.if2 2 82 79 .le 7 (0, 0, 0, 0) 86 rfl rfl ?_
  exact ⟨kt, fun hc => kf (Int.not_le.mp hc)⟩
set_option maxRecDepth 100000 in
theorem b_X9_oldEnough_82 {d : Nat} {S : mSh} {M : mMem} {Q : Option mV → mSh → mMem → Prop} {x1 x2 x3 x4 : Int} (k : Q (some (vI (-1))) S M) : WP PR d 237 82 [vA 200, vI x1, vI x2, vI x3, vI x4] [] S M Q := by
  refine WP.gt 1 83 5 (0, 0, 0, 0) _ 88 rfl rfl ?_
  show WP PR d 237 88 [vA 200, vI x1, vI x2, vI x3, vI x4] [vI (-1)] S M Q
  refine WP.re 0 88 .ireturn (0, 0, 0, 0) _ rfl ?_
  exact ⟨rfl, rfl, trivial, k⟩
set_option maxRecDepth 100000 in
theorem b_X9_oldEnough_86 {d : Nat} {S : mSh} {M : mMem} {Q : Option mV → mSh → mMem → Prop} {x1 x2 x3 x4 : Int} (k : Q (some (vI x4)) S M) : WP PR d 237 86 [vA 200, vI x1, vI x2, vI x3, vI x4] [] S M Q := by
  refine WP.re 1 88 .ireturn (0, 0, 0, 0) _ rfl ?_
  exact ⟨rfl, rfl, trivial, k⟩
/-- SoleraCellarModel.settled(II)I -/
abbrev e_X9_settled (d : Nat) (a1 a2 : Int) (S : mSh) (M : mMem) (Q : Option mV → mSh → mMem → Prop) : Prop := WP PR d 238 0 [vA 200, vI a1, vI a2, vU, vU, vU] [] S M Q
set_option maxRecDepth 100000 in
theorem b_X9_settled_0 {d : Nat} {S : mSh} {M : mMem} {Q : Option mV → mSh → mMem → Prop} {x1 x2 : Int} (L : Lay S) (k : WP PR d 223 0 [vA 200, vI x1] [] S (up M 200 0 0) (fun r S2 M2 => WP PR (d + 1) 238 10 [vA 200, vI x1, vI x2, vU, vU, vU] (r.toList ++ []) S2 M2 Q)) : WP PR (d + 1) 238 0 [vA 200, vI x1, vI x2, vU, vU, vU] [] S M Q := by
  refine WP.ca 5 10 7 (.invokevirtual 525) (0, 223, 0, 0) rfl ?_
  exact And.intro (lo200 L) (⟨rfl, rfl, rfl, lo200 L, rfl, k⟩)
set_option maxRecDepth 100000 in
theorem b_X9_settled_10 {d : Nat} {S : mSh} {M : mMem} {Q : Option mV → mSh → mMem → Prop} {x1 x2 s0 : Int} {u3 u4 u5 : mV} (kt : s0 = 0 → WP PR d 238 21 [vA 200, vI x1, vI x2, u3, u4, u5] [] S M Q) (kf : ¬ s0 = 0 → WP PR d 238 13 [vA 200, vI x1, vI x2, u3, u4, u5] [] S M Q) : WP PR d 238 10 [vA 200, vI x1, vI x2, u3, u4, u5] [vI s0] S M Q := by
  refine WP.if0 0 13 10 .eq 11 (0, 0, 0, 0) 21 rfl rfl ?_
  exact ⟨kt, fun hc => kf hc⟩
set_option maxRecDepth 100000 in
theorem b_X9_settled_13 {d : Nat} {S : mSh} {M : mMem} {Q : Option mV → mSh → mMem → Prop} {x1 x2 : Int} {u3 u4 u5 : mV} (L : Lay S) (k : WP PR d 144 0 [vA 200, vI x2] [] S M (fun r S2 M2 => WP PR (d + 1) 238 18 [vA 200, vI x1, vI x2, u3, u4, u5] (r.toList ++ []) S2 M2 Q)) : WP PR (d + 1) 238 13 [vA 200, vI x1, vI x2, u3, u4, u5] [] S M Q := by
  refine WP.ca 2 18 15 (.invokevirtual 184) (0, 144, 0, 0) rfl ?_
  exact ⟨rfl, rfl, rfl, lo200 L, rfl, k⟩
set_option maxRecDepth 100000 in
theorem b_X9_settled_18 {d : Nat} {S : mSh} {M : mMem} {Q : Option mV → mSh → mMem → Prop} {x1 x2 s0 : Int} {u3 u4 u5 : mV} (kt : ¬ s0 = 0 → WP PR d 238 23 [vA 200, vI x1, vI x2, u3, u4, u5] [] S M Q) (kf : s0 = 0 → WP PR d 238 21 [vA 200, vI x1, vI x2, u3, u4, u5] [] S M Q) : WP PR d 238 18 [vA 200, vI x1, vI x2, u3, u4, u5] [vI s0] S M Q := by
  refine WP.if0 0 21 18 .ne 5 (0, 0, 0, 0) 23 rfl rfl ?_
  exact ⟨kt, fun hc => kf (Decidable.not_not.mp hc)⟩
set_option maxRecDepth 100000 in
theorem b_X9_settled_21 {d : Nat} {S : mSh} {M : mMem} {Q : Option mV → mSh → mMem → Prop} {x1 x2 : Int} {u3 u4 u5 : mV} (k : Q (some (vI (-1))) S M) : WP PR d 238 21 [vA 200, vI x1, vI x2, u3, u4, u5] [] S M Q := by
  refine WP.re 1 22 .ireturn (0, 0, 0, 0) _ rfl ?_
  exact ⟨rfl, rfl, trivial, k⟩
set_option maxRecDepth 100000 in
theorem b_X9_settled_23 {d : Nat} {S : mSh} {M : mMem} {Q : Option mV → mSh → mMem → Prop} {x1 x2 : Int} {u3 u4 u5 : mV} (L : Lay S) (k : WP PR d 235 0 [vA 200, vI x1] [] S M (fun r S2 M2 => WP PR (d + 1) 238 28 [vA 200, vI x1, vI x2, u3, u4, u5] (r.toList ++ []) S2 M2 Q)) : WP PR (d + 1) 238 23 [vA 200, vI x1, vI x2, u3, u4, u5] [] S M Q := by
  refine WP.ca 2 28 25 (.invokevirtual 532) (0, 235, 0, 0) rfl ?_
  exact ⟨rfl, rfl, rfl, lo200 L, rfl, k⟩
set_option maxRecDepth 100000 in
theorem b_X9_settled_28 {d : Nat} {S : mSh} {M : mMem} {Q : Option mV → mSh → mMem → Prop} {x1 x2 : Int} {u3 u4 u5 : mV} (k : WP PR d 238 33 [vA 200, vI x1, vI x2, vI (-1), vI 0, u5] [] S M Q) : WP PR d 238 28 [vA 200, vI x1, vI x2, u3, u4, u5] [] S M Q := by
  refine WP.bl 4 33 rfl ?_
  exact k
set_option maxRecDepth 100000 in
theorem b_X9_settled_33 {d : Nat} {S : mSh} {M : mMem} {Q : Option mV → mSh → mMem → Prop} {x1 x2 x3 x4 : Int} {u5 : mV} (kt : 60 ≤ x4 → WP PR d 238 85 [vA 200, vI x1, vI x2, vI x3, vI x4, u5] [] S M Q) (kf : x4 < 60 → WP PR d 238 40 [vA 200, vI x1, vI x2, vI x3, vI x4, u5] [] S M Q) : WP PR d 238 33 [vA 200, vI x1, vI x2, vI x3, vI x4, u5] [] S M Q := by
  refine WP.if2 2 40 37 .ge 48 (0, 0, 0, 0) 85 rfl rfl ?_
  exact ⟨kt, fun hc => kf (Int.not_le.mp hc)⟩
set_option maxRecDepth 100000 in
theorem b_X9_settled_40 {d : Nat} {S : mSh} {M : mMem} {Q : Option mV → mSh → mMem → Prop} {x1 x2 x3 x4 : Int} {u5 : mV} (kt : ¬ x3 = (-1) → WP PR d 238 85 [vA 200, vI x1, vI x2, vI x3, vI x4, u5] [] S M Q) (kf : x3 = (-1) → WP PR d 238 45 [vA 200, vI x1, vI x2, vI x3, vI x4, u5] [] S M Q) : WP PR d 238 40 [vA 200, vI x1, vI x2, vI x3, vI x4, u5] [] S M Q := by
  refine WP.if2 2 45 42 .ne 43 (0, 0, 0, 0) 85 rfl rfl ?_
  exact ⟨kt, fun hc => kf (Decidable.not_not.mp hc)⟩
set_option maxRecDepth 100000 in
theorem b_X9_settled_45 {d : Nat} {S : mSh} {M : mMem} {Q : Option mV → mSh → mMem → Prop} {x1 x2 x3 x4 : Int} {u5 : mV} (L : Lay S) (k : WP PR d 147 0 [vA 200, vI x2, vU, vU, vU] [] S M (fun r S2 M2 => WP PR (d + 1) 238 50 [vA 200, vI x1, vI x2, vI x3, vI x4, u5] (r.toList ++ []) S2 M2 Q)) : WP PR (d + 1) 238 45 [vA 200, vI x1, vI x2, vI x3, vI x4, u5] [] S M Q := by
  refine WP.ca 2 50 47 (.invokevirtual 169) (0, 147, 0, 0) rfl ?_
  exact ⟨rfl, rfl, rfl, lo200 L, rfl, k⟩
set_option maxRecDepth 100000 in
theorem b_X9_settled_50 {d : Nat} {S : mSh} {M : mMem} {Q : Option mV → mSh → mMem → Prop} {x1 x2 x3 x4 s0 : Int} {u5 : mV} (L : Lay S) (k : WP PR d 234 0 [vA 200, vU, vU, vU] [] S M (fun r S2 M2 => WP PR (d + 1) 238 56 [vA 200, vI x1, vI x2, vI x3, vI x4, vI s0] (r.toList ++ []) S2 M2 Q)) : WP PR (d + 1) 238 50 [vA 200, vI x1, vI x2, vI x3, vI x4, u5] [vI s0] S M Q := by
  refine WP.ca 2 56 53 (.invokevirtual 535) (0, 234, 0, 0) rfl ?_
  exact ⟨rfl, rfl, rfl, lo200 L, rfl, k⟩
set_option maxRecDepth 100000 in
theorem b_X9_settled_56 {d : Nat} {S : mSh} {M : mMem} {Q : Option mV → mSh → mMem → Prop} {x1 x2 x3 x4 x5 : Int} (kt : x5 = (-1) → WP PR d 238 77 [vA 200, vI x1, vI x2, vI x3, vI x4, vI x5] [] S M Q) (kf : ¬ x5 = (-1) → WP PR d 238 62 [vA 200, vI x1, vI x2, vI x3, vI x4, vI x5] [] S M Q) : WP PR d 238 56 [vA 200, vI x1, vI x2, vI x3, vI x4, vI x5] [] S M Q := by
  refine WP.if2 2 62 59 .eq 18 (0, 0, 0, 0) 77 rfl rfl ?_
  exact ⟨kt, fun hc => kf hc⟩
set_option maxRecDepth 100000 in
theorem b_X9_settled_62 {d : Nat} {S : mSh} {M : mMem} {Q : Option mV → mSh → mMem → Prop} {x1 x2 x3 x4 x5 : Int} (L : Lay S) (k : WP PR d 147 0 [vA 200, vI x2, vU, vU, vU] [] S M (fun r S2 M2 => WP PR (d + 1) 238 67 [vA 200, vI x1, vI x2, vI x3, vI x4, vI x5] (r.toList ++ []) S2 M2 Q)) : WP PR (d + 1) 238 62 [vA 200, vI x1, vI x2, vI x3, vI x4, vI x5] [] S M Q := by
  refine WP.ca 2 67 64 (.invokevirtual 169) (0, 147, 0, 0) rfl ?_
  exact ⟨rfl, rfl, rfl, lo200 L, rfl, k⟩
set_option maxRecDepth 100000 in
theorem b_X9_settled_67 {d : Nat} {S : mSh} {M : mMem} {Q : Option mV → mSh → mMem → Prop} {x1 x2 x3 x4 x5 s0 : Int} (kt : ¬ s0 = x5 → WP PR d 238 77 [vA 200, vI x1, vI x2, vI x3, vI x4, vI x5] [] S M Q) (kf : s0 = x5 → WP PR d 238 72 [vA 200, vI x1, vI x2, vI x3, vI x4, vI x5] [] S M Q) : WP PR d 238 67 [vA 200, vI x1, vI x2, vI x3, vI x4, vI x5] [vI s0] S M Q := by
  refine WP.if2 1 72 69 .ne 8 (0, 0, 0, 0) 77 rfl rfl ?_
  exact ⟨kt, fun hc => kf (Decidable.not_not.mp hc)⟩
set_option maxRecDepth 100000 in
theorem b_X9_settled_72 {d : Nat} {S : mSh} {M : mMem} {Q : Option mV → mSh → mMem → Prop} {x1 x2 x3 x4 x5 : Int} (hc : R32 (x4 + 1)) (k : WP PR d 238 33 [vA 200, vI x1, vI x2, vI x4, vI (x4 + 1), vI x5] [] S M Q) : WP PR d 238 72 [vA 200, vI x1, vI x2, vI x3, vI x4, vI x5] [] S M Q := by
  refine WP.gt 1 74 4 (0, 0, 0, 0) _ 78 rfl rfl ?_
  show WP PR d 238 78 [vA 200, vI x1, vI x2, vI x3, vI x4, vI x5] [vI x4] S M Q
  refine WP.gt 2 82 (-49) (0, 0, 0, 0) _ 33 rfl rfl ?_
  exact And.intro (hc) (k)
set_option maxRecDepth 100000 in
theorem b_X9_settled_77 {d : Nat} {S : mSh} {M : mMem} {Q : Option mV → mSh → mMem → Prop} {x1 x2 x3 x4 x5 : Int} (hc : R32 (x4 + 1)) (k : WP PR d 238 33 [vA 200, vI x1, vI x2, vI x3, vI (x4 + 1), vI x5] [] S M Q) : WP PR d 238 77 [vA 200, vI x1, vI x2, vI x3, vI x4, vI x5] [] S M Q := by
  refine WP.gt 3 82 (-49) (0, 0, 0, 0) _ 33 rfl rfl ?_
  exact And.intro (hc) (k)
set_option maxRecDepth 100000 in
theorem b_X9_settled_85 {d : Nat} {S : mSh} {M : mMem} {Q : Option mV → mSh → mMem → Prop} {x1 x2 x3 x4 : Int} {u5 : mV} (L : Lay S) (k : WP PR d 139 0 [vA 200, vI 16, vU] [] S M (fun r S2 M2 => WP PR (d + 1) 238 91 [vA 200, vI x1, vI x2, vI x3, vI x4, u5] (r.toList ++ []) S2 M2 Q)) : WP PR (d + 1) 238 85 [vA 200, vI x1, vI x2, vI x3, vI x4, u5] [] S M Q := by
  refine WP.ca 2 91 88 (.invokevirtual 150) (0, 139, 0, 0) rfl ?_
  exact ⟨rfl, rfl, rfl, lo200 L, rfl, k⟩
set_option maxRecDepth 100000 in
theorem b_X9_settled_91 {d : Nat} {S : mSh} {M : mMem} {Q : Option mV → mSh → mMem → Prop} {x1 x2 x3 x4 : Int} {u5 : mV} (k : Q (some (vI x3)) S M) : WP PR d 238 91 [vA 200, vI x1, vI x2, vI x3, vI x4, u5] [] S M Q := by
  refine WP.re 1 92 .ireturn (0, 0, 0, 0) _ rfl ?_
  exact ⟨rfl, rfl, trivial, k⟩
