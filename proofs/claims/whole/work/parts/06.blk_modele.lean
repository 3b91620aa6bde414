/-- SoleraCellarModel.starves(I)I -/
abbrev e_X9_starves (d : Nat) (a1 : Int) (S : mSh) (M : mMem) (Q : Option mV → mSh → mMem → Prop) : Prop := WP PR d 239 0 [vA 200, vI a1, vU, vU] [] S M Q
set_option maxRecDepth 100000 in
theorem b_X9_starves_0 {d : Nat} {S : mSh} {M : mMem} {Q : Option mV → mSh → mMem → Prop} {x1 : Int} (L : Lay S) (k : WP PR d 223 0 [vA 200, vI x1] [] S (up M 200 0 0) (fun r S2 M2 => WP PR (d + 1) 239 10 [vA 200, vI x1, vU, vU] (r.toList ++ []) S2 M2 Q)) : WP PR (d + 1) 239 0 [vA 200, vI x1, vU, vU] [] S M Q := by
  refine WP.ca 5 10 7 (.invokevirtual 525) (0, 223, 0, 0) rfl ?_
  exact And.intro (lo200 L) (⟨rfl, rfl, rfl, lo200 L, rfl, k⟩)
set_option maxRecDepth 100000 in
theorem b_X9_starves_10 {d : Nat} {S : mSh} {M : mMem} {Q : Option mV → mSh → mMem → Prop} {x1 s0 : Int} {u2 u3 : mV} (kt : ¬ s0 = 0 → WP PR d 239 15 [vA 200, vI x1, u2, u3] [] S M Q) (kf : s0 = 0 → WP PR d 239 13 [vA 200, vI x1, u2, u3] [] S M Q) : WP PR d 239 10 [vA 200, vI x1, u2, u3] [vI s0] S M Q := by
  refine WP.if0 0 13 10 .ne 5 (0, 0, 0, 0) 15 rfl rfl ?_
  exact ⟨kt, fun hc => kf (Decidable.not_not.mp hc)⟩
set_option maxRecDepth 100000 in
theorem b_X9_starves_13 {d : Nat} {S : mSh} {M : mMem} {Q : Option mV → mSh → mMem → Prop} {x1 : Int} {u2 u3 : mV} (k : Q (some (vI (-1))) S M) : WP PR d 239 13 [vA 200, vI x1, u2, u3] [] S M Q := by
  refine WP.re 1 14 .ireturn (0, 0, 0, 0) _ rfl ?_
  exact ⟨rfl, rfl, trivial, k⟩
set_option maxRecDepth 100000 in
theorem b_X9_starves_15 {d : Nat} {S : mSh} {M : mMem} {Q : Option mV → mSh → mMem → Prop} {x1 : Int} {u2 u3 : mV} (L : Lay S) (k : WP PR d 235 0 [vA 200, vI x1] [] S M (fun r S2 M2 => WP PR (d + 1) 239 20 [vA 200, vI x1, u2, u3] (r.toList ++ []) S2 M2 Q)) : WP PR (d + 1) 239 15 [vA 200, vI x1, u2, u3] [] S M Q := by
  refine WP.ca 2 20 17 (.invokevirtual 532) (0, 235, 0, 0) rfl ?_
  exact ⟨rfl, rfl, rfl, lo200 L, rfl, k⟩
set_option maxRecDepth 100000 in
theorem b_X9_starves_20 {d : Nat} {S : mSh} {M : mMem} {Q : Option mV → mSh → mMem → Prop} {x1 : Int} {u2 u3 : mV} (k : WP PR d 239 24 [vA 200, vI x1, vI (-1), vI 0] [] S M Q) : WP PR d 239 20 [vA 200, vI x1, u2, u3] [] S M Q := by
  refine WP.bl 4 24 rfl ?_
  exact k
set_option maxRecDepth 100000 in
theorem b_X9_starves_24 {d : Nat} {S : mSh} {M : mMem} {Q : Option mV → mSh → mMem → Prop} {x1 x2 x3 : Int} (kt : 60 ≤ x3 → WP PR d 239 58 [vA 200, vI x1, vI x2, vI x3] [] S M Q) (kf : x3 < 60 → WP PR d 239 30 [vA 200, vI x1, vI x2, vI x3] [] S M Q) : WP PR d 239 24 [vA 200, vI x1, vI x2, vI x3] [] S M Q := by
  refine WP.if2 2 30 27 .ge 31 (0, 0, 0, 0) 58 rfl rfl ?_
  exact ⟨kt, fun hc => kf (Int.not_le.mp hc)⟩
set_option maxRecDepth 100000 in
theorem b_X9_starves_30 {d : Nat} {S : mSh} {M : mMem} {Q : Option mV → mSh → mMem → Prop} {x1 x2 x3 : Int} (kt : ¬ x2 = (-1) → WP PR d 239 58 [vA 200, vI x1, vI x2, vI x3] [] S M Q) (kf : x2 = (-1) → WP PR d 239 35 [vA 200, vI x1, vI x2, vI x3] [] S M Q) : WP PR d 239 30 [vA 200, vI x1, vI x2, vI x3] [] S M Q := by
  refine WP.if2 2 35 32 .ne 26 (0, 0, 0, 0) 58 rfl rfl ?_
  exact ⟨kt, fun hc => kf (Decidable.not_not.mp hc)⟩
set_option maxRecDepth 100000 in
theorem b_X9_starves_35 {d : Nat} {S : mSh} {M : mMem} {Q : Option mV → mSh → mMem → Prop} {x1 x2 x3 : Int} (L : Lay S) (k : WP PR d 234 0 [vA 200, vU, vU, vU] [] S M (fun r S2 M2 => WP PR (d + 1) 239 39 [vA 200, vI x1, vI x2, vI x3] (r.toList ++ []) S2 M2 Q)) : WP PR (d + 1) 239 35 [vA 200, vI x1, vI x2, vI x3] [] S M Q := by
  refine WP.ca 1 39 36 (.invokevirtual 535) (0, 234, 0, 0) rfl ?_
  exact ⟨rfl, rfl, rfl, lo200 L, rfl, k⟩
set_option maxRecDepth 100000 in
theorem b_X9_starves_39 {d : Nat} {S : mSh} {M : mMem} {Q : Option mV → mSh → mMem → Prop} {x1 x2 x3 : Int} (L : Lay S) (kt : M 200 50 = 0 → WP PR d 239 50 [vA 200, vI x1, vI x2, vI x3] [] S M Q) (kf : ¬ M 200 50 = 0 → WP PR d 239 46 [vA 200, vI x1, vI x2, vI x3] [] S M Q) : WP PR d 239 39 [vA 200, vI x1, vI x2, vI x3] [] S M Q := by
  refine WP.if0 2 46 43 .eq 7 (0, 0, 0, 0) 50 rfl rfl ?_
  exact And.intro (lo200 L) (⟨kt, fun hc => kf hc⟩)
set_option maxRecDepth 100000 in
theorem b_X9_starves_46 {d : Nat} {S : mSh} {M : mMem} {Q : Option mV → mSh → mMem → Prop} {x1 x2 x3 : Int} (hc : R32 (x3 + 1)) (k : WP PR d 239 24 [vA 200, vI x1, vI x3, vI (x3 + 1)] [] S M Q) : WP PR d 239 46 [vA 200, vI x1, vI x2, vI x3] [] S M Q := by
  refine WP.gt 1 47 4 (0, 0, 0, 0) _ 51 rfl rfl ?_
  show WP PR d 239 51 [vA 200, vI x1, vI x2, vI x3] [vI x3] S M Q
  refine WP.gt 2 55 (-31) (0, 0, 0, 0) _ 24 rfl rfl ?_
  exact And.intro (hc) (k)
set_option maxRecDepth 100000 in
theorem b_X9_starves_50 {d : Nat} {S : mSh} {M : mMem} {Q : Option mV → mSh → mMem → Prop} {x1 x2 x3 : Int} (hc : R32 (x3 + 1)) (k : WP PR d 239 24 [vA 200, vI x1, vI x2, vI (x3 + 1)] [] S M Q) : WP PR d 239 50 [vA 200, vI x1, vI x2, vI x3] [] S M Q := by
  refine WP.gt 3 55 (-31) (0, 0, 0, 0) _ 24 rfl rfl ?_
  exact And.intro (hc) (k)
set_option maxRecDepth 100000 in
theorem b_X9_starves_58 {d : Nat} {S : mSh} {M : mMem} {Q : Option mV → mSh → mMem → Prop} {x1 x2 x3 : Int} (L : Lay S) (k : WP PR d 139 0 [vA 200, vI 16, vU] [] S M (fun r S2 M2 => WP PR (d + 1) 239 64 [vA 200, vI x1, vI x2, vI x3] (r.toList ++ []) S2 M2 Q)) : WP PR (d + 1) 239 58 [vA 200, vI x1, vI x2, vI x3] [] S M Q := by
  refine WP.ca 2 64 61 (.invokevirtual 150) (0, 139, 0, 0) rfl ?_
  exact ⟨rfl, rfl, rfl, lo200 L, rfl, k⟩
set_option maxRecDepth 100000 in
theorem b_X9_starves_64 {d : Nat} {S : mSh} {M : mMem} {Q : Option mV → mSh → mMem → Prop} {x1 x2 x3 : Int} (k : Q (some (vI x2)) S M) : WP PR d 239 64 [vA 200, vI x1, vI x2, vI x3] [] S M Q := by
  refine WP.re 1 65 .ireturn (0, 0, 0, 0) _ rfl ?_
  exact ⟨rfl, rfl, trivial, k⟩
/-- SoleraCellarModel.yieldOf(II)I -/
abbrev e_X9_yieldOf (d : Nat) (a1 a2 : Int) (S : mSh) (M : mMem) (Q : Option mV → mSh → mMem → Prop) : Prop := WP PR d 240 0 [vA 200, vI a1, vI a2, vU] [] S M Q
set_option maxRecDepth 100000 in
theorem b_X9_yieldOf_0 {d : Nat} {S : mSh} {M : mMem} {Q : Option mV → mSh → mMem → Prop} {x1 x2 : Int} (L : Lay S) (k : WP PR d 235 0 [vA 200, vI x1] [] S M (fun r S2 M2 => WP PR (d + 1) 240 5 [vA 200, vI x1, vI x2, vU] (r.toList ++ []) S2 M2 Q)) : WP PR (d + 1) 240 0 [vA 200, vI x1, vI x2, vU] [] S M Q := by
  refine WP.ca 2 5 2 (.invokevirtual 532) (0, 235, 0, 0) rfl ?_
  exact ⟨rfl, rfl, rfl, lo200 L, rfl, k⟩
set_option maxRecDepth 100000 in
theorem b_X9_yieldOf_5 {d : Nat} {S : mSh} {M : mMem} {Q : Option mV → mSh → mMem → Prop} {x1 x2 : Int} {u3 : mV} (k : WP PR d 240 7 [vA 200, vI x1, vI x2, vI 0] [] S M Q) : WP PR d 240 5 [vA 200, vI x1, vI x2, u3] [] S M Q := by
  refine WP.bl 2 7 rfl ?_
  exact k
set_option maxRecDepth 100000 in
theorem b_X9_yieldOf_7 {d : Nat} {S : mSh} {M : mMem} {Q : Option mV → mSh → mMem → Prop} {x1 x2 x3 : Int} (kt : x2 ≤ x3 → WP PR d 240 22 [vA 200, vI x1, vI x2, vI x3] [] S M Q) (kf : x3 < x2 → WP PR d 240 12 [vA 200, vI x1, vI x2, vI x3] [] S M Q) : WP PR d 240 7 [vA 200, vI x1, vI x2, vI x3] [] S M Q := by
  refine WP.if2 2 12 9 .ge 13 (0, 0, 0, 0) 22 rfl rfl ?_
  exact ⟨kt, fun hc => kf (Int.not_le.mp hc)⟩
set_option maxRecDepth 100000 in
theorem b_X9_yieldOf_12 {d : Nat} {S : mSh} {M : mMem} {Q : Option mV → mSh → mMem → Prop} {x1 x2 x3 : Int} (L : Lay S) (k : WP PR d 234 0 [vA 200, vU, vU, vU] [] S M (fun r S2 M2 => WP PR (d + 1) 240 16 [vA 200, vI x1, vI x2, vI x3] (r.toList ++ []) S2 M2 Q)) : WP PR (d + 1) 240 12 [vA 200, vI x1, vI x2, vI x3] [] S M Q := by
  refine WP.ca 1 16 13 (.invokevirtual 535) (0, 234, 0, 0) rfl ?_
  exact ⟨rfl, rfl, rfl, lo200 L, rfl, k⟩
set_option maxRecDepth 100000 in
theorem b_X9_yieldOf_16 {d : Nat} {S : mSh} {M : mMem} {Q : Option mV → mSh → mMem → Prop} {x1 x2 x3 : Int} (hc : R32 (x3 + 1)) (k : WP PR d 240 7 [vA 200, vI x1, vI x2, vI (x3 + 1)] [] S M Q) : WP PR d 240 16 [vA 200, vI x1, vI x2, vI x3] [] S M Q := by
  refine WP.gt 1 19 (-12) (0, 0, 0, 0) _ 7 rfl rfl ?_
  exact And.intro (hc) (k)
set_option maxRecDepth 100000 in
theorem b_X9_yieldOf_22 {d : Nat} {S : mSh} {M : mMem} {Q : Option mV → mSh → mMem → Prop} {x1 x2 x3 : Int} (L : Lay S) (k : WP PR d 139 0 [vA 200, vI 16, vU] [] S M (fun r S2 M2 => WP PR (d + 1) 240 28 [vA 200, vI x1, vI x2, vI x3] (r.toList ++ []) S2 M2 Q)) : WP PR (d + 1) 240 22 [vA 200, vI x1, vI x2, vI x3] [] S M Q := by
  refine WP.ca 2 28 25 (.invokevirtual 150) (0, 139, 0, 0) rfl ?_
  exact ⟨rfl, rfl, rfl, lo200 L, rfl, k⟩
set_option maxRecDepth 100000 in
theorem b_X9_yieldOf_28 {d : Nat} {S : mSh} {M : mMem} {Q : Option mV → mSh → mMem → Prop} {x1 x2 x3 : Int} (L : Lay S) (k : Q (some (vI (M 200 42))) S M) : WP PR d 240 28 [vA 200, vI x1, vI x2, vI x3] [] S M Q := by
  refine WP.re 2 32 .ireturn (0, 0, 0, 0) _ rfl ?_
  exact And.intro (lo200 L) (⟨rfl, rfl, trivial, k⟩)
/-- SoleraCellarModel.yields(II)I -/
abbrev e_X9_yields (d : Nat) (a1 a2 : Int) (S : mSh) (M : mMem) (Q : Option mV → mSh → mMem → Prop) : Prop := WP PR d 241 0 [vA 200, vI a1, vI a2] [] S M Q
set_option maxRecDepth 100000 in
theorem b_X9_yields_0 {d : Nat} {S : mSh} {M : mMem} {Q : Option mV → mSh → mMem → Prop} {x1 x2 : Int} (L : Lay S) (k : WP PR d 223 0 [vA 200, vI x1] [] S (up M 200 0 0) (fun r S2 M2 => WP PR (d + 1) 241 10 [vA 200, vI x1, vI x2] (r.toList ++ []) S2 M2 Q)) : WP PR (d + 1) 241 0 [vA 200, vI x1, vI x2] [] S M Q := by
  refine WP.ca 5 10 7 (.invokevirtual 525) (0, 223, 0, 0) rfl ?_
  exact And.intro (lo200 L) (⟨rfl, rfl, rfl, lo200 L, rfl, k⟩)
set_option maxRecDepth 100000 in
theorem b_X9_yields_10 {d : Nat} {S : mSh} {M : mMem} {Q : Option mV → mSh → mMem → Prop} {x1 x2 s0 : Int} (kt : s0 = 0 → WP PR d 241 25 [vA 200, vI x1, vI x2] [] S M Q) (kf : ¬ s0 = 0 → WP PR d 241 13 [vA 200, vI x1, vI x2] [] S M Q) : WP PR d 241 10 [vA 200, vI x1, vI x2] [vI s0] S M Q := by
  refine WP.if0 0 13 10 .eq 15 (0, 0, 0, 0) 25 rfl rfl ?_
  exact ⟨kt, fun hc => kf hc⟩
set_option maxRecDepth 100000 in
theorem b_X9_yields_13 {d : Nat} {S : mSh} {M : mMem} {Q : Option mV → mSh → mMem → Prop} {x1 x2 : Int} (k : WP PR d 132 0 [vL x2, vU, vL 0, vU, vL 60, vU] [] S M (fun r S2 M2 => WP PR (d + 1) 241 22 [vA 200, vI x1, vI x2] (r.toList ++ []) S2 M2 Q)) : WP PR (d + 1) 241 13 [vA 200, vI x1, vI x2] [] S M Q := by
  refine WP.ca 4 22 19 (.invokestatic 153) (0, 132, 0, 0) rfl ?_
  exact ⟨rfl, rfl, rfl, trivial, rfl, k⟩
set_option maxRecDepth 100000 in
theorem b_X9_yields_22 {d : Nat} {S : mSh} {M : mMem} {Q : Option mV → mSh → mMem → Prop} {x1 x2 s0 : Int} (kt : ¬ s0 = 0 → WP PR d 241 29 [vA 200, vI x1, vI x2] [] S M Q) (kf : s0 = 0 → WP PR d 241 25 [vA 200, vI x1, vI x2] [] S M Q) : WP PR d 241 22 [vA 200, vI x1, vI x2] [vI s0] S M Q := by
  refine WP.if0 0 25 22 .ne 7 (0, 0, 0, 0) 29 rfl rfl ?_
  exact ⟨kt, fun hc => kf (Decidable.not_not.mp hc)⟩
set_option maxRecDepth 100000 in
theorem b_X9_yields_25 {d : Nat} {S : mSh} {M : mMem} {Q : Option mV → mSh → mMem → Prop} {x1 x2 : Int} (k : Q (some (vI (-1))) S M) : WP PR d 241 25 [vA 200, vI x1, vI x2] [] S M Q := by
  refine WP.gt 1 26 9 (0, 0, 0, 0) _ 35 rfl rfl ?_
  show WP PR d 241 35 [vA 200, vI x1, vI x2] [vI (-1)] S M Q
  refine WP.re 0 35 .ireturn (0, 0, 0, 0) _ rfl ?_
  exact ⟨rfl, rfl, trivial, k⟩
set_option maxRecDepth 100000 in
theorem b_X9_yields_29 {d : Nat} {S : mSh} {M : mMem} {Q : Option mV → mSh → mMem → Prop} {x1 x2 : Int} (L : Lay S) (k : WP PR d 240 0 [vA 200, vI x1, vI x2, vU] [] S M (fun r S2 M2 => WP PR (d + 1) 241 35 [vA 200, vI x1, vI x2] (r.toList ++ []) S2 M2 Q)) : WP PR (d + 1) 241 29 [vA 200, vI x1, vI x2] [] S M Q := by
  refine WP.ca 3 35 32 (.invokevirtual 540) (0, 240, 0, 0) rfl ?_
  exact ⟨rfl, rfl, rfl, lo200 L, rfl, k⟩
set_option maxRecDepth 100000 in
theorem b_X9_yields_35 {d : Nat} {S : mSh} {M : mMem} {Q : Option mV → mSh → mMem → Prop} {x1 x2 s0 : Int} (k : Q (some (vI s0)) S M) : WP PR d 241 35 [vA 200, vI x1, vI x2] [vI s0] S M Q := by
  refine WP.re 0 35 .ireturn (0, 0, 0, 0) _ rfl ?_
  exact ⟨rfl, rfl, trivial, k⟩
/-- SoleraCellarModel.best(II)I -/
abbrev e_X9_best (d : Nat) (a1 a2 : Int) (S : mSh) (M : mMem) (Q : Option mV → mSh → mMem → Prop) : Prop := WP PR d 242 0 [vA 200, vI a1, vI a2, vU, vU, vU, vU, vU] [] S M Q
set_option maxRecDepth 100000 in
theorem b_X9_best_0 {d : Nat} {S : mSh} {M : mMem} {Q : Option mV → mSh → mMem → Prop} {x1 x2 : Int} (L : Lay S) (k : WP PR d 132 0 [vL x1, vU, vL 0, vU, vL 60, vU] [] S (up M 200 0 0) (fun r S2 M2 => WP PR (d + 1) 242 14 [vA 200, vI x1, vI x2, vU, vU, vU, vU, vU] (r.toList ++ []) S2 M2 Q)) : WP PR (d + 1) 242 0 [vA 200, vI x1, vI x2, vU, vU, vU, vU, vU] [] S M Q := by
  refine WP.ca 7 14 11 (.invokestatic 153) (0, 132, 0, 0) rfl ?_
  exact And.intro (lo200 L) (⟨rfl, rfl, rfl, trivial, rfl, k⟩)
set_option maxRecDepth 100000 in
theorem b_X9_best_14 {d : Nat} {S : mSh} {M : mMem} {Q : Option mV → mSh → mMem → Prop} {x1 x2 s0 : Int} {u3 u4 u5 u6 u7 : mV} (kt : s0 = 0 → WP PR d 242 29 [vA 200, vI x1, vI x2, u3, u4, u5, u6, u7] [] S M Q) (kf : ¬ s0 = 0 → WP PR d 242 17 [vA 200, vI x1, vI x2, u3, u4, u5, u6, u7] [] S M Q) : WP PR d 242 14 [vA 200, vI x1, vI x2, u3, u4, u5, u6, u7] [vI s0] S M Q := by
  refine WP.if0 0 17 14 .eq 15 (0, 0, 0, 0) 29 rfl rfl ?_
  exact ⟨kt, fun hc => kf hc⟩
set_option maxRecDepth 100000 in
theorem b_X9_best_17 {d : Nat} {S : mSh} {M : mMem} {Q : Option mV → mSh → mMem → Prop} {x1 x2 : Int} {u3 u4 u5 u6 u7 : mV} (k : WP PR d 132 0 [vL x2, vU, vL 0, vU, vL 19000, vU] [] S M (fun r S2 M2 => WP PR (d + 1) 242 26 [vA 200, vI x1, vI x2, u3, u4, u5, u6, u7] (r.toList ++ []) S2 M2 Q)) : WP PR (d + 1) 242 17 [vA 200, vI x1, vI x2, u3, u4, u5, u6, u7] [] S M Q := by
  refine WP.ca 4 26 23 (.invokestatic 153) (0, 132, 0, 0) rfl ?_
  exact ⟨rfl, rfl, rfl, trivial, rfl, k⟩
set_option maxRecDepth 100000 in
theorem b_X9_best_26 {d : Nat} {S : mSh} {M : mMem} {Q : Option mV → mSh → mMem → Prop} {x1 x2 s0 : Int} {u3 u4 u5 u6 u7 : mV} (kt : ¬ s0 = 0 → WP PR d 242 31 [vA 200, vI x1, vI x2, u3, u4, u5, u6, u7] [] S M Q) (kf : s0 = 0 → WP PR d 242 29 [vA 200, vI x1, vI x2, u3, u4, u5, u6, u7] [] S M Q) : WP PR d 242 26 [vA 200, vI x1, vI x2, u3, u4, u5, u6, u7] [vI s0] S M Q := by
  refine WP.if0 0 29 26 .ne 5 (0, 0, 0, 0) 31 rfl rfl ?_
  exact ⟨kt, fun hc => kf (Decidable.not_not.mp hc)⟩
set_option maxRecDepth 100000 in
theorem b_X9_best_29 {d : Nat} {S : mSh} {M : mMem} {Q : Option mV → mSh → mMem → Prop} {x1 x2 : Int} {u3 u4 u5 u6 u7 : mV} (k : Q (some (vI (-1))) S M) : WP PR d 242 29 [vA 200, vI x1, vI x2, u3, u4, u5, u6, u7] [] S M Q := by
  refine WP.re 1 30 .ireturn (0, 0, 0, 0) _ rfl ?_
  exact ⟨rfl, rfl, trivial, k⟩
set_option maxRecDepth 100000 in
theorem b_X9_best_31 {d : Nat} {S : mSh} {M : mMem} {Q : Option mV → mSh → mMem → Prop} {x1 x2 : Int} {u3 u4 u5 u6 u7 : mV} (k : WP PR d 242 39 [vA 200, vI x1, vI x2, vI (-1), vI (-1), vI 0, u6, u7] [] S M Q) : WP PR d 242 31 [vA 200, vI x1, vI x2, u3, u4, u5, u6, u7] [] S M Q := by
  refine WP.bl 6 39 rfl ?_
  exact k
set_option maxRecDepth 100000 in
theorem b_X9_best_39 {d : Nat} {S : mSh} {M : mMem} {Q : Option mV → mSh → mMem → Prop} {x1 x2 x3 x4 x5 : Int} {u6 u7 : mV} (L : Lay S) (kt : M 202 3 ≤ x5 → WP PR d 242 112 [vA 200, vI x1, vI x2, vI x3, vI x4, vI x5, u6, u7] [] S M Q) (kf : x5 < M 202 3 → WP PR d 242 50 [vA 200, vI x1, vI x2, vI x3, vI x4, vI x5, u6, u7] [] S M Q) : WP PR d 242 39 [vA 200, vI x1, vI x2, vI x3, vI x4, vI x5, u6, u7] [] S M Q := by
  refine WP.if2 5 50 47 .ge 65 (0, 0, 0, 0) 112 rfl rfl ?_
  exact And.intro (⟨lo200 L, lf200_3 L⟩) (And.intro (inA_of (lo202 L) (ll202 L) (by decide)) (⟨kt, fun hc => kf (Int.not_le.mp hc)⟩))
set_option maxRecDepth 100000 in
theorem b_X9_best_50 {d : Nat} {S : mSh} {M : mMem} {Q : Option mV → mSh → mMem → Prop} {x1 x2 x3 x4 x5 : Int} {u6 u7 : mV} (L : Lay S) (k : WP PR d 240 0 [vA 200, vI x5, vI x1, vU] [] S M (fun r S2 M2 => WP PR (d + 1) 242 57 [vA 200, vI x1, vI x2, vI x3, vI x4, vI x5, u6, u7] (r.toList ++ []) S2 M2 Q)) : WP PR (d + 1) 242 50 [vA 200, vI x1, vI x2, vI x3, vI x4, vI x5, u6, u7] [] S M Q := by
  refine WP.ca 3 57 54 (.invokevirtual 540) (0, 240, 0, 0) rfl ?_
  exact ⟨rfl, rfl, rfl, lo200 L, rfl, k⟩
set_option maxRecDepth 100000 in
theorem b_X9_best_57 {d : Nat} {S : mSh} {M : mMem} {Q : Option mV → mSh → mMem → Prop} {x1 x2 x3 x4 x5 s0 : Int} {u6 u7 : mV} (L : Lay S) (kt : M 200 43 < x2 → WP PR d 242 77 [vA 200, vI x1, vI x2, vI x3, vI x4, vI x5, vI s0, u7] [] S M Q) (kf : x2 ≤ M 200 43 → WP PR d 242 67 [vA 200, vI x1, vI x2, vI x3, vI x4, vI x5, vI s0, u7] [] S M Q) : WP PR d 242 57 [vA 200, vI x1, vI x2, vI x3, vI x4, vI x5, u6, u7] [vI s0] S M Q := by
  refine WP.if2 4 67 64 .lt 13 (0, 0, 0, 0) 77 rfl rfl ?_
  exact And.intro (lo200 L) (⟨kt, fun hc => kf (Int.not_lt.mp hc)⟩)
set_option maxRecDepth 100000 in
theorem b_X9_best_67 {d : Nat} {S : mSh} {M : mMem} {Q : Option mV → mSh → mMem → Prop} {x1 x2 x3 x4 x5 x6 : Int} {u7 : mV} (kt : x6 ≤ x3 → WP PR d 242 77 [vA 200, vI x1, vI x2, vI x3, vI x4, vI x5, vI x6, u7] [] S M Q) (kf : x3 < x6 → WP PR d 242 73 [vA 200, vI x1, vI x2, vI x3, vI x4, vI x5, vI x6, u7] [] S M Q) : WP PR d 242 67 [vA 200, vI x1, vI x2, vI x3, vI x4, vI x5, vI x6, u7] [] S M Q := by
  refine WP.if2 2 73 70 .le 7 (0, 0, 0, 0) 77 rfl rfl ?_
  exact ⟨kt, fun hc => kf (Int.not_le.mp hc)⟩
set_option maxRecDepth 100000 in
theorem b_X9_best_73 {d : Nat} {S : mSh} {M : mMem} {Q : Option mV → mSh → mMem → Prop} {x1 x2 x3 x4 x5 x6 : Int} {u7 : mV} (hc : R32 (x5 + 1)) (k : WP PR d 242 39 [vA 200, vI x1, vI x2, vI x6, vI x5, vI (x5 + 1), vI x6, vI 1] [] S M Q) : WP PR d 242 73 [vA 200, vI x1, vI x2, vI x3, vI x4, vI x5, vI x6, u7] [] S M Q := by
  refine WP.gt 1 74 4 (0, 0, 0, 0) _ 78 rfl rfl ?_
  show WP PR d 242 78 [vA 200, vI x1, vI x2, vI x3, vI x4, vI x5, vI x6, u7] [vI 1] S M Q
  refine WP.if0 2 85 82 .eq 8 (0, 0, 0, 0) 90 rfl rfl ?_
  refine ⟨fun h => absurd h (show ¬ ((1 : Int) = (0 : Int)) by decide), fun _ => ?_⟩
  show WP PR d 242 85 [vA 200, vI x1, vI x2, vI x3, vI x4, vI x5, vI x6, vI 1] [] S M Q
  refine WP.gt 1 87 5 (0, 0, 0, 0) _ 92 rfl rfl ?_
  show WP PR d 242 92 [vA 200, vI x1, vI x2, vI x3, vI x4, vI x5, vI x6, vI 1] [vI x5] S M Q
  refine WP.if0 2 99 96 .eq 8 (0, 0, 0, 0) 104 rfl rfl ?_
  refine ⟨fun h => absurd h (show ¬ ((1 : Int) = (0 : Int)) by decide), fun _ => ?_⟩
  show WP PR d 242 99 [vA 200, vI x1, vI x2, vI x3, vI x5, vI x5, vI x6, vI 1] [] S M Q
  refine WP.gt 1 101 4 (0, 0, 0, 0) _ 105 rfl rfl ?_
  show WP PR d 242 105 [vA 200, vI x1, vI x2, vI x3, vI x5, vI x5, vI x6, vI 1] [vI x6] S M Q
  refine WP.gt 2 109 (-70) (0, 0, 0, 0) _ 39 rfl rfl ?_
  exact And.intro (hc) (k)
set_option maxRecDepth 100000 in
theorem b_X9_best_77 {d : Nat} {S : mSh} {M : mMem} {Q : Option mV → mSh → mMem → Prop} {x1 x2 x3 x4 x5 x6 : Int} {u7 : mV} (hc : R32 (x5 + 1)) (k : WP PR d 242 39 [vA 200, vI x1, vI x2, vI x3, vI x4, vI (x5 + 1), vI x6, vI 0] [] S M Q) : WP PR d 242 77 [vA 200, vI x1, vI x2, vI x3, vI x4, vI x5, vI x6, u7] [] S M Q := by
  refine WP.if0 3 85 82 .eq 8 (0, 0, 0, 0) 90 rfl rfl ?_
  refine ⟨fun _ => ?_, fun h => absurd (show (0 : Int) = (0 : Int) by decide) h⟩
  show WP PR d 242 90 [vA 200, vI x1, vI x2, vI x3, vI x4, vI x5, vI x6, vI 0] [] S M Q
  refine WP.if0 3 99 96 .eq 8 (0, 0, 0, 0) 104 rfl rfl ?_
  refine ⟨fun _ => ?_, fun h => absurd (show (0 : Int) = (0 : Int) by decide) h⟩
  show WP PR d 242 104 [vA 200, vI x1, vI x2, vI x3, vI x4, vI x5, vI x6, vI 0] [] S M Q
  refine WP.gt 3 109 (-70) (0, 0, 0, 0) _ 39 rfl rfl ?_
  exact And.intro (hc) (k)
set_option maxRecDepth 100000 in
theorem b_X9_best_112 {d : Nat} {S : mSh} {M : mMem} {Q : Option mV → mSh → mMem → Prop} {x1 x2 x3 x4 x5 : Int} {u6 u7 : mV} (k : Q (some (vI x4)) S M) : WP PR d 242 112 [vA 200, vI x1, vI x2, vI x3, vI x4, vI x5, u6, u7] [] S M Q := by
  refine WP.re 1 114 .ireturn (0, 0, 0, 0) _ rfl ?_
  exact ⟨rfl, rfl, trivial, k⟩
/-- SoleraCellarModel.tasted(II)I -/
abbrev e_X9_tasted (d : Nat) (a1 a2 : Int) (S : mSh) (M : mMem) (Q : Option mV → mSh → mMem → Prop) : Prop := WP PR d 243 0 [vA 200, vI a1, vI a2, vU] [] S M Q
set_option maxRecDepth 100000 in
theorem b_X9_tasted_0 {d : Nat} {S : mSh} {M : mMem} {Q : Option mV → mSh → mMem → Prop} {x1 x2 : Int} (L : Lay S) (k : WP PR d 132 0 [vL x1, vU, vL 0, vU, vL 2, vU] [] S (up M 200 0 0) (fun r S2 M2 => WP PR (d + 1) 243 14 [vA 200, vI x1, vI x2, vU] (r.toList ++ []) S2 M2 Q)) : WP PR (d + 1) 243 0 [vA 200, vI x1, vI x2, vU] [] S M Q := by
  refine WP.ca 7 14 11 (.invokestatic 153) (0, 132, 0, 0) rfl ?_
  exact And.intro (lo200 L) (⟨rfl, rfl, rfl, trivial, rfl, k⟩)
set_option maxRecDepth 100000 in
theorem b_X9_tasted_14 {d : Nat} {S : mSh} {M : mMem} {Q : Option mV → mSh → mMem → Prop} {x1 x2 s0 : Int} {u3 : mV} (kt : s0 = 0 → WP PR d 243 29 [vA 200, vI x1, vI x2, u3] [] S M Q) (kf : ¬ s0 = 0 → WP PR d 243 17 [vA 200, vI x1, vI x2, u3] [] S M Q) : WP PR d 243 14 [vA 200, vI x1, vI x2, u3] [vI s0] S M Q := by
  refine WP.if0 0 17 14 .eq 15 (0, 0, 0, 0) 29 rfl rfl ?_
  exact ⟨kt, fun hc => kf hc⟩
set_option maxRecDepth 100000 in
theorem b_X9_tasted_17 {d : Nat} {S : mSh} {M : mMem} {Q : Option mV → mSh → mMem → Prop} {x1 x2 : Int} {u3 : mV} (k : WP PR d 132 0 [vL x2, vU, vL 0, vU, vL 999, vU] [] S M (fun r S2 M2 => WP PR (d + 1) 243 26 [vA 200, vI x1, vI x2, u3] (r.toList ++ []) S2 M2 Q)) : WP PR (d + 1) 243 17 [vA 200, vI x1, vI x2, u3] [] S M Q := by
  refine WP.ca 4 26 23 (.invokestatic 153) (0, 132, 0, 0) rfl ?_
  exact ⟨rfl, rfl, rfl, trivial, rfl, k⟩
set_option maxRecDepth 100000 in
theorem b_X9_tasted_26 {d : Nat} {S : mSh} {M : mMem} {Q : Option mV → mSh → mMem → Prop} {x1 x2 s0 : Int} {u3 : mV} (kt : ¬ s0 = 0 → WP PR d 243 35 [vA 200, vI x1, vI x2, u3] [] S M Q) (kf : s0 = 0 → WP PR d 243 29 [vA 200, vI x1, vI x2, u3] [] S M Q) : WP PR d 243 26 [vA 200, vI x1, vI x2, u3] [vI s0] S M Q := by
  refine WP.if0 0 29 26 .ne 9 (0, 0, 0, 0) 35 rfl rfl ?_
  exact ⟨kt, fun hc => kf (Decidable.not_not.mp hc)⟩
set_option maxRecDepth 100000 in
theorem b_X9_tasted_29 {d : Nat} {S : mSh} {M : mMem} {Q : Option mV → mSh → mMem → Prop} {x1 x2 : Int} {u3 : mV} (L : Lay S) (k : WP PR d 135 0 [vA 200, vI (-1)] [] S M (fun r S2 M2 => WP PR (d + 1) 243 34 [vA 200, vI x1, vI x2, u3] (r.toList ++ []) S2 M2 Q)) : WP PR (d + 1) 243 29 [vA 200, vI x1, vI x2, u3] [] S M Q := by
  refine WP.ca 2 34 31 (.invokevirtual 142) (0, 135, 0, 0) rfl ?_
  exact ⟨rfl, rfl, rfl, lo200 L, rfl, k⟩
set_option maxRecDepth 100000 in
theorem b_X9_tasted_34 {d : Nat} {S : mSh} {M : mMem} {Q : Option mV → mSh → mMem → Prop} {x1 x2 s0 : Int} {u3 : mV} (k : Q (some (vI s0)) S M) : WP PR d 243 34 [vA 200, vI x1, vI x2, u3] [vI s0] S M Q := by
  refine WP.re 0 34 .ireturn (0, 0, 0, 0) _ rfl ?_
  exact ⟨rfl, rfl, trivial, k⟩
set_option maxRecDepth 100000 in
theorem b_X9_tasted_35 {d : Nat} {S : mSh} {M : mMem} {Q : Option mV → mSh → mMem → Prop} {x1 x2 : Int} {u3 : mV} (L : Lay S) (kt : ¬ M 202 1 = 6 → WP PR d 243 55 [vA 200, vI x1, vI x2, vI (M 202 1)] [] S M Q) (kf : M 202 1 = 6 → WP PR d 243 48 [vA 200, vI x1, vI x2, vI (M 202 1)] [] S M Q) : WP PR d 243 35 [vA 200, vI x1, vI x2, u3] [] S M Q := by
  refine WP.if2 7 48 45 .ne 10 (0, 0, 0, 0) 55 rfl rfl ?_
  exact And.intro (⟨lo200 L, lf200_3 L⟩) (And.intro (inA_of (lo202 L) (ll202 L) (by decide)) (⟨kt, fun hc => kf (Decidable.not_not.mp hc)⟩))
set_option maxRecDepth 100000 in
theorem b_X9_tasted_48 {d : Nat} {S : mSh} {M : mMem} {Q : Option mV → mSh → mMem → Prop} {x1 x2 x3 : Int} (L : Lay S) (k : WP PR d 135 0 [vA 200, vI (-5)] [] S M (fun r S2 M2 => WP PR (d + 1) 243 54 [vA 200, vI x1, vI x2, vI x3] (r.toList ++ []) S2 M2 Q)) : WP PR (d + 1) 243 48 [vA 200, vI x1, vI x2, vI x3] [] S M Q := by
  refine WP.ca 2 54 51 (.invokevirtual 142) (0, 135, 0, 0) rfl ?_
  exact ⟨rfl, rfl, rfl, lo200 L, rfl, k⟩
set_option maxRecDepth 100000 in
theorem b_X9_tasted_54 {d : Nat} {S : mSh} {M : mMem} {Q : Option mV → mSh → mMem → Prop} {x1 x2 x3 s0 : Int} (k : Q (some (vI s0)) S M) : WP PR d 243 54 [vA 200, vI x1, vI x2, vI x3] [vI s0] S M Q := by
  refine WP.re 0 54 .ireturn (0, 0, 0, 0) _ rfl ?_
  exact ⟨rfl, rfl, trivial, k⟩
set_option maxRecDepth 100000 in
theorem b_X9_tasted_55 {d : Nat} {S : mSh} {M : mMem} {Q : Option mV → mSh → mMem → Prop} {x1 x2 x3 : Int} (L : Lay S) (hc : R32 (2 * x3) ∧ R32 (186 + (2 * x3)) ∧ (0 ≤ 186 + (2 * x3) ∧ 186 + (2 * x3) < 9390) ∧ R32 ((186 + (2 * x3)) + 1) ∧ (0 ≤ (186 + (2 * x3)) + 1 ∧ (186 + (2 * x3)) + 1 < 9390) ∧ R32 (((up (up M 202 (186 + (2 * x3)) x1) 202 ((186 + (2 * x3)) + 1) x2) 202 1) + 1) ∧ R32 (x3 + 1)) (k : WP PR d 135 0 [vA 200, vI (x3 + 1)] [] S (up (up (up M 202 (186 + (2 * x3)) x1) 202 ((186 + (2 * x3)) + 1) x2) 202 1 (((up (up M 202 (186 + (2 * x3)) x1) 202 ((186 + (2 * x3)) + 1) x2) 202 1) + 1)) (fun r S2 M2 => WP PR (d + 1) 243 100 [vA 200, vI x1, vI x2, vI x3] (r.toList ++ []) S2 M2 Q)) : WP PR (d + 1) 243 55 [vA 200, vI x1, vI x2, vI x3] [] S M Q := by
  refine WP.ca 32 100 97 (.invokevirtual 142) (0, 135, 0, 0) rfl ?_
  exact And.intro (⟨lo200 L, lf200_3 L⟩) (And.intro (hc.1) (And.intro (hc.2.1) (And.intro (inA_of (lo202 L) (ll202 L) hc.2.2.1) (And.intro (⟨lo200 L, lf200_3 L⟩) (And.intro (hc.1) (And.intro (hc.2.1) (And.intro (hc.2.2.2.1) (And.intro (inA_of (lo202 L) (ll202 L) hc.2.2.2.2.1) (And.intro (⟨lo200 L, lf200_3 L⟩) (And.intro (inA_of (lo202 L) (ll202 L) (by decide)) (And.intro (hc.2.2.2.2.2.1) (And.intro (inA_of (lo202 L) (ll202 L) (by decide)) (And.intro (hc.2.2.2.2.2.2) (⟨rfl, rfl, rfl, lo200 L, rfl, k⟩))))))))))))))
set_option maxRecDepth 100000 in
theorem b_X9_tasted_100 {d : Nat} {S : mSh} {M : mMem} {Q : Option mV → mSh → mMem → Prop} {x1 x2 x3 s0 : Int} (k : Q (some (vI s0)) S M) : WP PR d 243 100 [vA 200, vI x1, vI x2, vI x3] [vI s0] S M Q := by
  refine WP.re 0 100 .ireturn (0, 0, 0, 0) _ rfl ?_
  exact ⟨rfl, rfl, trivial, k⟩
/-- SoleraCellarModel.forget()I -/
abbrev e_X9_forget (d : Nat) (S : mSh) (M : mMem) (Q : Option mV → mSh → mMem → Prop) : Prop := WP PR d 244 0 [vA 200, vU] [] S M Q
set_option maxRecDepth 100000 in
theorem b_X9_forget_0 {d : Nat} {S : mSh} {M : mMem} {Q : Option mV → mSh → mMem → Prop} (L : Lay S) (k : Q (some (vI (M 202 1))) S (up (up M 200 0 0) 202 1 0)) : WP PR d 244 0 [vA 200, vU] [] S M Q := by
  refine WP.re 14 20 .ireturn (0, 0, 0, 0) _ rfl ?_
  exact And.intro (lo200 L) (And.intro (⟨lo200 L, lf200_3 L⟩) (And.intro (inA_of (lo202 L) (ll202 L) (by decide)) (And.intro (⟨lo200 L, lf200_3 L⟩) (And.intro (inA_of (lo202 L) (ll202 L) (by decide)) (⟨rfl, rfl, trivial, k⟩)))))
/-- SoleraCellarModel.tasteOf(II)I -/
abbrev e_X9_tasteOf (d : Nat) (a1 a2 : Int) (S : mSh) (M : mMem) (Q : Option mV → mSh → mMem → Prop) : Prop := WP PR d 245 0 [vA 200, vI a1, vI a2, vU] [] S M Q
set_option maxRecDepth 100000 in
theorem b_X9_tasteOf_0 {d : Nat} {S : mSh} {M : mMem} {Q : Option mV → mSh → mMem → Prop} {x1 x2 : Int} (kt : ¬ x2 = 0 → WP PR d 245 12 [vA 200, vI x1, vI x2, vU] [] S M Q) (kf : x2 = 0 → WP PR d 245 4 [vA 200, vI x1, vI x2, vU] [] S M Q) : WP PR d 245 0 [vA 200, vI x1, vI x2, vU] [] S M Q := by
  refine WP.if0 1 4 1 .ne 11 (0, 0, 0, 0) 12 rfl rfl ?_
  exact ⟨kt, fun hc => kf (Decidable.not_not.mp hc)⟩
set_option maxRecDepth 100000 in
theorem b_X9_tasteOf_4 {d : Nat} {S : mSh} {M : mMem} {Q : Option mV → mSh → mMem → Prop} {x1 x2 : Int} {u3 : mV} (L : Lay S) (k : WP PR d 148 0 [vA 200, vI x1, vU] [] S M (fun r S2 M2 => WP PR (d + 1) 245 9 [vA 200, vI x1, vI x2, u3] (r.toList ++ []) S2 M2 Q)) : WP PR (d + 1) 245 4 [vA 200, vI x1, vI x2, u3] [] S M Q := by
  refine WP.ca 2 9 6 (.invokevirtual 377) (0, 148, 0, 0) rfl ?_
  exact ⟨rfl, rfl, rfl, lo200 L, rfl, k⟩
set_option maxRecDepth 100000 in
theorem b_X9_tasteOf_9 {d : Nat} {S : mSh} {M : mMem} {Q : Option mV → mSh → mMem → Prop} {x1 x2 s0 : Int} {u3 : mV} (kt : ¬ s0 = (-1) → WP PR d 245 46 [vA 200, vI x1, vI x2, vI s0] [] S M Q) (kf : s0 = (-1) → WP PR d 245 40 [vA 200, vI x1, vI x2, vI s0] [] S M Q) : WP PR d 245 9 [vA 200, vI x1, vI x2, u3] [vI s0] S M Q := by
  refine WP.gt 0 9 25 (0, 0, 0, 0) _ 34 rfl rfl ?_
  show WP PR d 245 34 [vA 200, vI x1, vI x2, u3] [vI s0] S M Q
  refine WP.if2 3 40 37 .ne 9 (0, 0, 0, 0) 46 rfl rfl ?_
  exact ⟨kt, fun hc => kf (Decidable.not_not.mp hc)⟩
set_option maxRecDepth 100000 in
theorem b_X9_tasteOf_12 {d : Nat} {S : mSh} {M : mMem} {Q : Option mV → mSh → mMem → Prop} {x1 x2 : Int} {u3 : mV} (kt : ¬ x2 = 1 → WP PR d 245 29 [vA 200, vI x1, vI x2, u3] [] S M Q) (kf : x2 = 1 → WP PR d 245 17 [vA 200, vI x1, vI x2, u3] [] S M Q) : WP PR d 245 12 [vA 200, vI x1, vI x2, u3] [] S M Q := by
  refine WP.if2 2 17 14 .ne 15 (0, 0, 0, 0) 29 rfl rfl ?_
  exact ⟨kt, fun hc => kf (Decidable.not_not.mp hc)⟩
set_option maxRecDepth 100000 in
theorem b_X9_tasteOf_17 {d : Nat} {S : mSh} {M : mMem} {Q : Option mV → mSh → mMem → Prop} {x1 x2 : Int} {u3 : mV} (L : Lay S) (k : WP PR d 146 0 [vA 200, vI x1, vU, vU] [] S M (fun r S2 M2 => WP PR (d + 1) 245 22 [vA 200, vI x1, vI x2, u3] (r.toList ++ []) S2 M2 Q)) : WP PR (d + 1) 245 17 [vA 200, vI x1, vI x2, u3] [] S M Q := by
  refine WP.ca 2 22 19 (.invokevirtual 166) (0, 146, 0, 0) rfl ?_
  exact ⟨rfl, rfl, rfl, lo200 L, rfl, k⟩
set_option maxRecDepth 100000 in
theorem b_X9_tasteOf_22 {d : Nat} {S : mSh} {M : mMem} {Q : Option mV → mSh → mMem → Prop} {x1 x2 s0 : Int} {u3 : mV} (hc : R32 (s0.tdiv 1000)) (kt : ¬ s0.tdiv 1000 = (-1) → WP PR d 245 46 [vA 200, vI x1, vI x2, vI (s0.tdiv 1000)] [] S M Q) (kf : s0.tdiv 1000 = (-1) → WP PR d 245 40 [vA 200, vI x1, vI x2, vI (s0.tdiv 1000)] [] S M Q) : WP PR d 245 22 [vA 200, vI x1, vI x2, u3] [vI s0] S M Q := by
  refine WP.gt 2 26 8 (0, 0, 0, 0) _ 34 rfl rfl ?_
  refine And.intro (⟨by decide, hc⟩) (?_)
  show WP PR d 245 34 [vA 200, vI x1, vI x2, u3] [vI (s0.tdiv 1000)] S M Q
  refine WP.if2 3 40 37 .ne 9 (0, 0, 0, 0) 46 rfl rfl ?_
  exact ⟨kt, fun hc => kf (Decidable.not_not.mp hc)⟩
set_option maxRecDepth 100000 in
theorem b_X9_tasteOf_29 {d : Nat} {S : mSh} {M : mMem} {Q : Option mV → mSh → mMem → Prop} {x1 x2 : Int} {u3 : mV} (L : Lay S) (k : WP PR d 150 0 [vA 200, vI x1, vU, vU, vU] [] S M (fun r S2 M2 => WP PR (d + 1) 245 34 [vA 200, vI x1, vI x2, u3] (r.toList ++ []) S2 M2 Q)) : WP PR (d + 1) 245 29 [vA 200, vI x1, vI x2, u3] [] S M Q := by
  refine WP.ca 2 34 31 (.invokevirtual 188) (0, 150, 0, 0) rfl ?_
  exact ⟨rfl, rfl, rfl, lo200 L, rfl, k⟩
set_option maxRecDepth 100000 in
theorem b_X9_tasteOf_34 {d : Nat} {S : mSh} {M : mMem} {Q : Option mV → mSh → mMem → Prop} {x1 x2 s0 : Int} {u3 : mV} (kt : ¬ s0 = (-1) → WP PR d 245 46 [vA 200, vI x1, vI x2, vI s0] [] S M Q) (kf : s0 = (-1) → WP PR d 245 40 [vA 200, vI x1, vI x2, vI s0] [] S M Q) : WP PR d 245 34 [vA 200, vI x1, vI x2, u3] [vI s0] S M Q := by
  refine WP.if2 3 40 37 .ne 9 (0, 0, 0, 0) 46 rfl rfl ?_
  exact ⟨kt, fun hc => kf (Decidable.not_not.mp hc)⟩
set_option maxRecDepth 100000 in
theorem b_X9_tasteOf_40 {d : Nat} {S : mSh} {M : mMem} {Q : Option mV → mSh → mMem → Prop} {x1 x2 x3 : Int} (k : Q (some (vI 999)) S M) : WP PR d 245 40 [vA 200, vI x1, vI x2, vI x3] [] S M Q := by
  refine WP.gt 1 43 4 (0, 0, 0, 0) _ 47 rfl rfl ?_
  show WP PR d 245 47 [vA 200, vI x1, vI x2, vI x3] [vI 999] S M Q
  refine WP.re 0 47 .ireturn (0, 0, 0, 0) _ rfl ?_
  exact ⟨rfl, rfl, trivial, k⟩
set_option maxRecDepth 100000 in
theorem b_X9_tasteOf_46 {d : Nat} {S : mSh} {M : mMem} {Q : Option mV → mSh → mMem → Prop} {x1 x2 x3 : Int} (k : Q (some (vI x3)) S M) : WP PR d 245 46 [vA 200, vI x1, vI x2, vI x3] [] S M Q := by
  refine WP.re 1 47 .ireturn (0, 0, 0, 0) _ rfl ?_
  exact ⟨rfl, rfl, trivial, k⟩
/-- SoleraCellarModel.thatCanBe()I -/
abbrev e_X9_thatCanBe (d : Nat) (S : mSh) (M : mMem) (Q : Option mV → mSh → mMem → Prop) : Prop := WP PR d 246 0 [vA 200, vU, vU, vU, vU] [] S M Q
set_option maxRecDepth 100000 in
theorem b_X9_thatCanBe_0 {d : Nat} {S : mSh} {M : mMem} {Q : Option mV → mSh → mMem → Prop} (k : WP PR d 246 4 [vA 200, vI 0, vI 0, vU, vU] [] S M Q) : WP PR d 246 0 [vA 200, vU, vU, vU, vU] [] S M Q := by
  refine WP.bl 4 4 rfl ?_
  exact k
set_option maxRecDepth 100000 in
theorem b_X9_thatCanBe_4 {d : Nat} {S : mSh} {M : mMem} {Q : Option mV → mSh → mMem → Prop} {x1 x2 : Int} {u3 u4 : mV} (L : Lay S) (kt : M 202 0 ≤ x2 → WP PR d 246 102 [vA 200, vI x1, vI x2, u3, u4] [] S M Q) (kf : x2 < M 202 0 → WP PR d 246 14 [vA 200, vI x1, vI x2, u3, u4] [] S M Q) : WP PR d 246 4 [vA 200, vI x1, vI x2, u3, u4] [] S M Q := by
  refine WP.if2 5 14 11 .ge 91 (0, 0, 0, 0) 102 rfl rfl ?_
  exact And.intro (⟨lo200 L, lf200_3 L⟩) (And.intro (inA_of (lo202 L) (ll202 L) (by decide)) (⟨kt, fun hc => kf (Int.not_le.mp hc)⟩))
set_option maxRecDepth 100000 in
theorem b_X9_thatCanBe_14 {d : Nat} {S : mSh} {M : mMem} {Q : Option mV → mSh → mMem → Prop} {x1 x2 : Int} {u3 u4 : mV} (k : WP PR d 246 19 [vA 200, vI x1, vI x2, vI 1, vI 0] [] S M Q) : WP PR d 246 14 [vA 200, vI x1, vI x2, u3, u4] [] S M Q := by
  refine WP.bl 4 19 rfl ?_
  exact k
set_option maxRecDepth 100000 in
theorem b_X9_thatCanBe_19 {d : Nat} {S : mSh} {M : mMem} {Q : Option mV → mSh → mMem → Prop} {x1 x2 x3 x4 : Int} (L : Lay S) (kt : M 202 1 ≤ x4 → WP PR d 246 82 [vA 200, vI x1, vI x2, vI x3, vI x4] [] S M Q) (kf : x4 < M 202 1 → WP PR d 246 30 [vA 200, vI x1, vI x2, vI x3, vI x4] [] S M Q) : WP PR d 246 19 [vA 200, vI x1, vI x2, vI x3, vI x4] [] S M Q := by
  refine WP.if2 5 30 27 .ge 55 (0, 0, 0, 0) 82 rfl rfl ?_
  exact And.intro (⟨lo200 L, lf200_3 L⟩) (And.intro (inA_of (lo202 L) (ll202 L) (by decide)) (⟨kt, fun hc => kf (Int.not_le.mp hc)⟩))
set_option maxRecDepth 100000 in
theorem b_X9_thatCanBe_30 {d : Nat} {S : mSh} {M : mMem} {Q : Option mV → mSh → mMem → Prop} {x1 x2 x3 x4 : Int} (kt : x3 = 0 → WP PR d 246 74 [vA 200, vI x1, vI x2, vI x3, vI x4] [] S M Q) (kf : ¬ x3 = 0 → WP PR d 246 34 [vA 200, vI x1, vI x2, vI x3, vI x4] [] S M Q) : WP PR d 246 30 [vA 200, vI x1, vI x2, vI x3, vI x4] [] S M Q := by
  refine WP.if0 1 34 31 .eq 43 (0, 0, 0, 0) 74 rfl rfl ?_
  exact ⟨kt, fun hc => kf hc⟩
set_option maxRecDepth 100000 in
theorem b_X9_thatCanBe_34 {d : Nat} {S : mSh} {M : mMem} {Q : Option mV → mSh → mMem → Prop} {x1 x2 x3 x4 : Int} (L : Lay S) (hc : R32 (2 * x4) ∧ R32 (186 + (2 * x4)) ∧ (0 ≤ 186 + (2 * x4) ∧ 186 + (2 * x4) < 9390)) (k : WP PR d 245 0 [vA 200, vI x2, vI (M 202 (186 + (2 * x4))), vU] [] S M (fun r S2 M2 => WP PR (d + 1) 246 52 [vA 200, vI x1, vI x2, vI x3, vI x4] (r.toList ++ []) S2 M2 Q)) : WP PR (d + 1) 246 34 [vA 200, vI x1, vI x2, vI x3, vI x4] [] S M Q := by
  refine WP.ca 10 52 49 (.invokevirtual 543) (0, 245, 0, 0) rfl ?_
  exact And.intro (⟨lo200 L, lf200_3 L⟩) (And.intro (hc.1) (And.intro (hc.2.1) (And.intro (inA_of (lo202 L) (ll202 L) hc.2.2) (⟨rfl, rfl, rfl, lo200 L, rfl, k⟩))))
set_option maxRecDepth 100000 in
theorem b_X9_thatCanBe_52 {d : Nat} {S : mSh} {M : mMem} {Q : Option mV → mSh → mMem → Prop} {x1 x2 x3 x4 s0 : Int} (L : Lay S) (hc : R32 (2 * x4) ∧ R32 (186 + (2 * x4)) ∧ R32 ((186 + (2 * x4)) + 1) ∧ (0 ≤ (186 + (2 * x4)) + 1 ∧ (186 + (2 * x4)) + 1 < 9390)) (kt : ¬ s0 = M 202 ((186 + (2 * x4)) + 1) → WP PR d 246 74 [vA 200, vI x1, vI x2, vI x3, vI x4] [] S M Q) (kf : s0 = M 202 ((186 + (2 * x4)) + 1) → WP PR d 246 70 [vA 200, vI x1, vI x2, vI x3, vI x4] [] S M Q) : WP PR d 246 52 [vA 200, vI x1, vI x2, vI x3, vI x4] [vI s0] S M Q := by
  refine WP.if2 10 70 67 .ne 7 (0, 0, 0, 0) 74 rfl rfl ?_
  exact And.intro (⟨lo200 L, lf200_3 L⟩) (And.intro (hc.1) (And.intro (hc.2.1) (And.intro (hc.2.2.1) (And.intro (inA_of (lo202 L) (ll202 L) hc.2.2.2) (⟨kt, fun hc => kf (Decidable.not_not.mp hc)⟩)))))
set_option maxRecDepth 100000 in
theorem b_X9_thatCanBe_70 {d : Nat} {S : mSh} {M : mMem} {Q : Option mV → mSh → mMem → Prop} {x1 x2 x3 x4 : Int} (hc : R32 (x4 + 1)) (k : WP PR d 246 19 [vA 200, vI x1, vI x2, vI 1, vI (x4 + 1)] [] S M Q) : WP PR d 246 70 [vA 200, vI x1, vI x2, vI x3, vI x4] [] S M Q := by
  refine WP.gt 1 71 4 (0, 0, 0, 0) _ 75 rfl rfl ?_
  show WP PR d 246 75 [vA 200, vI x1, vI x2, vI x3, vI x4] [vI 1] S M Q
  refine WP.gt 2 79 (-60) (0, 0, 0, 0) _ 19 rfl rfl ?_
  exact And.intro (hc) (k)
set_option maxRecDepth 100000 in
theorem b_X9_thatCanBe_74 {d : Nat} {S : mSh} {M : mMem} {Q : Option mV → mSh → mMem → Prop} {x1 x2 x3 x4 : Int} (hc : R32 (x4 + 1)) (k : WP PR d 246 19 [vA 200, vI x1, vI x2, vI 0, vI (x4 + 1)] [] S M Q) : WP PR d 246 74 [vA 200, vI x1, vI x2, vI x3, vI x4] [] S M Q := by
  refine WP.gt 3 79 (-60) (0, 0, 0, 0) _ 19 rfl rfl ?_
  exact And.intro (hc) (k)
set_option maxRecDepth 100000 in
theorem b_X9_thatCanBe_82 {d : Nat} {S : mSh} {M : mMem} {Q : Option mV → mSh → mMem → Prop} {x1 x2 x3 x4 : Int} (kt : x3 = 0 → WP PR d 246 93 [vA 200, vI x1, vI x2, vI x3, vI x4] [vI x1] S M Q) (kf : ¬ x3 = 0 → WP PR d 246 87 [vA 200, vI x1, vI x2, vI x3, vI x4] [vI x1] S M Q) : WP PR d 246 82 [vA 200, vI x1, vI x2, vI x3, vI x4] [] S M Q := by
  refine WP.if0 2 87 84 .eq 9 (0, 0, 0, 0) 93 rfl rfl ?_
  exact ⟨kt, fun hc => kf hc⟩
set_option maxRecDepth 100000 in
theorem b_X9_thatCanBe_87 {d : Nat} {S : mSh} {M : mMem} {Q : Option mV → mSh → mMem → Prop} {x1 x2 x3 x4 s0 : Int} (hc : R32 (x2 + 1)) (k : WP PR d 246 4 [vA 200, vI (bor s0 (bshl 1 x2)), vI (x2 + 1), vI x3, vI x4] [] S M Q) : WP PR d 246 87 [vA 200, vI x1, vI x2, vI x3, vI x4] [vI s0] S M Q := by
  refine WP.gt 3 90 4 (0, 0, 0, 0) _ 94 rfl rfl ?_
  show WP PR d 246 94 [vA 200, vI x1, vI x2, vI x3, vI x4] [vI (bshl 1 x2), vI s0] S M Q
  refine WP.gt 3 99 (-95) (0, 0, 0, 0) _ 4 rfl rfl ?_
  exact And.intro (hc) (k)
set_option maxRecDepth 100000 in
theorem b_X9_thatCanBe_93 {d : Nat} {S : mSh} {M : mMem} {Q : Option mV → mSh → mMem → Prop} {x1 x2 x3 x4 s0 : Int} (hc : R32 (x2 + 1)) (k : WP PR d 246 4 [vA 200, vI (bor s0 0), vI (x2 + 1), vI x3, vI x4] [] S M Q) : WP PR d 246 93 [vA 200, vI x1, vI x2, vI x3, vI x4] [vI s0] S M Q := by
  refine WP.gt 4 99 (-95) (0, 0, 0, 0) _ 4 rfl rfl ?_
  exact And.intro (hc) (k)
set_option maxRecDepth 100000 in
theorem b_X9_thatCanBe_102 {d : Nat} {S : mSh} {M : mMem} {Q : Option mV → mSh → mMem → Prop} {x1 x2 : Int} {u3 u4 : mV} (k : Q (some (vI x1)) S M) : WP PR d 246 102 [vA 200, vI x1, vI x2, u3, u4] [] S M Q := by
  refine WP.re 1 103 .ireturn (0, 0, 0, 0) _ rfl ?_
  exact ⟨rfl, rfl, trivial, k⟩
/-- SoleraCellarModel.canBe()I -/
abbrev e_X9_canBe (d : Nat) (S : mSh) (M : mMem) (Q : Option mV → mSh → mMem → Prop) : Prop := WP PR d 247 0 [vA 200] [] S M Q
set_option maxRecDepth 100000 in
theorem b_X9_canBe_0 {d : Nat} {S : mSh} {M : mMem} {Q : Option mV → mSh → mMem → Prop} (L : Lay S) (k : WP PR d 246 0 [vA 200, vU, vU, vU, vU] [] S (up M 200 0 0) (fun r S2 M2 => WP PR (d + 1) 247 9 [vA 200] (r.toList ++ []) S2 M2 Q)) : WP PR (d + 1) 247 0 [vA 200] [] S M Q := by
  refine WP.ca 4 9 6 (.invokevirtual 546) (0, 246, 0, 0) rfl ?_
  exact And.intro (lo200 L) (⟨rfl, rfl, rfl, lo200 L, rfl, k⟩)
set_option maxRecDepth 100000 in
theorem b_X9_canBe_9 {d : Nat} {S : mSh} {M : mMem} {Q : Option mV → mSh → mMem → Prop} {s0 : Int} (k : Q (some (vI s0)) S M) : WP PR d 247 9 [vA 200] [vI s0] S M Q := by
  refine WP.re 0 9 .ireturn (0, 0, 0, 0) _ rfl ?_
  exact ⟨rfl, rfl, trivial, k⟩
/-- SoleraCellarModel.mostAlike(II)I -/
abbrev e_X9_mostAlike (d : Nat) (a1 a2 : Int) (S : mSh) (M : mMem) (Q : Option mV → mSh → mMem → Prop) : Prop := WP PR d 248 0 [vA 200, vI a1, vI a2, vU, vU, vU, vU] [] S M Q
set_option maxRecDepth 100000 in
theorem b_X9_mostAlike_0 {d : Nat} {S : mSh} {M : mMem} {Q : Option mV → mSh → mMem → Prop} {x1 x2 : Int} (k : WP PR d 248 5 [vA 200, vI x1, vI x2, vI 0, vI 0, vU, vU] [] S M Q) : WP PR d 248 0 [vA 200, vI x1, vI x2, vU, vU, vU, vU] [] S M Q := by
  refine WP.bl 4 5 rfl ?_
  exact k
set_option maxRecDepth 100000 in
theorem b_X9_mostAlike_5 {d : Nat} {S : mSh} {M : mMem} {Q : Option mV → mSh → mMem → Prop} {x1 x2 x3 x4 : Int} {u5 u6 : mV} (L : Lay S) (kt : M 202 0 ≤ x4 → WP PR d 248 103 [vA 200, vI x1, vI x2, vI x3, vI x4, u5, u6] [] S M Q) (kf : x4 < M 202 0 → WP PR d 248 16 [vA 200, vI x1, vI x2, vI x3, vI x4, u5, u6] [] S M Q) : WP PR d 248 5 [vA 200, vI x1, vI x2, vI x3, vI x4, u5, u6] [] S M Q := by
  refine WP.if2 5 16 13 .ge 90 (0, 0, 0, 0) 103 rfl rfl ?_
  exact And.intro (⟨lo200 L, lf200_3 L⟩) (And.intro (inA_of (lo202 L) (ll202 L) (by decide)) (⟨kt, fun hc => kf (Int.not_le.mp hc)⟩))
set_option maxRecDepth 100000 in
theorem b_X9_mostAlike_16 {d : Nat} {S : mSh} {M : mMem} {Q : Option mV → mSh → mMem → Prop} {x1 x2 x3 x4 : Int} {u5 u6 : mV} (k : WP PR d 248 22 [vA 200, vI x1, vI x2, vI x3, vI x4, vI 0, vI 0] [] S M Q) : WP PR d 248 16 [vA 200, vI x1, vI x2, vI x3, vI x4, u5, u6] [] S M Q := by
  refine WP.bl 4 22 rfl ?_
  exact k
set_option maxRecDepth 100000 in
theorem b_X9_mostAlike_22 {d : Nat} {S : mSh} {M : mMem} {Q : Option mV → mSh → mMem → Prop} {x1 x2 x3 x4 x5 x6 : Int} (L : Lay S) (kt : M 202 0 ≤ x6 → WP PR d 248 84 [vA 200, vI x1, vI x2, vI x3, vI x4, vI x5, vI x6] [] S M Q) (kf : x6 < M 202 0 → WP PR d 248 33 [vA 200, vI x1, vI x2, vI x3, vI x4, vI x5, vI x6] [] S M Q) : WP PR d 248 22 [vA 200, vI x1, vI x2, vI x3, vI x4, vI x5, vI x6] [] S M Q := by
  refine WP.if2 5 33 30 .ge 54 (0, 0, 0, 0) 84 rfl rfl ?_
  exact And.intro (⟨lo200 L, lf200_3 L⟩) (And.intro (inA_of (lo202 L) (ll202 L) (by decide)) (⟨kt, fun hc => kf (Int.not_le.mp hc)⟩))
set_option maxRecDepth 100000 in
theorem b_X9_mostAlike_33 {d : Nat} {S : mSh} {M : mMem} {Q : Option mV → mSh → mMem → Prop} {x1 x2 x3 x4 x5 x6 : Int} (k : WP PR d 133 0 [vI x1, vI x4] [] S M (fun r S2 M2 => WP PR (d + 1) 248 41 [vA 200, vI x1, vI x2, vI x3, vI x4, vI x5, vI x6] (r.toList ++ [vI x5]) S2 M2 Q)) : WP PR (d + 1) 248 33 [vA 200, vI x1, vI x2, vI x3, vI x4, vI x5, vI x6] [] S M Q := by
  refine WP.ca 3 41 38 (.invokestatic 549) (0, 133, 0, 0) rfl ?_
  exact ⟨rfl, rfl, rfl, trivial, rfl, k⟩
set_option maxRecDepth 100000 in
theorem b_X9_mostAlike_41 {d : Nat} {S : mSh} {M : mMem} {Q : Option mV → mSh → mMem → Prop} {x1 x2 x3 x4 x5 x6 s0 s1 : Int} (kt : s1 = 0 → WP PR d 248 74 [vA 200, vI x1, vI x2, vI x3, vI x4, vI x5, vI x6] [vI s0] S M Q) (kf : ¬ s1 = 0 → WP PR d 248 44 [vA 200, vI x1, vI x2, vI x3, vI x4, vI x5, vI x6] [vI s0] S M Q) : WP PR d 248 41 [vA 200, vI x1, vI x2, vI x3, vI x4, vI x5, vI x6] [vI s1, vI s0] S M Q := by
  refine WP.if0 0 44 41 .eq 33 (0, 0, 0, 0) 74 rfl rfl ?_
  exact ⟨kt, fun hc => kf hc⟩
set_option maxRecDepth 100000 in
theorem b_X9_mostAlike_44 {d : Nat} {S : mSh} {M : mMem} {Q : Option mV → mSh → mMem → Prop} {x1 x2 x3 x4 x5 x6 s0 : Int} (k : WP PR d 133 0 [vI x1, vI x6] [] S M (fun r S2 M2 => WP PR (d + 1) 248 50 [vA 200, vI x1, vI x2, vI x3, vI x4, vI x5, vI x6] (r.toList ++ [vI s0]) S2 M2 Q)) : WP PR (d + 1) 248 44 [vA 200, vI x1, vI x2, vI x3, vI x4, vI x5, vI x6] [vI s0] S M Q := by
  refine WP.ca 2 50 47 (.invokestatic 549) (0, 133, 0, 0) rfl ?_
  exact ⟨rfl, rfl, rfl, trivial, rfl, k⟩
set_option maxRecDepth 100000 in
theorem b_X9_mostAlike_50 {d : Nat} {S : mSh} {M : mMem} {Q : Option mV → mSh → mMem → Prop} {x1 x2 x3 x4 x5 x6 s0 s1 : Int} (kt : s1 = 0 → WP PR d 248 74 [vA 200, vI x1, vI x2, vI x3, vI x4, vI x5, vI x6] [vI s0] S M Q) (kf : ¬ s1 = 0 → WP PR d 248 53 [vA 200, vI x1, vI x2, vI x3, vI x4, vI x5, vI x6] [vI s0] S M Q) : WP PR d 248 50 [vA 200, vI x1, vI x2, vI x3, vI x4, vI x5, vI x6] [vI s1, vI s0] S M Q := by
  refine WP.if0 0 53 50 .eq 24 (0, 0, 0, 0) 74 rfl rfl ?_
  exact ⟨kt, fun hc => kf hc⟩
set_option maxRecDepth 100000 in
theorem b_X9_mostAlike_53 {d : Nat} {S : mSh} {M : mMem} {Q : Option mV → mSh → mMem → Prop} {x1 x2 x3 x4 x5 x6 s0 : Int} (L : Lay S) (k : WP PR d 245 0 [vA 200, vI x6, vI x2, vU] [] S M (fun r S2 M2 => WP PR (d + 1) 248 60 [vA 200, vI x1, vI x2, vI x3, vI x4, vI x5, vI x6] (r.toList ++ [vI s0]) S2 M2 Q)) : WP PR (d + 1) 248 53 [vA 200, vI x1, vI x2, vI x3, vI x4, vI x5, vI x6] [vI s0] S M Q := by
  refine WP.ca 3 60 57 (.invokevirtual 543) (0, 245, 0, 0) rfl ?_
  exact ⟨rfl, rfl, rfl, lo200 L, rfl, k⟩
set_option maxRecDepth 100000 in
theorem b_X9_mostAlike_60 {d : Nat} {S : mSh} {M : mMem} {Q : Option mV → mSh → mMem → Prop} {x1 x2 x3 x4 x5 x6 s0 s1 : Int} (L : Lay S) (k : WP PR d 245 0 [vA 200, vI x4, vI x2, vU] [] S M (fun r S2 M2 => WP PR (d + 1) 248 67 [vA 200, vI x1, vI x2, vI x3, vI x4, vI x5, vI x6] (r.toList ++ [vI s1, vI s0]) S2 M2 Q)) : WP PR (d + 1) 248 60 [vA 200, vI x1, vI x2, vI x3, vI x4, vI x5, vI x6] [vI s1, vI s0] S M Q := by
  refine WP.ca 3 67 64 (.invokevirtual 543) (0, 245, 0, 0) rfl ?_
  exact ⟨rfl, rfl, rfl, lo200 L, rfl, k⟩
set_option maxRecDepth 100000 in
theorem b_X9_mostAlike_67 {d : Nat} {S : mSh} {M : mMem} {Q : Option mV → mSh → mMem → Prop} {x1 x2 x3 x4 x5 x6 s0 s1 s2 : Int} (kt : ¬ s1 = s2 → WP PR d 248 74 [vA 200, vI x1, vI x2, vI x3, vI x4, vI x5, vI x6] [vI s0] S M Q) (kf : s1 = s2 → WP PR d 248 70 [vA 200, vI x1, vI x2, vI x3, vI x4, vI x5, vI x6] [vI s0] S M Q) : WP PR d 248 67 [vA 200, vI x1, vI x2, vI x3, vI x4, vI x5, vI x6] [vI s2, vI s1, vI s0] S M Q := by
  refine WP.if2 0 70 67 .ne 7 (0, 0, 0, 0) 74 rfl rfl ?_
  exact ⟨kt, fun hc => kf (Decidable.not_not.mp hc)⟩
set_option maxRecDepth 100000 in
theorem b_X9_mostAlike_70 {d : Nat} {S : mSh} {M : mMem} {Q : Option mV → mSh → mMem → Prop} {x1 x2 x3 x4 x5 x6 s0 : Int} (hc : R32 (s0 + 1) ∧ R32 (x6 + 1)) (k : WP PR d 248 22 [vA 200, vI x1, vI x2, vI x3, vI x4, vI (s0 + 1), vI (x6 + 1)] [] S M Q) : WP PR d 248 70 [vA 200, vI x1, vI x2, vI x3, vI x4, vI x5, vI x6] [vI s0] S M Q := by
  refine WP.gt 1 71 4 (0, 0, 0, 0) _ 75 rfl rfl ?_
  show WP PR d 248 75 [vA 200, vI x1, vI x2, vI x3, vI x4, vI x5, vI x6] [vI 1, vI s0] S M Q
  refine WP.gt 3 81 (-59) (0, 0, 0, 0) _ 22 rfl rfl ?_
  exact And.intro (hc.1) (And.intro (hc.2) (k))
set_option maxRecDepth 100000 in
theorem b_X9_mostAlike_74 {d : Nat} {S : mSh} {M : mMem} {Q : Option mV → mSh → mMem → Prop} {x1 x2 x3 x4 x5 x6 s0 : Int} (hc : R32 (s0 + 0) ∧ R32 (x6 + 1)) (k : WP PR d 248 22 [vA 200, vI x1, vI x2, vI x3, vI x4, vI (s0 + 0), vI (x6 + 1)] [] S M Q) : WP PR d 248 74 [vA 200, vI x1, vI x2, vI x3, vI x4, vI x5, vI x6] [vI s0] S M Q := by
  refine WP.gt 4 81 (-59) (0, 0, 0, 0) _ 22 rfl rfl ?_
  exact And.intro (hc.1) (And.intro (hc.2) (k))
set_option maxRecDepth 100000 in
theorem b_X9_mostAlike_84 {d : Nat} {S : mSh} {M : mMem} {Q : Option mV → mSh → mMem → Prop} {x1 x2 x3 x4 x5 x6 : Int} (kt : x5 ≤ x3 → WP PR d 248 95 [vA 200, vI x1, vI x2, vI x3, vI x4, vI x5, vI x6] [] S M Q) (kf : x3 < x5 → WP PR d 248 90 [vA 200, vI x1, vI x2, vI x3, vI x4, vI x5, vI x6] [] S M Q) : WP PR d 248 84 [vA 200, vI x1, vI x2, vI x3, vI x4, vI x5, vI x6] [] S M Q := by
  refine WP.if2 2 90 87 .le 8 (0, 0, 0, 0) 95 rfl rfl ?_
  exact ⟨kt, fun hc => kf (Int.not_le.mp hc)⟩
set_option maxRecDepth 100000 in
theorem b_X9_mostAlike_90 {d : Nat} {S : mSh} {M : mMem} {Q : Option mV → mSh → mMem → Prop} {x1 x2 x3 x4 x5 x6 : Int} (hc : R32 (x4 + 1)) (k : WP PR d 248 5 [vA 200, vI x1, vI x2, vI x5, vI (x4 + 1), vI x5, vI x6] [] S M Q) : WP PR d 248 90 [vA 200, vI x1, vI x2, vI x3, vI x4, vI x5, vI x6] [] S M Q := by
  refine WP.gt 1 92 4 (0, 0, 0, 0) _ 96 rfl rfl ?_
  show WP PR d 248 96 [vA 200, vI x1, vI x2, vI x3, vI x4, vI x5, vI x6] [vI x5] S M Q
  refine WP.gt 2 100 (-95) (0, 0, 0, 0) _ 5 rfl rfl ?_
  exact And.intro (hc) (k)
set_option maxRecDepth 100000 in
theorem b_X9_mostAlike_95 {d : Nat} {S : mSh} {M : mMem} {Q : Option mV → mSh → mMem → Prop} {x1 x2 x3 x4 x5 x6 : Int} (hc : R32 (x4 + 1)) (k : WP PR d 248 5 [vA 200, vI x1, vI x2, vI x3, vI (x4 + 1), vI x5, vI x6] [] S M Q) : WP PR d 248 95 [vA 200, vI x1, vI x2, vI x3, vI x4, vI x5, vI x6] [] S M Q := by
  refine WP.gt 3 100 (-95) (0, 0, 0, 0) _ 5 rfl rfl ?_
  exact And.intro (hc) (k)
set_option maxRecDepth 100000 in
theorem b_X9_mostAlike_103 {d : Nat} {S : mSh} {M : mMem} {Q : Option mV → mSh → mMem → Prop} {x1 x2 x3 x4 : Int} {u5 u6 : mV} (k : Q (some (vI x3)) S M) : WP PR d 248 103 [vA 200, vI x1, vI x2, vI x3, vI x4, u5, u6] [] S M Q := by
  refine WP.re 1 104 .ireturn (0, 0, 0, 0) _ rfl ?_
  exact ⟨rfl, rfl, trivial, k⟩
/-- SoleraCellarModel.taste(I)I -/
abbrev e_X9_taste (d : Nat) (a1 : Int) (S : mSh) (M : mMem) (Q : Option mV → mSh → mMem → Prop) : Prop := WP PR d 249 0 [vA 200, vI a1, vU, vU, vU, vU, vU] [] S M Q
set_option maxRecDepth 100000 in
theorem b_X9_taste_0 {d : Nat} {S : mSh} {M : mMem} {Q : Option mV → mSh → mMem → Prop} {x1 : Int} (L : Lay S) (k : WP PR d 246 0 [vA 200, vU, vU, vU, vU] [] S (up M 200 0 0) (fun r S2 M2 => WP PR (d + 1) 249 9 [vA 200, vI x1, vU, vU, vU, vU, vU] (r.toList ++ []) S2 M2 Q)) : WP PR (d + 1) 249 0 [vA 200, vI x1, vU, vU, vU, vU, vU] [] S M Q := by
  refine WP.ca 4 9 6 (.invokevirtual 546) (0, 246, 0, 0) rfl ?_
  exact And.intro (lo200 L) (⟨rfl, rfl, rfl, lo200 L, rfl, k⟩)
set_option maxRecDepth 100000 in
theorem b_X9_taste_9 {d : Nat} {S : mSh} {M : mMem} {Q : Option mV → mSh → mMem → Prop} {x1 s0 : Int} {u2 u3 u4 u5 u6 : mV} (k : WP PR d 132 0 [vL x1, vU, vL 0, vU, vL 1, vU] [] S M (fun r S2 M2 => WP PR (d + 1) 249 17 [vA 200, vI x1, vI s0, u3, u4, u5, u6] (r.toList ++ []) S2 M2 Q)) : WP PR (d + 1) 249 9 [vA 200, vI x1, u2, u3, u4, u5, u6] [vI s0] S M Q := by
  refine WP.ca 5 17 14 (.invokestatic 153) (0, 132, 0, 0) rfl ?_
  exact ⟨rfl, rfl, rfl, trivial, rfl, k⟩
set_option maxRecDepth 100000 in
theorem b_X9_taste_17 {d : Nat} {S : mSh} {M : mMem} {Q : Option mV → mSh → mMem → Prop} {x1 x2 s0 : Int} {u3 u4 u5 u6 : mV} (kt : s0 = 0 → WP PR d 249 24 [vA 200, vI x1, vI x2, u3, u4, u5, u6] [] S M Q) (kf : ¬ s0 = 0 → WP PR d 249 20 [vA 200, vI x1, vI x2, u3, u4, u5, u6] [] S M Q) : WP PR d 249 17 [vA 200, vI x1, vI x2, u3, u4, u5, u6] [vI s0] S M Q := by
  refine WP.if0 0 20 17 .eq 7 (0, 0, 0, 0) 24 rfl rfl ?_
  exact ⟨kt, fun hc => kf hc⟩
set_option maxRecDepth 100000 in
theorem b_X9_taste_20 {d : Nat} {S : mSh} {M : mMem} {Q : Option mV → mSh → mMem → Prop} {x1 x2 : Int} {u3 u4 u5 u6 : mV} (kt : ¬ x2 = 0 → WP PR d 249 26 [vA 200, vI x1, vI x2, u3, u4, u5, u6] [] S M Q) (kf : x2 = 0 → WP PR d 249 24 [vA 200, vI x1, vI x2, u3, u4, u5, u6] [] S M Q) : WP PR d 249 20 [vA 200, vI x1, vI x2, u3, u4, u5, u6] [] S M Q := by
  refine WP.if0 1 24 21 .ne 5 (0, 0, 0, 0) 26 rfl rfl ?_
  exact ⟨kt, fun hc => kf (Decidable.not_not.mp hc)⟩
set_option maxRecDepth 100000 in
theorem b_X9_taste_24 {d : Nat} {S : mSh} {M : mMem} {Q : Option mV → mSh → mMem → Prop} {x1 x2 : Int} {u3 u4 u5 u6 : mV} (k : Q (some (vI (-1))) S M) : WP PR d 249 24 [vA 200, vI x1, vI x2, u3, u4, u5, u6] [] S M Q := by
  refine WP.re 1 25 .ireturn (0, 0, 0, 0) _ rfl ?_
  exact ⟨rfl, rfl, trivial, k⟩
set_option maxRecDepth 100000 in
theorem b_X9_taste_26 {d : Nat} {S : mSh} {M : mMem} {Q : Option mV → mSh → mMem → Prop} {x1 x2 : Int} {u3 u4 u5 u6 : mV} (k : WP PR d 249 36 [vA 200, vI x1, vI x2, vI 100000000, vI (-1), vI 0, u6] [] S M Q) : WP PR d 249 26 [vA 200, vI x1, vI x2, u3, u4, u5, u6] [] S M Q := by
  refine WP.bl 6 36 rfl ?_
  exact k
set_option maxRecDepth 100000 in
theorem b_X9_taste_36 {d : Nat} {S : mSh} {M : mMem} {Q : Option mV → mSh → mMem → Prop} {x1 x2 x3 x4 x5 : Int} {u6 : mV} (kt : 3 ≤ x5 → WP PR d 249 85 [vA 200, vI x1, vI x2, vI x3, vI x4, vI x5, u6] [] S M Q) (kf : x5 < 3 → WP PR d 249 42 [vA 200, vI x1, vI x2, vI x3, vI x4, vI x5, u6] [] S M Q) : WP PR d 249 36 [vA 200, vI x1, vI x2, vI x3, vI x4, vI x5, u6] [] S M Q := by
  refine WP.if2 2 42 39 .ge 46 (0, 0, 0, 0) 85 rfl rfl ?_
  exact ⟨kt, fun hc => kf (Int.not_le.mp hc)⟩
set_option maxRecDepth 100000 in
theorem b_X9_taste_42 {d : Nat} {S : mSh} {M : mMem} {Q : Option mV → mSh → mMem → Prop} {x1 x2 x3 x4 x5 : Int} {u6 : mV} (L : Lay S) (k : WP PR d 248 0 [vA 200, vI x2, vI x5, vU, vU, vU, vU] [] S M (fun r S2 M2 => WP PR (d + 1) 249 49 [vA 200, vI x1, vI x2, vI x3, vI x4, vI x5, u6] (r.toList ++ []) S2 M2 Q)) : WP PR (d + 1) 249 42 [vA 200, vI x1, vI x2, vI x3, vI x4, vI x5, u6] [] S M Q := by
  refine WP.ca 3 49 46 (.invokevirtual 553) (0, 248, 0, 0) rfl ?_
  exact ⟨rfl, rfl, rfl, lo200 L, rfl, k⟩
set_option maxRecDepth 100000 in
theorem b_X9_taste_49 {d : Nat} {S : mSh} {M : mMem} {Q : Option mV → mSh → mMem → Prop} {x1 x2 x3 x4 x5 s0 : Int} {u6 : mV} (kt : x3 ≤ s0 → WP PR d 249 62 [vA 200, vI x1, vI x2, vI x3, vI x4, vI x5, vI s0] [] S M Q) (kf : s0 < x3 → WP PR d 249 57 [vA 200, vI x1, vI x2, vI x3, vI x4, vI x5, vI s0] [] S M Q) : WP PR d 249 49 [vA 200, vI x1, vI x2, vI x3, vI x4, vI x5, u6] [vI s0] S M Q := by
  refine WP.if2 3 57 54 .ge 8 (0, 0, 0, 0) 62 rfl rfl ?_
  exact ⟨kt, fun hc => kf (Int.not_le.mp hc)⟩
set_option maxRecDepth 100000 in
theorem b_X9_taste_57 {d : Nat} {S : mSh} {M : mMem} {Q : Option mV → mSh → mMem → Prop} {x1 x2 x3 x4 x5 x6 : Int} (kt : x3 ≤ x6 → WP PR d 249 77 [vA 200, vI x1, vI x2, vI x3, vI x5, vI x5, vI x6] [] S M Q) (kf : x6 < x3 → WP PR d 249 72 [vA 200, vI x1, vI x2, vI x3, vI x5, vI x5, vI x6] [] S M Q) : WP PR d 249 57 [vA 200, vI x1, vI x2, vI x3, vI x4, vI x5, vI x6] [] S M Q := by
  refine WP.gt 1 59 5 (0, 0, 0, 0) _ 64 rfl rfl ?_
  show WP PR d 249 64 [vA 200, vI x1, vI x2, vI x3, vI x4, vI x5, vI x6] [vI x5] S M Q
  refine WP.if2 3 72 69 .ge 8 (0, 0, 0, 0) 77 rfl rfl ?_
  exact ⟨kt, fun hc => kf (Int.not_le.mp hc)⟩
set_option maxRecDepth 100000 in
theorem b_X9_taste_62 {d : Nat} {S : mSh} {M : mMem} {Q : Option mV → mSh → mMem → Prop} {x1 x2 x3 x4 x5 x6 : Int} (kt : x3 ≤ x6 → WP PR d 249 77 [vA 200, vI x1, vI x2, vI x3, vI x4, vI x5, vI x6] [] S M Q) (kf : x6 < x3 → WP PR d 249 72 [vA 200, vI x1, vI x2, vI x3, vI x4, vI x5, vI x6] [] S M Q) : WP PR d 249 62 [vA 200, vI x1, vI x2, vI x3, vI x4, vI x5, vI x6] [] S M Q := by
  refine WP.if2 4 72 69 .ge 8 (0, 0, 0, 0) 77 rfl rfl ?_
  exact ⟨kt, fun hc => kf (Int.not_le.mp hc)⟩
set_option maxRecDepth 100000 in
theorem b_X9_taste_72 {d : Nat} {S : mSh} {M : mMem} {Q : Option mV → mSh → mMem → Prop} {x1 x2 x3 x4 x5 x6 : Int} (hc : R32 (x5 + 1)) (k : WP PR d 249 36 [vA 200, vI x1, vI x2, vI x6, vI x4, vI (x5 + 1), vI x6] [] S M Q) : WP PR d 249 72 [vA 200, vI x1, vI x2, vI x3, vI x4, vI x5, vI x6] [] S M Q := by
  refine WP.gt 1 74 4 (0, 0, 0, 0) _ 78 rfl rfl ?_
  show WP PR d 249 78 [vA 200, vI x1, vI x2, vI x3, vI x4, vI x5, vI x6] [vI x6] S M Q
  refine WP.gt 2 82 (-46) (0, 0, 0, 0) _ 36 rfl rfl ?_
  exact And.intro (hc) (k)
set_option maxRecDepth 100000 in
theorem b_X9_taste_77 {d : Nat} {S : mSh} {M : mMem} {Q : Option mV → mSh → mMem → Prop} {x1 x2 x3 x4 x5 x6 : Int} (hc : R32 (x5 + 1)) (k : WP PR d 249 36 [vA 200, vI x1, vI x2, vI x3, vI x4, vI (x5 + 1), vI x6] [] S M Q) : WP PR d 249 77 [vA 200, vI x1, vI x2, vI x3, vI x4, vI x5, vI x6] [] S M Q := by
  refine WP.gt 3 82 (-46) (0, 0, 0, 0) _ 36 rfl rfl ?_
  exact And.intro (hc) (k)
set_option maxRecDepth 100000 in
theorem b_X9_taste_85 {d : Nat} {S : mSh} {M : mMem} {Q : Option mV → mSh → mMem → Prop} {x1 x2 x3 x4 x5 : Int} {u6 : mV} (kt : ¬ x1 = 0 → WP PR d 249 94 [vA 200, vI x1, vI x2, vI x3, vI x4, vI x5, u6] [] S M Q) (kf : x1 = 0 → WP PR d 249 89 [vA 200, vI x1, vI x2, vI x3, vI x4, vI x5, u6] [] S M Q) : WP PR d 249 85 [vA 200, vI x1, vI x2, vI x3, vI x4, vI x5, u6] [] S M Q := by
  refine WP.if0 1 89 86 .ne 8 (0, 0, 0, 0) 94 rfl rfl ?_
  exact ⟨kt, fun hc => kf (Decidable.not_not.mp hc)⟩
set_option maxRecDepth 100000 in
theorem b_X9_taste_89 {d : Nat} {S : mSh} {M : mMem} {Q : Option mV → mSh → mMem → Prop} {x1 x2 x3 x4 x5 : Int} {u6 : mV} (k : Q (some (vI x4)) S M) : WP PR d 249 89 [vA 200, vI x1, vI x2, vI x3, vI x4, vI x5, u6] [] S M Q := by
  refine WP.gt 1 91 4 (0, 0, 0, 0) _ 95 rfl rfl ?_
  show WP PR d 249 95 [vA 200, vI x1, vI x2, vI x3, vI x4, vI x5, u6] [vI x4] S M Q
  refine WP.re 0 95 .ireturn (0, 0, 0, 0) _ rfl ?_
  exact ⟨rfl, rfl, trivial, k⟩
set_option maxRecDepth 100000 in
theorem b_X9_taste_94 {d : Nat} {S : mSh} {M : mMem} {Q : Option mV → mSh → mMem → Prop} {x1 x2 x3 x4 x5 : Int} {u6 : mV} (k : Q (some (vI x3)) S M) : WP PR d 249 94 [vA 200, vI x1, vI x2, vI x3, vI x4, vI x5, u6] [] S M Q := by
  refine WP.re 1 95 .ireturn (0, 0, 0, 0) _ rfl ?_
  exact ⟨rfl, rfl, trivial, k⟩
/-- SoleraCellarModel.few(II)J -/
abbrev e_X9_few (d : Nat) (a1 a2 : Int) (S : mSh) (M : mMem) (Q : Option mV → mSh → mMem → Prop) : Prop := WP PR d 250 0 [vA 200, vI a1, vI a2, vU, vU, vU, vU, vU] [] S M Q
set_option maxRecDepth 100000 in
theorem b_X9_few_0 {d : Nat} {S : mSh} {M : mMem} {Q : Option mV → mSh → mMem → Prop} {x1 x2 : Int} (L : Lay S) (k : WP PR d 132 0 [vL x1, vU, vL 1, vU, vL 20, vU] [] S (up M 200 0 0) (fun r S2 M2 => WP PR (d + 1) 250 14 [vA 200, vI x1, vI x2, vU, vU, vU, vU, vU] (r.toList ++ []) S2 M2 Q)) : WP PR (d + 1) 250 0 [vA 200, vI x1, vI x2, vU, vU, vU, vU, vU] [] S M Q := by
  refine WP.ca 7 14 11 (.invokestatic 153) (0, 132, 0, 0) rfl ?_
  exact And.intro (lo200 L) (⟨rfl, rfl, rfl, trivial, rfl, k⟩)
set_option maxRecDepth 100000 in
theorem b_X9_few_14 {d : Nat} {S : mSh} {M : mMem} {Q : Option mV → mSh → mMem → Prop} {x1 x2 s0 : Int} {u3 u4 u5 u6 u7 : mV} (kt : s0 = 0 → WP PR d 250 29 [vA 200, vI x1, vI x2, u3, u4, u5, u6, u7] [] S M Q) (kf : ¬ s0 = 0 → WP PR d 250 17 [vA 200, vI x1, vI x2, u3, u4, u5, u6, u7] [] S M Q) : WP PR d 250 14 [vA 200, vI x1, vI x2, u3, u4, u5, u6, u7] [vI s0] S M Q := by
  refine WP.if0 0 17 14 .eq 15 (0, 0, 0, 0) 29 rfl rfl ?_
  exact ⟨kt, fun hc => kf hc⟩
set_option maxRecDepth 100000 in
theorem b_X9_few_17 {d : Nat} {S : mSh} {M : mMem} {Q : Option mV → mSh → mMem → Prop} {x1 x2 : Int} {u3 u4 u5 u6 u7 : mV} (k : WP PR d 132 0 [vL x2, vU, vL 0, vU, vL 99, vU] [] S M (fun r S2 M2 => WP PR (d + 1) 250 26 [vA 200, vI x1, vI x2, u3, u4, u5, u6, u7] (r.toList ++ []) S2 M2 Q)) : WP PR (d + 1) 250 17 [vA 200, vI x1, vI x2, u3, u4, u5, u6, u7] [] S M Q := by
  refine WP.ca 4 26 23 (.invokestatic 153) (0, 132, 0, 0) rfl ?_
  exact ⟨rfl, rfl, rfl, trivial, rfl, k⟩
set_option maxRecDepth 100000 in
theorem b_X9_few_26 {d : Nat} {S : mSh} {M : mMem} {Q : Option mV → mSh → mMem → Prop} {x1 x2 s0 : Int} {u3 u4 u5 u6 u7 : mV} (kt : ¬ s0 = 0 → WP PR d 250 33 [vA 200, vI x1, vI x2, u3, u4, u5, u6, u7] [] S M Q) (kf : s0 = 0 → WP PR d 250 29 [vA 200, vI x1, vI x2, u3, u4, u5, u6, u7] [] S M Q) : WP PR d 250 26 [vA 200, vI x1, vI x2, u3, u4, u5, u6, u7] [vI s0] S M Q := by
  refine WP.if0 0 29 26 .ne 7 (0, 0, 0, 0) 33 rfl rfl ?_
  exact ⟨kt, fun hc => kf (Decidable.not_not.mp hc)⟩
set_option maxRecDepth 100000 in
theorem b_X9_few_29 {d : Nat} {S : mSh} {M : mMem} {Q : Option mV → mSh → mMem → Prop} {x1 x2 : Int} {u3 u4 u5 u6 u7 : mV} (k : Q (some (vL (-1))) S M) : WP PR d 250 29 [vA 200, vI x1, vI x2, u3, u4, u5, u6, u7] [] S M Q := by
  refine WP.re 1 32 .lreturn (0, 0, 0, 0) _ rfl ?_
  exact ⟨rfl, rfl, trivial, k⟩
set_option maxRecDepth 100000 in
theorem b_X9_few_33 {d : Nat} {S : mSh} {M : mMem} {Q : Option mV → mSh → mMem → Prop} {x1 x2 : Int} {u3 u4 u5 u6 u7 : mV} (k : WP PR d 250 35 [vA 200, vI x1, vI x2, vI 0, u4, u5, u6, u7] [] S M Q) : WP PR d 250 33 [vA 200, vI x1, vI x2, u3, u4, u5, u6, u7] [] S M Q := by
  refine WP.bl 2 35 rfl ?_
  exact k
set_option maxRecDepth 100000 in
theorem b_X9_few_35 {d : Nat} {S : mSh} {M : mMem} {Q : Option mV → mSh → mMem → Prop} {x1 x2 x3 : Int} {u4 u5 u6 u7 : mV} (kt : 21 ≤ x3 → WP PR d 250 64 [vA 200, vI x1, vI x2, vI x3, u4, u5, u6, u7] [] S M Q) (kf : x3 < 21 → WP PR d 250 41 [vA 200, vI x1, vI x2, vI x3, u4, u5, u6, u7] [] S M Q) : WP PR d 250 35 [vA 200, vI x1, vI x2, vI x3, u4, u5, u6, u7] [] S M Q := by
  refine WP.if2 2 41 38 .ge 26 (0, 0, 0, 0) 64 rfl rfl ?_
  exact ⟨kt, fun hc => kf (Int.not_le.mp hc)⟩
set_option maxRecDepth 100000 in
theorem b_X9_few_41 {d : Nat} {S : mSh} {M : mMem} {Q : Option mV → mSh → mMem → Prop} {x1 x2 x3 : Int} {u4 u5 u6 u7 : mV} (L : Lay S) (kt : ¬ x3 = 0 → WP PR d 250 56 [vA 200, vI x1, vI x2, vI x3, u4, u5, u6, u7] [vI x3, vA 224] S M Q) (kf : x3 = 0 → WP PR d 250 50 [vA 200, vI x1, vI x2, vI x3, u4, u5, u6, u7] [vI x3, vA 224] S M Q) : WP PR d 250 41 [vA 200, vI x1, vI x2, vI x3, u4, u5, u6, u7] [] S M Q := by
  refine WP.if0 4 50 47 .ne 9 (0, 0, 0, 0) 56 rfl rfl ?_
  exact And.intro (⟨lo200 L, lf200_51 L⟩) (⟨kt, fun hc => kf (Decidable.not_not.mp hc)⟩)
set_option maxRecDepth 100000 in
theorem b_X9_few_50 {d : Nat} {S : mSh} {M : mMem} {Q : Option mV → mSh → mMem → Prop} {x1 x2 x3 s0 s1 : Int} {u4 u5 u6 u7 : mV} (ho1 : isO S s0 21) (hc : (0 ≤ s1 ∧ s1 < sL S s0) ∧ R32 (x3 + 1)) (k : WP PR d 250 35 [vA 200, vI x1, vI x2, vI (x3 + 1), u4, u5, u6, u7] [] S (up M s0 s1 1000000000000) Q) : WP PR d 250 50 [vA 200, vI x1, vI x2, vI x3, u4, u5, u6, u7] [vI s1, vA s0] S M Q := by
  refine WP.gt 1 53 4 (0, 0, 0, 0) _ 57 rfl rfl ?_
  show WP PR d 250 57 [vA 200, vI x1, vI x2, vI x3, u4, u5, u6, u7] [vL 1000000000000, vI s1, vA s0] S M Q
  refine WP.gt 2 61 (-26) (0, 0, 0, 0) _ 35 rfl rfl ?_
  exact And.intro (inA_of (ho1) (rfl) hc.1) (And.intro (hc.2) (k))
set_option maxRecDepth 100000 in
theorem b_X9_few_56 {d : Nat} {S : mSh} {M : mMem} {Q : Option mV → mSh → mMem → Prop} {x1 x2 x3 s0 s1 : Int} {u4 u5 u6 u7 : mV} (ho1 : isO S s0 21) (hc : (0 ≤ s1 ∧ s1 < sL S s0) ∧ R32 (x3 + 1)) (k : WP PR d 250 35 [vA 200, vI x1, vI x2, vI (x3 + 1), u4, u5, u6, u7] [] S (up M s0 s1 0) Q) : WP PR d 250 56 [vA 200, vI x1, vI x2, vI x3, u4, u5, u6, u7] [vI s1, vA s0] S M Q := by
  refine WP.gt 3 61 (-26) (0, 0, 0, 0) _ 35 rfl rfl ?_
  exact And.intro (inA_of (ho1) (rfl) hc.1) (And.intro (hc.2) (k))
set_option maxRecDepth 100000 in
theorem b_X9_few_64 {d : Nat} {S : mSh} {M : mMem} {Q : Option mV → mSh → mMem → Prop} {x1 x2 x3 : Int} {u4 u5 u6 u7 : mV} (L : Lay S) (k : WP PR d 250 75 [vA 200, vI x1, vI x2, vI (M 202 6), vI 0, u5, u6, u7] [] S M Q) : WP PR d 250 64 [vA 200, vI x1, vI x2, vI x3, u4, u5, u6, u7] [] S M Q := by
  refine WP.bl 7 75 rfl ?_
  exact And.intro (⟨lo200 L, lf200_3 L⟩) (And.intro (inA_of (lo202 L) (ll202 L) (by decide)) (k))
set_option maxRecDepth 100000 in
theorem b_X9_few_75 {d : Nat} {S : mSh} {M : mMem} {Q : Option mV → mSh → mMem → Prop} {x1 x2 x3 x4 : Int} {u5 u6 u7 : mV} (kt : x2 ≤ x4 → WP PR d 250 152 [vA 200, vI x1, vI x2, vI x3, vI x4, u5, u6, u7] [] S M Q) (kf : x4 < x2 → WP PR d 250 81 [vA 200, vI x1, vI x2, vI x3, vI x4, u5, u6, u7] [] S M Q) : WP PR d 250 75 [vA 200, vI x1, vI x2, vI x3, vI x4, u5, u6, u7] [] S M Q := by
  refine WP.if2 2 81 78 .ge 74 (0, 0, 0, 0) 152 rfl rfl ?_
  exact ⟨kt, fun hc => kf (Int.not_le.mp hc)⟩
set_option maxRecDepth 100000 in
theorem b_X9_few_81 {d : Nat} {S : mSh} {M : mMem} {Q : Option mV → mSh → mMem → Prop} {x1 x2 x3 x4 : Int} {u5 u6 u7 : mV} (hc : R32 (x1 - 1)) (k : WP PR d 250 86 [vA 200, vI x1, vI x2, vI x3, vI x4, vI (x1 - 1), u6, u7] [] S M Q) : WP PR d 250 81 [vA 200, vI x1, vI x2, vI x3, vI x4, u5, u6, u7] [] S M Q := by
  refine WP.bl 4 86 rfl ?_
  exact And.intro (hc) (k)
set_option maxRecDepth 100000 in
theorem b_X9_few_86 {d : Nat} {S : mSh} {M : mMem} {Q : Option mV → mSh → mMem → Prop} {x1 x2 x3 x4 x5 : Int} {u6 u7 : mV} (kt : x5 < 0 → WP PR d 250 146 [vA 200, vI x1, vI x2, vI x3, vI x4, vI x5, u6, u7] [] S M Q) (kf : 0 ≤ x5 → WP PR d 250 91 [vA 200, vI x1, vI x2, vI x3, vI x4, vI x5, u6, u7] [] S M Q) : WP PR d 250 86 [vA 200, vI x1, vI x2, vI x3, vI x4, vI x5, u6, u7] [] S M Q := by
  refine WP.if0 1 91 88 .lt 58 (0, 0, 0, 0) 146 rfl rfl ?_
  exact ⟨kt, fun hc => kf (Int.not_lt.mp hc)⟩
set_option maxRecDepth 100000 in
theorem b_X9_few_91 {d : Nat} {S : mSh} {M : mMem} {Q : Option mV → mSh → mMem → Prop} {x1 x2 x3 x4 x5 : Int} {u6 u7 : mV} (L : Lay S) (hc : (0 ≤ x5 ∧ x5 < 21) ∧ R32 (10 - x3) ∧ R64 ((M 224 x5) * (10 - x3)) ∧ R64 (((M 224 x5) * (10 - x3)).tdiv 10) ∧ R32 (x5 + 1) ∧ (0 ≤ x5 + 1 ∧ x5 + 1 < 21) ∧ R64 ((M 224 x5) * x3) ∧ R64 (((M 224 x5) * x3).tdiv 10) ∧ R64 (((up M 224 x5 (((M 224 x5) * (10 - x3)).tdiv 10)) 224 (x5 + 1)) + (((M 224 x5) * x3).tdiv 10)) ∧ R32 (x5 + (-1))) (k : WP PR d 250 86 [vA 200, vI x1, vI x2, vI x3, vI x4, vI (x5 + (-1)), vL (M 224 x5), vU] [] S (up (up M 224 x5 (((M 224 x5) * (10 - x3)).tdiv 10)) 224 (x5 + 1) (((up M 224 x5 (((M 224 x5) * (10 - x3)).tdiv 10)) 224 (x5 + 1)) + (((M 224 x5) * x3).tdiv 10))) Q) : WP PR d 250 91 [vA 200, vI x1, vI x2, vI x3, vI x4, vI x5, u6, u7] [] S M Q := by
  refine WP.gt 33 143 (-57) (0, 0, 0, 0) _ 86 rfl rfl ?_
  exact And.intro (⟨lo200 L, lf200_51 L⟩) (And.intro (inA_of (lo224 L) (ll224 L) hc.1) (And.intro (⟨lo200 L, lf200_51 L⟩) (And.intro (hc.2.1) (And.intro (hc.2.2.1) (And.intro (⟨by decide, hc.2.2.2.1⟩) (And.intro (inA_of (lo224 L) (ll224 L) hc.1) (And.intro (⟨lo200 L, lf200_51 L⟩) (And.intro (hc.2.2.2.2.1) (And.intro (inA_of (lo224 L) (ll224 L) hc.2.2.2.2.2.1) (And.intro (hc.2.2.2.2.2.2.1) (And.intro (⟨by decide, hc.2.2.2.2.2.2.2.1⟩) (And.intro (hc.2.2.2.2.2.2.2.2.1) (And.intro (inA_of (lo224 L) (ll224 L) hc.2.2.2.2.2.1) (And.intro (hc.2.2.2.2.2.2.2.2.2) (k)))))))))))))))
set_option maxRecDepth 100000 in
theorem b_X9_few_146 {d : Nat} {S : mSh} {M : mMem} {Q : Option mV → mSh → mMem → Prop} {x1 x2 x3 x4 x5 : Int} {u6 u7 : mV} (hc : R32 (x4 + 1)) (k : WP PR d 250 75 [vA 200, vI x1, vI x2, vI x3, vI (x4 + 1), vI x5, u6, u7] [] S M Q) : WP PR d 250 146 [vA 200, vI x1, vI x2, vI x3, vI x4, vI x5, u6, u7] [] S M Q := by
  refine WP.gt 1 149 (-74) (0, 0, 0, 0) _ 75 rfl rfl ?_
  exact And.intro (hc) (k)
set_option maxRecDepth 100000 in
theorem b_X9_few_152 {d : Nat} {S : mSh} {M : mMem} {Q : Option mV → mSh → mMem → Prop} {x1 x2 x3 x4 : Int} {u5 u6 u7 : mV} (k : WP PR d 250 158 [vA 200, vI x1, vI x2, vI x3, vL 0, vU, vI 0, u7] [] S M Q) : WP PR d 250 152 [vA 200, vI x1, vI x2, vI x3, vI x4, u5, u6, u7] [] S M Q := by
  refine WP.bl 4 158 rfl ?_
  exact k
set_option maxRecDepth 100000 in
theorem b_X9_few_158 {d : Nat} {S : mSh} {M : mMem} {Q : Option mV → mSh → mMem → Prop} {x1 x2 x3 x4 x6 : Int} {u7 : mV} (kt : x1 ≤ x6 → WP PR d 250 182 [vA 200, vI x1, vI x2, vI x3, vL x4, vU, vI x6, u7] [] S M Q) (kf : x6 < x1 → WP PR d 250 164 [vA 200, vI x1, vI x2, vI x3, vL x4, vU, vI x6, u7] [] S M Q) : WP PR d 250 158 [vA 200, vI x1, vI x2, vI x3, vL x4, vU, vI x6, u7] [] S M Q := by
  refine WP.if2 2 164 161 .ge 21 (0, 0, 0, 0) 182 rfl rfl ?_
  exact ⟨kt, fun hc => kf (Int.not_le.mp hc)⟩
set_option maxRecDepth 100000 in
theorem b_X9_few_164 {d : Nat} {S : mSh} {M : mMem} {Q : Option mV → mSh → mMem → Prop} {x1 x2 x3 x4 x6 : Int} {u7 : mV} (L : Lay S) (hc : (0 ≤ x6 ∧ x6 < 21) ∧ R64 (x4 + (M 224 x6)) ∧ R32 (x6 + 1)) (k : WP PR d 250 158 [vA 200, vI x1, vI x2, vI x3, vL (x4 + (M 224 x6)), vU, vI (x6 + 1), u7] [] S M Q) : WP PR d 250 164 [vA 200, vI x1, vI x2, vI x3, vL x4, vU, vI x6, u7] [] S M Q := by
  refine WP.gt 8 179 (-21) (0, 0, 0, 0) _ 158 rfl rfl ?_
  exact And.intro (⟨lo200 L, lf200_51 L⟩) (And.intro (inA_of (lo224 L) (ll224 L) hc.1) (And.intro (hc.2.1) (And.intro (hc.2.2) (k))))
set_option maxRecDepth 100000 in
theorem b_X9_few_182 {d : Nat} {S : mSh} {M : mMem} {Q : Option mV → mSh → mMem → Prop} {x1 x2 x3 x4 x6 : Int} {u7 : mV} (k : Q (some (vL x4)) S M) : WP PR d 250 182 [vA 200, vI x1, vI x2, vI x3, vL x4, vU, vI x6, u7] [] S M Q := by
  refine WP.re 1 184 .lreturn (0, 0, 0, 0) _ rfl ?_
  exact ⟨rfl, rfl, trivial, k⟩
/-- SoleraCellarModel.compare(II)I -/
abbrev e_X9_compare (d : Nat) (a1 a2 : Int) (S : mSh) (M : mMem) (Q : Option mV → mSh → mMem → Prop) : Prop := WP PR d 251 0 [vA 200, vI a1, vI a2, vU, vU] [] S M Q
set_option maxRecDepth 100000 in
theorem b_X9_compare_0 {d : Nat} {S : mSh} {M : mMem} {Q : Option mV → mSh → mMem → Prop} {x1 x2 : Int} (L : Lay S) (k : WP PR d 190 0 [vA 200, vI x1] [] S (up M 200 0 0) (fun r S2 M2 => WP PR (d + 1) 251 10 [vA 200, vI x1, vI x2, vU, vU] (r.toList ++ []) S2 M2 Q)) : WP PR (d + 1) 251 0 [vA 200, vI x1, vI x2, vU, vU] [] S M Q := by
  refine WP.ca 5 10 7 (.invokevirtual 371) (0, 190, 0, 0) rfl ?_
  exact And.intro (lo200 L) (⟨rfl, rfl, rfl, lo200 L, rfl, k⟩)
set_option maxRecDepth 100000 in
theorem b_X9_compare_10 {d : Nat} {S : mSh} {M : mMem} {Q : Option mV → mSh → mMem → Prop} {x1 x2 s0 : Int} {u3 u4 : mV} (kt : s0 = 0 → WP PR d 251 21 [vA 200, vI x1, vI x2, u3, u4] [] S M Q) (kf : ¬ s0 = 0 → WP PR d 251 13 [vA 200, vI x1, vI x2, u3, u4] [] S M Q) : WP PR d 251 10 [vA 200, vI x1, vI x2, u3, u4] [vI s0] S M Q := by
  refine WP.if0 0 13 10 .eq 11 (0, 0, 0, 0) 21 rfl rfl ?_
  exact ⟨kt, fun hc => kf hc⟩
set_option maxRecDepth 100000 in
theorem b_X9_compare_13 {d : Nat} {S : mSh} {M : mMem} {Q : Option mV → mSh → mMem → Prop} {x1 x2 : Int} {u3 u4 : mV} (L : Lay S) (k : WP PR d 144 0 [vA 200, vI x2] [] S M (fun r S2 M2 => WP PR (d + 1) 251 18 [vA 200, vI x1, vI x2, u3, u4] (r.toList ++ []) S2 M2 Q)) : WP PR (d + 1) 251 13 [vA 200, vI x1, vI x2, u3, u4] [] S M Q := by
  refine WP.ca 2 18 15 (.invokevirtual 184) (0, 144, 0, 0) rfl ?_
  exact ⟨rfl, rfl, rfl, lo200 L, rfl, k⟩
set_option maxRecDepth 100000 in
theorem b_X9_compare_18 {d : Nat} {S : mSh} {M : mMem} {Q : Option mV → mSh → mMem → Prop} {x1 x2 s0 : Int} {u3 u4 : mV} (kt : ¬ s0 = 0 → WP PR d 251 23 [vA 200, vI x1, vI x2, u3, u4] [] S M Q) (kf : s0 = 0 → WP PR d 251 21 [vA 200, vI x1, vI x2, u3, u4] [] S M Q) : WP PR d 251 18 [vA 200, vI x1, vI x2, u3, u4] [vI s0] S M Q := by
  refine WP.if0 0 21 18 .ne 5 (0, 0, 0, 0) 23 rfl rfl ?_
  exact ⟨kt, fun hc => kf (Decidable.not_not.mp hc)⟩
set_option maxRecDepth 100000 in
theorem b_X9_compare_21 {d : Nat} {S : mSh} {M : mMem} {Q : Option mV → mSh → mMem → Prop} {x1 x2 : Int} {u3 u4 : mV} (k : Q (some (vI (-1))) S M) : WP PR d 251 21 [vA 200, vI x1, vI x2, u3, u4] [] S M Q := by
  refine WP.re 1 22 .ireturn (0, 0, 0, 0) _ rfl ?_
  exact ⟨rfl, rfl, trivial, k⟩
set_option maxRecDepth 100000 in
theorem b_X9_compare_23 {d : Nat} {S : mSh} {M : mMem} {Q : Option mV → mSh → mMem → Prop} {x1 x2 : Int} {u3 u4 : mV} (L : Lay S) (k : WP PR d 213 0 [vA 200, vI x2, vU, vU, vU] [] S (up M 202 4 x1) (fun r S2 M2 => WP PR (d + 1) 251 42 [vA 200, vI x1, vI x2, vI (M 202 4), u4] (r.toList ++ []) S2 M2 Q)) : WP PR (d + 1) 251 23 [vA 200, vI x1, vI x2, u3, u4] [] S M Q := by
  refine WP.ca 12 42 39 (.invokevirtual 558) (0, 213, 0, 0) rfl ?_
  exact And.intro (⟨lo200 L, lf200_3 L⟩) (And.intro (inA_of (lo202 L) (ll202 L) (by decide)) (And.intro (⟨lo200 L, lf200_3 L⟩) (And.intro (inA_of (lo202 L) (ll202 L) (by decide)) (⟨rfl, rfl, rfl, lo200 L, rfl, k⟩))))
set_option maxRecDepth 100000 in
theorem b_X9_compare_42 {d : Nat} {S : mSh} {M : mMem} {Q : Option mV → mSh → mMem → Prop} {x1 x2 x3 s0 : Int} {u4 : mV} (L : Lay S) (k : Q (some (vI s0)) S (up M 202 4 x3)) : WP PR d 251 42 [vA 200, vI x1, vI x2, vI x3, u4] [vI s0] S M Q := by
  refine WP.re 7 53 .ireturn (0, 0, 0, 0) _ rfl ?_
  exact And.intro (⟨lo200 L, lf200_3 L⟩) (And.intro (inA_of (lo202 L) (ll202 L) (by decide)) (⟨rfl, rfl, trivial, k⟩))
/-- SoleraCellarModel.draw(I)I -/
abbrev e_X9_draw (d : Nat) (a1 : Int) (S : mSh) (M : mMem) (Q : Option mV → mSh → mMem → Prop) : Prop := WP PR d 252 0 [vA 200, vI a1] [] S M Q
set_option maxRecDepth 100000 in
theorem b_X9_draw_0 {d : Nat} {S : mSh} {M : mMem} {Q : Option mV → mSh → mMem → Prop} {x1 : Int} (L : Lay S) (hc : R64 ((M 200 52) * 1103) ∧ R64 (((M 200 52) * 1103) + 12345) ∧ R64 ((((M 200 52) * 1103) + 12345).tdiv 1000003) ∧ x1 ≠ 0 ∧ R64 (((((M 200 52) * 1103) + 12345).tmod 1000003).tdiv x1)) (k : Q (some (vI (w32 (((((M 200 52) * 1103) + 12345).tmod 1000003).tmod x1)))) S (up M 200 52 ((((M 200 52) * 1103) + 12345).tmod 1000003))) : WP PR d 252 0 [vA 200, vI x1] [] S M Q := by
  refine WP.re 16 28 .ireturn (0, 0, 0, 0) _ rfl ?_
  exact And.intro (lo200 L) (And.intro (hc.1) (And.intro (hc.2.1) (And.intro (⟨by decide, hc.2.2.1⟩) (And.intro (lo200 L) (And.intro (lo200 L) (And.intro (⟨hc.2.2.2.1, hc.2.2.2.2⟩) (⟨rfl, rfl, trivial, k⟩)))))))
/-- SoleraCellarModel.drawnAct(IIII)V -/
abbrev e_X9_drawnAct (d : Nat) (a1 a2 a3 a4 : Int) (S : mSh) (M : mMem) (Q : Option mV → mSh → mMem → Prop) : Prop := WP PR d 253 0 [vA 200, vI a1, vI a2, vI a3, vI a4] [] S M Q
set_option maxRecDepth 100000 in
theorem b_X9_drawnAct_0 {d : Nat} {S : mSh} {M : mMem} {Q : Option mV → mSh → mMem → Prop} {x1 x2 x3 x4 : Int} (kt : ¬ x1 = 0 → WP PR d 253 22 [vA 200, vI x1, vI x2, vI x3, vI x4] [] S M Q) (kf : x1 = 0 → WP PR d 253 4 [vA 200, vI x1, vI x2, vI x3, vI x4] [] S M Q) : WP PR d 253 0 [vA 200, vI x1, vI x2, vI x3, vI x4] [] S M Q := by
  refine WP.if0 1 4 1 .ne 21 (0, 0, 0, 0) 22 rfl rfl ?_
  exact ⟨kt, fun hc => kf (Decidable.not_not.mp hc)⟩
set_option maxRecDepth 100000 in
theorem b_X9_drawnAct_4 {d : Nat} {S : mSh} {M : mMem} {Q : Option mV → mSh → mMem → Prop} {x1 x2 x3 x4 : Int} (L : Lay S) (k : WP PR d 201 0 [vA 200, vI x2, vI x4] [] S M (fun r S2 M2 => WP PR (d + 1) 253 11 [vA 200, vI x1, vI x2, vI x3, vI x4] (r.toList ++ []) S2 M2 Q)) : WP PR (d + 1) 253 4 [vA 200, vI x1, vI x2, vI x3, vI x4] [] S M Q := by
  refine WP.ca 3 11 8 (.invokevirtual 418) (0, 201, 0, 0) rfl ?_
  exact ⟨rfl, rfl, rfl, lo200 L, rfl, k⟩
set_option maxRecDepth 100000 in
theorem b_X9_drawnAct_11 {d : Nat} {S : mSh} {M : mMem} {Q : Option mV → mSh → mMem → Prop} {x1 x2 x3 x4 s0 : Int} (kt : ¬ s0 = 0 → WP PR d 253 22 [vA 200, vI x1, vI x2, vI x3, vI x4] [] S M Q) (kf : s0 = 0 → WP PR d 253 14 [vA 200, vI x1, vI x2, vI x3, vI x4] [] S M Q) : WP PR d 253 11 [vA 200, vI x1, vI x2, vI x3, vI x4] [vI s0] S M Q := by
  refine WP.if0 0 14 11 .ne 11 (0, 0, 0, 0) 22 rfl rfl ?_
  exact ⟨kt, fun hc => kf (Decidable.not_not.mp hc)⟩
set_option maxRecDepth 100000 in
theorem b_X9_drawnAct_14 {d : Nat} {S : mSh} {M : mMem} {Q : Option mV → mSh → mMem → Prop} {x1 x2 x3 x4 : Int} (L : Lay S) (k : WP PR d 202 0 [vA 200, vI x2, vI x4] [] S M (fun r S2 M2 => WP PR (d + 1) 253 21 [vA 200, vI x1, vI x2, vI x3, vI x4] (r.toList ++ []) S2 M2 Q)) : WP PR (d + 1) 253 14 [vA 200, vI x1, vI x2, vI x3, vI x4] [] S M Q := by
  refine WP.ca 3 21 18 (.invokevirtual 424) (0, 202, 0, 0) rfl ?_
  exact ⟨rfl, rfl, rfl, lo200 L, rfl, k⟩
set_option maxRecDepth 100000 in
theorem b_X9_drawnAct_21 {d : Nat} {S : mSh} {M : mMem} {Q : Option mV → mSh → mMem → Prop} {x1 x2 x3 x4 s0 : Int} (kt : ¬ x1 = 1 → WP PR d 253 47 [vA 200, vI x1, vI x2, vI x3, vI x4] [] S M Q) (kf : x1 = 1 → WP PR d 253 27 [vA 200, vI x1, vI x2, vI x3, vI x4] [] S M Q) : WP PR d 253 21 [vA 200, vI x1, vI x2, vI x3, vI x4] [vI s0] S M Q := by
  refine WP.if2 3 27 24 .ne 23 (0, 0, 0, 0) 47 rfl rfl ?_
  exact ⟨kt, fun hc => kf (Decidable.not_not.mp hc)⟩
set_option maxRecDepth 100000 in
theorem b_X9_drawnAct_22 {d : Nat} {S : mSh} {M : mMem} {Q : Option mV → mSh → mMem → Prop} {x1 x2 x3 x4 : Int} (kt : ¬ x1 = 1 → WP PR d 253 47 [vA 200, vI x1, vI x2, vI x3, vI x4] [] S M Q) (kf : x1 = 1 → WP PR d 253 27 [vA 200, vI x1, vI x2, vI x3, vI x4] [] S M Q) : WP PR d 253 22 [vA 200, vI x1, vI x2, vI x3, vI x4] [] S M Q := by
  refine WP.if2 2 27 24 .ne 23 (0, 0, 0, 0) 47 rfl rfl ?_
  exact ⟨kt, fun hc => kf (Decidable.not_not.mp hc)⟩
set_option maxRecDepth 100000 in
theorem b_X9_drawnAct_27 {d : Nat} {S : mSh} {M : mMem} {Q : Option mV → mSh → mMem → Prop} {x1 x2 x3 x4 : Int} (L : Lay S) (k : WP PR d 205 0 [vA 200, vI x2, vI x3, vI x4, vU] [] S M (fun r S2 M2 => WP PR (d + 1) 253 35 [vA 200, vI x1, vI x2, vI x3, vI x4] (r.toList ++ []) S2 M2 Q)) : WP PR (d + 1) 253 27 [vA 200, vI x1, vI x2, vI x3, vI x4] [] S M Q := by
  refine WP.ca 4 35 32 (.invokevirtual 433) (0, 205, 0, 0) rfl ?_
  exact ⟨rfl, rfl, rfl, lo200 L, rfl, k⟩
set_option maxRecDepth 100000 in
theorem b_X9_drawnAct_35 {d : Nat} {S : mSh} {M : mMem} {Q : Option mV → mSh → mMem → Prop} {x1 x2 x3 x4 s0 : Int} (kt : ¬ s0 = 0 → WP PR d 253 47 [vA 200, vI x1, vI x2, vI x3, vI x4] [] S M Q) (kf : s0 = 0 → WP PR d 253 38 [vA 200, vI x1, vI x2, vI x3, vI x4] [] S M Q) : WP PR d 253 35 [vA 200, vI x1, vI x2, vI x3, vI x4] [vI s0] S M Q := by
  refine WP.if0 0 38 35 .ne 12 (0, 0, 0, 0) 47 rfl rfl ?_
  exact ⟨kt, fun hc => kf (Decidable.not_not.mp hc)⟩
set_option maxRecDepth 100000 in
theorem b_X9_drawnAct_38 {d : Nat} {S : mSh} {M : mMem} {Q : Option mV → mSh → mMem → Prop} {x1 x2 x3 x4 : Int} (L : Lay S) (k : WP PR d 206 0 [vA 200, vI x2, vI x3, vI x4, vU] [] S M (fun r S2 M2 => WP PR (d + 1) 253 46 [vA 200, vI x1, vI x2, vI x3, vI x4] (r.toList ++ []) S2 M2 Q)) : WP PR (d + 1) 253 38 [vA 200, vI x1, vI x2, vI x3, vI x4] [] S M Q := by
  refine WP.ca 4 46 43 (.invokevirtual 437) (0, 206, 0, 0) rfl ?_
  exact ⟨rfl, rfl, rfl, lo200 L, rfl, k⟩
set_option maxRecDepth 100000 in
theorem b_X9_drawnAct_46 {d : Nat} {S : mSh} {M : mMem} {Q : Option mV → mSh → mMem → Prop} {x1 x2 x3 x4 s0 : Int} (kt : ¬ x1 = 2 → WP PR d 253 70 [vA 200, vI x1, vI x2, vI x3, vI x4] [] S M Q) (kf : x1 = 2 → WP PR d 253 52 [vA 200, vI x1, vI x2, vI x3, vI x4] [] S M Q) : WP PR d 253 46 [vA 200, vI x1, vI x2, vI x3, vI x4] [vI s0] S M Q := by
  refine WP.if2 3 52 49 .ne 21 (0, 0, 0, 0) 70 rfl rfl ?_
  exact ⟨kt, fun hc => kf (Decidable.not_not.mp hc)⟩
set_option maxRecDepth 100000 in
theorem b_X9_drawnAct_47 {d : Nat} {S : mSh} {M : mMem} {Q : Option mV → mSh → mMem → Prop} {x1 x2 x3 x4 : Int} (kt : ¬ x1 = 2 → WP PR d 253 70 [vA 200, vI x1, vI x2, vI x3, vI x4] [] S M Q) (kf : x1 = 2 → WP PR d 253 52 [vA 200, vI x1, vI x2, vI x3, vI x4] [] S M Q) : WP PR d 253 47 [vA 200, vI x1, vI x2, vI x3, vI x4] [] S M Q := by
  refine WP.if2 2 52 49 .ne 21 (0, 0, 0, 0) 70 rfl rfl ?_
  exact ⟨kt, fun hc => kf (Decidable.not_not.mp hc)⟩
set_option maxRecDepth 100000 in
theorem b_X9_drawnAct_52 {d : Nat} {S : mSh} {M : mMem} {Q : Option mV → mSh → mMem → Prop} {x1 x2 x3 x4 : Int} (L : Lay S) (k : WP PR d 209 0 [vA 200, vI x2, vI x4] [] S M (fun r S2 M2 => WP PR (d + 1) 253 59 [vA 200, vI x1, vI x2, vI x3, vI x4] (r.toList ++ []) S2 M2 Q)) : WP PR (d + 1) 253 52 [vA 200, vI x1, vI x2, vI x3, vI x4] [] S M Q := by
  refine WP.ca 3 59 56 (.invokevirtual 450) (0, 209, 0, 0) rfl ?_
  exact ⟨rfl, rfl, rfl, lo200 L, rfl, k⟩
set_option maxRecDepth 100000 in
theorem b_X9_drawnAct_59 {d : Nat} {S : mSh} {M : mMem} {Q : Option mV → mSh → mMem → Prop} {x1 x2 x3 x4 s0 : Int} (kt : ¬ s0 = 0 → WP PR d 253 70 [vA 200, vI x1, vI x2, vI x3, vI x4] [] S M Q) (kf : s0 = 0 → WP PR d 253 62 [vA 200, vI x1, vI x2, vI x3, vI x4] [] S M Q) : WP PR d 253 59 [vA 200, vI x1, vI x2, vI x3, vI x4] [vI s0] S M Q := by
  refine WP.if0 0 62 59 .ne 11 (0, 0, 0, 0) 70 rfl rfl ?_
  exact ⟨kt, fun hc => kf (Decidable.not_not.mp hc)⟩
set_option maxRecDepth 100000 in
theorem b_X9_drawnAct_62 {d : Nat} {S : mSh} {M : mMem} {Q : Option mV → mSh → mMem → Prop} {x1 x2 x3 x4 : Int} (L : Lay S) (k : WP PR d 210 0 [vA 200, vI x2, vI x4, vU] [] S M (fun r S2 M2 => WP PR (d + 1) 253 69 [vA 200, vI x1, vI x2, vI x3, vI x4] (r.toList ++ []) S2 M2 Q)) : WP PR (d + 1) 253 62 [vA 200, vI x1, vI x2, vI x3, vI x4] [] S M Q := by
  refine WP.ca 3 69 66 (.invokevirtual 453) (0, 210, 0, 0) rfl ?_
  exact ⟨rfl, rfl, rfl, lo200 L, rfl, k⟩
set_option maxRecDepth 100000 in
theorem b_X9_drawnAct_69 {d : Nat} {S : mSh} {M : mMem} {Q : Option mV → mSh → mMem → Prop} {x1 x2 x3 x4 s0 : Int} (k : Q (none) S M) : WP PR d 253 69 [vA 200, vI x1, vI x2, vI x3, vI x4] [vI s0] S M Q := by
  refine WP.re 1 70 .return_ (0, 0, 0, 0) _ rfl ?_
  exact ⟨rfl, rfl, trivial, k⟩
set_option maxRecDepth 100000 in
theorem b_X9_drawnAct_70 {d : Nat} {S : mSh} {M : mMem} {Q : Option mV → mSh → mMem → Prop} {x1 x2 x3 x4 : Int} (k : Q (none) S M) : WP PR d 253 70 [vA 200, vI x1, vI x2, vI x3, vI x4] [] S M Q := by
  refine WP.re 0 70 .return_ (0, 0, 0, 0) _ rfl ?_
  exact ⟨rfl, rfl, trivial, k⟩
/-- SoleraCellarModel.harvests(II)I -/
abbrev e_X9_harvests (d : Nat) (a1 a2 : Int) (S : mSh) (M : mMem) (Q : Option mV → mSh → mMem → Prop) : Prop := WP PR d 254 0 [vA 200, vI a1, vI a2, vU, vU, vU, vU, vU] [] S M Q
set_option maxRecDepth 100000 in
theorem b_X9_harvests_0 {d : Nat} {S : mSh} {M : mMem} {Q : Option mV → mSh → mMem → Prop} {x1 x2 : Int} (L : Lay S) (k : WP PR d 132 0 [vL x1, vU, vL 0, vU, vL 1000000, vU] [] S (up M 200 0 0) (fun r S2 M2 => WP PR (d + 1) 254 14 [vA 200, vI x1, vI x2, vU, vU, vU, vU, vU] (r.toList ++ []) S2 M2 Q)) : WP PR (d + 1) 254 0 [vA 200, vI x1, vI x2, vU, vU, vU, vU, vU] [] S M Q := by
  refine WP.ca 7 14 11 (.invokestatic 153) (0, 132, 0, 0) rfl ?_
  exact And.intro (lo200 L) (⟨rfl, rfl, rfl, trivial, rfl, k⟩)
set_option maxRecDepth 100000 in
theorem b_X9_harvests_14 {d : Nat} {S : mSh} {M : mMem} {Q : Option mV → mSh → mMem → Prop} {x1 x2 s0 : Int} {u3 u4 u5 u6 u7 : mV} (kt : s0 = 0 → WP PR d 254 29 [vA 200, vI x1, vI x2, u3, u4, u5, u6, u7] [] S M Q) (kf : ¬ s0 = 0 → WP PR d 254 17 [vA 200, vI x1, vI x2, u3, u4, u5, u6, u7] [] S M Q) : WP PR d 254 14 [vA 200, vI x1, vI x2, u3, u4, u5, u6, u7] [vI s0] S M Q := by
  refine WP.if0 0 17 14 .eq 15 (0, 0, 0, 0) 29 rfl rfl ?_
  exact ⟨kt, fun hc => kf hc⟩
set_option maxRecDepth 100000 in
theorem b_X9_harvests_17 {d : Nat} {S : mSh} {M : mMem} {Q : Option mV → mSh → mMem → Prop} {x1 x2 : Int} {u3 u4 u5 u6 u7 : mV} (k : WP PR d 132 0 [vL x2, vU, vL 1, vU, vL 60, vU] [] S M (fun r S2 M2 => WP PR (d + 1) 254 26 [vA 200, vI x1, vI x2, u3, u4, u5, u6, u7] (r.toList ++ []) S2 M2 Q)) : WP PR (d + 1) 254 17 [vA 200, vI x1, vI x2, u3, u4, u5, u6, u7] [] S M Q := by
  refine WP.ca 4 26 23 (.invokestatic 153) (0, 132, 0, 0) rfl ?_
  exact ⟨rfl, rfl, rfl, trivial, rfl, k⟩
set_option maxRecDepth 100000 in
theorem b_X9_harvests_26 {d : Nat} {S : mSh} {M : mMem} {Q : Option mV → mSh → mMem → Prop} {x1 x2 s0 : Int} {u3 u4 u5 u6 u7 : mV} (kt : ¬ s0 = 0 → WP PR d 254 35 [vA 200, vI x1, vI x2, u3, u4, u5, u6, u7] [] S M Q) (kf : s0 = 0 → WP PR d 254 29 [vA 200, vI x1, vI x2, u3, u4, u5, u6, u7] [] S M Q) : WP PR d 254 26 [vA 200, vI x1, vI x2, u3, u4, u5, u6, u7] [vI s0] S M Q := by
  refine WP.if0 0 29 26 .ne 9 (0, 0, 0, 0) 35 rfl rfl ?_
  exact ⟨kt, fun hc => kf (Decidable.not_not.mp hc)⟩
set_option maxRecDepth 100000 in
theorem b_X9_harvests_29 {d : Nat} {S : mSh} {M : mMem} {Q : Option mV → mSh → mMem → Prop} {x1 x2 : Int} {u3 u4 u5 u6 u7 : mV} (L : Lay S) (k : WP PR d 135 0 [vA 200, vI (-1)] [] S M (fun r S2 M2 => WP PR (d + 1) 254 34 [vA 200, vI x1, vI x2, u3, u4, u5, u6, u7] (r.toList ++ []) S2 M2 Q)) : WP PR (d + 1) 254 29 [vA 200, vI x1, vI x2, u3, u4, u5, u6, u7] [] S M Q := by
  refine WP.ca 2 34 31 (.invokevirtual 142) (0, 135, 0, 0) rfl ?_
  exact ⟨rfl, rfl, rfl, lo200 L, rfl, k⟩
set_option maxRecDepth 100000 in
theorem b_X9_harvests_34 {d : Nat} {S : mSh} {M : mMem} {Q : Option mV → mSh → mMem → Prop} {x1 x2 s0 : Int} {u3 u4 u5 u6 u7 : mV} (k : Q (some (vI s0)) S M) : WP PR d 254 34 [vA 200, vI x1, vI x2, u3, u4, u5, u6, u7] [vI s0] S M Q := by
  refine WP.re 0 34 .ireturn (0, 0, 0, 0) _ rfl ?_
  exact ⟨rfl, rfl, trivial, k⟩
set_option maxRecDepth 100000 in
theorem b_X9_harvests_35 {d : Nat} {S : mSh} {M : mMem} {Q : Option mV → mSh → mMem → Prop} {x1 x2 : Int} {u3 u4 u5 u6 u7 : mV} (L : Lay S) (kt : ¬ M 202 0 = 0 → WP PR d 254 51 [vA 200, vI x1, vI x2, u3, u4, u5, u6, u7] [] S M Q) (kf : M 202 0 = 0 → WP PR d 254 44 [vA 200, vI x1, vI x2, u3, u4, u5, u6, u7] [] S M Q) : WP PR d 254 35 [vA 200, vI x1, vI x2, u3, u4, u5, u6, u7] [] S M Q := by
  refine WP.if0 4 44 41 .ne 10 (0, 0, 0, 0) 51 rfl rfl ?_
  exact And.intro (⟨lo200 L, lf200_3 L⟩) (And.intro (inA_of (lo202 L) (ll202 L) (by decide)) (⟨kt, fun hc => kf (Decidable.not_not.mp hc)⟩))
set_option maxRecDepth 100000 in
theorem b_X9_harvests_44 {d : Nat} {S : mSh} {M : mMem} {Q : Option mV → mSh → mMem → Prop} {x1 x2 : Int} {u3 u4 u5 u6 u7 : mV} (L : Lay S) (k : WP PR d 135 0 [vA 200, vI (-3)] [] S M (fun r S2 M2 => WP PR (d + 1) 254 50 [vA 200, vI x1, vI x2, u3, u4, u5, u6, u7] (r.toList ++ []) S2 M2 Q)) : WP PR (d + 1) 254 44 [vA 200, vI x1, vI x2, u3, u4, u5, u6, u7] [] S M Q := by
  refine WP.ca 2 50 47 (.invokevirtual 142) (0, 135, 0, 0) rfl ?_
  exact ⟨rfl, rfl, rfl, lo200 L, rfl, k⟩
set_option maxRecDepth 100000 in
theorem b_X9_harvests_50 {d : Nat} {S : mSh} {M : mMem} {Q : Option mV → mSh → mMem → Prop} {x1 x2 s0 : Int} {u3 u4 u5 u6 u7 : mV} (k : Q (some (vI s0)) S M) : WP PR d 254 50 [vA 200, vI x1, vI x2, u3, u4, u5, u6, u7] [vI s0] S M Q := by
  refine WP.re 0 50 .ireturn (0, 0, 0, 0) _ rfl ?_
  exact ⟨rfl, rfl, trivial, k⟩
set_option maxRecDepth 100000 in
theorem b_X9_harvests_51 {d : Nat} {S : mSh} {M : mMem} {Q : Option mV → mSh → mMem → Prop} {x1 x2 : Int} {u3 u4 u5 u6 u7 : mV} (L : Lay S) (k : WP PR d 138 0 [vA 200, vI 16, vU] [] S M (fun r S2 M2 => WP PR (d + 1) 254 57 [vA 200, vI x1, vI x2, u3, u4, u5, u6, u7] (r.toList ++ []) S2 M2 Q)) : WP PR (d + 1) 254 51 [vA 200, vI x1, vI x2, u3, u4, u5, u6, u7] [] S M Q := by
  refine WP.ca 2 57 54 (.invokevirtual 146) (0, 138, 0, 0) rfl ?_
  exact ⟨rfl, rfl, rfl, lo200 L, rfl, k⟩
set_option maxRecDepth 100000 in
theorem b_X9_harvests_57 {d : Nat} {S : mSh} {M : mMem} {Q : Option mV → mSh → mMem → Prop} {x1 x2 : Int} {u3 u4 u5 u6 u7 : mV} (L : Lay S) (k : WP PR d 254 77 [vA 200, vI x1, vI x2, vI 0, u4, u5, u6, u7] [] S (up (up (up M 200 52 x1) 200 42 0) 200 43 100000000) Q) : WP PR d 254 57 [vA 200, vI x1, vI x2, u3, u4, u5, u6, u7] [] S M Q := by
  refine WP.bl 12 77 rfl ?_
  exact And.intro (lo200 L) (And.intro (lo200 L) (And.intro (lo200 L) (k)))
set_option maxRecDepth 100000 in
theorem b_X9_harvests_77 {d : Nat} {S : mSh} {M : mMem} {Q : Option mV → mSh → mMem → Prop} {x1 x2 x3 : Int} {u4 u5 u6 u7 : mV} (kt : x2 ≤ x3 → WP PR d 254 158 [vA 200, vI x1, vI x2, vI x3, u4, u5, u6, u7] [] S M Q) (kf : x3 < x2 → WP PR d 254 82 [vA 200, vI x1, vI x2, vI x3, u4, u5, u6, u7] [] S M Q) : WP PR d 254 77 [vA 200, vI x1, vI x2, vI x3, u4, u5, u6, u7] [] S M Q := by
  refine WP.if2 2 82 79 .ge 79 (0, 0, 0, 0) 158 rfl rfl ?_
  exact ⟨kt, fun hc => kf (Int.not_le.mp hc)⟩
set_option maxRecDepth 100000 in
theorem b_X9_harvests_82 {d : Nat} {S : mSh} {M : mMem} {Q : Option mV → mSh → mMem → Prop} {x1 x2 x3 : Int} {u4 u5 u6 u7 : mV} (L : Lay S) (kt : 999 ≤ M 202 5 → WP PR d 254 158 [vA 200, vI x1, vI x2, vI x3, u4, u5, u6, u7] [] S M Q) (kf : M 202 5 < 999 → WP PR d 254 94 [vA 200, vI x1, vI x2, vI x3, u4, u5, u6, u7] [] S M Q) : WP PR d 254 82 [vA 200, vI x1, vI x2, vI x3, u4, u5, u6, u7] [] S M Q := by
  refine WP.if2 5 94 91 .ge 67 (0, 0, 0, 0) 158 rfl rfl ?_
  exact And.intro (⟨lo200 L, lf200_3 L⟩) (And.intro (inA_of (lo202 L) (ll202 L) (by decide)) (⟨kt, fun hc => kf (Int.not_le.mp hc)⟩))
set_option maxRecDepth 100000 in
theorem b_X9_harvests_94 {d : Nat} {S : mSh} {M : mMem} {Q : Option mV → mSh → mMem → Prop} {x1 x2 x3 : Int} {u4 u5 u6 u7 : mV} (L : Lay S) (k : WP PR d 252 0 [vA 200, vI (M 202 0)] [] S M (fun r S2 M2 => WP PR (d + 1) 254 104 [vA 200, vI x1, vI x2, vI x3, u4, u5, u6, u7] (r.toList ++ []) S2 M2 Q)) : WP PR (d + 1) 254 94 [vA 200, vI x1, vI x2, vI x3, u4, u5, u6, u7] [] S M Q := by
  refine WP.ca 5 104 101 (.invokevirtual 570) (0, 252, 0, 0) rfl ?_
  exact And.intro (⟨lo200 L, lf200_3 L⟩) (And.intro (inA_of (lo202 L) (ll202 L) (by decide)) (⟨rfl, rfl, rfl, lo200 L, rfl, k⟩))
set_option maxRecDepth 100000 in
theorem b_X9_harvests_104 {d : Nat} {S : mSh} {M : mMem} {Q : Option mV → mSh → mMem → Prop} {x1 x2 x3 s0 : Int} {u4 u5 u6 u7 : mV} (L : Lay S) (k : WP PR d 252 0 [vA 200, vI (M 202 0)] [] S M (fun r S2 M2 => WP PR (d + 1) 254 116 [vA 200, vI x1, vI x2, vI x3, vI s0, u5, u6, u7] (r.toList ++ []) S2 M2 Q)) : WP PR (d + 1) 254 104 [vA 200, vI x1, vI x2, vI x3, u4, u5, u6, u7] [vI s0] S M Q := by
  refine WP.ca 6 116 113 (.invokevirtual 570) (0, 252, 0, 0) rfl ?_
  exact And.intro (⟨lo200 L, lf200_3 L⟩) (And.intro (inA_of (lo202 L) (ll202 L) (by decide)) (⟨rfl, rfl, rfl, lo200 L, rfl, k⟩))
set_option maxRecDepth 100000 in
theorem b_X9_harvests_116 {d : Nat} {S : mSh} {M : mMem} {Q : Option mV → mSh → mMem → Prop} {x1 x2 x3 x4 s0 : Int} {u5 u6 u7 : mV} (L : Lay S) (k : WP PR d 252 0 [vA 200, vI 9] [] S M (fun r S2 M2 => WP PR (d + 1) 254 124 [vA 200, vI x1, vI x2, vI x3, vI x4, vI s0, u6, u7] (r.toList ++ []) S2 M2 Q)) : WP PR (d + 1) 254 116 [vA 200, vI x1, vI x2, vI x3, vI x4, u5, u6, u7] [vI s0] S M Q := by
  refine WP.ca 3 124 121 (.invokevirtual 570) (0, 252, 0, 0) rfl ?_
  exact ⟨rfl, rfl, rfl, lo200 L, rfl, k⟩
set_option maxRecDepth 100000 in
theorem b_X9_harvests_124 {d : Nat} {S : mSh} {M : mMem} {Q : Option mV → mSh → mMem → Prop} {x1 x2 x3 x4 x5 s0 : Int} {u6 u7 : mV} (L : Lay S) (hc : R32 (s0 + 1)) (k : WP PR d 252 0 [vA 200, vI 4] [] S M (fun r S2 M2 => WP PR (d + 1) 254 133 [vA 200, vI x1, vI x2, vI x3, vI x4, vI x5, vI (s0 + 1), u7] (r.toList ++ []) S2 M2 Q)) : WP PR (d + 1) 254 124 [vA 200, vI x1, vI x2, vI x3, vI x4, vI x5, u6, u7] [vI s0] S M Q := by
  refine WP.ca 5 133 130 (.invokevirtual 570) (0, 252, 0, 0) rfl ?_
  exact And.intro (hc) (⟨rfl, rfl, rfl, lo200 L, rfl, k⟩)
set_option maxRecDepth 100000 in
theorem b_X9_harvests_133 {d : Nat} {S : mSh} {M : mMem} {Q : Option mV → mSh → mMem → Prop} {x1 x2 x3 x4 x5 x6 s0 : Int} {u7 : mV} (L : Lay S) (k : WP PR d 253 0 [vA 200, vI s0, vI x4, vI x5, vI x6] [] S M (fun r S2 M2 => WP PR (d + 1) 254 147 [vA 200, vI x1, vI x2, vI x3, vI x4, vI x5, vI x6, vI s0] (r.toList ++ []) S2 M2 Q)) : WP PR (d + 1) 254 133 [vA 200, vI x1, vI x2, vI x3, vI x4, vI x5, vI x6, u7] [vI s0] S M Q := by
  refine WP.ca 6 147 144 (.invokevirtual 573) (0, 253, 0, 0) rfl ?_
  exact ⟨rfl, rfl, rfl, lo200 L, rfl, k⟩
set_option maxRecDepth 100000 in
theorem b_X9_harvests_147 {d : Nat} {S : mSh} {M : mMem} {Q : Option mV → mSh → mMem → Prop} {x1 x2 x3 x4 x5 x6 x7 : Int} (L : Lay S) (k : WP PR d 214 0 [vA 200, vU, vU, vU, vU, vU, vU] [] S M (fun r S2 M2 => WP PR (d + 1) 254 151 [vA 200, vI x1, vI x2, vI x3, vI x4, vI x5, vI x6, vI x7] (r.toList ++ []) S2 M2 Q)) : WP PR (d + 1) 254 147 [vA 200, vI x1, vI x2, vI x3, vI x4, vI x5, vI x6, vI x7] [] S M Q := by
  refine WP.ca 1 151 148 (.invokevirtual 459) (0, 214, 0, 0) rfl ?_
  exact ⟨rfl, rfl, rfl, lo200 L, rfl, k⟩
set_option maxRecDepth 100000 in
theorem b_X9_harvests_151 {d : Nat} {S : mSh} {M : mMem} {Q : Option mV → mSh → mMem → Prop} {x1 x2 x3 x4 x5 x6 x7 s0 : Int} (hc : R32 (x3 + 1)) (k : WP PR d 254 77 [vA 200, vI x1, vI x2, vI (x3 + 1), vI x4, vI x5, vI x6, vI x7] [] S M Q) : WP PR d 254 151 [vA 200, vI x1, vI x2, vI x3, vI x4, vI x5, vI x6, vI x7] [vI s0] S M Q := by
  refine WP.gt 2 155 (-78) (0, 0, 0, 0) _ 77 rfl rfl ?_
  exact And.intro (hc) (k)
set_option maxRecDepth 100000 in
theorem b_X9_harvests_158 {d : Nat} {S : mSh} {M : mMem} {Q : Option mV → mSh → mMem → Prop} {x1 x2 x3 : Int} {u4 u5 u6 u7 : mV} (k : WP PR d 254 160 [vA 200, vI x1, vI x2, vI 0, u4, u5, u6, u7] [] S M Q) : WP PR d 254 158 [vA 200, vI x1, vI x2, vI x3, u4, u5, u6, u7] [] S M Q := by
  refine WP.bl 2 160 rfl ?_
  exact k
set_option maxRecDepth 100000 in
theorem b_X9_harvests_160 {d : Nat} {S : mSh} {M : mMem} {Q : Option mV → mSh → mMem → Prop} {x1 x2 x3 : Int} {u4 u5 u6 u7 : mV} (kt : 160 ≤ x3 → WP PR d 254 188 [vA 200, vI x1, vI x2, vI x3, u4, u5, u6, u7] [] S M Q) (kf : x3 < 160 → WP PR d 254 167 [vA 200, vI x1, vI x2, vI x3, u4, u5, u6, u7] [] S M Q) : WP PR d 254 160 [vA 200, vI x1, vI x2, vI x3, u4, u5, u6, u7] [] S M Q := by
  refine WP.if2 2 167 164 .ge 24 (0, 0, 0, 0) 188 rfl rfl ?_
  exact ⟨kt, fun hc => kf (Int.not_le.mp hc)⟩
set_option maxRecDepth 100000 in
theorem b_X9_harvests_167 {d : Nat} {S : mSh} {M : mMem} {Q : Option mV → mSh → mMem → Prop} {x1 x2 x3 : Int} {u4 u5 u6 u7 : mV} (L : Lay S) (hc : R32 (10 + x3) ∧ (0 ≤ 10 + x3 ∧ 10 + x3 < 9390) ∧ (0 ≤ x3 ∧ x3 < 160) ∧ R32 (x3 + 1)) (k : WP PR d 254 160 [vA 200, vI x1, vI x2, vI (x3 + 1), u4, u5, u6, u7] [] S (up M 225 x3 (M 202 (10 + x3))) Q) : WP PR d 254 167 [vA 200, vI x1, vI x2, vI x3, u4, u5, u6, u7] [] S M Q := by
  refine WP.gt 11 185 (-25) (0, 0, 0, 0) _ 160 rfl rfl ?_
  exact And.intro (⟨lo200 L, lf200_53 L⟩) (And.intro (⟨lo200 L, lf200_3 L⟩) (And.intro (hc.1) (And.intro (inA_of (lo202 L) (ll202 L) hc.2.1) (And.intro (inA_of (lo225 L) (ll225 L) hc.2.2.1) (And.intro (hc.2.2.2) (k))))))
set_option maxRecDepth 100000 in
theorem b_X9_harvests_188 {d : Nat} {S : mSh} {M : mMem} {Q : Option mV → mSh → mMem → Prop} {x1 x2 x3 : Int} {u4 u5 u6 u7 : mV} (L : Lay S) (k : WP PR d 139 0 [vA 200, vI 16, vU] [] S (up M 200 54 (M 202 0)) (fun r S2 M2 => WP PR (d + 1) 254 204 [vA 200, vI x1, vI x2, vI x3, u4, u5, u6, u7] (r.toList ++ []) S2 M2 Q)) : WP PR (d + 1) 254 188 [vA 200, vI x1, vI x2, vI x3, u4, u5, u6, u7] [] S M Q := by
  refine WP.ca 8 204 201 (.invokevirtual 150) (0, 139, 0, 0) rfl ?_
  exact And.intro (⟨lo200 L, lf200_3 L⟩) (And.intro (inA_of (lo202 L) (ll202 L) (by decide)) (And.intro (lo200 L) (⟨rfl, rfl, rfl, lo200 L, rfl, k⟩)))
set_option maxRecDepth 100000 in
theorem b_X9_harvests_204 {d : Nat} {S : mSh} {M : mMem} {Q : Option mV → mSh → mMem → Prop} {x1 x2 x3 : Int} {u4 u5 u6 u7 : mV} (L : Lay S) (k : WP PR d 135 0 [vA 200, vI (M 200 42)] [] S M (fun r S2 M2 => WP PR (d + 1) 254 212 [vA 200, vI x1, vI x2, vI x3, u4, u5, u6, u7] (r.toList ++ []) S2 M2 Q)) : WP PR (d + 1) 254 204 [vA 200, vI x1, vI x2, vI x3, u4, u5, u6, u7] [] S M Q := by
  refine WP.ca 3 212 209 (.invokevirtual 142) (0, 135, 0, 0) rfl ?_
  exact And.intro (lo200 L) (⟨rfl, rfl, rfl, lo200 L, rfl, k⟩)
set_option maxRecDepth 100000 in
theorem b_X9_harvests_212 {d : Nat} {S : mSh} {M : mMem} {Q : Option mV → mSh → mMem → Prop} {x1 x2 x3 s0 : Int} {u4 u5 u6 u7 : mV} (k : Q (some (vI s0)) S M) : WP PR d 254 212 [vA 200, vI x1, vI x2, vI x3, u4, u5, u6, u7] [vI s0] S M Q := by
  refine WP.re 0 212 .ireturn (0, 0, 0, 0) _ rfl ?_
  exact ⟨rfl, rfl, trivial, k⟩
/-- SoleraCellarModel.drawn(II)I -/
abbrev e_X9_drawn (d : Nat) (a1 a2 : Int) (S : mSh) (M : mMem) (Q : Option mV → mSh → mMem → Prop) : Prop := WP PR d 255 0 [vA 200, vI a1, vI a2, vU, vU, vU, vU] [] S M Q
set_option maxRecDepth 100000 in
theorem b_X9_drawn_0 {d : Nat} {S : mSh} {M : mMem} {Q : Option mV → mSh → mMem → Prop} {x1 x2 : Int} (L : Lay S) (hc : R64 ((M 200 54) - 1)) (k : WP PR d 132 0 [vL x1, vU, vL 0, vU, vL ((M 200 54) - 1), vU] [] S (up M 200 0 0) (fun r S2 M2 => WP PR (d + 1) 255 18 [vA 200, vI x1, vI x2, vU, vU, vU, vU] (r.toList ++ []) S2 M2 Q)) : WP PR (d + 1) 255 0 [vA 200, vI x1, vI x2, vU, vU, vU, vU] [] S M Q := by
  refine WP.ca 11 18 15 (.invokestatic 153) (0, 132, 0, 0) rfl ?_
  exact And.intro (lo200 L) (And.intro (lo200 L) (And.intro (hc) (⟨rfl, rfl, rfl, trivial, rfl, k⟩)))
set_option maxRecDepth 100000 in
theorem b_X9_drawn_18 {d : Nat} {S : mSh} {M : mMem} {Q : Option mV → mSh → mMem → Prop} {x1 x2 s0 : Int} {u3 u4 u5 u6 : mV} (kt : s0 = 0 → WP PR d 255 31 [vA 200, vI x1, vI x2, u3, u4, u5, u6] [] S M Q) (kf : ¬ s0 = 0 → WP PR d 255 21 [vA 200, vI x1, vI x2, u3, u4, u5, u6] [] S M Q) : WP PR d 255 18 [vA 200, vI x1, vI x2, u3, u4, u5, u6] [vI s0] S M Q := by
  refine WP.if0 0 21 18 .eq 13 (0, 0, 0, 0) 31 rfl rfl ?_
  exact ⟨kt, fun hc => kf hc⟩
set_option maxRecDepth 100000 in
theorem b_X9_drawn_21 {d : Nat} {S : mSh} {M : mMem} {Q : Option mV → mSh → mMem → Prop} {x1 x2 : Int} {u3 u4 u5 u6 : mV} (k : WP PR d 132 0 [vL x2, vU, vL 0, vU, vL 1, vU] [] S M (fun r S2 M2 => WP PR (d + 1) 255 28 [vA 200, vI x1, vI x2, u3, u4, u5, u6] (r.toList ++ []) S2 M2 Q)) : WP PR (d + 1) 255 21 [vA 200, vI x1, vI x2, u3, u4, u5, u6] [] S M Q := by
  refine WP.ca 4 28 25 (.invokestatic 153) (0, 132, 0, 0) rfl ?_
  exact ⟨rfl, rfl, rfl, trivial, rfl, k⟩
set_option maxRecDepth 100000 in
theorem b_X9_drawn_28 {d : Nat} {S : mSh} {M : mMem} {Q : Option mV → mSh → mMem → Prop} {x1 x2 s0 : Int} {u3 u4 u5 u6 : mV} (kt : ¬ s0 = 0 → WP PR d 255 33 [vA 200, vI x1, vI x2, u3, u4, u5, u6] [] S M Q) (kf : s0 = 0 → WP PR d 255 31 [vA 200, vI x1, vI x2, u3, u4, u5, u6] [] S M Q) : WP PR d 255 28 [vA 200, vI x1, vI x2, u3, u4, u5, u6] [vI s0] S M Q := by
  refine WP.if0 0 31 28 .ne 5 (0, 0, 0, 0) 33 rfl rfl ?_
  exact ⟨kt, fun hc => kf (Decidable.not_not.mp hc)⟩
set_option maxRecDepth 100000 in
theorem b_X9_drawn_31 {d : Nat} {S : mSh} {M : mMem} {Q : Option mV → mSh → mMem → Prop} {x1 x2 : Int} {u3 u4 u5 u6 : mV} (k : Q (some (vI (-1))) S M) : WP PR d 255 31 [vA 200, vI x1, vI x2, u3, u4, u5, u6] [] S M Q := by
  refine WP.re 1 32 .ireturn (0, 0, 0, 0) _ rfl ?_
  exact ⟨rfl, rfl, trivial, k⟩
set_option maxRecDepth 100000 in
theorem b_X9_drawn_33 {d : Nat} {S : mSh} {M : mMem} {Q : Option mV → mSh → mMem → Prop} {x1 x2 : Int} {u3 u4 u5 u6 : mV} (k : WP PR d 255 41 [vA 200, vI x1, vI x2, vI 0, vL 0, vU, vI 0] [] S M Q) : WP PR d 255 33 [vA 200, vI x1, vI x2, u3, u4, u5, u6] [] S M Q := by
  refine WP.bl 6 41 rfl ?_
  exact k
set_option maxRecDepth 100000 in
theorem b_X9_drawn_41 {d : Nat} {S : mSh} {M : mMem} {Q : Option mV → mSh → mMem → Prop} {x1 x2 x3 x4 x6 : Int} (kt : 20 ≤ x6 → WP PR d 255 95 [vA 200, vI x1, vI x2, vI x3, vL x4, vU, vI x6] [] S M Q) (kf : x6 < 20 → WP PR d 255 48 [vA 200, vI x1, vI x2, vI x3, vL x4, vU, vI x6] [] S M Q) : WP PR d 255 41 [vA 200, vI x1, vI x2, vI x3, vL x4, vU, vI x6] [] S M Q := by
  refine WP.if2 2 48 45 .ge 50 (0, 0, 0, 0) 95 rfl rfl ?_
  exact ⟨kt, fun hc => kf (Int.not_le.mp hc)⟩
set_option maxRecDepth 100000 in
theorem b_X9_drawn_48 {d : Nat} {S : mSh} {M : mMem} {Q : Option mV → mSh → mMem → Prop} {x1 x2 x3 x4 x6 : Int} (L : Lay S) (hc : R32 (20 * x1) ∧ R32 ((20 * x1) + x6) ∧ (0 ≤ (20 * x1) + x6 ∧ (20 * x1) + x6 < 160) ∧ R32 (x3 + (M 225 ((20 * x1) + x6))) ∧ R64 (1000 * x6) ∧ R64 ((1000 * x6) * (M 225 ((20 * x1) + x6))) ∧ R64 (x4 + ((1000 * x6) * (M 225 ((20 * x1) + x6)))) ∧ R32 (x6 + 1)) (k : WP PR d 255 41 [vA 200, vI x1, vI x2, vI (x3 + (M 225 ((20 * x1) + x6))), vL (x4 + ((1000 * x6) * (M 225 ((20 * x1) + x6)))), vU, vI (x6 + 1)] [] S M Q) : WP PR d 255 48 [vA 200, vI x1, vI x2, vI x3, vL x4, vU, vI x6] [] S M Q := by
  refine WP.gt 29 92 (-51) (0, 0, 0, 0) _ 41 rfl rfl ?_
  exact And.intro (⟨lo200 L, lf200_53 L⟩) (And.intro (hc.1) (And.intro (hc.2.1) (And.intro (inA_of (lo225 L) (ll225 L) hc.2.2.1) (And.intro (hc.2.2.2.1) (And.intro (hc.2.2.2.2.1) (And.intro (⟨lo200 L, lf200_53 L⟩) (And.intro (hc.1) (And.intro (hc.2.1) (And.intro (inA_of (lo225 L) (ll225 L) hc.2.2.1) (And.intro (hc.2.2.2.2.2.1) (And.intro (hc.2.2.2.2.2.2.1) (And.intro (hc.2.2.2.2.2.2.2) (k)))))))))))))
set_option maxRecDepth 100000 in
theorem b_X9_drawn_95 {d : Nat} {S : mSh} {M : mMem} {Q : Option mV → mSh → mMem → Prop} {x1 x2 x3 x4 x6 : Int} (kt : ¬ x2 = 0 → WP PR d 255 103 [vA 200, vI x1, vI x2, vI x3, vL x4, vU, vI x6] [] S M Q) (kf : x2 = 0 → WP PR d 255 99 [vA 200, vI x1, vI x2, vI x3, vL x4, vU, vI x6] [] S M Q) : WP PR d 255 95 [vA 200, vI x1, vI x2, vI x3, vL x4, vU, vI x6] [] S M Q := by
  refine WP.if0 1 99 96 .ne 7 (0, 0, 0, 0) 103 rfl rfl ?_
  exact ⟨kt, fun hc => kf (Decidable.not_not.mp hc)⟩
set_option maxRecDepth 100000 in
theorem b_X9_drawn_99 {d : Nat} {S : mSh} {M : mMem} {Q : Option mV → mSh → mMem → Prop} {x1 x2 x3 x4 x6 : Int} (k : Q (some (vI x3)) S M) : WP PR d 255 99 [vA 200, vI x1, vI x2, vI x3, vL x4, vU, vI x6] [] S M Q := by
  refine WP.gt 1 100 17 (0, 0, 0, 0) _ 117 rfl rfl ?_
  show WP PR d 255 117 [vA 200, vI x1, vI x2, vI x3, vL x4, vU, vI x6] [vI x3] S M Q
  refine WP.re 0 117 .ireturn (0, 0, 0, 0) _ rfl ?_
  exact ⟨rfl, rfl, trivial, k⟩
set_option maxRecDepth 100000 in
theorem b_X9_drawn_103 {d : Nat} {S : mSh} {M : mMem} {Q : Option mV → mSh → mMem → Prop} {x1 x2 x3 x4 x6 : Int} (kt : ¬ x3 = 0 → WP PR d 255 111 [vA 200, vI x1, vI x2, vI x3, vL x4, vU, vI x6] [] S M Q) (kf : x3 = 0 → WP PR d 255 107 [vA 200, vI x1, vI x2, vI x3, vL x4, vU, vI x6] [] S M Q) : WP PR d 255 103 [vA 200, vI x1, vI x2, vI x3, vL x4, vU, vI x6] [] S M Q := by
  refine WP.if0 1 107 104 .ne 7 (0, 0, 0, 0) 111 rfl rfl ?_
  exact ⟨kt, fun hc => kf (Decidable.not_not.mp hc)⟩
set_option maxRecDepth 100000 in
theorem b_X9_drawn_107 {d : Nat} {S : mSh} {M : mMem} {Q : Option mV → mSh → mMem → Prop} {x1 x2 x3 x4 x6 : Int} (k : Q (some (vI (-1))) S M) : WP PR d 255 107 [vA 200, vI x1, vI x2, vI x3, vL x4, vU, vI x6] [] S M Q := by
  refine WP.gt 1 108 9 (0, 0, 0, 0) _ 117 rfl rfl ?_
  show WP PR d 255 117 [vA 200, vI x1, vI x2, vI x3, vL x4, vU, vI x6] [vI (-1)] S M Q
  refine WP.re 0 117 .ireturn (0, 0, 0, 0) _ rfl ?_
  exact ⟨rfl, rfl, trivial, k⟩
set_option maxRecDepth 100000 in
theorem b_X9_drawn_111 {d : Nat} {S : mSh} {M : mMem} {Q : Option mV → mSh → mMem → Prop} {x1 x2 x3 x4 x6 : Int} (hc : x3 ≠ 0 ∧ R64 (x4.tdiv x3)) (k : Q (some (vI (w32 (x4.tdiv x3)))) S M) : WP PR d 255 111 [vA 200, vI x1, vI x2, vI x3, vL x4, vU, vI x6] [] S M Q := by
  refine WP.re 5 117 .ireturn (0, 0, 0, 0) _ rfl ?_
  exact And.intro (⟨hc.1, hc.2⟩) (⟨rfl, rfl, trivial, k⟩)
/-- SoleraCellarModel.count(I)I -/
abbrev e_X9_count (d : Nat) (a1 : Int) (S : mSh) (M : mMem) (Q : Option mV → mSh → mMem → Prop) : Prop := WP PR d 256 0 [vA 200, vI a1] [] S M Q
set_option maxRecDepth 100000 in
theorem b_X9_count_0 {d : Nat} {S : mSh} {M : mMem} {Q : Option mV → mSh → mMem → Prop} {x1 : Int} (L : Lay S) (k : WP PR d 256 (swT 6 x1 155 0 12 [66, 73, 81, 88, 95, 102, 107, 112, 119, 126, 133, 140, 148]) [vA 200, vI x1] [] S (up M 200 0 0) Q) : WP PR d 256 0 [vA 200, vI x1] [] S M Q := by
  refine WP.sw 4 6 155 0 12 #[66, 73, 81, 88, 95, 102, 107, 112, 119, 126, 133, 140, 148] (0, 0, 0, 0) _ rfl ?_
  exact And.intro (lo200 L) (k)
set_option maxRecDepth 100000 in
theorem b_X9_count_72 {d : Nat} {S : mSh} {M : mMem} {Q : Option mV → mSh → mMem → Prop} {x1 : Int} (L : Lay S) (k : Q (some (vI (M 202 0))) S M) : WP PR d 256 72 [vA 200, vI x1] [] S M Q := by
  refine WP.re 4 78 .ireturn (0, 0, 0, 0) _ rfl ?_
  exact And.intro (⟨lo200 L, lf200_3 L⟩) (And.intro (inA_of (lo202 L) (ll202 L) (by decide)) (⟨rfl, rfl, trivial, k⟩))
set_option maxRecDepth 100000 in
theorem b_X9_count_79 {d : Nat} {S : mSh} {M : mMem} {Q : Option mV → mSh → mMem → Prop} {x1 : Int} (L : Lay S) (k : Q (some (vI (M 202 9))) S M) : WP PR d 256 79 [vA 200, vI x1] [] S M Q := by
  refine WP.re 4 86 .ireturn (0, 0, 0, 0) _ rfl ?_
  exact And.intro (⟨lo200 L, lf200_3 L⟩) (And.intro (inA_of (lo202 L) (ll202 L) (by decide)) (⟨rfl, rfl, trivial, k⟩))
set_option maxRecDepth 100000 in
theorem b_X9_count_87 {d : Nat} {S : mSh} {M : mMem} {Q : Option mV → mSh → mMem → Prop} {x1 : Int} (L : Lay S) (k : Q (some (vI (M 202 1))) S M) : WP PR d 256 87 [vA 200, vI x1] [] S M Q := by
  refine WP.re 4 93 .ireturn (0, 0, 0, 0) _ rfl ?_
  exact And.intro (⟨lo200 L, lf200_3 L⟩) (And.intro (inA_of (lo202 L) (ll202 L) (by decide)) (⟨rfl, rfl, trivial, k⟩))
set_option maxRecDepth 100000 in
theorem b_X9_count_94 {d : Nat} {S : mSh} {M : mMem} {Q : Option mV → mSh → mMem → Prop} {x1 : Int} (L : Lay S) (k : Q (some (vI (M 202 2))) S M) : WP PR d 256 94 [vA 200, vI x1] [] S M Q := by
  refine WP.re 4 100 .ireturn (0, 0, 0, 0) _ rfl ?_
  exact And.intro (⟨lo200 L, lf200_3 L⟩) (And.intro (inA_of (lo202 L) (ll202 L) (by decide)) (⟨rfl, rfl, trivial, k⟩))
set_option maxRecDepth 100000 in
theorem b_X9_count_101 {d : Nat} {S : mSh} {M : mMem} {Q : Option mV → mSh → mMem → Prop} {x1 : Int} (L : Lay S) (k : Q (some (vI (M 202 3))) S M) : WP PR d 256 101 [vA 200, vI x1] [] S M Q := by
  refine WP.re 4 107 .ireturn (0, 0, 0, 0) _ rfl ?_
  exact And.intro (⟨lo200 L, lf200_3 L⟩) (And.intro (inA_of (lo202 L) (ll202 L) (by decide)) (⟨rfl, rfl, trivial, k⟩))
set_option maxRecDepth 100000 in
theorem b_X9_count_108 {d : Nat} {S : mSh} {M : mMem} {Q : Option mV → mSh → mMem → Prop} {x1 : Int} (L : Lay S) (k : Q (some (vI (M 200 8))) S M) : WP PR d 256 108 [vA 200, vI x1] [] S M Q := by
  refine WP.re 2 112 .ireturn (0, 0, 0, 0) _ rfl ?_
  exact And.intro (lo200 L) (⟨rfl, rfl, trivial, k⟩)
set_option maxRecDepth 100000 in
theorem b_X9_count_113 {d : Nat} {S : mSh} {M : mMem} {Q : Option mV → mSh → mMem → Prop} {x1 : Int} (L : Lay S) (k : Q (some (vI (M 200 13))) S M) : WP PR d 256 113 [vA 200, vI x1] [] S M Q := by
  refine WP.re 2 117 .ireturn (0, 0, 0, 0) _ rfl ?_
  exact And.intro (lo200 L) (⟨rfl, rfl, trivial, k⟩)
set_option maxRecDepth 100000 in
theorem b_X9_count_118 {d : Nat} {S : mSh} {M : mMem} {Q : Option mV → mSh → mMem → Prop} {x1 : Int} (L : Lay S) (k : Q (some (vI (M 201 1))) S M) : WP PR d 256 118 [vA 200, vI x1] [] S M Q := by
  refine WP.re 4 124 .ireturn (0, 0, 0, 0) _ rfl ?_
  exact And.intro (⟨lo200 L, lf200_2 L⟩) (And.intro (inA_of (lo201 L) (ll201 L) (by decide)) (⟨rfl, rfl, trivial, k⟩))
set_option maxRecDepth 100000 in
theorem b_X9_count_125 {d : Nat} {S : mSh} {M : mMem} {Q : Option mV → mSh → mMem → Prop} {x1 : Int} (L : Lay S) (k : Q (some (vI (M 201 2))) S M) : WP PR d 256 125 [vA 200, vI x1] [] S M Q := by
  refine WP.re 4 131 .ireturn (0, 0, 0, 0) _ rfl ?_
  exact And.intro (⟨lo200 L, lf200_2 L⟩) (And.intro (inA_of (lo201 L) (ll201 L) (by decide)) (⟨rfl, rfl, trivial, k⟩))
set_option maxRecDepth 100000 in
theorem b_X9_count_132 {d : Nat} {S : mSh} {M : mMem} {Q : Option mV → mSh → mMem → Prop} {x1 : Int} (L : Lay S) (k : Q (some (vI (M 201 3))) S M) : WP PR d 256 132 [vA 200, vI x1] [] S M Q := by
  refine WP.re 4 138 .ireturn (0, 0, 0, 0) _ rfl ?_
  exact And.intro (⟨lo200 L, lf200_2 L⟩) (And.intro (inA_of (lo201 L) (ll201 L) (by decide)) (⟨rfl, rfl, trivial, k⟩))
set_option maxRecDepth 100000 in
theorem b_X9_count_139 {d : Nat} {S : mSh} {M : mMem} {Q : Option mV → mSh → mMem → Prop} {x1 : Int} (L : Lay S) (k : Q (some (vI (M 201 5))) S M) : WP PR d 256 139 [vA 200, vI x1] [] S M Q := by
  refine WP.re 4 145 .ireturn (0, 0, 0, 0) _ rfl ?_
  exact And.intro (⟨lo200 L, lf200_2 L⟩) (And.intro (inA_of (lo201 L) (ll201 L) (by decide)) (⟨rfl, rfl, trivial, k⟩))
set_option maxRecDepth 100000 in
theorem b_X9_count_146 {d : Nat} {S : mSh} {M : mMem} {Q : Option mV → mSh → mMem → Prop} {x1 : Int} (L : Lay S) (k : Q (some (vI (M 201 6))) S M) : WP PR d 256 146 [vA 200, vI x1] [] S M Q := by
  refine WP.re 4 153 .ireturn (0, 0, 0, 0) _ rfl ?_
  exact And.intro (⟨lo200 L, lf200_2 L⟩) (And.intro (inA_of (lo201 L) (ll201 L) (by decide)) (⟨rfl, rfl, trivial, k⟩))
set_option maxRecDepth 100000 in
theorem b_X9_count_154 {d : Nat} {S : mSh} {M : mMem} {Q : Option mV → mSh → mMem → Prop} {x1 : Int} (L : Lay S) (k : Q (some (vI (M 202 4))) S M) : WP PR d 256 154 [vA 200, vI x1] [] S M Q := by
  refine WP.re 4 160 .ireturn (0, 0, 0, 0) _ rfl ?_
  exact And.intro (⟨lo200 L, lf200_3 L⟩) (And.intro (inA_of (lo202 L) (ll202 L) (by decide)) (⟨rfl, rfl, trivial, k⟩))
set_option maxRecDepth 100000 in
theorem b_X9_count_161 {d : Nat} {S : mSh} {M : mMem} {Q : Option mV → mSh → mMem → Prop} {x1 : Int} (k : WP PR d 132 0 [vL x1, vU, vL 13, vU, vL 16, vU] [] S M (fun r S2 M2 => WP PR (d + 1) 256 172 [vA 200, vI x1] (r.toList ++ []) S2 M2 Q)) : WP PR (d + 1) 256 161 [vA 200, vI x1] [] S M Q := by
  refine WP.ca 4 172 169 (.invokestatic 153) (0, 132, 0, 0) rfl ?_
  exact ⟨rfl, rfl, rfl, trivial, rfl, k⟩
set_option maxRecDepth 100000 in
theorem b_X9_count_172 {d : Nat} {S : mSh} {M : mMem} {Q : Option mV → mSh → mMem → Prop} {x1 s0 : Int} (kt : s0 = 0 → WP PR d 256 189 [vA 200, vI x1] [] S M Q) (kf : ¬ s0 = 0 → WP PR d 256 175 [vA 200, vI x1] [] S M Q) : WP PR d 256 172 [vA 200, vI x1] [vI s0] S M Q := by
  refine WP.if0 0 175 172 .eq 17 (0, 0, 0, 0) 189 rfl rfl ?_
  exact ⟨kt, fun hc => kf hc⟩
set_option maxRecDepth 100000 in
theorem b_X9_count_175 {d : Nat} {S : mSh} {M : mMem} {Q : Option mV → mSh → mMem → Prop} {x1 : Int} (L : Lay S) (hc : R32 (5 + x1) ∧ R32 ((5 + x1) - 13) ∧ (0 ≤ (5 + x1) - 13 ∧ (5 + x1) - 13 < 9390)) (k : Q (some (vI (M 202 ((5 + x1) - 13)))) S M) : WP PR d 256 175 [vA 200, vI x1] [] S M Q := by
  refine WP.gt 8 186 4 (0, 0, 0, 0) _ 190 rfl rfl ?_
  refine And.intro (⟨lo200 L, lf200_3 L⟩) (And.intro (hc.1) (And.intro (hc.2.1) (And.intro (inA_of (lo202 L) (ll202 L) hc.2.2) (?_))))
  show WP PR d 256 190 [vA 200, vI x1] [vI (M 202 ((5 + x1) - 13))] S M Q
  refine WP.re 0 190 .ireturn (0, 0, 0, 0) _ rfl ?_
  exact ⟨rfl, rfl, trivial, k⟩
set_option maxRecDepth 100000 in
theorem b_X9_count_189 {d : Nat} {S : mSh} {M : mMem} {Q : Option mV → mSh → mMem → Prop} {x1 : Int} (k : Q (some (vI (-1))) S M) : WP PR d 256 189 [vA 200, vI x1] [] S M Q := by
  refine WP.re 1 190 .ireturn (0, 0, 0, 0) _ rfl ?_
  exact ⟨rfl, rfl, trivial, k⟩
/-- SoleraCellarModel.status()I -/
abbrev e_X9_status (d : Nat) (S : mSh) (M : mMem) (Q : Option mV → mSh → mMem → Prop) : Prop := WP PR d 257 0 [vA 200] [] S M Q
set_option maxRecDepth 100000 in
theorem b_X9_status_0 {d : Nat} {S : mSh} {M : mMem} {Q : Option mV → mSh → mMem → Prop} (L : Lay S) (k : Q (some (vI (M 200 1))) S (up M 200 0 0)) : WP PR d 257 0 [vA 200] [] S M Q := by
  refine WP.re 5 9 .ireturn (0, 0, 0, 0) _ rfl ?_
  exact And.intro (lo200 L) (And.intro (lo200 L) (⟨rfl, rfl, trivial, k⟩))
