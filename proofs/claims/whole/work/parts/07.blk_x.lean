/-! Blocks (by program: wip/whole/gen3.py). -/
/-- SoleraCellar.<init>()V -/
abbrev e_X8_init (d : Nat) (a0 : Int) (S : mSh) (M : mMem) (Q : Option mV → mSh → mMem → Prop) : Prop := WP PR d 81 0 [vA a0] [] S M Q
/-- SoleraCellar.cask(II)I -/
abbrev e_X8_cask (d : Nat) (a1 a2 : Int) (S : mSh) (M : mMem) (Q : Option mV → mSh → mMem → Prop) : Prop := WP PR d 82 0 [vA 1, vI a1, vI a2] [] S M Q
set_option maxRecDepth 100000 in
theorem b_X8_cask_0 {d : Nat} {S : mSh} {M : mMem} {Q : Option mV → mSh → mMem → Prop} {x1 x2 : Int} (k : WP PR d 119 0 [vI x1, vI 0, vI 4] [] S M (fun r S2 M2 => WP PR (d + 1) 82 6 [vA 1, vI x1, vI x2] (r.toList ++ []) S2 M2 Q)) : WP PR (d + 1) 82 0 [vA 1, vI x1, vI x2] [] S M Q := by
  refine WP.ca 3 6 3 (.invokestatic 86) (0, 119, 0, 0) rfl ?_
  exact ⟨rfl, rfl, rfl, trivial, rfl, k⟩
set_option maxRecDepth 100000 in
theorem b_X8_cask_6 {d : Nat} {S : mSh} {M : mMem} {Q : Option mV → mSh → mMem → Prop} {x1 x2 s0 : Int} (kt : s0 = 0 → WP PR d 82 20 [vA 1, vI x1, vI x2] [] S M Q) (kf : ¬ s0 = 0 → WP PR d 82 9 [vA 1, vI x1, vI x2] [] S M Q) : WP PR d 82 6 [vA 1, vI x1, vI x2] [vI s0] S M Q := by
  refine WP.if0 0 9 6 .eq 14 (0, 0, 0, 0) 20 rfl rfl ?_
  exact ⟨kt, fun hc => kf hc⟩
set_option maxRecDepth 100000 in
theorem b_X8_cask_9 {d : Nat} {S : mSh} {M : mMem} {Q : Option mV → mSh → mMem → Prop} {x1 x2 : Int} (k : WP PR d 119 0 [vI x2, vI 1, vI 999] [] S M (fun r S2 M2 => WP PR (d + 1) 82 17 [vA 1, vI x1, vI x2] (r.toList ++ []) S2 M2 Q)) : WP PR (d + 1) 82 9 [vA 1, vI x1, vI x2] [] S M Q := by
  refine WP.ca 3 17 14 (.invokestatic 86) (0, 119, 0, 0) rfl ?_
  exact ⟨rfl, rfl, rfl, trivial, rfl, k⟩
set_option maxRecDepth 100000 in
theorem b_X8_cask_17 {d : Nat} {S : mSh} {M : mMem} {Q : Option mV → mSh → mMem → Prop} {x1 x2 s0 : Int} (kt : ¬ s0 = 0 → WP PR d 82 26 [vA 1, vI x1, vI x2] [] S M Q) (kf : s0 = 0 → WP PR d 82 20 [vA 1, vI x1, vI x2] [] S M Q) : WP PR d 82 17 [vA 1, vI x1, vI x2] [vI s0] S M Q := by
  refine WP.if0 0 20 17 .ne 9 (0, 0, 0, 0) 26 rfl rfl ?_
  exact ⟨kt, fun hc => kf (Decidable.not_not.mp hc)⟩
set_option maxRecDepth 100000 in
theorem b_X8_cask_20 {d : Nat} {S : mSh} {M : mMem} {Q : Option mV → mSh → mMem → Prop} {x1 x2 : Int} (L : Lay S) (k : WP PR d 123 0 [vA 1, vI (-1)] [] S M (fun r S2 M2 => WP PR (d + 1) 82 25 [vA 1, vI x1, vI x2] (r.toList ++ []) S2 M2 Q)) : WP PR (d + 1) 82 20 [vA 1, vI x1, vI x2] [] S M Q := by
  refine WP.ca 2 25 22 (.invokevirtual 90) (0, 123, 0, 0) rfl ?_
  exact ⟨rfl, rfl, rfl, lo1 L, rfl, k⟩
set_option maxRecDepth 100000 in
theorem b_X8_cask_25 {d : Nat} {S : mSh} {M : mMem} {Q : Option mV → mSh → mMem → Prop} {x1 x2 s0 : Int} (k : Q (some (vI s0)) S M) : WP PR d 82 25 [vA 1, vI x1, vI x2] [vI s0] S M Q := by
  refine WP.re 0 25 .ireturn (0, 0, 0, 0) _ rfl ?_
  exact ⟨rfl, rfl, trivial, k⟩
set_option maxRecDepth 100000 in
theorem b_X8_cask_26 {d : Nat} {S : mSh} {M : mMem} {Q : Option mV → mSh → mMem → Prop} {x1 x2 : Int} (L : Lay S) (kt : M 9 6 < 8 → WP PR d 82 48 [vA 1, vI x1, vI x2] [] S M Q) (kf : 8 ≤ M 9 6 → WP PR d 82 41 [vA 1, vI x1, vI x2] [] S M Q) : WP PR d 82 26 [vA 1, vI x1, vI x2] [] S M Q := by
  refine WP.if2 5 41 38 .lt 10 (0, 0, 0, 0) 48 rfl rfl ?_
  exact And.intro (⟨lo1 L, lf1_2 L⟩) (And.intro (⟨lo8 L, lf8_0 L⟩) (And.intro (lo9 L) (⟨kt, fun hc => kf (Int.not_lt.mp hc)⟩)))
set_option maxRecDepth 100000 in
theorem b_X8_cask_41 {d : Nat} {S : mSh} {M : mMem} {Q : Option mV → mSh → mMem → Prop} {x1 x2 : Int} (L : Lay S) (k : WP PR d 123 0 [vA 1, vI (-5)] [] S M (fun r S2 M2 => WP PR (d + 1) 82 47 [vA 1, vI x1, vI x2] (r.toList ++ []) S2 M2 Q)) : WP PR (d + 1) 82 41 [vA 1, vI x1, vI x2] [] S M Q := by
  refine WP.ca 2 47 44 (.invokevirtual 90) (0, 123, 0, 0) rfl ?_
  exact ⟨rfl, rfl, rfl, lo1 L, rfl, k⟩
set_option maxRecDepth 100000 in
theorem b_X8_cask_47 {d : Nat} {S : mSh} {M : mMem} {Q : Option mV → mSh → mMem → Prop} {x1 x2 s0 : Int} (k : Q (some (vI s0)) S M) : WP PR d 82 47 [vA 1, vI x1, vI x2] [vI s0] S M Q := by
  refine WP.re 0 47 .ireturn (0, 0, 0, 0) _ rfl ?_
  exact ⟨rfl, rfl, trivial, k⟩
set_option maxRecDepth 100000 in
theorem b_X8_cask_48 {d : Nat} {S : mSh} {M : mMem} {Q : Option mV → mSh → mMem → Prop} {x1 x2 : Int} (L : Lay S) (k : WP PR d 9 0 [vA 55] [] S M (fun r S2 M2 => WP PR (d + 1) 82 55 [vA 1, vI x1, vI x2] (r.toList ++ []) S2 M2 Q)) : WP PR (d + 1) 82 48 [vA 1, vI x1, vI x2] [] S M Q := by
  refine WP.ca 2 55 52 (.invokevirtual 100) (0, 9, 0, 0) rfl ?_
  exact And.intro (⟨lo1 L, lf1_5 L⟩) (⟨rfl, rfl, rfl, lo55 L, rfl, k⟩)
set_option maxRecDepth 100000 in
theorem b_X8_cask_55 {d : Nat} {S : mSh} {M : mMem} {Q : Option mV → mSh → mMem → Prop} {x1 x2 : Int} (L : Lay S) (k : WP PR d 44 0 [vA 9, vI x1, vI x2, vU, vU] [] S M (fun r S2 M2 => WP PR (d + 1) 82 68 [vA 1, vI x1, vI x2] (r.toList ++ [vA 1]) S2 M2 Q)) : WP PR (d + 1) 82 55 [vA 1, vI x1, vI x2] [] S M Q := by
  refine WP.ca 6 68 65 (.invokevirtual 103) (0, 44, 0, 0) rfl ?_
  exact And.intro (⟨lo1 L, lf1_2 L⟩) (And.intro (⟨lo8 L, lf8_0 L⟩) (⟨rfl, rfl, rfl, lo9 L, rfl, k⟩))
set_option maxRecDepth 100000 in
theorem b_X8_cask_68 {d : Nat} {S : mSh} {M : mMem} {Q : Option mV → mSh → mMem → Prop} {x1 x2 s1 : Int} (L : Lay S) (k : WP PR d 122 0 [vA 1, vI s1] [] S M (fun r S2 M2 => WP PR (d + 1) 82 71 [vA 1, vI x1, vI x2] (r.toList ++ []) S2 M2 Q)) : WP PR (d + 1) 82 68 [vA 1, vI x1, vI x2] [vI s1, vA 1] S M Q := by
  refine WP.ca 0 71 68 (.invokevirtual 107) (0, 122, 0, 0) rfl ?_
  exact ⟨rfl, rfl, rfl, lo1 L, rfl, k⟩
set_option maxRecDepth 100000 in
theorem b_X8_cask_71 {d : Nat} {S : mSh} {M : mMem} {Q : Option mV → mSh → mMem → Prop} {x1 x2 s0 : Int} (k : Q (some (vI s0)) S M) : WP PR d 82 71 [vA 1, vI x1, vI x2] [vI s0] S M Q := by
  refine WP.re 0 71 .ireturn (0, 0, 0, 0) _ rfl ?_
  exact ⟨rfl, rfl, trivial, k⟩
/-- SoleraCellar.of(II)I -/
abbrev e_X8_of (d : Nat) (a1 a2 : Int) (S : mSh) (M : mMem) (Q : Option mV → mSh → mMem → Prop) : Prop := WP PR d 83 0 [vA 1, vI a1, vI a2, vU] [] S M Q
set_option maxRecDepth 100000 in
theorem b_X8_of_0 {d : Nat} {S : mSh} {M : mMem} {Q : Option mV → mSh → mMem → Prop} {x1 x2 : Int} (L : Lay S) (k : WP PR d 42 0 [vA 9, vI x1] [] S M (fun r S2 M2 => WP PR (d + 1) 83 13 [vA 1, vI x1, vI x2, vA 9] (r.toList ++ []) S2 M2 Q)) : WP PR (d + 1) 83 0 [vA 1, vI x1, vI x2, vU] [] S M Q := by
  refine WP.ca 6 13 10 (.invokevirtual 110) (0, 42, 0, 0) rfl ?_
  exact And.intro (⟨lo1 L, lf1_2 L⟩) (And.intro (⟨lo8 L, lf8_0 L⟩) (⟨rfl, rfl, rfl, lo9 L, rfl, k⟩))
set_option maxRecDepth 100000 in
theorem b_X8_of_13 {d : Nat} {S : mSh} {M : mMem} {Q : Option mV → mSh → mMem → Prop} {x1 x2 x3 s0 : Int} (kt : s0 = 0 → WP PR d 83 26 [vA 1, vI x1, vI x2, vA x3] [] S M Q) (kf : ¬ s0 = 0 → WP PR d 83 16 [vA 1, vI x1, vI x2, vA x3] [] S M Q) : WP PR d 83 13 [vA 1, vI x1, vI x2, vA x3] [vI s0] S M Q := by
  refine WP.if0 0 16 13 .eq 13 (0, 0, 0, 0) 26 rfl rfl ?_
  exact ⟨kt, fun hc => kf hc⟩
set_option maxRecDepth 100000 in
theorem b_X8_of_16 {d : Nat} {S : mSh} {M : mMem} {Q : Option mV → mSh → mMem → Prop} {x1 x2 x3 : Int} (k : WP PR d 119 0 [vI x2, vI 0, vI 27] [] S M (fun r S2 M2 => WP PR (d + 1) 83 23 [vA 1, vI x1, vI x2, vA x3] (r.toList ++ []) S2 M2 Q)) : WP PR (d + 1) 83 16 [vA 1, vI x1, vI x2, vA x3] [] S M Q := by
  refine WP.ca 3 23 20 (.invokestatic 86) (0, 119, 0, 0) rfl ?_
  exact ⟨rfl, rfl, rfl, trivial, rfl, k⟩
set_option maxRecDepth 100000 in
theorem b_X8_of_23 {d : Nat} {S : mSh} {M : mMem} {Q : Option mV → mSh → mMem → Prop} {x1 x2 x3 s0 : Int} (kt : ¬ s0 = 0 → WP PR d 83 28 [vA 1, vI x1, vI x2, vA x3] [] S M Q) (kf : s0 = 0 → WP PR d 83 26 [vA 1, vI x1, vI x2, vA x3] [] S M Q) : WP PR d 83 23 [vA 1, vI x1, vI x2, vA x3] [vI s0] S M Q := by
  refine WP.if0 0 26 23 .ne 5 (0, 0, 0, 0) 28 rfl rfl ?_
  exact ⟨kt, fun hc => kf (Decidable.not_not.mp hc)⟩
set_option maxRecDepth 100000 in
theorem b_X8_of_26 {d : Nat} {S : mSh} {M : mMem} {Q : Option mV → mSh → mMem → Prop} {x1 x2 x3 : Int} (k : Q (some (vI (-1))) S M) : WP PR d 83 26 [vA 1, vI x1, vI x2, vA x3] [] S M Q := by
  refine WP.re 1 27 .ireturn (0, 0, 0, 0) _ rfl ?_
  exact ⟨rfl, rfl, trivial, k⟩
set_option maxRecDepth 100000 in
theorem b_X8_of_28 {d : Nat} {S : mSh} {M : mMem} {Q : Option mV → mSh → mMem → Prop} {x1 x2 x3 : Int} (L : Lay S) (k : WP PR d 39 0 [vA 8] [] S M (fun r S2 M2 => WP PR (d + 1) 83 40 [vA 1, vI x1, vI x2, vA x3] (r.toList ++ [vA x3, vA 191]) S2 M2 Q)) : WP PR (d + 1) 83 28 [vA 1, vI x1, vI x2, vA x3] [] S M Q := by
  refine WP.ca 5 40 37 (.invokevirtual 114) (0, 39, 0, 0) rfl ?_
  exact And.intro (⟨lo1 L, lf1_8 L⟩) (And.intro (⟨lo1 L, lf1_2 L⟩) (⟨rfl, rfl, rfl, lo8 L, rfl, k⟩))
set_option maxRecDepth 100000 in
theorem b_X8_of_40 {d : Nat} {S : mSh} {M : mMem} {Q : Option mV → mSh → mMem → Prop} {x1 x2 x3 s1 s2 : Int} (L : Lay S) (k : WP PR d 70 0 [vA 191, vA s1, vA s2] [] S M (fun r S2 M2 => WP PR (d + 1) 83 43 [vA 1, vI x1, vI x2, vA x3] (r.toList ++ []) S2 M2 Q)) : WP PR (d + 1) 83 40 [vA 1, vI x1, vI x2, vA x3] [vA s2, vA s1, vA 191] S M Q := by
  refine WP.ca 0 43 40 (.invokevirtual 118) (0, 70, 0, 0) rfl ?_
  exact ⟨rfl, rfl, rfl, lo191 L, rfl, k⟩
set_option maxRecDepth 100000 in
theorem b_X8_of_43 {d : Nat} {S : mSh} {M : mMem} {Q : Option mV → mSh → mMem → Prop} {x1 x2 x3 : Int} (k : WP PR d 83 (swT 44 x2 112 0 7 [48, 55, 62, 69, 75, 81, 91, 101]) [vA 1, vI x1, vI x2, vA x3] [] S M Q) : WP PR d 83 43 [vA 1, vI x1, vI x2, vA x3] [] S M Q := by
  refine WP.sw 1 44 112 0 7 #[48, 55, 62, 69, 75, 81, 91, 101] (0, 0, 0, 0) _ rfl ?_
  exact k
set_option maxRecDepth 100000 in
theorem b_X8_of_92 {d : Nat} {S : mSh} {M : mMem} {Q : Option mV → mSh → mMem → Prop} {x1 x2 x3 : Int} (hx3 : Stk S x3) (hc : (0 ≤ x1 ∧ x1 < 8)) (k : Q (some (vI (M (x3 + 1) x1))) S M) : WP PR d 83 92 [vA 1, vI x1, vI x2, vA x3] [] S M Q := by
  refine WP.re 4 98 .ireturn (0, 0, 0, 0) _ rfl ?_
  exact And.intro (⟨(hx3).o, (hx3).f0⟩) (And.intro (inA_of ((hx3).a1) ((hx3).l1) hc) (⟨rfl, rfl, trivial, k⟩))
set_option maxRecDepth 100000 in
theorem b_X8_of_99 {d : Nat} {S : mSh} {M : mMem} {Q : Option mV → mSh → mMem → Prop} {x1 x2 x3 : Int} (hx3 : Stk S x3) (hc : (0 ≤ x1 ∧ x1 < 8)) (k : Q (some (vI (M (x3 + 2) x1))) S M) : WP PR d 83 99 [vA 1, vI x1, vI x2, vA x3] [] S M Q := by
  refine WP.re 4 105 .ireturn (0, 0, 0, 0) _ rfl ?_
  exact And.intro (⟨(hx3).o, (hx3).f1⟩) (And.intro (inA_of ((hx3).a2) ((hx3).l2) hc) (⟨rfl, rfl, trivial, k⟩))
set_option maxRecDepth 100000 in
theorem b_X8_of_106 {d : Nat} {S : mSh} {M : mMem} {Q : Option mV → mSh → mMem → Prop} {x1 x2 x3 : Int} (hx3 : Stk S x3) (hc : (0 ≤ x1 ∧ x1 < 8)) (k : Q (some (vI (M (x3 + 3) x1))) S M) : WP PR d 83 106 [vA 1, vI x1, vI x2, vA x3] [] S M Q := by
  refine WP.re 4 112 .ireturn (0, 0, 0, 0) _ rfl ?_
  exact And.intro (⟨(hx3).o, (hx3).f2⟩) (And.intro (inA_of ((hx3).a3) ((hx3).l3) hc) (⟨rfl, rfl, trivial, k⟩))
set_option maxRecDepth 100000 in
theorem b_X8_of_113 {d : Nat} {S : mSh} {M : mMem} {Q : Option mV → mSh → mMem → Prop} {x1 x2 x3 : Int} (hx3 : Stk S x3) (k : WP PR d 48 0 [vA x3, vI x1] [] S M (fun r S2 M2 => WP PR (d + 1) 83 118 [vA 1, vI x1, vI x2, vA x3] (r.toList ++ []) S2 M2 Q)) : WP PR (d + 1) 83 113 [vA 1, vI x1, vI x2, vA x3] [] S M Q := by
  refine WP.ca 2 118 115 (.invokevirtual 130) (0, 48, 0, 0) rfl ?_
  exact ⟨rfl, rfl, rfl, (hx3).o, rfl, k⟩
set_option maxRecDepth 100000 in
theorem b_X8_of_118 {d : Nat} {S : mSh} {M : mMem} {Q : Option mV → mSh → mMem → Prop} {x1 x2 x3 s0 : Int} (k : Q (some (vI s0)) S M) : WP PR d 83 118 [vA 1, vI x1, vI x2, vA x3] [vI s0] S M Q := by
  refine WP.re 0 118 .ireturn (0, 0, 0, 0) _ rfl ?_
  exact ⟨rfl, rfl, trivial, k⟩
set_option maxRecDepth 100000 in
theorem b_X8_of_119 {d : Nat} {S : mSh} {M : mMem} {Q : Option mV → mSh → mMem → Prop} {x1 x2 x3 : Int} (hx3 : Stk S x3) (k : WP PR d 50 0 [vA x3, vI x1, vU, vU, vU, vU, vU] [] S M (fun r S2 M2 => WP PR (d + 1) 83 124 [vA 1, vI x1, vI x2, vA x3] (r.toList ++ []) S2 M2 Q)) : WP PR (d + 1) 83 119 [vA 1, vI x1, vI x2, vA x3] [] S M Q := by
  refine WP.ca 2 124 121 (.invokevirtual 133) (0, 50, 0, 0) rfl ?_
  exact ⟨rfl, rfl, rfl, (hx3).o, rfl, k⟩
set_option maxRecDepth 100000 in
theorem b_X8_of_124 {d : Nat} {S : mSh} {M : mMem} {Q : Option mV → mSh → mMem → Prop} {x1 x2 x3 s0 : Int} (k : Q (some (vI s0)) S M) : WP PR d 83 124 [vA 1, vI x1, vI x2, vA x3] [vI s0] S M Q := by
  refine WP.re 0 124 .ireturn (0, 0, 0, 0) _ rfl ?_
  exact ⟨rfl, rfl, trivial, k⟩
set_option maxRecDepth 100000 in
theorem b_X8_of_125 {d : Nat} {S : mSh} {M : mMem} {Q : Option mV → mSh → mMem → Prop} {x1 x2 x3 : Int} (L : Lay S) (k : WP PR d 71 0 [vA 191, vI 4, vI x1, vU, vU, vU] [] S M (fun r S2 M2 => WP PR (d + 1) 83 134 [vA 1, vI x1, vI x2, vA x3] (r.toList ++ []) S2 M2 Q)) : WP PR (d + 1) 83 125 [vA 1, vI x1, vI x2, vA x3] [] S M Q := by
  refine WP.ca 4 134 131 (.invokevirtual 136) (0, 71, 0, 0) rfl ?_
  exact And.intro (⟨lo1 L, lf1_8 L⟩) (⟨rfl, rfl, rfl, lo191 L, rfl, k⟩)
set_option maxRecDepth 100000 in
theorem b_X8_of_134 {d : Nat} {S : mSh} {M : mMem} {Q : Option mV → mSh → mMem → Prop} {x1 x2 x3 s0 : Int} (k : Q (some (vI s0)) S M) : WP PR d 83 134 [vA 1, vI x1, vI x2, vA x3] [vI s0] S M Q := by
  refine WP.re 0 134 .ireturn (0, 0, 0, 0) _ rfl ?_
  exact ⟨rfl, rfl, trivial, k⟩
set_option maxRecDepth 100000 in
theorem b_X8_of_135 {d : Nat} {S : mSh} {M : mMem} {Q : Option mV → mSh → mMem → Prop} {x1 x2 x3 : Int} (L : Lay S) (k : WP PR d 71 0 [vA 191, vI 5, vI x1, vU, vU, vU] [] S M (fun r S2 M2 => WP PR (d + 1) 83 144 [vA 1, vI x1, vI x2, vA x3] (r.toList ++ []) S2 M2 Q)) : WP PR (d + 1) 83 135 [vA 1, vI x1, vI x2, vA x3] [] S M Q := by
  refine WP.ca 4 144 141 (.invokevirtual 136) (0, 71, 0, 0) rfl ?_
  exact And.intro (⟨lo1 L, lf1_8 L⟩) (⟨rfl, rfl, rfl, lo191 L, rfl, k⟩)
set_option maxRecDepth 100000 in
theorem b_X8_of_144 {d : Nat} {S : mSh} {M : mMem} {Q : Option mV → mSh → mMem → Prop} {x1 x2 x3 s0 : Int} (k : Q (some (vI s0)) S M) : WP PR d 83 144 [vA 1, vI x1, vI x2, vA x3] [vI s0] S M Q := by
  refine WP.re 0 144 .ireturn (0, 0, 0, 0) _ rfl ?_
  exact ⟨rfl, rfl, trivial, k⟩
set_option maxRecDepth 100000 in
theorem b_X8_of_145 {d : Nat} {S : mSh} {M : mMem} {Q : Option mV → mSh → mMem → Prop} {x1 x2 x3 : Int} (L : Lay S) (k : WP PR d 71 0 [vA 191, vI 6, vI x1, vU, vU, vU] [] S M (fun r S2 M2 => WP PR (d + 1) 83 155 [vA 1, vI x1, vI x2, vA x3] (r.toList ++ []) S2 M2 Q)) : WP PR (d + 1) 83 145 [vA 1, vI x1, vI x2, vA x3] [] S M Q := by
  refine WP.ca 4 155 152 (.invokevirtual 136) (0, 71, 0, 0) rfl ?_
  exact And.intro (⟨lo1 L, lf1_8 L⟩) (⟨rfl, rfl, rfl, lo191 L, rfl, k⟩)
set_option maxRecDepth 100000 in
theorem b_X8_of_155 {d : Nat} {S : mSh} {M : mMem} {Q : Option mV → mSh → mMem → Prop} {x1 x2 x3 s0 : Int} (k : Q (some (vI s0)) S M) : WP PR d 83 155 [vA 1, vI x1, vI x2, vA x3] [vI s0] S M Q := by
  refine WP.re 0 155 .ireturn (0, 0, 0, 0) _ rfl ?_
  exact ⟨rfl, rfl, trivial, k⟩
set_option maxRecDepth 100000 in
theorem b_X8_of_156 {d : Nat} {S : mSh} {M : mMem} {Q : Option mV → mSh → mMem → Prop} {x1 x2 x3 : Int} (hx3 : Stk S x3) (hc : R32 (x1 * 20) ∧ R32 ((x1 * 20) + x2) ∧ R32 (((x1 * 20) + x2) - 8) ∧ (0 ≤ ((x1 * 20) + x2) - 8 ∧ ((x1 * 20) + x2) - 8 < 160)) (k : Q (some (vI (M (x3 + 5) (((x1 * 20) + x2) - 8)))) S M) : WP PR d 83 156 [vA 1, vI x1, vI x2, vA x3] [] S M Q := by
  refine WP.re 10 170 .ireturn (0, 0, 0, 0) _ rfl ?_
  exact And.intro (⟨(hx3).o, (hx3).f4⟩) (And.intro (hc.1) (And.intro (hc.2.1) (And.intro (hc.2.2.1) (And.intro (inA_of ((hx3).a5) ((hx3).l5) hc.2.2.2) (⟨rfl, rfl, trivial, k⟩)))))
/-- SoleraCellar.old(II)J -/
abbrev e_X8_old (d : Nat) (a1 a2 : Int) (S : mSh) (M : mMem) (Q : Option mV → mSh → mMem → Prop) : Prop := WP PR d 84 0 [vA 1, vI a1, vI a2, vU] [] S M Q
set_option maxRecDepth 100000 in
theorem b_X8_old_0 {d : Nat} {S : mSh} {M : mMem} {Q : Option mV → mSh → mMem → Prop} {x1 x2 : Int} (L : Lay S) (k : WP PR d 42 0 [vA 9, vI x1] [] S M (fun r S2 M2 => WP PR (d + 1) 84 13 [vA 1, vI x1, vI x2, vA 9] (r.toList ++ []) S2 M2 Q)) : WP PR (d + 1) 84 0 [vA 1, vI x1, vI x2, vU] [] S M Q := by
  refine WP.ca 6 13 10 (.invokevirtual 110) (0, 42, 0, 0) rfl ?_
  exact And.intro (⟨lo1 L, lf1_2 L⟩) (And.intro (⟨lo8 L, lf8_0 L⟩) (⟨rfl, rfl, rfl, lo9 L, rfl, k⟩))
set_option maxRecDepth 100000 in
theorem b_X8_old_13 {d : Nat} {S : mSh} {M : mMem} {Q : Option mV → mSh → mMem → Prop} {x1 x2 x3 s0 : Int} (kt : s0 = 0 → WP PR d 84 36 [vA 1, vI x1, vI x2, vA x3] [] S M Q) (kf : ¬ s0 = 0 → WP PR d 84 16 [vA 1, vI x1, vI x2, vA x3] [] S M Q) : WP PR d 84 13 [vA 1, vI x1, vI x2, vA x3] [vI s0] S M Q := by
  refine WP.if0 0 16 13 .eq 23 (0, 0, 0, 0) 36 rfl rfl ?_
  exact ⟨kt, fun hc => kf hc⟩
set_option maxRecDepth 100000 in
theorem b_X8_old_16 {d : Nat} {S : mSh} {M : mMem} {Q : Option mV → mSh → mMem → Prop} {x1 x2 x3 : Int} (k : WP PR d 119 0 [vI x2, vI 0, vI 19] [] S M (fun r S2 M2 => WP PR (d + 1) 84 23 [vA 1, vI x1, vI x2, vA x3] (r.toList ++ []) S2 M2 Q)) : WP PR (d + 1) 84 16 [vA 1, vI x1, vI x2, vA x3] [] S M Q := by
  refine WP.ca 3 23 20 (.invokestatic 86) (0, 119, 0, 0) rfl ?_
  exact ⟨rfl, rfl, rfl, trivial, rfl, k⟩
set_option maxRecDepth 100000 in
theorem b_X8_old_23 {d : Nat} {S : mSh} {M : mMem} {Q : Option mV → mSh → mMem → Prop} {x1 x2 x3 s0 : Int} (kt : s0 = 0 → WP PR d 84 36 [vA 1, vI x1, vI x2, vA x3] [] S M Q) (kf : ¬ s0 = 0 → WP PR d 84 26 [vA 1, vI x1, vI x2, vA x3] [] S M Q) : WP PR d 84 23 [vA 1, vI x1, vI x2, vA x3] [vI s0] S M Q := by
  refine WP.if0 0 26 23 .eq 13 (0, 0, 0, 0) 36 rfl rfl ?_
  exact ⟨kt, fun hc => kf hc⟩
set_option maxRecDepth 100000 in
theorem b_X8_old_26 {d : Nat} {S : mSh} {M : mMem} {Q : Option mV → mSh → mMem → Prop} {x1 x2 x3 : Int} (hx3 : Stk S x3) (hc : (0 ≤ x1 ∧ x1 < 8)) (kt : 1 ≤ M (x3 + 3) x1 → WP PR d 84 40 [vA 1, vI x1, vI x2, vA x3] [] S M Q) (kf : M (x3 + 3) x1 < 1 → WP PR d 84 36 [vA 1, vI x1, vI x2, vA x3] [] S M Q) : WP PR d 84 26 [vA 1, vI x1, vI x2, vA x3] [] S M Q := by
  refine WP.if2 5 36 33 .ge 7 (0, 0, 0, 0) 40 rfl rfl ?_
  exact And.intro (⟨(hx3).o, (hx3).f2⟩) (And.intro (inA_of ((hx3).a3) ((hx3).l3) hc) (⟨kt, fun hc => kf (Int.not_le.mp hc)⟩))
set_option maxRecDepth 100000 in
theorem b_X8_old_36 {d : Nat} {S : mSh} {M : mMem} {Q : Option mV → mSh → mMem → Prop} {x1 x2 x3 : Int} (k : Q (some (vL (-1))) S M) : WP PR d 84 36 [vA 1, vI x1, vI x2, vA x3] [] S M Q := by
  refine WP.re 1 39 .lreturn (0, 0, 0, 0) _ rfl ?_
  exact ⟨rfl, rfl, trivial, k⟩
set_option maxRecDepth 100000 in
theorem b_X8_old_40 {d : Nat} {S : mSh} {M : mMem} {Q : Option mV → mSh → mMem → Prop} {x1 x2 x3 : Int} (hx3 : Stk S x3) (k : WP PR d 49 0 [vA x3, vI x1, vI x2, vU, vU, vU] [] S M (fun r S2 M2 => WP PR (d + 1) 84 46 [vA 1, vI x1, vI x2, vA x3] (r.toList ++ []) S2 M2 Q)) : WP PR (d + 1) 84 40 [vA 1, vI x1, vI x2, vA x3] [] S M Q := by
  refine WP.ca 3 46 43 (.invokevirtual 144) (0, 49, 0, 0) rfl ?_
  exact ⟨rfl, rfl, rfl, (hx3).o, rfl, k⟩
set_option maxRecDepth 100000 in
theorem b_X8_old_46 {d : Nat} {S : mSh} {M : mMem} {Q : Option mV → mSh → mMem → Prop} {x1 x2 x3 s0 : Int} (hx3 : Stk S x3) (hc : R64 (s0 * 1000000000000) ∧ (0 ≤ x1 ∧ x1 < 8) ∧ (M (x3 + 3) x1) ≠ 0 ∧ R64 ((s0 * 1000000000000).tdiv (M (x3 + 3) x1))) (k : Q (some (vL ((s0 * 1000000000000).tdiv (M (x3 + 3) x1)))) S M) : WP PR d 84 46 [vA 1, vI x1, vI x2, vA x3] [vL s0] S M Q := by
  refine WP.re 8 58 .lreturn (0, 0, 0, 0) _ rfl ?_
  exact And.intro (hc.1) (And.intro (⟨(hx3).o, (hx3).f2⟩) (And.intro (inA_of ((hx3).a3) ((hx3).l3) hc.2.1) (And.intro (⟨hc.2.2.1, hc.2.2.2⟩) (⟨rfl, rfl, trivial, k⟩))))
/-- SoleraCellar.terms(II)I -/
abbrev e_X8_terms (d : Nat) (a1 a2 : Int) (S : mSh) (M : mMem) (Q : Option mV → mSh → mMem → Prop) : Prop := WP PR d 85 0 [vA 1, vI a1, vI a2, vU] [] S M Q
set_option maxRecDepth 100000 in
theorem b_X8_terms_0 {d : Nat} {S : mSh} {M : mMem} {Q : Option mV → mSh → mMem → Prop} {x1 x2 : Int} (k : WP PR d 119 0 [vI x1, vI 0, vI 3] [] S M (fun r S2 M2 => WP PR (d + 1) 85 6 [vA 1, vI x1, vI x2, vU] (r.toList ++ []) S2 M2 Q)) : WP PR (d + 1) 85 0 [vA 1, vI x1, vI x2, vU] [] S M Q := by
  refine WP.ca 3 6 3 (.invokestatic 86) (0, 119, 0, 0) rfl ?_
  exact ⟨rfl, rfl, rfl, trivial, rfl, k⟩
set_option maxRecDepth 100000 in
theorem b_X8_terms_6 {d : Nat} {S : mSh} {M : mMem} {Q : Option mV → mSh → mMem → Prop} {x1 x2 s0 : Int} {u3 : mV} (kt : s0 = 0 → WP PR d 85 24 [vA 1, vI x1, vI x2, u3] [] S M Q) (kf : ¬ s0 = 0 → WP PR d 85 9 [vA 1, vI x1, vI x2, u3] [] S M Q) : WP PR d 85 6 [vA 1, vI x1, vI x2, u3] [vI s0] S M Q := by
  refine WP.if0 0 9 6 .eq 18 (0, 0, 0, 0) 24 rfl rfl ?_
  exact ⟨kt, fun hc => kf hc⟩
set_option maxRecDepth 100000 in
theorem b_X8_terms_9 {d : Nat} {S : mSh} {M : mMem} {Q : Option mV → mSh → mMem → Prop} {x1 x2 : Int} {u3 : mV} (k : WP PR d 120 0 [vI x1] [] S M (fun r S2 M2 => WP PR (d + 1) 85 14 [vA 1, vI x1, vI x2, u3] (r.toList ++ [vI x2]) S2 M2 Q)) : WP PR (d + 1) 85 9 [vA 1, vI x1, vI x2, u3] [] S M Q := by
  refine WP.ca 2 14 11 (.invokestatic 150) (0, 120, 0, 0) rfl ?_
  exact ⟨rfl, rfl, rfl, trivial, rfl, k⟩
set_option maxRecDepth 100000 in
theorem b_X8_terms_14 {d : Nat} {S : mSh} {M : mMem} {Q : Option mV → mSh → mMem → Prop} {x1 x2 s0 s1 : Int} {u3 : mV} (k : WP PR d 121 0 [vI x1] [] S M (fun r S2 M2 => WP PR (d + 1) 85 18 [vA 1, vI x1, vI x2, u3] (r.toList ++ [vI s1, vI s0]) S2 M2 Q)) : WP PR (d + 1) 85 14 [vA 1, vI x1, vI x2, u3] [vI s1, vI s0] S M Q := by
  refine WP.ca 1 18 15 (.invokestatic 153) (0, 121, 0, 0) rfl ?_
  exact ⟨rfl, rfl, rfl, trivial, rfl, k⟩
set_option maxRecDepth 100000 in
theorem b_X8_terms_18 {d : Nat} {S : mSh} {M : mMem} {Q : Option mV → mSh → mMem → Prop} {x1 x2 s0 s1 s2 : Int} {u3 : mV} (k : WP PR d 119 0 [vI s0, vI s1, vI s2] [] S M (fun r S2 M2 => WP PR (d + 1) 85 21 [vA 1, vI x1, vI x2, u3] (r.toList ++ []) S2 M2 Q)) : WP PR (d + 1) 85 18 [vA 1, vI x1, vI x2, u3] [vI s2, vI s1, vI s0] S M Q := by
  refine WP.ca 0 21 18 (.invokestatic 86) (0, 119, 0, 0) rfl ?_
  exact ⟨rfl, rfl, rfl, trivial, rfl, k⟩
set_option maxRecDepth 100000 in
theorem b_X8_terms_21 {d : Nat} {S : mSh} {M : mMem} {Q : Option mV → mSh → mMem → Prop} {x1 x2 s0 : Int} {u3 : mV} (kt : ¬ s0 = 0 → WP PR d 85 30 [vA 1, vI x1, vI x2, u3] [] S M Q) (kf : s0 = 0 → WP PR d 85 24 [vA 1, vI x1, vI x2, u3] [] S M Q) : WP PR d 85 21 [vA 1, vI x1, vI x2, u3] [vI s0] S M Q := by
  refine WP.if0 0 24 21 .ne 9 (0, 0, 0, 0) 30 rfl rfl ?_
  exact ⟨kt, fun hc => kf (Decidable.not_not.mp hc)⟩
set_option maxRecDepth 100000 in
theorem b_X8_terms_24 {d : Nat} {S : mSh} {M : mMem} {Q : Option mV → mSh → mMem → Prop} {x1 x2 : Int} {u3 : mV} (L : Lay S) (k : WP PR d 123 0 [vA 1, vI (-1)] [] S M (fun r S2 M2 => WP PR (d + 1) 85 29 [vA 1, vI x1, vI x2, u3] (r.toList ++ []) S2 M2 Q)) : WP PR (d + 1) 85 24 [vA 1, vI x1, vI x2, u3] [] S M Q := by
  refine WP.ca 2 29 26 (.invokevirtual 90) (0, 123, 0, 0) rfl ?_
  exact ⟨rfl, rfl, rfl, lo1 L, rfl, k⟩
set_option maxRecDepth 100000 in
theorem b_X8_terms_29 {d : Nat} {S : mSh} {M : mMem} {Q : Option mV → mSh → mMem → Prop} {x1 x2 s0 : Int} {u3 : mV} (k : Q (some (vI s0)) S M) : WP PR d 85 29 [vA 1, vI x1, vI x2, u3] [vI s0] S M Q := by
  refine WP.re 0 29 .ireturn (0, 0, 0, 0) _ rfl ?_
  exact ⟨rfl, rfl, trivial, k⟩
set_option maxRecDepth 100000 in
theorem b_X8_terms_30 {d : Nat} {S : mSh} {M : mMem} {Q : Option mV → mSh → mMem → Prop} {x1 x2 : Int} {u3 : mV} (L : Lay S) (hc : (0 ≤ x1 ∧ x1 < 4)) (k : WP PR d 9 0 [vA 55] [] S (up M 15 x1 x2) (fun r S2 M2 => WP PR (d + 1) 85 63 [vA 1, vI x1, vI x2, vI (M 15 x1)] (r.toList ++ []) S2 M2 Q)) : WP PR (d + 1) 85 30 [vA 1, vI x1, vI x2, u3] [] S M Q := by
  refine WP.ca 16 63 60 (.invokevirtual 100) (0, 9, 0, 0) rfl ?_
  exact And.intro (⟨lo1 L, lf1_2 L⟩) (And.intro (⟨lo8 L, lf8_0 L⟩) (And.intro (⟨lo9 L, lf9_5 L⟩) (And.intro (inA_of (lo15 L) (ll15 L) hc) (And.intro (⟨lo1 L, lf1_2 L⟩) (And.intro (⟨lo8 L, lf8_0 L⟩) (And.intro (⟨lo9 L, lf9_5 L⟩) (And.intro (inA_of (lo15 L) (ll15 L) hc) (And.intro (⟨lo1 L, lf1_5 L⟩) (⟨rfl, rfl, rfl, lo55 L, rfl, k⟩)))))))))
set_option maxRecDepth 100000 in
theorem b_X8_terms_63 {d : Nat} {S : mSh} {M : mMem} {Q : Option mV → mSh → mMem → Prop} {x1 x2 x3 : Int} (L : Lay S) (k : WP PR d 122 0 [vA 1, vI x3] [] S M (fun r S2 M2 => WP PR (d + 1) 85 68 [vA 1, vI x1, vI x2, vI x3] (r.toList ++ []) S2 M2 Q)) : WP PR (d + 1) 85 63 [vA 1, vI x1, vI x2, vI x3] [] S M Q := by
  refine WP.ca 2 68 65 (.invokevirtual 107) (0, 122, 0, 0) rfl ?_
  exact ⟨rfl, rfl, rfl, lo1 L, rfl, k⟩
set_option maxRecDepth 100000 in
theorem b_X8_terms_68 {d : Nat} {S : mSh} {M : mMem} {Q : Option mV → mSh → mMem → Prop} {x1 x2 x3 s0 : Int} (k : Q (some (vI s0)) S M) : WP PR d 85 68 [vA 1, vI x1, vI x2, vI x3] [vI s0] S M Q := by
  refine WP.re 0 68 .ireturn (0, 0, 0, 0) _ rfl ?_
  exact ⟨rfl, rfl, trivial, k⟩
/-- SoleraCellar.feed(IIIII)I -/
abbrev e_X8_feed (d : Nat) (a1 a2 a3 a4 a5 : Int) (S : mSh) (M : mMem) (Q : Option mV → mSh → mMem → Prop) : Prop := WP PR d 86 0 [vA 1, vI a1, vI a2, vI a3, vI a4, vI a5] [] S M Q
set_option maxRecDepth 100000 in
theorem b_X8_feed_0 {d : Nat} {S : mSh} {M : mMem} {Q : Option mV → mSh → mMem → Prop} {x1 x2 x3 x4 x5 : Int} (L : Lay S) (hc : R32 ((M 2 1) + 20)) (kt : (M 2 1) + 20 ≤ 400 → WP PR d 86 18 [vA 1, vI x1, vI x2, vI x3, vI x4, vI x5] [] S M Q) (kf : 400 < (M 2 1) + 20 → WP PR d 86 16 [vA 1, vI x1, vI x2, vI x3, vI x4, vI x5] [] S M Q) : WP PR d 86 0 [vA 1, vI x1, vI x2, vI x3, vI x4, vI x5] [] S M Q := by
  refine WP.if2 6 16 13 .le 5 (0, 0, 0, 0) 18 rfl rfl ?_
  exact And.intro (⟨lo1 L, lf1_0 L⟩) (And.intro (lo2 L) (And.intro (hc) (⟨kt, fun hc => kf (Int.not_le.mp hc)⟩)))
set_option maxRecDepth 100000 in
theorem b_X8_feed_16 {d : Nat} {S : mSh} {M : mMem} {Q : Option mV → mSh → mMem → Prop} {x1 x2 x3 x4 x5 : Int} (k : Q (some (vI (-1))) S M) : WP PR d 86 16 [vA 1, vI x1, vI x2, vI x3, vI x4, vI x5] [] S M Q := by
  refine WP.re 1 17 .ireturn (0, 0, 0, 0) _ rfl ?_
  exact ⟨rfl, rfl, trivial, k⟩
set_option maxRecDepth 100000 in
theorem b_X8_feed_18 {d : Nat} {S : mSh} {M : mMem} {Q : Option mV → mSh → mMem → Prop} {x1 x2 x3 x4 x5 : Int} (L : Lay S) (k : WP PR d 57 0 [vA 2, vI x1, vU] [] S M (fun r S2 M2 => WP PR (d + 1) 86 26 [vA 1, vI x1, vI x2, vI x3, vI x4, vI x5] (r.toList ++ []) S2 M2 Q)) : WP PR (d + 1) 86 18 [vA 1, vI x1, vI x2, vI x3, vI x4, vI x5] [] S M Q := by
  refine WP.ca 3 26 23 (.invokevirtual 162) (0, 57, 0, 0) rfl ?_
  exact And.intro (⟨lo1 L, lf1_0 L⟩) (⟨rfl, rfl, rfl, lo2 L, rfl, k⟩)
set_option maxRecDepth 100000 in
theorem b_X8_feed_26 {d : Nat} {S : mSh} {M : mMem} {Q : Option mV → mSh → mMem → Prop} {x1 x2 x3 x4 x5 : Int} (L : Lay S) (k : WP PR d 57 0 [vA 2, vI x2, vU] [] S M (fun r S2 M2 => WP PR (d + 1) 86 34 [vA 1, vI x1, vI x2, vI x3, vI x4, vI x5] (r.toList ++ []) S2 M2 Q)) : WP PR (d + 1) 86 26 [vA 1, vI x1, vI x2, vI x3, vI x4, vI x5] [] S M Q := by
  refine WP.ca 3 34 31 (.invokevirtual 162) (0, 57, 0, 0) rfl ?_
  exact And.intro (⟨lo1 L, lf1_0 L⟩) (⟨rfl, rfl, rfl, lo2 L, rfl, k⟩)
set_option maxRecDepth 100000 in
theorem b_X8_feed_34 {d : Nat} {S : mSh} {M : mMem} {Q : Option mV → mSh → mMem → Prop} {x1 x2 x3 x4 x5 : Int} (L : Lay S) (k : WP PR d 57 0 [vA 2, vI x3, vU] [] S M (fun r S2 M2 => WP PR (d + 1) 86 42 [vA 1, vI x1, vI x2, vI x3, vI x4, vI x5] (r.toList ++ []) S2 M2 Q)) : WP PR (d + 1) 86 34 [vA 1, vI x1, vI x2, vI x3, vI x4, vI x5] [] S M Q := by
  refine WP.ca 3 42 39 (.invokevirtual 162) (0, 57, 0, 0) rfl ?_
  exact And.intro (⟨lo1 L, lf1_0 L⟩) (⟨rfl, rfl, rfl, lo2 L, rfl, k⟩)
set_option maxRecDepth 100000 in
theorem b_X8_feed_42 {d : Nat} {S : mSh} {M : mMem} {Q : Option mV → mSh → mMem → Prop} {x1 x2 x3 x4 x5 : Int} (L : Lay S) (k : WP PR d 57 0 [vA 2, vI x4, vU] [] S M (fun r S2 M2 => WP PR (d + 1) 86 51 [vA 1, vI x1, vI x2, vI x3, vI x4, vI x5] (r.toList ++ []) S2 M2 Q)) : WP PR (d + 1) 86 42 [vA 1, vI x1, vI x2, vI x3, vI x4, vI x5] [] S M Q := by
  refine WP.ca 3 51 48 (.invokevirtual 162) (0, 57, 0, 0) rfl ?_
  exact And.intro (⟨lo1 L, lf1_0 L⟩) (⟨rfl, rfl, rfl, lo2 L, rfl, k⟩)
set_option maxRecDepth 100000 in
theorem b_X8_feed_51 {d : Nat} {S : mSh} {M : mMem} {Q : Option mV → mSh → mMem → Prop} {x1 x2 x3 x4 x5 : Int} (L : Lay S) (k : WP PR d 57 0 [vA 2, vI x5, vU] [] S M (fun r S2 M2 => WP PR (d + 1) 86 60 [vA 1, vI x1, vI x2, vI x3, vI x4, vI x5] (r.toList ++ []) S2 M2 Q)) : WP PR (d + 1) 86 51 [vA 1, vI x1, vI x2, vI x3, vI x4, vI x5] [] S M Q := by
  refine WP.ca 3 60 57 (.invokevirtual 162) (0, 57, 0, 0) rfl ?_
  exact And.intro (⟨lo1 L, lf1_0 L⟩) (⟨rfl, rfl, rfl, lo2 L, rfl, k⟩)
set_option maxRecDepth 100000 in
theorem b_X8_feed_60 {d : Nat} {S : mSh} {M : mMem} {Q : Option mV → mSh → mMem → Prop} {x1 x2 x3 x4 x5 : Int} (L : Lay S) (k : Q (some (vI (M 2 1))) S M) : WP PR d 86 60 [vA 1, vI x1, vI x2, vI x3, vI x4, vI x5] [] S M Q := by
  refine WP.re 3 67 .ireturn (0, 0, 0, 0) _ rfl ?_
  exact And.intro (⟨lo1 L, lf1_0 L⟩) (And.intro (lo2 L) (⟨rfl, rfl, trivial, k⟩))
/-- SoleraCellar.end(I)I -/
abbrev e_X8_end (d : Nat) (a1 : Int) (S : mSh) (M : mMem) (Q : Option mV → mSh → mMem → Prop) : Prop := WP PR d 87 0 [vA 1, vI a1] [] S M Q
set_option maxRecDepth 100000 in
theorem b_X8_end_0 {d : Nat} {S : mSh} {M : mMem} {Q : Option mV → mSh → mMem → Prop} {x1 : Int} (L : Lay S) (k : WP PR d 119 0 [vI x1, vI 0, vI (M 2 1)] [] S M (fun r S2 M2 => WP PR (d + 1) 87 12 [vA 1, vI x1] (r.toList ++ []) S2 M2 Q)) : WP PR (d + 1) 87 0 [vA 1, vI x1] [] S M Q := by
  refine WP.ca 5 12 9 (.invokestatic 86) (0, 119, 0, 0) rfl ?_
  exact And.intro (⟨lo1 L, lf1_0 L⟩) (And.intro (lo2 L) (⟨rfl, rfl, rfl, trivial, rfl, k⟩))
set_option maxRecDepth 100000 in
theorem b_X8_end_12 {d : Nat} {S : mSh} {M : mMem} {Q : Option mV → mSh → mMem → Prop} {x1 s0 : Int} (kt : ¬ s0 = 0 → WP PR d 87 17 [vA 1, vI x1] [] S M Q) (kf : s0 = 0 → WP PR d 87 15 [vA 1, vI x1] [] S M Q) : WP PR d 87 12 [vA 1, vI x1] [vI s0] S M Q := by
  refine WP.if0 0 15 12 .ne 5 (0, 0, 0, 0) 17 rfl rfl ?_
  exact ⟨kt, fun hc => kf (Decidable.not_not.mp hc)⟩
set_option maxRecDepth 100000 in
theorem b_X8_end_15 {d : Nat} {S : mSh} {M : mMem} {Q : Option mV → mSh → mMem → Prop} {x1 : Int} (k : Q (some (vI (-1))) S M) : WP PR d 87 15 [vA 1, vI x1] [] S M Q := by
  refine WP.re 1 16 .ireturn (0, 0, 0, 0) _ rfl ?_
  exact ⟨rfl, rfl, trivial, k⟩
set_option maxRecDepth 100000 in
theorem b_X8_end_17 {d : Nat} {S : mSh} {M : mMem} {Q : Option mV → mSh → mMem → Prop} {x1 : Int} (L : Lay S) (k : Q (some (vI x1)) S (up M 2 1 x1)) : WP PR d 87 17 [vA 1, vI x1] [] S M Q := by
  refine WP.re 5 26 .ireturn (0, 0, 0, 0) _ rfl ?_
  exact And.intro (⟨lo1 L, lf1_0 L⟩) (And.intro (lo2 L) (⟨rfl, rfl, trivial, k⟩))
/-- SoleraCellar.row()I -/
abbrev e_X8_row (d : Nat) (S : mSh) (M : mMem) (Q : Option mV → mSh → mMem → Prop) : Prop := WP PR d 88 0 [vA 1, vU, vU] [] S M Q
set_option maxRecDepth 100000 in
theorem b_X8_row_0 {d : Nat} {S : mSh} {M : mMem} {Q : Option mV → mSh → mMem → Prop} (L : Lay S) (kt : 1 ≤ M 2 1 → WP PR d 88 18 [vA 1, vU, vU] [] S M Q) (kf : M 2 1 < 1 → WP PR d 88 11 [vA 1, vU, vU] [] S M Q) : WP PR d 88 0 [vA 1, vU, vU] [] S M Q := by
  refine WP.if2 4 11 8 .ge 10 (0, 0, 0, 0) 18 rfl rfl ?_
  exact And.intro (⟨lo1 L, lf1_0 L⟩) (And.intro (lo2 L) (⟨kt, fun hc => kf (Int.not_le.mp hc)⟩))
set_option maxRecDepth 100000 in
theorem b_X8_row_11 {d : Nat} {S : mSh} {M : mMem} {Q : Option mV → mSh → mMem → Prop} {u1 u2 : mV} (L : Lay S) (k : WP PR d 123 0 [vA 1, vI (-6)] [] S M (fun r S2 M2 => WP PR (d + 1) 88 17 [vA 1, u1, u2] (r.toList ++ []) S2 M2 Q)) : WP PR (d + 1) 88 11 [vA 1, u1, u2] [] S M Q := by
  refine WP.ca 2 17 14 (.invokevirtual 90) (0, 123, 0, 0) rfl ?_
  exact ⟨rfl, rfl, rfl, lo1 L, rfl, k⟩
set_option maxRecDepth 100000 in
theorem b_X8_row_17 {d : Nat} {S : mSh} {M : mMem} {Q : Option mV → mSh → mMem → Prop} {s0 : Int} {u1 u2 : mV} (k : Q (some (vI s0)) S M) : WP PR d 88 17 [vA 1, u1, u2] [vI s0] S M Q := by
  refine WP.re 0 17 .ireturn (0, 0, 0, 0) _ rfl ?_
  exact ⟨rfl, rfl, trivial, k⟩
set_option maxRecDepth 100000 in
theorem b_X8_row_18 {d : Nat} {S : mSh} {M : mMem} {Q : Option mV → mSh → mMem → Prop} {u1 u2 : mV} (L : Lay S) (k : WP PR d 88 27 [vA 1, vI 0, vI 0] [] S (up M 1 12 0) Q) : WP PR d 88 18 [vA 1, u1, u2] [] S M Q := by
  refine WP.bl 7 27 rfl ?_
  exact And.intro (lo1 L) (k)
set_option maxRecDepth 100000 in
theorem b_X8_row_27 {d : Nat} {S : mSh} {M : mMem} {Q : Option mV → mSh → mMem → Prop} {x1 x2 : Int} (L : Lay S) (kt : M 2 1 ≤ x2 → WP PR d 88 68 [vA 1, vI x1, vI x2] [] S M Q) (kf : x2 < M 2 1 → WP PR d 88 38 [vA 1, vI x1, vI x2] [] S M Q) : WP PR d 88 27 [vA 1, vI x1, vI x2] [] S M Q := by
  refine WP.if2 4 38 35 .ge 33 (0, 0, 0, 0) 68 rfl rfl ?_
  exact And.intro (⟨lo1 L, lf1_0 L⟩) (And.intro (lo2 L) (⟨kt, fun hc => kf (Int.not_le.mp hc)⟩))
set_option maxRecDepth 100000 in
theorem b_X8_row_38 {d : Nat} {S : mSh} {M : mMem} {Q : Option mV → mSh → mMem → Prop} {x1 x2 : Int} (L : Lay S) (k : WP PR d 124 0 [vA 1, vI x2, vU, vU, vU] [] S M (fun r S2 M2 => WP PR (d + 1) 88 43 [vA 1, vI x1, vI x2] (r.toList ++ []) S2 M2 Q)) : WP PR (d + 1) 88 38 [vA 1, vI x1, vI x2] [] S M Q := by
  refine WP.ca 2 43 40 (.invokevirtual 168) (0, 124, 0, 0) rfl ?_
  exact ⟨rfl, rfl, rfl, lo1 L, rfl, k⟩
set_option maxRecDepth 100000 in
theorem b_X8_row_43 {d : Nat} {S : mSh} {M : mMem} {Q : Option mV → mSh → mMem → Prop} {x1 x2 s0 : Int} (kt : s0 = 0 → WP PR d 88 52 [vA 1, vI x1, vI x2] [] S M Q) (kf : ¬ s0 = 0 → WP PR d 88 46 [vA 1, vI x1, vI x2] [] S M Q) : WP PR d 88 43 [vA 1, vI x1, vI x2] [vI s0] S M Q := by
  refine WP.if0 0 46 43 .eq 9 (0, 0, 0, 0) 52 rfl rfl ?_
  exact ⟨kt, fun hc => kf hc⟩
set_option maxRecDepth 100000 in
theorem b_X8_row_46 {d : Nat} {S : mSh} {M : mMem} {Q : Option mV → mSh → mMem → Prop} {x1 x2 : Int} (hc : R32 (x1 + 1) ∧ R32 (x2 + 3)) (k : WP PR d 88 27 [vA 1, vI (x1 + 1), vI (x2 + 3)] [] S M Q) : WP PR d 88 46 [vA 1, vI x1, vI x2] [] S M Q := by
  refine WP.gt 1 49 13 (0, 0, 0, 0) _ 62 rfl rfl ?_
  refine And.intro (hc.1) (?_)
  show WP PR d 88 62 [vA 1, vI (x1 + 1), vI x2] [] S M Q
  refine WP.gt 1 65 (-38) (0, 0, 0, 0) _ 27 rfl rfl ?_
  exact And.intro (hc.2) (k)
set_option maxRecDepth 100000 in
theorem b_X8_row_52 {d : Nat} {S : mSh} {M : mMem} {Q : Option mV → mSh → mMem → Prop} {x1 x2 : Int} (L : Lay S) (hc : R32 ((M 1 12) + 1) ∧ R32 (x2 + 3)) (k : WP PR d 88 27 [vA 1, vI x1, vI (x2 + 3)] [] S (up M 1 12 ((M 1 12) + 1)) Q) : WP PR d 88 52 [vA 1, vI x1, vI x2] [] S M Q := by
  refine WP.gt 7 65 (-38) (0, 0, 0, 0) _ 27 rfl rfl ?_
  exact And.intro (lo1 L) (And.intro (hc.1) (And.intro (lo1 L) (And.intro (hc.2) (k))))
set_option maxRecDepth 100000 in
theorem b_X8_row_68 {d : Nat} {S : mSh} {M : mMem} {Q : Option mV → mSh → mMem → Prop} {x1 x2 : Int} (L : Lay S) (k : WP PR d 9 0 [vA 55] [] S (up M 2 1 0) (fun r S2 M2 => WP PR (d + 1) 88 83 [vA 1, vI x1, vI x2] (r.toList ++ []) S2 M2 Q)) : WP PR (d + 1) 88 68 [vA 1, vI x1, vI x2] [] S M Q := by
  refine WP.ca 6 83 80 (.invokevirtual 100) (0, 9, 0, 0) rfl ?_
  exact And.intro (⟨lo1 L, lf1_0 L⟩) (And.intro (lo2 L) (And.intro (⟨lo1 L, lf1_5 L⟩) (⟨rfl, rfl, rfl, lo55 L, rfl, k⟩)))
set_option maxRecDepth 100000 in
theorem b_X8_row_83 {d : Nat} {S : mSh} {M : mMem} {Q : Option mV → mSh → mMem → Prop} {x1 x2 : Int} (L : Lay S) (k : WP PR d 122 0 [vA 1, vI x1] [] S M (fun r S2 M2 => WP PR (d + 1) 88 88 [vA 1, vI x1, vI x2] (r.toList ++ []) S2 M2 Q)) : WP PR (d + 1) 88 83 [vA 1, vI x1, vI x2] [] S M Q := by
  refine WP.ca 2 88 85 (.invokevirtual 107) (0, 122, 0, 0) rfl ?_
  exact ⟨rfl, rfl, rfl, lo1 L, rfl, k⟩
set_option maxRecDepth 100000 in
theorem b_X8_row_88 {d : Nat} {S : mSh} {M : mMem} {Q : Option mV → mSh → mMem → Prop} {x1 x2 s0 : Int} (k : Q (some (vI s0)) S M) : WP PR d 88 88 [vA 1, vI x1, vI x2] [vI s0] S M Q := by
  refine WP.re 0 88 .ireturn (0, 0, 0, 0) _ rfl ?_
  exact ⟨rfl, rfl, trivial, k⟩
/-- SoleraCellar.leaks()I -/
abbrev e_X8_leaks (d : Nat) (S : mSh) (M : mMem) (Q : Option mV → mSh → mMem → Prop) : Prop := WP PR d 89 0 [vA 1] [] S M Q
set_option maxRecDepth 100000 in
theorem b_X8_leaks_0 {d : Nat} {S : mSh} {M : mMem} {Q : Option mV → mSh → mMem → Prop} (L : Lay S) (k : Q (some (vI (M 1 12))) S M) : WP PR d 89 0 [vA 1] [] S M Q := by
  refine WP.re 2 4 .ireturn (0, 0, 0, 0) _ rfl ?_
  exact And.intro (lo1 L) (⟨rfl, rfl, trivial, k⟩)
/-- SoleraCellar.law()I -/
abbrev e_X8_law (d : Nat) (S : mSh) (M : mMem) (Q : Option mV → mSh → mMem → Prop) : Prop := WP PR d 90 0 [vA 1] [] S M Q
set_option maxRecDepth 100000 in
theorem b_X8_law_0 {d : Nat} {S : mSh} {M : mMem} {Q : Option mV → mSh → mMem → Prop} (L : Lay S) (kt : M 8 6 < 6 → WP PR d 90 27 [vA 1] [] S M Q) (kf : 6 ≤ M 8 6 → WP PR d 90 12 [vA 1] [] S M Q) : WP PR d 90 0 [vA 1] [] S M Q := by
  refine WP.if2 4 12 9 .lt 18 (0, 0, 0, 0) 27 rfl rfl ?_
  exact And.intro (⟨lo1 L, lf1_2 L⟩) (And.intro (lo8 L) (⟨kt, fun hc => kf (Int.not_lt.mp hc)⟩))
set_option maxRecDepth 100000 in
theorem b_X8_law_12 {d : Nat} {S : mSh} {M : mMem} {Q : Option mV → mSh → mMem → Prop} (L : Lay S) (k : WP PR d 123 0 [vA 1, vI (-5)] [] S (up M 2 1 0) (fun r S2 M2 => WP PR (d + 1) 90 26 [vA 1] (r.toList ++ []) S2 M2 Q)) : WP PR (d + 1) 90 12 [vA 1] [] S M Q := by
  refine WP.ca 6 26 23 (.invokevirtual 90) (0, 123, 0, 0) rfl ?_
  exact And.intro (⟨lo1 L, lf1_0 L⟩) (And.intro (lo2 L) (⟨rfl, rfl, rfl, lo1 L, rfl, k⟩))
set_option maxRecDepth 100000 in
theorem b_X8_law_26 {d : Nat} {S : mSh} {M : mMem} {Q : Option mV → mSh → mMem → Prop} {s0 : Int} (k : Q (some (vI s0)) S M) : WP PR d 90 26 [vA 1] [vI s0] S M Q := by
  refine WP.re 0 26 .ireturn (0, 0, 0, 0) _ rfl ?_
  exact ⟨rfl, rfl, trivial, k⟩
set_option maxRecDepth 100000 in
theorem b_X8_law_27 {d : Nat} {S : mSh} {M : mMem} {Q : Option mV → mSh → mMem → Prop} (L : Lay S) (k : WP PR d 14 0 [vA 4, vI 1, vU] [] S M (fun r S2 M2 => WP PR (d + 1) 90 36 [vA 1] (r.toList ++ [vA 1]) S2 M2 Q)) : WP PR (d + 1) 90 27 [vA 1] [] S M Q := by
  refine WP.ca 4 36 33 (.invokevirtual 174) (0, 14, 0, 0) rfl ?_
  exact And.intro (⟨lo1 L, lf1_1 L⟩) (⟨rfl, rfl, rfl, lo4 L, rfl, k⟩)
set_option maxRecDepth 100000 in
theorem b_X8_law_36 {d : Nat} {S : mSh} {M : mMem} {Q : Option mV → mSh → mMem → Prop} {s1 : Int} (L : Lay S) (kt : s1 = (-1) → WP PR d 90 62 [vA 1] [] S (up (up M 1 13 s1) 2 1 0) Q) (kf : ¬ s1 = (-1) → WP PR d 90 55 [vA 1] [] S (up (up M 1 13 s1) 2 1 0) Q) : WP PR d 90 36 [vA 1] [vI s1, vA 1] S M Q := by
  refine WP.if2 8 55 52 .eq 10 (0, 0, 0, 0) 62 rfl rfl ?_
  exact And.intro (lo1 L) (And.intro (⟨lo1 L, lf1_0 L⟩) (And.intro (lo2 L) (And.intro (lo1 L) (⟨kt, fun hc => kf hc⟩))))
set_option maxRecDepth 100000 in
theorem b_X8_law_55 {d : Nat} {S : mSh} {M : mMem} {Q : Option mV → mSh → mMem → Prop} (L : Lay S) (k : WP PR d 123 0 [vA 1, vI (-6)] [] S M (fun r S2 M2 => WP PR (d + 1) 90 61 [vA 1] (r.toList ++ []) S2 M2 Q)) : WP PR (d + 1) 90 55 [vA 1] [] S M Q := by
  refine WP.ca 2 61 58 (.invokevirtual 90) (0, 123, 0, 0) rfl ?_
  exact ⟨rfl, rfl, rfl, lo1 L, rfl, k⟩
set_option maxRecDepth 100000 in
theorem b_X8_law_61 {d : Nat} {S : mSh} {M : mMem} {Q : Option mV → mSh → mMem → Prop} {s0 : Int} (k : Q (some (vI s0)) S M) : WP PR d 90 61 [vA 1] [vI s0] S M Q := by
  refine WP.re 0 61 .ireturn (0, 0, 0, 0) _ rfl ?_
  exact ⟨rfl, rfl, trivial, k⟩
set_option maxRecDepth 100000 in
theorem b_X8_law_62 {d : Nat} {S : mSh} {M : mMem} {Q : Option mV → mSh → mMem → Prop} (L : Lay S) (k : WP PR d 59 0 [vA 5, vU] [] S M (fun r S2 M2 => WP PR (d + 1) 90 86 [vA 1] (r.toList ++ [vI (M 8 6), vA 19]) S2 M2 Q)) : WP PR (d + 1) 90 62 [vA 1] [] S M Q := by
  refine WP.ca 9 86 83 (.invokevirtual 186) (0, 59, 0, 0) rfl ?_
  exact And.intro (⟨lo1 L, lf1_2 L⟩) (And.intro (⟨lo8 L, lf8_2 L⟩) (And.intro (⟨lo1 L, lf1_2 L⟩) (And.intro (lo8 L) (And.intro (⟨lo1 L, lf1_1 L⟩) (And.intro (⟨lo4 L, lf4_1 L⟩) (⟨rfl, rfl, rfl, lo5 L, rfl, k⟩))))))
set_option maxRecDepth 100000 in
theorem b_X8_law_86 {d : Nat} {S : mSh} {M : mMem} {Q : Option mV → mSh → mMem → Prop} {s0 s1 s2 : Int} (L : Lay S) (ho1 : isO S s0 23) (hs2 : Txt S s2) (hc : (0 ≤ s1 ∧ s1 < sL S s0) ∧ R32 (((up M s0 s1 s2) 8 6) + 1) ∧ R32 ((((up M s0 s1 s2) 8 6) + 1) - 1)) (k : WP PR d 122 0 [vA 1, vI ((((up M s0 s1 s2) 8 6) + 1) - 1)] [] S (up (up M s0 s1 s2) 8 6 (((up M s0 s1 s2) 8 6) + 1)) (fun r S2 M2 => WP PR (d + 1) 90 113 [vA 1] (r.toList ++ []) S2 M2 Q)) : WP PR (d + 1) 90 86 [vA 1] [vA s2, vI s1, vA s0] S M Q := by
  refine WP.ca 14 113 110 (.invokevirtual 107) (0, 122, 0, 0) rfl ?_
  exact And.intro (⟨inA_of (ho1) (rfl) hc.1, (hs2).o⟩) (And.intro (⟨lo1 L, lf1_2 L⟩) (And.intro (lo8 L) (And.intro (hc.2.1) (And.intro (lo8 L) (And.intro (⟨lo1 L, lf1_2 L⟩) (And.intro (lo8 L) (And.intro (hc.2.2) (⟨rfl, rfl, rfl, lo1 L, rfl, k⟩))))))))
set_option maxRecDepth 100000 in
theorem b_X8_law_113 {d : Nat} {S : mSh} {M : mMem} {Q : Option mV → mSh → mMem → Prop} {s0 : Int} (k : Q (some (vI s0)) S M) : WP PR d 90 113 [vA 1] [vI s0] S M Q := by
  refine WP.re 0 113 .ireturn (0, 0, 0, 0) _ rfl ?_
  exact ⟨rfl, rfl, trivial, k⟩
/-- SoleraCellar.plan()I -/
abbrev e_X8_plan (d : Nat) (S : mSh) (M : mMem) (Q : Option mV → mSh → mMem → Prop) : Prop := WP PR d 91 0 [vA 1] [] S M Q
set_option maxRecDepth 100000 in
theorem b_X8_plan_0 {d : Nat} {S : mSh} {M : mMem} {Q : Option mV → mSh → mMem → Prop} (L : Lay S) (kt : M 8 7 < 4 → WP PR d 91 26 [vA 1] [] S M Q) (kf : 4 ≤ M 8 7 → WP PR d 91 11 [vA 1] [] S M Q) : WP PR d 91 0 [vA 1] [] S M Q := by
  refine WP.if2 4 11 8 .lt 18 (0, 0, 0, 0) 26 rfl rfl ?_
  exact And.intro (⟨lo1 L, lf1_2 L⟩) (And.intro (lo8 L) (⟨kt, fun hc => kf (Int.not_lt.mp hc)⟩))
set_option maxRecDepth 100000 in
theorem b_X8_plan_11 {d : Nat} {S : mSh} {M : mMem} {Q : Option mV → mSh → mMem → Prop} (L : Lay S) (k : WP PR d 123 0 [vA 1, vI (-5)] [] S (up M 2 1 0) (fun r S2 M2 => WP PR (d + 1) 91 25 [vA 1] (r.toList ++ []) S2 M2 Q)) : WP PR (d + 1) 91 11 [vA 1] [] S M Q := by
  refine WP.ca 6 25 22 (.invokevirtual 90) (0, 123, 0, 0) rfl ?_
  exact And.intro (⟨lo1 L, lf1_0 L⟩) (And.intro (lo2 L) (⟨rfl, rfl, rfl, lo1 L, rfl, k⟩))
set_option maxRecDepth 100000 in
theorem b_X8_plan_25 {d : Nat} {S : mSh} {M : mMem} {Q : Option mV → mSh → mMem → Prop} {s0 : Int} (k : Q (some (vI s0)) S M) : WP PR d 91 25 [vA 1] [vI s0] S M Q := by
  refine WP.re 0 25 .ireturn (0, 0, 0, 0) _ rfl ?_
  exact ⟨rfl, rfl, trivial, k⟩
set_option maxRecDepth 100000 in
theorem b_X8_plan_26 {d : Nat} {S : mSh} {M : mMem} {Q : Option mV → mSh → mMem → Prop} (L : Lay S) (k : WP PR d 14 0 [vA 4, vI 0, vU] [] S M (fun r S2 M2 => WP PR (d + 1) 91 35 [vA 1] (r.toList ++ [vA 1]) S2 M2 Q)) : WP PR (d + 1) 91 26 [vA 1] [] S M Q := by
  refine WP.ca 4 35 32 (.invokevirtual 174) (0, 14, 0, 0) rfl ?_
  exact And.intro (⟨lo1 L, lf1_1 L⟩) (⟨rfl, rfl, rfl, lo4 L, rfl, k⟩)
set_option maxRecDepth 100000 in
theorem b_X8_plan_35 {d : Nat} {S : mSh} {M : mMem} {Q : Option mV → mSh → mMem → Prop} {s1 : Int} (L : Lay S) (kt : s1 = (-1) → WP PR d 91 61 [vA 1] [] S (up (up M 1 13 s1) 2 1 0) Q) (kf : ¬ s1 = (-1) → WP PR d 91 54 [vA 1] [] S (up (up M 1 13 s1) 2 1 0) Q) : WP PR d 91 35 [vA 1] [vI s1, vA 1] S M Q := by
  refine WP.if2 8 54 51 .eq 10 (0, 0, 0, 0) 61 rfl rfl ?_
  exact And.intro (lo1 L) (And.intro (⟨lo1 L, lf1_0 L⟩) (And.intro (lo2 L) (And.intro (lo1 L) (⟨kt, fun hc => kf hc⟩))))
set_option maxRecDepth 100000 in
theorem b_X8_plan_54 {d : Nat} {S : mSh} {M : mMem} {Q : Option mV → mSh → mMem → Prop} (L : Lay S) (k : WP PR d 123 0 [vA 1, vI (-6)] [] S M (fun r S2 M2 => WP PR (d + 1) 91 60 [vA 1] (r.toList ++ []) S2 M2 Q)) : WP PR (d + 1) 91 54 [vA 1] [] S M Q := by
  refine WP.ca 2 60 57 (.invokevirtual 90) (0, 123, 0, 0) rfl ?_
  exact ⟨rfl, rfl, rfl, lo1 L, rfl, k⟩
set_option maxRecDepth 100000 in
theorem b_X8_plan_60 {d : Nat} {S : mSh} {M : mMem} {Q : Option mV → mSh → mMem → Prop} {s0 : Int} (k : Q (some (vI s0)) S M) : WP PR d 91 60 [vA 1] [vI s0] S M Q := by
  refine WP.re 0 60 .ireturn (0, 0, 0, 0) _ rfl ?_
  exact ⟨rfl, rfl, trivial, k⟩
set_option maxRecDepth 100000 in
theorem b_X8_plan_61 {d : Nat} {S : mSh} {M : mMem} {Q : Option mV → mSh → mMem → Prop} (L : Lay S) (k : WP PR d 59 0 [vA 5, vU] [] S M (fun r S2 M2 => WP PR (d + 1) 91 85 [vA 1] (r.toList ++ [vI (M 8 7), vA 20]) S2 M2 Q)) : WP PR (d + 1) 91 61 [vA 1] [] S M Q := by
  refine WP.ca 9 85 82 (.invokevirtual 186) (0, 59, 0, 0) rfl ?_
  exact And.intro (⟨lo1 L, lf1_2 L⟩) (And.intro (⟨lo8 L, lf8_3 L⟩) (And.intro (⟨lo1 L, lf1_2 L⟩) (And.intro (lo8 L) (And.intro (⟨lo1 L, lf1_1 L⟩) (And.intro (⟨lo4 L, lf4_1 L⟩) (⟨rfl, rfl, rfl, lo5 L, rfl, k⟩))))))
set_option maxRecDepth 100000 in
theorem b_X8_plan_85 {d : Nat} {S : mSh} {M : mMem} {Q : Option mV → mSh → mMem → Prop} {s0 s1 s2 : Int} (L : Lay S) (ho1 : isO S s0 23) (hs2 : Txt S s2) (hc : (0 ≤ s1 ∧ s1 < sL S s0) ∧ R32 (((up M s0 s1 s2) 8 7) + 1) ∧ R32 ((((up M s0 s1 s2) 8 7) + 1) - 1)) (k : WP PR d 122 0 [vA 1, vI ((((up M s0 s1 s2) 8 7) + 1) - 1)] [] S (up (up M s0 s1 s2) 8 7 (((up M s0 s1 s2) 8 7) + 1)) (fun r S2 M2 => WP PR (d + 1) 91 112 [vA 1] (r.toList ++ []) S2 M2 Q)) : WP PR (d + 1) 91 85 [vA 1] [vA s2, vI s1, vA s0] S M Q := by
  refine WP.ca 14 112 109 (.invokevirtual 107) (0, 122, 0, 0) rfl ?_
  exact And.intro (⟨inA_of (ho1) (rfl) hc.1, (hs2).o⟩) (And.intro (⟨lo1 L, lf1_2 L⟩) (And.intro (lo8 L) (And.intro (hc.2.1) (And.intro (lo8 L) (And.intro (⟨lo1 L, lf1_2 L⟩) (And.intro (lo8 L) (And.intro (hc.2.2) (⟨rfl, rfl, rfl, lo1 L, rfl, k⟩))))))))
set_option maxRecDepth 100000 in
theorem b_X8_plan_112 {d : Nat} {S : mSh} {M : mMem} {Q : Option mV → mSh → mMem → Prop} {s0 : Int} (k : Q (some (vI s0)) S M) : WP PR d 91 112 [vA 1] [vI s0] S M Q := by
  refine WP.re 0 112 .ireturn (0, 0, 0, 0) _ rfl ?_
  exact ⟨rfl, rfl, trivial, k⟩
/-- SoleraCellar.orders()I -/
abbrev e_X8_orders (d : Nat) (S : mSh) (M : mMem) (Q : Option mV → mSh → mMem → Prop) : Prop := WP PR d 92 0 [vA 1] [] S M Q
set_option maxRecDepth 100000 in
theorem b_X8_orders_0 {d : Nat} {S : mSh} {M : mMem} {Q : Option mV → mSh → mMem → Prop} (L : Lay S) (k : WP PR d 14 0 [vA 4, vI 0, vU] [] S (up M 1 14 (-1)) (fun r S2 M2 => WP PR (d + 1) 92 14 [vA 1] (r.toList ++ [vA 1]) S2 M2 Q)) : WP PR (d + 1) 92 0 [vA 1] [] S M Q := by
  refine WP.ca 7 14 11 (.invokevirtual 174) (0, 14, 0, 0) rfl ?_
  exact And.intro (lo1 L) (And.intro (⟨lo1 L, lf1_1 L⟩) (⟨rfl, rfl, rfl, lo4 L, rfl, k⟩))
set_option maxRecDepth 100000 in
theorem b_X8_orders_14 {d : Nat} {S : mSh} {M : mMem} {Q : Option mV → mSh → mMem → Prop} {s1 : Int} (L : Lay S) (kt : s1 = (-1) → WP PR d 92 40 [vA 1] [] S (up (up M 1 13 s1) 2 1 0) Q) (kf : ¬ s1 = (-1) → WP PR d 92 33 [vA 1] [] S (up (up M 1 13 s1) 2 1 0) Q) : WP PR d 92 14 [vA 1] [vI s1, vA 1] S M Q := by
  refine WP.if2 8 33 30 .eq 10 (0, 0, 0, 0) 40 rfl rfl ?_
  exact And.intro (lo1 L) (And.intro (⟨lo1 L, lf1_0 L⟩) (And.intro (lo2 L) (And.intro (lo1 L) (⟨kt, fun hc => kf hc⟩))))
set_option maxRecDepth 100000 in
theorem b_X8_orders_33 {d : Nat} {S : mSh} {M : mMem} {Q : Option mV → mSh → mMem → Prop} (L : Lay S) (k : WP PR d 123 0 [vA 1, vI (-6)] [] S M (fun r S2 M2 => WP PR (d + 1) 92 39 [vA 1] (r.toList ++ []) S2 M2 Q)) : WP PR (d + 1) 92 33 [vA 1] [] S M Q := by
  refine WP.ca 2 39 36 (.invokevirtual 90) (0, 123, 0, 0) rfl ?_
  exact ⟨rfl, rfl, rfl, lo1 L, rfl, k⟩
set_option maxRecDepth 100000 in
theorem b_X8_orders_39 {d : Nat} {S : mSh} {M : mMem} {Q : Option mV → mSh → mMem → Prop} {s0 : Int} (k : Q (some (vI s0)) S M) : WP PR d 92 39 [vA 1] [vI s0] S M Q := by
  refine WP.re 0 39 .ireturn (0, 0, 0, 0) _ rfl ?_
  exact ⟨rfl, rfl, trivial, k⟩
set_option maxRecDepth 100000 in
theorem b_X8_orders_40 {d : Nat} {S : mSh} {M : mMem} {Q : Option mV → mSh → mMem → Prop} (L : Lay S) (k : WP PR d 125 0 [vA 1] [] S M (fun r S2 M2 => WP PR (d + 1) 92 44 [vA 1] (r.toList ++ []) S2 M2 Q)) : WP PR (d + 1) 92 40 [vA 1] [] S M Q := by
  refine WP.ca 1 44 41 (.invokevirtual 195) (0, 125, 0, 0) rfl ?_
  exact ⟨rfl, rfl, rfl, lo1 L, rfl, k⟩
set_option maxRecDepth 100000 in
theorem b_X8_orders_44 {d : Nat} {S : mSh} {M : mMem} {Q : Option mV → mSh → mMem → Prop} (L : Lay S) (k : WP PR d 77 0 [vA 191, vA 5, vA 0, vU, vU, vU] [] S M (fun r S2 M2 => WP PR (d + 1) 92 60 [vA 1] (r.toList ++ [vA 1]) S2 M2 Q)) : WP PR (d + 1) 92 44 [vA 1] [] S M Q := by
  refine WP.ca 7 60 57 (.invokevirtual 198) (0, 77, 0, 0) rfl ?_
  exact And.intro (⟨lo1 L, lf1_8 L⟩) (And.intro (⟨lo1 L, lf1_1 L⟩) (And.intro (⟨lo4 L, lf4_1 L⟩) (⟨rfl, rfl, rfl, lo191 L, rfl, k⟩)))
set_option maxRecDepth 100000 in
theorem b_X8_orders_60 {d : Nat} {S : mSh} {M : mMem} {Q : Option mV → mSh → mMem → Prop} {s1 : Int} (L : Lay S) (kt : s1 = (-1) → WP PR d 92 78 [vA 1] [] S (up M 1 14 s1) Q) (kf : ¬ s1 = (-1) → WP PR d 92 71 [vA 1] [] S (up M 1 14 s1) Q) : WP PR d 92 60 [vA 1] [vI s1, vA 1] S M Q := by
  refine WP.if2 4 71 68 .eq 10 (0, 0, 0, 0) 78 rfl rfl ?_
  exact And.intro (lo1 L) (And.intro (lo1 L) (⟨kt, fun hc => kf hc⟩))
set_option maxRecDepth 100000 in
theorem b_X8_orders_71 {d : Nat} {S : mSh} {M : mMem} {Q : Option mV → mSh → mMem → Prop} (L : Lay S) (k : WP PR d 123 0 [vA 1, vI (-3)] [] S M (fun r S2 M2 => WP PR (d + 1) 92 77 [vA 1] (r.toList ++ []) S2 M2 Q)) : WP PR (d + 1) 92 71 [vA 1] [] S M Q := by
  refine WP.ca 2 77 74 (.invokevirtual 90) (0, 123, 0, 0) rfl ?_
  exact ⟨rfl, rfl, rfl, lo1 L, rfl, k⟩
set_option maxRecDepth 100000 in
theorem b_X8_orders_77 {d : Nat} {S : mSh} {M : mMem} {Q : Option mV → mSh → mMem → Prop} {s0 : Int} (k : Q (some (vI s0)) S M) : WP PR d 92 77 [vA 1] [vI s0] S M Q := by
  refine WP.re 0 77 .ireturn (0, 0, 0, 0) _ rfl ?_
  exact ⟨rfl, rfl, trivial, k⟩
set_option maxRecDepth 100000 in
theorem b_X8_orders_78 {d : Nat} {S : mSh} {M : mMem} {Q : Option mV → mSh → mMem → Prop} (L : Lay S) (k : WP PR d 39 0 [vA 8] [] S M (fun r S2 M2 => WP PR (d + 1) 92 96 [vA 1] (r.toList ++ [vA 9, vA 191]) S2 M2 Q)) : WP PR (d + 1) 92 78 [vA 1] [] S M Q := by
  refine WP.ca 7 96 93 (.invokevirtual 114) (0, 39, 0, 0) rfl ?_
  exact And.intro (⟨lo1 L, lf1_8 L⟩) (And.intro (⟨lo1 L, lf1_2 L⟩) (And.intro (⟨lo8 L, lf8_0 L⟩) (And.intro (⟨lo1 L, lf1_2 L⟩) (⟨rfl, rfl, rfl, lo8 L, rfl, k⟩))))
set_option maxRecDepth 100000 in
theorem b_X8_orders_96 {d : Nat} {S : mSh} {M : mMem} {Q : Option mV → mSh → mMem → Prop} {s1 s2 : Int} (L : Lay S) (k : WP PR d 70 0 [vA 191, vA s1, vA s2] [] S M (fun r S2 M2 => WP PR (d + 1) 92 99 [vA 1] (r.toList ++ []) S2 M2 Q)) : WP PR (d + 1) 92 96 [vA 1] [vA s2, vA s1, vA 191] S M Q := by
  refine WP.ca 0 99 96 (.invokevirtual 118) (0, 70, 0, 0) rfl ?_
  exact ⟨rfl, rfl, rfl, lo191 L, rfl, k⟩
set_option maxRecDepth 100000 in
theorem b_X8_orders_99 {d : Nat} {S : mSh} {M : mMem} {Q : Option mV → mSh → mMem → Prop} (L : Lay S) (k : WP PR d 77 0 [vA 191, vA 5, vA 55, vU, vU, vU] [] S M (fun r S2 M2 => WP PR (d + 1) 92 117 [vA 1] (r.toList ++ []) S2 M2 Q)) : WP PR (d + 1) 92 99 [vA 1] [] S M Q := by
  refine WP.ca 7 117 114 (.invokevirtual 198) (0, 77, 0, 0) rfl ?_
  exact And.intro (⟨lo1 L, lf1_8 L⟩) (And.intro (⟨lo1 L, lf1_1 L⟩) (And.intro (⟨lo4 L, lf4_1 L⟩) (And.intro (⟨lo1 L, lf1_5 L⟩) (⟨rfl, rfl, rfl, lo191 L, rfl, k⟩))))
set_option maxRecDepth 100000 in
theorem b_X8_orders_117 {d : Nat} {S : mSh} {M : mMem} {Q : Option mV → mSh → mMem → Prop} {s0 : Int} (L : Lay S) (k : WP PR d 122 0 [vA 1, vI (M 196 4)] [] S M (fun r S2 M2 => WP PR (d + 1) 92 132 [vA 1] (r.toList ++ []) S2 M2 Q)) : WP PR (d + 1) 92 117 [vA 1] [vI s0] S M Q := by
  refine WP.ca 6 132 129 (.invokevirtual 107) (0, 122, 0, 0) rfl ?_
  exact And.intro (⟨lo1 L, lf1_8 L⟩) (And.intro (⟨lo191 L, lf191_0 L⟩) (And.intro (lo196 L) (⟨rfl, rfl, rfl, lo1 L, rfl, k⟩)))
set_option maxRecDepth 100000 in
theorem b_X8_orders_132 {d : Nat} {S : mSh} {M : mMem} {Q : Option mV → mSh → mMem → Prop} {s0 : Int} (k : Q (some (vI s0)) S M) : WP PR d 92 132 [vA 1] [vI s0] S M Q := by
  refine WP.re 0 132 .ireturn (0, 0, 0, 0) _ rfl ?_
  exact ⟨rfl, rfl, trivial, k⟩
/-- SoleraCellar.fault()I -/
abbrev e_X8_fault (d : Nat) (S : mSh) (M : mMem) (Q : Option mV → mSh → mMem → Prop) : Prop := WP PR d 93 0 [vA 1] [] S M Q
set_option maxRecDepth 100000 in
theorem b_X8_fault_0 {d : Nat} {S : mSh} {M : mMem} {Q : Option mV → mSh → mMem → Prop} (L : Lay S) (k : Q (some (vI (M 1 13))) S M) : WP PR d 93 0 [vA 1] [] S M Q := by
  refine WP.re 2 4 .ireturn (0, 0, 0, 0) _ rfl ?_
  exact And.intro (lo1 L) (⟨rfl, rfl, trivial, k⟩)
/-- SoleraCellar.stopped()I -/
abbrev e_X8_stopped (d : Nat) (S : mSh) (M : mMem) (Q : Option mV → mSh → mMem → Prop) : Prop := WP PR d 94 0 [vA 1] [] S M Q
set_option maxRecDepth 100000 in
theorem b_X8_stopped_0 {d : Nat} {S : mSh} {M : mMem} {Q : Option mV → mSh → mMem → Prop} (L : Lay S) (k : Q (some (vI (M 1 14))) S M) : WP PR d 94 0 [vA 1] [] S M Q := by
  refine WP.re 2 4 .ireturn (0, 0, 0, 0) _ rfl ?_
  exact And.intro (lo1 L) (⟨rfl, rfl, trivial, k⟩)
/-- SoleraCellar.force(I)I -/
abbrev e_X8_force (d : Nat) (a1 : Int) (S : mSh) (M : mMem) (Q : Option mV → mSh → mMem → Prop) : Prop := WP PR d 95 0 [vA 1, vI a1, vU] [] S M Q
set_option maxRecDepth 100000 in
theorem b_X8_force_0 {d : Nat} {S : mSh} {M : mMem} {Q : Option mV → mSh → mMem → Prop} {x1 : Int} (kt : x1 = (-1) → WP PR d 95 23 [vA 1, vI x1, vU] [] S M Q) (kf : ¬ x1 = (-1) → WP PR d 95 5 [vA 1, vI x1, vU] [] S M Q) : WP PR d 95 0 [vA 1, vI x1, vU] [] S M Q := by
  refine WP.if2 2 5 2 .eq 21 (0, 0, 0, 0) 23 rfl rfl ?_
  exact ⟨kt, fun hc => kf hc⟩
set_option maxRecDepth 100000 in
theorem b_X8_force_5 {d : Nat} {S : mSh} {M : mMem} {Q : Option mV → mSh → mMem → Prop} {x1 : Int} {u2 : mV} (L : Lay S) (k : WP PR d 36 0 [vA 8, vI x1] [] S M (fun r S2 M2 => WP PR (d + 1) 95 13 [vA 1, vI x1, u2] (r.toList ++ []) S2 M2 Q)) : WP PR (d + 1) 95 5 [vA 1, vI x1, u2] [] S M Q := by
  refine WP.ca 3 13 10 (.invokevirtual 211) (0, 36, 0, 0) rfl ?_
  exact And.intro (⟨lo1 L, lf1_2 L⟩) (⟨rfl, rfl, rfl, lo8 L, rfl, k⟩)
set_option maxRecDepth 100000 in
theorem b_X8_force_13 {d : Nat} {S : mSh} {M : mMem} {Q : Option mV → mSh → mMem → Prop} {x1 s0 : Int} {u2 : mV} (kt : ¬ s0 = 0 → WP PR d 95 23 [vA 1, vI x1, u2] [] S M Q) (kf : s0 = 0 → WP PR d 95 16 [vA 1, vI x1, u2] [] S M Q) : WP PR d 95 13 [vA 1, vI x1, u2] [vI s0] S M Q := by
  refine WP.if0 0 16 13 .ne 10 (0, 0, 0, 0) 23 rfl rfl ?_
  exact ⟨kt, fun hc => kf (Decidable.not_not.mp hc)⟩
set_option maxRecDepth 100000 in
theorem b_X8_force_16 {d : Nat} {S : mSh} {M : mMem} {Q : Option mV → mSh → mMem → Prop} {x1 : Int} {u2 : mV} (L : Lay S) (k : WP PR d 123 0 [vA 1, vI (-2)] [] S M (fun r S2 M2 => WP PR (d + 1) 95 22 [vA 1, vI x1, u2] (r.toList ++ []) S2 M2 Q)) : WP PR (d + 1) 95 16 [vA 1, vI x1, u2] [] S M Q := by
  refine WP.ca 2 22 19 (.invokevirtual 90) (0, 123, 0, 0) rfl ?_
  exact ⟨rfl, rfl, rfl, lo1 L, rfl, k⟩
set_option maxRecDepth 100000 in
theorem b_X8_force_22 {d : Nat} {S : mSh} {M : mMem} {Q : Option mV → mSh → mMem → Prop} {x1 s0 : Int} {u2 : mV} (k : Q (some (vI s0)) S M) : WP PR d 95 22 [vA 1, vI x1, u2] [vI s0] S M Q := by
  refine WP.re 0 22 .ireturn (0, 0, 0, 0) _ rfl ?_
  exact ⟨rfl, rfl, trivial, k⟩
set_option maxRecDepth 100000 in
theorem b_X8_force_23 {d : Nat} {S : mSh} {M : mMem} {Q : Option mV → mSh → mMem → Prop} {x1 : Int} {u2 : mV} (L : Lay S) (k : WP PR d 122 0 [vA 1, vI (M 8 9)] [] S (up M 8 9 x1) (fun r S2 M2 => WP PR (d + 1) 95 44 [vA 1, vI x1, vI (M 8 9)] (r.toList ++ []) S2 M2 Q)) : WP PR (d + 1) 95 23 [vA 1, vI x1, u2] [] S M Q := by
  refine WP.ca 10 44 41 (.invokevirtual 107) (0, 122, 0, 0) rfl ?_
  exact And.intro (⟨lo1 L, lf1_2 L⟩) (And.intro (lo8 L) (And.intro (⟨lo1 L, lf1_2 L⟩) (And.intro (lo8 L) (⟨rfl, rfl, rfl, lo1 L, rfl, k⟩))))
set_option maxRecDepth 100000 in
theorem b_X8_force_44 {d : Nat} {S : mSh} {M : mMem} {Q : Option mV → mSh → mMem → Prop} {x1 x2 s0 : Int} (k : Q (some (vI s0)) S M) : WP PR d 95 44 [vA 1, vI x1, vI x2] [vI s0] S M Q := by
  refine WP.re 0 44 .ireturn (0, 0, 0, 0) _ rfl ?_
  exact ⟨rfl, rfl, trivial, k⟩
/-- SoleraCellar.pour(II)I -/
abbrev e_X8_pour (d : Nat) (a1 a2 : Int) (S : mSh) (M : mMem) (Q : Option mV → mSh → mMem → Prop) : Prop := WP PR d 96 0 [vA 1, vI a1, vI a2] [] S M Q
set_option maxRecDepth 100000 in
theorem b_X8_pour_0 {d : Nat} {S : mSh} {M : mMem} {Q : Option mV → mSh → mMem → Prop} {x1 x2 : Int} (L : Lay S) (k : WP PR d 126 0 [vA 1] [] S M (fun r S2 M2 => WP PR (d + 1) 96 4 [vA 1, vI x1, vI x2] (r.toList ++ []) S2 M2 Q)) : WP PR (d + 1) 96 0 [vA 1, vI x1, vI x2] [] S M Q := by
  refine WP.ca 1 4 1 (.invokevirtual 217) (0, 126, 0, 0) rfl ?_
  exact ⟨rfl, rfl, rfl, lo1 L, rfl, k⟩
set_option maxRecDepth 100000 in
theorem b_X8_pour_4 {d : Nat} {S : mSh} {M : mMem} {Q : Option mV → mSh → mMem → Prop} {x1 x2 : Int} (L : Lay S) (k : WP PR d 72 0 [vA 191, vI x1, vI x2] [] S M (fun r S2 M2 => WP PR (d + 1) 96 15 [vA 1, vI x1, vI x2] (r.toList ++ [vI 0, vA 1]) S2 M2 Q)) : WP PR (d + 1) 96 4 [vA 1, vI x1, vI x2] [] S M Q := by
  refine WP.ca 6 15 12 (.invokevirtual 220) (0, 72, 0, 0) rfl ?_
  exact And.intro (⟨lo1 L, lf1_8 L⟩) (⟨rfl, rfl, rfl, lo191 L, rfl, k⟩)
set_option maxRecDepth 100000 in
theorem b_X8_pour_15 {d : Nat} {S : mSh} {M : mMem} {Q : Option mV → mSh → mMem → Prop} {x1 x2 s1 s2 : Int} (L : Lay S) (k : WP PR d 127 0 [vA 1, vI s1, vI s2] [] S M (fun r S2 M2 => WP PR (d + 1) 96 18 [vA 1, vI x1, vI x2] (r.toList ++ []) S2 M2 Q)) : WP PR (d + 1) 96 15 [vA 1, vI x1, vI x2] [vI s2, vI s1, vA 1] S M Q := by
  refine WP.ca 0 18 15 (.invokevirtual 223) (0, 127, 0, 0) rfl ?_
  exact ⟨rfl, rfl, rfl, lo1 L, rfl, k⟩
set_option maxRecDepth 100000 in
theorem b_X8_pour_18 {d : Nat} {S : mSh} {M : mMem} {Q : Option mV → mSh → mMem → Prop} {x1 x2 s0 : Int} (k : Q (some (vI s0)) S M) : WP PR d 96 18 [vA 1, vI x1, vI x2] [vI s0] S M Q := by
  refine WP.re 0 18 .ireturn (0, 0, 0, 0) _ rfl ?_
  exact ⟨rfl, rfl, trivial, k⟩
/-- SoleraCellar.rack(III)I -/
abbrev e_X8_rack (d : Nat) (a1 a2 a3 : Int) (S : mSh) (M : mMem) (Q : Option mV → mSh → mMem → Prop) : Prop := WP PR d 97 0 [vA 1, vI a1, vI a2, vI a3] [] S M Q
set_option maxRecDepth 100000 in
theorem b_X8_rack_0 {d : Nat} {S : mSh} {M : mMem} {Q : Option mV → mSh → mMem → Prop} {x1 x2 x3 : Int} (L : Lay S) (k : WP PR d 126 0 [vA 1] [] S M (fun r S2 M2 => WP PR (d + 1) 97 4 [vA 1, vI x1, vI x2, vI x3] (r.toList ++ []) S2 M2 Q)) : WP PR (d + 1) 97 0 [vA 1, vI x1, vI x2, vI x3] [] S M Q := by
  refine WP.ca 1 4 1 (.invokevirtual 217) (0, 126, 0, 0) rfl ?_
  exact ⟨rfl, rfl, rfl, lo1 L, rfl, k⟩
set_option maxRecDepth 100000 in
theorem b_X8_rack_4 {d : Nat} {S : mSh} {M : mMem} {Q : Option mV → mSh → mMem → Prop} {x1 x2 x3 : Int} (L : Lay S) (k : WP PR d 73 0 [vA 191, vI x1, vI x2, vI x3, vU] [] S M (fun r S2 M2 => WP PR (d + 1) 97 16 [vA 1, vI x1, vI x2, vI x3] (r.toList ++ [vI 1, vA 1]) S2 M2 Q)) : WP PR (d + 1) 97 4 [vA 1, vI x1, vI x2, vI x3] [] S M Q := by
  refine WP.ca 7 16 13 (.invokevirtual 226) (0, 73, 0, 0) rfl ?_
  exact And.intro (⟨lo1 L, lf1_8 L⟩) (⟨rfl, rfl, rfl, lo191 L, rfl, k⟩)
set_option maxRecDepth 100000 in
theorem b_X8_rack_16 {d : Nat} {S : mSh} {M : mMem} {Q : Option mV → mSh → mMem → Prop} {x1 x2 x3 s1 s2 : Int} (L : Lay S) (k : WP PR d 127 0 [vA 1, vI s1, vI s2] [] S M (fun r S2 M2 => WP PR (d + 1) 97 19 [vA 1, vI x1, vI x2, vI x3] (r.toList ++ []) S2 M2 Q)) : WP PR (d + 1) 97 16 [vA 1, vI x1, vI x2, vI x3] [vI s2, vI s1, vA 1] S M Q := by
  refine WP.ca 0 19 16 (.invokevirtual 223) (0, 127, 0, 0) rfl ?_
  exact ⟨rfl, rfl, rfl, lo1 L, rfl, k⟩
set_option maxRecDepth 100000 in
theorem b_X8_rack_19 {d : Nat} {S : mSh} {M : mMem} {Q : Option mV → mSh → mMem → Prop} {x1 x2 x3 s0 : Int} (k : Q (some (vI s0)) S M) : WP PR d 97 19 [vA 1, vI x1, vI x2, vI x3] [vI s0] S M Q := by
  refine WP.re 0 19 .ireturn (0, 0, 0, 0) _ rfl ?_
  exact ⟨rfl, rfl, trivial, k⟩
/-- SoleraCellar.bottle(II)I -/
abbrev e_X8_bottle (d : Nat) (a1 a2 : Int) (S : mSh) (M : mMem) (Q : Option mV → mSh → mMem → Prop) : Prop := WP PR d 98 0 [vA 1, vI a1, vI a2] [] S M Q
set_option maxRecDepth 100000 in
theorem b_X8_bottle_0 {d : Nat} {S : mSh} {M : mMem} {Q : Option mV → mSh → mMem → Prop} {x1 x2 : Int} (L : Lay S) (k : WP PR d 126 0 [vA 1] [] S M (fun r S2 M2 => WP PR (d + 1) 98 4 [vA 1, vI x1, vI x2] (r.toList ++ []) S2 M2 Q)) : WP PR (d + 1) 98 0 [vA 1, vI x1, vI x2] [] S M Q := by
  refine WP.ca 1 4 1 (.invokevirtual 217) (0, 126, 0, 0) rfl ?_
  exact ⟨rfl, rfl, rfl, lo1 L, rfl, k⟩
set_option maxRecDepth 100000 in
theorem b_X8_bottle_4 {d : Nat} {S : mSh} {M : mMem} {Q : Option mV → mSh → mMem → Prop} {x1 x2 : Int} (L : Lay S) (k : WP PR d 74 0 [vA 191, vI x1, vI x2, vU, vU, vU] [] S M (fun r S2 M2 => WP PR (d + 1) 98 15 [vA 1, vI x1, vI x2] (r.toList ++ [vI 2, vA 1]) S2 M2 Q)) : WP PR (d + 1) 98 4 [vA 1, vI x1, vI x2] [] S M Q := by
  refine WP.ca 6 15 12 (.invokevirtual 230) (0, 74, 0, 0) rfl ?_
  exact And.intro (⟨lo1 L, lf1_8 L⟩) (⟨rfl, rfl, rfl, lo191 L, rfl, k⟩)
set_option maxRecDepth 100000 in
theorem b_X8_bottle_15 {d : Nat} {S : mSh} {M : mMem} {Q : Option mV → mSh → mMem → Prop} {x1 x2 s1 s2 : Int} (L : Lay S) (k : WP PR d 127 0 [vA 1, vI s1, vI s2] [] S M (fun r S2 M2 => WP PR (d + 1) 98 18 [vA 1, vI x1, vI x2] (r.toList ++ []) S2 M2 Q)) : WP PR (d + 1) 98 15 [vA 1, vI x1, vI x2] [vI s2, vI s1, vA 1] S M Q := by
  refine WP.ca 0 18 15 (.invokevirtual 223) (0, 127, 0, 0) rfl ?_
  exact ⟨rfl, rfl, rfl, lo1 L, rfl, k⟩
set_option maxRecDepth 100000 in
theorem b_X8_bottle_18 {d : Nat} {S : mSh} {M : mMem} {Q : Option mV → mSh → mMem → Prop} {x1 x2 s0 : Int} (k : Q (some (vI s0)) S M) : WP PR d 98 18 [vA 1, vI x1, vI x2] [vI s0] S M Q := by
  refine WP.re 0 18 .ireturn (0, 0, 0, 0) _ rfl ?_
  exact ⟨rfl, rfl, trivial, k⟩
/-- SoleraCellar.pass()I -/
abbrev e_X8_pass (d : Nat) (S : mSh) (M : mMem) (Q : Option mV → mSh → mMem → Prop) : Prop := WP PR d 99 0 [vA 1] [] S M Q
set_option maxRecDepth 100000 in
theorem b_X8_pass_0 {d : Nat} {S : mSh} {M : mMem} {Q : Option mV → mSh → mMem → Prop} (L : Lay S) (k : WP PR d 126 0 [vA 1] [] S M (fun r S2 M2 => WP PR (d + 1) 99 4 [vA 1] (r.toList ++ []) S2 M2 Q)) : WP PR (d + 1) 99 0 [vA 1] [] S M Q := by
  refine WP.ca 1 4 1 (.invokevirtual 217) (0, 126, 0, 0) rfl ?_
  exact ⟨rfl, rfl, rfl, lo1 L, rfl, k⟩
set_option maxRecDepth 100000 in
theorem b_X8_pass_4 {d : Nat} {S : mSh} {M : mMem} {Q : Option mV → mSh → mMem → Prop} (L : Lay S) (k : WP PR d 43 0 [vA 9] [] S M (fun r S2 M2 => WP PR (d + 1) 99 16 [vA 1] (r.toList ++ [vI 3, vA 1]) S2 M2 Q)) : WP PR (d + 1) 99 4 [vA 1] [] S M Q := by
  refine WP.ca 5 16 13 (.invokevirtual 233) (0, 43, 0, 0) rfl ?_
  exact And.intro (⟨lo1 L, lf1_2 L⟩) (And.intro (⟨lo8 L, lf8_0 L⟩) (⟨rfl, rfl, rfl, lo9 L, rfl, k⟩))
set_option maxRecDepth 100000 in
theorem b_X8_pass_16 {d : Nat} {S : mSh} {M : mMem} {Q : Option mV → mSh → mMem → Prop} {s1 s2 : Int} (kt : s2 = 0 → WP PR d 99 24 [vA 1] [vI s1, vA 1] S M Q) (kf : ¬ s2 = 0 → WP PR d 99 19 [vA 1] [vI s1, vA 1] S M Q) : WP PR d 99 16 [vA 1] [vI s2, vI s1, vA 1] S M Q := by
  refine WP.if0 0 19 16 .eq 8 (0, 0, 0, 0) 24 rfl rfl ?_
  exact ⟨kt, fun hc => kf hc⟩
set_option maxRecDepth 100000 in
theorem b_X8_pass_19 {d : Nat} {S : mSh} {M : mMem} {Q : Option mV → mSh → mMem → Prop} {s1 : Int} (L : Lay S) (k : WP PR d 127 0 [vA 1, vI s1, vI (-3)] [] S M (fun r S2 M2 => WP PR (d + 1) 99 34 [vA 1] (r.toList ++ []) S2 M2 Q)) : WP PR (d + 1) 99 19 [vA 1] [vI s1, vA 1] S M Q := by
  refine WP.gt 1 21 10 (0, 0, 0, 0) _ 31 rfl rfl ?_
  show WP PR (d + 1) 99 31 [vA 1] [vI (-3), vI s1, vA 1] S M Q
  refine WP.ca 0 34 31 (.invokevirtual 223) (0, 127, 0, 0) rfl ?_
  exact ⟨rfl, rfl, rfl, lo1 L, rfl, k⟩
set_option maxRecDepth 100000 in
theorem b_X8_pass_24 {d : Nat} {S : mSh} {M : mMem} {Q : Option mV → mSh → mMem → Prop} {s1 : Int} (L : Lay S) (k : WP PR d 75 0 [vA 191, vU, vU] [] S M (fun r S2 M2 => WP PR (d + 1) 99 31 [vA 1] (r.toList ++ [vI s1, vA 1]) S2 M2 Q)) : WP PR (d + 1) 99 24 [vA 1] [vI s1, vA 1] S M Q := by
  refine WP.ca 2 31 28 (.invokevirtual 237) (0, 75, 0, 0) rfl ?_
  exact And.intro (⟨lo1 L, lf1_8 L⟩) (⟨rfl, rfl, rfl, lo191 L, rfl, k⟩)
set_option maxRecDepth 100000 in
theorem b_X8_pass_31 {d : Nat} {S : mSh} {M : mMem} {Q : Option mV → mSh → mMem → Prop} {s1 s2 : Int} (L : Lay S) (k : WP PR d 127 0 [vA 1, vI s1, vI s2] [] S M (fun r S2 M2 => WP PR (d + 1) 99 34 [vA 1] (r.toList ++ []) S2 M2 Q)) : WP PR (d + 1) 99 31 [vA 1] [vI s2, vI s1, vA 1] S M Q := by
  refine WP.ca 0 34 31 (.invokevirtual 223) (0, 127, 0, 0) rfl ?_
  exact ⟨rfl, rfl, rfl, lo1 L, rfl, k⟩
set_option maxRecDepth 100000 in
theorem b_X8_pass_34 {d : Nat} {S : mSh} {M : mMem} {Q : Option mV → mSh → mMem → Prop} {s0 : Int} (k : Q (some (vI s0)) S M) : WP PR d 99 34 [vA 1] [vI s0] S M Q := by
  refine WP.re 0 34 .ireturn (0, 0, 0, 0) _ rfl ?_
  exact ⟨rfl, rfl, trivial, k⟩
/-- SoleraCellar.undo()I -/
abbrev e_X8_undo (d : Nat) (S : mSh) (M : mMem) (Q : Option mV → mSh → mMem → Prop) : Prop := WP PR d 100 0 [vA 1, vU] [] S M Q
set_option maxRecDepth 100000 in
theorem b_X8_undo_0 {d : Nat} {S : mSh} {M : mMem} {Q : Option mV → mSh → mMem → Prop} (L : Lay S) (k : WP PR d 12 0 [vA 55, vA 9] [] S M (fun r S2 M2 => WP PR (d + 1) 100 14 [vA 1, vU] (r.toList ++ []) S2 M2 Q)) : WP PR (d + 1) 100 0 [vA 1, vU] [] S M Q := by
  refine WP.ca 5 14 11 (.invokevirtual 241) (0, 12, 0, 0) rfl ?_
  exact And.intro (⟨lo1 L, lf1_5 L⟩) (And.intro (⟨lo1 L, lf1_2 L⟩) (And.intro (⟨lo8 L, lf8_0 L⟩) (⟨rfl, rfl, rfl, lo55 L, rfl, k⟩)))
set_option maxRecDepth 100000 in
theorem b_X8_undo_14 {d : Nat} {S : mSh} {M : mMem} {Q : Option mV → mSh → mMem → Prop} {s0 : Int} {u1 : mV} (kt : ¬ s0 = (-1) → WP PR d 100 29 [vA 1, vI s0] [] S M Q) (kf : s0 = (-1) → WP PR d 100 20 [vA 1, vI s0] [] S M Q) : WP PR d 100 14 [vA 1, u1] [vI s0] S M Q := by
  refine WP.if2 3 20 17 .ne 12 (0, 0, 0, 0) 29 rfl rfl ?_
  exact ⟨kt, fun hc => kf (Decidable.not_not.mp hc)⟩
set_option maxRecDepth 100000 in
theorem b_X8_undo_20 {d : Nat} {S : mSh} {M : mMem} {Q : Option mV → mSh → mMem → Prop} {x1 : Int} (L : Lay S) (k : WP PR d 123 0 [vA 1, vI (-3)] [] S M (fun r S2 M2 => WP PR (d + 1) 100 26 [vA 1, vI x1] (r.toList ++ []) S2 M2 Q)) : WP PR (d + 1) 100 20 [vA 1, vI x1] [] S M Q := by
  refine WP.ca 2 26 23 (.invokevirtual 90) (0, 123, 0, 0) rfl ?_
  exact ⟨rfl, rfl, rfl, lo1 L, rfl, k⟩
set_option maxRecDepth 100000 in
theorem b_X8_undo_26 {d : Nat} {S : mSh} {M : mMem} {Q : Option mV → mSh → mMem → Prop} {x1 s0 : Int} (k : Q (some (vI s0)) S M) : WP PR d 100 26 [vA 1, vI x1] [vI s0] S M Q := by
  refine WP.gt 0 26 8 (0, 0, 0, 0) _ 34 rfl rfl ?_
  show WP PR d 100 34 [vA 1, vI x1] [vI s0] S M Q
  refine WP.re 0 34 .ireturn (0, 0, 0, 0) _ rfl ?_
  exact ⟨rfl, rfl, trivial, k⟩
set_option maxRecDepth 100000 in
theorem b_X8_undo_29 {d : Nat} {S : mSh} {M : mMem} {Q : Option mV → mSh → mMem → Prop} {x1 : Int} (L : Lay S) (k : WP PR d 122 0 [vA 1, vI x1] [] S M (fun r S2 M2 => WP PR (d + 1) 100 34 [vA 1, vI x1] (r.toList ++ []) S2 M2 Q)) : WP PR (d + 1) 100 29 [vA 1, vI x1] [] S M Q := by
  refine WP.ca 2 34 31 (.invokevirtual 107) (0, 122, 0, 0) rfl ?_
  exact ⟨rfl, rfl, rfl, lo1 L, rfl, k⟩
set_option maxRecDepth 100000 in
theorem b_X8_undo_34 {d : Nat} {S : mSh} {M : mMem} {Q : Option mV → mSh → mMem → Prop} {x1 s0 : Int} (k : Q (some (vI s0)) S M) : WP PR d 100 34 [vA 1, vI x1] [vI s0] S M Q := by
  refine WP.re 0 34 .ireturn (0, 0, 0, 0) _ rfl ?_
  exact ⟨rfl, rfl, trivial, k⟩
/-- SoleraCellar.byPlan(IIII)I -/
abbrev e_X8_byPlan (d : Nat) (a1 a2 a3 a4 : Int) (S : mSh) (M : mMem) (Q : Option mV → mSh → mMem → Prop) : Prop := WP PR d 101 0 [vA 1, vI a1, vI a2, vI a3, vI a4] [] S M Q
set_option maxRecDepth 100000 in
theorem b_X8_byPlan_0 {d : Nat} {S : mSh} {M : mMem} {Q : Option mV → mSh → mMem → Prop} {x1 x2 x3 x4 : Int} (L : Lay S) (k : WP PR d 37 0 [vA 8, vI x1] [] S M (fun r S2 M2 => WP PR (d + 1) 101 8 [vA 1, vI x1, vI x2, vI x3, vI x4] (r.toList ++ []) S2 M2 Q)) : WP PR (d + 1) 101 0 [vA 1, vI x1, vI x2, vI x3, vI x4] [] S M Q := by
  refine WP.ca 3 8 5 (.invokevirtual 245) (0, 37, 0, 0) rfl ?_
  exact And.intro (⟨lo1 L, lf1_2 L⟩) (⟨rfl, rfl, rfl, lo8 L, rfl, k⟩)
set_option maxRecDepth 100000 in
theorem b_X8_byPlan_8 {d : Nat} {S : mSh} {M : mMem} {Q : Option mV → mSh → mMem → Prop} {x1 x2 x3 x4 s0 : Int} (kt : s0 = 0 → WP PR d 101 25 [vA 1, vI x1, vI x2, vI x3, vI x4] [] S M Q) (kf : ¬ s0 = 0 → WP PR d 101 11 [vA 1, vI x1, vI x2, vI x3, vI x4] [] S M Q) : WP PR d 101 8 [vA 1, vI x1, vI x2, vI x3, vI x4] [vI s0] S M Q := by
  refine WP.if0 0 11 8 .eq 17 (0, 0, 0, 0) 25 rfl rfl ?_
  exact ⟨kt, fun hc => kf hc⟩
set_option maxRecDepth 100000 in
theorem b_X8_byPlan_11 {d : Nat} {S : mSh} {M : mMem} {Q : Option mV → mSh → mMem → Prop} {x1 x2 x3 x4 : Int} (L : Lay S) (k : WP PR d 42 0 [vA 9, vI x3] [] S M (fun r S2 M2 => WP PR (d + 1) 101 22 [vA 1, vI x1, vI x2, vI x3, vI x4] (r.toList ++ []) S2 M2 Q)) : WP PR (d + 1) 101 11 [vA 1, vI x1, vI x2, vI x3, vI x4] [] S M Q := by
  refine WP.ca 4 22 19 (.invokevirtual 110) (0, 42, 0, 0) rfl ?_
  exact And.intro (⟨lo1 L, lf1_2 L⟩) (And.intro (⟨lo8 L, lf8_0 L⟩) (⟨rfl, rfl, rfl, lo9 L, rfl, k⟩))
set_option maxRecDepth 100000 in
theorem b_X8_byPlan_22 {d : Nat} {S : mSh} {M : mMem} {Q : Option mV → mSh → mMem → Prop} {x1 x2 x3 x4 s0 : Int} (kt : ¬ s0 = 0 → WP PR d 101 27 [vA 1, vI x1, vI x2, vI x3, vI x4] [] S M Q) (kf : s0 = 0 → WP PR d 101 25 [vA 1, vI x1, vI x2, vI x3, vI x4] [] S M Q) : WP PR d 101 22 [vA 1, vI x1, vI x2, vI x3, vI x4] [vI s0] S M Q := by
  refine WP.if0 0 25 22 .ne 5 (0, 0, 0, 0) 27 rfl rfl ?_
  exact ⟨kt, fun hc => kf (Decidable.not_not.mp hc)⟩
set_option maxRecDepth 100000 in
theorem b_X8_byPlan_25 {d : Nat} {S : mSh} {M : mMem} {Q : Option mV → mSh → mMem → Prop} {x1 x2 x3 x4 : Int} (k : Q (some (vI (-1))) S M) : WP PR d 101 25 [vA 1, vI x1, vI x2, vI x3, vI x4] [] S M Q := by
  refine WP.re 1 26 .ireturn (0, 0, 0, 0) _ rfl ?_
  exact ⟨rfl, rfl, trivial, k⟩
set_option maxRecDepth 100000 in
theorem b_X8_byPlan_27 {d : Nat} {S : mSh} {M : mMem} {Q : Option mV → mSh → mMem → Prop} {x1 x2 x3 x4 : Int} (k : WP PR d 119 0 [vI x2, vI 0, vI 60] [] S M (fun r S2 M2 => WP PR (d + 1) 101 34 [vA 1, vI x1, vI x2, vI x3, vI x4] (r.toList ++ []) S2 M2 Q)) : WP PR (d + 1) 101 27 [vA 1, vI x1, vI x2, vI x3, vI x4] [] S M Q := by
  refine WP.ca 3 34 31 (.invokestatic 86) (0, 119, 0, 0) rfl ?_
  exact ⟨rfl, rfl, rfl, trivial, rfl, k⟩
set_option maxRecDepth 100000 in
theorem b_X8_byPlan_34 {d : Nat} {S : mSh} {M : mMem} {Q : Option mV → mSh → mMem → Prop} {x1 x2 x3 x4 s0 : Int} (kt : s0 = 0 → WP PR d 101 47 [vA 1, vI x1, vI x2, vI x3, vI x4] [] S M Q) (kf : ¬ s0 = 0 → WP PR d 101 37 [vA 1, vI x1, vI x2, vI x3, vI x4] [] S M Q) : WP PR d 101 34 [vA 1, vI x1, vI x2, vI x3, vI x4] [vI s0] S M Q := by
  refine WP.if0 0 37 34 .eq 13 (0, 0, 0, 0) 47 rfl rfl ?_
  exact ⟨kt, fun hc => kf hc⟩
set_option maxRecDepth 100000 in
theorem b_X8_byPlan_37 {d : Nat} {S : mSh} {M : mMem} {Q : Option mV → mSh → mMem → Prop} {x1 x2 x3 x4 : Int} (k : WP PR d 119 0 [vI x4, vI 0, vI 2] [] S M (fun r S2 M2 => WP PR (d + 1) 101 44 [vA 1, vI x1, vI x2, vI x3, vI x4] (r.toList ++ []) S2 M2 Q)) : WP PR (d + 1) 101 37 [vA 1, vI x1, vI x2, vI x3, vI x4] [] S M Q := by
  refine WP.ca 3 44 41 (.invokestatic 86) (0, 119, 0, 0) rfl ?_
  exact ⟨rfl, rfl, rfl, trivial, rfl, k⟩
set_option maxRecDepth 100000 in
theorem b_X8_byPlan_44 {d : Nat} {S : mSh} {M : mMem} {Q : Option mV → mSh → mMem → Prop} {x1 x2 x3 x4 s0 : Int} (kt : ¬ s0 = 0 → WP PR d 101 49 [vA 1, vI x1, vI x2, vI x3, vI x4] [] S M Q) (kf : s0 = 0 → WP PR d 101 47 [vA 1, vI x1, vI x2, vI x3, vI x4] [] S M Q) : WP PR d 101 44 [vA 1, vI x1, vI x2, vI x3, vI x4] [vI s0] S M Q := by
  refine WP.if0 0 47 44 .ne 5 (0, 0, 0, 0) 49 rfl rfl ?_
  exact ⟨kt, fun hc => kf (Decidable.not_not.mp hc)⟩
set_option maxRecDepth 100000 in
theorem b_X8_byPlan_47 {d : Nat} {S : mSh} {M : mMem} {Q : Option mV → mSh → mMem → Prop} {x1 x2 x3 x4 : Int} (k : Q (some (vI (-1))) S M) : WP PR d 101 47 [vA 1, vI x1, vI x2, vI x3, vI x4] [] S M Q := by
  refine WP.re 1 48 .ireturn (0, 0, 0, 0) _ rfl ?_
  exact ⟨rfl, rfl, trivial, k⟩
set_option maxRecDepth 100000 in
theorem b_X8_byPlan_49 {d : Nat} {S : mSh} {M : mMem} {Q : Option mV → mSh → mMem → Prop} {x1 x2 x3 x4 : Int} (L : Lay S) (k : WP PR d 125 0 [vA 1] [] S M (fun r S2 M2 => WP PR (d + 1) 101 53 [vA 1, vI x1, vI x2, vI x3, vI x4] (r.toList ++ []) S2 M2 Q)) : WP PR (d + 1) 101 49 [vA 1, vI x1, vI x2, vI x3, vI x4] [] S M Q := by
  refine WP.ca 1 53 50 (.invokevirtual 195) (0, 125, 0, 0) rfl ?_
  exact ⟨rfl, rfl, rfl, lo1 L, rfl, k⟩
set_option maxRecDepth 100000 in
theorem b_X8_byPlan_53 {d : Nat} {S : mSh} {M : mMem} {Q : Option mV → mSh → mMem → Prop} {x1 x2 x3 x4 : Int} {q1 : Int} (eq1 : M 20 x1 = q1) (L : Lay S) (hc : (0 ≤ x1 ∧ x1 < 4)) (k : WP PR d 78 0 [vA 191, vA q1, vI x2, vU, vU, vU, vU, vU] [] S M (fun r S2 M2 => WP PR (d + 1) 101 70 [vA 1, vI x1, vI x2, vI x3, vI x4] (r.toList ++ []) S2 M2 Q)) : WP PR (d + 1) 101 53 [vA 1, vI x1, vI x2, vI x3, vI x4] [] S M Q := by
  subst eq1
  refine WP.ca 8 70 67 (.invokevirtual 248) (0, 78, 0, 0) rfl ?_
  exact And.intro (⟨lo1 L, lf1_8 L⟩) (And.intro (⟨lo1 L, lf1_2 L⟩) (And.intro (⟨lo8 L, lf8_3 L⟩) (And.intro (inA_of (lo20 L) (ll20 L) hc) (⟨rfl, rfl, rfl, lo191 L, rfl, k⟩))))
set_option maxRecDepth 100000 in
theorem b_X8_byPlan_70 {d : Nat} {S : mSh} {M : mMem} {Q : Option mV → mSh → mMem → Prop} {x1 x2 x3 x4 : Int} (kt : ¬ x4 = 0 → WP PR d 101 85 [vA 1, vI x1, vI x2, vI x3, vI x4] [] S M Q) (kf : x4 = 0 → WP PR d 101 75 [vA 1, vI x1, vI x2, vI x3, vI x4] [] S M Q) : WP PR d 101 70 [vA 1, vI x1, vI x2, vI x3, vI x4] [] S M Q := by
  refine WP.if0 1 75 72 .ne 13 (0, 0, 0, 0) 85 rfl rfl ?_
  exact ⟨kt, fun hc => kf (Decidable.not_not.mp hc)⟩
set_option maxRecDepth 100000 in
theorem b_X8_byPlan_75 {d : Nat} {S : mSh} {M : mMem} {Q : Option mV → mSh → mMem → Prop} {x1 x2 x3 x4 : Int} (L : Lay S) (hc : (0 ≤ x3 ∧ x3 < 8)) (k : Q (some (vI (M 180 x3))) S M) : WP PR d 101 75 [vA 1, vI x1, vI x2, vI x3, vI x4] [] S M Q := by
  refine WP.re 5 84 .ireturn (0, 0, 0, 0) _ rfl ?_
  exact And.intro (⟨lo1 L, lf1_6 L⟩) (And.intro (⟨lo177 L, lf177_2 L⟩) (And.intro (inA_of (lo180 L) (ll180 L) hc) (⟨rfl, rfl, trivial, k⟩)))
set_option maxRecDepth 100000 in
theorem b_X8_byPlan_85 {d : Nat} {S : mSh} {M : mMem} {Q : Option mV → mSh → mMem → Prop} {x1 x2 x3 x4 : Int} (kt : ¬ x4 = 1 → WP PR d 101 102 [vA 1, vI x1, vI x2, vI x3, vI x4] [] S M Q) (kf : x4 = 1 → WP PR d 101 91 [vA 1, vI x1, vI x2, vI x3, vI x4] [] S M Q) : WP PR d 101 85 [vA 1, vI x1, vI x2, vI x3, vI x4] [] S M Q := by
  refine WP.if2 2 91 88 .ne 14 (0, 0, 0, 0) 102 rfl rfl ?_
  exact ⟨kt, fun hc => kf (Decidable.not_not.mp hc)⟩
set_option maxRecDepth 100000 in
theorem b_X8_byPlan_91 {d : Nat} {S : mSh} {M : mMem} {Q : Option mV → mSh → mMem → Prop} {x1 x2 x3 x4 : Int} (L : Lay S) (k : WP PR d 48 0 [vA 177, vI x3] [] S M (fun r S2 M2 => WP PR (d + 1) 101 99 [vA 1, vI x1, vI x2, vI x3, vI x4] (r.toList ++ []) S2 M2 Q)) : WP PR (d + 1) 101 91 [vA 1, vI x1, vI x2, vI x3, vI x4] [] S M Q := by
  refine WP.ca 3 99 96 (.invokevirtual 130) (0, 48, 0, 0) rfl ?_
  exact And.intro (⟨lo1 L, lf1_6 L⟩) (⟨rfl, rfl, rfl, lo177 L, rfl, k⟩)
set_option maxRecDepth 100000 in
theorem b_X8_byPlan_99 {d : Nat} {S : mSh} {M : mMem} {Q : Option mV → mSh → mMem → Prop} {x1 x2 x3 x4 s0 : Int} (k : Q (some (vI s0)) S M) : WP PR d 101 99 [vA 1, vI x1, vI x2, vI x3, vI x4] [vI s0] S M Q := by
  refine WP.gt 0 99 11 (0, 0, 0, 0) _ 110 rfl rfl ?_
  show WP PR d 101 110 [vA 1, vI x1, vI x2, vI x3, vI x4] [vI s0] S M Q
  refine WP.re 0 110 .ireturn (0, 0, 0, 0) _ rfl ?_
  exact ⟨rfl, rfl, trivial, k⟩
set_option maxRecDepth 100000 in
theorem b_X8_byPlan_102 {d : Nat} {S : mSh} {M : mMem} {Q : Option mV → mSh → mMem → Prop} {x1 x2 x3 x4 : Int} (L : Lay S) (k : WP PR d 50 0 [vA 177, vI x3, vU, vU, vU, vU, vU] [] S M (fun r S2 M2 => WP PR (d + 1) 101 110 [vA 1, vI x1, vI x2, vI x3, vI x4] (r.toList ++ []) S2 M2 Q)) : WP PR (d + 1) 101 102 [vA 1, vI x1, vI x2, vI x3, vI x4] [] S M Q := by
  refine WP.ca 3 110 107 (.invokevirtual 133) (0, 50, 0, 0) rfl ?_
  exact And.intro (⟨lo1 L, lf1_6 L⟩) (⟨rfl, rfl, rfl, lo177 L, rfl, k⟩)
set_option maxRecDepth 100000 in
theorem b_X8_byPlan_110 {d : Nat} {S : mSh} {M : mMem} {Q : Option mV → mSh → mMem → Prop} {x1 x2 x3 x4 s0 : Int} (k : Q (some (vI s0)) S M) : WP PR d 101 110 [vA 1, vI x1, vI x2, vI x3, vI x4] [vI s0] S M Q := by
  refine WP.re 0 110 .ireturn (0, 0, 0, 0) _ rfl ?_
  exact ⟨rfl, rfl, trivial, k⟩
/-- SoleraCellar.oldEnough(III)I -/
abbrev e_X8_oldEnough (d : Nat) (a1 a2 a3 : Int) (S : mSh) (M : mMem) (Q : Option mV → mSh → mMem → Prop) : Prop := WP PR d 102 0 [vA 1, vI a1, vI a2, vI a3, vU] [] S M Q
set_option maxRecDepth 100000 in
theorem b_X8_oldEnough_0 {d : Nat} {S : mSh} {M : mMem} {Q : Option mV → mSh → mMem → Prop} {x1 x2 x3 : Int} (L : Lay S) (k : WP PR d 37 0 [vA 8, vI x1] [] S M (fun r S2 M2 => WP PR (d + 1) 102 8 [vA 1, vI x1, vI x2, vI x3, vU] (r.toList ++ []) S2 M2 Q)) : WP PR (d + 1) 102 0 [vA 1, vI x1, vI x2, vI x3, vU] [] S M Q := by
  refine WP.ca 3 8 5 (.invokevirtual 245) (0, 37, 0, 0) rfl ?_
  exact And.intro (⟨lo1 L, lf1_2 L⟩) (⟨rfl, rfl, rfl, lo8 L, rfl, k⟩)
set_option maxRecDepth 100000 in
theorem b_X8_oldEnough_8 {d : Nat} {S : mSh} {M : mMem} {Q : Option mV → mSh → mMem → Prop} {x1 x2 x3 s0 : Int} {u4 : mV} (kt : s0 = 0 → WP PR d 102 36 [vA 1, vI x1, vI x2, vI x3, u4] [] S M Q) (kf : ¬ s0 = 0 → WP PR d 102 11 [vA 1, vI x1, vI x2, vI x3, u4] [] S M Q) : WP PR d 102 8 [vA 1, vI x1, vI x2, vI x3, u4] [vI s0] S M Q := by
  refine WP.if0 0 11 8 .eq 28 (0, 0, 0, 0) 36 rfl rfl ?_
  exact ⟨kt, fun hc => kf hc⟩
set_option maxRecDepth 100000 in
theorem b_X8_oldEnough_11 {d : Nat} {S : mSh} {M : mMem} {Q : Option mV → mSh → mMem → Prop} {x1 x2 x3 : Int} {u4 : mV} (L : Lay S) (k : WP PR d 42 0 [vA 9, vI x2] [] S M (fun r S2 M2 => WP PR (d + 1) 102 22 [vA 1, vI x1, vI x2, vI x3, u4] (r.toList ++ []) S2 M2 Q)) : WP PR (d + 1) 102 11 [vA 1, vI x1, vI x2, vI x3, u4] [] S M Q := by
  refine WP.ca 4 22 19 (.invokevirtual 110) (0, 42, 0, 0) rfl ?_
  exact And.intro (⟨lo1 L, lf1_2 L⟩) (And.intro (⟨lo8 L, lf8_0 L⟩) (⟨rfl, rfl, rfl, lo9 L, rfl, k⟩))
set_option maxRecDepth 100000 in
theorem b_X8_oldEnough_22 {d : Nat} {S : mSh} {M : mMem} {Q : Option mV → mSh → mMem → Prop} {x1 x2 x3 s0 : Int} {u4 : mV} (kt : s0 = 0 → WP PR d 102 36 [vA 1, vI x1, vI x2, vI x3, u4] [] S M Q) (kf : ¬ s0 = 0 → WP PR d 102 25 [vA 1, vI x1, vI x2, vI x3, u4] [] S M Q) : WP PR d 102 22 [vA 1, vI x1, vI x2, vI x3, u4] [vI s0] S M Q := by
  refine WP.if0 0 25 22 .eq 14 (0, 0, 0, 0) 36 rfl rfl ?_
  exact ⟨kt, fun hc => kf hc⟩
set_option maxRecDepth 100000 in
theorem b_X8_oldEnough_25 {d : Nat} {S : mSh} {M : mMem} {Q : Option mV → mSh → mMem → Prop} {x1 x2 x3 : Int} {u4 : mV} (k : WP PR d 119 0 [vI x3, vI 0, vI 19000] [] S M (fun r S2 M2 => WP PR (d + 1) 102 33 [vA 1, vI x1, vI x2, vI x3, u4] (r.toList ++ []) S2 M2 Q)) : WP PR (d + 1) 102 25 [vA 1, vI x1, vI x2, vI x3, u4] [] S M Q := by
  refine WP.ca 3 33 30 (.invokestatic 86) (0, 119, 0, 0) rfl ?_
  exact ⟨rfl, rfl, rfl, trivial, rfl, k⟩
set_option maxRecDepth 100000 in
theorem b_X8_oldEnough_33 {d : Nat} {S : mSh} {M : mMem} {Q : Option mV → mSh → mMem → Prop} {x1 x2 x3 s0 : Int} {u4 : mV} (kt : ¬ s0 = 0 → WP PR d 102 38 [vA 1, vI x1, vI x2, vI x3, u4] [] S M Q) (kf : s0 = 0 → WP PR d 102 36 [vA 1, vI x1, vI x2, vI x3, u4] [] S M Q) : WP PR d 102 33 [vA 1, vI x1, vI x2, vI x3, u4] [vI s0] S M Q := by
  refine WP.if0 0 36 33 .ne 5 (0, 0, 0, 0) 38 rfl rfl ?_
  exact ⟨kt, fun hc => kf (Decidable.not_not.mp hc)⟩
set_option maxRecDepth 100000 in
theorem b_X8_oldEnough_36 {d : Nat} {S : mSh} {M : mMem} {Q : Option mV → mSh → mMem → Prop} {x1 x2 x3 : Int} {u4 : mV} (k : Q (some (vI (-1))) S M) : WP PR d 102 36 [vA 1, vI x1, vI x2, vI x3, u4] [] S M Q := by
  refine WP.re 1 37 .ireturn (0, 0, 0, 0) _ rfl ?_
  exact ⟨rfl, rfl, trivial, k⟩
set_option maxRecDepth 100000 in
theorem b_X8_oldEnough_38 {d : Nat} {S : mSh} {M : mMem} {Q : Option mV → mSh → mMem → Prop} {x1 x2 x3 : Int} {u4 : mV} (L : Lay S) (k : WP PR d 125 0 [vA 1] [] S M (fun r S2 M2 => WP PR (d + 1) 102 42 [vA 1, vI x1, vI x2, vI x3, u4] (r.toList ++ []) S2 M2 Q)) : WP PR (d + 1) 102 38 [vA 1, vI x1, vI x2, vI x3, u4] [] S M Q := by
  refine WP.ca 1 42 39 (.invokevirtual 195) (0, 125, 0, 0) rfl ?_
  exact ⟨rfl, rfl, rfl, lo1 L, rfl, k⟩
set_option maxRecDepth 100000 in
theorem b_X8_oldEnough_42 {d : Nat} {S : mSh} {M : mMem} {Q : Option mV → mSh → mMem → Prop} {x1 x2 x3 : Int} {u4 : mV} (k : WP PR d 102 45 [vA 1, vI x1, vI x2, vI x3, vI 0] [] S M Q) : WP PR d 102 42 [vA 1, vI x1, vI x2, vI x3, u4] [] S M Q := by
  refine WP.bl 2 45 rfl ?_
  exact k
set_option maxRecDepth 100000 in
theorem b_X8_oldEnough_45 {d : Nat} {S : mSh} {M : mMem} {Q : Option mV → mSh → mMem → Prop} {x1 x2 x3 x4 : Int} (kt : 60 < x4 → WP PR d 102 90 [vA 1, vI x1, vI x2, vI x3, vI x4] [] S M Q) (kf : x4 ≤ 60 → WP PR d 102 52 [vA 1, vI x1, vI x2, vI x3, vI x4] [] S M Q) : WP PR d 102 45 [vA 1, vI x1, vI x2, vI x3, vI x4] [] S M Q := by
  refine WP.if2 2 52 49 .gt 41 (0, 0, 0, 0) 90 rfl rfl ?_
  exact ⟨kt, fun hc => kf (Int.not_lt.mp hc)⟩
set_option maxRecDepth 100000 in
theorem b_X8_oldEnough_52 {d : Nat} {S : mSh} {M : mMem} {Q : Option mV → mSh → mMem → Prop} {x1 x2 x3 x4 : Int} (L : Lay S) (k : WP PR d 48 0 [vA 177, vI x2] [] S M (fun r S2 M2 => WP PR (d + 1) 102 60 [vA 1, vI x1, vI x2, vI x3, vI x4] (r.toList ++ []) S2 M2 Q)) : WP PR (d + 1) 102 52 [vA 1, vI x1, vI x2, vI x3, vI x4] [] S M Q := by
  refine WP.ca 3 60 57 (.invokevirtual 130) (0, 48, 0, 0) rfl ?_
  exact And.intro (⟨lo1 L, lf1_6 L⟩) (⟨rfl, rfl, rfl, lo177 L, rfl, k⟩)
set_option maxRecDepth 100000 in
theorem b_X8_oldEnough_60 {d : Nat} {S : mSh} {M : mMem} {Q : Option mV → mSh → mMem → Prop} {x1 x2 x3 x4 s0 : Int} (kt : s0 < x3 → WP PR d 102 67 [vA 1, vI x1, vI x2, vI x3, vI x4] [] S M Q) (kf : x3 ≤ s0 → WP PR d 102 64 [vA 1, vI x1, vI x2, vI x3, vI x4] [] S M Q) : WP PR d 102 60 [vA 1, vI x1, vI x2, vI x3, vI x4] [vI s0] S M Q := by
  refine WP.if2 1 64 61 .lt 6 (0, 0, 0, 0) 67 rfl rfl ?_
  exact ⟨kt, fun hc => kf (Int.not_lt.mp hc)⟩
set_option maxRecDepth 100000 in
theorem b_X8_oldEnough_64 {d : Nat} {S : mSh} {M : mMem} {Q : Option mV → mSh → mMem → Prop} {x1 x2 x3 x4 : Int} (k : Q (some (vI x4)) S M) : WP PR d 102 64 [vA 1, vI x1, vI x2, vI x3, vI x4] [] S M Q := by
  refine WP.re 1 66 .ireturn (0, 0, 0, 0) _ rfl ?_
  exact ⟨rfl, rfl, trivial, k⟩
set_option maxRecDepth 100000 in
theorem b_X8_oldEnough_67 {d : Nat} {S : mSh} {M : mMem} {Q : Option mV → mSh → mMem → Prop} {x1 x2 x3 x4 : Int} {q1 : Int} (eq1 : M 20 x1 = q1) (L : Lay S) (hc : (0 ≤ x1 ∧ x1 < 4)) (k : WP PR d 78 0 [vA 191, vA q1, vI 1, vU, vU, vU, vU, vU] [] S M (fun r S2 M2 => WP PR (d + 1) 102 84 [vA 1, vI x1, vI x2, vI x3, vI x4] (r.toList ++ []) S2 M2 Q)) : WP PR (d + 1) 102 67 [vA 1, vI x1, vI x2, vI x3, vI x4] [] S M Q := by
  subst eq1
  refine WP.ca 8 84 81 (.invokevirtual 248) (0, 78, 0, 0) rfl ?_
  exact And.intro (⟨lo1 L, lf1_8 L⟩) (And.intro (⟨lo1 L, lf1_2 L⟩) (And.intro (⟨lo8 L, lf8_3 L⟩) (And.intro (inA_of (lo20 L) (ll20 L) hc) (⟨rfl, rfl, rfl, lo191 L, rfl, k⟩))))
set_option maxRecDepth 100000 in
theorem b_X8_oldEnough_84 {d : Nat} {S : mSh} {M : mMem} {Q : Option mV → mSh → mMem → Prop} {x1 x2 x3 x4 : Int} (hc : R32 (x4 + 1)) (k : WP PR d 102 45 [vA 1, vI x1, vI x2, vI x3, vI (x4 + 1)] [] S M Q) : WP PR d 102 84 [vA 1, vI x1, vI x2, vI x3, vI x4] [] S M Q := by
  refine WP.gt 1 87 (-42) (0, 0, 0, 0) _ 45 rfl rfl ?_
  exact And.intro (hc) (k)
set_option maxRecDepth 100000 in
theorem b_X8_oldEnough_90 {d : Nat} {S : mSh} {M : mMem} {Q : Option mV → mSh → mMem → Prop} {x1 x2 x3 x4 : Int} (k : Q (some (vI (-1))) S M) : WP PR d 102 90 [vA 1, vI x1, vI x2, vI x3, vI x4] [] S M Q := by
  refine WP.re 1 91 .ireturn (0, 0, 0, 0) _ rfl ?_
  exact ⟨rfl, rfl, trivial, k⟩
/-- SoleraCellar.settled(II)I -/
abbrev e_X8_settled (d : Nat) (a1 a2 : Int) (S : mSh) (M : mMem) (Q : Option mV → mSh → mMem → Prop) : Prop := WP PR d 103 0 [vA 1, vI a1, vI a2, vU, vU] [] S M Q
set_option maxRecDepth 100000 in
theorem b_X8_settled_0 {d : Nat} {S : mSh} {M : mMem} {Q : Option mV → mSh → mMem → Prop} {x1 x2 : Int} (L : Lay S) (k : WP PR d 37 0 [vA 8, vI x1] [] S M (fun r S2 M2 => WP PR (d + 1) 103 8 [vA 1, vI x1, vI x2, vU, vU] (r.toList ++ []) S2 M2 Q)) : WP PR (d + 1) 103 0 [vA 1, vI x1, vI x2, vU, vU] [] S M Q := by
  refine WP.ca 3 8 5 (.invokevirtual 245) (0, 37, 0, 0) rfl ?_
  exact And.intro (⟨lo1 L, lf1_2 L⟩) (⟨rfl, rfl, rfl, lo8 L, rfl, k⟩)
set_option maxRecDepth 100000 in
theorem b_X8_settled_8 {d : Nat} {S : mSh} {M : mMem} {Q : Option mV → mSh → mMem → Prop} {x1 x2 s0 : Int} {u3 u4 : mV} (kt : s0 = 0 → WP PR d 103 25 [vA 1, vI x1, vI x2, u3, u4] [] S M Q) (kf : ¬ s0 = 0 → WP PR d 103 11 [vA 1, vI x1, vI x2, u3, u4] [] S M Q) : WP PR d 103 8 [vA 1, vI x1, vI x2, u3, u4] [vI s0] S M Q := by
  refine WP.if0 0 11 8 .eq 17 (0, 0, 0, 0) 25 rfl rfl ?_
  exact ⟨kt, fun hc => kf hc⟩
set_option maxRecDepth 100000 in
theorem b_X8_settled_11 {d : Nat} {S : mSh} {M : mMem} {Q : Option mV → mSh → mMem → Prop} {x1 x2 : Int} {u3 u4 : mV} (L : Lay S) (k : WP PR d 42 0 [vA 9, vI x2] [] S M (fun r S2 M2 => WP PR (d + 1) 103 22 [vA 1, vI x1, vI x2, u3, u4] (r.toList ++ []) S2 M2 Q)) : WP PR (d + 1) 103 11 [vA 1, vI x1, vI x2, u3, u4] [] S M Q := by
  refine WP.ca 4 22 19 (.invokevirtual 110) (0, 42, 0, 0) rfl ?_
  exact And.intro (⟨lo1 L, lf1_2 L⟩) (And.intro (⟨lo8 L, lf8_0 L⟩) (⟨rfl, rfl, rfl, lo9 L, rfl, k⟩))
set_option maxRecDepth 100000 in
theorem b_X8_settled_22 {d : Nat} {S : mSh} {M : mMem} {Q : Option mV → mSh → mMem → Prop} {x1 x2 s0 : Int} {u3 u4 : mV} (kt : ¬ s0 = 0 → WP PR d 103 27 [vA 1, vI x1, vI x2, u3, u4] [] S M Q) (kf : s0 = 0 → WP PR d 103 25 [vA 1, vI x1, vI x2, u3, u4] [] S M Q) : WP PR d 103 22 [vA 1, vI x1, vI x2, u3, u4] [vI s0] S M Q := by
  refine WP.if0 0 25 22 .ne 5 (0, 0, 0, 0) 27 rfl rfl ?_
  exact ⟨kt, fun hc => kf (Decidable.not_not.mp hc)⟩
set_option maxRecDepth 100000 in
theorem b_X8_settled_25 {d : Nat} {S : mSh} {M : mMem} {Q : Option mV → mSh → mMem → Prop} {x1 x2 : Int} {u3 u4 : mV} (k : Q (some (vI (-1))) S M) : WP PR d 103 25 [vA 1, vI x1, vI x2, u3, u4] [] S M Q := by
  refine WP.re 1 26 .ireturn (0, 0, 0, 0) _ rfl ?_
  exact ⟨rfl, rfl, trivial, k⟩
set_option maxRecDepth 100000 in
theorem b_X8_settled_27 {d : Nat} {S : mSh} {M : mMem} {Q : Option mV → mSh → mMem → Prop} {x1 x2 : Int} {u3 u4 : mV} (L : Lay S) (k : WP PR d 125 0 [vA 1] [] S M (fun r S2 M2 => WP PR (d + 1) 103 31 [vA 1, vI x1, vI x2, u3, u4] (r.toList ++ []) S2 M2 Q)) : WP PR (d + 1) 103 27 [vA 1, vI x1, vI x2, u3, u4] [] S M Q := by
  refine WP.ca 1 31 28 (.invokevirtual 195) (0, 125, 0, 0) rfl ?_
  exact ⟨rfl, rfl, rfl, lo1 L, rfl, k⟩
set_option maxRecDepth 100000 in
theorem b_X8_settled_31 {d : Nat} {S : mSh} {M : mMem} {Q : Option mV → mSh → mMem → Prop} {x1 x2 : Int} {u3 u4 : mV} (k : WP PR d 103 33 [vA 1, vI x1, vI x2, vI 0, u4] [] S M Q) : WP PR d 103 31 [vA 1, vI x1, vI x2, u3, u4] [] S M Q := by
  refine WP.bl 2 33 rfl ?_
  exact k
set_option maxRecDepth 100000 in
theorem b_X8_settled_33 {d : Nat} {S : mSh} {M : mMem} {Q : Option mV → mSh → mMem → Prop} {x1 x2 x3 : Int} {u4 : mV} (kt : 60 ≤ x3 → WP PR d 103 93 [vA 1, vI x1, vI x2, vI x3, u4] [] S M Q) (kf : x3 < 60 → WP PR d 103 39 [vA 1, vI x1, vI x2, vI x3, u4] [] S M Q) : WP PR d 103 33 [vA 1, vI x1, vI x2, vI x3, u4] [] S M Q := by
  refine WP.if2 2 39 36 .ge 57 (0, 0, 0, 0) 93 rfl rfl ?_
  exact ⟨kt, fun hc => kf (Int.not_le.mp hc)⟩
set_option maxRecDepth 100000 in
theorem b_X8_settled_39 {d : Nat} {S : mSh} {M : mMem} {Q : Option mV → mSh → mMem → Prop} {x1 x2 x3 : Int} {u4 : mV} (L : Lay S) (k : WP PR d 48 0 [vA 177, vI x2] [] S M (fun r S2 M2 => WP PR (d + 1) 103 47 [vA 1, vI x1, vI x2, vI x3, u4] (r.toList ++ []) S2 M2 Q)) : WP PR (d + 1) 103 39 [vA 1, vI x1, vI x2, vI x3, u4] [] S M Q := by
  refine WP.ca 3 47 44 (.invokevirtual 130) (0, 48, 0, 0) rfl ?_
  exact And.intro (⟨lo1 L, lf1_6 L⟩) (⟨rfl, rfl, rfl, lo177 L, rfl, k⟩)
set_option maxRecDepth 100000 in
theorem b_X8_settled_47 {d : Nat} {S : mSh} {M : mMem} {Q : Option mV → mSh → mMem → Prop} {x1 x2 x3 s0 : Int} {u4 : mV} {q1 : Int} (eq1 : M 20 x1 = q1) (L : Lay S) (hc : (0 ≤ x1 ∧ x1 < 4)) (k : WP PR d 78 0 [vA 191, vA q1, vI 1, vU, vU, vU, vU, vU] [] S M (fun r S2 M2 => WP PR (d + 1) 103 66 [vA 1, vI x1, vI x2, vI x3, vI s0] (r.toList ++ []) S2 M2 Q)) : WP PR (d + 1) 103 47 [vA 1, vI x1, vI x2, vI x3, u4] [vI s0] S M Q := by
  subst eq1
  refine WP.ca 9 66 63 (.invokevirtual 248) (0, 78, 0, 0) rfl ?_
  exact And.intro (⟨lo1 L, lf1_8 L⟩) (And.intro (⟨lo1 L, lf1_2 L⟩) (And.intro (⟨lo8 L, lf8_3 L⟩) (And.intro (inA_of (lo20 L) (ll20 L) hc) (⟨rfl, rfl, rfl, lo191 L, rfl, k⟩))))
set_option maxRecDepth 100000 in
theorem b_X8_settled_66 {d : Nat} {S : mSh} {M : mMem} {Q : Option mV → mSh → mMem → Prop} {x1 x2 x3 x4 : Int} (kt : x4 = (-1) → WP PR d 103 87 [vA 1, vI x1, vI x2, vI x3, vI x4] [] S M Q) (kf : ¬ x4 = (-1) → WP PR d 103 72 [vA 1, vI x1, vI x2, vI x3, vI x4] [] S M Q) : WP PR d 103 66 [vA 1, vI x1, vI x2, vI x3, vI x4] [] S M Q := by
  refine WP.if2 2 72 69 .eq 18 (0, 0, 0, 0) 87 rfl rfl ?_
  exact ⟨kt, fun hc => kf hc⟩
set_option maxRecDepth 100000 in
theorem b_X8_settled_72 {d : Nat} {S : mSh} {M : mMem} {Q : Option mV → mSh → mMem → Prop} {x1 x2 x3 x4 : Int} (L : Lay S) (k : WP PR d 48 0 [vA 177, vI x2] [] S M (fun r S2 M2 => WP PR (d + 1) 103 82 [vA 1, vI x1, vI x2, vI x3, vI x4] (r.toList ++ [vI x4]) S2 M2 Q)) : WP PR (d + 1) 103 72 [vA 1, vI x1, vI x2, vI x3, vI x4] [] S M Q := by
  refine WP.ca 4 82 79 (.invokevirtual 130) (0, 48, 0, 0) rfl ?_
  exact And.intro (⟨lo1 L, lf1_6 L⟩) (⟨rfl, rfl, rfl, lo177 L, rfl, k⟩)
set_option maxRecDepth 100000 in
theorem b_X8_settled_82 {d : Nat} {S : mSh} {M : mMem} {Q : Option mV → mSh → mMem → Prop} {x1 x2 x3 x4 s0 s1 : Int} (kt : ¬ s0 = s1 → WP PR d 103 87 [vA 1, vI x1, vI x2, vI x3, vI x4] [] S M Q) (kf : s0 = s1 → WP PR d 103 85 [vA 1, vI x1, vI x2, vI x3, vI x4] [] S M Q) : WP PR d 103 82 [vA 1, vI x1, vI x2, vI x3, vI x4] [vI s1, vI s0] S M Q := by
  refine WP.if2 0 85 82 .ne 5 (0, 0, 0, 0) 87 rfl rfl ?_
  exact ⟨kt, fun hc => kf (Decidable.not_not.mp hc)⟩
set_option maxRecDepth 100000 in
theorem b_X8_settled_85 {d : Nat} {S : mSh} {M : mMem} {Q : Option mV → mSh → mMem → Prop} {x1 x2 x3 x4 : Int} (k : Q (some (vI x3)) S M) : WP PR d 103 85 [vA 1, vI x1, vI x2, vI x3, vI x4] [] S M Q := by
  refine WP.re 1 86 .ireturn (0, 0, 0, 0) _ rfl ?_
  exact ⟨rfl, rfl, trivial, k⟩
set_option maxRecDepth 100000 in
theorem b_X8_settled_87 {d : Nat} {S : mSh} {M : mMem} {Q : Option mV → mSh → mMem → Prop} {x1 x2 x3 x4 : Int} (hc : R32 (x3 + 1)) (k : WP PR d 103 33 [vA 1, vI x1, vI x2, vI (x3 + 1), vI x4] [] S M Q) : WP PR d 103 87 [vA 1, vI x1, vI x2, vI x3, vI x4] [] S M Q := by
  refine WP.gt 1 90 (-57) (0, 0, 0, 0) _ 33 rfl rfl ?_
  exact And.intro (hc) (k)
set_option maxRecDepth 100000 in
theorem b_X8_settled_93 {d : Nat} {S : mSh} {M : mMem} {Q : Option mV → mSh → mMem → Prop} {x1 x2 x3 : Int} {u4 : mV} (k : Q (some (vI (-1))) S M) : WP PR d 103 93 [vA 1, vI x1, vI x2, vI x3, u4] [] S M Q := by
  refine WP.re 1 94 .ireturn (0, 0, 0, 0) _ rfl ?_
  exact ⟨rfl, rfl, trivial, k⟩
/-- SoleraCellar.starves(I)I -/
abbrev e_X8_starves (d : Nat) (a1 : Int) (S : mSh) (M : mMem) (Q : Option mV → mSh → mMem → Prop) : Prop := WP PR d 104 0 [vA 1, vI a1, vU] [] S M Q
set_option maxRecDepth 100000 in
theorem b_X8_starves_0 {d : Nat} {S : mSh} {M : mMem} {Q : Option mV → mSh → mMem → Prop} {x1 : Int} (L : Lay S) (k : WP PR d 37 0 [vA 8, vI x1] [] S M (fun r S2 M2 => WP PR (d + 1) 104 8 [vA 1, vI x1, vU] (r.toList ++ []) S2 M2 Q)) : WP PR (d + 1) 104 0 [vA 1, vI x1, vU] [] S M Q := by
  refine WP.ca 3 8 5 (.invokevirtual 245) (0, 37, 0, 0) rfl ?_
  exact And.intro (⟨lo1 L, lf1_2 L⟩) (⟨rfl, rfl, rfl, lo8 L, rfl, k⟩)
set_option maxRecDepth 100000 in
theorem b_X8_starves_8 {d : Nat} {S : mSh} {M : mMem} {Q : Option mV → mSh → mMem → Prop} {x1 s0 : Int} {u2 : mV} (kt : ¬ s0 = 0 → WP PR d 104 13 [vA 1, vI x1, u2] [] S M Q) (kf : s0 = 0 → WP PR d 104 11 [vA 1, vI x1, u2] [] S M Q) : WP PR d 104 8 [vA 1, vI x1, u2] [vI s0] S M Q := by
  refine WP.if0 0 11 8 .ne 5 (0, 0, 0, 0) 13 rfl rfl ?_
  exact ⟨kt, fun hc => kf (Decidable.not_not.mp hc)⟩
set_option maxRecDepth 100000 in
theorem b_X8_starves_11 {d : Nat} {S : mSh} {M : mMem} {Q : Option mV → mSh → mMem → Prop} {x1 : Int} {u2 : mV} (k : Q (some (vI (-1))) S M) : WP PR d 104 11 [vA 1, vI x1, u2] [] S M Q := by
  refine WP.re 1 12 .ireturn (0, 0, 0, 0) _ rfl ?_
  exact ⟨rfl, rfl, trivial, k⟩
set_option maxRecDepth 100000 in
theorem b_X8_starves_13 {d : Nat} {S : mSh} {M : mMem} {Q : Option mV → mSh → mMem → Prop} {x1 : Int} {u2 : mV} (L : Lay S) (k : WP PR d 125 0 [vA 1] [] S M (fun r S2 M2 => WP PR (d + 1) 104 17 [vA 1, vI x1, u2] (r.toList ++ []) S2 M2 Q)) : WP PR (d + 1) 104 13 [vA 1, vI x1, u2] [] S M Q := by
  refine WP.ca 1 17 14 (.invokevirtual 195) (0, 125, 0, 0) rfl ?_
  exact ⟨rfl, rfl, rfl, lo1 L, rfl, k⟩
set_option maxRecDepth 100000 in
theorem b_X8_starves_17 {d : Nat} {S : mSh} {M : mMem} {Q : Option mV → mSh → mMem → Prop} {x1 : Int} {u2 : mV} (k : WP PR d 104 19 [vA 1, vI x1, vI 0] [] S M Q) : WP PR d 104 17 [vA 1, vI x1, u2] [] S M Q := by
  refine WP.bl 2 19 rfl ?_
  exact k
set_option maxRecDepth 100000 in
theorem b_X8_starves_19 {d : Nat} {S : mSh} {M : mMem} {Q : Option mV → mSh → mMem → Prop} {x1 x2 : Int} (kt : 60 ≤ x2 → WP PR d 104 60 [vA 1, vI x1, vI x2] [] S M Q) (kf : x2 < 60 → WP PR d 104 25 [vA 1, vI x1, vI x2] [] S M Q) : WP PR d 104 19 [vA 1, vI x1, vI x2] [] S M Q := by
  refine WP.if2 2 25 22 .ge 38 (0, 0, 0, 0) 60 rfl rfl ?_
  exact ⟨kt, fun hc => kf (Int.not_le.mp hc)⟩
set_option maxRecDepth 100000 in
theorem b_X8_starves_25 {d : Nat} {S : mSh} {M : mMem} {Q : Option mV → mSh → mMem → Prop} {x1 x2 : Int} {q1 : Int} (eq1 : M 20 x1 = q1) (L : Lay S) (hc : (0 ≤ x1 ∧ x1 < 4)) (k : WP PR d 78 0 [vA 191, vA q1, vI 1, vU, vU, vU, vU, vU] [] S M (fun r S2 M2 => WP PR (d + 1) 104 42 [vA 1, vI x1, vI x2] (r.toList ++ []) S2 M2 Q)) : WP PR (d + 1) 104 25 [vA 1, vI x1, vI x2] [] S M Q := by
  subst eq1
  refine WP.ca 8 42 39 (.invokevirtual 248) (0, 78, 0, 0) rfl ?_
  exact And.intro (⟨lo1 L, lf1_8 L⟩) (And.intro (⟨lo1 L, lf1_2 L⟩) (And.intro (⟨lo8 L, lf8_3 L⟩) (And.intro (inA_of (lo20 L) (ll20 L) hc) (⟨rfl, rfl, rfl, lo191 L, rfl, k⟩))))
set_option maxRecDepth 100000 in
theorem b_X8_starves_42 {d : Nat} {S : mSh} {M : mMem} {Q : Option mV → mSh → mMem → Prop} {x1 x2 : Int} (L : Lay S) (kt : M 191 6 = 0 → WP PR d 104 54 [vA 1, vI x1, vI x2] [] S M Q) (kf : ¬ M 191 6 = 0 → WP PR d 104 52 [vA 1, vI x1, vI x2] [] S M Q) : WP PR d 104 42 [vA 1, vI x1, vI x2] [] S M Q := by
  refine WP.if0 3 52 49 .eq 5 (0, 0, 0, 0) 54 rfl rfl ?_
  exact And.intro (⟨lo1 L, lf1_8 L⟩) (And.intro (lo191 L) (⟨kt, fun hc => kf hc⟩))
set_option maxRecDepth 100000 in
theorem b_X8_starves_52 {d : Nat} {S : mSh} {M : mMem} {Q : Option mV → mSh → mMem → Prop} {x1 x2 : Int} (k : Q (some (vI x2)) S M) : WP PR d 104 52 [vA 1, vI x1, vI x2] [] S M Q := by
  refine WP.re 1 53 .ireturn (0, 0, 0, 0) _ rfl ?_
  exact ⟨rfl, rfl, trivial, k⟩
set_option maxRecDepth 100000 in
theorem b_X8_starves_54 {d : Nat} {S : mSh} {M : mMem} {Q : Option mV → mSh → mMem → Prop} {x1 x2 : Int} (hc : R32 (x2 + 1)) (k : WP PR d 104 19 [vA 1, vI x1, vI (x2 + 1)] [] S M Q) : WP PR d 104 54 [vA 1, vI x1, vI x2] [] S M Q := by
  refine WP.gt 1 57 (-38) (0, 0, 0, 0) _ 19 rfl rfl ?_
  exact And.intro (hc) (k)
set_option maxRecDepth 100000 in
theorem b_X8_starves_60 {d : Nat} {S : mSh} {M : mMem} {Q : Option mV → mSh → mMem → Prop} {x1 x2 : Int} (k : Q (some (vI (-1))) S M) : WP PR d 104 60 [vA 1, vI x1, vI x2] [] S M Q := by
  refine WP.re 1 61 .ireturn (0, 0, 0, 0) _ rfl ?_
  exact ⟨rfl, rfl, trivial, k⟩
/-- SoleraCellar.yields(II)I -/
abbrev e_X8_yields (d : Nat) (a1 a2 : Int) (S : mSh) (M : mMem) (Q : Option mV → mSh → mMem → Prop) : Prop := WP PR d 105 0 [vA 1, vI a1, vI a2] [] S M Q
set_option maxRecDepth 100000 in
theorem b_X8_yields_0 {d : Nat} {S : mSh} {M : mMem} {Q : Option mV → mSh → mMem → Prop} {x1 x2 : Int} (L : Lay S) (k : WP PR d 37 0 [vA 8, vI x1] [] S M (fun r S2 M2 => WP PR (d + 1) 105 8 [vA 1, vI x1, vI x2] (r.toList ++ []) S2 M2 Q)) : WP PR (d + 1) 105 0 [vA 1, vI x1, vI x2] [] S M Q := by
  refine WP.ca 3 8 5 (.invokevirtual 245) (0, 37, 0, 0) rfl ?_
  exact And.intro (⟨lo1 L, lf1_2 L⟩) (⟨rfl, rfl, rfl, lo8 L, rfl, k⟩)
set_option maxRecDepth 100000 in
theorem b_X8_yields_8 {d : Nat} {S : mSh} {M : mMem} {Q : Option mV → mSh → mMem → Prop} {x1 x2 s0 : Int} (kt : s0 = 0 → WP PR d 105 21 [vA 1, vI x1, vI x2] [] S M Q) (kf : ¬ s0 = 0 → WP PR d 105 11 [vA 1, vI x1, vI x2] [] S M Q) : WP PR d 105 8 [vA 1, vI x1, vI x2] [vI s0] S M Q := by
  refine WP.if0 0 11 8 .eq 13 (0, 0, 0, 0) 21 rfl rfl ?_
  exact ⟨kt, fun hc => kf hc⟩
set_option maxRecDepth 100000 in
theorem b_X8_yields_11 {d : Nat} {S : mSh} {M : mMem} {Q : Option mV → mSh → mMem → Prop} {x1 x2 : Int} (k : WP PR d 119 0 [vI x2, vI 0, vI 60] [] S M (fun r S2 M2 => WP PR (d + 1) 105 18 [vA 1, vI x1, vI x2] (r.toList ++ []) S2 M2 Q)) : WP PR (d + 1) 105 11 [vA 1, vI x1, vI x2] [] S M Q := by
  refine WP.ca 3 18 15 (.invokestatic 86) (0, 119, 0, 0) rfl ?_
  exact ⟨rfl, rfl, rfl, trivial, rfl, k⟩
set_option maxRecDepth 100000 in
theorem b_X8_yields_18 {d : Nat} {S : mSh} {M : mMem} {Q : Option mV → mSh → mMem → Prop} {x1 x2 s0 : Int} (kt : ¬ s0 = 0 → WP PR d 105 23 [vA 1, vI x1, vI x2] [] S M Q) (kf : s0 = 0 → WP PR d 105 21 [vA 1, vI x1, vI x2] [] S M Q) : WP PR d 105 18 [vA 1, vI x1, vI x2] [vI s0] S M Q := by
  refine WP.if0 0 21 18 .ne 5 (0, 0, 0, 0) 23 rfl rfl ?_
  exact ⟨kt, fun hc => kf (Decidable.not_not.mp hc)⟩
set_option maxRecDepth 100000 in
theorem b_X8_yields_21 {d : Nat} {S : mSh} {M : mMem} {Q : Option mV → mSh → mMem → Prop} {x1 x2 : Int} (k : Q (some (vI (-1))) S M) : WP PR d 105 21 [vA 1, vI x1, vI x2] [] S M Q := by
  refine WP.re 1 22 .ireturn (0, 0, 0, 0) _ rfl ?_
  exact ⟨rfl, rfl, trivial, k⟩
set_option maxRecDepth 100000 in
theorem b_X8_yields_23 {d : Nat} {S : mSh} {M : mMem} {Q : Option mV → mSh → mMem → Prop} {x1 x2 : Int} (L : Lay S) (k : WP PR d 125 0 [vA 1] [] S M (fun r S2 M2 => WP PR (d + 1) 105 27 [vA 1, vI x1, vI x2] (r.toList ++ []) S2 M2 Q)) : WP PR (d + 1) 105 23 [vA 1, vI x1, vI x2] [] S M Q := by
  refine WP.ca 1 27 24 (.invokevirtual 195) (0, 125, 0, 0) rfl ?_
  exact ⟨rfl, rfl, rfl, lo1 L, rfl, k⟩
set_option maxRecDepth 100000 in
theorem b_X8_yields_27 {d : Nat} {S : mSh} {M : mMem} {Q : Option mV → mSh → mMem → Prop} {x1 x2 : Int} {q1 : Int} (eq1 : M 20 x1 = q1) (L : Lay S) (hc : (0 ≤ x1 ∧ x1 < 4)) (k : WP PR d 78 0 [vA 191, vA q1, vI x2, vU, vU, vU, vU, vU] [] S M (fun r S2 M2 => WP PR (d + 1) 105 44 [vA 1, vI x1, vI x2] (r.toList ++ []) S2 M2 Q)) : WP PR (d + 1) 105 27 [vA 1, vI x1, vI x2] [] S M Q := by
  subst eq1
  refine WP.ca 8 44 41 (.invokevirtual 248) (0, 78, 0, 0) rfl ?_
  exact And.intro (⟨lo1 L, lf1_8 L⟩) (And.intro (⟨lo1 L, lf1_2 L⟩) (And.intro (⟨lo8 L, lf8_3 L⟩) (And.intro (inA_of (lo20 L) (ll20 L) hc) (⟨rfl, rfl, rfl, lo191 L, rfl, k⟩))))
set_option maxRecDepth 100000 in
theorem b_X8_yields_44 {d : Nat} {S : mSh} {M : mMem} {Q : Option mV → mSh → mMem → Prop} {x1 x2 : Int} (L : Lay S) (k : Q (some (vI (M 191 4))) S M) : WP PR d 105 44 [vA 1, vI x1, vI x2] [] S M Q := by
  refine WP.re 3 51 .ireturn (0, 0, 0, 0) _ rfl ?_
  exact And.intro (⟨lo1 L, lf1_8 L⟩) (And.intro (lo191 L) (⟨rfl, rfl, trivial, k⟩))
/-- SoleraCellar.best(II)I -/
abbrev e_X8_best (d : Nat) (a1 a2 : Int) (S : mSh) (M : mMem) (Q : Option mV → mSh → mMem → Prop) : Prop := WP PR d 106 0 [vA 1, vI a1, vI a2, vU, vU, vU] [] S M Q
set_option maxRecDepth 100000 in
theorem b_X8_best_0 {d : Nat} {S : mSh} {M : mMem} {Q : Option mV → mSh → mMem → Prop} {x1 x2 : Int} (k : WP PR d 119 0 [vI x1, vI 0, vI 60] [] S M (fun r S2 M2 => WP PR (d + 1) 106 7 [vA 1, vI x1, vI x2, vU, vU, vU] (r.toList ++ []) S2 M2 Q)) : WP PR (d + 1) 106 0 [vA 1, vI x1, vI x2, vU, vU, vU] [] S M Q := by
  refine WP.ca 3 7 4 (.invokestatic 86) (0, 119, 0, 0) rfl ?_
  exact ⟨rfl, rfl, rfl, trivial, rfl, k⟩
set_option maxRecDepth 100000 in
theorem b_X8_best_7 {d : Nat} {S : mSh} {M : mMem} {Q : Option mV → mSh → mMem → Prop} {x1 x2 s0 : Int} {u3 u4 u5 : mV} (kt : s0 = 0 → WP PR d 106 21 [vA 1, vI x1, vI x2, u3, u4, u5] [] S M Q) (kf : ¬ s0 = 0 → WP PR d 106 10 [vA 1, vI x1, vI x2, u3, u4, u5] [] S M Q) : WP PR d 106 7 [vA 1, vI x1, vI x2, u3, u4, u5] [vI s0] S M Q := by
  refine WP.if0 0 10 7 .eq 14 (0, 0, 0, 0) 21 rfl rfl ?_
  exact ⟨kt, fun hc => kf hc⟩
set_option maxRecDepth 100000 in
theorem b_X8_best_10 {d : Nat} {S : mSh} {M : mMem} {Q : Option mV → mSh → mMem → Prop} {x1 x2 : Int} {u3 u4 u5 : mV} (k : WP PR d 119 0 [vI x2, vI 0, vI 19000] [] S M (fun r S2 M2 => WP PR (d + 1) 106 18 [vA 1, vI x1, vI x2, u3, u4, u5] (r.toList ++ []) S2 M2 Q)) : WP PR (d + 1) 106 10 [vA 1, vI x1, vI x2, u3, u4, u5] [] S M Q := by
  refine WP.ca 3 18 15 (.invokestatic 86) (0, 119, 0, 0) rfl ?_
  exact ⟨rfl, rfl, rfl, trivial, rfl, k⟩
set_option maxRecDepth 100000 in
theorem b_X8_best_18 {d : Nat} {S : mSh} {M : mMem} {Q : Option mV → mSh → mMem → Prop} {x1 x2 s0 : Int} {u3 u4 u5 : mV} (kt : ¬ s0 = 0 → WP PR d 106 23 [vA 1, vI x1, vI x2, u3, u4, u5] [] S M Q) (kf : s0 = 0 → WP PR d 106 21 [vA 1, vI x1, vI x2, u3, u4, u5] [] S M Q) : WP PR d 106 18 [vA 1, vI x1, vI x2, u3, u4, u5] [vI s0] S M Q := by
  refine WP.if0 0 21 18 .ne 5 (0, 0, 0, 0) 23 rfl rfl ?_
  exact ⟨kt, fun hc => kf (Decidable.not_not.mp hc)⟩
set_option maxRecDepth 100000 in
theorem b_X8_best_21 {d : Nat} {S : mSh} {M : mMem} {Q : Option mV → mSh → mMem → Prop} {x1 x2 : Int} {u3 u4 u5 : mV} (k : Q (some (vI (-1))) S M) : WP PR d 106 21 [vA 1, vI x1, vI x2, u3, u4, u5] [] S M Q := by
  refine WP.re 1 22 .ireturn (0, 0, 0, 0) _ rfl ?_
  exact ⟨rfl, rfl, trivial, k⟩
set_option maxRecDepth 100000 in
theorem b_X8_best_23 {d : Nat} {S : mSh} {M : mMem} {Q : Option mV → mSh → mMem → Prop} {x1 x2 : Int} {u3 u4 u5 : mV} (k : WP PR d 106 31 [vA 1, vI x1, vI x2, vI (-1), vI (-1), vI 0] [] S M Q) : WP PR d 106 23 [vA 1, vI x1, vI x2, u3, u4, u5] [] S M Q := by
  refine WP.bl 6 31 rfl ?_
  exact k
set_option maxRecDepth 100000 in
theorem b_X8_best_31 {d : Nat} {S : mSh} {M : mMem} {Q : Option mV → mSh → mMem → Prop} {x1 x2 x3 x4 x5 : Int} (L : Lay S) (kt : M 8 7 ≤ x5 → WP PR d 106 106 [vA 1, vI x1, vI x2, vI x3, vI x4, vI x5] [] S M Q) (kf : x5 < M 8 7 → WP PR d 106 43 [vA 1, vI x1, vI x2, vI x3, vI x4, vI x5] [] S M Q) : WP PR d 106 31 [vA 1, vI x1, vI x2, vI x3, vI x4, vI x5] [] S M Q := by
  refine WP.if2 4 43 40 .ge 66 (0, 0, 0, 0) 106 rfl rfl ?_
  exact And.intro (⟨lo1 L, lf1_2 L⟩) (And.intro (lo8 L) (⟨kt, fun hc => kf (Int.not_le.mp hc)⟩))
set_option maxRecDepth 100000 in
theorem b_X8_best_43 {d : Nat} {S : mSh} {M : mMem} {Q : Option mV → mSh → mMem → Prop} {x1 x2 x3 x4 x5 : Int} (L : Lay S) (k : WP PR d 125 0 [vA 1] [] S M (fun r S2 M2 => WP PR (d + 1) 106 47 [vA 1, vI x1, vI x2, vI x3, vI x4, vI x5] (r.toList ++ []) S2 M2 Q)) : WP PR (d + 1) 106 43 [vA 1, vI x1, vI x2, vI x3, vI x4, vI x5] [] S M Q := by
  refine WP.ca 1 47 44 (.invokevirtual 195) (0, 125, 0, 0) rfl ?_
  exact ⟨rfl, rfl, rfl, lo1 L, rfl, k⟩
set_option maxRecDepth 100000 in
theorem b_X8_best_47 {d : Nat} {S : mSh} {M : mMem} {Q : Option mV → mSh → mMem → Prop} {x1 x2 x3 x4 x5 : Int} {q1 : Int} (eq1 : M 20 x5 = q1) (L : Lay S) (hc : (0 ≤ x5 ∧ x5 < 4)) (k : WP PR d 78 0 [vA 191, vA q1, vI x1, vU, vU, vU, vU, vU] [] S M (fun r S2 M2 => WP PR (d + 1) 106 65 [vA 1, vI x1, vI x2, vI x3, vI x4, vI x5] (r.toList ++ []) S2 M2 Q)) : WP PR (d + 1) 106 47 [vA 1, vI x1, vI x2, vI x3, vI x4, vI x5] [] S M Q := by
  subst eq1
  refine WP.ca 8 65 62 (.invokevirtual 248) (0, 78, 0, 0) rfl ?_
  exact And.intro (⟨lo1 L, lf1_8 L⟩) (And.intro (⟨lo1 L, lf1_2 L⟩) (And.intro (⟨lo8 L, lf8_3 L⟩) (And.intro (inA_of (lo20 L) (ll20 L) hc) (⟨rfl, rfl, rfl, lo191 L, rfl, k⟩))))
set_option maxRecDepth 100000 in
theorem b_X8_best_65 {d : Nat} {S : mSh} {M : mMem} {Q : Option mV → mSh → mMem → Prop} {x1 x2 x3 x4 x5 : Int} (L : Lay S) (kt : M 191 5 < x2 → WP PR d 106 100 [vA 1, vI x1, vI x2, vI x3, vI x4, vI x5] [] S M Q) (kf : x2 ≤ M 191 5 → WP PR d 106 76 [vA 1, vI x1, vI x2, vI x3, vI x4, vI x5] [] S M Q) : WP PR d 106 65 [vA 1, vI x1, vI x2, vI x3, vI x4, vI x5] [] S M Q := by
  refine WP.if2 4 76 73 .lt 27 (0, 0, 0, 0) 100 rfl rfl ?_
  exact And.intro (⟨lo1 L, lf1_8 L⟩) (And.intro (lo191 L) (⟨kt, fun hc => kf (Int.not_lt.mp hc)⟩))
set_option maxRecDepth 100000 in
theorem b_X8_best_76 {d : Nat} {S : mSh} {M : mMem} {Q : Option mV → mSh → mMem → Prop} {x1 x2 x3 x4 x5 : Int} (L : Lay S) (kt : M 191 4 ≤ x4 → WP PR d 106 100 [vA 1, vI x1, vI x2, vI x3, vI x4, vI x5] [] S M Q) (kf : x4 < M 191 4 → WP PR d 106 88 [vA 1, vI x1, vI x2, vI x3, vI x4, vI x5] [] S M Q) : WP PR d 106 76 [vA 1, vI x1, vI x2, vI x3, vI x4, vI x5] [] S M Q := by
  refine WP.if2 4 88 85 .le 15 (0, 0, 0, 0) 100 rfl rfl ?_
  exact And.intro (⟨lo1 L, lf1_8 L⟩) (And.intro (lo191 L) (⟨kt, fun hc => kf (Int.not_le.mp hc)⟩))
set_option maxRecDepth 100000 in
theorem b_X8_best_88 {d : Nat} {S : mSh} {M : mMem} {Q : Option mV → mSh → mMem → Prop} {x1 x2 x3 x4 x5 : Int} (L : Lay S) (hc : R32 (x5 + 1)) (k : WP PR d 106 31 [vA 1, vI x1, vI x2, vI x5, vI (M 191 4), vI (x5 + 1)] [] S M Q) : WP PR d 106 88 [vA 1, vI x1, vI x2, vI x3, vI x4, vI x5] [] S M Q := by
  refine WP.gt 7 103 (-72) (0, 0, 0, 0) _ 31 rfl rfl ?_
  exact And.intro (⟨lo1 L, lf1_8 L⟩) (And.intro (lo191 L) (And.intro (hc) (k)))
set_option maxRecDepth 100000 in
theorem b_X8_best_100 {d : Nat} {S : mSh} {M : mMem} {Q : Option mV → mSh → mMem → Prop} {x1 x2 x3 x4 x5 : Int} (hc : R32 (x5 + 1)) (k : WP PR d 106 31 [vA 1, vI x1, vI x2, vI x3, vI x4, vI (x5 + 1)] [] S M Q) : WP PR d 106 100 [vA 1, vI x1, vI x2, vI x3, vI x4, vI x5] [] S M Q := by
  refine WP.gt 1 103 (-72) (0, 0, 0, 0) _ 31 rfl rfl ?_
  exact And.intro (hc) (k)
set_option maxRecDepth 100000 in
theorem b_X8_best_106 {d : Nat} {S : mSh} {M : mMem} {Q : Option mV → mSh → mMem → Prop} {x1 x2 x3 x4 x5 : Int} (k : Q (some (vI x3)) S M) : WP PR d 106 106 [vA 1, vI x1, vI x2, vI x3, vI x4, vI x5] [] S M Q := by
  refine WP.re 1 107 .ireturn (0, 0, 0, 0) _ rfl ?_
  exact ⟨rfl, rfl, trivial, k⟩
/-- SoleraCellar.tasted(II)I -/
abbrev e_X8_tasted (d : Nat) (a1 a2 : Int) (S : mSh) (M : mMem) (Q : Option mV → mSh → mMem → Prop) : Prop := WP PR d 107 0 [vA 1, vI a1, vI a2] [] S M Q
set_option maxRecDepth 100000 in
theorem b_X8_tasted_0 {d : Nat} {S : mSh} {M : mMem} {Q : Option mV → mSh → mMem → Prop} {x1 x2 : Int} (k : WP PR d 119 0 [vI x1, vI 0, vI 2] [] S M (fun r S2 M2 => WP PR (d + 1) 107 6 [vA 1, vI x1, vI x2] (r.toList ++ []) S2 M2 Q)) : WP PR (d + 1) 107 0 [vA 1, vI x1, vI x2] [] S M Q := by
  refine WP.ca 3 6 3 (.invokestatic 86) (0, 119, 0, 0) rfl ?_
  exact ⟨rfl, rfl, rfl, trivial, rfl, k⟩
set_option maxRecDepth 100000 in
theorem b_X8_tasted_6 {d : Nat} {S : mSh} {M : mMem} {Q : Option mV → mSh → mMem → Prop} {x1 x2 s0 : Int} (kt : s0 = 0 → WP PR d 107 20 [vA 1, vI x1, vI x2] [] S M Q) (kf : ¬ s0 = 0 → WP PR d 107 9 [vA 1, vI x1, vI x2] [] S M Q) : WP PR d 107 6 [vA 1, vI x1, vI x2] [vI s0] S M Q := by
  refine WP.if0 0 9 6 .eq 14 (0, 0, 0, 0) 20 rfl rfl ?_
  exact ⟨kt, fun hc => kf hc⟩
set_option maxRecDepth 100000 in
theorem b_X8_tasted_9 {d : Nat} {S : mSh} {M : mMem} {Q : Option mV → mSh → mMem → Prop} {x1 x2 : Int} (k : WP PR d 119 0 [vI x2, vI 0, vI 999] [] S M (fun r S2 M2 => WP PR (d + 1) 107 17 [vA 1, vI x1, vI x2] (r.toList ++ []) S2 M2 Q)) : WP PR (d + 1) 107 9 [vA 1, vI x1, vI x2] [] S M Q := by
  refine WP.ca 3 17 14 (.invokestatic 86) (0, 119, 0, 0) rfl ?_
  exact ⟨rfl, rfl, rfl, trivial, rfl, k⟩
set_option maxRecDepth 100000 in
theorem b_X8_tasted_17 {d : Nat} {S : mSh} {M : mMem} {Q : Option mV → mSh → mMem → Prop} {x1 x2 s0 : Int} (kt : ¬ s0 = 0 → WP PR d 107 26 [vA 1, vI x1, vI x2] [] S M Q) (kf : s0 = 0 → WP PR d 107 20 [vA 1, vI x1, vI x2] [] S M Q) : WP PR d 107 17 [vA 1, vI x1, vI x2] [vI s0] S M Q := by
  refine WP.if0 0 20 17 .ne 9 (0, 0, 0, 0) 26 rfl rfl ?_
  exact ⟨kt, fun hc => kf (Decidable.not_not.mp hc)⟩
set_option maxRecDepth 100000 in
theorem b_X8_tasted_20 {d : Nat} {S : mSh} {M : mMem} {Q : Option mV → mSh → mMem → Prop} {x1 x2 : Int} (L : Lay S) (k : WP PR d 123 0 [vA 1, vI (-1)] [] S M (fun r S2 M2 => WP PR (d + 1) 107 25 [vA 1, vI x1, vI x2] (r.toList ++ []) S2 M2 Q)) : WP PR (d + 1) 107 20 [vA 1, vI x1, vI x2] [] S M Q := by
  refine WP.ca 2 25 22 (.invokevirtual 90) (0, 123, 0, 0) rfl ?_
  exact ⟨rfl, rfl, rfl, lo1 L, rfl, k⟩
set_option maxRecDepth 100000 in
theorem b_X8_tasted_25 {d : Nat} {S : mSh} {M : mMem} {Q : Option mV → mSh → mMem → Prop} {x1 x2 s0 : Int} (k : Q (some (vI s0)) S M) : WP PR d 107 25 [vA 1, vI x1, vI x2] [vI s0] S M Q := by
  refine WP.re 0 25 .ireturn (0, 0, 0, 0) _ rfl ?_
  exact ⟨rfl, rfl, trivial, k⟩
set_option maxRecDepth 100000 in
theorem b_X8_tasted_26 {d : Nat} {S : mSh} {M : mMem} {Q : Option mV → mSh → mMem → Prop} {x1 x2 : Int} (L : Lay S) (kt : M 8 8 < 6 → WP PR d 107 45 [vA 1, vI x1, vI x2] [] S M Q) (kf : 6 ≤ M 8 8 → WP PR d 107 38 [vA 1, vI x1, vI x2] [] S M Q) : WP PR d 107 26 [vA 1, vI x1, vI x2] [] S M Q := by
  refine WP.if2 4 38 35 .lt 10 (0, 0, 0, 0) 45 rfl rfl ?_
  exact And.intro (⟨lo1 L, lf1_2 L⟩) (And.intro (lo8 L) (⟨kt, fun hc => kf (Int.not_lt.mp hc)⟩))
set_option maxRecDepth 100000 in
theorem b_X8_tasted_38 {d : Nat} {S : mSh} {M : mMem} {Q : Option mV → mSh → mMem → Prop} {x1 x2 : Int} (L : Lay S) (k : WP PR d 123 0 [vA 1, vI (-5)] [] S M (fun r S2 M2 => WP PR (d + 1) 107 44 [vA 1, vI x1, vI x2] (r.toList ++ []) S2 M2 Q)) : WP PR (d + 1) 107 38 [vA 1, vI x1, vI x2] [] S M Q := by
  refine WP.ca 2 44 41 (.invokevirtual 90) (0, 123, 0, 0) rfl ?_
  exact ⟨rfl, rfl, rfl, lo1 L, rfl, k⟩
set_option maxRecDepth 100000 in
theorem b_X8_tasted_44 {d : Nat} {S : mSh} {M : mMem} {Q : Option mV → mSh → mMem → Prop} {x1 x2 s0 : Int} (k : Q (some (vI s0)) S M) : WP PR d 107 44 [vA 1, vI x1, vI x2] [vI s0] S M Q := by
  refine WP.re 0 44 .ireturn (0, 0, 0, 0) _ rfl ?_
  exact ⟨rfl, rfl, trivial, k⟩
set_option maxRecDepth 100000 in
theorem b_X8_tasted_45 {d : Nat} {S : mSh} {M : mMem} {Q : Option mV → mSh → mMem → Prop} {x1 x2 : Int} (L : Lay S) (hc : (0 ≤ M 8 8 ∧ M 8 8 < 6) ∧ R32 ((M 8 8) + 1)) (k : WP PR d 122 0 [vA 1, vI ((M 8 8) + 1)] [] S (up (up (up M 21 (M 8 8) x1) 22 (M 8 8) x2) 8 8 ((M 8 8) + 1)) (fun r S2 M2 => WP PR (d + 1) 107 101 [vA 1, vI x1, vI x2] (r.toList ++ []) S2 M2 Q)) : WP PR (d + 1) 107 45 [vA 1, vI x1, vI x2] [] S M Q := by
  refine WP.ca 27 101 98 (.invokevirtual 107) (0, 122, 0, 0) rfl ?_
  exact And.intro (⟨lo1 L, lf1_2 L⟩) (And.intro (⟨lo8 L, lf8_4 L⟩) (And.intro (⟨lo1 L, lf1_2 L⟩) (And.intro (lo8 L) (And.intro (inA_of (lo21 L) (ll21 L) hc.1) (And.intro (⟨lo1 L, lf1_2 L⟩) (And.intro (⟨lo8 L, lf8_5 L⟩) (And.intro (⟨lo1 L, lf1_2 L⟩) (And.intro (lo8 L) (And.intro (inA_of (lo22 L) (ll22 L) hc.1) (And.intro (⟨lo1 L, lf1_2 L⟩) (And.intro (lo8 L) (And.intro (hc.2) (And.intro (lo8 L) (And.intro (⟨lo1 L, lf1_2 L⟩) (And.intro (lo8 L) (⟨rfl, rfl, rfl, lo1 L, rfl, k⟩))))))))))))))))
set_option maxRecDepth 100000 in
theorem b_X8_tasted_101 {d : Nat} {S : mSh} {M : mMem} {Q : Option mV → mSh → mMem → Prop} {x1 x2 s0 : Int} (k : Q (some (vI s0)) S M) : WP PR d 107 101 [vA 1, vI x1, vI x2] [vI s0] S M Q := by
  refine WP.re 0 101 .ireturn (0, 0, 0, 0) _ rfl ?_
  exact ⟨rfl, rfl, trivial, k⟩
/-- SoleraCellar.forget()I -/
abbrev e_X8_forget (d : Nat) (S : mSh) (M : mMem) (Q : Option mV → mSh → mMem → Prop) : Prop := WP PR d 108 0 [vA 1, vU] [] S M Q
set_option maxRecDepth 100000 in
theorem b_X8_forget_0 {d : Nat} {S : mSh} {M : mMem} {Q : Option mV → mSh → mMem → Prop} (L : Lay S) (k : Q (some (vI (M 8 8))) S (up M 8 8 0)) : WP PR d 108 0 [vA 1, vU] [] S M Q := by
  refine WP.re 9 17 .ireturn (0, 0, 0, 0) _ rfl ?_
  exact And.intro (⟨lo1 L, lf1_2 L⟩) (And.intro (lo8 L) (And.intro (⟨lo1 L, lf1_2 L⟩) (And.intro (lo8 L) (⟨rfl, rfl, trivial, k⟩))))
/-- SoleraCellar.canBe()I -/
abbrev e_X8_canBe (d : Nat) (S : mSh) (M : mMem) (Q : Option mV → mSh → mMem → Prop) : Prop := WP PR d 109 0 [vA 1, vU, vU] [] S M Q
set_option maxRecDepth 100000 in
theorem b_X8_canBe_0 {d : Nat} {S : mSh} {M : mMem} {Q : Option mV → mSh → mMem → Prop} (k : WP PR d 109 4 [vA 1, vI 0, vI 0] [] S M Q) : WP PR d 109 0 [vA 1, vU, vU] [] S M Q := by
  refine WP.bl 4 4 rfl ?_
  exact k
set_option maxRecDepth 100000 in
theorem b_X8_canBe_4 {d : Nat} {S : mSh} {M : mMem} {Q : Option mV → mSh → mMem → Prop} {x1 x2 : Int} (L : Lay S) (kt : M 9 6 ≤ x2 → WP PR d 109 38 [vA 1, vI x1, vI x2] [] S M Q) (kf : x2 < M 9 6 → WP PR d 109 18 [vA 1, vI x1, vI x2] [] S M Q) : WP PR d 109 4 [vA 1, vI x1, vI x2] [] S M Q := by
  refine WP.if2 5 18 15 .ge 23 (0, 0, 0, 0) 38 rfl rfl ?_
  exact And.intro (⟨lo1 L, lf1_2 L⟩) (And.intro (⟨lo8 L, lf8_0 L⟩) (And.intro (lo9 L) (⟨kt, fun hc => kf (Int.not_le.mp hc)⟩)))
set_option maxRecDepth 100000 in
theorem b_X8_canBe_18 {d : Nat} {S : mSh} {M : mMem} {Q : Option mV → mSh → mMem → Prop} {x1 x2 : Int} (L : Lay S) (k : WP PR d 128 0 [vA 1, vI x2, vU] [] S M (fun r S2 M2 => WP PR (d + 1) 109 23 [vA 1, vI x1, vI x2] (r.toList ++ []) S2 M2 Q)) : WP PR (d + 1) 109 18 [vA 1, vI x1, vI x2] [] S M Q := by
  refine WP.ca 2 23 20 (.invokevirtual 271) (0, 128, 0, 0) rfl ?_
  exact ⟨rfl, rfl, rfl, lo1 L, rfl, k⟩
set_option maxRecDepth 100000 in
theorem b_X8_canBe_23 {d : Nat} {S : mSh} {M : mMem} {Q : Option mV → mSh → mMem → Prop} {x1 x2 s0 : Int} (kt : s0 = 0 → WP PR d 109 32 [vA 1, vI x1, vI x2] [] S M Q) (kf : ¬ s0 = 0 → WP PR d 109 26 [vA 1, vI x1, vI x2] [] S M Q) : WP PR d 109 23 [vA 1, vI x1, vI x2] [vI s0] S M Q := by
  refine WP.if0 0 26 23 .eq 9 (0, 0, 0, 0) 32 rfl rfl ?_
  exact ⟨kt, fun hc => kf hc⟩
set_option maxRecDepth 100000 in
theorem b_X8_canBe_26 {d : Nat} {S : mSh} {M : mMem} {Q : Option mV → mSh → mMem → Prop} {x1 x2 : Int} (hc : R32 (x2 + 1)) (k : WP PR d 109 4 [vA 1, vI (bor x1 (bshl 1 x2)), vI (x2 + 1)] [] S M Q) : WP PR d 109 26 [vA 1, vI x1, vI x2] [] S M Q := by
  refine WP.gt 7 35 (-31) (0, 0, 0, 0) _ 4 rfl rfl ?_
  exact And.intro (hc) (k)
set_option maxRecDepth 100000 in
theorem b_X8_canBe_32 {d : Nat} {S : mSh} {M : mMem} {Q : Option mV → mSh → mMem → Prop} {x1 x2 : Int} (hc : R32 (x2 + 1)) (k : WP PR d 109 4 [vA 1, vI x1, vI (x2 + 1)] [] S M Q) : WP PR d 109 32 [vA 1, vI x1, vI x2] [] S M Q := by
  refine WP.gt 1 35 (-31) (0, 0, 0, 0) _ 4 rfl rfl ?_
  exact And.intro (hc) (k)
set_option maxRecDepth 100000 in
theorem b_X8_canBe_38 {d : Nat} {S : mSh} {M : mMem} {Q : Option mV → mSh → mMem → Prop} {x1 x2 : Int} (k : Q (some (vI x1)) S M) : WP PR d 109 38 [vA 1, vI x1, vI x2] [] S M Q := by
  refine WP.re 1 39 .ireturn (0, 0, 0, 0) _ rfl ?_
  exact ⟨rfl, rfl, trivial, k⟩
/-- SoleraCellar.taste(I)I -/
abbrev e_X8_taste (d : Nat) (a1 : Int) (S : mSh) (M : mMem) (Q : Option mV → mSh → mMem → Prop) : Prop := WP PR d 110 0 [vA 1, vI a1, vU, vU, vU, vU, vU] [] S M Q
set_option maxRecDepth 100000 in
theorem b_X8_taste_0 {d : Nat} {S : mSh} {M : mMem} {Q : Option mV → mSh → mMem → Prop} {x1 : Int} (L : Lay S) (k : WP PR d 109 0 [vA 1, vU, vU] [] S M (fun r S2 M2 => WP PR (d + 1) 110 4 [vA 1, vI x1, vU, vU, vU, vU, vU] (r.toList ++ []) S2 M2 Q)) : WP PR (d + 1) 110 0 [vA 1, vI x1, vU, vU, vU, vU, vU] [] S M Q := by
  refine WP.ca 1 4 1 (.invokevirtual 274) (0, 109, 0, 0) rfl ?_
  exact ⟨rfl, rfl, rfl, lo1 L, rfl, k⟩
set_option maxRecDepth 100000 in
theorem b_X8_taste_4 {d : Nat} {S : mSh} {M : mMem} {Q : Option mV → mSh → mMem → Prop} {x1 s0 : Int} {u2 u3 u4 u5 u6 : mV} (kt : s0 = 0 → WP PR d 110 18 [vA 1, vI x1, vI s0, u3, u4, u5, u6] [] S M Q) (kf : ¬ s0 = 0 → WP PR d 110 9 [vA 1, vI x1, vI s0, u3, u4, u5, u6] [] S M Q) : WP PR d 110 4 [vA 1, vI x1, u2, u3, u4, u5, u6] [vI s0] S M Q := by
  refine WP.if0 2 9 6 .eq 12 (0, 0, 0, 0) 18 rfl rfl ?_
  exact ⟨kt, fun hc => kf hc⟩
set_option maxRecDepth 100000 in
theorem b_X8_taste_9 {d : Nat} {S : mSh} {M : mMem} {Q : Option mV → mSh → mMem → Prop} {x1 x2 : Int} {u3 u4 u5 u6 : mV} (k : WP PR d 119 0 [vI x1, vI 0, vI 1] [] S M (fun r S2 M2 => WP PR (d + 1) 110 15 [vA 1, vI x1, vI x2, u3, u4, u5, u6] (r.toList ++ []) S2 M2 Q)) : WP PR (d + 1) 110 9 [vA 1, vI x1, vI x2, u3, u4, u5, u6] [] S M Q := by
  refine WP.ca 3 15 12 (.invokestatic 86) (0, 119, 0, 0) rfl ?_
  exact ⟨rfl, rfl, rfl, trivial, rfl, k⟩
set_option maxRecDepth 100000 in
theorem b_X8_taste_15 {d : Nat} {S : mSh} {M : mMem} {Q : Option mV → mSh → mMem → Prop} {x1 x2 s0 : Int} {u3 u4 u5 u6 : mV} (kt : ¬ s0 = 0 → WP PR d 110 20 [vA 1, vI x1, vI x2, u3, u4, u5, u6] [] S M Q) (kf : s0 = 0 → WP PR d 110 18 [vA 1, vI x1, vI x2, u3, u4, u5, u6] [] S M Q) : WP PR d 110 15 [vA 1, vI x1, vI x2, u3, u4, u5, u6] [vI s0] S M Q := by
  refine WP.if0 0 18 15 .ne 5 (0, 0, 0, 0) 20 rfl rfl ?_
  exact ⟨kt, fun hc => kf (Decidable.not_not.mp hc)⟩
set_option maxRecDepth 100000 in
theorem b_X8_taste_18 {d : Nat} {S : mSh} {M : mMem} {Q : Option mV → mSh → mMem → Prop} {x1 x2 : Int} {u3 u4 u5 u6 : mV} (k : Q (some (vI (-1))) S M) : WP PR d 110 18 [vA 1, vI x1, vI x2, u3, u4, u5, u6] [] S M Q := by
  refine WP.re 1 19 .ireturn (0, 0, 0, 0) _ rfl ?_
  exact ⟨rfl, rfl, trivial, k⟩
set_option maxRecDepth 100000 in
theorem b_X8_taste_20 {d : Nat} {S : mSh} {M : mMem} {Q : Option mV → mSh → mMem → Prop} {x1 x2 : Int} {u3 u4 u5 u6 : mV} (L : Lay S) (k : WP PR d 130 0 [vA 1, vI 0, vI x2, vU, vU, vU, vU, vU] [] S M (fun r S2 M2 => WP PR (d + 1) 110 28 [vA 1, vI x1, vI x2, vI 0, u4, u5, u6] (r.toList ++ []) S2 M2 Q)) : WP PR (d + 1) 110 20 [vA 1, vI x1, vI x2, u3, u4, u5, u6] [] S M Q := by
  refine WP.ca 5 28 25 (.invokevirtual 277) (0, 130, 0, 0) rfl ?_
  exact ⟨rfl, rfl, rfl, lo1 L, rfl, k⟩
set_option maxRecDepth 100000 in
theorem b_X8_taste_28 {d : Nat} {S : mSh} {M : mMem} {Q : Option mV → mSh → mMem → Prop} {x1 x2 x3 s0 : Int} {u4 u5 u6 : mV} (k : WP PR d 110 33 [vA 1, vI x1, vI x2, vI x3, vI s0, vI 1, u6] [] S M Q) : WP PR d 110 28 [vA 1, vI x1, vI x2, vI x3, u4, u5, u6] [vI s0] S M Q := by
  refine WP.bl 3 33 rfl ?_
  exact k
set_option maxRecDepth 100000 in
theorem b_X8_taste_33 {d : Nat} {S : mSh} {M : mMem} {Q : Option mV → mSh → mMem → Prop} {x1 x2 x3 x4 x5 : Int} {u6 : mV} (kt : 3 ≤ x5 → WP PR d 110 68 [vA 1, vI x1, vI x2, vI x3, vI x4, vI x5, u6] [] S M Q) (kf : x5 < 3 → WP PR d 110 39 [vA 1, vI x1, vI x2, vI x3, vI x4, vI x5, u6] [] S M Q) : WP PR d 110 33 [vA 1, vI x1, vI x2, vI x3, vI x4, vI x5, u6] [] S M Q := by
  refine WP.if2 2 39 36 .ge 32 (0, 0, 0, 0) 68 rfl rfl ?_
  exact ⟨kt, fun hc => kf (Int.not_le.mp hc)⟩
set_option maxRecDepth 100000 in
theorem b_X8_taste_39 {d : Nat} {S : mSh} {M : mMem} {Q : Option mV → mSh → mMem → Prop} {x1 x2 x3 x4 x5 : Int} {u6 : mV} (L : Lay S) (k : WP PR d 130 0 [vA 1, vI x5, vI x2, vU, vU, vU, vU, vU] [] S M (fun r S2 M2 => WP PR (d + 1) 110 46 [vA 1, vI x1, vI x2, vI x3, vI x4, vI x5, u6] (r.toList ++ []) S2 M2 Q)) : WP PR (d + 1) 110 39 [vA 1, vI x1, vI x2, vI x3, vI x4, vI x5, u6] [] S M Q := by
  refine WP.ca 3 46 43 (.invokevirtual 277) (0, 130, 0, 0) rfl ?_
  exact ⟨rfl, rfl, rfl, lo1 L, rfl, k⟩
set_option maxRecDepth 100000 in
theorem b_X8_taste_46 {d : Nat} {S : mSh} {M : mMem} {Q : Option mV → mSh → mMem → Prop} {x1 x2 x3 x4 x5 s0 : Int} {u6 : mV} (kt : x4 ≤ s0 → WP PR d 110 62 [vA 1, vI x1, vI x2, vI x3, vI x4, vI x5, vI s0] [] S M Q) (kf : s0 < x4 → WP PR d 110 55 [vA 1, vI x1, vI x2, vI x3, vI x4, vI x5, vI s0] [] S M Q) : WP PR d 110 46 [vA 1, vI x1, vI x2, vI x3, vI x4, vI x5, u6] [vI s0] S M Q := by
  refine WP.if2 3 55 52 .ge 10 (0, 0, 0, 0) 62 rfl rfl ?_
  exact ⟨kt, fun hc => kf (Int.not_le.mp hc)⟩
set_option maxRecDepth 100000 in
theorem b_X8_taste_55 {d : Nat} {S : mSh} {M : mMem} {Q : Option mV → mSh → mMem → Prop} {x1 x2 x3 x4 x5 x6 : Int} (hc : R32 (x5 + 1)) (k : WP PR d 110 33 [vA 1, vI x1, vI x2, vI x5, vI x6, vI (x5 + 1), vI x6] [] S M Q) : WP PR d 110 55 [vA 1, vI x1, vI x2, vI x3, vI x4, vI x5, vI x6] [] S M Q := by
  refine WP.gt 5 65 (-32) (0, 0, 0, 0) _ 33 rfl rfl ?_
  exact And.intro (hc) (k)
set_option maxRecDepth 100000 in
theorem b_X8_taste_62 {d : Nat} {S : mSh} {M : mMem} {Q : Option mV → mSh → mMem → Prop} {x1 x2 x3 x4 x5 x6 : Int} (hc : R32 (x5 + 1)) (k : WP PR d 110 33 [vA 1, vI x1, vI x2, vI x3, vI x4, vI (x5 + 1), vI x6] [] S M Q) : WP PR d 110 62 [vA 1, vI x1, vI x2, vI x3, vI x4, vI x5, vI x6] [] S M Q := by
  refine WP.gt 1 65 (-32) (0, 0, 0, 0) _ 33 rfl rfl ?_
  exact And.intro (hc) (k)
set_option maxRecDepth 100000 in
theorem b_X8_taste_68 {d : Nat} {S : mSh} {M : mMem} {Q : Option mV → mSh → mMem → Prop} {x1 x2 x3 x4 x5 : Int} {u6 : mV} (kt : ¬ x1 = 0 → WP PR d 110 76 [vA 1, vI x1, vI x2, vI x3, vI x4, vI x5, u6] [] S M Q) (kf : x1 = 0 → WP PR d 110 72 [vA 1, vI x1, vI x2, vI x3, vI x4, vI x5, u6] [] S M Q) : WP PR d 110 68 [vA 1, vI x1, vI x2, vI x3, vI x4, vI x5, u6] [] S M Q := by
  refine WP.if0 1 72 69 .ne 7 (0, 0, 0, 0) 76 rfl rfl ?_
  exact ⟨kt, fun hc => kf (Decidable.not_not.mp hc)⟩
set_option maxRecDepth 100000 in
theorem b_X8_taste_72 {d : Nat} {S : mSh} {M : mMem} {Q : Option mV → mSh → mMem → Prop} {x1 x2 x3 x4 x5 : Int} {u6 : mV} (k : Q (some (vI x3)) S M) : WP PR d 110 72 [vA 1, vI x1, vI x2, vI x3, vI x4, vI x5, u6] [] S M Q := by
  refine WP.gt 1 73 5 (0, 0, 0, 0) _ 78 rfl rfl ?_
  show WP PR d 110 78 [vA 1, vI x1, vI x2, vI x3, vI x4, vI x5, u6] [vI x3] S M Q
  refine WP.re 0 78 .ireturn (0, 0, 0, 0) _ rfl ?_
  exact ⟨rfl, rfl, trivial, k⟩
set_option maxRecDepth 100000 in
theorem b_X8_taste_76 {d : Nat} {S : mSh} {M : mMem} {Q : Option mV → mSh → mMem → Prop} {x1 x2 x3 x4 x5 : Int} {u6 : mV} (k : Q (some (vI x4)) S M) : WP PR d 110 76 [vA 1, vI x1, vI x2, vI x3, vI x4, vI x5, u6] [] S M Q := by
  refine WP.re 1 78 .ireturn (0, 0, 0, 0) _ rfl ?_
  exact ⟨rfl, rfl, trivial, k⟩
/-- SoleraCellar.few(II)J -/
abbrev e_X8_few (d : Nat) (a1 a2 : Int) (S : mSh) (M : mMem) (Q : Option mV → mSh → mMem → Prop) : Prop := WP PR d 111 0 [vA 1, vI a1, vI a2, vU, vU, vU, vU, vU] [] S M Q
set_option maxRecDepth 100000 in
theorem b_X8_few_0 {d : Nat} {S : mSh} {M : mMem} {Q : Option mV → mSh → mMem → Prop} {x1 x2 : Int} (k : WP PR d 119 0 [vI x1, vI 1, vI 20] [] S M (fun r S2 M2 => WP PR (d + 1) 111 7 [vA 1, vI x1, vI x2, vU, vU, vU, vU, vU] (r.toList ++ []) S2 M2 Q)) : WP PR (d + 1) 111 0 [vA 1, vI x1, vI x2, vU, vU, vU, vU, vU] [] S M Q := by
  refine WP.ca 3 7 4 (.invokestatic 86) (0, 119, 0, 0) rfl ?_
  exact ⟨rfl, rfl, rfl, trivial, rfl, k⟩
set_option maxRecDepth 100000 in
theorem b_X8_few_7 {d : Nat} {S : mSh} {M : mMem} {Q : Option mV → mSh → mMem → Prop} {x1 x2 s0 : Int} {u3 u4 u5 u6 u7 : mV} (kt : s0 = 0 → WP PR d 111 20 [vA 1, vI x1, vI x2, u3, u4, u5, u6, u7] [] S M Q) (kf : ¬ s0 = 0 → WP PR d 111 10 [vA 1, vI x1, vI x2, u3, u4, u5, u6, u7] [] S M Q) : WP PR d 111 7 [vA 1, vI x1, vI x2, u3, u4, u5, u6, u7] [vI s0] S M Q := by
  refine WP.if0 0 10 7 .eq 13 (0, 0, 0, 0) 20 rfl rfl ?_
  exact ⟨kt, fun hc => kf hc⟩
set_option maxRecDepth 100000 in
theorem b_X8_few_10 {d : Nat} {S : mSh} {M : mMem} {Q : Option mV → mSh → mMem → Prop} {x1 x2 : Int} {u3 u4 u5 u6 u7 : mV} (k : WP PR d 119 0 [vI x2, vI 0, vI 99] [] S M (fun r S2 M2 => WP PR (d + 1) 111 17 [vA 1, vI x1, vI x2, u3, u4, u5, u6, u7] (r.toList ++ []) S2 M2 Q)) : WP PR (d + 1) 111 10 [vA 1, vI x1, vI x2, u3, u4, u5, u6, u7] [] S M Q := by
  refine WP.ca 3 17 14 (.invokestatic 86) (0, 119, 0, 0) rfl ?_
  exact ⟨rfl, rfl, rfl, trivial, rfl, k⟩
set_option maxRecDepth 100000 in
theorem b_X8_few_17 {d : Nat} {S : mSh} {M : mMem} {Q : Option mV → mSh → mMem → Prop} {x1 x2 s0 : Int} {u3 u4 u5 u6 u7 : mV} (kt : ¬ s0 = 0 → WP PR d 111 24 [vA 1, vI x1, vI x2, u3, u4, u5, u6, u7] [] S M Q) (kf : s0 = 0 → WP PR d 111 20 [vA 1, vI x1, vI x2, u3, u4, u5, u6, u7] [] S M Q) : WP PR d 111 17 [vA 1, vI x1, vI x2, u3, u4, u5, u6, u7] [vI s0] S M Q := by
  refine WP.if0 0 20 17 .ne 7 (0, 0, 0, 0) 24 rfl rfl ?_
  exact ⟨kt, fun hc => kf (Decidable.not_not.mp hc)⟩
set_option maxRecDepth 100000 in
theorem b_X8_few_20 {d : Nat} {S : mSh} {M : mMem} {Q : Option mV → mSh → mMem → Prop} {x1 x2 : Int} {u3 u4 u5 u6 u7 : mV} (k : Q (some (vL (-1))) S M) : WP PR d 111 20 [vA 1, vI x1, vI x2, u3, u4, u5, u6, u7] [] S M Q := by
  refine WP.re 1 23 .lreturn (0, 0, 0, 0) _ rfl ?_
  exact ⟨rfl, rfl, trivial, k⟩
set_option maxRecDepth 100000 in
theorem b_X8_few_24 {d : Nat} {S : mSh} {M : mMem} {Q : Option mV → mSh → mMem → Prop} {x1 x2 : Int} {u3 u4 u5 u6 u7 : mV} (k : WP PR d 111 26 [vA 1, vI x1, vI x2, vI 0, u4, u5, u6, u7] [] S M Q) : WP PR d 111 24 [vA 1, vI x1, vI x2, u3, u4, u5, u6, u7] [] S M Q := by
  refine WP.bl 2 26 rfl ?_
  exact k
set_option maxRecDepth 100000 in
theorem b_X8_few_26 {d : Nat} {S : mSh} {M : mMem} {Q : Option mV → mSh → mMem → Prop} {x1 x2 x3 : Int} {u4 u5 u6 u7 : mV} (kt : 20 ≤ x3 → WP PR d 111 55 [vA 1, vI x1, vI x2, vI x3, u4, u5, u6, u7] [] S M Q) (kf : x3 < 20 → WP PR d 111 32 [vA 1, vI x1, vI x2, vI x3, u4, u5, u6, u7] [] S M Q) : WP PR d 111 26 [vA 1, vI x1, vI x2, vI x3, u4, u5, u6, u7] [] S M Q := by
  refine WP.if2 2 32 29 .ge 26 (0, 0, 0, 0) 55 rfl rfl ?_
  exact ⟨kt, fun hc => kf (Int.not_le.mp hc)⟩
set_option maxRecDepth 100000 in
theorem b_X8_few_32 {d : Nat} {S : mSh} {M : mMem} {Q : Option mV → mSh → mMem → Prop} {x1 x2 x3 : Int} {u4 u5 u6 u7 : mV} (L : Lay S) (kt : ¬ x3 = 0 → WP PR d 111 47 [vA 1, vI x1, vI x2, vI x3, u4, u5, u6, u7] [vI x3, vA 198] S M Q) (kf : x3 = 0 → WP PR d 111 41 [vA 1, vI x1, vI x2, vI x3, u4, u5, u6, u7] [vI x3, vA 198] S M Q) : WP PR d 111 32 [vA 1, vI x1, vI x2, vI x3, u4, u5, u6, u7] [] S M Q := by
  refine WP.if0 4 41 38 .ne 9 (0, 0, 0, 0) 47 rfl rfl ?_
  exact And.intro (⟨lo1 L, lf1_9 L⟩) (⟨kt, fun hc => kf (Decidable.not_not.mp hc)⟩)
set_option maxRecDepth 100000 in
theorem b_X8_few_41 {d : Nat} {S : mSh} {M : mMem} {Q : Option mV → mSh → mMem → Prop} {x1 x2 x3 s0 s1 : Int} {u4 u5 u6 u7 : mV} (ho1 : isO S s0 21) (hc : (0 ≤ s1 ∧ s1 < sL S s0) ∧ R32 (x3 + 1)) (k : WP PR d 111 26 [vA 1, vI x1, vI x2, vI (x3 + 1), u4, u5, u6, u7] [] S (up M s0 s1 1000000000000) Q) : WP PR d 111 41 [vA 1, vI x1, vI x2, vI x3, u4, u5, u6, u7] [vI s1, vA s0] S M Q := by
  refine WP.gt 1 44 4 (0, 0, 0, 0) _ 48 rfl rfl ?_
  show WP PR d 111 48 [vA 1, vI x1, vI x2, vI x3, u4, u5, u6, u7] [vL 1000000000000, vI s1, vA s0] S M Q
  refine WP.gt 2 52 (-26) (0, 0, 0, 0) _ 26 rfl rfl ?_
  exact And.intro (inA_of (ho1) (rfl) hc.1) (And.intro (hc.2) (k))
set_option maxRecDepth 100000 in
theorem b_X8_few_47 {d : Nat} {S : mSh} {M : mMem} {Q : Option mV → mSh → mMem → Prop} {x1 x2 x3 s0 s1 : Int} {u4 u5 u6 u7 : mV} (ho1 : isO S s0 21) (hc : (0 ≤ s1 ∧ s1 < sL S s0) ∧ R32 (x3 + 1)) (k : WP PR d 111 26 [vA 1, vI x1, vI x2, vI (x3 + 1), u4, u5, u6, u7] [] S (up M s0 s1 0) Q) : WP PR d 111 47 [vA 1, vI x1, vI x2, vI x3, u4, u5, u6, u7] [vI s1, vA s0] S M Q := by
  refine WP.gt 3 52 (-26) (0, 0, 0, 0) _ 26 rfl rfl ?_
  exact And.intro (inA_of (ho1) (rfl) hc.1) (And.intro (hc.2) (k))
set_option maxRecDepth 100000 in
theorem b_X8_few_55 {d : Nat} {S : mSh} {M : mMem} {Q : Option mV → mSh → mMem → Prop} {x1 x2 x3 : Int} {u4 u5 u6 u7 : mV} (L : Lay S) (k : WP PR d 111 71 [vA 1, vI x1, vI x2, vI (M 15 1), vI 0, u5, u6, u7] [] S M Q) : WP PR d 111 55 [vA 1, vI x1, vI x2, vI x3, u4, u5, u6, u7] [] S M Q := by
  refine WP.bl 9 71 rfl ?_
  exact And.intro (⟨lo1 L, lf1_2 L⟩) (And.intro (⟨lo8 L, lf8_0 L⟩) (And.intro (⟨lo9 L, lf9_5 L⟩) (And.intro (inA_of (lo15 L) (ll15 L) (by decide)) (k))))
set_option maxRecDepth 100000 in
theorem b_X8_few_71 {d : Nat} {S : mSh} {M : mMem} {Q : Option mV → mSh → mMem → Prop} {x1 x2 x3 x4 : Int} {u5 u6 u7 : mV} (kt : x2 ≤ x4 → WP PR d 111 153 [vA 1, vI x1, vI x2, vI x3, vI x4, u5, u6, u7] [] S M Q) (kf : x4 < x2 → WP PR d 111 77 [vA 1, vI x1, vI x2, vI x3, vI x4, u5, u6, u7] [] S M Q) : WP PR d 111 71 [vA 1, vI x1, vI x2, vI x3, vI x4, u5, u6, u7] [] S M Q := by
  refine WP.if2 2 77 74 .ge 79 (0, 0, 0, 0) 153 rfl rfl ?_
  exact ⟨kt, fun hc => kf (Int.not_le.mp hc)⟩
set_option maxRecDepth 100000 in
theorem b_X8_few_77 {d : Nat} {S : mSh} {M : mMem} {Q : Option mV → mSh → mMem → Prop} {x1 x2 x3 x4 : Int} {u5 u6 u7 : mV} (hc : R32 (x1 - 1)) (k : WP PR d 111 82 [vA 1, vI x1, vI x2, vI x3, vI x4, vI (x1 - 1), u6, u7] [] S M Q) : WP PR d 111 77 [vA 1, vI x1, vI x2, vI x3, vI x4, u5, u6, u7] [] S M Q := by
  refine WP.bl 4 82 rfl ?_
  exact And.intro (hc) (k)
set_option maxRecDepth 100000 in
theorem b_X8_few_82 {d : Nat} {S : mSh} {M : mMem} {Q : Option mV → mSh → mMem → Prop} {x1 x2 x3 x4 x5 : Int} {u6 u7 : mV} (kt : x5 < 0 → WP PR d 111 147 [vA 1, vI x1, vI x2, vI x3, vI x4, vI x5, u6, u7] [] S M Q) (kf : 0 ≤ x5 → WP PR d 111 87 [vA 1, vI x1, vI x2, vI x3, vI x4, vI x5, u6, u7] [] S M Q) : WP PR d 111 82 [vA 1, vI x1, vI x2, vI x3, vI x4, vI x5, u6, u7] [] S M Q := by
  refine WP.if0 1 87 84 .lt 63 (0, 0, 0, 0) 147 rfl rfl ?_
  exact ⟨kt, fun hc => kf (Int.not_lt.mp hc)⟩
set_option maxRecDepth 100000 in
theorem b_X8_few_87 {d : Nat} {S : mSh} {M : mMem} {Q : Option mV → mSh → mMem → Prop} {x1 x2 x3 x4 x5 : Int} {u6 u7 : mV} (kt : x5 ≤ 0 → WP PR d 111 111 [vA 1, vI x1, vI x2, vI x3, vI x4, vI x5, u6, u7] [] S M Q) (kf : 0 < x5 → WP PR d 111 92 [vA 1, vI x1, vI x2, vI x3, vI x4, vI x5, u6, u7] [] S M Q) : WP PR d 111 87 [vA 1, vI x1, vI x2, vI x3, vI x4, vI x5, u6, u7] [] S M Q := by
  refine WP.if0 1 92 89 .le 22 (0, 0, 0, 0) 111 rfl rfl ?_
  exact ⟨kt, fun hc => kf (Int.not_le.mp hc)⟩
set_option maxRecDepth 100000 in
theorem b_X8_few_92 {d : Nat} {S : mSh} {M : mMem} {Q : Option mV → mSh → mMem → Prop} {x1 x2 x3 x4 x5 : Int} {u6 u7 : mV} (L : Lay S) (hc : R32 (x5 - 1) ∧ (0 ≤ x5 - 1 ∧ x5 - 1 < 20) ∧ R64 ((M 198 (x5 - 1)) * x3) ∧ R64 (((M 198 (x5 - 1)) * x3).tdiv 10) ∧ (0 ≤ x5 ∧ x5 < 20) ∧ R32 (10 - x3) ∧ R64 ((M 198 x5) * (10 - x3)) ∧ R64 (((M 198 x5) * (10 - x3)).tdiv 10) ∧ R64 ((((M 198 x5) * (10 - x3)).tdiv 10) + (((M 198 (x5 - 1)) * x3).tdiv 10)) ∧ R32 (x5 + (-1))) (k : WP PR d 111 82 [vA 1, vI x1, vI x2, vI x3, vI x4, vI (x5 + (-1)), vL (((M 198 (x5 - 1)) * x3).tdiv 10), vU] [] S (up M 198 x5 ((((M 198 x5) * (10 - x3)).tdiv 10) + (((M 198 (x5 - 1)) * x3).tdiv 10))) Q) : WP PR d 111 92 [vA 1, vI x1, vI x2, vI x3, vI x4, vI x5, u6, u7] [] S M Q := by
  refine WP.gt 11 108 4 (0, 0, 0, 0) _ 112 rfl rfl ?_
  refine And.intro (⟨lo1 L, lf1_9 L⟩) (And.intro (hc.1) (And.intro (inA_of (lo198 L) (ll198 L) hc.2.1) (And.intro (hc.2.2.1) (And.intro (⟨by decide, hc.2.2.2.1⟩) (?_)))))
  show WP PR d 111 112 [vA 1, vI x1, vI x2, vI x3, vI x4, vI x5, u6, u7] [vL (((M 198 (x5 - 1)) * x3).tdiv 10)] S M Q
  refine WP.gt 19 144 (-62) (0, 0, 0, 0) _ 82 rfl rfl ?_
  exact And.intro (⟨lo1 L, lf1_9 L⟩) (And.intro (⟨lo1 L, lf1_9 L⟩) (And.intro (inA_of (lo198 L) (ll198 L) hc.2.2.2.2.1) (And.intro (hc.2.2.2.2.2.1) (And.intro (hc.2.2.2.2.2.2.1) (And.intro (⟨by decide, hc.2.2.2.2.2.2.2.1⟩) (And.intro (hc.2.2.2.2.2.2.2.2.1) (And.intro (inA_of (lo198 L) (ll198 L) hc.2.2.2.2.1) (And.intro (hc.2.2.2.2.2.2.2.2.2) (k)))))))))
set_option maxRecDepth 100000 in
theorem b_X8_few_111 {d : Nat} {S : mSh} {M : mMem} {Q : Option mV → mSh → mMem → Prop} {x1 x2 x3 x4 x5 : Int} {u6 u7 : mV} (L : Lay S) (hc : (0 ≤ x5 ∧ x5 < 20) ∧ R32 (10 - x3) ∧ R64 ((M 198 x5) * (10 - x3)) ∧ R64 (((M 198 x5) * (10 - x3)).tdiv 10) ∧ R64 ((((M 198 x5) * (10 - x3)).tdiv 10) + 0) ∧ R32 (x5 + (-1))) (k : WP PR d 111 82 [vA 1, vI x1, vI x2, vI x3, vI x4, vI (x5 + (-1)), vL 0, vU] [] S (up M 198 x5 ((((M 198 x5) * (10 - x3)).tdiv 10) + 0)) Q) : WP PR d 111 111 [vA 1, vI x1, vI x2, vI x3, vI x4, vI x5, u6, u7] [] S M Q := by
  refine WP.gt 20 144 (-62) (0, 0, 0, 0) _ 82 rfl rfl ?_
  exact And.intro (⟨lo1 L, lf1_9 L⟩) (And.intro (⟨lo1 L, lf1_9 L⟩) (And.intro (inA_of (lo198 L) (ll198 L) hc.1) (And.intro (hc.2.1) (And.intro (hc.2.2.1) (And.intro (⟨by decide, hc.2.2.2.1⟩) (And.intro (hc.2.2.2.2.1) (And.intro (inA_of (lo198 L) (ll198 L) hc.1) (And.intro (hc.2.2.2.2.2) (k)))))))))
set_option maxRecDepth 100000 in
theorem b_X8_few_147 {d : Nat} {S : mSh} {M : mMem} {Q : Option mV → mSh → mMem → Prop} {x1 x2 x3 x4 x5 : Int} {u6 u7 : mV} (hc : R32 (x4 + 1)) (k : WP PR d 111 71 [vA 1, vI x1, vI x2, vI x3, vI (x4 + 1), vI x5, u6, u7] [] S M Q) : WP PR d 111 147 [vA 1, vI x1, vI x2, vI x3, vI x4, vI x5, u6, u7] [] S M Q := by
  refine WP.gt 1 150 (-79) (0, 0, 0, 0) _ 71 rfl rfl ?_
  exact And.intro (hc) (k)
set_option maxRecDepth 100000 in
theorem b_X8_few_153 {d : Nat} {S : mSh} {M : mMem} {Q : Option mV → mSh → mMem → Prop} {x1 x2 x3 x4 : Int} {u5 u6 u7 : mV} (k : WP PR d 111 159 [vA 1, vI x1, vI x2, vI x3, vL 0, vU, vI 0, u7] [] S M Q) : WP PR d 111 153 [vA 1, vI x1, vI x2, vI x3, vI x4, u5, u6, u7] [] S M Q := by
  refine WP.bl 4 159 rfl ?_
  exact k
set_option maxRecDepth 100000 in
theorem b_X8_few_159 {d : Nat} {S : mSh} {M : mMem} {Q : Option mV → mSh → mMem → Prop} {x1 x2 x3 x4 x6 : Int} {u7 : mV} (kt : x1 ≤ x6 → WP PR d 111 183 [vA 1, vI x1, vI x2, vI x3, vL x4, vU, vI x6, u7] [] S M Q) (kf : x6 < x1 → WP PR d 111 165 [vA 1, vI x1, vI x2, vI x3, vL x4, vU, vI x6, u7] [] S M Q) : WP PR d 111 159 [vA 1, vI x1, vI x2, vI x3, vL x4, vU, vI x6, u7] [] S M Q := by
  refine WP.if2 2 165 162 .ge 21 (0, 0, 0, 0) 183 rfl rfl ?_
  exact ⟨kt, fun hc => kf (Int.not_le.mp hc)⟩
set_option maxRecDepth 100000 in
theorem b_X8_few_165 {d : Nat} {S : mSh} {M : mMem} {Q : Option mV → mSh → mMem → Prop} {x1 x2 x3 x4 x6 : Int} {u7 : mV} (L : Lay S) (hc : (0 ≤ x6 ∧ x6 < 20) ∧ R64 (x4 + (M 198 x6)) ∧ R32 (x6 + 1)) (k : WP PR d 111 159 [vA 1, vI x1, vI x2, vI x3, vL (x4 + (M 198 x6)), vU, vI (x6 + 1), u7] [] S M Q) : WP PR d 111 165 [vA 1, vI x1, vI x2, vI x3, vL x4, vU, vI x6, u7] [] S M Q := by
  refine WP.gt 8 180 (-21) (0, 0, 0, 0) _ 159 rfl rfl ?_
  exact And.intro (⟨lo1 L, lf1_9 L⟩) (And.intro (inA_of (lo198 L) (ll198 L) hc.1) (And.intro (hc.2.1) (And.intro (hc.2.2) (k))))
set_option maxRecDepth 100000 in
theorem b_X8_few_183 {d : Nat} {S : mSh} {M : mMem} {Q : Option mV → mSh → mMem → Prop} {x1 x2 x3 x4 x6 : Int} {u7 : mV} (k : Q (some (vL x4)) S M) : WP PR d 111 183 [vA 1, vI x1, vI x2, vI x3, vL x4, vU, vI x6, u7] [] S M Q := by
  refine WP.re 1 185 .lreturn (0, 0, 0, 0) _ rfl ?_
  exact ⟨rfl, rfl, trivial, k⟩
/-- SoleraCellar.compare(II)I -/
abbrev e_X8_compare (d : Nat) (a1 a2 : Int) (S : mSh) (M : mMem) (Q : Option mV → mSh → mMem → Prop) : Prop := WP PR d 112 0 [vA 1, vI a1, vI a2] [] S M Q
set_option maxRecDepth 100000 in
theorem b_X8_compare_0 {d : Nat} {S : mSh} {M : mMem} {Q : Option mV → mSh → mMem → Prop} {x1 x2 : Int} (kt : x1 = (-1) → WP PR d 112 16 [vA 1, vI x1, vI x2] [] S M Q) (kf : ¬ x1 = (-1) → WP PR d 112 5 [vA 1, vI x1, vI x2] [] S M Q) : WP PR d 112 0 [vA 1, vI x1, vI x2] [] S M Q := by
  refine WP.if2 2 5 2 .eq 14 (0, 0, 0, 0) 16 rfl rfl ?_
  exact ⟨kt, fun hc => kf hc⟩
set_option maxRecDepth 100000 in
theorem b_X8_compare_5 {d : Nat} {S : mSh} {M : mMem} {Q : Option mV → mSh → mMem → Prop} {x1 x2 : Int} (L : Lay S) (k : WP PR d 36 0 [vA 8, vI x1] [] S M (fun r S2 M2 => WP PR (d + 1) 112 13 [vA 1, vI x1, vI x2] (r.toList ++ []) S2 M2 Q)) : WP PR (d + 1) 112 5 [vA 1, vI x1, vI x2] [] S M Q := by
  refine WP.ca 3 13 10 (.invokevirtual 211) (0, 36, 0, 0) rfl ?_
  exact And.intro (⟨lo1 L, lf1_2 L⟩) (⟨rfl, rfl, rfl, lo8 L, rfl, k⟩)
set_option maxRecDepth 100000 in
theorem b_X8_compare_13 {d : Nat} {S : mSh} {M : mMem} {Q : Option mV → mSh → mMem → Prop} {x1 x2 s0 : Int} (kt : s0 = 0 → WP PR d 112 30 [vA 1, vI x1, vI x2] [] S M Q) (kf : ¬ s0 = 0 → WP PR d 112 16 [vA 1, vI x1, vI x2] [] S M Q) : WP PR d 112 13 [vA 1, vI x1, vI x2] [vI s0] S M Q := by
  refine WP.if0 0 16 13 .eq 17 (0, 0, 0, 0) 30 rfl rfl ?_
  exact ⟨kt, fun hc => kf hc⟩
set_option maxRecDepth 100000 in
theorem b_X8_compare_16 {d : Nat} {S : mSh} {M : mMem} {Q : Option mV → mSh → mMem → Prop} {x1 x2 : Int} (L : Lay S) (k : WP PR d 42 0 [vA 9, vI x2] [] S M (fun r S2 M2 => WP PR (d + 1) 112 27 [vA 1, vI x1, vI x2] (r.toList ++ []) S2 M2 Q)) : WP PR (d + 1) 112 16 [vA 1, vI x1, vI x2] [] S M Q := by
  refine WP.ca 4 27 24 (.invokevirtual 110) (0, 42, 0, 0) rfl ?_
  exact And.intro (⟨lo1 L, lf1_2 L⟩) (And.intro (⟨lo8 L, lf8_0 L⟩) (⟨rfl, rfl, rfl, lo9 L, rfl, k⟩))
set_option maxRecDepth 100000 in
theorem b_X8_compare_27 {d : Nat} {S : mSh} {M : mMem} {Q : Option mV → mSh → mMem → Prop} {x1 x2 s0 : Int} (kt : ¬ s0 = 0 → WP PR d 112 32 [vA 1, vI x1, vI x2] [] S M Q) (kf : s0 = 0 → WP PR d 112 30 [vA 1, vI x1, vI x2] [] S M Q) : WP PR d 112 27 [vA 1, vI x1, vI x2] [vI s0] S M Q := by
  refine WP.if0 0 30 27 .ne 5 (0, 0, 0, 0) 32 rfl rfl ?_
  exact ⟨kt, fun hc => kf (Decidable.not_not.mp hc)⟩
set_option maxRecDepth 100000 in
theorem b_X8_compare_30 {d : Nat} {S : mSh} {M : mMem} {Q : Option mV → mSh → mMem → Prop} {x1 x2 : Int} (k : Q (some (vI (-1))) S M) : WP PR d 112 30 [vA 1, vI x1, vI x2] [] S M Q := by
  refine WP.re 1 31 .ireturn (0, 0, 0, 0) _ rfl ?_
  exact ⟨rfl, rfl, trivial, k⟩
set_option maxRecDepth 100000 in
theorem b_X8_compare_32 {d : Nat} {S : mSh} {M : mMem} {Q : Option mV → mSh → mMem → Prop} {x1 x2 : Int} (L : Lay S) (k : WP PR d 38 0 [vA 8, vI x1] [] S M (fun r S2 M2 => WP PR (d + 1) 112 51 [vA 1, vI x1, vI x2] (r.toList ++ [vA 9, vA 191]) S2 M2 Q)) : WP PR (d + 1) 112 32 [vA 1, vI x1, vI x2] [] S M Q := by
  refine WP.ca 8 51 48 (.invokevirtual 282) (0, 38, 0, 0) rfl ?_
  exact And.intro (⟨lo1 L, lf1_8 L⟩) (And.intro (⟨lo1 L, lf1_2 L⟩) (And.intro (⟨lo8 L, lf8_0 L⟩) (And.intro (⟨lo1 L, lf1_2 L⟩) (⟨rfl, rfl, rfl, lo8 L, rfl, k⟩))))
set_option maxRecDepth 100000 in
theorem b_X8_compare_51 {d : Nat} {S : mSh} {M : mMem} {Q : Option mV → mSh → mMem → Prop} {x1 x2 s1 s2 : Int} (L : Lay S) (k : WP PR d 70 0 [vA 191, vA s1, vA s2] [] S M (fun r S2 M2 => WP PR (d + 1) 112 54 [vA 1, vI x1, vI x2] (r.toList ++ []) S2 M2 Q)) : WP PR (d + 1) 112 51 [vA 1, vI x1, vI x2] [vA s2, vA s1, vA 191] S M Q := by
  refine WP.ca 0 54 51 (.invokevirtual 118) (0, 70, 0, 0) rfl ?_
  exact ⟨rfl, rfl, rfl, lo191 L, rfl, k⟩
set_option maxRecDepth 100000 in
theorem b_X8_compare_54 {d : Nat} {S : mSh} {M : mMem} {Q : Option mV → mSh → mMem → Prop} {x1 x2 : Int} (L : Lay S) (k : WP PR d 71 0 [vA 191, vI 4, vI x2, vU, vU, vU] [] S M (fun r S2 M2 => WP PR (d + 1) 112 71 [vA 1, vI x1, vI x2] (r.toList ++ [vI x2, vA 9]) S2 M2 Q)) : WP PR (d + 1) 112 54 [vA 1, vI x1, vI x2] [] S M Q := by
  refine WP.ca 8 71 68 (.invokevirtual 136) (0, 71, 0, 0) rfl ?_
  exact And.intro (⟨lo1 L, lf1_2 L⟩) (And.intro (⟨lo8 L, lf8_0 L⟩) (And.intro (⟨lo1 L, lf1_8 L⟩) (⟨rfl, rfl, rfl, lo191 L, rfl, k⟩)))
set_option maxRecDepth 100000 in
theorem b_X8_compare_71 {d : Nat} {S : mSh} {M : mMem} {Q : Option mV → mSh → mMem → Prop} {x1 x2 s0 s1 s2 : Int} (hs0 : Stk S s0) (k : WP PR d 53 0 [vA s0, vI s1, vI s2, vU, vU] [] S M (fun r S2 M2 => WP PR (d + 1) 112 74 [vA 1, vI x1, vI x2] (r.toList ++ []) S2 M2 Q)) : WP PR (d + 1) 112 71 [vA 1, vI x1, vI x2] [vI s2, vI s1, vA s0] S M Q := by
  refine WP.ca 0 74 71 (.invokevirtual 286) (0, 53, 0, 0) rfl ?_
  exact ⟨rfl, rfl, rfl, (hs0).o, rfl, k⟩
set_option maxRecDepth 100000 in
theorem b_X8_compare_74 {d : Nat} {S : mSh} {M : mMem} {Q : Option mV → mSh → mMem → Prop} {x1 x2 s0 : Int} (k : Q (some (vI s0)) S M) : WP PR d 112 74 [vA 1, vI x1, vI x2] [vI s0] S M Q := by
  refine WP.re 0 74 .ireturn (0, 0, 0, 0) _ rfl ?_
  exact ⟨rfl, rfl, trivial, k⟩
/-- SoleraCellar.harvests(II)I -/
abbrev e_X8_harvests (d : Nat) (a1 a2 : Int) (S : mSh) (M : mMem) (Q : Option mV → mSh → mMem → Prop) : Prop := WP PR d 113 0 [vA 1, vI a1, vI a2, vU, vU] [] S M Q
set_option maxRecDepth 100000 in
theorem b_X8_harvests_0 {d : Nat} {S : mSh} {M : mMem} {Q : Option mV → mSh → mMem → Prop} {x1 x2 : Int} (k : WP PR d 119 0 [vI x1, vI 0, vI 1000000] [] S M (fun r S2 M2 => WP PR (d + 1) 113 8 [vA 1, vI x1, vI x2, vU, vU] (r.toList ++ []) S2 M2 Q)) : WP PR (d + 1) 113 0 [vA 1, vI x1, vI x2, vU, vU] [] S M Q := by
  refine WP.ca 3 8 5 (.invokestatic 86) (0, 119, 0, 0) rfl ?_
  exact ⟨rfl, rfl, rfl, trivial, rfl, k⟩
set_option maxRecDepth 100000 in
theorem b_X8_harvests_8 {d : Nat} {S : mSh} {M : mMem} {Q : Option mV → mSh → mMem → Prop} {x1 x2 s0 : Int} {u3 u4 : mV} (kt : s0 = 0 → WP PR d 113 21 [vA 1, vI x1, vI x2, u3, u4] [] S M Q) (kf : ¬ s0 = 0 → WP PR d 113 11 [vA 1, vI x1, vI x2, u3, u4] [] S M Q) : WP PR d 113 8 [vA 1, vI x1, vI x2, u3, u4] [vI s0] S M Q := by
  refine WP.if0 0 11 8 .eq 13 (0, 0, 0, 0) 21 rfl rfl ?_
  exact ⟨kt, fun hc => kf hc⟩
set_option maxRecDepth 100000 in
theorem b_X8_harvests_11 {d : Nat} {S : mSh} {M : mMem} {Q : Option mV → mSh → mMem → Prop} {x1 x2 : Int} {u3 u4 : mV} (k : WP PR d 119 0 [vI x2, vI 1, vI 60] [] S M (fun r S2 M2 => WP PR (d + 1) 113 18 [vA 1, vI x1, vI x2, u3, u4] (r.toList ++ []) S2 M2 Q)) : WP PR (d + 1) 113 11 [vA 1, vI x1, vI x2, u3, u4] [] S M Q := by
  refine WP.ca 3 18 15 (.invokestatic 86) (0, 119, 0, 0) rfl ?_
  exact ⟨rfl, rfl, rfl, trivial, rfl, k⟩
set_option maxRecDepth 100000 in
theorem b_X8_harvests_18 {d : Nat} {S : mSh} {M : mMem} {Q : Option mV → mSh → mMem → Prop} {x1 x2 s0 : Int} {u3 u4 : mV} (kt : ¬ s0 = 0 → WP PR d 113 27 [vA 1, vI x1, vI x2, u3, u4] [] S M Q) (kf : s0 = 0 → WP PR d 113 21 [vA 1, vI x1, vI x2, u3, u4] [] S M Q) : WP PR d 113 18 [vA 1, vI x1, vI x2, u3, u4] [vI s0] S M Q := by
  refine WP.if0 0 21 18 .ne 9 (0, 0, 0, 0) 27 rfl rfl ?_
  exact ⟨kt, fun hc => kf (Decidable.not_not.mp hc)⟩
set_option maxRecDepth 100000 in
theorem b_X8_harvests_21 {d : Nat} {S : mSh} {M : mMem} {Q : Option mV → mSh → mMem → Prop} {x1 x2 : Int} {u3 u4 : mV} (L : Lay S) (k : WP PR d 123 0 [vA 1, vI (-1)] [] S M (fun r S2 M2 => WP PR (d + 1) 113 26 [vA 1, vI x1, vI x2, u3, u4] (r.toList ++ []) S2 M2 Q)) : WP PR (d + 1) 113 21 [vA 1, vI x1, vI x2, u3, u4] [] S M Q := by
  refine WP.ca 2 26 23 (.invokevirtual 90) (0, 123, 0, 0) rfl ?_
  exact ⟨rfl, rfl, rfl, lo1 L, rfl, k⟩
set_option maxRecDepth 100000 in
theorem b_X8_harvests_26 {d : Nat} {S : mSh} {M : mMem} {Q : Option mV → mSh → mMem → Prop} {x1 x2 s0 : Int} {u3 u4 : mV} (k : Q (some (vI s0)) S M) : WP PR d 113 26 [vA 1, vI x1, vI x2, u3, u4] [vI s0] S M Q := by
  refine WP.re 0 26 .ireturn (0, 0, 0, 0) _ rfl ?_
  exact ⟨rfl, rfl, trivial, k⟩
set_option maxRecDepth 100000 in
theorem b_X8_harvests_27 {d : Nat} {S : mSh} {M : mMem} {Q : Option mV → mSh → mMem → Prop} {x1 x2 : Int} {u3 u4 : mV} (L : Lay S) (kt : 1 ≤ M 9 6 → WP PR d 113 48 [vA 1, vI x1, vI x2, u3, u4] [] S M Q) (kf : M 9 6 < 1 → WP PR d 113 41 [vA 1, vI x1, vI x2, u3, u4] [] S M Q) : WP PR d 113 27 [vA 1, vI x1, vI x2, u3, u4] [] S M Q := by
  refine WP.if2 5 41 38 .ge 10 (0, 0, 0, 0) 48 rfl rfl ?_
  exact And.intro (⟨lo1 L, lf1_2 L⟩) (And.intro (⟨lo8 L, lf8_0 L⟩) (And.intro (lo9 L) (⟨kt, fun hc => kf (Int.not_le.mp hc)⟩)))
set_option maxRecDepth 100000 in
theorem b_X8_harvests_41 {d : Nat} {S : mSh} {M : mMem} {Q : Option mV → mSh → mMem → Prop} {x1 x2 : Int} {u3 u4 : mV} (L : Lay S) (k : WP PR d 123 0 [vA 1, vI (-3)] [] S M (fun r S2 M2 => WP PR (d + 1) 113 47 [vA 1, vI x1, vI x2, u3, u4] (r.toList ++ []) S2 M2 Q)) : WP PR (d + 1) 113 41 [vA 1, vI x1, vI x2, u3, u4] [] S M Q := by
  refine WP.ca 2 47 44 (.invokevirtual 90) (0, 123, 0, 0) rfl ?_
  exact ⟨rfl, rfl, rfl, lo1 L, rfl, k⟩
set_option maxRecDepth 100000 in
theorem b_X8_harvests_47 {d : Nat} {S : mSh} {M : mMem} {Q : Option mV → mSh → mMem → Prop} {x1 x2 s0 : Int} {u3 u4 : mV} (k : Q (some (vI s0)) S M) : WP PR d 113 47 [vA 1, vI x1, vI x2, u3, u4] [vI s0] S M Q := by
  refine WP.re 0 47 .ireturn (0, 0, 0, 0) _ rfl ?_
  exact ⟨rfl, rfl, trivial, k⟩
set_option maxRecDepth 100000 in
theorem b_X8_harvests_48 {d : Nat} {S : mSh} {M : mMem} {Q : Option mV → mSh → mMem → Prop} {x1 x2 : Int} {u3 u4 : mV} (L : Lay S) (k : WP PR d 55 0 [vA 184, vA 9] [] S M (fun r S2 M2 => WP PR (d + 1) 113 62 [vA 1, vI x1, vI x2, u3, u4] (r.toList ++ []) S2 M2 Q)) : WP PR (d + 1) 113 48 [vA 1, vI x1, vI x2, u3, u4] [] S M Q := by
  refine WP.ca 5 62 59 (.invokevirtual 290) (0, 55, 0, 0) rfl ?_
  exact And.intro (⟨lo1 L, lf1_7 L⟩) (And.intro (⟨lo1 L, lf1_2 L⟩) (And.intro (⟨lo8 L, lf8_0 L⟩) (⟨rfl, rfl, rfl, lo184 L, rfl, k⟩)))
set_option maxRecDepth 100000 in
theorem b_X8_harvests_62 {d : Nat} {S : mSh} {M : mMem} {Q : Option mV → mSh → mMem → Prop} {x1 x2 : Int} {u3 u4 : mV} (L : Lay S) (k : WP PR d 39 0 [vA 8] [] S M (fun r S2 M2 => WP PR (d + 1) 113 77 [vA 1, vI x1, vI x2, u3, u4] (r.toList ++ [vA 184, vA 191]) S2 M2 Q)) : WP PR (d + 1) 113 62 [vA 1, vI x1, vI x2, u3, u4] [] S M Q := by
  refine WP.ca 6 77 74 (.invokevirtual 114) (0, 39, 0, 0) rfl ?_
  exact And.intro (⟨lo1 L, lf1_8 L⟩) (And.intro (⟨lo1 L, lf1_7 L⟩) (And.intro (⟨lo1 L, lf1_2 L⟩) (⟨rfl, rfl, rfl, lo8 L, rfl, k⟩)))
set_option maxRecDepth 100000 in
theorem b_X8_harvests_77 {d : Nat} {S : mSh} {M : mMem} {Q : Option mV → mSh → mMem → Prop} {x1 x2 s1 s2 : Int} {u3 u4 : mV} (L : Lay S) (k : WP PR d 70 0 [vA 191, vA s1, vA s2] [] S M (fun r S2 M2 => WP PR (d + 1) 113 80 [vA 1, vI x1, vI x2, u3, u4] (r.toList ++ []) S2 M2 Q)) : WP PR (d + 1) 113 77 [vA 1, vI x1, vI x2, u3, u4] [vA s2, vA s1, vA 191] S M Q := by
  refine WP.ca 0 80 77 (.invokevirtual 118) (0, 70, 0, 0) rfl ?_
  exact ⟨rfl, rfl, rfl, lo191 L, rfl, k⟩
set_option maxRecDepth 100000 in
theorem b_X8_harvests_80 {d : Nat} {S : mSh} {M : mMem} {Q : Option mV → mSh → mMem → Prop} {x1 x2 : Int} {u3 u4 : mV} (k : WP PR d 113 85 [vA 1, vI x1, vI x2, vI x1, vI 0] [] S M Q) : WP PR d 113 80 [vA 1, vI x1, vI x2, u3, u4] [] S M Q := by
  refine WP.bl 4 85 rfl ?_
  exact k
set_option maxRecDepth 100000 in
theorem b_X8_harvests_85 {d : Nat} {S : mSh} {M : mMem} {Q : Option mV → mSh → mMem → Prop} {x1 x2 x3 x4 : Int} (kt : x2 ≤ x4 → WP PR d 113 116 [vA 1, vI x1, vI x2, vI x3, vI x4] [] S M Q) (kf : x4 < x2 → WP PR d 113 91 [vA 1, vI x1, vI x2, vI x3, vI x4] [] S M Q) : WP PR d 113 85 [vA 1, vI x1, vI x2, vI x3, vI x4] [] S M Q := by
  refine WP.if2 2 91 88 .ge 28 (0, 0, 0, 0) 116 rfl rfl ?_
  exact ⟨kt, fun hc => kf (Int.not_le.mp hc)⟩
set_option maxRecDepth 100000 in
theorem b_X8_harvests_91 {d : Nat} {S : mSh} {M : mMem} {Q : Option mV → mSh → mMem → Prop} {x1 x2 x3 x4 : Int} (L : Lay S) (k : WP PR d 43 0 [vA 184] [] S M (fun r S2 M2 => WP PR (d + 1) 113 98 [vA 1, vI x1, vI x2, vI x3, vI x4] (r.toList ++ []) S2 M2 Q)) : WP PR (d + 1) 113 91 [vA 1, vI x1, vI x2, vI x3, vI x4] [] S M Q := by
  refine WP.ca 2 98 95 (.invokevirtual 233) (0, 43, 0, 0) rfl ?_
  exact And.intro (⟨lo1 L, lf1_7 L⟩) (⟨rfl, rfl, rfl, lo184 L, rfl, k⟩)
set_option maxRecDepth 100000 in
theorem b_X8_harvests_98 {d : Nat} {S : mSh} {M : mMem} {Q : Option mV → mSh → mMem → Prop} {x1 x2 x3 x4 s0 : Int} (kt : ¬ s0 = 0 → WP PR d 113 116 [vA 1, vI x1, vI x2, vI x3, vI x4] [] S M Q) (kf : s0 = 0 → WP PR d 113 101 [vA 1, vI x1, vI x2, vI x3, vI x4] [] S M Q) : WP PR d 113 98 [vA 1, vI x1, vI x2, vI x3, vI x4] [vI s0] S M Q := by
  refine WP.if0 0 101 98 .ne 18 (0, 0, 0, 0) 116 rfl rfl ?_
  exact ⟨kt, fun hc => kf (Decidable.not_not.mp hc)⟩
set_option maxRecDepth 100000 in
theorem b_X8_harvests_101 {d : Nat} {S : mSh} {M : mMem} {Q : Option mV → mSh → mMem → Prop} {x1 x2 x3 x4 : Int} (L : Lay S) (k : WP PR d 79 0 [vA 191, vI x3, vU, vU, vU, vU] [] S M (fun r S2 M2 => WP PR (d + 1) 113 109 [vA 1, vI x1, vI x2, vI x3, vI x4] (r.toList ++ []) S2 M2 Q)) : WP PR (d + 1) 113 101 [vA 1, vI x1, vI x2, vI x3, vI x4] [] S M Q := by
  refine WP.ca 3 109 106 (.invokevirtual 294) (0, 79, 0, 0) rfl ?_
  exact And.intro (⟨lo1 L, lf1_8 L⟩) (⟨rfl, rfl, rfl, lo191 L, rfl, k⟩)
set_option maxRecDepth 100000 in
theorem b_X8_harvests_109 {d : Nat} {S : mSh} {M : mMem} {Q : Option mV → mSh → mMem → Prop} {x1 x2 x3 x4 s0 : Int} (hc : R32 (x4 + 1)) (k : WP PR d 113 85 [vA 1, vI x1, vI x2, vI s0, vI (x4 + 1)] [] S M Q) : WP PR d 113 109 [vA 1, vI x1, vI x2, vI x3, vI x4] [vI s0] S M Q := by
  refine WP.gt 2 113 (-28) (0, 0, 0, 0) _ 85 rfl rfl ?_
  exact And.intro (hc) (k)
set_option maxRecDepth 100000 in
theorem b_X8_harvests_116 {d : Nat} {S : mSh} {M : mMem} {Q : Option mV → mSh → mMem → Prop} {x1 x2 x3 x4 : Int} (L : Lay S) (k : WP PR d 122 0 [vA 1, vI (M 191 4)] [] S M (fun r S2 M2 => WP PR (d + 1) 113 127 [vA 1, vI x1, vI x2, vI x3, vI x4] (r.toList ++ []) S2 M2 Q)) : WP PR (d + 1) 113 116 [vA 1, vI x1, vI x2, vI x3, vI x4] [] S M Q := by
  refine WP.ca 4 127 124 (.invokevirtual 107) (0, 122, 0, 0) rfl ?_
  exact And.intro (⟨lo1 L, lf1_8 L⟩) (And.intro (lo191 L) (⟨rfl, rfl, rfl, lo1 L, rfl, k⟩))
set_option maxRecDepth 100000 in
theorem b_X8_harvests_127 {d : Nat} {S : mSh} {M : mMem} {Q : Option mV → mSh → mMem → Prop} {x1 x2 x3 x4 s0 : Int} (k : Q (some (vI s0)) S M) : WP PR d 113 127 [vA 1, vI x1, vI x2, vI x3, vI x4] [vI s0] S M Q := by
  refine WP.re 0 127 .ireturn (0, 0, 0, 0) _ rfl ?_
  exact ⟨rfl, rfl, trivial, k⟩
/-- SoleraCellar.drawn(II)I -/
abbrev e_X8_drawn (d : Nat) (a1 a2 : Int) (S : mSh) (M : mMem) (Q : Option mV → mSh → mMem → Prop) : Prop := WP PR d 114 0 [vA 1, vI a1, vI a2] [] S M Q
set_option maxRecDepth 100000 in
theorem b_X8_drawn_0 {d : Nat} {S : mSh} {M : mMem} {Q : Option mV → mSh → mMem → Prop} {x1 x2 : Int} (L : Lay S) (k : WP PR d 42 0 [vA 184, vI x1] [] S M (fun r S2 M2 => WP PR (d + 1) 114 8 [vA 1, vI x1, vI x2] (r.toList ++ []) S2 M2 Q)) : WP PR (d + 1) 114 0 [vA 1, vI x1, vI x2] [] S M Q := by
  refine WP.ca 3 8 5 (.invokevirtual 110) (0, 42, 0, 0) rfl ?_
  exact And.intro (⟨lo1 L, lf1_7 L⟩) (⟨rfl, rfl, rfl, lo184 L, rfl, k⟩)
set_option maxRecDepth 100000 in
theorem b_X8_drawn_8 {d : Nat} {S : mSh} {M : mMem} {Q : Option mV → mSh → mMem → Prop} {x1 x2 s0 : Int} (kt : s0 = 0 → WP PR d 114 20 [vA 1, vI x1, vI x2] [] S M Q) (kf : ¬ s0 = 0 → WP PR d 114 11 [vA 1, vI x1, vI x2] [] S M Q) : WP PR d 114 8 [vA 1, vI x1, vI x2] [vI s0] S M Q := by
  refine WP.if0 0 11 8 .eq 12 (0, 0, 0, 0) 20 rfl rfl ?_
  exact ⟨kt, fun hc => kf hc⟩
set_option maxRecDepth 100000 in
theorem b_X8_drawn_11 {d : Nat} {S : mSh} {M : mMem} {Q : Option mV → mSh → mMem → Prop} {x1 x2 : Int} (k : WP PR d 119 0 [vI x2, vI 0, vI 1] [] S M (fun r S2 M2 => WP PR (d + 1) 114 17 [vA 1, vI x1, vI x2] (r.toList ++ []) S2 M2 Q)) : WP PR (d + 1) 114 11 [vA 1, vI x1, vI x2] [] S M Q := by
  refine WP.ca 3 17 14 (.invokestatic 86) (0, 119, 0, 0) rfl ?_
  exact ⟨rfl, rfl, rfl, trivial, rfl, k⟩
set_option maxRecDepth 100000 in
theorem b_X8_drawn_17 {d : Nat} {S : mSh} {M : mMem} {Q : Option mV → mSh → mMem → Prop} {x1 x2 s0 : Int} (kt : ¬ s0 = 0 → WP PR d 114 22 [vA 1, vI x1, vI x2] [] S M Q) (kf : s0 = 0 → WP PR d 114 20 [vA 1, vI x1, vI x2] [] S M Q) : WP PR d 114 17 [vA 1, vI x1, vI x2] [vI s0] S M Q := by
  refine WP.if0 0 20 17 .ne 5 (0, 0, 0, 0) 22 rfl rfl ?_
  exact ⟨kt, fun hc => kf (Decidable.not_not.mp hc)⟩
set_option maxRecDepth 100000 in
theorem b_X8_drawn_20 {d : Nat} {S : mSh} {M : mMem} {Q : Option mV → mSh → mMem → Prop} {x1 x2 : Int} (k : Q (some (vI (-1))) S M) : WP PR d 114 20 [vA 1, vI x1, vI x2] [] S M Q := by
  refine WP.re 1 21 .ireturn (0, 0, 0, 0) _ rfl ?_
  exact ⟨rfl, rfl, trivial, k⟩
set_option maxRecDepth 100000 in
theorem b_X8_drawn_22 {d : Nat} {S : mSh} {M : mMem} {Q : Option mV → mSh → mMem → Prop} {x1 x2 : Int} (kt : ¬ x2 = 0 → WP PR d 114 38 [vA 1, vI x1, vI x2] [] S M Q) (kf : x2 = 0 → WP PR d 114 26 [vA 1, vI x1, vI x2] [] S M Q) : WP PR d 114 22 [vA 1, vI x1, vI x2] [] S M Q := by
  refine WP.if0 1 26 23 .ne 15 (0, 0, 0, 0) 38 rfl rfl ?_
  exact ⟨kt, fun hc => kf (Decidable.not_not.mp hc)⟩
set_option maxRecDepth 100000 in
theorem b_X8_drawn_26 {d : Nat} {S : mSh} {M : mMem} {Q : Option mV → mSh → mMem → Prop} {x1 x2 : Int} (L : Lay S) (hc : (0 ≤ x1 ∧ x1 < 8)) (k : Q (some (vI (M 187 x1))) S M) : WP PR d 114 26 [vA 1, vI x1, vI x2] [] S M Q := by
  refine WP.gt 5 35 11 (0, 0, 0, 0) _ 46 rfl rfl ?_
  refine And.intro (⟨lo1 L, lf1_7 L⟩) (And.intro (⟨lo184 L, lf184_2 L⟩) (And.intro (inA_of (lo187 L) (ll187 L) hc) (?_)))
  show WP PR d 114 46 [vA 1, vI x1, vI x2] [vI (M 187 x1)] S M Q
  refine WP.re 0 46 .ireturn (0, 0, 0, 0) _ rfl ?_
  exact ⟨rfl, rfl, trivial, k⟩
set_option maxRecDepth 100000 in
theorem b_X8_drawn_38 {d : Nat} {S : mSh} {M : mMem} {Q : Option mV → mSh → mMem → Prop} {x1 x2 : Int} (L : Lay S) (k : WP PR d 48 0 [vA 184, vI x1] [] S M (fun r S2 M2 => WP PR (d + 1) 114 46 [vA 1, vI x1, vI x2] (r.toList ++ []) S2 M2 Q)) : WP PR (d + 1) 114 38 [vA 1, vI x1, vI x2] [] S M Q := by
  refine WP.ca 3 46 43 (.invokevirtual 130) (0, 48, 0, 0) rfl ?_
  exact And.intro (⟨lo1 L, lf1_7 L⟩) (⟨rfl, rfl, rfl, lo184 L, rfl, k⟩)
set_option maxRecDepth 100000 in
theorem b_X8_drawn_46 {d : Nat} {S : mSh} {M : mMem} {Q : Option mV → mSh → mMem → Prop} {x1 x2 s0 : Int} (k : Q (some (vI s0)) S M) : WP PR d 114 46 [vA 1, vI x1, vI x2] [vI s0] S M Q := by
  refine WP.re 0 46 .ireturn (0, 0, 0, 0) _ rfl ?_
  exact ⟨rfl, rfl, trivial, k⟩
/-- SoleraCellar.image(I)I -/
abbrev e_X8_image (d : Nat) (a1 : Int) (S : mSh) (M : mMem) (Q : Option mV → mSh → mMem → Prop) : Prop := WP PR d 115 0 [vA 1, vI a1] [] S M Q
set_option maxRecDepth 100000 in
theorem b_X8_image_0 {d : Nat} {S : mSh} {M : mMem} {Q : Option mV → mSh → mMem → Prop} {x1 : Int} (k : WP PR d 119 0 [vI x1, vI 0, vI 1] [] S M (fun r S2 M2 => WP PR (d + 1) 115 6 [vA 1, vI x1] (r.toList ++ []) S2 M2 Q)) : WP PR (d + 1) 115 0 [vA 1, vI x1] [] S M Q := by
  refine WP.ca 3 6 3 (.invokestatic 86) (0, 119, 0, 0) rfl ?_
  exact ⟨rfl, rfl, rfl, trivial, rfl, k⟩
set_option maxRecDepth 100000 in
theorem b_X8_image_6 {d : Nat} {S : mSh} {M : mMem} {Q : Option mV → mSh → mMem → Prop} {x1 s0 : Int} (kt : ¬ s0 = 0 → WP PR d 115 15 [vA 1, vI x1] [] S M Q) (kf : s0 = 0 → WP PR d 115 9 [vA 1, vI x1] [] S M Q) : WP PR d 115 6 [vA 1, vI x1] [vI s0] S M Q := by
  refine WP.if0 0 9 6 .ne 9 (0, 0, 0, 0) 15 rfl rfl ?_
  exact ⟨kt, fun hc => kf (Decidable.not_not.mp hc)⟩
set_option maxRecDepth 100000 in
theorem b_X8_image_9 {d : Nat} {S : mSh} {M : mMem} {Q : Option mV → mSh → mMem → Prop} {x1 : Int} (L : Lay S) (k : WP PR d 123 0 [vA 1, vI (-1)] [] S M (fun r S2 M2 => WP PR (d + 1) 115 14 [vA 1, vI x1] (r.toList ++ []) S2 M2 Q)) : WP PR (d + 1) 115 9 [vA 1, vI x1] [] S M Q := by
  refine WP.ca 2 14 11 (.invokevirtual 90) (0, 123, 0, 0) rfl ?_
  exact ⟨rfl, rfl, rfl, lo1 L, rfl, k⟩
set_option maxRecDepth 100000 in
theorem b_X8_image_14 {d : Nat} {S : mSh} {M : mMem} {Q : Option mV → mSh → mMem → Prop} {x1 s0 : Int} (k : Q (some (vI s0)) S M) : WP PR d 115 14 [vA 1, vI x1] [vI s0] S M Q := by
  refine WP.re 0 14 .ireturn (0, 0, 0, 0) _ rfl ?_
  exact ⟨rfl, rfl, trivial, k⟩
set_option maxRecDepth 100000 in
theorem b_X8_image_15 {d : Nat} {S : mSh} {M : mMem} {Q : Option mV → mSh → mMem → Prop} {x1 : Int} {q1 : Int} (eq1 : M 23 x1 = q1) (L : Lay S) (hq1 : Sta S q1) (hc : (0 ≤ x1 ∧ x1 < 2)) (k : WP PR d 40 0 [vA q1, vA 8] [] S M (fun r S2 M2 => WP PR (d + 1) 115 28 [vA 1, vI x1] (r.toList ++ []) S2 M2 Q)) : WP PR (d + 1) 115 15 [vA 1, vI x1] [] S M Q := by
  subst eq1
  refine WP.ca 6 28 25 (.invokevirtual 297) (0, 40, 0, 0) rfl ?_
  exact And.intro (⟨lo1 L, lf1_3 L⟩) (And.intro (inA_of (lo23 L) (ll23 L) hc) (And.intro (⟨lo1 L, lf1_2 L⟩) (⟨rfl, rfl, rfl, (hq1).o, rfl, k⟩)))
set_option maxRecDepth 100000 in
theorem b_X8_image_28 {d : Nat} {S : mSh} {M : mMem} {Q : Option mV → mSh → mMem → Prop} {x1 : Int} (L : Lay S) (hc : (0 ≤ x1 ∧ x1 < 2)) (k : WP PR d 122 0 [vA 1, vI 0] [] S (up M 54 x1 1) (fun r S2 M2 => WP PR (d + 1) 115 40 [vA 1, vI x1] (r.toList ++ []) S2 M2 Q)) : WP PR (d + 1) 115 28 [vA 1, vI x1] [] S M Q := by
  refine WP.ca 7 40 37 (.invokevirtual 107) (0, 122, 0, 0) rfl ?_
  exact And.intro (⟨lo1 L, lf1_4 L⟩) (And.intro (⟨inA_of (lo54 L) (ll54 L) hc, Or.inr rfl⟩) (⟨rfl, rfl, rfl, lo1 L, rfl, k⟩))
set_option maxRecDepth 100000 in
theorem b_X8_image_40 {d : Nat} {S : mSh} {M : mMem} {Q : Option mV → mSh → mMem → Prop} {x1 s0 : Int} (k : Q (some (vI s0)) S M) : WP PR d 115 40 [vA 1, vI x1] [vI s0] S M Q := by
  refine WP.re 0 40 .ireturn (0, 0, 0, 0) _ rfl ?_
  exact ⟨rfl, rfl, trivial, k⟩
/-- SoleraCellar.back(I)I -/
abbrev e_X8_back (d : Nat) (a1 : Int) (S : mSh) (M : mMem) (Q : Option mV → mSh → mMem → Prop) : Prop := WP PR d 116 0 [vA 1, vI a1] [] S M Q
set_option maxRecDepth 100000 in
theorem b_X8_back_0 {d : Nat} {S : mSh} {M : mMem} {Q : Option mV → mSh → mMem → Prop} {x1 : Int} (k : WP PR d 119 0 [vI x1, vI 0, vI 1] [] S M (fun r S2 M2 => WP PR (d + 1) 116 6 [vA 1, vI x1] (r.toList ++ []) S2 M2 Q)) : WP PR (d + 1) 116 0 [vA 1, vI x1] [] S M Q := by
  refine WP.ca 3 6 3 (.invokestatic 86) (0, 119, 0, 0) rfl ?_
  exact ⟨rfl, rfl, rfl, trivial, rfl, k⟩
set_option maxRecDepth 100000 in
theorem b_X8_back_6 {d : Nat} {S : mSh} {M : mMem} {Q : Option mV → mSh → mMem → Prop} {x1 s0 : Int} (kt : ¬ s0 = 0 → WP PR d 116 15 [vA 1, vI x1] [] S M Q) (kf : s0 = 0 → WP PR d 116 9 [vA 1, vI x1] [] S M Q) : WP PR d 116 6 [vA 1, vI x1] [vI s0] S M Q := by
  refine WP.if0 0 9 6 .ne 9 (0, 0, 0, 0) 15 rfl rfl ?_
  exact ⟨kt, fun hc => kf (Decidable.not_not.mp hc)⟩
set_option maxRecDepth 100000 in
theorem b_X8_back_9 {d : Nat} {S : mSh} {M : mMem} {Q : Option mV → mSh → mMem → Prop} {x1 : Int} (L : Lay S) (k : WP PR d 123 0 [vA 1, vI (-1)] [] S M (fun r S2 M2 => WP PR (d + 1) 116 14 [vA 1, vI x1] (r.toList ++ []) S2 M2 Q)) : WP PR (d + 1) 116 9 [vA 1, vI x1] [] S M Q := by
  refine WP.ca 2 14 11 (.invokevirtual 90) (0, 123, 0, 0) rfl ?_
  exact ⟨rfl, rfl, rfl, lo1 L, rfl, k⟩
set_option maxRecDepth 100000 in
theorem b_X8_back_14 {d : Nat} {S : mSh} {M : mMem} {Q : Option mV → mSh → mMem → Prop} {x1 s0 : Int} (k : Q (some (vI s0)) S M) : WP PR d 116 14 [vA 1, vI x1] [vI s0] S M Q := by
  refine WP.re 0 14 .ireturn (0, 0, 0, 0) _ rfl ?_
  exact ⟨rfl, rfl, trivial, k⟩
set_option maxRecDepth 100000 in
theorem b_X8_back_15 {d : Nat} {S : mSh} {M : mMem} {Q : Option mV → mSh → mMem → Prop} {x1 : Int} (L : Lay S) (hc : (0 ≤ x1 ∧ x1 < 2)) (kt : ¬ M 54 x1 = 0 → WP PR d 116 31 [vA 1, vI x1] [] S M Q) (kf : M 54 x1 = 0 → WP PR d 116 24 [vA 1, vI x1] [] S M Q) : WP PR d 116 15 [vA 1, vI x1] [] S M Q := by
  refine WP.if0 4 24 21 .ne 10 (0, 0, 0, 0) 31 rfl rfl ?_
  exact And.intro (⟨lo1 L, lf1_4 L⟩) (And.intro (inA_of (lo54 L) (ll54 L) hc) (⟨kt, fun hc => kf (Decidable.not_not.mp hc)⟩))
set_option maxRecDepth 100000 in
theorem b_X8_back_24 {d : Nat} {S : mSh} {M : mMem} {Q : Option mV → mSh → mMem → Prop} {x1 : Int} (L : Lay S) (k : WP PR d 123 0 [vA 1, vI (-2)] [] S M (fun r S2 M2 => WP PR (d + 1) 116 30 [vA 1, vI x1] (r.toList ++ []) S2 M2 Q)) : WP PR (d + 1) 116 24 [vA 1, vI x1] [] S M Q := by
  refine WP.ca 2 30 27 (.invokevirtual 90) (0, 123, 0, 0) rfl ?_
  exact ⟨rfl, rfl, rfl, lo1 L, rfl, k⟩
set_option maxRecDepth 100000 in
theorem b_X8_back_30 {d : Nat} {S : mSh} {M : mMem} {Q : Option mV → mSh → mMem → Prop} {x1 s0 : Int} (k : Q (some (vI s0)) S M) : WP PR d 116 30 [vA 1, vI x1] [vI s0] S M Q := by
  refine WP.re 0 30 .ireturn (0, 0, 0, 0) _ rfl ?_
  exact ⟨rfl, rfl, trivial, k⟩
set_option maxRecDepth 100000 in
theorem b_X8_back_31 {d : Nat} {S : mSh} {M : mMem} {Q : Option mV → mSh → mMem → Prop} {x1 : Int} {q1 : Int} (eq1 : M 23 x1 = q1) (L : Lay S) (hc : (0 ≤ x1 ∧ x1 < 2)) (k : WP PR d 40 0 [vA 8, vA q1] [] S M (fun r S2 M2 => WP PR (d + 1) 116 44 [vA 1, vI x1] (r.toList ++ []) S2 M2 Q)) : WP PR (d + 1) 116 31 [vA 1, vI x1] [] S M Q := by
  subst eq1
  refine WP.ca 6 44 41 (.invokevirtual 297) (0, 40, 0, 0) rfl ?_
  exact And.intro (⟨lo1 L, lf1_2 L⟩) (And.intro (⟨lo1 L, lf1_3 L⟩) (And.intro (inA_of (lo23 L) (ll23 L) hc) (⟨rfl, rfl, rfl, lo8 L, rfl, k⟩)))
set_option maxRecDepth 100000 in
theorem b_X8_back_44 {d : Nat} {S : mSh} {M : mMem} {Q : Option mV → mSh → mMem → Prop} {x1 : Int} (L : Lay S) (k : WP PR d 9 0 [vA 55] [] S M (fun r S2 M2 => WP PR (d + 1) 116 51 [vA 1, vI x1] (r.toList ++ []) S2 M2 Q)) : WP PR (d + 1) 116 44 [vA 1, vI x1] [] S M Q := by
  refine WP.ca 2 51 48 (.invokevirtual 100) (0, 9, 0, 0) rfl ?_
  exact And.intro (⟨lo1 L, lf1_5 L⟩) (⟨rfl, rfl, rfl, lo55 L, rfl, k⟩)
set_option maxRecDepth 100000 in
theorem b_X8_back_51 {d : Nat} {S : mSh} {M : mMem} {Q : Option mV → mSh → mMem → Prop} {x1 : Int} (L : Lay S) (k : WP PR d 122 0 [vA 1, vI 0] [] S M (fun r S2 M2 => WP PR (d + 1) 116 56 [vA 1, vI x1] (r.toList ++ []) S2 M2 Q)) : WP PR (d + 1) 116 51 [vA 1, vI x1] [] S M Q := by
  refine WP.ca 2 56 53 (.invokevirtual 107) (0, 122, 0, 0) rfl ?_
  exact ⟨rfl, rfl, rfl, lo1 L, rfl, k⟩
set_option maxRecDepth 100000 in
theorem b_X8_back_56 {d : Nat} {S : mSh} {M : mMem} {Q : Option mV → mSh → mMem → Prop} {x1 s0 : Int} (k : Q (some (vI s0)) S M) : WP PR d 116 56 [vA 1, vI x1] [vI s0] S M Q := by
  refine WP.re 0 56 .ireturn (0, 0, 0, 0) _ rfl ?_
  exact ⟨rfl, rfl, trivial, k⟩
/-- SoleraCellar.count(I)I -/
abbrev e_X8_count (d : Nat) (a1 : Int) (S : mSh) (M : mMem) (Q : Option mV → mSh → mMem → Prop) : Prop := WP PR d 117 0 [vA 1, vI a1] [] S M Q
set_option maxRecDepth 100000 in
theorem b_X8_count_0 {d : Nat} {S : mSh} {M : mMem} {Q : Option mV → mSh → mMem → Prop} {x1 : Int} (k : WP PR d 117 (swT 1 x1 173 0 12 [67, 78, 89, 97, 105, 113, 121, 129, 136, 143, 150, 157, 165]) [vA 1, vI x1] [] S M Q) : WP PR d 117 0 [vA 1, vI x1] [] S M Q := by
  refine WP.sw 1 1 173 0 12 #[67, 78, 89, 97, 105, 113, 121, 129, 136, 143, 150, 157, 165] (0, 0, 0, 0) _ rfl ?_
  exact k
set_option maxRecDepth 100000 in
theorem b_X8_count_68 {d : Nat} {S : mSh} {M : mMem} {Q : Option mV → mSh → mMem → Prop} {x1 : Int} (L : Lay S) (k : Q (some (vI (M 9 6))) S M) : WP PR d 117 68 [vA 1, vI x1] [] S M Q := by
  refine WP.re 4 78 .ireturn (0, 0, 0, 0) _ rfl ?_
  exact And.intro (⟨lo1 L, lf1_2 L⟩) (And.intro (⟨lo8 L, lf8_0 L⟩) (And.intro (lo9 L) (⟨rfl, rfl, trivial, k⟩)))
set_option maxRecDepth 100000 in
theorem b_X8_count_79 {d : Nat} {S : mSh} {M : mMem} {Q : Option mV → mSh → mMem → Prop} {x1 : Int} (L : Lay S) (k : Q (some (vI (M 9 7))) S M) : WP PR d 117 79 [vA 1, vI x1] [] S M Q := by
  refine WP.re 4 89 .ireturn (0, 0, 0, 0) _ rfl ?_
  exact And.intro (⟨lo1 L, lf1_2 L⟩) (And.intro (⟨lo8 L, lf8_0 L⟩) (And.intro (lo9 L) (⟨rfl, rfl, trivial, k⟩)))
set_option maxRecDepth 100000 in
theorem b_X8_count_90 {d : Nat} {S : mSh} {M : mMem} {Q : Option mV → mSh → mMem → Prop} {x1 : Int} (L : Lay S) (k : Q (some (vI (M 8 8))) S M) : WP PR d 117 90 [vA 1, vI x1] [] S M Q := by
  refine WP.re 3 97 .ireturn (0, 0, 0, 0) _ rfl ?_
  exact And.intro (⟨lo1 L, lf1_2 L⟩) (And.intro (lo8 L) (⟨rfl, rfl, trivial, k⟩))
set_option maxRecDepth 100000 in
theorem b_X8_count_98 {d : Nat} {S : mSh} {M : mMem} {Q : Option mV → mSh → mMem → Prop} {x1 : Int} (L : Lay S) (k : Q (some (vI (M 8 6))) S M) : WP PR d 117 98 [vA 1, vI x1] [] S M Q := by
  refine WP.re 3 105 .ireturn (0, 0, 0, 0) _ rfl ?_
  exact And.intro (⟨lo1 L, lf1_2 L⟩) (And.intro (lo8 L) (⟨rfl, rfl, trivial, k⟩))
set_option maxRecDepth 100000 in
theorem b_X8_count_106 {d : Nat} {S : mSh} {M : mMem} {Q : Option mV → mSh → mMem → Prop} {x1 : Int} (L : Lay S) (k : Q (some (vI (M 8 7))) S M) : WP PR d 117 106 [vA 1, vI x1] [] S M Q := by
  refine WP.re 3 113 .ireturn (0, 0, 0, 0) _ rfl ?_
  exact And.intro (⟨lo1 L, lf1_2 L⟩) (And.intro (lo8 L) (⟨rfl, rfl, trivial, k⟩))
set_option maxRecDepth 100000 in
theorem b_X8_count_114 {d : Nat} {S : mSh} {M : mMem} {Q : Option mV → mSh → mMem → Prop} {x1 : Int} (L : Lay S) (k : Q (some (vI (M 55 3))) S M) : WP PR d 117 114 [vA 1, vI x1] [] S M Q := by
  refine WP.re 3 121 .ireturn (0, 0, 0, 0) _ rfl ?_
  exact And.intro (⟨lo1 L, lf1_5 L⟩) (And.intro (lo55 L) (⟨rfl, rfl, trivial, k⟩))
set_option maxRecDepth 100000 in
theorem b_X8_count_122 {d : Nat} {S : mSh} {M : mMem} {Q : Option mV → mSh → mMem → Prop} {x1 : Int} (L : Lay S) (k : Q (some (vI (M 2 1))) S M) : WP PR d 117 122 [vA 1, vI x1] [] S M Q := by
  refine WP.re 3 129 .ireturn (0, 0, 0, 0) _ rfl ?_
  exact And.intro (⟨lo1 L, lf1_0 L⟩) (And.intro (lo2 L) (⟨rfl, rfl, trivial, k⟩))
set_option maxRecDepth 100000 in
theorem b_X8_count_130 {d : Nat} {S : mSh} {M : mMem} {Q : Option mV → mSh → mMem → Prop} {x1 : Int} (L : Lay S) (k : Q (some (vI (M 199 1))) S M) : WP PR d 117 130 [vA 1, vI x1] [] S M Q := by
  refine WP.re 4 136 .ireturn (0, 0, 0, 0) _ rfl ?_
  exact And.intro (⟨lo1 L, lf1_10 L⟩) (And.intro (inA_of (lo199 L) (ll199 L) (by decide)) (⟨rfl, rfl, trivial, k⟩))
set_option maxRecDepth 100000 in
theorem b_X8_count_137 {d : Nat} {S : mSh} {M : mMem} {Q : Option mV → mSh → mMem → Prop} {x1 : Int} (L : Lay S) (k : Q (some (vI (M 199 2))) S M) : WP PR d 117 137 [vA 1, vI x1] [] S M Q := by
  refine WP.re 4 143 .ireturn (0, 0, 0, 0) _ rfl ?_
  exact And.intro (⟨lo1 L, lf1_10 L⟩) (And.intro (inA_of (lo199 L) (ll199 L) (by decide)) (⟨rfl, rfl, trivial, k⟩))
set_option maxRecDepth 100000 in
theorem b_X8_count_144 {d : Nat} {S : mSh} {M : mMem} {Q : Option mV → mSh → mMem → Prop} {x1 : Int} (L : Lay S) (k : Q (some (vI (M 199 3))) S M) : WP PR d 117 144 [vA 1, vI x1] [] S M Q := by
  refine WP.re 4 150 .ireturn (0, 0, 0, 0) _ rfl ?_
  exact And.intro (⟨lo1 L, lf1_10 L⟩) (And.intro (inA_of (lo199 L) (ll199 L) (by decide)) (⟨rfl, rfl, trivial, k⟩))
set_option maxRecDepth 100000 in
theorem b_X8_count_151 {d : Nat} {S : mSh} {M : mMem} {Q : Option mV → mSh → mMem → Prop} {x1 : Int} (L : Lay S) (k : Q (some (vI (M 199 5))) S M) : WP PR d 117 151 [vA 1, vI x1] [] S M Q := by
  refine WP.re 4 157 .ireturn (0, 0, 0, 0) _ rfl ?_
  exact And.intro (⟨lo1 L, lf1_10 L⟩) (And.intro (inA_of (lo199 L) (ll199 L) (by decide)) (⟨rfl, rfl, trivial, k⟩))
set_option maxRecDepth 100000 in
theorem b_X8_count_158 {d : Nat} {S : mSh} {M : mMem} {Q : Option mV → mSh → mMem → Prop} {x1 : Int} (L : Lay S) (k : Q (some (vI (M 199 6))) S M) : WP PR d 117 158 [vA 1, vI x1] [] S M Q := by
  refine WP.re 4 165 .ireturn (0, 0, 0, 0) _ rfl ?_
  exact And.intro (⟨lo1 L, lf1_10 L⟩) (And.intro (inA_of (lo199 L) (ll199 L) (by decide)) (⟨rfl, rfl, trivial, k⟩))
set_option maxRecDepth 100000 in
theorem b_X8_count_166 {d : Nat} {S : mSh} {M : mMem} {Q : Option mV → mSh → mMem → Prop} {x1 : Int} (L : Lay S) (k : Q (some (vI (M 8 9))) S M) : WP PR d 117 166 [vA 1, vI x1] [] S M Q := by
  refine WP.re 3 173 .ireturn (0, 0, 0, 0) _ rfl ?_
  exact And.intro (⟨lo1 L, lf1_2 L⟩) (And.intro (lo8 L) (⟨rfl, rfl, trivial, k⟩))
set_option maxRecDepth 100000 in
theorem b_X8_count_174 {d : Nat} {S : mSh} {M : mMem} {Q : Option mV → mSh → mMem → Prop} {x1 : Int} (k : WP PR d 119 0 [vI x1, vI 13, vI 16] [] S M (fun r S2 M2 => WP PR (d + 1) 117 182 [vA 1, vI x1] (r.toList ++ []) S2 M2 Q)) : WP PR (d + 1) 117 174 [vA 1, vI x1] [] S M Q := by
  refine WP.ca 3 182 179 (.invokestatic 86) (0, 119, 0, 0) rfl ?_
  exact ⟨rfl, rfl, rfl, trivial, rfl, k⟩
set_option maxRecDepth 100000 in
theorem b_X8_count_182 {d : Nat} {S : mSh} {M : mMem} {Q : Option mV → mSh → mMem → Prop} {x1 s0 : Int} (kt : s0 = 0 → WP PR d 117 203 [vA 1, vI x1] [] S M Q) (kf : ¬ s0 = 0 → WP PR d 117 185 [vA 1, vI x1] [] S M Q) : WP PR d 117 182 [vA 1, vI x1] [vI s0] S M Q := by
  refine WP.if0 0 185 182 .eq 21 (0, 0, 0, 0) 203 rfl rfl ?_
  exact ⟨kt, fun hc => kf hc⟩
set_option maxRecDepth 100000 in
theorem b_X8_count_185 {d : Nat} {S : mSh} {M : mMem} {Q : Option mV → mSh → mMem → Prop} {x1 : Int} (L : Lay S) (hc : R32 (x1 - 13) ∧ (0 ≤ x1 - 13 ∧ x1 - 13 < 4)) (k : Q (some (vI (M 15 (x1 - 13)))) S M) : WP PR d 117 185 [vA 1, vI x1] [] S M Q := by
  refine WP.gt 8 200 4 (0, 0, 0, 0) _ 204 rfl rfl ?_
  refine And.intro (⟨lo1 L, lf1_2 L⟩) (And.intro (⟨lo8 L, lf8_0 L⟩) (And.intro (⟨lo9 L, lf9_5 L⟩) (And.intro (hc.1) (And.intro (inA_of (lo15 L) (ll15 L) hc.2) (?_)))))
  show WP PR d 117 204 [vA 1, vI x1] [vI (M 15 (x1 - 13))] S M Q
  refine WP.re 0 204 .ireturn (0, 0, 0, 0) _ rfl ?_
  exact ⟨rfl, rfl, trivial, k⟩
set_option maxRecDepth 100000 in
theorem b_X8_count_203 {d : Nat} {S : mSh} {M : mMem} {Q : Option mV → mSh → mMem → Prop} {x1 : Int} (k : Q (some (vI (-1))) S M) : WP PR d 117 203 [vA 1, vI x1] [] S M Q := by
  refine WP.re 1 204 .ireturn (0, 0, 0, 0) _ rfl ?_
  exact ⟨rfl, rfl, trivial, k⟩
/-- SoleraCellar.status()I -/
abbrev e_X8_status (d : Nat) (S : mSh) (M : mMem) (Q : Option mV → mSh → mMem → Prop) : Prop := WP PR d 118 0 [vA 1] [] S M Q
set_option maxRecDepth 100000 in
theorem b_X8_status_0 {d : Nat} {S : mSh} {M : mMem} {Q : Option mV → mSh → mMem → Prop} (L : Lay S) (k : Q (some (vI (M 1 11))) S M) : WP PR d 118 0 [vA 1] [] S M Q := by
  refine WP.re 2 4 .ireturn (0, 0, 0, 0) _ rfl ?_
  exact And.intro (lo1 L) (⟨rfl, rfl, trivial, k⟩)
/-- SoleraCellar.isWithin(III)Z -/
abbrev e_X8_isWithin (d : Nat) (a0 a1 a2 : Int) (S : mSh) (M : mMem) (Q : Option mV → mSh → mMem → Prop) : Prop := WP PR d 119 0 [vI a0, vI a1, vI a2] [] S M Q
set_option maxRecDepth 100000 in
theorem b_X8_isWithin_0 {d : Nat} {S : mSh} {M : mMem} {Q : Option mV → mSh → mMem → Prop} {x0 x1 x2 : Int} (kt : x0 < x1 → WP PR d 119 14 [vI x0, vI x1, vI x2] [] S M Q) (kf : x1 ≤ x0 → WP PR d 119 5 [vI x0, vI x1, vI x2] [] S M Q) : WP PR d 119 0 [vI x0, vI x1, vI x2] [] S M Q := by
  refine WP.if2 2 5 2 .lt 12 (0, 0, 0, 0) 14 rfl rfl ?_
  exact ⟨kt, fun hc => kf (Int.not_lt.mp hc)⟩
set_option maxRecDepth 100000 in
theorem b_X8_isWithin_5 {d : Nat} {S : mSh} {M : mMem} {Q : Option mV → mSh → mMem → Prop} {x0 x1 x2 : Int} (kt : x2 < x0 → WP PR d 119 14 [vI x0, vI x1, vI x2] [] S M Q) (kf : x0 ≤ x2 → WP PR d 119 10 [vI x0, vI x1, vI x2] [] S M Q) : WP PR d 119 5 [vI x0, vI x1, vI x2] [] S M Q := by
  refine WP.if2 2 10 7 .gt 7 (0, 0, 0, 0) 14 rfl rfl ?_
  exact ⟨kt, fun hc => kf (Int.not_lt.mp hc)⟩
set_option maxRecDepth 100000 in
theorem b_X8_isWithin_10 {d : Nat} {S : mSh} {M : mMem} {Q : Option mV → mSh → mMem → Prop} {x0 x1 x2 : Int} (k : Q (some (vI 1)) S M) : WP PR d 119 10 [vI x0, vI x1, vI x2] [] S M Q := by
  refine WP.gt 1 11 4 (0, 0, 0, 0) _ 15 rfl rfl ?_
  show WP PR d 119 15 [vI x0, vI x1, vI x2] [vI 1] S M Q
  refine WP.re 0 15 .ireturn (0, 0, 0, 0) _ rfl ?_
  exact ⟨rfl, rfl, Or.inr rfl, k⟩
set_option maxRecDepth 100000 in
theorem b_X8_isWithin_14 {d : Nat} {S : mSh} {M : mMem} {Q : Option mV → mSh → mMem → Prop} {x0 x1 x2 : Int} (k : Q (some (vI 0)) S M) : WP PR d 119 14 [vI x0, vI x1, vI x2] [] S M Q := by
  refine WP.re 1 15 .ireturn (0, 0, 0, 0) _ rfl ?_
  exact ⟨rfl, rfl, Or.inl rfl, k⟩
/-- SoleraCellar.leastTerm(I)I -/
abbrev e_X8_leastTerm (d : Nat) (a0 : Int) (S : mSh) (M : mMem) (Q : Option mV → mSh → mMem → Prop) : Prop := WP PR d 120 0 [vI a0] [] S M Q
set_option maxRecDepth 100000 in
theorem b_X8_leastTerm_0 {d : Nat} {S : mSh} {M : mMem} {Q : Option mV → mSh → mMem → Prop} {x0 : Int} (kt : ¬ x0 = 3 → WP PR d 120 9 [vI x0] [] S M Q) (kf : x0 = 3 → WP PR d 120 5 [vI x0] [] S M Q) : WP PR d 120 0 [vI x0] [] S M Q := by
  refine WP.if2 2 5 2 .ne 7 (0, 0, 0, 0) 9 rfl rfl ?_
  exact ⟨kt, fun hc => kf (Decidable.not_not.mp hc)⟩
set_option maxRecDepth 100000 in
theorem b_X8_leastTerm_5 {d : Nat} {S : mSh} {M : mMem} {Q : Option mV → mSh → mMem → Prop} {x0 : Int} (k : Q (some (vI 1)) S M) : WP PR d 120 5 [vI x0] [] S M Q := by
  refine WP.gt 1 6 4 (0, 0, 0, 0) _ 10 rfl rfl ?_
  show WP PR d 120 10 [vI x0] [vI 1] S M Q
  refine WP.re 0 10 .ireturn (0, 0, 0, 0) _ rfl ?_
  exact ⟨rfl, rfl, trivial, k⟩
set_option maxRecDepth 100000 in
theorem b_X8_leastTerm_9 {d : Nat} {S : mSh} {M : mMem} {Q : Option mV → mSh → mMem → Prop} {x0 : Int} (k : Q (some (vI 0)) S M) : WP PR d 120 9 [vI x0] [] S M Q := by
  refine WP.re 1 10 .ireturn (0, 0, 0, 0) _ rfl ?_
  exact ⟨rfl, rfl, trivial, k⟩
/-- SoleraCellar.mostTerm(I)I -/
abbrev e_X8_mostTerm (d : Nat) (a0 : Int) (S : mSh) (M : mMem) (Q : Option mV → mSh → mMem → Prop) : Prop := WP PR d 121 0 [vI a0] [] S M Q
set_option maxRecDepth 100000 in
theorem b_X8_mostTerm_0 {d : Nat} {S : mSh} {M : mMem} {Q : Option mV → mSh → mMem → Prop} {x0 : Int} (k : WP PR d 121 (swT 1 x0 37 0 2 [27, 31, 34]) [vI x0] [] S M Q) : WP PR d 121 0 [vI x0] [] S M Q := by
  refine WP.sw 1 1 37 0 2 #[27, 31, 34] (0, 0, 0, 0) _ rfl ?_
  exact k
set_option maxRecDepth 100000 in
theorem b_X8_mostTerm_28 {d : Nat} {S : mSh} {M : mMem} {Q : Option mV → mSh → mMem → Prop} {x0 : Int} (k : Q (some (vI 999)) S M) : WP PR d 121 28 [vI x0] [] S M Q := by
  refine WP.re 1 31 .ireturn (0, 0, 0, 0) _ rfl ?_
  exact ⟨rfl, rfl, trivial, k⟩
set_option maxRecDepth 100000 in
theorem b_X8_mostTerm_32 {d : Nat} {S : mSh} {M : mMem} {Q : Option mV → mSh → mMem → Prop} {x0 : Int} (k : Q (some (vI 10)) S M) : WP PR d 121 32 [vI x0] [] S M Q := by
  refine WP.re 1 34 .ireturn (0, 0, 0, 0) _ rfl ?_
  exact ⟨rfl, rfl, trivial, k⟩
set_option maxRecDepth 100000 in
theorem b_X8_mostTerm_35 {d : Nat} {S : mSh} {M : mMem} {Q : Option mV → mSh → mMem → Prop} {x0 : Int} (k : Q (some (vI 9)) S M) : WP PR d 121 35 [vI x0] [] S M Q := by
  refine WP.re 1 37 .ireturn (0, 0, 0, 0) _ rfl ?_
  exact ⟨rfl, rfl, trivial, k⟩
set_option maxRecDepth 100000 in
theorem b_X8_mostTerm_38 {d : Nat} {S : mSh} {M : mMem} {Q : Option mV → mSh → mMem → Prop} {x0 : Int} (k : Q (some (vI 100)) S M) : WP PR d 121 38 [vI x0] [] S M Q := by
  refine WP.re 1 40 .ireturn (0, 0, 0, 0) _ rfl ?_
  exact ⟨rfl, rfl, trivial, k⟩
/-- SoleraCellar.accept(I)I -/
abbrev e_X8_accept (d : Nat) (a1 : Int) (S : mSh) (M : mMem) (Q : Option mV → mSh → mMem → Prop) : Prop := WP PR d 122 0 [vA 1, vI a1] [] S M Q
set_option maxRecDepth 100000 in
theorem b_X8_accept_0 {d : Nat} {S : mSh} {M : mMem} {Q : Option mV → mSh → mMem → Prop} {x1 : Int} (L : Lay S) (k : Q (some (vI x1)) S (up M 1 11 0)) : WP PR d 122 0 [vA 1, vI x1] [] S M Q := by
  refine WP.re 4 6 .ireturn (0, 0, 0, 0) _ rfl ?_
  exact And.intro (lo1 L) (⟨rfl, rfl, trivial, k⟩)
/-- SoleraCellar.refuse(I)I -/
abbrev e_X8_refuse (d : Nat) (a1 : Int) (S : mSh) (M : mMem) (Q : Option mV → mSh → mMem → Prop) : Prop := WP PR d 123 0 [vA 1, vI a1] [] S M Q
set_option maxRecDepth 100000 in
theorem b_X8_refuse_0 {d : Nat} {S : mSh} {M : mMem} {Q : Option mV → mSh → mMem → Prop} {x1 : Int} (L : Lay S) (hc : R32 (-x1) ∧ R32 ((sL S 199) - 1)) (k : WP PR d 119 0 [vI (-x1), vI 0, vI ((sL S 199) - 1)] [] S (up M 1 11 x1) (fun r S2 M2 => WP PR (d + 1) 123 18 [vA 1, vI x1] (r.toList ++ []) S2 M2 Q)) : WP PR (d + 1) 123 0 [vA 1, vI x1] [] S M Q := by
  refine WP.ca 11 18 15 (.invokestatic 86) (0, 119, 0, 0) rfl ?_
  exact And.intro (lo1 L) (And.intro (hc.1) (And.intro (⟨lo1 L, lf1_10 L⟩) (And.intro (lo199 L) (And.intro (hc.2) (⟨rfl, rfl, rfl, trivial, rfl, k⟩)))))
set_option maxRecDepth 100000 in
theorem b_X8_refuse_18 {d : Nat} {S : mSh} {M : mMem} {Q : Option mV → mSh → mMem → Prop} {x1 s0 : Int} (kt : s0 = 0 → WP PR d 123 32 [vA 1, vI x1] [] S M Q) (kf : ¬ s0 = 0 → WP PR d 123 21 [vA 1, vI x1] [] S M Q) : WP PR d 123 18 [vA 1, vI x1] [vI s0] S M Q := by
  refine WP.if0 0 21 18 .eq 14 (0, 0, 0, 0) 32 rfl rfl ?_
  exact ⟨kt, fun hc => kf hc⟩
set_option maxRecDepth 100000 in
theorem b_X8_refuse_21 {d : Nat} {S : mSh} {M : mMem} {Q : Option mV → mSh → mMem → Prop} {x1 : Int} (L : Lay S) (hc : R32 (-x1) ∧ (0 ≤ -x1 ∧ -x1 < 7) ∧ R32 ((M 199 (-x1)) + 1)) (k : Q (some (vI x1)) S (up M 199 (-x1) ((M 199 (-x1)) + 1))) : WP PR d 123 21 [vA 1, vI x1] [] S M Q := by
  refine WP.re 10 33 .ireturn (0, 0, 0, 0) _ rfl ?_
  exact And.intro (⟨lo1 L, lf1_10 L⟩) (And.intro (hc.1) (And.intro (inA_of (lo199 L) (ll199 L) hc.2.1) (And.intro (hc.2.2) (And.intro (inA_of (lo199 L) (ll199 L) hc.2.1) (⟨rfl, rfl, trivial, k⟩)))))
set_option maxRecDepth 100000 in
theorem b_X8_refuse_32 {d : Nat} {S : mSh} {M : mMem} {Q : Option mV → mSh → mMem → Prop} {x1 : Int} (k : Q (some (vI x1)) S M) : WP PR d 123 32 [vA 1, vI x1] [] S M Q := by
  refine WP.re 1 33 .ireturn (0, 0, 0, 0) _ rfl ?_
  exact ⟨rfl, rfl, trivial, k⟩
/-- SoleraCellar.cameFromTape(I)Z -/
abbrev e_X8_cameFromTape (d : Nat) (a1 : Int) (S : mSh) (M : mMem) (Q : Option mV → mSh → mMem → Prop) : Prop := WP PR d 124 0 [vA 1, vI a1, vU, vU, vU] [] S M Q
set_option maxRecDepth 100000 in
theorem b_X8_cameFromTape_0 {d : Nat} {S : mSh} {M : mMem} {Q : Option mV → mSh → mMem → Prop} {x1 : Int} (L : Lay S) (hc : R32 (x1 + 2)) (kt : M 2 1 ≤ x1 + 2 → WP PR d 124 28 [vA 1, vI x1, vU, vU, vU] [] S M Q) (kf : x1 + 2 < M 2 1 → WP PR d 124 13 [vA 1, vI x1, vU, vU, vU] [] S M Q) : WP PR d 124 0 [vA 1, vI x1, vU, vU, vU] [] S M Q := by
  refine WP.if2 6 13 10 .ge 18 (0, 0, 0, 0) 28 rfl rfl ?_
  exact And.intro (hc) (And.intro (⟨lo1 L, lf1_0 L⟩) (And.intro (lo2 L) (⟨kt, fun hc => kf (Int.not_le.mp hc)⟩)))
set_option maxRecDepth 100000 in
theorem b_X8_cameFromTape_13 {d : Nat} {S : mSh} {M : mMem} {Q : Option mV → mSh → mMem → Prop} {x1 : Int} {u2 u3 u4 : mV} (L : Lay S) (kt : M 9 6 < 8 → WP PR d 124 30 [vA 1, vI x1, u2, u3, u4] [] S M Q) (kf : 8 ≤ M 9 6 → WP PR d 124 28 [vA 1, vI x1, u2, u3, u4] [] S M Q) : WP PR d 124 13 [vA 1, vI x1, u2, u3, u4] [] S M Q := by
  refine WP.if2 5 28 25 .lt 5 (0, 0, 0, 0) 30 rfl rfl ?_
  exact And.intro (⟨lo1 L, lf1_2 L⟩) (And.intro (⟨lo8 L, lf8_0 L⟩) (And.intro (lo9 L) (⟨kt, fun hc => kf (Int.not_lt.mp hc)⟩)))
set_option maxRecDepth 100000 in
theorem b_X8_cameFromTape_28 {d : Nat} {S : mSh} {M : mMem} {Q : Option mV → mSh → mMem → Prop} {x1 : Int} {u2 u3 u4 : mV} (k : Q (some (vI 0)) S M) : WP PR d 124 28 [vA 1, vI x1, u2, u3, u4] [] S M Q := by
  refine WP.re 1 29 .ireturn (0, 0, 0, 0) _ rfl ?_
  exact ⟨rfl, rfl, Or.inl rfl, k⟩
set_option maxRecDepth 100000 in
theorem b_X8_cameFromTape_30 {d : Nat} {S : mSh} {M : mMem} {Q : Option mV → mSh → mMem → Prop} {x1 : Int} {u2 u3 u4 : mV} (L : Lay S) (hc : (0 ≤ x1 ∧ x1 < 400) ∧ R32 (x1 + 1) ∧ (0 ≤ x1 + 1 ∧ x1 + 1 < 400) ∧ R32 (x1 + 2) ∧ (0 ≤ x1 + 2 ∧ x1 + 2 < 400)) (kt : 5 ≤ M 3 x1 → WP PR d 124 81 [vA 1, vI x1, vI (M 3 x1), vI (M 3 (x1 + 1)), vI (M 3 (x1 + 2))] [] S M Q) (kf : M 3 x1 < 5 → WP PR d 124 70 [vA 1, vI x1, vI (M 3 x1), vI (M 3 (x1 + 1)), vI (M 3 (x1 + 2))] [] S M Q) : WP PR d 124 30 [vA 1, vI x1, u2, u3, u4] [] S M Q := by
  refine WP.if2 24 70 67 .ge 14 (0, 0, 0, 0) 81 rfl rfl ?_
  exact And.intro (⟨lo1 L, lf1_0 L⟩) (And.intro (⟨lo2 L, lf2_0 L⟩) (And.intro (inA_of (lo3 L) (ll3 L) hc.1) (And.intro (⟨lo1 L, lf1_0 L⟩) (And.intro (⟨lo2 L, lf2_0 L⟩) (And.intro (hc.2.1) (And.intro (inA_of (lo3 L) (ll3 L) hc.2.2.1) (And.intro (⟨lo1 L, lf1_0 L⟩) (And.intro (⟨lo2 L, lf2_0 L⟩) (And.intro (hc.2.2.2.1) (And.intro (inA_of (lo3 L) (ll3 L) hc.2.2.2.2) (⟨kt, fun hc => kf (Int.not_le.mp hc)⟩)))))))))))
set_option maxRecDepth 100000 in
theorem b_X8_cameFromTape_70 {d : Nat} {S : mSh} {M : mMem} {Q : Option mV → mSh → mMem → Prop} {x1 x2 x3 x4 : Int} (kt : x3 < 1 → WP PR d 124 81 [vA 1, vI x1, vI x2, vI x3, vI x4] [] S M Q) (kf : 1 ≤ x3 → WP PR d 124 75 [vA 1, vI x1, vI x2, vI x3, vI x4] [] S M Q) : WP PR d 124 70 [vA 1, vI x1, vI x2, vI x3, vI x4] [] S M Q := by
  refine WP.if2 2 75 72 .lt 9 (0, 0, 0, 0) 81 rfl rfl ?_
  exact ⟨kt, fun hc => kf (Int.not_lt.mp hc)⟩
set_option maxRecDepth 100000 in
theorem b_X8_cameFromTape_75 {d : Nat} {S : mSh} {M : mMem} {Q : Option mV → mSh → mMem → Prop} {x1 x2 x3 x4 : Int} (kt : x4 ≤ x3 → WP PR d 124 83 [vA 1, vI x1, vI x2, vI x3, vI x4] [] S M Q) (kf : x3 < x4 → WP PR d 124 81 [vA 1, vI x1, vI x2, vI x3, vI x4] [] S M Q) : WP PR d 124 75 [vA 1, vI x1, vI x2, vI x3, vI x4] [] S M Q := by
  refine WP.if2 2 81 78 .le 5 (0, 0, 0, 0) 83 rfl rfl ?_
  exact ⟨kt, fun hc => kf (Int.not_le.mp hc)⟩
set_option maxRecDepth 100000 in
theorem b_X8_cameFromTape_81 {d : Nat} {S : mSh} {M : mMem} {Q : Option mV → mSh → mMem → Prop} {x1 x2 x3 x4 : Int} (k : Q (some (vI 0)) S M) : WP PR d 124 81 [vA 1, vI x1, vI x2, vI x3, vI x4] [] S M Q := by
  refine WP.re 1 82 .ireturn (0, 0, 0, 0) _ rfl ?_
  exact ⟨rfl, rfl, Or.inl rfl, k⟩
set_option maxRecDepth 100000 in
theorem b_X8_cameFromTape_83 {d : Nat} {S : mSh} {M : mMem} {Q : Option mV → mSh → mMem → Prop} {x1 x2 x3 x4 : Int} (L : Lay S) (k : WP PR d 44 0 [vA 9, vI x2, vI x3, vU, vU] [] S M (fun r S2 M2 => WP PR (d + 1) 124 102 [vA 1, vI x1, vI x2, vI x3, vI x4] (r.toList ++ [vA 9]) S2 M2 Q)) : WP PR (d + 1) 124 83 [vA 1, vI x1, vI x2, vI x3, vI x4] [] S M Q := by
  refine WP.ca 8 102 99 (.invokevirtual 103) (0, 44, 0, 0) rfl ?_
  exact And.intro (⟨lo1 L, lf1_2 L⟩) (And.intro (⟨lo8 L, lf8_0 L⟩) (And.intro (⟨lo1 L, lf1_2 L⟩) (And.intro (⟨lo8 L, lf8_0 L⟩) (⟨rfl, rfl, rfl, lo9 L, rfl, k⟩))))
set_option maxRecDepth 100000 in
theorem b_X8_cameFromTape_102 {d : Nat} {S : mSh} {M : mMem} {Q : Option mV → mSh → mMem → Prop} {x1 x2 x3 x4 s0 s1 : Int} (hs0 : Stk S s0) (k : WP PR d 45 0 [vA s0, vI s1, vI x4] [] S M (fun r S2 M2 => WP PR (d + 1) 124 107 [vA 1, vI x1, vI x2, vI x3, vI x4] (r.toList ++ []) S2 M2 Q)) : WP PR (d + 1) 124 102 [vA 1, vI x1, vI x2, vI x3, vI x4] [vI s1, vA s0] S M Q := by
  refine WP.ca 1 107 104 (.invokevirtual 312) (0, 45, 0, 0) rfl ?_
  exact ⟨rfl, rfl, rfl, (hs0).o, rfl, k⟩
set_option maxRecDepth 100000 in
theorem b_X8_cameFromTape_107 {d : Nat} {S : mSh} {M : mMem} {Q : Option mV → mSh → mMem → Prop} {x1 x2 x3 x4 : Int} (k : Q (some (vI 1)) S M) : WP PR d 124 107 [vA 1, vI x1, vI x2, vI x3, vI x4] [] S M Q := by
  refine WP.re 1 108 .ireturn (0, 0, 0, 0) _ rfl ?_
  exact ⟨rfl, rfl, Or.inr rfl, k⟩
/-- SoleraCellar.startPaper()V -/
abbrev e_X8_startPaper (d : Nat) (S : mSh) (M : mMem) (Q : Option mV → mSh → mMem → Prop) : Prop := WP PR d 125 0 [vA 1] [] S M Q
set_option maxRecDepth 100000 in
theorem b_X8_startPaper_0 {d : Nat} {S : mSh} {M : mMem} {Q : Option mV → mSh → mMem → Prop} (L : Lay S) (k : WP PR d 55 0 [vA 177, vA 9] [] S M (fun r S2 M2 => WP PR (d + 1) 125 14 [vA 1] (r.toList ++ []) S2 M2 Q)) : WP PR (d + 1) 125 0 [vA 1] [] S M Q := by
  refine WP.ca 5 14 11 (.invokevirtual 290) (0, 55, 0, 0) rfl ?_
  exact And.intro (⟨lo1 L, lf1_6 L⟩) (And.intro (⟨lo1 L, lf1_2 L⟩) (And.intro (⟨lo8 L, lf8_0 L⟩) (⟨rfl, rfl, rfl, lo177 L, rfl, k⟩)))
set_option maxRecDepth 100000 in
theorem b_X8_startPaper_14 {d : Nat} {S : mSh} {M : mMem} {Q : Option mV → mSh → mMem → Prop} (L : Lay S) (k : WP PR d 39 0 [vA 8] [] S M (fun r S2 M2 => WP PR (d + 1) 125 29 [vA 1] (r.toList ++ [vA 177, vA 191]) S2 M2 Q)) : WP PR (d + 1) 125 14 [vA 1] [] S M Q := by
  refine WP.ca 6 29 26 (.invokevirtual 114) (0, 39, 0, 0) rfl ?_
  exact And.intro (⟨lo1 L, lf1_8 L⟩) (And.intro (⟨lo1 L, lf1_6 L⟩) (And.intro (⟨lo1 L, lf1_2 L⟩) (⟨rfl, rfl, rfl, lo8 L, rfl, k⟩)))
set_option maxRecDepth 100000 in
theorem b_X8_startPaper_29 {d : Nat} {S : mSh} {M : mMem} {Q : Option mV → mSh → mMem → Prop} {s1 s2 : Int} (L : Lay S) (k : WP PR d 70 0 [vA 191, vA s1, vA s2] [] S M (fun r S2 M2 => WP PR (d + 1) 125 32 [vA 1] (r.toList ++ []) S2 M2 Q)) : WP PR (d + 1) 125 29 [vA 1] [vA s2, vA s1, vA 191] S M Q := by
  refine WP.ca 0 32 29 (.invokevirtual 118) (0, 70, 0, 0) rfl ?_
  exact ⟨rfl, rfl, rfl, lo191 L, rfl, k⟩
set_option maxRecDepth 100000 in
theorem b_X8_startPaper_32 {d : Nat} {S : mSh} {M : mMem} {Q : Option mV → mSh → mMem → Prop} (k : Q (none) S M) : WP PR d 125 32 [vA 1] [] S M Q := by
  refine WP.re 0 32 .return_ (0, 0, 0, 0) _ rfl ?_
  exact ⟨rfl, rfl, trivial, k⟩
/-- SoleraCellar.startWork()V -/
abbrev e_X8_startWork (d : Nat) (S : mSh) (M : mMem) (Q : Option mV → mSh → mMem → Prop) : Prop := WP PR d 126 0 [vA 1] [] S M Q
set_option maxRecDepth 100000 in
theorem b_X8_startWork_0 {d : Nat} {S : mSh} {M : mMem} {Q : Option mV → mSh → mMem → Prop} (L : Lay S) (k : WP PR d 10 0 [vA 55, vA 9] [] S M (fun r S2 M2 => WP PR (d + 1) 126 14 [vA 1] (r.toList ++ []) S2 M2 Q)) : WP PR (d + 1) 126 0 [vA 1] [] S M Q := by
  refine WP.ca 5 14 11 (.invokevirtual 315) (0, 10, 0, 0) rfl ?_
  exact And.intro (⟨lo1 L, lf1_5 L⟩) (And.intro (⟨lo1 L, lf1_2 L⟩) (And.intro (⟨lo8 L, lf8_0 L⟩) (⟨rfl, rfl, rfl, lo55 L, rfl, k⟩)))
set_option maxRecDepth 100000 in
theorem b_X8_startWork_14 {d : Nat} {S : mSh} {M : mMem} {Q : Option mV → mSh → mMem → Prop} (L : Lay S) (k : WP PR d 39 0 [vA 8] [] S M (fun r S2 M2 => WP PR (d + 1) 126 32 [vA 1] (r.toList ++ [vA 9, vA 191]) S2 M2 Q)) : WP PR (d + 1) 126 14 [vA 1] [] S M Q := by
  refine WP.ca 7 32 29 (.invokevirtual 114) (0, 39, 0, 0) rfl ?_
  exact And.intro (⟨lo1 L, lf1_8 L⟩) (And.intro (⟨lo1 L, lf1_2 L⟩) (And.intro (⟨lo8 L, lf8_0 L⟩) (And.intro (⟨lo1 L, lf1_2 L⟩) (⟨rfl, rfl, rfl, lo8 L, rfl, k⟩))))
set_option maxRecDepth 100000 in
theorem b_X8_startWork_32 {d : Nat} {S : mSh} {M : mMem} {Q : Option mV → mSh → mMem → Prop} {s1 s2 : Int} (L : Lay S) (k : WP PR d 70 0 [vA 191, vA s1, vA s2] [] S M (fun r S2 M2 => WP PR (d + 1) 126 35 [vA 1] (r.toList ++ []) S2 M2 Q)) : WP PR (d + 1) 126 32 [vA 1] [vA s2, vA s1, vA 191] S M Q := by
  refine WP.ca 0 35 32 (.invokevirtual 118) (0, 70, 0, 0) rfl ?_
  exact ⟨rfl, rfl, rfl, lo191 L, rfl, k⟩
set_option maxRecDepth 100000 in
theorem b_X8_startWork_35 {d : Nat} {S : mSh} {M : mMem} {Q : Option mV → mSh → mMem → Prop} (k : Q (none) S M) : WP PR d 126 35 [vA 1] [] S M Q := by
  refine WP.re 0 35 .return_ (0, 0, 0, 0) _ rfl ?_
  exact ⟨rfl, rfl, trivial, k⟩
/-- SoleraCellar.finishWork(II)I -/
abbrev e_X8_finishWork (d : Nat) (a1 a2 : Int) (S : mSh) (M : mMem) (Q : Option mV → mSh → mMem → Prop) : Prop := WP PR d 127 0 [vA 1, vI a1, vI a2] [] S M Q
set_option maxRecDepth 100000 in
theorem b_X8_finishWork_0 {d : Nat} {S : mSh} {M : mMem} {Q : Option mV → mSh → mMem → Prop} {x1 x2 : Int} (kt : 0 ≤ x2 → WP PR d 127 10 [vA 1, vI x1, vI x2] [] S M Q) (kf : x2 < 0 → WP PR d 127 4 [vA 1, vI x1, vI x2] [] S M Q) : WP PR d 127 0 [vA 1, vI x1, vI x2] [] S M Q := by
  refine WP.if0 1 4 1 .ge 9 (0, 0, 0, 0) 10 rfl rfl ?_
  exact ⟨kt, fun hc => kf (Int.not_le.mp hc)⟩
set_option maxRecDepth 100000 in
theorem b_X8_finishWork_4 {d : Nat} {S : mSh} {M : mMem} {Q : Option mV → mSh → mMem → Prop} {x1 x2 : Int} (L : Lay S) (k : WP PR d 123 0 [vA 1, vI x2] [] S M (fun r S2 M2 => WP PR (d + 1) 127 9 [vA 1, vI x1, vI x2] (r.toList ++ []) S2 M2 Q)) : WP PR (d + 1) 127 4 [vA 1, vI x1, vI x2] [] S M Q := by
  refine WP.ca 2 9 6 (.invokevirtual 90) (0, 123, 0, 0) rfl ?_
  exact ⟨rfl, rfl, rfl, lo1 L, rfl, k⟩
set_option maxRecDepth 100000 in
theorem b_X8_finishWork_9 {d : Nat} {S : mSh} {M : mMem} {Q : Option mV → mSh → mMem → Prop} {x1 x2 s0 : Int} (k : Q (some (vI s0)) S M) : WP PR d 127 9 [vA 1, vI x1, vI x2] [vI s0] S M Q := by
  refine WP.re 0 9 .ireturn (0, 0, 0, 0) _ rfl ?_
  exact ⟨rfl, rfl, trivial, k⟩
set_option maxRecDepth 100000 in
theorem b_X8_finishWork_10 {d : Nat} {S : mSh} {M : mMem} {Q : Option mV → mSh → mMem → Prop} {x1 x2 : Int} (L : Lay S) (k : WP PR d 11 0 [vA 55, vI x1] [] S M (fun r S2 M2 => WP PR (d + 1) 127 18 [vA 1, vI x1, vI x2] (r.toList ++ []) S2 M2 Q)) : WP PR (d + 1) 127 10 [vA 1, vI x1, vI x2] [] S M Q := by
  refine WP.ca 3 18 15 (.invokevirtual 318) (0, 11, 0, 0) rfl ?_
  exact And.intro (⟨lo1 L, lf1_5 L⟩) (⟨rfl, rfl, rfl, lo55 L, rfl, k⟩)
set_option maxRecDepth 100000 in
theorem b_X8_finishWork_18 {d : Nat} {S : mSh} {M : mMem} {Q : Option mV → mSh → mMem → Prop} {x1 x2 : Int} (L : Lay S) (k : WP PR d 122 0 [vA 1, vI x2] [] S M (fun r S2 M2 => WP PR (d + 1) 127 23 [vA 1, vI x1, vI x2] (r.toList ++ []) S2 M2 Q)) : WP PR (d + 1) 127 18 [vA 1, vI x1, vI x2] [] S M Q := by
  refine WP.ca 2 23 20 (.invokevirtual 107) (0, 122, 0, 0) rfl ?_
  exact ⟨rfl, rfl, rfl, lo1 L, rfl, k⟩
set_option maxRecDepth 100000 in
theorem b_X8_finishWork_23 {d : Nat} {S : mSh} {M : mMem} {Q : Option mV → mSh → mMem → Prop} {x1 x2 s0 : Int} (k : Q (some (vI s0)) S M) : WP PR d 127 23 [vA 1, vI x1, vI x2] [vI s0] S M Q := by
  refine WP.re 0 23 .ireturn (0, 0, 0, 0) _ rfl ?_
  exact ⟨rfl, rfl, trivial, k⟩
/-- SoleraCellar.fitsAllTasted(I)Z -/
abbrev e_X8_fitsAllTasted (d : Nat) (a1 : Int) (S : mSh) (M : mMem) (Q : Option mV → mSh → mMem → Prop) : Prop := WP PR d 128 0 [vA 1, vI a1, vU] [] S M Q
set_option maxRecDepth 100000 in
theorem b_X8_fitsAllTasted_0 {d : Nat} {S : mSh} {M : mMem} {Q : Option mV → mSh → mMem → Prop} {x1 : Int} (k : WP PR d 128 2 [vA 1, vI x1, vI 0] [] S M Q) : WP PR d 128 0 [vA 1, vI x1, vU] [] S M Q := by
  refine WP.bl 2 2 rfl ?_
  exact k
set_option maxRecDepth 100000 in
theorem b_X8_fitsAllTasted_2 {d : Nat} {S : mSh} {M : mMem} {Q : Option mV → mSh → mMem → Prop} {x1 x2 : Int} (L : Lay S) (kt : M 8 8 ≤ x2 → WP PR d 128 47 [vA 1, vI x1, vI x2] [] S M Q) (kf : x2 < M 8 8 → WP PR d 128 13 [vA 1, vI x1, vI x2] [] S M Q) : WP PR d 128 2 [vA 1, vI x1, vI x2] [] S M Q := by
  refine WP.if2 4 13 10 .ge 37 (0, 0, 0, 0) 47 rfl rfl ?_
  exact And.intro (⟨lo1 L, lf1_2 L⟩) (And.intro (lo8 L) (⟨kt, fun hc => kf (Int.not_le.mp hc)⟩))
set_option maxRecDepth 100000 in
theorem b_X8_fitsAllTasted_13 {d : Nat} {S : mSh} {M : mMem} {Q : Option mV → mSh → mMem → Prop} {x1 x2 : Int} (L : Lay S) (hc : (0 ≤ x2 ∧ x2 < 6)) (k : WP PR d 129 0 [vA 1, vI x1, vI (M 21 x2)] [] S M (fun r S2 M2 => WP PR (d + 1) 128 27 [vA 1, vI x1, vI x2] (r.toList ++ []) S2 M2 Q)) : WP PR (d + 1) 128 13 [vA 1, vI x1, vI x2] [] S M Q := by
  refine WP.ca 7 27 24 (.invokevirtual 321) (0, 129, 0, 0) rfl ?_
  exact And.intro (⟨lo1 L, lf1_2 L⟩) (And.intro (⟨lo8 L, lf8_4 L⟩) (And.intro (inA_of (lo21 L) (ll21 L) hc) (⟨rfl, rfl, rfl, lo1 L, rfl, k⟩)))
set_option maxRecDepth 100000 in
theorem b_X8_fitsAllTasted_27 {d : Nat} {S : mSh} {M : mMem} {Q : Option mV → mSh → mMem → Prop} {x1 x2 s0 : Int} (L : Lay S) (hc : (0 ≤ x2 ∧ x2 < 6)) (kt : s0 = M 22 x2 → WP PR d 128 41 [vA 1, vI x1, vI x2] [] S M Q) (kf : ¬ s0 = M 22 x2 → WP PR d 128 39 [vA 1, vI x1, vI x2] [] S M Q) : WP PR d 128 27 [vA 1, vI x1, vI x2] [vI s0] S M Q := by
  refine WP.if2 5 39 36 .eq 5 (0, 0, 0, 0) 41 rfl rfl ?_
  exact And.intro (⟨lo1 L, lf1_2 L⟩) (And.intro (⟨lo8 L, lf8_5 L⟩) (And.intro (inA_of (lo22 L) (ll22 L) hc) (⟨kt, fun hc => kf hc⟩)))
set_option maxRecDepth 100000 in
theorem b_X8_fitsAllTasted_39 {d : Nat} {S : mSh} {M : mMem} {Q : Option mV → mSh → mMem → Prop} {x1 x2 : Int} (k : Q (some (vI 0)) S M) : WP PR d 128 39 [vA 1, vI x1, vI x2] [] S M Q := by
  refine WP.re 1 40 .ireturn (0, 0, 0, 0) _ rfl ?_
  exact ⟨rfl, rfl, Or.inl rfl, k⟩
set_option maxRecDepth 100000 in
theorem b_X8_fitsAllTasted_41 {d : Nat} {S : mSh} {M : mMem} {Q : Option mV → mSh → mMem → Prop} {x1 x2 : Int} (hc : R32 (x2 + 1)) (k : WP PR d 128 2 [vA 1, vI x1, vI (x2 + 1)] [] S M Q) : WP PR d 128 41 [vA 1, vI x1, vI x2] [] S M Q := by
  refine WP.gt 1 44 (-42) (0, 0, 0, 0) _ 2 rfl rfl ?_
  exact And.intro (hc) (k)
set_option maxRecDepth 100000 in
theorem b_X8_fitsAllTasted_47 {d : Nat} {S : mSh} {M : mMem} {Q : Option mV → mSh → mMem → Prop} {x1 x2 : Int} (k : Q (some (vI 1)) S M) : WP PR d 128 47 [vA 1, vI x1, vI x2] [] S M Q := by
  refine WP.re 1 48 .ireturn (0, 0, 0, 0) _ rfl ?_
  exact ⟨rfl, rfl, Or.inr rfl, k⟩
/-- SoleraCellar.factOf(II)I -/
abbrev e_X8_factOf (d : Nat) (a1 a2 : Int) (S : mSh) (M : mMem) (Q : Option mV → mSh → mMem → Prop) : Prop := WP PR d 129 0 [vA 1, vI a1, vI a2] [] S M Q
set_option maxRecDepth 100000 in
theorem b_X8_factOf_0 {d : Nat} {S : mSh} {M : mMem} {Q : Option mV → mSh → mMem → Prop} {x1 x2 : Int} (kt : ¬ x2 = 1 → WP PR d 129 17 [vA 1, vI x1, vI x2] [] S M Q) (kf : x2 = 1 → WP PR d 129 5 [vA 1, vI x1, vI x2] [] S M Q) : WP PR d 129 0 [vA 1, vI x1, vI x2] [] S M Q := by
  refine WP.if2 2 5 2 .ne 15 (0, 0, 0, 0) 17 rfl rfl ?_
  exact ⟨kt, fun hc => kf (Decidable.not_not.mp hc)⟩
set_option maxRecDepth 100000 in
theorem b_X8_factOf_5 {d : Nat} {S : mSh} {M : mMem} {Q : Option mV → mSh → mMem → Prop} {x1 x2 : Int} (L : Lay S) (k : WP PR d 46 0 [vA 9, vI x1] [] S M (fun r S2 M2 => WP PR (d + 1) 129 16 [vA 1, vI x1, vI x2] (r.toList ++ []) S2 M2 Q)) : WP PR (d + 1) 129 5 [vA 1, vI x1, vI x2] [] S M Q := by
  refine WP.ca 4 16 13 (.invokevirtual 324) (0, 46, 0, 0) rfl ?_
  exact And.intro (⟨lo1 L, lf1_2 L⟩) (And.intro (⟨lo8 L, lf8_0 L⟩) (⟨rfl, rfl, rfl, lo9 L, rfl, k⟩))
set_option maxRecDepth 100000 in
theorem b_X8_factOf_16 {d : Nat} {S : mSh} {M : mMem} {Q : Option mV → mSh → mMem → Prop} {x1 x2 s0 : Int} (k : Q (some (vI s0)) S M) : WP PR d 129 16 [vA 1, vI x1, vI x2] [vI s0] S M Q := by
  refine WP.re 0 16 .ireturn (0, 0, 0, 0) _ rfl ?_
  exact ⟨rfl, rfl, trivial, k⟩
set_option maxRecDepth 100000 in
theorem b_X8_factOf_17 {d : Nat} {S : mSh} {M : mMem} {Q : Option mV → mSh → mMem → Prop} {x1 x2 : Int} (L : Lay S) (hc : (0 ≤ x1 ∧ x1 < 8)) (kt : 1 ≤ M 12 x1 → WP PR d 129 37 [vA 1, vI x1, vI x2] [] S M Q) (kf : M 12 x1 < 1 → WP PR d 129 33 [vA 1, vI x1, vI x2] [] S M Q) : WP PR d 129 17 [vA 1, vI x1, vI x2] [] S M Q := by
  refine WP.if2 7 33 30 .ge 7 (0, 0, 0, 0) 37 rfl rfl ?_
  exact And.intro (⟨lo1 L, lf1_2 L⟩) (And.intro (⟨lo8 L, lf8_0 L⟩) (And.intro (⟨lo9 L, lf9_2 L⟩) (And.intro (inA_of (lo12 L) (ll12 L) hc) (⟨kt, fun hc => kf (Int.not_le.mp hc)⟩))))
set_option maxRecDepth 100000 in
theorem b_X8_factOf_33 {d : Nat} {S : mSh} {M : mMem} {Q : Option mV → mSh → mMem → Prop} {x1 x2 : Int} (k : Q (some (vI 999)) S M) : WP PR d 129 33 [vA 1, vI x1, vI x2] [] S M Q := by
  refine WP.re 1 36 .ireturn (0, 0, 0, 0) _ rfl ?_
  exact ⟨rfl, rfl, trivial, k⟩
set_option maxRecDepth 100000 in
theorem b_X8_factOf_37 {d : Nat} {S : mSh} {M : mMem} {Q : Option mV → mSh → mMem → Prop} {x1 x2 : Int} (kt : ¬ x2 = 0 → WP PR d 129 59 [vA 1, vI x1, vI x2] [] S M Q) (kf : x2 = 0 → WP PR d 129 41 [vA 1, vI x1, vI x2] [] S M Q) : WP PR d 129 37 [vA 1, vI x1, vI x2] [] S M Q := by
  refine WP.if0 1 41 38 .ne 21 (0, 0, 0, 0) 59 rfl rfl ?_
  exact ⟨kt, fun hc => kf (Decidable.not_not.mp hc)⟩
set_option maxRecDepth 100000 in
theorem b_X8_factOf_41 {d : Nat} {S : mSh} {M : mMem} {Q : Option mV → mSh → mMem → Prop} {x1 x2 : Int} (L : Lay S) (k : WP PR d 48 0 [vA 9, vI x1] [] S M (fun r S2 M2 => WP PR (d + 1) 129 52 [vA 1, vI x1, vI x2] (r.toList ++ []) S2 M2 Q)) : WP PR (d + 1) 129 41 [vA 1, vI x1, vI x2] [] S M Q := by
  refine WP.ca 4 52 49 (.invokevirtual 130) (0, 48, 0, 0) rfl ?_
  exact And.intro (⟨lo1 L, lf1_2 L⟩) (And.intro (⟨lo8 L, lf8_0 L⟩) (⟨rfl, rfl, rfl, lo9 L, rfl, k⟩))
set_option maxRecDepth 100000 in
theorem b_X8_factOf_52 {d : Nat} {S : mSh} {M : mMem} {Q : Option mV → mSh → mMem → Prop} {x1 x2 s0 : Int} (hc : R32 (s0.tdiv 1000)) (k : Q (some (vI (s0.tdiv 1000))) S M) : WP PR d 129 52 [vA 1, vI x1, vI x2] [vI s0] S M Q := by
  refine WP.gt 2 56 14 (0, 0, 0, 0) _ 70 rfl rfl ?_
  refine And.intro (⟨by decide, hc⟩) (?_)
  show WP PR d 129 70 [vA 1, vI x1, vI x2] [vI (s0.tdiv 1000)] S M Q
  refine WP.re 0 70 .ireturn (0, 0, 0, 0) _ rfl ?_
  exact ⟨rfl, rfl, trivial, k⟩
set_option maxRecDepth 100000 in
theorem b_X8_factOf_59 {d : Nat} {S : mSh} {M : mMem} {Q : Option mV → mSh → mMem → Prop} {x1 x2 : Int} (L : Lay S) (k : WP PR d 50 0 [vA 9, vI x1, vU, vU, vU, vU, vU] [] S M (fun r S2 M2 => WP PR (d + 1) 129 70 [vA 1, vI x1, vI x2] (r.toList ++ []) S2 M2 Q)) : WP PR (d + 1) 129 59 [vA 1, vI x1, vI x2] [] S M Q := by
  refine WP.ca 4 70 67 (.invokevirtual 133) (0, 50, 0, 0) rfl ?_
  exact And.intro (⟨lo1 L, lf1_2 L⟩) (And.intro (⟨lo8 L, lf8_0 L⟩) (⟨rfl, rfl, rfl, lo9 L, rfl, k⟩))
set_option maxRecDepth 100000 in
theorem b_X8_factOf_70 {d : Nat} {S : mSh} {M : mMem} {Q : Option mV → mSh → mMem → Prop} {x1 x2 s0 : Int} (k : Q (some (vI s0)) S M) : WP PR d 129 70 [vA 1, vI x1, vI x2] [vI s0] S M Q := by
  refine WP.re 0 70 .ireturn (0, 0, 0, 0) _ rfl ?_
  exact ⟨rfl, rfl, trivial, k⟩
/-- SoleraCellar.mostAlike(II)I -/
abbrev e_X8_mostAlike (d : Nat) (a1 a2 : Int) (S : mSh) (M : mMem) (Q : Option mV → mSh → mMem → Prop) : Prop := WP PR d 130 0 [vA 1, vI a1, vI a2, vU, vU, vU, vU, vU] [] S M Q
set_option maxRecDepth 100000 in
theorem b_X8_mostAlike_0 {d : Nat} {S : mSh} {M : mMem} {Q : Option mV → mSh → mMem → Prop} {x1 x2 : Int} (k : WP PR d 130 5 [vA 1, vI x1, vI x2, vI 0, vI 0, vU, vU, vU] [] S M Q) : WP PR d 130 0 [vA 1, vI x1, vI x2, vU, vU, vU, vU, vU] [] S M Q := by
  refine WP.bl 4 5 rfl ?_
  exact k
set_option maxRecDepth 100000 in
theorem b_X8_mostAlike_5 {d : Nat} {S : mSh} {M : mMem} {Q : Option mV → mSh → mMem → Prop} {x1 x2 x3 x4 : Int} {u5 u6 u7 : mV} (L : Lay S) (kt : M 9 6 ≤ x4 → WP PR d 130 107 [vA 1, vI x1, vI x2, vI x3, vI x4, u5, u6, u7] [] S M Q) (kf : x4 < M 9 6 → WP PR d 130 20 [vA 1, vI x1, vI x2, vI x3, vI x4, u5, u6, u7] [] S M Q) : WP PR d 130 5 [vA 1, vI x1, vI x2, vI x3, vI x4, u5, u6, u7] [] S M Q := by
  refine WP.if2 5 20 17 .ge 90 (0, 0, 0, 0) 107 rfl rfl ?_
  exact And.intro (⟨lo1 L, lf1_2 L⟩) (And.intro (⟨lo8 L, lf8_0 L⟩) (And.intro (lo9 L) (⟨kt, fun hc => kf (Int.not_le.mp hc)⟩)))
set_option maxRecDepth 100000 in
theorem b_X8_mostAlike_20 {d : Nat} {S : mSh} {M : mMem} {Q : Option mV → mSh → mMem → Prop} {x1 x2 x3 x4 : Int} {u5 u6 u7 : mV} (k : WP PR d 130 26 [vA 1, vI x1, vI x2, vI x3, vI x4, vI 0, vI 0, u7] [] S M Q) : WP PR d 130 20 [vA 1, vI x1, vI x2, vI x3, vI x4, u5, u6, u7] [] S M Q := by
  refine WP.bl 4 26 rfl ?_
  exact k
set_option maxRecDepth 100000 in
theorem b_X8_mostAlike_26 {d : Nat} {S : mSh} {M : mMem} {Q : Option mV → mSh → mMem → Prop} {x1 x2 x3 x4 x5 x6 : Int} {u7 : mV} (L : Lay S) (kt : M 9 6 ≤ x6 → WP PR d 130 94 [vA 1, vI x1, vI x2, vI x3, vI x4, vI x5, vI x6, u7] [] S M Q) (kf : x6 < M 9 6 → WP PR d 130 41 [vA 1, vI x1, vI x2, vI x3, vI x4, vI x5, vI x6, u7] [] S M Q) : WP PR d 130 26 [vA 1, vI x1, vI x2, vI x3, vI x4, vI x5, vI x6, u7] [] S M Q := by
  refine WP.if2 5 41 38 .ge 56 (0, 0, 0, 0) 94 rfl rfl ?_
  exact And.intro (⟨lo1 L, lf1_2 L⟩) (And.intro (⟨lo8 L, lf8_0 L⟩) (And.intro (lo9 L) (⟨kt, fun hc => kf (Int.not_le.mp hc)⟩)))
set_option maxRecDepth 100000 in
theorem b_X8_mostAlike_41 {d : Nat} {S : mSh} {M : mMem} {Q : Option mV → mSh → mMem → Prop} {x1 x2 x3 x4 x5 x6 : Int} {u7 : mV} (kt : ¬ band (band (bshr x2 x4) (bshr x2 x6)) 1 = 1 → WP PR d 130 60 [vA 1, vI x1, vI x2, vI x3, vI x4, vI x5, vI x6, u7] [] S M Q) (kf : band (band (bshr x2 x4) (bshr x2 x6)) 1 = 1 → WP PR d 130 56 [vA 1, vI x1, vI x2, vI x3, vI x4, vI x5, vI x6, u7] [] S M Q) : WP PR d 130 41 [vA 1, vI x1, vI x2, vI x3, vI x4, vI x5, vI x6, u7] [] S M Q := by
  refine WP.if2 10 56 53 .ne 7 (0, 0, 0, 0) 60 rfl rfl ?_
  exact ⟨kt, fun hc => kf (Decidable.not_not.mp hc)⟩
set_option maxRecDepth 100000 in
theorem b_X8_mostAlike_56 {d : Nat} {S : mSh} {M : mMem} {Q : Option mV → mSh → mMem → Prop} {x1 x2 x3 x4 x5 x6 : Int} {u7 : mV} (L : Lay S) (k : WP PR d 129 0 [vA 1, vI x4, vI x1] [] S M (fun r S2 M2 => WP PR (d + 1) 130 75 [vA 1, vI x1, vI x2, vI x3, vI x4, vI x5, vI x6, vI 1] (r.toList ++ []) S2 M2 Q)) : WP PR (d + 1) 130 56 [vA 1, vI x1, vI x2, vI x3, vI x4, vI x5, vI x6, u7] [] S M Q := by
  refine WP.gt 1 57 4 (0, 0, 0, 0) _ 61 rfl rfl ?_
  show WP PR (d + 1) 130 61 [vA 1, vI x1, vI x2, vI x3, vI x4, vI x5, vI x6, u7] [vI 1] S M Q
  refine WP.if0 2 68 65 .eq 23 (0, 0, 0, 0) 88 rfl rfl ?_
  refine ⟨fun h => absurd h (show ¬ ((1 : Int) = (0 : Int)) by decide), fun _ => ?_⟩
  show WP PR (d + 1) 130 68 [vA 1, vI x1, vI x2, vI x3, vI x4, vI x5, vI x6, vI 1] [] S M Q
  refine WP.ca 3 75 72 (.invokevirtual 321) (0, 129, 0, 0) rfl ?_
  exact ⟨rfl, rfl, rfl, lo1 L, rfl, k⟩
set_option maxRecDepth 100000 in
theorem b_X8_mostAlike_60 {d : Nat} {S : mSh} {M : mMem} {Q : Option mV → mSh → mMem → Prop} {x1 x2 x3 x4 x5 x6 : Int} {u7 : mV} (hc : R32 (x6 + 1)) (k : WP PR d 130 26 [vA 1, vI x1, vI x2, vI x3, vI x4, vI x5, vI (x6 + 1), vI 0] [] S M Q) : WP PR d 130 60 [vA 1, vI x1, vI x2, vI x3, vI x4, vI x5, vI x6, u7] [] S M Q := by
  refine WP.if0 3 68 65 .eq 23 (0, 0, 0, 0) 88 rfl rfl ?_
  refine ⟨fun _ => ?_, fun h => absurd (show (0 : Int) = (0 : Int) by decide) h⟩
  show WP PR d 130 88 [vA 1, vI x1, vI x2, vI x3, vI x4, vI x5, vI x6, vI 0] [] S M Q
  refine WP.gt 1 91 (-65) (0, 0, 0, 0) _ 26 rfl rfl ?_
  exact And.intro (hc) (k)
set_option maxRecDepth 100000 in
theorem b_X8_mostAlike_75 {d : Nat} {S : mSh} {M : mMem} {Q : Option mV → mSh → mMem → Prop} {x1 x2 x3 x4 x5 x6 x7 s0 : Int} (L : Lay S) (k : WP PR d 129 0 [vA 1, vI x6, vI x1] [] S M (fun r S2 M2 => WP PR (d + 1) 130 82 [vA 1, vI x1, vI x2, vI x3, vI x4, vI x5, vI x6, vI x7] (r.toList ++ [vI s0]) S2 M2 Q)) : WP PR (d + 1) 130 75 [vA 1, vI x1, vI x2, vI x3, vI x4, vI x5, vI x6, vI x7] [vI s0] S M Q := by
  refine WP.ca 3 82 79 (.invokevirtual 321) (0, 129, 0, 0) rfl ?_
  exact ⟨rfl, rfl, rfl, lo1 L, rfl, k⟩
set_option maxRecDepth 100000 in
theorem b_X8_mostAlike_82 {d : Nat} {S : mSh} {M : mMem} {Q : Option mV → mSh → mMem → Prop} {x1 x2 x3 x4 x5 x6 x7 s0 s1 : Int} (kt : ¬ s0 = s1 → WP PR d 130 88 [vA 1, vI x1, vI x2, vI x3, vI x4, vI x5, vI x6, vI x7] [] S M Q) (kf : s0 = s1 → WP PR d 130 85 [vA 1, vI x1, vI x2, vI x3, vI x4, vI x5, vI x6, vI x7] [] S M Q) : WP PR d 130 82 [vA 1, vI x1, vI x2, vI x3, vI x4, vI x5, vI x6, vI x7] [vI s1, vI s0] S M Q := by
  refine WP.if2 0 85 82 .ne 6 (0, 0, 0, 0) 88 rfl rfl ?_
  exact ⟨kt, fun hc => kf (Decidable.not_not.mp hc)⟩
set_option maxRecDepth 100000 in
theorem b_X8_mostAlike_85 {d : Nat} {S : mSh} {M : mMem} {Q : Option mV → mSh → mMem → Prop} {x1 x2 x3 x4 x5 x6 x7 : Int} (hc : R32 (x5 + 1) ∧ R32 (x6 + 1)) (k : WP PR d 130 26 [vA 1, vI x1, vI x2, vI x3, vI x4, vI (x5 + 1), vI (x6 + 1), vI x7] [] S M Q) : WP PR d 130 85 [vA 1, vI x1, vI x2, vI x3, vI x4, vI x5, vI x6, vI x7] [] S M Q := by
  refine WP.gt 2 91 (-65) (0, 0, 0, 0) _ 26 rfl rfl ?_
  exact And.intro (hc.1) (And.intro (hc.2) (k))
set_option maxRecDepth 100000 in
theorem b_X8_mostAlike_88 {d : Nat} {S : mSh} {M : mMem} {Q : Option mV → mSh → mMem → Prop} {x1 x2 x3 x4 x5 x6 x7 : Int} (hc : R32 (x6 + 1)) (k : WP PR d 130 26 [vA 1, vI x1, vI x2, vI x3, vI x4, vI x5, vI (x6 + 1), vI x7] [] S M Q) : WP PR d 130 88 [vA 1, vI x1, vI x2, vI x3, vI x4, vI x5, vI x6, vI x7] [] S M Q := by
  refine WP.gt 1 91 (-65) (0, 0, 0, 0) _ 26 rfl rfl ?_
  exact And.intro (hc) (k)
set_option maxRecDepth 100000 in
theorem b_X8_mostAlike_94 {d : Nat} {S : mSh} {M : mMem} {Q : Option mV → mSh → mMem → Prop} {x1 x2 x3 x4 x5 x6 : Int} {u7 : mV} (hc : R32 (x4 + 1)) (k : WP PR d 130 5 [vA 1, vI x1, vI x2, vI (if x3 < x5 then x5 else x3), vI (x4 + 1), vI x5, vI x6, u7] [] S M Q) : WP PR d 130 94 [vA 1, vI x1, vI x2, vI x3, vI x4, vI x5, vI x6, u7] [] S M Q := by
  refine WP.gt 5 104 (-99) (0, 0, 0, 0) _ 5 rfl rfl ?_
  exact And.intro (hc) (k)
set_option maxRecDepth 100000 in
theorem b_X8_mostAlike_107 {d : Nat} {S : mSh} {M : mMem} {Q : Option mV → mSh → mMem → Prop} {x1 x2 x3 x4 : Int} {u5 u6 u7 : mV} (k : Q (some (vI x3)) S M) : WP PR d 130 107 [vA 1, vI x1, vI x2, vI x3, vI x4, u5, u6, u7] [] S M Q := by
  refine WP.re 1 108 .ireturn (0, 0, 0, 0) _ rfl ?_
  exact ⟨rfl, rfl, trivial, k⟩
