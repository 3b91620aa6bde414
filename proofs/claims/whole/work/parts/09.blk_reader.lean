/-! Blocks (by program: wip/whole/gen3.py). -/
/-- SoleraCellar$Reader.<init>(LSoleraCellar$Tape;)V -/
abbrev e_X2_init (d : Nat) (a0 a1 : Int) (S : mSh) (M : mMem) (Q : Option mV → mSh → mMem → Prop) : Prop := WP PR d 13 0 [vA a0, vA a1] [] S M Q
/-- SoleraCellar$Reader.read(Z)I -/
abbrev e_X2_read (d : Nat) (a1 : Int) (S : mSh) (M : mMem) (Q : Option mV → mSh → mMem → Prop) : Prop := WP PR d 14 0 [vA 4, vI a1, vU] [] S M Q
set_option maxRecDepth 100000 in
theorem b_X2_read_0 {d : Nat} {S : mSh} {M : mMem} {Q : Option mV → mSh → mMem → Prop} {x1 : Int} (L : Lay S) (hc : (x1 = 0 ∨ x1 = 1)) (k : WP PR d 60 0 [vA 5] [] S (up M 4 2 x1) (fun r S2 M2 => WP PR (d + 1) 14 12 [vA 4, vI x1, vU] (r.toList ++ []) S2 M2 Q)) : WP PR (d + 1) 14 0 [vA 4, vI x1, vU] [] S M Q := by
  refine WP.ca 5 12 9 (.invokevirtual 28) (0, 60, 0, 0) rfl ?_
  exact And.intro (⟨lo4 L, hc⟩) (And.intro (⟨lo4 L, lf4_1 L⟩) (⟨rfl, rfl, rfl, lo5 L, rfl, k⟩))
set_option maxRecDepth 100000 in
theorem b_X2_read_12 {d : Nat} {S : mSh} {M : mMem} {Q : Option mV → mSh → mMem → Prop} {x1 : Int} {u2 : mV} (L : Lay S) (k : WP PR d 34 0 [vA 4, vU, vU, vU] [] S (up (up (up (up M 4 4 0) 4 7 0) 4 8 0) 4 9 (-1)) (fun r S2 M2 => WP PR (d + 1) 14 36 [vA 4, vI x1, u2] (r.toList ++ []) S2 M2 Q)) : WP PR (d + 1) 14 12 [vA 4, vI x1, u2] [] S M Q := by
  refine WP.ca 13 36 33 (.invokevirtual 44) (0, 34, 0, 0) rfl ?_
  exact And.intro (lo4 L) (And.intro (lo4 L) (And.intro (lo4 L) (And.intro (lo4 L) (⟨rfl, rfl, rfl, lo4 L, rfl, k⟩))))
set_option maxRecDepth 100000 in
theorem b_X2_read_36 {d : Nat} {S : mSh} {M : mMem} {Q : Option mV → mSh → mMem → Prop} {x1 : Int} {u2 : mV} (k : WP PR d 14 38 [vA 4, vI x1, vI 0] [] S M Q) : WP PR d 14 36 [vA 4, vI x1, u2] [] S M Q := by
  refine WP.bl 2 38 rfl ?_
  exact k
set_option maxRecDepth 100000 in
theorem b_X2_read_38 {d : Nat} {S : mSh} {M : mMem} {Q : Option mV → mSh → mMem → Prop} {x1 x2 : Int} (kt : 12 ≤ x2 → WP PR d 14 89 [vA 4, vI x1, vI x2] [] S M Q) (kf : x2 < 12 → WP PR d 14 44 [vA 4, vI x1, vI x2] [] S M Q) : WP PR d 14 38 [vA 4, vI x1, vI x2] [] S M Q := by
  refine WP.if2 2 44 41 .ge 48 (0, 0, 0, 0) 89 rfl rfl ?_
  exact ⟨kt, fun hc => kf (Int.not_le.mp hc)⟩
set_option maxRecDepth 100000 in
theorem b_X2_read_44 {d : Nat} {S : mSh} {M : mMem} {Q : Option mV → mSh → mMem → Prop} {x1 x2 : Int} (L : Lay S) (k : WP PR d 15 0 [vA 4, vU, vU] [] S M (fun r S2 M2 => WP PR (d + 1) 14 48 [vA 4, vI x1, vI x2] (r.toList ++ []) S2 M2 Q)) : WP PR (d + 1) 14 44 [vA 4, vI x1, vI x2] [] S M Q := by
  refine WP.ca 1 48 45 (.invokevirtual 47) (0, 15, 0, 0) rfl ?_
  exact ⟨rfl, rfl, rfl, lo4 L, rfl, k⟩
set_option maxRecDepth 100000 in
theorem b_X2_read_48 {d : Nat} {S : mSh} {M : mMem} {Q : Option mV → mSh → mMem → Prop} {x1 x2 s0 : Int} (kt : ¬ s0 = 0 → WP PR d 14 56 [vA 4, vI x1, vI x2] [] S M Q) (kf : s0 = 0 → WP PR d 14 51 [vA 4, vI x1, vI x2] [] S M Q) : WP PR d 14 48 [vA 4, vI x1, vI x2] [vI s0] S M Q := by
  refine WP.if0 0 51 48 .ne 8 (0, 0, 0, 0) 56 rfl rfl ?_
  exact ⟨kt, fun hc => kf (Decidable.not_not.mp hc)⟩
set_option maxRecDepth 100000 in
theorem b_X2_read_51 {d : Nat} {S : mSh} {M : mMem} {Q : Option mV → mSh → mMem → Prop} {x1 x2 : Int} (L : Lay S) (k : Q (some (vI (M 4 9))) S M) : WP PR d 14 51 [vA 4, vI x1, vI x2] [] S M Q := by
  refine WP.re 2 55 .ireturn (0, 0, 0, 0) _ rfl ?_
  exact And.intro (lo4 L) (⟨rfl, rfl, trivial, k⟩)
set_option maxRecDepth 100000 in
theorem b_X2_read_56 {d : Nat} {S : mSh} {M : mMem} {Q : Option mV → mSh → mMem → Prop} {x1 x2 : Int} (L : Lay S) (kt : ¬ M 4 5 = 0 → WP PR d 14 65 [vA 4, vI x1, vI x2] [] S M Q) (kf : M 4 5 = 0 → WP PR d 14 63 [vA 4, vI x1, vI x2] [] S M Q) : WP PR d 14 56 [vA 4, vI x1, vI x2] [] S M Q := by
  refine WP.if0 2 63 60 .ne 5 (0, 0, 0, 0) 65 rfl rfl ?_
  exact And.intro (lo4 L) (⟨kt, fun hc => kf (Decidable.not_not.mp hc)⟩)
set_option maxRecDepth 100000 in
theorem b_X2_read_63 {d : Nat} {S : mSh} {M : mMem} {Q : Option mV → mSh → mMem → Prop} {x1 x2 : Int} (k : Q (some (vI (-1))) S M) : WP PR d 14 63 [vA 4, vI x1, vI x2] [] S M Q := by
  refine WP.re 1 64 .ireturn (0, 0, 0, 0) _ rfl ?_
  exact ⟨rfl, rfl, trivial, k⟩
set_option maxRecDepth 100000 in
theorem b_X2_read_65 {d : Nat} {S : mSh} {M : mMem} {Q : Option mV → mSh → mMem → Prop} {x1 x2 : Int} (L : Lay S) (k : WP PR d 33 0 [vA 4, vA (-54), vU] [] S M (fun r S2 M2 => WP PR (d + 1) 14 71 [vA 4, vI x1, vI x2] (r.toList ++ []) S2 M2 Q)) : WP PR (d + 1) 14 65 [vA 4, vI x1, vI x2] [] S M Q := by
  refine WP.ca 2 71 68 (.invokevirtual 56) (0, 33, 0, 0) rfl ?_
  exact ⟨rfl, rfl, rfl, lo4 L, rfl, k⟩
set_option maxRecDepth 100000 in
theorem b_X2_read_71 {d : Nat} {S : mSh} {M : mMem} {Q : Option mV → mSh → mMem → Prop} {x1 x2 s0 : Int} (kt : ¬ s0 = 0 → WP PR d 14 79 [vA 4, vI x1, vI x2] [] S M Q) (kf : s0 = 0 → WP PR d 14 74 [vA 4, vI x1, vI x2] [] S M Q) : WP PR d 14 71 [vA 4, vI x1, vI x2] [vI s0] S M Q := by
  refine WP.if0 0 74 71 .ne 8 (0, 0, 0, 0) 79 rfl rfl ?_
  exact ⟨kt, fun hc => kf (Decidable.not_not.mp hc)⟩
set_option maxRecDepth 100000 in
theorem b_X2_read_74 {d : Nat} {S : mSh} {M : mMem} {Q : Option mV → mSh → mMem → Prop} {x1 x2 : Int} (L : Lay S) (k : Q (some (vI (M 4 3))) S M) : WP PR d 14 74 [vA 4, vI x1, vI x2] [] S M Q := by
  refine WP.re 2 78 .ireturn (0, 0, 0, 0) _ rfl ?_
  exact And.intro (lo4 L) (⟨rfl, rfl, trivial, k⟩)
set_option maxRecDepth 100000 in
theorem b_X2_read_79 {d : Nat} {S : mSh} {M : mMem} {Q : Option mV → mSh → mMem → Prop} {x1 x2 : Int} (L : Lay S) (k : WP PR d 34 0 [vA 4, vU, vU, vU] [] S M (fun r S2 M2 => WP PR (d + 1) 14 83 [vA 4, vI x1, vI x2] (r.toList ++ []) S2 M2 Q)) : WP PR (d + 1) 14 79 [vA 4, vI x1, vI x2] [] S M Q := by
  refine WP.ca 1 83 80 (.invokevirtual 44) (0, 34, 0, 0) rfl ?_
  exact ⟨rfl, rfl, rfl, lo4 L, rfl, k⟩
set_option maxRecDepth 100000 in
theorem b_X2_read_83 {d : Nat} {S : mSh} {M : mMem} {Q : Option mV → mSh → mMem → Prop} {x1 x2 : Int} (hc : R32 (x2 + 1)) (k : WP PR d 14 38 [vA 4, vI x1, vI (x2 + 1)] [] S M Q) : WP PR d 14 83 [vA 4, vI x1, vI x2] [] S M Q := by
  refine WP.gt 1 86 (-48) (0, 0, 0, 0) _ 38 rfl rfl ?_
  exact And.intro (hc) (k)
set_option maxRecDepth 100000 in
theorem b_X2_read_89 {d : Nat} {S : mSh} {M : mMem} {Q : Option mV → mSh → mMem → Prop} {x1 x2 : Int} (L : Lay S) (k : Q (some (vI (M 4 3))) S M) : WP PR d 14 89 [vA 4, vI x1, vI x2] [] S M Q := by
  refine WP.re 2 93 .ireturn (0, 0, 0, 0) _ rfl ?_
  exact And.intro (lo4 L) (⟨rfl, rfl, trivial, k⟩)
/-- SoleraCellar$Reader.clause()Z -/
abbrev e_X2_clause (d : Nat) (S : mSh) (M : mMem) (Q : Option mV → mSh → mMem → Prop) : Prop := WP PR d 15 0 [vA 4, vU, vU] [] S M Q
set_option maxRecDepth 100000 in
theorem b_X2_clause_0 {d : Nat} {S : mSh} {M : mMem} {Q : Option mV → mSh → mMem → Prop} (L : Lay S) (kt : M 4 2 = 0 → WP PR d 15 14 [vA 4, vU, vU] [] S M Q) (kf : ¬ M 4 2 = 0 → WP PR d 15 7 [vA 4, vU, vU] [] S M Q) : WP PR d 15 0 [vA 4, vU, vU] [] S M Q := by
  refine WP.if0 2 7 4 .eq 10 (0, 0, 0, 0) 14 rfl rfl ?_
  exact And.intro (lo4 L) (⟨kt, fun hc => kf hc⟩)
set_option maxRecDepth 100000 in
theorem b_X2_clause_7 {d : Nat} {S : mSh} {M : mMem} {Q : Option mV → mSh → mMem → Prop} {u1 u2 : mV} (L : Lay S) (k : WP PR d 16 0 [vA 4] [] S M (fun r S2 M2 => WP PR (d + 1) 15 11 [vA 4, u1, u2] (r.toList ++ []) S2 M2 Q)) : WP PR (d + 1) 15 7 [vA 4, u1, u2] [] S M Q := by
  refine WP.ca 1 11 8 (.invokevirtual 63) (0, 16, 0, 0) rfl ?_
  exact ⟨rfl, rfl, rfl, lo4 L, rfl, k⟩
set_option maxRecDepth 100000 in
theorem b_X2_clause_11 {d : Nat} {S : mSh} {M : mMem} {Q : Option mV → mSh → mMem → Prop} {s0 : Int} {u1 u2 : mV} (kt : ¬ s0 = (-1) → WP PR d 15 29 [vA 4, vI s0, u2] [] S M Q) (kf : s0 = (-1) → WP PR d 15 24 [vA 4, vI s0, u2] [] S M Q) : WP PR d 15 11 [vA 4, u1, u2] [vI s0] S M Q := by
  refine WP.gt 0 11 7 (0, 0, 0, 0) _ 18 rfl rfl ?_
  show WP PR d 15 18 [vA 4, u1, u2] [vI s0] S M Q
  refine WP.if2 3 24 21 .ne 8 (0, 0, 0, 0) 29 rfl rfl ?_
  exact ⟨kt, fun hc => kf (Decidable.not_not.mp hc)⟩
set_option maxRecDepth 100000 in
theorem b_X2_clause_14 {d : Nat} {S : mSh} {M : mMem} {Q : Option mV → mSh → mMem → Prop} {u1 u2 : mV} (L : Lay S) (k : WP PR d 17 0 [vA 4] [] S M (fun r S2 M2 => WP PR (d + 1) 15 18 [vA 4, u1, u2] (r.toList ++ []) S2 M2 Q)) : WP PR (d + 1) 15 14 [vA 4, u1, u2] [] S M Q := by
  refine WP.ca 1 18 15 (.invokevirtual 67) (0, 17, 0, 0) rfl ?_
  exact ⟨rfl, rfl, rfl, lo4 L, rfl, k⟩
set_option maxRecDepth 100000 in
theorem b_X2_clause_18 {d : Nat} {S : mSh} {M : mMem} {Q : Option mV → mSh → mMem → Prop} {s0 : Int} {u1 u2 : mV} (kt : ¬ s0 = (-1) → WP PR d 15 29 [vA 4, vI s0, u2] [] S M Q) (kf : s0 = (-1) → WP PR d 15 24 [vA 4, vI s0, u2] [] S M Q) : WP PR d 15 18 [vA 4, u1, u2] [vI s0] S M Q := by
  refine WP.if2 3 24 21 .ne 8 (0, 0, 0, 0) 29 rfl rfl ?_
  exact ⟨kt, fun hc => kf (Decidable.not_not.mp hc)⟩
set_option maxRecDepth 100000 in
theorem b_X2_clause_24 {d : Nat} {S : mSh} {M : mMem} {Q : Option mV → mSh → mMem → Prop} {x1 : Int} {u2 : mV} (L : Lay S) (k : WP PR d 32 0 [vA 4] [] S M (fun r S2 M2 => WP PR (d + 1) 15 28 [vA 4, vI x1, u2] (r.toList ++ []) S2 M2 Q)) : WP PR (d + 1) 15 24 [vA 4, vI x1, u2] [] S M Q := by
  refine WP.ca 1 28 25 (.invokevirtual 70) (0, 32, 0, 0) rfl ?_
  exact ⟨rfl, rfl, rfl, lo4 L, rfl, k⟩
set_option maxRecDepth 100000 in
theorem b_X2_clause_28 {d : Nat} {S : mSh} {M : mMem} {Q : Option mV → mSh → mMem → Prop} {x1 s0 : Int} {u2 : mV} (hc : (s0 = 0 ∨ s0 = 1)) (k : Q (some (vI s0)) S M) : WP PR d 15 28 [vA 4, vI x1, u2] [vI s0] S M Q := by
  refine WP.re 0 28 .ireturn (0, 0, 0, 0) _ rfl ?_
  exact ⟨rfl, rfl, hc, k⟩
set_option maxRecDepth 100000 in
theorem b_X2_clause_29 {d : Nat} {S : mSh} {M : mMem} {Q : Option mV → mSh → mMem → Prop} {x1 : Int} {u2 : mV} (L : Lay S) (k : WP PR d 61 0 [vA 5, vI x1, vU] [] S M (fun r S2 M2 => WP PR (d + 1) 15 37 [vA 4, vI x1, u2] (r.toList ++ []) S2 M2 Q)) : WP PR (d + 1) 15 29 [vA 4, vI x1, u2] [] S M Q := by
  refine WP.ca 3 37 34 (.invokevirtual 73) (0, 61, 0, 0) rfl ?_
  exact And.intro (⟨lo4 L, lf4_1 L⟩) (⟨rfl, rfl, rfl, lo5 L, rfl, k⟩)
set_option maxRecDepth 100000 in
theorem b_X2_clause_37 {d : Nat} {S : mSh} {M : mMem} {Q : Option mV → mSh → mMem → Prop} {x1 : Int} {u2 : mV} (L : Lay S) (k : WP PR d 34 0 [vA 4, vU, vU, vU] [] S M (fun r S2 M2 => WP PR (d + 1) 15 41 [vA 4, vI x1, u2] (r.toList ++ []) S2 M2 Q)) : WP PR (d + 1) 15 37 [vA 4, vI x1, u2] [] S M Q := by
  refine WP.ca 1 41 38 (.invokevirtual 44) (0, 34, 0, 0) rfl ?_
  exact ⟨rfl, rfl, rfl, lo4 L, rfl, k⟩
set_option maxRecDepth 100000 in
theorem b_X2_clause_41 {d : Nat} {S : mSh} {M : mMem} {Q : Option mV → mSh → mMem → Prop} {x1 : Int} {u2 : mV} (k : WP PR d 15 43 [vA 4, vI x1, vI 0] [] S M Q) : WP PR d 15 41 [vA 4, vI x1, u2] [] S M Q := by
  refine WP.bl 2 43 rfl ?_
  exact k
set_option maxRecDepth 100000 in
theorem b_X2_clause_43 {d : Nat} {S : mSh} {M : mMem} {Q : Option mV → mSh → mMem → Prop} {x1 x2 : Int} (k : WP PR d 18 0 [vI x1] [] S M (fun r S2 M2 => WP PR (d + 1) 15 48 [vA 4, vI x1, vI x2] (r.toList ++ [vI x2]) S2 M2 Q)) : WP PR (d + 1) 15 43 [vA 4, vI x1, vI x2] [] S M Q := by
  refine WP.ca 2 48 45 (.invokestatic 77) (0, 18, 0, 0) rfl ?_
  exact ⟨rfl, rfl, rfl, trivial, rfl, k⟩
set_option maxRecDepth 100000 in
theorem b_X2_clause_48 {d : Nat} {S : mSh} {M : mMem} {Q : Option mV → mSh → mMem → Prop} {x1 x2 s0 s1 : Int} (kt : s1 ≤ s0 → WP PR d 15 110 [vA 4, vI x1, vI x2] [] S M Q) (kf : s0 < s1 → WP PR d 15 51 [vA 4, vI x1, vI x2] [] S M Q) : WP PR d 15 48 [vA 4, vI x1, vI x2] [vI s1, vI s0] S M Q := by
  refine WP.if2 0 51 48 .ge 62 (0, 0, 0, 0) 110 rfl rfl ?_
  exact ⟨kt, fun hc => kf (Int.not_le.mp hc)⟩
set_option maxRecDepth 100000 in
theorem b_X2_clause_51 {d : Nat} {S : mSh} {M : mMem} {Q : Option mV → mSh → mMem → Prop} {x1 x2 : Int} (kt : x2 ≤ 0 → WP PR d 15 87 [vA 4, vI x1, vI x2] [] S M Q) (kf : 0 < x2 → WP PR d 15 55 [vA 4, vI x1, vI x2] [] S M Q) : WP PR d 15 51 [vA 4, vI x1, vI x2] [] S M Q := by
  refine WP.if0 1 55 52 .le 35 (0, 0, 0, 0) 87 rfl rfl ?_
  exact ⟨kt, fun hc => kf (Int.not_le.mp hc)⟩
set_option maxRecDepth 100000 in
theorem b_X2_clause_55 {d : Nat} {S : mSh} {M : mMem} {Q : Option mV → mSh → mMem → Prop} {x1 x2 : Int} (kt : ¬ x2 = 1 → WP PR d 15 70 [vA 4, vI x1, vI x2] [vA 4] S M Q) (kf : x2 = 1 → WP PR d 15 61 [vA 4, vI x1, vI x2] [vA 4] S M Q) : WP PR d 15 55 [vA 4, vI x1, vI x2] [] S M Q := by
  refine WP.if2 3 61 58 .ne 12 (0, 0, 0, 0) 70 rfl rfl ?_
  exact ⟨kt, fun hc => kf (Decidable.not_not.mp hc)⟩
set_option maxRecDepth 100000 in
theorem b_X2_clause_61 {d : Nat} {S : mSh} {M : mMem} {Q : Option mV → mSh → mMem → Prop} {x1 x2 : Int} (kt : x1 = 0 → WP PR d 15 70 [vA 4, vI x1, vI x2] [vA 4] S M Q) (kf : ¬ x1 = 0 → WP PR d 15 65 [vA 4, vI x1, vI x2] [vA 4] S M Q) : WP PR d 15 61 [vA 4, vI x1, vI x2] [vA 4] S M Q := by
  refine WP.if0 1 65 62 .eq 8 (0, 0, 0, 0) 70 rfl rfl ?_
  exact ⟨kt, fun hc => kf hc⟩
set_option maxRecDepth 100000 in
theorem b_X2_clause_65 {d : Nat} {S : mSh} {M : mMem} {Q : Option mV → mSh → mMem → Prop} {x1 x2 : Int} (L : Lay S) (k : WP PR d 33 0 [vA 4, vA (-81), vU] [] S M (fun r S2 M2 => WP PR (d + 1) 15 75 [vA 4, vI x1, vI x2] (r.toList ++ []) S2 M2 Q)) : WP PR (d + 1) 15 65 [vA 4, vI x1, vI x2] [vA 4] S M Q := by
  refine WP.gt 1 67 5 (0, 0, 0, 0) _ 72 rfl rfl ?_
  show WP PR (d + 1) 15 72 [vA 4, vI x1, vI x2] [vA (-81), vA 4] S M Q
  refine WP.ca 0 75 72 (.invokevirtual 56) (0, 33, 0, 0) rfl ?_
  exact ⟨rfl, rfl, rfl, lo4 L, rfl, k⟩
set_option maxRecDepth 100000 in
theorem b_X2_clause_70 {d : Nat} {S : mSh} {M : mMem} {Q : Option mV → mSh → mMem → Prop} {x1 x2 : Int} (L : Lay S) (k : WP PR d 33 0 [vA 4, vA (-83), vU] [] S M (fun r S2 M2 => WP PR (d + 1) 15 75 [vA 4, vI x1, vI x2] (r.toList ++ []) S2 M2 Q)) : WP PR (d + 1) 15 70 [vA 4, vI x1, vI x2] [vA 4] S M Q := by
  refine WP.ca 1 75 72 (.invokevirtual 56) (0, 33, 0, 0) rfl ?_
  exact ⟨rfl, rfl, rfl, lo4 L, rfl, k⟩
set_option maxRecDepth 100000 in
theorem b_X2_clause_75 {d : Nat} {S : mSh} {M : mMem} {Q : Option mV → mSh → mMem → Prop} {x1 x2 s0 : Int} (kt : ¬ s0 = 0 → WP PR d 15 83 [vA 4, vI x1, vI x2] [] S M Q) (kf : s0 = 0 → WP PR d 15 78 [vA 4, vI x1, vI x2] [] S M Q) : WP PR d 15 75 [vA 4, vI x1, vI x2] [vI s0] S M Q := by
  refine WP.if0 0 78 75 .ne 8 (0, 0, 0, 0) 83 rfl rfl ?_
  exact ⟨kt, fun hc => kf (Decidable.not_not.mp hc)⟩
set_option maxRecDepth 100000 in
theorem b_X2_clause_78 {d : Nat} {S : mSh} {M : mMem} {Q : Option mV → mSh → mMem → Prop} {x1 x2 : Int} (L : Lay S) (k : WP PR d 32 0 [vA 4] [] S M (fun r S2 M2 => WP PR (d + 1) 15 82 [vA 4, vI x1, vI x2] (r.toList ++ []) S2 M2 Q)) : WP PR (d + 1) 15 78 [vA 4, vI x1, vI x2] [] S M Q := by
  refine WP.ca 1 82 79 (.invokevirtual 70) (0, 32, 0, 0) rfl ?_
  exact ⟨rfl, rfl, rfl, lo4 L, rfl, k⟩
set_option maxRecDepth 100000 in
theorem b_X2_clause_82 {d : Nat} {S : mSh} {M : mMem} {Q : Option mV → mSh → mMem → Prop} {x1 x2 s0 : Int} (hc : (s0 = 0 ∨ s0 = 1)) (k : Q (some (vI s0)) S M) : WP PR d 15 82 [vA 4, vI x1, vI x2] [vI s0] S M Q := by
  refine WP.re 0 82 .ireturn (0, 0, 0, 0) _ rfl ?_
  exact ⟨rfl, rfl, hc, k⟩
set_option maxRecDepth 100000 in
theorem b_X2_clause_83 {d : Nat} {S : mSh} {M : mMem} {Q : Option mV → mSh → mMem → Prop} {x1 x2 : Int} (L : Lay S) (k : WP PR d 34 0 [vA 4, vU, vU, vU] [] S M (fun r S2 M2 => WP PR (d + 1) 15 87 [vA 4, vI x1, vI x2] (r.toList ++ []) S2 M2 Q)) : WP PR (d + 1) 15 83 [vA 4, vI x1, vI x2] [] S M Q := by
  refine WP.ca 1 87 84 (.invokevirtual 44) (0, 34, 0, 0) rfl ?_
  exact ⟨rfl, rfl, rfl, lo4 L, rfl, k⟩
set_option maxRecDepth 100000 in
theorem b_X2_clause_87 {d : Nat} {S : mSh} {M : mMem} {Q : Option mV → mSh → mMem → Prop} {x1 x2 : Int} (L : Lay S) (k : WP PR d 24 0 [vA 4, vU, vU, vU] [] S M (fun r S2 M2 => WP PR (d + 1) 15 91 [vA 4, vI x1, vI x2] (r.toList ++ []) S2 M2 Q)) : WP PR (d + 1) 15 87 [vA 4, vI x1, vI x2] [] S M Q := by
  refine WP.ca 1 91 88 (.invokevirtual 85) (0, 24, 0, 0) rfl ?_
  exact ⟨rfl, rfl, rfl, lo4 L, rfl, k⟩
set_option maxRecDepth 100000 in
theorem b_X2_clause_91 {d : Nat} {S : mSh} {M : mMem} {Q : Option mV → mSh → mMem → Prop} {x1 x2 s0 : Int} (kt : ¬ s0 = 0 → WP PR d 15 96 [vA 4, vI x1, vI x2] [] S M Q) (kf : s0 = 0 → WP PR d 15 94 [vA 4, vI x1, vI x2] [] S M Q) : WP PR d 15 91 [vA 4, vI x1, vI x2] [vI s0] S M Q := by
  refine WP.if0 0 94 91 .ne 5 (0, 0, 0, 0) 96 rfl rfl ?_
  exact ⟨kt, fun hc => kf (Decidable.not_not.mp hc)⟩
set_option maxRecDepth 100000 in
theorem b_X2_clause_94 {d : Nat} {S : mSh} {M : mMem} {Q : Option mV → mSh → mMem → Prop} {x1 x2 : Int} (k : Q (some (vI 0)) S M) : WP PR d 15 94 [vA 4, vI x1, vI x2] [] S M Q := by
  refine WP.re 1 95 .ireturn (0, 0, 0, 0) _ rfl ?_
  exact ⟨rfl, rfl, Or.inl rfl, k⟩
set_option maxRecDepth 100000 in
theorem b_X2_clause_96 {d : Nat} {S : mSh} {M : mMem} {Q : Option mV → mSh → mMem → Prop} {x1 x2 : Int} (L : Lay S) (k : WP PR d 63 0 [vA 5, vI x2, vU, vU] [] S M (fun r S2 M2 => WP PR (d + 1) 15 104 [vA 4, vI x1, vI x2] (r.toList ++ []) S2 M2 Q)) : WP PR (d + 1) 15 96 [vA 4, vI x1, vI x2] [] S M Q := by
  refine WP.ca 3 104 101 (.invokevirtual 88) (0, 63, 0, 0) rfl ?_
  exact And.intro (⟨lo4 L, lf4_1 L⟩) (⟨rfl, rfl, rfl, lo5 L, rfl, k⟩)
set_option maxRecDepth 100000 in
theorem b_X2_clause_104 {d : Nat} {S : mSh} {M : mMem} {Q : Option mV → mSh → mMem → Prop} {x1 x2 : Int} (hc : R32 (x2 + 1)) (k : WP PR d 15 43 [vA 4, vI x1, vI (x2 + 1)] [] S M Q) : WP PR d 15 104 [vA 4, vI x1, vI x2] [] S M Q := by
  refine WP.gt 1 107 (-64) (0, 0, 0, 0) _ 43 rfl rfl ?_
  exact And.intro (hc) (k)
set_option maxRecDepth 100000 in
theorem b_X2_clause_110 {d : Nat} {S : mSh} {M : mMem} {Q : Option mV → mSh → mMem → Prop} {x1 x2 : Int} (L : Lay S) (k : WP PR d 19 0 [vA 4] [] S M (fun r S2 M2 => WP PR (d + 1) 15 114 [vA 4, vI x1, vI x2] (r.toList ++ []) S2 M2 Q)) : WP PR (d + 1) 15 110 [vA 4, vI x1, vI x2] [] S M Q := by
  refine WP.ca 1 114 111 (.invokevirtual 91) (0, 19, 0, 0) rfl ?_
  exact ⟨rfl, rfl, rfl, lo4 L, rfl, k⟩
set_option maxRecDepth 100000 in
theorem b_X2_clause_114 {d : Nat} {S : mSh} {M : mMem} {Q : Option mV → mSh → mMem → Prop} {x1 x2 s0 : Int} (kt : ¬ s0 = 0 → WP PR d 15 119 [vA 4, vI x1, vI x2] [] S M Q) (kf : s0 = 0 → WP PR d 15 117 [vA 4, vI x1, vI x2] [] S M Q) : WP PR d 15 114 [vA 4, vI x1, vI x2] [vI s0] S M Q := by
  refine WP.if0 0 117 114 .ne 5 (0, 0, 0, 0) 119 rfl rfl ?_
  exact ⟨kt, fun hc => kf (Decidable.not_not.mp hc)⟩
set_option maxRecDepth 100000 in
theorem b_X2_clause_117 {d : Nat} {S : mSh} {M : mMem} {Q : Option mV → mSh → mMem → Prop} {x1 x2 : Int} (k : Q (some (vI 0)) S M) : WP PR d 15 117 [vA 4, vI x1, vI x2] [] S M Q := by
  refine WP.re 1 118 .ireturn (0, 0, 0, 0) _ rfl ?_
  exact ⟨rfl, rfl, Or.inl rfl, k⟩
set_option maxRecDepth 100000 in
theorem b_X2_clause_119 {d : Nat} {S : mSh} {M : mMem} {Q : Option mV → mSh → mMem → Prop} {x1 x2 : Int} (L : Lay S) (k : WP PR d 33 0 [vA 4, vA (-94), vU] [] S M (fun r S2 M2 => WP PR (d + 1) 15 125 [vA 4, vI x1, vI x2] (r.toList ++ []) S2 M2 Q)) : WP PR (d + 1) 15 119 [vA 4, vI x1, vI x2] [] S M Q := by
  refine WP.ca 2 125 122 (.invokevirtual 56) (0, 33, 0, 0) rfl ?_
  exact ⟨rfl, rfl, rfl, lo4 L, rfl, k⟩
set_option maxRecDepth 100000 in
theorem b_X2_clause_125 {d : Nat} {S : mSh} {M : mMem} {Q : Option mV → mSh → mMem → Prop} {x1 x2 s0 : Int} (kt : ¬ s0 = 0 → WP PR d 15 130 [vA 4, vI x1, vI x2] [] S M Q) (kf : s0 = 0 → WP PR d 15 128 [vA 4, vI x1, vI x2] [] S M Q) : WP PR d 15 125 [vA 4, vI x1, vI x2] [vI s0] S M Q := by
  refine WP.if0 0 128 125 .ne 5 (0, 0, 0, 0) 130 rfl rfl ?_
  exact ⟨kt, fun hc => kf (Decidable.not_not.mp hc)⟩
set_option maxRecDepth 100000 in
theorem b_X2_clause_128 {d : Nat} {S : mSh} {M : mMem} {Q : Option mV → mSh → mMem → Prop} {x1 x2 : Int} (k : Q (some (vI 1)) S M) : WP PR d 15 128 [vA 4, vI x1, vI x2] [] S M Q := by
  refine WP.re 1 129 .ireturn (0, 0, 0, 0) _ rfl ?_
  exact ⟨rfl, rfl, Or.inr rfl, k⟩
set_option maxRecDepth 100000 in
theorem b_X2_clause_130 {d : Nat} {S : mSh} {M : mMem} {Q : Option mV → mSh → mMem → Prop} {x1 x2 : Int} (L : Lay S) (k : WP PR d 34 0 [vA 4, vU, vU, vU] [] S M (fun r S2 M2 => WP PR (d + 1) 15 134 [vA 4, vI x1, vI x2] (r.toList ++ []) S2 M2 Q)) : WP PR (d + 1) 15 130 [vA 4, vI x1, vI x2] [] S M Q := by
  refine WP.ca 1 134 131 (.invokevirtual 44) (0, 34, 0, 0) rfl ?_
  exact ⟨rfl, rfl, rfl, lo4 L, rfl, k⟩
set_option maxRecDepth 100000 in
theorem b_X2_clause_134 {d : Nat} {S : mSh} {M : mMem} {Q : Option mV → mSh → mMem → Prop} {x1 x2 : Int} (L : Lay S) (k : WP PR d 20 0 [vA 4, vU, vU, vU] [] S M (fun r S2 M2 => WP PR (d + 1) 15 138 [vA 4, vI x1, vI x2] (r.toList ++ []) S2 M2 Q)) : WP PR (d + 1) 15 134 [vA 4, vI x1, vI x2] [] S M Q := by
  refine WP.ca 1 138 135 (.invokevirtual 96) (0, 20, 0, 0) rfl ?_
  exact ⟨rfl, rfl, rfl, lo4 L, rfl, k⟩
set_option maxRecDepth 100000 in
theorem b_X2_clause_138 {d : Nat} {S : mSh} {M : mMem} {Q : Option mV → mSh → mMem → Prop} {x1 x2 s0 : Int} (L : Lay S) (k : WP PR d 63 0 [vA 5, vI 3, vU, vU] [] S M (fun r S2 M2 => WP PR (d + 1) 15 147 [vA 4, vI x1, vI s0] (r.toList ++ []) S2 M2 Q)) : WP PR (d + 1) 15 138 [vA 4, vI x1, vI x2] [vI s0] S M Q := by
  refine WP.ca 4 147 144 (.invokevirtual 88) (0, 63, 0, 0) rfl ?_
  exact And.intro (⟨lo4 L, lf4_1 L⟩) (⟨rfl, rfl, rfl, lo5 L, rfl, k⟩)
set_option maxRecDepth 100000 in
theorem b_X2_clause_147 {d : Nat} {S : mSh} {M : mMem} {Q : Option mV → mSh → mMem → Prop} {x1 x2 : Int} (hc : (x2 = 0 ∨ x2 = 1)) (k : Q (some (vI x2)) S M) : WP PR d 15 147 [vA 4, vI x1, vI x2] [] S M Q := by
  refine WP.re 1 148 .ireturn (0, 0, 0, 0) _ rfl ?_
  exact ⟨rfl, rfl, hc, k⟩
/-- SoleraCellar$Reader.lawVerb()I -/
abbrev e_X2_lawVerb (d : Nat) (S : mSh) (M : mMem) (Q : Option mV → mSh → mMem → Prop) : Prop := WP PR d 16 0 [vA 4] [] S M Q
set_option maxRecDepth 100000 in
theorem b_X2_lawVerb_0 {d : Nat} {S : mSh} {M : mMem} {Q : Option mV → mSh → mMem → Prop} (L : Lay S) (k : WP PR d 33 0 [vA 4, vA (-99), vU] [] S M (fun r S2 M2 => WP PR (d + 1) 16 6 [vA 4] (r.toList ++ []) S2 M2 Q)) : WP PR (d + 1) 16 0 [vA 4] [] S M Q := by
  refine WP.ca 2 6 3 (.invokevirtual 56) (0, 33, 0, 0) rfl ?_
  exact ⟨rfl, rfl, rfl, lo4 L, rfl, k⟩
set_option maxRecDepth 100000 in
theorem b_X2_lawVerb_6 {d : Nat} {S : mSh} {M : mMem} {Q : Option mV → mSh → mMem → Prop} {s0 : Int} (kt : s0 = 0 → WP PR d 16 11 [vA 4] [] S M Q) (kf : ¬ s0 = 0 → WP PR d 16 9 [vA 4] [] S M Q) : WP PR d 16 6 [vA 4] [vI s0] S M Q := by
  refine WP.if0 0 9 6 .eq 5 (0, 0, 0, 0) 11 rfl rfl ?_
  exact ⟨kt, fun hc => kf hc⟩
set_option maxRecDepth 100000 in
theorem b_X2_lawVerb_9 {d : Nat} {S : mSh} {M : mMem} {Q : Option mV → mSh → mMem → Prop} (k : Q (some (vI 4)) S M) : WP PR d 16 9 [vA 4] [] S M Q := by
  refine WP.re 1 10 .ireturn (0, 0, 0, 0) _ rfl ?_
  exact ⟨rfl, rfl, trivial, k⟩
set_option maxRecDepth 100000 in
theorem b_X2_lawVerb_11 {d : Nat} {S : mSh} {M : mMem} {Q : Option mV → mSh → mMem → Prop} (L : Lay S) (k : WP PR d 33 0 [vA 4, vA (-101), vU] [] S M (fun r S2 M2 => WP PR (d + 1) 16 17 [vA 4] (r.toList ++ []) S2 M2 Q)) : WP PR (d + 1) 16 11 [vA 4] [] S M Q := by
  refine WP.ca 2 17 14 (.invokevirtual 56) (0, 33, 0, 0) rfl ?_
  exact ⟨rfl, rfl, rfl, lo4 L, rfl, k⟩
set_option maxRecDepth 100000 in
theorem b_X2_lawVerb_17 {d : Nat} {S : mSh} {M : mMem} {Q : Option mV → mSh → mMem → Prop} {s0 : Int} (kt : s0 = 0 → WP PR d 16 22 [vA 4] [] S M Q) (kf : ¬ s0 = 0 → WP PR d 16 20 [vA 4] [] S M Q) : WP PR d 16 17 [vA 4] [vI s0] S M Q := by
  refine WP.if0 0 20 17 .eq 5 (0, 0, 0, 0) 22 rfl rfl ?_
  exact ⟨kt, fun hc => kf hc⟩
set_option maxRecDepth 100000 in
theorem b_X2_lawVerb_20 {d : Nat} {S : mSh} {M : mMem} {Q : Option mV → mSh → mMem → Prop} (k : Q (some (vI 5)) S M) : WP PR d 16 20 [vA 4] [] S M Q := by
  refine WP.re 1 21 .ireturn (0, 0, 0, 0) _ rfl ?_
  exact ⟨rfl, rfl, trivial, k⟩
set_option maxRecDepth 100000 in
theorem b_X2_lawVerb_22 {d : Nat} {S : mSh} {M : mMem} {Q : Option mV → mSh → mMem → Prop} (L : Lay S) (k : WP PR d 33 0 [vA 4, vA (-103), vU] [] S M (fun r S2 M2 => WP PR (d + 1) 16 28 [vA 4] (r.toList ++ []) S2 M2 Q)) : WP PR (d + 1) 16 22 [vA 4] [] S M Q := by
  refine WP.ca 2 28 25 (.invokevirtual 56) (0, 33, 0, 0) rfl ?_
  exact ⟨rfl, rfl, rfl, lo4 L, rfl, k⟩
set_option maxRecDepth 100000 in
theorem b_X2_lawVerb_28 {d : Nat} {S : mSh} {M : mMem} {Q : Option mV → mSh → mMem → Prop} {s0 : Int} (kt : s0 = 0 → WP PR d 16 36 [vA 4] [] S M Q) (kf : ¬ s0 = 0 → WP PR d 16 31 [vA 4] [] S M Q) : WP PR d 16 28 [vA 4] [vI s0] S M Q := by
  refine WP.if0 0 31 28 .eq 8 (0, 0, 0, 0) 36 rfl rfl ?_
  exact ⟨kt, fun hc => kf hc⟩
set_option maxRecDepth 100000 in
theorem b_X2_lawVerb_31 {d : Nat} {S : mSh} {M : mMem} {Q : Option mV → mSh → mMem → Prop} (k : Q (some (vI 6)) S M) : WP PR d 16 31 [vA 4] [] S M Q := by
  refine WP.gt 1 33 4 (0, 0, 0, 0) _ 37 rfl rfl ?_
  show WP PR d 16 37 [vA 4] [vI 6] S M Q
  refine WP.re 0 37 .ireturn (0, 0, 0, 0) _ rfl ?_
  exact ⟨rfl, rfl, trivial, k⟩
set_option maxRecDepth 100000 in
theorem b_X2_lawVerb_36 {d : Nat} {S : mSh} {M : mMem} {Q : Option mV → mSh → mMem → Prop} (k : Q (some (vI (-1))) S M) : WP PR d 16 36 [vA 4] [] S M Q := by
  refine WP.re 1 37 .ireturn (0, 0, 0, 0) _ rfl ?_
  exact ⟨rfl, rfl, trivial, k⟩
/-- SoleraCellar$Reader.orderVerb()I -/
abbrev e_X2_orderVerb (d : Nat) (S : mSh) (M : mMem) (Q : Option mV → mSh → mMem → Prop) : Prop := WP PR d 17 0 [vA 4] [] S M Q
set_option maxRecDepth 100000 in
theorem b_X2_orderVerb_0 {d : Nat} {S : mSh} {M : mMem} {Q : Option mV → mSh → mMem → Prop} (L : Lay S) (k : WP PR d 33 0 [vA 4, vA (-105), vU] [] S M (fun r S2 M2 => WP PR (d + 1) 17 6 [vA 4] (r.toList ++ []) S2 M2 Q)) : WP PR (d + 1) 17 0 [vA 4] [] S M Q := by
  refine WP.ca 2 6 3 (.invokevirtual 56) (0, 33, 0, 0) rfl ?_
  exact ⟨rfl, rfl, rfl, lo4 L, rfl, k⟩
set_option maxRecDepth 100000 in
theorem b_X2_orderVerb_6 {d : Nat} {S : mSh} {M : mMem} {Q : Option mV → mSh → mMem → Prop} {s0 : Int} (kt : s0 = 0 → WP PR d 17 11 [vA 4] [] S M Q) (kf : ¬ s0 = 0 → WP PR d 17 9 [vA 4] [] S M Q) : WP PR d 17 6 [vA 4] [vI s0] S M Q := by
  refine WP.if0 0 9 6 .eq 5 (0, 0, 0, 0) 11 rfl rfl ?_
  exact ⟨kt, fun hc => kf hc⟩
set_option maxRecDepth 100000 in
theorem b_X2_orderVerb_9 {d : Nat} {S : mSh} {M : mMem} {Q : Option mV → mSh → mMem → Prop} (k : Q (some (vI 0)) S M) : WP PR d 17 9 [vA 4] [] S M Q := by
  refine WP.re 1 10 .ireturn (0, 0, 0, 0) _ rfl ?_
  exact ⟨rfl, rfl, trivial, k⟩
set_option maxRecDepth 100000 in
theorem b_X2_orderVerb_11 {d : Nat} {S : mSh} {M : mMem} {Q : Option mV → mSh → mMem → Prop} (L : Lay S) (k : WP PR d 33 0 [vA 4, vA (-107), vU] [] S M (fun r S2 M2 => WP PR (d + 1) 17 17 [vA 4] (r.toList ++ []) S2 M2 Q)) : WP PR (d + 1) 17 11 [vA 4] [] S M Q := by
  refine WP.ca 2 17 14 (.invokevirtual 56) (0, 33, 0, 0) rfl ?_
  exact ⟨rfl, rfl, rfl, lo4 L, rfl, k⟩
set_option maxRecDepth 100000 in
theorem b_X2_orderVerb_17 {d : Nat} {S : mSh} {M : mMem} {Q : Option mV → mSh → mMem → Prop} {s0 : Int} (kt : s0 = 0 → WP PR d 17 22 [vA 4] [] S M Q) (kf : ¬ s0 = 0 → WP PR d 17 20 [vA 4] [] S M Q) : WP PR d 17 17 [vA 4] [vI s0] S M Q := by
  refine WP.if0 0 20 17 .eq 5 (0, 0, 0, 0) 22 rfl rfl ?_
  exact ⟨kt, fun hc => kf hc⟩
set_option maxRecDepth 100000 in
theorem b_X2_orderVerb_20 {d : Nat} {S : mSh} {M : mMem} {Q : Option mV → mSh → mMem → Prop} (k : Q (some (vI 1)) S M) : WP PR d 17 20 [vA 4] [] S M Q := by
  refine WP.re 1 21 .ireturn (0, 0, 0, 0) _ rfl ?_
  exact ⟨rfl, rfl, trivial, k⟩
set_option maxRecDepth 100000 in
theorem b_X2_orderVerb_22 {d : Nat} {S : mSh} {M : mMem} {Q : Option mV → mSh → mMem → Prop} (L : Lay S) (k : WP PR d 33 0 [vA 4, vA (-109), vU] [] S M (fun r S2 M2 => WP PR (d + 1) 17 28 [vA 4] (r.toList ++ []) S2 M2 Q)) : WP PR (d + 1) 17 22 [vA 4] [] S M Q := by
  refine WP.ca 2 28 25 (.invokevirtual 56) (0, 33, 0, 0) rfl ?_
  exact ⟨rfl, rfl, rfl, lo4 L, rfl, k⟩
set_option maxRecDepth 100000 in
theorem b_X2_orderVerb_28 {d : Nat} {S : mSh} {M : mMem} {Q : Option mV → mSh → mMem → Prop} {s0 : Int} (kt : s0 = 0 → WP PR d 17 33 [vA 4] [] S M Q) (kf : ¬ s0 = 0 → WP PR d 17 31 [vA 4] [] S M Q) : WP PR d 17 28 [vA 4] [vI s0] S M Q := by
  refine WP.if0 0 31 28 .eq 5 (0, 0, 0, 0) 33 rfl rfl ?_
  exact ⟨kt, fun hc => kf hc⟩
set_option maxRecDepth 100000 in
theorem b_X2_orderVerb_31 {d : Nat} {S : mSh} {M : mMem} {Q : Option mV → mSh → mMem → Prop} (k : Q (some (vI 2)) S M) : WP PR d 17 31 [vA 4] [] S M Q := by
  refine WP.re 1 32 .ireturn (0, 0, 0, 0) _ rfl ?_
  exact ⟨rfl, rfl, trivial, k⟩
set_option maxRecDepth 100000 in
theorem b_X2_orderVerb_33 {d : Nat} {S : mSh} {M : mMem} {Q : Option mV → mSh → mMem → Prop} (L : Lay S) (k : WP PR d 33 0 [vA 4, vA (-111), vU] [] S M (fun r S2 M2 => WP PR (d + 1) 17 39 [vA 4] (r.toList ++ []) S2 M2 Q)) : WP PR (d + 1) 17 33 [vA 4] [] S M Q := by
  refine WP.ca 2 39 36 (.invokevirtual 56) (0, 33, 0, 0) rfl ?_
  exact ⟨rfl, rfl, rfl, lo4 L, rfl, k⟩
set_option maxRecDepth 100000 in
theorem b_X2_orderVerb_39 {d : Nat} {S : mSh} {M : mMem} {Q : Option mV → mSh → mMem → Prop} {s0 : Int} (kt : s0 = 0 → WP PR d 17 46 [vA 4] [] S M Q) (kf : ¬ s0 = 0 → WP PR d 17 42 [vA 4] [] S M Q) : WP PR d 17 39 [vA 4] [vI s0] S M Q := by
  refine WP.if0 0 42 39 .eq 7 (0, 0, 0, 0) 46 rfl rfl ?_
  exact ⟨kt, fun hc => kf hc⟩
set_option maxRecDepth 100000 in
theorem b_X2_orderVerb_42 {d : Nat} {S : mSh} {M : mMem} {Q : Option mV → mSh → mMem → Prop} (k : Q (some (vI 3)) S M) : WP PR d 17 42 [vA 4] [] S M Q := by
  refine WP.gt 1 43 4 (0, 0, 0, 0) _ 47 rfl rfl ?_
  show WP PR d 17 47 [vA 4] [vI 3] S M Q
  refine WP.re 0 47 .ireturn (0, 0, 0, 0) _ rfl ?_
  exact ⟨rfl, rfl, trivial, k⟩
set_option maxRecDepth 100000 in
theorem b_X2_orderVerb_46 {d : Nat} {S : mSh} {M : mMem} {Q : Option mV → mSh → mMem → Prop} (k : Q (some (vI (-1))) S M) : WP PR d 17 46 [vA 4] [] S M Q := by
  refine WP.re 1 47 .ireturn (0, 0, 0, 0) _ rfl ?_
  exact ⟨rfl, rfl, trivial, k⟩
/-- SoleraCellar$Reader.sumsBehind(I)I -/
abbrev e_X2_sumsBehind (d : Nat) (a0 : Int) (S : mSh) (M : mMem) (Q : Option mV → mSh → mMem → Prop) : Prop := WP PR d 18 0 [vI a0] [] S M Q
set_option maxRecDepth 100000 in
theorem b_X2_sumsBehind_0 {d : Nat} {S : mSh} {M : mMem} {Q : Option mV → mSh → mMem → Prop} {x0 : Int} (k : WP PR d 18 (swT 1 x0 45 0 5 [41, 39, 41, 45, 43, 43]) [vI x0] [] S M Q) : WP PR d 18 0 [vI x0] [] S M Q := by
  refine WP.sw 1 1 45 0 5 #[41, 39, 41, 45, 43, 43] (0, 0, 0, 0) _ rfl ?_
  exact k
set_option maxRecDepth 100000 in
theorem b_X2_sumsBehind_40 {d : Nat} {S : mSh} {M : mMem} {Q : Option mV → mSh → mMem → Prop} {x0 : Int} (k : Q (some (vI 3)) S M) : WP PR d 18 40 [vI x0] [] S M Q := by
  refine WP.re 1 41 .ireturn (0, 0, 0, 0) _ rfl ?_
  exact ⟨rfl, rfl, trivial, k⟩
set_option maxRecDepth 100000 in
theorem b_X2_sumsBehind_42 {d : Nat} {S : mSh} {M : mMem} {Q : Option mV → mSh → mMem → Prop} {x0 : Int} (k : Q (some (vI 2)) S M) : WP PR d 18 42 [vI x0] [] S M Q := by
  refine WP.re 1 43 .ireturn (0, 0, 0, 0) _ rfl ?_
  exact ⟨rfl, rfl, trivial, k⟩
set_option maxRecDepth 100000 in
theorem b_X2_sumsBehind_44 {d : Nat} {S : mSh} {M : mMem} {Q : Option mV → mSh → mMem → Prop} {x0 : Int} (k : Q (some (vI 1)) S M) : WP PR d 18 44 [vI x0] [] S M Q := by
  refine WP.re 1 45 .ireturn (0, 0, 0, 0) _ rfl ?_
  exact ⟨rfl, rfl, trivial, k⟩
set_option maxRecDepth 100000 in
theorem b_X2_sumsBehind_46 {d : Nat} {S : mSh} {M : mMem} {Q : Option mV → mSh → mMem → Prop} {x0 : Int} (k : Q (some (vI 0)) S M) : WP PR d 18 46 [vI x0] [] S M Q := by
  refine WP.re 1 47 .ireturn (0, 0, 0, 0) _ rfl ?_
  exact ⟨rfl, rfl, trivial, k⟩
/-- SoleraCellar$Reader.repeated()Z -/
abbrev e_X2_repeated (d : Nat) (S : mSh) (M : mMem) (Q : Option mV → mSh → mMem → Prop) : Prop := WP PR d 19 0 [vA 4] [] S M Q
set_option maxRecDepth 100000 in
theorem b_X2_repeated_0 {d : Nat} {S : mSh} {M : mMem} {Q : Option mV → mSh → mMem → Prop} (L : Lay S) (kt : ¬ M 4 2 = 0 → WP PR d 19 16 [vA 4] [] S M Q) (kf : M 4 2 = 0 → WP PR d 19 7 [vA 4] [] S M Q) : WP PR d 19 0 [vA 4] [] S M Q := by
  refine WP.if0 2 7 4 .ne 12 (0, 0, 0, 0) 16 rfl rfl ?_
  exact And.intro (lo4 L) (⟨kt, fun hc => kf (Decidable.not_not.mp hc)⟩)
set_option maxRecDepth 100000 in
theorem b_X2_repeated_7 {d : Nat} {S : mSh} {M : mMem} {Q : Option mV → mSh → mMem → Prop} (L : Lay S) (k : WP PR d 33 0 [vA 4, vA (-113), vU] [] S M (fun r S2 M2 => WP PR (d + 1) 19 13 [vA 4] (r.toList ++ []) S2 M2 Q)) : WP PR (d + 1) 19 7 [vA 4] [] S M Q := by
  refine WP.ca 2 13 10 (.invokevirtual 56) (0, 33, 0, 0) rfl ?_
  exact ⟨rfl, rfl, rfl, lo4 L, rfl, k⟩
set_option maxRecDepth 100000 in
theorem b_X2_repeated_13 {d : Nat} {S : mSh} {M : mMem} {Q : Option mV → mSh → mMem → Prop} {s0 : Int} (kt : ¬ s0 = 0 → WP PR d 19 18 [vA 4] [] S M Q) (kf : s0 = 0 → WP PR d 19 16 [vA 4] [] S M Q) : WP PR d 19 13 [vA 4] [vI s0] S M Q := by
  refine WP.if0 0 16 13 .ne 5 (0, 0, 0, 0) 18 rfl rfl ?_
  exact ⟨kt, fun hc => kf (Decidable.not_not.mp hc)⟩
set_option maxRecDepth 100000 in
theorem b_X2_repeated_16 {d : Nat} {S : mSh} {M : mMem} {Q : Option mV → mSh → mMem → Prop} (k : Q (some (vI 1)) S M) : WP PR d 19 16 [vA 4] [] S M Q := by
  refine WP.re 1 17 .ireturn (0, 0, 0, 0) _ rfl ?_
  exact ⟨rfl, rfl, Or.inr rfl, k⟩
set_option maxRecDepth 100000 in
theorem b_X2_repeated_18 {d : Nat} {S : mSh} {M : mMem} {Q : Option mV → mSh → mMem → Prop} (L : Lay S) (k : WP PR d 34 0 [vA 4, vU, vU, vU] [] S M (fun r S2 M2 => WP PR (d + 1) 19 22 [vA 4] (r.toList ++ []) S2 M2 Q)) : WP PR (d + 1) 19 18 [vA 4] [] S M Q := by
  refine WP.ca 1 22 19 (.invokevirtual 44) (0, 34, 0, 0) rfl ?_
  exact ⟨rfl, rfl, rfl, lo4 L, rfl, k⟩
set_option maxRecDepth 100000 in
theorem b_X2_repeated_22 {d : Nat} {S : mSh} {M : mMem} {Q : Option mV → mSh → mMem → Prop} (L : Lay S) (kt : ¬ M 4 5 = 2 → WP PR d 19 47 [vA 4] [] S M Q) (kf : M 4 5 = 2 → WP PR d 19 30 [vA 4] [] S M Q) : WP PR d 19 22 [vA 4] [] S M Q := by
  refine WP.if2 3 30 27 .ne 20 (0, 0, 0, 0) 47 rfl rfl ?_
  exact And.intro (lo4 L) (⟨kt, fun hc => kf (Decidable.not_not.mp hc)⟩)
set_option maxRecDepth 100000 in
theorem b_X2_repeated_30 {d : Nat} {S : mSh} {M : mMem} {Q : Option mV → mSh → mMem → Prop} (L : Lay S) (kt : M 4 6 < 1 → WP PR d 19 47 [vA 4] [] S M Q) (kf : 1 ≤ M 4 6 → WP PR d 19 38 [vA 4] [] S M Q) : WP PR d 19 30 [vA 4] [] S M Q := by
  refine WP.if2 3 38 35 .lt 12 (0, 0, 0, 0) 47 rfl rfl ?_
  exact And.intro (lo4 L) (⟨kt, fun hc => kf (Int.not_lt.mp hc)⟩)
set_option maxRecDepth 100000 in
theorem b_X2_repeated_38 {d : Nat} {S : mSh} {M : mMem} {Q : Option mV → mSh → mMem → Prop} (L : Lay S) (kt : M 4 6 ≤ 20 → WP PR d 19 52 [vA 4] [] S M Q) (kf : 20 < M 4 6 → WP PR d 19 47 [vA 4] [] S M Q) : WP PR d 19 38 [vA 4] [] S M Q := by
  refine WP.if2 3 47 44 .le 8 (0, 0, 0, 0) 52 rfl rfl ?_
  exact And.intro (lo4 L) (⟨kt, fun hc => kf (Int.not_le.mp hc)⟩)
set_option maxRecDepth 100000 in
theorem b_X2_repeated_47 {d : Nat} {S : mSh} {M : mMem} {Q : Option mV → mSh → mMem → Prop} (L : Lay S) (k : WP PR d 32 0 [vA 4] [] S M (fun r S2 M2 => WP PR (d + 1) 19 51 [vA 4] (r.toList ++ []) S2 M2 Q)) : WP PR (d + 1) 19 47 [vA 4] [] S M Q := by
  refine WP.ca 1 51 48 (.invokevirtual 70) (0, 32, 0, 0) rfl ?_
  exact ⟨rfl, rfl, rfl, lo4 L, rfl, k⟩
set_option maxRecDepth 100000 in
theorem b_X2_repeated_51 {d : Nat} {S : mSh} {M : mMem} {Q : Option mV → mSh → mMem → Prop} {s0 : Int} (hc : (s0 = 0 ∨ s0 = 1)) (k : Q (some (vI s0)) S M) : WP PR d 19 51 [vA 4] [vI s0] S M Q := by
  refine WP.re 0 51 .ireturn (0, 0, 0, 0) _ rfl ?_
  exact ⟨rfl, rfl, hc, k⟩
set_option maxRecDepth 100000 in
theorem b_X2_repeated_52 {d : Nat} {S : mSh} {M : mMem} {Q : Option mV → mSh → mMem → Prop} (L : Lay S) (k : WP PR d 62 0 [vA 5, vI (M 4 6), vU] [] S M (fun r S2 M2 => WP PR (d + 1) 19 63 [vA 4] (r.toList ++ []) S2 M2 Q)) : WP PR (d + 1) 19 52 [vA 4] [] S M Q := by
  refine WP.ca 4 63 60 (.invokevirtual 118) (0, 62, 0, 0) rfl ?_
  exact And.intro (⟨lo4 L, lf4_1 L⟩) (And.intro (lo4 L) (⟨rfl, rfl, rfl, lo5 L, rfl, k⟩))
set_option maxRecDepth 100000 in
theorem b_X2_repeated_63 {d : Nat} {S : mSh} {M : mMem} {Q : Option mV → mSh → mMem → Prop} (L : Lay S) (k : WP PR d 34 0 [vA 4, vU, vU, vU] [] S M (fun r S2 M2 => WP PR (d + 1) 19 67 [vA 4] (r.toList ++ []) S2 M2 Q)) : WP PR (d + 1) 19 63 [vA 4] [] S M Q := by
  refine WP.ca 1 67 64 (.invokevirtual 44) (0, 34, 0, 0) rfl ?_
  exact ⟨rfl, rfl, rfl, lo4 L, rfl, k⟩
set_option maxRecDepth 100000 in
theorem b_X2_repeated_67 {d : Nat} {S : mSh} {M : mMem} {Q : Option mV → mSh → mMem → Prop} (k : Q (some (vI 1)) S M) : WP PR d 19 67 [vA 4] [] S M Q := by
  refine WP.re 1 68 .ireturn (0, 0, 0, 0) _ rfl ?_
  exact ⟨rfl, rfl, Or.inr rfl, k⟩
/-- SoleraCellar$Reader.test()Z -/
abbrev e_X2_test (d : Nat) (S : mSh) (M : mMem) (Q : Option mV → mSh → mMem → Prop) : Prop := WP PR d 20 0 [vA 4, vU, vU, vU] [] S M Q
set_option maxRecDepth 100000 in
theorem b_X2_test_0 {d : Nat} {S : mSh} {M : mMem} {Q : Option mV → mSh → mMem → Prop} (L : Lay S) (k : WP PR d 21 0 [vA 4, vU, vU, vU] [] S M (fun r S2 M2 => WP PR (d + 1) 20 4 [vA 4, vU, vU, vU] (r.toList ++ []) S2 M2 Q)) : WP PR (d + 1) 20 0 [vA 4, vU, vU, vU] [] S M Q := by
  refine WP.ca 1 4 1 (.invokevirtual 121) (0, 21, 0, 0) rfl ?_
  exact ⟨rfl, rfl, rfl, lo4 L, rfl, k⟩
set_option maxRecDepth 100000 in
theorem b_X2_test_4 {d : Nat} {S : mSh} {M : mMem} {Q : Option mV → mSh → mMem → Prop} {s0 : Int} {u1 u2 u3 : mV} (k : WP PR d 20 7 [vA 4, vI s0, vI 0, u3] [] S M Q) : WP PR d 20 4 [vA 4, u1, u2, u3] [vI s0] S M Q := by
  refine WP.bl 3 7 rfl ?_
  exact k
set_option maxRecDepth 100000 in
theorem b_X2_test_7 {d : Nat} {S : mSh} {M : mMem} {Q : Option mV → mSh → mMem → Prop} {x1 x2 : Int} {u3 : mV} (kt : 400 ≤ x2 → WP PR d 20 68 [vA 4, vI x1, vI x2, u3] [] S M Q) (kf : x2 < 400 → WP PR d 20 14 [vA 4, vI x1, vI x2, u3] [] S M Q) : WP PR d 20 7 [vA 4, vI x1, vI x2, u3] [] S M Q := by
  refine WP.if2 2 14 11 .ge 57 (0, 0, 0, 0) 68 rfl rfl ?_
  exact ⟨kt, fun hc => kf (Int.not_le.mp hc)⟩
set_option maxRecDepth 100000 in
theorem b_X2_test_14 {d : Nat} {S : mSh} {M : mMem} {Q : Option mV → mSh → mMem → Prop} {x1 x2 : Int} {u3 : mV} (kt : x1 = 0 → WP PR d 20 68 [vA 4, vI x1, vI x2, u3] [] S M Q) (kf : ¬ x1 = 0 → WP PR d 20 18 [vA 4, vI x1, vI x2, u3] [] S M Q) : WP PR d 20 14 [vA 4, vI x1, vI x2, u3] [] S M Q := by
  refine WP.if0 1 18 15 .eq 53 (0, 0, 0, 0) 68 rfl rfl ?_
  exact ⟨kt, fun hc => kf hc⟩
set_option maxRecDepth 100000 in
theorem b_X2_test_18 {d : Nat} {S : mSh} {M : mMem} {Q : Option mV → mSh → mMem → Prop} {x1 x2 : Int} {u3 : mV} (L : Lay S) (k : WP PR d 33 0 [vA 4, vA (-124), vU] [] S M (fun r S2 M2 => WP PR (d + 1) 20 24 [vA 4, vI x1, vI x2, u3] (r.toList ++ []) S2 M2 Q)) : WP PR (d + 1) 20 18 [vA 4, vI x1, vI x2, u3] [] S M Q := by
  refine WP.ca 2 24 21 (.invokevirtual 56) (0, 33, 0, 0) rfl ?_
  exact ⟨rfl, rfl, rfl, lo4 L, rfl, k⟩
set_option maxRecDepth 100000 in
theorem b_X2_test_24 {d : Nat} {S : mSh} {M : mMem} {Q : Option mV → mSh → mMem → Prop} {x1 x2 s0 : Int} {u3 : mV} (kt : s0 = 0 → WP PR d 20 68 [vA 4, vI x1, vI x2, u3] [] S M Q) (kf : ¬ s0 = 0 → WP PR d 20 27 [vA 4, vI x1, vI x2, u3] [] S M Q) : WP PR d 20 24 [vA 4, vI x1, vI x2, u3] [vI s0] S M Q := by
  refine WP.if0 0 27 24 .eq 44 (0, 0, 0, 0) 68 rfl rfl ?_
  exact ⟨kt, fun hc => kf hc⟩
set_option maxRecDepth 100000 in
theorem b_X2_test_27 {d : Nat} {S : mSh} {M : mMem} {Q : Option mV → mSh → mMem → Prop} {x1 x2 : Int} {u3 : mV} (L : Lay S) (k : WP PR d 64 0 [vA 5, vI 13, vI 0] [] S M (fun r S2 M2 => WP PR (d + 1) 20 45 [vA 4, vI x1, vI x2, vI (M 5 3)] (r.toList ++ []) S2 M2 Q)) : WP PR (d + 1) 20 27 [vA 4, vI x1, vI x2, u3] [] S M Q := by
  refine WP.ca 8 45 42 (.invokevirtual 129) (0, 64, 0, 0) rfl ?_
  exact And.intro (⟨lo4 L, lf4_1 L⟩) (And.intro (lo5 L) (And.intro (⟨lo4 L, lf4_1 L⟩) (⟨rfl, rfl, rfl, lo5 L, rfl, k⟩)))
set_option maxRecDepth 100000 in
theorem b_X2_test_45 {d : Nat} {S : mSh} {M : mMem} {Q : Option mV → mSh → mMem → Prop} {x1 x2 x3 : Int} (L : Lay S) (k : WP PR d 34 0 [vA 4, vU, vU, vU] [] S M (fun r S2 M2 => WP PR (d + 1) 20 49 [vA 4, vI x1, vI x2, vI x3] (r.toList ++ []) S2 M2 Q)) : WP PR (d + 1) 20 45 [vA 4, vI x1, vI x2, vI x3] [] S M Q := by
  refine WP.ca 1 49 46 (.invokevirtual 44) (0, 34, 0, 0) rfl ?_
  exact ⟨rfl, rfl, rfl, lo4 L, rfl, k⟩
set_option maxRecDepth 100000 in
theorem b_X2_test_49 {d : Nat} {S : mSh} {M : mMem} {Q : Option mV → mSh → mMem → Prop} {x1 x2 x3 : Int} (L : Lay S) (k : WP PR d 21 0 [vA 4, vU, vU, vU] [] S M (fun r S2 M2 => WP PR (d + 1) 20 53 [vA 4, vI x1, vI x2, vI x3] (r.toList ++ []) S2 M2 Q)) : WP PR (d + 1) 20 49 [vA 4, vI x1, vI x2, vI x3] [] S M Q := by
  refine WP.ca 1 53 50 (.invokevirtual 121) (0, 21, 0, 0) rfl ?_
  exact ⟨rfl, rfl, rfl, lo4 L, rfl, k⟩
set_option maxRecDepth 100000 in
theorem b_X2_test_53 {d : Nat} {S : mSh} {M : mMem} {Q : Option mV → mSh → mMem → Prop} {x1 x2 x3 s0 : Int} (L : Lay S) (k : WP PR d 65 0 [vA 5, vI x3] [] S M (fun r S2 M2 => WP PR (d + 1) 20 62 [vA 4, vI s0, vI x2, vI x3] (r.toList ++ []) S2 M2 Q)) : WP PR (d + 1) 20 53 [vA 4, vI x1, vI x2, vI x3] [vI s0] S M Q := by
  refine WP.ca 4 62 59 (.invokevirtual 132) (0, 65, 0, 0) rfl ?_
  exact And.intro (⟨lo4 L, lf4_1 L⟩) (⟨rfl, rfl, rfl, lo5 L, rfl, k⟩)
set_option maxRecDepth 100000 in
theorem b_X2_test_62 {d : Nat} {S : mSh} {M : mMem} {Q : Option mV → mSh → mMem → Prop} {x1 x2 x3 : Int} (hc : R32 (x2 + 1)) (k : WP PR d 20 7 [vA 4, vI x1, vI (x2 + 1), vI x3] [] S M Q) : WP PR d 20 62 [vA 4, vI x1, vI x2, vI x3] [] S M Q := by
  refine WP.gt 1 65 (-58) (0, 0, 0, 0) _ 7 rfl rfl ?_
  exact And.intro (hc) (k)
set_option maxRecDepth 100000 in
theorem b_X2_test_68 {d : Nat} {S : mSh} {M : mMem} {Q : Option mV → mSh → mMem → Prop} {x1 x2 : Int} {u3 : mV} (hc : (x1 = 0 ∨ x1 = 1)) (k : Q (some (vI x1)) S M) : WP PR d 20 68 [vA 4, vI x1, vI x2, u3] [] S M Q := by
  refine WP.re 1 69 .ireturn (0, 0, 0, 0) _ rfl ?_
  exact ⟨rfl, rfl, hc, k⟩
/-- SoleraCellar$Reader.both()Z -/
abbrev e_X2_both (d : Nat) (S : mSh) (M : mMem) (Q : Option mV → mSh → mMem → Prop) : Prop := WP PR d 21 0 [vA 4, vU, vU, vU] [] S M Q
set_option maxRecDepth 100000 in
theorem b_X2_both_0 {d : Nat} {S : mSh} {M : mMem} {Q : Option mV → mSh → mMem → Prop} (L : Lay S) (k : WP PR d 22 0 [vA 4, vU, vU] [] S M (fun r S2 M2 => WP PR (d + 1) 21 4 [vA 4, vU, vU, vU] (r.toList ++ []) S2 M2 Q)) : WP PR (d + 1) 21 0 [vA 4, vU, vU, vU] [] S M Q := by
  refine WP.ca 1 4 1 (.invokevirtual 135) (0, 22, 0, 0) rfl ?_
  exact ⟨rfl, rfl, rfl, lo4 L, rfl, k⟩
set_option maxRecDepth 100000 in
theorem b_X2_both_4 {d : Nat} {S : mSh} {M : mMem} {Q : Option mV → mSh → mMem → Prop} {s0 : Int} {u1 u2 u3 : mV} (k : WP PR d 21 7 [vA 4, vI s0, vI 0, u3] [] S M Q) : WP PR d 21 4 [vA 4, u1, u2, u3] [vI s0] S M Q := by
  refine WP.bl 3 7 rfl ?_
  exact k
set_option maxRecDepth 100000 in
theorem b_X2_both_7 {d : Nat} {S : mSh} {M : mMem} {Q : Option mV → mSh → mMem → Prop} {x1 x2 : Int} {u3 : mV} (kt : 400 ≤ x2 → WP PR d 21 68 [vA 4, vI x1, vI x2, u3] [] S M Q) (kf : x2 < 400 → WP PR d 21 14 [vA 4, vI x1, vI x2, u3] [] S M Q) : WP PR d 21 7 [vA 4, vI x1, vI x2, u3] [] S M Q := by
  refine WP.if2 2 14 11 .ge 57 (0, 0, 0, 0) 68 rfl rfl ?_
  exact ⟨kt, fun hc => kf (Int.not_le.mp hc)⟩
set_option maxRecDepth 100000 in
theorem b_X2_both_14 {d : Nat} {S : mSh} {M : mMem} {Q : Option mV → mSh → mMem → Prop} {x1 x2 : Int} {u3 : mV} (kt : x1 = 0 → WP PR d 21 68 [vA 4, vI x1, vI x2, u3] [] S M Q) (kf : ¬ x1 = 0 → WP PR d 21 18 [vA 4, vI x1, vI x2, u3] [] S M Q) : WP PR d 21 14 [vA 4, vI x1, vI x2, u3] [] S M Q := by
  refine WP.if0 1 18 15 .eq 53 (0, 0, 0, 0) 68 rfl rfl ?_
  exact ⟨kt, fun hc => kf hc⟩
set_option maxRecDepth 100000 in
theorem b_X2_both_18 {d : Nat} {S : mSh} {M : mMem} {Q : Option mV → mSh → mMem → Prop} {x1 x2 : Int} {u3 : mV} (L : Lay S) (k : WP PR d 33 0 [vA 4, vA (-138), vU] [] S M (fun r S2 M2 => WP PR (d + 1) 21 24 [vA 4, vI x1, vI x2, u3] (r.toList ++ []) S2 M2 Q)) : WP PR (d + 1) 21 18 [vA 4, vI x1, vI x2, u3] [] S M Q := by
  refine WP.ca 2 24 21 (.invokevirtual 56) (0, 33, 0, 0) rfl ?_
  exact ⟨rfl, rfl, rfl, lo4 L, rfl, k⟩
set_option maxRecDepth 100000 in
theorem b_X2_both_24 {d : Nat} {S : mSh} {M : mMem} {Q : Option mV → mSh → mMem → Prop} {x1 x2 s0 : Int} {u3 : mV} (kt : s0 = 0 → WP PR d 21 68 [vA 4, vI x1, vI x2, u3] [] S M Q) (kf : ¬ s0 = 0 → WP PR d 21 27 [vA 4, vI x1, vI x2, u3] [] S M Q) : WP PR d 21 24 [vA 4, vI x1, vI x2, u3] [vI s0] S M Q := by
  refine WP.if0 0 27 24 .eq 44 (0, 0, 0, 0) 68 rfl rfl ?_
  exact ⟨kt, fun hc => kf hc⟩
set_option maxRecDepth 100000 in
theorem b_X2_both_27 {d : Nat} {S : mSh} {M : mMem} {Q : Option mV → mSh → mMem → Prop} {x1 x2 : Int} {u3 : mV} (L : Lay S) (k : WP PR d 64 0 [vA 5, vI 12, vI 0] [] S M (fun r S2 M2 => WP PR (d + 1) 21 45 [vA 4, vI x1, vI x2, vI (M 5 3)] (r.toList ++ []) S2 M2 Q)) : WP PR (d + 1) 21 27 [vA 4, vI x1, vI x2, u3] [] S M Q := by
  refine WP.ca 8 45 42 (.invokevirtual 129) (0, 64, 0, 0) rfl ?_
  exact And.intro (⟨lo4 L, lf4_1 L⟩) (And.intro (lo5 L) (And.intro (⟨lo4 L, lf4_1 L⟩) (⟨rfl, rfl, rfl, lo5 L, rfl, k⟩)))
set_option maxRecDepth 100000 in
theorem b_X2_both_45 {d : Nat} {S : mSh} {M : mMem} {Q : Option mV → mSh → mMem → Prop} {x1 x2 x3 : Int} (L : Lay S) (k : WP PR d 34 0 [vA 4, vU, vU, vU] [] S M (fun r S2 M2 => WP PR (d + 1) 21 49 [vA 4, vI x1, vI x2, vI x3] (r.toList ++ []) S2 M2 Q)) : WP PR (d + 1) 21 45 [vA 4, vI x1, vI x2, vI x3] [] S M Q := by
  refine WP.ca 1 49 46 (.invokevirtual 44) (0, 34, 0, 0) rfl ?_
  exact ⟨rfl, rfl, rfl, lo4 L, rfl, k⟩
set_option maxRecDepth 100000 in
theorem b_X2_both_49 {d : Nat} {S : mSh} {M : mMem} {Q : Option mV → mSh → mMem → Prop} {x1 x2 x3 : Int} (L : Lay S) (k : WP PR d 22 0 [vA 4, vU, vU] [] S M (fun r S2 M2 => WP PR (d + 1) 21 53 [vA 4, vI x1, vI x2, vI x3] (r.toList ++ []) S2 M2 Q)) : WP PR (d + 1) 21 49 [vA 4, vI x1, vI x2, vI x3] [] S M Q := by
  refine WP.ca 1 53 50 (.invokevirtual 135) (0, 22, 0, 0) rfl ?_
  exact ⟨rfl, rfl, rfl, lo4 L, rfl, k⟩
set_option maxRecDepth 100000 in
theorem b_X2_both_53 {d : Nat} {S : mSh} {M : mMem} {Q : Option mV → mSh → mMem → Prop} {x1 x2 x3 s0 : Int} (L : Lay S) (k : WP PR d 65 0 [vA 5, vI x3] [] S M (fun r S2 M2 => WP PR (d + 1) 21 62 [vA 4, vI s0, vI x2, vI x3] (r.toList ++ []) S2 M2 Q)) : WP PR (d + 1) 21 53 [vA 4, vI x1, vI x2, vI x3] [vI s0] S M Q := by
  refine WP.ca 4 62 59 (.invokevirtual 132) (0, 65, 0, 0) rfl ?_
  exact And.intro (⟨lo4 L, lf4_1 L⟩) (⟨rfl, rfl, rfl, lo5 L, rfl, k⟩)
set_option maxRecDepth 100000 in
theorem b_X2_both_62 {d : Nat} {S : mSh} {M : mMem} {Q : Option mV → mSh → mMem → Prop} {x1 x2 x3 : Int} (hc : R32 (x2 + 1)) (k : WP PR d 21 7 [vA 4, vI x1, vI (x2 + 1), vI x3] [] S M Q) : WP PR d 21 62 [vA 4, vI x1, vI x2, vI x3] [] S M Q := by
  refine WP.gt 1 65 (-58) (0, 0, 0, 0) _ 7 rfl rfl ?_
  exact And.intro (hc) (k)
set_option maxRecDepth 100000 in
theorem b_X2_both_68 {d : Nat} {S : mSh} {M : mMem} {Q : Option mV → mSh → mMem → Prop} {x1 x2 : Int} {u3 : mV} (hc : (x1 = 0 ∨ x1 = 1)) (k : Q (some (vI x1)) S M) : WP PR d 21 68 [vA 4, vI x1, vI x2, u3] [] S M Q := by
  refine WP.re 1 69 .ireturn (0, 0, 0, 0) _ rfl ?_
  exact ⟨rfl, rfl, hc, k⟩
/-- SoleraCellar$Reader.plain()Z -/
abbrev e_X2_plain (d : Nat) (S : mSh) (M : mMem) (Q : Option mV → mSh → mMem → Prop) : Prop := WP PR d 22 0 [vA 4, vU, vU] [] S M Q
set_option maxRecDepth 100000 in
theorem b_X2_plain_0 {d : Nat} {S : mSh} {M : mMem} {Q : Option mV → mSh → mMem → Prop} (k : WP PR d 22 4 [vA 4, vI 0, vI 0] [] S M Q) : WP PR d 22 0 [vA 4, vU, vU] [] S M Q := by
  refine WP.bl 4 4 rfl ?_
  exact k
set_option maxRecDepth 100000 in
theorem b_X2_plain_4 {d : Nat} {S : mSh} {M : mMem} {Q : Option mV → mSh → mMem → Prop} {x1 x2 : Int} (kt : 400 ≤ x2 → WP PR d 22 40 [vA 4, vI x1, vI x2] [] S M Q) (kf : x2 < 400 → WP PR d 22 11 [vA 4, vI x1, vI x2] [] S M Q) : WP PR d 22 4 [vA 4, vI x1, vI x2] [] S M Q := by
  refine WP.if2 2 11 8 .ge 32 (0, 0, 0, 0) 40 rfl rfl ?_
  exact ⟨kt, fun hc => kf (Int.not_le.mp hc)⟩
set_option maxRecDepth 100000 in
theorem b_X2_plain_11 {d : Nat} {S : mSh} {M : mMem} {Q : Option mV → mSh → mMem → Prop} {x1 x2 : Int} (L : Lay S) (k : WP PR d 33 0 [vA 4, vA (-140), vU] [] S M (fun r S2 M2 => WP PR (d + 1) 22 17 [vA 4, vI x1, vI x2] (r.toList ++ []) S2 M2 Q)) : WP PR (d + 1) 22 11 [vA 4, vI x1, vI x2] [] S M Q := by
  refine WP.ca 2 17 14 (.invokevirtual 56) (0, 33, 0, 0) rfl ?_
  exact ⟨rfl, rfl, rfl, lo4 L, rfl, k⟩
set_option maxRecDepth 100000 in
theorem b_X2_plain_17 {d : Nat} {S : mSh} {M : mMem} {Q : Option mV → mSh → mMem → Prop} {x1 x2 s0 : Int} (kt : s0 = 0 → WP PR d 22 40 [vA 4, vI x1, vI x2] [] S M Q) (kf : ¬ s0 = 0 → WP PR d 22 20 [vA 4, vI x1, vI x2] [] S M Q) : WP PR d 22 17 [vA 4, vI x1, vI x2] [vI s0] S M Q := by
  refine WP.if0 0 20 17 .eq 23 (0, 0, 0, 0) 40 rfl rfl ?_
  exact ⟨kt, fun hc => kf hc⟩
set_option maxRecDepth 100000 in
theorem b_X2_plain_20 {d : Nat} {S : mSh} {M : mMem} {Q : Option mV → mSh → mMem → Prop} {x1 x2 : Int} (kt : ¬ x1 = 0 → WP PR d 22 28 [vA 4, vI x1, vI x2] [] S M Q) (kf : x1 = 0 → WP PR d 22 24 [vA 4, vI x1, vI x2] [] S M Q) : WP PR d 22 20 [vA 4, vI x1, vI x2] [] S M Q := by
  refine WP.if0 1 24 21 .ne 7 (0, 0, 0, 0) 28 rfl rfl ?_
  exact ⟨kt, fun hc => kf (Decidable.not_not.mp hc)⟩
set_option maxRecDepth 100000 in
theorem b_X2_plain_24 {d : Nat} {S : mSh} {M : mMem} {Q : Option mV → mSh → mMem → Prop} {x1 x2 : Int} (L : Lay S) (k : WP PR d 34 0 [vA 4, vU, vU, vU] [] S M (fun r S2 M2 => WP PR (d + 1) 22 34 [vA 4, vI 1, vI x2] (r.toList ++ []) S2 M2 Q)) : WP PR (d + 1) 22 24 [vA 4, vI x1, vI x2] [] S M Q := by
  refine WP.gt 1 25 4 (0, 0, 0, 0) _ 29 rfl rfl ?_
  show WP PR (d + 1) 22 29 [vA 4, vI x1, vI x2] [vI 1] S M Q
  refine WP.ca 2 34 31 (.invokevirtual 44) (0, 34, 0, 0) rfl ?_
  exact ⟨rfl, rfl, rfl, lo4 L, rfl, k⟩
set_option maxRecDepth 100000 in
theorem b_X2_plain_28 {d : Nat} {S : mSh} {M : mMem} {Q : Option mV → mSh → mMem → Prop} {x1 x2 : Int} (L : Lay S) (k : WP PR d 34 0 [vA 4, vU, vU, vU] [] S M (fun r S2 M2 => WP PR (d + 1) 22 34 [vA 4, vI 0, vI x2] (r.toList ++ []) S2 M2 Q)) : WP PR (d + 1) 22 28 [vA 4, vI x1, vI x2] [] S M Q := by
  refine WP.ca 3 34 31 (.invokevirtual 44) (0, 34, 0, 0) rfl ?_
  exact ⟨rfl, rfl, rfl, lo4 L, rfl, k⟩
set_option maxRecDepth 100000 in
theorem b_X2_plain_34 {d : Nat} {S : mSh} {M : mMem} {Q : Option mV → mSh → mMem → Prop} {x1 x2 : Int} (hc : R32 (x2 + 1)) (k : WP PR d 22 4 [vA 4, vI x1, vI (x2 + 1)] [] S M Q) : WP PR d 22 34 [vA 4, vI x1, vI x2] [] S M Q := by
  refine WP.gt 1 37 (-33) (0, 0, 0, 0) _ 4 rfl rfl ?_
  exact And.intro (hc) (k)
set_option maxRecDepth 100000 in
theorem b_X2_plain_40 {d : Nat} {S : mSh} {M : mMem} {Q : Option mV → mSh → mMem → Prop} {x1 x2 : Int} (L : Lay S) (k : WP PR d 33 0 [vA 4, vA (-142), vU] [] S M (fun r S2 M2 => WP PR (d + 1) 22 46 [vA 4, vI x1, vI x2] (r.toList ++ []) S2 M2 Q)) : WP PR (d + 1) 22 40 [vA 4, vI x1, vI x2] [] S M Q := by
  refine WP.ca 2 46 43 (.invokevirtual 56) (0, 33, 0, 0) rfl ?_
  exact ⟨rfl, rfl, rfl, lo4 L, rfl, k⟩
set_option maxRecDepth 100000 in
theorem b_X2_plain_46 {d : Nat} {S : mSh} {M : mMem} {Q : Option mV → mSh → mMem → Prop} {x1 x2 s0 : Int} (kt : s0 = 0 → WP PR d 22 80 [vA 4, vI x1, vI x2] [] S M Q) (kf : ¬ s0 = 0 → WP PR d 22 49 [vA 4, vI x1, vI x2] [] S M Q) : WP PR d 22 46 [vA 4, vI x1, vI x2] [vI s0] S M Q := by
  refine WP.if0 0 49 46 .eq 34 (0, 0, 0, 0) 80 rfl rfl ?_
  exact ⟨kt, fun hc => kf hc⟩
set_option maxRecDepth 100000 in
theorem b_X2_plain_49 {d : Nat} {S : mSh} {M : mMem} {Q : Option mV → mSh → mMem → Prop} {x1 x2 : Int} (L : Lay S) (k : WP PR d 30 0 [vA 4] [] S M (fun r S2 M2 => WP PR (d + 1) 22 53 [vA 4, vI x1, vI x2] (r.toList ++ []) S2 M2 Q)) : WP PR (d + 1) 22 49 [vA 4, vI x1, vI x2] [] S M Q := by
  refine WP.ca 1 53 50 (.invokevirtual 144) (0, 30, 0, 0) rfl ?_
  exact ⟨rfl, rfl, rfl, lo4 L, rfl, k⟩
set_option maxRecDepth 100000 in
theorem b_X2_plain_53 {d : Nat} {S : mSh} {M : mMem} {Q : Option mV → mSh → mMem → Prop} {x1 x2 s0 : Int} (kt : s0 = 0 → WP PR d 22 76 [vA 4, vI x1, vI x2] [] S M Q) (kf : ¬ s0 = 0 → WP PR d 22 56 [vA 4, vI x1, vI x2] [] S M Q) : WP PR d 22 53 [vA 4, vI x1, vI x2] [vI s0] S M Q := by
  refine WP.if0 0 56 53 .eq 23 (0, 0, 0, 0) 76 rfl rfl ?_
  exact ⟨kt, fun hc => kf hc⟩
set_option maxRecDepth 100000 in
theorem b_X2_plain_56 {d : Nat} {S : mSh} {M : mMem} {Q : Option mV → mSh → mMem → Prop} {x1 x2 : Int} (L : Lay S) (k : WP PR d 20 0 [vA 4, vU, vU, vU] [] S M (fun r S2 M2 => WP PR (d + 1) 22 60 [vA 4, vI x1, vI x2] (r.toList ++ []) S2 M2 Q)) : WP PR (d + 1) 22 56 [vA 4, vI x1, vI x2] [] S M Q := by
  refine WP.ca 1 60 57 (.invokevirtual 96) (0, 20, 0, 0) rfl ?_
  exact ⟨rfl, rfl, rfl, lo4 L, rfl, k⟩
set_option maxRecDepth 100000 in
theorem b_X2_plain_60 {d : Nat} {S : mSh} {M : mMem} {Q : Option mV → mSh → mMem → Prop} {x1 x2 s0 : Int} (kt : s0 = 0 → WP PR d 22 76 [vA 4, vI x1, vI x2] [] S M Q) (kf : ¬ s0 = 0 → WP PR d 22 63 [vA 4, vI x1, vI x2] [] S M Q) : WP PR d 22 60 [vA 4, vI x1, vI x2] [vI s0] S M Q := by
  refine WP.if0 0 63 60 .eq 16 (0, 0, 0, 0) 76 rfl rfl ?_
  exact ⟨kt, fun hc => kf hc⟩
set_option maxRecDepth 100000 in
theorem b_X2_plain_63 {d : Nat} {S : mSh} {M : mMem} {Q : Option mV → mSh → mMem → Prop} {x1 x2 : Int} (L : Lay S) (k : WP PR d 31 0 [vA 4, vA (-147)] [] S M (fun r S2 M2 => WP PR (d + 1) 22 69 [vA 4, vI x1, vI x2] (r.toList ++ []) S2 M2 Q)) : WP PR (d + 1) 22 63 [vA 4, vI x1, vI x2] [] S M Q := by
  refine WP.ca 2 69 66 (.invokevirtual 149) (0, 31, 0, 0) rfl ?_
  exact ⟨rfl, rfl, rfl, lo4 L, rfl, k⟩
set_option maxRecDepth 100000 in
theorem b_X2_plain_69 {d : Nat} {S : mSh} {M : mMem} {Q : Option mV → mSh → mMem → Prop} {x1 x2 s0 : Int} (kt : s0 = 0 → WP PR d 22 76 [vA 4, vI x1, vI x2] [] S M Q) (kf : ¬ s0 = 0 → WP PR d 22 72 [vA 4, vI x1, vI x2] [] S M Q) : WP PR d 22 69 [vA 4, vI x1, vI x2] [vI s0] S M Q := by
  refine WP.if0 0 72 69 .eq 7 (0, 0, 0, 0) 76 rfl rfl ?_
  exact ⟨kt, fun hc => kf hc⟩
set_option maxRecDepth 100000 in
theorem b_X2_plain_72 {d : Nat} {S : mSh} {M : mMem} {Q : Option mV → mSh → mMem → Prop} {x1 x2 : Int} (kt : x1 = 0 → WP PR d 22 103 [vA 4, vI x1, vI 1] [] S M Q) (kf : ¬ x1 = 0 → WP PR d 22 93 [vA 4, vI x1, vI 1] [] S M Q) : WP PR d 22 72 [vA 4, vI x1, vI x2] [] S M Q := by
  refine WP.gt 1 73 11 (0, 0, 0, 0) _ 84 rfl rfl ?_
  show WP PR d 22 84 [vA 4, vI x1, vI x2] [vI 1] S M Q
  refine WP.if0 2 89 86 .eq 17 (0, 0, 0, 0) 103 rfl rfl ?_
  refine ⟨fun h => absurd h (show ¬ ((1 : Int) = (0 : Int)) by decide), fun _ => ?_⟩
  show WP PR d 22 89 [vA 4, vI x1, vI 1] [] S M Q
  refine WP.if0 1 93 90 .eq 13 (0, 0, 0, 0) 103 rfl rfl ?_
  exact ⟨kt, fun hc => kf hc⟩
set_option maxRecDepth 100000 in
theorem b_X2_plain_76 {d : Nat} {S : mSh} {M : mMem} {Q : Option mV → mSh → mMem → Prop} {x1 x2 : Int} (k : Q (some (vI 0)) S M) : WP PR d 22 76 [vA 4, vI x1, vI x2] [] S M Q := by
  refine WP.gt 1 77 7 (0, 0, 0, 0) _ 84 rfl rfl ?_
  show WP PR d 22 84 [vA 4, vI x1, vI x2] [vI 0] S M Q
  refine WP.if0 2 89 86 .eq 17 (0, 0, 0, 0) 103 rfl rfl ?_
  refine ⟨fun _ => ?_, fun h => absurd (show (0 : Int) = (0 : Int) by decide) h⟩
  show WP PR d 22 103 [vA 4, vI x1, vI 0] [] S M Q
  refine WP.re 1 104 .ireturn (0, 0, 0, 0) _ rfl ?_
  exact ⟨rfl, rfl, Or.inl rfl, k⟩
set_option maxRecDepth 100000 in
theorem b_X2_plain_80 {d : Nat} {S : mSh} {M : mMem} {Q : Option mV → mSh → mMem → Prop} {x1 x2 : Int} (L : Lay S) (k : WP PR d 23 0 [vA 4, vU, vU] [] S M (fun r S2 M2 => WP PR (d + 1) 22 84 [vA 4, vI x1, vI x2] (r.toList ++ []) S2 M2 Q)) : WP PR (d + 1) 22 80 [vA 4, vI x1, vI x2] [] S M Q := by
  refine WP.ca 1 84 81 (.invokevirtual 152) (0, 23, 0, 0) rfl ?_
  exact ⟨rfl, rfl, rfl, lo4 L, rfl, k⟩
set_option maxRecDepth 100000 in
theorem b_X2_plain_84 {d : Nat} {S : mSh} {M : mMem} {Q : Option mV → mSh → mMem → Prop} {x1 x2 s0 : Int} (kt : s0 = 0 → WP PR d 22 103 [vA 4, vI x1, vI s0] [] S M Q) (kf : ¬ s0 = 0 → WP PR d 22 89 [vA 4, vI x1, vI s0] [] S M Q) : WP PR d 22 84 [vA 4, vI x1, vI x2] [vI s0] S M Q := by
  refine WP.if0 2 89 86 .eq 17 (0, 0, 0, 0) 103 rfl rfl ?_
  exact ⟨kt, fun hc => kf hc⟩
set_option maxRecDepth 100000 in
theorem b_X2_plain_89 {d : Nat} {S : mSh} {M : mMem} {Q : Option mV → mSh → mMem → Prop} {x1 x2 : Int} (kt : x1 = 0 → WP PR d 22 103 [vA 4, vI x1, vI x2] [] S M Q) (kf : ¬ x1 = 0 → WP PR d 22 93 [vA 4, vI x1, vI x2] [] S M Q) : WP PR d 22 89 [vA 4, vI x1, vI x2] [] S M Q := by
  refine WP.if0 1 93 90 .eq 13 (0, 0, 0, 0) 103 rfl rfl ?_
  exact ⟨kt, fun hc => kf hc⟩
set_option maxRecDepth 100000 in
theorem b_X2_plain_93 {d : Nat} {S : mSh} {M : mMem} {Q : Option mV → mSh → mMem → Prop} {x1 x2 : Int} (L : Lay S) (k : WP PR d 64 0 [vA 5, vI 11, vI 0] [] S M (fun r S2 M2 => WP PR (d + 1) 22 103 [vA 4, vI x1, vI x2] (r.toList ++ []) S2 M2 Q)) : WP PR (d + 1) 22 93 [vA 4, vI x1, vI x2] [] S M Q := by
  refine WP.ca 4 103 100 (.invokevirtual 129) (0, 64, 0, 0) rfl ?_
  exact And.intro (⟨lo4 L, lf4_1 L⟩) (⟨rfl, rfl, rfl, lo5 L, rfl, k⟩)
set_option maxRecDepth 100000 in
theorem b_X2_plain_103 {d : Nat} {S : mSh} {M : mMem} {Q : Option mV → mSh → mMem → Prop} {x1 x2 : Int} (hc : (x2 = 0 ∨ x2 = 1)) (k : Q (some (vI x2)) S M) : WP PR d 22 103 [vA 4, vI x1, vI x2] [] S M Q := by
  refine WP.re 1 104 .ireturn (0, 0, 0, 0) _ rfl ?_
  exact ⟨rfl, rfl, hc, k⟩
/-- SoleraCellar$Reader.compared()Z -/
abbrev e_X2_compared (d : Nat) (S : mSh) (M : mMem) (Q : Option mV → mSh → mMem → Prop) : Prop := WP PR d 23 0 [vA 4, vU, vU] [] S M Q
set_option maxRecDepth 100000 in
theorem b_X2_compared_0 {d : Nat} {S : mSh} {M : mMem} {Q : Option mV → mSh → mMem → Prop} (L : Lay S) (k : WP PR d 24 0 [vA 4, vU, vU, vU] [] S M (fun r S2 M2 => WP PR (d + 1) 23 4 [vA 4, vU, vU] (r.toList ++ []) S2 M2 Q)) : WP PR (d + 1) 23 0 [vA 4, vU, vU] [] S M Q := by
  refine WP.ca 1 4 1 (.invokevirtual 85) (0, 24, 0, 0) rfl ?_
  exact ⟨rfl, rfl, rfl, lo4 L, rfl, k⟩
set_option maxRecDepth 100000 in
theorem b_X2_compared_4 {d : Nat} {S : mSh} {M : mMem} {Q : Option mV → mSh → mMem → Prop} {s0 : Int} {u1 u2 : mV} (kt : ¬ s0 = 0 → WP PR d 23 9 [vA 4, u1, u2] [] S M Q) (kf : s0 = 0 → WP PR d 23 7 [vA 4, u1, u2] [] S M Q) : WP PR d 23 4 [vA 4, u1, u2] [vI s0] S M Q := by
  refine WP.if0 0 7 4 .ne 5 (0, 0, 0, 0) 9 rfl rfl ?_
  exact ⟨kt, fun hc => kf (Decidable.not_not.mp hc)⟩
set_option maxRecDepth 100000 in
theorem b_X2_compared_7 {d : Nat} {S : mSh} {M : mMem} {Q : Option mV → mSh → mMem → Prop} {u1 u2 : mV} (k : Q (some (vI 0)) S M) : WP PR d 23 7 [vA 4, u1, u2] [] S M Q := by
  refine WP.re 1 8 .ireturn (0, 0, 0, 0) _ rfl ?_
  exact ⟨rfl, rfl, Or.inl rfl, k⟩
set_option maxRecDepth 100000 in
theorem b_X2_compared_9 {d : Nat} {S : mSh} {M : mMem} {Q : Option mV → mSh → mMem → Prop} {u1 u2 : mV} (L : Lay S) (k : WP PR d 33 0 [vA 4, vA (-155), vU] [] S M (fun r S2 M2 => WP PR (d + 1) 23 15 [vA 4, u1, u2] (r.toList ++ []) S2 M2 Q)) : WP PR (d + 1) 23 9 [vA 4, u1, u2] [] S M Q := by
  refine WP.ca 2 15 12 (.invokevirtual 56) (0, 33, 0, 0) rfl ?_
  exact ⟨rfl, rfl, rfl, lo4 L, rfl, k⟩
set_option maxRecDepth 100000 in
theorem b_X2_compared_15 {d : Nat} {S : mSh} {M : mMem} {Q : Option mV → mSh → mMem → Prop} {s0 : Int} {u1 u2 : mV} (kt : s0 = 0 → WP PR d 23 23 [vA 4, u1, u2] [] S M Q) (kf : ¬ s0 = 0 → WP PR d 23 18 [vA 4, u1, u2] [] S M Q) : WP PR d 23 15 [vA 4, u1, u2] [vI s0] S M Q := by
  refine WP.if0 0 18 15 .eq 8 (0, 0, 0, 0) 23 rfl rfl ?_
  exact ⟨kt, fun hc => kf hc⟩
set_option maxRecDepth 100000 in
theorem b_X2_compared_18 {d : Nat} {S : mSh} {M : mMem} {Q : Option mV → mSh → mMem → Prop} {u1 u2 : mV} (L : Lay S) (k : WP PR d 34 0 [vA 4, vU, vU, vU] [] S M (fun r S2 M2 => WP PR (d + 1) 23 67 [vA 4, vI 8, u2] (r.toList ++ []) S2 M2 Q)) : WP PR (d + 1) 23 18 [vA 4, u1, u2] [] S M Q := by
  refine WP.gt 1 20 32 (0, 0, 0, 0) _ 52 rfl rfl ?_
  show WP PR (d + 1) 23 52 [vA 4, u1, u2] [vI 8] S M Q
  refine WP.if2 3 58 55 .ne 8 (0, 0, 0, 0) 63 rfl rfl ?_
  refine ⟨fun _ => ?_, fun h => absurd (show ¬ (8 : Int) = ((-1) : Int) by decide) h⟩
  show WP PR (d + 1) 23 63 [vA 4, vI 8, u2] [] S M Q
  refine WP.ca 1 67 64 (.invokevirtual 44) (0, 34, 0, 0) rfl ?_
  exact ⟨rfl, rfl, rfl, lo4 L, rfl, k⟩
set_option maxRecDepth 100000 in
theorem b_X2_compared_23 {d : Nat} {S : mSh} {M : mMem} {Q : Option mV → mSh → mMem → Prop} {u1 u2 : mV} (L : Lay S) (k : WP PR d 33 0 [vA 4, vA (-157), vU] [] S M (fun r S2 M2 => WP PR (d + 1) 23 29 [vA 4, u1, u2] (r.toList ++ []) S2 M2 Q)) : WP PR (d + 1) 23 23 [vA 4, u1, u2] [] S M Q := by
  refine WP.ca 2 29 26 (.invokevirtual 56) (0, 33, 0, 0) rfl ?_
  exact ⟨rfl, rfl, rfl, lo4 L, rfl, k⟩
set_option maxRecDepth 100000 in
theorem b_X2_compared_29 {d : Nat} {S : mSh} {M : mMem} {Q : Option mV → mSh → mMem → Prop} {s0 : Int} {u1 u2 : mV} (kt : s0 = 0 → WP PR d 23 37 [vA 4, u1, u2] [] S M Q) (kf : ¬ s0 = 0 → WP PR d 23 32 [vA 4, u1, u2] [] S M Q) : WP PR d 23 29 [vA 4, u1, u2] [vI s0] S M Q := by
  refine WP.if0 0 32 29 .eq 8 (0, 0, 0, 0) 37 rfl rfl ?_
  exact ⟨kt, fun hc => kf hc⟩
set_option maxRecDepth 100000 in
theorem b_X2_compared_32 {d : Nat} {S : mSh} {M : mMem} {Q : Option mV → mSh → mMem → Prop} {u1 u2 : mV} (L : Lay S) (k : WP PR d 34 0 [vA 4, vU, vU, vU] [] S M (fun r S2 M2 => WP PR (d + 1) 23 67 [vA 4, vI 9, u2] (r.toList ++ []) S2 M2 Q)) : WP PR (d + 1) 23 32 [vA 4, u1, u2] [] S M Q := by
  refine WP.gt 1 34 18 (0, 0, 0, 0) _ 52 rfl rfl ?_
  show WP PR (d + 1) 23 52 [vA 4, u1, u2] [vI 9] S M Q
  refine WP.if2 3 58 55 .ne 8 (0, 0, 0, 0) 63 rfl rfl ?_
  refine ⟨fun _ => ?_, fun h => absurd (show ¬ (9 : Int) = ((-1) : Int) by decide) h⟩
  show WP PR (d + 1) 23 63 [vA 4, vI 9, u2] [] S M Q
  refine WP.ca 1 67 64 (.invokevirtual 44) (0, 34, 0, 0) rfl ?_
  exact ⟨rfl, rfl, rfl, lo4 L, rfl, k⟩
set_option maxRecDepth 100000 in
theorem b_X2_compared_37 {d : Nat} {S : mSh} {M : mMem} {Q : Option mV → mSh → mMem → Prop} {u1 u2 : mV} (L : Lay S) (k : WP PR d 33 0 [vA 4, vA (-159), vU] [] S M (fun r S2 M2 => WP PR (d + 1) 23 43 [vA 4, u1, u2] (r.toList ++ []) S2 M2 Q)) : WP PR (d + 1) 23 37 [vA 4, u1, u2] [] S M Q := by
  refine WP.ca 2 43 40 (.invokevirtual 56) (0, 33, 0, 0) rfl ?_
  exact ⟨rfl, rfl, rfl, lo4 L, rfl, k⟩
set_option maxRecDepth 100000 in
theorem b_X2_compared_43 {d : Nat} {S : mSh} {M : mMem} {Q : Option mV → mSh → mMem → Prop} {s0 : Int} {u1 u2 : mV} (kt : s0 = 0 → WP PR d 23 51 [vA 4, u1, u2] [] S M Q) (kf : ¬ s0 = 0 → WP PR d 23 46 [vA 4, u1, u2] [] S M Q) : WP PR d 23 43 [vA 4, u1, u2] [vI s0] S M Q := by
  refine WP.if0 0 46 43 .eq 8 (0, 0, 0, 0) 51 rfl rfl ?_
  exact ⟨kt, fun hc => kf hc⟩
set_option maxRecDepth 100000 in
theorem b_X2_compared_46 {d : Nat} {S : mSh} {M : mMem} {Q : Option mV → mSh → mMem → Prop} {u1 u2 : mV} (L : Lay S) (k : WP PR d 34 0 [vA 4, vU, vU, vU] [] S M (fun r S2 M2 => WP PR (d + 1) 23 67 [vA 4, vI 10, u2] (r.toList ++ []) S2 M2 Q)) : WP PR (d + 1) 23 46 [vA 4, u1, u2] [] S M Q := by
  refine WP.gt 1 48 4 (0, 0, 0, 0) _ 52 rfl rfl ?_
  show WP PR (d + 1) 23 52 [vA 4, u1, u2] [vI 10] S M Q
  refine WP.if2 3 58 55 .ne 8 (0, 0, 0, 0) 63 rfl rfl ?_
  refine ⟨fun _ => ?_, fun h => absurd (show ¬ (10 : Int) = ((-1) : Int) by decide) h⟩
  show WP PR (d + 1) 23 63 [vA 4, vI 10, u2] [] S M Q
  refine WP.ca 1 67 64 (.invokevirtual 44) (0, 34, 0, 0) rfl ?_
  exact ⟨rfl, rfl, rfl, lo4 L, rfl, k⟩
set_option maxRecDepth 100000 in
theorem b_X2_compared_51 {d : Nat} {S : mSh} {M : mMem} {Q : Option mV → mSh → mMem → Prop} {u1 u2 : mV} (L : Lay S) (k : WP PR d 32 0 [vA 4] [] S M (fun r S2 M2 => WP PR (d + 1) 23 62 [vA 4, vI (-1), u2] (r.toList ++ []) S2 M2 Q)) : WP PR (d + 1) 23 51 [vA 4, u1, u2] [] S M Q := by
  refine WP.if2 4 58 55 .ne 8 (0, 0, 0, 0) 63 rfl rfl ?_
  refine ⟨fun h => absurd h (show ¬ (¬ ((-1) : Int) = ((-1) : Int)) by decide), fun _ => ?_⟩
  show WP PR (d + 1) 23 58 [vA 4, vI (-1), u2] [] S M Q
  refine WP.ca 1 62 59 (.invokevirtual 70) (0, 32, 0, 0) rfl ?_
  exact ⟨rfl, rfl, rfl, lo4 L, rfl, k⟩
set_option maxRecDepth 100000 in
theorem b_X2_compared_62 {d : Nat} {S : mSh} {M : mMem} {Q : Option mV → mSh → mMem → Prop} {x1 s0 : Int} {u2 : mV} (hc : (s0 = 0 ∨ s0 = 1)) (k : Q (some (vI s0)) S M) : WP PR d 23 62 [vA 4, vI x1, u2] [vI s0] S M Q := by
  refine WP.re 0 62 .ireturn (0, 0, 0, 0) _ rfl ?_
  exact ⟨rfl, rfl, hc, k⟩
set_option maxRecDepth 100000 in
theorem b_X2_compared_67 {d : Nat} {S : mSh} {M : mMem} {Q : Option mV → mSh → mMem → Prop} {x1 : Int} {u2 : mV} (L : Lay S) (k : WP PR d 24 0 [vA 4, vU, vU, vU] [] S M (fun r S2 M2 => WP PR (d + 1) 23 71 [vA 4, vI x1, u2] (r.toList ++ []) S2 M2 Q)) : WP PR (d + 1) 23 67 [vA 4, vI x1, u2] [] S M Q := by
  refine WP.ca 1 71 68 (.invokevirtual 85) (0, 24, 0, 0) rfl ?_
  exact ⟨rfl, rfl, rfl, lo4 L, rfl, k⟩
set_option maxRecDepth 100000 in
theorem b_X2_compared_71 {d : Nat} {S : mSh} {M : mMem} {Q : Option mV → mSh → mMem → Prop} {x1 s0 : Int} {u2 : mV} (L : Lay S) (k : WP PR d 64 0 [vA 5, vI x1, vI 0] [] S M (fun r S2 M2 => WP PR (d + 1) 23 81 [vA 4, vI x1, vI s0] (r.toList ++ []) S2 M2 Q)) : WP PR (d + 1) 23 71 [vA 4, vI x1, u2] [vI s0] S M Q := by
  refine WP.ca 5 81 78 (.invokevirtual 129) (0, 64, 0, 0) rfl ?_
  exact And.intro (⟨lo4 L, lf4_1 L⟩) (⟨rfl, rfl, rfl, lo5 L, rfl, k⟩)
set_option maxRecDepth 100000 in
theorem b_X2_compared_81 {d : Nat} {S : mSh} {M : mMem} {Q : Option mV → mSh → mMem → Prop} {x1 x2 : Int} (hc : (x2 = 0 ∨ x2 = 1)) (k : Q (some (vI x2)) S M) : WP PR d 23 81 [vA 4, vI x1, vI x2] [] S M Q := by
  refine WP.re 1 82 .ireturn (0, 0, 0, 0) _ rfl ?_
  exact ⟨rfl, rfl, hc, k⟩
/-- SoleraCellar$Reader.sum()Z -/
abbrev e_X2_sum (d : Nat) (S : mSh) (M : mMem) (Q : Option mV → mSh → mMem → Prop) : Prop := WP PR d 24 0 [vA 4, vU, vU, vU] [] S M Q
set_option maxRecDepth 100000 in
theorem b_X2_sum_0 {d : Nat} {S : mSh} {M : mMem} {Q : Option mV → mSh → mMem → Prop} (L : Lay S) (k : WP PR d 25 0 [vA 4, vU, vU, vU] [] S M (fun r S2 M2 => WP PR (d + 1) 24 4 [vA 4, vU, vU, vU] (r.toList ++ []) S2 M2 Q)) : WP PR (d + 1) 24 0 [vA 4, vU, vU, vU] [] S M Q := by
  refine WP.ca 1 4 1 (.invokevirtual 161) (0, 25, 0, 0) rfl ?_
  exact ⟨rfl, rfl, rfl, lo4 L, rfl, k⟩
set_option maxRecDepth 100000 in
theorem b_X2_sum_4 {d : Nat} {S : mSh} {M : mMem} {Q : Option mV → mSh → mMem → Prop} {s0 : Int} {u1 u2 u3 : mV} (k : WP PR d 24 7 [vA 4, vI s0, vI 0, u3] [] S M Q) : WP PR d 24 4 [vA 4, u1, u2, u3] [vI s0] S M Q := by
  refine WP.bl 3 7 rfl ?_
  exact k
set_option maxRecDepth 100000 in
theorem b_X2_sum_7 {d : Nat} {S : mSh} {M : mMem} {Q : Option mV → mSh → mMem → Prop} {x1 x2 : Int} {u3 : mV} (kt : 400 ≤ x2 → WP PR d 24 75 [vA 4, vI x1, vI x2, u3] [] S M Q) (kf : x2 < 400 → WP PR d 24 14 [vA 4, vI x1, vI x2, u3] [] S M Q) : WP PR d 24 7 [vA 4, vI x1, vI x2, u3] [] S M Q := by
  refine WP.if2 2 14 11 .ge 64 (0, 0, 0, 0) 75 rfl rfl ?_
  exact ⟨kt, fun hc => kf (Int.not_le.mp hc)⟩
set_option maxRecDepth 100000 in
theorem b_X2_sum_14 {d : Nat} {S : mSh} {M : mMem} {Q : Option mV → mSh → mMem → Prop} {x1 x2 : Int} {u3 : mV} (kt : x1 = 0 → WP PR d 24 75 [vA 4, vI x1, vI x2, u3] [] S M Q) (kf : ¬ x1 = 0 → WP PR d 24 18 [vA 4, vI x1, vI x2, u3] [] S M Q) : WP PR d 24 14 [vA 4, vI x1, vI x2, u3] [] S M Q := by
  refine WP.if0 1 18 15 .eq 60 (0, 0, 0, 0) 75 rfl rfl ?_
  exact ⟨kt, fun hc => kf hc⟩
set_option maxRecDepth 100000 in
theorem b_X2_sum_18 {d : Nat} {S : mSh} {M : mMem} {Q : Option mV → mSh → mMem → Prop} {x1 x2 : Int} {u3 : mV} (L : Lay S) (k : WP PR d 33 0 [vA 4, vA (-164), vU] [] S M (fun r S2 M2 => WP PR (d + 1) 24 24 [vA 4, vI x1, vI x2, u3] (r.toList ++ []) S2 M2 Q)) : WP PR (d + 1) 24 18 [vA 4, vI x1, vI x2, u3] [] S M Q := by
  refine WP.ca 2 24 21 (.invokevirtual 56) (0, 33, 0, 0) rfl ?_
  exact ⟨rfl, rfl, rfl, lo4 L, rfl, k⟩
set_option maxRecDepth 100000 in
theorem b_X2_sum_24 {d : Nat} {S : mSh} {M : mMem} {Q : Option mV → mSh → mMem → Prop} {x1 x2 s0 : Int} {u3 : mV} (kt : ¬ s0 = 0 → WP PR d 24 36 [vA 4, vI x1, vI x2, u3] [] S M Q) (kf : s0 = 0 → WP PR d 24 27 [vA 4, vI x1, vI x2, u3] [] S M Q) : WP PR d 24 24 [vA 4, vI x1, vI x2, u3] [vI s0] S M Q := by
  refine WP.if0 0 27 24 .ne 12 (0, 0, 0, 0) 36 rfl rfl ?_
  exact ⟨kt, fun hc => kf (Decidable.not_not.mp hc)⟩
set_option maxRecDepth 100000 in
theorem b_X2_sum_27 {d : Nat} {S : mSh} {M : mMem} {Q : Option mV → mSh → mMem → Prop} {x1 x2 : Int} {u3 : mV} (L : Lay S) (k : WP PR d 33 0 [vA 4, vA (-166), vU] [] S M (fun r S2 M2 => WP PR (d + 1) 24 33 [vA 4, vI x1, vI x2, u3] (r.toList ++ []) S2 M2 Q)) : WP PR (d + 1) 24 27 [vA 4, vI x1, vI x2, u3] [] S M Q := by
  refine WP.ca 2 33 30 (.invokevirtual 56) (0, 33, 0, 0) rfl ?_
  exact ⟨rfl, rfl, rfl, lo4 L, rfl, k⟩
set_option maxRecDepth 100000 in
theorem b_X2_sum_33 {d : Nat} {S : mSh} {M : mMem} {Q : Option mV → mSh → mMem → Prop} {x1 x2 s0 : Int} {u3 : mV} (kt : s0 = 0 → WP PR d 24 75 [vA 4, vI x1, vI x2, u3] [] S M Q) (kf : ¬ s0 = 0 → WP PR d 24 36 [vA 4, vI x1, vI x2, u3] [] S M Q) : WP PR d 24 33 [vA 4, vI x1, vI x2, u3] [vI s0] S M Q := by
  refine WP.if0 0 36 33 .eq 42 (0, 0, 0, 0) 75 rfl rfl ?_
  exact ⟨kt, fun hc => kf hc⟩
set_option maxRecDepth 100000 in
theorem b_X2_sum_36 {d : Nat} {S : mSh} {M : mMem} {Q : Option mV → mSh → mMem → Prop} {x1 x2 : Int} {u3 : mV} (L : Lay S) (k : WP PR d 33 0 [vA 4, vA (-164), vU] [] S M (fun r S2 M2 => WP PR (d + 1) 24 42 [vA 4, vI x1, vI x2, u3] (r.toList ++ []) S2 M2 Q)) : WP PR (d + 1) 24 36 [vA 4, vI x1, vI x2, u3] [] S M Q := by
  refine WP.ca 2 42 39 (.invokevirtual 56) (0, 33, 0, 0) rfl ?_
  exact ⟨rfl, rfl, rfl, lo4 L, rfl, k⟩
set_option maxRecDepth 100000 in
theorem b_X2_sum_42 {d : Nat} {S : mSh} {M : mMem} {Q : Option mV → mSh → mMem → Prop} {x1 x2 s0 : Int} {u3 : mV} (kt : s0 = 0 → WP PR d 24 49 [vA 4, vI x1, vI x2, u3] [] S M Q) (kf : ¬ s0 = 0 → WP PR d 24 45 [vA 4, vI x1, vI x2, u3] [] S M Q) : WP PR d 24 42 [vA 4, vI x1, vI x2, u3] [vI s0] S M Q := by
  refine WP.if0 0 45 42 .eq 7 (0, 0, 0, 0) 49 rfl rfl ?_
  exact ⟨kt, fun hc => kf hc⟩
set_option maxRecDepth 100000 in
theorem b_X2_sum_45 {d : Nat} {S : mSh} {M : mMem} {Q : Option mV → mSh → mMem → Prop} {x1 x2 : Int} {u3 : mV} (L : Lay S) (k : WP PR d 34 0 [vA 4, vU, vU, vU] [] S M (fun r S2 M2 => WP PR (d + 1) 24 55 [vA 4, vI x1, vI x2, vI 3] (r.toList ++ []) S2 M2 Q)) : WP PR (d + 1) 24 45 [vA 4, vI x1, vI x2, u3] [] S M Q := by
  refine WP.gt 1 46 4 (0, 0, 0, 0) _ 50 rfl rfl ?_
  show WP PR (d + 1) 24 50 [vA 4, vI x1, vI x2, u3] [vI 3] S M Q
  refine WP.ca 2 55 52 (.invokevirtual 44) (0, 34, 0, 0) rfl ?_
  exact ⟨rfl, rfl, rfl, lo4 L, rfl, k⟩
set_option maxRecDepth 100000 in
theorem b_X2_sum_49 {d : Nat} {S : mSh} {M : mMem} {Q : Option mV → mSh → mMem → Prop} {x1 x2 : Int} {u3 : mV} (L : Lay S) (k : WP PR d 34 0 [vA 4, vU, vU, vU] [] S M (fun r S2 M2 => WP PR (d + 1) 24 55 [vA 4, vI x1, vI x2, vI 4] (r.toList ++ []) S2 M2 Q)) : WP PR (d + 1) 24 49 [vA 4, vI x1, vI x2, u3] [] S M Q := by
  refine WP.ca 3 55 52 (.invokevirtual 44) (0, 34, 0, 0) rfl ?_
  exact ⟨rfl, rfl, rfl, lo4 L, rfl, k⟩
set_option maxRecDepth 100000 in
theorem b_X2_sum_55 {d : Nat} {S : mSh} {M : mMem} {Q : Option mV → mSh → mMem → Prop} {x1 x2 x3 : Int} (L : Lay S) (k : WP PR d 25 0 [vA 4, vU, vU, vU] [] S M (fun r S2 M2 => WP PR (d + 1) 24 59 [vA 4, vI x1, vI x2, vI x3] (r.toList ++ []) S2 M2 Q)) : WP PR (d + 1) 24 55 [vA 4, vI x1, vI x2, vI x3] [] S M Q := by
  refine WP.ca 1 59 56 (.invokevirtual 161) (0, 25, 0, 0) rfl ?_
  exact ⟨rfl, rfl, rfl, lo4 L, rfl, k⟩
set_option maxRecDepth 100000 in
theorem b_X2_sum_59 {d : Nat} {S : mSh} {M : mMem} {Q : Option mV → mSh → mMem → Prop} {x1 x2 x3 s0 : Int} (L : Lay S) (k : WP PR d 64 0 [vA 5, vI x3, vI 0] [] S M (fun r S2 M2 => WP PR (d + 1) 24 69 [vA 4, vI s0, vI x2, vI x3] (r.toList ++ []) S2 M2 Q)) : WP PR (d + 1) 24 59 [vA 4, vI x1, vI x2, vI x3] [vI s0] S M Q := by
  refine WP.ca 5 69 66 (.invokevirtual 129) (0, 64, 0, 0) rfl ?_
  exact And.intro (⟨lo4 L, lf4_1 L⟩) (⟨rfl, rfl, rfl, lo5 L, rfl, k⟩)
set_option maxRecDepth 100000 in
theorem b_X2_sum_69 {d : Nat} {S : mSh} {M : mMem} {Q : Option mV → mSh → mMem → Prop} {x1 x2 x3 : Int} (hc : R32 (x2 + 1)) (k : WP PR d 24 7 [vA 4, vI x1, vI (x2 + 1), vI x3] [] S M Q) : WP PR d 24 69 [vA 4, vI x1, vI x2, vI x3] [] S M Q := by
  refine WP.gt 1 72 (-65) (0, 0, 0, 0) _ 7 rfl rfl ?_
  exact And.intro (hc) (k)
set_option maxRecDepth 100000 in
theorem b_X2_sum_75 {d : Nat} {S : mSh} {M : mMem} {Q : Option mV → mSh → mMem → Prop} {x1 x2 : Int} {u3 : mV} (hc : (x1 = 0 ∨ x1 = 1)) (k : Q (some (vI x1)) S M) : WP PR d 24 75 [vA 4, vI x1, vI x2, u3] [] S M Q := by
  refine WP.re 1 76 .ireturn (0, 0, 0, 0) _ rfl ?_
  exact ⟨rfl, rfl, hc, k⟩
/-- SoleraCellar$Reader.term()Z -/
abbrev e_X2_term (d : Nat) (S : mSh) (M : mMem) (Q : Option mV → mSh → mMem → Prop) : Prop := WP PR d 25 0 [vA 4, vU, vU, vU] [] S M Q
set_option maxRecDepth 100000 in
theorem b_X2_term_0 {d : Nat} {S : mSh} {M : mMem} {Q : Option mV → mSh → mMem → Prop} (L : Lay S) (k : WP PR d 26 0 [vA 4, vU, vU, vU] [] S M (fun r S2 M2 => WP PR (d + 1) 25 4 [vA 4, vU, vU, vU] (r.toList ++ []) S2 M2 Q)) : WP PR (d + 1) 25 0 [vA 4, vU, vU, vU] [] S M Q := by
  refine WP.ca 1 4 1 (.invokevirtual 168) (0, 26, 0, 0) rfl ?_
  exact ⟨rfl, rfl, rfl, lo4 L, rfl, k⟩
set_option maxRecDepth 100000 in
theorem b_X2_term_4 {d : Nat} {S : mSh} {M : mMem} {Q : Option mV → mSh → mMem → Prop} {s0 : Int} {u1 u2 u3 : mV} (k : WP PR d 25 7 [vA 4, vI s0, vI 0, u3] [] S M Q) : WP PR d 25 4 [vA 4, u1, u2, u3] [vI s0] S M Q := by
  refine WP.bl 3 7 rfl ?_
  exact k
set_option maxRecDepth 100000 in
theorem b_X2_term_7 {d : Nat} {S : mSh} {M : mMem} {Q : Option mV → mSh → mMem → Prop} {x1 x2 : Int} {u3 : mV} (kt : 400 ≤ x2 → WP PR d 25 99 [vA 4, vI x1, vI x2, u3] [] S M Q) (kf : x2 < 400 → WP PR d 25 14 [vA 4, vI x1, vI x2, u3] [] S M Q) : WP PR d 25 7 [vA 4, vI x1, vI x2, u3] [] S M Q := by
  refine WP.if2 2 14 11 .ge 88 (0, 0, 0, 0) 99 rfl rfl ?_
  exact ⟨kt, fun hc => kf (Int.not_le.mp hc)⟩
set_option maxRecDepth 100000 in
theorem b_X2_term_14 {d : Nat} {S : mSh} {M : mMem} {Q : Option mV → mSh → mMem → Prop} {x1 x2 : Int} {u3 : mV} (kt : x1 = 0 → WP PR d 25 99 [vA 4, vI x1, vI x2, u3] [] S M Q) (kf : ¬ x1 = 0 → WP PR d 25 18 [vA 4, vI x1, vI x2, u3] [] S M Q) : WP PR d 25 14 [vA 4, vI x1, vI x2, u3] [] S M Q := by
  refine WP.if0 1 18 15 .eq 84 (0, 0, 0, 0) 99 rfl rfl ?_
  exact ⟨kt, fun hc => kf hc⟩
set_option maxRecDepth 100000 in
theorem b_X2_term_18 {d : Nat} {S : mSh} {M : mMem} {Q : Option mV → mSh → mMem → Prop} {x1 x2 : Int} {u3 : mV} (L : Lay S) (k : WP PR d 33 0 [vA 4, vA (-171), vU] [] S M (fun r S2 M2 => WP PR (d + 1) 25 24 [vA 4, vI x1, vI x2, u3] (r.toList ++ []) S2 M2 Q)) : WP PR (d + 1) 25 18 [vA 4, vI x1, vI x2, u3] [] S M Q := by
  refine WP.ca 2 24 21 (.invokevirtual 56) (0, 33, 0, 0) rfl ?_
  exact ⟨rfl, rfl, rfl, lo4 L, rfl, k⟩
set_option maxRecDepth 100000 in
theorem b_X2_term_24 {d : Nat} {S : mSh} {M : mMem} {Q : Option mV → mSh → mMem → Prop} {x1 x2 s0 : Int} {u3 : mV} (kt : ¬ s0 = 0 → WP PR d 25 45 [vA 4, vI x1, vI x2, u3] [] S M Q) (kf : s0 = 0 → WP PR d 25 27 [vA 4, vI x1, vI x2, u3] [] S M Q) : WP PR d 25 24 [vA 4, vI x1, vI x2, u3] [vI s0] S M Q := by
  refine WP.if0 0 27 24 .ne 21 (0, 0, 0, 0) 45 rfl rfl ?_
  exact ⟨kt, fun hc => kf (Decidable.not_not.mp hc)⟩
set_option maxRecDepth 100000 in
theorem b_X2_term_27 {d : Nat} {S : mSh} {M : mMem} {Q : Option mV → mSh → mMem → Prop} {x1 x2 : Int} {u3 : mV} (L : Lay S) (k : WP PR d 33 0 [vA 4, vA (-173), vU] [] S M (fun r S2 M2 => WP PR (d + 1) 25 33 [vA 4, vI x1, vI x2, u3] (r.toList ++ []) S2 M2 Q)) : WP PR (d + 1) 25 27 [vA 4, vI x1, vI x2, u3] [] S M Q := by
  refine WP.ca 2 33 30 (.invokevirtual 56) (0, 33, 0, 0) rfl ?_
  exact ⟨rfl, rfl, rfl, lo4 L, rfl, k⟩
set_option maxRecDepth 100000 in
theorem b_X2_term_33 {d : Nat} {S : mSh} {M : mMem} {Q : Option mV → mSh → mMem → Prop} {x1 x2 s0 : Int} {u3 : mV} (kt : ¬ s0 = 0 → WP PR d 25 45 [vA 4, vI x1, vI x2, u3] [] S M Q) (kf : s0 = 0 → WP PR d 25 36 [vA 4, vI x1, vI x2, u3] [] S M Q) : WP PR d 25 33 [vA 4, vI x1, vI x2, u3] [vI s0] S M Q := by
  refine WP.if0 0 36 33 .ne 12 (0, 0, 0, 0) 45 rfl rfl ?_
  exact ⟨kt, fun hc => kf (Decidable.not_not.mp hc)⟩
set_option maxRecDepth 100000 in
theorem b_X2_term_36 {d : Nat} {S : mSh} {M : mMem} {Q : Option mV → mSh → mMem → Prop} {x1 x2 : Int} {u3 : mV} (L : Lay S) (k : WP PR d 33 0 [vA 4, vA (-175), vU] [] S M (fun r S2 M2 => WP PR (d + 1) 25 42 [vA 4, vI x1, vI x2, u3] (r.toList ++ []) S2 M2 Q)) : WP PR (d + 1) 25 36 [vA 4, vI x1, vI x2, u3] [] S M Q := by
  refine WP.ca 2 42 39 (.invokevirtual 56) (0, 33, 0, 0) rfl ?_
  exact ⟨rfl, rfl, rfl, lo4 L, rfl, k⟩
set_option maxRecDepth 100000 in
theorem b_X2_term_42 {d : Nat} {S : mSh} {M : mMem} {Q : Option mV → mSh → mMem → Prop} {x1 x2 s0 : Int} {u3 : mV} (kt : s0 = 0 → WP PR d 25 99 [vA 4, vI x1, vI x2, u3] [] S M Q) (kf : ¬ s0 = 0 → WP PR d 25 45 [vA 4, vI x1, vI x2, u3] [] S M Q) : WP PR d 25 42 [vA 4, vI x1, vI x2, u3] [vI s0] S M Q := by
  refine WP.if0 0 45 42 .eq 57 (0, 0, 0, 0) 99 rfl rfl ?_
  exact ⟨kt, fun hc => kf hc⟩
set_option maxRecDepth 100000 in
theorem b_X2_term_45 {d : Nat} {S : mSh} {M : mMem} {Q : Option mV → mSh → mMem → Prop} {x1 x2 : Int} {u3 : mV} (L : Lay S) (k : WP PR d 33 0 [vA 4, vA (-171), vU] [] S M (fun r S2 M2 => WP PR (d + 1) 25 51 [vA 4, vI x1, vI x2, u3] (r.toList ++ []) S2 M2 Q)) : WP PR (d + 1) 25 45 [vA 4, vI x1, vI x2, u3] [] S M Q := by
  refine WP.ca 2 51 48 (.invokevirtual 56) (0, 33, 0, 0) rfl ?_
  exact ⟨rfl, rfl, rfl, lo4 L, rfl, k⟩
set_option maxRecDepth 100000 in
theorem b_X2_term_51 {d : Nat} {S : mSh} {M : mMem} {Q : Option mV → mSh → mMem → Prop} {x1 x2 s0 : Int} {u3 : mV} (kt : s0 = 0 → WP PR d 25 58 [vA 4, vI x1, vI x2, u3] [] S M Q) (kf : ¬ s0 = 0 → WP PR d 25 54 [vA 4, vI x1, vI x2, u3] [] S M Q) : WP PR d 25 51 [vA 4, vI x1, vI x2, u3] [vI s0] S M Q := by
  refine WP.if0 0 54 51 .eq 7 (0, 0, 0, 0) 58 rfl rfl ?_
  exact ⟨kt, fun hc => kf hc⟩
set_option maxRecDepth 100000 in
theorem b_X2_term_54 {d : Nat} {S : mSh} {M : mMem} {Q : Option mV → mSh → mMem → Prop} {x1 x2 : Int} {u3 : mV} (L : Lay S) (k : WP PR d 34 0 [vA 4, vU, vU, vU] [] S M (fun r S2 M2 => WP PR (d + 1) 25 79 [vA 4, vI x1, vI x2, vI 5] (r.toList ++ []) S2 M2 Q)) : WP PR (d + 1) 25 54 [vA 4, vI x1, vI x2, u3] [] S M Q := by
  refine WP.gt 1 55 19 (0, 0, 0, 0) _ 74 rfl rfl ?_
  show WP PR (d + 1) 25 74 [vA 4, vI x1, vI x2, u3] [vI 5] S M Q
  refine WP.ca 2 79 76 (.invokevirtual 44) (0, 34, 0, 0) rfl ?_
  exact ⟨rfl, rfl, rfl, lo4 L, rfl, k⟩
set_option maxRecDepth 100000 in
theorem b_X2_term_58 {d : Nat} {S : mSh} {M : mMem} {Q : Option mV → mSh → mMem → Prop} {x1 x2 : Int} {u3 : mV} (L : Lay S) (k : WP PR d 33 0 [vA 4, vA (-173), vU] [] S M (fun r S2 M2 => WP PR (d + 1) 25 64 [vA 4, vI x1, vI x2, u3] (r.toList ++ []) S2 M2 Q)) : WP PR (d + 1) 25 58 [vA 4, vI x1, vI x2, u3] [] S M Q := by
  refine WP.ca 2 64 61 (.invokevirtual 56) (0, 33, 0, 0) rfl ?_
  exact ⟨rfl, rfl, rfl, lo4 L, rfl, k⟩
set_option maxRecDepth 100000 in
theorem b_X2_term_64 {d : Nat} {S : mSh} {M : mMem} {Q : Option mV → mSh → mMem → Prop} {x1 x2 s0 : Int} {u3 : mV} (kt : s0 = 0 → WP PR d 25 72 [vA 4, vI x1, vI x2, u3] [] S M Q) (kf : ¬ s0 = 0 → WP PR d 25 67 [vA 4, vI x1, vI x2, u3] [] S M Q) : WP PR d 25 64 [vA 4, vI x1, vI x2, u3] [vI s0] S M Q := by
  refine WP.if0 0 67 64 .eq 8 (0, 0, 0, 0) 72 rfl rfl ?_
  exact ⟨kt, fun hc => kf hc⟩
set_option maxRecDepth 100000 in
theorem b_X2_term_67 {d : Nat} {S : mSh} {M : mMem} {Q : Option mV → mSh → mMem → Prop} {x1 x2 : Int} {u3 : mV} (L : Lay S) (k : WP PR d 34 0 [vA 4, vU, vU, vU] [] S M (fun r S2 M2 => WP PR (d + 1) 25 79 [vA 4, vI x1, vI x2, vI 6] (r.toList ++ []) S2 M2 Q)) : WP PR (d + 1) 25 67 [vA 4, vI x1, vI x2, u3] [] S M Q := by
  refine WP.gt 1 69 5 (0, 0, 0, 0) _ 74 rfl rfl ?_
  show WP PR (d + 1) 25 74 [vA 4, vI x1, vI x2, u3] [vI 6] S M Q
  refine WP.ca 2 79 76 (.invokevirtual 44) (0, 34, 0, 0) rfl ?_
  exact ⟨rfl, rfl, rfl, lo4 L, rfl, k⟩
set_option maxRecDepth 100000 in
theorem b_X2_term_72 {d : Nat} {S : mSh} {M : mMem} {Q : Option mV → mSh → mMem → Prop} {x1 x2 : Int} {u3 : mV} (L : Lay S) (k : WP PR d 34 0 [vA 4, vU, vU, vU] [] S M (fun r S2 M2 => WP PR (d + 1) 25 79 [vA 4, vI x1, vI x2, vI 7] (r.toList ++ []) S2 M2 Q)) : WP PR (d + 1) 25 72 [vA 4, vI x1, vI x2, u3] [] S M Q := by
  refine WP.ca 3 79 76 (.invokevirtual 44) (0, 34, 0, 0) rfl ?_
  exact ⟨rfl, rfl, rfl, lo4 L, rfl, k⟩
set_option maxRecDepth 100000 in
theorem b_X2_term_79 {d : Nat} {S : mSh} {M : mMem} {Q : Option mV → mSh → mMem → Prop} {x1 x2 x3 : Int} (L : Lay S) (k : WP PR d 26 0 [vA 4, vU, vU, vU] [] S M (fun r S2 M2 => WP PR (d + 1) 25 83 [vA 4, vI x1, vI x2, vI x3] (r.toList ++ []) S2 M2 Q)) : WP PR (d + 1) 25 79 [vA 4, vI x1, vI x2, vI x3] [] S M Q := by
  refine WP.ca 1 83 80 (.invokevirtual 168) (0, 26, 0, 0) rfl ?_
  exact ⟨rfl, rfl, rfl, lo4 L, rfl, k⟩
set_option maxRecDepth 100000 in
theorem b_X2_term_83 {d : Nat} {S : mSh} {M : mMem} {Q : Option mV → mSh → mMem → Prop} {x1 x2 x3 s0 : Int} (L : Lay S) (k : WP PR d 64 0 [vA 5, vI x3, vI 0] [] S M (fun r S2 M2 => WP PR (d + 1) 25 93 [vA 4, vI s0, vI x2, vI x3] (r.toList ++ []) S2 M2 Q)) : WP PR (d + 1) 25 83 [vA 4, vI x1, vI x2, vI x3] [vI s0] S M Q := by
  refine WP.ca 5 93 90 (.invokevirtual 129) (0, 64, 0, 0) rfl ?_
  exact And.intro (⟨lo4 L, lf4_1 L⟩) (⟨rfl, rfl, rfl, lo5 L, rfl, k⟩)
set_option maxRecDepth 100000 in
theorem b_X2_term_93 {d : Nat} {S : mSh} {M : mMem} {Q : Option mV → mSh → mMem → Prop} {x1 x2 x3 : Int} (hc : R32 (x2 + 1)) (k : WP PR d 25 7 [vA 4, vI x1, vI (x2 + 1), vI x3] [] S M Q) : WP PR d 25 93 [vA 4, vI x1, vI x2, vI x3] [] S M Q := by
  refine WP.gt 1 96 (-89) (0, 0, 0, 0) _ 7 rfl rfl ?_
  exact And.intro (hc) (k)
set_option maxRecDepth 100000 in
theorem b_X2_term_99 {d : Nat} {S : mSh} {M : mMem} {Q : Option mV → mSh → mMem → Prop} {x1 x2 : Int} {u3 : mV} (hc : (x1 = 0 ∨ x1 = 1)) (k : Q (some (vI x1)) S M) : WP PR d 25 99 [vA 4, vI x1, vI x2, u3] [] S M Q := by
  refine WP.re 1 100 .ireturn (0, 0, 0, 0) _ rfl ?_
  exact ⟨rfl, rfl, hc, k⟩
/-- SoleraCellar$Reader.part()Z -/
abbrev e_X2_part (d : Nat) (S : mSh) (M : mMem) (Q : Option mV → mSh → mMem → Prop) : Prop := WP PR d 26 0 [vA 4, vU, vU, vU] [] S M Q
set_option maxRecDepth 100000 in
theorem b_X2_part_0 {d : Nat} {S : mSh} {M : mMem} {Q : Option mV → mSh → mMem → Prop} (L : Lay S) (k : WP PR d 33 0 [vA 4, vA (-177), vU] [] S M (fun r S2 M2 => WP PR (d + 1) 26 6 [vA 4, vU, vU, vU] (r.toList ++ []) S2 M2 Q)) : WP PR (d + 1) 26 0 [vA 4, vU, vU, vU] [] S M Q := by
  refine WP.ca 2 6 3 (.invokevirtual 56) (0, 33, 0, 0) rfl ?_
  exact ⟨rfl, rfl, rfl, lo4 L, rfl, k⟩
set_option maxRecDepth 100000 in
theorem b_X2_part_6 {d : Nat} {S : mSh} {M : mMem} {Q : Option mV → mSh → mMem → Prop} {s0 : Int} {u1 u2 u3 : mV} (kt : s0 = 0 → WP PR d 26 38 [vA 4, u1, u2, u3] [] S M Q) (kf : ¬ s0 = 0 → WP PR d 26 9 [vA 4, u1, u2, u3] [] S M Q) : WP PR d 26 6 [vA 4, u1, u2, u3] [vI s0] S M Q := by
  refine WP.if0 0 9 6 .eq 32 (0, 0, 0, 0) 38 rfl rfl ?_
  exact ⟨kt, fun hc => kf hc⟩
set_option maxRecDepth 100000 in
theorem b_X2_part_9 {d : Nat} {S : mSh} {M : mMem} {Q : Option mV → mSh → mMem → Prop} {u1 u2 u3 : mV} (L : Lay S) (k : WP PR d 30 0 [vA 4] [] S M (fun r S2 M2 => WP PR (d + 1) 26 13 [vA 4, u1, u2, u3] (r.toList ++ []) S2 M2 Q)) : WP PR (d + 1) 26 9 [vA 4, u1, u2, u3] [] S M Q := by
  refine WP.ca 1 13 10 (.invokevirtual 144) (0, 30, 0, 0) rfl ?_
  exact ⟨rfl, rfl, rfl, lo4 L, rfl, k⟩
set_option maxRecDepth 100000 in
theorem b_X2_part_13 {d : Nat} {S : mSh} {M : mMem} {Q : Option mV → mSh → mMem → Prop} {s0 : Int} {u1 u2 u3 : mV} (kt : s0 = 0 → WP PR d 26 36 [vA 4, u1, u2, u3] [] S M Q) (kf : ¬ s0 = 0 → WP PR d 26 16 [vA 4, u1, u2, u3] [] S M Q) : WP PR d 26 13 [vA 4, u1, u2, u3] [vI s0] S M Q := by
  refine WP.if0 0 16 13 .eq 23 (0, 0, 0, 0) 36 rfl rfl ?_
  exact ⟨kt, fun hc => kf hc⟩
set_option maxRecDepth 100000 in
theorem b_X2_part_16 {d : Nat} {S : mSh} {M : mMem} {Q : Option mV → mSh → mMem → Prop} {u1 u2 u3 : mV} (L : Lay S) (k : WP PR d 24 0 [vA 4, vU, vU, vU] [] S M (fun r S2 M2 => WP PR (d + 1) 26 20 [vA 4, u1, u2, u3] (r.toList ++ []) S2 M2 Q)) : WP PR (d + 1) 26 16 [vA 4, u1, u2, u3] [] S M Q := by
  refine WP.ca 1 20 17 (.invokevirtual 85) (0, 24, 0, 0) rfl ?_
  exact ⟨rfl, rfl, rfl, lo4 L, rfl, k⟩
set_option maxRecDepth 100000 in
theorem b_X2_part_20 {d : Nat} {S : mSh} {M : mMem} {Q : Option mV → mSh → mMem → Prop} {s0 : Int} {u1 u2 u3 : mV} (kt : s0 = 0 → WP PR d 26 36 [vA 4, u1, u2, u3] [] S M Q) (kf : ¬ s0 = 0 → WP PR d 26 23 [vA 4, u1, u2, u3] [] S M Q) : WP PR d 26 20 [vA 4, u1, u2, u3] [vI s0] S M Q := by
  refine WP.if0 0 23 20 .eq 16 (0, 0, 0, 0) 36 rfl rfl ?_
  exact ⟨kt, fun hc => kf hc⟩
set_option maxRecDepth 100000 in
theorem b_X2_part_23 {d : Nat} {S : mSh} {M : mMem} {Q : Option mV → mSh → mMem → Prop} {u1 u2 u3 : mV} (L : Lay S) (k : WP PR d 31 0 [vA 4, vA (-179)] [] S M (fun r S2 M2 => WP PR (d + 1) 26 29 [vA 4, u1, u2, u3] (r.toList ++ []) S2 M2 Q)) : WP PR (d + 1) 26 23 [vA 4, u1, u2, u3] [] S M Q := by
  refine WP.ca 2 29 26 (.invokevirtual 149) (0, 31, 0, 0) rfl ?_
  exact ⟨rfl, rfl, rfl, lo4 L, rfl, k⟩
set_option maxRecDepth 100000 in
theorem b_X2_part_29 {d : Nat} {S : mSh} {M : mMem} {Q : Option mV → mSh → mMem → Prop} {s0 : Int} {u1 u2 u3 : mV} (kt : s0 = 0 → WP PR d 26 36 [vA 4, u1, u2, u3] [] S M Q) (kf : ¬ s0 = 0 → WP PR d 26 32 [vA 4, u1, u2, u3] [] S M Q) : WP PR d 26 29 [vA 4, u1, u2, u3] [vI s0] S M Q := by
  refine WP.if0 0 32 29 .eq 7 (0, 0, 0, 0) 36 rfl rfl ?_
  exact ⟨kt, fun hc => kf hc⟩
set_option maxRecDepth 100000 in
theorem b_X2_part_32 {d : Nat} {S : mSh} {M : mMem} {Q : Option mV → mSh → mMem → Prop} {u1 u2 u3 : mV} (k : Q (some (vI 1)) S M) : WP PR d 26 32 [vA 4, u1, u2, u3] [] S M Q := by
  refine WP.gt 1 33 4 (0, 0, 0, 0) _ 37 rfl rfl ?_
  show WP PR d 26 37 [vA 4, u1, u2, u3] [vI 1] S M Q
  refine WP.re 0 37 .ireturn (0, 0, 0, 0) _ rfl ?_
  exact ⟨rfl, rfl, Or.inr rfl, k⟩
set_option maxRecDepth 100000 in
theorem b_X2_part_36 {d : Nat} {S : mSh} {M : mMem} {Q : Option mV → mSh → mMem → Prop} {u1 u2 u3 : mV} (k : Q (some (vI 0)) S M) : WP PR d 26 36 [vA 4, u1, u2, u3] [] S M Q := by
  refine WP.re 1 37 .ireturn (0, 0, 0, 0) _ rfl ?_
  exact ⟨rfl, rfl, Or.inl rfl, k⟩
set_option maxRecDepth 100000 in
theorem b_X2_part_38 {d : Nat} {S : mSh} {M : mMem} {Q : Option mV → mSh → mMem → Prop} {u1 u2 u3 : mV} (L : Lay S) (kt : M 4 2 = 0 → WP PR d 26 52 [vA 4, u1, u2, u3] [] S M Q) (kf : ¬ M 4 2 = 0 → WP PR d 26 45 [vA 4, u1, u2, u3] [] S M Q) : WP PR d 26 38 [vA 4, u1, u2, u3] [] S M Q := by
  refine WP.if0 2 45 42 .eq 10 (0, 0, 0, 0) 52 rfl rfl ?_
  exact And.intro (lo4 L) (⟨kt, fun hc => kf hc⟩)
set_option maxRecDepth 100000 in
theorem b_X2_part_45 {d : Nat} {S : mSh} {M : mMem} {Q : Option mV → mSh → mMem → Prop} {u1 u2 u3 : mV} (L : Lay S) (k : WP PR d 28 0 [vA 4] [] S M (fun r S2 M2 => WP PR (d + 1) 26 49 [vA 4, u1, u2, u3] (r.toList ++ []) S2 M2 Q)) : WP PR (d + 1) 26 45 [vA 4, u1, u2, u3] [] S M Q := by
  refine WP.ca 1 49 46 (.invokevirtual 181) (0, 28, 0, 0) rfl ?_
  exact ⟨rfl, rfl, rfl, lo4 L, rfl, k⟩
set_option maxRecDepth 100000 in
theorem b_X2_part_49 {d : Nat} {S : mSh} {M : mMem} {Q : Option mV → mSh → mMem → Prop} {s0 : Int} {u1 u2 u3 : mV} (L : Lay S) (kt : ¬ M 4 5 = 2 → WP PR d 26 79 [vA 4, vI s0, u2, u3] [] S M Q) (kf : M 4 5 = 2 → WP PR d 26 65 [vA 4, vI s0, u2, u3] [] S M Q) : WP PR d 26 49 [vA 4, u1, u2, u3] [vI s0] S M Q := by
  refine WP.gt 0 49 7 (0, 0, 0, 0) _ 56 rfl rfl ?_
  show WP PR d 26 56 [vA 4, u1, u2, u3] [vI s0] S M Q
  refine WP.if2 4 65 62 .ne 17 (0, 0, 0, 0) 79 rfl rfl ?_
  exact And.intro (lo4 L) (⟨kt, fun hc => kf (Decidable.not_not.mp hc)⟩)
set_option maxRecDepth 100000 in
theorem b_X2_part_52 {d : Nat} {S : mSh} {M : mMem} {Q : Option mV → mSh → mMem → Prop} {u1 u2 u3 : mV} (L : Lay S) (k : WP PR d 29 0 [vA 4] [] S M (fun r S2 M2 => WP PR (d + 1) 26 56 [vA 4, u1, u2, u3] (r.toList ++ []) S2 M2 Q)) : WP PR (d + 1) 26 52 [vA 4, u1, u2, u3] [] S M Q := by
  refine WP.ca 1 56 53 (.invokevirtual 184) (0, 29, 0, 0) rfl ?_
  exact ⟨rfl, rfl, rfl, lo4 L, rfl, k⟩
set_option maxRecDepth 100000 in
theorem b_X2_part_56 {d : Nat} {S : mSh} {M : mMem} {Q : Option mV → mSh → mMem → Prop} {s0 : Int} {u1 u2 u3 : mV} (L : Lay S) (kt : ¬ M 4 5 = 2 → WP PR d 26 79 [vA 4, vI s0, u2, u3] [] S M Q) (kf : M 4 5 = 2 → WP PR d 26 65 [vA 4, vI s0, u2, u3] [] S M Q) : WP PR d 26 56 [vA 4, u1, u2, u3] [vI s0] S M Q := by
  refine WP.if2 4 65 62 .ne 17 (0, 0, 0, 0) 79 rfl rfl ?_
  exact And.intro (lo4 L) (⟨kt, fun hc => kf (Decidable.not_not.mp hc)⟩)
set_option maxRecDepth 100000 in
theorem b_X2_part_65 {d : Nat} {S : mSh} {M : mMem} {Q : Option mV → mSh → mMem → Prop} {x1 : Int} {u2 u3 : mV} (L : Lay S) (kt : 1000 < M 4 6 → WP PR d 26 79 [vA 4, vI x1, u2, u3] [] S M Q) (kf : M 4 6 ≤ 1000 → WP PR d 26 75 [vA 4, vI x1, u2, u3] [] S M Q) : WP PR d 26 65 [vA 4, vI x1, u2, u3] [] S M Q := by
  refine WP.if2 3 75 72 .gt 7 (0, 0, 0, 0) 79 rfl rfl ?_
  exact And.intro (lo4 L) (⟨kt, fun hc => kf (Int.not_lt.mp hc)⟩)
set_option maxRecDepth 100000 in
theorem b_X2_part_75 {d : Nat} {S : mSh} {M : mMem} {Q : Option mV → mSh → mMem → Prop} {x1 : Int} {u2 u3 : mV} (L : Lay S) (kt : 50 ≤ M 4 7 → WP PR d 26 99 [vA 4, vI x1, vI 1, u3] [] S M Q) (kf : M 4 7 < 50 → WP PR d 26 90 [vA 4, vI x1, vI 1, u3] [] S M Q) : WP PR d 26 75 [vA 4, vI x1, u2, u3] [] S M Q := by
  refine WP.gt 1 76 4 (0, 0, 0, 0) _ 80 rfl rfl ?_
  show WP PR d 26 80 [vA 4, vI x1, u2, u3] [vI 1] S M Q
  refine WP.if2 4 90 87 .ge 12 (0, 0, 0, 0) 99 rfl rfl ?_
  exact And.intro (lo4 L) (⟨kt, fun hc => kf (Int.not_le.mp hc)⟩)
set_option maxRecDepth 100000 in
theorem b_X2_part_79 {d : Nat} {S : mSh} {M : mMem} {Q : Option mV → mSh → mMem → Prop} {x1 : Int} {u2 u3 : mV} (L : Lay S) (kt : 50 ≤ M 4 7 → WP PR d 26 99 [vA 4, vI x1, vI 0, u3] [] S M Q) (kf : M 4 7 < 50 → WP PR d 26 90 [vA 4, vI x1, vI 0, u3] [] S M Q) : WP PR d 26 79 [vA 4, vI x1, u2, u3] [] S M Q := by
  refine WP.if2 5 90 87 .ge 12 (0, 0, 0, 0) 99 rfl rfl ?_
  exact And.intro (lo4 L) (⟨kt, fun hc => kf (Int.not_le.mp hc)⟩)
set_option maxRecDepth 100000 in
theorem b_X2_part_90 {d : Nat} {S : mSh} {M : mMem} {Q : Option mV → mSh → mMem → Prop} {x1 x2 : Int} {u3 : mV} (kt : ¬ x2 = 0 → WP PR d 26 104 [vA 4, vI x1, vI x2, u3] [] S M Q) (kf : x2 = 0 → WP PR d 26 94 [vA 4, vI x1, vI x2, u3] [] S M Q) : WP PR d 26 90 [vA 4, vI x1, vI x2, u3] [] S M Q := by
  refine WP.if0 1 94 91 .ne 13 (0, 0, 0, 0) 104 rfl rfl ?_
  exact ⟨kt, fun hc => kf (Decidable.not_not.mp hc)⟩
set_option maxRecDepth 100000 in
theorem b_X2_part_94 {d : Nat} {S : mSh} {M : mMem} {Q : Option mV → mSh → mMem → Prop} {x1 x2 : Int} {u3 : mV} (kt : ¬ x1 = (-1) → WP PR d 26 104 [vA 4, vI x1, vI x2, u3] [] S M Q) (kf : x1 = (-1) → WP PR d 26 99 [vA 4, vI x1, vI x2, u3] [] S M Q) : WP PR d 26 94 [vA 4, vI x1, vI x2, u3] [] S M Q := by
  refine WP.if2 2 99 96 .ne 8 (0, 0, 0, 0) 104 rfl rfl ?_
  exact ⟨kt, fun hc => kf (Decidable.not_not.mp hc)⟩
set_option maxRecDepth 100000 in
theorem b_X2_part_99 {d : Nat} {S : mSh} {M : mMem} {Q : Option mV → mSh → mMem → Prop} {x1 x2 : Int} {u3 : mV} (L : Lay S) (k : WP PR d 32 0 [vA 4] [] S M (fun r S2 M2 => WP PR (d + 1) 26 103 [vA 4, vI x1, vI x2, u3] (r.toList ++ []) S2 M2 Q)) : WP PR (d + 1) 26 99 [vA 4, vI x1, vI x2, u3] [] S M Q := by
  refine WP.ca 1 103 100 (.invokevirtual 70) (0, 32, 0, 0) rfl ?_
  exact ⟨rfl, rfl, rfl, lo4 L, rfl, k⟩
set_option maxRecDepth 100000 in
theorem b_X2_part_103 {d : Nat} {S : mSh} {M : mMem} {Q : Option mV → mSh → mMem → Prop} {x1 x2 s0 : Int} {u3 : mV} (hc : (s0 = 0 ∨ s0 = 1)) (k : Q (some (vI s0)) S M) : WP PR d 26 103 [vA 4, vI x1, vI x2, u3] [vI s0] S M Q := by
  refine WP.re 0 103 .ireturn (0, 0, 0, 0) _ rfl ?_
  exact ⟨rfl, rfl, hc, k⟩
set_option maxRecDepth 100000 in
theorem b_X2_part_104 {d : Nat} {S : mSh} {M : mMem} {Q : Option mV → mSh → mMem → Prop} {x1 x2 : Int} {u3 : mV} (L : Lay S) (hc : R32 ((M 4 7) + 1)) (k : WP PR d 34 0 [vA 4, vU, vU, vU] [] S (up M 4 7 ((M 4 7) + 1)) (fun r S2 M2 => WP PR (d + 1) 26 123 [vA 4, vI x1, vI x2, vI (M 4 6)] (r.toList ++ []) S2 M2 Q)) : WP PR (d + 1) 26 104 [vA 4, vI x1, vI x2, u3] [] S M Q := by
  refine WP.ca 10 123 120 (.invokevirtual 44) (0, 34, 0, 0) rfl ?_
  exact And.intro (lo4 L) (And.intro (hc) (And.intro (lo4 L) (And.intro (lo4 L) (⟨rfl, rfl, rfl, lo4 L, rfl, k⟩))))
set_option maxRecDepth 100000 in
theorem b_X2_part_123 {d : Nat} {S : mSh} {M : mMem} {Q : Option mV → mSh → mMem → Prop} {x1 x2 x3 : Int} (kt : x2 = 0 → WP PR d 26 138 [vA 4, vI x1, vI x2, vI x3] [] S M Q) (kf : ¬ x2 = 0 → WP PR d 26 127 [vA 4, vI x1, vI x2, vI x3] [] S M Q) : WP PR d 26 123 [vA 4, vI x1, vI x2, vI x3] [] S M Q := by
  refine WP.if0 1 127 124 .eq 14 (0, 0, 0, 0) 138 rfl rfl ?_
  exact ⟨kt, fun hc => kf hc⟩
set_option maxRecDepth 100000 in
theorem b_X2_part_127 {d : Nat} {S : mSh} {M : mMem} {Q : Option mV → mSh → mMem → Prop} {x1 x2 x3 : Int} (L : Lay S) (k : WP PR d 64 0 [vA 5, vI 0, vI x3] [] S M (fun r S2 M2 => WP PR (d + 1) 26 136 [vA 4, vI x1, vI x2, vI x3] (r.toList ++ []) S2 M2 Q)) : WP PR (d + 1) 26 127 [vA 4, vI x1, vI x2, vI x3] [] S M Q := by
  refine WP.ca 4 136 133 (.invokevirtual 129) (0, 64, 0, 0) rfl ?_
  exact And.intro (⟨lo4 L, lf4_1 L⟩) (⟨rfl, rfl, rfl, lo5 L, rfl, k⟩)
set_option maxRecDepth 100000 in
theorem b_X2_part_136 {d : Nat} {S : mSh} {M : mMem} {Q : Option mV → mSh → mMem → Prop} {x1 x2 x3 : Int} (k : Q (some (vI 1)) S M) : WP PR d 26 136 [vA 4, vI x1, vI x2, vI x3] [] S M Q := by
  refine WP.re 1 137 .ireturn (0, 0, 0, 0) _ rfl ?_
  exact ⟨rfl, rfl, Or.inr rfl, k⟩
set_option maxRecDepth 100000 in
theorem b_X2_part_138 {d : Nat} {S : mSh} {M : mMem} {Q : Option mV → mSh → mMem → Prop} {x1 x2 x3 : Int} (L : Lay S) (k : WP PR d 27 0 [vA 4, vI x1, vU] [] S M (fun r S2 M2 => WP PR (d + 1) 26 143 [vA 4, vI x1, vI x2, vI x3] (r.toList ++ []) S2 M2 Q)) : WP PR (d + 1) 26 138 [vA 4, vI x1, vI x2, vI x3] [] S M Q := by
  refine WP.ca 2 143 140 (.invokevirtual 187) (0, 27, 0, 0) rfl ?_
  exact ⟨rfl, rfl, rfl, lo4 L, rfl, k⟩
set_option maxRecDepth 100000 in
theorem b_X2_part_143 {d : Nat} {S : mSh} {M : mMem} {Q : Option mV → mSh → mMem → Prop} {x1 x2 x3 s0 : Int} (hc : (s0 = 0 ∨ s0 = 1)) (k : Q (some (vI s0)) S M) : WP PR d 26 143 [vA 4, vI x1, vI x2, vI x3] [vI s0] S M Q := by
  refine WP.re 0 143 .ireturn (0, 0, 0, 0) _ rfl ?_
  exact ⟨rfl, rfl, hc, k⟩
/-- SoleraCellar$Reader.wordWritten(I)Z -/
abbrev e_X2_wordWritten (d : Nat) (a1 : Int) (S : mSh) (M : mMem) (Q : Option mV → mSh → mMem → Prop) : Prop := WP PR d 27 0 [vA 4, vI a1, vU] [] S M Q
set_option maxRecDepth 100000 in
theorem b_X2_wordWritten_0 {d : Nat} {S : mSh} {M : mMem} {Q : Option mV → mSh → mMem → Prop} {x1 : Int} (kt : 5 ≤ x1 → WP PR d 27 16 [vA 4, vI x1, vU] [] S M Q) (kf : x1 < 5 → WP PR d 27 5 [vA 4, vI x1, vU] [] S M Q) : WP PR d 27 0 [vA 4, vI x1, vU] [] S M Q := by
  refine WP.if2 2 5 2 .ge 14 (0, 0, 0, 0) 16 rfl rfl ?_
  exact ⟨kt, fun hc => kf (Int.not_le.mp hc)⟩
set_option maxRecDepth 100000 in
theorem b_X2_wordWritten_5 {d : Nat} {S : mSh} {M : mMem} {Q : Option mV → mSh → mMem → Prop} {x1 : Int} {u2 : mV} (L : Lay S) (k : WP PR d 64 0 [vA 5, vI 1, vI x1] [] S M (fun r S2 M2 => WP PR (d + 1) 27 14 [vA 4, vI x1, u2] (r.toList ++ []) S2 M2 Q)) : WP PR (d + 1) 27 5 [vA 4, vI x1, u2] [] S M Q := by
  refine WP.ca 4 14 11 (.invokevirtual 129) (0, 64, 0, 0) rfl ?_
  exact And.intro (⟨lo4 L, lf4_1 L⟩) (⟨rfl, rfl, rfl, lo5 L, rfl, k⟩)
set_option maxRecDepth 100000 in
theorem b_X2_wordWritten_14 {d : Nat} {S : mSh} {M : mMem} {Q : Option mV → mSh → mMem → Prop} {x1 : Int} {u2 : mV} (k : Q (some (vI 1)) S M) : WP PR d 27 14 [vA 4, vI x1, u2] [] S M Q := by
  refine WP.re 1 15 .ireturn (0, 0, 0, 0) _ rfl ?_
  exact ⟨rfl, rfl, Or.inr rfl, k⟩
set_option maxRecDepth 100000 in
theorem b_X2_wordWritten_16 {d : Nat} {S : mSh} {M : mMem} {Q : Option mV → mSh → mMem → Prop} {x1 : Int} {u2 : mV} (L : Lay S) (kt : ¬ M 4 2 = 0 → WP PR d 27 57 [vA 4, vI x1, vI 8] [] S M Q) (kf : M 4 2 = 0 → WP PR d 27 26 [vA 4, vI x1, vI 8] [] S M Q) : WP PR d 27 16 [vA 4, vI x1, u2] [] S M Q := by
  refine WP.if0 4 26 23 .ne 34 (0, 0, 0, 0) 57 rfl rfl ?_
  exact And.intro (lo4 L) (⟨kt, fun hc => kf (Decidable.not_not.mp hc)⟩)
set_option maxRecDepth 100000 in
theorem b_X2_wordWritten_26 {d : Nat} {S : mSh} {M : mMem} {Q : Option mV → mSh → mMem → Prop} {x1 x2 : Int} (L : Lay S) (kt : ¬ M 4 5 = 2 → WP PR d 27 43 [vA 4, vI x1, vI x2] [] S M Q) (kf : M 4 5 = 2 → WP PR d 27 34 [vA 4, vI x1, vI x2] [] S M Q) : WP PR d 27 26 [vA 4, vI x1, vI x2] [] S M Q := by
  refine WP.if2 3 34 31 .ne 12 (0, 0, 0, 0) 43 rfl rfl ?_
  exact And.intro (lo4 L) (⟨kt, fun hc => kf (Decidable.not_not.mp hc)⟩)
set_option maxRecDepth 100000 in
theorem b_X2_wordWritten_34 {d : Nat} {S : mSh} {M : mMem} {Q : Option mV → mSh → mMem → Prop} {x1 x2 : Int} (L : Lay S) (kt : M 4 6 < 8 → WP PR d 27 48 [vA 4, vI x1, vI x2] [] S M Q) (kf : 8 ≤ M 4 6 → WP PR d 27 43 [vA 4, vI x1, vI x2] [] S M Q) : WP PR d 27 34 [vA 4, vI x1, vI x2] [] S M Q := by
  refine WP.if2 3 43 40 .lt 8 (0, 0, 0, 0) 48 rfl rfl ?_
  exact And.intro (lo4 L) (⟨kt, fun hc => kf (Int.not_lt.mp hc)⟩)
set_option maxRecDepth 100000 in
theorem b_X2_wordWritten_43 {d : Nat} {S : mSh} {M : mMem} {Q : Option mV → mSh → mMem → Prop} {x1 x2 : Int} (L : Lay S) (k : WP PR d 32 0 [vA 4] [] S M (fun r S2 M2 => WP PR (d + 1) 27 47 [vA 4, vI x1, vI x2] (r.toList ++ []) S2 M2 Q)) : WP PR (d + 1) 27 43 [vA 4, vI x1, vI x2] [] S M Q := by
  refine WP.ca 1 47 44 (.invokevirtual 70) (0, 32, 0, 0) rfl ?_
  exact ⟨rfl, rfl, rfl, lo4 L, rfl, k⟩
set_option maxRecDepth 100000 in
theorem b_X2_wordWritten_47 {d : Nat} {S : mSh} {M : mMem} {Q : Option mV → mSh → mMem → Prop} {x1 x2 s0 : Int} (hc : (s0 = 0 ∨ s0 = 1)) (k : Q (some (vI s0)) S M) : WP PR d 27 47 [vA 4, vI x1, vI x2] [vI s0] S M Q := by
  refine WP.re 0 47 .ireturn (0, 0, 0, 0) _ rfl ?_
  exact ⟨rfl, rfl, hc, k⟩
set_option maxRecDepth 100000 in
theorem b_X2_wordWritten_48 {d : Nat} {S : mSh} {M : mMem} {Q : Option mV → mSh → mMem → Prop} {x1 x2 : Int} (L : Lay S) (k : WP PR d 34 0 [vA 4, vU, vU, vU] [] S M (fun r S2 M2 => WP PR (d + 1) 27 57 [vA 4, vI x1, vI (M 4 6)] (r.toList ++ []) S2 M2 Q)) : WP PR (d + 1) 27 48 [vA 4, vI x1, vI x2] [] S M Q := by
  refine WP.ca 4 57 54 (.invokevirtual 44) (0, 34, 0, 0) rfl ?_
  exact And.intro (lo4 L) (⟨rfl, rfl, rfl, lo4 L, rfl, k⟩)
set_option maxRecDepth 100000 in
theorem b_X2_wordWritten_57 {d : Nat} {S : mSh} {M : mMem} {Q : Option mV → mSh → mMem → Prop} {x1 x2 : Int} (L : Lay S) (hc : R32 (x1 * 9) ∧ R32 ((x1 * 9) + x2)) (k : WP PR d 64 0 [vA 5, vI 2, vI ((x1 * 9) + x2)] [] S M (fun r S2 M2 => WP PR (d + 1) 27 71 [vA 4, vI x1, vI x2] (r.toList ++ []) S2 M2 Q)) : WP PR (d + 1) 27 57 [vA 4, vI x1, vI x2] [] S M Q := by
  refine WP.ca 8 71 68 (.invokevirtual 129) (0, 64, 0, 0) rfl ?_
  exact And.intro (⟨lo4 L, lf4_1 L⟩) (And.intro (hc.1) (And.intro (hc.2) (⟨rfl, rfl, rfl, lo5 L, rfl, k⟩)))
set_option maxRecDepth 100000 in
theorem b_X2_wordWritten_71 {d : Nat} {S : mSh} {M : mMem} {Q : Option mV → mSh → mMem → Prop} {x1 x2 : Int} (k : Q (some (vI 1)) S M) : WP PR d 27 71 [vA 4, vI x1, vI x2] [] S M Q := by
  refine WP.re 1 72 .ireturn (0, 0, 0, 0) _ rfl ?_
  exact ⟨rfl, rfl, Or.inr rfl, k⟩
/-- SoleraCellar$Reader.lawWord()I -/
abbrev e_X2_lawWord (d : Nat) (S : mSh) (M : mMem) (Q : Option mV → mSh → mMem → Prop) : Prop := WP PR d 28 0 [vA 4] [] S M Q
set_option maxRecDepth 100000 in
theorem b_X2_lawWord_0 {d : Nat} {S : mSh} {M : mMem} {Q : Option mV → mSh → mMem → Prop} (L : Lay S) (k : WP PR d 33 0 [vA 4, vA (-191), vU] [] S M (fun r S2 M2 => WP PR (d + 1) 28 6 [vA 4] (r.toList ++ []) S2 M2 Q)) : WP PR (d + 1) 28 0 [vA 4] [] S M Q := by
  refine WP.ca 2 6 3 (.invokevirtual 56) (0, 33, 0, 0) rfl ?_
  exact ⟨rfl, rfl, rfl, lo4 L, rfl, k⟩
set_option maxRecDepth 100000 in
theorem b_X2_lawWord_6 {d : Nat} {S : mSh} {M : mMem} {Q : Option mV → mSh → mMem → Prop} {s0 : Int} (kt : s0 = 0 → WP PR d 28 11 [vA 4] [] S M Q) (kf : ¬ s0 = 0 → WP PR d 28 9 [vA 4] [] S M Q) : WP PR d 28 6 [vA 4] [vI s0] S M Q := by
  refine WP.if0 0 9 6 .eq 5 (0, 0, 0, 0) 11 rfl rfl ?_
  exact ⟨kt, fun hc => kf hc⟩
set_option maxRecDepth 100000 in
theorem b_X2_lawWord_9 {d : Nat} {S : mSh} {M : mMem} {Q : Option mV → mSh → mMem → Prop} (k : Q (some (vI 5)) S M) : WP PR d 28 9 [vA 4] [] S M Q := by
  refine WP.re 1 10 .ireturn (0, 0, 0, 0) _ rfl ?_
  exact ⟨rfl, rfl, trivial, k⟩
set_option maxRecDepth 100000 in
theorem b_X2_lawWord_11 {d : Nat} {S : mSh} {M : mMem} {Q : Option mV → mSh → mMem → Prop} (L : Lay S) (k : WP PR d 33 0 [vA 4, vA (-193), vU] [] S M (fun r S2 M2 => WP PR (d + 1) 28 17 [vA 4] (r.toList ++ []) S2 M2 Q)) : WP PR (d + 1) 28 11 [vA 4] [] S M Q := by
  refine WP.ca 2 17 14 (.invokevirtual 56) (0, 33, 0, 0) rfl ?_
  exact ⟨rfl, rfl, rfl, lo4 L, rfl, k⟩
set_option maxRecDepth 100000 in
theorem b_X2_lawWord_17 {d : Nat} {S : mSh} {M : mMem} {Q : Option mV → mSh → mMem → Prop} {s0 : Int} (kt : s0 = 0 → WP PR d 28 23 [vA 4] [] S M Q) (kf : ¬ s0 = 0 → WP PR d 28 20 [vA 4] [] S M Q) : WP PR d 28 17 [vA 4] [vI s0] S M Q := by
  refine WP.if0 0 20 17 .eq 6 (0, 0, 0, 0) 23 rfl rfl ?_
  exact ⟨kt, fun hc => kf hc⟩
set_option maxRecDepth 100000 in
theorem b_X2_lawWord_20 {d : Nat} {S : mSh} {M : mMem} {Q : Option mV → mSh → mMem → Prop} (k : Q (some (vI 6)) S M) : WP PR d 28 20 [vA 4] [] S M Q := by
  refine WP.re 1 22 .ireturn (0, 0, 0, 0) _ rfl ?_
  exact ⟨rfl, rfl, trivial, k⟩
set_option maxRecDepth 100000 in
theorem b_X2_lawWord_23 {d : Nat} {S : mSh} {M : mMem} {Q : Option mV → mSh → mMem → Prop} (L : Lay S) (k : WP PR d 33 0 [vA 4, vA (-195), vU] [] S M (fun r S2 M2 => WP PR (d + 1) 28 29 [vA 4] (r.toList ++ []) S2 M2 Q)) : WP PR (d + 1) 28 23 [vA 4] [] S M Q := by
  refine WP.ca 2 29 26 (.invokevirtual 56) (0, 33, 0, 0) rfl ?_
  exact ⟨rfl, rfl, rfl, lo4 L, rfl, k⟩
set_option maxRecDepth 100000 in
theorem b_X2_lawWord_29 {d : Nat} {S : mSh} {M : mMem} {Q : Option mV → mSh → mMem → Prop} {s0 : Int} (kt : s0 = 0 → WP PR d 28 35 [vA 4] [] S M Q) (kf : ¬ s0 = 0 → WP PR d 28 32 [vA 4] [] S M Q) : WP PR d 28 29 [vA 4] [vI s0] S M Q := by
  refine WP.if0 0 32 29 .eq 6 (0, 0, 0, 0) 35 rfl rfl ?_
  exact ⟨kt, fun hc => kf hc⟩
set_option maxRecDepth 100000 in
theorem b_X2_lawWord_32 {d : Nat} {S : mSh} {M : mMem} {Q : Option mV → mSh → mMem → Prop} (k : Q (some (vI 7)) S M) : WP PR d 28 32 [vA 4] [] S M Q := by
  refine WP.re 1 34 .ireturn (0, 0, 0, 0) _ rfl ?_
  exact ⟨rfl, rfl, trivial, k⟩
set_option maxRecDepth 100000 in
theorem b_X2_lawWord_35 {d : Nat} {S : mSh} {M : mMem} {Q : Option mV → mSh → mMem → Prop} (L : Lay S) (k : WP PR d 33 0 [vA 4, vA (-196), vU] [] S M (fun r S2 M2 => WP PR (d + 1) 28 41 [vA 4] (r.toList ++ []) S2 M2 Q)) : WP PR (d + 1) 28 35 [vA 4] [] S M Q := by
  refine WP.ca 2 41 38 (.invokevirtual 56) (0, 33, 0, 0) rfl ?_
  exact ⟨rfl, rfl, rfl, lo4 L, rfl, k⟩
set_option maxRecDepth 100000 in
theorem b_X2_lawWord_41 {d : Nat} {S : mSh} {M : mMem} {Q : Option mV → mSh → mMem → Prop} {s0 : Int} (kt : s0 = 0 → WP PR d 28 47 [vA 4] [] S M Q) (kf : ¬ s0 = 0 → WP PR d 28 44 [vA 4] [] S M Q) : WP PR d 28 41 [vA 4] [vI s0] S M Q := by
  refine WP.if0 0 44 41 .eq 6 (0, 0, 0, 0) 47 rfl rfl ?_
  exact ⟨kt, fun hc => kf hc⟩
set_option maxRecDepth 100000 in
theorem b_X2_lawWord_44 {d : Nat} {S : mSh} {M : mMem} {Q : Option mV → mSh → mMem → Prop} (k : Q (some (vI 8)) S M) : WP PR d 28 44 [vA 4] [] S M Q := by
  refine WP.re 1 46 .ireturn (0, 0, 0, 0) _ rfl ?_
  exact ⟨rfl, rfl, trivial, k⟩
set_option maxRecDepth 100000 in
theorem b_X2_lawWord_47 {d : Nat} {S : mSh} {M : mMem} {Q : Option mV → mSh → mMem → Prop} (L : Lay S) (k : WP PR d 33 0 [vA 4, vA (-198), vU] [] S M (fun r S2 M2 => WP PR (d + 1) 28 53 [vA 4] (r.toList ++ []) S2 M2 Q)) : WP PR (d + 1) 28 47 [vA 4] [] S M Q := by
  refine WP.ca 2 53 50 (.invokevirtual 56) (0, 33, 0, 0) rfl ?_
  exact ⟨rfl, rfl, rfl, lo4 L, rfl, k⟩
set_option maxRecDepth 100000 in
theorem b_X2_lawWord_53 {d : Nat} {S : mSh} {M : mMem} {Q : Option mV → mSh → mMem → Prop} {s0 : Int} (kt : s0 = 0 → WP PR d 28 59 [vA 4] [] S M Q) (kf : ¬ s0 = 0 → WP PR d 28 56 [vA 4] [] S M Q) : WP PR d 28 53 [vA 4] [vI s0] S M Q := by
  refine WP.if0 0 56 53 .eq 6 (0, 0, 0, 0) 59 rfl rfl ?_
  exact ⟨kt, fun hc => kf hc⟩
set_option maxRecDepth 100000 in
theorem b_X2_lawWord_56 {d : Nat} {S : mSh} {M : mMem} {Q : Option mV → mSh → mMem → Prop} (k : Q (some (vI 10)) S M) : WP PR d 28 56 [vA 4] [] S M Q := by
  refine WP.re 1 58 .ireturn (0, 0, 0, 0) _ rfl ?_
  exact ⟨rfl, rfl, trivial, k⟩
set_option maxRecDepth 100000 in
theorem b_X2_lawWord_59 {d : Nat} {S : mSh} {M : mMem} {Q : Option mV → mSh → mMem → Prop} (L : Lay S) (k : WP PR d 33 0 [vA 4, vA (-200), vU] [] S M (fun r S2 M2 => WP PR (d + 1) 28 65 [vA 4] (r.toList ++ []) S2 M2 Q)) : WP PR (d + 1) 28 59 [vA 4] [] S M Q := by
  refine WP.ca 2 65 62 (.invokevirtual 56) (0, 33, 0, 0) rfl ?_
  exact ⟨rfl, rfl, rfl, lo4 L, rfl, k⟩
set_option maxRecDepth 100000 in
theorem b_X2_lawWord_65 {d : Nat} {S : mSh} {M : mMem} {Q : Option mV → mSh → mMem → Prop} {s0 : Int} (kt : s0 = 0 → WP PR d 28 70 [vA 4] [] S M Q) (kf : ¬ s0 = 0 → WP PR d 28 68 [vA 4] [] S M Q) : WP PR d 28 65 [vA 4] [vI s0] S M Q := by
  refine WP.if0 0 68 65 .eq 5 (0, 0, 0, 0) 70 rfl rfl ?_
  exact ⟨kt, fun hc => kf hc⟩
set_option maxRecDepth 100000 in
theorem b_X2_lawWord_68 {d : Nat} {S : mSh} {M : mMem} {Q : Option mV → mSh → mMem → Prop} (k : Q (some (vI 0)) S M) : WP PR d 28 68 [vA 4] [] S M Q := by
  refine WP.re 1 69 .ireturn (0, 0, 0, 0) _ rfl ?_
  exact ⟨rfl, rfl, trivial, k⟩
set_option maxRecDepth 100000 in
theorem b_X2_lawWord_70 {d : Nat} {S : mSh} {M : mMem} {Q : Option mV → mSh → mMem → Prop} (L : Lay S) (k : WP PR d 33 0 [vA 4, vA (-202), vU] [] S M (fun r S2 M2 => WP PR (d + 1) 28 76 [vA 4] (r.toList ++ []) S2 M2 Q)) : WP PR (d + 1) 28 70 [vA 4] [] S M Q := by
  refine WP.ca 2 76 73 (.invokevirtual 56) (0, 33, 0, 0) rfl ?_
  exact ⟨rfl, rfl, rfl, lo4 L, rfl, k⟩
set_option maxRecDepth 100000 in
theorem b_X2_lawWord_76 {d : Nat} {S : mSh} {M : mMem} {Q : Option mV → mSh → mMem → Prop} {s0 : Int} (kt : s0 = 0 → WP PR d 28 83 [vA 4] [] S M Q) (kf : ¬ s0 = 0 → WP PR d 28 79 [vA 4] [] S M Q) : WP PR d 28 76 [vA 4] [vI s0] S M Q := by
  refine WP.if0 0 79 76 .eq 7 (0, 0, 0, 0) 83 rfl rfl ?_
  exact ⟨kt, fun hc => kf hc⟩
set_option maxRecDepth 100000 in
theorem b_X2_lawWord_79 {d : Nat} {S : mSh} {M : mMem} {Q : Option mV → mSh → mMem → Prop} (k : Q (some (vI 1)) S M) : WP PR d 28 79 [vA 4] [] S M Q := by
  refine WP.gt 1 80 4 (0, 0, 0, 0) _ 84 rfl rfl ?_
  show WP PR d 28 84 [vA 4] [vI 1] S M Q
  refine WP.re 0 84 .ireturn (0, 0, 0, 0) _ rfl ?_
  exact ⟨rfl, rfl, trivial, k⟩
set_option maxRecDepth 100000 in
theorem b_X2_lawWord_83 {d : Nat} {S : mSh} {M : mMem} {Q : Option mV → mSh → mMem → Prop} (k : Q (some (vI (-1))) S M) : WP PR d 28 83 [vA 4] [] S M Q := by
  refine WP.re 1 84 .ireturn (0, 0, 0, 0) _ rfl ?_
  exact ⟨rfl, rfl, trivial, k⟩
/-- SoleraCellar$Reader.orderWord()I -/
abbrev e_X2_orderWord (d : Nat) (S : mSh) (M : mMem) (Q : Option mV → mSh → mMem → Prop) : Prop := WP PR d 29 0 [vA 4] [] S M Q
set_option maxRecDepth 100000 in
theorem b_X2_orderWord_0 {d : Nat} {S : mSh} {M : mMem} {Q : Option mV → mSh → mMem → Prop} (L : Lay S) (k : WP PR d 33 0 [vA 4, vA (-200), vU] [] S M (fun r S2 M2 => WP PR (d + 1) 29 6 [vA 4] (r.toList ++ []) S2 M2 Q)) : WP PR (d + 1) 29 0 [vA 4] [] S M Q := by
  refine WP.ca 2 6 3 (.invokevirtual 56) (0, 33, 0, 0) rfl ?_
  exact ⟨rfl, rfl, rfl, lo4 L, rfl, k⟩
set_option maxRecDepth 100000 in
theorem b_X2_orderWord_6 {d : Nat} {S : mSh} {M : mMem} {Q : Option mV → mSh → mMem → Prop} {s0 : Int} (kt : s0 = 0 → WP PR d 29 11 [vA 4] [] S M Q) (kf : ¬ s0 = 0 → WP PR d 29 9 [vA 4] [] S M Q) : WP PR d 29 6 [vA 4] [vI s0] S M Q := by
  refine WP.if0 0 9 6 .eq 5 (0, 0, 0, 0) 11 rfl rfl ?_
  exact ⟨kt, fun hc => kf hc⟩
set_option maxRecDepth 100000 in
theorem b_X2_orderWord_9 {d : Nat} {S : mSh} {M : mMem} {Q : Option mV → mSh → mMem → Prop} (k : Q (some (vI 0)) S M) : WP PR d 29 9 [vA 4] [] S M Q := by
  refine WP.re 1 10 .ireturn (0, 0, 0, 0) _ rfl ?_
  exact ⟨rfl, rfl, trivial, k⟩
set_option maxRecDepth 100000 in
theorem b_X2_orderWord_11 {d : Nat} {S : mSh} {M : mMem} {Q : Option mV → mSh → mMem → Prop} (L : Lay S) (k : WP PR d 33 0 [vA 4, vA (-204), vU] [] S M (fun r S2 M2 => WP PR (d + 1) 29 17 [vA 4] (r.toList ++ []) S2 M2 Q)) : WP PR (d + 1) 29 11 [vA 4] [] S M Q := by
  refine WP.ca 2 17 14 (.invokevirtual 56) (0, 33, 0, 0) rfl ?_
  exact ⟨rfl, rfl, rfl, lo4 L, rfl, k⟩
set_option maxRecDepth 100000 in
theorem b_X2_orderWord_17 {d : Nat} {S : mSh} {M : mMem} {Q : Option mV → mSh → mMem → Prop} {s0 : Int} (kt : s0 = 0 → WP PR d 29 22 [vA 4] [] S M Q) (kf : ¬ s0 = 0 → WP PR d 29 20 [vA 4] [] S M Q) : WP PR d 29 17 [vA 4] [vI s0] S M Q := by
  refine WP.if0 0 20 17 .eq 5 (0, 0, 0, 0) 22 rfl rfl ?_
  exact ⟨kt, fun hc => kf hc⟩
set_option maxRecDepth 100000 in
theorem b_X2_orderWord_20 {d : Nat} {S : mSh} {M : mMem} {Q : Option mV → mSh → mMem → Prop} (k : Q (some (vI 2)) S M) : WP PR d 29 20 [vA 4] [] S M Q := by
  refine WP.re 1 21 .ireturn (0, 0, 0, 0) _ rfl ?_
  exact ⟨rfl, rfl, trivial, k⟩
set_option maxRecDepth 100000 in
theorem b_X2_orderWord_22 {d : Nat} {S : mSh} {M : mMem} {Q : Option mV → mSh → mMem → Prop} (L : Lay S) (k : WP PR d 33 0 [vA 4, vA (-206), vU] [] S M (fun r S2 M2 => WP PR (d + 1) 29 28 [vA 4] (r.toList ++ []) S2 M2 Q)) : WP PR (d + 1) 29 22 [vA 4] [] S M Q := by
  refine WP.ca 2 28 25 (.invokevirtual 56) (0, 33, 0, 0) rfl ?_
  exact ⟨rfl, rfl, rfl, lo4 L, rfl, k⟩
set_option maxRecDepth 100000 in
theorem b_X2_orderWord_28 {d : Nat} {S : mSh} {M : mMem} {Q : Option mV → mSh → mMem → Prop} {s0 : Int} (kt : s0 = 0 → WP PR d 29 33 [vA 4] [] S M Q) (kf : ¬ s0 = 0 → WP PR d 29 31 [vA 4] [] S M Q) : WP PR d 29 28 [vA 4] [vI s0] S M Q := by
  refine WP.if0 0 31 28 .eq 5 (0, 0, 0, 0) 33 rfl rfl ?_
  exact ⟨kt, fun hc => kf hc⟩
set_option maxRecDepth 100000 in
theorem b_X2_orderWord_31 {d : Nat} {S : mSh} {M : mMem} {Q : Option mV → mSh → mMem → Prop} (k : Q (some (vI 3)) S M) : WP PR d 29 31 [vA 4] [] S M Q := by
  refine WP.re 1 32 .ireturn (0, 0, 0, 0) _ rfl ?_
  exact ⟨rfl, rfl, trivial, k⟩
set_option maxRecDepth 100000 in
theorem b_X2_orderWord_33 {d : Nat} {S : mSh} {M : mMem} {Q : Option mV → mSh → mMem → Prop} (L : Lay S) (k : WP PR d 33 0 [vA 4, vA (-208), vU] [] S M (fun r S2 M2 => WP PR (d + 1) 29 39 [vA 4] (r.toList ++ []) S2 M2 Q)) : WP PR (d + 1) 29 33 [vA 4] [] S M Q := by
  refine WP.ca 2 39 36 (.invokevirtual 56) (0, 33, 0, 0) rfl ?_
  exact ⟨rfl, rfl, rfl, lo4 L, rfl, k⟩
set_option maxRecDepth 100000 in
theorem b_X2_orderWord_39 {d : Nat} {S : mSh} {M : mMem} {Q : Option mV → mSh → mMem → Prop} {s0 : Int} (kt : s0 = 0 → WP PR d 29 44 [vA 4] [] S M Q) (kf : ¬ s0 = 0 → WP PR d 29 42 [vA 4] [] S M Q) : WP PR d 29 39 [vA 4] [vI s0] S M Q := by
  refine WP.if0 0 42 39 .eq 5 (0, 0, 0, 0) 44 rfl rfl ?_
  exact ⟨kt, fun hc => kf hc⟩
set_option maxRecDepth 100000 in
theorem b_X2_orderWord_42 {d : Nat} {S : mSh} {M : mMem} {Q : Option mV → mSh → mMem → Prop} (k : Q (some (vI 4)) S M) : WP PR d 29 42 [vA 4] [] S M Q := by
  refine WP.re 1 43 .ireturn (0, 0, 0, 0) _ rfl ?_
  exact ⟨rfl, rfl, trivial, k⟩
set_option maxRecDepth 100000 in
theorem b_X2_orderWord_44 {d : Nat} {S : mSh} {M : mMem} {Q : Option mV → mSh → mMem → Prop} (L : Lay S) (k : WP PR d 33 0 [vA 4, vA (-196), vU] [] S M (fun r S2 M2 => WP PR (d + 1) 29 50 [vA 4] (r.toList ++ []) S2 M2 Q)) : WP PR (d + 1) 29 44 [vA 4] [] S M Q := by
  refine WP.ca 2 50 47 (.invokevirtual 56) (0, 33, 0, 0) rfl ?_
  exact ⟨rfl, rfl, rfl, lo4 L, rfl, k⟩
set_option maxRecDepth 100000 in
theorem b_X2_orderWord_50 {d : Nat} {S : mSh} {M : mMem} {Q : Option mV → mSh → mMem → Prop} {s0 : Int} (kt : s0 = 0 → WP PR d 29 56 [vA 4] [] S M Q) (kf : ¬ s0 = 0 → WP PR d 29 53 [vA 4] [] S M Q) : WP PR d 29 50 [vA 4] [vI s0] S M Q := by
  refine WP.if0 0 53 50 .eq 6 (0, 0, 0, 0) 56 rfl rfl ?_
  exact ⟨kt, fun hc => kf hc⟩
set_option maxRecDepth 100000 in
theorem b_X2_orderWord_53 {d : Nat} {S : mSh} {M : mMem} {Q : Option mV → mSh → mMem → Prop} (k : Q (some (vI 8)) S M) : WP PR d 29 53 [vA 4] [] S M Q := by
  refine WP.re 1 55 .ireturn (0, 0, 0, 0) _ rfl ?_
  exact ⟨rfl, rfl, trivial, k⟩
set_option maxRecDepth 100000 in
theorem b_X2_orderWord_56 {d : Nat} {S : mSh} {M : mMem} {Q : Option mV → mSh → mMem → Prop} (L : Lay S) (k : WP PR d 33 0 [vA 4, vA (-210), vU] [] S M (fun r S2 M2 => WP PR (d + 1) 29 62 [vA 4] (r.toList ++ []) S2 M2 Q)) : WP PR (d + 1) 29 56 [vA 4] [] S M Q := by
  refine WP.ca 2 62 59 (.invokevirtual 56) (0, 33, 0, 0) rfl ?_
  exact ⟨rfl, rfl, rfl, lo4 L, rfl, k⟩
set_option maxRecDepth 100000 in
theorem b_X2_orderWord_62 {d : Nat} {S : mSh} {M : mMem} {Q : Option mV → mSh → mMem → Prop} {s0 : Int} (kt : s0 = 0 → WP PR d 29 68 [vA 4] [] S M Q) (kf : ¬ s0 = 0 → WP PR d 29 65 [vA 4] [] S M Q) : WP PR d 29 62 [vA 4] [vI s0] S M Q := by
  refine WP.if0 0 65 62 .eq 6 (0, 0, 0, 0) 68 rfl rfl ?_
  exact ⟨kt, fun hc => kf hc⟩
set_option maxRecDepth 100000 in
theorem b_X2_orderWord_65 {d : Nat} {S : mSh} {M : mMem} {Q : Option mV → mSh → mMem → Prop} (k : Q (some (vI 9)) S M) : WP PR d 29 65 [vA 4] [] S M Q := by
  refine WP.re 1 67 .ireturn (0, 0, 0, 0) _ rfl ?_
  exact ⟨rfl, rfl, trivial, k⟩
set_option maxRecDepth 100000 in
theorem b_X2_orderWord_68 {d : Nat} {S : mSh} {M : mMem} {Q : Option mV → mSh → mMem → Prop} (L : Lay S) (k : WP PR d 33 0 [vA 4, vA (-198), vU] [] S M (fun r S2 M2 => WP PR (d + 1) 29 74 [vA 4] (r.toList ++ []) S2 M2 Q)) : WP PR (d + 1) 29 68 [vA 4] [] S M Q := by
  refine WP.ca 2 74 71 (.invokevirtual 56) (0, 33, 0, 0) rfl ?_
  exact ⟨rfl, rfl, rfl, lo4 L, rfl, k⟩
set_option maxRecDepth 100000 in
theorem b_X2_orderWord_74 {d : Nat} {S : mSh} {M : mMem} {Q : Option mV → mSh → mMem → Prop} {s0 : Int} (kt : s0 = 0 → WP PR d 29 82 [vA 4] [] S M Q) (kf : ¬ s0 = 0 → WP PR d 29 77 [vA 4] [] S M Q) : WP PR d 29 74 [vA 4] [vI s0] S M Q := by
  refine WP.if0 0 77 74 .eq 8 (0, 0, 0, 0) 82 rfl rfl ?_
  exact ⟨kt, fun hc => kf hc⟩
set_option maxRecDepth 100000 in
theorem b_X2_orderWord_77 {d : Nat} {S : mSh} {M : mMem} {Q : Option mV → mSh → mMem → Prop} (k : Q (some (vI 10)) S M) : WP PR d 29 77 [vA 4] [] S M Q := by
  refine WP.gt 1 79 4 (0, 0, 0, 0) _ 83 rfl rfl ?_
  show WP PR d 29 83 [vA 4] [vI 10] S M Q
  refine WP.re 0 83 .ireturn (0, 0, 0, 0) _ rfl ?_
  exact ⟨rfl, rfl, trivial, k⟩
set_option maxRecDepth 100000 in
theorem b_X2_orderWord_82 {d : Nat} {S : mSh} {M : mMem} {Q : Option mV → mSh → mMem → Prop} (k : Q (some (vI (-1))) S M) : WP PR d 29 82 [vA 4] [] S M Q := by
  refine WP.re 1 83 .ireturn (0, 0, 0, 0) _ rfl ?_
  exact ⟨rfl, rfl, trivial, k⟩
/-- SoleraCellar$Reader.enters()Z -/
abbrev e_X2_enters (d : Nat) (S : mSh) (M : mMem) (Q : Option mV → mSh → mMem → Prop) : Prop := WP PR d 30 0 [vA 4] [] S M Q
set_option maxRecDepth 100000 in
theorem b_X2_enters_0 {d : Nat} {S : mSh} {M : mMem} {Q : Option mV → mSh → mMem → Prop} (L : Lay S) (kt : M 4 8 < 8 → WP PR d 30 14 [vA 4] [] S M Q) (kf : 8 ≤ M 4 8 → WP PR d 30 9 [vA 4] [] S M Q) : WP PR d 30 0 [vA 4] [] S M Q := by
  refine WP.if2 3 9 6 .lt 8 (0, 0, 0, 0) 14 rfl rfl ?_
  exact And.intro (lo4 L) (⟨kt, fun hc => kf (Int.not_lt.mp hc)⟩)
set_option maxRecDepth 100000 in
theorem b_X2_enters_9 {d : Nat} {S : mSh} {M : mMem} {Q : Option mV → mSh → mMem → Prop} (L : Lay S) (k : WP PR d 32 0 [vA 4] [] S M (fun r S2 M2 => WP PR (d + 1) 30 13 [vA 4] (r.toList ++ []) S2 M2 Q)) : WP PR (d + 1) 30 9 [vA 4] [] S M Q := by
  refine WP.ca 1 13 10 (.invokevirtual 70) (0, 32, 0, 0) rfl ?_
  exact ⟨rfl, rfl, rfl, lo4 L, rfl, k⟩
set_option maxRecDepth 100000 in
theorem b_X2_enters_13 {d : Nat} {S : mSh} {M : mMem} {Q : Option mV → mSh → mMem → Prop} {s0 : Int} (hc : (s0 = 0 ∨ s0 = 1)) (k : Q (some (vI s0)) S M) : WP PR d 30 13 [vA 4] [vI s0] S M Q := by
  refine WP.re 0 13 .ireturn (0, 0, 0, 0) _ rfl ?_
  exact ⟨rfl, rfl, hc, k⟩
set_option maxRecDepth 100000 in
theorem b_X2_enters_14 {d : Nat} {S : mSh} {M : mMem} {Q : Option mV → mSh → mMem → Prop} (L : Lay S) (hc : R32 ((M 4 8) + 1)) (k : WP PR d 34 0 [vA 4, vU, vU, vU] [] S (up M 4 8 ((M 4 8) + 1)) (fun r S2 M2 => WP PR (d + 1) 30 28 [vA 4] (r.toList ++ []) S2 M2 Q)) : WP PR (d + 1) 30 14 [vA 4] [] S M Q := by
  refine WP.ca 7 28 25 (.invokevirtual 44) (0, 34, 0, 0) rfl ?_
  exact And.intro (lo4 L) (And.intro (hc) (And.intro (lo4 L) (⟨rfl, rfl, rfl, lo4 L, rfl, k⟩)))
set_option maxRecDepth 100000 in
theorem b_X2_enters_28 {d : Nat} {S : mSh} {M : mMem} {Q : Option mV → mSh → mMem → Prop} (k : Q (some (vI 1)) S M) : WP PR d 30 28 [vA 4] [] S M Q := by
  refine WP.re 1 29 .ireturn (0, 0, 0, 0) _ rfl ?_
  exact ⟨rfl, rfl, Or.inr rfl, k⟩
/-- SoleraCellar$Reader.leaves(Ljava/lang/String;)Z -/
abbrev e_X2_leaves (d : Nat) (a1 : Int) (S : mSh) (M : mMem) (Q : Option mV → mSh → mMem → Prop) : Prop := WP PR d 31 0 [vA 4, vA a1] [] S M Q
set_option maxRecDepth 100000 in
theorem b_X2_leaves_0 {d : Nat} {S : mSh} {M : mMem} {Q : Option mV → mSh → mMem → Prop} {x1 : Int} (L : Lay S) (k : WP PR d 33 0 [vA 4, vA x1, vU] [] S M (fun r S2 M2 => WP PR (d + 1) 31 5 [vA 4, vA x1] (r.toList ++ []) S2 M2 Q)) : WP PR (d + 1) 31 0 [vA 4, vA x1] [] S M Q := by
  refine WP.ca 2 5 2 (.invokevirtual 56) (0, 33, 0, 0) rfl ?_
  exact ⟨rfl, rfl, rfl, lo4 L, rfl, k⟩
set_option maxRecDepth 100000 in
theorem b_X2_leaves_5 {d : Nat} {S : mSh} {M : mMem} {Q : Option mV → mSh → mMem → Prop} {x1 s0 : Int} (kt : ¬ s0 = 0 → WP PR d 31 13 [vA 4, vA x1] [] S M Q) (kf : s0 = 0 → WP PR d 31 8 [vA 4, vA x1] [] S M Q) : WP PR d 31 5 [vA 4, vA x1] [vI s0] S M Q := by
  refine WP.if0 0 8 5 .ne 8 (0, 0, 0, 0) 13 rfl rfl ?_
  exact ⟨kt, fun hc => kf (Decidable.not_not.mp hc)⟩
set_option maxRecDepth 100000 in
theorem b_X2_leaves_8 {d : Nat} {S : mSh} {M : mMem} {Q : Option mV → mSh → mMem → Prop} {x1 : Int} (L : Lay S) (k : WP PR d 32 0 [vA 4] [] S M (fun r S2 M2 => WP PR (d + 1) 31 12 [vA 4, vA x1] (r.toList ++ []) S2 M2 Q)) : WP PR (d + 1) 31 8 [vA 4, vA x1] [] S M Q := by
  refine WP.ca 1 12 9 (.invokevirtual 70) (0, 32, 0, 0) rfl ?_
  exact ⟨rfl, rfl, rfl, lo4 L, rfl, k⟩
set_option maxRecDepth 100000 in
theorem b_X2_leaves_12 {d : Nat} {S : mSh} {M : mMem} {Q : Option mV → mSh → mMem → Prop} {x1 s0 : Int} (hc : (s0 = 0 ∨ s0 = 1)) (k : Q (some (vI s0)) S M) : WP PR d 31 12 [vA 4, vA x1] [vI s0] S M Q := by
  refine WP.re 0 12 .ireturn (0, 0, 0, 0) _ rfl ?_
  exact ⟨rfl, rfl, hc, k⟩
set_option maxRecDepth 100000 in
theorem b_X2_leaves_13 {d : Nat} {S : mSh} {M : mMem} {Q : Option mV → mSh → mMem → Prop} {x1 : Int} (L : Lay S) (hc : R32 ((M 4 8) - 1)) (k : WP PR d 34 0 [vA 4, vU, vU, vU] [] S (up M 4 8 ((M 4 8) - 1)) (fun r S2 M2 => WP PR (d + 1) 31 27 [vA 4, vA x1] (r.toList ++ []) S2 M2 Q)) : WP PR (d + 1) 31 13 [vA 4, vA x1] [] S M Q := by
  refine WP.ca 7 27 24 (.invokevirtual 44) (0, 34, 0, 0) rfl ?_
  exact And.intro (lo4 L) (And.intro (hc) (And.intro (lo4 L) (⟨rfl, rfl, rfl, lo4 L, rfl, k⟩)))
set_option maxRecDepth 100000 in
theorem b_X2_leaves_27 {d : Nat} {S : mSh} {M : mMem} {Q : Option mV → mSh → mMem → Prop} {x1 : Int} (k : Q (some (vI 1)) S M) : WP PR d 31 27 [vA 4, vA x1] [] S M Q := by
  refine WP.re 1 28 .ireturn (0, 0, 0, 0) _ rfl ?_
  exact ⟨rfl, rfl, Or.inr rfl, k⟩
/-- SoleraCellar$Reader.wrong()Z -/
abbrev e_X2_wrong (d : Nat) (S : mSh) (M : mMem) (Q : Option mV → mSh → mMem → Prop) : Prop := WP PR d 32 0 [vA 4] [] S M Q
set_option maxRecDepth 100000 in
theorem b_X2_wrong_0 {d : Nat} {S : mSh} {M : mMem} {Q : Option mV → mSh → mMem → Prop} (L : Lay S) (k : Q (some (vI 0)) S (up M 4 9 (M 4 3))) : WP PR d 32 0 [vA 4] [] S M Q := by
  refine WP.re 5 9 .ireturn (0, 0, 0, 0) _ rfl ?_
  exact And.intro (lo4 L) (And.intro (lo4 L) (⟨rfl, rfl, Or.inl rfl, k⟩))
/-- SoleraCellar$Reader.is(Ljava/lang/String;)Z -/
abbrev e_X2_is (d : Nat) (a1 : Int) (S : mSh) (M : mMem) (Q : Option mV → mSh → mMem → Prop) : Prop := WP PR d 33 0 [vA 4, vA a1, vU] [] S M Q
set_option maxRecDepth 100000 in
theorem b_X2_is_0 {d : Nat} {S : mSh} {M : mMem} {Q : Option mV → mSh → mMem → Prop} {x1 : Int} (L : Lay S) (ho1 : isS x1) (hc : R32 ((M 4 4) - (M 4 3))) (kt : (M 4 4) - (M 4 3) = ((strOf x1).length : Int) → WP PR d 33 18 [vA 4, vA x1, vU] [] S M Q) (kf : ¬ (M 4 4) - (M 4 3) = ((strOf x1).length : Int) → WP PR d 33 16 [vA 4, vA x1, vU] [] S M Q) : WP PR d 33 0 [vA 4, vA x1, vU] [] S M Q := by
  refine WP.if2 7 16 13 .eq 5 (0, 0, 0, 0) 18 rfl rfl ?_
  exact And.intro (lo4 L) (And.intro (lo4 L) (And.intro (hc) (And.intro (ho1) (⟨kt, fun hc => kf hc⟩))))
set_option maxRecDepth 100000 in
theorem b_X2_is_16 {d : Nat} {S : mSh} {M : mMem} {Q : Option mV → mSh → mMem → Prop} {x1 : Int} {u2 : mV} (k : Q (some (vI 0)) S M) : WP PR d 33 16 [vA 4, vA x1, u2] [] S M Q := by
  refine WP.re 1 17 .ireturn (0, 0, 0, 0) _ rfl ?_
  exact ⟨rfl, rfl, Or.inl rfl, k⟩
set_option maxRecDepth 100000 in
theorem b_X2_is_18 {d : Nat} {S : mSh} {M : mMem} {Q : Option mV → mSh → mMem → Prop} {x1 : Int} {u2 : mV} (k : WP PR d 33 20 [vA 4, vA x1, vI 0] [] S M Q) : WP PR d 33 18 [vA 4, vA x1, u2] [] S M Q := by
  refine WP.bl 2 20 rfl ?_
  exact k
set_option maxRecDepth 100000 in
theorem b_X2_is_20 {d : Nat} {S : mSh} {M : mMem} {Q : Option mV → mSh → mMem → Prop} {x1 x2 : Int} (ho1 : isS x1) (kt : ((strOf x1).length : Int) ≤ x2 → WP PR d 33 58 [vA 4, vA x1, vI x2] [] S M Q) (kf : x2 < ((strOf x1).length : Int) → WP PR d 33 28 [vA 4, vA x1, vI x2] [] S M Q) : WP PR d 33 20 [vA 4, vA x1, vI x2] [] S M Q := by
  refine WP.if2 3 28 25 .ge 33 (0, 0, 0, 0) 58 rfl rfl ?_
  exact And.intro (ho1) (⟨kt, fun hc => kf (Int.not_le.mp hc)⟩)
set_option maxRecDepth 100000 in
theorem b_X2_is_28 {d : Nat} {S : mSh} {M : mMem} {Q : Option mV → mSh → mMem → Prop} {x1 x2 : Int} (L : Lay S) (ho1 : isS x1) (hc : R32 ((M 4 3) + x2) ∧ (0 ≤ (M 4 3) + x2 ∧ (M 4 3) + x2 < 400) ∧ (0 ≤ x2 ∧ x2 < ((strOf x1).length : Int))) (kt : M 3 ((M 4 3) + x2) = (strOf x1).getD (x2).toNat 0 → WP PR d 33 52 [vA 4, vA x1, vI x2] [] S M Q) (kf : ¬ M 3 ((M 4 3) + x2) = (strOf x1).getD (x2).toNat 0 → WP PR d 33 50 [vA 4, vA x1, vI x2] [] S M Q) : WP PR d 33 28 [vA 4, vA x1, vI x2] [] S M Q := by
  refine WP.if2 11 50 47 .eq 5 (0, 0, 0, 0) 52 rfl rfl ?_
  exact And.intro (⟨lo4 L, lf4_0 L⟩) (And.intro (⟨lo2 L, lf2_0 L⟩) (And.intro (lo4 L) (And.intro (hc.1) (And.intro (inA_of (lo3 L) (ll3 L) hc.2.1) (And.intro (⟨ho1, hc.2.2⟩) (⟨kt, fun hc => kf hc⟩))))))
set_option maxRecDepth 100000 in
theorem b_X2_is_50 {d : Nat} {S : mSh} {M : mMem} {Q : Option mV → mSh → mMem → Prop} {x1 x2 : Int} (k : Q (some (vI 0)) S M) : WP PR d 33 50 [vA 4, vA x1, vI x2] [] S M Q := by
  refine WP.re 1 51 .ireturn (0, 0, 0, 0) _ rfl ?_
  exact ⟨rfl, rfl, Or.inl rfl, k⟩
set_option maxRecDepth 100000 in
theorem b_X2_is_52 {d : Nat} {S : mSh} {M : mMem} {Q : Option mV → mSh → mMem → Prop} {x1 x2 : Int} (hc : R32 (x2 + 1)) (k : WP PR d 33 20 [vA 4, vA x1, vI (x2 + 1)] [] S M Q) : WP PR d 33 52 [vA 4, vA x1, vI x2] [] S M Q := by
  refine WP.gt 1 55 (-35) (0, 0, 0, 0) _ 20 rfl rfl ?_
  exact And.intro (hc) (k)
set_option maxRecDepth 100000 in
theorem b_X2_is_58 {d : Nat} {S : mSh} {M : mMem} {Q : Option mV → mSh → mMem → Prop} {x1 x2 : Int} (k : Q (some (vI 1)) S M) : WP PR d 33 58 [vA 4, vA x1, vI x2] [] S M Q := by
  refine WP.re 1 59 .ireturn (0, 0, 0, 0) _ rfl ?_
  exact ⟨rfl, rfl, Or.inr rfl, k⟩
/-- SoleraCellar$Reader.next()V -/
abbrev e_X2_next (d : Nat) (S : mSh) (M : mMem) (Q : Option mV → mSh → mMem → Prop) : Prop := WP PR d 34 0 [vA 4, vU, vU, vU] [] S M Q
set_option maxRecDepth 100000 in
theorem b_X2_next_0 {d : Nat} {S : mSh} {M : mMem} {Q : Option mV → mSh → mMem → Prop} (L : Lay S) (k : WP PR d 34 8 [vA 4, vU, vU, vU] [] S (up M 4 3 (M 4 4)) Q) : WP PR d 34 0 [vA 4, vU, vU, vU] [] S M Q := by
  refine WP.bl 4 8 rfl ?_
  exact And.intro (lo4 L) (And.intro (lo4 L) (k))
set_option maxRecDepth 100000 in
theorem b_X2_next_8 {d : Nat} {S : mSh} {M : mMem} {Q : Option mV → mSh → mMem → Prop} {u1 u2 u3 : mV} (L : Lay S) (kt : M 2 1 ≤ M 4 3 → WP PR d 34 52 [vA 4, u1, u2, u3] [] S M Q) (kf : M 4 3 < M 2 1 → WP PR d 34 22 [vA 4, u1, u2, u3] [] S M Q) : WP PR d 34 8 [vA 4, u1, u2, u3] [] S M Q := by
  refine WP.if2 5 22 19 .ge 33 (0, 0, 0, 0) 52 rfl rfl ?_
  exact And.intro (lo4 L) (And.intro (⟨lo4 L, lf4_0 L⟩) (And.intro (lo2 L) (⟨kt, fun hc => kf (Int.not_le.mp hc)⟩)))
set_option maxRecDepth 100000 in
theorem b_X2_next_22 {d : Nat} {S : mSh} {M : mMem} {Q : Option mV → mSh → mMem → Prop} {u1 u2 u3 : mV} (L : Lay S) (hc : (0 ≤ M 4 3 ∧ M 4 3 < 400)) (kt : ¬ M 3 (M 4 3) = 32 → WP PR d 34 52 [vA 4, u1, u2, u3] [] S M Q) (kf : M 3 (M 4 3) = 32 → WP PR d 34 39 [vA 4, u1, u2, u3] [] S M Q) : WP PR d 34 22 [vA 4, u1, u2, u3] [] S M Q := by
  refine WP.if2 7 39 36 .ne 16 (0, 0, 0, 0) 52 rfl rfl ?_
  exact And.intro (⟨lo4 L, lf4_0 L⟩) (And.intro (⟨lo2 L, lf2_0 L⟩) (And.intro (lo4 L) (And.intro (inA_of (lo3 L) (ll3 L) hc) (⟨kt, fun hc => kf (Decidable.not_not.mp hc)⟩))))
set_option maxRecDepth 100000 in
theorem b_X2_next_39 {d : Nat} {S : mSh} {M : mMem} {Q : Option mV → mSh → mMem → Prop} {u1 u2 u3 : mV} (L : Lay S) (hc : R32 ((M 4 3) + 1)) (k : WP PR d 34 8 [vA 4, u1, u2, u3] [] S (up M 4 3 ((M 4 3) + 1)) Q) : WP PR d 34 39 [vA 4, u1, u2, u3] [] S M Q := by
  refine WP.gt 6 49 (-41) (0, 0, 0, 0) _ 8 rfl rfl ?_
  exact And.intro (lo4 L) (And.intro (hc) (And.intro (lo4 L) (k)))
set_option maxRecDepth 100000 in
theorem b_X2_next_52 {d : Nat} {S : mSh} {M : mMem} {Q : Option mV → mSh → mMem → Prop} {u1 u2 u3 : mV} (L : Lay S) (k : WP PR d 34 70 [vA 4, u1, u2, u3] [] S (up (up (up M 4 4 (M 4 3)) 4 5 0) 4 6 0) Q) : WP PR d 34 52 [vA 4, u1, u2, u3] [] S M Q := by
  refine WP.bl 10 70 rfl ?_
  exact And.intro (lo4 L) (And.intro (lo4 L) (And.intro (lo4 L) (And.intro (lo4 L) (k))))
set_option maxRecDepth 100000 in
theorem b_X2_next_70 {d : Nat} {S : mSh} {M : mMem} {Q : Option mV → mSh → mMem → Prop} {u1 u2 u3 : mV} (L : Lay S) (kt : M 2 1 ≤ M 4 4 → WP PR d 34 217 [vA 4, u1, u2, u3] [] S M Q) (kf : M 4 4 < M 2 1 → WP PR d 34 84 [vA 4, u1, u2, u3] [] S M Q) : WP PR d 34 70 [vA 4, u1, u2, u3] [] S M Q := by
  refine WP.if2 5 84 81 .ge 136 (0, 0, 0, 0) 217 rfl rfl ?_
  exact And.intro (lo4 L) (And.intro (⟨lo4 L, lf4_0 L⟩) (And.intro (lo2 L) (⟨kt, fun hc => kf (Int.not_le.mp hc)⟩)))
set_option maxRecDepth 100000 in
theorem b_X2_next_84 {d : Nat} {S : mSh} {M : mMem} {Q : Option mV → mSh → mMem → Prop} {u1 u2 u3 : mV} (L : Lay S) (hc : (0 ≤ M 4 4 ∧ M 4 4 < 400)) (kt : M 3 (M 4 4) < 97 → WP PR d 34 113 [vA 4, vI (M 3 (M 4 4)), u2, u3] [] S M Q) (kf : 97 ≤ M 3 (M 4 4) → WP PR d 34 103 [vA 4, vI (M 3 (M 4 4)), u2, u3] [] S M Q) : WP PR d 34 84 [vA 4, u1, u2, u3] [] S M Q := by
  refine WP.if2 9 103 100 .lt 13 (0, 0, 0, 0) 113 rfl rfl ?_
  exact And.intro (⟨lo4 L, lf4_0 L⟩) (And.intro (⟨lo2 L, lf2_0 L⟩) (And.intro (lo4 L) (And.intro (inA_of (lo3 L) (ll3 L) hc) (⟨kt, fun hc => kf (Int.not_lt.mp hc)⟩))))
set_option maxRecDepth 100000 in
theorem b_X2_next_103 {d : Nat} {S : mSh} {M : mMem} {Q : Option mV → mSh → mMem → Prop} {x1 : Int} {u2 u3 : mV} (kt : 122 < x1 → WP PR d 34 113 [vA 4, vI x1, u2, u3] [] S M Q) (kf : x1 ≤ 122 → WP PR d 34 109 [vA 4, vI x1, u2, u3] [] S M Q) : WP PR d 34 103 [vA 4, vI x1, u2, u3] [] S M Q := by
  refine WP.if2 2 109 106 .gt 7 (0, 0, 0, 0) 113 rfl rfl ?_
  exact ⟨kt, fun hc => kf (Int.not_lt.mp hc)⟩
set_option maxRecDepth 100000 in
theorem b_X2_next_109 {d : Nat} {S : mSh} {M : mMem} {Q : Option mV → mSh → mMem → Prop} {x1 : Int} {u2 u3 : mV} (L : Lay S) (kt : M 4 4 ≤ M 4 3 → WP PR d 34 169 [vA 4, vI x1, vI 1, vI 1] [] S M Q) (kf : M 4 3 < M 4 4 → WP PR d 34 152 [vA 4, vI x1, vI 1, vI 1] [] S M Q) : WP PR d 34 109 [vA 4, vI x1, u2, u3] [] S M Q := by
  refine WP.gt 1 110 4 (0, 0, 0, 0) _ 114 rfl rfl ?_
  show WP PR d 34 114 [vA 4, vI x1, u2, u3] [vI 1] S M Q
  refine WP.if0 2 119 116 .eq 7 (0, 0, 0, 0) 123 rfl rfl ?_
  refine ⟨fun h => absurd h (show ¬ ((1 : Int) = (0 : Int)) by decide), fun _ => ?_⟩
  show WP PR d 34 119 [vA 4, vI x1, vI 1, u3] [] S M Q
  refine WP.gt 1 120 20 (0, 0, 0, 0) _ 140 rfl rfl ?_
  show WP PR d 34 140 [vA 4, vI x1, vI 1, u3] [vI 1] S M Q
  refine WP.if2 5 152 149 .le 20 (0, 0, 0, 0) 169 rfl rfl ?_
  exact And.intro (lo4 L) (And.intro (lo4 L) (⟨kt, fun hc => kf (Int.not_le.mp hc)⟩))
set_option maxRecDepth 100000 in
theorem b_X2_next_113 {d : Nat} {S : mSh} {M : mMem} {Q : Option mV → mSh → mMem → Prop} {x1 : Int} {u2 u3 : mV} (kt : x1 < 48 → WP PR d 34 139 [vA 4, vI x1, vI 0, u3] [] S M Q) (kf : 48 ≤ x1 → WP PR d 34 129 [vA 4, vI x1, vI 0, u3] [] S M Q) : WP PR d 34 113 [vA 4, vI x1, u2, u3] [] S M Q := by
  refine WP.if0 3 119 116 .eq 7 (0, 0, 0, 0) 123 rfl rfl ?_
  refine ⟨fun _ => ?_, fun h => absurd (show (0 : Int) = (0 : Int) by decide) h⟩
  show WP PR d 34 123 [vA 4, vI x1, vI 0, u3] [] S M Q
  refine WP.if2 2 129 126 .lt 13 (0, 0, 0, 0) 139 rfl rfl ?_
  exact ⟨kt, fun hc => kf (Int.not_lt.mp hc)⟩
set_option maxRecDepth 100000 in
theorem b_X2_next_129 {d : Nat} {S : mSh} {M : mMem} {Q : Option mV → mSh → mMem → Prop} {x1 x2 : Int} {u3 : mV} (kt : 57 < x1 → WP PR d 34 139 [vA 4, vI x1, vI x2, u3] [] S M Q) (kf : x1 ≤ 57 → WP PR d 34 135 [vA 4, vI x1, vI x2, u3] [] S M Q) : WP PR d 34 129 [vA 4, vI x1, vI x2, u3] [] S M Q := by
  refine WP.if2 2 135 132 .gt 7 (0, 0, 0, 0) 139 rfl rfl ?_
  exact ⟨kt, fun hc => kf (Int.not_lt.mp hc)⟩
set_option maxRecDepth 100000 in
theorem b_X2_next_135 {d : Nat} {S : mSh} {M : mMem} {Q : Option mV → mSh → mMem → Prop} {x1 x2 : Int} {u3 : mV} (L : Lay S) (kt : M 4 4 ≤ M 4 3 → WP PR d 34 169 [vA 4, vI x1, vI x2, vI 2] [] S M Q) (kf : M 4 3 < M 4 4 → WP PR d 34 152 [vA 4, vI x1, vI x2, vI 2] [] S M Q) : WP PR d 34 135 [vA 4, vI x1, vI x2, u3] [] S M Q := by
  refine WP.gt 1 136 4 (0, 0, 0, 0) _ 140 rfl rfl ?_
  show WP PR d 34 140 [vA 4, vI x1, vI x2, u3] [vI 2] S M Q
  refine WP.if2 5 152 149 .le 20 (0, 0, 0, 0) 169 rfl rfl ?_
  exact And.intro (lo4 L) (And.intro (lo4 L) (⟨kt, fun hc => kf (Int.not_le.mp hc)⟩))
set_option maxRecDepth 100000 in
theorem b_X2_next_139 {d : Nat} {S : mSh} {M : mMem} {Q : Option mV → mSh → mMem → Prop} {x1 x2 : Int} {u3 : mV} (L : Lay S) (kt : M 4 4 ≤ M 4 3 → WP PR d 34 169 [vA 4, vI x1, vI x2, vI 3] [] S M Q) (kf : M 4 3 < M 4 4 → WP PR d 34 152 [vA 4, vI x1, vI x2, vI 3] [] S M Q) : WP PR d 34 139 [vA 4, vI x1, vI x2, u3] [] S M Q := by
  refine WP.if2 6 152 149 .le 20 (0, 0, 0, 0) 169 rfl rfl ?_
  exact And.intro (lo4 L) (And.intro (lo4 L) (⟨kt, fun hc => kf (Int.not_le.mp hc)⟩))
set_option maxRecDepth 100000 in
theorem b_X2_next_152 {d : Nat} {S : mSh} {M : mMem} {Q : Option mV → mSh → mMem → Prop} {x1 x2 x3 : Int} (L : Lay S) (kt : ¬ x3 = M 4 5 → WP PR d 34 168 [vA 4, vI x1, vI x2, vI x3] [] S M Q) (kf : x3 = M 4 5 → WP PR d 34 160 [vA 4, vI x1, vI x2, vI x3] [] S M Q) : WP PR d 34 152 [vA 4, vI x1, vI x2, vI x3] [] S M Q := by
  refine WP.if2 3 160 157 .ne 11 (0, 0, 0, 0) 168 rfl rfl ?_
  exact And.intro (lo4 L) (⟨kt, fun hc => kf (Decidable.not_not.mp hc)⟩)
set_option maxRecDepth 100000 in
theorem b_X2_next_160 {d : Nat} {S : mSh} {M : mMem} {Q : Option mV → mSh → mMem → Prop} {x1 x2 x3 : Int} (L : Lay S) (kt : ¬ M 4 5 = 3 → WP PR d 34 169 [vA 4, vI x1, vI x2, vI x3] [] S M Q) (kf : M 4 5 = 3 → WP PR d 34 168 [vA 4, vI x1, vI x2, vI x3] [] S M Q) : WP PR d 34 160 [vA 4, vI x1, vI x2, vI x3] [] S M Q := by
  refine WP.if2 3 168 165 .ne 4 (0, 0, 0, 0) 169 rfl rfl ?_
  exact And.intro (lo4 L) (⟨kt, fun hc => kf (Decidable.not_not.mp hc)⟩)
set_option maxRecDepth 100000 in
theorem b_X2_next_168 {d : Nat} {S : mSh} {M : mMem} {Q : Option mV → mSh → mMem → Prop} {x1 x2 x3 : Int} (k : Q (none) S M) : WP PR d 34 168 [vA 4, vI x1, vI x2, vI x3] [] S M Q := by
  refine WP.re 0 168 .return_ (0, 0, 0, 0) _ rfl ?_
  exact ⟨rfl, rfl, trivial, k⟩
set_option maxRecDepth 100000 in
theorem b_X2_next_169 {d : Nat} {S : mSh} {M : mMem} {Q : Option mV → mSh → mMem → Prop} {x1 x2 x3 : Int} (L : Lay S) (kt : ¬ x3 = 2 → WP PR d 34 204 [vA 4, vI x1, vI x2, vI x3] [] S (up M 4 5 x3) Q) (kf : x3 = 2 → WP PR d 34 182 [vA 4, vI x1, vI x2, vI x3] [] S (up M 4 5 x3) Q) : WP PR d 34 169 [vA 4, vI x1, vI x2, vI x3] [] S M Q := by
  refine WP.if2 6 182 179 .ne 25 (0, 0, 0, 0) 204 rfl rfl ?_
  exact And.intro (lo4 L) (And.intro (lo4 L) (⟨kt, fun hc => kf (Decidable.not_not.mp hc)⟩))
set_option maxRecDepth 100000 in
theorem b_X2_next_182 {d : Nat} {S : mSh} {M : mMem} {Q : Option mV → mSh → mMem → Prop} {x1 x2 x3 : Int} (L : Lay S) (hc : R32 ((M 4 6) * 10) ∧ R32 (((M 4 6) * 10) + x1) ∧ R32 ((((M 4 6) * 10) + x1) - 48) ∧ R32 ((M 4 4) + 1)) (k : WP PR d 34 70 [vA 4, vI x1, vI x2, vI x3] [] S (up (up M 4 6 (if 1001 < (((M 4 6) * 10) + x1) - 48 then 1001 else (((M 4 6) * 10) + x1) - 48)) 4 4 ((M 4 4) + 1)) Q) : WP PR d 34 182 [vA 4, vI x1, vI x2, vI x3] [] S M Q := by
  refine WP.gt 18 214 (-144) (0, 0, 0, 0) _ 70 rfl rfl ?_
  exact And.intro (lo4 L) (And.intro (hc.1) (And.intro (hc.2.1) (And.intro (hc.2.2.1) (And.intro (lo4 L) (And.intro (lo4 L) (And.intro (hc.2.2.2) (And.intro (lo4 L) (k))))))))
set_option maxRecDepth 100000 in
theorem b_X2_next_204 {d : Nat} {S : mSh} {M : mMem} {Q : Option mV → mSh → mMem → Prop} {x1 x2 x3 : Int} (L : Lay S) (hc : R32 ((M 4 4) + 1)) (k : WP PR d 34 70 [vA 4, vI x1, vI x2, vI x3] [] S (up M 4 4 ((M 4 4) + 1)) Q) : WP PR d 34 204 [vA 4, vI x1, vI x2, vI x3] [] S M Q := by
  refine WP.gt 6 214 (-144) (0, 0, 0, 0) _ 70 rfl rfl ?_
  exact And.intro (lo4 L) (And.intro (hc) (And.intro (lo4 L) (k)))
set_option maxRecDepth 100000 in
theorem b_X2_next_217 {d : Nat} {S : mSh} {M : mMem} {Q : Option mV → mSh → mMem → Prop} {u1 u2 u3 : mV} (k : Q (none) S M) : WP PR d 34 217 [vA 4, u1, u2, u3] [] S M Q := by
  refine WP.re 0 217 .return_ (0, 0, 0, 0) _ rfl ?_
  exact ⟨rfl, rfl, trivial, k⟩
