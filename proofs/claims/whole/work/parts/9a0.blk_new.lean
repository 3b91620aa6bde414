/-! Blocks of the constructors, cut small (by program: wip/whole/gen13.py). -/
-- SoleraCellar$State.<init>()V
set_option maxRecDepth 100000 in
theorem n_X3_init_0 {d : Nat} {S : mSh} {M : mMem} {Q : Option mV → mSh → mMem → Prop} {x0 : Int} (ho1 : isO (sNew S 4 0 8) (sN S + 1) 4) (hc : 1 ≤ x0) (k : WP PR d 41 0 [vA (sN S + 1)] [] (sNew S 4 0 8) (zr M (sN S + 1)) (fun r S2 M2 => WP PR (d + 1) 35 12 [vA x0, vU] (r.toList ++ [vA (sN S + 1), vA x0]) S2 M2 Q)) : WP PR (d + 1) 35 0 [vA x0, vU] [] S M Q := by
  refine WP.ca 5 12 9 (.invokespecial 11) (0, 41, 1, 0) rfl ?_
  exact And.intro (hc) (⟨rfl, rfl, rfl, ho1, rfl, k⟩)
set_option maxRecDepth 100000 in
theorem n_X3_init_12 {d : Nat} {S : mSh} {M : mMem} {Q : Option mV → mSh → mMem → Prop} {x0 s0 s1 : Int} {u1 : mV} (ho1 : isO S s0 3) (ho2 : s1 = s0 + 1) (k : WP PR d 35 15 [vA x0, u1] [] (sSet S s0 0) M Q) : WP PR d 35 12 [vA x0, u1] [vA s1, vA s0] S M Q := by
  refine WP.bl 1 15 rfl ?_
  exact And.intro (⟨ho1, ho2⟩) (k)
set_option maxRecDepth 100000 in
theorem n_X3_init_15 {d : Nat} {S : mSh} {M : mMem} {Q : Option mV → mSh → mMem → Prop} {x0 : Int} {u1 : mV} (ho1 : isO (sNew S 6 0 4) (sN S + 1) 6) (k : WP PR d 58 0 [vA (sN S + 1), vI 0, vI 0] [] (sNew S 6 0 4) (zr M (sN S + 1)) (fun r S2 M2 => WP PR (d + 1) 35 25 [vA x0, u1] (r.toList ++ [vA (sN S + 1), vA x0]) S2 M2 Q)) : WP PR (d + 1) 35 15 [vA x0, u1] [] S M Q := by
  refine WP.ca 5 25 22 (.invokespecial 20) (0, 58, 0, 0) rfl ?_
  exact ⟨rfl, rfl, rfl, ho1, rfl, k⟩
set_option maxRecDepth 100000 in
theorem n_X3_init_25 {d : Nat} {S : mSh} {M : mMem} {Q : Option mV → mSh → mMem → Prop} {x0 s0 s1 : Int} {u1 : mV} (ho1 : isO S s0 3) (ho2 : s1 = s0 + 8) (k : WP PR d 35 28 [vA x0, u1] [] (sSet S s0 1) M Q) : WP PR d 35 25 [vA x0, u1] [vA s1, vA s0] S M Q := by
  refine WP.bl 1 28 rfl ?_
  exact And.intro (⟨ho1, ho2⟩) (k)
set_option maxRecDepth 100000 in
theorem n_X3_init_28 {d : Nat} {S : mSh} {M : mMem} {Q : Option mV → mSh → mMem → Prop} {x0 : Int} {u1 : mV} (ho1 : isO (sNew S 23 6 6) x0 3) (ho2 : sN S + 1 = x0 + 11) (k : WP PR d 35 37 [vA x0, u1] [] (sSet (sNew S 23 6 6) x0 2) (zr M (sN S + 1)) Q) : WP PR d 35 28 [vA x0, u1] [] S M Q := by
  refine WP.bl 4 37 rfl ?_
  exact And.intro (⟨by decide, by decide⟩) (And.intro (⟨ho1, ho2⟩) (k))
set_option maxRecDepth 100000 in
theorem n_X3_init_37 {d : Nat} {S : mSh} {M : mMem} {Q : Option mV → mSh → mMem → Prop} {x0 : Int} {u1 : mV} (ho1 : isO (sNew S 23 4 4) x0 3) (ho2 : sN S + 1 = x0 + 12) (k : WP PR d 35 45 [vA x0, u1] [] (sSet (sNew S 23 4 4) x0 3) (zr M (sN S + 1)) Q) : WP PR d 35 37 [vA x0, u1] [] S M Q := by
  refine WP.bl 4 45 rfl ?_
  exact And.intro (⟨by decide, by decide⟩) (And.intro (⟨ho1, ho2⟩) (k))
set_option maxRecDepth 100000 in
theorem n_X3_init_45 {d : Nat} {S : mSh} {M : mMem} {Q : Option mV → mSh → mMem → Prop} {x0 : Int} {u1 : mV} (ho1 : isO (sNew S 20 6 6) x0 3) (ho2 : sN S + 1 = x0 + 13) (k : WP PR d 35 53 [vA x0, u1] [] (sSet (sNew S 20 6 6) x0 4) (zr M (sN S + 1)) Q) : WP PR d 35 45 [vA x0, u1] [] S M Q := by
  refine WP.bl 4 53 rfl ?_
  exact And.intro (⟨by decide, by decide⟩) (And.intro (⟨ho1, ho2⟩) (k))
set_option maxRecDepth 100000 in
theorem n_X3_init_53 {d : Nat} {S : mSh} {M : mMem} {Q : Option mV → mSh → mMem → Prop} {x0 : Int} {u1 : mV} (ho1 : isO (sNew S 20 6 6) x0 3) (ho2 : sN S + 1 = x0 + 14) (k : WP PR d 35 61 [vA x0, u1] [] (sSet (sNew S 20 6 6) x0 5) (zr M (sN S + 1)) Q) : WP PR d 35 53 [vA x0, u1] [] S M Q := by
  refine WP.bl 4 61 rfl ?_
  exact And.intro (⟨by decide, by decide⟩) (And.intro (⟨ho1, ho2⟩) (k))
set_option maxRecDepth 100000 in
theorem n_X3_init_61 {d : Nat} {S : mSh} {M : mMem} {Q : Option mV → mSh → mMem → Prop} {x0 : Int} {u1 : mV} (ho1 : isO S x0 3) (k : WP PR d 35 66 [vA x0, u1] [] S (up M x0 9 (-1)) Q) : WP PR d 35 61 [vA x0, u1] [] S M Q := by
  refine WP.bl 3 66 rfl ?_
  exact And.intro (ho1) (k)
set_option maxRecDepth 100000 in
theorem n_X3_init_66 {d : Nat} {S : mSh} {M : mMem} {Q : Option mV → mSh → mMem → Prop} {x0 : Int} {u1 : mV} (k : WP PR d 35 68 [vA x0, vI 0] [] S M Q) : WP PR d 35 66 [vA x0, u1] [] S M Q := by
  refine WP.bl 2 68 rfl ?_
  exact k
set_option maxRecDepth 100000 in
theorem n_X3_init_68 {d : Nat} {S : mSh} {M : mMem} {Q : Option mV → mSh → mMem → Prop} {x0 x1 : Int} (kt : 6 ≤ x1 → WP PR d 35 90 [vA x0, vI x1] [] S M Q) (kf : x1 < 6 → WP PR d 35 74 [vA x0, vI x1] [] S M Q) : WP PR d 35 68 [vA x0, vI x1] [] S M Q := by
  refine WP.if2 2 74 71 .ge 19 (0, 0, 0, 0) 90 rfl rfl ?_
  exact ⟨kt, fun hc => kf (Int.not_le.mp hc)⟩
set_option maxRecDepth 100000 in
theorem n_X3_init_74 {d : Nat} {S : mSh} {M : mMem} {Q : Option mV → mSh → mMem → Prop} {x0 x1 : Int} (ho1 : isO S x0 3) (ho2 : sF S x0 2 = 1) (ho3 : isO S x0 3) (ho4 : sF S x0 1 = 1) (ho5 : isO S (x0 + 11) 23) (ho6 : isO S (x0 + 8) 6) (hc : (0 ≤ x1 ∧ x1 < sL S (x0 + 11)) ∧ R32 (x1 + 1)) (k : WP PR d 35 68 [vA x0, vI (x1 + 1)] [] S (up M (x0 + 11) x1 (x0 + 8)) Q) : WP PR d 35 74 [vA x0, vI x1] [] S M Q := by
  refine WP.gt 7 87 (-19) (0, 0, 0, 0) _ 68 rfl rfl ?_
  exact And.intro (⟨ho1, ho2⟩) (And.intro (⟨ho3, ho4⟩) (And.intro (⟨inA_of (ho5) (rfl) hc.1, ho6⟩) (And.intro (hc.2) (k))))
set_option maxRecDepth 100000 in
theorem n_X3_init_90 {d : Nat} {S : mSh} {M : mMem} {Q : Option mV → mSh → mMem → Prop} {x0 x1 : Int} (k : WP PR d 35 92 [vA x0, vI 0] [] S M Q) : WP PR d 35 90 [vA x0, vI x1] [] S M Q := by
  refine WP.bl 2 92 rfl ?_
  exact k
set_option maxRecDepth 100000 in
theorem n_X3_init_92 {d : Nat} {S : mSh} {M : mMem} {Q : Option mV → mSh → mMem → Prop} {x0 x1 : Int} (kt : 4 ≤ x1 → WP PR d 35 113 [vA x0, vI x1] [] S M Q) (kf : x1 < 4 → WP PR d 35 97 [vA x0, vI x1] [] S M Q) : WP PR d 35 92 [vA x0, vI x1] [] S M Q := by
  refine WP.if2 2 97 94 .ge 19 (0, 0, 0, 0) 113 rfl rfl ?_
  exact ⟨kt, fun hc => kf (Int.not_le.mp hc)⟩
set_option maxRecDepth 100000 in
theorem n_X3_init_97 {d : Nat} {S : mSh} {M : mMem} {Q : Option mV → mSh → mMem → Prop} {x0 x1 : Int} (ho1 : isO S x0 3) (ho2 : sF S x0 3 = 1) (ho3 : isO S x0 3) (ho4 : sF S x0 1 = 1) (ho5 : isO S (x0 + 12) 23) (ho6 : isO S (x0 + 8) 6) (hc : (0 ≤ x1 ∧ x1 < sL S (x0 + 12)) ∧ R32 (x1 + 1)) (k : WP PR d 35 92 [vA x0, vI (x1 + 1)] [] S (up M (x0 + 12) x1 (x0 + 8)) Q) : WP PR d 35 97 [vA x0, vI x1] [] S M Q := by
  refine WP.gt 7 110 (-18) (0, 0, 0, 0) _ 92 rfl rfl ?_
  exact And.intro (⟨ho1, ho2⟩) (And.intro (⟨ho3, ho4⟩) (And.intro (⟨inA_of (ho5) (rfl) hc.1, ho6⟩) (And.intro (hc.2) (k))))
set_option maxRecDepth 100000 in
theorem n_X3_init_113 {d : Nat} {S : mSh} {M : mMem} {Q : Option mV → mSh → mMem → Prop} {x0 x1 : Int} (k : Q (none) S M) : WP PR d 35 113 [vA x0, vI x1] [] S M Q := by
  refine WP.re 0 113 .return_ (0, 0, 0, 0) _ rfl ?_
  exact ⟨rfl, rfl, trivial, k⟩
-- SoleraCellar$Stock.<init>()V
set_option maxRecDepth 100000 in
theorem n_X4_init_0 {d : Nat} {S : mSh} {M : mMem} {Q : Option mV → mSh → mMem → Prop} {x0 : Int} (ho1 : isO (sNew S 20 8 8) x0 4) (ho2 : sN S + 1 = x0 + 1) (hc : 1 ≤ x0) (k : WP PR d 41 12 [vA x0] [] (sSet (sNew S 20 8 8) x0 0) (zr M (sN S + 1)) Q) : WP PR d 41 0 [vA x0] [] S M Q := by
  refine WP.bl 6 12 rfl ?_
  exact And.intro (hc) (And.intro (⟨by decide, by decide⟩) (And.intro (⟨ho1, ho2⟩) (k)))
set_option maxRecDepth 100000 in
theorem n_X4_init_12 {d : Nat} {S : mSh} {M : mMem} {Q : Option mV → mSh → mMem → Prop} {x0 : Int} (ho1 : isO (sNew S 20 8 8) x0 4) (ho2 : sN S + 1 = x0 + 2) (k : WP PR d 41 20 [vA x0] [] (sSet (sNew S 20 8 8) x0 1) (zr M (sN S + 1)) Q) : WP PR d 41 12 [vA x0] [] S M Q := by
  refine WP.bl 4 20 rfl ?_
  exact And.intro (⟨by decide, by decide⟩) (And.intro (⟨ho1, ho2⟩) (k))
set_option maxRecDepth 100000 in
theorem n_X4_init_20 {d : Nat} {S : mSh} {M : mMem} {Q : Option mV → mSh → mMem → Prop} {x0 : Int} (ho1 : isO (sNew S 20 8 8) x0 4) (ho2 : sN S + 1 = x0 + 3) (k : WP PR d 41 28 [vA x0] [] (sSet (sNew S 20 8 8) x0 2) (zr M (sN S + 1)) Q) : WP PR d 41 20 [vA x0] [] S M Q := by
  refine WP.bl 4 28 rfl ?_
  exact And.intro (⟨by decide, by decide⟩) (And.intro (⟨ho1, ho2⟩) (k))
set_option maxRecDepth 100000 in
theorem n_X4_init_28 {d : Nat} {S : mSh} {M : mMem} {Q : Option mV → mSh → mMem → Prop} {x0 : Int} (ho1 : isO (sNew S 21 8 8) x0 4) (ho2 : sN S + 1 = x0 + 4) (k : WP PR d 41 36 [vA x0] [] (sSet (sNew S 21 8 8) x0 3) (zr M (sN S + 1)) Q) : WP PR d 41 28 [vA x0] [] S M Q := by
  refine WP.bl 4 36 rfl ?_
  exact And.intro (⟨by decide, by decide⟩) (And.intro (⟨ho1, ho2⟩) (k))
set_option maxRecDepth 100000 in
theorem n_X4_init_36 {d : Nat} {S : mSh} {M : mMem} {Q : Option mV → mSh → mMem → Prop} {x0 : Int} (ho1 : isO (sNew S 20 160 160) x0 4) (ho2 : sN S + 1 = x0 + 5) (k : WP PR d 41 45 [vA x0] [] (sSet (sNew S 20 160 160) x0 4) (zr M (sN S + 1)) Q) : WP PR d 41 36 [vA x0] [] S M Q := by
  refine WP.bl 4 45 rfl ?_
  exact And.intro (⟨by decide, by decide⟩) (And.intro (⟨ho1, ho2⟩) (k))
set_option maxRecDepth 100000 in
theorem n_X4_init_45 {d : Nat} {S : mSh} {M : mMem} {Q : Option mV → mSh → mMem → Prop} {x0 : Int} (ho1 : isO (sNew S 20 4 4) (sN S + 1) 20) (ho2 : isO (sNew S 20 4 4) (sN S + 1) 20) (ho3 : isO (sNew S 20 4 4) (sN S + 1) 20) (ho4 : isO (sNew S 20 4 4) (sN S + 1) 20) (ho5 : isO (sNew S 20 4 4) x0 4) (ho6 : sN S + 1 = x0 + 6) (hc : ((0 : Int) ≤ 0 ∧ 0 < sL (sNew S 20 4 4) (sN S + 1)) ∧ ((0 : Int) ≤ 1 ∧ 1 < sL (sNew S 20 4 4) (sN S + 1)) ∧ ((0 : Int) ≤ 2 ∧ 2 < sL (sNew S 20 4 4) (sN S + 1)) ∧ ((0 : Int) ≤ 3 ∧ 3 < sL (sNew S 20 4 4) (sN S + 1))) (k : WP PR d 41 69 [vA x0] [] (sSet (sNew S 20 4 4) x0 5) (up (up (up (up (zr M (sN S + 1)) (sN S + 1) 0 0) (sN S + 1) 1 1) (sN S + 1) 2 0) (sN S + 1) 3 85) Q) : WP PR d 41 45 [vA x0] [] S M Q := by
  refine WP.bl 20 69 rfl ?_
  exact And.intro (⟨by decide, by decide⟩) (And.intro (inA_of (ho1) (rfl) hc.1) (And.intro (inA_of (ho2) (rfl) hc.2.1) (And.intro (inA_of (ho3) (rfl) hc.2.2.1) (And.intro (inA_of (ho4) (rfl) hc.2.2.2) (And.intro (⟨ho5, ho6⟩) (k))))))
set_option maxRecDepth 100000 in
theorem n_X4_init_69 {d : Nat} {S : mSh} {M : mMem} {Q : Option mV → mSh → mMem → Prop} {x0 : Int} (k : Q (none) S M) : WP PR d 41 69 [vA x0] [] S M Q := by
  refine WP.re 0 69 .return_ (0, 0, 0, 0) _ rfl ?_
  exact ⟨rfl, rfl, trivial, k⟩
-- SoleraCellar.<init>()V
set_option maxRecDepth 100000 in
theorem n_X8_init_0 {d : Nat} {S : mSh} {M : mMem} {Q : Option mV → mSh → mMem → Prop} {x0 : Int} (ho1 : isO (sNew S 5 0 2) (sN S + 1) 5) (hc : 1 ≤ x0) (k : WP PR d 56 0 [vA (sN S + 1)] [] (sNew S 5 0 2) (zr M (sN S + 1)) (fun r S2 M2 => WP PR (d + 1) 81 12 [vA x0] (r.toList ++ [vA (sN S + 1), vA x0]) S2 M2 Q)) : WP PR (d + 1) 81 0 [vA x0] [] S M Q := by
  refine WP.ca 5 12 9 (.invokespecial 9) (0, 56, 1, 0) rfl ?_
  exact And.intro (hc) (⟨rfl, rfl, rfl, ho1, rfl, k⟩)
set_option maxRecDepth 100000 in
theorem n_X8_init_12 {d : Nat} {S : mSh} {M : mMem} {Q : Option mV → mSh → mMem → Prop} {x0 s0 s1 : Int} (ho1 : isO S s0 8) (ho2 : s1 = s0 + 1) (k : WP PR d 81 15 [vA x0] [] (sSet S s0 0) M Q) : WP PR d 81 12 [vA x0] [vA s1, vA s0] S M Q := by
  refine WP.bl 1 15 rfl ?_
  exact And.intro (⟨ho1, ho2⟩) (k)
set_option maxRecDepth 100000 in
theorem n_X8_init_15 {d : Nat} {S : mSh} {M : mMem} {Q : Option mV → mSh → mMem → Prop} {x0 : Int} (ho1 : isO (sNew S 2 0 10) x0 8) (ho2 : sF (sNew S 2 0 10) x0 0 = 1) (ho3 : isO (sNew S 2 0 10) (sN S + 1) 2) (k : WP PR d 13 0 [vA (sN S + 1), vA (x0 + 1)] [] (sNew S 2 0 10) (zr M (sN S + 1)) (fun r S2 M2 => WP PR (d + 1) 81 27 [vA x0] (r.toList ++ [vA (sN S + 1), vA x0]) S2 M2 Q)) : WP PR (d + 1) 81 15 [vA x0] [] S M Q := by
  refine WP.ca 5 27 24 (.invokespecial 18) (0, 13, 0, 0) rfl ?_
  exact And.intro (⟨ho1, ho2⟩) (⟨rfl, rfl, rfl, ho3, rfl, k⟩)
set_option maxRecDepth 100000 in
theorem n_X8_init_27 {d : Nat} {S : mSh} {M : mMem} {Q : Option mV → mSh → mMem → Prop} {x0 s0 s1 : Int} (ho1 : isO S s0 8) (ho2 : s1 = s0 + 3) (k : WP PR d 81 30 [vA x0] [] (sSet S s0 1) M Q) : WP PR d 81 27 [vA x0] [vA s1, vA s0] S M Q := by
  refine WP.bl 1 30 rfl ?_
  exact And.intro (⟨ho1, ho2⟩) (k)
set_option maxRecDepth 100000 in
theorem n_X8_init_30 {d : Nat} {S : mSh} {M : mMem} {Q : Option mV → mSh → mMem → Prop} {x0 : Int} (ho1 : isO (sNew S 3 0 10) (sN S + 1) 3) (k : WP PR d 35 0 [vA (sN S + 1), vU] [] (sNew S 3 0 10) (zr M (sN S + 1)) (fun r S2 M2 => WP PR (d + 1) 81 38 [vA x0] (r.toList ++ [vA (sN S + 1), vA x0]) S2 M2 Q)) : WP PR (d + 1) 81 30 [vA x0] [] S M Q := by
  refine WP.ca 3 38 35 (.invokespecial 27) (0, 35, 0, 0) rfl ?_
  exact ⟨rfl, rfl, rfl, ho1, rfl, k⟩
set_option maxRecDepth 100000 in
theorem n_X8_init_38 {d : Nat} {S : mSh} {M : mMem} {Q : Option mV → mSh → mMem → Prop} {x0 s0 s1 : Int} (ho1 : isO S s0 8) (ho2 : s1 = s0 + 7) (k : WP PR d 81 41 [vA x0] [] (sSet S s0 2) M Q) : WP PR d 81 38 [vA x0] [vA s1, vA s0] S M Q := by
  refine WP.bl 1 41 rfl ?_
  exact And.intro (⟨ho1, ho2⟩) (k)
set_option maxRecDepth 100000 in
theorem n_X8_init_41 {d : Nat} {S : mSh} {M : mMem} {Q : Option mV → mSh → mMem → Prop} {x0 : Int} (ho1 : isO (sNew (sNew S 25 2 2) 3 0 10) (sN (sNew S 25 2 2) + 1) 3) (k : WP PR d 35 0 [vA (sN (sNew S 25 2 2) + 1), vU] [] (sNew (sNew S 25 2 2) 3 0 10) (zr (zr M (sN S + 1)) (sN (sNew S 25 2 2) + 1)) (fun r S2 M2 => WP PR (d + 1) 81 55 [vA x0] (r.toList ++ [vA (sN (sNew S 25 2 2) + 1), vI 0, vA (sN S + 1), vA (sN S + 1), vA x0]) S2 M2 Q)) : WP PR (d + 1) 81 41 [vA x0] [] S M Q := by
  refine WP.ca 7 55 52 (.invokespecial 27) (0, 35, 0, 0) rfl ?_
  exact And.intro (⟨by decide, by decide⟩) (⟨rfl, rfl, rfl, ho1, rfl, k⟩)
set_option maxRecDepth 100000 in
theorem n_X8_init_55 {d : Nat} {S : mSh} {M : mMem} {Q : Option mV → mSh → mMem → Prop} {x0 s0 s1 s2 s3 s4 : Int} (ho1 : isO S s2 25) (ho2 : isO S s4 3) (ho3 : isO (sNew S 3 0 10) (sN S + 1) 3) (hc : (0 ≤ s3 ∧ s3 < sL S s2)) (k : WP PR d 35 0 [vA (sN S + 1), vU] [] (sNew S 3 0 10) (zr (up M s2 s3 s4) (sN S + 1)) (fun r S2 M2 => WP PR (d + 1) 81 65 [vA x0] (r.toList ++ [vA (sN S + 1), vI 1, vA s1, vA s1, vA s0]) S2 M2 Q)) : WP PR (d + 1) 81 55 [vA x0] [vA s4, vI s3, vA s2, vA s1, vA s0] S M Q := by
  refine WP.ca 5 65 62 (.invokespecial 27) (0, 35, 0, 0) rfl ?_
  exact And.intro (⟨inA_of (ho1) (rfl) hc, ho2⟩) (⟨rfl, rfl, rfl, ho3, rfl, k⟩)
set_option maxRecDepth 100000 in
theorem n_X8_init_65 {d : Nat} {S : mSh} {M : mMem} {Q : Option mV → mSh → mMem → Prop} {x0 s0 s1 s2 s3 s4 : Int} (ho1 : isO S s2 25) (ho2 : isO S s4 3) (ho3 : isO S s0 8) (ho4 : s1 = s0 + 22) (hc : (0 ≤ s3 ∧ s3 < sL S s2)) (k : WP PR d 81 69 [vA x0] [] (sSet S s0 3) (up M s2 s3 s4) Q) : WP PR d 81 65 [vA x0] [vA s4, vI s3, vA s2, vA s1, vA s0] S M Q := by
  refine WP.bl 2 69 rfl ?_
  exact And.intro (⟨inA_of (ho1) (rfl) hc, ho2⟩) (And.intro (⟨ho3, ho4⟩) (k))
set_option maxRecDepth 100000 in
theorem n_X8_init_69 {d : Nat} {S : mSh} {M : mMem} {Q : Option mV → mSh → mMem → Prop} {x0 : Int} (ho1 : isO (sNew S 22 2 2) x0 8) (ho2 : sN S + 1 = x0 + 53) (k : WP PR d 81 76 [vA x0] [] (sSet (sNew S 22 2 2) x0 4) (zr M (sN S + 1)) Q) : WP PR d 81 69 [vA x0] [] S M Q := by
  refine WP.bl 4 76 rfl ?_
  exact And.intro (⟨by decide, by decide⟩) (And.intro (⟨ho1, ho2⟩) (k))
set_option maxRecDepth 100000 in
theorem n_X8_init_76 {d : Nat} {S : mSh} {M : mMem} {Q : Option mV → mSh → mMem → Prop} {x0 : Int} (ho1 : isO (sNew S 1 0 4) (sN S + 1) 1) (k : WP PR d 8 0 [vA (sN S + 1), vU] [] (sNew S 1 0 4) (zr M (sN S + 1)) (fun r S2 M2 => WP PR (d + 1) 81 84 [vA x0] (r.toList ++ [vA (sN S + 1), vA x0]) S2 M2 Q)) : WP PR (d + 1) 81 76 [vA x0] [] S M Q := by
  refine WP.ca 3 84 81 (.invokespecial 42) (0, 8, 0, 0) rfl ?_
  exact ⟨rfl, rfl, rfl, ho1, rfl, k⟩
set_option maxRecDepth 100000 in
theorem n_X8_init_84 {d : Nat} {S : mSh} {M : mMem} {Q : Option mV → mSh → mMem → Prop} {x0 s0 s1 : Int} (ho1 : isO S s0 8) (ho2 : s1 = s0 + 54) (k : WP PR d 81 87 [vA x0] [] (sSet S s0 5) M Q) : WP PR d 81 84 [vA x0] [vA s1, vA s0] S M Q := by
  refine WP.bl 1 87 rfl ?_
  exact And.intro (⟨ho1, ho2⟩) (k)
set_option maxRecDepth 100000 in
theorem n_X8_init_87 {d : Nat} {S : mSh} {M : mMem} {Q : Option mV → mSh → mMem → Prop} {x0 : Int} (ho1 : isO (sNew S 4 0 8) (sN S + 1) 4) (k : WP PR d 41 0 [vA (sN S + 1)] [] (sNew S 4 0 8) (zr M (sN S + 1)) (fun r S2 M2 => WP PR (d + 1) 81 95 [vA x0] (r.toList ++ [vA (sN S + 1), vA x0]) S2 M2 Q)) : WP PR (d + 1) 81 87 [vA x0] [] S M Q := by
  refine WP.ca 3 95 92 (.invokespecial 49) (0, 41, 1, 0) rfl ?_
  exact ⟨rfl, rfl, rfl, ho1, rfl, k⟩
set_option maxRecDepth 100000 in
theorem n_X8_init_95 {d : Nat} {S : mSh} {M : mMem} {Q : Option mV → mSh → mMem → Prop} {x0 s0 s1 : Int} (ho1 : isO S s0 8) (ho2 : s1 = s0 + 176) (k : WP PR d 81 98 [vA x0] [] (sSet S s0 6) M Q) : WP PR d 81 95 [vA x0] [vA s1, vA s0] S M Q := by
  refine WP.bl 1 98 rfl ?_
  exact And.intro (⟨ho1, ho2⟩) (k)
set_option maxRecDepth 100000 in
theorem n_X8_init_98 {d : Nat} {S : mSh} {M : mMem} {Q : Option mV → mSh → mMem → Prop} {x0 : Int} (ho1 : isO (sNew S 4 0 8) (sN S + 1) 4) (k : WP PR d 41 0 [vA (sN S + 1)] [] (sNew S 4 0 8) (zr M (sN S + 1)) (fun r S2 M2 => WP PR (d + 1) 81 106 [vA x0] (r.toList ++ [vA (sN S + 1), vA x0]) S2 M2 Q)) : WP PR (d + 1) 81 98 [vA x0] [] S M Q := by
  refine WP.ca 3 106 103 (.invokespecial 49) (0, 41, 1, 0) rfl ?_
  exact ⟨rfl, rfl, rfl, ho1, rfl, k⟩
set_option maxRecDepth 100000 in
theorem n_X8_init_106 {d : Nat} {S : mSh} {M : mMem} {Q : Option mV → mSh → mMem → Prop} {x0 s0 s1 : Int} (ho1 : isO S s0 8) (ho2 : s1 = s0 + 183) (k : WP PR d 81 109 [vA x0] [] (sSet S s0 7) M Q) : WP PR d 81 106 [vA x0] [vA s1, vA s0] S M Q := by
  refine WP.bl 1 109 rfl ?_
  exact And.intro (⟨ho1, ho2⟩) (k)
set_option maxRecDepth 100000 in
theorem n_X8_init_109 {d : Nat} {S : mSh} {M : mMem} {Q : Option mV → mSh → mMem → Prop} {x0 : Int} (ho1 : isO (sNew S 7 0 7) x0 8) (ho2 : sF (sNew S 7 0 7) x0 6 = 1) (ho3 : isO (sNew (sNew S 7 0 7) 6 0 4) (sN (sNew S 7 0 7) + 1) 6) (k : WP PR d 58 0 [vA (sN (sNew S 7 0 7) + 1), vI 0, vI 0] [] (sNew (sNew S 7 0 7) 6 0 4) (zr (zr M (sN S + 1)) (sN (sNew S 7 0 7) + 1)) (fun r S2 M2 => WP PR (d + 1) 81 127 [vA x0] (r.toList ++ [vA (sN (sNew S 7 0 7) + 1), vA (x0 + 176), vA (sN S + 1), vA (sN S + 1), vA x0]) S2 M2 Q)) : WP PR (d + 1) 81 109 [vA x0] [] S M Q := by
  refine WP.ca 9 127 124 (.invokespecial 61) (0, 58, 0, 0) rfl ?_
  exact And.intro (⟨ho1, ho2⟩) (⟨rfl, rfl, rfl, ho3, rfl, k⟩)
set_option maxRecDepth 100000 in
theorem n_X8_init_127 {d : Nat} {S : mSh} {M : mMem} {Q : Option mV → mSh → mMem → Prop} {x0 s0 s1 s2 s3 s4 : Int} (ho1 : isO S s2 7) (k : WP PR d 69 0 [vA s2, vA s3, vA s4] [] S M (fun r S2 M2 => WP PR (d + 1) 81 130 [vA x0] (r.toList ++ [vA s1, vA s0]) S2 M2 Q)) : WP PR (d + 1) 81 127 [vA x0] [vA s4, vA s3, vA s2, vA s1, vA s0] S M Q := by
  refine WP.ca 0 130 127 (.invokespecial 64) (0, 69, 0, 0) rfl ?_
  exact ⟨rfl, rfl, rfl, ho1, rfl, k⟩
set_option maxRecDepth 100000 in
theorem n_X8_init_130 {d : Nat} {S : mSh} {M : mMem} {Q : Option mV → mSh → mMem → Prop} {x0 s0 s1 : Int} (ho1 : isO S s0 8) (ho2 : s1 = s0 + 190) (k : WP PR d 81 133 [vA x0] [] (sSet S s0 8) M Q) : WP PR d 81 130 [vA x0] [vA s1, vA s0] S M Q := by
  refine WP.bl 1 133 rfl ?_
  exact And.intro (⟨ho1, ho2⟩) (k)
set_option maxRecDepth 100000 in
theorem n_X8_init_133 {d : Nat} {S : mSh} {M : mMem} {Q : Option mV → mSh → mMem → Prop} {x0 : Int} (ho1 : isO (sNew S 21 20 20) x0 8) (ho2 : sN S + 1 = x0 + 197) (k : WP PR d 81 141 [vA x0] [] (sSet (sNew S 21 20 20) x0 9) (zr M (sN S + 1)) Q) : WP PR d 81 133 [vA x0] [] S M Q := by
  refine WP.bl 4 141 rfl ?_
  exact And.intro (⟨by decide, by decide⟩) (And.intro (⟨ho1, ho2⟩) (k))
set_option maxRecDepth 100000 in
theorem n_X8_init_141 {d : Nat} {S : mSh} {M : mMem} {Q : Option mV → mSh → mMem → Prop} {x0 : Int} (ho1 : isO (sNew S 20 7 7) x0 8) (ho2 : sN S + 1 = x0 + 198) (k : WP PR d 81 149 [vA x0] [] (sSet (sNew S 20 7 7) x0 10) (zr M (sN S + 1)) Q) : WP PR d 81 141 [vA x0] [] S M Q := by
  refine WP.bl 4 149 rfl ?_
  exact And.intro (⟨by decide, by decide⟩) (And.intro (⟨ho1, ho2⟩) (k))
set_option maxRecDepth 100000 in
theorem n_X8_init_149 {d : Nat} {S : mSh} {M : mMem} {Q : Option mV → mSh → mMem → Prop} {x0 : Int} (ho1 : isO S x0 8) (k : WP PR d 81 154 [vA x0] [] S (up M x0 13 (-1)) Q) : WP PR d 81 149 [vA x0] [] S M Q := by
  refine WP.bl 3 154 rfl ?_
  exact And.intro (ho1) (k)
set_option maxRecDepth 100000 in
theorem n_X8_init_154 {d : Nat} {S : mSh} {M : mMem} {Q : Option mV → mSh → mMem → Prop} {x0 : Int} (ho1 : isO S x0 8) (k : WP PR d 81 159 [vA x0] [] S (up M x0 14 (-1)) Q) : WP PR d 81 154 [vA x0] [] S M Q := by
  refine WP.bl 3 159 rfl ?_
  exact And.intro (ho1) (k)
set_option maxRecDepth 100000 in
theorem n_X8_init_159 {d : Nat} {S : mSh} {M : mMem} {Q : Option mV → mSh → mMem → Prop} {x0 : Int} (k : Q (none) S M) : WP PR d 81 159 [vA x0] [] S M Q := by
  refine WP.re 0 159 .return_ (0, 0, 0, 0) _ rfl ?_
  exact ⟨rfl, rfl, trivial, k⟩
-- SoleraCellarModel.<init>()V
set_option maxRecDepth 100000 in
theorem n_X9_init_0 {d : Nat} {S : mSh} {M : mMem} {Q : Option mV → mSh → mMem → Prop} {x0 : Int} (ho1 : isO (sNew S 20 7 7) x0 9) (ho2 : sN S + 1 = x0 + 1) (hc : 1 ≤ x0) (k : WP PR d 131 12 [vA x0] [] (sSet (sNew S 20 7 7) x0 2) (zr M (sN S + 1)) Q) : WP PR d 131 0 [vA x0] [] S M Q := by
  refine WP.bl 6 12 rfl ?_
  exact And.intro (hc) (And.intro (⟨by decide, by decide⟩) (And.intro (⟨ho1, ho2⟩) (k)))
set_option maxRecDepth 100000 in
theorem n_X9_init_12 {d : Nat} {S : mSh} {M : mMem} {Q : Option mV → mSh → mMem → Prop} {x0 : Int} (ho1 : isO (sNew S 20 9390 9390) x0 9) (ho2 : sN S + 1 = x0 + 2) (k : WP PR d 131 21 [vA x0] [] (sSet (sNew S 20 9390 9390) x0 3) (zr M (sN S + 1)) Q) : WP PR d 131 12 [vA x0] [] S M Q := by
  refine WP.bl 4 21 rfl ?_
  exact And.intro (⟨by decide, by decide⟩) (And.intro (⟨ho1, ho2⟩) (k))
set_option maxRecDepth 100000 in
theorem n_X9_init_21 {d : Nat} {S : mSh} {M : mMem} {Q : Option mV → mSh → mMem → Prop} {x0 : Int} (ho1 : isO (sNew S 20 18780 18780) x0 9) (ho2 : sN S + 1 = x0 + 3) (k : WP PR d 131 30 [vA x0] [] (sSet (sNew S 20 18780 18780) x0 4) (zr M (sN S + 1)) Q) : WP PR d 131 21 [vA x0] [] S M Q := by
  refine WP.bl 4 30 rfl ?_
  exact And.intro (⟨by decide, by decide⟩) (And.intro (⟨ho1, ho2⟩) (k))
set_option maxRecDepth 100000 in
theorem n_X9_init_30 {d : Nat} {S : mSh} {M : mMem} {Q : Option mV → mSh → mMem → Prop} {x0 : Int} (ho1 : isO (sNew S 22 2 2) x0 9) (ho2 : sN S + 1 = x0 + 4) (k : WP PR d 131 37 [vA x0] [] (sSet (sNew S 22 2 2) x0 5) (zr M (sN S + 1)) Q) : WP PR d 131 30 [vA x0] [] S M Q := by
  refine WP.bl 4 37 rfl ?_
  exact And.intro (⟨by decide, by decide⟩) (And.intro (⟨ho1, ho2⟩) (k))
set_option maxRecDepth 100000 in
theorem n_X9_init_37 {d : Nat} {S : mSh} {M : mMem} {Q : Option mV → mSh → mMem → Prop} {x0 : Int} (ho1 : isO (sNew S 20 2970 2970) x0 9) (ho2 : sN S + 1 = x0 + 5) (k : WP PR d 131 46 [vA x0] [] (sSet (sNew S 20 2970 2970) x0 6) (zr M (sN S + 1)) Q) : WP PR d 131 37 [vA x0] [] S M Q := by
  refine WP.bl 4 46 rfl ?_
  exact And.intro (⟨by decide, by decide⟩) (And.intro (⟨ho1, ho2⟩) (k))
set_option maxRecDepth 100000 in
theorem n_X9_init_46 {d : Nat} {S : mSh} {M : mMem} {Q : Option mV → mSh → mMem → Prop} {x0 : Int} (ho1 : isO (sNew S 20 16 16) x0 9) (ho2 : sN S + 1 = x0 + 6) (k : WP PR d 131 54 [vA x0] [] (sSet (sNew S 20 16 16) x0 7) (zr M (sN S + 1)) Q) : WP PR d 131 46 [vA x0] [] S M Q := by
  refine WP.bl 4 54 rfl ?_
  exact And.intro (⟨by decide, by decide⟩) (And.intro (⟨ho1, ho2⟩) (k))
set_option maxRecDepth 100000 in
theorem n_X9_init_54 {d : Nat} {S : mSh} {M : mMem} {Q : Option mV → mSh → mMem → Prop} {x0 : Int} (ho1 : isO (sNew S 20 2640 2640) x0 9) (ho2 : sN S + 1 = x0 + 7) (k : WP PR d 131 63 [vA x0] [] (sSet (sNew S 20 2640 2640) x0 9) (zr M (sN S + 1)) Q) : WP PR d 131 54 [vA x0] [] S M Q := by
  refine WP.bl 4 63 rfl ?_
  exact And.intro (⟨by decide, by decide⟩) (And.intro (⟨ho1, ho2⟩) (k))
set_option maxRecDepth 100000 in
theorem n_X9_init_63 {d : Nat} {S : mSh} {M : mMem} {Q : Option mV → mSh → mMem → Prop} {x0 : Int} (ho1 : isO (sNew S 20 16 16) x0 9) (ho2 : sN S + 1 = x0 + 8) (k : WP PR d 131 71 [vA x0] [] (sSet (sNew S 20 16 16) x0 10) (zr M (sN S + 1)) Q) : WP PR d 131 63 [vA x0] [] S M Q := by
  refine WP.bl 4 71 rfl ?_
  exact And.intro (⟨by decide, by decide⟩) (And.intro (⟨ho1, ho2⟩) (k))
set_option maxRecDepth 100000 in
theorem n_X9_init_71 {d : Nat} {S : mSh} {M : mMem} {Q : Option mV → mSh → mMem → Prop} {x0 : Int} (ho1 : isO (sNew S 20 400 400) x0 9) (ho2 : sN S + 1 = x0 + 9) (k : WP PR d 131 80 [vA x0] [] (sSet (sNew S 20 400 400) x0 12) (zr M (sN S + 1)) Q) : WP PR d 131 71 [vA x0] [] S M Q := by
  refine WP.bl 4 80 rfl ?_
  exact And.intro (⟨by decide, by decide⟩) (And.intro (⟨ho1, ho2⟩) (k))
set_option maxRecDepth 100000 in
theorem n_X9_init_80 {d : Nat} {S : mSh} {M : mMem} {Q : Option mV → mSh → mMem → Prop} {x0 : Int} (ho1 : isO S x0 9) (k : WP PR d 131 85 [vA x0] [] S (up M x0 18 (-1)) Q) : WP PR d 131 80 [vA x0] [] S M Q := by
  refine WP.bl 3 85 rfl ?_
  exact And.intro (ho1) (k)
set_option maxRecDepth 100000 in
theorem n_X9_init_85 {d : Nat} {S : mSh} {M : mMem} {Q : Option mV → mSh → mMem → Prop} {x0 : Int} (ho1 : isO (sNew S 20 96 96) x0 9) (ho2 : sN S + 1 = x0 + 10) (k : WP PR d 131 93 [vA x0] [] (sSet (sNew S 20 96 96) x0 22) (zr M (sN S + 1)) Q) : WP PR d 131 85 [vA x0] [] S M Q := by
  refine WP.bl 4 93 rfl ?_
  exact And.intro (⟨by decide, by decide⟩) (And.intro (⟨ho1, ho2⟩) (k))
set_option maxRecDepth 100000 in
theorem n_X9_init_93 {d : Nat} {S : mSh} {M : mMem} {Q : Option mV → mSh → mMem → Prop} {x0 : Int} (ho1 : isO (sNew S 20 400 400) x0 9) (ho2 : sN S + 1 = x0 + 11) (k : WP PR d 131 102 [vA x0] [] (sSet (sNew S 20 400 400) x0 24) (zr M (sN S + 1)) Q) : WP PR d 131 93 [vA x0] [] S M Q := by
  refine WP.bl 4 102 rfl ?_
  exact And.intro (⟨by decide, by decide⟩) (And.intro (⟨ho1, ho2⟩) (k))
set_option maxRecDepth 100000 in
theorem n_X9_init_102 {d : Nat} {S : mSh} {M : mMem} {Q : Option mV → mSh → mMem → Prop} {x0 : Int} (ho1 : isO (sNew S 20 400 400) x0 9) (ho2 : sN S + 1 = x0 + 12) (k : WP PR d 131 111 [vA x0] [] (sSet (sNew S 20 400 400) x0 25) (zr M (sN S + 1)) Q) : WP PR d 131 102 [vA x0] [] S M Q := by
  refine WP.bl 4 111 rfl ?_
  exact And.intro (⟨by decide, by decide⟩) (And.intro (⟨ho1, ho2⟩) (k))
set_option maxRecDepth 100000 in
theorem n_X9_init_111 {d : Nat} {S : mSh} {M : mMem} {Q : Option mV → mSh → mMem → Prop} {x0 : Int} (ho1 : isO (sNew S 20 400 400) x0 9) (ho2 : sN S + 1 = x0 + 13) (k : WP PR d 131 120 [vA x0] [] (sSet (sNew S 20 400 400) x0 27) (zr M (sN S + 1)) Q) : WP PR d 131 111 [vA x0] [] S M Q := by
  refine WP.bl 4 120 rfl ?_
  exact And.intro (⟨by decide, by decide⟩) (And.intro (⟨ho1, ho2⟩) (k))
set_option maxRecDepth 100000 in
theorem n_X9_init_120 {d : Nat} {S : mSh} {M : mMem} {Q : Option mV → mSh → mMem → Prop} {x0 : Int} (ho1 : isO (sNew S 20 400 400) x0 9) (ho2 : sN S + 1 = x0 + 14) (k : WP PR d 131 129 [vA x0] [] (sSet (sNew S 20 400 400) x0 28) (zr M (sN S + 1)) Q) : WP PR d 131 120 [vA x0] [] S M Q := by
  refine WP.bl 4 129 rfl ?_
  exact And.intro (⟨by decide, by decide⟩) (And.intro (⟨ho1, ho2⟩) (k))
set_option maxRecDepth 100000 in
theorem n_X9_init_129 {d : Nat} {S : mSh} {M : mMem} {Q : Option mV → mSh → mMem → Prop} {x0 : Int} (ho1 : isO (sNew S 21 7 7) (sN S + 1) 21) (ho2 : isO (sNew S 21 7 7) (sN S + 1) 21) (ho3 : isO (sNew S 21 7 7) (sN S + 1) 21) (ho4 : isO (sNew S 21 7 7) (sN S + 1) 21) (ho5 : isO (sNew S 21 7 7) (sN S + 1) 21) (ho6 : isO (sNew S 21 7 7) (sN S + 1) 21) (ho7 : isO (sNew S 21 7 7) (sN S + 1) 21) (ho8 : isO (sNew S 21 7 7) x0 9) (ho9 : sN S + 1 = x0 + 15) (hc : ((0 : Int) ≤ 0 ∧ 0 < sL (sNew S 21 7 7) (sN S + 1)) ∧ ((0 : Int) ≤ 1 ∧ 1 < sL (sNew S 21 7 7) (sN S + 1)) ∧ ((0 : Int) ≤ 2 ∧ 2 < sL (sNew S 21 7 7) (sN S + 1)) ∧ ((0 : Int) ≤ 3 ∧ 3 < sL (sNew S 21 7 7) (sN S + 1)) ∧ ((0 : Int) ≤ 4 ∧ 4 < sL (sNew S 21 7 7) (sN S + 1)) ∧ ((0 : Int) ≤ 5 ∧ 5 < sL (sNew S 21 7 7) (sN S + 1)) ∧ ((0 : Int) ≤ 6 ∧ 6 < sL (sNew S 21 7 7) (sN S + 1))) (k : WP PR d 131 180 [vA x0] [] (sSet (sNew S 21 7 7) x0 31) (up (up (up (up (up (up (up (zr M (sN S + 1)) (sN S + 1) 0 99947) (sN S + 1) 1 664754) (sN S + 1) 2 632645) (sN S + 1) 3 218508) (sN S + 1) 4 431150) (sN S + 1) 5 824370) (sN S + 1) 6 441828) Q) : WP PR d 131 129 [vA x0] [] S M Q := by
  refine WP.bl 32 180 rfl ?_
  exact And.intro (⟨by decide, by decide⟩) (And.intro (inA_of (ho1) (rfl) hc.1) (And.intro (inA_of (ho2) (rfl) hc.2.1) (And.intro (inA_of (ho3) (rfl) hc.2.2.1) (And.intro (inA_of (ho4) (rfl) hc.2.2.2.1) (And.intro (inA_of (ho5) (rfl) hc.2.2.2.2.1) (And.intro (inA_of (ho6) (rfl) hc.2.2.2.2.2.1) (And.intro (inA_of (ho7) (rfl) hc.2.2.2.2.2.2) (And.intro (⟨ho8, ho9⟩) (k)))))))))
set_option maxRecDepth 100000 in
theorem n_X9_init_180 {d : Nat} {S : mSh} {M : mMem} {Q : Option mV → mSh → mMem → Prop} {x0 : Int} (ho1 : isO (sNew S 21 7 7) (sN S + 1) 21) (ho2 : isO (sNew S 21 7 7) (sN S + 1) 21) (ho3 : isO (sNew S 21 7 7) (sN S + 1) 21) (ho4 : isO (sNew S 21 7 7) (sN S + 1) 21) (ho5 : isO (sNew S 21 7 7) (sN S + 1) 21) (ho6 : isO (sNew S 21 7 7) (sN S + 1) 21) (ho7 : isO (sNew S 21 7 7) (sN S + 1) 21) (ho8 : isO (sNew S 21 7 7) x0 9) (ho9 : sN S + 1 = x0 + 16) (hc : ((0 : Int) ≤ 0 ∧ 0 < sL (sNew S 21 7 7) (sN S + 1)) ∧ ((0 : Int) ≤ 1 ∧ 1 < sL (sNew S 21 7 7) (sN S + 1)) ∧ ((0 : Int) ≤ 2 ∧ 2 < sL (sNew S 21 7 7) (sN S + 1)) ∧ ((0 : Int) ≤ 3 ∧ 3 < sL (sNew S 21 7 7) (sN S + 1)) ∧ ((0 : Int) ≤ 4 ∧ 4 < sL (sNew S 21 7 7) (sN S + 1)) ∧ ((0 : Int) ≤ 5 ∧ 5 < sL (sNew S 21 7 7) (sN S + 1)) ∧ ((0 : Int) ≤ 6 ∧ 6 < sL (sNew S 21 7 7) (sN S + 1))) (k : WP PR d 131 231 [vA x0] [] (sSet (sNew S 21 7 7) x0 32) (up (up (up (up (up (up (up (zr M (sN S + 1)) (sN S + 1) 0 824370) (sN S + 1) 1 146885) (sN S + 1) 2 404362868) (sN S + 1) 3 2672439460) (sN S + 1) 4 218508) (sN S + 1) 5 605677) (sN S + 1) 6 431150) Q) : WP PR d 131 180 [vA x0] [] S M Q := by
  refine WP.bl 32 231 rfl ?_
  exact And.intro (⟨by decide, by decide⟩) (And.intro (inA_of (ho1) (rfl) hc.1) (And.intro (inA_of (ho2) (rfl) hc.2.1) (And.intro (inA_of (ho3) (rfl) hc.2.2.1) (And.intro (inA_of (ho4) (rfl) hc.2.2.2.1) (And.intro (inA_of (ho5) (rfl) hc.2.2.2.2.1) (And.intro (inA_of (ho6) (rfl) hc.2.2.2.2.2.1) (And.intro (inA_of (ho7) (rfl) hc.2.2.2.2.2.2) (And.intro (⟨ho8, ho9⟩) (k)))))))))
set_option maxRecDepth 100000 in
theorem n_X9_init_231 {d : Nat} {S : mSh} {M : mMem} {Q : Option mV → mSh → mMem → Prop} {x0 : Int} (ho1 : isO (sNew S 21 3 3) (sN S + 1) 21) (ho2 : isO (sNew S 21 3 3) (sN S + 1) 21) (ho3 : isO (sNew S 21 3 3) (sN S + 1) 21) (ho4 : isO (sNew S 21 3 3) x0 9) (ho5 : sN S + 1 = x0 + 17) (hc : ((0 : Int) ≤ 0 ∧ 0 < sL (sNew S 21 3 3) (sN S + 1)) ∧ ((0 : Int) ≤ 1 ∧ 1 < sL (sNew S 21 3 3) (sN S + 1)) ∧ ((0 : Int) ≤ 2 ∧ 2 < sL (sNew S 21 3 3) (sN S + 1))) (k : WP PR d 131 256 [vA x0] [] (sSet (sNew S 21 3 3) x0 33) (up (up (up (zr M (sN S + 1)) (sN S + 1) 0 13094067) (sN S + 1) 1 848474259) (sN S + 1) 2 67155) Q) : WP PR d 131 231 [vA x0] [] S M Q := by
  refine WP.bl 16 256 rfl ?_
  exact And.intro (⟨by decide, by decide⟩) (And.intro (inA_of (ho1) (rfl) hc.1) (And.intro (inA_of (ho2) (rfl) hc.2.1) (And.intro (inA_of (ho3) (rfl) hc.2.2) (And.intro (⟨ho4, ho5⟩) (k)))))
set_option maxRecDepth 100000 in
theorem n_X9_init_256 {d : Nat} {S : mSh} {M : mMem} {Q : Option mV → mSh → mMem → Prop} {x0 : Int} (ho1 : isO (sNew S 21 13 13) x0 9) (ho2 : sN S + 1 = x0 + 18) (k : WP PR d 131 264 [vA x0] [] (sSet (sNew S 21 13 13) x0 35) (zr M (sN S + 1)) Q) : WP PR d 131 256 [vA x0] [] S M Q := by
  refine WP.bl 4 264 rfl ?_
  exact And.intro (⟨by decide, by decide⟩) (And.intro (⟨ho1, ho2⟩) (k))
set_option maxRecDepth 100000 in
theorem n_X9_init_264 {d : Nat} {S : mSh} {M : mMem} {Q : Option mV → mSh → mMem → Prop} {x0 : Int} (ho1 : isO (sNew S 21 13 13) x0 9) (ho2 : sN S + 1 = x0 + 19) (k : WP PR d 131 272 [vA x0] [] (sSet (sNew S 21 13 13) x0 36) (zr M (sN S + 1)) Q) : WP PR d 131 264 [vA x0] [] S M Q := by
  refine WP.bl 4 272 rfl ?_
  exact And.intro (⟨by decide, by decide⟩) (And.intro (⟨ho1, ho2⟩) (k))
set_option maxRecDepth 100000 in
theorem n_X9_init_272 {d : Nat} {S : mSh} {M : mMem} {Q : Option mV → mSh → mMem → Prop} {x0 : Int} (ho1 : isO (sNew S 21 400 400) x0 9) (ho2 : sN S + 1 = x0 + 20) (k : WP PR d 131 281 [vA x0] [] (sSet (sNew S 21 400 400) x0 37) (zr M (sN S + 1)) Q) : WP PR d 131 272 [vA x0] [] S M Q := by
  refine WP.bl 4 281 rfl ?_
  exact And.intro (⟨by decide, by decide⟩) (And.intro (⟨ho1, ho2⟩) (k))
set_option maxRecDepth 100000 in
theorem n_X9_init_281 {d : Nat} {S : mSh} {M : mMem} {Q : Option mV → mSh → mMem → Prop} {x0 : Int} (ho1 : isO (sNew S 20 20 20) x0 9) (ho2 : sN S + 1 = x0 + 21) (k : WP PR d 131 289 [vA x0] [] (sSet (sNew S 20 20 20) x0 41) (zr M (sN S + 1)) Q) : WP PR d 131 281 [vA x0] [] S M Q := by
  refine WP.bl 4 289 rfl ?_
  exact And.intro (⟨by decide, by decide⟩) (And.intro (⟨ho1, ho2⟩) (k))
set_option maxRecDepth 100000 in
theorem n_X9_init_289 {d : Nat} {S : mSh} {M : mMem} {Q : Option mV → mSh → mMem → Prop} {x0 : Int} (ho1 : isO (sNew S 21 4 4) (sN S + 1) 21) (ho2 : isO (sNew S 21 4 4) (sN S + 1) 21) (ho3 : isO (sNew S 21 4 4) (sN S + 1) 21) (ho4 : isO (sNew S 21 4 4) (sN S + 1) 21) (ho5 : isO (sNew S 21 4 4) x0 9) (ho6 : sN S + 1 = x0 + 22) (hc : ((0 : Int) ≤ 0 ∧ 0 < sL (sNew S 21 4 4) (sN S + 1)) ∧ ((0 : Int) ≤ 1 ∧ 1 < sL (sNew S 21 4 4) (sN S + 1)) ∧ ((0 : Int) ≤ 2 ∧ 2 < sL (sNew S 21 4 4) (sN S + 1)) ∧ ((0 : Int) ≤ 3 ∧ 3 < sL (sNew S 21 4 4) (sN S + 1))) (k : WP PR d 131 320 [vA x0] [] (sSet (sNew S 21 4 4) x0 44) (up (up (up (up (zr M (sN S + 1)) (sN S + 1) 0 540338) (sN S + 1) 1 590955) (sN S + 1) 2 83513733) (sN S + 1) 3 525939) Q) : WP PR d 131 289 [vA x0] [] S M Q := by
  refine WP.bl 20 320 rfl ?_
  exact And.intro (⟨by decide, by decide⟩) (And.intro (inA_of (ho1) (rfl) hc.1) (And.intro (inA_of (ho2) (rfl) hc.2.1) (And.intro (inA_of (ho3) (rfl) hc.2.2.1) (And.intro (inA_of (ho4) (rfl) hc.2.2.2) (And.intro (⟨ho5, ho6⟩) (k))))))
set_option maxRecDepth 100000 in
theorem n_X9_init_320 {d : Nat} {S : mSh} {M : mMem} {Q : Option mV → mSh → mMem → Prop} {x0 : Int} (ho1 : isO (sNew S 20 120 120) x0 9) (ho2 : sN S + 1 = x0 + 23) (k : WP PR d 131 328 [vA x0] [] (sSet (sNew S 20 120 120) x0 45) (zr M (sN S + 1)) Q) : WP PR d 131 320 [vA x0] [] S M Q := by
  refine WP.bl 4 328 rfl ?_
  exact And.intro (⟨by decide, by decide⟩) (And.intro (⟨ho1, ho2⟩) (k))
set_option maxRecDepth 100000 in
theorem n_X9_init_328 {d : Nat} {S : mSh} {M : mMem} {Q : Option mV → mSh → mMem → Prop} {x0 : Int} (ho1 : isO S x0 9) (k : WP PR d 131 333 [vA x0] [] S (up M x0 48 (-1)) Q) : WP PR d 131 328 [vA x0] [] S M Q := by
  refine WP.bl 3 333 rfl ?_
  exact And.intro (ho1) (k)
set_option maxRecDepth 100000 in
theorem n_X9_init_333 {d : Nat} {S : mSh} {M : mMem} {Q : Option mV → mSh → mMem → Prop} {x0 : Int} (ho1 : isO (sNew S 21 21 21) x0 9) (ho2 : sN S + 1 = x0 + 24) (k : WP PR d 131 341 [vA x0] [] (sSet (sNew S 21 21 21) x0 51) (zr M (sN S + 1)) Q) : WP PR d 131 333 [vA x0] [] S M Q := by
  refine WP.bl 4 341 rfl ?_
  exact And.intro (⟨by decide, by decide⟩) (And.intro (⟨ho1, ho2⟩) (k))
set_option maxRecDepth 100000 in
theorem n_X9_init_341 {d : Nat} {S : mSh} {M : mMem} {Q : Option mV → mSh → mMem → Prop} {x0 : Int} (ho1 : isO (sNew S 20 160 160) x0 9) (ho2 : sN S + 1 = x0 + 25) (k : WP PR d 131 350 [vA x0] [] (sSet (sNew S 20 160 160) x0 53) (zr M (sN S + 1)) Q) : WP PR d 131 341 [vA x0] [] S M Q := by
  refine WP.bl 4 350 rfl ?_
  exact And.intro (⟨by decide, by decide⟩) (And.intro (⟨ho1, ho2⟩) (k))
set_option maxRecDepth 100000 in
theorem n_X9_init_350 {d : Nat} {S : mSh} {M : mMem} {Q : Option mV → mSh → mMem → Prop} {x0 : Int} (ho1 : isO S x0 9) (k : WP PR d 131 355 [vA x0] [] S (up M x0 54 (-1)) Q) : WP PR d 131 350 [vA x0] [] S M Q := by
  refine WP.bl 3 355 rfl ?_
  exact And.intro (ho1) (k)
set_option maxRecDepth 100000 in
theorem n_X9_init_355 {d : Nat} {S : mSh} {M : mMem} {Q : Option mV → mSh → mMem → Prop} {x0 : Int} (ho1 : isO S x0 9) (ho2 : sF S x0 3 = 1) (ho3 : isO S (x0 + 2) 20) (ho4 : isO S x0 9) (ho5 : sF S x0 3 = 1) (ho6 : isO S (x0 + 2) 20) (ho7 : isO S x0 9) (ho8 : sF S x0 3 = 1) (ho9 : isO S (x0 + 2) 20) (hc : ((0 : Int) ≤ 4 ∧ 4 < sL S (x0 + 2)) ∧ ((0 : Int) ≤ 6 ∧ 6 < sL S (x0 + 2)) ∧ ((0 : Int) ≤ 8 ∧ 8 < sL S (x0 + 2))) (k : Q (none) S (up (up (up M (x0 + 2) 4 (-1)) (x0 + 2) 6 1) (x0 + 2) 8 85)) : WP PR d 131 355 [vA x0] [] S M Q := by
  refine WP.re 15 379 .return_ (0, 0, 0, 0) _ rfl ?_
  exact And.intro (⟨ho1, ho2⟩) (And.intro (inA_of (ho3) (rfl) hc.1) (And.intro (⟨ho4, ho5⟩) (And.intro (inA_of (ho6) (rfl) hc.2.1) (And.intro (⟨ho7, ho8⟩) (And.intro (inA_of (ho9) (rfl) hc.2.2) (⟨rfl, rfl, trivial, k⟩))))))
