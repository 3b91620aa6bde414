/-! Blocks of the constructors (by program: wip/whole/gen11.py). -/
-- SoleraCellar$Asker.<init>(LSoleraCellar$Stock;)V
set_option maxRecDepth 100000 in
theorem b_X0_init_0 {d : Nat} {S : mSh} {M : mMem} {Q : Option mV → mSh → mMem → Prop} {x0 x1 : Int} (ho1 : isO (sNew S 20 51 51) x0 0) (ho2 : sN S + 1 = x0 + 1) (ho3 : isO (sSet (sNew S 20 51 51) x0 0) x0 0) (ho4 : isO (sSet (sNew S 20 51 51) x0 0) x0 0) (hc : 1 ≤ x0) (k : Q (none) (sSet (sNew S 20 51 51) x0 0) (up (up (zr M (sN S + 1)) x0 5 (-1)) x0 2 x1)) : WP PR d 0 0 [vA x0, vA x1] [] S M Q := by
  refine WP.re 12 22 .return_ (0, 0, 0, 0) _ rfl ?_
  exact And.intro (hc) (And.intro (⟨by decide, by decide⟩) (And.intro (⟨ho1, ho2⟩) (And.intro (ho3) (And.intro (ho4) (⟨rfl, rfl, trivial, k⟩)))))
-- SoleraCellar$History.<init>()V
set_option maxRecDepth 100000 in
theorem b_X1_init_0 {d : Nat} {S : mSh} {M : mMem} {Q : Option mV → mSh → mMem → Prop} {x0 : Int} (ho1 : isO (sNew S 24 17 17) x0 1) (ho2 : sN S + 1 = x0 + 1) (ho3 : isO (sNew (sSet (sNew S 24 17 17) x0 0) 20 17 17) x0 1) (ho4 : sN (sSet (sNew S 24 17 17) x0 0) + 1 = x0 + 2) (hc : 1 ≤ x0) (k : WP PR d 8 23 [vA x0, vI 0] [] (sSet (sNew (sSet (sNew S 24 17 17) x0 0) 20 17 17) x0 1) (zr (zr M (sN S + 1)) (sN (sSet (sNew S 24 17 17) x0 0) + 1)) Q) : WP PR d 8 0 [vA x0, vU] [] S M Q := by
  refine WP.bl 12 23 rfl ?_
  exact And.intro (hc) (And.intro (⟨by decide, by decide⟩) (And.intro (⟨ho1, ho2⟩) (And.intro (⟨by decide, by decide⟩) (And.intro (⟨ho3, ho4⟩) (k)))))
set_option maxRecDepth 100000 in
theorem b_X1_init_23 {d : Nat} {S : mSh} {M : mMem} {Q : Option mV → mSh → mMem → Prop} {x0 x1 : Int} (kt : 17 ≤ x1 → WP PR d 8 48 [vA x0, vI x1] [] S M Q) (kf : x1 < 17 → WP PR d 8 29 [vA x0, vI x1] [] S M Q) : WP PR d 8 23 [vA x0, vI x1] [] S M Q := by
  refine WP.if2 2 29 26 .ge 22 (0, 0, 0, 0) 48 rfl rfl ?_
  exact ⟨kt, fun hc => kf (Int.not_le.mp hc)⟩
set_option maxRecDepth 100000 in
theorem b_X1_init_29 {d : Nat} {S : mSh} {M : mMem} {Q : Option mV → mSh → mMem → Prop} {x0 x1 : Int} (ho1 : isO S x0 1) (ho2 : sF S x0 0 = 1) (ho3 : isO (sNew S 4 0 8) (sN S + 1) 4) (k : WP PR d 41 0 [vA (sN S + 1)] [] (sNew S 4 0 8) (zr M (sN S + 1)) (fun r S2 M2 => WP PR (d + 1) 8 41 [vA x0, vI x1] (r.toList ++ [vA (sN S + 1), vI x1, vA (x0 + 1)]) S2 M2 Q)) : WP PR (d + 1) 8 29 [vA x0, vI x1] [] S M Q := by
  refine WP.ca 5 41 38 (.invokespecial 21) (0, 41, 1, 0) rfl ?_
  exact And.intro (⟨ho1, ho2⟩) (⟨rfl, rfl, rfl, ho3, rfl, k⟩)
set_option maxRecDepth 100000 in
theorem b_X1_init_41 {d : Nat} {S : mSh} {M : mMem} {Q : Option mV → mSh → mMem → Prop} {x0 x1 s0 s1 s2 : Int} (ho1 : isO S s0 24) (ho2 : isO S s2 4) (hc : (0 ≤ s1 ∧ s1 < sL S s0) ∧ R32 (x1 + 1)) (k : WP PR d 8 23 [vA x0, vI (x1 + 1)] [] S (up M s0 s1 s2) Q) : WP PR d 8 41 [vA x0, vI x1] [vA s2, vI s1, vA s0] S M Q := by
  refine WP.gt 2 45 (-22) (0, 0, 0, 0) _ 23 rfl rfl ?_
  exact And.intro (⟨inA_of (ho1) (rfl) hc.1, ho2⟩) (And.intro (hc.2) (k))
set_option maxRecDepth 100000 in
theorem b_X1_init_48 {d : Nat} {S : mSh} {M : mMem} {Q : Option mV → mSh → mMem → Prop} {x0 x1 : Int} (k : Q (none) S M) : WP PR d 8 48 [vA x0, vI x1] [] S M Q := by
  refine WP.re 0 48 .return_ (0, 0, 0, 0) _ rfl ?_
  exact ⟨rfl, rfl, trivial, k⟩
-- SoleraCellar$Reader.<init>(LSoleraCellar$Tape;)V
set_option maxRecDepth 100000 in
theorem b_X2_init_0 {d : Nat} {S : mSh} {M : mMem} {Q : Option mV → mSh → mMem → Prop} {x0 x1 : Int} (ho1 : isO (sNew S 6 0 4) (sN S + 1) 6) (hc : 1 ≤ x0) (k : WP PR d 58 0 [vA (sN S + 1), vI 12, vI 400] [] (sNew S 6 0 4) (zr M (sN S + 1)) (fun r S2 M2 => WP PR (d + 1) 13 17 [vA x0, vA x1] (r.toList ++ [vA (sN S + 1), vA x0]) S2 M2 Q)) : WP PR (d + 1) 13 0 [vA x0, vA x1] [] S M Q := by
  refine WP.ca 7 17 14 (.invokespecial 11) (0, 58, 0, 0) rfl ?_
  exact And.intro (hc) (⟨rfl, rfl, rfl, ho1, rfl, k⟩)
set_option maxRecDepth 100000 in
theorem b_X2_init_17 {d : Nat} {S : mSh} {M : mMem} {Q : Option mV → mSh → mMem → Prop} {x0 x1 s0 s1 : Int} (ho1 : isO S s0 2) (ho2 : s1 = s0 + 1) (ho3 : isO (sSet S s0 1) x0 2) (ho4 : x1 = x0 + (-2)) (k : Q (none) (sSet (sSet S s0 1) x0 0) M) : WP PR d 13 17 [vA x0, vA x1] [vA s1, vA s0] S M Q := by
  refine WP.re 4 25 .return_ (0, 0, 0, 0) _ rfl ?_
  exact And.intro (⟨ho1, ho2⟩) (And.intro (⟨ho3, ho4⟩) (⟨rfl, rfl, trivial, k⟩))
-- SoleraCellar$State.<init>()V
set_option maxRecDepth 100000 in
theorem b_X3_init_0 {d : Nat} {S : mSh} {M : mMem} {Q : Option mV → mSh → mMem → Prop} {x0 : Int} (ho1 : isO (sNew S 4 0 8) (sN S + 1) 4) (hc : 1 ≤ x0) (k : WP PR d 41 0 [vA (sN S + 1)] [] (sNew S 4 0 8) (zr M (sN S + 1)) (fun r S2 M2 => WP PR (d + 1) 35 12 [vA x0, vU] (r.toList ++ [vA (sN S + 1), vA x0]) S2 M2 Q)) : WP PR (d + 1) 35 0 [vA x0, vU] [] S M Q := by
  refine WP.ca 5 12 9 (.invokespecial 11) (0, 41, 1, 0) rfl ?_
  exact And.intro (hc) (⟨rfl, rfl, rfl, ho1, rfl, k⟩)
set_option maxRecDepth 100000 in
theorem b_X3_init_12 {d : Nat} {S : mSh} {M : mMem} {Q : Option mV → mSh → mMem → Prop} {x0 s0 s1 : Int} {u1 : mV} (ho1 : isO S s0 3) (ho2 : s1 = s0 + 1) (ho3 : isO (sNew (sSet S s0 0) 6 0 4) (sN (sSet S s0 0) + 1) 6) (k : WP PR d 58 0 [vA (sN (sSet S s0 0) + 1), vI 0, vI 0] [] (sNew (sSet S s0 0) 6 0 4) (zr M (sN (sSet S s0 0) + 1)) (fun r S2 M2 => WP PR (d + 1) 35 25 [vA x0, u1] (r.toList ++ [vA (sN (sSet S s0 0) + 1), vA x0]) S2 M2 Q)) : WP PR (d + 1) 35 12 [vA x0, u1] [vA s1, vA s0] S M Q := by
  refine WP.ca 6 25 22 (.invokespecial 20) (0, 58, 0, 0) rfl ?_
  exact And.intro (⟨ho1, ho2⟩) (⟨rfl, rfl, rfl, ho3, rfl, k⟩)
set_option maxRecDepth 100000 in
theorem b_X3_init_25 {d : Nat} {S : mSh} {M : mMem} {Q : Option mV → mSh → mMem → Prop} {x0 s0 s1 : Int} {u1 : mV} (ho1 : isO S s0 3) (ho2 : s1 = s0 + 8) (ho3 : isO (sNew (sSet S s0 1) 23 6 6) x0 3) (ho4 : sN (sSet S s0 1) + 1 = x0 + 11) (ho5 : isO (sNew (sSet (sNew (sSet S s0 1) 23 6 6) x0 2) 23 4 4) x0 3) (ho6 : sN (sSet (sNew (sSet S s0 1) 23 6 6) x0 2) + 1 = x0 + 12) (ho7 : isO (sNew (sSet (sNew (sSet (sNew (sSet S s0 1) 23 6 6) x0 2) 23 4 4) x0 3) 20 6 6) x0 3) (ho8 : sN (sSet (sNew (sSet (sNew (sSet S s0 1) 23 6 6) x0 2) 23 4 4) x0 3) + 1 = x0 + 13) (ho9 : isO (sNew (sSet (sNew (sSet (sNew (sSet (sNew (sSet S s0 1) 23 6 6) x0 2) 23 4 4) x0 3) 20 6 6) x0 4) 20 6 6) x0 3) (ho10 : sN (sSet (sNew (sSet (sNew (sSet (sNew (sSet S s0 1) 23 6 6) x0 2) 23 4 4) x0 3) 20 6 6) x0 4) + 1 = x0 + 14) (ho11 : isO (sSet (sNew (sSet (sNew (sSet (sNew (sSet (sNew (sSet S s0 1) 23 6 6) x0 2) 23 4 4) x0 3) 20 6 6) x0 4) 20 6 6) x0 5) x0 3) (k : WP PR d 35 68 [vA x0, vI 0] [] (sSet (sNew (sSet (sNew (sSet (sNew (sSet (sNew (sSet S s0 1) 23 6 6) x0 2) 23 4 4) x0 3) 20 6 6) x0 4) 20 6 6) x0 5) (up (zr (zr (zr (zr M (sN (sSet S s0 1) + 1)) (sN (sSet (sNew (sSet S s0 1) 23 6 6) x0 2) + 1)) (sN (sSet (sNew (sSet (sNew (sSet S s0 1) 23 6 6) x0 2) 23 4 4) x0 3) + 1)) (sN (sSet (sNew (sSet (sNew (sSet (sNew (sSet S s0 1) 23 6 6) x0 2) 23 4 4) x0 3) 20 6 6) x0 4) + 1)) x0 9 (-1)) Q) : WP PR d 35 25 [vA x0, u1] [vA s1, vA s0] S M Q := by
  refine WP.bl 22 68 rfl ?_
  exact And.intro (⟨ho1, ho2⟩) (And.intro (⟨by decide, by decide⟩) (And.intro (⟨ho3, ho4⟩) (And.intro (⟨by decide, by decide⟩) (And.intro (⟨ho5, ho6⟩) (And.intro (⟨by decide, by decide⟩) (And.intro (⟨ho7, ho8⟩) (And.intro (⟨by decide, by decide⟩) (And.intro (⟨ho9, ho10⟩) (And.intro (ho11) (k))))))))))
set_option maxRecDepth 100000 in
theorem b_X3_init_68 {d : Nat} {S : mSh} {M : mMem} {Q : Option mV → mSh → mMem → Prop} {x0 x1 : Int} (kt : 6 ≤ x1 → WP PR d 35 90 [vA x0, vI x1] [] S M Q) (kf : x1 < 6 → WP PR d 35 74 [vA x0, vI x1] [] S M Q) : WP PR d 35 68 [vA x0, vI x1] [] S M Q := by
  refine WP.if2 2 74 71 .ge 19 (0, 0, 0, 0) 90 rfl rfl ?_
  exact ⟨kt, fun hc => kf (Int.not_le.mp hc)⟩
set_option maxRecDepth 100000 in
theorem b_X3_init_74 {d : Nat} {S : mSh} {M : mMem} {Q : Option mV → mSh → mMem → Prop} {x0 x1 : Int} (ho1 : isO S x0 3) (ho2 : sF S x0 2 = 1) (ho3 : isO S x0 3) (ho4 : sF S x0 1 = 1) (ho5 : isO S (x0 + 11) 23) (ho6 : isO S (x0 + 8) 6) (hc : (0 ≤ x1 ∧ x1 < sL S (x0 + 11)) ∧ R32 (x1 + 1)) (k : WP PR d 35 68 [vA x0, vI (x1 + 1)] [] S (up M (x0 + 11) x1 (x0 + 8)) Q) : WP PR d 35 74 [vA x0, vI x1] [] S M Q := by
  refine WP.gt 7 87 (-19) (0, 0, 0, 0) _ 68 rfl rfl ?_
  exact And.intro (⟨ho1, ho2⟩) (And.intro (⟨ho3, ho4⟩) (And.intro (⟨inA_of (ho5) (rfl) hc.1, ho6⟩) (And.intro (hc.2) (k))))
set_option maxRecDepth 100000 in
theorem b_X3_init_90 {d : Nat} {S : mSh} {M : mMem} {Q : Option mV → mSh → mMem → Prop} {x0 x1 : Int} (k : WP PR d 35 92 [vA x0, vI 0] [] S M Q) : WP PR d 35 90 [vA x0, vI x1] [] S M Q := by
  refine WP.bl 2 92 rfl ?_
  exact k
set_option maxRecDepth 100000 in
theorem b_X3_init_92 {d : Nat} {S : mSh} {M : mMem} {Q : Option mV → mSh → mMem → Prop} {x0 x1 : Int} (kt : 4 ≤ x1 → WP PR d 35 113 [vA x0, vI x1] [] S M Q) (kf : x1 < 4 → WP PR d 35 97 [vA x0, vI x1] [] S M Q) : WP PR d 35 92 [vA x0, vI x1] [] S M Q := by
  refine WP.if2 2 97 94 .ge 19 (0, 0, 0, 0) 113 rfl rfl ?_
  exact ⟨kt, fun hc => kf (Int.not_le.mp hc)⟩
set_option maxRecDepth 100000 in
theorem b_X3_init_97 {d : Nat} {S : mSh} {M : mMem} {Q : Option mV → mSh → mMem → Prop} {x0 x1 : Int} (ho1 : isO S x0 3) (ho2 : sF S x0 3 = 1) (ho3 : isO S x0 3) (ho4 : sF S x0 1 = 1) (ho5 : isO S (x0 + 12) 23) (ho6 : isO S (x0 + 8) 6) (hc : (0 ≤ x1 ∧ x1 < sL S (x0 + 12)) ∧ R32 (x1 + 1)) (k : WP PR d 35 92 [vA x0, vI (x1 + 1)] [] S (up M (x0 + 12) x1 (x0 + 8)) Q) : WP PR d 35 97 [vA x0, vI x1] [] S M Q := by
  refine WP.gt 7 110 (-18) (0, 0, 0, 0) _ 92 rfl rfl ?_
  exact And.intro (⟨ho1, ho2⟩) (And.intro (⟨ho3, ho4⟩) (And.intro (⟨inA_of (ho5) (rfl) hc.1, ho6⟩) (And.intro (hc.2) (k))))
set_option maxRecDepth 100000 in
theorem b_X3_init_113 {d : Nat} {S : mSh} {M : mMem} {Q : Option mV → mSh → mMem → Prop} {x0 x1 : Int} (k : Q (none) S M) : WP PR d 35 113 [vA x0, vI x1] [] S M Q := by
  refine WP.re 0 113 .return_ (0, 0, 0, 0) _ rfl ?_
  exact ⟨rfl, rfl, trivial, k⟩
-- SoleraCellar$Stock.<init>()V
set_option maxRecDepth 100000 in
theorem b_X4_init_0 {d : Nat} {S : mSh} {M : mMem} {Q : Option mV → mSh → mMem → Prop} {x0 : Int} (ho1 : isO (sNew S 20 8 8) x0 4) (ho2 : sN S + 1 = x0 + 1) (ho3 : isO (sNew (sSet (sNew S 20 8 8) x0 0) 20 8 8) x0 4) (ho4 : sN (sSet (sNew S 20 8 8) x0 0) + 1 = x0 + 2) (ho5 : isO (sNew (sSet (sNew (sSet (sNew S 20 8 8) x0 0) 20 8 8) x0 1) 20 8 8) x0 4) (ho6 : sN (sSet (sNew (sSet (sNew S 20 8 8) x0 0) 20 8 8) x0 1) + 1 = x0 + 3) (ho7 : isO (sNew (sSet (sNew (sSet (sNew (sSet (sNew S 20 8 8) x0 0) 20 8 8) x0 1) 20 8 8) x0 2) 21 8 8) x0 4) (ho8 : sN (sSet (sNew (sSet (sNew (sSet (sNew S 20 8 8) x0 0) 20 8 8) x0 1) 20 8 8) x0 2) + 1 = x0 + 4) (ho9 : isO (sNew (sSet (sNew (sSet (sNew (sSet (sNew (sSet (sNew S 20 8 8) x0 0) 20 8 8) x0 1) 20 8 8) x0 2) 21 8 8) x0 3) 20 160 160) x0 4) (ho10 : sN (sSet (sNew (sSet (sNew (sSet (sNew (sSet (sNew S 20 8 8) x0 0) 20 8 8) x0 1) 20 8 8) x0 2) 21 8 8) x0 3) + 1 = x0 + 5) (ho11 : isO (sNew (sSet (sNew (sSet (sNew (sSet (sNew (sSet (sNew (sSet (sNew S 20 8 8) x0 0) 20 8 8) x0 1) 20 8 8) x0 2) 21 8 8) x0 3) 20 160 160) x0 4) 20 4 4) (sN (sSet (sNew (sSet (sNew (sSet (sNew (sSet (sNew (sSet (sNew S 20 8 8) x0 0) 20 8 8) x0 1) 20 8 8) x0 2) 21 8 8) x0 3) 20 160 160) x0 4) + 1) 20) (ho12 : isO (sNew (sSet (sNew (sSet (sNew (sSet (sNew (sSet (sNew (sSet (sNew S 20 8 8) x0 0) 20 8 8) x0 1) 20 8 8) x0 2) 21 8 8) x0 3) 20 160 160) x0 4) 20 4 4) (sN (sSet (sNew (sSet (sNew (sSet (sNew (sSet (sNew (sSet (sNew S 20 8 8) x0 0) 20 8 8) x0 1) 20 8 8) x0 2) 21 8 8) x0 3) 20 160 160) x0 4) + 1) 20) (ho13 : isO (sNew (sSet (sNew (sSet (sNew (sSet (sNew (sSet (sNew (sSet (sNew S 20 8 8) x0 0) 20 8 8) x0 1) 20 8 8) x0 2) 21 8 8) x0 3) 20 160 160) x0 4) 20 4 4) (sN (sSet (sNew (sSet (sNew (sSet (sNew (sSet (sNew (sSet (sNew S 20 8 8) x0 0) 20 8 8) x0 1) 20 8 8) x0 2) 21 8 8) x0 3) 20 160 160) x0 4) + 1) 20) (ho14 : isO (sNew (sSet (sNew (sSet (sNew (sSet (sNew (sSet (sNew (sSet (sNew S 20 8 8) x0 0) 20 8 8) x0 1) 20 8 8) x0 2) 21 8 8) x0 3) 20 160 160) x0 4) 20 4 4) (sN (sSet (sNew (sSet (sNew (sSet (sNew (sSet (sNew (sSet (sNew S 20 8 8) x0 0) 20 8 8) x0 1) 20 8 8) x0 2) 21 8 8) x0 3) 20 160 160) x0 4) + 1) 20) (ho15 : isO (sNew (sSet (sNew (sSet (sNew (sSet (sNew (sSet (sNew (sSet (sNew S 20 8 8) x0 0) 20 8 8) x0 1) 20 8 8) x0 2) 21 8 8) x0 3) 20 160 160) x0 4) 20 4 4) x0 4) (ho16 : sN (sSet (sNew (sSet (sNew (sSet (sNew (sSet (sNew (sSet (sNew S 20 8 8) x0 0) 20 8 8) x0 1) 20 8 8) x0 2) 21 8 8) x0 3) 20 160 160) x0 4) + 1 = x0 + 6) (hc : 1 ≤ x0 ∧ ((0 : Int) ≤ 0 ∧ 0 < sL (sNew (sSet (sNew (sSet (sNew (sSet (sNew (sSet (sNew (sSet (sNew S 20 8 8) x0 0) 20 8 8) x0 1) 20 8 8) x0 2) 21 8 8) x0 3) 20 160 160) x0 4) 20 4 4) (sN (sSet (sNew (sSet (sNew (sSet (sNew (sSet (sNew (sSet (sNew S 20 8 8) x0 0) 20 8 8) x0 1) 20 8 8) x0 2) 21 8 8) x0 3) 20 160 160) x0 4) + 1)) ∧ ((0 : Int) ≤ 1 ∧ 1 < sL (sNew (sSet (sNew (sSet (sNew (sSet (sNew (sSet (sNew (sSet (sNew S 20 8 8) x0 0) 20 8 8) x0 1) 20 8 8) x0 2) 21 8 8) x0 3) 20 160 160) x0 4) 20 4 4) (sN (sSet (sNew (sSet (sNew (sSet (sNew (sSet (sNew (sSet (sNew S 20 8 8) x0 0) 20 8 8) x0 1) 20 8 8) x0 2) 21 8 8) x0 3) 20 160 160) x0 4) + 1)) ∧ ((0 : Int) ≤ 2 ∧ 2 < sL (sNew (sSet (sNew (sSet (sNew (sSet (sNew (sSet (sNew (sSet (sNew S 20 8 8) x0 0) 20 8 8) x0 1) 20 8 8) x0 2) 21 8 8) x0 3) 20 160 160) x0 4) 20 4 4) (sN (sSet (sNew (sSet (sNew (sSet (sNew (sSet (sNew (sSet (sNew S 20 8 8) x0 0) 20 8 8) x0 1) 20 8 8) x0 2) 21 8 8) x0 3) 20 160 160) x0 4) + 1)) ∧ ((0 : Int) ≤ 3 ∧ 3 < sL (sNew (sSet (sNew (sSet (sNew (sSet (sNew (sSet (sNew (sSet (sNew S 20 8 8) x0 0) 20 8 8) x0 1) 20 8 8) x0 2) 21 8 8) x0 3) 20 160 160) x0 4) 20 4 4) (sN (sSet (sNew (sSet (sNew (sSet (sNew (sSet (sNew (sSet (sNew S 20 8 8) x0 0) 20 8 8) x0 1) 20 8 8) x0 2) 21 8 8) x0 3) 20 160 160) x0 4) + 1))) (k : Q (none) (sSet (sNew (sSet (sNew (sSet (sNew (sSet (sNew (sSet (sNew (sSet (sNew S 20 8 8) x0 0) 20 8 8) x0 1) 20 8 8) x0 2) 21 8 8) x0 3) 20 160 160) x0 4) 20 4 4) x0 5) (up (up (up (up (zr (zr (zr (zr (zr (zr M (sN S + 1)) (sN (sSet (sNew S 20 8 8) x0 0) + 1)) (sN (sSet (sNew (sSet (sNew S 20 8 8) x0 0) 20 8 8) x0 1) + 1)) (sN (sSet (sNew (sSet (sNew (sSet (sNew S 20 8 8) x0 0) 20 8 8) x0 1) 20 8 8) x0 2) + 1)) (sN (sSet (sNew (sSet (sNew (sSet (sNew (sSet (sNew S 20 8 8) x0 0) 20 8 8) x0 1) 20 8 8) x0 2) 21 8 8) x0 3) + 1)) (sN (sSet (sNew (sSet (sNew (sSet (sNew (sSet (sNew (sSet (sNew S 20 8 8) x0 0) 20 8 8) x0 1) 20 8 8) x0 2) 21 8 8) x0 3) 20 160 160) x0 4) + 1)) (sN (sSet (sNew (sSet (sNew (sSet (sNew (sSet (sNew (sSet (sNew S 20 8 8) x0 0) 20 8 8) x0 1) 20 8 8) x0 2) 21 8 8) x0 3) 20 160 160) x0 4) + 1) 0 0) (sN (sSet (sNew (sSet (sNew (sSet (sNew (sSet (sNew (sSet (sNew S 20 8 8) x0 0) 20 8 8) x0 1) 20 8 8) x0 2) 21 8 8) x0 3) 20 160 160) x0 4) + 1) 1 1) (sN (sSet (sNew (sSet (sNew (sSet (sNew (sSet (sNew (sSet (sNew S 20 8 8) x0 0) 20 8 8) x0 1) 20 8 8) x0 2) 21 8 8) x0 3) 20 160 160) x0 4) + 1) 2 0) (sN (sSet (sNew (sSet (sNew (sSet (sNew (sSet (sNew (sSet (sNew S 20 8 8) x0 0) 20 8 8) x0 1) 20 8 8) x0 2) 21 8 8) x0 3) 20 160 160) x0 4) + 1) 3 85)) : WP PR d 41 0 [vA x0] [] S M Q := by
  refine WP.re 42 69 .return_ (0, 0, 0, 0) _ rfl ?_
  exact And.intro (hc.1) (And.intro (⟨by decide, by decide⟩) (And.intro (⟨ho1, ho2⟩) (And.intro (⟨by decide, by decide⟩) (And.intro (⟨ho3, ho4⟩) (And.intro (⟨by decide, by decide⟩) (And.intro (⟨ho5, ho6⟩) (And.intro (⟨by decide, by decide⟩) (And.intro (⟨ho7, ho8⟩) (And.intro (⟨by decide, by decide⟩) (And.intro (⟨ho9, ho10⟩) (And.intro (⟨by decide, by decide⟩) (And.intro (inA_of (ho11) (rfl) hc.2.1) (And.intro (inA_of (ho12) (rfl) hc.2.2.1) (And.intro (inA_of (ho13) (rfl) hc.2.2.2.1) (And.intro (inA_of (ho14) (rfl) hc.2.2.2.2) (And.intro (⟨ho15, ho16⟩) (⟨rfl, rfl, trivial, k⟩)))))))))))))))))
-- SoleraCellar$Tape.<init>()V
set_option maxRecDepth 100000 in
theorem b_X5_init_0 {d : Nat} {S : mSh} {M : mMem} {Q : Option mV → mSh → mMem → Prop} {x0 : Int} (ho1 : isO (sNew S 20 400 400) x0 5) (ho2 : sN S + 1 = x0 + 1) (hc : 1 ≤ x0) (k : Q (none) (sSet (sNew S 20 400 400) x0 0) (zr M (sN S + 1))) : WP PR d 56 0 [vA x0] [] S M Q := by
  refine WP.re 6 13 .return_ (0, 0, 0, 0) _ rfl ?_
  exact And.intro (hc) (And.intro (⟨by decide, by decide⟩) (And.intro (⟨ho1, ho2⟩) (⟨rfl, rfl, trivial, k⟩)))
-- SoleraCellar$Text.<init>(II)V
set_option maxRecDepth 100000 in
theorem b_X6_init_0 {d : Nat} {S : mSh} {M : mMem} {Q : Option mV → mSh → mMem → Prop} {x0 x1 x2 : Int} (ho1 : isO (sNew S 20 ((if 0 < x1 then x1 else 0) * 7) ((if 0 < x1 then x1 else 0) * 7)) x0 6) (ho2 : sN S + 1 = x0 + 1) (ho3 : isO (sNew (sSet (sNew S 20 ((if 0 < x1 then x1 else 0) * 7) ((if 0 < x1 then x1 else 0) * 7)) x0 0) 20 (if 0 < x2 then x2 else 0) (if 0 < x2 then x2 else 0)) x0 6) (ho4 : sN (sSet (sNew S 20 ((if 0 < x1 then x1 else 0) * 7) ((if 0 < x1 then x1 else 0) * 7)) x0 0) + 1 = x0 + 2) (hc : 1 ≤ x0 ∧ R32 ((if 0 < x1 then x1 else 0) * 7) ∧ (0 ≤ (if 0 < x1 then x1 else 0) * 7 ∧ (if 0 < x1 then x1 else 0) * 7 ≤ 100000) ∧ (0 ≤ (if 0 < x2 then x2 else 0) ∧ (if 0 < x2 then x2 else 0) ≤ 100000)) (k : Q (none) (sSet (sNew (sSet (sNew S 20 ((if 0 < x1 then x1 else 0) * 7) ((if 0 < x1 then x1 else 0) * 7)) x0 0) 20 (if 0 < x2 then x2 else 0) (if 0 < x2 then x2 else 0)) x0 1) (zr (zr M (sN S + 1)) (sN (sSet (sNew S 20 ((if 0 < x1 then x1 else 0) * 7) ((if 0 < x1 then x1 else 0) * 7)) x0 0) + 1))) : WP PR d 58 0 [vA x0, vI x1, vI x2] [] S M Q := by
  refine WP.re 16 29 .return_ (0, 0, 0, 0) _ rfl ?_
  exact And.intro (hc.1) (And.intro (hc.2.1) (And.intro (hc.2.2.1) (And.intro (⟨ho1, ho2⟩) (And.intro (hc.2.2.2) (And.intro (⟨ho3, ho4⟩) (⟨rfl, rfl, trivial, k⟩))))))
-- SoleraCellar$Worker.<init>(LSoleraCellar$Stock;LSoleraCellar$Text;)V
set_option maxRecDepth 100000 in
theorem b_X7_init_0 {d : Nat} {S : mSh} {M : mMem} {Q : Option mV → mSh → mMem → Prop} {x0 x1 x2 : Int} (ho1 : isO (sNew S 20 20 20) x0 7) (ho2 : sN S + 1 = x0 + 4) (ho3 : isO (sNew (sSet (sNew S 20 20 20) x0 1) 0 0 6) (sN (sSet (sNew S 20 20 20) x0 1) + 1) 0) (hc : 1 ≤ x0) (k : WP PR d 0 0 [vA (sN (sSet (sNew S 20 20 20) x0 1) + 1), vA x1] [] (sNew (sSet (sNew S 20 20 20) x0 1) 0 0 6) (zr (zr M (sN S + 1)) (sN (sSet (sNew S 20 20 20) x0 1) + 1)) (fun r S2 M2 => WP PR (d + 1) 69 21 [vA x0, vA x1, vA x2] (r.toList ++ [vA (sN (sSet (sNew S 20 20 20) x0 1) + 1), vA x0]) S2 M2 Q)) : WP PR (d + 1) 69 0 [vA x0, vA x1, vA x2] [] S M Q := by
  refine WP.ca 10 21 18 (.invokespecial 17) (0, 0, 0, 0) rfl ?_
  exact And.intro (hc) (And.intro (⟨by decide, by decide⟩) (And.intro (⟨ho1, ho2⟩) (⟨rfl, rfl, rfl, ho3, rfl, k⟩)))
set_option maxRecDepth 100000 in
theorem b_X7_init_21 {d : Nat} {S : mSh} {M : mMem} {Q : Option mV → mSh → mMem → Prop} {x0 x1 x2 s0 s1 : Int} (ho1 : isO S s0 7) (ho2 : s1 = s0 + 5) (ho3 : isO (sSet S s0 0) x0 7) (ho4 : isO (sSet S s0 0) x0 7) (k : Q (none) (sSet S s0 0) (up (up M x0 2 x1) x0 3 x2)) : WP PR d 69 21 [vA x0, vA x1, vA x2] [vA s1, vA s0] S M Q := by
  refine WP.re 7 34 .return_ (0, 0, 0, 0) _ rfl ?_
  exact And.intro (⟨ho1, ho2⟩) (And.intro (ho3) (And.intro (ho4) (⟨rfl, rfl, trivial, k⟩)))
-- SoleraCellar.<init>()V
set_option maxRecDepth 100000 in
theorem b_X8_init_0 {d : Nat} {S : mSh} {M : mMem} {Q : Option mV → mSh → mMem → Prop} {x0 : Int} (ho1 : isO (sNew S 5 0 2) (sN S + 1) 5) (hc : 1 ≤ x0) (k : WP PR d 56 0 [vA (sN S + 1)] [] (sNew S 5 0 2) (zr M (sN S + 1)) (fun r S2 M2 => WP PR (d + 1) 81 12 [vA x0] (r.toList ++ [vA (sN S + 1), vA x0]) S2 M2 Q)) : WP PR (d + 1) 81 0 [vA x0] [] S M Q := by
  refine WP.ca 5 12 9 (.invokespecial 9) (0, 56, 1, 0) rfl ?_
  exact And.intro (hc) (⟨rfl, rfl, rfl, ho1, rfl, k⟩)
set_option maxRecDepth 100000 in
theorem b_X8_init_12 {d : Nat} {S : mSh} {M : mMem} {Q : Option mV → mSh → mMem → Prop} {x0 s0 s1 : Int} (ho1 : isO S s0 8) (ho2 : s1 = s0 + 1) (ho3 : isO (sNew (sSet S s0 0) 2 0 10) x0 8) (ho4 : sF (sNew (sSet S s0 0) 2 0 10) x0 0 = 1) (ho5 : isO (sNew (sSet S s0 0) 2 0 10) (sN (sSet S s0 0) + 1) 2) (k : WP PR d 13 0 [vA (sN (sSet S s0 0) + 1), vA (x0 + 1)] [] (sNew (sSet S s0 0) 2 0 10) (zr M (sN (sSet S s0 0) + 1)) (fun r S2 M2 => WP PR (d + 1) 81 27 [vA x0] (r.toList ++ [vA (sN (sSet S s0 0) + 1), vA x0]) S2 M2 Q)) : WP PR (d + 1) 81 12 [vA x0] [vA s1, vA s0] S M Q := by
  refine WP.ca 6 27 24 (.invokespecial 18) (0, 13, 0, 0) rfl ?_
  exact And.intro (⟨ho1, ho2⟩) (And.intro (⟨ho3, ho4⟩) (⟨rfl, rfl, rfl, ho5, rfl, k⟩))
set_option maxRecDepth 100000 in
theorem b_X8_init_27 {d : Nat} {S : mSh} {M : mMem} {Q : Option mV → mSh → mMem → Prop} {x0 s0 s1 : Int} (ho1 : isO S s0 8) (ho2 : s1 = s0 + 3) (ho3 : isO (sNew (sSet S s0 1) 3 0 10) (sN (sSet S s0 1) + 1) 3) (k : WP PR d 35 0 [vA (sN (sSet S s0 1) + 1), vU] [] (sNew (sSet S s0 1) 3 0 10) (zr M (sN (sSet S s0 1) + 1)) (fun r S2 M2 => WP PR (d + 1) 81 38 [vA x0] (r.toList ++ [vA (sN (sSet S s0 1) + 1), vA x0]) S2 M2 Q)) : WP PR (d + 1) 81 27 [vA x0] [vA s1, vA s0] S M Q := by
  refine WP.ca 4 38 35 (.invokespecial 27) (0, 35, 0, 0) rfl ?_
  exact And.intro (⟨ho1, ho2⟩) (⟨rfl, rfl, rfl, ho3, rfl, k⟩)
set_option maxRecDepth 100000 in
theorem b_X8_init_38 {d : Nat} {S : mSh} {M : mMem} {Q : Option mV → mSh → mMem → Prop} {x0 s0 s1 : Int} (ho1 : isO S s0 8) (ho2 : s1 = s0 + 7) (ho3 : isO (sNew (sNew (sSet S s0 2) 25 2 2) 3 0 10) (sN (sNew (sSet S s0 2) 25 2 2) + 1) 3) (k : WP PR d 35 0 [vA (sN (sNew (sSet S s0 2) 25 2 2) + 1), vU] [] (sNew (sNew (sSet S s0 2) 25 2 2) 3 0 10) (zr (zr M (sN (sSet S s0 2) + 1)) (sN (sNew (sSet S s0 2) 25 2 2) + 1)) (fun r S2 M2 => WP PR (d + 1) 81 55 [vA x0] (r.toList ++ [vA (sN (sNew (sSet S s0 2) 25 2 2) + 1), vI 0, vA (sN (sSet S s0 2) + 1), vA (sN (sSet S s0 2) + 1), vA x0]) S2 M2 Q)) : WP PR (d + 1) 81 38 [vA x0] [vA s1, vA s0] S M Q := by
  refine WP.ca 8 55 52 (.invokespecial 27) (0, 35, 0, 0) rfl ?_
  exact And.intro (⟨ho1, ho2⟩) (And.intro (⟨by decide, by decide⟩) (⟨rfl, rfl, rfl, ho3, rfl, k⟩))
set_option maxRecDepth 100000 in
theorem b_X8_init_55 {d : Nat} {S : mSh} {M : mMem} {Q : Option mV → mSh → mMem → Prop} {x0 s0 s1 s2 s3 s4 : Int} (ho1 : isO S s2 25) (ho2 : isO S s4 3) (ho3 : isO (sNew S 3 0 10) (sN S + 1) 3) (hc : (0 ≤ s3 ∧ s3 < sL S s2)) (k : WP PR d 35 0 [vA (sN S + 1), vU] [] (sNew S 3 0 10) (zr (up M s2 s3 s4) (sN S + 1)) (fun r S2 M2 => WP PR (d + 1) 81 65 [vA x0] (r.toList ++ [vA (sN S + 1), vI 1, vA s1, vA s1, vA s0]) S2 M2 Q)) : WP PR (d + 1) 81 55 [vA x0] [vA s4, vI s3, vA s2, vA s1, vA s0] S M Q := by
  refine WP.ca 5 65 62 (.invokespecial 27) (0, 35, 0, 0) rfl ?_
  exact And.intro (⟨inA_of (ho1) (rfl) hc, ho2⟩) (⟨rfl, rfl, rfl, ho3, rfl, k⟩)
set_option maxRecDepth 100000 in
theorem b_X8_init_65 {d : Nat} {S : mSh} {M : mMem} {Q : Option mV → mSh → mMem → Prop} {x0 s0 s1 s2 s3 s4 : Int} (ho1 : isO S s2 25) (ho2 : isO S s4 3) (ho3 : isO S s0 8) (ho4 : s1 = s0 + 22) (ho5 : isO (sNew (sSet S s0 3) 22 2 2) x0 8) (ho6 : sN (sSet S s0 3) + 1 = x0 + 53) (ho7 : isO (sNew (sSet (sNew (sSet S s0 3) 22 2 2) x0 4) 1 0 4) (sN (sSet (sNew (sSet S s0 3) 22 2 2) x0 4) + 1) 1) (hc : (0 ≤ s3 ∧ s3 < sL S s2)) (k : WP PR d 8 0 [vA (sN (sSet (sNew (sSet S s0 3) 22 2 2) x0 4) + 1), vU] [] (sNew (sSet (sNew (sSet S s0 3) 22 2 2) x0 4) 1 0 4) (zr (zr (up M s2 s3 s4) (sN (sSet S s0 3) + 1)) (sN (sSet (sNew (sSet S s0 3) 22 2 2) x0 4) + 1)) (fun r S2 M2 => WP PR (d + 1) 81 84 [vA x0] (r.toList ++ [vA (sN (sSet (sNew (sSet S s0 3) 22 2 2) x0 4) + 1), vA x0]) S2 M2 Q)) : WP PR (d + 1) 81 65 [vA x0] [vA s4, vI s3, vA s2, vA s1, vA s0] S M Q := by
  refine WP.ca 9 84 81 (.invokespecial 42) (0, 8, 0, 0) rfl ?_
  exact And.intro (⟨inA_of (ho1) (rfl) hc, ho2⟩) (And.intro (⟨ho3, ho4⟩) (And.intro (⟨by decide, by decide⟩) (And.intro (⟨ho5, ho6⟩) (⟨rfl, rfl, rfl, ho7, rfl, k⟩))))
set_option maxRecDepth 100000 in
theorem b_X8_init_84 {d : Nat} {S : mSh} {M : mMem} {Q : Option mV → mSh → mMem → Prop} {x0 s0 s1 : Int} (ho1 : isO S s0 8) (ho2 : s1 = s0 + 54) (ho3 : isO (sNew (sSet S s0 5) 4 0 8) (sN (sSet S s0 5) + 1) 4) (k : WP PR d 41 0 [vA (sN (sSet S s0 5) + 1)] [] (sNew (sSet S s0 5) 4 0 8) (zr M (sN (sSet S s0 5) + 1)) (fun r S2 M2 => WP PR (d + 1) 81 95 [vA x0] (r.toList ++ [vA (sN (sSet S s0 5) + 1), vA x0]) S2 M2 Q)) : WP PR (d + 1) 81 84 [vA x0] [vA s1, vA s0] S M Q := by
  refine WP.ca 4 95 92 (.invokespecial 49) (0, 41, 1, 0) rfl ?_
  exact And.intro (⟨ho1, ho2⟩) (⟨rfl, rfl, rfl, ho3, rfl, k⟩)
set_option maxRecDepth 100000 in
theorem b_X8_init_95 {d : Nat} {S : mSh} {M : mMem} {Q : Option mV → mSh → mMem → Prop} {x0 s0 s1 : Int} (ho1 : isO S s0 8) (ho2 : s1 = s0 + 176) (ho3 : isO (sNew (sSet S s0 6) 4 0 8) (sN (sSet S s0 6) + 1) 4) (k : WP PR d 41 0 [vA (sN (sSet S s0 6) + 1)] [] (sNew (sSet S s0 6) 4 0 8) (zr M (sN (sSet S s0 6) + 1)) (fun r S2 M2 => WP PR (d + 1) 81 106 [vA x0] (r.toList ++ [vA (sN (sSet S s0 6) + 1), vA x0]) S2 M2 Q)) : WP PR (d + 1) 81 95 [vA x0] [vA s1, vA s0] S M Q := by
  refine WP.ca 4 106 103 (.invokespecial 49) (0, 41, 1, 0) rfl ?_
  exact And.intro (⟨ho1, ho2⟩) (⟨rfl, rfl, rfl, ho3, rfl, k⟩)
set_option maxRecDepth 100000 in
theorem b_X8_init_106 {d : Nat} {S : mSh} {M : mMem} {Q : Option mV → mSh → mMem → Prop} {x0 s0 s1 : Int} (ho1 : isO S s0 8) (ho2 : s1 = s0 + 183) (ho3 : isO (sNew (sSet S s0 7) 7 0 7) x0 8) (ho4 : sF (sNew (sSet S s0 7) 7 0 7) x0 6 = 1) (ho5 : isO (sNew (sNew (sSet S s0 7) 7 0 7) 6 0 4) (sN (sNew (sSet S s0 7) 7 0 7) + 1) 6) (k : WP PR d 58 0 [vA (sN (sNew (sSet S s0 7) 7 0 7) + 1), vI 0, vI 0] [] (sNew (sNew (sSet S s0 7) 7 0 7) 6 0 4) (zr (zr M (sN (sSet S s0 7) + 1)) (sN (sNew (sSet S s0 7) 7 0 7) + 1)) (fun r S2 M2 => WP PR (d + 1) 81 127 [vA x0] (r.toList ++ [vA (sN (sNew (sSet S s0 7) 7 0 7) + 1), vA (x0 + 176), vA (sN (sSet S s0 7) + 1), vA (sN (sSet S s0 7) + 1), vA x0]) S2 M2 Q)) : WP PR (d + 1) 81 106 [vA x0] [vA s1, vA s0] S M Q := by
  refine WP.ca 10 127 124 (.invokespecial 61) (0, 58, 0, 0) rfl ?_
  exact And.intro (⟨ho1, ho2⟩) (And.intro (⟨ho3, ho4⟩) (⟨rfl, rfl, rfl, ho5, rfl, k⟩))
set_option maxRecDepth 100000 in
theorem b_X8_init_127 {d : Nat} {S : mSh} {M : mMem} {Q : Option mV → mSh → mMem → Prop} {x0 s0 s1 s2 s3 s4 : Int} (ho1 : isO S s2 7) (k : WP PR d 69 0 [vA s2, vA s3, vA s4] [] S M (fun r S2 M2 => WP PR (d + 1) 81 130 [vA x0] (r.toList ++ [vA s1, vA s0]) S2 M2 Q)) : WP PR (d + 1) 81 127 [vA x0] [vA s4, vA s3, vA s2, vA s1, vA s0] S M Q := by
  refine WP.ca 0 130 127 (.invokespecial 64) (0, 69, 0, 0) rfl ?_
  exact ⟨rfl, rfl, rfl, ho1, rfl, k⟩
set_option maxRecDepth 100000 in
theorem b_X8_init_130 {d : Nat} {S : mSh} {M : mMem} {Q : Option mV → mSh → mMem → Prop} {x0 s0 s1 : Int} (ho1 : isO S s0 8) (ho2 : s1 = s0 + 190) (ho3 : isO (sNew (sSet S s0 8) 21 20 20) x0 8) (ho4 : sN (sSet S s0 8) + 1 = x0 + 197) (ho5 : isO (sNew (sSet (sNew (sSet S s0 8) 21 20 20) x0 9) 20 7 7) x0 8) (ho6 : sN (sSet (sNew (sSet S s0 8) 21 20 20) x0 9) + 1 = x0 + 198) (ho7 : isO (sSet (sNew (sSet (sNew (sSet S s0 8) 21 20 20) x0 9) 20 7 7) x0 10) x0 8) (ho8 : isO (sSet (sNew (sSet (sNew (sSet S s0 8) 21 20 20) x0 9) 20 7 7) x0 10) x0 8) (k : Q (none) (sSet (sNew (sSet (sNew (sSet S s0 8) 21 20 20) x0 9) 20 7 7) x0 10) (up (up (zr (zr M (sN (sSet S s0 8) + 1)) (sN (sSet (sNew (sSet S s0 8) 21 20 20) x0 9) + 1)) x0 13 (-1)) x0 14 (-1))) : WP PR d 81 130 [vA x0] [vA s1, vA s0] S M Q := by
  refine WP.re 15 159 .return_ (0, 0, 0, 0) _ rfl ?_
  exact And.intro (⟨ho1, ho2⟩) (And.intro (⟨by decide, by decide⟩) (And.intro (⟨ho3, ho4⟩) (And.intro (⟨by decide, by decide⟩) (And.intro (⟨ho5, ho6⟩) (And.intro (ho7) (And.intro (ho8) (⟨rfl, rfl, trivial, k⟩)))))))
