/-! Blocks (by program: wip/whole/gen3.py). -/
/-- SoleraCellarLaw.law([I)Z -/
abbrev e_L_law (d : Nat) (a0 : Int) (S : mSh) (M : mMem) (Q : Option mV → mSh → mMem → Prop) : Prop := WP PR d 258 0 [vA a0, vU, vU, vU] [] S M Q
set_option maxRecDepth 100000 in
theorem b_L_law_0 {d : Nat} {S : mSh} {M : mMem} {Q : Option mV → mSh → mMem → Prop} (ho1 : isO (sNew S 8 0 15) (sN S + 1) 8) (k : WP PR d 81 0 [vA (sN S + 1)] [] (sNew S 8 0 15) (zr M (sN S + 1)) (fun r S2 M2 => WP PR (d + 1) 258 7 [vA (-1), vU, vU, vU] (r.toList ++ [vA (sN S + 1)]) S2 M2 Q)) : WP PR (d + 1) 258 0 [vA (-1), vU, vU, vU] [] S M Q := by
  refine WP.ca 2 7 4 (.invokespecial 9) (0, 81, 0, 0) rfl ?_
  exact ⟨rfl, rfl, rfl, ho1, rfl, k⟩
set_option maxRecDepth 100000 in
theorem b_L_law_7 {d : Nat} {S : mSh} {M : mMem} {Q : Option mV → mSh → mMem → Prop} {s0 : Int} {u1 u2 u3 : mV} (ho1 : isO (sNew S 9 0 55) (sN S + 1) 9) (k : WP PR d 131 0 [vA (sN S + 1)] [] (sNew S 9 0 55) (zr M (sN S + 1)) (fun r S2 M2 => WP PR (d + 1) 258 15 [vA (-1), vA s0, u2, u3] (r.toList ++ [vA (sN S + 1)]) S2 M2 Q)) : WP PR (d + 1) 258 7 [vA (-1), u1, u2, u3] [vA s0] S M Q := by
  refine WP.ca 3 15 12 (.invokespecial 12) (0, 131, 0, 0) rfl ?_
  exact ⟨rfl, rfl, rfl, ho1, rfl, k⟩
set_option maxRecDepth 100000 in
theorem b_L_law_15 {d : Nat} {S : mSh} {M : mMem} {Q : Option mV → mSh → mMem → Prop} {x1 s0 : Int} {u2 u3 : mV} (k : WP PR d 258 18 [vA (-1), vA x1, vA s0, vI 0] [] S M Q) : WP PR d 258 15 [vA (-1), vA x1, u2, u3] [vA s0] S M Q := by
  refine WP.bl 3 18 rfl ?_
  exact k
set_option maxRecDepth 100000 in
theorem b_L_law_18 {d : Nat} {S : mSh} {M : mMem} {Q : Option mV → mSh → mMem → Prop} {x3 : Int} (hc : R32 ((sL S (-1)) - 6)) (kt : (sL S (-1)) - 6 < x3 → WP PR d 258 1185 [vA (-1), vA 1, vA 200, vI x3] [] S M Q) (kf : x3 ≤ (sL S (-1)) - 6 → WP PR d 258 27 [vA (-1), vA 1, vA 200, vI x3] [] S M Q) : WP PR d 258 18 [vA (-1), vA 1, vA 200, vI x3] [] S M Q := by
  refine WP.if2 5 27 24 .gt 1161 (0, 0, 0, 0) 1185 rfl rfl ?_
  exact And.intro (rfl) (And.intro (hc) (⟨kt, fun hc => kf (Int.not_lt.mp hc)⟩))
set_option maxRecDepth 100000 in
theorem b_L_law_27 {d : Nat} {S : mSh} {M : mMem} {Q : Option mV → mSh → mMem → Prop} {x3 : Int} (hc : (0 ≤ x3 ∧ x3 < sL S (-1))) (k : WP PR d 258 (swT 33 (band (M (-1) x3) 63) 1146 0 36 [163, 196, 229, 263, 296, 359, 382, 395, 408, 421, 434, 447, 460, 473, 496, 529, 572, 605, 618, 631, 684, 727, 760, 783, 816, 849, 882, 895, 908, 931, 965, 998, 1031, 1064, 1087, 1110, 1133]) [vA (-1), vA 1, vA 200, vI x3] [] S M Q) : WP PR d 258 27 [vA (-1), vA 1, vA 200, vI x3] [] S M Q := by
  refine WP.sw 5 33 1146 0 36 #[163, 196, 229, 263, 296, 359, 382, 395, 408, 421, 434, 447, 460, 473, 496, 529, 572, 605, 618, 631, 684, 727, 760, 783, 816, 849, 882, 895, 908, 931, 965, 998, 1031, 1064, 1087, 1110, 1133] (0, 0, 0, 0) _ rfl ?_
  exact And.intro (⟨rfl, hc⟩) (k)
set_option maxRecDepth 100000 in
theorem b_L_law_196 {d : Nat} {S : mSh} {M : mMem} {Q : Option mV → mSh → mMem → Prop} {x3 : Int} (L : Lay S) (hc : R32 (x3 + 1) ∧ (0 ≤ x3 + 1 ∧ x3 + 1 < sL S (-1)) ∧ R32 (x3 + 2) ∧ (0 ≤ x3 + 2 ∧ x3 + 2 < sL S (-1))) (k : WP PR d 82 0 [vA 1, vI (M (-1) (x3 + 1)), vI (M (-1) (x3 + 2))] [] S M (fun r S2 M2 => WP PR (d + 1) 258 210 [vA (-1), vA 1, vA 200, vI x3] (r.toList ++ []) S2 M2 Q)) : WP PR (d + 1) 258 196 [vA (-1), vA 1, vA 200, vI x3] [] S M Q := by
  refine WP.ca 11 210 207 (.invokevirtual 13) (0, 82, 0, 0) rfl ?_
  exact And.intro (hc.1) (And.intro (⟨rfl, hc.2.1⟩) (And.intro (hc.2.2.1) (And.intro (⟨rfl, hc.2.2.2⟩) (⟨rfl, rfl, rfl, lo1 L, rfl, k⟩))))
set_option maxRecDepth 100000 in
theorem b_L_law_210 {d : Nat} {S : mSh} {M : mMem} {Q : Option mV → mSh → mMem → Prop} {x3 s0 : Int} (L : Lay S) (hc : R32 (x3 + 1) ∧ (0 ≤ x3 + 1 ∧ x3 + 1 < sL S (-1)) ∧ R32 (x3 + 2) ∧ (0 ≤ x3 + 2 ∧ x3 + 2 < sL S (-1))) (k : WP PR d 153 0 [vA 200, vI (M (-1) (x3 + 1)), vI (M (-1) (x3 + 2))] [] S M (fun r S2 M2 => WP PR (d + 1) 258 224 [vA (-1), vA 1, vA 200, vI x3] (r.toList ++ [vI s0]) S2 M2 Q)) : WP PR (d + 1) 258 210 [vA (-1), vA 1, vA 200, vI x3] [vI s0] S M Q := by
  refine WP.ca 11 224 221 (.invokevirtual 17) (0, 153, 0, 0) rfl ?_
  exact And.intro (hc.1) (And.intro (⟨rfl, hc.2.1⟩) (And.intro (hc.2.2.1) (And.intro (⟨rfl, hc.2.2.2⟩) (⟨rfl, rfl, rfl, lo200 L, rfl, k⟩))))
set_option maxRecDepth 100000 in
theorem b_L_law_224 {d : Nat} {S : mSh} {M : mMem} {Q : Option mV → mSh → mMem → Prop} {x3 s0 s1 : Int} (kt : s0 = s1 → WP PR d 258 1179 [vA (-1), vA 1, vA 200, vI x3] [] S M Q) (kf : ¬ s0 = s1 → WP PR d 258 227 [vA (-1), vA 1, vA 200, vI x3] [] S M Q) : WP PR d 258 224 [vA (-1), vA 1, vA 200, vI x3] [vI s1, vI s0] S M Q := by
  refine WP.if2 0 227 224 .eq 955 (0, 0, 0, 0) 1179 rfl rfl ?_
  exact ⟨kt, fun hc => kf hc⟩
set_option maxRecDepth 100000 in
theorem b_L_law_227 {d : Nat} {S : mSh} {M : mMem} {Q : Option mV → mSh → mMem → Prop} {x3 : Int} (k : Q (some (vI 0)) S M) : WP PR d 258 227 [vA (-1), vA 1, vA 200, vI x3] [] S M Q := by
  refine WP.re 1 228 .ireturn (0, 0, 0, 0) _ rfl ?_
  exact ⟨rfl, rfl, Or.inl rfl, k⟩
set_option maxRecDepth 100000 in
theorem b_L_law_229 {d : Nat} {S : mSh} {M : mMem} {Q : Option mV → mSh → mMem → Prop} {x3 : Int} (L : Lay S) (hc : R32 (x3 + 1) ∧ (0 ≤ x3 + 1 ∧ x3 + 1 < sL S (-1)) ∧ R32 (x3 + 2) ∧ (0 ≤ x3 + 2 ∧ x3 + 2 < sL S (-1))) (k : WP PR d 83 0 [vA 1, vI (M (-1) (x3 + 1)), vI (M (-1) (x3 + 2)), vU] [] S M (fun r S2 M2 => WP PR (d + 1) 258 243 [vA (-1), vA 1, vA 200, vI x3] (r.toList ++ []) S2 M2 Q)) : WP PR (d + 1) 258 229 [vA (-1), vA 1, vA 200, vI x3] [] S M Q := by
  refine WP.ca 11 243 240 (.invokevirtual 18) (0, 83, 0, 0) rfl ?_
  exact And.intro (hc.1) (And.intro (⟨rfl, hc.2.1⟩) (And.intro (hc.2.2.1) (And.intro (⟨rfl, hc.2.2.2⟩) (⟨rfl, rfl, rfl, lo1 L, rfl, k⟩))))
set_option maxRecDepth 100000 in
theorem b_L_law_243 {d : Nat} {S : mSh} {M : mMem} {Q : Option mV → mSh → mMem → Prop} {x3 s0 : Int} (L : Lay S) (hc : R32 (x3 + 1) ∧ (0 ≤ x3 + 1 ∧ x3 + 1 < sL S (-1)) ∧ R32 (x3 + 2) ∧ (0 ≤ x3 + 2 ∧ x3 + 2 < sL S (-1))) (k : WP PR d 154 0 [vA 200, vI (M (-1) (x3 + 1)), vI (M (-1) (x3 + 2))] [] S M (fun r S2 M2 => WP PR (d + 1) 258 257 [vA (-1), vA 1, vA 200, vI x3] (r.toList ++ [vI s0]) S2 M2 Q)) : WP PR (d + 1) 258 243 [vA (-1), vA 1, vA 200, vI x3] [vI s0] S M Q := by
  refine WP.ca 11 257 254 (.invokevirtual 21) (0, 154, 0, 0) rfl ?_
  exact And.intro (hc.1) (And.intro (⟨rfl, hc.2.1⟩) (And.intro (hc.2.2.1) (And.intro (⟨rfl, hc.2.2.2⟩) (⟨rfl, rfl, rfl, lo200 L, rfl, k⟩))))
set_option maxRecDepth 100000 in
theorem b_L_law_257 {d : Nat} {S : mSh} {M : mMem} {Q : Option mV → mSh → mMem → Prop} {x3 s0 s1 : Int} (kt : s0 = s1 → WP PR d 258 1179 [vA (-1), vA 1, vA 200, vI x3] [] S M Q) (kf : ¬ s0 = s1 → WP PR d 258 260 [vA (-1), vA 1, vA 200, vI x3] [] S M Q) : WP PR d 258 257 [vA (-1), vA 1, vA 200, vI x3] [vI s1, vI s0] S M Q := by
  refine WP.if2 0 260 257 .eq 922 (0, 0, 0, 0) 1179 rfl rfl ?_
  exact ⟨kt, fun hc => kf hc⟩
set_option maxRecDepth 100000 in
theorem b_L_law_260 {d : Nat} {S : mSh} {M : mMem} {Q : Option mV → mSh → mMem → Prop} {x3 : Int} (k : Q (some (vI 0)) S M) : WP PR d 258 260 [vA (-1), vA 1, vA 200, vI x3] [] S M Q := by
  refine WP.re 1 261 .ireturn (0, 0, 0, 0) _ rfl ?_
  exact ⟨rfl, rfl, Or.inl rfl, k⟩
set_option maxRecDepth 100000 in
theorem b_L_law_262 {d : Nat} {S : mSh} {M : mMem} {Q : Option mV → mSh → mMem → Prop} {x3 : Int} (L : Lay S) (hc : R32 (x3 + 1) ∧ (0 ≤ x3 + 1 ∧ x3 + 1 < sL S (-1)) ∧ R32 (x3 + 2) ∧ (0 ≤ x3 + 2 ∧ x3 + 2 < sL S (-1))) (k : WP PR d 84 0 [vA 1, vI (M (-1) (x3 + 1)), vI (M (-1) (x3 + 2)), vU] [] S M (fun r S2 M2 => WP PR (d + 1) 258 276 [vA (-1), vA 1, vA 200, vI x3] (r.toList ++ []) S2 M2 Q)) : WP PR (d + 1) 258 262 [vA (-1), vA 1, vA 200, vI x3] [] S M Q := by
  refine WP.ca 11 276 273 (.invokevirtual 22) (0, 84, 0, 0) rfl ?_
  exact And.intro (hc.1) (And.intro (⟨rfl, hc.2.1⟩) (And.intro (hc.2.2.1) (And.intro (⟨rfl, hc.2.2.2⟩) (⟨rfl, rfl, rfl, lo1 L, rfl, k⟩))))
set_option maxRecDepth 100000 in
theorem b_L_law_276 {d : Nat} {S : mSh} {M : mMem} {Q : Option mV → mSh → mMem → Prop} {x3 s0 : Int} (L : Lay S) (hc : R32 (x3 + 1) ∧ (0 ≤ x3 + 1 ∧ x3 + 1 < sL S (-1)) ∧ R32 (x3 + 2) ∧ (0 ≤ x3 + 2 ∧ x3 + 2 < sL S (-1))) (k : WP PR d 155 0 [vA 200, vI (M (-1) (x3 + 1)), vI (M (-1) (x3 + 2))] [] S M (fun r S2 M2 => WP PR (d + 1) 258 290 [vA (-1), vA 1, vA 200, vI x3] (r.toList ++ [vL s0]) S2 M2 Q)) : WP PR (d + 1) 258 276 [vA (-1), vA 1, vA 200, vI x3] [vL s0] S M Q := by
  refine WP.ca 11 290 287 (.invokevirtual 26) (0, 155, 0, 0) rfl ?_
  exact And.intro (hc.1) (And.intro (⟨rfl, hc.2.1⟩) (And.intro (hc.2.2.1) (And.intro (⟨rfl, hc.2.2.2⟩) (⟨rfl, rfl, rfl, lo200 L, rfl, k⟩))))
set_option maxRecDepth 100000 in
theorem b_L_law_290 {d : Nat} {S : mSh} {M : mMem} {Q : Option mV → mSh → mMem → Prop} {x3 s0 s1 : Int} (kt : s0 = s1 → WP PR d 258 1179 [vA (-1), vA 1, vA 200, vI x3] [] S M Q) (kf : ¬ s0 = s1 → WP PR d 258 294 [vA (-1), vA 1, vA 200, vI x3] [] S M Q) : WP PR d 258 290 [vA (-1), vA 1, vA 200, vI x3] [vL s1, vL s0] S M Q := by
  refine WP.if0 1 294 291 .eq 888 (0, 0, 0, 0) 1179 rfl rfl ?_
  exact ⟨fun hc => kt (lcp_eq.mp hc), fun hc => kf (fun e => hc (lcp_eq.mpr e))⟩
set_option maxRecDepth 100000 in
theorem b_L_law_294 {d : Nat} {S : mSh} {M : mMem} {Q : Option mV → mSh → mMem → Prop} {x3 : Int} (k : Q (some (vI 0)) S M) : WP PR d 258 294 [vA (-1), vA 1, vA 200, vI x3] [] S M Q := by
  refine WP.re 1 295 .ireturn (0, 0, 0, 0) _ rfl ?_
  exact ⟨rfl, rfl, Or.inl rfl, k⟩
set_option maxRecDepth 100000 in
theorem b_L_law_296 {d : Nat} {S : mSh} {M : mMem} {Q : Option mV → mSh → mMem → Prop} {x3 : Int} (L : Lay S) (hc : R32 (x3 + 1) ∧ (0 ≤ x3 + 1 ∧ x3 + 1 < sL S (-1)) ∧ R32 (x3 + 2) ∧ (0 ≤ x3 + 2 ∧ x3 + 2 < sL S (-1))) (k : WP PR d 85 0 [vA 1, vI (M (-1) (x3 + 1)), vI (M (-1) (x3 + 2)), vU] [] S M (fun r S2 M2 => WP PR (d + 1) 258 310 [vA (-1), vA 1, vA 200, vI x3] (r.toList ++ []) S2 M2 Q)) : WP PR (d + 1) 258 296 [vA (-1), vA 1, vA 200, vI x3] [] S M Q := by
  refine WP.ca 11 310 307 (.invokevirtual 27) (0, 85, 0, 0) rfl ?_
  exact And.intro (hc.1) (And.intro (⟨rfl, hc.2.1⟩) (And.intro (hc.2.2.1) (And.intro (⟨rfl, hc.2.2.2⟩) (⟨rfl, rfl, rfl, lo1 L, rfl, k⟩))))
set_option maxRecDepth 100000 in
theorem b_L_law_310 {d : Nat} {S : mSh} {M : mMem} {Q : Option mV → mSh → mMem → Prop} {x3 s0 : Int} (L : Lay S) (hc : R32 (x3 + 1) ∧ (0 ≤ x3 + 1 ∧ x3 + 1 < sL S (-1)) ∧ R32 (x3 + 2) ∧ (0 ≤ x3 + 2 ∧ x3 + 2 < sL S (-1))) (k : WP PR d 156 0 [vA 200, vI (M (-1) (x3 + 1)), vI (M (-1) (x3 + 2)), vU] [] S M (fun r S2 M2 => WP PR (d + 1) 258 324 [vA (-1), vA 1, vA 200, vI x3] (r.toList ++ [vI s0]) S2 M2 Q)) : WP PR (d + 1) 258 310 [vA (-1), vA 1, vA 200, vI x3] [vI s0] S M Q := by
  refine WP.ca 11 324 321 (.invokevirtual 30) (0, 156, 0, 0) rfl ?_
  exact And.intro (hc.1) (And.intro (⟨rfl, hc.2.1⟩) (And.intro (hc.2.2.1) (And.intro (⟨rfl, hc.2.2.2⟩) (⟨rfl, rfl, rfl, lo200 L, rfl, k⟩))))
set_option maxRecDepth 100000 in
theorem b_L_law_324 {d : Nat} {S : mSh} {M : mMem} {Q : Option mV → mSh → mMem → Prop} {x3 s0 s1 : Int} (kt : s0 = s1 → WP PR d 258 1179 [vA (-1), vA 1, vA 200, vI x3] [] S M Q) (kf : ¬ s0 = s1 → WP PR d 258 327 [vA (-1), vA 1, vA 200, vI x3] [] S M Q) : WP PR d 258 324 [vA (-1), vA 1, vA 200, vI x3] [vI s1, vI s0] S M Q := by
  refine WP.if2 0 327 324 .eq 855 (0, 0, 0, 0) 1179 rfl rfl ?_
  exact ⟨kt, fun hc => kf hc⟩
set_option maxRecDepth 100000 in
theorem b_L_law_327 {d : Nat} {S : mSh} {M : mMem} {Q : Option mV → mSh → mMem → Prop} {x3 : Int} (k : Q (some (vI 0)) S M) : WP PR d 258 327 [vA (-1), vA 1, vA 200, vI x3] [] S M Q := by
  refine WP.re 1 328 .ireturn (0, 0, 0, 0) _ rfl ?_
  exact ⟨rfl, rfl, Or.inl rfl, k⟩
set_option maxRecDepth 100000 in
theorem b_L_law_329 {d : Nat} {S : mSh} {M : mMem} {Q : Option mV → mSh → mMem → Prop} {x3 : Int} (L : Lay S) (hc : R32 (x3 + 1) ∧ (0 ≤ x3 + 1 ∧ x3 + 1 < sL S (-1)) ∧ R32 (x3 + 2) ∧ (0 ≤ x3 + 2 ∧ x3 + 2 < sL S (-1)) ∧ R32 (x3 + 3) ∧ (0 ≤ x3 + 3 ∧ x3 + 3 < sL S (-1)) ∧ R32 (x3 + 4) ∧ (0 ≤ x3 + 4 ∧ x3 + 4 < sL S (-1)) ∧ R32 (x3 + 5) ∧ (0 ≤ x3 + 5 ∧ x3 + 5 < sL S (-1))) (k : WP PR d 86 0 [vA 1, vI (M (-1) (x3 + 1)), vI (M (-1) (x3 + 2)), vI (M (-1) (x3 + 3)), vI (M (-1) (x3 + 4)), vI (M (-1) (x3 + 5))] [] S M (fun r S2 M2 => WP PR (d + 1) 258 358 [vA (-1), vA 1, vA 200, vI x3] (r.toList ++ []) S2 M2 Q)) : WP PR (d + 1) 258 329 [vA (-1), vA 1, vA 200, vI x3] [] S M Q := by
  refine WP.ca 26 358 355 (.invokevirtual 31) (0, 86, 0, 0) rfl ?_
  exact And.intro (hc.1) (And.intro (⟨rfl, hc.2.1⟩) (And.intro (hc.2.2.1) (And.intro (⟨rfl, hc.2.2.2.1⟩) (And.intro (hc.2.2.2.2.1) (And.intro (⟨rfl, hc.2.2.2.2.2.1⟩) (And.intro (hc.2.2.2.2.2.2.1) (And.intro (⟨rfl, hc.2.2.2.2.2.2.2.1⟩) (And.intro (hc.2.2.2.2.2.2.2.2.1) (And.intro (⟨rfl, hc.2.2.2.2.2.2.2.2.2⟩) (⟨rfl, rfl, rfl, lo1 L, rfl, k⟩))))))))))
set_option maxRecDepth 100000 in
theorem b_L_law_358 {d : Nat} {S : mSh} {M : mMem} {Q : Option mV → mSh → mMem → Prop} {x3 s0 : Int} (L : Lay S) (hc : R32 (x3 + 1) ∧ (0 ≤ x3 + 1 ∧ x3 + 1 < sL S (-1)) ∧ R32 (x3 + 2) ∧ (0 ≤ x3 + 2 ∧ x3 + 2 < sL S (-1)) ∧ R32 (x3 + 3) ∧ (0 ≤ x3 + 3 ∧ x3 + 3 < sL S (-1)) ∧ R32 (x3 + 4) ∧ (0 ≤ x3 + 4 ∧ x3 + 4 < sL S (-1)) ∧ R32 (x3 + 5) ∧ (0 ≤ x3 + 5 ∧ x3 + 5 < sL S (-1))) (k : WP PR d 160 0 [vA 200, vI (M (-1) (x3 + 1)), vI (M (-1) (x3 + 2)), vI (M (-1) (x3 + 3)), vI (M (-1) (x3 + 4)), vI (M (-1) (x3 + 5))] [] S M (fun r S2 M2 => WP PR (d + 1) 258 387 [vA (-1), vA 1, vA 200, vI x3] (r.toList ++ [vI s0]) S2 M2 Q)) : WP PR (d + 1) 258 358 [vA (-1), vA 1, vA 200, vI x3] [vI s0] S M Q := by
  refine WP.ca 26 387 384 (.invokevirtual 35) (0, 160, 0, 0) rfl ?_
  exact And.intro (hc.1) (And.intro (⟨rfl, hc.2.1⟩) (And.intro (hc.2.2.1) (And.intro (⟨rfl, hc.2.2.2.1⟩) (And.intro (hc.2.2.2.2.1) (And.intro (⟨rfl, hc.2.2.2.2.2.1⟩) (And.intro (hc.2.2.2.2.2.2.1) (And.intro (⟨rfl, hc.2.2.2.2.2.2.2.1⟩) (And.intro (hc.2.2.2.2.2.2.2.2.1) (And.intro (⟨rfl, hc.2.2.2.2.2.2.2.2.2⟩) (⟨rfl, rfl, rfl, lo200 L, rfl, k⟩))))))))))
set_option maxRecDepth 100000 in
theorem b_L_law_387 {d : Nat} {S : mSh} {M : mMem} {Q : Option mV → mSh → mMem → Prop} {x3 s0 s1 : Int} (kt : s0 = s1 → WP PR d 258 1179 [vA (-1), vA 1, vA 200, vI x3] [] S M Q) (kf : ¬ s0 = s1 → WP PR d 258 390 [vA (-1), vA 1, vA 200, vI x3] [] S M Q) : WP PR d 258 387 [vA (-1), vA 1, vA 200, vI x3] [vI s1, vI s0] S M Q := by
  refine WP.if2 0 390 387 .eq 792 (0, 0, 0, 0) 1179 rfl rfl ?_
  exact ⟨kt, fun hc => kf hc⟩
set_option maxRecDepth 100000 in
theorem b_L_law_390 {d : Nat} {S : mSh} {M : mMem} {Q : Option mV → mSh → mMem → Prop} {x3 : Int} (k : Q (some (vI 0)) S M) : WP PR d 258 390 [vA (-1), vA 1, vA 200, vI x3] [] S M Q := by
  refine WP.re 1 391 .ireturn (0, 0, 0, 0) _ rfl ?_
  exact ⟨rfl, rfl, Or.inl rfl, k⟩
set_option maxRecDepth 100000 in
theorem b_L_law_392 {d : Nat} {S : mSh} {M : mMem} {Q : Option mV → mSh → mMem → Prop} {x3 : Int} (L : Lay S) (hc : R32 (x3 + 1) ∧ (0 ≤ x3 + 1 ∧ x3 + 1 < sL S (-1))) (k : WP PR d 87 0 [vA 1, vI (M (-1) (x3 + 1))] [] S M (fun r S2 M2 => WP PR (d + 1) 258 401 [vA (-1), vA 1, vA 200, vI x3] (r.toList ++ []) S2 M2 Q)) : WP PR (d + 1) 258 392 [vA (-1), vA 1, vA 200, vI x3] [] S M Q := by
  refine WP.ca 6 401 398 (.invokevirtual 36) (0, 87, 0, 0) rfl ?_
  exact And.intro (hc.1) (And.intro (⟨rfl, hc.2⟩) (⟨rfl, rfl, rfl, lo1 L, rfl, k⟩))
set_option maxRecDepth 100000 in
theorem b_L_law_401 {d : Nat} {S : mSh} {M : mMem} {Q : Option mV → mSh → mMem → Prop} {x3 s0 : Int} (L : Lay S) (hc : R32 (x3 + 1) ∧ (0 ≤ x3 + 1 ∧ x3 + 1 < sL S (-1))) (k : WP PR d 161 0 [vA 200, vI (M (-1) (x3 + 1))] [] S M (fun r S2 M2 => WP PR (d + 1) 258 410 [vA (-1), vA 1, vA 200, vI x3] (r.toList ++ [vI s0]) S2 M2 Q)) : WP PR (d + 1) 258 401 [vA (-1), vA 1, vA 200, vI x3] [vI s0] S M Q := by
  refine WP.ca 6 410 407 (.invokevirtual 40) (0, 161, 0, 0) rfl ?_
  exact And.intro (hc.1) (And.intro (⟨rfl, hc.2⟩) (⟨rfl, rfl, rfl, lo200 L, rfl, k⟩))
set_option maxRecDepth 100000 in
theorem b_L_law_410 {d : Nat} {S : mSh} {M : mMem} {Q : Option mV → mSh → mMem → Prop} {x3 s0 s1 : Int} (kt : s0 = s1 → WP PR d 258 1179 [vA (-1), vA 1, vA 200, vI x3] [] S M Q) (kf : ¬ s0 = s1 → WP PR d 258 413 [vA (-1), vA 1, vA 200, vI x3] [] S M Q) : WP PR d 258 410 [vA (-1), vA 1, vA 200, vI x3] [vI s1, vI s0] S M Q := by
  refine WP.if2 0 413 410 .eq 769 (0, 0, 0, 0) 1179 rfl rfl ?_
  exact ⟨kt, fun hc => kf hc⟩
set_option maxRecDepth 100000 in
theorem b_L_law_413 {d : Nat} {S : mSh} {M : mMem} {Q : Option mV → mSh → mMem → Prop} {x3 : Int} (k : Q (some (vI 0)) S M) : WP PR d 258 413 [vA (-1), vA 1, vA 200, vI x3] [] S M Q := by
  refine WP.re 1 414 .ireturn (0, 0, 0, 0) _ rfl ?_
  exact ⟨rfl, rfl, Or.inl rfl, k⟩
set_option maxRecDepth 100000 in
theorem b_L_law_415 {d : Nat} {S : mSh} {M : mMem} {Q : Option mV → mSh → mMem → Prop} {x3 : Int} (L : Lay S) (k : WP PR d 88 0 [vA 1, vU, vU] [] S M (fun r S2 M2 => WP PR (d + 1) 258 419 [vA (-1), vA 1, vA 200, vI x3] (r.toList ++ []) S2 M2 Q)) : WP PR (d + 1) 258 415 [vA (-1), vA 1, vA 200, vI x3] [] S M Q := by
  refine WP.ca 1 419 416 (.invokevirtual 41) (0, 88, 0, 0) rfl ?_
  exact ⟨rfl, rfl, rfl, lo1 L, rfl, k⟩
set_option maxRecDepth 100000 in
theorem b_L_law_419 {d : Nat} {S : mSh} {M : mMem} {Q : Option mV → mSh → mMem → Prop} {x3 s0 : Int} (L : Lay S) (k : WP PR d 157 0 [vA 200, vU, vU, vU, vU] [] S M (fun r S2 M2 => WP PR (d + 1) 258 423 [vA (-1), vA 1, vA 200, vI x3] (r.toList ++ [vI s0]) S2 M2 Q)) : WP PR (d + 1) 258 419 [vA (-1), vA 1, vA 200, vI x3] [vI s0] S M Q := by
  refine WP.ca 1 423 420 (.invokevirtual 45) (0, 157, 0, 0) rfl ?_
  exact ⟨rfl, rfl, rfl, lo200 L, rfl, k⟩
set_option maxRecDepth 100000 in
theorem b_L_law_423 {d : Nat} {S : mSh} {M : mMem} {Q : Option mV → mSh → mMem → Prop} {x3 s0 s1 : Int} (kt : s0 = s1 → WP PR d 258 1179 [vA (-1), vA 1, vA 200, vI x3] [] S M Q) (kf : ¬ s0 = s1 → WP PR d 258 426 [vA (-1), vA 1, vA 200, vI x3] [] S M Q) : WP PR d 258 423 [vA (-1), vA 1, vA 200, vI x3] [vI s1, vI s0] S M Q := by
  refine WP.if2 0 426 423 .eq 756 (0, 0, 0, 0) 1179 rfl rfl ?_
  exact ⟨kt, fun hc => kf hc⟩
set_option maxRecDepth 100000 in
theorem b_L_law_426 {d : Nat} {S : mSh} {M : mMem} {Q : Option mV → mSh → mMem → Prop} {x3 : Int} (k : Q (some (vI 0)) S M) : WP PR d 258 426 [vA (-1), vA 1, vA 200, vI x3] [] S M Q := by
  refine WP.re 1 427 .ireturn (0, 0, 0, 0) _ rfl ?_
  exact ⟨rfl, rfl, Or.inl rfl, k⟩
set_option maxRecDepth 100000 in
theorem b_L_law_428 {d : Nat} {S : mSh} {M : mMem} {Q : Option mV → mSh → mMem → Prop} {x3 : Int} (L : Lay S) (k : WP PR d 89 0 [vA 1] [] S M (fun r S2 M2 => WP PR (d + 1) 258 432 [vA (-1), vA 1, vA 200, vI x3] (r.toList ++ []) S2 M2 Q)) : WP PR (d + 1) 258 428 [vA (-1), vA 1, vA 200, vI x3] [] S M Q := by
  refine WP.ca 1 432 429 (.invokevirtual 46) (0, 89, 0, 0) rfl ?_
  exact ⟨rfl, rfl, rfl, lo1 L, rfl, k⟩
set_option maxRecDepth 100000 in
theorem b_L_law_432 {d : Nat} {S : mSh} {M : mMem} {Q : Option mV → mSh → mMem → Prop} {x3 s0 : Int} (L : Lay S) (k : WP PR d 158 0 [vA 200] [] S M (fun r S2 M2 => WP PR (d + 1) 258 436 [vA (-1), vA 1, vA 200, vI x3] (r.toList ++ [vI s0]) S2 M2 Q)) : WP PR (d + 1) 258 432 [vA (-1), vA 1, vA 200, vI x3] [vI s0] S M Q := by
  refine WP.ca 1 436 433 (.invokevirtual 49) (0, 158, 0, 0) rfl ?_
  exact ⟨rfl, rfl, rfl, lo200 L, rfl, k⟩
set_option maxRecDepth 100000 in
theorem b_L_law_436 {d : Nat} {S : mSh} {M : mMem} {Q : Option mV → mSh → mMem → Prop} {x3 s0 s1 : Int} (kt : s0 = s1 → WP PR d 258 1179 [vA (-1), vA 1, vA 200, vI x3] [] S M Q) (kf : ¬ s0 = s1 → WP PR d 258 439 [vA (-1), vA 1, vA 200, vI x3] [] S M Q) : WP PR d 258 436 [vA (-1), vA 1, vA 200, vI x3] [vI s1, vI s0] S M Q := by
  refine WP.if2 0 439 436 .eq 743 (0, 0, 0, 0) 1179 rfl rfl ?_
  exact ⟨kt, fun hc => kf hc⟩
set_option maxRecDepth 100000 in
theorem b_L_law_439 {d : Nat} {S : mSh} {M : mMem} {Q : Option mV → mSh → mMem → Prop} {x3 : Int} (k : Q (some (vI 0)) S M) : WP PR d 258 439 [vA (-1), vA 1, vA 200, vI x3] [] S M Q := by
  refine WP.re 1 440 .ireturn (0, 0, 0, 0) _ rfl ?_
  exact ⟨rfl, rfl, Or.inl rfl, k⟩
set_option maxRecDepth 100000 in
theorem b_L_law_441 {d : Nat} {S : mSh} {M : mMem} {Q : Option mV → mSh → mMem → Prop} {x3 : Int} (L : Lay S) (k : WP PR d 90 0 [vA 1] [] S M (fun r S2 M2 => WP PR (d + 1) 258 445 [vA (-1), vA 1, vA 200, vI x3] (r.toList ++ []) S2 M2 Q)) : WP PR (d + 1) 258 441 [vA (-1), vA 1, vA 200, vI x3] [] S M Q := by
  refine WP.ca 1 445 442 (.invokevirtual 50) (0, 90, 0, 0) rfl ?_
  exact ⟨rfl, rfl, rfl, lo1 L, rfl, k⟩
set_option maxRecDepth 100000 in
theorem b_L_law_445 {d : Nat} {S : mSh} {M : mMem} {Q : Option mV → mSh → mMem → Prop} {x3 s0 : Int} (L : Lay S) (k : WP PR d 189 0 [vA 200, vU, vU] [] S M (fun r S2 M2 => WP PR (d + 1) 258 449 [vA (-1), vA 1, vA 200, vI x3] (r.toList ++ [vI s0]) S2 M2 Q)) : WP PR (d + 1) 258 445 [vA (-1), vA 1, vA 200, vI x3] [vI s0] S M Q := by
  refine WP.ca 1 449 446 (.invokevirtual 53) (0, 189, 0, 0) rfl ?_
  exact ⟨rfl, rfl, rfl, lo200 L, rfl, k⟩
set_option maxRecDepth 100000 in
theorem b_L_law_449 {d : Nat} {S : mSh} {M : mMem} {Q : Option mV → mSh → mMem → Prop} {x3 s0 s1 : Int} (kt : s0 = s1 → WP PR d 258 1179 [vA (-1), vA 1, vA 200, vI x3] [] S M Q) (kf : ¬ s0 = s1 → WP PR d 258 452 [vA (-1), vA 1, vA 200, vI x3] [] S M Q) : WP PR d 258 449 [vA (-1), vA 1, vA 200, vI x3] [vI s1, vI s0] S M Q := by
  refine WP.if2 0 452 449 .eq 730 (0, 0, 0, 0) 1179 rfl rfl ?_
  exact ⟨kt, fun hc => kf hc⟩
set_option maxRecDepth 100000 in
theorem b_L_law_452 {d : Nat} {S : mSh} {M : mMem} {Q : Option mV → mSh → mMem → Prop} {x3 : Int} (k : Q (some (vI 0)) S M) : WP PR d 258 452 [vA (-1), vA 1, vA 200, vI x3] [] S M Q := by
  refine WP.re 1 453 .ireturn (0, 0, 0, 0) _ rfl ?_
  exact ⟨rfl, rfl, Or.inl rfl, k⟩
set_option maxRecDepth 100000 in
theorem b_L_law_454 {d : Nat} {S : mSh} {M : mMem} {Q : Option mV → mSh → mMem → Prop} {x3 : Int} (L : Lay S) (k : WP PR d 91 0 [vA 1] [] S M (fun r S2 M2 => WP PR (d + 1) 258 458 [vA (-1), vA 1, vA 200, vI x3] (r.toList ++ []) S2 M2 Q)) : WP PR (d + 1) 258 454 [vA (-1), vA 1, vA 200, vI x3] [] S M Q := by
  refine WP.ca 1 458 455 (.invokevirtual 54) (0, 91, 0, 0) rfl ?_
  exact ⟨rfl, rfl, rfl, lo1 L, rfl, k⟩
set_option maxRecDepth 100000 in
theorem b_L_law_458 {d : Nat} {S : mSh} {M : mMem} {Q : Option mV → mSh → mMem → Prop} {x3 s0 : Int} (L : Lay S) (k : WP PR d 221 0 [vA 200, vU, vU] [] S M (fun r S2 M2 => WP PR (d + 1) 258 462 [vA (-1), vA 1, vA 200, vI x3] (r.toList ++ [vI s0]) S2 M2 Q)) : WP PR (d + 1) 258 458 [vA (-1), vA 1, vA 200, vI x3] [vI s0] S M Q := by
  refine WP.ca 1 462 459 (.invokevirtual 57) (0, 221, 0, 0) rfl ?_
  exact ⟨rfl, rfl, rfl, lo200 L, rfl, k⟩
set_option maxRecDepth 100000 in
theorem b_L_law_462 {d : Nat} {S : mSh} {M : mMem} {Q : Option mV → mSh → mMem → Prop} {x3 s0 s1 : Int} (kt : s0 = s1 → WP PR d 258 1179 [vA (-1), vA 1, vA 200, vI x3] [] S M Q) (kf : ¬ s0 = s1 → WP PR d 258 465 [vA (-1), vA 1, vA 200, vI x3] [] S M Q) : WP PR d 258 462 [vA (-1), vA 1, vA 200, vI x3] [vI s1, vI s0] S M Q := by
  refine WP.if2 0 465 462 .eq 717 (0, 0, 0, 0) 1179 rfl rfl ?_
  exact ⟨kt, fun hc => kf hc⟩
set_option maxRecDepth 100000 in
theorem b_L_law_465 {d : Nat} {S : mSh} {M : mMem} {Q : Option mV → mSh → mMem → Prop} {x3 : Int} (k : Q (some (vI 0)) S M) : WP PR d 258 465 [vA (-1), vA 1, vA 200, vI x3] [] S M Q := by
  refine WP.re 1 466 .ireturn (0, 0, 0, 0) _ rfl ?_
  exact ⟨rfl, rfl, Or.inl rfl, k⟩
set_option maxRecDepth 100000 in
theorem b_L_law_467 {d : Nat} {S : mSh} {M : mMem} {Q : Option mV → mSh → mMem → Prop} {x3 : Int} (L : Lay S) (k : WP PR d 92 0 [vA 1] [] S M (fun r S2 M2 => WP PR (d + 1) 258 471 [vA (-1), vA 1, vA 200, vI x3] (r.toList ++ []) S2 M2 Q)) : WP PR (d + 1) 258 467 [vA (-1), vA 1, vA 200, vI x3] [] S M Q := by
  refine WP.ca 1 471 468 (.invokevirtual 58) (0, 92, 0, 0) rfl ?_
  exact ⟨rfl, rfl, rfl, lo1 L, rfl, k⟩
set_option maxRecDepth 100000 in
theorem b_L_law_471 {d : Nat} {S : mSh} {M : mMem} {Q : Option mV → mSh → mMem → Prop} {x3 s0 : Int} (L : Lay S) (k : WP PR d 229 0 [vA 200, vU, vU, vU] [] S M (fun r S2 M2 => WP PR (d + 1) 258 475 [vA (-1), vA 1, vA 200, vI x3] (r.toList ++ [vI s0]) S2 M2 Q)) : WP PR (d + 1) 258 471 [vA (-1), vA 1, vA 200, vI x3] [vI s0] S M Q := by
  refine WP.ca 1 475 472 (.invokevirtual 61) (0, 229, 0, 0) rfl ?_
  exact ⟨rfl, rfl, rfl, lo200 L, rfl, k⟩
set_option maxRecDepth 100000 in
theorem b_L_law_475 {d : Nat} {S : mSh} {M : mMem} {Q : Option mV → mSh → mMem → Prop} {x3 s0 s1 : Int} (kt : s0 = s1 → WP PR d 258 1179 [vA (-1), vA 1, vA 200, vI x3] [] S M Q) (kf : ¬ s0 = s1 → WP PR d 258 478 [vA (-1), vA 1, vA 200, vI x3] [] S M Q) : WP PR d 258 475 [vA (-1), vA 1, vA 200, vI x3] [vI s1, vI s0] S M Q := by
  refine WP.if2 0 478 475 .eq 704 (0, 0, 0, 0) 1179 rfl rfl ?_
  exact ⟨kt, fun hc => kf hc⟩
set_option maxRecDepth 100000 in
theorem b_L_law_478 {d : Nat} {S : mSh} {M : mMem} {Q : Option mV → mSh → mMem → Prop} {x3 : Int} (k : Q (some (vI 0)) S M) : WP PR d 258 478 [vA (-1), vA 1, vA 200, vI x3] [] S M Q := by
  refine WP.re 1 479 .ireturn (0, 0, 0, 0) _ rfl ?_
  exact ⟨rfl, rfl, Or.inl rfl, k⟩
set_option maxRecDepth 100000 in
theorem b_L_law_480 {d : Nat} {S : mSh} {M : mMem} {Q : Option mV → mSh → mMem → Prop} {x3 : Int} (L : Lay S) (k : WP PR d 93 0 [vA 1] [] S M (fun r S2 M2 => WP PR (d + 1) 258 484 [vA (-1), vA 1, vA 200, vI x3] (r.toList ++ []) S2 M2 Q)) : WP PR (d + 1) 258 480 [vA (-1), vA 1, vA 200, vI x3] [] S M Q := by
  refine WP.ca 1 484 481 (.invokevirtual 62) (0, 93, 0, 0) rfl ?_
  exact ⟨rfl, rfl, rfl, lo1 L, rfl, k⟩
set_option maxRecDepth 100000 in
theorem b_L_law_484 {d : Nat} {S : mSh} {M : mMem} {Q : Option mV → mSh → mMem → Prop} {x3 s0 : Int} (L : Lay S) (k : WP PR d 170 0 [vA 200] [] S M (fun r S2 M2 => WP PR (d + 1) 258 488 [vA (-1), vA 1, vA 200, vI x3] (r.toList ++ [vI s0]) S2 M2 Q)) : WP PR (d + 1) 258 484 [vA (-1), vA 1, vA 200, vI x3] [vI s0] S M Q := by
  refine WP.ca 1 488 485 (.invokevirtual 65) (0, 170, 0, 0) rfl ?_
  exact ⟨rfl, rfl, rfl, lo200 L, rfl, k⟩
set_option maxRecDepth 100000 in
theorem b_L_law_488 {d : Nat} {S : mSh} {M : mMem} {Q : Option mV → mSh → mMem → Prop} {x3 s0 s1 : Int} (kt : s0 = s1 → WP PR d 258 1179 [vA (-1), vA 1, vA 200, vI x3] [] S M Q) (kf : ¬ s0 = s1 → WP PR d 258 491 [vA (-1), vA 1, vA 200, vI x3] [] S M Q) : WP PR d 258 488 [vA (-1), vA 1, vA 200, vI x3] [vI s1, vI s0] S M Q := by
  refine WP.if2 0 491 488 .eq 691 (0, 0, 0, 0) 1179 rfl rfl ?_
  exact ⟨kt, fun hc => kf hc⟩
set_option maxRecDepth 100000 in
theorem b_L_law_491 {d : Nat} {S : mSh} {M : mMem} {Q : Option mV → mSh → mMem → Prop} {x3 : Int} (k : Q (some (vI 0)) S M) : WP PR d 258 491 [vA (-1), vA 1, vA 200, vI x3] [] S M Q := by
  refine WP.re 1 492 .ireturn (0, 0, 0, 0) _ rfl ?_
  exact ⟨rfl, rfl, Or.inl rfl, k⟩
set_option maxRecDepth 100000 in
theorem b_L_law_493 {d : Nat} {S : mSh} {M : mMem} {Q : Option mV → mSh → mMem → Prop} {x3 : Int} (L : Lay S) (k : WP PR d 94 0 [vA 1] [] S M (fun r S2 M2 => WP PR (d + 1) 258 497 [vA (-1), vA 1, vA 200, vI x3] (r.toList ++ []) S2 M2 Q)) : WP PR (d + 1) 258 493 [vA (-1), vA 1, vA 200, vI x3] [] S M Q := by
  refine WP.ca 1 497 494 (.invokevirtual 66) (0, 94, 0, 0) rfl ?_
  exact ⟨rfl, rfl, rfl, lo1 L, rfl, k⟩
set_option maxRecDepth 100000 in
theorem b_L_law_497 {d : Nat} {S : mSh} {M : mMem} {Q : Option mV → mSh → mMem → Prop} {x3 s0 : Int} (L : Lay S) (k : WP PR d 232 0 [vA 200] [] S M (fun r S2 M2 => WP PR (d + 1) 258 501 [vA (-1), vA 1, vA 200, vI x3] (r.toList ++ [vI s0]) S2 M2 Q)) : WP PR (d + 1) 258 497 [vA (-1), vA 1, vA 200, vI x3] [vI s0] S M Q := by
  refine WP.ca 1 501 498 (.invokevirtual 69) (0, 232, 0, 0) rfl ?_
  exact ⟨rfl, rfl, rfl, lo200 L, rfl, k⟩
set_option maxRecDepth 100000 in
theorem b_L_law_501 {d : Nat} {S : mSh} {M : mMem} {Q : Option mV → mSh → mMem → Prop} {x3 s0 s1 : Int} (kt : s0 = s1 → WP PR d 258 1179 [vA (-1), vA 1, vA 200, vI x3] [] S M Q) (kf : ¬ s0 = s1 → WP PR d 258 504 [vA (-1), vA 1, vA 200, vI x3] [] S M Q) : WP PR d 258 501 [vA (-1), vA 1, vA 200, vI x3] [vI s1, vI s0] S M Q := by
  refine WP.if2 0 504 501 .eq 678 (0, 0, 0, 0) 1179 rfl rfl ?_
  exact ⟨kt, fun hc => kf hc⟩
set_option maxRecDepth 100000 in
theorem b_L_law_504 {d : Nat} {S : mSh} {M : mMem} {Q : Option mV → mSh → mMem → Prop} {x3 : Int} (k : Q (some (vI 0)) S M) : WP PR d 258 504 [vA (-1), vA 1, vA 200, vI x3] [] S M Q := by
  refine WP.re 1 505 .ireturn (0, 0, 0, 0) _ rfl ?_
  exact ⟨rfl, rfl, Or.inl rfl, k⟩
set_option maxRecDepth 100000 in
theorem b_L_law_506 {d : Nat} {S : mSh} {M : mMem} {Q : Option mV → mSh → mMem → Prop} {x3 : Int} (L : Lay S) (hc : R32 (x3 + 1) ∧ (0 ≤ x3 + 1 ∧ x3 + 1 < sL S (-1))) (k : WP PR d 95 0 [vA 1, vI (M (-1) (x3 + 1)), vU] [] S M (fun r S2 M2 => WP PR (d + 1) 258 515 [vA (-1), vA 1, vA 200, vI x3] (r.toList ++ []) S2 M2 Q)) : WP PR (d + 1) 258 506 [vA (-1), vA 1, vA 200, vI x3] [] S M Q := by
  refine WP.ca 6 515 512 (.invokevirtual 70) (0, 95, 0, 0) rfl ?_
  exact And.intro (hc.1) (And.intro (⟨rfl, hc.2⟩) (⟨rfl, rfl, rfl, lo1 L, rfl, k⟩))
set_option maxRecDepth 100000 in
theorem b_L_law_515 {d : Nat} {S : mSh} {M : mMem} {Q : Option mV → mSh → mMem → Prop} {x3 s0 : Int} (L : Lay S) (hc : R32 (x3 + 1) ∧ (0 ≤ x3 + 1 ∧ x3 + 1 < sL S (-1))) (k : WP PR d 191 0 [vA 200, vI (M (-1) (x3 + 1))] [] S M (fun r S2 M2 => WP PR (d + 1) 258 524 [vA (-1), vA 1, vA 200, vI x3] (r.toList ++ [vI s0]) S2 M2 Q)) : WP PR (d + 1) 258 515 [vA (-1), vA 1, vA 200, vI x3] [vI s0] S M Q := by
  refine WP.ca 6 524 521 (.invokevirtual 73) (0, 191, 0, 0) rfl ?_
  exact And.intro (hc.1) (And.intro (⟨rfl, hc.2⟩) (⟨rfl, rfl, rfl, lo200 L, rfl, k⟩))
set_option maxRecDepth 100000 in
theorem b_L_law_524 {d : Nat} {S : mSh} {M : mMem} {Q : Option mV → mSh → mMem → Prop} {x3 s0 s1 : Int} (kt : s0 = s1 → WP PR d 258 1179 [vA (-1), vA 1, vA 200, vI x3] [] S M Q) (kf : ¬ s0 = s1 → WP PR d 258 527 [vA (-1), vA 1, vA 200, vI x3] [] S M Q) : WP PR d 258 524 [vA (-1), vA 1, vA 200, vI x3] [vI s1, vI s0] S M Q := by
  refine WP.if2 0 527 524 .eq 655 (0, 0, 0, 0) 1179 rfl rfl ?_
  exact ⟨kt, fun hc => kf hc⟩
set_option maxRecDepth 100000 in
theorem b_L_law_527 {d : Nat} {S : mSh} {M : mMem} {Q : Option mV → mSh → mMem → Prop} {x3 : Int} (k : Q (some (vI 0)) S M) : WP PR d 258 527 [vA (-1), vA 1, vA 200, vI x3] [] S M Q := by
  refine WP.re 1 528 .ireturn (0, 0, 0, 0) _ rfl ?_
  exact ⟨rfl, rfl, Or.inl rfl, k⟩
set_option maxRecDepth 100000 in
theorem b_L_law_529 {d : Nat} {S : mSh} {M : mMem} {Q : Option mV → mSh → mMem → Prop} {x3 : Int} (L : Lay S) (hc : R32 (x3 + 1) ∧ (0 ≤ x3 + 1 ∧ x3 + 1 < sL S (-1)) ∧ R32 (x3 + 2) ∧ (0 ≤ x3 + 2 ∧ x3 + 2 < sL S (-1))) (k : WP PR d 96 0 [vA 1, vI (M (-1) (x3 + 1)), vI (M (-1) (x3 + 2))] [] S M (fun r S2 M2 => WP PR (d + 1) 258 543 [vA (-1), vA 1, vA 200, vI x3] (r.toList ++ []) S2 M2 Q)) : WP PR (d + 1) 258 529 [vA (-1), vA 1, vA 200, vI x3] [] S M Q := by
  refine WP.ca 11 543 540 (.invokevirtual 74) (0, 96, 0, 0) rfl ?_
  exact And.intro (hc.1) (And.intro (⟨rfl, hc.2.1⟩) (And.intro (hc.2.2.1) (And.intro (⟨rfl, hc.2.2.2⟩) (⟨rfl, rfl, rfl, lo1 L, rfl, k⟩))))
set_option maxRecDepth 100000 in
theorem b_L_law_543 {d : Nat} {S : mSh} {M : mMem} {Q : Option mV → mSh → mMem → Prop} {x3 s0 : Int} (L : Lay S) (hc : R32 (x3 + 1) ∧ (0 ≤ x3 + 1 ∧ x3 + 1 < sL S (-1)) ∧ R32 (x3 + 2) ∧ (0 ≤ x3 + 2 ∧ x3 + 2 < sL S (-1))) (k : WP PR d 204 0 [vA 200, vI (M (-1) (x3 + 1)), vI (M (-1) (x3 + 2))] [] S M (fun r S2 M2 => WP PR (d + 1) 258 557 [vA (-1), vA 1, vA 200, vI x3] (r.toList ++ [vI s0]) S2 M2 Q)) : WP PR (d + 1) 258 543 [vA (-1), vA 1, vA 200, vI x3] [vI s0] S M Q := by
  refine WP.ca 11 557 554 (.invokevirtual 77) (0, 204, 0, 0) rfl ?_
  exact And.intro (hc.1) (And.intro (⟨rfl, hc.2.1⟩) (And.intro (hc.2.2.1) (And.intro (⟨rfl, hc.2.2.2⟩) (⟨rfl, rfl, rfl, lo200 L, rfl, k⟩))))
set_option maxRecDepth 100000 in
theorem b_L_law_557 {d : Nat} {S : mSh} {M : mMem} {Q : Option mV → mSh → mMem → Prop} {x3 s0 s1 : Int} (kt : s0 = s1 → WP PR d 258 1179 [vA (-1), vA 1, vA 200, vI x3] [] S M Q) (kf : ¬ s0 = s1 → WP PR d 258 560 [vA (-1), vA 1, vA 200, vI x3] [] S M Q) : WP PR d 258 557 [vA (-1), vA 1, vA 200, vI x3] [vI s1, vI s0] S M Q := by
  refine WP.if2 0 560 557 .eq 622 (0, 0, 0, 0) 1179 rfl rfl ?_
  exact ⟨kt, fun hc => kf hc⟩
set_option maxRecDepth 100000 in
theorem b_L_law_560 {d : Nat} {S : mSh} {M : mMem} {Q : Option mV → mSh → mMem → Prop} {x3 : Int} (k : Q (some (vI 0)) S M) : WP PR d 258 560 [vA (-1), vA 1, vA 200, vI x3] [] S M Q := by
  refine WP.re 1 561 .ireturn (0, 0, 0, 0) _ rfl ?_
  exact ⟨rfl, rfl, Or.inl rfl, k⟩
set_option maxRecDepth 100000 in
theorem b_L_law_562 {d : Nat} {S : mSh} {M : mMem} {Q : Option mV → mSh → mMem → Prop} {x3 : Int} (L : Lay S) (hc : R32 (x3 + 1) ∧ (0 ≤ x3 + 1 ∧ x3 + 1 < sL S (-1)) ∧ R32 (x3 + 2) ∧ (0 ≤ x3 + 2 ∧ x3 + 2 < sL S (-1)) ∧ R32 (x3 + 3) ∧ (0 ≤ x3 + 3 ∧ x3 + 3 < sL S (-1))) (k : WP PR d 97 0 [vA 1, vI (M (-1) (x3 + 1)), vI (M (-1) (x3 + 2)), vI (M (-1) (x3 + 3))] [] S M (fun r S2 M2 => WP PR (d + 1) 258 581 [vA (-1), vA 1, vA 200, vI x3] (r.toList ++ []) S2 M2 Q)) : WP PR (d + 1) 258 562 [vA (-1), vA 1, vA 200, vI x3] [] S M Q := by
  refine WP.ca 16 581 578 (.invokevirtual 78) (0, 97, 0, 0) rfl ?_
  exact And.intro (hc.1) (And.intro (⟨rfl, hc.2.1⟩) (And.intro (hc.2.2.1) (And.intro (⟨rfl, hc.2.2.2.1⟩) (And.intro (hc.2.2.2.2.1) (And.intro (⟨rfl, hc.2.2.2.2.2⟩) (⟨rfl, rfl, rfl, lo1 L, rfl, k⟩))))))
set_option maxRecDepth 100000 in
theorem b_L_law_581 {d : Nat} {S : mSh} {M : mMem} {Q : Option mV → mSh → mMem → Prop} {x3 s0 : Int} (L : Lay S) (hc : R32 (x3 + 1) ∧ (0 ≤ x3 + 1 ∧ x3 + 1 < sL S (-1)) ∧ R32 (x3 + 2) ∧ (0 ≤ x3 + 2 ∧ x3 + 2 < sL S (-1)) ∧ R32 (x3 + 3) ∧ (0 ≤ x3 + 3 ∧ x3 + 3 < sL S (-1))) (k : WP PR d 208 0 [vA 200, vI (M (-1) (x3 + 1)), vI (M (-1) (x3 + 2)), vI (M (-1) (x3 + 3))] [] S M (fun r S2 M2 => WP PR (d + 1) 258 600 [vA (-1), vA 1, vA 200, vI x3] (r.toList ++ [vI s0]) S2 M2 Q)) : WP PR (d + 1) 258 581 [vA (-1), vA 1, vA 200, vI x3] [vI s0] S M Q := by
  refine WP.ca 16 600 597 (.invokevirtual 82) (0, 208, 0, 0) rfl ?_
  exact And.intro (hc.1) (And.intro (⟨rfl, hc.2.1⟩) (And.intro (hc.2.2.1) (And.intro (⟨rfl, hc.2.2.2.1⟩) (And.intro (hc.2.2.2.2.1) (And.intro (⟨rfl, hc.2.2.2.2.2⟩) (⟨rfl, rfl, rfl, lo200 L, rfl, k⟩))))))
set_option maxRecDepth 100000 in
theorem b_L_law_600 {d : Nat} {S : mSh} {M : mMem} {Q : Option mV → mSh → mMem → Prop} {x3 s0 s1 : Int} (kt : s0 = s1 → WP PR d 258 1179 [vA (-1), vA 1, vA 200, vI x3] [] S M Q) (kf : ¬ s0 = s1 → WP PR d 258 603 [vA (-1), vA 1, vA 200, vI x3] [] S M Q) : WP PR d 258 600 [vA (-1), vA 1, vA 200, vI x3] [vI s1, vI s0] S M Q := by
  refine WP.if2 0 603 600 .eq 579 (0, 0, 0, 0) 1179 rfl rfl ?_
  exact ⟨kt, fun hc => kf hc⟩
set_option maxRecDepth 100000 in
theorem b_L_law_603 {d : Nat} {S : mSh} {M : mMem} {Q : Option mV → mSh → mMem → Prop} {x3 : Int} (k : Q (some (vI 0)) S M) : WP PR d 258 603 [vA (-1), vA 1, vA 200, vI x3] [] S M Q := by
  refine WP.re 1 604 .ireturn (0, 0, 0, 0) _ rfl ?_
  exact ⟨rfl, rfl, Or.inl rfl, k⟩
set_option maxRecDepth 100000 in
theorem b_L_law_605 {d : Nat} {S : mSh} {M : mMem} {Q : Option mV → mSh → mMem → Prop} {x3 : Int} (L : Lay S) (hc : R32 (x3 + 1) ∧ (0 ≤ x3 + 1 ∧ x3 + 1 < sL S (-1)) ∧ R32 (x3 + 2) ∧ (0 ≤ x3 + 2 ∧ x3 + 2 < sL S (-1))) (k : WP PR d 98 0 [vA 1, vI (M (-1) (x3 + 1)), vI (M (-1) (x3 + 2))] [] S M (fun r S2 M2 => WP PR (d + 1) 258 619 [vA (-1), vA 1, vA 200, vI x3] (r.toList ++ []) S2 M2 Q)) : WP PR (d + 1) 258 605 [vA (-1), vA 1, vA 200, vI x3] [] S M Q := by
  refine WP.ca 11 619 616 (.invokevirtual 83) (0, 98, 0, 0) rfl ?_
  exact And.intro (hc.1) (And.intro (⟨rfl, hc.2.1⟩) (And.intro (hc.2.2.1) (And.intro (⟨rfl, hc.2.2.2⟩) (⟨rfl, rfl, rfl, lo1 L, rfl, k⟩))))
set_option maxRecDepth 100000 in
theorem b_L_law_619 {d : Nat} {S : mSh} {M : mMem} {Q : Option mV → mSh → mMem → Prop} {x3 s0 : Int} (L : Lay S) (hc : R32 (x3 + 1) ∧ (0 ≤ x3 + 1 ∧ x3 + 1 < sL S (-1)) ∧ R32 (x3 + 2) ∧ (0 ≤ x3 + 2 ∧ x3 + 2 < sL S (-1))) (k : WP PR d 212 0 [vA 200, vI (M (-1) (x3 + 1)), vI (M (-1) (x3 + 2))] [] S M (fun r S2 M2 => WP PR (d + 1) 258 633 [vA (-1), vA 1, vA 200, vI x3] (r.toList ++ [vI s0]) S2 M2 Q)) : WP PR (d + 1) 258 619 [vA (-1), vA 1, vA 200, vI x3] [vI s0] S M Q := by
  refine WP.ca 11 633 630 (.invokevirtual 86) (0, 212, 0, 0) rfl ?_
  exact And.intro (hc.1) (And.intro (⟨rfl, hc.2.1⟩) (And.intro (hc.2.2.1) (And.intro (⟨rfl, hc.2.2.2⟩) (⟨rfl, rfl, rfl, lo200 L, rfl, k⟩))))
set_option maxRecDepth 100000 in
theorem b_L_law_633 {d : Nat} {S : mSh} {M : mMem} {Q : Option mV → mSh → mMem → Prop} {x3 s0 s1 : Int} (kt : s0 = s1 → WP PR d 258 1179 [vA (-1), vA 1, vA 200, vI x3] [] S M Q) (kf : ¬ s0 = s1 → WP PR d 258 636 [vA (-1), vA 1, vA 200, vI x3] [] S M Q) : WP PR d 258 633 [vA (-1), vA 1, vA 200, vI x3] [vI s1, vI s0] S M Q := by
  refine WP.if2 0 636 633 .eq 546 (0, 0, 0, 0) 1179 rfl rfl ?_
  exact ⟨kt, fun hc => kf hc⟩
set_option maxRecDepth 100000 in
theorem b_L_law_636 {d : Nat} {S : mSh} {M : mMem} {Q : Option mV → mSh → mMem → Prop} {x3 : Int} (k : Q (some (vI 0)) S M) : WP PR d 258 636 [vA (-1), vA 1, vA 200, vI x3] [] S M Q := by
  refine WP.re 1 637 .ireturn (0, 0, 0, 0) _ rfl ?_
  exact ⟨rfl, rfl, Or.inl rfl, k⟩
set_option maxRecDepth 100000 in
theorem b_L_law_638 {d : Nat} {S : mSh} {M : mMem} {Q : Option mV → mSh → mMem → Prop} {x3 : Int} (L : Lay S) (k : WP PR d 99 0 [vA 1] [] S M (fun r S2 M2 => WP PR (d + 1) 258 642 [vA (-1), vA 1, vA 200, vI x3] (r.toList ++ []) S2 M2 Q)) : WP PR (d + 1) 258 638 [vA (-1), vA 1, vA 200, vI x3] [] S M Q := by
  refine WP.ca 1 642 639 (.invokevirtual 87) (0, 99, 0, 0) rfl ?_
  exact ⟨rfl, rfl, rfl, lo1 L, rfl, k⟩
set_option maxRecDepth 100000 in
theorem b_L_law_642 {d : Nat} {S : mSh} {M : mMem} {Q : Option mV → mSh → mMem → Prop} {x3 s0 : Int} (L : Lay S) (k : WP PR d 216 0 [vA 200] [] S M (fun r S2 M2 => WP PR (d + 1) 258 646 [vA (-1), vA 1, vA 200, vI x3] (r.toList ++ [vI s0]) S2 M2 Q)) : WP PR (d + 1) 258 642 [vA (-1), vA 1, vA 200, vI x3] [vI s0] S M Q := by
  refine WP.ca 1 646 643 (.invokevirtual 90) (0, 216, 0, 0) rfl ?_
  exact ⟨rfl, rfl, rfl, lo200 L, rfl, k⟩
set_option maxRecDepth 100000 in
theorem b_L_law_646 {d : Nat} {S : mSh} {M : mMem} {Q : Option mV → mSh → mMem → Prop} {x3 s0 s1 : Int} (kt : s0 = s1 → WP PR d 258 1179 [vA (-1), vA 1, vA 200, vI x3] [] S M Q) (kf : ¬ s0 = s1 → WP PR d 258 649 [vA (-1), vA 1, vA 200, vI x3] [] S M Q) : WP PR d 258 646 [vA (-1), vA 1, vA 200, vI x3] [vI s1, vI s0] S M Q := by
  refine WP.if2 0 649 646 .eq 533 (0, 0, 0, 0) 1179 rfl rfl ?_
  exact ⟨kt, fun hc => kf hc⟩
set_option maxRecDepth 100000 in
theorem b_L_law_649 {d : Nat} {S : mSh} {M : mMem} {Q : Option mV → mSh → mMem → Prop} {x3 : Int} (k : Q (some (vI 0)) S M) : WP PR d 258 649 [vA (-1), vA 1, vA 200, vI x3] [] S M Q := by
  refine WP.re 1 650 .ireturn (0, 0, 0, 0) _ rfl ?_
  exact ⟨rfl, rfl, Or.inl rfl, k⟩
set_option maxRecDepth 100000 in
theorem b_L_law_651 {d : Nat} {S : mSh} {M : mMem} {Q : Option mV → mSh → mMem → Prop} {x3 : Int} (L : Lay S) (k : WP PR d 100 0 [vA 1, vU] [] S M (fun r S2 M2 => WP PR (d + 1) 258 655 [vA (-1), vA 1, vA 200, vI x3] (r.toList ++ []) S2 M2 Q)) : WP PR (d + 1) 258 651 [vA (-1), vA 1, vA 200, vI x3] [] S M Q := by
  refine WP.ca 1 655 652 (.invokevirtual 91) (0, 100, 0, 0) rfl ?_
  exact ⟨rfl, rfl, rfl, lo1 L, rfl, k⟩
set_option maxRecDepth 100000 in
theorem b_L_law_655 {d : Nat} {S : mSh} {M : mMem} {Q : Option mV → mSh → mMem → Prop} {x3 s0 : Int} (L : Lay S) (k : WP PR d 141 0 [vA 200] [] S M (fun r S2 M2 => WP PR (d + 1) 258 659 [vA (-1), vA 1, vA 200, vI x3] (r.toList ++ [vI s0]) S2 M2 Q)) : WP PR (d + 1) 258 655 [vA (-1), vA 1, vA 200, vI x3] [vI s0] S M Q := by
  refine WP.ca 1 659 656 (.invokevirtual 94) (0, 141, 0, 0) rfl ?_
  exact ⟨rfl, rfl, rfl, lo200 L, rfl, k⟩
set_option maxRecDepth 100000 in
theorem b_L_law_659 {d : Nat} {S : mSh} {M : mMem} {Q : Option mV → mSh → mMem → Prop} {x3 s0 s1 : Int} (kt : s0 = s1 → WP PR d 258 1179 [vA (-1), vA 1, vA 200, vI x3] [] S M Q) (kf : ¬ s0 = s1 → WP PR d 258 662 [vA (-1), vA 1, vA 200, vI x3] [] S M Q) : WP PR d 258 659 [vA (-1), vA 1, vA 200, vI x3] [vI s1, vI s0] S M Q := by
  refine WP.if2 0 662 659 .eq 520 (0, 0, 0, 0) 1179 rfl rfl ?_
  exact ⟨kt, fun hc => kf hc⟩
set_option maxRecDepth 100000 in
theorem b_L_law_662 {d : Nat} {S : mSh} {M : mMem} {Q : Option mV → mSh → mMem → Prop} {x3 : Int} (k : Q (some (vI 0)) S M) : WP PR d 258 662 [vA (-1), vA 1, vA 200, vI x3] [] S M Q := by
  refine WP.re 1 663 .ireturn (0, 0, 0, 0) _ rfl ?_
  exact ⟨rfl, rfl, Or.inl rfl, k⟩
set_option maxRecDepth 100000 in
theorem b_L_law_664 {d : Nat} {S : mSh} {M : mMem} {Q : Option mV → mSh → mMem → Prop} {x3 : Int} (L : Lay S) (hc : R32 (x3 + 1) ∧ (0 ≤ x3 + 1 ∧ x3 + 1 < sL S (-1)) ∧ R32 (x3 + 2) ∧ (0 ≤ x3 + 2 ∧ x3 + 2 < sL S (-1)) ∧ R32 (x3 + 3) ∧ (0 ≤ x3 + 3 ∧ x3 + 3 < sL S (-1)) ∧ R32 (x3 + 4) ∧ (0 ≤ x3 + 4 ∧ x3 + 4 < sL S (-1))) (k : WP PR d 101 0 [vA 1, vI (M (-1) (x3 + 1)), vI (M (-1) (x3 + 2)), vI (M (-1) (x3 + 3)), vI (M (-1) (x3 + 4))] [] S M (fun r S2 M2 => WP PR (d + 1) 258 688 [vA (-1), vA 1, vA 200, vI x3] (r.toList ++ []) S2 M2 Q)) : WP PR (d + 1) 258 664 [vA (-1), vA 1, vA 200, vI x3] [] S M Q := by
  refine WP.ca 21 688 685 (.invokevirtual 95) (0, 101, 0, 0) rfl ?_
  exact And.intro (hc.1) (And.intro (⟨rfl, hc.2.1⟩) (And.intro (hc.2.2.1) (And.intro (⟨rfl, hc.2.2.2.1⟩) (And.intro (hc.2.2.2.2.1) (And.intro (⟨rfl, hc.2.2.2.2.2.1⟩) (And.intro (hc.2.2.2.2.2.2.1) (And.intro (⟨rfl, hc.2.2.2.2.2.2.2⟩) (⟨rfl, rfl, rfl, lo1 L, rfl, k⟩))))))))
set_option maxRecDepth 100000 in
theorem b_L_law_688 {d : Nat} {S : mSh} {M : mMem} {Q : Option mV → mSh → mMem → Prop} {x3 s0 : Int} (L : Lay S) (hc : R32 (x3 + 1) ∧ (0 ≤ x3 + 1 ∧ x3 + 1 < sL S (-1)) ∧ R32 (x3 + 2) ∧ (0 ≤ x3 + 2 ∧ x3 + 2 < sL S (-1)) ∧ R32 (x3 + 3) ∧ (0 ≤ x3 + 3 ∧ x3 + 3 < sL S (-1)) ∧ R32 (x3 + 4) ∧ (0 ≤ x3 + 4 ∧ x3 + 4 < sL S (-1))) (k : WP PR d 236 0 [vA 200, vI (M (-1) (x3 + 1)), vI (M (-1) (x3 + 2)), vI (M (-1) (x3 + 3)), vI (M (-1) (x3 + 4)), vU] [] S M (fun r S2 M2 => WP PR (d + 1) 258 712 [vA (-1), vA 1, vA 200, vI x3] (r.toList ++ [vI s0]) S2 M2 Q)) : WP PR (d + 1) 258 688 [vA (-1), vA 1, vA 200, vI x3] [vI s0] S M Q := by
  refine WP.ca 21 712 709 (.invokevirtual 99) (0, 236, 0, 0) rfl ?_
  exact And.intro (hc.1) (And.intro (⟨rfl, hc.2.1⟩) (And.intro (hc.2.2.1) (And.intro (⟨rfl, hc.2.2.2.1⟩) (And.intro (hc.2.2.2.2.1) (And.intro (⟨rfl, hc.2.2.2.2.2.1⟩) (And.intro (hc.2.2.2.2.2.2.1) (And.intro (⟨rfl, hc.2.2.2.2.2.2.2⟩) (⟨rfl, rfl, rfl, lo200 L, rfl, k⟩))))))))
set_option maxRecDepth 100000 in
theorem b_L_law_712 {d : Nat} {S : mSh} {M : mMem} {Q : Option mV → mSh → mMem → Prop} {x3 s0 s1 : Int} (kt : s0 = s1 → WP PR d 258 1179 [vA (-1), vA 1, vA 200, vI x3] [] S M Q) (kf : ¬ s0 = s1 → WP PR d 258 715 [vA (-1), vA 1, vA 200, vI x3] [] S M Q) : WP PR d 258 712 [vA (-1), vA 1, vA 200, vI x3] [vI s1, vI s0] S M Q := by
  refine WP.if2 0 715 712 .eq 467 (0, 0, 0, 0) 1179 rfl rfl ?_
  exact ⟨kt, fun hc => kf hc⟩
set_option maxRecDepth 100000 in
theorem b_L_law_715 {d : Nat} {S : mSh} {M : mMem} {Q : Option mV → mSh → mMem → Prop} {x3 : Int} (k : Q (some (vI 0)) S M) : WP PR d 258 715 [vA (-1), vA 1, vA 200, vI x3] [] S M Q := by
  refine WP.re 1 716 .ireturn (0, 0, 0, 0) _ rfl ?_
  exact ⟨rfl, rfl, Or.inl rfl, k⟩
set_option maxRecDepth 100000 in
theorem b_L_law_717 {d : Nat} {S : mSh} {M : mMem} {Q : Option mV → mSh → mMem → Prop} {x3 : Int} (L : Lay S) (hc : R32 (x3 + 1) ∧ (0 ≤ x3 + 1 ∧ x3 + 1 < sL S (-1)) ∧ R32 (x3 + 2) ∧ (0 ≤ x3 + 2 ∧ x3 + 2 < sL S (-1)) ∧ R32 (x3 + 3) ∧ (0 ≤ x3 + 3 ∧ x3 + 3 < sL S (-1))) (k : WP PR d 102 0 [vA 1, vI (M (-1) (x3 + 1)), vI (M (-1) (x3 + 2)), vI (M (-1) (x3 + 3)), vU] [] S M (fun r S2 M2 => WP PR (d + 1) 258 736 [vA (-1), vA 1, vA 200, vI x3] (r.toList ++ []) S2 M2 Q)) : WP PR (d + 1) 258 717 [vA (-1), vA 1, vA 200, vI x3] [] S M Q := by
  refine WP.ca 16 736 733 (.invokevirtual 100) (0, 102, 0, 0) rfl ?_
  exact And.intro (hc.1) (And.intro (⟨rfl, hc.2.1⟩) (And.intro (hc.2.2.1) (And.intro (⟨rfl, hc.2.2.2.1⟩) (And.intro (hc.2.2.2.2.1) (And.intro (⟨rfl, hc.2.2.2.2.2⟩) (⟨rfl, rfl, rfl, lo1 L, rfl, k⟩))))))
set_option maxRecDepth 100000 in
theorem b_L_law_736 {d : Nat} {S : mSh} {M : mMem} {Q : Option mV → mSh → mMem → Prop} {x3 s0 : Int} (L : Lay S) (hc : R32 (x3 + 1) ∧ (0 ≤ x3 + 1 ∧ x3 + 1 < sL S (-1)) ∧ R32 (x3 + 2) ∧ (0 ≤ x3 + 2 ∧ x3 + 2 < sL S (-1)) ∧ R32 (x3 + 3) ∧ (0 ≤ x3 + 3 ∧ x3 + 3 < sL S (-1))) (k : WP PR d 237 0 [vA 200, vI (M (-1) (x3 + 1)), vI (M (-1) (x3 + 2)), vI (M (-1) (x3 + 3)), vU] [] S M (fun r S2 M2 => WP PR (d + 1) 258 755 [vA (-1), vA 1, vA 200, vI x3] (r.toList ++ [vI s0]) S2 M2 Q)) : WP PR (d + 1) 258 736 [vA (-1), vA 1, vA 200, vI x3] [vI s0] S M Q := by
  refine WP.ca 16 755 752 (.invokevirtual 103) (0, 237, 0, 0) rfl ?_
  exact And.intro (hc.1) (And.intro (⟨rfl, hc.2.1⟩) (And.intro (hc.2.2.1) (And.intro (⟨rfl, hc.2.2.2.1⟩) (And.intro (hc.2.2.2.2.1) (And.intro (⟨rfl, hc.2.2.2.2.2⟩) (⟨rfl, rfl, rfl, lo200 L, rfl, k⟩))))))
set_option maxRecDepth 100000 in
theorem b_L_law_755 {d : Nat} {S : mSh} {M : mMem} {Q : Option mV → mSh → mMem → Prop} {x3 s0 s1 : Int} (kt : s0 = s1 → WP PR d 258 1179 [vA (-1), vA 1, vA 200, vI x3] [] S M Q) (kf : ¬ s0 = s1 → WP PR d 258 758 [vA (-1), vA 1, vA 200, vI x3] [] S M Q) : WP PR d 258 755 [vA (-1), vA 1, vA 200, vI x3] [vI s1, vI s0] S M Q := by
  refine WP.if2 0 758 755 .eq 424 (0, 0, 0, 0) 1179 rfl rfl ?_
  exact ⟨kt, fun hc => kf hc⟩
set_option maxRecDepth 100000 in
theorem b_L_law_758 {d : Nat} {S : mSh} {M : mMem} {Q : Option mV → mSh → mMem → Prop} {x3 : Int} (k : Q (some (vI 0)) S M) : WP PR d 258 758 [vA (-1), vA 1, vA 200, vI x3] [] S M Q := by
  refine WP.re 1 759 .ireturn (0, 0, 0, 0) _ rfl ?_
  exact ⟨rfl, rfl, Or.inl rfl, k⟩
set_option maxRecDepth 100000 in
theorem b_L_law_760 {d : Nat} {S : mSh} {M : mMem} {Q : Option mV → mSh → mMem → Prop} {x3 : Int} (L : Lay S) (hc : R32 (x3 + 1) ∧ (0 ≤ x3 + 1 ∧ x3 + 1 < sL S (-1)) ∧ R32 (x3 + 2) ∧ (0 ≤ x3 + 2 ∧ x3 + 2 < sL S (-1))) (k : WP PR d 103 0 [vA 1, vI (M (-1) (x3 + 1)), vI (M (-1) (x3 + 2)), vU, vU] [] S M (fun r S2 M2 => WP PR (d + 1) 258 774 [vA (-1), vA 1, vA 200, vI x3] (r.toList ++ []) S2 M2 Q)) : WP PR (d + 1) 258 760 [vA (-1), vA 1, vA 200, vI x3] [] S M Q := by
  refine WP.ca 11 774 771 (.invokevirtual 104) (0, 103, 0, 0) rfl ?_
  exact And.intro (hc.1) (And.intro (⟨rfl, hc.2.1⟩) (And.intro (hc.2.2.1) (And.intro (⟨rfl, hc.2.2.2⟩) (⟨rfl, rfl, rfl, lo1 L, rfl, k⟩))))
set_option maxRecDepth 100000 in
theorem b_L_law_774 {d : Nat} {S : mSh} {M : mMem} {Q : Option mV → mSh → mMem → Prop} {x3 s0 : Int} (L : Lay S) (hc : R32 (x3 + 1) ∧ (0 ≤ x3 + 1 ∧ x3 + 1 < sL S (-1)) ∧ R32 (x3 + 2) ∧ (0 ≤ x3 + 2 ∧ x3 + 2 < sL S (-1))) (k : WP PR d 238 0 [vA 200, vI (M (-1) (x3 + 1)), vI (M (-1) (x3 + 2)), vU, vU, vU] [] S M (fun r S2 M2 => WP PR (d + 1) 258 788 [vA (-1), vA 1, vA 200, vI x3] (r.toList ++ [vI s0]) S2 M2 Q)) : WP PR (d + 1) 258 774 [vA (-1), vA 1, vA 200, vI x3] [vI s0] S M Q := by
  refine WP.ca 11 788 785 (.invokevirtual 107) (0, 238, 0, 0) rfl ?_
  exact And.intro (hc.1) (And.intro (⟨rfl, hc.2.1⟩) (And.intro (hc.2.2.1) (And.intro (⟨rfl, hc.2.2.2⟩) (⟨rfl, rfl, rfl, lo200 L, rfl, k⟩))))
set_option maxRecDepth 100000 in
theorem b_L_law_788 {d : Nat} {S : mSh} {M : mMem} {Q : Option mV → mSh → mMem → Prop} {x3 s0 s1 : Int} (kt : s0 = s1 → WP PR d 258 1179 [vA (-1), vA 1, vA 200, vI x3] [] S M Q) (kf : ¬ s0 = s1 → WP PR d 258 791 [vA (-1), vA 1, vA 200, vI x3] [] S M Q) : WP PR d 258 788 [vA (-1), vA 1, vA 200, vI x3] [vI s1, vI s0] S M Q := by
  refine WP.if2 0 791 788 .eq 391 (0, 0, 0, 0) 1179 rfl rfl ?_
  exact ⟨kt, fun hc => kf hc⟩
set_option maxRecDepth 100000 in
theorem b_L_law_791 {d : Nat} {S : mSh} {M : mMem} {Q : Option mV → mSh → mMem → Prop} {x3 : Int} (k : Q (some (vI 0)) S M) : WP PR d 258 791 [vA (-1), vA 1, vA 200, vI x3] [] S M Q := by
  refine WP.re 1 792 .ireturn (0, 0, 0, 0) _ rfl ?_
  exact ⟨rfl, rfl, Or.inl rfl, k⟩
set_option maxRecDepth 100000 in
theorem b_L_law_793 {d : Nat} {S : mSh} {M : mMem} {Q : Option mV → mSh → mMem → Prop} {x3 : Int} (L : Lay S) (hc : R32 (x3 + 1) ∧ (0 ≤ x3 + 1 ∧ x3 + 1 < sL S (-1))) (k : WP PR d 104 0 [vA 1, vI (M (-1) (x3 + 1)), vU] [] S M (fun r S2 M2 => WP PR (d + 1) 258 802 [vA (-1), vA 1, vA 200, vI x3] (r.toList ++ []) S2 M2 Q)) : WP PR (d + 1) 258 793 [vA (-1), vA 1, vA 200, vI x3] [] S M Q := by
  refine WP.ca 6 802 799 (.invokevirtual 108) (0, 104, 0, 0) rfl ?_
  exact And.intro (hc.1) (And.intro (⟨rfl, hc.2⟩) (⟨rfl, rfl, rfl, lo1 L, rfl, k⟩))
set_option maxRecDepth 100000 in
theorem b_L_law_802 {d : Nat} {S : mSh} {M : mMem} {Q : Option mV → mSh → mMem → Prop} {x3 s0 : Int} (L : Lay S) (hc : R32 (x3 + 1) ∧ (0 ≤ x3 + 1 ∧ x3 + 1 < sL S (-1))) (k : WP PR d 239 0 [vA 200, vI (M (-1) (x3 + 1)), vU, vU] [] S M (fun r S2 M2 => WP PR (d + 1) 258 811 [vA (-1), vA 1, vA 200, vI x3] (r.toList ++ [vI s0]) S2 M2 Q)) : WP PR (d + 1) 258 802 [vA (-1), vA 1, vA 200, vI x3] [vI s0] S M Q := by
  refine WP.ca 6 811 808 (.invokevirtual 111) (0, 239, 0, 0) rfl ?_
  exact And.intro (hc.1) (And.intro (⟨rfl, hc.2⟩) (⟨rfl, rfl, rfl, lo200 L, rfl, k⟩))
set_option maxRecDepth 100000 in
theorem b_L_law_811 {d : Nat} {S : mSh} {M : mMem} {Q : Option mV → mSh → mMem → Prop} {x3 s0 s1 : Int} (kt : s0 = s1 → WP PR d 258 1179 [vA (-1), vA 1, vA 200, vI x3] [] S M Q) (kf : ¬ s0 = s1 → WP PR d 258 814 [vA (-1), vA 1, vA 200, vI x3] [] S M Q) : WP PR d 258 811 [vA (-1), vA 1, vA 200, vI x3] [vI s1, vI s0] S M Q := by
  refine WP.if2 0 814 811 .eq 368 (0, 0, 0, 0) 1179 rfl rfl ?_
  exact ⟨kt, fun hc => kf hc⟩
set_option maxRecDepth 100000 in
theorem b_L_law_814 {d : Nat} {S : mSh} {M : mMem} {Q : Option mV → mSh → mMem → Prop} {x3 : Int} (k : Q (some (vI 0)) S M) : WP PR d 258 814 [vA (-1), vA 1, vA 200, vI x3] [] S M Q := by
  refine WP.re 1 815 .ireturn (0, 0, 0, 0) _ rfl ?_
  exact ⟨rfl, rfl, Or.inl rfl, k⟩
set_option maxRecDepth 100000 in
theorem b_L_law_816 {d : Nat} {S : mSh} {M : mMem} {Q : Option mV → mSh → mMem → Prop} {x3 : Int} (L : Lay S) (hc : R32 (x3 + 1) ∧ (0 ≤ x3 + 1 ∧ x3 + 1 < sL S (-1)) ∧ R32 (x3 + 2) ∧ (0 ≤ x3 + 2 ∧ x3 + 2 < sL S (-1))) (k : WP PR d 105 0 [vA 1, vI (M (-1) (x3 + 1)), vI (M (-1) (x3 + 2))] [] S M (fun r S2 M2 => WP PR (d + 1) 258 830 [vA (-1), vA 1, vA 200, vI x3] (r.toList ++ []) S2 M2 Q)) : WP PR (d + 1) 258 816 [vA (-1), vA 1, vA 200, vI x3] [] S M Q := by
  refine WP.ca 11 830 827 (.invokevirtual 112) (0, 105, 0, 0) rfl ?_
  exact And.intro (hc.1) (And.intro (⟨rfl, hc.2.1⟩) (And.intro (hc.2.2.1) (And.intro (⟨rfl, hc.2.2.2⟩) (⟨rfl, rfl, rfl, lo1 L, rfl, k⟩))))
set_option maxRecDepth 100000 in
theorem b_L_law_830 {d : Nat} {S : mSh} {M : mMem} {Q : Option mV → mSh → mMem → Prop} {x3 s0 : Int} (L : Lay S) (hc : R32 (x3 + 1) ∧ (0 ≤ x3 + 1 ∧ x3 + 1 < sL S (-1)) ∧ R32 (x3 + 2) ∧ (0 ≤ x3 + 2 ∧ x3 + 2 < sL S (-1))) (k : WP PR d 241 0 [vA 200, vI (M (-1) (x3 + 1)), vI (M (-1) (x3 + 2))] [] S M (fun r S2 M2 => WP PR (d + 1) 258 844 [vA (-1), vA 1, vA 200, vI x3] (r.toList ++ [vI s0]) S2 M2 Q)) : WP PR (d + 1) 258 830 [vA (-1), vA 1, vA 200, vI x3] [vI s0] S M Q := by
  refine WP.ca 11 844 841 (.invokevirtual 115) (0, 241, 0, 0) rfl ?_
  exact And.intro (hc.1) (And.intro (⟨rfl, hc.2.1⟩) (And.intro (hc.2.2.1) (And.intro (⟨rfl, hc.2.2.2⟩) (⟨rfl, rfl, rfl, lo200 L, rfl, k⟩))))
set_option maxRecDepth 100000 in
theorem b_L_law_844 {d : Nat} {S : mSh} {M : mMem} {Q : Option mV → mSh → mMem → Prop} {x3 s0 s1 : Int} (kt : s0 = s1 → WP PR d 258 1179 [vA (-1), vA 1, vA 200, vI x3] [] S M Q) (kf : ¬ s0 = s1 → WP PR d 258 847 [vA (-1), vA 1, vA 200, vI x3] [] S M Q) : WP PR d 258 844 [vA (-1), vA 1, vA 200, vI x3] [vI s1, vI s0] S M Q := by
  refine WP.if2 0 847 844 .eq 335 (0, 0, 0, 0) 1179 rfl rfl ?_
  exact ⟨kt, fun hc => kf hc⟩
set_option maxRecDepth 100000 in
theorem b_L_law_847 {d : Nat} {S : mSh} {M : mMem} {Q : Option mV → mSh → mMem → Prop} {x3 : Int} (k : Q (some (vI 0)) S M) : WP PR d 258 847 [vA (-1), vA 1, vA 200, vI x3] [] S M Q := by
  refine WP.re 1 848 .ireturn (0, 0, 0, 0) _ rfl ?_
  exact ⟨rfl, rfl, Or.inl rfl, k⟩
set_option maxRecDepth 100000 in
theorem b_L_law_849 {d : Nat} {S : mSh} {M : mMem} {Q : Option mV → mSh → mMem → Prop} {x3 : Int} (L : Lay S) (hc : R32 (x3 + 1) ∧ (0 ≤ x3 + 1 ∧ x3 + 1 < sL S (-1)) ∧ R32 (x3 + 2) ∧ (0 ≤ x3 + 2 ∧ x3 + 2 < sL S (-1))) (k : WP PR d 106 0 [vA 1, vI (M (-1) (x3 + 1)), vI (M (-1) (x3 + 2)), vU, vU, vU] [] S M (fun r S2 M2 => WP PR (d + 1) 258 863 [vA (-1), vA 1, vA 200, vI x3] (r.toList ++ []) S2 M2 Q)) : WP PR (d + 1) 258 849 [vA (-1), vA 1, vA 200, vI x3] [] S M Q := by
  refine WP.ca 11 863 860 (.invokevirtual 116) (0, 106, 0, 0) rfl ?_
  exact And.intro (hc.1) (And.intro (⟨rfl, hc.2.1⟩) (And.intro (hc.2.2.1) (And.intro (⟨rfl, hc.2.2.2⟩) (⟨rfl, rfl, rfl, lo1 L, rfl, k⟩))))
set_option maxRecDepth 100000 in
theorem b_L_law_863 {d : Nat} {S : mSh} {M : mMem} {Q : Option mV → mSh → mMem → Prop} {x3 s0 : Int} (L : Lay S) (hc : R32 (x3 + 1) ∧ (0 ≤ x3 + 1 ∧ x3 + 1 < sL S (-1)) ∧ R32 (x3 + 2) ∧ (0 ≤ x3 + 2 ∧ x3 + 2 < sL S (-1))) (k : WP PR d 242 0 [vA 200, vI (M (-1) (x3 + 1)), vI (M (-1) (x3 + 2)), vU, vU, vU, vU, vU] [] S M (fun r S2 M2 => WP PR (d + 1) 258 877 [vA (-1), vA 1, vA 200, vI x3] (r.toList ++ [vI s0]) S2 M2 Q)) : WP PR (d + 1) 258 863 [vA (-1), vA 1, vA 200, vI x3] [vI s0] S M Q := by
  refine WP.ca 11 877 874 (.invokevirtual 119) (0, 242, 0, 0) rfl ?_
  exact And.intro (hc.1) (And.intro (⟨rfl, hc.2.1⟩) (And.intro (hc.2.2.1) (And.intro (⟨rfl, hc.2.2.2⟩) (⟨rfl, rfl, rfl, lo200 L, rfl, k⟩))))
set_option maxRecDepth 100000 in
theorem b_L_law_877 {d : Nat} {S : mSh} {M : mMem} {Q : Option mV → mSh → mMem → Prop} {x3 s0 s1 : Int} (kt : s0 = s1 → WP PR d 258 1179 [vA (-1), vA 1, vA 200, vI x3] [] S M Q) (kf : ¬ s0 = s1 → WP PR d 258 880 [vA (-1), vA 1, vA 200, vI x3] [] S M Q) : WP PR d 258 877 [vA (-1), vA 1, vA 200, vI x3] [vI s1, vI s0] S M Q := by
  refine WP.if2 0 880 877 .eq 302 (0, 0, 0, 0) 1179 rfl rfl ?_
  exact ⟨kt, fun hc => kf hc⟩
set_option maxRecDepth 100000 in
theorem b_L_law_880 {d : Nat} {S : mSh} {M : mMem} {Q : Option mV → mSh → mMem → Prop} {x3 : Int} (k : Q (some (vI 0)) S M) : WP PR d 258 880 [vA (-1), vA 1, vA 200, vI x3] [] S M Q := by
  refine WP.re 1 881 .ireturn (0, 0, 0, 0) _ rfl ?_
  exact ⟨rfl, rfl, Or.inl rfl, k⟩
set_option maxRecDepth 100000 in
theorem b_L_law_882 {d : Nat} {S : mSh} {M : mMem} {Q : Option mV → mSh → mMem → Prop} {x3 : Int} (L : Lay S) (hc : R32 (x3 + 1) ∧ (0 ≤ x3 + 1 ∧ x3 + 1 < sL S (-1)) ∧ R32 (x3 + 2) ∧ (0 ≤ x3 + 2 ∧ x3 + 2 < sL S (-1))) (k : WP PR d 107 0 [vA 1, vI (M (-1) (x3 + 1)), vI (M (-1) (x3 + 2))] [] S M (fun r S2 M2 => WP PR (d + 1) 258 896 [vA (-1), vA 1, vA 200, vI x3] (r.toList ++ []) S2 M2 Q)) : WP PR (d + 1) 258 882 [vA (-1), vA 1, vA 200, vI x3] [] S M Q := by
  refine WP.ca 11 896 893 (.invokevirtual 120) (0, 107, 0, 0) rfl ?_
  exact And.intro (hc.1) (And.intro (⟨rfl, hc.2.1⟩) (And.intro (hc.2.2.1) (And.intro (⟨rfl, hc.2.2.2⟩) (⟨rfl, rfl, rfl, lo1 L, rfl, k⟩))))
set_option maxRecDepth 100000 in
theorem b_L_law_896 {d : Nat} {S : mSh} {M : mMem} {Q : Option mV → mSh → mMem → Prop} {x3 s0 : Int} (L : Lay S) (hc : R32 (x3 + 1) ∧ (0 ≤ x3 + 1 ∧ x3 + 1 < sL S (-1)) ∧ R32 (x3 + 2) ∧ (0 ≤ x3 + 2 ∧ x3 + 2 < sL S (-1))) (k : WP PR d 243 0 [vA 200, vI (M (-1) (x3 + 1)), vI (M (-1) (x3 + 2)), vU] [] S M (fun r S2 M2 => WP PR (d + 1) 258 910 [vA (-1), vA 1, vA 200, vI x3] (r.toList ++ [vI s0]) S2 M2 Q)) : WP PR (d + 1) 258 896 [vA (-1), vA 1, vA 200, vI x3] [vI s0] S M Q := by
  refine WP.ca 11 910 907 (.invokevirtual 123) (0, 243, 0, 0) rfl ?_
  exact And.intro (hc.1) (And.intro (⟨rfl, hc.2.1⟩) (And.intro (hc.2.2.1) (And.intro (⟨rfl, hc.2.2.2⟩) (⟨rfl, rfl, rfl, lo200 L, rfl, k⟩))))
set_option maxRecDepth 100000 in
theorem b_L_law_910 {d : Nat} {S : mSh} {M : mMem} {Q : Option mV → mSh → mMem → Prop} {x3 s0 s1 : Int} (kt : s0 = s1 → WP PR d 258 1179 [vA (-1), vA 1, vA 200, vI x3] [] S M Q) (kf : ¬ s0 = s1 → WP PR d 258 913 [vA (-1), vA 1, vA 200, vI x3] [] S M Q) : WP PR d 258 910 [vA (-1), vA 1, vA 200, vI x3] [vI s1, vI s0] S M Q := by
  refine WP.if2 0 913 910 .eq 269 (0, 0, 0, 0) 1179 rfl rfl ?_
  exact ⟨kt, fun hc => kf hc⟩
set_option maxRecDepth 100000 in
theorem b_L_law_913 {d : Nat} {S : mSh} {M : mMem} {Q : Option mV → mSh → mMem → Prop} {x3 : Int} (k : Q (some (vI 0)) S M) : WP PR d 258 913 [vA (-1), vA 1, vA 200, vI x3] [] S M Q := by
  refine WP.re 1 914 .ireturn (0, 0, 0, 0) _ rfl ?_
  exact ⟨rfl, rfl, Or.inl rfl, k⟩
set_option maxRecDepth 100000 in
theorem b_L_law_915 {d : Nat} {S : mSh} {M : mMem} {Q : Option mV → mSh → mMem → Prop} {x3 : Int} (L : Lay S) (k : WP PR d 108 0 [vA 1, vU] [] S M (fun r S2 M2 => WP PR (d + 1) 258 919 [vA (-1), vA 1, vA 200, vI x3] (r.toList ++ []) S2 M2 Q)) : WP PR (d + 1) 258 915 [vA (-1), vA 1, vA 200, vI x3] [] S M Q := by
  refine WP.ca 1 919 916 (.invokevirtual 124) (0, 108, 0, 0) rfl ?_
  exact ⟨rfl, rfl, rfl, lo1 L, rfl, k⟩
set_option maxRecDepth 100000 in
theorem b_L_law_919 {d : Nat} {S : mSh} {M : mMem} {Q : Option mV → mSh → mMem → Prop} {x3 s0 : Int} (L : Lay S) (k : WP PR d 244 0 [vA 200, vU] [] S M (fun r S2 M2 => WP PR (d + 1) 258 923 [vA (-1), vA 1, vA 200, vI x3] (r.toList ++ [vI s0]) S2 M2 Q)) : WP PR (d + 1) 258 919 [vA (-1), vA 1, vA 200, vI x3] [vI s0] S M Q := by
  refine WP.ca 1 923 920 (.invokevirtual 127) (0, 244, 0, 0) rfl ?_
  exact ⟨rfl, rfl, rfl, lo200 L, rfl, k⟩
set_option maxRecDepth 100000 in
theorem b_L_law_923 {d : Nat} {S : mSh} {M : mMem} {Q : Option mV → mSh → mMem → Prop} {x3 s0 s1 : Int} (kt : s0 = s1 → WP PR d 258 1179 [vA (-1), vA 1, vA 200, vI x3] [] S M Q) (kf : ¬ s0 = s1 → WP PR d 258 926 [vA (-1), vA 1, vA 200, vI x3] [] S M Q) : WP PR d 258 923 [vA (-1), vA 1, vA 200, vI x3] [vI s1, vI s0] S M Q := by
  refine WP.if2 0 926 923 .eq 256 (0, 0, 0, 0) 1179 rfl rfl ?_
  exact ⟨kt, fun hc => kf hc⟩
set_option maxRecDepth 100000 in
theorem b_L_law_926 {d : Nat} {S : mSh} {M : mMem} {Q : Option mV → mSh → mMem → Prop} {x3 : Int} (k : Q (some (vI 0)) S M) : WP PR d 258 926 [vA (-1), vA 1, vA 200, vI x3] [] S M Q := by
  refine WP.re 1 927 .ireturn (0, 0, 0, 0) _ rfl ?_
  exact ⟨rfl, rfl, Or.inl rfl, k⟩
set_option maxRecDepth 100000 in
theorem b_L_law_928 {d : Nat} {S : mSh} {M : mMem} {Q : Option mV → mSh → mMem → Prop} {x3 : Int} (L : Lay S) (k : WP PR d 109 0 [vA 1, vU, vU] [] S M (fun r S2 M2 => WP PR (d + 1) 258 932 [vA (-1), vA 1, vA 200, vI x3] (r.toList ++ []) S2 M2 Q)) : WP PR (d + 1) 258 928 [vA (-1), vA 1, vA 200, vI x3] [] S M Q := by
  refine WP.ca 1 932 929 (.invokevirtual 128) (0, 109, 0, 0) rfl ?_
  exact ⟨rfl, rfl, rfl, lo1 L, rfl, k⟩
set_option maxRecDepth 100000 in
theorem b_L_law_932 {d : Nat} {S : mSh} {M : mMem} {Q : Option mV → mSh → mMem → Prop} {x3 s0 : Int} (L : Lay S) (k : WP PR d 247 0 [vA 200] [] S M (fun r S2 M2 => WP PR (d + 1) 258 936 [vA (-1), vA 1, vA 200, vI x3] (r.toList ++ [vI s0]) S2 M2 Q)) : WP PR (d + 1) 258 932 [vA (-1), vA 1, vA 200, vI x3] [vI s0] S M Q := by
  refine WP.ca 1 936 933 (.invokevirtual 131) (0, 247, 0, 0) rfl ?_
  exact ⟨rfl, rfl, rfl, lo200 L, rfl, k⟩
set_option maxRecDepth 100000 in
theorem b_L_law_936 {d : Nat} {S : mSh} {M : mMem} {Q : Option mV → mSh → mMem → Prop} {x3 s0 s1 : Int} (kt : s0 = s1 → WP PR d 258 1179 [vA (-1), vA 1, vA 200, vI x3] [] S M Q) (kf : ¬ s0 = s1 → WP PR d 258 939 [vA (-1), vA 1, vA 200, vI x3] [] S M Q) : WP PR d 258 936 [vA (-1), vA 1, vA 200, vI x3] [vI s1, vI s0] S M Q := by
  refine WP.if2 0 939 936 .eq 243 (0, 0, 0, 0) 1179 rfl rfl ?_
  exact ⟨kt, fun hc => kf hc⟩
set_option maxRecDepth 100000 in
theorem b_L_law_939 {d : Nat} {S : mSh} {M : mMem} {Q : Option mV → mSh → mMem → Prop} {x3 : Int} (k : Q (some (vI 0)) S M) : WP PR d 258 939 [vA (-1), vA 1, vA 200, vI x3] [] S M Q := by
  refine WP.re 1 940 .ireturn (0, 0, 0, 0) _ rfl ?_
  exact ⟨rfl, rfl, Or.inl rfl, k⟩
set_option maxRecDepth 100000 in
theorem b_L_law_941 {d : Nat} {S : mSh} {M : mMem} {Q : Option mV → mSh → mMem → Prop} {x3 : Int} (L : Lay S) (hc : R32 (x3 + 1) ∧ (0 ≤ x3 + 1 ∧ x3 + 1 < sL S (-1))) (k : WP PR d 110 0 [vA 1, vI (M (-1) (x3 + 1)), vU, vU, vU, vU, vU] [] S M (fun r S2 M2 => WP PR (d + 1) 258 950 [vA (-1), vA 1, vA 200, vI x3] (r.toList ++ []) S2 M2 Q)) : WP PR (d + 1) 258 941 [vA (-1), vA 1, vA 200, vI x3] [] S M Q := by
  refine WP.ca 6 950 947 (.invokevirtual 132) (0, 110, 0, 0) rfl ?_
  exact And.intro (hc.1) (And.intro (⟨rfl, hc.2⟩) (⟨rfl, rfl, rfl, lo1 L, rfl, k⟩))
set_option maxRecDepth 100000 in
theorem b_L_law_950 {d : Nat} {S : mSh} {M : mMem} {Q : Option mV → mSh → mMem → Prop} {x3 s0 : Int} (L : Lay S) (hc : R32 (x3 + 1) ∧ (0 ≤ x3 + 1 ∧ x3 + 1 < sL S (-1))) (k : WP PR d 249 0 [vA 200, vI (M (-1) (x3 + 1)), vU, vU, vU, vU, vU] [] S M (fun r S2 M2 => WP PR (d + 1) 258 959 [vA (-1), vA 1, vA 200, vI x3] (r.toList ++ [vI s0]) S2 M2 Q)) : WP PR (d + 1) 258 950 [vA (-1), vA 1, vA 200, vI x3] [vI s0] S M Q := by
  refine WP.ca 6 959 956 (.invokevirtual 135) (0, 249, 0, 0) rfl ?_
  exact And.intro (hc.1) (And.intro (⟨rfl, hc.2⟩) (⟨rfl, rfl, rfl, lo200 L, rfl, k⟩))
set_option maxRecDepth 100000 in
theorem b_L_law_959 {d : Nat} {S : mSh} {M : mMem} {Q : Option mV → mSh → mMem → Prop} {x3 s0 s1 : Int} (kt : s0 = s1 → WP PR d 258 1179 [vA (-1), vA 1, vA 200, vI x3] [] S M Q) (kf : ¬ s0 = s1 → WP PR d 258 962 [vA (-1), vA 1, vA 200, vI x3] [] S M Q) : WP PR d 258 959 [vA (-1), vA 1, vA 200, vI x3] [vI s1, vI s0] S M Q := by
  refine WP.if2 0 962 959 .eq 220 (0, 0, 0, 0) 1179 rfl rfl ?_
  exact ⟨kt, fun hc => kf hc⟩
set_option maxRecDepth 100000 in
theorem b_L_law_962 {d : Nat} {S : mSh} {M : mMem} {Q : Option mV → mSh → mMem → Prop} {x3 : Int} (k : Q (some (vI 0)) S M) : WP PR d 258 962 [vA (-1), vA 1, vA 200, vI x3] [] S M Q := by
  refine WP.re 1 963 .ireturn (0, 0, 0, 0) _ rfl ?_
  exact ⟨rfl, rfl, Or.inl rfl, k⟩
set_option maxRecDepth 100000 in
theorem b_L_law_964 {d : Nat} {S : mSh} {M : mMem} {Q : Option mV → mSh → mMem → Prop} {x3 : Int} (L : Lay S) (hc : R32 (x3 + 1) ∧ (0 ≤ x3 + 1 ∧ x3 + 1 < sL S (-1)) ∧ R32 (x3 + 2) ∧ (0 ≤ x3 + 2 ∧ x3 + 2 < sL S (-1))) (k : WP PR d 111 0 [vA 1, vI (M (-1) (x3 + 1)), vI (M (-1) (x3 + 2)), vU, vU, vU, vU, vU] [] S M (fun r S2 M2 => WP PR (d + 1) 258 978 [vA (-1), vA 1, vA 200, vI x3] (r.toList ++ []) S2 M2 Q)) : WP PR (d + 1) 258 964 [vA (-1), vA 1, vA 200, vI x3] [] S M Q := by
  refine WP.ca 11 978 975 (.invokevirtual 136) (0, 111, 0, 0) rfl ?_
  exact And.intro (hc.1) (And.intro (⟨rfl, hc.2.1⟩) (And.intro (hc.2.2.1) (And.intro (⟨rfl, hc.2.2.2⟩) (⟨rfl, rfl, rfl, lo1 L, rfl, k⟩))))
set_option maxRecDepth 100000 in
theorem b_L_law_978 {d : Nat} {S : mSh} {M : mMem} {Q : Option mV → mSh → mMem → Prop} {x3 s0 : Int} (L : Lay S) (hc : R32 (x3 + 1) ∧ (0 ≤ x3 + 1 ∧ x3 + 1 < sL S (-1)) ∧ R32 (x3 + 2) ∧ (0 ≤ x3 + 2 ∧ x3 + 2 < sL S (-1))) (k : WP PR d 250 0 [vA 200, vI (M (-1) (x3 + 1)), vI (M (-1) (x3 + 2)), vU, vU, vU, vU, vU] [] S M (fun r S2 M2 => WP PR (d + 1) 258 992 [vA (-1), vA 1, vA 200, vI x3] (r.toList ++ [vL s0]) S2 M2 Q)) : WP PR (d + 1) 258 978 [vA (-1), vA 1, vA 200, vI x3] [vL s0] S M Q := by
  refine WP.ca 11 992 989 (.invokevirtual 139) (0, 250, 0, 0) rfl ?_
  exact And.intro (hc.1) (And.intro (⟨rfl, hc.2.1⟩) (And.intro (hc.2.2.1) (And.intro (⟨rfl, hc.2.2.2⟩) (⟨rfl, rfl, rfl, lo200 L, rfl, k⟩))))
set_option maxRecDepth 100000 in
theorem b_L_law_992 {d : Nat} {S : mSh} {M : mMem} {Q : Option mV → mSh → mMem → Prop} {x3 s0 s1 : Int} (kt : s0 = s1 → WP PR d 258 1179 [vA (-1), vA 1, vA 200, vI x3] [] S M Q) (kf : ¬ s0 = s1 → WP PR d 258 996 [vA (-1), vA 1, vA 200, vI x3] [] S M Q) : WP PR d 258 992 [vA (-1), vA 1, vA 200, vI x3] [vL s1, vL s0] S M Q := by
  refine WP.if0 1 996 993 .eq 186 (0, 0, 0, 0) 1179 rfl rfl ?_
  exact ⟨fun hc => kt (lcp_eq.mp hc), fun hc => kf (fun e => hc (lcp_eq.mpr e))⟩
set_option maxRecDepth 100000 in
theorem b_L_law_996 {d : Nat} {S : mSh} {M : mMem} {Q : Option mV → mSh → mMem → Prop} {x3 : Int} (k : Q (some (vI 0)) S M) : WP PR d 258 996 [vA (-1), vA 1, vA 200, vI x3] [] S M Q := by
  refine WP.re 1 997 .ireturn (0, 0, 0, 0) _ rfl ?_
  exact ⟨rfl, rfl, Or.inl rfl, k⟩
set_option maxRecDepth 100000 in
theorem b_L_law_998 {d : Nat} {S : mSh} {M : mMem} {Q : Option mV → mSh → mMem → Prop} {x3 : Int} (L : Lay S) (hc : R32 (x3 + 1) ∧ (0 ≤ x3 + 1 ∧ x3 + 1 < sL S (-1)) ∧ R32 (x3 + 2) ∧ (0 ≤ x3 + 2 ∧ x3 + 2 < sL S (-1))) (k : WP PR d 112 0 [vA 1, vI (M (-1) (x3 + 1)), vI (M (-1) (x3 + 2))] [] S M (fun r S2 M2 => WP PR (d + 1) 258 1012 [vA (-1), vA 1, vA 200, vI x3] (r.toList ++ []) S2 M2 Q)) : WP PR (d + 1) 258 998 [vA (-1), vA 1, vA 200, vI x3] [] S M Q := by
  refine WP.ca 11 1012 1009 (.invokevirtual 140) (0, 112, 0, 0) rfl ?_
  exact And.intro (hc.1) (And.intro (⟨rfl, hc.2.1⟩) (And.intro (hc.2.2.1) (And.intro (⟨rfl, hc.2.2.2⟩) (⟨rfl, rfl, rfl, lo1 L, rfl, k⟩))))
set_option maxRecDepth 100000 in
theorem b_L_law_1012 {d : Nat} {S : mSh} {M : mMem} {Q : Option mV → mSh → mMem → Prop} {x3 s0 : Int} (L : Lay S) (hc : R32 (x3 + 1) ∧ (0 ≤ x3 + 1 ∧ x3 + 1 < sL S (-1)) ∧ R32 (x3 + 2) ∧ (0 ≤ x3 + 2 ∧ x3 + 2 < sL S (-1))) (k : WP PR d 251 0 [vA 200, vI (M (-1) (x3 + 1)), vI (M (-1) (x3 + 2)), vU, vU] [] S M (fun r S2 M2 => WP PR (d + 1) 258 1026 [vA (-1), vA 1, vA 200, vI x3] (r.toList ++ [vI s0]) S2 M2 Q)) : WP PR (d + 1) 258 1012 [vA (-1), vA 1, vA 200, vI x3] [vI s0] S M Q := by
  refine WP.ca 11 1026 1023 (.invokevirtual 143) (0, 251, 0, 0) rfl ?_
  exact And.intro (hc.1) (And.intro (⟨rfl, hc.2.1⟩) (And.intro (hc.2.2.1) (And.intro (⟨rfl, hc.2.2.2⟩) (⟨rfl, rfl, rfl, lo200 L, rfl, k⟩))))
set_option maxRecDepth 100000 in
theorem b_L_law_1026 {d : Nat} {S : mSh} {M : mMem} {Q : Option mV → mSh → mMem → Prop} {x3 s0 s1 : Int} (kt : s0 = s1 → WP PR d 258 1179 [vA (-1), vA 1, vA 200, vI x3] [] S M Q) (kf : ¬ s0 = s1 → WP PR d 258 1029 [vA (-1), vA 1, vA 200, vI x3] [] S M Q) : WP PR d 258 1026 [vA (-1), vA 1, vA 200, vI x3] [vI s1, vI s0] S M Q := by
  refine WP.if2 0 1029 1026 .eq 153 (0, 0, 0, 0) 1179 rfl rfl ?_
  exact ⟨kt, fun hc => kf hc⟩
set_option maxRecDepth 100000 in
theorem b_L_law_1029 {d : Nat} {S : mSh} {M : mMem} {Q : Option mV → mSh → mMem → Prop} {x3 : Int} (k : Q (some (vI 0)) S M) : WP PR d 258 1029 [vA (-1), vA 1, vA 200, vI x3] [] S M Q := by
  refine WP.re 1 1030 .ireturn (0, 0, 0, 0) _ rfl ?_
  exact ⟨rfl, rfl, Or.inl rfl, k⟩
set_option maxRecDepth 100000 in
theorem b_L_law_1031 {d : Nat} {S : mSh} {M : mMem} {Q : Option mV → mSh → mMem → Prop} {x3 : Int} (L : Lay S) (hc : R32 (x3 + 1) ∧ (0 ≤ x3 + 1 ∧ x3 + 1 < sL S (-1)) ∧ R32 (x3 + 2) ∧ (0 ≤ x3 + 2 ∧ x3 + 2 < sL S (-1))) (k : WP PR d 113 0 [vA 1, vI (M (-1) (x3 + 1)), vI (M (-1) (x3 + 2)), vU, vU] [] S M (fun r S2 M2 => WP PR (d + 1) 258 1045 [vA (-1), vA 1, vA 200, vI x3] (r.toList ++ []) S2 M2 Q)) : WP PR (d + 1) 258 1031 [vA (-1), vA 1, vA 200, vI x3] [] S M Q := by
  refine WP.ca 11 1045 1042 (.invokevirtual 144) (0, 113, 0, 0) rfl ?_
  exact And.intro (hc.1) (And.intro (⟨rfl, hc.2.1⟩) (And.intro (hc.2.2.1) (And.intro (⟨rfl, hc.2.2.2⟩) (⟨rfl, rfl, rfl, lo1 L, rfl, k⟩))))
set_option maxRecDepth 100000 in
theorem b_L_law_1045 {d : Nat} {S : mSh} {M : mMem} {Q : Option mV → mSh → mMem → Prop} {x3 s0 : Int} (L : Lay S) (hc : R32 (x3 + 1) ∧ (0 ≤ x3 + 1 ∧ x3 + 1 < sL S (-1)) ∧ R32 (x3 + 2) ∧ (0 ≤ x3 + 2 ∧ x3 + 2 < sL S (-1))) (k : WP PR d 254 0 [vA 200, vI (M (-1) (x3 + 1)), vI (M (-1) (x3 + 2)), vU, vU, vU, vU, vU] [] S M (fun r S2 M2 => WP PR (d + 1) 258 1059 [vA (-1), vA 1, vA 200, vI x3] (r.toList ++ [vI s0]) S2 M2 Q)) : WP PR (d + 1) 258 1045 [vA (-1), vA 1, vA 200, vI x3] [vI s0] S M Q := by
  refine WP.ca 11 1059 1056 (.invokevirtual 147) (0, 254, 0, 0) rfl ?_
  exact And.intro (hc.1) (And.intro (⟨rfl, hc.2.1⟩) (And.intro (hc.2.2.1) (And.intro (⟨rfl, hc.2.2.2⟩) (⟨rfl, rfl, rfl, lo200 L, rfl, k⟩))))
set_option maxRecDepth 100000 in
theorem b_L_law_1059 {d : Nat} {S : mSh} {M : mMem} {Q : Option mV → mSh → mMem → Prop} {x3 s0 s1 : Int} (kt : s0 = s1 → WP PR d 258 1179 [vA (-1), vA 1, vA 200, vI x3] [] S M Q) (kf : ¬ s0 = s1 → WP PR d 258 1062 [vA (-1), vA 1, vA 200, vI x3] [] S M Q) : WP PR d 258 1059 [vA (-1), vA 1, vA 200, vI x3] [vI s1, vI s0] S M Q := by
  refine WP.if2 0 1062 1059 .eq 120 (0, 0, 0, 0) 1179 rfl rfl ?_
  exact ⟨kt, fun hc => kf hc⟩
set_option maxRecDepth 100000 in
theorem b_L_law_1062 {d : Nat} {S : mSh} {M : mMem} {Q : Option mV → mSh → mMem → Prop} {x3 : Int} (k : Q (some (vI 0)) S M) : WP PR d 258 1062 [vA (-1), vA 1, vA 200, vI x3] [] S M Q := by
  refine WP.re 1 1063 .ireturn (0, 0, 0, 0) _ rfl ?_
  exact ⟨rfl, rfl, Or.inl rfl, k⟩
set_option maxRecDepth 100000 in
theorem b_L_law_1064 {d : Nat} {S : mSh} {M : mMem} {Q : Option mV → mSh → mMem → Prop} {x3 : Int} (L : Lay S) (hc : R32 (x3 + 1) ∧ (0 ≤ x3 + 1 ∧ x3 + 1 < sL S (-1)) ∧ R32 (x3 + 2) ∧ (0 ≤ x3 + 2 ∧ x3 + 2 < sL S (-1))) (k : WP PR d 114 0 [vA 1, vI (M (-1) (x3 + 1)), vI (M (-1) (x3 + 2))] [] S M (fun r S2 M2 => WP PR (d + 1) 258 1078 [vA (-1), vA 1, vA 200, vI x3] (r.toList ++ []) S2 M2 Q)) : WP PR (d + 1) 258 1064 [vA (-1), vA 1, vA 200, vI x3] [] S M Q := by
  refine WP.ca 11 1078 1075 (.invokevirtual 148) (0, 114, 0, 0) rfl ?_
  exact And.intro (hc.1) (And.intro (⟨rfl, hc.2.1⟩) (And.intro (hc.2.2.1) (And.intro (⟨rfl, hc.2.2.2⟩) (⟨rfl, rfl, rfl, lo1 L, rfl, k⟩))))
set_option maxRecDepth 100000 in
theorem b_L_law_1078 {d : Nat} {S : mSh} {M : mMem} {Q : Option mV → mSh → mMem → Prop} {x3 s0 : Int} (L : Lay S) (hc : R32 (x3 + 1) ∧ (0 ≤ x3 + 1 ∧ x3 + 1 < sL S (-1)) ∧ R32 (x3 + 2) ∧ (0 ≤ x3 + 2 ∧ x3 + 2 < sL S (-1))) (k : WP PR d 255 0 [vA 200, vI (M (-1) (x3 + 1)), vI (M (-1) (x3 + 2)), vU, vU, vU, vU] [] S M (fun r S2 M2 => WP PR (d + 1) 258 1092 [vA (-1), vA 1, vA 200, vI x3] (r.toList ++ [vI s0]) S2 M2 Q)) : WP PR (d + 1) 258 1078 [vA (-1), vA 1, vA 200, vI x3] [vI s0] S M Q := by
  refine WP.ca 11 1092 1089 (.invokevirtual 151) (0, 255, 0, 0) rfl ?_
  exact And.intro (hc.1) (And.intro (⟨rfl, hc.2.1⟩) (And.intro (hc.2.2.1) (And.intro (⟨rfl, hc.2.2.2⟩) (⟨rfl, rfl, rfl, lo200 L, rfl, k⟩))))
set_option maxRecDepth 100000 in
theorem b_L_law_1092 {d : Nat} {S : mSh} {M : mMem} {Q : Option mV → mSh → mMem → Prop} {x3 s0 s1 : Int} (kt : s0 = s1 → WP PR d 258 1179 [vA (-1), vA 1, vA 200, vI x3] [] S M Q) (kf : ¬ s0 = s1 → WP PR d 258 1095 [vA (-1), vA 1, vA 200, vI x3] [] S M Q) : WP PR d 258 1092 [vA (-1), vA 1, vA 200, vI x3] [vI s1, vI s0] S M Q := by
  refine WP.if2 0 1095 1092 .eq 87 (0, 0, 0, 0) 1179 rfl rfl ?_
  exact ⟨kt, fun hc => kf hc⟩
set_option maxRecDepth 100000 in
theorem b_L_law_1095 {d : Nat} {S : mSh} {M : mMem} {Q : Option mV → mSh → mMem → Prop} {x3 : Int} (k : Q (some (vI 0)) S M) : WP PR d 258 1095 [vA (-1), vA 1, vA 200, vI x3] [] S M Q := by
  refine WP.re 1 1096 .ireturn (0, 0, 0, 0) _ rfl ?_
  exact ⟨rfl, rfl, Or.inl rfl, k⟩
set_option maxRecDepth 100000 in
theorem b_L_law_1097 {d : Nat} {S : mSh} {M : mMem} {Q : Option mV → mSh → mMem → Prop} {x3 : Int} (L : Lay S) (hc : R32 (x3 + 1) ∧ (0 ≤ x3 + 1 ∧ x3 + 1 < sL S (-1))) (k : WP PR d 115 0 [vA 1, vI (M (-1) (x3 + 1))] [] S M (fun r S2 M2 => WP PR (d + 1) 258 1106 [vA (-1), vA 1, vA 200, vI x3] (r.toList ++ []) S2 M2 Q)) : WP PR (d + 1) 258 1097 [vA (-1), vA 1, vA 200, vI x3] [] S M Q := by
  refine WP.ca 6 1106 1103 (.invokevirtual 152) (0, 115, 0, 0) rfl ?_
  exact And.intro (hc.1) (And.intro (⟨rfl, hc.2⟩) (⟨rfl, rfl, rfl, lo1 L, rfl, k⟩))
set_option maxRecDepth 100000 in
theorem b_L_law_1106 {d : Nat} {S : mSh} {M : mMem} {Q : Option mV → mSh → mMem → Prop} {x3 s0 : Int} (L : Lay S) (hc : R32 (x3 + 1) ∧ (0 ≤ x3 + 1 ∧ x3 + 1 < sL S (-1))) (k : WP PR d 142 0 [vA 200, vI (M (-1) (x3 + 1)), vU] [] S M (fun r S2 M2 => WP PR (d + 1) 258 1115 [vA (-1), vA 1, vA 200, vI x3] (r.toList ++ [vI s0]) S2 M2 Q)) : WP PR (d + 1) 258 1106 [vA (-1), vA 1, vA 200, vI x3] [vI s0] S M Q := by
  refine WP.ca 6 1115 1112 (.invokevirtual 155) (0, 142, 0, 0) rfl ?_
  exact And.intro (hc.1) (And.intro (⟨rfl, hc.2⟩) (⟨rfl, rfl, rfl, lo200 L, rfl, k⟩))
set_option maxRecDepth 100000 in
theorem b_L_law_1115 {d : Nat} {S : mSh} {M : mMem} {Q : Option mV → mSh → mMem → Prop} {x3 s0 s1 : Int} (kt : s0 = s1 → WP PR d 258 1179 [vA (-1), vA 1, vA 200, vI x3] [] S M Q) (kf : ¬ s0 = s1 → WP PR d 258 1118 [vA (-1), vA 1, vA 200, vI x3] [] S M Q) : WP PR d 258 1115 [vA (-1), vA 1, vA 200, vI x3] [vI s1, vI s0] S M Q := by
  refine WP.if2 0 1118 1115 .eq 64 (0, 0, 0, 0) 1179 rfl rfl ?_
  exact ⟨kt, fun hc => kf hc⟩
set_option maxRecDepth 100000 in
theorem b_L_law_1118 {d : Nat} {S : mSh} {M : mMem} {Q : Option mV → mSh → mMem → Prop} {x3 : Int} (k : Q (some (vI 0)) S M) : WP PR d 258 1118 [vA (-1), vA 1, vA 200, vI x3] [] S M Q := by
  refine WP.re 1 1119 .ireturn (0, 0, 0, 0) _ rfl ?_
  exact ⟨rfl, rfl, Or.inl rfl, k⟩
set_option maxRecDepth 100000 in
theorem b_L_law_1120 {d : Nat} {S : mSh} {M : mMem} {Q : Option mV → mSh → mMem → Prop} {x3 : Int} (L : Lay S) (hc : R32 (x3 + 1) ∧ (0 ≤ x3 + 1 ∧ x3 + 1 < sL S (-1))) (k : WP PR d 116 0 [vA 1, vI (M (-1) (x3 + 1))] [] S M (fun r S2 M2 => WP PR (d + 1) 258 1129 [vA (-1), vA 1, vA 200, vI x3] (r.toList ++ []) S2 M2 Q)) : WP PR (d + 1) 258 1120 [vA (-1), vA 1, vA 200, vI x3] [] S M Q := by
  refine WP.ca 6 1129 1126 (.invokevirtual 156) (0, 116, 0, 0) rfl ?_
  exact And.intro (hc.1) (And.intro (⟨rfl, hc.2⟩) (⟨rfl, rfl, rfl, lo1 L, rfl, k⟩))
set_option maxRecDepth 100000 in
theorem b_L_law_1129 {d : Nat} {S : mSh} {M : mMem} {Q : Option mV → mSh → mMem → Prop} {x3 s0 : Int} (L : Lay S) (hc : R32 (x3 + 1) ∧ (0 ≤ x3 + 1 ∧ x3 + 1 < sL S (-1))) (k : WP PR d 143 0 [vA 200, vI (M (-1) (x3 + 1)), vU] [] S M (fun r S2 M2 => WP PR (d + 1) 258 1138 [vA (-1), vA 1, vA 200, vI x3] (r.toList ++ [vI s0]) S2 M2 Q)) : WP PR (d + 1) 258 1129 [vA (-1), vA 1, vA 200, vI x3] [vI s0] S M Q := by
  refine WP.ca 6 1138 1135 (.invokevirtual 159) (0, 143, 0, 0) rfl ?_
  exact And.intro (hc.1) (And.intro (⟨rfl, hc.2⟩) (⟨rfl, rfl, rfl, lo200 L, rfl, k⟩))
set_option maxRecDepth 100000 in
theorem b_L_law_1138 {d : Nat} {S : mSh} {M : mMem} {Q : Option mV → mSh → mMem → Prop} {x3 s0 s1 : Int} (kt : s0 = s1 → WP PR d 258 1179 [vA (-1), vA 1, vA 200, vI x3] [] S M Q) (kf : ¬ s0 = s1 → WP PR d 258 1141 [vA (-1), vA 1, vA 200, vI x3] [] S M Q) : WP PR d 258 1138 [vA (-1), vA 1, vA 200, vI x3] [vI s1, vI s0] S M Q := by
  refine WP.if2 0 1141 1138 .eq 41 (0, 0, 0, 0) 1179 rfl rfl ?_
  exact ⟨kt, fun hc => kf hc⟩
set_option maxRecDepth 100000 in
theorem b_L_law_1141 {d : Nat} {S : mSh} {M : mMem} {Q : Option mV → mSh → mMem → Prop} {x3 : Int} (k : Q (some (vI 0)) S M) : WP PR d 258 1141 [vA (-1), vA 1, vA 200, vI x3] [] S M Q := by
  refine WP.re 1 1142 .ireturn (0, 0, 0, 0) _ rfl ?_
  exact ⟨rfl, rfl, Or.inl rfl, k⟩
set_option maxRecDepth 100000 in
theorem b_L_law_1143 {d : Nat} {S : mSh} {M : mMem} {Q : Option mV → mSh → mMem → Prop} {x3 : Int} (L : Lay S) (hc : R32 (x3 + 1) ∧ (0 ≤ x3 + 1 ∧ x3 + 1 < sL S (-1))) (k : WP PR d 117 0 [vA 1, vI (M (-1) (x3 + 1))] [] S M (fun r S2 M2 => WP PR (d + 1) 258 1152 [vA (-1), vA 1, vA 200, vI x3] (r.toList ++ []) S2 M2 Q)) : WP PR (d + 1) 258 1143 [vA (-1), vA 1, vA 200, vI x3] [] S M Q := by
  refine WP.ca 6 1152 1149 (.invokevirtual 160) (0, 117, 0, 0) rfl ?_
  exact And.intro (hc.1) (And.intro (⟨rfl, hc.2⟩) (⟨rfl, rfl, rfl, lo1 L, rfl, k⟩))
set_option maxRecDepth 100000 in
theorem b_L_law_1152 {d : Nat} {S : mSh} {M : mMem} {Q : Option mV → mSh → mMem → Prop} {x3 s0 : Int} (L : Lay S) (hc : R32 (x3 + 1) ∧ (0 ≤ x3 + 1 ∧ x3 + 1 < sL S (-1))) (k : WP PR d 256 0 [vA 200, vI (M (-1) (x3 + 1))] [] S M (fun r S2 M2 => WP PR (d + 1) 258 1161 [vA (-1), vA 1, vA 200, vI x3] (r.toList ++ [vI s0]) S2 M2 Q)) : WP PR (d + 1) 258 1152 [vA (-1), vA 1, vA 200, vI x3] [vI s0] S M Q := by
  refine WP.ca 6 1161 1158 (.invokevirtual 163) (0, 256, 0, 0) rfl ?_
  exact And.intro (hc.1) (And.intro (⟨rfl, hc.2⟩) (⟨rfl, rfl, rfl, lo200 L, rfl, k⟩))
set_option maxRecDepth 100000 in
theorem b_L_law_1161 {d : Nat} {S : mSh} {M : mMem} {Q : Option mV → mSh → mMem → Prop} {x3 s0 s1 : Int} (kt : s0 = s1 → WP PR d 258 1179 [vA (-1), vA 1, vA 200, vI x3] [] S M Q) (kf : ¬ s0 = s1 → WP PR d 258 1164 [vA (-1), vA 1, vA 200, vI x3] [] S M Q) : WP PR d 258 1161 [vA (-1), vA 1, vA 200, vI x3] [vI s1, vI s0] S M Q := by
  refine WP.if2 0 1164 1161 .eq 18 (0, 0, 0, 0) 1179 rfl rfl ?_
  exact ⟨kt, fun hc => kf hc⟩
set_option maxRecDepth 100000 in
theorem b_L_law_1164 {d : Nat} {S : mSh} {M : mMem} {Q : Option mV → mSh → mMem → Prop} {x3 : Int} (k : Q (some (vI 0)) S M) : WP PR d 258 1164 [vA (-1), vA 1, vA 200, vI x3] [] S M Q := by
  refine WP.re 1 1165 .ireturn (0, 0, 0, 0) _ rfl ?_
  exact ⟨rfl, rfl, Or.inl rfl, k⟩
set_option maxRecDepth 100000 in
theorem b_L_law_1166 {d : Nat} {S : mSh} {M : mMem} {Q : Option mV → mSh → mMem → Prop} {x3 : Int} (L : Lay S) (k : WP PR d 118 0 [vA 1] [] S M (fun r S2 M2 => WP PR (d + 1) 258 1170 [vA (-1), vA 1, vA 200, vI x3] (r.toList ++ []) S2 M2 Q)) : WP PR (d + 1) 258 1166 [vA (-1), vA 1, vA 200, vI x3] [] S M Q := by
  refine WP.ca 1 1170 1167 (.invokevirtual 164) (0, 118, 0, 0) rfl ?_
  exact ⟨rfl, rfl, rfl, lo1 L, rfl, k⟩
set_option maxRecDepth 100000 in
theorem b_L_law_1170 {d : Nat} {S : mSh} {M : mMem} {Q : Option mV → mSh → mMem → Prop} {x3 s0 : Int} (L : Lay S) (k : WP PR d 257 0 [vA 200] [] S M (fun r S2 M2 => WP PR (d + 1) 258 1174 [vA (-1), vA 1, vA 200, vI x3] (r.toList ++ [vI s0]) S2 M2 Q)) : WP PR (d + 1) 258 1170 [vA (-1), vA 1, vA 200, vI x3] [vI s0] S M Q := by
  refine WP.ca 1 1174 1171 (.invokevirtual 167) (0, 257, 0, 0) rfl ?_
  exact ⟨rfl, rfl, rfl, lo200 L, rfl, k⟩
set_option maxRecDepth 100000 in
theorem b_L_law_1174 {d : Nat} {S : mSh} {M : mMem} {Q : Option mV → mSh → mMem → Prop} {x3 s0 s1 : Int} (kt : s0 = s1 → WP PR d 258 1179 [vA (-1), vA 1, vA 200, vI x3] [] S M Q) (kf : ¬ s0 = s1 → WP PR d 258 1177 [vA (-1), vA 1, vA 200, vI x3] [] S M Q) : WP PR d 258 1174 [vA (-1), vA 1, vA 200, vI x3] [vI s1, vI s0] S M Q := by
  refine WP.if2 0 1177 1174 .eq 5 (0, 0, 0, 0) 1179 rfl rfl ?_
  exact ⟨kt, fun hc => kf hc⟩
set_option maxRecDepth 100000 in
theorem b_L_law_1177 {d : Nat} {S : mSh} {M : mMem} {Q : Option mV → mSh → mMem → Prop} {x3 : Int} (k : Q (some (vI 0)) S M) : WP PR d 258 1177 [vA (-1), vA 1, vA 200, vI x3] [] S M Q := by
  refine WP.re 1 1178 .ireturn (0, 0, 0, 0) _ rfl ?_
  exact ⟨rfl, rfl, Or.inl rfl, k⟩
set_option maxRecDepth 100000 in
theorem b_L_law_1179 {d : Nat} {S : mSh} {M : mMem} {Q : Option mV → mSh → mMem → Prop} {x3 : Int} (hc : R32 (x3 + 6)) (k : WP PR d 258 18 [vA (-1), vA 1, vA 200, vI (x3 + 6)] [] S M Q) : WP PR d 258 1179 [vA (-1), vA 1, vA 200, vI x3] [] S M Q := by
  refine WP.gt 1 1182 (-1164) (0, 0, 0, 0) _ 18 rfl rfl ?_
  exact And.intro (hc) (k)
set_option maxRecDepth 100000 in
theorem b_L_law_1185 {d : Nat} {S : mSh} {M : mMem} {Q : Option mV → mSh → mMem → Prop} {x3 : Int} (k : Q (some (vI 1)) S M) : WP PR d 258 1185 [vA (-1), vA 1, vA 200, vI x3] [] S M Q := by
  refine WP.re 1 1186 .ireturn (0, 0, 0, 0) _ rfl ?_
  exact ⟨rfl, rfl, Or.inr rfl, k⟩
