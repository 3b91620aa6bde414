/-! Blocks (by program: wip/whole/gen3.py). -/
/-- SoleraCellar$Asker.<init>(LSoleraCellar$Stock;)V -/
abbrev e_X0_init (d : Nat) (a0 a1 : Int) (S : mSh) (M : mMem) (Q : Option mV → mSh → mMem → Prop) : Prop := WP PR d 0 0 [vA a0, vA a1] [] S M Q
/-- SoleraCellar$Asker.startText()V -/
abbrev e_X0_startText (d : Nat) (S : mSh) (M : mMem) (Q : Option mV → mSh → mMem → Prop) : Prop := WP PR d 1 0 [vA 196] [] S M Q
set_option maxRecDepth 100000 in
theorem b_X0_startText_0 {d : Nat} {S : mSh} {M : mMem} {Q : Option mV → mSh → mMem → Prop} (L : Lay S) (k : Q (none) S (up (up M 196 4 0) 196 5 (-1))) : WP PR d 1 0 [vA 196] [] S M Q := by
  refine WP.re 6 10 .return_ (0, 0, 0, 0) _ rfl ?_
  exact And.intro (lo196 L) (And.intro (lo196 L) (⟨rfl, rfl, trivial, k⟩))
/-- SoleraCellar$Asker.ask(LSoleraCellar$Text;II)I -/
abbrev e_X0_ask (d : Nat) (a1 a2 a3 : Int) (S : mSh) (M : mMem) (Q : Option mV → mSh → mMem → Prop) : Prop := WP PR d 2 0 [vA 196, vA a1, vI a2, vI a3, vU, vU, vU, vU, vU, vU] [] S M Q
set_option maxRecDepth 100000 in
theorem b_X0_ask_0 {d : Nat} {S : mSh} {M : mMem} {Q : Option mV → mSh → mMem → Prop} {x1 x2 x3 : Int} (hx1 : Txt S x1) (k : WP PR d 68 0 [vA x1, vI x2, vI x3] [] S M (fun r S2 M2 => WP PR (d + 1) 2 6 [vA 196, vA x1, vI x2, vI x3, vU, vU, vU, vU, vU, vU] (r.toList ++ []) S2 M2 Q)) : WP PR (d + 1) 2 0 [vA 196, vA x1, vI x2, vI x3, vU, vU, vU, vU, vU, vU] [] S M Q := by
  refine WP.ca 3 6 3 (.invokevirtual 26) (0, 68, 0, 0) rfl ?_
  exact ⟨rfl, rfl, rfl, (hx1).o, rfl, k⟩
set_option maxRecDepth 100000 in
theorem b_X0_ask_6 {d : Nat} {S : mSh} {M : mMem} {Q : Option mV → mSh → mMem → Prop} {x1 x2 x3 s0 : Int} {u4 u5 u6 u7 u8 u9 : mV} (hx1 : Txt S x1) (hc : R32 (x3 + 1)) (k : WP PR d 68 0 [vA x1, vI x2, vI (x3 + 1)] [] S M (fun r S2 M2 => WP PR (d + 1) 2 16 [vA 196, vA x1, vI x2, vI x3, vI s0, u5, u6, u7, u8, u9] (r.toList ++ []) S2 M2 Q)) : WP PR (d + 1) 2 6 [vA 196, vA x1, vI x2, vI x3, u4, u5, u6, u7, u8, u9] [vI s0] S M Q := by
  refine WP.ca 6 16 13 (.invokevirtual 26) (0, 68, 0, 0) rfl ?_
  exact And.intro (hc) (⟨rfl, rfl, rfl, (hx1).o, rfl, k⟩)
set_option maxRecDepth 100000 in
theorem b_X0_ask_16 {d : Nat} {S : mSh} {M : mMem} {Q : Option mV → mSh → mMem → Prop} {x1 x2 x3 x4 s0 : Int} {u5 u6 u7 u8 u9 : mV} (hx1 : Txt S x1) (kt : x4 < (if M x1 3 < s0 then M x1 3 else s0) → WP PR d 2 34 [vA 196, vA x1, vI x2, vI x3, vI x4, vI (if M x1 3 < s0 then M x1 3 else s0), u6, u7, u8, u9] [] S M Q) (kf : (if M x1 3 < s0 then M x1 3 else s0) ≤ x4 → WP PR d 2 32 [vA 196, vA x1, vI x2, vI x3, vI x4, vI (if M x1 3 < s0 then M x1 3 else s0), u6, u7, u8, u9] [] S M Q) : WP PR d 2 16 [vA 196, vA x1, vI x2, vI x3, vI x4, u5, u6, u7, u8, u9] [vI s0] S M Q := by
  refine WP.if2 6 32 29 .lt 5 (0, 0, 0, 0) 34 rfl rfl ?_
  exact And.intro ((hx1).o) (⟨kt, fun hc => kf (Int.not_lt.mp hc)⟩)
set_option maxRecDepth 100000 in
theorem b_X0_ask_32 {d : Nat} {S : mSh} {M : mMem} {Q : Option mV → mSh → mMem → Prop} {x1 x2 x3 x4 x5 : Int} {u6 u7 u8 u9 : mV} (k : Q (some (vI 1)) S M) : WP PR d 2 32 [vA 196, vA x1, vI x2, vI x3, vI x4, vI x5, u6, u7, u8, u9] [] S M Q := by
  refine WP.re 1 33 .ireturn (0, 0, 0, 0) _ rfl ?_
  exact ⟨rfl, rfl, trivial, k⟩
set_option maxRecDepth 100000 in
theorem b_X0_ask_34 {d : Nat} {S : mSh} {M : mMem} {Q : Option mV → mSh → mMem → Prop} {x1 x2 x3 x4 x5 : Int} {u6 u7 u8 u9 : mV} (L : Lay S) (k : WP PR d 2 43 [vA 196, vA x1, vI x2, vI x3, vI x4, vI x5, vI x4, u7, u8, u9] [] S (up M 196 1 0) Q) : WP PR d 2 34 [vA 196, vA x1, vI x2, vI x3, vI x4, vI x5, u6, u7, u8, u9] [] S M Q := by
  refine WP.bl 5 43 rfl ?_
  exact And.intro (lo196 L) (k)
set_option maxRecDepth 100000 in
theorem b_X0_ask_43 {d : Nat} {S : mSh} {M : mMem} {Q : Option mV → mSh → mMem → Prop} {x1 x2 x3 x4 x5 x6 : Int} {u7 u8 u9 : mV} (kt : x5 ≤ x6 → WP PR d 2 240 [vA 196, vA x1, vI x2, vI x3, vI x4, vI x5, vI x6, u7, u8, u9] [] S M Q) (kf : x6 < x5 → WP PR d 2 50 [vA 196, vA x1, vI x2, vI x3, vI x4, vI x5, vI x6, u7, u8, u9] [] S M Q) : WP PR d 2 43 [vA 196, vA x1, vI x2, vI x3, vI x4, vI x5, vI x6, u7, u8, u9] [] S M Q := by
  refine WP.if2 2 50 47 .ge 193 (0, 0, 0, 0) 240 rfl rfl ?_
  exact ⟨kt, fun hc => kf (Int.not_le.mp hc)⟩
set_option maxRecDepth 100000 in
theorem b_X0_ask_50 {d : Nat} {S : mSh} {M : mMem} {Q : Option mV → mSh → mMem → Prop} {x1 x2 x3 x4 x5 x6 : Int} {u7 u8 u9 : mV} (hx1 : Txt S x1) (hc : (0 ≤ x6 ∧ x6 < sL S (x1 + 2)) ∧ R32 ((M (x1 + 2) x6).tdiv 1024)) (kt : ¬ (M (x1 + 2) x6).tdiv 1024 = 0 → WP PR d 2 90 [vA 196, vA x1, vI x2, vI x3, vI x4, vI x5, vI x6, vI ((M (x1 + 2) x6).tdiv 1024), vI ((M (x1 + 2) x6).tmod 1024), u9] [] S M Q) (kf : (M (x1 + 2) x6).tdiv 1024 = 0 → WP PR d 2 81 [vA 196, vA x1, vI x2, vI x3, vI x4, vI x5, vI x6, vI ((M (x1 + 2) x6).tdiv 1024), vI ((M (x1 + 2) x6).tmod 1024), u9] [] S M Q) : WP PR d 2 50 [vA 196, vA x1, vI x2, vI x3, vI x4, vI x5, vI x6, u7, u8, u9] [] S M Q := by
  refine WP.if0 15 81 78 .ne 12 (0, 0, 0, 0) 90 rfl rfl ?_
  exact And.intro (⟨(hx1).o, (hx1).f1⟩) (And.intro (inA_of ((hx1).a2) (rfl) hc.1) (And.intro (⟨by decide, hc.2⟩) (And.intro (⟨(hx1).o, (hx1).f1⟩) (And.intro (inA_of ((hx1).a2) (rfl) hc.1) (And.intro (⟨by decide, hc.2⟩) (⟨kt, fun hc => kf (Decidable.not_not.mp hc)⟩))))))
set_option maxRecDepth 100000 in
theorem b_X0_ask_81 {d : Nat} {S : mSh} {M : mMem} {Q : Option mV → mSh → mMem → Prop} {x1 x2 x3 x4 x5 x6 x7 x8 : Int} {u9 : mV} (L : Lay S) (k : WP PR d 6 0 [vA 196, vI x8] [] S M (fun r S2 M2 => WP PR (d + 1) 2 87 [vA 196, vA x1, vI x2, vI x3, vI x4, vI x5, vI x6, vI x7, vI x8, u9] (r.toList ++ []) S2 M2 Q)) : WP PR (d + 1) 2 81 [vA 196, vA x1, vI x2, vI x3, vI x4, vI x5, vI x6, vI x7, vI x8, u9] [] S M Q := by
  refine WP.ca 2 87 84 (.invokevirtual 46) (0, 6, 0, 0) rfl ?_
  exact ⟨rfl, rfl, rfl, lo196 L, rfl, k⟩
set_option maxRecDepth 100000 in
theorem b_X0_ask_87 {d : Nat} {S : mSh} {M : mMem} {Q : Option mV → mSh → mMem → Prop} {x1 x2 x3 x4 x5 x6 x7 x8 : Int} {u9 : mV} (hc : R32 (x6 + 1)) (k : WP PR d 2 43 [vA 196, vA x1, vI x2, vI x3, vI x4, vI x5, vI (x6 + 1), vI x7, vI x8, u9] [] S M Q) : WP PR d 2 87 [vA 196, vA x1, vI x2, vI x3, vI x4, vI x5, vI x6, vI x7, vI x8, u9] [] S M Q := by
  refine WP.gt 0 87 147 (0, 0, 0, 0) _ 234 rfl rfl ?_
  show WP PR d 2 234 [vA 196, vA x1, vI x2, vI x3, vI x4, vI x5, vI x6, vI x7, vI x8, u9] [] S M Q
  refine WP.gt 1 237 (-194) (0, 0, 0, 0) _ 43 rfl rfl ?_
  exact And.intro (hc) (k)
set_option maxRecDepth 100000 in
theorem b_X0_ask_90 {d : Nat} {S : mSh} {M : mMem} {Q : Option mV → mSh → mMem → Prop} {x1 x2 x3 x4 x5 x6 x7 x8 : Int} {u9 : mV} (kt : ¬ x7 = 1 → WP PR d 2 109 [vA 196, vA x1, vI x2, vI x3, vI x4, vI x5, vI x6, vI x7, vI x8, u9] [] S M Q) (kf : x7 = 1 → WP PR d 2 96 [vA 196, vA x1, vI x2, vI x3, vI x4, vI x5, vI x6, vI x7, vI x8, u9] [] S M Q) : WP PR d 2 90 [vA 196, vA x1, vI x2, vI x3, vI x4, vI x5, vI x6, vI x7, vI x8, u9] [] S M Q := by
  refine WP.if2 2 96 93 .ne 16 (0, 0, 0, 0) 109 rfl rfl ?_
  exact ⟨kt, fun hc => kf (Decidable.not_not.mp hc)⟩
set_option maxRecDepth 100000 in
theorem b_X0_ask_96 {d : Nat} {S : mSh} {M : mMem} {Q : Option mV → mSh → mMem → Prop} {x1 x2 x3 x4 x5 x6 x7 x8 : Int} {u9 : mV} (L : Lay S) (k : WP PR d 4 0 [vA 196, vI x8] [] S M (fun r S2 M2 => WP PR (d + 1) 2 103 [vA 196, vA x1, vI x2, vI x3, vI x4, vI x5, vI x6, vI x7, vI x8, u9] (r.toList ++ [vA 196]) S2 M2 Q)) : WP PR (d + 1) 2 96 [vA 196, vA x1, vI x2, vI x3, vI x4, vI x5, vI x6, vI x7, vI x8, u9] [] S M Q := by
  refine WP.ca 3 103 100 (.invokevirtual 50) (0, 4, 0, 0) rfl ?_
  exact ⟨rfl, rfl, rfl, lo196 L, rfl, k⟩
set_option maxRecDepth 100000 in
theorem b_X0_ask_103 {d : Nat} {S : mSh} {M : mMem} {Q : Option mV → mSh → mMem → Prop} {x1 x2 x3 x4 x5 x6 x7 x8 s1 : Int} {u9 : mV} (L : Lay S) (k : WP PR d 6 0 [vA 196, vI s1] [] S M (fun r S2 M2 => WP PR (d + 1) 2 106 [vA 196, vA x1, vI x2, vI x3, vI x4, vI x5, vI x6, vI x7, vI x8, u9] (r.toList ++ []) S2 M2 Q)) : WP PR (d + 1) 2 103 [vA 196, vA x1, vI x2, vI x3, vI x4, vI x5, vI x6, vI x7, vI x8, u9] [vI s1, vA 196] S M Q := by
  refine WP.ca 0 106 103 (.invokevirtual 46) (0, 6, 0, 0) rfl ?_
  exact ⟨rfl, rfl, rfl, lo196 L, rfl, k⟩
set_option maxRecDepth 100000 in
theorem b_X0_ask_106 {d : Nat} {S : mSh} {M : mMem} {Q : Option mV → mSh → mMem → Prop} {x1 x2 x3 x4 x5 x6 x7 x8 : Int} {u9 : mV} (hc : R32 (x6 + 1)) (k : WP PR d 2 43 [vA 196, vA x1, vI x2, vI x3, vI x4, vI x5, vI (x6 + 1), vI x7, vI x8, u9] [] S M Q) : WP PR d 2 106 [vA 196, vA x1, vI x2, vI x3, vI x4, vI x5, vI x6, vI x7, vI x8, u9] [] S M Q := by
  refine WP.gt 0 106 128 (0, 0, 0, 0) _ 234 rfl rfl ?_
  show WP PR d 2 234 [vA 196, vA x1, vI x2, vI x3, vI x4, vI x5, vI x6, vI x7, vI x8, u9] [] S M Q
  refine WP.gt 1 237 (-194) (0, 0, 0, 0) _ 43 rfl rfl ?_
  exact And.intro (hc) (k)
set_option maxRecDepth 100000 in
theorem b_X0_ask_109 {d : Nat} {S : mSh} {M : mMem} {Q : Option mV → mSh → mMem → Prop} {x1 x2 x3 x4 x5 x6 x7 x8 : Int} {u9 : mV} (kt : ¬ x7 = 2 → WP PR d 2 136 [vA 196, vA x1, vI x2, vI x3, vI x4, vI x5, vI x6, vI x7, vI x8, u9] [] S M Q) (kf : x7 = 2 → WP PR d 2 115 [vA 196, vA x1, vI x2, vI x3, vI x4, vI x5, vI x6, vI x7, vI x8, u9] [] S M Q) : WP PR d 2 109 [vA 196, vA x1, vI x2, vI x3, vI x4, vI x5, vI x6, vI x7, vI x8, u9] [] S M Q := by
  refine WP.if2 2 115 112 .ne 24 (0, 0, 0, 0) 136 rfl rfl ?_
  exact ⟨kt, fun hc => kf (Decidable.not_not.mp hc)⟩
set_option maxRecDepth 100000 in
theorem b_X0_ask_115 {d : Nat} {S : mSh} {M : mMem} {Q : Option mV → mSh → mMem → Prop} {x1 x2 x3 x4 x5 x6 x7 x8 : Int} {u9 : mV} (L : Lay S) (hc : R32 (x8.tdiv 9)) (k : WP PR d 5 0 [vA 196, vI (x8.tdiv 9), vI (x8.tmod 9), vU] [] S M (fun r S2 M2 => WP PR (d + 1) 2 130 [vA 196, vA x1, vI x2, vI x3, vI x4, vI x5, vI x6, vI x7, vI x8, u9] (r.toList ++ [vA 196]) S2 M2 Q)) : WP PR (d + 1) 2 115 [vA 196, vA x1, vI x2, vI x3, vI x4, vI x5, vI x6, vI x7, vI x8, u9] [] S M Q := by
  refine WP.ca 8 130 127 (.invokevirtual 54) (0, 5, 0, 0) rfl ?_
  exact And.intro (⟨by decide, hc⟩) (And.intro (⟨by decide, hc⟩) (⟨rfl, rfl, rfl, lo196 L, rfl, k⟩))
set_option maxRecDepth 100000 in
theorem b_X0_ask_130 {d : Nat} {S : mSh} {M : mMem} {Q : Option mV → mSh → mMem → Prop} {x1 x2 x3 x4 x5 x6 x7 x8 s1 : Int} {u9 : mV} (L : Lay S) (k : WP PR d 6 0 [vA 196, vI s1] [] S M (fun r S2 M2 => WP PR (d + 1) 2 133 [vA 196, vA x1, vI x2, vI x3, vI x4, vI x5, vI x6, vI x7, vI x8, u9] (r.toList ++ []) S2 M2 Q)) : WP PR (d + 1) 2 130 [vA 196, vA x1, vI x2, vI x3, vI x4, vI x5, vI x6, vI x7, vI x8, u9] [vI s1, vA 196] S M Q := by
  refine WP.ca 0 133 130 (.invokevirtual 46) (0, 6, 0, 0) rfl ?_
  exact ⟨rfl, rfl, rfl, lo196 L, rfl, k⟩
set_option maxRecDepth 100000 in
theorem b_X0_ask_133 {d : Nat} {S : mSh} {M : mMem} {Q : Option mV → mSh → mMem → Prop} {x1 x2 x3 x4 x5 x6 x7 x8 : Int} {u9 : mV} (hc : R32 (x6 + 1)) (k : WP PR d 2 43 [vA 196, vA x1, vI x2, vI x3, vI x4, vI x5, vI (x6 + 1), vI x7, vI x8, u9] [] S M Q) : WP PR d 2 133 [vA 196, vA x1, vI x2, vI x3, vI x4, vI x5, vI x6, vI x7, vI x8, u9] [] S M Q := by
  refine WP.gt 0 133 101 (0, 0, 0, 0) _ 234 rfl rfl ?_
  show WP PR d 2 234 [vA 196, vA x1, vI x2, vI x3, vI x4, vI x5, vI x6, vI x7, vI x8, u9] [] S M Q
  refine WP.gt 1 237 (-194) (0, 0, 0, 0) _ 43 rfl rfl ?_
  exact And.intro (hc) (k)
set_option maxRecDepth 100000 in
theorem b_X0_ask_136 {d : Nat} {S : mSh} {M : mMem} {Q : Option mV → mSh → mMem → Prop} {x1 x2 x3 x4 x5 x6 x7 x8 : Int} {u9 : mV} (kt : x7 = 12 → WP PR d 2 150 [vA 196, vA x1, vI x2, vI x3, vI x4, vI x5, vI x6, vI x7, vI x8, u9] [] S M Q) (kf : ¬ x7 = 12 → WP PR d 2 143 [vA 196, vA x1, vI x2, vI x3, vI x4, vI x5, vI x6, vI x7, vI x8, u9] [] S M Q) : WP PR d 2 136 [vA 196, vA x1, vI x2, vI x3, vI x4, vI x5, vI x6, vI x7, vI x8, u9] [] S M Q := by
  refine WP.if2 2 143 140 .eq 10 (0, 0, 0, 0) 150 rfl rfl ?_
  exact ⟨kt, fun hc => kf hc⟩
set_option maxRecDepth 100000 in
theorem b_X0_ask_143 {d : Nat} {S : mSh} {M : mMem} {Q : Option mV → mSh → mMem → Prop} {x1 x2 x3 x4 x5 x6 x7 x8 : Int} {u9 : mV} (kt : ¬ x7 = 13 → WP PR d 2 202 [vA 196, vA x1, vI x2, vI x3, vI x4, vI x5, vI x6, vI x7, vI x8, u9] [] S M Q) (kf : x7 = 13 → WP PR d 2 150 [vA 196, vA x1, vI x2, vI x3, vI x4, vI x5, vI x6, vI x7, vI x8, u9] [] S M Q) : WP PR d 2 143 [vA 196, vA x1, vI x2, vI x3, vI x4, vI x5, vI x6, vI x7, vI x8, u9] [] S M Q := by
  refine WP.if2 2 150 147 .ne 55 (0, 0, 0, 0) 202 rfl rfl ?_
  exact ⟨kt, fun hc => kf (Decidable.not_not.mp hc)⟩
set_option maxRecDepth 100000 in
theorem b_X0_ask_150 {d : Nat} {S : mSh} {M : mMem} {Q : Option mV → mSh → mMem → Prop} {x1 x2 x3 x4 x5 x6 x7 x8 : Int} {u9 : mV} (L : Lay S) (k : WP PR d 7 0 [vA 196] [] S M (fun r S2 M2 => WP PR (d + 1) 2 154 [vA 196, vA x1, vI x2, vI x3, vI x4, vI x5, vI x6, vI x7, vI x8, u9] (r.toList ++ []) S2 M2 Q)) : WP PR (d + 1) 2 150 [vA 196, vA x1, vI x2, vI x3, vI x4, vI x5, vI x6, vI x7, vI x8, u9] [] S M Q := by
  refine WP.ca 1 154 151 (.invokevirtual 57) (0, 7, 0, 0) rfl ?_
  exact ⟨rfl, rfl, rfl, lo196 L, rfl, k⟩
set_option maxRecDepth 100000 in
theorem b_X0_ask_154 {d : Nat} {S : mSh} {M : mMem} {Q : Option mV → mSh → mMem → Prop} {x1 x2 x3 x4 x5 x6 x7 x8 s0 : Int} {u9 : mV} (kt : ¬ s0 = 1 → WP PR d 2 166 [vA 196, vA x1, vI x2, vI x3, vI x4, vI x5, vI x6, vI x7, vI x8, vI s0] [] S M Q) (kf : s0 = 1 → WP PR d 2 162 [vA 196, vA x1, vI x2, vI x3, vI x4, vI x5, vI x6, vI x7, vI x8, vI s0] [] S M Q) : WP PR d 2 154 [vA 196, vA x1, vI x2, vI x3, vI x4, vI x5, vI x6, vI x7, vI x8, u9] [vI s0] S M Q := by
  refine WP.if2 3 162 159 .ne 7 (0, 0, 0, 0) 166 rfl rfl ?_
  exact ⟨kt, fun hc => kf (Decidable.not_not.mp hc)⟩
set_option maxRecDepth 100000 in
theorem b_X0_ask_162 {d : Nat} {S : mSh} {M : mMem} {Q : Option mV → mSh → mMem → Prop} {x1 x2 x3 x4 x5 x6 x7 x8 x9 : Int} (kt : ¬ x7 = 13 → WP PR d 2 178 [vA 196, vA x1, vI x2, vI x3, vI x4, vI x5, vI x6, vI x7, vI x8, vI x9] [vI 1] S M Q) (kf : x7 = 13 → WP PR d 2 174 [vA 196, vA x1, vI x2, vI x3, vI x4, vI x5, vI x6, vI x7, vI x8, vI x9] [vI 1] S M Q) : WP PR d 2 162 [vA 196, vA x1, vI x2, vI x3, vI x4, vI x5, vI x6, vI x7, vI x8, vI x9] [] S M Q := by
  refine WP.gt 1 163 4 (0, 0, 0, 0) _ 167 rfl rfl ?_
  show WP PR d 2 167 [vA 196, vA x1, vI x2, vI x3, vI x4, vI x5, vI x6, vI x7, vI x8, vI x9] [vI 1] S M Q
  refine WP.if2 2 174 171 .ne 7 (0, 0, 0, 0) 178 rfl rfl ?_
  exact ⟨kt, fun hc => kf (Decidable.not_not.mp hc)⟩
set_option maxRecDepth 100000 in
theorem b_X0_ask_166 {d : Nat} {S : mSh} {M : mMem} {Q : Option mV → mSh → mMem → Prop} {x1 x2 x3 x4 x5 x6 x7 x8 x9 : Int} (kt : ¬ x7 = 13 → WP PR d 2 178 [vA 196, vA x1, vI x2, vI x3, vI x4, vI x5, vI x6, vI x7, vI x8, vI x9] [vI 0] S M Q) (kf : x7 = 13 → WP PR d 2 174 [vA 196, vA x1, vI x2, vI x3, vI x4, vI x5, vI x6, vI x7, vI x8, vI x9] [vI 0] S M Q) : WP PR d 2 166 [vA 196, vA x1, vI x2, vI x3, vI x4, vI x5, vI x6, vI x7, vI x8, vI x9] [] S M Q := by
  refine WP.if2 3 174 171 .ne 7 (0, 0, 0, 0) 178 rfl rfl ?_
  exact ⟨kt, fun hc => kf (Decidable.not_not.mp hc)⟩
set_option maxRecDepth 100000 in
theorem b_X0_ask_174 {d : Nat} {S : mSh} {M : mMem} {Q : Option mV → mSh → mMem → Prop} {x1 x2 x3 x4 x5 x6 x7 x8 x9 s0 : Int} (kt : ¬ s0 = 1 → WP PR d 2 199 [vA 196, vA x1, vI x2, vI x3, vI x4, vI x5, vI x6, vI x7, vI x8, vI x9] [] S M Q) (kf : s0 = 1 → WP PR d 2 182 [vA 196, vA x1, vI x2, vI x3, vI x4, vI x5, vI x6, vI x7, vI x8, vI x9] [] S M Q) : WP PR d 2 174 [vA 196, vA x1, vI x2, vI x3, vI x4, vI x5, vI x6, vI x7, vI x8, vI x9] [vI s0] S M Q := by
  refine WP.gt 1 175 4 (0, 0, 0, 0) _ 179 rfl rfl ?_
  show WP PR d 2 179 [vA 196, vA x1, vI x2, vI x3, vI x4, vI x5, vI x6, vI x7, vI x8, vI x9] [vI 1, vI s0] S M Q
  refine WP.if2 0 182 179 .ne 20 (0, 0, 0, 0) 199 rfl rfl ?_
  exact ⟨kt, fun hc => kf (Decidable.not_not.mp hc)⟩
set_option maxRecDepth 100000 in
theorem b_X0_ask_178 {d : Nat} {S : mSh} {M : mMem} {Q : Option mV → mSh → mMem → Prop} {x1 x2 x3 x4 x5 x6 x7 x8 x9 s0 : Int} (kt : ¬ s0 = 0 → WP PR d 2 199 [vA 196, vA x1, vI x2, vI x3, vI x4, vI x5, vI x6, vI x7, vI x8, vI x9] [] S M Q) (kf : s0 = 0 → WP PR d 2 182 [vA 196, vA x1, vI x2, vI x3, vI x4, vI x5, vI x6, vI x7, vI x8, vI x9] [] S M Q) : WP PR d 2 178 [vA 196, vA x1, vI x2, vI x3, vI x4, vI x5, vI x6, vI x7, vI x8, vI x9] [vI s0] S M Q := by
  refine WP.if2 1 182 179 .ne 20 (0, 0, 0, 0) 199 rfl rfl ?_
  exact ⟨kt, fun hc => kf (Decidable.not_not.mp hc)⟩
set_option maxRecDepth 100000 in
theorem b_X0_ask_182 {d : Nat} {S : mSh} {M : mMem} {Q : Option mV → mSh → mMem → Prop} {x1 x2 x3 x4 x5 x6 x7 x8 x9 : Int} (L : Lay S) (k : WP PR d 6 0 [vA 196, vI x9] [] S M (fun r S2 M2 => WP PR (d + 1) 2 188 [vA 196, vA x1, vI x2, vI x3, vI x4, vI x5, vI x6, vI x7, vI x8, vI x9] (r.toList ++ []) S2 M2 Q)) : WP PR (d + 1) 2 182 [vA 196, vA x1, vI x2, vI x3, vI x4, vI x5, vI x6, vI x7, vI x8, vI x9] [] S M Q := by
  refine WP.ca 2 188 185 (.invokevirtual 46) (0, 6, 0, 0) rfl ?_
  exact ⟨rfl, rfl, rfl, lo196 L, rfl, k⟩
set_option maxRecDepth 100000 in
theorem b_X0_ask_188 {d : Nat} {S : mSh} {M : mMem} {Q : Option mV → mSh → mMem → Prop} {x1 x2 x3 x4 x5 x6 x7 x8 x9 : Int} (hc : R32 (x8 - 1) ∧ R32 ((if x6 < x8 - 1 then x8 - 1 else x6) + 1)) (k : WP PR d 2 43 [vA 196, vA x1, vI x2, vI x3, vI x4, vI x5, vI ((if x6 < x8 - 1 then x8 - 1 else x6) + 1), vI x7, vI x8, vI x9] [] S M Q) : WP PR d 2 188 [vA 196, vA x1, vI x2, vI x3, vI x4, vI x5, vI x6, vI x7, vI x8, vI x9] [] S M Q := by
  refine WP.gt 6 199 35 (0, 0, 0, 0) _ 234 rfl rfl ?_
  refine And.intro (hc.1) (?_)
  show WP PR d 2 234 [vA 196, vA x1, vI x2, vI x3, vI x4, vI x5, vI (if x6 < x8 - 1 then x8 - 1 else x6), vI x7, vI x8, vI x9] [] S M Q
  refine WP.gt 1 237 (-194) (0, 0, 0, 0) _ 43 rfl rfl ?_
  exact And.intro (hc.2) (k)
set_option maxRecDepth 100000 in
theorem b_X0_ask_199 {d : Nat} {S : mSh} {M : mMem} {Q : Option mV → mSh → mMem → Prop} {x1 x2 x3 x4 x5 x6 x7 x8 x9 : Int} (hc : R32 (x6 + 1)) (k : WP PR d 2 43 [vA 196, vA x1, vI x2, vI x3, vI x4, vI x5, vI (x6 + 1), vI x7, vI x8, vI x9] [] S M Q) : WP PR d 2 199 [vA 196, vA x1, vI x2, vI x3, vI x4, vI x5, vI x6, vI x7, vI x8, vI x9] [] S M Q := by
  refine WP.gt 0 199 35 (0, 0, 0, 0) _ 234 rfl rfl ?_
  show WP PR d 2 234 [vA 196, vA x1, vI x2, vI x3, vI x4, vI x5, vI x6, vI x7, vI x8, vI x9] [] S M Q
  refine WP.gt 1 237 (-194) (0, 0, 0, 0) _ 43 rfl rfl ?_
  exact And.intro (hc) (k)
set_option maxRecDepth 100000 in
theorem b_X0_ask_202 {d : Nat} {S : mSh} {M : mMem} {Q : Option mV → mSh → mMem → Prop} {x1 x2 x3 x4 x5 x6 x7 x8 : Int} {u9 : mV} (kt : ¬ x7 = 11 → WP PR d 2 222 [vA 196, vA x1, vI x2, vI x3, vI x4, vI x5, vI x6, vI x7, vI x8, u9] [] S M Q) (kf : x7 = 11 → WP PR d 2 209 [vA 196, vA x1, vI x2, vI x3, vI x4, vI x5, vI x6, vI x7, vI x8, u9] [] S M Q) : WP PR d 2 202 [vA 196, vA x1, vI x2, vI x3, vI x4, vI x5, vI x6, vI x7, vI x8, u9] [] S M Q := by
  refine WP.if2 2 209 206 .ne 16 (0, 0, 0, 0) 222 rfl rfl ?_
  exact ⟨kt, fun hc => kf (Decidable.not_not.mp hc)⟩
set_option maxRecDepth 100000 in
theorem b_X0_ask_209 {d : Nat} {S : mSh} {M : mMem} {Q : Option mV → mSh → mMem → Prop} {x1 x2 x3 x4 x5 x6 x7 x8 : Int} {u9 : mV} (L : Lay S) (k : WP PR d 7 0 [vA 196] [] S M (fun r S2 M2 => WP PR (d + 1) 2 215 [vA 196, vA x1, vI x2, vI x3, vI x4, vI x5, vI x6, vI x7, vI x8, u9] (r.toList ++ [vI 1, vA 196]) S2 M2 Q)) : WP PR (d + 1) 2 209 [vA 196, vA x1, vI x2, vI x3, vI x4, vI x5, vI x6, vI x7, vI x8, u9] [] S M Q := by
  refine WP.ca 3 215 212 (.invokevirtual 57) (0, 7, 0, 0) rfl ?_
  exact ⟨rfl, rfl, rfl, lo196 L, rfl, k⟩
set_option maxRecDepth 100000 in
theorem b_X0_ask_215 {d : Nat} {S : mSh} {M : mMem} {Q : Option mV → mSh → mMem → Prop} {x1 x2 x3 x4 x5 x6 x7 x8 s1 s2 : Int} {u9 : mV} (L : Lay S) (hc : R32 (s1 - s2)) (k : WP PR d 6 0 [vA 196, vI (s1 - s2)] [] S M (fun r S2 M2 => WP PR (d + 1) 2 219 [vA 196, vA x1, vI x2, vI x3, vI x4, vI x5, vI x6, vI x7, vI x8, u9] (r.toList ++ []) S2 M2 Q)) : WP PR (d + 1) 2 215 [vA 196, vA x1, vI x2, vI x3, vI x4, vI x5, vI x6, vI x7, vI x8, u9] [vI s2, vI s1, vA 196] S M Q := by
  refine WP.ca 1 219 216 (.invokevirtual 46) (0, 6, 0, 0) rfl ?_
  exact And.intro (hc) (⟨rfl, rfl, rfl, lo196 L, rfl, k⟩)
set_option maxRecDepth 100000 in
theorem b_X0_ask_219 {d : Nat} {S : mSh} {M : mMem} {Q : Option mV → mSh → mMem → Prop} {x1 x2 x3 x4 x5 x6 x7 x8 : Int} {u9 : mV} (hc : R32 (x6 + 1)) (k : WP PR d 2 43 [vA 196, vA x1, vI x2, vI x3, vI x4, vI x5, vI (x6 + 1), vI x7, vI x8, u9] [] S M Q) : WP PR d 2 219 [vA 196, vA x1, vI x2, vI x3, vI x4, vI x5, vI x6, vI x7, vI x8, u9] [] S M Q := by
  refine WP.gt 0 219 15 (0, 0, 0, 0) _ 234 rfl rfl ?_
  show WP PR d 2 234 [vA 196, vA x1, vI x2, vI x3, vI x4, vI x5, vI x6, vI x7, vI x8, u9] [] S M Q
  refine WP.gt 1 237 (-194) (0, 0, 0, 0) _ 43 rfl rfl ?_
  exact And.intro (hc) (k)
set_option maxRecDepth 100000 in
theorem b_X0_ask_222 {d : Nat} {S : mSh} {M : mMem} {Q : Option mV → mSh → mMem → Prop} {x1 x2 x3 x4 x5 x6 x7 x8 : Int} {u9 : mV} (L : Lay S) (k : WP PR d 3 0 [vA 196, vI x7, vU, vU, vU, vU, vU, vU] [] S M (fun r S2 M2 => WP PR (d + 1) 2 228 [vA 196, vA x1, vI x2, vI x3, vI x4, vI x5, vI x6, vI x7, vI x8, u9] (r.toList ++ []) S2 M2 Q)) : WP PR (d + 1) 2 222 [vA 196, vA x1, vI x2, vI x3, vI x4, vI x5, vI x6, vI x7, vI x8, u9] [] S M Q := by
  refine WP.ca 2 228 225 (.invokevirtual 64) (0, 3, 0, 0) rfl ?_
  exact ⟨rfl, rfl, rfl, lo196 L, rfl, k⟩
set_option maxRecDepth 100000 in
theorem b_X0_ask_228 {d : Nat} {S : mSh} {M : mMem} {Q : Option mV → mSh → mMem → Prop} {x1 x2 x3 x4 x5 x6 x7 x8 s0 : Int} {u9 : mV} (kt : ¬ s0 = 0 → WP PR d 2 234 [vA 196, vA x1, vI x2, vI x3, vI x4, vI x5, vI x6, vI x7, vI x8, u9] [] S M Q) (kf : s0 = 0 → WP PR d 2 231 [vA 196, vA x1, vI x2, vI x3, vI x4, vI x5, vI x6, vI x7, vI x8, u9] [] S M Q) : WP PR d 2 228 [vA 196, vA x1, vI x2, vI x3, vI x4, vI x5, vI x6, vI x7, vI x8, u9] [vI s0] S M Q := by
  refine WP.if0 0 231 228 .ne 6 (0, 0, 0, 0) 234 rfl rfl ?_
  exact ⟨kt, fun hc => kf (Decidable.not_not.mp hc)⟩
set_option maxRecDepth 100000 in
theorem b_X0_ask_231 {d : Nat} {S : mSh} {M : mMem} {Q : Option mV → mSh → mMem → Prop} {x1 x2 x3 x4 x5 x6 x7 x8 : Int} {u9 : mV} (k : Q (some (vI (-2000000000))) S M) : WP PR d 2 231 [vA 196, vA x1, vI x2, vI x3, vI x4, vI x5, vI x6, vI x7, vI x8, u9] [] S M Q := by
  refine WP.re 1 233 .ireturn (0, 0, 0, 0) _ rfl ?_
  exact ⟨rfl, rfl, trivial, k⟩
set_option maxRecDepth 100000 in
theorem b_X0_ask_234 {d : Nat} {S : mSh} {M : mMem} {Q : Option mV → mSh → mMem → Prop} {x1 x2 x3 x4 x5 x6 x7 x8 : Int} {u9 : mV} (hc : R32 (x6 + 1)) (k : WP PR d 2 43 [vA 196, vA x1, vI x2, vI x3, vI x4, vI x5, vI (x6 + 1), vI x7, vI x8, u9] [] S M Q) : WP PR d 2 234 [vA 196, vA x1, vI x2, vI x3, vI x4, vI x5, vI x6, vI x7, vI x8, u9] [] S M Q := by
  refine WP.gt 1 237 (-194) (0, 0, 0, 0) _ 43 rfl rfl ?_
  exact And.intro (hc) (k)
set_option maxRecDepth 100000 in
theorem b_X0_ask_240 {d : Nat} {S : mSh} {M : mMem} {Q : Option mV → mSh → mMem → Prop} {x1 x2 x3 x4 x5 x6 : Int} {u7 u8 u9 : mV} (L : Lay S) (k : WP PR d 7 0 [vA 196] [] S M (fun r S2 M2 => WP PR (d + 1) 2 244 [vA 196, vA x1, vI x2, vI x3, vI x4, vI x5, vI x6, u7, u8, u9] (r.toList ++ []) S2 M2 Q)) : WP PR (d + 1) 2 240 [vA 196, vA x1, vI x2, vI x3, vI x4, vI x5, vI x6, u7, u8, u9] [] S M Q := by
  refine WP.ca 1 244 241 (.invokevirtual 57) (0, 7, 0, 0) rfl ?_
  exact ⟨rfl, rfl, rfl, lo196 L, rfl, k⟩
set_option maxRecDepth 100000 in
theorem b_X0_ask_244 {d : Nat} {S : mSh} {M : mMem} {Q : Option mV → mSh → mMem → Prop} {x1 x2 x3 x4 x5 x6 s0 : Int} {u7 u8 u9 : mV} (k : Q (some (vI s0)) S M) : WP PR d 2 244 [vA 196, vA x1, vI x2, vI x3, vI x4, vI x5, vI x6, u7, u8, u9] [vI s0] S M Q := by
  refine WP.re 0 244 .ireturn (0, 0, 0, 0) _ rfl ?_
  exact ⟨rfl, rfl, trivial, k⟩
/-- SoleraCellar$Asker.joins(I)Z -/
abbrev e_X0_joins (d : Nat) (a1 : Int) (S : mSh) (M : mMem) (Q : Option mV → mSh → mMem → Prop) : Prop := WP PR d 3 0 [vA 196, vI a1, vU, vU, vU, vU, vU, vU] [] S M Q
set_option maxRecDepth 100000 in
theorem b_X0_joins_0 {d : Nat} {S : mSh} {M : mMem} {Q : Option mV → mSh → mMem → Prop} {x1 : Int} (L : Lay S) (k : WP PR d 7 0 [vA 196] [] S M (fun r S2 M2 => WP PR (d + 1) 3 4 [vA 196, vI x1, vU, vU, vU, vU, vU, vU] (r.toList ++ []) S2 M2 Q)) : WP PR (d + 1) 3 0 [vA 196, vI x1, vU, vU, vU, vU, vU, vU] [] S M Q := by
  refine WP.ca 1 4 1 (.invokevirtual 57) (0, 7, 0, 0) rfl ?_
  exact ⟨rfl, rfl, rfl, lo196 L, rfl, k⟩
set_option maxRecDepth 100000 in
theorem b_X0_joins_4 {d : Nat} {S : mSh} {M : mMem} {Q : Option mV → mSh → mMem → Prop} {x1 s0 : Int} {u2 u3 u4 u5 u6 u7 : mV} (L : Lay S) (k : WP PR d 7 0 [vA 196] [] S M (fun r S2 M2 => WP PR (d + 1) 3 10 [vA 196, vI x1, vL s0, vU, u4, u5, u6, u7] (r.toList ++ []) S2 M2 Q)) : WP PR (d + 1) 3 4 [vA 196, vI x1, u2, u3, u4, u5, u6, u7] [vI s0] S M Q := by
  refine WP.ca 3 10 7 (.invokevirtual 57) (0, 7, 0, 0) rfl ?_
  exact ⟨rfl, rfl, rfl, lo196 L, rfl, k⟩
set_option maxRecDepth 100000 in
theorem b_X0_joins_10 {d : Nat} {S : mSh} {M : mMem} {Q : Option mV → mSh → mMem → Prop} {x1 x2 s0 : Int} {u4 u5 u6 u7 : mV} (kt : x1 = 6 → WP PR d 3 28 [vA 196, vI x1, vL x2, vU, vL s0, vU, vL 0, vU] [] S M Q) (kf : ¬ x1 = 6 → WP PR d 3 22 [vA 196, vI x1, vL x2, vU, vL s0, vU, vL 0, vU] [] S M Q) : WP PR d 3 10 [vA 196, vI x1, vL x2, vU, u4, u5, u6, u7] [vI s0] S M Q := by
  refine WP.if2 6 22 19 .eq 9 (0, 0, 0, 0) 28 rfl rfl ?_
  exact ⟨kt, fun hc => kf hc⟩
set_option maxRecDepth 100000 in
theorem b_X0_joins_22 {d : Nat} {S : mSh} {M : mMem} {Q : Option mV → mSh → mMem → Prop} {x1 x2 x4 x6 : Int} (kt : ¬ x1 = 7 → WP PR d 3 36 [vA 196, vI x1, vL x2, vU, vL x4, vU, vL x6, vU] [] S M Q) (kf : x1 = 7 → WP PR d 3 28 [vA 196, vI x1, vL x2, vU, vL x4, vU, vL x6, vU] [] S M Q) : WP PR d 3 22 [vA 196, vI x1, vL x2, vU, vL x4, vU, vL x6, vU] [] S M Q := by
  refine WP.if2 2 28 25 .ne 11 (0, 0, 0, 0) 36 rfl rfl ?_
  exact ⟨kt, fun hc => kf (Decidable.not_not.mp hc)⟩
set_option maxRecDepth 100000 in
theorem b_X0_joins_28 {d : Nat} {S : mSh} {M : mMem} {Q : Option mV → mSh → mMem → Prop} {x1 x2 x4 x6 : Int} (kt : ¬ x2 = 0 → WP PR d 3 36 [vA 196, vI x1, vL x2, vU, vL x4, vU, vL x6, vU] [] S M Q) (kf : x2 = 0 → WP PR d 3 34 [vA 196, vI x1, vL x2, vU, vL x4, vU, vL x6, vU] [] S M Q) : WP PR d 3 28 [vA 196, vI x1, vL x2, vU, vL x4, vU, vL x6, vU] [] S M Q := by
  refine WP.if0 3 34 31 .ne 5 (0, 0, 0, 0) 36 rfl rfl ?_
  exact ⟨fun hc => kt (fun e => hc (lcp_eq.mpr e)), fun hc => kf (lcp_eq.mp (Decidable.not_not.mp hc))⟩
set_option maxRecDepth 100000 in
theorem b_X0_joins_34 {d : Nat} {S : mSh} {M : mMem} {Q : Option mV → mSh → mMem → Prop} {x1 x2 x4 x6 : Int} (k : Q (some (vI 0)) S M) : WP PR d 3 34 [vA 196, vI x1, vL x2, vU, vL x4, vU, vL x6, vU] [] S M Q := by
  refine WP.re 1 35 .ireturn (0, 0, 0, 0) _ rfl ?_
  exact ⟨rfl, rfl, Or.inl rfl, k⟩
set_option maxRecDepth 100000 in
theorem b_X0_joins_36 {d : Nat} {S : mSh} {M : mMem} {Q : Option mV → mSh → mMem → Prop} {x1 x2 x4 x6 : Int} (k : WP PR d 3 (swT 37 x1 122 3 9 [43, 52, 61, 70, 79, 88, 105]) [vA 196, vI x1, vL x2, vU, vL x4, vU, vL x6, vU] [] S M Q) : WP PR d 3 36 [vA 196, vI x1, vL x2, vU, vL x4, vU, vL x6, vU] [] S M Q := by
  refine WP.sw 1 37 122 3 9 #[43, 52, 61, 70, 79, 88, 105] (0, 0, 0, 0) _ rfl ?_
  exact k
set_option maxRecDepth 100000 in
theorem b_X0_joins_80 {d : Nat} {S : mSh} {M : mMem} {Q : Option mV → mSh → mMem → Prop} {x1 x2 x4 x6 : Int} (L : Lay S) (hc : R64 (x4 + x2)) (k : WP PR d 6 0 [vA 196, vI (w32 (x4 + x2))] [] S M (fun r S2 M2 => WP PR (d + 1) 3 180 [vA 196, vI x1, vL x2, vU, vL x4, vU, vL (x4 + x2), vU] (r.toList ++ []) S2 M2 Q)) : WP PR (d + 1) 3 80 [vA 196, vI x1, vL x2, vU, vL x4, vU, vL x6, vU] [] S M Q := by
  refine WP.gt 4 86 87 (0, 0, 0, 0) _ 173 rfl rfl ?_
  refine And.intro (hc) (?_)
  show WP PR (d + 1) 3 173 [vA 196, vI x1, vL x2, vU, vL x4, vU, vL (x4 + x2), vU] [] S M Q
  refine WP.ca 3 180 177 (.invokevirtual 46) (0, 6, 0, 0) rfl ?_
  exact ⟨rfl, rfl, rfl, lo196 L, rfl, k⟩
set_option maxRecDepth 100000 in
theorem b_X0_joins_89 {d : Nat} {S : mSh} {M : mMem} {Q : Option mV → mSh → mMem → Prop} {x1 x2 x4 x6 : Int} (L : Lay S) (hc : R64 (x4 - x2)) (k : WP PR d 6 0 [vA 196, vI (w32 (x4 - x2))] [] S M (fun r S2 M2 => WP PR (d + 1) 3 180 [vA 196, vI x1, vL x2, vU, vL x4, vU, vL (x4 - x2), vU] (r.toList ++ []) S2 M2 Q)) : WP PR (d + 1) 3 89 [vA 196, vI x1, vL x2, vU, vL x4, vU, vL x6, vU] [] S M Q := by
  refine WP.gt 4 95 78 (0, 0, 0, 0) _ 173 rfl rfl ?_
  refine And.intro (hc) (?_)
  show WP PR (d + 1) 3 173 [vA 196, vI x1, vL x2, vU, vL x4, vU, vL (x4 - x2), vU] [] S M Q
  refine WP.ca 3 180 177 (.invokevirtual 46) (0, 6, 0, 0) rfl ?_
  exact ⟨rfl, rfl, rfl, lo196 L, rfl, k⟩
set_option maxRecDepth 100000 in
theorem b_X0_joins_98 {d : Nat} {S : mSh} {M : mMem} {Q : Option mV → mSh → mMem → Prop} {x1 x2 x4 x6 : Int} (L : Lay S) (hc : R64 (x4 * x2)) (k : WP PR d 6 0 [vA 196, vI (w32 (x4 * x2))] [] S M (fun r S2 M2 => WP PR (d + 1) 3 180 [vA 196, vI x1, vL x2, vU, vL x4, vU, vL (x4 * x2), vU] (r.toList ++ []) S2 M2 Q)) : WP PR (d + 1) 3 98 [vA 196, vI x1, vL x2, vU, vL x4, vU, vL x6, vU] [] S M Q := by
  refine WP.gt 4 104 69 (0, 0, 0, 0) _ 173 rfl rfl ?_
  refine And.intro (hc) (?_)
  show WP PR (d + 1) 3 173 [vA 196, vI x1, vL x2, vU, vL x4, vU, vL (x4 * x2), vU] [] S M Q
  refine WP.ca 3 180 177 (.invokevirtual 46) (0, 6, 0, 0) rfl ?_
  exact ⟨rfl, rfl, rfl, lo196 L, rfl, k⟩
set_option maxRecDepth 100000 in
theorem b_X0_joins_107 {d : Nat} {S : mSh} {M : mMem} {Q : Option mV → mSh → mMem → Prop} {x1 x2 x4 x6 : Int} (L : Lay S) (hc : x2 ≠ 0 ∧ R64 (x4.tdiv x2)) (k : WP PR d 6 0 [vA 196, vI (w32 (x4.tdiv x2))] [] S M (fun r S2 M2 => WP PR (d + 1) 3 180 [vA 196, vI x1, vL x2, vU, vL x4, vU, vL (x4.tdiv x2), vU] (r.toList ++ []) S2 M2 Q)) : WP PR (d + 1) 3 107 [vA 196, vI x1, vL x2, vU, vL x4, vU, vL x6, vU] [] S M Q := by
  refine WP.gt 4 113 60 (0, 0, 0, 0) _ 173 rfl rfl ?_
  refine And.intro (⟨hc.1, hc.2⟩) (?_)
  show WP PR (d + 1) 3 173 [vA 196, vI x1, vL x2, vU, vL x4, vU, vL (x4.tdiv x2), vU] [] S M Q
  refine WP.ca 3 180 177 (.invokevirtual 46) (0, 6, 0, 0) rfl ?_
  exact ⟨rfl, rfl, rfl, lo196 L, rfl, k⟩
set_option maxRecDepth 100000 in
theorem b_X0_joins_116 {d : Nat} {S : mSh} {M : mMem} {Q : Option mV → mSh → mMem → Prop} {x1 x2 x4 x6 : Int} (L : Lay S) (hc : x2 ≠ 0 ∧ R64 (x4.tdiv x2)) (k : WP PR d 6 0 [vA 196, vI (w32 (x4.tmod x2))] [] S M (fun r S2 M2 => WP PR (d + 1) 3 180 [vA 196, vI x1, vL x2, vU, vL x4, vU, vL (x4.tmod x2), vU] (r.toList ++ []) S2 M2 Q)) : WP PR (d + 1) 3 116 [vA 196, vI x1, vL x2, vU, vL x4, vU, vL x6, vU] [] S M Q := by
  refine WP.gt 4 122 51 (0, 0, 0, 0) _ 173 rfl rfl ?_
  refine And.intro (⟨hc.1, hc.2⟩) (?_)
  show WP PR (d + 1) 3 173 [vA 196, vI x1, vL x2, vU, vL x4, vU, vL (x4.tmod x2), vU] [] S M Q
  refine WP.ca 3 180 177 (.invokevirtual 46) (0, 6, 0, 0) rfl ?_
  exact ⟨rfl, rfl, rfl, lo196 L, rfl, k⟩
set_option maxRecDepth 100000 in
theorem b_X0_joins_125 {d : Nat} {S : mSh} {M : mMem} {Q : Option mV → mSh → mMem → Prop} {x1 x2 x4 x6 : Int} (kt : x2 ≤ x4 → WP PR d 3 136 [vA 196, vI x1, vL x2, vU, vL x4, vU, vL x6, vU] [] S M Q) (kf : x4 < x2 → WP PR d 3 132 [vA 196, vI x1, vL x2, vU, vL x4, vU, vL x6, vU] [] S M Q) : WP PR d 3 125 [vA 196, vI x1, vL x2, vU, vL x4, vU, vL x6, vU] [] S M Q := by
  refine WP.if0 3 132 129 .ge 7 (0, 0, 0, 0) 136 rfl rfl ?_
  exact ⟨fun hc => kt (lcp_ge.mp hc), fun hc => kf (lcp_lt.mp (Int.not_le.mp hc))⟩
set_option maxRecDepth 100000 in
theorem b_X0_joins_132 {d : Nat} {S : mSh} {M : mMem} {Q : Option mV → mSh → mMem → Prop} {x1 x2 x4 x6 : Int} (L : Lay S) (k : WP PR d 6 0 [vA 196, vI (w32 1)] [] S M (fun r S2 M2 => WP PR (d + 1) 3 180 [vA 196, vI x1, vL x2, vU, vL x4, vU, vL 1, vU] (r.toList ++ []) S2 M2 Q)) : WP PR (d + 1) 3 132 [vA 196, vI x1, vL x2, vU, vL x4, vU, vL x6, vU] [] S M Q := by
  refine WP.gt 1 133 4 (0, 0, 0, 0) _ 137 rfl rfl ?_
  show WP PR (d + 1) 3 137 [vA 196, vI x1, vL x2, vU, vL x4, vU, vL x6, vU] [vL 1] S M Q
  refine WP.gt 1 139 34 (0, 0, 0, 0) _ 173 rfl rfl ?_
  show WP PR (d + 1) 3 173 [vA 196, vI x1, vL x2, vU, vL x4, vU, vL 1, vU] [] S M Q
  refine WP.ca 3 180 177 (.invokevirtual 46) (0, 6, 0, 0) rfl ?_
  exact ⟨rfl, rfl, rfl, lo196 L, rfl, k⟩
set_option maxRecDepth 100000 in
theorem b_X0_joins_136 {d : Nat} {S : mSh} {M : mMem} {Q : Option mV → mSh → mMem → Prop} {x1 x2 x4 x6 : Int} (L : Lay S) (k : WP PR d 6 0 [vA 196, vI (w32 0)] [] S M (fun r S2 M2 => WP PR (d + 1) 3 180 [vA 196, vI x1, vL x2, vU, vL x4, vU, vL 0, vU] (r.toList ++ []) S2 M2 Q)) : WP PR (d + 1) 3 136 [vA 196, vI x1, vL x2, vU, vL x4, vU, vL x6, vU] [] S M Q := by
  refine WP.gt 2 139 34 (0, 0, 0, 0) _ 173 rfl rfl ?_
  show WP PR (d + 1) 3 173 [vA 196, vI x1, vL x2, vU, vL x4, vU, vL 0, vU] [] S M Q
  refine WP.ca 3 180 177 (.invokevirtual 46) (0, 6, 0, 0) rfl ?_
  exact ⟨rfl, rfl, rfl, lo196 L, rfl, k⟩
set_option maxRecDepth 100000 in
theorem b_X0_joins_142 {d : Nat} {S : mSh} {M : mMem} {Q : Option mV → mSh → mMem → Prop} {x1 x2 x4 x6 : Int} (kt : x4 ≤ x2 → WP PR d 3 153 [vA 196, vI x1, vL x2, vU, vL x4, vU, vL x6, vU] [] S M Q) (kf : x2 < x4 → WP PR d 3 149 [vA 196, vI x1, vL x2, vU, vL x4, vU, vL x6, vU] [] S M Q) : WP PR d 3 142 [vA 196, vI x1, vL x2, vU, vL x4, vU, vL x6, vU] [] S M Q := by
  refine WP.if0 3 149 146 .le 7 (0, 0, 0, 0) 153 rfl rfl ?_
  exact ⟨fun hc => kt (lcp_le.mp hc), fun hc => kf (lcp_gt.mp (Int.not_le.mp hc))⟩
set_option maxRecDepth 100000 in
theorem b_X0_joins_149 {d : Nat} {S : mSh} {M : mMem} {Q : Option mV → mSh → mMem → Prop} {x1 x2 x4 x6 : Int} (L : Lay S) (k : WP PR d 6 0 [vA 196, vI (w32 1)] [] S M (fun r S2 M2 => WP PR (d + 1) 3 180 [vA 196, vI x1, vL x2, vU, vL x4, vU, vL 1, vU] (r.toList ++ []) S2 M2 Q)) : WP PR (d + 1) 3 149 [vA 196, vI x1, vL x2, vU, vL x4, vU, vL x6, vU] [] S M Q := by
  refine WP.gt 1 150 4 (0, 0, 0, 0) _ 154 rfl rfl ?_
  show WP PR (d + 1) 3 154 [vA 196, vI x1, vL x2, vU, vL x4, vU, vL x6, vU] [vL 1] S M Q
  refine WP.gt 1 156 17 (0, 0, 0, 0) _ 173 rfl rfl ?_
  show WP PR (d + 1) 3 173 [vA 196, vI x1, vL x2, vU, vL x4, vU, vL 1, vU] [] S M Q
  refine WP.ca 3 180 177 (.invokevirtual 46) (0, 6, 0, 0) rfl ?_
  exact ⟨rfl, rfl, rfl, lo196 L, rfl, k⟩
set_option maxRecDepth 100000 in
theorem b_X0_joins_153 {d : Nat} {S : mSh} {M : mMem} {Q : Option mV → mSh → mMem → Prop} {x1 x2 x4 x6 : Int} (L : Lay S) (k : WP PR d 6 0 [vA 196, vI (w32 0)] [] S M (fun r S2 M2 => WP PR (d + 1) 3 180 [vA 196, vI x1, vL x2, vU, vL x4, vU, vL 0, vU] (r.toList ++ []) S2 M2 Q)) : WP PR (d + 1) 3 153 [vA 196, vI x1, vL x2, vU, vL x4, vU, vL x6, vU] [] S M Q := by
  refine WP.gt 2 156 17 (0, 0, 0, 0) _ 173 rfl rfl ?_
  show WP PR (d + 1) 3 173 [vA 196, vI x1, vL x2, vU, vL x4, vU, vL 0, vU] [] S M Q
  refine WP.ca 3 180 177 (.invokevirtual 46) (0, 6, 0, 0) rfl ?_
  exact ⟨rfl, rfl, rfl, lo196 L, rfl, k⟩
set_option maxRecDepth 100000 in
theorem b_X0_joins_159 {d : Nat} {S : mSh} {M : mMem} {Q : Option mV → mSh → mMem → Prop} {x1 x2 x4 x6 : Int} (kt : ¬ x4 = x2 → WP PR d 3 170 [vA 196, vI x1, vL x2, vU, vL x4, vU, vL x6, vU] [] S M Q) (kf : x4 = x2 → WP PR d 3 166 [vA 196, vI x1, vL x2, vU, vL x4, vU, vL x6, vU] [] S M Q) : WP PR d 3 159 [vA 196, vI x1, vL x2, vU, vL x4, vU, vL x6, vU] [] S M Q := by
  refine WP.if0 3 166 163 .ne 7 (0, 0, 0, 0) 170 rfl rfl ?_
  exact ⟨fun hc => kt (fun e => hc (lcp_eq.mpr e)), fun hc => kf (lcp_eq.mp (Decidable.not_not.mp hc))⟩
set_option maxRecDepth 100000 in
theorem b_X0_joins_166 {d : Nat} {S : mSh} {M : mMem} {Q : Option mV → mSh → mMem → Prop} {x1 x2 x4 x6 : Int} (L : Lay S) (k : WP PR d 6 0 [vA 196, vI (w32 1)] [] S M (fun r S2 M2 => WP PR (d + 1) 3 180 [vA 196, vI x1, vL x2, vU, vL x4, vU, vL 1, vU] (r.toList ++ []) S2 M2 Q)) : WP PR (d + 1) 3 166 [vA 196, vI x1, vL x2, vU, vL x4, vU, vL x6, vU] [] S M Q := by
  refine WP.gt 1 167 4 (0, 0, 0, 0) _ 171 rfl rfl ?_
  show WP PR (d + 1) 3 171 [vA 196, vI x1, vL x2, vU, vL x4, vU, vL x6, vU] [vL 1] S M Q
  refine WP.ca 4 180 177 (.invokevirtual 46) (0, 6, 0, 0) rfl ?_
  exact ⟨rfl, rfl, rfl, lo196 L, rfl, k⟩
set_option maxRecDepth 100000 in
theorem b_X0_joins_170 {d : Nat} {S : mSh} {M : mMem} {Q : Option mV → mSh → mMem → Prop} {x1 x2 x4 x6 : Int} (L : Lay S) (k : WP PR d 6 0 [vA 196, vI (w32 0)] [] S M (fun r S2 M2 => WP PR (d + 1) 3 180 [vA 196, vI x1, vL x2, vU, vL x4, vU, vL 0, vU] (r.toList ++ []) S2 M2 Q)) : WP PR (d + 1) 3 170 [vA 196, vI x1, vL x2, vU, vL x4, vU, vL x6, vU] [] S M Q := by
  refine WP.ca 5 180 177 (.invokevirtual 46) (0, 6, 0, 0) rfl ?_
  exact ⟨rfl, rfl, rfl, lo196 L, rfl, k⟩
set_option maxRecDepth 100000 in
theorem b_X0_joins_180 {d : Nat} {S : mSh} {M : mMem} {Q : Option mV → mSh → mMem → Prop} {x1 x2 x4 x6 : Int} (kt : x6 < (-1000000000) → WP PR d 3 202 [vA 196, vI x1, vL x2, vU, vL x4, vU, vL x6, vU] [] S M Q) (kf : (-1000000000) ≤ x6 → WP PR d 3 189 [vA 196, vI x1, vL x2, vU, vL x4, vU, vL x6, vU] [] S M Q) : WP PR d 3 180 [vA 196, vI x1, vL x2, vU, vL x4, vU, vL x6, vU] [] S M Q := by
  refine WP.if0 3 189 186 .lt 16 (0, 0, 0, 0) 202 rfl rfl ?_
  exact ⟨fun hc => kt (lcp_lt.mp hc), fun hc => kf (lcp_ge.mp (Int.not_lt.mp hc))⟩
set_option maxRecDepth 100000 in
theorem b_X0_joins_189 {d : Nat} {S : mSh} {M : mMem} {Q : Option mV → mSh → mMem → Prop} {x1 x2 x4 x6 : Int} (kt : 1000000000 < x6 → WP PR d 3 202 [vA 196, vI x1, vL x2, vU, vL x4, vU, vL x6, vU] [] S M Q) (kf : x6 ≤ 1000000000 → WP PR d 3 198 [vA 196, vI x1, vL x2, vU, vL x4, vU, vL x6, vU] [] S M Q) : WP PR d 3 189 [vA 196, vI x1, vL x2, vU, vL x4, vU, vL x6, vU] [] S M Q := by
  refine WP.if0 3 198 195 .gt 7 (0, 0, 0, 0) 202 rfl rfl ?_
  exact ⟨fun hc => kt (lcp_gt.mp hc), fun hc => kf (lcp_le.mp (Int.not_lt.mp hc))⟩
set_option maxRecDepth 100000 in
theorem b_X0_joins_198 {d : Nat} {S : mSh} {M : mMem} {Q : Option mV → mSh → mMem → Prop} {x1 x2 x4 x6 : Int} (k : Q (some (vI 1)) S M) : WP PR d 3 198 [vA 196, vI x1, vL x2, vU, vL x4, vU, vL x6, vU] [] S M Q := by
  refine WP.gt 1 199 4 (0, 0, 0, 0) _ 203 rfl rfl ?_
  show WP PR d 3 203 [vA 196, vI x1, vL x2, vU, vL x4, vU, vL x6, vU] [vI 1] S M Q
  refine WP.re 0 203 .ireturn (0, 0, 0, 0) _ rfl ?_
  exact ⟨rfl, rfl, Or.inr rfl, k⟩
set_option maxRecDepth 100000 in
theorem b_X0_joins_202 {d : Nat} {S : mSh} {M : mMem} {Q : Option mV → mSh → mMem → Prop} {x1 x2 x4 x6 : Int} (k : Q (some (vI 0)) S M) : WP PR d 3 202 [vA 196, vI x1, vL x2, vU, vL x4, vU, vL x6, vU] [] S M Q := by
  refine WP.re 1 203 .ireturn (0, 0, 0, 0) _ rfl ?_
  exact ⟨rfl, rfl, Or.inl rfl, k⟩
/-- SoleraCellar$Asker.valueOfCellar(I)I -/
abbrev e_X0_valueOfCellar (d : Nat) (a1 : Int) (S : mSh) (M : mMem) (Q : Option mV → mSh → mMem → Prop) : Prop := WP PR d 4 0 [vA 196, vI a1] [] S M Q
set_option maxRecDepth 100000 in
theorem b_X0_valueOfCellar_0 {d : Nat} {S : mSh} {M : mMem} {Q : Option mV → mSh → mMem → Prop} {x1 : Int} (k : WP PR d 4 (swT 1 x1 61 0 3 [31, 41, 51, 56]) [vA 196, vI x1] [] S M Q) : WP PR d 4 0 [vA 196, vI x1] [] S M Q := by
  refine WP.sw 1 1 61 0 3 #[31, 41, 51, 56] (0, 0, 0, 0) _ rfl ?_
  exact k
set_option maxRecDepth 100000 in
theorem b_X0_valueOfCellar_32 {d : Nat} {S : mSh} {M : mMem} {Q : Option mV → mSh → mMem → Prop} {x1 : Int} {q1 : Int} (eq1 : M 196 2 = q1) (L : Lay S) (hq1 : Stk S q1) (k : Q (some (vI (M (q1 + 6) 0))) S M) : WP PR d 4 32 [vA 196, vI x1] [] S M Q := by
  subst eq1
  refine WP.re 5 41 .ireturn (0, 0, 0, 0) _ rfl ?_
  exact And.intro (lo196 L) (And.intro (⟨(hq1).o, (hq1).f5⟩) (And.intro (inA_of ((hq1).a6) ((hq1).l6) (by decide)) (⟨rfl, rfl, trivial, k⟩)))
set_option maxRecDepth 100000 in
theorem b_X0_valueOfCellar_42 {d : Nat} {S : mSh} {M : mMem} {Q : Option mV → mSh → mMem → Prop} {x1 : Int} {q1 : Int} (eq1 : M 196 2 = q1) (L : Lay S) (hq1 : Stk S q1) (k : Q (some (vI (M (q1 + 6) 2))) S M) : WP PR d 4 42 [vA 196, vI x1] [] S M Q := by
  subst eq1
  refine WP.re 5 51 .ireturn (0, 0, 0, 0) _ rfl ?_
  exact And.intro (lo196 L) (And.intro (⟨(hq1).o, (hq1).f5⟩) (And.intro (inA_of ((hq1).a6) ((hq1).l6) (by decide)) (⟨rfl, rfl, trivial, k⟩)))
set_option maxRecDepth 100000 in
theorem b_X0_valueOfCellar_52 {d : Nat} {S : mSh} {M : mMem} {Q : Option mV → mSh → mMem → Prop} {x1 : Int} (L : Lay S) (k : Q (some (vI (M 196 4))) S M) : WP PR d 4 52 [vA 196, vI x1] [] S M Q := by
  refine WP.re 2 56 .ireturn (0, 0, 0, 0) _ rfl ?_
  exact And.intro (lo196 L) (⟨rfl, rfl, trivial, k⟩)
set_option maxRecDepth 100000 in
theorem b_X0_valueOfCellar_57 {d : Nat} {S : mSh} {M : mMem} {Q : Option mV → mSh → mMem → Prop} {x1 : Int} (L : Lay S) (k : Q (some (vI (M 196 5))) S M) : WP PR d 4 57 [vA 196, vI x1] [] S M Q := by
  refine WP.re 2 61 .ireturn (0, 0, 0, 0) _ rfl ?_
  exact And.intro (lo196 L) (⟨rfl, rfl, trivial, k⟩)
set_option maxRecDepth 100000 in
theorem b_X0_valueOfCellar_62 {d : Nat} {S : mSh} {M : mMem} {Q : Option mV → mSh → mMem → Prop} {x1 : Int} {q1 : Int} (eq1 : M 196 2 = q1) (L : Lay S) (hq1 : Stk S q1) (k : Q (some (vI (M q1 7))) S M) : WP PR d 4 62 [vA 196, vI x1] [] S M Q := by
  subst eq1
  refine WP.re 3 69 .ireturn (0, 0, 0, 0) _ rfl ?_
  exact And.intro (lo196 L) (And.intro ((hq1).o) (⟨rfl, rfl, trivial, k⟩))
/-- SoleraCellar$Asker.valueOfCask(II)I -/
abbrev e_X0_valueOfCask (d : Nat) (a1 a2 : Int) (S : mSh) (M : mMem) (Q : Option mV → mSh → mMem → Prop) : Prop := WP PR d 5 0 [vA 196, vI a1, vI a2, vU] [] S M Q
set_option maxRecDepth 100000 in
theorem b_X0_valueOfCask_0 {d : Nat} {S : mSh} {M : mMem} {Q : Option mV → mSh → mMem → Prop} {x1 x2 : Int} (kt : ¬ x2 = 8 → WP PR d 5 13 [vA 196, vI x1, vI x2, vU] [] S M Q) (kf : x2 = 8 → WP PR d 5 6 [vA 196, vI x1, vI x2, vU] [] S M Q) : WP PR d 5 0 [vA 196, vI x1, vI x2, vU] [] S M Q := by
  refine WP.if2 2 6 3 .ne 10 (0, 0, 0, 0) 13 rfl rfl ?_
  exact ⟨kt, fun hc => kf (Decidable.not_not.mp hc)⟩
set_option maxRecDepth 100000 in
theorem b_X0_valueOfCask_6 {d : Nat} {S : mSh} {M : mMem} {Q : Option mV → mSh → mMem → Prop} {x1 x2 : Int} {u3 : mV} {q1 : Int} (eq1 : M 196 2 = q1) (L : Lay S) (hq1 : Stk S q1) (k : WP PR d 42 0 [vA q1, vI (M 196 3)] [] S M (fun r S2 M2 => WP PR (d + 1) 5 23 [vA 196, vI x1, vI x2, vI (M 196 3)] (r.toList ++ []) S2 M2 Q)) : WP PR (d + 1) 5 6 [vA 196, vI x1, vI x2, u3] [] S M Q := by
  subst eq1
  refine WP.gt 2 10 4 (0, 0, 0, 0) _ 14 rfl rfl ?_
  refine And.intro (lo196 L) (?_)
  show WP PR (d + 1) 5 14 [vA 196, vI x1, vI x2, u3] [vI (M 196 3)] S M Q
  refine WP.ca 4 23 20 (.invokevirtual 84) (0, 42, 0, 0) rfl ?_
  exact And.intro (lo196 L) (⟨rfl, rfl, rfl, (hq1).o, rfl, k⟩)
set_option maxRecDepth 100000 in
theorem b_X0_valueOfCask_13 {d : Nat} {S : mSh} {M : mMem} {Q : Option mV → mSh → mMem → Prop} {x1 x2 : Int} {u3 : mV} {q1 : Int} (eq1 : M 196 2 = q1) (L : Lay S) (hq1 : Stk S q1) (k : WP PR d 42 0 [vA q1, vI x2] [] S M (fun r S2 M2 => WP PR (d + 1) 5 23 [vA 196, vI x1, vI x2, vI x2] (r.toList ++ []) S2 M2 Q)) : WP PR (d + 1) 5 13 [vA 196, vI x1, vI x2, u3] [] S M Q := by
  subst eq1
  refine WP.ca 5 23 20 (.invokevirtual 84) (0, 42, 0, 0) rfl ?_
  exact And.intro (lo196 L) (⟨rfl, rfl, rfl, (hq1).o, rfl, k⟩)
set_option maxRecDepth 100000 in
theorem b_X0_valueOfCask_23 {d : Nat} {S : mSh} {M : mMem} {Q : Option mV → mSh → mMem → Prop} {x1 x2 x3 s0 : Int} (kt : ¬ s0 = 0 → WP PR d 5 28 [vA 196, vI x1, vI x2, vI x3] [] S M Q) (kf : s0 = 0 → WP PR d 5 26 [vA 196, vI x1, vI x2, vI x3] [] S M Q) : WP PR d 5 23 [vA 196, vI x1, vI x2, vI x3] [vI s0] S M Q := by
  refine WP.if0 0 26 23 .ne 5 (0, 0, 0, 0) 28 rfl rfl ?_
  exact ⟨kt, fun hc => kf (Decidable.not_not.mp hc)⟩
set_option maxRecDepth 100000 in
theorem b_X0_valueOfCask_26 {d : Nat} {S : mSh} {M : mMem} {Q : Option mV → mSh → mMem → Prop} {x1 x2 x3 : Int} (k : Q (some (vI (-1))) S M) : WP PR d 5 26 [vA 196, vI x1, vI x2, vI x3] [] S M Q := by
  refine WP.re 1 27 .ireturn (0, 0, 0, 0) _ rfl ?_
  exact ⟨rfl, rfl, trivial, k⟩
set_option maxRecDepth 100000 in
theorem b_X0_valueOfCask_28 {d : Nat} {S : mSh} {M : mMem} {Q : Option mV → mSh → mMem → Prop} {x1 x2 x3 : Int} (k : WP PR d 5 (swT 29 x1 75 5 9 [35, 37, 47, 57, 66]) [vA 196, vI x1, vI x2, vI x3] [] S M Q) : WP PR d 5 28 [vA 196, vI x1, vI x2, vI x3] [] S M Q := by
  refine WP.sw 1 29 75 5 9 #[35, 37, 47, 57, 66] (0, 0, 0, 0) _ rfl ?_
  exact k
set_option maxRecDepth 100000 in
theorem b_X0_valueOfCask_64 {d : Nat} {S : mSh} {M : mMem} {Q : Option mV → mSh → mMem → Prop} {x1 x2 x3 : Int} (k : Q (some (vI x3)) S M) : WP PR d 5 64 [vA 196, vI x1, vI x2, vI x3] [] S M Q := by
  refine WP.re 1 65 .ireturn (0, 0, 0, 0) _ rfl ?_
  exact ⟨rfl, rfl, trivial, k⟩
set_option maxRecDepth 100000 in
theorem b_X0_valueOfCask_66 {d : Nat} {S : mSh} {M : mMem} {Q : Option mV → mSh → mMem → Prop} {x1 x2 x3 : Int} {q1 : Int} (eq1 : M 196 2 = q1) (L : Lay S) (hq1 : Stk S q1) (hc : (0 ≤ x3 ∧ x3 < 8)) (k : Q (some (vI (M (q1 + 1) x3))) S M) : WP PR d 5 66 [vA 196, vI x1, vI x2, vI x3] [] S M Q := by
  subst eq1
  refine WP.re 5 75 .ireturn (0, 0, 0, 0) _ rfl ?_
  exact And.intro (lo196 L) (And.intro (⟨(hq1).o, (hq1).f0⟩) (And.intro (inA_of ((hq1).a1) ((hq1).l1) hc) (⟨rfl, rfl, trivial, k⟩)))
set_option maxRecDepth 100000 in
theorem b_X0_valueOfCask_76 {d : Nat} {S : mSh} {M : mMem} {Q : Option mV → mSh → mMem → Prop} {x1 x2 x3 : Int} {q1 : Int} (eq1 : M 196 2 = q1) (L : Lay S) (hq1 : Stk S q1) (hc : (0 ≤ x3 ∧ x3 < 8)) (k : Q (some (vI (M (q1 + 2) x3))) S M) : WP PR d 5 76 [vA 196, vI x1, vI x2, vI x3] [] S M Q := by
  subst eq1
  refine WP.re 5 85 .ireturn (0, 0, 0, 0) _ rfl ?_
  exact And.intro (lo196 L) (And.intro (⟨(hq1).o, (hq1).f1⟩) (And.intro (inA_of ((hq1).a2) ((hq1).l2) hc) (⟨rfl, rfl, trivial, k⟩)))
set_option maxRecDepth 100000 in
theorem b_X0_valueOfCask_86 {d : Nat} {S : mSh} {M : mMem} {Q : Option mV → mSh → mMem → Prop} {x1 x2 x3 : Int} {q1 : Int} (eq1 : M 196 2 = q1) (L : Lay S) (hq1 : Stk S q1) (k : WP PR d 46 0 [vA q1, vI x3] [] S M (fun r S2 M2 => WP PR (d + 1) 5 94 [vA 196, vI x1, vI x2, vI x3] (r.toList ++ []) S2 M2 Q)) : WP PR (d + 1) 5 86 [vA 196, vI x1, vI x2, vI x3] [] S M Q := by
  subst eq1
  refine WP.ca 3 94 91 (.invokevirtual 93) (0, 46, 0, 0) rfl ?_
  exact And.intro (lo196 L) (⟨rfl, rfl, rfl, (hq1).o, rfl, k⟩)
set_option maxRecDepth 100000 in
theorem b_X0_valueOfCask_94 {d : Nat} {S : mSh} {M : mMem} {Q : Option mV → mSh → mMem → Prop} {x1 x2 x3 s0 : Int} (k : Q (some (vI s0)) S M) : WP PR d 5 94 [vA 196, vI x1, vI x2, vI x3] [vI s0] S M Q := by
  refine WP.re 0 94 .ireturn (0, 0, 0, 0) _ rfl ?_
  exact ⟨rfl, rfl, trivial, k⟩
set_option maxRecDepth 100000 in
theorem b_X0_valueOfCask_95 {d : Nat} {S : mSh} {M : mMem} {Q : Option mV → mSh → mMem → Prop} {x1 x2 x3 : Int} {q1 : Int} (eq1 : M 196 2 = q1) (L : Lay S) (hq1 : Stk S q1) (k : WP PR d 47 0 [vA q1, vI x3] [] S M (fun r S2 M2 => WP PR (d + 1) 5 103 [vA 196, vI x1, vI x2, vI x3] (r.toList ++ []) S2 M2 Q)) : WP PR (d + 1) 5 95 [vA 196, vI x1, vI x2, vI x3] [] S M Q := by
  subst eq1
  refine WP.ca 3 103 100 (.invokevirtual 96) (0, 47, 0, 0) rfl ?_
  exact And.intro (lo196 L) (⟨rfl, rfl, rfl, (hq1).o, rfl, k⟩)
set_option maxRecDepth 100000 in
theorem b_X0_valueOfCask_103 {d : Nat} {S : mSh} {M : mMem} {Q : Option mV → mSh → mMem → Prop} {x1 x2 x3 s0 : Int} (k : Q (some (vI s0)) S M) : WP PR d 5 103 [vA 196, vI x1, vI x2, vI x3] [vI s0] S M Q := by
  refine WP.re 0 103 .ireturn (0, 0, 0, 0) _ rfl ?_
  exact ⟨rfl, rfl, trivial, k⟩
set_option maxRecDepth 100000 in
theorem b_X0_valueOfCask_104 {d : Nat} {S : mSh} {M : mMem} {Q : Option mV → mSh → mMem → Prop} {x1 x2 x3 : Int} {q1 : Int} (eq1 : M 196 2 = q1) (L : Lay S) (hq1 : Stk S q1) (hc : (0 ≤ x3 ∧ x3 < 8)) (kt : 1 ≤ M (q1 + 3) x3 → WP PR d 5 121 [vA 196, vI x1, vI x2, vI x3] [] S M Q) (kf : M (q1 + 3) x3 < 1 → WP PR d 5 117 [vA 196, vI x1, vI x2, vI x3] [] S M Q) : WP PR d 5 104 [vA 196, vI x1, vI x2, vI x3] [] S M Q := by
  subst eq1
  refine WP.if2 6 117 114 .ge 7 (0, 0, 0, 0) 121 rfl rfl ?_
  exact And.intro (lo196 L) (And.intro (⟨(hq1).o, (hq1).f2⟩) (And.intro (inA_of ((hq1).a3) ((hq1).l3) hc) (⟨kt, fun hc => kf (Int.not_le.mp hc)⟩)))
set_option maxRecDepth 100000 in
theorem b_X0_valueOfCask_117 {d : Nat} {S : mSh} {M : mMem} {Q : Option mV → mSh → mMem → Prop} {x1 x2 x3 : Int} (k : Q (some (vI (-1))) S M) : WP PR d 5 117 [vA 196, vI x1, vI x2, vI x3] [] S M Q := by
  refine WP.gt 1 118 15 (0, 0, 0, 0) _ 133 rfl rfl ?_
  show WP PR d 5 133 [vA 196, vI x1, vI x2, vI x3] [vI (-1)] S M Q
  refine WP.re 0 133 .ireturn (0, 0, 0, 0) _ rfl ?_
  exact ⟨rfl, rfl, trivial, k⟩
set_option maxRecDepth 100000 in
theorem b_X0_valueOfCask_121 {d : Nat} {S : mSh} {M : mMem} {Q : Option mV → mSh → mMem → Prop} {x1 x2 x3 : Int} {q1 : Int} (eq1 : M 196 2 = q1) (L : Lay S) (hq1 : Stk S q1) (k : WP PR d 48 0 [vA q1, vI x3] [] S M (fun r S2 M2 => WP PR (d + 1) 5 129 [vA 196, vI x1, vI x2, vI x3] (r.toList ++ []) S2 M2 Q)) : WP PR (d + 1) 5 121 [vA 196, vI x1, vI x2, vI x3] [] S M Q := by
  subst eq1
  refine WP.ca 3 129 126 (.invokevirtual 102) (0, 48, 0, 0) rfl ?_
  exact And.intro (lo196 L) (⟨rfl, rfl, rfl, (hq1).o, rfl, k⟩)
set_option maxRecDepth 100000 in
theorem b_X0_valueOfCask_129 {d : Nat} {S : mSh} {M : mMem} {Q : Option mV → mSh → mMem → Prop} {x1 x2 x3 s0 : Int} (hc : R32 (s0.tdiv 1000)) (k : Q (some (vI (s0.tdiv 1000))) S M) : WP PR d 5 129 [vA 196, vI x1, vI x2, vI x3] [vI s0] S M Q := by
  refine WP.re 2 133 .ireturn (0, 0, 0, 0) _ rfl ?_
  exact And.intro (⟨by decide, hc⟩) (⟨rfl, rfl, trivial, k⟩)
/-- SoleraCellar$Asker.put(I)V -/
abbrev e_X0_put (d : Nat) (a1 : Int) (S : mSh) (M : mMem) (Q : Option mV → mSh → mMem → Prop) : Prop := WP PR d 6 0 [vA 196, vI a1] [] S M Q
set_option maxRecDepth 100000 in
theorem b_X0_put_0 {d : Nat} {S : mSh} {M : mMem} {Q : Option mV → mSh → mMem → Prop} {x1 : Int} (L : Lay S) (kt : sL S 197 ≤ M 196 1 → WP PR d 6 32 [vA 196, vI x1] [] S M Q) (kf : M 196 1 < sL S 197 → WP PR d 6 12 [vA 196, vI x1] [] S M Q) : WP PR d 6 0 [vA 196, vI x1] [] S M Q := by
  refine WP.if2 5 12 9 .ge 23 (0, 0, 0, 0) 32 rfl rfl ?_
  exact And.intro (lo196 L) (And.intro (⟨lo196 L, lf196_0 L⟩) (And.intro (lo197 L) (⟨kt, fun hc => kf (Int.not_le.mp hc)⟩)))
set_option maxRecDepth 100000 in
theorem b_X0_put_12 {d : Nat} {S : mSh} {M : mMem} {Q : Option mV → mSh → mMem → Prop} {x1 : Int} (L : Lay S) (hc : (0 ≤ M 196 1 ∧ M 196 1 < 51) ∧ R32 ((M 196 1) + 1)) (k : Q (none) S (up (up M 197 (M 196 1) x1) 196 1 ((M 196 1) + 1))) : WP PR d 6 12 [vA 196, vI x1] [] S M Q := by
  refine WP.re 12 32 .return_ (0, 0, 0, 0) _ rfl ?_
  exact And.intro (⟨lo196 L, lf196_0 L⟩) (And.intro (lo196 L) (And.intro (inA_of (lo197 L) (ll197 L) hc.1) (And.intro (lo196 L) (And.intro (hc.2) (And.intro (lo196 L) (⟨rfl, rfl, trivial, k⟩))))))
set_option maxRecDepth 100000 in
theorem b_X0_put_32 {d : Nat} {S : mSh} {M : mMem} {Q : Option mV → mSh → mMem → Prop} {x1 : Int} (k : Q (none) S M) : WP PR d 6 32 [vA 196, vI x1] [] S M Q := by
  refine WP.re 0 32 .return_ (0, 0, 0, 0) _ rfl ?_
  exact ⟨rfl, rfl, trivial, k⟩
/-- SoleraCellar$Asker.lift()I -/
abbrev e_X0_lift (d : Nat) (S : mSh) (M : mMem) (Q : Option mV → mSh → mMem → Prop) : Prop := WP PR d 7 0 [vA 196] [] S M Q
set_option maxRecDepth 100000 in
theorem b_X0_lift_0 {d : Nat} {S : mSh} {M : mMem} {Q : Option mV → mSh → mMem → Prop} (L : Lay S) (kt : 1 ≤ M 196 1 → WP PR d 7 10 [vA 196] [] S M Q) (kf : M 196 1 < 1 → WP PR d 7 8 [vA 196] [] S M Q) : WP PR d 7 0 [vA 196] [] S M Q := by
  refine WP.if2 3 8 5 .ge 5 (0, 0, 0, 0) 10 rfl rfl ?_
  exact And.intro (lo196 L) (⟨kt, fun hc => kf (Int.not_le.mp hc)⟩)
set_option maxRecDepth 100000 in
theorem b_X0_lift_8 {d : Nat} {S : mSh} {M : mMem} {Q : Option mV → mSh → mMem → Prop} (k : Q (some (vI 0)) S M) : WP PR d 7 8 [vA 196] [] S M Q := by
  refine WP.re 1 9 .ireturn (0, 0, 0, 0) _ rfl ?_
  exact ⟨rfl, rfl, trivial, k⟩
set_option maxRecDepth 100000 in
theorem b_X0_lift_10 {d : Nat} {S : mSh} {M : mMem} {Q : Option mV → mSh → mMem → Prop} (L : Lay S) (hc : R32 ((M 196 1) - 1) ∧ (0 ≤ (M 196 1) - 1 ∧ (M 196 1) - 1 < 51)) (k : Q (some (vI (M 197 ((M 196 1) - 1)))) S (up M 196 1 ((M 196 1) - 1))) : WP PR d 7 10 [vA 196] [] S M Q := by
  refine WP.re 11 29 .ireturn (0, 0, 0, 0) _ rfl ?_
  exact And.intro (lo196 L) (And.intro (hc.1) (And.intro (lo196 L) (And.intro (⟨lo196 L, lf196_0 L⟩) (And.intro (lo196 L) (And.intro (inA_of (lo197 L) (ll197 L) hc.2) (⟨rfl, rfl, trivial, k⟩))))))
/-- SoleraCellar$History.<init>()V -/
abbrev e_X1_init (d : Nat) (a0 : Int) (S : mSh) (M : mMem) (Q : Option mV → mSh → mMem → Prop) : Prop := WP PR d 8 0 [vA a0, vU] [] S M Q
/-- SoleraCellar$History.clear()V -/
abbrev e_X1_clear (d : Nat) (S : mSh) (M : mMem) (Q : Option mV → mSh → mMem → Prop) : Prop := WP PR d 9 0 [vA 55] [] S M Q
set_option maxRecDepth 100000 in
theorem b_X1_clear_0 {d : Nat} {S : mSh} {M : mMem} {Q : Option mV → mSh → mMem → Prop} (L : Lay S) (k : Q (none) S (up M 55 3 0)) : WP PR d 9 0 [vA 55] [] S M Q := by
  refine WP.re 3 5 .return_ (0, 0, 0, 0) _ rfl ?_
  exact And.intro (lo55 L) (⟨rfl, rfl, trivial, k⟩)
/-- SoleraCellar$History.note(LSoleraCellar$Stock;)V -/
abbrev e_X1_note (d : Nat) (a1 : Int) (S : mSh) (M : mMem) (Q : Option mV → mSh → mMem → Prop) : Prop := WP PR d 10 0 [vA 55, vA a1] [] S M Q
set_option maxRecDepth 100000 in
theorem b_X1_note_0 {d : Nat} {S : mSh} {M : mMem} {Q : Option mV → mSh → mMem → Prop} {x1 : Int} {q1 : Int} (eq1 : M 56 (M 55 2) = q1) (L : Lay S) (hq1 : Stk S q1) (hc : (0 ≤ M 55 2 ∧ M 55 2 < 17)) (k : WP PR d 55 0 [vA q1, vA x1] [] S M (fun r S2 M2 => WP PR (d + 1) 10 13 [vA 55, vA x1] (r.toList ++ []) S2 M2 Q)) : WP PR (d + 1) 10 0 [vA 55, vA x1] [] S M Q := by
  subst eq1
  refine WP.ca 6 13 10 (.invokevirtual 29) (0, 55, 0, 0) rfl ?_
  exact And.intro (⟨lo55 L, lf55_0 L⟩) (And.intro (lo55 L) (And.intro (inA_of (lo56 L) (ll56 L) hc) (⟨rfl, rfl, rfl, (hq1).o, rfl, k⟩)))
set_option maxRecDepth 100000 in
theorem b_X1_note_13 {d : Nat} {S : mSh} {M : mMem} {Q : Option mV → mSh → mMem → Prop} {x1 : Int} (k : Q (none) S M) : WP PR d 10 13 [vA 55, vA x1] [] S M Q := by
  refine WP.re 0 13 .return_ (0, 0, 0, 0) _ rfl ?_
  exact ⟨rfl, rfl, trivial, k⟩
/-- SoleraCellar$History.keep(I)V -/
abbrev e_X1_keep (d : Nat) (a1 : Int) (S : mSh) (M : mMem) (Q : Option mV → mSh → mMem → Prop) : Prop := WP PR d 11 0 [vA 55, vI a1] [] S M Q
set_option maxRecDepth 100000 in
theorem b_X1_keep_0 {d : Nat} {S : mSh} {M : mMem} {Q : Option mV → mSh → mMem → Prop} {x1 : Int} (L : Lay S) (hc : (0 ≤ M 55 2 ∧ M 55 2 < 17) ∧ R32 ((M 55 2) + 1) ∧ R32 (((M 55 2) + 1).tdiv 17) ∧ R32 ((M 55 3) + 1)) (k : Q (none) S (up (up (up M 57 (M 55 2) x1) 55 2 (((M 55 2) + 1).tmod 17)) 55 3 (if 16 < (M 55 3) + 1 then 16 else (M 55 3) + 1))) : WP PR d 11 0 [vA 55, vI x1] [] S M Q := by
  refine WP.re 22 38 .return_ (0, 0, 0, 0) _ rfl ?_
  exact And.intro (⟨lo55 L, lf55_1 L⟩) (And.intro (lo55 L) (And.intro (inA_of (lo57 L) (ll57 L) hc.1) (And.intro (lo55 L) (And.intro (hc.2.1) (And.intro (⟨by decide, hc.2.2.1⟩) (And.intro (lo55 L) (And.intro (lo55 L) (And.intro (hc.2.2.2) (And.intro (lo55 L) (⟨rfl, rfl, trivial, k⟩))))))))))
/-- SoleraCellar$History.takeBack(LSoleraCellar$Stock;)I -/
abbrev e_X1_takeBack (d : Nat) (a1 : Int) (S : mSh) (M : mMem) (Q : Option mV → mSh → mMem → Prop) : Prop := WP PR d 12 0 [vA 55, vA a1] [] S M Q
set_option maxRecDepth 100000 in
theorem b_X1_takeBack_0 {d : Nat} {S : mSh} {M : mMem} {Q : Option mV → mSh → mMem → Prop} {x1 : Int} (L : Lay S) (kt : 1 ≤ M 55 3 → WP PR d 12 10 [vA 55, vA x1] [] S M Q) (kf : M 55 3 < 1 → WP PR d 12 8 [vA 55, vA x1] [] S M Q) : WP PR d 12 0 [vA 55, vA x1] [] S M Q := by
  refine WP.if2 3 8 5 .ge 5 (0, 0, 0, 0) 10 rfl rfl ?_
  exact And.intro (lo55 L) (⟨kt, fun hc => kf (Int.not_le.mp hc)⟩)
set_option maxRecDepth 100000 in
theorem b_X1_takeBack_8 {d : Nat} {S : mSh} {M : mMem} {Q : Option mV → mSh → mMem → Prop} {x1 : Int} (k : Q (some (vI (-1))) S M) : WP PR d 12 8 [vA 55, vA x1] [] S M Q := by
  refine WP.re 1 9 .ireturn (0, 0, 0, 0) _ rfl ?_
  exact ⟨rfl, rfl, trivial, k⟩
set_option maxRecDepth 100000 in
theorem b_X1_takeBack_10 {d : Nat} {S : mSh} {M : mMem} {Q : Option mV → mSh → mMem → Prop} {x1 : Int} {q1 : Int} (eq1 : M 56 ((((M 55 2) + 17) - 1).tmod 17) = q1) (L : Lay S) (hx1 : Stk S x1) (hc : R32 ((M 55 3) - 1) ∧ R32 ((M 55 2) + 17) ∧ R32 (((M 55 2) + 17) - 1) ∧ R32 ((((M 55 2) + 17) - 1).tdiv 17) ∧ (0 ≤ (((M 55 2) + 17) - 1).tmod 17 ∧ (((M 55 2) + 17) - 1).tmod 17 < 17)) (k : WP PR d 55 0 [vA x1, vA q1] [] S (up (up M 55 3 ((M 55 3) - 1)) 55 2 ((((M 55 2) + 17) - 1).tmod 17)) (fun r S2 M2 => WP PR (d + 1) 12 49 [vA 55, vA x1] (r.toList ++ []) S2 M2 Q)) : WP PR (d + 1) 12 10 [vA 55, vA x1] [] S M Q := by
  subst eq1
  refine WP.ca 22 49 46 (.invokevirtual 29) (0, 55, 0, 0) rfl ?_
  exact And.intro (lo55 L) (And.intro (hc.1) (And.intro (lo55 L) (And.intro (lo55 L) (And.intro (hc.2.1) (And.intro (hc.2.2.1) (And.intro (⟨by decide, hc.2.2.2.1⟩) (And.intro (lo55 L) (And.intro (⟨lo55 L, lf55_0 L⟩) (And.intro (lo55 L) (And.intro (inA_of (lo56 L) (ll56 L) hc.2.2.2.2) (⟨rfl, rfl, rfl, (hx1).o, rfl, k⟩)))))))))))
set_option maxRecDepth 100000 in
theorem b_X1_takeBack_49 {d : Nat} {S : mSh} {M : mMem} {Q : Option mV → mSh → mMem → Prop} {x1 : Int} (L : Lay S) (hc : (0 ≤ M 55 2 ∧ M 55 2 < 17)) (k : Q (some (vI (M 57 (M 55 2)))) S M) : WP PR d 12 49 [vA 55, vA x1] [] S M Q := by
  refine WP.re 5 58 .ireturn (0, 0, 0, 0) _ rfl ?_
  exact And.intro (⟨lo55 L, lf55_1 L⟩) (And.intro (lo55 L) (And.intro (inA_of (lo57 L) (ll57 L) hc) (⟨rfl, rfl, trivial, k⟩)))
/-- SoleraCellar$State.<init>()V -/
abbrev e_X3_init (d : Nat) (a0 : Int) (S : mSh) (M : mMem) (Q : Option mV → mSh → mMem → Prop) : Prop := WP PR d 35 0 [vA a0, vU] [] S M Q
/-- SoleraCellar$State.hasLaw(I)Z -/
abbrev e_X3_hasLaw (d : Nat) (a0 a1 : Int) (S : mSh) (M : mMem) (Q : Option mV → mSh → mMem → Prop) : Prop := WP PR d 36 0 [vA a0, vI a1] [] S M Q
set_option maxRecDepth 100000 in
theorem b_X3_hasLaw_0 {d : Nat} {S : mSh} {M : mMem} {Q : Option mV → mSh → mMem → Prop} {x0 x1 : Int} (kt : x1 < 0 → WP PR d 36 16 [vA x0, vI x1] [] S M Q) (kf : 0 ≤ x1 → WP PR d 36 4 [vA x0, vI x1] [] S M Q) : WP PR d 36 0 [vA x0, vI x1] [] S M Q := by
  refine WP.if0 1 4 1 .lt 15 (0, 0, 0, 0) 16 rfl rfl ?_
  exact ⟨kt, fun hc => kf (Int.not_lt.mp hc)⟩
set_option maxRecDepth 100000 in
theorem b_X3_hasLaw_4 {d : Nat} {S : mSh} {M : mMem} {Q : Option mV → mSh → mMem → Prop} {x0 x1 : Int} (hx0 : Sta S x0) (kt : M x0 6 ≤ x1 → WP PR d 36 16 [vA x0, vI x1] [] S M Q) (kf : x1 < M x0 6 → WP PR d 36 12 [vA x0, vI x1] [] S M Q) : WP PR d 36 4 [vA x0, vI x1] [] S M Q := by
  refine WP.if2 3 12 9 .ge 7 (0, 0, 0, 0) 16 rfl rfl ?_
  exact And.intro ((hx0).o) (⟨kt, fun hc => kf (Int.not_le.mp hc)⟩)
set_option maxRecDepth 100000 in
theorem b_X3_hasLaw_12 {d : Nat} {S : mSh} {M : mMem} {Q : Option mV → mSh → mMem → Prop} {x0 x1 : Int} (k : Q (some (vI 1)) S M) : WP PR d 36 12 [vA x0, vI x1] [] S M Q := by
  refine WP.gt 1 13 4 (0, 0, 0, 0) _ 17 rfl rfl ?_
  show WP PR d 36 17 [vA x0, vI x1] [vI 1] S M Q
  refine WP.re 0 17 .ireturn (0, 0, 0, 0) _ rfl ?_
  exact ⟨rfl, rfl, Or.inr rfl, k⟩
set_option maxRecDepth 100000 in
theorem b_X3_hasLaw_16 {d : Nat} {S : mSh} {M : mMem} {Q : Option mV → mSh → mMem → Prop} {x0 x1 : Int} (k : Q (some (vI 0)) S M) : WP PR d 36 16 [vA x0, vI x1] [] S M Q := by
  refine WP.re 1 17 .ireturn (0, 0, 0, 0) _ rfl ?_
  exact ⟨rfl, rfl, Or.inl rfl, k⟩
/-- SoleraCellar$State.hasPlan(I)Z -/
abbrev e_X3_hasPlan (d : Nat) (a0 a1 : Int) (S : mSh) (M : mMem) (Q : Option mV → mSh → mMem → Prop) : Prop := WP PR d 37 0 [vA a0, vI a1] [] S M Q
set_option maxRecDepth 100000 in
theorem b_X3_hasPlan_0 {d : Nat} {S : mSh} {M : mMem} {Q : Option mV → mSh → mMem → Prop} {x0 x1 : Int} (kt : x1 < 0 → WP PR d 37 16 [vA x0, vI x1] [] S M Q) (kf : 0 ≤ x1 → WP PR d 37 4 [vA x0, vI x1] [] S M Q) : WP PR d 37 0 [vA x0, vI x1] [] S M Q := by
  refine WP.if0 1 4 1 .lt 15 (0, 0, 0, 0) 16 rfl rfl ?_
  exact ⟨kt, fun hc => kf (Int.not_lt.mp hc)⟩
set_option maxRecDepth 100000 in
theorem b_X3_hasPlan_4 {d : Nat} {S : mSh} {M : mMem} {Q : Option mV → mSh → mMem → Prop} {x0 x1 : Int} (hx0 : Sta S x0) (kt : M x0 7 ≤ x1 → WP PR d 37 16 [vA x0, vI x1] [] S M Q) (kf : x1 < M x0 7 → WP PR d 37 12 [vA x0, vI x1] [] S M Q) : WP PR d 37 4 [vA x0, vI x1] [] S M Q := by
  refine WP.if2 3 12 9 .ge 7 (0, 0, 0, 0) 16 rfl rfl ?_
  exact And.intro ((hx0).o) (⟨kt, fun hc => kf (Int.not_le.mp hc)⟩)
set_option maxRecDepth 100000 in
theorem b_X3_hasPlan_12 {d : Nat} {S : mSh} {M : mMem} {Q : Option mV → mSh → mMem → Prop} {x0 x1 : Int} (k : Q (some (vI 1)) S M) : WP PR d 37 12 [vA x0, vI x1] [] S M Q := by
  refine WP.gt 1 13 4 (0, 0, 0, 0) _ 17 rfl rfl ?_
  show WP PR d 37 17 [vA x0, vI x1] [vI 1] S M Q
  refine WP.re 0 17 .ireturn (0, 0, 0, 0) _ rfl ?_
  exact ⟨rfl, rfl, Or.inr rfl, k⟩
set_option maxRecDepth 100000 in
theorem b_X3_hasPlan_16 {d : Nat} {S : mSh} {M : mMem} {Q : Option mV → mSh → mMem → Prop} {x0 x1 : Int} (k : Q (some (vI 0)) S M) : WP PR d 37 16 [vA x0, vI x1] [] S M Q := by
  refine WP.re 1 17 .ireturn (0, 0, 0, 0) _ rfl ?_
  exact ⟨rfl, rfl, Or.inl rfl, k⟩
/-- SoleraCellar$State.lawOf(I)LSoleraCellar$Text; -/
abbrev e_X3_lawOf (d : Nat) (a0 a1 : Int) (S : mSh) (M : mMem) (Q : Option mV → mSh → mMem → Prop) : Prop := WP PR d 38 0 [vA a0, vI a1] [] S M Q
set_option maxRecDepth 100000 in
theorem b_X3_lawOf_0 {d : Nat} {S : mSh} {M : mMem} {Q : Option mV → mSh → mMem → Prop} {x0 x1 : Int} (hx0 : Sta S x0) (k : WP PR d 36 0 [vA x0, vI x1] [] S M (fun r S2 M2 => WP PR (d + 1) 38 5 [vA x0, vI x1] (r.toList ++ []) S2 M2 Q)) : WP PR (d + 1) 38 0 [vA x0, vI x1] [] S M Q := by
  refine WP.ca 2 5 2 (.invokevirtual 51) (0, 36, 0, 0) rfl ?_
  exact ⟨rfl, rfl, rfl, (hx0).o, rfl, k⟩
set_option maxRecDepth 100000 in
theorem b_X3_lawOf_5 {d : Nat} {S : mSh} {M : mMem} {Q : Option mV → mSh → mMem → Prop} {x0 x1 s0 : Int} (kt : s0 = 0 → WP PR d 38 17 [vA x0, vI x1] [] S M Q) (kf : ¬ s0 = 0 → WP PR d 38 8 [vA x0, vI x1] [] S M Q) : WP PR d 38 5 [vA x0, vI x1] [vI s0] S M Q := by
  refine WP.if0 0 8 5 .eq 12 (0, 0, 0, 0) 17 rfl rfl ?_
  exact ⟨kt, fun hc => kf hc⟩
set_option maxRecDepth 100000 in
theorem b_X3_lawOf_8 {d : Nat} {S : mSh} {M : mMem} {Q : Option mV → mSh → mMem → Prop} {x0 x1 : Int} {q1 : Int} (eq1 : M (x0 + 11) x1 = q1) (hx0 : Sta S x0) (hc : (0 ≤ x1 ∧ x1 < 6)) (k : Q (some (vA q1)) S M) : WP PR d 38 8 [vA x0, vI x1] [] S M Q := by
  subst eq1
  refine WP.gt 4 14 7 (0, 0, 0, 0) _ 21 rfl rfl ?_
  refine And.intro (⟨(hx0).o, (hx0).f2⟩) (And.intro (inA_of ((hx0).a11) ((hx0).l11) hc) (?_))
  show WP PR d 38 21 [vA x0, vI x1] [vA (M (x0 + 11) x1)] S M Q
  refine WP.re 0 21 .areturn (0, 0, 0, 0) _ rfl ?_
  exact ⟨rfl, rfl, trivial, k⟩
set_option maxRecDepth 100000 in
theorem b_X3_lawOf_17 {d : Nat} {S : mSh} {M : mMem} {Q : Option mV → mSh → mMem → Prop} {x0 x1 : Int} (hx0 : Sta S x0) (k : Q (some (vA (x0 + 8))) S M) : WP PR d 38 17 [vA x0, vI x1] [] S M Q := by
  refine WP.re 2 21 .areturn (0, 0, 0, 0) _ rfl ?_
  exact And.intro (⟨(hx0).o, (hx0).f1⟩) (⟨rfl, rfl, trivial, k⟩)
/-- SoleraCellar$State.lawInForce()LSoleraCellar$Text; -/
abbrev e_X3_lawInForce (d : Nat) (a0 : Int) (S : mSh) (M : mMem) (Q : Option mV → mSh → mMem → Prop) : Prop := WP PR d 39 0 [vA a0] [] S M Q
set_option maxRecDepth 100000 in
theorem b_X3_lawInForce_0 {d : Nat} {S : mSh} {M : mMem} {Q : Option mV → mSh → mMem → Prop} {x0 : Int} (hx0 : Sta S x0) (k : WP PR d 38 0 [vA x0, vI (M x0 9)] [] S M (fun r S2 M2 => WP PR (d + 1) 39 8 [vA x0] (r.toList ++ []) S2 M2 Q)) : WP PR (d + 1) 39 0 [vA x0] [] S M Q := by
  refine WP.ca 3 8 5 (.invokevirtual 55) (0, 38, 0, 0) rfl ?_
  exact And.intro ((hx0).o) (⟨rfl, rfl, rfl, (hx0).o, rfl, k⟩)
set_option maxRecDepth 100000 in
theorem b_X3_lawInForce_8 {d : Nat} {S : mSh} {M : mMem} {Q : Option mV → mSh → mMem → Prop} {x0 s0 : Int} (k : Q (some (vA s0)) S M) : WP PR d 39 8 [vA x0] [vA s0] S M Q := by
  refine WP.re 0 8 .areturn (0, 0, 0, 0) _ rfl ?_
  exact ⟨rfl, rfl, trivial, k⟩
/-- SoleraCellar$State.copyFrom(LSoleraCellar$State;)V -/
abbrev e_X3_copyFrom (d : Nat) (a0 a1 : Int) (S : mSh) (M : mMem) (Q : Option mV → mSh → mMem → Prop) : Prop := WP PR d 40 0 [vA a0, vA a1] [] S M Q
set_option maxRecDepth 100000 in
theorem b_X3_copyFrom_0 {d : Nat} {S : mSh} {M : mMem} {Q : Option mV → mSh → mMem → Prop} {x0 x1 : Int} (hx0 : Sta S x0) (hx1 : Sta S x1) (k : WP PR d 55 0 [vA (x0 + 1), vA (x1 + 1)] [] S M (fun r S2 M2 => WP PR (d + 1) 40 11 [vA x0, vA x1] (r.toList ++ []) S2 M2 Q)) : WP PR (d + 1) 40 0 [vA x0, vA x1] [] S M Q := by
  refine WP.ca 4 11 8 (.invokevirtual 59) (0, 55, 0, 0) rfl ?_
  exact And.intro (⟨(hx0).o, (hx0).f0⟩) (And.intro (⟨(hx1).o, (hx1).f0⟩) (⟨rfl, rfl, rfl, ((hx0).s).o, rfl, k⟩))
set_option maxRecDepth 100000 in
theorem b_X3_copyFrom_11 {d : Nat} {S : mSh} {M : mMem} {Q : Option mV → mSh → mMem → Prop} {x0 x1 : Int} (hx1 : Sta S x1) (hx0 : Sta S x0) (ho1 : ∀ i, 0 ≤ i → i < 6 → M (x1 + 11) (0 + i) = 0 ∨ isO S (M (x1 + 11) (0 + i)) 6) (ho2 : ∀ i, 0 ≤ i → i < 4 → (cpy M (x1 + 11) 0 (x0 + 11) 0 6) (x1 + 12) (0 + i) = 0 ∨ isO S ((cpy M (x1 + 11) 0 (x0 + 11) 0 6) (x1 + 12) (0 + i)) 6) (k : Q (none) S (up (up (up (up (cpy (cpy (cpy (cpy M (x1 + 11) 0 (x0 + 11) 0 6) (x1 + 12) 0 (x0 + 12) 0 4) (x1 + 13) 0 (x0 + 13) 0 6) (x1 + 14) 0 (x0 + 14) 0 6) x0 6 ((cpy (cpy (cpy (cpy M (x1 + 11) 0 (x0 + 11) 0 6) (x1 + 12) 0 (x0 + 12) 0 4) (x1 + 13) 0 (x0 + 13) 0 6) (x1 + 14) 0 (x0 + 14) 0 6) x1 6)) x0 7 ((up (cpy (cpy (cpy (cpy M (x1 + 11) 0 (x0 + 11) 0 6) (x1 + 12) 0 (x0 + 12) 0 4) (x1 + 13) 0 (x0 + 13) 0 6) (x1 + 14) 0 (x0 + 14) 0 6) x0 6 ((cpy (cpy (cpy (cpy M (x1 + 11) 0 (x0 + 11) 0 6) (x1 + 12) 0 (x0 + 12) 0 4) (x1 + 13) 0 (x0 + 13) 0 6) (x1 + 14) 0 (x0 + 14) 0 6) x1 6)) x1 7)) x0 8 ((up (up (cpy (cpy (cpy (cpy M (x1 + 11) 0 (x0 + 11) 0 6) (x1 + 12) 0 (x0 + 12) 0 4) (x1 + 13) 0 (x0 + 13) 0 6) (x1 + 14) 0 (x0 + 14) 0 6) x0 6 ((cpy (cpy (cpy (cpy M (x1 + 11) 0 (x0 + 11) 0 6) (x1 + 12) 0 (x0 + 12) 0 4) (x1 + 13) 0 (x0 + 13) 0 6) (x1 + 14) 0 (x0 + 14) 0 6) x1 6)) x0 7 ((up (cpy (cpy (cpy (cpy M (x1 + 11) 0 (x0 + 11) 0 6) (x1 + 12) 0 (x0 + 12) 0 4) (x1 + 13) 0 (x0 + 13) 0 6) (x1 + 14) 0 (x0 + 14) 0 6) x0 6 ((cpy (cpy (cpy (cpy M (x1 + 11) 0 (x0 + 11) 0 6) (x1 + 12) 0 (x0 + 12) 0 4) (x1 + 13) 0 (x0 + 13) 0 6) (x1 + 14) 0 (x0 + 14) 0 6) x1 6)) x1 7)) x1 8)) x0 9 ((up (up (up (cpy (cpy (cpy (cpy M (x1 + 11) 0 (x0 + 11) 0 6) (x1 + 12) 0 (x0 + 12) 0 4) (x1 + 13) 0 (x0 + 13) 0 6) (x1 + 14) 0 (x0 + 14) 0 6) x0 6 ((cpy (cpy (cpy (cpy M (x1 + 11) 0 (x0 + 11) 0 6) (x1 + 12) 0 (x0 + 12) 0 4) (x1 + 13) 0 (x0 + 13) 0 6) (x1 + 14) 0 (x0 + 14) 0 6) x1 6)) x0 7 ((up (cpy (cpy (cpy (cpy M (x1 + 11) 0 (x0 + 11) 0 6) (x1 + 12) 0 (x0 + 12) 0 4) (x1 + 13) 0 (x0 + 13) 0 6) (x1 + 14) 0 (x0 + 14) 0 6) x0 6 ((cpy (cpy (cpy (cpy M (x1 + 11) 0 (x0 + 11) 0 6) (x1 + 12) 0 (x0 + 12) 0 4) (x1 + 13) 0 (x0 + 13) 0 6) (x1 + 14) 0 (x0 + 14) 0 6) x1 6)) x1 7)) x0 8 ((up (up (cpy (cpy (cpy (cpy M (x1 + 11) 0 (x0 + 11) 0 6) (x1 + 12) 0 (x0 + 12) 0 4) (x1 + 13) 0 (x0 + 13) 0 6) (x1 + 14) 0 (x0 + 14) 0 6) x0 6 ((cpy (cpy (cpy (cpy M (x1 + 11) 0 (x0 + 11) 0 6) (x1 + 12) 0 (x0 + 12) 0 4) (x1 + 13) 0 (x0 + 13) 0 6) (x1 + 14) 0 (x0 + 14) 0 6) x1 6)) x0 7 ((up (cpy (cpy (cpy (cpy M (x1 + 11) 0 (x0 + 11) 0 6) (x1 + 12) 0 (x0 + 12) 0 4) (x1 + 13) 0 (x0 + 13) 0 6) (x1 + 14) 0 (x0 + 14) 0 6) x0 6 ((cpy (cpy (cpy (cpy M (x1 + 11) 0 (x0 + 11) 0 6) (x1 + 12) 0 (x0 + 12) 0 4) (x1 + 13) 0 (x0 + 13) 0 6) (x1 + 14) 0 (x0 + 14) 0 6) x1 6)) x1 7)) x1 8)) x1 9))) : WP PR d 40 11 [vA x0, vA x1] [] S M Q := by
  refine WP.re 48 102 .return_ (0, 0, 0, 0) _ rfl ?_
  exact And.intro (⟨(hx1).o, (hx1).f2⟩) (And.intro (⟨(hx0).o, (hx0).f2⟩) (And.intro (⟨(hx1).a11, (hx0).a11, cpok ((hx1).l11) ((hx0).l11) (by decide), fun _ => ho1⟩) (And.intro (⟨(hx1).o, (hx1).f3⟩) (And.intro (⟨(hx0).o, (hx0).f3⟩) (And.intro (⟨(hx1).a12, (hx0).a12, cpok ((hx1).l12) ((hx0).l12) (by decide), fun _ => ho2⟩) (And.intro (⟨(hx1).o, (hx1).f4⟩) (And.intro (⟨(hx0).o, (hx0).f4⟩) (And.intro (⟨(hx1).a13, (hx0).a13, cpok ((hx1).l13) ((hx0).l13) (by decide), fun h => absurd h (by decide)⟩) (And.intro (⟨(hx1).o, (hx1).f5⟩) (And.intro (⟨(hx0).o, (hx0).f5⟩) (And.intro (⟨(hx1).a14, (hx0).a14, cpok ((hx1).l14) ((hx0).l14) (by decide), fun h => absurd h (by decide)⟩) (And.intro ((hx1).o) (And.intro ((hx0).o) (And.intro ((hx1).o) (And.intro ((hx0).o) (And.intro ((hx1).o) (And.intro ((hx0).o) (And.intro ((hx1).o) (And.intro ((hx0).o) (⟨rfl, rfl, trivial, k⟩))))))))))))))))))))
/-- SoleraCellar$Stock.<init>()V -/
abbrev e_X4_init (d : Nat) (a0 : Int) (S : mSh) (M : mMem) (Q : Option mV → mSh → mMem → Prop) : Prop := WP PR d 41 0 [vA a0] [] S M Q
/-- SoleraCellar$Stock.has(I)Z -/
abbrev e_X4_has (d : Nat) (a0 a1 : Int) (S : mSh) (M : mMem) (Q : Option mV → mSh → mMem → Prop) : Prop := WP PR d 42 0 [vA a0, vI a1] [] S M Q
set_option maxRecDepth 100000 in
theorem b_X4_has_0 {d : Nat} {S : mSh} {M : mMem} {Q : Option mV → mSh → mMem → Prop} {x0 x1 : Int} (kt : x1 < 0 → WP PR d 42 16 [vA x0, vI x1] [] S M Q) (kf : 0 ≤ x1 → WP PR d 42 4 [vA x0, vI x1] [] S M Q) : WP PR d 42 0 [vA x0, vI x1] [] S M Q := by
  refine WP.if0 1 4 1 .lt 15 (0, 0, 0, 0) 16 rfl rfl ?_
  exact ⟨kt, fun hc => kf (Int.not_lt.mp hc)⟩
set_option maxRecDepth 100000 in
theorem b_X4_has_4 {d : Nat} {S : mSh} {M : mMem} {Q : Option mV → mSh → mMem → Prop} {x0 x1 : Int} (hx0 : Stk S x0) (kt : M x0 6 ≤ x1 → WP PR d 42 16 [vA x0, vI x1] [] S M Q) (kf : x1 < M x0 6 → WP PR d 42 12 [vA x0, vI x1] [] S M Q) : WP PR d 42 4 [vA x0, vI x1] [] S M Q := by
  refine WP.if2 3 12 9 .ge 7 (0, 0, 0, 0) 16 rfl rfl ?_
  exact And.intro ((hx0).o) (⟨kt, fun hc => kf (Int.not_le.mp hc)⟩)
set_option maxRecDepth 100000 in
theorem b_X4_has_12 {d : Nat} {S : mSh} {M : mMem} {Q : Option mV → mSh → mMem → Prop} {x0 x1 : Int} (k : Q (some (vI 1)) S M) : WP PR d 42 12 [vA x0, vI x1] [] S M Q := by
  refine WP.gt 1 13 4 (0, 0, 0, 0) _ 17 rfl rfl ?_
  show WP PR d 42 17 [vA x0, vI x1] [vI 1] S M Q
  refine WP.re 0 17 .ireturn (0, 0, 0, 0) _ rfl ?_
  exact ⟨rfl, rfl, Or.inr rfl, k⟩
set_option maxRecDepth 100000 in
theorem b_X4_has_16 {d : Nat} {S : mSh} {M : mMem} {Q : Option mV → mSh → mMem → Prop} {x0 x1 : Int} (k : Q (some (vI 0)) S M) : WP PR d 42 16 [vA x0, vI x1] [] S M Q := by
  refine WP.re 1 17 .ireturn (0, 0, 0, 0) _ rfl ?_
  exact ⟨rfl, rfl, Or.inl rfl, k⟩
/-- SoleraCellar$Stock.isLastYear()Z -/
abbrev e_X4_isLastYear (d : Nat) (a0 : Int) (S : mSh) (M : mMem) (Q : Option mV → mSh → mMem → Prop) : Prop := WP PR d 43 0 [vA a0] [] S M Q
set_option maxRecDepth 100000 in
theorem b_X4_isLastYear_0 {d : Nat} {S : mSh} {M : mMem} {Q : Option mV → mSh → mMem → Prop} {x0 : Int} (hx0 : Stk S x0) (kt : M (x0 + 6) 0 < 999 → WP PR d 43 16 [vA x0] [] S M Q) (kf : 999 ≤ M (x0 + 6) 0 → WP PR d 43 12 [vA x0] [] S M Q) : WP PR d 43 0 [vA x0] [] S M Q := by
  refine WP.if2 5 12 9 .lt 7 (0, 0, 0, 0) 16 rfl rfl ?_
  exact And.intro (⟨(hx0).o, (hx0).f5⟩) (And.intro (inA_of ((hx0).a6) ((hx0).l6) (by decide)) (⟨kt, fun hc => kf (Int.not_lt.mp hc)⟩))
set_option maxRecDepth 100000 in
theorem b_X4_isLastYear_12 {d : Nat} {S : mSh} {M : mMem} {Q : Option mV → mSh → mMem → Prop} {x0 : Int} (k : Q (some (vI 1)) S M) : WP PR d 43 12 [vA x0] [] S M Q := by
  refine WP.gt 1 13 4 (0, 0, 0, 0) _ 17 rfl rfl ?_
  show WP PR d 43 17 [vA x0] [vI 1] S M Q
  refine WP.re 0 17 .ireturn (0, 0, 0, 0) _ rfl ?_
  exact ⟨rfl, rfl, Or.inr rfl, k⟩
set_option maxRecDepth 100000 in
theorem b_X4_isLastYear_16 {d : Nat} {S : mSh} {M : mMem} {Q : Option mV → mSh → mMem → Prop} {x0 : Int} (k : Q (some (vI 0)) S M) : WP PR d 43 16 [vA x0] [] S M Q := by
  refine WP.re 1 17 .ireturn (0, 0, 0, 0) _ rfl ?_
  exact ⟨rfl, rfl, Or.inl rfl, k⟩
/-- SoleraCellar$Stock.add(II)I -/
abbrev e_X4_add (d : Nat) (a0 a1 a2 : Int) (S : mSh) (M : mMem) (Q : Option mV → mSh → mMem → Prop) : Prop := WP PR d 44 0 [vA a0, vI a1, vI a2, vU, vU] [] S M Q
set_option maxRecDepth 100000 in
theorem b_X4_add_0 {d : Nat} {S : mSh} {M : mMem} {Q : Option mV → mSh → mMem → Prop} {x0 x1 x2 : Int} (hx0 : Stk S x0) (kt : M x0 6 < 8 → WP PR d 44 11 [vA x0, vI x1, vI x2, vU, vU] [] S M Q) (kf : 8 ≤ M x0 6 → WP PR d 44 9 [vA x0, vI x1, vI x2, vU, vU] [] S M Q) : WP PR d 44 0 [vA x0, vI x1, vI x2, vU, vU] [] S M Q := by
  refine WP.if2 3 9 6 .lt 5 (0, 0, 0, 0) 11 rfl rfl ?_
  exact And.intro ((hx0).o) (⟨kt, fun hc => kf (Int.not_lt.mp hc)⟩)
set_option maxRecDepth 100000 in
theorem b_X4_add_9 {d : Nat} {S : mSh} {M : mMem} {Q : Option mV → mSh → mMem → Prop} {x0 x1 x2 : Int} {u3 u4 : mV} (k : Q (some (vI (-1))) S M) : WP PR d 44 9 [vA x0, vI x1, vI x2, u3, u4] [] S M Q := by
  refine WP.re 1 10 .ireturn (0, 0, 0, 0) _ rfl ?_
  exact ⟨rfl, rfl, trivial, k⟩
set_option maxRecDepth 100000 in
theorem b_X4_add_11 {d : Nat} {S : mSh} {M : mMem} {Q : Option mV → mSh → mMem → Prop} {x0 x1 x2 : Int} {u3 u4 : mV} (hx0 : Stk S x0) (hc : R32 ((M x0 6) + 1) ∧ (0 ≤ M x0 6 ∧ M x0 6 < 8)) (k : WP PR d 44 57 [vA x0, vI x1, vI x2, vI (M x0 6), vI 0] [] S (up (up (up (up (up M x0 6 ((M x0 6) + 1)) (x0 + 1) (M x0 6) x1) (x0 + 2) (M x0 6) x2) (x0 + 3) (M x0 6) 0) (x0 + 4) (M x0 6) 0) Q) : WP PR d 44 11 [vA x0, vI x1, vI x2, u3, u4] [] S M Q := by
  refine WP.bl 31 57 rfl ?_
  exact And.intro ((hx0).o) (And.intro ((hx0).o) (And.intro (hc.1) (And.intro ((hx0).o) (And.intro (⟨(hx0).o, (hx0).f0⟩) (And.intro (inA_of ((hx0).a1) ((hx0).l1) hc.2) (And.intro (⟨(hx0).o, (hx0).f1⟩) (And.intro (inA_of ((hx0).a2) ((hx0).l2) hc.2) (And.intro (⟨(hx0).o, (hx0).f2⟩) (And.intro (inA_of ((hx0).a3) ((hx0).l3) hc.2) (And.intro (⟨(hx0).o, (hx0).f3⟩) (And.intro (inA_of ((hx0).a4) ((hx0).l4) hc.2) (k))))))))))))
set_option maxRecDepth 100000 in
theorem b_X4_add_57 {d : Nat} {S : mSh} {M : mMem} {Q : Option mV → mSh → mMem → Prop} {x0 x1 x2 x3 x4 : Int} (kt : 20 ≤ x4 → WP PR d 44 83 [vA x0, vI x1, vI x2, vI x3, vI x4] [] S M Q) (kf : x4 < 20 → WP PR d 44 64 [vA x0, vI x1, vI x2, vI x3, vI x4] [] S M Q) : WP PR d 44 57 [vA x0, vI x1, vI x2, vI x3, vI x4] [] S M Q := by
  refine WP.if2 2 64 61 .ge 22 (0, 0, 0, 0) 83 rfl rfl ?_
  exact ⟨kt, fun hc => kf (Int.not_le.mp hc)⟩
set_option maxRecDepth 100000 in
theorem b_X4_add_64 {d : Nat} {S : mSh} {M : mMem} {Q : Option mV → mSh → mMem → Prop} {x0 x1 x2 x3 x4 : Int} (hx0 : Stk S x0) (hc : R32 (x3 * 20) ∧ R32 ((x3 * 20) + x4) ∧ (0 ≤ (x3 * 20) + x4 ∧ (x3 * 20) + x4 < 160) ∧ R32 (x4 + 1)) (k : WP PR d 44 57 [vA x0, vI x1, vI x2, vI x3, vI (x4 + 1)] [] S (up M (x0 + 5) ((x3 * 20) + x4) 0) Q) : WP PR d 44 64 [vA x0, vI x1, vI x2, vI x3, vI x4] [] S M Q := by
  refine WP.gt 10 80 (-23) (0, 0, 0, 0) _ 57 rfl rfl ?_
  exact And.intro (⟨(hx0).o, (hx0).f4⟩) (And.intro (hc.1) (And.intro (hc.2.1) (And.intro (inA_of ((hx0).a5) ((hx0).l5) hc.2.2.1) (And.intro (hc.2.2.2) (k)))))
set_option maxRecDepth 100000 in
theorem b_X4_add_83 {d : Nat} {S : mSh} {M : mMem} {Q : Option mV → mSh → mMem → Prop} {x0 x1 x2 x3 x4 : Int} (k : Q (some (vI x3)) S M) : WP PR d 44 83 [vA x0, vI x1, vI x2, vI x3, vI x4] [] S M Q := by
  refine WP.re 1 84 .ireturn (0, 0, 0, 0) _ rfl ?_
  exact ⟨rfl, rfl, trivial, k⟩
/-- SoleraCellar$Stock.addNew(II)V -/
abbrev e_X4_addNew (d : Nat) (a0 a1 a2 : Int) (S : mSh) (M : mMem) (Q : Option mV → mSh → mMem → Prop) : Prop := WP PR d 45 0 [vA a0, vI a1, vI a2] [] S M Q
set_option maxRecDepth 100000 in
theorem b_X4_addNew_0 {d : Nat} {S : mSh} {M : mMem} {Q : Option mV → mSh → mMem → Prop} {x0 x1 x2 : Int} (hx0 : Stk S x0) (k : WP PR d 42 0 [vA x0, vI x1] [] S M (fun r S2 M2 => WP PR (d + 1) 45 5 [vA x0, vI x1, vI x2] (r.toList ++ []) S2 M2 Q)) : WP PR (d + 1) 45 0 [vA x0, vI x1, vI x2] [] S M Q := by
  refine WP.ca 2 5 2 (.invokevirtual 35) (0, 42, 0, 0) rfl ?_
  exact ⟨rfl, rfl, rfl, (hx0).o, rfl, k⟩
set_option maxRecDepth 100000 in
theorem b_X4_addNew_5 {d : Nat} {S : mSh} {M : mMem} {Q : Option mV → mSh → mMem → Prop} {x0 x1 x2 s0 : Int} (kt : s0 = 0 → WP PR d 45 39 [vA x0, vI x1, vI x2] [] S M Q) (kf : ¬ s0 = 0 → WP PR d 45 8 [vA x0, vI x1, vI x2] [] S M Q) : WP PR d 45 5 [vA x0, vI x1, vI x2] [vI s0] S M Q := by
  refine WP.if0 0 8 5 .eq 34 (0, 0, 0, 0) 39 rfl rfl ?_
  exact ⟨kt, fun hc => kf hc⟩
set_option maxRecDepth 100000 in
theorem b_X4_addNew_8_i {d : Nat} {S : mSh} {M : mMem} {Q : Option mV → mSh → mMem → Prop} {x0 x1 x2 : Int} {v1 : Int} (ev1 : (up M (x0 + 5) (x1 * 20) ((M (x0 + 5) (x1 * 20)) + (x2 * 1000))) (x0 + 3) x1 = v1) (hx0 : Stk S x0) (hc : R32 (x1 * 20) ∧ (0 ≤ x1 * 20 ∧ x1 * 20 < 160) ∧ R32 (x2 * 1000) ∧ R32 ((M (x0 + 5) (x1 * 20)) + (x2 * 1000)) ∧ (0 ≤ x1 ∧ x1 < 8) ∧ R32 (v1 + (x2 * 1000))) (k : Q (none) S (up (up M (x0 + 5) (x1 * 20) ((M (x0 + 5) (x1 * 20)) + (x2 * 1000))) (x0 + 3) x1 (v1 + (x2 * 1000)))) : WP PR d 45 8 [vA x0, vI x1, vI x2] [] S M Q := by
  subst ev1
  refine WP.re 22 39 .return_ (0, 0, 0, 0) _ rfl ?_
  exact And.intro (⟨(hx0).o, (hx0).f4⟩) (And.intro (hc.1) (And.intro (inA_of ((hx0).a5) ((hx0).l5) hc.2.1) (And.intro (hc.2.2.1) (And.intro (hc.2.2.2.1) (And.intro (inA_of ((hx0).a5) ((hx0).l5) hc.2.1) (And.intro (⟨(hx0).o, (hx0).f2⟩) (And.intro (inA_of ((hx0).a3) ((hx0).l3) hc.2.2.2.2.1) (And.intro (hc.2.2.1) (And.intro (hc.2.2.2.2.2) (And.intro (inA_of ((hx0).a3) ((hx0).l3) hc.2.2.2.2.1) (⟨rfl, rfl, trivial, k⟩)))))))))))
theorem b_X4_addNew_8 {d : Nat} {S : mSh} {M : mMem} {Q : Option mV → mSh → mMem → Prop} {x0 x1 x2 : Int} (hx0 : Stk S x0) (hc : R32 (x1 * 20) ∧ (0 ≤ x1 * 20 ∧ x1 * 20 < 160) ∧ R32 (x2 * 1000) ∧ R32 ((M (x0 + 5) (x1 * 20)) + (x2 * 1000)) ∧ (0 ≤ x1 ∧ x1 < 8) ∧ R32 ((M (x0 + 3) x1) + (x2 * 1000))) (k : Q (none) S (up (up M (x0 + 5) (x1 * 20) ((M (x0 + 5) (x1 * 20)) + (x2 * 1000))) (x0 + 3) x1 ((M (x0 + 3) x1) + (x2 * 1000)))) : WP PR d 45 8 [vA x0, vI x1, vI x2] [] S M Q := b_X4_addNew_8_i (show (up M (x0 + 5) (x1 * 20) ((M (x0 + 5) (x1 * 20)) + (x2 * 1000))) (x0 + 3) x1 = M (x0 + 3) x1 from (up_na (by omega)).trans (rfl)) hx0 hc k
set_option maxRecDepth 100000 in
theorem b_X4_addNew_39 {d : Nat} {S : mSh} {M : mMem} {Q : Option mV → mSh → mMem → Prop} {x0 x1 x2 : Int} (k : Q (none) S M) : WP PR d 45 39 [vA x0, vI x1, vI x2] [] S M Q := by
  refine WP.re 0 39 .return_ (0, 0, 0, 0) _ rfl ?_
  exact ⟨rfl, rfl, trivial, k⟩
/-- SoleraCellar$Stock.measures(I)I -/
abbrev e_X4_measures (d : Nat) (a0 a1 : Int) (S : mSh) (M : mMem) (Q : Option mV → mSh → mMem → Prop) : Prop := WP PR d 46 0 [vA a0, vI a1] [] S M Q
set_option maxRecDepth 100000 in
theorem b_X4_measures_0 {d : Nat} {S : mSh} {M : mMem} {Q : Option mV → mSh → mMem → Prop} {x0 x1 : Int} (hx0 : Stk S x0) (hc : (0 ≤ x1 ∧ x1 < 8) ∧ R32 ((M (x0 + 3) x1).tdiv 1000)) (k : Q (some (vI ((M (x0 + 3) x1).tdiv 1000))) S M) : WP PR d 46 0 [vA x0, vI x1] [] S M Q := by
  refine WP.re 6 10 .ireturn (0, 0, 0, 0) _ rfl ?_
  exact And.intro (⟨(hx0).o, (hx0).f2⟩) (And.intro (inA_of ((hx0).a3) ((hx0).l3) hc.1) (And.intro (⟨by decide, hc.2⟩) (⟨rfl, rfl, trivial, k⟩)))
/-- SoleraCellar$Stock.roomFor(I)I -/
abbrev e_X4_roomFor (d : Nat) (a0 a1 : Int) (S : mSh) (M : mMem) (Q : Option mV → mSh → mMem → Prop) : Prop := WP PR d 47 0 [vA a0, vI a1] [] S M Q
set_option maxRecDepth 100000 in
theorem b_X4_roomFor_0 {d : Nat} {S : mSh} {M : mMem} {Q : Option mV → mSh → mMem → Prop} {x0 x1 : Int} (hx0 : Stk S x0) (hc : (0 ≤ x1 ∧ x1 < 8) ∧ R32 ((M (x0 + 2) x1) * 1000) ∧ R32 (((M (x0 + 2) x1) * 1000) - (M (x0 + 3) x1)) ∧ R32 ((((M (x0 + 2) x1) * 1000) - (M (x0 + 3) x1)).tdiv 1000)) (k : Q (some (vI ((((M (x0 + 2) x1) * 1000) - (M (x0 + 3) x1)).tdiv 1000))) S M) : WP PR d 47 0 [vA x0, vI x1] [] S M Q := by
  refine WP.re 13 21 .ireturn (0, 0, 0, 0) _ rfl ?_
  exact And.intro (⟨(hx0).o, (hx0).f1⟩) (And.intro (inA_of ((hx0).a2) ((hx0).l2) hc.1) (And.intro (hc.2.1) (And.intro (⟨(hx0).o, (hx0).f2⟩) (And.intro (inA_of ((hx0).a3) ((hx0).l3) hc.1) (And.intro (hc.2.2.1) (And.intro (⟨by decide, hc.2.2.2⟩) (⟨rfl, rfl, trivial, k⟩)))))))
/-- SoleraCellar$Stock.mean(I)I -/
abbrev e_X4_mean (d : Nat) (a0 a1 : Int) (S : mSh) (M : mMem) (Q : Option mV → mSh → mMem → Prop) : Prop := WP PR d 48 0 [vA a0, vI a1] [] S M Q
set_option maxRecDepth 100000 in
theorem b_X4_mean_0 {d : Nat} {S : mSh} {M : mMem} {Q : Option mV → mSh → mMem → Prop} {x0 x1 : Int} (hx0 : Stk S x0) (hc : (0 ≤ x1 ∧ x1 < 8)) (kt : 1 ≤ M (x0 + 3) x1 → WP PR d 48 14 [vA x0, vI x1] [] S M Q) (kf : M (x0 + 3) x1 < 1 → WP PR d 48 10 [vA x0, vI x1] [] S M Q) : WP PR d 48 0 [vA x0, vI x1] [] S M Q := by
  refine WP.if2 5 10 7 .ge 7 (0, 0, 0, 0) 14 rfl rfl ?_
  exact And.intro (⟨(hx0).o, (hx0).f2⟩) (And.intro (inA_of ((hx0).a3) ((hx0).l3) hc) (⟨kt, fun hc => kf (Int.not_le.mp hc)⟩))
set_option maxRecDepth 100000 in
theorem b_X4_mean_10 {d : Nat} {S : mSh} {M : mMem} {Q : Option mV → mSh → mMem → Prop} {x0 x1 : Int} (k : Q (some (vI (-1))) S M) : WP PR d 48 10 [vA x0, vI x1] [] S M Q := by
  refine WP.gt 1 11 22 (0, 0, 0, 0) _ 33 rfl rfl ?_
  show WP PR d 48 33 [vA x0, vI x1] [vI (-1)] S M Q
  refine WP.re 0 33 .ireturn (0, 0, 0, 0) _ rfl ?_
  exact ⟨rfl, rfl, trivial, k⟩
set_option maxRecDepth 100000 in
theorem b_X4_mean_14 {d : Nat} {S : mSh} {M : mMem} {Q : Option mV → mSh → mMem → Prop} {x0 x1 : Int} (hx0 : Stk S x0) (hc : (0 ≤ x1 ∧ x1 < 8) ∧ R64 ((M (x0 + 4) x1) * 1000) ∧ (M (x0 + 3) x1) ≠ 0 ∧ R64 (((M (x0 + 4) x1) * 1000).tdiv (M (x0 + 3) x1))) (k : Q (some (vI (w32 (((M (x0 + 4) x1) * 1000).tdiv (M (x0 + 3) x1))))) S M) : WP PR d 48 14 [vA x0, vI x1] [] S M Q := by
  refine WP.re 13 33 .ireturn (0, 0, 0, 0) _ rfl ?_
  exact And.intro (⟨(hx0).o, (hx0).f3⟩) (And.intro (inA_of ((hx0).a4) ((hx0).l4) hc.1) (And.intro (hc.2.1) (And.intro (⟨(hx0).o, (hx0).f2⟩) (And.intro (inA_of ((hx0).a3) ((hx0).l3) hc.1) (And.intro (⟨hc.2.2.1, hc.2.2.2⟩) (⟨rfl, rfl, trivial, k⟩))))))
/-- SoleraCellar$Stock.asOldAs(II)J -/
abbrev e_X4_asOldAs (d : Nat) (a0 a1 a2 : Int) (S : mSh) (M : mMem) (Q : Option mV → mSh → mMem → Prop) : Prop := WP PR d 49 0 [vA a0, vI a1, vI a2, vU, vU, vU] [] S M Q
set_option maxRecDepth 100000 in
theorem b_X4_asOldAs_0 {d : Nat} {S : mSh} {M : mMem} {Q : Option mV → mSh → mMem → Prop} {x0 x1 x2 : Int} (k : WP PR d 49 5 [vA x0, vI x1, vI x2, vL 0, vU, vI x2] [] S M Q) : WP PR d 49 0 [vA x0, vI x1, vI x2, vU, vU, vU] [] S M Q := by
  refine WP.bl 4 5 rfl ?_
  exact k
set_option maxRecDepth 100000 in
theorem b_X4_asOldAs_5 {d : Nat} {S : mSh} {M : mMem} {Q : Option mV → mSh → mMem → Prop} {x0 x1 x2 x3 x5 : Int} (kt : 20 ≤ x5 → WP PR d 49 34 [vA x0, vI x1, vI x2, vL x3, vU, vI x5] [] S M Q) (kf : x5 < 20 → WP PR d 49 12 [vA x0, vI x1, vI x2, vL x3, vU, vI x5] [] S M Q) : WP PR d 49 5 [vA x0, vI x1, vI x2, vL x3, vU, vI x5] [] S M Q := by
  refine WP.if2 2 12 9 .ge 25 (0, 0, 0, 0) 34 rfl rfl ?_
  exact ⟨kt, fun hc => kf (Int.not_le.mp hc)⟩
set_option maxRecDepth 100000 in
theorem b_X4_asOldAs_12 {d : Nat} {S : mSh} {M : mMem} {Q : Option mV → mSh → mMem → Prop} {x0 x1 x2 x3 x5 : Int} (hx0 : Stk S x0) (hc : R32 (x1 * 20) ∧ R32 ((x1 * 20) + x5) ∧ (0 ≤ (x1 * 20) + x5 ∧ (x1 * 20) + x5 < 160) ∧ R64 (x3 + (M (x0 + 5) ((x1 * 20) + x5))) ∧ R32 (x5 + 1)) (k : WP PR d 49 5 [vA x0, vI x1, vI x2, vL (x3 + (M (x0 + 5) ((x1 * 20) + x5))), vU, vI (x5 + 1)] [] S M Q) : WP PR d 49 12 [vA x0, vI x1, vI x2, vL x3, vU, vI x5] [] S M Q := by
  refine WP.gt 13 31 (-26) (0, 0, 0, 0) _ 5 rfl rfl ?_
  exact And.intro (⟨(hx0).o, (hx0).f4⟩) (And.intro (hc.1) (And.intro (hc.2.1) (And.intro (inA_of ((hx0).a5) ((hx0).l5) hc.2.2.1) (And.intro (hc.2.2.2.1) (And.intro (hc.2.2.2.2) (k))))))
set_option maxRecDepth 100000 in
theorem b_X4_asOldAs_34 {d : Nat} {S : mSh} {M : mMem} {Q : Option mV → mSh → mMem → Prop} {x0 x1 x2 x3 x5 : Int} (k : Q (some (vL x3)) S M) : WP PR d 49 34 [vA x0, vI x1, vI x2, vL x3, vU, vI x5] [] S M Q := by
  refine WP.re 1 35 .lreturn (0, 0, 0, 0) _ rfl ?_
  exact ⟨rfl, rfl, trivial, k⟩
/-- SoleraCellar$Stock.label(I)I -/
abbrev e_X4_label (d : Nat) (a0 a1 : Int) (S : mSh) (M : mMem) (Q : Option mV → mSh → mMem → Prop) : Prop := WP PR d 50 0 [vA a0, vI a1, vU, vU, vU, vU, vU] [] S M Q
set_option maxRecDepth 100000 in
theorem b_X4_label_0 {d : Nat} {S : mSh} {M : mMem} {Q : Option mV → mSh → mMem → Prop} {x0 x1 : Int} (hx0 : Stk S x0) (hc : (0 ≤ x1 ∧ x1 < 8)) (kt : 1 ≤ M (x0 + 3) x1 → WP PR d 50 12 [vA x0, vI x1, vU, vU, vU, vU, vU] [] S M Q) (kf : M (x0 + 3) x1 < 1 → WP PR d 50 10 [vA x0, vI x1, vU, vU, vU, vU, vU] [] S M Q) : WP PR d 50 0 [vA x0, vI x1, vU, vU, vU, vU, vU] [] S M Q := by
  refine WP.if2 5 10 7 .ge 5 (0, 0, 0, 0) 12 rfl rfl ?_
  exact And.intro (⟨(hx0).o, (hx0).f2⟩) (And.intro (inA_of ((hx0).a3) ((hx0).l3) hc) (⟨kt, fun hc => kf (Int.not_le.mp hc)⟩))
set_option maxRecDepth 100000 in
theorem b_X4_label_10 {d : Nat} {S : mSh} {M : mMem} {Q : Option mV → mSh → mMem → Prop} {x0 x1 : Int} {u2 u3 u4 u5 u6 : mV} (k : Q (some (vI (-1))) S M) : WP PR d 50 10 [vA x0, vI x1, u2, u3, u4, u5, u6] [] S M Q := by
  refine WP.re 1 11 .ireturn (0, 0, 0, 0) _ rfl ?_
  exact ⟨rfl, rfl, trivial, k⟩
set_option maxRecDepth 100000 in
theorem b_X4_label_12 {d : Nat} {S : mSh} {M : mMem} {Q : Option mV → mSh → mMem → Prop} {x0 x1 : Int} {u2 u3 u4 u5 u6 : mV} (hx0 : Stk S x0) (hc : (0 ≤ x1 ∧ x1 < 8) ∧ R64 ((M (x0 + 3) x1) * (M (x0 + 6) 3))) (k : WP PR d 50 35 [vA x0, vI x1, vL ((M (x0 + 3) x1) * (M (x0 + 6) 3)), vU, vL 0, vU, vI 19] [] S M Q) : WP PR d 50 12 [vA x0, vI x1, u2, u3, u4, u5, u6] [] S M Q := by
  refine WP.bl 16 35 rfl ?_
  exact And.intro (⟨(hx0).o, (hx0).f2⟩) (And.intro (inA_of ((hx0).a3) ((hx0).l3) hc.1) (And.intro (⟨(hx0).o, (hx0).f5⟩) (And.intro (inA_of ((hx0).a6) ((hx0).l6) (by decide)) (And.intro (hc.2) (k)))))
set_option maxRecDepth 100000 in
theorem b_X4_label_35 {d : Nat} {S : mSh} {M : mMem} {Q : Option mV → mSh → mMem → Prop} {x0 x1 x2 x4 x6 : Int} (kt : x6 ≤ 0 → WP PR d 50 78 [vA x0, vI x1, vL x2, vU, vL x4, vU, vI x6] [] S M Q) (kf : 0 < x6 → WP PR d 50 40 [vA x0, vI x1, vL x2, vU, vL x4, vU, vI x6] [] S M Q) : WP PR d 50 35 [vA x0, vI x1, vL x2, vU, vL x4, vU, vI x6] [] S M Q := by
  refine WP.if0 1 40 37 .le 41 (0, 0, 0, 0) 78 rfl rfl ?_
  exact ⟨kt, fun hc => kf (Int.not_le.mp hc)⟩
set_option maxRecDepth 100000 in
theorem b_X4_label_40 {d : Nat} {S : mSh} {M : mMem} {Q : Option mV → mSh → mMem → Prop} {x0 x1 x2 x4 x6 : Int} (hx0 : Stk S x0) (hc : R32 (x1 * 20) ∧ R32 ((x1 * 20) + x6) ∧ (0 ≤ (x1 * 20) + x6 ∧ (x1 * 20) + x6 < 160) ∧ R64 (x4 + (M (x0 + 5) ((x1 * 20) + x6))) ∧ R64 ((x4 + (M (x0 + 5) ((x1 * 20) + x6))) * 100)) (kt : ((x4 + (M (x0 + 5) ((x1 * 20) + x6))) * 100) < x2 → WP PR d 50 72 [vA x0, vI x1, vL x2, vU, vL (x4 + (M (x0 + 5) ((x1 * 20) + x6))), vU, vI x6] [] S M Q) (kf : x2 ≤ ((x4 + (M (x0 + 5) ((x1 * 20) + x6))) * 100) → WP PR d 50 69 [vA x0, vI x1, vL x2, vU, vL (x4 + (M (x0 + 5) ((x1 * 20) + x6))), vU, vI x6] [] S M Q) : WP PR d 50 40 [vA x0, vI x1, vL x2, vU, vL x4, vU, vI x6] [] S M Q := by
  refine WP.if0 17 69 66 .lt 6 (0, 0, 0, 0) 72 rfl rfl ?_
  exact And.intro (⟨(hx0).o, (hx0).f4⟩) (And.intro (hc.1) (And.intro (hc.2.1) (And.intro (inA_of ((hx0).a5) ((hx0).l5) hc.2.2.1) (And.intro (hc.2.2.2.1) (And.intro (hc.2.2.2.2) (⟨fun hc => kt (lcp_lt.mp hc), fun hc => kf (lcp_ge.mp (Int.not_lt.mp hc))⟩))))))
set_option maxRecDepth 100000 in
theorem b_X4_label_69 {d : Nat} {S : mSh} {M : mMem} {Q : Option mV → mSh → mMem → Prop} {x0 x1 x2 x4 x6 : Int} (k : Q (some (vI x6)) S M) : WP PR d 50 69 [vA x0, vI x1, vL x2, vU, vL x4, vU, vI x6] [] S M Q := by
  refine WP.re 1 71 .ireturn (0, 0, 0, 0) _ rfl ?_
  exact ⟨rfl, rfl, trivial, k⟩
set_option maxRecDepth 100000 in
theorem b_X4_label_72 {d : Nat} {S : mSh} {M : mMem} {Q : Option mV → mSh → mMem → Prop} {x0 x1 x2 x4 x6 : Int} (hc : R32 (x6 + (-1))) (k : WP PR d 50 35 [vA x0, vI x1, vL x2, vU, vL x4, vU, vI (x6 + (-1))] [] S M Q) : WP PR d 50 72 [vA x0, vI x1, vL x2, vU, vL x4, vU, vI x6] [] S M Q := by
  refine WP.gt 1 75 (-40) (0, 0, 0, 0) _ 35 rfl rfl ?_
  exact And.intro (hc) (k)
set_option maxRecDepth 100000 in
theorem b_X4_label_78 {d : Nat} {S : mSh} {M : mMem} {Q : Option mV → mSh → mMem → Prop} {x0 x1 x2 x4 x6 : Int} (k : Q (some (vI 0)) S M) : WP PR d 50 78 [vA x0, vI x1, vL x2, vU, vL x4, vU, vI x6] [] S M Q := by
  refine WP.re 1 79 .ireturn (0, 0, 0, 0) _ rfl ?_
  exact ⟨rfl, rfl, trivial, k⟩
/-- SoleraCellar$Stock.takeOut(II[I)V -/
abbrev e_X4_takeOut (d : Nat) (a0 a1 a2 a3 : Int) (S : mSh) (M : mMem) (Q : Option mV → mSh → mMem → Prop) : Prop := WP PR d 51 0 [vA a0, vI a1, vI a2, vA a3, vU, vU, vU, vU, vU] [] S M Q
set_option maxRecDepth 100000 in
theorem b_X4_takeOut_0 {d : Nat} {S : mSh} {M : mMem} {Q : Option mV → mSh → mMem → Prop} {x0 x1 x2 : Int} (hx0 : Stk S x0) (hc : R32 (x2 * 1000) ∧ (0 ≤ x1 ∧ x1 < 8)) (k : WP PR d 51 26 [vA x0, vI x1, vI x2, vA 195, vI (x2 * 1000), vI (if 1 < M (x0 + 3) x1 then M (x0 + 3) x1 else 1), vI (x2 * 1000), vI 0, vU] [] S M Q) : WP PR d 51 0 [vA x0, vI x1, vI x2, vA 195, vU, vU, vU, vU, vU] [] S M Q := by
  refine WP.bl 15 26 rfl ?_
  exact And.intro (hc.1) (And.intro (⟨(hx0).o, (hx0).f2⟩) (And.intro (inA_of ((hx0).a3) ((hx0).l3) hc.2) (k)))
set_option maxRecDepth 100000 in
theorem b_X4_takeOut_26 {d : Nat} {S : mSh} {M : mMem} {Q : Option mV → mSh → mMem → Prop} {x0 x1 x2 x4 x5 x6 x7 : Int} {u8 : mV} (kt : 20 ≤ x7 → WP PR d 51 74 [vA x0, vI x1, vI x2, vA 195, vI x4, vI x5, vI x6, vI x7, u8] [] S M Q) (kf : x7 < 20 → WP PR d 51 33 [vA x0, vI x1, vI x2, vA 195, vI x4, vI x5, vI x6, vI x7, u8] [] S M Q) : WP PR d 51 26 [vA x0, vI x1, vI x2, vA 195, vI x4, vI x5, vI x6, vI x7, u8] [] S M Q := by
  refine WP.if2 2 33 30 .ge 44 (0, 0, 0, 0) 74 rfl rfl ?_
  exact ⟨kt, fun hc => kf (Int.not_le.mp hc)⟩
set_option maxRecDepth 100000 in
theorem b_X4_takeOut_33_i {d : Nat} {S : mSh} {M : mMem} {Q : Option mV → mSh → mMem → Prop} {x0 x1 x2 x4 x5 x6 x7 : Int} {u8 : mV} {v1 : Int} (ev1 : (up M 195 x7 (w32 (((M (x0 + 5) ((x1 * 20) + x7)) * x4).tdiv x5))) 195 x7 = v1) (L : Lay S) (hx0 : Stk S x0) (hc : R32 (x1 * 20) ∧ R32 ((x1 * 20) + x7) ∧ (0 ≤ (x1 * 20) + x7 ∧ (x1 * 20) + x7 < 160) ∧ R64 ((M (x0 + 5) ((x1 * 20) + x7)) * x4) ∧ x5 ≠ 0 ∧ R64 (((M (x0 + 5) ((x1 * 20) + x7)) * x4).tdiv x5) ∧ (0 ≤ x7 ∧ x7 < 20) ∧ R32 (x6 - v1) ∧ R32 (x7 + 1)) (k : WP PR d 51 26 [vA x0, vI x1, vI x2, vA 195, vI x4, vI x5, vI (x6 - v1), vI (x7 + 1), u8] [] S (up M 195 x7 (w32 (((M (x0 + 5) ((x1 * 20) + x7)) * x4).tdiv x5))) Q) : WP PR d 51 33 [vA x0, vI x1, vI x2, vA 195, vI x4, vI x5, vI x6, vI x7, u8] [] S M Q := by
  subst ev1
  refine WP.gt 26 71 (-45) (0, 0, 0, 0) _ 26 rfl rfl ?_
  exact And.intro (⟨(hx0).o, (hx0).f4⟩) (And.intro (hc.1) (And.intro (hc.2.1) (And.intro (inA_of ((hx0).a5) ((hx0).l5) hc.2.2.1) (And.intro (hc.2.2.2.1) (And.intro (⟨hc.2.2.2.2.1, hc.2.2.2.2.2.1⟩) (And.intro (inA_of (lo195 L) (ll195 L) hc.2.2.2.2.2.2.1) (And.intro (inA_of (lo195 L) (ll195 L) hc.2.2.2.2.2.2.1) (And.intro (hc.2.2.2.2.2.2.2.1) (And.intro (hc.2.2.2.2.2.2.2.2) (k))))))))))
theorem b_X4_takeOut_33 {d : Nat} {S : mSh} {M : mMem} {Q : Option mV → mSh → mMem → Prop} {x0 x1 x2 x4 x5 x6 x7 : Int} {u8 : mV} (L : Lay S) (hx0 : Stk S x0) (hc : R32 (x1 * 20) ∧ R32 ((x1 * 20) + x7) ∧ (0 ≤ (x1 * 20) + x7 ∧ (x1 * 20) + x7 < 160) ∧ R64 ((M (x0 + 5) ((x1 * 20) + x7)) * x4) ∧ x5 ≠ 0 ∧ R64 (((M (x0 + 5) ((x1 * 20) + x7)) * x4).tdiv x5) ∧ (0 ≤ x7 ∧ x7 < 20) ∧ R32 (x6 - (w32 (((M (x0 + 5) ((x1 * 20) + x7)) * x4).tdiv x5))) ∧ R32 (x7 + 1)) (k : WP PR d 51 26 [vA x0, vI x1, vI x2, vA 195, vI x4, vI x5, vI (x6 - (w32 (((M (x0 + 5) ((x1 * 20) + x7)) * x4).tdiv x5))), vI (x7 + 1), u8] [] S (up M 195 x7 (w32 (((M (x0 + 5) ((x1 * 20) + x7)) * x4).tdiv x5))) Q) : WP PR d 51 33 [vA x0, vI x1, vI x2, vA 195, vI x4, vI x5, vI x6, vI x7, u8] [] S M Q := b_X4_takeOut_33_i (show (up M 195 x7 (w32 (((M (x0 + 5) ((x1 * 20) + x7)) * x4).tdiv x5))) 195 x7 = w32 (((M (x0 + 5) ((x1 * 20) + x7)) * x4).tdiv x5) from up_s _ _ _ _) L hx0 hc k
set_option maxRecDepth 100000 in
theorem b_X4_takeOut_74 {d : Nat} {S : mSh} {M : mMem} {Q : Option mV → mSh → mMem → Prop} {x0 x1 x2 x4 x5 x6 x7 : Int} {u8 : mV} (k : WP PR d 51 78 [vA x0, vI x1, vI x2, vA 195, vI x4, vI x5, vI x6, vI 19, u8] [] S M Q) : WP PR d 51 74 [vA x0, vI x1, vI x2, vA 195, vI x4, vI x5, vI x6, vI x7, u8] [] S M Q := by
  refine WP.bl 2 78 rfl ?_
  exact k
set_option maxRecDepth 100000 in
theorem b_X4_takeOut_78 {d : Nat} {S : mSh} {M : mMem} {Q : Option mV → mSh → mMem → Prop} {x0 x1 x2 x4 x5 x6 x7 : Int} {u8 : mV} (kt : x7 < 0 → WP PR d 51 160 [vA x0, vI x1, vI x2, vA 195, vI x4, vI x5, vI x6, vI x7, u8] [] S M Q) (kf : 0 ≤ x7 → WP PR d 51 83 [vA x0, vI x1, vI x2, vA 195, vI x4, vI x5, vI x6, vI x7, u8] [] S M Q) : WP PR d 51 78 [vA x0, vI x1, vI x2, vA 195, vI x4, vI x5, vI x6, vI x7, u8] [] S M Q := by
  refine WP.if0 1 83 80 .lt 80 (0, 0, 0, 0) 160 rfl rfl ?_
  exact ⟨kt, fun hc => kf (Int.not_lt.mp hc)⟩
set_option maxRecDepth 100000 in
theorem b_X4_takeOut_83 {d : Nat} {S : mSh} {M : mMem} {Q : Option mV → mSh → mMem → Prop} {x0 x1 x2 x4 x5 x6 x7 : Int} {u8 : mV} (hc : R32 (x1 * 20) ∧ R32 ((x1 * 20) + x7)) (kt : x6 ≤ 0 → WP PR d 51 122 [vA x0, vI x1, vI x2, vA 195, vI x4, vI x5, vI x6, vI x7, vI ((x1 * 20) + x7)] [] S M Q) (kf : 0 < x6 → WP PR d 51 97 [vA x0, vI x1, vI x2, vA 195, vI x4, vI x5, vI x6, vI x7, vI ((x1 * 20) + x7)] [] S M Q) : WP PR d 51 83 [vA x0, vI x1, vI x2, vA 195, vI x4, vI x5, vI x6, vI x7, u8] [] S M Q := by
  refine WP.if0 7 97 94 .le 28 (0, 0, 0, 0) 122 rfl rfl ?_
  exact And.intro (hc.1) (And.intro (hc.2) (⟨kt, fun hc => kf (Int.not_le.mp hc)⟩))
set_option maxRecDepth 100000 in
theorem b_X4_takeOut_97 {d : Nat} {S : mSh} {M : mMem} {Q : Option mV → mSh → mMem → Prop} {x0 x1 x2 x4 x5 x6 x7 x8 : Int} (L : Lay S) (hx0 : Stk S x0) (hc : (0 ≤ x8 ∧ x8 < 160) ∧ (0 ≤ x7 ∧ x7 < 20)) (kt : M (x0 + 5) x8 ≤ M 195 x7 → WP PR d 51 122 [vA x0, vI x1, vI x2, vA 195, vI x4, vI x5, vI x6, vI x7, vI x8] [] S M Q) (kf : M 195 x7 < M (x0 + 5) x8 → WP PR d 51 111 [vA x0, vI x1, vI x2, vA 195, vI x4, vI x5, vI x6, vI x7, vI x8] [] S M Q) : WP PR d 51 97 [vA x0, vI x1, vI x2, vA 195, vI x4, vI x5, vI x6, vI x7, vI x8] [] S M Q := by
  refine WP.if2 7 111 108 .le 14 (0, 0, 0, 0) 122 rfl rfl ?_
  exact And.intro (⟨(hx0).o, (hx0).f4⟩) (And.intro (inA_of ((hx0).a5) ((hx0).l5) hc.1) (And.intro (inA_of (lo195 L) (ll195 L) hc.2) (⟨kt, fun hc => kf (Int.not_le.mp hc)⟩)))
set_option maxRecDepth 100000 in
theorem b_X4_takeOut_111_i {d : Nat} {S : mSh} {M : mMem} {Q : Option mV → mSh → mMem → Prop} {x0 x1 x2 x4 x5 x6 x7 x8 : Int} {v1 : Int} (ev1 : (up M 195 x7 ((M 195 x7) + 1)) 195 x7 = v1) {v2 : Int} (ev2 : (up (up M 195 x7 ((M 195 x7) + 1)) (x0 + 5) x8 (((up M 195 x7 ((M 195 x7) + 1)) (x0 + 5) x8) - v1)) (x0 + 4) x1 = v2) (L : Lay S) (hx0 : Stk S x0) (hc : (0 ≤ x7 ∧ x7 < 20) ∧ R32 ((M 195 x7) + 1) ∧ R32 (x6 + (-1)) ∧ (0 ≤ x8 ∧ x8 < 160) ∧ R32 (((up M 195 x7 ((M 195 x7) + 1)) (x0 + 5) x8) - v1) ∧ (0 ≤ x1 ∧ x1 < 8) ∧ R64 (x7 * ((up (up M 195 x7 ((M 195 x7) + 1)) (x0 + 5) x8 (((up M 195 x7 ((M 195 x7) + 1)) (x0 + 5) x8) - v1)) 195 x7)) ∧ R64 (v2 - (x7 * ((up (up M 195 x7 ((M 195 x7) + 1)) (x0 + 5) x8 (((up M 195 x7 ((M 195 x7) + 1)) (x0 + 5) x8) - v1)) 195 x7))) ∧ R32 (x7 + (-1))) (k : WP PR d 51 78 [vA x0, vI x1, vI x2, vA 195, vI x4, vI x5, vI (x6 + (-1)), vI (x7 + (-1)), vI x8] [] S (up (up (up M 195 x7 ((M 195 x7) + 1)) (x0 + 5) x8 (((up M 195 x7 ((M 195 x7) + 1)) (x0 + 5) x8) - v1)) (x0 + 4) x1 (v2 - (x7 * ((up (up M 195 x7 ((M 195 x7) + 1)) (x0 + 5) x8 (((up M 195 x7 ((M 195 x7) + 1)) (x0 + 5) x8) - v1)) 195 x7)))) Q) : WP PR d 51 111 [vA x0, vI x1, vI x2, vA 195, vI x4, vI x5, vI x6, vI x7, vI x8] [] S M Q := by
  subst ev1
  subst ev2
  refine WP.gt 33 157 (-79) (0, 0, 0, 0) _ 78 rfl rfl ?_
  exact And.intro (inA_of (lo195 L) (ll195 L) hc.1) (And.intro (hc.2.1) (And.intro (inA_of (lo195 L) (ll195 L) hc.1) (And.intro (hc.2.2.1) (And.intro (⟨(hx0).o, (hx0).f4⟩) (And.intro (inA_of ((hx0).a5) ((hx0).l5) hc.2.2.2.1) (And.intro (inA_of (lo195 L) (ll195 L) hc.1) (And.intro (hc.2.2.2.2.1) (And.intro (inA_of ((hx0).a5) ((hx0).l5) hc.2.2.2.1) (And.intro (⟨(hx0).o, (hx0).f3⟩) (And.intro (inA_of ((hx0).a4) ((hx0).l4) hc.2.2.2.2.2.1) (And.intro (inA_of (lo195 L) (ll195 L) hc.1) (And.intro (hc.2.2.2.2.2.2.1) (And.intro (hc.2.2.2.2.2.2.2.1) (And.intro (inA_of ((hx0).a4) ((hx0).l4) hc.2.2.2.2.2.1) (And.intro (hc.2.2.2.2.2.2.2.2) (k))))))))))))))))
theorem b_X4_takeOut_111 {d : Nat} {S : mSh} {M : mMem} {Q : Option mV → mSh → mMem → Prop} {x0 x1 x2 x4 x5 x6 x7 x8 : Int} (L : Lay S) (hx0 : Stk S x0) (hc : (0 ≤ x7 ∧ x7 < 20) ∧ R32 ((M 195 x7) + 1) ∧ R32 (x6 + (-1)) ∧ (0 ≤ x8 ∧ x8 < 160) ∧ R32 (((up M 195 x7 ((M 195 x7) + 1)) (x0 + 5) x8) - ((M 195 x7) + 1)) ∧ (0 ≤ x1 ∧ x1 < 8) ∧ R64 (x7 * ((up (up M 195 x7 ((M 195 x7) + 1)) (x0 + 5) x8 (((up M 195 x7 ((M 195 x7) + 1)) (x0 + 5) x8) - ((M 195 x7) + 1))) 195 x7)) ∧ R64 ((M (x0 + 4) x1) - (x7 * ((up (up M 195 x7 ((M 195 x7) + 1)) (x0 + 5) x8 (((up M 195 x7 ((M 195 x7) + 1)) (x0 + 5) x8) - ((M 195 x7) + 1))) 195 x7))) ∧ R32 (x7 + (-1))) (k : WP PR d 51 78 [vA x0, vI x1, vI x2, vA 195, vI x4, vI x5, vI (x6 + (-1)), vI (x7 + (-1)), vI x8] [] S (up (up (up M 195 x7 ((M 195 x7) + 1)) (x0 + 5) x8 (((up M 195 x7 ((M 195 x7) + 1)) (x0 + 5) x8) - ((M 195 x7) + 1))) (x0 + 4) x1 ((M (x0 + 4) x1) - (x7 * ((up (up M 195 x7 ((M 195 x7) + 1)) (x0 + 5) x8 (((up M 195 x7 ((M 195 x7) + 1)) (x0 + 5) x8) - ((M 195 x7) + 1))) 195 x7)))) Q) : WP PR d 51 111 [vA x0, vI x1, vI x2, vA 195, vI x4, vI x5, vI x6, vI x7, vI x8] [] S M Q := b_X4_takeOut_111_i (show (up M 195 x7 ((M 195 x7) + 1)) 195 x7 = (M 195 x7) + 1 from up_s _ _ _ _) (show (up (up M 195 x7 ((M 195 x7) + 1)) (x0 + 5) x8 (((up M 195 x7 ((M 195 x7) + 1)) (x0 + 5) x8) - ((M 195 x7) + 1))) (x0 + 4) x1 = M (x0 + 4) x1 from (up_na (by omega)).trans ((up_na (isO_ne ((hx0).a4) (lo195 L) (by decide))).trans (rfl))) L hx0 hc k
set_option maxRecDepth 100000 in
theorem b_X4_takeOut_122_i {d : Nat} {S : mSh} {M : mMem} {Q : Option mV → mSh → mMem → Prop} {x0 x1 x2 x4 x5 x6 x7 x8 : Int} {v1 : Int} (ev1 : (up M (x0 + 5) x8 ((M (x0 + 5) x8) - (M 195 x7))) (x0 + 4) x1 = v1) (L : Lay S) (hx0 : Stk S x0) (hc : (0 ≤ x8 ∧ x8 < 160) ∧ (0 ≤ x7 ∧ x7 < 20) ∧ R32 ((M (x0 + 5) x8) - (M 195 x7)) ∧ (0 ≤ x1 ∧ x1 < 8) ∧ R64 (x7 * ((up M (x0 + 5) x8 ((M (x0 + 5) x8) - (M 195 x7))) 195 x7)) ∧ R64 (v1 - (x7 * ((up M (x0 + 5) x8 ((M (x0 + 5) x8) - (M 195 x7))) 195 x7))) ∧ R32 (x7 + (-1))) (k : WP PR d 51 78 [vA x0, vI x1, vI x2, vA 195, vI x4, vI x5, vI x6, vI (x7 + (-1)), vI x8] [] S (up (up M (x0 + 5) x8 ((M (x0 + 5) x8) - (M 195 x7))) (x0 + 4) x1 (v1 - (x7 * ((up M (x0 + 5) x8 ((M (x0 + 5) x8) - (M 195 x7))) 195 x7)))) Q) : WP PR d 51 122 [vA x0, vI x1, vI x2, vA 195, vI x4, vI x5, vI x6, vI x7, vI x8] [] S M Q := by
  subst ev1
  refine WP.gt 25 157 (-79) (0, 0, 0, 0) _ 78 rfl rfl ?_
  exact And.intro (⟨(hx0).o, (hx0).f4⟩) (And.intro (inA_of ((hx0).a5) ((hx0).l5) hc.1) (And.intro (inA_of (lo195 L) (ll195 L) hc.2.1) (And.intro (hc.2.2.1) (And.intro (inA_of ((hx0).a5) ((hx0).l5) hc.1) (And.intro (⟨(hx0).o, (hx0).f3⟩) (And.intro (inA_of ((hx0).a4) ((hx0).l4) hc.2.2.2.1) (And.intro (inA_of (lo195 L) (ll195 L) hc.2.1) (And.intro (hc.2.2.2.2.1) (And.intro (hc.2.2.2.2.2.1) (And.intro (inA_of ((hx0).a4) ((hx0).l4) hc.2.2.2.1) (And.intro (hc.2.2.2.2.2.2) (k))))))))))))
theorem b_X4_takeOut_122 {d : Nat} {S : mSh} {M : mMem} {Q : Option mV → mSh → mMem → Prop} {x0 x1 x2 x4 x5 x6 x7 x8 : Int} (L : Lay S) (hx0 : Stk S x0) (hc : (0 ≤ x8 ∧ x8 < 160) ∧ (0 ≤ x7 ∧ x7 < 20) ∧ R32 ((M (x0 + 5) x8) - (M 195 x7)) ∧ (0 ≤ x1 ∧ x1 < 8) ∧ R64 (x7 * ((up M (x0 + 5) x8 ((M (x0 + 5) x8) - (M 195 x7))) 195 x7)) ∧ R64 ((M (x0 + 4) x1) - (x7 * ((up M (x0 + 5) x8 ((M (x0 + 5) x8) - (M 195 x7))) 195 x7))) ∧ R32 (x7 + (-1))) (k : WP PR d 51 78 [vA x0, vI x1, vI x2, vA 195, vI x4, vI x5, vI x6, vI (x7 + (-1)), vI x8] [] S (up (up M (x0 + 5) x8 ((M (x0 + 5) x8) - (M 195 x7))) (x0 + 4) x1 ((M (x0 + 4) x1) - (x7 * ((up M (x0 + 5) x8 ((M (x0 + 5) x8) - (M 195 x7))) 195 x7)))) Q) : WP PR d 51 122 [vA x0, vI x1, vI x2, vA 195, vI x4, vI x5, vI x6, vI x7, vI x8] [] S M Q := b_X4_takeOut_122_i (show (up M (x0 + 5) x8 ((M (x0 + 5) x8) - (M 195 x7))) (x0 + 4) x1 = M (x0 + 4) x1 from (up_na (by omega)).trans (rfl)) L hx0 hc k
set_option maxRecDepth 100000 in
theorem b_X4_takeOut_160 {d : Nat} {S : mSh} {M : mMem} {Q : Option mV → mSh → mMem → Prop} {x0 x1 x2 x4 x5 x6 x7 : Int} {u8 : mV} (hx0 : Stk S x0) (hc : (0 ≤ x1 ∧ x1 < 8) ∧ R32 ((M (x0 + 3) x1) - x4)) (k : Q (none) S (up M (x0 + 3) x1 ((M (x0 + 3) x1) - x4))) : WP PR d 51 160 [vA x0, vI x1, vI x2, vA 195, vI x4, vI x5, vI x6, vI x7, u8] [] S M Q := by
  refine WP.re 8 171 .return_ (0, 0, 0, 0) _ rfl ?_
  exact And.intro (⟨(hx0).o, (hx0).f2⟩) (And.intro (inA_of ((hx0).a3) ((hx0).l3) hc.1) (And.intro (hc.2) (And.intro (inA_of ((hx0).a3) ((hx0).l3) hc.1) (⟨rfl, rfl, trivial, k⟩))))
/-- SoleraCellar$Stock.putIn(I[I)V -/
abbrev e_X4_putIn (d : Nat) (a0 a1 a2 : Int) (S : mSh) (M : mMem) (Q : Option mV → mSh → mMem → Prop) : Prop := WP PR d 52 0 [vA a0, vI a1, vA a2, vU] [] S M Q
set_option maxRecDepth 100000 in
theorem b_X4_putIn_0 {d : Nat} {S : mSh} {M : mMem} {Q : Option mV → mSh → mMem → Prop} {x0 x1 : Int} (k : WP PR d 52 2 [vA x0, vI x1, vA 195, vI 0] [] S M Q) : WP PR d 52 0 [vA x0, vI x1, vA 195, vU] [] S M Q := by
  refine WP.bl 2 2 rfl ?_
  exact k
set_option maxRecDepth 100000 in
theorem b_X4_putIn_2 {d : Nat} {S : mSh} {M : mMem} {Q : Option mV → mSh → mMem → Prop} {x0 x1 x3 : Int} (kt : 20 ≤ x3 → WP PR d 52 59 [vA x0, vI x1, vA 195, vI x3] [] S M Q) (kf : x3 < 20 → WP PR d 52 8 [vA x0, vI x1, vA 195, vI x3] [] S M Q) : WP PR d 52 2 [vA x0, vI x1, vA 195, vI x3] [] S M Q := by
  refine WP.if2 2 8 5 .ge 54 (0, 0, 0, 0) 59 rfl rfl ?_
  exact ⟨kt, fun hc => kf (Int.not_le.mp hc)⟩
set_option maxRecDepth 100000 in
theorem b_X4_putIn_8_i {d : Nat} {S : mSh} {M : mMem} {Q : Option mV → mSh → mMem → Prop} {x0 x1 x3 : Int} {v1 : Int} (ev1 : (up M (x0 + 5) ((x1 * 20) + x3) ((M (x0 + 5) ((x1 * 20) + x3)) + (M 195 x3))) (x0 + 3) x1 = v1) {v2 : Int} (ev2 : (up (up M (x0 + 5) ((x1 * 20) + x3) ((M (x0 + 5) ((x1 * 20) + x3)) + (M 195 x3))) (x0 + 3) x1 (v1 + ((up M (x0 + 5) ((x1 * 20) + x3) ((M (x0 + 5) ((x1 * 20) + x3)) + (M 195 x3))) 195 x3))) (x0 + 4) x1 = v2) (L : Lay S) (hx0 : Stk S x0) (hc : R32 (x1 * 20) ∧ R32 ((x1 * 20) + x3) ∧ (0 ≤ (x1 * 20) + x3 ∧ (x1 * 20) + x3 < 160) ∧ (0 ≤ x3 ∧ x3 < 20) ∧ R32 ((M (x0 + 5) ((x1 * 20) + x3)) + (M 195 x3)) ∧ (0 ≤ x1 ∧ x1 < 8) ∧ R32 (v1 + ((up M (x0 + 5) ((x1 * 20) + x3) ((M (x0 + 5) ((x1 * 20) + x3)) + (M 195 x3))) 195 x3)) ∧ R64 (x3 * ((up (up M (x0 + 5) ((x1 * 20) + x3) ((M (x0 + 5) ((x1 * 20) + x3)) + (M 195 x3))) (x0 + 3) x1 (v1 + ((up M (x0 + 5) ((x1 * 20) + x3) ((M (x0 + 5) ((x1 * 20) + x3)) + (M 195 x3))) 195 x3))) 195 x3)) ∧ R64 (v2 + (x3 * ((up (up M (x0 + 5) ((x1 * 20) + x3) ((M (x0 + 5) ((x1 * 20) + x3)) + (M 195 x3))) (x0 + 3) x1 (v1 + ((up M (x0 + 5) ((x1 * 20) + x3) ((M (x0 + 5) ((x1 * 20) + x3)) + (M 195 x3))) 195 x3))) 195 x3))) ∧ R32 (x3 + 1)) (k : WP PR d 52 2 [vA x0, vI x1, vA 195, vI (x3 + 1)] [] S (up (up (up M (x0 + 5) ((x1 * 20) + x3) ((M (x0 + 5) ((x1 * 20) + x3)) + (M 195 x3))) (x0 + 3) x1 (v1 + ((up M (x0 + 5) ((x1 * 20) + x3) ((M (x0 + 5) ((x1 * 20) + x3)) + (M 195 x3))) 195 x3))) (x0 + 4) x1 (v2 + (x3 * ((up (up M (x0 + 5) ((x1 * 20) + x3) ((M (x0 + 5) ((x1 * 20) + x3)) + (M 195 x3))) (x0 + 3) x1 (v1 + ((up M (x0 + 5) ((x1 * 20) + x3) ((M (x0 + 5) ((x1 * 20) + x3)) + (M 195 x3))) 195 x3))) 195 x3)))) Q) : WP PR d 52 8 [vA x0, vI x1, vA 195, vI x3] [] S M Q := by
  subst ev1
  subst ev2
  refine WP.gt 39 56 (-54) (0, 0, 0, 0) _ 2 rfl rfl ?_
  exact And.intro (⟨(hx0).o, (hx0).f4⟩) (And.intro (hc.1) (And.intro (hc.2.1) (And.intro (inA_of ((hx0).a5) ((hx0).l5) hc.2.2.1) (And.intro (inA_of (lo195 L) (ll195 L) hc.2.2.2.1) (And.intro (hc.2.2.2.2.1) (And.intro (inA_of ((hx0).a5) ((hx0).l5) hc.2.2.1) (And.intro (⟨(hx0).o, (hx0).f2⟩) (And.intro (inA_of ((hx0).a3) ((hx0).l3) hc.2.2.2.2.2.1) (And.intro (inA_of (lo195 L) (ll195 L) hc.2.2.2.1) (And.intro (hc.2.2.2.2.2.2.1) (And.intro (inA_of ((hx0).a3) ((hx0).l3) hc.2.2.2.2.2.1) (And.intro (⟨(hx0).o, (hx0).f3⟩) (And.intro (inA_of ((hx0).a4) ((hx0).l4) hc.2.2.2.2.2.1) (And.intro (inA_of (lo195 L) (ll195 L) hc.2.2.2.1) (And.intro (hc.2.2.2.2.2.2.2.1) (And.intro (hc.2.2.2.2.2.2.2.2.1) (And.intro (inA_of ((hx0).a4) ((hx0).l4) hc.2.2.2.2.2.1) (And.intro (hc.2.2.2.2.2.2.2.2.2) (k)))))))))))))))))))
theorem b_X4_putIn_8 {d : Nat} {S : mSh} {M : mMem} {Q : Option mV → mSh → mMem → Prop} {x0 x1 x3 : Int} (L : Lay S) (hx0 : Stk S x0) (hc : R32 (x1 * 20) ∧ R32 ((x1 * 20) + x3) ∧ (0 ≤ (x1 * 20) + x3 ∧ (x1 * 20) + x3 < 160) ∧ (0 ≤ x3 ∧ x3 < 20) ∧ R32 ((M (x0 + 5) ((x1 * 20) + x3)) + (M 195 x3)) ∧ (0 ≤ x1 ∧ x1 < 8) ∧ R32 ((M (x0 + 3) x1) + ((up M (x0 + 5) ((x1 * 20) + x3) ((M (x0 + 5) ((x1 * 20) + x3)) + (M 195 x3))) 195 x3)) ∧ R64 (x3 * ((up (up M (x0 + 5) ((x1 * 20) + x3) ((M (x0 + 5) ((x1 * 20) + x3)) + (M 195 x3))) (x0 + 3) x1 ((M (x0 + 3) x1) + ((up M (x0 + 5) ((x1 * 20) + x3) ((M (x0 + 5) ((x1 * 20) + x3)) + (M 195 x3))) 195 x3))) 195 x3)) ∧ R64 ((M (x0 + 4) x1) + (x3 * ((up (up M (x0 + 5) ((x1 * 20) + x3) ((M (x0 + 5) ((x1 * 20) + x3)) + (M 195 x3))) (x0 + 3) x1 ((M (x0 + 3) x1) + ((up M (x0 + 5) ((x1 * 20) + x3) ((M (x0 + 5) ((x1 * 20) + x3)) + (M 195 x3))) 195 x3))) 195 x3))) ∧ R32 (x3 + 1)) (k : WP PR d 52 2 [vA x0, vI x1, vA 195, vI (x3 + 1)] [] S (up (up (up M (x0 + 5) ((x1 * 20) + x3) ((M (x0 + 5) ((x1 * 20) + x3)) + (M 195 x3))) (x0 + 3) x1 ((M (x0 + 3) x1) + ((up M (x0 + 5) ((x1 * 20) + x3) ((M (x0 + 5) ((x1 * 20) + x3)) + (M 195 x3))) 195 x3))) (x0 + 4) x1 ((M (x0 + 4) x1) + (x3 * ((up (up M (x0 + 5) ((x1 * 20) + x3) ((M (x0 + 5) ((x1 * 20) + x3)) + (M 195 x3))) (x0 + 3) x1 ((M (x0 + 3) x1) + ((up M (x0 + 5) ((x1 * 20) + x3) ((M (x0 + 5) ((x1 * 20) + x3)) + (M 195 x3))) 195 x3))) 195 x3)))) Q) : WP PR d 52 8 [vA x0, vI x1, vA 195, vI x3] [] S M Q := b_X4_putIn_8_i (show (up M (x0 + 5) ((x1 * 20) + x3) ((M (x0 + 5) ((x1 * 20) + x3)) + (M 195 x3))) (x0 + 3) x1 = M (x0 + 3) x1 from (up_na (by omega)).trans (rfl)) (show (up (up M (x0 + 5) ((x1 * 20) + x3) ((M (x0 + 5) ((x1 * 20) + x3)) + (M 195 x3))) (x0 + 3) x1 ((M (x0 + 3) x1) + ((up M (x0 + 5) ((x1 * 20) + x3) ((M (x0 + 5) ((x1 * 20) + x3)) + (M 195 x3))) 195 x3))) (x0 + 4) x1 = M (x0 + 4) x1 from (up_na (by omega)).trans ((up_na (by omega)).trans (rfl))) L hx0 hc k
set_option maxRecDepth 100000 in
theorem b_X4_putIn_59 {d : Nat} {S : mSh} {M : mMem} {Q : Option mV → mSh → mMem → Prop} {x0 x1 x3 : Int} (k : Q (none) S M) : WP PR d 52 59 [vA x0, vI x1, vA 195, vI x3] [] S M Q := by
  refine WP.re 0 59 .return_ (0, 0, 0, 0) _ rfl ?_
  exact ⟨rfl, rfl, trivial, k⟩
/-- SoleraCellar$Stock.lossOf(II)I -/
abbrev e_X4_lossOf (d : Nat) (a0 a1 a2 : Int) (S : mSh) (M : mMem) (Q : Option mV → mSh → mMem → Prop) : Prop := WP PR d 53 0 [vA a0, vI a1, vI a2, vU, vU] [] S M Q
set_option maxRecDepth 100000 in
theorem b_X4_lossOf_0 {d : Nat} {S : mSh} {M : mMem} {Q : Option mV → mSh → mMem → Prop} {x0 x1 x2 : Int} (k : WP PR d 53 5 [vA x0, vI x1, vI x2, vI 0, vI 0] [] S M Q) : WP PR d 53 0 [vA x0, vI x1, vI x2, vU, vU] [] S M Q := by
  refine WP.bl 4 5 rfl ?_
  exact k
set_option maxRecDepth 100000 in
theorem b_X4_lossOf_5 {d : Nat} {S : mSh} {M : mMem} {Q : Option mV → mSh → mMem → Prop} {x0 x1 x2 x3 x4 : Int} (kt : 20 ≤ x4 → WP PR d 53 39 [vA x0, vI x1, vI x2, vI x3, vI x4] [] S M Q) (kf : x4 < 20 → WP PR d 53 12 [vA x0, vI x1, vI x2, vI x3, vI x4] [] S M Q) : WP PR d 53 5 [vA x0, vI x1, vI x2, vI x3, vI x4] [] S M Q := by
  refine WP.if2 2 12 9 .ge 30 (0, 0, 0, 0) 39 rfl rfl ?_
  exact ⟨kt, fun hc => kf (Int.not_le.mp hc)⟩
set_option maxRecDepth 100000 in
theorem b_X4_lossOf_12 {d : Nat} {S : mSh} {M : mMem} {Q : Option mV → mSh → mMem → Prop} {x0 x1 x2 x3 x4 : Int} (hx0 : Stk S x0) (hc : R32 (x1 * 20) ∧ R32 ((x1 * 20) + x4) ∧ (0 ≤ (x1 * 20) + x4 ∧ (x1 * 20) + x4 < 160) ∧ R32 ((M (x0 + 5) ((x1 * 20) + x4)) * x2) ∧ R32 (((M (x0 + 5) ((x1 * 20) + x4)) * x2).tdiv 1000) ∧ R32 (x3 + (((M (x0 + 5) ((x1 * 20) + x4)) * x2).tdiv 1000)) ∧ R32 (x4 + 1)) (k : WP PR d 53 5 [vA x0, vI x1, vI x2, vI (x3 + (((M (x0 + 5) ((x1 * 20) + x4)) * x2).tdiv 1000)), vI (x4 + 1)] [] S M Q) : WP PR d 53 12 [vA x0, vI x1, vI x2, vI x3, vI x4] [] S M Q := by
  refine WP.gt 16 36 (-31) (0, 0, 0, 0) _ 5 rfl rfl ?_
  exact And.intro (⟨(hx0).o, (hx0).f4⟩) (And.intro (hc.1) (And.intro (hc.2.1) (And.intro (inA_of ((hx0).a5) ((hx0).l5) hc.2.2.1) (And.intro (hc.2.2.2.1) (And.intro (⟨by decide, hc.2.2.2.2.1⟩) (And.intro (hc.2.2.2.2.2.1) (And.intro (hc.2.2.2.2.2.2) (k))))))))
set_option maxRecDepth 100000 in
theorem b_X4_lossOf_39 {d : Nat} {S : mSh} {M : mMem} {Q : Option mV → mSh → mMem → Prop} {x0 x1 x2 x3 x4 : Int} (k : Q (some (vI x3)) S M) : WP PR d 53 39 [vA x0, vI x1, vI x2, vI x3, vI x4] [] S M Q := by
  refine WP.re 1 40 .ireturn (0, 0, 0, 0) _ rfl ?_
  exact ⟨rfl, rfl, trivial, k⟩
/-- SoleraCellar$Stock.growOlder(II)I -/
abbrev e_X4_growOlder (d : Nat) (a0 a1 a2 : Int) (S : mSh) (M : mMem) (Q : Option mV → mSh → mMem → Prop) : Prop := WP PR d 54 0 [vA a0, vI a1, vI a2, vU, vU, vU, vU, vU, vU] [] S M Q
set_option maxRecDepth 100000 in
theorem b_X4_growOlder_0 {d : Nat} {S : mSh} {M : mMem} {Q : Option mV → mSh → mMem → Prop} {x0 x1 x2 : Int} (hx0 : Stk S x0) (hc : R32 (x1 * 20) ∧ (0 ≤ x1 ∧ x1 < 8)) (k : WP PR d 54 19 [vA x0, vI x1, vI x2, vI 0, vI (x1 * 20), vI 19, vU, vU, vU] [] S (up M (x0 + 4) x1 0) Q) : WP PR d 54 0 [vA x0, vI x1, vI x2, vU, vU, vU, vU, vU, vU] [] S M Q := by
  refine WP.bl 13 19 rfl ?_
  exact And.intro (hc.1) (And.intro (⟨(hx0).o, (hx0).f3⟩) (And.intro (inA_of ((hx0).a4) ((hx0).l4) hc.2) (k)))
set_option maxRecDepth 100000 in
theorem b_X4_growOlder_19 {d : Nat} {S : mSh} {M : mMem} {Q : Option mV → mSh → mMem → Prop} {x0 x1 x2 x3 x4 x5 : Int} {u6 u7 u8 : mV} (kt : x5 < 0 → WP PR d 54 121 [vA x0, vI x1, vI x2, vI x3, vI x4, vI x5, u6, u7, u8] [] S M Q) (kf : 0 ≤ x5 → WP PR d 54 24 [vA x0, vI x1, vI x2, vI x3, vI x4, vI x5, u6, u7, u8] [] S M Q) : WP PR d 54 19 [vA x0, vI x1, vI x2, vI x3, vI x4, vI x5, u6, u7, u8] [] S M Q := by
  refine WP.if0 1 24 21 .lt 100 (0, 0, 0, 0) 121 rfl rfl ?_
  exact ⟨kt, fun hc => kf (Int.not_lt.mp hc)⟩
set_option maxRecDepth 100000 in
theorem b_X4_growOlder_24_i {d : Nat} {S : mSh} {M : mMem} {Q : Option mV → mSh → mMem → Prop} {x0 x1 x2 x3 x4 x5 : Int} {u6 u7 u8 : mV} {v1 : Int} (ev1 : (up (up M (x0 + 5) (x4 + x5) 0) (x0 + 5) (x4 + (if 19 < x5 + 1 then 19 else x5 + 1)) (((up M (x0 + 5) (x4 + x5) 0) (x0 + 5) (x4 + (if 19 < x5 + 1 then 19 else x5 + 1))) + ((M (x0 + 5) (x4 + x5)) - (((M (x0 + 5) (x4 + x5)) * x2).tdiv 1000)))) (x0 + 4) x1 = v1) (hx0 : Stk S x0) (hc : R32 (x4 + x5) ∧ (0 ≤ x4 + x5 ∧ x4 + x5 < 160) ∧ R32 ((M (x0 + 5) (x4 + x5)) * x2) ∧ R32 (((M (x0 + 5) (x4 + x5)) * x2).tdiv 1000) ∧ R32 ((M (x0 + 5) (x4 + x5)) - (((M (x0 + 5) (x4 + x5)) * x2).tdiv 1000)) ∧ R32 (x5 + 1) ∧ R32 (x4 + (if 19 < x5 + 1 then 19 else x5 + 1)) ∧ (0 ≤ x4 + (if 19 < x5 + 1 then 19 else x5 + 1) ∧ x4 + (if 19 < x5 + 1 then 19 else x5 + 1) < 160) ∧ R32 (((up M (x0 + 5) (x4 + x5) 0) (x0 + 5) (x4 + (if 19 < x5 + 1 then 19 else x5 + 1))) + ((M (x0 + 5) (x4 + x5)) - (((M (x0 + 5) (x4 + x5)) * x2).tdiv 1000))) ∧ (0 ≤ x1 ∧ x1 < 8) ∧ R64 ((if 19 < x5 + 1 then 19 else x5 + 1) * ((M (x0 + 5) (x4 + x5)) - (((M (x0 + 5) (x4 + x5)) * x2).tdiv 1000))) ∧ R64 (v1 + ((if 19 < x5 + 1 then 19 else x5 + 1) * ((M (x0 + 5) (x4 + x5)) - (((M (x0 + 5) (x4 + x5)) * x2).tdiv 1000)))) ∧ R32 (x3 + (((M (x0 + 5) (x4 + x5)) * x2).tdiv 1000)) ∧ R32 (x5 + (-1))) (k : WP PR d 54 19 [vA x0, vI x1, vI x2, vI (x3 + (((M (x0 + 5) (x4 + x5)) * x2).tdiv 1000)), vI x4, vI (x5 + (-1)), vI (((M (x0 + 5) (x4 + x5)) * x2).tdiv 1000), vI ((M (x0 + 5) (x4 + x5)) - (((M (x0 + 5) (x4 + x5)) * x2).tdiv 1000)), vI (if 19 < x5 + 1 then 19 else x5 + 1)] [] S (up (up (up M (x0 + 5) (x4 + x5) 0) (x0 + 5) (x4 + (if 19 < x5 + 1 then 19 else x5 + 1)) (((up M (x0 + 5) (x4 + x5) 0) (x0 + 5) (x4 + (if 19 < x5 + 1 then 19 else x5 + 1))) + ((M (x0 + 5) (x4 + x5)) - (((M (x0 + 5) (x4 + x5)) * x2).tdiv 1000)))) (x0 + 4) x1 (v1 + ((if 19 < x5 + 1 then 19 else x5 + 1) * ((M (x0 + 5) (x4 + x5)) - (((M (x0 + 5) (x4 + x5)) * x2).tdiv 1000))))) Q) : WP PR d 54 24 [vA x0, vI x1, vI x2, vI x3, vI x4, vI x5, u6, u7, u8] [] S M Q := by
  subst ev1
  refine WP.gt 60 118 (-99) (0, 0, 0, 0) _ 19 rfl rfl ?_
  exact And.intro (⟨(hx0).o, (hx0).f4⟩) (And.intro (hc.1) (And.intro (inA_of ((hx0).a5) ((hx0).l5) hc.2.1) (And.intro (hc.2.2.1) (And.intro (⟨by decide, hc.2.2.2.1⟩) (And.intro (⟨(hx0).o, (hx0).f4⟩) (And.intro (hc.1) (And.intro (inA_of ((hx0).a5) ((hx0).l5) hc.2.1) (And.intro (hc.2.2.2.2.1) (And.intro (hc.2.2.2.2.2.1) (And.intro (⟨(hx0).o, (hx0).f4⟩) (And.intro (hc.1) (And.intro (inA_of ((hx0).a5) ((hx0).l5) hc.2.1) (And.intro (⟨(hx0).o, (hx0).f4⟩) (And.intro (hc.2.2.2.2.2.2.1) (And.intro (inA_of ((hx0).a5) ((hx0).l5) hc.2.2.2.2.2.2.2.1) (And.intro (hc.2.2.2.2.2.2.2.2.1) (And.intro (inA_of ((hx0).a5) ((hx0).l5) hc.2.2.2.2.2.2.2.1) (And.intro (⟨(hx0).o, (hx0).f3⟩) (And.intro (inA_of ((hx0).a4) ((hx0).l4) hc.2.2.2.2.2.2.2.2.2.1) (And.intro (hc.2.2.2.2.2.2.2.2.2.2.1) (And.intro (hc.2.2.2.2.2.2.2.2.2.2.2.1) (And.intro (inA_of ((hx0).a4) ((hx0).l4) hc.2.2.2.2.2.2.2.2.2.1) (And.intro (hc.2.2.2.2.2.2.2.2.2.2.2.2.1) (And.intro (hc.2.2.2.2.2.2.2.2.2.2.2.2.2) (k)))))))))))))))))))))))))
theorem b_X4_growOlder_24 {d : Nat} {S : mSh} {M : mMem} {Q : Option mV → mSh → mMem → Prop} {x0 x1 x2 x3 x4 x5 : Int} {u6 u7 u8 : mV} (hx0 : Stk S x0) (hc : R32 (x4 + x5) ∧ (0 ≤ x4 + x5 ∧ x4 + x5 < 160) ∧ R32 ((M (x0 + 5) (x4 + x5)) * x2) ∧ R32 (((M (x0 + 5) (x4 + x5)) * x2).tdiv 1000) ∧ R32 ((M (x0 + 5) (x4 + x5)) - (((M (x0 + 5) (x4 + x5)) * x2).tdiv 1000)) ∧ R32 (x5 + 1) ∧ R32 (x4 + (if 19 < x5 + 1 then 19 else x5 + 1)) ∧ (0 ≤ x4 + (if 19 < x5 + 1 then 19 else x5 + 1) ∧ x4 + (if 19 < x5 + 1 then 19 else x5 + 1) < 160) ∧ R32 (((up M (x0 + 5) (x4 + x5) 0) (x0 + 5) (x4 + (if 19 < x5 + 1 then 19 else x5 + 1))) + ((M (x0 + 5) (x4 + x5)) - (((M (x0 + 5) (x4 + x5)) * x2).tdiv 1000))) ∧ (0 ≤ x1 ∧ x1 < 8) ∧ R64 ((if 19 < x5 + 1 then 19 else x5 + 1) * ((M (x0 + 5) (x4 + x5)) - (((M (x0 + 5) (x4 + x5)) * x2).tdiv 1000))) ∧ R64 ((M (x0 + 4) x1) + ((if 19 < x5 + 1 then 19 else x5 + 1) * ((M (x0 + 5) (x4 + x5)) - (((M (x0 + 5) (x4 + x5)) * x2).tdiv 1000)))) ∧ R32 (x3 + (((M (x0 + 5) (x4 + x5)) * x2).tdiv 1000)) ∧ R32 (x5 + (-1))) (k : WP PR d 54 19 [vA x0, vI x1, vI x2, vI (x3 + (((M (x0 + 5) (x4 + x5)) * x2).tdiv 1000)), vI x4, vI (x5 + (-1)), vI (((M (x0 + 5) (x4 + x5)) * x2).tdiv 1000), vI ((M (x0 + 5) (x4 + x5)) - (((M (x0 + 5) (x4 + x5)) * x2).tdiv 1000)), vI (if 19 < x5 + 1 then 19 else x5 + 1)] [] S (up (up (up M (x0 + 5) (x4 + x5) 0) (x0 + 5) (x4 + (if 19 < x5 + 1 then 19 else x5 + 1)) (((up M (x0 + 5) (x4 + x5) 0) (x0 + 5) (x4 + (if 19 < x5 + 1 then 19 else x5 + 1))) + ((M (x0 + 5) (x4 + x5)) - (((M (x0 + 5) (x4 + x5)) * x2).tdiv 1000)))) (x0 + 4) x1 ((M (x0 + 4) x1) + ((if 19 < x5 + 1 then 19 else x5 + 1) * ((M (x0 + 5) (x4 + x5)) - (((M (x0 + 5) (x4 + x5)) * x2).tdiv 1000))))) Q) : WP PR d 54 24 [vA x0, vI x1, vI x2, vI x3, vI x4, vI x5, u6, u7, u8] [] S M Q := b_X4_growOlder_24_i (show (up (up M (x0 + 5) (x4 + x5) 0) (x0 + 5) (x4 + (if 19 < x5 + 1 then 19 else x5 + 1)) (((up M (x0 + 5) (x4 + x5) 0) (x0 + 5) (x4 + (if 19 < x5 + 1 then 19 else x5 + 1))) + ((M (x0 + 5) (x4 + x5)) - (((M (x0 + 5) (x4 + x5)) * x2).tdiv 1000)))) (x0 + 4) x1 = M (x0 + 4) x1 from (up_na (by omega)).trans ((up_na (by omega)).trans (rfl))) hx0 hc k
set_option maxRecDepth 100000 in
theorem b_X4_growOlder_121 {d : Nat} {S : mSh} {M : mMem} {Q : Option mV → mSh → mMem → Prop} {x0 x1 x2 x3 x4 x5 : Int} {u6 u7 u8 : mV} (hx0 : Stk S x0) (hc : (0 ≤ x1 ∧ x1 < 8) ∧ R32 ((M (x0 + 3) x1) - x3)) (k : Q (some (vI x3)) S (up M (x0 + 3) x1 ((M (x0 + 3) x1) - x3))) : WP PR d 54 121 [vA x0, vI x1, vI x2, vI x3, vI x4, vI x5, u6, u7, u8] [] S M Q := by
  refine WP.re 9 132 .ireturn (0, 0, 0, 0) _ rfl ?_
  exact And.intro (⟨(hx0).o, (hx0).f2⟩) (And.intro (inA_of ((hx0).a3) ((hx0).l3) hc.1) (And.intro (hc.2) (And.intro (inA_of ((hx0).a3) ((hx0).l3) hc.1) (⟨rfl, rfl, trivial, k⟩))))
/-- SoleraCellar$Stock.copyFrom(LSoleraCellar$Stock;)V -/
abbrev e_X4_copyFrom (d : Nat) (a0 a1 : Int) (S : mSh) (M : mMem) (Q : Option mV → mSh → mMem → Prop) : Prop := WP PR d 55 0 [vA a0, vA a1] [] S M Q
set_option maxRecDepth 100000 in
theorem b_X4_copyFrom_0 {d : Nat} {S : mSh} {M : mMem} {Q : Option mV → mSh → mMem → Prop} {x0 x1 : Int} (hx1 : Stk S x1) (hx0 : Stk S x0) (k : Q (none) S (cpy (cpy (cpy (cpy (cpy (cpy (up (up M x0 6 (M x1 6)) x0 7 ((up M x0 6 (M x1 6)) x1 7)) (x1 + 1) 0 (x0 + 1) 0 8) (x1 + 2) 0 (x0 + 2) 0 8) (x1 + 3) 0 (x0 + 3) 0 8) (x1 + 4) 0 (x0 + 4) 0 8) (x1 + 5) 0 (x0 + 5) 0 160) (x1 + 6) 0 (x0 + 6) 0 4)) : WP PR d 55 0 [vA x0, vA x1] [] S M Q := by
  refine WP.re 56 106 .return_ (0, 0, 0, 0) _ rfl ?_
  exact And.intro ((hx1).o) (And.intro ((hx0).o) (And.intro ((hx1).o) (And.intro ((hx0).o) (And.intro (⟨(hx1).o, (hx1).f0⟩) (And.intro (⟨(hx0).o, (hx0).f0⟩) (And.intro (⟨(hx1).a1, (hx0).a1, cpok ((hx1).l1) ((hx0).l1) (by decide), fun h => absurd h (by decide)⟩) (And.intro (⟨(hx1).o, (hx1).f1⟩) (And.intro (⟨(hx0).o, (hx0).f1⟩) (And.intro (⟨(hx1).a2, (hx0).a2, cpok ((hx1).l2) ((hx0).l2) (by decide), fun h => absurd h (by decide)⟩) (And.intro (⟨(hx1).o, (hx1).f2⟩) (And.intro (⟨(hx0).o, (hx0).f2⟩) (And.intro (⟨(hx1).a3, (hx0).a3, cpok ((hx1).l3) ((hx0).l3) (by decide), fun h => absurd h (by decide)⟩) (And.intro (⟨(hx1).o, (hx1).f3⟩) (And.intro (⟨(hx0).o, (hx0).f3⟩) (And.intro (⟨(hx1).a4, (hx0).a4, cpok ((hx1).l4) ((hx0).l4) (by decide), fun h => absurd h (by decide)⟩) (And.intro (⟨(hx1).o, (hx1).f4⟩) (And.intro (⟨(hx0).o, (hx0).f4⟩) (And.intro (⟨(hx1).a5, (hx0).a5, cpok ((hx1).l5) ((hx0).l5) (by decide), fun h => absurd h (by decide)⟩) (And.intro (⟨(hx1).o, (hx1).f5⟩) (And.intro (⟨(hx0).o, (hx0).f5⟩) (And.intro (⟨(hx1).a6, (hx0).a6, cpok ((hx1).l6) ((hx0).l6) (by decide), fun h => absurd h (by decide)⟩) (⟨rfl, rfl, trivial, k⟩))))))))))))))))))))))
/-- SoleraCellar$Tape.<init>()V -/
abbrev e_X5_init (d : Nat) (a0 : Int) (S : mSh) (M : mMem) (Q : Option mV → mSh → mMem → Prop) : Prop := WP PR d 56 0 [vA a0] [] S M Q
/-- SoleraCellar$Tape.add(I)V -/
abbrev e_X5_add (d : Nat) (a1 : Int) (S : mSh) (M : mMem) (Q : Option mV → mSh → mMem → Prop) : Prop := WP PR d 57 0 [vA 2, vI a1, vU] [] S M Q
set_option maxRecDepth 100000 in
theorem b_X5_add_0 {d : Nat} {S : mSh} {M : mMem} {Q : Option mV → mSh → mMem → Prop} {x1 : Int} (k : WP PR d 57 3 [vA 2, vI x1, vI 24] [] S M Q) : WP PR d 57 0 [vA 2, vI x1, vU] [] S M Q := by
  refine WP.bl 2 3 rfl ?_
  exact k
set_option maxRecDepth 100000 in
theorem b_X5_add_3 {d : Nat} {S : mSh} {M : mMem} {Q : Option mV → mSh → mMem → Prop} {x1 x2 : Int} (kt : x2 < 0 → WP PR d 57 51 [vA 2, vI x1, vI x2] [] S M Q) (kf : 0 ≤ x2 → WP PR d 57 7 [vA 2, vI x1, vI x2] [] S M Q) : WP PR d 57 3 [vA 2, vI x1, vI x2] [] S M Q := by
  refine WP.if0 1 7 4 .lt 47 (0, 0, 0, 0) 51 rfl rfl ?_
  exact ⟨kt, fun hc => kf (Int.not_lt.mp hc)⟩
set_option maxRecDepth 100000 in
theorem b_X5_add_7 {d : Nat} {S : mSh} {M : mMem} {Q : Option mV → mSh → mMem → Prop} {x1 x2 : Int} (L : Lay S) (kt : sL S 3 ≤ M 2 1 → WP PR d 57 51 [vA 2, vI x1, vI x2] [] S M Q) (kf : M 2 1 < sL S 3 → WP PR d 57 19 [vA 2, vI x1, vI x2] [] S M Q) : WP PR d 57 7 [vA 2, vI x1, vI x2] [] S M Q := by
  refine WP.if2 5 19 16 .ge 35 (0, 0, 0, 0) 51 rfl rfl ?_
  exact And.intro (lo2 L) (And.intro (⟨lo2 L, lf2_0 L⟩) (And.intro (lo3 L) (⟨kt, fun hc => kf (Int.not_le.mp hc)⟩)))
set_option maxRecDepth 100000 in
theorem b_X5_add_19 {d : Nat} {S : mSh} {M : mMem} {Q : Option mV → mSh → mMem → Prop} {x1 x2 : Int} (L : Lay S) (hc : (0 ≤ M 2 1 ∧ M 2 1 < 400) ∧ R32 ((M 2 1) + 1) ∧ R32 (x2 + (-8))) (k : WP PR d 57 3 [vA 2, vI x1, vI (x2 + (-8))] [] S (up (up M 3 (M 2 1) (band (bshr x1 x2) 255)) 2 1 ((M 2 1) + 1)) Q) : WP PR d 57 19 [vA 2, vI x1, vI x2] [] S M Q := by
  refine WP.gt 17 48 (-45) (0, 0, 0, 0) _ 3 rfl rfl ?_
  exact And.intro (⟨lo2 L, lf2_0 L⟩) (And.intro (lo2 L) (And.intro (inA_of (lo3 L) (ll3 L) hc.1) (And.intro (lo2 L) (And.intro (hc.2.1) (And.intro (lo2 L) (And.intro (hc.2.2) (k)))))))
set_option maxRecDepth 100000 in
theorem b_X5_add_51 {d : Nat} {S : mSh} {M : mMem} {Q : Option mV → mSh → mMem → Prop} {x1 x2 : Int} (k : Q (none) S M) : WP PR d 57 51 [vA 2, vI x1, vI x2] [] S M Q := by
  refine WP.re 0 51 .return_ (0, 0, 0, 0) _ rfl ?_
  exact ⟨rfl, rfl, trivial, k⟩
/-- SoleraCellar$Text.<init>(II)V -/
abbrev e_X6_init (d : Nat) (a0 a1 a2 : Int) (S : mSh) (M : mMem) (Q : Option mV → mSh → mMem → Prop) : Prop := WP PR d 58 0 [vA a0, vI a1, vI a2] [] S M Q
/-- SoleraCellar$Text.trimmed()LSoleraCellar$Text; -/
abbrev e_X6_trimmed (d : Nat) (a0 : Int) (S : mSh) (M : mMem) (Q : Option mV → mSh → mMem → Prop) : Prop := WP PR d 59 0 [vA a0, vU] [] S M Q
set_option maxRecDepth 100000 in
theorem b_X6_trimmed_0 {d : Nat} {S : mSh} {M : mMem} {Q : Option mV → mSh → mMem → Prop} {x0 : Int} (ho1 : isO (sNew S 6 0 4) x0 6) (ho2 : isO (sNew S 6 0 4) x0 6) (ho3 : isO (sNew S 6 0 4) (sN S + 1) 6) (k : WP PR d 58 0 [vA (sN S + 1), vI ((zr M (sN S + 1)) x0 2), vI ((zr M (sN S + 1)) x0 3)] [] (sNew S 6 0 4) (zr M (sN S + 1)) (fun r S2 M2 => WP PR (d + 1) 59 15 [vA x0, vU] (r.toList ++ [vA (sN S + 1)]) S2 M2 Q)) : WP PR (d + 1) 59 0 [vA x0, vU] [] S M Q := by
  refine WP.ca 6 15 12 (.invokespecial 31) (0, 58, 0, 0) rfl ?_
  exact And.intro (ho1) (And.intro (ho2) (⟨rfl, rfl, rfl, ho3, rfl, k⟩))
set_option maxRecDepth 100000 in
theorem b_X6_trimmed_15 {d : Nat} {S : mSh} {M : mMem} {Q : Option mV → mSh → mMem → Prop} {x0 s0 : Int} {u1 : mV} (ho1 : isO S x0 6) (ho2 : sF S x0 0 = 1) (ho3 : isO S s0 6) (ho4 : sF S s0 0 = 1) (ho5 : isO S s0 6) (ho6 : sF S s0 0 = 1) (ho7 : isO S (s0 + 1) 20) (ho8 : isO S (x0 + 1) 20) (ho9 : isO S (s0 + 1) 20) (ho10 : isO S x0 6) (ho11 : sF S x0 1 = 1) (ho12 : isO S s0 6) (ho13 : sF S s0 1 = 1) (ho14 : isO S s0 6) (ho15 : sF S s0 1 = 1) (ho16 : isO S (s0 + 2) 20) (ho17 : isO S (x0 + 2) 20) (ho18 : isO S (s0 + 2) 20) (ho19 : isO S x0 6) (ho20 : isO S s0 6) (ho21 : isO S x0 6) (ho22 : isO S s0 6) (hc : ((0 : Int) ≤ 0 ∧ (0 : Int) ≤ 0 ∧ (0 : Int) ≤ sL S (s0 + 1) ∧ (0 : Int) + sL S (s0 + 1) ≤ sL S (x0 + 1) ∧ (0 : Int) + sL S (s0 + 1) ≤ sL S (s0 + 1)) ∧ ((0 : Int) ≤ 0 ∧ (0 : Int) ≤ 0 ∧ (0 : Int) ≤ sL S (s0 + 2) ∧ (0 : Int) + sL S (s0 + 2) ≤ sL S (x0 + 2) ∧ (0 : Int) + sL S (s0 + 2) ≤ sL S (s0 + 2))) (k : Q (some (vA s0)) S (up (up (cpy (cpy M (x0 + 1) 0 (s0 + 1) 0 (sL S (s0 + 1))) (x0 + 2) 0 (s0 + 2) 0 (sL S (s0 + 2))) s0 2 ((cpy (cpy M (x0 + 1) 0 (s0 + 1) 0 (sL S (s0 + 1))) (x0 + 2) 0 (s0 + 2) 0 (sL S (s0 + 2))) x0 2)) s0 3 ((up (cpy (cpy M (x0 + 1) 0 (s0 + 1) 0 (sL S (s0 + 1))) (x0 + 2) 0 (s0 + 2) 0 (sL S (s0 + 2))) s0 2 ((cpy (cpy M (x0 + 1) 0 (s0 + 1) 0 (sL S (s0 + 1))) (x0 + 2) 0 (s0 + 2) 0 (sL S (s0 + 2))) x0 2)) x0 3))) : WP PR d 59 15 [vA x0, u1] [vA s0] S M Q := by
  refine WP.re 30 69 .areturn (0, 0, 0, 0) _ rfl ?_
  exact And.intro (⟨ho1, ho2⟩) (And.intro (⟨ho3, ho4⟩) (And.intro (⟨ho5, ho6⟩) (And.intro (ho7) (And.intro (⟨ho8, ho9, cpok (rfl) (rfl) hc.1, fun h => absurd h (by decide)⟩) (And.intro (⟨ho10, ho11⟩) (And.intro (⟨ho12, ho13⟩) (And.intro (⟨ho14, ho15⟩) (And.intro (ho16) (And.intro (⟨ho17, ho18, cpok (rfl) (rfl) hc.2, fun h => absurd h (by decide)⟩) (And.intro (ho19) (And.intro (ho20) (And.intro (ho21) (And.intro (ho22) (⟨rfl, rfl, trivial, k⟩))))))))))))))
/-- SoleraCellar$Text.clear()V -/
abbrev e_X6_clear (d : Nat) (a0 : Int) (S : mSh) (M : mMem) (Q : Option mV → mSh → mMem → Prop) : Prop := WP PR d 60 0 [vA a0] [] S M Q
set_option maxRecDepth 100000 in
theorem b_X6_clear_0 {d : Nat} {S : mSh} {M : mMem} {Q : Option mV → mSh → mMem → Prop} {x0 : Int} (hx0 : Txt S x0) (k : Q (none) S (up (up M x0 2 0) x0 3 0)) : WP PR d 60 0 [vA x0] [] S M Q := by
  refine WP.re 6 10 .return_ (0, 0, 0, 0) _ rfl ?_
  exact And.intro ((hx0).o) (And.intro ((hx0).o) (⟨rfl, rfl, trivial, k⟩))
/-- SoleraCellar$Text.open(I)V -/
abbrev e_X6_open (d : Nat) (a0 a1 : Int) (S : mSh) (M : mMem) (Q : Option mV → mSh → mMem → Prop) : Prop := WP PR d 61 0 [vA a0, vI a1, vU] [] S M Q
set_option maxRecDepth 100000 in
theorem b_X6_open_0 {d : Nat} {S : mSh} {M : mMem} {Q : Option mV → mSh → mMem → Prop} {x0 x1 : Int} (hx0 : Txt S x0) (hc : R32 ((M x0 2) * 7) ∧ R32 (((M x0 2) * 7) + 7)) (kt : ((M x0 2) * 7) + 7 ≤ sL S (x0 + 1) → WP PR d 61 21 [vA x0, vI x1, vI ((M x0 2) * 7)] [] S M Q) (kf : sL S (x0 + 1) < ((M x0 2) * 7) + 7 → WP PR d 61 20 [vA x0, vI x1, vI ((M x0 2) * 7)] [] S M Q) : WP PR d 61 0 [vA x0, vI x1, vU] [] S M Q := by
  refine WP.if2 11 20 17 .le 4 (0, 0, 0, 0) 21 rfl rfl ?_
  exact And.intro ((hx0).o) (And.intro (hc.1) (And.intro (hc.2) (And.intro (⟨(hx0).o, (hx0).f0⟩) (And.intro ((hx0).a1) (⟨kt, fun hc => kf (Int.not_le.mp hc)⟩)))))
set_option maxRecDepth 100000 in
theorem b_X6_open_20 {d : Nat} {S : mSh} {M : mMem} {Q : Option mV → mSh → mMem → Prop} {x0 x1 x2 : Int} (k : Q (none) S M) : WP PR d 61 20 [vA x0, vI x1, vI x2] [] S M Q := by
  refine WP.re 0 20 .return_ (0, 0, 0, 0) _ rfl ?_
  exact ⟨rfl, rfl, trivial, k⟩
set_option maxRecDepth 100000 in
theorem b_X6_open_21 {d : Nat} {S : mSh} {M : mMem} {Q : Option mV → mSh → mMem → Prop} {x0 x1 x2 : Int} (hx0 : Txt S x0) (hc : R32 ((M x0 2) + 1) ∧ (0 ≤ x2 ∧ x2 < sL S (x0 + 1)) ∧ R32 (x2 + 1) ∧ (0 ≤ x2 + 1 ∧ x2 + 1 < sL S (x0 + 1))) (k : WP PR d 63 0 [vA x0, vI (-1), vU, vU] [] S (up (up (up M x0 2 ((M x0 2) + 1)) (x0 + 1) x2 x1) (x0 + 1) (x2 + 1) 1) (fun r S2 M2 => WP PR (d + 1) 61 52 [vA x0, vI x1, vI x2] (r.toList ++ []) S2 M2 Q)) : WP PR (d + 1) 61 21 [vA x0, vI x1, vI x2] [] S M Q := by
  refine WP.ca 20 52 49 (.invokevirtual 40) (0, 63, 0, 0) rfl ?_
  exact And.intro ((hx0).o) (And.intro (hc.1) (And.intro ((hx0).o) (And.intro (⟨(hx0).o, (hx0).f0⟩) (And.intro (inA_of ((hx0).a1) (rfl) hc.2.1) (And.intro (⟨(hx0).o, (hx0).f0⟩) (And.intro (hc.2.2.1) (And.intro (inA_of ((hx0).a1) (rfl) hc.2.2.2) (⟨rfl, rfl, rfl, (hx0).o, rfl, k⟩))))))))
set_option maxRecDepth 100000 in
theorem b_X6_open_52 {d : Nat} {S : mSh} {M : mMem} {Q : Option mV → mSh → mMem → Prop} {x0 x1 x2 : Int} (k : Q (none) S M) : WP PR d 61 52 [vA x0, vI x1, vI x2] [] S M Q := by
  refine WP.re 0 52 .return_ (0, 0, 0, 0) _ rfl ?_
  exact ⟨rfl, rfl, trivial, k⟩
/-- SoleraCellar$Text.repeat(I)V -/
abbrev e_X6_repeat (d : Nat) (a0 a1 : Int) (S : mSh) (M : mMem) (Q : Option mV → mSh → mMem → Prop) : Prop := WP PR d 62 0 [vA a0, vI a1, vU] [] S M Q
set_option maxRecDepth 100000 in
theorem b_X6_repeat_0 {d : Nat} {S : mSh} {M : mMem} {Q : Option mV → mSh → mMem → Prop} {x0 x1 : Int} (hx0 : Txt S x0) (hc : R32 ((M x0 2) * 7) ∧ R32 (((M x0 2) * 7) - 7)) (kt : ((M x0 2) * 7) - 7 < 0 → WP PR d 62 24 [vA x0, vI x1, vI (((M x0 2) * 7) - 7)] [] S M Q) (kf : 0 ≤ ((M x0 2) * 7) - 7 → WP PR d 62 15 [vA x0, vI x1, vI (((M x0 2) * 7) - 7)] [] S M Q) : WP PR d 62 0 [vA x0, vI x1, vU] [] S M Q := by
  refine WP.if0 8 15 12 .lt 12 (0, 0, 0, 0) 24 rfl rfl ?_
  exact And.intro ((hx0).o) (And.intro (hc.1) (And.intro (hc.2) (⟨kt, fun hc => kf (Int.not_lt.mp hc)⟩)))
set_option maxRecDepth 100000 in
theorem b_X6_repeat_15 {d : Nat} {S : mSh} {M : mMem} {Q : Option mV → mSh → mMem → Prop} {x0 x1 x2 : Int} (hx0 : Txt S x0) (hc : R32 (x2 + 1) ∧ (0 ≤ x2 + 1 ∧ x2 + 1 < sL S (x0 + 1))) (k : Q (none) S (up M (x0 + 1) (x2 + 1) x1)) : WP PR d 62 15 [vA x0, vI x1, vI x2] [] S M Q := by
  refine WP.re 7 24 .return_ (0, 0, 0, 0) _ rfl ?_
  exact And.intro (⟨(hx0).o, (hx0).f0⟩) (And.intro (hc.1) (And.intro (inA_of ((hx0).a1) (rfl) hc.2) (⟨rfl, rfl, trivial, k⟩)))
set_option maxRecDepth 100000 in
theorem b_X6_repeat_24 {d : Nat} {S : mSh} {M : mMem} {Q : Option mV → mSh → mMem → Prop} {x0 x1 x2 : Int} (k : Q (none) S M) : WP PR d 62 24 [vA x0, vI x1, vI x2] [] S M Q := by
  refine WP.re 0 24 .return_ (0, 0, 0, 0) _ rfl ?_
  exact ⟨rfl, rfl, trivial, k⟩
/-- SoleraCellar$Text.endSection(I)V -/
abbrev e_X6_endSection (d : Nat) (a0 a1 : Int) (S : mSh) (M : mMem) (Q : Option mV → mSh → mMem → Prop) : Prop := WP PR d 63 0 [vA a0, vI a1, vU, vU] [] S M Q
set_option maxRecDepth 100000 in
theorem b_X6_endSection_0 {d : Nat} {S : mSh} {M : mMem} {Q : Option mV → mSh → mMem → Prop} {x0 x1 : Int} (hx0 : Txt S x0) (hc : R32 ((M x0 2) * 7) ∧ R32 (((M x0 2) * 7) - 7)) (k : WP PR d 63 17 [vA x0, vI x1, vI (((M x0 2) * 7) - 7), vI (if (-1) < x1 then x1 else (-1))] [] S M Q) : WP PR d 63 0 [vA x0, vI x1, vU, vU] [] S M Q := by
  refine WP.bl 11 17 rfl ?_
  exact And.intro ((hx0).o) (And.intro (hc.1) (And.intro (hc.2) (k)))
set_option maxRecDepth 100000 in
theorem b_X6_endSection_17 {d : Nat} {S : mSh} {M : mMem} {Q : Option mV → mSh → mMem → Prop} {x0 x1 x2 x3 : Int} (kt : 3 < x3 → WP PR d 63 48 [vA x0, vI x1, vI x2, vI x3] [] S M Q) (kf : x3 ≤ 3 → WP PR d 63 22 [vA x0, vI x1, vI x2, vI x3] [] S M Q) : WP PR d 63 17 [vA x0, vI x1, vI x2, vI x3] [] S M Q := by
  refine WP.if2 2 22 19 .gt 29 (0, 0, 0, 0) 48 rfl rfl ?_
  exact ⟨kt, fun hc => kf (Int.not_lt.mp hc)⟩
set_option maxRecDepth 100000 in
theorem b_X6_endSection_22 {d : Nat} {S : mSh} {M : mMem} {Q : Option mV → mSh → mMem → Prop} {x0 x1 x2 x3 : Int} (kt : x2 < 0 → WP PR d 63 48 [vA x0, vI x1, vI x2, vI x3] [] S M Q) (kf : 0 ≤ x2 → WP PR d 63 26 [vA x0, vI x1, vI x2, vI x3] [] S M Q) : WP PR d 63 22 [vA x0, vI x1, vI x2, vI x3] [] S M Q := by
  refine WP.if0 1 26 23 .lt 25 (0, 0, 0, 0) 48 rfl rfl ?_
  exact ⟨kt, fun hc => kf (Int.not_lt.mp hc)⟩
set_option maxRecDepth 100000 in
theorem b_X6_endSection_26 {d : Nat} {S : mSh} {M : mMem} {Q : Option mV → mSh → mMem → Prop} {x0 x1 x2 x3 : Int} (hx0 : Txt S x0) (hc : R32 (x2 + 2) ∧ R32 ((x2 + 2) + x3) ∧ R32 (((x2 + 2) + x3) + 1) ∧ (0 ≤ ((x2 + 2) + x3) + 1 ∧ ((x2 + 2) + x3) + 1 < sL S (x0 + 1)) ∧ R32 (x3 + 1)) (k : WP PR d 63 17 [vA x0, vI x1, vI x2, vI (x3 + 1)] [] S (up M (x0 + 1) (((x2 + 2) + x3) + 1) (M x0 3)) Q) : WP PR d 63 26 [vA x0, vI x1, vI x2, vI x3] [] S M Q := by
  refine WP.gt 13 45 (-28) (0, 0, 0, 0) _ 17 rfl rfl ?_
  exact And.intro (⟨(hx0).o, (hx0).f0⟩) (And.intro (hc.1) (And.intro (hc.2.1) (And.intro (hc.2.2.1) (And.intro ((hx0).o) (And.intro (inA_of ((hx0).a1) (rfl) hc.2.2.2.1) (And.intro (hc.2.2.2.2) (k)))))))
set_option maxRecDepth 100000 in
theorem b_X6_endSection_48 {d : Nat} {S : mSh} {M : mMem} {Q : Option mV → mSh → mMem → Prop} {x0 x1 x2 x3 : Int} (k : Q (none) S M) : WP PR d 63 48 [vA x0, vI x1, vI x2, vI x3] [] S M Q := by
  refine WP.re 0 48 .return_ (0, 0, 0, 0) _ rfl ?_
  exact ⟨rfl, rfl, trivial, k⟩
/-- SoleraCellar$Text.write(II)V -/
abbrev e_X6_write (d : Nat) (a0 a1 a2 : Int) (S : mSh) (M : mMem) (Q : Option mV → mSh → mMem → Prop) : Prop := WP PR d 64 0 [vA a0, vI a1, vI a2] [] S M Q
set_option maxRecDepth 100000 in
theorem b_X6_write_0 {d : Nat} {S : mSh} {M : mMem} {Q : Option mV → mSh → mMem → Prop} {x0 x1 x2 : Int} (hx0 : Txt S x0) (kt : sL S (x0 + 2) ≤ M x0 3 → WP PR d 64 38 [vA x0, vI x1, vI x2] [] S M Q) (kf : M x0 3 < sL S (x0 + 2) → WP PR d 64 12 [vA x0, vI x1, vI x2] [] S M Q) : WP PR d 64 0 [vA x0, vI x1, vI x2] [] S M Q := by
  refine WP.if2 5 12 9 .ge 29 (0, 0, 0, 0) 38 rfl rfl ?_
  exact And.intro ((hx0).o) (And.intro (⟨(hx0).o, (hx0).f1⟩) (And.intro ((hx0).a2) (⟨kt, fun hc => kf (Int.not_le.mp hc)⟩)))
set_option maxRecDepth 100000 in
theorem b_X6_write_12_i {d : Nat} {S : mSh} {M : mMem} {Q : Option mV → mSh → mMem → Prop} {x0 x1 x2 : Int} {v1 : Int} (ev1 : (up M (x0 + 2) (M x0 3) ((x1 * 1024) + x2)) x0 3 = v1) (hx0 : Txt S x0) (hc : R32 (x1 * 1024) ∧ R32 ((x1 * 1024) + x2) ∧ (0 ≤ M x0 3 ∧ M x0 3 < sL S (x0 + 2)) ∧ R32 (v1 + 1)) (k : Q (none) S (up (up M (x0 + 2) (M x0 3) ((x1 * 1024) + x2)) x0 3 (v1 + 1))) : WP PR d 64 12 [vA x0, vI x1, vI x2] [] S M Q := by
  subst ev1
  refine WP.re 16 38 .return_ (0, 0, 0, 0) _ rfl ?_
  exact And.intro (⟨(hx0).o, (hx0).f1⟩) (And.intro ((hx0).o) (And.intro (hc.1) (And.intro (hc.2.1) (And.intro (inA_of ((hx0).a2) (rfl) hc.2.2.1) (And.intro ((hx0).o) (And.intro (hc.2.2.2) (And.intro ((hx0).o) (⟨rfl, rfl, trivial, k⟩))))))))
theorem b_X6_write_12 {d : Nat} {S : mSh} {M : mMem} {Q : Option mV → mSh → mMem → Prop} {x0 x1 x2 : Int} (hx0 : Txt S x0) (hc : R32 (x1 * 1024) ∧ R32 ((x1 * 1024) + x2) ∧ (0 ≤ M x0 3 ∧ M x0 3 < sL S (x0 + 2)) ∧ R32 ((M x0 3) + 1)) (k : Q (none) S (up (up M (x0 + 2) (M x0 3) ((x1 * 1024) + x2)) x0 3 ((M x0 3) + 1))) : WP PR d 64 12 [vA x0, vI x1, vI x2] [] S M Q := b_X6_write_12_i (show (up M (x0 + 2) (M x0 3) ((x1 * 1024) + x2)) x0 3 = M x0 3 from (up_na (by omega)).trans (rfl)) hx0 hc k
set_option maxRecDepth 100000 in
theorem b_X6_write_38 {d : Nat} {S : mSh} {M : mMem} {Q : Option mV → mSh → mMem → Prop} {x0 x1 x2 : Int} (k : Q (none) S M) : WP PR d 64 38 [vA x0, vI x1, vI x2] [] S M Q := by
  refine WP.re 0 38 .return_ (0, 0, 0, 0) _ rfl ?_
  exact ⟨rfl, rfl, trivial, k⟩
/-- SoleraCellar$Text.aimHere(I)V -/
abbrev e_X6_aimHere (d : Nat) (a0 a1 : Int) (S : mSh) (M : mMem) (Q : Option mV → mSh → mMem → Prop) : Prop := WP PR d 65 0 [vA a0, vI a1] [] S M Q
set_option maxRecDepth 100000 in
theorem b_X6_aimHere_0 {d : Nat} {S : mSh} {M : mMem} {Q : Option mV → mSh → mMem → Prop} {x0 x1 : Int} (kt : x1 < 0 → WP PR d 65 37 [vA x0, vI x1] [] S M Q) (kf : 0 ≤ x1 → WP PR d 65 4 [vA x0, vI x1] [] S M Q) : WP PR d 65 0 [vA x0, vI x1] [] S M Q := by
  refine WP.if0 1 4 1 .lt 36 (0, 0, 0, 0) 37 rfl rfl ?_
  exact ⟨kt, fun hc => kf (Int.not_lt.mp hc)⟩
set_option maxRecDepth 100000 in
theorem b_X6_aimHere_4 {d : Nat} {S : mSh} {M : mMem} {Q : Option mV → mSh → mMem → Prop} {x0 x1 : Int} (hx0 : Txt S x0) (kt : M x0 3 ≤ x1 → WP PR d 65 37 [vA x0, vI x1] [] S M Q) (kf : x1 < M x0 3 → WP PR d 65 12 [vA x0, vI x1] [] S M Q) : WP PR d 65 4 [vA x0, vI x1] [] S M Q := by
  refine WP.if2 3 12 9 .ge 28 (0, 0, 0, 0) 37 rfl rfl ?_
  exact And.intro ((hx0).o) (⟨kt, fun hc => kf (Int.not_le.mp hc)⟩)
set_option maxRecDepth 100000 in
theorem b_X6_aimHere_12 {d : Nat} {S : mSh} {M : mMem} {Q : Option mV → mSh → mMem → Prop} {x0 x1 : Int} (hx0 : Txt S x0) (hc : (0 ≤ x1 ∧ x1 < sL S (x0 + 2)) ∧ R32 ((M (x0 + 2) x1).tdiv 1024) ∧ R32 (((M (x0 + 2) x1).tdiv 1024) * 1024) ∧ R32 ((((M (x0 + 2) x1).tdiv 1024) * 1024) + (M x0 3))) (k : Q (none) S (up M (x0 + 2) x1 ((((M (x0 + 2) x1).tdiv 1024) * 1024) + (M x0 3)))) : WP PR d 65 12 [vA x0, vI x1] [] S M Q := by
  refine WP.re 15 37 .return_ (0, 0, 0, 0) _ rfl ?_
  exact And.intro (⟨(hx0).o, (hx0).f1⟩) (And.intro (⟨(hx0).o, (hx0).f1⟩) (And.intro (inA_of ((hx0).a2) (rfl) hc.1) (And.intro (⟨by decide, hc.2.1⟩) (And.intro (hc.2.2.1) (And.intro ((hx0).o) (And.intro (hc.2.2.2) (And.intro (inA_of ((hx0).a2) (rfl) hc.1) (⟨rfl, rfl, trivial, k⟩))))))))
set_option maxRecDepth 100000 in
theorem b_X6_aimHere_37 {d : Nat} {S : mSh} {M : mMem} {Q : Option mV → mSh → mMem → Prop} {x0 x1 : Int} (k : Q (none) S M) : WP PR d 65 37 [vA x0, vI x1] [] S M Q := by
  refine WP.re 0 37 .return_ (0, 0, 0, 0) _ rfl ?_
  exact ⟨rfl, rfl, trivial, k⟩
/-- SoleraCellar$Text.kindOf(I)I -/
abbrev e_X6_kindOf (d : Nat) (a0 a1 : Int) (S : mSh) (M : mMem) (Q : Option mV → mSh → mMem → Prop) : Prop := WP PR d 66 0 [vA a0, vI a1] [] S M Q
set_option maxRecDepth 100000 in
theorem b_X6_kindOf_0 {d : Nat} {S : mSh} {M : mMem} {Q : Option mV → mSh → mMem → Prop} {x0 x1 : Int} (hx0 : Txt S x0) (hc : R32 (x1 * 7) ∧ (0 ≤ x1 * 7 ∧ x1 * 7 < sL S (x0 + 1))) (k : Q (some (vI (M (x0 + 1) (x1 * 7)))) S M) : WP PR d 66 0 [vA x0, vI x1] [] S M Q := by
  refine WP.re 6 9 .ireturn (0, 0, 0, 0) _ rfl ?_
  exact And.intro (⟨(hx0).o, (hx0).f0⟩) (And.intro (hc.1) (And.intro (inA_of ((hx0).a1) (rfl) hc.2) (⟨rfl, rfl, trivial, k⟩)))
/-- SoleraCellar$Text.timesOf(I)I -/
abbrev e_X6_timesOf (d : Nat) (a0 a1 : Int) (S : mSh) (M : mMem) (Q : Option mV → mSh → mMem → Prop) : Prop := WP PR d 67 0 [vA a0, vI a1] [] S M Q
set_option maxRecDepth 100000 in
theorem b_X6_timesOf_0 {d : Nat} {S : mSh} {M : mMem} {Q : Option mV → mSh → mMem → Prop} {x0 x1 : Int} (hx0 : Txt S x0) (hc : R32 (x1 * 7) ∧ R32 ((x1 * 7) + 1) ∧ (0 ≤ (x1 * 7) + 1 ∧ (x1 * 7) + 1 < sL S (x0 + 1))) (k : Q (some (vI (M (x0 + 1) ((x1 * 7) + 1)))) S M) : WP PR d 67 0 [vA x0, vI x1] [] S M Q := by
  refine WP.re 8 11 .ireturn (0, 0, 0, 0) _ rfl ?_
  exact And.intro (⟨(hx0).o, (hx0).f0⟩) (And.intro (hc.1) (And.intro (hc.2.1) (And.intro (inA_of ((hx0).a1) (rfl) hc.2.2) (⟨rfl, rfl, trivial, k⟩))))
/-- SoleraCellar$Text.startOf(II)I -/
abbrev e_X6_startOf (d : Nat) (a0 a1 a2 : Int) (S : mSh) (M : mMem) (Q : Option mV → mSh → mMem → Prop) : Prop := WP PR d 68 0 [vA a0, vI a1, vI a2] [] S M Q
set_option maxRecDepth 100000 in
theorem b_X6_startOf_0 {d : Nat} {S : mSh} {M : mMem} {Q : Option mV → mSh → mMem → Prop} {x0 x1 x2 : Int} (hx0 : Txt S x0) (hc : R32 (x1 * 7) ∧ R32 ((x1 * 7) + 2) ∧ R32 (((x1 * 7) + 2) + x2) ∧ (0 ≤ ((x1 * 7) + 2) + x2 ∧ ((x1 * 7) + 2) + x2 < sL S (x0 + 1))) (k : Q (some (vI (M (x0 + 1) (((x1 * 7) + 2) + x2)))) S M) : WP PR d 68 0 [vA x0, vI x1, vI x2] [] S M Q := by
  refine WP.re 10 13 .ireturn (0, 0, 0, 0) _ rfl ?_
  exact And.intro (⟨(hx0).o, (hx0).f0⟩) (And.intro (hc.1) (And.intro (hc.2.1) (And.intro (hc.2.2.1) (And.intro (inA_of ((hx0).a1) (rfl) hc.2.2.2) (⟨rfl, rfl, trivial, k⟩)))))
/-- SoleraCellar$Worker.<init>(LSoleraCellar$Stock;LSoleraCellar$Text;)V -/
abbrev e_X7_init (d : Nat) (a0 a1 a2 : Int) (S : mSh) (M : mMem) (Q : Option mV → mSh → mMem → Prop) : Prop := WP PR d 69 0 [vA a0, vA a1, vA a2] [] S M Q
/-- SoleraCellar$Worker.begin(LSoleraCellar$Stock;LSoleraCellar$Text;)V -/
abbrev e_X7_begin (d : Nat) (a1 a2 : Int) (S : mSh) (M : mMem) (Q : Option mV → mSh → mMem → Prop) : Prop := WP PR d 70 0 [vA 191, vA a1, vA a2] [] S M Q
set_option maxRecDepth 100000 in
theorem b_X7_begin_0 {d : Nat} {S : mSh} {M : mMem} {Q : Option mV → mSh → mMem → Prop} {x1 x2 : Int} (L : Lay S) (k : WP PR d 1 0 [vA 196] [] S (up (up (up M 191 2 x1) 191 3 x2) 196 2 x1) (fun r S2 M2 => WP PR (d + 1) 70 25 [vA 191, vA x1, vA x2] (r.toList ++ []) S2 M2 Q)) : WP PR (d + 1) 70 0 [vA 191, vA x1, vA x2] [] S M Q := by
  refine WP.ca 12 25 22 (.invokevirtual 33) (0, 1, 0, 0) rfl ?_
  exact And.intro (lo191 L) (And.intro (lo191 L) (And.intro (⟨lo191 L, lf191_0 L⟩) (And.intro (lo196 L) (And.intro (⟨lo191 L, lf191_0 L⟩) (⟨rfl, rfl, rfl, lo196 L, rfl, k⟩)))))
set_option maxRecDepth 100000 in
theorem b_X7_begin_25 {d : Nat} {S : mSh} {M : mMem} {Q : Option mV → mSh → mMem → Prop} {x1 x2 : Int} (L : Lay S) (k : Q (none) S (up (up (up M 191 4 0) 191 5 19000) 191 6 0)) : WP PR d 70 25 [vA 191, vA x1, vA x2] [] S M Q := by
  refine WP.re 9 42 .return_ (0, 0, 0, 0) _ rfl ?_
  exact And.intro (lo191 L) (And.intro (lo191 L) (And.intro (⟨lo191 L, Or.inl rfl⟩) (⟨rfl, rfl, trivial, k⟩)))
/-- SoleraCellar$Worker.tells(II)I -/
abbrev e_X7_tells (d : Nat) (a1 a2 : Int) (S : mSh) (M : mMem) (Q : Option mV → mSh → mMem → Prop) : Prop := WP PR d 71 0 [vA 191, vI a1, vI a2, vU, vU, vU] [] S M Q
set_option maxRecDepth 100000 in
theorem b_X7_tells_0_i {d : Nat} {S : mSh} {M : mMem} {Q : Option mV → mSh → mMem → Prop} {x1 x2 : Int} {q1 : Int} (eq1 : M 191 3 = q1) {v1 : Int} (ev1 : (up M 196 3 x2) q1 2 = v1) (L : Lay S) (hq1 : Txt S q1) (hc : R32 (v1 - 1)) (k : WP PR d 71 18 [vA 191, vI x1, vI x2, vI (v1 - 1), vU, vU] [] S (up M 196 3 x2) Q) : WP PR d 71 0 [vA 191, vI x1, vI x2, vU, vU, vU] [] S M Q := by
  subst eq1
  subst ev1
  refine WP.bl 10 18 rfl ?_
  exact And.intro (⟨lo191 L, lf191_0 L⟩) (And.intro (lo196 L) (And.intro (lo191 L) (And.intro ((hq1).o) (And.intro (hc) (k)))))
theorem b_X7_tells_0 {d : Nat} {S : mSh} {M : mMem} {Q : Option mV → mSh → mMem → Prop} {x1 x2 : Int} {q1 : Int} (eq1 : M 191 3 = q1) (L : Lay S) (hq1 : Txt S q1) (hc : R32 ((M q1 2) - 1)) (k : WP PR d 71 18 [vA 191, vI x1, vI x2, vI ((M q1 2) - 1), vU, vU] [] S (up M 196 3 x2) Q) : WP PR d 71 0 [vA 191, vI x1, vI x2, vU, vU, vU] [] S M Q := b_X7_tells_0_i eq1 (show (up M 196 3 x2) q1 2 = M q1 2 from (up_na (isO_ne ((hq1).o) (lo196 L) (by decide))).trans (rfl)) L hq1 hc k
set_option maxRecDepth 100000 in
theorem b_X7_tells_18 {d : Nat} {S : mSh} {M : mMem} {Q : Option mV → mSh → mMem → Prop} {x1 x2 x3 : Int} {u4 u5 : mV} (kt : x3 < 0 → WP PR d 71 115 [vA 191, vI x1, vI x2, vI x3, u4, u5] [] S M Q) (kf : 0 ≤ x3 → WP PR d 71 22 [vA 191, vI x1, vI x2, vI x3, u4, u5] [] S M Q) : WP PR d 71 18 [vA 191, vI x1, vI x2, vI x3, u4, u5] [] S M Q := by
  refine WP.if0 1 22 19 .lt 96 (0, 0, 0, 0) 115 rfl rfl ?_
  exact ⟨kt, fun hc => kf (Int.not_lt.mp hc)⟩
set_option maxRecDepth 100000 in
theorem b_X7_tells_22 {d : Nat} {S : mSh} {M : mMem} {Q : Option mV → mSh → mMem → Prop} {x1 x2 x3 : Int} {u4 u5 : mV} {q1 : Int} (eq1 : M 191 3 = q1) (L : Lay S) (hq1 : Txt S q1) (k : WP PR d 66 0 [vA q1, vI x3] [] S M (fun r S2 M2 => WP PR (d + 1) 71 30 [vA 191, vI x1, vI x2, vI x3, u4, u5] (r.toList ++ []) S2 M2 Q)) : WP PR (d + 1) 71 22 [vA 191, vI x1, vI x2, vI x3, u4, u5] [] S M Q := by
  subst eq1
  refine WP.ca 3 30 27 (.invokevirtual 55) (0, 66, 0, 0) rfl ?_
  exact And.intro (lo191 L) (⟨rfl, rfl, rfl, (hq1).o, rfl, k⟩)
set_option maxRecDepth 100000 in
theorem b_X7_tells_30 {d : Nat} {S : mSh} {M : mMem} {Q : Option mV → mSh → mMem → Prop} {x1 x2 x3 s0 : Int} {u4 u5 : mV} (kt : ¬ s0 = x1 → WP PR d 71 109 [vA 191, vI x1, vI x2, vI x3, u4, u5] [] S M Q) (kf : s0 = x1 → WP PR d 71 34 [vA 191, vI x1, vI x2, vI x3, u4, u5] [] S M Q) : WP PR d 71 30 [vA 191, vI x1, vI x2, vI x3, u4, u5] [vI s0] S M Q := by
  refine WP.if2 1 34 31 .ne 78 (0, 0, 0, 0) 109 rfl rfl ?_
  exact ⟨kt, fun hc => kf (Decidable.not_not.mp hc)⟩
set_option maxRecDepth 100000 in
theorem b_X7_tells_34 {d : Nat} {S : mSh} {M : mMem} {Q : Option mV → mSh → mMem → Prop} {x1 x2 x3 : Int} {u4 u5 : mV} {q1 : Int} (eq1 : M 191 3 = q1) (L : Lay S) (k : WP PR d 2 0 [vA 196, vA q1, vI x3, vI 3, vU, vU, vU, vU, vU, vU] [] S M (fun r S2 M2 => WP PR (d + 1) 71 47 [vA 191, vI x1, vI x2, vI x3, u4, u5] (r.toList ++ []) S2 M2 Q)) : WP PR (d + 1) 71 34 [vA 191, vI x1, vI x2, vI x3, u4, u5] [] S M Q := by
  subst eq1
  refine WP.ca 6 47 44 (.invokevirtual 59) (0, 2, 0, 0) rfl ?_
  exact And.intro (⟨lo191 L, lf191_0 L⟩) (And.intro (lo191 L) (⟨rfl, rfl, rfl, lo196 L, rfl, k⟩))
set_option maxRecDepth 100000 in
theorem b_X7_tells_47 {d : Nat} {S : mSh} {M : mMem} {Q : Option mV → mSh → mMem → Prop} {x1 x2 x3 s0 : Int} {u4 u5 : mV} (kt : ¬ s0 = 1 → WP PR d 71 109 [vA 191, vI x1, vI x2, vI x3, u4, u5] [] S M Q) (kf : s0 = 1 → WP PR d 71 51 [vA 191, vI x1, vI x2, vI x3, u4, u5] [] S M Q) : WP PR d 71 47 [vA 191, vI x1, vI x2, vI x3, u4, u5] [vI s0] S M Q := by
  refine WP.if2 1 51 48 .ne 61 (0, 0, 0, 0) 109 rfl rfl ?_
  exact ⟨kt, fun hc => kf (Decidable.not_not.mp hc)⟩
set_option maxRecDepth 100000 in
theorem b_X7_tells_51 {d : Nat} {S : mSh} {M : mMem} {Q : Option mV → mSh → mMem → Prop} {x1 x2 x3 : Int} {u4 u5 : mV} {q1 : Int} (eq1 : M 191 3 = q1) (L : Lay S) (k : WP PR d 2 0 [vA 196, vA q1, vI x3, vI 0, vU, vU, vU, vU, vU, vU] [] S M (fun r S2 M2 => WP PR (d + 1) 71 64 [vA 191, vI x1, vI x2, vI x3, u4, u5] (r.toList ++ []) S2 M2 Q)) : WP PR (d + 1) 71 51 [vA 191, vI x1, vI x2, vI x3, u4, u5] [] S M Q := by
  subst eq1
  refine WP.ca 6 64 61 (.invokevirtual 59) (0, 2, 0, 0) rfl ?_
  exact And.intro (⟨lo191 L, lf191_0 L⟩) (And.intro (lo191 L) (⟨rfl, rfl, rfl, lo196 L, rfl, k⟩))
set_option maxRecDepth 100000 in
theorem b_X7_tells_64 {d : Nat} {S : mSh} {M : mMem} {Q : Option mV → mSh → mMem → Prop} {x1 x2 x3 s0 : Int} {u4 u5 : mV} (kt : s0 = (-2000000000) → WP PR d 71 109 [vA 191, vI x1, vI x2, vI x3, vI s0, u5] [] S M Q) (kf : ¬ s0 = (-2000000000) → WP PR d 71 73 [vA 191, vI x1, vI x2, vI x3, vI s0, u5] [] S M Q) : WP PR d 71 64 [vA 191, vI x1, vI x2, vI x3, u4, u5] [vI s0] S M Q := by
  refine WP.if2 3 73 70 .eq 39 (0, 0, 0, 0) 109 rfl rfl ?_
  exact ⟨kt, fun hc => kf hc⟩
set_option maxRecDepth 100000 in
theorem b_X7_tells_73 {d : Nat} {S : mSh} {M : mMem} {Q : Option mV → mSh → mMem → Prop} {x1 x2 x3 x4 : Int} {u5 : mV} (kt : ¬ x1 = 4 → WP PR d 71 83 [vA 191, vI x1, vI x2, vI x3, vI x4, u5] [] S M Q) (kf : x1 = 4 → WP PR d 71 78 [vA 191, vI x1, vI x2, vI x3, vI x4, u5] [] S M Q) : WP PR d 71 73 [vA 191, vI x1, vI x2, vI x3, vI x4, u5] [] S M Q := by
  refine WP.if2 2 78 75 .ne 8 (0, 0, 0, 0) 83 rfl rfl ?_
  exact ⟨kt, fun hc => kf (Decidable.not_not.mp hc)⟩
set_option maxRecDepth 100000 in
theorem b_X7_tells_78 {d : Nat} {S : mSh} {M : mMem} {Q : Option mV → mSh → mMem → Prop} {x1 x2 x3 x4 : Int} {u5 : mV} (k : Q (some (vI (if 0 < (if 99 < x4 then 99 else x4) then (if 99 < x4 then 99 else x4) else 0))) S M) : WP PR d 71 78 [vA 191, vI x1, vI x2, vI x3, vI x4, u5] [] S M Q := by
  refine WP.gt 1 80 15 (0, 0, 0, 0) _ 95 rfl rfl ?_
  show WP PR d 71 95 [vA 191, vI x1, vI x2, vI x3, vI x4, u5] [vI 99] S M Q
  refine WP.re 6 108 .ireturn (0, 0, 0, 0) _ rfl ?_
  exact ⟨rfl, rfl, trivial, k⟩
set_option maxRecDepth 100000 in
theorem b_X7_tells_83 {d : Nat} {S : mSh} {M : mMem} {Q : Option mV → mSh → mMem → Prop} {x1 x2 x3 x4 : Int} {u5 : mV} (kt : ¬ x1 = 5 → WP PR d 71 94 [vA 191, vI x1, vI x2, vI x3, vI x4, u5] [] S M Q) (kf : x1 = 5 → WP PR d 71 88 [vA 191, vI x1, vI x2, vI x3, vI x4, u5] [] S M Q) : WP PR d 71 83 [vA 191, vI x1, vI x2, vI x3, vI x4, u5] [] S M Q := by
  refine WP.if2 2 88 85 .ne 9 (0, 0, 0, 0) 94 rfl rfl ?_
  exact ⟨kt, fun hc => kf (Decidable.not_not.mp hc)⟩
set_option maxRecDepth 100000 in
theorem b_X7_tells_88 {d : Nat} {S : mSh} {M : mMem} {Q : Option mV → mSh → mMem → Prop} {x1 x2 x3 x4 : Int} {u5 : mV} (k : Q (some (vI (if 0 < (if 999 < x4 then 999 else x4) then (if 999 < x4 then 999 else x4) else 0))) S M) : WP PR d 71 88 [vA 191, vI x1, vI x2, vI x3, vI x4, u5] [] S M Q := by
  refine WP.gt 1 91 4 (0, 0, 0, 0) _ 95 rfl rfl ?_
  show WP PR d 71 95 [vA 191, vI x1, vI x2, vI x3, vI x4, u5] [vI 999] S M Q
  refine WP.re 6 108 .ireturn (0, 0, 0, 0) _ rfl ?_
  exact ⟨rfl, rfl, trivial, k⟩
set_option maxRecDepth 100000 in
theorem b_X7_tells_94 {d : Nat} {S : mSh} {M : mMem} {Q : Option mV → mSh → mMem → Prop} {x1 x2 x3 x4 : Int} {u5 : mV} (k : Q (some (vI (if 0 < (if 1 < x4 then 1 else x4) then (if 1 < x4 then 1 else x4) else 0))) S M) : WP PR d 71 94 [vA 191, vI x1, vI x2, vI x3, vI x4, u5] [] S M Q := by
  refine WP.re 7 108 .ireturn (0, 0, 0, 0) _ rfl ?_
  exact ⟨rfl, rfl, trivial, k⟩
set_option maxRecDepth 100000 in
theorem b_X7_tells_109 {d : Nat} {S : mSh} {M : mMem} {Q : Option mV → mSh → mMem → Prop} {x1 x2 x3 : Int} {u4 u5 : mV} (hc : R32 (x3 + (-1))) (k : WP PR d 71 18 [vA 191, vI x1, vI x2, vI (x3 + (-1)), u4, u5] [] S M Q) : WP PR d 71 109 [vA 191, vI x1, vI x2, vI x3, u4, u5] [] S M Q := by
  refine WP.gt 1 112 (-94) (0, 0, 0, 0) _ 18 rfl rfl ?_
  exact And.intro (hc) (k)
set_option maxRecDepth 100000 in
theorem b_X7_tells_115 {d : Nat} {S : mSh} {M : mMem} {Q : Option mV → mSh → mMem → Prop} {x1 x2 x3 : Int} {u4 u5 : mV} (kt : ¬ x1 = 5 → WP PR d 71 126 [vA 191, vI x1, vI x2, vI x3, u4, u5] [] S M Q) (kf : x1 = 5 → WP PR d 71 120 [vA 191, vI x1, vI x2, vI x3, u4, u5] [] S M Q) : WP PR d 71 115 [vA 191, vI x1, vI x2, vI x3, u4, u5] [] S M Q := by
  refine WP.if2 2 120 117 .ne 9 (0, 0, 0, 0) 126 rfl rfl ?_
  exact ⟨kt, fun hc => kf (Decidable.not_not.mp hc)⟩
set_option maxRecDepth 100000 in
theorem b_X7_tells_120 {d : Nat} {S : mSh} {M : mMem} {Q : Option mV → mSh → mMem → Prop} {x1 x2 x3 : Int} {u4 u5 : mV} (k : Q (some (vI 999)) S M) : WP PR d 71 120 [vA 191, vI x1, vI x2, vI x3, u4, u5] [] S M Q := by
  refine WP.gt 1 123 4 (0, 0, 0, 0) _ 127 rfl rfl ?_
  show WP PR d 71 127 [vA 191, vI x1, vI x2, vI x3, u4, u5] [vI 999] S M Q
  refine WP.re 0 127 .ireturn (0, 0, 0, 0) _ rfl ?_
  exact ⟨rfl, rfl, trivial, k⟩
set_option maxRecDepth 100000 in
theorem b_X7_tells_126 {d : Nat} {S : mSh} {M : mMem} {Q : Option mV → mSh → mMem → Prop} {x1 x2 x3 : Int} {u4 u5 : mV} (k : Q (some (vI 0)) S M) : WP PR d 71 126 [vA 191, vI x1, vI x2, vI x3, u4, u5] [] S M Q := by
  refine WP.re 1 127 .ireturn (0, 0, 0, 0) _ rfl ?_
  exact ⟨rfl, rfl, trivial, k⟩
/-- SoleraCellar$Worker.pourInto(II)I -/
abbrev e_X7_pourInto (d : Nat) (a1 a2 : Int) (S : mSh) (M : mMem) (Q : Option mV → mSh → mMem → Prop) : Prop := WP PR d 72 0 [vA 191, vI a1, vI a2] [] S M Q
set_option maxRecDepth 100000 in
theorem b_X7_pourInto_0 {d : Nat} {S : mSh} {M : mMem} {Q : Option mV → mSh → mMem → Prop} {x1 x2 : Int} (kt : x2 < 1 → WP PR d 72 12 [vA 191, vI x1, vI x2] [] S M Q) (kf : 1 ≤ x2 → WP PR d 72 5 [vA 191, vI x1, vI x2] [] S M Q) : WP PR d 72 0 [vA 191, vI x1, vI x2] [] S M Q := by
  refine WP.if2 2 5 2 .lt 10 (0, 0, 0, 0) 12 rfl rfl ?_
  exact ⟨kt, fun hc => kf (Int.not_lt.mp hc)⟩
set_option maxRecDepth 100000 in
theorem b_X7_pourInto_5 {d : Nat} {S : mSh} {M : mMem} {Q : Option mV → mSh → mMem → Prop} {x1 x2 : Int} (kt : x2 ≤ 999 → WP PR d 72 14 [vA 191, vI x1, vI x2] [] S M Q) (kf : 999 < x2 → WP PR d 72 12 [vA 191, vI x1, vI x2] [] S M Q) : WP PR d 72 5 [vA 191, vI x1, vI x2] [] S M Q := by
  refine WP.if2 2 12 9 .le 5 (0, 0, 0, 0) 14 rfl rfl ?_
  exact ⟨kt, fun hc => kf (Int.not_le.mp hc)⟩
set_option maxRecDepth 100000 in
theorem b_X7_pourInto_12 {d : Nat} {S : mSh} {M : mMem} {Q : Option mV → mSh → mMem → Prop} {x1 x2 : Int} (k : Q (some (vI (-1))) S M) : WP PR d 72 12 [vA 191, vI x1, vI x2] [] S M Q := by
  refine WP.re 1 13 .ireturn (0, 0, 0, 0) _ rfl ?_
  exact ⟨rfl, rfl, trivial, k⟩
set_option maxRecDepth 100000 in
theorem b_X7_pourInto_14 {d : Nat} {S : mSh} {M : mMem} {Q : Option mV → mSh → mMem → Prop} {x1 x2 : Int} {q1 : Int} (eq1 : M 191 2 = q1) (L : Lay S) (hq1 : Stk S q1) (k : WP PR d 42 0 [vA q1, vI x1] [] S M (fun r S2 M2 => WP PR (d + 1) 72 22 [vA 191, vI x1, vI x2] (r.toList ++ []) S2 M2 Q)) : WP PR (d + 1) 72 14 [vA 191, vI x1, vI x2] [] S M Q := by
  subst eq1
  refine WP.ca 3 22 19 (.invokevirtual 73) (0, 42, 0, 0) rfl ?_
  exact And.intro (lo191 L) (⟨rfl, rfl, rfl, (hq1).o, rfl, k⟩)
set_option maxRecDepth 100000 in
theorem b_X7_pourInto_22 {d : Nat} {S : mSh} {M : mMem} {Q : Option mV → mSh → mMem → Prop} {x1 x2 s0 : Int} (kt : ¬ s0 = 0 → WP PR d 72 28 [vA 191, vI x1, vI x2] [] S M Q) (kf : s0 = 0 → WP PR d 72 25 [vA 191, vI x1, vI x2] [] S M Q) : WP PR d 72 22 [vA 191, vI x1, vI x2] [vI s0] S M Q := by
  refine WP.if0 0 25 22 .ne 6 (0, 0, 0, 0) 28 rfl rfl ?_
  exact ⟨kt, fun hc => kf (Decidable.not_not.mp hc)⟩
set_option maxRecDepth 100000 in
theorem b_X7_pourInto_25 {d : Nat} {S : mSh} {M : mMem} {Q : Option mV → mSh → mMem → Prop} {x1 x2 : Int} (k : Q (some (vI (-2))) S M) : WP PR d 72 25 [vA 191, vI x1, vI x2] [] S M Q := by
  refine WP.re 1 27 .ireturn (0, 0, 0, 0) _ rfl ?_
  exact ⟨rfl, rfl, trivial, k⟩
set_option maxRecDepth 100000 in
theorem b_X7_pourInto_28 {d : Nat} {S : mSh} {M : mMem} {Q : Option mV → mSh → mMem → Prop} {x1 x2 : Int} {q1 : Int} (eq1 : M 191 2 = q1) (L : Lay S) (hq1 : Stk S q1) (k : WP PR d 47 0 [vA q1, vI x1] [] S M (fun r S2 M2 => WP PR (d + 1) 72 36 [vA 191, vI x1, vI x2] (r.toList ++ []) S2 M2 Q)) : WP PR (d + 1) 72 28 [vA 191, vI x1, vI x2] [] S M Q := by
  subst eq1
  refine WP.ca 3 36 33 (.invokevirtual 79) (0, 47, 0, 0) rfl ?_
  exact And.intro (lo191 L) (⟨rfl, rfl, rfl, (hq1).o, rfl, k⟩)
set_option maxRecDepth 100000 in
theorem b_X7_pourInto_36 {d : Nat} {S : mSh} {M : mMem} {Q : Option mV → mSh → mMem → Prop} {x1 x2 s0 : Int} (kt : x2 ≤ s0 → WP PR d 72 43 [vA 191, vI x1, vI x2] [] S M Q) (kf : s0 < x2 → WP PR d 72 40 [vA 191, vI x1, vI x2] [] S M Q) : WP PR d 72 36 [vA 191, vI x1, vI x2] [vI s0] S M Q := by
  refine WP.if2 1 40 37 .ge 6 (0, 0, 0, 0) 43 rfl rfl ?_
  exact ⟨kt, fun hc => kf (Int.not_le.mp hc)⟩
set_option maxRecDepth 100000 in
theorem b_X7_pourInto_40 {d : Nat} {S : mSh} {M : mMem} {Q : Option mV → mSh → mMem → Prop} {x1 x2 : Int} (k : Q (some (vI (-3))) S M) : WP PR d 72 40 [vA 191, vI x1, vI x2] [] S M Q := by
  refine WP.re 1 42 .ireturn (0, 0, 0, 0) _ rfl ?_
  exact ⟨rfl, rfl, trivial, k⟩
set_option maxRecDepth 100000 in
theorem b_X7_pourInto_43 {d : Nat} {S : mSh} {M : mMem} {Q : Option mV → mSh → mMem → Prop} {x1 x2 : Int} {q1 : Int} (eq1 : M 191 2 = q1) (L : Lay S) (hq1 : Stk S q1) (k : WP PR d 45 0 [vA q1, vI x1, vI x2] [] S M (fun r S2 M2 => WP PR (d + 1) 72 52 [vA 191, vI x1, vI x2] (r.toList ++ []) S2 M2 Q)) : WP PR (d + 1) 72 43 [vA 191, vI x1, vI x2] [] S M Q := by
  subst eq1
  refine WP.ca 4 52 49 (.invokevirtual 82) (0, 45, 0, 0) rfl ?_
  exact And.intro (lo191 L) (⟨rfl, rfl, rfl, (hq1).o, rfl, k⟩)
set_option maxRecDepth 100000 in
theorem b_X7_pourInto_52 {d : Nat} {S : mSh} {M : mMem} {Q : Option mV → mSh → mMem → Prop} {x1 x2 : Int} {q1 : Int} (eq1 : M 191 2 = q1) (L : Lay S) (hq1 : Stk S q1) (k : WP PR d 46 0 [vA q1, vI x1] [] S M (fun r S2 M2 => WP PR (d + 1) 72 60 [vA 191, vI x1, vI x2] (r.toList ++ []) S2 M2 Q)) : WP PR (d + 1) 72 52 [vA 191, vI x1, vI x2] [] S M Q := by
  subst eq1
  refine WP.ca 3 60 57 (.invokevirtual 86) (0, 46, 0, 0) rfl ?_
  exact And.intro (lo191 L) (⟨rfl, rfl, rfl, (hq1).o, rfl, k⟩)
set_option maxRecDepth 100000 in
theorem b_X7_pourInto_60 {d : Nat} {S : mSh} {M : mMem} {Q : Option mV → mSh → mMem → Prop} {x1 x2 s0 : Int} (k : Q (some (vI s0)) S M) : WP PR d 72 60 [vA 191, vI x1, vI x2] [vI s0] S M Q := by
  refine WP.re 0 60 .ireturn (0, 0, 0, 0) _ rfl ?_
  exact ⟨rfl, rfl, trivial, k⟩
/-- SoleraCellar$Worker.rackOver(III)I -/
abbrev e_X7_rackOver (d : Nat) (a1 a2 a3 : Int) (S : mSh) (M : mMem) (Q : Option mV → mSh → mMem → Prop) : Prop := WP PR d 73 0 [vA 191, vI a1, vI a2, vI a3, vU] [] S M Q
set_option maxRecDepth 100000 in
theorem b_X7_rackOver_0 {d : Nat} {S : mSh} {M : mMem} {Q : Option mV → mSh → mMem → Prop} {x1 x2 x3 : Int} (kt : x3 < 1 → WP PR d 73 12 [vA 191, vI x1, vI x2, vI x3, vU] [] S M Q) (kf : 1 ≤ x3 → WP PR d 73 5 [vA 191, vI x1, vI x2, vI x3, vU] [] S M Q) : WP PR d 73 0 [vA 191, vI x1, vI x2, vI x3, vU] [] S M Q := by
  refine WP.if2 2 5 2 .lt 10 (0, 0, 0, 0) 12 rfl rfl ?_
  exact ⟨kt, fun hc => kf (Int.not_lt.mp hc)⟩
set_option maxRecDepth 100000 in
theorem b_X7_rackOver_5 {d : Nat} {S : mSh} {M : mMem} {Q : Option mV → mSh → mMem → Prop} {x1 x2 x3 : Int} {u4 : mV} (kt : x3 ≤ 999 → WP PR d 73 14 [vA 191, vI x1, vI x2, vI x3, u4] [] S M Q) (kf : 999 < x3 → WP PR d 73 12 [vA 191, vI x1, vI x2, vI x3, u4] [] S M Q) : WP PR d 73 5 [vA 191, vI x1, vI x2, vI x3, u4] [] S M Q := by
  refine WP.if2 2 12 9 .le 5 (0, 0, 0, 0) 14 rfl rfl ?_
  exact ⟨kt, fun hc => kf (Int.not_le.mp hc)⟩
set_option maxRecDepth 100000 in
theorem b_X7_rackOver_12 {d : Nat} {S : mSh} {M : mMem} {Q : Option mV → mSh → mMem → Prop} {x1 x2 x3 : Int} {u4 : mV} (k : Q (some (vI (-1))) S M) : WP PR d 73 12 [vA 191, vI x1, vI x2, vI x3, u4] [] S M Q := by
  refine WP.re 1 13 .ireturn (0, 0, 0, 0) _ rfl ?_
  exact ⟨rfl, rfl, trivial, k⟩
set_option maxRecDepth 100000 in
theorem b_X7_rackOver_14 {d : Nat} {S : mSh} {M : mMem} {Q : Option mV → mSh → mMem → Prop} {x1 x2 x3 : Int} {u4 : mV} {q1 : Int} (eq1 : M 191 2 = q1) (L : Lay S) (hq1 : Stk S q1) (k : WP PR d 42 0 [vA q1, vI x1] [] S M (fun r S2 M2 => WP PR (d + 1) 73 22 [vA 191, vI x1, vI x2, vI x3, u4] (r.toList ++ []) S2 M2 Q)) : WP PR (d + 1) 73 14 [vA 191, vI x1, vI x2, vI x3, u4] [] S M Q := by
  subst eq1
  refine WP.ca 3 22 19 (.invokevirtual 73) (0, 42, 0, 0) rfl ?_
  exact And.intro (lo191 L) (⟨rfl, rfl, rfl, (hq1).o, rfl, k⟩)
set_option maxRecDepth 100000 in
theorem b_X7_rackOver_22 {d : Nat} {S : mSh} {M : mMem} {Q : Option mV → mSh → mMem → Prop} {x1 x2 x3 s0 : Int} {u4 : mV} (kt : s0 = 0 → WP PR d 73 36 [vA 191, vI x1, vI x2, vI x3, u4] [] S M Q) (kf : ¬ s0 = 0 → WP PR d 73 25 [vA 191, vI x1, vI x2, vI x3, u4] [] S M Q) : WP PR d 73 22 [vA 191, vI x1, vI x2, vI x3, u4] [vI s0] S M Q := by
  refine WP.if0 0 25 22 .eq 14 (0, 0, 0, 0) 36 rfl rfl ?_
  exact ⟨kt, fun hc => kf hc⟩
set_option maxRecDepth 100000 in
theorem b_X7_rackOver_25 {d : Nat} {S : mSh} {M : mMem} {Q : Option mV → mSh → mMem → Prop} {x1 x2 x3 : Int} {u4 : mV} {q1 : Int} (eq1 : M 191 2 = q1) (L : Lay S) (hq1 : Stk S q1) (k : WP PR d 42 0 [vA q1, vI x2] [] S M (fun r S2 M2 => WP PR (d + 1) 73 33 [vA 191, vI x1, vI x2, vI x3, u4] (r.toList ++ []) S2 M2 Q)) : WP PR (d + 1) 73 25 [vA 191, vI x1, vI x2, vI x3, u4] [] S M Q := by
  subst eq1
  refine WP.ca 3 33 30 (.invokevirtual 73) (0, 42, 0, 0) rfl ?_
  exact And.intro (lo191 L) (⟨rfl, rfl, rfl, (hq1).o, rfl, k⟩)
set_option maxRecDepth 100000 in
theorem b_X7_rackOver_33 {d : Nat} {S : mSh} {M : mMem} {Q : Option mV → mSh → mMem → Prop} {x1 x2 x3 s0 : Int} {u4 : mV} (kt : ¬ s0 = 0 → WP PR d 73 39 [vA 191, vI x1, vI x2, vI x3, u4] [] S M Q) (kf : s0 = 0 → WP PR d 73 36 [vA 191, vI x1, vI x2, vI x3, u4] [] S M Q) : WP PR d 73 33 [vA 191, vI x1, vI x2, vI x3, u4] [vI s0] S M Q := by
  refine WP.if0 0 36 33 .ne 6 (0, 0, 0, 0) 39 rfl rfl ?_
  exact ⟨kt, fun hc => kf (Decidable.not_not.mp hc)⟩
set_option maxRecDepth 100000 in
theorem b_X7_rackOver_36 {d : Nat} {S : mSh} {M : mMem} {Q : Option mV → mSh → mMem → Prop} {x1 x2 x3 : Int} {u4 : mV} (k : Q (some (vI (-2))) S M) : WP PR d 73 36 [vA 191, vI x1, vI x2, vI x3, u4] [] S M Q := by
  refine WP.re 1 38 .ireturn (0, 0, 0, 0) _ rfl ?_
  exact ⟨rfl, rfl, trivial, k⟩
set_option maxRecDepth 100000 in
theorem b_X7_rackOver_39 {d : Nat} {S : mSh} {M : mMem} {Q : Option mV → mSh → mMem → Prop} {x1 x2 x3 : Int} {u4 : mV} {q1 : Int} (eq1 : M 191 2 = q1) (L : Lay S) (hq1 : Stk S q1) (hc : (0 ≤ x2 ∧ x2 < 8) ∧ (0 ≤ x1 ∧ x1 < 8) ∧ R32 ((M (q1 + 1) x1) - 1)) (kt : ¬ M (q1 + 1) x2 = (M (q1 + 1) x1) - 1 → WP PR d 73 66 [vA 191, vI x1, vI x2, vI x3, u4] [] S M Q) (kf : M (q1 + 1) x2 = (M (q1 + 1) x1) - 1 → WP PR d 73 62 [vA 191, vI x1, vI x2, vI x3, u4] [] S M Q) : WP PR d 73 39 [vA 191, vI x1, vI x2, vI x3, u4] [] S M Q := by
  subst eq1
  refine WP.if2 12 62 59 .ne 7 (0, 0, 0, 0) 66 rfl rfl ?_
  exact And.intro (lo191 L) (And.intro (⟨(hq1).o, (hq1).f0⟩) (And.intro (inA_of ((hq1).a1) ((hq1).l1) hc.1) (And.intro (lo191 L) (And.intro (⟨(hq1).o, (hq1).f0⟩) (And.intro (inA_of ((hq1).a1) ((hq1).l1) hc.2.1) (And.intro (hc.2.2) (⟨kt, fun hc => kf (Decidable.not_not.mp hc)⟩)))))))
set_option maxRecDepth 100000 in
theorem b_X7_rackOver_62 {d : Nat} {S : mSh} {M : mMem} {Q : Option mV → mSh → mMem → Prop} {x1 x2 x3 : Int} {u4 : mV} {q1 : Int} (eq1 : M 191 2 = q1) (L : Lay S) (hq1 : Stk S q1) (k : WP PR d 46 0 [vA q1, vI x1] [] S M (fun r S2 M2 => WP PR (d + 1) 73 82 [vA 191, vI x1, vI x2, vI x3, vI 1] (r.toList ++ []) S2 M2 Q)) : WP PR (d + 1) 73 62 [vA 191, vI x1, vI x2, vI x3, u4] [] S M Q := by
  subst eq1
  refine WP.gt 1 63 4 (0, 0, 0, 0) _ 67 rfl rfl ?_
  show WP PR (d + 1) 73 67 [vA 191, vI x1, vI x2, vI x3, u4] [vI 1] S M Q
  refine WP.if0 2 74 71 .eq 27 (0, 0, 0, 0) 98 rfl rfl ?_
  refine ⟨fun h => absurd h (show ¬ ((1 : Int) = (0 : Int)) by decide), fun _ => ?_⟩
  show WP PR (d + 1) 73 74 [vA 191, vI x1, vI x2, vI x3, vI 1] [] S M Q
  refine WP.ca 3 82 79 (.invokevirtual 86) (0, 46, 0, 0) rfl ?_
  exact And.intro (lo191 L) (⟨rfl, rfl, rfl, (hq1).o, rfl, k⟩)
set_option maxRecDepth 100000 in
theorem b_X7_rackOver_66 {d : Nat} {S : mSh} {M : mMem} {Q : Option mV → mSh → mMem → Prop} {x1 x2 x3 : Int} {u4 : mV} (k : Q (some (vI (-3))) S M) : WP PR d 73 66 [vA 191, vI x1, vI x2, vI x3, u4] [] S M Q := by
  refine WP.if0 3 74 71 .eq 27 (0, 0, 0, 0) 98 rfl rfl ?_
  refine ⟨fun _ => ?_, fun h => absurd (show (0 : Int) = (0 : Int) by decide) h⟩
  show WP PR d 73 98 [vA 191, vI x1, vI x2, vI x3, vI 0] [] S M Q
  refine WP.re 1 100 .ireturn (0, 0, 0, 0) _ rfl ?_
  exact ⟨rfl, rfl, trivial, k⟩
set_option maxRecDepth 100000 in
theorem b_X7_rackOver_82 {d : Nat} {S : mSh} {M : mMem} {Q : Option mV → mSh → mMem → Prop} {x1 x2 x3 x4 s0 : Int} (kt : s0 < x3 → WP PR d 73 98 [vA 191, vI x1, vI x2, vI x3, vI x4] [] S M Q) (kf : x3 ≤ s0 → WP PR d 73 86 [vA 191, vI x1, vI x2, vI x3, vI x4] [] S M Q) : WP PR d 73 82 [vA 191, vI x1, vI x2, vI x3, vI x4] [vI s0] S M Q := by
  refine WP.if2 1 86 83 .lt 15 (0, 0, 0, 0) 98 rfl rfl ?_
  exact ⟨kt, fun hc => kf (Int.not_lt.mp hc)⟩
set_option maxRecDepth 100000 in
theorem b_X7_rackOver_86 {d : Nat} {S : mSh} {M : mMem} {Q : Option mV → mSh → mMem → Prop} {x1 x2 x3 x4 : Int} {q1 : Int} (eq1 : M 191 2 = q1) (L : Lay S) (hq1 : Stk S q1) (k : WP PR d 47 0 [vA q1, vI x2] [] S M (fun r S2 M2 => WP PR (d + 1) 73 94 [vA 191, vI x1, vI x2, vI x3, vI x4] (r.toList ++ []) S2 M2 Q)) : WP PR (d + 1) 73 86 [vA 191, vI x1, vI x2, vI x3, vI x4] [] S M Q := by
  subst eq1
  refine WP.ca 3 94 91 (.invokevirtual 79) (0, 47, 0, 0) rfl ?_
  exact And.intro (lo191 L) (⟨rfl, rfl, rfl, (hq1).o, rfl, k⟩)
set_option maxRecDepth 100000 in
theorem b_X7_rackOver_94 {d : Nat} {S : mSh} {M : mMem} {Q : Option mV → mSh → mMem → Prop} {x1 x2 x3 x4 s0 : Int} (kt : x3 ≤ s0 → WP PR d 73 101 [vA 191, vI x1, vI x2, vI x3, vI x4] [] S M Q) (kf : s0 < x3 → WP PR d 73 98 [vA 191, vI x1, vI x2, vI x3, vI x4] [] S M Q) : WP PR d 73 94 [vA 191, vI x1, vI x2, vI x3, vI x4] [vI s0] S M Q := by
  refine WP.if2 1 98 95 .ge 6 (0, 0, 0, 0) 101 rfl rfl ?_
  exact ⟨kt, fun hc => kf (Int.not_le.mp hc)⟩
set_option maxRecDepth 100000 in
theorem b_X7_rackOver_98 {d : Nat} {S : mSh} {M : mMem} {Q : Option mV → mSh → mMem → Prop} {x1 x2 x3 x4 : Int} (k : Q (some (vI (-3))) S M) : WP PR d 73 98 [vA 191, vI x1, vI x2, vI x3, vI x4] [] S M Q := by
  refine WP.re 1 100 .ireturn (0, 0, 0, 0) _ rfl ?_
  exact ⟨rfl, rfl, trivial, k⟩
set_option maxRecDepth 100000 in
theorem b_X7_rackOver_101 {d : Nat} {S : mSh} {M : mMem} {Q : Option mV → mSh → mMem → Prop} {x1 x2 x3 x4 : Int} (L : Lay S) (k : WP PR d 71 0 [vA 191, vI 6, vI x1, vU, vU, vU] [] S M (fun r S2 M2 => WP PR (d + 1) 73 108 [vA 191, vI x1, vI x2, vI x3, vI x4] (r.toList ++ []) S2 M2 Q)) : WP PR (d + 1) 73 101 [vA 191, vI x1, vI x2, vI x3, vI x4] [] S M Q := by
  refine WP.ca 3 108 105 (.invokevirtual 92) (0, 71, 0, 0) rfl ?_
  exact ⟨rfl, rfl, rfl, lo191 L, rfl, k⟩
set_option maxRecDepth 100000 in
theorem b_X7_rackOver_108 {d : Nat} {S : mSh} {M : mMem} {Q : Option mV → mSh → mMem → Prop} {x1 x2 x3 x4 s0 : Int} (kt : s0 = 1 → WP PR d 73 133 [vA 191, vI x1, vI x2, vI x3, vI x4] [] S M Q) (kf : ¬ s0 = 1 → WP PR d 73 112 [vA 191, vI x1, vI x2, vI x3, vI x4] [] S M Q) : WP PR d 73 108 [vA 191, vI x1, vI x2, vI x3, vI x4] [vI s0] S M Q := by
  refine WP.if2 1 112 109 .eq 24 (0, 0, 0, 0) 133 rfl rfl ?_
  exact ⟨kt, fun hc => kf hc⟩
set_option maxRecDepth 100000 in
theorem b_X7_rackOver_112 {d : Nat} {S : mSh} {M : mMem} {Q : Option mV → mSh → mMem → Prop} {x1 x2 x3 x4 : Int} (L : Lay S) (k : WP PR d 71 0 [vA 191, vI 6, vI x2, vU, vU, vU] [] S M (fun r S2 M2 => WP PR (d + 1) 73 119 [vA 191, vI x1, vI x2, vI x3, vI x4] (r.toList ++ []) S2 M2 Q)) : WP PR (d + 1) 73 112 [vA 191, vI x1, vI x2, vI x3, vI x4] [] S M Q := by
  refine WP.ca 3 119 116 (.invokevirtual 92) (0, 71, 0, 0) rfl ?_
  exact ⟨rfl, rfl, rfl, lo191 L, rfl, k⟩
set_option maxRecDepth 100000 in
theorem b_X7_rackOver_119 {d : Nat} {S : mSh} {M : mMem} {Q : Option mV → mSh → mMem → Prop} {x1 x2 x3 x4 s0 : Int} (kt : s0 = 1 → WP PR d 73 133 [vA 191, vI x1, vI x2, vI x3, vI x4] [] S M Q) (kf : ¬ s0 = 1 → WP PR d 73 123 [vA 191, vI x1, vI x2, vI x3, vI x4] [] S M Q) : WP PR d 73 119 [vA 191, vI x1, vI x2, vI x3, vI x4] [vI s0] S M Q := by
  refine WP.if2 1 123 120 .eq 13 (0, 0, 0, 0) 133 rfl rfl ?_
  exact ⟨kt, fun hc => kf hc⟩
set_option maxRecDepth 100000 in
theorem b_X7_rackOver_123 {d : Nat} {S : mSh} {M : mMem} {Q : Option mV → mSh → mMem → Prop} {x1 x2 x3 x4 : Int} (L : Lay S) (k : WP PR d 71 0 [vA 191, vI 5, vI x1, vU, vU, vU] [] S M (fun r S2 M2 => WP PR (d + 1) 73 129 [vA 191, vI x1, vI x2, vI x3, vI x4] (r.toList ++ []) S2 M2 Q)) : WP PR (d + 1) 73 123 [vA 191, vI x1, vI x2, vI x3, vI x4] [] S M Q := by
  refine WP.ca 3 129 126 (.invokevirtual 92) (0, 71, 0, 0) rfl ?_
  exact ⟨rfl, rfl, rfl, lo191 L, rfl, k⟩
set_option maxRecDepth 100000 in
theorem b_X7_rackOver_129 {d : Nat} {S : mSh} {M : mMem} {Q : Option mV → mSh → mMem → Prop} {x1 x2 x3 x4 s0 : Int} (kt : x3 ≤ s0 → WP PR d 73 136 [vA 191, vI x1, vI x2, vI x3, vI x4] [] S M Q) (kf : s0 < x3 → WP PR d 73 133 [vA 191, vI x1, vI x2, vI x3, vI x4] [] S M Q) : WP PR d 73 129 [vA 191, vI x1, vI x2, vI x3, vI x4] [vI s0] S M Q := by
  refine WP.if2 1 133 130 .ge 6 (0, 0, 0, 0) 136 rfl rfl ?_
  exact ⟨kt, fun hc => kf (Int.not_le.mp hc)⟩
set_option maxRecDepth 100000 in
theorem b_X7_rackOver_133 {d : Nat} {S : mSh} {M : mMem} {Q : Option mV → mSh → mMem → Prop} {x1 x2 x3 x4 : Int} (k : Q (some (vI (-3))) S M) : WP PR d 73 133 [vA 191, vI x1, vI x2, vI x3, vI x4] [] S M Q := by
  refine WP.re 1 135 .ireturn (0, 0, 0, 0) _ rfl ?_
  exact ⟨rfl, rfl, trivial, k⟩
set_option maxRecDepth 100000 in
theorem b_X7_rackOver_136 {d : Nat} {S : mSh} {M : mMem} {Q : Option mV → mSh → mMem → Prop} {x1 x2 x3 x4 : Int} {q1 : Int} (eq1 : M 191 2 = q1) (L : Lay S) (hq1 : Stk S q1) (k : WP PR d 51 0 [vA q1, vI x1, vI x3, vA 195, vU, vU, vU, vU, vU] [] S M (fun r S2 M2 => WP PR (d + 1) 73 149 [vA 191, vI x1, vI x2, vI x3, vI x4] (r.toList ++ []) S2 M2 Q)) : WP PR (d + 1) 73 136 [vA 191, vI x1, vI x2, vI x3, vI x4] [] S M Q := by
  subst eq1
  refine WP.ca 6 149 146 (.invokevirtual 95) (0, 51, 0, 0) rfl ?_
  exact And.intro (lo191 L) (And.intro (⟨lo191 L, lf191_1 L⟩) (⟨rfl, rfl, rfl, (hq1).o, rfl, k⟩))
set_option maxRecDepth 100000 in
theorem b_X7_rackOver_149 {d : Nat} {S : mSh} {M : mMem} {Q : Option mV → mSh → mMem → Prop} {x1 x2 x3 x4 : Int} {q1 : Int} (eq1 : M 191 2 = q1) (L : Lay S) (hq1 : Stk S q1) (k : WP PR d 52 0 [vA q1, vI x2, vA 195, vU] [] S M (fun r S2 M2 => WP PR (d + 1) 73 161 [vA 191, vI x1, vI x2, vI x3, vI x4] (r.toList ++ []) S2 M2 Q)) : WP PR (d + 1) 73 149 [vA 191, vI x1, vI x2, vI x3, vI x4] [] S M Q := by
  subst eq1
  refine WP.ca 5 161 158 (.invokevirtual 99) (0, 52, 0, 0) rfl ?_
  exact And.intro (lo191 L) (And.intro (⟨lo191 L, lf191_1 L⟩) (⟨rfl, rfl, rfl, (hq1).o, rfl, k⟩))
set_option maxRecDepth 100000 in
theorem b_X7_rackOver_161 {d : Nat} {S : mSh} {M : mMem} {Q : Option mV → mSh → mMem → Prop} {x1 x2 x3 x4 : Int} {q1 : Int} (eq1 : M 191 2 = q1) (L : Lay S) (hq1 : Stk S q1) (k : WP PR d 48 0 [vA q1, vI x2] [] S M (fun r S2 M2 => WP PR (d + 1) 73 169 [vA 191, vI x1, vI x2, vI x3, vI x4] (r.toList ++ []) S2 M2 Q)) : WP PR (d + 1) 73 161 [vA 191, vI x1, vI x2, vI x3, vI x4] [] S M Q := by
  subst eq1
  refine WP.ca 3 169 166 (.invokevirtual 103) (0, 48, 0, 0) rfl ?_
  exact And.intro (lo191 L) (⟨rfl, rfl, rfl, (hq1).o, rfl, k⟩)
set_option maxRecDepth 100000 in
theorem b_X7_rackOver_169 {d : Nat} {S : mSh} {M : mMem} {Q : Option mV → mSh → mMem → Prop} {x1 x2 x3 x4 s0 : Int} (k : Q (some (vI s0)) S M) : WP PR d 73 169 [vA 191, vI x1, vI x2, vI x3, vI x4] [vI s0] S M Q := by
  refine WP.re 0 169 .ireturn (0, 0, 0, 0) _ rfl ?_
  exact ⟨rfl, rfl, trivial, k⟩
/-- SoleraCellar$Worker.bottleFrom(II)I -/
abbrev e_X7_bottleFrom (d : Nat) (a1 a2 : Int) (S : mSh) (M : mMem) (Q : Option mV → mSh → mMem → Prop) : Prop := WP PR d 74 0 [vA 191, vI a1, vI a2, vU, vU, vU] [] S M Q
set_option maxRecDepth 100000 in
theorem b_X7_bottleFrom_0 {d : Nat} {S : mSh} {M : mMem} {Q : Option mV → mSh → mMem → Prop} {x1 x2 : Int} (kt : x2 < 1 → WP PR d 74 12 [vA 191, vI x1, vI x2, vU, vU, vU] [] S M Q) (kf : 1 ≤ x2 → WP PR d 74 5 [vA 191, vI x1, vI x2, vU, vU, vU] [] S M Q) : WP PR d 74 0 [vA 191, vI x1, vI x2, vU, vU, vU] [] S M Q := by
  refine WP.if2 2 5 2 .lt 10 (0, 0, 0, 0) 12 rfl rfl ?_
  exact ⟨kt, fun hc => kf (Int.not_lt.mp hc)⟩
set_option maxRecDepth 100000 in
theorem b_X7_bottleFrom_5 {d : Nat} {S : mSh} {M : mMem} {Q : Option mV → mSh → mMem → Prop} {x1 x2 : Int} {u3 u4 u5 : mV} (kt : x2 ≤ 999 → WP PR d 74 14 [vA 191, vI x1, vI x2, u3, u4, u5] [] S M Q) (kf : 999 < x2 → WP PR d 74 12 [vA 191, vI x1, vI x2, u3, u4, u5] [] S M Q) : WP PR d 74 5 [vA 191, vI x1, vI x2, u3, u4, u5] [] S M Q := by
  refine WP.if2 2 12 9 .le 5 (0, 0, 0, 0) 14 rfl rfl ?_
  exact ⟨kt, fun hc => kf (Int.not_le.mp hc)⟩
set_option maxRecDepth 100000 in
theorem b_X7_bottleFrom_12 {d : Nat} {S : mSh} {M : mMem} {Q : Option mV → mSh → mMem → Prop} {x1 x2 : Int} {u3 u4 u5 : mV} (k : Q (some (vI (-1))) S M) : WP PR d 74 12 [vA 191, vI x1, vI x2, u3, u4, u5] [] S M Q := by
  refine WP.re 1 13 .ireturn (0, 0, 0, 0) _ rfl ?_
  exact ⟨rfl, rfl, trivial, k⟩
set_option maxRecDepth 100000 in
theorem b_X7_bottleFrom_14 {d : Nat} {S : mSh} {M : mMem} {Q : Option mV → mSh → mMem → Prop} {x1 x2 : Int} {u3 u4 u5 : mV} {q1 : Int} (eq1 : M 191 2 = q1) (L : Lay S) (hq1 : Stk S q1) (k : WP PR d 42 0 [vA q1, vI x1] [] S M (fun r S2 M2 => WP PR (d + 1) 74 22 [vA 191, vI x1, vI x2, u3, u4, u5] (r.toList ++ []) S2 M2 Q)) : WP PR (d + 1) 74 14 [vA 191, vI x1, vI x2, u3, u4, u5] [] S M Q := by
  subst eq1
  refine WP.ca 3 22 19 (.invokevirtual 73) (0, 42, 0, 0) rfl ?_
  exact And.intro (lo191 L) (⟨rfl, rfl, rfl, (hq1).o, rfl, k⟩)
set_option maxRecDepth 100000 in
theorem b_X7_bottleFrom_22 {d : Nat} {S : mSh} {M : mMem} {Q : Option mV → mSh → mMem → Prop} {x1 x2 s0 : Int} {u3 u4 u5 : mV} (kt : ¬ s0 = 0 → WP PR d 74 28 [vA 191, vI x1, vI x2, u3, u4, u5] [] S M Q) (kf : s0 = 0 → WP PR d 74 25 [vA 191, vI x1, vI x2, u3, u4, u5] [] S M Q) : WP PR d 74 22 [vA 191, vI x1, vI x2, u3, u4, u5] [vI s0] S M Q := by
  refine WP.if0 0 25 22 .ne 6 (0, 0, 0, 0) 28 rfl rfl ?_
  exact ⟨kt, fun hc => kf (Decidable.not_not.mp hc)⟩
set_option maxRecDepth 100000 in
theorem b_X7_bottleFrom_25 {d : Nat} {S : mSh} {M : mMem} {Q : Option mV → mSh → mMem → Prop} {x1 x2 : Int} {u3 u4 u5 : mV} (k : Q (some (vI (-2))) S M) : WP PR d 74 25 [vA 191, vI x1, vI x2, u3, u4, u5] [] S M Q := by
  refine WP.re 1 27 .ireturn (0, 0, 0, 0) _ rfl ?_
  exact ⟨rfl, rfl, trivial, k⟩
set_option maxRecDepth 100000 in
theorem b_X7_bottleFrom_28 {d : Nat} {S : mSh} {M : mMem} {Q : Option mV → mSh → mMem → Prop} {x1 x2 : Int} {u3 u4 u5 : mV} {q1 : Int} (eq1 : M 191 2 = q1) (L : Lay S) (hq1 : Stk S q1) (hc : (0 ≤ x1 ∧ x1 < 8)) (kt : ¬ M (q1 + 1) x1 = 0 → WP PR d 74 52 [vA 191, vI x1, vI x2, u3, u4, u5] [] S M Q) (kf : M (q1 + 1) x1 = 0 → WP PR d 74 40 [vA 191, vI x1, vI x2, u3, u4, u5] [] S M Q) : WP PR d 74 28 [vA 191, vI x1, vI x2, u3, u4, u5] [] S M Q := by
  subst eq1
  refine WP.if0 5 40 37 .ne 15 (0, 0, 0, 0) 52 rfl rfl ?_
  exact And.intro (lo191 L) (And.intro (⟨(hq1).o, (hq1).f0⟩) (And.intro (inA_of ((hq1).a1) ((hq1).l1) hc) (⟨kt, fun hc => kf (Decidable.not_not.mp hc)⟩)))
set_option maxRecDepth 100000 in
theorem b_X7_bottleFrom_40 {d : Nat} {S : mSh} {M : mMem} {Q : Option mV → mSh → mMem → Prop} {x1 x2 : Int} {u3 u4 u5 : mV} {q1 : Int} (eq1 : M 191 2 = q1) (L : Lay S) (hq1 : Stk S q1) (k : WP PR d 46 0 [vA q1, vI x1] [] S M (fun r S2 M2 => WP PR (d + 1) 74 48 [vA 191, vI x1, vI x2, u3, u4, u5] (r.toList ++ []) S2 M2 Q)) : WP PR (d + 1) 74 40 [vA 191, vI x1, vI x2, u3, u4, u5] [] S M Q := by
  subst eq1
  refine WP.ca 3 48 45 (.invokevirtual 86) (0, 46, 0, 0) rfl ?_
  exact And.intro (lo191 L) (⟨rfl, rfl, rfl, (hq1).o, rfl, k⟩)
set_option maxRecDepth 100000 in
theorem b_X7_bottleFrom_48 {d : Nat} {S : mSh} {M : mMem} {Q : Option mV → mSh → mMem → Prop} {x1 x2 s0 : Int} {u3 u4 u5 : mV} (kt : x2 ≤ s0 → WP PR d 74 55 [vA 191, vI x1, vI x2, u3, u4, u5] [] S M Q) (kf : s0 < x2 → WP PR d 74 52 [vA 191, vI x1, vI x2, u3, u4, u5] [] S M Q) : WP PR d 74 48 [vA 191, vI x1, vI x2, u3, u4, u5] [vI s0] S M Q := by
  refine WP.if2 1 52 49 .ge 6 (0, 0, 0, 0) 55 rfl rfl ?_
  exact ⟨kt, fun hc => kf (Int.not_le.mp hc)⟩
set_option maxRecDepth 100000 in
theorem b_X7_bottleFrom_52 {d : Nat} {S : mSh} {M : mMem} {Q : Option mV → mSh → mMem → Prop} {x1 x2 : Int} {u3 u4 u5 : mV} (k : Q (some (vI (-3))) S M) : WP PR d 74 52 [vA 191, vI x1, vI x2, u3, u4, u5] [] S M Q := by
  refine WP.re 1 54 .ireturn (0, 0, 0, 0) _ rfl ?_
  exact ⟨rfl, rfl, trivial, k⟩
set_option maxRecDepth 100000 in
theorem b_X7_bottleFrom_55 {d : Nat} {S : mSh} {M : mMem} {Q : Option mV → mSh → mMem → Prop} {x1 x2 : Int} {u3 u4 u5 : mV} (L : Lay S) (k : WP PR d 71 0 [vA 191, vI 6, vI x1, vU, vU, vU] [] S M (fun r S2 M2 => WP PR (d + 1) 74 62 [vA 191, vI x1, vI x2, u3, u4, u5] (r.toList ++ []) S2 M2 Q)) : WP PR (d + 1) 74 55 [vA 191, vI x1, vI x2, u3, u4, u5] [] S M Q := by
  refine WP.ca 3 62 59 (.invokevirtual 92) (0, 71, 0, 0) rfl ?_
  exact ⟨rfl, rfl, rfl, lo191 L, rfl, k⟩
set_option maxRecDepth 100000 in
theorem b_X7_bottleFrom_62 {d : Nat} {S : mSh} {M : mMem} {Q : Option mV → mSh → mMem → Prop} {x1 x2 s0 : Int} {u3 u4 u5 : mV} (kt : s0 = 1 → WP PR d 74 76 [vA 191, vI x1, vI x2, u3, u4, u5] [] S M Q) (kf : ¬ s0 = 1 → WP PR d 74 66 [vA 191, vI x1, vI x2, u3, u4, u5] [] S M Q) : WP PR d 74 62 [vA 191, vI x1, vI x2, u3, u4, u5] [vI s0] S M Q := by
  refine WP.if2 1 66 63 .eq 13 (0, 0, 0, 0) 76 rfl rfl ?_
  exact ⟨kt, fun hc => kf hc⟩
set_option maxRecDepth 100000 in
theorem b_X7_bottleFrom_66 {d : Nat} {S : mSh} {M : mMem} {Q : Option mV → mSh → mMem → Prop} {x1 x2 : Int} {u3 u4 u5 : mV} (L : Lay S) (k : WP PR d 71 0 [vA 191, vI 5, vI x1, vU, vU, vU] [] S M (fun r S2 M2 => WP PR (d + 1) 74 72 [vA 191, vI x1, vI x2, u3, u4, u5] (r.toList ++ []) S2 M2 Q)) : WP PR (d + 1) 74 66 [vA 191, vI x1, vI x2, u3, u4, u5] [] S M Q := by
  refine WP.ca 3 72 69 (.invokevirtual 92) (0, 71, 0, 0) rfl ?_
  exact ⟨rfl, rfl, rfl, lo191 L, rfl, k⟩
set_option maxRecDepth 100000 in
theorem b_X7_bottleFrom_72 {d : Nat} {S : mSh} {M : mMem} {Q : Option mV → mSh → mMem → Prop} {x1 x2 s0 : Int} {u3 u4 u5 : mV} (kt : x2 ≤ s0 → WP PR d 74 79 [vA 191, vI x1, vI x2, u3, u4, u5] [] S M Q) (kf : s0 < x2 → WP PR d 74 76 [vA 191, vI x1, vI x2, u3, u4, u5] [] S M Q) : WP PR d 74 72 [vA 191, vI x1, vI x2, u3, u4, u5] [vI s0] S M Q := by
  refine WP.if2 1 76 73 .ge 6 (0, 0, 0, 0) 79 rfl rfl ?_
  exact ⟨kt, fun hc => kf (Int.not_le.mp hc)⟩
set_option maxRecDepth 100000 in
theorem b_X7_bottleFrom_76 {d : Nat} {S : mSh} {M : mMem} {Q : Option mV → mSh → mMem → Prop} {x1 x2 : Int} {u3 u4 u5 : mV} (k : Q (some (vI (-3))) S M) : WP PR d 74 76 [vA 191, vI x1, vI x2, u3, u4, u5] [] S M Q := by
  refine WP.re 1 78 .ireturn (0, 0, 0, 0) _ rfl ?_
  exact ⟨rfl, rfl, trivial, k⟩
set_option maxRecDepth 100000 in
theorem b_X7_bottleFrom_79 {d : Nat} {S : mSh} {M : mMem} {Q : Option mV → mSh → mMem → Prop} {x1 x2 : Int} {u3 u4 u5 : mV} {q1 : Int} (eq1 : M 191 2 = q1) (L : Lay S) (hq1 : Stk S q1) (hc : (0 ≤ x1 ∧ x1 < 8)) (k : WP PR d 51 0 [vA q1, vI x1, vI x2, vA 195, vU, vU, vU, vU, vU] [] S M (fun r S2 M2 => WP PR (d + 1) 74 102 [vA 191, vI x1, vI x2, vL (M (q1 + 4) x1), vU, u5] (r.toList ++ []) S2 M2 Q)) : WP PR (d + 1) 74 79 [vA 191, vI x1, vI x2, u3, u4, u5] [] S M Q := by
  subst eq1
  refine WP.ca 12 102 99 (.invokevirtual 95) (0, 51, 0, 0) rfl ?_
  exact And.intro (lo191 L) (And.intro (⟨(hq1).o, (hq1).f3⟩) (And.intro (inA_of ((hq1).a4) ((hq1).l4) hc) (And.intro (lo191 L) (And.intro (⟨lo191 L, lf191_1 L⟩) (⟨rfl, rfl, rfl, (hq1).o, rfl, k⟩)))))
set_option maxRecDepth 100000 in
theorem b_X7_bottleFrom_102_i {d : Nat} {S : mSh} {M : mMem} {Q : Option mV → mSh → mMem → Prop} {x1 x2 x3 : Int} {u5 : mV} {q1 : Int} (eq1 : M 191 2 = q1) {v1 : Int} (ev1 : (up M q1 7 (if 999999 < (M q1 7) + x2 then 999999 else (M q1 7) + x2)) 191 4 = v1) {v2 : Int} (ev2 : (up (up M q1 7 (if 999999 < (M q1 7) + x2 then 999999 else (M q1 7) + x2)) 191 4 (v1 + x2)) 191 2 = v2) {q2 : Int} (eq2 : v2 = q2) {v3 : Int} (ev3 : (up (up M q1 7 (if 999999 < (M q1 7) + x2 then 999999 else (M q1 7) + x2)) 191 4 (v1 + x2)) (q2 + 4) x1 = v3) {v4 : Int} (ev4 : (up (up M q1 7 (if 999999 < (M q1 7) + x2 then 999999 else (M q1 7) + x2)) 191 4 (v1 + x2)) 191 5 = v4) (L : Lay S) (hq1 : Stk S q1) (hq2 : Stk S q2) (hc : R32 ((M q1 7) + x2) ∧ R32 (v1 + x2) ∧ (0 ≤ x1 ∧ x1 < 8) ∧ R64 (x3 - v3) ∧ R64 ((x3 - v3) * 1000) ∧ R32 (x2 * 1000) ∧ (x2 * 1000) ≠ 0 ∧ R64 (((x3 - v3) * 1000).tdiv (x2 * 1000))) (k : Q (some (vI (w32 (((x3 - v3) * 1000).tdiv (x2 * 1000))))) S (up (up (up M q1 7 (if 999999 < (M q1 7) + x2 then 999999 else (M q1 7) + x2)) 191 4 (v1 + x2)) 191 5 (if w32 (((x3 - v3) * 1000).tdiv (x2 * 1000)) < v4 then w32 (((x3 - v3) * 1000).tdiv (x2 * 1000)) else v4))) : WP PR d 74 102 [vA 191, vI x1, vI x2, vL x3, vU, u5] [] S M Q := by
  subst eq1
  subst ev1
  subst ev2
  subst eq2
  subst ev3
  subst ev4
  refine WP.re 39 173 .ireturn (0, 0, 0, 0) _ rfl ?_
  exact And.intro (lo191 L) (And.intro (lo191 L) (And.intro ((hq1).o) (And.intro (hc.1) (And.intro ((hq1).o) (And.intro (lo191 L) (And.intro (hc.2.1) (And.intro (lo191 L) (And.intro (lo191 L) (And.intro (⟨(hq2).o, (hq2).f3⟩) (And.intro (inA_of ((hq2).a4) ((hq2).l4) hc.2.2.1) (And.intro (hc.2.2.2.1) (And.intro (hc.2.2.2.2.1) (And.intro (hc.2.2.2.2.2.1) (And.intro (⟨hc.2.2.2.2.2.2.1, hc.2.2.2.2.2.2.2⟩) (And.intro (lo191 L) (And.intro (lo191 L) (⟨rfl, rfl, trivial, k⟩)))))))))))))))))
theorem b_X7_bottleFrom_102 {d : Nat} {S : mSh} {M : mMem} {Q : Option mV → mSh → mMem → Prop} {x1 x2 x3 : Int} {u5 : mV} {q1 : Int} (eq1 : M 191 2 = q1) {q2 : Int} (eq2 : (M 191 2) = q2) (L : Lay S) (hq1 : Stk S q1) (hq2 : Stk S q2) (hc : R32 ((M q1 7) + x2) ∧ R32 ((M 191 4) + x2) ∧ (0 ≤ x1 ∧ x1 < 8) ∧ R64 (x3 - (M (q2 + 4) x1)) ∧ R64 ((x3 - (M (q2 + 4) x1)) * 1000) ∧ R32 (x2 * 1000) ∧ (x2 * 1000) ≠ 0 ∧ R64 (((x3 - (M (q2 + 4) x1)) * 1000).tdiv (x2 * 1000))) (k : Q (some (vI (w32 (((x3 - (M (q2 + 4) x1)) * 1000).tdiv (x2 * 1000))))) S (up (up (up M q1 7 (if 999999 < (M q1 7) + x2 then 999999 else (M q1 7) + x2)) 191 4 ((M 191 4) + x2)) 191 5 (if w32 (((x3 - (M (q2 + 4) x1)) * 1000).tdiv (x2 * 1000)) < (M 191 5) then w32 (((x3 - (M (q2 + 4) x1)) * 1000).tdiv (x2 * 1000)) else (M 191 5)))) : WP PR d 74 102 [vA 191, vI x1, vI x2, vL x3, vU, u5] [] S M Q := b_X7_bottleFrom_102_i eq1 (show (up M q1 7 (if 999999 < (M q1 7) + x2 then 999999 else (M q1 7) + x2)) 191 4 = M 191 4 from (up_na (isO_ne (lo191 L) ((hq1).o) (by decide))).trans (rfl)) (show (up (up M q1 7 (if 999999 < (M q1 7) + x2 then 999999 else (M q1 7) + x2)) 191 4 ((M 191 4) + x2)) 191 2 = M 191 2 from (up_ni (by decide)).trans ((up_na (isO_ne (lo191 L) ((hq1).o) (by decide))).trans (rfl))) eq2 (show (up (up M q1 7 (if 999999 < (M q1 7) + x2 then 999999 else (M q1 7) + x2)) 191 4 ((M 191 4) + x2)) (q2 + 4) x1 = M (q2 + 4) x1 from (up_na (isO_ne ((hq2).a4) (lo191 L) (by decide))).trans ((up_na (isO_ne ((hq2).a4) ((hq1).o) (by decide))).trans (rfl))) (show (up (up M q1 7 (if 999999 < (M q1 7) + x2 then 999999 else (M q1 7) + x2)) 191 4 ((M 191 4) + x2)) 191 5 = M 191 5 from (up_ni (by decide)).trans ((up_na (isO_ne (lo191 L) ((hq1).o) (by decide))).trans (rfl))) L hq1 hq2 hc k
/-- SoleraCellar$Worker.passYear()I -/
abbrev e_X7_passYear (d : Nat) (S : mSh) (M : mMem) (Q : Option mV → mSh → mMem → Prop) : Prop := WP PR d 75 0 [vA 191, vU, vU] [] S M Q
set_option maxRecDepth 100000 in
theorem b_X7_passYear_0 {d : Nat} {S : mSh} {M : mMem} {Q : Option mV → mSh → mMem → Prop} (k : WP PR d 75 4 [vA 191, vI 0, vI 0] [] S M Q) : WP PR d 75 0 [vA 191, vU, vU] [] S M Q := by
  refine WP.bl 4 4 rfl ?_
  exact k
set_option maxRecDepth 100000 in
theorem b_X7_passYear_4 {d : Nat} {S : mSh} {M : mMem} {Q : Option mV → mSh → mMem → Prop} {x1 x2 : Int} {q1 : Int} (eq1 : M 191 2 = q1) (L : Lay S) (hq1 : Stk S q1) (kt : M q1 6 ≤ x2 → WP PR d 75 50 [vA 191, vI x1, vI x2] [] S M Q) (kf : x2 < M q1 6 → WP PR d 75 15 [vA 191, vI x1, vI x2] [] S M Q) : WP PR d 75 4 [vA 191, vI x1, vI x2] [] S M Q := by
  subst eq1
  refine WP.if2 4 15 12 .ge 38 (0, 0, 0, 0) 50 rfl rfl ?_
  exact And.intro (lo191 L) (And.intro ((hq1).o) (⟨kt, fun hc => kf (Int.not_le.mp hc)⟩))
set_option maxRecDepth 100000 in
theorem b_X7_passYear_15 {d : Nat} {S : mSh} {M : mMem} {Q : Option mV → mSh → mMem → Prop} {x1 x2 : Int} {q1 : Int} (eq1 : M 191 2 = q1) (L : Lay S) (hq1 : Stk S q1) (hc : (0 ≤ x2 ∧ x2 < 8)) (kt : M (q1 + 3) x2 ≤ 0 → WP PR d 75 44 [vA 191, vI x1, vI x2] [] S M Q) (kf : 0 < M (q1 + 3) x2 → WP PR d 75 27 [vA 191, vI x1, vI x2] [] S M Q) : WP PR d 75 15 [vA 191, vI x1, vI x2] [] S M Q := by
  subst eq1
  refine WP.if0 5 27 24 .le 20 (0, 0, 0, 0) 44 rfl rfl ?_
  exact And.intro (lo191 L) (And.intro (⟨(hq1).o, (hq1).f2⟩) (And.intro (inA_of ((hq1).a3) ((hq1).l3) hc) (⟨kt, fun hc => kf (Int.not_le.mp hc)⟩)))
set_option maxRecDepth 100000 in
theorem b_X7_passYear_27 {d : Nat} {S : mSh} {M : mMem} {Q : Option mV → mSh → mMem → Prop} {x1 x2 : Int} {q1 : Int} (eq1 : M 191 2 = q1) (L : Lay S) (k : WP PR d 71 0 [vA 191, vI 4, vI x2, vU, vU, vU] [] S M (fun r S2 M2 => WP PR (d + 1) 75 39 [vA 191, vI x1, vI x2] (r.toList ++ [vI x2, vA q1, vI x1]) S2 M2 Q)) : WP PR (d + 1) 75 27 [vA 191, vI x1, vI x2] [] S M Q := by
  subst eq1
  refine WP.ca 7 39 36 (.invokevirtual 92) (0, 71, 0, 0) rfl ?_
  exact And.intro (lo191 L) (⟨rfl, rfl, rfl, lo191 L, rfl, k⟩)
set_option maxRecDepth 100000 in
theorem b_X7_passYear_39 {d : Nat} {S : mSh} {M : mMem} {Q : Option mV → mSh → mMem → Prop} {x1 x2 s0 s1 s2 s3 : Int} (hs1 : Stk S s1) (k : WP PR d 54 0 [vA s1, vI s2, vI s3, vU, vU, vU, vU, vU, vU] [] S M (fun r S2 M2 => WP PR (d + 1) 75 42 [vA 191, vI x1, vI x2] (r.toList ++ [vI s0]) S2 M2 Q)) : WP PR (d + 1) 75 39 [vA 191, vI x1, vI x2] [vI s3, vI s2, vA s1, vI s0] S M Q := by
  refine WP.ca 0 42 39 (.invokevirtual 122) (0, 54, 0, 0) rfl ?_
  exact ⟨rfl, rfl, rfl, (hs1).o, rfl, k⟩
set_option maxRecDepth 100000 in
theorem b_X7_passYear_42 {d : Nat} {S : mSh} {M : mMem} {Q : Option mV → mSh → mMem → Prop} {x1 x2 s0 s1 : Int} (hc : R32 (s0 + s1) ∧ R32 (x2 + 1)) (k : WP PR d 75 4 [vA 191, vI (s0 + s1), vI (x2 + 1)] [] S M Q) : WP PR d 75 42 [vA 191, vI x1, vI x2] [vI s1, vI s0] S M Q := by
  refine WP.gt 3 47 (-43) (0, 0, 0, 0) _ 4 rfl rfl ?_
  exact And.intro (hc.1) (And.intro (hc.2) (k))
set_option maxRecDepth 100000 in
theorem b_X7_passYear_44 {d : Nat} {S : mSh} {M : mMem} {Q : Option mV → mSh → mMem → Prop} {x1 x2 : Int} (hc : R32 (x2 + 1)) (k : WP PR d 75 4 [vA 191, vI x1, vI (x2 + 1)] [] S M Q) : WP PR d 75 44 [vA 191, vI x1, vI x2] [] S M Q := by
  refine WP.gt 1 47 (-43) (0, 0, 0, 0) _ 4 rfl rfl ?_
  exact And.intro (hc) (k)
set_option maxRecDepth 100000 in
theorem b_X7_passYear_50 {d : Nat} {S : mSh} {M : mMem} {Q : Option mV → mSh → mMem → Prop} {x1 x2 : Int} {q1 : Int} (eq1 : M 191 2 = q1) (L : Lay S) (hq1 : Stk S q1) (hc : R32 ((M (q1 + 6) 0) + 1)) (k : Q (some (vI x1)) S (up M (q1 + 6) 0 ((M (q1 + 6) 0) + 1))) : WP PR d 75 50 [vA 191, vI x1, vI x2] [] S M Q := by
  subst eq1
  refine WP.re 10 64 .ireturn (0, 0, 0, 0) _ rfl ?_
  exact And.intro (lo191 L) (And.intro (⟨(hq1).o, (hq1).f5⟩) (And.intro (inA_of ((hq1).a6) ((hq1).l6) (by decide)) (And.intro (hc) (And.intro (inA_of ((hq1).a6) ((hq1).l6) (by decide)) (⟨rfl, rfl, trivial, k⟩)))))
/-- SoleraCellar$Worker.step(LSoleraCellar$Text;I)I -/
abbrev e_X7_step (d : Nat) (a1 a2 : Int) (S : mSh) (M : mMem) (Q : Option mV → mSh → mMem → Prop) : Prop := WP PR d 76 0 [vA 191, vA a1, vI a2, vU, vU, vU] [] S M Q
set_option maxRecDepth 100000 in
theorem b_X7_step_0 {d : Nat} {S : mSh} {M : mMem} {Q : Option mV → mSh → mMem → Prop} {x1 x2 : Int} (L : Lay S) (k : WP PR d 2 0 [vA 196, vA x1, vI x2, vI 3, vU, vU, vU, vU, vU, vU] [] S M (fun r S2 M2 => WP PR (d + 1) 76 10 [vA 191, vA x1, vI x2, vU, vU, vU] (r.toList ++ []) S2 M2 Q)) : WP PR (d + 1) 76 0 [vA 191, vA x1, vI x2, vU, vU, vU] [] S M Q := by
  refine WP.ca 5 10 7 (.invokevirtual 59) (0, 2, 0, 0) rfl ?_
  exact And.intro (⟨lo191 L, lf191_0 L⟩) (⟨rfl, rfl, rfl, lo196 L, rfl, k⟩)
set_option maxRecDepth 100000 in
theorem b_X7_step_10 {d : Nat} {S : mSh} {M : mMem} {Q : Option mV → mSh → mMem → Prop} {x1 x2 s0 : Int} {u3 u4 u5 : mV} (kt : s0 = 1 → WP PR d 76 17 [vA 191, vA x1, vI x2, u3, u4, u5] [] S M Q) (kf : ¬ s0 = 1 → WP PR d 76 14 [vA 191, vA x1, vI x2, u3, u4, u5] [] S M Q) : WP PR d 76 10 [vA 191, vA x1, vI x2, u3, u4, u5] [vI s0] S M Q := by
  refine WP.if2 1 14 11 .eq 6 (0, 0, 0, 0) 17 rfl rfl ?_
  exact ⟨kt, fun hc => kf hc⟩
set_option maxRecDepth 100000 in
theorem b_X7_step_14 {d : Nat} {S : mSh} {M : mMem} {Q : Option mV → mSh → mMem → Prop} {x1 x2 : Int} {u3 u4 u5 : mV} (k : Q (some (vI (-9))) S M) : WP PR d 76 14 [vA 191, vA x1, vI x2, u3, u4, u5] [] S M Q := by
  refine WP.re 1 16 .ireturn (0, 0, 0, 0) _ rfl ?_
  exact ⟨rfl, rfl, trivial, k⟩
set_option maxRecDepth 100000 in
theorem b_X7_step_17 {d : Nat} {S : mSh} {M : mMem} {Q : Option mV → mSh → mMem → Prop} {x1 x2 : Int} {u3 u4 u5 : mV} (L : Lay S) (k : WP PR d 2 0 [vA 196, vA x1, vI x2, vI 0, vU, vU, vU, vU, vU, vU] [] S M (fun r S2 M2 => WP PR (d + 1) 76 27 [vA 191, vA x1, vI x2, u3, u4, u5] (r.toList ++ []) S2 M2 Q)) : WP PR (d + 1) 76 17 [vA 191, vA x1, vI x2, u3, u4, u5] [] S M Q := by
  refine WP.ca 5 27 24 (.invokevirtual 59) (0, 2, 0, 0) rfl ?_
  exact And.intro (⟨lo191 L, lf191_0 L⟩) (⟨rfl, rfl, rfl, lo196 L, rfl, k⟩)
set_option maxRecDepth 100000 in
theorem b_X7_step_27 {d : Nat} {S : mSh} {M : mMem} {Q : Option mV → mSh → mMem → Prop} {x1 x2 s0 : Int} {u3 u4 u5 : mV} (L : Lay S) (k : WP PR d 2 0 [vA 196, vA x1, vI x2, vI 1, vU, vU, vU, vU, vU, vU] [] S M (fun r S2 M2 => WP PR (d + 1) 76 38 [vA 191, vA x1, vI x2, vI s0, u4, u5] (r.toList ++ []) S2 M2 Q)) : WP PR (d + 1) 76 27 [vA 191, vA x1, vI x2, u3, u4, u5] [vI s0] S M Q := by
  refine WP.ca 6 38 35 (.invokevirtual 59) (0, 2, 0, 0) rfl ?_
  exact And.intro (⟨lo191 L, lf191_0 L⟩) (⟨rfl, rfl, rfl, lo196 L, rfl, k⟩)
set_option maxRecDepth 100000 in
theorem b_X7_step_38 {d : Nat} {S : mSh} {M : mMem} {Q : Option mV → mSh → mMem → Prop} {x1 x2 x3 s0 : Int} {u4 u5 : mV} (hx1 : Txt S x1) (k : WP PR d 66 0 [vA x1, vI x2] [] S M (fun r S2 M2 => WP PR (d + 1) 76 45 [vA 191, vA x1, vI x2, vI x3, vI s0, u5] (r.toList ++ []) S2 M2 Q)) : WP PR (d + 1) 76 38 [vA 191, vA x1, vI x2, vI x3, u4, u5] [vI s0] S M Q := by
  refine WP.ca 3 45 42 (.invokevirtual 55) (0, 66, 0, 0) rfl ?_
  exact ⟨rfl, rfl, rfl, (hx1).o, rfl, k⟩
set_option maxRecDepth 100000 in
theorem b_X7_step_45 {d : Nat} {S : mSh} {M : mMem} {Q : Option mV → mSh → mMem → Prop} {x1 x2 x3 x4 s0 : Int} {u5 : mV} (k : WP PR d 76 (swT 45 s0 97 0 2 [27, 39, 61]) [vA 191, vA x1, vI x2, vI x3, vI x4, u5] [] S M Q) : WP PR d 76 45 [vA 191, vA x1, vI x2, vI x3, vI x4, u5] [vI s0] S M Q := by
  refine WP.sw 0 45 97 0 2 #[27, 39, 61] (0, 0, 0, 0) _ rfl ?_
  exact k
set_option maxRecDepth 100000 in
theorem b_X7_step_72 {d : Nat} {S : mSh} {M : mMem} {Q : Option mV → mSh → mMem → Prop} {x1 x2 x3 x4 : Int} {u5 : mV} (L : Lay S) (k : WP PR d 72 0 [vA 191, vI x4, vI x3] [] S M (fun r S2 M2 => WP PR (d + 1) 76 79 [vA 191, vA x1, vI x2, vI x3, vI x4, u5] (r.toList ++ []) S2 M2 Q)) : WP PR (d + 1) 76 72 [vA 191, vA x1, vI x2, vI x3, vI x4, u5] [] S M Q := by
  refine WP.ca 3 79 76 (.invokevirtual 128) (0, 72, 0, 0) rfl ?_
  exact ⟨rfl, rfl, rfl, lo191 L, rfl, k⟩
set_option maxRecDepth 100000 in
theorem b_X7_step_79 {d : Nat} {S : mSh} {M : mMem} {Q : Option mV → mSh → mMem → Prop} {x1 x2 x3 x4 s0 : Int} {u5 : mV} (L : Lay S) (kt : 0 ≤ s0 → WP PR d 76 180 [vA 191, vA x1, vI x2, vI x3, vI x4, vI s0] [vI (M 196 4), vA 196] S M Q) (kf : s0 < 0 → WP PR d 76 176 [vA 191, vA x1, vI x2, vI x3, vI x4, vI s0] [vI (M 196 4), vA 196] S M Q) : WP PR d 76 79 [vA 191, vA x1, vI x2, vI x3, vI x4, u5] [vI s0] S M Q := by
  refine WP.gt 1 81 82 (0, 0, 0, 0) _ 163 rfl rfl ?_
  show WP PR d 76 163 [vA 191, vA x1, vI x2, vI x3, vI x4, vI s0] [] S M Q
  refine WP.if0 5 176 173 .ge 7 (0, 0, 0, 0) 180 rfl rfl ?_
  exact And.intro (⟨lo191 L, lf191_0 L⟩) (And.intro (lo196 L) (⟨kt, fun hc => kf (Int.not_le.mp hc)⟩))
set_option maxRecDepth 100000 in
theorem b_X7_step_84 {d : Nat} {S : mSh} {M : mMem} {Q : Option mV → mSh → mMem → Prop} {x1 x2 x3 x4 : Int} {u5 : mV} (L : Lay S) (k : WP PR d 2 0 [vA 196, vA x1, vI x2, vI 2, vU, vU, vU, vU, vU, vU] [] S M (fun r S2 M2 => WP PR (d + 1) 76 97 [vA 191, vA x1, vI x2, vI x3, vI x4, u5] (r.toList ++ [vI x4, vA 191]) S2 M2 Q)) : WP PR (d + 1) 76 84 [vA 191, vA x1, vI x2, vI x3, vI x4, u5] [] S M Q := by
  refine WP.ca 7 97 94 (.invokevirtual 59) (0, 2, 0, 0) rfl ?_
  exact And.intro (⟨lo191 L, lf191_0 L⟩) (⟨rfl, rfl, rfl, lo196 L, rfl, k⟩)
set_option maxRecDepth 100000 in
theorem b_X7_step_97 {d : Nat} {S : mSh} {M : mMem} {Q : Option mV → mSh → mMem → Prop} {x1 x2 x3 x4 s1 s2 : Int} {u5 : mV} (L : Lay S) (k : WP PR d 73 0 [vA 191, vI s1, vI s2, vI x3, vU] [] S M (fun r S2 M2 => WP PR (d + 1) 76 101 [vA 191, vA x1, vI x2, vI x3, vI x4, u5] (r.toList ++ []) S2 M2 Q)) : WP PR (d + 1) 76 97 [vA 191, vA x1, vI x2, vI x3, vI x4, u5] [vI s2, vI s1, vA 191] S M Q := by
  refine WP.ca 1 101 98 (.invokevirtual 131) (0, 73, 0, 0) rfl ?_
  exact ⟨rfl, rfl, rfl, lo191 L, rfl, k⟩
set_option maxRecDepth 100000 in
theorem b_X7_step_101 {d : Nat} {S : mSh} {M : mMem} {Q : Option mV → mSh → mMem → Prop} {x1 x2 x3 x4 s0 : Int} {u5 : mV} (L : Lay S) (kt : 0 ≤ s0 → WP PR d 76 180 [vA 191, vA x1, vI x2, vI x3, vI x4, vI s0] [vI (M 196 4), vA 196] S M Q) (kf : s0 < 0 → WP PR d 76 176 [vA 191, vA x1, vI x2, vI x3, vI x4, vI s0] [vI (M 196 4), vA 196] S M Q) : WP PR d 76 101 [vA 191, vA x1, vI x2, vI x3, vI x4, u5] [vI s0] S M Q := by
  refine WP.gt 1 103 60 (0, 0, 0, 0) _ 163 rfl rfl ?_
  show WP PR d 76 163 [vA 191, vA x1, vI x2, vI x3, vI x4, vI s0] [] S M Q
  refine WP.if0 5 176 173 .ge 7 (0, 0, 0, 0) 180 rfl rfl ?_
  exact And.intro (⟨lo191 L, lf191_0 L⟩) (And.intro (lo196 L) (⟨kt, fun hc => kf (Int.not_le.mp hc)⟩))
set_option maxRecDepth 100000 in
theorem b_X7_step_106 {d : Nat} {S : mSh} {M : mMem} {Q : Option mV → mSh → mMem → Prop} {x1 x2 x3 x4 : Int} {u5 : mV} (L : Lay S) (k : WP PR d 74 0 [vA 191, vI x4, vI x3, vU, vU, vU] [] S M (fun r S2 M2 => WP PR (d + 1) 76 113 [vA 191, vA x1, vI x2, vI x3, vI x4, u5] (r.toList ++ []) S2 M2 Q)) : WP PR (d + 1) 76 106 [vA 191, vA x1, vI x2, vI x3, vI x4, u5] [] S M Q := by
  refine WP.ca 3 113 110 (.invokevirtual 135) (0, 74, 0, 0) rfl ?_
  exact ⟨rfl, rfl, rfl, lo191 L, rfl, k⟩
set_option maxRecDepth 100000 in
theorem b_X7_step_113 {d : Nat} {S : mSh} {M : mMem} {Q : Option mV → mSh → mMem → Prop} {x1 x2 x3 x4 s0 : Int} {u5 : mV} (L : Lay S) (kt : 0 ≤ s0 → WP PR d 76 134 [vA 191, vA x1, vI x2, vI x3, vI x4, vI s0] [vA 196] S M Q) (kf : s0 < 0 → WP PR d 76 124 [vA 191, vA x1, vI x2, vI x3, vI x4, vI s0] [vA 196] S M Q) : WP PR d 76 113 [vA 191, vA x1, vI x2, vI x3, vI x4, u5] [vI s0] S M Q := by
  refine WP.if0 4 124 121 .ge 13 (0, 0, 0, 0) 134 rfl rfl ?_
  exact And.intro (⟨lo191 L, lf191_0 L⟩) (⟨kt, fun hc => kf (Int.not_le.mp hc)⟩)
set_option maxRecDepth 100000 in
theorem b_X7_step_124 {d : Nat} {S : mSh} {M : mMem} {Q : Option mV → mSh → mMem → Prop} {x1 x2 x3 x4 x5 : Int} (L : Lay S) (kt : 0 ≤ x5 → WP PR d 76 180 [vA 191, vA x1, vI x2, vI x3, vI x4, vI x5] [vI (M 196 4), vA 196] S (up M 196 5 (M 196 5)) Q) (kf : x5 < 0 → WP PR d 76 176 [vA 191, vA x1, vI x2, vI x3, vI x4, vI x5] [vI (M 196 4), vA 196] S (up M 196 5 (M 196 5)) Q) : WP PR d 76 124 [vA 191, vA x1, vI x2, vI x3, vI x4, vI x5] [vA 196] S M Q := by
  refine WP.gt 3 131 5 (0, 0, 0, 0) _ 136 rfl rfl ?_
  refine And.intro (⟨lo191 L, lf191_0 L⟩) (And.intro (lo196 L) (?_))
  show WP PR d 76 136 [vA 191, vA x1, vI x2, vI x3, vI x4, vI x5] [vI (M 196 5), vA 196] S M Q
  refine WP.gt 1 139 24 (0, 0, 0, 0) _ 163 rfl rfl ?_
  refine And.intro (lo196 L) (?_)
  show WP PR d 76 163 [vA 191, vA x1, vI x2, vI x3, vI x4, vI x5] [] S (up M 196 5 (M 196 5)) Q
  refine WP.if0 5 176 173 .ge 7 (0, 0, 0, 0) 180 rfl rfl ?_
  exact And.intro (⟨lo191 L, lf191_0 L⟩) (And.intro (lo196 L) (⟨kt, fun hc => kf (Int.not_le.mp hc)⟩))
set_option maxRecDepth 100000 in
theorem b_X7_step_134 {d : Nat} {S : mSh} {M : mMem} {Q : Option mV → mSh → mMem → Prop} {x1 x2 x3 x4 x5 : Int} (L : Lay S) (kt : 0 ≤ x5 → WP PR d 76 180 [vA 191, vA x1, vI x2, vI x3, vI x4, vI x5] [vI (M 196 4), vA 196] S (up M 196 5 x5) Q) (kf : x5 < 0 → WP PR d 76 176 [vA 191, vA x1, vI x2, vI x3, vI x4, vI x5] [vI (M 196 4), vA 196] S (up M 196 5 x5) Q) : WP PR d 76 134 [vA 191, vA x1, vI x2, vI x3, vI x4, vI x5] [vA 196] S M Q := by
  refine WP.gt 2 139 24 (0, 0, 0, 0) _ 163 rfl rfl ?_
  refine And.intro (lo196 L) (?_)
  show WP PR d 76 163 [vA 191, vA x1, vI x2, vI x3, vI x4, vI x5] [] S (up M 196 5 x5) Q
  refine WP.if0 5 176 173 .ge 7 (0, 0, 0, 0) 180 rfl rfl ?_
  exact And.intro (⟨lo191 L, lf191_0 L⟩) (And.intro (lo196 L) (⟨kt, fun hc => kf (Int.not_le.mp hc)⟩))
set_option maxRecDepth 100000 in
theorem b_X7_step_142 {d : Nat} {S : mSh} {M : mMem} {Q : Option mV → mSh → mMem → Prop} {x1 x2 x3 x4 : Int} {u5 : mV} {q1 : Int} (eq1 : M 191 2 = q1) (L : Lay S) (hq1 : Stk S q1) (k : WP PR d 43 0 [vA q1] [] S M (fun r S2 M2 => WP PR (d + 1) 76 149 [vA 191, vA x1, vI x2, vI x3, vI x4, u5] (r.toList ++ []) S2 M2 Q)) : WP PR (d + 1) 76 142 [vA 191, vA x1, vI x2, vI x3, vI x4, u5] [] S M Q := by
  subst eq1
  refine WP.ca 2 149 146 (.invokevirtual 141) (0, 43, 0, 0) rfl ?_
  exact And.intro (lo191 L) (⟨rfl, rfl, rfl, (hq1).o, rfl, k⟩)
set_option maxRecDepth 100000 in
theorem b_X7_step_149 {d : Nat} {S : mSh} {M : mMem} {Q : Option mV → mSh → mMem → Prop} {x1 x2 x3 x4 s0 : Int} {u5 : mV} (kt : s0 = 0 → WP PR d 76 157 [vA 191, vA x1, vI x2, vI x3, vI x4, u5] [] S M Q) (kf : ¬ s0 = 0 → WP PR d 76 152 [vA 191, vA x1, vI x2, vI x3, vI x4, u5] [] S M Q) : WP PR d 76 149 [vA 191, vA x1, vI x2, vI x3, vI x4, u5] [vI s0] S M Q := by
  refine WP.if0 0 152 149 .eq 8 (0, 0, 0, 0) 157 rfl rfl ?_
  exact ⟨kt, fun hc => kf hc⟩
set_option maxRecDepth 100000 in
theorem b_X7_step_152 {d : Nat} {S : mSh} {M : mMem} {Q : Option mV → mSh → mMem → Prop} {x1 x2 x3 x4 : Int} {u5 : mV} (L : Lay S) (hc : R32 ((M 196 4) + 0)) (k : Q (some (vI (-3))) S (up M 196 4 ((M 196 4) + 0))) : WP PR d 76 152 [vA 191, vA x1, vI x2, vI x3, vI x4, u5] [] S M Q := by
  refine WP.gt 1 154 7 (0, 0, 0, 0) _ 161 rfl rfl ?_
  show WP PR d 76 161 [vA 191, vA x1, vI x2, vI x3, vI x4, u5] [vI (-3)] S M Q
  refine WP.if0 6 176 173 .ge 7 (0, 0, 0, 0) 180 rfl rfl ?_
  refine And.intro (⟨lo191 L, lf191_0 L⟩) (And.intro (lo196 L) (⟨fun h => absurd h (show ¬ ((0 : Int) ≤ ((-3) : Int)) by decide), fun _ => ?_⟩))
  show WP PR d 76 176 [vA 191, vA x1, vI x2, vI x3, vI x4, vI (-3)] [vI (M 196 4), vA 196] S M Q
  refine WP.gt 1 177 4 (0, 0, 0, 0) _ 181 rfl rfl ?_
  show WP PR d 76 181 [vA 191, vA x1, vI x2, vI x3, vI x4, vI (-3)] [vI 0, vI (M 196 4), vA 196] S M Q
  refine WP.re 3 187 .ireturn (0, 0, 0, 0) _ rfl ?_
  exact And.intro (hc) (And.intro (lo196 L) (⟨rfl, rfl, trivial, k⟩))
set_option maxRecDepth 100000 in
theorem b_X7_step_157 {d : Nat} {S : mSh} {M : mMem} {Q : Option mV → mSh → mMem → Prop} {x1 x2 x3 x4 : Int} {u5 : mV} (L : Lay S) (k : WP PR d 75 0 [vA 191, vU, vU] [] S M (fun r S2 M2 => WP PR (d + 1) 76 161 [vA 191, vA x1, vI x2, vI x3, vI x4, u5] (r.toList ++ []) S2 M2 Q)) : WP PR (d + 1) 76 157 [vA 191, vA x1, vI x2, vI x3, vI x4, u5] [] S M Q := by
  refine WP.ca 1 161 158 (.invokevirtual 145) (0, 75, 0, 0) rfl ?_
  exact ⟨rfl, rfl, rfl, lo191 L, rfl, k⟩
set_option maxRecDepth 100000 in
theorem b_X7_step_161 {d : Nat} {S : mSh} {M : mMem} {Q : Option mV → mSh → mMem → Prop} {x1 x2 x3 x4 s0 : Int} {u5 : mV} (L : Lay S) (kt : 0 ≤ s0 → WP PR d 76 180 [vA 191, vA x1, vI x2, vI x3, vI x4, vI s0] [vI (M 196 4), vA 196] S M Q) (kf : s0 < 0 → WP PR d 76 176 [vA 191, vA x1, vI x2, vI x3, vI x4, vI s0] [vI (M 196 4), vA 196] S M Q) : WP PR d 76 161 [vA 191, vA x1, vI x2, vI x3, vI x4, u5] [vI s0] S M Q := by
  refine WP.if0 6 176 173 .ge 7 (0, 0, 0, 0) 180 rfl rfl ?_
  exact And.intro (⟨lo191 L, lf191_0 L⟩) (And.intro (lo196 L) (⟨kt, fun hc => kf (Int.not_le.mp hc)⟩))
set_option maxRecDepth 100000 in
theorem b_X7_step_176 {d : Nat} {S : mSh} {M : mMem} {Q : Option mV → mSh → mMem → Prop} {x1 x2 x3 x4 x5 s1 : Int} (L : Lay S) (hc : R32 (s1 + 0)) (k : Q (some (vI x5)) S (up M 196 4 (s1 + 0))) : WP PR d 76 176 [vA 191, vA x1, vI x2, vI x3, vI x4, vI x5] [vI s1, vA 196] S M Q := by
  refine WP.gt 1 177 4 (0, 0, 0, 0) _ 181 rfl rfl ?_
  show WP PR d 76 181 [vA 191, vA x1, vI x2, vI x3, vI x4, vI x5] [vI 0, vI s1, vA 196] S M Q
  refine WP.re 3 187 .ireturn (0, 0, 0, 0) _ rfl ?_
  exact And.intro (hc) (And.intro (lo196 L) (⟨rfl, rfl, trivial, k⟩))
set_option maxRecDepth 100000 in
theorem b_X7_step_180 {d : Nat} {S : mSh} {M : mMem} {Q : Option mV → mSh → mMem → Prop} {x1 x2 x3 x4 x5 s1 : Int} (L : Lay S) (hc : R32 (s1 + 1)) (k : Q (some (vI x5)) S (up M 196 4 (s1 + 1))) : WP PR d 76 180 [vA 191, vA x1, vI x2, vI x3, vI x4, vI x5] [vI s1, vA 196] S M Q := by
  refine WP.re 4 187 .ireturn (0, 0, 0, 0) _ rfl ?_
  exact And.intro (hc) (And.intro (lo196 L) (⟨rfl, rfl, trivial, k⟩))
/-- SoleraCellar$Worker.runOrders(LSoleraCellar$Text;LSoleraCellar$History;)I -/
abbrev e_X7_runOrders (d : Nat) (a1 a2 : Int) (S : mSh) (M : mMem) (Q : Option mV → mSh → mMem → Prop) : Prop := WP PR d 77 0 [vA 191, vA a1, vA a2, vU, vU, vU] [] S M Q
set_option maxRecDepth 100000 in
theorem b_X7_runOrders_0 {d : Nat} {S : mSh} {M : mMem} {Q : Option mV → mSh → mMem → Prop} {x1 x2 : Int} (L : Lay S) (k : WP PR d 1 0 [vA 196] [] S M (fun r S2 M2 => WP PR (d + 1) 77 7 [vA 191, vA x1, vA x2, vU, vU, vU] (r.toList ++ []) S2 M2 Q)) : WP PR (d + 1) 77 0 [vA 191, vA x1, vA x2, vU, vU, vU] [] S M Q := by
  refine WP.ca 2 7 4 (.invokevirtual 33) (0, 1, 0, 0) rfl ?_
  exact And.intro (⟨lo191 L, lf191_0 L⟩) (⟨rfl, rfl, rfl, lo196 L, rfl, k⟩)
set_option maxRecDepth 100000 in
theorem b_X7_runOrders_7 {d : Nat} {S : mSh} {M : mMem} {Q : Option mV → mSh → mMem → Prop} {x1 x2 : Int} {u3 u4 u5 : mV} (k : WP PR d 77 9 [vA 191, vA x1, vA x2, vI 0, u4, u5] [] S M Q) : WP PR d 77 7 [vA 191, vA x1, vA x2, u3, u4, u5] [] S M Q := by
  refine WP.bl 2 9 rfl ?_
  exact k
set_option maxRecDepth 100000 in
theorem b_X7_runOrders_9 {d : Nat} {S : mSh} {M : mMem} {Q : Option mV → mSh → mMem → Prop} {x1 x2 x3 : Int} {u4 u5 : mV} (hx1 : Txt S x1) (kt : M x1 2 ≤ x3 → WP PR d 77 102 [vA 191, vA x1, vA x2, vI x3, u4, u5] [] S M Q) (kf : x3 < M x1 2 → WP PR d 77 17 [vA 191, vA x1, vA x2, vI x3, u4, u5] [] S M Q) : WP PR d 77 9 [vA 191, vA x1, vA x2, vI x3, u4, u5] [] S M Q := by
  refine WP.if2 3 17 14 .ge 88 (0, 0, 0, 0) 102 rfl rfl ?_
  exact And.intro ((hx1).o) (⟨kt, fun hc => kf (Int.not_le.mp hc)⟩)
set_option maxRecDepth 100000 in
theorem b_X7_runOrders_17 {d : Nat} {S : mSh} {M : mMem} {Q : Option mV → mSh → mMem → Prop} {x1 x2 x3 : Int} {u4 u5 : mV} (k : WP PR d 77 23 [vA 191, vA x1, vA x2, vI x3, vI 0, vI 0] [] S M Q) : WP PR d 77 17 [vA 191, vA x1, vA x2, vI x3, u4, u5] [] S M Q := by
  refine WP.bl 4 23 rfl ?_
  exact k
set_option maxRecDepth 100000 in
theorem b_X7_runOrders_23 {d : Nat} {S : mSh} {M : mMem} {Q : Option mV → mSh → mMem → Prop} {x1 x2 x3 x4 x5 : Int} (hx1 : Txt S x1) (k : WP PR d 67 0 [vA x1, vI x3] [] S M (fun r S2 M2 => WP PR (d + 1) 77 30 [vA 191, vA x1, vA x2, vI x3, vI x4, vI x5] (r.toList ++ [vI x5]) S2 M2 Q)) : WP PR (d + 1) 77 23 [vA 191, vA x1, vA x2, vI x3, vI x4, vI x5] [] S M Q := by
  refine WP.ca 3 30 27 (.invokevirtual 152) (0, 67, 0, 0) rfl ?_
  exact ⟨rfl, rfl, rfl, (hx1).o, rfl, k⟩
set_option maxRecDepth 100000 in
theorem b_X7_runOrders_30 {d : Nat} {S : mSh} {M : mMem} {Q : Option mV → mSh → mMem → Prop} {x1 x2 x3 x4 x5 s0 s1 : Int} (kt : s1 ≤ s0 → WP PR d 77 82 [vA 191, vA x1, vA x2, vI x3, vI x4, vI x5] [] S M Q) (kf : s0 < s1 → WP PR d 77 33 [vA 191, vA x1, vA x2, vI x3, vI x4, vI x5] [] S M Q) : WP PR d 77 30 [vA 191, vA x1, vA x2, vI x3, vI x4, vI x5] [vI s1, vI s0] S M Q := by
  refine WP.if2 0 33 30 .ge 52 (0, 0, 0, 0) 82 rfl rfl ?_
  exact ⟨kt, fun hc => kf (Int.not_le.mp hc)⟩
set_option maxRecDepth 100000 in
theorem b_X7_runOrders_33 {d : Nat} {S : mSh} {M : mMem} {Q : Option mV → mSh → mMem → Prop} {x1 x2 x3 x4 x5 : Int} (kt : x4 < 0 → WP PR d 77 82 [vA 191, vA x1, vA x2, vI x3, vI x4, vI x5] [] S M Q) (kf : 0 ≤ x4 → WP PR d 77 38 [vA 191, vA x1, vA x2, vI x3, vI x4, vI x5] [] S M Q) : WP PR d 77 33 [vA 191, vA x1, vA x2, vI x3, vI x4, vI x5] [] S M Q := by
  refine WP.if0 1 38 35 .lt 47 (0, 0, 0, 0) 82 rfl rfl ?_
  exact ⟨kt, fun hc => kf (Int.not_lt.mp hc)⟩
set_option maxRecDepth 100000 in
theorem b_X7_runOrders_38 {d : Nat} {S : mSh} {M : mMem} {Q : Option mV → mSh → mMem → Prop} {x1 x2 x3 x4 x5 : Int} (kt : x2 = 0 → WP PR d 77 50 [vA 191, vA x1, vA x2, vI x3, vI x4, vI x5] [] S M Q) (kf : ¬ x2 = 0 → WP PR d 77 42 [vA 191, vA x1, vA x2, vI x3, vI x4, vI x5] [] S M Q) : WP PR d 77 38 [vA 191, vA x1, vA x2, vI x3, vI x4, vI x5] [] S M Q := by
  refine WP.ifn 1 42 39 11 (0, 0, 0, 0) 50 rfl rfl ?_
  exact ⟨kt, fun hc => kf hc⟩
set_option maxRecDepth 100000 in
theorem b_X7_runOrders_42 {d : Nat} {S : mSh} {M : mMem} {Q : Option mV → mSh → mMem → Prop} {x1 x2 x3 x4 x5 : Int} {q1 : Int} (eq1 : M 191 2 = q1) (L : Lay S) (ho1 : isO S x2 1) (k : WP PR d 10 0 [vA x2, vA q1] [] S M (fun r S2 M2 => WP PR (d + 1) 77 50 [vA 191, vA x1, vA x2, vI x3, vI x4, vI x5] (r.toList ++ []) S2 M2 Q)) : WP PR (d + 1) 77 42 [vA 191, vA x1, vA x2, vI x3, vI x4, vI x5] [] S M Q := by
  subst eq1
  refine WP.ca 3 50 47 (.invokevirtual 155) (0, 10, 0, 0) rfl ?_
  exact And.intro (lo191 L) (⟨rfl, rfl, rfl, ho1, rfl, k⟩)
set_option maxRecDepth 100000 in
theorem b_X7_runOrders_50 {d : Nat} {S : mSh} {M : mMem} {Q : Option mV → mSh → mMem → Prop} {x1 x2 x3 x4 x5 : Int} (L : Lay S) (k : WP PR d 76 0 [vA 191, vA x1, vI x3, vU, vU, vU] [] S M (fun r S2 M2 => WP PR (d + 1) 77 56 [vA 191, vA x1, vA x2, vI x3, vI x4, vI x5] (r.toList ++ []) S2 M2 Q)) : WP PR (d + 1) 77 50 [vA 191, vA x1, vA x2, vI x3, vI x4, vI x5] [] S M Q := by
  refine WP.ca 3 56 53 (.invokevirtual 160) (0, 76, 0, 0) rfl ?_
  exact ⟨rfl, rfl, rfl, lo191 L, rfl, k⟩
set_option maxRecDepth 100000 in
theorem b_X7_runOrders_56 {d : Nat} {S : mSh} {M : mMem} {Q : Option mV → mSh → mMem → Prop} {x1 x2 x3 x4 x5 s0 : Int} (kt : x2 = 0 → WP PR d 77 76 [vA 191, vA x1, vA x2, vI x3, vI s0, vI x5] [] S M Q) (kf : ¬ x2 = 0 → WP PR d 77 62 [vA 191, vA x1, vA x2, vI x3, vI s0, vI x5] [] S M Q) : WP PR d 77 56 [vA 191, vA x1, vA x2, vI x3, vI x4, vI x5] [vI s0] S M Q := by
  refine WP.ifn 2 62 59 17 (0, 0, 0, 0) 76 rfl rfl ?_
  exact ⟨kt, fun hc => kf hc⟩
set_option maxRecDepth 100000 in
theorem b_X7_runOrders_62 {d : Nat} {S : mSh} {M : mMem} {Q : Option mV → mSh → mMem → Prop} {x1 x2 x3 x4 x5 : Int} (kt : x4 < 0 → WP PR d 77 76 [vA 191, vA x1, vA x2, vI x3, vI x4, vI x5] [] S M Q) (kf : 0 ≤ x4 → WP PR d 77 67 [vA 191, vA x1, vA x2, vI x3, vI x4, vI x5] [] S M Q) : WP PR d 77 62 [vA 191, vA x1, vA x2, vI x3, vI x4, vI x5] [] S M Q := by
  refine WP.if0 1 67 64 .lt 12 (0, 0, 0, 0) 76 rfl rfl ?_
  exact ⟨kt, fun hc => kf (Int.not_lt.mp hc)⟩
set_option maxRecDepth 100000 in
theorem b_X7_runOrders_67 {d : Nat} {S : mSh} {M : mMem} {Q : Option mV → mSh → mMem → Prop} {x1 x2 x3 x4 x5 : Int} (hx1 : Txt S x1) (k : WP PR d 66 0 [vA x1, vI x3] [] S M (fun r S2 M2 => WP PR (d + 1) 77 73 [vA 191, vA x1, vA x2, vI x3, vI x4, vI x5] (r.toList ++ [vA x2]) S2 M2 Q)) : WP PR (d + 1) 77 67 [vA 191, vA x1, vA x2, vI x3, vI x4, vI x5] [] S M Q := by
  refine WP.ca 3 73 70 (.invokevirtual 55) (0, 66, 0, 0) rfl ?_
  exact ⟨rfl, rfl, rfl, (hx1).o, rfl, k⟩
set_option maxRecDepth 100000 in
theorem b_X7_runOrders_73 {d : Nat} {S : mSh} {M : mMem} {Q : Option mV → mSh → mMem → Prop} {x1 x2 x3 x4 x5 s1 : Int} (L : Lay S) (k : WP PR d 11 0 [vA 55, vI s1] [] S M (fun r S2 M2 => WP PR (d + 1) 77 76 [vA 191, vA x1, vA x2, vI x3, vI x4, vI x5] (r.toList ++ []) S2 M2 Q)) : WP PR (d + 1) 77 73 [vA 191, vA x1, vA x2, vI x3, vI x4, vI x5] [vI s1, vA 55] S M Q := by
  refine WP.ca 0 76 73 (.invokevirtual 164) (0, 11, 0, 0) rfl ?_
  exact ⟨rfl, rfl, rfl, lo55 L, rfl, k⟩
set_option maxRecDepth 100000 in
theorem b_X7_runOrders_76 {d : Nat} {S : mSh} {M : mMem} {Q : Option mV → mSh → mMem → Prop} {x1 x2 x3 x4 x5 : Int} (hc : R32 (x5 + 1)) (k : WP PR d 77 23 [vA 191, vA x1, vA x2, vI x3, vI x4, vI (x5 + 1)] [] S M Q) : WP PR d 77 76 [vA 191, vA x1, vA x2, vI x3, vI x4, vI x5] [] S M Q := by
  refine WP.gt 1 79 (-56) (0, 0, 0, 0) _ 23 rfl rfl ?_
  exact And.intro (hc) (k)
set_option maxRecDepth 100000 in
theorem b_X7_runOrders_82 {d : Nat} {S : mSh} {M : mMem} {Q : Option mV → mSh → mMem → Prop} {x1 x2 x3 x4 x5 : Int} (kt : 0 ≤ x4 → WP PR d 77 96 [vA 191, vA x1, vA x2, vI x3, vI x4, vI x5] [] S M Q) (kf : x4 < 0 → WP PR d 77 87 [vA 191, vA x1, vA x2, vI x3, vI x4, vI x5] [] S M Q) : WP PR d 77 82 [vA 191, vA x1, vA x2, vI x3, vI x4, vI x5] [] S M Q := by
  refine WP.if0 1 87 84 .ge 12 (0, 0, 0, 0) 96 rfl rfl ?_
  exact ⟨kt, fun hc => kf (Int.not_le.mp hc)⟩
set_option maxRecDepth 100000 in
theorem b_X7_runOrders_87 {d : Nat} {S : mSh} {M : mMem} {Q : Option mV → mSh → mMem → Prop} {x1 x2 x3 x4 x5 : Int} (kt : x4 = (-9) → WP PR d 77 96 [vA 191, vA x1, vA x2, vI x3, vI x4, vI x5] [] S M Q) (kf : ¬ x4 = (-9) → WP PR d 77 94 [vA 191, vA x1, vA x2, vI x3, vI x4, vI x5] [] S M Q) : WP PR d 77 87 [vA 191, vA x1, vA x2, vI x3, vI x4, vI x5] [] S M Q := by
  refine WP.if2 2 94 91 .eq 5 (0, 0, 0, 0) 96 rfl rfl ?_
  exact ⟨kt, fun hc => kf hc⟩
set_option maxRecDepth 100000 in
theorem b_X7_runOrders_94 {d : Nat} {S : mSh} {M : mMem} {Q : Option mV → mSh → mMem → Prop} {x1 x2 x3 x4 x5 : Int} (k : Q (some (vI x3)) S M) : WP PR d 77 94 [vA 191, vA x1, vA x2, vI x3, vI x4, vI x5] [] S M Q := by
  refine WP.re 1 95 .ireturn (0, 0, 0, 0) _ rfl ?_
  exact ⟨rfl, rfl, trivial, k⟩
set_option maxRecDepth 100000 in
theorem b_X7_runOrders_96 {d : Nat} {S : mSh} {M : mMem} {Q : Option mV → mSh → mMem → Prop} {x1 x2 x3 x4 x5 : Int} (hc : R32 (x3 + 1)) (k : WP PR d 77 9 [vA 191, vA x1, vA x2, vI (x3 + 1), vI x4, vI x5] [] S M Q) : WP PR d 77 96 [vA 191, vA x1, vA x2, vI x3, vI x4, vI x5] [] S M Q := by
  refine WP.gt 1 99 (-90) (0, 0, 0, 0) _ 9 rfl rfl ?_
  exact And.intro (hc) (k)
set_option maxRecDepth 100000 in
theorem b_X7_runOrders_102 {d : Nat} {S : mSh} {M : mMem} {Q : Option mV → mSh → mMem → Prop} {x1 x2 x3 : Int} {u4 u5 : mV} (k : Q (some (vI (-1))) S M) : WP PR d 77 102 [vA 191, vA x1, vA x2, vI x3, u4, u5] [] S M Q := by
  refine WP.re 1 103 .ireturn (0, 0, 0, 0) _ rfl ?_
  exact ⟨rfl, rfl, trivial, k⟩
/-- SoleraCellar$Worker.planYears(LSoleraCellar$Text;I)V -/
abbrev e_X7_planYears (d : Nat) (a1 a2 : Int) (S : mSh) (M : mMem) (Q : Option mV → mSh → mMem → Prop) : Prop := WP PR d 78 0 [vA 191, vA a1, vI a2, vU, vU, vU, vU, vU] [] S M Q
set_option maxRecDepth 100000 in
theorem b_X7_planYears_0 {d : Nat} {S : mSh} {M : mMem} {Q : Option mV → mSh → mMem → Prop} {x1 x2 : Int} (k : WP PR d 78 2 [vA 191, vA x1, vI x2, vI 0, vU, vU, vU, vU] [] S M Q) : WP PR d 78 0 [vA 191, vA x1, vI x2, vU, vU, vU, vU, vU] [] S M Q := by
  refine WP.bl 2 2 rfl ?_
  exact k
set_option maxRecDepth 100000 in
theorem b_X7_planYears_2 {d : Nat} {S : mSh} {M : mMem} {Q : Option mV → mSh → mMem → Prop} {x1 x2 x3 : Int} {u4 u5 u6 u7 : mV} (kt : x2 ≤ x3 → WP PR d 78 126 [vA 191, vA x1, vI x2, vI x3, u4, u5, u6, u7] [] S M Q) (kf : x3 < x2 → WP PR d 78 7 [vA 191, vA x1, vI x2, vI x3, u4, u5, u6, u7] [] S M Q) : WP PR d 78 2 [vA 191, vA x1, vI x2, vI x3, u4, u5, u6, u7] [] S M Q := by
  refine WP.if2 2 7 4 .ge 122 (0, 0, 0, 0) 126 rfl rfl ?_
  exact ⟨kt, fun hc => kf (Int.not_le.mp hc)⟩
set_option maxRecDepth 100000 in
theorem b_X7_planYears_7 {d : Nat} {S : mSh} {M : mMem} {Q : Option mV → mSh → mMem → Prop} {x1 x2 x3 : Int} {u4 u5 u6 u7 : mV} (L : Lay S) (k : WP PR d 1 0 [vA 196] [] S M (fun r S2 M2 => WP PR (d + 1) 78 14 [vA 191, vA x1, vI x2, vI x3, u4, u5, u6, u7] (r.toList ++ []) S2 M2 Q)) : WP PR (d + 1) 78 7 [vA 191, vA x1, vI x2, vI x3, u4, u5, u6, u7] [] S M Q := by
  refine WP.ca 2 14 11 (.invokevirtual 33) (0, 1, 0, 0) rfl ?_
  exact And.intro (⟨lo191 L, lf191_0 L⟩) (⟨rfl, rfl, rfl, lo196 L, rfl, k⟩)
set_option maxRecDepth 100000 in
theorem b_X7_planYears_14 {d : Nat} {S : mSh} {M : mMem} {Q : Option mV → mSh → mMem → Prop} {x1 x2 x3 : Int} {u4 u5 u6 u7 : mV} (k : WP PR d 78 17 [vA 191, vA x1, vI x2, vI x3, vI 0, u5, u6, u7] [] S M Q) : WP PR d 78 14 [vA 191, vA x1, vI x2, vI x3, u4, u5, u6, u7] [] S M Q := by
  refine WP.bl 2 17 rfl ?_
  exact k
set_option maxRecDepth 100000 in
theorem b_X7_planYears_17 {d : Nat} {S : mSh} {M : mMem} {Q : Option mV → mSh → mMem → Prop} {x1 x2 x3 x4 : Int} {u5 u6 u7 : mV} (hx1 : Txt S x1) (kt : M x1 2 ≤ x4 → WP PR d 78 115 [vA 191, vA x1, vI x2, vI x3, vI x4, u5, u6, u7] [] S M Q) (kf : x4 < M x1 2 → WP PR d 78 26 [vA 191, vA x1, vI x2, vI x3, vI x4, u5, u6, u7] [] S M Q) : WP PR d 78 17 [vA 191, vA x1, vI x2, vI x3, vI x4, u5, u6, u7] [] S M Q := by
  refine WP.if2 3 26 23 .ge 92 (0, 0, 0, 0) 115 rfl rfl ?_
  exact And.intro ((hx1).o) (⟨kt, fun hc => kf (Int.not_le.mp hc)⟩)
set_option maxRecDepth 100000 in
theorem b_X7_planYears_26 {d : Nat} {S : mSh} {M : mMem} {Q : Option mV → mSh → mMem → Prop} {x1 x2 x3 x4 : Int} {u5 u6 u7 : mV} (hx1 : Txt S x1) (k : WP PR d 66 0 [vA x1, vI x4] [] S M (fun r S2 M2 => WP PR (d + 1) 78 32 [vA 191, vA x1, vI x2, vI x3, vI x4, u5, u6, u7] (r.toList ++ []) S2 M2 Q)) : WP PR (d + 1) 78 26 [vA 191, vA x1, vI x2, vI x3, vI x4, u5, u6, u7] [] S M Q := by
  refine WP.ca 2 32 29 (.invokevirtual 55) (0, 66, 0, 0) rfl ?_
  exact ⟨rfl, rfl, rfl, (hx1).o, rfl, k⟩
set_option maxRecDepth 100000 in
theorem b_X7_planYears_32 {d : Nat} {S : mSh} {M : mMem} {Q : Option mV → mSh → mMem → Prop} {x1 x2 x3 x4 s0 : Int} {u5 u6 u7 : mV} (kt : ¬ s0 = 3 → WP PR d 78 40 [vA 191, vA x1, vI x2, vI x3, vI x4, u5, u6, u7] [] S M Q) (kf : s0 = 3 → WP PR d 78 36 [vA 191, vA x1, vI x2, vI x3, vI x4, u5, u6, u7] [] S M Q) : WP PR d 78 32 [vA 191, vA x1, vI x2, vI x3, vI x4, u5, u6, u7] [vI s0] S M Q := by
  refine WP.if2 1 36 33 .ne 7 (0, 0, 0, 0) 40 rfl rfl ?_
  exact ⟨kt, fun hc => kf (Decidable.not_not.mp hc)⟩
set_option maxRecDepth 100000 in
theorem b_X7_planYears_36 {d : Nat} {S : mSh} {M : mMem} {Q : Option mV → mSh → mMem → Prop} {x1 x2 x3 x4 : Int} {u5 u6 u7 : mV} (k : WP PR d 78 54 [vA 191, vA x1, vI x2, vI x3, vI x4, vI 0, vI 0, vI 0] [] S M Q) : WP PR d 78 36 [vA 191, vA x1, vI x2, vI x3, vI x4, u5, u6, u7] [] S M Q := by
  refine WP.gt 1 37 9 (0, 0, 0, 0) _ 46 rfl rfl ?_
  show WP PR d 78 46 [vA 191, vA x1, vI x2, vI x3, vI x4, u5, u6, u7] [vI 0] S M Q
  refine WP.bl 5 54 rfl ?_
  exact k
set_option maxRecDepth 100000 in
theorem b_X7_planYears_40 {d : Nat} {S : mSh} {M : mMem} {Q : Option mV → mSh → mMem → Prop} {x1 x2 x3 x4 : Int} {u5 u6 u7 : mV} (hx1 : Txt S x1) (k : WP PR d 67 0 [vA x1, vI x4] [] S M (fun r S2 M2 => WP PR (d + 1) 78 46 [vA 191, vA x1, vI x2, vI x3, vI x4, u5, u6, u7] (r.toList ++ []) S2 M2 Q)) : WP PR (d + 1) 78 40 [vA 191, vA x1, vI x2, vI x3, vI x4, u5, u6, u7] [] S M Q := by
  refine WP.ca 2 46 43 (.invokevirtual 152) (0, 67, 0, 0) rfl ?_
  exact ⟨rfl, rfl, rfl, (hx1).o, rfl, k⟩
set_option maxRecDepth 100000 in
theorem b_X7_planYears_46 {d : Nat} {S : mSh} {M : mMem} {Q : Option mV → mSh → mMem → Prop} {x1 x2 x3 x4 s0 : Int} {u5 u6 u7 : mV} (k : WP PR d 78 54 [vA 191, vA x1, vI x2, vI x3, vI x4, vI s0, vI 0, vI 0] [] S M Q) : WP PR d 78 46 [vA 191, vA x1, vI x2, vI x3, vI x4, u5, u6, u7] [vI s0] S M Q := by
  refine WP.bl 5 54 rfl ?_
  exact k
set_option maxRecDepth 100000 in
theorem b_X7_planYears_54 {d : Nat} {S : mSh} {M : mMem} {Q : Option mV → mSh → mMem → Prop} {x1 x2 x3 x4 x5 x6 x7 : Int} (kt : x5 ≤ x7 → WP PR d 78 81 [vA 191, vA x1, vI x2, vI x3, vI x4, vI x5, vI x6, vI x7] [] S M Q) (kf : x7 < x5 → WP PR d 78 61 [vA 191, vA x1, vI x2, vI x3, vI x4, vI x5, vI x6, vI x7] [] S M Q) : WP PR d 78 54 [vA 191, vA x1, vI x2, vI x3, vI x4, vI x5, vI x6, vI x7] [] S M Q := by
  refine WP.if2 2 61 58 .ge 23 (0, 0, 0, 0) 81 rfl rfl ?_
  exact ⟨kt, fun hc => kf (Int.not_le.mp hc)⟩
set_option maxRecDepth 100000 in
theorem b_X7_planYears_61 {d : Nat} {S : mSh} {M : mMem} {Q : Option mV → mSh → mMem → Prop} {x1 x2 x3 x4 x5 x6 x7 : Int} (kt : x6 < 0 → WP PR d 78 81 [vA 191, vA x1, vI x2, vI x3, vI x4, vI x5, vI x6, vI x7] [] S M Q) (kf : 0 ≤ x6 → WP PR d 78 66 [vA 191, vA x1, vI x2, vI x3, vI x4, vI x5, vI x6, vI x7] [] S M Q) : WP PR d 78 61 [vA 191, vA x1, vI x2, vI x3, vI x4, vI x5, vI x6, vI x7] [] S M Q := by
  refine WP.if0 1 66 63 .lt 18 (0, 0, 0, 0) 81 rfl rfl ?_
  exact ⟨kt, fun hc => kf (Int.not_lt.mp hc)⟩
set_option maxRecDepth 100000 in
theorem b_X7_planYears_66 {d : Nat} {S : mSh} {M : mMem} {Q : Option mV → mSh → mMem → Prop} {x1 x2 x3 x4 x5 x6 x7 : Int} (L : Lay S) (k : WP PR d 76 0 [vA 191, vA x1, vI x4, vU, vU, vU] [] S M (fun r S2 M2 => WP PR (d + 1) 78 73 [vA 191, vA x1, vI x2, vI x3, vI x4, vI x5, vI x6, vI x7] (r.toList ++ []) S2 M2 Q)) : WP PR (d + 1) 78 66 [vA 191, vA x1, vI x2, vI x3, vI x4, vI x5, vI x6, vI x7] [] S M Q := by
  refine WP.ca 3 73 70 (.invokevirtual 160) (0, 76, 0, 0) rfl ?_
  exact ⟨rfl, rfl, rfl, lo191 L, rfl, k⟩
set_option maxRecDepth 100000 in
theorem b_X7_planYears_73 {d : Nat} {S : mSh} {M : mMem} {Q : Option mV → mSh → mMem → Prop} {x1 x2 x3 x4 x5 x6 x7 s0 : Int} (hc : R32 (x7 + 1)) (k : WP PR d 78 54 [vA 191, vA x1, vI x2, vI x3, vI x4, vI x5, vI s0, vI (x7 + 1)] [] S M Q) : WP PR d 78 73 [vA 191, vA x1, vI x2, vI x3, vI x4, vI x5, vI x6, vI x7] [vI s0] S M Q := by
  refine WP.gt 2 78 (-24) (0, 0, 0, 0) _ 54 rfl rfl ?_
  exact And.intro (hc) (k)
set_option maxRecDepth 100000 in
theorem b_X7_planYears_81 {d : Nat} {S : mSh} {M : mMem} {Q : Option mV → mSh → mMem → Prop} {x1 x2 x3 x4 x5 x6 x7 : Int} (L : Lay S) (kt : ¬ M 191 6 = 0 → WP PR d 78 101 [vA 191, vA x1, vI x2, vI x3, vI x4, vI x5, vI x6, vI x7] [vA 191] S M Q) (kf : M 191 6 = 0 → WP PR d 78 89 [vA 191, vA x1, vI x2, vI x3, vI x4, vI x5, vI x6, vI x7] [vA 191] S M Q) : WP PR d 78 81 [vA 191, vA x1, vI x2, vI x3, vI x4, vI x5, vI x6, vI x7] [] S M Q := by
  refine WP.if0 3 89 86 .ne 15 (0, 0, 0, 0) 101 rfl rfl ?_
  exact And.intro (lo191 L) (⟨kt, fun hc => kf (Decidable.not_not.mp hc)⟩)
set_option maxRecDepth 100000 in
theorem b_X7_planYears_89 {d : Nat} {S : mSh} {M : mMem} {Q : Option mV → mSh → mMem → Prop} {x1 x2 x3 x4 x5 x6 x7 : Int} (kt : 0 ≤ x6 → WP PR d 78 105 [vA 191, vA x1, vI x2, vI x3, vI x4, vI x5, vI x6, vI x7] [vA 191] S M Q) (kf : x6 < 0 → WP PR d 78 94 [vA 191, vA x1, vI x2, vI x3, vI x4, vI x5, vI x6, vI x7] [vA 191] S M Q) : WP PR d 78 89 [vA 191, vA x1, vI x2, vI x3, vI x4, vI x5, vI x6, vI x7] [vA 191] S M Q := by
  refine WP.if0 1 94 91 .ge 14 (0, 0, 0, 0) 105 rfl rfl ?_
  exact ⟨kt, fun hc => kf (Int.not_le.mp hc)⟩
set_option maxRecDepth 100000 in
theorem b_X7_planYears_94 {d : Nat} {S : mSh} {M : mMem} {Q : Option mV → mSh → mMem → Prop} {x1 x2 x3 x4 x5 x6 x7 : Int} (kt : x6 = (-9) → WP PR d 78 105 [vA 191, vA x1, vI x2, vI x3, vI x4, vI x5, vI x6, vI x7] [vA 191] S M Q) (kf : ¬ x6 = (-9) → WP PR d 78 101 [vA 191, vA x1, vI x2, vI x3, vI x4, vI x5, vI x6, vI x7] [vA 191] S M Q) : WP PR d 78 94 [vA 191, vA x1, vI x2, vI x3, vI x4, vI x5, vI x6, vI x7] [vA 191] S M Q := by
  refine WP.if2 2 101 98 .eq 7 (0, 0, 0, 0) 105 rfl rfl ?_
  exact ⟨kt, fun hc => kf hc⟩
set_option maxRecDepth 100000 in
theorem b_X7_planYears_101 {d : Nat} {S : mSh} {M : mMem} {Q : Option mV → mSh → mMem → Prop} {x1 x2 x3 x4 x5 x6 x7 : Int} (L : Lay S) (hc : R32 (x4 + 1)) (k : WP PR d 78 17 [vA 191, vA x1, vI x2, vI x3, vI (x4 + 1), vI x5, vI x6, vI x7] [] S (up M 191 6 1) Q) : WP PR d 78 101 [vA 191, vA x1, vI x2, vI x3, vI x4, vI x5, vI x6, vI x7] [vA 191] S M Q := by
  refine WP.gt 1 102 4 (0, 0, 0, 0) _ 106 rfl rfl ?_
  show WP PR d 78 106 [vA 191, vA x1, vI x2, vI x3, vI x4, vI x5, vI x6, vI x7] [vI 1, vA 191] S M Q
  refine WP.gt 2 112 (-95) (0, 0, 0, 0) _ 17 rfl rfl ?_
  exact And.intro (⟨lo191 L, Or.inr rfl⟩) (And.intro (hc) (k))
set_option maxRecDepth 100000 in
theorem b_X7_planYears_105 {d : Nat} {S : mSh} {M : mMem} {Q : Option mV → mSh → mMem → Prop} {x1 x2 x3 x4 x5 x6 x7 : Int} (L : Lay S) (hc : R32 (x4 + 1)) (k : WP PR d 78 17 [vA 191, vA x1, vI x2, vI x3, vI (x4 + 1), vI x5, vI x6, vI x7] [] S (up M 191 6 0) Q) : WP PR d 78 105 [vA 191, vA x1, vI x2, vI x3, vI x4, vI x5, vI x6, vI x7] [vA 191] S M Q := by
  refine WP.gt 3 112 (-95) (0, 0, 0, 0) _ 17 rfl rfl ?_
  exact And.intro (⟨lo191 L, Or.inl rfl⟩) (And.intro (hc) (k))
set_option maxRecDepth 100000 in
theorem b_X7_planYears_115 {d : Nat} {S : mSh} {M : mMem} {Q : Option mV → mSh → mMem → Prop} {x1 x2 x3 x4 : Int} {u5 u6 u7 : mV} (L : Lay S) (k : WP PR d 75 0 [vA 191, vU, vU] [] S M (fun r S2 M2 => WP PR (d + 1) 78 119 [vA 191, vA x1, vI x2, vI x3, vI x4, u5, u6, u7] (r.toList ++ []) S2 M2 Q)) : WP PR (d + 1) 78 115 [vA 191, vA x1, vI x2, vI x3, vI x4, u5, u6, u7] [] S M Q := by
  refine WP.ca 1 119 116 (.invokevirtual 145) (0, 75, 0, 0) rfl ?_
  exact ⟨rfl, rfl, rfl, lo191 L, rfl, k⟩
set_option maxRecDepth 100000 in
theorem b_X7_planYears_119 {d : Nat} {S : mSh} {M : mMem} {Q : Option mV → mSh → mMem → Prop} {x1 x2 x3 x4 s0 : Int} {u5 u6 u7 : mV} (hc : R32 (x3 + 1)) (k : WP PR d 78 2 [vA 191, vA x1, vI x2, vI (x3 + 1), vI x4, u5, u6, u7] [] S M Q) : WP PR d 78 119 [vA 191, vA x1, vI x2, vI x3, vI x4, u5, u6, u7] [vI s0] S M Q := by
  refine WP.gt 2 123 (-121) (0, 0, 0, 0) _ 2 rfl rfl ?_
  exact And.intro (hc) (k)
set_option maxRecDepth 100000 in
theorem b_X7_planYears_126 {d : Nat} {S : mSh} {M : mMem} {Q : Option mV → mSh → mMem → Prop} {x1 x2 x3 : Int} {u4 u5 u6 u7 : mV} (k : Q (none) S M) : WP PR d 78 126 [vA 191, vA x1, vI x2, vI x3, u4, u5, u6, u7] [] S M Q := by
  refine WP.re 0 126 .return_ (0, 0, 0, 0) _ rfl ?_
  exact ⟨rfl, rfl, trivial, k⟩
/-- SoleraCellar$Worker.harvestYear(I)I -/
abbrev e_X7_harvestYear (d : Nat) (a1 : Int) (S : mSh) (M : mMem) (Q : Option mV → mSh → mMem → Prop) : Prop := WP PR d 79 0 [vA 191, vI a1, vU, vU, vU, vU] [] S M Q
set_option maxRecDepth 100000 in
theorem b_X7_harvestYear_0 {d : Nat} {S : mSh} {M : mMem} {Q : Option mV → mSh → mMem → Prop} {x1 : Int} {q1 : Int} (eq1 : M 191 2 = q1) (L : Lay S) (hq1 : Stk S q1) (kt : 1 ≤ M q1 6 → WP PR d 79 13 [vA 191, vI x1, vU, vU, vU, vU] [] S M Q) (kf : M q1 6 < 1 → WP PR d 79 11 [vA 191, vI x1, vU, vU, vU, vU] [] S M Q) : WP PR d 79 0 [vA 191, vI x1, vU, vU, vU, vU] [] S M Q := by
  subst eq1
  refine WP.if2 4 11 8 .ge 5 (0, 0, 0, 0) 13 rfl rfl ?_
  exact And.intro (lo191 L) (And.intro ((hq1).o) (⟨kt, fun hc => kf (Int.not_le.mp hc)⟩))
set_option maxRecDepth 100000 in
theorem b_X7_harvestYear_11 {d : Nat} {S : mSh} {M : mMem} {Q : Option mV → mSh → mMem → Prop} {x1 : Int} {u2 u3 u4 u5 : mV} (k : Q (some (vI x1)) S M) : WP PR d 79 11 [vA 191, vI x1, u2, u3, u4, u5] [] S M Q := by
  refine WP.re 1 12 .ireturn (0, 0, 0, 0) _ rfl ?_
  exact ⟨rfl, rfl, trivial, k⟩
set_option maxRecDepth 100000 in
theorem b_X7_harvestYear_13 {d : Nat} {S : mSh} {M : mMem} {Q : Option mV → mSh → mMem → Prop} {x1 : Int} {u2 u3 u4 u5 : mV} (k : WP PR d 80 0 [vI x1] [] S M (fun r S2 M2 => WP PR (d + 1) 79 17 [vA 191, vI x1, u2, u3, u4, u5] (r.toList ++ []) S2 M2 Q)) : WP PR (d + 1) 79 13 [vA 191, vI x1, u2, u3, u4, u5] [] S M Q := by
  refine WP.ca 1 17 14 (.invokestatic 168) (0, 80, 0, 0) rfl ?_
  exact ⟨rfl, rfl, rfl, trivial, rfl, k⟩
set_option maxRecDepth 100000 in
theorem b_X7_harvestYear_17 {d : Nat} {S : mSh} {M : mMem} {Q : Option mV → mSh → mMem → Prop} {x1 s0 : Int} {u2 u3 u4 u5 : mV} {q1 : Int} (eq1 : M 191 2 = q1) (L : Lay S) (hq1 : Stk S q1) (hc : (M q1 6) ≠ 0 ∧ R32 (s0.tdiv (M q1 6))) (k : WP PR d 80 0 [vI s0] [] S M (fun r S2 M2 => WP PR (d + 1) 79 32 [vA 191, vI x1, vI s0, vI (s0.tmod (M q1 6)), u4, u5] (r.toList ++ []) S2 M2 Q)) : WP PR (d + 1) 79 17 [vA 191, vI x1, u2, u3, u4, u5] [vI s0] S M Q := by
  subst eq1
  refine WP.ca 8 32 29 (.invokestatic 168) (0, 80, 0, 0) rfl ?_
  exact And.intro (lo191 L) (And.intro ((hq1).o) (And.intro (⟨hc.1, hc.2⟩) (⟨rfl, rfl, rfl, trivial, rfl, k⟩)))
set_option maxRecDepth 100000 in
theorem b_X7_harvestYear_32 {d : Nat} {S : mSh} {M : mMem} {Q : Option mV → mSh → mMem → Prop} {x1 x2 x3 s0 : Int} {u4 u5 : mV} {q1 : Int} (eq1 : M 191 2 = q1) (L : Lay S) (hq1 : Stk S q1) (hc : (M q1 6) ≠ 0 ∧ R32 (s0.tdiv (M q1 6))) (k : WP PR d 80 0 [vI s0] [] S M (fun r S2 M2 => WP PR (d + 1) 79 48 [vA 191, vI x1, vI s0, vI x3, vI (s0.tmod (M q1 6)), u5] (r.toList ++ []) S2 M2 Q)) : WP PR (d + 1) 79 32 [vA 191, vI x1, vI x2, vI x3, u4, u5] [vI s0] S M Q := by
  subst eq1
  refine WP.ca 8 48 45 (.invokestatic 168) (0, 80, 0, 0) rfl ?_
  exact And.intro (lo191 L) (And.intro ((hq1).o) (And.intro (⟨hc.1, hc.2⟩) (⟨rfl, rfl, rfl, trivial, rfl, k⟩)))
set_option maxRecDepth 100000 in
theorem b_X7_harvestYear_48 {d : Nat} {S : mSh} {M : mMem} {Q : Option mV → mSh → mMem → Prop} {x1 x2 x3 x4 s0 : Int} {u5 : mV} (hc : R32 (s0.tdiv 9) ∧ R32 ((s0.tmod 9) + 1)) (k : WP PR d 80 0 [vI s0] [] S M (fun r S2 M2 => WP PR (d + 1) 79 61 [vA 191, vI x1, vI s0, vI x3, vI x4, vI ((s0.tmod 9) + 1)] (r.toList ++ []) S2 M2 Q)) : WP PR (d + 1) 79 48 [vA 191, vI x1, vI x2, vI x3, vI x4, u5] [vI s0] S M Q := by
  refine WP.ca 8 61 58 (.invokestatic 168) (0, 80, 0, 0) rfl ?_
  exact And.intro (⟨by decide, hc.1⟩) (And.intro (hc.2) (⟨rfl, rfl, rfl, trivial, rfl, k⟩))
set_option maxRecDepth 100000 in
theorem b_X7_harvestYear_61 {d : Nat} {S : mSh} {M : mMem} {Q : Option mV → mSh → mMem → Prop} {x1 x2 x3 x4 x5 s0 : Int} (hc : R32 (s0.tdiv 4)) (k : WP PR d 79 (swT 65 (s0.tmod 4) 62 0 2 [27, 38, 51]) [vA 191, vI x1, vI s0, vI x3, vI x4, vI x5] [] S M Q) : WP PR d 79 61 [vA 191, vI x1, vI x2, vI x3, vI x4, vI x5] [vI s0] S M Q := by
  refine WP.sw 4 65 62 0 2 #[27, 38, 51] (0, 0, 0, 0) _ rfl ?_
  exact And.intro (⟨by decide, hc⟩) (k)
set_option maxRecDepth 100000 in
theorem b_X7_harvestYear_92 {d : Nat} {S : mSh} {M : mMem} {Q : Option mV → mSh → mMem → Prop} {x1 x2 x3 x4 x5 : Int} (L : Lay S) (k : WP PR d 72 0 [vA 191, vI x3, vI x5] [] S M (fun r S2 M2 => WP PR (d + 1) 79 99 [vA 191, vI x1, vI x2, vI x3, vI x4, vI x5] (r.toList ++ []) S2 M2 Q)) : WP PR (d + 1) 79 92 [vA 191, vI x1, vI x2, vI x3, vI x4, vI x5] [] S M Q := by
  refine WP.ca 3 99 96 (.invokevirtual 128) (0, 72, 0, 0) rfl ?_
  exact ⟨rfl, rfl, rfl, lo191 L, rfl, k⟩
set_option maxRecDepth 100000 in
theorem b_X7_harvestYear_99 {d : Nat} {S : mSh} {M : mMem} {Q : Option mV → mSh → mMem → Prop} {x1 x2 x3 x4 x5 s0 : Int} (L : Lay S) (k : WP PR d 75 0 [vA 191, vU, vU] [] S M (fun r S2 M2 => WP PR (d + 1) 79 131 [vA 191, vI x1, vI x2, vI x3, vI x4, vI x5] (r.toList ++ []) S2 M2 Q)) : WP PR (d + 1) 79 99 [vA 191, vI x1, vI x2, vI x3, vI x4, vI x5] [vI s0] S M Q := by
  refine WP.gt 1 100 27 (0, 0, 0, 0) _ 127 rfl rfl ?_
  show WP PR (d + 1) 79 127 [vA 191, vI x1, vI x2, vI x3, vI x4, vI x5] [] S M Q
  refine WP.ca 1 131 128 (.invokevirtual 145) (0, 75, 0, 0) rfl ?_
  exact ⟨rfl, rfl, rfl, lo191 L, rfl, k⟩
set_option maxRecDepth 100000 in
theorem b_X7_harvestYear_103 {d : Nat} {S : mSh} {M : mMem} {Q : Option mV → mSh → mMem → Prop} {x1 x2 x3 x4 x5 : Int} (L : Lay S) (k : WP PR d 73 0 [vA 191, vI x3, vI x4, vI x5, vU] [] S M (fun r S2 M2 => WP PR (d + 1) 79 112 [vA 191, vI x1, vI x2, vI x3, vI x4, vI x5] (r.toList ++ []) S2 M2 Q)) : WP PR (d + 1) 79 103 [vA 191, vI x1, vI x2, vI x3, vI x4, vI x5] [] S M Q := by
  refine WP.ca 4 112 109 (.invokevirtual 131) (0, 73, 0, 0) rfl ?_
  exact ⟨rfl, rfl, rfl, lo191 L, rfl, k⟩
set_option maxRecDepth 100000 in
theorem b_X7_harvestYear_112 {d : Nat} {S : mSh} {M : mMem} {Q : Option mV → mSh → mMem → Prop} {x1 x2 x3 x4 x5 s0 : Int} (L : Lay S) (k : WP PR d 75 0 [vA 191, vU, vU] [] S M (fun r S2 M2 => WP PR (d + 1) 79 131 [vA 191, vI x1, vI x2, vI x3, vI x4, vI x5] (r.toList ++ []) S2 M2 Q)) : WP PR (d + 1) 79 112 [vA 191, vI x1, vI x2, vI x3, vI x4, vI x5] [vI s0] S M Q := by
  refine WP.gt 1 113 14 (0, 0, 0, 0) _ 127 rfl rfl ?_
  show WP PR (d + 1) 79 127 [vA 191, vI x1, vI x2, vI x3, vI x4, vI x5] [] S M Q
  refine WP.ca 1 131 128 (.invokevirtual 145) (0, 75, 0, 0) rfl ?_
  exact ⟨rfl, rfl, rfl, lo191 L, rfl, k⟩
set_option maxRecDepth 100000 in
theorem b_X7_harvestYear_116 {d : Nat} {S : mSh} {M : mMem} {Q : Option mV → mSh → mMem → Prop} {x1 x2 x3 x4 x5 : Int} (L : Lay S) (k : WP PR d 74 0 [vA 191, vI x3, vI x5, vU, vU, vU] [] S M (fun r S2 M2 => WP PR (d + 1) 79 123 [vA 191, vI x1, vI x2, vI x3, vI x4, vI x5] (r.toList ++ []) S2 M2 Q)) : WP PR (d + 1) 79 116 [vA 191, vI x1, vI x2, vI x3, vI x4, vI x5] [] S M Q := by
  refine WP.ca 3 123 120 (.invokevirtual 135) (0, 74, 0, 0) rfl ?_
  exact ⟨rfl, rfl, rfl, lo191 L, rfl, k⟩
set_option maxRecDepth 100000 in
theorem b_X7_harvestYear_123 {d : Nat} {S : mSh} {M : mMem} {Q : Option mV → mSh → mMem → Prop} {x1 x2 x3 x4 x5 s0 : Int} (L : Lay S) (k : WP PR d 75 0 [vA 191, vU, vU] [] S M (fun r S2 M2 => WP PR (d + 1) 79 131 [vA 191, vI x1, vI x2, vI x3, vI x4, vI x5] (r.toList ++ []) S2 M2 Q)) : WP PR (d + 1) 79 123 [vA 191, vI x1, vI x2, vI x3, vI x4, vI x5] [vI s0] S M Q := by
  refine WP.gt 1 124 3 (0, 0, 0, 0) _ 127 rfl rfl ?_
  show WP PR (d + 1) 79 127 [vA 191, vI x1, vI x2, vI x3, vI x4, vI x5] [] S M Q
  refine WP.ca 1 131 128 (.invokevirtual 145) (0, 75, 0, 0) rfl ?_
  exact ⟨rfl, rfl, rfl, lo191 L, rfl, k⟩
set_option maxRecDepth 100000 in
theorem b_X7_harvestYear_127 {d : Nat} {S : mSh} {M : mMem} {Q : Option mV → mSh → mMem → Prop} {x1 x2 x3 x4 x5 : Int} (L : Lay S) (k : WP PR d 75 0 [vA 191, vU, vU] [] S M (fun r S2 M2 => WP PR (d + 1) 79 131 [vA 191, vI x1, vI x2, vI x3, vI x4, vI x5] (r.toList ++ []) S2 M2 Q)) : WP PR (d + 1) 79 127 [vA 191, vI x1, vI x2, vI x3, vI x4, vI x5] [] S M Q := by
  refine WP.ca 1 131 128 (.invokevirtual 145) (0, 75, 0, 0) rfl ?_
  exact ⟨rfl, rfl, rfl, lo191 L, rfl, k⟩
set_option maxRecDepth 100000 in
theorem b_X7_harvestYear_131 {d : Nat} {S : mSh} {M : mMem} {Q : Option mV → mSh → mMem → Prop} {x1 x2 x3 x4 x5 s0 : Int} (k : Q (some (vI x2)) S M) : WP PR d 79 131 [vA 191, vI x1, vI x2, vI x3, vI x4, vI x5] [vI s0] S M Q := by
  refine WP.re 2 133 .ireturn (0, 0, 0, 0) _ rfl ?_
  exact ⟨rfl, rfl, trivial, k⟩
/-- SoleraCellar$Worker.drawAfter(I)I -/
abbrev e_X7_drawAfter (d : Nat) (a0 : Int) (S : mSh) (M : mMem) (Q : Option mV → mSh → mMem → Prop) : Prop := WP PR d 80 0 [vI a0] [] S M Q
set_option maxRecDepth 100000 in
theorem b_X7_drawAfter_0 {d : Nat} {S : mSh} {M : mMem} {Q : Option mV → mSh → mMem → Prop} {x0 : Int} (hc : R32 (x0 * 1103) ∧ R32 ((x0 * 1103) + 12345) ∧ R32 (((x0 * 1103) + 12345).tdiv 1000003)) (k : Q (some (vI (((x0 * 1103) + 12345).tmod 1000003))) S M) : WP PR d 80 0 [vI x0] [] S M Q := by
  refine WP.re 7 12 .ireturn (0, 0, 0, 0) _ rfl ?_
  exact And.intro (hc.1) (And.intro (hc.2.1) (And.intro (⟨by decide, hc.2.2⟩) (⟨rfl, rfl, trivial, k⟩)))
