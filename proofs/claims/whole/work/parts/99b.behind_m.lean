/-! The reference reads a word and the sum behind it. -/
section OB
variable {d : Nat} {S : mSh} {M : mMem} {Q : Option mV → mSh → mMem → Prop} {tp : Int → Int} {len p nl lf : Int}
theorem s_readBehind (L : Lay S) (hlf : ¬ lf = 0) (h : EPre lf tp len p nl M) (ht : TabM M) {at' c : Int} (ha : 0 ≤ at' ∧ at' + 1 < 120)
    (kG : (tS tp len p = 1 ∧ tW tp len p = c) → ∀ q m D M', prs tp len false FU 4 D0 (tT tp len p) nl 0 = .inr (q, m, D) → EPre lf tp len q m M' → p < q → SumW M at' (some D) M' → Q none S M')
    (kB : ∀ f M', ((tS tp len p = 1 ∧ tW tp len p = c) → prs tp len false FU 4 D0 (tT tp len p) nl 0 = .inl f) → (¬ (tS tp len p = 1 ∧ tW tp len p = c) → f = tF tp len p) → BadR M f M' → Q none S M') : e_X9_readBehind (d + 8) c at' S M Q := by
  have bd := h.1.2.2.2.2.1.bd
  refine b_X9_readBehind_0 L (fun w => absurd h.2.2.1 w) (fun _ => b_X9_readBehind_7 L (s_isWord L h.1 (fun hw => b_X9_readBehind_13 L (s_must1 L h.1 h.2.2.1 (fun M1 r1 f1 => b_X9_readBehind_16 L ?_))) (fun hw => b_X9_readBehind_13 L (s_must0 L h.1 h.2.2.1 (b_X9_readBehind_16 L (s_readSumB L (M0 := M) (f := tF tp len p) ⟨⟨by rw [up_ni (by decide), up_s], up_s _ _ _ _⟩, fun a i q => ?_⟩ ha (fun M2 b2 => b_X9_readBehind_21 (kB _ M2 (fun w => absurd w hw) (fun _ => rfl) b2))))))))
  · refine s_readSum L hlf (h.nx r1 f1) (ht.mvT (FrTM.ofT f1)) ha (fun q m D M2 eq p2 hq sw => b_X9_readBehind_21 (kG hw q m D M2 eq p2 (by omega) ⟨sw.1, fun a i w => (sw.2.1 a i w).trans (f1 a i (by omega)), ?_, fun i q0 q1 => ?_⟩)) (fun f M2 eq b => b_X9_readBehind_21 (kB f M2 (fun _ => eq) (fun w => absurd hw w) ⟨b.1, (FrTM.ofT f1).tr b.2⟩))
    · have := sw.2.2.1; rw [f1 200 23 (by omega)] at this; exact this
    · rw [sw.2.2.2 i q0 (by rw [f1 200 23 (by omega)]; exact q1), f1.cd]
  · by_cases ea : a = 200
    · subst ea; rw [up_ni (by omega), up_ni (by omega)]
    · rw [up_na ea, up_na ea]
theorem s_readBehindB (L : Lay S) {M0 : mMem} {f at' c : Int} (h : BadR M0 f M) (ha : 0 ≤ at' ∧ at' + 1 < 120) (k : ∀ M', BadR M0 f M' → Q none S M') : e_X9_readBehind (d + 1) c at' S M Q :=
  b_X9_readBehind_0 L (fun _ => b_X9_readBehind_16 L (s_readSumB L h ha (fun M1 b1 => b_X9_readBehind_21 (k M1 b1)))) (fun w => absurd w (by rw [h.1.1]; decide))
end OB
