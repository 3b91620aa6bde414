/-! A number of an order; what isn't there is a fault. -/
section OC
variable {d : Nat} {S : mSh} {M : mMem} {Q : Option mV → mSh → mMem → Prop} {tp : Int → Int} {len p nl lf : Int}
theorem s_wrE (L : Lay S) (h : EPre lf tp len p nl M) (k : ∀ M', BadR M (tF tp len p) M' → Q none S M') : e_X9_must d 0 S M Q := by
  refine s_must0 L h.1 h.2.2.1 (k _ ⟨⟨by rw [up_ni (by decide), up_s], up_s _ _ _ _⟩, fun a i q => ?_⟩)
  by_cases ea : a = 200
  · subst ea; rw [up_ni (by omega), up_ni (by omega)]
  · rw [up_na ea, up_na ea]
theorem s_numE (L : Lay S) (h : EPre lf tp len p nl M) {lo hi : Int} (hb : 0 ≤ lo ∧ hi ≤ 1000) (k1 : tS tp len p = 2 ∧ lo ≤ tW tp len p ∧ tW tp len p ≤ hi → ∀ M', EPre lf tp len (tT tp len p) nl M' → FrT4 M M' → Q (some (vI (tW tp len p))) S M') (k0 : ¬ (tS tp len p = 2 ∧ lo ≤ tW tp len p ∧ tW tp len p ≤ hi) → ∀ v M', BadR M (tF tp len p) M' → Q (some (vI v)) S M') : e_X9_number (d + 3) lo hi S M Q := by
  have e16 : M 200 16 = tS tp len p := h.1.2.2.2.2.2.2.2.1
  have e17 : M 200 17 = tW tp len p := h.1.2.2.2.2.2.2.2.2
  rw [← e16, ← e17] at k0 k1
  refine b_X9_number_0 L (fun q => b_X9_number_32 L (s_wrE L h (fun M1 b1 => b_X9_number_36 (k0 (fun w => q w.1) _ M1 b1)))) (fun q => b_X9_number_16 L (s_in (fun q2 => b_X9_number_25 (fun q' => absurd q' (by decide)) (fun _ => b_X9_number_28 L (s_must1 L h.1 h.2.2.1 (fun M1 r1 f1 => b_X9_number_36 ?_)))) (fun q2 => b_X9_number_25 (fun _ => b_X9_number_32 L (s_wrE L h (fun M1 b1 => b_X9_number_36 (k0 (fun w => q2 w.2) _ M1 b1)))) (fun q' => absurd rfl q'))))
  rw [w32_id (by omega)]
  exact k1 ⟨q, q2⟩ M1 (h.nx r1 f1) f1
end OC
