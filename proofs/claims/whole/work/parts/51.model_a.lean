/-! The reference's methods, first piece. -/
section MA
variable {d : Nat} {S : mSh} {M : mMem} {Q : Option mV → mSh → mMem → Prop}
theorem s_in {v lo hi : Int} (k1 : lo ≤ v ∧ v ≤ hi → Q (some (vI 1)) S M) (k0 : ¬ (lo ≤ v ∧ v ≤ hi) → Q (some (vI 0)) S M) : e_X9_in d v lo hi S M Q :=
  b_X9_in_0 (fun h => b_X9_in_17 (k0 (by omega))) (fun h => b_X9_in_6 (fun h2 => b_X9_in_17 (k0 (by omega))) (fun h2 => b_X9_in_13 (k1 ⟨h, h2⟩)))
theorem s_dropsOf (L : Lay S) {c a : Int} (hc : 0 ≤ c ∧ c < 8) (ha : 0 ≤ a ∧ a < 20) (k : Q (some (vI (dM M (20 * c + a)))) S M) : e_X9_dropsOf d c a S M Q := by
  refine b_X9_dropsOf_0 L (by omega) ?_
  rw [Int.add_assoc]; exact k
theorem s_allOf_loop (L : Lay S) (hD : okD (dM M)) {c : Int} (hc : 0 ≤ c ∧ c < 8) (k : Q (some (vI (allD (dM M) c))) S M) : ∀ (n : Nat), n ≤ 20 → WP PR (d + 1) 146 4 [vA 200, vI c, vI (sumN (fun a => dM M (20 * c + a)) (20 - n)), vI ((20 - n : Nat) : Int)] [] S M Q := by
  intro n
  induction n with
  | zero => intro _; exact b_X9_allOf_4 (fun _ => b_X9_allOf_25 k) (fun h => absurd h (by decide))
  | succ n ih =>
    intro hn
    have ih := ih (by omega)
    have e : 20 - n = (20 - (n + 1)) + 1 := by omega
    rw [e] at ih
    generalize hm : 20 - (n + 1) = m at ih ⊢
    have hm2 : (m : Int) < 20 := by omega
    refine b_X9_allOf_4 (fun h => absurd h (by omega)) (fun _ => b_X9_allOf_10 L (s_dropsOf L hc ⟨by omega, hm2⟩ ?_))
    have h1 := sumN_bd (f := fun a => dM M (20 * c + a)) (B := 999000) (n := m) (fun a q1 q2 => hD _ (by omega) (by omega))
    have h2 := hD (20 * c + m) (by omega) (by omega)
    refine b_X9_allOf_17 (by omega) ?_
    exact ih
theorem s_allOf (L : Lay S) (hD : okD (dM M)) {c : Int} (hc : 0 ≤ c ∧ c < 8) (k : Q (some (vI (allD (dM M) c))) S M) : e_X9_allOf (d + 1) c S M Q := b_X9_allOf_0 (s_allOf_loop L hD hc k 20 (Nat.le_refl _))
end MA
