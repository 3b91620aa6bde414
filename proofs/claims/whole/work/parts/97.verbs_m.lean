/-! The reference's verbs, and its new rows (by wip/whole/gen97.py). -/
def kdN (laws : Bool) (s w : Int) : Int := if vrb laws s w = -1 then -1 else kdV laws (vrb laws s w)
theorem kdN_V (s w : Int) {x : Int} (hx : 0 ≤ x ∧ x < 3) : (s = 1 ∧ w = tabV x) ↔ kdN true s w = x := by
  unfold kdN vrb kdV lawV
  by_cases hs : s = 1
  · obtain h | h | h : x = 0 ∨ x = 1 ∨ x = 2 := by omega
    all_goals (subst h; simp only [tabV, hs]; simp; split <;> (try split) <;> (try split) <;> (try split) <;> omega)
  · rw [if_neg hs, if_pos rfl]; omega
theorem kdN_W (s w : Int) {x : Int} (hx : 0 ≤ x ∧ x < 4) : (s = 1 ∧ w = tabW x) ↔ kdN false s w = x := by
  unfold kdN vrb kdV ordV
  by_cases hs : s = 1
  · obtain h | h | h | h : x = 0 ∨ x = 1 ∨ x = 2 ∨ x = 3 := by omega
    all_goals (subst h; simp only [tabW, hs]; simp; split <;> (try split) <;> (try split) <;> (try split) <;> (try split) <;> omega)
  · rw [if_neg hs, if_pos rfl]; omega
theorem kdN_rng (laws : Bool) (s w : Int) : kdN laws s w = -1 ∨ (0 ≤ kdN laws s w ∧ kdN laws s w < (if laws = true then 3 else 4)) := by
  have := vrb_rng laws s w
  unfold kdN kdV
  by_cases h : vrb laws s w = -1
  · rw [if_pos h]; exact Or.inl rfl
  · rw [if_neg h]
    cases laws
    · simp at this ⊢; omega
    · simp at this ⊢; omega
section RY
variable {d : Nat} {S : mSh} {M : mMem} {Q : Option mV → mSh → mMem → Prop} {tp : Int → Int} {len p : Int}
theorem s_readLawv (L : Lay S) (h : RdM tp len p M) (ht : TabM M) (k : WP PR (d + 1) 188 34 [vA 200, vI (kdN true (tS tp len p) (tW tp len p)), vI 3, vU] [] S M Q) : e_X9_readLaw (d + 1) S M Q := by
  have rg := kdN_rng true (tS tp len p) (tW tp len p)
  rw [if_pos rfl] at rg
  have hw : ∀ x, 0 ≤ x ∧ x < 3 → ((tS tp len p = 1 ∧ tW tp len p = tabV x) ↔ kdN true (tS tp len p) (tW tp len p) = x) := fun x hx => kdN_V _ _ hx
  generalize kdN true (tS tp len p) (tW tp len p) = r at *
  refine b_X9_readLaw_0 ?_
  have key := for_up (W := fun x => ∀ x1, (x1 = if 0 ≤ r ∧ r < x then r else -1) → WP PR (d + 1) 188 4 [vA 200, vI x1, vI x, vU] [] S M Q) (lo := 0) (hi := 3) (by decide) (fun x1 e => b_X9_readLaw_4 (fun _ => ?_) (fun q => absurd q (by decide))) (fun x x0 x7 ih x1 e => b_X9_readLaw_4 (fun q => absurd q (by omega)) (fun _ => b_X9_readLaw_9 L ⟨x0, x7⟩ ?_))
  · exact key (-1) (by rw [if_neg (by omega)])
  · rw [show x1 = r by rw [e]; split <;> omega]; exact k
  · rw [ht.2.1 x x0 x7]
    refine s_isWord L h (fun q => b_X9_readLaw_19 (fun q' => absurd q' (by decide)) (fun _ => b_X9_readLaw_22 (by omega) (ih _ ?_))) (fun q => b_X9_readLaw_19 (fun _ => b_X9_readLaw_26 (by omega) (ih _ ?_)) (fun q' => absurd rfl q'))
    · have := (hw x ⟨x0, x7⟩).mp q
      rw [if_pos (by omega)]; omega
    · have : ¬ r = x := fun q' => q ((hw x ⟨x0, x7⟩).mpr q')
      rw [e]; split <;> split <;> omega
theorem s_readLawz (L : Lay S) {x1 x2 : Int} (hx : 0 ≤ x2 ∧ x2 + 8 ≤ 96) (k : ∀ M', (∀ a i, ¬ (a = 210 ∧ x2 ≤ i ∧ i < x2 + 8) → M' a i = M a i) → WP PR (d + 1) 188 96 [vA 200, vI x1, vI x2, vI 8] [] S M' Q) : WP PR (d + 1) 188 75 [vA 200, vI x1, vI x2, vI 0] [] S M Q := by
  have key := for_up (W := fun x => ∀ M1, (∀ a i, ¬ (a = 210 ∧ x2 ≤ i ∧ i < x2 + 8) → M1 a i = M a i) → WP PR (d + 1) 188 75 [vA 200, vI x1, vI x2, vI x] [] S M1 Q) (lo := 0) (hi := 8) (by decide) (fun M1 f1 => b_X9_readLaw_75 (fun _ => k M1 f1) (fun q => absurd q (by decide))) (fun x x0 x7 ih M1 f1 => b_X9_readLaw_75 (fun q => absurd q (by omega)) (fun _ => b_X9_readLaw_81 L (by omega) (ih _ (fun a i q => ?_))))
  · exact key M (fun _ _ _ => rfl)
  · by_cases ea : a = 210
    · subst ea; rw [up_ni (by omega)]; exact f1 _ _ q
    · rw [up_na ea]; exact f1 _ _ q
theorem s_readOrderv (L : Lay S) (h : RdM tp len p M) (ht : TabM M) (k : WP PR (d + 1) 219 34 [vA 200, vI (kdN false (tS tp len p) (tW tp len p)), vI 4, vU] [] S M Q) : e_X9_readOrder (d + 1) S M Q := by
  have rg := kdN_rng false (tS tp len p) (tW tp len p)
  rw [if_neg (by decide)] at rg
  have hw : ∀ x, 0 ≤ x ∧ x < 4 → ((tS tp len p = 1 ∧ tW tp len p = tabW x) ↔ kdN false (tS tp len p) (tW tp len p) = x) := fun x hx => kdN_W _ _ hx
  generalize kdN false (tS tp len p) (tW tp len p) = r at *
  refine b_X9_readOrder_0 ?_
  have key := for_up (W := fun x => ∀ x1, (x1 = if 0 ≤ r ∧ r < x then r else -1) → WP PR (d + 1) 219 4 [vA 200, vI x1, vI x, vU] [] S M Q) (lo := 0) (hi := 4) (by decide) (fun x1 e => b_X9_readOrder_4 (fun _ => ?_) (fun q => absurd q (by decide))) (fun x x0 x7 ih x1 e => b_X9_readOrder_4 (fun q => absurd q (by omega)) (fun _ => b_X9_readOrder_9 L ⟨x0, x7⟩ ?_))
  · exact key (-1) (by rw [if_neg (by omega)])
  · rw [show x1 = r by rw [e]; split <;> omega]; exact k
  · rw [ht.2.2 x x0 x7]
    refine s_isWord L h (fun q => b_X9_readOrder_19 (fun q' => absurd q' (by decide)) (fun _ => b_X9_readOrder_22 (by omega) (ih _ ?_))) (fun q => b_X9_readOrder_19 (fun _ => b_X9_readOrder_26 (by omega) (ih _ ?_)) (fun q' => absurd rfl q'))
    · have := (hw x ⟨x0, x7⟩).mp q
      rw [if_pos (by omega)]; omega
    · have : ¬ r = x := fun q' => q ((hw x ⟨x0, x7⟩).mpr q')
      rw [e]; split <;> split <;> omega
theorem s_readOrderz (L : Lay S) {x1 x2 : Int} (hx : 0 ≤ x2 ∧ x2 + 10 ≤ 120) (k : ∀ M', (∀ a i, ¬ (a = 223 ∧ x2 ≤ i ∧ i < x2 + 10) → M' a i = M a i) → WP PR (d + 1) 219 106 [vA 200, vI x1, vI x2, vI 10] [] S M' Q) : WP PR (d + 1) 219 85 [vA 200, vI x1, vI x2, vI 0] [] S M Q := by
  have key := for_up (W := fun x => ∀ M1, (∀ a i, ¬ (a = 223 ∧ x2 ≤ i ∧ i < x2 + 10) → M1 a i = M a i) → WP PR (d + 1) 219 85 [vA 200, vI x1, vI x2, vI x] [] S M1 Q) (lo := 0) (hi := 10) (by decide) (fun M1 f1 => b_X9_readOrder_85 (fun _ => k M1 f1) (fun q => absurd q (by decide))) (fun x x0 x7 ih M1 f1 => b_X9_readOrder_85 (fun q => absurd q (by omega)) (fun _ => b_X9_readOrder_91 L (by omega) (ih _ (fun a i q => ?_))))
  · exact key M (fun _ _ _ => rfl)
  · by_cases ea : a = 223
    · subst ea; rw [up_ni (by omega)]; exact f1 _ _ q
    · rw [up_na ea]; exact f1 _ _ q
end RY
