/-! The law's loop. -/
theorem lw_exit {n : Int} {S : mSh} {M : mMem} {x : Int} (h : CP n S M) : WP PR 1000 258 1185 [vA (-1), vA 1, vA 200, vI x] [] S M (fun r S _ => r = some (vI 1) ∧ sN S ≤ 600000 ∧ sU S ≤ 7302250) := by
  have nn := h.nn
  have s1 := h.sz.1
  have s2 := h.sz.2
  exact b_L_law_1185 ⟨rfl, by omega, by omega⟩
set_option maxRecDepth 100000 in
theorem lw_loop {L : Nat} (hL : L ≤ 3072) {S : mSh} {M : mMem} (h : CP 0 S M) (hl : sL S (-1) = (L : Int)) : WP PR 1000 258 18 [vA (-1), vA 1, vA 200, vI 0] [] S M (fun r S _ => r = some (vI 1) ∧ sN S ≤ 600000 ∧ sU S ≤ 7302250) := by
  refine for_up (W := fun n => ∀ S M, CP n S M → sL S (-1) = (L : Int) → WP PR 1000 258 18 [vA (-1), vA 1, vA 200, vI (6 * n)] [] S M (fun r S _ => r = some (vI 1) ∧ sN S ≤ 600000 ∧ sU S ≤ 7302250)) (lo := 0) (hi := 512) (by decide) ?_ ?_ S M h hl
  · intro S M h hl
    exact b_L_law_18 (by omega) (fun _ => lw_exit h) (fun w => absurd w (by omega))
  · intro n n0 n1 ih S M h hl
    refine b_L_law_18 (by omega) (fun _ => lw_exit h) (fun w => b_L_law_27 (by omega) ?_)
    have nxt : ∀ S' M', CP (n + 1) S' M' → sL S' (-1) = sL S (-1) → M' (-1) = M (-1) → WP PR 1000 258 1179 [vA (-1), vA 1, vA 200, vI (6 * n)] [] S' M' (fun r S _ => r = some (vI 1) ∧ sN S ≤ 600000 ∧ sU S ≤ 7302250) := fun S' M' c e _ => by
      refine b_L_law_1179 (by omega) ?_
      have := ih S' M' c (e.trans hl)
      rw [show 6 * (n + 1) = 6 * n + 6 by omega] at this
      exact this
    generalize band (M (-1) (6 * n)) 63 = v
    by_cases hv : v < 0 ∨ 36 < v
    · rw [swT_d hv]
      exact nxt S M (h.up1 n1) rfl rfl
    · have hm : sL S (-1) ≤ 3072 := by omega
      have hc : v = 0 ∨ v = 1 ∨ v = 2 ∨ v = 3 ∨ v = 4 ∨ v = 5 ∨ v = 6 ∨ v = 7 ∨ v = 8 ∨ v = 9 ∨ v = 10 ∨ v = 11 ∨ v = 12 ∨ v = 13 ∨ v = 14 ∨ v = 15 ∨ v = 16 ∨ v = 17 ∨ v = 18 ∨ v = 19 ∨ v = 20 ∨ v = 21 ∨ v = 22 ∨ v = 23 ∨ v = 24 ∨ v = 25 ∨ v = 26 ∨ v = 27 ∨ v = 28 ∨ v = 29 ∨ v = 30 ∨ v = 31 ∨ v = 32 ∨ v = 33 ∨ v = 34 ∨ v = 35 ∨ v = 36 := by omega
      rcases hc with rfl | rfl | rfl | rfl | rfl | rfl | rfl | rfl | rfl | rfl | rfl | rfl | rfl | rfl | rfl | rfl | rfl | rfl | rfl | rfl | rfl | rfl | rfl | rfl | rfl | rfl | rfl | rfl | rfl | rfl | rfl | rfl | rfl | rfl | rfl | rfl | rfl
      · exact lw_0 h n1 w hm nxt
      · exact lw_1 h n1 w hm nxt
      · exact lw_2 h n1 w hm nxt
      · exact lw_3 h n1 w hm nxt
      · exact lw_4 h n1 w hm nxt
      · exact lw_5 h n1 w hm nxt
      · exact lw_6 h n1 w hm nxt
      · exact lw_7 h n1 w hm nxt
      · exact lw_8 h n1 w hm nxt
      · exact lw_9 h n1 w hm nxt
      · exact lw_10 h n1 w hm nxt
      · exact lw_11 h n1 w hm nxt
      · exact lw_12 h n1 w hm nxt
      · exact lw_13 h n1 w hm nxt
      · exact lw_14 h n1 w hm nxt
      · exact lw_15 h n1 w hm nxt
      · exact lw_16 h n1 w hm nxt
      · exact lw_17 h n1 w hm nxt
      · exact lw_18 h n1 w hm nxt
      · exact lw_19 h n1 w hm nxt
      · exact lw_20 h n1 w hm nxt
      · exact lw_21 h n1 w hm nxt
      · exact lw_22 h n1 w hm nxt
      · exact lw_23 h n1 w hm nxt
      · exact lw_24 h n1 w hm nxt
      · exact lw_25 h n1 w hm nxt
      · exact lw_26 h n1 w hm nxt
      · exact lw_27 h n1 w hm nxt
      · exact lw_28 h n1 w hm nxt
      · exact lw_29 h n1 w hm nxt
      · exact lw_30 h n1 w hm nxt
      · exact lw_31 h n1 w hm nxt
      · exact lw_32 h n1 w hm nxt
      · exact lw_33 h n1 w hm nxt
      · exact lw_34 h n1 w hm nxt
      · exact lw_35 h n1 w hm nxt
      · exact lw_36 h n1 w hm nxt
