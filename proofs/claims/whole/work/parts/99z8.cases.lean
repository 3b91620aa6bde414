/-! The law's loop (by program: wip/whole/gen12.py). -/
section LW
variable {n : Int} {S : mSh} {M : mMem} {Q : Option mV → mSh → mMem → Prop}
theorem lw_0 (h : CP n S M) (hn : n < 512) (hl : 6 * n ≤ sL S (-1) - 6) (hm : sL S (-1) ≤ 3072) (next : ∀ S' M', CP (n + 1) S' M' → sL S' (-1) = sL S (-1) → M' (-1) = M (-1) → WP PR 1000 258 1179 [vA (-1), vA 1, vA 200, vI (6 * n)] [] S' M' Q) : WP PR 1000 258 196 [vA (-1), vA 1, vA 200, vI (6 * n)] [] S M Q := by
  have nn := h.nn
  refine b_L_law_196 h.lay (by omega) (twoI (d := 999) (t_cask (n := n) (d := 996)) rfl rfl (by decide) (by decide) h hn (fun v S1 M1 L1 el em k2 => b_L_law_210 L1 (by rw [el]; omega) ?_))
  rw [em]
  exact k2 _ (fun S2 M2 c2 e2 m2 => b_L_law_224 (fun _ => next S2 M2 c2 e2 m2) (fun w => absurd rfl w))
theorem lw_1 (h : CP n S M) (hn : n < 512) (hl : 6 * n ≤ sL S (-1) - 6) (hm : sL S (-1) ≤ 3072) (next : ∀ S' M', CP (n + 1) S' M' → sL S' (-1) = sL S (-1) → M' (-1) = M (-1) → WP PR 1000 258 1179 [vA (-1), vA 1, vA 200, vI (6 * n)] [] S' M' Q) : WP PR 1000 258 229 [vA (-1), vA 1, vA 200, vI (6 * n)] [] S M Q := by
  have nn := h.nn
  refine b_L_law_229 h.lay (by omega) (twoI (d := 999) (t_of (n := n) (d := 989)) rfl rfl (by decide) (by decide) h hn (fun v S1 M1 L1 el em k2 => b_L_law_243 L1 (by rw [el]; omega) ?_))
  rw [em]
  exact k2 _ (fun S2 M2 c2 e2 m2 => b_L_law_257 (fun _ => next S2 M2 c2 e2 m2) (fun w => absurd rfl w))
theorem lw_2 (h : CP n S M) (hn : n < 512) (hl : 6 * n ≤ sL S (-1) - 6) (hm : sL S (-1) ≤ 3072) (next : ∀ S' M', CP (n + 1) S' M' → sL S' (-1) = sL S (-1) → M' (-1) = M (-1) → WP PR 1000 258 1179 [vA (-1), vA 1, vA 200, vI (6 * n)] [] S' M' Q) : WP PR 1000 258 262 [vA (-1), vA 1, vA 200, vI (6 * n)] [] S M Q := by
  have nn := h.nn
  refine b_L_law_262 h.lay (by omega) (twoL (d := 999) (t_old (n := n) (d := 996)) rfl rfl (by decide) (by decide) h hn (fun v S1 M1 L1 el em k2 => b_L_law_276 L1 (by rw [el]; omega) ?_))
  rw [em]
  exact k2 _ (fun S2 M2 c2 e2 m2 => b_L_law_290 (fun _ => next S2 M2 c2 e2 m2) (fun w => absurd rfl w))
theorem lw_3 (h : CP n S M) (hn : n < 512) (hl : 6 * n ≤ sL S (-1) - 6) (hm : sL S (-1) ≤ 3072) (next : ∀ S' M', CP (n + 1) S' M' → sL S' (-1) = sL S (-1) → M' (-1) = M (-1) → WP PR 1000 258 1179 [vA (-1), vA 1, vA 200, vI (6 * n)] [] S' M' Q) : WP PR 1000 258 296 [vA (-1), vA 1, vA 200, vI (6 * n)] [] S M Q := by
  have nn := h.nn
  refine b_L_law_296 h.lay (by omega) (twoI (d := 999) (t_terms (n := n) (d := 997)) rfl rfl (by decide) (by decide) h hn (fun v S1 M1 L1 el em k2 => b_L_law_310 L1 (by rw [el]; omega) ?_))
  rw [em]
  exact k2 _ (fun S2 M2 c2 e2 m2 => b_L_law_324 (fun _ => next S2 M2 c2 e2 m2) (fun w => absurd rfl w))
theorem lw_4 (h : CP n S M) (hn : n < 512) (hl : 6 * n ≤ sL S (-1) - 6) (hm : sL S (-1) ≤ 3072) (next : ∀ S' M', CP (n + 1) S' M' → sL S' (-1) = sL S (-1) → M' (-1) = M (-1) → WP PR 1000 258 1179 [vA (-1), vA 1, vA 200, vI (6 * n)] [] S' M' Q) : WP PR 1000 258 329 [vA (-1), vA 1, vA 200, vI (6 * n)] [] S M Q := by
  have nn := h.nn
  refine b_L_law_329 h.lay (by omega) (twoI (d := 999) (t_feed (n := n) (d := 998)) rfl rfl (by decide) (by decide) h hn (fun v S1 M1 L1 el em k2 => b_L_law_358 L1 (by rw [el]; omega) ?_))
  rw [em]
  exact k2 _ (fun S2 M2 c2 e2 m2 => b_L_law_387 (fun _ => next S2 M2 c2 e2 m2) (fun w => absurd rfl w))
theorem lw_5 (h : CP n S M) (hn : n < 512) (hl : 6 * n ≤ sL S (-1) - 6) (hm : sL S (-1) ≤ 3072) (next : ∀ S' M', CP (n + 1) S' M' → sL S' (-1) = sL S (-1) → M' (-1) = M (-1) → WP PR 1000 258 1179 [vA (-1), vA 1, vA 200, vI (6 * n)] [] S' M' Q) : WP PR 1000 258 392 [vA (-1), vA 1, vA 200, vI (6 * n)] [] S M Q := by
  have nn := h.nn
  refine b_L_law_392 h.lay (by omega) (twoI (d := 999) (t_end (n := n) (d := 998)) rfl rfl (by decide) (by decide) h hn (fun v S1 M1 L1 el em k2 => b_L_law_401 L1 (by rw [el]; omega) ?_))
  rw [em]
  exact k2 _ (fun S2 M2 c2 e2 m2 => b_L_law_410 (fun _ => next S2 M2 c2 e2 m2) (fun w => absurd rfl w))
theorem lw_6 (h : CP n S M) (hn : n < 512) (hl : 6 * n ≤ sL S (-1) - 6) (hm : sL S (-1) ≤ 3072) (next : ∀ S' M', CP (n + 1) S' M' → sL S' (-1) = sL S (-1) → M' (-1) = M (-1) → WP PR 1000 258 1179 [vA (-1), vA 1, vA 200, vI (6 * n)] [] S' M' Q) : WP PR 1000 258 415 [vA (-1), vA 1, vA 200, vI (6 * n)] [] S M Q := by
  have nn := h.nn
  refine b_L_law_415 h.lay (twoI (d := 999) (t_row (n := n) (d := 996)) rfl rfl (by decide) (by decide) h hn (fun v S1 M1 L1 el em k2 => b_L_law_419 L1 ?_))
  exact k2 _ (fun S2 M2 c2 e2 m2 => b_L_law_423 (fun _ => next S2 M2 c2 e2 m2) (fun w => absurd rfl w))
theorem lw_7 (h : CP n S M) (hn : n < 512) (hl : 6 * n ≤ sL S (-1) - 6) (hm : sL S (-1) ≤ 3072) (next : ∀ S' M', CP (n + 1) S' M' → sL S' (-1) = sL S (-1) → M' (-1) = M (-1) → WP PR 1000 258 1179 [vA (-1), vA 1, vA 200, vI (6 * n)] [] S' M' Q) : WP PR 1000 258 428 [vA (-1), vA 1, vA 200, vI (6 * n)] [] S M Q := by
  have nn := h.nn
  refine b_L_law_428 h.lay (twoI (d := 999) (t_leaks (n := n) (d := 999)) rfl rfl (by decide) (by decide) h hn (fun v S1 M1 L1 el em k2 => b_L_law_432 L1 ?_))
  exact k2 _ (fun S2 M2 c2 e2 m2 => b_L_law_436 (fun _ => next S2 M2 c2 e2 m2) (fun w => absurd rfl w))
theorem lw_8 (h : CP n S M) (hn : n < 512) (hl : 6 * n ≤ sL S (-1) - 6) (hm : sL S (-1) ≤ 3072) (next : ∀ S' M', CP (n + 1) S' M' → sL S' (-1) = sL S (-1) → M' (-1) = M (-1) → WP PR 1000 258 1179 [vA (-1), vA 1, vA 200, vI (6 * n)] [] S' M' Q) : WP PR 1000 258 441 [vA (-1), vA 1, vA 200, vI (6 * n)] [] S M Q := by
  have nn := h.nn
  refine b_L_law_441 h.lay (twoI (d := 999) (t_law (D := 998) (d := 989) (by decide)) rfl rfl (by decide) (by decide) h hn (fun v S1 M1 L1 el em k2 => b_L_law_445 L1 ?_))
  exact k2 _ (fun S2 M2 c2 e2 m2 => b_L_law_449 (fun _ => next S2 M2 c2 e2 m2) (fun w => absurd rfl w))
theorem lw_9 (h : CP n S M) (hn : n < 512) (hl : 6 * n ≤ sL S (-1) - 6) (hm : sL S (-1) ≤ 3072) (next : ∀ S' M', CP (n + 1) S' M' → sL S' (-1) = sL S (-1) → M' (-1) = M (-1) → WP PR 1000 258 1179 [vA (-1), vA 1, vA 200, vI (6 * n)] [] S' M' Q) : WP PR 1000 258 454 [vA (-1), vA 1, vA 200, vI (6 * n)] [] S M Q := by
  have nn := h.nn
  refine b_L_law_454 h.lay (twoI (d := 999) (t_plan (D := 998) (d := 988) (by decide)) rfl rfl (by decide) (by decide) h hn (fun v S1 M1 L1 el em k2 => b_L_law_458 L1 ?_))
  exact k2 _ (fun S2 M2 c2 e2 m2 => b_L_law_462 (fun _ => next S2 M2 c2 e2 m2) (fun w => absurd rfl w))
theorem lw_10 (h : CP n S M) (hn : n < 512) (hl : 6 * n ≤ sL S (-1) - 6) (hm : sL S (-1) ≤ 3072) (next : ∀ S' M', CP (n + 1) S' M' → sL S' (-1) = sL S (-1) → M' (-1) = M (-1) → WP PR 1000 258 1179 [vA (-1), vA 1, vA 200, vI (6 * n)] [] S' M' Q) : WP PR 1000 258 467 [vA (-1), vA 1, vA 200, vI (6 * n)] [] S M Q := by
  have nn := h.nn
  refine b_L_law_467 h.lay (twoI (d := 999) (t_orders (D := 998) (d := 986) (by decide)) rfl rfl (by decide) (by decide) h hn (fun v S1 M1 L1 el em k2 => b_L_law_471 L1 ?_))
  exact k2 _ (fun S2 M2 c2 e2 m2 => b_L_law_475 (fun _ => next S2 M2 c2 e2 m2) (fun w => absurd rfl w))
theorem lw_11 (h : CP n S M) (hn : n < 512) (hl : 6 * n ≤ sL S (-1) - 6) (hm : sL S (-1) ≤ 3072) (next : ∀ S' M', CP (n + 1) S' M' → sL S' (-1) = sL S (-1) → M' (-1) = M (-1) → WP PR 1000 258 1179 [vA (-1), vA 1, vA 200, vI (6 * n)] [] S' M' Q) : WP PR 1000 258 480 [vA (-1), vA 1, vA 200, vI (6 * n)] [] S M Q := by
  have nn := h.nn
  refine b_L_law_480 h.lay (twoI (d := 999) (t_fault (n := n) (d := 999)) rfl rfl (by decide) (by decide) h hn (fun v S1 M1 L1 el em k2 => b_L_law_484 L1 ?_))
  exact k2 _ (fun S2 M2 c2 e2 m2 => b_L_law_488 (fun _ => next S2 M2 c2 e2 m2) (fun w => absurd rfl w))
theorem lw_12 (h : CP n S M) (hn : n < 512) (hl : 6 * n ≤ sL S (-1) - 6) (hm : sL S (-1) ≤ 3072) (next : ∀ S' M', CP (n + 1) S' M' → sL S' (-1) = sL S (-1) → M' (-1) = M (-1) → WP PR 1000 258 1179 [vA (-1), vA 1, vA 200, vI (6 * n)] [] S' M' Q) : WP PR 1000 258 493 [vA (-1), vA 1, vA 200, vI (6 * n)] [] S M Q := by
  have nn := h.nn
  refine b_L_law_493 h.lay (twoI (d := 999) (t_stopped (n := n) (d := 999)) rfl rfl (by decide) (by decide) h hn (fun v S1 M1 L1 el em k2 => b_L_law_497 L1 ?_))
  exact k2 _ (fun S2 M2 c2 e2 m2 => b_L_law_501 (fun _ => next S2 M2 c2 e2 m2) (fun w => absurd rfl w))
theorem lw_13 (h : CP n S M) (hn : n < 512) (hl : 6 * n ≤ sL S (-1) - 6) (hm : sL S (-1) ≤ 3072) (next : ∀ S' M', CP (n + 1) S' M' → sL S' (-1) = sL S (-1) → M' (-1) = M (-1) → WP PR 1000 258 1179 [vA (-1), vA 1, vA 200, vI (6 * n)] [] S' M' Q) : WP PR 1000 258 506 [vA (-1), vA 1, vA 200, vI (6 * n)] [] S M Q := by
  have nn := h.nn
  refine b_L_law_506 h.lay (by omega) (twoI (d := 999) (t_force (n := n) (d := 996)) rfl rfl (by decide) (by decide) h hn (fun v S1 M1 L1 el em k2 => b_L_law_515 L1 (by rw [el]; omega) ?_))
  rw [em]
  exact k2 _ (fun S2 M2 c2 e2 m2 => b_L_law_524 (fun _ => next S2 M2 c2 e2 m2) (fun w => absurd rfl w))
theorem lw_14 (h : CP n S M) (hn : n < 512) (hl : 6 * n ≤ sL S (-1) - 6) (hm : sL S (-1) ≤ 3072) (next : ∀ S' M', CP (n + 1) S' M' → sL S' (-1) = sL S (-1) → M' (-1) = M (-1) → WP PR 1000 258 1179 [vA (-1), vA 1, vA 200, vI (6 * n)] [] S' M' Q) : WP PR 1000 258 529 [vA (-1), vA 1, vA 200, vI (6 * n)] [] S M Q := by
  have nn := h.nn
  refine b_L_law_529 h.lay (by omega) (twoI (d := 999) (t_pour (n := n) (d := 993)) rfl rfl (by decide) (by decide) h hn (fun v S1 M1 L1 el em k2 => b_L_law_543 L1 (by rw [el]; omega) ?_))
  rw [em]
  exact k2 _ (fun S2 M2 c2 e2 m2 => b_L_law_557 (fun _ => next S2 M2 c2 e2 m2) (fun w => absurd rfl w))
theorem lw_15 (h : CP n S M) (hn : n < 512) (hl : 6 * n ≤ sL S (-1) - 6) (hm : sL S (-1) ≤ 3072) (next : ∀ S' M', CP (n + 1) S' M' → sL S' (-1) = sL S (-1) → M' (-1) = M (-1) → WP PR 1000 258 1179 [vA (-1), vA 1, vA 200, vI (6 * n)] [] S' M' Q) : WP PR 1000 258 562 [vA (-1), vA 1, vA 200, vI (6 * n)] [] S M Q := by
  have nn := h.nn
  refine b_L_law_562 h.lay (by omega) (twoI (d := 999) (t_rack (n := n) (d := 988)) rfl rfl (by decide) (by decide) h hn (fun v S1 M1 L1 el em k2 => b_L_law_581 L1 (by rw [el]; omega) ?_))
  rw [em]
  exact k2 _ (fun S2 M2 c2 e2 m2 => b_L_law_600 (fun _ => next S2 M2 c2 e2 m2) (fun w => absurd rfl w))
theorem lw_16 (h : CP n S M) (hn : n < 512) (hl : 6 * n ≤ sL S (-1) - 6) (hm : sL S (-1) ≤ 3072) (next : ∀ S' M', CP (n + 1) S' M' → sL S' (-1) = sL S (-1) → M' (-1) = M (-1) → WP PR 1000 258 1179 [vA (-1), vA 1, vA 200, vI (6 * n)] [] S' M' Q) : WP PR 1000 258 605 [vA (-1), vA 1, vA 200, vI (6 * n)] [] S M Q := by
  have nn := h.nn
  refine b_L_law_605 h.lay (by omega) (twoI (d := 999) (t_bottle (n := n) (d := 988)) rfl rfl (by decide) (by decide) h hn (fun v S1 M1 L1 el em k2 => b_L_law_619 L1 (by rw [el]; omega) ?_))
  rw [em]
  exact k2 _ (fun S2 M2 c2 e2 m2 => b_L_law_633 (fun _ => next S2 M2 c2 e2 m2) (fun w => absurd rfl w))
theorem lw_17 (h : CP n S M) (hn : n < 512) (hl : 6 * n ≤ sL S (-1) - 6) (hm : sL S (-1) ≤ 3072) (next : ∀ S' M', CP (n + 1) S' M' → sL S' (-1) = sL S (-1) → M' (-1) = M (-1) → WP PR 1000 258 1179 [vA (-1), vA 1, vA 200, vI (6 * n)] [] S' M' Q) : WP PR 1000 258 638 [vA (-1), vA 1, vA 200, vI (6 * n)] [] S M Q := by
  have nn := h.nn
  refine b_L_law_638 h.lay (twoI (d := 999) (t_pass (n := n) (d := 988)) rfl rfl (by decide) (by decide) h hn (fun v S1 M1 L1 el em k2 => b_L_law_642 L1 ?_))
  exact k2 _ (fun S2 M2 c2 e2 m2 => b_L_law_646 (fun _ => next S2 M2 c2 e2 m2) (fun w => absurd rfl w))
theorem lw_18 (h : CP n S M) (hn : n < 512) (hl : 6 * n ≤ sL S (-1) - 6) (hm : sL S (-1) ≤ 3072) (next : ∀ S' M', CP (n + 1) S' M' → sL S' (-1) = sL S (-1) → M' (-1) = M (-1) → WP PR 1000 258 1179 [vA (-1), vA 1, vA 200, vI (6 * n)] [] S' M' Q) : WP PR 1000 258 651 [vA (-1), vA 1, vA 200, vI (6 * n)] [] S M Q := by
  have nn := h.nn
  refine b_L_law_651 h.lay (twoI (d := 999) (t_undo (n := n) (d := 997)) rfl rfl (by decide) (by decide) h hn (fun v S1 M1 L1 el em k2 => b_L_law_655 L1 ?_))
  exact k2 _ (fun S2 M2 c2 e2 m2 => b_L_law_659 (fun _ => next S2 M2 c2 e2 m2) (fun w => absurd rfl w))
theorem lw_19 (h : CP n S M) (hn : n < 512) (hl : 6 * n ≤ sL S (-1) - 6) (hm : sL S (-1) ≤ 3072) (next : ∀ S' M', CP (n + 1) S' M' → sL S' (-1) = sL S (-1) → M' (-1) = M (-1) → WP PR 1000 258 1179 [vA (-1), vA 1, vA 200, vI (6 * n)] [] S' M' Q) : WP PR 1000 258 664 [vA (-1), vA 1, vA 200, vI (6 * n)] [] S M Q := by
  have nn := h.nn
  refine b_L_law_664 h.lay (by omega) (twoI (d := 999) (t_byPlan (n := n) (d := 986)) rfl rfl (by decide) (by decide) h hn (fun v S1 M1 L1 el em k2 => b_L_law_688 L1 (by rw [el]; omega) ?_))
  rw [em]
  exact k2 _ (fun S2 M2 c2 e2 m2 => b_L_law_712 (fun _ => next S2 M2 c2 e2 m2) (fun w => absurd rfl w))
theorem lw_20 (h : CP n S M) (hn : n < 512) (hl : 6 * n ≤ sL S (-1) - 6) (hm : sL S (-1) ≤ 3072) (next : ∀ S' M', CP (n + 1) S' M' → sL S' (-1) = sL S (-1) → M' (-1) = M (-1) → WP PR 1000 258 1179 [vA (-1), vA 1, vA 200, vI (6 * n)] [] S' M' Q) : WP PR 1000 258 717 [vA (-1), vA 1, vA 200, vI (6 * n)] [] S M Q := by
  have nn := h.nn
  refine b_L_law_717 h.lay (by omega) (twoI (d := 999) (t_oldEnough (n := n) (d := 986)) rfl rfl (by decide) (by decide) h hn (fun v S1 M1 L1 el em k2 => b_L_law_736 L1 (by rw [el]; omega) ?_))
  rw [em]
  exact k2 _ (fun S2 M2 c2 e2 m2 => b_L_law_755 (fun _ => next S2 M2 c2 e2 m2) (fun w => absurd rfl w))
theorem lw_21 (h : CP n S M) (hn : n < 512) (hl : 6 * n ≤ sL S (-1) - 6) (hm : sL S (-1) ≤ 3072) (next : ∀ S' M', CP (n + 1) S' M' → sL S' (-1) = sL S (-1) → M' (-1) = M (-1) → WP PR 1000 258 1179 [vA (-1), vA 1, vA 200, vI (6 * n)] [] S' M' Q) : WP PR 1000 258 760 [vA (-1), vA 1, vA 200, vI (6 * n)] [] S M Q := by
  have nn := h.nn
  refine b_L_law_760 h.lay (by omega) (twoI (d := 999) (t_settled (n := n) (d := 986)) rfl rfl (by decide) (by decide) h hn (fun v S1 M1 L1 el em k2 => b_L_law_774 L1 (by rw [el]; omega) ?_))
  rw [em]
  exact k2 _ (fun S2 M2 c2 e2 m2 => b_L_law_788 (fun _ => next S2 M2 c2 e2 m2) (fun w => absurd rfl w))
theorem lw_22 (h : CP n S M) (hn : n < 512) (hl : 6 * n ≤ sL S (-1) - 6) (hm : sL S (-1) ≤ 3072) (next : ∀ S' M', CP (n + 1) S' M' → sL S' (-1) = sL S (-1) → M' (-1) = M (-1) → WP PR 1000 258 1179 [vA (-1), vA 1, vA 200, vI (6 * n)] [] S' M' Q) : WP PR 1000 258 793 [vA (-1), vA 1, vA 200, vI (6 * n)] [] S M Q := by
  have nn := h.nn
  refine b_L_law_793 h.lay (by omega) (twoI (d := 999) (t_starves (n := n) (d := 986)) rfl rfl (by decide) (by decide) h hn (fun v S1 M1 L1 el em k2 => b_L_law_802 L1 (by rw [el]; omega) ?_))
  rw [em]
  exact k2 _ (fun S2 M2 c2 e2 m2 => b_L_law_811 (fun _ => next S2 M2 c2 e2 m2) (fun w => absurd rfl w))
theorem lw_23 (h : CP n S M) (hn : n < 512) (hl : 6 * n ≤ sL S (-1) - 6) (hm : sL S (-1) ≤ 3072) (next : ∀ S' M', CP (n + 1) S' M' → sL S' (-1) = sL S (-1) → M' (-1) = M (-1) → WP PR 1000 258 1179 [vA (-1), vA 1, vA 200, vI (6 * n)] [] S' M' Q) : WP PR 1000 258 816 [vA (-1), vA 1, vA 200, vI (6 * n)] [] S M Q := by
  have nn := h.nn
  refine b_L_law_816 h.lay (by omega) (twoI (d := 999) (t_yields (n := n) (d := 986)) rfl rfl (by decide) (by decide) h hn (fun v S1 M1 L1 el em k2 => b_L_law_830 L1 (by rw [el]; omega) ?_))
  rw [em]
  exact k2 _ (fun S2 M2 c2 e2 m2 => b_L_law_844 (fun _ => next S2 M2 c2 e2 m2) (fun w => absurd rfl w))
theorem lw_24 (h : CP n S M) (hn : n < 512) (hl : 6 * n ≤ sL S (-1) - 6) (hm : sL S (-1) ≤ 3072) (next : ∀ S' M', CP (n + 1) S' M' → sL S' (-1) = sL S (-1) → M' (-1) = M (-1) → WP PR 1000 258 1179 [vA (-1), vA 1, vA 200, vI (6 * n)] [] S' M' Q) : WP PR 1000 258 849 [vA (-1), vA 1, vA 200, vI (6 * n)] [] S M Q := by
  have nn := h.nn
  refine b_L_law_849 h.lay (by omega) (twoI (d := 999) (t_best (n := n) (d := 986)) rfl rfl (by decide) (by decide) h hn (fun v S1 M1 L1 el em k2 => b_L_law_863 L1 (by rw [el]; omega) ?_))
  rw [em]
  exact k2 _ (fun S2 M2 c2 e2 m2 => b_L_law_877 (fun _ => next S2 M2 c2 e2 m2) (fun w => absurd rfl w))
theorem lw_25 (h : CP n S M) (hn : n < 512) (hl : 6 * n ≤ sL S (-1) - 6) (hm : sL S (-1) ≤ 3072) (next : ∀ S' M', CP (n + 1) S' M' → sL S' (-1) = sL S (-1) → M' (-1) = M (-1) → WP PR 1000 258 1179 [vA (-1), vA 1, vA 200, vI (6 * n)] [] S' M' Q) : WP PR 1000 258 882 [vA (-1), vA 1, vA 200, vI (6 * n)] [] S M Q := by
  have nn := h.nn
  refine b_L_law_882 h.lay (by omega) (twoI (d := 999) (t_tasted (n := n) (d := 997)) rfl rfl (by decide) (by decide) h hn (fun v S1 M1 L1 el em k2 => b_L_law_896 L1 (by rw [el]; omega) ?_))
  rw [em]
  exact k2 _ (fun S2 M2 c2 e2 m2 => b_L_law_910 (fun _ => next S2 M2 c2 e2 m2) (fun w => absurd rfl w))
theorem lw_26 (h : CP n S M) (hn : n < 512) (hl : 6 * n ≤ sL S (-1) - 6) (hm : sL S (-1) ≤ 3072) (next : ∀ S' M', CP (n + 1) S' M' → sL S' (-1) = sL S (-1) → M' (-1) = M (-1) → WP PR 1000 258 1179 [vA (-1), vA 1, vA 200, vI (6 * n)] [] S' M' Q) : WP PR 1000 258 915 [vA (-1), vA 1, vA 200, vI (6 * n)] [] S M Q := by
  have nn := h.nn
  refine b_L_law_915 h.lay (twoI (d := 999) (t_forget (n := n) (d := 999)) rfl rfl (by decide) (by decide) h hn (fun v S1 M1 L1 el em k2 => b_L_law_919 L1 ?_))
  exact k2 _ (fun S2 M2 c2 e2 m2 => b_L_law_923 (fun _ => next S2 M2 c2 e2 m2) (fun w => absurd rfl w))
theorem lw_27 (h : CP n S M) (hn : n < 512) (hl : 6 * n ≤ sL S (-1) - 6) (hm : sL S (-1) ≤ 3072) (next : ∀ S' M', CP (n + 1) S' M' → sL S' (-1) = sL S (-1) → M' (-1) = M (-1) → WP PR 1000 258 1179 [vA (-1), vA 1, vA 200, vI (6 * n)] [] S' M' Q) : WP PR 1000 258 928 [vA (-1), vA 1, vA 200, vI (6 * n)] [] S M Q := by
  have nn := h.nn
  refine b_L_law_928 h.lay (twoI (d := 999) (t_canBe (n := n) (d := 993)) rfl rfl (by decide) (by decide) h hn (fun v S1 M1 L1 el em k2 => b_L_law_932 L1 ?_))
  exact k2 _ (fun S2 M2 c2 e2 m2 => b_L_law_936 (fun _ => next S2 M2 c2 e2 m2) (fun w => absurd rfl w))
theorem lw_28 (h : CP n S M) (hn : n < 512) (hl : 6 * n ≤ sL S (-1) - 6) (hm : sL S (-1) ≤ 3072) (next : ∀ S' M', CP (n + 1) S' M' → sL S' (-1) = sL S (-1) → M' (-1) = M (-1) → WP PR 1000 258 1179 [vA (-1), vA 1, vA 200, vI (6 * n)] [] S' M' Q) : WP PR 1000 258 941 [vA (-1), vA 1, vA 200, vI (6 * n)] [] S M Q := by
  have nn := h.nn
  refine b_L_law_941 h.lay (by omega) (twoI (d := 999) (t_taste (n := n) (d := 993)) rfl rfl (by decide) (by decide) h hn (fun v S1 M1 L1 el em k2 => b_L_law_950 L1 (by rw [el]; omega) ?_))
  rw [em]
  exact k2 _ (fun S2 M2 c2 e2 m2 => b_L_law_959 (fun _ => next S2 M2 c2 e2 m2) (fun w => absurd rfl w))
theorem lw_29 (h : CP n S M) (hn : n < 512) (hl : 6 * n ≤ sL S (-1) - 6) (hm : sL S (-1) ≤ 3072) (next : ∀ S' M', CP (n + 1) S' M' → sL S' (-1) = sL S (-1) → M' (-1) = M (-1) → WP PR 1000 258 1179 [vA (-1), vA 1, vA 200, vI (6 * n)] [] S' M' Q) : WP PR 1000 258 964 [vA (-1), vA 1, vA 200, vI (6 * n)] [] S M Q := by
  have nn := h.nn
  refine b_L_law_964 h.lay (by omega) (twoL (d := 999) (t_few (n := n) (d := 998)) rfl rfl (by decide) (by decide) h hn (fun v S1 M1 L1 el em k2 => b_L_law_978 L1 (by rw [el]; omega) ?_))
  rw [em]
  exact k2 _ (fun S2 M2 c2 e2 m2 => b_L_law_992 (fun _ => next S2 M2 c2 e2 m2) (fun w => absurd rfl w))
theorem lw_30 (h : CP n S M) (hn : n < 512) (hl : 6 * n ≤ sL S (-1) - 6) (hm : sL S (-1) ≤ 3072) (next : ∀ S' M', CP (n + 1) S' M' → sL S' (-1) = sL S (-1) → M' (-1) = M (-1) → WP PR 1000 258 1179 [vA (-1), vA 1, vA 200, vI (6 * n)] [] S' M' Q) : WP PR 1000 258 998 [vA (-1), vA 1, vA 200, vI (6 * n)] [] S M Q := by
  have nn := h.nn
  refine b_L_law_998 h.lay (by omega) (twoI (d := 999) (t_compare (n := n) (d := 987)) rfl rfl (by decide) (by decide) h hn (fun v S1 M1 L1 el em k2 => b_L_law_1012 L1 (by rw [el]; omega) ?_))
  rw [em]
  exact k2 _ (fun S2 M2 c2 e2 m2 => b_L_law_1026 (fun _ => next S2 M2 c2 e2 m2) (fun w => absurd rfl w))
theorem lw_31 (h : CP n S M) (hn : n < 512) (hl : 6 * n ≤ sL S (-1) - 6) (hm : sL S (-1) ≤ 3072) (next : ∀ S' M', CP (n + 1) S' M' → sL S' (-1) = sL S (-1) → M' (-1) = M (-1) → WP PR 1000 258 1179 [vA (-1), vA 1, vA 200, vI (6 * n)] [] S' M' Q) : WP PR 1000 258 1031 [vA (-1), vA 1, vA 200, vI (6 * n)] [] S M Q := by
  have nn := h.nn
  refine b_L_law_1031 h.lay (by omega) (twoI (d := 999) (t_harvests (n := n) (d := 987)) rfl rfl (by decide) (by decide) h hn (fun v S1 M1 L1 el em k2 => b_L_law_1045 L1 (by rw [el]; omega) ?_))
  rw [em]
  exact k2 _ (fun S2 M2 c2 e2 m2 => b_L_law_1059 (fun _ => next S2 M2 c2 e2 m2) (fun w => absurd rfl w))
theorem lw_32 (h : CP n S M) (hn : n < 512) (hl : 6 * n ≤ sL S (-1) - 6) (hm : sL S (-1) ≤ 3072) (next : ∀ S' M', CP (n + 1) S' M' → sL S' (-1) = sL S (-1) → M' (-1) = M (-1) → WP PR 1000 258 1179 [vA (-1), vA 1, vA 200, vI (6 * n)] [] S' M' Q) : WP PR 1000 258 1064 [vA (-1), vA 1, vA 200, vI (6 * n)] [] S M Q := by
  have nn := h.nn
  refine b_L_law_1064 h.lay (by omega) (twoI (d := 999) (t_drawn (n := n) (d := 997)) rfl rfl (by decide) (by decide) h hn (fun v S1 M1 L1 el em k2 => b_L_law_1078 L1 (by rw [el]; omega) ?_))
  rw [em]
  exact k2 _ (fun S2 M2 c2 e2 m2 => b_L_law_1092 (fun _ => next S2 M2 c2 e2 m2) (fun w => absurd rfl w))
theorem lw_33 (h : CP n S M) (hn : n < 512) (hl : 6 * n ≤ sL S (-1) - 6) (hm : sL S (-1) ≤ 3072) (next : ∀ S' M', CP (n + 1) S' M' → sL S' (-1) = sL S (-1) → M' (-1) = M (-1) → WP PR 1000 258 1179 [vA (-1), vA 1, vA 200, vI (6 * n)] [] S' M' Q) : WP PR 1000 258 1097 [vA (-1), vA 1, vA 200, vI (6 * n)] [] S M Q := by
  have nn := h.nn
  refine b_L_law_1097 h.lay (by omega) (twoI (d := 999) (t_image (n := n) (d := 997)) rfl rfl (by decide) (by decide) h hn (fun v S1 M1 L1 el em k2 => b_L_law_1106 L1 (by rw [el]; omega) ?_))
  rw [em]
  exact k2 _ (fun S2 M2 c2 e2 m2 => b_L_law_1115 (fun _ => next S2 M2 c2 e2 m2) (fun w => absurd rfl w))
theorem lw_34 (h : CP n S M) (hn : n < 512) (hl : 6 * n ≤ sL S (-1) - 6) (hm : sL S (-1) ≤ 3072) (next : ∀ S' M', CP (n + 1) S' M' → sL S' (-1) = sL S (-1) → M' (-1) = M (-1) → WP PR 1000 258 1179 [vA (-1), vA 1, vA 200, vI (6 * n)] [] S' M' Q) : WP PR 1000 258 1120 [vA (-1), vA 1, vA 200, vI (6 * n)] [] S M Q := by
  have nn := h.nn
  refine b_L_law_1120 h.lay (by omega) (twoI (d := 999) (t_back (n := n) (d := 996)) rfl rfl (by decide) (by decide) h hn (fun v S1 M1 L1 el em k2 => b_L_law_1129 L1 (by rw [el]; omega) ?_))
  rw [em]
  exact k2 _ (fun S2 M2 c2 e2 m2 => b_L_law_1138 (fun _ => next S2 M2 c2 e2 m2) (fun w => absurd rfl w))
theorem lw_35 (h : CP n S M) (hn : n < 512) (hl : 6 * n ≤ sL S (-1) - 6) (hm : sL S (-1) ≤ 3072) (next : ∀ S' M', CP (n + 1) S' M' → sL S' (-1) = sL S (-1) → M' (-1) = M (-1) → WP PR 1000 258 1179 [vA (-1), vA 1, vA 200, vI (6 * n)] [] S' M' Q) : WP PR 1000 258 1143 [vA (-1), vA 1, vA 200, vI (6 * n)] [] S M Q := by
  have nn := h.nn
  refine b_L_law_1143 h.lay (by omega) (twoI (d := 999) (t_count (n := n) (d := 998)) rfl rfl (by decide) (by decide) h hn (fun v S1 M1 L1 el em k2 => b_L_law_1152 L1 (by rw [el]; omega) ?_))
  rw [em]
  exact k2 _ (fun S2 M2 c2 e2 m2 => b_L_law_1161 (fun _ => next S2 M2 c2 e2 m2) (fun w => absurd rfl w))
theorem lw_36 (h : CP n S M) (hn : n < 512) (hl : 6 * n ≤ sL S (-1) - 6) (hm : sL S (-1) ≤ 3072) (next : ∀ S' M', CP (n + 1) S' M' → sL S' (-1) = sL S (-1) → M' (-1) = M (-1) → WP PR 1000 258 1179 [vA (-1), vA 1, vA 200, vI (6 * n)] [] S' M' Q) : WP PR 1000 258 1166 [vA (-1), vA 1, vA 200, vI (6 * n)] [] S M Q := by
  have nn := h.nn
  refine b_L_law_1166 h.lay (twoI (d := 999) (t_status (n := n) (d := 999)) rfl rfl (by decide) (by decide) h hn (fun v S1 M1 L1 el em k2 => b_L_law_1170 L1 ?_))
  exact k2 _ (fun S2 M2 c2 e2 m2 => b_L_law_1174 (fun _ => next S2 M2 c2 e2 m2) (fun w => absurd rfl w))
end LW
