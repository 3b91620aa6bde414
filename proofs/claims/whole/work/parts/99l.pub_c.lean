/-! Public methods, both sides: of, compare, drawn. -/
section PC
variable {n : Int} {d : Nat} {S : mSh} {M M' : mMem} {Q : Option mV → mSh → mMem → Prop}
theorem t_of {c w : Int} : TwoI n (e_X8_of (d + 5) c w) (e_X9_of (d + 10) c w) := fun S M h hn => by
  have L := h.lay
  have hr := h.r
  have ok := h.ok
  have hs := lStk9 L
  have T := h.th hn
  have e2 : up M 200 0 0 202 = M 202 := funext fun i => up1_ne (by omega)
  have no : ¬ ((0 ≤ c ∧ c < M 202 0) ∧ (0 ≤ w ∧ w ≤ 27)) → e_X9_of (d + 10) c w S M (fun r2 S2 M2 => r2 = some (vI (-1)) ∧ CP (n + 1) S2 M2) := fun q => by
    refine b_X9_of_0 L (s_isCask L (by rw [e2]; exact ok.n) (fun q1 => b_X9_of_10 (fun _ => b_X9_of_15 ?_) (fun e => absurd e (by decide))) (fun q1 => b_X9_of_10 (fun e => absurd rfl e) (fun _ => b_X9_of_13 ⟨rfl, T⟩)))
    rw [e2] at q1
    rw [swT_d (by omega)]
    exact b_X9_of_130 (s_in (fun q2 => absurd ⟨q1, by omega⟩ q) (fun q2 => b_X9_of_141 (fun _ => b_X9_of_156 ⟨rfl, T⟩) (fun e => absurd rfl e)))
  refine b_X8_of_0 L (c_has hs hr (fun q => b_X8_of_13 (fun e => absurd e (by decide)) (fun _ => b_X8_of_16 (c_isWithin (fun q2 => b_X8_of_23 (fun _ => b_X8_of_28 L (c_lawInForce h (fun t TL hT => b_X8_of_40 L (c_begin L hs hr ok hT (Or.inl rfl) (fun M1 wk e4 e5 e6 e7 e8 f1 => b_X8_of_43 ?_))))) (fun e => absurd e (by decide))) (fun q2 => b_X8_of_23 (fun e => absurd rfl e) (fun _ => b_X8_of_26 ⟨_, rfl, no (fun w => q2 w.2)⟩))))) (fun q => b_X8_of_13 (fun _ => b_X8_of_26 ⟨_, rfl, no (fun w => q w.1)⟩) (fun e => absurd rfl e)))
  have c8 := h.n8 q
  have r1 := wk.r
  have T1 : CP (n + 1) S (up M1 200 0 0) := h.sc hn (fun a i q => by rw [up1_ne (by omega), f1 a i (by omega) (by omega)]) (h.lb.cg (fun i q => by rw [up1_ne (by omega), f1 _ _ (by omega) (by omega)]))
  have m2 : up M1 200 0 0 202 = M 202 := funext fun i => by rw [up1_ne (by omega), f1 _ _ (by omega) (by omega)]
  have D1 : okD (up M1 200 0 0 202) := by rw [m2]; exact ok.D
  -- the reference's way to its switch
  have go : ∀ (M2 : mMem) (j : Nat) (v : Int), M2 202 = M 202 → swT 16 w 114 0 7 [48, 59, 70, 76, 82, 88, 94, 100] = j → WP PR (d + 10) 154 j [vA 200, vI c, vI w] [] S (up M2 200 0 0) (fun r2 S2 M2 => r2 = some (vI v) ∧ CP (n + 1) S2 M2) → e_X9_of (d + 10) c w S M2 (fun r2 S2 M2 => r2 = some (vI v) ∧ CP (n + 1) S2 M2) := fun M2 j v eM ej k => by
    have e3 : up M2 200 0 0 202 = M 202 := by rw [← eM]; exact funext fun i => up1_ne (by omega)
    exact b_X9_of_0 L (s_isCask L (by rw [e3]; exact ok.n) (fun _ => b_X9_of_10 (fun _ => b_X9_of_15 (by rw [ej]; exact k)) (fun e => absurd e (by decide))) (fun w => absurd (by rw [e3]; exact q) w))
  have m1 : M1 202 = M 202 := funext fun i => f1 _ _ (by omega) (by omega)
  -- a word of the law
  have frB : ∀ {M2 M3 : mMem}, FrB M1 M2 → FrL (up M2 200 0 0) M3 → CP (n + 1) S M3 := fun {M2 M3} f2 f3 => h.sc hn (fun a i q => by rw [f3 a i (by omega), up1_ne (by omega), f2 a i (by omega), f1 a i (by omega) (by omega)]) (h.lb.cg (fun i q => by rw [f3 _ _ (by omega), up1_ne (by omega), f2 _ _ (by omega), f1 _ _ (by omega) (by omega)]))
  have b20 : ∀ {M2 : mMem}, FrB M1 M2 → up M2 200 0 0 200 20 = 0 ∨ up M2 200 0 0 200 20 = 1 := fun {M2} f2 => Or.inl (by rw [up1_ne (by omega), f2 _ _ (by omega), f1 _ _ (by omega) (by omega)]; exact h.lef.2.2.1)
  have b02 : ∀ {M2 : mMem}, FrB M1 M2 → M2 202 = M 202 := fun {M2} f2 => funext fun i => by rw [f2 _ _ (by omega), f1 _ _ (by omega) (by omega)]
  have u02 : ∀ {M2 : mMem}, FrB M1 M2 → up M2 200 0 0 202 = M 202 := fun {M2} f2 => by rw [← b02 f2]; exact funext fun i => up1_ne (by omega)
  obtain rfl | rfl | rfl | rfl | rfl | rfl | rfl | rfl | hx : w = 0 ∨ w = 1 ∨ w = 2 ∨ w = 3 ∨ w = 4 ∨ w = 5 ∨ w = 6 ∨ w = 7 ∨ 7 < w := by omega
  · exact b_X8_of_92 hs c8 ⟨_, rfl, go M1 64 _ m1 rfl (b_X9_of_64 L (by omega) ⟨by rw [m2, r1.t c8], T1⟩)⟩
  · exact b_X8_of_99 hs c8 ⟨_, rfl, go M1 75 _ m1 rfl (b_X9_of_75 L (by omega) ⟨by rw [m2, r1.z c8], T1⟩)⟩
  · exact b_X8_of_106 hs c8 ⟨_, rfl, go M1 86 _ m1 rfl (b_X9_of_86 L (s_allOf L D1 c8 (b_X9_of_91 ⟨by rw [m2, r1.a c8], T1⟩)))⟩
  · exact b_X8_of_113 hs (c_mean hs r1 ok c8 (b_X8_of_118 ⟨_, rfl, go M1 92 _ m1 rfl (b_X9_of_92 L (s_meanOf L D1 c8 (b_X9_of_97 ⟨by rw [m2], T1⟩)))⟩))
  · exact b_X8_of_119 hs (c_label hs r1 ok c8 (b_X8_of_124 ⟨_, rfl, go M1 98 _ m1 rfl (b_X9_of_98 L (s_labelOf L D1 (by rw [m2]; exact ok.p) c8 (b_X9_of_103 ⟨by rw [m2], T1⟩)))⟩))
  · exact b_X8_of_125 L (c_tells L wk (by decide) q (fun M2 f2 => b_X8_of_134 ⟨_, rfl, go M2 104 _ (b02 f2) rfl (b_X9_of_104 L (s_losesOf L (by rw [u02 f2]; exact ok) (b20 f2) (by rw [u02 f2]; exact hT.fm rfl) c8 (fun M3 f3 => b_X9_of_109 ⟨by rw [u02 f2, if_pos rfl], frB f2 f3⟩)))⟩))
  · exact b_X8_of_135 L (c_tells L wk (by decide) q (fun M2 f2 => b_X8_of_144 ⟨_, rfl, go M2 110 _ (b02 f2) rfl (b_X9_of_110 L (s_yieldsOf L (by rw [u02 f2]; exact ok) (b20 f2) (by rw [u02 f2]; exact hT.fm rfl) c8 (fun M3 f3 => b_X9_of_115 ⟨by rw [u02 f2, if_neg (by decide), if_pos rfl], frB f2 f3⟩)))⟩))
  · refine b_X8_of_145 L (c_tells L wk (by decide) q (fun M2 f2 => b_X8_of_155 ⟨_, rfl, go M2 116 _ (b02 f2) rfl (b_X9_of_116 L (s_isBarred L (by rw [u02 f2]; exact ok) (b20 f2) (by rw [u02 f2]; exact hT.fm rfl) c8 (fun M3 f3 w => b_X9_of_121 (fun e => absurd e (by decide)) (fun _ => b_X9_of_124 ⟨?_, frB f2 f3⟩)) (fun M3 f3 w => b_X9_of_121 (fun _ => b_X9_of_128 ⟨?_, frB f2 f3⟩) (fun e => absurd rfl e))))⟩))
    · rw [u02 f2] at w
      rw [if_neg (by decide), if_neg (by decide), w]
    · rw [u02 f2] at w
      rw [if_neg (by decide), if_neg (by decide)]
      rcases bar_01 wk.l (M 202) c with e | e
      · rw [e]
      · exact absurd e w
  · rw [swT_d (Or.inr hx)]
    refine b_X8_of_156 hs (by omega) ⟨_, rfl, go M1 130 _ m1 (swT_d (Or.inr hx)) ?_⟩
    refine b_X9_of_130 (s_in (fun _ => b_X9_of_141 (fun e => absurd e (by decide)) (fun _ => b_X9_of_144 L (by omega) (s_dropsOf L c8 (by omega) (b_X9_of_153 ⟨?_, T1⟩)))) (fun w => absurd (by omega) w))
    rw [m2, show c * 20 + w - 8 = c * 20 + (w - 8) by omega, r1.dd c8 (by omega)]
theorem wL_4 {g : Int → Int} {c l : Int} (hc : 0 ≤ c ∧ c < 8) : wL (upr g 4 l) c = wL g c := by
  have e : ∀ i, ¬ i = 4 → upr g 4 l i = g i := fun i q => upr_n q
  have eA : allG (upr g 4 l) c = allG g c := allG_congr (fun a _ _ => e _ (by omega))
  have eW : wyG (upr g 4 l) c = wyG g c := sm_congr (by decide) (fun a _ _ => by rw [e _ (by omega)])
  have em : wmG (upr g 4 l) c = wmG g c := by unfold wmG; rw [eA, eW]
  funext op a
  unfold wL
  rw [e _ (by omega), e _ (by omega), e 5 (by decide), e 7 (by decide), eA, em]
theorem loss_4 {g : Int → Int} {c l k : Int} (hc : 0 ≤ c ∧ c < 8) : lossG (upr g 4 l) c k = lossG g c k := sm_congr (by decide) (fun a _ _ => by unfold leG; rw [upr_n (by omega)])
theorem t_compare {l c : Int} : TwoI n (e_X8_compare (d + 5) l c) (e_X9_compare (d + 12) l c) := fun S M h hn => by
  have L := h.lay
  have hr := h.r
  have ok := h.ok
  have hc := h.cnt
  have hs := lStk9 L
  have sa := lSta8 L
  have T := h.th hn
  have e2 : up M 200 0 0 202 = M 202 := funext fun i => up1_ne (by omega)
  have no : ¬ ((l = -1 ∨ (0 ≤ l ∧ l < M 202 2)) ∧ (0 ≤ c ∧ c < M 202 0)) → e_X9_compare (d + 12) l c S M (fun r2 S2 M2 => r2 = some (vI (-1)) ∧ CP (n + 1) S2 M2) := fun q => by
    refine b_X9_compare_0 L (s_isLaw L (by rw [e2]; have := hc.2.1; omega) (fun q1 => b_X9_compare_10 (fun e => absurd e (by decide)) (fun _ => b_X9_compare_13 L (s_isCask L (by rw [e2]; exact ok.n) (fun q2 => ?_) (fun q2 => b_X9_compare_18 (fun e => absurd rfl e) (fun _ => b_X9_compare_21 ⟨rfl, T⟩))))) (fun q1 => b_X9_compare_10 (fun _ => b_X9_compare_21 ⟨rfl, T⟩) (fun e => absurd rfl e)))
    rw [e2] at q1 q2
    exact absurd ⟨q1, q2⟩ q
  have yes : (l = -1 ∨ (0 ≤ l ∧ l < M 202 2)) → WP PR (d + 5) 112 16 [vA 1, vI l, vI c] [] S M (fun r S1 M1 => ∃ v, r = some (vI v) ∧ e_X9_compare (d + 12) l c S1 M1 (fun r2 S2 M2 => r2 = some (vI v) ∧ CP (n + 1) S2 M2)) := fun ql => by
    refine b_X8_compare_16 L (c_has hs hr (fun q => b_X8_compare_27 (fun _ => b_X8_compare_32 L (c_lawOf h (l := l) (by have := hc.2.1; omega) (fun t TL hT => b_X8_compare_51 L (c_begin L hs hr ok hT (Or.inl rfl) (fun M1 wk e4 e5 e6 e7 e8 f1 => b_X8_compare_54 L (c_tells L wk (by decide) q (fun M2 f2 => b_X8_compare_71 hs ?_))))))) (fun e => absurd e (by decide))) (fun q => b_X8_compare_27 (fun e => absurd rfl e) (fun _ => b_X8_compare_30 ⟨_, rfl, no (fun w => q w.2)⟩)))
    have c8 := h.n8 q
    have k99 := los_bd TL (M 202) c
    refine c_lossOf hs (wk.mb f2).r ok c8 (by rw [if_pos rfl]; exact k99) (b_X8_compare_74 ⟨_, rfl, ?_⟩)
    rw [if_pos rfl]
    have m2 : up M2 200 0 0 202 = M 202 := funext fun i => by rw [up1_ne (by omega), f2 _ _ (by omega), f1 _ _ (by omega) (by omega)]
    have f3 : ∀ a i, ¬ (a = 202 ∧ i = 4) → up (up M2 200 0 0) 202 4 l a i = up M2 200 0 0 a i := fun a i q => up1_ne q
    have m3 : up (up M2 200 0 0) 202 4 l 202 = upr (M 202) 4 l := by rw [up_g, m2]
    refine b_X9_compare_0 L (s_isLaw L (by rw [m2]; have := hc.2.1; omega) (fun _ => b_X9_compare_10 (fun e => absurd e (by decide)) (fun _ => b_X9_compare_13 L (s_isCask L (by rw [m2]; exact ok.n) (fun _ => b_X9_compare_18 (fun _ => b_X9_compare_23 L ?_) (fun e => absurd e (by decide))) (fun w => absurd (by rw [m2]; exact q) w)))) (fun w => absurd (by rw [m2]; exact ql) w))
    have okl : okS (upr (M 202) 4 l) := ok.gc (fun i q => upr_n (by omega))
    refine s_lossOf L m3 okl (Or.inl ?_) hT.2.2.2 c8 (fun M4 f4 => b_X9_compare_42 L ⟨?_, ?_⟩)
    · rw [f3 _ _ (by omega), up1_ne (by omega), f2 _ _ (by omega), f1 _ _ (by omega) (by omega)]; exact h.lef.2.2.1
    · unfold losT
      rw [loss_4 c8, wL_4 c8]
    · have g4 : up M2 200 0 0 202 4 = M 202 4 := by rw [m2]
      have g : ∀ a i, ¬ (a = 191 ∨ a = 196 ∨ a = 197 ∨ a = 218 ∨ a = 220 ∨ (a = 200 ∧ (i = 0 ∨ i = 38 ∨ i = 39 ∨ i = 40 ∨ i = 34))) → up M4 202 4 (up M2 200 0 0 202 4) a i = M a i := fun a i q => by
        by_cases e : a = 202 ∧ i = 4
        · obtain ⟨rfl, rfl⟩ := e; rw [up_s]; exact g4
        · rw [up1_ne e, f4 a i (by omega), f3 a i e, up1_ne (by omega), f2 a i (by omega), f1 a i (by omega) (by omega)]
      exact h.sc hn (fun a i q => g a i (by omega)) (h.lb.cg (fun i q => g _ _ (by omega)))
  exact b_X8_compare_0 (fun q => yes (Or.inl q)) (fun q => b_X8_compare_5 L (c_hasLaw sa (fun w => b_X8_compare_13 (fun e => absurd e (by decide)) (fun _ => yes (Or.inr (by rw [hc.2.1.2.2] at w; exact w)))) (fun w => b_X8_compare_13 (fun _ => b_X8_compare_30 ⟨_, rfl, no (fun w2 => by rw [hc.2.1.2.2] at w; omega)⟩) (fun e => absurd rfl e))))
theorem t_drawn {c w : Int} : TwoI n (e_X8_drawn (d + 2) c w) (e_X9_drawn (d + 2) c w) := fun S M h hn => by
  have L := h.lay
  have hs := lStk184 L
  have T := h.th hn
  have e54 : up M 200 0 0 200 54 = M 200 54 := up1_ne (by omega)
  have no : -1 ≤ M 200 54 → M 200 54 ≤ 8 → ¬ ((0 ≤ c ∧ c < M 200 54) ∧ (0 ≤ w ∧ w ≤ 1)) → e_X9_drawn (d + 2) c w S M (fun r2 S2 M2 => r2 = some (vI (-1)) ∧ CP (n + 1) S2 M2) := fun b0 b1 q =>
    b_X9_drawn_0 L (by omega) (s_in (fun q1 => b_X9_drawn_18 (fun e => absurd e (by decide)) (fun _ => b_X9_drawn_21 (s_in (fun q2 => absurd ⟨by omega, q2⟩ q) (fun q2 => b_X9_drawn_28 (fun e => absurd rfl e) (fun _ => b_X9_drawn_31 ⟨rfl, T⟩))))) (fun q1 => b_X9_drawn_18 (fun _ => b_X9_drawn_31 ⟨rfl, T⟩) (fun e => absurd rfl e)))
  rcases h.drw with ⟨a1, a2⟩ | ⟨gd, ok, hr, a3, a4⟩
  · refine b_X8_drawn_0 L (b_X4_has_0 (fun q => b_X4_has_16 (b_X8_drawn_8 (fun _ => b_X8_drawn_20 ⟨_, rfl, no (by omega) (by omega) (fun w => by omega)⟩) (fun e => absurd rfl e))) (fun q => b_X4_has_4 hs (fun q2 => b_X4_has_16 (b_X8_drawn_8 (fun _ => b_X8_drawn_20 ⟨_, rfl, no (by omega) (by omega) (fun w => by omega)⟩) (fun e => absurd rfl e))) (fun q2 => absurd q2 (by omega))))
  · have b8 := ok.n
    refine b_X8_drawn_0 L (c_has hs hr (fun q => b_X8_drawn_8 (fun e => absurd e (by decide)) (fun _ => b_X8_drawn_11 (c_isWithin (fun q2 => b_X8_drawn_17 (fun _ => ?_) (fun e => absurd e (by decide))) (fun q2 => b_X8_drawn_17 (fun e => absurd rfl e) (fun _ => b_X8_drawn_20 ⟨_, rfl, no (by omega) (by omega) (fun w => q2 w.2)⟩))))) (fun q => b_X8_drawn_8 (fun _ => b_X8_drawn_20 ⟨_, rfl, no (by omega) (by omega) (fun w => q (by omega))⟩) (fun e => absurd rfl e)))
    have c8 : 0 ≤ c ∧ c < 8 := by omega
    have ab := ok.all c8
    have d225 : ∀ x, 0 ≤ x → x < 20 → up M 200 0 0 225 (20 * c + x) = gd (10 + 20 * c + x) := fun x q0 q1 => by rw [up1_ne (by omega), ← a4 _ (by omega) (by omega)]; congr 1; omega
    -- the reference's loop
    have lp : ∀ R : Int, (w = 0 → R = allG gd c) → (¬ w = 0 → R = meanG gd c) → e_X9_drawn (d + 2) c w S M (fun r2 S2 M2 => r2 = some (vI R) ∧ CP (n + 1) S2 M2) := fun R hR0 hR1 => by
      refine b_X9_drawn_0 L (by omega) (s_in (fun q1 => b_X9_drawn_18 (fun e => absurd e (by decide)) (fun _ => b_X9_drawn_21 (s_in (fun q2 => b_X9_drawn_28 (fun _ => b_X9_drawn_33 ?_) (fun e => absurd e (by decide))) (fun w => absurd q2 w)))) (fun w => absurd (by omega) w))
      have key := for_up (W := fun x => WP PR (d + 2) 255 41 [vA 200, vI c, vI w, vI (sm (fun a => gd (10 + 20 * c + a)) x), vL (sm (fun a => 1000 * a * gd (10 + 20 * c + a)) x), vU, vI x] [] S (up M 200 0 0) (fun r2 S2 M2 => r2 = some (vI R) ∧ CP (n + 1) S2 M2)) (lo := 0) (hi := 20) (by decide) ?_ ?_
      · exact key
      · refine b_X9_drawn_41 (fun _ => b_X9_drawn_95 (fun w1 => b_X9_drawn_103 (fun w2 => ?_) (fun w2 => b_X9_drawn_107 ⟨?_, T⟩)) (fun w1 => b_X9_drawn_99 ⟨?_, T⟩)) (fun e => absurd e (by decide))
        · have w2 : ¬ allG gd c = 0 := w2
          have mb := mean_bd ok.D c8 w2
          refine b_X9_drawn_111 ⟨w2, ?_⟩ ⟨?_, T⟩
          · show R64 ((wyG gd c).tdiv (allG gd c)); omega
          · rw [hR1 w1]
            show some (vI (w32 ((wyG gd c).tdiv (allG gd c)))) = _
            rw [w32_id (by omega)]
            unfold meanG
            rw [if_neg w2]
        · rw [hR1 w1]; unfold meanG
          have w2 : allG gd c = 0 := w2
          rw [if_pos w2]
        · rw [hR0 w1]; rfl
      · intro x x0 x7 ih
        have b1 := smG_bd ok.D c8 (i := x) ⟨x0, by omega⟩
        have b2 := smG_bd ok.D c8 (i := x + 1) ⟨by omega, by omega⟩
        have b3 := wy_bd ok.D c8 (i := x) ⟨x0, by omega⟩
        have b4 := wy_bd ok.D c8 (i := x + 1) ⟨by omega, by omega⟩
        have s1 := sm_s (fun a => gd (10 + 20 * c + a)) x0
        have s2 := sm_s (fun a => 1000 * a * gd (10 + 20 * c + a)) x0
        have o1 := ok.one c8 (a := x) ⟨x0, x7⟩
        have o2 := ok.nn (10 + 20 * c + x) (by omega) (by omega)
        refine b_X9_drawn_41 (fun e => absurd e (by omega)) (fun _ => b_X9_drawn_48 L (by rw [d225 x x0 x7]; omega) ?_)
        rw [d225 x x0 x7, ← s1, ← s2]
        exact ih
    have eA : M 187 c = allG gd c := hr.a c8
    exact b_X8_drawn_22 (fun w1 => b_X8_drawn_38 L (c_mean hs hr ok c8 (b_X8_drawn_46 ⟨_, rfl, lp _ (fun e => absurd e w1) (fun _ => rfl)⟩))) (fun w1 => b_X8_drawn_26 L c8 ⟨_, rfl, lp _ (fun _ => eA) (fun e => absurd w1 e)⟩)
end PC
