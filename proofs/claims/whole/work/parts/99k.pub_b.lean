/-! Public methods, both sides: tasted, forget, count, old, of, drawn. -/
section PB
variable {n : Int} {d : Nat} {S : mSh} {M M' : mMem} {Q : Option mV → mSh → mMem → Prop}
theorem t_forget : TwoI n (e_X8_forget d) (e_X9_forget d) := fun S M h hn => by
  have hc := h.cnt
  refine b_X8_forget_0 h.lay ⟨_, rfl, b_X9_forget_0 h.lay ⟨by rw [up1_ne (by omega), hc.1.2.2], ?_⟩⟩
  have g : ∀ a i, ¬ ((a = 8 ∧ i = 8) ∨ (a = 200 ∧ i = 0) ∨ (a = 202 ∧ i = 1)) → up (up (up M 8 8 0) 200 0 0) 202 1 0 a i = M a i := fun a i q => up3_ne (by omega) (by omega) (by omega)
  have g1 : up (up (up M 8 8 0) 200 0 0) 202 1 0 202 1 = 0 := up_s _ _ _ _
  have g8 : up (up (up M 8 8 0) 200 0 0) 202 1 0 8 8 = 0 := by rw [up_na (by decide), up_na (by decide), up_s]
  generalize up (up (up M 8 8 0) 200 0 0) 202 1 0 = M' at *
  have g2 : ∀ i, ¬ i = 1 → M' 202 i = M 202 i := fun i q => g _ _ (by omega)
  refine h.st hn (fun a i q => g a i (by omega)) (h.sta.num (fun i q => g2 i (by omega)) (g2 2 (by decide)) (g2 3 (by decide)) ?_ (fun i q0 q1 => absurd q1 (by rw [g1]; omega)) (fun a i q0 q1 => g a i (by omega)) (fun a i q0 q1 => g a i (by omega))) ?_ ?_ (h.rf.cg (by omega) (fun i => g _ _ (by omega)) (fun i => g _ _ (by omega))) (h.lb.cg (fun i q => g _ _ (by omega)))
  · unfold CntR
    rw [g 8 6 (by omega), g 8 7 (by omega), g 8 9 (by omega), g8, g1, g2 2 (by decide), g2 3 (by decide), g2 4 (by decide)]
    exact ⟨by decide, hc.2⟩
  · obtain ⟨hh, hi⟩ := h.his
    exact ⟨hh, hi.cg (g _ _ (by omega)) (fun i _ _ => g _ _ (by omega)) (fun i => g _ _ (by omega)) (fun a i _ _ => g _ _ (by omega)) (fun i _ => g2 i (by omega))⟩
  · obtain ⟨w1, w2, w3, w4⟩ := h.wrd
    unfold WrdR
    rw [g 1 11 (by omega), g 1 12 (by omega), g 1 13 (by omega), g 1 14 (by omega), g 200 1 (by omega), g 200 11 (by omega), g 200 18 (by omega), g 200 48 (by omega)]
    exact ⟨w1, w2, w3, w4⟩
theorem t_tasted {x y : Int} : TwoI n (e_X8_tasted (d + 2) x y) (e_X9_tasted (d + 2) x y) := fun S M h hn => by
  have hc := h.cnt
  have L := h.lay
  have bad : ¬ ((0 ≤ x ∧ x ≤ 2) ∧ (0 ≤ y ∧ y ≤ 999)) → WP PR (d + 2) 107 20 [vA 1, vI x, vI y] [] S M (fun r S1 M1 => ∃ v, r = some (vI v) ∧ e_X9_tasted (d + 2) x y S1 M1 (fun r2 S2 M2 => r2 = some (vI v) ∧ CP (n + 1) S2 M2)) := fun q =>
    b_X8_tasted_20 L (c_refuse L (by decide) (h.r99 (by decide)) (b_X8_tasted_25 ⟨_, rfl, b_X9_tasted_0 L (s_in (fun w => b_X9_tasted_14 (fun e => absurd e (by decide)) (fun _ => b_X9_tasted_17 (s_in (fun w2 => absurd ⟨w, w2⟩ q) (fun w2 => b_X9_tasted_26 (fun e => absurd rfl e) (fun _ => b_X9_tasted_29 L (s_tl h hn (by decide) (fun c => b_X9_tasted_34 ⟨rfl, c⟩))))))) (fun w => b_X9_tasted_14 (fun _ => b_X9_tasted_29 L (s_tl h hn (by decide) (fun c => b_X9_tasted_34 ⟨rfl, c⟩))) (fun e => absurd rfl e)))⟩))
  refine b_X8_tasted_0 (c_isWithin (fun q => b_X8_tasted_6 (fun e => absurd e (by decide)) (fun _ => b_X8_tasted_9 (c_isWithin (fun q2 => b_X8_tasted_17 (fun _ => b_X8_tasted_26 L (fun w => b_X8_tasted_45 L (by have := hc.1; omega) (b_X8_accept_0 L (b_X8_tasted_101 ⟨_, rfl, ?_⟩))) (fun w => b_X8_tasted_38 L (c_refuse L (by decide) (h.r99 (by decide)) (b_X8_tasted_44 ⟨_, rfl, ?_⟩)))) (fun e => absurd e (by decide))) (fun q2 => b_X8_tasted_17 (fun e => absurd rfl e) (fun _ => bad (fun w => q2 w.2)))))) (fun q => b_X8_tasted_6 (fun _ => bad (fun w => q w.1)) (fun e => absurd rfl e)))
  · rw [hc.1.2.2] at w ⊢
    have h0 := hc.1.1
    have e1 : up (up (up (up (up M 21 (M 202 1) x) 22 (M 202 1) y) 8 8 (M 202 1 + 1)) 1 11 0) 200 0 0 202 1 = M 202 1 := by rw [up2_ne (by omega) (by omega), up3_ne (by omega) (by omega) (by omega)]
    have g : ∀ a i, ¬ ((a = 21 ∧ i = M 202 1) ∨ (a = 22 ∧ i = M 202 1) ∨ (a = 8 ∧ i = 8) ∨ (a = 1 ∧ i = 11) ∨ (a = 200 ∧ i = 0)) → up (up (up (up (up M 21 (M 202 1) x) 22 (M 202 1) y) 8 8 (M 202 1 + 1)) 1 11 0) 200 0 0 a i = M a i := fun a i q => by rw [up2_ne (by omega) (by omega), up3_ne (by omega) (by omega) (by omega)]
    have a21 : up (up (up (up (up M 21 (M 202 1) x) 22 (M 202 1) y) 8 8 (M 202 1 + 1)) 1 11 0) 200 0 0 21 (M 202 1) = x := by rw [up_na (by decide), up_na (by decide), up_na (by decide), up_na (by decide), up_s]
    have a22 : up (up (up (up (up M 21 (M 202 1) x) 22 (M 202 1) y) 8 8 (M 202 1 + 1)) 1 11 0) 200 0 0 22 (M 202 1) = y := by rw [up_na (by decide), up_na (by decide), up_na (by decide), up_s]
    have a8 : up (up (up (up (up M 21 (M 202 1) x) 22 (M 202 1) y) 8 8 (M 202 1 + 1)) 1 11 0) 200 0 0 8 8 = M 202 1 + 1 := by rw [up_na (by decide), up_na (by decide), up_s]
    have a11 : up (up (up (up (up M 21 (M 202 1) x) 22 (M 202 1) y) 8 8 (M 202 1 + 1)) 1 11 0) 200 0 0 1 11 = 0 := by rw [up_na (by decide), up_s]
    refine b_X9_tasted_0 L ?_
    generalize up (up (up (up (up M 21 (M 202 1) x) 22 (M 202 1) y) 8 8 (M 202 1 + 1)) 1 11 0) 200 0 0 = M1 at *
    refine s_in (fun _ => b_X9_tasted_14 (fun e => absurd e (by decide)) (fun _ => b_X9_tasted_17 (s_in (fun _ => b_X9_tasted_26 (fun _ => b_X9_tasted_35 L (fun _ => ?_) (fun e => absurd e (by omega))) (fun e => absurd e (by decide))) (fun w2 => absurd q2 w2)))) (fun w2 => absurd q w2)
    rw [e1]
    have f1 : up (up M1 202 (186 + 2 * M 202 1) x) 202 (186 + 2 * M 202 1 + 1) y 202 1 = M 202 1 := by rw [up2_ne (by omega) (by omega)]; exact e1
    refine b_X9_tasted_55 L (by rw [f1]; omega) ?_
    rw [f1]
    refine s_tell L (by omega) (fun e => absurd e (by omega)) (b_X9_tasted_100 ⟨rfl, ?_⟩)
    rw [tellM_p (by omega)]
    have g' : ∀ a i, ¬ ((a = 202 ∧ (i = 186 + 2 * M 202 1 ∨ i = 187 + 2 * M 202 1 ∨ i = 1)) ∨ (a = 200 ∧ i = 1)) → up (up (up (up M1 202 (186 + 2 * M 202 1) x) 202 (186 + 2 * M 202 1 + 1) y) 202 1 (M 202 1 + 1)) 200 1 0 a i = M1 a i := fun a i q => by rw [up1_ne (by omega), up3_ne (by omega) (by omega) (by omega)]
    have b1 : up (up (up (up M1 202 (186 + 2 * M 202 1) x) 202 (186 + 2 * M 202 1 + 1) y) 202 1 (M 202 1 + 1)) 200 1 0 202 1 = M 202 1 + 1 := by rw [up_na (by decide), up_s]
    have b2 : up (up (up (up M1 202 (186 + 2 * M 202 1) x) 202 (186 + 2 * M 202 1 + 1) y) 202 1 (M 202 1 + 1)) 200 1 0 202 (186 + 2 * M 202 1) = x := by rw [up_na (by decide), up_ni (by omega), up_ni (by omega), up_s]
    have b3 : up (up (up (up M1 202 (186 + 2 * M 202 1) x) 202 (186 + 2 * M 202 1 + 1) y) 202 1 (M 202 1 + 1)) 200 1 0 202 (187 + 2 * M 202 1) = y := by rw [show 187 + 2 * M 202 1 = 186 + 2 * M 202 1 + 1 by omega, up_na (by decide), up_ni (by omega), up_s]
    have b4 : up (up (up (up M1 202 (186 + 2 * M 202 1) x) 202 (186 + 2 * M 202 1 + 1) y) 202 1 (M 202 1 + 1)) 200 1 0 200 1 = 0 := up_s _ _ _ _
    generalize up (up (up (up M1 202 (186 + 2 * M 202 1) x) 202 (186 + 2 * M 202 1 + 1) y) 202 1 (M 202 1 + 1)) 200 1 0 = M' at *
    have gg : ∀ a i, ¬ ((a = 21 ∧ i = M 202 1) ∨ (a = 22 ∧ i = M 202 1) ∨ (a = 8 ∧ i = 8) ∨ (a = 1 ∧ i = 11) ∨ (a = 200 ∧ (i = 0 ∨ i = 1)) ∨ (a = 202 ∧ (i = 186 + 2 * M 202 1 ∨ i = 187 + 2 * M 202 1 ∨ i = 1))) → M' a i = M a i := fun a i q => by rw [g' a i (by omega), g a i (by omega)]
    have g2 : ∀ i, ¬ (i = 186 + 2 * M 202 1 ∨ i = 187 + 2 * M 202 1 ∨ i = 1) → M' 202 i = M 202 i := fun i q => gg _ _ (by omega)
    refine h.acc hn (fun a i q => gg a i (by omega)) (by rw [g' _ _ (by omega)]; exact a11) b4 (h.sta.num (fun i q => g2 i (by omega)) (g2 2 (by omega)) (g2 3 (by omega)) ?_ (fun i q0 q1 => ?_) (fun a i q0 q1 => gg a i (by omega)) (fun a i q0 q1 => gg a i (by omega))) ?_ (h.lb.cg (fun i q => gg _ _ (by omega)))
    · unfold CntR
      rw [gg 8 6 (by omega), gg 8 7 (by omega), gg 8 9 (by omega), g' 8 8 (by omega), a8, b1, g2 2 (by omega), g2 3 (by omega), g2 4 (by omega)]
      exact ⟨by omega, hc.2⟩
    · show M' 21 i = _ ∧ M' 22 i = _ ∧ _
      rw [b1] at q1
      by_cases ei : i = M 202 1
      · subst ei
        rw [g' 21 _ (by omega), g' 22 _ (by omega), a21, a22, b2, b3]
        exact ⟨rfl, rfl, q⟩
      · rw [gg 21 i (by omega), gg 22 i (by omega), g2 (186 + 2 * i) (by omega), g2 (187 + 2 * i) (by omega)]
        exact h.sta.2.2.2.2.2 i q0 (by omega)
    · obtain ⟨hh, hi⟩ := h.his
      exact ⟨hh, hi.cg (gg _ _ (by omega)) (fun i _ _ => gg _ _ (by omega)) (fun i => gg _ _ (by omega)) (fun a i _ _ => gg _ _ (by omega)) (fun i _ => g2 i (by omega))⟩
  · rw [hc.1.2.2] at w
    have e1 : up (refC M (-5)) 200 0 0 202 1 = M 202 1 := by unfold refC; exact up3_ne (by omega) (by omega) (by omega)
    refine b_X9_tasted_0 L (s_in (fun _ => b_X9_tasted_14 (fun e => absurd e (by decide)) (fun _ => b_X9_tasted_17 (s_in (fun _ => b_X9_tasted_26 (fun _ => b_X9_tasted_35 L (fun w2 => absurd (by rw [e1]; have := hc.1; omega) w2) (fun _ => b_X9_tasted_48 L (s_tl h hn (by decide) (fun c => b_X9_tasted_54 ⟨rfl, c⟩)))) (fun e => absurd e (by decide))) (fun w2 => absurd q2 w2)))) (fun w2 => absurd q w2))
theorem t_count {x : Int} : TwoI n (e_X8_count (d + 1) x) (e_X9_count (d + 1) x) := fun S M h hn => by
  have L := h.lay
  have hc := h.cnt
  have hr := h.r
  have T := h.th hn
  have z : ∀ a i, ¬ (a = 200 ∧ i = 0) → up M 200 0 0 a i = M a i := fun a i q => up1_ne q
  obtain rfl | rfl | rfl | rfl | rfl | rfl | rfl | rfl | rfl | rfl | rfl | rfl | rfl | hx : x = 0 ∨ x = 1 ∨ x = 2 ∨ x = 3 ∨ x = 4 ∨ x = 5 ∨ x = 6 ∨ x = 7 ∨ x = 8 ∨ x = 9 ∨ x = 10 ∨ x = 11 ∨ x = 12 ∨ (x < 0 ∨ 12 < x) := by omega
  · exact b_X8_count_0 (b_X8_count_68 L ⟨_, rfl, b_X9_count_0 L (b_X9_count_72 L ⟨by rw [z _ _ (by omega), hr.n], T⟩)⟩)
  · exact b_X8_count_0 (b_X8_count_79 L ⟨_, rfl, b_X9_count_0 L (b_X9_count_79 L ⟨by rw [z _ _ (by omega), hr.b], T⟩)⟩)
  · exact b_X8_count_0 (b_X8_count_90 L ⟨_, rfl, b_X9_count_0 L (b_X9_count_87 L ⟨by rw [z _ _ (by omega), hc.1.2.2], T⟩)⟩)
  · exact b_X8_count_0 (b_X8_count_98 L ⟨_, rfl, b_X9_count_0 L (b_X9_count_94 L ⟨by rw [z _ _ (by omega), hc.2.1.2.2], T⟩)⟩)
  · exact b_X8_count_0 (b_X8_count_106 L ⟨_, rfl, b_X9_count_0 L (b_X9_count_101 L ⟨by rw [z _ _ (by omega), hc.2.2.1.2.2], T⟩)⟩)
  · obtain ⟨hh, hi⟩ := h.his
    exact b_X8_count_0 (b_X8_count_114 L ⟨_, rfl, b_X9_count_0 L (b_X9_count_108 L ⟨by rw [z _ _ (by omega), hi.1.1, hi.2.1.1], T⟩)⟩)
  · exact b_X8_count_0 (b_X8_count_122 L ⟨_, rfl, b_X9_count_0 L (b_X9_count_113 L ⟨by rw [z _ _ (by omega), h.tap.2.2], T⟩)⟩)
  · exact b_X8_count_0 (b_X8_count_130 L ⟨_, rfl, b_X9_count_0 L (b_X9_count_118 L ⟨by rw [z _ _ (by omega), (h.rf 1 (by decide) (by decide)).1], T⟩)⟩)
  · exact b_X8_count_0 (b_X8_count_137 L ⟨_, rfl, b_X9_count_0 L (b_X9_count_125 L ⟨by rw [z _ _ (by omega), (h.rf 2 (by decide) (by decide)).1], T⟩)⟩)
  · exact b_X8_count_0 (b_X8_count_144 L ⟨_, rfl, b_X9_count_0 L (b_X9_count_132 L ⟨by rw [z _ _ (by omega), (h.rf 3 (by decide) (by decide)).1], T⟩)⟩)
  · exact b_X8_count_0 (b_X8_count_151 L ⟨_, rfl, b_X9_count_0 L (b_X9_count_139 L ⟨by rw [z _ _ (by omega), (h.rf 5 (by decide) (by decide)).1], T⟩)⟩)
  · exact b_X8_count_0 (b_X8_count_158 L ⟨_, rfl, b_X9_count_0 L (b_X9_count_146 L ⟨by rw [z _ _ (by omega), (h.rf 6 (by decide) (by decide)).1], T⟩)⟩)
  · exact b_X8_count_0 (b_X8_count_166 L ⟨_, rfl, b_X9_count_0 L (b_X9_count_154 L ⟨by rw [z _ _ (by omega), hc.2.2.2.1], T⟩)⟩)
  · refine b_X8_count_0 ?_
    rw [swT_d hx]
    refine b_X8_count_174 (c_isWithin (fun q => b_X8_count_182 (fun e => absurd e (by decide)) (fun _ => b_X8_count_185 L (by omega) ⟨_, rfl, b_X9_count_0 L ?_⟩)) (fun q => b_X8_count_182 (fun _ => b_X8_count_203 ⟨_, rfl, b_X9_count_0 L ?_⟩) (fun e => absurd rfl e)))
    · rw [swT_d hx]
      refine b_X9_count_161 (s_in (fun _ => b_X9_count_172 (fun e => absurd e (by decide)) (fun _ => b_X9_count_175 L (by omega) ⟨?_, T⟩)) (fun w => absurd q w))
      rw [z _ _ (by omega), h.t (by omega), show 5 + x - 13 = 5 + (x - 13) by omega]
    · rw [swT_d hx]
      exact b_X9_count_161 (s_in (fun w => absurd w q) (fun _ => b_X9_count_172 (fun _ => b_X9_count_189 ⟨rfl, T⟩) (fun e => absurd rfl e)))
theorem CP.n8 (h : CP n S M) {c : Int} (hc : 0 ≤ c ∧ c < M 202 0) : 0 ≤ c ∧ c < 8 := by have := h.ok.n; omega
theorem t_old {c a : Int} : TwoL n (e_X8_old (d + 2) c a) (e_X9_old (d + 3) c a) := fun S M h hn => by
  have L := h.lay
  have hr := h.r
  have ok := h.ok
  have hs := lStk9 L
  have T := h.th hn
  have e2 : up M 200 0 0 202 = M 202 := funext fun i => up1_ne (by omega)
  have no : ∀ M1 : mMem, M1 = M → ¬ (((0 ≤ c ∧ c < M 202 0) ∧ (0 ≤ a ∧ a ≤ 19)) ∧ ¬ allG (M 202) c = 0) → e_X9_old (d + 3) c a S M1 (fun r2 S2 M2 => r2 = some (vL (-1)) ∧ CP (n + 1) S2 M2) := fun M1 eM q => by
    subst eM
    refine b_X9_old_0 L (s_isCask L (by rw [e2]; exact ok.n) (fun w => b_X9_old_10 (fun e => absurd e (by decide)) (fun _ => b_X9_old_13 (s_in (fun w2 => b_X9_old_22 (fun e => absurd e (by decide)) (fun _ => b_X9_old_25 L (s_allOf L (by rw [e2]; exact ok.D) (by rw [e2] at w; exact h.n8 w) (b_X9_old_30 (fun w3 => ?_) (fun _ => b_X9_old_33 ⟨rfl, T⟩))))) (fun w2 => b_X9_old_22 (fun _ => b_X9_old_33 ⟨rfl, T⟩) (fun e => absurd rfl e))))) (fun w => b_X9_old_10 (fun _ => b_X9_old_33 ⟨rfl, T⟩) (fun e => absurd rfl e)))
    rw [e2] at w w3
    exact absurd ⟨⟨w, w2⟩, w3⟩ q
  refine b_X8_old_0 L (c_has hs hr (fun q => b_X8_old_13 (fun e => absurd e (by decide)) (fun _ => b_X8_old_16 (c_isWithin (fun q2 => b_X8_old_23 (fun e => absurd e (by decide)) (fun _ => b_X8_old_26 hs (h.n8 q) (fun q3 => ?_) (fun q3 => b_X8_old_36 ⟨_, rfl, no M rfl ?_⟩))) (fun q2 => b_X8_old_23 (fun _ => b_X8_old_36 ⟨_, rfl, no M rfl (fun w => q2 w.1.2)⟩) (fun e => absurd rfl e))))) (fun q => b_X8_old_13 (fun _ => b_X8_old_36 ⟨_, rfl, no M rfl (fun w => q w.1.1)⟩) (fun e => absurd rfl e)))
  · have c8 := h.n8 q
    have eA : M (9 + 3) c = allG (M 202) c := hr.a c8
    rw [eA] at q3
    have ab := ok.all c8
    have sb := smG_bd ok.D c8 (i := a) ⟨q2.1, by omega⟩
    have ob : 0 ≤ oldG (M 202) c a ∧ oldG (M 202) c a ≤ 999000 := by unfold oldG; omega
    have db := div_bd (x := oldG (M 202) c a * 1000000000000) (y := allG (M 202) c) (k := 1000000000000) (by omega) (by omega) (by unfold oldG; omega)
    refine b_X8_old_40 hs (c_asOldAs hs hr ok c8 ⟨q2.1, by omega⟩ (b_X8_old_46 hs (by rw [eA]; omega) ⟨_, rfl, ?_⟩))
    rw [eA]
    refine b_X9_old_0 L (s_isCask L (by rw [e2]; exact ok.n) (fun w => b_X9_old_10 (fun e => absurd e (by decide)) (fun _ => b_X9_old_13 (s_in (fun w2 => b_X9_old_22 (fun e => absurd e (by decide)) (fun _ => b_X9_old_25 L (s_allOf L (by rw [e2]; exact ok.D) c8 (b_X9_old_30 (fun w3 => b_X9_old_37 L (s_olderThan L (by rw [e2]; exact ok.D) c8 ⟨q2.1, by omega⟩ (b_X9_old_46 L (by rw [e2]; omega) (s_allOf L (by rw [e2]; exact ok.D) c8 (b_X9_old_53 (by rw [e2, Int.mul_comm]; omega) ⟨?_, T⟩))))) (fun w3 => absurd w3 (by rw [e2]; omega)))))) (fun w2 => absurd q2 w2)))) (fun w => absurd (by rw [e2]; exact q) w))
    rw [e2, Int.mul_comm]
  · have eA : M (9 + 3) c = allG (M 202) c := hr.a (h.n8 q)
    have := (ok.all (h.n8 q)).1
    rw [eA] at q3
    omega
end PB
