/-! Public methods, both sides: cask. -/
section WB2
variable {n : Int} {d : Nat} {S : mSh} {M M' : mMem} {Q : Option mV → mSh → mMem → Prop}
theorem HisR.nil {hh : HI} (h : HisR M hh) (e8 : M' 200 8 = 0) (e3 : M' 55 3 = 0) (e2 : M' 55 2 = M 55 2) (h56 : ∀ i, M' 56 i = M 56 i) : HisR M' [] := by
  obtain ⟨h1, h2, h3, h4, h5⟩ := h.2.1
  exact ⟨⟨e8, by decide, fun j e he => by cases he⟩, ⟨e3, by decide, by rw [e2]; exact h3, fun i q0 q1 => by rw [h56]; exact h4 i q0 q1, fun j e he => by cases he⟩, fun e he => by cases he⟩
theorem new_ok {g : Int → Int} (ok : okS g) {t z : Int} (hn : g 0 < 8) (ht : 0 ≤ t ∧ t ≤ 4) (hz : 1 ≤ z ∧ z ≤ 999) : okS (newG g t z) := by
  have n0 := ok.n
  have hs : ∀ i, i ≠ 0 → i ≠ 170 + g 0 → i ≠ 178 + g 0 → newG g t z i = segG g (g 0) (fun _ => 0) i := fun i q0 q1 q2 => by unfold newG; rw [upr_n q0, upr_n q2, upr_n q1]
  have ho : ∀ i, i ≠ 0 → i ≠ 170 + g 0 → i ≠ 178 + g 0 → (i < 10 + 20 * g 0 ∨ 30 + 20 * g 0 ≤ i) → newG g t z i = g i := fun i q0 q1 q2 q3 => by rw [hs i q0 q1 q2, seg_o q3]
  have e0 : newG g t z 0 = g 0 + 1 := upr_s _ _ _
  have et : newG g t z (170 + g 0) = t := by unfold newG; rw [upr_n (by omega), upr_n (by omega), upr_s]
  have ez : newG g t z (178 + g 0) = z := by unfold newG; rw [upr_n (by omega), upr_s]
  refine ⟨by rw [e0]; omega, fun i q0 q1 => ?_, fun c q0 q1 => ?_, by rw [ho 5 (by omega) (by omega) (by omega) (by omega)]; exact ok.y, by rw [ho 6 (by omega) (by omega) (by omega) (by omega)]; exact ok.k, by rw [ho 7 (by omega) (by omega) (by omega) (by omega)]; exact ok.m, by rw [ho 8 (by omega) (by omega) (by omega) (by omega)]; exact ok.p, by rw [ho 9 (by omega) (by omega) (by omega) (by omega)]; exact ok.b⟩
  · rw [hs i (by omega) (by omega) (by omega)]
    by_cases q : i < 10 + 20 * g 0 ∨ 30 + 20 * g 0 ≤ i
    · rw [seg_o q]; exact ok.nn i q0 q1
    · have := seg_i (g := g) (c := g 0) (f := fun _ => 0) (a := i - 10 - 20 * g 0) (by omega)
      rw [show 10 + 20 * g 0 + (i - 10 - 20 * g 0) = i by omega] at this
      rw [this]; exact Int.le_refl _
  · have ea : allG (newG g t z) c = allG (segG g (g 0) (fun _ => 0)) c := allG_congr (fun a p0 p1 => hs _ (by omega) (by omega) (by omega))
    by_cases ec : c = g 0
    · subst ec
      rw [ea, seg_all, et, ez]
      have : sm (fun _ => (0 : Int)) 20 = 0 := by rw [sm20]; rfl
      rw [this]; omega
    · rw [ea, seg_all' ec, ho (170 + c) (by omega) (by omega) (by omega) (by omega), ho (178 + c) (by omega) (by omega) (by omega) (by omega)]
      exact ok.2.2.1 c q0 q1
theorem s_comes (L : Lay S) {g : Int → Int} (hg : M 202 = g) (ok : okS g) {t z : Int} (k1 : ¬ ((0 ≤ t ∧ t ≤ 4) ∧ (1 ≤ z ∧ z ≤ 999)) → Q (some (vI (-1))) S M) (k5 : (0 ≤ t ∧ t ≤ 4) ∧ (1 ≤ z ∧ z ≤ 999) → g 0 = 8 → Q (some (vI (-5))) S M) (k : (0 ≤ t ∧ t ≤ 4) ∧ (1 ≤ z ∧ z ≤ 999) → g 0 < 8 → ∀ M', M' 202 = newG g t z → (∀ a i, a ≠ 202 → M' a i = M a i) → Q (some (vI (g 0))) S M') : e_X9_comes (d + 1) t z S M Q := by
  subst hg
  have n0 := ok.n
  refine b_X9_comes_0 (s_in (fun q => b_X9_comes_9 (fun e => absurd e (by decide)) (fun _ => b_X9_comes_12 (s_in (fun q2 => b_X9_comes_21 (fun _ => b_X9_comes_26 L (fun q3 => b_X9_comes_42 L (by omega) ?_) (fun q3 => b_X9_comes_39 (k5 ⟨q, q2⟩ q3))) (fun e => absurd e (by decide))) (fun q2 => b_X9_comes_21 (fun e => absurd rfl e) (fun _ => b_X9_comes_24 (k1 (fun w => q2 w.2))))))) (fun q => b_X9_comes_9 (fun _ => b_X9_comes_24 (k1 (fun w => q w.1))) (fun e => absurd rfl e)))
  have key := for_up (W := fun x => WP PR (d + 1) 152 67 [vA 200, vI t, vI z, vI (M 202 0), vI x] [] S (fw (up (up M 202 (170 + M 202 0) t) 202 (178 + M 202 0) z) 202 (fun _ => 0) (10 + 20 * M 202 0) x) Q) (lo := 0) (hi := 20) (by decide) ?_ (fun x x0 x7 ih => b_X9_comes_67 (fun e => absurd e (by omega)) (fun _ => b_X9_comes_74 L (by omega) (by rw [fw_up x0 rfl]; exact ih)))
  · rw [fw_0] at key; exact key
  · have z0 : fw (up (up M 202 (170 + M 202 0) t) 202 (178 + M 202 0) z) 202 (fun _ => 0) (10 + 20 * M 202 0) 20 202 0 = M 202 0 := by rw [fw_o (by omega), up2_ne (by omega) (by omega)]
    refine b_X9_comes_67 (fun _ => b_X9_comes_96 L (by rw [z0]; omega) ?_) (fun e => absurd e (by decide))
    rw [z0]
    refine k ⟨q, q2⟩ (by omega) _ ?_ (fun a i q => by rw [up_na q, fw_na q, up_na q, up_na q])
    rw [up_g, fw_g, up_g, up_g]
    unfold newG segG
    funext i
    by_cases i0 : i = 0
    · rw [i0, upr_s, upr_s]
    · rw [upr_n i0, upr_n i0]
      by_cases w : 10 + 20 * M 202 0 ≤ i ∧ i < 10 + 20 * M 202 0 + 20
      · rw [fwr_i w, upr_n (by omega), upr_n (by omega), fwr_i w]
      · rw [fwr_o (by omega)]
        by_cases i2 : i = 178 + M 202 0
        · rw [i2, upr_s, upr_s]
        · rw [upr_n i2, upr_n i2]
          by_cases i1 : i = 170 + M 202 0
          · rw [i1, upr_s, upr_s]
          · rw [upr_n i1, upr_n i1, fwr_o (by omega)]
theorem t_cask {t z : Int} : TwoI n (e_X8_cask (d + 2) t z) (e_X9_cask (d + 3) t z) := fun S M h hn => by
  have L := h.lay
  have hs := lStk9 L
  have ok := h.ok
  have hr := h.r
  obtain ⟨hh, hi⟩ := h.his
  have bad : ∀ v, -7 < v ∧ v < 0 → ∀ M1, M1 = refC M v → (¬ ((0 ≤ t ∧ t ≤ 4) ∧ (1 ≤ z ∧ z ≤ 999)) ∧ v = -1 ∨ M 202 0 = 8 ∧ ((0 ≤ t ∧ t ≤ 4) ∧ (1 ≤ z ∧ z ≤ 999)) ∧ v = -5) → e_X9_cask (d + 3) t z S M1 (fun r2 S2 M2 => r2 = some (vI v) ∧ CP (n + 1) S2 M2) := fun v hv M1 eM q => by
    subst eM
    have e2 : up (refC M v) 200 0 0 202 = M 202 := funext fun i => by rw [up1_ne (by omega)]; unfold refC; rw [up2_ne (by omega) (by omega)]
    have tl : WP PR (d + 3) 153 12 [vA 200, vI t, vI z] [vI v, vA 200] S (up (refC M v) 200 0 0) (fun r2 S2 M2 => r2 = some (vI v) ∧ CP (n + 1) S2 M2) := by
      refine b_X9_cask_12 L ?_
      have e8 : up (up (refC M v) 200 0 0) 200 8 (up (refC M v) 200 0 0 200 8) = up (refC M v) 200 0 0 := funext fun a => funext fun i => by
        by_cases w : a = 200 ∧ i = 8
        · rw [w.1, w.2, up_s]
        · exact up1_ne w
      refine b_X9_lasting_0 (fun w => absurd w (by omega)) (fun _ => b_X9_lasting_5 L ?_)
      rw [e8]
      exact s_tl h hn hv (fun c => b_X9_lasting_21 (b_X9_cask_15 ⟨rfl, c⟩))
    refine b_X9_cask_0 L (s_comes L e2 ok (fun w => ?_) (fun w w2 => ?_) (fun w w2 => ?_))
    · rcases q with ⟨-, rfl⟩ | ⟨-, q, -⟩
      · exact tl
      · exact absurd q w
    · rcases q with ⟨q, -⟩ | ⟨-, -, rfl⟩
      · exact absurd w q
      · exact tl
    · rcases q with ⟨q, -⟩ | ⟨q, -⟩
      · exact absurd w q
      · omega
  have b1 : ¬ ((0 ≤ t ∧ t ≤ 4) ∧ (1 ≤ z ∧ z ≤ 999)) → WP PR (d + 2) 82 20 [vA 1, vI t, vI z] [] S M (fun r S1 M1 => ∃ v, r = some (vI v) ∧ e_X9_cask (d + 3) t z S1 M1 (fun r2 S2 M2 => r2 = some (vI v) ∧ CP (n + 1) S2 M2)) := fun q => b_X8_cask_20 L (c_refuse L (by decide) (h.r99 (by decide)) (b_X8_cask_25 ⟨_, rfl, bad (-1) (by decide) _ rfl (Or.inl ⟨q, rfl⟩)⟩))
  refine b_X8_cask_0 (c_isWithin (fun q => b_X8_cask_6 (fun e => absurd e (by decide)) (fun _ => b_X8_cask_9 (c_isWithin (fun q2 => b_X8_cask_17 (fun _ => b_X8_cask_26 L (fun q3 => b_X8_cask_48 L (b_X1_clear_0 L (b_X8_cask_55 L ?_))) (fun q3 => b_X8_cask_41 L (c_refuse L (by decide) (h.r99 (by decide)) (b_X8_cask_47 ⟨_, rfl, bad (-5) (by decide) _ rfl (Or.inr ⟨?_, ⟨q, q2⟩, rfl⟩)⟩)))) (fun e => absurd e (by decide))) (fun q2 => b_X8_cask_17 (fun e => absurd rfl e) (fun _ => b1 (fun w => q2 w.2)))))) (fun q => b_X8_cask_6 (fun _ => b1 (fun w => q w.1)) (fun e => absurd rfl e)))
  · rw [hr.n] at q3
    refine c_add (M := up M 55 3 0) hs (hr.congr (fun a i q0 q1 => up1_ne (by omega))) ok q3 (fun M1 r1 f1 => b_X8_cask_68 L (b_X8_accept_0 L (b_X8_cask_71 ⟨_, rfl, b_X9_cask_0 L ?_⟩)))
    have f2 : ∀ a i, ¬ ((9 ≤ a ∧ a ≤ 15) ∨ (a = 55 ∧ i = 3) ∨ (a = 1 ∧ i = 11) ∨ (a = 200 ∧ i = 0)) → up (up M1 1 11 0) 200 0 0 a i = M a i := fun a i q => by rw [up2_ne (by omega) (by omega), f1 a i (by omega), up1_ne (by omega)]
    have r2 : StkR (newG (M 202) t z) 9 (up (up M1 1 11 0) 200 0 0) := r1.congr (fun a i q0 q1 => up2_ne (by omega) (by omega))
    have g11 : up (up M1 1 11 0) 200 0 0 1 11 = 0 := by rw [up_na (by decide), up_s]
    have g3 : up (up M1 1 11 0) 200 0 0 55 3 = 0 := by rw [up2_ne (by omega) (by omega), f1 _ _ (by omega), up_s]
    generalize up (up M1 1 11 0) 200 0 0 = M2 at *
    have e2 : M2 202 = M 202 := funext fun i => f2 _ _ (by omega)
    refine s_comes L e2 ok (fun w => absurd ⟨q, q2⟩ w) (fun _ w => absurd w (by omega)) (fun _ _ M3 row f3 => b_X9_cask_12 L (s_lasting L (by have := ok.n; omega) (fun w => absurd w (by have := ok.n; omega)) (b_X9_cask_15 ⟨rfl, ?_⟩)))
    have n0 := ok.n
    unfold lastM
    rw [tellM_p (by omega), if_neg (by omega)]
    have gg : ∀ a i, ¬ ((9 ≤ a ∧ a ≤ 15) ∨ (a = 55 ∧ i = 3) ∨ (a = 1 ∧ i = 11) ∨ (a = 200 ∧ (i = 0 ∨ i = 8 ∨ i = 1)) ∨ a = 202) → up (up M3 200 8 0) 200 1 0 a i = M a i := fun a i q => by rw [up2_ne (by omega) (by omega), f3 a i (by omega), f2 a i (by omega)]
    have g2 : ∀ a i, a ≤ 199 → up (up M3 200 8 0) 200 1 0 a i = M2 a i := fun a i q => by rw [up2_ne (by omega) (by omega), f3 a i (by omega)]
    have r8 : up (up M3 200 8 0) 200 1 0 200 8 = 0 := by rw [up_ni (by decide), up_s]
    have r1' : up (up M3 200 8 0) 200 1 0 200 1 = 0 := up_s _ _ _ _
    have row' : up (up M3 200 8 0) 200 1 0 202 = newG (M 202) t z := by rw [← row]; exact funext fun i => up2_ne (by omega) (by omega)
    generalize up (up M3 200 8 0) 200 1 0 = M' at *
    have ho : ∀ i, i ≠ 0 → i ≠ 170 + M 202 0 → i ≠ 178 + M 202 0 → (i < 10 + 20 * M 202 0 ∨ 30 + 20 * M 202 0 ≤ i) → newG (M 202) t z i = M 202 i := fun i q0 q1 q2 q3 => by unfold newG; rw [upr_n q0, upr_n q2, upr_n q1, seg_o q3]
    refine h.acc hn (fun a i q => gg a i (by omega)) (by rw [g2 _ _ (by omega)]; exact g11) r1' ?_ ⟨[], hi.nil r8 (by rw [g2 _ _ (by omega)]; exact g3) (gg _ _ (by omega)) (fun i => gg _ _ (by omega))⟩ (h.lb.cg (fun i q => gg _ _ (by omega)))
    rw [row']
    exact h.sta.stk (new_ok ok q3 q q2) (by rw [ho 5 (by omega) (by omega) (by omega) (by omega)]; exact h.y) (r2.congr (fun a i q0 q1 => g2 a i (by omega))) (fun i q => ho i (by omega) (by omega) (by omega) (by omega)) (fun a i q0 q1 q2 => gg a i (by omega)) (fun a i q0 q1 => gg a i (by omega))
  · rw [hr.n] at q3; have := ok.n; omega
end WB2
