/-! Public methods, both sides: terms, image, back. -/
section WC
variable {n : Int} {d : Nat} {S : mSh} {M M' : mMem} {Q : Option mV → mSh → mMem → Prop}
def trmOK (x y : Int) : Prop := (x = 0 ∧ 0 ≤ y ∧ y ≤ 999) ∨ (x = 1 ∧ 0 ≤ y ∧ y ≤ 10) ∨ (x = 2 ∧ 0 ≤ y ∧ y ≤ 9) ∨ (x = 3 ∧ 1 ≤ y ∧ y ≤ 100)
theorem c_leastTerm {x : Int} (k : Q (some (vI (if x = 3 then 1 else 0))) S M) : e_X8_leastTerm d x S M Q :=
  b_X8_leastTerm_0 (fun q => b_X8_leastTerm_9 (by rw [if_neg q] at k; exact k)) (fun q => b_X8_leastTerm_5 (by rw [if_pos q] at k; exact k))
theorem c_mostTerm {x : Int} (hx : 0 ≤ x ∧ x ≤ 3) (k : Q (some (vI (if x = 0 then 999 else if x = 1 then 10 else if x = 2 then 9 else 100))) S M) : e_X8_mostTerm d x S M Q := by
  refine b_X8_mostTerm_0 ?_
  obtain rfl | rfl | rfl | rfl : x = 0 ∨ x = 1 ∨ x = 2 ∨ x = 3 := by omega
  · exact b_X8_mostTerm_28 k
  · exact b_X8_mostTerm_32 k
  · exact b_X8_mostTerm_35 k
  · exact b_X8_mostTerm_38 k
theorem trm_iff {x y : Int} (hx : 0 ≤ x ∧ x ≤ 3) : trmOK x y ↔ ((if x = 3 then 1 else 0) ≤ y ∧ y ≤ (if x = 0 then 999 else if x = 1 then 10 else if x = 2 then 9 else 100)) := by
  unfold trmOK
  obtain rfl | rfl | rfl | rfl : x = 0 ∨ x = 1 ∨ x = 2 ∨ x = 3 := by omega
  all_goals (simp; try omega)
theorem s_terms (L : Lay S) {x y : Int} (k1 : trmOK x y → Q (some (vI (M 202 (5 + x)))) S (up (up (up (up M 200 0 0) 200 8 0) 202 (5 + x) y) 200 1 0)) (k0 : ¬ trmOK x y → ∀ Q' : Option mV → mSh → mMem → Prop, (∀ M', Q (some (vI (-1))) S M' → Q' (some (vI (-1))) S M') → e_X9_tell d (-1) S (up M 200 0 0) Q') : e_X9_terms (d + 1) x y S M Q := by
  have e : up (up M 200 0 0) 200 8 0 202 (5 + x) = M 202 (5 + x) := up2_ne (by omega) (by omega)
  have b82 : ¬ trmOK x y → ∀ x3 : Int, WP PR (d + 1) 156 82 [vA 200, vI x, vI y, vI x3] [] S (up M 200 0 0) Q := fun q x3 => b_X9_terms_82 L (k0 q _ (fun M' w => b_X9_terms_87 w))
  have b88 : trmOK x y → ∀ x3 : Int, WP PR (d + 1) 156 88 [vA 200, vI x, vI y, vI x3] [] S (up M 200 0 0) Q := fun q x3 => by
    have := k1 q
    rw [← e] at this
    unfold trmOK at q
    exact b_X9_terms_88 L (by omega) (b_X9_change_0 L (by omega) (b_X9_terms_101 this))
  refine b_X9_terms_0 L (fun q0 => b_X9_terms_21 (fun q1 => b_X9_terms_38 (fun q2 => b_X9_terms_55 (fun q3 => ?_) (fun q3 => b_X9_terms_60 (s_in (fun q => b_X9_terms_69 (fun w => absurd w (by decide)) (fun _ => ?_)) (fun q => b_X9_terms_69 (fun _ => ?_) (fun w => absurd rfl w))))) (fun q2 => b_X9_terms_43 (s_in (fun q => b_X9_terms_52 (fun _ => b88 (by unfold trmOK; omega) _) (fun w => absurd w (by decide))) (fun q => b_X9_terms_52 (fun w => absurd rfl w) (fun _ => b82 (by unfold trmOK; omega) _))))) (fun q1 => b_X9_terms_26 (s_in (fun q => b_X9_terms_35 (fun _ => b88 (by unfold trmOK; omega) _) (fun w => absurd w (by decide))) (fun q => b_X9_terms_35 (fun w => absurd rfl w) (fun _ => b82 (by unfold trmOK; omega) _))))) (fun q0 => b_X9_terms_9 (s_in (fun q => b_X9_terms_18 (fun _ => b88 (by unfold trmOK; omega) _) (fun w => absurd w (by decide))) (fun q => b_X9_terms_18 (fun w => absurd rfl w) (fun _ => b82 (by unfold trmOK; omega) _))))
  · exact b_X9_terms_76 L (k0 (by unfold trmOK; omega) _ (fun M' w => b_X9_terms_87 w))
  · have h1 : trmOK x y := by unfold trmOK; omega
    have := k1 h1
    rw [← e] at this
    exact b_X9_terms_72 L (by omega) (b_X9_change_0 L (by omega) (b_X9_terms_101 this))
  · exact b_X9_terms_76 L (k0 (by unfold trmOK; omega) _ (fun M' w => b_X9_terms_87 w))
theorem trm_ok {g : Int → Int} (ok : okS g) {x y : Int} (q : trmOK x y) : okS (upr g (5 + x) y) := by
  have hx : 0 ≤ x ∧ x ≤ 3 := by unfold trmOK at q; omega
  have e : ∀ i, ¬ i = 5 + x → upr g (5 + x) y i = g i := fun i q => upr_n q
  have s : upr g (5 + x) y (5 + x) = y := upr_s _ _ _
  have v : ∀ i, 5 ≤ i → i ≤ 8 → upr g (5 + x) y i = if i = 5 + x then y else g i := fun i _ _ => rfl
  obtain ⟨h1, h2, h3, h4, h5, h6, h7, h8⟩ := ok
  unfold trmOK at q
  refine ⟨by rw [e 0 (by omega)]; exact h1, fun i q0 q1 => by rw [e i (by omega)]; exact h2 i q0 q1, fun c q0 q1 => ?_, ?_, ?_, ?_, ?_, by rw [e 9 (by omega)]; exact h8⟩
  · rw [e (170 + c) (by omega), e (178 + c) (by omega), allG_congr (g := g) (c := c) (fun a p0 p1 => e _ (by omega))]
    exact h3 c q0 q1
  · rw [v 5 (by decide) (by decide)]; split <;> omega
  · rw [v 6 (by decide) (by decide)]; split <;> omega
  · rw [v 7 (by decide) (by decide)]; split <;> omega
  · rw [v 8 (by decide) (by decide)]; split <;> omega
theorem t_terms {x y : Int} : TwoI n (e_X8_terms (d + 2) x y) (e_X9_terms (d + 2) x y) := fun S M h hn => by
  have L := h.lay
  have ok := h.ok
  obtain ⟨hh, hi⟩ := h.his
  have bad : ¬ trmOK x y → WP PR (d + 2) 85 24 [vA 1, vI x, vI y, vU] [] S M (fun r S1 M1 => ∃ v, r = some (vI v) ∧ e_X9_terms (d + 2) x y S1 M1 (fun r2 S2 M2 => r2 = some (vI v) ∧ CP (n + 1) S2 M2)) := fun q =>
    b_X8_terms_24 L (c_refuse L (by decide) (h.r99 (by decide)) (b_X8_terms_29 ⟨_, rfl, s_terms L (fun w => absurd w q) (fun _ Q' k' => s_tl h hn (by decide) (fun c => k' _ ⟨rfl, c⟩))⟩))
  refine b_X8_terms_0 (c_isWithin (fun q => b_X8_terms_6 (fun e => absurd e (by decide)) (fun _ => b_X8_terms_9 (c_leastTerm (b_X8_terms_14 (c_mostTerm q (b_X8_terms_18 (c_isWithin (fun q2 => b_X8_terms_21 (fun _ => b_X8_terms_30 L (by omega) (b_X1_clear_0 L (b_X8_terms_63 L (b_X8_accept_0 L (b_X8_terms_68 ⟨_, rfl, ?_⟩))))) (fun e => absurd e (by decide))) (fun q2 => b_X8_terms_21 (fun e => absurd rfl e) (fun _ => bad (fun w => q2 ((trm_iff q).mp w))))))))))) (fun q => b_X8_terms_6 (fun _ => bad (by unfold trmOK; omega)) (fun e => absurd rfl e)))
  have tk := (trm_iff q).mpr q2
  have f1 : ∀ a i, ¬ ((a = 15 ∧ i = x) ∨ (a = 55 ∧ i = 3) ∨ (a = 1 ∧ i = 11)) → up (up (up M 15 x y) 55 3 0) 1 11 0 a i = M a i := fun a i q => up3_ne (by omega) (by omega) (by omega)
  have a15 : up (up (up M 15 x y) 55 3 0) 1 11 0 15 x = y := by rw [up_na (by decide), up_na (by decide), up_s]
  have a3 : up (up (up M 15 x y) 55 3 0) 1 11 0 55 3 = 0 := by rw [up_na (by decide), up_s]
  have a11 : up (up (up M 15 x y) 55 3 0) 1 11 0 1 11 = 0 := up_s _ _ _ _
  generalize up (up (up M 15 x y) 55 3 0) 1 11 0 = M1 at *
  refine s_terms L (fun _ => ⟨by rw [f1 _ _ (by omega), h.t (by omega)], ?_⟩) (fun w => absurd tk w)
  have gg : ∀ a i, ¬ ((a = 15 ∧ i = x) ∨ (a = 55 ∧ i = 3) ∨ (a = 1 ∧ i = 11) ∨ (a = 200 ∧ (i = 0 ∨ i = 8 ∨ i = 1)) ∨ (a = 202 ∧ i = 5 + x)) → up (up (up (up M1 200 0 0) 200 8 0) 202 (5 + x) y) 200 1 0 a i = M a i := fun a i q => by rw [up1_ne (by omega), up3_ne (by omega) (by omega) (by omega), f1 a i (by omega)]
  have g1 : ∀ a i, a ≤ 199 → up (up (up (up M1 200 0 0) 200 8 0) 202 (5 + x) y) 200 1 0 a i = M1 a i := fun a i q => by rw [up1_ne (by omega), up3_ne (by omega) (by omega) (by omega)]
  have b8 : up (up (up (up M1 200 0 0) 200 8 0) 202 (5 + x) y) 200 1 0 200 8 = 0 := by rw [up_ni (by decide), up_na (by decide), up_s]
  have b1 : up (up (up (up M1 200 0 0) 200 8 0) 202 (5 + x) y) 200 1 0 200 1 = 0 := up_s _ _ _ _
  have b5 : up (up (up (up M1 200 0 0) 200 8 0) 202 (5 + x) y) 200 1 0 202 (5 + x) = y := by rw [up_na (by decide), up_s]
  generalize up (up (up (up M1 200 0 0) 200 8 0) 202 (5 + x) y) 200 1 0 = M' at *
  have row : M' 202 = upr (M 202) (5 + x) y := funext fun i => by
    by_cases e : i = 5 + x
    · rw [e, upr_s]; exact b5
    · rw [upr_n e]; exact gg _ _ (by omega)
  refine h.acc hn (fun a i q => gg a i (by omega)) (by rw [g1 _ _ (by omega)]; exact a11) b1 ?_ ⟨[], hi.nil b8 (by rw [g1 _ _ (by omega)]; exact a3) (gg _ _ (by omega)) (fun i => gg _ _ (by omega))⟩ (h.lb.cg (fun i q => gg _ _ (by omega)))
  rw [row]
  have ok' := trm_ok ok tk
  refine h.sta.stk ok' ?_ ?_ (fun i q => upr_n (by omega)) (fun a i q0 q1 q2 => gg a i (by omega)) (fun a i q0 q1 => gg a i (by omega))
  · by_cases e : x = 0
    · subst e; show upr (M 202) 5 y 5 ≤ 999; rw [upr_s]; unfold trmOK at tk; omega
    · rw [upr_n (by omega)]; exact h.y
  · obtain ⟨s1, s2, s3, s4, s5⟩ := h.r
    refine ⟨by rw [gg _ _ (by omega), upr_n (by omega)]; exact s1, by rw [gg _ _ (by omega), upr_n (by omega)]; exact s2, fun c q0 q1 => ?_, fun i q0 q1 => by rw [gg _ _ (by omega), upr_n (by omega)]; exact s4 i q0 q1, fun t q0 q1 => ?_⟩
    · rw [gg _ _ (by omega), gg _ _ (by omega), gg _ _ (by omega), gg _ _ (by omega), upr_n (by omega), upr_n (by omega), allG_congr (g := M 202) (c := c) (fun a p0 p1 => upr_n (by omega)), yrG_congr (g := M 202) (c := c) (fun a p0 p1 => upr_n (by omega))]
      exact s3 c q0 q1
    · show M' 15 t = _
      by_cases e : t = x
      · rw [e, upr_s, g1 _ _ (by omega)]; exact a15
      · rw [upr_n (by omega), gg _ _ (by omega)]; exact s5 t q0 q1
/-- one State is made another -/
theorem c_copySta {a b : Int} (ha : Sta S a) (hb : Sta S b) (hd : a + 15 ≤ b ∨ b + 15 ≤ a) (hu : a ≤ 200 ∧ b ≤ 200) {g : Int → Int} (h : StaR S M b g) (k : ∀ M', StaR S M' a g → (∀ x i, ¬ ((a ≤ x ∧ x ≤ a + 7) ∨ (a + 11 ≤ x ∧ x ≤ a + 14)) → M' x i = M x i) → Q none S M') : e_X3_copyFrom (d + 1) a b S M Q := by
  obtain ⟨h1, h2, h3, h4, h5, h6⟩ := h
  refine b_X3_copyFrom_0 ha hb (c_copyFrom ha.s hb.s (by omega) h2 (fun M1 r1 f1 => ?_))
  have n11 : ∀ x i, b + 8 ≤ x → x ≤ b + 14 → M1 x i = M x i := fun x i q0 q1 => f1 x i (by omega)
  refine b_X3_copyFrom_11 hb ha (fun i q0 q1 => Or.inr ?_) (fun i q0 q1 => Or.inr ?_) ?_
  · rw [Int.zero_add, n11 _ _ (by omega) (by omega)]; exact h4.1 i q0 q1
  · rw [Int.zero_add, cpy_na (by omega), n11 _ _ (by omega) (by omega)]; exact h5.1 i q0 q1
  have c11 : ∀ i, 0 ≤ i → i < 6 → cpy (cpy (cpy (cpy M1 (b + 11) 0 (a + 11) 0 6) (b + 12) 0 (a + 12) 0 4) (b + 13) 0 (a + 13) 0 6) (b + 14) 0 (a + 14) 0 6 (a + 11) i = M (b + 11) i := fun i q0 q1 => by
    rw [cpy_na (by omega), cpy_na (by omega), cpy_na (by omega), cpy_i ⟨q0, q1⟩, n11 _ _ (by omega) (by omega)]
  have c12 : ∀ i, 0 ≤ i → i < 4 → cpy (cpy (cpy (cpy M1 (b + 11) 0 (a + 11) 0 6) (b + 12) 0 (a + 12) 0 4) (b + 13) 0 (a + 13) 0 6) (b + 14) 0 (a + 14) 0 6 (a + 12) i = M (b + 12) i := fun i q0 q1 => by
    rw [cpy_na (by omega), cpy_na (by omega), cpy_i ⟨q0, q1⟩, cpy_na (by omega), n11 _ _ (by omega) (by omega)]
  have c13 : ∀ i, 0 ≤ i → i < 6 → cpy (cpy (cpy (cpy M1 (b + 11) 0 (a + 11) 0 6) (b + 12) 0 (a + 12) 0 4) (b + 13) 0 (a + 13) 0 6) (b + 14) 0 (a + 14) 0 6 (a + 13) i = M (b + 13) i := fun i q0 q1 => by
    rw [cpy_na (by omega), cpy_i ⟨q0, q1⟩, cpy_na (by omega), cpy_na (by omega), n11 _ _ (by omega) (by omega)]
  have c14 : ∀ i, 0 ≤ i → i < 6 → cpy (cpy (cpy (cpy M1 (b + 11) 0 (a + 11) 0 6) (b + 12) 0 (a + 12) 0 4) (b + 13) 0 (a + 13) 0 6) (b + 14) 0 (a + 14) 0 6 (a + 14) i = M (b + 14) i := fun i q0 q1 => by
    rw [cpy_i ⟨q0, q1⟩, cpy_na (by omega), cpy_na (by omega), cpy_na (by omega), n11 _ _ (by omega) (by omega)]
  have co : ∀ x i, ¬ (a + 11 ≤ x ∧ x ≤ a + 14) → cpy (cpy (cpy (cpy M1 (b + 11) 0 (a + 11) 0 6) (b + 12) 0 (a + 12) 0 4) (b + 13) 0 (a + 13) 0 6) (b + 14) 0 (a + 14) 0 6 x i = M1 x i := fun x i q => by
    rw [cpy_na (by omega), cpy_na (by omega), cpy_na (by omega), cpy_na (by omega)]
  generalize cpy (cpy (cpy (cpy M1 (b + 11) 0 (a + 11) 0 6) (b + 12) 0 (a + 12) 0 4) (b + 13) 0 (a + 13) 0 6) (b + 14) 0 (a + 14) 0 6 = N at *
  have nb : ∀ i, N b i = M b i := fun i => by rw [co _ _ (by omega), f1 _ _ (by omega)]
  have u1 : up N a 6 (N b 6) b 7 = N b 7 := up_na (by omega)
  rw [u1]
  have u2 : up (up N a 6 (N b 6)) a 7 (N b 7) b 8 = N b 8 := by rw [up_na (by omega), up_na (by omega)]
  rw [u2]
  have u3 : up (up (up N a 6 (N b 6)) a 7 (N b 7)) a 8 (N b 8) b 9 = N b 9 := by rw [up_na (by omega), up_na (by omega), up_na (by omega)]
  rw [u3, nb, nb, nb, nb]
  have g : ∀ x i, ¬ (x = a ∧ 6 ≤ i ∧ i ≤ 9) → up (up (up (up N a 6 (M b 6)) a 7 (M b 7)) a 8 (M b 8)) a 9 (M b 9) x i = N x i := fun x i q => by rw [up1_ne (by omega), up3_ne (by omega) (by omega) (by omega)]
  have e6 : up (up (up (up N a 6 (M b 6)) a 7 (M b 7)) a 8 (M b 8)) a 9 (M b 9) a 6 = M b 6 := by rw [up_ni (by decide), up_ni (by decide), up_ni (by decide), up_s]
  have e7 : up (up (up (up N a 6 (M b 6)) a 7 (M b 7)) a 8 (M b 8)) a 9 (M b 9) a 7 = M b 7 := by rw [up_ni (by decide), up_ni (by decide), up_s]
  have e8 : up (up (up (up N a 6 (M b 6)) a 7 (M b 7)) a 8 (M b 8)) a 9 (M b 9) a 8 = M b 8 := by rw [up_ni (by decide), up_s]
  have e9 : up (up (up (up N a 6 (M b 6)) a 7 (M b 7)) a 8 (M b 8)) a 9 (M b 9) a 9 = M b 9 := up_s _ _ _ _
  generalize up (up (up (up N a 6 (M b 6)) a 7 (M b 7)) a 8 (M b 8)) a 9 (M b 9) = M' at *
  have tx : ∀ x i, 225 < x → x ≤ sN S → M' x i = M x i := fun x i q0 q1 => by rw [g x i (by omega), co x i (by omega), f1 x i (by omega)]
  refine k M' ⟨h1, r1.congr (fun x i q0 q1 => by rw [g x i (by omega), co x i (by omega)]), h3.cg (fun i _ _ => rfl) (fun i q0 q1 => ?_), h4.cg (GrS.rf S) h3.2.1.2.1 rfl (fun i _ _ => rfl) (fun i q0 q1 => by rw [g _ _ (by omega)]; exact c11 i q0 q1) tx, h5.cg (GrS.rf S) h3.2.2.1.2.1 rfl (fun i _ _ => rfl) (fun i q0 q1 => by rw [g _ _ (by omega)]; exact c12 i q0 q1) tx, h6.cg h3.1.2.1 rfl (fun i _ _ => rfl) (fun i q0 q1 => ⟨by rw [g _ _ (by omega)]; exact c13 i q0 q1, by rw [g _ _ (by omega)]; exact c14 i q0 q1⟩)⟩ (fun x i q => by rw [g x i (by omega), co x i (by omega), f1 x i (by omega)])
  obtain rfl | rfl | rfl | rfl : i = 6 ∨ i = 7 ∨ i = 8 ∨ i = 9 := by omega
  · exact e6
  · exact e7
  · exact e8
  · exact e9
theorem lStaI (L : Lay S) {k : Int} (hk : 0 ≤ k ∧ k < 2) : Sta S (24 + 15 * k) := by
  obtain rfl | rfl : k = 0 ∨ k = 1 := by omega
  · exact lSta24 L
  · exact lSta39 L
theorem t_image {k : Int} : TwoI n (e_X8_image (d + 2) k) (e_X9_image (d + 2) k) := fun S M h hn => by
  have L := h.lay
  obtain ⟨hh, hi⟩ := h.his
  refine b_X8_image_0 (c_isWithin (fun q => b_X8_image_6 (fun _ => b_X8_image_15 (q1 := 24 + 15 * k) (h.img k q.1 (by omega)).2.2.2 L (lStaI L (by omega)) (by omega) (c_copySta (lStaI L (by omega)) (lSta8 L) (by omega) (by omega) h.sta (fun M1 s1 f1 => b_X8_image_28 L (by omega) (b_X8_accept_0 L (b_X8_image_40 ⟨_, rfl, b_X9_image_0 L ?_⟩))))) (fun e => absurd e (by decide))) (fun q => b_X8_image_6 (fun e => absurd rfl e) (fun _ => b_X8_image_9 L (c_refuse L (by decide) (h.r99 (by decide)) (b_X8_image_14 ⟨_, rfl, b_X9_image_0 L (s_in (fun w => absurd w q) (fun _ => b_X9_image_12 (fun e => absurd rfl e) (fun _ => b_X9_image_15 L (s_tl h hn (by decide) (fun c => b_X9_image_20 ⟨rfl, c⟩)))))⟩)))))
  have f2 : ∀ a i, ¬ ((24 + 15 * k ≤ a ∧ a ≤ 24 + 15 * k + 7) ∨ (24 + 15 * k + 11 ≤ a ∧ a ≤ 24 + 15 * k + 14) ∨ (a = 54 ∧ i = k) ∨ (a = 1 ∧ i = 11) ∨ (a = 200 ∧ i = 0)) → up (up (up M1 54 k 1) 1 11 0) 200 0 0 a i = M a i := fun a i q => by rw [up3_ne (by omega) (by omega) (by omega), f1 a i (by omega)]
  have f21 : ∀ a i, ¬ ((a = 54 ∧ i = k) ∨ (a = 1 ∧ i = 11) ∨ (a = 200 ∧ i = 0)) → up (up (up M1 54 k 1) 1 11 0) 200 0 0 a i = M1 a i := fun a i q => up3_ne (by omega) (by omega) (by omega)
  have a54 : up (up (up M1 54 k 1) 1 11 0) 200 0 0 54 k = 1 := by rw [up_na (by decide), up_na (by decide), up_s]
  have a11 : up (up (up M1 54 k 1) 1 11 0) 200 0 0 1 11 = 0 := by rw [up_na (by decide), up_s]
  generalize up (up (up M1 54 k 1) 1 11 0) 200 0 0 = M2 at *
  refine s_in (fun _ => b_X9_image_12 (fun _ => b_X9_image_21 ?_) (fun e => absurd e (by decide))) (fun w => absurd q w)
  have key := for_up (W := fun x => WP PR (d + 2) 142 23 [vA 200, vI k, vI x] [] S (fw M2 203 (fun i => M2 202 (i - 9390 * k)) (9390 * k) x) (fun r2 S2 M2 => r2 = some (vI 0) ∧ CP (n + 1) S2 M2)) (lo := 0) (hi := 9390) (by decide) ?_ (fun x x0 x7 ih => b_X9_image_23 (fun e => absurd e (by omega)) (fun _ => b_X9_image_30 L (by omega) (by rw [fw_up x0 (by rw [fw_na (by decide), show 9390 * k + x - 9390 * k = x by omega])]; exact ih)))
  · rw [fw_0] at key; exact key
  · refine b_X9_image_23 (fun _ => b_X9_image_54 L (by omega) (s_tell L (by decide) (fun w => absurd w (by decide)) (b_X9_image_66 ⟨rfl, ?_⟩))) (fun e => absurd e (by decide))
    rw [tellM_p (by decide)]
    have g : ∀ a i, ¬ ((a = 203 ∧ 9390 * k ≤ i ∧ i < 9390 * k + 9390) ∨ (a = 204 ∧ i = k) ∨ (a = 200 ∧ i = 1)) → up (up (fw M2 203 (fun i => M2 202 (i - 9390 * k)) (9390 * k) 9390) 204 k 1) 200 1 0 a i = M2 a i := fun a i q => by
      rw [up2_ne (by omega) (by omega)]; exact if_neg (by omega)
    have g3 : ∀ i, 0 ≤ i → i < 9390 → up (up (fw M2 203 (fun i => M2 202 (i - 9390 * k)) (9390 * k) 9390) 204 k 1) 200 1 0 203 (9390 * k + i) = M2 202 i := fun i q0 q1 => by
      rw [up2_ne (by omega) (by omega), fw_i (by omega), show 9390 * k + i - 9390 * k = i by omega]
    have g4 : up (up (fw M2 203 (fun i => M2 202 (i - 9390 * k)) (9390 * k) 9390) 204 k 1) 200 1 0 204 k = 1 := by rw [up_na (by decide), up_s]
    have g1 : up (up (fw M2 203 (fun i => M2 202 (i - 9390 * k)) (9390 * k) 9390) 204 k 1) 200 1 0 200 1 = 0 := up_s _ _ _ _
    generalize up (up (fw M2 203 (fun i => M2 202 (i - 9390 * k)) (9390 * k) 9390) 204 k 1) 200 1 0 = M' at *
    have gg : ∀ a i, ¬ ((24 + 15 * k ≤ a ∧ a ≤ 24 + 15 * k + 7) ∨ (24 + 15 * k + 11 ≤ a ∧ a ≤ 24 + 15 * k + 14) ∨ (a = 54 ∧ i = k) ∨ (a = 1 ∧ i = 11) ∨ (a = 200 ∧ (i = 0 ∨ i = 1)) ∨ (a = 203 ∧ 9390 * k ≤ i ∧ i < 9390 * k + 9390) ∨ (a = 204 ∧ i = k)) → M' a i = M a i := fun a i q => by rw [g a i (by omega), f2 a i (by omega)]
    have sta : StaR S M' 8 (M' 202) := h.sta.cg (GrS.rf S) (fun i _ _ => gg _ _ (by omega)) (fun x i _ _ => gg _ _ (by omega)) (fun x i _ _ => gg _ _ (by omega))
    have img : ImgR S M' := fun j q0 q1 => by
      by_cases ej : j = k
      · subst ej
        refine ⟨by rw [g _ _ (by omega), a54, g4], Or.inr g4, fun _ => s1.cg (GrS.rf S) (fun i p0 p1 => ?_) (fun x i p0 p1 => ?_) (fun x i p0 p1 => ?_), by rw [gg _ _ (by omega)]; exact (h.img j q0 q1).2.2.2⟩
        · show M' 203 (9390 * j + i) = _
          rw [g3 i p0 p1, f2 _ _ (by omega)]
        · rw [g _ _ (by omega), f21 _ _ (by omega)]
        · rw [g _ _ (by omega), f21 _ _ (by omega)]
      · obtain ⟨x1, x2, x3, x4⟩ := h.img j q0 q1
        rw [gg 54 j (by omega), gg 204 j (by omega), gg 23 j (by omega)]
        refine ⟨x1, x2, fun w => (x3 w).cg (GrS.rf S) (fun i p0 p1 => ?_) (fun x i p0 p1 => gg _ _ (by omega)) (fun x i p0 p1 => gg _ _ (by omega)), x4⟩
        exact gg _ _ (by omega)
    obtain ⟨w1, w2, w3, w4⟩ := h.wrd
    obtain ⟨l1, l2, l3, l4, l5, l6, l7, l8⟩ := h.lef
    have nn := h.nn
    refine ⟨L, sta, img, ⟨hh, hi.cg (gg _ _ (by omega)) (fun i _ _ => gg _ _ (by omega)) (fun i => gg _ _ (by omega)) (fun x i _ _ => gg _ _ (by omega)) (fun i _ => gg _ _ (by omega))⟩, h.tap.cg (gg _ _ (by omega)) (fun i => gg _ _ (by omega)) (fun i => gg _ _ (by omega)) (gg _ _ (by omega)), ⟨by rw [g _ _ (by omega), a11, g1], by rw [gg _ _ (by omega), gg _ _ (by omega)]; exact w2, by rw [gg _ _ (by omega), gg _ _ (by omega)]; exact w3, by rw [gg _ _ (by omega), gg _ _ (by omega)]; exact w4⟩, h.rf.cg (by omega) (fun i => gg _ _ (by omega)) (fun i => gg _ _ (by omega)), h.drw.cg (gg _ _ (by omega)) (fun x i _ _ => gg _ _ (by omega)) (fun i => gg _ _ (by omega)), h.lef.cg (by omega) (fun i => gg _ _ (by omega)) (fun x i _ => gg _ _ (by omega)) (fun i _ => gg _ _ (by omega)), h.sz.le, by omega, by omega⟩
theorem t_back {k : Int} : TwoI n (e_X8_back (d + 2) k) (e_X9_back (d + 3) k) := fun S M h hn => by
  have L := h.lay
  obtain ⟨hh, hi⟩ := h.his
  have ko := h.img
  refine b_X8_back_0 (c_isWithin (fun q => b_X8_back_6 (fun _ => b_X8_back_15 L (by omega) (fun q2 => b_X8_back_31 (q1 := 24 + 15 * k) (ko k q.1 (by omega)).2.2.2 L (by omega) (c_copySta (lSta8 L) (lStaI L (by omega)) (by omega) (by omega) ((ko k q.1 (by omega)).2.2.1 (by rw [← (ko k q.1 (by omega)).1]; exact q2)) (fun M1 s1 f1 => b_X8_back_44 L (b_X1_clear_0 L (b_X8_back_51 L (b_X8_accept_0 L (b_X8_back_56 ⟨_, rfl, b_X9_back_0 L ?_⟩))))))) (fun q2 => b_X8_back_24 L (c_refuse L (by decide) (h.r99 (by decide)) (b_X8_back_30 ⟨_, rfl, b_X9_back_0 L (s_in (fun _ => b_X9_back_12 (fun _ => b_X9_back_21 L (by omega) (fun w => absurd ?_ w) (fun _ => b_X9_back_30 L (s_tl h hn (by decide) (fun c => b_X9_back_36 ⟨rfl, c⟩)))) (fun e => absurd e (by decide))) (fun w => absurd q w))⟩)))) (fun e => absurd e (by decide))) (fun q => b_X8_back_6 (fun e => absurd rfl e) (fun _ => b_X8_back_9 L (c_refuse L (by decide) (h.r99 (by decide)) (b_X8_back_14 ⟨_, rfl, b_X9_back_0 L (s_in (fun w => absurd w q) (fun _ => b_X9_back_12 (fun e => absurd rfl e) (fun _ => b_X9_back_15 L (s_tl h hn (by decide) (fun c => b_X9_back_20 ⟨rfl, c⟩)))))⟩)))))
  · have f2 : ∀ a i, ¬ ((8 ≤ a ∧ a ≤ 15) ∨ (19 ≤ a ∧ a ≤ 22) ∨ (a = 55 ∧ i = 3) ∨ (a = 1 ∧ i = 11) ∨ (a = 200 ∧ i = 0)) → up (up (up M1 55 3 0) 1 11 0) 200 0 0 a i = M a i := fun a i q => by rw [up3_ne (by omega) (by omega) (by omega), f1 a i (by omega)]
    have f21 : ∀ a i, ¬ ((a = 55 ∧ i = 3) ∨ (a = 1 ∧ i = 11) ∨ (a = 200 ∧ i = 0)) → up (up (up M1 55 3 0) 1 11 0) 200 0 0 a i = M1 a i := fun a i q => up3_ne (by omega) (by omega) (by omega)
    have a3 : up (up (up M1 55 3 0) 1 11 0) 200 0 0 55 3 = 0 := by rw [up_na (by decide), up_na (by decide), up_s]
    have a11 : up (up (up M1 55 3 0) 1 11 0) 200 0 0 1 11 = 0 := by rw [up_na (by decide), up_s]
    generalize up (up (up M1 55 3 0) 1 11 0) 200 0 0 = M2 at *
    have k204 : ¬ M2 204 k = 0 := by rw [f2 _ _ (by omega), ← (ko k q.1 (by omega)).1]; exact q2
    refine s_in (fun _ => b_X9_back_12 (fun _ => b_X9_back_21 L (by omega) (fun _ => b_X9_back_37 ?_) (fun w => absurd w k204)) (fun e => absurd e (by decide))) (fun w => absurd q w)
    have key := for_up (W := fun x => WP PR (d + 3) 143 39 [vA 200, vI k, vI x] [] S (fw M2 202 (fun i => M2 203 (9390 * k + i)) 0 x) (fun r2 S2 M2 => r2 = some (vI 0) ∧ CP (n + 1) S2 M2)) (lo := 0) (hi := 9390) (by decide) ?_ (fun x x0 x7 ih => b_X9_back_39 (fun e => absurd e (by omega)) (fun _ => b_X9_back_46 L (by omega) (by
      have := fw_up (M := M2) (a := 202) (f := fun i => M2 203 (9390 * k + i)) (lo := 0) (n := x) (v := M2 203 (9390 * k + x)) x0 (by rw [Int.zero_add])
      rw [Int.zero_add] at this
      rw [fw_na (by decide), this]; exact ih)))
    · rw [fw_0] at key; exact key
    · refine b_X9_back_39 (fun _ => b_X9_back_70 L (s_lasting L (by decide) (fun w => absurd w (by decide)) (b_X9_back_75 ⟨rfl, ?_⟩))) (fun e => absurd e (by decide))
      unfold lastM
      rw [tellM_p (by decide), if_neg (by decide)]
      have g : ∀ a i, ¬ ((a = 202 ∧ 0 ≤ i ∧ i < 9390) ∨ (a = 200 ∧ (i = 1 ∨ i = 8))) → up (up (fw M2 202 (fun i => M2 203 (9390 * k + i)) 0 9390) 200 8 0) 200 1 0 a i = M2 a i := fun a i q => by
        rw [up2_ne (by omega) (by omega)]; exact if_neg (by omega)
      have g2 : ∀ i, 0 ≤ i → i < 9390 → up (up (fw M2 202 (fun i => M2 203 (9390 * k + i)) 0 9390) 200 8 0) 200 1 0 202 i = M2 203 (9390 * k + i) := fun i q0 q1 => by
        rw [up2_ne (by omega) (by omega), fw_i (by omega)]
      have g8 : up (up (fw M2 202 (fun i => M2 203 (9390 * k + i)) 0 9390) 200 8 0) 200 1 0 200 8 = 0 := by rw [up_ni (by decide), up_s]
      have g1 : up (up (fw M2 202 (fun i => M2 203 (9390 * k + i)) 0 9390) 200 8 0) 200 1 0 200 1 = 0 := up_s _ _ _ _
      generalize up (up (fw M2 202 (fun i => M2 203 (9390 * k + i)) 0 9390) 200 8 0) 200 1 0 = M' at *
      have gg : ∀ a i, ¬ ((8 ≤ a ∧ a ≤ 15) ∨ (19 ≤ a ∧ a ≤ 22) ∨ (a = 55 ∧ i = 3) ∨ (a = 1 ∧ i = 11) ∨ (a = 200 ∧ (i = 0 ∨ i = 1 ∨ i = 8)) ∨ a = 202) → M' a i = M a i := fun a i q => by rw [g a i (by omega), f2 a i (by omega)]
      refine h.acc hn (fun a i q => gg a i (by omega)) (by rw [g _ _ (by omega)]; exact a11) g1 (s1.cg (GrS.rf S) (fun i p0 p1 => ?_) (fun x i p0 p1 => ?_) (fun x i p0 p1 => ?_)) ⟨[], hi.nil g8 (by rw [g _ _ (by omega)]; exact a3) (gg _ _ (by omega)) (fun i => gg _ _ (by omega))⟩ (h.lb.cg (fun i q => gg _ _ (by omega)))
      · rw [g2 i p0 p1, f2 _ _ (by omega)]; rfl
      · rw [g _ _ (by omega), f21 _ _ (by omega)]
      · rw [g _ _ (by omega), f21 _ _ (by omega)]
  · have : up (refC M (-2)) 200 0 0 204 k = M 204 k := by unfold refC; exact up3_ne (by omega) (by omega) (by omega)
    rw [this, ← (ko k q.1 (by omega)).1]; exact q2
end WC
