/-! Public methods, both sides: pass, undo, cask, terms. -/
section WB
variable {n : Int} {d : Nat} {S : mSh} {M M' : mMem} {Q : Option mV → mSh → mMem → Prop}
theorem t_pass : TwoI n (e_X8_pass (d + 6)) (e_X9_pass (d + 11)) := fun S M h hn => by
  have L := h.lay
  have hs := lStk9 L
  obtain ⟨hh, hi⟩ := h.his
  have lf := h.lef
  have hy := h.y
  have b20 : M 200 20 = 0 := lf.2.2.1
  refine b_X8_pass_0 L (c_startWork h hi (fun M1 t T fm wk hc hr e4 f1 => b_X8_pass_4 L (c_isLastYear hs wk.r (fun q => b_X8_pass_16 (fun e => absurd e (by decide)) (fun _ => b_X8_pass_19 L (c_finB L (by decide) (by rw [f1 _ _ (by omega)]; exact h.r99 (v := -3) (by decide)) (b_X8_pass_34 ⟨_, rfl, b_X9_pass_0 L ?_⟩)))) (fun q => b_X8_pass_16 (fun _ => b_X8_pass_24 L (c_passYear L wk (by omega) (fun M2 wk2 f2 _ _ => ?_))) (fun e => absurd rfl e)))))
  · have g3 : ∀ x i, 200 ≤ x → x ≤ 225 → ¬ (x = 200 ∧ i = 0) → up (refC M1 (-3)) 200 0 0 x i = M x i := fun x i q0 q1 q2 => by rw [up1_ne q2]; unfold refC; rw [up2_ne (by omega) (by omega), f1 x i (by omega)]
    have e2 : up (refC M1 (-3)) 200 0 0 202 = M 202 := funext fun i => g3 _ _ (by omega) (by omega) (by omega)
    have hm : HistM hh (up (refC M1 (-3)) 200 0 0) := hi.1.congr (g3 _ _ (by omega) (by omega) (by omega)) (fun i _ _ => g3 _ _ (by omega) (by omega) (by omega)) (fun i => g3 _ _ (by omega) (by omega) (by omega))
    exact s_passNow L e2 h.ok (Or.inl (by rw [g3 _ _ (by omega) (by omega) (by omega)]; exact b20)) fm hm hy (fun _ => b_X9_pass_10 L (s_nwk h hn hi (by decide) hc (fun a i q => f1 a i (by omega)) (FrL.rf _) (fun cp => b_X9_pass_13 ⟨rfl, cp⟩))) (fun w => absurd w (by omega))
  · have p5 := pass_ok (T := T) h.ok (by omega)
    have rb : 0 ≤ passL T (M 202) := (pL_bd h.ok h.ok.n.1 h.ok.n.2).1
    have e55 : M2 55 2 = M1 55 2 := f2 _ _ (by omega)
    refine b_X8_pass_31 L (c_finG L (hc.congr (fun a i q0 q1 => f2 a i (by omega))) (g := M 202) (by rw [e55]; have := hc.2.2.1; exact hr.congr (fun a i q0 q1 => f2 a i (by omega))) rb (fun M3 hc3 e11 f3 => b_X8_pass_34 ⟨_, rfl, b_X9_pass_0 L ?_⟩))
    have f13 : ∀ a i, ¬ (a = 191 ∨ (195 ≤ a ∧ a ≤ 197) ∨ (55 ≤ a ∧ a ≤ 176) ∨ (9 ≤ a ∧ a ≤ 15) ∨ (a = 1 ∧ i = 11)) → M3 a i = M a i := fun a i q => by rw [f3 a i (by omega), f2 a i (by omega), f1 a i (by omega)]
    have g3 : ∀ a i, 200 ≤ a → a ≤ 225 → ¬ (a = 200 ∧ i = 0) → up M3 200 0 0 a i = M a i := fun a i q0 q1 q2 => by rw [up1_ne q2, f13 a i (by omega)]
    have e2 : up M3 200 0 0 202 = M 202 := funext fun i => g3 _ _ (by omega) (by omega) (by omega)
    have hm : HistM hh (up M3 200 0 0) := hi.1.congr (g3 _ _ (by omega) (by omega) (by omega)) (fun i _ _ => g3 _ _ (by omega) (by omega) (by omega)) (fun i => g3 _ _ (by omega) (by omega) (by omega))
    have y5 : passG T (M 202) 5 = M 202 5 + 1 := upr_s _ _ _
    refine s_passNow L e2 h.ok (Or.inl (by rw [g3 _ _ (by omega) (by omega) (by omega)]; exact b20)) fm hm hy (fun w => absurd w (by omega)) (fun _ M4 row hm4 f4 x42 x43 => b_X9_pass_10 L (s_ywk h hn hi (kind := 3) (by decide) rb p5 (by rw [y5]; omega) (pass_fix h.ok) (wk2.r.congr (fun a i q0 q1 => f3 a i (by omega))) hc3 e11 f13 row hm4 f4 ?_ ?_ (fun cp => b_X9_pass_13 ⟨rfl, cp⟩)))
    · rw [x42, g3 _ _ (by omega) (by omega) (by omega)]; have := lf.2.2.2.1; omega
    · rw [x43, g3 _ _ (by omega) (by omega) (by omega)]; exact lf.2.2.2.2.1
theorem c_takeBack (L : Lay S) {hh : HI} (hc : HistC hh M) (k0 : hh = [] → Q (some (vI (-1))) S M) (k1 : ∀ e tl, hh = e :: tl → ∀ M', StkR e.2 9 M' → HistC tl M' → (∀ a i, ¬ ((9 ≤ a ∧ a ≤ 15) ∨ (a = 55 ∧ (i = 2 ∨ i = 3))) → M' a i = M a i) → Q (some (vI e.1)) S M') : e_X1_takeBack (d + 1) 9 S M Q := by
  obtain ⟨h1, h2, h3, h4, h5⟩ := id hc
  cases hh with
  | nil =>
    have h1 : M 55 3 = 0 := h1
    exact b_X1_takeBack_0 L (fun w => absurd w (by omega)) (fun _ => b_X1_takeBack_8 (k0 rfl))
  | cons e tl =>
    have h1 : M 55 3 = (tl.length : Int) + 1 := h1
    have l2 : tl.length + 1 ≤ 16 := h2
    obtain ⟨x1, x2⟩ := h5 0 e rfl
    have em : (M 55 2 + 17 - 1).tmod 17 = slot (M 55 2) 0 := by rw [Int.tmod_eq_emod_of_nonneg (by omega)]; unfold slot; omega
    have sb := slot_bd (M 55 2) 0
    have ed : R32 ((M 55 2 + 17 - 1).tdiv 17) := by rw [Int.tdiv_eq_ediv_of_nonneg (by omega)]; omega
    have f1 : ∀ a i, ¬ (a = 55 ∧ (i = 2 ∨ i = 3)) → up (up M 55 3 (M 55 3 - 1)) 55 2 ((M 55 2 + 17 - 1).tmod 17) a i = M a i := fun a i q => up2_ne (by omega) (by omega)
    have e2 : up (up M 55 3 (M 55 3 - 1)) 55 2 ((M 55 2 + 17 - 1).tmod 17) 55 2 = slot (M 55 2) 0 := by rw [up_s]; exact em
    have e3 : up (up M 55 3 (M 55 3 - 1)) 55 2 ((M 55 2 + 17 - 1).tmod 17) 55 3 = (tl.length : Int) := by rw [up_ni (by decide), up_s]; omega
    refine b_X1_takeBack_0 L (fun _ => b_X1_takeBack_10 (q1 := 58 + 7 * slot (M 55 2) 0) (by rw [em]; exact h4 _ sb.1 sb.2) L (lStk9 L) ⟨by omega, by omega, by omega, ed, by rw [em]; exact sb⟩ ?_) (fun w => absurd w (by omega))
    generalize up (up M 55 3 (M 55 3 - 1)) 55 2 ((M 55 2 + 17 - 1).tmod 17) = M1 at *
    refine c_copyFrom (lStk9 L) (hist_stk L sb) (by omega) (x2.congr (fun a i q0 q1 => f1 a i (by omega))) (fun M2 r2 f2 => ?_)
    have g2 : M2 55 2 = slot (M 55 2) 0 := by rw [f2 _ _ (by omega)]; exact e2
    refine b_X1_takeBack_49 L (by rw [g2]; exact sb) ?_
    rw [g2, f2 57 _ (by omega), f1 57 _ (by omega), x1]
    refine k1 e tl rfl M2 r2 ⟨by rw [f2 _ _ (by omega)]; exact e3, by omega, by rw [g2]; exact sb, fun i q0 q1 => by rw [f2 _ _ (by omega), f1 _ _ (by omega)]; exact h4 i q0 q1, fun j e' he' => ?_⟩ (fun a i q => by rw [f2 a i (by omega), f1 a i (by omega)])
    obtain ⟨y1, y2⟩ := h5 (j + 1) e' he'
    have jl : j < tl.length := by
      by_cases q : j < tl.length
      · exact q
      · rw [List.getElem?_eq_none (by omega)] at he'; cases he'
    have es : slot (M2 55 2) j = slot (M 55 2) (j + 1) := by rw [g2]; unfold slot; omega
    have sb2 := slot_bd (M 55 2) (j + 1)
    rw [es]
    exact ⟨by rw [f2 _ _ (by omega), f1 _ _ (by omega)]; exact y1, y2.congr (fun a i q0 q1 => by rw [f2 a i (by omega), f1 a i (by omega)])⟩
theorem t_undo : TwoI n (e_X8_undo (d + 2)) (e_X9_undo (d + 2)) := fun S M h hn => by
  have L := h.lay
  obtain ⟨hh, hi⟩ := h.his
  have lf := h.lef
  refine b_X8_undo_0 L (c_takeBack L hi.2.1 (fun q => b_X8_undo_14 (fun e => absurd rfl e) (fun _ => b_X8_undo_20 L (c_refuse L (by decide) (h.r99 (by decide)) (b_X8_undo_26 ⟨_, rfl, ?_⟩)))) (fun e tl q M1 r1 hc1 f1 => ?_))
  · subst q
    have e8 : refC M (-3) 200 8 = 0 := by unfold refC; rw [up2_ne (by omega) (by omega)]; exact hi.1.1
    exact b_X9_undo_0 L (fun w => absurd e8 w) (fun _ => b_X9_undo_12 L (s_tl h hn (by decide) (fun c => b_X9_undo_18 ⟨rfl, c⟩)))
  · subst q
    obtain ⟨m1, m2, m3⟩ := hi.1
    have m1 : M 200 8 = (tl.length : Int) + 1 := m1
    have l2 : tl.length + 1 ≤ 16 := m2
    obtain ⟨y1, y2⟩ := m3 0 e rfl
    have ix : ((e :: tl).length : Int) - 1 - ((0 : Nat) : Int) = (tl.length : Int) := by show ((tl.length + 1 : Nat) : Int) - 1 - 0 = _; omega
    rw [ix] at y1 y2
    obtain ⟨z1, z2, z3, z4⟩ := hi.2.2 e (List.mem_cons_self)
    refine b_X8_undo_14 (fun _ => b_X8_undo_29 L (b_X8_accept_0 L (b_X8_undo_34 ⟨_, rfl, ?_⟩))) (fun w => absurd w (by omega))
    have f2 : ∀ a i, ¬ ((9 ≤ a ∧ a ≤ 15) ∨ (a = 55 ∧ (i = 2 ∨ i = 3)) ∨ (a = 1 ∧ i = 11)) → up M1 1 11 0 a i = M a i := fun a i q => by rw [up1_ne (by omega), f1 a i (by omega)]
    have r2 : StkR e.2 9 (up M1 1 11 0) := r1.congr (fun a i q0 q1 => up1_ne (by omega))
    have hc2 : HistC tl (up M1 1 11 0) := hc1.congr (fun a i q0 q1 => up1_ne (by omega))
    have g11 : up M1 1 11 0 1 11 = 0 := up_s _ _ _ _
    generalize up M1 1 11 0 = M2 at *
    refine b_X9_undo_0 L (fun _ => ?_) (fun w => absurd w (by rw [f2 _ _ (by omega)]; omega))
    have e8 : up M2 200 0 0 200 8 = (tl.length : Int) + 1 := by rw [up1_ne (by omega), f2 _ _ (by omega)]; exact m1
    refine b_X9_undo_19 L (by rw [e8]; omega) ?_
    rw [e8, show (tl.length : Int) + 1 - 1 = (tl.length : Int) by omega]
    have f3 : ∀ a i, ¬ ((9 ≤ a ∧ a ≤ 15) ∨ (a = 55 ∧ (i = 2 ∨ i = 3)) ∨ (a = 1 ∧ i = 11) ∨ (a = 200 ∧ (i = 0 ∨ i = 8))) → up (up M2 200 0 0) 200 8 (tl.length : Int) a i = M a i := fun a i q => by rw [up2_ne (by omega) (by omega), f2 a i (by omega)]
    have f32 : ∀ a i, ¬ (a = 200 ∧ (i = 0 ∨ i = 8)) → up (up M2 200 0 0) 200 8 (tl.length : Int) a i = M2 a i := fun a i q => up2_ne (by omega) (by omega)
    have e83 : up (up M2 200 0 0) 200 8 (tl.length : Int) 200 8 = (tl.length : Int) := up_s _ _ _ _
    generalize up (up M2 200 0 0) 200 8 (tl.length : Int) = M3 at *
    refine s_putBack L (by omega) ?_
    have f4 : ∀ a i, ¬ (a = 202 ∧ 5 ≤ i ∧ i < 170) → putM M3 (tl.length : Int) a i = M3 a i := fun a i q => if_neg (by omega)
    have g4 : ∀ i, 5 ≤ i → i < 170 → putM M3 (tl.length : Int) 202 i = e.2 i := fun i q0 q1 => by
      show fw M3 202 (fun i => M3 205 (165 * (tl.length : Int) + (i - 5))) 5 165 202 i = _
      rw [fw_i (by omega), f3 _ _ (by omega), y2 (i - 5) (by omega) (by omega), show 5 + (i - 5) = i by omega]
    generalize putM M3 (tl.length : Int) = M4 at *
    refine b_X9_undo_37 L (by rw [f4 _ _ (by omega), e83]; omega) ?_
    have ev : M4 206 (M4 200 8) = e.1 := by rw [f4 200 8 (by omega), e83, f4 _ _ (by omega), f3 _ _ (by omega)]; exact y1
    rw [ev]
    refine s_tell L (by omega) (fun w => absurd w (by omega)) (b_X9_undo_50 ⟨rfl, ?_⟩)
    rw [tellM_p (by omega)]
    have row : ∀ i, i = 0 ∨ (5 ≤ i ∧ i < 186) → up M4 200 1 0 202 i = e.2 i := fun i q => by
      rw [up1_ne (by omega)]
      by_cases w : 5 ≤ i ∧ i < 170
      · exact g4 i w.1 w.2
      · rw [f4 _ _ (by omega), f3 _ _ (by omega)]; exact (z4 i (by omega)).symm
    have rw2 : ∀ i, ¬ (5 ≤ i ∧ i < 170) → up M4 200 1 0 202 i = M 202 i := fun i q => by rw [up1_ne (by omega), f4 _ _ (by omega), f3 _ _ (by omega)]
    have gg : ∀ a i, ¬ ((9 ≤ a ∧ a ≤ 15) ∨ (a = 55 ∧ (i = 2 ∨ i = 3)) ∨ (a = 1 ∧ i = 11) ∨ (a = 200 ∧ (i = 0 ∨ i = 8 ∨ i = 1)) ∨ a = 202) → up M4 200 1 0 a i = M a i := fun a i q => by rw [up1_ne (by omega), f4 a i (by omega), f3 a i (by omega)]
    have g2 : ∀ a i, a ≤ 199 → up M4 200 1 0 a i = M2 a i := fun a i q => by rw [up1_ne (by omega), f4 a i (by omega), f32 a i (by omega)]
    have g8 : up M4 200 1 0 200 8 = (tl.length : Int) := by rw [up1_ne (by omega), f4 _ _ (by omega)]; exact e83
    have g1 : up M4 200 1 0 200 1 = 0 := up_s _ _ _ _
    generalize up M4 200 1 0 = M' at *
    refine h.acc hn (fun a i q => gg a i (by omega)) (by rw [g2 _ _ (by omega)]; exact g11) g1 (h.sta.stk (z1.gc row) (by rw [row 5 (by omega)]; exact z2) ((r2.congr (fun a i q0 q1 => g2 a i (by omega))).gc row) (fun i q => rw2 i (by omega)) (fun a i q0 q1 q2 => gg a i (by omega)) (fun a i q0 q1 => gg a i (by omega))) ⟨tl, ⟨g8, by omega, fun j e' he' => ?_⟩, hc2.congr (fun a i q0 q1 => g2 a i (by omega)), fun e' he' => ?_⟩ (h.lb.cg (fun i q => gg _ _ (by omega)))
    · obtain ⟨v1, v2⟩ := m3 (j + 1) e' he'
      have jl : j < tl.length := by
        by_cases q : j < tl.length
        · exact q
        · rw [List.getElem?_eq_none (by omega)] at he'; cases he'
      have ix2 : ((e :: tl).length : Int) - 1 - ((j + 1 : Nat) : Int) = (tl.length : Int) - 1 - (j : Int) := by show ((tl.length + 1 : Nat) : Int) - 1 - ((j + 1 : Nat) : Int) = _; omega
      rw [ix2] at v1 v2
      exact ⟨by rw [gg _ _ (by omega)]; exact v1, fun x q0 q1 => by rw [gg _ _ (by omega)]; exact v2 x q0 q1⟩
    · obtain ⟨v1, v2, v3, v4⟩ := hi.2.2 e' (List.mem_cons_of_mem _ he')
      exact ⟨v1, v2, v3, fun i q => (v4 i q).trans (rw2 i (by omega)).symm⟩
end WB
