/-! Plans on paper, both sides: settled, oldEnough, best. -/
section PN
variable {n : Int} {d : Nat} {S : mSh} {M M' : mMem} {Q : Option mV → mSh → mMem → Prop} {TL T : TX}
theorem t_settled {p c : Int} : TwoI n (e_X8_settled (d + 8) p c) (e_X9_settled (d + 13) p c) := fun S M h hn => by
  have L := h.lay
  have hc := h.cnt
  have hr := h.r
  have ok := h.ok
  have sa := lSta8 L
  have hs := lStk9 L
  have hp7 := lStk177 L
  have T0 := h.th hn
  have nn := h.nn
  have e2 : up M 200 0 0 202 = M 202 := funext fun i => up1_ne (by omega)
  have no : ¬ ((0 ≤ p ∧ p < M 202 3) ∧ (0 ≤ c ∧ c < M 202 0)) → e_X9_settled (d + 13) p c S M (fun r2 S2 M2 => r2 = some (vI (-1)) ∧ CP (n + 1) S2 M2) := fun q => by
    refine b_X9_settled_0 L (s_isPlan L (by rw [e2]; have := hc.2.2.1; omega) (fun q1 => b_X9_settled_10 (fun e => absurd e (by decide)) (fun _ => b_X9_settled_13 L (s_isCask L (by rw [e2]; exact ok.n) (fun q2 => ?_) (fun q2 => b_X9_settled_18 (fun e => absurd rfl e) (fun _ => b_X9_settled_21 ⟨rfl, T0⟩))))) (fun q1 => b_X9_settled_10 (fun _ => b_X9_settled_21 ⟨rfl, T0⟩) (fun e => absurd rfl e)))
    rw [e2] at q1 q2
    exact absurd ⟨q1, q2⟩ q
  refine b_X8_settled_0 L (c_hasPlan sa (fun qp => b_X8_settled_8 (fun e => absurd e (by decide)) (fun _ => b_X8_settled_11 L (c_has hs hr (fun qc => b_X8_settled_22 (fun _ => b_X8_settled_27 L ?_) (fun e => absurd e (by decide))) (fun qc => b_X8_settled_22 (fun e => absurd rfl e) (fun _ => b_X8_settled_25 ⟨_, rfl, no (fun w => qc w.2)⟩))))) (fun qp => b_X8_settled_8 (fun _ => b_X8_settled_25 ⟨_, rfl, no (fun w => qp (by rw [hc.2.2.1.2.2]; exact w.1))⟩) (fun e => absurd rfl e)))
  rw [hc.2.2.1.2.2] at qp
  obtain ⟨x1, x2, p4, T, hP, hX, hO⟩ := h.plan qp
  have c8 := h.n8 qc
  refine c_startPaper h (fun M1 t TL fm okL wk a4 a5 a6 a7 a8 f1 ht => b_X8_settled_31 ?_)
  have ws := WS.of h wk a4 a5 a7 a8 f1 ⟨x1, x2⟩ hX hO
  -- the mean after j years
  obtain ⟨mn, hmn⟩ : ∃ mn : Nat → Int, ∀ j, mn j = meanG (gS (ysN TL T (sg0 (M 202)) j)) c := ⟨_, fun j => rfl⟩
  have rf : ∀ v M2, FstAt (fun j => ¬ mn j = -1 ∧ mn (j + 1) = mn j) 60 v → (∀ a i, ¬ ((177 ≤ a ∧ a ≤ 183) ∨ a = 191 ∨ (195 ≤ a ∧ a ≤ 197)) → M2 a i = M a i) → e_X9_settled (d + 13) p c S M2 (fun r2 S2 M2 => r2 = some (vI v) ∧ CP (n + 1) S2 M2) := fun v M2 hv f12 => by
    have h2 : CP n S M2 := h.pp f12
    have m2 : M2 202 = M 202 := funext fun i => f12 _ _ (by omega)
    have z2 : up M2 200 0 0 202 = M 202 := by rw [← m2]; exact funext fun i => up1_ne (by omega)
    refine b_X9_settled_0 L (s_isPlan L (by rw [z2]; have := hc.2.2.1; omega) (fun _ => b_X9_settled_10 (fun e => absurd e (by decide)) (fun _ => b_X9_settled_13 L (s_isCask L (by rw [z2]; exact ok.n) (fun _ => b_X9_settled_18 (fun _ => b_X9_settled_23 L ?_) (fun e => absurd e (by decide))) (fun q => absurd (by rw [z2]; exact qc) q)))) (fun q => absurd (by rw [z2]; exact qp) q))
    refine s_beginPlan h2 p4 (TL := TL) (T := T) (by rw [m2]; exact fm) (by rw [m2]; exact hP) (fun M3 σ hs3 pm3 => b_X9_settled_28 ?_) (fun a i q => up1_ne q)
    have row : ∀ (j : Nat) N, j ≤ 61 → PaM M2 TL T σ j N → okD (N 202) ∧ meanG (N 202) c = mn j := fun j N hj pm => by
      have sm := hs3.1.ys (TL := TL) (T := T) j
      rw [m2] at sm
      have z1 := (hs3.ys (TL := TL) hO h2.y (j := j) (by omega)).1
      exact ⟨by rw [pm.1.1]; exact z1.1.D, by rw [pm.1.1, sm.1, hmn]⟩
    have key := for_up (W := fun j => ∀ N u, PaM M2 TL T σ j.toNat N → (∀ i : Nat, i < j.toNat → ¬ (¬ mn i = -1 ∧ mn (i + 1) = mn i)) → WP PR (d + 13) 238 33 [vA 200, vI p, vI c, vI (-1), vI j, u] [] S N (fun r2 S2 M2 => r2 = some (vI v) ∧ CP (n + 1) S2 M2)) (lo := 0) (hi := 60) (by decide) (fun N u pm hb => b_X9_settled_33 (fun _ => b_X9_settled_85 L (s_pend h2 (m := n + 1) (by omega) hO hs3 (j := 60) (by omega) pm (fun M4 cp _ _ _ => b_X9_settled_91 ⟨?_, cp⟩))) (fun q => absurd q (by decide))) (fun j j0 j1 ih N u pm hb => b_X9_settled_33 (fun q => absurd q (by omega)) (fun _ => b_X9_settled_40 (fun q => absurd rfl q) (fun _ => b_X9_settled_45 L ?_)))
    · exact key M3 _ pm3 (fun i q => absurd q (by show ¬ i < 0; omega))
    · rw [hv.no (fun i q => hb i q)]
    · obtain ⟨r1, r2⟩ := row j.toNat N (by omega) pm
      have ej : ((j.toNat : Nat) : Int) = j := by omega
      have es : (j + 1).toNat = j.toNat + 1 := by omega
      refine s_meanOf L r1 c8 ?_
      rw [r2]
      refine b_X9_settled_50 L (s_year h2 hO hs3 (j := j.toNat) (by omega) pm (fun N2 pm2 _ => ?_))
      obtain ⟨r3, r4⟩ := row (j.toNat + 1) N2 (by omega) pm2
      have go : ¬ (¬ mn j.toNat = -1 ∧ mn (j.toNat + 1) = mn j.toNat) → ∀ u, WP PR (d + 13) 238 33 [vA 200, vI p, vI c, vI (-1), vI (j + 1), u] [] S N2 (fun r2 S2 M2 => r2 = some (vI v) ∧ CP (n + 1) S2 M2) := fun q u => ih N2 u (by rw [es]; exact pm2) (fun i q2 => by
        by_cases qi : i = j.toNat
        · subst qi; exact q
        · exact hb i (by omega))
      refine b_X9_settled_56 (fun q => b_X9_settled_77 (by omega) (go (fun w => w.1 q) _)) (fun q => b_X9_settled_62 L (s_meanOf L r3 c8 ?_))
      rw [r4]
      refine b_X9_settled_67 (fun q2 => b_X9_settled_77 (by omega) (go (fun w => q2 w.2) _)) (fun q2 => b_X9_settled_72 (by omega) ?_)
      have ev := hv.at (j := j.toNat) (by omega) ⟨q, q2⟩ hb
      have fin : WP PR (d + 13) 238 85 [vA 200, vI p, vI c, vI j, vI (j + 1), vI (mn j.toNat)] [] S N2 (fun r2 S2 M2 => r2 = some (vI v) ∧ CP (n + 1) S2 M2) := b_X9_settled_85 L (s_pend h2 (m := n + 1) (by omega) hO hs3 (j := j.toNat + 1) (by omega) pm2 (fun M4 cp _ _ _ => b_X9_settled_91 ⟨by rw [ev, ej], cp⟩))
      exact b_X9_settled_33 (fun _ => fin) (fun _ => b_X9_settled_40 (fun _ => fin) (fun w => absurd w (by omega)))
  have key := for_up (W := fun j => ∀ N u, WS S N 177 t (M 20 p) TL T (ysN TL T (sg0 (M 202)) j.toNat) → (∀ a i, ¬ ((177 ≤ a ∧ a ≤ 183) ∨ a = 191 ∨ (195 ≤ a ∧ a ≤ 197)) → N a i = M a i) → (N 191 6 = 0 ∨ N 191 6 = 1) → (∀ i : Nat, i < j.toNat → ¬ (¬ mn i = -1 ∧ mn (i + 1) = mn i)) → WP PR (d + 8) 103 33 [vA 1, vI p, vI c, vI j, u] [] S N (fun r S1 M1 => ∃ v, r = some (vI v) ∧ e_X9_settled (d + 13) p c S1 M1 (fun r2 S2 M2 => r2 = some (vI v) ∧ CP (n + 1) S2 M2))) (lo := 0) (hi := 60) (by decide) (fun N u w6 fN e6 hb => b_X8_settled_33 (fun _ => b_X8_settled_93 ⟨_, rfl, rf _ N (Or.inl ⟨rfl, hb⟩) fN⟩) (fun q => absurd q (by decide))) (fun j j0 j1 ih N u w6 fN e6 hb => b_X8_settled_33 (fun q => absurd q (by omega)) (fun _ => b_X8_settled_39 L (c_mean hp7 w6.k.r w6.k.ok c8 ?_)))
  · exact key M1 _ ws (fun a i q => f1 a i (by omega)) (Or.inl a6) (fun i q => absurd q (by show ¬ i < 0; omega))
  · have es : (j + 1).toNat = j.toNat + 1 := by omega
    rw [← hmn]
    obtain ⟨y1, y2, y3, y4⟩ := (PaS.z h).ys (TL := TL) hO h.y (j := j.toNat) (by omega)
    have hy9 := h.y
    refine b_X8_settled_47 (q1 := M 20 p) (fN _ _ (by omega)) L p4 (c_planYears L hO w6 y1 (n := 1) (by decide) (by omega) (by omega) e6 (fun N2 w7 f7 e7 => ?_))
    have w7 : WS S N2 177 t (M 20 p) TL T (ysN TL T (sg0 (M 202)) (j.toNat + 1)) := w7
    have fN2 : ∀ a i, ¬ ((177 ≤ a ∧ a ≤ 183) ∨ a = 191 ∨ (195 ≤ a ∧ a ≤ 197)) → N2 a i = M a i := fun a i q => by rw [f7 a i (by omega), fN a i q]
    have e62 : N2 191 6 = 0 ∨ N2 191 6 = 1 := by
      rw [e7]
      show (pyN TL T (tn T).toNat (y0 (ysN TL T (sg0 (M 202)) j.toNat), N 191 6)).2 = 0 ∨ _ = 1
      exact (py_beh hO y1 (by omega) e6 _ (by have := hO.1.1; omega)).2.2
    have go : ¬ (¬ mn j.toNat = -1 ∧ mn (j.toNat + 1) = mn j.toNat) → ∀ u, WP PR (d + 8) 103 33 [vA 1, vI p, vI c, vI (j + 1), u] [] S N2 (fun r S1 M1 => ∃ v, r = some (vI v) ∧ e_X9_settled (d + 13) p c S1 M1 (fun r2 S2 M2 => r2 = some (vI v) ∧ CP (n + 1) S2 M2)) := fun q u => ih N2 u (by rw [es]; exact w7) fN2 e62 (fun i q2 => by
        by_cases qi : i = j.toNat
        · subst qi; exact q
        · exact hb i (by omega))
    refine b_X8_settled_66 (fun q => b_X8_settled_87 (by omega) (go (fun w => w.1 q) _)) (fun q => b_X8_settled_72 L (c_mean hp7 w7.k.r w7.k.ok c8 ?_))
    rw [← hmn]
    exact b_X8_settled_82 (fun q2 => b_X8_settled_87 (by omega) (go (fun w => q2 w.2.symm) _)) (fun q2 => b_X8_settled_85 ⟨_, rfl, rf _ N2 (Or.inr ⟨j.toNat, by omega, by omega, ⟨q, q2.symm⟩, hb⟩) fN2⟩)
theorem t_oldEnough {p c m : Int} : TwoI n (e_X8_oldEnough (d + 8) p c m) (e_X9_oldEnough (d + 13) p c m) := fun S M h hn => by
  have L := h.lay
  have hc := h.cnt
  have hr := h.r
  have ok := h.ok
  have sa := lSta8 L
  have hs := lStk9 L
  have hp7 := lStk177 L
  have T0 := h.th hn
  have nn := h.nn
  have e2 : up M 200 0 0 202 = M 202 := funext fun i => up1_ne (by omega)
  have no : ¬ (((0 ≤ p ∧ p < M 202 3) ∧ (0 ≤ c ∧ c < M 202 0)) ∧ (0 ≤ m ∧ m ≤ 19000)) → e_X9_oldEnough (d + 13) p c m S M (fun r2 S2 M2 => r2 = some (vI (-1)) ∧ CP (n + 1) S2 M2) := fun q => by
    refine b_X9_oldEnough_0 L (s_isPlan L (by rw [e2]; have := hc.2.2.1; omega) (fun q1 => b_X9_oldEnough_10 (fun e => absurd e (by decide)) (fun _ => b_X9_oldEnough_13 L (s_isCask L (by rw [e2]; exact ok.n) (fun q2 => b_X9_oldEnough_18 (fun e => absurd e (by decide)) (fun _ => b_X9_oldEnough_21 (s_in (fun q3 => ?_) (fun q3 => b_X9_oldEnough_30 (fun e => absurd rfl e) (fun _ => b_X9_oldEnough_33 ⟨rfl, T0⟩))))) (fun q2 => b_X9_oldEnough_18 (fun _ => b_X9_oldEnough_33 ⟨rfl, T0⟩) (fun e => absurd rfl e))))) (fun q1 => b_X9_oldEnough_10 (fun _ => b_X9_oldEnough_33 ⟨rfl, T0⟩) (fun e => absurd rfl e)))
    rw [e2] at q1 q2
    exact absurd ⟨⟨q1, q2⟩, q3⟩ q
  refine b_X8_oldEnough_0 L (c_hasPlan sa (fun qp => b_X8_oldEnough_8 (fun e => absurd e (by decide)) (fun _ => b_X8_oldEnough_11 L (c_has hs hr (fun qc => b_X8_oldEnough_22 (fun e => absurd e (by decide)) (fun _ => b_X8_oldEnough_25 (c_isWithin (fun qm => b_X8_oldEnough_33 (fun _ => b_X8_oldEnough_38 L ?_) (fun e => absurd e (by decide))) (fun qm => b_X8_oldEnough_33 (fun e => absurd rfl e) (fun _ => b_X8_oldEnough_36 ⟨_, rfl, no (fun w => qm w.2)⟩))))) (fun qc => b_X8_oldEnough_22 (fun _ => b_X8_oldEnough_36 ⟨_, rfl, no (fun w => qc w.1.2)⟩) (fun e => absurd rfl e))))) (fun qp => b_X8_oldEnough_8 (fun _ => b_X8_oldEnough_36 ⟨_, rfl, no (fun w => qp (by rw [hc.2.2.1.2.2]; exact w.1.1))⟩) (fun e => absurd rfl e)))
  rw [hc.2.2.1.2.2] at qp
  obtain ⟨x1, x2, p4, T, hP, hX, hO⟩ := h.plan qp
  have c8 := h.n8 qc
  refine c_startPaper h (fun M1 t TL fm okL wk a4 a5 a6 a7 a8 f1 ht => b_X8_oldEnough_42 ?_)
  have ws := WS.of h wk a4 a5 a7 a8 f1 ⟨x1, x2⟩ hX hO
  obtain ⟨mn, hmn⟩ : ∃ mn : Nat → Int, ∀ j, mn j = meanG (gS (ysN TL T (sg0 (M 202)) j)) c := ⟨_, fun j => rfl⟩
  have rf : ∀ v M2, FstAt (fun j => m ≤ mn j) 61 v → (∀ a i, ¬ ((177 ≤ a ∧ a ≤ 183) ∨ a = 191 ∨ (195 ≤ a ∧ a ≤ 197)) → M2 a i = M a i) → e_X9_oldEnough (d + 13) p c m S M2 (fun r2 S2 M2 => r2 = some (vI v) ∧ CP (n + 1) S2 M2) := fun v M2 hv f12 => by
    have h2 : CP n S M2 := h.pp f12
    have m2 : M2 202 = M 202 := funext fun i => f12 _ _ (by omega)
    have z2 : up M2 200 0 0 202 = M 202 := by rw [← m2]; exact funext fun i => up1_ne (by omega)
    refine b_X9_oldEnough_0 L (s_isPlan L (by rw [z2]; have := hc.2.2.1; omega) (fun _ => b_X9_oldEnough_10 (fun e => absurd e (by decide)) (fun _ => b_X9_oldEnough_13 L (s_isCask L (by rw [z2]; exact ok.n) (fun _ => b_X9_oldEnough_18 (fun e => absurd e (by decide)) (fun _ => b_X9_oldEnough_21 (s_in (fun _ => b_X9_oldEnough_30 (fun _ => b_X9_oldEnough_35 L ?_) (fun e => absurd e (by decide))) (fun q => absurd qm q)))) (fun q => absurd (by rw [z2]; exact qc) q)))) (fun q => absurd (by rw [z2]; exact qp) q))
    refine s_beginPlan h2 p4 (TL := TL) (T := T) (by rw [m2]; exact fm) (by rw [m2]; exact hP) (fun M3 σ hs3 pm3 => b_X9_oldEnough_40 ?_) (fun a i q => up1_ne q)
    have key := for_up (W := fun j => ∀ N, PaM M2 TL T σ j.toNat N → (∀ i : Nat, i < j.toNat → ¬ m ≤ mn i) → WP PR (d + 13) 237 43 [vA 200, vI p, vI c, vI m, vI j] [] S N (fun r2 S2 M2 => r2 = some (vI v) ∧ CP (n + 1) S2 M2)) (lo := 0) (hi := 61) (by decide) (fun N pm hb => b_X9_oldEnough_43 (fun _ => b_X9_oldEnough_69 L (s_pend h2 (m := n + 1) (by omega) hO hs3 (j := 61) (by omega) pm (fun M4 cp _ _ _ => b_X9_oldEnough_75 (fun q => absurd q (by decide)) (fun _ => b_X9_oldEnough_82 ⟨?_, cp⟩)))) (fun q => absurd q (by decide))) (fun j j0 j1 ih N pm hb => b_X9_oldEnough_43 (fun q => absurd q (by omega)) (fun _ => b_X9_oldEnough_50 L ?_))
    · exact key M3 pm3 (fun i q => absurd q (by show ¬ i < 0; omega))
    · rw [hv.no (fun i q => hb i q)]
    · have sm := hs3.1.ys (TL := TL) (T := T) j.toNat
      rw [m2] at sm
      have z1 := (hs3.ys (TL := TL) hO h2.y (j := j.toNat) (by omega)).1
      have ej : ((j.toNat : Nat) : Int) = j := by omega
      have es : (j + 1).toNat = j.toNat + 1 := by omega
      refine s_meanOf L (by rw [pm.1.1]; exact z1.1.D) c8 ?_
      rw [pm.1.1, sm.1, ← hmn]
      refine b_X9_oldEnough_55 (fun q => b_X9_oldEnough_69 L (s_pend h2 (m := n + 1) (by omega) hO hs3 (j := j.toNat) (by omega) pm (fun M4 cp _ _ _ => b_X9_oldEnough_75 (fun _ => b_X9_oldEnough_86 ⟨?_, cp⟩) (fun q => absurd q (by omega))))) (fun q => b_X9_oldEnough_59 L (s_year h2 hO hs3 (j := j.toNat) (by omega) pm (fun N2 pm2 _ => b_X9_oldEnough_63 (by omega) (ih N2 (by rw [es]; exact pm2) (fun i q2 => ?_)))))
      · rw [hv.at (j := j.toNat) (by omega) q hb, ej]
      · by_cases qi : i = j.toNat
        · subst qi; omega
        · exact hb i (by omega)
  have key := for_up (W := fun j => ∀ N, WS S N 177 t (M 20 p) TL T (ysN TL T (sg0 (M 202)) j.toNat) → (∀ a i, ¬ ((177 ≤ a ∧ a ≤ 183) ∨ a = 191 ∨ (195 ≤ a ∧ a ≤ 197)) → N a i = M a i) → (N 191 6 = 0 ∨ N 191 6 = 1) → (∀ i : Nat, i < j.toNat → ¬ m ≤ mn i) → WP PR (d + 8) 102 45 [vA 1, vI p, vI c, vI m, vI j] [] S N (fun r S1 M1 => ∃ v, r = some (vI v) ∧ e_X9_oldEnough (d + 13) p c m S1 M1 (fun r2 S2 M2 => r2 = some (vI v) ∧ CP (n + 1) S2 M2))) (lo := 0) (hi := 61) (by decide) (fun N w6 fN e6 hb => b_X8_oldEnough_45 (fun _ => b_X8_oldEnough_90 ⟨_, rfl, rf _ N (Or.inl ⟨rfl, hb⟩) fN⟩) (fun q => absurd q (by decide))) (fun j j0 j1 ih N w6 fN e6 hb => b_X8_oldEnough_45 (fun q => absurd q (by omega)) (fun _ => b_X8_oldEnough_52 L (c_mean hp7 w6.k.r w6.k.ok c8 ?_)))
  · exact key M1 ws (fun a i q => f1 a i (by omega)) (Or.inl a6) (fun i q => absurd q (by show ¬ i < 0; omega))
  · have es : (j + 1).toNat = j.toNat + 1 := by omega
    rw [← hmn]
    obtain ⟨y1, y2, y3, y4⟩ := (PaS.z h).ys (TL := TL) hO h.y (j := j.toNat) (by omega)
    have hy9 := h.y
    refine b_X8_oldEnough_60 (fun q => b_X8_oldEnough_67 (q1 := M 20 p) (fN _ _ (by omega)) L p4 (c_planYears L hO w6 y1 (n := 1) (by decide) (by omega) (by omega) e6 (fun N2 w7 f7 e7 => b_X8_oldEnough_84 (by omega) (ih N2 (by rw [es]; exact w7) (fun a i q => by rw [f7 a i (by omega), fN a i q]) ?_ (fun i q2 => ?_))))) (fun q => b_X8_oldEnough_64 ⟨_, rfl, rf _ N (Or.inr ⟨j.toNat, by omega, by omega, q, hb⟩) fN⟩)
    · rw [e7]
      show (pyN TL T (tn T).toNat (y0 (ysN TL T (sg0 (M 202)) j.toNat), N 191 6)).2 = 0 ∨ _ = 1
      exact (py_beh hO y1 (by omega) e6 _ (by have := hO.1.1; omega)).2.2
    · by_cases qi : i = j.toNat
      · subst qi; omega
      · exact hb i (by omega)
end PN
