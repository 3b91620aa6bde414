/-! Plans on paper, both sides: byPlan, yields, starves, settled, oldEnough. -/
section PM
variable {n : Int} {d : Nat} {S : mSh} {M M' : mMem} {Q : Option mV → mSh → mMem → Prop} {TL T : TX}
theorem PaS.z (h : CP n S M) : PaS M (sg0 (M 202)) := ⟨⟨rfl, rfl, rfl⟩, sg0_ok h.ok⟩
theorem FrYr.pp {M1 M2 : mMem} (f1 : ∀ a i, ¬ (a = 191 ∨ a = 196 ∨ (177 ≤ a ∧ a ≤ 183)) → M1 a i = M a i) (f2 : FrYr 177 M1 M2) : ∀ a i, ¬ ((177 ≤ a ∧ a ≤ 183) ∨ a = 191 ∨ (195 ≤ a ∧ a ≤ 197)) → M2 a i = M a i := fun a i q => by rw [f2 a i (by omega), f1 a i (by omega)]
/-- the class has a plan run for years on paper -/
theorem c_yrs (h : CP n S M) (ho : okTO T) {t x : Int} {j : Nat} (hj : j ≤ 60) {M1 : mMem} (w : WS S M1 177 t x TL T (ysN TL T (sg0 (M 202)) j)) (h6 : M1 191 6 = 0) {y : Int} (hy : 0 ≤ y ∧ y ≤ 60 ∧ j + y ≤ 61) (k : ∀ M2, WS S M2 177 t x TL T (ysN TL T (ysN TL T (sg0 (M 202)) j) y.toNat) → FrYr 177 M1 M2 → M2 191 6 = flN TL T (ysN TL T (sg0 (M 202)) j) 0 y.toNat → Q none S M2) : e_X7_planYears (d + 6) x y S M1 Q := by
  obtain ⟨y1, y2, y3, y4⟩ := (PaS.z h).ys (TL := TL) ho h.y (j := j) (by omega)
  have hy9 := h.y
  exact c_planYears h.lay ho w y1 ⟨hy.1, hy.2.1⟩ (by omega) (by omega) (Or.inl h6) (fun M2 w2 f2 e2 => k M2 w2 f2 (by rw [h6] at e2; exact e2))
theorem t_byPlan {p y c w : Int} : TwoI n (e_X8_byPlan (d + 8) p y c w) (e_X9_byPlan (d + 13) p y c w) := fun S M h hn => by
  have L := h.lay
  have hr := h.r
  have ok := h.ok
  have hc := h.cnt
  have sa := lSta8 L
  have hs := lStk9 L
  have hp7 := lStk177 L
  have T0 := h.th hn
  have e2 : up M 200 0 0 202 = M 202 := funext fun i => up1_ne (by omega)
  have no : ¬ (((0 ≤ p ∧ p < M 202 3) ∧ (0 ≤ y ∧ y ≤ 60)) ∧ ((0 ≤ c ∧ c < M 202 0) ∧ (0 ≤ w ∧ w ≤ 2))) → e_X9_byPlan (d + 13) p y c w S M (fun r2 S2 M2 => r2 = some (vI (-1)) ∧ CP (n + 1) S2 M2) := fun q => by
    refine b_X9_byPlan_0 L (s_isPlan L (by rw [e2]; have := hc.2.2.1; omega) (fun q1 => b_X9_byPlan_10 (fun e => absurd e (by decide)) (fun _ => b_X9_byPlan_13 (s_in (fun q2 => b_X9_byPlan_22 (fun e => absurd e (by decide)) (fun _ => b_X9_byPlan_25 L (s_isCask L (by rw [e2]; exact ok.n) (fun q3 => b_X9_byPlan_30 (fun e => absurd e (by decide)) (fun _ => b_X9_byPlan_33 (s_in (fun q4 => ?_) (fun q4 => b_X9_byPlan_43 (fun e => absurd rfl e) (fun _ => b_X9_byPlan_46 ⟨rfl, T0⟩))))) (fun q3 => b_X9_byPlan_30 (fun _ => b_X9_byPlan_46 ⟨rfl, T0⟩) (fun e => absurd rfl e))))) (fun q2 => b_X9_byPlan_22 (fun _ => b_X9_byPlan_46 ⟨rfl, T0⟩) (fun e => absurd rfl e))))) (fun q1 => b_X9_byPlan_10 (fun _ => b_X9_byPlan_46 ⟨rfl, T0⟩) (fun e => absurd rfl e)))
    rw [e2] at q1 q3
    exact absurd ⟨⟨q1, q2⟩, q3, q4⟩ q
  have n25 : ¬ ((0 ≤ p ∧ p < M 202 3) ∧ (0 ≤ c ∧ c < M 202 0)) → WP PR (d + 8) 101 25 [vA 1, vI p, vI y, vI c, vI w] [] S M (fun r S1 M1 => ∃ v, r = some (vI v) ∧ e_X9_byPlan (d + 13) p y c w S1 M1 (fun r2 S2 M2 => r2 = some (vI v) ∧ CP (n + 1) S2 M2)) := fun q => b_X8_byPlan_25 ⟨_, rfl, no (fun w => q ⟨w.1.1, w.2.1⟩)⟩
  have n47 : ¬ ((0 ≤ y ∧ y ≤ 60) ∧ (0 ≤ w ∧ w ≤ 2)) → WP PR (d + 8) 101 47 [vA 1, vI p, vI y, vI c, vI w] [] S M (fun r S1 M1 => ∃ v, r = some (vI v) ∧ e_X9_byPlan (d + 13) p y c w S1 M1 (fun r2 S2 M2 => r2 = some (vI v) ∧ CP (n + 1) S2 M2)) := fun q => b_X8_byPlan_47 ⟨_, rfl, no (fun w => q ⟨w.1.2, w.2.2⟩)⟩
  refine b_X8_byPlan_0 L (c_hasPlan sa (fun qp => b_X8_byPlan_8 (fun e => absurd e (by decide)) (fun _ => b_X8_byPlan_11 L (c_has hs hr (fun qc => b_X8_byPlan_22 (fun _ => b_X8_byPlan_27 (c_isWithin (fun qy => b_X8_byPlan_34 (fun e => absurd e (by decide)) (fun _ => b_X8_byPlan_37 (c_isWithin (fun qw => b_X8_byPlan_44 (fun _ => b_X8_byPlan_49 L ?_) (fun e => absurd e (by decide))) (fun qw => b_X8_byPlan_44 (fun e => absurd rfl e) (fun _ => n47 (fun w => qw w.2)))))) (fun qy => b_X8_byPlan_34 (fun _ => n47 (fun w => qy w.1)) (fun e => absurd rfl e)))) (fun e => absurd e (by decide))) (fun qc => b_X8_byPlan_22 (fun e => absurd rfl e) (fun _ => n25 (fun w => qc w.2)))))) (fun qp => b_X8_byPlan_8 (fun _ => n25 (fun w => qp (by rw [hc.2.2.1.2.2]; exact w.1))) (fun e => absurd rfl e)))
  rw [hc.2.2.1.2.2] at qp
  obtain ⟨x1, x2, p4, T, hP, hX, hO⟩ := h.plan qp
  have c8 := h.n8 qc
  refine c_startPaper h (fun M1 t TL fm okL wk a4 a5 a6 a7 a8 f1 ht => ?_)
  have ws := WS.of h wk a4 a5 a7 a8 f1 ⟨x1, x2⟩ hX hO
  refine b_X8_byPlan_53 (q1 := M 20 p) (f1 _ _ (by omega)) L p4 (c_yrs h hO (j := 0) (by decide) ws a6 ⟨qy.1, qy.2, by omega⟩ (fun M2 w2 f2 e6 => ?_))
  have w2 : WS S M2 177 t (M 20 p) TL T (ysN TL T (sg0 (M 202)) y.toNat) := w2
  have f12 := FrYr.pp f1 f2
  have h2 : CP n S M2 := h.pp f12
  have m2 : M2 202 = M 202 := funext fun i => f12 _ _ (by omega)
  -- the reference
  have rf : ∀ v, (w = 0 → v = allG (gS (ysN TL T (sg0 (M 202)) y.toNat)) c) → (w = 1 → v = meanG (gS (ysN TL T (sg0 (M 202)) y.toNat)) c) → (w = 2 → v = labG (gS (ysN TL T (sg0 (M 202)) y.toNat)) c) → e_X9_byPlan (d + 13) p y c w S M2 (fun r2 S2 M2 => r2 = some (vI v) ∧ CP (n + 1) S2 M2) := fun v v0 v1 v2 => by
    have z2 : up M2 200 0 0 202 = M 202 := by rw [← m2]; exact funext fun i => up1_ne (by omega)
    refine b_X9_byPlan_0 L (s_isPlan L (by rw [z2]; have := hc.2.2.1; omega) (fun _ => b_X9_byPlan_10 (fun e => absurd e (by decide)) (fun _ => b_X9_byPlan_13 (s_in (fun _ => b_X9_byPlan_22 (fun e => absurd e (by decide)) (fun _ => b_X9_byPlan_25 L (s_isCask L (by rw [z2]; exact ok.n) (fun _ => b_X9_byPlan_30 (fun e => absurd e (by decide)) (fun _ => b_X9_byPlan_33 (s_in (fun _ => b_X9_byPlan_43 (fun _ => b_X9_byPlan_48 L ?_) (fun e => absurd e (by decide))) (fun q => absurd qw q)))) (fun q => absurd (by rw [z2]; exact qc) q)))) (fun q => absurd qy q)))) (fun q => absurd (by rw [z2]; exact qp) q))
    refine s_beginPlan h2 p4 (TL := TL) (T := T) (by rw [m2]; exact fm) (by rw [m2]; exact hP) (fun M3 σ hs3 pm3 => b_X9_byPlan_53 ?_) (fun a i q => up1_ne q)
    have key := for_up (W := fun j => ∀ N, PaM M2 TL T σ j.toNat N → WP PR (d + 13) 236 56 [vA 200, vI p, vI y, vI c, vI w, vI j] [] S N (fun r2 S2 M2 => r2 = some (vI v) ∧ CP (n + 1) S2 M2)) (lo := 0) (hi := y) qy.1 (fun N pm => b_X9_byPlan_56 (fun _ => ?_) (fun q => absurd q (by omega))) (fun j j0 j1 ih N pm => b_X9_byPlan_56 (fun q => absurd q (by omega)) (fun _ => b_X9_byPlan_62 L (s_year h2 hO hs3 (j := j.toNat) (by omega) pm (fun N2 pm2 _ => b_X9_byPlan_66 (by omega) (ih N2 (by rw [show (j + 1).toNat = j.toNat + 1 by omega]; exact pm2))))))
    · exact key M3 pm3
    · obtain ⟨z1, z2', z3, z4⟩ := hs3.ys (TL := TL) hO h2.y (j := y.toNat) (by omega)
      have sm := hs3.1.ys (TL := TL) (T := T) y.toNat
      rw [m2] at sm
      have rN : N 202 = gS (ysN TL T (sg0 (M 202)) y.toNat) := by rw [pm.1.1, sm.1]
      have ok3 : okS (gS (ysN TL T (sg0 (M 202)) y.toNat)) := by rw [← sm.1]; exact z1.1
      have fin : WP PR (d + 13) 236 112 [vA 200, vI p, vI y, vI c, vI w, vI v] [] S N (fun r2 S2 M2 => r2 = some (vI v) ∧ CP (n + 1) S2 M2) → True := fun _ => trivial
      refine b_X9_byPlan_72 (fun w1 => b_X9_byPlan_85 (fun w2 => b_X9_byPlan_99 L (s_labelOf L (by rw [rN]; exact ok3.D) (by rw [rN]; exact ok3.p) c8 (b_X9_byPlan_104 L (s_pend h2 (m := n + 1) (by have := h.nn; omega) hO hs3 (j := y.toNat) (by omega) pm (fun M4 cp _ _ _ => b_X9_byPlan_112 ⟨?_, cp⟩))))) (fun w2 => b_X9_byPlan_91 L (s_meanOf L (by rw [rN]; exact ok3.D) c8 (b_X9_byPlan_96 L (s_pend h2 (m := n + 1) (by have := h.nn; omega) hO hs3 (j := y.toNat) (by omega) pm (fun M4 cp _ _ _ => b_X9_byPlan_112 ⟨?_, cp⟩)))))) (fun w1 => b_X9_byPlan_77 L (s_allOf L (by rw [rN]; exact ok3.D) c8 (b_X9_byPlan_82 L (s_pend h2 (m := n + 1) (by have := h.nn; omega) hO hs3 (j := y.toNat) (by omega) pm (fun M4 cp _ _ _ => b_X9_byPlan_112 ⟨?_, cp⟩)))))
      · rw [v2 (by omega), rN]
      · rw [v1 w2, rN]
      · rw [v0 w1, rN]
  have r2 := w2.k.r
  have o2 := w2.k.ok
  exact b_X8_byPlan_70 (fun q0 => b_X8_byPlan_85 (fun q1 => b_X8_byPlan_102 L (c_label hp7 r2 o2 c8 (b_X8_byPlan_110 ⟨_, rfl, rf _ (fun e => absurd e q0) (fun e => absurd e q1) (fun _ => rfl)⟩))) (fun q1 => b_X8_byPlan_91 L (c_mean hp7 r2 o2 c8 (b_X8_byPlan_99 ⟨_, rfl, rf _ (fun e => absurd e q0) (fun _ => rfl) (fun e => absurd e (by omega))⟩)))) (fun q0 => b_X8_byPlan_75 L c8 ⟨_, rfl, rf _ (fun _ => r2.a c8) (fun e => absurd e (by omega)) (fun e => absurd e (by omega))⟩)
/-- what a plan bottles, at the reference -/
theorem s_yieldOf {m : Int} (h : CP n S M) (hm : n ≤ m ∧ m ≤ 512) (hO : okTO T) {p y : Int} (p4 : 0 ≤ p ∧ p < 4) (qy : 0 ≤ y ∧ y ≤ 60) (fm : ForM (M 202) TL) (hP : PlanM (M 202) (198 + 948 * p) T) (k : ∀ M2, CP m S M2 → M2 202 = M 202 → M2 200 43 = mnS (ysN TL T (sg0 (M 202)) y.toNat) → Q (some (vI (ylS (ysN TL T (sg0 (M 202)) y.toNat)))) S M2) {M0 : mMem} (f0 : ∀ a i, ¬ (a = 200 ∧ i = 0) → M0 a i = M a i) : e_X9_yieldOf (d + 12) p y S M0 Q := by
  have L := h.lay
  refine b_X9_yieldOf_0 L (s_beginPlan h p4 fm hP (fun M3 σ hs3 pm3 => b_X9_yieldOf_5 ?_) f0)
  have key := for_up (W := fun j => ∀ N, PaM M TL T σ j.toNat N → WP PR (d + 12) 240 7 [vA 200, vI p, vI y, vI j] [] S N Q) (lo := 0) (hi := y) qy.1 (fun N pm => b_X9_yieldOf_7 (fun _ => b_X9_yieldOf_22 L (s_pend h hm hO hs3 (j := y.toNat) (by omega) pm (fun M4 cp r4 e42 e43 => b_X9_yieldOf_28 L (by rw [e42]; exact k M4 cp r4 e43)))) (fun q => absurd q (by omega))) (fun j j0 j1 ih N pm => b_X9_yieldOf_7 (fun q => absurd q (by omega)) (fun _ => b_X9_yieldOf_12 L (s_year h hO hs3 (j := j.toNat) (by omega) pm (fun N2 pm2 _ => b_X9_yieldOf_16 (by omega) (ih N2 (by rw [show (j + 1).toNat = j.toNat + 1 by omega]; exact pm2))))))
  exact key M3 pm3
theorem t_yields {p y : Int} : TwoI n (e_X8_yields (d + 8) p y) (e_X9_yields (d + 13) p y) := fun S M h hn => by
  have L := h.lay
  have hc := h.cnt
  have sa := lSta8 L
  have T0 := h.th hn
  have e2 : up M 200 0 0 202 = M 202 := funext fun i => up1_ne (by omega)
  have no : ¬ ((0 ≤ p ∧ p < M 202 3) ∧ (0 ≤ y ∧ y ≤ 60)) → e_X9_yields (d + 13) p y S M (fun r2 S2 M2 => r2 = some (vI (-1)) ∧ CP (n + 1) S2 M2) := fun q => by
    refine b_X9_yields_0 L (s_isPlan L (by rw [e2]; have := hc.2.2.1; omega) (fun q1 => b_X9_yields_10 (fun e => absurd e (by decide)) (fun _ => b_X9_yields_13 (s_in (fun q2 => ?_) (fun q2 => b_X9_yields_22 (fun e => absurd rfl e) (fun _ => b_X9_yields_25 ⟨rfl, T0⟩))))) (fun q1 => b_X9_yields_10 (fun _ => b_X9_yields_25 ⟨rfl, T0⟩) (fun e => absurd rfl e)))
    rw [e2] at q1
    exact absurd ⟨q1, q2⟩ q
  refine b_X8_yields_0 L (c_hasPlan sa (fun qp => b_X8_yields_8 (fun e => absurd e (by decide)) (fun _ => b_X8_yields_11 (c_isWithin (fun qy => b_X8_yields_18 (fun _ => b_X8_yields_23 L ?_) (fun e => absurd e (by decide))) (fun qy => b_X8_yields_18 (fun e => absurd rfl e) (fun _ => b_X8_yields_21 ⟨_, rfl, no (fun w => qy w.2)⟩))))) (fun qp => b_X8_yields_8 (fun _ => b_X8_yields_21 ⟨_, rfl, no (fun w => qp (by rw [hc.2.2.1.2.2]; exact w.1))⟩) (fun e => absurd rfl e)))
  rw [hc.2.2.1.2.2] at qp
  obtain ⟨x1, x2, p4, T, hP, hX, hO⟩ := h.plan qp
  refine c_startPaper h (fun M1 t TL fm okL wk a4 a5 a6 a7 a8 f1 ht => ?_)
  have ws := WS.of h wk a4 a5 a7 a8 f1 ⟨x1, x2⟩ hX hO
  refine b_X8_yields_27 (q1 := M 20 p) (f1 _ _ (by omega)) L p4 (c_yrs h hO (j := 0) (by decide) ws a6 ⟨qy.1, qy.2, by omega⟩ (fun M2 w2 f2 e6 => b_X8_yields_44 L ⟨_, rfl, ?_⟩))
  have w2 : WS S M2 177 t (M 20 p) TL T (ysN TL T (sg0 (M 202)) y.toNat) := w2
  have f12 := FrYr.pp f1 f2
  have h2 : CP n S M2 := h.pp f12
  have m2 : M2 202 = M 202 := funext fun i => f12 _ _ (by omega)
  have z2 : up M2 200 0 0 202 = M 202 := by rw [← m2]; exact funext fun i => up1_ne (by omega)
  refine b_X9_yields_0 L (s_isPlan L (by rw [z2]; have := hc.2.2.1; omega) (fun _ => b_X9_yields_10 (fun e => absurd e (by decide)) (fun _ => b_X9_yields_13 (s_in (fun _ => b_X9_yields_22 (fun _ => b_X9_yields_29 L ?_) (fun e => absurd e (by decide))) (fun q => absurd qy q)))) (fun q => absurd (by rw [z2]; exact qp) q))
  refine s_yieldOf h2 (m := n + 1) (by have := h.nn; omega) hO p4 qy (by rw [m2]; exact fm) (by rw [m2]; exact hP) (fun M4 cp _ _ => b_X9_yields_35 ⟨?_, cp⟩) (fun a i q => up1_ne q)
  rw [m2, w2.yl]
/-- the first of the years below B for which P holds -/
def FstAt (P : Nat → Prop) (B : Nat) (v : Int) : Prop := (v = -1 ∧ ∀ i, i < B → ¬ P i) ∨ ∃ k : Nat, v = (k : Int) ∧ k < B ∧ P k ∧ ∀ i, i < k → ¬ P i
theorem FstAt.at {P : Nat → Prop} {B j : Nat} {v : Int} (h : FstAt P B v) (hj : j < B) (hp : P j) (hn : ∀ i, i < j → ¬ P i) : v = (j : Int) := by
  rcases h with ⟨-, h⟩ | ⟨k, h1, h2, h3, h4⟩
  · exact absurd hp (h j hj)
  · by_cases q : k < j
    · exact absurd h3 (hn k q)
    · by_cases q2 : j < k
      · exact absurd hp (h4 j q2)
      · omega
theorem FstAt.no {P : Nat → Prop} {B : Nat} {v : Int} (h : FstAt P B v) (hn : ∀ i, i < B → ¬ P i) : v = -1 := by
  rcases h with ⟨h, -⟩ | ⟨k, h1, h2, h3, h4⟩
  · exact h
  · exact absurd h3 (hn k h2)
theorem t_starves {p : Int} : TwoI n (e_X8_starves (d + 8) p) (e_X9_starves (d + 13) p) := fun S M h hn => by
  have L := h.lay
  have hc := h.cnt
  have sa := lSta8 L
  have T0 := h.th hn
  have e2 : up M 200 0 0 202 = M 202 := funext fun i => up1_ne (by omega)
  have no : ¬ (0 ≤ p ∧ p < M 202 3) → e_X9_starves (d + 13) p S M (fun r2 S2 M2 => r2 = some (vI (-1)) ∧ CP (n + 1) S2 M2) := fun q => by
    refine b_X9_starves_0 L (s_isPlan L (by rw [e2]; have := hc.2.2.1; omega) (fun q1 => absurd (by rw [e2] at q1; exact q1) q) (fun q1 => b_X9_starves_10 (fun e => absurd rfl e) (fun _ => b_X9_starves_13 ⟨rfl, T0⟩)))
  refine b_X8_starves_0 L (c_hasPlan sa (fun qp => b_X8_starves_8 (fun _ => b_X8_starves_13 L ?_) (fun e => absurd e (by decide))) (fun qp => b_X8_starves_8 (fun e => absurd rfl e) (fun _ => b_X8_starves_11 ⟨_, rfl, no (fun w => qp (by rw [hc.2.2.1.2.2]; exact w))⟩)))
  rw [hc.2.2.1.2.2] at qp
  obtain ⟨x1, x2, p4, T, hP, hX, hO⟩ := h.plan qp
  refine c_startPaper h (fun M1 t TL fm okL wk a4 a5 a6 a7 a8 f1 ht => b_X8_starves_17 ?_)
  have ws := WS.of h wk a4 a5 a7 a8 f1 ⟨x1, x2⟩ hX hO
  have py01 : ∀ j : Nat, j ≤ 60 → (pyE TL T (ysN TL T (sg0 (M 202)) j)).2 = 0 ∨ (pyE TL T (ysN TL T (sg0 (M 202)) j)).2 = 1 := fun j hj => by
    obtain ⟨y1, y2, y3, y4⟩ := (PaS.z h).ys (TL := TL) hO h.y (j := j) (by omega)
    exact (py_beh hO y1 (by omega) (Or.inl rfl) _ (by have := hO.1.1; omega)).2.2
  -- the reference
  have rf : ∀ v M2, FstAt (fun j => ¬ (pyE TL T (ysN TL T (sg0 (M 202)) j)).2 = 0) 60 v → (∀ a i, ¬ ((177 ≤ a ∧ a ≤ 183) ∨ a = 191 ∨ (195 ≤ a ∧ a ≤ 197)) → M2 a i = M a i) → e_X9_starves (d + 13) p S M2 (fun r2 S2 M2 => r2 = some (vI v) ∧ CP (n + 1) S2 M2) := fun v M2 hv f12 => by
    have h2 : CP n S M2 := h.pp f12
    have m2 : M2 202 = M 202 := funext fun i => f12 _ _ (by omega)
    have z2 : up M2 200 0 0 202 = M 202 := by rw [← m2]; exact funext fun i => up1_ne (by omega)
    refine b_X9_starves_0 L (s_isPlan L (by rw [z2]; have := hc.2.2.1; omega) (fun _ => b_X9_starves_10 (fun _ => b_X9_starves_15 L ?_) (fun e => absurd e (by decide))) (fun q => absurd (by rw [z2]; exact qp) q))
    refine s_beginPlan h2 p4 (TL := TL) (T := T) (by rw [m2]; exact fm) (by rw [m2]; exact hP) (fun M3 σ hs3 pm3 => b_X9_starves_20 ?_) (fun a i q => up1_ne q)
    have nn := h.nn
    have key := for_up (W := fun j => ∀ N, PaM M2 TL T σ j.toNat N → (∀ i : Nat, i < j.toNat → (pyE TL T (ysN TL T (sg0 (M 202)) i)).2 = 0) → WP PR (d + 13) 239 24 [vA 200, vI p, vI (-1), vI j] [] S N (fun r2 S2 M2 => r2 = some (vI v) ∧ CP (n + 1) S2 M2)) (lo := 0) (hi := 60) (by decide) (fun N pm hb => b_X9_starves_24 (fun _ => b_X9_starves_58 L (s_pend h2 (m := n + 1) (by omega) hO hs3 (j := 60) (by omega) pm (fun M4 cp _ _ _ => b_X9_starves_64 ⟨?_, cp⟩))) (fun q => absurd q (by decide))) (fun j j0 j1 ih N pm hb => b_X9_starves_24 (fun q => absurd q (by omega)) (fun _ => b_X9_starves_30 (fun q => absurd rfl q) (fun _ => b_X9_starves_35 L (s_year h2 hO hs3 (j := j.toNat) (by omega) pm (fun N2 pm2 e50 => ?_)))))
    · exact key M3 pm3 (fun i q => absurd q (by show ¬ i < 0; omega))
    · rw [hv.no (fun i q w => w (hb i q))]
    · rw [m2] at e50
      refine b_X9_starves_39 L (fun q => b_X9_starves_50 (by omega) (ih N2 (by rw [show (j + 1).toNat = j.toNat + 1 by omega]; exact pm2) (fun i q2 => ?_))) (fun q => b_X9_starves_46 (by omega) ?_)
      · by_cases qi : i = j.toNat
        · subst qi; rw [← e50]; exact q
        · exact hb i (by omega)
      · rw [e50] at q
        have ev := hv.at (j := j.toNat) (by omega) q (fun i w w2 => w2 (hb i w))
        have ej : ((j.toNat : Nat) : Int) = j := by omega
        have fin : WP PR (d + 13) 239 58 [vA 200, vI p, vI j, vI (j + 1)] [] S N2 (fun r2 S2 M2 => r2 = some (vI v) ∧ CP (n + 1) S2 M2) := b_X9_starves_58 L (s_pend h2 (m := n + 1) (by omega) hO hs3 (j := j.toNat + 1) (by omega) pm2 (fun M4 cp _ _ _ => b_X9_starves_64 ⟨by rw [ev, ej], cp⟩))
        exact b_X9_starves_24 (fun _ => fin) (fun _ => b_X9_starves_30 (fun _ => fin) (fun w => absurd w (by omega)))
  have key := for_up (W := fun j => ∀ N, WS S N 177 t (M 20 p) TL T (ysN TL T (sg0 (M 202)) j.toNat) → N 191 6 = 0 → (∀ a i, ¬ ((177 ≤ a ∧ a ≤ 183) ∨ a = 191 ∨ (195 ≤ a ∧ a ≤ 197)) → N a i = M a i) → (∀ i : Nat, i < j.toNat → (pyE TL T (ysN TL T (sg0 (M 202)) i)).2 = 0) → WP PR (d + 8) 104 19 [vA 1, vI p, vI j] [] S N (fun r S1 M1 => ∃ v, r = some (vI v) ∧ e_X9_starves (d + 13) p S1 M1 (fun r2 S2 M2 => r2 = some (vI v) ∧ CP (n + 1) S2 M2))) (lo := 0) (hi := 60) (by decide) (fun N w6 e6 fN hb => b_X8_starves_19 (fun _ => b_X8_starves_60 ⟨_, rfl, rf _ N (Or.inl ⟨rfl, fun i q w => w (hb i q)⟩) fN⟩) (fun q => absurd q (by decide))) (fun j j0 j1 ih N w6 e6 fN hb => b_X8_starves_19 (fun q => absurd q (by omega)) (fun _ => b_X8_starves_25 (q1 := M 20 p) (fN _ _ (by omega)) L p4 (c_yrs h hO (j := j.toNat) (by omega) w6 e6 ⟨by decide, by decide, by omega⟩ (fun N2 w7 f7 e7 => ?_))))
  · exact key M1 ws a6 (fun a i q => f1 a i (by omega)) (fun i q => absurd q (by show ¬ i < 0; omega))
  · have e7 : N2 191 6 = (pyE TL T (ysN TL T (sg0 (M 202)) j.toNat)).2 := e7
    have fN2 : ∀ a i, ¬ ((177 ≤ a ∧ a ≤ 183) ∨ a = 191 ∨ (195 ≤ a ∧ a ≤ 197)) → N2 a i = M a i := fun a i q => by rw [f7 a i (by omega), fN a i q]
    refine b_X8_starves_42 L (fun q => b_X8_starves_54 (by omega) (ih N2 (by rw [show (j + 1).toNat = j.toNat + 1 by omega]; exact w7) q fN2 (fun i q2 => ?_))) (fun q => b_X8_starves_52 ⟨_, rfl, rf _ N2 (Or.inr ⟨j.toNat, by omega, by omega, fun w => q (e7.trans w), fun i w w2 => w2 (hb i w)⟩) fN2⟩)
    by_cases qi : i = j.toNat
    · subst qi; rw [← e7]; exact q
    · exact hb i (by omega)
end PM
