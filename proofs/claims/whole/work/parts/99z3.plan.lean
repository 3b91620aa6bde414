/-! A plan is written down. -/
section TP
variable {n : Int} {S S' : mSh} {M M' : mMem} {Q : Option mV → mSh → mMem → Prop}
theorem c_planC {D : Nat} (h : CP n S M) (hn : n < 512) (hD : 202 ≤ D) (hm : M 8 7 < 4)
    (kG : ∀ T S' M', txR (M 209) (M 200 13) false 12 T0 0 0 = .inr T → (0 ≤ tn T ∧ tn T ≤ 12) → okTT false T → GrS S S' → sN S' = sN S + 3 → sU S' ≤ sU S + 488 → TextC false S' M' (sN S + 1) T → StOK M' → M' 20 (M 8 7) = sN S + 1 → M' 8 7 = M 8 7 + 1 → M' 1 11 = 0 → M' 1 13 = -1 → M' 2 1 = 0 → (∀ a i, a ≤ sN S → ¬ ((a = 20 ∧ i = M 8 7) ∨ (a = 8 ∧ i = 7) ∨ (a = 1 ∧ (i = 11 ∨ i = 13)) ∨ (a = 2 ∧ i = 1) ∨ (4 ≤ a ∧ a ≤ 7)) → M' a i = M a i) → Q (some (vI (M 8 7))) S' M')
    (kB : ∀ f M', txR (M 209) (M 200 13) false 12 T0 0 0 = .inl f → 0 ≤ f → StOK M' → M' 1 13 = f → M' 1 11 = -6 → M' 2 1 = 0 → M' 199 6 = M 199 6 + 1 → (∀ a i, ¬ ((a = 1 ∧ (i = 11 ∨ i = 13)) ∨ (a = 2 ∧ i = 1) ∨ (4 ≤ a ∧ a ≤ 7) ∨ (a = 199 ∧ i = 6)) → M' a i = M a i) → Q (some (vI (-6))) S M') : WP PR (D + 1) 91 26 [vA 1] [] S M Q := by
  obtain ⟨D1, rfl⟩ : ∃ D1, D = D1 + 1 := ⟨D - 1, by omega⟩
  obtain ⟨t1, t2, t3⟩ := h.tap
  have hc := h.cnt
  have L := h.lay
  have h225 : 225 ≤ sN S := (L 225 (by decide) (by decide)).1
  refine b_X8_plan_26 L (c_read L (Or.inr ⟨rfl, rfl⟩) (by omega) t1 t2 t3 h.lef.1 (fun T M1 e hT okT tx f1 s1 => ?_) (fun f M1 e hf f1 s1 => ?_))
  · refine b_X8_plan_35 L (fun _ => b_X8_plan_61 L ?_) (fun w => absurd rfl w)
    have m2 : ∀ a i, ¬ ((a = 1 ∧ i = 13) ∨ (a = 2 ∧ i = 1) ∨ (4 ≤ a ∧ a ≤ 7)) → up (up M1 1 13 (-1)) 2 1 0 a i = M a i := fun a i q => (up2_ne (by omega) (by omega)).trans (f1 a i (by omega))
    have tx2 : TextC false S (up (up M1 1 13 (-1)) 2 1 0) 5 T := tx.congr (fun a i q0 q1 => up2_ne (by omega) (by omega))
    have s2 : StOK (up (up M1 1 13 (-1)) 2 1 0) := fun k q0 q1 => by rw [up2_ne (by omega) (by omega)]; exact s1 k q0 q1
    have a13 : up (up M1 1 13 (-1)) 2 1 0 1 13 = -1 := by rw [up_na (by decide), up_s]
    have a21 : up (up M1 1 13 (-1)) 2 1 0 2 1 = 0 := up_s _ _ _ _
    generalize up (up M1 1 13 (-1)) 2 1 0 = M2 at *
    have e86 : M2 8 7 = M 8 7 := m2 _ _ (by omega)
    rw [e86]
    refine c_trim L tx2 h225 (fun S' M3 g1 en eu tx3 f3 => ?_)
    have L' := L.gr g1
    have l20 : sL S' 20 = 4 := ll20 L'
    have e8 : up M3 20 (M 8 7) (sN S + 1) 8 7 = M 8 7 := by rw [up_na (by decide), f3 _ _ (by omega), e86]
    refine b_X8_plan_85 L' (lo20 L') tx3.1 (by rw [e8, l20]; have := hc.2.2.1; omega) ?_
    rw [e8, Int.add_sub_cancel]
    refine b_X8_accept_0 L' (b_X8_plan_112 (kG T S' _ e hT okT g1 en eu (tx3.congr (fun a i q0 q1 => up3_ne (by omega) (by omega) (by omega))) (fun k q0 q1 => ?_) ?_ ?_ (up_s _ _ _ _) ?_ ?_ (fun a i q0 q1 => ?_)))
    · rw [up3_ne (by omega) (by omega) (by omega), f3 _ _ (by omega)]; exact s2 k q0 q1
    · rw [up_na (by decide), up_na (by decide), up_s]
    · rw [up_na (by decide), up_s]
    · rw [up3_ne (by omega) (by omega) (by omega), f3 _ _ (by omega), a13]
    · rw [up3_ne (by omega) (by omega) (by omega), f3 _ _ (by omega), a21]
    · rw [up3_ne (by omega) (by omega) (by omega), f3 _ _ (by omega)]; exact m2 a i (by omega)
  · refine b_X8_plan_35 L (fun w => absurd w (by omega)) (fun _ => b_X8_plan_54 L ?_)
    have m2 : ∀ a i, ¬ ((a = 1 ∧ i = 13) ∨ (a = 2 ∧ i = 1) ∨ (4 ≤ a ∧ a ≤ 7)) → up (up M1 1 13 f) 2 1 0 a i = M a i := fun a i q => (up2_ne (by omega) (by omega)).trans (f1 a i (by omega))
    have s2 : StOK (up (up M1 1 13 f) 2 1 0) := fun k q0 q1 => by rw [up2_ne (by omega) (by omega)]; exact s1 k q0 q1
    have a13 : up (up M1 1 13 f) 2 1 0 1 13 = f := by rw [up_na (by decide), up_s]
    have a21 : up (up M1 1 13 f) 2 1 0 2 1 = 0 := up_s _ _ _ _
    generalize up (up M1 1 13 f) 2 1 0 = M2 at *
    have e199 : M2 199 (- -6) = M 199 6 := m2 199 6 (by omega)
    refine c_refuse L (by decide) (by rw [e199]; exact h.r99 (v := -6) (by decide)) (b_X8_plan_60 (kB f _ e hf (fun k q0 q1 => ?_) ?_ ?_ ?_ ?_ (fun a i q => ?_)))
    · unfold refC; rw [up2_ne (by omega) (by omega)]; exact s2 k q0 q1
    · unfold refC; rw [up2_ne (by omega) (by omega)]; exact a13
    · unfold refC; rw [up_na (by decide), up_s]
    · unfold refC; rw [up2_ne (by omega) (by omega)]; exact a21
    · unfold refC; rw [e199]; exact up_s _ _ _ _
    · unfold refC; rw [up2_ne (by omega) (by omega)]; exact m2 a i (by omega)
/-- the draft is copied into the row -/
theorem s_planCp {d : Nat} {u1 u2 : mV} (L : Lay S) {l n : Int} (hl : 0 ≤ l ∧ l < 4) (h2 : M 202 3 = l) (h21 : M 200 21 = n) (hn : 0 ≤ n ∧ n ≤ 12) (h23 : 0 ≤ M 200 23 ∧ M 200 23 ≤ 400)
    (k : ∀ M', (∀ a i, ¬ ((a = 202 ∧ ((198 + 948 * l ≤ i ∧ i < 198 + 948 * l + 946) ∨ i = 3)) ∨ (a = 200 ∧ i = 1)) → M' a i = M a i) → M' 200 1 = 0 → M' 202 3 = l + 1 → (M' 202 (198 + 948 * l) = n ∧ M' 202 (198 + 948 * l + 1) = M 200 23) → (∀ i, 0 ≤ i → i < 10 * n → M' 202 (198 + 948 * l + 2 + i) = M 223 i) → (∀ i, 0 ≤ i → i < M 200 23 → M' 202 (198 + 948 * l + 146 + 2 * i) = M 211 i ∧ M' 202 (198 + 948 * l + 146 + 2 * i + 1) = M 212 i) → Q (some (vI l)) S M') : WP PR (d + 1) 221 45 [vA 200, u1, u2] [] S M Q := by
  refine b_X9_plan_45 L (by rw [h2]; omega) ?_
  rw [h2, h21]
  have W1 : ∀ M1, (∀ a i, ¬ (a = 202 ∧ (198 + 948 * l ≤ i ∧ i < 198 + 948 * l + 2 + 0)) → M1 a i = M a i) → (M1 202 (198 + 948 * l) = n ∧ M1 202 (198 + 948 * l + 1) = M 200 23) → (∀ j, 0 ≤ j → j < 0 → M1 202 (198 + 948 * l + 2 + j) = M 223 j) → WP PR (d + 1) 221 84 [vA 200, vI (198 + 948 * l), vI 0] [] S M1 Q := by
    refine for_up (W := fun x => ∀ M1, (∀ a i, ¬ (a = 202 ∧ (198 + 948 * l ≤ i ∧ i < 198 + 948 * l + 2 + x)) → M1 a i = M a i) → (M1 202 (198 + 948 * l) = n ∧ M1 202 (198 + 948 * l + 1) = M 200 23) → (∀ j, 0 ≤ j → j < x → M1 202 (198 + 948 * l + 2 + j) = M 223 j) → WP PR (d + 1) 221 84 [vA 200, vI (198 + 948 * l), vI x] [] S M1 Q) (lo := 0) (hi := 10 * n) (by omega) ?_ ?_
    · intro M1 f1 e1 g1
      have n1 : M1 200 21 = n := (f1 _ _ (by omega)).trans h21
      refine b_X9_plan_84 L (by rw [n1]; omega) (fun _ => b_X9_plan_117 ?_) (fun w => absurd w (by rw [n1]; omega))
      have W2 : ∀ M2, (∀ a i, ¬ (a = 202 ∧ ((198 + 948 * l ≤ i ∧ i < 198 + 948 * l + 2 + 10 * n) ∨ (198 + 948 * l + 146 ≤ i ∧ i < 198 + 948 * l + 146 + 2 * 0))) → M2 a i = M a i) → (M2 202 (198 + 948 * l) = n ∧ M2 202 (198 + 948 * l + 1) = M 200 23) → (∀ j, 0 ≤ j → j < 10 * n → M2 202 (198 + 948 * l + 2 + j) = M 223 j) → (∀ i, 0 ≤ i → i < 0 → M2 202 (198 + 948 * l + 146 + 2 * i) = M 211 i ∧ M2 202 (198 + 948 * l + 146 + 2 * i + 1) = M 212 i) → WP PR (d + 1) 221 119 [vA 200, vI (198 + 948 * l), vI 0] [] S M2 Q := by
        refine for_up (W := fun x => ∀ M2, (∀ a i, ¬ (a = 202 ∧ ((198 + 948 * l ≤ i ∧ i < 198 + 948 * l + 2 + 10 * n) ∨ (198 + 948 * l + 146 ≤ i ∧ i < 198 + 948 * l + 146 + 2 * x))) → M2 a i = M a i) → (M2 202 (198 + 948 * l) = n ∧ M2 202 (198 + 948 * l + 1) = M 200 23) → (∀ j, 0 ≤ j → j < 10 * n → M2 202 (198 + 948 * l + 2 + j) = M 223 j) → (∀ i, 0 ≤ i → i < x → M2 202 (198 + 948 * l + 146 + 2 * i) = M 211 i ∧ M2 202 (198 + 948 * l + 146 + 2 * i + 1) = M 212 i) → WP PR (d + 1) 221 119 [vA 200, vI (198 + 948 * l), vI x] [] S M2 Q) (lo := 0) (hi := M 200 23) (by omega) ?_ ?_
        · intro M2 f2 e2 g2 q2
          have n2 : M2 200 23 = M 200 23 := f2 _ _ (by omega)
          have l2 : M2 202 3 = l := (f2 _ _ (by omega)).trans h2
          refine b_X9_plan_119 L (fun _ => b_X9_plan_175 L (by rw [l2]; omega) ?_) (fun w => absurd w (by omega))
          rw [l2, Int.add_sub_cancel]
          refine s_tell L (by omega) (fun w => absurd w (by omega)) (b_X9_plan_197 ?_)
          rw [tellM_p (by omega)]
          refine k _ (fun a i q => ?_) (up_s _ _ _ _) ?_ ?_ (fun i q0 q1 => ?_) (fun i q0 q1 => ?_)
          · rw [up2_ne (by omega) (by omega)]; exact f2 a i (by omega)
          · rw [up_na (by decide), up_s]
          · rw [up2_ne (by omega) (by omega), up2_ne (by omega) (by omega)]; exact e2
          · rw [up2_ne (by omega) (by omega)]; exact g2 i q0 q1
          · rw [up2_ne (by omega) (by omega), up2_ne (by omega) (by omega)]; exact q2 i q0 q1
        · intro x x0 x1 nx M2 f2 e2 g2 q2
          have n2 : M2 200 23 = M 200 23 := f2 _ _ (by omega)
          refine b_X9_plan_119 L (fun w => absurd w (by omega)) (fun _ => b_X9_plan_127 L (by omega) (nx _ (fun a i q => ?_) ?_ (fun j q0 q1 => ?_) (fun j q0 q1 => ?_)))
          · rw [up2_ne (by omega) (by omega)]; exact f2 a i (by omega)
          · rw [up2_ne (by omega) (by omega), up2_ne (by omega) (by omega)]; exact e2
          · rw [up2_ne (by omega) (by omega)]; exact g2 j q0 q1
          · by_cases ej : j = x
            · subst ej
              refine ⟨?_, ?_⟩
              · rw [up_ni (by omega), up_s]; exact f2 _ _ (by omega)
              · rw [up_s]; exact f2 _ _ (by omega)
            · rw [up2_ne (by omega) (by omega), up2_ne (by omega) (by omega)]; exact q2 j q0 (by omega)
      exact W2 M1 (fun a i q => f1 a i (by omega)) e1 g1 (fun i q0 q1 => absurd q1 (by omega))
    · intro x x0 x1 nx M1 f1 e1 g1
      have n1 : M1 200 21 = n := (f1 _ _ (by omega)).trans h21
      refine b_X9_plan_84 L (by rw [n1]; omega) (fun w => absurd w (by rw [n1]; omega)) (fun _ => b_X9_plan_95 L (by omega) (nx _ (fun a i q => ?_) ?_ (fun j q0 q1 => ?_)))
      · rw [up1_ne (by omega)]; exact f1 a i (by omega)
      · rw [up1_ne (by omega), up1_ne (by omega)]; exact e1
      · by_cases ej : j = x
        · subst ej; rw [up_s]; exact f1 _ _ (by omega)
        · rw [up1_ne (by omega)]; exact g1 j q0 (by omega)
  exact W1 _ (fun a i q => up2_ne (by omega) (by omega)) ⟨by rw [up_ni (by omega), up_s], up_s _ _ _ _⟩ (fun j q0 q1 => absurd q1 (by omega))
theorem t_plan {D d : Nat} (hD : 202 ≤ D) : TwoI n (e_X8_plan (D + 1)) (e_X9_plan (d + 11)) := fun S M h hn => by
  have hc := h.cnt
  have L := h.lay
  have nn := h.nn
  have h225 : 225 ≤ sN S := (L 225 (by decide) (by decide)).1
  obtain ⟨t1, t2, t3⟩ := h.tap
  obtain ⟨w1, w2, w3, w4⟩ := h.wrd
  have c2 := hc.2.2.1
  obtain ⟨D1, rfl⟩ : ∃ D1, D = D1 + 1 := ⟨D - 1, by omega⟩
  refine b_X8_plan_0 L (fun q => ?_) (fun q => b_X8_plan_11 L (c_refuse L (by decide) ?_ (b_X8_plan_25 ⟨_, rfl, b_X9_plan_0 L (fun w => absurd ?_ w) (fun _ => b_X9_plan_15 L (s_tell L (by decide) (fun _ => ?_) (b_X9_plan_26 ⟨rfl, ?_⟩)))⟩)))
  · refine c_planC h hn hD q (fun T S' M1 e hT okT gr en eu tx st b20 b86 b11 b13 b21 f1 => ⟨_, rfl, ?_⟩) (fun f M1 e hf st b13 b11 b21 b199 f1 => ⟨_, rfl, ?_⟩)
    · have L' := L.gr gr
      have e2 : M1 202 3 = M 202 3 := f1 _ _ (by omega) (by omega)
      refine b_X9_plan_0 L' (fun _ => ?_) (fun w => absurd w (by omega))
      have f2 : ∀ a i, a ≤ sN S → ¬ ((a = 20 ∧ i = M 8 7) ∨ (a = 8 ∧ i = 7) ∨ (a = 1 ∧ (i = 11 ∨ i = 13)) ∨ (a = 2 ∧ i = 1) ∨ (4 ≤ a ∧ a ≤ 7) ∨ (a = 200 ∧ i = 0)) → up M1 200 0 0 a i = M a i := fun a i q0 q1 => (up1_ne (by omega)).trans (f1 a i q0 (by omega))
      have g2 : ∀ a i, ¬ (a = 200 ∧ i = 0) → up M1 200 0 0 a i = M1 a i := fun a i q1 => up1_ne q1
      generalize up M1 200 0 0 = M2 at *
      have tab : TabM M2 := by
        have b := h.lef.2.1
        exact ⟨fun i q0 q1 => by rw [f2 _ _ (by omega) (by omega), f2 _ _ (by omega) (by omega)]; exact b.1 i q0 q1, fun i q0 q1 => by rw [f2 _ _ (by omega) (by omega)]; exact b.2.1 i q0 q1, fun i q0 q1 => by rw [f2 _ _ (by omega) (by omega)]; exact b.2.2 i q0 q1⟩
      refine b_X9_plan_27 L' (s_readOrders (tp := M 209) (len := M 200 13) L' t1 (fun i _ _ => f2 _ _ (by omega) (by omega)) (f2 _ _ (by omega) (by omega)) tab (fun f w => absurd (e.symm.trans w) (by intro z; cases z)) (fun T' M3 w dr n21 n23 en3 => ?_) (fun f M3 w => absurd (e.symm.trans w) (by intro z; cases z)))
      have eT : T' = T := by have := e.symm.trans w; cases this; rfl
      subst eT
      obtain ⟨x1, x2, x3, x4, x5⟩ := en3
      have z19 : M3 200 19 = 0 := by rcases x1 with x1 | x1; exact x1.2; exact absurd rfl x1.1
      refine b_X9_plan_31 L' (fun _ => ?_) (fun w => absurd z19 w)
      have l3 : M3 202 3 = M 8 7 := by rw [x5 _ _ (by omega), f2 _ _ (by omega) (by omega)]; exact c2.2.2.symm
      refine s_planCp L' (l := M 8 7) (n := tn T') (by omega) l3 n21 hT n23 (fun M4 f4 y1 y2 y3 y4 y5 => ⟨rfl, ?_⟩)
      have F : ∀ a i, a ≤ sN S → ¬ ((a = 20 ∧ i = M 8 7) ∨ (a = 8 ∧ i = 7) ∨ (a = 1 ∧ (i = 11 ∨ i = 13)) ∨ (a = 2 ∧ i = 1) ∨ (4 ≤ a ∧ a ≤ 7) ∨ (a = 200 ∧ (i = 0 ∨ i = 1 ∨ (13 ≤ i ∧ i ≤ 21) ∨ i = 23 ∨ i = 26 ∨ i = 29 ∨ i = 30)) ∨ (210 ≤ a ∧ a ≤ 214) ∨ a = 223 ∨ (a = 202 ∧ ((198 + 948 * M 8 7 ≤ i ∧ i < 198 + 948 * M 8 7 + 946) ∨ i = 3))) → M4 a i = M a i := fun a i q0 q1 => by
        rw [f4 a i (by omega), x5 a i (by omega), f2 a i q0 (by omega)]
      have K : ∀ a i, ¬ (a = 200 ∨ (210 ≤ a ∧ a ≤ 214) ∨ a = 223 ∨ a = 202) → M4 a i = M1 a i := fun a i q => by
        rw [f4 a i (by omega), x5 a i (by omega), g2 a i (by omega)]
      have z20 : M4 200 20 = M 200 20 := by rw [f4 _ _ (by omega), x3]; exact h.lef.2.2.1.symm
      have z13 : M4 200 13 = 0 := by rw [f4 _ _ (by omega), x4]
      have z18 : M4 200 18 = -1 := by rw [f4 _ _ (by omega), x2]
      have hb1 : sN S + 1 ≠ 202 := by omega
      have lm : PlanM (M4 202) (198 + 948 * M 8 7) T' := ⟨okT.to hT, y3.1, by rw [y3.2]; exact n23, M3, dr, y3.2.symm, y4, fun i q0 q1 => y5 i q0 (by rw [y3.2] at q1; exact q1)⟩
      obtain ⟨s1, s2, s3, s4, s5, s6⟩ := h.sta
      refine h.all (m := n + 1) (by omega) gr (fun a i q => ?_) ⟨?_, ?_, ?_, ?_, ?_, ?_⟩ ?_ ⟨?_, ?_, ?_⟩ ⟨?_, ?_, ?_, ?_⟩ (h.rf.cg (by omega) (fun i => F _ _ (by omega) (by omega)) (fun i => F _ _ (by omega) (by omega))) (fun k q0 q1 => by rw [K _ _ (by omega)]; exact st k q0 q1) (h.lb.cg (fun i q => F _ _ (by omega) (by omega))) ⟨?_, ?_⟩
      · by_cases e20 : a = 200 ∧ i = 20
        · rw [e20.1, e20.2]; exact z20
        · exact F a i (by omega) (by omega)
      · exact ⟨s1.1.gc (fun i q => F _ _ (by omega) (by omega)), by rw [F 202 5 (by omega) (by omega)]; exact s1.2⟩
      · exact (s2.congr (fun a i q0 q1 => F a i (by omega) (by omega))).gc (fun i q => F _ _ (by omega) (by omega))
      · unfold CntR
        rw [F 8 6 (by omega) (by omega), F 8 8 (by omega) (by omega), F 8 9 (by omega) (by omega), K 8 7 (by omega), b86, F 202 1 (by omega) (by omega), F 202 2 (by omega) (by omega), F 202 4 (by omega) (by omega), y2]
        have := hc.2.2.2
        exact ⟨hc.1, hc.2.1, by omega, this.1, this.2.1, this.2.2⟩
      · exact s4.cg gr hc.2.1.2.1 (F _ _ (by omega) (by omega)) (fun i q0 q1 => F _ _ (by omega) (by omega)) (fun i _ _ => F _ _ (by omega) (by omega)) (fun a i _ _ => F _ _ (by omega) (by omega))
      · refine ⟨fun i q0 q1 => ?_, fun i q0 q1 => ?_⟩
        · show isO S' (M4 20 i) 6
          by_cases ei : i = M 8 7
          · subst ei; rw [K _ _ (by omega), b20]; exact tx.1.o
          · rw [F _ _ (by omega) (by omega)]; exact (s5.1 i q0 q1).gr gr
        · show 225 < M4 20 i ∧ M4 20 i + 2 ≤ sN S' ∧ ∃ T, PlanM (M4 202) (198 + 948 * i) T ∧ TextC false S' M4 (M4 20 i) T
          rw [y2] at q1
          by_cases ei : i = M 8 7
          · subst ei; rw [K 20 _ (by omega), b20]
            exact ⟨by omega, by omega, T', lm, tx.congr (fun a i p0 p1 => K a i (by omega))⟩
          · rw [F 20 _ (by omega) (by omega)]
            obtain ⟨v1, v2, T, v3, v4⟩ := s5.2 i q0 (by omega)
            have v1 : 225 < M 20 i := v1
            have v2 : M 20 i + 2 ≤ sN S := v2
            exact ⟨v1, by omega, T, v3.congr (fun j p0 p1 => F _ _ (by omega) (by omega)), (v4.gr gr).congr (fun a j p0 p1 => F a j (by omega) (by omega))⟩
      · exact s6.cg hc.1.2.1 (F _ _ (by omega) (by omega)) (fun i q0 q1 => F _ _ (by omega) (by omega)) (fun i _ _ => ⟨F _ _ (by omega) (by omega), F _ _ (by omega) (by omega)⟩)
      · obtain ⟨hh, hi⟩ := h.his
        exact ⟨hh, hi.cg (F _ _ (by omega) (by omega)) (fun i _ _ => F _ _ (by omega) (by omega)) (fun i => F _ _ (by omega) (by omega)) (fun a i _ _ => F _ _ (by omega) (by omega)) (fun i _ => F _ _ (by omega) (by omega))⟩
      · rw [z13]; exact ⟨by decide, fun i q0 q1 => absurd q1 (by omega)⟩
      · intro i q0 q1; rw [z13] at q1; exact absurd q1 (by omega)
      · rw [z13, K _ _ (by omega), b21]
      · rw [K _ _ (by omega), b11, y1]
      · rw [F 1 12 (by omega) (by omega), F 200 11 (by omega) (by omega)]; exact w2
      · rw [K _ _ (by omega), b13, z18]
      · rw [F 1 14 (by omega) (by omega), F 200 48 (by omega) (by omega)]; exact w4
      · have := h.sz.1; omega
      · have := h.sz.2; omega
    · have e2 : M1 202 3 = M 202 3 := f1 _ _ (by omega)
      refine b_X9_plan_0 L (fun _ => ?_) (fun w => absurd w (by omega))
      have f2 : ∀ a i, ¬ ((a = 1 ∧ (i = 11 ∨ i = 13)) ∨ (a = 2 ∧ i = 1) ∨ (4 ≤ a ∧ a ≤ 7) ∨ (a = 199 ∧ i = 6) ∨ (a = 200 ∧ i = 0)) → up M1 200 0 0 a i = M a i := fun a i q => (up1_ne (by omega)).trans (f1 a i (by omega))
      have g2 : ∀ a i, ¬ (a = 200 ∧ i = 0) → up M1 200 0 0 a i = M1 a i := fun a i q1 => up1_ne q1
      generalize up M1 200 0 0 = M2 at *
      have tab : TabM M2 := by
        have b := h.lef.2.1
        exact ⟨fun i q0 q1 => by rw [f2 _ _ (by omega), f2 _ _ (by omega)]; exact b.1 i q0 q1, fun i q0 q1 => by rw [f2 _ _ (by omega)]; exact b.2.1 i q0 q1, fun i q0 q1 => by rw [f2 _ _ (by omega)]; exact b.2.2 i q0 q1⟩
      refine b_X9_plan_27 L (s_readOrders (tp := M 209) (len := M 200 13) L t1 (fun i _ _ => f2 _ _ (by omega)) (f2 _ _ (by omega)) tab (fun f' w => by have := e.symm.trans w; cases this; exact hf) (fun T' M3 w => absurd (e.symm.trans w) (by intro z; cases z)) (fun f' M3 w _ en3 => ?_))
      have eF : f' = f := by have := e.symm.trans w; cases this; rfl
      subst eF
      obtain ⟨x1, x2, x3, x4, x5⟩ := en3
      have z19 : M3 200 19 = 1 := by rcases x1 with x1 | x1; exact absurd x1.1 (by omega); exact x1.2
      have e201 : M3 201 (- -6) = M 201 6 := by rw [x5 _ _ (by omega)]; exact f2 201 6 (by omega)
      refine b_X9_plan_31 L (fun w => absurd w (by omega)) (fun _ => b_X9_plan_38 L (s_tell L (by decide) (fun _ => by rw [e201]; exact h.r01 (v := -6) (by decide)) (b_X9_plan_44 ⟨rfl, ?_⟩)))
      rw [tellM_n (by decide)]
      have G : ∀ a i, ¬ ((a = 200 ∧ (i = 0 ∨ i = 1 ∨ (13 ≤ i ∧ i ≤ 21) ∨ i = 23 ∨ i = 26 ∨ i = 29 ∨ i = 30)) ∨ (210 ≤ a ∧ a ≤ 214) ∨ a = 223 ∨ (a = 201 ∧ i = 6)) → up (up M3 200 1 (-6)) 201 (- -6) (M3 201 (- -6) + 1) a i = M1 a i := fun a i q => by
        rw [up2_ne (by omega) (by omega), x5 a i (by omega), g2 a i (by omega)]
      have z20 : up (up M3 200 1 (-6)) 201 (- -6) (M3 201 (- -6) + 1) 200 20 = M 200 20 := by rw [up2_ne (by omega) (by omega), x3]; exact h.lef.2.2.1.symm
      have z13 : up (up M3 200 1 (-6)) 201 (- -6) (M3 201 (- -6) + 1) 200 13 = 0 := by rw [up2_ne (by omega) (by omega), x4]
      have z18 : up (up M3 200 1 (-6)) 201 (- -6) (M3 201 (- -6) + 1) 200 18 = f' := by rw [up2_ne (by omega) (by omega), x2]
      have z1 : up (up M3 200 1 (-6)) 201 (- -6) (M3 201 (- -6) + 1) 200 1 = -6 := by rw [up_na (by decide), up_s]
      have z6 : up (up M3 200 1 (-6)) 201 (- -6) (M3 201 (- -6) + 1) 201 (- -6) = M 201 6 + 1 := by rw [up_s, e201]
      generalize up (up M3 200 1 (-6)) 201 (- -6) (M3 201 (- -6) + 1) = M4 at *
      refine h.rft hn (v := -6) (by decide) (fun a i q => ?_) (by rw [G _ _ (by omega)]; exact b11) z1 ((G 199 6 (by omega)).trans b199) z6 (by rw [G _ _ (by omega)]; exact b21) z13 (by rw [z18, G _ _ (by omega)]; exact b13) ?_ (fun k q0 q1 => by rw [G _ _ (by omega)]; exact st k q0 q1)
      · by_cases e20 : a = 200 ∧ i = 20
        · rw [e20.1, e20.2]; exact z20
        · rw [G a i (by omega)]; exact f1 a i (by omega)
      · rw [G 1 14 (by omega), G 200 48 (by omega), f1 1 14 (by omega), f1 200 48 (by omega)]; exact w4
  · rw [up1_ne (by omega)]; exact h.r99 (by decide)
  · unfold refC; rw [up3_ne (by omega) (by omega) (by omega)]; omega
  · unfold refC
    rw [up2_ne (by omega) (by omega), up3_ne (by omega) (by omega) (by omega)]
    exact h.r01 (v := -5) (by decide)
  · rw [tellM_n (by decide)]
    unfold refC
    have G : ∀ a i, ¬ ((a = 2 ∧ i = 1) ∨ (a = 1 ∧ i = 11) ∨ (a = 199 ∧ i = 5) ∨ (a = 200 ∧ (i = 0 ∨ i = 13 ∨ i = 1)) ∨ (a = 201 ∧ i = 5)) → up (up (up (up (up (up (up M 2 1 0) 1 11 (-5)) 199 (- -5) (up M 2 1 0 199 (- -5) + 1)) 200 0 0) 200 13 0) 200 1 (-5)) 201 (- -5) (up (up (up (up (up M 2 1 0) 1 11 (-5)) 199 (- -5) (up M 2 1 0 199 (- -5) + 1)) 200 0 0) 200 13 0 201 (- -5) + 1) a i = M a i := fun a i q => by
      rw [up3_ne (by omega) (by omega) (by omega), up3_ne (by omega) (by omega) (by omega), up1_ne (by omega)]
    refine h.rft hn (v := -5) (by decide) (fun a i q => G a i (by omega)) ?_ ?_ ?_ ?_ ?_ ?_ ?_ ?_ (fun k q0 q1 => by rw [G _ _ (by omega)]; exact h.lef.1 k q0 q1)
    · rw [up3_ne (by omega) (by omega) (by omega), up2_ne (by omega) (by omega), up_s]
    · rw [up_na (by decide), up_s]
    · rw [up3_ne (by omega) (by omega) (by omega), up_na (by decide), up_s, up_na (by decide)]
    · rw [up_s, up2_ne (by omega) (by omega), up3_ne (by omega) (by omega) (by omega)]
    · rw [up3_ne (by omega) (by omega) (by omega), up3_ne (by omega) (by omega) (by omega), up_s]
    · rw [up2_ne (by omega) (by omega), up_s]
    · rw [G _ _ (by omega), G _ _ (by omega)]; exact w3
    · rw [G _ _ (by omega), G _ _ (by omega)]; exact w4
end TP
