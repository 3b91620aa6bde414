/-! Orders, both sides. -/
section TO
variable {n : Int} {d : Nat} {S : mSh} {M M0 M' : mMem} {Q : Option mV → mSh → mMem → Prop} {TL T : TX}
theorem c_lawFV (h : CP n S M0) (f : ∀ a i, ((8 ≤ a ∧ a ≤ 22) ∨ a = 202 ∨ (225 < a ∧ a ≤ sN S)) → M a i = M0 a i) (hL : LwOf S M0 (M0 202 4) (lwA M0) TL) (k : LwOf S M (M0 202 4) (lwA M0) TL → Q (some (vA (lwA M0))) S M) : e_X3_lawInForce (d + 2) 8 S M Q := by
  have hc := h.cnt
  have sa := lSta8 h.lay
  have k := k (hL.mv (fun a i q => f a i (by omega)))
  have e9 : M 8 9 = M0 202 4 := (f _ _ (by omega)).trans hc.2.2.2.1
  have e6 : M 8 6 = M0 202 2 := (f _ _ (by omega)).trans hc.2.1.2.2
  refine b_X3_lawInForce_0 sa ?_
  rw [e9]
  unfold lwA at k
  refine b_X3_lawOf_0 sa (c_hasLaw sa (fun q => b_X3_lawOf_5 (fun w => absurd w (by decide)) (fun _ => b_X3_lawOf_8 (q1 := M 19 (M0 202 4)) rfl sa (by have := hc.2.1; omega) (b_X3_lawInForce_8 ?_))) (fun q => b_X3_lawOf_5 (fun _ => b_X3_lawOf_17 sa (b_X3_lawInForce_8 ?_)) (fun w => absurd rfl w)))
  · rw [if_pos q.1, ← f 19 _ (by omega)] at k; exact k
  · have := hc.2.1
    have := hc.2.2.2.2
    rw [if_neg (by omega)] at k; exact k
theorem c_paperV (h : CP n S M0) (f : ∀ a i, ((8 ≤ a ∧ a ≤ 22) ∨ a = 202 ∨ (225 < a ∧ a ≤ sN S)) → M a i = M0 a i) (hL : LwOf S M0 (M0 202 4) (lwA M0) TL) (k : ∀ M1, Wk S M1 177 (lwA M0) (M0 202) TL → M1 191 4 = 0 → M1 191 5 = 19000 → M1 191 6 = 0 → M1 196 4 = 0 → M1 196 5 = -1 → (∀ a i, ¬ (a = 191 ∨ a = 196 ∨ (177 ≤ a ∧ a ≤ 183)) → M1 a i = M a i) → Q none S M1) : e_X8_startPaper (d + 3) S M Q := by
  have L := h.lay
  have hs := lStk177 L
  refine b_X8_startPaper_0 L (c_copyFrom hs (lStk9 L) (by decide) (h.r.congr (fun a i q0 q1 => f a i (by omega))) (fun M1 r1 f1 => b_X8_startPaper_14 L ?_))
  refine c_lawFV h (fun a i q => (f1 a i (by omega)).trans (f a i q)) hL (fun hL1 => ?_)
  exact b_X8_startPaper_29 L (c_begin L hs r1 h.ok hL1 (Or.inr (Or.inl rfl)) (fun M2 wk a4 a5 a6 a7 a8 f2 => b_X8_startPaper_32 (k M2 wk a4 a5 a6 a7 a8 (fun a i q => by rw [f2 a i (by omega) (by omega), f1 a i (by omega)]))))
def HE (g : Int → Int) (h : HI) : Prop := ∀ e ∈ h, okS e.2 ∧ e.2 5 ≤ 999 ∧ (0 ≤ e.1 ∧ e.1 ≤ 3) ∧ ∀ i, i = 0 ∨ (170 ≤ i ∧ i < 186) → e.2 i = g i
theorem HE.push {g g' : Int → Int} {h : HI} {k : Int} (hh : HE g h) (ok : okS g') (y : g' 5 ≤ 999) (hk : 0 ≤ k ∧ k ≤ 3) (fx : Fix g g') : HE g (pushH k g' h) := fun e he => by
  have := List.mem_of_mem_take he
  rcases List.mem_cons.mp this with x | x
  · subst x; exact ⟨ok, y, hk, fun i q => fx i (by omega)⟩
  · exact hh e x
theorem HE.rp {g : Int → Int} {i : Int} (hk : 0 ≤ tk T i ∧ tk T i ≤ 3) : ∀ (n : Nat) {σ : ST} {h : HI}, okST σ → dnS σ + n ≤ 1000 → ylS σ + 999 * n ≤ 1400000000 → gS σ 5 ≤ 999 → Fix g (gS σ) → HE g h → HE g (rpH TL T i n σ h) := by
  intro n
  induction n with
  | zero => intro σ h _ _ _ _ _ hh; exact hh
  | succ n ih =>
    intro σ h ok hd hy h9 fx hh
    rw [rpH]
    by_cases hz : stC TL T i σ = 0
    · rw [if_pos hz]
      have b := st_beh ok hz (by omega) (by omega)
      exact ih b.1 (by have := b.2.1; omega) (by have := b.2.2.1; omega) (st_999 ok hz hk h9) (fx.tr b.2.2.2) (hh.push ok.1 h9 hk fx)
    · rw [if_neg hz]; exact hh
theorem HE.or (hT : okTO T) {σ : ST} (ok : okST σ) (hd : dnS σ ≤ 0) (hy : ylS σ ≤ 1300000000) (h9 : gS σ 5 ≤ 999) {h : HI} (hh : HE (gS σ) h) : ∀ (k : Nat), (k : Int) ≤ tn T → HE (gS σ) (orH TL T k σ h) := by
  intro k
  induction k with
  | zero => intro _; exact hh
  | succ k ih =>
    intro hk
    have pb := or_beh (TL := TL) hT ok hd hy k (by omega)
    have p9 := or_999 (TL := TL) hT ok hd hy h9 k (by omega)
    have n12 := hT.1.2.1
    have o := hT.2 k (by omega) (by omega)
    rw [orH]
    by_cases h1 : (orN TL T k σ).1 = -1
    · rw [if_pos h1]
      exact HE.rp o.1 _ pb.1.1 (by have := pb.1.2.1; have := o.2.1; omega) (by have := pb.1.2.2.1; have := o.2.1; omega) p9 pb.1.2.2.2 (ih (by omega))
    · rw [if_neg h1]; exact ih (by omega)
/-- the class's orders -/
theorem c_ordC {D : Nat} (h : CP n S M) (hD : 202 ≤ D) {hh : HI} (hi : HisR M hh)
    (kB : ∀ f M', txR (M 209) (M 200 13) false 12 T0 0 0 = .inl f → 0 ≤ f → StOK M' → M' 1 13 = f → M' 1 11 = -6 → M' 1 14 = -1 → M' 2 1 = 0 → M' 199 6 = M 199 6 + 1 → (∀ a i, ¬ ((a = 1 ∧ (i = 11 ∨ i = 13 ∨ i = 14)) ∨ (a = 2 ∧ i = 1) ∨ (4 ≤ a ∧ a ≤ 7) ∨ (a = 199 ∧ i = 6)) → M' a i = M a i) → Q (some (vI (-6))) S M')
    (kS : ∀ T TL M', txR (M 209) (M 200 13) false 12 T0 0 0 = .inr T → okTO T → ForM (M 202) TL → ¬ (orN TL T (tn T).toNat (y0 (sg0 (M 202)))).1 = -1 → StOK M' → M' 1 13 = -1 → M' 1 11 = -3 → M' 1 14 = (orN TL T (tn T).toNat (y0 (sg0 (M 202)))).1 → M' 2 1 = 0 → M' 199 3 = M 199 3 + 1 → (∀ a i, ¬ ((a = 1 ∧ (i = 11 ∨ i = 13 ∨ i = 14)) ∨ (a = 2 ∧ i = 1) ∨ (4 ≤ a ∧ a ≤ 7) ∨ (177 ≤ a ∧ a ≤ 183) ∨ a = 191 ∨ (195 ≤ a ∧ a ≤ 197) ∨ (a = 199 ∧ i = 3)) → M' a i = M a i) → Q (some (vI (-3))) S M')
    (kG : ∀ T TL M', txR (M 209) (M 200 13) false 12 T0 0 0 = .inr T → okTO T → ForM (M 202) TL → (orN TL T (tn T).toNat (y0 (sg0 (M 202)))).1 = -1 → StOK M' → M' 1 13 = -1 → M' 1 11 = 0 → M' 1 14 = -1 → M' 2 1 = 0 → StkR (gS (orN TL T (tn T).toNat (y0 (sg0 (M 202)))).2) 9 M' → HistC (orH TL T (tn T).toNat (y0 (sg0 (M 202))) hh) M' → (∀ a i, ¬ ((a = 1 ∧ (i = 11 ∨ i = 13 ∨ i = 14)) ∨ (a = 2 ∧ i = 1) ∨ (4 ≤ a ∧ a ≤ 7) ∨ (9 ≤ a ∧ a ≤ 15) ∨ (55 ≤ a ∧ a ≤ 183) ∨ a = 191 ∨ (195 ≤ a ∧ a ≤ 197)) → M' a i = M a i) → Q (some (vI (dnS (orN TL T (tn T).toNat (y0 (sg0 (M 202)))).2))) S M') : e_X8_orders (D + 1) S M Q := by
  obtain ⟨D1, rfl⟩ : ∃ D1, D = D1 + 6 := ⟨D - 6, by omega⟩
  obtain ⟨t1, t2, t3⟩ := h.tap
  have hc := h.cnt
  have L := h.lay
  have f0 : ∀ a i, ¬ (a = 1 ∧ i = 14) → up M 1 14 (-1) a i = M a i := fun a i q => up1_ne q
  refine b_X8_orders_0 L (c_read (tp := M 209) (len := M 200 13) (laws := false) L (Or.inr ⟨rfl, rfl⟩) (D1 := D1 + 5) (by omega) t1 (fun i q0 q1 => (f0 _ _ (by omega)).trans (t2 i q0 q1)) ((f0 _ _ (by omega)).trans t3) (fun k q0 q1 => by rw [f0 _ _ (by omega)]; exact h.lef.1 k q0 q1) (fun T M1 e hT okT tx f1 s1 => ?_) (fun f M1 e hf f1 s1 => ?_))
  · refine b_X8_orders_14 L (fun _ => b_X8_orders_40 L ?_) (fun w => absurd rfl w)
    have ho := okT.to hT
    have m2 : ∀ a i, ¬ ((a = 1 ∧ (i = 13 ∨ i = 14)) ∨ (a = 2 ∧ i = 1) ∨ (4 ≤ a ∧ a ≤ 7)) → up (up M1 1 13 (-1)) 2 1 0 a i = M a i := fun a i q => (up2_ne (by omega) (by omega)).trans ((f1 a i (by omega)).trans (f0 a i (by omega)))
    have tx2 : TextC false S (up (up M1 1 13 (-1)) 2 1 0) 5 T := tx.congr (fun a i q0 q1 => up2_ne (by omega) (by omega))
    have s2 : StOK (up (up M1 1 13 (-1)) 2 1 0) := fun k q0 q1 => by rw [up2_ne (by omega) (by omega)]; exact s1 k q0 q1
    have a13 : up (up M1 1 13 (-1)) 2 1 0 1 13 = -1 := by rw [up_na (by decide), up_s]
    have a21 : up (up M1 1 13 (-1)) 2 1 0 2 1 = 0 := up_s _ _ _ _
    generalize up (up M1 1 13 (-1)) 2 1 0 = M2 at *
    obtain ⟨TL, hL⟩ := h.law hc.2.2.2.2
    have hL : LwOf S M (M 202 4) (lwA M) TL := hL
    have fm : ForM (M 202) TL := hL.fm rfl
    have hlw : lwA M = 16 ∨ 225 < lwA M := by have := hL.2.2.1; omega
    refine c_paperV h (fun a i q => m2 a i (by omega)) hL (fun M3 wk c4 c5 c6 c7 c8 f3 => b_X8_orders_44 L ?_)
    have ws : WS S M3 177 (lwA M) 5 TL T (sg0 (M 202)) := ⟨wk, tx2.congr (fun a i q0 q1 => f3 a i (by omega)), ho, by omega, by omega, c7, c8, c4, c5, sg0_ok h.ok⟩
    refine c_runOrdersP (M0 := M3) L ho ws ⟨rfl, by decide, fun _ _ _ _ => rfl⟩ (by show (0 : Int) ≤ _; decide) (fun M4 w4 p4 f4 => ?_)
    have m4 : ∀ a i, ¬ ((177 ≤ a ∧ a ≤ 183) ∨ a = 191 ∨ (195 ≤ a ∧ a ≤ 197)) → M4 a i = M2 a i := fun a i q => by
      by_cases q5 : 55 ≤ a ∧ a ≤ 176
      · rw [p4.2.2 a i q5.1 q5.2, f3 a i (by omega)]
      · rw [f4 a i (by omega), f3 a i (by omega)]
    generalize hor : orN TL T (tn T).toNat (y0 (sg0 (M 202))) = oR at *
    refine b_X8_orders_60 L (fun w => b_X8_orders_78 L ?_) (fun w => b_X8_orders_71 L ?_)
    · have m5 : ∀ a i, ¬ ((a = 1 ∧ i = 14) ∨ (177 ≤ a ∧ a ≤ 183) ∨ a = 191 ∨ (195 ≤ a ∧ a ≤ 197)) → up M4 1 14 oR.1 a i = M2 a i := fun a i q => (up1_ne (by omega)).trans (m4 a i (by omega))
      have a14 : up M4 1 14 oR.1 1 14 = -1 := by rw [up_s]; exact w
      generalize up M4 1 14 oR.1 = M5 at *
      refine c_lawFV h (fun a i q => (m5 a i (by omega)).trans (m2 a i (by omega))) hL (fun hL5 => b_X8_orders_96 L ?_)
      refine c_begin L (lStk9 L) (h.r.congr (fun a i q0 q1 => (m5 a i (by omega)).trans (m2 a i (by omega)))) h.ok hL5 (Or.inl rfl) (fun M6 wk6 e4 e5 e6 e7 e8 f6 => b_X8_orders_99 L ?_)
      have m6 : ∀ a i, ¬ ((a = 1 ∧ i = 14) ∨ (177 ≤ a ∧ a ≤ 183) ∨ a = 191 ∨ (195 ≤ a ∧ a ≤ 197)) → M6 a i = M2 a i := fun a i q => (f6 a i (by omega) (by omega)).trans (m5 a i (by omega))
      have ws6 : WS S M6 9 (lwA M) 5 TL T (sg0 (M 202)) := ⟨wk6, tx2.congr (fun a i q0 q1 => m6 a i (by omega)), ho, by omega, by omega, e7, e8, e4, e5, sg0_ok h.ok⟩
      have hc6 : HistC hh M6 := hi.2.1.congr (fun a i q0 q1 => (m6 a i (by omega)).trans (m2 a i (by omega)))
      refine c_runOrders L ho ws6 (h := hh) (hst := 55) (Or.inr ⟨rfl, by decide, by omega, by decide, hc6⟩) (by show (0 : Int) ≤ _; decide) (fun M7 w7 p7 f7 => b_X8_orders_117 L (b_X8_accept_0 L (b_X8_orders_132 ?_)))
      rw [hor] at w7
      have m7 : ∀ a i, ¬ ((a = 1 ∧ i = 14) ∨ (9 ≤ a ∧ a ≤ 15) ∨ (55 ≤ a ∧ a ≤ 183) ∨ a = 191 ∨ (195 ≤ a ∧ a ≤ 197)) → M7 a i = M2 a i := fun a i q => (f7 a i (by omega)).trans (m6 a i (by omega))
      have hc7 : HistC (orH TL T (tn T).toNat (y0 (sg0 (M 202))) hh) M7 := by
        rcases p7 with q | q
        · exact absurd q (by decide)
        · exact q.2.2.2.2
      have b14 : M7 1 14 = -1 := by rw [f7 _ _ (by omega), f6 _ _ (by decide) (by decide)]; exact a14
      rw [w7.dn]
      have := kG T TL (up M7 1 11 0) e ho fm (by rw [hor]; exact w) (fun k q0 q1 => by rw [up1_ne (by omega), m7 _ _ (by omega)]; exact s2 k q0 q1) (by rw [up1_ne (by omega), m7 _ _ (by omega)]; exact a13) (up_s _ _ _ _) (by rw [up1_ne (by omega)]; exact b14) (by rw [up1_ne (by omega), m7 _ _ (by omega)]; exact a21) (by rw [hor]; exact w7.k.r.congr (fun a i q0 q1 => up1_ne (by omega))) (hc7.congr (fun a i q0 q1 => up1_ne (by omega))) (fun a i q => by rw [up1_ne (by omega), m7 a i (by omega)]; exact m2 a i (by omega))
      rw [hor] at this; exact this
    · have m5 : ∀ a i, ¬ ((a = 1 ∧ i = 14) ∨ (177 ≤ a ∧ a ≤ 183) ∨ a = 191 ∨ (195 ≤ a ∧ a ≤ 197)) → up M4 1 14 oR.1 a i = M2 a i := fun a i q => (up1_ne (by omega)).trans (m4 a i (by omega))
      have a14 : up M4 1 14 oR.1 1 14 = oR.1 := up_s _ _ _ _
      generalize up M4 1 14 oR.1 = M5 at *
      have e199 : M5 199 (- -3) = M 199 3 := (m5 199 3 (by omega)).trans (m2 199 3 (by omega))
      refine c_refuse L (by decide) (by rw [e199]; exact h.r99 (v := -3) (by decide)) (b_X8_orders_77 (kS T TL _ e ho fm (by rw [hor]; exact w) (fun k q0 q1 => ?_) ?_ ?_ ?_ ?_ ?_ (fun a i q => ?_)))
      · unfold refC; rw [up2_ne (by omega) (by omega), m5 _ _ (by omega)]; exact s2 k q0 q1
      · unfold refC; rw [up2_ne (by omega) (by omega), m5 _ _ (by omega)]; exact a13
      · unfold refC; rw [up_na (by decide), up_s]
      · unfold refC; rw [up2_ne (by omega) (by omega), hor]; exact a14
      · unfold refC; rw [up2_ne (by omega) (by omega), m5 _ _ (by omega)]; exact a21
      · unfold refC; rw [e199]; exact up_s _ _ _ _
      · unfold refC; rw [up2_ne (by omega) (by omega), m5 a i (by omega)]; exact m2 a i (by omega)
  · refine b_X8_orders_14 L (fun w => absurd w (by omega)) (fun _ => b_X8_orders_33 L ?_)
    have m2 : ∀ a i, ¬ ((a = 1 ∧ (i = 13 ∨ i = 14)) ∨ (a = 2 ∧ i = 1) ∨ (4 ≤ a ∧ a ≤ 7)) → up (up M1 1 13 f) 2 1 0 a i = M a i := fun a i q => (up2_ne (by omega) (by omega)).trans ((f1 a i (by omega)).trans (f0 a i (by omega)))
    have s2 : StOK (up (up M1 1 13 f) 2 1 0) := fun k q0 q1 => by rw [up2_ne (by omega) (by omega)]; exact s1 k q0 q1
    have a13 : up (up M1 1 13 f) 2 1 0 1 13 = f := by rw [up_na (by decide), up_s]
    have a14 : up (up M1 1 13 f) 2 1 0 1 14 = -1 := by rw [up2_ne (by omega) (by omega), f1 _ _ (by omega), up_s]
    have a21 : up (up M1 1 13 f) 2 1 0 2 1 = 0 := up_s _ _ _ _
    generalize up (up M1 1 13 f) 2 1 0 = M2 at *
    have e199 : M2 199 (- -6) = M 199 6 := m2 199 6 (by omega)
    refine c_refuse L (by decide) (by rw [e199]; exact h.r99 (v := -6) (by decide)) (b_X8_orders_39 (kB f _ e hf (fun k q0 q1 => ?_) ?_ ?_ ?_ ?_ ?_ (fun a i q => ?_)))
    · unfold refC; rw [up2_ne (by omega) (by omega)]; exact s2 k q0 q1
    · unfold refC; rw [up2_ne (by omega) (by omega)]; exact a13
    · unfold refC; rw [up_na (by decide), up_s]
    · unfold refC; rw [up2_ne (by omega) (by omega)]; exact a14
    · unfold refC; rw [up2_ne (by omega) (by omega)]; exact a21
    · unfold refC; rw [e199]; exact up_s _ _ _ _
    · unfold refC; rw [up2_ne (by omega) (by omega)]; exact m2 a i (by omega)
end TO
