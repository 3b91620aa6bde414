/-! Orders, both sides: the reference goes along. -/
section TQ
variable {n : Int} {d : Nat} {S : mSh} {M M1 : mMem} {Q : Option mV → mSh → mMem → Prop} {TL T : TX}
/-- the reference's orders are read: they are the class's -/
theorem s_ordG (h : CP n S M) (e : txR (M 209) (M 200 13) false 12 T0 0 0 = .inr T) (ho : okTO T) (fm : ForM (M 202) TL) {hh : HI} (hi : HisR M hh) (f1 : ∀ a i, (200 ≤ a ∧ a ≤ 225) → M1 a i = M a i)
    (k1 : ∀ M' x1 u3 (τ : ST), (orN TL T (tn T).toNat (y0 (sg0 (M 202)))).1 = -1 → eqv (orN TL T (tn T).toNat (y0 (sg0 (M 202)))).2 τ → okST τ → ylS τ ≤ M 200 42 + 239760 → MS M' TL T τ → HistM (orH TL T (tn T).toNat (y0 (sg0 (M 202))) hh) M' → M' 200 18 = -1 → M' 200 13 = 0 → M' 200 48 = -1 → (∀ a i, ¬ (a = 202 ∨ (205 ≤ a ∧ a ≤ 208) ∨ (210 ≤ a ∧ a ≤ 214) ∨ (218 ≤ a ∧ a ≤ 221) ∨ a = 223 ∨ (a = 200 ∧ (i = 0 ∨ i = 8 ∨ (13 ≤ i ∧ i ≤ 19) ∨ (21 ≤ i ∧ i ≤ 49)))) → M' a i = M1 a i) → WP PR (d + 13) 229 132 [vA 200, vI x1, vI (tn T), u3] [] S M' Q)
    (k0 : ∀ M' x1 x3 (τ : ST), ¬ (orN TL T (tn T).toNat (y0 (sg0 (M 202)))).1 = -1 → gS τ = M 202 → okST τ → ylS τ ≤ M 200 42 + 239760 → MS M' TL T τ → HistM hh M' → M' 200 18 = -1 → M' 200 13 = 0 → M' 200 48 = -1 → (∀ a i, ¬ (a = 202 ∨ (205 ≤ a ∧ a ≤ 208) ∨ (210 ≤ a ∧ a ≤ 214) ∨ (218 ≤ a ∧ a ≤ 221) ∨ a = 223 ∨ (a = 200 ∧ (i = 0 ∨ i = 8 ∨ (13 ≤ i ∧ i ≤ 19) ∨ (21 ≤ i ∧ i ≤ 49)))) → M' a i = M1 a i) → WP PR (d + 13) 229 108 [vA 200, vI x1, vI (orN TL T (tn T).toNat (y0 (sg0 (M 202)))).1, vI x3] [] S M' Q) : e_X9_orders (d + 13) S M1 Q := by
  have L := h.lay
  have nn := h.nn
  obtain ⟨t1, t2, t3⟩ := h.tap
  have lf := h.lef
  refine b_X9_orders_0 L ?_
  have f2 : ∀ a i, ¬ (a = 200 ∧ (i = 0 ∨ i = 48)) → up (up M1 200 0 0) 200 48 (-1) a i = M1 a i := fun a i q => up2_ne (by omega) (by omega)
  have e48 : up (up M1 200 0 0) 200 48 (-1) 200 48 = -1 := up_s _ _ _ _
  generalize up (up M1 200 0 0) 200 48 (-1) = M2 at *
  have g2 : ∀ a i, (200 ≤ a ∧ a ≤ 225) → ¬ (a = 200 ∧ (i = 0 ∨ i = 48)) → M2 a i = M a i := fun a i q0 q1 => (f2 a i q1).trans (f1 a i q0)
  have tab : TabM M2 := by
    have b := lf.2.1
    exact ⟨fun i q0 q1 => by rw [g2 _ _ (by omega) (by omega), g2 _ _ (by omega) (by omega)]; exact b.1 i q0 q1, fun i q0 q1 => by rw [g2 _ _ (by omega) (by omega)]; exact b.2.1 i q0 q1, fun i q0 q1 => by rw [g2 _ _ (by omega) (by omega)]; exact b.2.2 i q0 q1⟩
  refine s_readOrders (d := d + 2) (tp := M 209) (len := M 200 13) L t1 (fun i _ _ => g2 _ _ (by omega) (by omega)) (g2 _ _ (by omega) (by omega)) tab (fun f w => absurd (e.symm.trans w) (by intro z; cases z)) (fun T' M3 w dr n21 n23 en3 => ?_) (fun f M3 w => absurd (e.symm.trans w) (by intro z; cases z))
  have eT : T' = T := by have := e.symm.trans w; cases this; rfl
  subst eT
  obtain ⟨x1, x2, x3, x4, x5⟩ := en3
  have z19 : M3 200 19 = 0 := by rcases x1 with x1 | x1; exact x1.2; exact absurd rfl x1.1
  have g3 : ∀ a i, (200 ≤ a ∧ a ≤ 225) → ¬ ((a = 200 ∧ (i = 0 ∨ i = 48 ∨ (13 ≤ i ∧ i ≤ 21) ∨ i = 23 ∨ i = 26 ∨ i = 29 ∨ i = 30)) ∨ (210 ≤ a ∧ a ≤ 214) ∨ a = 223) → M3 a i = M a i := fun a i q0 q1 => (x5 a i (by omega)).trans (g2 a i q0 (by omega))
  have okσ : okST (M 202, M 200 46, M 200 47, M 200 42, M 200 43) := ⟨h.ok, lf.2.2.2.2.2.1, lf.2.2.2.2.2.2.1, ⟨lf.2.2.2.1.1, by show M 200 42 ≤ 1500000000; have := lf.2.2.2.1.2; omega⟩, lf.2.2.2.2.1⟩
  have y42 : ylS (M 202, M 200 46, M 200 47, M 200 42, M 200 43) = M 200 42 := rfl
  have ms : MS M3 TL T' (M 202, M 200 46, M 200 47, M 200 42, M 200 43) := ⟨funext fun i => g3 _ _ (by omega) (by omega), fm, dr.ord ho n23.2, n21, g3 _ _ (by omega) (by omega), g3 _ _ (by omega) (by omega), g3 _ _ (by omega) (by omega), g3 _ _ (by omega) (by omega), x3, okσ⟩
  have hm3 : HistM hh M3 := hi.1.congr (g3 _ _ (by omega) (by omega)) (fun i _ _ => g3 _ _ (by omega) (by omega)) (fun i => g3 _ _ (by omega) (by omega))
  have ev : eqv (y0 (sg0 (M 202))) (y0 (M 202, M 200 46, M 200 47, M 200 42, M 200 43)) := ⟨rfl, rfl, rfl⟩
  obtain ⟨v1, v2, v3⟩ := ev.or (TL := TL) (T := T') (tn T').toNat
  have bh := or_beh (TL := TL) ho (y0_ok okσ) (by show (0 : Int) ≤ 0; decide) (by show M 200 42 ≤ 1300000000; have := lf.2.2.2.1.2; omega) (tn T').toNat (by have := ho.1.1; omega)
  have n12 := ho.1.2.1
  have yl : ylS (orN TL T' (tn T').toNat (y0 (M 202, M 200 46, M 200 47, M 200 42, M 200 43))).2 ≤ M 200 42 + 239760 := by
    have := bh.1.2.2.1.2
    have e : ylS (y0 (M 202, M 200 46, M 200 47, M 200 42, M 200 43)) = M 200 42 := rfl
    omega
  refine b_X9_orders_14 L (fun _ => s_ordRun L ms hm3 (by show M 200 42 ≤ 1300000000; have := lf.2.2.2.1.2; omega) h.y (fun M4 y1 u3 z ms4 hm4 f4 => k1 M4 y1 u3 _ (by rw [← v1]; exact z) v2 bh.1.1 yl ms4 (by rw [← v3]; exact hm4) ?_ ?_ ?_ (fun a i q => ?_)) (fun M4 y1 y3 z ms4 hm4 f4 => ?_)) (fun w => absurd z19 w)
  · rw [f4 _ _ (by omega), x2]
  · rw [f4 _ _ (by omega), x4]
  · rw [f4 _ _ (by omega), x5 _ _ (by omega), e48]
  · by_cases e20 : a = 200 ∧ i = 20
    · rw [e20.1, e20.2, f4 _ _ (by omega), x3, f1 _ _ (by omega)]; exact lf.2.2.1.symm
    · rw [f4 a i (by omega), x5 a i (by omega), f2 a i (by omega)]
  · rw [v1]
    rw [v1] at z
    refine k0 M4 y1 y3 (reG (orN TL T' (tn T').toNat (y0 (M 202, M 200 46, M 200 47, M 200 42, M 200 43))).2 (M 202)) (by omega) rfl ⟨h.ok, bh.1.1.2⟩ yl ms4 hm4 ?_ ?_ ?_ (fun a i q => ?_)
    · rw [f4 _ _ (by omega), x2]
    · rw [f4 _ _ (by omega), x4]
    · rw [f4 _ _ (by omega), x5 _ _ (by omega), e48]
    · by_cases e20 : a = 200 ∧ i = 20
      · rw [e20.1, e20.2, f4 _ _ (by omega), x3, f1 _ _ (by omega)]; exact lf.2.2.1.symm
      · rw [f4 a i (by omega), x5 a i (by omega), f2 a i (by omega)]
theorem t_orders {D : Nat} (hD : 202 ≤ D) : TwoI n (e_X8_orders (D + 1)) (e_X9_orders (d + 13)) := fun S M h hn => by
  have L := h.lay
  have nn := h.nn
  have lf := h.lef
  obtain ⟨t1, t2, t3⟩ := h.tap
  obtain ⟨hh, hi⟩ := h.his
  obtain ⟨w1, w2, w3, w4⟩ := h.wrd
  refine c_ordC h hD hi (fun f M1 e hf st b13 b11 b14 b21 b199 f1 => ⟨_, rfl, ?_⟩) (fun T TL M1 e ho fm z st b13 b11 b14 b21 b199 f1 => ⟨_, rfl, ?_⟩) (fun T TL M1 e ho fm z st b13 b11 b14 b21 r9 hc1 f1 => ⟨_, rfl, ?_⟩)
  · refine b_X9_orders_0 L ?_
    have f2 : ∀ a i, ¬ ((a = 1 ∧ (i = 11 ∨ i = 13 ∨ i = 14)) ∨ (a = 2 ∧ i = 1) ∨ (4 ≤ a ∧ a ≤ 7) ∨ (a = 199 ∧ i = 6) ∨ (a = 200 ∧ (i = 0 ∨ i = 48))) → up (up M1 200 0 0) 200 48 (-1) a i = M a i := fun a i q => (up2_ne (by omega) (by omega)).trans (f1 a i (by omega))
    have g2 : ∀ a i, ¬ (a = 200 ∧ (i = 0 ∨ i = 48)) → up (up M1 200 0 0) 200 48 (-1) a i = M1 a i := fun a i q1 => up2_ne (by omega) (by omega)
    have e48 : up (up M1 200 0 0) 200 48 (-1) 200 48 = -1 := up_s _ _ _ _
    generalize up (up M1 200 0 0) 200 48 (-1) = M2 at *
    have tab : TabM M2 := by
      have b := lf.2.1
      exact ⟨fun i q0 q1 => by rw [f2 _ _ (by omega), f2 _ _ (by omega)]; exact b.1 i q0 q1, fun i q0 q1 => by rw [f2 _ _ (by omega)]; exact b.2.1 i q0 q1, fun i q0 q1 => by rw [f2 _ _ (by omega)]; exact b.2.2 i q0 q1⟩
    refine s_readOrders (d := d + 2) (tp := M 209) (len := M 200 13) L t1 (fun i _ _ => f2 _ _ (by omega)) (f2 _ _ (by omega)) tab (fun f' w => by have := e.symm.trans w; cases this; exact hf) (fun T' M3 w => absurd (e.symm.trans w) (by intro z; cases z)) (fun f' M3 w _ en3 => ?_)
    have eF : f' = f := by have := e.symm.trans w; cases this; rfl
    subst eF
    obtain ⟨x1, x2, x3, x4, x5⟩ := en3
    have z19 : M3 200 19 = 1 := by rcases x1 with x1 | x1; exact absurd x1.1 (by omega); exact x1.2
    have e201 : M3 201 (- -6) = M 201 6 := by rw [x5 _ _ (by omega)]; exact f2 201 6 (by omega)
    refine b_X9_orders_14 L (fun w => absurd w (by omega)) (fun _ => b_X9_orders_21 L (s_tell L (by decide) (fun _ => by rw [e201]; exact h.r01 (v := -6) (by decide)) (b_X9_orders_27 ⟨rfl, ?_⟩)))
    rw [tellM_n (by decide)]
    have G : ∀ a i, ¬ ((a = 200 ∧ (i = 0 ∨ i = 1 ∨ (13 ≤ i ∧ i ≤ 21) ∨ i = 23 ∨ i = 26 ∨ i = 29 ∨ i = 30 ∨ i = 48)) ∨ (210 ≤ a ∧ a ≤ 214) ∨ a = 223 ∨ (a = 201 ∧ i = 6)) → up (up M3 200 1 (-6)) 201 (- -6) (M3 201 (- -6) + 1) a i = M1 a i := fun a i q => by
      rw [up2_ne (by omega) (by omega), x5 a i (by omega), g2 a i (by omega)]
    have z20 : up (up M3 200 1 (-6)) 201 (- -6) (M3 201 (- -6) + 1) 200 20 = M 200 20 := by rw [up2_ne (by omega) (by omega), x3]; exact h.lef.2.2.1.symm
    have z13 : up (up M3 200 1 (-6)) 201 (- -6) (M3 201 (- -6) + 1) 200 13 = 0 := by rw [up2_ne (by omega) (by omega), x4]
    have z18 : up (up M3 200 1 (-6)) 201 (- -6) (M3 201 (- -6) + 1) 200 18 = f' := by rw [up2_ne (by omega) (by omega), x2]
    have z48 : up (up M3 200 1 (-6)) 201 (- -6) (M3 201 (- -6) + 1) 200 48 = -1 := by rw [up2_ne (by omega) (by omega), x5 _ _ (by omega), e48]
    have z1 : up (up M3 200 1 (-6)) 201 (- -6) (M3 201 (- -6) + 1) 200 1 = -6 := by rw [up_na (by decide), up_s]
    have z6 : up (up M3 200 1 (-6)) 201 (- -6) (M3 201 (- -6) + 1) 201 (- -6) = M 201 6 + 1 := by rw [up_s, e201]
    generalize up (up M3 200 1 (-6)) 201 (- -6) (M3 201 (- -6) + 1) = M4 at *
    refine h.rft hn (v := -6) (by decide) (fun a i q => ?_) (by rw [G _ _ (by omega)]; exact b11) z1 ((G 199 6 (by omega)).trans b199) z6 (by rw [G _ _ (by omega)]; exact b21) z13 (by rw [z18, G _ _ (by omega)]; exact b13) (by rw [z48, G _ _ (by omega)]; exact b14) (fun k q0 q1 => by rw [G _ _ (by omega)]; exact st k q0 q1)
    by_cases e20 : a = 200 ∧ i = 20
    · rw [e20.1, e20.2]; exact z20
    · rw [G a i (by omega)]; exact f1 a i (by omega)
  · refine s_ordG h e ho fm hi (fun a i q => f1 a i (by omega)) (fun M2 x1 u3 τ w => absurd w z) (fun M2 x1 x3 τ _ er okτ yl ms hm z18 z13 z48 f2 => ?_)
    obtain ⟨m1, -, -, -, m5, m6, m7, m8, m9, -⟩ := ms
    have e201 : up M2 200 48 (orN TL T (tn T).toNat (y0 (sg0 (M 202)))).1 201 (- -3) = M 201 3 := by rw [up1_ne (by omega), f2 _ _ (by omega)]; exact f1 201 3 (by omega)
    refine b_X9_orders_108 L (s_tell L (by decide) (fun _ => by rw [e201]; exact h.r01 (v := -3) (by decide)) (b_X9_orders_119 ⟨rfl, ?_⟩))
    rw [tellM_n (by decide), e201]
    have G : ∀ a i, ¬ ((a = 200 ∧ (i = 48 ∨ i = 1)) ∨ (a = 201 ∧ i = 3)) → up (up (up M2 200 48 (orN TL T (tn T).toNat (y0 (sg0 (M 202)))).1) 200 1 (-3)) 201 (- -3) (M 201 3 + 1) a i = M2 a i := fun a i q => up3_ne (by omega) (by omega) (by omega)
    have y48 : up (up (up M2 200 48 (orN TL T (tn T).toNat (y0 (sg0 (M 202)))).1) 200 1 (-3)) 201 (- -3) (M 201 3 + 1) 200 48 = (orN TL T (tn T).toNat (y0 (sg0 (M 202)))).1 := by rw [up2_ne (by omega) (by omega), up_s]
    have y1 : up (up (up M2 200 48 (orN TL T (tn T).toNat (y0 (sg0 (M 202)))).1) 200 1 (-3)) 201 (- -3) (M 201 3 + 1) 200 1 = -3 := by rw [up_na (by decide), up_s]
    have y3 : up (up (up M2 200 48 (orN TL T (tn T).toNat (y0 (sg0 (M 202)))).1) 200 1 (-3)) 201 (- -3) (M 201 3 + 1) 201 3 = M 201 3 + 1 := up_s _ _ _ _
    generalize up (up (up M2 200 48 (orN TL T (tn T).toNat (y0 (sg0 (M 202)))).1) 200 1 (-3)) 201 (- -3) (M 201 3 + 1) = M3 at *
    have F : ∀ a i, ¬ ((a = 1 ∧ (i = 11 ∨ i = 13 ∨ i = 14)) ∨ (a = 2 ∧ i = 1) ∨ (4 ≤ a ∧ a ≤ 7) ∨ (177 ≤ a ∧ a ≤ 183) ∨ a = 191 ∨ (195 ≤ a ∧ a ≤ 197) ∨ (a = 199 ∧ i = 3) ∨ (a = 201 ∧ i = 3) ∨ a = 202 ∨ (205 ≤ a ∧ a ≤ 208) ∨ (210 ≤ a ∧ a ≤ 214) ∨ (218 ≤ a ∧ a ≤ 221) ∨ a = 223 ∨ (a = 200 ∧ (i = 0 ∨ i = 1 ∨ i = 8 ∨ (13 ≤ i ∧ i ≤ 19) ∨ (21 ≤ i ∧ i ≤ 49)))) → M3 a i = M a i := fun a i q => by rw [G a i (by omega), f2 a i (by omega), f1 a i (by omega)]
    have K : ∀ a i, a < 200 → M3 a i = M1 a i := fun a i q => by rw [G a i (by omega), f2 a i (by omega)]
    have row : M3 202 = M 202 := by rw [← er, ← m1]; exact funext fun i => G _ _ (by omega)
    refine h.all (m := n + 1) (by omega) (GrS.rf S) (fun a i q => ?_) (h.sta.cg (GrS.rf S) (fun i _ _ => by rw [row]) (fun a i _ _ => F a i (by omega)) (fun a i _ _ => F a i (by omega))) ⟨hh, hm.congr (G _ _ (by omega)) (fun i _ _ => G _ _ (by omega)) (fun i => G _ _ (by omega)), hi.2.1.congr (fun a i q0 q1 => F a i (by omega)), fun e he => ?_⟩ ⟨?_, ?_, ?_⟩ ⟨?_, ?_, ?_, ?_⟩ (fun k q0 q1 => ?_) (fun k q0 q1 => by rw [K _ _ (by omega)]; exact st k q0 q1) ⟨?_, ?_, ?_, ?_⟩ h.sz.le
    · exact F a i (by omega)
    · rw [row]; exact hi.2.2 e he
    · rw [G 200 13 (by omega), z13]; exact ⟨by decide, fun i q0 q1 => absurd q1 (by omega)⟩
    · intro i q0 q1; rw [G 200 13 (by omega), z13] at q1; exact absurd q1 (by omega)
    · rw [G 200 13 (by omega), z13, K _ _ (by omega), b21]
    · rw [K _ _ (by omega), b11, y1]
    · rw [F 1 12 (by omega), F 200 11 (by omega)]; exact w2
    · rw [K _ _ (by omega), b13, G 200 18 (by omega), z18]
    · rw [K _ _ (by omega), b14, y48]
    · obtain ⟨a, b, c⟩ := h.rf k q0 q1
      by_cases ek : k = 3
      · subst ek; rw [y3, K _ _ (by omega), b199]; omega
      · rw [F 199 k (by omega), F 201 k (by omega)]; omega
    · rw [G 200 42 (by omega), m7]; have := okτ.2.2.2.1.1; have := lf.2.2.2.1.2; omega
    · rw [G 200 43 (by omega), m8]; exact okτ.2.2.2.2
    · rw [G 200 46 (by omega), m5]; exact okτ.2.1
    · rw [G 200 47 (by omega), m6]; exact okτ.2.2.1
  · refine s_ordG h e ho fm hi (fun a i q => f1 a i (by omega)) (fun M2 x1 u3 τ _ ev okτ yl ms hm z18 z13 z48 f2 => ?_) (fun M2 x1 x3 τ w => absurd z w)
    obtain ⟨m1, -, -, -, m5, m6, m7, m8, m9, -⟩ := ms
    have bh := or_beh (TL := TL) ho (y0_ok (sg0_ok h.ok)) (by show (0 : Int) ≤ 0; decide) (by show (0 : Int) ≤ _; decide) (tn T).toNat (by have := ho.1.1; omega)
    have p9 := or_999 (TL := TL) (σ := y0 (sg0 (M 202))) ho (y0_ok (sg0_ok h.ok)) (by show (0 : Int) ≤ 0; decide) (by show (0 : Int) ≤ _; decide) h.y (tn T).toNat (by have := ho.1.1; omega)
    have hE := HE.or (TL := TL) (σ := y0 (sg0 (M 202))) ho (y0_ok (sg0_ok h.ok)) (by show (0 : Int) ≤ 0; decide) (by show (0 : Int) ≤ _; decide) h.y (h := hh) hi.2.2 (tn T).toNat (by have := ho.1.1; omega)
    have fx : Fix (M 202) (gS (orN TL T (tn T).toNat (y0 (sg0 (M 202)))).2) := bh.1.2.2.2
    have e46 : M2 200 46 = dnS (orN TL T (tn T).toNat (y0 (sg0 (M 202)))).2 := m5.trans ev.2.1
    have d0 := bh.1.1.2.1
    refine b_X9_orders_132 L ?_
    rw [e46]
    refine s_tell L (by omega) (fun w => absurd w (by omega)) (b_X9_orders_140 ⟨rfl, ?_⟩)
    rw [tellM_p (by omega)]
    have G : ∀ a i, ¬ (a = 200 ∧ i = 1) → up M2 200 1 0 a i = M2 a i := fun a i q => up1_ne q
    have y1 : up M2 200 1 0 200 1 = 0 := up_s _ _ _ _
    generalize up M2 200 1 0 = M3 at *
    have F : ∀ a i, ¬ ((a = 1 ∧ (i = 11 ∨ i = 13 ∨ i = 14)) ∨ (a = 2 ∧ i = 1) ∨ (4 ≤ a ∧ a ≤ 7) ∨ (9 ≤ a ∧ a ≤ 15) ∨ (55 ≤ a ∧ a ≤ 183) ∨ a = 191 ∨ (195 ≤ a ∧ a ≤ 197) ∨ a = 202 ∨ (205 ≤ a ∧ a ≤ 208) ∨ (210 ≤ a ∧ a ≤ 214) ∨ (218 ≤ a ∧ a ≤ 221) ∨ a = 223 ∨ (a = 200 ∧ (i = 0 ∨ i = 1 ∨ i = 8 ∨ (13 ≤ i ∧ i ≤ 19) ∨ (21 ≤ i ∧ i ≤ 49)))) → M3 a i = M a i := fun a i q => by rw [G a i (by omega), f2 a i (by omega), f1 a i (by omega)]
    have K : ∀ a i, a < 200 → M3 a i = M1 a i := fun a i q => by rw [G a i (by omega), f2 a i (by omega)]
    have row : M3 202 = gS (orN TL T (tn T).toNat (y0 (sg0 (M 202)))).2 := by rw [← ev.1, ← m1]; exact funext fun i => G _ _ (by omega)
    refine h.all (m := n + 1) (by omega) (GrS.rf S) (fun a i q => ?_) ?_ ⟨_, hm.congr (G _ _ (by omega)) (fun i _ _ => G _ _ (by omega)) (fun i => G _ _ (by omega)), hc1.congr (fun a i q0 q1 => K a i (by omega)), fun e he => ?_⟩ ⟨?_, ?_, ?_⟩ ⟨?_, ?_, ?_, ?_⟩ (h.rf.cg (by omega) (fun i => F _ _ (by omega)) (fun i => F _ _ (by omega))) (fun k q0 q1 => by rw [K _ _ (by omega)]; exact st k q0 q1) ⟨?_, ?_, ?_, ?_⟩ h.sz.le
    · exact F a i (by omega)
    · rw [row]
      exact h.sta.stk bh.1.1.1 p9 (r9.congr (fun a i q0 q1 => K a i (by omega))) (fun i q => fx i (by omega)) (fun a i q0 q1 q2 => F a i (by omega)) (fun a i q0 q1 => F a i (by omega))
    · rw [row]
      obtain ⟨p1, p2, p3, p4⟩ := hE e he
      exact ⟨p1, p2, p3, fun i q => (p4 i q).trans (fx i (by omega)).symm⟩
    · rw [G 200 13 (by omega), z13]; exact ⟨by decide, fun i q0 q1 => absurd q1 (by omega)⟩
    · intro i q0 q1; rw [G 200 13 (by omega), z13] at q1; exact absurd q1 (by omega)
    · rw [G 200 13 (by omega), z13, K _ _ (by omega), b21]
    · rw [K _ _ (by omega), b11, y1]
    · rw [F 1 12 (by omega), F 200 11 (by omega)]; exact w2
    · rw [K _ _ (by omega), b13, G 200 18 (by omega), z18]
    · rw [K _ _ (by omega), b14, G 200 48 (by omega), z48]
    · rw [G 200 42 (by omega), m7]; have := okτ.2.2.2.1.1; have := lf.2.2.2.1.2; omega
    · rw [G 200 43 (by omega), m8]; exact okτ.2.2.2.2
    · rw [G 200 46 (by omega), m5]; exact okτ.2.1
    · rw [G 200 47 (by omega), m6]; exact okτ.2.2.1
end TQ
