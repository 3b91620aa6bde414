/-! Public methods, both sides: pour, rack, bottle, pass. -/
section WA
variable {n : Int} {d : Nat} {S : mSh} {M M' : mMem} {Q : Option mV → mSh → mMem → Prop}
/-- the class begins a work -/
theorem c_startWork (h : CP n S M) {hh : HI} (hi : HisR M hh) (k : ∀ M1 t T, LwOf S M1 (M 202 4) t T → Wk S M1 9 t (M 202) T → HistC hh M1 → StkR (M 202) (58 + 7 * M1 55 2) M1 → M1 191 4 = 0 → (∀ a i, ¬ (a = 191 ∨ a = 196 ∨ (58 ≤ a ∧ a ≤ 176)) → M1 a i = M a i) → Q none S M1) : e_X8_startWork (d + 3) S M Q := by
  have L := h.lay
  have hs := lStk9 L
  refine b_X8_startWork_0 L (c_note L hi.2.1 hs h.r (by decide) (fun M1 hc1 hr1 f1 => b_X8_startWork_14 L ?_))
  have h1 : CP n S M1 := h.s0 (fun a i q => f1 a i (by omega)) ⟨hh, hi.1.congr (f1 _ _ (by omega)) (fun i _ _ => f1 _ _ (by omega)) (fun i => f1 _ _ (by omega)), hc1, fun e he => by
    obtain ⟨x1, x2, x3, x4⟩ := hi.2.2 e he
    exact ⟨x1, x2, x3, fun i q => (x4 i q).trans (f1 _ _ (by omega)).symm⟩⟩
  have e2 : M1 202 = M 202 := funext fun i => f1 _ _ (by omega)
  have e55 : M1 55 2 = M 55 2 := f1 _ _ (by omega)
  refine c_lawInForce h1 (fun t T hT => b_X8_startWork_32 L (c_begin L hs h1.r h1.ok hT (Or.inl rfl) (fun M2 wk a4 a5 a6 a7 a8 f2 => b_X8_startWork_35 (k M2 t T ?_ ?_ (hc1.congr (fun a i q0 q1 => f2 a i (by omega) (by omega))) ?_ a4 (fun a i q => by rw [f2 a i (by omega) (by omega), f1 a i (by omega)])))))
  · rw [e2] at hT
    have := hT.2.2.1
    exact hT.mv (fun a i q => f2 a i (by omega) (by omega))
  · rw [e2] at wk; exact wk
  · rw [f2 55 2 (by decide) (by decide), e55]
    have hb := hi.2.1.2.2.1
    exact hr1.congr (fun a i q0 q1 => f2 a i (by omega) (by omega))
/-- and ends it -/
theorem c_finB (L : Lay S) {kind v : Int} (hv : -7 < v ∧ v < 0) (hr : R32 (M 199 (-v) + 1)) (k : Q (some (vI v)) S (refC M v)) : e_X8_finishWork (d + 2) kind v S M Q :=
  b_X8_finishWork_0 (fun w => absurd w (by omega)) (fun _ => b_X8_finishWork_4 L (c_refuse L hv hr (b_X8_finishWork_9 k)))
theorem c_finG (L : Lay S) {hh : HI} {g : Int → Int} (hc : HistC hh M) (hr : StkR g (58 + 7 * M 55 2) M) {kind v : Int} (hv : 0 ≤ v) (k : ∀ M', HistC (pushH kind g hh) M' → M' 1 11 = 0 → (∀ a i, ¬ (a = 57 ∨ (a = 55 ∧ (i = 2 ∨ i = 3)) ∨ (a = 1 ∧ i = 11)) → M' a i = M a i) → Q (some (vI v)) S M') : e_X8_finishWork (d + 1) kind v S M Q :=
  b_X8_finishWork_0 (fun _ => b_X8_finishWork_10 L (c_keep L hc hr (fun M1 h1 f1 => b_X8_finishWork_18 L (b_X8_accept_0 L (b_X8_finishWork_23 (k _ (h1.congr (fun a i q0 q1 => up_na (by omega))) (up_s _ _ _ _) (fun a i q => by rw [up1_ne (by omega), f1 a i (by omega) (by omega)]))))))) (fun w => absurd w (by omega))
/-- the coupling behind a work that was done -/
theorem CP.wk (h : CP n S M) (hn : n < 512) {hh : HI} (hi : HisR M hh) {kind : Int} (hk : 0 ≤ kind ∧ kind ≤ 3) {g' : Int → Int} (ok : okS g') (y : g' 5 ≤ 999) (fx : Fix (M 202) g') (r9 : StkR g' 9 M') (row : M' 202 = g') (hm : HistM (pushH kind (M 202) hh) M') (hc : HistC (pushH kind (M 202) hh) M') (e11 : M' 1 11 = 0) (e1 : M' 200 1 = 0)
    (f : ∀ a i, (a = 2 ∨ a = 3 ∨ a = 7 ∨ a = 8 ∨ (16 ≤ a ∧ a ≤ 54) ∨ (184 ≤ a ∧ a ≤ 190) ∨ a = 199 ∨ a = 201 ∨ a = 203 ∨ a = 204 ∨ a = 209 ∨ (215 ≤ a ∧ a ≤ 217) ∨ a = 222 ∨ a = 225 ∨ (a = 200 ∧ (i = 54 ∨ i = 20 ∨ i = 13 ∨ i = 11 ∨ i = 18 ∨ i = 48)) ∨ (225 < a ∧ a ≤ sN S) ∨ (a = 1 ∧ (i = 12 ∨ i = 13 ∨ i = 14))) → M' a i = M a i) (lb : Lbd (n + 1) M') : CP (n + 1) S M' := by
  subst row
  refine h.acc hn (fun a i q => f a i (by omega)) e11 e1 (h.sta.stk ok y r9 (fun i q => fx i (by omega)) (fun a i q0 q1 q2 => f a i (by omega)) (fun a i q0 q1 => f a i (by omega))) ⟨_, hm, hc, fun e he => ?_⟩ lb
  have he2 : e = (kind, M 202) ∨ e ∈ hh := by
    have := List.mem_of_mem_take he
    rcases List.mem_cons.mp this with x | x
    · exact Or.inl x
    · exact Or.inr x
  rcases he2 with rfl | he2
  · exact ⟨h.ok, h.y, hk, fun i q => (fx i (by omega)).symm⟩
  · obtain ⟨x1, x2, x3, x4⟩ := hi.2.2 e he2
    exact ⟨x1, x2, x3, fun i q => (x4 i q).trans (fx i (by omega)).symm⟩
/-- a work refused -/
theorem CP.nwk (h : CP n S M) (hn : n < 512) {hh : HI} (hi : HisR M hh) {v : Int} (hv : -7 < v ∧ v < 0) (hc : HistC hh M')
    (f : ∀ a i, (a = 2 ∨ a = 3 ∨ (7 ≤ a ∧ a ≤ 54) ∨ (184 ≤ a ∧ a ≤ 190) ∨ (202 ≤ a ∧ a ≤ 204) ∨ (a = 205 ∧ i < 2640) ∨ a = 206 ∨ a = 209 ∨ (215 ≤ a ∧ a ≤ 217) ∨ a = 222 ∨ a = 225 ∨ (a = 200 ∧ (i = 54 ∨ i = 20 ∨ i = 13 ∨ i = 8 ∨ i = 11 ∨ i = 18 ∨ i = 48)) ∨ (225 < a ∧ a ≤ sN S) ∨ (a = 1 ∧ (i = 12 ∨ i = 13 ∨ i = 14)) ∨ (a = 199 ∧ i ≠ -v) ∨ (a = 201 ∧ i ≠ -v)) → M' a i = M a i)
    (e1 : M' 1 11 = v) (e2 : M' 200 1 = v) (e3 : M' 199 (-v) = M 199 (-v) + 1) (e4 : M' 201 (-v) = M 201 (-v) + 1) (lb : Lbd (n + 1) M') : CP (n + 1) S M' := by
  obtain ⟨w1, w2, w3, w4⟩ := h.wrd
  refine h.st hn (fun a i q => f a i (by omega)) (h.sta.cg (GrS.rf S) (fun i q0 q1 => f _ _ (by omega)) (fun x i q0 q1 => f x i (by omega)) (fun x i q0 q1 => f x i (by omega))) ⟨hh, hi.1.congr (f _ _ (by omega)) (fun i _ _ => f _ _ (by omega)) (fun i => f _ _ (by omega)), hc, fun e he => ?_⟩ ⟨by rw [e1, e2], ?_, ?_, ?_⟩ (fun k q0 q1 => ?_) lb
  · obtain ⟨x1, x2, x3, x4⟩ := hi.2.2 e he
    exact ⟨x1, x2, x3, fun i q => (x4 i q).trans (f _ _ (by omega)).symm⟩
  · rw [f 1 12 (by omega), f 200 11 (by omega)]; exact w2
  · rw [f 1 13 (by omega), f 200 18 (by omega)]; exact w3
  · rw [f 1 14 (by omega), f 200 48 (by omega)]; exact w4
  · obtain ⟨a, b, c⟩ := h.rf k q0 q1
    by_cases ek : k = -v
    · subst ek; rw [e3, e4]; omega
    · rw [f 199 k (by omega), f 201 k (by omega)]; omega
/-- what the reference does where a work is refused: it only tells -/
theorem s_nwk (h : CP n S M) (hn : n < 512) {hh : HI} (hi : HisR M hh) {v : Int} (hv : -7 < v ∧ v < 0) {M1 M2 : mMem} (hc : HistC hh M1) (f1 : ∀ a i, ¬ (a = 191 ∨ (195 ≤ a ∧ a ≤ 197) ∨ (58 ≤ a ∧ a ≤ 176)) → M1 a i = M a i) (f2 : FrL (up (refC M1 v) 200 0 0) M2) (k : CP (n + 1) S (tellM M2 v) → Q (some (vI v)) S (tellM M2 v)) : e_X9_tell d v S M2 Q := by
  have g : ∀ a i, ¬ (a = 191 ∨ (195 ≤ a ∧ a ≤ 197) ∨ (58 ≤ a ∧ a ≤ 176) ∨ (a = 1 ∧ i = 11) ∨ (a = 199 ∧ i = -v) ∨ a = 218 ∨ a = 220 ∨ (a = 200 ∧ (i = 0 ∨ i = 38 ∨ i = 39 ∨ i = 40 ∨ i = 34))) → M2 a i = M a i := fun a i q => by
    rw [f2 a i (by omega), up1_ne (by omega)]; unfold refC; rw [up2_ne (by omega) (by omega), f1 a i (by omega)]
  have h01 := h.r01 hv
  have g201 : M2 201 (-v) = M 201 (-v) := g _ _ (by omega)
  have g11 : M2 1 11 = v := by rw [f2 _ _ (by omega), up1_ne (by omega)]; unfold refC; rw [up_na (by decide), up_s]
  have g199 : M2 199 (-v) = M 199 (-v) + 1 := by rw [f2 _ _ (by omega), up1_ne (by omega)]; unfold refC; rw [up_s, f1 _ _ (by omega)]
  have hc2 : HistC hh M2 := hc.congr (fun a i q0 q1 => by rw [f2 a i (by omega), up1_ne (by omega)]; unfold refC; rw [up2_ne (by omega) (by omega)])
  refine s_tell h.lay (by omega) (fun _ => by rw [g201]; exact h01) (k ?_)
  rw [tellM_n hv.2]
  refine h.nwk hn hi hv (hc2.congr (fun a i q0 q1 => up2_ne (by omega) (by omega))) (fun a i q => by rw [up2_ne (by omega) (by omega), g a i (by omega)]) ?_ ?_ ?_ ?_ (h.lb.cg (fun i q => by rw [up2_ne (by omega) (by omega), g _ _ (by omega)]))
  · rw [up2_ne (by omega) (by omega)]; exact g11
  · rw [up_na (by decide), up_s]
  · rw [up2_ne (by omega) (by omega)]; exact g199
  · rw [up_s, g201]
/-- what the reference does where a work is done -/
theorem s_ywk (h : CP n S M) (hn : n < 512) {hh : HI} (hi : HisR M hh) {kind v : Int} (hk : 0 ≤ kind ∧ kind ≤ 3) (hv : 0 ≤ v) {g' : Int → Int} (ok : okS g') (y : g' 5 ≤ 999) (fx : Fix (M 202) g') {M1 M2 : mMem} (r9 : StkR g' 9 M1) (hc : HistC (pushH kind (M 202) hh) M1) (e11 : M1 1 11 = 0) (f1 : ∀ a i, ¬ (a = 191 ∨ (195 ≤ a ∧ a ≤ 197) ∨ (55 ≤ a ∧ a ≤ 176) ∨ (9 ≤ a ∧ a ≤ 15) ∨ (a = 1 ∧ i = 11)) → M1 a i = M a i)
    (row : M2 202 = g') (hm : HistM (pushH kind (M 202) hh) M2) (f2 : FrR (up M1 200 0 0) M2) (l42 : 0 ≤ M2 200 42 ∧ M2 200 42 ≤ M 200 42 + 999) (l43 : 0 ≤ M2 200 43 ∧ M2 200 43 ≤ 100000000) (k : CP (n + 1) S (tellM M2 v) → Q (some (vI v)) S (tellM M2 v)) : e_X9_tell d v S M2 Q := by
  have lf := h.lef
  refine s_tell h.lay (by omega) (fun w => absurd w (by omega)) (k ?_)
  rw [tellM_p (by omega)]
  have g2 : ∀ a i, a ≤ 199 ∨ 225 < a → M2 a i = M1 a i := fun a i q => by rw [f2 a i (by omega), up1_ne (by omega)]
  have row3 : up M2 200 1 0 202 = g' := by rw [← row]; exact funext fun i => up1_ne (by omega)
  refine h.wk hn hi hk ok y fx (r9.congr (fun a i q0 q1 => by rw [up1_ne (by omega), g2 a i (by omega)])) row3 (hm.congr (up1_ne (by omega)) (fun i _ _ => up1_ne (by omega)) (fun i => up1_ne (by omega))) (hc.congr (fun a i q0 q1 => by rw [up1_ne (by omega), g2 a i (by omega)])) (by rw [up1_ne (by omega), g2 _ _ (by omega)]; exact e11) (up_s _ _ _ _) (fun a i q => by rw [up1_ne (by omega), f2 a i (by omega), up1_ne (by omega), f1 a i (by omega)]) ⟨?_, ?_, ?_, ?_⟩
  · rw [up1_ne (by omega)]; have := lf.2.2.2.1; omega
  · rw [up1_ne (by omega)]; exact l43
  · rw [up1_ne (by omega), f2 _ _ (by omega), up1_ne (by omega), f1 _ _ (by omega)]; exact lf.2.2.2.2.2.1
  · rw [up1_ne (by omega), f2 _ _ (by omega), up1_ne (by omega), f1 _ _ (by omega)]; exact lf.2.2.2.2.2.2.1
theorem pourW_rng (g : Int → Int) (c m : Int) : pourW g c m = 0 ∨ (-7 < pourW g c m ∧ pourW g c m < 0) := by unfold pourW; split <;> (try split) <;> (try split) <;> omega
theorem rackW_rng (T : TX) (g : Int → Int) (f t m : Int) : rackW T g f t m = 0 ∨ (-7 < rackW T g f t m ∧ rackW T g f t m < 0) := by unfold rackW; split <;> (try split) <;> (try split) <;> omega
theorem botW_rng (T : TX) (g : Int → Int) (c m : Int) : botW T g c m = 0 ∨ (-7 < botW T g c m ∧ botW T g c m < 0) := by unfold botW; split <;> (try split) <;> (try split) <;> omega
theorem t_pour {c m : Int} : TwoI n (e_X8_pour (d + 4) c m) (e_X9_pour (d + 6) c m) := fun S M h hn => by
  have L := h.lay
  obtain ⟨hh, hi⟩ := h.his
  have lf := h.lef
  refine b_X8_pour_0 L (c_startWork h hi (fun M1 t T hT wk hc hr e4 f1 => b_X8_pour_4 L (c_pourInto L wk (fun q => ?_) (fun q M2 wk2 f2 => ?_))))
  · have hv : -7 < pourW (M 202) c m ∧ pourW (M 202) c m < 0 := by rcases pourW_rng (M 202) c m with x | x <;> omega
    refine b_X8_pour_15 L (c_finB L hv (by rw [f1 _ _ (by omega)]; exact h.r99 hv) (b_X8_pour_18 ⟨_, rfl, b_X9_pour_0 L ?_⟩))
    have e2 : up (refC M1 (pourW (M 202) c m)) 200 0 0 202 = M 202 := funext fun i => by rw [up1_ne (by omega)]; unfold refC; rw [up2_ne (by omega) (by omega), f1 _ _ (by omega)]
    have hm : HistM hh (up (refC M1 (pourW (M 202) c m)) 200 0 0) := hi.1.congr (by rw [up1_ne (by omega)]; unfold refC; rw [up2_ne (by omega) (by omega), f1 _ _ (by omega)]) (fun i _ _ => by rw [up1_ne (by omega)]; unfold refC; rw [up2_ne (by omega) (by omega), f1 _ _ (by omega)]) (fun i => by rw [up1_ne (by omega)]; unfold refC; rw [up2_ne (by omega) (by omega), f1 _ _ (by omega)])
    exact s_pourNow L e2 h.ok hm (fun _ => b_X9_pour_12 L (s_nwk h hn hi hv hc (fun a i q => f1 a i (by omega)) (FrL.rf _) (fun cp => b_X9_pour_15 ⟨rfl, cp⟩))) (fun w => absurd w (by omega))
  · obtain ⟨p1, p2, p3, p4, p5⟩ := pour_ok h.ok q
    have rb : 0 ≤ (allG (addG (M 202) c m) c).tdiv 1000 := by
      have := (p5.all (h.n8 p2)).1
      exact Int.tdiv_nonneg this (by decide)
    have e55 : M2 55 2 = M1 55 2 := f2 _ _ (by omega)
    refine b_X8_pour_15 L (c_finG L (hc.congr (fun a i q0 q1 => f2 a i (by omega))) (g := M 202) (by rw [e55]; have := hc.2.2.1; exact hr.congr (fun a i q0 q1 => f2 a i (by omega))) rb (fun M3 hc3 e11 f3 => b_X8_pour_18 ⟨_, rfl, b_X9_pour_0 L ?_⟩))
    have f13 : ∀ a i, ¬ (a = 191 ∨ (195 ≤ a ∧ a ≤ 197) ∨ (55 ≤ a ∧ a ≤ 176) ∨ (9 ≤ a ∧ a ≤ 15) ∨ (a = 1 ∧ i = 11)) → M3 a i = M a i := fun a i q => by rw [f3 a i (by omega), f2 a i (by omega), f1 a i (by omega)]
    have g3 : ∀ a i, 200 ≤ a → a ≤ 225 → ¬ (a = 200 ∧ i = 0) → up M3 200 0 0 a i = M a i := fun a i q0 q1 q2 => by rw [up1_ne q2, f13 a i (by omega)]
    have e2 : up M3 200 0 0 202 = M 202 := funext fun i => g3 _ _ (by omega) (by omega) (by omega)
    have hm : HistM hh (up M3 200 0 0) := hi.1.congr (g3 _ _ (by omega) (by omega) (by omega)) (fun i _ _ => g3 _ _ (by omega) (by omega) (by omega)) (fun i => g3 _ _ (by omega) (by omega) (by omega))
    have fx : Fix (M 202) (addG (M 202) c m) := seg_fix (h.n8 p2)
    refine s_pourNow L e2 h.ok hm (fun w => absurd w (by omega)) (fun _ M4 row hm4 f4 x42 x43 => b_X9_pour_12 L (s_ywk h hn hi (kind := 0) (by decide) rb p5 ?_ fx (wk2.r.congr (fun a i q0 q1 => f3 a i (by omega))) hc3 e11 f13 row hm4 f4 ?_ ?_ (fun cp => b_X9_pour_15 ⟨rfl, cp⟩)))
    · have : addG (M 202) c m 5 = M 202 5 := seg_o (by have := p2.1; omega)
      rw [this]; exact h.y
    · rw [x42, g3 _ _ (by omega) (by omega) (by omega)]; have := lf.2.2.2.1; omega
    · rw [x43, g3 _ _ (by omega) (by omega) (by omega)]; exact lf.2.2.2.2.1
theorem t_rack {a b m : Int} : TwoI n (e_X8_rack (d + 6) a b m) (e_X9_rack (d + 11) a b m) := fun S M h hn => by
  have L := h.lay
  obtain ⟨hh, hi⟩ := h.his
  have lf := h.lef
  refine b_X8_rack_0 L (c_startWork h hi (fun M1 t T hT wk hc hr e4 f1 => b_X8_rack_4 L (c_rackOver L wk (fun q M2 f2 => ?_) (fun q M2 wk2 f2 _ _ => ?_))))
  all_goals have b20 : M 200 20 = 0 := lf.2.2.1
  all_goals have fm : ForM (M 202) T := by
    have e : M1 202 = M 202 := funext fun i => f1 _ _ (by omega)
    have := hT.2.2.2
    rw [e, upr_id] at this
    exact this
  · have hv : -7 < rackW T (M 202) a b m ∧ rackW T (M 202) a b m < 0 := by rcases rackW_rng T (M 202) a b m with x | x <;> omega
    have f12 : ∀ x i, ¬ (x = 191 ∨ (195 ≤ x ∧ x ≤ 197) ∨ (58 ≤ x ∧ x ≤ 176)) → M2 x i = M x i := fun x i q => by rw [f2 x i (by omega), f1 x i (by omega)]
    refine b_X8_rack_16 L (c_finB L hv (by rw [f12 _ _ (by omega)]; exact h.r99 hv) (b_X8_rack_19 ⟨_, rfl, b_X9_rack_0 L ?_⟩))
    have g3 : ∀ x i, 200 ≤ x → x ≤ 225 → ¬ (x = 200 ∧ i = 0) → up (refC M2 (rackW T (M 202) a b m)) 200 0 0 x i = M x i := fun x i q0 q1 q2 => by rw [up1_ne q2]; unfold refC; rw [up2_ne (by omega) (by omega), f12 x i (by omega)]
    have e2 : up (refC M2 (rackW T (M 202) a b m)) 200 0 0 202 = M 202 := funext fun i => g3 _ _ (by omega) (by omega) (by omega)
    have hm : HistM hh (up (refC M2 (rackW T (M 202) a b m)) 200 0 0) := hi.1.congr (g3 _ _ (by omega) (by omega) (by omega)) (fun i _ _ => g3 _ _ (by omega) (by omega) (by omega)) (fun i => g3 _ _ (by omega) (by omega) (by omega))
    exact s_rackNow L e2 h.ok (Or.inl (by rw [g3 _ _ (by omega) (by omega) (by omega)]; exact b20)) fm hm (fun _ M3 f3 => b_X9_rack_13 L (s_nwk h hn hi hv (hc.congr (fun x i q0 q1 => f2 x i (by omega))) f12 f3 (fun cp => b_X9_rack_16 ⟨rfl, cp⟩))) (fun w => absurd w (by omega))
  · obtain ⟨p1, p2, p3, p4, p5, p6, p7, p8, p9⟩ := rack_ok h.ok q
    have rb : 0 ≤ meanG (rackG (M 202) a b m) b := by
      have b8 := h.n8 p3
      have al : allG (rackG (M 202) a b m) b = allG (takG (M 202) a m) b + sm (tkG (M 202) a m) 20 := by unfold rackG putG; rw [seg_all, put_sum]
      have a0 := (p7.all b8).1
      have ts := tk_sum h.ok (h.n8 p2) p1.1 p5
      have nz : ¬ allG (rackG (M 202) a b m) b = 0 := by omega
      have mb := mean_bd p9.D b8 nz
      unfold meanG
      rw [if_neg nz]; exact mb.1
    have e55 : M2 55 2 = M1 55 2 := f2 _ _ (by omega)
    refine b_X8_rack_16 L (c_finG L (hc.congr (fun a i q0 q1 => f2 a i (by omega))) (g := M 202) (by rw [e55]; have := hc.2.2.1; exact hr.congr (fun a i q0 q1 => f2 a i (by omega))) rb (fun M3 hc3 e11 f3 => b_X8_rack_19 ⟨_, rfl, b_X9_rack_0 L ?_⟩))
    have f13 : ∀ a i, ¬ (a = 191 ∨ (195 ≤ a ∧ a ≤ 197) ∨ (55 ≤ a ∧ a ≤ 176) ∨ (9 ≤ a ∧ a ≤ 15) ∨ (a = 1 ∧ i = 11)) → M3 a i = M a i := fun a i q => by rw [f3 a i (by omega), f2 a i (by omega), f1 a i (by omega)]
    have g3 : ∀ a i, 200 ≤ a → a ≤ 225 → ¬ (a = 200 ∧ i = 0) → up M3 200 0 0 a i = M a i := fun a i q0 q1 q2 => by rw [up1_ne q2, f13 a i (by omega)]
    have e2 : up M3 200 0 0 202 = M 202 := funext fun i => g3 _ _ (by omega) (by omega) (by omega)
    have hm : HistM hh (up M3 200 0 0) := hi.1.congr (g3 _ _ (by omega) (by omega) (by omega)) (fun i _ _ => g3 _ _ (by omega) (by omega) (by omega)) (fun i => g3 _ _ (by omega) (by omega) (by omega))
    have op : opW 1 T (M 202) m a b = 0 := by unfold opW; rw [if_neg (by decide), if_pos rfl]; exact q
    have og : opG 1 T (M 202) m a b = rackG (M 202) a b m := by unfold opG; rw [if_neg (by decide), if_pos rfl]
    have fx : Fix (M 202) (rackG (M 202) a b m) := og ▸ op_fix h.ok op
    have y5 : rackG (M 202) a b m 5 = M 202 5 := og ▸ op_5 h.ok (by decide) op
    refine s_rackNow L e2 h.ok (Or.inl (by rw [g3 _ _ (by omega) (by omega) (by omega)]; exact b20)) fm hm (fun w => absurd w (by omega)) (fun _ M4 row hm4 f4 x42 x43 => b_X9_rack_13 L (s_ywk h hn hi (kind := 1) (by decide) rb p9 (by rw [y5]; exact h.y) fx (wk2.r.congr (fun a i q0 q1 => f3 a i (by omega))) hc3 e11 f13 row hm4 f4 ?_ ?_ (fun cp => b_X9_rack_16 ⟨rfl, cp⟩)))
    · rw [x42, g3 _ _ (by omega) (by omega) (by omega)]; have := lf.2.2.2.1; omega
    · rw [x43, g3 _ _ (by omega) (by omega) (by omega)]; exact lf.2.2.2.2.1
theorem t_bottle {c m : Int} : TwoI n (e_X8_bottle (d + 6) c m) (e_X9_bottle (d + 11) c m) := fun S M h hn => by
  have L := h.lay
  obtain ⟨hh, hi⟩ := h.his
  have lf := h.lef
  have nn := h.nn
  refine b_X8_bottle_0 L (c_startWork h hi (fun M1 t T hT wk hc hr e4 f1 => b_X8_bottle_4 L (c_bottleFrom L wk (by omega) (fun q M2 f2 => ?_) (fun q M2 wk2 f2 _ _ => ?_))))
  all_goals have b20 : M 200 20 = 0 := lf.2.2.1
  all_goals have fm : ForM (M 202) T := by
    have e : M1 202 = M 202 := funext fun i => f1 _ _ (by omega)
    have := hT.2.2.2
    rw [e, upr_id] at this
    exact this
  · have hv : -7 < botW T (M 202) c m ∧ botW T (M 202) c m < 0 := by rcases botW_rng T (M 202) c m with x | x <;> omega
    have f12 : ∀ x i, ¬ (x = 191 ∨ (195 ≤ x ∧ x ≤ 197) ∨ (58 ≤ x ∧ x ≤ 176)) → M2 x i = M x i := fun x i q => by rw [f2 x i (by omega), f1 x i (by omega)]
    refine b_X8_bottle_15 L (c_finB L hv (by rw [f12 _ _ (by omega)]; exact h.r99 hv) (b_X8_bottle_18 ⟨_, rfl, b_X9_bottle_0 L ?_⟩))
    have g3 : ∀ x i, 200 ≤ x → x ≤ 225 → ¬ (x = 200 ∧ i = 0) → up (refC M2 (botW T (M 202) c m)) 200 0 0 x i = M x i := fun x i q0 q1 q2 => by rw [up1_ne q2]; unfold refC; rw [up2_ne (by omega) (by omega), f12 x i (by omega)]
    have e2 : up (refC M2 (botW T (M 202) c m)) 200 0 0 202 = M 202 := funext fun i => g3 _ _ (by omega) (by omega) (by omega)
    have hm : HistM hh (up (refC M2 (botW T (M 202) c m)) 200 0 0) := hi.1.congr (g3 _ _ (by omega) (by omega) (by omega)) (fun i _ _ => g3 _ _ (by omega) (by omega) (by omega)) (fun i => g3 _ _ (by omega) (by omega) (by omega))
    exact s_bottleNow L e2 h.ok (Or.inl (by rw [g3 _ _ (by omega) (by omega) (by omega)]; exact b20)) fm hm (by rw [g3 _ _ (by omega) (by omega) (by omega)]; have := lf.2.2.2.1; omega) (fun _ M3 f3 => b_X9_bottle_12 L (s_nwk h hn hi hv (hc.congr (fun x i q0 q1 => f2 x i (by omega))) f12 f3 (fun cp => b_X9_bottle_15 ⟨rfl, cp⟩))) (fun w => absurd w (by omega))
  · obtain ⟨p1, p2, p3, p4, p5⟩ := bot_ok h.ok q
    obtain ⟨-, rb, rb2⟩ := bot_in h.ok q
    have e55 : M2 55 2 = M1 55 2 := f2 _ _ (by omega)
    refine b_X8_bottle_15 L (c_finG L (hc.congr (fun a i q0 q1 => f2 a i (by omega))) (g := M 202) (by rw [e55]; have := hc.2.2.1; exact hr.congr (fun a i q0 q1 => f2 a i (by omega))) rb (fun M3 hc3 e11 f3 => b_X8_bottle_18 ⟨_, rfl, b_X9_bottle_0 L ?_⟩))
    have f13 : ∀ a i, ¬ (a = 191 ∨ (195 ≤ a ∧ a ≤ 197) ∨ (55 ≤ a ∧ a ≤ 176) ∨ (9 ≤ a ∧ a ≤ 15) ∨ (a = 1 ∧ i = 11)) → M3 a i = M a i := fun a i q => by rw [f3 a i (by omega), f2 a i (by omega), f1 a i (by omega)]
    have g3 : ∀ a i, 200 ≤ a → a ≤ 225 → ¬ (a = 200 ∧ i = 0) → up M3 200 0 0 a i = M a i := fun a i q0 q1 q2 => by rw [up1_ne q2, f13 a i (by omega)]
    have e2 : up M3 200 0 0 202 = M 202 := funext fun i => g3 _ _ (by omega) (by omega) (by omega)
    have hm : HistM hh (up M3 200 0 0) := hi.1.congr (g3 _ _ (by omega) (by omega) (by omega)) (fun i _ _ => g3 _ _ (by omega) (by omega) (by omega)) (fun i => g3 _ _ (by omega) (by omega) (by omega))
    have op : opW 2 T (M 202) m c 0 = 0 := by unfold opW; rw [if_neg (by decide), if_neg (by decide), if_pos rfl]; exact q
    have og : opG 2 T (M 202) m c 0 = botG (M 202) c m := by unfold opG; rw [if_neg (by decide), if_neg (by decide), if_pos rfl]
    have fx : Fix (M 202) (botG (M 202) c m) := og ▸ op_fix h.ok op
    have y5 : botG (M 202) c m 5 = M 202 5 := og ▸ op_5 h.ok (by decide) op
    refine s_bottleNow L e2 h.ok (Or.inl (by rw [g3 _ _ (by omega) (by omega) (by omega)]; exact b20)) fm hm (by rw [g3 _ _ (by omega) (by omega) (by omega)]; have := lf.2.2.2.1; omega) (fun w => absurd w (by omega)) (fun _ M4 row hm4 f4 x42 x43 => b_X9_bottle_12 L (s_ywk h hn hi (kind := 2) (by decide) rb p5 (by rw [y5]; exact h.y) fx (wk2.r.congr (fun a i q0 q1 => f3 a i (by omega))) hc3 e11 f13 row hm4 f4 ?_ ?_ (fun cp => b_X9_bottle_15 ⟨rfl, cp⟩)))
    · rw [x42, g3 _ _ (by omega) (by omega) (by omega)]; have := lf.2.2.2.1; omega
    · rw [x43, g3 _ _ (by omega) (by omega) (by omega)]
      have := lf.2.2.2.2.1
      split <;> omega
end WA
