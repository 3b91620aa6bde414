/-! Public methods, both sides: pour, rack, bottle, pass. -/
section WA
variable {n : Int} {d : Nat} {S : mSh} {M M' : mMem} {Q : Option mV → mSh → mMem → Prop}
/-- the class begins a work -/
theorem c_startWork (h : CP n S M) {hh : HI} (hi : HisR M hh) (k : ∀ M1 t T, ForM (M 202) T → Wk S M1 9 t (M 202) T → HistC hh M1 → StkR (M 202) (58 + 7 * M1 55 2) M1 → M1 191 4 = 0 → (∀ a i, ¬ (a = 191 ∨ a = 196 ∨ (58 ≤ a ∧ a ≤ 176)) → M1 a i = M a i) → Q none S M1) : e_X8_startWork (d + 3) S M Q := by
  have L := h.lay
  have hs := lStk9 L
  refine b_X8_startWork_0 L (c_note L hi.2.1 hs h.r (by decide) (fun M1 hc1 hr1 f1 => b_X8_startWork_14 L ?_))
  have h1 : CP n S M1 := h.s0 (fun a i q => f1 a i (by omega)) ⟨hh, hi.1.congr (f1 _ _ (by omega)) (fun i _ _ => f1 _ _ (by omega)) (fun i => f1 _ _ (by omega)), hc1, fun e he => by
    obtain ⟨x1, x2, x3, x4⟩ := hi.2.2 e he
    exact ⟨x1, x2, x3, fun i q => (x4 i q).trans (f1 _ _ (by omega)).symm⟩⟩
  have e2 : M1 202 = M 202 := funext fun i => f1 _ _ (by omega)
  have e55 : M1 55 2 = M 55 2 := f1 _ _ (by omega)
  refine c_lawInForce h1 (fun t T hT => b_X8_startWork_32 L (c_begin L hs h1.r h1.ok hT (Or.inl rfl) (fun M2 wk a4 a5 a6 a7 a8 f2 => b_X8_startWork_35 (k M2 t T ?_ ?_ (hc1.congr (fun a i q0 q1 => f2 a i (by omega) (by omega))) ?_ a4 (fun a i q => by rw [f2 a i (by omega) (by omega), f1 a i (by omega)])))))
  · have := hT.fm rfl
    rw [e2] at this; exact this
  · rw [e2] at wk; exact wk
  · rw [f2 55 2 (by decide) (by decide), e55]
    have hb := hi.2.1.2.2.1
    exact hr1.congr (fun a i q0 q1 => f2 a i (by omega) (by omega))
/-- and ends it -/
theorem c_finB (L : Lay S) {kind v : Int} (hv : -7 < v ∧ v < 0) (hr : R32 (M 199 (-v) + 1)) (k : Q (some (vI v)) S (refC M v)) : e_X8_finishWork (d + 2) kind v S M Q :=
  b_X8_finishWork_0 (fun w => absurd w (by omega)) (fun _ => b_X8_finishWork_4 L (c_refuse L hv hr (b_X8_finishWork_9 k)))
theorem c_finG (L : Lay S) {hh : HI} {g : Int → Int} (hc : HistC hh M) (hr : StkR g (58 + 7 * M 55 2) M) {kind v : Int} (hv : 0 ≤ v) (k : ∀ M', HistC (pushH kind g hh) M' → M' 1 11 = 0 → (∀ a i, ¬ (a = 57 ∨ (a = 55 ∧ (i = 2 ∨ i = 3)) ∨ (a = 1 ∧ i = 11)) → M' a i = M a i) → Q (some (vI v)) S M') : e_X8_finishWork (d + 1) kind v S M Q :=
  b_X8_finishWork_0 (fun _ => b_X8_finishWork_10 L (c_keep L hc hr (fun M1 h1 f1 => b_X8_finishWork_18 L (b_X8_accept_0 L (b_X8_finishWork_23 (k _ (h1.congr (fun a i q0 q1 => up_na (by omega))) (up_s _ _ _ _) (fun a i q => by rw [up1_ne (by omega), f1 a i (by omega) (by omega)]))))))) (fun w => absurd w (by omega))
/-- the coupling behind a work that was done -/
theorem CP.wk (h : CP n S M) (hn : n < 512) {hh : HI} (hi : HisR M hh) {kind : Int} (hk : 0 ≤ kind ∧ kind ≤ 3) {g' : Int → Int} (ok : okS g') (y : g' 5 ≤ 999) (fx : Fix (M 202) g') (r9 : StkR g' 9 M') (row : M' 202 = g') (hm : HistM (pushH kind (M 202) hh) M') (hc : HistC (pushH kind (M 202) hh) M') (e11 : M' 1 11 = 0) (e1 : M' 200 1 = 0)
    (f : ∀ a i, (a = 2 ∨ a = 3 ∨ a = 7 ∨ a = 8 ∨ (16 ≤ a ∧ a ≤ 54) ∨ (184 ≤ a ∧ a ≤ 190) ∨ a = 199 ∨ a = 201 ∨ a = 203 ∨ a = 204 ∨ a = 209 ∨ (215 ≤ a ∧ a ≤ 217) ∨ a = 222 ∨ a = 225 ∨ (a = 200 ∧ (i = 54 ∨ i = 20 ∨ i = 13 ∨ i = 11 ∨ i = 18 ∨ i = 48)) ∨ (225 < a ∧ a ≤ sN S) ∨ (a = 1 ∧ (i = 12 ∨ i = 13 ∨ i = 14))) → M' a i = M a i) (lb : Lbd (n + 1) M') : CP (n + 1) S M' := by
  subst row
  refine h.acc hn (fun a i q => f a i (by omega)) e11 e1 (h.sta.stk ok y r9 (fun i q => fx i (by omega)) (fun a i q0 q1 q2 => f a i (by omega)) (fun a i q0 q1 => f a i (by omega))) ⟨_, hm, hc, fun e he => ?_⟩ lb
  have he2 : e = (kind, M 202) ∨ e ∈ hh := by
    have := List.mem_of_mem_take he
    rcases List.mem_cons.mp this with x | x
    · exact Or.inl x
    · exact Or.inr x
  rcases he2 with rfl | he2
  · exact ⟨h.ok, h.y, hk, fun i q => (fx i (by omega)).symm⟩
  · obtain ⟨x1, x2, x3, x4⟩ := hi.2.2 e he2
    exact ⟨x1, x2, x3, fun i q => (x4 i q).trans (fx i (by omega)).symm⟩
/-- a work refused -/
theorem CP.nwk (h : CP n S M) (hn : n < 512) {hh : HI} (hi : HisR M hh) {v : Int} (hv : -7 < v ∧ v < 0) (hc : HistC hh M')
    (f : ∀ a i, (a = 2 ∨ a = 3 ∨ (7 ≤ a ∧ a ≤ 54) ∨ (184 ≤ a ∧ a ≤ 190) ∨ (202 ≤ a ∧ a ≤ 204) ∨ (a = 205 ∧ i < 2640) ∨ a = 206 ∨ a = 209 ∨ (215 ≤ a ∧ a ≤ 217) ∨ a = 222 ∨ a = 225 ∨ (a = 200 ∧ (i = 54 ∨ i = 20 ∨ i = 13 ∨ i = 8 ∨ i = 11 ∨ i = 18 ∨ i = 48)) ∨ (225 < a ∧ a ≤ sN S) ∨ (a = 1 ∧ (i = 12 ∨ i = 13 ∨ i = 14)) ∨ (a = 199 ∧ i ≠ -v) ∨ (a = 201 ∧ i ≠ -v)) → M' a i = M a i)
    (e1 : M' 1 11 = v) (e2 : M' 200 1 = v) (e3 : M' 199 (-v) = M 199 (-v) + 1) (e4 : M' 201 (-v) = M 201 (-v) + 1) (lb : Lbd (n + 1) M') : CP (n + 1) S M' := by
  obtain ⟨w1, w2, w3, w4⟩ := h.wrd
  refine h.st hn (fun a i q => f a i (by omega)) (h.sta.cg (GrS.rf S) (fun i q0 q1 => f _ _ (by omega)) (fun x i q0 q1 => f x i (by omega)) (fun x i q0 q1 => f x i (by omega))) ⟨hh, hi.1.congr (f _ _ (by omega)) (fun i _ _ => f _ _ (by omega)) (fun i => f _ _ (by omega)), hc, fun e he => ?_⟩ ⟨by rw [e1, e2], ?_, ?_, ?_⟩ (fun k q0 q1 => ?_) lb
  · obtain ⟨x1, x2, x3, x4⟩ := hi.2.2 e he
    exact ⟨x1, x2, x3, fun i q => (x4 i q).trans (f _ _ (by omega)).symm⟩
  · rw [f 1 12 (by omega), f 200 11 (by omega)]; exact w2
  · rw [f 1 13 (by omega), f 200 18 (by omega)]; exact w3
  · rw [f 1 14 (by omega), f 200 48 (by omega)]; exact w4
  · obtain ⟨a, b, c⟩ := h.rf k q0 q1
    by_cases ek : k = -v
    · subst ek; rw [e3, e4]; omega
    · rw [f 199 k (by omega), f 201 k (by omega)]; omega
/-- what the reference does where a work is refused: it only tells -/
theorem s_nwk (h : CP n S M) (hn : n < 512) {hh : HI} (hi : HisR M hh) {v : Int} (hv : -7 < v ∧ v < 0) {M1 M2 : mMem} (hc : HistC hh M1) (f1 : ∀ a i, ¬ (a = 191 ∨ (195 ≤ a ∧ a ≤ 197) ∨ (58 ≤ a ∧ a ≤ 176)) → M1 a i = M a i) (f2 : FrL (up (refC M1 v) 200 0 0) M2) (k : CP (n + 1) S (tellM M2 v) → Q (some (vI v)) S (tellM M2 v)) : e_X9_tell d v S M2 Q := by
  have g : ∀ a i, ¬ (a = 191 ∨ (195 ≤ a ∧ a ≤ 197) ∨ (58 ≤ a ∧ a ≤ 176) ∨ (a = 1 ∧ i = 11) ∨ (a = 199 ∧ i = -v) ∨ a = 218 ∨ a = 220 ∨ (a = 200 ∧ (i = 0 ∨ i = 38 ∨ i = 39 ∨ i = 40 ∨ i = 34))) → M2 a i = M a i := fun a i q => by
    rw [f2 a i (by omega), up1_ne (by omega)]; unfold refC; rw [up2_ne (by omega) (by omega), f1 a i (by omega)]
  have h01 := h.r01 hv
  have g201 : M2 201 (-v) = M 201 (-v) := g _ _ (by omega)
  have g11 : M2 1 11 = v := by rw [f2 _ _ (by omega), up1_ne (by omega)]; unfold refC; rw [up_na (by decide), up_s]
  have g199 : M2 199 (-v) = M 199 (-v) + 1 := by rw [f2 _ _ (by omega), up1_ne (by omega)]; unfold refC; rw [up_s, f1 _ _ (by omega)]
  have hc2 : HistC hh M2 := hc.congr (fun a i q0 q1 => by rw [f2 a i (by omega), up1_ne (by omega)]; unfold refC; rw [up2_ne (by omega) (by omega)])
  refine s_tell h.lay (by omega) (fun _ => by rw [g201]; exact h01) (k ?_)
  rw [tellM_n hv.2]
  refine h.nwk hn hi hv (hc2.congr (fun a i q0 q1 => up2_ne (by omega) (by omega))) (fun a i q => by rw [up2_ne (by omega) (by omega), g a i (by omega)]) ?_ ?_ ?_ ?_ (h.lb.cg (fun i q => by rw [up2_ne (by omega) (by omega), g _ _ (by omega)]))
  · rw [up2_ne (by omega) (by omega)]; exact g11
  · rw [up_na (by decide), up_s]
  · rw [up2_ne (by omega) (by omega)]; exact g199
  · rw [up_s, g201]
/-- what the reference does where a work is done -/
theorem s_ywk (h : CP n S M) (hn : n < 512) {hh : HI} (hi : HisR M hh) {kind v : Int} (hk : 0 ≤ kind ∧ kind ≤ 3) (hv : 0 ≤ v) {g' : Int → Int} (ok : okS g') (y : g' 5 ≤ 999) (fx : Fix (M 202) g') {M1 M2 : mMem} (r9 : StkR g' 9 M1) (hc : HistC (pushH kind (M 202) hh) M1) (e11 : M1 1 11 = 0) (f1 : ∀ a i, ¬ (a = 191 ∨ (195 ≤ a ∧ a ≤ 197) ∨ (55 ≤ a ∧ a ≤ 176) ∨ (9 ≤ a ∧ a ≤ 15) ∨ (a = 1 ∧ i = 11)) → M1 a i = M a i)
    (row : M2 202 = g') (hm : HistM (pushH kind (M 202) hh) M2) (f2 : FrR (up M1 200 0 0) M2) (l42 : 0 ≤ M2 200 42 ∧ M2 200 42 ≤ M 200 42 + 999) (l43 : 0 ≤ M2 200 43 ∧ M2 200 43 ≤ 100000000) (k : CP (n + 1) S (tellM M2 v) → Q (some (vI v)) S (tellM M2 v)) : e_X9_tell d v S M2 Q := by
  have lf := h.lef
  refine s_tell h.lay (by omega) (fun w => absurd w (by omega)) (k ?_)
  rw [tellM_p (by omega)]
  have g2 : ∀ a i, a ≤ 199 ∨ 225 < a → M2 a i = M1 a i := fun a i q => by rw [f2 a i (by omega), up1_ne (by omega)]
  have row3 : up M2 200 1 0 202 = g' := by rw [← row]; exact funext fun i => up1_ne (by omega)
  refine h.wk hn hi hk ok y fx (r9.congr (fun a i q0 q1 => by rw [up1_ne (by omega), g2 a i (by omega)])) row3 (hm.congr (up1_ne (by omega)) (fun i _ _ => up1_ne (by omega)) (fun i => up1_ne (by omega))) (hc.congr (fun a i q0 q1 => by rw [up1_ne (by omega), g2 a i (by omega)])) (by rw [up1_ne (by omega), g2 _ _ (by omega)]; exact e11) (up_s _ _ _ _) (fun a i q => by rw [up1_ne (by omega), f2 a i (by omega), up1_ne (by omega), f1 a i (by omega)]) ⟨?_, ?_, ?_, ?_⟩
  · rw [up1_ne (by omega)]; have := lf.2.2.2.1; omega
  · rw [up1_ne (by omega)]; exact l43
  · rw [up1_ne (by omega), f2 _ _ (by omega), up1_ne (by omega), f1 _ _ (by omega)]; exact lf.2.2.2.2.2.1
  · rw [up1_ne (by omega), f2 _ _ (by omega), up1_ne (by omega), f1 _ _ (by omega)]; exact lf.2.2.2.2.2.2.1
end WA
