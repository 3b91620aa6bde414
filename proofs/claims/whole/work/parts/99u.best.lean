/-! Plans on paper, both sides: best. -/
section PO
variable {n : Int} {d : Nat} {S : mSh} {M M' : mMem} {Q : Option mV → mSh → mMem → Prop} {TL T : TX}
def lwA (M : mMem) : Int := if 0 ≤ M 202 4 then M 19 (M 202 4) else 16
theorem c_lawInForceT (h : CP n S M) (k : Q (some (vA (lwA M))) S M) : e_X3_lawInForce (d + 2) 8 S M Q := by
  have hc := h.cnt
  have sa := lSta8 h.lay
  refine b_X3_lawInForce_0 sa ?_
  rw [hc.2.2.2.1]
  unfold lwA at k
  refine b_X3_lawOf_0 sa (c_hasLaw sa (fun q => b_X3_lawOf_5 (fun w => absurd w (by decide)) (fun _ => b_X3_lawOf_8 (q1 := M 19 (M 202 4)) rfl sa (by have := hc.2.1; omega) (b_X3_lawInForce_8 ?_))) (fun q => b_X3_lawOf_5 (fun _ => b_X3_lawOf_17 sa (b_X3_lawInForce_8 ?_)) (fun w => absurd rfl w)))
  · rw [if_pos q.1] at k; exact k
  · have := hc.2.1
    have := hc.2.2.2.2
    rw [if_neg (by omega)] at k; exact k
theorem c_startPaperT (h : CP n S M) (hL : LwOf S M (M 202 4) (lwA M) TL) (k : ∀ M1, Wk S M1 177 (lwA M) (M 202) TL → M1 191 4 = 0 → M1 191 5 = 19000 → M1 191 6 = 0 → M1 196 4 = 0 → M1 196 5 = -1 → (∀ a i, ¬ (a = 191 ∨ a = 196 ∨ (177 ≤ a ∧ a ≤ 183)) → M1 a i = M a i) → Q none S M1) : e_X8_startPaper (d + 3) S M Q := by
  have L := h.lay
  have hs := lStk177 L
  refine b_X8_startPaper_0 L (c_copyFrom hs (lStk9 L) (by decide) h.r (fun M1 r1 f1 => b_X8_startPaper_14 L ?_))
  obtain ⟨hh, hi⟩ := h.his
  have h1 : CP n S M1 := h.s0 (fun a i q => f1 a i (by omega)) ⟨hh, hi.cg (f1 _ _ (by omega)) (fun i _ _ => f1 _ _ (by omega)) (fun i => f1 _ _ (by omega)) (fun a i _ _ => f1 _ _ (by omega)) (fun i _ => f1 _ _ (by omega))⟩
  have e2 : M1 202 = M 202 := funext fun i => f1 _ _ (by omega)
  have eA : lwA M1 = lwA M := by unfold lwA; rw [e2, f1 19 _ (by omega)]
  have hL1 : LwOf S M1 (M 202 4) (lwA M) TL := hL.mv (fun a i q => f1 a i (by omega))
  refine c_lawInForceT h1 ?_
  rw [eA]
  exact b_X8_startPaper_29 L (c_begin L hs r1 h.ok hL1 (Or.inr (Or.inl rfl)) (fun M2 wk a4 a5 a6 a7 a8 f2 => b_X8_startPaper_32 (k M2 wk a4 a5 a6 a7 a8 (fun a i q => by rw [f2 a i (by omega) (by omega), f1 a i (by omega)]))))
def bsN (mv yv : Nat → Int) (m : Int) : Nat → Int × Int
  | 0 => (-1, -1)
  | k + 1 => if m ≤ mv k ∧ (bsN mv yv m k).2 < yv k then ((k : Int), yv k) else bsN mv yv m k
theorem CP.up1 (h : CP n S M) (hn : n < 512) : CP (n + 1) S M := h.sc hn (fun _ _ _ => rfl) h.lb
theorem t_best {y m : Int} : TwoI n (e_X8_best (d + 8) y m) (e_X9_best (d + 13) y m) := fun S M h hn => by
  have L := h.lay
  have hc := h.cnt
  have T0 := h.th hn
  have nn := h.nn
  have no : ¬ ((0 ≤ y ∧ y ≤ 60) ∧ (0 ≤ m ∧ m ≤ 19000)) → e_X9_best (d + 13) y m S M (fun r2 S2 M2 => r2 = some (vI (-1)) ∧ CP (n + 1) S2 M2) := fun q =>
    b_X9_best_0 L (s_in (fun q1 => b_X9_best_14 (fun e => absurd e (by decide)) (fun _ => b_X9_best_17 (s_in (fun q2 => absurd ⟨q1, q2⟩ q) (fun q2 => b_X9_best_26 (fun e => absurd rfl e) (fun _ => b_X9_best_29 ⟨rfl, T0⟩))))) (fun q1 => b_X9_best_14 (fun _ => b_X9_best_29 ⟨rfl, T0⟩) (fun e => absurd rfl e)))
  refine b_X8_best_0 (c_isWithin (fun qy => b_X8_best_7 (fun e => absurd e (by decide)) (fun _ => b_X8_best_10 (c_isWithin (fun qm => b_X8_best_18 (fun _ => b_X8_best_23 ?_) (fun e => absurd e (by decide))) (fun qm => b_X8_best_18 (fun e => absurd rfl e) (fun _ => b_X8_best_21 ⟨_, rfl, no (fun w => qm w.2)⟩))))) (fun qy => b_X8_best_7 (fun _ => b_X8_best_21 ⟨_, rfl, no (fun w => qy w.1)⟩) (fun e => absurd rfl e)))
  obtain ⟨TL, hL⟩ := h.law hc.2.2.2.2
  have hL : LwOf S M (M 202 4) (lwA M) TL := hL
  have fm : ForM (M 202) TL := hL.fm rfl
  obtain ⟨F, hF⟩ : ∃ F : Int → TX, ∀ p, 0 ≤ p ∧ p < M 202 3 → PlanM (M 202) (198 + 948 * p) (F p) ∧ TextC false S M (M 20 p) (F p) ∧ okTO (F p) := by
    refine ⟨fun p => Classical.epsilon (fun T => PlanM (M 202) (198 + 948 * p) T ∧ TextC false S M (M 20 p) T ∧ okTO T), fun p hp => ?_⟩
    obtain ⟨-, -, -, T, a, b, c⟩ := h.plan hp
    exact Classical.epsilon_spec (p := fun T => PlanM (M 202) (198 + 948 * p) T ∧ TextC false S M (M 20 p) T ∧ okTO T) ⟨T, a, b, c⟩
  obtain ⟨mv, hmv⟩ : ∃ mv : Nat → Int, ∀ k : Nat, mv k = mnS (ysN TL (F k) (sg0 (M 202)) y.toNat) := ⟨_, fun _ => rfl⟩
  obtain ⟨yv, hyv⟩ : ∃ yv : Nat → Int, ∀ k : Nat, yv k = ylS (ysN TL (F k) (sg0 (M 202)) y.toNat) := ⟨_, fun _ => rfl⟩
  have g3 := hc.2.2.1
  have rf : ∀ M2, (∀ a i, ¬ ((177 ≤ a ∧ a ≤ 183) ∨ a = 191 ∨ (195 ≤ a ∧ a ≤ 197)) → M2 a i = M a i) → e_X9_best (d + 13) y m S M2 (fun r2 S2 M2 => r2 = some (vI (bsN mv yv m (M 202 3).toNat).1) ∧ CP (n + 1) S2 M2) := fun M2 f12 => by
    have h2 : CP n S M2 := h.pp f12
    have m2 : M2 202 = M 202 := funext fun i => f12 _ _ (by omega)
    have z2 : up M2 200 0 0 202 = M 202 := by rw [← m2]; exact funext fun i => up1_ne (by omega)
    have h3 : CP n S (up M2 200 0 0) := h2.scm (m := n) ⟨Int.le_refl _, nn.2⟩ (fun a i q => up1_ne (by omega)) (by
      have := h2.lef
      exact Lbd.cg (M := M2) ⟨this.2.2.2.1, this.2.2.2.2.1, this.2.2.2.2.2.1, this.2.2.2.2.2.2.1⟩ (fun i q => up1_ne (by omega)))
    refine b_X9_best_0 L (s_in (fun _ => b_X9_best_14 (fun e => absurd e (by decide)) (fun _ => b_X9_best_17 (s_in (fun _ => b_X9_best_26 (fun _ => b_X9_best_31 ?_) (fun e => absurd e (by decide))) (fun q => absurd qm q)))) (fun q => absurd qy q))
    have key := for_up (W := fun j => ∀ N u6 u7, CP n S N → N 202 = M 202 → WP PR (d + 13) 242 39 [vA 200, vI y, vI m, vI (bsN mv yv m j.toNat).2, vI (bsN mv yv m j.toNat).1, vI j, u6, u7] [] S N (fun r2 S2 M2 => r2 = some (vI (bsN mv yv m (M 202 3).toNat).1) ∧ CP (n + 1) S2 M2)) (lo := 0) (hi := M 202 3) g3.1 (fun N u6 u7 cp rN => b_X9_best_39 L (fun _ => b_X9_best_112 ⟨rfl, cp.up1 hn⟩) (fun q => absurd q (by rw [rN]; omega))) (fun j j0 j1 ih N u6 u7 cp rN => b_X9_best_39 L (fun q => absurd q (by rw [rN]; omega)) (fun _ => b_X9_best_50 L ?_))
    · exact key _ _ _ h3 z2
    · obtain ⟨hP, hX, hO⟩ := hF j ⟨j0, j1⟩
      have ej : ((j.toNat : Nat) : Int) = j := by omega
      refine s_yieldOf cp (m := n) ⟨Int.le_refl _, nn.2⟩ hO (by omega) qy (by rw [rN]; exact fm) (by rw [rN]; exact hP) (fun N2 cp2 r2 e43 => ?_) (fun a i q => rfl)
      rw [rN] at e43 r2 ⊢
      have em : mnS (ysN TL (F j) (sg0 (M 202)) y.toNat) = mv j.toNat := by rw [hmv, ej]
      have ey : ylS (ysN TL (F j) (sg0 (M 202)) y.toNat) = yv j.toNat := by rw [hyv, ej]
      rw [ey]
      rw [em] at e43
      have es : bsN mv yv m (j + 1).toNat = if m ≤ mv j.toNat ∧ (bsN mv yv m j.toNat).2 < yv j.toNat then (j, yv j.toNat) else bsN mv yv m j.toNat := by
        rw [show (j + 1).toNat = j.toNat + 1 by omega]
        show (if m ≤ mv j.toNat ∧ (bsN mv yv m j.toNat).2 < yv j.toNat then (((j.toNat : Nat) : Int), yv j.toNat) else bsN mv yv m j.toNat) = _
        rw [ej]
      have ih2 := fun u6 u7 => ih N2 u6 u7 cp2 r2
      rw [es] at ih2
      refine b_X9_best_57 L (fun q => b_X9_best_77 (by omega) ?_) (fun q => b_X9_best_67 (fun q2 => b_X9_best_77 (by omega) ?_) (fun q2 => b_X9_best_73 (by omega) ?_))
      · rw [e43] at q
        rw [if_neg (by omega)] at ih2
        exact ih2 _ _
      · rw [if_neg (by omega)] at ih2
        exact ih2 _ _
      · rw [e43] at q
        rw [if_pos ⟨q, q2⟩] at ih2
        exact ih2 _ _
  have key := for_up (W := fun j => ∀ N, (∀ a i, ¬ ((177 ≤ a ∧ a ≤ 183) ∨ a = 191 ∨ (195 ≤ a ∧ a ≤ 197)) → N a i = M a i) → WP PR (d + 8) 106 31 [vA 1, vI y, vI m, vI (bsN mv yv m j.toNat).1, vI (bsN mv yv m j.toNat).2, vI j] [] S N (fun r S1 M1 => ∃ v, r = some (vI v) ∧ e_X9_best (d + 13) y m S1 M1 (fun r2 S2 M2 => r2 = some (vI v) ∧ CP (n + 1) S2 M2))) (lo := 0) (hi := M 202 3) g3.1 (fun N fN => b_X8_best_31 L (fun _ => b_X8_best_106 ⟨_, rfl, rf N fN⟩) (fun q => absurd q (by rw [fN _ _ (by omega), g3.2.2]; omega))) (fun j j0 j1 ih N fN => b_X8_best_31 L (fun q => absurd q (by rw [fN _ _ (by omega), g3.2.2]; omega)) (fun _ => b_X8_best_43 L ?_))
  · exact key M (fun _ _ _ => rfl)
  · have hN : CP n S N := h.pp fN
    have rN : N 202 = M 202 := funext fun i => fN _ _ (by omega)
    have x20 : N 20 j = M 20 j := fN _ _ (by omega)
    have lN : lwA N = lwA M := by unfold lwA; rw [rN, fN 19 _ (by omega)]
    have hLN : LwOf S N (N 202 4) (lwA N) TL := by rw [lN, rN]; exact hL.mv (fun a i q => fN a i (by omega))
    obtain ⟨hP, hX, hO⟩ := hF j ⟨j0, j1⟩
    obtain ⟨x1, x2, p4, -⟩ := h.plan ⟨j0, j1⟩
    have ej : ((j.toNat : Nat) : Int) = j := by omega
    refine c_startPaperT hN hLN (fun M1 wk a4 a5 a6 a7 a8 f1 => ?_)
    have hXN : TextC false S N (N 20 j) (F j) := by rw [x20]; exact hX.congr (fun a i q0 q1 => fN a i (by omega))
    have ws := WS.of hN wk a4 a5 a7 a8 f1 (p := j) ⟨by omega, by omega⟩ hXN hO
    refine b_X8_best_47 (q1 := N 20 j) (f1 _ _ (by omega)) L p4 (c_yrs hN hO (j := 0) (by decide) ws a6 ⟨qy.1, qy.2, by omega⟩ (fun M2 w2 f2 e6 => ?_))
    have w2 : WS S M2 177 (lwA N) (N 20 j) TL (F j) (ysN TL (F j) (sg0 (N 202)) y.toNat) := w2
    rw [rN] at w2
    have f12 := FrYr.pp f1 f2
    have fM : ∀ a i, ¬ ((177 ≤ a ∧ a ≤ 183) ∨ a = 191 ∨ (195 ≤ a ∧ a ≤ 197)) → M2 a i = M a i := fun a i q => by rw [f12 a i q, fN a i q]
    have em : M2 191 5 = yC (mv j.toNat) := by rw [w2.mn, hmv, ej]
    have ey : M2 191 4 = yv j.toNat := by rw [w2.yl, hyv, ej]
    have es : bsN mv yv m (j + 1).toNat = if m ≤ mv j.toNat ∧ (bsN mv yv m j.toNat).2 < yv j.toNat then (j, yv j.toNat) else bsN mv yv m j.toNat := by
      rw [show (j + 1).toNat = j.toNat + 1 by omega]
      show (if m ≤ mv j.toNat ∧ (bsN mv yv m j.toNat).2 < yv j.toNat then (((j.toNat : Nat) : Int), yv j.toNat) else bsN mv yv m j.toNat) = _
      rw [ej]
    have ih2 := ih M2 fM
    rw [es] at ih2
    have yc : m ≤ yC (mv j.toNat) ↔ m ≤ mv j.toNat := by unfold yC; split <;> omega
    refine b_X8_best_65 L (fun q => b_X8_best_100 (by omega) ?_) (fun q => b_X8_best_76 L (fun q2 => b_X8_best_100 (by omega) ?_) (fun q2 => b_X8_best_88 L (by omega) ?_))
    · rw [em] at q
      rw [if_neg (fun w => by have := yc.mpr w.1; omega)] at ih2
      exact ih2
    · rw [ey] at q2
      rw [if_neg (by omega)] at ih2
      exact ih2
    · rw [em] at q
      rw [ey] at q2 ⊢
      rw [if_pos ⟨yc.mp q, q2⟩] at ih2
      exact ih2
end PO
