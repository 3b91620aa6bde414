/-! Plans on paper, both sides: how they begin and end. -/
section PL
variable {n : Int} {d : Nat} {S : mSh} {M M' : mMem} {Q : Option mV → mSh → mMem → Prop} {TL T : TX}
def sg0 (g : Int → Int) : ST := (g, 0, -1, 0, 100000000)
def Same (σ σ' : ST) : Prop := gS σ' = gS σ ∧ ylS σ' = ylS σ ∧ mnS σ' = mnS σ
theorem Same.y {σ σ' : ST} (h : Same σ σ') : y0 σ' = y0 σ := by unfold y0; rw [h.1, h.2.1, h.2.2]
theorem Same.e {σ σ' : ST} (h : Same σ σ') : pyE TL T σ' = pyE TL T σ := by unfold pyE; rw [h.y]
theorem Same.r {σ σ' : ST} (h : Same σ σ') : yrS TL T σ' = yrS TL T σ := by unfold yrS; rw [h.e]
theorem Same.ys {σ σ' : ST} (h : Same σ σ') : ∀ k : Nat, Same (ysN TL T σ k) (ysN TL T σ' k)
  | 0 => h
  | k + 1 => by
    show Same (yrS TL T (ysN TL T σ k)) (yrS TL T (ysN TL T σ' k))
    rw [(h.ys k).r]
    exact ⟨rfl, rfl, rfl⟩
theorem sg0_ok {g : Int → Int} (ok : okS g) : okST (sg0 g) := ⟨ok, by show (0 : Int) ≤ 0 ∧ (0 : Int) ≤ 1000; omega, by show (-1 : Int) ≤ -1 ∧ (-1 : Int) ≤ 19000; omega, by show (0 : Int) ≤ 0 ∧ (0 : Int) ≤ 1500000000; omega, by show (0 : Int) ≤ 100000000 ∧ (100000000 : Int) ≤ 100000000; omega⟩
/-- the class begins on paper -/
theorem c_startPaper (h : CP n S M) (k : ∀ M1 t TL, ForM (M 202) TL → okTL TL → Wk S M1 177 t (M 202) TL → M1 191 4 = 0 → M1 191 5 = 19000 → M1 191 6 = 0 → M1 196 4 = 0 → M1 196 5 = -1 → (∀ a i, ¬ (a = 191 ∨ a = 196 ∨ (177 ≤ a ∧ a ≤ 183)) → M1 a i = M a i) → (t = 16 ∨ 225 < t) → Q none S M1) : e_X8_startPaper (d + 3) S M Q := by
  have L := h.lay
  have hs := lStk177 L
  refine b_X8_startPaper_0 L (c_copyFrom hs (lStk9 L) (by decide) h.r (fun M1 r1 f1 => b_X8_startPaper_14 L ?_))
  obtain ⟨hh, hi⟩ := h.his
  have h1 : CP n S M1 := h.s0 (fun a i q => f1 a i (by omega)) ⟨hh, hi.cg (f1 _ _ (by omega)) (fun i _ _ => f1 _ _ (by omega)) (fun i => f1 _ _ (by omega)) (fun a i _ _ => f1 _ _ (by omega)) (fun i _ => f1 _ _ (by omega))⟩
  have e2 : M1 202 = M 202 := funext fun i => f1 _ _ (by omega)
  refine c_lawInForce h1 (fun t TL hT => b_X8_startPaper_29 L (c_begin L hs r1 h.ok hT (Or.inr (Or.inl rfl)) (fun M2 wk a4 a5 a6 a7 a8 f2 => b_X8_startPaper_32 (k M2 t TL ?_ hT.2.1 wk a4 a5 a6 a7 a8 (fun a i q => by rw [f2 a i (by omega) (by omega), f1 a i (by omega)]) (by have := hT.2.2.1; omega)))))
  have := hT.fm rfl
  rw [e2] at this
  exact this
/-- a plan's text at both sides -/
theorem CP.plan (h : CP n S M) {p : Int} (hp : 0 ≤ p ∧ p < M 202 3) : 225 < M 20 p ∧ M 20 p + 2 ≤ sN S ∧ (0 ≤ p ∧ p < 4) ∧ ∃ T, PlanM (M 202) (198 + 948 * p) T ∧ TextC false S M (M 20 p) T ∧ okTO T := by
  obtain ⟨x1, x2, T, x3, x4⟩ := h.sta.2.2.2.2.1.2 p hp.1 hp.2
  have := h.cnt.2.2.1
  exact ⟨x1, x2, by omega, T, x3, x4, x3.1⟩
/-- the worker on paper with a plan -/
theorem WS.of {M1 : mMem} (h : CP n S M) {t p : Int} (wk : Wk S M1 177 t (M 202) TL) (e4 : M1 191 4 = 0) (e5 : M1 191 5 = 19000) (e7 : M1 196 4 = 0) (e8 : M1 196 5 = -1) (f1 : ∀ a i, ¬ (a = 191 ∨ a = 196 ∨ (177 ≤ a ∧ a ≤ 183)) → M1 a i = M a i) (hp : 225 < M 20 p ∧ M 20 p + 2 ≤ sN S) (hx : TextC false S M (M 20 p) T) (ho : okTO T) : WS S M1 177 t (M 20 p) TL T (sg0 (M 202)) :=
  ⟨wk, hx.congr (fun a i q0 q1 => f1 a i (by omega)), ho, by omega, by omega, e7, e8, e4, e5, sg0_ok h.ok⟩
/-- amid a call: the class has worked on paper -/
theorem CP.pp {M1 : mMem} (h : CP n S M) (f : ∀ a i, ¬ ((177 ≤ a ∧ a ≤ 183) ∨ a = 191 ∨ (195 ≤ a ∧ a ≤ 197)) → M1 a i = M a i) : CP n S M1 := by
  obtain ⟨hh, hi⟩ := h.his
  exact h.s0 (fun a i q => f a i (by omega)) ⟨hh, hi.cg (f _ _ (by omega)) (fun i _ _ => f _ _ (by omega)) (fun i => f _ _ (by omega)) (fun a i _ _ => f _ _ (by omega)) (fun i _ => f _ _ (by omega))⟩
/-- the reference loads a plan -/
theorem s_loadPlan (L : Lay S) {p : Int} (hp : 0 ≤ p ∧ p < 4) (hP : PlanM (M 202) (198 + 948 * p) T) (k : ∀ M', DrO M' (tn T) T → M' 200 21 = tn T → (0 ≤ M' 200 23 ∧ M' 200 23 ≤ 400) → (∀ a i, ¬ ((a = 200 ∧ (i = 21 ∨ i = 23)) ∨ a = 211 ∨ a = 212 ∨ a = 223) → M' a i = M a i) → Q none S M') : e_X9_loadPlan d p S M Q := by
  obtain ⟨o1, o2, o3, Mx, o4, o5, o6, o7⟩ := hP
  have n0 := o1.1.1
  have n12 := o1.1.2.1
  have f1 : ∀ a i, ¬ (a = 200 ∧ (i = 21 ∨ i = 23)) → up (up M 200 21 (M 202 (198 + 948 * p))) 200 23 (M 202 (198 + 948 * p + 1)) a i = M a i := fun a i q => up2_ne (by omega) (by omega)
  have e21 : up (up M 200 21 (M 202 (198 + 948 * p))) 200 23 (M 202 (198 + 948 * p + 1)) 200 21 = tn T := by rw [up_ni (by decide), up_s]; exact o2
  have e23 : up (up M 200 21 (M 202 (198 + 948 * p))) 200 23 (M 202 (198 + 948 * p + 1)) 200 23 = M 202 (198 + 948 * p + 1) := up_s _ _ _ _
  refine b_X9_loadPlan_0 L (by omega) ?_
  generalize up (up M 200 21 (M 202 (198 + 948 * p))) 200 23 (M 202 (198 + 948 * p + 1)) = M1 at *
  have key := for_up (W := fun x => ∀ N : mMem, (∀ i, 0 ≤ i → i < x → N 223 i = Mx 223 i) → (∀ a i, a ≠ 223 → N a i = M1 a i) → WP PR d 222 34 [vA 200, vI p, vI (198 + 948 * p), vI x] [] S N Q) (lo := 0) (hi := 10 * tn T) (by omega) (fun N eN fN => ?_) (fun x x0 x7 ih N eN fN => ?_)
  · exact key M1 (fun i q0 q1 => absurd q1 (by omega)) (fun _ _ _ => rfl)
  · have n21 : N 200 21 = tn T := by rw [fN _ _ (by decide)]; exact e21
    have n23 : N 200 23 = M 202 (198 + 948 * p + 1) := by rw [fN _ _ (by decide)]; exact e23
    refine b_X9_loadPlan_34 L (by rw [n21]; omega) (fun _ => b_X9_loadPlan_67 ?_) (fun w => absurd w (by rw [n21]; omega))
    have key2 := for_up (W := fun x => ∀ N2 : mMem, (∀ i, 0 ≤ i → i < x → N2 211 i = Mx 211 i ∧ N2 212 i = Mx 212 i) → (∀ a i, a ≠ 211 → a ≠ 212 → N2 a i = N a i) → WP PR d 222 69 [vA 200, vI p, vI (198 + 948 * p), vI x] [] S N2 Q) (lo := 0) (hi := M 202 (198 + 948 * p + 1)) o3.1 (fun N2 eN2 fN2 => ?_) (fun x x0 x7 ih N2 eN2 fN2 => ?_)
    · exact key2 N (fun i q0 q1 => absurd q1 (by omega)) (fun _ _ _ _ => rfl)
    · have m23 : N2 200 23 = M 202 (198 + 948 * p + 1) := by rw [fN2 _ _ (by decide) (by decide)]; exact n23
      refine b_X9_loadPlan_69 L (fun _ => b_X9_loadPlan_125 (k N2 (o4.gr (by rw [m23, o5]; exact Int.le_refl _) (fun i q0 q1 => ?_) (fun i q0 q1 => ?_)) (by rw [fN2 _ _ (by decide) (by decide)]; exact n21) (by rw [m23]; exact o3) (fun a i q => by rw [fN2 a i (by omega) (by omega), fN a i (by omega), f1 a i (by omega)]))) (fun w => absurd w (by rw [m23]; omega))
      · rw [o5] at q1
        exact cdO_eq (eN2 i q0 q1).1 (eN2 i q0 q1).2
      · rw [fN2 _ _ (by decide) (by decide)]; exact eN i q0 q1
    · have m23 : N2 200 23 = M 202 (198 + 948 * p + 1) := by rw [fN2 _ _ (by decide) (by decide)]; exact n23
      have r2 : ∀ i, N2 202 i = M 202 i := fun i => by rw [fN2 _ _ (by decide) (by decide), fN _ _ (by decide), f1 _ _ (by omega)]
      refine b_X9_loadPlan_69 L (fun w => absurd w (by rw [m23]; omega)) (fun _ => b_X9_loadPlan_77 L (by omega) (ih _ (fun i q0 q1 => ?_) (fun a i q0 q1 => by rw [up_na q1, up_na q0]; exact fN2 a i q0 q1)))
      have o7' := o7 x x0 x7
      by_cases ei : i = x
      · subst ei
        refine ⟨?_, ?_⟩
        · rw [up_na (by decide), up_s, r2]; exact o7'.1
        · rw [up_s, r2]; exact o7'.2
      · rw [up_na (by decide), up_ni ei, up_ni ei, up_na (by decide)]
        exact eN2 i q0 (by omega)
  · have n21 : N 200 21 = tn T := by rw [fN _ _ (by decide)]; exact e21
    refine b_X9_loadPlan_34 L (by rw [n21]; omega) (fun w => absurd w (by rw [n21]; omega)) (fun _ => b_X9_loadPlan_45 L (by omega) (ih _ (fun i q0 q1 => ?_) (fun a i q => by rw [up_na q]; exact fN a i q)))
    by_cases ei : i = x
    · subst ei
      rw [up_s, fN _ _ (by decide), f1 _ _ (by omega)]; exact o6 i x0 x7
    · rw [up_ni ei]; exact eN i q0 (by omega)
theorem DrO.ord (ho : okTO T) (h : DrO M (tn T) T) (hn : M 200 23 ≤ 400) : OrdM (M 223) (cdO M) T := ⟨ho, fun i q0 q1 => by
  obtain ⟨a, b, c, e, f, g⟩ := h i q0 q1
  exact ⟨a, b, c.m hn, e.m hn, f.m hn, g.m hn⟩⟩
/-- what a plan on paper writes at the reference -/
def FrPp (M M' : mMem) : Prop := ∀ a i, ¬ (a = 202 ∨ (218 ≤ a ∧ a ≤ 221) ∨ a = 211 ∨ a = 212 ∨ a = 223 ∨ (a = 205 ∧ 2640 ≤ i) ∨ (a = 200 ∧ (i = 0 ∨ i = 21 ∨ i = 23 ∨ i = 34 ∨ i = 38 ∨ i = 39 ∨ i = 40 ∨ i = 42 ∨ i = 43 ∨ i = 46 ∨ i = 47 ∨ i = 49 ∨ i = 50))) → M' a i = M a i
theorem FrPp.u {M2 : mMem} (h : FrPp M M') (h' : FrU M' M2) : FrPp M M2 := fun a i q => (h' a i (by omega)).trans (h a i q)
/-- the reference on paper, j years on: its state, and the row as it was, kept -/
def PaS (M : mMem) (σ : ST) : Prop := Same (sg0 (M 202)) σ ∧ okST σ
def PaM (M : mMem) (TL T : TX) (σ : ST) (j : Nat) (M' : mMem) : Prop := MS M' TL T (ysN TL T σ j) ∧ (∀ x, 0 ≤ x → x < 165 → M' 205 (2640 + x) = M 202 (5 + x)) ∧ FrPp M M'
theorem PaS.ys {σ : ST} (hs : PaS M σ) (ho : okTO T) (hy : M 202 5 ≤ 999) {j : Nat} (hj : j ≤ 100) : okST (ysN TL T σ j) ∧ gS (ysN TL T σ j) 5 = M 202 5 + j ∧ (0 ≤ ylS (ysN TL T σ j) ∧ ylS (ysN TL T σ j) ≤ 239760 * (j : Int)) ∧ Fix (M 202) (gS (ysN TL T σ j)) := by
  have e0 : ylS σ = 0 := hs.1.2.1
  have eg : gS σ = M 202 := hs.1.1
  obtain ⟨y1, y2, y3, y4⟩ := ys_yrs (TL := TL) ho hs.2 (by omega) (by rw [eg]; exact hy) j hj
  rw [eg] at y2 y4
  exact ⟨y1, y2, by omega, y4⟩
theorem s_beginPlan (h : CP n S M) {p : Int} (hp : 0 ≤ p ∧ p < 4) (hT : ForM (M 202) TL) (hP : PlanM (M 202) (198 + 948 * p) T) (k : ∀ M' σ, PaS M σ → PaM M TL T σ 0 M' → Q none S M') {M0 : mMem} (f0 : ∀ a i, ¬ (a = 200 ∧ i = 0) → M0 a i = M a i) : e_X9_beginPlan (d + 1) p S M0 Q := by
  have L := h.lay
  have lf := h.lef
  have e0 : M0 202 = M 202 := funext fun i => f0 _ _ (by omega)
  refine b_X9_beginPlan_0 L (s_loadPlan L hp (by rw [e0]; exact hP) (fun M1 dr e21 e23 f1 => b_X9_beginPlan_5 L (s_keepAll L (by decide) (b_X9_beginPlan_11 L ?_))))
  have e1 : ∀ i, M1 202 i = M 202 i := fun i => by rw [f1 _ _ (by omega), f0 _ _ (by omega)]
  have g : ∀ a i, ¬ ((a = 205 ∧ 2640 ≤ i ∧ i < 2805) ∨ (a = 200 ∧ (i = 42 ∨ i = 43))) → up (up (keepM M1 16) 200 42 0) 200 43 100000000 a i = M1 a i := fun a i q => by rw [up2_ne (by omega) (by omega)]; exact if_neg (by omega)
  have g5 : ∀ x, 0 ≤ x → x < 165 → up (up (keepM M1 16) 200 42 0) 200 43 100000000 205 (2640 + x) = M 202 (5 + x) := fun x q0 q1 => by
    rw [up2_ne (by omega) (by omega)]
    show fw M1 205 (fun i => M1 202 (5 + (i - 165 * 16))) (165 * 16) 165 205 (2640 + x) = _
    rw [fw_i (by omega), e1, show 5 + (2640 + x - 165 * 16) = 5 + x by omega]
  have g42 : up (up (keepM M1 16) 200 42 0) 200 43 100000000 200 42 = 0 := by rw [up_ni (by decide), up_s]
  have g43 : up (up (keepM M1 16) 200 42 0) 200 43 100000000 200 43 = 100000000 := up_s _ _ _ _
  generalize up (up (keepM M1 16) 200 42 0) 200 43 100000000 = M2 at *
  have ff : ∀ a i, ¬ ((a = 205 ∧ 2640 ≤ i) ∨ (a = 200 ∧ (i = 0 ∨ i = 42 ∨ i = 43 ∨ i = 21 ∨ i = 23)) ∨ a = 211 ∨ a = 212 ∨ a = 223) → M2 a i = M a i := fun a i q => by rw [g a i (by omega), f1 a i (by omega), f0 a i (by omega)]
  have c2 : cdO M2 = cdO M1 := funext fun i => cdO_eq (g _ _ (by omega)) (g _ _ (by omega))
  have t2 : M2 223 = M1 223 := funext fun i => g _ _ (by omega)
  have okσ : okST (M 202, M 200 46, M 200 47, 0, 100000000) := ⟨h.ok, lf.2.2.2.2.2.1, lf.2.2.2.2.2.2.1, by show (0 : Int) ≤ 0 ∧ (0 : Int) ≤ 1500000000; omega, by show (0 : Int) ≤ 100000000 ∧ (100000000 : Int) ≤ 100000000; omega⟩
  refine k M2 (M 202, M 200 46, M 200 47, 0, 100000000) ⟨⟨rfl, rfl, rfl⟩, okσ⟩ ⟨⟨funext fun i => ff _ _ (by omega), hT, ?_, by rw [g _ _ (by omega)]; exact e21, ff _ _ (by omega), ff _ _ (by omega), g42, g43, by rw [ff _ _ (by omega)]; exact lf.2.2.1, okσ⟩, g5, fun a i q => ff a i (by omega)⟩
  rw [t2, c2]
  exact dr.ord hP.1 e23.2
/-- one more year of the plan -/
theorem s_year (h : CP n S M) (ho : okTO T) {σ : ST} (hs : PaS M σ) {j : Nat} (hj : j ≤ 60) (hm : PaM M TL T σ j M') (k : ∀ M2, PaM M TL T σ (j + 1) M2 → M2 200 50 = (pyE TL T (ysN TL T (sg0 (M 202)) j)).2 → Q none S M2) : e_X9_planYear (d + 11) S M' Q := by
  have hy := h.y
  obtain ⟨y1, y2, y3, y4⟩ := hs.ys (TL := TL) ho hy (j := j) (by omega)
  refine s_planYear h.lay hm.1 (by omega) (by omega) (fun M2 m2 e50 f2 => k M2 ⟨m2, fun x q0 q1 => by rw [f2 _ _ (by omega)]; exact hm.2.1 x q0 q1, hm.2.2.u f2⟩ ?_)
  rw [e50, (hs.1.ys j).e]
/-- only scratch has changed, m calls on -/
theorem CP.scm {m : Int} (h : CP n S M) (hm : n ≤ m ∧ m ≤ 512) (f : ∀ a i, (a = 1 ∨ a = 2 ∨ a = 3 ∨ (7 ≤ a ∧ a ≤ 176) ∨ (184 ≤ a ∧ a ≤ 190) ∨ a = 199 ∨ (201 ≤ a ∧ a ≤ 204) ∨ (a = 205 ∧ i < 2640) ∨ a = 206 ∨ a = 209 ∨ (215 ≤ a ∧ a ≤ 217) ∨ a = 222 ∨ a = 225 ∨ (a = 200 ∧ (i = 54 ∨ i = 20 ∨ i = 13 ∨ i = 8 ∨ i = 1 ∨ i = 11 ∨ i = 18 ∨ i = 48)) ∨ (225 < a ∧ a ≤ sN S)) → M' a i = M a i) (lb : Lbd m M') : CP m S M' := by
  obtain ⟨w1, w2, w3, w4⟩ := h.wrd
  obtain ⟨hh, hi⟩ := h.his
  refine h.all hm (GrS.rf S) (fun a i q => f a i (by omega)) (h.sta.cg (GrS.rf S) (fun i q0 q1 => f _ _ (by omega)) (fun x i q0 q1 => f x i (by omega)) (fun x i q0 q1 => f x i (by omega))) ⟨hh, hi.cg (f _ _ (by omega)) (fun i _ _ => f _ _ (by omega)) (fun i => f _ _ (by omega)) (fun a i _ _ => f _ _ (by omega)) (fun i _ => f _ _ (by omega))⟩ (h.tap.cg (f _ _ (by omega)) (fun i => f _ _ (by omega)) (fun i => f _ _ (by omega)) (f _ _ (by omega))) ⟨?_, ?_, ?_, ?_⟩ (h.rf.cg hm.1 (fun i => f _ _ (by omega)) (fun i => f _ _ (by omega))) (fun k q0 q1 => by rw [f _ _ (by omega)]; exact h.lef.1 k q0 q1) lb ⟨by have := h.sz.1; omega, by have := h.sz.2; omega⟩
  · rw [f 1 11 (by omega), f 200 1 (by omega)]; exact w1
  · rw [f 1 12 (by omega), f 200 11 (by omega)]; exact w2
  · rw [f 1 13 (by omega), f 200 18 (by omega)]; exact w3
  · rw [f 1 14 (by omega), f 200 48 (by omega)]; exact w4
/-- the paper is put away -/
theorem s_pend {m : Int} (h : CP n S M) (hm : n ≤ m ∧ m ≤ 512) (ho : okTO T) {σ : ST} (hs : PaS M σ) {j : Nat} (hj : j ≤ 60 ∨ (j ≤ 61 ∧ n + 1 ≤ m)) (hM : PaM M TL T σ j M') (k : ∀ M2, CP m S M2 → M2 202 = M 202 → M2 200 42 = ylS (ysN TL T (sg0 (M 202)) j) → M2 200 43 = mnS (ysN TL T (sg0 (M 202)) j) → Q none S M2) : e_X9_putBack d 16 S M' Q := by
  have hy := h.y
  have nn := h.nn
  obtain ⟨y1, y2, y3, y4⟩ := hs.ys (TL := TL) ho hy (j := j) (by omega)
  obtain ⟨m1, m2, m3, m4, m5, m6, m7, m8, m9, m10⟩ := hM.1
  have f2 : ∀ a i, ¬ (a = 202 ∧ 5 ≤ i ∧ i < 170) → putM M' 16 a i = M' a i := fun a i q => if_neg (by omega)
  have row : putM M' 16 202 = M 202 := funext fun i => by
    by_cases q : 5 ≤ i ∧ i < 170
    · show fw M' 202 (fun i => M' 205 (165 * 16 + (i - 5))) 5 165 202 i = _
      rw [fw_i (by omega), show 165 * 16 + (i - 5) = 2640 + (i - 5) by omega, hM.2.1 (i - 5) (by omega) (by omega), show 5 + (i - 5) = i by omega]
    · rw [f2 _ _ (by omega), m1]; exact y4 i (by omega)
  have sm := hs.1.ys (TL := TL) (T := T) j
  refine s_putBack h.lay (by decide) (k _ ?_ row (by rw [f2 _ _ (by omega), m7, sm.2.1]) (by rw [f2 _ _ (by omega), m8, sm.2.2]))
  refine h.scm hm (fun a i q => ?_) ⟨?_, ?_, ?_, ?_⟩
  · by_cases q2 : a = 202
    · rw [q2, row]
    · rw [f2 a i (by omega)]; exact hM.2.2 a i (by omega)
  · rw [f2 _ _ (by omega), m7]; omega
  · rw [f2 _ _ (by omega), m8]; exact y1.2.2.2.2
  · rw [f2 _ _ (by omega), m5]; exact y1.2.1
  · rw [f2 _ _ (by omega), m6]; exact y1.2.2.1
theorem s_isPlan (L : Lay S) {p : Int} (h3 : 0 ≤ M 202 3 ∧ M 202 3 ≤ 4) (k1 : 0 ≤ p ∧ p < M 202 3 → Q (some (vI 1)) S M) (k0 : ¬ (0 ≤ p ∧ p < M 202 3) → Q (some (vI 0)) S M) : e_X9_isPlan (d + 1) p S M Q :=
  b_X9_isPlan_0 L (by omega) (s_in (fun q => b_X9_isPlan_15 (Or.inr rfl) (k1 (by omega))) (fun q => b_X9_isPlan_15 (Or.inl rfl) (k0 (by omega))))
end PL
