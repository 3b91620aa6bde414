/-! The coupling of the class with the reference. -/
def GrS (S S' : mSh) : Prop := sN S ≤ sN S' ∧ ∀ a, 1 ≤ a → a ≤ sN S → sK S' a = sK S a ∧ sL S' a = sL S a ∧ ∀ k, sF S' a k = sF S a k
theorem GrS.rf (S : mSh) : GrS S S := ⟨Int.le_refl _, fun _ _ _ => ⟨rfl, rfl, fun _ => rfl⟩⟩
theorem GrS.tr {S S' S'' : mSh} (h : GrS S S') (h' : GrS S' S'') : GrS S S'' := ⟨Int.le_trans h.1 h'.1, fun a h1 h2 => by
  obtain ⟨x1, x2, x3⟩ := h.2 a h1 h2
  obtain ⟨y1, y2, y3⟩ := h'.2 a h1 (Int.le_trans h2 h.1)
  exact ⟨y1.trans x1, y2.trans x2, fun k => (y3 k).trans (x3 k)⟩⟩
theorem isO.gr {S S' : mSh} {a kd : Int} (h : isO S a kd) (g : GrS S S') : isO S' a kd := ⟨h.1, Int.le_trans h.2.1 g.1, (g.2 a h.1 h.2.1).1.trans h.2.2⟩
theorem Lay.gr {S S' : mSh} (h : Lay S) (g : GrS S S') : Lay S' := fun a h1 h2 => by
  obtain ⟨x0, x1, x2, x3⟩ := h a h1 h2
  obtain ⟨y1, y2, y3⟩ := g.2 a h1 x0
  exact ⟨Int.le_trans x0 g.1, y1.trans x1, y2.trans x2, fun k hk => (y3 k).trans (x3 k hk)⟩
theorem Txt.gr {S S' : mSh} {t : Int} (h : Txt S t) (g : GrS S S') : Txt S' t := ⟨h.o.gr g, ((g.2 t h.o.1 h.o.2.1).2.2 0).trans h.f0, ((g.2 t h.o.1 h.o.2.1).2.2 1).trans h.f1, h.a1.gr g, h.a2.gr g⟩
theorem TextC.gr {laws : Bool} {S S' : mSh} {M : mMem} {t : Int} {T : TX} (h : TextC laws S M t T) (g : GrS S S') : TextC laws S' M t T := by
  obtain ⟨t1, t2, t0, t3, t4, t5, t6⟩ := h
  refine ⟨t1.gr g, t2, t0, t3, ?_, ?_, t6⟩
  · rw [(g.2 (t + 2) t1.a2.1 t1.a2.2.1).2.1]; exact t4
  · rw [(g.2 (t + 1) t1.a1.1 t1.a1.2.1).2.1]; exact t5
/-- a plan in the row -/
def PlanM (r : Int → Int) (b : Int) (T : TX) : Prop := okTO T ∧ r b = tn T ∧ (0 ≤ r (b + 1) ∧ r (b + 1) ≤ 400) ∧ ∃ Mx : mMem, DrO Mx (tn T) T ∧ Mx 200 23 = r (b + 1) ∧ (∀ k, 0 ≤ k → k < 10 * tn T → r (b + 2 + k) = Mx 223 k) ∧ (∀ k, 0 ≤ k → k < r (b + 1) → r (b + 146 + 2 * k) = Mx 211 k ∧ r (b + 146 + 2 * k + 1) = Mx 212 k)
theorem PlanM.congr {r r' : Int → Int} {b : Int} {T : TX} (h : PlanM r b T) (he : ∀ i, b ≤ i → i < b + 948 → r' i = r i) : PlanM r' b T := by
  obtain ⟨h1, h2, h3, Mx, h4, h5, h6, h7⟩ := h
  have n12 := h1.1.2.1
  refine ⟨h1, (he b (by omega) (by omega)).trans h2, by rw [he (b + 1) (by omega) (by omega)]; exact h3, Mx, h4, h5.trans (he (b + 1) (by omega) (by omega)).symm, fun k q0 q1 => (he _ (by omega) (by omega)).trans (h6 k q0 q1), fun k q0 q1 => ?_⟩
  rw [he (b + 1) (by omega) (by omega)] at q1
  rw [he (b + 146 + 2 * k) (by omega) (by omega), he (b + 146 + 2 * k + 1) (by omega) (by omega)]
  exact h7 k q0 q1
def LawsR (S : mSh) (M : mMem) (a : Int) (g : Int → Int) : Prop := (∀ i, 0 ≤ i → i < 6 → isO S (M (a + 11) i) 6) ∧ ∀ i, 0 ≤ i → i < g 2 → 225 < M (a + 11) i ∧ M (a + 11) i + 2 ≤ sN S ∧ ∃ T, LawM g (3990 + 900 * i) T ∧ TextC true S M (M (a + 11) i) T
def PlansR (S : mSh) (M : mMem) (a : Int) (g : Int → Int) : Prop := (∀ i, 0 ≤ i → i < 4 → isO S (M (a + 12) i) 6) ∧ ∀ i, 0 ≤ i → i < g 3 → 225 < M (a + 12) i ∧ M (a + 12) i + 2 ≤ sN S ∧ ∃ T, PlanM g (198 + 948 * i) T ∧ TextC false S M (M (a + 12) i) T
def TstR (M : mMem) (a : Int) (g : Int → Int) : Prop := ∀ i, 0 ≤ i → i < g 1 → M (a + 13) i = g (186 + 2 * i) ∧ M (a + 14) i = g (187 + 2 * i) ∧ 0 ≤ g (186 + 2 * i) ∧ g (186 + 2 * i) ≤ 2
def CntR (M : mMem) (a : Int) (g : Int → Int) : Prop := (0 ≤ g 1 ∧ g 1 ≤ 6 ∧ M a 8 = g 1) ∧ (0 ≤ g 2 ∧ g 2 ≤ 6 ∧ M a 6 = g 2) ∧ (0 ≤ g 3 ∧ g 3 ≤ 4 ∧ M a 7 = g 3) ∧ (M a 9 = g 4 ∧ -1 ≤ g 4 ∧ g 4 < g 2)
/-- a State of the class at a is the row g -/
def StaR (S : mSh) (M : mMem) (a : Int) (g : Int → Int) : Prop := (okS g ∧ g 5 ≤ 999) ∧ StkR g (a + 1) M ∧ CntR M a g ∧ LawsR S M a g ∧ PlansR S M a g ∧ TstR M a g
section CG
variable {S S' : mSh} {M M' : mMem} {a a' : Int} {g g' : Int → Int}
theorem LawsR.cg (h : LawsR S M a g) (gr : GrS S S') (hn : g 2 ≤ 6) (h2 : g' 2 = g 2) (hr : ∀ i, 3990 ≤ i → i < 9390 → g' i = g i) (he : ∀ i, 0 ≤ i → i < 6 → M' (a' + 11) i = M (a + 11) i) (ht : ∀ x i, 225 < x → x ≤ sN S → M' x i = M x i) : LawsR S' M' a' g' := by
  refine ⟨fun i q0 q1 => by rw [he i q0 q1]; exact (h.1 i q0 q1).gr gr, fun i q0 q1 => ?_⟩
  rw [h2] at q1
  obtain ⟨x1, x2, T, x3, x4⟩ := h.2 i q0 q1
  rw [he i q0 (by omega)]
  exact ⟨x1, by have := gr.1; omega, T, x3.congr (fun k p0 p1 => hr _ (by omega) (by omega)), (x4.gr gr).congr (fun y k p0 p1 => ht y k (by omega) (by omega))⟩
theorem PlansR.cg (h : PlansR S M a g) (gr : GrS S S') (hn : g 3 ≤ 4) (h2 : g' 3 = g 3) (hr : ∀ i, 198 ≤ i → i < 3990 → g' i = g i) (he : ∀ i, 0 ≤ i → i < 4 → M' (a' + 12) i = M (a + 12) i) (ht : ∀ x i, 225 < x → x ≤ sN S → M' x i = M x i) : PlansR S' M' a' g' := by
  refine ⟨fun i q0 q1 => by rw [he i q0 q1]; exact (h.1 i q0 q1).gr gr, fun i q0 q1 => ?_⟩
  rw [h2] at q1
  obtain ⟨x1, x2, T, x3, x4⟩ := h.2 i q0 q1
  rw [he i q0 (by omega)]
  exact ⟨x1, by have := gr.1; omega, T, x3.congr (fun k p0 p1 => hr _ (by omega) (by omega)), (x4.gr gr).congr (fun y k p0 p1 => ht y k (by omega) (by omega))⟩
theorem TstR.cg (h : TstR M a g) (hn : g 1 ≤ 6) (h2 : g' 1 = g 1) (hr : ∀ i, 186 ≤ i → i < 198 → g' i = g i) (he : ∀ i, 0 ≤ i → i < 6 → M' (a' + 13) i = M (a + 13) i ∧ M' (a' + 14) i = M (a + 14) i) : TstR M' a' g' := fun i q0 q1 => by
  rw [h2] at q1
  obtain ⟨x1, x2, x3⟩ := h i q0 q1
  rw [(he i q0 (by omega)).1, (he i q0 (by omega)).2, hr (186 + 2 * i) (by omega) (by omega), hr (187 + 2 * i) (by omega) (by omega)]
  exact ⟨x1, x2, x3⟩
theorem okS.gc (h : okS g) (he : ∀ i, i = 0 ∨ (5 ≤ i ∧ i < 186) → g' i = g i) : okS g' := by
  obtain ⟨h1, h2, h3, h4, h5, h6, h7, h8⟩ := h
  refine ⟨by rw [he 0 (by decide)]; exact h1, fun i q0 q1 => by rw [he i (by omega)]; exact h2 i q0 q1, fun c q0 q1 => ?_, by rw [he 5 (by decide)]; exact h4, by rw [he 6 (by decide)]; exact h5, by rw [he 7 (by decide)]; exact h6, by rw [he 8 (by decide)]; exact h7, by rw [he 9 (by decide)]; exact h8⟩
  rw [he (170 + c) (by omega), he (178 + c) (by omega), allG_congr (g := g) (g' := g') (c := c) (fun a p0 p1 => he _ (by omega))]
  exact h3 c q0 q1
theorem StkR.gc {s : Int} (h : StkR g s M) (he : ∀ i, i = 0 ∨ (5 ≤ i ∧ i < 186) → g' i = g i) : StkR g' s M := by
  obtain ⟨h1, h2, h3, h4, h5⟩ := h
  refine ⟨by rw [he 0 (by decide)]; exact h1, by rw [he 9 (by decide)]; exact h2, fun c q0 q1 => ?_, fun i q0 q1 => by rw [he (10 + i) (by omega)]; exact h4 i q0 q1, fun t q0 q1 => by rw [he (5 + t) (by omega)]; exact h5 t q0 q1⟩
  rw [he (170 + c) (by omega), he (178 + c) (by omega), allG_congr (g := g) (g' := g') (c := c) (fun a p0 p1 => he _ (by omega)), yrG_congr (g := g) (g' := g') (c := c) (fun a p0 p1 => he _ (by omega))]
  exact h3 c q0 q1
theorem CntR.cg (h : CntR M a g) (hr : ∀ i, 1 ≤ i → i < 5 → g' i = g i) (he : ∀ i, 6 ≤ i → i ≤ 9 → M' a' i = M a i) : CntR M' a' g' := by
  unfold CntR
  rw [he 6 (by decide) (by decide), he 7 (by decide) (by decide), he 8 (by decide) (by decide), he 9 (by decide) (by decide), hr 1 (by decide) (by decide), hr 2 (by decide) (by decide), hr 3 (by decide) (by decide), hr 4 (by decide) (by decide)]
  exact h
/-- the same State after what touches neither it nor the kept texts; the row may be another one with the same numbers -/
theorem StaR.cg (h : StaR S M a g) (gr : GrS S S') (hr : ∀ i, 0 ≤ i → i < 9390 → g' i = g i) (he : ∀ x i, a ≤ x → x ≤ a + 14 → M' x i = M x i) (ht : ∀ x i, 225 < x → x ≤ sN S → M' x i = M x i) : StaR S' M' a g' := by
  obtain ⟨h1, h2, h3, h4, h5, h6⟩ := h
  exact ⟨⟨h1.1.gc (fun i q => hr i (by omega) (by omega)), by rw [hr 5 (by decide) (by decide)]; exact h1.2⟩, (h2.congr (fun x i q0 q1 => he x i (by omega) (by omega))).gc (fun i q => hr i (by omega) (by omega)), h3.cg (fun i q0 q1 => hr i (by omega) (by omega)) (fun i _ _ => he _ _ (by omega) (by omega)), h4.cg gr h3.2.1.2.1 (hr 2 (by decide) (by decide)) (fun i q0 q1 => hr i (by omega) q1) (fun i _ _ => he _ _ (by omega) (by omega)) ht, h5.cg gr h3.2.2.1.2.1 (hr 3 (by decide) (by decide)) (fun i q0 q1 => hr i (by omega) (by omega)) (fun i _ _ => he _ _ (by omega) (by omega)) ht, h6.cg h3.1.2.1 (hr 1 (by decide) (by decide)) (fun i q0 q1 => hr i (by omega) (by omega)) (fun i _ _ => ⟨he _ _ (by omega) (by omega), he _ _ (by omega) (by omega)⟩)⟩
/-- another stock in the same State -/
theorem StaR.stk (h : StaR S M a g) (ok : okS g') (h5 : g' 5 ≤ 999) (hs : StkR g' (a + 1) M') (hr : ∀ i, (1 ≤ i ∧ i < 5) ∨ 186 ≤ i → g' i = g i) (he : ∀ x i, a ≤ x → x ≤ a + 14 → ¬ (a + 1 ≤ x ∧ x ≤ a + 7) → M' x i = M x i) (ht : ∀ x i, 225 < x → x ≤ sN S → M' x i = M x i) : StaR S M' a g' := by
  obtain ⟨h1, h2, h3, h4, h5', h6⟩ := h
  exact ⟨⟨ok, h5⟩, hs, h3.cg (fun i q0 q1 => hr i (by omega)) (fun i _ _ => he _ _ (by omega) (by omega) (by omega)), h4.cg (GrS.rf S) h3.2.1.2.1 (hr 2 (by decide)) (fun i q0 q1 => hr i (by omega)) (fun i _ _ => he _ _ (by omega) (by omega) (by omega)) ht, h5'.cg (GrS.rf S) h3.2.2.1.2.1 (hr 3 (by decide)) (fun i q0 q1 => hr i (by omega)) (fun i _ _ => he _ _ (by omega) (by omega) (by omega)) ht, h6.cg h3.1.2.1 (hr 1 (by decide)) (fun i q0 q1 => hr i (by omega)) (fun i _ _ => ⟨he _ _ (by omega) (by omega) (by omega), he _ _ (by omega) (by omega) (by omega)⟩)⟩
end CG
/-- an image's row -/
def imG (M : mMem) (k : Int) : Int → Int := fun i => M 203 (9390 * k + i)
def ImgR (S : mSh) (M : mMem) : Prop := ∀ k, 0 ≤ k → k < 2 → M 54 k = M 204 k ∧ (M 204 k = 0 ∨ M 204 k = 1) ∧ (¬ M 204 k = 0 → StaR S M (24 + 15 * k) (imG M k)) ∧ M 23 k = 24 + 15 * k
theorem ImgR.cg {S S' : mSh} {M M' : mMem} (h : ImgR S M) (gr : GrS S S') (hc : ∀ x i, 23 ≤ x → x ≤ 54 → M' x i = M x i) (hm : ∀ x i, (x = 203 ∨ x = 204) → M' x i = M x i) (ht : ∀ x i, 225 < x → x ≤ sN S → M' x i = M x i) : ImgR S' M' := fun k q0 q1 => by
  obtain ⟨h1, h2, h3, h4⟩ := h k q0 q1
  rw [hc 54 k (by omega) (by omega), hm 204 k (by omega), hc 23 k (by omega) (by omega)]
  exact ⟨h1, h2, fun w => (h3 w).cg gr (fun i p0 p1 => hm 203 _ (by omega)) (fun x i p0 p1 => hc x i (by omega) (by omega)) ht, h4⟩
/-- what can be undone fits to the row -/
def HisR (M : mMem) (h : HI) : Prop := HistM h M ∧ HistC h M ∧ ∀ e ∈ h, okS e.2 ∧ e.2 5 ≤ 999 ∧ (0 ≤ e.1 ∧ e.1 ≤ 3) ∧ ∀ i, i = 0 ∨ (170 ≤ i ∧ i < 186) → e.2 i = M 202 i
theorem HisR.cg {M M' : mMem} {h : HI} (hh : HisR M h) (h8 : M' 200 8 = M 200 8) (h5 : ∀ i, 0 ≤ i → i < 2640 → M' 205 i = M 205 i) (h6 : ∀ i, M' 206 i = M 206 i) (hc : ∀ x i, 55 ≤ x → x ≤ 176 → M' x i = M x i) (hr : ∀ i, i = 0 ∨ (170 ≤ i ∧ i < 186) → M' 202 i = M 202 i) : HisR M' h := by
  obtain ⟨a, b, c⟩ := hh
  exact ⟨a.congr h8 h5 h6, b.congr hc, fun e he => by
    obtain ⟨x1, x2, x3, x4⟩ := c e he
    exact ⟨x1, x2, x3, fun i q => (x4 i q).trans (hr i q).symm⟩⟩
def TapR (M : mMem) : Prop := okBy (M 209) (M 200 13) ∧ (∀ i, 0 ≤ i → i < M 200 13 → M 3 i = M 209 i) ∧ M 2 1 = M 200 13
theorem TapR.cg {M M' : mMem} (h : TapR M) (h13 : M' 200 13 = M 200 13) (h9 : ∀ i, M' 209 i = M 209 i) (h3 : ∀ i, M' 3 i = M 3 i) (h2 : M' 2 1 = M 2 1) : TapR M' := by
  obtain ⟨a, b, c⟩ := h
  have e9 : M' 209 = M 209 := funext h9
  exact ⟨by rw [e9, h13]; exact a, fun i q0 q1 => by rw [h3, e9]; exact b i q0 (by rw [h13] at q1; exact q1), by rw [h2, h13]; exact c⟩
def WrdR (M : mMem) : Prop := M 1 11 = M 200 1 ∧ M 1 12 = M 200 11 ∧ M 1 13 = M 200 18 ∧ M 1 14 = M 200 48
def RefR (n : Int) (M : mMem) : Prop := ∀ k, 1 ≤ k → k ≤ 6 → M 199 k = M 201 k ∧ 0 ≤ M 201 k ∧ M 201 k ≤ n
theorem RefR.cg {n m : Int} {M M' : mMem} (h : RefR n M) (hn : n ≤ m) (h1 : ∀ i, M' 199 i = M 199 i) (h2 : ∀ i, M' 201 i = M 201 i) : RefR m M' := fun k q0 q1 => by
  obtain ⟨a, b, c⟩ := h k q0 q1
  rw [h1, h2]; exact ⟨a, b, by omega⟩
def DrwR (M : mMem) : Prop := (M 200 54 = -1 ∧ M 184 6 = 0) ∨ ∃ gd, okS gd ∧ StkR gd 184 M ∧ gd 0 = M 200 54 ∧ ∀ i, 0 ≤ i → i < 160 → gd (10 + i) = M 225 i
theorem DrwR.cg {M M' : mMem} (h : DrwR M) (h54 : M' 200 54 = M 200 54) (hc : ∀ x i, 184 ≤ x → x ≤ 190 → M' x i = M x i) (h2 : ∀ i, M' 225 i = M 225 i) : DrwR M' := by
  rcases h with ⟨a, b⟩ | ⟨gd, a, b, c, e⟩
  · exact Or.inl ⟨h54.trans a, (hc 184 6 (by decide) (by decide)).trans b⟩
  · exact Or.inr ⟨gd, a, b.congr (fun x i q0 q1 => hc x i (by omega) (by omega)), c.trans h54.symm, fun i q0 q1 => (e i q0 q1).trans (h2 i).symm⟩
/-- what is left over, within bounds -/
def LefR (n : Int) (M : mMem) : Prop := StOK M ∧ TabM M ∧ M 200 20 = 0 ∧ (0 ≤ M 200 42 ∧ M 200 42 ≤ 14400000 + 239760 * n) ∧ (0 ≤ M 200 43 ∧ M 200 43 ≤ 100000000) ∧ (0 ≤ M 200 46 ∧ M 200 46 ≤ 1000) ∧ (-1 ≤ M 200 47 ∧ M 200 47 ≤ 19000) ∧ (M 16 2 = 0 ∧ M 16 3 = 0)
theorem LefR.cg {n m : Int} {M M' : mMem} (h : LefR n M) (hn : n ≤ m) (h7 : ∀ i, M' 7 i = M 7 i) (hT : ∀ x i, (x = 215 ∨ x = 216 ∨ x = 217 ∨ x = 222 ∨ x = 16) → M' x i = M x i) (hM : ∀ i, (i = 20 ∨ i = 42 ∨ i = 43 ∨ i = 46 ∨ i = 47) → M' 200 i = M 200 i) : LefR m M' := by
  obtain ⟨a, b, c, e, f, g, p, q⟩ := h
  refine ⟨fun k q0 q1 => by rw [h7]; exact a k q0 q1, ⟨fun i q0 q1 => by rw [hT _ _ (by omega), hT _ _ (by omega)]; exact b.1 i q0 q1, fun i q0 q1 => by rw [hT _ _ (by omega)]; exact b.2.1 i q0 q1, fun i q0 q1 => by rw [hT _ _ (by omega)]; exact b.2.2 i q0 q1⟩, by rw [hM _ (by omega)]; exact c, by rw [hM 42 (by omega)]; omega, by rw [hM 43 (by omega)]; exact f, by rw [hM 46 (by omega)]; exact g, by rw [hM 47 (by omega)]; exact p, by rw [hT _ _ (by omega), hT _ _ (by omega)]; exact q⟩
def SzR (n : Int) (S : mSh) : Prop := sN S ≤ 225 + 3 * n ∧ sU S ≤ 100000 + 500 * n
/-- THE COUPLING, behind n calls -/
def CP (n : Int) (S : mSh) (M : mMem) : Prop := Lay S ∧ StaR S M 8 (M 202) ∧ ImgR S M ∧ (∃ h, HisR M h) ∧ TapR M ∧ WrdR M ∧ RefR n M ∧ DrwR M ∧ LefR n M ∧ SzR n S ∧ (0 ≤ n ∧ n ≤ 512)
