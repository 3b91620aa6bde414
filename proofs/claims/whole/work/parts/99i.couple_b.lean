/-! The coupling goes on; what both sides do at the end of a call. -/
def Lbd (n : Int) (M : mMem) : Prop := (0 ≤ M 200 42 ∧ M 200 42 ≤ 14400000 + 239760 * n) ∧ (0 ≤ M 200 43 ∧ M 200 43 ≤ 100000000) ∧ (0 ≤ M 200 46 ∧ M 200 46 ≤ 1000) ∧ (-1 ≤ M 200 47 ∧ M 200 47 ≤ 19000)
section CA
variable {n : Int} {S S' : mSh} {M M' : mMem}
theorem CP.lay (h : CP n S M) : Lay S := h.1
theorem CP.sta (h : CP n S M) : StaR S M 8 (M 202) := h.2.1
theorem CP.ok (h : CP n S M) : okS (M 202) := h.2.1.1.1
theorem CP.y (h : CP n S M) : M 202 5 ≤ 999 := h.2.1.1.2
theorem CP.r (h : CP n S M) : StkR (M 202) 9 M := h.2.1.2.1
theorem CP.cnt (h : CP n S M) : CntR M 8 (M 202) := h.2.1.2.2.1
theorem CP.img (h : CP n S M) : ImgR S M := h.2.2.1
theorem CP.his (h : CP n S M) : ∃ h, HisR M h := h.2.2.2.1
theorem CP.tap (h : CP n S M) : TapR M := h.2.2.2.2.1
theorem CP.wrd (h : CP n S M) : WrdR M := h.2.2.2.2.2.1
theorem CP.rf (h : CP n S M) : RefR n M := h.2.2.2.2.2.2.1
theorem CP.drw (h : CP n S M) : DrwR M := h.2.2.2.2.2.2.2.1
theorem CP.lef (h : CP n S M) : LefR n M := h.2.2.2.2.2.2.2.2.1
theorem CP.sz (h : CP n S M) : SzR n S := h.2.2.2.2.2.2.2.2.2.1
theorem CP.nn (h : CP n S M) : 0 ≤ n ∧ n ≤ 512 := h.2.2.2.2.2.2.2.2.2.2
theorem CP.lb (h : CP n S M) : Lbd (n + 1) M := by
  obtain ⟨a, b, c, e, f, g, p, q⟩ := h.lef
  exact ⟨by omega, f, g, p⟩
theorem CP.all {m : Int} (h : CP n S M) (hn : n ≤ m ∧ m ≤ 512) (gr : GrS S S') (f : ∀ a i, (a = 16 ∨ (23 ≤ a ∧ a ≤ 54) ∨ (184 ≤ a ∧ a ≤ 190) ∨ a = 203 ∨ a = 204 ∨ (215 ≤ a ∧ a ≤ 217) ∨ a = 222 ∨ a = 225 ∨ (a = 200 ∧ (i = 54 ∨ i = 20)) ∨ (225 < a ∧ a ≤ sN S)) → M' a i = M a i)
    (sta : StaR S' M' 8 (M' 202)) (his : ∃ h, HisR M' h) (tap : TapR M') (w : WrdR M') (r : RefR m M') (st : StOK M') (lb : Lbd m M') (sz : SzR m S') : CP m S' M' := by
  obtain ⟨a, b, c, e, f', g, p, q⟩ := h.lef
  have nn := h.nn
  refine ⟨h.lay.gr gr, sta, h.img.cg gr (fun x i q0 q1 => f x i (by omega)) (fun x i q => f x i (by omega)) (fun x i q0 q1 => f x i (by omega)), his, tap, w, r, h.drw.cg (f _ _ (by omega)) (fun x i q0 q1 => f x i (by omega)) (fun i => f _ _ (by omega)), ⟨st, ⟨fun i q0 q1 => by rw [f _ _ (by omega), f _ _ (by omega)]; exact b.1 i q0 q1, fun i q0 q1 => by rw [f _ _ (by omega)]; exact b.2.1 i q0 q1, fun i q0 q1 => by rw [f _ _ (by omega)]; exact b.2.2 i q0 q1⟩, by rw [f _ _ (by omega)]; exact c, lb.1, lb.2.1, lb.2.2.1, lb.2.2.2, by rw [f _ _ (by omega), f _ _ (by omega)]; exact q⟩, sz, by omega, by omega⟩
theorem SzR.le (h : SzR n S) : SzR (n + 1) S := ⟨by have := h.1; omega, by have := h.2; omega⟩
/-- the tape and the reader are as they were -/
theorem CP.st (h : CP n S M) (hn : n < 512) (f : ∀ a i, (a = 2 ∨ a = 3 ∨ a = 7 ∨ a = 16 ∨ (23 ≤ a ∧ a ≤ 54) ∨ (184 ≤ a ∧ a ≤ 190) ∨ a = 203 ∨ a = 204 ∨ a = 209 ∨ (215 ≤ a ∧ a ≤ 217) ∨ a = 222 ∨ a = 225 ∨ (a = 200 ∧ (i = 54 ∨ i = 20 ∨ i = 13)) ∨ (225 < a ∧ a ≤ sN S)) → M' a i = M a i)
    (sta : StaR S M' 8 (M' 202)) (his : ∃ h, HisR M' h) (w : WrdR M') (r : RefR (n + 1) M') (lb : Lbd (n + 1) M') : CP (n + 1) S M' :=
  h.all (m := n + 1) (by omega) (GrS.rf S) (fun a i q => f a i (by omega)) sta his (h.tap.cg (f _ _ (by omega)) (fun i => f _ _ (by omega)) (fun i => f _ _ (by omega)) (f _ _ (by omega))) w r (fun k q0 q1 => by rw [f _ _ (by omega)]; exact h.lef.1 k q0 q1) lb h.sz.le
/-- the cellar is as it was -/
theorem CP.wr (h : CP n S M) (hn : n < 512) (f : ∀ a i, (a = 2 ∨ a = 3 ∨ (7 ≤ a ∧ a ≤ 176) ∨ (184 ≤ a ∧ a ≤ 190) ∨ (202 ≤ a ∧ a ≤ 204) ∨ (a = 205 ∧ i < 2640) ∨ a = 206 ∨ a = 209 ∨ (215 ≤ a ∧ a ≤ 217) ∨ a = 222 ∨ a = 225 ∨ (a = 200 ∧ (i = 54 ∨ i = 20 ∨ i = 13 ∨ i = 8)) ∨ (225 < a ∧ a ≤ sN S)) → M' a i = M a i)
    (w : WrdR M') (r : RefR (n + 1) M') (lb : Lbd (n + 1) M') : CP (n + 1) S M' :=
  h.st hn (fun a i q => f a i (by omega)) (h.sta.cg (GrS.rf S) (fun i q0 q1 => f _ _ (by omega)) (fun x i q0 q1 => f x i (by omega)) (fun x i q0 q1 => f x i (by omega))) (by
    obtain ⟨hh, q⟩ := h.his
    exact ⟨hh, q.cg (f _ _ (by omega)) (fun i q0 q1 => f _ _ (by omega)) (fun i => f _ _ (by omega)) (fun x i q0 q1 => f x i (by omega)) (fun i q => f _ _ (by omega))⟩) w r lb
/-- the words told are as they were, too -/
theorem CP.sc (h : CP n S M) (hn : n < 512) (f : ∀ a i, (a = 1 ∨ a = 2 ∨ a = 3 ∨ (7 ≤ a ∧ a ≤ 176) ∨ (184 ≤ a ∧ a ≤ 190) ∨ a = 199 ∨ (201 ≤ a ∧ a ≤ 204) ∨ (a = 205 ∧ i < 2640) ∨ a = 206 ∨ a = 209 ∨ (215 ≤ a ∧ a ≤ 217) ∨ a = 222 ∨ a = 225 ∨ (a = 200 ∧ (i = 54 ∨ i = 20 ∨ i = 13 ∨ i = 8 ∨ i = 1 ∨ i = 11 ∨ i = 18 ∨ i = 48)) ∨ (225 < a ∧ a ≤ sN S)) → M' a i = M a i) (lb : Lbd (n + 1) M') : CP (n + 1) S M' :=
  h.wr hn (fun a i q => f a i (by omega)) (by
    obtain ⟨a, b, c, e⟩ := h.wrd
    unfold WrdR
    rw [f 1 11 (by omega), f 1 12 (by omega), f 1 13 (by omega), f 1 14 (by omega), f 200 1 (by omega), f 200 11 (by omega), f 200 18 (by omega), f 200 48 (by omega)]
    exact ⟨a, b, c, e⟩) (h.rf.cg (by omega) (fun i => f _ _ (by omega)) (fun i => f _ _ (by omega))) lb
/-- amid a call: only scratch has changed, and what lies ahead in the history -/
theorem CP.s0 (h : CP n S M) (f : ∀ a i, (a = 1 ∨ a = 2 ∨ a = 3 ∨ (7 ≤ a ∧ a ≤ 54) ∨ (184 ≤ a ∧ a ≤ 190) ∨ a = 199 ∨ (201 ≤ a ∧ a ≤ 204) ∨ a = 209 ∨ (215 ≤ a ∧ a ≤ 217) ∨ a = 222 ∨ a = 225 ∨ (a = 200 ∧ (i = 54 ∨ i = 20 ∨ i = 13 ∨ i = 1 ∨ i = 11 ∨ i = 18 ∨ i = 48 ∨ i = 42 ∨ i = 43 ∨ i = 46 ∨ i = 47)) ∨ (225 < a ∧ a ≤ sN S)) → M' a i = M a i) (his : ∃ h, HisR M' h) : CP n S M' := by
  obtain ⟨w1, w2, w3, w4⟩ := h.wrd
  obtain ⟨l1, l2, l3, l4, l5, l6, l7, l8⟩ := h.lef
  have nn := h.nn
  refine h.all (m := n) ⟨Int.le_refl _, nn.2⟩ (GrS.rf S) (fun a i q => f a i (by omega)) (h.sta.cg (GrS.rf S) (fun i q0 q1 => f _ _ (by omega)) (fun x i q0 q1 => f x i (by omega)) (fun x i q0 q1 => f x i (by omega))) his (h.tap.cg (f _ _ (by omega)) (fun i => f _ _ (by omega)) (fun i => f _ _ (by omega)) (f _ _ (by omega))) ⟨?_, ?_, ?_, ?_⟩ (h.rf.cg (Int.le_refl _) (fun i => f _ _ (by omega)) (fun i => f _ _ (by omega))) (fun k q0 q1 => by rw [f _ _ (by omega)]; exact l1 k q0 q1) ⟨?_, ?_, ?_, ?_⟩ h.sz
  · rw [f 1 11 (by omega), f 200 1 (by omega)]; exact w1
  · rw [f 1 12 (by omega), f 200 11 (by omega)]; exact w2
  · rw [f 1 13 (by omega), f 200 18 (by omega)]; exact w3
  · rw [f 1 14 (by omega), f 200 48 (by omega)]; exact w4
  · rw [f 200 42 (by omega)]; exact l4
  · rw [f 200 43 (by omega)]; exact l5
  · rw [f 200 46 (by omega)]; exact l6
  · rw [f 200 47 (by omega)]; exact l7
end CA
section CB
variable {d : Nat} {S : mSh} {M : mMem} {Q : Option mV → mSh → mMem → Prop}
theorem c_isWithin {v lo hi : Int} (k1 : lo ≤ v ∧ v ≤ hi → Q (some (vI 1)) S M) (k0 : ¬ (lo ≤ v ∧ v ≤ hi) → Q (some (vI 0)) S M) : e_X8_isWithin d v lo hi S M Q :=
  b_X8_isWithin_0 (fun q => b_X8_isWithin_14 (k0 (by omega))) (fun q => b_X8_isWithin_5 (fun q2 => b_X8_isWithin_14 (k0 (by omega))) (fun q2 => b_X8_isWithin_10 (k1 ⟨q, q2⟩)))
def refC (M : mMem) (v : Int) : mMem := up (up M 1 11 v) 199 (-v) (M 199 (-v) + 1)
theorem c_refuse (L : Lay S) {v : Int} (hv : -7 < v ∧ v < 0) (hr : R32 (M 199 (-v) + 1)) (k : Q (some (vI v)) S (refC M v)) : e_X8_refuse (d + 1) v S M Q := by
  have l := ll199 L
  have e : up M 1 11 v 199 (-v) = M 199 (-v) := up_na (by decide)
  refine b_X8_refuse_0 L (by rw [l]; omega) (c_isWithin (fun _ => b_X8_refuse_18 (fun q => absurd q (by decide)) (fun _ => b_X8_refuse_21 L (by rw [e]; omega) ?_)) (fun q => absurd q (by rw [l]; omega)))
  rw [e]; exact k
theorem c_hasLaw {a l : Int} (ha : Sta S a) (k1 : 0 ≤ l ∧ l < M a 6 → Q (some (vI 1)) S M) (k0 : ¬ (0 ≤ l ∧ l < M a 6) → Q (some (vI 0)) S M) : e_X3_hasLaw d a l S M Q :=
  b_X3_hasLaw_0 (fun q => b_X3_hasLaw_16 (k0 (by omega))) (fun q => b_X3_hasLaw_4 ha (fun q2 => b_X3_hasLaw_16 (k0 (by omega))) (fun q2 => b_X3_hasLaw_12 (k1 ⟨q, q2⟩)))
theorem c_hasPlan {a l : Int} (ha : Sta S a) (k1 : 0 ≤ l ∧ l < M a 7 → Q (some (vI 1)) S M) (k0 : ¬ (0 ≤ l ∧ l < M a 7) → Q (some (vI 0)) S M) : e_X3_hasPlan d a l S M Q :=
  b_X3_hasPlan_0 (fun q => b_X3_hasPlan_16 (k0 (by omega))) (fun q => b_X3_hasPlan_4 ha (fun q2 => b_X3_hasPlan_16 (k0 (by omega))) (fun q2 => b_X3_hasPlan_12 (k1 ⟨q, q2⟩)))
/-- the law of a number: its text at both sides -/
def LwOf (S : mSh) (M : mMem) (l t : Int) (T : TX) : Prop := TextC true S M t T ∧ okTL T ∧ (t = 16 ∨ 225 < t ∧ t + 2 ≤ sN S) ∧ ForM (upr (M 202) 4 l) T
theorem CP.law {n : Int} (h : CP n S M) {l : Int} (hl : -1 ≤ l ∧ l < M 202 2) : ∃ T, LwOf S M l (if 0 ≤ l then M 19 l else 16) T := by
  have hc := h.cnt
  by_cases q : 0 ≤ l
  · obtain ⟨x1, x2, T, x3, x4⟩ := h.sta.2.2.2.1.2 l q hl.2
    rw [if_pos q]
    have e19 : M (8 + 11) l = M 19 l := rfl
    rw [e19] at x1 x2 x4
    refine ⟨T, x4, x3.1, Or.inr ⟨x1, x2⟩, Or.inr ⟨by rw [upr_s]; exact q, by rw [upr_s]; have := hc.2.1.2.1; omega, ?_⟩⟩
    rw [upr_s]
    exact x3.congr (fun i q0 q1 => upr_n (by omega))
  · rw [if_neg q]
    have e16 := h.lef.2.2.2.2.2.2.2
    have o0 : okTx T0 := ⟨by decide, by decide, fun i q0 q1 => absurd q1 (by show ¬ i < 0; omega)⟩
    have o1 : okTL T0 := ⟨o0, fun i q0 q1 => absurd q1 (by show ¬ i < 0; omega)⟩
    have l18 : sL S 18 = 0 := ll18 h.lay
    have l17 : sL S 17 = 0 := ll17 h.lay
    refine ⟨T0, ⟨lTxt16 h.lay, by decide, o0, e16.1, ⟨by omega, ?_, by omega⟩, ?_, fun i q0 q1 => absurd q1 (by show ¬ i < 0; omega)⟩, o1, Or.inl rfl, Or.inl ⟨by rw [upr_s]; omega, rfl, o1⟩⟩
    · show M 16 3 ≤ sL S 18; omega
    · show (0 : Int) * 7 ≤ sL S 17; omega
theorem c_lawOf {n : Int} (h : CP n S M) {l : Int} (hl : -1 ≤ l ∧ l < M 202 2) (k : ∀ t T, LwOf S M l t T → Q (some (vA t)) S M) : e_X3_lawOf (d + 1) 8 l S M Q := by
  obtain ⟨T, hT⟩ := h.law hl
  have hc := h.cnt
  have sa := lSta8 h.lay
  refine b_X3_lawOf_0 sa (c_hasLaw sa (fun q => b_X3_lawOf_5 (fun w => absurd w (by decide)) (fun _ => b_X3_lawOf_8 (q1 := M 19 l) rfl sa (by have := hc.2.1; omega) (k _ T ?_))) (fun q => b_X3_lawOf_5 (fun _ => b_X3_lawOf_17 sa (k _ T ?_)) (fun w => absurd rfl w)))
  · rw [if_pos q.1] at hT; exact hT
  · rw [if_neg (by have := hc.2.1; omega)] at hT; exact hT
theorem c_lawInForce {n : Int} (h : CP n S M) (k : ∀ t T, LwOf S M (M 202 4) t T → Q (some (vA t)) S M) : e_X3_lawInForce (d + 2) 8 S M Q := by
  have hc := h.cnt
  have sa := lSta8 h.lay
  refine b_X3_lawInForce_0 sa ?_
  rw [hc.2.2.2.1]
  exact c_lawOf h hc.2.2.2.2 (fun t T hT => b_X3_lawInForce_8 (k t T hT))
theorem upr_id (g : Int → Int) (i : Int) : upr g i (g i) = g := funext fun k => by
  by_cases e : k = i
  · rw [e, upr_s]
  · exact upr_n e
theorem LwOf.mv {M' : mMem} {l t : Int} {T : TX} (h : LwOf S M l t T) (f : ∀ a i, (16 ≤ a ∧ a ≤ 18) ∨ (225 < a ∧ a ≤ sN S) ∨ a = 202 → M' a i = M a i) : LwOf S M' l t T := by
  obtain ⟨h1, h2, h3, h4⟩ := h
  have e : M' 202 = M 202 := funext fun i => f 202 i (by omega)
  exact ⟨h1.congr (fun a i q0 q1 => f a i (by omega)), h2, h3, by rw [e]; exact h4⟩
theorem LwOf.fm {l t : Int} {T : TX} (h : LwOf S M l t T) (hl : M 202 4 = l) : ForM (M 202) T := by
  have := h.2.2.2
  rw [← hl, upr_id] at this
  exact this
/-- the worker begins on a stock that is g -/
theorem c_begin (L : Lay S) {s t l : Int} {g : Int → Int} {T : TX} (hs : Stk S s) (hr : StkR g s M) (ok : okS g) (hT : LwOf S M l t T) (hd : s = 9 ∨ s = 177 ∨ s = 184) (k : ∀ M', Wk S M' s t g T → M' 191 4 = 0 → M' 191 5 = 19000 → M' 191 6 = 0 → M' 196 4 = 0 → M' 196 5 = -1 → (∀ a i, a ≠ 191 → a ≠ 196 → M' a i = M a i) → Q none S M') : e_X7_begin (d + 1) s t S M Q := by
  refine b_X7_begin_0 L (b_X0_startText_0 L (b_X7_begin_25 L ?_))
  have f : ∀ a i, a ≠ 191 → a ≠ 196 → up (up (up (up (up (up (up (up M 191 2 s) 191 3 t) 196 2 s) 196 4 0) 196 5 (-1)) 191 4 0) 191 5 19000) 191 6 0 a i = M a i := fun a i n1 n2 => by
    rw [up_na n1, up_na n1, up_na n1, up_na n2, up_na n2, up_na n2, up_na n1, up_na n1]
  refine k _ ⟨hs, by simp [up], by simp [up], by simp [up], hr.congr (fun a i q0 q1 => f a i (by omega) (by omega)), ok, hT.1.congr (fun a i q0 q1 => f a i ?_ ?_), hT.2.1, ?_, ?_⟩ (by simp [up]) (by simp [up]) (by simp [up]) (by simp [up]) (by simp [up]) f
  · have := hT.2.2.1; omega
  · have := hT.2.2.1; omega
  · have := hT.2.2.1; omega
  · have := hT.2.2.1; omega
end CB
