/-! Public methods, both sides: the small ones. -/
def TwoI (n : Int) (E F : mSh → mMem → (Option mV → mSh → mMem → Prop) → Prop) : Prop := ∀ S M, CP n S M → n < 512 → E S M (fun r S1 M1 => ∃ v, r = some (vI v) ∧ F S1 M1 (fun r2 S2 M2 => r2 = some (vI v) ∧ CP (n + 1) S2 M2))
def TwoL (n : Int) (E F : mSh → mMem → (Option mV → mSh → mMem → Prop) → Prop) : Prop := ∀ S M, CP n S M → n < 512 → E S M (fun r S1 M1 => ∃ v, r = some (vL v) ∧ F S1 M1 (fun r2 S2 M2 => r2 = some (vL v) ∧ CP (n + 1) S2 M2))
theorem Lbd.cg {n : Int} {M M' : mMem} (h : Lbd n M) (f : ∀ i, i = 42 ∨ i = 43 ∨ i = 46 ∨ i = 47 → M' 200 i = M 200 i) : Lbd n M' := by
  unfold Lbd
  rw [f 42 (by decide), f 43 (by decide), f 46 (by decide), f 47 (by decide)]
  exact h
theorem swT_d {pc : Nat} {x dflt lo hi : Int} {offs : List Int} (h : x < lo ∨ hi < x) : swT pc x dflt lo hi offs = ((pc : Int) + dflt).toNat := if_pos h
theorem up_cl {M : mMem} {a i v b k : Int} : up M a i v b k = if b = a ∧ k = i then v else M b k := rfl
section PA
variable {n : Int} {d : Nat} {S : mSh} {M M' : mMem} {Q : Option mV → mSh → mMem → Prop}
theorem CP.th (h : CP n S M) (hn : n < 512) : CP (n + 1) S (up M 200 0 0) := h.sc hn (fun a i q => up1_ne (by omega)) (h.lb.cg (fun i q => up1_ne (by omega)))
theorem CP.r99 (h : CP n S M) {v : Int} (hv : -7 < v ∧ v < 0) : R32 (M 199 (-v) + 1) := by
  obtain ⟨a, b, c⟩ := h.rf (-v) (by omega) (by omega)
  have := h.nn
  omega
theorem CP.r01 (h : CP n S M) {v : Int} (hv : -7 < v ∧ v < 0) : R32 (M 201 (-v) + 1) := by
  obtain ⟨a, b, c⟩ := h.rf (-v) (by omega) (by omega)
  have := h.nn
  omega
theorem tellM_n {v : Int} (hv : v < 0) : tellM M v = up (up M 200 1 v) 201 (-v) (M 201 (-v) + 1) := if_pos hv
theorem tellM_p {v : Int} (hv : ¬ v < 0) : tellM M v = up M 200 1 0 := if_neg hv
/-- a call refused at both sides; only scratch has changed besides -/
theorem CP.rfg (h : CP n S M) (hn : n < 512) {v : Int} (hv : -7 < v ∧ v < 0) (f : ∀ a i, (a = 2 ∨ a = 3 ∨ (7 ≤ a ∧ a ≤ 176) ∨ (184 ≤ a ∧ a ≤ 190) ∨ (202 ≤ a ∧ a ≤ 204) ∨ (a = 205 ∧ i < 2640) ∨ a = 206 ∨ a = 209 ∨ (215 ≤ a ∧ a ≤ 217) ∨ a = 222 ∨ a = 225 ∨ (a = 200 ∧ (i = 54 ∨ i = 20 ∨ i = 13 ∨ i = 8 ∨ i = 11 ∨ i = 18 ∨ i = 48)) ∨ (225 < a ∧ a ≤ sN S) ∨ (a = 1 ∧ (i = 12 ∨ i = 13 ∨ i = 14)) ∨ (a = 199 ∧ i ≠ -v) ∨ (a = 201 ∧ i ≠ -v)) → M' a i = M a i)
    (e1 : M' 1 11 = v) (e2 : M' 200 1 = v) (e3 : M' 199 (-v) = M 199 (-v) + 1) (e4 : M' 201 (-v) = M 201 (-v) + 1) (lb : Lbd (n + 1) M') : CP (n + 1) S M' := by
  obtain ⟨w1, w2, w3, w4⟩ := h.wrd
  refine h.wr hn (fun a i q => f a i (by omega)) ⟨by rw [e1, e2], ?_, ?_, ?_⟩ (fun k q0 q1 => ?_) lb
  · rw [f 1 12 (by omega), f 200 11 (by omega)]; exact w2
  · rw [f 1 13 (by omega), f 200 18 (by omega)]; exact w3
  · rw [f 1 14 (by omega), f 200 48 (by omega)]; exact w4
  · obtain ⟨a, b, c⟩ := h.rf k q0 q1
    by_cases ek : k = -v
    · subst ek; rw [e3, e4]; omega
    · rw [f 199 k (by omega), f 201 k (by omega)]; omega
/-- a call accepted at both sides -/
theorem CP.acc (h : CP n S M) (hn : n < 512) (f : ∀ a i, (a = 2 ∨ a = 3 ∨ a = 7 ∨ a = 16 ∨ (23 ≤ a ∧ a ≤ 54) ∨ (184 ≤ a ∧ a ≤ 190) ∨ a = 199 ∨ a = 201 ∨ a = 203 ∨ a = 204 ∨ a = 209 ∨ (215 ≤ a ∧ a ≤ 217) ∨ a = 222 ∨ a = 225 ∨ (a = 200 ∧ (i = 54 ∨ i = 20 ∨ i = 13 ∨ i = 11 ∨ i = 18 ∨ i = 48)) ∨ (225 < a ∧ a ≤ sN S) ∨ (a = 1 ∧ (i = 12 ∨ i = 13 ∨ i = 14))) → M' a i = M a i)
    (e11 : M' 1 11 = 0) (e1 : M' 200 1 = 0) (sta : StaR S M' 8 (M' 202)) (his : ∃ h, HisR M' h) (lb : Lbd (n + 1) M') : CP (n + 1) S M' := by
  obtain ⟨w1, w2, w3, w4⟩ := h.wrd
  refine h.st hn (fun a i q => f a i (by omega)) sta his ⟨by rw [e1, e11], ?_, ?_, ?_⟩ (h.rf.cg (by omega) (fun i => f _ _ (by omega)) (fun i => f _ _ (by omega))) lb
  · rw [f 1 12 (by omega), f 200 11 (by omega)]; exact w2
  · rw [f 1 13 (by omega), f 200 18 (by omega)]; exact w3
  · rw [f 1 14 (by omega), f 200 48 (by omega)]; exact w4
/-- other numbers in the same State -/
theorem StaR.num {g g' : Int → Int} (h : StaR S M 8 g) (hr : ∀ i, i = 0 ∨ (5 ≤ i ∧ (i < 186 ∨ 198 ≤ i)) → g' i = g i) (h2 : g' 2 = g 2) (h3 : g' 3 = g 3) (cnt : CntR M' 8 g') (tst : TstR M' 8 g') (he : ∀ x i, 9 ≤ x → x ≤ 20 → M' x i = M x i) (ht : ∀ x i, 225 < x → x ≤ sN S → M' x i = M x i) : StaR S M' 8 g' := by
  obtain ⟨s1, s2, s3, s4, s5, s6⟩ := h
  exact ⟨⟨s1.1.gc (fun i q => hr i (by omega)), by rw [hr 5 (by decide)]; exact s1.2⟩, (s2.congr (fun a i q0 q1 => he a i (by omega) (by omega))).gc (fun i q => hr i (by omega)), cnt, s4.cg (GrS.rf S) s3.2.1.2.1 h2 (fun i q0 q1 => hr i (by omega)) (fun i _ _ => he _ _ (by omega) (by omega)) ht, s5.cg (GrS.rf S) s3.2.2.1.2.1 h3 (fun i q0 q1 => hr i (by omega)) (fun i _ _ => he _ _ (by omega) (by omega)) ht, tst⟩
theorem CP.rfs (h : CP n S M) (hn : n < 512) {v : Int} (hv : -7 < v ∧ v < 0) : CP (n + 1) S (tellM (up (refC M v) 200 0 0) v) := by
  rw [tellM_n hv.2]
  have g : ∀ a i, ¬ (a = 1 ∧ i = 11) → ¬ (a = 199 ∧ i = -v) → ¬ (a = 200 ∧ (i = 0 ∨ i = 1)) → ¬ (a = 201 ∧ i = -v) → up (up (up (refC M v) 200 0 0) 200 1 v) 201 (-v) (up (refC M v) 200 0 0 201 (-v) + 1) a i = M a i := fun a i n1 n2 n3 n4 => by
    unfold refC
    rw [up1_ne n4, up1_ne (by omega), up1_ne (by omega), up1_ne n2, up1_ne n1]
  refine h.rfg hn hv (fun a i q => g a i (by omega) (by omega) (by omega) (by omega)) ?_ ?_ ?_ ?_ (h.lb.cg (fun i q => g _ _ (by omega) (by omega) (by omega) (by omega)))
  · unfold refC; rw [up_na (by decide), up_na (by decide), up_na (by decide), up_na (by decide), up_s]
  · rw [up_na (by decide), up_s]
  · unfold refC; rw [up_na (by decide), up_na (by decide), up_na (by decide), up_s]
  · unfold refC; rw [up_s, up_na (by decide), up_na (by decide), up_na (by decide)]
theorem s_tl (h : CP n S M) (hn : n < 512) {v : Int} (hv : -7 < v ∧ v < 0) (k : CP (n + 1) S (tellM (up (refC M v) 200 0 0) v) → Q (some (vI v)) S (tellM (up (refC M v) 200 0 0) v)) : e_X9_tell d v S (up (refC M v) 200 0 0) Q := by
  refine s_tell h.lay (by omega) (fun _ => ?_) (k (h.rfs hn hv))
  have := h.r01 hv
  unfold refC
  rw [up_na (by decide), up_na (by decide), up_na (by decide)]
  exact this
theorem t_leaks : TwoI n (e_X8_leaks d) (e_X9_leaks d) := fun S M h hn => b_X8_leaks_0 h.lay ⟨_, rfl, b_X9_leaks_0 h.lay ⟨by rw [h.wrd.2.1], h.th hn⟩⟩
theorem t_status : TwoI n (e_X8_status d) (e_X9_status d) := fun S M h hn => b_X8_status_0 h.lay ⟨_, rfl, b_X9_status_0 h.lay ⟨by rw [h.wrd.1], h.th hn⟩⟩
theorem t_fault : TwoI n (e_X8_fault d) (e_X9_fault d) := fun S M h hn => b_X8_fault_0 h.lay ⟨_, rfl, b_X9_fault_0 h.lay ⟨by rw [h.wrd.2.2.1], h.th hn⟩⟩
theorem t_stopped : TwoI n (e_X8_stopped d) (e_X9_stopped d) := fun S M h hn => b_X8_stopped_0 h.lay ⟨_, rfl, b_X9_stopped_0 h.lay ⟨by rw [h.wrd.2.2.2], h.th hn⟩⟩
/-- the numbers of the cellar, both sides -/
theorem CP.t (h : CP n S M) {c : Int} (hc : 0 ≤ c ∧ c < 4) : M 15 c = M 202 (5 + c) := h.r.e hc
theorem t_end {x : Int} : TwoI n (e_X8_end (d + 1) x) (e_X9_end d x) := fun S M h hn => by
  obtain ⟨t1, t2, t3⟩ := h.tap
  refine b_X8_end_0 h.lay (c_isWithin (fun q => b_X8_end_12 (fun _ => b_X8_end_17 h.lay ⟨x, rfl, ?_⟩) (fun w => absurd w (by decide))) (fun q => b_X8_end_12 (fun w => absurd rfl w) (fun _ => b_X8_end_15 ⟨-1, rfl, ?_⟩)))
  · rw [t3] at q
    have e13 : up (up M 2 1 x) 200 0 0 200 13 = M 200 13 := by rw [up1_ne (by omega), up1_ne (by omega)]
    refine b_X9_end_0 h.lay (fun w => absurd w (by omega)) (fun _ => b_X9_end_9 h.lay (fun _ => b_X9_end_19 h.lay ⟨rfl, ?_⟩) (fun w => absurd w (by rw [e13]; omega)))
    have g : ∀ a i, ¬ (a = 2 ∧ i = 1) → ¬ (a = 200 ∧ (i = 0 ∨ i = 13)) → up (up (up M 2 1 x) 200 0 0) 200 13 x a i = M a i := fun a i n1 n2 => up3_ne n1 (by omega) (by omega)
    have g13 : up (up (up M 2 1 x) 200 0 0) 200 13 x 200 13 = x := up_s _ _ _ _
    have g2 : up (up (up M 2 1 x) 200 0 0) 200 13 x 2 1 = x := by rw [up_na (by decide), up_na (by decide), up_s]
    generalize up (up (up M 2 1 x) 200 0 0) 200 13 x = M' at *
    have e9 : M' 209 = M 209 := funext fun i => g _ _ (by omega) (by omega)
    have e202 : M' 202 = M 202 := funext fun i => g _ _ (by omega) (by omega)
    refine h.all (m := n + 1) (by have := h.nn; omega) (GrS.rf S) (fun a i q => g a i (by omega) (by omega)) (h.sta.cg (GrS.rf S) (fun i _ _ => g _ _ (by omega) (by omega)) (fun a i _ _ => g _ _ (by omega) (by omega)) (fun a i _ _ => g _ _ (by omega) (by omega))) ?_ ⟨?_, ?_, ?_⟩ ?_ (h.rf.cg (by omega) (fun i => g _ _ (by omega) (by omega)) (fun i => g _ _ (by omega) (by omega))) (fun k q0 q1 => by rw [g _ _ (by omega) (by omega)]; exact h.lef.1 k q0 q1) (h.lb.cg (fun i q => g _ _ (by omega) (by omega))) h.sz.le
    · obtain ⟨hh, hi⟩ := h.his
      exact ⟨hh, hi.cg (g _ _ (by omega) (by omega)) (fun i _ _ => g _ _ (by omega) (by omega)) (fun i => g _ _ (by omega) (by omega)) (fun a i _ _ => g _ _ (by omega) (by omega)) (fun i _ => g _ _ (by omega) (by omega))⟩
    · rw [e9, g13]; exact ⟨by have := t1.1; omega, fun i q0 q1 => t1.2 i q0 (by omega)⟩
    · intro i q0 q1; rw [g13] at q1; rw [e9, g _ _ (by omega) (by omega)]; exact t2 i q0 (by omega)
    · rw [g2, g13]
    · obtain ⟨w1, w2, w3, w4⟩ := h.wrd
      unfold WrdR
      rw [g 1 11 (by omega) (by omega), g 1 12 (by omega) (by omega), g 1 13 (by omega) (by omega), g 1 14 (by omega) (by omega), g 200 1 (by omega) (by omega), g 200 11 (by omega) (by omega), g 200 18 (by omega) (by omega), g 200 48 (by omega) (by omega)]
      exact ⟨w1, w2, w3, w4⟩
  · rw [t3] at q
    refine b_X9_end_0 h.lay (fun _ => b_X9_end_17 ⟨rfl, h.th hn⟩) (fun w => b_X9_end_9 h.lay (fun w2 => absurd w2 (by rw [up1_ne (by omega)]; omega)) (fun _ => b_X9_end_17 ⟨rfl, h.th hn⟩))
theorem s_isLaw (L : Lay S) {l : Int} (h2 : 0 ≤ M 202 2 ∧ M 202 2 ≤ 6) (k1 : l = -1 ∨ (0 ≤ l ∧ l < M 202 2) → Q (some (vI 1)) S M) (k0 : ¬ (l = -1 ∨ (0 ≤ l ∧ l < M 202 2)) → Q (some (vI 0)) S M) : e_X9_isLaw (d + 1) l S M Q :=
  b_X9_isLaw_0 (fun q => b_X9_isLaw_23 (k1 (Or.inl q))) (fun q => b_X9_isLaw_5 L (by omega) (s_in (fun w => b_X9_isLaw_20 (fun e => absurd e (by decide)) (fun _ => b_X9_isLaw_23 (k1 (by omega)))) (fun w => b_X9_isLaw_20 (fun _ => b_X9_isLaw_27 (k0 (by omega))) (fun e => absurd rfl e))))
theorem t_force {x : Int} : TwoI n (e_X8_force (d + 3) x) (e_X9_force (d + 3) x) := fun S M h hn => by
  have hc := h.cnt
  have sa := lSta8 h.lay
  have good : (x = -1 ∨ (0 ≤ x ∧ x < M 202 2)) → WP PR (d + 3) 95 23 [vA 1, vI x, vU] [] S M (fun r S1 M1 => ∃ v, r = some (vI v) ∧ e_X9_force (d + 3) x S1 M1 (fun r2 S2 M2 => r2 = some (vI v) ∧ CP (n + 1) S2 M2)) := fun q => by
    refine b_X8_force_23 h.lay (b_X8_accept_0 h.lay (b_X8_force_44 ⟨_, rfl, b_X9_force_0 h.lay ?_⟩))
    have e2 : up (up (up M 8 9 x) 1 11 0) 200 0 0 202 2 = M 202 2 := up3_ne (by omega) (by omega) (by omega)
    refine s_isLaw h.lay (by rw [e2]; have := hc.2.1; omega) (fun _ => b_X9_force_10 (fun w => absurd w (by decide)) (fun _ => b_X9_force_13 h.lay (b_X9_change_0 h.lay (by decide) (b_X9_force_19 ⟨?_, ?_⟩)))) (fun w => absurd q (by rw [e2] at w; exact w))
    · rw [up3_ne (by omega) (by omega) (by omega), hc.2.2.2.1]
    have g : ∀ a i, ¬ ((a = 8 ∧ i = 9) ∨ (a = 1 ∧ i = 11) ∨ (a = 200 ∧ (i = 0 ∨ i = 1)) ∨ (a = 202 ∧ i = 4)) → up (up (up (up (up M 8 9 x) 1 11 0) 200 0 0) 202 4 x) 200 1 0 a i = M a i := fun a i q => by rw [up2_ne (by omega) (by omega), up3_ne (by omega) (by omega) (by omega)]
    have g4 : up (up (up (up (up M 8 9 x) 1 11 0) 200 0 0) 202 4 x) 200 1 0 202 4 = x := by rw [up_na (by decide), up_s]
    have g9 : up (up (up (up (up M 8 9 x) 1 11 0) 200 0 0) 202 4 x) 200 1 0 8 9 = x := by rw [up_na (by decide), up_na (by decide), up_na (by decide), up_na (by decide), up_s]
    have g11 : up (up (up (up (up M 8 9 x) 1 11 0) 200 0 0) 202 4 x) 200 1 0 1 11 = 0 := by rw [up_na (by decide), up_na (by decide), up_na (by decide), up_s]
    have g1 : up (up (up (up (up M 8 9 x) 1 11 0) 200 0 0) 202 4 x) 200 1 0 200 1 = 0 := up_s _ _ _ _
    generalize up (up (up (up (up M 8 9 x) 1 11 0) 200 0 0) 202 4 x) 200 1 0 = M' at *
    have g2 : ∀ i, ¬ i = 4 → M' 202 i = M 202 i := fun i q => g _ _ (by omega)
    refine h.acc hn (fun a i q => g a i (by omega)) g11 g1 (h.sta.num (fun i q => g2 i (by omega)) (g2 2 (by decide)) (g2 3 (by decide)) ?_ (h.sta.2.2.2.2.2.cg hc.1.2.1 (g2 1 (by decide)) (fun i q0 q1 => g2 i (by omega)) (fun i _ _ => ⟨g _ _ (by omega), g _ _ (by omega)⟩)) (fun a i q0 q1 => g a i (by omega)) (fun a i q0 q1 => g a i (by omega))) ?_ (h.lb.cg (fun i q => g _ _ (by omega)))
    · unfold CntR
      rw [g 8 6 (by omega), g 8 7 (by omega), g 8 8 (by omega), g9, g4, g2 1 (by decide), g2 2 (by decide), g2 3 (by decide)]
      exact ⟨hc.1, hc.2.1, hc.2.2.1, rfl, by omega, by have := hc.2.1; omega⟩
    · obtain ⟨hh, hi⟩ := h.his
      exact ⟨hh, hi.cg (g _ _ (by omega)) (fun i _ _ => g _ _ (by omega)) (fun i => g _ _ (by omega)) (fun a i _ _ => g _ _ (by omega)) (fun i _ => g2 i (by omega))⟩
  refine b_X8_force_0 (fun q => good (Or.inl q)) (fun q => b_X8_force_5 h.lay (c_hasLaw sa (fun w => b_X8_force_13 (fun _ => good (Or.inr (by rw [hc.2.1.2.2] at w; exact w))) (fun e => absurd e (by decide))) (fun w => b_X8_force_13 (fun e => absurd rfl e) (fun _ => b_X8_force_16 h.lay (c_refuse h.lay (by decide) (h.r99 (by decide)) (b_X8_force_22 ⟨_, rfl, b_X9_force_0 h.lay ?_⟩))))))
  have e2 : up (refC M (-2)) 200 0 0 202 2 = M 202 2 := by unfold refC; exact up3_ne (by omega) (by omega) (by omega)
  rw [hc.2.1.2.2] at w
  exact s_isLaw h.lay (by rw [e2]; have := hc.2.1; omega) (fun w2 => absurd w2 (by rw [e2]; omega)) (fun _ => b_X9_force_10 (fun _ => b_X9_force_22 h.lay (s_tl h hn (by decide) (fun c => b_X9_force_28 ⟨rfl, c⟩))) (fun e => absurd rfl e))
end PA
