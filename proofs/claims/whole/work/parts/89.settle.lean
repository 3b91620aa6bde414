/-! Settling makes one segment of what lies on the pile. -/
def lvP (lvl : Int) : PL → Prop
  | [] => True
  | x :: P => lvl ≤ bds x.1 ∧ lvP lvl P
theorem lvP_a {lvl : Int} {P P' : PL} (h : lvP lvl P) (h' : lvP lvl P') : lvP lvl (P ++ P') := by
  induction P with
  | nil => exact h'
  | cons x P ih => exact ⟨h.1, ih h.2⟩
theorem lvP.le {l l' : Int} (hl : l' ≤ l) : ∀ {P : PL}, lvP l P → lvP l' P := by
  intro P
  induction P with
  | nil => exact fun _ => trivial
  | cons x P ih => exact fun h => ⟨by have := h.1; omega, ih h.2⟩
def hdP (lvl : Int) : PL → Prop
  | [] => True
  | x :: _ => bds x.1 < lvl
theorem cdO_eq {M M' : mMem} {i : Int} (h1 : M' 211 i = M 211 i) (h2 : M' 212 i = M 212 i) : cdO M' i = cdO M i := by unfold cdO; rw [h1, h2]
section ST
variable {d : Nat} {S : mSh}
theorem s_set (L : Lay S) {Q : Option mV → mSh → mMem → Prop} {lvl : Int} {P : PL} (hh : hdP lvl P) (hok : okP P) : ∀ (pend : PL) (M : mMem) (b b' : Bool) (c0 c1 k kE : Int) (f : Den → Den) (E : Den), PileM M (pend ++ P) (M 200 29) → okP pend → lvP lvl pend → (0 ≤ c0 ∧ M 200 23 + lnP (pend ++ P) ≤ 400) → Ctx (cdO M) pend b b' c0 c1 k f → SegM (cdO M) c1 (M 200 23) kE E → (b = true → isB E) →
    (∀ M', PileM M' P (M' 200 29) → SegM (cdO M') c0 (M' 200 23) (k + kE) (f E) → (b' = true → isB (f E)) → FrSt M M' → (∀ i, 0 ≤ i → i < c0 → cdO M' i = cdO M i) → M' 200 23 + lnP P ≤ M 200 23 + lnP (pend ++ P) → M 200 23 ≤ M' 200 23 → Q none S M') → WP PR (d + 1) 174 0 [vA 200, vI lvl] [] S M Q := by
  intro pend
  induction pend with
  | nil =>
    intro M b b' c0 c1 k kE f E hp _ _ hs hc hE hB kk
    obtain ⟨e1, e2, e3, e4⟩ := hc
    subst e1 e2 e3
    have fin := kk M hp (by rw [Int.zero_add]; exact hE) (fun q => hB (e4 q)) (FrSt.rf M) (fun _ _ _ => rfl) (Int.le_refl _) (Int.le_refl _)
    have hp' : PileM M P (M 200 29) := hp
    have lt := hE.lt
    cases P with
    | nil =>
      have h0 : M 200 29 = 0 := hp'
      exact b_X9_settle_0 L (fun _ => b_X9_settle_101 fin) (fun q => absurd q (by omega))
    | cons x P =>
      have hn := hp'.ln
      have lp := ln_p P
      have hs2 : M 200 23 + lnP (x :: P) ≤ 400 := hs.2
      rw [ln_s] at hn hs2
      refine b_X9_settle_0 L (fun q => absurd q (by omega)) (fun _ => b_X9_settle_7 L (by omega) ?_)
      rw [hp'.1]
      have hh : bds x.1 < lvl := hh
      exact s_binds hok.1.1.1 (b_X9_settle_21 (fun _ => b_X9_settle_101 fin) (fun q => absurd q (by omega)))
  | cons x pend ih =>
    intro M b b' c0 c1 k kE f E hp ho hl hs hc hE hB kk
    have hp : PileM M (x :: (pend ++ P)) (M 200 29) := hp
    have hs2 : M 200 23 + lnP (x :: (pend ++ P)) ≤ 400 := hs.2
    have kk2 : ∀ M' : mMem, M' 200 23 + lnP P ≤ M 200 23 + lnP (x :: (pend ++ P)) → M' 200 23 + lnP P ≤ M 200 23 + lnP (x :: pend ++ P) := fun _ q => q
    rw [ln_s] at hs2
    have lp := ln_p (pend ++ P)
    have lt := hE.lt
    have hle := hc.le
    refine s_set1 L hp ho.1 (by omega) hl.1 (fun q => ?_) (fun q => ?_)
    · rcases hc with ⟨a, -⟩ | ⟨a, -⟩ | ⟨a, a', c2, k2, D2, g, a2, h1, hD, a3, h, e⟩
      · omega
      · omega
      · subst e
        have hle2 := h.le
        have lt1 := h1.lt
        have ce : ∀ i, i ≠ c1 - 1 → cdO (up (up M 200 29 (M 200 29 - 1)) 212 x.2 (M 200 23)) i = cdO M i := fun i qi => cdO_eq (by rw [up_na (by decide), up_na (by decide)]) (by rw [up_ni (by omega), up_na (by decide)])
        have c1e : (cdO (up (up M 200 29 (M 200 29 - 1)) 212 x.2 (M 200 23)) (c1 - 1)).1 = x.1 := by
          rw [← a3]; show up (up M 200 29 (M 200 29 - 1)) 212 x.2 (M 200 23) 211 (c1 - 1) = M 211 (c1 - 1)
          rw [up_na (by decide), up_na (by decide)]
        have c2e : (cdO (up (up M 200 29 (M 200 29 - 1)) 212 x.2 (M 200 23)) (c1 - 1)).2 = M 200 23 := by
          show up (up M 200 29 (M 200 29 - 1)) 212 x.2 (M 200 23) 212 (c1 - 1) = M 200 23
          rw [← a2, up_s]
        have e23 : up (up M 200 29 (M 200 29 - 1)) 212 x.2 (M 200 23) 200 23 = M 200 23 := by rw [up_na (by decide), up_ni (by decide)]
        have fr : FrSt M (up (up M 200 29 (M 200 29 - 1)) 212 x.2 (M 200 23)) := fun a i q => by
          rw [up_na (by omega)]
          by_cases ea : a = 200
          · subst ea; exact up_ni (by omega)
          · exact up_na ea
        have sg := SegM.ao (h1.congr (fun i q0 q1 => ce i (by omega))) hD (by rw [show c1 - 1 + 1 = c1 by omega]; exact hE.congr (fun i q0 q1 => ce i (by omega))) (by rw [c1e]; exact a) c2e
        rw [c1e] at sg
        refine ih _ true b' c0 c2 (k - k2) (k2 + kE) g (aoD x.1 D2 E) (pl_mv hp (by rw [up_na (by decide), up_s]) (fun i => ⟨by rw [up_na (by decide), up_na (by decide)], by rw [up_na (by decide), up_na (by decide)]⟩)) ho.2 hl.2 (by rw [e23]; omega) (h.congr (fun i q0 q1 => ce i (by omega))) (by rw [e23]; exact sg) (fun _ => ao_isB hD (hB a')) (fun M' p1 p2 p3 p4 p5 p6 p7 => kk M' p1 ?_ p3 (fr.tr p4) (fun i q0 q1 => (p5 i q0 q1).trans (ce i (by omega))) (kk2 M' ?_) ?_)
        · rw [show k + kE = k - k2 + (k2 + kE) by omega]; exact p2
        · rw [e23] at p6; rw [ln_s]; omega
        · rw [e23] at p7; exact p7
    · generalize hM2 : up (up (up (up M 200 29 (M 200 29 - 1)) 211 (M 200 23) x.1) 212 (M 200 23) 0) 200 23 (M 200 23 + 1) = M2
      have e23 : M2 200 23 = M 200 23 + 1 := by rw [← hM2]; exact up_s _ _ _ _
      have ce : ∀ i, i ≠ M 200 23 → cdO M2 i = cdO M i := fun i qi => cdO_eq (by rw [← hM2, up3_ne (by omega) (by omega) (by omega), up_na (by decide)]) (by rw [← hM2, up3_ne (by omega) (by omega) (by omega), up_na (by decide)])
      have cs : (cdO M2 (M 200 23)).1 = x.1 := by
        show M2 211 (M 200 23) = x.1
        rw [← hM2, up_na (by decide), up_na (by decide), up_s]
      have pm : PileM M2 (pend ++ P) (M2 200 29) := pl_mv hp (by rw [← hM2, up_ni (by decide), up_na (by decide), up_na (by decide), up_s]) (fun i => ⟨by rw [← hM2, up3_ne (by omega) (by omega) (by omega), up_na (by decide)], by rw [← hM2, up3_ne (by omega) (by omega) (by omega), up_na (by decide)]⟩)
      have fr : FrSt M M2 := fun a i q => by
        rw [← hM2, up3_ne (by omega) (by omega) (by omega)]
        by_cases ea : a = 200
        · subst ea; exact up_ni (by omega)
        · exact up_na ea
      have hE2 : SegM (cdO M2) c1 (M 200 23) kE E := hE.congr (fun i q0 q1 => ce i (by omega))
      rcases hc with ⟨a, a', g, h, e⟩ | ⟨a, c2, k2, D2, g, h1, h, e⟩ | ⟨a, -⟩
      · subst e
        have sg := SegM.nt hE2 (hB a') (by rw [cs]; exact a)
        refine ih M2 true b' c0 c1 k kE g (ntD E) pm ho.2 hl.2 (by omega) (h.congr (fun i q0 q1 => ce i (by omega))) (by rw [e23]; exact sg) (fun _ => nt_isB (hB a')) (fun M' p1 p2 p3 p4 p5 p6 p7 => kk M' p1 p2 p3 (fr.tr p4) (fun i q0 q1 => (p5 i q0 q1).trans (ce i (by omega))) (kk2 M' (by rw [ln_s]; omega)) (by omega))
      · subst e
        have hle2 := h.le
        have lt1 := h1.lt
        have sg := SegM.bn (h1.congr (fun i q0 q1 => ce i (by omega))) hE2 (by rw [cs]; omega) (by rw [cs]; omega)
        rw [cs] at sg
        refine ih M2 (decide (25 ≤ x.1)) b' c0 c2 (k - k2) (k2 + kE) g (bnD x.1 D2 E) pm ho.2 hl.2 (by omega) (h.congr (fun i q0 q1 => ce i (by omega))) (by rw [e23]; exact sg) (fun q => bn_isB (by have := of_decide_eq_true q; omega) _ _) (fun M' p1 p2 p3 p4 p5 p6 p7 => kk M' p1 ?_ p3 (fr.tr p4) (fun i q0 q1 => (p5 i q0 q1).trans (ce i (by omega))) (kk2 M' (by rw [ln_s]; omega)) (by omega))
        rw [show k + kE = k - k2 + (k2 + kE) by omega]; exact p2
      · exact absurd a q
end ST
