/-! The constructor of the reference; the coupling at the start. -/
section NM
variable {d : Nat} {S : mSh} {M M' : mMem} {Q : Option mV → mSh → mMem → Prop} {m m' : Int} {sp : List Int}
def MP (m : Int) (sp : List Int) (M : mMem) : Prop := (∀ i ∈ sp, M 200 i = -1) ∧ (∀ i, i ≠ 18 → i ≠ 48 → i ≠ 54 → M 200 i = 0) ∧ (∀ a i, 201 ≤ a → a ≤ m → a ≤ 204 → M a i = 0) ∧ (215 ≤ m → ∀ i, 0 ≤ i → i < 7 → M 215 i = tabL i) ∧ (216 ≤ m → ∀ i, 0 ≤ i → i < 7 → M 216 i = tabO i) ∧ (217 ≤ m → ∀ i, 0 ≤ i → i < 3 → M 217 i = tabV i) ∧ (222 ≤ m → ∀ i, 0 ≤ i → i < 4 → M 222 i = tabW i)
theorem MP.go (h : MP m sp M) (h0 : 200 ≤ m) (e : m' = m + 1) (f : ∀ a i, a ≤ m → M' a i = M a i) (z : m' ≤ 204 → ∀ i, M' m' i = 0) (t1 : m' = 215 → ∀ i, 0 ≤ i → i < 7 → M' 215 i = tabL i) (t2 : m' = 216 → ∀ i, 0 ≤ i → i < 7 → M' 216 i = tabO i) (t3 : m' = 217 → ∀ i, 0 ≤ i → i < 3 → M' 217 i = tabV i) (t4 : m' = 222 → ∀ i, 0 ≤ i → i < 4 → M' 222 i = tabW i) : MP m' sp M' := by
  obtain ⟨h1, h2, h3, h4, h5, h6, h7⟩ := h
  refine ⟨fun i q => (f _ _ (by omega)).trans (h1 i q), fun i q0 q1 q2 => (f _ _ (by omega)).trans (h2 i q0 q1 q2), fun a i q0 q1 q2 => ?_, fun q i q0 q1 => ?_, fun q i q0 q1 => ?_, fun q i q0 q1 => ?_, fun q i q0 q1 => ?_⟩
  · by_cases p : a = m'
    · subst p; exact z q2 i
    · exact (f _ _ (by omega)).trans (h3 a i q0 (by omega) q2)
  · by_cases p : m' = 215
    · exact t1 p i q0 q1
    · exact (f _ _ (by omega)).trans (h4 (by omega) i q0 q1)
  · by_cases p : m' = 216
    · exact t2 p i q0 q1
    · exact (f _ _ (by omega)).trans (h5 (by omega) i q0 q1)
  · by_cases p : m' = 217
    · exact t3 p i q0 q1
    · exact (f _ _ (by omega)).trans (h6 (by omega) i q0 q1)
  · by_cases p : m' = 222
    · exact t4 p i q0 q1
    · exact (f _ _ (by omega)).trans (h7 (by omega) i q0 q1)
theorem MP.nw {y : Int} (h : MP m sp M) (h0 : 200 ≤ m) (e : m' = m + 1) (hy : y = m') (hm : m' ≠ 215 ∧ m' ≠ 216 ∧ m' ≠ 217 ∧ m' ≠ 222) : MP m' sp (zr M y) :=
  h.go h0 e (fun a i q => zr_ne (by omega)) (fun _ i => by rw [hy]; exact zr_s) (fun q => absurd q hm.1) (fun q => absurd q hm.2.1) (fun q => absurd q hm.2.2.1) (fun q => absurd q hm.2.2.2)
theorem MP.up {i : Int} (h : MP m sp M) (hi : i = 18 ∨ i = 48 ∨ i = 54) : MP m (i :: sp) (up M 200 i (-1)) := by
  obtain ⟨h1, h2, h3, h4, h5, h6, h7⟩ := h
  refine ⟨fun j q => ?_, fun j q0 q1 q2 => ?_, fun a j q0 q1 q2 => ?_, fun q j q0 q1 => ?_, fun q j q0 q1 => ?_, fun q j q0 q1 => ?_, fun q j q0 q1 => ?_⟩
  · by_cases e : j = i
    · subst e; exact up_s _ _ _ _
    · rw [up_ni e]
      rcases List.mem_cons.mp q with q | q
      · exact absurd q e
      · exact h1 j q
  · rw [up_ni (by omega)]; exact h2 j q0 q1 q2
  · rw [up_na (by omega)]; exact h3 a j q0 q1 q2
  · rw [up_na (by decide)]; exact h4 q j q0 q1
  · rw [up_na (by decide)]; exact h5 q j q0 q1
  · rw [up_na (by decide)]; exact h6 q j q0 q1
  · rw [up_na (by decide)]; exact h7 q j q0 q1

def MF (M : mMem) : Prop := MP 225 [54, 48, 18] M
set_option maxHeartbeats 1000000 in
theorem c_nModel (lt : LT 200 S) (hz : ∀ i, M 200 i = 0) (k : ∀ S' M', LT 225 S' → GrF S S' → Dn S' 200 → (∀ a i, a < 200 → M' a i = M a i) → (∃ N, MP 225 [54, 48, 18] N ∧ M' = up (up (up N 202 4 (-1)) 202 6 1) 202 8 85) → Q none S' M') : WP PR d 131 0 [vA 200] [] S M Q := by
  have c0 : CI 200 200 [] S S M M := CI.be lt (by decide) (by decide)
  have p0 : MP 200 [] M := ⟨fun i q => (by cases q), fun i _ _ _ => hz i, fun a i q0 q1 => absurd q0 (by omega), fun q => absurd q (by decide), fun q => absurd q (by decide), fun q => absurd q (by decide), fun q => absurd q (by decide)⟩
  have e0 : sN S + 1 = 200 + 1 := c0.e rfl
  have c1 := c0.al (f := 2) (m' := 201) rfl (k := 20) (l := 7) (u := 7) (by decide +kernel) (y := sN S + 1) e0
  refine n_X9_init_0 (c0.o (by decide +kernel)).nw e0 (by decide) ?_
  have p1 := p0.nw (m' := 201) (y := sN S + 1) (by decide) rfl e0 (by decide)
  generalize zr M (sN S + 1) = M1 at *
  generalize sSet (sNew S 20 7 7) 200 2 = S1 at *
  have e1 : sN S1 + 1 = 200 + 2 := c1.e rfl
  have c2 := c1.al (f := 3) (m' := 202) rfl (k := 20) (l := 9390) (u := 9390) (by decide +kernel) (y := sN S1 + 1) e1
  refine n_X9_init_12 (c1.o (by decide +kernel)).nw e1 ?_
  have p2 := p1.nw (m' := 202) (y := sN S1 + 1) (by decide) rfl e1 (by decide)
  generalize zr M1 (sN S1 + 1) = M2 at *
  generalize sSet (sNew S1 20 9390 9390) 200 3 = S2 at *
  have e2 : sN S2 + 1 = 200 + 3 := c2.e rfl
  have c3 := c2.al (f := 4) (m' := 203) rfl (k := 20) (l := 18780) (u := 18780) (by decide +kernel) (y := sN S2 + 1) e2
  refine n_X9_init_21 (c2.o (by decide +kernel)).nw e2 ?_
  have p3 := p2.nw (m' := 203) (y := sN S2 + 1) (by decide) rfl e2 (by decide)
  generalize zr M2 (sN S2 + 1) = M3 at *
  generalize sSet (sNew S2 20 18780 18780) 200 4 = S3 at *
  have e3 : sN S3 + 1 = 200 + 4 := c3.e rfl
  have c4 := c3.al (f := 5) (m' := 204) rfl (k := 22) (l := 2) (u := 2) (by decide +kernel) (y := sN S3 + 1) e3
  refine n_X9_init_30 (c3.o (by decide +kernel)).nw e3 ?_
  have p4 := p3.nw (m' := 204) (y := sN S3 + 1) (by decide) rfl e3 (by decide)
  generalize zr M3 (sN S3 + 1) = M4 at *
  generalize sSet (sNew S3 22 2 2) 200 5 = S4 at *
  have e4 : sN S4 + 1 = 200 + 5 := c4.e rfl
  have c5 := c4.al (f := 6) (m' := 205) rfl (k := 20) (l := 2970) (u := 2970) (by decide +kernel) (y := sN S4 + 1) e4
  refine n_X9_init_37 (c4.o (by decide +kernel)).nw e4 ?_
  have p5 := p4.nw (m' := 205) (y := sN S4 + 1) (by decide) rfl e4 (by decide)
  generalize zr M4 (sN S4 + 1) = M5 at *
  generalize sSet (sNew S4 20 2970 2970) 200 6 = S5 at *
  have e5 : sN S5 + 1 = 200 + 6 := c5.e rfl
  have c6 := c5.al (f := 7) (m' := 206) rfl (k := 20) (l := 16) (u := 16) (by decide +kernel) (y := sN S5 + 1) e5
  refine n_X9_init_46 (c5.o (by decide +kernel)).nw e5 ?_
  have p6 := p5.nw (m' := 206) (y := sN S5 + 1) (by decide) rfl e5 (by decide)
  generalize zr M5 (sN S5 + 1) = M6 at *
  generalize sSet (sNew S5 20 16 16) 200 7 = S6 at *
  have e6 : sN S6 + 1 = 200 + 7 := c6.e rfl
  have c7 := c6.al (f := 9) (m' := 207) rfl (k := 20) (l := 2640) (u := 2640) (by decide +kernel) (y := sN S6 + 1) e6
  refine n_X9_init_54 (c6.o (by decide +kernel)).nw e6 ?_
  have p7 := p6.nw (m' := 207) (y := sN S6 + 1) (by decide) rfl e6 (by decide)
  generalize zr M6 (sN S6 + 1) = M7 at *
  generalize sSet (sNew S6 20 2640 2640) 200 9 = S7 at *
  have e7 : sN S7 + 1 = 200 + 8 := c7.e rfl
  have c8 := c7.al (f := 10) (m' := 208) rfl (k := 20) (l := 16) (u := 16) (by decide +kernel) (y := sN S7 + 1) e7
  refine n_X9_init_63 (c7.o (by decide +kernel)).nw e7 ?_
  have p8 := p7.nw (m' := 208) (y := sN S7 + 1) (by decide) rfl e7 (by decide)
  generalize zr M7 (sN S7 + 1) = M8 at *
  generalize sSet (sNew S7 20 16 16) 200 10 = S8 at *
  have e8 : sN S8 + 1 = 200 + 9 := c8.e rfl
  have c9 := c8.al (f := 12) (m' := 209) rfl (k := 20) (l := 400) (u := 400) (by decide +kernel) (y := sN S8 + 1) e8
  refine n_X9_init_71 (c8.o (by decide +kernel)).nw e8 ?_
  have p9 := p8.nw (m' := 209) (y := sN S8 + 1) (by decide) rfl e8 (by decide)
  generalize zr M8 (sN S8 + 1) = M9 at *
  generalize sSet (sNew S8 20 400 400) 200 12 = S9 at *
  refine n_X9_init_80 (c9.o (by decide +kernel)) ?_
  have c10 := c9.up (b := 200) (i := 18) (v := -1) (by decide)
  have p10 := p9.up (i := 18) (by decide)
  generalize up M9 200 18 (-1) = M10 at *
  have e10 : sN S9 + 1 = 200 + 10 := c10.e rfl
  have c11 := c10.al (f := 22) (m' := 210) rfl (k := 20) (l := 96) (u := 96) (by decide +kernel) (y := sN S9 + 1) e10
  refine n_X9_init_85 (c10.o (by decide +kernel)).nw e10 ?_
  have p11 := p10.nw (m' := 210) (y := sN S9 + 1) (by decide) rfl e10 (by decide)
  generalize zr M10 (sN S9 + 1) = M11 at *
  generalize sSet (sNew S9 20 96 96) 200 22 = S11 at *
  have e11 : sN S11 + 1 = 200 + 11 := c11.e rfl
  have c12 := c11.al (f := 24) (m' := 211) rfl (k := 20) (l := 400) (u := 400) (by decide +kernel) (y := sN S11 + 1) e11
  refine n_X9_init_93 (c11.o (by decide +kernel)).nw e11 ?_
  have p12 := p11.nw (m' := 211) (y := sN S11 + 1) (by decide) rfl e11 (by decide)
  generalize zr M11 (sN S11 + 1) = M12 at *
  generalize sSet (sNew S11 20 400 400) 200 24 = S12 at *
  have e12 : sN S12 + 1 = 200 + 12 := c12.e rfl
  have c13 := c12.al (f := 25) (m' := 212) rfl (k := 20) (l := 400) (u := 400) (by decide +kernel) (y := sN S12 + 1) e12
  refine n_X9_init_102 (c12.o (by decide +kernel)).nw e12 ?_
  have p13 := p12.nw (m' := 212) (y := sN S12 + 1) (by decide) rfl e12 (by decide)
  generalize zr M12 (sN S12 + 1) = M13 at *
  generalize sSet (sNew S12 20 400 400) 200 25 = S13 at *
  have e13 : sN S13 + 1 = 200 + 13 := c13.e rfl
  have c14 := c13.al (f := 27) (m' := 213) rfl (k := 20) (l := 400) (u := 400) (by decide +kernel) (y := sN S13 + 1) e13
  refine n_X9_init_111 (c13.o (by decide +kernel)).nw e13 ?_
  have p14 := p13.nw (m' := 213) (y := sN S13 + 1) (by decide) rfl e13 (by decide)
  generalize zr M13 (sN S13 + 1) = M14 at *
  generalize sSet (sNew S13 20 400 400) 200 27 = S14 at *
  have e14 : sN S14 + 1 = 200 + 14 := c14.e rfl
  have c15 := c14.al (f := 28) (m' := 214) rfl (k := 20) (l := 400) (u := 400) (by decide +kernel) (y := sN S14 + 1) e14
  refine n_X9_init_120 (c14.o (by decide +kernel)).nw e14 ?_
  have p15 := p14.nw (m' := 214) (y := sN S14 + 1) (by decide) rfl e14 (by decide)
  generalize zr M14 (sN S14 + 1) = M15 at *
  generalize sSet (sNew S14 20 400 400) 200 28 = S15 at *
  have e15 : sN S15 + 1 = 200 + 15 := c15.e rfl
  have c16 := c15.al (f := 31) (m' := 215) rfl (k := 21) (l := 7) (u := 7) (by decide +kernel) (y := sN S15 + 1) e15
  have l15 : sL (sNew S15 21 7 7) (sN S15 + 1) = 7 := sl_self
  have n15 : 0 ≤ sN S15 := by omega
  refine n_X9_init_129 (isO_self n15) (isO_self n15) (isO_self n15) (isO_self n15) (isO_self n15) (isO_self n15) (isO_self n15) (c15.o (by decide +kernel)).nw e15 (by rw [l15]; decide) ?_
  have p16 : MP 215 [18] (up (up (up (up (up (up (up (zr M15 (sN S15 + 1)) (sN S15 + 1) 0 99947) (sN S15 + 1) 1 664754) (sN S15 + 1) 2 632645) (sN S15 + 1) 3 218508) (sN S15 + 1) 4 431150) (sN S15 + 1) 5 824370) (sN S15 + 1) 6 441828) := p15.go (m' := 215) (by decide) rfl (fun a i q => by rw [up_na (by omega), up_na (by omega), up_na (by omega), up_na (by omega), up_na (by omega), up_na (by omega), up_na (by omega), zr_ne (by omega)]) (fun q => absurd q (by decide)) (fun _ i q0 q1 => by
    have : i = 0 ∨ i = 1 ∨ i = 2 ∨ i = 3 ∨ i = 4 ∨ i = 5 ∨ i = 6 := by omega
    rw [e15]
    rcases this with rfl | rfl | rfl | rfl | rfl | rfl | rfl <;> rfl) (fun q => absurd q (by decide)) (fun q => absurd q (by decide)) (fun q => absurd q (by decide))
  have c16 := (((((((c16).up (b := sN S15 + 1) (i := 0) (v := 99947) (by omega)).up (b := sN S15 + 1) (i := 1) (v := 664754) (by omega)).up (b := sN S15 + 1) (i := 2) (v := 632645) (by omega)).up (b := sN S15 + 1) (i := 3) (v := 218508) (by omega)).up (b := sN S15 + 1) (i := 4) (v := 431150) (by omega)).up (b := sN S15 + 1) (i := 5) (v := 824370) (by omega)).up (b := sN S15 + 1) (i := 6) (v := 441828) (by omega)
  generalize up (up (up (up (up (up (up (zr M15 (sN S15 + 1)) (sN S15 + 1) 0 99947) (sN S15 + 1) 1 664754) (sN S15 + 1) 2 632645) (sN S15 + 1) 3 218508) (sN S15 + 1) 4 431150) (sN S15 + 1) 5 824370) (sN S15 + 1) 6 441828 = M16 at *
  generalize sSet (sNew S15 21 7 7) 200 31 = S16 at *
  have e16 : sN S16 + 1 = 200 + 16 := c16.e rfl
  have c17 := c16.al (f := 32) (m' := 216) rfl (k := 21) (l := 7) (u := 7) (by decide +kernel) (y := sN S16 + 1) e16
  have l16 : sL (sNew S16 21 7 7) (sN S16 + 1) = 7 := sl_self
  have n16 : 0 ≤ sN S16 := by omega
  refine n_X9_init_180 (isO_self n16) (isO_self n16) (isO_self n16) (isO_self n16) (isO_self n16) (isO_self n16) (isO_self n16) (c16.o (by decide +kernel)).nw e16 (by rw [l16]; decide) ?_
  have p17 : MP 216 [18] (up (up (up (up (up (up (up (zr M16 (sN S16 + 1)) (sN S16 + 1) 0 824370) (sN S16 + 1) 1 146885) (sN S16 + 1) 2 404362868) (sN S16 + 1) 3 2672439460) (sN S16 + 1) 4 218508) (sN S16 + 1) 5 605677) (sN S16 + 1) 6 431150) := p16.go (m' := 216) (by decide) rfl (fun a i q => by rw [up_na (by omega), up_na (by omega), up_na (by omega), up_na (by omega), up_na (by omega), up_na (by omega), up_na (by omega), zr_ne (by omega)]) (fun q => absurd q (by decide)) (fun q => absurd q (by decide)) (fun _ i q0 q1 => by
    have : i = 0 ∨ i = 1 ∨ i = 2 ∨ i = 3 ∨ i = 4 ∨ i = 5 ∨ i = 6 := by omega
    rw [e16]
    rcases this with rfl | rfl | rfl | rfl | rfl | rfl | rfl <;> rfl) (fun q => absurd q (by decide)) (fun q => absurd q (by decide))
  have c17 := (((((((c17).up (b := sN S16 + 1) (i := 0) (v := 824370) (by omega)).up (b := sN S16 + 1) (i := 1) (v := 146885) (by omega)).up (b := sN S16 + 1) (i := 2) (v := 404362868) (by omega)).up (b := sN S16 + 1) (i := 3) (v := 2672439460) (by omega)).up (b := sN S16 + 1) (i := 4) (v := 218508) (by omega)).up (b := sN S16 + 1) (i := 5) (v := 605677) (by omega)).up (b := sN S16 + 1) (i := 6) (v := 431150) (by omega)
  generalize up (up (up (up (up (up (up (zr M16 (sN S16 + 1)) (sN S16 + 1) 0 824370) (sN S16 + 1) 1 146885) (sN S16 + 1) 2 404362868) (sN S16 + 1) 3 2672439460) (sN S16 + 1) 4 218508) (sN S16 + 1) 5 605677) (sN S16 + 1) 6 431150 = M17 at *
  generalize sSet (sNew S16 21 7 7) 200 32 = S17 at *
  have e17 : sN S17 + 1 = 200 + 17 := c17.e rfl
  have c18 := c17.al (f := 33) (m' := 217) rfl (k := 21) (l := 3) (u := 3) (by decide +kernel) (y := sN S17 + 1) e17
  have l17 : sL (sNew S17 21 3 3) (sN S17 + 1) = 3 := sl_self
  have n17 : 0 ≤ sN S17 := by omega
  refine n_X9_init_231 (isO_self n17) (isO_self n17) (isO_self n17) (c17.o (by decide +kernel)).nw e17 (by rw [l17]; decide) ?_
  have p18 : MP 217 [18] (up (up (up (zr M17 (sN S17 + 1)) (sN S17 + 1) 0 13094067) (sN S17 + 1) 1 848474259) (sN S17 + 1) 2 67155) := p17.go (m' := 217) (by decide) rfl (fun a i q => by rw [up_na (by omega), up_na (by omega), up_na (by omega), zr_ne (by omega)]) (fun q => absurd q (by decide)) (fun q => absurd q (by decide)) (fun q => absurd q (by decide)) (fun _ i q0 q1 => by
    have : i = 0 ∨ i = 1 ∨ i = 2 := by omega
    rw [e17]
    rcases this with rfl | rfl | rfl <;> rfl) (fun q => absurd q (by decide))
  have c18 := (((c18).up (b := sN S17 + 1) (i := 0) (v := 13094067) (by omega)).up (b := sN S17 + 1) (i := 1) (v := 848474259) (by omega)).up (b := sN S17 + 1) (i := 2) (v := 67155) (by omega)
  generalize up (up (up (zr M17 (sN S17 + 1)) (sN S17 + 1) 0 13094067) (sN S17 + 1) 1 848474259) (sN S17 + 1) 2 67155 = M18 at *
  generalize sSet (sNew S17 21 3 3) 200 33 = S18 at *
  have e18 : sN S18 + 1 = 200 + 18 := c18.e rfl
  have c19 := c18.al (f := 35) (m' := 218) rfl (k := 21) (l := 13) (u := 13) (by decide +kernel) (y := sN S18 + 1) e18
  refine n_X9_init_256 (c18.o (by decide +kernel)).nw e18 ?_
  have p19 := p18.nw (m' := 218) (y := sN S18 + 1) (by decide) rfl e18 (by decide)
  generalize zr M18 (sN S18 + 1) = M19 at *
  generalize sSet (sNew S18 21 13 13) 200 35 = S19 at *
  have e19 : sN S19 + 1 = 200 + 19 := c19.e rfl
  have c20 := c19.al (f := 36) (m' := 219) rfl (k := 21) (l := 13) (u := 13) (by decide +kernel) (y := sN S19 + 1) e19
  refine n_X9_init_264 (c19.o (by decide +kernel)).nw e19 ?_
  have p20 := p19.nw (m' := 219) (y := sN S19 + 1) (by decide) rfl e19 (by decide)
  generalize zr M19 (sN S19 + 1) = M20 at *
  generalize sSet (sNew S19 21 13 13) 200 36 = S20 at *
  have e20 : sN S20 + 1 = 200 + 20 := c20.e rfl
  have c21 := c20.al (f := 37) (m' := 220) rfl (k := 21) (l := 400) (u := 400) (by decide +kernel) (y := sN S20 + 1) e20
  refine n_X9_init_272 (c20.o (by decide +kernel)).nw e20 ?_
  have p21 := p20.nw (m' := 220) (y := sN S20 + 1) (by decide) rfl e20 (by decide)
  generalize zr M20 (sN S20 + 1) = M21 at *
  generalize sSet (sNew S20 21 400 400) 200 37 = S21 at *
  have e21 : sN S21 + 1 = 200 + 21 := c21.e rfl
  have c22 := c21.al (f := 41) (m' := 221) rfl (k := 20) (l := 20) (u := 20) (by decide +kernel) (y := sN S21 + 1) e21
  refine n_X9_init_281 (c21.o (by decide +kernel)).nw e21 ?_
  have p22 := p21.nw (m' := 221) (y := sN S21 + 1) (by decide) rfl e21 (by decide)
  generalize zr M21 (sN S21 + 1) = M22 at *
  generalize sSet (sNew S21 20 20 20) 200 41 = S22 at *
  have e22 : sN S22 + 1 = 200 + 22 := c22.e rfl
  have c23 := c22.al (f := 44) (m' := 222) rfl (k := 21) (l := 4) (u := 4) (by decide +kernel) (y := sN S22 + 1) e22
  have l22 : sL (sNew S22 21 4 4) (sN S22 + 1) = 4 := sl_self
  have n22 : 0 ≤ sN S22 := by omega
  refine n_X9_init_289 (isO_self n22) (isO_self n22) (isO_self n22) (isO_self n22) (c22.o (by decide +kernel)).nw e22 (by rw [l22]; decide) ?_
  have p23 : MP 222 [18] (up (up (up (up (zr M22 (sN S22 + 1)) (sN S22 + 1) 0 540338) (sN S22 + 1) 1 590955) (sN S22 + 1) 2 83513733) (sN S22 + 1) 3 525939) := p22.go (m' := 222) (by decide) rfl (fun a i q => by rw [up_na (by omega), up_na (by omega), up_na (by omega), up_na (by omega), zr_ne (by omega)]) (fun q => absurd q (by decide)) (fun q => absurd q (by decide)) (fun q => absurd q (by decide)) (fun q => absurd q (by decide)) (fun _ i q0 q1 => by
    have : i = 0 ∨ i = 1 ∨ i = 2 ∨ i = 3 := by omega
    rw [e22]
    rcases this with rfl | rfl | rfl | rfl <;> rfl)
  have c23 := ((((c23).up (b := sN S22 + 1) (i := 0) (v := 540338) (by omega)).up (b := sN S22 + 1) (i := 1) (v := 590955) (by omega)).up (b := sN S22 + 1) (i := 2) (v := 83513733) (by omega)).up (b := sN S22 + 1) (i := 3) (v := 525939) (by omega)
  generalize up (up (up (up (zr M22 (sN S22 + 1)) (sN S22 + 1) 0 540338) (sN S22 + 1) 1 590955) (sN S22 + 1) 2 83513733) (sN S22 + 1) 3 525939 = M23 at *
  generalize sSet (sNew S22 21 4 4) 200 44 = S23 at *
  have e23 : sN S23 + 1 = 200 + 23 := c23.e rfl
  have c24 := c23.al (f := 45) (m' := 223) rfl (k := 20) (l := 120) (u := 120) (by decide +kernel) (y := sN S23 + 1) e23
  refine n_X9_init_320 (c23.o (by decide +kernel)).nw e23 ?_
  have p24 := p23.nw (m' := 223) (y := sN S23 + 1) (by decide) rfl e23 (by decide)
  generalize zr M23 (sN S23 + 1) = M24 at *
  generalize sSet (sNew S23 20 120 120) 200 45 = S24 at *
  refine n_X9_init_328 (c24.o (by decide +kernel)) ?_
  have c25 := c24.up (b := 200) (i := 48) (v := -1) (by decide)
  have p25 := p24.up (i := 48) (by decide)
  generalize up M24 200 48 (-1) = M25 at *
  have e25 : sN S24 + 1 = 200 + 24 := c25.e rfl
  have c26 := c25.al (f := 51) (m' := 224) rfl (k := 21) (l := 21) (u := 21) (by decide +kernel) (y := sN S24 + 1) e25
  refine n_X9_init_333 (c25.o (by decide +kernel)).nw e25 ?_
  have p26 := p25.nw (m' := 224) (y := sN S24 + 1) (by decide) rfl e25 (by decide)
  generalize zr M25 (sN S24 + 1) = M26 at *
  generalize sSet (sNew S24 21 21 21) 200 51 = S26 at *
  have e26 : sN S26 + 1 = 200 + 25 := c26.e rfl
  have c27 := c26.al (f := 53) (m' := 225) rfl (k := 20) (l := 160) (u := 160) (by decide +kernel) (y := sN S26 + 1) e26
  refine n_X9_init_341 (c26.o (by decide +kernel)).nw e26 ?_
  have p27 := p26.nw (m' := 225) (y := sN S26 + 1) (by decide) rfl e26 (by decide)
  generalize zr M26 (sN S26 + 1) = M27 at *
  generalize sSet (sNew S26 20 160 160) 200 53 = S27 at *
  refine n_X9_init_350 (c27.o (by decide +kernel)) ?_
  have c28 := c27.up (b := 200) (i := 54) (v := -1) (by decide)
  have p28 := p27.up (i := 54) (by decide)
  generalize up M27 200 54 (-1) = M28 at *
  have o9 := c28.o (kd := 9) (by decide +kernel)
  have f3 := c28.2.2.1 3 (by decide)
  have o2 : isO S27 (200 + 2) 20 := c28.1.o (by decide) (by decide) (by decide +kernel)
  have l2 : sL S27 (200 + 2) = 9390 := c28.1.ln (by decide) (by decide) (by decide +kernel)
  refine n_X9_init_355 o9 f3 o2 o9 f3 o2 o9 f3 o2 (by rw [l2]; decide) (k _ _ c28.1 c28.2.1 (Dn.of c28.2.2.1 (by decide +kernel)) (fun a i q => ?_) ⟨M28, p28, rfl⟩)
  rw [up3_ne (by omega) (by omega) (by omega)]; exact c28.2.2.2.2 a i q
end NM
