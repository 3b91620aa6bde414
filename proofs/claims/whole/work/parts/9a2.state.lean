/-! The constructors: State, History, Reader, Tape, Worker. -/
section NS
variable {d : Nat} {S S0 S' : mSh} {M M0 M' : mMem} {Q : Option mV → mSh → mMem → Prop} {m m' x0 a kd k l u f lo hi y : Int} {fl : List Int}
theorem Z.kp (h : Z lo hi M) (hy : hi < y) (f : ∀ a i, a < y → M' a i = M a i) : Z lo hi M' := fun a i q0 q1 => (f a i (by omega)).trans (h a i q0 q1)
theorem Z.le {lo' hi' : Int} (h : Z lo hi M) (h1 : lo ≤ lo') (h2 : hi' ≤ hi) : Z lo' hi' M := fun a i q0 q1 => h a i (by omega) (by omega)
theorem Z.jn {mid : Int} (h : Z lo mid M) (h' : Z (mid + 1) hi M) : Z lo hi M := fun a i q0 q1 => by
  by_cases q : a ≤ mid
  · exact h a i q0 q
  · exact h' a i (by omega) q1
theorem TmI.kp (h : TmI M a) (hy : a < y) (f : ∀ a i, a < y → M' a i = M a i) : TmI M' a := by
  unfold TmI
  rw [f a _ hy, f a _ hy, f a _ hy, f a _ hy]; exact h
abbrev tbA (x0 : Int) : Prop := kdT x0 = 3 ∧ TB (x0 + 1) 4 0 8 ∧ tbS (x0 + 1) ∧ TB (x0 + 8) 6 0 4 ∧ tbT (x0 + 8) 0 0 ∧ TB (x0 + 11) 23 6 6 ∧ TB (x0 + 12) 23 4 4 ∧ TB (x0 + 13) 20 6 6 ∧ TB (x0 + 14) 20 6 6
def StI (M : mMem) (x0 : Int) : Prop := M x0 9 = -1 ∧ (∀ i, i ≠ 9 → M x0 i = 0) ∧ Z (x0 + 1) (x0 + 6) M ∧ TmI M (x0 + 7) ∧ Z (x0 + 8) (x0 + 10) M ∧ (∀ i, 0 ≤ i → i < 6 → M (x0 + 11) i = x0 + 8) ∧ (∀ i, 0 ≤ i → i < 4 → M (x0 + 12) i = x0 + 8)
theorem StI.kp (h : StI M x0) (hy : x0 + 14 < y) (f : ∀ a i, a < y → M' a i = M a i) : StI M' x0 := by
  obtain ⟨h1, h2, h3, h4, h5, h6, h7⟩ := h
  exact ⟨(f _ _ (by omega)).trans h1, fun i q => (f _ _ (by omega)).trans (h2 i q), h3.kp (by omega) f, h4.kp (by omega) f, h5.kp (by omega) f, fun i q0 q1 => (f _ _ (by omega)).trans (h6 i q0 q1), fun i q0 q1 => (f _ _ (by omega)).trans (h7 i q0 q1)⟩
theorem c_nState (lt : LT x0 S) (h1 : 1 ≤ x0) (tb : tbA x0) (hz : ∀ i, M x0 i = 0) (k : ∀ S' M', LT (x0 + 14) S' → GrF S S' → DnR S' x0 (x0 + 14) → (∀ a i, a < x0 → M' a i = M a i) → StI M' x0 → Q none S' M') : WP PR (d + 1) 35 0 [vA x0, vU] [] S M Q := by
  obtain ⟨kd, b1, bs, b8, bt, b11, b12, b13, b14⟩ := tb
  have c0 : CI x0 x0 [] S S M M := CI.be lt h1 (Int.le_refl _)
  have e1 : sN S + 1 = x0 + 1 := c0.e rfl
  refine n_X3_init_0 (isO_self (by omega)) h1 ?_
  have c1 := c0.nw (m' := x0 + 1) rfl b1 (y := x0 + 1) rfl
  have z1 := (Z.be hz).nw (m' := x0 + 1) (y := x0 + 1) rfl rfl
  rw [e1]
  generalize sNew S 4 0 8 = S1 at *
  generalize zr M (x0 + 1) = M1 at *
  refine c_nStock c1.1 bs (fun i => z1 _ i (by omega) (by omega)) (fun S2 M2 lt2 g2 dn2 f2 zz2 tm2 => ?_)
  rw [show x0 + 1 + 6 = x0 + 7 by omega] at lt2 dn2 tm2
  rw [show x0 + 1 + 5 = x0 + 6 by omega] at zz2
  have c2 := c1.go lt2 g2 (by omega) (fun a i q => f2 a i (by omega))
  have r2 : ∀ i, M2 x0 i = 0 := fun i => (f2 _ _ (by omega)).trans (z1 _ i (by omega) (by omega))
  refine n_X3_init_12 (c2.o kd) rfl ?_
  have c3 := c2.st (f := 0)
  have dn3 : DnR (sSet S2 x0 0) (x0 + 1) (x0 + 7) := dn2.gf (by omega) (by rw [c2.1.1]; omega) GrF.st
  generalize sSet S2 x0 0 = S3 at *
  have e8 : sN S3 + 1 = x0 + 8 := c3.e (by omega)
  refine n_X3_init_15 (isO_self (by omega)) ?_
  have c4 := c3.nw (m' := x0 + 8) (by omega) b8 (y := x0 + 8) rfl
  have y4 : ∀ a i, a < x0 + 8 → zr M2 (x0 + 8) a i = M2 a i := fun a i q => zr_ne (by omega)
  have w4 : ∀ i, zr M2 (x0 + 8) (x0 + 8) i = 0 := fun i => zr_s
  have dn4 := dn3.gf (by omega) (by rw [c3.1.1]; omega) (GrF.nw S3 (k := 6) (l := 0) (u := 4))
  rw [e8]
  generalize sNew S3 6 0 4 = S4 at *
  generalize zr M2 (x0 + 8) = M4 at *
  refine c_nText c4.1 bt w4 (fun S5 M5 lt5 g5 dn5 f5 z5 => ?_)
  rw [show x0 + 8 + 2 = x0 + 10 by omega] at lt5 dn5 z5
  have c5 := c4.go lt5 g5 (by omega) (fun a i q => f5 a i (by omega))
  have dn5' : DnR S5 (x0 + 1) (x0 + 10) := (dn4.gf (by omega) (by rw [c4.1.1]; omega) g5).jn (by rw [show x0 + 7 + 1 = x0 + 8 by omega]; exact dn5)
  have r5 : ∀ i, M5 x0 i = 0 := fun i => by rw [f5 _ _ (by omega), y4 _ _ (by omega)]; exact r2 i
  have zz5 : Z (x0 + 1) (x0 + 6) M5 := (zz2.kp (y := x0 + 8) (by omega) y4).kp (y := x0 + 8) (by omega) f5
  have tm5 : TmI M5 (x0 + 7) := (tm2.kp (y := x0 + 8) (by omega) y4).kp (y := x0 + 8) (by omega) f5
  refine n_X3_init_25 (c5.o kd) rfl ?_
  have c6 := c5.st (f := 1)
  have dn6 : DnR (sSet S5 x0 1) (x0 + 1) (x0 + 10) := dn5'.gf (by omega) (by rw [c5.1.1]; omega) GrF.st
  generalize sSet S5 x0 1 = S6 at *
  have q6 := c6.e (y := x0 + 11) (by omega)
  refine n_X3_init_28 (c6.o kd).nw q6 ?_
  rw [q6]
  have c7 := c6.al (f := 2) (m' := x0 + 11) (by omega) b11 (y := x0 + 11) rfl
  have dn7 := dn6.gf (by omega) (by rw [c6.1.1]; omega) ((GrF.nw S6 (k := 23) (l := 6) (u := 6)).tr (GrF.st (b := x0) (x := 2)))
  generalize sSet (sNew S6 23 6 6) x0 2 = S7 at *
  have q7 := c7.e (y := x0 + 12) (by omega)
  refine n_X3_init_37 (c7.o kd).nw q7 ?_
  rw [q7]
  have c8 := c7.al (f := 3) (m' := x0 + 12) (by omega) b12 (y := x0 + 12) rfl
  have dn8 := dn7.gf (by omega) (by rw [c7.1.1]; omega) ((GrF.nw S7 (k := 23) (l := 4) (u := 4)).tr (GrF.st (b := x0) (x := 3)))
  generalize sSet (sNew S7 23 4 4) x0 3 = S8 at *
  have q8 := c8.e (y := x0 + 13) (by omega)
  refine n_X3_init_45 (c8.o kd).nw q8 ?_
  rw [q8]
  have c9 := c8.al (f := 4) (m' := x0 + 13) (by omega) b13 (y := x0 + 13) rfl
  have dn9 := dn8.gf (by omega) (by rw [c8.1.1]; omega) ((GrF.nw S8 (k := 20) (l := 6) (u := 6)).tr (GrF.st (b := x0) (x := 4)))
  generalize sSet (sNew S8 20 6 6) x0 4 = S9 at *
  have q9 := c9.e (y := x0 + 14) (by omega)
  refine n_X3_init_53 (c9.o kd).nw q9 ?_
  rw [q9]
  have c10 := c9.al (f := 5) (m' := x0 + 14) (by omega) b14 (y := x0 + 14) rfl
  have dn10 := dn9.gf (by omega) (by rw [c9.1.1]; omega) ((GrF.nw S9 (k := 20) (l := 6) (u := 6)).tr (GrF.st (b := x0) (x := 5)))
  generalize sSet (sNew S9 20 6 6) x0 5 = S10 at *
  have y10 : ∀ a i, a < x0 + 11 → zr (zr (zr (zr M5 (x0 + 11)) (x0 + 12)) (x0 + 13)) (x0 + 14) a i = M5 a i := fun a i q => by rw [zr_ne (by omega), zr_ne (by omega), zr_ne (by omega), zr_ne (by omega)]
  generalize zr (zr (zr (zr M5 (x0 + 11)) (x0 + 12)) (x0 + 13)) (x0 + 14) = M10 at *
  refine n_X3_init_61 (c10.o kd) (n_X3_init_66 ?_)
  have g11 : ∀ a i, a < x0 + 11 → ¬ (a = x0 ∧ i = 9) → up M10 x0 9 (-1) a i = M5 a i := fun a i q0 q1 => (up1_ne q1).trans (y10 a i q0)
  have g9 : up M10 x0 9 (-1) x0 9 = -1 := up_s _ _ _ _
  generalize up M10 x0 9 (-1) = M11 at *
  have fl := c10.2.2.1
  have o3 := c10.o kd
  have o8 : isO S10 (x0 + 8) 6 := c10.1.o (by omega) (by omega) bt.2.1
  have o11 : isO S10 (x0 + 11) 23 := c10.1.o (by omega) (by omega) b11.1
  have o12 : isO S10 (x0 + 12) 23 := c10.1.o (by omega) (by omega) b12.1
  have l11 : sL S10 (x0 + 11) = 6 := c10.1.ln (by omega) (by omega) b11.2.1
  have l12 : sL S10 (x0 + 12) = 4 := c10.1.ln (by omega) (by omega) b12.2.1
  refine for_up (W := fun i => ∀ N : mMem, (∀ a j, a < x0 + 11 → N a j = M11 a j) → (∀ j, 0 ≤ j → j < i → N (x0 + 11) j = x0 + 8) → WP PR (d + 1) 35 68 [vA x0, vI i] [] S10 N Q) (lo := 0) (hi := 6) (by decide) ?_ ?_ M11 (fun _ _ _ => rfl) (fun j p0 p1 => absurd p1 (by omega))
  · intro N n1 n2
    refine n_X3_init_68 (fun _ => n_X3_init_90 ?_) (fun w => absurd w (by decide))
    refine for_up (W := fun i => ∀ N2 : mMem, (∀ a j, a < x0 + 12 → N2 a j = N a j) → (∀ j, 0 ≤ j → j < i → N2 (x0 + 12) j = x0 + 8) → WP PR (d + 1) 35 92 [vA x0, vI i] [] S10 N2 Q) (lo := 0) (hi := 4) (by decide) ?_ ?_ N (fun _ _ _ => rfl) (fun j p0 p1 => absurd p1 (by omega))
    · intro N2 n3 n4
      refine n_X3_init_92 (fun _ => n_X3_init_113 ?_) (fun w => absurd w (by decide))
      have fa : ∀ a i, a < x0 + 11 → ¬ (a = x0 ∧ i = 9) → N2 a i = M5 a i := fun a i q0 q1 => by rw [n3 a i (by omega), n1 a i q0, g11 a i q0 q1]
      refine k S10 N2 c10.1 c10.2.1 ?_ (fun a i q => ?_) ⟨?_, fun i q => ?_, fun a i q0 q1 => ?_, ?_, fun a i q0 q1 => ?_, fun i q0 q1 => ?_, n4⟩
      · intro a q0 q1
        by_cases e : a = x0
        · subst e; exact Dn.of fl (by rw [kd]; decide)
        · by_cases e2 : a ≤ x0 + 10
          · exact dn10 a (by omega) e2
          · refine Dn.ar ?_
            have : a = x0 + 11 ∨ a = x0 + 12 ∨ a = x0 + 13 ∨ a = x0 + 14 := by omega
            rcases this with rfl | rfl | rfl | rfl
            · exact Or.inr (Or.inr (Or.inr (Or.inl b11.1)))
            · exact Or.inr (Or.inr (Or.inr (Or.inl b12.1)))
            · exact Or.inl b13.1
            · exact Or.inl b14.1
      · rw [fa a i (by omega) (by omega)]; exact c5.2.2.2.2 a i q
      · rw [n3 _ _ (by omega), n1 _ _ (by omega)]; exact g9
      · rw [fa _ _ (by omega) (by omega)]; exact r5 i
      · rw [fa _ _ (by omega) (by omega)]; exact zz5 a i q0 q1
      · unfold TmI
        rw [fa _ _ (by omega) (by omega), fa _ _ (by omega) (by omega), fa _ _ (by omega) (by omega), fa _ _ (by omega) (by omega)]; exact tm5
      · rw [fa _ _ (by omega) (by omega)]; exact z5 a i q0 q1
      · rw [n3 _ _ (by omega)]; exact n2 i q0 q1
    · intro i i0 i1 ih N2 n3 n4
      refine n_X3_init_92 (fun w => absurd w (by omega)) (fun _ => n_X3_init_97 o3 (fl 3 (by decide)) o3 (fl 1 (by decide)) o12 o8 (by rw [l12]; omega) (ih _ (fun a j q => ?_) (fun j q0 q1 => ?_)))
      · rw [up_na (by omega)]; exact n3 a j q
      · by_cases e : j = i
        · subst e; exact up_s _ _ _ _
        · rw [up_ni e]; exact n4 j q0 (by omega)
  · intro i i0 i1 ih N n1 n2
    refine n_X3_init_68 (fun w => absurd w (by omega)) (fun _ => n_X3_init_74 o3 (fl 2 (by decide)) o3 (fl 1 (by decide)) o11 o8 (by rw [l11]; omega) (ih _ (fun a j q => ?_) (fun j q0 q1 => ?_)))
    · rw [up_na (by omega)]; exact n1 a j q
    · by_cases e : j = i
      · subst e; exact up_s _ _ _ _
      · rw [up_ni e]; exact n2 j q0 (by omega)
/-- the Tape -/
theorem c_nTape (lt : LT 2 S) (hz : ∀ i, M 2 i = 0) (k : ∀ S' M', LT 3 S' → GrF S S' → DnR S' 2 3 → (∀ a i, a < 2 → M' a i = M a i) → Z 2 3 M' → Q none S' M') : WP PR d 56 0 [vA 2] [] S M Q := by
  have c0 : CI 2 2 [] S S M M := CI.be lt (by decide) (by decide)
  have e := c0.e (y := 2 + 1) rfl
  refine b_X5_init_0 (c0.o (by decide +kernel)).nw e (by decide) ?_
  have c1 := c0.al (f := 0) (m' := 3) rfl (k := 20) (l := 400) (u := 400) (by decide +kernel) (y := sN S + 1) e
  have z1 := (Z.be hz).nw (m' := 3) (y := sN S + 1) rfl e
  refine k _ _ c1.1 c1.2.1 (fun a q0 q1 => ?_) c1.2.2.2.2 z1
  by_cases q : a = 2
  · subst q; exact Dn.of c1.2.2.1 (by decide +kernel)
  · rw [show a = 3 by omega]; exact Dn.ar (Or.inl (by decide +kernel))
/-- the Reader -/
theorem c_nReader (lt : LT 4 S) (hz : ∀ i, M 4 i = 0) (k : ∀ S' M', LT 7 S' → GrF S S' → DnR S' 4 7 → (∀ a i, a < 4 → M' a i = M a i) → Z 4 7 M' → Q none S' M') : WP PR (d + 1) 13 0 [vA 4, vA 2] [] S M Q := by
  have c0 : CI 4 4 [] S S M M := CI.be lt (by decide) (by decide)
  have e : sN S + 1 = 5 := c0.e rfl
  refine b_X2_init_0 (isO_self (by omega)) (by decide) ?_
  have c1 := c0.nw (m' := 5) rfl (k := 6) (l := 0) (u := 4) (by decide +kernel) (y := 5) rfl
  have z1 := (Z.be hz).nw (m' := 5) (y := 5) rfl rfl
  rw [e]
  generalize sNew S 6 0 4 = S1 at *
  generalize zr M 5 = M1 at *
  refine c_nText c1.1 (by decide +kernel) (fun i => z1 _ i (by decide) (by decide)) (fun S2 M2 lt2 g2 dn2 f2 z2 => ?_)
  have c2 := c1.go (m' := 7) lt2 g2 (by decide) (fun a i q => f2 a i (by omega))
  have c3 := (c2.st (f := 1)).st (f := 0)
  refine b_X2_init_17 (c2.o (by decide +kernel)) (by decide) (c2.st.o (by decide +kernel)) (by decide) (k _ _ c3.1 c3.2.1 (fun a q0 q1 => ?_) c3.2.2.2.2 (fun a i q0 q1 => ?_))
  · by_cases q : a = 4
    · subst q; exact Dn.of c3.2.2.1 (by decide +kernel)
    · exact (dn2 a (by omega) (by omega)).gf (by omega) (by rw [c2.1.1]; omega) ((GrF.st (b := 4) (x := 1)).tr GrF.st)
  · by_cases q : a = 4
    · subst q; rw [f2 _ _ (by decide)]; exact z1 _ _ (by decide) (by decide)
    · exact z2 a i (by omega) (by omega)
/-- the History -/
def HsI (M : mMem) : Prop := Z 55 55 M ∧ ∀ i, 0 ≤ i → i < 17 → M 56 i = 58 + 7 * i
theorem HsI.kp (h : HsI M) (hy : 56 < y) (f : ∀ a i, a < y → M' a i = M a i) : HsI M' := ⟨h.1.kp (by omega) f, fun i q0 q1 => (f _ _ (by omega)).trans (h.2 i q0 q1)⟩
theorem tbH (i : Int) (h : 0 ≤ i ∧ i < 17) : TB (58 + 7 * i) 4 0 8 ∧ tbS (58 + 7 * i) := by
  have h17 : i = 0 ∨ i = 1 ∨ i = 2 ∨ i = 3 ∨ i = 4 ∨ i = 5 ∨ i = 6 ∨ i = 7 ∨ i = 8 ∨ i = 9 ∨ i = 10 ∨ i = 11 ∨ i = 12 ∨ i = 13 ∨ i = 14 ∨ i = 15 ∨ i = 16 := by omega
  rcases h17 with rfl | rfl | rfl | rfl | rfl | rfl | rfl | rfl | rfl | rfl | rfl | rfl | rfl | rfl | rfl | rfl | rfl <;> decide +kernel
theorem c_nHist (lt : LT 55 S) (hz : ∀ i, M 55 i = 0) (k : ∀ S' M', LT 176 S' → GrF S S' → DnR S' 55 176 → (∀ a i, a < 55 → M' a i = M a i) → HsI M' → Q none S' M') : WP PR (d + 1) 8 0 [vA 55, vU] [] S M Q := by
  have c0 : CI 55 55 [] S S M M := CI.be lt (by decide) (by decide)
  have c1 := c0.al (f := 0) (m' := 56) rfl (k := 24) (l := 17) (u := 17) (by decide +kernel) (y := sN S + 1) (c0.e rfl)
  have c2 := c1.al (f := 1) (m' := 57) rfl (k := 20) (l := 17) (u := 17) (by decide +kernel) (y := sN (sSet (sNew S 24 17 17) 55 0) + 1) (c1.e rfl)
  have z1 := (Z.be hz).nw (m' := 56) (y := sN S + 1) rfl (c0.e rfl)
  have z2 := z1.nw (m' := 57) (y := sN (sSet (sNew S 24 17 17) 55 0) + 1) rfl (c1.e rfl)
  refine b_X1_init_0 (c0.o (by decide +kernel)).nw (c0.e rfl) (c1.o (by decide +kernel)).nw (c1.e rfl) (by decide) ?_
  generalize zr (zr M (sN S + 1)) (sN (sSet (sNew S 24 17 17) 55 0) + 1) = M1 at *
  generalize sSet (sNew (sSet (sNew S 24 17 17) 55 0) 20 17 17) 55 1 = S1 at *
  refine for_up (W := fun i => ∀ (S2 : mSh) (N : mMem), CI 55 (57 + 7 * i) [1, 0] S S2 M N → DnR S2 58 (57 + 7 * i) → (∀ j, N 55 j = 0) → (∀ j, 0 ≤ j → j < i → N 56 j = 58 + 7 * j) → WP PR (d + 1) 8 23 [vA 55, vI i] [] S2 N Q) (lo := 0) (hi := 17) (by decide) ?_ ?_ S1 M1 c2 (fun a q0 q1 => absurd q0 (by omega)) (fun j => z2 _ _ (by decide) (by decide)) (fun j q0 q1 => absurd q1 (by omega))
  · intro S2 N c dn r e56
    refine b_X1_init_23 (fun _ => b_X1_init_48 (k S2 N c.1 c.2.1 ?_ c.2.2.2.2 ⟨fun a i q0 q1 => by rw [show a = 55 by omega]; exact r i, e56⟩)) (fun w => absurd w (by decide))
    intro a q0 q1
    by_cases e : a = 55
    · subst e; exact Dn.of c.2.2.1 (by decide +kernel)
    · by_cases e2 : a = 56
      · subst e2; exact Dn.ar (by decide +kernel)
      · by_cases e3 : a = 57
        · subst e3; exact Dn.ar (by decide +kernel)
        · exact dn a (by omega) (by omega)
  · intro i i0 i1 ih S2 N c dn r e56
    obtain ⟨tb1, tb2⟩ := tbH i ⟨i0, i1⟩
    have es : sN S2 + 1 = 58 + 7 * i := c.e (by omega)
    refine b_X1_init_23 (fun w => absurd w (by omega)) (fun _ => b_X1_init_29 (c.o (by decide +kernel)) (c.2.2.1 0 (by decide)) (isO_self (by omega)) ?_)
    have c3 := c.nw (m' := 58 + 7 * i) (by omega) tb1 (y := 58 + 7 * i) rfl
    have dn3 := dn.gf (by decide) (by omega) (GrF.nw S2 (k := 4) (l := 0) (u := 8))
    have f3 : ∀ a j, a < 58 + 7 * i → zr N (58 + 7 * i) a j = N a j := fun a j q => zr_ne (by omega)
    have w3 : ∀ j, zr N (58 + 7 * i) (58 + 7 * i) j = 0 := fun j => zr_s
    rw [es]
    generalize sNew S2 4 0 8 = S3 at *
    generalize zr N (58 + 7 * i) = N3 at *
    refine c_nStock c3.1 tb2 w3 (fun S4 N4 lt4 g4 dn4 f4 z4 tm4 => ?_)
    rw [show 58 + 7 * i + 6 = 57 + 7 * (i + 1) by omega] at lt4 dn4
    have c4 := c3.go lt4 g4 (by omega) (fun a j q => f4 a j (by omega))
    have l56 : sL S4 (55 + 1) = 17 := c4.1.ln (by decide) (by omega) (by decide +kernel)
    refine b_X1_init_41 (c4.1.o (by decide) (by omega) (by decide +kernel)) (c4.1.o (by omega) (by omega) tb2.2.1) (by rw [l56]; omega) (ih S4 _ (c4.up (by decide)) ?_ (fun j => ?_) (fun j q0 q1 => ?_))
    · exact (dn3.gf (by decide) (by rw [c3.1.1]; omega) g4).jn (by rw [show 57 + 7 * i + 1 = 58 + 7 * i by omega]; exact dn4)
    · rw [up_na (by decide), f4 _ _ (by omega), f3 _ _ (by omega)]; exact r j
    · by_cases e : j = i
      · subst e; exact up_s _ _ _ _
      · rw [up_ni e, f4 _ _ (by omega), f3 _ _ (by omega)]; exact e56 j q0 (by omega)
/-- the Worker, with its Asker -/
theorem c_nWorker (lt : LT 194 S) (k : ∀ S' M', LT 197 S' → GrF S S' → Dn S' 191 → DnR S' 195 197 → (∀ a i, a < 191 → M' a i = M a i) → Q none S' M') : WP PR (d + 1) 69 0 [vA 191, vA 177, vA 192] [] S M Q := by
  have c0 : CI 191 194 [] S S M M := CI.be lt (by decide) (by decide)
  have c1 := c0.al (f := 1) (m' := 195) rfl (k := 20) (l := 20) (u := 20) (by decide +kernel) (y := sN S + 1) (c0.e rfl)
  have e1 := c1.e (y := 196) rfl
  have c2 := c1.nw (m' := 196) rfl (k := 0) (l := 0) (u := 6) (by decide +kernel) (y := sN (sSet (sNew S 20 20 20) 191 1) + 1) e1
  refine b_X7_init_0 (c0.o (by decide +kernel)).nw (c0.e rfl) (isO_self (by omega)) (by decide) ?_
  rw [e1] at c2 ⊢
  generalize zr (zr M (sN S + 1)) 196 = M2 at *
  generalize sNew (sSet (sNew S 20 20 20) 191 1) 0 0 6 = S2 at *
  have a0 : CI 196 196 [] S2 S2 M2 M2 := CI.be c2.1 (by decide) (by decide)
  have a1 := a0.al (f := 0) (m' := 197) rfl (k := 20) (l := 51) (u := 51) (by decide +kernel) (y := sN S2 + 1) (a0.e rfl)
  refine b_X0_init_0 (a0.o (by decide +kernel)).nw (a0.e rfl) (a1.o (by decide +kernel)) (a1.o (by decide +kernel)) (by decide) ?_
  have c3 := c2.go a1.1 a1.2.1 (by decide) (fun a i q => a1.2.2.2.2 a i (by omega))
  have c4 := ((c3.up (b := 196) (i := 5) (v := -1) (by decide)).up (b := 196) (i := 2) (v := 177) (by decide)).st (f := 0)
  have c5 := (c4.up (b := 191) (i := 2) (v := 177) (by decide)).up (b := 191) (i := 3) (v := 192) (by decide)
  refine b_X7_init_21 (c3.o (by decide +kernel)) (by decide) (c4.o (by decide +kernel)) (c4.o (by decide +kernel)) (k _ _ c5.1 c5.2.1 (Dn.of c5.2.2.1 (by decide +kernel)) (fun a q0 q1 => ?_) c5.2.2.2.2)
  by_cases q : a = 196
  · subst q; exact (Dn.of a1.2.2.1 (by decide +kernel)).gf (by decide) (by rw [a1.1.1]; decide) GrF.st
  · refine Dn.ar ?_
    have : a = 195 ∨ a = 197 := by omega
    rcases this with rfl | rfl <;> decide +kernel
end NS
