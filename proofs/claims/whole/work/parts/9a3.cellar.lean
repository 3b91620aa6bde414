/-! The constructor of the class. -/
section NC
variable {d : Nat} {S : mSh} {M M' : mMem} {Q : Option mV → mSh → mMem → Prop}
def CF (M : mMem) : Prop := (∀ i, i ≠ 13 → i ≠ 14 → M 1 i = 0) ∧ (M 1 13 = -1 ∧ M 1 14 = -1) ∧ Z 2 7 M ∧ StI M 8 ∧ (M 23 0 = 24 ∧ M 23 1 = 39) ∧ Z 54 54 M ∧ HsI M ∧ Z 184 184 M ∧ Z 199 199 M
theorem CF.kp {y : Int} (h : CF M) (hy : 199 < y) (f : ∀ a i, a < y → M' a i = M a i) : CF M' := by
  obtain ⟨h1, h2, h3, h4, h5, h6, h7, h8, h9⟩ := h
  exact ⟨fun i q0 q1 => (f _ _ (by omega)).trans (h1 i q0 q1), ⟨(f _ _ (by omega)).trans h2.1, (f _ _ (by omega)).trans h2.2⟩, h3.kp (by omega) f, h4.kp (by omega) f, ⟨(f _ _ (by omega)).trans h5.1, (f _ _ (by omega)).trans h5.2⟩, h6.kp (by omega) f, h7.kp (by omega) f, h8.kp (by omega) f, h9.kp (by omega) f⟩
set_option maxHeartbeats 1000000 in
theorem c_nCellar (lt : LT 1 S) (hz : ∀ i, M 1 i = 0) (k : ∀ S' M', LT 199 S' → GrF S S' → DnR S' 1 199 → CF M' → Q none S' M') : WP PR (d + 2) 81 0 [vA 1] [] S M Q := by
  have c0 : CI 1 1 [] S S M M := CI.be lt (by decide) (by decide)
  have e0 : sN S + 1 = 2 := c0.e rfl
  refine n_X8_init_0 (isO_self (by omega)) (by decide) ?_
  have c1 := c0.nw (m' := 2) rfl (k := 5) (l := 0) (u := 2) (by decide +kernel) (y := 2) rfl
  have z1 := (Z.be hz).nw (m' := 2) (y := 2) rfl rfl
  rw [e0]
  generalize sNew S 5 0 2 = S1 at *
  generalize zr M 2 = M1 at *
  refine c_nTape c1.1 (fun i => z1 _ i (by decide) (by decide)) (fun S2 M2 lt2 g2 dn2 f2 z2 => ?_)
  have c2 := c1.go lt2 g2 (by decide) (fun a i q => f2 a i (by omega))
  have z2 : Z 1 3 M2 := ((z1.le (lo' := 1) (hi' := 1) (by decide) (by decide)).kp (by decide) f2).jn z2
  refine n_X8_init_12 (c2.o (by decide +kernel)) (by decide) ?_
  have c3 := c2.st (f := 0)
  have dn3 := dn2.gf (by decide) (by rw [c2.1.1]; decide) (GrF.st (b := 1) (x := 0))
  generalize sSet S2 1 0 = S3 at *
  -- the Reader
  have e3 : sN S3 + 1 = 4 := c3.e rfl
  have c4 := c3.nw (m' := 4) rfl (k := 2) (l := 0) (u := 10) (by decide +kernel) (y := 4) rfl
  have z4 := z2.nw (m' := 4) (y := 4) rfl rfl
  have dn4 := dn3.gf (by decide) (by rw [c3.1.1]; decide) (GrF.nw S3 (k := 2) (l := 0) (u := 10))
  refine n_X8_init_15 (c3.o (by decide +kernel)).nw (c4.2.2.1 0 (by decide)) (isO_self (by omega)) ?_
  rw [e3]
  generalize sNew S3 2 0 10 = S4 at *
  generalize zr M2 4 = M4 at *
  refine c_nReader c4.1 (fun i => z4 _ i (by decide) (by decide)) (fun S5 M5 lt5 g5 dn5 f5 z5 => ?_)
  have c5 := c4.go lt5 g5 (by decide) (fun a i q => f5 a i (by omega))
  have dn5 : DnR S5 2 7 := (dn4.gf (by decide) (by rw [c4.1.1]; decide) g5).jn dn5
  have z5 : Z 1 7 M5 := ((z4.le (lo' := 1) (hi' := 3) (by decide) (by decide)).kp (by decide) f5).jn z5
  refine n_X8_init_27 (c5.o (by decide +kernel)) (by decide) ?_
  have c6 := c5.st (f := 1)
  have dn6 := dn5.gf (by decide) (by rw [c5.1.1]; decide) (GrF.st (b := 1) (x := 1))
  generalize sSet S5 1 1 = S6 at *
  -- the State
  have e6 : sN S6 + 1 = 8 := c6.e rfl
  have c7 := c6.nw (m' := 8) rfl (k := 3) (l := 0) (u := 10) (by decide +kernel) (y := 8) rfl
  have z7 := z5.nw (m' := 8) (y := 8) rfl rfl
  have dn7 := dn6.gf (by decide) (by rw [c6.1.1]; decide) (GrF.nw S6 (k := 3) (l := 0) (u := 10))
  refine n_X8_init_30 (isO_self (by omega)) ?_
  rw [e6]
  generalize sNew S6 3 0 10 = S7 at *
  generalize zr M5 8 = M7 at *
  refine c_nState c7.1 (by decide) (by decide +kernel) (fun i => z7 _ i (by decide) (by decide)) (fun S8 M8 lt8 g8 dn8 f8 s8 => ?_)
  have c8 := c7.go (m' := 22) lt8 g8 (by decide) (fun a i q => f8 a i (by omega))
  have dn8 : DnR S8 2 22 := (dn7.gf (by decide) (by rw [c7.1.1]; decide) g8).jn dn8
  have z8 : Z 1 7 M8 := (z7.le (lo' := 1) (hi' := 7) (by decide) (by decide)).kp (by decide) f8
  refine n_X8_init_38 (c8.o (by decide +kernel)) (by decide) ?_
  have c9 := c8.st (f := 2)
  have dn9 := dn8.gf (by decide) (by rw [c8.1.1]; decide) (GrF.st (b := 1) (x := 2))
  generalize sSet S8 1 2 = S9 at *
  -- the images
  have e9 : sN S9 + 1 = 23 := c9.e rfl
  have c10 := c9.nw (m' := 23) rfl (k := 25) (l := 2) (u := 2) (by decide +kernel) (y := 23) rfl
  have e10 : sN (sNew S9 25 2 2) + 1 = 24 := c10.e rfl
  have c11 := c10.nw (m' := 24) rfl (k := 3) (l := 0) (u := 10) (by decide +kernel) (y := 24) rfl
  have dn11 := dn9.gf (by decide) (by rw [c9.1.1]; decide) ((GrF.nw S9 (k := 25) (l := 2) (u := 2)).tr (GrF.nw _ (k := 3) (l := 0) (u := 10)))
  refine n_X8_init_41 (isO_self (by omega)) ?_
  rw [e10, e9]
  have f11 : ∀ a i, a < 23 → zr (zr M8 23) 24 a i = M8 a i := fun a i q => by rw [zr_ne (by omega), zr_ne (by omega)]
  have w11 : ∀ i, zr (zr M8 23) 24 24 i = 0 := fun i => zr_s
  generalize sNew (sNew S9 25 2 2) 3 0 10 = S11 at *
  generalize zr (zr M8 23) 24 = M11 at *
  refine c_nState c11.1 (by decide) (by decide +kernel) w11 (fun S12 M12 lt12 g12 dn12 f12 s12 => ?_)
  have c12 := c11.go (m' := 38) lt12 g12 (by decide) (fun a i q => f12 a i (by omega))
  have dn12 : DnR S12 2 38 := ((dn11.gf (by decide) (by rw [c11.1.1]; decide) g12).jn (mid := 22) (hi := 23) (DnR.one (Dn.ar (by decide +kernel)))).jn dn12
  have f12 : ∀ a i, a < 23 → M12 a i = M8 a i := fun a i q => (f12 a i (by omega)).trans (f11 a i q)
  have z12 : Z 1 7 M12 := z8.kp (by decide) f12
  have s12 : StI M12 8 := s8.kp (by decide) f12
  have e12 : sN S12 + 1 = 39 := c12.e rfl
  have c13 := (c12.up (b := 23) (i := 0) (v := 24) (by decide)).nw (m' := 39) rfl (k := 3) (l := 0) (u := 10) (by decide +kernel) (y := 39) rfl
  have dn13 := dn12.gf (by decide) (by rw [c12.1.1]; decide) (GrF.nw S12 (k := 3) (l := 0) (u := 10))
  have l23 : sL S12 23 = 2 := c12.1.ln (by decide) (by decide) (by decide +kernel)
  refine n_X8_init_55 (c12.1.o (by decide) (by decide) (by decide +kernel)) (c12.1.o (by decide) (by decide) (by decide +kernel)) (isO_self (by omega)) (by rw [l23]; decide) ?_
  rw [e12]
  have f13 : ∀ a i, a < 23 → zr (up M12 23 0 24) 39 a i = M12 a i := fun a i q => by rw [zr_ne (by omega), up_na (by omega)]
  have w13 : ∀ i, zr (up M12 23 0 24) 39 39 i = 0 := fun i => zr_s
  have i13 : zr (up M12 23 0 24) 39 23 0 = 24 := by rw [zr_ne (by decide), up_s]
  generalize sNew S12 3 0 10 = S13 at *
  generalize zr (up M12 23 0 24) 39 = M13 at *
  refine c_nState c13.1 (by decide) (by decide +kernel) w13 (fun S14 M14 lt14 g14 dn14 f14 s14 => ?_)
  have c14 := c13.go (m' := 53) lt14 g14 (by decide) (fun a i q => f14 a i (by omega))
  have dn14 : DnR S14 2 53 := (dn13.gf (by decide) (by rw [c13.1.1]; decide) g14).jn dn14
  have i14 : M14 23 0 = 24 := (f14 _ _ (by decide)).trans i13
  have f14 : ∀ a i, a < 23 → M14 a i = M12 a i := fun a i q => (f14 a i (by omega)).trans (f13 a i q)
  have z14 : Z 1 7 M14 := z12.kp (by decide) f14
  have s14 : StI M14 8 := s12.kp (by decide) f14
  have l23 : sL S14 23 = 2 := c14.1.ln (by decide) (by decide) (by decide +kernel)
  refine n_X8_init_65 (c14.1.o (by decide) (by decide) (by decide +kernel)) (c14.1.o (by decide) (by decide) (by decide +kernel)) (c14.o (by decide +kernel)) (by decide) (by rw [l23]; decide) ?_
  have c15 := (c14.up (b := 23) (i := 1) (v := 39) (by decide)).st (f := 3)
  have dn15 := dn14.gf (by decide) (by rw [c14.1.1]; decide) (GrF.st (b := 1) (x := 3))
  have f15 : ∀ a i, a < 23 → up M14 23 1 39 a i = M14 a i := fun a i q => up_na (by omega)
  have i15 : up M14 23 1 39 23 0 = 24 ∧ up M14 23 1 39 23 1 = 39 := ⟨by rw [up_ni (by decide)]; exact i14, up_s _ _ _ _⟩
  have z15 : Z 1 7 (up M14 23 1 39) := z14.kp (by decide) f15
  have s15 : StI (up M14 23 1 39) 8 := s14.kp (by decide) f15
  generalize sSet S14 1 3 = S15 at *
  generalize up M14 23 1 39 = M15 at *
  -- which images are there; the History
  have e15 : sN S15 + 1 = 1 + 53 := c15.e rfl
  refine n_X8_init_69 (c15.o (by decide +kernel)).nw e15 ?_
  have c16 := c15.al (f := 4) (m' := 54) rfl (k := 22) (l := 2) (u := 2) (by decide +kernel) (y := sN S15 + 1) e15
  have dn16 : DnR (sSet (sNew S15 22 2 2) 1 4) 2 54 := (dn15.gf (by decide) (by rw [c15.1.1]; decide) ((GrF.nw S15 (k := 22) (l := 2) (u := 2)).tr (GrF.st (b := 1) (x := 4)))).jn (DnR.one (Dn.ar (by decide +kernel)))
  have f16 : ∀ a i, a < 54 → zr M15 (sN S15 + 1) a i = M15 a i := fun a i q => zr_ne (by omega)
  have w16 : Z 54 54 (zr M15 (sN S15 + 1)) := Z.be (fun i => by rw [e15]; exact zr_s)
  have z16 := z15.kp (by decide) f16
  have s16 := s15.kp (by decide) f16
  have i16 : zr M15 (sN S15 + 1) 23 0 = 24 ∧ zr M15 (sN S15 + 1) 23 1 = 39 := ⟨(f16 _ _ (by decide)).trans i15.1, (f16 _ _ (by decide)).trans i15.2⟩
  generalize sSet (sNew S15 22 2 2) 1 4 = S16 at *
  generalize zr M15 (sN S15 + 1) = M16 at *
  have e16 : sN S16 + 1 = 55 := c16.e rfl
  have c17 := c16.nw (m' := 55) rfl (k := 1) (l := 0) (u := 4) (by decide +kernel) (y := 55) rfl
  have dn17 := dn16.gf (by decide) (by rw [c16.1.1]; decide) (GrF.nw S16 (k := 1) (l := 0) (u := 4))
  refine n_X8_init_76 (isO_self (by omega)) ?_
  rw [e16]
  have f17 : ∀ a i, a < 55 → zr M16 55 a i = M16 a i := fun a i q => zr_ne (by omega)
  have w17 : ∀ i, zr M16 55 55 i = 0 := fun i => zr_s
  generalize sNew S16 1 0 4 = S17 at *
  generalize zr M16 55 = M17 at *
  refine c_nHist c17.1 w17 (fun S18 M18 lt18 g18 dn18 f18 h18 => ?_)
  have c18 := c17.go lt18 g18 (by decide) (fun a i q => f18 a i (by omega))
  have dn18 : DnR S18 2 176 := (dn17.gf (by decide) (by rw [c17.1.1]; decide) g18).jn dn18
  have f18 : ∀ a i, a < 55 → M18 a i = M16 a i := fun a i q => (f18 a i q).trans (f17 a i q)
  have z18 := z16.kp (by decide) f18
  have s18 := s16.kp (by decide) f18
  have w18 := w16.kp (by decide) f18
  have i18 : M18 23 0 = 24 ∧ M18 23 1 = 39 := ⟨(f18 _ _ (by decide)).trans i16.1, (f18 _ _ (by decide)).trans i16.2⟩
  refine n_X8_init_84 (c18.o (by decide +kernel)) (by decide) ?_
  have c19 := c18.st (f := 5)
  have dn19 := dn18.gf (by decide) (by rw [c18.1.1]; decide) (GrF.st (b := 1) (x := 5))
  generalize sSet S18 1 5 = S19 at *
  -- paper
  have e19 : sN S19 + 1 = 177 := c19.e rfl
  have c20 := c19.nw (m' := 177) rfl (k := 4) (l := 0) (u := 8) (by decide +kernel) (y := 177) rfl
  have dn20 := dn19.gf (by decide) (by rw [c19.1.1]; decide) (GrF.nw S19 (k := 4) (l := 0) (u := 8))
  refine n_X8_init_87 (isO_self (by omega)) ?_
  rw [e19]
  have f20 : ∀ a i, a < 177 → zr M18 177 a i = M18 a i := fun a i q => zr_ne (by omega)
  have w20 : ∀ i, zr M18 177 177 i = 0 := fun i => zr_s
  generalize sNew S19 4 0 8 = S20 at *
  generalize zr M18 177 = M20 at *
  refine c_nStock c20.1 (by decide +kernel) w20 (fun S21 M21 lt21 g21 dn21 f21 _ _ => ?_)
  have c21 := c20.go (m' := 183) lt21 g21 (by decide) (fun a i q => f21 a i (by omega))
  have dn21 : DnR S21 2 183 := (dn20.gf (by decide) (by rw [c20.1.1]; decide) g21).jn dn21
  have f21 : ∀ a i, a < 177 → M21 a i = M18 a i := fun a i q => (f21 a i q).trans (f20 a i q)
  have z21 := z18.kp (by decide) f21
  have s21 := s18.kp (by decide) f21
  have v21 := w18.kp (by decide) f21
  have h21 := h18.kp (by decide) f21
  have i21 : M21 23 0 = 24 ∧ M21 23 1 = 39 := ⟨(f21 _ _ (by decide)).trans i18.1, (f21 _ _ (by decide)).trans i18.2⟩
  refine n_X8_init_95 (c21.o (by decide +kernel)) (by decide) ?_
  have c22 := c21.st (f := 6)
  have dn22 := dn21.gf (by decide) (by rw [c21.1.1]; decide) (GrF.st (b := 1) (x := 6))
  generalize sSet S21 1 6 = S22 at *
  -- what is harvested
  have e22 : sN S22 + 1 = 184 := c22.e rfl
  have c23 := c22.nw (m' := 184) rfl (k := 4) (l := 0) (u := 8) (by decide +kernel) (y := 184) rfl
  have dn23 := dn22.gf (by decide) (by rw [c22.1.1]; decide) (GrF.nw S22 (k := 4) (l := 0) (u := 8))
  refine n_X8_init_98 (isO_self (by omega)) ?_
  rw [e22]
  have f23 : ∀ a i, a < 184 → zr M21 184 a i = M21 a i := fun a i q => zr_ne (by omega)
  have w23 : ∀ i, zr M21 184 184 i = 0 := fun i => zr_s
  generalize sNew S22 4 0 8 = S23 at *
  generalize zr M21 184 = M23 at *
  refine c_nStock c23.1 (by decide +kernel) w23 (fun S24 M24 lt24 g24 dn24 f24 zz24 _ => ?_)
  have c24 := c23.go (m' := 190) lt24 g24 (by decide) (fun a i q => f24 a i (by omega))
  have dn24 : DnR S24 2 190 := (dn23.gf (by decide) (by rw [c23.1.1]; decide) g24).jn dn24
  have f24 : ∀ a i, a < 184 → M24 a i = M21 a i := fun a i q => (f24 a i q).trans (f23 a i q)
  have z24 := z21.kp (by decide) f24
  have s24 := s21.kp (by decide) f24
  have v24 := v21.kp (by decide) f24
  have h24 := h21.kp (by decide) f24
  have d24 : Z 184 184 M24 := zz24.le (by decide) (by decide)
  have i24 : M24 23 0 = 24 ∧ M24 23 1 = 39 := ⟨(f24 _ _ (by decide)).trans i21.1, (f24 _ _ (by decide)).trans i21.2⟩
  refine n_X8_init_106 (c24.o (by decide +kernel)) (by decide) ?_
  have c25 := c24.st (f := 7)
  have dn25 := dn24.gf (by decide) (by rw [c24.1.1]; decide) (GrF.st (b := 1) (x := 7))
  generalize sSet S24 1 7 = S25 at *
  -- the Worker
  have e25 : sN S25 + 1 = 191 := c25.e rfl
  have c26 := c25.nw (m' := 191) rfl (k := 7) (l := 0) (u := 7) (by decide +kernel) (y := 191) rfl
  have e26 : sN (sNew S25 7 0 7) + 1 = 192 := c26.e rfl
  have c27 := c26.nw (m' := 192) rfl (k := 6) (l := 0) (u := 4) (by decide +kernel) (y := 192) rfl
  have dn27 := dn25.gf (by decide) (by rw [c25.1.1]; decide) ((GrF.nw S25 (k := 7) (l := 0) (u := 7)).tr (GrF.nw _ (k := 6) (l := 0) (u := 4)))
  refine n_X8_init_109 (c25.o (by decide +kernel)).nw (c26.2.2.1 6 (by decide)) (isO_self (by omega)) ?_
  rw [e26, e25]
  have f27 : ∀ a i, a < 191 → zr (zr M24 191) 192 a i = M24 a i := fun a i q => by rw [zr_ne (by omega), zr_ne (by omega)]
  have w27 : ∀ i, zr (zr M24 191) 192 192 i = 0 := fun i => zr_s
  generalize sNew (sNew S25 7 0 7) 6 0 4 = S27 at *
  generalize zr (zr M24 191) 192 = M27 at *
  refine c_nText c27.1 (by decide +kernel) w27 (fun S28 M28 lt28 g28 dn28 f28 _ => ?_)
  have c28 := c27.go (m' := 194) lt28 g28 (by decide) (fun a i q => f28 a i (by omega))
  have dn28' := dn27.gf (by decide) (by rw [c27.1.1]; decide) g28
  refine n_X8_init_127 (c28.1.o (by decide) (by decide) (by decide +kernel)) ?_
  refine c_nWorker lt28 (fun S29 M29 lt29 g29 dA dB f29 => ?_)
  have c29 := c28.go lt29 g29 (by decide) (fun a i q => f29 a i (by omega))
  have dn29 : DnR S29 2 197 := fun a q0 q1 => by
    by_cases p1 : a ≤ 190
    · exact (dn28' a q0 p1).gf (by omega) (by rw [c28.1.1]; omega) g29
    · by_cases p2 : a = 191
      · subst p2; exact dA
      · by_cases p3 : a ≤ 194
        · exact (dn28 a (by omega) (by omega)).gf (by omega) (by rw [c28.1.1]; omega) g29
        · exact dB a (by omega) q1
  have f29 : ∀ a i, a < 191 → M29 a i = M24 a i := fun a i q => by rw [f29 a i q, f28 a i (by omega), f27 a i q]
  have z29 := z24.kp (by decide) f29
  have s29 := s24.kp (by decide) f29
  have v29 := v24.kp (by decide) f29
  have h29 := h24.kp (by decide) f29
  have d29 := d24.kp (by decide) f29
  have i29 : M29 23 0 = 24 ∧ M29 23 1 = 39 := ⟨(f29 _ _ (by decide)).trans i24.1, (f29 _ _ (by decide)).trans i24.2⟩
  refine n_X8_init_130 (c29.o (by decide +kernel)) (by decide) ?_
  have c30 := c29.st (f := 8)
  have dn30 := dn29.gf (by decide) (by rw [c29.1.1]; decide) (GrF.st (b := 1) (x := 8))
  generalize sSet S29 1 8 = S30 at *
  have e30 : sN S30 + 1 = 1 + 197 := c30.e rfl
  refine n_X8_init_133 (c30.o (by decide +kernel)).nw e30 ?_
  have c31 := c30.al (f := 9) (m' := 198) rfl (k := 21) (l := 20) (u := 20) (by decide +kernel) (y := sN S30 + 1) e30
  have dn31 := dn30.gf (by decide) (by rw [c30.1.1]; decide) ((GrF.nw S30 (k := 21) (l := 20) (u := 20)).tr (GrF.st (b := 1) (x := 9)))
  have f31 : ∀ a i, a < 198 → zr M29 (sN S30 + 1) a i = M29 a i := fun a i q => zr_ne (by omega)
  generalize sSet (sNew S30 21 20 20) 1 9 = S31 at *
  generalize zr M29 (sN S30 + 1) = M31 at *
  have e31 : sN S31 + 1 = 1 + 198 := c31.e rfl
  refine n_X8_init_141 (c31.o (by decide +kernel)).nw e31 ?_
  have c32 := c31.al (f := 10) (m' := 199) rfl (k := 20) (l := 7) (u := 7) (by decide +kernel) (y := sN S31 + 1) e31
  have dn32 := dn31.gf (by decide) (by rw [c31.1.1]; decide) ((GrF.nw S31 (k := 20) (l := 7) (u := 7)).tr (GrF.st (b := 1) (x := 10)))
  have f32 : ∀ a i, a < 198 → zr M31 (sN S31 + 1) a i = M29 a i := fun a i q => (zr_ne (by omega)).trans (f31 a i q)
  have w32 : ∀ i, zr M31 (sN S31 + 1) 199 i = 0 := fun i => by rw [e31]; exact zr_s
  generalize sSet (sNew S31 20 7 7) 1 10 = S32 at *
  generalize zr M31 (sN S31 + 1) = M32 at *
  refine n_X8_init_149 (c32.o (by decide +kernel)) (n_X8_init_154 (c32.o (by decide +kernel)) (n_X8_init_159 (k _ _ c32.1 c32.2.1 ?_ ?_)))
  · intro a q0 q1
    by_cases p1 : a = 1
    · subst p1; exact Dn.of c32.2.2.1 (by decide +kernel)
    · by_cases p2 : a ≤ 197
      · exact dn32 a (by omega) p2
      · refine Dn.ar ?_
        have : a = 198 ∨ a = 199 := by omega
        rcases this with rfl | rfl <;> decide +kernel
  · have g : ∀ a i, 2 ≤ a → a < 198 → up (up M32 1 13 (-1)) 1 14 (-1) a i = M29 a i := fun a i q0 q1 => by rw [up2_ne (by omega) (by omega), f32 a i q1]
    have gg : ∀ lo hi : Int, 2 ≤ lo → hi < 198 → Z lo hi M29 → Z lo hi (up (up M32 1 13 (-1)) 1 14 (-1)) := fun lo hi p0 p1 h a i q0 q1 => by rw [g a i (by omega) (by omega)]; exact h a i q0 q1
    obtain ⟨t1, t2, t3, t4, t5, t6, t7⟩ := s29
    refine ⟨fun i q0 q1 => ?_, ⟨?_, up_s _ _ _ _⟩, gg 2 7 (by decide) (by decide) (z29.le (by decide) (by decide)), ⟨?_, fun i q => ?_, gg _ _ (by decide) (by decide) t3, ?_, gg _ _ (by decide) (by decide) t5, fun i q0 q1 => ?_, fun i q0 q1 => ?_⟩, ⟨?_, ?_⟩, gg _ _ (by decide) (by decide) v29, ⟨gg _ _ (by decide) (by decide) h29.1, fun i q0 q1 => ?_⟩, gg _ _ (by decide) (by decide) d29, fun a i q0 q1 => ?_⟩
    · rw [up2_ne (by omega) (by omega), f32 _ _ (by decide)]; exact z29 1 i (by decide) (by decide)
    · rw [up_ni (by decide), up_s]
    · rw [g _ _ (by decide) (by decide)]; exact t1
    · rw [g _ _ (by decide) (by decide)]; exact t2 i q
    · unfold TmI
      rw [g _ _ (by decide) (by decide), g _ _ (by decide) (by decide), g _ _ (by decide) (by decide), g _ _ (by decide) (by decide)]; exact t4
    · rw [g _ _ (by decide) (by decide)]; exact t6 i q0 q1
    · rw [g _ _ (by decide) (by decide)]; exact t7 i q0 q1
    · rw [g _ _ (by decide) (by decide)]; exact i29.1
    · rw [g _ _ (by decide) (by decide)]; exact i29.2
    · rw [g _ _ (by decide) (by decide)]; exact h29.2 i q0 q1
    · rw [show a = 199 by omega, up2_ne (by omega) (by omega)]; exact w32 i
end NC
