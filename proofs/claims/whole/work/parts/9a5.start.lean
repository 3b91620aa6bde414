/-! The coupling at the start, and the law. -/
section ST0
variable {S : mSh} {M : mMem}
theorem lay0 (lt : LT 225 S) (dn : DnR S 1 200) : Lay S := fun a h1 h2 => by
  obtain ⟨l1, l2, l3⟩ := lt
  refine ⟨by omega, (l3 a h1 h2).1, (l3 a h1 h2).2, ?_⟩
  by_cases q : a ≤ 200
  · exact dn a h1 q
  · refine Dn.ar ?_
    have : a = 201 ∨ a = 202 ∨ a = 203 ∨ a = 204 ∨ a = 205 ∨ a = 206 ∨ a = 207 ∨ a = 208 ∨ a = 209 ∨ a = 210 ∨ a = 211 ∨ a = 212 ∨ a = 213 ∨ a = 214 ∨ a = 215 ∨ a = 216 ∨ a = 217 ∨ a = 218 ∨ a = 219 ∨ a = 220 ∨ a = 221 ∨ a = 222 ∨ a = 223 ∨ a = 224 ∨ a = 225 := by omega
    rcases this with rfl | rfl | rfl | rfl | rfl | rfl | rfl | rfl | rfl | rfl | rfl | rfl | rfl | rfl | rfl | rfl | rfl | rfl | rfl | rfl | rfl | rfl | rfl | rfl | rfl <;> decide +kernel
theorem cp0 (lt : LT 225 S) (dn : DnR S 1 200) (cf : CF M) {N : mMem} (mp : MP 225 [54, 48, 18] N) (eM : ∀ a i, 200 ≤ a → M a i = up (up (up N 202 4 (-1)) 202 6 1) 202 8 85 a i) : CP 0 S M := by
  have L := lay0 lt dn
  obtain ⟨m1, m2, m3, m4, m5, m6, m7⟩ := mp
  obtain ⟨f1, f2, f3, ⟨s1, s2, s3, s4, s5, s6, s7⟩, f5, f6, f7, f8, f9⟩ := cf
  have eN : ∀ a i, 200 ≤ a → ¬ a = 202 → M a i = N a i := fun a i q0 q1 => by rw [eM a i q0, up_na q1, up_na q1, up_na q1]
  have r : ∀ i, i ≠ 4 → i ≠ 6 → i ≠ 8 → M 202 i = 0 := fun i q0 q1 q2 => by
    rw [eM _ _ (by decide), up_ni q2, up_ni q1, up_ni q0]; exact m3 202 i (by decide) (by decide) (by decide)
  have r4 : M 202 4 = -1 := by rw [eM _ _ (by decide), up_ni (by decide), up_ni (by decide), up_s]
  have r6 : M 202 6 = 1 := by rw [eM _ _ (by decide), up_ni (by decide), up_s]
  have r8 : M 202 8 = 85 := by rw [eM _ _ (by decide), up_s]
  have z0 : sm (fun _ => (0 : Int)) 20 = 0 := by decide
  have a0 : ∀ c, 0 ≤ c → c < 8 → allG (M 202) c = 0 := fun c q0 q1 => (sm_congr (g := fun _ => (0 : Int)) (by decide) (fun a p0 p1 => r _ (by omega) (by omega) (by omega))).trans z0
  have y0 : ∀ c, 0 ≤ c → c < 8 → yrG (M 202) c = 0 := fun c q0 q1 => (sm_congr (g := fun _ => (0 : Int)) (by decide) (fun a p0 p1 => by rw [r _ (by omega) (by omega) (by omega), Int.mul_zero])).trans z0
  have z9 : ∀ a i, 9 ≤ a → a ≤ 14 → M a i = 0 := fun a i q0 q1 => s3 a i q0 q1
  have g2 : ∀ i, i ≠ 18 → i ≠ 48 → i ≠ 54 → M 200 i = 0 := fun i q0 q1 q2 => by rw [eN _ _ (by decide) (by decide)]; exact m2 i q0 q1 q2
  have g3 : ∀ a i, 201 ≤ a → a ≤ 204 → ¬ a = 202 → M a i = 0 := fun a i q0 q1 q2 => by rw [eN _ _ (by omega) q2]; exact m3 a i q0 (by omega) q1
  refine ⟨L, ⟨⟨⟨?_, fun i q0 q1 => ?_, fun c q0 q1 => ?_, ?_, ?_, ?_, ?_, ?_⟩, ?_⟩, ⟨?_, ?_, fun c q0 q1 => ⟨?_, ?_, ?_, ?_⟩, fun i q0 q1 => ?_, fun t q0 q1 => ?_⟩, ?_, ⟨fun i q0 q1 => ?_, fun i q0 q1 => ?_⟩, ⟨fun i q0 q1 => ?_, fun i q0 q1 => ?_⟩, fun i q0 q1 => ?_⟩, fun k q0 q1 => ?_, ⟨[], ⟨?_, by decide, fun j e he => ?_⟩, ⟨?_, by decide, ?_, f7.2, fun j e he => ?_⟩, fun e he => ?_⟩, ⟨?_, fun i q0 q1 => ?_, ?_⟩, ⟨?_, ?_, ?_, ?_⟩, fun k q0 q1 => ?_, Or.inl ⟨?_, ?_⟩, ⟨fun k q0 q1 => ?_, ⟨fun i q0 q1 => ⟨?_, ?_⟩, fun i q0 q1 => ?_, fun i q0 q1 => ?_⟩, ?_, ?_, ?_, ?_, ?_, ?_, ?_⟩, ⟨?_, ?_⟩, by decide, by decide⟩
  -- okS
  · rw [r 0 (by decide) (by decide) (by decide)]; decide
  · rw [r i (by omega) (by omega) (by omega)]; exact Int.le_refl _
  · rw [r _ (by omega) (by omega) (by omega), r _ (by omega) (by omega) (by omega), a0 c q0 q1]; decide
  · rw [r 5 (by decide) (by decide) (by decide)]; decide
  · rw [r6]; decide
  · rw [r 7 (by decide) (by decide) (by decide)]; decide
  · rw [r8]; decide
  · rw [r 9 (by decide) (by decide) (by decide)]; decide
  · rw [r 5 (by decide) (by decide) (by decide)]; decide
  -- StkR
  · rw [r 0 (by decide) (by decide) (by decide)]; exact z9 9 6 (by decide) (by decide)
  · rw [r 9 (by decide) (by decide) (by decide)]; exact z9 9 7 (by decide) (by decide)
  · rw [r _ (by omega) (by omega) (by omega)]; exact z9 _ c (by decide) (by decide)
  · rw [r _ (by omega) (by omega) (by omega)]; exact z9 _ c (by decide) (by decide)
  · rw [a0 c q0 q1]; exact z9 _ c (by decide) (by decide)
  · rw [y0 c q0 q1]; exact z9 _ c (by decide) (by decide)
  · rw [r _ (by omega) (by omega) (by omega)]; exact z9 _ i (by decide) (by decide)
  · obtain ⟨t0, t1, t2, t3⟩ := s4
    have : t = 0 ∨ t = 1 ∨ t = 2 ∨ t = 3 := by omega
    rcases this with rfl | rfl | rfl | rfl
    · exact t0.trans (r 5 (by decide) (by decide) (by decide)).symm
    · exact t1.trans r6.symm
    · exact t2.trans (r 7 (by decide) (by decide) (by decide)).symm
    · exact t3.trans r8.symm
  -- CntR
  · unfold CntR
    rw [r 1 (by decide) (by decide) (by decide), r 2 (by decide) (by decide) (by decide), r 3 (by decide) (by decide) (by decide), r4, s1, s2 6 (by decide), s2 7 (by decide), s2 8 (by decide)]
    decide
  · have e : M (8 + 11) i = 16 := s6 i q0 q1
    rw [e]; exact lo16 L
  · rw [r 2 (by decide) (by decide) (by decide)] at q1; omega
  · have e : M (8 + 12) i = 16 := s7 i q0 q1
    rw [e]; exact lo16 L
  · rw [r 3 (by decide) (by decide) (by decide)] at q1; omega
  · rw [r 1 (by decide) (by decide) (by decide)] at q1; omega
  -- ImgR
  · have e4 : M 204 k = 0 := g3 204 k (by decide) (by decide) (by decide)
    have e5 : M 54 k = 0 := f6 54 k (by decide) (by decide)
    refine ⟨by rw [e4, e5], Or.inl e4, fun w => absurd e4 w, ?_⟩
    have : k = 0 ∨ k = 1 := by omega
    rcases this with rfl | rfl
    · exact f5.1
    · exact f5.2
  -- HisR
  · exact g2 8 (by decide) (by decide) (by decide)
  · cases he
  · exact f7.1 55 3 (by decide) (by decide)
  · rw [f7.1 55 2 (by decide) (by decide)]; decide
  · cases he
  · cases he
  -- TapR
  · rw [g2 13 (by decide) (by decide) (by decide)]; exact ⟨by decide, fun i q0 q1 => absurd q1 (by omega)⟩
  · rw [g2 13 (by decide) (by decide) (by decide)] at q1; omega
  · rw [g2 13 (by decide) (by decide) (by decide)]; exact f3 2 1 (by decide) (by decide)
  -- WrdR
  · rw [g2 1 (by decide) (by decide) (by decide)]; exact f1 11 (by decide) (by decide)
  · rw [g2 11 (by decide) (by decide) (by decide)]; exact f1 12 (by decide) (by decide)
  · rw [f2.1, eN _ _ (by decide) (by decide)]; exact (m1 18 (by decide)).symm
  · rw [f2.2, eN _ _ (by decide) (by decide)]; exact (m1 48 (by decide)).symm
  -- RefR
  · rw [g3 201 k (by decide) (by decide) (by decide), f9 199 k (by decide) (by decide)]; decide
  -- DrwR
  · rw [eN _ _ (by decide) (by decide)]; exact m1 54 (by decide)
  · exact f8 184 6 (by decide) (by decide)
  -- LefR
  · rw [f3 7 k (by decide) (by decide)]; decide
  · rw [eN _ _ (by decide) (by decide)]; exact m4 (by decide) i q0 q1
  · rw [eN _ _ (by decide) (by decide)]; exact m5 (by decide) i q0 q1
  · rw [eN _ _ (by decide) (by decide)]; exact m6 (by decide) i q0 q1
  · rw [eN _ _ (by decide) (by decide)]; exact m7 (by decide) i q0 q1
  · exact g2 20 (by decide) (by decide) (by decide)
  · rw [g2 42 (by decide) (by decide) (by decide)]; decide
  · rw [g2 43 (by decide) (by decide) (by decide)]; decide
  · rw [g2 46 (by decide) (by decide) (by decide)]; decide
  · rw [g2 47 (by decide) (by decide) (by decide)]; decide
  · exact s5 16 2 (by decide) (by decide)
  · exact s5 16 3 (by decide) (by decide)
  -- SzR
  · rw [lt.1]; decide
  · rw [lt.2.1]; decide +kernel
end ST0
theorem law_ok : LawOK := fun L xs hL => by
  have lt0 : LT 0 (S0 L) := ⟨rfl, (show (0 : Int) = Uz 0 by decide +kernel), fun a q0 q1 => absurd q1 (by omega)⟩
  have lt1 : LT 1 (sNew (S0 L) 8 0 15) := lt0.nw rfl (by decide +kernel)
  have h1 : 0 ≤ sN (sNew (S0 L) 8 0 15) := by rw [lt1.1]; decide
  have A : WP PR 999 81 0 [vA 1] [] (sNew (S0 L) 8 0 15) (zr (M0 xs) 1) (fun r S' M' => r = none ∧ LT 199 S' ∧ DnR S' 1 199 ∧ CF M') := c_nCellar (d := 997) lt1 (fun i => zr_s) (fun S' M' a b c e => ⟨rfl, a, c, e⟩)
  refine b_L_law_0 (isO_self (by rw [lt0.1]; decide)) ?_
  rw [show sN (S0 L) + 1 = 1 from rfl]
  refine (WP.gw A h1).post (fun r S2 M2 q => ?_)
  obtain ⟨⟨rfl, lt2, dn2, cf2⟩, gw2, gf2⟩ := q
  have e2 : sN S2 + 1 = 200 := by rw [lt2.1]; rfl
  have lt3 : LT 200 (sNew S2 9 0 55) := lt2.nw rfl (by decide +kernel)
  have h3 : 0 ≤ sN (sNew S2 9 0 55) := by rw [lt3.1]; decide
  have B : WP PR 999 131 0 [vA 200] [] (sNew S2 9 0 55) (zr M2 200) (fun r S' M' => r = none ∧ LT 225 S' ∧ GrF (sNew S2 9 0 55) S' ∧ Dn S' 200 ∧ (∀ a i, a < 200 → M' a i = zr M2 200 a i) ∧ (∃ N, MP 225 [54, 48, 18] N ∧ M' = up (up (up N 202 4 (-1)) 202 6 1) 202 8 85)) := c_nModel lt3 (fun i => zr_s) (fun S' M' a b c e f => ⟨rfl, a, b, c, e, f⟩)
  refine b_L_law_7 (isO_self (by omega)) ?_
  rw [e2]
  refine (WP.gw B h3).post (fun r S4 M4 q => ?_)
  obtain ⟨⟨rfl, lt4, gf4, dA, f4, N, mp, eN⟩, gw4, -⟩ := q
  have dn4 : DnR S4 1 200 := ((dn2.gf (by decide) (by rw [lt2.1]; decide) ((GrF.nw S2 (k := 9) (l := 0) (u := 55)).tr gf4)).jn (DnR.one dA))
  have cf4 : CF M4 := cf2.kp (y := 200) (by decide) (fun a i q => by rw [f4 a i q, zr_ne (by omega)])
  refine b_L_law_15 (lw_loop hL (cp0 lt4 dn4 cf4 mp (fun a i _ => by rw [eN])) ?_)
  rw [gw4.2.2.1, sl_ne (by rw [e2]; decide), gw2.2.2.1]
  rfl
