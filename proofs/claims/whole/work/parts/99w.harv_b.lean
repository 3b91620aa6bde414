/-! Public methods, both sides: harvests. -/
section HB
variable {n : Int} {d : Nat} {S : mSh} {M M' : mMem} {Q : Option mV → mSh → mMem → Prop} {TL T : TX}
/-- what the reference has while it harvests -/
def HvM (M : mMem) (σ : HVt) (N : mMem) : Prop := N 202 = σ.1 ∧ N 200 52 = σ.2.1 ∧ N 200 42 = σ.2.2 ∧ (0 ≤ N 200 43 ∧ N 200 43 ≤ 100000000) ∧ (∀ x, 0 ≤ x → x < 165 → N 205 (2640 + x) = M 202 (5 + x)) ∧ (∀ a i, ¬ (a = 202 ∨ a = 218 ∨ a = 220 ∨ a = 221 ∨ (a = 205 ∧ 2640 ≤ i) ∨ (a = 200 ∧ (i = 0 ∨ i = 34 ∨ i = 38 ∨ i = 39 ∨ i = 40 ∨ i = 42 ∨ i = 43 ∨ i = 52))) → N a i = M a i)
theorem s_hYear (L : Lay S) (h20 : M 200 20 = 0) {g0 : Int → Int} (fm : ForM g0 TL) {j : Nat} {σ : HVt} (hk : HvK g0 j σ) (hj : j ≤ 60) (h0 : 1 ≤ σ.1 0) (h5 : σ.1 5 < 999) {N : mMem} (hv : HvM M σ N) {x1 x2 x3 : Int} {u4 u5 u6 u7 : mV} (hx : 0 ≤ x3 ∧ x3 ≤ 60) (k : ∀ N' v4 v5 v6 v7, HvM M (hvS TL σ) N' → WP PR (d + 12) 254 77 [vA 200, vI x1, vI x2, vI (x3 + 1), vI v4, vI v5, vI v6, vI v7] [] S N' Q) : WP PR (d + 12) 254 94 [vA 200, vI x1, vI x2, vI x3, u4, u5, u6, u7] [] S N Q := by
  obtain ⟨k1, k2, k3, k4, k6⟩ := hk
  obtain ⟨v1, v2, v3, v4, v5, v6⟩ := hv
  have n0 := k1.n
  have d1 := (dr_bd k3).2.2.2
  have d2 := (dr_bd d1).2.2.2
  have d3 := (dr_bd d2).2.2.2
  have d4 := (dr_bd d3).2.2.2
  have m9 := md_bd (s := dr (dr (dr σ.2.1))) (k := 9) (by omega) (by decide)
  have m4 := md_bd (s := dr (dr (dr (dr σ.2.1)))) (k := 4) (by omega) (by decide)
  have b20 : N 200 20 = 0 := by rw [v6 _ _ (by omega)]; exact h20
  refine b_X9_harvests_94 L (s_draw L v2 k3 (by rw [v1]; omega) (b_X9_harvests_104 L (s_draw L (up_s _ _ _ _) d1 (by rw [up1_ne (by omega), v1]; omega) (b_X9_harvests_116 L (s_draw L (up_s _ _ _ _) d2 (by decide) (b_X9_harvests_124 L (by omega) (s_draw L (up_s _ _ _ _) d3 (by decide) (b_X9_harvests_133 L ?_))))))))
  have f1 : ∀ a i, ¬ (a = 200 ∧ i = 52) → up (up (up (up N 200 52 (dr σ.2.1)) 200 52 (dr (dr σ.2.1))) 200 52 (dr (dr (dr σ.2.1)))) 200 52 (dr (dr (dr (dr σ.2.1)))) a i = N a i := fun a i q => by rw [up1_ne q, up3_ne q q q]
  have e52 : up (up (up (up N 200 52 (dr σ.2.1)) 200 52 (dr (dr σ.2.1))) 200 52 (dr (dr (dr σ.2.1)))) 200 52 (dr (dr (dr (dr σ.2.1)))) 200 52 = dr (dr (dr (dr σ.2.1))) := up_s _ _ _ _
  rw [up1_ne (M := N) (by omega), v1]
  generalize up (up (up (up N 200 52 (dr σ.2.1)) 200 52 (dr (dr σ.2.1))) 200 52 (dr (dr (dr σ.2.1)))) 200 52 (dr (dr (dr (dr σ.2.1)))) = N1 at *
  have r1 : N1 202 = σ.1 := by rw [← v1]; exact funext fun i => f1 _ _ (by omega)
  have e42 : N1 200 42 = σ.2.2 := by rw [f1 _ _ (by omega)]; exact v3
  have ok' := ha_ok (TL := TL) k1 ((dr (dr (dr (dr σ.2.1)))).tmod 4) ((dr σ.2.1).tmod (σ.1 0)) ((dr (dr σ.2.1)).tmod (σ.1 0)) ((dr (dr (dr σ.2.1))).tmod 9 + 1)
  refine s_drawnAct L r1 k1 (by rw [f1 _ _ (by omega)]; exact b20) (fm.fix k2) (by omega) (by omega) (by rw [f1 _ _ (by omega)]; exact v4) (fun N2 row y42 y43 f2 => b_X9_harvests_147 L (s_passIt L row ok'.1 (Or.inl (by rw [f2 _ _ (by omega), f1 _ _ (by omega)]; exact b20)) ((fm.fix k2).fix ok'.2.1) (by rw [ok'.2.2]; omega) (fun N3 row3 f3 => b_X9_harvests_151 (by omega) (k N3 _ _ _ _ ⟨row3, ?_, ?_, ?_, ?_, ?_⟩))))
  · rw [f3 _ _ (by omega), f2 _ _ (by omega)]; exact e52
  · rw [f3 _ _ (by omega), y42, e42]; rfl
  · rw [f3 _ _ (by omega)]; exact y43
  · intro x q0 q1; rw [f3 _ _ (by omega), f2 _ _ (by omega), f1 _ _ (by omega)]; exact v5 x q0 q1
  · intro a i q; rw [f3 _ _ (by omega), f2 _ _ (by omega), f1 _ _ (by omega)]; exact v6 a i q
theorem t_harvests {s y : Int} : TwoI n (e_X8_harvests (d + 8) s y) (e_X9_harvests (d + 12) s y) := fun S M h hn => by
  have L := h.lay
  have hr := h.r
  have ok := h.ok
  have hs9 := lStk9 L
  have hs := lStk184 L
  have nn := h.nn
  obtain ⟨hh, hi⟩ := h.his
  have z0 : ∀ v, -7 < v ∧ v < 0 → up (refC M v) 200 0 0 202 0 = M 202 0 := fun v hv => by unfold refC; exact up3_ne (by omega) (by omega) (by omega)
  have bad : ¬ ((0 ≤ s ∧ s ≤ 1000000) ∧ (1 ≤ y ∧ y ≤ 60)) → WP PR (d + 8) 113 21 [vA 1, vI s, vI y, vU, vU] [] S M (fun r S1 M1 => ∃ v, r = some (vI v) ∧ e_X9_harvests (d + 12) s y S1 M1 (fun r2 S2 M2 => r2 = some (vI v) ∧ CP (n + 1) S2 M2)) := fun q =>
    b_X8_harvests_21 L (c_refuse L (by decide) (h.r99 (by decide)) (b_X8_harvests_26 ⟨_, rfl, b_X9_harvests_0 L (s_in (fun q1 => b_X9_harvests_14 (fun e => absurd e (by decide)) (fun _ => b_X9_harvests_17 (s_in (fun q2 => absurd ⟨q1, q2⟩ q) (fun q2 => b_X9_harvests_26 (fun e => absurd rfl e) (fun _ => b_X9_harvests_29 L (s_tl h hn (by decide) (fun c => b_X9_harvests_34 ⟨rfl, c⟩))))))) (fun q1 => b_X9_harvests_14 (fun _ => b_X9_harvests_29 L (s_tl h hn (by decide) (fun c => b_X9_harvests_34 ⟨rfl, c⟩))) (fun e => absurd rfl e)))⟩))
  refine b_X8_harvests_0 (c_isWithin (fun qs => b_X8_harvests_8 (fun e => absurd e (by decide)) (fun _ => b_X8_harvests_11 (c_isWithin (fun qy => b_X8_harvests_18 (fun _ => b_X8_harvests_27 L (fun q0 => b_X8_harvests_48 L ?_) (fun q0 => b_X8_harvests_41 L (c_refuse L (by decide) (h.r99 (by decide)) (b_X8_harvests_47 ⟨_, rfl, ?_⟩)))) (fun e => absurd e (by decide))) (fun qy => b_X8_harvests_18 (fun e => absurd rfl e) (fun _ => bad (fun w => qy w.2)))))) (fun qs => b_X8_harvests_8 (fun _ => bad (fun w => qs w.1)) (fun e => absurd rfl e)))
  · rw [hr.n] at q0
    refine c_copyFrom hs hs9 (by decide) hr (fun M1 r1 f1 => b_X8_harvests_62 L ?_)
    -- the law in force
    obtain ⟨TL, hL⟩ := h.law h.cnt.2.2.2.2
    have hL : LwOf S M (M 202 4) (lwA M) TL := hL
    have fm : ForM (M 202) TL := hL.fm rfl
    have e2 : M1 202 = M 202 := funext fun i => f1 _ _ (by omega)
    have eA : lwA M1 = lwA M := by unfold lwA; rw [e2, f1 19 _ (by omega)]
    have hL1 : LwOf S M1 (M 202 4) (lwA M) TL := hL.mv (fun a i q => f1 a i (by omega))
    have law : ∀ (Q' : Option mV → mSh → mMem → Prop), Q' (some (vA (lwA M))) S M1 → e_X3_lawInForce (d + 7) 8 S M1 Q' := fun Q' k' => by
      have hc := h.cnt
      have sa := lSta8 L
      refine b_X3_lawInForce_0 sa ?_
      rw [f1 8 9 (by omega), hc.2.2.2.1]
      unfold lwA at k'
      refine b_X3_lawOf_0 sa (c_hasLaw sa (fun q => b_X3_lawOf_5 (fun w => absurd w (by decide)) (fun _ => b_X3_lawOf_8 (q1 := M 19 (M 202 4)) (f1 _ _ (by omega)) sa (by rw [f1 8 6 (by omega)] at q; have := hc.2.1; omega) (b_X3_lawInForce_8 ?_))) (fun q => b_X3_lawOf_5 (fun _ => b_X3_lawOf_17 sa (b_X3_lawInForce_8 ?_)) (fun w => absurd rfl w)))
      · rw [if_pos q.1] at k'; exact k'
      · rw [f1 8 6 (by omega)] at q
        have := hc.2.1
        have := hc.2.2.2.2
        rw [if_neg (by omega)] at k'; exact k'
    refine law _ (b_X8_harvests_77 L (c_begin L hs r1 ok hL1 (Or.inr (Or.inr rfl)) (fun M2 wk a4 a5 a6 a7 a8 f2 => b_X8_harvests_80 ?_)))
    have f12 : ∀ a i, ¬ ((184 ≤ a ∧ a ≤ 190) ∨ a = 191 ∨ a = 196) → M2 a i = M a i := fun a i q => by rw [f2 a i (by omega) (by omega), f1 a i (by omega)]
    -- what both come to
    have fin : ∀ (K : Nat) (N : mMem) x3 x4, (K : Int) ≤ y → ((K : Int) = y ∨ 999 ≤ (hvN TL (M 202, s, 0) K).1 5) → (∀ i : Nat, i < K → (hvN TL (M 202, s, 0) i).1 5 < 999) → (∀ i : Nat, i ≤ K → HvK (M 202) i (hvN TL (M 202, s, 0) i)) → StkR (hvN TL (M 202, s, 0) K).1 184 N → N 191 4 = (hvN TL (M 202, s, 0) K).2.2 → (∀ a i, ¬ ((184 ≤ a ∧ a ≤ 191) ∨ (195 ≤ a ∧ a ≤ 197)) → N a i = M a i) → WP PR (d + 8) 113 116 [vA 1, vI s, vI y, vI x3, vI x4] [] S N (fun r S1 M1 => ∃ v, r = some (vI v) ∧ e_X9_harvests (d + 12) s y S1 M1 (fun r2 S2 M2 => r2 = some (vI v) ∧ CP (n + 1) S2 M2)) := by
      intro K N x3 x4 Ky Kend Kb Kk rK yK fN
      refine b_X8_harvests_116 L (b_X8_accept_0 L (b_X8_harvests_127 ⟨_, rfl, ?_⟩))
      have fN1 : ∀ a i, ¬ ((184 ≤ a ∧ a ≤ 191) ∨ (195 ≤ a ∧ a ≤ 197) ∨ (a = 1 ∧ i = 11) ∨ (a = 200 ∧ i = 0)) → up (up N 1 11 0) 200 0 0 a i = M a i := fun a i q => by rw [up2_ne (by omega) (by omega), fN a i (by omega)]
      have fN2 : ∀ a i, ¬ ((a = 1 ∧ i = 11) ∨ (a = 200 ∧ i = 0)) → up (up N 1 11 0) 200 0 0 a i = N a i := fun a i q => up2_ne (by omega) (by omega)
      have g11 : up (up N 1 11 0) 200 0 0 1 11 = 0 := by rw [up_na (by decide), up_s]
      refine b_X9_harvests_0 L ?_
      generalize up (up N 1 11 0) 200 0 0 = N1 at *
      have z1 : N1 202 0 = M 202 0 := fN1 _ _ (by omega)
      refine s_in (fun _ => b_X9_harvests_14 (fun e => absurd e (by decide)) (fun _ => b_X9_harvests_17 (s_in (fun _ => b_X9_harvests_26 (fun _ => b_X9_harvests_35 L (fun _ => b_X9_harvests_51 L (s_keepAll L (by decide) (b_X9_harvests_57 L ?_))) (fun w => absurd w (by omega))) (fun e => absurd e (by decide))) (fun w => absurd qy w)))) (fun w => absurd qs w)
      have g : ∀ a i, ¬ ((a = 205 ∧ 2640 ≤ i ∧ i < 2805) ∨ (a = 200 ∧ (i = 42 ∨ i = 43 ∨ i = 52))) → up (up (up (keepM N1 16) 200 52 s) 200 42 0) 200 43 100000000 a i = N1 a i := fun a i q => by rw [up3_ne (by omega) (by omega) (by omega)]; exact if_neg (by omega)
      have g5 : ∀ x, 0 ≤ x → x < 165 → up (up (up (keepM N1 16) 200 52 s) 200 42 0) 200 43 100000000 205 (2640 + x) = M 202 (5 + x) := fun x q0 q1 => by
        rw [up3_ne (by omega) (by omega) (by omega)]
        show fw N1 205 (fun i => N1 202 (5 + (i - 165 * 16))) (165 * 16) 165 205 (2640 + x) = _
        rw [fw_i (by omega), fN1 _ _ (by omega), show 5 + (2640 + x - 165 * 16) = 5 + x by omega]
      have g52 : up (up (up (keepM N1 16) 200 52 s) 200 42 0) 200 43 100000000 200 52 = s := by rw [up_ni (by decide), up_ni (by decide), up_s]
      have g42 : up (up (up (keepM N1 16) 200 52 s) 200 42 0) 200 43 100000000 200 42 = 0 := by rw [up_ni (by decide), up_s]
      have g43 : up (up (up (keepM N1 16) 200 52 s) 200 42 0) 200 43 100000000 200 43 = 100000000 := up_s _ _ _ _
      generalize up (up (up (keepM N1 16) 200 52 s) 200 42 0) 200 43 100000000 = N2 at *
      -- the class's cells are left alone from here on
      have key := for_up (W := fun j => ∀ (N3 : mMem) u4 u5 u6 u7, HvM N1 (hvN TL (M 202, s, 0) j.toNat) N3 → WP PR (d + 12) 254 77 [vA 200, vI s, vI y, vI j, u4, u5, u6, u7] [] S N3 (fun r2 S2 M2 => r2 = some (vI (N 191 4)) ∧ CP (n + 1) S2 M2)) (lo := 0) (hi := (K : Int)) (by omega) (fun N3 u4 u5 u6 u7 hv => ?_) (fun j j0 j1 ih N3 u4 u5 u6 u7 hv => ?_)
      · refine key N2 _ _ _ _ ⟨funext fun i => by rw [g _ _ (by omega), fN1 _ _ (by omega)]; rfl, g52, g42, by rw [g43]; omega, fun x q0 q1 => by rw [g5 x q0 q1, fN1 _ _ (by omega)], fun a i q => g a i (by omega)⟩
      · have eK : ((K : Int)).toNat = K := by omega
        rw [eK] at hv
        obtain ⟨v1, v2, v3, v4, v5, v6⟩ := hv
        have kk := Kk K (Nat.le_refl _)
        have go : WP PR (d + 12) 254 158 [vA 200, vI s, vI y, vI (K : Int), u4, u5, u6, u7] [] S N3 (fun r2 S2 M2 => r2 = some (vI (N 191 4)) ∧ CP (n + 1) S2 M2) := by
          refine b_X9_harvests_158 ?_
          have key2 := for_up (W := fun x => WP PR (d + 12) 254 160 [vA 200, vI s, vI y, vI x, u4, u5, u6, u7] [] S (fw N3 225 (fun i => N3 202 (10 + i)) 0 x) (fun r2 S2 M2 => r2 = some (vI (N 191 4)) ∧ CP (n + 1) S2 M2)) (lo := 0) (hi := 160) (by decide) ?_ (fun x x0 x7 ih => b_X9_harvests_160 (fun e => absurd e (by omega)) (fun _ => b_X9_harvests_167 L (by omega) (by
            have := fw_up (M := N3) (a := 225) (f := fun i => N3 202 (10 + i)) (lo := 0) (n := x) (v := N3 202 (10 + x)) x0 (by rw [Int.zero_add])
            rw [Int.zero_add] at this
            rw [fw_na (by decide), this]; exact ih)))
          · rw [fw_0] at key2; exact key2
          · refine b_X9_harvests_160 (fun _ => b_X9_harvests_188 L ?_) (fun e => absurd e (by decide))
            have p : ∀ a i, ¬ ((a = 225 ∧ 0 ≤ i ∧ i < 160) ∨ (a = 200 ∧ i = 54)) → up (fw N3 225 (fun i => N3 202 (10 + i)) 0 160) 200 54 (fw N3 225 (fun i => N3 202 (10 + i)) 0 160 202 0) a i = N3 a i := fun a i q => by rw [up1_ne (by omega)]; exact if_neg (by omega)
            have p5 : ∀ i, 0 ≤ i → i < 160 → up (fw N3 225 (fun i => N3 202 (10 + i)) 0 160) 200 54 (fw N3 225 (fun i => N3 202 (10 + i)) 0 160 202 0) 225 i = N3 202 (10 + i) := fun i q0 q1 => by rw [up_na (by decide), fw_i (by omega)]
            have p54 : up (fw N3 225 (fun i => N3 202 (10 + i)) 0 160) 200 54 (fw N3 225 (fun i => N3 202 (10 + i)) 0 160 202 0) 200 54 = N3 202 0 := by rw [up_s, fw_na (by decide)]
            generalize up (fw N3 225 (fun i => N3 202 (10 + i)) 0 160) 200 54 (fw N3 225 (fun i => N3 202 (10 + i)) 0 160 202 0) = N4 at *
            refine s_putBack L (by decide) ?_
            have f5 : ∀ a i, ¬ (a = 202 ∧ 5 ≤ i ∧ i < 170) → putM N4 16 a i = N4 a i := fun a i q => if_neg (by omega)
            have row : putM N4 16 202 = M 202 := funext fun i => by
              by_cases q : 5 ≤ i ∧ i < 170
              · show fw N4 202 (fun i => N4 205 (165 * 16 + (i - 5))) 5 165 202 i = _
                rw [fw_i (by omega), show 165 * 16 + (i - 5) = 2640 + (i - 5) by omega, p _ _ (by omega), v5 (i - 5) (by omega) (by omega), fN1 _ _ (by omega), show 5 + (i - 5) = i by omega]
              · rw [f5 _ _ (by omega), p _ _ (by omega), v1]; exact kk.2.1 i (by omega)
            generalize putM N4 16 = N5 at *
            have e42 : N5 200 42 = N 191 4 := by rw [f5 _ _ (by omega), p _ _ (by omega), v3, yK]
            refine b_X9_harvests_204 L ?_
            rw [e42]
            have y0 : 0 ≤ N 191 4 ∧ N 191 4 ≤ 540 := by rw [yK]; have := kk.2.2.2.1; omega
            refine s_tell L (by omega) (fun w => absurd w (by omega)) (b_X9_harvests_212 ⟨rfl, ?_⟩)
            rw [tellM_p (by omega)]
            have gg : ∀ a i, ¬ ((184 ≤ a ∧ a ≤ 191) ∨ (195 ≤ a ∧ a ≤ 197) ∨ (a = 1 ∧ i = 11) ∨ a = 218 ∨ a = 220 ∨ a = 221 ∨ a = 225 ∨ (a = 205 ∧ 2640 ≤ i) ∨ (a = 200 ∧ (i = 0 ∨ i = 1 ∨ i = 34 ∨ i = 38 ∨ i = 39 ∨ i = 40 ∨ i = 42 ∨ i = 43 ∨ i = 52 ∨ i = 54))) → up N5 200 1 0 a i = M a i := fun a i q => by
              rw [up1_ne (by omega)]
              by_cases q2 : a = 202
              · rw [q2, row]
              · rw [f5 _ _ (by omega), p _ _ (by omega), v6 a i (by omega), fN1 a i (by omega)]
            have gc : ∀ a i, a ≤ 199 → ¬ (a = 1 ∧ i = 11) → up N5 200 1 0 a i = N a i := fun a i q q2 => by rw [up1_ne (by omega), f5 _ _ (by omega), p _ _ (by omega), v6 a i (by omega), fN2 a i (by omega)]
            have q11 : up N5 200 1 0 1 11 = 0 := by rw [up1_ne (by omega), f5 _ _ (by omega), p _ _ (by omega), v6 _ _ (by omega)]; exact g11
            have q1 : up N5 200 1 0 200 1 = 0 := up_s _ _ _ _
            have q54 : up N5 200 1 0 200 54 = (hvN TL (M 202, s, 0) K).1 0 := by rw [up1_ne (by omega), f5 _ _ (by omega), p54, v1]
            have q25 : ∀ i, 0 ≤ i → i < 160 → up N5 200 1 0 225 i = (hvN TL (M 202, s, 0) K).1 (10 + i) := fun i w0 w1 => by rw [up1_ne (by omega), f5 _ _ (by omega), p5 i w0 w1, v1]
            have q42 : up N5 200 1 0 200 42 = N 191 4 := by rw [up1_ne (by omega)]; exact e42
            have q43 : 0 ≤ up N5 200 1 0 200 43 ∧ up N5 200 1 0 200 43 ≤ 100000000 := by rw [up1_ne (by omega), f5 _ _ (by omega), p _ _ (by omega)]; exact v4
            generalize up N5 200 1 0 = M' at *
            obtain ⟨w1, w2, w3, w4⟩ := h.wrd
            obtain ⟨l1, l2, l3, l4, l5, l6, l7, l8⟩ := h.lef
            refine ⟨L, h.sta.cg (GrS.rf S) (fun i _ _ => gg _ _ (by omega)) (fun a i _ _ => gg _ _ (by omega)) (fun a i _ _ => gg _ _ (by omega)), h.img.cg (GrS.rf S) (fun a i _ _ => gg _ _ (by omega)) (fun a i _ => gg _ _ (by omega)) (fun a i _ _ => gg _ _ (by omega)), ⟨hh, hi.cg (gg _ _ (by omega)) (fun i _ _ => gg _ _ (by omega)) (fun i => gg _ _ (by omega)) (fun a i _ _ => gg _ _ (by omega)) (fun i _ => gg _ _ (by omega))⟩, h.tap.cg (gg _ _ (by omega)) (fun i => gg _ _ (by omega)) (fun i => gg _ _ (by omega)) (gg _ _ (by omega)), ⟨by rw [q11, q1], by rw [gg _ _ (by omega), gg _ _ (by omega)]; exact w2, by rw [gg _ _ (by omega), gg _ _ (by omega)]; exact w3, by rw [gg _ _ (by omega), gg _ _ (by omega)]; exact w4⟩, h.rf.cg (by omega) (fun i => gg _ _ (by omega)) (fun i => gg _ _ (by omega)), Or.inr ⟨(hvN TL (M 202, s, 0) K).1, kk.1, rK.congr (fun a i w0 w1 => gc a i (by omega) (by omega)), q54.symm, fun i w0 w1 => (q25 i w0 w1).symm⟩, ⟨fun k w0 w1 => by rw [gg _ _ (by omega)]; exact l1 k w0 w1, ⟨fun i w0 w1 => by rw [gg _ _ (by omega), gg _ _ (by omega)]; exact l2.1 i w0 w1, fun i w0 w1 => by rw [gg _ _ (by omega)]; exact l2.2.1 i w0 w1, fun i w0 w1 => by rw [gg _ _ (by omega)]; exact l2.2.2 i w0 w1⟩, by rw [gg _ _ (by omega)]; exact l3, by rw [q42]; omega, q43, by rw [gg _ _ (by omega)]; exact l6, by rw [gg _ _ (by omega)]; exact l7, by rw [gg _ _ (by omega), gg _ _ (by omega)]; exact l8⟩, h.sz.le, by omega, by omega⟩
        refine b_X9_harvests_77 (fun _ => go) (fun w => b_X9_harvests_82 L (fun _ => go) (fun w2 => absurd w2 ?_))
        rw [v1]
        rcases Kend with e | e
        · omega
        · omega
      · have jK : j.toNat < K := by omega
        have b5 := Kb j.toNat jK
        have kk := Kk j.toNat (by omega)
        have e0 : (hvN TL (M 202, s, 0) j.toNat).1 0 = M 202 0 := kk.2.1 0 (by omega)
        have r3 : N3 202 = (hvN TL (M 202, s, 0) j.toNat).1 := hv.1
        refine b_X9_harvests_77 (fun w => absurd w (by omega)) (fun _ => b_X9_harvests_82 L (fun w => absurd w (by rw [r3]; omega)) (fun _ => ?_))
        exact s_hYear L (by rw [fN1 _ _ (by omega)]; exact h.lef.2.2.1) fm kk (by omega) (by rw [e0]; omega) b5 hv (by omega) (fun N' v4 v5 v6 v7 hv' => ih N' _ _ _ _ (by rw [show (j + 1).toNat = j.toNat + 1 by omega]; exact hv'))
    -- the class's loop
    have key := for_up (W := fun j => ∀ N, Wk S N 184 (lwA M) (hvN TL (M 202, s, 0) j.toNat).1 TL → N 191 4 = (hvN TL (M 202, s, 0) j.toNat).2.2 → (∀ a i, ¬ ((184 ≤ a ∧ a ≤ 191) ∨ (195 ≤ a ∧ a ≤ 197)) → N a i = M a i) → (∀ i : Nat, i < j.toNat → (hvN TL (M 202, s, 0) i).1 5 < 999) → (∀ i : Nat, i ≤ j.toNat → HvK (M 202) i (hvN TL (M 202, s, 0) i)) → WP PR (d + 8) 113 85 [vA 1, vI s, vI y, vI (hvN TL (M 202, s, 0) j.toNat).2.1, vI j] [] S N (fun r S1 M1 => ∃ v, r = some (vI v) ∧ e_X9_harvests (d + 12) s y S1 M1 (fun r2 S2 M2 => r2 = some (vI v) ∧ CP (n + 1) S2 M2))) (lo := 0) (hi := y) (by omega) (fun N w4 e4 fN kb kk => b_X8_harvests_85 (fun _ => fin y.toNat N _ _ (by omega) (Or.inl (by omega)) kb kk w4.r e4 fN) (fun q => absurd q (by omega))) (fun j j0 j1 ih N w4 e4 fN kb kk => b_X8_harvests_85 (fun q => absurd q (by omega)) (fun _ => b_X8_harvests_91 L (c_isLastYear hs w4.r (fun q => b_X8_harvests_98 (fun _ => fin j.toNat N _ _ (by omega) (Or.inr q) kb kk w4.r e4 fN) (fun e => absurd e (by decide))) (fun q => b_X8_harvests_98 (fun e => absurd rfl e) (fun _ => b_X8_harvests_101 L ?_)))))
    · refine key M2 wk a4 (fun a i q => f12 a i (by omega)) (fun i q => absurd q (by show ¬ i < 0; omega)) (fun i q => ?_)
      have : i = 0 := by have : i ≤ 0 := q; omega
      subst this
      exact ⟨ok, Fix.rf _, by show 0 ≤ s ∧ s ≤ 1000002; omega, by show (0 : Int) ≤ 0 ∧ (0 : Int) ≤ 9 * ((0 : Nat) : Int); omega, by show M 202 5 = M 202 5 + ((0 : Nat) : Int); omega⟩
    · have kj := kk j.toNat (Nat.le_refl _)
      have e0 : (hvN TL (M 202, s, 0) j.toNat).1 0 = M 202 0 := kj.2.1 0 (by omega)
      have es : (j + 1).toNat = j.toNat + 1 := by omega
      refine c_hYear L w4 kj (by omega) (by rw [e0]; omega) q e4 (fun N2 w5 e5 f5 => b_X8_harvests_109 (by omega) ?_)
      have := ih N2
      rw [es] at this
      refine this w5 e5 (fun a i q => by rw [f5 a i (by omega), fN a i q]) (fun i q2 => ?_) (fun i q2 => ?_)
      · by_cases qi : i = j.toNat
        · rw [qi]; exact q
        · exact kb i (by omega)
      · by_cases qi : i = j.toNat + 1
        · rw [qi]; exact kj.s q
        · exact kk i (by omega)
  · rw [hr.n] at q0
    refine b_X9_harvests_0 L (s_in (fun _ => b_X9_harvests_14 (fun e => absurd e (by decide)) (fun _ => b_X9_harvests_17 (s_in (fun _ => b_X9_harvests_26 (fun _ => b_X9_harvests_35 L (fun w => absurd ?_ w) (fun _ => b_X9_harvests_44 L (s_tl h hn (by decide) (fun c => b_X9_harvests_50 ⟨rfl, c⟩)))) (fun e => absurd e (by decide))) (fun w => absurd qy w)))) (fun w => absurd qs w))
    rw [z0 (-3) (by decide)]
    have := ok.n
    omega
end HB
