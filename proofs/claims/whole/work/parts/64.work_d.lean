/-! The class's works: pour, rack, bottle, pass. -/
section CD
variable {d : Nat} {S : mSh} {M : mMem} {Q : Option mV → mSh → mMem → Prop} {g : Int → Int} {s t : Int} {T : TX}
theorem c_pourInto (L : Lay S) (h : Wk S M s t g T) {c n : Int} (kf : pourW g c n < 0 → Q (some (vI (pourW g c n))) S M) (ks : pourW g c n = 0 → ∀ M', Wk S M' s t (addG g c n) T → FrS s M M' → Q (some (vI ((allG (addG g c n) c).tdiv 1000))) S M') : e_X7_pourInto (d + 2) c n S M Q := by
  have hn := h.ok.n
  by_cases h1 : 1 ≤ n ∧ n ≤ 999
  · refine b_X7_pourInto_0 (fun q => absurd q (by omega)) (fun _ => b_X7_pourInto_5 (fun _ => b_X7_pourInto_14 h.e1 L h.s ?_) (fun q => absurd q (by omega)))
    refine c_has h.s h.r (fun hc => b_X7_pourInto_22 (fun _ => ?_) (fun e => absurd e (by decide))) (fun hc => b_X7_pourInto_22 (fun e => absurd rfl e) (fun _ => b_X7_pourInto_25 ?_))
    · have hc8 : 0 ≤ c ∧ c < 8 := by omega
      have hr := room_lt h.ok (n := n) hc8
      refine b_X7_pourInto_28 h.e1 L h.s (c_roomFor h.s h.r h.ok hc8 (b_X7_pourInto_36 (fun hle => ?_) (fun hlt => b_X7_pourInto_40 ?_)))
      · have e : pourW g c n = 0 := by unfold pourW; rw [if_pos h1, if_pos hc, if_neg (fun q => by have := hr.mpr q; omega)]
        have po := pour_ok h.ok e
        refine b_X7_pourInto_43 h.e1 L h.s (c_addNew h.s h.r h.ok hc (by omega) po.2.2.2.1 (fun M' r' f' => ?_))
        have wk := h.mv (FrW.ofS f') r' po.2.2.2.2
        exact b_X7_pourInto_52 wk.e1 L wk.s (c_measures wk.s wk.r wk.ok hc8 (b_X7_pourInto_60 (ks e M' wk f')))
      · have e : pourW g c n = -3 := by unfold pourW; rw [if_pos h1, if_pos hc, if_pos (hr.mp hlt)]
        rw [e] at kf; exact kf (by decide)
    · have e : pourW g c n = -2 := by unfold pourW; rw [if_pos h1, if_neg hc]
      rw [e] at kf; exact kf (by decide)
  · have e : pourW g c n = -1 := by unfold pourW; rw [if_neg h1]
    rw [e] at kf
    exact b_X7_pourInto_0 (fun _ => b_X7_pourInto_12 (kf (by decide))) (fun _ => b_X7_pourInto_5 (fun q => absurd q (by omega)) (fun _ => b_X7_pourInto_12 (kf (by decide))))
theorem c_rackOver (L : Lay S) (h : Wk S M s t g T) {f to n : Int} (kf : rackW T g f to n < 0 → ∀ M', FrB M M' → Q (some (vI (rackW T g f to n))) S M') (ks : rackW T g f to n = 0 → ∀ M', Wk S M' s t (rackG g f to n) T → FrW s M M' → M' 191 4 = M 191 4 → M' 191 5 = M 191 5 → Q (some (vI (meanG (rackG g f to n) to))) S M') : e_X7_rackOver (d + 4) f to n S M Q := by
  have hn := h.ok.n
  have hhi := h.s.hi
  by_cases h1 : 1 ≤ n ∧ n ≤ 999
  · refine b_X7_rackOver_0 (fun q => absurd q (by omega)) (fun _ => b_X7_rackOver_5 (fun _ => b_X7_rackOver_14 h.e1 L h.s ?_) (fun q => absurd q (by omega)))
    have e2 : ¬ ((0 ≤ f ∧ f < g 0) ∧ (0 ≤ to ∧ to < g 0)) → Q (some (vI (-2))) S M := fun hh => by
      have e : rackW T g f to n = -2 := by unfold rackW; rw [if_pos h1, if_neg hh]
      rw [e] at kf; exact kf (by decide) M (fun _ _ _ => rfl)
    refine c_has h.s h.r (fun hf => b_X7_rackOver_22 (fun e => absurd e (by decide)) (fun _ => b_X7_rackOver_25 h.e1 L h.s ?_)) (fun hf => b_X7_rackOver_22 (fun _ => b_X7_rackOver_36 (e2 (fun q => hf q.1))) (fun e => absurd rfl e))
    refine c_has h.s h.r (fun ht => b_X7_rackOver_33 (fun _ => ?_) (fun e => absurd e (by decide))) (fun ht => b_X7_rackOver_33 (fun e => absurd rfl e) (fun _ => b_X7_rackOver_36 (e2 (fun q => ht q.2))))
    have hf8 : 0 ≤ f ∧ f < 8 := by omega
    have ht8 : 0 ≤ to ∧ to < 8 := by omega
    have e3 : ∀ M', FrB M M' → ¬ (g (170 + to) = g (170 + f) - 1 ∧ ¬ barT T g f = 1 ∧ ¬ barT T g to = 1 ∧ n ≤ yieT T g f ∧ 1000 * n ≤ allG g f ∧ 1000 * n ≤ roomG g to) → Q (some (vI (-3))) S M' := fun M' fr hh => by
      have e : rackW T g f to n = -3 := by unfold rackW; rw [if_pos h1, if_pos ⟨hf, ht⟩, if_neg hh]
      rw [e] at kf; exact kf (by decide) M' fr
    have tf := h.ok.t hf8
    have rf0 : FrB M M := fun _ _ _ => rfl
    refine b_X7_rackOver_39 h.e1 L h.s (by rw [h.r.t hf8]; omega) ?_ ?_
    · rw [h.r.t hf8, h.r.t ht8]
      intro hne
      exact b_X7_rackOver_66 (e3 M rf0 (fun q => hne q.1))
    · rw [h.r.t hf8, h.r.t ht8]
      intro htier
      have hm := meas_lt h.ok (n := n) hf8
      have hr := room_lt h.ok (n := n) ht8
      refine b_X7_rackOver_62 h.e1 L h.s (c_measures h.s h.r h.ok hf8 (b_X7_rackOver_82 (fun hlt => b_X7_rackOver_98 (e3 M rf0 (fun q => ?_))) (fun hle => b_X7_rackOver_86 h.e1 L h.s (c_roomFor h.s h.r h.ok ht8 (b_X7_rackOver_94 (fun hle2 => ?_) (fun hlt => b_X7_rackOver_98 (e3 M rf0 (fun q => ?_))))))))
      · have := hm.mp hlt; omega
      · refine b_X7_rackOver_101 L (c_tells L h (by decide) hf (fun M1 f1 => ?_))
        have w1 := h.mb f1
        rw [if_neg (by decide), if_neg (by decide)]
        refine b_X7_rackOver_108 (fun hb => b_X7_rackOver_133 (e3 M1 f1 (fun q => q.2.1 hb))) (fun hb => b_X7_rackOver_112 L (c_tells L w1 (by decide) ht (fun M2 f2 => ?_)))
        have f12 : FrB M M2 := fun a i q => (f2 a i q).trans (f1 a i q)
        have w2 := h.mb f12
        rw [if_neg (by decide), if_neg (by decide)]
        refine b_X7_rackOver_119 (fun hb2 => b_X7_rackOver_133 (e3 M2 f12 (fun q => q.2.2.1 hb2))) (fun hb2 => b_X7_rackOver_123 L (c_tells L w2 (by decide) hf (fun M3 f3 => ?_)))
        have f13 : FrB M M3 := fun a i q => (f3 a i q).trans (f12 a i q)
        have w3 := h.mb f13
        rw [if_neg (by decide), if_pos rfl]
        refine b_X7_rackOver_129 (fun hy => ?_) (fun hy => b_X7_rackOver_133 (e3 M3 f13 (fun q => by omega)))
        have hA0 : 1000 * n ≤ allG g f := by have := mt hm.mpr (show ¬ (allG g f).tdiv 1000 < n by omega); omega
        have hB0 : 1000 * n ≤ roomG g to := by have := mt hr.mpr (show ¬ (roomG g to).tdiv 1000 < n by omega); omega
        have e : rackW T g f to n = 0 := by
          unfold rackW
          rw [if_pos h1, if_pos ⟨hf, ht⟩, if_pos ⟨htier, hb, hb2, hy, hA0, hB0⟩]
        obtain ⟨-, -, -, hne, hA, hB, okt, hput, okr⟩ := rack_ok h.ok e
        refine b_X7_rackOver_136 w3.e1 L w3.s (c_takeOut L w3.s w3.r w3.ok hf8 h1.1 hA (fun M4 r4 t4 f4 => ?_))
        have w4 := w3.mv (FrW.ofT f4) r4 okt
        refine b_X7_rackOver_149 w4.e1 L w4.s (c_putIn L w4.s w4.r w4.ok ht8 t4 (fun a q0 q1 => (tk_bd h.ok hf8 h1.1 hA ⟨q0, q1⟩).1) hput (fun M5 r5 f5 => ?_))
        have w5 := w4.mv (FrW.ofS f5) r5 okr
        refine b_X7_rackOver_161 w5.e1 L w5.s (c_mean w5.s w5.r w5.ok ht8 (b_X7_rackOver_169 (ks e M5 w5 (((FrW.ofB f13).tr (FrW.ofT f4)).tr (FrW.ofS f5)) ?_ ?_)))
        · rw [f5 191 4 (by omega), f4 191 4 (by omega) (by decide), f13 191 4 (by decide)]
        · rw [f5 191 5 (by omega), f4 191 5 (by omega) (by decide), f13 191 5 (by decide)]
      · have := hr.mp hlt; omega
  · have e : rackW T g f to n = -1 := by unfold rackW; rw [if_neg h1]
    rw [e] at kf
    have k1 := kf (by decide) M (fun _ _ _ => rfl)
    exact b_X7_rackOver_0 (fun _ => b_X7_rackOver_12 k1) (fun _ => b_X7_rackOver_5 (fun q => absurd q (by omega)) (fun _ => b_X7_rackOver_12 k1))
theorem StkR.up9 {M M' : mMem} (h : StkR g s M) {v : Int} (hf : ∀ a i, ¬ (a = s ∧ i = 7) → s ≤ a → a ≤ s + 6 → M' a i = M a i) (hv : M' s 7 = v) : StkR (upr g 9 v) s M' := by
  refine ⟨?_, ?_, fun c h0 h1 => ⟨?_, ?_, ?_, ?_⟩, fun i h0 h1 => ?_, fun t h0 h1 => ?_⟩
  · rw [hf _ _ (by omega) (by omega) (by omega), upr_n (by decide)]; exact h.n
  · rw [hv, upr_s]
  · rw [hf _ _ (by omega) (by omega) (by omega), upr_n (by omega)]; exact h.t ⟨h0, h1⟩
  · rw [hf _ _ (by omega) (by omega) (by omega), upr_n (by omega)]; exact h.z ⟨h0, h1⟩
  · rw [hf _ _ (by omega) (by omega) (by omega), allG_congr (g := g) (fun a q0 q1 => upr_n (by omega))]; exact h.a ⟨h0, h1⟩
  · rw [hf _ _ (by omega) (by omega) (by omega), yrG_congr (g := g) (fun a q0 q1 => upr_n (by omega))]; exact h.y ⟨h0, h1⟩
  · rw [hf _ _ (by omega) (by omega) (by omega), upr_n (by omega)]; exact h.d ⟨h0, h1⟩
  · rw [hf _ _ (by omega) (by omega) (by omega), upr_n (by omega)]; exact h.e ⟨h0, h1⟩
theorem StkR.up5 {M M' : mMem} (h : StkR g s M) {v : Int} (hf : ∀ a i, ¬ (a = s + 6 ∧ i = 0) → s ≤ a → a ≤ s + 6 → M' a i = M a i) (hv : M' (s + 6) 0 = v) : StkR (upr g 5 v) s M' := by
  refine ⟨?_, ?_, fun c h0 h1 => ⟨?_, ?_, ?_, ?_⟩, fun i h0 h1 => ?_, fun t h0 h1 => ?_⟩
  · rw [hf _ _ (by omega) (by omega) (by omega), upr_n (by decide)]; exact h.n
  · rw [hf _ _ (by omega) (by omega) (by omega), upr_n (by decide)]; exact h.b
  · rw [hf _ _ (by omega) (by omega) (by omega), upr_n (by omega)]; exact h.t ⟨h0, h1⟩
  · rw [hf _ _ (by omega) (by omega) (by omega), upr_n (by omega)]; exact h.z ⟨h0, h1⟩
  · rw [hf _ _ (by omega) (by omega) (by omega), allG_congr (g := g) (fun a q0 q1 => upr_n (by omega))]; exact h.a ⟨h0, h1⟩
  · rw [hf _ _ (by omega) (by omega) (by omega), yrG_congr (g := g) (fun a q0 q1 => upr_n (by omega))]; exact h.y ⟨h0, h1⟩
  · rw [hf _ _ (by omega) (by omega) (by omega), upr_n (by omega)]; exact h.d ⟨h0, h1⟩
  · by_cases ht : t = 0
    · rw [ht, hv, show (5 : Int) + 0 = 5 from rfl, upr_s]
    · rw [hf _ _ (by omega) (by omega) (by omega), upr_n (by omega)]; exact h.e ⟨h0, h1⟩
/-- ages of bottled wine on average -/
def botM (g : Int → Int) (c n : Int) : Int := (tyG g c n).tdiv n
theorem botM_bd (ok : okS g) {c n : Int} (hc : 0 ≤ c ∧ c < 8) (hn : 1 ≤ n) (hA : 1000 * n ≤ allG g c) : 0 ≤ botM g c n ∧ botM g c n ≤ 19000 := by
  have h1 := ty_bd ok hc hn hA
  exact div_bd h1.1 (by omega) h1.2
set_option maxHeartbeats 1000000 in
theorem c_bottleFrom (L : Lay S) (h : Wk S M s t g T) {c n : Int} (h4 : 0 ≤ M 191 4 ∧ M 191 4 ≤ 1600000000) (kf : botW T g c n < 0 → ∀ M', FrB M M' → Q (some (vI (botW T g c n))) S M') (ks : botW T g c n = 0 → ∀ M', Wk S M' s t (botG g c n) T → FrW s M M' → M' 191 4 = M 191 4 + n → M' 191 5 = (if botM g c n < M 191 5 then botM g c n else M 191 5) → Q (some (vI (botM g c n))) S M') : e_X7_bottleFrom (d + 4) c n S M Q := by
  have hn := h.ok.n
  have hlo := h.s.lo
  have hhi := h.s.hi
  by_cases h1 : 1 ≤ n ∧ n ≤ 999
  · refine b_X7_bottleFrom_0 (fun q => absurd q (by omega)) (fun _ => b_X7_bottleFrom_5 (fun _ => b_X7_bottleFrom_14 h.e1 L h.s ?_) (fun q => absurd q (by omega)))
    refine c_has h.s h.r (fun hc => b_X7_bottleFrom_22 (fun _ => ?_) (fun e => absurd e (by decide))) (fun hc => b_X7_bottleFrom_22 (fun e => absurd rfl e) (fun _ => b_X7_bottleFrom_25 ?_))
    · have hc8 : 0 ≤ c ∧ c < 8 := by omega
      have e3 : ∀ M', FrB M M' → ¬ (g (170 + c) = 0 ∧ ¬ barT T g c = 1 ∧ n ≤ yieT T g c ∧ 1000 * n ≤ allG g c) → Q (some (vI (-3))) S M' := fun M' fr hh => by
        have e : botW T g c n = -3 := by unfold botW; rw [if_pos h1, if_pos hc, if_neg hh]
        rw [e] at kf; exact kf (by decide) M' fr
      have rf0 : FrB M M := fun _ _ _ => rfl
      have hm := meas_lt h.ok (n := n) hc8
      refine b_X7_bottleFrom_28 h.e1 L h.s hc8 ?_ ?_
      · rw [h.r.t hc8]; intro hne; exact b_X7_bottleFrom_52 (e3 M rf0 (fun q => hne q.1))
      · rw [h.r.t hc8]; intro htier
        refine b_X7_bottleFrom_40 h.e1 L h.s (c_measures h.s h.r h.ok hc8 (b_X7_bottleFrom_48 (fun hle => ?_) (fun hlt => b_X7_bottleFrom_52 (e3 M rf0 (fun q => by have := hm.mp hlt; omega)))))
        refine b_X7_bottleFrom_55 L (c_tells L h (by decide) hc (fun M1 f1 => ?_))
        have w1 := h.mb f1
        rw [if_neg (by decide), if_neg (by decide)]
        refine b_X7_bottleFrom_62 (fun hb => b_X7_bottleFrom_76 (e3 M1 f1 (fun q => q.2.1 hb))) (fun hb => b_X7_bottleFrom_66 L (c_tells L w1 (by decide) hc (fun M2 f2 => ?_)))
        have f12 : FrB M M2 := fun a i q => (f2 a i q).trans (f1 a i q)
        have w2 := h.mb f12
        rw [if_neg (by decide), if_pos rfl]
        refine b_X7_bottleFrom_72 (fun hy => ?_) (fun hy => b_X7_bottleFrom_76 (e3 M2 f12 (fun q => by omega)))
        have hA0 : 1000 * n ≤ allG g c := by have := mt hm.mpr (show ¬ (allG g c).tdiv 1000 < n by omega); omega
        have e : botW T g c n = 0 := by
          unfold botW
          rw [if_pos h1, if_pos hc, if_pos ⟨htier, hb, hy, hA0⟩]
        obtain ⟨-, -, hA, okt, okb⟩ := bot_ok h.ok e
        refine b_X7_bottleFrom_79 w2.e1 L w2.s hc8 (c_takeOut L w2.s w2.r w2.ok hc8 h1.1 hA (fun M3 r3 t3 f3 => ?_))
        have w3 := w2.mv (FrW.ofT f3) r3 okt
        have ey : M2 (s + 4) c - M3 (s + 4) c = tyG g c n := by rw [w2.r.y hc8, w3.r.y hc8, tak_yr]; omega
        have hty := ty_bd h.ok hc8 h1.1 hA
        have hbm := botM_bd h.ok hc8 h1.1 hA
        have e9 : M3 s 7 = g 9 := by rw [w3.r.b]; exact tak_o (by omega)
        have hb9 := h.ok.b
        have e4 : M3 191 4 = M 191 4 := by rw [f3 191 4 (by omega) (by decide), f12 191 4 (by decide)]
        have e5 : M3 191 5 = M 191 5 := by rw [f3 191 5 (by omega) (by decide), f12 191 5 (by decide)]
        have eq : (tyG g c n * 1000).tdiv (n * 1000) = botM g c n := by
          unfold botM
          rw [Int.tdiv_eq_ediv_of_nonneg (by omega), Int.tdiv_eq_ediv_of_nonneg hty.1, Int.mul_ediv_mul_of_pos_left _ _ (by decide)]
        refine b_X7_bottleFrom_102 w3.e1 w3.e1 L w3.s w3.s ?_ ?_
        · rw [ey, eq, e9, e4]; omega
        · rw [ey, eq, e9, e4, e5, w32_id (by omega)]
          have em : (if 999999 < g 9 + n then 999999 else g 9 + n) = bnd (g 9 + n) 0 999999 := by unfold bnd; rw [if_neg (show ¬ g 9 + n < 0 by omega)]
          rw [em]
          refine ks e _ (w3.mv (fun a i q => ?_) (StkR.up9 w3.r (fun a i q q0 q1 => ?_) ?_) okb) (fun a i q => ?_) ?_ ?_
          · by_cases ea : a = 191
            · rw [up_ni (by omega), up_ni (by omega), up_na (by omega)]
            · rw [up_na ea, up_na ea, up_na (by omega)]
          · rw [up_na (by omega), up_na (by omega)]
            by_cases ea : a = s
            · exact up_ni (fun e => q ⟨ea, e⟩)
            · exact up_na ea
          · rw [up_na (by omega), up_na (by omega), up_s]
          · by_cases ea : a = 191
            · rw [up_ni (by omega), up_ni (by omega), up_na (by omega)]; exact ((FrW.ofB f12).tr (FrW.ofT f3)) a i q
            · rw [up_na ea, up_na ea, up_na (by omega)]; exact ((FrW.ofB f12).tr (FrW.ofT f3)) a i q
          · rw [up_ni (by decide), up_s]
          · rw [up_s]
    · have e : botW T g c n = -2 := by unfold botW; rw [if_pos h1, if_neg hc]
      rw [e] at kf; exact kf (by decide) M (fun _ _ _ => rfl)
  · have e : botW T g c n = -1 := by unfold botW; rw [if_neg h1]
    rw [e] at kf
    have k1 := kf (by decide) M (fun _ _ _ => rfl)
    exact b_X7_bottleFrom_0 (fun _ => b_X7_bottleFrom_12 k1) (fun _ => b_X7_bottleFrom_5 (fun q => absurd q (by omega)) (fun _ => b_X7_bottleFrom_12 k1))
theorem c_passYear (L : Lay S) (h : Wk S M s t g T) (h5 : g 5 < 2000) (k : ∀ M', Wk S M' s t (passG T g) T → FrW s M M' → M' 191 4 = M 191 4 → M' 191 5 = M 191 5 → Q (some (vI (passL T g))) S M') : e_X7_passYear (d + 4) S M Q := by
  have hn := h.ok.n
  have hlo := h.s.lo
  have hhi := h.s.hi
  have hy := h.ok.y
  refine b_X7_passYear_0 ?_
  have key := for_up (W := fun i => ∀ M' : mMem, Wk S M' s t (pG T g i) T → FrW s M M' → M' 191 4 = M 191 4 → M' 191 5 = M 191 5 → WP PR (d + 4) 75 4 [vA 191, vI (pL T g i), vI i] [] S M' Q) (lo := 0) (hi := g 0) hn.1 ?_ ?_
  · exact key M h (FrW.rf s M) rfl rfl
  · intro M' w f1 e4 e5
    have e0 : pG T g (g 0) 0 = g 0 := pG_o T g hn.1 hn.2 0 (by decide)
    have e5' : pG T g (g 0) 5 = g 5 := pG_o T g hn.1 hn.2 5 (by decide)
    have e6 : M' (s + 6) 0 = g 5 := by rw [w.r.e (t := 0) (by decide)]; exact e5'
    refine b_X7_passYear_4 w.e1 L w.s (fun _ => b_X7_passYear_50 w.e1 L w.s (by rw [e6]; omega) ?_) (fun q => absurd q (by rw [w.r.n, e0]; omega))
    rw [e6]
    have fr : FrW s M' (up M' (s + 6) 0 (g 5 + 1)) := fun a i q => up_na (by omega)
    refine k _ (w.mv fr (StkR.up5 w.r (fun a i q q0 q1 => ?_) (up_s _ _ _ _)) (pass_ok h.ok h5)) (f1.tr fr) ?_ ?_
    · by_cases ea : a = s + 6
      · exact up_ni (fun e => q ⟨ea, e⟩)
      · exact up_na ea
    · rw [up_na (by omega)]; exact e4
    · rw [up_na (by omega)]; exact e5
  · intro i h0 h1 ih M' w f1 e4 e5
    have hi8 : 0 ≤ i ∧ i < 8 := by omega
    have e0 : pG T g i 0 = g 0 := pG_o T g h0 (by omega) 0 (by decide)
    have eg := pG_s T g h0
    have el := pL_s T g h0
    have okp := w.ok
    have hl := los_bd T (pG T g i) i
    have ha := okp.all hi8
    have hlo2 := loss_bd okp hi8 hl
    have hpl := pL_bd (T := T) h.ok h0 (by omega)
    refine b_X7_passYear_4 w.e1 L w.s (fun q => absurd q (by rw [w.r.n, e0]; omega)) (fun _ => b_X7_passYear_15 w.e1 L w.s hi8 ?_ ?_)
    · rw [w.r.a hi8]
      intro hz
      have ge := grow_empty okp (k := losT T (pG T g i) i) hi8 (by omega)
      refine b_X7_passYear_44 (by omega) ?_
      have := ih M' (by rw [eg, ge.1]; exact w) f1 e4 e5
      rw [el, ge.2, Int.add_zero] at this; exact this
    · rw [w.r.a hi8]
      intro hz
      refine b_X7_passYear_27 w.e1 L (c_tells L w (by decide) (by rw [e0]; omega) (fun M2 f2 => ?_))
      have w2 := w.mb f2
      rw [if_pos rfl]
      refine b_X7_passYear_39 w2.s (c_growOlder w2.s w2.r w2.ok hi8 hl (fun M3 r3 f3 => ?_))
      refine b_X7_passYear_42 (by omega) ?_
      have := ih M3 (by rw [eg]; exact w2.mv (FrW.ofS f3) r3 (grow_ok okp hi8 hl)) ((f1.tr (FrW.ofB f2)).tr (FrW.ofS f3)) (by rw [f3 191 4 (by omega), f2 191 4 (by decide)]; exact e4) (by rw [f3 191 5 (by omega), f2 191 5 (by decide)]; exact e5)
      rw [el] at this; exact this
end CD
