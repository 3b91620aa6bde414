/-! The reference's orders, once; works that can be undone. -/
/-- cells that an order on paper writes -/
def FrQ (M M' : mMem) : Prop := ∀ a i, ¬ (a = 202 ∨ a = 220 ∨ a = 219 ∨ a = 218 ∨ a = 221 ∨ (a = 200 ∧ (i = 34 ∨ i = 38 ∨ i = 39 ∨ i = 40 ∨ i = 42 ∨ i = 43 ∨ i = 46 ∨ i = 47 ∨ i = 49))) → M' a i = M a i
theorem FrQ.rf (M : mMem) : FrQ M M := fun _ _ _ => rfl
theorem FrQ.tr {M M' M'' : mMem} (h : FrQ M M') (h' : FrQ M' M'') : FrQ M M'' := fun a i q => (h' a i q).trans (h a i q)
theorem FrQ.ofN {M M' : mMem} (h : FrN M M') : FrQ M M' := fun a i q => h a i (by omega)
theorem FrQ.ofL {M M' : mMem} (h : FrL M M') : FrQ M M' := fun a i q => h a i (by omega)
/-- cells that a work that can be undone writes -/
def FrR (M M' : mMem) : Prop := ∀ a i, ¬ (a = 202 ∨ a = 206 ∨ (a = 205 ∧ i < 2640) ∨ a = 218 ∨ a = 220 ∨ a = 221 ∨ (a = 200 ∧ (i = 8 ∨ i = 34 ∨ i = 38 ∨ i = 39 ∨ i = 40 ∨ i = 42 ∨ i = 43))) → M' a i = M a i
theorem FrR.ofL {M M' : mMem} (h : FrL M M') : FrR M M' := fun a i q => h a i (by omega)
theorem FrR.tr {M M' M'' : mMem} (h : FrR M M') (h' : FrR M' M'') : FrR M M'' := fun a i q => (h' a i q).trans (h a i q)
section MQ
variable {d : Nat} {S : mSh} {M : mMem} {Q : Option mV → mSh → mMem → Prop} {TL T : TX} {σ : ST} {h : HI}
theorem HistM.fl {M' : mMem} (hh : HistM h M) (hf : FrL M M') : HistM h M' := hh.congr (hf _ _ (by decide)) (fun i _ _ => hf _ _ (by omega)) (fun i => hf _ _ (by omega))
theorem s_pourNow (L : Lay S) {g : Int → Int} (hg : M 202 = g) (ok : okS g) (hh : HistM h M) {c n : Int} (kf : pourW g c n < 0 → Q (some (vI (pourW g c n))) S M) (ks : pourW g c n = 0 → ∀ M', M' 202 = addG g c n → HistM (pushH 0 g h) M' → FrR M M' → M' 200 42 = M 200 42 → M' 200 43 = M 200 43 → Q (some (vI ((allG (addG g c n) c).tdiv 1000))) S M') : e_X9_pourNow (d + 5) c n S M Q := by
  subst hg
  refine b_X9_pourNow_0 L (s_whyNotPour L ok ?_)
  refine b_X9_pourNow_6 (fun hw => ?_) (fun hw => b_X9_pourNow_11 (kf hw))
  have hz : pourW (M 202) c n = 0 := by unfold pourW at hw ⊢; split <;> (try split) <;> (try split) <;> simp_all
  refine b_X9_pourNow_13 L (s_rem L hh (fun M1 h1 f1 g1 => ?_))
  have r1 : M1 202 = M 202 := funext fun i => f1 _ _ (by decide) (by decide) (by omega)
  refine b_X9_pourNow_18 L (s_pourIt L r1 ok hz (fun M2 r2 f2 => b_X9_pourNow_24 (ks hz M2 r2 ?_ (fun a i q => ?_) ?_ ?_)))
  · exact h1.congr (f2 _ _ (by decide)) (fun i _ _ => f2 _ _ (by decide)) (fun i => f2 _ _ (by decide))
  · rw [f2 a i (by omega)]
    by_cases e : a = 205
    · rw [e]; exact g1 i (by omega)
    · exact f1 a i e (by omega) (by omega)
  · rw [f2 _ _ (by decide), f1 _ _ (by decide) (by decide) (by decide)]
  · rw [f2 _ _ (by decide), f1 _ _ (by decide) (by decide) (by decide)]
theorem s_rackNow (L : Lay S) {g : Int → Int} (hg : M 202 = g) (ok : okS g) (h20 : M 200 20 = 0 ∨ M 200 20 = 1) (hT : ForM g TL) (hh : HistM h M) {f t n : Int} (kf : rackW TL g f t n < 0 → ∀ M', FrL M M' → Q (some (vI (rackW TL g f t n))) S M') (ks : rackW TL g f t n = 0 → ∀ M', M' 202 = rackG g f t n → HistM (pushH 1 g h) M' → FrR M M' → M' 200 42 = M 200 42 → M' 200 43 = M 200 43 → Q (some (vI (meanG (rackG g f t n) t))) S M') : e_X9_rackNow (d + 10) f t n S M Q := by
  subst hg
  refine b_X9_rackNow_0 L (s_whyNotRack L ok h20 hT (fun M0 f0 => ?_))
  refine b_X9_rackNow_7 (fun hw => ?_) (fun hw => b_X9_rackNow_14 (kf hw M0 f0))
  have hz : rackW TL (M 202) f t n = 0 := by unfold rackW at hw ⊢; split <;> (try split) <;> (try split) <;> simp_all
  refine b_X9_rackNow_17 L (s_rem L (hh.fl f0) (fun M1 h1 f1 g1 => ?_))
  have r1 : M1 202 = M 202 := by rw [← f0.row]; exact funext fun i => f1 _ _ (by decide) (by decide) (by omega)
  rw [f0.row] at h1
  refine b_X9_rackNow_22 L (s_rackIt L r1 ok hz (fun M2 r2 f2 => b_X9_rackNow_29 (ks hz M2 r2 ?_ (fun a i q => ?_) ?_ ?_)))
  · exact h1.congr (f2 _ _ (by decide) (by decide)) (fun i _ _ => f2 _ _ (by decide) (by decide)) (fun i => f2 _ _ (by decide) (by decide))
  · rw [f2 a i (by omega) (by omega)]
    by_cases e : a = 205
    · rw [e, g1 i (by omega)]; exact f0 _ _ (by omega)
    · rw [f1 a i e (by omega) (by omega)]; exact f0 _ _ (by omega)
  · rw [f2 _ _ (by decide) (by decide), f1 _ _ (by decide) (by decide) (by decide), f0 _ _ (by decide)]
  · rw [f2 _ _ (by decide) (by decide), f1 _ _ (by decide) (by decide) (by decide), f0 _ _ (by decide)]
theorem s_bottleNow (L : Lay S) {g : Int → Int} (hg : M 202 = g) (ok : okS g) (h20 : M 200 20 = 0 ∨ M 200 20 = 1) (hT : ForM g TL) (hh : HistM h M) (h42 : 0 ≤ M 200 42 ∧ M 200 42 ≤ 1600000000) {c n : Int} (kf : botW TL g c n < 0 → ∀ M', FrL M M' → Q (some (vI (botW TL g c n))) S M') (ks : botW TL g c n = 0 → ∀ M', M' 202 = botG g c n → HistM (pushH 2 g h) M' → FrR M M' → M' 200 42 = M 200 42 + n → M' 200 43 = (if botM g c n < M 200 43 then botM g c n else M 200 43) → Q (some (vI (botM g c n))) S M') : e_X9_bottleNow (d + 10) c n S M Q := by
  subst hg
  refine b_X9_bottleNow_0 L (s_whyNotBottle L ok h20 hT (fun M0 f0 => ?_))
  refine b_X9_bottleNow_6 (fun hw => ?_) (fun hw => b_X9_bottleNow_11 (kf hw M0 f0))
  have hz : botW TL (M 202) c n = 0 := by unfold botW at hw ⊢; split <;> (try split) <;> (try split) <;> simp_all
  refine b_X9_bottleNow_13 L (s_rem L (hh.fl f0) (fun M1 h1 f1 g1 => ?_))
  have r1 : M1 202 = M 202 := by rw [← f0.row]; exact funext fun i => f1 _ _ (by decide) (by decide) (by omega)
  rw [f0.row] at h1
  have e42 : M1 200 42 = M 200 42 := by rw [f1 _ _ (by decide) (by decide) (by decide), f0 _ _ (by decide)]
  have e43 : M1 200 43 = M 200 43 := by rw [f1 _ _ (by decide) (by decide) (by decide), f0 _ _ (by decide)]
  refine b_X9_bottleNow_18 L (s_bottleIt L r1 ok hz (by rw [e42]; exact h42) (fun M2 r2 f2 g2 m2 => b_X9_bottleNow_24 (ks hz M2 r2 ?_ (fun a i q => ?_) (by rw [g2, e42]) (by rw [m2, e43]))))
  · exact h1.congr (f2 _ _ (by decide)) (fun i _ _ => f2 _ _ (by omega)) (fun i => f2 _ _ (by omega))
  · rw [f2 a i (by omega)]
    by_cases e : a = 205
    · rw [e, g1 i (by omega)]; exact f0 _ _ (by omega)
    · rw [f1 a i e (by omega) (by omega)]; exact f0 _ _ (by omega)
theorem s_passNow (L : Lay S) {g : Int → Int} (hg : M 202 = g) (ok : okS g) (h20 : M 200 20 = 0 ∨ M 200 20 = 1) (hT : ForM g TL) (hh : HistM h M) (h999 : g 5 ≤ 999) (kf : 999 ≤ g 5 → Q (some (vI (-3))) S M) (ks : g 5 < 999 → ∀ M', M' 202 = passG TL g → HistM (pushH 3 g h) M' → FrR M M' → M' 200 42 = M 200 42 → M' 200 43 = M 200 43 → Q (some (vI (passL TL g))) S M') : e_X9_passNow (d + 10) S M Q := by
  subst hg
  refine b_X9_passNow_0 L (fun hw => ?_) (fun hw => b_X9_passNow_12 (kf (by omega)))
  refine b_X9_passNow_15 L (s_rem L hh (fun M1 h1 f1 g1 => ?_))
  have r1 : M1 202 = M 202 := funext fun i => f1 _ _ (by decide) (by decide) (by omega)
  refine b_X9_passNow_20 L (s_passIt L r1 ok (by rw [f1 _ _ (by decide) (by decide) (by decide)]; exact h20) hT (by omega) (fun M2 r2 f2 => b_X9_passNow_24 (ks (by omega) M2 r2 ?_ (fun a i q => ?_) ?_ ?_)))
  · exact h1.congr (f2 _ _ (by decide)) (fun i _ _ => f2 _ _ (by omega)) (fun i => f2 _ _ (by omega))
  · rw [f2 a i (by omega)]
    by_cases e : a = 205
    · rw [e]; exact g1 i (by omega)
    · exact f1 a i e (by omega) (by omega)
  · rw [f2 _ _ (by decide), f1 _ _ (by decide) (by decide) (by decide)]
  · rw [f2 _ _ (by decide), f1 _ _ (by decide) (by decide) (by decide)]
theorem s_sums_planOnce (L : Lay S) (hm : MS M TL T σ) (hN : NowM (wS σ) M) (h49 : M 200 49 = 0) {i : Int} (hi : 0 ≤ i ∧ i < tn T)
    (k1 : ∀ M' r1 r2 r3 a b c, FrO M M' → M' 200 49 = 0 → valO (ts T i 0) (wS σ) = some a → valO (ts T i 1) (wS σ) = some b → valO (ts T i 2) (wS σ) = some c → (¬ tk T i = 3 → r1 = a) → (tk T i = 0 → r3 = b) → (tk T i = 1 → r2 = b ∧ r3 = c) → (tk T i = 2 → r2 = b) → ∀ u5 u6, WP PR (d + 7) 233 35 [vA 200, vI (10 * i), vI r1, vI r2, vI r3, u5, u6] [] S M' Q)
    (k0 : ∀ M', FrO M M' → (∀ a b c, valO (ts T i 0) (wS σ) = some a → valO (ts T i 1) (wS σ) = some b → valO (ts T i 2) (wS σ) = some c → False) → Q (some (vI (-3))) S M') : e_X9_planOnce (d + 7) (10 * i) S M Q := by
  obtain ⟨⟨hk0, hk3⟩, -, z0, z1, z2⟩ := hm.2.2.1.1.2 i hi.1 hi.2
  obtain ⟨-, -, o0, -, o1, o2⟩ := hm.2.2.1.2 i hi.1 hi.2
  have n12 := hm.2.2.1.1.1.2.1
  have ee : ∀ M1, FrO M M1 → M1 223 = M 223 ∧ cdO M1 = cdO M := fun M1 f1 => ⟨funext fun i => f1 223 i (by omega), funext fun k => by unfold cdO; rw [f1 211 k (by omega), f1 212 k (by omega)]⟩
  have en : ∀ M1, FrO M M1 → NowM (wS σ) M1 := fun M1 f1 op a q0 q1 => by rw [f1 219 op (by omega)]; exact hN op a q0 q1
  refine b_X9_planOnce_0 L (by omega) (s_sumOf L hm hN h49 (by omega) o0 (fun M1 r1 f1 g1 hr1 hv1 => ?_) (fun M1 r1 f1 g1 hv1 => ?_))
  · have m1 := hm.mv (FrN.ofO f1)
    refine b_X9_planOnce_7 L (by omega) (s_sumOf L m1 (en M1 f1) g1 (by omega) (by rw [(ee M1 f1).1, (ee M1 f1).2]; exact o1) (fun M2 r2 f2 g2 hr2 hv2 => ?_) (fun M2 r2 f2 g2 hv2 => ?_))
    · have f12 := f1.tr f2
      have m2 := hm.mv (FrN.ofO f12)
      refine b_X9_planOnce_15 L (by omega) (s_sumOf L m2 (en M2 f12) g2 (by omega) (by rw [(ee M2 f12).1, (ee M2 f12).2]; exact o2) (fun M3 r3 f3 g3 hr3 hv3 => ?_) (fun M3 r3 f3 g3 hv3 => ?_))
      · refine b_X9_planOnce_23 L (fun _ => ?_) (fun q => absurd g3 q)
        obtain ⟨a, ea⟩ := hv1
        have key : ∀ b c, valO (ts T i 1) (wS σ) = some b → valO (ts T i 2) (wS σ) = some c → (tk T i = 0 → r3 = b) → (tk T i = 1 → r2 = b ∧ r3 = c) → (tk T i = 2 → r2 = b) → ∀ u5 u6, WP PR (d + 7) 233 35 [vA 200, vI (10 * i), vI r1, vI r2, vI r3, u5, u6] [] S M3 Q := by
          intro b c eb ec p0 p1 p2
          refine k1 M3 r1 r2 r3 a b c (f12.tr f3) g3 ea eb ec (fun h3 => ?_) p0 p1 p2
          rcases hr1 with e | e
          · exact absurd (z0.mpr e) h3
          · rw [e] at ea; cases ea; rfl
        by_cases hk : tk T i = 0
        · rw [if_pos hk] at hr3 hv3
          obtain ⟨b, eb⟩ := hv3
          refine key b 1 eb (by rw [z2.mp (by omega)]; rfl) (fun _ => ?_) (fun q => absurd q (by omega)) (fun q => absurd q (by omega)) _ _
          rcases hr3 with e | e
          · exact absurd (z1.mpr e) (by omega)
          · rw [e] at eb; cases eb; rfl
        · rw [if_neg hk] at hr2 hv2 hr3 hv3
          obtain ⟨b, eb⟩ := hv2
          obtain ⟨c, ec⟩ := hv3
          refine key b c eb ec (fun q => absurd q hk) (fun q => ⟨?_, ?_⟩) (fun q => ?_) _ _
          · rcases hr2 with e | e
            · exact absurd (z1.mpr e) (by omega)
            · rw [e] at eb; cases eb; rfl
          · rcases hr3 with e | e
            · exact absurd q (z2.mpr e)
            · rw [e] at ec; cases ec; rfl
          · rcases hr2 with e | e
            · exact absurd (z1.mpr e) (by omega)
            · rw [e] at eb; cases eb; rfl
      · refine b_X9_planOnce_23 L (fun q => absurd q (by omega)) (fun _ => b_X9_planOnce_32 (k0 M3 (f12.tr f3) (fun a b c ea eb ec => ?_)))
        by_cases hk : tk T i = 0
        · rw [if_pos hk] at hv3; rw [hv3] at eb; cases eb
        · rw [if_neg hk] at hv3; rw [hv3] at ec; cases ec
    · have f12 := f1.tr f2
      refine b_X9_planOnce_15 L (by omega) (s_sumOff L (by omega) (b_X9_planOnce_23 L (fun q => absurd q (by omega)) (fun _ => b_X9_planOnce_32 (k0 M2 f12 (fun a b c ea eb ec => ?_)))))
      by_cases hk : tk T i = 0
      · rw [if_pos hk] at hv2; cases hv2
      · rw [if_neg hk] at hv2; rw [hv2] at eb; cases eb
  · refine b_X9_planOnce_7 L (by omega) (s_sumOff L (by omega) (b_X9_planOnce_15 L (by omega) (s_sumOff L (by omega) (b_X9_planOnce_23 L (fun q => absurd q (by omega)) (fun _ => b_X9_planOnce_32 (k0 M1 f1 (fun a b c ea eb ec => ?_)))))))
    rw [hv1] at ea; cases ea
theorem s_sums_runOnce (L : Lay S) (hm : MS M TL T σ) (hN : NowM (wS σ) M) (h49 : M 200 49 = 0) {i : Int} (hi : 0 ≤ i ∧ i < tn T)
    (k1 : ∀ M' r1 r2 r3 a b c, FrO M M' → M' 200 49 = 0 → valO (ts T i 0) (wS σ) = some a → valO (ts T i 1) (wS σ) = some b → valO (ts T i 2) (wS σ) = some c → (¬ tk T i = 3 → r1 = a) → (tk T i = 0 → r3 = b) → (tk T i = 1 → r2 = b ∧ r3 = c) → (tk T i = 2 → r2 = b) → ∀ u5, WP PR (d + 7) 228 35 [vA 200, vI (10 * i), vI r1, vI r2, vI r3, u5] [] S M' Q)
    (k0 : ∀ M', FrO M M' → (∀ a b c, valO (ts T i 0) (wS σ) = some a → valO (ts T i 1) (wS σ) = some b → valO (ts T i 2) (wS σ) = some c → False) → Q (some (vI (-3))) S M') : e_X9_runOnce (d + 7) (10 * i) S M Q := by
  obtain ⟨⟨hk0, hk3⟩, -, z0, z1, z2⟩ := hm.2.2.1.1.2 i hi.1 hi.2
  obtain ⟨-, -, o0, -, o1, o2⟩ := hm.2.2.1.2 i hi.1 hi.2
  have n12 := hm.2.2.1.1.1.2.1
  have ee : ∀ M1, FrO M M1 → M1 223 = M 223 ∧ cdO M1 = cdO M := fun M1 f1 => ⟨funext fun i => f1 223 i (by omega), funext fun k => by unfold cdO; rw [f1 211 k (by omega), f1 212 k (by omega)]⟩
  have en : ∀ M1, FrO M M1 → NowM (wS σ) M1 := fun M1 f1 op a q0 q1 => by rw [f1 219 op (by omega)]; exact hN op a q0 q1
  refine b_X9_runOnce_0 L (by omega) (s_sumOf L hm hN h49 (by omega) o0 (fun M1 r1 f1 g1 hr1 hv1 => ?_) (fun M1 r1 f1 g1 hv1 => ?_))
  · have m1 := hm.mv (FrN.ofO f1)
    refine b_X9_runOnce_7 L (by omega) (s_sumOf L m1 (en M1 f1) g1 (by omega) (by rw [(ee M1 f1).1, (ee M1 f1).2]; exact o1) (fun M2 r2 f2 g2 hr2 hv2 => ?_) (fun M2 r2 f2 g2 hv2 => ?_))
    · have f12 := f1.tr f2
      have m2 := hm.mv (FrN.ofO f12)
      refine b_X9_runOnce_15 L (by omega) (s_sumOf L m2 (en M2 f12) g2 (by omega) (by rw [(ee M2 f12).1, (ee M2 f12).2]; exact o2) (fun M3 r3 f3 g3 hr3 hv3 => ?_) (fun M3 r3 f3 g3 hv3 => ?_))
      · refine b_X9_runOnce_23 L (fun _ => ?_) (fun q => absurd g3 q)
        obtain ⟨a, ea⟩ := hv1
        have key : ∀ b c, valO (ts T i 1) (wS σ) = some b → valO (ts T i 2) (wS σ) = some c → (tk T i = 0 → r3 = b) → (tk T i = 1 → r2 = b ∧ r3 = c) → (tk T i = 2 → r2 = b) → ∀ u5, WP PR (d + 7) 228 35 [vA 200, vI (10 * i), vI r1, vI r2, vI r3, u5] [] S M3 Q := by
          intro b c eb ec p0 p1 p2
          refine k1 M3 r1 r2 r3 a b c (f12.tr f3) g3 ea eb ec (fun h3 => ?_) p0 p1 p2
          rcases hr1 with e | e
          · exact absurd (z0.mpr e) h3
          · rw [e] at ea; cases ea; rfl
        by_cases hk : tk T i = 0
        · rw [if_pos hk] at hr3 hv3
          obtain ⟨b, eb⟩ := hv3
          refine key b 1 eb (by rw [z2.mp (by omega)]; rfl) (fun _ => ?_) (fun q => absurd q (by omega)) (fun q => absurd q (by omega)) _
          rcases hr3 with e | e
          · exact absurd (z1.mpr e) (by omega)
          · rw [e] at eb; cases eb; rfl
        · rw [if_neg hk] at hr2 hv2 hr3 hv3
          obtain ⟨b, eb⟩ := hv2
          obtain ⟨c, ec⟩ := hv3
          refine key b c eb ec (fun q => absurd q hk) (fun q => ⟨?_, ?_⟩) (fun q => ?_) _
          · rcases hr2 with e | e
            · exact absurd (z1.mpr e) (by omega)
            · rw [e] at eb; cases eb; rfl
          · rcases hr3 with e | e
            · exact absurd q (z2.mpr e)
            · rw [e] at ec; cases ec; rfl
          · rcases hr2 with e | e
            · exact absurd (z1.mpr e) (by omega)
            · rw [e] at eb; cases eb; rfl
      · refine b_X9_runOnce_23 L (fun q => absurd q (by omega)) (fun _ => b_X9_runOnce_32 (k0 M3 (f12.tr f3) (fun a b c ea eb ec => ?_)))
        by_cases hk : tk T i = 0
        · rw [if_pos hk] at hv3; rw [hv3] at eb; cases eb
        · rw [if_neg hk] at hv3; rw [hv3] at ec; cases ec
    · have f12 := f1.tr f2
      refine b_X9_runOnce_15 L (by omega) (s_sumOff L (by omega) (b_X9_runOnce_23 L (fun q => absurd q (by omega)) (fun _ => b_X9_runOnce_32 (k0 M2 f12 (fun a b c ea eb ec => ?_)))))
      by_cases hk : tk T i = 0
      · rw [if_pos hk] at hv2; cases hv2
      · rw [if_neg hk] at hv2; rw [hv2] at eb; cases eb
  · refine b_X9_runOnce_7 L (by omega) (s_sumOff L (by omega) (b_X9_runOnce_15 L (by omega) (s_sumOff L (by omega) (b_X9_runOnce_23 L (fun q => absurd q (by omega)) (fun _ => b_X9_runOnce_32 (k0 M1 f1 (fun a b c ea eb ec => ?_)))))))
    rw [hv1] at ea; cases ea
/-- the state behind an order that was done -/
theorem MS.nx {M' : mMem} (hm : MS M TL T σ) {a b c i : Int} (hr : M' 202 = opG (tk T i) TL (gS σ) a b c) (hO : ∀ k, M' 223 k = M 223 k) (h1 : ∀ k, M' 211 k = M 211 k) (h2 : ∀ k, M' 212 k = M 212 k) (h21 : M' 200 21 = M 200 21) (h20 : M' 200 20 = M 200 20) (ho : opW (tk T i) TL (gS σ) a b c = 0) (hd : dnS σ < 1000) (hy : ylS σ ≤ 1400000000)
    (e4 : M' 200 46 = dnS σ + 1) (e5 : M' 200 47 = if tk T i = 2 then botM (gS σ) b a else ltS σ) (f4 : M' 200 42 = if tk T i = 2 then ylS σ + a else ylS σ) (f5 : M' 200 43 = if tk T i = 2 ∧ botM (gS σ) b a < mnS σ then botM (gS σ) b a else mnS σ) : MS M' TL T (stN TL T i σ a b c) := by
  obtain ⟨g1, g2, g3, g4, g5, g6, g7, g8, g9, g10⟩ := hm
  have e223 : M' 223 = M 223 := funext hO
  have ecd : cdO M' = cdO M := funext fun k => by unfold cdO; rw [h1, h2]
  exact ⟨hr, g2.fix (op_fix g10.1 ho), by rw [e223, ecd]; exact g3, by rw [h21]; exact g4, e4, e5, f4, f5, by rw [h20]; exact g9, stN_ok g10 ho hd hy⟩
set_option maxHeartbeats 1000000 in
theorem s_planOnce (L : Lay S) (hm : MS M TL T σ) (hN : NowM (wS σ) M) (h49 : M 200 49 = 0) {i : Int} (hi : 0 ≤ i ∧ i < tn T) (hk : ¬ tk T i = 3) (ht : tstO (ts T i 3) (wS σ) = true) (hd : dnS σ < 1000) (hy : ylS σ ≤ 1400000000)
    (k3 : stC TL T i σ = -3 → ∀ M', MS M' TL T σ → FrQ M M' → Q (some (vI (-3))) S M')
    (k0 : stC TL T i σ = 0 → ∀ M', MS M' TL T (stS TL T i σ) → FrQ M M' → Q (some (vI 0)) S M') : e_X9_planOnce (d + 10) (10 * i) S M Q := by
  obtain ⟨⟨hk0, hk3⟩, -, z0, z1, z2⟩ := hm.2.2.1.1.2 i hi.1 hi.2
  have okk := hm.2.2.1.2 i hi.1 hi.2
  have n12 := hm.2.2.1.1.1.2.1
  have hok := hm.2.2.2.2.2.2.2.2.2
  have hdn0 := hok.2.1
  refine s_sums_planOnce L hm hN h49 hi (fun M1 r1 r2 r3 a b c f1 g1 ea eb ec p1 p3 p4 p5 u5 u6 => ?_) (fun M1 f1 hno => k3 (stC_3 ht (fun a b c ea eb ec => (hno a b c ea eb ec).elim)) M1 (hm.mv (FrN.ofO f1)) (FrQ.ofN (FrN.ofO f1)))
  have m1 := hm.mv (FrN.ofO f1)
  have r1' := p1 hk
  subst r1'
  have ekind : M1 223 (10 * i) = tk T i := by rw [f1 223 _ (by omega)]; exact okk.1
  have eg : M1 202 = gS σ := m1.1
  have fail : ∀ M2, FrL M1 M2 → ¬ opW (tk T i) TL (gS σ) r1 b c = 0 → Q (some (vI (-3))) S M2 := fun M2 f2 hno =>
    k3 (stC_3 ht (fun a' b' c' ea' eb' ec' => by rw [ea] at ea'; rw [eb] at eb'; rw [ec] at ec'; cases ea'; cases eb'; cases ec'; exact hno)) M2 (by
      obtain ⟨x1, x2, x3, x4, x5, x6, x7, x8, x9, x10⟩ := m1
      have e223 : M2 223 = M1 223 := funext fun i => f2 223 i (by omega)
      have ecd : cdO M2 = cdO M1 := funext fun k => by unfold cdO; rw [f2 211 k (by omega), f2 212 k (by omega)]
      exact ⟨by rw [f2.row]; exact x1, x2, by rw [e223, ecd]; exact x3, by rw [f2 _ _ (by decide)]; exact x4, by rw [f2 _ _ (by decide)]; exact x5, by rw [f2 _ _ (by decide)]; exact x6, by rw [f2 _ _ (by decide)]; exact x7, by rw [f2 _ _ (by decide)]; exact x8, by rw [f2 _ _ (by decide)]; exact x9, x10⟩) ((FrQ.ofN (FrN.ofO f1)).tr (FrQ.ofL f2))
  have h20 : ∀ M2, FrL M1 M2 → M2 200 20 = 0 ∨ M2 200 20 = 1 := fun M2 f2 => Or.inl (by rw [f2 _ _ (by decide)]; exact m1.2.2.2.2.2.2.2.2.1)
  have hTL : ForM (gS σ) TL := m1.2.1
  refine b_X9_planOnce_35 L (by omega) (fun hn0 => ?_) (fun he0 => ?_)
  · rw [ekind] at hn0 ⊢
    refine b_X9_planOnce_58 (fun hn1 => ?_) (fun he1 => ?_)
    · -- bottle
      have he2 : tk T i = 2 := by omega
      have r2' := p5 he2
      subst r2'
      have eo : opW (tk T i) TL (gS σ) r1 r2 c = botW TL (gS σ) r2 r1 := by unfold opW; rw [if_neg hn0, if_neg hn1, if_pos he2]
      refine b_X9_planOnce_75 L (s_whyNotBottle L (by rw [eg]; exact hok.1) (h20 M1 (FrL.rf M1)) (by rw [eg]; exact hTL) (fun M2 f2 => ?_))
      rw [eg]
      refine b_X9_planOnce_81 (fun hw => ?_) (fun hw => b_X9_planOnce_88 (fail M2 f2 (by rw [eo]; omega)))
      have hz : botW TL (gS σ) r2 r1 = 0 := by unfold botW at hw ⊢; split <;> (try split) <;> (try split) <;> simp_all
      have ho : opW (tk T i) TL (gS σ) r1 r2 c = 0 := by rw [eo]; exact hz
      obtain ⟨hs, hss⟩ := stC_s0 ht ea eb ec ho
      have hyl := hok.2.2.2.1
      have e42 : M2 200 42 = ylS σ := by rw [f2 _ _ (by decide)]; exact m1.2.2.2.2.2.2.1
      have e43 : M2 200 43 = mnS σ := by rw [f2 _ _ (by decide)]; exact m1.2.2.2.2.2.2.2.1
      refine b_X9_planOnce_91 (fun _ => b_X9_planOnce_107 (fun _ => ?_) (fun q => absurd q hn1)) (fun q => absurd q hn0)
      refine b_X9_planOnce_125 L (s_bottleIt L (by rw [f2.row]; exact eg) hok.1 hz (by rw [e42]; omega) (fun M3 r3' f3 g3 m3 => ?_))
      have e46 : M3 200 46 = dnS σ := by rw [f3 _ _ (by decide), f2 _ _ (by decide)]; exact m1.2.2.2.2.1
      refine b_X9_planOnce_132 L (by rw [e46]; omega) ?_
      rw [e46]
      have f03 : ∀ x j, ¬ (x = 202 ∨ x = 220 ∨ x = 218 ∨ x = 221 ∨ (x = 200 ∧ (j = 34 ∨ j = 38 ∨ j = 39 ∨ j = 40 ∨ j = 42 ∨ j = 43))) → M3 x j = M1 x j := fun x j q => by rw [f3 _ _ (by omega), f2 _ _ (by omega)]
      refine k0 hs _ ?_ (fun x j q => ?_)
      · rw [hss]
        refine m1.nx (i := i) ?_ (fun k => by rw [up_na (by decide), up_na (by decide), f03 _ _ (by omega)]) (fun k => by rw [up_na (by decide), up_na (by decide), f03 _ _ (by omega)]) (fun k => by rw [up_na (by decide), up_na (by decide), f03 _ _ (by omega)]) (by rw [up_ni (by decide), up_ni (by decide), f03 _ _ (by decide)]) (by rw [up_ni (by decide), up_ni (by decide), f03 _ _ (by decide)]) ho hd hy (up_s _ _ _ _) (by rw [up_ni (by decide), up_s, if_pos he2]) (by rw [up_ni (by decide), up_ni (by decide), g3, e42, if_pos he2]) ?_
        · rw [show opG (tk T i) TL (gS σ) r1 r2 c = botG (gS σ) r2 r1 by unfold opG; rw [if_neg hn0, if_neg hn1, if_pos he2], ← r3']
          funext k; rw [up_na (by decide), up_na (by decide)]
        · rw [up_ni (by decide), up_ni (by decide), m3, e43]
          by_cases hl : botM (gS σ) r2 r1 < mnS σ
          · rw [if_pos hl, if_pos ⟨he2, hl⟩]
          · rw [if_neg hl, if_neg (fun q => hl q.2)]
      · by_cases e : x = 200
        · rw [up_ni (by omega), up_ni (by omega), f03 x j (by omega)]; exact f1 x j (by omega)
        · rw [up_na e, up_na e, f03 x j (by omega)]; exact f1 x j (by omega)
    · -- rack
      obtain ⟨r2', r3'⟩ := p4 he1
      subst r2' r3'
      have eo : opW (tk T i) TL (gS σ) r1 r2 r3 = rackW TL (gS σ) r2 r3 r1 := by unfold opW; rw [if_neg hn0, if_pos he1]
      refine b_X9_planOnce_64 L (s_whyNotRack L (by rw [eg]; exact hok.1) (h20 M1 (FrL.rf M1)) (by rw [eg]; exact hTL) (fun M2 f2 => ?_))
      rw [eg]
      refine b_X9_planOnce_72 (fun hw => ?_) (fun hw => b_X9_planOnce_88 (fail M2 f2 (by rw [eo]; omega)))
      have hz : rackW TL (gS σ) r2 r3 r1 = 0 := by unfold rackW at hw ⊢; split <;> (try split) <;> (try split) <;> simp_all
      have ho : opW (tk T i) TL (gS σ) r1 r2 r3 = 0 := by rw [eo]; exact hz
      obtain ⟨hs, hss⟩ := stC_s0 ht ea eb ec ho
      refine b_X9_planOnce_91 (fun _ => b_X9_planOnce_107 (fun q => absurd he1 q) (fun _ => ?_)) (fun q => absurd q hn0)
      refine b_X9_planOnce_113 L (s_rackIt L (by rw [f2.row]; exact eg) hok.1 hz (fun M3 rr f3 => ?_))
      have f03 : ∀ x j, ¬ (x = 202 ∨ x = 220 ∨ x = 218 ∨ x = 221 ∨ (x = 200 ∧ (j = 34 ∨ j = 38 ∨ j = 39 ∨ j = 40))) → M3 x j = M1 x j := fun x j q => by rw [f3 _ _ (by omega) (by omega), f2 _ _ (by omega)]
      have e46 : M3 200 46 = dnS σ := by rw [f03 _ _ (by decide)]; exact m1.2.2.2.2.1
      refine b_X9_planOnce_121 L (by rw [e46]; omega) ?_
      rw [e46]
      refine k0 hs _ ?_ (fun x j q => ?_)
      · rw [hss]
        refine m1.nx (i := i) ?_ (fun k => by rw [up_na (by decide), f03 _ _ (by omega)]) (fun k => by rw [up_na (by decide), f03 _ _ (by omega)]) (fun k => by rw [up_na (by decide), f03 _ _ (by omega)]) (by rw [up_ni (by decide), f03 _ _ (by decide)]) (by rw [up_ni (by decide), f03 _ _ (by decide)]) ho hd hy (up_s _ _ _ _) ?_ ?_ ?_
        · rw [show opG (tk T i) TL (gS σ) r1 r2 r3 = rackG (gS σ) r2 r3 r1 by unfold opG; rw [if_neg hn0, if_pos he1], ← rr]
          funext k; rw [up_na (by decide)]
        · rw [up_ni (by decide), f03 _ _ (by decide), if_neg (by omega)]; exact m1.2.2.2.2.2.1
        · rw [up_ni (by decide), f03 _ _ (by decide), if_neg (by omega)]; exact m1.2.2.2.2.2.2.1
        · rw [up_ni (by decide), f03 _ _ (by decide), if_neg (by omega)]; exact m1.2.2.2.2.2.2.2.1
      · by_cases e : x = 200
        · rw [up_ni (by omega), f03 x j (by omega)]; exact f1 x j (by omega)
        · rw [up_na e, f03 x j (by omega)]; exact f1 x j (by omega)
  · -- pour
    rw [ekind] at he0 ⊢
    have r3' := p3 he0
    subst r3'
    have eo : opW (tk T i) TL (gS σ) r1 r3 c = pourW (gS σ) r3 r1 := by unfold opW; rw [if_pos he0]
    refine b_X9_planOnce_48 L (s_whyNotPour L (by rw [eg]; exact hok.1) ?_)
    rw [eg]
    refine b_X9_planOnce_55 (fun hw => ?_) (fun hw => b_X9_planOnce_88 (fail M1 (FrL.rf M1) (by rw [eo]; omega)))
    have hz : pourW (gS σ) r3 r1 = 0 := by unfold pourW at hw ⊢; split <;> (try split) <;> (try split) <;> simp_all
    have ho : opW (tk T i) TL (gS σ) r1 r3 c = 0 := by rw [eo]; exact hz
    obtain ⟨hs, hss⟩ := stC_s0 ht ea eb ec ho
    refine b_X9_planOnce_91 (fun q => absurd he0 q) (fun _ => ?_)
    refine b_X9_planOnce_96 L (s_pourIt L eg hok.1 hz (fun M3 rr f3 => ?_))
    have f03 : ∀ x j, ¬ (x = 202) → M3 x j = M1 x j := fun x j q => f3 _ _ q
    have e46 : M3 200 46 = dnS σ := by rw [f03 _ _ (by decide)]; exact m1.2.2.2.2.1
    refine b_X9_planOnce_103 L (by rw [e46]; omega) ?_
    rw [e46]
    refine k0 hs _ ?_ (fun x j q => ?_)
    · rw [hss]
      refine m1.nx (i := i) ?_ (fun k => by rw [up_na (by decide), f03 _ _ (by omega)]) (fun k => by rw [up_na (by decide), f03 _ _ (by omega)]) (fun k => by rw [up_na (by decide), f03 _ _ (by omega)]) (by rw [up_ni (by decide), f03 _ _ (by decide)]) (by rw [up_ni (by decide), f03 _ _ (by decide)]) ho hd hy (up_s _ _ _ _) ?_ ?_ ?_
      · rw [show opG (tk T i) TL (gS σ) r1 r3 c = addG (gS σ) r3 r1 by unfold opG; rw [if_pos he0], ← rr]
        funext k; rw [up_na (by decide)]
      · rw [up_ni (by decide), f03 _ _ (by decide), if_neg (by omega)]; exact m1.2.2.2.2.2.1
      · rw [up_ni (by decide), f03 _ _ (by decide), if_neg (by omega)]; exact m1.2.2.2.2.2.2.1
      · rw [up_ni (by decide), f03 _ _ (by decide), if_neg (by omega)]; exact m1.2.2.2.2.2.2.2.1
    · by_cases e : x = 200
      · rw [up_ni (by omega), f03 x j (by omega)]; exact f1 x j (by omega)
      · rw [up_na e, f03 x j (by omega)]; exact f1 x j (by omega)
end MQ
