/-! The reference's works, second piece. -/
/-- cells that a work of the reference writes -/
def FrY (M M' : mMem) : Prop := ∀ a i, ¬ (a = 202 ∨ a = 220 ∨ a = 218 ∨ a = 221 ∨ (a = 200 ∧ (i = 34 ∨ i = 38 ∨ i = 39 ∨ i = 40 ∨ i = 42 ∨ i = 43))) → M' a i = M a i
theorem FrY.rf (M : mMem) : FrY M M := fun _ _ _ => rfl
theorem FrY.tr {M M' M'' : mMem} (h : FrY M M') (h' : FrY M' M'') : FrY M M'' := fun a i q => (h' a i q).trans (h a i q)
theorem FrY.ofL {M M' : mMem} (h : FrL M M') : FrY M M' := fun a i q => h a i (by omega)
section MX
variable {d : Nat} {S : mSh} {M : mMem} {Q : Option mV → mSh → mMem → Prop} {T : TX}
theorem s_whyNotPour (L : Lay S) (ok : okS (M 202)) {c n : Int} (k : Q (some (vI (pourW (M 202) c n))) S M) : e_X9_whyNotPour (d + 4) c n S M Q := by
  have hn := ok.n
  unfold pourW at k
  refine b_X9_whyNotPour_0 (s_in (fun h => b_X9_whyNotPour_9 (fun _ => ?_) (fun e => absurd e (by decide))) (fun h => b_X9_whyNotPour_9 (fun e => absurd rfl e) (fun _ => b_X9_whyNotPour_12 ?_)))
  · rw [if_pos h] at k
    refine b_X9_whyNotPour_14 L (s_isCask L hn (fun h2 => b_X9_whyNotPour_19 (fun _ => ?_) (fun e => absurd e (by decide))) (fun h2 => b_X9_whyNotPour_19 (fun e => absurd rfl e) (fun _ => b_X9_whyNotPour_22 ?_)))
    · rw [if_pos h2] at k
      have hc8 : 0 ≤ c ∧ c < 8 := by omega
      refine b_X9_whyNotPour_25 L (s_roomOf L ok.D hc8 (ok.z hc8) (b_X9_whyNotPour_30 (by omega) (fun h3 => b_X9_whyNotPour_43 ?_) (fun h3 => b_X9_whyNotPour_38 ?_)))
      · rw [if_neg (by omega)] at k; exact k
      · rw [if_pos h3] at k; exact k
    · rw [if_neg h2] at k; exact k
  · rw [if_neg h] at k; exact k
theorem s_whyNotRack (L : Lay S) (ok : okS (M 202)) (h20 : M 200 20 = 0 ∨ M 200 20 = 1) (hT : ForM (M 202) T) {f t n : Int} (k : ∀ M', FrL M M' → Q (some (vI (rackW T (M 202) f t n))) S M') : e_X9_whyNotRack (d + 9) f t n S M Q := by
  have hn := ok.n
  by_cases h1 : 1 ≤ n ∧ n ≤ 999
  · refine b_X9_whyNotRack_0 (s_in (fun _ => b_X9_whyNotRack_9 (fun _ => ?_) (fun e => absurd e (by decide))) (fun h => absurd h1 h))
    have e2 : ¬ ((0 ≤ f ∧ f < M 202 0) ∧ (0 ≤ t ∧ t < M 202 0)) → Q (some (vI (-2))) S M := fun hh => by
      have e : rackW T (M 202) f t n = -2 := by unfold rackW; rw [if_pos h1, if_neg hh]
      rw [e] at k; exact k M (FrL.rf M)
    refine b_X9_whyNotRack_14 L (s_isCask L hn (fun hf => b_X9_whyNotRack_19 (fun e => absurd e (by decide)) (fun _ => ?_)) (fun hf => b_X9_whyNotRack_19 (fun _ => b_X9_whyNotRack_30 (e2 (fun q => hf q.1))) (fun e => absurd rfl e)))
    refine b_X9_whyNotRack_22 L (s_isCask L hn (fun ht => b_X9_whyNotRack_27 (fun _ => ?_) (fun e => absurd e (by decide))) (fun ht => b_X9_whyNotRack_27 (fun e => absurd rfl e) (fun _ => b_X9_whyNotRack_30 (e2 (fun q => ht q.2)))))
    have hf8 : 0 ≤ f ∧ f < 8 := by omega
    have ht8 : 0 ≤ t ∧ t < 8 := by omega
    have tf := ok.t hf8
    have e3 : ∀ M', FrL M M' → ¬ (M 202 (170 + t) = M 202 (170 + f) - 1 ∧ ¬ barT T (M 202) f = 1 ∧ ¬ barT T (M 202) t = 1 ∧ n ≤ yieT T (M 202) f ∧ 1000 * n ≤ allG (M 202) f ∧ 1000 * n ≤ roomG (M 202) t) → Q (some (vI (-3))) S M' := fun M' fr hh => by
      have e : rackW T (M 202) f t n = -3 := by unfold rackW; rw [if_pos h1, if_pos ⟨hf, ht⟩, if_neg hh]
      rw [e] at k; exact k M' fr
    refine b_X9_whyNotRack_33 L (by omega) (fun hne => b_X9_whyNotRack_78 (e3 M (FrL.rf M) (fun q => hne q.1))) (fun htier => ?_)
    refine b_X9_whyNotRack_58 L (s_isBarred L ok h20 hT hf8 (fun M1 f1 hb => b_X9_whyNotRack_63 (fun _ => b_X9_whyNotRack_78 (e3 M1 f1 (fun q => q.2.1 hb))) (fun e => absurd e (by decide))) (fun M1 f1 hb => b_X9_whyNotRack_63 (fun e => absurd rfl e) (fun _ => ?_)))
    have r1 := f1.row
    refine b_X9_whyNotRack_66 L (s_isBarred L (by rw [r1]; exact ok) (by rw [f1 200 20 (by decide)]; exact h20) (by rw [r1]; exact hT) ht8 (fun M2 f2 hb2 => b_X9_whyNotRack_71 (fun _ => b_X9_whyNotRack_78 (e3 M2 (f1.tr f2) (fun q => q.2.2.1 (by rw [r1] at hb2; exact hb2)))) (fun e => absurd e (by decide))) (fun M2 f2 hb2 => b_X9_whyNotRack_71 (fun e => absurd rfl e) (fun _ => ?_)))
    rw [r1] at hb2
    have f12 := f1.tr f2
    have r2 := f12.row
    refine b_X9_whyNotRack_74 L (s_yieldsOf L (by rw [r2]; exact ok) (by rw [f12 200 20 (by decide)]; exact h20) (by rw [r2]; exact hT) hf8 (fun M3 f3 => ?_))
    have f13 := f12.tr f3
    have r3 := f13.row
    rw [r2]
    refine b_X9_whyNotRack_91 (fun hy => b_X9_whyNotRack_125 (e3 M3 f13 (fun q => by omega))) (fun hy => b_X9_whyNotRack_95 L (s_allOf L (by rw [r3]; exact ok.D) hf8 ?_))
    rw [r3]
    refine b_X9_whyNotRack_100 (by omega) (fun ha => b_X9_whyNotRack_125 (e3 M3 f13 (fun q => by omega))) (fun ha => b_X9_whyNotRack_108 L (s_roomOf L (by rw [r3]; exact ok.D) ht8 (by rw [r3]; exact ok.z ht8) ?_))
    rw [r3]
    refine b_X9_whyNotRack_113 (by omega) (fun hr => b_X9_whyNotRack_125 (e3 M3 f13 (fun q => by omega))) (fun hr => b_X9_whyNotRack_121 ?_)
    have e : rackW T (M 202) f t n = 0 := by unfold rackW; rw [if_pos h1, if_pos ⟨hf, ht⟩, if_pos ⟨htier, hb, hb2, hy, ha, hr⟩]
    rw [e] at k; exact k M3 f13
  · have e : rackW T (M 202) f t n = -1 := by unfold rackW; rw [if_neg h1]
    rw [e] at k
    exact b_X9_whyNotRack_0 (s_in (fun h => absurd h h1) (fun _ => b_X9_whyNotRack_9 (fun e => absurd rfl e) (fun _ => b_X9_whyNotRack_12 (k M (FrL.rf M)))))
theorem s_whyNotBottle (L : Lay S) (ok : okS (M 202)) (h20 : M 200 20 = 0 ∨ M 200 20 = 1) (hT : ForM (M 202) T) {c n : Int} (k : ∀ M', FrL M M' → Q (some (vI (botW T (M 202) c n))) S M') : e_X9_whyNotBottle (d + 9) c n S M Q := by
  have hn := ok.n
  by_cases h1 : 1 ≤ n ∧ n ≤ 999
  · refine b_X9_whyNotBottle_0 (s_in (fun _ => b_X9_whyNotBottle_9 (fun _ => ?_) (fun e => absurd e (by decide))) (fun h => absurd h1 h))
    refine b_X9_whyNotBottle_14 L (s_isCask L hn (fun hc => b_X9_whyNotBottle_19 (fun _ => ?_) (fun e => absurd e (by decide))) (fun hc => b_X9_whyNotBottle_19 (fun e => absurd rfl e) (fun _ => b_X9_whyNotBottle_22 ?_)))
    · have hc8 : 0 ≤ c ∧ c < 8 := by omega
      have e3 : ∀ M', FrL M M' → ¬ (M 202 (170 + c) = 0 ∧ ¬ barT T (M 202) c = 1 ∧ n ≤ yieT T (M 202) c ∧ 1000 * n ≤ allG (M 202) c) → Q (some (vI (-3))) S M' := fun M' fr hh => by
        have e : botW T (M 202) c n = -3 := by unfold botW; rw [if_pos h1, if_pos hc, if_neg hh]
        rw [e] at k; exact k M' fr
      refine b_X9_whyNotBottle_25 L (by omega) (fun hne => b_X9_whyNotBottle_72 (e3 M (FrL.rf M) (fun q => hne q.1))) (fun htier => ?_)
      refine b_X9_whyNotBottle_38 L (s_isBarred L ok h20 hT hc8 (fun M1 f1 hb => b_X9_whyNotBottle_43 (fun _ => b_X9_whyNotBottle_72 (e3 M1 f1 (fun q => q.2.1 hb))) (fun e => absurd e (by decide))) (fun M1 f1 hb => b_X9_whyNotBottle_43 (fun e => absurd rfl e) (fun _ => ?_)))
      have r1 := f1.row
      refine b_X9_whyNotBottle_46 L (s_yieldsOf L (by rw [r1]; exact ok) (by rw [f1 200 20 (by decide)]; exact h20) (by rw [r1]; exact hT) hc8 (fun M2 f2 => ?_))
      rw [r1]
      have f12 := f1.tr f2
      have r2 := f12.row
      refine b_X9_whyNotBottle_51 (fun hy => b_X9_whyNotBottle_72 (e3 M2 f12 (fun q => by omega))) (fun hy => b_X9_whyNotBottle_55 L (s_allOf L (by rw [r2]; exact ok.D) hc8 ?_))
      rw [r2]
      refine b_X9_whyNotBottle_60 (by omega) (fun ha => b_X9_whyNotBottle_72 (e3 M2 f12 (fun q => by omega))) (fun ha => b_X9_whyNotBottle_68 ?_)
      have e : botW T (M 202) c n = 0 := by unfold botW; rw [if_pos h1, if_pos hc, if_pos ⟨htier, hb, hy, ha⟩]
      rw [e] at k; exact k M2 f12
    · have e : botW T (M 202) c n = -2 := by unfold botW; rw [if_pos h1, if_neg hc]
      rw [e] at k; exact k M (FrL.rf M)
  · have e : botW T (M 202) c n = -1 := by unfold botW; rw [if_neg h1]
    rw [e] at k
    exact b_X9_whyNotBottle_0 (s_in (fun h => absurd h h1) (fun _ => b_X9_whyNotBottle_9 (fun e => absurd rfl e) (fun _ => b_X9_whyNotBottle_12 (k M (FrL.rf M)))))
theorem s_pourIt (L : Lay S) {g : Int → Int} (hg : M 202 = g) (ok : okS g) {c n : Int} (hp : pourW g c n = 0) (k : ∀ M', M' 202 = addG g c n → (∀ a i, a ≠ 202 → M' a i = M a i) → Q (some (vI ((allG (addG g c n) c).tdiv 1000))) S M') : e_X9_pourIt (d + 2) c n S M Q := by
  obtain ⟨h1, h2, h3, h4, ok'⟩ := pour_ok ok hp
  have hn := ok.n
  have hc8 : 0 ≤ c ∧ c < 8 := by omega
  have e0 : M 202 (10 + 20 * c) = g (10 + 20 * c + 0) := by rw [hg, Int.add_zero]
  have b0 := ok.D (10 + 20 * c + 0) (by omega) (by omega)
  have er : up M 202 (10 + 20 * c) (M 202 (10 + 20 * c) + 1000 * n) 202 = addG g c n := by
    rw [up_g, hg]
    funext i
    by_cases hi : i = 10 + 20 * c
    · rw [hi, upr_s]
      have := seg_i (g := g) (c := c) (f := fun a => g (10 + 20 * c + a) + (if a = 0 then 1000 * n else 0)) (a := 0) (by decide)
      rw [Int.add_zero] at this
      unfold addG; rw [this, if_pos rfl]
    · rw [upr_n hi]
      unfold addG
      by_cases hj : i < 10 + 20 * c ∨ 30 + 20 * c ≤ i
      · rw [seg_o hj]
      · have e : i = 10 + 20 * c + (i - 10 - 20 * c) := by omega
        rw [e, seg_i (by omega), if_neg (by omega), Int.add_zero]
  refine b_X9_pourIt_0 L (by rw [e0]; omega) (s_allOf L (by rw [er]; exact ok'.D) hc8 ?_)
  rw [er]
  have := div_bd (y := 1000) (k := 999) (ok'.all hc8).1 (by decide) (by have := ok'.all hc8; omega)
  exact b_X9_pourIt_25 (by omega) (k _ er (fun a i q => up_na q))
theorem s_rackIt (L : Lay S) {g : Int → Int} (hg : M 202 = g) (ok : okS g) {f t n : Int} (hp : rackW T g f t n = 0) (k : ∀ M', M' 202 = rackG g f t n → (∀ a i, a ≠ 202 → a ≠ 221 → M' a i = M a i) → Q (some (vI (meanG (rackG g f t n) t))) S M') : e_X9_rackIt (d + 3) f t n S M Q := by
  obtain ⟨h1, h2, h3, hne, hA, hB, okt, hput, okr⟩ := rack_ok ok hp
  have hn := ok.n
  have hf8 : 0 ≤ f ∧ f < 8 := by omega
  have ht8 : 0 ≤ t ∧ t < 8 := by omega
  refine b_X9_rackIt_0 L (s_takeOut L hg ok hf8 h1.1 hA (fun M1 r1 t1 f1 => b_X9_rackIt_6 ?_))
  generalize hG : takG g f n = g1 at r1 okt hput
  refine Eq.mp (congrArg (fun m => WP PR (d + 3) 206 10 [vA 200, vI f, vI t, vI n, vI 0] [] S m Q) (fw_0 M1 202 (fun i => g1 i + tkG g f n (i - 10 - 20 * t)) (10 + 20 * t))) ?_
  refine for_up (W := fun i => WP PR (d + 3) 206 10 [vA 200, vI f, vI t, vI n, vI i] [] S (fw M1 202 (fun i => g1 i + tkG g f n (i - 10 - 20 * t)) (10 + 20 * t) i) Q) (lo := 0) (hi := 20) (by decide) ?_ ?_
  · have er : fw M1 202 (fun i => g1 i + tkG g f n (i - 10 - 20 * t)) (10 + 20 * t) 20 202 = rackG g f t n := by
      rw [fw_g, r1]
      unfold rackG putG segG
      rw [hG]
      funext i
      unfold fwr
      by_cases hi : 10 + 20 * t ≤ i ∧ i < 10 + 20 * t + 20
      · rw [if_pos hi, if_pos hi]
        have e : 10 + 20 * t + (i - 10 - 20 * t) = i := by omega
        show g1 i + _ = g1 (10 + 20 * t + (i - 10 - 20 * t)) + _
        rw [e]
      · rw [if_neg hi, if_neg hi]
    refine b_X9_rackIt_10 (fun _ => b_X9_rackIt_48 L (s_meanOf L (by rw [er]; exact okr.D) ht8 ?_)) (fun h => absurd h (by decide))
    rw [er]
    exact b_X9_rackIt_53 (k _ er (fun a i q1 q2 => by rw [fw_na q1]; exact f1 a i q1 q2))
  · intro i h0 h1' ih
    have e1 : fw M1 202 (fun i => g1 i + tkG g f n (i - 10 - 20 * t)) (10 + 20 * t) i 202 (10 + 20 * t + i) = g1 (10 + 20 * t + i) := by rw [fw_o (by omega), r1]
    have e2 : fw M1 202 (fun i => g1 i + tkG g f n (i - 10 - 20 * t)) (10 + 20 * t) i 221 i = tkG g f n i := by rw [fw_na (by decide)]; exact t1 i h0 h1'
    have b1 := okt.D (10 + 20 * t + i) (by omega) (by omega)
    have b2 := tk_bd ok hf8 h1.1 hA (a := i) ⟨h0, h1'⟩
    have b3 := ok.D (10 + 20 * f + i) (by omega) (by omega)
    refine b_X9_rackIt_10 (fun h => absurd h (by omega)) (fun _ => b_X9_rackIt_17 L (by rw [e1, e2]; omega) ?_)
    rw [e1, e2, fw_up h0 (by congr 2; omega)]; exact ih
theorem s_bottleIt (L : Lay S) {g : Int → Int} (hg : M 202 = g) (ok : okS g) {c n : Int} (hp : botW T g c n = 0) (h42 : 0 ≤ M 200 42 ∧ M 200 42 ≤ 1600000000) (k : ∀ M', M' 202 = botG g c n → (∀ a i, ¬ (a = 202 ∨ a = 221 ∨ (a = 200 ∧ (i = 42 ∨ i = 43))) → M' a i = M a i) → M' 200 42 = M 200 42 + n → M' 200 43 = (if botM g c n < M 200 43 then botM g c n else M 200 43) → Q (some (vI (botM g c n))) S M') : e_X9_bottleIt (d + 3) c n S M Q := by
  obtain ⟨h1, h2, hA, okt, okb⟩ := bot_ok ok hp
  have hn := ok.n
  have hc8 : 0 ≤ c ∧ c < 8 := by omega
  have b9 := ok.b
  have l202 := ll202 L
  refine b_X9_bottleIt_0 L (s_takeOut L hg ok hc8 h1.1 hA (fun M1 r1 t1 f1 => ?_))
  have e9 : M1 202 9 = g 9 := by rw [r1]; exact tak_o (by omega)
  refine b_X9_bottleIt_6 L (by rw [e9]; omega) (s_bounded (by decide) ?_)
  rw [e9]
  have eb : (if g 9 + n < 0 then 0 else if 999999 < g 9 + n then 999999 else g 9 + n) = bnd (g 9 + n) 0 999999 := rfl
  rw [eb]
  generalize hV : bnd (g 9 + n) 0 999999 = V
  have e42 : up M1 202 9 V 200 42 = M 200 42 := by rw [up_na (by decide), f1 _ _ (by decide) (by decide)]
  have e43 : up M1 202 9 V 200 43 = M 200 43 := by rw [up_na (by decide), f1 _ _ (by decide) (by decide)]
  have er : ∀ x y, up (up (up M1 202 9 V) 200 42 x) 200 43 y 202 = botG g c n := fun x y => by
    funext i
    rw [up_na (by decide), up_na (by decide), up_g, r1]
    unfold botG; rw [hV]
  have ef : ∀ x y a i, ¬ (a = 202 ∨ a = 221 ∨ (a = 200 ∧ (i = 42 ∨ i = 43))) → up (up (up M1 202 9 V) 200 42 x) 200 43 y a i = M a i := fun x y a i q => by
    by_cases ea : a = 200
    · rw [up_ni (by omega), up_ni (by omega), up_na (by omega), f1 a i (by omega) (by omega)]
    · rw [up_na ea, up_na ea, up_na (by omega), f1 a i (by omega) (by omega)]
  refine b_X9_bottleIt_30 L (lo202 L) (by rw [e42, l202]; omega) ?_ ?_
  · rw [e42, e43]
    intro hle
    refine b_X9_bottleIt_54 L (k _ (er _ _) (ef _ _) (by rw [up_ni (by decide), up_s]) ?_)
    rw [up_s, up_ni (by decide), e43, if_neg (by omega)]
  · rw [e42, e43]
    intro hlt
    refine b_X9_bottleIt_50 L (k _ (er _ _) (ef _ _) (by rw [up_ni (by decide), up_s]) ?_)
    rw [up_s, if_pos hlt]
/-- cells that a passing year of the reference writes -/
def FrP (M M' : mMem) : Prop := ∀ a i, ¬ (a = 202 ∨ a = 220 ∨ a = 218 ∨ (a = 200 ∧ (i = 34 ∨ i = 38 ∨ i = 39 ∨ i = 40))) → M' a i = M a i
set_option maxHeartbeats 1000000 in
theorem s_passIt (L : Lay S) {g : Int → Int} (hg : M 202 = g) (ok : okS g) (h20 : M 200 20 = 0 ∨ M 200 20 = 1) (hT : ForM g T) (h5 : g 5 < 2000) (k : ∀ M', M' 202 = passG T g → FrP M M' → Q (some (vI (passL T g))) S M') : e_X9_passIt (d + 9) S M Q := by
  have hn := ok.n
  have hy := ok.y
  refine b_X9_passIt_0 ?_
  have key := for_up (W := fun i => ∀ (M' : mMem) (u3 u4 u5 u6 : mV), M' 202 = pG T g i → FrP M M' → WP PR (d + 9) 214 4 [vA 200, vI (pL T g i), vI i, u3, u4, u5, u6] [] S M' Q) (lo := 0) (hi := g 0) hn.1 ?_ ?_
  · exact key M vU vU vU vU hg (fun _ _ _ => rfl)
  · intro M' u3 u4 u5 u6 r1 f1
    have e0 : M' 202 0 = g 0 := by rw [r1]; exact pG_o T g hn.1 hn.2 0 (by decide)
    have e5 : M' 202 5 = g 5 := by rw [r1]; exact pG_o T g hn.1 hn.2 5 (by decide)
    refine b_X9_passIt_4 L (fun _ => b_X9_passIt_162 L (by rw [e5]; omega) (k _ ?_ (fun a i q => ?_))) (fun q => absurd q (by omega))
    · rw [up_g, e5, r1]; rfl
    · rw [up_na (by omega)]; exact f1 a i q
  · intro c h0 h1 ih M' u3 u4 u5 u6 r1 f1
    have hc8 : 0 ≤ c ∧ c < 8 := by omega
    have okp : okS (pG T g c) := pG_ok ok h0 (by omega)
    have eg := pG_s T g h0
    have el := pL_s T g h0
    have hpl := pL_bd (T := T) ok h0 (by omega)
    have hTp : ForM (pG T g c) T := hT.congr (pG_o T g h0 (by omega) 4 (by decide)) (fun i q => pG_o T g h0 (by omega) i (by omega))
    have e0 : M' 202 0 = g 0 := by rw [r1]; exact pG_o T g h0 (by omega) 0 (by decide)
    generalize hr : pG T g c = r at r1 okp eg el hTp
    have hl := los_bd T r c
    have hlo2 := loss_bd okp hc8 hl
    have hal := okp.all hc8
    refine b_X9_passIt_4 L (fun q => absurd q (by omega)) (fun _ => b_X9_passIt_14 L (s_losesOf L (by rw [r1]; exact okp) (by rw [f1 200 20 (by decide)]; exact h20) (by rw [r1]; exact hTp) hc8 (fun M2 f2 => ?_)))
    rw [r1]
    generalize hk : losT T r c = kk at hl hlo2 eg el
    have r2 : M2 202 = r := by rw [f2.row, r1]
    refine b_X9_passIt_19 (by omega) ?_
    refine Eq.mp (congrArg (fun m => WP PR (d + 9) 214 32 [vA 200, vI (pL T g c), vI c, vI kk, vI (10 + 20 * c), vI 0, u6] [] S m Q) (fw_0 M2 202 (fun x => lfG r c kk (x - 10 - 20 * c)) (10 + 20 * c))) ?_
    have key2 := for_up (W := fun i => ∀ u6, WP PR (d + 9) 214 32 [vA 200, vI (pL T g c + sm (leG r c kk) i), vI c, vI kk, vI (10 + 20 * c), vI i, u6] [] S (fw M2 202 (fun x => lfG r c kk (x - 10 - 20 * c)) (10 + 20 * c) i) Q) (lo := 0) (hi := 20) (by decide) ?_ ?_
    · have := key2 u6
      rw [sm_0, Int.add_zero] at this; exact this
    · intro u6
      generalize hB : fw M2 202 (fun x => lfG r c kk (x - 10 - 20 * c)) (10 + 20 * c) 20 = B
      have rB : ∀ a, 0 ≤ a → a < 20 → B 202 (10 + 20 * c + a) = lfG r c kk a := fun a q0 q1 => by
        rw [← hB, fw_i (by omega)]
        show lfG r c kk (10 + 20 * c + a - 10 - 20 * c) = _
        congr 1; omega
      have b18 := le_bd okp hc8 hl (a := 18) (by decide)
      have b19 := le_bd okp hc8 hl (a := 19) (by decide)
      have d18 := okp.D (10 + 20 * c + 18) (by omega) (by omega)
      have d19 := okp.D (10 + 20 * c + 19) (by omega) (by omega)
      have l18 : lfG r c kk 18 = r (10 + 20 * c + 18) - leG r c kk 18 := rfl
      have l19 : lfG r c kk 19 = r (10 + 20 * c + 19) - leG r c kk 19 := rfl
      have e19 := rB 19 (by decide) (by decide)
      have e18 : B 202 (10 + 20 * c + 19 - 1) = lfG r c kk 18 := by
        have := rB 18 (by decide) (by decide)
        rw [show 10 + 20 * c + 19 - 1 = 10 + 20 * c + 18 by omega]; exact this
      have etl : sm (leG r c kk) 20 = lossG r c kk := rfl
      refine b_X9_passIt_32 (fun _ => b_X9_passIt_86 L (by rw [e19, e18]; omega) ?_) (fun h => absurd h (by decide))
      rw [e19, e18]
      have eU : up B 202 (10 + 20 * c + 19) (lfG r c kk 19 + lfG r c kk 18) = fw B 202 (fun x => grF r c kk (x - 10 - 20 * c)) (10 + 20 * c + 18 + 1) (19 - 18) := by
        have e1 := fw_dn (M := B) (a := 202) (f := fun x => grF r c kk (x - 10 - 20 * c)) (lo := 10 + 20 * c + 19) (n := 0) (v := lfG r c kk 19 + lfG r c kk 18) (by decide) (by
          show _ = grF r c kk (10 + 20 * c + 19 - 10 - 20 * c)
          rw [show 10 + 20 * c + 19 - 10 - 20 * c = 19 by omega]
          unfold grF; rw [if_neg (by decide), if_pos rfl]; omega)
        rw [fw_0] at e1
        rw [e1]; congr 1; omega
      rw [eU]
      refine for_dn (W := fun a => WP PR (d + 9) 214 115 [vA 200, vI (pL T g c + sm (leG r c kk) 20), vI c, vI kk, vI (10 + 20 * c), vI a, u6] [] S (fw B 202 (fun x => grF r c kk (x - 10 - 20 * c)) (10 + 20 * c + a + 1) (19 - a)) Q) (lo := 0) (hi := 18) (by decide) ?_ ?_
      · refine b_X9_passIt_115 (fun _ => b_X9_passIt_148 L (by omega) ?_) (fun h => absurd h (by decide))
        have e1 := fw_dn (M := B) (a := 202) (f := fun x => grF r c kk (x - 10 - 20 * c)) (lo := 10 + 20 * c) (n := 19) (v := 0) (by decide) (by
          show _ = grF r c kk (10 + 20 * c - 10 - 20 * c)
          rw [show 10 + 20 * c - 10 - 20 * c = 0 by omega]; rfl)
        rw [Int.add_zero, Int.sub_zero, e1, etl, ← el]
        refine ih _ _ _ _ _ ?_ (fun a i q => ?_)
        · rw [eg, fw_g, ← hB, fw_g, r2]
          unfold growG segG
          funext i; unfold fwr
          by_cases hi : 10 + 20 * c ≤ i ∧ i < 10 + 20 * c + 20
          · rw [if_pos (by omega), if_pos hi]
          · rw [if_neg (by omega), if_neg hi, if_neg hi]
        · rw [fw_na (by omega), ← hB, fw_na (by omega), f2 a i (by omega)]; exact f1 a i q
      · intro a q0 q1 ih2
        have ev : fw B 202 (fun x => grF r c kk (x - 10 - 20 * c)) (10 + 20 * c + a + 1) (19 - a) 202 (10 + 20 * c + a - 1) = lfG r c kk (a - 1) := by
          rw [fw_o (by omega), show 10 + 20 * c + a - 1 = 10 + 20 * c + (a - 1) by omega]; exact rB (a - 1) (by omega) (by omega)
        refine b_X9_passIt_115 (fun h => absurd h (by omega)) (fun _ => b_X9_passIt_120 L (by omega) ?_)
        rw [ev, fw_dn (by omega) (by
          show _ = grF r c kk (10 + 20 * c + a - 10 - 20 * c)
          rw [show 10 + 20 * c + a - 10 - 20 * c = a by omega]
          unfold grF; rw [if_neg (by omega), if_neg (by omega)])]
        rw [show 10 + 20 * c + (a - 1) + 1 = 10 + 20 * c + a by omega, show 19 - (a - 1) = 19 - a + 1 by omega] at ih2
        exact ih2
    · intro i q0 q1 ih2 u6
      have ed : fw M2 202 (fun x => lfG r c kk (x - 10 - 20 * c)) (10 + 20 * c) i 202 (10 + 20 * c + i) = r (10 + 20 * c + i) := by rw [fw_o (by omega), r2]
      have b1 := le_bd okp hc8 hl (a := i) ⟨q0, q1⟩
      have b5 : (r (10 + 20 * c + i) * kk).tdiv 1000 = leG r c kk i := rfl
      have d1 := okp.D (10 + 20 * c + i) (by omega) (by omega)
      have es := sm_s (leG r c kk) q0
      have p1 : 0 ≤ sm (leG r c kk) i := sm_nn q0 (fun a p0 p1 => (le_bd okp hc8 hl ⟨p0, by omega⟩).2.2.1)
      have p2 : sm (leG r c kk) (i + 1) ≤ lossG r c kk := sm_mono (by omega) (by omega) (fun a p0 p1 => (le_bd okp hc8 hl ⟨p0, p1⟩).2.2.1)
      refine b_X9_passIt_32 (fun h => absurd h (by omega)) (fun _ => b_X9_passIt_39 L ?_ ?_)
      · rw [ed, b5, w32_id (by omega)]; omega
      · rw [ed, b5, w32_id (by omega), Int.add_assoc, ← es, fw_up q0 (by
          show _ = lfG r c kk (10 + 20 * c + i - 10 - 20 * c)
          rw [show 10 + 20 * c + i - 10 - 20 * c = i by omega]; rfl)]
        exact ih2 _
theorem s_lossOf (L : Lay S) {g : Int → Int} (hg : M 202 = g) (ok : okS g) (h20 : M 200 20 = 0 ∨ M 200 20 = 1) (hT : ForM g T) {c : Int} (hc : 0 ≤ c ∧ c < 8) (k : ∀ M', FrL M M' → Q (some (vI (lossG g c (losT T g c)))) S M') : e_X9_lossOf (d + 9) c S M Q := by
  have hl := los_bd T g c
  have hlo2 := loss_bd ok hc hl
  have hal := ok.all hc
  refine b_X9_lossOf_0 L (s_losesOf L (by rw [hg]; exact ok) h20 (by rw [hg]; exact hT) hc (fun M2 f2 => b_X9_lossOf_5 ?_))
  rw [hg]
  have r2 : M2 202 = g := by rw [f2.row, hg]
  generalize hk : losT T g c = kk at hl hlo2 k
  refine for_up (W := fun i => WP PR (d + 9) 213 11 [vA 200, vI c, vI kk, vI (sm (leG g c kk) i), vI i] [] S M2 Q) (lo := 0) (hi := 20) (by decide) ?_ ?_
  · exact b_X9_lossOf_11 (fun _ => b_X9_lossOf_43 (k M2 f2)) (fun h => absurd h (by decide))
  · intro i q0 q1 ih2
    have b1 := le_bd ok hc hl (a := i) ⟨q0, q1⟩
    have b5 : (g (10 + 20 * c + i) * kk).tdiv 1000 = leG g c kk i := rfl
    have d1 := ok.D (10 + 20 * c + i) (by omega) (by omega)
    have es := sm_s (leG g c kk) q0
    have p1 : 0 ≤ sm (leG g c kk) i := sm_nn q0 (fun a p0 p1 => (le_bd ok hc hl ⟨p0, by omega⟩).2.2.1)
    have p2 : sm (leG g c kk) (i + 1) ≤ lossG g c kk := sm_mono (by omega) (by omega) (fun a p0 p1 => (le_bd ok hc hl ⟨p0, p1⟩).2.2.1)
    refine b_X9_lossOf_11 (fun h => absurd h (by omega)) (fun _ => b_X9_lossOf_18 L (s_dropsOf L hc ⟨q0, q1⟩ ?_))
    rw [r2]
    refine b_X9_lossOf_26 ?_ ?_
    · rw [b5, w32_id (by omega)]; omega
    · rw [b5, w32_id (by omega), ← es]; exact ih2
end MX
