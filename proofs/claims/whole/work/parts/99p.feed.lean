/-! Public methods, both sides: feed, row. -/
theorem band255 (x : Int) : 0 ≤ band x 255 ∧ band x 255 ≤ 255 := by
  unfold band
  have h1 : (Int32.ofInt x &&& Int32.ofInt 255).toInt = ((Int32.ofInt x).toBitVec &&& (Int32.ofInt 255).toBitVec).toInt := rfl
  have h2 : ((Int32.ofInt x).toBitVec &&& (Int32.ofInt 255).toBitVec).toNat ≤ 255 := by
    rw [BitVec.toNat_and]
    exact Nat.le_trans Nat.and_le_right (by decide)
  rw [h1, BitVec.toInt_eq_toNat_of_lt (by omega)]
  omega
def by4 (x j : Int) : Int := band (bshr x (24 - 8 * j)) 255
def fd (tp : Int → Int) (len x : Int) : Int → Int := fun i => if len ≤ i ∧ i < len + 4 then by4 x (i - len) else tp i
theorem fd_eq {tp tp' : Int → Int} {len x : Int} (h : ∀ i, 0 ≤ i → i < len → tp i = tp' i) : ∀ i, 0 ≤ i → i < len + 4 → fd tp len x i = fd tp' len x i := fun i q0 q1 => by
  unfold fd
  by_cases q : len ≤ i ∧ i < len + 4
  · rw [if_pos q, if_pos q]
  · rw [if_neg q, if_neg q]; exact h i q0 (by omega)
theorem fd_ok {tp : Int → Int} {len x : Int} (h : okBy tp len) (hl : len + 4 ≤ 400) : okBy (fd tp len x) (len + 4) := by
  refine ⟨by have := h.1; omega, fun i q0 q1 => ?_⟩
  unfold fd
  by_cases q : len ≤ i ∧ i < len + 4
  · rw [if_pos q]; exact band255 _
  · rw [if_neg q]; exact h.2 i q0 (by omega)
section FE
variable {n : Int} {d : Nat} {S : mSh} {M M' : mMem} {Q : Option mV → mSh → mMem → Prop}
theorem c_tapeAdd (L : Lay S) {x len : Int} (hl : M 2 1 = len) (hb : 0 ≤ len ∧ len + 4 ≤ 400) (k : ∀ M', M' 2 1 = len + 4 → M' 3 = fd (M 3) len x → (∀ a i, ¬ (a = 3 ∨ (a = 2 ∧ i = 1)) → M' a i = M a i) → Q none S M') : e_X5_add d x S M Q := by
  have l3 := ll3 L
  have key := for_up (W := fun j => ∀ N : mMem, N 2 1 = len + j → (∀ i, N 3 i = if len ≤ i ∧ i < len + j then by4 x (i - len) else M 3 i) → (∀ a i, ¬ (a = 3 ∨ (a = 2 ∧ i = 1)) → N a i = M a i) → WP PR d 57 3 [vA 2, vI x, vI (24 - 8 * j)] [] S N Q) (lo := 0) (hi := 4) (by decide) (fun N e1 e2 f => b_X5_add_3 (fun _ => b_X5_add_51 (k N e1 (funext e2) f)) (fun w => absurd w (by decide))) (fun j j0 j4 ih N e1 e2 f => ?_)
  · exact b_X5_add_0 (key M (by omega) (fun i => by rw [if_neg (by omega)]) (fun _ _ _ => rfl))
  · refine b_X5_add_3 (fun w => absurd w (by omega)) (fun _ => b_X5_add_7 L (fun w => absurd w (by rw [l3]; omega)) (fun _ => b_X5_add_19 L (by omega) ?_))
    rw [show 24 - 8 * j + -8 = 24 - 8 * (j + 1) by omega, e1]
    refine ih _ (by rw [up_s]; omega) (fun i => ?_) (fun a i q => by rw [up2_ne (by omega) (by omega)]; exact f a i q)
    rw [up_na (by decide)]
    by_cases ei : i = len + j
    · rw [ei, up_s, if_pos (by omega)]
      unfold by4
      rw [show len + j - len = j by omega]
    · rw [up_ni ei, e2 i]
      by_cases q : len ≤ i ∧ i < len + j
      · rw [if_pos q, if_pos (by omega)]
      · rw [if_neg q, if_neg (by omega)]
theorem s_four (L : Lay S) {x len : Int} (hl : M 200 13 = len) (hb : 0 ≤ len ∧ len + 4 ≤ 400) (k : ∀ M', M' 200 13 = len + 4 → M' 209 = fd (M 209) len x → (∀ a i, ¬ (a = 209 ∨ (a = 200 ∧ i = 13)) → M' a i = M a i) → Q none S M') : e_X9_four d x S M Q := by
  have key := for_up (W := fun j => ∀ N : mMem, N 200 13 = len + j → (∀ i, N 209 i = if len ≤ i ∧ i < len + j then by4 x (i - len) else M 209 i) → (∀ a i, ¬ (a = 209 ∨ (a = 200 ∧ i = 13)) → N a i = M a i) → WP PR d 159 3 [vA 200, vI x, vI (24 - 8 * j)] [] S N Q) (lo := 0) (hi := 4) (by decide) (fun N e1 e2 f => b_X9_four_3 (fun _ => b_X9_four_39 (k N e1 (funext e2) f)) (fun w => absurd w (by decide))) (fun j j0 j4 ih N e1 e2 f => ?_)
  · exact b_X9_four_0 (key M (by omega) (fun i => by rw [if_neg (by omega)]) (fun _ _ _ => rfl))
  · refine b_X9_four_3 (fun w => absurd w (by omega)) (fun _ => b_X9_four_7 L (by omega) ?_)
    rw [show 24 - 8 * j + -8 = 24 - 8 * (j + 1) by omega, e1]
    refine ih _ (by rw [up_s]; omega) (fun i => ?_) (fun a i q => by rw [up2_ne (by omega) (by omega)]; exact f a i q)
    rw [up_na (by decide)]
    by_cases ei : i = len + j
    · rw [ei, up_s, if_pos (by omega)]
      unfold by4
      rw [show len + j - len = j by omega]
    · rw [up_ni ei, e2 i]
      by_cases q : len ≤ i ∧ i < len + j
      · rw [if_pos q, if_pos (by omega)]
      · rw [if_neg q, if_neg (by omega)]
/-- the words told are as they were; the tape is another one -/
theorem CP.tp (h : CP n S M) (hn : n < 512) (f : ∀ a i, ¬ (a = 3 ∨ (a = 2 ∧ i = 1) ∨ a = 209 ∨ (a = 200 ∧ (i = 0 ∨ i = 13))) → M' a i = M a i) (tap : TapR M') : CP (n + 1) S M' := by
  obtain ⟨w1, w2, w3, w4⟩ := h.wrd
  have nn := h.nn
  refine h.all (m := n + 1) (by omega) (GrS.rf S) (fun a i q => f a i (by omega)) (h.sta.cg (GrS.rf S) (fun i _ _ => f _ _ (by omega)) (fun a i _ _ => f _ _ (by omega)) (fun a i _ _ => f _ _ (by omega))) ?_ tap ⟨?_, ?_, ?_, ?_⟩ (h.rf.cg (by omega) (fun i => f _ _ (by omega)) (fun i => f _ _ (by omega))) (fun k q0 q1 => by rw [f _ _ (by omega)]; exact h.lef.1 k q0 q1) (h.lb.cg (fun i q => f _ _ (by omega))) h.sz.le
  · obtain ⟨hh, hi⟩ := h.his
    exact ⟨hh, hi.cg (f _ _ (by omega)) (fun i _ _ => f _ _ (by omega)) (fun i => f _ _ (by omega)) (fun a i _ _ => f _ _ (by omega)) (fun i _ => f _ _ (by omega))⟩
  · rw [f 1 11 (by omega), f 200 1 (by omega)]; exact w1
  · rw [f 1 12 (by omega), f 200 11 (by omega)]; exact w2
  · rw [f 1 13 (by omega), f 200 18 (by omega)]; exact w3
  · rw [f 1 14 (by omega), f 200 48 (by omega)]; exact w4
theorem t_feed {a b c e w : Int} : TwoI n (e_X8_feed (d + 1) a b c e w) (e_X9_feed (d + 1) a b c e w) := fun S M h hn => by
  have L := h.lay
  obtain ⟨t1, t2, t3⟩ := h.tap
  have lb := t1.1
  refine b_X8_feed_0 L (by omega) (fun q => b_X8_feed_18 L (c_tapeAdd L rfl (by omega) (fun M1 x1 y1 f1 => b_X8_feed_26 L (c_tapeAdd L x1 (by omega) (fun M2 x2 y2 f2 => b_X8_feed_34 L (c_tapeAdd L x2 (by omega) (fun M3 x3 y3 f3 => b_X8_feed_42 L (c_tapeAdd L x3 (by omega) (fun M4 x4 y4 f4 => b_X8_feed_51 L (c_tapeAdd L x4 (by omega) (fun M5 x5 y5 f5 => b_X8_feed_60 L ⟨_, rfl, ?_⟩))))))))))) (fun q => b_X8_feed_16 ⟨_, rfl, b_X9_feed_0 L (by omega) (fun w => absurd w (by omega)) (fun _ => b_X9_feed_18 ⟨rfl, h.th hn⟩)⟩)
  have f15 : ∀ a i, ¬ (a = 3 ∨ (a = 2 ∧ i = 1)) → M5 a i = M a i := fun a i q => by rw [f5 a i q, f4 a i q, f3 a i q, f2 a i q, f1 a i q]
  have g0 : M5 200 13 = M 200 13 := f15 _ _ (by omega)
  have z0 : up M5 200 0 0 200 13 = M 200 13 := by rw [up1_ne (by omega)]; exact g0
  refine b_X9_feed_0 L (by omega) (fun _ => b_X9_feed_20 L (s_four L z0 (by omega) (fun N1 u1 v1 p1 => b_X9_feed_25 L (s_four L u1 (by omega) (fun N2 u2 v2 p2 => b_X9_feed_30 L (s_four L u2 (by omega) (fun N3 u3 v3 p3 => b_X9_feed_35 L (s_four L u3 (by omega) (fun N4 u4 v4 p4 => b_X9_feed_41 L (s_four L u4 (by omega) (fun N5 u5 v5 p5 => b_X9_feed_47 L ⟨by rw [x5, u5, t3], ?_⟩))))))))))) (fun w => absurd w (by omega))
  have p15 : ∀ a i, ¬ (a = 209 ∨ (a = 200 ∧ (i = 13 ∨ i = 0))) → N5 a i = M5 a i := fun a i q => by rw [p5 a i (by omega), p4 a i (by omega), p3 a i (by omega), p2 a i (by omega), p1 a i (by omega), up1_ne (by omega)]
  have e9 : up M5 200 0 0 209 = M 209 := funext fun i => by rw [up1_ne (by omega), f15 _ _ (by omega)]
  rw [e9] at v1
  rw [t3] at y1 y2 y3 y4 y5
  rw [v1] at v2; rw [v2] at v3; rw [v3] at v4; rw [v4] at v5
  rw [y1] at y2; rw [y2] at y3; rw [y3] at y4; rw [y4] at y5
  refine h.tp hn (fun a i q => by rw [p15 a i (by omega), f15 a i (by omega)]) ⟨?_, fun i q0 q1 => ?_, ?_⟩
  · rw [u5, v5]
    exact fd_ok (fd_ok (fd_ok (fd_ok (fd_ok t1 (by omega)) (by omega)) (by omega)) (by omega)) (by omega)
  · rw [u5] at q1
    rw [v5, p15 _ _ (by omega), y5]
    exact fd_eq (fd_eq (fd_eq (fd_eq (fd_eq t2)))) i q0 q1
  · rw [p15 _ _ (by omega), x5, u5, t3]
end FE
abbrev RWt : Type := (Int → Int) × Int × Int
def rwC (tp : Int → Int) (len at' : Int) (g : Int → Int) : Prop := at' + 2 < len ∧ tp (at' + 2) ≤ tp (at' + 1) ∧ tp at' ≤ 4 ∧ 1 ≤ tp (at' + 1) ∧ g 0 < 8
def rwG (tp : Int → Int) (at' : Int) (g : Int → Int) : Int → Int := addG (newG g (tp at') (tp (at' + 1))) (g 0) (tp (at' + 2))
noncomputable def rwS (tp : Int → Int) (len at' : Int) (σ : RWt) : RWt := match Classical.propDecidable (rwC tp len at' σ.1) with
  | .isTrue _ => (rwG tp at' σ.1, σ.2.1 + 1, σ.2.2)
  | .isFalse _ => (σ.1, σ.2.1, σ.2.2 + 1)
theorem rwS_y {tp : Int → Int} {len at' : Int} {σ : RWt} (h : rwC tp len at' σ.1) : rwS tp len at' σ = (rwG tp at' σ.1, σ.2.1 + 1, σ.2.2) := by
  unfold rwS
  cases Classical.propDecidable (rwC tp len at' σ.1) with
  | isTrue _ => rfl
  | isFalse q => exact absurd h q
theorem rwS_n {tp : Int → Int} {len at' : Int} {σ : RWt} (h : ¬ rwC tp len at' σ.1) : rwS tp len at' σ = (σ.1, σ.2.1, σ.2.2 + 1) := by
  unfold rwS
  cases Classical.propDecidable (rwC tp len at' σ.1) with
  | isTrue q => exact absurd q h
  | isFalse _ => rfl
noncomputable def rwN (tp : Int → Int) (len : Int) (σ : RWt) : Nat → RWt
  | 0 => σ
  | k + 1 => rwS tp len (3 * (k : Int)) (rwN tp len σ k)
noncomputable def rwI (tp : Int → Int) (len : Int) (σ : RWt) (k : Int) : RWt := rwN tp len σ k.toNat
theorem rwI_s (tp : Int → Int) (len : Int) (σ : RWt) {k : Int} (h : 0 ≤ k) : rwI tp len σ (k + 1) = rwS tp len (3 * k) (rwI tp len σ k) := by
  unfold rwI
  rw [show (k + 1).toNat = k.toNat + 1 by omega]
  show rwS tp len (3 * (k.toNat : Int)) _ = _
  rw [show ((k.toNat : Nat) : Int) = k by omega]
theorem new_o {g : Int → Int} {t z i : Int} (q0 : i ≠ 0) (q1 : i ≠ 170 + g 0) (q2 : i ≠ 178 + g 0) (q3 : i < 10 + 20 * g 0 ∨ 30 + 20 * g 0 ≤ i) : newG g t z i = g i := by unfold newG; rw [upr_n q0, upr_n q2, upr_n q1, seg_o q3]
theorem new_z {g : Int → Int} {t z a : Int} (hn : 0 ≤ g 0 ∧ g 0 < 8) (ha : 0 ≤ a ∧ a < 20) : newG g t z (10 + 20 * g 0 + a) = 0 := by unfold newG; rw [upr_n (by omega), upr_n (by omega), upr_n (by omega), seg_i ha]
theorem new_all {g : Int → Int} {t z : Int} (hn : 0 ≤ g 0 ∧ g 0 < 8) : allG (newG g t z) (g 0) = 0 := by
  have : allG (newG g t z) (g 0) = sm (fun _ => 0) 20 := sm_congr (by decide) (fun a p0 p1 => new_z hn ⟨p0, p1⟩)
  rw [this, sm20]; rfl
theorem new_sz {g : Int → Int} {t z : Int} (hn : 0 ≤ g 0) : newG g t z (178 + g 0) = z := by unfold newG; rw [upr_n (by omega), upr_s]
theorem rwG_up {tp : Int → Int} {at' : Int} {g : Int → Int} (hn : 0 ≤ g 0 ∧ g 0 < 8) : rwG tp at' g = upr (newG g (tp at') (tp (at' + 1))) (10 + 20 * g 0) (1000 * tp (at' + 2)) := by
  unfold rwG addG
  funext i
  by_cases q : i < 10 + 20 * g 0 ∨ 30 + 20 * g 0 ≤ i
  · rw [seg_o q, upr_n (by omega)]
  · have e : i = 10 + 20 * g 0 + (i - 10 - 20 * g 0) := by omega
    rw [e, seg_i (by omega), new_z hn (by omega)]
    by_cases q0 : i - 10 - 20 * g 0 = 0
    · rw [if_pos q0, q0, Int.add_zero, upr_s]; omega
    · rw [if_neg q0, upr_n (by omega), new_z hn (by omega)]; rfl
/-- what a row of casks keeps -/
def RwK (g0 : Int → Int) (k : Int) (σ : RWt) : Prop := okS σ.1 ∧ (∀ i, (1 ≤ i ∧ i < 10) ∨ 186 ≤ i → σ.1 i = g0 i) ∧ (0 ≤ σ.2.1 ∧ σ.2.1 ≤ k) ∧ (0 ≤ σ.2.2 ∧ σ.2.2 ≤ k)
theorem rwG_ok {tp : Int → Int} {len at' : Int} {g : Int → Int} (ok : okS g) (hb : okBy tp len) (ha : 0 ≤ at') (h : rwC tp len at' g) : okS (newG g (tp at') (tp (at' + 1))) ∧ okS (rwG tp at' g) ∧ (0 ≤ tp at' ∧ tp at' ≤ 4) ∧ (1 ≤ tp (at' + 1) ∧ tp (at' + 1) ≤ 999) ∧ 0 ≤ tp (at' + 2) ∧ allG (newG g (tp at') (tp (at' + 1))) (g 0) + 1000 * tp (at' + 2) ≤ 1000 * newG g (tp at') (tp (at' + 1)) (178 + g 0) := by
  obtain ⟨h1, h2, h3, h4, h5⟩ := h
  have n0 := ok.n
  have b1 := hb.2 at' ha (by omega)
  have b2 := hb.2 (at' + 1) (by omega) (by omega)
  have b3 := hb.2 (at' + 2) (by omega) (by omega)
  have o1 := new_ok ok h5 (t := tp at') (z := tp (at' + 1)) (by omega) (by omega)
  have hA : allG (newG g (tp at') (tp (at' + 1))) (g 0) + 1000 * tp (at' + 2) ≤ 1000 * newG g (tp at') (tp (at' + 1)) (178 + g 0) := by rw [new_all (by omega), new_sz n0.1]; omega
  exact ⟨o1, add_ok o1 (by omega) b3.1 hA, by omega, by omega, b3.1, hA⟩
theorem RwK.s {g0 : Int → Int} {k : Int} {σ : RWt} {tp : Int → Int} {len : Int} (h : RwK g0 k σ) (hb : okBy tp len) (hk : 0 ≤ k) : RwK g0 (k + 1) (rwS tp len (3 * k) σ) := by
  obtain ⟨h1, h2, h3, h4⟩ := h
  by_cases q : rwC tp len (3 * k) σ.1
  · rw [rwS_y q]
    have n0 := h1.n
    have h5 := q.2.2.2.2
    obtain ⟨o1, o2, -⟩ := rwG_ok h1 hb (by omega) q
    refine ⟨o2, fun i w => ?_, by show 0 ≤ σ.2.1 + 1 ∧ σ.2.1 + 1 ≤ k + 1; omega, by show 0 ≤ σ.2.2 ∧ σ.2.2 ≤ k + 1; omega⟩
    show rwG tp (3 * k) σ.1 i = _
    rw [rwG_up (by omega), upr_n (by omega), new_o (by omega) (by omega) (by omega) (by omega)]
    exact h2 i w
  · rw [rwS_n q]
    exact ⟨h1, h2, by show 0 ≤ σ.2.1 ∧ σ.2.1 ≤ k + 1; omega, by show 0 ≤ σ.2.2 + 1 ∧ σ.2.2 + 1 ≤ k + 1; omega⟩
