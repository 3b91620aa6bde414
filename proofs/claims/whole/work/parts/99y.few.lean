/-! Public methods, both sides: few. -/
def fwF (c : Int) : Nat → Int → Int
  | 0 => fun i => if i = 0 then 1000000000000 else 0
  | m + 1 => fun i => (fwF c m i * (10 - c)).tdiv 10 + (if 0 < i then (fwF c m (i - 1) * c).tdiv 10 else 0)
theorem few_bd {A B c : Int} (hA : 0 ≤ A ∧ A ≤ 1000000000000) (hB : 0 ≤ B ∧ B ≤ 1000000000000) (hc : 0 ≤ c ∧ c ≤ 10) : (0 ≤ A * (10 - c) ∧ A * (10 - c) ≤ 10000000000000) ∧ (0 ≤ B * c ∧ B * c ≤ 10000000000000) ∧ (0 ≤ (A * (10 - c)).tdiv 10 ∧ 0 ≤ (B * c).tdiv 10 ∧ (A * (10 - c)).tdiv 10 + (B * c).tdiv 10 ≤ 1000000000000) := by
  have p0 : 0 ≤ A * (10 - c) := Int.mul_nonneg hA.1 (by omega)
  have r0 : 0 ≤ B * c := Int.mul_nonneg hB.1 hc.1
  have p1 := Int.mul_le_mul_of_nonneg_right hA.2 (show 0 ≤ 10 - c by omega)
  have r1 := Int.mul_le_mul_of_nonneg_right hB.2 hc.1
  rw [Int.tdiv_eq_ediv_of_nonneg p0, Int.tdiv_eq_ediv_of_nonneg r0]
  generalize A * (10 - c) = P at *
  generalize B * c = R at *
  omega
theorem fwF_bd {c : Int} (hc : 0 ≤ c ∧ c ≤ 10) : ∀ (m : Nat) (i : Int), 0 ≤ fwF c m i ∧ fwF c m i ≤ 1000000000000
  | 0, i => by show 0 ≤ (if i = 0 then (1000000000000 : Int) else 0) ∧ (if i = 0 then (1000000000000 : Int) else 0) ≤ 1000000000000; split <;> omega
  | m + 1, i => by
    have b := few_bd (fwF_bd hc m i) (fwF_bd hc m (i - 1)) hc
    show 0 ≤ (fwF c m i * (10 - c)).tdiv 10 + (if 0 < i then (fwF c m (i - 1) * c).tdiv 10 else 0) ∧ (fwF c m i * (10 - c)).tdiv 10 + (if 0 < i then (fwF c m (i - 1) * c).tdiv 10 else 0) ≤ 1000000000000
    split <;> omega
section FW
variable {n : Int} {d : Nat} {S : mSh} {M M' : mMem} {Q : Option mV → mSh → mMem → Prop}
theorem c_few (L : Lay S) {k y c : Int} (hk : 1 ≤ k ∧ k ≤ 20) (hy : 0 ≤ y ∧ y ≤ 99) (hc : 0 ≤ c ∧ c ≤ 10) (e15 : M 15 1 = c) {u3 u4 u5 u6 u7 : mV} (kk : ∀ M', (∀ a i, a ≠ 198 → M' a i = M a i) → Q (some (vL (sm (fwF c y.toNat) k))) S M') : WP PR d 111 24 [vA 1, vI k, vI y, u3, u4, u5, u6, u7] [] S M Q := by
  have l198 := ll198 L
  refine b_X8_few_24 ?_
  have key := for_up (W := fun x => ∀ N : mMem, (∀ i, 0 ≤ i → i < x → N 198 i = fwF c 0 i) → (∀ a i, a ≠ 198 → N a i = M a i) → WP PR d 111 26 [vA 1, vI k, vI y, vI x, u4, u5, u6, u7] [] S N Q) (lo := 0) (hi := 20) (by decide) (fun N eN fN => b_X8_few_26 (fun _ => b_X8_few_55 L ?_) (fun e => absurd e (by decide))) (fun x x0 x7 ih N eN fN => b_X8_few_26 (fun e => absurd e (by omega)) (fun _ => b_X8_few_32 L (fun q => b_X8_few_47 (lo198 L) (by rw [l198]; omega) (ih _ (fun i q0 q1 => ?_) (fun a i q => by rw [up_na q]; exact fN a i q))) (fun q => b_X8_few_41 (lo198 L) (by rw [l198]; omega) (ih _ (fun i q0 q1 => ?_) (fun a i q => by rw [up_na q]; exact fN a i q)))))
  · exact key M (fun i q0 q1 => absurd q1 (by omega)) (fun _ _ _ => rfl)
  · rw [fN 15 1 (by decide), e15]
    -- the bottles
    have key2 := for_up (W := fun m => ∀ (N2 : mMem) u5 u6 u7, (∀ i, 0 ≤ i → i < k → N2 198 i = fwF c m.toNat i) → (∀ a i, a ≠ 198 → N2 a i = M a i) → WP PR d 111 71 [vA 1, vI k, vI y, vI c, vI m, u5, u6, u7] [] S N2 Q) (lo := 0) (hi := y) hy.1 (fun N2 u5 u6 u7 e2 f2 => b_X8_few_71 (fun _ => b_X8_few_153 ?_) (fun e => absurd e (by omega))) (fun m m0 m1 ih N2 u5 u6 u7 e2 f2 => b_X8_few_71 (fun e => absurd e (by omega)) (fun _ => b_X8_few_77 (by omega) ?_))
    · exact key2 N _ _ _ (fun i q0 q1 => eN i q0 (by omega)) fN
    · have key3 := for_up (W := fun x => WP PR d 111 159 [vA 1, vI k, vI y, vI c, vL (sm (fwF c y.toNat) x), vU, vI x, u7] [] S N2 Q) (lo := 0) (hi := k) (by omega) (b_X8_few_159 (fun _ => b_X8_few_183 (kk N2 f2)) (fun e => absurd e (by omega))) (fun x x0 x7 ih => b_X8_few_159 (fun e => absurd e (by omega)) (fun _ => b_X8_few_165 L ?_ ?_))
      · exact key3
      · have sb := sm_bd (f := fwF c y.toNat) (B := 1000000000000) (n := x) x0 (fun a _ _ => fwF_bd hc _ a)
        have fb := fwF_bd hc y.toNat x
        rw [e2 x x0 x7]; omega
      · rw [e2 x x0 x7, ← sm_s _ x0]; exact ih
    · have em : (m + 1).toNat = m.toNat + 1 := by omega
      have key4 := for_dn (W := fun t => ∀ (N3 : mMem) u6 u7, (∀ i, t < i → 0 ≤ i → i < k → N3 198 i = fwF c (m.toNat + 1) i) → (∀ i, 0 ≤ i → i ≤ t → N3 198 i = fwF c m.toNat i) → (∀ a i, a ≠ 198 → N3 a i = M a i) → WP PR d 111 82 [vA 1, vI k, vI y, vI c, vI m, vI t, u6, u7] [] S N3 Q) (lo := -1) (hi := k - 1) (by omega) (fun N3 u6 u7 a1 a2 f3 => b_X8_few_82 (fun _ => b_X8_few_147 (by omega) (ih N3 _ _ _ (fun i q0 q1 => by rw [em]; exact a1 i (by omega) q0 q1) f3)) (fun e => absurd e (by decide))) (fun t t0 t1 ih2 N3 u6 u7 a1 a2 f3 => b_X8_few_82 (fun e => absurd e (by omega)) (fun _ => ?_))
      · exact key4 N2 _ _ (fun i q0 q1 q2 => absurd q2 (by omega)) (fun i q0 q1 => e2 i q0 (by omega)) f2
      · have bt := fwF_bd hc m.toNat t
        have bs := fwF_bd hc m.toNat (t - 1)
        have b := few_bd bt bs hc
        have eT : N3 198 t = fwF c m.toNat t := a2 t (by omega) (Int.le_refl _)
        refine b_X8_few_87 (fun q => b_X8_few_111 L ?_ ?_) (fun q => b_X8_few_92 L ?_ ?_)
        · rw [eT]; omega
        · rw [eT, show t + -1 = t - 1 by omega]
          refine ih2 _ _ _ (fun i q0 q1 q2 => ?_) (fun i q0 q1 => absurd q1 (by omega)) (fun a i q => by rw [up_na q]; exact f3 a i q)
          by_cases ei : i = t
          · rw [ei, up_s]
            show _ = (fwF c m.toNat t * (10 - c)).tdiv 10 + (if 0 < t then (fwF c m.toNat (t - 1) * c).tdiv 10 else 0)
            rw [if_neg (by omega)]
          · rw [up_ni ei]; exact a1 i (by omega) q1 q2
        · have eS : N3 198 (t - 1) = fwF c m.toNat (t - 1) := a2 (t - 1) (by omega) (by omega)
          rw [eT, eS]; omega
        · have eS : N3 198 (t - 1) = fwF c m.toNat (t - 1) := a2 (t - 1) (by omega) (by omega)
          rw [eT, eS, show t + -1 = t - 1 by omega]
          refine ih2 _ _ _ (fun i q0 q1 q2 => ?_) (fun i q0 q1 => by rw [up_ni (by omega)]; exact a2 i q0 (by omega)) (fun a i q => by rw [up_na q]; exact f3 a i q)
          by_cases ei : i = t
          · rw [ei, up_s]
            show _ = (fwF c m.toNat t * (10 - c)).tdiv 10 + (if 0 < t then (fwF c m.toNat (t - 1) * c).tdiv 10 else 0)
            rw [if_pos (by omega)]
          · rw [up_ni ei]; exact a1 i (by omega) q1 q2
  · by_cases ei : i = x
    · rw [ei, up_s]
      show (0 : Int) = if x = 0 then 1000000000000 else 0
      rw [if_neg q]
    · rw [up_ni ei]; exact eN i q0 (by omega)
  · by_cases ei : i = x
    · rw [ei, up_s]
      show (1000000000000 : Int) = if x = 0 then 1000000000000 else 0
      rw [if_pos q]
    · rw [up_ni ei]; exact eN i q0 (by omega)
theorem s_few (L : Lay S) {k y c : Int} (hk : 1 ≤ k ∧ k ≤ 20) (hy : 0 ≤ y ∧ y ≤ 99) (hc : 0 ≤ c ∧ c ≤ 10) (e15 : M 202 6 = c) {u3 u4 u5 u6 u7 : mV} (kk : ∀ M', (∀ a i, a ≠ 224 → M' a i = M a i) → Q (some (vL (sm (fwF c y.toNat) k))) S M') : WP PR d 250 33 [vA 200, vI k, vI y, u3, u4, u5, u6, u7] [] S M Q := by
  have l224 := ll224 L
  refine b_X9_few_33 ?_
  have key := for_up (W := fun x => ∀ N : mMem, (∀ i, 0 ≤ i → i < x → N 224 i = fwF c 0 i) → (∀ a i, a ≠ 224 → N a i = M a i) → WP PR d 250 35 [vA 200, vI k, vI y, vI x, u4, u5, u6, u7] [] S N Q) (lo := 0) (hi := 21) (by decide) (fun N eN fN => b_X9_few_35 (fun _ => b_X9_few_64 L ?_) (fun e => absurd e (by decide))) (fun x x0 x7 ih N eN fN => b_X9_few_35 (fun e => absurd e (by omega)) (fun _ => b_X9_few_41 L (fun q => b_X9_few_56 (lo224 L) (by rw [l224]; omega) (ih _ (fun i q0 q1 => ?_) (fun a i q => by rw [up_na q]; exact fN a i q))) (fun q => b_X9_few_50 (lo224 L) (by rw [l224]; omega) (ih _ (fun i q0 q1 => ?_) (fun a i q => by rw [up_na q]; exact fN a i q)))))
  · exact key M (fun i q0 q1 => absurd q1 (by omega)) (fun _ _ _ => rfl)
  · rw [fN 202 6 (by decide), e15]
    have key2 := for_up (W := fun m => ∀ (N2 : mMem) u5 u6 u7, (∀ i, 0 ≤ i → i < k → N2 224 i = fwF c m.toNat i) → (0 ≤ N2 224 k ∧ N2 224 k ≤ 1000000000000 * m) → (∀ a i, a ≠ 224 → N2 a i = M a i) → WP PR d 250 75 [vA 200, vI k, vI y, vI c, vI m, u5, u6, u7] [] S N2 Q) (lo := 0) (hi := y) hy.1 (fun N2 u5 u6 u7 e2 ek f2 => b_X9_few_75 (fun _ => b_X9_few_152 ?_) (fun e => absurd e (by omega))) (fun m m0 m1 ih N2 u5 u6 u7 e2 ek f2 => b_X9_few_75 (fun e => absurd e (by omega)) (fun _ => b_X9_few_81 (by omega) ?_))
    · refine key2 N _ _ _ (fun i q0 q1 => eN i q0 (by omega)) ?_ fN
      rw [eN k (by omega) (by omega)]
      show 0 ≤ (if k = 0 then (1000000000000 : Int) else 0) ∧ (if k = 0 then (1000000000000 : Int) else 0) ≤ 1000000000000 * 0
      rw [if_neg (by omega)]; omega
    · have key3 := for_up (W := fun x => WP PR d 250 158 [vA 200, vI k, vI y, vI c, vL (sm (fwF c y.toNat) x), vU, vI x, u7] [] S N2 Q) (lo := 0) (hi := k) (by omega) (b_X9_few_158 (fun _ => b_X9_few_182 (kk N2 f2)) (fun e => absurd e (by omega))) (fun x x0 x7 ih => b_X9_few_158 (fun e => absurd e (by omega)) (fun _ => b_X9_few_164 L ?_ ?_))
      · exact key3
      · have sb := sm_bd (f := fwF c y.toNat) (B := 1000000000000) (n := x) x0 (fun a _ _ => fwF_bd hc _ a)
        have fb := fwF_bd hc y.toNat x
        rw [e2 x x0 x7]; omega
      · rw [e2 x x0 x7, ← sm_s _ x0]; exact ih
    · have em : (m + 1).toNat = m.toNat + 1 := by omega
      -- before part t: above t + 1 all is new, at t + 1 what stays, below what was
      have key4 := for_dn (W := fun t => ∀ (N3 : mMem) u6 u7, (∀ i, t + 1 < i → i < k → N3 224 i = fwF c (m.toNat + 1) i) → (t + 1 < k → 0 ≤ t + 1 → N3 224 (t + 1) = (fwF c m.toNat (t + 1) * (10 - c)).tdiv 10) → (∀ i, 0 ≤ i → i ≤ t → N3 224 i = fwF c m.toNat i) → (0 ≤ N3 224 k ∧ N3 224 k ≤ 1000000000000 * m + (if t < k - 1 then 1000000000000 else 0)) → (∀ a i, a ≠ 224 → N3 a i = M a i) → WP PR d 250 86 [vA 200, vI k, vI y, vI c, vI m, vI t, u6, u7] [] S N3 Q) (lo := -1) (hi := k - 1) (by omega) (fun N3 u6 u7 a1 a15 a2 ak f3 => b_X9_few_86 (fun _ => b_X9_few_146 (by omega) (ih N3 _ _ _ (fun i q0 q1 => ?_) ?_ f3)) (fun e => absurd e (by decide))) (fun t t0 t1 ih2 N3 u6 u7 a1 a15 a2 ak f3 => b_X9_few_86 (fun e => absurd e (by omega)) (fun _ => ?_))
      · exact key4 N2 _ _ (fun i q0 q1 => absurd q1 (by omega)) (fun q => absurd q (by omega)) (fun i q0 q1 => e2 i q0 (by omega)) (by rw [if_neg (by omega)]; omega) f2
      · rw [em]
        by_cases ei : i = 0
        · have := a15 (by omega) (by omega)
          rw [ei]
          show N3 224 0 = (fwF c m.toNat 0 * (10 - c)).tdiv 10 + (if (0 : Int) < 0 then (fwF c m.toNat (0 - 1) * c).tdiv 10 else 0)
          rw [if_neg (by decide), Int.add_zero]
          exact this
        · exact a1 i (by omega) q1
      · rw [if_pos (by omega)] at ak; omega
      · have bt := fwF_bd hc m.toNat t
        have bn := fwF_bd hc m.toNat (t + 1)
        have b := few_bd bn bt hc
        have b2 := few_bd bt bt hc
        have eT : N3 224 t = fwF c m.toNat t := a2 t (by omega) (Int.le_refl _)
        have eU : up N3 224 t ((N3 224 t * (10 - c)).tdiv 10) 224 (t + 1) = N3 224 (t + 1) := up_ni (by omega)
        refine b_X9_few_91 L ?_ ?_
        · rw [eU, eT]
          by_cases q : t + 1 < k
          · rw [a15 q (by omega)]; omega
          · have ek' : t + 1 = k := by omega
            rw [ek']
            rw [if_neg (by omega)] at ak
            omega
        · rw [eU, eT, show t + -1 = t - 1 by omega]
          have g : ∀ i, ¬ i = t → ¬ i = t + 1 → up (up N3 224 t ((fwF c m.toNat t * (10 - c)).tdiv 10)) 224 (t + 1) (N3 224 (t + 1) + (fwF c m.toNat t * c).tdiv 10) 224 i = N3 224 i := fun i q0 q1 => by rw [up_ni q1, up_ni q0]
          refine ih2 _ _ _ (fun i q0 q1 => ?_) (fun q0 q1 => ?_) (fun i q0 q1 => by rw [g i (by omega) (by omega)]; exact a2 i q0 (by omega)) ?_ (fun a i q => by rw [up_na q, up_na q]; exact f3 a i q)
          · by_cases ei : i = t + 1
            · rw [ei, up_s, a15 (by omega) (by omega)]
              show _ = (fwF c m.toNat (t + 1) * (10 - c)).tdiv 10 + (if 0 < t + 1 then (fwF c m.toNat (t + 1 - 1) * c).tdiv 10 else 0)
              rw [if_pos (by omega), show t + 1 - 1 = t by omega]
            · rw [g i (by omega) ei]; exact a1 i (by omega) q1
          · rw [show t - 1 + 1 = t by omega, up_ni (by omega), up_s]
          · rw [if_pos (by omega)]
            by_cases q : t + 1 = k
            · rw [← q, up_s]
              rw [← q, if_neg (by omega)] at ak
              omega
            · rw [g k (by omega) (by omega)]
              rw [if_pos (by omega)] at ak
              exact ak
  · by_cases ei : i = x
    · rw [ei, up_s]
      show (0 : Int) = if x = 0 then 1000000000000 else 0
      rw [if_neg q]
    · rw [up_ni ei]; exact eN i q0 (by omega)
  · by_cases ei : i = x
    · rw [ei, up_s]
      show (1000000000000 : Int) = if x = 0 then 1000000000000 else 0
      rw [if_pos q]
    · rw [up_ni ei]; exact eN i q0 (by omega)
theorem t_few {k y : Int} : TwoL n (e_X8_few (d + 1) k y) (e_X9_few (d + 1) k y) := fun S M h hn => by
  have L := h.lay
  have T0 := h.th hn
  have no : ¬ ((1 ≤ k ∧ k ≤ 20) ∧ (0 ≤ y ∧ y ≤ 99)) → e_X9_few (d + 1) k y S M (fun r2 S2 M2 => r2 = some (vL (-1)) ∧ CP (n + 1) S2 M2) := fun q =>
    b_X9_few_0 L (s_in (fun q1 => b_X9_few_14 (fun e => absurd e (by decide)) (fun _ => b_X9_few_17 (s_in (fun q2 => absurd ⟨q1, q2⟩ q) (fun q2 => b_X9_few_26 (fun e => absurd rfl e) (fun _ => b_X9_few_29 ⟨rfl, T0⟩))))) (fun q1 => b_X9_few_14 (fun _ => b_X9_few_29 ⟨rfl, T0⟩) (fun e => absurd rfl e)))
  refine b_X8_few_0 (c_isWithin (fun qk => b_X8_few_7 (fun e => absurd e (by decide)) (fun _ => b_X8_few_10 (c_isWithin (fun qy => b_X8_few_17 (fun _ => c_few L qk qy (c := M 202 6) h.ok.k (h.t (c := 1) (by decide)) (fun M1 f1 => ⟨_, rfl, ?_⟩)) (fun e => absurd e (by decide))) (fun qy => b_X8_few_17 (fun e => absurd rfl e) (fun _ => b_X8_few_20 ⟨_, rfl, no (fun w => qy w.2)⟩))))) (fun qk => b_X8_few_7 (fun _ => b_X8_few_20 ⟨_, rfl, no (fun w => qk w.1)⟩) (fun e => absurd rfl e)))
  refine b_X9_few_0 L (s_in (fun _ => b_X9_few_14 (fun e => absurd e (by decide)) (fun _ => b_X9_few_17 (s_in (fun _ => b_X9_few_26 (fun _ => s_few L qk qy (c := M 202 6) h.ok.k (by rw [up1_ne (by omega), f1 _ _ (by decide)]) (fun M2 f2 => ⟨rfl, ?_⟩)) (fun e => absurd e (by decide))) (fun w => absurd qy w)))) (fun w => absurd qk w))
  have g : ∀ a i, ¬ (a = 198 ∨ a = 224 ∨ (a = 200 ∧ i = 0)) → M2 a i = M a i := fun a i q => by rw [f2 a i (by omega), up1_ne (by omega), f1 a i (by omega)]
  exact h.sc hn (fun a i q => g a i (by omega)) (h.lb.cg (fun i q => g _ _ (by omega)))
end FW
