/-! The reference's methods, first piece: small ones, what is read off the row. -/
def allG (g : Int → Int) (c : Int) : Int := sm (fun a => g (10 + 20 * c + a)) 20
def wyG (g : Int → Int) (c : Int) : Int := sm (fun a => 1000 * a * g (10 + 20 * c + a)) 20
def meanG (g : Int → Int) (c : Int) : Int := if allG g c = 0 then -1 else (wyG g c).tdiv (allG g c)
def wmG (g : Int → Int) (c : Int) : Int := if allG g c = 0 then -1 else ((wyG g c).tdiv (allG g c)).tdiv 1000
def oldG (g : Int → Int) (c a : Int) : Int := allG g c - sm (fun a => g (10 + 20 * c + a)) a
def labG (g : Int → Int) (c : Int) : Int := if allG g c ≤ 0 then -1 else lasI (fun a => decide (allG g c * g 8 ≤ 100 * oldG g c a)) 20
def roomG (g : Int → Int) (c : Int) : Int := 1000 * g (178 + c) - allG g c
def okD (g : Int → Int) : Prop := ∀ i, 10 ≤ i → i < 170 → 0 ≤ g i ∧ g i ≤ 999000
theorem allG_bd {g : Int → Int} (h : okD g) {c : Int} (hc : 0 ≤ c ∧ c < 8) : 0 ≤ allG g c ∧ allG g c ≤ 19980000 :=
  sm_bd (B := 999000) (n := 20) (by decide) (fun a h0 h1 => h _ (by omega) (by omega))
theorem smG_bd {g : Int → Int} (h : okD g) {c i : Int} (hc : 0 ≤ c ∧ c < 8) (hi : 0 ≤ i ∧ i ≤ 20) : 0 ≤ sm (fun a => g (10 + 20 * c + a)) i ∧ sm (fun a => g (10 + 20 * c + a)) i ≤ allG g c :=
  ⟨sm_nn hi.1 (fun a h0 h1 => (h _ (by omega) (by omega)).1), sm_mono hi.1 hi.2 (fun a h0 h1 => (h _ (by omega) (by omega)).1)⟩
theorem wy_bd {g : Int → Int} (h : okD g) {c i : Int} (hc : 0 ≤ c ∧ c < 8) (hi : 0 ≤ i ∧ i ≤ 20) : 0 ≤ sm (fun a => 1000 * a * g (10 + 20 * c + a)) i ∧ sm (fun a => 1000 * a * g (10 + 20 * c + a)) i ≤ i * 18981000000 :=
  sm_bd hi.1 (fun a h0 h1 => by
    have h2 := h (10 + 20 * c + a) (by omega) (by omega)
    refine ⟨Int.mul_nonneg (by omega) h2.1, ?_⟩
    have : 1000 * a * g (10 + 20 * c + a) ≤ 19000 * 999000 := Int.mul_le_mul (by omega) h2.2 h2.1 (by omega)
    omega)
theorem wy_le {g : Int → Int} (h : okD g) {c : Int} (hc : 0 ≤ c ∧ c < 8) : 0 ≤ wyG g c ∧ wyG g c ≤ 19000 * allG g c := by
  refine ⟨(wy_bd h hc (i := 20) (by omega)).1, ?_⟩
  unfold wyG allG
  rw [← sm_mul 19000 _ (by decide)]
  refine sm_le (by decide) (fun a h0 h1 => ?_)
  have h2 := h (10 + 20 * c + a) (by omega) (by omega)
  exact Int.mul_le_mul_of_nonneg_right (by omega) h2.1
theorem div_bd {x y k : Int} (hx : 0 ≤ x) (hy : 0 < y) (h : x ≤ k * y) : 0 ≤ x.tdiv y ∧ x.tdiv y ≤ k := by
  rw [Int.tdiv_eq_ediv_of_nonneg hx]
  exact ⟨Int.ediv_nonneg hx (by omega), by
    have : x / y ≤ (k * y) / y := Int.ediv_le_ediv hy h
    rwa [Int.mul_ediv_cancel _ (by omega)] at this⟩
theorem mean_bd {g : Int → Int} (h : okD g) {c : Int} (hc : 0 ≤ c ∧ c < 8) (hz : ¬ allG g c = 0) : 0 ≤ (wyG g c).tdiv (allG g c) ∧ (wyG g c).tdiv (allG g c) ≤ 19000 := by
  have h1 := allG_bd h hc
  have h2 := wy_le h hc
  exact div_bd h2.1 (by omega) h2.2
section MA
variable {d : Nat} {S : mSh} {M : mMem} {Q : Option mV → mSh → mMem → Prop}
theorem s_in {v lo hi : Int} (k1 : lo ≤ v ∧ v ≤ hi → Q (some (vI 1)) S M) (k0 : ¬ (lo ≤ v ∧ v ≤ hi) → Q (some (vI 0)) S M) : e_X9_in d v lo hi S M Q :=
  b_X9_in_0 (fun h => b_X9_in_17 (k0 (by omega))) (fun h => b_X9_in_6 (fun h2 => b_X9_in_17 (k0 (by omega))) (fun h2 => b_X9_in_13 (k1 ⟨h, h2⟩)))
theorem s_bounded {v lo hi : Int} (hr : R32 lo ∧ R32 hi) (k : Q (some (vI (if v < lo then lo else if hi < v then hi else v))) S M) : e_X9_bounded d v lo hi S M Q := by
  refine b_X9_bounded_0 (fun h => b_X9_bounded_11 (fun h2 => b_X9_bounded_22 ?_) (fun h2 => b_X9_bounded_18 ?_)) (fun h => b_X9_bounded_7 ?_)
  · rw [if_neg (by omega), if_neg (by omega)] at k; rw [w32_id (by omega)]; exact k
  · rw [if_neg (by omega), if_pos h2] at k; exact k
  · rw [if_pos h] at k; exact k
def tellM (M : mMem) (v : Int) : mMem := if v < 0 then up (up M 200 1 v) 201 (-v) (M 201 (-v) + 1) else up M 200 1 0
theorem s_tell (L : Lay S) {v : Int} (hv : -7 < v) (hr : v < 0 → R32 (M 201 (-v) + 1)) (k : Q (some (vI v)) S (tellM M v)) : e_X9_tell d v S M Q := by
  unfold tellM at k
  refine b_X9_tell_0 (fun h => b_X9_tell_9 L (fun _ => b_X9_tell_28 ?_) (fun h2 => absurd h2 (by omega))) (fun h => b_X9_tell_5 L (fun h2 => absurd h2 (by omega)) (fun _ => ?_))
  · rw [if_neg (by omega)] at k; exact k
  · rw [if_pos h] at k
    have e : up M 200 1 v 201 (-v) = M 201 (-v) := up_na (by decide)
    refine b_X9_tell_17 L ⟨by omega, by omega, ?_⟩ ?_
    · rw [e]; exact hr h
    · rw [e]; exact k
def lastM (M : mMem) (v : Int) : mMem := tellM (up M 200 8 (if v < 0 then M 200 8 else 0)) v
theorem s_lasting (L : Lay S) {v : Int} (hv : -7 < v) (hr : v < 0 → R32 (M 201 (-v) + 1)) (k : Q (some (vI v)) S (lastM M v)) : e_X9_lasting (d + 1) v S M Q := by
  unfold lastM at k
  refine b_X9_lasting_0 (fun h => b_X9_lasting_12 L (s_tell L hv (fun q => absurd q (by omega)) (b_X9_lasting_21 ?_))) (fun h => b_X9_lasting_5 L (s_tell L hv (fun q => ?_) (b_X9_lasting_21 ?_)))
  · rw [if_neg (by omega)] at k; exact k
  · rw [up_na (by decide)]; exact hr h
  · rw [if_pos h] at k; exact k
def keepM (M : mMem) (k : Int) : mMem := fw M 205 (fun i => M 202 (5 + (i - 165 * k))) (165 * k) 165
theorem s_keepAll (L : Lay S) {k : Int} (hk : 0 ≤ k ∧ k < 18) (kk : Q none S (keepM M k)) : e_X9_keepAll d k S M Q := by
  refine b_X9_keepAll_0 ?_
  refine Eq.mp (congrArg (fun m => WP PR d 138 2 [vA 200, vI k, vI 0] [] S m Q) (fw_0 M 205 (fun i => M 202 (5 + (i - 165 * k))) (165 * k))) ?_
  refine for_up (W := fun i => WP PR d 138 2 [vA 200, vI k, vI i] [] S (fw M 205 (fun i => M 202 (5 + (i - 165 * k))) (165 * k) i) Q) (lo := 0) (hi := 165) (by decide) ?_ ?_
  · exact b_X9_keepAll_2 (fun _ => b_X9_keepAll_35 kk) (fun h => absurd h (by decide))
  · intro i h0 h1 ih
    refine b_X9_keepAll_2 (fun h => absurd h (by omega)) (fun _ => b_X9_keepAll_9 L (by omega) ?_)
    rw [fw_up h0 (by rw [fw_na (by decide)]; congr 1; omega)]; exact ih
def putM (M : mMem) (k : Int) : mMem := fw M 202 (fun i => M 205 (165 * k + (i - 5))) 5 165
theorem s_putBack (L : Lay S) {k : Int} (hk : 0 ≤ k ∧ k < 18) (kk : Q none S (putM M k)) : e_X9_putBack d k S M Q := by
  refine b_X9_putBack_0 ?_
  refine Eq.mp (congrArg (fun m => WP PR d 139 2 [vA 200, vI k, vI 0] [] S m Q) (fw_0 M 202 (fun i => M 205 (165 * k + (i - 5))) 5)) ?_
  refine for_up (W := fun i => WP PR d 139 2 [vA 200, vI k, vI i] [] S (fw M 202 (fun i => M 205 (165 * k + (i - 5))) 5 i) Q) (lo := 0) (hi := 165) (by decide) ?_ ?_
  · exact b_X9_putBack_2 (fun _ => b_X9_putBack_35 kk) (fun h => absurd h (by decide))
  · intro i h0 h1 ih
    refine b_X9_putBack_2 (fun h => absurd h (by omega)) (fun _ => b_X9_putBack_9 L (by omega) ?_)
    rw [fw_up h0 (by rw [fw_na (by decide)]; congr 1; omega)]; exact ih
def shfM (M : mMem) : mMem := up (fw (fw M 205 (fun i => M 205 (i + 165)) 0 2475) 206 (fun i => M 206 (i + 1)) 0 15) 200 8 15
def remM (M : mMem) (s : Int) : mMem := if M 200 8 = 16 then up (up (keepM (shfM M) 15) 206 15 s) 200 8 16 else up (up (keepM M (M 200 8)) 206 (M 200 8) s) 200 8 (M 200 8 + 1)
theorem keepM_na {M : mMem} {k a i : Int} (h : a ≠ 205) : keepM M k a i = M a i := fw_na h
theorem s_remember (L : Lay S) {s : Int} (hn : 0 ≤ M 200 8 ∧ M 200 8 ≤ 16) (kk : Q none S (remM M s)) : e_X9_remember (d + 1) s S M Q := by
  unfold remM at kk
  refine b_X9_remember_0 L (fun h => ?_) (fun h => ?_)
  · rw [if_neg h] at kk
    refine b_X9_remember_78 L (s_keepAll L (by omega) ?_)
    have e : keepM M (M 200 8) 200 8 = M 200 8 := keepM_na (by decide)
    refine b_X9_remember_86 L (by rw [e]; omega) ?_
    rw [e]; exact kk
  · rw [if_pos h] at kk
    refine b_X9_remember_9 ?_
    refine Eq.mp (congrArg (fun m => WP PR (d + 1) 140 11 [vA 200, vI s, vI 0] [] S m Q) (fw_0 M 205 (fun i => M 205 (i + 165)) 0)) ?_
    refine for_up (W := fun i => WP PR (d + 1) 140 11 [vA 200, vI s, vI i] [] S (fw M 205 (fun i => M 205 (i + 165)) 0 i) Q) (lo := 0) (hi := 2475) (by decide) ?_ ?_
    · refine b_X9_remember_11 (fun _ => b_X9_remember_40 ?_) (fun h => absurd h (by decide))
      generalize hM1 : fw M 205 (fun i => M 205 (i + 165)) 0 2475 = M1
      have e6 : ∀ i, M 206 i = M1 206 i := fun i => by rw [← hM1, fw_na (by decide)]
      refine Eq.mp (congrArg (fun m => WP PR (d + 1) 140 42 [vA 200, vI s, vI 0] [] S m Q) (fw_0 M1 206 (fun i => M 206 (i + 1)) 0)) ?_
      refine for_up (W := fun i => WP PR (d + 1) 140 42 [vA 200, vI s, vI i] [] S (fw M1 206 (fun i => M 206 (i + 1)) 0 i) Q) (lo := 0) (hi := 15) (by decide) ?_ ?_
      · refine b_X9_remember_42 (fun _ => ?_) (fun h => absurd h (by decide))
        have e8 : fw M1 206 (fun i => M 206 (i + 1)) 0 15 200 8 = 16 := by rw [fw_na (by decide), ← hM1, fw_na (by decide)]; exact h
        refine b_X9_remember_68 L (by rw [e8]; omega) ?_
        rw [e8]
        have eS : up (fw M1 206 (fun i => M 206 (i + 1)) 0 15) 200 8 15 = shfM M := by rw [← hM1]; rfl
        show WP PR d 138 0 [vA 200, vI 15, vU] [] S (up (fw M1 206 (fun i => M 206 (i + 1)) 0 15) 200 8 15) _
        rw [eS]
        refine s_keepAll L (by omega) ?_
        have e : keepM (shfM M) 15 200 8 = 15 := by rw [keepM_na (by decide)]; exact up_s _ _ _ _
        refine b_X9_remember_86 L (by rw [e]; omega) ?_
        rw [e]; exact kk
      · intro i h0 h1 ih
        refine b_X9_remember_42 (fun h => absurd h (by omega)) (fun _ => b_X9_remember_48 L (by omega) ?_)
        have := fw_up (M := M1) (a := 206) (f := fun i => M 206 (i + 1)) (lo := 0) (n := i) (v := fw M1 206 (fun i => M 206 (i + 1)) 0 i 206 (i + 1)) h0 (by rw [fw_o (by omega), e6]; congr 1; omega)
        rw [Int.zero_add] at this; rw [this]; exact ih
    · intro i h0 h1 ih
      refine b_X9_remember_11 (fun h => absurd h (by omega)) (fun _ => b_X9_remember_18 L (by omega) ?_)
      have := fw_up (M := M) (a := 205) (f := fun i => M 205 (i + 165)) (lo := 0) (n := i) (v := fw M 205 (fun i => M 205 (i + 165)) 0 i 205 (i + 165)) h0 (by rw [fw_o (by omega)]; congr 1; omega)
      rw [Int.zero_add] at this; rw [this]; exact ih
theorem s_isCask (L : Lay S) {c : Int} (h0 : 0 ≤ M 202 0 ∧ M 202 0 ≤ 8) (k1 : 0 ≤ c ∧ c < M 202 0 → Q (some (vI 1)) S M) (k0 : ¬ (0 ≤ c ∧ c < M 202 0) → Q (some (vI 0)) S M) : e_X9_isCask (d + 1) c S M Q :=
  b_X9_isCask_0 L (by omega) (s_in (fun h => b_X9_isCask_15 (Or.inr rfl) (k1 (by omega))) (fun h => b_X9_isCask_15 (Or.inl rfl) (k0 (by omega))))
theorem s_dropsOf (L : Lay S) {c a : Int} (hc : 0 ≤ c ∧ c < 8) (ha : 0 ≤ a ∧ a < 20) (k : Q (some (vI (M 202 (10 + 20 * c + a)))) S M) : e_X9_dropsOf d c a S M Q :=
  b_X9_dropsOf_0 L (by omega) k
theorem s_allOf (L : Lay S) (hD : okD (M 202)) {c : Int} (hc : 0 ≤ c ∧ c < 8) (k : Q (some (vI (allG (M 202) c))) S M) : e_X9_allOf (d + 1) c S M Q := by
  refine b_X9_allOf_0 (for_up (W := fun i => WP PR (d + 1) 146 4 [vA 200, vI c, vI (sm (fun a => M 202 (10 + 20 * c + a)) i), vI i] [] S M Q) (lo := 0) (hi := 20) (by decide) ?_ ?_)
  · exact b_X9_allOf_4 (fun _ => b_X9_allOf_25 k) (fun h => absurd h (by decide))
  · intro i h0 h1 ih
    refine b_X9_allOf_4 (fun h => absurd h (by omega)) (fun _ => b_X9_allOf_10 L (s_dropsOf L hc ⟨h0, h1⟩ ?_))
    have q1 := smG_bd hD hc (i := i) (by omega)
    have q2 := allG_bd hD hc
    have q3 := hD (10 + 20 * c + i) (by omega) (by omega)
    refine b_X9_allOf_17 (by omega) ?_
    have e := sm_s (fun a => M 202 (10 + 20 * c + a)) h0
    rw [e] at ih; exact ih
theorem s_meanOf (L : Lay S) (hD : okD (M 202)) {c : Int} (hc : 0 ≤ c ∧ c < 8) (k : Q (some (vI (meanG (M 202) c))) S M) : e_X9_meanOf (d + 2) c S M Q := by
  have hall := allG_bd hD hc
  refine b_X9_meanOf_0 (for_up (W := fun i => WP PR (d + 2) 147 5 [vA 200, vI c, vL (sm (fun a => 1000 * a * M 202 (10 + 20 * c + a)) i), vU, vI i] [] S M Q) (lo := 0) (hi := 20) (by decide) ?_ ?_)
  · refine b_X9_meanOf_5 (fun _ => b_X9_meanOf_37 L (s_allOf L hD hc ?_)) (fun h => absurd h (by decide))
    unfold meanG at k
    refine b_X9_meanOf_42 (fun hz => ?_) (fun hz => ?_)
    · rw [if_neg hz] at k
      have hm := mean_bd hD hc hz
      refine b_X9_meanOf_53 ⟨hz, ?_⟩ ?_
      · show R64 ((wyG (M 202) c).tdiv (allG (M 202) c)); omega
      · show Q (some (vI (w32 ((wyG (M 202) c).tdiv (allG (M 202) c))))) S M
        rw [w32_id (by omega)]; exact k
    · rw [if_pos hz] at k; exact b_X9_meanOf_49 k
  · intro i h0 h1 ih
    refine b_X9_meanOf_5 (fun h => absurd h (by omega)) (fun _ => b_X9_meanOf_12 L (by omega) (s_dropsOf L hc ⟨h0, h1⟩ ?_))
    have q1 := wy_bd hD hc (i := i) (by omega)
    have q2 := wy_bd hD hc (i := i + 1) (by omega)
    have e := sm_s (fun a => 1000 * a * M 202 (10 + 20 * c + a)) h0
    have q3 := hD (10 + 20 * c + i) (by omega) (by omega)
    rw [e] at ih q2
    refine b_X9_meanOf_27 ⟨?_, ?_, by omega⟩ ih
    · have : 0 ≤ 1000 * i * M 202 (10 + 20 * c + i) := Int.mul_nonneg (by omega) q3.1
      omega
    · omega
theorem s_wholeMean (L : Lay S) (hD : okD (M 202)) {c : Int} (hc : 0 ≤ c ∧ c < 8) (k : Q (some (vI (wmG (M 202) c))) S M) : e_X9_wholeMean (d + 3) c S M Q := by
  refine b_X9_wholeMean_0 L (s_meanOf L hD hc ?_)
  unfold wmG at k
  unfold meanG
  by_cases hz : allG (M 202) c = 0
  · rw [if_pos hz] at k ⊢
    exact b_X9_wholeMean_5 (fun h => absurd rfl h) (fun _ => b_X9_wholeMean_11 k)
  · rw [if_neg hz] at k ⊢
    have hm := mean_bd hD hc hz
    refine b_X9_wholeMean_5 (fun h => b_X9_wholeMean_15 ?_ k) (fun h => absurd h (by omega))
    have := div_bd (x := (wyG (M 202) c).tdiv (allG (M 202) c)) (y := 1000) (k := 19) hm.1 (by decide) (by omega)
    omega
theorem s_olderThan (L : Lay S) (hD : okD (M 202)) {c a : Int} (hc : 0 ≤ c ∧ c < 8) (ha : 0 ≤ a ∧ a ≤ 20) (k : Q (some (vI (oldG (M 202) c a))) S M) : e_X9_olderThan (d + 1) c a S M Q := by
  have hall := allG_bd hD hc
  have ha2 := smG_bd hD hc ha
  have e0 : sm (fun x => M 202 (10 + 20 * c + x)) a - sm (fun x => M 202 (10 + 20 * c + x)) a = 0 := by omega
  refine b_X9_olderThan_0 ?_
  have key := for_up (W := fun i => WP PR (d + 1) 149 5 [vA 200, vI c, vI a, vI (sm (fun x => M 202 (10 + 20 * c + x)) i - sm (fun x => M 202 (10 + 20 * c + x)) a), vI i] [] S M Q) (lo := a) (hi := 20) ha.2 ?_ ?_
  · rw [e0] at key; exact key
  · exact b_X9_olderThan_5 (fun _ => b_X9_olderThan_28 k) (fun h => absurd h (by decide))
  · intro i h0 h1 ih
    refine b_X9_olderThan_5 (fun h => absurd h (by omega)) (fun _ => b_X9_olderThan_12 L (s_dropsOf L hc ⟨by omega, h1⟩ ?_))
    have q1 := smG_bd hD hc (i := i) (by omega)
    have q3 := hD (10 + 20 * c + i) (by omega) (by omega)
    have e := sm_s (fun a => M 202 (10 + 20 * c + a)) (i := i) (by omega)
    have q2 := sm_mono (f := fun x => M 202 (10 + 20 * c + x)) (i := a) (n := i) ha.1 h0 (fun x p0 p1 => (hD _ (by omega) (by omega)).1)
    refine b_X9_olderThan_20 (by omega) ?_
    have e2 : sm (fun x => M 202 (10 + 20 * c + x)) i - sm (fun x => M 202 (10 + 20 * c + x)) a + M 202 (10 + 20 * c + i) = sm (fun x => M 202 (10 + 20 * c + x)) (i + 1) - sm (fun x => M 202 (10 + 20 * c + x)) a := by omega
    rw [e2]; exact ih
theorem s_labelOf (L : Lay S) (hD : okD (M 202)) (h8 : 1 ≤ M 202 8 ∧ M 202 8 ≤ 100) {c : Int} (hc : 0 ≤ c ∧ c < 8) (k : Q (some (vI (labG (M 202) c))) S M) : e_X9_labelOf (d + 2) c S M Q := by
  have hall := allG_bd hD hc
  refine b_X9_labelOf_0 L (s_allOf L hD hc (b_X9_labelOf_5 ?_))
  unfold labG at k
  by_cases hz : allG (M 202) c ≤ 0
  · rw [if_pos hz] at k
    exact b_X9_labelOf_11 (fun h => absurd h (by decide)) (fun _ => b_X9_labelOf_18 (fun _ => b_X9_labelOf_62 k) (fun h => absurd h (by omega)))
  · rw [if_neg hz] at k
    refine for_up (W := fun i => WP PR (d + 2) 150 11 [vA 200, vI c, vI (allG (M 202) c), vI (lasI (fun a => decide (allG (M 202) c * M 202 8 ≤ 100 * oldG (M 202) c a)) i), vI i] [] S M Q) (lo := 0) (hi := 20) (by decide) ?_ ?_
    · exact b_X9_labelOf_11 (fun _ => b_X9_labelOf_62 k) (fun h => absurd h (by decide))
    · intro i h0 h1 ih
      refine b_X9_labelOf_11 (fun h => absurd h (by omega)) (fun _ => b_X9_labelOf_18 (fun h => absurd h hz) (fun _ => b_X9_labelOf_22 L (s_olderThan L hD hc (by omega) ?_)))
      have q1 := smG_bd hD hc (i := i) (by omega)
      have p1 : 0 ≤ allG (M 202) c * M 202 8 := Int.mul_nonneg (by omega) (by omega)
      have p2 : allG (M 202) c * M 202 8 ≤ 19980000 * 100 := Int.mul_le_mul (by omega) (by omega) (by omega) (by omega)
      have p3 : oldG (M 202) c i = allG (M 202) c - sm (fun a => M 202 (10 + 20 * c + a)) i := rfl
      rw [las_s _ h0] at ih
      refine b_X9_labelOf_32 L ⟨by omega, by omega⟩ (fun h => b_X9_labelOf_54 (by omega) ?_) (fun h => b_X9_labelOf_49 (by omega) ?_)
      · rw [if_neg (by simpa using h)] at ih; exact ih
      · rw [if_pos (by simpa using h)] at ih; exact ih
theorem s_roomOf (L : Lay S) (hD : okD (M 202)) {c : Int} (hc : 0 ≤ c ∧ c < 8) (hs : 0 ≤ M 202 (178 + c) ∧ M 202 (178 + c) ≤ 999) (k : Q (some (vI (roomG (M 202) c))) S M) : e_X9_roomOf (d + 2) c S M Q := by
  have hall := allG_bd hD hc
  exact b_X9_roomOf_0 L (by omega) (s_allOf L hD hc (b_X9_roomOf_19 (by omega) k))
end MA
