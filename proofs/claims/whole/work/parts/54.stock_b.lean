/-! The class's stock, second piece: what is written. -/
theorem sm20 (f : Int → Int) : sm f 20 = f 0 + f 1 + f 2 + f 3 + f 4 + f 5 + f 6 + f 7 + f 8 + f 9 + f 10 + f 11 + f 12 + f 13 + f 14 + f 15 + f 16 + f 17 + f 18 + f 19 := by
  show (((((((((((((((((((((0 : Int) + f 0) + f 1) + f 2) + f 3) + f 4) + f 5) + f 6) + f 7) + f 8) + f 9) + f 10) + f 11) + f 12) + f 13) + f 14) + f 15) + f 16) + f 17) + f 18) + f 19) = _
  rw [Int.zero_add]
def addG (g : Int → Int) (c n : Int) : Int → Int := segG g c (fun a => g (10 + 20 * c + a) + (if a = 0 then 1000 * n else 0))
theorem add_sum (g : Int → Int) (c n : Int) : sm (fun a => g (10 + 20 * c + a) + (if a = 0 then 1000 * n else 0)) 20 = allG g c + 1000 * n := by
  unfold allG; rw [sm_add _ _ (by decide), sm20 (fun a => if a = 0 then 1000 * n else 0)]; simp
theorem add_yr (g : Int → Int) (c n : Int) : sm (fun a => a * (g (10 + 20 * c + a) + (if a = 0 then 1000 * n else 0))) 20 = yrG g c := by
  unfold yrG; exact sm_congr (by decide) (fun a h0 h1 => by by_cases h : a = 0; rw [h]; simp; rw [if_neg h, Int.add_zero])
theorem add_ok {g : Int → Int} (ok : okS g) {c n : Int} (hc : 0 ≤ c ∧ c < 8) (hn : 0 ≤ n) (hA : allG g c + 1000 * n ≤ 1000 * g (178 + c)) : okS (addG g c n) := by
  refine seg_ok ok hc (fun a h0 h1 => ?_) (by rw [add_sum]; exact hA)
  have := ok.nn (10 + 20 * c + a) (by omega) (by omega)
  by_cases h : a = 0
  · rw [if_pos h]; omega
  · rw [if_neg h]; omega
def putG (g : Int → Int) (c : Int) (t : Int → Int) : Int → Int := segG g c (fun a => g (10 + 20 * c + a) + t a)
theorem put_sum (g : Int → Int) (c : Int) (t : Int → Int) : sm (fun a => g (10 + 20 * c + a) + t a) 20 = allG g c + sm t 20 := by
  unfold allG; rw [sm_add _ _ (by decide)]
theorem put_yr (g : Int → Int) (c : Int) (t : Int → Int) : sm (fun a => a * (g (10 + 20 * c + a) + t a)) 20 = yrG g c + sm (fun a => a * t a) 20 := by
  unfold yrG; rw [← sm_add _ _ (by decide)]; exact sm_congr (by decide) (fun a _ _ => Int.mul_add _ _ _)
theorem put_ok {g : Int → Int} (ok : okS g) {c : Int} {t : Int → Int} (hc : 0 ≤ c ∧ c < 8) (ht : ∀ a, 0 ≤ a → a < 20 → 0 ≤ t a) (hA : allG g c + sm t 20 ≤ 1000 * g (178 + c)) : okS (putG g c t) := by
  refine seg_ok ok hc (fun a h0 h1 => ?_) (by rw [put_sum]; exact hA)
  have := ok.nn (10 + 20 * c + a) (by omega) (by omega)
  have := ht a h0 h1
  omega
/-- a year's loss of one age, of a cask; what is left; a year older -/
def leG (g : Int → Int) (c k a : Int) : Int := (g (10 + 20 * c + a) * k).tdiv 1000
def lossG (g : Int → Int) (c k : Int) : Int := sm (leG g c k) 20
def lfG (g : Int → Int) (c k a : Int) : Int := g (10 + 20 * c + a) - leG g c k a
def grF (g : Int → Int) (c k a : Int) : Int := if a = 0 then 0 else if a = 19 then lfG g c k 18 + lfG g c k 19 else lfG g c k (a - 1)
def growG (g : Int → Int) (c k : Int) : Int → Int := segG g c (grF g c k)
section GR
variable {g : Int → Int} {c k : Int}
theorem le_bd (ok : okS g) (hc : 0 ≤ c ∧ c < 8) (hk : 0 ≤ k ∧ k ≤ 99) {a : Int} (ha : 0 ≤ a ∧ a < 20) : 0 ≤ g (10 + 20 * c + a) * k ∧ g (10 + 20 * c + a) * k ≤ 98901000 ∧ 0 ≤ leG g c k a ∧ leG g c k a ≤ g (10 + 20 * c + a) := by
  have h1 := ok.D (10 + 20 * c + a) (by omega) (by omega)
  have h2 : 0 ≤ g (10 + 20 * c + a) * k := Int.mul_nonneg h1.1 hk.1
  have h3 : g (10 + 20 * c + a) * k ≤ 999000 * 99 := Int.mul_le_mul h1.2 hk.2 hk.1 (by decide)
  have h4 := div_bd (y := 1000) (k := g (10 + 20 * c + a)) h2 (by decide) (Int.mul_le_mul_of_nonneg_left (by omega) h1.1)
  exact ⟨h2, by omega, h4.1, h4.2⟩
theorem loss_bd (ok : okS g) (hc : 0 ≤ c ∧ c < 8) (hk : 0 ≤ k ∧ k ≤ 99) : 0 ≤ lossG g c k ∧ lossG g c k ≤ allG g c :=
  ⟨sm_nn (by decide) (fun a h0 h1 => (le_bd ok hc hk ⟨h0, h1⟩).2.2.1), sm_le (by decide) (fun a h0 h1 => (le_bd ok hc hk ⟨h0, h1⟩).2.2.2)⟩
theorem gr_sum : sm (grF g c k) 20 = allG g c - lossG g c k := by
  unfold allG lossG
  rw [← sm_sub _ _ (by decide), sm20, sm20]
  simp [grF, lfG]; omega
theorem gr_yr : sm (fun a => a * grF g c k a) 20 = sm (fun a => (if 19 < a + 1 then 19 else a + 1) * lfG g c k a) 20 := by
  rw [sm20, sm20]
  simp [grF]; omega
theorem gr_nn (ok : okS g) (hc : 0 ≤ c ∧ c < 8) (hk : 0 ≤ k ∧ k ≤ 99) {a : Int} (ha : 0 ≤ a ∧ a < 20) : 0 ≤ grF g c k a := by
  unfold grF lfG
  split
  · omega
  · split
    · have h1 := le_bd ok hc hk (a := 18) (by omega)
      have h2 := le_bd ok hc hk (a := 19) (by omega)
      omega
    · have h1 := le_bd ok hc hk (a := a - 1) (by omega)
      omega
theorem grow_ok (ok : okS g) (hc : 0 ≤ c ∧ c < 8) (hk : 0 ≤ k ∧ k ≤ 99) : okS (growG g c k) := by
  refine seg_ok ok hc (fun a h0 h1 => gr_nn ok hc hk ⟨h0, h1⟩) ?_
  rw [gr_sum]
  have := loss_bd ok hc hk
  have := ok.cap hc
  omega
end GR
/-- a new cask -/
def newG (g : Int → Int) (t z : Int) : Int → Int := upr (upr (upr (segG g (g 0) (fun _ => 0)) (170 + g 0) t) (178 + g 0) z) 0 (g 0 + 1)
section CB
variable {d : Nat} {S : mSh} {M : mMem} {Q : Option mV → mSh → mMem → Prop} {g : Int → Int} {s : Int}
theorem c_addNew (hs : Stk S s) (h : StkR g s M) (ok : okS g) {c n : Int} (hc : 0 ≤ c ∧ c < g 0) (hn : 0 ≤ n) (hA : allG g c + 1000 * n ≤ 1000 * g (178 + c)) (k : ∀ M', StkR (addG g c n) s M' → FrS s M M' → Q none S M') : e_X4_addNew (d + 1) s c n S M Q := by
  have h0 := ok.n
  have hc8 : 0 ≤ c ∧ c < 8 := by omega
  refine b_X4_addNew_0 hs (c_has hs h (fun _ => b_X4_addNew_5 (fun e => absurd e (by decide)) (fun _ => ?_)) (fun e => absurd hc e))
  have h1 := ok.all hc8
  have h2 := ok.z hc8
  have h3 := ok.nn (10 + 20 * c + 0) (by omega) (by omega)
  have h4 := ok.one hc8 (a := 0) (by omega)
  have e5 : M (s + 5) (c * 20) = g (10 + 20 * c + 0) := by have := h.dd hc8 (a := 0) (by omega); rwa [Int.add_zero] at this
  have e3 := h.a hc8
  refine b_X4_addNew_8 hs (by rw [e5, e3]; omega) (k _ ?_ ?_)
  · refine seg_R h hc8 (fun i => ?_) (fun i => ?_) (fun i => ?_) (fun i => ?_) (fun i q0 q1 q2 => ?_) (fun i q0 q1 q2 => ?_) ?_ ?_ (fun i q0 q1 q2 => ?_) (fun a q0 q1 => ?_)
    · rw [up_na (by omega), up_na (by omega)]
    · rw [up_na (by omega), up_na (by omega)]
    · rw [up_na (by omega), up_na (by omega)]
    · rw [up_na (by omega), up_na (by omega)]
    · rw [up_ni q2, up_na (by omega)]
    · rw [up_na (by omega), up_na (by omega)]
    · rw [up_s, e3, add_sum]; omega
    · rw [up_na (by omega), up_na (by omega), h.y hc8, add_yr]
    · rw [up_na (by omega), up_ni (by omega)]
    · rw [up_na (by omega)]
      by_cases ha : a = 0
      · rw [ha, Int.add_zero, up_s, e5, if_pos rfl]; omega
      · rw [up_ni (by omega), if_neg ha, h.dd hc8 ⟨q0, q1⟩, Int.add_zero]
  · intro a i ha
    rw [up_na (by omega), up_na (by omega)]
theorem c_add (hs : Stk S s) (h : StkR g s M) (ok : okS g) {t z : Int} (hn : g 0 < 8) (k : ∀ M', StkR (newG g t z) s M' → FrS s M M' → Q (some (vI (g 0))) S M') : e_X4_add d s t z S M Q := by
  have h0 := ok.n
  have en := h.n
  refine b_X4_add_0 hs (fun _ => ?_) (fun e => absurd e (by omega))
  refine b_X4_add_11 hs (by omega) ?_
  rw [en]
  generalize hM1 : up (up (up (up (up M s 6 (g 0 + 1)) (s + 1) (g 0) t) (s + 2) (g 0) z) (s + 3) (g 0) 0) (s + 4) (g 0) 0 = M1
  refine Eq.mp (congrArg (fun m => WP PR d 44 57 [vA s, vI t, vI z, vI (g 0), vI 0] [] S m Q) (fw_0 M1 (s + 5) (fun _ => 0) (g 0 * 20))) ?_
  refine for_up (W := fun i => WP PR d 44 57 [vA s, vI t, vI z, vI (g 0), vI i] [] S (fw M1 (s + 5) (fun _ => 0) (g 0 * 20) i) Q) (lo := 0) (hi := 20) (by decide) ?_ ?_
  · refine b_X4_add_57 (fun _ => b_X4_add_83 (k _ ?_ ?_)) (fun h => absurd h (by decide))
    · have key : StkR (segG g (g 0) (fun _ => 0)) s (up (up (up (fw M1 (s + 5) (fun _ => 0) (g 0 * 20) 20) s 6 (g 0)) (s + 1) (g 0) (g (170 + g 0))) (s + 2) (g 0) (g (178 + g 0))) := by
        refine seg_R h (by omega) (fun i => ?_) (fun i => ?_) (fun i => ?_) (fun i => ?_) (fun i q0 q1 q2 => ?_) (fun i q0 q1 q2 => ?_) ?_ ?_ (fun i q0 q1 q2 => ?_) (fun a q0 q1 => ?_)
        · rw [up_na (by omega), up_na (by omega)]
          by_cases hi : i = 6
          · rw [hi, up_s, en]
          · rw [up_ni hi, fw_na (by omega), ← hM1, up_na (by omega), up_na (by omega), up_na (by omega), up_na (by omega), up_ni hi]
        · rw [up_na (by omega)]
          by_cases hi : i = g 0
          · rw [hi, up_s, h.t (by omega)]
          · rw [up_ni hi, up_na (by omega), fw_na (by omega), ← hM1, up_na (by omega), up_na (by omega), up_na (by omega), up_ni hi, up_na (by omega)]
        · by_cases hi : i = g 0
          · rw [hi, up_s, h.z (by omega)]
          · rw [up_ni hi, up_na (by omega), up_na (by omega), fw_na (by omega), ← hM1, up_na (by omega), up_na (by omega), up_ni hi, up_na (by omega), up_na (by omega)]
        · rw [up_na (by omega), up_na (by omega), up_na (by omega), fw_na (by omega), ← hM1, up_na (by omega), up_na (by omega), up_na (by omega), up_na (by omega), up_na (by omega)]
        · rw [up_na (by omega), up_na (by omega), up_na (by omega), fw_na (by omega), ← hM1, up_na (by omega), up_ni q2, up_na (by omega), up_na (by omega), up_na (by omega)]
        · rw [up_na (by omega), up_na (by omega), up_na (by omega), fw_na (by omega), ← hM1, up_ni q2, up_na (by omega), up_na (by omega), up_na (by omega), up_na (by omega)]
        · rw [up_na (by omega), up_na (by omega), up_na (by omega), fw_na (by omega), ← hM1, up_na (by omega), up_s, sm20]; rfl
        · rw [up_na (by omega), up_na (by omega), up_na (by omega), fw_na (by omega), ← hM1, up_s, sm20]; rfl
        · rw [up_na (by omega), up_na (by omega), up_na (by omega), fw_o (by omega), ← hM1, up_na (by omega), up_na (by omega), up_na (by omega), up_na (by omega), up_na (by omega)]
        · rw [up_na (by omega), up_na (by omega), up_na (by omega), fw_i (by omega)]
      generalize hg : segG g (g 0) (fun _ => 0) = g1 at key
      have e9 : g1 9 = g 9 := by rw [← hg]; exact seg_o (by omega)
      have ealln : ∀ c', 0 ≤ c' → allG (upr (upr (upr g1 (170 + g 0) t) (178 + g 0) z) 0 (g 0 + 1)) c' = allG g1 c' ∨ 8 ≤ c' := fun c' hc' => by
        by_cases h8 : 8 ≤ c'
        · exact Or.inr h8
        · exact Or.inl (allG_congr (fun a q0 q1 => by rw [upr_n (by omega), upr_n (by omega), upr_n (by omega)]))
      unfold newG
      rw [hg]
      refine ⟨?_, ?_, fun c q0 q1 => ⟨?_, ?_, ?_, ?_⟩, fun i q0 q1 => ?_, fun t q0 q1 => ?_⟩
      · rw [upr_s, fw_na (by omega), ← hM1, up_na (by omega), up_na (by omega), up_na (by omega), up_na (by omega), up_s]
      · have := key.b
        rw [up_na (by omega), up_na (by omega), up_ni (by decide)] at this
        rw [upr_n (by omega), upr_n (by omega), upr_n (by omega)]; exact this
      · by_cases hcc : c = g 0
        · rw [hcc, upr_n (by omega), upr_n (by omega), upr_s, fw_na (by omega), ← hM1, up_na (by omega), up_na (by omega), up_na (by omega), up_s]
        · have := key.t (c := c) ⟨q0, q1⟩
          rw [up_na (by omega), up_ni hcc, up_na (by omega)] at this
          rw [upr_n (by omega), upr_n (by omega), upr_n (by omega)]; exact this
      · by_cases hcc : c = g 0
        · rw [hcc, upr_n (by omega), upr_s, fw_na (by omega), ← hM1, up_na (by omega), up_na (by omega), up_s]
        · have := key.z (c := c) ⟨q0, q1⟩
          rw [up_ni hcc, up_na (by omega), up_na (by omega)] at this
          rw [upr_n (by omega), upr_n (by omega), upr_n (by omega)]; exact this
      · have := key.a (c := c) ⟨q0, q1⟩
        rw [up_na (by omega), up_na (by omega), up_na (by omega)] at this
        rw [this]; exact (allG_congr (fun a q0 q1 => by rw [upr_n (by omega), upr_n (by omega), upr_n (by omega)])).symm
      · have := key.y (c := c) ⟨q0, q1⟩
        rw [up_na (by omega), up_na (by omega), up_na (by omega)] at this
        rw [this]; exact (yrG_congr (fun a q0 q1 => by rw [upr_n (by omega), upr_n (by omega), upr_n (by omega)])).symm
      · have := key.d (i := i) ⟨q0, q1⟩
        rw [up_na (by omega), up_na (by omega), up_na (by omega)] at this
        rw [upr_n (by omega), upr_n (by omega), upr_n (by omega)]; exact this
      · have := key.e (t := t) ⟨q0, q1⟩
        rw [up_na (by omega), up_na (by omega), up_na (by omega)] at this
        rw [upr_n (by omega), upr_n (by omega), upr_n (by omega)]; exact this
    · intro a i ha
      rw [fw_na (by omega), ← hM1, up_na (by omega), up_na (by omega), up_na (by omega), up_na (by omega), up_na (by omega)]
  · intro i h0 h1 ih
    refine b_X4_add_57 (fun h => absurd h (by omega)) (fun _ => b_X4_add_64 hs (by omega) ?_)
    rw [fw_up h0 rfl]; exact ih
theorem c_lossOf (hs : Stk S s) (h : StkR g s M) (ok : okS g) {c k : Int} (hc : 0 ≤ c ∧ c < 8) (hk : 0 ≤ k ∧ k ≤ 99) (kk : Q (some (vI (lossG g c k))) S M) : e_X4_lossOf d s c k S M Q := by
  have hall := ok.all hc
  have hl := loss_bd ok hc hk
  refine b_X4_lossOf_0 (for_up (W := fun i => WP PR d 53 5 [vA s, vI c, vI k, vI (sm (leG g c k) i), vI i] [] S M Q) (lo := 0) (hi := 20) (by decide) ?_ ?_)
  · exact b_X4_lossOf_5 (fun _ => b_X4_lossOf_39 kk) (fun h => absurd h (by decide))
  · intro i h0 h1 ih
    have e := sm_s (leG g c k) h0
    have ed := h.dd hc (a := i) ⟨h0, h1⟩
    have b1 := le_bd ok hc hk (a := i) ⟨h0, h1⟩
    have b2 : 0 ≤ sm (leG g c k) i := sm_nn h0 (fun a q0 q1 => (le_bd ok hc hk ⟨q0, by omega⟩).2.2.1)
    have b3 : sm (leG g c k) i ≤ sm (leG g c k) 20 := sm_mono h0 (by omega) (fun a q0 q1 => (le_bd ok hc hk ⟨q0, by omega⟩).2.2.1)
    have b4 : sm (leG g c k) 20 = lossG g c k := rfl
    have b5 : (g (10 + 20 * c + i) * k).tdiv 1000 = leG g c k i := rfl
    have b6 := ok.one hc (a := i) ⟨h0, h1⟩
    refine b_X4_lossOf_5 (fun h => absurd h (by omega)) (fun _ => b_X4_lossOf_12 hs (by rw [ed, b5]; omega) ?_)
    rw [ed, b5, ← e]; exact ih
end CB
