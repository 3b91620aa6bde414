/-! The class's stock against a row g, first piece: what is read, what is simply written. -/
def yrG (g : Int → Int) (c : Int) : Int := sm (fun a => a * g (10 + 20 * c + a)) 20
theorem wy_yr (g : Int → Int) (c : Int) : wyG g c = 1000 * yrG g c := by
  unfold wyG yrG
  rw [← sm_mul 1000 _ (by decide)]
  exact sm_congr (by decide) (fun a _ _ => by rw [Int.mul_assoc])
/-- what is true of a row of numbers that is a stock -/
def okS (g : Int → Int) : Prop := (0 ≤ g 0 ∧ g 0 ≤ 8) ∧ (∀ i, 10 ≤ i → i < 170 → 0 ≤ g i) ∧ (∀ c, 0 ≤ c → c < 8 → (0 ≤ g (170 + c) ∧ g (170 + c) ≤ 4) ∧ (0 ≤ g (178 + c) ∧ g (178 + c) ≤ 999) ∧ allG g c ≤ 1000 * g (178 + c)) ∧ (0 ≤ g 5 ∧ g 5 ≤ 2000) ∧ (0 ≤ g 6 ∧ g 6 ≤ 10) ∧ (0 ≤ g 7 ∧ g 7 ≤ 9) ∧ (1 ≤ g 8 ∧ g 8 ≤ 100) ∧ (0 ≤ g 9 ∧ g 9 ≤ 999999)
theorem okS.n {g : Int → Int} (h : okS g) : 0 ≤ g 0 ∧ g 0 ≤ 8 := h.1
theorem okS.nn {g : Int → Int} (h : okS g) : ∀ i, 10 ≤ i → i < 170 → 0 ≤ g i := h.2.1
theorem okS.t {g : Int → Int} (h : okS g) {c : Int} (hc : 0 ≤ c ∧ c < 8) : 0 ≤ g (170 + c) ∧ g (170 + c) ≤ 4 := (h.2.2.1 c hc.1 hc.2).1
theorem okS.z {g : Int → Int} (h : okS g) {c : Int} (hc : 0 ≤ c ∧ c < 8) : 0 ≤ g (178 + c) ∧ g (178 + c) ≤ 999 := (h.2.2.1 c hc.1 hc.2).2.1
theorem okS.cap {g : Int → Int} (h : okS g) {c : Int} (hc : 0 ≤ c ∧ c < 8) : allG g c ≤ 1000 * g (178 + c) := (h.2.2.1 c hc.1 hc.2).2.2
theorem okS.y {g : Int → Int} (h : okS g) : 0 ≤ g 5 ∧ g 5 ≤ 2000 := h.2.2.2.1
theorem okS.k {g : Int → Int} (h : okS g) : 0 ≤ g 6 ∧ g 6 ≤ 10 := h.2.2.2.2.1
theorem okS.m {g : Int → Int} (h : okS g) : 0 ≤ g 7 ∧ g 7 ≤ 9 := h.2.2.2.2.2.1
theorem okS.p {g : Int → Int} (h : okS g) : 1 ≤ g 8 ∧ g 8 ≤ 100 := h.2.2.2.2.2.2.1
theorem okS.b {g : Int → Int} (h : okS g) : 0 ≤ g 9 ∧ g 9 ≤ 999999 := h.2.2.2.2.2.2.2
theorem okS.one {g : Int → Int} (h : okS g) {c a : Int} (hc : 0 ≤ c ∧ c < 8) (ha : 0 ≤ a ∧ a < 20) : g (10 + 20 * c + a) ≤ allG g c :=
  sm_one (f := fun a => g (10 + 20 * c + a)) ha.1 ha.2 (fun x h0 h1 => h.nn _ (by omega) (by omega))
theorem okS.D {g : Int → Int} (h : okS g) : okD g := by
  intro i h0 h1
  refine ⟨h.nn i h0 h1, ?_⟩
  have hc : 0 ≤ (i - 10) / 20 ∧ (i - 10) / 20 < 8 := by omega
  have e : 10 + 20 * ((i - 10) / 20) + (i - 10) % 20 = i := by omega
  have h2 := h.one hc (a := (i - 10) % 20) (by omega)
  rw [e] at h2
  have h3 := h.cap hc
  have h4 := h.z hc
  omega
theorem okS.all {g : Int → Int} (h : okS g) {c : Int} (hc : 0 ≤ c ∧ c < 8) : 0 ≤ allG g c ∧ allG g c ≤ 999000 := by
  have h1 := (allG_bd h.D hc).1
  have h3 := h.cap hc
  have h4 := h.z hc
  omega
theorem okS.yr {g : Int → Int} (h : okS g) {c : Int} (hc : 0 ≤ c ∧ c < 8) : 0 ≤ yrG g c ∧ yrG g c ≤ 19 * allG g c := by
  have h1 := wy_le h.D hc
  rw [wy_yr] at h1
  omega
/-- the stock at s is the row g -/
def StkR (g : Int → Int) (s : Int) (M : mMem) : Prop := M s 6 = g 0 ∧ M s 7 = g 9 ∧ (∀ c, 0 ≤ c → c < 8 → M (s + 1) c = g (170 + c) ∧ M (s + 2) c = g (178 + c) ∧ M (s + 3) c = allG g c ∧ M (s + 4) c = yrG g c) ∧ (∀ i, 0 ≤ i → i < 160 → M (s + 5) i = g (10 + i)) ∧ (∀ t, 0 ≤ t → t < 4 → M (s + 6) t = g (5 + t))
section SR
variable {g : Int → Int} {s : Int} {M : mMem}
theorem StkR.n (h : StkR g s M) : M s 6 = g 0 := h.1
theorem StkR.b (h : StkR g s M) : M s 7 = g 9 := h.2.1
theorem StkR.t (h : StkR g s M) {c : Int} (hc : 0 ≤ c ∧ c < 8) : M (s + 1) c = g (170 + c) := (h.2.2.1 c hc.1 hc.2).1
theorem StkR.z (h : StkR g s M) {c : Int} (hc : 0 ≤ c ∧ c < 8) : M (s + 2) c = g (178 + c) := (h.2.2.1 c hc.1 hc.2).2.1
theorem StkR.a (h : StkR g s M) {c : Int} (hc : 0 ≤ c ∧ c < 8) : M (s + 3) c = allG g c := (h.2.2.1 c hc.1 hc.2).2.2.1
theorem StkR.y (h : StkR g s M) {c : Int} (hc : 0 ≤ c ∧ c < 8) : M (s + 4) c = yrG g c := (h.2.2.1 c hc.1 hc.2).2.2.2
theorem StkR.d (h : StkR g s M) {i : Int} (hi : 0 ≤ i ∧ i < 160) : M (s + 5) i = g (10 + i) := h.2.2.2.1 i hi.1 hi.2
theorem StkR.dd (h : StkR g s M) {c a : Int} (hc : 0 ≤ c ∧ c < 8) (ha : 0 ≤ a ∧ a < 20) : M (s + 5) (c * 20 + a) = g (10 + 20 * c + a) := by
  rw [h.d (by omega)]; congr 1; omega
theorem StkR.e (h : StkR g s M) {t : Int} (ht : 0 ≤ t ∧ t < 4) : M (s + 6) t = g (5 + t) := h.2.2.2.2 t ht.1 ht.2
theorem StkR.congr {M' : mMem} (h : StkR g s M) (he : ∀ a i, s ≤ a → a ≤ s + 6 → M' a i = M a i) : StkR g s M' := by
  refine ⟨?_, ?_, fun c h0 h1 => ⟨?_, ?_, ?_, ?_⟩, fun i h0 h1 => ?_, fun t h0 h1 => ?_⟩
  · rw [he _ _ (by omega) (by omega)]; exact h.n
  · rw [he _ _ (by omega) (by omega)]; exact h.b
  · rw [he _ _ (by omega) (by omega)]; exact h.t ⟨h0, h1⟩
  · rw [he _ _ (by omega) (by omega)]; exact h.z ⟨h0, h1⟩
  · rw [he _ _ (by omega) (by omega)]; exact h.a ⟨h0, h1⟩
  · rw [he _ _ (by omega) (by omega)]; exact h.y ⟨h0, h1⟩
  · rw [he _ _ (by omega) (by omega)]; exact h.d ⟨h0, h1⟩
  · rw [he _ _ (by omega) (by omega)]; exact h.e ⟨h0, h1⟩
/-- a row that is alike where a stock looks -/
theorem allG_congr {g' : Int → Int} {c : Int} (he : ∀ a, 0 ≤ a → a < 20 → g' (10 + 20 * c + a) = g (10 + 20 * c + a)) : allG g' c = allG g c := sm_congr (by decide) he
theorem yrG_congr {g' : Int → Int} {c : Int} (he : ∀ a, 0 ≤ a → a < 20 → g' (10 + 20 * c + a) = g (10 + 20 * c + a)) : yrG g' c = yrG g c := sm_congr (by decide) (fun a h0 h1 => by rw [he a h0 h1])
end SR
section CS
variable {d : Nat} {S : mSh} {M : mMem} {Q : Option mV → mSh → mMem → Prop} {g : Int → Int} {s : Int}
theorem c_has (hs : Stk S s) (h : StkR g s M) {c : Int} (k1 : 0 ≤ c ∧ c < g 0 → Q (some (vI 1)) S M) (k0 : ¬ (0 ≤ c ∧ c < g 0) → Q (some (vI 0)) S M) : e_X4_has d s c S M Q := by
  have e := h.n
  exact b_X4_has_0 (fun h => b_X4_has_16 (k0 (by omega))) (fun h => b_X4_has_4 hs (fun h => b_X4_has_16 (k0 (by omega))) (fun h => b_X4_has_12 (k1 (by omega))))
theorem c_isLastYear (hs : Stk S s) (h : StkR g s M) (k1 : 999 ≤ g 5 → Q (some (vI 1)) S M) (k0 : g 5 < 999 → Q (some (vI 0)) S M) : e_X4_isLastYear d s S M Q := by
  have e : M (s + 6) 0 = g 5 := h.e (by omega)
  exact b_X4_isLastYear_0 hs (fun h => b_X4_isLastYear_16 (k0 (by omega))) (fun h => b_X4_isLastYear_12 (k1 (by omega)))
theorem c_measures (hs : Stk S s) (h : StkR g s M) (ok : okS g) {c : Int} (hc : 0 ≤ c ∧ c < 8) (k : Q (some (vI ((allG g c).tdiv 1000))) S M) : e_X4_measures d s c S M Q := by
  have h1 := ok.all hc
  have h2 := div_bd (y := 1000) (k := 999) h1.1 (by decide) (by omega)
  refine b_X4_measures_0 hs ⟨hc, ?_⟩ ?_
  · rw [h.a hc]; omega
  · rw [h.a hc]; exact k
theorem okS.room {g : Int → Int} (ok : okS g) {c : Int} (hc : 0 ≤ c ∧ c < 8) : 0 ≤ roomG g c ∧ roomG g c ≤ 999000 := by
  have h1 := ok.all hc
  have h2 := ok.z hc
  have h3 := ok.cap hc
  unfold roomG; omega
theorem c_roomFor (hs : Stk S s) (h : StkR g s M) (ok : okS g) {c : Int} (hc : 0 ≤ c ∧ c < 8) (k : Q (some (vI ((roomG g c).tdiv 1000))) S M) : e_X4_roomFor d s c S M Q := by
  have h1 := ok.all hc
  have h4 := ok.z hc
  have h3 := ok.room hc
  have h2 := div_bd (y := 1000) (k := 999) h3.1 (by decide) (by omega)
  have e : (M (s + 2) c) * 1000 - M (s + 3) c = roomG g c := by rw [h.a hc, h.z hc]; unfold roomG; omega
  have e2 := h.z hc
  refine b_X4_roomFor_0 hs ⟨hc, by omega, by omega, ?_⟩ ?_
  · rw [e]; omega
  · rw [e]; exact k
theorem c_mean (hs : Stk S s) (h : StkR g s M) (ok : okS g) {c : Int} (hc : 0 ≤ c ∧ c < 8) (k : Q (some (vI (meanG g c))) S M) : e_X4_mean d s c S M Q := by
  have h1 := ok.all hc
  have h2 := ok.yr hc
  have ea := h.a hc
  have ey := h.y hc
  have ew := wy_yr g c
  unfold meanG at k
  refine b_X4_mean_0 hs hc (fun hz => ?_) (fun hz => b_X4_mean_10 ?_)
  · have hz2 : ¬ allG g c = 0 := by omega
    have hm := mean_bd ok.D hc hz2
    have e : (M (s + 4) c * 1000).tdiv (M (s + 3) c) = (wyG g c).tdiv (allG g c) := by rw [ea, ey, ew, Int.mul_comm]
    rw [if_neg hz2] at k
    refine b_X4_mean_14 hs ⟨hc, by omega, by omega, ?_⟩ ?_
    · rw [e]; omega
    · rw [e, w32_id (by omega)]; exact k
  · rw [if_pos (by omega)] at k; exact k
theorem c_asOldAs (hs : Stk S s) (h : StkR g s M) (ok : okS g) {c a : Int} (hc : 0 ≤ c ∧ c < 8) (ha : 0 ≤ a ∧ a ≤ 20) (k : Q (some (vL (oldG g c a))) S M) : e_X4_asOldAs d s c a S M Q := by
  have h1 := ok.all hc
  have hD := ok.D
  refine b_X4_asOldAs_0 ?_
  have key := for_up (W := fun i => WP PR d 49 5 [vA s, vI c, vI a, vL (sm (fun x => g (10 + 20 * c + x)) i - sm (fun x => g (10 + 20 * c + x)) a), vU, vI i] [] S M Q) (lo := a) (hi := 20) ha.2 ?_ ?_
  · rw [Int.sub_self] at key; exact key
  · exact b_X4_asOldAs_5 (fun _ => b_X4_asOldAs_34 k) (fun h => absurd h (by decide))
  · intro i h0 h1 ih
    have q1 := smG_bd hD hc (i := i) (by omega)
    have q0 := smG_bd hD hc (i := a) (by omega)
    have q3 := hD (10 + 20 * c + i) (by omega) (by omega)
    have e := sm_s (fun a => g (10 + 20 * c + a)) (i := i) (by omega)
    have ed := h.dd hc (a := i) (by omega)
    refine b_X4_asOldAs_5 (fun h => absurd h (by omega)) (fun _ => b_X4_asOldAs_12 hs (by rw [ed]; omega) ?_)
    have e2 : sm (fun x => g (10 + 20 * c + x)) i - sm (fun x => g (10 + 20 * c + x)) a + M (s + 5) (c * 20 + i) = sm (fun x => g (10 + 20 * c + x)) (i + 1) - sm (fun x => g (10 + 20 * c + x)) a := by omega
    rw [e2]; exact ih
theorem c_label (hs : Stk S s) (h : StkR g s M) (ok : okS g) {c : Int} (hc : 0 ≤ c ∧ c < 8) (k : Q (some (vI (labG g c))) S M) : e_X4_label d s c S M Q := by
  have h1 := ok.all hc
  have hp := ok.p
  have hD := ok.D
  have ea := h.a hc
  have e8 : M (s + 6) 3 = g 8 := h.e (by omega)
  unfold labG at k
  refine b_X4_label_0 hs hc (fun hz => ?_) (fun hz => b_X4_label_10 ?_)
  · rw [if_neg (by omega)] at k
    generalize hpp : (fun a => decide (allG g c * g 8 ≤ 100 * oldG g c a)) = p at k
    have p1 : 0 ≤ allG g c * g 8 := Int.mul_nonneg (by omega) (by omega)
    have p2 : allG g c * g 8 ≤ 999000 * 100 := Int.mul_le_mul (by omega) (by omega) (by omega) (by omega)
    have p3 : allG g c * g 8 ≤ allG g c * 100 := Int.mul_le_mul_of_nonneg_left (by omega) (by omega)
    refine b_X4_label_12 hs ⟨hc, by rw [ea, e8]; omega⟩ ?_
    rw [ea, e8]
    have key := for_dn (W := fun x => lasI p 20 = lasI p (x + 1) → WP PR d 50 35 [vA s, vI c, vL (allG g c * g 8), vU, vL (oldG g c (x + 1)), vU, vI x] [] S M Q) (lo := 0) (hi := 19) (by decide) ?_ ?_
    · have := key rfl
      have e0 : oldG g c 20 = 0 := Int.sub_self _
      rw [show oldG g c (19 + 1) = 0 from e0] at this
      exact this
    · intro hl
      refine b_X4_label_35 (fun _ => b_X4_label_78 ?_) (fun h => absurd h (by decide))
      have ep : p 0 = true := by
        rw [← hpp]; simp only [decide_eq_true_eq]
        unfold oldG; rw [sm_0]; omega
      rw [hl, las_s p (by decide), if_pos ep] at k
      exact k
    · intro x h0 h1 ih hl
      refine b_X4_label_35 (fun h => absurd h (by omega)) (fun _ => ?_)
      have q1 := smG_bd hD hc (i := x) (by omega)
      have q3 := hD (10 + 20 * c + x) (by omega) (by omega)
      have e := sm_s (fun a => g (10 + 20 * c + a)) (i := x) (by omega)
      have q2 := smG_bd hD hc (i := x + 1) (by omega)
      have ed := h.dd hc (a := x) (by omega)
      have eo : oldG g c (x + 1) + M (s + 5) (c * 20 + x) = oldG g c x := by rw [ed]; unfold oldG; omega
      have eo2 : 0 ≤ oldG g c x ∧ oldG g c x ≤ 999000 := by unfold oldG; omega
      refine b_X4_label_40 hs (by rw [eo]; omega) ?_ ?_
      · rw [eo]
        intro hlt
        refine b_X4_label_72 (by omega) ?_
        have hf : ¬ p x = true := by rw [← hpp]; simp only [decide_eq_true_eq]; omega
        rw [las_s p (by omega), if_neg hf] at hl
        have := ih (by rw [Int.sub_add_cancel]; exact hl)
        rw [Int.sub_add_cancel] at this
        exact this
      · rw [eo]
        intro hle
        refine b_X4_label_69 ?_
        have ht : p x = true := by rw [← hpp]; simp only [decide_eq_true_eq]; omega
        rw [hl, las_s p (by omega), if_pos ht] at k
        exact k
  · rw [if_pos (by omega)] at k; exact k
/-- only the stock's own cells (and the row of what is taken) have changed -/
def FrS (s : Int) (M M' : mMem) : Prop := ∀ a i, (a < s ∨ s + 6 < a) → M' a i = M a i
theorem c_copyFrom {t : Int} (hs : Stk S s) (ht : Stk S t) (hd : s + 7 ≤ t ∨ t + 7 ≤ s) (h : StkR g t M) (k : ∀ M', StkR g s M' → FrS s M M' → Q none S M') : e_X4_copyFrom d s t S M Q := by
  refine b_X4_copyFrom_0 ht hs (k _ ?_ ?_)
  · refine ⟨?_, ?_, fun c h0 h1 => ⟨?_, ?_, ?_, ?_⟩, fun i h0 h1 => ?_, fun t h0 h1 => ?_⟩
    · rw [cpy_na (by omega), cpy_na (by omega), cpy_na (by omega), cpy_na (by omega), cpy_na (by omega), cpy_na (by omega), up_ni (by decide), up_s]; exact h.n
    · rw [cpy_na (by omega), cpy_na (by omega), cpy_na (by omega), cpy_na (by omega), cpy_na (by omega), cpy_na (by omega), up_s, up_na (by omega)]; exact h.b
    · rw [cpy_na (by omega), cpy_na (by omega), cpy_na (by omega), cpy_na (by omega), cpy_na (by omega), cpy_i (by omega), up_na (by omega), up_na (by omega)]; exact h.t ⟨h0, h1⟩
    · rw [cpy_na (by omega), cpy_na (by omega), cpy_na (by omega), cpy_na (by omega), cpy_i (by omega), cpy_na (by omega), up_na (by omega), up_na (by omega)]; exact h.z ⟨h0, h1⟩
    · rw [cpy_na (by omega), cpy_na (by omega), cpy_na (by omega), cpy_i (by omega), cpy_na (by omega), cpy_na (by omega), up_na (by omega), up_na (by omega)]; exact h.a ⟨h0, h1⟩
    · rw [cpy_na (by omega), cpy_na (by omega), cpy_i (by omega), cpy_na (by omega), cpy_na (by omega), cpy_na (by omega), up_na (by omega), up_na (by omega)]; exact h.y ⟨h0, h1⟩
    · rw [cpy_na (by omega), cpy_i (by omega), cpy_na (by omega), cpy_na (by omega), cpy_na (by omega), cpy_na (by omega), up_na (by omega), up_na (by omega)]; exact h.d ⟨h0, h1⟩
    · rw [cpy_i (by omega), cpy_na (by omega), cpy_na (by omega), cpy_na (by omega), cpy_na (by omega), cpy_na (by omega), up_na (by omega), up_na (by omega)]; exact h.e ⟨h0, h1⟩
  · intro a i ha
    rw [cpy_na (by omega), cpy_na (by omega), cpy_na (by omega), cpy_na (by omega), cpy_na (by omega), cpy_na (by omega), up_na (by omega), up_na (by omega)]
end CS
