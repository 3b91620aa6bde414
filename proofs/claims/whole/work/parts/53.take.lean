/-! One cask's drops anew; what is taken out. -/
def segG (g : Int → Int) (c : Int) (f : Int → Int) : Int → Int := fwr g (fun i => f (i - 10 - 20 * c)) (10 + 20 * c) 20
section SG
variable {g : Int → Int} {c : Int} {f : Int → Int}
theorem seg_i {a : Int} (ha : 0 ≤ a ∧ a < 20) : segG g c f (10 + 20 * c + a) = f a := by
  unfold segG; rw [fwr_i (by omega)]; congr 1; omega
theorem seg_o {i : Int} (h : i < 10 + 20 * c ∨ 30 + 20 * c ≤ i) : segG g c f i = g i := by
  unfold segG; exact fwr_o (by omega)
theorem seg_all : allG (segG g c f) c = sm f 20 := sm_congr (by decide) (fun a h0 h1 => seg_i ⟨h0, h1⟩)
theorem seg_yr : yrG (segG g c f) c = sm (fun a => a * f a) 20 := sm_congr (by decide) (fun a h0 h1 => by rw [seg_i ⟨h0, h1⟩])
theorem seg_all' {c' : Int} (h : c' ≠ c) : allG (segG g c f) c' = allG g c' := allG_congr (fun a h0 h1 => seg_o (by omega))
theorem seg_yr' {c' : Int} (h : c' ≠ c) : yrG (segG g c f) c' = yrG g c' := yrG_congr (fun a h0 h1 => seg_o (by omega))
theorem seg_ok (ok : okS g) (hc : 0 ≤ c ∧ c < 8) (hf : ∀ a, 0 ≤ a → a < 20 → 0 ≤ f a) (hs : sm f 20 ≤ 1000 * g (178 + c)) : okS (segG g c f) := by
  have e : ∀ i, (i < 10 ∨ 170 ≤ i) → segG g c f i = g i := fun i hi => seg_o (by omega)
  refine ⟨by rw [e 0 (by omega)]; exact ok.n, fun i h0 h1 => ?_, fun c' h0 h1 => ?_, by rw [e 5 (by omega)]; exact ok.y, by rw [e 6 (by omega)]; exact ok.k, by rw [e 7 (by omega)]; exact ok.m, by rw [e 8 (by omega)]; exact ok.p, by rw [e 9 (by omega)]; exact ok.b⟩
  · by_cases hi : i < 10 + 20 * c ∨ 30 + 20 * c ≤ i
    · rw [seg_o hi]; exact ok.nn i h0 h1
    · have e2 : i = 10 + 20 * c + (i - 10 - 20 * c) := by omega
      rw [e2, seg_i (by omega)]; exact hf _ (by omega) (by omega)
  · rw [e _ (by omega), e _ (by omega)]
    refine ⟨ok.t ⟨h0, h1⟩, ok.z ⟨h0, h1⟩, ?_⟩
    by_cases hcc : c' = c
    · rw [hcc, seg_all]; exact hs
    · rw [seg_all' hcc]; exact ok.cap ⟨h0, h1⟩
/-- a stock whose cask c has been written anew -/
theorem seg_R {s : Int} {M M' : mMem} (h : StkR g s M) (hc : 0 ≤ c ∧ c < 8) (h0 : ∀ i, M' s i = M s i) (h1 : ∀ i, M' (s + 1) i = M (s + 1) i) (h2 : ∀ i, M' (s + 2) i = M (s + 2) i) (h6 : ∀ i, M' (s + 6) i = M (s + 6) i)
    (h3 : ∀ i, 0 ≤ i → i < 8 → i ≠ c → M' (s + 3) i = M (s + 3) i) (h4 : ∀ i, 0 ≤ i → i < 8 → i ≠ c → M' (s + 4) i = M (s + 4) i) (h3c : M' (s + 3) c = sm f 20) (h4c : M' (s + 4) c = sm (fun a => a * f a) 20)
    (h5 : ∀ i, 0 ≤ i → i < 160 → (i < 20 * c ∨ 20 * c + 20 ≤ i) → M' (s + 5) i = M (s + 5) i) (h5c : ∀ a, 0 ≤ a → a < 20 → M' (s + 5) (c * 20 + a) = f a) : StkR (segG g c f) s M' := by
  have e : ∀ i, (i < 10 ∨ 170 ≤ i) → segG g c f i = g i := fun i hi => seg_o (by omega)
  refine ⟨?_, ?_, fun c' q0 q1 => ⟨?_, ?_, ?_, ?_⟩, fun i q0 q1 => ?_, fun t q0 q1 => ?_⟩
  · rw [h0, e 0 (by omega)]; exact h.n
  · rw [h0, e 9 (by omega)]; exact h.b
  · rw [h1, e _ (by omega)]; exact h.t ⟨q0, q1⟩
  · rw [h2, e _ (by omega)]; exact h.z ⟨q0, q1⟩
  · by_cases hcc : c' = c
    · rw [hcc, h3c, seg_all]
    · rw [h3 _ q0 q1 hcc, seg_all' hcc]; exact h.a ⟨q0, q1⟩
  · by_cases hcc : c' = c
    · rw [hcc, h4c, seg_yr]
    · rw [h4 _ q0 q1 hcc, seg_yr' hcc]; exact h.y ⟨q0, q1⟩
  · by_cases hi : i < 20 * c ∨ 20 * c + 20 ≤ i
    · rw [h5 i q0 q1 hi, seg_o (by omega)]; exact h.d ⟨q0, q1⟩
    · have e2 : i = c * 20 + (i - 20 * c) := by omega
      have e3 : 10 + i = 10 + 20 * c + (i - 20 * c) := by omega
      rw [e3, seg_i (by omega), e2, h5c _ (by omega) (by omega)]; congr 1; omega
  · rw [h6, e _ (by omega)]; exact h.e ⟨q0, q1⟩
end SG
/-- what is taken of each age: first, what is missing still ahead of age a, one more, together -/
def tk0 (g : Int → Int) (c n a : Int) : Int := (g (10 + 20 * c + a) * (1000 * n)).tdiv (allG g c)
def misN (g : Int → Int) (c n : Int) : Nat → Int
  | 0 => 1000 * n - sm (tk0 g c n) 20
  | j + 1 => misN g c n j - (if 0 < misN g c n j ∧ tk0 g c n (19 - j) < g (10 + 20 * c + (19 - j)) then 1 else 0)
def mis (g : Int → Int) (c n a : Int) : Int := misN g c n (19 - a).toNat
def exG (g : Int → Int) (c n a : Int) : Int := if 0 < mis g c n a ∧ tk0 g c n a < g (10 + 20 * c + a) then 1 else 0
def tkG (g : Int → Int) (c n a : Int) : Int := tk0 g c n a + exG g c n a
theorem mis_19 (g : Int → Int) (c n : Int) : mis g c n 19 = 1000 * n - sm (tk0 g c n) 20 := rfl
theorem mis_s (g : Int → Int) (c n : Int) {a : Int} (ha : a ≤ 19) : mis g c n (a - 1) = mis g c n a - exG g c n a := by
  unfold mis exG mis
  have e : (19 - (a - 1)).toNat = (19 - a).toNat + 1 := by omega
  have e2 : (19 : Int) - ((19 - a).toNat : Int) = a := by omega
  rw [e, misN, e2]
section TK
variable {g : Int → Int} {c n : Int}
theorem tk0_bd (ok : okS g) (hc : 0 ≤ c ∧ c < 8) (hn : 1 ≤ n) (hA : 1000 * n ≤ allG g c) {a : Int} (ha : 0 ≤ a ∧ a < 20) : 0 ≤ tk0 g c n a ∧ tk0 g c n a ≤ g (10 + 20 * c + a) := by
  have h1 := ok.nn (10 + 20 * c + a) (by omega) (by omega)
  unfold tk0
  refine div_bd (Int.mul_nonneg h1 (by omega)) (by omega) (Int.mul_le_mul_of_nonneg_left hA h1)
theorem ex_bd (a : Int) : 0 ≤ exG g c n a ∧ exG g c n a ≤ 1 := by unfold exG; split <;> omega
theorem tk_bd (ok : okS g) (hc : 0 ≤ c ∧ c < 8) (hn : 1 ≤ n) (hA : 1000 * n ≤ allG g c) {a : Int} (ha : 0 ≤ a ∧ a < 20) : 0 ≤ tkG g c n a ∧ tkG g c n a ≤ g (10 + 20 * c + a) := by
  have h1 := tk0_bd ok hc hn hA ha
  unfold tkG exG; split <;> omega
theorem mis_0 (ok : okS g) (hc : 0 ≤ c ∧ c < 8) (hn : 1 ≤ n) (hA : 1000 * n ≤ allG g c) : mis g c n (-1) = 0 := by
  have hD := ok.nn
  -- ages of which one more can be taken
  have hm : 1000 * n - sm (tk0 g c n) 20 ≤ sm (fun a => if tk0 g c n a < g (10 + 20 * c + a) then 1 else 0) 20 := by
    have h1 : sm (fun a => g (10 + 20 * c + a) * (1000 * n)) 20 = 1000 * n * allG g c := by
      rw [show allG g c = sm (fun a => g (10 + 20 * c + a)) 20 from rfl, ← sm_mul (1000 * n) _ (by decide)]
      exact sm_congr (by decide) (fun a _ _ => Int.mul_comm _ _)
    have h2 : sm (fun a => g (10 + 20 * c + a) * (1000 * n)) 20 ≤ sm (fun a => allG g c * (tk0 g c n a + (if tk0 g c n a < g (10 + 20 * c + a) then 1 else 0))) 20 := by
      refine sm_le (by decide) (fun a q0 q1 => ?_)
      have hd := hD (10 + 20 * c + a) (by omega) (by omega)
      have hx : 0 ≤ g (10 + 20 * c + a) * (1000 * n) := Int.mul_nonneg hd (by omega)
      have e : tk0 g c n a = g (10 + 20 * c + a) * (1000 * n) / allG g c := by unfold tk0; exact Int.tdiv_eq_ediv_of_nonneg hx
      have e1 := Int.mul_ediv_add_emod (g (10 + 20 * c + a) * (1000 * n)) (allG g c)
      have e2 := Int.emod_lt_of_pos (g (10 + 20 * c + a) * (1000 * n)) (show 0 < allG g c by omega)
      rw [← e] at e1
      by_cases hl : tk0 g c n a < g (10 + 20 * c + a)
      · rw [if_pos hl, Int.mul_add, Int.mul_one]; omega
      · rw [if_neg hl, Int.add_zero]
        have h3 := tk0_bd ok hc hn hA (a := a) ⟨q0, q1⟩
        have h4 : tk0 g c n a = g (10 + 20 * c + a) := by omega
        rw [h4, Int.mul_comm (allG g c)]
        exact Int.mul_le_mul_of_nonneg_left hA hd
    rw [h1, sm_mul _ _ (by decide), sm_add _ _ (by decide), Int.mul_comm] at h2
    have h3 := Int.le_of_mul_le_mul_left h2 (show 0 < allG g c by omega)
    omega
  generalize hE : (fun a => if tk0 g c n a < g (10 + 20 * c + a) then (1 : Int) else 0) = E at hm
  have hEd : ∀ a, E a = if tk0 g c n a < g (10 + 20 * c + a) then 1 else 0 := fun a => by rw [← hE]
  have h19 : 0 ≤ 1000 * n - sm (tk0 g c n) 20 := by
    have h1 : allG g c * sm (tk0 g c n) 20 ≤ allG g c * (1000 * n) := by
      rw [← sm_mul _ _ (by decide), Int.mul_comm (allG g c) (1000 * n), show allG g c = sm (fun a => g (10 + 20 * c + a)) 20 from rfl, ← sm_mul (1000 * n) _ (by decide)]
      refine sm_le (by decide) (fun a q0 q1 => ?_)
      have hd := hD (10 + 20 * c + a) (by omega) (by omega)
      have hx : 0 ≤ g (10 + 20 * c + a) * (1000 * n) := Int.mul_nonneg hd (by omega)
      have e : tk0 g c n a = g (10 + 20 * c + a) * (1000 * n) / allG g c := by unfold tk0; exact Int.tdiv_eq_ediv_of_nonneg hx
      have e1 := Int.mul_ediv_add_emod (g (10 + 20 * c + a) * (1000 * n)) (allG g c)
      have e2 := Int.emod_nonneg (g (10 + 20 * c + a) * (1000 * n)) (show allG g c ≠ 0 by omega)
      rw [← e] at e1
      rw [Int.mul_comm (1000 * n)]
      show allG g c * tk0 g c n a ≤ _
      omega
    have := Int.le_of_mul_le_mul_left h1 (show 0 < allG g c by omega)
    omega
  have key := for_up (W := fun i => ∀ a, a = 19 - i → True) (lo := 0) (hi := 0) (by decide) (fun _ _ => trivial) (fun _ _ _ _ _ _ => trivial)
  have main := sm_ind (P := fun j => mis g c n (19 - j) = max 0 (1000 * n - sm (tk0 g c n) 20 - (sm E 20 - sm E (20 - j)))) (n := 20) (by decide) (by rw [show (19 : Int) - 0 = 19 from rfl, mis_19]; rw [show (20 : Int) - 0 = 20 from rfl]; omega) (fun j q0 q1 ih => by
    have e1 := mis_s g c n (a := 19 - j) (by omega)
    have e2 : (19 : Int) - (j + 1) = 19 - j - 1 := by omega
    have e3 := sm_s E (i := 19 - j) (by omega)
    have e4 : (19 : Int) - j + 1 = 20 - j := by omega
    have e5 : (20 : Int) - (j + 1) = 19 - j := by omega
    rw [e4] at e3
    rw [e2, e1, e5]
    have e6 := hEd (19 - j)
    unfold exG
    by_cases hl : tk0 g c n (19 - j) < g (10 + 20 * c + (19 - j))
    · rw [if_pos hl] at e6
      by_cases hp : 0 < mis g c n (19 - j)
      · rw [if_pos ⟨hp, hl⟩]; omega
      · rw [if_neg (fun q => hp q.1)]; omega
    · rw [if_neg hl] at e6
      rw [if_neg (fun q => hl q.2)]; omega)
  have e0 : sm E (20 - 20) = 0 := rfl
  rw [show (19 : Int) - 20 = -1 from rfl, e0] at main
  omega
theorem tk_sum (ok : okS g) (hc : 0 ≤ c ∧ c < 8) (hn : 1 ≤ n) (hA : 1000 * n ≤ allG g c) : sm (tkG g c n) 20 = 1000 * n := by
  have h0 := mis_0 ok hc hn hA
  have main := sm_ind (P := fun j => mis g c n (19 - j) = mis g c n 19 - (sm (exG g c n) 20 - sm (exG g c n) (20 - j))) (n := 20) (by decide) (by rw [show (19 : Int) - 0 = 19 from rfl, show (20 : Int) - 0 = 20 from rfl]; omega) (fun j q0 q1 ih => by
    have e1 := mis_s g c n (a := 19 - j) (by omega)
    have e2 : (19 : Int) - (j + 1) = 19 - j - 1 := by omega
    have e3 := sm_s (exG g c n) (i := 19 - j) (by omega)
    have e4 : (19 : Int) - j + 1 = 20 - j := by omega
    have e5 : (20 : Int) - (j + 1) = 19 - j := by omega
    rw [e4] at e3
    rw [e2, e1, e5]; omega)
  have e0 : sm (exG g c n) (20 - 20) = 0 := rfl
  rw [show (19 : Int) - 20 = -1 from rfl, e0, h0, mis_19] at main
  have e : sm (tkG g c n) 20 = sm (tk0 g c n) 20 + sm (exG g c n) 20 := sm_add _ _ (by decide)
  omega
/-- what is left -/
def takG (g : Int → Int) (c n : Int) : Int → Int := segG g c (fun a => g (10 + 20 * c + a) - tkG g c n a)
theorem tak_sum (ok : okS g) (hc : 0 ≤ c ∧ c < 8) (hn : 1 ≤ n) (hA : 1000 * n ≤ allG g c) : sm (fun a => g (10 + 20 * c + a) - tkG g c n a) 20 = allG g c - 1000 * n := by
  rw [sm_sub _ _ (by decide), tk_sum ok hc hn hA]; rfl
theorem tak_ok (ok : okS g) (hc : 0 ≤ c ∧ c < 8) (hn : 1 ≤ n) (hA : 1000 * n ≤ allG g c) : okS (takG g c n) := by
  refine seg_ok ok hc (fun a h0 h1 => ?_) ?_
  · have := tk_bd ok hc hn hA (a := a) ⟨h0, h1⟩; omega
  · rw [tak_sum ok hc hn hA]; have := ok.cap hc; omega
/-- ages of what is taken, together -/
def tyG (g : Int → Int) (c n : Int) : Int := sm (fun a => a * tkG g c n a) 20
theorem ty_bd (ok : okS g) (hc : 0 ≤ c ∧ c < 8) (hn : 1 ≤ n) (hA : 1000 * n ≤ allG g c) : 0 ≤ tyG g c n ∧ tyG g c n ≤ 19000 * n := by
  refine ⟨sm_nn (by decide) (fun a h0 h1 => Int.mul_nonneg h0 (tk_bd ok hc hn hA ⟨h0, h1⟩).1), ?_⟩
  have h1 : tyG g c n ≤ sm (fun a => 19 * tkG g c n a) 20 := sm_le (by decide) (fun a h0 h1 => Int.mul_le_mul_of_nonneg_right (by omega) (tk_bd ok hc hn hA ⟨h0, h1⟩).1)
  rw [sm_mul _ _ (by decide), tk_sum ok hc hn hA] at h1
  omega
theorem tak_yr : yrG (takG g c n) c = yrG g c - tyG g c n := by
  unfold takG; rw [seg_yr]
  unfold yrG tyG
  rw [← sm_sub _ _ (by decide)]
  exact sm_congr (by decide) (fun a _ _ => Int.mul_sub _ _ _)
end TK
