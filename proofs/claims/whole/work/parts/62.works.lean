/-! The works of a cellar, as functions of a row and a law. -/
def bnd (v lo hi : Int) : Int := if v < lo then lo else if hi < v then hi else v
def losT (T : TX) (g : Int → Int) (c : Int) : Int := bnd (tellT T 0 (wL g c) 0) 0 99
def yieT (T : TX) (g : Int → Int) (c : Int) : Int := bnd (tellT T 1 (wL g c) 999) 0 999
def barT (T : TX) (g : Int → Int) (c : Int) : Int := tellT T 2 (wL g c) 0
theorem los_bd (T : TX) (g : Int → Int) (c : Int) : 0 ≤ losT T g c ∧ losT T g c ≤ 99 := by unfold losT bnd; split <;> (try split) <;> omega
theorem tl_bar {T : TX} (hT : okTL T) (w : Env) {i : Int} (hi : 0 ≤ i) (hn : i ≤ tn T) : tl T 2 w 0 i = 0 ∨ tl T 2 w 0 i = 1 := by
  refine sm_ind (P := fun j => j ≤ tn T → tl T 2 w 0 j = 0 ∨ tl T 2 w 0 j = 1) hi (fun _ => Or.inl rfl) (fun j h0 h1 ih hj => ?_) hn
  rw [tl_s T 2 w 0 h0]
  cases hh : hold T j 2 w with
  | none => exact ih (by omega)
  | some v =>
    unfold hold at hh
    by_cases hc : tk T j = 2 ∧ tstO (ts T j 3) w = true
    · rw [if_pos hc] at hh
      rw [(hT.2 j h0 (by omega)).2.2.mp hc.1] at hh
      cases hh; exact Or.inr rfl
    · rw [if_neg hc] at hh; cases hh
theorem bar_01 {T : TX} (hT : okTL T) (g : Int → Int) (c : Int) : barT T g c = 0 ∨ barT T g c = 1 := tl_bar hT _ hT.1.1 (Int.le_refl _)
def pourW (g : Int → Int) (c n : Int) : Int := if 1 ≤ n ∧ n ≤ 999 then (if 0 ≤ c ∧ c < g 0 then (if roomG g c < 1000 * n then -3 else 0) else -2) else -1
def rackW (T : TX) (g : Int → Int) (f t n : Int) : Int := if 1 ≤ n ∧ n ≤ 999 then (if (0 ≤ f ∧ f < g 0) ∧ (0 ≤ t ∧ t < g 0) then (if g (170 + t) = g (170 + f) - 1 ∧ ¬ barT T g f = 1 ∧ ¬ barT T g t = 1 ∧ n ≤ yieT T g f ∧ 1000 * n ≤ allG g f ∧ 1000 * n ≤ roomG g t then 0 else -3) else -2) else -1
def botW (T : TX) (g : Int → Int) (c n : Int) : Int := if 1 ≤ n ∧ n ≤ 999 then (if 0 ≤ c ∧ c < g 0 then (if g (170 + c) = 0 ∧ ¬ barT T g c = 1 ∧ n ≤ yieT T g c ∧ 1000 * n ≤ allG g c then 0 else -3) else -2) else -1
def rackG (g : Int → Int) (f t n : Int) : Int → Int := putG (takG g f n) t (tkG g f n)
def botG (g : Int → Int) (c n : Int) : Int → Int := upr (takG g c n) 9 (bnd (g 9 + n) 0 999999)
theorem tak_o {g : Int → Int} {c n i : Int} (h : i < 10 + 20 * c ∨ 30 + 20 * c ≤ i) : takG g c n i = g i := seg_o h
theorem pour_ok {g : Int → Int} (ok : okS g) {c n : Int} (h : pourW g c n = 0) : (1 ≤ n ∧ n ≤ 999) ∧ (0 ≤ c ∧ c < g 0) ∧ 1000 * n ≤ roomG g c ∧ allG g c + 1000 * n ≤ 1000 * g (178 + c) ∧ okS (addG g c n) := by
  unfold pourW at h
  split at h
  · rename_i h1
    split at h
    · rename_i h2
      split at h
      · cases h
      · rename_i h3
        have h4 : allG g c + 1000 * n ≤ 1000 * g (178 + c) := by unfold roomG at h3; omega
        exact ⟨h1, h2, by omega, h4, add_ok ok (by have := ok.n; omega) (by omega) h4⟩
    · cases h
  · cases h
theorem rack_ok {T : TX} {g : Int → Int} (ok : okS g) {f t n : Int} (h : rackW T g f t n = 0) : (1 ≤ n ∧ n ≤ 999) ∧ (0 ≤ f ∧ f < g 0) ∧ (0 ≤ t ∧ t < g 0) ∧ f ≠ t ∧ 1000 * n ≤ allG g f ∧ 1000 * n ≤ roomG g t ∧ okS (takG g f n) ∧ allG (takG g f n) t + sm (tkG g f n) 20 ≤ 1000 * (takG g f n) (178 + t) ∧ okS (rackG g f t n) := by
  unfold rackW at h
  split at h
  · rename_i h1
    split at h
    · rename_i h2
      split at h
      · rename_i h3
        have hn := ok.n
        have hf8 : 0 ≤ f ∧ f < 8 := by omega
        have ht8 : 0 ≤ t ∧ t < 8 := by omega
        have hne : f ≠ t := fun e => by rw [e] at h3; omega
        obtain ⟨-, -, -, -, h5, h6⟩ := h3
        have okt := tak_ok ok hf8 h1.1 h5
        have e1 : allG (takG g f n) t = allG g t := seg_all' (fun e => hne e.symm)
        have e2 : takG g f n (178 + t) = g (178 + t) := tak_o (by omega)
        have h7 : allG (takG g f n) t + sm (tkG g f n) 20 ≤ 1000 * (takG g f n) (178 + t) := by
          rw [e1, e2, tk_sum ok hf8 h1.1 h5]; unfold roomG at h6; omega
        exact ⟨h1, h2.1, h2.2, hne, h5, h6, okt, h7, put_ok okt ht8 (fun a q0 q1 => (tk_bd ok hf8 h1.1 h5 ⟨q0, q1⟩).1) h7⟩
      · cases h
    · cases h
  · cases h
theorem upr_ok9 {g : Int → Int} (ok : okS g) {v : Int} (hv : 0 ≤ v ∧ v ≤ 999999) : okS (upr g 9 v) := by
  have e : ∀ i, i ≠ 9 → upr g 9 v i = g i := fun i h => upr_n h
  refine ⟨by rw [e 0 (by decide)]; exact ok.n, fun i h0 h1 => by rw [e i (by omega)]; exact ok.nn i h0 h1, fun c h0 h1 => ?_, by rw [e 5 (by decide)]; exact ok.y, by rw [e 6 (by decide)]; exact ok.k, by rw [e 7 (by decide)]; exact ok.m, by rw [e 8 (by decide)]; exact ok.p, by rw [upr_s]; exact hv⟩
  rw [e _ (by omega), e _ (by omega), allG_congr (g := g) (fun a q0 q1 => e _ (by omega))]
  exact ⟨ok.t ⟨h0, h1⟩, ok.z ⟨h0, h1⟩, ok.cap ⟨h0, h1⟩⟩
theorem upr_ok5 {g : Int → Int} (ok : okS g) {v : Int} (hv : 0 ≤ v ∧ v ≤ 2000) : okS (upr g 5 v) := by
  have e : ∀ i, i ≠ 5 → upr g 5 v i = g i := fun i h => upr_n h
  refine ⟨by rw [e 0 (by decide)]; exact ok.n, fun i h0 h1 => by rw [e i (by omega)]; exact ok.nn i h0 h1, fun c h0 h1 => ?_, by rw [upr_s]; exact hv, by rw [e 6 (by decide)]; exact ok.k, by rw [e 7 (by decide)]; exact ok.m, by rw [e 8 (by decide)]; exact ok.p, by rw [e 9 (by decide)]; exact ok.b⟩
  rw [e _ (by omega), e _ (by omega), allG_congr (g := g) (fun a q0 q1 => e _ (by omega))]
  exact ⟨ok.t ⟨h0, h1⟩, ok.z ⟨h0, h1⟩, ok.cap ⟨h0, h1⟩⟩
theorem bnd_bd (v : Int) {lo hi : Int} (h : lo ≤ hi) : lo ≤ bnd v lo hi ∧ bnd v lo hi ≤ hi := by unfold bnd; split <;> (try split) <;> omega
theorem bot_ok {T : TX} {g : Int → Int} (ok : okS g) {c n : Int} (h : botW T g c n = 0) : (1 ≤ n ∧ n ≤ 999) ∧ (0 ≤ c ∧ c < g 0) ∧ 1000 * n ≤ allG g c ∧ okS (takG g c n) ∧ okS (botG g c n) := by
  unfold botW at h
  split at h
  · rename_i h1
    split at h
    · rename_i h2
      split at h
      · rename_i h3
        have hn := ok.n
        have okt := tak_ok ok (by omega) h1.1 h3.2.2.2
        exact ⟨h1, h2, h3.2.2.2, okt, upr_ok9 okt (bnd_bd _ (by decide))⟩
      · cases h
    · cases h
  · cases h
theorem room_lt {g : Int → Int} (ok : okS g) {c n : Int} (hc : 0 ≤ c ∧ c < 8) : (roomG g c).tdiv 1000 < n ↔ roomG g c < 1000 * n := by
  have := ok.room hc
  rw [Int.tdiv_eq_ediv_of_nonneg this.1]; omega
theorem meas_lt {g : Int → Int} (ok : okS g) {c n : Int} (hc : 0 ≤ c ∧ c < 8) : (allG g c).tdiv 1000 < n ↔ allG g c < 1000 * n := by
  have := ok.all hc
  rw [Int.tdiv_eq_ediv_of_nonneg this.1]; omega
/-- a year: cask by cask -/
def pGN (T : TX) (g : Int → Int) : Nat → (Int → Int)
  | 0 => g
  | k + 1 => growG (pGN T g k) (k : Int) (losT T (pGN T g k) (k : Int))
def pLN (T : TX) (g : Int → Int) : Nat → Int
  | 0 => 0
  | k + 1 => pLN T g k + lossG (pGN T g k) (k : Int) (losT T (pGN T g k) (k : Int))
def pG (T : TX) (g : Int → Int) (i : Int) : Int → Int := pGN T g i.toNat
def pL (T : TX) (g : Int → Int) (i : Int) : Int := pLN T g i.toNat
theorem pG_s (T : TX) (g : Int → Int) {i : Int} (h : 0 ≤ i) : pG T g (i + 1) = growG (pG T g i) i (losT T (pG T g i) i) := by
  unfold pG
  have e : (i + 1).toNat = i.toNat + 1 := by omega
  have e2 : ((i.toNat : Nat) : Int) = i := by omega
  rw [e, pGN, e2]
theorem pL_s (T : TX) (g : Int → Int) {i : Int} (h : 0 ≤ i) : pL T g (i + 1) = pL T g i + lossG (pG T g i) i (losT T (pG T g i) i) := by
  unfold pL pG
  have e : (i + 1).toNat = i.toNat + 1 := by omega
  have e2 : ((i.toNat : Nat) : Int) = i := by omega
  rw [e, pLN, e2]
theorem pG_o (T : TX) (g : Int → Int) {i : Int} (h : 0 ≤ i) (hi : i ≤ 8) : ∀ x, (x < 10 ∨ 170 ≤ x) → pG T g i x = g x := by
  refine sm_ind (P := fun j => j ≤ 8 → ∀ x, (x < 10 ∨ 170 ≤ x) → pG T g j x = g x) h (fun _ x _ => rfl) (fun j h0 h1 ih hj x hx => ?_) hi
  rw [pG_s T g h0]
  unfold growG
  rw [seg_o (by omega)]; exact ih (by omega) x hx
theorem pG_ok {T : TX} {g : Int → Int} (ok : okS g) {i : Int} (h : 0 ≤ i) (hi : i ≤ 8) : okS (pG T g i) := by
  refine sm_ind (P := fun j => j ≤ 8 → okS (pG T g j)) h (fun _ => ok) (fun j h0 h1 ih hj => ?_) hi
  rw [pG_s T g h0]
  exact grow_ok (ih (by omega)) (by omega) (los_bd _ _ _)
theorem pL_bd {T : TX} {g : Int → Int} (ok : okS g) {i : Int} (h : 0 ≤ i) (hi : i ≤ 8) : 0 ≤ pL T g i ∧ pL T g i ≤ i * 999000 := by
  refine sm_ind (P := fun j => j ≤ 8 → 0 ≤ pL T g j ∧ pL T g j ≤ j * 999000) h (fun _ => by show 0 ≤ (0 : Int) ∧ (0 : Int) ≤ 0; omega) (fun j h0 h1 ih hj => ?_) hi
  rw [pL_s T g h0]
  have ok' := pG_ok (T := T) ok h0 (by omega)
  have h2 := loss_bd ok' (c := j) (by omega) (los_bd T (pG T g j) j)
  have h3 := ok'.all (c := j) (by omega)
  have h4 := ih (by omega)
  omega
def passG (T : TX) (g : Int → Int) : Int → Int := upr (pG T g (g 0)) 5 (g 5 + 1)
def passL (T : TX) (g : Int → Int) : Int := pL T g (g 0)
theorem pass_ok {T : TX} {g : Int → Int} (ok : okS g) (h5 : g 5 < 2000) : okS (passG T g) := by
  have hn := ok.n
  have := ok.y
  exact upr_ok5 (pG_ok ok hn.1 hn.2) (by omega)
/-- a cask without drops stays as it is -/
theorem grow_empty {g : Int → Int} (ok : okS g) {c k : Int} (hc : 0 ≤ c ∧ c < 8) (hz : allG g c = 0) : growG g c k = g ∧ lossG g c k = 0 := by
  have hd : ∀ a, 0 ≤ a → a < 20 → g (10 + 20 * c + a) = 0 := sm_zero (f := fun a => g (10 + 20 * c + a)) (by decide) (fun a h0 h1 => ok.nn _ (by omega) (by omega)) hz
  have hle : ∀ a, 0 ≤ a → a < 20 → leG g c k a = 0 := fun a h0 h1 => by unfold leG; rw [hd a h0 h1, Int.zero_mul]; rfl
  have hlf : ∀ a, 0 ≤ a → a < 20 → lfG g c k a = 0 := fun a h0 h1 => by unfold lfG; rw [hd a h0 h1, hle a h0 h1]; rfl
  refine ⟨?_, ?_⟩
  · funext i
    by_cases hi : i < 10 + 20 * c ∨ 30 + 20 * c ≤ i
    · exact seg_o hi
    · have e : i = 10 + 20 * c + (i - 10 - 20 * c) := by omega
      rw [e]
      unfold growG
      rw [seg_i (by omega), hd _ (by omega) (by omega)]
      unfold grF
      split
      · rfl
      · split
        · rw [hlf 18 (by decide) (by decide), hlf 19 (by decide) (by decide)]; rfl
        · exact hlf _ (by omega) (by omega)
  · unfold lossG
    rw [sm_congr (g := fun _ => 0) (by decide) hle, sm20]; rfl
