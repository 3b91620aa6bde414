/-! Times, clauses, years: as functions. -/
def rpN (TL T : TX) (i : Int) : Nat → ST → Int × ST
  | 0, σ => (0, σ)
  | n + 1, σ => if stC TL T i σ = 0 then rpN TL T i n (stS TL T i σ) else (stC TL T i σ, σ)
def timP (T : TX) (i : Int) : Int := if tk T i = 3 then 0 else tt T i
def pyN (TL T : TX) : Nat → ST × Int → ST × Int
  | 0, s => s
  | k + 1, s => ((rpN TL T (k : Int) (timP T k).toNat (pyN TL T k s).1).2, if (pyN TL T k s).2 = 1 ∨ (rpN TL T (k : Int) (timP T k).toNat (pyN TL T k s).1).1 = -3 then 1 else 0)
def y0 (σ : ST) : ST := (gS σ, 0, -1, ylS σ, mnS σ)
def pyE (TL T : TX) (σ : ST) : ST × Int := pyN TL T (tn T).toNat (y0 σ, 0)
def yrS (TL T : TX) (σ : ST) : ST := (passG TL (gS (pyE TL T σ).1), dnS (pyE TL T σ).1, ltS (pyE TL T σ).1, ylS (pyE TL T σ).1, mnS (pyE TL T σ).1)
def ysN (TL T : TX) (σ : ST) : Nat → ST
  | 0 => σ
  | n + 1 => yrS TL T (ysN TL T σ n)
theorem op_5 {kind : Int} {TL : TX} {g : Int → Int} (ok : okS g) {a b c : Int} (hk : 0 ≤ kind ∧ kind ≤ 2) (h : opW kind TL g a b c = 0) : opG kind TL g a b c 5 = g 5 := by
  have hn := ok.n
  unfold opW at h; unfold opG
  by_cases h0 : kind = 0
  · rw [if_pos h0] at h ⊢; have := pour_ok ok h; exact seg_o (by omega)
  · rw [if_neg h0] at h ⊢
    by_cases h1 : kind = 1
    · rw [if_pos h1] at h ⊢
      have := rack_ok ok h
      unfold rackG putG takG
      rw [seg_o (by omega), seg_o (by omega)]
    · rw [if_neg h1] at h ⊢
      have h2 : kind = 2 := by omega
      rw [if_pos h2] at h ⊢
      have := bot_ok ok h
      unfold botG takG; rw [upr_n (by decide), seg_o (by omega)]
/-- what is known of a state behind some orders -/
def Beh (σ σ' : ST) (n : Int) : Prop := okST σ' ∧ (dnS σ ≤ dnS σ' ∧ dnS σ' ≤ dnS σ + n) ∧ (ylS σ ≤ ylS σ' ∧ ylS σ' ≤ ylS σ + 999 * n) ∧ Fix (gS σ) (gS σ')
theorem Beh.rf {σ : ST} (h : okST σ) {n : Int} (hn : 0 ≤ n) : Beh σ σ n := ⟨h, by omega, by omega, Fix.rf _⟩
theorem Beh.tr {σ σ' σ'' : ST} {n m : Int} (h : Beh σ σ' n) (h' : Beh σ' σ'' m) : Beh σ σ'' (n + m) := by
  obtain ⟨a1, a2, a3, a4⟩ := h
  obtain ⟨b1, b2, b3, b4⟩ := h'
  exact ⟨b1, by omega, by omega, a4.tr b4⟩
theorem Beh.le {σ σ' : ST} {n m : Int} (h : Beh σ σ' n) (hm : n ≤ m) : Beh σ σ' m := by
  obtain ⟨a1, a2, a3, a4⟩ := h
  exact ⟨a1, by omega, by omega, a4⟩
theorem st_beh {TL T : TX} {i : Int} {σ : ST} (ok : okST σ) (h : stC TL T i σ = 0) (hd : dnS σ < 1000) (hy : ylS σ ≤ 1400000000) : Beh σ (stS TL T i σ) 1 := by
  obtain ⟨-, a, b, c, -, -, -, ho, hs⟩ := stC_0 h
  rw [hs]
  refine ⟨stN_ok ok ho hd hy, ⟨?_, ?_⟩, ?_, op_fix ok.1 ho⟩
  · show dnS σ ≤ dnS σ + 1; omega
  · show dnS σ + 1 ≤ dnS σ + 1; omega
  · show ylS σ ≤ (if tk T i = 2 then ylS σ + a else ylS σ) ∧ (if tk T i = 2 then ylS σ + a else ylS σ) ≤ ylS σ + 999 * 1
    by_cases h2 : tk T i = 2
    · have := bot_in ok.1 (opW2 h2 ho); rw [if_pos h2]; omega
    · rw [if_neg h2]; omega
theorem rp_beh {TL T : TX} {i : Int} : ∀ (n : Nat) {σ : ST}, okST σ → dnS σ + n ≤ 1000 → ylS σ + 999 * n ≤ 1400000000 → Beh σ (rpN TL T i n σ).2 n := by
  intro n
  induction n with
  | zero => intro σ ok _ _; exact Beh.rf ok (by omega)
  | succ n ih =>
    intro σ ok hd hy
    rw [rpN]
    by_cases h : stC TL T i σ = 0
    · rw [if_pos h]
      have b := st_beh ok h (by omega) (by omega)
      have := b.tr (ih b.1 (by have := b.2.1; omega) (by have := b.2.2.1; omega))
      exact this.le (by omega)
    · rw [if_neg h]; exact Beh.rf ok (by omega)
theorem rp_code {TL T : TX} {i : Int} : ∀ (n : Nat) (σ : ST), (rpN TL T i n σ).1 = 0 ∨ (rpN TL T i n σ).1 = -3 ∨ (rpN TL T i n σ).1 = -9 := by
  intro n
  induction n with
  | zero => intro σ; exact Or.inl rfl
  | succ n ih =>
    intro σ
    rw [rpN]
    by_cases h : stC TL T i σ = 0
    · rw [if_pos h]; exact ih _
    · rw [if_neg h]; exact stC_cases TL T i σ
theorem rp_5 {TL T : TX} {i : Int} (hk : 0 ≤ tk T i ∧ tk T i ≤ 2) : ∀ (n : Nat) {σ : ST}, okST σ → dnS σ + n ≤ 1000 → ylS σ + 999 * n ≤ 1400000000 → gS (rpN TL T i n σ).2 5 = gS σ 5 := by
  intro n
  induction n with
  | zero => intro σ ok _ _; rfl
  | succ n ih =>
    intro σ ok hd hy
    rw [rpN]
    by_cases h : stC TL T i σ = 0
    · rw [if_pos h]
      have b := st_beh ok h (by omega) (by omega)
      rw [ih b.1 (by have := b.2.1; omega) (by have := b.2.2.1; omega)]
      obtain ⟨-, x, y, z, -, -, -, ho, hs⟩ := stC_0 h
      rw [hs]; exact op_5 ok.1 hk ho
    · rw [if_neg h]
theorem y0_ok {σ : ST} (h : okST σ) : okST (y0 σ) := ⟨h.1, by show (0 : Int) ≤ 0 ∧ (0 : Int) ≤ 1000; omega, by show (-1 : Int) ≤ -1 ∧ (-1 : Int) ≤ 19000; omega, h.2.2.2.1, h.2.2.2.2⟩
theorem py_beh {TL T : TX} (hT : okTO T) {σ : ST} (ok : okST σ) (hy : ylS σ ≤ 1300000000) {s : Int} (hs : s = 0 ∨ s = 1) : ∀ (k : Nat), (k : Int) ≤ tn T → Beh (y0 σ) (pyN TL T k (y0 σ, s)).1 (20 * k) ∧ gS (pyN TL T k (y0 σ, s)).1 5 = gS σ 5 ∧ ((pyN TL T k (y0 σ, s)).2 = 0 ∨ (pyN TL T k (y0 σ, s)).2 = 1) := by
  intro k
  induction k with
  | zero => intro _; exact ⟨Beh.rf (y0_ok ok) (by omega), rfl, hs⟩
  | succ k ih =>
    intro hk
    obtain ⟨i1, i2, i3⟩ := ih (by omega)
    have n12 := hT.1.2.1
    obtain ⟨⟨k0, k3⟩, ⟨t1, t20⟩, -⟩ := hT.2 k (by omega) (by omega)
    have e0 : dnS (y0 σ) = 0 := rfl
    have e1 : ylS (y0 σ) = ylS σ := rfl
    have ht : 0 ≤ timP T k ∧ timP T k ≤ 20 := by unfold timP; split <;> omega
    have b := rp_beh (TL := TL) (T := T) (i := k) (timP T k).toNat i1.1 (by have := i1.2.1; omega) (by have := i1.2.2.1; omega)
    refine ⟨(i1.tr b).le (by omega), ?_, ?_⟩
    · show gS (rpN TL T (k : Int) (timP T k).toNat (pyN TL T k (y0 σ, s)).1).2 5 = gS σ 5
      rw [← i2]
      by_cases h3 : tk T k = 3
      · have : (timP T k).toNat = 0 := by unfold timP; rw [if_pos h3]; rfl
        rw [this]; rfl
      · exact rp_5 (by omega) _ i1.1 (by have := i1.2.1; omega) (by have := i1.2.2.1; omega)
    · show (if _ then (1 : Int) else 0) = 0 ∨ (if _ then (1 : Int) else 0) = 1
      split <;> simp
/-- years of a plan: what is known behind n of them -/
def Yrs (σ σ' : ST) (n : Int) : Prop := okST σ' ∧ gS σ' 5 = gS σ 5 + n ∧ (ylS σ ≤ ylS σ' ∧ ylS σ' ≤ ylS σ + 239760 * n) ∧ Fix (gS σ) (gS σ')
theorem yr_yrs {TL T : TX} (hT : okTO T) {σ : ST} (ok : okST σ) (hy : ylS σ ≤ 1300000000) (h5 : gS σ 5 < 2000) : Yrs σ (yrS TL T σ) 1 := by
  have n0 := hT.1.1
  have n12 := hT.1.2.1
  obtain ⟨b1, b2, b3⟩ := py_beh (TL := TL) hT ok hy (Or.inl rfl) (tn T).toNat (by omega)
  obtain ⟨c1, c2, c3, c4⟩ := b1
  have e1 : ylS (y0 σ) = ylS σ := rfl
  have hn := c1.1.n
  refine ⟨⟨?_, c1.2.1, c1.2.2.1, c1.2.2.2.1, c1.2.2.2.2⟩, ?_, ?_, ?_⟩
  · exact pass_ok c1.1 (by unfold pyE; rw [b2]; exact h5)
  · show passG TL (gS (pyE TL T σ).1) 5 = _
    unfold passG; rw [upr_s]
    show gS (pyE TL T σ).1 5 + 1 = _
    unfold pyE; rw [b2]
  · show ylS σ ≤ ylS (pyE TL T σ).1 ∧ ylS (pyE TL T σ).1 ≤ ylS σ + 239760 * 1
    unfold pyE; omega
  · exact c4.tr (pass_fix c1.1)
theorem ys_yrs {TL T : TX} (hT : okTO T) {σ : ST} (ok : okST σ) (hy : ylS σ ≤ 1000) (h5 : gS σ 5 ≤ 999) : ∀ (n : Nat), n ≤ 100 → Yrs σ (ysN TL T σ n) n := by
  intro n
  induction n with
  | zero => intro _; exact ⟨ok, by show gS σ 5 = gS σ 5 + 0; omega, by show ylS σ ≤ ylS σ ∧ ylS σ ≤ ylS σ + 239760 * 0; omega, Fix.rf _⟩
  | succ n ih =>
    intro hn
    obtain ⟨a1, a2, a3, a4⟩ := ih (by omega)
    obtain ⟨b1, b2, b3, b4⟩ := yr_yrs (TL := TL) hT a1 (by omega) (by omega)
    exact ⟨b1, by show gS (yrS TL T (ysN TL T σ n)) 5 = _; omega, by show _ ≤ ylS (yrS TL T (ysN TL T σ n)) ∧ ylS (yrS TL T (ysN TL T σ n)) ≤ _; omega, a4.tr b4⟩
section CY
variable {d : Nat} {S : mSh} {M : mMem} {Q : Option mV → mSh → mMem → Prop} {s t x : Int} {TL T : TX} {σ : ST}
/-- cells that years of a plan write besides the stock -/
def FrYr (s : Int) (M M' : mMem) : Prop := ∀ a i, ¬ ((s ≤ a ∧ a ≤ s + 6) ∨ a = 195 ∨ a = 197 ∨ (a = 196 ∧ (i = 1 ∨ i = 3 ∨ i = 4 ∨ i = 5)) ∨ (a = 191 ∧ (i = 4 ∨ i = 5 ∨ i = 6))) → M' a i = M a i
theorem FrYr.tr {M M' M'' : mMem} (h : FrYr s M M') (h' : FrYr s M' M'') : FrYr s M M'' := fun a i q => (h' a i q).trans (h a i q)
theorem FrYr.ofZ {M M' : mMem} (h : FrZ s M M') : FrYr s M M' := fun a i q => h a i (by omega)
theorem WS.m6 (h : WS S M s t x TL T σ) {v : Int} : WS S (up M 191 6 v) s t x TL T σ := by
  obtain ⟨h1, h2, h3, h4, h5, h6, h7, h8, h9, h10⟩ := h
  have hhi := h1.s.hi
  obtain ⟨p1, p2, p3, p4, p5, p6, p7, p8, p9, p10⟩ := h1
  have t2 := h2.2.1
  have t3 := p7.2.1
  refine ⟨⟨p1, by rw [up_ni (by decide)]; exact p2, by rw [up_na (by decide)]; exact p3, by rw [up_ni (by decide)]; exact p4, p5.congr (fun a j q0 q1 => up_na (by omega)), p6, p7.congr (fun a j q0 q1 => up_na (by omega)), p8, p9, p10⟩, h2.congr (fun a j q0 q1 => up_na (by omega)), h3, h4, h5, by rw [up_na (by decide)]; exact h6, by rw [up_na (by decide)]; exact h7, by rw [up_ni (by decide)]; exact h8, by rw [up_ni (by decide)]; exact h9, h10⟩
/-- a text is begun: nothing done, no latest -/
theorem c_startText (L : Lay S) (h : WS S M s t x TL T σ) (k : ∀ M', WS S M' s t x TL T (y0 σ) → FrZ s M M' → Q none S M') : e_X0_startText d S M Q := by
  obtain ⟨h1, h2, h3, h4, h5, h6, h7, h8, h9, h10⟩ := h
  have hhi := h1.s.hi
  obtain ⟨p1, p2, p3, p4, p5, p6, p7, p8, p9, p10⟩ := h1
  have t2 := h2.2.1
  have t3 := p7.2.1
  refine b_X0_startText_0 L (k _ ⟨⟨p1, by rw [up_na (by decide), up_na (by decide)]; exact p2, by rw [up_ni (by decide), up_ni (by decide)]; exact p3, by rw [up_na (by decide), up_na (by decide)]; exact p4, p5.congr (fun a j q0 q1 => by rw [up_na (by omega), up_na (by omega)]), p6, p7.congr (fun a j q0 q1 => by rw [up_na (by omega), up_na (by omega)]), p8, p9, p10⟩, h2.congr (fun a j q0 q1 => by rw [up_na (by omega), up_na (by omega)]), h3, h4, h5, by rw [up_ni (by decide), up_s]; rfl, by rw [up_s]; rfl, by rw [up_na (by decide), up_na (by decide)]; exact h8, by rw [up_na (by decide), up_na (by decide)]; exact h9, y0_ok h10⟩ (fun a i q => ?_))
  by_cases e : a = 196
  · rw [up_ni (by omega), up_ni (by omega)]
  · rw [up_na e, up_na e]
/-- a clause of a plan, its times -/
theorem c_times (L : Lay S) {x2 x3 i tm : Int} (hi : 0 ≤ i ∧ i < tn T) (htm : 0 ≤ tm ∧ tm ≤ 20) :
    ∀ (n : Nat) (σ : ST) (M : mMem) (tt : Int), tt + n = tm → 0 ≤ tt → WS S M s t x TL T σ → dnS σ + n ≤ 1000 → ylS σ + 999 * n ≤ 1400000000 →
      (∀ M' tt' r, WS S M' s t x TL T (rpN TL T i n σ).2 → FrZ s M M' → ((rpN TL T i n σ).1 = -3 → r < 0 ∧ ¬ r = -9) → (¬ (rpN TL T i n σ).1 = -3 → 0 ≤ r ∨ r = -9) → WP PR (d + 6) 78 81 [vA 191, vA x, vI x2, vI x3, vI i, vI tm, vI r, vI tt'] [] S M' Q) →
      ∀ r0, 0 ≤ r0 → WP PR (d + 6) 78 54 [vA 191, vA x, vI x2, vI x3, vI i, vI tm, vI r0, vI tt] [] S M Q := by
  intro n
  induction n with
  | zero =>
    intro σ M tt e h0 w _ _ k r0 hr0
    exact b_X7_planYears_54 (fun _ => k M tt r0 w (FrZ.rf s M) (fun q => absurd q (by show ¬ (0 : Int) = -3; decide)) (fun _ => Or.inl hr0)) (fun q => absurd q (by omega))
  | succ n ih =>
    intro σ M tt e h0 w hd hy k r0 hr0
    rw [rpN] at k
    refine b_X7_planYears_54 (fun q => absurd q (by omega)) (fun _ => b_X7_planYears_61 (fun q => absurd q (by omega)) (fun _ => b_X7_planYears_66 L (c_step L w hi (by omega) (by omega) (fun h9 M' w' f' => ?_) (fun h3 M' r hr hr9 w' f' => ?_) (fun hz M' r hr w' f' => ?_))))
    · rw [if_neg (by omega)] at k
      have fin := k M' (tt + 1) (-9) w' f' (fun q => absurd q (by show ¬ stC TL T i σ = -3; omega)) (fun _ => Or.inr rfl)
      exact b_X7_planYears_73 (by omega) (b_X7_planYears_54 (fun _ => fin) (fun _ => b_X7_planYears_61 (fun _ => fin) (fun q => absurd q (by decide))))
    · rw [if_neg (by omega)] at k
      have fin := k M' (tt + 1) r w' f' (fun _ => ⟨hr, hr9⟩) (fun q => absurd h3 q)
      exact b_X7_planYears_73 (by omega) (b_X7_planYears_54 (fun _ => fin) (fun _ => b_X7_planYears_61 (fun _ => fin) (fun q => absurd q (by omega))))
    · rw [if_pos hz] at k
      have b := st_beh w.ok hz (by omega) (by omega)
      exact b_X7_planYears_73 (by omega) (ih _ M' (tt + 1) (by omega) (by omega) w' (by have := b.2.1; omega) (by have := b.2.2.1; omega) (fun M2 tt' r2 w2 f2 c1 c2 => k M2 tt' r2 w2 (f'.tr f2) c1 c2) r hr)
end CY
