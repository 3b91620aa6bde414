/-! The reference's pile, and how it is settled. -/
abbrev PL : Type := List (Int × Int)
def PileM (M : mMem) : PL → Int → Prop
  | [], n => n = 0
  | x :: P, n => M 213 (n - 1) = x.1 ∧ M 214 (n - 1) = x.2 ∧ PileM M P (n - 1)
def okX (x : Int × Int) : Prop := (20 ≤ x.1 ∧ x.1 ≤ 32) ∧ ((x.1 = 29 ∨ x.1 = 30) → 0 ≤ x.2 ∧ x.2 < 400)
def okP : PL → Prop
  | [] => True
  | x :: P => okX x ∧ okP P
def lnP (P : PL) : Int := (P.length : Int)
theorem ln_0 : lnP [] = 0 := rfl
theorem ln_s (x : Int × Int) (P : PL) : lnP (x :: P) = lnP P + 1 := by unfold lnP; simp
theorem ln_a (P P' : PL) : lnP (P ++ P') = lnP P + lnP P' := by unfold lnP; simp
theorem ln_p (P : PL) : 0 ≤ lnP P := by unfold lnP; omega
theorem okP_a {P P' : PL} : okP (P ++ P') ↔ okP P ∧ okP P' := by
  induction P with
  | nil => exact ⟨fun h => ⟨trivial, h⟩, fun h => h.2⟩
  | cons x P ih =>
    show okX x ∧ okP (P ++ P') ↔ (okX x ∧ okP P) ∧ okP P'
    rw [ih]; exact ⟨fun h => ⟨⟨h.1, h.2.1⟩, h.2.2⟩, fun h => ⟨h.1.1, h.1.2, h.2⟩⟩
theorem PileM.ln {M : mMem} : ∀ {P : PL} {n : Int}, PileM M P n → n = lnP P := by
  intro P
  induction P with
  | nil => intro n h; exact h
  | cons x P ih =>
    intro n h
    have := ih h.2.2
    rw [ln_s]; omega
theorem PileM.congr {M M' : mMem} : ∀ {P : PL} {n : Int}, PileM M P n → (∀ i, 0 ≤ i → i < n → M' 213 i = M 213 i ∧ M' 214 i = M 214 i) → PileM M' P n := by
  intro P
  induction P with
  | nil => intro n h _; exact h
  | cons x P ih =>
    intro n h he
    have := h.ln
    have := ln_p P
    rw [ln_s] at *
    have e := he (n - 1) (by omega) (by omega)
    exact ⟨by rw [e.1]; exact h.1, by rw [e.2]; exact h.2.1, ih h.2.2 (fun i q0 q1 => he i q0 (by omega))⟩
def bds (o : Int) : Int := if 31 ≤ o then 0 else if o = 30 then 1 else if o = 29 then 2 else if o = 28 then 3 else if 25 ≤ o then 4 else if 22 ≤ o then 6 else 5
/-- what settling makes of a segment -/
def Ctx (cd : Int → Int × Int) : PL → Bool → Bool → Int → Int → Int → (Den → Den) → Prop
  | [], b, b', c0, c1, k, f => c0 = c1 ∧ k = 0 ∧ f = id ∧ (b' = true → b = true)
  | x :: P, b, b', c0, c1, k, f =>
    (x.1 = 28 ∧ b = true ∧ ∃ g, Ctx cd P true b' c0 c1 k g ∧ f = fun E => g (ntD E)) ∨
    ((20 ≤ x.1 ∧ x.1 ≤ 27) ∧ ∃ c2 k2 D2 g, SegM cd c2 c1 k2 D2 ∧ Ctx cd P (decide (25 ≤ x.1)) b' c0 c2 (k - k2) g ∧ f = fun E => g (bnD x.1 D2 E)) ∨
    ((x.1 = 29 ∨ x.1 = 30) ∧ b = true ∧ ∃ c2 k2 D2 g, x.2 = c1 - 1 ∧ SegM cd c2 (c1 - 1) k2 D2 ∧ isB D2 ∧ (cd (c1 - 1)).1 = x.1 ∧ Ctx cd P true b' c0 c2 (k - k2) g ∧ f = fun E => g (aoD x.1 D2 E))
theorem Ctx.le {cd : Int → Int × Int} : ∀ {P : PL} {b b' : Bool} {c0 c1 k : Int} {f : Den → Den}, Ctx cd P b b' c0 c1 k f → c0 ≤ c1 ∧ 0 ≤ k := by
  intro P
  induction P with
  | nil => intro b b' c0 c1 k f h; have := h.1; have := h.2.1; omega
  | cons x P ih =>
    intro b b' c0 c1 k f h
    rcases h with ⟨-, -, g, h, -⟩ | ⟨-, c2, k2, D2, g, h1, h, -⟩ | ⟨-, -, c2, k2, D2, g, -, h1, -, -, h, -⟩
    · exact ih h
    · have := ih h; have := h1.lt; omega
    · have := ih h; have := h1.lt; omega
theorem Ctx.congr {cd cd' : Int → Int × Int} : ∀ {P : PL} {b b' : Bool} {c0 c1 k : Int} {f : Den → Den}, Ctx cd P b b' c0 c1 k f → (∀ i, c0 ≤ i → i < c1 → cd' i = cd i) → Ctx cd' P b b' c0 c1 k f := by
  intro P
  induction P with
  | nil => intro b b' c0 c1 k f h _; exact h
  | cons x P ih =>
    intro b b' c0 c1 k f h he
    rcases h with ⟨a, a', g, h, e⟩ | ⟨a, c2, k2, D2, g, h1, h, e⟩ | ⟨a, a', c2, k2, D2, g, a2, h1, hB, a3, h, e⟩
    · exact Or.inl ⟨a, a', g, ih h he, e⟩
    · have := h.le; have := h1.lt
      exact Or.inr (Or.inl ⟨a, c2, k2, D2, g, h1.congr (fun i q0 q1 => he i (by omega) q1), ih h (fun i q0 q1 => he i q0 (by omega)), e⟩)
    · have := h.le; have := h1.lt
      exact Or.inr (Or.inr ⟨a, a', c2, k2, D2, g, a2, h1.congr (fun i q0 q1 => he i (by omega) (by omega)), hB, by rw [he _ (by omega) (by omega)]; exact a3, ih h (fun i q0 q1 => he i q0 (by omega)), e⟩)
theorem Ctx.mono {cd : Int → Int × Int} : ∀ {P : PL} {b1 b b' : Bool} {c0 c1 k : Int} {f : Den → Den}, Ctx cd P b1 b' c0 c1 k f → (b1 = true → b = true) → Ctx cd P b b' c0 c1 k f := by
  intro P
  cases P with
  | nil => intro b1 b b' c0 c1 k f h hb; exact ⟨h.1, h.2.1, h.2.2.1, fun q => hb (h.2.2.2 q)⟩
  | cons x P =>
    intro b1 b b' c0 c1 k f h hb
    rcases h with ⟨a, a', h⟩ | h | ⟨a, a', h⟩
    · exact Or.inl ⟨a, hb a', h⟩
    · exact Or.inr (Or.inl h)
    · exact Or.inr (Or.inr ⟨a, hb a', h⟩)
theorem Ctx.app {cd : Int → Int × Int} {P2 : PL} {b1 b2 : Bool} {c0 c1 k' : Int} {g : Den → Den} (h2 : Ctx cd P2 b1 b2 c0 c1 k' g) : ∀ {P1 : PL} {b : Bool} {c2 k : Int} {f : Den → Den}, Ctx cd P1 b b1 c1 c2 k f → Ctx cd (P1 ++ P2) b b2 c0 c2 (k + k') (fun E => g (f E)) := by
  intro P1
  induction P1 with
  | nil =>
    intro b c2 k f h
    obtain ⟨e1, e2, e3, e4⟩ := h
    subst e1 e2 e3
    have := h2.mono e4
    rw [Int.zero_add]; exact this
  | cons x P ih =>
    intro b c2 k f h
    rcases h with ⟨a, a', g', h, e⟩ | ⟨a, c2, k2, D2, g', h1, h, e⟩ | ⟨a, a', c2, k2, D2, g', a2, h1, hB, a3, h, e⟩
    · exact Or.inl ⟨a, a', _, ih h, by subst e; rfl⟩
    · refine Or.inr (Or.inl ⟨a, c2, k2, D2, fun E => g (g' E), h1, ?_, by subst e; rfl⟩)
      rw [show k + k' - k2 = k - k2 + k' by omega]; exact ih h
    · refine Or.inr (Or.inr ⟨a, a', c2, k2, D2, fun E => g (g' E), a2, h1, hB, a3, ?_, by subst e; rfl⟩)
      rw [show k + k' - k2 = k - k2 + k' by omega]; exact ih h
def FrSt (M M' : mMem) : Prop := ∀ a i, ¬ ((a = 200 ∧ (i = 23 ∨ i = 29)) ∨ a = 211 ∨ a = 212) → M' a i = M a i
theorem FrSt.rf (M : mMem) : FrSt M M := fun _ _ _ => rfl
theorem FrSt.tr {M M' M'' : mMem} (h : FrSt M M') (h' : FrSt M' M'') : FrSt M M'' := fun a i q => (h' a i q).trans (h a i q)
section ST
variable {d : Nat} {S : mSh}
theorem s_binds {M : mMem} {Q : Option mV → mSh → mMem → Prop} {o : Int} (ho : 20 ≤ o) (k : Q (some (vI (bds o))) S M) : e_X9_binds d o S M Q := by
  unfold bds at k
  refine b_X9_binds_0 (fun h => b_X9_binds_10 (fun h1 => b_X9_binds_20 (fun h2 => b_X9_binds_30 (fun h3 => b_X9_binds_40 (fun h4 => b_X9_binds_50 (fun h5 => b_X9_binds_61 ?_) (fun h5 => b_X9_binds_56 ?_)) (fun h4 => b_X9_binds_46 ?_)) (fun h3 => b_X9_binds_36 ?_)) (fun h2 => b_X9_binds_26 ?_)) (fun h1 => b_X9_binds_16 ?_)) (fun h => b_X9_binds_6 ?_)
  · rw [if_neg (by omega), if_neg h1, if_neg h2, if_neg h3, if_neg (by omega), if_neg (by omega)] at k; exact k
  · rw [if_neg (by omega), if_neg h1, if_neg h2, if_neg h3, if_neg (by omega), if_pos h5] at k; exact k
  · rw [if_neg (by omega), if_neg h1, if_neg h2, if_neg h3, if_pos h4] at k; exact k
  · rw [if_neg (by omega), if_neg h1, if_neg h2, if_pos h3] at k; exact k
  · rw [if_neg (by omega), if_neg h1, if_pos h2] at k; exact k
  · rw [if_neg (by omega), if_pos h1] at k; exact k
  · rw [if_pos h] at k; exact k
theorem s_emit (L : Lay S) {M : mMem} {Q : Option mV → mSh → mMem → Prop} {o a c : Int} (hc : M 200 23 = c) (hb : 0 ≤ c ∧ c < 400) (k : Q none S (up (up (up M 211 c o) 212 c a) 200 23 (c + 1))) : e_X9_emit d o a S M Q := by
  subst hc
  exact b_X9_emit_0 L (by omega) k
theorem s_push (L : Lay S) {M : mMem} {Q : Option mV → mSh → mMem → Prop} {o a c : Int} (hc : M 200 29 = c) (hb : 0 ≤ c ∧ c < 400) (k : Q none S (up (up (up M 213 c o) 214 c a) 200 29 (c + 1))) : e_X9_push d o a S M Q := by
  subst hc
  exact b_X9_push_0 L (by omega) k
theorem up3_ne {M : mMem} {a i x y z a' i' b' j' c' k' : Int} (h1 : ¬ (a = a' ∧ i = i')) (h2 : ¬ (a = b' ∧ i = j')) (h3 : ¬ (a = c' ∧ i = k')) : up (up (up M a' i' x) b' j' y) c' k' z a i = M a i := by
  unfold up; rw [if_neg h3, if_neg h2, if_neg h1]
/-- one turn of settling: the step goes out, or is patched -/
theorem s_set1 (L : Lay S) {M : mMem} {Q : Option mV → mSh → mMem → Prop} {x : Int × Int} {P : PL} {lvl : Int} (hp : PileM M (x :: P) (M 200 29)) (hx : okX x) (hs : 0 ≤ M 200 23 ∧ M 200 23 + lnP P + 1 ≤ 400) (hl : lvl ≤ bds x.1)
    (k1 : x.1 = 29 ∨ x.1 = 30 → WP PR (d + 1) 174 0 [vA 200, vI lvl] [] S (up (up M 200 29 (M 200 29 - 1)) 212 x.2 (M 200 23)) Q)
    (k2 : ¬ (x.1 = 29 ∨ x.1 = 30) → WP PR (d + 1) 174 0 [vA 200, vI lvl] [] S (up (up (up (up M 200 29 (M 200 29 - 1)) 211 (M 200 23) x.1) 212 (M 200 23) 0) 200 23 (M 200 23 + 1)) Q) : WP PR (d + 1) 174 0 [vA 200, vI lvl] [] S M Q := by
  have hn := hp.ln
  have := ln_p P
  rw [ln_s] at hn
  obtain ⟨p1, p2, p3⟩ := hp
  have hx0 := hx.1
  refine b_X9_settle_0 L (fun q => absurd q (by omega)) (fun _ => b_X9_settle_7 L (by omega) ?_)
  rw [p1]
  refine s_binds hx0.1 (b_X9_settle_21 (fun q => absurd q (by omega)) (fun _ => b_X9_settle_25 L (by omega) (fun q => ?_) (fun q => b_X9_settle_49 L (by rw [up_s]; omega) (fun q' => ?_) (fun q' => ?_))))
  · rw [p1] at q
    refine b_X9_settle_63 L (by rw [up_s, up_na (by decide), p2]; have := hx.2 (Or.inl q); omega) ?_
    rw [up_s, up_na (show (214 : Int) ≠ 200 by decide), p2, up_ni (show (23 : Int) ≠ 29 by decide)]
    exact k1 (Or.inl q)
  · rw [p1] at q
    rw [up_s, up_na (by decide), p1] at q'
    refine b_X9_settle_84 L (by rw [up_s]; omega) ?_
    rw [up_s, up_na (show (213 : Int) ≠ 200 by decide), p1]
    refine s_emit L (c := M 200 23) (up_ni (by decide)) (by omega) (b_X9_settle_98 (k2 (by omega)))
  · rw [up_s, up_na (by decide), p1] at q'
    refine b_X9_settle_63 L (by rw [up_s, up_na (by decide), p2]; have := hx.2 (Or.inr q'); omega) ?_
    rw [up_s, up_na (show (214 : Int) ≠ 200 by decide), p2, up_ni (show (23 : Int) ≠ 29 by decide)]
    exact k1 (Or.inr q')
theorem pl_mv {M M' : mMem} {x : Int × Int} {P : PL} (hp : PileM M (x :: P) (M 200 29)) (h9 : M' 200 29 = M 200 29 - 1) (h : ∀ i, M' 213 i = M 213 i ∧ M' 214 i = M 214 i) : PileM M' P (M' 200 29) := by
  rw [h9]; exact hp.2.2.congr (fun i _ _ => h i)
/-- settling never goes wrong -/
theorem s_setW (L : Lay S) {Q : Option mV → mSh → mMem → Prop} {lvl : Int} : ∀ (P : PL) (M : mMem), PileM M P (M 200 29) → okP P → (0 ≤ M 200 23 ∧ M 200 23 + lnP P ≤ 400) → (∀ M', FrSt M M' → (0 ≤ M' 200 23 ∧ M' 200 23 ≤ 400) → Q none S M') → WP PR (d + 1) 174 0 [vA 200, vI lvl] [] S M Q := by
  intro P
  induction P with
  | nil =>
    intro M hp _ hs k
    have h0 : M 200 29 = 0 := hp
    rw [ln_0] at hs
    exact b_X9_settle_0 L (fun _ => b_X9_settle_101 (k M (FrSt.rf M) (by omega))) (fun q => absurd q (by omega))
  | cons x P ih =>
    intro M hp ho hs k
    have lp := ln_p P
    rw [ln_s] at hs
    by_cases hl : lvl ≤ bds x.1
    · refine s_set1 L hp ho.1 (by omega) hl (fun q => ih _ (pl_mv hp (by rw [up_na (by decide), up_s]) (fun i => ⟨by rw [up_na (by decide), up_na (by decide)], by rw [up_na (by decide), up_na (by decide)]⟩)) ho.2 (by rw [up_na (by decide), up_ni (by decide)]; omega) (fun M' f' b' => k M' (FrSt.tr (fun a i q => ?_) f') b')) (fun q => ih _ (pl_mv hp (by rw [up_ni (by decide), up_na (by decide), up_na (by decide), up_s]) (fun i => ⟨by rw [up3_ne (by omega) (by omega) (by omega), up_na (by decide)], by rw [up3_ne (by omega) (by omega) (by omega), up_na (by decide)]⟩)) ho.2 (by rw [up_s]; omega) (fun M' f' b' => k M' (FrSt.tr (fun a i q => ?_) f') b'))
      · rw [up_na (by omega)]
        by_cases ea : a = 200
        · subst ea; exact up_ni (by omega)
        · exact up_na ea
      · rw [up3_ne (by omega) (by omega) (by omega)]
        by_cases ea : a = 200
        · subst ea; exact up_ni (by omega)
        · exact up_na ea
    · have hn := hp.ln
      rw [ln_s] at hn
      refine b_X9_settle_0 L (fun q => absurd q (by omega)) (fun _ => b_X9_settle_7 L (by omega) ?_)
      rw [hp.1]
      exact s_binds ho.1.1.1 (b_X9_settle_21 (fun _ => b_X9_settle_101 (k M (FrSt.rf M) (by omega))) (fun q => absurd q hl))
end ST
