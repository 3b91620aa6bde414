/-! The reference's orders behind the reading. -/
/-- cells that a run of orders writes in the reference -/
def FrG (M M' : mMem) : Prop := ∀ a i, ¬ (a = 202 ∨ a = 205 ∨ a = 206 ∨ a = 207 ∨ a = 208 ∨ a = 218 ∨ a = 219 ∨ a = 220 ∨ a = 221 ∨ (a = 200 ∧ (i = 8 ∨ i = 34 ∨ i = 38 ∨ i = 39 ∨ i = 40 ∨ i = 42 ∨ i = 43 ∨ i = 46 ∨ i = 47 ∨ i = 49))) → M' a i = M a i
section MP
variable {d : Nat} {S : mSh} {M : mMem} {Q : Option mV → mSh → mMem → Prop} {TL T : TX} {σ : ST} {h : HI}
/-- a state with another row -/
def reG (σ : ST) (g : Int → Int) : ST := (g, dnS σ, ltS σ, ylS σ, mnS σ)
theorem or_999 (hT : okTO T) (ok : okST σ) (hd : dnS σ ≤ 0) (hy : ylS σ ≤ 1300000000) (h9 : gS σ 5 ≤ 999) : ∀ (k : Nat), (k : Int) ≤ tn T → gS (orN TL T k σ).2 5 ≤ 999 := by
  intro k
  induction k with
  | zero => intro _; exact h9
  | succ k ih =>
    intro hk
    have pb := or_beh (TL := TL) hT ok hd hy k (by omega)
    have n12 := hT.1.2.1
    have o := hT.2 k (by omega) (by omega)
    rw [orN]
    by_cases h1 : (orN TL T k σ).1 = -1
    · rw [if_pos h1]
      exact rp_999 o.1 _ pb.1.1 (by have := pb.1.2.1; have := o.2.1; omega) (by have := pb.1.2.2.1; have := o.2.1; omega) (ih (by omega))
    · rw [if_neg h1]; exact ih (by omega)
theorem s_ordRun (L : Lay S) (m : MS M TL T σ) (hh : HistM h M) (hy : ylS σ ≤ 1300000000) (h9 : gS σ 5 ≤ 999) {u1 u2 u3 : mV}
    (k1 : ∀ M' x1 u3, (orN TL T (tn T).toNat (y0 σ)).1 = -1 → MS M' TL T (orN TL T (tn T).toNat (y0 σ)).2 → HistM (orH TL T (tn T).toNat (y0 σ) h) M' → FrG M M' → WP PR (d + 13) 229 132 [vA 200, vI x1, vI (tn T), u3] [] S M' Q)
    (k0 : ∀ M' x1 x3, (0 ≤ (orN TL T (tn T).toNat (y0 σ)).1 ∧ (orN TL T (tn T).toNat (y0 σ)).1 < tn T) → MS M' TL T (reG (orN TL T (tn T).toNat (y0 σ)).2 (gS σ)) → HistM h M' → FrG M M' → WP PR (d + 13) 229 108 [vA 200, vI x1, vI (orN TL T (tn T).toNat (y0 σ)).1, vI x3] [] S M' Q) : WP PR (d + 13) 229 28 [vA 200, u1, u2, u3] [] S M Q := by
  have hT := m.2.2.1.1
  have ok := m.2.2.2.2.2.2.2.2.2
  have n0 := hT.1.1
  have n12 := hT.1.2.1
  have h8 : M 200 8 = (h.length : Int) := hh.1
  refine b_X9_orders_28 L (s_keepAll L (by decide) ?_)
  generalize hM1 : keepM M 17 = M1
  have f1 : ∀ a i, ¬ (a = 205 ∧ 2805 ≤ i) → M1 a i = M a i := fun a i q => by
    rw [← hM1]; unfold keepM
    by_cases e : a = 205
    · rw [fw_o (by omega)]
    · exact fw_na e
  have s1 : ∀ i, 5 ≤ i → i < 170 → M1 205 (2805 + (i - 5)) = gS σ i := fun i q0 q1 => by
    rw [← hM1, ← m.1]; unfold keepM
    rw [fw_i (by omega)]
    show M 202 (5 + (2805 + (i - 5) - 165 * 17)) = _
    congr 1; omega
  refine b_X9_orders_34 L (s_keepUndos L (fun M2 k7 k8 f2 => b_X9_orders_43 L ?_))
  rw [f1 200 8 (by decide), h8]
  generalize hM3 : up (up M2 200 46 0) 200 47 (-1) = M3
  have f3 : ∀ a i, ¬ ((a = 205 ∧ 2805 ≤ i) ∨ a = 207 ∨ a = 208 ∨ (a = 200 ∧ (i = 46 ∨ i = 47))) → M3 a i = M a i := fun a i q => by
    rw [← hM3]
    have e1 : up (up M2 200 46 0) 200 47 (-1) a i = M2 a i := by
      by_cases e : a = 200
      · rw [up_ni (by omega), up_ni (by omega)]
      · rw [up_na e, up_na e]
    rw [e1, f2 a i (by omega) (by omega)]; exact f1 a i (by omega)
  have m3 : MS M3 TL T (y0 σ) := by
    obtain ⟨h1, h2, h3, h4, h5, h6, h7, h8, h9, h10⟩ := m
    have e223 : M3 223 = M 223 := funext fun i => f3 _ _ (by omega)
    have ecd : cdO M3 = cdO M := funext fun k => by unfold cdO; rw [f3 _ _ (by omega), f3 _ _ (by omega)]
    refine ⟨by rw [show gS (y0 σ) = gS σ from rfl, ← h1]; exact funext fun i => f3 _ _ (by omega), h2, by rw [e223, ecd]; exact h3, by rw [f3 _ _ (by omega)]; exact h4, ?_, ?_, by rw [f3 _ _ (by omega)]; exact h7, by rw [f3 _ _ (by omega)]; exact h8, by rw [f3 _ _ (by omega)]; exact h9, y0_ok h10⟩
    · rw [← hM3, up_ni (by decide), up_s]; rfl
    · rw [← hM3, up_s]; rfl
  have hh3 : HistM h M3 := hh.congr (f3 _ _ (by omega)) (fun i q0 q1 => f3 _ _ (by omega)) (fun i => f3 _ _ (by omega))
  have k37 : ∀ i, 0 ≤ i → i < 2640 → M3 207 i = M 205 i := fun i q0 q1 => by
    rw [← hM3, up_na (by decide), up_na (by decide), k7 i q0 q1]; exact f1 _ _ (by omega)
  have k38 : ∀ i, 0 ≤ i → i < 16 → M3 208 i = M 206 i := fun i q0 q1 => by
    rw [← hM3, up_na (by decide), up_na (by decide), k8 i q0 q1]; exact f1 _ _ (by omega)
  have s3 : ∀ i, 5 ≤ i → i < 170 → M3 205 (2805 + (i - 5)) = gS σ i := fun i q0 q1 => by
    rw [← hM3, up_na (by decide), up_na (by decide), f2 _ _ (by decide) (by decide)]; exact s1 i q0 q1
  have e0 : dnS (y0 σ) = 0 := rfl
  have e1 : ylS (y0 σ) = ylS σ := rfl
  have eg : gS (y0 σ) = gS σ := rfl
  refine for_up (W := fun i => ∀ (M' : mMem) (u3 : mV), (orN TL T i.toNat (y0 σ)).1 = -1 → MS M' TL T (orN TL T i.toNat (y0 σ)).2 → HistM (orH TL T i.toNat (y0 σ) h) M' → FrA M3 M' → WP PR (d + 13) 229 55 [vA 200, vI (h.length : Int), vI i, u3] [] S M' Q) (lo := 0) (hi := tn T) n0 ?_ ?_ M3 u3 rfl m3 hh3 (FrA.rf M3)
  · intro M' u3 ec m' h' f'
    have e21 := m'.2.2.2.1
    exact b_X9_orders_55 L (fun _ => k1 M' _ u3 ec m' h' (fun a i q => by rw [f' a i (by omega)]; exact f3 a i (by omega))) (fun q => absurd q (by omega))
  · intro i h0 h1 ih M' u3 ec m' h' f'
    have e21 := m'.2.2.2.1
    have ei : ((i.toNat : Nat) : Int) = i := by omega
    have en : (i + 1).toNat = i.toNat + 1 := by omega
    have pb := or_beh (TL := TL) hT (y0_ok ok) (by omega) (by omega) i.toNat (by omega)
    have p9 := or_999 (TL := TL) hT (y0_ok ok) (by omega) (by omega) (by rw [eg]; exact h9) i.toNat (by omega)
    have o := hT.2 i h0 h1
    rw [en, orN, orH, ei, if_pos ec, if_pos ec] at ih
    refine b_X9_orders_55 L (fun q => absurd q (by omega)) (fun _ => b_X9_orders_63 ?_)
    refine s_otimes L ⟨h0, h1⟩ o.1 (tt T i).toNat _ _ M' 0 (by have := o.2.1; omega) (by decide) m' h' (by have := pb.1.2.1; have := o.2.1; omega) (by have := pb.1.2.2.1; have := o.2.1; omega) p9 (fun M2' m2 h2 f2' hc => ?_) (fun M2' tt2 m2 f2' hc => ?_)
    · rw [if_neg hc] at ih
      exact b_X9_orders_126 (by omega) (ih M2' _ rfl m2 h2 (f'.tr f2'))
    · have rest : ∀ (n : Nat), i.toNat + 1 + n ≤ (tn T).toNat → orN TL T (i.toNat + 1 + n) (y0 σ) = (i, (rpN TL T i (tt T i).toNat (orN TL T i.toNat (y0 σ)).2).2) := by
        intro n
        induction n with
        | zero => intro _; rw [Nat.add_zero, orN, ei, if_pos ec, if_pos hc]
        | succ n ihn =>
          intro hn
          have a1 := ihn (by omega)
          rw [show i.toNat + 1 + (n + 1) = (i.toNat + 1 + n) + 1 by omega, orN, a1, if_neg (by show ¬ i = -1; omega)]
      have r1 := rest ((tn T).toNat - (i.toNat + 1)) (by omega)
      rw [show i.toNat + 1 + ((tn T).toNat - (i.toNat + 1)) = (tn T).toNat by omega] at r1
      have pbe := or_beh (TL := TL) hT (y0_ok ok) (by omega) (by omega) (tn T).toNat (by omega)
      have fx := pbe.1.2.2.2
      rw [r1] at k0 fx
      have fA := f'.tr f2'
      refine b_X9_orders_103 L (s_giveBack L (fun M4 r4 q5 q6 q8 f4 => k0 M4 _ _ (by show 0 ≤ i ∧ i < tn T; omega) ?_ ?_ (fun a j q => ?_)))
      · obtain ⟨x1, x2, x3, x4, x5, x6, x7, x8, x9, x10⟩ := m2
        have e223 : M4 223 = M2' 223 := funext fun j => f4 _ _ (by omega)
        have ecd : cdO M4 = cdO M2' := funext fun j => by unfold cdO; rw [f4 _ _ (by omega), f4 _ _ (by omega)]
        have er : M4 202 = gS σ := by
          rw [r4, x1]
          funext j
          by_cases hj : 5 ≤ j ∧ j < 5 + 165
          · rw [fwr_i hj, fA 205 _ (by omega)]; exact s3 j (by omega) (by omega)
          · rw [fwr_o (by omega)]; exact fx j (by omega)
        exact ⟨er, m.2.1, by rw [e223, ecd]; exact x3, by rw [f4 _ _ (by omega)]; exact x4, by rw [f4 _ _ (by omega)]; exact x5, by rw [f4 _ _ (by omega)]; exact x6, by rw [f4 _ _ (by omega)]; exact x7, by rw [f4 _ _ (by omega)]; exact x8, by rw [f4 _ _ (by omega)]; exact x9, ⟨ok.1, x10.2.1, x10.2.2.1, x10.2.2.2.1, x10.2.2.2.2⟩⟩
      · refine hh.c2 (by rw [q8, h8]) (fun j q0 q1 => ?_) (fun j q0 q1 => ?_)
        · rw [q5 j q0 q1, fA 207 j (by omega)]; exact k37 j q0 q1
        · rw [q6 j q0 q1, fA 208 j (by omega)]; exact k38 j q0 q1
      · rw [f4 a j (by omega), fA a j (by omega)]; exact f3 a j (by omega)
end MP
/-- what is done doesn't look at how much was bottled, nor how old -/
def eqv (σ σ' : ST) : Prop := gS σ' = gS σ ∧ dnS σ' = dnS σ ∧ ltS σ' = ltS σ
theorem eqv.w {σ σ' : ST} (h : eqv σ σ') : wS σ' = wS σ := by unfold wS; rw [h.1, h.2.1, h.2.2]
theorem eqv.c {TL T : TX} {i : Int} {σ σ' : ST} (h : eqv σ σ') : stC TL T i σ' = stC TL T i σ := by unfold stC; rw [h.w, h.1]
theorem eqv.s {TL T : TX} {i : Int} {σ σ' : ST} (h : eqv σ σ') (hz : stC TL T i σ = 0) : eqv (stS TL T i σ) (stS TL T i σ') := by
  obtain ⟨ht, a, b, c, e0, e1, e2, ho, hs⟩ := stC_0 hz
  have hs' : stS TL T i σ' = stN TL T i σ' a b c := by unfold stS; rw [h.w, e0, e1, e2]
  rw [hs, hs']
  refine ⟨?_, ?_, ?_⟩
  · show opG (tk T i) TL (gS σ') a b c = opG (tk T i) TL (gS σ) a b c; rw [h.1]
  · show dnS σ' + 1 = dnS σ + 1; rw [h.2.1]
  · show (if tk T i = 2 then botM (gS σ') b a else ltS σ') = (if tk T i = 2 then botM (gS σ) b a else ltS σ); rw [h.1, h.2.2]
theorem eqv.rp {TL T : TX} {i : Int} : ∀ (n : Nat) {σ σ' : ST}, eqv σ σ' → (rpN TL T i n σ').1 = (rpN TL T i n σ).1 ∧ eqv (rpN TL T i n σ).2 (rpN TL T i n σ').2 ∧ ∀ h, rpH TL T i n σ' h = rpH TL T i n σ h := by
  intro n
  induction n with
  | zero => intro σ σ' h; exact ⟨rfl, h, fun _ => rfl⟩
  | succ n ih =>
    intro σ σ' h
    rw [rpN, rpN, h.c]
    by_cases hz : stC TL T i σ = 0
    · rw [if_pos hz, if_pos hz]
      obtain ⟨a, b, c⟩ := ih (h.s hz)
      exact ⟨a, b, fun hh => by rw [rpH, rpH, h.c, if_pos hz, if_pos hz, c, h.1]⟩
    · rw [if_neg hz, if_neg hz]
      exact ⟨rfl, h, fun hh => by rw [rpH, rpH, h.c, if_neg hz, if_neg hz]⟩
theorem eqv.or {TL T : TX} {σ σ' : ST} (h : eqv σ σ') : ∀ (k : Nat), (orN TL T k σ').1 = (orN TL T k σ).1 ∧ eqv (orN TL T k σ).2 (orN TL T k σ').2 ∧ ∀ hh, orH TL T k σ' hh = orH TL T k σ hh := by
  intro k
  induction k with
  | zero => exact ⟨rfl, h, fun _ => rfl⟩
  | succ k ih =>
    obtain ⟨a, b, c⟩ := ih
    obtain ⟨d, e, f⟩ := eqv.rp (TL := TL) (T := T) (i := k) (tt T k).toNat b
    rw [orN, orN, a]
    by_cases h1 : (orN TL T k σ).1 = -1
    · rw [if_pos h1, if_pos h1, d]
      exact ⟨rfl, e, fun hh => by rw [orH, orH, a, if_pos h1, if_pos h1, f, c]⟩
    · rw [if_neg h1, if_neg h1]
      exact ⟨a, b, fun hh => by rw [orH, orH, a, if_neg h1, if_neg h1, c]⟩
