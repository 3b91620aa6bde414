/-! Public methods, both sides: canBe, taste. -/
theorem las_nn {p : Int → Bool} (h : p 0 = true) {m : Int} (hm : 0 < m) : 0 ≤ lasI p m := by
  have : m = 0 ∨ 0 ≤ lasI p m := sm_ind (P := fun i => i = 0 ∨ 0 ≤ lasI p i) (n := m) (by omega) (Or.inl rfl) (fun i q0 q1 ih => by
    refine Or.inr ?_
    rw [las_s p q0]
    by_cases w : p i = true
    · rw [if_pos w]; exact q0
    · rw [if_neg w]
      rcases ih with e | e
      · rw [e] at w; exact absurd h w
      · exact e)
  omega
theorem lab_nn {g : Int → Int} (ok : okS g) {c : Int} (hc : 0 ≤ c ∧ c < 8) (hz : 1 ≤ allG g c) : 0 ≤ labG g c ∧ labG g c ≤ 1000000 := by
  have ab := ok.all hc
  have e0 : oldG g c 0 = allG g c := by unfold oldG; rw [sm_0]; omega
  have mm := Int.mul_le_mul_of_nonneg_left ok.p.2 ab.1
  have p0 : decide (allG g c * g 8 ≤ 100 * oldG g c 0) = true := by rw [e0]; exact decide_eq_true (by omega)
  unfold labG
  rw [if_neg (by omega)]
  refine ⟨las_nn (p := fun a => decide (allG g c * g 8 ≤ 100 * oldG g c a)) p0 (by decide), ?_⟩
  have : ∀ (m : Nat), lastB (fun a => decide (allG g c * g 8 ≤ 100 * oldG g c a)) m ≤ (m : Int) := by
    intro m
    induction m with
    | zero => show (-1 : Int) ≤ 0; decide
    | succ m ih =>
      show (if decide (allG g c * g 8 ≤ 100 * oldG g c (m : Int)) = true then (m : Int) else lastB _ m) ≤ ((m + 1 : Nat) : Int)
      split <;> omega
  have := this 20
  show lastB (fun a => decide (allG g c * g 8 ≤ 100 * oldG g c a)) 20 ≤ 1000000
  omega
def tfG (g : Int → Int) (c f : Int) : Int := if f = 1 then (allG g c).tdiv 1000 else if allG g c < 1 then 999 else if f = 0 then (meanG g c).tdiv 1000 else labG g c
/-- whether a cask fits the first k tastings -/
def fitN (g : Int → Int) (c : Int) : Nat → Bool
  | 0 => true
  | k + 1 => fitN g c k && decide (tfG g c (g (186 + 2 * (k : Int))) = g (187 + 2 * (k : Int)))
theorem fit_f {g : Int → Int} {c : Int} {k : Nat} (h : fitN g c k = false) : ∀ m, k ≤ m → fitN g c m = false := by
  intro m hm
  induction m with
  | zero => rw [show k = 0 by omega] at h; exact h
  | succ m ih =>
    by_cases q : k = m + 1
    · rw [← q]; exact h
    · show (fitN g c m && _) = false
      rw [ih (by omega)]; rfl
/-- which casks it can be, as bits, of the first k -/
def cbN (g : Int → Int) : Nat → Int
  | 0 => 0
  | k + 1 => if fitN g (k : Int) (g 1).toNat = true then bor (cbN g k) (bshl 1 (k : Int)) else cbN g k
theorem bor_rng (x y : Int) : R32 (bor x y) := by
  unfold bor
  have h1 := Int32.toInt_lt (Int32.ofInt x ||| Int32.ofInt y)
  have h2 := Int32.le_toInt (Int32.ofInt x ||| Int32.ofInt y)
  omega
theorem bor_0 {x : Int} (h : R32 x) : bor x 0 = x := by
  unfold bor
  have e : Int32.ofInt x ||| Int32.ofInt 0 = Int32.ofInt x := by
    apply Int32.toBitVec.inj
    show (Int32.ofInt x).toBitVec ||| 0#32 = (Int32.ofInt x).toBitVec
    exact BitVec.or_zero
  rw [e]
  exact Int32.toInt_ofInt_of_le (by omega) (by omega)
theorem cb_rng (g : Int → Int) : ∀ k, R32 (cbN g k)
  | 0 => by show R32 0; omega
  | k + 1 => by
    show R32 (if fitN g (k : Int) (g 1).toNat = true then bor (cbN g k) (bshl 1 (k : Int)) else cbN g k)
    by_cases q : fitN g (k : Int) (g 1).toNat = true
    · rw [if_pos q]; exact bor_rng _ _
    · rw [if_neg q]; exact cb_rng g k
theorem one_b (w : Int32) : (w &&& Int32.ofInt 1).toInt = 1 ↔ w.toBitVec.getLsbD 0 = true := by
  have h1 : (w &&& Int32.ofInt 1).toInt = (w.toBitVec &&& 1#32).toInt := rfl
  rw [h1, BitVec.and_one_eq_setWidth_ofBool_getLsbD]
  cases w.toBitVec.getLsbD 0 <;> decide
theorem bit2 (x i j : Int) : band (band (bshr x i) (bshr x j)) 1 = 1 ↔ (band (bshr x i) 1 = 1 ∧ band (bshr x j) 1 = 1) := by
  unfold band bshr
  rw [Int32.ofInt_toInt, Int32.ofInt_toInt, Int32.ofInt_toInt, one_b, one_b, one_b]
  have e : ∀ a b : Int32, (a &&& b).toBitVec.getLsbD 0 = (a.toBitVec.getLsbD 0 && b.toBitVec.getLsbD 0) := fun a b => BitVec.getLsbD_and
  rw [e, Bool.and_eq_true]
/-- how many of the first k casks taste as cask c -/
def alN (g : Int → Int) (b c f : Int) : Nat → Int
  | 0 => 0
  | k + 1 => alN g b c f k + (if (band (bshr b c) 1 = 1 ∧ band (bshr b (k : Int)) 1 = 1) ∧ tfG g (k : Int) f = tfG g c f then 1 else 0)
def maN (g : Int → Int) (b f : Int) : Nat → Int
  | 0 => 0
  | k + 1 => if maN g b f k < alN g b (k : Int) f (g 0).toNat then alN g b (k : Int) f (g 0).toNat else maN g b f k
theorem al_bd (g : Int → Int) (b c f : Int) : ∀ k : Nat, 0 ≤ alN g b c f k ∧ alN g b c f k ≤ k
  | 0 => by show (0 : Int) ≤ 0 ∧ (0 : Int) ≤ ((0 : Nat) : Int); omega
  | k + 1 => by
    have ih := al_bd g b c f k
    show 0 ≤ alN g b c f k + (if _ then 1 else 0) ∧ alN g b c f k + (if _ then 1 else 0) ≤ ((k + 1 : Nat) : Int)
    split <;> omega
theorem ma_bd {g : Int → Int} (ok : okS g) (b f : Int) : ∀ k : Nat, 0 ≤ maN g b f k ∧ maN g b f k ≤ 8
  | 0 => by show (0 : Int) ≤ 0 ∧ (0 : Int) ≤ 8; omega
  | k + 1 => by
    have ih := ma_bd ok b f k
    have := al_bd g b (k : Int) f (g 0).toNat
    have := ok.n
    show 0 ≤ (if maN g b f k < alN g b (k : Int) f (g 0).toNat then alN g b (k : Int) f (g 0).toNat else maN g b f k) ∧ (if maN g b f k < alN g b (k : Int) f (g 0).toNat then alN g b (k : Int) f (g 0).toNat else maN g b f k) ≤ (8 : Int)
    split <;> omega
section TA
variable {n : Int} {d : Nat} {S : mSh} {M M' : mMem} {Q : Option mV → mSh → mMem → Prop}
theorem c_factOf (L : Lay S) {g : Int → Int} (hr : StkR g 9 M) (ok : okS g) {c f : Int} (c8 : 0 ≤ c ∧ c < 8) (k : Q (some (vI (tfG g c f))) S M) : e_X8_factOf (d + 1) c f S M Q := by
  have hs := lStk9 L
  have eA : M 12 c = allG g c := hr.a c8
  unfold tfG at k
  refine b_X8_factOf_0 (fun q1 => ?_) (fun q1 => b_X8_factOf_5 L (c_measures hs hr ok c8 (b_X8_factOf_16 (by rw [if_pos q1] at k; exact k))))
  rw [if_neg q1] at k
  refine b_X8_factOf_17 L c8 (fun q2 => ?_) (fun q2 => b_X8_factOf_33 (by rw [eA] at q2; rw [if_pos q2] at k; exact k))
  rw [eA] at q2
  rw [if_neg (by omega)] at k
  have mb : 0 ≤ meanG g c ∧ meanG g c ≤ 19000 := by unfold meanG; rw [if_neg (by omega)]; exact mean_bd ok.D c8 (by omega)
  refine b_X8_factOf_37 (fun q3 => b_X8_factOf_59 L (c_label hs hr ok c8 (b_X8_factOf_70 (by rw [if_neg q3] at k; exact k)))) (fun q3 => b_X8_factOf_41 L (c_mean hs hr ok c8 (b_X8_factOf_52 ?_ (by rw [if_pos q3] at k; exact k))))
  have := md_bd (s := meanG g c) (k := 1000) mb.1 (by decide)
  omega
theorem s_tasteOf (L : Lay S) {g : Int → Int} (hg : M 202 = g) (ok : okS g) {c f : Int} (c8 : 0 ≤ c ∧ c < 8) (k : Q (some (vI (tfG g c f))) S M) : e_X9_tasteOf (d + 4) c f S M Q := by
  subst hg
  have ab := ok.all c8
  unfold tfG at k
  refine b_X9_tasteOf_0 (fun q0 => b_X9_tasteOf_12 (fun q1 => b_X9_tasteOf_29 L (s_labelOf L ok.D ok.p c8 ?_)) (fun q1 => b_X9_tasteOf_17 L (s_allOf L ok.D c8 ?_))) (fun q0 => b_X9_tasteOf_4 L (s_wholeMean L ok.D c8 ?_))
  · rw [if_neg q1] at k
    by_cases q2 : allG (M 202) c < 1
    · rw [if_pos q2] at k
      have e : labG (M 202) c = -1 := by unfold labG; rw [if_pos (by omega)]
      exact b_X9_tasteOf_34 (fun w => absurd e w) (fun _ => b_X9_tasteOf_40 k)
    · rw [if_neg q2, if_neg q0] at k
      have := lab_nn ok c8 (by omega)
      exact b_X9_tasteOf_34 (fun _ => b_X9_tasteOf_46 k) (fun w => absurd w (by omega))
  · rw [if_pos q1] at k
    have := md_bd (s := allG (M 202) c) (k := 1000) ab.1 (by decide)
    exact b_X9_tasteOf_22 (by omega) (fun _ => b_X9_tasteOf_46 k) (fun w => absurd w (by omega))
  · rw [if_neg (by omega)] at k
    by_cases q2 : allG (M 202) c < 1
    · rw [if_pos q2] at k
      have e : wmG (M 202) c = -1 := by unfold wmG; rw [if_pos (by omega)]
      exact b_X9_tasteOf_9 (fun w => absurd e w) (fun _ => b_X9_tasteOf_40 k)
    · rw [if_neg q2, if_pos q0] at k
      have e : wmG (M 202) c = (meanG (M 202) c).tdiv 1000 := by unfold wmG meanG; rw [if_neg (by omega), if_neg (by omega)]
      have mb : 0 ≤ meanG (M 202) c ∧ meanG (M 202) c ≤ 19000 := by unfold meanG; rw [if_neg (by omega)]; exact mean_bd ok.D c8 (by omega)
      have := md_bd (s := meanG (M 202) c) (k := 1000) mb.1 (by decide)
      rw [e]
      exact b_X9_tasteOf_9 (fun _ => b_X9_tasteOf_46 k) (fun w => absurd w (by omega))
theorem c_fits (h : CP n S M) {c : Int} (c8 : 0 ≤ c ∧ c < 8) (k : Q (some (vI (if fitN (M 202) c (M 202 1).toNat = true then 1 else 0))) S M) : e_X8_fitsAllTasted (d + 2) c S M Q := by
  have L := h.lay
  have hc := h.cnt
  have tst := h.sta.2.2.2.2.2
  have key := for_up (W := fun j => fitN (M 202) c j.toNat = true → WP PR (d + 2) 128 2 [vA 1, vI c, vI j] [] S M Q) (lo := 0) (hi := M 202 1) hc.1.1 (fun hb => b_X8_fitsAllTasted_2 L (fun _ => b_X8_fitsAllTasted_47 (by rw [if_pos hb] at k; exact k)) (fun q => absurd q (by rw [hc.1.2.2]; omega))) (fun j j0 j1 ih hb => b_X8_fitsAllTasted_2 L (fun q => absurd q (by rw [hc.1.2.2]; omega)) (fun _ => b_X8_fitsAllTasted_13 L (by have := hc.1; omega) (c_factOf L h.r h.ok c8 (b_X8_fitsAllTasted_27 L (by have := hc.1; omega) (fun q => b_X8_fitsAllTasted_41 (by have := hc.1; omega) (ih ?_)) (fun q => b_X8_fitsAllTasted_39 ?_)))))
  · exact b_X8_fitsAllTasted_0 (key rfl)
  all_goals obtain ⟨t1, t2, t3, t4⟩ := tst j j0 j1
  all_goals have t1 : M 21 j = M 202 (186 + 2 * j) := t1
  all_goals have t2 : M 22 j = M 202 (187 + 2 * j) := t2
  all_goals rw [t1, t2] at q
  all_goals have ej : ((j.toNat : Nat) : Int) = j := by omega
  · rw [show (j + 1).toNat = j.toNat + 1 by omega]
    show (fitN (M 202) c j.toNat && decide (tfG (M 202) c (M 202 (186 + 2 * ((j.toNat : Nat) : Int))) = M 202 (187 + 2 * ((j.toNat : Nat) : Int)))) = true
    rw [hb, ej, q]; simp
  · have f1 : fitN (M 202) c (j.toNat + 1) = false := by
      show (fitN (M 202) c j.toNat && decide (tfG (M 202) c (M 202 (186 + 2 * ((j.toNat : Nat) : Int))) = M 202 (187 + 2 * ((j.toNat : Nat) : Int)))) = false
      rw [hb, ej, decide_eq_false q]; rfl
    have := fit_f f1 (M 202 1).toNat (by omega)
    rw [if_neg (by rw [this]; decide)] at k
    exact k
theorem c_canBe (h : CP n S M) (k : Q (some (vI (cbN (M 202) (M 202 0).toNat))) S M) : e_X8_canBe (d + 3) S M Q := by
  have L := h.lay
  have n0 := h.ok.n
  have e9 : M 9 6 = M 202 0 := h.r.n
  have key := for_up (W := fun j => WP PR (d + 3) 109 4 [vA 1, vI (cbN (M 202) j.toNat), vI j] [] S M Q) (lo := 0) (hi := M 202 0) n0.1 (b_X8_canBe_4 L (fun _ => b_X8_canBe_38 k) (fun q => absurd q (by rw [e9]; omega))) (fun j j0 j1 ih => b_X8_canBe_4 L (fun q => absurd q (by rw [e9]; omega)) (fun _ => b_X8_canBe_18 L (c_fits h (by omega) ?_)))
  · exact b_X8_canBe_0 key
  · have ej : ((j.toNat : Nat) : Int) = j := by omega
    have es : cbN (M 202) (j + 1).toNat = if fitN (M 202) j (M 202 1).toNat = true then bor (cbN (M 202) j.toNat) (bshl 1 j) else cbN (M 202) j.toNat := by
      rw [show (j + 1).toNat = j.toNat + 1 by omega]
      show (if fitN (M 202) ((j.toNat : Nat) : Int) (M 202 1).toNat = true then bor (cbN (M 202) j.toNat) (bshl 1 ((j.toNat : Nat) : Int)) else cbN (M 202) j.toNat) = _
      rw [ej]
    rw [es] at ih
    by_cases q : fitN (M 202) j (M 202 1).toNat = true
    · rw [if_pos q] at ih ⊢
      exact b_X8_canBe_23 (fun w => absurd w (by decide)) (fun _ => b_X8_canBe_26 (by omega) ih)
    · rw [if_neg q] at ih ⊢
      exact b_X8_canBe_23 (fun _ => b_X8_canBe_32 (by omega) ih) (fun w => absurd rfl w)
theorem s_thatCanBe (L : Lay S) {g : Int → Int} (hg : M 202 = g) (ok : okS g) (h1 : 0 ≤ g 1 ∧ g 1 ≤ 6) (k : Q (some (vI (cbN g (g 0).toNat))) S M) : e_X9_thatCanBe (d + 5) S M Q := by
  have n0 := ok.n
  have key := for_up (W := fun j => ∀ u3 u4, WP PR (d + 5) 246 4 [vA 200, vI (cbN g j.toNat), vI j, u3, u4] [] S M Q) (lo := 0) (hi := g 0) n0.1 (fun u3 u4 => b_X9_thatCanBe_4 L (fun _ => b_X9_thatCanBe_102 k) (fun q => absurd q (by rw [hg]; omega))) (fun j j0 j1 ih u3 u4 => b_X9_thatCanBe_4 L (fun q => absurd q (by rw [hg]; omega)) (fun _ => b_X9_thatCanBe_14 ?_))
  · exact b_X9_thatCanBe_0 (key _ _)
  · have ej : ((j.toNat : Nat) : Int) = j := by omega
    have es : cbN g (j + 1).toNat = if fitN g j (g 1).toNat = true then bor (cbN g j.toNat) (bshl 1 j) else cbN g j.toNat := by
      rw [show (j + 1).toNat = j.toNat + 1 by omega]
      show (if fitN g ((j.toNat : Nat) : Int) (g 1).toNat = true then bor (cbN g j.toNat) (bshl 1 ((j.toNat : Nat) : Int)) else cbN g j.toNat) = _
      rw [ej]
    rw [es] at ih
    have rg := cb_rng g j.toNat
    have key2 := for_up (W := fun i => ∀ x3, x3 = (if fitN g j i.toNat = true then 1 else 0) → WP PR (d + 5) 246 19 [vA 200, vI (cbN g j.toNat), vI j, vI x3, vI i] [] S M Q) (lo := 0) (hi := g 1) h1.1 (fun x3 e => b_X9_thatCanBe_19 L (fun _ => ?_) (fun q => absurd q (by rw [hg]; omega))) (fun i i0 i1 ih2 x3 e => b_X9_thatCanBe_19 L (fun q => absurd q (by rw [hg]; omega)) (fun _ => ?_))
    · exact key2 1 (if_pos (rfl : fitN g j (Int.toNat 0) = true)).symm
    · by_cases q : fitN g j (g 1).toNat = true
      · rw [if_pos q] at e ih
        subst e
        exact b_X9_thatCanBe_82 (fun w => absurd w (by decide)) (fun _ => b_X9_thatCanBe_87 (by omega) (ih _ _))
      · rw [if_neg q] at e ih
        subst e
        refine b_X9_thatCanBe_82 (fun _ => b_X9_thatCanBe_93 (by omega) ?_) (fun w => absurd rfl w)
        rw [bor_0 rg]; exact ih _ _
    · have ei : ((i.toNat : Nat) : Int) = i := by omega
      have fs : fitN g j (i + 1).toNat = (fitN g j i.toNat && decide (tfG g j (g (186 + 2 * i)) = g (187 + 2 * i))) := by
        rw [show (i + 1).toNat = i.toNat + 1 by omega]
        show (fitN g j i.toNat && decide (tfG g j (g (186 + 2 * ((i.toNat : Nat) : Int))) = g (187 + 2 * ((i.toNat : Nat) : Int)))) = _
        rw [ei]
      rw [fs] at ih2
      by_cases q : fitN g j i.toNat = true
      · rw [if_pos q] at e
        subst e
        refine b_X9_thatCanBe_30 (fun w => absurd w (by decide)) (fun _ => b_X9_thatCanBe_34 L (by omega) (s_tasteOf L hg ok (by omega) (b_X9_thatCanBe_52 L (by omega) (fun w => b_X9_thatCanBe_74 (by omega) (ih2 0 ?_)) (fun w => b_X9_thatCanBe_70 (by omega) (ih2 1 ?_)))))
        · rw [hg, show 186 + 2 * i + 1 = 187 + 2 * i by omega] at w
          rw [decide_eq_false w, Bool.and_false]; rfl
        · rw [hg, show 186 + 2 * i + 1 = 187 + 2 * i by omega] at w
          rw [decide_eq_true w, q]; rfl
      · rw [if_neg q] at e
        subst e
        have qf : fitN g j i.toNat = false := by cases h : fitN g j i.toNat with | true => exact absurd h q | false => rfl
        exact b_X9_thatCanBe_30 (fun _ => b_X9_thatCanBe_74 (by omega) (ih2 0 (by rw [qf]; rfl))) (fun w => absurd rfl w)
theorem t_canBe : TwoI n (e_X8_canBe (d + 3)) (e_X9_canBe (d + 6)) := fun S M h hn => by
  have L := h.lay
  have e2 : up M 200 0 0 202 = M 202 := funext fun i => up1_ne (by omega)
  exact c_canBe h ⟨_, rfl, b_X9_canBe_0 L (s_thatCanBe L e2 h.ok (by have := h.cnt.1; omega) (b_X9_canBe_9 ⟨rfl, h.th hn⟩))⟩
theorem c_mostAlike (h : CP n S M) {f b : Int} (k : Q (some (vI (maN (M 202) b f (M 202 0).toNat))) S M) : e_X8_mostAlike (d + 2) f b S M Q := by
  have L := h.lay
  have ok := h.ok
  have n0 := ok.n
  have e9 : M 9 6 = M 202 0 := h.r.n
  have key := for_up (W := fun j => ∀ u5 u6 u7, WP PR (d + 2) 130 5 [vA 1, vI f, vI b, vI (maN (M 202) b f j.toNat), vI j, u5, u6, u7] [] S M Q) (lo := 0) (hi := M 202 0) n0.1 (fun u5 u6 u7 => b_X8_mostAlike_5 L (fun _ => b_X8_mostAlike_107 k) (fun q => absurd q (by rw [e9]; omega))) (fun j j0 j1 ih u5 u6 u7 => b_X8_mostAlike_5 L (fun q => absurd q (by rw [e9]; omega)) (fun _ => b_X8_mostAlike_20 ?_))
  · exact b_X8_mostAlike_0 (key _ _ _)
  · have ej : ((j.toNat : Nat) : Int) = j := by omega
    have es : maN (M 202) b f (j + 1).toNat = if maN (M 202) b f j.toNat < alN (M 202) b j f (M 202 0).toNat then alN (M 202) b j f (M 202 0).toNat else maN (M 202) b f j.toNat := by
      rw [show (j + 1).toNat = j.toNat + 1 by omega]
      show (if maN (M 202) b f j.toNat < alN (M 202) b ((j.toNat : Nat) : Int) f (M 202 0).toNat then alN (M 202) b ((j.toNat : Nat) : Int) f (M 202 0).toNat else maN (M 202) b f j.toNat) = _
      rw [ej]
    rw [es] at ih
    have key2 := for_up (W := fun i => ∀ u7, WP PR (d + 2) 130 26 [vA 1, vI f, vI b, vI (maN (M 202) b f j.toNat), vI j, vI (alN (M 202) b j f i.toNat), vI i, u7] [] S M Q) (lo := 0) (hi := M 202 0) n0.1 (fun u7 => b_X8_mostAlike_26 L (fun _ => b_X8_mostAlike_94 (by omega) (ih _ _ _)) (fun q => absurd q (by rw [e9]; omega))) (fun i i0 i1 ih2 u7 => b_X8_mostAlike_26 L (fun q => absurd q (by rw [e9]; omega)) (fun _ => ?_))
    · exact key2 _
    · have ei : ((i.toNat : Nat) : Int) = i := by omega
      have ab := al_bd (M 202) b j f i.toNat
      have as : alN (M 202) b j f (i + 1).toNat = alN (M 202) b j f i.toNat + (if (band (bshr b j) 1 = 1 ∧ band (bshr b i) 1 = 1) ∧ tfG (M 202) i f = tfG (M 202) j f then 1 else 0) := by
        rw [show (i + 1).toNat = i.toNat + 1 by omega]
        show alN (M 202) b j f i.toNat + (if (band (bshr b j) 1 = 1 ∧ band (bshr b ((i.toNat : Nat) : Int)) 1 = 1) ∧ tfG (M 202) ((i.toNat : Nat) : Int) f = tfG (M 202) j f then 1 else 0) = _
        rw [ei]
      rw [as] at ih2
      refine b_X8_mostAlike_41 (fun q => b_X8_mostAlike_60 (by omega) ?_) (fun q => b_X8_mostAlike_56 L (c_factOf L h.r ok (by omega) (b_X8_mostAlike_75 L (c_factOf L h.r ok (by omega) (b_X8_mostAlike_82 (fun q2 => b_X8_mostAlike_88 (by omega) ?_) (fun q2 => b_X8_mostAlike_85 (by omega) ?_))))))
      · rw [if_neg (fun w => q ((bit2 b j i).mpr w.1)), Int.add_zero] at ih2; exact ih2 _
      · rw [if_neg (fun w => q2 w.2.symm), Int.add_zero] at ih2; exact ih2 _
      · rw [if_pos ⟨(bit2 b j i).mp q, q2.symm⟩] at ih2; exact ih2 _
theorem s_is {b c : Int} (k1 : band (bshr b c) 1 = 1 → Q (some (vI 1)) S M) (k0 : ¬ band (bshr b c) 1 = 1 → Q (some (vI 0)) S M) : e_X9_is d b c S M Q := b_X9_is_0 (fun q => b_X9_is_13 (k0 q)) (fun q => b_X9_is_9 (k1 q))
theorem s_mostAlike (L : Lay S) {g : Int → Int} (hg : M 202 = g) (ok : okS g) {f b : Int} (k : Q (some (vI (maN g b f (g 0).toNat))) S M) : e_X9_mostAlike (d + 5) b f S M Q := by
  have n0 := ok.n
  have key := for_up (W := fun j => ∀ u5 u6, WP PR (d + 5) 248 5 [vA 200, vI b, vI f, vI (maN g b f j.toNat), vI j, u5, u6] [] S M Q) (lo := 0) (hi := g 0) n0.1 (fun u5 u6 => b_X9_mostAlike_5 L (fun _ => b_X9_mostAlike_103 k) (fun q => absurd q (by rw [hg]; omega))) (fun j j0 j1 ih u5 u6 => b_X9_mostAlike_5 L (fun q => absurd q (by rw [hg]; omega)) (fun _ => b_X9_mostAlike_16 ?_))
  · exact b_X9_mostAlike_0 (key _ _)
  · have ej : ((j.toNat : Nat) : Int) = j := by omega
    have es : maN g b f (j + 1).toNat = if maN g b f j.toNat < alN g b j f (g 0).toNat then alN g b j f (g 0).toNat else maN g b f j.toNat := by
      rw [show (j + 1).toNat = j.toNat + 1 by omega]
      show (if maN g b f j.toNat < alN g b ((j.toNat : Nat) : Int) f (g 0).toNat then alN g b ((j.toNat : Nat) : Int) f (g 0).toNat else maN g b f j.toNat) = _
      rw [ej]
    rw [es] at ih
    have key2 := for_up (W := fun i => WP PR (d + 5) 248 22 [vA 200, vI b, vI f, vI (maN g b f j.toNat), vI j, vI (alN g b j f i.toNat), vI i] [] S M Q) (lo := 0) (hi := g 0) n0.1 (b_X9_mostAlike_22 L (fun _ => b_X9_mostAlike_84 (fun q => b_X9_mostAlike_95 (by omega) (by rw [if_neg (by omega)] at ih; exact ih _ _)) (fun q => b_X9_mostAlike_90 (by omega) (by rw [if_pos q] at ih; exact ih _ _))) (fun q => absurd q (by rw [hg]; omega))) (fun i i0 i1 ih2 => b_X9_mostAlike_22 L (fun q => absurd q (by rw [hg]; omega)) (fun _ => ?_))
    · exact key2
    · have ei : ((i.toNat : Nat) : Int) = i := by omega
      have ab := al_bd g b j f i.toNat
      have as : alN g b j f (i + 1).toNat = alN g b j f i.toNat + (if (band (bshr b j) 1 = 1 ∧ band (bshr b i) 1 = 1) ∧ tfG g i f = tfG g j f then 1 else 0) := by
        rw [show (i + 1).toNat = i.toNat + 1 by omega]
        show alN g b j f i.toNat + (if (band (bshr b j) 1 = 1 ∧ band (bshr b ((i.toNat : Nat) : Int)) 1 = 1) ∧ tfG g ((i.toNat : Nat) : Int) f = tfG g j f then 1 else 0) = _
        rw [ei]
      rw [as] at ih2
      have no : ¬ ((band (bshr b j) 1 = 1 ∧ band (bshr b i) 1 = 1) ∧ tfG g i f = tfG g j f) → WP PR (d + 5) 248 74 [vA 200, vI b, vI f, vI (maN g b f j.toNat), vI j, vI (alN g b j f i.toNat), vI i] [vI (alN g b j f i.toNat)] S M Q := fun q => b_X9_mostAlike_74 (by omega) (by rw [if_neg q] at ih2; exact ih2)
      refine b_X9_mostAlike_33 (s_is (fun q => b_X9_mostAlike_41 (fun w => absurd w (by decide)) (fun _ => b_X9_mostAlike_44 (s_is (fun q2 => b_X9_mostAlike_50 (fun w => absurd w (by decide)) (fun _ => b_X9_mostAlike_53 L (s_tasteOf L hg ok (by omega) (b_X9_mostAlike_60 L (s_tasteOf L hg ok (by omega) (b_X9_mostAlike_67 (fun q3 => no (fun w => q3 w.2)) (fun q3 => b_X9_mostAlike_70 (by omega) ?_))))))) (fun q2 => b_X9_mostAlike_50 (fun _ => no (fun w => q2 w.1.2)) (fun w => absurd rfl w))))) (fun q => b_X9_mostAlike_41 (fun _ => no (fun w => q w.1.1)) (fun w => absurd rfl w)))
      rw [if_pos ⟨⟨q, q2⟩, q3⟩] at ih2; exact ih2
theorem t_taste {w : Int} : TwoI n (e_X8_taste (d + 4) w) (e_X9_taste (d + 6) w) := fun S M h hn => by
  have L := h.lay
  have ok := h.ok
  have T0 := h.th hn
  have e2 : up M 200 0 0 202 = M 202 := funext fun i => up1_ne (by omega)
  have h1 : 0 ≤ M 202 1 ∧ M 202 1 ≤ 6 := by have := h.cnt.1; omega
  generalize hb : cbN (M 202) (M 202 0).toNat = b
  have ma := fun f => ma_bd ok b f (M 202 0).toNat
  obtain ⟨m0, hm0⟩ : ∃ m0, maN (M 202) b 0 (M 202 0).toNat = m0 := ⟨_, rfl⟩
  obtain ⟨m1, hm1⟩ : ∃ m1, maN (M 202) b 1 (M 202 0).toNat = m1 := ⟨_, rfl⟩
  obtain ⟨m2, hm2⟩ : ∃ m2, maN (M 202) b 2 (M 202 0).toNat = m2 := ⟨_, rfl⟩
  have z0 := ma 0; rw [hm0] at z0
  have z1 := ma 1; rw [hm1] at z1
  have z2 := ma 2; rw [hm2] at z2
  have no : ¬ (¬ b = 0 ∧ (0 ≤ w ∧ w ≤ 1)) → e_X9_taste (d + 6) w S M (fun r2 S2 M2 => r2 = some (vI (-1)) ∧ CP (n + 1) S2 M2) := fun q => by
    refine b_X9_taste_0 L (s_thatCanBe L e2 ok h1 ?_)
    rw [hb]
    exact b_X9_taste_9 (s_in (fun q1 => b_X9_taste_17 (fun e => absurd e (by decide)) (fun _ => b_X9_taste_20 (fun q2 => absurd ⟨q2, q1⟩ q) (fun _ => b_X9_taste_24 ⟨rfl, T0⟩))) (fun q1 => b_X9_taste_17 (fun _ => b_X9_taste_24 ⟨rfl, T0⟩) (fun e => absurd rfl e)))
  -- the reference comes to fact F and fewest W
  have yes : ∀ F W : Int, (¬ b = 0 ∧ (0 ≤ w ∧ w ≤ 1)) → ((F = 0 ∧ W = m0 ∧ m0 ≤ m1 ∧ m0 ≤ m2) ∨ (F = 1 ∧ W = m1 ∧ m1 < m0 ∧ m1 ≤ m2) ∨ (F = 2 ∧ W = m2 ∧ m2 < m0 ∧ m2 < m1)) → e_X9_taste (d + 6) w S M (fun r2 S2 M2 => r2 = some (vI (if w = 0 then F else W)) ∧ CP (n + 1) S2 M2) := fun F W q hFW => by
    refine b_X9_taste_0 L (s_thatCanBe L e2 ok h1 ?_)
    rw [hb]
    refine b_X9_taste_9 (s_in (fun _ => b_X9_taste_17 (fun e => absurd e (by decide)) (fun _ => b_X9_taste_20 (fun _ => b_X9_taste_26 ?_) (fun e => absurd e q.1))) (fun q1 => absurd q.2 q1))
    have fin : ∀ x5 u, x5 = 3 → WP PR (d + 6) 249 36 [vA 200, vI w, vI b, vI W, vI F, vI x5, u] [] S (up M 200 0 0) (fun r2 S2 M2 => r2 = some (vI (if w = 0 then F else W)) ∧ CP (n + 1) S2 M2) := fun x5 u e => b_X9_taste_36 (fun _ => b_X9_taste_85 (fun e => b_X9_taste_94 ⟨by rw [if_neg e], T0⟩) (fun e => b_X9_taste_89 ⟨by rw [if_pos e], T0⟩)) (fun e => absurd e (by omega))
    -- one turn
    have turn : ∀ x3 x4 x5 mm u, 0 ≤ x5 ∧ x5 < 3 → maN (M 202) b x5 (M 202 0).toNat = mm → (mm < x3 → WP PR (d + 6) 249 36 [vA 200, vI w, vI b, vI mm, vI x5, vI (x5 + 1), vI mm] [] S (up M 200 0 0) (fun r2 S2 M2 => r2 = some (vI (if w = 0 then F else W)) ∧ CP (n + 1) S2 M2)) → (x3 ≤ mm → WP PR (d + 6) 249 36 [vA 200, vI w, vI b, vI x3, vI x4, vI (x5 + 1), vI mm] [] S (up M 200 0 0) (fun r2 S2 M2 => r2 = some (vI (if w = 0 then F else W)) ∧ CP (n + 1) S2 M2)) → WP PR (d + 6) 249 36 [vA 200, vI w, vI b, vI x3, vI x4, vI x5, u] [] S (up M 200 0 0) (fun r2 S2 M2 => r2 = some (vI (if w = 0 then F else W)) ∧ CP (n + 1) S2 M2) := fun x3 x4 x5 mm u hx hmm kl kg => by
      refine b_X9_taste_36 (fun e => absurd e (by omega)) (fun _ => b_X9_taste_42 L (s_mostAlike L e2 ok ?_))
      rw [hmm]
      exact b_X9_taste_49 (fun q => b_X9_taste_62 (fun _ => b_X9_taste_77 (by omega) (kg q)) (fun q2 => absurd q2 (by omega))) (fun q => b_X9_taste_57 (fun q2 => absurd q2 (by omega)) (fun _ => b_X9_taste_72 (by omega) (kl q)))
    refine turn _ _ 0 m0 _ (by decide) hm0 (fun _ => ?_) (fun e => absurd e (by omega))
    refine turn _ _ (0 + 1) m1 _ (by decide) hm1 (fun q1 => ?_) (fun q1 => ?_)
    · refine turn _ _ (0 + 1 + 1) m2 _ (by decide) hm2 (fun q2 => ?_) (fun q2 => ?_)
      · have eF : F = 2 ∧ W = m2 := by omega
        rw [eF.1, eF.2] at fin ⊢; exact fin _ _ rfl
      · have eF : F = 1 ∧ W = m1 := by omega
        rw [eF.1, eF.2] at fin ⊢; exact fin _ _ rfl
    · refine turn _ _ (0 + 1 + 1) m2 _ (by decide) hm2 (fun q2 => ?_) (fun q2 => ?_)
      · have eF : F = 2 ∧ W = m2 := by omega
        rw [eF.1, eF.2] at fin ⊢; exact fin _ _ rfl
      · have eF : F = 0 ∧ W = m0 := by omega
        rw [eF.1, eF.2] at fin ⊢; exact fin _ _ rfl
  refine b_X8_taste_0 L (c_canBe h ?_)
  rw [hb]
  refine b_X8_taste_4 (fun q => b_X8_taste_18 ⟨_, rfl, no (fun w => w.1 q)⟩) (fun q => b_X8_taste_9 (c_isWithin (fun q2 => b_X8_taste_15 (fun _ => b_X8_taste_20 L (c_mostAlike h ?_)) (fun e => absurd e (by decide))) (fun q2 => b_X8_taste_15 (fun e => absurd rfl e) (fun _ => b_X8_taste_18 ⟨_, rfl, no (fun w => q2 w.2)⟩))))
  rw [hm0]
  have fin : ∀ F W x5 u, x5 = 3 → ((F = 0 ∧ W = m0 ∧ m0 ≤ m1 ∧ m0 ≤ m2) ∨ (F = 1 ∧ W = m1 ∧ m1 < m0 ∧ m1 ≤ m2) ∨ (F = 2 ∧ W = m2 ∧ m2 < m0 ∧ m2 < m1)) → WP PR (d + 4) 110 33 [vA 1, vI w, vI b, vI F, vI W, vI x5, u] [] S M (fun r S1 M1 => ∃ v, r = some (vI v) ∧ e_X9_taste (d + 6) w S1 M1 (fun r2 S2 M2 => r2 = some (vI v) ∧ CP (n + 1) S2 M2)) := fun F W x5 u e hFW => by
    have y := yes F W ⟨q, q2⟩ hFW
    refine b_X8_taste_33 (fun _ => b_X8_taste_68 (fun e => b_X8_taste_76 ⟨W, rfl, ?_⟩) (fun e => b_X8_taste_72 ⟨F, rfl, ?_⟩)) (fun e => absurd e (by omega))
    · rw [if_neg e] at y; exact y
    · rw [if_pos e] at y; exact y
  refine b_X8_taste_28 (b_X8_taste_33 (fun e => absurd e (by decide)) (fun _ => b_X8_taste_39 L (c_mostAlike h ?_)))
  rw [hm1]
  have two : ∀ F W u, (F = 0 ∧ W = m0 ∧ m0 ≤ m1) ∨ (F = 1 ∧ W = m1 ∧ m1 < m0) → WP PR (d + 4) 110 33 [vA 1, vI w, vI b, vI F, vI W, vI (1 + 1), u] [] S M (fun r S1 M1 => ∃ v, r = some (vI v) ∧ e_X9_taste (d + 6) w S1 M1 (fun r2 S2 M2 => r2 = some (vI v) ∧ CP (n + 1) S2 M2)) := fun F W u hFW => by
    refine b_X8_taste_33 (fun e => absurd e (by decide)) (fun _ => b_X8_taste_39 L (c_mostAlike h ?_))
    rw [show (1 : Int) + 1 = 2 by decide, hm2]
    exact b_X8_taste_46 (fun q3 => b_X8_taste_62 (by omega) (fin _ _ _ _ (by decide) (by omega))) (fun q3 => b_X8_taste_55 (by omega) (fin _ _ _ _ (by decide) (by omega)))
  exact b_X8_taste_46 (fun q3 => b_X8_taste_62 (by omega) (two _ _ _ (by omega))) (fun q3 => b_X8_taste_55 (by omega) (two _ _ _ (by omega)))
end TA
