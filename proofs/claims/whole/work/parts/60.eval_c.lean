/-! The class's evaluation of a read text. -/
def wO (g : Int → Int) (dn lt : Int) : Env := fun op a => if op = 1 then g 5 else if op = 2 then dn else if op = 3 then lt else if op = 4 then g 9 else factG g op a
theorem fact_bd {g : Int → Int} (ok : okS g) {op c : Int} (hc : 0 ≤ c ∧ c < 8) : -1 ≤ factG g op c ∧ factG g op c ≤ 999 := by
  have h4 := div_bd (y := 1000) (k := 999) (ok.all hc).1 (by decide) (by have := ok.all hc; omega)
  have h5 := div_bd (y := 1000) (k := 999) (ok.room hc).1 (by decide) (by have := ok.room hc; omega)
  have h6 := wm_bd ok hc
  unfold factG
  split
  · omega
  · split
    · omega
    · split <;> omega
theorem wO_bd {g : Int → Int} (ok : okS g) {dn lt : Int} (hd : -1 ≤ dn ∧ dn ≤ 1000000) (hl : -1 ≤ lt ∧ lt ≤ 1000000) : bdW (wO g dn lt) := by
  intro op a h0 h1 h2 h3
  have h4 := ok.y
  have h5 := ok.b
  have h6 := fact_bd ok (op := op) (c := a) (by omega)
  unfold wO
  split
  · omega
  · split
    · omega
    · split
      · omega
      · split <;> omega
/-- the asker's stock is g, and its words are w -/
def EnvC (laws : Bool) (w : Env) (g : Int → Int) (s : Int) (S : mSh) (M : mMem) : Prop := Stk S s ∧ M 196 2 = s ∧ StkR g s M ∧ okS g ∧ bdW w ∧ ((laws = true ∧ 0 ≤ M 196 3 ∧ M 196 3 < g 0 ∧ w = wL g (M 196 3)) ∨ (laws = false ∧ w = wO g (M 196 4) (M 196 5)))
def FrK (M M' : mMem) : Prop := ∀ a i, ¬ (a = 197 ∨ (a = 196 ∧ i = 1)) → M' a i = M a i
theorem FrK.rf (M : mMem) : FrK M M := fun _ _ _ => rfl
theorem FrK.tr {M M' M'' : mMem} (h : FrK M M') (h' : FrK M' M'') : FrK M M'' := fun a i q => (h' a i q).trans (h a i q)
theorem FrK.env {laws : Bool} {w : Env} {g : Int → Int} {s : Int} {S : mSh} {M M' : mMem} (h : FrK M M') (e : EnvC laws w g s S M) : EnvC laws w g s S M' := by
  obtain ⟨e1, e2, e3, e4, e5, e6⟩ := e
  have hi := e1.hi
  refine ⟨e1, by rw [h 196 2 (by decide)]; exact e2, e3.congr (fun a i q0 q1 => h a i (by omega)), e4, e5, ?_⟩
  rw [h 196 3 (by decide), h 196 4 (by decide), h 196 5 (by decide)]; exact e6
section CE
variable {d : Nat} {S : mSh} {M : mMem} {Q : Option mV → mSh → mMem → Prop}
theorem c_put (L : Lay S) {h v : Int} (e : M 196 1 = h) (hh : 0 ≤ h ∧ h < 51) (k : Q none S (up (up M 197 h v) 196 1 (h + 1))) : e_X0_put d v S M Q := by
  have l := ll197 L
  subst e
  exact b_X0_put_0 L (fun q => absurd q (by omega)) (fun _ => b_X0_put_12 L (by omega) k)
theorem c_lift (L : Lay S) {h : Int} (e : M 196 1 = h) (hh : 1 ≤ h ∧ h ≤ 51) (k : Q (some (vI (M 197 (h - 1)))) S (up M 196 1 (h - 1))) : e_X0_lift d S M Q := by
  subst e
  exact b_X0_lift_0 L (fun _ => b_X0_lift_10 L (by omega) k) (fun q => absurd q (by omega))
theorem c_valueOfCellar (L : Lay S) {laws : Bool} {w : Env} {g : Int → Int} {s : Int} (he : EnvC laws w g s S M) {a op b : Int} (ho : okCs laws 1 a op b) (k : Q (some (vI (w op b))) S M) : e_X0_valueOfCellar d a S M Q := by
  obtain ⟨e1, e2, e3, e4, e5, e6⟩ := he
  refine b_X0_valueOfCellar_0 ?_
  rcases ho with ⟨h, -⟩ | ⟨rfl, rfl, ⟨-, ⟨rfl, rfl⟩ | ⟨rfl, rfl⟩⟩ | ⟨h, -⟩⟩ | ⟨rfl, ⟨-, rfl, ⟨rfl, rfl⟩ | ⟨rfl, rfl⟩ | ⟨rfl, rfl⟩ | ⟨rfl, rfl⟩⟩ | ⟨h, -⟩⟩
  · exact absurd h (by decide)
  · rcases e6 with ⟨-, -, -, rfl⟩ | ⟨h, -⟩
    · refine b_X0_valueOfCellar_32 e2 L e1 ?_
      rw [e3.e (t := 0) (by decide)]; exact k
    · cases h
  · rcases e6 with ⟨-, -, -, rfl⟩ | ⟨h, -⟩
    · refine b_X0_valueOfCellar_42 e2 L e1 ?_
      rw [e3.e (t := 2) (by decide)]; exact k
    · cases h
  · exact absurd h (by decide)
  · rcases e6 with ⟨h, -⟩ | ⟨-, rfl⟩
    · cases h
    · refine b_X0_valueOfCellar_32 e2 L e1 ?_
      rw [e3.e (t := 0) (by decide)]; exact k
  · rcases e6 with ⟨h, -⟩ | ⟨-, rfl⟩
    · cases h
    · exact b_X0_valueOfCellar_52 L k
  · rcases e6 with ⟨h, -⟩ | ⟨-, rfl⟩
    · cases h
    · exact b_X0_valueOfCellar_57 L k
  · rcases e6 with ⟨h, -⟩ | ⟨-, rfl⟩
    · cases h
    · refine b_X0_valueOfCellar_62 e2 L e1 ?_
      rw [e3.b]; exact k
  · exact absurd h (by decide)
theorem c_meanWord (L : Lay S) {g : Int → Int} {s : Int} (e1 : Stk S s) (e2 : M 196 2 = s) (e3 : StkR g s M) (e4 : okS g) {x1 x2 c : Int} (hc : 0 ≤ c ∧ c < 8) (k : Q (some (vI (wmG g c))) S M) : WP PR (d + 1) 5 104 [vA 196, vI x1, vI x2, vI c] [] S M Q := by
  have ha := e4.all hc
  have ea := e3.a hc
  unfold wmG at k
  refine b_X0_valueOfCask_104 e2 L e1 hc ?_ ?_
  · rw [ea]
    intro h
    refine b_X0_valueOfCask_121 e2 L e1 (c_mean e1 e3 e4 hc ?_)
    have hz : ¬ allG g c = 0 := by omega
    have hm := mean_bd e4.D hc hz
    have := div_bd (y := 1000) (k := 19) hm.1 (by decide) (by omega)
    rw [if_neg hz] at k
    unfold meanG
    rw [if_neg hz]
    exact b_X0_valueOfCask_129 (by omega) k
  · rw [ea]
    intro h
    rw [if_pos (by omega)] at k
    exact b_X0_valueOfCask_117 k
theorem c_valueOfCask (L : Lay S) {laws : Bool} {w : Env} {g : Int → Int} {s : Int} (he : EnvC laws w g s S M) {a op b : Int} (ho : okCs laws 2 a op b) (k : Q (some (vI (w op b))) S M) : e_X0_valueOfCask (d + 1) (a.tdiv 9) (a.tmod 9) S M Q := by
  obtain ⟨e1, e2, e3, e4, e5, e6⟩ := he
  have hn := e4.n
  rcases ho with ⟨h, -⟩ | ⟨rfl, rfl, ⟨h, -⟩ | ⟨-, ho⟩⟩ | ⟨rfl, ⟨h, -⟩ | ⟨-, b0, b1, ho⟩⟩
  · exact absurd h (by decide)
  · exact absurd h (by decide)
  · rcases e6 with ⟨-, c0, c1, rfl⟩ | ⟨h, -⟩
    · have hc8 : 0 ≤ M 196 3 ∧ M 196 3 < 8 := by omega
      generalize hC : M 196 3 = C at *
      have m8 : a.tmod 9 = 8 := by rcases ho with ⟨rfl, -⟩ | ⟨rfl, -⟩ | ⟨rfl, -⟩ | ⟨rfl, -⟩ | ⟨rfl, -⟩ <;> rfl
      rw [m8]
      refine b_X0_valueOfCask_0 (fun h => absurd rfl h) (fun _ => b_X0_valueOfCask_6 e2 L e1 ?_)
      rw [hC]
      refine c_has e1 e3 (fun _ => b_X0_valueOfCask_23 (fun _ => b_X0_valueOfCask_28 ?_) (fun e => absurd e (by decide))) (fun e => absurd ⟨c0, c1⟩ e)
      rcases ho with ⟨rfl, rfl⟩ | ⟨rfl, rfl⟩ | ⟨rfl, rfl⟩ | ⟨rfl, rfl⟩ | ⟨rfl, rfl⟩
      · exact b_X0_valueOfCask_64 k
      · refine b_X0_valueOfCask_66 e2 L e1 hc8 ?_
        rw [e3.t hc8]; exact k
      · refine b_X0_valueOfCask_76 e2 L e1 hc8 ?_
        rw [e3.z hc8]; exact k
      · exact b_X0_valueOfCask_86 e2 L e1 (c_measures e1 e3 e4 hc8 (b_X0_valueOfCask_94 k))
      · exact c_meanWord L e1 e2 e3 e4 hc8 k
    · cases h
  · exact absurd h (by decide)
  · rcases e6 with ⟨h, -⟩ | ⟨-, rfl⟩
    · cases h
    · have hb8 : 0 ≤ b ∧ b < 8 := by omega
      have k2 : Q (some (vI (factG g op b))) S M := by
        have e : wO g (M 196 4) (M 196 5) op b = factG g op b := by
          unfold wO; rw [if_neg (by omega), if_neg (by omega), if_neg (by omega), if_neg (by omega)]
        rw [e] at k; exact k
      have a0 : 0 ≤ a := by omega
      have m8 : a.tmod 9 = b := by rw [Int.tmod_eq_emod_of_nonneg a0]; omega
      rw [m8]
      unfold factG at k2
      refine b_X0_valueOfCask_0 (fun _ => b_X0_valueOfCask_13 e2 L e1 ?_) (fun h => absurd h (by omega))
      refine c_has e1 e3 (fun hh => b_X0_valueOfCask_23 (fun _ => b_X0_valueOfCask_28 ?_) (fun e => absurd e (by decide))) (fun e => b_X0_valueOfCask_23 (fun e => absurd rfl e) (fun _ => b_X0_valueOfCask_26 ?_))
      · rw [if_neg (fun q => q hh)] at k2
        rcases ho with ⟨e, rfl⟩ | ⟨e, rfl⟩ | ⟨e, rfl⟩
        · have m9 : a.tdiv 9 = 8 := by rw [Int.tdiv_eq_ediv_of_nonneg a0]; omega
          rw [m9]
          rw [if_pos rfl] at k2
          exact b_X0_valueOfCask_86 e2 L e1 (c_measures e1 e3 e4 hb8 (b_X0_valueOfCask_94 k2))
        · have m9 : a.tdiv 9 = 9 := by rw [Int.tdiv_eq_ediv_of_nonneg a0]; omega
          rw [m9]
          rw [if_neg (by decide), if_pos rfl] at k2
          exact b_X0_valueOfCask_95 e2 L e1 (c_roomFor e1 e3 e4 hb8 (b_X0_valueOfCask_103 k2))
        · have m9 : a.tdiv 9 = 10 := by rw [Int.tdiv_eq_ediv_of_nonneg a0]; omega
          rw [m9]
          rw [if_neg (by decide), if_neg (by decide)] at k2
          exact c_meanWord L e1 e2 e3 e4 hb8 k2
      · rw [if_pos e] at k2; exact k2
theorem c_joins (L : Lay S) {st a b h : Int} (ho : 3 ≤ st ∧ st < 11) (e1 : M 196 1 = h + 2) (hh : 0 ≤ h ∧ h + 2 ≤ 51) (ea : M 197 h = a) (eb : M 197 (h + 1) = b) (ha : -1000000000 ≤ a ∧ a ≤ 1000000000) (hb : -1000000000 ≤ b ∧ b ≤ 1000000000)
    (k1 : ∀ v M', rk (st + 17) a b = some v → FrK M M' → (∀ x, x < h → M' 197 x = M 197 x) → M' 196 1 = h + 1 → M' 197 h = v → Q (some (vI 1)) S M')
    (k0 : ∀ M', rk (st + 17) a b = none → FrK M M' → Q (some (vI 0)) S M') : e_X0_joins (d + 1) st S M Q := by
  have hmul : -1000000000000000000 ≤ a * b ∧ a * b ≤ 1000000000000000000 := by
    have h1 : (a * b).natAbs ≤ 1000000000 * 1000000000 := by rw [Int.natAbs_mul]; exact Nat.mul_le_mul (by omega) (by omega)
    omega
  have hdiv : -1000000000 ≤ a.tdiv b ∧ a.tdiv b ≤ 1000000000 := by
    have h1 : (a.tdiv b).natAbs ≤ a.natAbs := by rw [Int.natAbs_tdiv]; exact Nat.div_le_self _ _
    omega
  have e2 : h + 2 - 1 = h + 1 := by omega
  refine b_X0_joins_0 L (c_lift L e1 (by omega) ?_)
  rw [e2, eb]
  refine b_X0_joins_4 L (c_lift L (up_s _ _ _ _) (by omega) ?_)
  rw [Int.add_sub_cancel, up_na (by decide), ea]
  generalize hM2 : up (up M 196 1 (h + 1)) 196 1 h = M2
  have f2 : ∀ x i, ¬ (x = 196 ∧ i = 1) → M2 x i = M x i := fun x i q => by
    rw [← hM2]
    by_cases e : x = 196
    · rw [up_ni (by omega), up_ni (by omega)]
    · rw [up_na e, up_na e]
  have g2 : M2 196 1 = h := by rw [← hM2]; exact up_s _ _ _ _
  -- behind the switch: put, and the range
  have tail : ∀ (v : Int) (x6 : Int), v = rkv (st + 17) a b → ¬ ((st + 17 = 23 ∨ st + 17 = 24) ∧ b = 0) → (∀ (QQ : Option mV → mSh → mMem → Prop), (QQ none S (up (up M2 197 h (w32 v)) 196 1 (h + 1))) → WP PR d 6 0 [vA 196, vI (w32 v)] [] S M2 QQ) ∧ WP PR (d + 1) 3 180 [vA 196, vI st, vL b, vU, vL a, vU, vL v, vU] [] S (up (up M2 197 h (w32 v)) 196 1 (h + 1)) Q := by
    intro v x6 ev hz
    refine ⟨fun QQ q => c_put L g2 (by omega) q, ?_⟩
    have fr : FrK M (up (up M2 197 h (w32 v)) 196 1 (h + 1)) := fun x i q => by
      by_cases e : x = 196
      · rw [up_ni (by omega), up_na (by omega), f2 x i (by omega)]
      · rw [up_na e, up_na (by omega), f2 x i (by omega)]
    by_cases hr : -1000000000 ≤ v ∧ v ≤ 1000000000
    · refine b_X0_joins_180 (fun q => absurd q (by omega)) (fun _ => b_X0_joins_189 (fun q => absurd q (by omega)) (fun _ => b_X0_joins_198 (k1 v _ ?_ fr (fun x hx => ?_) (up_s _ _ _ _) ?_)))
      · unfold rk; rw [if_neg hz, ← ev, if_pos hr]
      · rw [up_na (by decide), up_ni (by omega), f2 _ _ (by omega)]
      · rw [up_na (by decide), up_s, w32_id (by omega)]
    · have en : rk (st + 17) a b = none := by unfold rk; rw [if_neg hz, ← ev, if_neg hr]
      exact b_X0_joins_180 (fun _ => b_X0_joins_202 (k0 _ en fr)) (fun _ => b_X0_joins_189 (fun _ => b_X0_joins_202 (k0 _ en fr)) (fun q => absurd q (by omega)))
  have fr2 : FrK M M2 := fun x i q => f2 x i (by omega)
  have sw : ¬ ((st + 17 = 23 ∨ st + 17 = 24) ∧ b = 0) → WP PR (d + 1) 3 36 [vA 196, vI st, vL b, vU, vL a, vU, vL 0, vU] [] S M2 Q := by
    intro hz
    refine b_X0_joins_36 ?_
    have ho8 : st = 3 ∨ st = 4 ∨ st = 5 ∨ st = 6 ∨ st = 7 ∨ st = 8 ∨ st = 9 ∨ st = 10 := by omega
    rcases ho8 with rfl | rfl | rfl | rfl | rfl | rfl | rfl | rfl
    · have t := tail (a + b) 0 rfl hz; exact b_X0_joins_80 L (by omega) (t.1 _ t.2)
    · have t := tail (a - b) 0 rfl hz; exact b_X0_joins_89 L (by omega) (t.1 _ t.2)
    · have t := tail (a * b) 0 rfl hz; exact b_X0_joins_98 L (by omega) (t.1 _ t.2)
    · have t := tail (a.tdiv b) 0 rfl hz; exact b_X0_joins_107 L ⟨fun e => hz ⟨Or.inl rfl, e⟩, by omega⟩ (t.1 _ t.2)
    · have t := tail (a.tmod b) 0 rfl hz; exact b_X0_joins_116 L ⟨fun e => hz ⟨Or.inr rfl, e⟩, by omega⟩ (t.1 _ t.2)
    · refine b_X0_joins_125 (fun q => ?_) (fun q => ?_)
      · have t := tail 0 0 (by unfold rkv; simp; omega) hz; exact b_X0_joins_136 L (t.1 _ t.2)
      · have t := tail 1 0 (by unfold rkv; simp; omega) hz; exact b_X0_joins_132 L (t.1 _ t.2)
    · refine b_X0_joins_142 (fun q => ?_) (fun q => ?_)
      · have t := tail 0 0 (by unfold rkv; simp; omega) hz; exact b_X0_joins_153 L (t.1 _ t.2)
      · have t := tail 1 0 (by unfold rkv; simp; omega) hz; exact b_X0_joins_149 L (t.1 _ t.2)
    · refine b_X0_joins_159 (fun q => ?_) (fun q => ?_)
      · have t := tail 0 0 (by unfold rkv; simp; omega) hz; exact b_X0_joins_170 L (t.1 _ t.2)
      · have t := tail 1 0 (by unfold rkv; simp; omega) hz; exact b_X0_joins_166 L (t.1 _ t.2)
  refine b_X0_joins_10 (fun h6 => b_X0_joins_28 (fun hz => sw (fun q => hz q.2)) (fun hz => b_X0_joins_34 (k0 _ ?_ fr2))) (fun h6 => b_X0_joins_22 (fun h7 => sw (fun q => by omega)) (fun h7 => b_X0_joins_28 (fun hz => sw (fun q => hz q.2)) (fun hz => b_X0_joins_34 (k0 _ ?_ fr2))))
  · unfold rk; rw [if_pos ⟨by omega, hz⟩]
  · unfold rk; rw [if_pos ⟨by omega, hz⟩]
end CE
