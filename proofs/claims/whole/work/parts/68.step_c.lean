/-! The class's step. -/
def yC (mn : Int) : Int := if mn < 19000 then mn else 19000
/-- the worker within a text of orders or a plan -/
def WS (S : mSh) (M : mMem) (s t x : Int) (TL T : TX) (σ : ST) : Prop := Wk S M s t (gS σ) TL ∧ TextC false S M x T ∧ okTO T ∧ (x + 2 < s ∨ s + 6 < x) ∧ (x + 2 < 191 ∨ 191 < x) ∧ M 196 4 = dnS σ ∧ M 196 5 = ltS σ ∧ M 191 4 = ylS σ ∧ M 191 5 = yC (mnS σ) ∧ okST σ
/-- cells that a step writes besides the stock -/
def FrZ (s : Int) (M M' : mMem) : Prop := ∀ a i, ¬ ((s ≤ a ∧ a ≤ s + 6) ∨ a = 195 ∨ a = 197 ∨ (a = 196 ∧ (i = 1 ∨ i = 3 ∨ i = 4 ∨ i = 5)) ∨ (a = 191 ∧ (i = 4 ∨ i = 5))) → M' a i = M a i
theorem FrZ.rf (s : Int) (M : mMem) : FrZ s M M := fun _ _ _ => rfl
theorem FrZ.tr {s : Int} {M M' M'' : mMem} (h : FrZ s M M') (h' : FrZ s M' M'') : FrZ s M M'' := fun a i q => (h' a i q).trans (h a i q)
theorem FrZ.ofW {s : Int} {M M' : mMem} (h : FrW s M M') : FrZ s M M' := fun a i q => h a i (by omega)
section CP
variable {d : Nat} {S : mSh} {M : mMem} {Q : Option mV → mSh → mMem → Prop} {s t x : Int} {TL T : TX} {σ : ST}
theorem WS.k (h : WS S M s t x TL T σ) : Wk S M s t (gS σ) TL := h.1
theorem WS.tx (h : WS S M s t x TL T σ) : TextC false S M x T := h.2.1
theorem WS.o (h : WS S M s t x TL T σ) : okTO T := h.2.2.1
theorem WS.dn (h : WS S M s t x TL T σ) : M 196 4 = dnS σ := h.2.2.2.2.2.1
theorem WS.lt (h : WS S M s t x TL T σ) : M 196 5 = ltS σ := h.2.2.2.2.2.2.1
theorem WS.yl (h : WS S M s t x TL T σ) : M 191 4 = ylS σ := h.2.2.2.2.2.2.2.1
theorem WS.mn (h : WS S M s t x TL T σ) : M 191 5 = yC (mnS σ) := h.2.2.2.2.2.2.2.2.1
theorem WS.ok (h : WS S M s t x TL T σ) : okST σ := h.2.2.2.2.2.2.2.2.2
theorem WS.env (h : WS S M s t x TL T σ) : EnvC false (wS σ) (gS σ) s S M := ⟨h.k.s, h.k.e2, h.k.r, h.k.ok, wS_bd h.ok, Or.inr ⟨rfl, by unfold wS; rw [h.dn, h.lt]⟩⟩
/-- only what telling writes has changed -/
theorem WS.mb {M' : mMem} (h : WS S M s t x TL T σ) (hf : FrB M M') : WS S M' s t x TL T σ := by
  obtain ⟨h1, h2, h3, h4, h5, h6, h7, h8, h9, h10⟩ := h
  have t2 := h2.2.1
  exact ⟨h1.mb hf, h2.congr (fun a i q0 q1 => hf a i (by omega)), h3, h4, h5, by rw [hf _ _ (by decide)]; exact h6, by rw [hf _ _ (by decide)]; exact h7, by rw [hf _ _ (by decide)]; exact h8, by rw [hf _ _ (by decide)]; exact h9, h10⟩
theorem FrB.ofK {M M' : mMem} (h : FrK M M') : FrB M M' := fun a i q => h a i (by omega)
theorem FrB.tr {M M' M'' : mMem} (h : FrB M M') (h' : FrB M' M'') : FrB M M'' := fun a i q => (h' a i q).trans (h a i q)
theorem FrZ.ofB {M M' : mMem} (h : FrB M M') : FrZ s M M' := fun a i q => h a i (by omega)
/-- what ask tells: of a sum that is there and isn't broken its value -/
theorem ask_val {o : Option Den} {w : Env} : (valO o w = none ∧ askO o w = -2000000000) ∨ (∃ v, valO o w = some v ∧ askO o w = v) := by
  unfold valO askO
  cases o with
  | none => exact Or.inr ⟨1, rfl, rfl⟩
  | some D =>
    dsimp only
    cases D w with
    | none => exact Or.inl ⟨rfl, rfl⟩
    | some v => exact Or.inr ⟨v, rfl, rfl⟩
theorem ask_tst {o : Option Den} {w : Env} : askO o w = 1 ↔ tstO o w = true := by
  cases o with
  | none => exact ⟨fun _ => rfl, fun _ => rfl⟩
  | some D =>
    unfold askO tstO
    dsimp only
    cases hv : D w with
    | none => simp
    | some v => simp
theorem stC_3 (ht : tstO (ts T x 3) (wS σ) = true) (hn : ∀ a b c, valO (ts T x 0) (wS σ) = some a → valO (ts T x 1) (wS σ) = some b → valO (ts T x 2) (wS σ) = some c → ¬ opW (tk T x) TL (gS σ) a b c = 0) : stC TL T x σ = -3 := by
  unfold stC
  rw [if_pos ht]
  cases h0 : valO (ts T x 0) (wS σ) with
  | none => rfl
  | some a =>
    cases h1 : valO (ts T x 1) (wS σ) with
    | none => rfl
    | some b =>
      cases h2 : valO (ts T x 2) (wS σ) with
      | none => rfl
      | some c => dsimp only; rw [if_neg (hn a b c h0 h1 h2)]
theorem stC_s0 (ht : tstO (ts T x 3) (wS σ) = true) {a b c : Int} (h0 : valO (ts T x 0) (wS σ) = some a) (h1 : valO (ts T x 1) (wS σ) = some b) (h2 : valO (ts T x 2) (wS σ) = some c) (ho : opW (tk T x) TL (gS σ) a b c = 0) : stC TL T x σ = 0 ∧ stS TL T x σ = stN TL T x σ a b c := by
  unfold stC stS
  rw [if_pos ht, h0, h1, h2]
  dsimp only
  rw [if_pos ho]; exact ⟨rfl, rfl⟩
theorem yC_min {m mn : Int} (h : 0 ≤ m ∧ m ≤ 19000) : (if m < yC mn then m else yC mn) = yC (if m < mn then m else mn) := by
  unfold yC; split <;> split <;> (try split) <;> (try split) <;> omega
/-- the state behind a step that was done -/
theorem WS.nx {M' : mMem} (h : WS S M s t x TL T σ) {a b c i : Int} (wk : Wk S M' s t (opG (tk T i) TL (gS σ) a b c) TL) (hf : FrZ s M M') (ho : opW (tk T i) TL (gS σ) a b c = 0) (hd : dnS σ < 1000) (hy : ylS σ ≤ 1400000000)
    (e4 : M' 196 4 = dnS σ + 1) (e5 : M' 196 5 = if tk T i = 2 then botM (gS σ) b a else ltS σ) (f4 : M' 191 4 = if tk T i = 2 then ylS σ + a else ylS σ) (f5 : M' 191 5 = if tk T i = 2 then yC (if botM (gS σ) b a < mnS σ then botM (gS σ) b a else mnS σ) else yC (mnS σ)) : WS S M' s t x TL T (stN TL T i σ a b c) := by
  obtain ⟨h1, h2, h3, h4, h5, h6, h7, h8, h9, h10⟩ := h
  have t2 := h2.2.1
  have hhi := h1.s.hi
  refine ⟨wk, h2.congr (fun a i q0 q1 => hf a i (by omega)), h3, h4, h5, e4, e5, f4, ?_, stN_ok h10 ho hd hy⟩
  rw [f5]
  show _ = yC (if tk T i = 2 ∧ botM (gS σ) b a < mnS σ then botM (gS σ) b a else mnS σ)
  by_cases h2 : tk T i = 2
  · rw [if_pos h2]
    by_cases hl : botM (gS σ) b a < mnS σ
    · rw [if_pos hl, if_pos ⟨h2, hl⟩]
    · rw [if_neg hl, if_neg (fun q => hl q.2)]
  · rw [if_neg h2, if_neg (fun q => h2 q.1)]
set_option maxHeartbeats 2000000 in
theorem c_step (L : Lay S) (h : WS S M s t x TL T σ) {i : Int} (hi : 0 ≤ i ∧ i < tn T) (hd : dnS σ < 1000) (hy : ylS σ ≤ 1400000000)
    (k9 : stC TL T i σ = -9 → ∀ M', WS S M' s t x TL T σ → FrZ s M M' → Q (some (vI (-9))) S M')
    (k3 : stC TL T i σ = -3 → ∀ M' r, r < 0 → ¬ r = -9 → WS S M' s t x TL T σ → FrZ s M M' → Q (some (vI r)) S M')
    (k0 : stC TL T i σ = 0 → ∀ M' r, 0 ≤ r → WS S M' s t x TL T (stS TL T i σ) → FrZ s M M' → Q (some (vI r)) S M') : e_X7_step (d + 5) x i S M Q := by
  obtain ⟨⟨kk0, kk1⟩, -, q0, q1, q2⟩ := h.o.2 i hi.1 hi.2
  have hhi := h.k.s.hi
  have hlo := h.k.s.lo
  have hdn := h.ok.2.1
  refine b_X7_step_0 L (c_ask L h.env h.tx hi (by decide) (fun M1 f1 => ?_))
  have w1 := h.mb (FrB.ofK f1)
  refine b_X7_step_10 (fun ht => ?_) (fun ht => b_X7_step_14 (k9 (by unfold stC; rw [if_neg (fun q => ht (ask_tst.mpr q))]) M1 w1 (FrZ.ofB (FrB.ofK f1))))
  have ht := ask_tst.mp ht
  refine b_X7_step_17 L (c_ask L w1.env w1.tx hi (by decide) (fun M2 f2 => ?_))
  have f12 := (FrB.ofK f1).tr (FrB.ofK f2)
  have w2 := h.mb f12
  refine b_X7_step_27 L (c_ask L w2.env w2.tx hi (by decide) (fun M3 f3 => ?_))
  have f13 := f12.tr (FrB.ofK f3)
  have w3 := h.mb f13
  obtain ⟨t1, -, -, -, -, t5, t6⟩ := w3.tx
  have ekind := (t6 i hi.1 hi.2).1
  have n12 := h.o.1.2.1
  refine b_X7_step_38 t1 (b_X6_kindOf_0 t1 (by omega) ?_)
  rw [ekind, if_neg (by decide)]
  refine b_X7_step_45 ?_
  -- what comes of a failure behind M4
  have fail : ∀ (M4 : mMem) (v : Int) (y3 y4 : Int) (v0 : Int), stC TL T i σ = -3 → v < 0 → ¬ v = -9 → FrB M M4 → ∀ s1, s1 = M4 196 4 → Q (some (vI v)) S (up M4 196 4 (s1 + 0)) := by
    intro M4 v y3 y4 v0 hs hv hv9 f4 s1 es
    have e : M4 196 4 = dnS σ := (h.mb f4).dn
    have fz : FrB M4 M4 := fun _ _ _ => rfl
    have eM : up M4 196 4 (s1 + 0) = M4 := by
      funext a j
      by_cases q : a = 196 ∧ j = 4
      · rw [q.1, q.2, up_s, es, Int.add_zero]
      · unfold up; rw [if_neg q]
    rw [eM]
    exact k3 hs M4 v hv hv9 (h.mb f4) (FrZ.ofB f4)
  have dn3 : ∀ M4, FrB M M4 → M4 196 4 = dnS σ := fun M4 f4 => (h.mb f4).dn
  have v0c := ask_val (o := ts T i 0) (w := wS σ)
  have v1c := ask_val (o := ts T i 1) (w := wS σ)
  have v2c := ask_val (o := ts T i 2) (w := wS σ)
  have hk4 : tk T i = 0 ∨ tk T i = 1 ∨ tk T i = 2 ∨ tk T i = 3 := by omega
  rcases hk4 with hk | hk | hk | hk
  · -- pour
    have e2 : valO (ts T i 2) (wS σ) = some 1 := by rw [q2.mp (by omega)]; rfl
    rw [hk]
    refine b_X7_step_72 L (c_pourInto L w3.k (fun hw => ?_) (fun hw M4 wk4 f4 => ?_))
    · have hs : stC TL T i σ = -3 := stC_3 ht (fun a b c ea eb ec ho => by
        rcases v0c with ⟨e, -⟩ | ⟨v, e, e'⟩
        · rw [e] at ea; cases ea
        · rcases v1c with ⟨g, -⟩ | ⟨u, g, g'⟩
          · rw [g] at eb; cases eb
          · rw [e] at ea; rw [g] at eb; cases ea; cases eb
            rw [e', g'] at hw
            unfold opW at ho; rw [if_pos hk] at ho; omega)
      have hv9 : ¬ pourW (gS σ) (askO (ts T i 1) (wS σ)) (askO (ts T i 0) (wS σ)) = -9 := by unfold pourW; split <;> (try split) <;> (try split) <;> omega
      exact b_X7_step_79 L (fun q => absurd q (by omega)) (fun _ => b_X7_step_176 L (by rw [dn3 M3 f13]; omega) (fail M3 _ 0 0 0 hs hw hv9 f13 _ rfl))
    · rcases v0c with ⟨e, e'⟩ | ⟨v, e, e'⟩
      · rw [e'] at hw; have := pour_ok w3.k.ok hw; omega
      · rcases v1c with ⟨g, g'⟩ | ⟨u, g, g'⟩
        · rw [g'] at hw; have := pour_ok w3.k.ok hw; omega
        · rw [e', g'] at hw wk4 ⊢
          have ho : opW (tk T i) TL (gS σ) v u 1 = 0 := by unfold opW; rw [if_pos hk]; exact hw
          obtain ⟨hs, hss⟩ := stC_s0 ht e g e2 ho
          have po := pour_ok w3.k.ok hw
          have hn8 := w3.k.ok.n
          have hr : 0 ≤ (allG (addG (gS σ) u v) u).tdiv 1000 := (div_bd (y := 1000) (k := 999) (po.2.2.2.2.all (c := u) (by omega)).1 (by decide) (by have := po.2.2.2.2.all (c := u) (by omega); omega)).1
          have e4 : M4 196 4 = dnS σ := by rw [f4 196 4 (by omega), dn3 M3 f13]
          refine b_X7_step_79 L (fun _ => b_X7_step_180 L (by rw [e4]; omega) ?_) (fun q => absurd q (by omega))
          rw [e4]
          have fz : FrZ s M (up M4 196 4 (dnS σ + 1)) := fun a j q => by
            by_cases ea : a = 196
            · rw [up_ni (by omega), f4 a j (by omega)]; exact f13 a j (by omega)
            · rw [up_na ea, f4 a j (by omega)]; exact f13 a j (by omega)
          have fw4 : FrW s M4 (up M4 196 4 (dnS σ + 1)) → True := fun _ => trivial
          refine k0 hs _ _ hr ?_ fz
          rw [hss]
          refine h.nx ?_ fz ho hd hy (up_s _ _ _ _) ?_ ?_ ?_
          · rw [show opG (tk T i) TL (gS σ) v u 1 = addG (gS σ) u v by unfold opG; rw [if_pos hk]]
            obtain ⟨p1, p2, p3, p4, p5, p6, p7, p8, p9, p10⟩ := wk4
            have tt2 := p7.2.1
            exact ⟨p1, by rw [up_na (by decide)]; exact p2, by rw [up_ni (by decide)]; exact p3, by rw [up_na (by decide)]; exact p4, p5.congr (fun a j q0 q1 => up_na (by omega)), p6, p7.congr (fun a j q0 q1 => up_na (by omega)), p8, p9, p10⟩
          · rw [up_ni (by decide), f4 196 5 (by omega), w3.lt, if_neg (by omega)]
          · rw [up_na (by decide), f4 191 4 (by omega), w3.yl, if_neg (by omega)]
          · rw [up_na (by decide), f4 191 5 (by omega), w3.mn, if_neg (by omega)]
  · -- rack
    rw [hk]
    refine b_X7_step_84 L (c_ask L w3.env w3.tx hi (by decide) (fun M4 f4 => ?_))
    have f14 := f13.tr (FrB.ofK f4)
    have w4 := h.mb f14
    refine b_X7_step_97 L (c_rackOver L w4.k (fun hw M5 f5 => ?_) (fun hw M5 wk5 f5 g4 g5 => ?_))
    · have f15 := f14.tr f5
      have hs : stC TL T i σ = -3 := stC_3 ht (fun a b c ea eb ec ho => by
        rcases v0c with ⟨e, -⟩ | ⟨v, e, e'⟩
        · rw [e] at ea; cases ea
        · rcases v1c with ⟨g, -⟩ | ⟨u, g, g'⟩
          · rw [g] at eb; cases eb
          · rcases v2c with ⟨l, -⟩ | ⟨y, l, l'⟩
            · rw [l] at ec; cases ec
            · rw [e] at ea; rw [g] at eb; rw [l] at ec; cases ea; cases eb; cases ec
              rw [e', g', l'] at hw
              unfold opW at ho; rw [if_neg (by omega), if_pos hk] at ho; omega)
      have hv9 : ¬ rackW TL (gS σ) (askO (ts T i 1) (wS σ)) (askO (ts T i 2) (wS σ)) (askO (ts T i 0) (wS σ)) = -9 := by unfold rackW; split <;> (try split) <;> (try split) <;> omega
      exact b_X7_step_101 L (fun q => absurd q (by omega)) (fun _ => b_X7_step_176 L (by rw [dn3 M5 f15]; omega) (fail M5 _ 0 0 0 hs hw hv9 f15 _ rfl))
    · rcases v0c with ⟨e, e'⟩ | ⟨v, e, e'⟩
      · rw [e'] at hw; have := rack_ok w4.k.ok hw; omega
      · rcases v1c with ⟨g, g'⟩ | ⟨u, g, g'⟩
        · rw [g'] at hw; have := rack_ok w4.k.ok hw; omega
        · rcases v2c with ⟨l, l'⟩ | ⟨y, l, l'⟩
          · rw [l'] at hw; have := rack_ok w4.k.ok hw; omega
          · rw [e', g', l'] at hw wk5 ⊢
            have ho : opW (tk T i) TL (gS σ) v u y = 0 := by unfold opW; rw [if_neg (by omega), if_pos hk]; exact hw
            obtain ⟨hs, hss⟩ := stC_s0 ht e g l ho
            obtain ⟨-, r2, r3, -, -, -, -, -, okr⟩ := rack_ok w4.k.ok hw
            have hn8 := w4.k.ok.n
            have hr : -1 ≤ meanG (rackG (gS σ) u y v) y := by
              unfold meanG
              by_cases hz : allG (rackG (gS σ) u y v) y = 0
              · rw [if_pos hz]; omega
              · rw [if_neg hz]; have := mean_bd okr.D (c := y) (by omega) hz; omega
            have hr0 : 0 ≤ meanG (rackG (gS σ) u y v) y := by
              have ra : 0 < allG (rackG (gS σ) u y v) y := by
                obtain ⟨z1, -, -, hne, hA, -, okt, -, -⟩ := rack_ok w4.k.ok hw
                unfold rackG putG
                rw [seg_all, put_sum, tk_sum w4.k.ok (by omega) z1.1 hA]
                have := okt.all (c := y) (by omega)
                omega
              unfold meanG
              rw [if_neg (by omega)]
              exact (mean_bd okr.D (c := y) (by omega) (by omega)).1
            have e4 : M5 196 4 = dnS σ := by rw [f5 196 4 (by omega), dn3 M4 f14]
            refine b_X7_step_101 L (fun _ => b_X7_step_180 L (by rw [e4]; omega) ?_) (fun q => absurd q (by omega))
            rw [e4]
            have fz : FrZ s M (up M5 196 4 (dnS σ + 1)) := fun a j q => by
              by_cases ea : a = 196
              · rw [up_ni (by omega), f5 a j (by omega)]; exact f14 a j (by omega)
              · rw [up_na ea, f5 a j (by omega)]; exact f14 a j (by omega)
            refine k0 hs _ _ hr0 ?_ fz
            rw [hss]
            refine h.nx ?_ fz ho hd hy (up_s _ _ _ _) ?_ ?_ ?_
            · rw [show opG (tk T i) TL (gS σ) v u y = rackG (gS σ) u y v by unfold opG; rw [if_neg (by omega), if_pos hk]]
              obtain ⟨p1, p2, p3, p4, p5, p6, p7, p8, p9, p10⟩ := wk5
              have tt2 := p7.2.1
              exact ⟨p1, by rw [up_na (by decide)]; exact p2, by rw [up_ni (by decide)]; exact p3, by rw [up_na (by decide)]; exact p4, p5.congr (fun a j q0 q1 => up_na (by omega)), p6, p7.congr (fun a j q0 q1 => up_na (by omega)), p8, p9, p10⟩
            · rw [up_ni (by decide), f5 196 5 (by omega), w4.lt, if_neg (by omega)]
            · rw [up_na (by decide), g4, w4.yl, if_neg (by omega)]
            · rw [up_na (by decide), g5, w4.mn, if_neg (by omega)]
  · -- bottle
    have e2 : valO (ts T i 2) (wS σ) = some 1 := by rw [q2.mp (by omega)]; rfl
    rw [hk]
    have hyb := h.ok.2.2.2.1
    refine b_X7_step_106 L (c_bottleFrom L w3.k (by rw [w3.yl]; omega) (fun hw M4 f4 => ?_) (fun hw M4 wk4 f4 g4 g5 => ?_))
    · have f14 := f13.tr f4
      have hs : stC TL T i σ = -3 := stC_3 ht (fun a b c ea eb ec ho => by
        rcases v0c with ⟨e, -⟩ | ⟨v, e, e'⟩
        · rw [e] at ea; cases ea
        · rcases v1c with ⟨g, -⟩ | ⟨u, g, g'⟩
          · rw [g] at eb; cases eb
          · rw [e] at ea; rw [g] at eb; cases ea; cases eb
            rw [e', g'] at hw
            unfold opW at ho; rw [if_neg (by omega), if_neg (by omega), if_pos hk] at ho; omega)
      have hv9 : ¬ botW TL (gS σ) (askO (ts T i 1) (wS σ)) (askO (ts T i 0) (wS σ)) = -9 := by unfold botW; split <;> (try split) <;> (try split) <;> omega
      have eM : up M4 196 5 (M4 196 5) = M4 := by
        funext a j
        by_cases q : a = 196 ∧ j = 5
        · rw [q.1, q.2, up_s]
        · unfold up; rw [if_neg q]
      refine b_X7_step_113 L (fun q => absurd q (by omega)) (fun _ => b_X7_step_124 L (fun q => absurd q (by omega)) (fun _ => ?_))
      rw [eM]
      exact b_X7_step_176 L (by rw [dn3 M4 f14]; omega) (fail M4 _ 0 0 0 hs hw hv9 f14 _ rfl)
    · rcases v0c with ⟨e, e'⟩ | ⟨v, e, e'⟩
      · rw [e'] at hw; have := bot_ok w3.k.ok hw; omega
      · rcases v1c with ⟨g, g'⟩ | ⟨u, g, g'⟩
        · rw [g'] at hw; have := bot_ok w3.k.ok hw; omega
        · rw [e', g'] at hw wk4 g5 ⊢
          rw [e'] at g4
          have ho : opW (tk T i) TL (gS σ) v u 1 = 0 := by unfold opW; rw [if_neg (by omega), if_neg (by omega), if_pos hk]; exact hw
          obtain ⟨hs, hss⟩ := stC_s0 ht e g e2 ho
          have bi := bot_in w3.k.ok hw
          have e4 : M4 196 4 = dnS σ := by rw [f4 196 4 (by omega), dn3 M3 f13]
          refine b_X7_step_113 L (fun _ => b_X7_step_134 L (fun _ => b_X7_step_180 L (by rw [e4]; omega) ?_) (fun q => absurd q (by omega))) (fun q => absurd q (by omega))
          rw [e4]
          have fz : FrZ s M (up (up M4 196 5 (botM (gS σ) u v)) 196 4 (dnS σ + 1)) := fun a j q => by
            by_cases ea : a = 196
            · rw [up_ni (by omega), up_ni (by omega), f4 a j (by omega)]; exact f13 a j (by omega)
            · rw [up_na ea, up_na ea, f4 a j (by omega)]; exact f13 a j (by omega)
          refine k0 hs _ _ bi.2.1 ?_ fz
          rw [hss]
          refine h.nx ?_ fz ho hd hy (up_s _ _ _ _) ?_ ?_ ?_
          · rw [show opG (tk T i) TL (gS σ) v u 1 = botG (gS σ) u v by unfold opG; rw [if_neg (by omega), if_neg (by omega), if_pos hk]]
            obtain ⟨p1, p2, p3, p4, p5, p6, p7, p8, p9, p10⟩ := wk4
            have tt2 := p7.2.1
            exact ⟨p1, by rw [up_na (by decide), up_na (by decide)]; exact p2, by rw [up_ni (by decide), up_ni (by decide)]; exact p3, by rw [up_na (by decide), up_na (by decide)]; exact p4, p5.congr (fun a j q0 q1 => by rw [up_na (by omega), up_na (by omega)]), p6, p7.congr (fun a j q0 q1 => by rw [up_na (by omega), up_na (by omega)]), p8, p9, p10⟩
          · rw [up_ni (by decide), up_s, if_pos hk]
          · rw [up_na (by decide), up_na (by decide), g4, w3.yl, if_pos hk]
          · rw [up_na (by decide), up_na (by decide), g5, w3.mn, if_pos hk]; exact yC_min bi.2
  · -- pass
    have e0 : valO (ts T i 0) (wS σ) = some 1 := by rw [q0.mp hk]; rfl
    have e1 : valO (ts T i 1) (wS σ) = some 1 := by rw [q1.mp hk]; rfl
    have e2 : valO (ts T i 2) (wS σ) = some 1 := by rw [q2.mp (by omega)]; rfl
    rw [hk]
    refine b_X7_step_142 w3.k.e1 L w3.k.s (c_isLastYear w3.k.s w3.k.r (fun hl => b_X7_step_149 (fun q => absurd q (by decide)) (fun _ => ?_)) (fun hl => b_X7_step_149 (fun _ => ?_) (fun q => absurd rfl q)))
    · have hs : stC TL T i σ = -3 := stC_3 ht (fun a b c _ _ _ ho => by
        unfold opW at ho; rw [if_neg (by omega), if_neg (by omega), if_neg (by omega), if_pos hl] at ho; cases ho)
      exact b_X7_step_152 L (by rw [dn3 M3 f13]; omega) (fail M3 (-3) 0 0 0 hs (by decide) (by decide) f13 _ rfl)
    · have ho : opW (tk T i) TL (gS σ) 1 1 1 = 0 := by unfold opW; rw [if_neg (by omega), if_neg (by omega), if_neg (by omega), if_neg (by omega)]
      obtain ⟨hs, hss⟩ := stC_s0 ht e0 e1 e2 ho
      refine b_X7_step_157 L (c_passYear L w3.k (by omega) (fun M4 wk4 f4 g4 g5 => ?_))
      have hn8 := w3.k.ok.n
      have hr : 0 ≤ passL TL (gS σ) := (pL_bd (T := TL) w3.k.ok hn8.1 hn8.2).1
      have e4 : M4 196 4 = dnS σ := by rw [f4 196 4 (by omega), dn3 M3 f13]
      refine b_X7_step_161 L (fun _ => b_X7_step_180 L (by rw [e4]; omega) ?_) (fun q => absurd q (by omega))
      rw [e4]
      have fz : FrZ s M (up M4 196 4 (dnS σ + 1)) := fun a j q => by
        by_cases ea : a = 196
        · rw [up_ni (by omega), f4 a j (by omega)]; exact f13 a j (by omega)
        · rw [up_na ea, f4 a j (by omega)]; exact f13 a j (by omega)
      refine k0 hs _ _ hr ?_ fz
      rw [hss]
      refine h.nx ?_ fz ho hd hy (up_s _ _ _ _) ?_ ?_ ?_
      · rw [show opG (tk T i) TL (gS σ) 1 1 1 = passG TL (gS σ) by unfold opG; rw [if_neg (by omega), if_neg (by omega), if_neg (by omega)]]
        obtain ⟨p1, p2, p3, p4, p5, p6, p7, p8, p9, p10⟩ := wk4
        have tt2 := p7.2.1
        exact ⟨p1, by rw [up_na (by decide)]; exact p2, by rw [up_ni (by decide)]; exact p3, by rw [up_na (by decide)]; exact p4, p5.congr (fun a j q0 q1 => up_na (by omega)), p6, p7.congr (fun a j q0 q1 => up_na (by omega)), p8, p9, p10⟩
      · rw [up_ni (by decide), f4 196 5 (by omega), w3.lt, if_neg (by omega)]
      · rw [up_na (by decide), g4, w3.yl, if_neg (by omega)]
      · rw [up_na (by decide), g5, w3.mn, if_neg (by omega)]
end CP
