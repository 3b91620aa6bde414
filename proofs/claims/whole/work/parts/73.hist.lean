/-! What can be undone, in the class; orders run wholly. -/
def slot (n : Int) (j : Nat) : Int := (n + 16 - (j : Int)) % 17
def HistC (h : HI) (M : mMem) : Prop := M 55 3 = (h.length : Int) ∧ h.length ≤ 16 ∧ (0 ≤ M 55 2 ∧ M 55 2 < 17) ∧ (∀ i, 0 ≤ i → i < 17 → M 56 i = 58 + 7 * i) ∧ ∀ (j : Nat) e, h[j]? = some e → M 57 (slot (M 55 2) j) = e.1 ∧ StkR e.2 (58 + 7 * slot (M 55 2) j) M
theorem slot_bd (n : Int) (j : Nat) : 0 ≤ slot n j ∧ slot n j < 17 := by unfold slot; omega
theorem HistC.congr {h : HI} {M M' : mMem} (hh : HistC h M) (he : ∀ a i, 55 ≤ a → a ≤ 176 → M' a i = M a i) : HistC h M' := by
  obtain ⟨h1, h2, h3, h4, h5⟩ := hh
  refine ⟨by rw [he _ _ (by decide) (by decide)]; exact h1, h2, by rw [he _ _ (by decide) (by decide)]; exact h3, fun i q0 q1 => by rw [he _ _ (by decide) (by decide)]; exact h4 i q0 q1, fun j e hj => ?_⟩
  obtain ⟨a, b⟩ := h5 j e hj
  rw [he 55 2 (by decide) (by decide)]
  have sb := slot_bd (M 55 2) j
  exact ⟨by rw [he _ _ (by decide) (by decide)]; exact a, b.congr (fun a i q0 q1 => he a i (by omega) (by omega))⟩
theorem hist_stk {S : mSh} (L : Lay S) {i : Int} (h0 : 0 ≤ i ∧ i < 17) : Stk S (58 + 7 * i) := by
  have h17 : i = 0 ∨ i = 1 ∨ i = 2 ∨ i = 3 ∨ i = 4 ∨ i = 5 ∨ i = 6 ∨ i = 7 ∨ i = 8 ∨ i = 9 ∨ i = 10 ∨ i = 11 ∨ i = 12 ∨ i = 13 ∨ i = 14 ∨ i = 15 ∨ i = 16 := by omega
  refine L.stk ?_
  rcases h17 with rfl | rfl | rfl | rfl | rfl | rfl | rfl | rfl | rfl | rfl | rfl | rfl | rfl | rfl | rfl | rfl | rfl <;> decide
section CH
variable {d : Nat} {S : mSh} {M : mMem} {Q : Option mV → mSh → mMem → Prop} {s t x : Int} {TL T : TX} {σ : ST} {h : HI}
theorem c_note (L : Lay S) (hh : HistC h M) {g : Int → Int} (hs : Stk S s) (hr : StkR g s M) (hd : s + 6 < 55 ∨ 176 < s) (k : ∀ M', HistC h M' → StkR g (58 + 7 * M 55 2) M' → (∀ a i, (a < 58 ∨ 176 < a) → M' a i = M a i) → Q none S M') : e_X1_note (d + 1) s S M Q := by
  obtain ⟨h1, h2, h3, h4, h5⟩ := id hh
  have e56 := h4 (M 55 2) h3.1 h3.2
  refine b_X1_note_0 e56 L (hist_stk L h3) h3 (c_copyFrom (hist_stk L h3) hs (by omega) hr (fun M' r' f' => b_X1_note_13 (k M' ?_ r' (fun a i q => f' a i (by omega)))))
  have e0 : M' 55 2 = M 55 2 := f' _ _ (by omega)
  refine ⟨by rw [f' _ _ (by omega)]; exact h1, h2, by rw [e0]; exact h3, fun i q0 q1 => by rw [f' _ _ (by omega)]; exact h4 i q0 q1, fun j e hj => ?_⟩
  obtain ⟨a, b⟩ := h5 j e hj
  have hjl : j < h.length := by
    by_cases q : j < h.length
    · exact q
    · rw [List.getElem?_eq_none (by omega)] at hj; cases hj
  rw [e0]
  have sb := slot_bd (M 55 2) j
  have sne : slot (M 55 2) j ≠ M 55 2 := by unfold slot; omega
  exact ⟨by rw [f' _ _ (by omega)]; exact a, b.congr (fun a i q0 q1 => f' a i (by omega))⟩
theorem c_keep (L : Lay S) (hh : HistC h M) {g : Int → Int} (hr : StkR g (58 + 7 * M 55 2) M) {kind : Int} (k : ∀ M', HistC (pushH kind g h) M' → (∀ a i, a ≠ 57 → ¬ (a = 55 ∧ (i = 2 ∨ i = 3)) → M' a i = M a i) → Q none S M') : e_X1_keep d kind S M Q := by
  obtain ⟨h1, h2, h3, h4, h5⟩ := id hh
  have et : (M 55 2 + 1).tmod 17 = (M 55 2 + 1) % 17 := Int.tmod_eq_emod_of_nonneg (by omega)
  have ed : (M 55 2 + 1).tdiv 17 = (M 55 2 + 1) / 17 := Int.tdiv_eq_ediv_of_nonneg (by omega)
  have hlen := pushH_len kind g h h2
  refine b_X1_keep_0 L (by rw [ed]; omega) ?_
  rw [et]
  have fr : ∀ a i, a ≠ 57 → ¬ (a = 55 ∧ (i = 2 ∨ i = 3)) → up (up (up M 57 (M 55 2) kind) 55 2 ((M 55 2 + 1) % 17)) 55 3 (if 16 < M 55 3 + 1 then 16 else M 55 3 + 1) a i = M a i := fun a i q1 q2 => by
    by_cases e : a = 55
    · rw [up_ni (by omega), up_ni (by omega), up_na q1]
    · rw [up_na e, up_na e, up_na q1]
  have e2 : up (up (up M 57 (M 55 2) kind) 55 2 ((M 55 2 + 1) % 17)) 55 3 (if 16 < M 55 3 + 1 then 16 else M 55 3 + 1) 55 2 = (M 55 2 + 1) % 17 := by rw [up_ni (by decide), up_s]
  refine k _ ⟨?_, ?_, by rw [e2]; omega, fun i q0 q1 => by rw [fr _ _ (by decide) (by omega)]; exact h4 i q0 q1, fun j e hj => ?_⟩ fr
  · rw [up_s, hlen, h1]
    by_cases h16 : (h.length : Int) = 16
    · rw [if_pos (by omega), if_pos h16]
    · rw [if_neg (by omega), if_neg h16]
  · by_cases h16 : (h.length : Int) = 16
    · rw [if_pos h16] at hlen; omega
    · rw [if_neg h16] at hlen; omega
  · rw [e2]
    rcases pushH_get _ _ _ _ _ hj with ⟨rfl, rfl⟩ | ⟨i, rfl, hi, hg⟩
    · have es : slot ((M 55 2 + 1) % 17) 0 = M 55 2 := by unfold slot; omega
      rw [es]
      refine ⟨by rw [up_na (by decide), up_na (by decide), up_s], hr.congr (fun a i q0 q1 => fr a i (by omega) (by omega))⟩
    · obtain ⟨p, q⟩ := h5 i e hg
      have hil : i < h.length := by
        by_cases q : i < h.length
        · exact q
        · rw [List.getElem?_eq_none (by omega)] at hg; cases hg
      have es : slot ((M 55 2 + 1) % 17) (i + 1) = slot (M 55 2) i := by unfold slot; omega
      have sb := slot_bd (M 55 2) i
      have sne : slot (M 55 2) i ≠ M 55 2 := by unfold slot; omega
      rw [es]
      refine ⟨by rw [up_na (by decide), up_na (by decide), up_ni sne]; exact p, q.congr (fun a i q0 q1 => fr a i (by omega) (by omega))⟩
/-- orders run wholly: which clause ends it, the state -/
def orN (TL T : TX) : Nat → ST → Int × ST
  | 0, σ => (-1, σ)
  | k + 1, σ => if (orN TL T k σ).1 = -1 then (if (rpN TL T (k : Int) (tt T k).toNat (orN TL T k σ).2).1 = -3 then (k : Int) else -1, (rpN TL T (k : Int) (tt T k).toNat (orN TL T k σ).2).2) else orN TL T k σ
def rpH (TL T : TX) (i : Int) : Nat → ST → HI → HI
  | 0, _, h => h
  | n + 1, σ, h => if stC TL T i σ = 0 then rpH TL T i n (stS TL T i σ) (pushH (tk T i) (gS σ) h) else h
def orH (TL T : TX) : Nat → ST → HI → HI
  | 0, _, h => h
  | k + 1, σ, h => if (orN TL T k σ).1 = -1 then rpH TL T (k : Int) (tt T k).toNat (orN TL T k σ).2 (orH TL T k σ h) else orH TL T k σ h
/-- cells that orders write besides the stock -/
def FrH (s : Int) (M M' : mMem) : Prop := ∀ a i, ¬ ((s ≤ a ∧ a ≤ s + 6) ∨ a = 195 ∨ a = 197 ∨ (a = 196 ∧ (i = 1 ∨ i = 3 ∨ i = 4 ∨ i = 5)) ∨ (a = 191 ∧ (i = 4 ∨ i = 5)) ∨ (a = 55 ∧ (i = 2 ∨ i = 3)) ∨ a = 57 ∨ (58 ≤ a ∧ a ≤ 176)) → M' a i = M a i
theorem FrH.rf (s : Int) (M : mMem) : FrH s M M := fun _ _ _ => rfl
theorem FrH.tr {M M' M'' : mMem} (h : FrH s M M') (h' : FrH s M' M'') : FrH s M M'' := fun a i q => (h' a i q).trans (h a i q)
theorem FrH.ofZ {M M' : mMem} (h : FrZ s M M') : FrH s M M' := fun a i q => h a i (by omega)
theorem WS.mh {M' : mMem} (w : WS S M s t x TL T σ) (hs : s + 6 < 55) (ht : t + 2 < 55 ∨ 176 < t) (hx : x + 2 < 55 ∨ 176 < x) (he : ∀ a i, (a < 55 ∨ 176 < a) → M' a i = M a i) : WS S M' s t x TL T σ := by
  obtain ⟨h1, h2, h3, h4, h5, h6, h7, h8, h9, h10⟩ := w
  obtain ⟨p1, p2, p3, p4, p5, p6, p7, p8, p9, p10⟩ := h1
  exact ⟨⟨p1, by rw [he _ _ (by decide)]; exact p2, by rw [he _ _ (by decide)]; exact p3, by rw [he _ _ (by decide)]; exact p4, p5.congr (fun a j q0 q1 => he a j (by omega)), p6, p7.congr (fun a j q0 q1 => he a j (by omega)), p8, p9, p10⟩, h2.congr (fun a j q0 q1 => he a j (by omega)), h3, h4, h5, by rw [he _ _ (by decide)]; exact h6, by rw [he _ _ (by decide)]; exact h7, by rw [he _ _ (by decide)]; exact h8, by rw [he _ _ (by decide)]; exact h9, h10⟩
/-- without a history (0), or with it -/
def HM (hst s t x : Int) (h : HI) (M : mMem) : Prop := hst = 0 ∨ (hst = 55 ∧ s + 6 < 55 ∧ (t + 2 < 55 ∨ 176 < t) ∧ (x + 2 < 55 ∨ 176 < x) ∧ HistC h M)
theorem c_rtimes (L : Lay S) {hst i : Int} (hi : 0 ≤ i ∧ i < tn T) :
    ∀ (n : Nat) (σ : ST) (h : HI) (M : mMem) (tt' : Int), tt' + n = tt T i → 0 ≤ tt' → WS S M s t x TL T σ → HM hst s t x h M → dnS σ + n ≤ 1000 → ylS σ + 999 * n ≤ 1400000000 →
      (∀ M' tt2 r, WS S M' s t x TL T (rpN TL T i n σ).2 → HM hst s t x (rpH TL T i n σ h) M' → FrH s M M' → ((rpN TL T i n σ).1 = -3 → r < 0 ∧ ¬ r = -9) → (¬ (rpN TL T i n σ).1 = -3 → 0 ≤ r ∨ r = -9) → WP PR (d + 6) 77 82 [vA 191, vA x, vA hst, vI i, vI r, vI tt2] [] S M' Q) →
      ∀ r0, 0 ≤ r0 → WP PR (d + 6) 77 23 [vA 191, vA x, vA hst, vI i, vI r0, vI tt'] [] S M Q := by
  intro n
  induction n with
  | zero =>
    intro σ h M tt' e h0 w hm _ _ k r0 hr0
    obtain ⟨t1, -, -, t3, -, t5, t6⟩ := w.tx
    obtain ⟨c1, c2, -⟩ := t6 i hi.1 hi.2
    have n12 := w.o.1.2.1
    refine b_X7_runOrders_23 t1 (b_X6_timesOf_0 t1 (by omega) (b_X7_runOrders_30 (fun _ => k M tt' r0 w hm (FrH.rf s M) (fun q => absurd q (by show ¬ (0 : Int) = -3; decide)) (fun _ => Or.inl hr0)) (fun q => absurd q (by omega))))
  | succ n ih =>
    intro σ h M tt' e h0 w hm hd hy k r0 hr0
    obtain ⟨t1, -, -, t3, -, t5, t6⟩ := w.tx
    obtain ⟨c1, c2, -⟩ := t6 i hi.1 hi.2
    have n12 := w.o.1.2.1
    have t20 := (w.o.2 i hi.1 hi.2).2.1
    rw [rpN, rpH] at k
    refine b_X7_runOrders_23 t1 (b_X6_timesOf_0 t1 (by omega) (b_X7_runOrders_30 (fun q => absurd q (by omega)) (fun _ => b_X7_runOrders_33 (fun q => absurd q (by omega)) (fun _ => ?_))))
    have hhi := w.k.s.hi
    -- the step, from a state that is noted where there is a history
    have st : ∀ M1, WS S M1 s t x TL T σ → FrH s M M1 → HM hst s t x h M1 → (hst = 55 → StkR (gS σ) (58 + 7 * M1 55 2) M1) → WP PR (d + 6) 77 50 [vA 191, vA x, vA hst, vI i, vI r0, vI tt'] [] S M1 Q := by
      intro M1 w1 f1 hm1 hnt
      have hmz : ∀ M2, FrZ s M1 M2 → HM hst s t x h M2 := fun M2 f2 => by
        rcases hm1 with q | ⟨q1, q2, q3, q4, q5⟩
        · exact Or.inl q
        · exact Or.inr ⟨q1, q2, q3, q4, q5.congr (fun a j p0 p1 => f2 a j (by omega))⟩
      have last : ∀ (M2 : mMem) (r : Int), r < 0 → (∀ tt2, WP PR (d + 6) 77 82 [vA 191, vA x, vA hst, vI i, vI r, vI tt2] [] S M2 Q) → (∃ T', TextC false S M2 x T' ∧ tn T' = tn T) → WP PR (d + 6) 77 76 [vA 191, vA x, vA hst, vI i, vI r, vI tt'] [] S M2 Q := by
        intro M2 r hr fin tx2
        obtain ⟨T', tx2, etn⟩ := tx2
        obtain ⟨y1, -, -, y3, -, y5, -⟩ := tx2
        exact b_X7_runOrders_76 (by omega) (b_X7_runOrders_23 y1 (b_X6_timesOf_0 y1 (by omega) (b_X7_runOrders_30 (fun _ => fin _) (fun _ => b_X7_runOrders_33 (fun _ => fin _) (fun q => absurd q (by omega))))))
      refine b_X7_runOrders_50 L (c_step L w1 hi (by omega) (by omega) (fun h9 M2 w2 f2 => ?_) (fun h3 M2 r hr hr9 w2 f2 => ?_) (fun hz M2 r hr w2 f2 => ?_))
      · rw [if_neg (by omega), if_neg (by omega)] at k
        have fin : ∀ tt2, WP PR (d + 6) 77 82 [vA 191, vA x, vA hst, vI i, vI (-9), vI tt2] [] S M2 Q := fun tt2 => k M2 tt2 (-9) w2 (hmz M2 f2) (f1.tr (FrH.ofZ f2)) (fun q => absurd q (by show ¬ stC TL T i σ = -3; omega)) (fun _ => Or.inr rfl)
        have l := last M2 (-9) (by decide) fin ⟨T, w2.tx, rfl⟩
        exact b_X7_runOrders_56 (fun _ => l) (fun _ => b_X7_runOrders_62 (fun _ => l) (fun q => absurd q (by decide)))
      · rw [if_neg (by omega), if_neg (by omega)] at k
        have fin : ∀ tt2, WP PR (d + 6) 77 82 [vA 191, vA x, vA hst, vI i, vI r, vI tt2] [] S M2 Q := fun tt2 => k M2 tt2 r w2 (hmz M2 f2) (f1.tr (FrH.ofZ f2)) (fun _ => ⟨hr, hr9⟩) (fun q => absurd h3 q)
        have l := last M2 r hr fin ⟨T, w2.tx, rfl⟩
        exact b_X7_runOrders_56 (fun _ => l) (fun _ => b_X7_runOrders_62 (fun _ => l) (fun q => absurd q (by omega)))
      · rw [if_pos hz, if_pos hz] at k
        have b := st_beh w.ok hz (by omega) (by omega)
        rcases hm1 with q | ⟨q1, q2, q3, q4, q5⟩
        · subst q
          refine b_X7_runOrders_56 (fun _ => b_X7_runOrders_76 (by omega) (ih _ (pushH (tk T i) (gS σ) h) M2 _ (by omega) (by omega) w2 (Or.inl rfl) (by have := b.2.1; omega) (by have := b.2.2.1; omega) (fun M3 tt2 r2 w3 hm3 f3 k1 k2 => k M3 tt2 r2 w3 hm3 ((f1.tr (FrH.ofZ f2)).tr f3) k1 k2) r hr)) (fun q => absurd rfl q)
        · subst q1
          obtain ⟨y1, -, -, y3, -, y5, y6⟩ := w2.tx
          obtain ⟨z1, -, -⟩ := y6 i hi.1 hi.2
          refine b_X7_runOrders_56 (fun q => absurd q (by decide)) (fun _ => b_X7_runOrders_62 (fun q => absurd q (by omega)) (fun _ => b_X7_runOrders_67 y1 (b_X6_kindOf_0 y1 (by omega) ?_)))
          rw [z1, if_neg (by decide)]
          have hc2 : HistC h M2 := q5.congr (fun a j p0 p1 => f2 a j (by omega))
          have e55 : M2 55 2 = M1 55 2 := f2 _ _ (by omega)
          have hb := q5.2.2.1
          have nt2 : StkR (gS σ) (58 + 7 * M2 55 2) M2 := by rw [e55]; exact (hnt rfl).congr (fun a j p0 p1 => f2 a j (by omega))
          refine b_X7_runOrders_73 L (c_keep L hc2 nt2 (fun M3 hc3 f3 => b_X7_runOrders_76 (by omega) ?_))
          have w3 : WS S M3 s t x TL T (stS TL T i σ) := w2.mh q2 q3 q4 (fun a j p => f3 a j (by omega) (by omega))
          exact ih _ (pushH (tk T i) (gS σ) h) M3 _ (by omega) (by omega) w3 (Or.inr ⟨rfl, q2, q3, q4, hc3⟩) (by have := b.2.1; omega) (by have := b.2.2.1; omega) (fun M4 tt2 r2 w4 hm4 f4 k1 k2 => k M4 tt2 r2 w4 hm4 (((f1.tr (FrH.ofZ f2)).tr (fun a j p => f3 a j (by omega) (by omega))).tr f4) k1 k2) r hr
    rcases hm with q | ⟨q1, q2, q3, q4, q5⟩
    · subst q
      exact b_X7_runOrders_38 (fun _ => st M w (FrH.rf s M) (Or.inl rfl) (fun q => absurd q (by decide))) (fun q => absurd rfl q)
    · subst q1
      refine b_X7_runOrders_38 (fun q => absurd q (by decide)) (fun _ => b_X7_runOrders_42 w.k.e1 L (lo55 L) (c_note L q5 w.k.s w.k.r (by omega) (fun M1 hc1 nt1 f1 => ?_)))
      refine st M1 (w.mh q2 q3 q4 (fun a j p => f1 a j (by omega))) (fun a j p => f1 a j (by omega)) (Or.inr ⟨rfl, q2, q3, q4, hc1⟩) (fun _ => ?_)
      rw [f1 55 2 (by omega)]; exact nt1
theorem or_beh {TL T : TX} (hT : okTO T) {σ : ST} (ok : okST σ) (hd : dnS σ ≤ 0) (hy : ylS σ ≤ 1300000000) : ∀ (k : Nat), (k : Int) ≤ tn T → Beh σ (orN TL T k σ).2 (20 * k) ∧ ((orN TL T k σ).1 = -1 ∨ (0 ≤ (orN TL T k σ).1 ∧ (orN TL T k σ).1 < k)) := by
  intro k
  induction k with
  | zero => intro _; exact ⟨Beh.rf ok (by omega), Or.inl rfl⟩
  | succ k ih =>
    intro hk
    obtain ⟨i1, i2⟩ := ih (by omega)
    have n12 := hT.1.2.1
    have t20 := (hT.2 k (by omega) (by omega)).2.1
    rw [orN]
    by_cases h1 : (orN TL T k σ).1 = -1
    · rw [if_pos h1]
      have b := rp_beh (TL := TL) (T := T) (i := k) (tt T k).toNat i1.1 (by have := i1.2.1; omega) (by have := i1.2.2.1; omega)
      refine ⟨(i1.tr b).le (by omega), ?_⟩
      by_cases hc : (rpN TL T (k : Int) (tt T k).toNat (orN TL T k σ).2).1 = -3
      · rw [if_pos hc]; exact Or.inr (by omega)
      · rw [if_neg hc]; exact Or.inl rfl
    · rw [if_neg h1]; exact ⟨i1.le (by omega), Or.inr (by omega)⟩
theorem c_runOrders (L : Lay S) (hT : okTO T) {hst : Int} (w : WS S M s t x TL T σ) (hm : HM hst s t x h M) (hy : ylS σ ≤ 1300000000)
    (k : ∀ M', WS S M' s t x TL T (orN TL T (tn T).toNat (y0 σ)).2 → HM hst s t x (orH TL T (tn T).toNat (y0 σ) h) M' → FrH s M M' → Q (some (vI (orN TL T (tn T).toNat (y0 σ)).1)) S M') : e_X7_runOrders (d + 6) x hst S M Q := by
  have n0 := hT.1.1
  have n12 := hT.1.2.1
  have hhi := w.k.s.hi
  refine b_X7_runOrders_0 L (c_startText L w (fun M1 w1 f1 => b_X7_runOrders_7 ?_))
  have hm1 : HM hst s t x h M1 := by
    rcases hm with q | ⟨q1, q2, q3, q4, q5⟩
    · exact Or.inl q
    · exact Or.inr ⟨q1, q2, q3, q4, q5.congr (fun a j p0 p1 => f1 a j (by omega))⟩
  have ok0 := w1.ok
  have e0 : dnS (y0 σ) = 0 := rfl
  have e1 : ylS (y0 σ) = ylS σ := rfl
  refine for_up (W := fun i => ∀ (M' : mMem) (u4 u5 : mV), (orN TL T i.toNat (y0 σ)).1 = -1 → WS S M' s t x TL T (orN TL T i.toNat (y0 σ)).2 → HM hst s t x (orH TL T i.toNat (y0 σ) h) M' → FrH s M M' → WP PR (d + 6) 77 9 [vA 191, vA x, vA hst, vI i, u4, u5] [] S M' Q) (lo := 0) (hi := tn T) n0 ?_ ?_ M1 vU vU rfl w1 hm1 (FrH.ofZ f1)
  · intro M' u4 u5 ec w' hm' f'
    have t3 := w'.tx.2.2.2.1
    refine b_X7_runOrders_9 w'.tx.1 (fun _ => b_X7_runOrders_102 ?_) (fun q => absurd q (by omega))
    have := k M' w' hm' f'
    rw [ec] at this; exact this
  · intro i h0 h1 ih M' u4 u5 ec w' hm' f'
    have t3 := w'.tx.2.2.2.1
    have ei : ((i.toNat : Nat) : Int) = i := by omega
    have en : (i + 1).toNat = i.toNat + 1 := by omega
    have pb := or_beh (TL := TL) hT ok0 (by omega) (by omega) i.toNat (by omega)
    have t20 := (hT.2 i h0 h1).2.1
    rw [en, orN, orH, ei, if_pos ec, if_pos ec] at ih
    refine b_X7_runOrders_9 w'.tx.1 (fun q => absurd q (by omega)) (fun _ => b_X7_runOrders_17 ?_)
    refine c_rtimes L ⟨h0, h1⟩ (tt T i).toNat _ _ M' 0 (by omega) (by decide) w' hm' (by have := pb.1.2.1; omega) (by have := pb.1.2.2.1; omega) (fun M2 tt2 r w2 hm2 f2 c1 c2 => ?_) 0 (by decide)
    by_cases hc : (rpN TL T i (tt T i).toNat (orN TL T i.toNat (y0 σ)).2).1 = -3
    · have hr := c1 hc
      refine b_X7_runOrders_82 (fun q => absurd q (by omega)) (fun _ => b_X7_runOrders_87 (fun q => absurd q hr.2) (fun _ => b_X7_runOrders_94 ?_))
      -- the rest of the clauses changes nothing
      have rest : ∀ (m : Nat), i.toNat + 1 + m ≤ (tn T).toNat → orN TL T (i.toNat + 1 + m) (y0 σ) = (i, (rpN TL T i (tt T i).toNat (orN TL T i.toNat (y0 σ)).2).2) ∧ orH TL T (i.toNat + 1 + m) (y0 σ) h = rpH TL T i (tt T i).toNat (orN TL T i.toNat (y0 σ)).2 (orH TL T i.toNat (y0 σ) h) := by
        intro m
        induction m with
        | zero => intro _; rw [Nat.add_zero, orN, orH, ei, if_pos ec, if_pos ec, if_pos hc]; exact ⟨rfl, rfl⟩
        | succ m ihm =>
          intro hm
          obtain ⟨a1, a2⟩ := ihm (by omega)
          rw [show i.toNat + 1 + (m + 1) = (i.toNat + 1 + m) + 1 by omega, orN, orH, a1, if_neg (by show ¬ i = -1; omega), if_neg (by show ¬ i = -1; omega), a2]; exact ⟨rfl, rfl⟩
      obtain ⟨r1, r2⟩ := rest ((tn T).toNat - (i.toNat + 1)) (by omega)
      rw [show i.toNat + 1 + ((tn T).toNat - (i.toNat + 1)) = (tn T).toNat by omega] at r1 r2
      have := k M2 (by rw [r1]; exact w2) (by rw [r2]; exact hm2) (f'.tr f2)
      rw [r1] at this; exact this
    · rw [if_neg hc] at ih
      have go := ih M2 (vI r) (vI tt2) rfl w2 hm2 (f'.tr f2)
      rcases c2 hc with q | q
      · exact b_X7_runOrders_82 (fun _ => b_X7_runOrders_96 (by omega) go) (fun q' => absurd q' (by omega))
      · exact b_X7_runOrders_82 (fun _ => b_X7_runOrders_96 (by omega) go) (fun _ => b_X7_runOrders_87 (fun _ => b_X7_runOrders_96 (by omega) go) (fun q' => absurd q q'))
end CH
