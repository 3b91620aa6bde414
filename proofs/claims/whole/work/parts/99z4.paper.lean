/-! Orders on paper: what can be undone is as it was. -/
section CHP
variable {d : Nat} {S : mSh} {M : mMem} {Q : Option mV → mSh → mMem → Prop} {s t x : Int} {TL T : TX} {σ : ST} {h : HI}
def HP (M0 : mMem) (hst s : Int) (M : mMem) : Prop := hst = 0 ∧ 176 < s ∧ ∀ a i, 55 ≤ a → a ≤ 176 → M a i = M0 a i
theorem c_rtimesP {M0 : mMem} (L : Lay S) {hst i : Int} (hi : 0 ≤ i ∧ i < tn T) :
    ∀ (n : Nat) (σ : ST) (h : HI) (M : mMem) (tt' : Int), tt' + n = tt T i → 0 ≤ tt' → WS S M s t x TL T σ → HP M0 hst s M → dnS σ + n ≤ 1000 → ylS σ + 999 * n ≤ 1400000000 →
      (∀ M' tt2 r, WS S M' s t x TL T (rpN TL T i n σ).2 → HP M0 hst s M' → FrH s M M' → ((rpN TL T i n σ).1 = -3 → r < 0 ∧ ¬ r = -9) → (¬ (rpN TL T i n σ).1 = -3 → 0 ≤ r ∨ r = -9) → WP PR (d + 6) 77 82 [vA 191, vA x, vA hst, vI i, vI r, vI tt2] [] S M' Q) →
      ∀ r0, 0 ≤ r0 → WP PR (d + 6) 77 23 [vA 191, vA x, vA hst, vI i, vI r0, vI tt'] [] S M Q := by
  intro n
  induction n with
  | zero =>
    intro σ h M tt' e h0 w hm _ _ k r0 hr0
    obtain ⟨t1, -, -, t3, -, t5, t6⟩ := w.tx
    obtain ⟨c1, c2, -⟩ := t6 i hi.1 hi.2
    have n12 := w.o.1.2.1
    refine b_X7_runOrders_23 t1 (b_X6_timesOf_0 t1 (by omega) (b_X7_runOrders_30 (fun _ => k M tt' r0 w hm (FrH.rf s M) (fun q => absurd q (by show ¬ (0 : Int) = -3; decide)) (fun _ => Or.inl hr0)) (fun q => absurd q (by omega))))
  | succ n ih =>
    intro σ h M tt' e h0 w hm hd hy k r0 hr0
    obtain ⟨t1, -, -, t3, -, t5, t6⟩ := w.tx
    obtain ⟨c1, c2, -⟩ := t6 i hi.1 hi.2
    have n12 := w.o.1.2.1
    have t20 := (w.o.2 i hi.1 hi.2).2.1
    rw [rpN] at k
    refine b_X7_runOrders_23 t1 (b_X6_timesOf_0 t1 (by omega) (b_X7_runOrders_30 (fun q => absurd q (by omega)) (fun _ => b_X7_runOrders_33 (fun q => absurd q (by omega)) (fun _ => ?_))))
    have hhi := w.k.s.hi
    -- the step, from a state that is noted where there is a history
    have st : ∀ M1, WS S M1 s t x TL T σ → FrH s M M1 → HP M0 hst s M1 → (hst = 55 → StkR (gS σ) (58 + 7 * M1 55 2) M1) → WP PR (d + 6) 77 50 [vA 191, vA x, vA hst, vI i, vI r0, vI tt'] [] S M1 Q := by
      intro M1 w1 f1 hm1 hnt
      have hmz : ∀ M2, FrZ s M1 M2 → HP M0 hst s M2 := fun M2 f2 => by
        have hs := hm1.2.1
        exact ⟨hm1.1, hs, fun a j p0 p1 => (f2 a j (by omega)).trans (hm1.2.2 a j p0 p1)⟩
      have last : ∀ (M2 : mMem) (r : Int), r < 0 → (∀ tt2, WP PR (d + 6) 77 82 [vA 191, vA x, vA hst, vI i, vI r, vI tt2] [] S M2 Q) → (∃ T', TextC false S M2 x T' ∧ tn T' = tn T) → WP PR (d + 6) 77 76 [vA 191, vA x, vA hst, vI i, vI r, vI tt'] [] S M2 Q := by
        intro M2 r hr fin tx2
        obtain ⟨T', tx2, etn⟩ := tx2
        obtain ⟨y1, -, -, y3, -, y5, -⟩ := tx2
        exact b_X7_runOrders_76 (by omega) (b_X7_runOrders_23 y1 (b_X6_timesOf_0 y1 (by omega) (b_X7_runOrders_30 (fun _ => fin _) (fun _ => b_X7_runOrders_33 (fun _ => fin _) (fun q => absurd q (by omega))))))
      refine b_X7_runOrders_50 L (c_step L w1 hi (by omega) (by omega) (fun h9 M2 w2 f2 => ?_) (fun h3 M2 r hr hr9 w2 f2 => ?_) (fun hz M2 r hr w2 f2 => ?_))
      · rw [if_neg (by omega)] at k
        have fin : ∀ tt2, WP PR (d + 6) 77 82 [vA 191, vA x, vA hst, vI i, vI (-9), vI tt2] [] S M2 Q := fun tt2 => k M2 tt2 (-9) w2 (hmz M2 f2) (f1.tr (FrH.ofZ f2)) (fun q => absurd q (by show ¬ stC TL T i σ = -3; omega)) (fun _ => Or.inr rfl)
        have l := last M2 (-9) (by decide) fin ⟨T, w2.tx, rfl⟩
        exact b_X7_runOrders_56 (fun _ => l) (fun _ => b_X7_runOrders_62 (fun _ => l) (fun q => absurd q (by decide)))
      · rw [if_neg (by omega)] at k
        have fin : ∀ tt2, WP PR (d + 6) 77 82 [vA 191, vA x, vA hst, vI i, vI r, vI tt2] [] S M2 Q := fun tt2 => k M2 tt2 r w2 (hmz M2 f2) (f1.tr (FrH.ofZ f2)) (fun _ => ⟨hr, hr9⟩) (fun q => absurd h3 q)
        have l := last M2 r hr fin ⟨T, w2.tx, rfl⟩
        exact b_X7_runOrders_56 (fun _ => l) (fun _ => b_X7_runOrders_62 (fun _ => l) (fun q => absurd q (by omega)))
      · rw [if_pos hz] at k
        have b := st_beh w.ok hz (by omega) (by omega)
        have hm2 := hmz M2 f2
        obtain ⟨q, qs, qf⟩ := hm1
        subst q
        refine b_X7_runOrders_56 (fun _ => b_X7_runOrders_76 (by omega) (ih _ h M2 _ (by omega) (by omega) w2 hm2 (by have := b.2.1; omega) (by have := b.2.2.1; omega) (fun M3 tt2 r2 w3 hm3 f3 k1 k2 => k M3 tt2 r2 w3 hm3 ((f1.tr (FrH.ofZ f2)).tr f3) k1 k2) r hr)) (fun q => absurd rfl q)
    have hm0 := hm
    obtain ⟨q, qs, qf⟩ := hm
    subst q
    exact b_X7_runOrders_38 (fun _ => st M w (FrH.rf s M) hm0 (fun q => absurd q (by decide))) (fun q => absurd rfl q)
theorem c_runOrdersP {M0 : mMem} (L : Lay S) (hT : okTO T) {hst : Int} (w : WS S M s t x TL T σ) (hm : HP M0 hst s M) (hy : ylS σ ≤ 1300000000)
    (k : ∀ M', WS S M' s t x TL T (orN TL T (tn T).toNat (y0 σ)).2 → HP M0 hst s M' → FrH s M M' → Q (some (vI (orN TL T (tn T).toNat (y0 σ)).1)) S M') : e_X7_runOrders (d + 6) x hst S M Q := by
  have n0 := hT.1.1
  have n12 := hT.1.2.1
  have hhi := w.k.s.hi
  refine b_X7_runOrders_0 L (c_startText L w (fun M1 w1 f1 => b_X7_runOrders_7 ?_))
  have hm1 : HP M0 hst s M1 := by
    have hs := hm.2.1
    exact ⟨hm.1, hs, fun a j p0 p1 => (f1 a j (by omega)).trans (hm.2.2 a j p0 p1)⟩
  have ok0 := w1.ok
  have e0 : dnS (y0 σ) = 0 := rfl
  have e1 : ylS (y0 σ) = ylS σ := rfl
  refine for_up (W := fun i => ∀ (M' : mMem) (u4 u5 : mV), (orN TL T i.toNat (y0 σ)).1 = -1 → WS S M' s t x TL T (orN TL T i.toNat (y0 σ)).2 → HP M0 hst s M' → FrH s M M' → WP PR (d + 6) 77 9 [vA 191, vA x, vA hst, vI i, u4, u5] [] S M' Q) (lo := 0) (hi := tn T) n0 ?_ ?_ M1 vU vU rfl w1 hm1 (FrH.ofZ f1)
  · intro M' u4 u5 ec w' hm' f'
    have t3 := w'.tx.2.2.2.1
    refine b_X7_runOrders_9 w'.tx.1 (fun _ => b_X7_runOrders_102 ?_) (fun q => absurd q (by omega))
    have := k M' w' hm' f'
    rw [ec] at this; exact this
  · intro i h0 h1 ih M' u4 u5 ec w' hm' f'
    have t3 := w'.tx.2.2.2.1
    have ei : ((i.toNat : Nat) : Int) = i := by omega
    have en : (i + 1).toNat = i.toNat + 1 := by omega
    have pb := or_beh (TL := TL) hT ok0 (by omega) (by omega) i.toNat (by omega)
    have t20 := (hT.2 i h0 h1).2.1
    rw [en, orN, ei, if_pos ec] at ih
    refine b_X7_runOrders_9 w'.tx.1 (fun q => absurd q (by omega)) (fun _ => b_X7_runOrders_17 ?_)
    refine c_rtimesP L ⟨h0, h1⟩ (tt T i).toNat _ [] M' 0 (by omega) (by decide) w' hm' (by have := pb.1.2.1; omega) (by have := pb.1.2.2.1; omega) (fun M2 tt2 r w2 hm2 f2 c1 c2 => ?_) 0 (by decide)
    by_cases hc : (rpN TL T i (tt T i).toNat (orN TL T i.toNat (y0 σ)).2).1 = -3
    · have hr := c1 hc
      refine b_X7_runOrders_82 (fun q => absurd q (by omega)) (fun _ => b_X7_runOrders_87 (fun q => absurd q hr.2) (fun _ => b_X7_runOrders_94 ?_))
      -- the rest of the clauses changes nothing
      have rest : ∀ (m : Nat), i.toNat + 1 + m ≤ (tn T).toNat → orN TL T (i.toNat + 1 + m) (y0 σ) = (i, (rpN TL T i (tt T i).toNat (orN TL T i.toNat (y0 σ)).2).2) := by
        intro m
        induction m with
        | zero => intro _; rw [Nat.add_zero, orN, ei, if_pos ec, if_pos hc]
        | succ m ihm =>
          intro hm
          have a1 := ihm (by omega)
          rw [show i.toNat + 1 + (m + 1) = (i.toNat + 1 + m) + 1 by omega, orN, a1, if_neg (by show ¬ i = -1; omega)]
      have r1 := rest ((tn T).toNat - (i.toNat + 1)) (by omega)
      rw [show i.toNat + 1 + ((tn T).toNat - (i.toNat + 1)) = (tn T).toNat by omega] at r1
      have := k M2 (by rw [r1]; exact w2) hm2 (f'.tr f2)
      rw [r1] at this; exact this
    · rw [if_neg hc] at ih
      have go := ih M2 (vI r) (vI tt2) rfl w2 hm2 (f'.tr f2)
      rcases c2 hc with q | q
      · exact b_X7_runOrders_82 (fun _ => b_X7_runOrders_96 (by omega) go) (fun q' => absurd q' (by omega))
      · exact b_X7_runOrders_82 (fun _ => b_X7_runOrders_96 (by omega) go) (fun _ => b_X7_runOrders_87 (fun _ => b_X7_runOrders_96 (by omega) go) (fun q' => absurd q q'))
end CHP
