/-! The reference's orders run wholly. -/
/-- cells that orders write in the reference -/
def FrA (M M' : mMem) : Prop := ∀ a i, ¬ (a = 202 ∨ a = 206 ∨ (a = 205 ∧ i < 2640) ∨ a = 218 ∨ a = 219 ∨ a = 220 ∨ a = 221 ∨ (a = 200 ∧ (i = 8 ∨ i = 34 ∨ i = 38 ∨ i = 39 ∨ i = 40 ∨ i = 42 ∨ i = 43 ∨ i = 46 ∨ i = 47 ∨ i = 49))) → M' a i = M a i
theorem FrA.rf (M : mMem) : FrA M M := fun _ _ _ => rfl
theorem FrA.tr {M M' M'' : mMem} (h : FrA M M') (h' : FrA M' M'') : FrA M M'' := fun a i q => (h' a i q).trans (h a i q)
theorem FrA.ofN {M M' : mMem} (h : FrN M M') : FrA M M' := fun a i q => h a i (by omega)
theorem HistM.c2 {h : HI} {M M' : mMem} (hh : HistM h M) (h8 : M' 200 8 = M 200 8) (h5 : ∀ i, 0 ≤ i → i < 2640 → M' 205 i = M 205 i) (h6 : ∀ i, 0 ≤ i → i < 16 → M' 206 i = M 206 i) : HistM h M' := by
  obtain ⟨a, b, c⟩ := hh
  refine ⟨by rw [h8]; exact a, b, fun j e he => ?_⟩
  have hj : j < h.length := by
    by_cases hj : j < h.length
    · exact hj
    · rw [List.getElem?_eq_none (by omega)] at he; cases he
  obtain ⟨p, q⟩ := c j e he
  exact ⟨by rw [h6 _ (by omega) (by omega)]; exact p, fun x x0 x1 => by rw [h5 _ (by omega) (by omega)]; exact q x x0 x1⟩
theorem HistM.fn {h : HI} {M M' : mMem} (hh : HistM h M) (hf : FrN M M') : HistM h M' := hh.congr (hf _ _ (by decide)) (fun i _ _ => hf _ _ (by omega)) (fun i => hf _ _ (by omega))
section MO
variable {d : Nat} {S : mSh} {M : mMem} {Q : Option mV → mSh → mMem → Prop} {TL T : TX} {σ : ST} {h : HI}
/-- an order's work, by its kind -/
theorem s_act (L : Lay S) (hm : MS M TL T σ) (hh : HistM h M) (h999 : gS σ 5 ≤ 999) {kind r1 r2 r3 a b c : Int} (hk : 0 ≤ kind ∧ kind ≤ 3) (p1 : ¬ kind = 3 → r1 = a) (p3 : kind = 0 → r3 = b) (p4 : kind = 1 → r2 = b ∧ r3 = c) (p5 : kind = 2 → r2 = b)
    (kf : ¬ opW kind TL (gS σ) a b c = 0 → ∀ M' r, r < 0 → FrL M M' → Q (some (vI r)) S M')
    (ks : opW kind TL (gS σ) a b c = 0 → ∀ M' r, 0 ≤ r → (kind = 2 → r = botM (gS σ) b a) → M' 202 = opG kind TL (gS σ) a b c → HistM (pushH kind (gS σ) h) M' → FrR M M' → (M' 200 42 = if kind = 2 then ylS σ + a else ylS σ) → (M' 200 43 = if kind = 2 ∧ botM (gS σ) b a < mnS σ then botM (gS σ) b a else mnS σ) → Q (some (vI r)) S M') : e_X9_act (d + 11) kind r1 r2 r3 S M Q := by
  obtain ⟨g1, g2, g3, g4, g5, g6, g7, g8, g9, g10⟩ := hm
  have ok := g10.1
  have hn := ok.n
  have h20 : M 200 20 = 0 ∨ M 200 20 = 1 := Or.inl g9
  refine b_X9_act_0 ?_
  have hk4 : kind = 0 ∨ kind = 1 ∨ kind = 2 ∨ kind = 3 := by omega
  rcases hk4 with rfl | rfl | rfl | rfl
  · have e1 := p1 (by decide)
    have e3 := p3 rfl
    subst e1 e3
    have eo : opW 0 TL (gS σ) r1 r3 c = pourW (gS σ) r3 r1 := rfl
    refine b_X9_act_28 L (s_pourNow L g1 ok hh (fun hw => b_X9_act_35 (kf (by rw [eo]; omega) M _ hw (FrL.rf M))) (fun hw M' r' h' f' e42 e43 => b_X9_act_35 (ks (by rw [eo]; exact hw) M' _ ?_ (fun q => absurd q (by decide)) r' h' f' ?_ ?_)))
    · have po := pour_ok ok hw
      exact (div_bd (y := 1000) (k := 999) (po.2.2.2.2.all (c := r3) (by omega)).1 (by decide) (by have := po.2.2.2.2.all (c := r3) (by omega); omega)).1
    · rw [e42, g7]; rfl
    · rw [e43, g8, if_neg (by omega)]
  · have e1 := p1 (by decide)
    obtain ⟨e2, e3⟩ := p4 rfl
    subst e1 e2 e3
    have eo : opW 1 TL (gS σ) r1 r2 r3 = rackW TL (gS σ) r2 r3 r1 := rfl
    refine b_X9_act_36 L (s_rackNow L g1 ok h20 g2 hh (fun hw M' f' => b_X9_act_44 (kf (by rw [eo]; omega) M' _ hw f')) (fun hw M' r' h' f' e42 e43 => b_X9_act_44 (ks (by rw [eo]; exact hw) M' _ ?_ (fun q => absurd q (by decide)) r' h' f' ?_ ?_)))
    · obtain ⟨z1, z2, z3, hne, hA, -, okt, -, okr⟩ := rack_ok ok hw
      have ra : 0 < allG (rackG (gS σ) r2 r3 r1) r3 := by
        unfold rackG putG
        rw [seg_all, put_sum, tk_sum ok (by omega) z1.1 hA]
        have := okt.all (c := r3) (by omega)
        omega
      unfold meanG
      rw [if_neg (by omega)]
      exact (mean_bd okr.D (c := r3) (by omega) (by omega)).1
    · rw [e42, g7]; rfl
    · rw [e43, g8, if_neg (by omega)]
  · have e1 := p1 (by decide)
    have e2 := p5 rfl
    subst e1 e2
    have hyl := g10.2.2.2.1
    have eo : opW 2 TL (gS σ) r1 r2 c = botW TL (gS σ) r2 r1 := rfl
    refine b_X9_act_45 L (s_bottleNow L g1 ok h20 g2 hh (by rw [g7]; omega) (fun hw M' f' => b_X9_act_51 (kf (by rw [eo]; omega) M' _ hw f')) (fun hw M' r' h' f' e42 e43 => b_X9_act_51 (ks (by rw [eo]; exact hw) M' _ (bot_in ok hw).2.1 (fun _ => rfl) r' h' f' ?_ ?_)))
    · rw [e42, g7]; rfl
    · rw [e43, g8]
      by_cases hl : botM (gS σ) r2 r1 < mnS σ
      · rw [if_pos hl, if_pos ⟨rfl, hl⟩]
      · rw [if_neg hl, if_neg (fun q => hl q.2)]
  · have eo : opW 3 TL (gS σ) a b c = if 999 ≤ gS σ 5 then -3 else 0 := rfl
    refine b_X9_act_52 L (s_passNow L g1 ok h20 g2 hh h999 (fun hw => b_X9_act_56 (kf (by rw [eo, if_pos hw]; decide) M _ (by decide) (FrL.rf M))) (fun hw M' r' h' f' e42 e43 => b_X9_act_56 (ks (by rw [eo, if_neg (by omega)]) M' _ (pL_bd (T := TL) ok hn.1 hn.2).1 (fun q => absurd q (by decide)) r' h' f' ?_ ?_)))
    · rw [e42, g7]; rfl
    · rw [e43, g8, if_neg (by omega)]
set_option maxHeartbeats 1000000 in
theorem s_runOnce (L : Lay S) (hm : MS M TL T σ) (hh : HistM h M) (hN : NowM (wS σ) M) (h49 : M 200 49 = 0) {i : Int} (hi : 0 ≤ i ∧ i < tn T) (ht : tstO (ts T i 3) (wS σ) = true) (hd : dnS σ < 1000) (hy : ylS σ ≤ 1400000000) (h999 : gS σ 5 ≤ 999)
    (k3 : stC TL T i σ = -3 → ∀ M', MS M' TL T σ → HistM h M' → FrA M M' → Q (some (vI (-3))) S M')
    (k0 : stC TL T i σ = 0 → ∀ M', MS M' TL T (stS TL T i σ) → HistM (pushH (tk T i) (gS σ) h) M' → FrA M M' → Q (some (vI 0)) S M') : e_X9_runOnce (d + 12) (10 * i) S M Q := by
  obtain ⟨⟨hk0, hk3⟩, -, z0, z1, z2⟩ := hm.2.2.1.1.2 i hi.1 hi.2
  have okk := hm.2.2.1.2 i hi.1 hi.2
  have n12 := hm.2.2.1.1.1.2.1
  have hok := hm.2.2.2.2.2.2.2.2.2
  have hdn0 := hok.2.1
  refine s_sums_runOnce L hm hN h49 hi (fun M1 r1 r2 r3 a b c f1 g1 ea eb ec p1 p3 p4 p5 u5 => ?_) (fun M1 f1 hno => k3 (stC_3 ht (fun a b c ea eb ec => (hno a b c ea eb ec).elim)) M1 (hm.mv (FrN.ofO f1)) (hh.fn (FrN.ofO f1)) (FrA.ofN (FrN.ofO f1)))
  have m1 := hm.mv (FrN.ofO f1)
  have h1 := hh.fn (FrN.ofO f1)
  have ekind : M1 223 (10 * i) = tk T i := by rw [f1 223 _ (by omega)]; exact okk.1
  refine b_X9_runOnce_35 L (by omega) ?_
  rw [ekind]
  refine s_act L m1 h1 h999 ⟨hk0, hk3⟩ p1 p3 p4 p5 (fun hno M2 r hr f2 => ?_) (fun ho M2 r hr hrb rr h2 f2 e42 e43 => ?_)
  · refine b_X9_runOnce_49 (fun q => absurd q (by omega)) (fun _ => b_X9_runOnce_56 (k3 (stC_3 ht (fun a' b' c' ea' eb' ec' => by rw [ea] at ea'; rw [eb] at eb'; rw [ec] at ec'; cases ea'; cases eb'; cases ec'; exact hno)) M2 ?_ (h1.fl f2) (fun x j q => ?_)))
    · obtain ⟨x1, x2, x3, x4, x5, x6, x7, x8, x9, x10⟩ := m1
      have e223 : M2 223 = M1 223 := funext fun i => f2 223 i (by omega)
      have ecd : cdO M2 = cdO M1 := funext fun k => by unfold cdO; rw [f2 211 k (by omega), f2 212 k (by omega)]
      exact ⟨by rw [f2.row]; exact x1, x2, by rw [e223, ecd]; exact x3, by rw [f2 _ _ (by decide)]; exact x4, by rw [f2 _ _ (by decide)]; exact x5, by rw [f2 _ _ (by decide)]; exact x6, by rw [f2 _ _ (by decide)]; exact x7, by rw [f2 _ _ (by decide)]; exact x8, by rw [f2 _ _ (by decide)]; exact x9, x10⟩
    · rw [f2 x j (by omega)]; exact f1 x j (by omega)
  · obtain ⟨hs, hss⟩ := stC_s0 ht ea eb ec ho
    have e46 : M2 200 46 = dnS σ := by rw [f2 _ _ (by omega)]; exact m1.2.2.2.2.1
    have e47 : M2 200 47 = ltS σ := by rw [f2 _ _ (by omega)]; exact m1.2.2.2.2.2.1
    have e223 : M2 223 (10 * i) = tk T i := by rw [f2 _ _ (by omega)]; exact ekind
    have fin : ∀ v, v = (if tk T i = 2 then botM (gS σ) b a else ltS σ) → Q (some (vI 0)) S (up (up M2 200 47 v) 200 46 (dnS σ + 1)) := by
      intro v ev
      have fu : ∀ x j, ¬ (x = 200 ∧ (j = 46 ∨ j = 47)) → up (up M2 200 47 v) 200 46 (dnS σ + 1) x j = M2 x j := fun x j q => by
        by_cases e : x = 200
        · rw [up_ni (by omega), up_ni (by omega)]
        · rw [up_na e, up_na e]
      refine k0 hs _ ?_ ?_ (fun x j q => ?_)
      · rw [hss]
        refine m1.nx (i := i) ?_ (fun k => by rw [fu _ _ (by omega), f2 _ _ (by omega)]) (fun k => by rw [fu _ _ (by omega), f2 _ _ (by omega)]) (fun k => by rw [fu _ _ (by omega), f2 _ _ (by omega)]) (by rw [fu _ _ (by decide), f2 _ _ (by omega)]) (by rw [fu _ _ (by decide), f2 _ _ (by omega)]) ho hd hy (up_s _ _ _ _) (by rw [up_ni (by decide), up_s]; exact ev) (by rw [fu _ _ (by decide)]; exact e42) (by rw [fu _ _ (by decide)]; exact e43)
        rw [← rr]; exact funext fun k => fu _ _ (by omega)
      · exact h2.congr (fu _ _ (by decide)) (fun i _ _ => fu _ _ (by omega)) (fun i => fu _ _ (by omega))
      · rw [fu x j (by omega), f2 x j (by omega)]; exact f1 x j (by omega)
    refine b_X9_runOnce_49 (fun _ => b_X9_runOnce_59 L (by omega) (fun hn2 => b_X9_runOnce_75 L (by rw [e46]; omega) ?_) (fun he2 => b_X9_runOnce_70 L (by rw [e46]; omega) ?_)) (fun q => absurd q (by omega))
    · rw [e223] at hn2
      rw [e46, e47]; exact fin _ (by rw [if_neg hn2])
    · rw [e223] at he2
      rw [e46]; exact fin _ (by rw [if_pos he2]; exact hrb he2)
/-- years at most 999 stay so in orders -/
theorem st_999 {i : Int} (ok : okST σ) (h : stC TL T i σ = 0) (hk : 0 ≤ tk T i ∧ tk T i ≤ 3) (h9 : gS σ 5 ≤ 999) : gS (stS TL T i σ) 5 ≤ 999 := by
  obtain ⟨-, a, b, c, -, -, -, ho, hs⟩ := stC_0 h
  rw [hs]
  show opG (tk T i) TL (gS σ) a b c 5 ≤ 999
  by_cases h3 : tk T i = 3
  · rw [h3] at ho ⊢
    have hn : gS σ 5 < 999 := by
      unfold opW at ho
      rw [if_neg (by decide), if_neg (by decide), if_neg (by decide)] at ho
      split at ho
      · cases ho
      · omega
    show passG TL (gS σ) 5 ≤ 999
    unfold passG; rw [upr_s]; omega
  · rw [op_5 ok.1 (by omega) ho]; exact h9
theorem rp_999 {i : Int} (hk : 0 ≤ tk T i ∧ tk T i ≤ 3) : ∀ (n : Nat) {σ : ST}, okST σ → dnS σ + n ≤ 1000 → ylS σ + 999 * n ≤ 1400000000 → gS σ 5 ≤ 999 → gS (rpN TL T i n σ).2 5 ≤ 999 := by
  intro n
  induction n with
  | zero => intro σ _ _ _ h; exact h
  | succ n ih =>
    intro σ ok hd hy h
    rw [rpN]
    by_cases hz : stC TL T i σ = 0
    · rw [if_pos hz]
      have b := st_beh ok hz (by omega) (by omega)
      exact ih b.1 (by have := b.2.1; omega) (by have := b.2.2.1; omega) (st_999 ok hz hk h)
    · rw [if_neg hz]; exact h
theorem s_otimes (L : Lay S) {i x1 : Int} (hi : 0 ≤ i ∧ i < tn T) (hk : 0 ≤ tk T i ∧ tk T i ≤ 3) :
    ∀ (n : Nat) (σ : ST) (h : HI) (M : mMem) (tt' : Int), tt' + n = tt T i → 0 ≤ tt' → MS M TL T σ → HistM h M → dnS σ + n ≤ 1000 → ylS σ + 999 * n ≤ 1400000000 → gS σ 5 ≤ 999 →
      (∀ M', MS M' TL T (rpN TL T i n σ).2 → HistM (rpH TL T i n σ h) M' → FrA M M' → ¬ (rpN TL T i n σ).1 = -3 → WP PR (d + 13) 229 126 [vA 200, vI x1, vI i, vI (tt T i)] [] S M' Q) →
      (∀ M' tt2, MS M' TL T (rpN TL T i n σ).2 → FrA M M' → (rpN TL T i n σ).1 = -3 → WP PR (d + 13) 229 103 [vA 200, vI x1, vI i, vI tt2] [] S M' Q) →
      WP PR (d + 13) 229 65 [vA 200, vI x1, vI i, vI tt'] [] S M Q := by
  intro n
  induction n with
  | zero =>
    intro σ h M tt' e h0 m hh _ _ _ k kb
    have n12 := m.2.2.1.1.1.2.1
    have e9 := (m.2.2.1.2 i hi.1 hi.2).2.1
    have : tt' = tt T i := by omega
    subst this
    exact b_X9_orders_65 L (by omega) (fun _ => k M m hh (FrA.rf M) (by show ¬ (0 : Int) = -3; decide)) (fun q => absurd q (by omega))
  | succ n ih =>
    intro σ h M tt' e h0 m hh hd hy h999 k kb
    have n12 := m.2.2.1.1.1.2.1
    have e9 := (m.2.2.1.2 i hi.1 hi.2).2.1
    have ht20 := (m.2.2.1.1.2 i hi.1 hi.2).2.1
    rw [rpN] at k kb
    rw [rpH] at k
    refine b_X9_orders_65 L (by omega) (fun q => absurd q (by omega)) (fun _ => b_X9_orders_81 L (by omega) ?_)
    refine s_isAsked L m hi (fun M1 f1 nw g1 ht => b_X9_orders_89 (fun q => absurd q (by decide)) (fun _ => ?_)) (fun M1 f1 hnt => b_X9_orders_89 (fun _ => ?_) (fun q => absurd rfl q))
    · have m1 := m.mv f1
      refine b_X9_orders_92 L (by omega) (s_runOnce L m1 (hh.fn f1) nw g1 hi ht (by omega) (by omega) h999 (fun h3 M2 m2 h2 f2 => b_X9_orders_100 (fun q => absurd q (by decide)) (fun _ => ?_)) (fun hz M2 m2 h2 f2 => b_X9_orders_100 (fun _ => ?_) (fun q => absurd q (by decide))))
      · rw [if_neg (by omega)] at kb
        exact kb M2 _ m2 ((FrA.ofN f1).tr f2) h3
      · rw [if_pos hz] at k kb
        rw [if_pos hz] at k
        have b := st_beh m.2.2.2.2.2.2.2.2.2 hz (by omega) (by omega)
        exact b_X9_orders_120 (by omega) (ih _ _ M2 _ (by omega) (by omega) m2 h2 (by have := b.2.1; omega) (by have := b.2.2.1; omega) (st_999 m.2.2.2.2.2.2.2.2.2 hz hk h999) (fun M3 m3 h3 f3 c => k M3 m3 h3 (((FrA.ofN f1).tr f2).tr f3) c) (fun M3 tt2 m3 f3 c => kb M3 tt2 m3 (((FrA.ofN f1).tr f2).tr f3) c))
    · have m1 := m.mv f1
      have h9 : stC TL T i σ = -9 := by unfold stC; rw [if_neg hnt]
      rw [if_neg (by omega)] at k kb
      rw [if_neg (by omega)] at k
      have hs := rp_stuck (TL := TL) (T := T) (i := i) (σ := σ) (by omega) n
      have hsH : rpH TL T i n σ h = h := by
        cases n with
        | zero => rfl
        | succ n => rw [rpH, if_neg (by omega)]
      refine b_X9_orders_120 (by omega) (ih σ h M1 _ (by omega) (by omega) m1 (hh.fn f1) (by omega) (by omega) h999 (fun M3 m3 h3 f3 c => k M3 ?_ ?_ ((FrA.ofN f1).tr f3) (by show ¬ stC TL T i σ = -3; omega)) (fun M3 tt2 m3 f3 c => absurd c ?_))
      · rw [hs.1] at m3; exact m3
      · rw [hsH] at h3; exact h3
      · rcases hs.2 with q | q <;> omega
theorem s_keepUndos (L : Lay S) (k : ∀ M', (∀ i, 0 ≤ i → i < 2640 → M' 207 i = M 205 i) → (∀ i, 0 ≤ i → i < 16 → M' 208 i = M 206 i) → (∀ a i, a ≠ 207 → a ≠ 208 → M' a i = M a i) → Q none S M') : e_X9_keepUndos d S M Q := by
  refine b_X9_keepUndos_0 ?_
  refine Eq.mp (congrArg (fun m => WP PR d 230 2 [vA 200, vI 0] [] S m Q) (fw_0 M 207 (fun i => M 205 i) 0)) ?_
  refine for_up (W := fun i => WP PR d 230 2 [vA 200, vI i] [] S (fw M 207 (fun i => M 205 i) 0 i) Q) (lo := 0) (hi := 2640) (by decide) ?_ ?_
  · refine b_X9_keepUndos_2 (fun _ => b_X9_keepUndos_27 ?_) (fun h => absurd h (by decide))
    generalize hM1 : fw M 207 (fun i => M 205 i) 0 2640 = M1
    have e6 : ∀ i, M1 206 i = M 206 i := fun i => by rw [← hM1, fw_na (by decide)]
    refine Eq.mp (congrArg (fun m => WP PR d 230 29 [vA 200, vI 0] [] S m Q) (fw_0 M1 208 (fun i => M 206 i) 0)) ?_
    refine for_up (W := fun i => WP PR d 230 29 [vA 200, vI i] [] S (fw M1 208 (fun i => M 206 i) 0 i) Q) (lo := 0) (hi := 16) (by decide) ?_ ?_
    · refine b_X9_keepUndos_29 (fun _ => b_X9_keepUndos_53 (k _ (fun i q0 q1 => ?_) (fun i q0 q1 => fw_i (by omega)) (fun a i q1 q2 => ?_))) (fun h => absurd h (by decide))
      · rw [fw_na (by decide), ← hM1, fw_i (by omega)]
      · rw [fw_na q2, ← hM1, fw_na q1]
    · intro i h0 h1 ih
      refine b_X9_keepUndos_29 (fun h => absurd h (by omega)) (fun _ => b_X9_keepUndos_35 L (by omega) ?_)
      have := fw_up (M := M1) (a := 208) (f := fun i => M 206 i) (lo := 0) (n := i) (v := fw M1 208 (fun i => M 206 i) 0 i 206 i) h0 (by rw [fw_na (by decide), e6, Int.zero_add])
      rw [Int.zero_add] at this; rw [this]; exact ih
  · intro i h0 h1 ih
    refine b_X9_keepUndos_2 (fun h => absurd h (by omega)) (fun _ => b_X9_keepUndos_9 L (by omega) ?_)
    have := fw_up (M := M) (a := 207) (f := fun i => M 205 i) (lo := 0) (n := i) (v := fw M 207 (fun i => M 205 i) 0 i 205 i) h0 (by rw [fw_na (by decide), Int.zero_add])
    rw [Int.zero_add] at this; rw [this]; exact ih
theorem s_giveBack (L : Lay S) {had : Int} (k : ∀ M', M' 202 = fwr (M 202) (fun i => M 205 (2805 + (i - 5))) 5 165 → (∀ i, 0 ≤ i → i < 2640 → M' 205 i = M 207 i) → (∀ i, 0 ≤ i → i < 16 → M' 206 i = M 208 i) → M' 200 8 = had → (∀ a i, ¬ (a = 202 ∨ (a = 205 ∧ i < 2640) ∨ a = 206 ∨ (a = 200 ∧ i = 8)) → M' a i = M a i) → Q none S M') : e_X9_giveBack (d + 1) had S M Q := by
  refine b_X9_giveBack_0 L (s_putBack L (by decide) (b_X9_giveBack_6 ?_))
  generalize hM0 : putM M 17 = M0
  have r0 : M0 202 = fwr (M 202) (fun i => M 205 (2805 + (i - 5))) 5 165 := by rw [← hM0]; exact fw_g _ _ _ _ _
  have f0 : ∀ a i, a ≠ 202 → M0 a i = M a i := fun a i q => by rw [← hM0]; exact fw_na q
  refine Eq.mp (congrArg (fun m => WP PR (d + 1) 231 8 [vA 200, vI had, vI 0] [] S m Q) (fw_0 M0 205 (fun i => M 207 i) 0)) ?_
  refine for_up (W := fun i => WP PR (d + 1) 231 8 [vA 200, vI had, vI i] [] S (fw M0 205 (fun i => M 207 i) 0 i) Q) (lo := 0) (hi := 2640) (by decide) ?_ ?_
  · refine b_X9_giveBack_8 (fun _ => b_X9_giveBack_33 ?_) (fun h => absurd h (by decide))
    generalize hM1 : fw M0 205 (fun i => M 207 i) 0 2640 = M1
    refine Eq.mp (congrArg (fun m => WP PR (d + 1) 231 35 [vA 200, vI had, vI 0] [] S m Q) (fw_0 M1 206 (fun i => M 208 i) 0)) ?_
    refine for_up (W := fun i => WP PR (d + 1) 231 35 [vA 200, vI had, vI i] [] S (fw M1 206 (fun i => M 208 i) 0 i) Q) (lo := 0) (hi := 16) (by decide) ?_ ?_
    · refine b_X9_giveBack_35 (fun _ => b_X9_giveBack_59 L (k _ ?_ (fun i q0 q1 => ?_) (fun i q0 q1 => ?_) (up_s _ _ _ _) (fun a i q => ?_))) (fun h => absurd h (by decide))
      · rw [← r0]; funext i; rw [up_na (by decide), fw_na (by decide), ← hM1, fw_na (by decide)]
      · rw [up_na (by decide), fw_na (by decide), ← hM1, fw_i (by omega)]
      · rw [up_na (by decide), fw_i (by omega)]
      · have e1 : up (fw M1 206 (fun i => M 208 i) 0 16) 200 8 had a i = fw M1 206 (fun i => M 208 i) 0 16 a i := by
          by_cases e : a = 200
          · exact up_ni (by omega)
          · exact up_na e
        rw [e1, fw_na (by omega), ← hM1]
        by_cases e : a = 205
        · rw [fw_o (by omega)]; exact f0 _ _ (by omega)
        · rw [fw_na e]; exact f0 _ _ (by omega)
    · intro i h0 h1 ih
      refine b_X9_giveBack_35 (fun h => absurd h (by omega)) (fun _ => b_X9_giveBack_41 L (by omega) ?_)
      have := fw_up (M := M1) (a := 206) (f := fun i => M 208 i) (lo := 0) (n := i) (v := fw M1 206 (fun i => M 208 i) 0 i 208 i) h0 (by rw [fw_na (by decide), ← hM1, fw_na (by decide), f0 _ _ (by decide), Int.zero_add])
      rw [Int.zero_add] at this; rw [this]; exact ih
  · intro i h0 h1 ih
    refine b_X9_giveBack_8 (fun h => absurd h (by omega)) (fun _ => b_X9_giveBack_15 L (by omega) ?_)
    have := fw_up (M := M0) (a := 205) (f := fun i => M 207 i) (lo := 0) (n := i) (v := fw M0 205 (fun i => M 207 i) 0 i 207 i) h0 (by rw [fw_na (by decide), f0 _ _ (by decide), Int.zero_add])
    rw [Int.zero_add] at this; rw [this]; exact ih
end MO
