/-! Public methods, both sides: row. -/
section RO
variable {n : Int} {d : Nat} {S : mSh} {M M' : mMem} {Q : Option mV → mSh → mMem → Prop}
theorem c_came (L : Lay S) {g tp : Int → Int} {len at' : Int} (hr : StkR g 9 M) (ok : okS g) (hb : okBy tp len) (ht : ∀ i, 0 ≤ i → i < len → M 3 i = tp i) (hl : M 2 1 = len) (ha : 0 ≤ at' ∧ at' < len) (k1 : rwC tp len at' g → ∀ M', StkR (rwG tp at' g) 9 M' → FrS 9 M M' → Q (some (vI 1)) S M') (k0 : ¬ rwC tp len at' g → Q (some (vI 0)) S M) : e_X8_cameFromTape (d + 2) at' S M Q := by
  have hs := lStk9 L
  have lb := hb.1
  refine b_X8_cameFromTape_0 L (by omega) (fun q => b_X8_cameFromTape_28 (k0 (fun w => by have := w.1; omega))) (fun q => b_X8_cameFromTape_13 L (fun q2 => ?_) (fun q2 => b_X8_cameFromTape_28 (k0 (fun w => by have := w.2.2.2.2; rw [hr.n] at q2; omega))))
  rw [hr.n] at q2
  have e0 := ht at' ha.1 (by omega)
  have e1 := ht (at' + 1) (by omega) (by omega)
  have e2 := ht (at' + 2) (by omega) (by omega)
  refine b_X8_cameFromTape_30 L (by omega) (fun q3 => b_X8_cameFromTape_81 (k0 (fun w => by have := w.2.2.1; omega))) (fun q3 => b_X8_cameFromTape_70 (fun q4 => b_X8_cameFromTape_81 (k0 (fun w => by have := w.2.2.2.1; omega))) (fun q4 => b_X8_cameFromTape_75 (fun q5 => ?_) (fun q5 => b_X8_cameFromTape_81 (k0 (fun w => by have := w.2.1; omega)))))
  rw [e0] at q3; rw [e1] at q4; rw [e1, e2] at q5
  have hc : rwC tp len at' g := ⟨by omega, by omega, by omega, by omega, q2⟩
  obtain ⟨o1, o2, o3, o4, o5, o6⟩ := rwG_ok ok hb ha.1 hc
  have n0 := ok.n
  rw [e0, e1, e2]
  refine b_X8_cameFromTape_83 L (c_add hs hr ok q2 (fun M1 r1 f1 => b_X8_cameFromTape_102 hs (c_addNew hs r1 o1 ⟨n0.1, by show g 0 < newG g (tp at') (tp (at' + 1)) 0; unfold newG; rw [upr_s]; omega⟩ o5 o6 (fun M2 r2 f2 => b_X8_cameFromTape_107 (k1 hc M2 r2 (fun a i q => (f2 a i q).trans (f1 a i q)))))))
/-- the class's loop -/
theorem c_rowLoop (L : Lay S) {g tp : Int → Int} {len : Int} (hb : okBy tp len) (ok : okS g) (hr : StkR g 9 M) (ht : ∀ i, 0 ≤ i → i < len → M 3 i = tp i) (hl : M 2 1 = len) (h12 : M 1 12 = 0)
    (k : ∀ K M' x, 0 ≤ K → K ≤ 200 → len ≤ 3 * K → (K = 0 ∨ 3 * (K - 1) < len) → RwK g K (rwI tp len (g, 0, 0) K) → StkR (rwI tp len (g, 0, 0) K).1 9 M' → M' 1 12 = (rwI tp len (g, 0, 0) K).2.2 → (∀ a i, ¬ ((9 ≤ a ∧ a ≤ 15) ∨ (a = 1 ∧ i = 12)) → M' a i = M a i) → WP PR (d + 3) 88 68 [vA 1, vI (rwI tp len (g, 0, 0) K).2.1, vI x] [] S M' Q) : WP PR (d + 3) 88 27 [vA 1, vI 0, vI 0] [] S M Q := by
  have lb := hb.1
  have key := for_up (W := fun j => ∀ N : mMem, RwK g j (rwI tp len (g, 0, 0) j) → (j = 0 ∨ 3 * (j - 1) < len) → StkR (rwI tp len (g, 0, 0) j).1 9 N → N 1 12 = (rwI tp len (g, 0, 0) j).2.2 → (∀ a i, ¬ ((9 ≤ a ∧ a ≤ 15) ∨ (a = 1 ∧ i = 12)) → N a i = M a i) → WP PR (d + 3) 88 27 [vA 1, vI (rwI tp len (g, 0, 0) j).2.1, vI (3 * j)] [] S N Q) (lo := 0) (hi := 200) (by decide) (fun N rk jb r e f => b_X8_row_27 L (fun q => ?_) (fun q => absurd q (by rw [f _ _ (by omega), hl]; omega))) (fun j j0 j4 ih N rk jb r e f => ?_)
  · exact key M ⟨ok, fun i _ => rfl, by show (0 : Int) ≤ 0 ∧ (0 : Int) ≤ 0; omega, by show (0 : Int) ≤ 0 ∧ (0 : Int) ≤ 0; omega⟩ (Or.inl rfl) hr h12 (fun _ _ _ => rfl)
  · exact k 200 N _ (by decide) (by decide) (by omega) jb rk r e f
  · have l2 : N 2 1 = len := by rw [f _ _ (by omega)]; exact hl
    refine b_X8_row_27 L (fun q => k j N _ j0 (by omega) (by omega) jb rk r e f) (fun q => b_X8_row_38 L ?_)
    rw [l2] at q
    have rs := rwI_s tp len (g, 0, 0) j0
    have rk' := rk.s hb j0
    rw [← rs] at rk'
    refine c_came L r rk.1 hb (fun i q0 q1 => by rw [f _ _ (by omega)]; exact ht i q0 q1) l2 (by omega) (fun hc N1 r1 f1 => b_X8_row_43 (fun w => absurd w (by decide)) (fun _ => b_X8_row_46 (by have := rk.2.2.1; omega) ?_)) (fun hc => b_X8_row_43 (fun _ => b_X8_row_52 L (by have := rk.2.2.2; omega) ?_) (fun w => absurd rfl w))
    · have := ih N1
      rw [rs, rwS_y hc] at this
      rw [rs, rwS_y hc] at rk'
      rw [show 3 * (j + 1) = 3 * j + 3 by omega] at this
      exact this rk' (Or.inr (by omega)) r1 (by rw [f1 _ _ (by omega)]; exact e) (fun a i q => by rw [f1 a i (by omega)]; exact f a i q)
    · have := ih (up N 1 12 (N 1 12 + 1))
      rw [rs, rwS_n hc] at this
      rw [rs, rwS_n hc] at rk'
      rw [show 3 * (j + 1) = 3 * j + 3 by omega] at this
      exact this rk' (Or.inr (by omega)) (r.congr (fun a i q0 q1 => up1_ne (by omega))) (by rw [up_s, e]) (fun a i q => by rw [up1_ne (by omega)]; exact f a i q)
/-- the reference's loop -/
theorem s_rowLoop (L : Lay S) {g tp : Int → Int} {len K : Int} (hb : okBy tp len) (ok : okS g) (hg : M 202 = g) (ht : ∀ i, 0 ≤ i → i < len → M 209 i = tp i) (h11 : M 200 11 = 0) (hK : 0 ≤ K ∧ K ≤ 200 ∧ len ≤ 3 * K ∧ (K = 0 ∨ 3 * (K - 1) < len)) {u4 : mV}
    (k : ∀ M' x u, M' 202 = (rwI tp len (g, 0, 0) K).1 → M' 200 11 = (rwI tp len (g, 0, 0) K).2.2 → (∀ a i, ¬ (a = 202 ∨ (a = 200 ∧ i = 11)) → M' a i = M a i) → WP PR (d + 3) 157 142 [vA 200, vI len, vI (rwI tp len (g, 0, 0) K).2.1, vI x, u] [] S M' Q) : WP PR (d + 3) 157 35 [vA 200, vI len, vI 0, vI 0, u4] [] S M Q := by
  have lb := hb.1
  have key := for_up (W := fun j => ∀ (N : mMem) (u : mV), RwK g j (rwI tp len (g, 0, 0) j) → N 202 = (rwI tp len (g, 0, 0) j).1 → N 200 11 = (rwI tp len (g, 0, 0) j).2.2 → (∀ a i, ¬ (a = 202 ∨ (a = 200 ∧ i = 11)) → N a i = M a i) → WP PR (d + 3) 157 35 [vA 200, vI len, vI (rwI tp len (g, 0, 0) j).2.1, vI (3 * j), u] [] S N Q) (lo := 0) (hi := K) hK.1 (fun N u rk r e f => b_X9_row_35 (fun q => k N _ u r e f) (fun q => absurd q (by omega))) (fun j j0 j4 ih N u rk r e f => ?_)
  · exact key M u4 ⟨ok, fun i _ => rfl, by show (0 : Int) ≤ 0 ∧ (0 : Int) ≤ 0; omega, by show (0 : Int) ≤ 0 ∧ (0 : Int) ≤ 0; omega⟩ hg h11 (fun _ _ _ => rfl)
  · have rs := rwI_s tp len (g, 0, 0) j0
    have rk' := rk.s hb j0
    rw [← rs] at rk'
    have jl : 3 * j < len := by omega
    have c0 := rk.2.2.1
    have c1 := rk.2.2.2
    have no : ¬ rwC tp len (3 * j) (rwI tp len (g, 0, 0) j).1 → ∀ u', WP PR (d + 3) 157 35 [vA 200, vI len, vI (rwI tp len (g, 0, 0) j).2.1, vI (3 * j + 3), u'] [] S (up N 200 11 (N 200 11 + 1)) Q := fun hc u' => by
      have := ih (up N 200 11 (N 200 11 + 1)) u'
      rw [rs, rwS_n hc] at this
      rw [rs, rwS_n hc] at rk'
      rw [show 3 * (j + 1) = 3 * j + 3 by omega] at this
      exact this rk' (by rw [← r]; exact funext fun i => up1_ne (by omega)) (by rw [up_s, e]) (fun a i q => by rw [up1_ne (by omega)]; exact f a i q)
    have t209 : ∀ i, 0 ≤ i → i < len → N 209 i = tp i := fun i q0 q1 => by rw [f _ _ (by omega)]; exact ht i q0 q1
    refine b_X9_row_35 (fun q => absurd q (by omega)) (fun _ => b_X9_row_40 (by omega) (fun q => b_X9_row_87 L (by omega) (no (fun w => by have := w.1; omega) _)) (fun q => b_X9_row_47 L (by omega) (fun q2 => b_X9_row_87 L (by omega) (no (fun w => ?_) _)) (fun q2 => b_X9_row_66 L (by omega) ?_)))
    · rw [t209 _ (by omega) (by omega), t209 _ (by omega) (by omega)] at q2
      have := w.2.1; omega
    · rw [t209 _ (by omega) (by omega), t209 _ (by omega) (by omega)] at q2
      rw [t209 _ (by omega) (by omega), t209 _ (by omega) (by omega)]
      have n0 := rk.1.n
      have z1 := hb.2 (3 * j) (by omega) (by omega)
      have z2 := hb.2 (3 * j + 1) (by omega) (by omega)
      have z3 := hb.2 (3 * j + 2) (by omega) (by omega)
      refine s_comes L r rk.1 (fun w => b_X9_row_84 (fun _ => b_X9_row_126 L (by omega) (no (fun w2 => ?_) _)) (fun w2 => absurd w2 (by decide))) (fun w w2 => b_X9_row_84 (fun _ => b_X9_row_126 L (by omega) (no (fun w3 => ?_) _)) (fun w3 => absurd w3 (by decide))) (fun w w2 N1 row f1 => b_X9_row_84 (fun w3 => absurd w3 (by omega)) (fun _ => b_X9_row_95 L ?_ ?_))
      · have := w2.2.2.1; have := w2.2.2.2.1; omega
      · have := w3.2.2.2.2; omega
      · rw [f1 209 _ (by decide), t209 _ (by omega) (by omega)]; omega
      · have hc : rwC tp len (3 * j) (rwI tp len (g, 0, 0) j).1 := ⟨by omega, by omega, by omega, by omega, w2⟩
        rw [f1 209 _ (by decide), t209 _ (by omega) (by omega)]
        have := ih (up N1 202 (10 + 20 * (rwI tp len (g, 0, 0) j).1 0) (1000 * tp (3 * j + 2))) (vI ((rwI tp len (g, 0, 0) j).1 0))
        rw [rs, rwS_y hc] at this
        rw [rs, rwS_y hc] at rk'
        rw [show 3 * (j + 1) = 3 * j + 3 by omega] at this
        refine this rk' ?_ (by rw [up1_ne (by omega), f1 _ _ (by decide)]; exact e) (fun a i q => by rw [up1_ne (by omega), f1 a i (by omega)]; exact f a i q)
        rw [up_g, row]
        exact (rwG_up (by omega)).symm
theorem t_row : TwoI n (e_X8_row (d + 3)) (e_X9_row (d + 3)) := fun S M h hn => by
  have L := h.lay
  obtain ⟨t1, t2, t3⟩ := h.tap
  have lb := t1.1
  obtain ⟨hh, hi⟩ := h.his
  have nn := h.nn
  refine b_X8_row_0 L (fun q => b_X8_row_18 L ?_) (fun q => b_X8_row_11 L (c_refuse L (by decide) (h.r99 (by decide)) (b_X8_row_17 ⟨_, rfl, ?_⟩)))
  · have f0 : ∀ a i, ¬ (a = 1 ∧ i = 12) → up M 1 12 0 a i = M a i := fun a i q => up1_ne q
    refine c_rowLoop L (tp := M 209) (len := M 200 13) t1 h.ok (h.r.congr (fun a i q0 q1 => f0 a i (by omega))) (fun i q0 q1 => by rw [f0 _ _ (by omega)]; exact t2 i q0 q1) (by rw [f0 _ _ (by omega)]; exact t3) (up_s _ _ _ _) (fun K M1 x K0 K2 K3 K4 rk r1 e12 f1 => b_X8_row_68 L (b_X1_clear_0 L (b_X8_row_83 L (b_X8_accept_0 L (b_X8_row_88 ⟨_, rfl, ?_⟩)))))
    have f2 : ∀ a i, ¬ ((9 ≤ a ∧ a ≤ 15) ∨ (a = 1 ∧ (i = 12 ∨ i = 11)) ∨ (a = 2 ∧ i = 1) ∨ (a = 55 ∧ i = 3)) → up (up (up M1 2 1 0) 55 3 0) 1 11 0 a i = M a i := fun a i q => by rw [up3_ne (by omega) (by omega) (by omega), f1 a i (by omega), f0 a i (by omega)]
    have f21 : ∀ a i, ¬ ((a = 1 ∧ i = 11) ∨ (a = 2 ∧ i = 1) ∨ (a = 55 ∧ i = 3)) → up (up (up M1 2 1 0) 55 3 0) 1 11 0 a i = M1 a i := fun a i q => up3_ne (by omega) (by omega) (by omega)
    have a2 : up (up (up M1 2 1 0) 55 3 0) 1 11 0 2 1 = 0 := by rw [up_na (by decide), up_na (by decide), up_s]
    have a3 : up (up (up M1 2 1 0) 55 3 0) 1 11 0 55 3 = 0 := by rw [up_na (by decide), up_s]
    have a11 : up (up (up M1 2 1 0) 55 3 0) 1 11 0 1 11 = 0 := up_s _ _ _ _
    generalize up (up (up M1 2 1 0) 55 3 0) 1 11 0 = M2 at *
    rw [t3] at q
    have e13 : M2 200 13 = M 200 13 := f2 _ _ (by omega)
    refine b_X9_row_0 L (fun _ => b_X9_row_26 L ?_) (fun w => absurd w (by omega))
    rw [e13]
    have f3 : ∀ a i, ¬ (a = 200 ∧ (i = 0 ∨ i = 13 ∨ i = 11)) → up (up (up M2 200 0 0) 200 13 0) 200 11 0 a i = M2 a i := fun a i q => up3_ne (by omega) (by omega) (by omega)
    have b13 : up (up (up M2 200 0 0) 200 13 0) 200 11 0 200 13 = 0 := by rw [up_ni (by decide), up_s]
    have b11 : up (up (up M2 200 0 0) 200 13 0) 200 11 0 200 11 = 0 := up_s _ _ _ _
    generalize up (up (up M2 200 0 0) 200 13 0) 200 11 0 = M3 at *
    refine s_rowLoop L (tp := M 209) (len := M 200 13) t1 h.ok (funext fun i => by rw [f3 _ _ (by omega), f2 _ _ (by omega)]) (fun i _ _ => by rw [f3 _ _ (by omega), f2 _ _ (by omega)]) b11 ⟨K0, K2, K3, K4⟩ (fun M4 x u row e f4 => b_X9_row_142 L (s_lasting L (by have := rk.2.2.1; omega) (fun w => absurd w (by have := rk.2.2.1; omega)) (b_X9_row_147 ⟨rfl, ?_⟩)))
    unfold lastM
    rw [tellM_p (by have := rk.2.2.1; omega), if_neg (by have := rk.2.2.1; omega)]
    have gg : ∀ a i, ¬ ((9 ≤ a ∧ a ≤ 15) ∨ (a = 1 ∧ (i = 12 ∨ i = 11)) ∨ (a = 2 ∧ i = 1) ∨ (a = 55 ∧ i = 3) ∨ (a = 200 ∧ (i = 0 ∨ i = 13 ∨ i = 11 ∨ i = 8 ∨ i = 1)) ∨ a = 202) → up (up M4 200 8 0) 200 1 0 a i = M a i := fun a i q => by rw [up2_ne (by omega) (by omega), f4 a i (by omega), f3 a i (by omega), f2 a i (by omega)]
    have g2 : ∀ a i, a ≤ 199 → up (up M4 200 8 0) 200 1 0 a i = M2 a i := fun a i q => by rw [up2_ne (by omega) (by omega), f4 a i (by omega), f3 a i (by omega)]
    have r8 : up (up M4 200 8 0) 200 1 0 200 8 = 0 := by rw [up_ni (by decide), up_s]
    have r1' : up (up M4 200 8 0) 200 1 0 200 1 = 0 := up_s _ _ _ _
    have r11 : up (up M4 200 8 0) 200 1 0 200 11 = (rwI (M 209) (M 200 13) (M 202, 0, 0) K).2.2 := by rw [up2_ne (by omega) (by omega)]; exact e
    have r13 : up (up M4 200 8 0) 200 1 0 200 13 = 0 := by rw [up2_ne (by omega) (by omega), f4 _ _ (by omega)]; exact b13
    have row' : up (up M4 200 8 0) 200 1 0 202 = (rwI (M 209) (M 200 13) (M 202, 0, 0) K).1 := by rw [← row]; exact funext fun i => up2_ne (by omega) (by omega)
    generalize up (up M4 200 8 0) 200 1 0 = M' at *
    obtain ⟨w1, w2, w3, w4⟩ := h.wrd
    refine h.all (m := n + 1) (by omega) (GrS.rf S) (fun a i q => gg a i (by omega)) ?_ ⟨[], hi.nil r8 (by rw [g2 _ _ (by omega)]; exact a3) (gg _ _ (by omega)) (fun i => gg _ _ (by omega))⟩ ⟨?_, ?_, ?_⟩ ⟨?_, ?_, ?_, ?_⟩ (h.rf.cg (by omega) (fun i => gg _ _ (by omega)) (fun i => gg _ _ (by omega))) (fun k q0 q1 => by rw [gg _ _ (by omega)]; exact h.lef.1 k q0 q1) (h.lb.cg (fun i q => gg _ _ (by omega))) h.sz.le
    · rw [row']
      refine h.sta.stk rk.1 (by rw [rk.2.1 5 (by omega)]; exact h.y) (r1.congr (fun a i q0 q1 => by rw [g2 a i (by omega), f21 a i (by omega)])) (fun i q => rk.2.1 i (by omega)) (fun a i q0 q1 q2 => gg a i (by omega)) (fun a i q0 q1 => gg a i (by omega))
    · rw [r13]; exact ⟨by decide, fun i q0 q1 => absurd q1 (by omega)⟩
    · intro i q0 q1; rw [r13] at q1; omega
    · rw [r13, g2 _ _ (by omega)]; exact a2
    · rw [r1', g2 _ _ (by omega)]; exact a11
    · rw [r11, g2 _ _ (by omega), f21 _ _ (by omega)]; exact e12
    · rw [gg _ _ (by omega), gg _ _ (by omega)]; exact w3
    · rw [gg _ _ (by omega), gg _ _ (by omega)]; exact w4
  · rw [t3] at q
    have e13 : refC M (-6) 200 13 = M 200 13 := by unfold refC; exact up2_ne (by omega) (by omega)
    refine b_X9_row_0 L (fun w => absurd w (by rw [e13]; omega)) (fun _ => b_X9_row_19 L ?_)
    have e0 : up (up (refC M (-6)) 200 0 0) 200 13 0 = up (refC M (-6)) 200 0 0 := funext fun a => funext fun i => by
      by_cases w : a = 200 ∧ i = 13
      · rw [w.1, w.2, up_s, up1_ne (by omega), e13]; omega
      · exact up1_ne w
    rw [e0]
    exact s_tl h hn (by decide) (fun c => b_X9_row_25 ⟨rfl, c⟩)
end RO
