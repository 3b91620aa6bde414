/-! The reference reads an order: the whole. -/
section OE
variable {d : Nat} {S : mSh} {M : mMem} {Q : Option mV → mSh → mMem → Prop} {tp : Int → Int} {len p nl lf : Int} {T : TX} {M0 : mMem} {c q m : Int} {A B C : Option Den}
theorem smN_s {laws : Bool} {v : Int} {s : Nat} {F : Int → Option Den} (e : smN tp len laws v p nl s = .inr (q, m, F)) : smN tp len laws v p nl (s + 1) = match smA tp len laws v s q m with
    | .inl f => .inl f
    | .inr (r, l, D) => .inr (r, l, fun i => if i = (s : Int) then some D else F i) := by
  show (match smN tp len laws v p nl s with
    | .inl f => (.inl f : RC)
    | .inr (q, m, F) => match smA tp len laws v s q m with
      | .inl f => .inl f
      | .inr (r, l, D) => .inr (r, l, fun i => if i = (s : Int) then some D else F i)) = _
  rw [e]
theorem smN_f {laws : Bool} {v f : Int} {s : Nat} (e : smN tp len laws v p nl s = .inl f) : smN tp len laws v p nl (s + 1) = .inl f := by
  show (match smN tp len laws v p nl s with
    | .inl f => (.inl f : RC)
    | .inr (q, m, F) => match smA tp len laws v s q m with
      | .inl f => .inl f
      | .inr (r, l, D) => .inr (r, l, fun i => if i = (s : Int) then some D else F i)) = _
  rw [e]
theorem smA_w {laws : Bool} {v : Int} {s : Nat} (hs : ¬ s = 0) (hw : tS tp len p = 1 ∧ tW tp len p = sWd v s) : smA tp len laws v s p nl = prs tp len laws FU 4 D0 (tT tp len p) nl 0 := by
  unfold smA; rw [if_neg hs, if_pos hw]
theorem smA_n {laws : Bool} {v : Int} {s : Nat} (hs : ¬ s = 0) (hw : ¬ (tS tp len p = 1 ∧ tW tp len p = sWd v s)) : smA tp len laws v s p nl = .inl (tF tp len p) := by
  unfold smA; rw [if_neg hs, if_neg hw]
theorem s_ordIn (L : Lay S) (hlf : ¬ lf = 0) {kd x1 x3 v : Int} {s : Nat} {F : Int → Option Den} (hc : 0 ≤ c ∧ c < 12) (hs : ¬ s = 0) (hw : sWd v s = 302) (e : smN tp len false v p nl s = .inr (q, m, F)) (h : OrC lf tp len M0 T c kd A B C q m M)
    (kG : ∀ r l E M', smN tp len false v p nl (s + 1) = .inr (r, l, fun i => if i = (s : Int) then some E else F i) → OrC lf tp len M0 T c kd A B (some E) r l M' → WP PR (d + 9) 219 164 [vA 200, vI x1, vI (10 * c), vI x3] [] S M' Q)
    (kB : ∀ f M', smN tp len false v p nl (s + 1) = .inl f → BadR M0 f M' → Q none S M') : WP PR (d + 9) 219 154 [vA 200, vI x1, vI (10 * c), vI x3] [] S M Q := by
  refine b_X9_readOrder_154 L (by omega) (s_readBehind L hlf h.1 h.2.1 (by omega) (fun w q' m' D M1 eq p1 _ sw => kG q' m' D M1 (by rw [smN_s e, smA_w hs (by rw [hw]; exact w), eq]) (h.s5 hc.1 p1 sw)) (fun f M1 w1 w2 b => s_ord164B L hc ⟨b.1, h.2.2.2.2.2.1.tr b.2⟩ (fun M2 b2 => kB f M2 ?_ b2)))
  by_cases w : tS tp len q = 1 ∧ tW tp len q = 302
  · rw [smN_s e, smA_w hs (by rw [hw]; exact w), w1 w]
  · rw [smN_s e, smA_n hs (by rw [hw]; exact w), w2 w]
theorem s_ordFrom (L : Lay S) (hlf : ¬ lf = 0) {kd x1 x3 v : Int} {s : Nat} {F : Int → Option Den} (hc : 0 ≤ c ∧ c < 12) (hs : ¬ s = 0) (hw : sWd v s = 215533) (e : smN tp len false v p nl s = .inr (q, m, F)) (h : OrC lf tp len M0 T c kd A B C q m M)
    (kG : ∀ r l E M', smN tp len false v p nl (s + 1) = .inr (r, l, fun i => if i = (s : Int) then some E else F i) → OrC lf tp len M0 T c kd A (some E) C r l M' → WP PR (d + 9) 219 145 [vA 200, vI x1, vI (10 * c), vI x3] [] S M' Q)
    (kB : ∀ f M', smN tp len false v p nl (s + 1) = .inl f → BadR M0 f M' → Q none S M') : WP PR (d + 9) 219 135 [vA 200, vI x1, vI (10 * c), vI x3] [] S M Q := by
  refine b_X9_readOrder_135 L (by omega) (s_readBehind L hlf h.1 h.2.1 (by omega) (fun w q' m' D M1 eq p1 _ sw => kG q' m' D M1 (by rw [smN_s e, smA_w hs (by rw [hw]; exact w), eq]) (h.s3 hc.1 p1 sw)) (fun f M1 w1 w2 b => s_ord145B L hc ⟨b.1, h.2.2.2.2.2.1.tr b.2⟩ (fun M2 b2 => kB f M2 ?_ b2)))
  by_cases w : tS tp len q = 1 ∧ tW tp len q = 215533
  · rw [smN_s e, smA_w hs (by rw [hw]; exact w), w1 w]
  · rw [smN_s e, smA_n hs (by rw [hw]; exact w), w2 w]
/-- all sums of an order -/
theorem s_ordSums (L : Lay S) (hlf : ¬ lf = 0) {kd x3 : Int} (hc : 0 ≤ c ∧ c < 12) (hk : 0 ≤ kd ∧ kd ≤ 2) (h : OrC lf tp len M0 T c kd none none none p nl M)
    (kG : ∀ q m F M', smN tp len false kd p nl (nSm kd) = .inr (q, m, F) → OrC lf tp len M0 T c kd (F 0) (if kd = 0 then none else F 1) (if kd = 0 then F 1 else F 2) q m M' → WP PR (d + 9) 219 164 [vA 200, vI kd, vI (10 * c), vI x3] [] S M' Q)
    (kB : ∀ f M', smN tp len false kd p nl (nSm kd) = .inl f → BadR M0 f M' → Q none S M') : WP PR (d + 9) 219 118 [vA 200, vI kd, vI (10 * c), vI x3] [] S M Q := by
  refine b_X9_readOrder_118 L (by omega) (s_readSum L hlf h.1 h.2.1 (by omega) (fun q m D M1 eq p1 _ sw => ?_) (fun f M1 eq b => s_ord125B L hc ⟨b.1, h.2.2.2.2.2.1.tr b.2⟩ (fun M2 b2 => kB f M2 ?_ b2)))
  · have e1 : smN tp len false kd p nl 1 = .inr (q, m, fun i => if i = 0 then some D else none) := by rw [smN_1, eq]
    have o1 := h.s1 hc.1 p1 sw
    obtain k0 | k1 | k2 : kd = 0 ∨ kd = 1 ∨ kd = 2 := by omega
    · subst k0
      refine b_X9_readOrder_125 (fun w => absurd w (by decide)) (fun _ => b_X9_readOrder_130 (fun _ => b_X9_readOrder_145 (fun w => absurd w (by decide)) (fun _ => b_X9_readOrder_150 (fun w => absurd rfl w) (fun _ => ?_))) (fun w => absurd w (by decide)))
      exact s_ordIn L hlf hc (by decide) rfl e1 o1 (fun r l E M2 e2 o2 => kG r l _ M2 e2 o2) (fun f M2 e2 b2 => kB f M2 e2 b2)
    · subst k1
      refine b_X9_readOrder_125 (fun _ => ?_) (fun w => absurd rfl w)
      refine s_ordFrom L hlf hc (by decide) rfl e1 o1 (fun r l E M2 e2 o2 => b_X9_readOrder_145 (fun _ => ?_) (fun w => absurd rfl w)) (fun f M2 e2 b2 => kB f M2 (smN_f e2) b2)
      exact s_ordIn L hlf hc (by decide) rfl e2 o2 (fun r l E M2 e2 o2 => kG r l _ M2 e2 o2) (fun f M2 e2 b2 => kB f M2 e2 b2)
    · subst k2
      refine b_X9_readOrder_125 (fun w => absurd w (by decide)) (fun _ => b_X9_readOrder_130 (fun w => absurd rfl w) (fun _ => ?_))
      exact s_ordFrom L hlf hc (by decide) rfl e1 o1 (fun r l E M2 e2 o2 => b_X9_readOrder_145 (fun w => absurd w (by decide)) (fun _ => b_X9_readOrder_150 (fun _ => kG r l _ M2 e2 o2) (fun w => absurd w (by decide)))) (fun f M2 e2 b2 => kB f M2 e2 b2)
  · have e1 : smN tp len false kd p nl 1 = .inl f := by rw [smN_1, eq]
    obtain k0 | k1 | k2 : kd = 0 ∨ kd = 1 ∨ kd = 2 := by omega
    · subst k0; exact smN_f e1
    · subst k1; exact smN_f (smN_f e1)
    · subst k2; exact smN_f e1
theorem s_readOrderz2 (L : Lay S) {x1 x2 : Int} (hx : 0 ≤ x2 ∧ x2 + 10 ≤ 120) (k : ∀ M', (∀ a i, ¬ (a = 223 ∧ x2 ≤ i ∧ i < x2 + 10) → M' a i = M a i) → (∀ i, x2 ≤ i → i < x2 + 10 → M' 223 i = 0) → WP PR (d + 1) 219 106 [vA 200, vI x1, vI x2, vI 10] [] S M' Q) : WP PR (d + 1) 219 85 [vA 200, vI x1, vI x2, vI 0] [] S M Q := by
  have key := for_up (W := fun x => ∀ M1, (∀ a i, ¬ (a = 223 ∧ x2 ≤ i ∧ i < x2 + 10) → M1 a i = M a i) → (∀ i, x2 ≤ i → i < x2 + x → M1 223 i = 0) → WP PR (d + 1) 219 85 [vA 200, vI x1, vI x2, vI x] [] S M1 Q) (lo := 0) (hi := 10) (by decide) (fun M1 f1 z1 => b_X9_readOrder_85 (fun _ => k M1 f1 z1) (fun q => absurd q (by decide))) (fun x x0 x7 ih M1 f1 z1 => b_X9_readOrder_85 (fun q => absurd q (by omega)) (fun _ => b_X9_readOrder_91 L (by omega) (ih _ (fun a i q => ?_) (fun i q0 q1 => ?_))))
  · exact key M (fun _ _ _ => rfl) (fun i q0 q1 => absurd q1 (by omega))
  · rw [up1_ne (by omega)]; exact f1 _ _ q
  · by_cases ei : i = x2 + x
    · subst ei; exact up_s _ _ _ _
    · rw [up_ni ei]; exact z1 i q0 (by omega)
theorem DrO.ap {M : mMem} {k t : Int} {F : Int → Option Den} (h : DrO M (tn T) T) (h1 : M 223 (10 * tn T) = k) (h9 : M 223 (10 * tn T + 9) = t) (h2 : SecN (cdO M) (M 200 23) (M 223 (10 * tn T + 1)) (M 223 (10 * tn T + 1 + 1)) (F 0)) (h3 : SecN (cdO M) (M 200 23) (M 223 (10 * tn T + 7)) (M 223 (10 * tn T + 8)) (F 3)) (h4 : SecN (cdO M) (M 200 23) (M 223 (10 * tn T + 3)) (M 223 (10 * tn T + 3 + 1)) (if k = 0 then none else F 1)) (h5 : SecN (cdO M) (M 200 23) (M 223 (10 * tn T + 5)) (M 223 (10 * tn T + 5 + 1)) (if k = 0 then F 1 else F 2)) : DrO M (tn T + 1) (apT T k t F) := fun i q0 q1 => by
  show M 223 (10 * i) = (if i = tn T then k else tk T i) ∧ M 223 (10 * i + 9) = (if i = tn T then t else tt T i) ∧ SecN _ _ _ _ ((if i = tn T then F else ts T i) 0) ∧ SecN _ _ _ _ ((if i = tn T then F else ts T i) 3) ∧ SecN _ _ _ _ (if (if i = tn T then k else tk T i) = 0 then none else (if i = tn T then F else ts T i) 1) ∧ SecN _ _ _ _ (if (if i = tn T then k else tk T i) = 0 then (if i = tn T then F else ts T i) 1 else (if i = tn T then F else ts T i) 2)
  by_cases ei : i = tn T
  · simp only [if_pos ei]; rw [ei]; exact ⟨h1, h9, h2, h3, h4, h5⟩
  · simp only [if_neg ei]; exact h i q0 (by omega)
theorem s_readOrder (L : Lay S) (hlf : ¬ lf = 0) (h : EPre lf tp len p nl M) (ht : TabM M) (hT : DrO M (tn T) T) (h21 : M 200 21 = tn T) (hn : 0 ≤ tn T ∧ tn T ≤ 12)
    (kG : tn T < 12 → ∀ q m v t F M', clR tp len false p nl = .inr (q, m, v, t, F) → EPre lf tp len q m M' → DrO M' (tn T + 1) (apT T (kdV false v) t F) → M' 200 21 = tn T + 1 → FrTM M M' → Q none S M')
    (kB : ∀ f M', (12 ≤ tn T → f = tF tp len p) → (tn T < 12 → clR tp len false p nl = .inl f) → BadR M f M' → Q none S M') : e_X9_readOrder (d + 9) S M Q := by
  have h19 := h.2.2.1
  have vr := vrb_rng false (tS tp len p) (tW tp len p)
  have hp := h.1.2.2.2.1
  have hl := h.1.1.1
  refine s_readOrderv L h.1 ht ?_
  have ek : kdN false (tS tp len p) (tW tp len p) = if vrb false (tS tp len p) (tW tp len p) = -1 then -1 else vrb false (tS tp len p) (tW tp len p) := rfl
  have eC : ∀ v, vrb false (tS tp len p) (tW tp len p) = v → ¬ v = -1 → clR tp len false p nl = match smN tp len false v (tT tp len p) nl (nSm v) with
      | .inl f => .inl f
      | .inr (q, m, F) => match tmR tp len false q with
        | .inl f => .inl f
        | .inr (r, t) => match ifR tp len false r m with
          | .inl f => .inl f
          | .inr (z, l, o) => .inr (z, l, v, t, fun i => if i = 3 then o else F i) := fun v hv h1 => by
    unfold clR; rw [hv, if_neg h1]; rfl
  generalize hv : vrb false (tS tp len p) (tW tp len p) = v at ek vr
  generalize kdN false (tS tp len p) (tW tp len p) = kd at ek
  have bad : v = -1 ∨ 12 ≤ tn T → WP PR (d + 9) 219 53 [vA 200, vI kd, vI 4, vU] [vA 200] S M Q := fun hb =>
    b_X9_readOrder_53 L (s_must0 L h.1 h19 (b_X9_readOrder_57 L (fun w => absurd w (by rw [up_ni (by decide), up_s]; decide)) (fun _ => b_X9_readOrder_64 (kB _ _ (fun _ => rfl) (fun w => by unfold clR; rw [hv, if_pos (by omega)]) ⟨⟨by rw [up_ni (by decide), up_s], up_s _ _ _ _⟩, fun a i q => by rw [up2_ne (by omega) (by omega)]⟩))))
  have ekv : kd = v := by
    rw [ek]; split
    · next hh => exact hh.symm
    · rfl
  subst ekv
  refine b_X9_readOrder_34 (fun w => bad (Or.inl w)) (fun w => b_X9_readOrder_40 L (fun w2 => bad (Or.inr (by omega))) (fun w2 => b_X9_readOrder_49 L (s_must1 L h.1 h19 (fun M1 r1 f1 => b_X9_readOrder_57 L (fun _ => b_X9_readOrder_65 L (by rw [f1 _ _ (by omega)]; omega) ?_) (fun w3 => absurd ((f1 _ _ (by omega)).trans h19) w3)))))
  have hk : 0 ≤ kd ∧ kd ≤ 3 := by
    rcases vr with x | x
    · exact absurd x w
    · rcases x.2 with y | y
      · exact absurd y.1 (by decide)
      · exact ⟨y.2.1, y.2.2⟩
  have p1 := h.nx r1 f1
  rw [f1 200 21 (by omega), h21]
  refine s_readOrderz2 L (by omega) (fun M2 f2 z2 => ?_)
  have eC := eC kd hv w
  have f3 : ∀ a i, ¬ ((a = 223 ∧ 10 * tn T ≤ i ∧ i < 10 * tn T + 10) ∨ (a = 200 ∧ i = 21)) → up M2 223 (10 * tn T) kd a i = M1 a i := fun a i w => by
    rw [up1_ne (by omega), f2 a i (by omega), up1_ne (by omega)]
  have z3 : ∀ i, 10 * tn T + 1 ≤ i → i < 10 * tn T + 10 → up M2 223 (10 * tn T) kd 223 i = 0 := fun i q0 q1 => by rw [up1_ne (by omega)]; exact z2 i (by omega) q1
  have e0 : up M2 223 (10 * tn T) kd 223 (10 * tn T) = kd := up_s _ _ _ _
  have e21 : up M2 223 (10 * tn T) kd 200 21 = tn T + 1 := by rw [up1_ne (by omega), f2 _ _ (by omega), up_s]
  have hR := b_X9_readOrder_106 (d := d + 9) (x1 := kd) (x2 := 10 * tn T) (x3 := 10) (M := M2) (Q := Q) L (by omega)
  generalize up M2 223 (10 * tn T) kd = M3 at *
  have c3 : cdO M3 = cdO M := by rw [← f1.cd]; exact funext fun i => cdO_eq (f3 _ _ (by omega)) (f3 _ _ (by omega))
  have n3 : M3 200 23 = M 200 23 := by rw [f3 _ _ (by omega)]; exact f1 _ _ (by omega)
  have F3 : FrTM M M3 := (FrTM.ofT f1).tr (fun a i q => f3 a i (by omega))
  have T3 : DrO M3 (tn T) T := hT.gr (by omega) (fun i _ _ => by rw [c3]) (fun i q0 q1 => by rw [f3 _ _ (by omega)]; exact f1 _ _ (by omega))
  have o3 : OrC lf tp len M T (tn T) kd none none none (tT tp len p) nl M3 := ⟨p1.cg (fun a i q => f3 a i (by omega)), ht.mvT F3, T3, e0, e21, F3, by show M3 223 _ = M3 223 _; rw [z3 _ (by omega) (by omega), z3 _ (by omega) (by omega)], by show M3 223 _ = M3 223 _; rw [z3 _ (by omega) (by omega), z3 _ (by omega) (by omega)], by show M3 223 _ = M3 223 _; rw [z3 _ (by omega) (by omega), z3 _ (by omega) (by omega)]⟩
  have tail : ∀ q m F M4 x3, smN tp len false kd (tT tp len p) nl (nSm kd) = .inr (q, m, F) → OrC lf tp len M T (tn T) kd (F 0) (if kd = 0 then none else F 1) (if kd = 0 then F 1 else F 2) q m M4 → WP PR (d + 9) 219 164 [vA 200, vI kd, vI (10 * tn T), vI x3] [] S M4 Q := by
    intro q m F M4 x3 eS o4
    rw [eS] at eC
    simp only at eC
    refine s_ordTail L hlf ⟨hn.1, by omega⟩ o4 (fun r t z l o' M5 eT eI o5 e9 s5 => ?_) (fun f M5 eT b5 => kB f M5 (fun w => absurd w (by omega)) (fun _ => by rw [eC, eT]) b5) (fun r t f M5 eT eI b5 => kB f M5 (fun w => absurd w (by omega)) (fun _ => by rw [eC, eT]; simp only; rw [eI]) b5)
    obtain ⟨y1, y2, y3, y4, y5, y6, y7, y8, y9⟩ := o5
    exact kG (by omega) z l kd t (fun i => if i = 3 then o' else F i) M5 (by rw [eC, eT]; simp only; rw [eI]) y1 (y3.ap y4 e9 y7 s5 y8 y9) y5 y6
  refine hR (fun w4 => ?_) (fun w4 => ?_)
  · subst w4
    refine b_X9_readOrder_125 (fun w => absurd w (by decide)) (fun _ => b_X9_readOrder_130 (fun _ => b_X9_readOrder_145 (fun w => absurd w (by decide)) (fun _ => b_X9_readOrder_150 (fun _ => ?_) (fun w => absurd w (by decide)))) (fun w => absurd w (by decide)))
    exact tail (tT tp len p) nl (fun _ => none) M3 10 rfl o3
  · exact s_ordSums L hlf ⟨hn.1, by omega⟩ (by omega) o3 (fun q m F M4 eS o4 => tail q m F M4 10 eS o4) (fun f M4 eS b4 => kB f M4 (fun w => absurd w (by omega)) (fun _ => by rw [eC, eS]) b4)
end OE
