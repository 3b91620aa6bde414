/-! The reference reads a part; what it asks of its pile. -/
def inn : PL → Int
  | [] => -1
  | x :: P => if 31 ≤ x.1 then x.1 else inn P
def cmpd : PL → Prop
  | [] => False
  | x :: P => if 20 ≤ x.1 ∧ x.1 ≤ 24 then cmpd P else 25 ≤ x.1 ∧ x.1 ≤ 27
section RQ
variable {d : Nat} {S : mSh} {M : mMem} {Q : Option mV → mSh → mMem → Prop} {tp : Int → Int} {len p nl dp lf : Int} {P : PL} {laws : Bool}
theorem s_inner (L : Lay S) (hp : PileM M P (M 200 29)) (hn : lnP P ≤ 400) (k : Q (some (vI (inn P))) S M) : e_X9_inner d S M Q := by
  refine b_X9_inner_0 ?_
  have key : ∀ (P : PL) (n : Int), PileM M P n → n ≤ M 200 29 → n ≤ 400 → WP PR d 175 4 [vA 200, vI (inn P), vI n] [] S M Q → WP PR d 175 4 [vA 200, vI (-1), vI 0] [] S M Q := by
    intro P
    induction P with
    | nil => intro n h _ _ w; have h : n = 0 := h; subst h; exact w
    | cons x P ih =>
      intro n h h1 h2 w
      have l := h.ln
      have l2 := ln_p P
      rw [ln_s] at l
      refine ih (n - 1) h.2.2 (by omega) (by omega) (b_X9_inner_4 L (fun q => absurd q (by omega)) (fun _ => b_X9_inner_12 L (by omega) (fun q => b_X9_inner_32 (by omega) ?_) (fun q => b_X9_inner_23 L (by omega) ?_)))
      · rw [h.1] at q
        have e : inn (x :: P) = inn P := if_neg (by omega)
        rw [e] at w
        rw [show n - 1 + 1 = n by omega]; exact w
      · rw [h.1] at q
        have e : inn (x :: P) = x.1 := if_pos q
        rw [e] at w
        rw [h.1, show n - 1 + 1 = n by omega]; exact w
  have hl := hp.ln
  exact key P _ hp (Int.le_refl _) (by omega) (b_X9_inner_4 L (fun _ => b_X9_inner_40 k) (fun q => absurd q (by omega)))
theorem s_isCmp (L : Lay S) (hp : PileM M P (M 200 29)) (hn : lnP P ≤ 400) (k1 : cmpd P → Q (some (vI 1)) S M) (k0 : ¬ cmpd P → Q (some (vI 0)) S M) : e_X9_isCompared (d + 1) S M Q := by
  have hl := hp.ln
  have l0 := ln_p P
  refine b_X9_isCompared_0 L (by omega) ?_
  have key : ∀ (P : PL) (n : Int), PileM M P n → n ≤ 400 → (cmpd P → Q (some (vI 1)) S M) → (¬ cmpd P → Q (some (vI 0)) S M) → WP PR (d + 1) 176 7 [vA 200, vI (n - 1)] [] S M Q := by
    intro P
    induction P with
    | nil =>
      intro n h _ k1 k0
      have h : n = 0 := h
      subst h
      exact b_X9_isCompared_7 (fun _ => b_X9_isCompared_36 (fun _ => b_X9_isCompared_63 (k0 (fun q => q))) (fun q => absurd q (by omega))) (fun q => absurd q (by omega))
    | cons x P ih =>
      intro n h h2 k1 k0
      have l := h.ln
      have l2 := ln_p P
      rw [ln_s] at l
      refine b_X9_isCompared_7 (fun q => absurd q (by omega)) (fun _ => b_X9_isCompared_11 L (by omega) ?_)
      rw [h.1]
      refine s_in (fun q => b_X9_isCompared_27 (fun q' => absurd q' (by decide)) (fun _ => b_X9_isCompared_30 (by omega) ?_)) (fun q => b_X9_isCompared_27 (fun _ => b_X9_isCompared_36 (fun q' => absurd q' (by omega)) (fun _ => b_X9_isCompared_40 L (by omega) ?_)) (fun q' => absurd rfl q'))
      · have e : cmpd (x :: P) = cmpd P := if_pos q
        rw [e] at k1 k0
        rw [show n - 1 + -1 = n - 1 - 1 by omega]
        exact ih (n - 1) h.2.2 (by omega) k1 k0
      · have e : cmpd (x :: P) = (25 ≤ x.1 ∧ x.1 ≤ 27) := if_neg q
        rw [e] at k1 k0
        rw [h.1]
        exact s_in (fun q2 => b_X9_isCompared_56 (fun q' => absurd q' (by decide)) (fun _ => b_X9_isCompared_59 (k1 q2))) (fun q2 => b_X9_isCompared_56 (fun _ => b_X9_isCompared_63 (k0 q2)) (fun q' => absurd rfl q'))
  exact key P _ hp (by omega) k1 k0
theorem s_rdPart (L : Lay S) (h : MPs lf tp len p nl dp P M) (ht : TabM M) (hlf : (laws = true ∧ lf = 0) ∨ (laws = false ∧ ¬ lf = 0))
    (kO : tS tp len p = 3 ∧ tW tp len p = 91 → dp < 8 → ∀ M', MPs lf tp len (tT tp len p) nl (dp + 1) ((32, 0) :: P) M' → FrPs M M' → cdO M' = cdO M → M' 200 23 = M 200 23 → Q (some (vI 1)) S M')
    (kOB : tS tp len p = 3 ∧ tW tp len p = 91 → 8 ≤ dp → ∀ M', BadM M (tF tp len p) M' → Q (some (vI 1)) S M')
    (kL : ¬ (tS tp len p = 3 ∧ tW tp len p = 91) → ∀ q D M', leafR tp len laws p nl = .inr (q, nl + 1, D) → MPs lf tp len q (nl + 1) dp P M' → FrPs M M' → M' 200 23 = M 200 23 + 1 → (∀ i, i ≠ M 200 23 → cdO M' i = cdO M i) → SegM (cdO M') (M 200 23) (M 200 23 + 1) 1 D → p < q → Q (some (vI 3)) S M')
    (kLB : ¬ (tS tp len p = 3 ∧ tW tp len p = 91) → ∀ f M', leafR tp len laws p nl = .inl f → BadM M f M' → Q (some (vI 3)) S M') : e_X9_readPart (d + 4) S M Q := by
  have e16 : M 200 16 = tS tp len p := h.1.2.2.2.2.2.2.2.1
  have e17 : M 200 17 = tW tp len p := h.1.2.2.2.2.2.2.2.2
  have e20 : M 200 20 = lf := h.2.2.2.2.1
  have hnl := h.2.2.2.2.2.2.2.2.1
  have l := h.bds
  have bd := h.1.2.2.2.2.1.bd
  refine b_X9_readPart_0 L (s_isSign L h.1 (fun hb => b_X9_readPart_6 (fun q => absurd q (by decide)) (fun _ => b_X9_readPart_9 L (s_brk L h (Or.inr rfl) (by omega) (fun q M1 a b c e => b_X9_readPart_15 (kO hb q M1 a b c e)) (fun q M1 b => b_X9_readPart_15 (kOB hb q M1 b))))) (fun hb => b_X9_readPart_6 (fun _ => ?_) (fun q => absurd rfl q)))
  have kL := kL hb
  have kLB := kLB hb
  have wr := wrdN_rng laws (tS tp len p) (tW tp len p)
  have ws : ¬ wrdN laws (tS tp len p) (tW tp len p) = -1 → tS tp len p = 1 := fun q => by
    by_cases hs : tS tp len p = 1
    · exact hs
    · exact absurd (by unfold wrdN; rw [if_neg hs]) q
  have eL : leafR tp len laws p nl = if 50 ≤ nl ∨ (¬ (tS tp len p = 2 ∧ tW tp len p ≤ 1000) ∧ wrdN laws (tS tp len p) (tW tp len p) = -1) then .inl (tF tp len p)
    else if tS tp len p = 2 ∧ tW tp len p ≤ 1000 then .inr (tT tp len p, nl + 1, lfD 0 (tW tp len p))
    else if laws = true ∨ wrdN laws (tS tp len p) (tW tp len p) < 5 then .inr (tT tp len p, nl + 1, lfD (wrdN laws (tS tp len p) (tW tp len p)) 0)
    else if tS tp len (tT tp len p) = 2 ∧ tW tp len (tT tp len p) ≤ 7 then .inr (tT tp len (tT tp len p), nl + 1, lfD (wrdN laws (tS tp len p) (tW tp len p)) (tW tp len (tT tp len p)))
    else .inl (tF tp len (tT tp len p)) := rfl
  have wq : ∀ {d' : Nat} (Q' : Option mV → mSh → mMem → Prop), (laws = true → Q' (some (vI (wrdN laws (tS tp len p) (tW tp len p)))) S M) → laws = true → e_X9_partAt (d' + 1) S M Q' := fun Q' k hl => by
    have := k hl
    rw [hl] at this
    exact s_partAt L h.1 ht this
  have wq2 : ∀ {d' : Nat} (Q' : Option mV → mSh → mMem → Prop), (laws = false → Q' (some (vI (wrdN laws (tS tp len p) (tW tp len p)))) S M) → laws = false → e_X9_orderPartAt (d' + 1) S M Q' := fun Q' k hl => by
    have := k hl
    rw [hl] at this
    exact s_orderPartAt L h.1 ht this
  generalize hr : wrdN laws (tS tp len p) (tW tp len p) = r at *
  -- behind a leaf that went wrong
  have done : ∀ (x2 : Int) (M1 : mMem), Q (some (vI 3)) S M1 → ¬ M1 200 19 = 0 → WP PR (d + 4) 181 102 [vA 200, vI r, vI x2, vU] [] S M1 Q := fun x2 M1 hq hf =>
    b_X9_readPart_102 L (fun _ => b_X9_readPart_142 hq) (fun _ => b_X9_readPart_109 (fun _ => b_X9_readPart_142 hq) (fun _ => b_X9_readPart_114 L (fun _ => b_X9_readPart_142 hq) (fun q => absurd q hf)))
  have m59 : ¬ (tS tp len p = 2 ∧ tW tp len p ≤ 1000) → WP PR (d + 4) 181 59 [vA 200, vI r, vU, vU] [] S M Q := by
    intro hn
    refine b_X9_readPart_59 (fun h1 => b_X9_readPart_71 (fun _ => b_X9_readPart_85 (fun _ => b_X9_readPart_98 L ?_) (fun q => absurd rfl q)) (fun q => absurd q h1)) (fun h1 => b_X9_readPart_67 (fun _ => b_X9_readPart_75 (fun q => absurd h1 q) (fun _ => b_X9_readPart_81 (fun _ => b_X9_readPart_98 L ?_) (fun q => absurd rfl q))) (fun q => absurd rfl q))
    · have hs1 := ws h1
      refine s_lfP L h (Or.inr (by omega)) (fun _ hlt M1 h1' f1 n1 c1 v1 => ?_) (fun hq M1 b1 => done 0 M1 (kLB _ M1 (by rw [eL, if_pos (by omega)]) b1) (by rw [b1.1.1]; decide))
      rw [if_neg (by omega), if_neg hn] at eL
      have hT := bd.2.2.2.2.2 (by omega)
      have sg : SegM (cdO M1) (M 200 23) (M 200 23 + 1) 1 (lfD r 0) := by
        have := SegM.lf (cd := cdO M1) (i := M 200 23) (by rw [v1]; exact ⟨by show 0 ≤ r; omega, by show r ≤ 7; omega, fun q => absurd q (by show ¬ r = 0; omega), fun _ => by show 0 ≤ (0 : Int) ∧ (0 : Int) ≤ 7; omega⟩)
        rw [v1] at this; exact this
      have e20' : M1 200 20 = lf := h1'.2.2.2.2.1
      refine b_X9_readPart_102 L (fun q => b_X9_readPart_142 (kL _ _ M1 (eL.trans (if_pos (Or.inl (by rcases hlf with x | x; exact x.1; exact absurd (e20'.symm.trans q) x.2)))) h1' f1 n1 c1 sg (by omega))) (fun q => b_X9_readPart_109 (fun h5 => b_X9_readPart_142 (kL _ _ M1 (eL.trans (if_pos (Or.inr h5))) h1' f1 n1 c1 sg (by omega))) (fun h5 => b_X9_readPart_114 L (fun q' => absurd h1'.2.2.2.1 q') (fun _ => b_X9_readPart_121 L (by omega) ?_)))
      have hlw : laws = false := by rcases hlf with x | x; exact absurd (e20'.trans x.2) q; exact x.1
      rw [if_neg (fun w => by rcases w with w | w; rw [hlw] at w; exact absurd w (by decide); omega)] at eL
      have l1 : sL S 212 = 400 := ll212 L
      have bd1 := h1'.1.2.2.2.2.1.bd
      have l1' := h1'.bds
      refine s_num L h1' (by decide) (fun hk M2 h2 f2 => b_X9_readPart_141 (lo212 L) (by omega) ?_) (fun hk v M2 b2 => b_X9_readPart_141 (lo212 L) (by omega) ?_)
      · rw [show M1 200 23 - 1 = M 200 23 by omega]
        have ne : ∀ a i, ¬ (a = 212 ∧ i = M 200 23) → up M2 212 (M 200 23) (tW tp len (tT tp len p)) a i = M2 a i := fun a i q => by
          by_cases ea : a = 212
          · subst ea; exact up_ni (by omega)
          · exact up_na ea
        have cs : cdO (up M2 212 (M 200 23) (tW tp len (tT tp len p))) (M 200 23) = (r, tW tp len (tT tp len p)) := by
          have e1 : M1 211 (M 200 23) = r := by have := congrArg Prod.fst v1; exact this
          show (up M2 212 (M 200 23) (tW tp len (tT tp len p)) 211 (M 200 23), up M2 212 (M 200 23) (tW tp len (tT tp len p)) 212 (M 200 23)) = _
          rw [up_s, up_na (by decide), f2 _ _ (by omega), e1]
        refine kL _ _ _ (eL.trans (if_pos ⟨hk.1, hk.2.2⟩)) ?_ ((f1.tr (FrPs.ofT f2)).tr (fun a i q => ne a i (by omega))) (by rw [ne _ _ (by omega), f2 _ _ (by omega)]; exact n1) (fun i qi => ?_) ?_ (by omega)
        · obtain ⟨a1, a2, a3, a4, a5, a6, a7, a8, a9, a10⟩ := h2
          exact ⟨a1.congr (fun a i q => ne a i (by omega)), by rw [ne _ _ (by omega)]; exact a2, by rw [ne _ _ (by omega)]; exact a3, by rw [ne _ _ (by omega)]; exact a4, by rw [ne _ _ (by omega)]; exact a5, by rw [ne 200 29 (by omega)]; exact a6.congr (fun i _ _ => ⟨ne _ _ (by omega), ne _ _ (by omega)⟩), a7, by rw [ne _ _ (by omega)]; exact a8, a9, a10⟩
        · rw [← c1 i qi]; exact cdO_eq (by rw [ne _ _ (by omega), f2 _ _ (by omega)]) (by rw [ne _ _ (by omega), f2 _ _ (by omega)])
        · have := SegM.lf (cd := cdO (up M2 212 (M 200 23) (tW tp len (tT tp len p)))) (i := M 200 23) (by rw [cs]; exact ⟨by show 0 ≤ r; omega, by show r ≤ 7; omega, fun q => absurd q (by show ¬ r = 0; omega), fun _ => hk.2⟩)
          rw [cs] at this; exact this
      · have ne : ∀ a i, a ≠ 212 → up M2 212 (M1 200 23 - 1) v a i = M2 a i := fun a i q => up_na q
        refine kLB _ _ (eL.trans (if_neg (fun w => hk ⟨w.1, ?_, w.2⟩))) ⟨by rw [ne _ _ (by decide), ne _ _ (by decide)]; exact b2.1, f1.tr (b2.2.1.tr (fun a i q => ne a i (by omega))), ?_⟩
        · exact (tW_dig h1'.1.2.2.2.2.1 w.1).1
        · obtain ⟨P', x1, x2, x3⟩ := b2.2.2
          exact ⟨P', by rw [ne 200 29 (by decide)]; exact x1.congr (fun i _ _ => ⟨ne _ _ (by decide), ne _ _ (by decide)⟩), x2, by rw [ne _ _ (by decide)]; exact x3⟩
    · exact s_lfP L h (Or.inl rfl) (fun q => absurd rfl q) (fun hq M1 b1 => done 0 M1 (kLB _ M1 (by rw [eL, if_pos (Or.inr ⟨hn, h1⟩)]) b1) (by rw [b1.1.1]; decide))
  have m44 : tS tp len p = 2 → WP PR (d + 4) 181 44 [vA 200, vI r, vU, vU] [] S M Q := by
    intro h2
    have hr1 : r = -1 := by
      by_cases q : r = -1
      · exact q
      · have := ws q; omega
    have dg := (tW_dig h.1.2.2.2.2.1 h2).1
    refine b_X9_readPart_44 L (fun q => m59 (by omega)) (fun q => b_X9_readPart_55 (fun q' => absurd hr1 q') (fun _ => b_X9_readPart_67 (fun q' => absurd q' (by decide)) (fun _ => b_X9_readPart_71 (fun q' => absurd hr1 q') (fun _ => b_X9_readPart_81 (fun q' => absurd q' (by decide)) (fun _ => b_X9_readPart_90 L ?_)))))
    rw [e17, w32_id (by omega)]
    refine s_lfP L h (Or.inr (by omega)) (fun _ hlt M1 h1' f1 n1 c1 v1 => ?_) (fun hq M1 b1 => done 1 M1 (kLB _ M1 (by rw [eL, if_pos (by omega)]) b1) (by rw [b1.1.1]; decide))
    rw [if_neg (by omega), if_pos (by omega)] at eL
    have hT := bd.2.2.2.2.2 (by omega)
    have sg : SegM (cdO M1) (M 200 23) (M 200 23 + 1) 1 (lfD 0 (tW tp len p)) := by
      have := SegM.lf (cd := cdO M1) (i := M 200 23) (by rw [v1]; exact ⟨by show (0 : Int) ≤ 0; omega, by show (0 : Int) ≤ 7; omega, fun _ => by show 0 ≤ tW tp len p ∧ tW tp len p ≤ 1000; omega, fun q => absurd q (by show ¬ 1 ≤ (0 : Int); omega)⟩)
      rw [v1] at this; exact this
    have hq := kL _ _ M1 eL h1' f1 n1 c1 sg (by omega)
    exact b_X9_readPart_102 L (fun _ => b_X9_readPart_142 hq) (fun _ => b_X9_readPart_109 (fun _ => b_X9_readPart_142 hq) (fun q => absurd q (by omega)))
  refine b_X9_readPart_17 L (fun q => b_X9_readPart_31 L (wq _ (fun _ => b_X9_readPart_35 L (fun q' => m59 (by omega)) (fun q' => m44 (by omega))) ?_)) (fun q => b_X9_readPart_24 L (wq2 _ (fun _ => b_X9_readPart_28 L (fun q' => m59 (by omega)) (fun q' => m44 (by omega))) ?_))
  · rcases hlf with x | x; exact x.1; exact absurd (e20.symm.trans q) x.2
  · rcases hlf with x | x; exact absurd (e20.trans x.2) q; exact x.1
end RQ
