/-! The reference reads parts, terms and sums as the function says. -/
def entC (tp : Int → Int) (len T p : Int) : Prop := T = 1 ∨ (T = 0 ∧ ¬ (tS tp len p = 1 ∧ tW tp len p = 14836) ∧ ¬ (tS tp len p = 3 ∧ tW tp len p = 40))
def endS (tp : Int → Int) (len : Int) (nt : Nat) (q : Int) : Prop := (1 ≤ nt → mulO (tS tp len q) (tW tp len q) = -1) ∧ (3 ≤ nt → addO (tS tp len q) (tW tp len q) = -1)
theorem TabM.un {M M' : mMem} (h : TabM M') (hf : FrPs M M') : TabM M := ⟨fun i p q => by rw [← hf _ _ (by omega), ← hf _ _ (by omega)]; exact h.1 i p q, fun i p q => by rw [← hf _ _ (by omega)]; exact h.2.1 i p q, fun i p q => by rw [← hf _ _ (by omega)]; exact h.2.2 i p q⟩
section RU
variable {d : Nat} {S : mSh} {tp : Int → Int} {len lf x1 : Int} {laws : Bool}
abbrev WX (S : mSh) (d : Nat) (x1 T : Int) (M : mMem) (Q : Option mV → mSh → mMem → Prop) : Prop := WP PR (d + 6) 185 20 [vA 200, vI x1, vI T] [] S M Q
theorem ex_part (L : Lay S) {T p nl dp : Int} {P : PL} {M : mMem} {Q : Option mV → mSh → mMem → Prop} (hT : entC tp len T p) (h : MPs lf tp len p nl dp P M) (k : ∀ (d' : Nat) (Q' : Option mV → mSh → mMem → Prop), (∀ v M', WX S d x1 v M' Q → Q' (some (vI v)) S M') → e_X9_readPart (d' + 4) S M Q') : WX S d x1 T M Q := by
  have h19 := h.2.2.2.1
  rcases hT with rfl | ⟨rfl, t1, t2⟩
  · exact b_X9_readExpression_20 L (fun q => absurd h19 q) (fun _ => b_X9_readExpression_27 (fun q => absurd q (by decide)) (fun _ => b_X9_readExpression_32 (fun _ => b_X9_readExpression_43 (fun q => absurd rfl q) (fun _ => b_X9_readExpression_48 L (k (d + 1) _ (fun v M' w => b_X9_readExpression_52 w)))) (fun q => absurd q (by decide))))
  · exact b_X9_readExpression_20 L (fun q => absurd h19 q) (fun _ => b_X9_readExpression_27 (fun q => absurd q (by decide)) (fun _ => b_X9_readExpression_32 (fun q => absurd rfl q) (fun _ => b_X9_readExpression_36 L (b_X9_readPlain_0 L (s_isWord L h.1 (fun q => absurd q t1) (fun _ => b_X9_readPlain_7 (fun _ => b_X9_readPlain_23 L (s_isSign L h.1 (fun q => absurd q t2) (fun _ => b_X9_readPlain_29 (fun _ => b_X9_readPlain_40 L (k d _ (fun v M' w => b_X9_readPlain_44 (b_X9_readExpression_40 w)))) (fun q => absurd rfl q)))) (fun q => absurd rfl q)))))))
theorem ex_bs (L : Lay S) {M : mMem} {Q : Option mV → mSh → mMem → Prop} (h19 : M 200 19 = 0) (k : ∀ (Q' : Option mV → mSh → mMem → Prop), (∀ v M', WX S d x1 v M' Q → Q' (some (vI v)) S M') → e_X9_behindSum (d + 5) x1 S M Q') : WX S d x1 3 M Q :=
  b_X9_readExpression_20 L (fun q => absurd h19 q) (fun _ => b_X9_readExpression_27 (fun q => absurd q (by decide)) (fun _ => b_X9_readExpression_32 (fun _ => b_X9_readExpression_43 (fun _ => b_X9_readExpression_55 (fun q => absurd rfl q) (fun _ => b_X9_readExpression_60 L (k _ (fun v M' w => b_X9_readExpression_65 w)))) (fun q => absurd q (by decide))) (fun q => absurd q (by decide))))
theorem ResM.nx {bt : Bool} {lvl c0 n0 q m dp : Int} {P : PL} {D : Den} {M0 M M' : mMem} (h : ResM bt lvl lf tp len M0 c0 n0 P q m dp D M) (h' : ∀ pend, MPs lf tp len q m dp (pend ++ P) M → MPs lf tp len (tT tp len q) m dp (pend ++ P) M') (hf : FrT4 M M') : ResM bt lvl lf tp len M0 c0 n0 P (tT tp len q) m dp D M' := by
  obtain ⟨pend, h1, h2, h3, ⟨b, c1, kk, kE, f, E, e1, e2, e3, e4, e5⟩, h4, h5⟩ := h
  have n23 : M' 200 23 = M 200 23 := hf _ _ (by omega)
  exact ⟨pend, h' pend h1, h2, h3, ⟨b, c1, kk, kE, f, E, by rw [hf.cd]; exact e1, by rw [hf.cd, n23]; exact e2, e3, e4, e5⟩, by rw [hf.cd]; exact h4, h5.tr (FrPs.ofT hf)⟩
/-- what lies below, a sign, and what was read behind it -/
theorem ResM.bin {lvl lvl' c0 n0 nl q m dp o : Int} {P : PL} {A E : Den} {M0 M1 M2 : mMem} (hc : 0 ≤ c0) (hA : SegM (cdO M1) c0 (M1 200 23) (nl - n0) A) (hfe : ∀ i, 0 ≤ i → i < c0 → cdO M1 i = cdO M0 i) (hfr : FrPs M0 M1) (ho : 20 ≤ o ∧ o ≤ 27) (hl : lvl ≤ lvl' ∧ lvl ≤ bds o) (h : ResM false lvl' lf tp len M1 (M1 200 23) nl ((o, 0) :: P) q m dp E M2) : ResM (decide (25 ≤ o)) lvl lf tp len M0 c0 n0 P q m dp (bnD o A E) M2 := by
  obtain ⟨pend, h1, h2, h3, ⟨b, c1, kk, kE, f, E', e1, e2, e3, e4, e5⟩, h4, h5⟩ := h
  have lt := hA.lt
  have hA2 : SegM (cdO M2) c0 (M1 200 23) (nl - n0) A := hA.congr (fun i q0 q1 => h4 i (by omega) q1)
  have cx : Ctx (cdO M2) [(o, 0)] false (decide (25 ≤ o)) c0 (M1 200 23) (nl - n0) (fun E => bnD o A E) := Or.inr (Or.inl ⟨ho, c0, nl - n0, A, id, hA2, ⟨rfl, by omega, rfl, fun q => q⟩, rfl⟩)
  refine ⟨pend ++ [(o, 0)], by rw [List.append_assoc]; exact h1, lvP_a (h2.le hl.1) ⟨hl.2, trivial⟩, hc, ⟨b, c1, kk + (nl - n0), kE, _, E', Ctx.app cx e1, e2, e3, by rw [e4], by omega⟩, fun i q0 q1 => (h4 i q0 (by omega)).trans (hfe i q0 q1), hfr.tr h5⟩
def RM0 (S : mSh) (d : Nat) (x1 lf : Int) (laws : Bool) (tp : Int → Int) (len : Int) (n : Nat) : Prop := ∀ (T p nl dp : Int) (P : PL) (M : mMem) (Q : Option mV → mSh → mMem → Prop) (A : Den), entC tp len T p → MPs lf tp len p nl dp P M → TabM M → 11 * (len - p) < n →
  (∀ q m D M', prs tp len laws n 0 A p nl dp = .inr (q, m, D) → p < q → nl < m → ResM false 6 lf tp len M (M 200 23) nl P q m dp D M' → WX S d x1 3 M' Q) → (∀ f M' T', prs tp len laws n 0 A p nl dp = .inl f → BadM M f M' → WX S d x1 T' M' Q) → WX S d x1 T M Q
def RMs (S : mSh) (d : Nat) (x1 lf : Int) (laws : Bool) (tp : Int → Int) (len : Int) (nt : Nat) (lvl : Int) (n : Nat) : Prop := ∀ (T p nl dp : Int) (P : PL) (M : mMem) (Q : Option mV → mSh → mMem → Prop) (A : Den), entC tp len T p → MPs lf tp len p nl dp P M → TabM M → hdP lvl P → 11 * (len - p) + nt < n →
  (∀ q m D M', prs tp len laws n nt A p nl dp = .inr (q, m, D) → endS tp len nt q → p < q → nl < m → ResM false lvl lf tp len M (M 200 23) nl P q m dp D M' → WX S d x1 3 M' Q) → (∀ f M' T', prs tp len laws n nt A p nl dp = .inl f → BadM M f M' → WX S d x1 T' M' Q) → WX S d x1 T M Q
def RLs (S : mSh) (d : Nat) (x1 lf : Int) (laws : Bool) (tp : Int → Int) (len : Int) (nt : Nat) (lvl : Int) (n : Nat) : Prop := ∀ (p nl dp : Int) (P : PL) (M : mMem) (Q : Option mV → mSh → mMem → Prop) (A : Den) (c0 n0 : Int) (M0 : mMem), ResM false lvl lf tp len M0 c0 n0 P p nl dp A M → TabM M → hdP lvl P → (3 ≤ nt → mulO (tS tp len p) (tW tp len p) = -1) → 11 * (len - p) + nt < n →
  (∀ q m D M', prs tp len laws n nt A p nl dp = .inr (q, m, D) → endS tp len nt q → p ≤ q → nl ≤ m → ResM false lvl lf tp len M0 c0 n0 P q m dp D M' → WX S d x1 3 M' Q) → (∀ f M' T', prs tp len laws n nt A p nl dp = .inl f → BadM M0 f M' → WX S d x1 T' M' Q) → WX S d x1 3 M Q
theorem ResM.pl {bt : Bool} {lvl c0 n0 q m dp : Int} {P : PL} {D : Den} {M0 M : mMem} (h : ResM bt lvl lf tp len M0 c0 n0 P q m dp D M) : (0 ≤ q ∧ q ≤ len) ∧ M 200 19 = 0 ∧ isTk tp len q ∧ 0 ≤ c0 ∧ FrPs M0 M := by
  obtain ⟨pend, h1, h2, h3, h4, h5, h6⟩ := h
  exact ⟨h1.1.2.2.2.1, h1.2.2.2.1, h1.1.2.2.2.2.1, h3, h6⟩
theorem rm_termL (L : Lay S) (n : Nat) (ihP : RM0 S d x1 lf laws tp len n) (ihL : RLs S d x1 lf laws tp len 1 6 n) : RLs S d x1 lf laws tp len 1 6 (n + 1) := by
  intro p nl dp P M Q A c0 n0 M0 h ht hh _ hmu kG kB
  have e : prs tp len laws (n + 1) 1 A p nl dp = if mulO (tS tp len p) (tW tp len p) = -1 then .inr (p, nl, A) else bRS (prs tp len laws n 0 A (tT tp len p) nl dp) (fun q m E => prs tp len laws n 1 (bnD (mulO (tS tp len p) (tW tp len p)) A E) q m dp) := rfl
  obtain ⟨hp, h19, htk, hc0, hfr⟩ := h.pl
  have bd := htk.bd
  by_cases hm : mulO (tS tp len p) (tW tp len p) = -1
  · exact kG p nl A M (by rw [e, if_pos hm]) ⟨fun _ => hm, fun q => absurd q (by decide)⟩ (Int.le_refl _) (Int.le_refl _) h
  · rw [if_neg hm] at e
    have sm := sgn_c (tS tp len p) (tW tp len p) 42 47 37 22 23 24
    have hrg : 22 ≤ mulO (tS tp len p) (tW tp len p) ∧ mulO (tS tp len p) (tW tp len p) ≤ 24 ∧ tS tp len p = 3 := by unfold mulO at *; omega
    have hT := bd.2.2.2.2.2 (by omega)
    generalize ho : mulO (tS tp len p) (tW tp len p) = o at *
    refine ex_bs L h19 (fun Q' kQ => s_op L h hh (o := o) ⟨Or.inr ho, hm⟩ (fun _ => by unfold bds; rw [if_neg (by omega), if_neg (by omega), if_neg (by omega), if_neg (by omega), if_neg (by omega), if_pos (by omega)]) (fun M1 m1 sA hr fe fr => kQ 1 M1 ?_))
    refine ihP 1 _ nl dp _ M1 Q A (Or.inl rfl) m1 ((ht.un hfr).mv fr) (by omega) (fun q m E M2 eq h1 h2 gd => ?_) (fun f M2 T' eq b => kB f M2 T' (by rw [e, eq]; rfl) (b.tr fr))
    have r2 := ResM.bin (lvl := 6) hc0 sA fe fr (by omega) ⟨Int.le_refl _, by unfold bds; rw [if_neg (by omega), if_neg (by omega), if_neg (by omega), if_neg (by omega), if_neg (by omega), if_pos (by omega)]; exact Int.le_refl _⟩ gd
    rw [show decide (25 ≤ o) = false from decide_eq_false (by omega)] at r2
    have hq := r2.pl
    have e2 : prs tp len laws (n + 1) 1 A p nl dp = prs tp len laws n 1 (bnD o A E) q m dp := by rw [e, eq]; rfl
    exact ihL q m dp P M2 Q _ c0 n0 M0 r2 ((ht.un hfr).mv hq.2.2.2.2) hh (fun q => absurd q (by decide)) (by omega) (fun q' m' D' M' eq' es a b gd' => kG q' m' D' M' (e2.trans eq') es (by omega) (by omega) gd') (fun f M' T' eq' b => kB f M' T' (e2.trans eq') b)
theorem rm_sumL (L : Lay S) (n : Nat) (ihP : RMs S d x1 lf laws tp len 2 6 n) (ihL : RLs S d x1 lf laws tp len 3 5 n) : RLs S d x1 lf laws tp len 3 5 (n + 1) := by
  intro p nl dp P M Q A c0 n0 M0 h ht hh hmm hmu kG kB
  have e : prs tp len laws (n + 1) 3 A p nl dp = if addO (tS tp len p) (tW tp len p) = -1 then .inr (p, nl, A) else bRS (prs tp len laws n 2 A (tT tp len p) nl dp) (fun q m E => prs tp len laws n 3 (bnD (addO (tS tp len p) (tW tp len p)) A E) q m dp) := rfl
  obtain ⟨hp, h19, htk, hc0, hfr⟩ := h.pl
  have bd := htk.bd
  by_cases hm : addO (tS tp len p) (tW tp len p) = -1
  · exact kG p nl A M (by rw [e, if_pos hm]) ⟨fun _ => hmm (by decide), fun _ => hm⟩ (Int.le_refl _) (Int.le_refl _) h
  · rw [if_neg hm] at e
    have sm := sgn_c (tS tp len p) (tW tp len p) 43 45 45 20 21 21
    have hrg : 20 ≤ addO (tS tp len p) (tW tp len p) ∧ addO (tS tp len p) (tW tp len p) ≤ 21 ∧ tS tp len p = 3 := by unfold addO at *; omega
    have hT := bd.2.2.2.2.2 (by omega)
    generalize ho : addO (tS tp len p) (tW tp len p) = o at *
    refine ex_bs L h19 (fun Q' kQ => s_op L h hh (o := o) ⟨Or.inl ho, hm⟩ (fun _ => by unfold bds; rw [if_neg (by omega), if_neg (by omega), if_neg (by omega), if_neg (by omega), if_neg (by omega), if_neg (by omega)]) (fun M1 m1 sA hr fe fr => kQ 1 M1 ?_))
    refine ihP 1 _ nl dp _ M1 Q A (Or.inl rfl) m1 ((ht.un hfr).mv fr) (show bds o < 6 by unfold bds; rw [if_neg (by omega), if_neg (by omega), if_neg (by omega), if_neg (by omega), if_neg (by omega), if_neg (by omega)]; decide) (by omega) (fun q m E M2 eq es2 h1 h2 gd => ?_) (fun f M2 T' eq b => kB f M2 T' (by rw [e, eq]; rfl) (b.tr fr))
    have r2 := ResM.bin (lvl := 5) hc0 sA fe fr (by omega) ⟨by decide, by unfold bds; rw [if_neg (by omega), if_neg (by omega), if_neg (by omega), if_neg (by omega), if_neg (by omega), if_neg (by omega)]; exact Int.le_refl _⟩ gd
    rw [show decide (25 ≤ o) = false from decide_eq_false (by omega)] at r2
    have hq := r2.pl
    have e2 : prs tp len laws (n + 1) 3 A p nl dp = prs tp len laws n 3 (bnD o A E) q m dp := by rw [e, eq]; rfl
    exact ihL q m dp P M2 Q _ c0 n0 M0 r2 ((ht.un hfr).mv hq.2.2.2.2) hh (fun _ => es2.1 (by decide)) (by omega) (fun q' m' D' M' eq' es a b gd' => kG q' m' D' M' (e2.trans eq') es (by omega) (by omega) gd') (fun f M' T' eq' b => kB f M' T' (e2.trans eq') b)
theorem rm_term (L : Lay S) (n : Nat) (ihP : RM0 S d x1 lf laws tp len n) (ihL : RLs S d x1 lf laws tp len 1 6 n) : RMs S d x1 lf laws tp len 2 6 (n + 1) := by
  intro T p nl dp P M Q A hT h ht hh hmu kG kB
  have e : prs tp len laws (n + 1) 2 A p nl dp = bRS (prs tp len laws n 0 A p nl dp) (fun q m D => prs tp len laws n 1 D q m dp) := rfl
  refine ihP T p nl dp P M Q A hT h ht (by omega) (fun q m D M' eq h1 h2 gd => ?_) (fun f M' T' eq b => kB f M' T' (by rw [e, eq]; rfl) b)
  have e2 : prs tp len laws (n + 1) 2 A p nl dp = prs tp len laws n 1 D q m dp := by rw [e, eq]; rfl
  exact ihL q m dp P M' Q D _ nl M gd (ht.mv gd.pl.2.2.2.2) hh (fun q => absurd q (by decide)) (by omega) (fun q' m' D' M'' eq' es a b gd' => kG q' m' D' M'' (e2.trans eq') ⟨fun _ => es.1 (by decide), fun q => absurd q (by decide)⟩ (by omega) (by omega) gd') (fun f M'' T' eq' b => kB f M'' T' (e2.trans eq') b)
theorem ResM.up5 {bt : Bool} {lvl lvl' c0 n0 q m dp : Int} {P : PL} {D : Den} {M0 M : mMem} (hl : lvl' ≤ lvl) (h : ResM bt lvl lf tp len M0 c0 n0 P q m dp D M) : ResM bt lvl' lf tp len M0 c0 n0 P q m dp D M := by
  obtain ⟨pend, h1, h2, h3⟩ := h
  exact ⟨pend, h1, h2.le hl, h3⟩
theorem hdP.up {l l' : Int} (hl : l ≤ l') : ∀ {P : PL}, hdP l P → hdP l' P := by
  intro P
  cases P with
  | nil => exact fun _ => trivial
  | cons x P => exact fun h => by have h : bds x.1 < l := h; show bds x.1 < l'; omega
theorem rm_sum (L : Lay S) (n : Nat) (ihP : RMs S d x1 lf laws tp len 2 6 n) (ihL : RLs S d x1 lf laws tp len 3 5 n) : RMs S d x1 lf laws tp len 4 5 (n + 1) := by
  intro T p nl dp P M Q A hT h ht hh hmu kG kB
  have e : prs tp len laws (n + 1) 4 A p nl dp = bRS (prs tp len laws n 2 A p nl dp) (fun q m D => prs tp len laws n 3 D q m dp) := rfl
  refine ihP T p nl dp P M Q A hT h ht (hh.up (by decide)) (by omega) (fun q m D M' eq es2 h1 h2 gd => ?_) (fun f M' T' eq b => kB f M' T' (by rw [e, eq]; rfl) b)
  have e2 : prs tp len laws (n + 1) 4 A p nl dp = prs tp len laws n 3 D q m dp := by rw [e, eq]; rfl
  exact ihL q m dp P M' Q D _ nl M (gd.up5 (by decide)) (ht.mv gd.pl.2.2.2.2) hh (fun _ => es2.1 (by decide)) (by omega) (fun q' m' D' M'' eq' es a b gd' => kG q' m' D' M'' (e2.trans eq') ⟨fun _ => es.1 (by decide), fun _ => es.2 (by decide)⟩ (by omega) (by omega) gd') (fun f M'' T' eq' b => kB f M'' T' (e2.trans eq') b)
end RU
