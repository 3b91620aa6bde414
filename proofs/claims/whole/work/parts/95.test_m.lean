/-! The reference: plain tests, 'and', 'or' (the loops by wip/whole/gen95.py). -/
section RW
variable {d : Nat} {S : mSh} {tp : Int → Int} {len lf x1 : Int} {laws : Bool}
theorem ex_pl (L : Lay S) {M : mMem} {Q : Option mV → mSh → mMem → Prop} (h19 : M 200 19 = 0) (k : ∀ (Q' : Option mV → mSh → mMem → Prop), (∀ v M', WX S d x1 v M' Q → Q' (some (vI v)) S M') → e_X9_readPlain (d + 5) S M Q') : WX S d x1 0 M Q :=
  b_X9_readExpression_20 L (fun q => absurd h19 q) (fun _ => b_X9_readExpression_27 (fun q => absurd q (by decide)) (fun _ => b_X9_readExpression_32 (fun q => absurd rfl q) (fun _ => b_X9_readExpression_36 L (k _ (fun v M' w => b_X9_readExpression_40 w)))))
theorem ex_bt (L : Lay S) {M : mMem} {Q : Option mV → mSh → mMem → Prop} (h19 : M 200 19 = 0) (k : ∀ (Q' : Option mV → mSh → mMem → Prop), (∀ v M', WX S d x1 v M' Q → Q' (some (vI v)) S M') → e_X9_behindTest (d + 5) S M Q') : WX S d x1 2 M Q :=
  b_X9_readExpression_20 L (fun q => absurd h19 q) (fun _ => b_X9_readExpression_27 (fun q => absurd q (by decide)) (fun _ => b_X9_readExpression_32 (fun _ => b_X9_readExpression_43 (fun _ => b_X9_readExpression_55 (fun _ => b_X9_readExpression_68 L (k _ (fun v M' w => b_X9_readExpression_72 w))) (fun q => absurd q (by decide))) (fun q => absurd q (by decide))) (fun q => absurd q (by decide))))
theorem ResM.not {c0 n0 q m dp : Int} {P : PL} {D : Den} {M0 M1 M2 : mMem} (hc : M1 200 23 = c0) (hfe : cdO M1 = cdO M0) (hfr : FrPs M0 M1) (h : ResM true 3 lf tp len M1 (M1 200 23) n0 ((28, 0) :: P) q m dp D M2) : ResM true 3 lf tp len M0 c0 n0 P q m dp (ntD D) M2 := by
  obtain ⟨pend, h1, h2, h3, ⟨b, c1, kk, kE, f, E', e1, e2, e3, e4, e5⟩, h4, h5⟩ := h
  have cx : Ctx (cdO M2) [(28, 0)] true true c0 (M1 200 23) 0 (fun E => ntD E) := Or.inl ⟨rfl, rfl, id, ⟨by omega, rfl, rfl, fun q => q⟩, rfl⟩
  refine ⟨pend ++ [(28, 0)], by rw [List.append_assoc]; exact h1, lvP_a h2 ⟨by show 3 ≤ bds 28; decide, trivial⟩, by omega, ⟨b, c1, kk + 0, kE, _, E', Ctx.app cx e1, e2, e3, by rw [e4], by omega⟩, fun i q0 q1 => (h4 i q0 (by omega)).trans (by rw [hfe]), hfr.tr h5⟩
theorem ResM.ao {lvl c0 n0 nl q m dp o a : Int} {P : PL} {A E : Den} {M0 M1 M2 : mMem} (hc : 0 ≤ c0) (ha : M1 200 23 = a + 1) (hA : SegM (cdO M1) c0 a (nl - n0) A) (hB : isB A) (hop : (cdO M1 a).1 = o) (hfe : ∀ i, 0 ≤ i → i < c0 → cdO M1 i = cdO M0 i) (hfr : FrPs M0 M1) (ho : o = 29 ∨ o = 30) {l3 : Int} (hl : lvl ≤ l3 ∧ lvl ≤ bds o) (h : ResM true l3 lf tp len M1 (M1 200 23) nl ((o, a) :: P) q m dp E M2) : ResM true lvl lf tp len M0 c0 n0 P q m dp (aoD o A E) M2 := by
  obtain ⟨pend, h1, h2, h3, ⟨b, c1, kk, kE, f, E', e1, e2, e3, e4, e5⟩, h4, h5⟩ := h
  have lt := hA.lt
  have hA2 : SegM (cdO M2) c0 (M1 200 23 - 1) (nl - n0) A := by rw [show M1 200 23 - 1 = a by omega]; exact hA.congr (fun i q0 q1 => h4 i (by omega) (by omega))
  have cx : Ctx (cdO M2) [(o, a)] true true c0 (M1 200 23) (nl - n0) (fun E => aoD o A E) := Or.inr (Or.inr ⟨ho, rfl, c0, nl - n0, A, id, by show a = _; omega, hA2, hB, by rw [show M1 200 23 - 1 = a by omega, h4 a (by omega) (by omega)]; exact hop, ⟨rfl, by omega, rfl, fun q => q⟩, rfl⟩)
  refine ⟨pend ++ [(o, a)], by rw [List.append_assoc]; exact h1, lvP_a (h2.le hl.1) ⟨hl.2, trivial⟩, hc, ⟨b, c1, kk + (nl - n0), kE, _, E', Ctx.app cx e1, e2, e3, by rw [e4], by omega⟩, fun i q0 q1 => (h4 i q0 (by omega)).trans (hfe i q0 q1), hfr.tr h5⟩
/-- 'and', 'or': pushed with its place, goes out, the next token -/
theorem s_pe (L : Lay S) {d : Nat} {M : mMem} {Q : Option mV → mSh → mMem → Prop} {p nl dp o : Int} {P : PL} (h : MPs lf tp len p nl dp P M) (ho : o = 29 ∨ o = 30) (hs : p + 2 ≤ tT tp len p) (k : ∀ M2, (∀ (d' : Nat) (Q' : Option mV → mSh → mMem → Prop), (∀ M3, (∀ (d'' : Nat) (Q'' : Option mV → mSh → mMem → Prop), (∀ M4, MPs lf tp len (tT tp len p) nl dp ((o, M 200 23) :: P) M4 → FrPs M M4 → M4 200 23 = M 200 23 + 1 → (∀ i, i ≠ M 200 23 → cdO M4 i = cdO M i) → (cdO M4 (M 200 23)).1 = o → Q'' none S M4) → e_X9_next (d'' + 1) S M3 Q'') → Q' none S M3) → e_X9_emit d' o 0 S M2 Q') → Q none S M2) : e_X9_push d o (M 200 23) S M Q := by
  have l := h.bds
  have bd := h.1.2.2.2.2.1.bd
  obtain ⟨h1, h2, h3, h4, h5, h6, h7, h8, h9, h10⟩ := h
  refine s_push L rfl (by omega) ?_
  generalize hM1 : up (up (up M 213 (M 200 29) o) 214 (M 200 29) (M 200 23)) 200 29 (M 200 29 + 1) = M1
  have ne : ∀ a i, ¬ ((a = 213 ∧ i = M 200 29) ∨ (a = 214 ∧ i = M 200 29) ∨ (a = 200 ∧ i = 29)) → M1 a i = M a i := fun a i q => by rw [← hM1]; exact up3_ne (by omega) (by omega) (by omega)
  have n9 : M1 200 29 = M 200 29 + 1 := by rw [← hM1]; exact up_s _ _ _ _
  have pm : PileM M1 ((o, M 200 23) :: P) (M1 200 29) := by
    rw [n9]
    have e1 : M 200 29 + 1 - 1 = M 200 29 := by omega
    refine ⟨?_, ?_, ?_⟩
    · rw [e1, ← hM1, up_na (by decide), up_na (by decide), up_s]
    · rw [e1, ← hM1, up_na (by decide), up_s]
    · rw [e1]; exact h6.congr (fun i q0 q1 => ⟨ne _ _ (by omega), ne _ _ (by omega)⟩)
  refine k M1 (fun d' Q' kk => s_emit L (ne _ _ (by omega)) (by omega) (kk _ (fun d'' Q'' k4 => ?_)))
  generalize hM2 : up (up (up M1 211 (M 200 23) o) 212 (M 200 23) 0) 200 23 (M 200 23 + 1) = M2
  have ne2 : ∀ a i, ¬ ((a = 211 ∧ i = M 200 23) ∨ (a = 212 ∧ i = M 200 23) ∨ (a = 200 ∧ i = 23)) → M2 a i = M1 a i := fun a i q => by rw [← hM2]; exact up3_ne (by omega) (by omega) (by omega)
  have n23 : M2 200 23 = M 200 23 + 1 := by rw [← hM2]; exact up_s _ _ _ _
  refine s_nx L ((h1.congr (fun a i q => ne a i (by omega))).congr (fun a i q => ne2 a i (by omega))) (fun M3 r3 f3 => k4 M3 ⟨r3, by rw [f3 _ _ (by omega), ne2 _ _ (by omega), ne _ _ (by omega)]; exact h2, by rw [f3 _ _ (by omega), ne2 _ _ (by omega), ne _ _ (by omega)]; exact h3, by rw [f3 _ _ (by omega), ne2 _ _ (by omega), ne _ _ (by omega)]; exact h4, by rw [f3 _ _ (by omega), ne2 _ _ (by omega), ne _ _ (by omega)]; exact h5, ?_, ⟨⟨by show 20 ≤ o ∧ o ≤ 32; omega, fun _ => by show 0 ≤ M 200 23 ∧ M 200 23 < 400; omega⟩, h7⟩, by rw [f3 _ _ (by omega), n23, ln_s]; omega, h9, h10⟩ (FrPs.tr (FrPs.tr (fun a i q => ne a i (by omega)) (fun a i q => ne2 a i (by omega))) (FrPs.ofT f3)) (by rw [f3 _ _ (by omega)]; exact n23) (fun i qi => ?_) ?_)
  · rw [f3 200 29 (by omega), ne2 200 29 (by omega)]
    exact pm.congr (fun i _ _ => ⟨by rw [f3 _ _ (by omega), ne2 _ _ (by omega)], by rw [f3 _ _ (by omega), ne2 _ _ (by omega)]⟩)
  · rw [f3.cd]; exact cdO_eq (by rw [ne2 _ _ (by omega), ne _ _ (by omega)]) (by rw [ne2 _ _ (by omega), ne _ _ (by omega)])
  · rw [f3.cd]; show M2 211 (M 200 23) = o
    rw [← hM2, up_na (by decide), up_na (by decide), up_s]
theorem rm_plain (L : Lay S) (n : Nat) (ihC : RMt S d x1 lf laws tp len 5 4 4 n) (ihN : RMt S d x1 lf laws tp len 6 3 4 n) (ihX : RMt S d x1 lf laws tp len 10 1 1 n) : RMt S d x1 lf laws tp len 6 3 4 (n + 1) := by
  intro p nl dp P M Q A _ h ht hh hin hx1 hmu kG kB
  have e : prs tp len laws (n + 1) 6 A p nl dp = if tS tp len p = 1 ∧ tW tp len p = 14836 then bRS (prs tp len laws n 6 A (tT tp len p) nl dp) (fun q m D => .inr (q, m, ntD D)) else if tS tp len p = 3 ∧ tW tp len p = 40 then (if 8 ≤ dp then .inl (tF tp len p) else bRS (prs tp len laws n 10 A (tT tp len p) nl (dp + 1)) (fun q m D => if tS tp len q = 3 ∧ tW tp len q = 41 then .inr (tT tp len q, m, D) else .inl (tF tp len q))) else prs tp len laws n 5 A p nl dp := rfl
  have l0 := h.bds
  have bd := h.1.2.2.2.2.1.bd
  have tE : ∀ q, endT tp len 6 q := fun q => ⟨fun w => absurd w (by decide), fun w => absurd w (by decide)⟩
  by_cases hn : tS tp len p = 1 ∧ tW tp len p = 14836
  · rw [if_pos hn] at e
    have hT := bd.2.2.2.2.2 (by omega)
    refine ex_pl L h.2.2.2.1 (fun Q' kQ => b_X9_readPlain_0 L (s_isWord L h.1 (fun _ => b_X9_readPlain_7 (fun q => absurd q (by decide)) (fun _ => b_X9_readPlain_10 L (s_psh2 L h (x := 28) (y := 0) ⟨by decide, by decide⟩ (by omega) (fun M1 nx => b_X9_readPlain_17 L (nx _ _ (fun M2 m2 f2 c2 n2 => b_X9_readPlain_21 (kQ 0 M2 ?_))))))) (fun q => absurd hn q)))
    refine ihN _ nl dp _ M2 Q A (fun w => absurd w (by decide)) m2 (ht.mv f2) (show bds 28 < 4 by decide) (by rw [show inn ((28, 0) :: P) = inn P from if_neg (by decide)]; exact hin) hx1 (by omega) (fun q m D M3 eq _ a1 a2 gd => kG q m (ntD D) M3 (by rw [e, eq]; rfl) (tE q) (by omega) a2 (gd.not n2 c2 f2)) (fun f M3 T' eq b => kB f M3 T' (by rw [e, eq]; rfl) (b.tr f2))
  · rw [if_neg hn] at e
    by_cases hb : tS tp len p = 3 ∧ tW tp len p = 40
    · rw [if_pos hb] at e
      have hT := bd.2.2.2.2.2 (by omega)
      have hdp := h.2.2.2.2.2.2.2.2.2
      refine ex_pl L h.2.2.2.1 (fun Q' kQ => b_X9_readPlain_0 L (s_isWord L h.1 (fun q => absurd q hn) (fun _ => b_X9_readPlain_7 (fun _ => b_X9_readPlain_23 L (s_isSign L h.1 (fun _ => b_X9_readPlain_29 (fun q => absurd q (by decide)) (fun _ => b_X9_readPlain_32 L (s_brk L h (Or.inl rfl) (by omega) (fun hd M1 m1 f1 c1 n1 => b_X9_readPlain_38 (kQ 0 M1 ?_)) (fun hd M1 b1 => b_X9_readPlain_38 (kQ 0 M1 (kB _ M1 0 (by rw [e, if_pos hd]) b1)))))) (fun q => absurd hb q))) (fun q => absurd rfl q))))
      rw [if_neg (by omega)] at e
      have hh1 : hdP 1 ((31, 0) :: P) := by show bds 31 < 1; decide
      refine ihX _ nl (dp + 1) _ M1 Q A (fun w => absurd w (by decide)) m1 (ht.mv f1) hh1 (by rw [show inn ((31, 0) :: P) = 31 from if_pos (by decide)]; decide) hx1 (by omega) (fun q m D M2 eq es a1 a2 gd => ?_) (fun f M2 T' eq b => kB f M2 T' (by rw [e, eq]; rfl) (b.tr f1))
      have e2 : prs tp len laws (n + 1) 6 A p nl dp = if tS tp len q = 3 ∧ tW tp len q = 41 then .inr (tT tp len q, m, D) else .inl (tF tp len q) := by rw [e, eq]; rfl
      obtain ⟨pend, g1, g2, g3⟩ := id gd
      have bq := g1.1.2.2.2.2.1.bd
      have lq := g1.bds
      have ok := okP_a.mp g1.2.2.2.2.2.2.1
      have hi2 : inn (pend ++ (31, 0) :: P) = 31 := (inn_a (by decide) ok.1 g2).trans (if_pos (by decide))
      refine ex_bt L g1.2.2.2.1 (fun Q' kQ => b_X9_behindTest_0 L (s_isWord L g1.1 (fun q => absurd q (es.1 (by decide))) (fun _ => b_X9_behindTest_7 (fun q => absurd rfl q) (fun _ => b_X9_behindTest_12 L (s_isWord L g1.1 (fun q => absurd q (es.2 (by decide))) (fun _ => b_X9_behindTest_19 (fun _ => b_X9_behindTest_76 L (s_inner L g1.2.2.2.2.2.1 (by omega) (b_X9_behindTest_80 (fun _ => b_X9_behindTest_86 L ?_) (fun q => absurd (hi2.symm.trans q) (by decide))))) (fun q => absurd rfl q)))))))
      refine s_isSign L g1.1 (fun hr => b_X9_behindTest_93 L (s_go L g1 (fun M3 m3 f3 => b_X9_behindTest_96 L (fun q => absurd m3.2.2.2.1 q) (fun _ => b_X9_behindTest_103 L (s_stl L (gd.nx (fun pd hm => hm.nx m3.1 f3) f3) hh1 (fun M4 m4 sg hB fe fr => b_X9_behindTest_108 L ?_ (kQ 2 _ ?_))))))) (fun hr => b_X9_behindTest_93 L (s_wr L g1 (fun M3 b3 => b_X9_behindTest_96 L (fun _ => b_X9_behindTest_128 (kQ 2 M3 (kB _ M3 2 (by rw [e2, if_neg hr]) ((b3.tr gd.pl.2.2.2.2).tr f1)))) (fun q => absurd b3.1.1 (by omega)))))
      · have l4 := m4.bds
        have d4 := m4.2.2.1
        omega
      · obtain ⟨pc1, pc2, pc3⟩ := pop_cd M4
        refine kG _ m D _ (by rw [e2, if_pos hr]) (tE _) (by omega) a2 (ResM.of (m4.pop hdp.1) l0.2.2.2.2.1 ?_ hB (fun i q0 q1 => ?_) ((f1.tr fr).tr pc3))
        · rw [pc1, pc2, ← n1]; exact sg
        · rw [pc1, fe i q0 (by omega), c1]
    · rw [if_neg hb] at e
      exact ihC p nl dp P M Q A (fun _ => Or.inr ⟨rfl, hn, hb⟩) h ht hh hin hx1 (by omega) (fun q m D M' eq _ a1 a2 gd => kG q m D M' (e.trans eq) (tE q) a1 a2 (gd.up5 (by decide))) (fun f M' T' eq b => kB f M' T' (e.trans eq) b)
def RLt (S : mSh) (d : Nat) (x1 lf : Int) (laws : Bool) (tp : Int → Int) (len : Int) (nt : Nat) (lvl : Int) (n : Nat) : Prop := ∀ (p nl dp : Int) (P : PL) (M : mMem) (Q : Option mV → mSh → mMem → Prop) (A : Den) (c0 n0 : Int) (M0 : mMem), ResM true lvl lf tp len M0 c0 n0 P p nl dp A M → TabM M → hdP lvl P → ¬ inn P = 32 → ¬ x1 = 0 → (9 ≤ nt → ¬ (tS tp len p = 1 ∧ tW tp len p = 1476)) → 11 * (len - p) + nt < n →
  (∀ q m D M', prs tp len laws n nt A p nl dp = .inr (q, m, D) → endT tp len nt q → p ≤ q → nl ≤ m → ResM true lvl lf tp len M0 c0 n0 P q m dp D M' → WX S d x1 2 M' Q) → (∀ f M' T', prs tp len laws n nt A p nl dp = .inl f → BadM M0 f M' → WX S d x1 T' M' Q) → WX S d x1 2 M Q
theorem rm_bothL (L : Lay S) (n : Nat) (ihP : RMt S d x1 lf laws tp len 6 3 4 n) (ihL : RLt S d x1 lf laws tp len 7 2 n) : RLt S d x1 lf laws tp len 7 2 (n + 1) := by
  intro p nl dp P M Q A c0 n0 M0 h ht hh hin hx1 hna hmu kG kB
  have e : prs tp len laws (n + 1) 7 A p nl dp = if tS tp len p = 1 ∧ tW tp len p = 1476 then bRS (prs tp len laws n 6 A (tT tp len p) nl dp) (fun q m E => prs tp len laws n 7 (aoD 29 A E) q m dp) else .inr (p, nl, A) := rfl
  obtain ⟨hp, h19, htk, hc0, hfr⟩ := h.pl
  have bd := htk.bd
  by_cases hw : tS tp len p = 1 ∧ tW tp len p = 1476
  · rw [if_pos hw] at e
    have h3 : tF tp len p + 2 ≤ tT tp len p := by
      have := ((twd_word htk iw_138.1).mpr ⟨hw.1, by rw [iw_138.2]; exact hw.2⟩).1
      rw [show strOf (-138) = [97, 110, 100] from by decide] at this
      simp at this; omega
    obtain ⟨pend, g1, g2, g3⟩ := id h
    refine ex_bt L h19 (fun Q' kQ => b_X9_behindTest_0 L (s_isWord L g1.1 (fun _ => b_X9_behindTest_7 (fun _ => b_X9_behindTest_22 (fun q => absurd q (by decide)) (fun _ => b_X9_behindTest_27 L ?_)) (fun q => absurd q (by decide))) (fun q => absurd hw q)))
    refine s_stl L h hh (fun M1 m1 sg hB fe fr => b_X9_behindTest_35 (fun q => absurd q (by decide)) (fun _ => b_X9_behindTest_40 L ?_))
    refine s_pe L m1 (o := 29) (by decide) (by omega) (fun M2 em => b_X9_behindTest_54 (fun q => absurd q (by decide)) (fun _ => b_X9_behindTest_59 L ?_))
    refine em _ _ (fun M3 nx => b_X9_behindTest_70 L (nx _ _ (fun M4 m4 f4 n4 c4 o4 => b_X9_behindTest_74 (kQ 0 M4 ?_))))
    refine ihP _ nl dp _ M4 Q A (fun w => absurd w (by decide)) m4 (((ht.un hfr).mv fr).mv f4) (show bds 29 < 4 by decide) (by rw [show inn ((29, M1 200 23) :: P) = inn P from if_neg (by show ¬ 31 ≤ (29 : Int); decide)]; exact hin) hx1 (by omega) (fun q m E M5 eq es a1 a2 gd => ?_) (fun f M5 T' eq b => kB f M5 T' (by rw [e, eq]; rfl) (b.tr (fr.tr f4)))
    have lt := sg.lt
    have r2 := ResM.ao (lvl := 2) (M0 := M0) (n0 := n0) hc0 n4 (sg.congr (fun i q0 q1 => c4 i (by omega))) (hB rfl) o4 (fun i q0 q1 => (c4 i (by omega)).trans (fe i q0 q1)) (fr.tr f4) (by decide) (by decide) (gd)
    have e2 : prs tp len laws (n + 1) 7 A p nl dp = prs tp len laws n 7 (aoD 29 A E) q m dp := by rw [e, eq]; rfl
    exact ihL q m dp P M5 Q _ c0 n0 M0 r2 ((ht.un hfr).mv r2.pl.2.2.2.2) hh hin hx1 (fun w => absurd w (by decide)) (by omega) (fun q' m' D' M' eq' es' a b gd' => kG q' m' D' M' (e2.trans eq') es' (by omega) (by omega) gd') (fun f M' T' eq' b => kB f M' T' (e2.trans eq') b)
  · exact kG p nl A M (by rw [e, if_neg hw]) ⟨fun _ => hw, fun w => absurd w (by decide)⟩ (Int.le_refl _) (Int.le_refl _) h
theorem rm_both (L : Lay S) (n : Nat) (ihP : RMt S d x1 lf laws tp len 6 3 4 n) (ihL : RLt S d x1 lf laws tp len 7 2 n) : RMt S d x1 lf laws tp len 8 2 2 (n + 1) := by
  intro p nl dp P M Q A _ h ht hh hin hx1 hmu kG kB
  have e : prs tp len laws (n + 1) 8 A p nl dp = bRS (prs tp len laws n 6 A p nl dp) (fun q m D => prs tp len laws n 7 D q m dp) := rfl
  refine ihP p nl dp P M Q A (fun w => absurd w (by decide)) h ht (hh.up (by decide)) hin hx1 (by omega) (fun q m D M' eq es h1 h2 gd => ?_) (fun f M' T' eq b => kB f M' T' (by rw [e, eq]; rfl) b)
  have e2 : prs tp len laws (n + 1) 8 A p nl dp = prs tp len laws n 7 D q m dp := by rw [e, eq]; rfl
  exact ihL q m dp P M' Q D _ nl M (gd.up5 (by decide)) (ht.mv gd.pl.2.2.2.2) hh hin hx1 (fun w => absurd w (by decide)) (by omega) (fun q' m' D' M'' eq' es' a b gd' => kG q' m' D' M'' (e2.trans eq') ⟨fun _ => es'.1 (by decide), fun w => absurd w (by decide)⟩ (by omega) (by omega) gd') (fun f M'' T' eq' b => kB f M'' T' (e2.trans eq') b)
theorem rm_testL (L : Lay S) (n : Nat) (ihP : RMt S d x1 lf laws tp len 8 2 2 n) (ihL : RLt S d x1 lf laws tp len 9 1 n) : RLt S d x1 lf laws tp len 9 1 (n + 1) := by
  intro p nl dp P M Q A c0 n0 M0 h ht hh hin hx1 hna hmu kG kB
  have e : prs tp len laws (n + 1) 9 A p nl dp = if tS tp len p = 1 ∧ tW tp len p = 498 then bRS (prs tp len laws n 8 A (tT tp len p) nl dp) (fun q m E => prs tp len laws n 9 (aoD 30 A E) q m dp) else .inr (p, nl, A) := rfl
  obtain ⟨hp, h19, htk, hc0, hfr⟩ := h.pl
  have bd := htk.bd
  by_cases hw : tS tp len p = 1 ∧ tW tp len p = 498
  · rw [if_pos hw] at e
    have h3 : tF tp len p + 2 ≤ tT tp len p := by
      have := ((twd_word htk iw_124.1).mpr ⟨hw.1, by rw [iw_124.2]; exact hw.2⟩).1
      rw [show strOf (-124) = [111, 114] from by decide] at this
      simp at this; omega
    obtain ⟨pend, g1, g2, g3⟩ := id h
    refine ex_bt L h19 (fun Q' kQ => b_X9_behindTest_0 L (s_isWord L g1.1 (fun q => absurd q (hna (by decide))) (fun _ => b_X9_behindTest_7 (fun q => absurd rfl q) (fun _ => b_X9_behindTest_12 L (s_isWord L g1.1 (fun _ => b_X9_behindTest_19 (fun q => absurd q (by decide)) (fun _ => b_X9_behindTest_22 (fun _ => b_X9_behindTest_31 L ?_) (fun q => absurd rfl q))) (fun q => absurd hw q))))))
    refine s_stl L h hh (fun M1 m1 sg hB fe fr => b_X9_behindTest_35 (fun _ => b_X9_behindTest_45 L ?_) (fun q => absurd rfl q))
    refine s_pe L m1 (o := 30) (by decide) (by omega) (fun M2 em => b_X9_behindTest_54 (fun _ => b_X9_behindTest_64 L ?_) (fun q => absurd rfl q))
    refine em _ _ (fun M3 nx => b_X9_behindTest_70 L (nx _ _ (fun M4 m4 f4 n4 c4 o4 => b_X9_behindTest_74 (kQ 0 M4 ?_))))
    refine ihP _ nl dp _ M4 Q A (fun w => absurd w (by decide)) m4 (((ht.un hfr).mv fr).mv f4) (show bds 30 < 2 by decide) (by rw [show inn ((30, M1 200 23) :: P) = inn P from if_neg (by show ¬ 31 ≤ (30 : Int); decide)]; exact hin) hx1 (by omega) (fun q m E M5 eq es a1 a2 gd => ?_) (fun f M5 T' eq b => kB f M5 T' (by rw [e, eq]; rfl) (b.tr (fr.tr f4)))
    have lt := sg.lt
    have r2 := ResM.ao (lvl := 1) (M0 := M0) (n0 := n0) hc0 n4 (sg.congr (fun i q0 q1 => c4 i (by omega))) (hB rfl) o4 (fun i q0 q1 => (c4 i (by omega)).trans (fe i q0 q1)) (fr.tr f4) (by decide) (by decide) (gd)
    have e2 : prs tp len laws (n + 1) 9 A p nl dp = prs tp len laws n 9 (aoD 30 A E) q m dp := by rw [e, eq]; rfl
    exact ihL q m dp P M5 Q _ c0 n0 M0 r2 ((ht.un hfr).mv r2.pl.2.2.2.2) hh hin hx1 (fun _ => es.1 (by decide)) (by omega) (fun q' m' D' M' eq' es' a b gd' => kG q' m' D' M' (e2.trans eq') es' (by omega) (by omega) gd') (fun f M' T' eq' b => kB f M' T' (e2.trans eq') b)
  · exact kG p nl A M (by rw [e, if_neg hw]) ⟨fun _ => hna (by decide), fun _ => hw⟩ (Int.le_refl _) (Int.le_refl _) h
theorem rm_test (L : Lay S) (n : Nat) (ihP : RMt S d x1 lf laws tp len 8 2 2 n) (ihL : RLt S d x1 lf laws tp len 9 1 n) : RMt S d x1 lf laws tp len 10 1 1 (n + 1) := by
  intro p nl dp P M Q A _ h ht hh hin hx1 hmu kG kB
  have e : prs tp len laws (n + 1) 10 A p nl dp = bRS (prs tp len laws n 8 A p nl dp) (fun q m D => prs tp len laws n 9 D q m dp) := rfl
  refine ihP p nl dp P M Q A (fun w => absurd w (by decide)) h ht (hh.up (by decide)) hin hx1 (by omega) (fun q m D M' eq es h1 h2 gd => ?_) (fun f M' T' eq b => kB f M' T' (by rw [e, eq]; rfl) b)
  have e2 : prs tp len laws (n + 1) 10 A p nl dp = prs tp len laws n 9 D q m dp := by rw [e, eq]; rfl
  exact ihL q m dp P M' Q D _ nl M (gd.up5 (by decide)) (ht.mv gd.pl.2.2.2.2) hh hin hx1 (fun w => es.1 (by decide)) (by omega) (fun q' m' D' M'' eq' es' a b gd' => kG q' m' D' M'' (e2.trans eq') ⟨fun _ => es'.1 (by decide), fun w => es'.2 (by decide)⟩ (by omega) (by omega) gd') (fun f M'' T' eq' b => kB f M'' T' (e2.trans eq') b)
end RW
