/-! The reference: brackets of sums, comparisons. -/
section RV
variable {d : Nat} {S : mSh} {tp : Int → Int} {len lf x1 : Int} {laws : Bool}
theorem MPs.pop {p nl dp : Int} {x : Int × Int} {P : PL} {M : mMem} (h : MPs lf tp len p nl (dp + 1) (x :: P) M) (hd : 0 ≤ dp) : MPs lf tp len p nl dp P (up (up M 200 29 (M 200 29 - 1)) 200 30 (M 200 30 - 1)) := by
  obtain ⟨h1, h2, h3, h4, h5, h6, h7, h8, h9, h10⟩ := h
  have ne : ∀ a i, ¬ (a = 200 ∧ (i = 29 ∨ i = 30)) → up (up M 200 29 (M 200 29 - 1)) 200 30 (M 200 30 - 1) a i = M a i := fun a i q => by
    by_cases ea : a = 200
    · subst ea; rw [up_ni (by omega), up_ni (by omega)]
    · rw [up_na ea, up_na ea]
  rw [ln_s] at h8
  refine ⟨h1.congr (fun a i q => ne a i (by omega)), by rw [ne _ _ (by omega)]; exact h2, by rw [up_s]; omega, by rw [ne _ _ (by omega)]; exact h4, by rw [ne _ _ (by omega)]; exact h5, ?_, h7.2, by rw [ne _ _ (by omega)]; omega, h9, by omega⟩
  exact pl_mv h6 (by rw [up_ni (by decide), up_s]) (fun i => ⟨ne _ _ (by omega), ne _ _ (by omega)⟩)
theorem pop_cd (M : mMem) : cdO (up (up M 200 29 (M 200 29 - 1)) 200 30 (M 200 30 - 1)) = cdO M ∧ up (up M 200 29 (M 200 29 - 1)) 200 30 (M 200 30 - 1) 200 23 = M 200 23 ∧ FrPs M (up (up M 200 29 (M 200 29 - 1)) 200 30 (M 200 30 - 1)) := by
  refine ⟨funext fun i => cdO_eq (by rw [up_na (by decide), up_na (by decide)]) (by rw [up_na (by decide), up_na (by decide)]), by rw [up_ni (by decide), up_ni (by decide)], fun a i q => ?_⟩
  by_cases ea : a = 200
  · subst ea; rw [up_ni (by omega), up_ni (by omega)]
  · rw [up_na ea, up_na ea]
theorem s_stl2 (L : Lay S) {d : Nat} {bt : Bool} {lvl c0 n0 q m u dp : Int} {P : PL} {D : Den} {M0 M : mMem} {Q : Option mV → mSh → mMem → Prop} (h : ResM bt lvl lf tp len M0 c0 n0 P q m dp D M) (hh : hdP lvl P) (hu : M 200 23 + M 200 29 ≤ u) (k : ∀ M', MPs lf tp len q m dp P M' → SegM (cdO M') c0 (M' 200 23) (m - n0) D → (bt = true → isB D) → (∀ i, 0 ≤ i → i < c0 → cdO M' i = cdO M0 i) → FrPs M0 M' → M' 200 23 + lnP P ≤ u → Q none S M') : e_X9_settle (d + 1) lvl S M Q := by
  obtain ⟨pend, h1, h2, h3, ⟨b, c1, kk, kE, f, E, e1, e2, e3, e4, e5⟩, h4, h5⟩ := h
  have l := h1.bds
  have ok := okP_a.mp h1.2.2.2.2.2.2.1
  refine s_set L hh ok.2 pend M b bt c0 c1 kk kE f E h1.2.2.2.2.2.1 ok.1 h2 ⟨h3, by omega⟩ e1 e2 e3 (fun M' p1 p2 p3 p4 p5 p6 p7 => k M' (h1.st p1 p4 p6 p7) (by rw [← e5, e4]; exact p2) (by rw [e4]; exact p3) (fun i q0 q1 => (p5 i q0 q1).trans (h4 i q0 q1)) (h5.tr (FrPs.ofS p4)) (by omega))
theorem rm_part (L : Lay S) (hlf : (laws = true ∧ lf = 0) ∨ (laws = false ∧ ¬ lf = 0)) (n : Nat) (ihS : RMs S d x1 lf laws tp len 4 5 n) : RM0 S d x1 lf laws tp len (n + 1) := by
  intro T p nl dp P M Q A hT h ht hmu kG kB
  have e : prs tp len laws (n + 1) 0 A p nl dp = if tS tp len p = 3 ∧ tW tp len p = 91 then (if 8 ≤ dp then .inl (tF tp len p) else bRS (prs tp len laws n 4 A (tT tp len p) nl (dp + 1)) (fun q m D => if tS tp len q = 3 ∧ tW tp len q = 93 then .inr (tT tp len q, m, D) else .inl (tF tp len q))) else leafR tp len laws p nl := rfl
  have l0 := h.bds
  have bd := h.1.2.2.2.2.1.bd
  refine ex_part L hT h (fun d' Q' kQ => s_rdPart L h ht hlf (fun hb hd M1 m1 f1 c1 n1 => kQ 1 M1 ?_) (fun hb hd M1 b1 => kQ 1 M1 (kB _ M1 1 (by rw [e, if_pos hb, if_pos hd]) b1)) (fun hb q D M1 eq m1 f1 n1 c1 sg hq => kQ 3 M1 (kG q (nl + 1) D M1 (by rw [e, if_neg hb]; exact eq) hq (by omega) (ResM.of m1 l0.2.2.2.2.1 (by rw [n1, show nl + 1 - nl = 1 by omega]; exact sg) (fun q => by injection q) (fun i q0 q1 => c1 i (by omega)) f1))) (fun hb f M1 eq b1 => kQ 3 M1 (kB f M1 3 (by rw [e, if_neg hb]; exact eq) b1)))
  rw [if_pos hb, if_neg (by omega)] at e
  have hT2 := bd.2.2.2.2.2 (by omega)
  have hdp := h.2.2.2.2.2.2.2.2.2
  have hh : hdP 5 ((32, 0) :: P) := by show bds 32 < 5; decide
  refine ihS 1 _ nl (dp + 1) _ M1 Q A (Or.inl rfl) m1 (ht.mv f1) hh (by omega) (fun q m D M2 eq es h1 h2 gd => ?_) (fun f M2 T' eq b => kB f M2 T' (by rw [e, eq]; rfl) (b.tr f1))
  have e2 : prs tp len laws (n + 1) 0 A p nl dp = if tS tp len q = 3 ∧ tW tp len q = 93 then .inr (tT tp len q, m, D) else .inl (tF tp len q) := by rw [e, eq]; rfl
  obtain ⟨pend, g1, g2, g3⟩ := id gd
  have bq := g1.1.2.2.2.2.1.bd
  have ok := okP_a.mp g1.2.2.2.2.2.2.1
  have hin : inn (pend ++ (32, 0) :: P) = 32 := (inn_a (by decide) ok.1 g2).trans (if_pos (by decide))
  refine ex_bs L g1.2.2.2.1 (fun Q' kQ => s_bsNo L g1 (es.2 (by decide)) (es.1 (by decide)) (b_X9_behindSum_101 (fun q => absurd hin q) (fun _ => b_X9_behindSum_108 L (s_isSign L g1.1 (fun hr => b_X9_behindSum_115 L (s_go L g1 (fun M3 m3 f3 => b_X9_behindSum_118 L (fun q => absurd m3.2.2.2.1 q) (fun _ => b_X9_behindSum_125 L (s_stl L (gd.nx (fun pd hm => hm.nx m3.1 f3) f3) hh (fun M4 m4 sg _ fe fr => b_X9_behindSum_130 L ?_ (kQ 3 _ ?_))))))) (fun hr => b_X9_behindSum_115 L (s_wr L g1 (fun M3 b3 => b_X9_behindSum_118 L (fun _ => b_X9_behindSum_150 (kQ 3 M3 (kB _ M3 3 (by rw [e2, if_neg hr]) ((b3.tr gd.pl.2.2.2.2).tr f1)))) (fun q => absurd b3.1.1 (by omega)))))))))
  · have l4 := m4.bds
    have d4 := m4.2.2.1
    omega
  · obtain ⟨pc1, pc2, pc3⟩ := pop_cd M4
    refine kG _ m D _ (by rw [e2, if_pos hr]) (by omega) h2 (ResM.of (m4.pop hdp.1) l0.2.2.2.2.1 ?_ (fun q => by injection q) (fun i q0 q1 => ?_) ((f1.tr fr).tr pc3))
    · rw [pc1, pc2, ← n1]; exact sg
    · rw [pc1, fe i q0 (by omega), c1]
def endT (tp : Int → Int) (len : Int) (nt : Nat) (q : Int) : Prop := (7 ≤ nt → ¬ (tS tp len q = 1 ∧ tW tp len q = 1476)) ∧ (9 ≤ nt → ¬ (tS tp len q = 1 ∧ tW tp len q = 498))
def RMt (S : mSh) (d : Nat) (x1 lf : Int) (laws : Bool) (tp : Int → Int) (len : Int) (nt : Nat) (lvl hl : Int) (n : Nat) : Prop := ∀ (p nl dp : Int) (P : PL) (M : mMem) (Q : Option mV → mSh → mMem → Prop) (A : Den), (nt = 5 → entC tp len 0 p) → MPs lf tp len p nl dp P M → TabM M → hdP hl P → ¬ inn P = 32 → ¬ x1 = 0 → 11 * (len - p) + nt < n →
  (∀ q m D M', prs tp len laws n nt A p nl dp = .inr (q, m, D) → endT tp len nt q → p < q → nl < m → ResM true lvl lf tp len M (M 200 23) nl P q m dp D M' → WX S d x1 2 M' Q) → (∀ f M' T', prs tp len laws n nt A p nl dp = .inl f → BadM M f M' → WX S d x1 T' M' Q) → WX S d x1 0 M Q
theorem bds_lo {o l : Int} (ho : 20 ≤ o) (hl : l ≤ 4) (h : bds o < l) : 28 ≤ o := by unfold bds at h; split at h <;> (try split at h) <;> (try split at h) <;> (try split at h) <;> (try split at h) <;> (try split at h) <;> omega
theorem cmpd_hd {P : PL} (hok : okP P) (h : hdP 4 P) : ¬ cmpd P := by
  cases P with
  | nil => exact fun q => q
  | cons x P =>
    have := bds_lo hok.1.1.1 (by decide) (show bds x.1 < 4 from h)
    intro q
    have q : if 20 ≤ x.1 ∧ x.1 ≤ 24 then cmpd P else 25 ≤ x.1 ∧ x.1 ≤ 27 := q
    rw [if_neg (by omega)] at q; omega
theorem rm_cmp (L : Lay S) (n : Nat) (ihS : RMs S d x1 lf laws tp len 4 5 n) : RMt S d x1 lf laws tp len 5 4 4 (n + 1) := by
  intro p nl dp P M Q A hT h ht hh hin hx1 hmu kG kB
  have e : prs tp len laws (n + 1) 5 A p nl dp = bRS (prs tp len laws n 4 A p nl dp) (fun q m D => if cmpO (tS tp len q) (tW tp len q) = -1 then .inl (tF tp len q) else bRS (prs tp len laws n 4 A (tT tp len q) m dp) (fun r l E => .inr (r, l, bnD (cmpO (tS tp len q) (tW tp len q)) D E))) := rfl
  refine ihS 0 p nl dp P M Q A (hT rfl) h ht (hh.up (by decide)) (by omega) (fun q m D M1 eq es h1 h2 gd => ?_) (fun f M' T' eq b => kB f M' T' (by rw [e, eq]; rfl) b)
  have e1 : prs tp len laws (n + 1) 5 A p nl dp = if cmpO (tS tp len q) (tW tp len q) = -1 then .inl (tF tp len q) else bRS (prs tp len laws n 4 A (tT tp len q) m dp) (fun r l E => .inr (r, l, bnD (cmpO (tS tp len q) (tW tp len q)) D E)) := by rw [e, eq]; rfl
  obtain ⟨pend, g1, g2, g3⟩ := id gd
  have bq := g1.1.2.2.2.2.1.bd
  have ok := okP_a.mp g1.2.2.2.2.2.2.1
  have l1 := g1.bds
  have l0 := h.bds
  have hin1 : inn (pend ++ P) = inn P := inn_a (by decide) ok.1 g2
  have sc := sgn_c (tS tp len q) (tW tp len q) 60 62 61 25 26 27
  have hcm : ¬ cmpd (pend ++ P) := by rw [cmpd_a ok.1 g2]; exact cmpd_hd ok.2 hh
  refine ex_bs L g1.2.2.2.1 (fun Q' kQ => s_bsNo L g1 (es.2 (by decide)) (es.1 (by decide)) (b_X9_behindSum_101 (fun _ => ?_) (fun q => absurd (hin1.symm.trans q) hin)))
  have go : ∀ o, 25 ≤ o ∧ o ≤ 27 → cmpO (tS tp len q) (tW tp len q) = o → tS tp len q = 3 → ∀ x3 M2, MPs lf tp len (tT tp len q) m dp (pend ++ P) M2 → FrT4 M1 M2 → WP PR (d + 5) 183 227 [vA 200, vI x1, vI o, vI x3] [] S M2 Q' := by
    intro o ho eo hs3 x3 M2 m2 f2
    have hT2 := bq.2.2.2.2.2 (by omega)
    rw [eo, if_neg (by omega)] at e1
    have bo : bds o = 4 := by unfold bds; rw [if_neg (by omega), if_neg (by omega), if_neg (by omega), if_neg (by omega), if_pos (by omega)]
    have n23 : M2 200 23 = M1 200 23 := f2 _ _ (by omega)
    have n29 : M2 200 29 = M1 200 29 := f2 _ _ (by omega)
    refine b_X9_behindSum_227 L (fun q => absurd m2.2.2.2.1 q) (fun _ => b_X9_behindSum_234 L (s_stl2 L (u := q) (gd.nx (fun pd hm => hm.nx m2.1 f2) f2) (hh.up (by decide)) (by omega) (fun M3 m3 sg _ fe fr hu => b_X9_behindSum_239 L (s_psh L m3 (x := o) (y := 0) ⟨by show 20 ≤ o ∧ o ≤ 32; omega, fun q => absurd q (by show ¬ (o = 29 ∨ o = 30); omega)⟩ (by omega) (fun M4 m4 f4 c4 n4 => b_X9_behindSum_245 (kQ 1 M4 ?_))))))
    refine ihS 1 _ m dp _ M4 Q A (Or.inl rfl) m4 ((ht.mv fr).mv f4) (show bds o < 5 by omega) (by omega) (fun r l E M5 eq2 es2 a1 a2 gd2 => ?_) (fun f M' T' eq2 b => kB f M' T' (by rw [e1, eq2]; rfl) (b.tr (fr.tr f4)))
    have r5 := ResM.bin (lvl := 4) (M0 := M) (n0 := nl) l0.2.2.2.2.1 (by rw [c4, n4]; exact sg) (by rw [c4]; exact fe) (fr.tr f4) (by omega) ⟨by decide, by omega⟩ gd2
    rw [show decide (25 ≤ o) = true from decide_eq_true ho.1] at r5
    obtain ⟨pe2, y1, y2, y3⟩ := id gd2
    have ok2 := okP_a.mp y1.2.2.2.2.2.2.1
    have ly := y1.bds
    have hin2 : inn (pe2 ++ (o, 0) :: P) = inn P := (inn_a (by decide) ok2.1 y2).trans (if_neg (by show ¬ 31 ≤ o; omega))
    have hc2 : cmpd (pe2 ++ (o, 0) :: P) := by
      rw [cmpd_a ok2.1 y2]
      show if 20 ≤ o ∧ o ≤ 24 then cmpd P else 25 ≤ o ∧ o ≤ 27
      rw [if_neg (by omega)]; exact ho
    refine ex_bs L y1.2.2.2.1 (fun Q2 kQ2 => s_bsNo L y1 (es2.2 (by decide)) (es2.1 (by decide)) (b_X9_behindSum_101 (fun _ => ?_) (fun q => absurd (hin2.symm.trans q) hin)))
    have w : WP PR (d + 5) 183 163 [vA 200, vI x1, vI (-1), vI (inn (pe2 ++ (o, 0) :: P))] [] S M5 Q2 := b_X9_behindSum_163 L (s_isCmp L y1.2.2.2.2.2.1 (by omega) (fun _ => b_X9_behindSum_167 (fun q => absurd q (by decide)) (fun _ => b_X9_behindSum_170 (kQ2 2 M5 (kG r l _ M5 (by rw [e1, eq2]; rfl) ⟨fun q => absurd q (by decide), fun q => absurd q (by decide)⟩ (by omega) (by omega) r5)))) (fun q => absurd hc2 q))
    exact b_X9_behindSum_152 (fun _ => w) (fun _ => b_X9_behindSum_157 (fun _ => w) (fun q => absurd q hx1))
  have w : WP PR (d + 5) 183 163 [vA 200, vI x1, vI (-1), vI (inn (pend ++ P))] [] S M1 Q' := by
    refine b_X9_behindSum_163 L (s_isCmp L g1.2.2.2.2.2.1 (by omega) (fun q => absurd q hcm) (fun _ => b_X9_behindSum_167 (fun _ => b_X9_behindSum_172 L ?_) (fun q => absurd rfl q)))
    refine s_isSign L g1.1 (fun q1 => b_X9_behindSum_178 (fun q => absurd q (by decide)) (fun _ => b_X9_behindSum_181 L (s_go L g1 (fun M2 m2 f2 => go 25 (by decide) (by unfold cmpO; omega) q1.1 _ M2 m2 f2)))) (fun q1 => b_X9_behindSum_178 (fun _ => b_X9_behindSum_186 L ?_) (fun q => absurd rfl q))
    refine s_isSign L g1.1 (fun q2 => b_X9_behindSum_192 (fun q => absurd q (by decide)) (fun _ => b_X9_behindSum_195 L (s_go L g1 (fun M2 m2 f2 => go 26 (by decide) (by unfold cmpO; omega) q2.1 _ M2 m2 f2)))) (fun q2 => b_X9_behindSum_192 (fun _ => b_X9_behindSum_200 L ?_) (fun q => absurd rfl q))
    refine s_isSign L g1.1 (fun q3 => b_X9_behindSum_216 (fun q => absurd q (by decide)) (fun _ => b_X9_behindSum_219 L (s_go L g1 (fun M2 m2 f2 => go 27 (by decide) (by unfold cmpO; omega) q3.1 _ M2 m2 f2)))) (fun q3 => b_X9_behindSum_216 (fun _ => b_X9_behindSum_223 L (s_wr L g1 (fun M2 b2 => b_X9_behindSum_227 L (fun _ => b_X9_behindSum_245 (kQ 1 M2 (kB _ M2 1 (e1.trans (if_pos (by unfold cmpO; omega))) (b2.tr gd.pl.2.2.2.2)))) (fun q => absurd b2.1.1 (by omega))))) (fun q => absurd rfl q))
  exact b_X9_behindSum_152 (fun _ => w) (fun _ => b_X9_behindSum_157 (fun _ => w) (fun q => absurd q hx1))
end RV
