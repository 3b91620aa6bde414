/-! The reference reads sums: the turns behind a part. -/
def ResM (bt : Bool) (lvl : Int) (lf : Int) (tp : Int → Int) (len : Int) (M0 : mMem) (c0 n0 : Int) (P : PL) (q m dp : Int) (D : Den) (M : mMem) : Prop := ∃ pend, MPs lf tp len q m dp (pend ++ P) M ∧ lvP lvl pend ∧ 0 ≤ c0 ∧ (∃ b c1 k kE f E, Ctx (cdO M) pend b bt c0 c1 k f ∧ SegM (cdO M) c1 (M 200 23) kE E ∧ (b = true → isB E) ∧ D = f E ∧ k + kE = m - n0) ∧ (∀ i, 0 ≤ i → i < c0 → cdO M i = cdO M0 i) ∧ FrPs M0 M
theorem bds_hi {o l : Int} (ho : 20 ≤ o ∧ o ≤ 32) (hl : 1 ≤ l) (h : l ≤ bds o) : o < 31 := by unfold bds at h; split at h <;> omega
theorem bds_5 {o : Int} (h : 5 ≤ bds o) : o < 25 := by unfold bds at h; split at h <;> (try split at h) <;> (try split at h) <;> (try split at h) <;> (try split at h) <;> omega
theorem inn_a {l : Int} (hl : 1 ≤ l) {P : PL} : ∀ {pend : PL}, okP pend → lvP l pend → inn (pend ++ P) = inn P := by
  intro pend
  induction pend with
  | nil => exact fun _ _ => rfl
  | cons x pend ih =>
    intro h1 h2
    have := bds_hi h1.1.1 hl h2.1
    show (if 31 ≤ x.1 then x.1 else inn (pend ++ P)) = inn P
    rw [if_neg (by omega)]; exact ih h1.2 h2.2
theorem cmpd_a {P : PL} : ∀ {pend : PL}, okP pend → lvP 5 pend → cmpd (pend ++ P) = cmpd P := by
  intro pend
  induction pend with
  | nil => exact fun _ _ => rfl
  | cons x pend ih =>
    intro h1 h2
    have := bds_5 h2.1
    have := h1.1.1
    show (if 20 ≤ x.1 ∧ x.1 ≤ 24 then cmpd (pend ++ P) else _) = cmpd P
    rw [if_pos (by omega)]; exact ih h1.2 h2.2
section RS
variable {d : Nat} {S : mSh} {M : mMem} {Q : Option mV → mSh → mMem → Prop} {tp : Int → Int} {len p nl dp lf x1 : Int} {P : PL} {laws : Bool}
theorem MPs.st {M' : mMem} {pend : PL} (h : MPs lf tp len p nl dp (pend ++ P) M) (hp : PileM M' P (M' 200 29)) (hf : FrSt M M') (hs : M' 200 23 + lnP P ≤ M 200 23 + lnP (pend ++ P)) (hg : M 200 23 ≤ M' 200 23) : MPs lf tp len p nl dp P M' := by
  obtain ⟨h1, h2, h3, h4, h5, h6, h7, h8, h9, h10⟩ := h
  exact ⟨h1.congr (fun a i q => hf a i (by omega)), by rw [hf _ _ (by omega)]; exact h2, by rw [hf _ _ (by omega)]; exact h3, by rw [hf _ _ (by omega)]; exact h4, by rw [hf _ _ (by omega)]; exact h5, hp, (okP_a.mp h7).2, by omega, h9, h10⟩
/-- all that the pile holds of it is settled -/
theorem s_stl (L : Lay S) {bt : Bool} {lvl c0 n0 q m : Int} {D : Den} {M0 : mMem} (h : ResM bt lvl lf tp len M0 c0 n0 P q m dp D M) (hh : hdP lvl P) (k : ∀ M', MPs lf tp len q m dp P M' → SegM (cdO M') c0 (M' 200 23) (m - n0) D → (bt = true → isB D) → (∀ i, 0 ≤ i → i < c0 → cdO M' i = cdO M0 i) → FrPs M0 M' → Q none S M') : e_X9_settle (d + 1) lvl S M Q := by
  obtain ⟨pend, h1, h2, h3, ⟨b, c1, kk, kE, f, E, e1, e2, e3, e4, e5⟩, h4, h5⟩ := h
  have l := h1.bds
  have ok := okP_a.mp h1.2.2.2.2.2.2.1
  refine s_set L hh ok.2 pend M b bt c0 c1 kk kE f E h1.2.2.2.2.2.1 ok.1 h2 ⟨h3, by omega⟩ e1 e2 e3 (fun M' p1 p2 p3 p4 p5 p6 p7 => k M' (h1.st p1 p4 p6 p7) (by rw [← e5, e4]; exact p2) (by rw [e4]; exact p3) (fun i q0 q1 => (p5 i q0 q1).trans (h4 i q0 q1)) (h5.tr (FrPs.ofS p4)))
/-- what is complete is a result -/
theorem ResM.of {bt : Bool} {lvl c0 n0 q m : Int} {D : Den} {M0 : mMem} (h : MPs lf tp len q m dp P M) (hc : 0 ≤ c0) (hs : SegM (cdO M) c0 (M 200 23) (m - n0) D) (hb : bt = true → isB D) (hf : ∀ i, 0 ≤ i → i < c0 → cdO M i = cdO M0 i) (hr : FrPs M0 M) : ResM bt lvl lf tp len M0 c0 n0 P q m dp D M :=
  ⟨[], h, trivial, hc, ⟨bt, c0, 0, m - n0, id, D, ⟨rfl, rfl, rfl, fun q => q⟩, hs, hb, rfl, by omega⟩, hf, hr⟩
/-- behind a sum's part: no sign of a sum -/
theorem s_bsNo (L : Lay S) (h : MPs lf tp len p nl dp P M) (ha : addO (tS tp len p) (tW tp len p) = -1) (hm : mulO (tS tp len p) (tW tp len p) = -1) (k : WP PR (d + 1) 183 101 [vA 200, vI x1, vI (-1), vU] [vI (inn P)] S M Q) : e_X9_behindSum (d + 1) x1 S M Q := by
  have sa := sgn_c (tS tp len p) (tW tp len p) 43 45 45 20 21 21
  have sm := sgn_c (tS tp len p) (tW tp len p) 42 47 37 22 23 24
  unfold addO at ha
  unfold mulO at hm
  have l := h.bds
  refine b_X9_behindSum_0 L (s_isSign L h.1 (fun q => absurd q (by omega)) (fun _ => b_X9_behindSum_6 (fun _ => b_X9_behindSum_14 L (s_isSign L h.1 (fun q => absurd q (by omega)) (fun _ => b_X9_behindSum_20 (fun _ => b_X9_behindSum_28 L (s_isSign L h.1 (fun q => absurd q (by omega)) (fun _ => b_X9_behindSum_34 (fun _ => b_X9_behindSum_42 L (s_isSign L h.1 (fun q => absurd q (by omega)) (fun _ => b_X9_behindSum_48 (fun _ => b_X9_behindSum_56 L (s_isSign L h.1 (fun q => absurd q (by omega)) (fun _ => b_X9_behindSum_62 (fun _ => b_X9_behindSum_70 L (s_inner L h.2.2.2.2.2.1 (by omega) k)) (fun q => absurd rfl q)))) (fun q => absurd rfl q)))) (fun q => absurd rfl q)))) (fun q => absurd rfl q)))) (fun q => absurd rfl q)))
theorem s_bsOp (L : Lay S) (h : MPs lf tp len p nl dp P M) {o : Int} (ho : (addO (tS tp len p) (tW tp len p) = o ∨ mulO (tS tp len p) (tW tp len p) = o) ∧ ¬ o = -1) (k : 20 ≤ o ∧ o ≤ 24 → WP PR (d + 1) 183 82 [vA 200, vI x1, vI o, vU] [vI (bds o), vA 200] S M Q) : e_X9_behindSum (d + 1) x1 S M Q := by
  have sa := sgn_c (tS tp len p) (tW tp len p) 43 45 45 20 21 21
  have sm := sgn_c (tS tp len p) (tW tp len p) 42 47 37 22 23 24
  unfold addO mulO at ho
  have go : ∀ v, 20 ≤ v ∧ v ≤ 24 → o = v → WP PR (d + 1) 183 82 [vA 200, vI x1, vI v, vU] [vI (bds v), vA 200] S M Q := fun v hv e => by subst e; exact k hv
  refine b_X9_behindSum_0 L (s_isSign L h.1 (fun q => b_X9_behindSum_6 (fun q => absurd q (by decide)) (fun _ => b_X9_behindSum_9 (s_binds (by decide) (go 20 (by decide) (by omega))))) (fun q1 => b_X9_behindSum_6 (fun _ => b_X9_behindSum_14 L (s_isSign L h.1 (fun q => b_X9_behindSum_20 (fun q => absurd q (by decide)) (fun _ => b_X9_behindSum_23 (s_binds (by decide) (go 21 (by decide) (by omega))))) (fun q2 => b_X9_behindSum_20 (fun _ => b_X9_behindSum_28 L (s_isSign L h.1 (fun q => b_X9_behindSum_34 (fun q => absurd q (by decide)) (fun _ => b_X9_behindSum_37 (s_binds (by decide) (go 22 (by decide) (by omega))))) (fun q3 => b_X9_behindSum_34 (fun _ => b_X9_behindSum_42 L (s_isSign L h.1 (fun q => b_X9_behindSum_48 (fun q => absurd q (by decide)) (fun _ => b_X9_behindSum_51 (s_binds (by decide) (go 23 (by decide) (by omega))))) (fun q4 => b_X9_behindSum_48 (fun _ => b_X9_behindSum_56 L (s_isSign L h.1 (fun q => b_X9_behindSum_62 (fun q => absurd q (by decide)) (fun _ => b_X9_behindSum_65 (s_binds (by decide) (go 24 (by decide) (by omega))))) (fun q5 => absurd ho (by omega)))) (fun q => absurd rfl q)))) (fun q => absurd rfl q)))) (fun q => absurd rfl q)))) (fun q => absurd rfl q)))
/-- pushed, and the next token -/
theorem s_psh2 (L : Lay S) (h : MPs lf tp len p nl dp P M) {x y : Int} (hx : okX (x, y)) (hs : ¬ tS tp len p = 0) (k : ∀ M1, (∀ (d' : Nat) (Q' : Option mV → mSh → mMem → Prop), (∀ M2, MPs lf tp len (tT tp len p) nl dp ((x, y) :: P) M2 → FrPs M M2 → cdO M2 = cdO M → M2 200 23 = M 200 23 → Q' none S M2) → e_X9_next (d' + 1) S M1 Q') → Q none S M1) : e_X9_push d x y S M Q := by
  have l := h.bds
  have bd := h.1.2.2.2.2.1.bd
  have hT := bd.2.2.2.2.2 hs
  obtain ⟨h1, h2, h3, h4, h5, h6, h7, h8, h9, h10⟩ := h
  refine s_push L rfl (by omega) ?_
  generalize hM1 : up (up (up M 213 (M 200 29) x) 214 (M 200 29) y) 200 29 (M 200 29 + 1) = M1
  have ne : ∀ a i, ¬ ((a = 213 ∧ i = M 200 29) ∨ (a = 214 ∧ i = M 200 29) ∨ (a = 200 ∧ i = 29)) → M1 a i = M a i := fun a i q => by rw [← hM1]; exact up3_ne (by omega) (by omega) (by omega)
  have n9 : M1 200 29 = M 200 29 + 1 := by rw [← hM1]; exact up_s _ _ _ _
  have pm : PileM M1 ((x, y) :: P) (M1 200 29) := by
    rw [n9]
    have e1 : M 200 29 + 1 - 1 = M 200 29 := by omega
    refine ⟨?_, ?_, ?_⟩
    · rw [e1, ← hM1, up_na (by decide), up_na (by decide), up_s]
    · rw [e1, ← hM1, up_na (by decide), up_s]
    · rw [e1]; exact h6.congr (fun i q0 q1 => ⟨ne _ _ (by omega), ne _ _ (by omega)⟩)
  refine k M1 (fun d' Q' kk => s_nx L (h1.congr (fun a i q => ne a i (by omega))) (fun M2 r2 f2 => kk M2 ⟨r2, by rw [f2 _ _ (by omega), ne _ _ (by omega)]; exact h2, by rw [f2 _ _ (by omega), ne _ _ (by omega)]; exact h3, by rw [f2 _ _ (by omega), ne _ _ (by omega)]; exact h4, by rw [f2 _ _ (by omega), ne _ _ (by omega)]; exact h5, ?_, ⟨hx, h7⟩, by rw [f2 _ _ (by omega), ne _ _ (by omega), ln_s]; omega, h9, h10⟩ (FrPs.tr (fun a i q => ne a i (by omega)) (FrPs.ofT f2)) ?_ ?_))
  · rw [f2 200 29 (by omega)]; exact pm.congr (fun i _ _ => ⟨f2 _ _ (by omega), f2 _ _ (by omega)⟩)
  · rw [f2.cd]; exact funext fun i => cdO_eq (ne _ _ (by omega)) (ne _ _ (by omega))
  · rw [f2 _ _ (by omega)]; exact ne _ _ (by omega)
/-- a sign of a sum: what binds as much is settled, it is pushed -/
theorem s_op (L : Lay S) {lvl c0 n0 o : Int} {A : Den} {M0 : mMem} (h : ResM false lvl lf tp len M0 c0 n0 P p nl dp A M) (hh : hdP lvl P) (ho : (addO (tS tp len p) (tW tp len p) = o ∨ mulO (tS tp len p) (tW tp len p) = o) ∧ ¬ o = -1) (hl : 20 ≤ o ∧ o ≤ 24 → bds o = lvl) (k : ∀ M', MPs lf tp len (tT tp len p) nl dp ((o, 0) :: P) M' → SegM (cdO M') c0 (M' 200 23) (nl - n0) A → (20 ≤ o ∧ o ≤ 24) → (∀ i, 0 ≤ i → i < c0 → cdO M' i = cdO M0 i) → FrPs M0 M' → Q (some (vI 1)) S M') : e_X9_behindSum (d + 3) x1 S M Q := by
  obtain ⟨pend, h1, -⟩ := id h
  have hs : ¬ tS tp len p = 0 := by
    have sa := sgn_c (tS tp len p) (tW tp len p) 43 45 45 20 21 21
    have sm := sgn_c (tS tp len p) (tW tp len p) 42 47 37 22 23 24
    unfold addO mulO at ho
    omega
  refine s_bsOp L h1 ho (fun hr => b_X9_behindSum_82 L ?_)
  rw [hl hr]
  refine s_stl L h hh (fun M1 m1 sg _ fe fr => b_X9_behindSum_85 L (s_psh2 L m1 (x := o) (y := 0) ⟨by show 20 ≤ o ∧ o ≤ 32; omega, fun q => absurd q (by show ¬ (o = 29 ∨ o = 30); omega)⟩ hs (fun M2 nx => b_X9_behindSum_91 L (nx _ _ (fun M3 m3 f3 c3 n3 => b_X9_behindSum_95 (k M3 m3 ?_ hr ?_ (fr.tr f3)))))))
  · rw [c3, n3]; exact sg
  · rw [c3]; exact fe
end RS
