/-! The reference's reading: its state, words, brackets, leaves (by wip/whole/gen90.py). -/
def FrPs (M M' : mMem) : Prop := ∀ a i, ¬ ((a = 200 ∧ ((14 ≤ i ∧ i ≤ 19) ∨ i = 23 ∨ i = 26 ∨ i = 29 ∨ i = 30)) ∨ a = 211 ∨ a = 212 ∨ a = 213 ∨ a = 214) → M' a i = M a i
theorem FrPs.rf (M : mMem) : FrPs M M := fun _ _ _ => rfl
theorem FrPs.tr {M M' M'' : mMem} (h : FrPs M M') (h' : FrPs M' M'') : FrPs M M'' := fun a i q => (h' a i q).trans (h a i q)
theorem FrPs.ofT {M M' : mMem} (h : FrT4 M M') : FrPs M M' := fun a i q => h a i (by omega)
theorem FrPs.ofS {M M' : mMem} (h : FrSt M M') : FrPs M M' := fun a i q => h a i (by omega)
def MPs (lf : Int) (tp : Int → Int) (len p nl dp : Int) (P : PL) (M : mMem) : Prop := RdM tp len p M ∧ M 200 26 = nl ∧ M 200 30 = dp ∧ M 200 19 = 0 ∧ M 200 20 = lf ∧ PileM M P (M 200 29) ∧ okP P ∧ (0 ≤ M 200 23 ∧ M 200 23 + lnP P ≤ p) ∧ (0 ≤ nl ∧ nl ≤ 50) ∧ (0 ≤ dp ∧ dp ≤ 8)
def BadM (M0 : mMem) (f : Int) (M : mMem) : Prop := (M 200 19 = 1 ∧ M 200 18 = f) ∧ FrPs M0 M ∧ ∃ P, PileM M P (M 200 29) ∧ okP P ∧ (0 ≤ M 200 23 ∧ M 200 23 + lnP P ≤ 400)
theorem BadM.tr {M0 M M' : mMem} {f : Int} (h : BadM M f M') (hf : FrPs M0 M) : BadM M0 f M' := ⟨h.1, hf.tr h.2.1, h.2.2⟩
def tabL (i : Int) : Int := if i = 0 then 99947 else if i = 1 then 664754 else if i = 2 then 632645 else if i = 3 then 218508 else if i = 4 then 431150 else if i = 5 then 824370 else 441828
def tabO (i : Int) : Int := if i = 0 then 824370 else if i = 1 then 146885 else if i = 2 then 404362868 else if i = 3 then 2672439460 else if i = 4 then 218508 else if i = 5 then 605677 else 431150
def tabV (i : Int) : Int := if i = 0 then 13094067 else if i = 1 then 848474259 else 67155
def tabW (i : Int) : Int := if i = 0 then 540338 else if i = 1 then 590955 else if i = 2 then 83513733 else 525939
def TabM (M : mMem) : Prop := (∀ i, 0 ≤ i → i < 7 → M 215 i = tabL i ∧ M 216 i = tabO i) ∧ (∀ i, 0 ≤ i → i < 3 → M 217 i = tabV i) ∧ (∀ i, 0 ≤ i → i < 4 → M 222 i = tabW i)
theorem TabM.mv {M M' : mMem} (h : TabM M) (hf : FrPs M M') : TabM M' := ⟨fun i p q => by rw [hf _ _ (by omega), hf _ _ (by omega)]; exact h.1 i p q, fun i p q => by rw [hf _ _ (by omega)]; exact h.2.1 i p q, fun i p q => by rw [hf _ _ (by omega)]; exact h.2.2 i p q⟩
theorem lawWN_t (w : Int) {x : Int} (hx : 0 ≤ x ∧ x < 7) : w = tabL x ↔ lawWN w = x + 1 := by
  obtain h | h | h | h | h | h | h : x = 0 ∨ x = 1 ∨ x = 2 ∨ x = 3 ∨ x = 4 ∨ x = 5 ∨ x = 6 := by omega
  all_goals (subst h; unfold lawWN; simp only [tabL]; simp; split <;> (try split) <;> (try split) <;> (try split) <;> (try split) <;> (try split) <;> (try split) <;> omega)
theorem ordWN_t (w : Int) {x : Int} (hx : 0 ≤ x ∧ x < 7) : w = tabO x ↔ ordWN w = x + 1 := by
  obtain h | h | h | h | h | h | h : x = 0 ∨ x = 1 ∨ x = 2 ∨ x = 3 ∨ x = 4 ∨ x = 5 ∨ x = 6 := by omega
  all_goals (subst h; unfold ordWN; simp only [tabO]; simp; split <;> (try split) <;> (try split) <;> (try split) <;> (try split) <;> (try split) <;> (try split) <;> omega)
section RP
variable {d : Nat} {S : mSh} {M : mMem} {Q : Option mV → mSh → mMem → Prop} {tp : Int → Int} {len p nl dp lf : Int} {P : PL}
theorem s_partAt (L : Lay S) (h : RdM tp len p M) (ht : TabM M) (k : Q (some (vI (wrdN true (tS tp len p) (tW tp len p)))) S M) : e_X9_partAt (d + 1) S M Q := by
  have rg := wrdN_rng true (tS tp len p) (tW tp len p)
  have hw : ∀ x, 0 ≤ x ∧ x < 7 → ((tS tp len p = 1 ∧ tW tp len p = tabL x) ↔ wrdN true (tS tp len p) (tW tp len p) = x + 1) := fun x hx => by
    unfold wrdN
    by_cases hs : tS tp len p = 1
    · rw [if_pos hs, if_pos rfl, ← lawWN_t _ hx]; exact ⟨fun q => q.2, fun q => ⟨hs, q⟩⟩
    · rw [if_neg hs]; exact ⟨fun q => absurd q.1 hs, fun q => absurd q (by omega)⟩
  generalize wrdN true (tS tp len p) (tW tp len p) = r at *
  refine b_X9_partAt_0 ?_
  have key := for_up (W := fun x => ∀ x1, (x1 = if 1 ≤ r ∧ r ≤ x then r else -1) → WP PR (d + 1) 177 4 [vA 200, vI x1, vI x] [] S M Q) (lo := 0) (hi := 7) (by decide) (fun x1 e => b_X9_partAt_4 (fun _ => b_X9_partAt_37 ?_) (fun q => absurd q (by decide))) (fun x x0 x7 ih x1 e => b_X9_partAt_4 (fun q => absurd q (by omega)) (fun _ => b_X9_partAt_10 L ⟨x0, x7⟩ ?_))
  · exact key (-1) (by rw [if_neg (by omega)])
  · rw [show x1 = r by rw [e]; split <;> omega]; exact k
  · rw [(ht.1 x x0 x7).1]
    refine s_isWord L h (fun q => b_X9_partAt_20 (fun q' => absurd q' (by decide)) (fun _ => b_X9_partAt_23 (by omega) (ih _ ?_))) (fun q => b_X9_partAt_20 (fun _ => b_X9_partAt_29 (by omega) (ih _ ?_)) (fun q' => absurd rfl q'))
    · have := (hw x ⟨x0, x7⟩).mp q
      rw [if_pos (by omega)]; omega
    · have : ¬ r = x + 1 := fun q' => q ((hw x ⟨x0, x7⟩).mpr q')
      rw [e]; split <;> split <;> omega
theorem s_orderPartAt (L : Lay S) (h : RdM tp len p M) (ht : TabM M) (k : Q (some (vI (wrdN false (tS tp len p) (tW tp len p)))) S M) : e_X9_orderPartAt (d + 1) S M Q := by
  have rg := wrdN_rng false (tS tp len p) (tW tp len p)
  have hw : ∀ x, 0 ≤ x ∧ x < 7 → ((tS tp len p = 1 ∧ tW tp len p = tabO x) ↔ wrdN false (tS tp len p) (tW tp len p) = x + 1) := fun x hx => by
    unfold wrdN
    by_cases hs : tS tp len p = 1
    · rw [if_pos hs, if_neg (by decide), ← ordWN_t _ hx]; exact ⟨fun q => q.2, fun q => ⟨hs, q⟩⟩
    · rw [if_neg hs]; exact ⟨fun q => absurd q.1 hs, fun q => absurd q (by omega)⟩
  generalize wrdN false (tS tp len p) (tW tp len p) = r at *
  refine b_X9_orderPartAt_0 ?_
  have key := for_up (W := fun x => ∀ x1, (x1 = if 1 ≤ r ∧ r ≤ x then r else -1) → WP PR (d + 1) 178 4 [vA 200, vI x1, vI x] [] S M Q) (lo := 0) (hi := 7) (by decide) (fun x1 e => b_X9_orderPartAt_4 (fun _ => b_X9_orderPartAt_37 ?_) (fun q => absurd q (by decide))) (fun x x0 x7 ih x1 e => b_X9_orderPartAt_4 (fun q => absurd q (by omega)) (fun _ => b_X9_orderPartAt_10 L ⟨x0, x7⟩ ?_))
  · exact key (-1) (by rw [if_neg (by omega)])
  · rw [show x1 = r by rw [e]; split <;> omega]; exact k
  · rw [(ht.1 x x0 x7).2]
    refine s_isWord L h (fun q => b_X9_orderPartAt_20 (fun q' => absurd q' (by decide)) (fun _ => b_X9_orderPartAt_23 (by omega) (ih _ ?_))) (fun q => b_X9_orderPartAt_20 (fun _ => b_X9_orderPartAt_29 (by omega) (ih _ ?_)) (fun q' => absurd rfl q'))
    · have := (hw x ⟨x0, x7⟩).mp q
      rw [if_pos (by omega)]; omega
    · have : ¬ r = x + 1 := fun q' => q ((hw x ⟨x0, x7⟩).mpr q')
      rw [e]; split <;> split <;> omega
theorem MPs.nx {M' : mMem} (h : MPs lf tp len p nl dp P M) (h' : RdM tp len (tT tp len p) M') (hf : FrT4 M M') : MPs lf tp len (tT tp len p) nl dp P M' := by
  obtain ⟨h1, h2, h3, h4, h5, h6, h7, h8, h9, h10⟩ := h
  have b := h1.2.2.2.2.1.bd
  exact ⟨h', by rw [hf _ _ (by omega)]; exact h2, by rw [hf _ _ (by omega)]; exact h3, by rw [hf _ _ (by omega)]; exact h4, by rw [hf _ _ (by omega)]; exact h5, by rw [hf 200 29 (by omega)]; exact h6.congr (fun i _ _ => ⟨hf _ _ (by omega), hf _ _ (by omega)⟩), h7, by rw [hf _ _ (by omega)]; omega, h9, h10⟩
theorem MPs.bds (h : MPs lf tp len p nl dp P M) : M 200 29 = lnP P ∧ p ≤ len ∧ len ≤ 400 ∧ 0 ≤ lnP P ∧ 0 ≤ M 200 23 ∧ M 200 23 + lnP P ≤ p := ⟨h.2.2.2.2.2.1.ln, h.1.2.2.2.1.2, h.1.1.1.2, ln_p P, h.2.2.2.2.2.2.2.1.1, h.2.2.2.2.2.2.2.1.2⟩
theorem FrT4.cd {M M' : mMem} (h : FrT4 M M') : cdO M' = cdO M := funext fun i => cdO_eq (h _ _ (by omega)) (h _ _ (by omega))
/-- what isn't there is a fault -/
theorem s_wr (L : Lay S) (h : MPs lf tp len p nl dp P M) (k : ∀ M', BadM M (tF tp len p) M' → Q none S M') : e_X9_must d 0 S M Q := by
  have l := h.bds
  obtain ⟨h1, h2, h3, h4, h5, h6, h7, h8, h9, h10⟩ := h
  refine s_must0 L h1 h4 (k _ ⟨⟨by rw [up_ni (by decide), up_s], up_s _ _ _ _⟩, fun a i q => ?_, P, ?_, h7, ?_⟩)
  · by_cases ea : a = 200
    · subst ea; rw [up_ni (by omega), up_ni (by omega)]
    · rw [up_na ea, up_na ea]
  · rw [up_ni (by decide), up_ni (by decide)]
    exact h6.congr (fun i _ _ => ⟨by rw [up_na (by decide), up_na (by decide)], by rw [up_na (by decide), up_na (by decide)]⟩)
  · rw [up_ni (by decide), up_ni (by decide)]; omega
theorem s_nxM (L : Lay S) (h : MPs lf tp len p nl dp P M) (k : ∀ M', MPs lf tp len (tT tp len p) nl dp P M' → FrT4 M M' → Q none S M') : e_X9_next (d + 1) S M Q := s_nx L h.1 (fun M' h' f' => k M' (h.nx h' f') f')
theorem s_go (L : Lay S) (h : MPs lf tp len p nl dp P M) (k : ∀ M', MPs lf tp len (tT tp len p) nl dp P M' → FrT4 M M' → Q none S M') : e_X9_must (d + 2) 1 S M Q := s_must1 L h.1 h.2.2.2.1 (fun M' h' f' => k M' (h.nx h' f') f')
/-- something is pushed; there is room below q -/
theorem s_psh (L : Lay S) (h : MPs lf tp len p nl dp P M) {x y : Int} (hx : okX (x, y)) (hr : M 200 23 + lnP P < p) (k : ∀ M', MPs lf tp len p nl dp ((x, y) :: P) M' → FrPs M M' → cdO M' = cdO M → M' 200 23 = M 200 23 → Q none S M') : e_X9_push d x y S M Q := by
  have l := h.bds
  obtain ⟨h1, h2, h3, h4, h5, h6, h7, h8, h9, h10⟩ := h
  refine s_push L rfl (by omega) ?_
  generalize hM1 : up (up (up M 213 (M 200 29) x) 214 (M 200 29) y) 200 29 (M 200 29 + 1) = M1
  have ne : ∀ a i, ¬ ((a = 213 ∧ i = M 200 29) ∨ (a = 214 ∧ i = M 200 29) ∨ (a = 200 ∧ i = 29)) → M1 a i = M a i := fun a i q => by rw [← hM1]; exact up3_ne (by omega) (by omega) (by omega)
  have n9 : M1 200 29 = M 200 29 + 1 := by rw [← hM1]; exact up_s _ _ _ _
  refine k M1 ⟨h1.congr (fun a i q => ne a i (by omega)), by rw [ne _ _ (by omega)]; exact h2, by rw [ne _ _ (by omega)]; exact h3, by rw [ne _ _ (by omega)]; exact h4, by rw [ne _ _ (by omega)]; exact h5, ?_, ⟨hx, h7⟩, by rw [ne _ _ (by omega), ln_s]; omega, h9, h10⟩ (fun a i q => ne a i (by omega)) (funext fun i => cdO_eq (ne _ _ (by omega)) (ne _ _ (by omega))) (ne _ _ (by omega))
  rw [n9]
  have e1 : M 200 29 + 1 - 1 = M 200 29 := by omega
  refine ⟨?_, ?_, ?_⟩
  · rw [e1, ← hM1, up_na (by decide), up_na (by decide), up_s]
  · rw [e1, ← hM1, up_na (by decide), up_s]
  · rw [e1]; exact h6.congr (fun i q0 q1 => ⟨ne _ _ (by omega), ne _ _ (by omega)⟩)
/-- a bracket opens -/
theorem s_brk (L : Lay S) (h : MPs lf tp len p nl dp P M) {o : Int} (ho : o = 31 ∨ o = 32) (hs : ¬ tS tp len p = 0) (k1 : dp < 8 → ∀ M', MPs lf tp len (tT tp len p) nl (dp + 1) ((o, 0) :: P) M' → FrPs M M' → cdO M' = cdO M → M' 200 23 = M 200 23 → Q none S M') (k0 : 8 ≤ dp → ∀ M', BadM M (tF tp len p) M' → Q none S M') : e_X9_openBracket (d + 3) o S M Q := by
  have h30 := h.2.2.1
  have l := h.bds
  have bd := h.1.2.2.2.2.1.bd
  have hT := bd.2.2.2.2.2 hs
  refine b_X9_openBracket_0 L (fun q => b_X9_openBracket_14 L (s_wr L h (fun M1 b1 => b_X9_openBracket_18 L (fun _ => b_X9_openBracket_41 (k0 (by omega) M1 b1)) (fun q' => absurd b1.1.1 (by omega))))) (fun q => b_X9_openBracket_10 L (s_go L h (fun M1 h1 f1 => b_X9_openBracket_18 L (fun q' => absurd h1.2.2.2.1 q') (fun _ => ?_))))
  have e23 : M1 200 23 = M 200 23 := f1 _ _ (by omega)
  have e30 : M1 200 30 = dp := h1.2.2.1
  have hdp := h.2.2.2.2.2.2.2.2.2
  refine b_X9_openBracket_25 L (by omega) ?_
  have h2 : MPs lf tp len (tT tp len p) nl (dp + 1) P (up M1 200 30 (M1 200 30 + 1)) := by
    obtain ⟨a1, a2, a3, a4, a5, a6, a7, a8, a9, a10⟩ := h1
    refine ⟨a1.congr (fun a i q => ?_), by rw [up_ni (by decide)]; exact a2, by rw [up_s]; omega, by rw [up_ni (by decide)]; exact a4, by rw [up_ni (by decide)]; exact a5, ?_, a7, by rw [up_ni (by decide)]; exact a8, a9, by omega⟩
    · by_cases ea : a = 200
      · subst ea; exact up_ni (by omega)
      · exact up_na ea
    · rw [up_ni (by decide)]; exact a6.congr (fun i _ _ => ⟨up_na (by decide), up_na (by decide)⟩)
  refine s_psh L h2 (x := o) (y := 0) ⟨by show 20 ≤ o ∧ o ≤ 32; omega, fun q => absurd q (by show ¬ (o = 29 ∨ o = 30); omega)⟩ (by rw [up_ni (by decide)]; omega) (fun M2 h3 f3 c3 n3 => b_X9_openBracket_41 (k1 (by omega) M2 h3 (((FrPs.ofT f1).tr (fun a i q => ?_)).tr f3) ?_ ?_))
  · by_cases ea : a = 200
    · subst ea; exact up_ni (by omega)
    · exact up_na ea
  · rw [c3, ← f1.cd]; exact funext fun i => cdO_eq (up_na (by decide)) (up_na (by decide))
  · rw [n3, up_ni (by decide)]; exact e23
/-- a leaf goes out -/
theorem s_lfP (L : Lay S) (h : MPs lf tp len p nl dp P M) {x1 o a : Int} (hs : x1 = 0 ∨ ¬ tS tp len p = 0) (k1 : ¬ x1 = 0 → nl < 50 → ∀ M', MPs lf tp len (tT tp len p) (nl + 1) dp P M' → FrPs M M' → M' 200 23 = M 200 23 + 1 → (∀ i, i ≠ M 200 23 → cdO M' i = cdO M i) → cdO M' (M 200 23) = (o, a) → Q none S M') (k0 : x1 = 0 ∨ 50 ≤ nl → ∀ M', BadM M (tF tp len p) M' → Q none S M') : e_X9_leaf (d + 3) x1 o a S M Q := by
  have h26 := h.2.1
  have hnl := h.2.2.2.2.2.2.2.2.1
  have l := h.bds
  have bd := h.1.2.2.2.2.1.bd
  have bad : x1 = 0 ∨ 50 ≤ nl → WP PR (d + 3) 180 18 [vA 200, vI x1, vI o, vI a] [vA 200] S M Q := fun hb => b_X9_leaf_18 L (s_wr L h (fun M1 b1 => b_X9_leaf_22 L (fun _ => b_X9_leaf_45 (k0 hb M1 b1)) (fun q' => absurd b1.1.1 (by omega))))
  refine b_X9_leaf_0 (fun q => bad (Or.inl q)) (fun q => b_X9_leaf_5 L (fun q' => bad (Or.inr (by omega))) (fun q' => b_X9_leaf_14 L (s_go L h (fun M1 h1 f1 => b_X9_leaf_22 L (fun q'' => absurd h1.2.2.2.1 q'') (fun _ => b_X9_leaf_29 L ?_)))))
  have hT := bd.2.2.2.2.2 (by omega)
  have e23 : M1 200 23 = M 200 23 := f1 _ _ (by omega)
  refine s_emit L e23 (by omega) (b_X9_leaf_35 L (by rw [up3_ne (by omega) (by omega) (by omega), h1.2.1]; omega) ?_)
  rw [up3_ne (by omega) (by omega) (by omega), h1.2.1]
  generalize hM2 : up (up (up (up M1 211 (M 200 23) o) 212 (M 200 23) a) 200 23 (M 200 23 + 1)) 200 26 (nl + 1) = M2
  have ne : ∀ b i, ¬ ((b = 211 ∧ i = M 200 23) ∨ (b = 212 ∧ i = M 200 23) ∨ (b = 200 ∧ (i = 23 ∨ i = 26))) → M2 b i = M1 b i := fun b i q => by
    rw [← hM2]
    by_cases eb : b = 200
    · subst eb; rw [up_ni (by omega)]; exact up3_ne (by omega) (by omega) (by omega)
    · rw [up_na eb]; exact up3_ne (by omega) (by omega) (by omega)
  have n23 : M2 200 23 = M 200 23 + 1 := by rw [← hM2, up_ni (by decide), up_s]
  have n26 : M2 200 26 = nl + 1 := by rw [← hM2, up_s]
  obtain ⟨a1, a2, a3, a4, a5, a6, a7, a8, a9, a10⟩ := h1
  refine k1 q (by omega) M2 ⟨a1.congr (fun a i q => ne a i (by omega)), n26, by rw [ne _ _ (by omega)]; exact a3, by rw [ne _ _ (by omega)]; exact a4, by rw [ne _ _ (by omega)]; exact a5, ?_, a7, by rw [n23]; omega, by omega, a10⟩ ((FrPs.ofT f1).tr (fun a i q => ne a i (by omega))) n23 (fun i qi => ?_) ?_
  · rw [ne 200 29 (by omega)]; exact a6.congr (fun i _ _ => ⟨ne _ _ (by omega), ne _ _ (by omega)⟩)
  · rw [← f1.cd]; exact cdO_eq (ne _ _ (by omega)) (ne _ _ (by omega))
  · show (M2 211 (M 200 23), M2 212 (M 200 23)) = (o, a)
    rw [← hM2, up_na (by decide), up_na (by decide), up_na (by decide), up_s, up_na (by decide), up_na (by decide), up_s]
/-- a number within bounds -/
theorem s_num (L : Lay S) (h : MPs lf tp len p nl dp P M) {lo hi : Int} (hb : 0 ≤ lo ∧ hi ≤ 1000) (k1 : tS tp len p = 2 ∧ lo ≤ tW tp len p ∧ tW tp len p ≤ hi → ∀ M', MPs lf tp len (tT tp len p) nl dp P M' → FrT4 M M' → Q (some (vI (tW tp len p))) S M') (k0 : ¬ (tS tp len p = 2 ∧ lo ≤ tW tp len p ∧ tW tp len p ≤ hi) → ∀ v M', BadM M (tF tp len p) M' → Q (some (vI v)) S M') : e_X9_number (d + 3) lo hi S M Q := by
  have e16 : M 200 16 = tS tp len p := h.1.2.2.2.2.2.2.2.1
  have e17 : M 200 17 = tW tp len p := h.1.2.2.2.2.2.2.2.2
  rw [← e16, ← e17] at k0 k1
  refine b_X9_number_0 L (fun q => b_X9_number_32 L (s_wr L h (fun M1 b1 => b_X9_number_36 (k0 (fun w => q w.1) _ M1 b1)))) (fun q => b_X9_number_16 L (s_in (fun q2 => b_X9_number_25 (fun q' => absurd q' (by decide)) (fun _ => b_X9_number_28 L (s_go L h (fun M1 h1 f1 => b_X9_number_36 ?_)))) (fun q2 => b_X9_number_25 (fun _ => b_X9_number_32 L (s_wr L h (fun M1 b1 => b_X9_number_36 (k0 (fun w => q2 w.2) _ M1 b1)))) (fun q' => absurd rfl q'))))
  rw [w32_id (by omega)]
  exact k1 ⟨q, q2⟩ M1 h1 f1
end RP
