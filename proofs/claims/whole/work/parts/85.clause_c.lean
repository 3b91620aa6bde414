/-! The class reads a clause, and a text. -/
def ClS (laws : Bool) (tp : Int → Int) (len li : Int) (M0 : mMem) (T : TX) (c v t s : Int) (F : Int → Option Den) (q m : Int) (M : mMem) : Prop := CSt tp len li q m 0 M ∧ M 5 2 = c + 1 ∧ (M 6 (c * 7) = v ∧ M 6 (c * 7 + 1) = t) ∧ SecsC laws M c s F ∧ HdC laws M c T ∧ FrTx M0 M ∧ (∀ j, s ≤ j → F j = none)
def BadT (M : mMem) (f : Int) (M' : mMem) : Prop := (M' 4 9 = f ∧ 0 ≤ f) ∧ FrTx M M' ∧ StOK M'
theorem BadT.of {M0 M M' : mMem} {f : Int} (h : Bad M f M') (hf : FrTx M0 M) : BadT M0 f M' := ⟨h.1, hf.tr (FrTx.ofR h.2.1), h.2.2.1⟩
theorem SecsC.skip {laws : Bool} {M : mMem} {c s s' : Int} {F : Int → Option Den} (h : SecsC laws M c s F) (hs : s ≤ s' ∧ s' ≤ 4) (hF : ∀ j, s ≤ j → j < s' → F j = none) : SecsC laws M c s' F := by
  refine ⟨fun j q0 q1 => ?_, fun j q0 q1 => h.2 j (by omega) q1⟩
  by_cases e : j < s
  · exact h.1 j q0 e
  · rw [hF j (by omega) q1, h.2 j (by omega) (by omega), h.2 (j + 1) (by omega) (by omega)]
    exact Int.le_refl _
theorem SecsC.eq {laws : Bool} {M M' : mMem} {c s : Int} {F : Int → Option Den} (h : SecsC laws M c s F) (h7 : ∀ k, M' 7 k = M 7 k) (h6 : ∀ k, c * 7 + 2 ≤ k → M' 6 k = M 6 k) (h53 : M' 5 3 = M 5 3) (hs : 0 ≤ s) : SecsC laws M' c s F := by
  refine ⟨fun j q0 q1 => ?_, fun j q0 q1 => ?_⟩
  · rw [h6 _ (by omega), h6 _ (by omega)]
    exact (h.1 j q0 q1).gr (by omega) (fun k _ _ => h7 k)
  · rw [h6 _ (by omega), h53]; exact h.2 j q0 q1
theorem CSt.cg {tp : Int → Int} {len li p nl dp : Int} {M M' : mMem} (h : CSt tp len li p nl dp M) (hf : ∀ a i, ¬ (a = 6 ∨ (a = 5 ∧ i = 2)) → M' a i = M a i) : CSt tp len li p nl dp M' := by
  obtain ⟨h1, h2, h3, h4, h5, h6, h7, h8⟩ := h
  exact ⟨h1.congr (fun a j q => hf a j (by omega)), by rw [hf _ _ (by omega)]; exact h2, by rw [hf _ _ (by omega)]; exact h3, by rw [hf _ _ (by omega)]; exact h4, by rw [hf _ _ (by omega)]; exact h5, fun k q0 q1 => by rw [hf _ _ (by omega)]; exact h6 k q0 q1, h7, h8⟩
section CL
variable {d : Nat} {S : mSh} {M M0 : mMem} {Q : Option mV → mSh → mMem → Prop} {tp : Int → Int} {len li q m c v t s : Int} {laws : Bool} {T : TX} {F : Int → Option Den}
theorem ClS.nx {M' : mMem} (h : ClS laws tp len li M0 T c v t s F q m M) (hs : 0 ≤ s) (h' : CSt tp len li (tT tp len q) m 0 M') (hf : FrN4 M M') : ClS laws tp len li M0 T c v t s F (tT tp len q) m M' := by
  obtain ⟨h1, h2, h3, h4, h5, h6, h7⟩ := h
  exact ⟨h', by rw [hf _ _ (by omega)]; exact h2, by rw [hf _ _ (by omega), hf _ _ (by omega)]; exact h3, h4.eq (fun k => hf _ _ (by omega)) (fun k _ => hf _ _ (by omega)) (hf _ _ (by omega)) hs, h5.gr (by rw [hf _ _ (by omega)]; exact Int.le_refl _) (fun k _ _ => hf _ _ (by omega)) (fun k _ _ => hf _ _ (by omega)), h6.tr (FrTx.ofN hf), h7⟩
theorem c_nxC (L : Lay S) (h : ClS laws tp len li M0 T c v t s F q m M) (hs : 0 ≤ s) (k : ∀ M', ClS laws tp len li M0 T c v t s F (tT tp len q) m M' → Q none S M') : e_X2_next d S M Q := c_nxS L h.1 (fun M' h' f' => k M' (h.nx hs h' f'))
/-- behind what was read a section ends -/
theorem cl_sec (L : Lay S) (hcb : 0 ≤ c ∧ c < 12) (hs : 0 ≤ s ∧ s ≤ 3) (h : ClS laws tp len li M0 T c v t s F q m M) {M1 : mMem} {r l : Int} {D : Den} (g : Good laws tp len li (M 5 3) m q M r l 0 D M1) (k : ∀ M2, ClS laws tp len li M0 T c v t (s + 1) (fun i => if i = s then some D else F i) r l M2 → Q none S M2) : e_X6_endSection d 5 s S M1 Q := by
  obtain ⟨h1, h2, h3, h4, h5, h6, h7⟩ := h
  obtain ⟨g1, g2, g3, g4, g5, g6, g7⟩ := g
  have n6 : ∀ i, M1 6 i = M 6 i := fun i => g4 _ _ (by omega)
  have lt := g2.lt
  have hm := h1.2.2.2.2.2.2.1
  have hl := g1.2.2.2.2.2.2.1
  have hz := h1.2.2.2.2.1
  refine c_endS L (c := c) (by rw [g4 _ _ (by omega)]; exact h2) hcb (by omega) (fun M2 f2 e2 => k M2 ⟨g1.cg (fun a i q => f2 a i (by omega)), by rw [f2 _ _ (by omega), g4 _ _ (by omega)]; exact h2, by rw [f2 _ _ (by omega), f2 _ _ (by omega), n6, n6]; exact h3, ⟨fun j q0 q1 => ?_, fun j q0 q1 => ?_⟩, h5.gr (by rw [f2 _ _ (by omega)]; omega) (fun k q0 q1 => by rw [f2 _ _ (by omega)]; exact g3 k q0 q1) (fun k q0 q1 => by rw [f2 _ _ (by omega)]; exact n6 k), (h6.tr (FrTx.ofR g4)).tr (fun a i q => f2 a i (by omega)), fun j q0 => ?_⟩)
  · have e53 : M2 5 3 = M1 5 3 := f2 _ _ (by omega)
    have e7 : ∀ k, M2 7 k = M1 7 k := fun k => f2 _ _ (by omega)
    by_cases ej : j = s
    · subst ej
      show SecC laws (M2 7) (M2 5 3) (M2 6 (c * 7 + 2 + j)) (M2 6 (c * 7 + 2 + (j + 1))) (if j = j then some D else F j)
      rw [if_pos rfl, f2 6 (c * 7 + 2 + j) (by omega), n6, h4.2 j (Int.le_refl _) (by omega), e2 (j + 1) (by omega) (by omega), e53]
      exact ⟨hz.1, Int.le_refl _, l - m, by omega, g2.congr (fun k _ _ => e7 k)⟩
    · show SecC laws (M2 7) (M2 5 3) (M2 6 (c * 7 + 2 + j)) (M2 6 (c * 7 + 2 + (j + 1))) (if j = s then some D else F j)
      rw [if_neg ej, f2 6 (c * 7 + 2 + j) (by omega), f2 6 (c * 7 + 2 + (j + 1)) (by omega), n6, n6]
      exact (h4.1 j q0 (by omega)).gr (by omega) (fun k q0 q1 => by rw [e7]; exact g3 k q0 q1)
  · rw [e2 j (by omega) q1]; exact (f2 _ _ (by omega)).symm
  · show (if j = s then some D else F j) = none
    rw [if_neg (by omega)]; exact h7 j (by omega)
theorem c_rep (L : Lay S) (hli : (laws = true ∧ ¬ li = 0) ∨ (laws = false ∧ li = 0)) (hcb : 0 ≤ c ∧ c < 12) (hs : 0 ≤ s) (h : ClS laws tp len li M0 T c v 1 s F q m M) (k1 : ∀ r t M', tmR tp len laws q = .inr (r, t) → (1 ≤ t ∧ t ≤ 20) → ClS laws tp len li M0 T c v t s F r m M' → Q (some (vI 1)) S M') (k0 : ∀ f M', tmR tp len laws q = .inl f → BadT M0 f M' → Q (some (vI 0)) S M') : e_X2_repeated (d + 1) S M Q := by
  have hl2 := h.1.2.1
  refine b_X2_repeated_0 L (fun hl => b_X2_repeated_16 (k1 q 1 M ?_ (by decide) h)) (fun hl => b_X2_repeated_7 L ?_)
  · unfold tmR; rw [if_neg (fun w => by rcases hli with x | x <;> simp_all)]
  · have hlw : laws = false := by rcases hli with x | x <;> simp_all
    refine c_isW L h.1.1 is_113 iw_113.1 iw_113.2 (fun hw => b_X2_repeated_13 (fun _ => b_X2_repeated_18 L (c_nxC L h hs (fun M1 h1 => ?_))) (fun q => absurd q (by decide))) (fun hw => b_X2_repeated_13 (fun q => absurd rfl q) (fun _ => b_X2_repeated_16 (k1 q 1 M ?_ (by decide) h)))
    · have e : tmR tp len laws q = if tS tp len (tT tp len q) = 2 ∧ 1 ≤ tW tp len (tT tp len q) ∧ tW tp len (tT tp len q) ≤ 20 then .inr (tT tp len (tT tp len q), tW tp len (tT tp len q)) else .inl (tF tp len (tT tp len q)) := by unfold tmR; rw [if_pos ⟨hlw, hw⟩]
      have e5 : M1 4 5 = tS tp len (tT tp len q) := h1.1.1.2.2.2.2.2.2.2.1
      have e6 := h1.1.1.2.2.2.2.2.2.2.2
      have bad : ¬ (tS tp len (tT tp len q) = 2 ∧ 1 ≤ tW tp len (tT tp len q) ∧ tW tp len (tT tp len q) ≤ 20) → WP PR (d + 1) 19 47 [vA 4] [] S M1 Q := fun hb =>
        b_X2_repeated_47 L (c_wrong L h1.1 (fun M2 b2 => b_X2_repeated_51 (Or.inl rfl) (k0 _ M2 (by rw [e, if_neg hb]) (BadT.of b2 h1.2.2.2.2.2.1))))
      refine b_X2_repeated_22 L (fun q => bad (by omega)) (fun q2 => ?_)
      have dg := tW_dig h1.1.1.2.2.2.2.1 (by omega)
      have e6' : M1 4 6 = if 1001 < tW tp len (tT tp len q) then 1001 else tW tp len (tT tp len q) := e6.trans dg.2
      refine b_X2_repeated_30 L (fun q => bad (by split at e6' <;> omega)) (fun q3 => b_X2_repeated_38 L (fun q4 => b_X2_repeated_52 L ?_) (fun q => bad (by split at e6' <;> omega)))
      have ew : M1 4 6 = tW tp len (tT tp len q) := by split at e6' <;> omega
      rw [ew] at q3 q4 ⊢
      refine c_repeat L (c := c) h1.2.1 hcb (b_X2_repeated_63 L (c_nxC L (v := v) (t := tW tp len (tT tp len q)) (s := s) (F := F) (T := T) (M0 := M0) (c := c) ?_ hs (fun M2 h2 => b_X2_repeated_67 (k1 _ _ M2 (by rw [e, if_pos ⟨by omega, q3, q4⟩]) ⟨q3, q4⟩ h2))))
      obtain ⟨a1, a2, a3, a4, a5, a6, a7⟩ := h1
      exact ⟨a1.cg (fun a i q => up_na (by omega)), by rw [up_na (by decide)]; exact a2, ⟨by rw [up_ni (by omega)]; exact a3.1, up_s _ _ _ _⟩, a4.eq (fun k => up_na (by decide)) (fun k q => up_ni (by omega)) (up_na (by decide)) hs, a5.gr (by rw [up_na (by decide)]; exact Int.le_refl _) (fun k _ _ => up_na (by decide)) (fun k _ _ => up_ni (by omega)), a6.tr (fun a i q => up_na (by omega)), a7⟩
    · unfold tmR; rw [if_neg (fun w => hw w.2)]
end CL
theorem smN_bad {tp : Int → Int} {len : Int} {laws : Bool} {v p nl f : Int} {s : Nat} (h : smN tp len laws v p nl s = .inl f) : ∀ n : Nat, smN tp len laws v p nl (s + n) = .inl f := by
  intro n
  induction n with
  | zero => exact h
  | succ n ih =>
    show (match smN tp len laws v p nl (s + n) with
      | .inl f => (.inl f : RC)
      | .inr (q, m, F) => match smA tp len laws v (s + n) q m with
        | .inl f => .inl f
        | .inr (r, l, D) => .inr (r, l, fun i => if i = ((s + n : Nat) : Int) then some D else F i)) = _
    rw [ih]
section CM
variable {S : mSh} {M0 : mMem} {Q : Option mV → mSh → mMem → Prop} {tp : Int → Int} {len li c v p1 nl : Int} {laws : Bool} {T : TX}
theorem c_smL (L : Lay S) (hli : (laws = true ∧ ¬ li = 0) ∨ (laws = false ∧ li = 0)) (hcb : 0 ≤ c ∧ c < 12) (hv : 0 ≤ v ∧ v ≤ 6) (hn : nSm v ≤ 3) {D1 : Nat} (hD : 200 ≤ D1)
    (kG : ∀ q m F M', smN tp len laws v p1 nl (nSm v) = .inr (q, m, F) → ClS laws tp len li M0 T c v 1 (nSm v : Int) F q m M' → WP PR (D1 + 1) 15 110 [vA 4, vI v, vI (nSm v : Int)] [] S M' Q)
    (kB : ∀ f M', smN tp len laws v p1 nl (nSm v) = .inl f → BadT M0 f M' → Q (some (vI 0)) S M') : ∀ (k s : Nat), s + k = nSm v → ∀ q m F M, smN tp len laws v p1 nl s = .inr (q, m, F) → ClS laws tp len li M0 T c v 1 (s : Int) F q m M → WP PR (D1 + 1) 15 43 [vA 4, vI v, vI (s : Int)] [] S M Q := by
  intro k
  induction k with
  | zero =>
    intro s hs q m F M e h
    have hs : s = nSm v := by omega
    subst hs
    exact b_X2_clause_43 (c_sums v hv (b_X2_clause_48 (fun _ => kG q m F M e h) (fun q => absurd q (by omega))))
  | succ k ih =>
    intro s hs q m F M e h
    refine b_X2_clause_43 (c_sums v hv (b_X2_clause_48 (fun q => absurd q (by omega)) (fun _ => ?_)))
    have es : smN tp len laws v p1 nl (s + 1) = match smA tp len laws v s q m with
        | .inl f => .inl f
        | .inr (r, l, D) => .inr (r, l, fun i => if i = (s : Int) then some D else F i) := by
      show (match smN tp len laws v p1 nl s with
        | .inl f => (.inl f : RC)
        | .inr (q, m, F) => match smA tp len laws v s q m with
          | .inl f => .inl f
          | .inr (r, l, D) => .inr (r, l, fun i => if i = (s : Int) then some D else F i)) = _
      rw [e]
    have bad : ∀ f M', smA tp len laws v s q m = .inl f → BadT M0 f M' → Q (some (vI 0)) S M' := fun f M' ef b => by
      have e1 : smN tp len laws v p1 nl (s + 1) = .inl f := by rw [es, ef]
      have := smN_bad e1 k
      rw [show s + 1 + k = nSm v by omega] at this
      exact kB f M' this b
    have go : ∀ q1 M1, smA tp len laws v s q m = prs tp len laws FU 4 D0 q1 m 0 → ClS laws tp len li M0 T c v 1 (s : Int) F q1 m M1 → WP PR (D1 + 1) 15 87 [vA 4, vI v, vI (s : Int)] [] S M1 Q := by
      intro q1 M1 e1 h1
      have hq := h1.1.1.2.2.2.1
      have hl := h1.1.1.1.1
      have r := (rd_all (tp := tp) (len := len) L hli FU).2.2.2.2.1
      refine b_X2_clause_87 L (r D1 q1 m 0 M1 _ D0 (by omega) h1.1 (by unfold FU; omega) ⟨fun q2 m2 D M2 eq _ gd => b_X2_clause_91 (fun _ => b_X2_clause_96 L ?_) (fun q => absurd q (by decide)), fun f M2 eq b2 => b_X2_clause_91 (fun q => absurd rfl q) (fun _ => b_X2_clause_94 (bad f M2 (e1.trans eq) (BadT.of b2 h1.2.2.2.2.2.1)))⟩)
      refine cl_sec L hcb (by omega) h1 gd (fun M3 h3 => b_X2_clause_104 (by omega) ?_)
      have := ih (s + 1) (by omega) q2 m2 _ M3 (by rw [es, e1, eq]) (by rw [show ((s + 1 : Nat) : Int) = (s : Int) + 1 by omega]; exact h3)
      rw [show ((s + 1 : Nat) : Int) = (s : Int) + 1 by omega] at this
      exact this
    refine b_X2_clause_51 (fun h0 => go q M ?_ h) (fun h0 => ?_)
    · unfold smA; rw [if_pos (by omega)]
    · have eA : smA tp len laws v s q m = if tS tp len q = 1 ∧ tW tp len q = sWd v s then prs tp len laws FU 4 D0 (tT tp len q) m 0 else .inl (tF tp len q) := by unfold smA; rw [if_neg (by omega)]
      have y1 : tS tp len q = 1 ∧ tW tp len q = sWd v s → WP PR (D1 + 1) 15 75 [vA 4, vI v, vI (s : Int)] [vI 1] S M Q := fun hw =>
        b_X2_clause_75 (fun _ => b_X2_clause_83 L (c_nxC L h (by omega) (fun M1 h1 => go _ M1 (by rw [eA, if_pos hw]) h1))) (fun q => absurd q (by decide))
      have y0 : ¬ (tS tp len q = 1 ∧ tW tp len q = sWd v s) → WP PR (D1 + 1) 15 75 [vA 4, vI v, vI (s : Int)] [vI 0] S M Q := fun hw =>
        b_X2_clause_75 (fun q => absurd rfl q) (fun _ => b_X2_clause_78 L (c_wrong L h.1 (fun M1 b1 => b_X2_clause_82 (Or.inl rfl) (bad _ M1 (by rw [eA, if_neg hw]) (BadT.of b1 h.2.2.2.2.2.1)))))
      have inn : sWd v s = 302 → WP PR (D1 + 1) 15 70 [vA 4, vI v, vI (s : Int)] [vA 4] S M Q := fun ew => by
        rw [ew] at y1 y0
        exact b_X2_clause_70 L (c_isW L h.1.1 is_83 iw_83.1 iw_83.2 y1 y0)
      refine b_X2_clause_55 (fun h1 => inn (by unfold sWd; rw [if_neg (by omega)])) (fun h1 => b_X2_clause_61 (fun h2 => inn (by unfold sWd; rw [if_neg (by omega)])) (fun h2 => ?_))
      rw [show sWd v s = 215533 by unfold sWd; rw [if_pos ⟨by omega, h2⟩]] at y1 y0
      exact b_X2_clause_65 L (c_isW L h.1.1 is_81 iw_81.1 iw_81.2 y1 y0)
end CM
