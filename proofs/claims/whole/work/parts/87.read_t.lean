/-! The class reads a text: the whole. -/
def T0 : TX := (0, fun _ => 0, fun _ => 0, fun _ _ => none)
def okTT (laws : Bool) (T : TX) : Prop := ∀ i, 0 ≤ i → i < tn T → okCl laws (if laws = true then tk T i + 4 else tk T i) (tt T i) (ts T i)
theorem okTT.ap {laws : Bool} {T : TX} {v t : Int} {F : Int → Option Den} (h : okTT laws T) (hc : okCl laws v t F) : okTT laws (apT T (kdV laws v) t F) := fun i q0 q1 => by
  have q1 : i < tn T + 1 := q1
  show okCl laws (if laws = true then (if i = tn T then kdV laws v else tk T i) + 4 else (if i = tn T then kdV laws v else tk T i)) (if i = tn T then t else tt T i) (if i = tn T then F else ts T i)
  by_cases ei : i = tn T
  · rw [if_pos ei, if_pos ei, if_pos ei]
    rw [show (if laws = true then kdV laws v + 4 else kdV laws v) = v by unfold kdV; split <;> omega]
    exact hc
  · rw [if_neg ei, if_neg ei, if_neg ei]; exact h i q0 (by omega)
theorem okTT.tx {laws : Bool} {T : TX} (h : okTT laws T) (h0 : 0 ≤ tn T ∧ tn T ≤ 12) : okTx T := ⟨h0.1, h0.2, fun i q0 q1 D e => (h i q0 q1).2.2.1 D e⟩
theorem okTT.tl {T : TX} (h : okTT true T) (h0 : 0 ≤ tn T ∧ tn T ≤ 12) : okTL T := ⟨h.tx h0, fun i q0 q1 => by
  obtain ⟨a, -, -, b⟩ := h i q0 q1
  rw [if_pos rfl] at a b
  have a : 4 ≤ tk T i + 4 ∧ tk T i + 4 ≤ 6 := by rcases a with x | x; exact x.2; exact absurd x.1 (by decide)
  have := b 0 (by decide) (by decide)
  refine ⟨by omega, by omega, ?_⟩
  rw [this]; unfold nSm
  rw [if_neg (by omega), if_neg (by omega)]
  split <;> omega⟩
theorem okTT.to {T : TX} (h : okTT false T) (h0 : 0 ≤ tn T ∧ tn T ≤ 12) : okTO T := ⟨h.tx h0, fun i q0 q1 => by
  obtain ⟨a, a2, -, b⟩ := h i q0 q1
  rw [if_neg (by decide)] at a b
  have a : 0 ≤ tk T i ∧ tk T i ≤ 3 := by rcases a with x | x; exact absurd x.1 (by decide); exact x.2
  have b0 := b 0 (by decide) (by decide)
  have b1 := b 1 (by decide) (by decide)
  have b2 := b 2 (by decide) (by decide)
  rw [b0, b1, b2]; unfold nSm
  refine ⟨a, a2, ?_, ?_, ?_⟩ <;> (split <;> (try split) <;> (try split) <;> omega)⟩
section CR
variable {S : mSh} {M : mMem} {Q : Option mV → mSh → mMem → Prop} {tp : Int → Int} {len x1 : Int} {laws : Bool}
theorem c_read (L : Lay S) (hx : (laws = true ∧ x1 = 1) ∨ (laws = false ∧ x1 = 0)) {D1 : Nat} (hD : 201 ≤ D1) (ok : okBy tp len) (ht : ∀ i, 0 ≤ i → i < len → M 3 i = tp i) (hl : M 2 1 = len) (ho : StOK M)
    (kG : ∀ T M', txR tp len laws 12 T0 0 0 = .inr T → (0 ≤ tn T ∧ tn T ≤ 12) → okTT laws T → TextC laws S M' 5 T → FrTx M M' → StOK M' → Q (some (vI (-1))) S M')
    (kB : ∀ f M', txR tp len laws 12 T0 0 0 = .inl f → 0 ≤ f → FrTx M M' → StOK M' → Q (some (vI f)) S M') : e_X2_read (D1 + 1) x1 S M Q := by
  have hli : (laws = true ∧ ¬ x1 = 0) ∨ (laws = false ∧ x1 = 0) := by rcases hx with x | x; exact Or.inl ⟨x.1, by omega⟩; exact Or.inr x
  have l6 : sL S (5 + 1) = 84 := ll6 L
  have l7 : sL S (5 + 2) = 400 := ll7 L
  obtain ⟨D2, rfl⟩ : ∃ D2, D1 = D2 + 1 := ⟨D1 - 1, by omega⟩
  have key : ∀ (k : Nat) (T : TX) (p nl : Int) (M1 : mMem), tn T + k = 12 → 0 ≤ tn T → TxS laws tp len x1 T p nl M1 → okTT laws T → FrTx M M1 → txR tp len laws 12 T0 0 0 = txR tp len laws k T p nl → WP PR (D2 + 1 + 1) 14 38 [vA 4, vI x1, vI (tn T)] [] S M1 Q := by
    intro k
    induction k with
    | zero =>
      intro T p nl M1 hk h0 h okT f1 e
      have eF : M1 4 3 = tF tp len p := h.1.1.2.2.2.2.2.1
      have bd := h.1.1.2.2.2.2.1.bd
      have hp := h.1.1.2.2.2.1
      refine b_X2_read_38 (fun _ => b_X2_read_89 L ?_) (fun q => absurd q (by omega))
      rw [eF]
      exact kB _ M1 e (by omega) f1 h.1.2.2.2.2.2.1
    | succ k ih =>
      intro T p nl M1 hk h0 h okT f1 e
      have e : txR tp len laws 12 T0 0 0 = match clR tp len laws p nl with
        | .inl f => .inl f
        | .inr (q, m, v, t, F) => if tS tp len q = 0 then .inr (apT T (kdV laws v) t F) else if tS tp len q = 3 ∧ tW tp len q = 59 then txR tp len laws k (apT T (kdV laws v) t F) (tT tp len q) m else .inl (tF tp len q) := e
      refine b_X2_read_38 (fun q => absurd q (by omega)) (fun _ => b_X2_read_44 L (c_clause L hli rfl (by omega) (by omega) h (fun q m v t F M2 eC okC h2 f2 => b_X2_read_48 (fun _ => ?_) (fun q => absurd q (by decide))) (fun f M2 eC b2 => b_X2_read_48 (fun q => absurd rfl q) (fun _ => b_X2_read_51 L ?_))))
      · rw [eC] at e
        simp only at e
        have okN := okT.ap okC
        have eF : M2 4 3 = tF tp len q := h2.1.1.2.2.2.2.2.1
        have eS : M2 4 5 = tS tp len q := h2.1.1.2.2.2.2.2.2.2.1
        have bd := h2.1.1.2.2.2.2.1.bd
        have hq := h2.1.1.2.2.2.1
        have hlen := ok.1
        have hz := h2.1.2.2.2.2.1
        have n2 : tn (apT T (kdV laws v) t F) = tn T + 1 := rfl
        refine b_X2_read_56 L (fun hne => b_X2_read_65 L ?_) (fun he => b_X2_read_63 ?_)
        · rw [if_neg (by omega)] at e
          refine c_isG L h2.1.1 is_54 ig_54.1 ig_54.2.1 ig_54.2.2 (fun hg => b_X2_read_71 (fun _ => b_X2_read_79 L (c_nxS L h2.1 (fun M3 h3 f3 => b_X2_read_83 (by omega) ?_))) (fun q => absurd q (by decide))) (fun hg => b_X2_read_71 (fun q => absurd rfl q) (fun _ => b_X2_read_74 L ?_))
          · rw [if_pos hg] at e
            refine ih (apT T (kdV laws v) t F) (tT tp len q) m M3 (by omega) (by omega) ⟨h3, by rw [f3 _ _ (by omega)]; exact h2.2.1, h2.2.2.gr (by rw [f3 _ _ (by omega)]; exact Int.le_refl _) (fun k _ _ => f3 _ _ (by omega)) (fun k _ _ => f3 _ _ (by omega))⟩ okN ((f1.tr f2).tr (FrTx.ofN f3)) e
          · rw [if_neg hg] at e
            rw [eF]
            exact kB _ M2 e (by omega) (f1.tr f2) h2.1.2.2.2.2.2.1
        · rw [if_pos (by omega)] at e
          exact kG _ M2 e (by omega) okN ⟨lTxt5 L, by decide, okN.tx (by omega), h2.2.1, ⟨hz.1, by omega, by omega⟩, by omega, h2.2.2⟩ (f1.tr f2) h2.1.2.2.2.2.2.1
      · rw [b2.1.1]
        rw [eC] at e
        exact kB f M2 e b2.1.2 (f1.tr b2.2.1) b2.2.2
  refine b_X2_read_0 L (by omega) (b_X6_clear_0 (lTxt5 L) (b_X2_read_12 L ?_))
  refine c_next L (tp := tp) (len := len) (p := 0) ok (fun i q0 q1 => by simp only [up]; simp; exact ht i q0 q1) (by simp only [up]; simp; exact hl) (by simp only [up]; simp) (by have := ok.1; omega) (fun M1 f ee kk it e3 e4 e5 e6 f1 => b_X2_read_36 ?_)
  obtain ⟨i1, i2, i3, i4⟩ := isTk.of it
  have g1 : ∀ a i, ¬ ((a = 4 ∧ 2 ≤ i ∧ i ≤ 9) ∨ (a = 5 ∧ (i = 2 ∨ i = 3))) → M1 a i = M a i := fun a i q => by
    rw [f1 a i (by omega)]
    by_cases ea : a = 4
    · subst ea
      rw [up_ni (by omega), up_ni (by omega), up_ni (by omega), up_ni (by omega), up_na (by decide), up_na (by decide), up_ni (by omega)]
    · rw [up_na ea, up_na ea, up_na ea, up_na ea]
      by_cases e5 : a = 5
      · subst e5
        rw [up_ni (by omega), up_ni (by omega), up_na (by decide)]
      · rw [up_na e5, up_na e5, up_na ea]
  have m42 : M1 4 2 = x1 := by rw [f1 _ _ (by omega)]; simp [up]
  have m47 : M1 4 7 = 0 := by rw [f1 _ _ (by omega)]; simp [up]
  have m48 : M1 4 8 = 0 := by rw [f1 _ _ (by omega)]; simp [up]
  have m52 : M1 5 2 = 0 := by rw [f1 _ _ (by omega)]; simp [up]
  have m53 : M1 5 3 = 0 := by rw [f1 _ _ (by omega)]; simp [up]
  have hlen := ok.1
  refine key 12 T0 0 0 M1 rfl (Int.le_refl _) ⟨⟨⟨ok, fun i q0 q1 => by rw [g1 _ _ (by omega)]; exact ht i q0 q1, by rw [g1 _ _ (by omega)]; exact hl, by omega, i1, by rw [i2]; exact e3, by rw [i3]; exact e4, by rw [i4]; exact e5, by rw [i2, i3, i4]; exact e6⟩, m42, m47, m48, by omega, fun k q0 q1 => by rw [g1 _ _ (by omega)]; exact ho k q0 q1, by decide, by decide⟩, m52, fun i q0 q1 => absurd q1 (by show ¬ i < 0; omega)⟩ (fun i q0 q1 => absurd q1 (by show ¬ i < 0; omega)) (fun a i q => g1 a i (by omega)) rfl
end CR
