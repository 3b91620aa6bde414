/-! The reference reads a text: its loops (by wip/whole/gen99g.py). -/
theorem TabM.mvX {M M' : mMem} (h : TabM M) (hf : FrTX M M') : TabM M' := ⟨fun i p q => by rw [hf _ _ (by omega), hf _ _ (by omega)]; exact h.1 i p q, fun i p q => by rw [hf _ _ (by omega)]; exact h.2.1 i p q, fun i p q => by rw [hf _ _ (by omega)]; exact h.2.2 i p q⟩
section OG
variable {d : Nat} {S : mSh} {M : mMem} {Q : Option mV → mSh → mMem → Prop} {tp : Int → Int} {len : Int}
theorem s_readOrders (L : Lay S) (ok : okBy tp len) (ht : ∀ i, 0 ≤ i → i < len → M 209 i = tp i) (hl : M 200 13 = len) (tab : TabM M) (hnn : ∀ f, txR tp len false 12 T0 0 0 = .inl f → 0 ≤ f)
    (kG : ∀ T M', txR tp len false 12 T0 0 0 = .inr T → DrO M' (tn T) T → M' 200 21 = tn T → (0 ≤ M' 200 23 ∧ M' 200 23 ≤ 400) → EndM M (-1) M' → Q none S M')
    (kB : ∀ f M', txR tp len false 12 T0 0 0 = .inl f → 0 ≤ f → EndM M f M' → Q none S M') : e_X9_readOrders (d + 10) S M Q := by
  refine b_X9_readOrders_0 L (s_beginText L (x1 := 1) (by decide) ok ht hl (fun M1 p1 e21 f1 => b_X9_readOrders_5 L ?_))
  have F1 : FrTX M M1 := fun a i q => f1 a i (by omega)
  have hlen := ok.1
  have key : ∀ (k : Nat) (T : TX) (p nl : Int) (M2 : mMem), tn T + k = 12 → 0 ≤ tn T → EPre 1 tp len p nl M2 → TabM M2 → DrO M2 (tn T) T → M2 200 21 = tn T → FrTM M1 M2 → txR tp len false 12 T0 0 0 = txR tp len false k T p nl →
      ∀ Q' : Option mV → mSh → mMem → Prop, (∀ M3, WP PR (d + 10) 220 9 [vA 200] [] S M3 Q → Q' none S M3) → e_X9_readOrder (d + 9) S M2 Q' := by
    intro k
    induction k with
    | zero =>
      intro T p nl M2 hk h0 h tb dr n21 fr e Q' kk
      refine s_readOrder L (by decide) h tb dr n21 ⟨h0, by omega⟩ (fun w => absurd w (by omega)) (fun f M3 w1 w2 b => kk M3 (b_X9_readOrders_9 L (fun _ => b_X9_readOrders_36 L (s_endB L (hnn f ?_) ⟨b.1, fr.tr b.2⟩ (fun M4 e4 => b_X9_readOrders_40 (kB f M4 ?_ (hnn f ?_) ⟨e4.1, e4.2.1, e4.2.2.1, e4.2.2.2.1, F1.tr e4.2.2.2.2⟩)))) (fun w => absurd w (by rw [b.1.1]; decide))))
      all_goals (rw [w1 (by omega)]; exact e)
    | succ k ih =>
      intro T p nl M2 hk h0 h tb dr n21 fr e Q' kk
      have e : txR tp len false 12 T0 0 0 = match clR tp len false p nl with
        | .inl f => .inl f
        | .inr (q, m, v, t, F) => if tS tp len q = 0 then .inr (apT T (kdV false v) t F) else if tS tp len q = 3 ∧ tW tp len q = 59 then txR tp len false k (apT T (kdV false v) t F) (tT tp len q) m else .inl (tF tp len q) := e
      refine s_readOrder L (by decide) h tb dr n21 ⟨h0, by omega⟩ (fun w q m v t F M3 eC p3 d3 n3 f3 => kk M3 ?_) (fun f M3 w1 w2 b => kk M3 (b_X9_readOrders_9 L (fun _ => b_X9_readOrders_36 L (s_endB L (hnn f ?_) ⟨b.1, fr.tr b.2⟩ (fun M4 e4 => b_X9_readOrders_40 (kB f M4 ?_ (hnn f ?_) ⟨e4.1, e4.2.1, e4.2.2.1, e4.2.2.2.1, F1.tr e4.2.2.2.2⟩)))) (fun w => absurd w (by rw [b.1.1]; decide))))
      · rw [eC] at e
        simp only at e
        have n2 : tn (apT T (kdV false v) t F) = tn T + 1 := rfl
        refine b_X9_readOrders_9 L (fun w => absurd p3.2.2.1 w) (fun _ => b_X9_readOrders_16 L (s_isSign L p3.1 (fun hg => b_X9_readOrders_22 (fun w => absurd w (by decide)) (fun _ => b_X9_readOrders_25 L (s_nx L p3.1 (fun M4 r4 f4 => b_X9_readOrders_29 L ?_)))) (fun hg => b_X9_readOrders_22 (fun _ => b_X9_readOrders_36 L ?_) (fun w => absurd rfl w))))
        · rw [if_neg (by omega), if_pos hg] at e
          have n4 : M4 200 23 = M3 200 23 := f4 _ _ (by omega)
          exact ih (apT T (kdV false v) t F) (tT tp len q) m M4 (by omega) (by omega) (p3.nx r4 f4) ((tb.mvT f3).mvT (FrTM.ofT f4)) (d3.gr (by omega) (fun i _ _ => by rw [f4.cd]) (fun i _ _ => f4 _ _ (by omega))) (by rw [f4 _ _ (by omega)]; exact n3) ((fr.tr f3).tr (FrTM.ofT f4)) e _ (fun M5 w5 => b_X9_readOrders_33 w5)
        · by_cases hs : tS tp len q = 0
          · rw [if_pos hs] at e
            have h23 := p3.2.2.2.2.1
            have hq := p3.1.2.2.2.1
            refine s_endG L p3 hs (FrTX.ofM (fr.tr f3)) (fun M4 e4 g4 => b_X9_readOrders_40 (kG _ M4 e (d3.gr (by rw [g4 _ _ (by omega)]; exact Int.le_refl _) (fun i _ _ => cdO_eq (g4 _ _ (by omega)) (g4 _ _ (by omega))) (fun i _ _ => g4 _ _ (by omega))) (by rw [g4 _ _ (by omega)]; exact n3) (by rw [g4 _ _ (by omega)]; omega) ⟨e4.1, e4.2.1, e4.2.2.1, e4.2.2.2.1, F1.tr e4.2.2.2.2⟩))
          · rw [if_neg hs, if_neg hg] at e
            exact s_endX L p3 hs (fr.tr f3) (fun M4 e4 => b_X9_readOrders_40 (kB _ M4 e (hnn _ e) ⟨e4.1, e4.2.1, e4.2.2.1, e4.2.2.2.1, F1.tr e4.2.2.2.2⟩))
      all_goals (rw [w2 (by omega)] at e; exact e)
  exact key 12 T0 0 0 M1 rfl (Int.le_refl _) p1 (tab.mvX F1) (fun i q0 q1 => absurd q1 (by show ¬ i < 0; omega)) e21 (fun _ _ _ => rfl) rfl _ (fun M3 w => w)

theorem s_lawText (L : Lay S) (ok : okBy tp len) (ht : ∀ i, 0 ≤ i → i < len → M 209 i = tp i) (hl : M 200 13 = len) (tab : TabM M) (hnn : ∀ f, txR tp len true 12 T0 0 0 = .inl f → 0 ≤ f)
    (kG : ∀ T M', txR tp len true 12 T0 0 0 = .inr T → DrL M' (tn T) T → M' 200 21 = tn T → (0 ≤ M' 200 23 ∧ M' 200 23 ≤ 400) → EndM M (-1) M' → WP PR (d + 10) 189 68 [vA 200, vU, vU] [] S M' Q)
    (kB : ∀ f M', txR tp len true 12 T0 0 0 = .inl f → 0 ≤ f → EndM M f M' → WP PR (d + 10) 189 68 [vA 200, vU, vU] [] S M' Q) : WP PR (d + 10) 189 28 [vA 200, vU, vU] [] S M Q := by
  refine b_X9_law_28 L (s_beginText L (x1 := 0) (by decide) ok ht hl (fun M1 p1 e21 f1 => b_X9_law_33 L ?_))
  have F1 : FrTX M M1 := fun a i q => f1 a i (by omega)
  have hlen := ok.1
  have key : ∀ (k : Nat) (T : TX) (p nl : Int) (M2 : mMem), tn T + k = 12 → 0 ≤ tn T → EPre 0 tp len p nl M2 → TabM M2 → DrL M2 (tn T) T → M2 200 21 = tn T → FrTM M1 M2 → txR tp len true 12 T0 0 0 = txR tp len true k T p nl →
      ∀ Q' : Option mV → mSh → mMem → Prop, (∀ M3, WP PR (d + 10) 189 37 [vA 200, vU, vU] [] S M3 Q → Q' none S M3) → e_X9_readLaw (d + 9) S M2 Q' := by
    intro k
    induction k with
    | zero =>
      intro T p nl M2 hk h0 h tb dr n21 fr e Q' kk
      refine s_readLaw L  h tb dr n21 ⟨h0, by omega⟩ (fun w => absurd w (by omega)) (fun f M3 w1 w2 b => kk M3 (b_X9_law_37 L (fun _ => b_X9_law_64 L (s_endB L (hnn f ?_) ⟨b.1, fr.tr b.2⟩ (fun M4 e4 => (kB f M4 ?_ (hnn f ?_) ⟨e4.1, e4.2.1, e4.2.2.1, e4.2.2.2.1, F1.tr e4.2.2.2.2⟩)))) (fun w => absurd w (by rw [b.1.1]; decide))))
      all_goals (rw [w1 (by omega)]; exact e)
    | succ k ih =>
      intro T p nl M2 hk h0 h tb dr n21 fr e Q' kk
      have e : txR tp len true 12 T0 0 0 = match clR tp len true p nl with
        | .inl f => .inl f
        | .inr (q, m, v, t, F) => if tS tp len q = 0 then .inr (apT T (kdV true v) t F) else if tS tp len q = 3 ∧ tW tp len q = 59 then txR tp len true k (apT T (kdV true v) t F) (tT tp len q) m else .inl (tF tp len q) := e
      refine s_readLaw L  h tb dr n21 ⟨h0, by omega⟩ (fun w q m v t F M3 eC p3 d3 n3 f3 => kk M3 ?_) (fun f M3 w1 w2 b => kk M3 (b_X9_law_37 L (fun _ => b_X9_law_64 L (s_endB L (hnn f ?_) ⟨b.1, fr.tr b.2⟩ (fun M4 e4 => (kB f M4 ?_ (hnn f ?_) ⟨e4.1, e4.2.1, e4.2.2.1, e4.2.2.2.1, F1.tr e4.2.2.2.2⟩)))) (fun w => absurd w (by rw [b.1.1]; decide))))
      · rw [eC] at e
        simp only at e
        have n2 : tn (apT T (kdV true v) t F) = tn T + 1 := rfl
        refine b_X9_law_37 L (fun w => absurd p3.2.2.1 w) (fun _ => b_X9_law_44 L (s_isSign L p3.1 (fun hg => b_X9_law_50 (fun w => absurd w (by decide)) (fun _ => b_X9_law_53 L (s_nx L p3.1 (fun M4 r4 f4 => b_X9_law_57 L ?_)))) (fun hg => b_X9_law_50 (fun _ => b_X9_law_64 L ?_) (fun w => absurd rfl w))))
        · rw [if_neg (by omega), if_pos hg] at e
          have n4 : M4 200 23 = M3 200 23 := f4 _ _ (by omega)
          exact ih (apT T (kdV true v) t F) (tT tp len q) m M4 (by omega) (by omega) (p3.nx r4 f4) ((tb.mvT f3).mvT (FrTM.ofT f4)) (d3.gr (by omega) (fun i _ _ => by rw [f4.cd]) (fun i _ _ => f4 _ _ (by omega))) (by rw [f4 _ _ (by omega)]; exact n3) ((fr.tr f3).tr (FrTM.ofT f4)) e _ (fun M5 w5 => b_X9_law_61 w5)
        · by_cases hs : tS tp len q = 0
          · rw [if_pos hs] at e
            have h23 := p3.2.2.2.2.1
            have hq := p3.1.2.2.2.1
            refine s_endG L p3 hs (FrTX.ofM (fr.tr f3)) (fun M4 e4 g4 => (kG _ M4 e (d3.gr (by rw [g4 _ _ (by omega)]; exact Int.le_refl _) (fun i _ _ => cdO_eq (g4 _ _ (by omega)) (g4 _ _ (by omega))) (fun i _ _ => g4 _ _ (by omega))) (by rw [g4 _ _ (by omega)]; exact n3) (by rw [g4 _ _ (by omega)]; omega) ⟨e4.1, e4.2.1, e4.2.2.1, e4.2.2.2.1, F1.tr e4.2.2.2.2⟩))
          · rw [if_neg hs, if_neg hg] at e
            exact s_endX L p3 hs (fr.tr f3) (fun M4 e4 => (kB _ M4 e (hnn _ e) ⟨e4.1, e4.2.1, e4.2.2.1, e4.2.2.2.1, F1.tr e4.2.2.2.2⟩))
      all_goals (rw [w2 (by omega)] at e; exact e)
  exact key 12 T0 0 0 M1 rfl (Int.le_refl _) p1 (tab.mvX F1) (fun i q0 q1 => absurd q1 (by show ¬ i < 0; omega)) e21 (fun _ _ _ => rfl) rfl _ (fun M3 w => w)

end OG
