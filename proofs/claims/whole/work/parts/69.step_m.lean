/-! The reference's sums and tests of orders. -/
def cdO (M : mMem) : Int → Int × Int := fun k => (M 211 k, M 212 k)
def OrdM (no : Int → Int) (cd : Int → Int × Int) (T : TX) : Prop := okTO T ∧ ∀ i, 0 ≤ i → i < tn T → no (10 * i) = tk T i ∧ no (10 * i + 9) = tt T i ∧ SecM cd (no (10 * i + 1)) (no (10 * i + 1 + 1)) (ts T i 0) ∧ SecM cd (no (10 * i + 7)) (no (10 * i + 8)) (ts T i 3) ∧
  SecM cd (no (10 * i + 3)) (no (10 * i + 3 + 1)) (if tk T i = 0 then none else ts T i 1) ∧ SecM cd (no (10 * i + 5)) (no (10 * i + 5 + 1)) (if tk T i = 0 then ts T i 1 else ts T i 2)
/-- the reference within a text of orders or a plan -/
def MS (M : mMem) (TL T : TX) (σ : ST) : Prop := M 202 = gS σ ∧ ForM (gS σ) TL ∧ OrdM (M 223) (cdO M) T ∧ M 200 21 = tn T ∧ M 200 46 = dnS σ ∧ M 200 47 = ltS σ ∧ M 200 42 = ylS σ ∧ M 200 43 = mnS σ ∧ M 200 20 = 0 ∧ okST σ
/-- cells that a sum writes; that a test writes -/
def FrO (M M' : mMem) : Prop := ∀ a i, ¬ (a = 220 ∨ (a = 200 ∧ (i = 38 ∨ i = 39 ∨ i = 49))) → M' a i = M a i
def FrN (M M' : mMem) : Prop := ∀ a i, ¬ (a = 220 ∨ a = 219 ∨ (a = 200 ∧ (i = 38 ∨ i = 39 ∨ i = 49))) → M' a i = M a i
theorem FrO.tr {M M' M'' : mMem} (h : FrO M M') (h' : FrO M' M'') : FrO M M'' := fun a i q => (h' a i q).trans (h a i q)
theorem FrN.ofO {M M' : mMem} (h : FrO M M') : FrN M M' := fun a i q => h a i (by omega)
theorem FrN.tr {M M' M'' : mMem} (h : FrN M M') (h' : FrN M' M'') : FrN M M'' := fun a i q => (h' a i q).trans (h a i q)
theorem FrN.row {M M' : mMem} (h : FrN M M') : M' 202 = M 202 := funext fun i => h 202 i (by omega)
def NowM (w : Env) (M : mMem) : Prop := ∀ op a, 1 ≤ op → op ≤ 4 → M 219 op = w op a
section MS
variable {d : Nat} {S : mSh} {M : mMem} {Q : Option mV → mSh → mMem → Prop} {TL T : TX} {σ : ST}
theorem MS.mv {M' : mMem} (h : MS M TL T σ) (hf : FrN M M') : MS M' TL T σ := by
  obtain ⟨h1, h2, h3, h4, h5, h6, h7, h8, h9, h10⟩ := h
  have e223 : M' 223 = M 223 := funext fun i => hf 223 i (by omega)
  have ecd : cdO M' = cdO M := funext fun k => by unfold cdO; rw [hf 211 k (by omega), hf 212 k (by omega)]
  exact ⟨by rw [hf.row]; exact h1, h2, by rw [e223, ecd]; exact h3, by rw [hf _ _ (by decide)]; exact h4, by rw [hf _ _ (by decide)]; exact h5, by rw [hf _ _ (by decide)]; exact h6, by rw [hf _ _ (by decide)]; exact h7, by rw [hf _ _ (by decide)]; exact h8, by rw [hf _ _ (by decide)]; exact h9, h10⟩
theorem s_sumOf (L : Lay S) (h : MS M TL T σ) (hN : NowM (wS σ) M) (h49 : M 200 49 = 0) {at' : Int} {o : Option Den} (ha : 0 ≤ at' ∧ at' < 119) (hs : SecM (cdO M) (M 223 at') (M 223 (at' + 1)) o)
    (k1 : ∀ M' r, FrO M M' → M' 200 49 = 0 → (o = none ∨ valO o (wS σ) = some r) → (∃ v, valO o (wS σ) = some v) → Q (some (vI r)) S M')
    (k0 : ∀ M' r, FrO M M' → M' 200 49 = 1 → valO o (wS σ) = none → Q (some (vI r)) S M') : e_X9_sumOf (d + 6) at' S M Q := by
  cases o with
  | none =>
    have hs : M 223 at' = M 223 (at' + 1) := hs
    exact b_X9_sumOf_0 L (fun q => absurd h49 q) (fun _ => b_X9_sumOf_7 L (by omega) (fun q => absurd hs q) (fun _ => b_X9_sumOf_24 (k1 M _ (fun _ _ _ => rfl) h49 (Or.inl rfl) ⟨1, rfl⟩)))
  | some D =>
    obtain ⟨a0, a1, p, hp, hseg⟩ := hs
    have hlt := hseg.lt
    refine b_X9_sumOf_0 L (fun q => absurd h49 q) (fun _ => b_X9_sumOf_7 L (by omega) (fun _ => b_X9_sumOf_26 L (by omega) ?_) (fun q => absurd q (by omega)))
    have f0 : ∀ a i, ¬ (a = 200 ∧ i = 20) → up M 200 20 1 a i = M a i := fun a i q => by
      by_cases e : a = 200
      · exact up_ni (by omega)
      · exact up_na e
    have ok := h.2.2.2.2.2.2.2.2.2
    have env : EnvM (wS σ) (up M 200 20 1) := by
      refine Or.inr ⟨by rw [up_s]; decide, fun op a q0 q1 => ?_, ?_, fun op c q0 q1 q2 q3 => ?_⟩
      · rw [f0 _ _ (by omega)]; exact hN op a q0 q1
      · have e : up M 200 20 1 202 = M 202 := funext fun i => f0 _ _ (by omega)
        rw [e, h.1]; exact ok.1
      · have e : up M 200 20 1 202 = M 202 := funext fun i => f0 _ _ (by omega)
        rw [e, h.1]
        unfold wS wO
        rw [if_neg (by omega), if_neg (by omega), if_neg (by omega), if_neg (by omega)]
    have ecd : cdM (up M 200 20 1) = cdO M := by
      funext k; unfold cdM cdO
      rw [if_neg (by rw [up_s]; decide), f0 _ _ (by omega), f0 _ _ (by omega)]
    have hseg' := hseg
    rw [← ecd] at hseg'
    have hbd := (s_seg (d := 0) (S := S) (Q := fun _ _ _ => True) L (wS_bd ok) env (x1 := 0) (l := 0) (by decide) hseg').2.2.1
    refine s_reckonAll L (wS_bd ok) env hseg' a0 a1 (by omega) (fun M2 f2 g2 n2 => ?_)
    have fr : ∀ v, FrO M (up (up M2 200 20 0) 200 49 v) := fun v a i q => by
      by_cases e : a = 200
      · rw [up_ni (by omega)]
        by_cases e20 : i = 20
        · rw [e, e20, up_s, h.2.2.2.2.2.2.2.2.1]
        · rw [up_ni e20, f2 a i (by omega), f0 _ _ (by omega)]
      · rw [up_na e, up_na e, f2 a i (by omega), f0 _ _ (by omega)]
    cases hv : D (wS σ) with
    | none =>
      have e38 := n2 hv
      refine b_X9_sumOf_49 L (by omega) (k0 _ _ (fr _) ?_ hv)
      rw [up_s, e38]
    | some v =>
      have e38 := g2 v hv
      have hb := hbd v hv
      refine b_X9_sumOf_49 L (by omega) ?_
      rw [e38.2, w32_id (by omega)]
      refine k1 _ _ (fr _) ?_ (Or.inr hv) ⟨v, hv⟩
      rw [up_s, e38.1]
theorem s_sumOff (L : Lay S) (h49 : ¬ M 200 49 = 0) {at' : Int} (k : Q (some (vI (-1))) S M) : e_X9_sumOf d at' S M Q := b_X9_sumOf_0 L (fun _ => b_X9_sumOf_24 k) (fun q => absurd q h49)
theorem s_isAsked (L : Lay S) (h : MS M TL T σ) {i : Int} (hi : 0 ≤ i ∧ i < tn T)
    (k1 : ∀ M', FrN M M' → NowM (wS σ) M' → M' 200 49 = 0 → tstO (ts T i 3) (wS σ) = true → Q (some (vI 1)) S M')
    (k0 : ∀ M', FrN M M' → ¬ tstO (ts T i 3) (wS σ) = true → Q (some (vI 0)) S M') : e_X9_isAsked (d + 7) (10 * i) S M Q := by
  obtain ⟨h1, h2, ⟨hO, hO2⟩, h4, h5, h6, h7, h8, h9, h10⟩ := id h
  obtain ⟨-, -, -, o3, -⟩ := hO2 i hi.1 hi.2
  have n12 := hO.1.2.1
  have hB := hO.1.2.2 i hi.1 hi.2
  refine b_X9_isAsked_0 L (b_X9_setNow_0 L ?_)
  generalize hM1 : up (up (up (up (up M 219 1 (M 202 5)) 219 2 (M 200 46)) 219 3 (M 200 47)) 219 4 (M 202 9)) 200 49 0 = M1
  have f1 : FrN M M1 := fun a i q => by
    rw [← hM1]
    by_cases e : a = 200
    · rw [up_ni (by omega), up_na (by omega), up_na (by omega), up_na (by omega), up_na (by omega)]
    · rw [up_na e, up_na (by omega), up_na (by omega), up_na (by omega), up_na (by omega)]
  have g1 : M1 200 49 = 0 := by rw [← hM1]; exact up_s _ _ _ _
  have nw : NowM (wS σ) M1 := by
    intro op a q0 q1
    have q4 : op = 1 ∨ op = 2 ∨ op = 3 ∨ op = 4 := by omega
    rw [← hM1, up_na (by decide)]
    rcases q4 with rfl | rfl | rfl | rfl
    · rw [up_ni (by decide), up_ni (by decide), up_ni (by decide), up_s, h1]; rfl
    · rw [up_ni (by decide), up_ni (by decide), up_s, h5]; rfl
    · rw [up_ni (by decide), up_s, h6]; rfl
    · rw [up_s, h1]; rfl
  have w1 := h.mv f1
  have e223 : M1 223 = M 223 := funext fun i => f1 223 i (by omega)
  have ecd : cdO M1 = cdO M := funext fun k => by unfold cdO; rw [f1 211 k (by omega), f1 212 k (by omega)]
  show WP PR (d + 7) 226 4 [vA 200, vI (10 * i), vU, vU] [] S M1 Q
  cases ho : ts T i 3 with
  | none =>
    rw [ho] at o3 k1
    have o3 : M 223 (10 * i + 7) = M 223 (10 * i + 8) := o3
    exact b_X9_isAsked_4 L (by omega) (fun q => absurd (by rw [e223]; exact o3) q) (fun _ => b_X9_isAsked_25 (k1 M1 f1 nw g1 rfl))
  | some D =>
    rw [ho] at o3 k1 k0
    have hlt : M 223 (10 * i + 7) < M 223 (10 * i + 8) := by obtain ⟨-, -, p, -, hs⟩ := o3; exact hs.lt.1
    refine b_X9_isAsked_4 L (by omega) (fun _ => b_X9_isAsked_27 L (by omega) ?_) (fun q => absurd q (by rw [e223]; omega))
    have o3' : SecM (cdO M1) (M1 223 (10 * i + 7)) (M1 223 (10 * i + 7 + 1)) (some D) := by
      rw [ecd, e223, show 10 * i + 7 + 1 = 10 * i + 8 by omega]; exact o3
    have fz : ∀ M2, FrO M1 M2 → FrN M (up M2 200 49 0) := fun M2 f2 a i q => by
      by_cases e : a = 200
      · rw [up_ni (by omega), f2 a i (by omega)]; exact f1 a i q
      · rw [up_na e, f2 a i (by omega)]; exact f1 a i q
    refine s_sumOf L w1 nw g1 (by omega) o3' (fun M2 r f2 g2 hr hv => ?_) (fun M2 r f2 g2 hv => ?_)
    · have hr : D (wS σ) = some r := by
        rcases hr with hr | hr
        · cases hr
        · exact hr
      have hb := hB D ho (wS σ) r hr
      refine b_X9_isAsked_35 L (fun q => absurd g2 q) (fun _ => b_X9_isAsked_43 (fun hz => b_X9_isAsked_51 L (k0 _ (fz M2 f2) ?_)) (fun hz => b_X9_isAsked_47 L (k1 _ (fz M2 f2) ?_ (up_s _ _ _ _) ?_)))
      · rw [hz] at hr; simp [tstO, hr]
      · intro op a q0 q1; rw [up_na (by decide), f2 219 op (by omega)]; exact nw op a q0 q1
      · have : r = 1 := by omega
        rw [this] at hr; simp [tstO, hr]
    · have hv : D (wS σ) = none := hv
      exact b_X9_isAsked_35 L (fun _ => b_X9_isAsked_51 L (k0 _ (fz M2 f2) (by simp [tstO, hv]))) (fun q => absurd q (by omega))
end MS
