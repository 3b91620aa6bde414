/-! The reference reads a law's clause. -/
def FrTM (M M' : mMem) : Prop := ∀ a i, ¬ ((a = 200 ∧ ((14 ≤ i ∧ i ≤ 19) ∨ i = 21 ∨ i = 23 ∨ i = 26 ∨ i = 29 ∨ i = 30)) ∨ (210 ≤ a ∧ a ≤ 214) ∨ a = 223) → M' a i = M a i
theorem FrTM.ofP {M M' : mMem} (h : FrPs M M') : FrTM M M' := fun a i q => h a i (by omega)
theorem FrTM.ofT {M M' : mMem} (h : FrT4 M M') : FrTM M M' := fun a i q => h a i (by omega)
theorem FrTM.tr {M M' M'' : mMem} (h : FrTM M M') (h' : FrTM M' M'') : FrTM M M'' := fun a i q => (h' a i q).trans (h a i q)
theorem TabM.mvT {M M' : mMem} (h : TabM M) (hf : FrTM M M') : TabM M' := ⟨fun i p q => by rw [hf _ _ (by omega), hf _ _ (by omega)]; exact h.1 i p q, fun i p q => by rw [hf _ _ (by omega)]; exact h.2.1 i p q, fun i p q => by rw [hf _ _ (by omega)]; exact h.2.2 i p q⟩
def SecN (cd : Int → Int × Int) (n i j : Int) (o : Option Den) : Prop := match o with
  | none => i = j
  | some D => 0 ≤ i ∧ j ≤ n ∧ ∃ p, p ≤ 50 ∧ SegM cd i j p D
theorem SecN.gr {cd cd' : Int → Int × Int} {n n' i j : Int} {o : Option Den} (h : SecN cd n i j o) (hn : n ≤ n') (he : ∀ k, 0 ≤ k → k < n → cd' k = cd k) : SecN cd' n' i j o := by
  cases o with
  | none => exact h
  | some D =>
    obtain ⟨a, b, p, hp, g⟩ := h
    exact ⟨a, by omega, p, hp, g.congr (fun k q0 q1 => he k (by omega) (by omega))⟩
theorem SecN.m {cd : Int → Int × Int} {n i j : Int} {o : Option Den} (h : SecN cd n i j o) (hn : n ≤ 400) : SecM cd i j o := by
  cases o with
  | none => exact h
  | some D =>
    obtain ⟨a, b, g⟩ := h
    exact ⟨a, by omega, g⟩
def DrL (M : mMem) (n : Int) (T : TX) : Prop := ∀ i, 0 ≤ i → i < n → M 210 (8 * i) = tk T i ∧ SecN (cdO M) (M 200 23) (M 210 (8 * i + 3)) (M 210 (8 * i + 4)) (ts T i 0) ∧ SecN (cdO M) (M 200 23) (M 210 (8 * i + 5)) (M 210 (8 * i + 6)) (ts T i 3)
theorem DrL.gr {M M' : mMem} {n : Int} {T : TX} (h : DrL M n T) (hn : M 200 23 ≤ M' 200 23) (he : ∀ k, 0 ≤ k → k < M 200 23 → cdO M' k = cdO M k) (h2 : ∀ k, 0 ≤ k → k < 8 * n → M' 210 k = M 210 k) : DrL M' n T := fun i p0 p1 => by
  obtain ⟨a, b, c⟩ := h i p0 p1
  rw [h2 _ (by omega) (by omega), h2 _ (by omega) (by omega), h2 _ (by omega) (by omega), h2 _ (by omega) (by omega), h2 _ (by omega) (by omega)]
  exact ⟨a, b.gr hn he, c.gr hn he⟩
def BadR (M0 : mMem) (f : Int) (M : mMem) : Prop := (M 200 19 = 1 ∧ M 200 18 = f) ∧ FrTM M0 M
theorem EPre.cg {lf : Int} {tp : Int → Int} {len p nl : Int} {M M' : mMem} (h : EPre lf tp len p nl M) (hf : ∀ a i, ¬ ((a = 200 ∧ i = 21) ∨ (210 ≤ a ∧ a ≤ 214) ∨ a = 223) → M' a i = M a i) : EPre lf tp len p nl M' := by
  obtain ⟨h1, h2, h3, h4, h5, h6⟩ := h
  exact ⟨h1.congr (fun a i q => hf a i (by omega)), by rw [hf _ _ (by omega)]; exact h2, by rw [hf _ _ (by omega)]; exact h3, by rw [hf _ _ (by omega)]; exact h4, by rw [hf _ _ (by omega)]; exact h5, h6⟩
theorem EPre.nx {lf : Int} {tp : Int → Int} {len p nl : Int} {M M' : mMem} (h : EPre lf tp len p nl M) (h' : RdM tp len (tT tp len p) M') (hf : FrT4 M M') : EPre lf tp len (tT tp len p) nl M' := by
  obtain ⟨h1, h2, h3, h4, h5, h6⟩ := h
  have b := h1.2.2.2.2.1.bd
  exact ⟨h', by rw [hf _ _ (by omega)]; exact h2, by rw [hf _ _ (by omega)]; exact h3, by rw [hf _ _ (by omega)]; exact h4, by rw [hf _ _ (by omega)]; omega, h6⟩
section RZ
variable {d : Nat} {S : mSh} {M : mMem} {Q : Option mV → mSh → mMem → Prop} {tp : Int → Int} {len p nl : Int} {T : TX}
/-- behind a law's sum: its test -/
theorem s_lawIf (L : Lay S) {M0 : mMem} {x1 x3 c q m : Int} {o : Option Den} (hc : 0 ≤ c ∧ c < 12) (h : EPre 0 tp len q m M) (ht : TabM M) (hT : DrL M c T) (hv : M 210 (8 * c) = x1) (ho : SecN (cdO M) (M 200 23) (M 210 (8 * c + 3)) (M 200 23) o) (h21 : M 200 21 = c + 1) (hfr : FrTM M0 M)
    (kG : ∀ z l o' M', ifR tp len true q m = .inr (z, l, o') → (∀ D, o' = some D → isB D) → EPre 0 tp len z l M' → DrL M' c T → M' 210 (8 * c) = x1 → SecN (cdO M') (M' 200 23) (M' 210 (8 * c + 3)) (M' 210 (8 * c + 4)) o → SecN (cdO M') (M' 200 23) (M' 210 (8 * c + 5)) (M' 210 (8 * c + 6)) o' → M' 200 21 = c + 1 → FrTM M0 M' → Q none S M')
    (kB : ∀ f M', ifR tp len true q m = .inl f → BadR M0 f M' → Q none S M') : WP PR (d + 7) 188 135 [vA 200, vI x1, vI (8 * c), vI x3] [] S M Q := by
  have hq := h.1.2.2.2.1
  have hl := h.1.1.1
  have h23 := h.2.2.2.2.1
  have f1 : ∀ a i, ¬ (a = 210 ∧ (i = 8 * c + 4 ∨ i = 8 * c + 5)) → up (up M 210 (8 * c + 4) (M 200 23)) 210 (8 * c + 5) (M 200 23) a i = M a i := fun a i w => by
    by_cases ea : a = 210
    · subst ea; rw [up_ni (by omega), up_ni (by omega)]
    · rw [up_na ea, up_na ea]
  have e4 : up (up M 210 (8 * c + 4) (M 200 23)) 210 (8 * c + 5) (M 200 23) 210 (8 * c + 4) = M 200 23 := by rw [up_ni (by omega), up_s]
  have e5 : up (up M 210 (8 * c + 4) (M 200 23)) 210 (8 * c + 5) (M 200 23) 210 (8 * c + 5) = M 200 23 := up_s _ _ _ _
  generalize hM1 : up (up M 210 (8 * c + 4) (M 200 23)) 210 (8 * c + 5) (M 200 23) = M1 at f1 e4 e5
  have c1 : cdO M1 = cdO M := funext fun i => cdO_eq (f1 _ _ (by omega)) (f1 _ _ (by omega))
  have n1 : M1 200 23 = M 200 23 := f1 _ _ (by omega)
  have p1 : EPre 0 tp len q m M1 := h.cg (fun a i w => f1 a i (by omega))
  refine b_X9_readLaw_135 L (by omega) (fun w => absurd h.2.2.1 w) (fun _ => ?_)
  rw [hM1]
  -- the end of it: the place behind the test
  have fin : ∀ z l o' M2, ifR tp len true q m = .inr (z, l, o') → (∀ D, o' = some D → isB D) → EPre 0 tp len z l M2 → FrPs M1 M2 → M1 200 23 ≤ M2 200 23 → (∀ i, 0 ≤ i → i < M1 200 23 → cdO M2 i = cdO M1 i) → SecN (cdO M2) (M2 200 23) (M1 200 23) (M2 200 23) o' → WP PR (d + 7) 188 185 [vA 200, vI x1, vI (8 * c), vI x3] [] S M2 Q := by
    intro z l o' M2 eI hB p2 f2 g2 k2 s2
    have f3 : ∀ a i, ¬ (a = 210 ∧ i = 8 * c + 6) → up M2 210 (8 * c + 6) (M2 200 23) a i = M2 a i := fun a i w => by
      by_cases ea : a = 210
      · subst ea; exact up_ni (by omega)
      · exact up_na ea
    have c3 : cdO (up M2 210 (8 * c + 6) (M2 200 23)) = cdO M2 := funext fun i => cdO_eq (f3 _ _ (by omega)) (f3 _ _ (by omega))
    refine b_X9_readLaw_185 L (by omega) (kG z l o' _ eI hB (p2.cg (fun a i w => f3 a i (by omega))) (hT.gr (by rw [f3 _ _ (by omega)]; omega) (fun i q0 q1 => by rw [c3, k2 i q0 (by omega), c1]) (fun i q0 q1 => by rw [f3 _ _ (by omega), f2 _ _ (by omega), f1 _ _ (by omega)])) (by rw [f3 _ _ (by omega), f2 _ _ (by omega), f1 _ _ (by omega)]; exact hv) ?_ ?_ (by rw [f3 _ _ (by omega), f2 _ _ (by omega), f1 _ _ (by omega)]; exact h21) (((hfr.tr (fun a i w => f1 a i (by omega))).tr (FrTM.ofP f2)).tr (fun a i w => f3 a i (by omega))))
    · rw [c3, f3 200 23 (by omega), f3 _ (8 * c + 3) (by omega), f3 _ (8 * c + 4) (by omega), f2 _ (8 * c + 3) (by omega), f2 _ (8 * c + 4) (by omega), e4, f1 _ (8 * c + 3) (by omega)]
      exact ho.gr (by omega) (fun i q0 q1 => by rw [k2 i q0 (by omega), c1])
    · rw [c3, f3 200 23 (by omega), f3 _ (8 * c + 5) (by omega), up_s, f2 _ (8 * c + 5) (by omega), e5, ← n1]; exact s2
  refine b_X9_readLaw_166 L (s_isWord L p1.1 (fun hw => b_X9_readLaw_173 (fun w => absurd w (by decide)) (fun _ => b_X9_readLaw_176 L (s_nx L p1.1 (fun M2 r2 f2 => b_X9_readLaw_180 L ?_)))) (fun hw => b_X9_readLaw_173 (fun _ => fin q m none M1 (by unfold ifR; rw [if_neg hw]) (fun D w => by injection w) p1 (FrPs.rf M1) (Int.le_refl _) (fun _ _ _ => rfl) rfl) (fun w => absurd rfl w)))
  have p2 := p1.nx r2 f2
  have n2 : M2 200 23 = M1 200 23 := f2 _ _ (by omega)
  have ht2 : TabM M2 := (ht.mvT (fun a i w => f1 a i (by omega))).mvT (FrTM.ofT f2)
  refine s_rdEx L (laws := true) (Or.inl ⟨rfl, rfl⟩) (nt := 10) (Or.inr ⟨rfl, rfl⟩) p2 ht2 (fun z l D M3 eq p3 _ sg hB fe fr => fin z l (some D) M3 (by unfold ifR; rw [if_pos hw, eq]) (fun D' w => by injection w with w; rw [← w]; exact hB rfl) p3 ((FrPs.ofT f2).tr fr) (by have := sg.lt; omega) (fun i q0 q1 => by rw [fe i q0 (by omega), f2.cd]) ⟨by omega, Int.le_refl _, l - m, by have := p3.2.2.2.2.2; have := p2.2.2.2.2.2; omega, by rw [← n2]; exact sg⟩) (fun f M3 eq b => ?_)
  refine b_X9_readLaw_185 L (by omega) (kB f _ (by unfold ifR; rw [if_pos hw, eq]) ⟨by rw [up_na (by decide), up_na (by decide)]; exact b.1, (((hfr.tr (fun a i w => f1 a i (by omega))).tr (FrTM.ofT f2)).tr (FrTM.ofP b.2.1)).tr (fun a i w => up_na (by omega))⟩)
end RZ
