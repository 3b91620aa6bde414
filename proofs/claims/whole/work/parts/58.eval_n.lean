/-! The reference's evaluation of code, whole. -/
section MN
variable {d : Nat} {S : mSh} {Q : Option mV → mSh → mMem → Prop}
set_option maxHeartbeats 1000000 in
theorem s_seg (L : Lay S) {w : Env} (hw : bdW w) {M0 : mMem} (he : EnvM w M0) {x1 l : Int} (hl : l ≤ 400) {i j p : Int} {D : Den} (h : SegM (cdM M0) i j p D) :
    i < j ∧ 1 ≤ p ∧ bdO (D w) ∧ (0 ≤ i → j ≤ l → ∀ (n : Int) (M : mMem) (u5 u6 : mV), FrE M0 M → M 200 38 = 0 → 0 ≤ n → n + p ≤ 400 →
      (∀ v M' u5 u6, D w = some v → FrE M0 M' → M' 200 38 = 0 → (∀ x, x < n → M' 220 x = M 220 x) → M' 220 n = v → WP PR (d + 5) 194 10 [vA 200, vI x1, vI l, vI (n + 1), vI j, u5, u6] [] S M' Q) →
      (∀ n' k' M' u5 u6, D w = none → FrE M0 M' → M' 200 38 = 1 → WP PR (d + 5) 194 10 [vA 200, vI x1, vI l, vI n', vI k', u5, u6] [] S M' Q) →
      WP PR (d + 5) 194 10 [vA 200, vI x1, vI l, vI n, vI i, u5, u6] [] S M Q) := by
  refine h (fun i j p D => i < j ∧ 1 ≤ p ∧ bdO (D w) ∧ (0 ≤ i → j ≤ l → ∀ (n : Int) (M : mMem) (u5 u6 : mV), FrE M0 M → M 200 38 = 0 → 0 ≤ n → n + p ≤ 400 →
      (∀ v M' u5 u6, D w = some v → FrE M0 M' → M' 200 38 = 0 → (∀ x, x < n → M' 220 x = M 220 x) → M' 220 n = v → WP PR (d + 5) 194 10 [vA 200, vI x1, vI l, vI (n + 1), vI j, u5, u6] [] S M' Q) →
      (∀ n' k' M' u5 u6, D w = none → FrE M0 M' → M' 200 38 = 1 → WP PR (d + 5) 194 10 [vA 200, vI x1, vI l, vI n', vI k', u5, u6] [] S M' Q) →
      WP PR (d + 5) 194 10 [vA 200, vI x1, vI l, vI n, vI i, u5, u6] [] S M Q)) ⟨?_, ?_, ?_, ?_⟩
  · intro i hL
    refine ⟨by omega, by omega, lf_bd hL hw, fun h0 h1 n M u5 u6 hf h38 hn hp kg kb => ?_⟩
    have e := hf.cd
    refine s_fetch L (hf.env he) h38 ⟨h0, by omega, hl⟩ (fun _ => ?_) (fun h => absurd h (by rw [e]; have := hL.2.1; omega))
    rw [e]
    refine s_leaf L (hf.env he) hL (by omega) (fun u5 u6 => kg _ _ _ _ rfl (fun a i q => ?_) ?_ (fun x hx => ?_) ?_)
    · rw [up_na (by omega)]; exact hf a i q
    · rw [up_na (by decide)]; exact h38
    · exact up_ni (by omega)
    · exact up_s _ _ _ _
  · intro i m j p q D E hD hE ho1 ho2
    obtain ⟨a1, a2, a3, a4⟩ := hD
    obtain ⟨b1, b2, b3, b4⟩ := hE
    refine ⟨by omega, by omega, bn_bd _ _ _ _, fun h0 h1 n M u5 u6 hf h38 hn hp kg kb => ?_⟩
    refine a4 h0 (by omega) n M u5 u6 hf h38 hn (by omega) (fun a M1 u5 u6 eD f1 g1 s1 r1 => ?_) (fun n' k' M1 u5 u6 eD f1 g1 => kb n' k' M1 u5 u6 (by unfold bnD; rw [eD]) f1 g1)
    refine b4 (by omega) (by omega) (n + 1) M1 u5 u6 f1 g1 (by omega) (by omega) (fun b M2 u5 u6 eE f2 g2 s2 r2 => ?_) (fun n' k' M2 u5 u6 eE f2 g2 => kb n' k' M2 u5 u6 (by unfold bnD; rw [eD, eE]) f2 g2)
    have ha := a3 a eD
    have hb := b3 b eE
    have e := f2.cd
    refine s_fetch L (f2.env he) g2 ⟨by omega, by omega, hl⟩ (fun h => absurd h (by rw [e]; omega)) (fun _ => ?_)
    rw [e]
    have en : n + 1 + 1 + -1 - 1 = n := by omega
    have en1 : n + 1 + 1 + -1 = n + 1 := by omega
    have ra : M2 220 n = a := by rw [s2 n (by omega), r1]
    refine b_X9_reckonAll_171 (fun h => absurd h (by omega)) (fun _ => b_X9_reckonAll_178 L (by rw [en, en1]; omega) ?_)
    rw [en, en1, ra, r2]
    generalize hop : (cdM M0 j).1 = op at ho1 ho2 kg kb ⊢
    generalize har : (cdM M0 j).2 = ar
    refine s_reckon L ⟨ho1, ho2⟩ ha hb g2 (fun M3 f3 g3 => ?_)
    have f4 : ∀ v, FrE M0 (up M3 220 n v) := fun v a i q => by rw [up_na (by omega), f3 a i (by omega)]; exact f2 a i q
    have l220 := ll220 L
    by_cases hz : (op = 23 ∨ op = 24) ∧ b = 0
    · rw [if_pos hz] at g3 ⊢
      have eN : bnD op D E w = none := by unfold bnD; rw [eD, eE]; dsimp only; unfold rk; rw [if_pos hz]
      refine b_X9_reckonAll_208 L (lo220 L) (by rw [l220]; omega) (fun _ => b_X9_reckonAll_237 L (kb _ _ _ _ _ eN (fun a i q => ?_) ?_)) (fun hc => absurd hc ?_)
      · by_cases e2 : a = 200
        · rw [up_ni (by omega)]; exact f4 _ a i q
        · rw [up_na e2]; exact f4 _ a i q
      · rw [up_s]
      · rw [up_na (by decide), g3]; decide
    · rw [if_neg hz] at g3 ⊢
      refine b_X9_reckonAll_208 L (lo220 L) (by rw [l220]; omega) (fun hc => absurd ?_ hc) (fun _ => b_X9_reckonAll_217 L (by omega) ?_)
      · rw [up_na (by decide), g3]
      · rw [Int.add_sub_cancel, up_s]
        refine s_in (fun hr => b_X9_reckonAll_234 (fun _ => b_X9_reckonAll_241 L ?_) (fun e => absurd e (by decide))) (fun hr => b_X9_reckonAll_234 (fun e => absurd rfl e) (fun _ => b_X9_reckonAll_237 L ?_))
        · have eV : bnD op D E w = some (rkv op a b) := by unfold bnD; rw [eD, eE]; dsimp only; unfold rk; rw [if_neg hz, if_pos hr]
          refine kg (rkv op a b) _ _ _ eV (fun a i q => ?_) (up_s _ _ _ _) (fun x hx => ?_) ?_
          · by_cases e2 : a = 200
            · rw [up_ni (by omega)]; exact f4 _ a i q
            · rw [up_na e2]; exact f4 _ a i q
          · rw [up_na (by decide), up_ni (by omega), f3 _ _ (by omega), s2 x (by omega), s1 x hx]
          · rw [up_na (by decide), up_s]
        · have eN : bnD op D E w = none := by unfold bnD; rw [eD, eE]; dsimp only; unfold rk; rw [if_neg hz, if_neg hr]
          refine kb _ _ _ _ _ eN (fun a i q => ?_) ?_
          · by_cases e2 : a = 200
            · rw [up_ni (by omega)]; exact f4 _ a i q
            · rw [up_na e2]; exact f4 _ a i q
          · rw [up_s]
  · intro i j p D hD hb ho
    obtain ⟨a1, a2, a3, a4⟩ := hD
    refine ⟨by omega, a2, fun v hv => by have := nt_isB hb w v hv; omega, fun h0 h1 n M u5 u6 hf h38 hn hp kg kb => ?_⟩
    refine a4 h0 (by omega) n M u5 u6 hf h38 hn hp (fun a M1 u5 u6 eD f1 g1 s1 r1 => ?_) (fun n' k' M1 u5 u6 eD f1 g1 => kb n' k' M1 u5 u6 (by unfold ntD; rw [eD]) f1 g1)
    have ha := a3 a eD
    have e := f1.cd
    refine s_fetch L (f1.env he) g1 ⟨by omega, by omega, hl⟩ (fun h => absurd h (by rw [e]; omega)) (fun _ => ?_)
    rw [e, ho]
    refine b_X9_reckonAll_171 (fun _ => b_X9_reckonAll_248 (fun h => absurd rfl h) (fun _ => b_X9_reckonAll_255 L ?_ ?_)) (fun h => absurd h (by decide))
    · rw [Int.add_sub_cancel, r1]; omega
    · rw [Int.add_sub_cancel, r1]
      refine kg (1 - a) _ _ _ (by unfold ntD; rw [eD]) (fun a i q => ?_) ?_ (fun x hx => ?_) (up_s _ _ _ _)
      · rw [up_na (by omega)]; exact f1 a i q
      · rw [up_na (by decide)]; exact g1
      · rw [up_ni (by omega), s1 x hx]
  · intro i m j p q D E hD hb hE ho har
    obtain ⟨a1, a2, a3, a4⟩ := hD
    obtain ⟨b1, b2, b3, b4⟩ := hE
    have hbd : bdO (aoD (cdM M0 m).1 D E w) := by
      intro v hv; unfold aoD at hv
      cases hDw : D w with
      | none => rw [hDw] at hv; cases hv
      | some a =>
        rw [hDw] at hv
        dsimp only at hv
        by_cases e : a = (if (cdM M0 m).1 = 29 then 0 else 1)
        · rw [if_pos e] at hv; cases hv; exact a3 _ hDw
        · rw [if_neg e] at hv; exact b3 v hv
    refine ⟨by omega, by omega, hbd, fun h0 h1 n M u5 u6 hf h38 hn hp kg kb => ?_⟩
    refine a4 h0 (by omega) n M u5 u6 hf h38 hn (by omega) (fun a M1 u5 u6 eD f1 g1 s1 r1 => ?_) (fun n' k' M1 u5 u6 eD f1 g1 => kb n' k' M1 u5 u6 (by unfold aoD; rw [eD]) f1 g1)
    have e := f1.cd
    refine s_fetch L (f1.env he) g1 ⟨by omega, by omega, hl⟩ (fun h => absurd h (by rw [e]; omega)) (fun _ => ?_)
    rw [e, har]
    have go1 : ∀ (op : Int), op = (cdM M0 m).1 → a = (if op = 29 then 0 else 1) → ∀ u5 u6, WP PR (d + 5) 194 10 [vA 200, vI x1, vI l, vI (n + 1), vI j, u5, u6] [] S M1 Q := fun op eo ea u5 u6 => by
      refine kg a M1 u5 u6 ?_ f1 g1 s1 r1
      unfold aoD; rw [eD]; dsimp only; rw [← eo, if_pos ea]
    have go2 : ∀ (op : Int), op = (cdM M0 m).1 → ¬ a = (if op = 29 then 0 else 1) → ∀ u5 u6, WP PR (d + 5) 194 10 [vA 200, vI x1, vI l, vI (n + 1 + -1), vI (m + 1), u5, u6] [] S M1 Q := fun op eo ea u5 u6 => by
      have en : n + 1 + -1 = n := by omega
      have eV : aoD (cdM M0 m).1 D E w = E w := by unfold aoD; rw [eD]; dsimp only; rw [← eo, if_neg ea]
      rw [en]
      exact b4 (by omega) h1 n M1 u5 u6 f1 g1 hn (by omega) (fun v M2 u5 u6 eE f2 g2 s2 r2 => kg v M2 u5 u6 (eV.trans eE) f2 g2 (fun x hx => by rw [s2 x hx, s1 x hx]) r2) (fun n' k' M2 u5 u6 eE f2 g2 => kb n' k' M2 u5 u6 (eV.trans eE) f2 g2)
    refine b_X9_reckonAll_171 (fun _ => b_X9_reckonAll_248 (fun _ => b_X9_reckonAll_276 L (by omega) (fun h29 => ?_) (fun h29 => ?_)) (fun h => absurd h (by omega))) (fun h => absurd h (by omega))
    · rw [Int.add_sub_cancel, r1]
      refine b_X9_reckonAll_295 (fun hz => b_X9_reckonAll_307 (by omega) (go2 _ rfl ?_ _ _)) (fun hz => b_X9_reckonAll_300 (go1 _ rfl ?_ _ _))
      · rw [if_neg h29]; exact hz
      · rw [if_neg h29]; exact hz
    · rw [Int.add_sub_cancel, r1]
      refine b_X9_reckonAll_291 (fun hz => b_X9_reckonAll_307 (by omega) (go2 _ rfl ?_ _ _)) (fun hz => b_X9_reckonAll_300 (go1 _ rfl ?_ _ _))
      · rw [if_pos h29]; exact hz
      · rw [if_pos h29]; exact hz
/-- the cells that an evaluation writes, with its value -/
def FrV (M M' : mMem) : Prop := ∀ a i, ¬ (a = 220 ∨ (a = 200 ∧ (i = 38 ∨ i = 39))) → M' a i = M a i
theorem s_reckonAll {M : mMem} (L : Lay S) {w : Env} (hw : bdW w) (he : EnvM w M) {i j p : Int} {D : Den} (h : SegM (cdM M) i j p D) (hi : 0 ≤ i) (hj : j ≤ 400) (hp : p ≤ 400)
    (k : ∀ M', FrV M M' → (∀ v, D w = some v → M' 200 38 = 0 ∧ M' 200 39 = v) → (D w = none → M' 200 38 = 1) → Q none S M') : e_X9_reckonAll (d + 5) i j S M Q := by
  have key := s_seg (d := d) (S := S) (Q := Q) L hw he (x1 := i) (l := j) hj h
  have f0 : FrE M (up M 200 38 0) := fun a i q => by
    by_cases e2 : a = 200
    · exact up_ni (by omega)
    · exact up_na e2
  refine b_X9_reckonAll_0 L ?_
  refine key.2.2.2 hi (Int.le_refl _) 0 _ vU vU f0 (up_s _ _ _ _) (by decide) (by omega) (fun v M' u5 u6 eD f1 g1 s1 r1 => ?_) (fun n' k' M' u5 u6 eD f1 g1 => ?_)
  · refine b_X9_reckonAll_10 (fun _ => b_X9_reckonAll_313 (fun h => absurd h (by decide)) (fun _ => b_X9_reckonAll_318 L (k _ (fun a i q => ?_) (fun v' ev => ?_) (fun e => ?_)))) (fun h => absurd h (by omega))
    · by_cases e2 : a = 200
      · rw [up_ni (by omega)]; exact f1 a i (by omega)
      · rw [up_na e2]; exact f1 a i (by omega)
    · rw [eD] at ev; cases ev
      exact ⟨by rw [up_ni (by decide)]; exact g1, by rw [up_s]; exact r1⟩
    · rw [eD] at e; cases e
  · have fin : ∀ v, Q none S (up M' 200 39 v) := fun v => k _ (fun a i q => by
        by_cases e2 : a = 200
        · rw [up_ni (by omega)]; exact f1 a i (by omega)
        · rw [up_na e2]; exact f1 a i (by omega)) (fun v' ev => by rw [eD] at ev; cases ev) (fun _ => by rw [up_ni (by decide)]; exact g1)
    have fin2 : WP PR (d + 5) 194 313 [vA 200, vI i, vI j, vI n', vI k', u5, u6] [] S M' Q := b_X9_reckonAll_313 (fun _ => b_X9_reckonAll_327 L (fin _)) (fun _ => b_X9_reckonAll_318 L (fin _))
    exact b_X9_reckonAll_10 (fun _ => fin2) (fun _ => b_X9_reckonAll_16 L (fun _ => fin2) (fun h => absurd h (by omega)))
end MN
