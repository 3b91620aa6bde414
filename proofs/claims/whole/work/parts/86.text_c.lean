/-! The class reads a text. -/
theorem nSm_le (v : Int) : nSm v ≤ 3 := by unfold nSm; split <;> (try split) <;> (try split) <;> omega
theorem smN_F {tp : Int → Int} {len : Int} {laws : Bool} {v p nl : Int} : ∀ (n : Nat) q m F, smN tp len laws v p nl n = .inr (q, m, F) → ∀ j : Int, (0 ≤ j ∧ j < n → ¬ F j = none) ∧ (¬ (0 ≤ j ∧ j < n) → F j = none) := by
  intro n
  induction n with
  | zero =>
    intro q m F e j
    have e : (.inr (p, nl, fun _ => none) : RC) = .inr (q, m, F) := e
    injection e with e; injection e with _ e; injection e with _ e; subst e
    exact ⟨fun h => absurd h (by omega), fun _ => rfl⟩
  | succ n ih =>
    intro q m F e j
    have e : (match smN tp len laws v p nl n with
      | .inl f => (.inl f : RC)
      | .inr (q, m, F) => match smA tp len laws v n q m with
        | .inl f => .inl f
        | .inr (r, l, D) => .inr (r, l, fun i => if i = (n : Int) then some D else F i)) = .inr (q, m, F) := e
    cases e1 : smN tp len laws v p nl n with
    | inl f => rw [e1] at e; injection e
    | inr y =>
      obtain ⟨q1, m1, F1⟩ := y
      rw [e1] at e
      cases e2 : smA tp len laws v n q1 m1 with
      | inl f => simp only [e2] at e; injection e
      | inr z =>
        obtain ⟨r, l, D⟩ := z
        simp only [e2] at e
        injection e with e; injection e with _ e; injection e with _ e; subst e
        have := ih q1 m1 F1 e1 j
        by_cases ej : j = (n : Int)
        · refine ⟨fun _ => ?_, fun h => absurd h (by omega)⟩
          show ¬ (if j = (n : Int) then some D else F1 j) = none
          rw [if_pos ej]; exact fun q => by injection q
        · show (_ → ¬ (if j = (n : Int) then some D else F1 j) = none) ∧ (_ → (if j = (n : Int) then some D else F1 j) = none)
          rw [if_neg ej]
          exact ⟨fun h => this.1 (by omega), fun h => this.2 (by omega)⟩
section CT
variable {S : mSh} {M : mMem} {Q : Option mV → mSh → mMem → Prop} {tp : Int → Int} {len li c p nl : Int} {laws : Bool} {T : TX}
/-- the state between clauses -/
def TxS (laws : Bool) (tp : Int → Int) (len li : Int) (T : TX) (p nl : Int) (M : mMem) : Prop := CSt tp len li p nl 0 M ∧ M 5 2 = tn T ∧ HdC laws M (tn T) T
/-- what is sure of a clause that was read -/
def okCl (laws : Bool) (v t : Int) (F : Int → Option Den) : Prop := ((laws = true ∧ 4 ≤ v ∧ v ≤ 6) ∨ (laws = false ∧ 0 ≤ v ∧ v ≤ 3)) ∧ (1 ≤ t ∧ t ≤ 20) ∧ (∀ D, F 3 = some D → isB D) ∧ ∀ j, 0 ≤ j → j ≤ 2 → (F j = none ↔ (nSm v : Int) ≤ j)
theorem c_clause (L : Lay S) (hli : (laws = true ∧ ¬ li = 0) ∨ (laws = false ∧ li = 0)) (hc : tn T = c) (hcb : 0 ≤ c ∧ c < 12) {D1 : Nat} (hD : 200 ≤ D1) (h : TxS laws tp len li T p nl M)
    (kG : ∀ q m v t F M', clR tp len laws p nl = .inr (q, m, v, t, F) → okCl laws v t F → TxS laws tp len li (apT T (kdV laws v) t F) q m M' → FrTx M M' → Q (some (vI 1)) S M')
    (kB : ∀ f M', clR tp len laws p nl = .inl f → BadT M f M' → Q (some (vI 0)) S M') : e_X2_clause (D1 + 1) S M Q := by
  subst hc
  obtain ⟨D2, rfl⟩ : ∃ D2, D1 = D2 + 1 := ⟨D1 - 1, by omega⟩
  obtain ⟨h1, h2, h3⟩ := h
  have hl2 := h1.2.1
  have vr := vrb_rng laws (tS tp len p) (tW tp len p)
  have e : clR tp len laws p nl = if vrb laws (tS tp len p) (tW tp len p) = -1 then .inl (tF tp len p) else match smN tp len laws (vrb laws (tS tp len p) (tW tp len p)) (tT tp len p) nl (nSm (vrb laws (tS tp len p) (tW tp len p))) with
    | .inl f => .inl f
    | .inr (q, m, F) => match tmR tp len laws q with
      | .inl f => .inl f
      | .inr (r, t) => match ifR tp len laws r m with
        | .inl f => .inl f
        | .inr (z, l, o) => .inr (z, l, vrb laws (tS tp len p) (tW tp len p), t, fun i => if i = 3 then o else F i) := rfl
  have ev : vrb laws (tS tp len p) (tW tp len p) = if tS tp len p = 1 then (if laws = true then lawV (tW tp len p) else ordV (tW tp len p)) else -1 := rfl
  generalize hv : vrb laws (tS tp len p) (tW tp len p) = v at e ev vr
  have bad : v = -1 → WP PR (D2 + 1 + 1) 15 24 [vA 4, vI v, vU] [] S M Q := fun hb =>
    b_X2_clause_24 L (c_wrong L h1 (fun M1 b1 => b_X2_clause_28 (Or.inl rfl) (kB _ M1 (by rw [e, if_pos hb]) (BadT.of b1 (fun _ _ _ => rfl)))))
  have good : ¬ v = -1 → WP PR (D2 + 1 + 1) 15 29 [vA 4, vI v, vU] [] S M Q := by
    intro hb
    rw [if_neg hb] at e
    have vr : tS tp len p = 1 ∧ ((laws = true ∧ 4 ≤ v ∧ v ≤ 6) ∨ (laws = false ∧ 0 ≤ v ∧ v ≤ 3)) := by rcases vr with q | q; exact absurd q hb; exact q
    refine b_X2_clause_29 L (c_open L h2 hcb (fun M1 f1 z1 z2 z3 z4 => b_X2_clause_37 L ?_))
    have c1 : ClS laws tp len li M T (tn T) v 1 0 (fun _ => none) p nl M1 := ⟨h1.cg (fun a i q => f1 a i (by omega)), z1, ⟨z2, z3⟩, ⟨fun j q0 q1 => absurd q1 (by omega), fun j q0 q1 => by rw [z4 j q0 q1]; exact (f1 _ _ (by omega)).symm⟩, h3.gr (by rw [f1 _ _ (by omega)]; exact Int.le_refl _) (fun k _ _ => f1 _ _ (by omega)) (fun k _ _ => f1 _ _ (by omega)), fun a i q => f1 a i (by omega), fun _ _ => rfl⟩
    refine c_nxC L c1 (by decide) (fun M2 c2 => b_X2_clause_41 ?_)
    have hn := nSm_le v
    refine c_smL (M0 := M) (T := T) (p1 := tT tp len p) (nl := nl) L hli hcb (by omega) hn hD (fun q m F M3 eS c3 => ?_) (fun f M' eS b => kB f M' (by rw [e, eS]) b) (nSm v) 0 (by omega) _ nl _ M2 rfl c2
    rw [eS] at e
    simp only at e
    have sF := smN_F _ q m F eS
    refine b_X2_clause_110 L (c_rep L hli hcb (by omega) c3 (fun r t M4 eT ht c4 => b_X2_clause_114 (fun _ => b_X2_clause_119 L ?_) (fun q => absurd q (by decide))) (fun f M4 eT b4 => b_X2_clause_114 (fun q => absurd rfl q) (fun _ => b_X2_clause_117 (kB f M4 (by rw [e, eT]) b4))))
    rw [eT] at e
    simp only at e
    have okc : ∀ o : Option Den, (∀ D, o = some D → isB D) → okCl laws v t (fun i => if i = 3 then o else F i) := fun o ho => by
      refine ⟨vr.2, ht, fun D q => ho D (by simpa using q), fun j q0 q1 => ?_⟩
      show (if j = 3 then o else F j) = none ↔ _
      rw [if_neg (by omega)]
      have := sF j
      refine ⟨fun w => ?_, fun w => this.2 (by omega)⟩
      by_cases x : j < (nSm v : Int)
      · exact absurd w (this.1 ⟨q0, x⟩)
      · omega
    -- the whole clause stands
    have fin : ∀ (o : Option Den) (G : Int → Option Den) (z l : Int) (M5 : mMem), (∀ D, o = some D → isB D) → (∀ j, 0 ≤ j → j ≤ 3 → G j = if j = 3 then o else F j) → ifR tp len laws r m = .inr (z, l, o) → ClS laws tp len li M T (tn T) v t 4 G z l M5 → Q (some (vI 1)) S M5 := by
      intro o G z l M5 ho hG eI c5
      rw [eI] at e
      simp only at e
      obtain ⟨a1, a2, a3, a4, a5, a6, a7⟩ := c5
      refine kG z l v t _ M5 e (okc o ho) ⟨a1, by rw [a2]; rfl, fun i q0 q1 => ?_⟩ a6
      have q1 : i < tn T + 1 := q1
      by_cases ei : i = tn T
      · subst ei
        show _ = (if laws = true then (if tn T = tn T then kdV laws v else tk T (tn T)) + 4 else (if tn T = tn T then kdV laws v else tk T (tn T))) ∧ _ = (if tn T = tn T then t else tt T (tn T)) ∧ ∀ s, 0 ≤ s → s ≤ 3 → SecC laws (M5 7) (M5 5 3) _ _ ((if tn T = tn T then (fun i => if i = 3 then o else F i) else ts T (tn T)) s)
        rw [if_pos rfl, if_pos rfl, if_pos rfl]
        refine ⟨?_, a3.2, fun s s0 s1 => ?_⟩
        · rw [a3.1]; unfold kdV
          split <;> omega
        · have := a4.1 s s0 (by omega)
          rw [hG s s0 s1] at this; exact this
      · have := a5 i q0 (by omega)
        show _ = (if laws = true then (if i = tn T then kdV laws v else tk T i) + 4 else (if i = tn T then kdV laws v else tk T i)) ∧ _ = (if i = tn T then t else tt T i) ∧ ∀ s, 0 ≤ s → s ≤ 3 → SecC laws (M5 7) (M5 5 3) _ _ ((if i = tn T then (fun i => if i = 3 then o else F i) else ts T i) s)
        rw [if_neg ei, if_neg ei, if_neg ei]; exact this
    have skip : ∀ s' : Int, 3 ≤ s' → s' ≤ 4 → ∀ r m M4, ClS laws tp len li M T (tn T) v t (nSm v : Int) F r m M4 → ClS laws tp len li M T (tn T) v t s' F r m M4 := fun s' q0 q1 r m M4 w => by
      obtain ⟨a1, a2, a3, a4, a5, a6, a7⟩ := w
      exact ⟨a1, a2, a3, a4.skip (by omega) (fun j p0 _ => a7 j p0), a5, a6, fun j p0 => a7 j (by omega)⟩
    refine c_isW L c4.1.1 is_94 iw_94.1 iw_94.2 (fun hw => b_X2_clause_125 (fun _ => b_X2_clause_130 L (c_nxC L c4 (by omega) (fun M5 c5 => b_X2_clause_134 L ?_))) (fun q => absurd q (by decide))) (fun hw => b_X2_clause_125 (fun q => absurd rfl q) (fun _ => b_X2_clause_128 (fin none F r m M4 (fun D q => by injection q) (fun j q0 q1 => ?_) (by unfold ifR; rw [if_neg hw]) (skip 4 (by decide) (by decide) r m M4 c4))))
    · have hq := c5.1.1.2.2.2.1
      have hl := c5.1.1.1.1
      have c6 := skip 3 (by decide) (by decide) _ _ _ c5
      have rx := (rd_all (tp := tp) (len := len) L hli FU).2.2.2.2.2.2.2.2.2.2
      refine rx (D2 + 1) _ m 0 M5 _ D0 (by omega) c5.1 (by unfold FU; omega) ⟨fun q2 m2 D M6 eq hB gd => b_X2_clause_138 L (cl_sec L hcb (by decide) c6 gd (fun M7 c7 => b_X2_clause_147 (Or.inr rfl) (fin (some D) _ q2 m2 M7 (fun D' w => by injection w with w; rw [← w]; exact hB (by decide)) (fun j q0 q1 => rfl) (by unfold ifR; rw [if_pos hw, eq]) c7))), fun f M6 eq b6 => b_X2_clause_138 L ?_⟩
      refine c_endS L (c := tn T) (s := 3) (by rw [b6.2.1 _ _ (by omega)]; exact c5.2.1) hcb (by decide) (fun M7 f7 _ => b_X2_clause_147 (Or.inl rfl) (kB f M7 (by rw [e]; unfold ifR; rw [if_pos hw, eq]) ?_))
      have bb := BadT.of b6 c5.2.2.2.2.2.1
      exact ⟨⟨by rw [f7 _ _ (by omega)]; exact bb.1.1, bb.1.2⟩, bb.2.1.tr (fun a i q => f7 a i (by omega)), fun k q0 q1 => by rw [f7 _ _ (by omega)]; exact bb.2.2 k q0 q1⟩
    · by_cases ej : j = 3
      · rw [if_pos ej, ej]; exact c4.2.2.2.2.2.2 3 (by omega)
      · rw [if_neg ej]
  refine b_X2_clause_0 L (fun h0 => b_X2_clause_14 L (c_orderVerb L h1.1 ?_)) (fun h0 => b_X2_clause_7 L (c_lawVerb L h1.1 ?_))
  · have hlw : ¬ laws = true := by rcases hli with x | x <;> simp_all
    rw [if_neg hlw] at ev
    rw [← ev]
    exact b_X2_clause_18 good bad
  · have hlw : laws = true := by rcases hli with x | x <;> simp_all
    rw [if_pos hlw] at ev
    rw [← ev]
    exact b_X2_clause_11 good bad
end CT
