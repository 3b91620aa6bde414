/-! The reference reads a law's clause: the whole. -/
section RZ
variable {d : Nat} {S : mSh} {M : mMem} {Q : Option mV → mSh → mMem → Prop} {tp : Int → Int} {len p nl : Int} {T : TX}
theorem clR_l {v : Int} (hv : vrb true (tS tp len p) (tW tp len p) = v) (h1 : ¬ v = -1) : clR tp len true p nl = match smN tp len true v (tT tp len p) nl (nSm v) with
    | .inl f => .inl f
    | .inr (q, m, F) => match ifR tp len true q m with
      | .inl f => .inl f
      | .inr (z, l, o) => .inr (z, l, v, 1, fun i => if i = 3 then o else F i) := by
  unfold clR
  rw [hv, if_neg h1]
  cases smN tp len true v (tT tp len p) nl (nSm v) with
  | inl f => rfl
  | inr y =>
    simp [tmR]
    cases ifR tp len true y.1 y.2.1 <;> rfl
theorem smN_1 (v p nl : Int) (laws : Bool) : smN tp len laws v p nl 1 = match prs tp len laws FU 4 D0 p nl 0 with
    | .inl f => .inl f
    | .inr (r, l, D) => .inr (r, l, fun i => if i = 0 then some D else none) := by
  show (match smA tp len laws v 0 p nl with
      | .inl f => (.inl f : RC)
      | .inr (r, l, D) => .inr (r, l, fun i => if i = ((0 : Nat) : Int) then some D else none)) = _
  unfold smA
  rw [if_pos rfl]
  rfl
theorem DrL.ap {M : mMem} {k t : Int} {F : Int → Option Den} (h : DrL M (tn T) T) (h1 : M 210 (8 * tn T) = k) (h2 : SecN (cdO M) (M 200 23) (M 210 (8 * tn T + 3)) (M 210 (8 * tn T + 4)) (F 0)) (h3 : SecN (cdO M) (M 200 23) (M 210 (8 * tn T + 5)) (M 210 (8 * tn T + 6)) (F 3)) : DrL M (tn T + 1) (apT T k t F) := fun i q0 q1 => by
  show M 210 (8 * i) = (if i = tn T then k else tk T i) ∧ SecN _ _ _ _ ((if i = tn T then F else ts T i) 0) ∧ SecN _ _ _ _ ((if i = tn T then F else ts T i) 3)
  by_cases ei : i = tn T
  · rw [if_pos ei, if_pos ei, ei]; exact ⟨h1, h2, h3⟩
  · rw [if_neg ei, if_neg ei]; exact h i q0 (by omega)
theorem s_readLaw (L : Lay S) (h : EPre 0 tp len p nl M) (ht : TabM M) (hT : DrL M (tn T) T) (h21 : M 200 21 = tn T) (hn : 0 ≤ tn T ∧ tn T ≤ 12)
    (kG : tn T < 12 → ∀ q m v t F M', clR tp len true p nl = .inr (q, m, v, t, F) → EPre 0 tp len q m M' → DrL M' (tn T + 1) (apT T (kdV true v) t F) → M' 200 21 = tn T + 1 → FrTM M M' → Q none S M')
    (kB : ∀ f M', (12 ≤ tn T → f = tF tp len p) → (tn T < 12 → clR tp len true p nl = .inl f) → BadR M f M' → Q none S M') : e_X9_readLaw (d + 7) S M Q := by
  have h19 := h.2.2.1
  have vr := vrb_rng true (tS tp len p) (tW tp len p)
  have hp := h.1.2.2.2.1
  have hl := h.1.1.1
  refine s_readLawv L h.1 ht ?_
  have ek : kdN true (tS tp len p) (tW tp len p) = if vrb true (tS tp len p) (tW tp len p) = -1 then -1 else vrb true (tS tp len p) (tW tp len p) - 4 := rfl
  generalize hv : vrb true (tS tp len p) (tW tp len p) = v at ek vr
  generalize kdN true (tS tp len p) (tW tp len p) = kd at ek
  have bad : v = -1 ∨ 12 ≤ tn T → WP PR (d + 7) 188 53 [vA 200, vI kd, vI 3, vU] [vA 200] S M Q := fun hb =>
    b_X9_readLaw_53 L (s_must0 L h.1 h19 (b_X9_readLaw_57 L (fun w => absurd w (by rw [up_ni (by decide), up_s]; decide)) (fun _ => b_X9_readLaw_64 (kB _ _ (fun _ => rfl) (fun w => by unfold clR; rw [hv, if_pos (by omega)]) ⟨⟨by rw [up_ni (by decide), up_s], up_s _ _ _ _⟩, fun a i q => by
      by_cases ea : a = 200
      · subst ea; rw [up_ni (by omega), up_ni (by omega)]
      · rw [up_na ea, up_na ea]⟩))))
  have v0 : ¬ kd = -1 → 4 ≤ v ∧ v ≤ 6 ∧ kd = v - 4 := fun w => by
    rcases vr with x | x
    · rw [if_pos x] at ek; exact absurd ek w
    · rcases x.2 with y | y
      · rw [if_neg (by omega)] at ek; omega
      · exact absurd y.1 (by decide)
  have vm : kd = -1 → v = -1 := fun w => by
    rcases vr with x | x
    · exact x
    · rcases x.2 with y | y
      · rw [if_neg (by omega)] at ek; omega
      · exact absurd y.1 (by decide)
  refine b_X9_readLaw_34 (fun w => bad (Or.inl (vm w))) (fun w => b_X9_readLaw_40 L (fun w2 => bad (Or.inr (by omega))) (fun w2 => b_X9_readLaw_49 L (s_must1 L h.1 h19 (fun M1 r1 f1 => b_X9_readLaw_57 L (fun _ => b_X9_readLaw_65 L (by rw [f1 _ _ (by omega)]; omega) ?_) (fun w3 => absurd ((f1 _ _ (by omega)).trans h19) w3)))))
  have hk := v0 w
  have p1 := h.nx r1 f1
  rw [f1 200 21 (by omega), h21]
  refine s_readLawz L (by omega) (fun M2 f2 => ?_)
  have e21 : M2 200 21 = tn T := by rw [f2 _ _ (by omega), f1 _ _ (by omega)]; exact h21
  have fr3 : ∀ a i, ¬ ((a = 210 ∧ 8 * tn T ≤ i ∧ i < 8 * tn T + 8) ∨ (a = 200 ∧ i = 21)) → up (up (up M2 210 (8 * tn T) kd) 200 21 (M2 200 21 + 1)) 210 (8 * tn T + 3) (M2 200 23) a i = M1 a i := fun a i q => by
    rw [up3_ne (by omega) (by omega) (by omega)]; exact f2 a i (by omega)
  have a0 : up (up (up M2 210 (8 * tn T) kd) 200 21 (M2 200 21 + 1)) 210 (8 * tn T + 3) (M2 200 23) 210 (8 * tn T) = kd := by rw [up_ni (by omega), up_na (by decide), up_s]
  have a3 : up (up (up M2 210 (8 * tn T) kd) 200 21 (M2 200 21 + 1)) 210 (8 * tn T + 3) (M2 200 23) 210 (8 * tn T + 3) = M1 200 23 := by rw [up_s]; exact f2 _ _ (by omega)
  have a21 : up (up (up M2 210 (8 * tn T) kd) 200 21 (M2 200 21 + 1)) 210 (8 * tn T + 3) (M2 200 23) 200 21 = tn T + 1 := by rw [up_na (by decide), up_s, e21]
  have hR := b_X9_readLaw_96 (d := d + 7) (x1 := kd) (x2 := 8 * tn T) (x3 := 8) (M := M2) (Q := Q) L (by omega)
  generalize up (up (up M2 210 (8 * tn T) kd) 200 21 (M2 200 21 + 1)) 210 (8 * tn T + 3) (M2 200 23) = M3 at *
  have c3 : cdO M3 = cdO M := by rw [← f1.cd]; exact funext fun i => cdO_eq (fr3 _ _ (by omega)) (fr3 _ _ (by omega))
  have n3 : M3 200 23 = M 200 23 := by rw [fr3 _ _ (by omega)]; exact f1 _ _ (by omega)
  have n1 : M1 200 23 = M 200 23 := f1 _ _ (by omega)
  have p3 : EPre 0 tp len (tT tp len p) nl M3 := p1.cg (fun a i q => fr3 a i (by omega))
  have F3 : FrTM M M3 := (FrTM.ofT f1).tr (fun a i q => fr3 a i (by omega))
  have T3 : DrL M3 (tn T) T := hT.gr (by omega) (fun i _ _ => by rw [c3]) (fun i q0 q1 => by rw [fr3 _ _ (by omega)]; exact f1 _ _ (by omega))
  have eC := clR_l (tp := tp) (len := len) (p := p) (nl := nl) hv (by omega)
  refine hR (fun w4 => ?_) (fun w4 => b_X9_readLaw_130 L ?_)
  · have v6 : v = 6 := by omega
    have eC2 : clR tp len true p nl = match ifR tp len true (tT tp len p) nl with
      | .inl f => .inl f
      | .inr (z, l, o) => .inr (z, l, v, 1, fun i => if i = 3 then o else none) := by rw [eC, v6]; rfl
    refine s_lawIf L (M0 := M) (T := T) (o := none) ⟨hn.1, by omega⟩ p3 (ht.mvT F3) T3 a0 (by show M3 210 (8 * tn T + 3) = M3 200 23; omega) a21 F3 (fun z l o' M4 eI hB p4 t4 b1 b2 b3 b4 f4 => kG (by omega) z l v 1 _ M4 (by rw [eC2, eI]) p4 (t4.ap (by rw [b1]; show kd = v - 4; omega) b2 b3) b4 f4) (fun f M4 eI b => kB f M4 (fun w => absurd w (by omega)) (fun _ => by rw [eC2, eI]) b)
  · have v45 : nSm v = 1 := by unfold nSm; rw [if_neg (by omega), if_neg (by omega), if_pos (by omega)]
    rw [v45, smN_1] at eC
    refine s_rdEx L (laws := true) (Or.inl ⟨rfl, rfl⟩) (nt := 4) (Or.inl ⟨rfl, rfl⟩) p3 (ht.mvT F3) (fun q m D M4 eq p4 hq sg _ fe fr => ?_) (fun f M4 eq b => ?_)
    · rw [eq] at eC
      simp only at eC
      have lt := sg.lt
      refine s_lawIf L (M0 := M) (T := T) (o := some D) ⟨hn.1, by omega⟩ p4 ((ht.mvT F3).mv fr) (T3.gr (by omega) (fun i q0 q1 => fe i q0 q1) (fun i _ _ => fr _ _ (by omega))) (by rw [fr _ _ (by omega)]; exact a0) ⟨by rw [fr _ _ (by omega)]; have := p3.2.2.2.2.1; omega, Int.le_refl _, m - nl, by have := p4.2.2.2.2.2; have := p3.2.2.2.2.2; omega, by rw [fr 210 _ (by omega), a3, n1, ← n3]; exact sg⟩ (by rw [fr _ _ (by omega)]; exact a21) (F3.tr (FrTM.ofP fr)) (fun z l o' M5 eI hB p5 t5 b1 b2 b3 b4 f5 => kG (by omega) z l v 1 _ M5 (by rw [eC, eI]) p5 (t5.ap (by rw [b1]; show kd = v - 4; omega) b2 b3) b4 f5) (fun f M5 eI b => kB f M5 (fun w => absurd w (by omega)) (fun _ => by rw [eC, eI]) b)
    · rw [eq] at eC
      refine b_X9_readLaw_135 L (by omega) (fun w5 => b_X9_readLaw_185 L (by omega) (kB f _ (fun w => absurd w (by omega)) (fun _ => eC) ⟨by rw [up_na (by decide), up_na (by decide), up_na (by decide), up_na (by decide), up_na (by decide), up_na (by decide)]; exact b.1, (F3.tr (FrTM.ofP b.2.1)).tr (fun a i q => by rw [up_na (by omega), up_na (by omega), up_na (by omega)])⟩)) (fun w5 => absurd w5 (by rw [b.1.1]; decide))
end RZ
