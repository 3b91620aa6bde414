/-! The class reads sums and tests as the function says. -/
section BG
variable {S : mSh} {tp : Int → Int} {len li : Int} {laws : Bool}
def CTR (S : mSh) (laws : Bool) (tp : Int → Int) (len li : Int) (n nt : Nat) (c0 n0 p0 : Int) (M0 : mMem) (A : Den) (p nl dp : Int) (Q : Option mV → mSh → mMem → Prop) : Prop :=
  (∀ q m D M', prs tp len laws n nt A p nl dp = .inr (q, m, D) → (5 ≤ nt → isB D) → Good laws tp len li c0 n0 p0 M0 q m dp D M' → Q (some (vI 1)) S M') ∧
  (∀ f M', prs tp len laws n nt A p nl dp = .inl f → Bad M0 f M' → Q (some (vI 0)) S M')
def PMt (S : mSh) (laws : Bool) (tp : Int → Int) (len li : Int) (nt : Nat) (ent : Nat → mMem → (Option mV → mSh → mMem → Prop) → Prop) (n : Nat) : Prop :=
  ∀ (Dp : Nat) (p nl dp : Int) (M : mMem) (Q : Option mV → mSh → mMem → Prop) (A : Den),  20 * (8 - dp) + 2 * (nt : Int) + 4 ≤ (Dp : Int) → CSt tp len li p nl dp M → 11 * (len - p) + nt < n → CTR S laws tp len li n nt (M 5 3) nl p M A p nl dp Q → ent Dp M Q
def PLp (S : mSh) (laws : Bool) (tp : Int → Int) (len li : Int) (nt j : Nat) (n : Nat) : Prop :=
  ∀ (Dp : Nat) (p nl dp : Int) (M : mMem) (Q : Option mV → mSh → mMem → Prop) (A : Den) (c0 n0 p0 : Int) (M0 : mMem) (i : Int) (u3 : mV),  20 * (8 - dp) + 2 * (nt : Int) + 4 ≤ (Dp : Int) → CSt tp len li p nl dp M → 11 * (len - p) + nt < n → (0 ≤ c0 ∧ c0 ≤ p0 ∧ p0 < p ∧ n0 < nl) → SegC laws (M 7) c0 (M 5 3) (nl - n0) A → (7 ≤ nt → isB A) → M 5 3 - c0 ≤ p - p0 → (∀ k, 0 ≤ k → k < c0 → M 7 k = M0 7 k) → FrRd M0 M → (0 ≤ i ∧ 2 * i ≤ p) → CTR S laws tp len li n nt c0 n0 p0 M0 A p nl dp Q → WP PR Dp j 7 [vA 4, vI 1, vI i, u3] [] S M Q
theorem Bad.tr {M0 M M' : mMem} {f : Int} (h : Bad M f M') (hf : FrRd M0 M) : Bad M0 f M' := ⟨h.1, hf.tr h.2.1, h.2.2.1, h.2.2.2⟩
/-- behind a failure something more is written: nothing of it matters -/
theorem Bad.mv {M0 M M' : mMem} {f : Int} (h : Bad M0 f M) (hf : FrRd M M') (ho : StOK M') (h5 : 0 ≤ M' 5 3 ∧ M' 5 3 ≤ 400) (h4 : ∀ i, M' 4 i = M 4 i) : Bad M0 f M' := ⟨⟨by rw [h4]; exact h.1.1, h.1.2⟩, h.2.1.tr hf, ho, h5⟩
/-- two operands and their operator -/
theorem bin_seg {M : mMem} {c0 z q1 q2 st : Int} {A E : Den} (h1 : SegC laws (M 7) c0 z q1 A) (h2 : SegC laws (M 7) z (M 5 3) q2 E) (hst : 3 ≤ st ∧ st < 11) : SegC laws (up (up M 7 (M 5 3) (st * 1024 + 0)) 5 3 (M 5 3 + 1) 7) c0 (M 5 3 + 1) (q1 + q2) (bnD (st + 17) A E) := by
  have hc := cs_of (st := st) (a := 0) (by omega) (by omega)
  have l1 := h1.lt
  have l2 := h2.lt
  have g1 := h1.congr (cd' := up (up M 7 (M 5 3) (st * 1024 + 0)) 5 3 (M 5 3 + 1) 7) (fun k p0 p1 => wr_7 _ _ _ (by omega))
  have g2 := h2.congr (cd' := up (up M 7 (M 5 3) (st * 1024 + 0)) 5 3 (M 5 3 + 1) 7) (fun k p0 p1 => wr_7 _ _ _ (by omega))
  have := SegC.bn g1 g2 (by rw [wr_7s, hc.1]; omega) (by rw [wr_7s, hc.1]; omega)
  rw [wr_7s, hc.1] at this; exact this
theorem c_enters (L : Lay S) {d : Nat} {M : mMem} {Q : Option mV → mSh → mMem → Prop} {p nl dp : Int} (h : CSt tp len li p nl dp M) (k1 : dp < 8 → ∀ M', CSt tp len li (tT tp len p) nl (dp + 1) M' → FrRd M M' → (∀ k, M' 7 k = M 7 k) → M' 5 3 = M 5 3 → Q (some (vI 1)) S M') (k0 : 8 ≤ dp → ∀ M', Bad M (tF tp len p) M' → Q (some (vI 0)) S M') : e_X2_enters (d + 1) S M Q := by
  have e8 := h.2.2.2.1
  have hd0 := h.2.2.2.2.2.2.2
  refine b_X2_enters_0 L (fun hq => b_X2_enters_14 L (by omega) ?_) (fun hq => b_X2_enters_9 L (c_wrong L h (fun M' b => b_X2_enters_13 (Or.inl rfl) (k0 (by omega) M' b))))
  rw [e8]
  have f0 : ∀ a i, ¬ (a = 4 ∧ i = 8) → up M 4 8 (dp + 1) a i = M a i := fun a i q => by by_cases e : a = 4; exact up_ni (by omega); exact up_na e
  have h1 : CSt tp len li p nl (dp + 1) (up M 4 8 (dp + 1)) := by
    obtain ⟨g1, g2, g3, g4, g5, g6, g7, g8⟩ := h
    exact ⟨g1.congr (fun a i q => f0 a i (by omega)), by rw [f0 _ _ (by decide)]; exact g2, by rw [f0 _ _ (by decide)]; exact g3, up_s _ _ _ _, by rw [f0 _ _ (by decide)]; exact g5, fun k q0 q1 => by rw [f0 _ _ (by omega)]; exact g6 k q0 q1, g7, by omega⟩
  refine c_nxS L h1 (fun M2 h2 f2 => b_X2_enters_28 (k1 (by omega) M2 h2 (fun a i q => ?_) (fun k => ?_) ?_))
  · rw [f2 a i (by omega)]; exact f0 a i (by omega)
  · rw [f2 _ _ (by omega)]; exact f0 _ _ (by omega)
  · rw [f2 _ _ (by omega)]; exact f0 _ _ (by omega)
theorem c_leaves (L : Lay S) {d : Nat} {M : mMem} {Q : Option mV → mSh → mMem → Prop} {p nl dp x1 b : Int} (hS : isS x1) (hw : strOf x1 = [b] ∧ ck b = 3 ∧ b ≠ 32) (h : CSt tp len li p nl dp M) (hd : 1 ≤ dp) (k1 : tS tp len p = 3 ∧ tW tp len p = b → ∀ M', CSt tp len li (tT tp len p) nl (dp - 1) M' → FrRd M M' → (∀ k, M' 7 k = M 7 k) → M' 5 3 = M 5 3 → Q (some (vI 1)) S M') (k0 : ¬ (tS tp len p = 3 ∧ tW tp len p = b) → ∀ M', Bad M (tF tp len p) M' → Q (some (vI 0)) S M') : e_X2_leaves (d + 1) x1 S M Q := by
  have e8 := h.2.2.2.1
  refine b_X2_leaves_0 L (c_isG L h.1 hS hw.1 hw.2.1 hw.2.2 (fun hq => b_X2_leaves_5 (fun _ => b_X2_leaves_13 L (by have := h.2.2.2.2.2.2.2; omega) ?_) (fun q => absurd q (by decide))) (fun hq => b_X2_leaves_5 (fun q => absurd rfl q) (fun _ => b_X2_leaves_8 L (c_wrong L h (fun M' b => b_X2_leaves_12 (Or.inl rfl) (k0 hq M' b))))))
  rw [e8]
  have f0 : ∀ a i, ¬ (a = 4 ∧ i = 8) → up M 4 8 (dp - 1) a i = M a i := fun a i q => by by_cases e : a = 4; exact up_ni (by omega); exact up_na e
  have h1 : CSt tp len li p nl (dp - 1) (up M 4 8 (dp - 1)) := by
    obtain ⟨g1, g2, g3, g4, g5, g6, g7, g8⟩ := h
    exact ⟨g1.congr (fun a i q => f0 a i (by omega)), by rw [f0 _ _ (by decide)]; exact g2, by rw [f0 _ _ (by decide)]; exact g3, up_s _ _ _ _, by rw [f0 _ _ (by decide)]; exact g5, fun k q0 q1 => by rw [f0 _ _ (by omega)]; exact g6 k q0 q1, g7, by omega⟩
  refine c_nxS L h1 (fun M2 h2 f2 => b_X2_leaves_27 (k1 hq M2 h2 (fun a i q => ?_) (fun k => ?_) ?_))
  · rw [f2 a i (by omega)]; exact f0 a i (by omega)
  · rw [f2 _ _ (by omega)]; exact f0 _ _ (by omega)
  · rw [f2 _ _ (by omega)]; exact f0 _ _ (by omega)
abbrev eP (S : mSh) : Nat → mMem → (Option mV → mSh → mMem → Prop) → Prop := fun D M Q => e_X2_part D S M Q
abbrev eT (S : mSh) : Nat → mMem → (Option mV → mSh → mMem → Prop) → Prop := fun D M Q => e_X2_term D S M Q
abbrev eU (S : mSh) : Nat → mMem → (Option mV → mSh → mMem → Prop) → Prop := fun D M Q => e_X2_sum D S M Q
/-- a bracketed sum, or a leaf -/
theorem rd_part (L : Lay S) (hli : (laws = true ∧ ¬ li = 0) ∨ (laws = false ∧ li = 0)) (n : Nat) (ihS : PMt S laws tp len li 4 (eU S) n) : PMt S laws tp len li 0 (eP S) (n + 1) := by
  intro Dp p nl dp M Q A hD h hmu k
  have hdp8 := h.2.2.2.2.2.2.2
  obtain ⟨D1, rfl⟩ : ∃ D1, Dp = D1 + 2 := ⟨Dp - 2, by omega⟩
  have bd := h.1.2.2.2.2.1.bd
  have hdp := h.2.2.2.2.2.2.2
  have hpl := h.1.2.2.2.1
  have hsz := h.2.2.2.2.1
  have e : prs tp len laws (n + 1) 0 A p nl dp = if tS tp len p = 3 ∧ tW tp len p = 91 then (if 8 ≤ dp then .inl (tF tp len p) else bRS (prs tp len laws n 4 A (tT tp len p) nl (dp + 1)) (fun q m D => if tS tp len q = 3 ∧ tW tp len q = 93 then .inr (tT tp len q, m, D) else .inl (tF tp len q))) else leafR tp len laws p nl := rfl
  obtain ⟨kg, kb⟩ := k
  rw [e] at kb
  refine b_X2_part_0 L (c_isG L h.1 is_177 ig_177.1 ig_177.2.1 ig_177.2.2 (fun hq => b_X2_part_6 (fun q => absurd q (by decide)) (fun _ => b_X2_part_9 L ?_)) (fun hq => b_X2_part_6 (fun _ => ?_) (fun q => absurd rfl q)))
  · rw [if_pos hq] at kb e
    refine c_enters L h (fun hd8 M1 h1 f1 g7 g53 => ?_) (fun hd8 M1 b1 => b_X2_part_13 (fun _ => b_X2_part_36 (kb _ M1 (by rw [if_pos hd8]) b1)) (fun q => absurd rfl q))
    rw [if_neg (by omega)] at kb e
    have hs3 := bd.2.2.2.2.2 (by omega)
    refine b_X2_part_13 (fun q => absurd q (by decide)) (fun _ => b_X2_part_16 L (ihS (D1 + 1) _ _ _ M1 _ A (by omega) h1 (by omega) ⟨fun q m D M2 eq _ gd => ?_, fun f M2 eq b2 => ?_⟩))
    · obtain ⟨g1, g2, g3, g4, g5, g6, g7'⟩ := gd
      rw [eq] at e kb
      refine b_X2_part_20 (fun q => absurd q (by decide)) (fun _ => b_X2_part_23 L (c_leaves L is_179 ig_179 g1 (by omega) (fun hr M3 h3 f3 k7 k53 => ?_) (fun hr M3 b3 => b_X2_part_29 (fun _ => b_X2_part_36 (kb _ M3 (if_neg hr) (b3.tr (f1.tr g4)))) (fun q => absurd rfl q))))
      refine b_X2_part_29 (fun q => absurd q (by decide)) (fun _ => b_X2_part_32 (kg (tT tp len q) m D M3 (e.trans (if_pos hr)) (fun q => absurd q (by decide)) ⟨?_, ?_, fun k q0 q1 => ?_, (f1.tr g4).tr f3, ?_, ?_, g7'⟩))
      · rw [show dp + 1 - 1 = dp by omega] at h3; exact h3
      · have := g2.congr (cd' := M3 7) (fun k _ _ => k7 k)
        rw [k53, ← g53]; exact this
      · rw [k7, g3 k q0 (by omega), g7]
      · have b3 := g1.1.2.2.2.2.1.bd
        rw [k53]; omega
      · have b3 := g1.1.2.2.2.2.1.bd
        omega
    · rw [eq] at kb
      exact b_X2_part_20 (fun _ => b_X2_part_36 (kb _ M2 rfl (b2.tr f1))) (fun q => absurd rfl q)
  · rw [if_neg hq] at kb e
    exact c_leafP L hli h (fun q m D M' eq gd => kg q m D M' (e.trans eq) (fun q => absurd q (by decide)) gd) (fun f M' eq b => kb f M' eq b)
theorem rd_term (L : Lay S) (n : Nat) (ihP : PMt S laws tp len li 0 (eP S) n) (ihL : PLp S laws tp len li 1 25 n) : PMt S laws tp len li 2 (eT S) (n + 1) := by
  intro Dp p nl dp M Q A hD h hmu k
  have hdp8 := h.2.2.2.2.2.2.2
  obtain ⟨D1, rfl⟩ : ∃ D1, Dp = D1 + 1 := ⟨Dp - 1, by omega⟩
  have hpl := h.1.2.2.2.1
  have hsz := h.2.2.2.2.1
  have e : prs tp len laws (n + 1) 2 A p nl dp = bRS (prs tp len laws n 0 A p nl dp) (fun q m D => prs tp len laws n 1 D q m dp) := rfl
  obtain ⟨kg, kb⟩ := k
  refine b_X2_term_0 L (ihP D1 _ _ _ M _ A (by omega) h (by omega) ⟨fun q m D M2 eq _ gd => ?_, fun f M2 eq b2 => ?_⟩)
  · obtain ⟨g1, g2, g3, g4, g5, g6, g7⟩ := gd
    have e2 : prs tp len laws (n + 1) 2 A p nl dp = prs tp len laws n 1 D q m dp := by rw [e, eq]; rfl
    have hq := g1.1.2.2.2.1
    refine b_X2_term_4 (ihL (D1 + 1) q m dp M2 Q D (M 5 3) nl p M 0 _ (by omega) g1 (by omega) ⟨hsz.1, hsz.2, g6, g7⟩ g2 (fun q => absurd q (by decide)) g5 g3 g4 (by omega) ⟨fun q' m' D' M' eq' hB gd' => kg q' m' D' M' (e2.trans eq') (fun q => absurd q (by decide)) gd', fun f M' eq' b => kb f M' (e2.trans eq') b⟩)
  · have e2 : prs tp len laws (n + 1) 2 A p nl dp = .inl f := by rw [e, eq]; rfl
    exact b_X2_term_4 (b_X2_term_7 (fun q => absurd q (by decide)) (fun _ => b_X2_term_14 (fun _ => b_X2_term_99 (Or.inl rfl) (kb f M2 e2 b2)) (fun q => absurd rfl q)))
theorem rd_sum (L : Lay S) (n : Nat) (ihP : PMt S laws tp len li 2 (eT S) n) (ihL : PLp S laws tp len li 3 24 n) : PMt S laws tp len li 4 (eU S) (n + 1) := by
  intro Dp p nl dp M Q A hD h hmu k
  have hdp8 := h.2.2.2.2.2.2.2
  obtain ⟨D1, rfl⟩ : ∃ D1, Dp = D1 + 1 := ⟨Dp - 1, by omega⟩
  have hpl := h.1.2.2.2.1
  have hsz := h.2.2.2.2.1
  have e : prs tp len laws (n + 1) 4 A p nl dp = bRS (prs tp len laws n 2 A p nl dp) (fun q m D => prs tp len laws n 3 D q m dp) := rfl
  obtain ⟨kg, kb⟩ := k
  refine b_X2_sum_0 L (ihP D1 _ _ _ M _ A (by omega) h (by omega) ⟨fun q m D M2 eq _ gd => ?_, fun f M2 eq b2 => ?_⟩)
  · obtain ⟨g1, g2, g3, g4, g5, g6, g7⟩ := gd
    have e2 : prs tp len laws (n + 1) 4 A p nl dp = prs tp len laws n 3 D q m dp := by rw [e, eq]; rfl
    have hq := g1.1.2.2.2.1
    refine b_X2_sum_4 (ihL (D1 + 1) q m dp M2 Q D (M 5 3) nl p M 0 _ (by omega) g1 (by omega) ⟨hsz.1, hsz.2, g6, g7⟩ g2 (fun q => absurd q (by decide)) g5 g3 g4 (by omega) ⟨fun q' m' D' M' eq' hB gd' => kg q' m' D' M' (e2.trans eq') (fun q => absurd q (by decide)) gd', fun f M' eq' b => kb f M' (e2.trans eq') b⟩)
  · have e2 : prs tp len laws (n + 1) 4 A p nl dp = .inl f := by rw [e, eq]; rfl
    exact b_X2_sum_4 (b_X2_sum_7 (fun q => absurd q (by decide)) (fun _ => b_X2_sum_14 (fun _ => b_X2_sum_75 (Or.inl rfl) (kb f M2 e2 b2)) (fun q => absurd rfl q)))
theorem rd_sumL (L : Lay S) (n : Nat) (ihP : PMt S laws tp len li 2 (eT S) n) (ihL : PLp S laws tp len li 3 24 n) : PLp S laws tp len li 3 24 (n + 1) := by
  intro Dp p nl dp M Q A c0 n0 p0 M0 i u3 hD h hmu hc hA _ hgr hpre hfr hi k
  have hdp8 := h.2.2.2.2.2.2.2
  obtain ⟨D1, rfl⟩ : ∃ D1, Dp = D1 + 1 := ⟨Dp - 1, by omega⟩
  have hpl := h.1.2.2.2.1
  have hl := h.1.1.1
  have hsz := h.2.2.2.2.1
  have bd := h.1.2.2.2.2.1.bd
  have e : prs tp len laws (n + 1) 3 A p nl dp = if addO (tS tp len p) (tW tp len p) = -1 then .inr (p, nl, A) else bRS (prs tp len laws n 2 A (tT tp len p) nl dp) (fun q m E => prs tp len laws n 3 (bnD (addO (tS tp len p) (tW tp len p)) A E) q m dp) := rfl
  obtain ⟨kg, kb⟩ := k
  have fin : addO (tS tp len p) (tW tp len p) = -1 → Q (some (vI 1)) S M := fun q => kg p nl A M (by rw [e, if_pos q]) (fun q => absurd q (by decide)) ⟨h, hA, hpre, hfr, hgr, hc.2.2.1, hc.2.2.2⟩
  have sc := sgn_c (tS tp len p) (tW tp len p) 43 45 45 20 21 21
  have go : ∀ st, 3 ≤ st ∧ st ≤ 4 → addO (tS tp len p) (tW tp len p) = st + 17 → tS tp len p = 3 → ∀ M1, CSt tp len li (tT tp len p) nl dp M1 → FrN4 M M1 → WP PR (D1 + 1) 24 55 [vA 4, vI 1, vI i, vI st] [] S M1 Q := by
    intro st hst hop hs3 M1 h1 f1
    have hsT := bd.2.2.2.2.2 (by omega)
    rw [hop, if_neg (by omega)] at e
    have z1 : M1 5 3 = M 5 3 := f1 _ _ (by omega)
    have k1 : ∀ k, M1 7 k = M 7 k := fun k => f1 _ _ (by omega)
    have ht1 := h1.1.2.2.2.1
    refine b_X2_sum_55 L (ihP D1 _ _ _ M1 _ A (by omega) h1 (by omega) ⟨fun q m E M2 eq _ gd => ?_, fun f M2 eq b2 => ?_⟩)
    · obtain ⟨g1, g2, g3, g4, g5, g6, g7⟩ := gd
      have e2 : prs tp len laws (n + 1) 3 A p nl dp = prs tp len laws n 3 (bnD (st + 17) A E) q m dp := by rw [e, eq]; rfl
      have hq := g1.1.2.2.2.1
      have hA2 : SegC laws (M2 7) c0 (M1 5 3) (nl - n0) A := by
        rw [z1]; exact hA.congr (fun k p0' p1 => by rw [g3 k (by omega) (by omega), k1])
      have hs2 : M2 5 3 < q := by omega
      have hsg := bin_seg (laws := laws) (M := M2) hA2 g2 (st := st) (by omega)
      refine b_X2_sum_59 L (c_write1 L rfl (by have := g1.2.2.2.2.1; omega) (by omega) (b_X2_sum_69 (by omega) ?_))
      have w := g1.wr (v := st * 1024 + 0) (by omega) hs2
      refine ihL (D1 + 1) q m dp _ Q (bnD (st + 17) A E) c0 n0 p0 M0 (i + 1) _ (by omega) w (by omega) ⟨hc.1, hc.2.1, by omega, by omega⟩ ?_ (fun q => absurd q (by decide)) (by rw [up_s]; omega) (fun k q0 q1 => ?_) (((hfr.tr (FrRd.ofN f1)).tr g4).tr (wr_fr _ _ _ _)) (by omega) ⟨fun q' m' D' M' eq' hB gd' => kg q' m' D' M' (e2.trans eq') hB gd', fun f M' eq' b => kb f M' (e2.trans eq') b⟩
      · rw [up_s, show m - n0 = nl - n0 + (m - nl) by omega]; exact hsg
      · have lA := hA.lt
        rw [wr_7 _ _ _ (by have := g2.lt; omega), g3 k q0 (by omega), k1, hpre k q0 q1]
    · have e2 : prs tp len laws (n + 1) 3 A p nl dp = .inl f := by rw [e, eq]; rfl
      refine b_X2_sum_59 L (c_writeB L b2.2.2.2 b2.2.2.1 (by omega) (fun M3 f3 o3 s3 q3 => b_X2_sum_69 (by omega) (b_X2_sum_7 (fun _ => b_X2_sum_75 (Or.inl rfl) ?_) (fun _ => b_X2_sum_14 (fun _ => b_X2_sum_75 (Or.inl rfl) ?_) (fun q => absurd rfl q)))))
      · exact kb f M3 e2 ((b2.mv f3 o3 s3 q3).tr (hfr.tr (FrRd.ofN f1)))
      · exact kb f M3 e2 ((b2.mv f3 o3 s3 q3).tr (hfr.tr (FrRd.ofN f1)))
  refine b_X2_sum_7 (fun q => absurd q (by omega)) (fun _ => b_X2_sum_14 (fun q => absurd q (by decide)) (fun _ => b_X2_sum_18 L ?_))
  -- which sign
  have at36 : (tS tp len p = 3 ∧ (tW tp len p = 43 ∨ tW tp len p = 45)) → WP PR (D1 + 1) 24 36 [vA 4, vI 1, vI i, u3] [] S M Q := fun hq =>
    b_X2_sum_36 L (c_isG L h.1 is_164 ig_164.1 ig_164.2.1 ig_164.2.2 (fun h43 => b_X2_sum_42 (fun q => absurd q (by decide)) (fun _ => b_X2_sum_45 L (c_nxS L h (fun M1 h1 f1 => go 3 (by decide) (by unfold addO; omega) hq.1 M1 h1 f1)))) (fun h43 => b_X2_sum_42 (fun _ => b_X2_sum_49 L (c_nxS L h (fun M1 h1 f1 => go 4 (by decide) (by unfold addO; omega) hq.1 M1 h1 f1))) (fun q => absurd rfl q)))
  refine c_isG L h.1 is_164 ig_164.1 ig_164.2.1 ig_164.2.2 (fun h43 => b_X2_sum_24 (fun _ => at36 ⟨h43.1, Or.inl h43.2⟩) (fun q => absurd q (by decide))) (fun h43 => b_X2_sum_24 (fun q => absurd rfl q) (fun _ => b_X2_sum_27 L (c_isG L h.1 is_166 ig_166.1 ig_166.2.1 ig_166.2.2 (fun h45 => b_X2_sum_33 (fun q => absurd q (by decide)) (fun _ => at36 ⟨h45.1, Or.inr h45.2⟩)) (fun h45 => b_X2_sum_33 (fun _ => b_X2_sum_75 (Or.inr rfl) (fin ?_)) (fun q => absurd rfl q)))))
  unfold addO; omega
theorem rd_termL (L : Lay S) (n : Nat) (ihP : PMt S laws tp len li 0 (eP S) n) (ihL : PLp S laws tp len li 1 25 n) : PLp S laws tp len li 1 25 (n + 1) := by
  intro Dp p nl dp M Q A c0 n0 p0 M0 i u3 hD h hmu hc hA _ hgr hpre hfr hi k
  have hdp8 := h.2.2.2.2.2.2.2
  obtain ⟨D1, rfl⟩ : ∃ D1, Dp = D1 + 1 := ⟨Dp - 1, by omega⟩
  have hpl := h.1.2.2.2.1
  have hl := h.1.1.1
  have hsz := h.2.2.2.2.1
  have bd := h.1.2.2.2.2.1.bd
  have e : prs tp len laws (n + 1) 1 A p nl dp = if mulO (tS tp len p) (tW tp len p) = -1 then .inr (p, nl, A) else bRS (prs tp len laws n 0 A (tT tp len p) nl dp) (fun q m E => prs tp len laws n 1 (bnD (mulO (tS tp len p) (tW tp len p)) A E) q m dp) := rfl
  obtain ⟨kg, kb⟩ := k
  have fin : mulO (tS tp len p) (tW tp len p) = -1 → Q (some (vI 1)) S M := fun q => kg p nl A M (by rw [e, if_pos q]) (fun q => absurd q (by decide)) ⟨h, hA, hpre, hfr, hgr, hc.2.2.1, hc.2.2.2⟩
  have sc := sgn_c (tS tp len p) (tW tp len p) 42 47 37 22 23 24
  have go : ∀ st, 5 ≤ st ∧ st ≤ 7 → mulO (tS tp len p) (tW tp len p) = st + 17 → tS tp len p = 3 → ∀ M1, CSt tp len li (tT tp len p) nl dp M1 → FrN4 M M1 → WP PR (D1 + 1) 25 79 [vA 4, vI 1, vI i, vI st] [] S M1 Q := by
    intro st hst hop hs3 M1 h1 f1
    have hsT := bd.2.2.2.2.2 (by omega)
    rw [hop, if_neg (by omega)] at e
    have z1 : M1 5 3 = M 5 3 := f1 _ _ (by omega)
    have k1 : ∀ k, M1 7 k = M 7 k := fun k => f1 _ _ (by omega)
    have ht1 := h1.1.2.2.2.1
    refine b_X2_term_79 L (ihP D1 _ _ _ M1 _ A (by omega) h1 (by omega) ⟨fun q m E M2 eq _ gd => ?_, fun f M2 eq b2 => ?_⟩)
    · obtain ⟨g1, g2, g3, g4, g5, g6, g7⟩ := gd
      have e2 : prs tp len laws (n + 1) 1 A p nl dp = prs tp len laws n 1 (bnD (st + 17) A E) q m dp := by rw [e, eq]; rfl
      have hq := g1.1.2.2.2.1
      have hA2 : SegC laws (M2 7) c0 (M1 5 3) (nl - n0) A := by
        rw [z1]; exact hA.congr (fun k p0' p1 => by rw [g3 k (by omega) (by omega), k1])
      have hs2 : M2 5 3 < q := by omega
      have hsg := bin_seg (laws := laws) (M := M2) hA2 g2 (st := st) (by omega)
      refine b_X2_term_83 L (c_write1 L rfl (by have := g1.2.2.2.2.1; omega) (by omega) (b_X2_term_93 (by omega) ?_))
      have w := g1.wr (v := st * 1024 + 0) (by omega) hs2
      refine ihL (D1 + 1) q m dp _ Q (bnD (st + 17) A E) c0 n0 p0 M0 (i + 1) _ (by omega) w (by omega) ⟨hc.1, hc.2.1, by omega, by omega⟩ ?_ (fun q => absurd q (by decide)) (by rw [up_s]; omega) (fun k q0 q1 => ?_) (((hfr.tr (FrRd.ofN f1)).tr g4).tr (wr_fr _ _ _ _)) (by omega) ⟨fun q' m' D' M' eq' hB gd' => kg q' m' D' M' (e2.trans eq') hB gd', fun f M' eq' b => kb f M' (e2.trans eq') b⟩
      · rw [up_s, show m - n0 = nl - n0 + (m - nl) by omega]; exact hsg
      · have lA := hA.lt
        rw [wr_7 _ _ _ (by have := g2.lt; omega), g3 k q0 (by omega), k1, hpre k q0 q1]
    · have e2 : prs tp len laws (n + 1) 1 A p nl dp = .inl f := by rw [e, eq]; rfl
      refine b_X2_term_83 L (c_writeB L b2.2.2.2 b2.2.2.1 (by omega) (fun M3 f3 o3 s3 q3 => b_X2_term_93 (by omega) (b_X2_term_7 (fun _ => b_X2_term_99 (Or.inl rfl) ?_) (fun _ => b_X2_term_14 (fun _ => b_X2_term_99 (Or.inl rfl) ?_) (fun q => absurd rfl q)))))
      · exact kb f M3 e2 ((b2.mv f3 o3 s3 q3).tr (hfr.tr (FrRd.ofN f1)))
      · exact kb f M3 e2 ((b2.mv f3 o3 s3 q3).tr (hfr.tr (FrRd.ofN f1)))
  refine b_X2_term_7 (fun q => absurd q (by omega)) (fun _ => b_X2_term_14 (fun q => absurd q (by decide)) (fun _ => b_X2_term_18 L ?_))
  have at45 : (tS tp len p = 3 ∧ (tW tp len p = 42 ∨ tW tp len p = 47 ∨ tW tp len p = 37)) → WP PR (D1 + 1) 25 45 [vA 4, vI 1, vI i, u3] [] S M Q := fun hq =>
    b_X2_term_45 L (c_isG L h.1 is_171 ig_171.1 ig_171.2.1 ig_171.2.2 (fun h1 => b_X2_term_51 (fun q => absurd q (by decide)) (fun _ => b_X2_term_54 L (c_nxS L h (fun M1 h1 f1 => go 5 (by decide) (by unfold mulO; omega) hq.1 M1 h1 f1)))) (fun h1 => b_X2_term_51 (fun _ => b_X2_term_58 L (c_isG L h.1 is_173 ig_173.1 ig_173.2.1 ig_173.2.2 (fun h2 => b_X2_term_64 (fun q => absurd q (by decide)) (fun _ => b_X2_term_67 L (c_nxS L h (fun M1 h1 f1 => go 6 (by decide) (by unfold mulO; omega) hq.1 M1 h1 f1)))) (fun h2 => b_X2_term_64 (fun _ => b_X2_term_72 L (c_nxS L h (fun M1 h1 f1 => go 7 (by decide) (by unfold mulO; omega) hq.1 M1 h1 f1))) (fun q => absurd rfl q)))) (fun q => absurd rfl q)))
  refine c_isG L h.1 is_171 ig_171.1 ig_171.2.1 ig_171.2.2 (fun h1 => b_X2_term_24 (fun _ => at45 ⟨h1.1, Or.inl h1.2⟩) (fun q => absurd q (by decide))) (fun h1 => b_X2_term_24 (fun q => absurd rfl q) (fun _ => b_X2_term_27 L (c_isG L h.1 is_173 ig_173.1 ig_173.2.1 ig_173.2.2 (fun h2 => b_X2_term_33 (fun _ => at45 ⟨h2.1, Or.inr (Or.inl h2.2)⟩) (fun q => absurd q (by decide))) (fun h2 => b_X2_term_33 (fun q => absurd rfl q) (fun _ => b_X2_term_36 L (c_isG L h.1 is_175 ig_175.1 ig_175.2.1 ig_175.2.2 (fun h3 => b_X2_term_42 (fun q => absurd q (by decide)) (fun _ => at45 ⟨h3.1, Or.inr (Or.inr h3.2)⟩)) (fun h3 => b_X2_term_42 (fun _ => b_X2_term_99 (Or.inr rfl) (fin ?_)) (fun q => absurd rfl q))))))))
  unfold mulO; omega
end BG
