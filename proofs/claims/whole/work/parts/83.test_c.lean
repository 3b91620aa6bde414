/-! The class reads tests as the function says (the loops by program: wip/whole/gen83.py). -/
section BT
variable {S : mSh} {tp : Int → Int} {len li : Int} {laws : Bool}
abbrev eC (S : mSh) : Nat → mMem → (Option mV → mSh → mMem → Prop) → Prop := fun D M Q => e_X2_compared D S M Q
abbrev eN (S : mSh) : Nat → mMem → (Option mV → mSh → mMem → Prop) → Prop := fun D M Q => e_X2_plain D S M Q
abbrev eB (S : mSh) : Nat → mMem → (Option mV → mSh → mMem → Prop) → Prop := fun D M Q => e_X2_both D S M Q
abbrev eX (S : mSh) : Nat → mMem → (Option mV → mSh → mMem → Prop) → Prop := fun D M Q => e_X2_test D S M Q
theorem rd_cmp (L : Lay S) (n : Nat) (ihS : PMt S laws tp len li 4 (eU S) n) : PMt S laws tp len li 5 (eC S) (n + 1) := by
  intro Dp p nl dp M Q A hD h hmu k
  have hdp8 := h.2.2.2.2.2.2.2
  obtain ⟨D1, rfl⟩ : ∃ D1, Dp = D1 + 1 := ⟨Dp - 1, by omega⟩
  have hpl := h.1.2.2.2.1
  have hl := h.1.1.1
  have hsz := h.2.2.2.2.1
  have e : prs tp len laws (n + 1) 5 A p nl dp = bRS (prs tp len laws n 4 A p nl dp) (fun q m D => if cmpO (tS tp len q) (tW tp len q) = -1 then .inl (tF tp len q) else bRS (prs tp len laws n 4 A (tT tp len q) m dp) (fun r l E => .inr (r, l, bnD (cmpO (tS tp len q) (tW tp len q)) D E))) := rfl
  obtain ⟨kg, kb⟩ := k
  refine b_X2_compared_0 L (ihS D1 _ _ _ M _ A (by omega) h (by omega) ⟨fun q m D M1 eq _ gd => ?_, fun f M2 eq b2 => ?_⟩)
  · obtain ⟨g1, g2, g3, g4, g5, g6, g7⟩ := gd
    have e1 : prs tp len laws (n + 1) 5 A p nl dp = if cmpO (tS tp len q) (tW tp len q) = -1 then .inl (tF tp len q) else bRS (prs tp len laws n 4 A (tT tp len q) m dp) (fun r l E => .inr (r, l, bnD (cmpO (tS tp len q) (tW tp len q)) D E)) := by rw [e, eq]; rfl
    have bd := g1.1.2.2.2.2.1.bd
    have hq := g1.1.2.2.2.1
    have sc := sgn_c (tS tp len q) (tW tp len q) 60 62 61 25 26 27
    have go : ∀ st, 8 ≤ st ∧ st ≤ 10 → cmpO (tS tp len q) (tW tp len q) = st + 17 → tS tp len q = 3 → ∀ M2 u2, CSt tp len li (tT tp len q) m dp M2 → FrN4 M1 M2 → WP PR (D1 + 1) 23 67 [vA 4, vI st, u2] [] S M2 Q := by
      intro st hst hop hs3 M2 u2 h2 f2
      have hsT := bd.2.2.2.2.2 (by omega)
      rw [hop, if_neg (by omega)] at e1
      have z1 : M2 5 3 = M1 5 3 := f2 _ _ (by omega)
      have k1 : ∀ k, M2 7 k = M1 7 k := fun k => f2 _ _ (by omega)
      refine b_X2_compared_67 L (ihS D1 _ _ _ M2 _ A (by omega) h2 (by omega) ⟨fun r l E M3 eq2 _ gd => ?_, fun f M3 eq2 b3 => ?_⟩)
      · obtain ⟨a1, a2, a3, a4, a5, a6, a7⟩ := gd
        have e2 : prs tp len laws (n + 1) 5 A p nl dp = .inr (r, l, bnD (st + 17) D E) := by rw [e1, eq2]; rfl
        have hr := a1.1.2.2.2.1
        have hA2 : SegC laws (M3 7) (M 5 3) (M2 5 3) (m - nl) D := by
          rw [z1]; exact g2.congr (fun k p0' p1 => by rw [a3 k (by omega) (by omega), k1])
        have hs2 : M3 5 3 < r := by omega
        have hsg := bin_seg (laws := laws) (M := M3) hA2 a2 (st := st) (by omega)
        have w := a1.wr (v := st * 1024 + 0) (by omega) hs2
        refine b_X2_compared_71 L (c_write1 L rfl (by have := a1.2.2.2.2.1; omega) (by omega) (b_X2_compared_81 (Or.inr rfl) (kg r l _ _ e2 (fun _ => bn_isB (by omega) _ _) ⟨w, ?_, fun k q0 q1 => ?_, ((g4.tr (FrRd.ofN f2)).tr a4).tr (wr_fr _ _ _ _), ?_, by omega, by omega⟩)))
        · rw [up_s, show l - nl = m - nl + (l - m) by omega]; exact hsg
        · have lA := g2.lt
          rw [wr_7 _ _ _ (by have := a2.lt; omega), a3 k q0 (by omega), k1, g3 k q0 q1]
        · rw [up_s]; omega
      · have e2 : prs tp len laws (n + 1) 5 A p nl dp = .inl f := by rw [e1, eq2]; rfl
        refine b_X2_compared_71 L (c_writeB L b3.2.2.2 b3.2.2.1 (by omega) (fun M4 f4 o4 s4 q4 => b_X2_compared_81 (Or.inl rfl) (kb f M4 e2 ((b3.mv f4 o4 s4 q4).tr (g4.tr (FrRd.ofN f2))))))
    refine b_X2_compared_4 (fun _ => b_X2_compared_9 L ?_) (fun q => absurd q (by decide))
    refine c_isG L g1.1 is_155 ig_155.1 ig_155.2.1 ig_155.2.2 (fun h1 => b_X2_compared_15 (fun q => absurd q (by decide)) (fun _ => b_X2_compared_18 L (c_nxS L g1 (fun M2 h2 f2 => go 8 (by decide) (by unfold cmpO; omega) h1.1 M2 _ h2 f2)))) (fun h1 => b_X2_compared_15 (fun _ => b_X2_compared_23 L ?_) (fun q => absurd rfl q))
    refine c_isG L g1.1 is_157 ig_157.1 ig_157.2.1 ig_157.2.2 (fun h2 => b_X2_compared_29 (fun q => absurd q (by decide)) (fun _ => b_X2_compared_32 L (c_nxS L g1 (fun M2 h2' f2 => go 9 (by decide) (by unfold cmpO; omega) h2.1 M2 _ h2' f2)))) (fun h2 => b_X2_compared_29 (fun _ => b_X2_compared_37 L ?_) (fun q => absurd rfl q))
    refine c_isG L g1.1 is_159 ig_159.1 ig_159.2.1 ig_159.2.2 (fun h3 => b_X2_compared_43 (fun q => absurd q (by decide)) (fun _ => b_X2_compared_46 L (c_nxS L g1 (fun M2 h2' f2 => go 10 (by decide) (by unfold cmpO; omega) h3.1 M2 _ h2' f2)))) (fun h3 => b_X2_compared_43 (fun _ => b_X2_compared_51 L (c_wrong L g1 (fun M2 b2 => b_X2_compared_62 (Or.inl rfl) (kb _ M2 (e1.trans (if_pos (by unfold cmpO; omega))) (b2.tr g4))))) (fun q => absurd rfl q))
  · have e2 : prs tp len laws (n + 1) 5 A p nl dp = .inl f := by rw [e, eq]; rfl
    exact b_X2_compared_4 (fun q => absurd rfl q) (fun _ => b_X2_compared_7 (kb f M2 e2 b2))
/-- a plain behind some nots: turned or not -/
def PPl (S : mSh) (laws : Bool) (tp : Int → Int) (len li : Int) (n : Nat) : Prop :=
  ∀ (Dp : Nat) (p nl dp : Int) (M : mMem) (Q : Option mV → mSh → mMem → Prop) (A : Den) (p0 tb i : Int) (M0 : mMem),  20 * (8 - dp) + 16 ≤ (Dp : Int) → CSt tp len li p nl dp M → 11 * (len - p) + 6 < n → (M0 5 3 ≤ p0 ∧ p0 ≤ p) → M 5 3 = M0 5 3 → (∀ k, M 7 k = M0 7 k) → FrRd M0 M → (0 ≤ i ∧ 2 * i ≤ p) → (tb = 0 ∨ (tb = 1 ∧ p0 < p)) →
    (∀ q m D M', prs tp len laws n 6 A p nl dp = .inr (q, m, D) → isB D → Good laws tp len li (M0 5 3) nl p0 M0 q m dp (if tb = 1 then ntD D else D) M' → Q (some (vI 1)) S M') →
    (∀ f M', prs tp len laws n 6 A p nl dp = .inl f → Bad M0 f M' → Q (some (vI 0)) S M') → WP PR Dp 22 4 [vA 4, vI tb, vI i] [] S M Q
theorem rd_plainL (L : Lay S) (n : Nat) (ihC : PMt S laws tp len li 5 (eC S) n) (ihX : PMt S laws tp len li 10 (eX S) n) (ihL : PPl S laws tp len li n) : PPl S laws tp len li (n + 1) := by
  intro Dp p nl dp M Q A p0 tb i M0 hD h hmu hp0 h53 h7 hfr hi htb kg kb
  have hdp8 := h.2.2.2.2.2.2.2
  obtain ⟨D1, rfl⟩ : ∃ D1, Dp = D1 + 2 := ⟨Dp - 2, by omega⟩
  have hpl := h.1.2.2.2.1
  have hl := h.1.1.1
  have hsz := h.2.2.2.2.1
  have bd := h.1.2.2.2.2.1.bd
  have hdp := h.2.2.2.2.2.2.2
  have e : prs tp len laws (n + 1) 6 A p nl dp = if tS tp len p = 1 ∧ tW tp len p = 14836 then bRS (prs tp len laws n 6 A (tT tp len p) nl dp) (fun q m D => .inr (q, m, ntD D)) else if tS tp len p = 3 ∧ tW tp len p = 40 then (if 8 ≤ dp then .inl (tF tp len p) else bRS (prs tp len laws n 10 A (tT tp len p) nl (dp + 1)) (fun q m D => if tS tp len q = 3 ∧ tW tp len q = 41 then .inr (tT tp len q, m, D) else .inl (tF tp len q))) else prs tp len laws n 5 A p nl dp := rfl
  -- what was read, turned where it must be
  have fin : ∀ (M2 : mMem) (q m : Int) (D : Den) (x2 : Int), x2 = 1 → prs tp len laws (n + 1) 6 A p nl dp = .inr (q, m, D) → isB D → CSt tp len li q m dp M2 → SegC laws (M2 7) (M0 5 3) (M2 5 3) (m - nl) D → (∀ k, 0 ≤ k → k < M0 5 3 → M2 7 k = M0 7 k) → FrRd M0 M2 → M2 5 3 - M0 5 3 ≤ q - p → p < q → nl < m → (tb = 0 → WP PR (D1 + 2) 22 103 [vA 4, vI tb, vI x2] [] S M2 Q) ∧ (¬ tb = 0 → WP PR (D1 + 2) 22 93 [vA 4, vI tb, vI x2] [] S M2 Q) := by
    intro M2 q m D x2 hx eq hB c1 c2 c3 c4 c5 c6 c7
    subst hx
    have hq := c1.1.2.2.2.1
    have hs2 : ¬ tb = 0 → M2 5 3 < q := fun _ => by omega
    refine ⟨fun h0 => b_X2_plain_103 (Or.inr rfl) (kg q m D M2 eq hB ?_), fun h0 => b_X2_plain_93 L (c_write1 L rfl (by have := c1.2.2.2.2.1; have := hs2 h0; omega) (by decide) (b_X2_plain_103 (Or.inr rfl) (kg q m D _ eq hB ?_)))⟩
    · rw [if_neg (by omega)]
      exact ⟨c1, c2, c3, c4, by omega, by omega, c7⟩
    · have w := c1.wr (v := 11 * 1024 + 0) (by decide) (hs2 h0)
      have hc := cs_of (st := 11) (a := 0) (by decide) (by decide)
      rw [if_pos (by omega)]
      refine ⟨w, ?_, fun k q0 q1 => by rw [wr_7 _ _ _ (by have := c2.lt; omega), c3 k q0 q1], c4.tr (wr_fr _ _ _ _), by rw [up_s]; omega, by omega, c7⟩
      rw [up_s]
      exact SegC.nt (c2.congr (fun k p0 p1 => wr_7 _ _ _ (by omega))) hB (by rw [wr_7s, hc.1])
  refine b_X2_plain_4 (fun q => absurd q (by omega)) (fun _ => b_X2_plain_11 L (c_isW L h.1 is_140 iw_140.1 iw_140.2 (fun hn => b_X2_plain_17 (fun q => absurd q (by decide)) (fun _ => ?_)) (fun hn => b_X2_plain_17 (fun _ => b_X2_plain_40 L ?_) (fun q => absurd rfl q))))
  · rw [if_pos hn] at e
    have hsT := bd.2.2.2.2.2 (by omega)
    have h3 : tT tp len p = tF tp len p + 3 := by
      have := ((twd_word h.1.2.2.2.2.1 iw_140.1).mpr ⟨hn.1, by rw [iw_140.2]; exact hn.2⟩).1
      rw [show strOf (-140) = [110, 111, 116] from by decide] at this
      simp at this; omega
    have nx : ∀ tb', tb' = 1 - tb → ∀ M1, CSt tp len li (tT tp len p) nl dp M1 → FrN4 M M1 → WP PR (D1 + 2) 22 34 [vA 4, vI tb', vI i] [] S M1 Q := by
      intro tb' htb' M1 h1 f1
      refine b_X2_plain_34 (by omega) (ihL (D1 + 2) _ nl dp M1 Q A p0 tb' (i + 1) M0 (by omega) h1 (by omega) (by omega) (by rw [f1 _ _ (by omega)]; exact h53) (fun k => by rw [f1 _ _ (by omega)]; exact h7 k) (hfr.tr (FrRd.ofN f1)) (by omega) (by omega) (fun q m D M' eq hB gd => kg q m (ntD D) M' (by rw [e, eq]; rfl) (nt_isB hB) ?_) (fun f M' eq b => kb f M' (by rw [e, eq]; rfl) b))
      rcases htb with ht | ⟨ht, -⟩
      · rw [if_neg (by omega)]; rw [if_pos (by omega)] at gd; exact gd
      · rw [if_pos ht, nt_nt]; rw [if_neg (by omega)] at gd; exact gd
    exact b_X2_plain_20 (fun ht => b_X2_plain_28 L (c_nxS L h (fun M1 h1 f1 => nx 0 (by omega) M1 h1 f1))) (fun ht => b_X2_plain_24 L (c_nxS L h (fun M1 h1 f1 => nx 1 (by omega) M1 h1 f1)))
  · rw [if_neg hn] at e
    refine c_isG L h.1 is_142 ig_142.1 ig_142.2.1 ig_142.2.2 (fun hb => b_X2_plain_46 (fun q => absurd q (by decide)) (fun _ => b_X2_plain_49 L ?_)) (fun hb => b_X2_plain_46 (fun _ => b_X2_plain_80 L ?_) (fun q => absurd rfl q))
    · rw [if_pos hb] at e
      have hsT := bd.2.2.2.2.2 (by omega)
      refine c_enters L h (fun hd8 M1 h1 f1 g7 g53 => ?_) (fun hd8 M1 b1 => b_X2_plain_53 (fun _ => b_X2_plain_76 (kb _ M1 (e.trans (if_pos hd8)) (b1.tr hfr))) (fun q => absurd rfl q))
      rw [if_neg (by omega)] at e
      refine b_X2_plain_53 (fun q => absurd q (by decide)) (fun _ => b_X2_plain_56 L (ihX (D1 + 1) _ _ _ M1 _ A (by omega) h1 (by omega) ⟨fun q m D M2 eq hB gd => ?_, fun f M2 eq b2 => ?_⟩))
      · obtain ⟨g1, g2, g3, g4, g5, g6, g7'⟩ := gd
        rw [eq] at e
        refine b_X2_plain_60 (fun q => absurd q (by decide)) (fun _ => b_X2_plain_63 L (c_leaves L is_147 ig_147 g1 (by omega) (fun hr M3 h3 f3 k7 k53 => ?_) (fun hr M3 b3 => b_X2_plain_69 (fun _ => b_X2_plain_76 (kb _ M3 (e.trans (if_neg hr)) (b3.tr ((hfr.tr f1).tr g4)))) (fun q => absurd rfl q))))
        have b3 := g1.1.2.2.2.2.1.bd
        rw [show dp + 1 - 1 = dp by omega] at h3
        have f := fin M3 (tT tp len q) m D 1 rfl (e.trans (if_pos hr)) (hB (by decide)) h3 (by
          have := g2.congr (cd' := M3 7) (fun k _ _ => k7 k)
          rw [k53, ← h53, ← g53]; exact this) (fun k q0 q1 => by rw [k7, g3 k q0 (by omega), g7, h7]) (((hfr.tr f1).tr g4).tr f3) (by rw [k53]; omega) (by omega) g7'
        exact b_X2_plain_69 (fun q => absurd q (by decide)) (fun _ => b_X2_plain_72 (fun h0 => f.1 h0) (fun h0 => f.2 h0))
      · rw [eq] at e
        exact b_X2_plain_60 (fun _ => b_X2_plain_76 (kb _ M2 e (b2.tr (hfr.tr f1)))) (fun q => absurd rfl q)
    · rw [if_neg hb] at e
      refine ihC (D1 + 1) _ _ _ M _ A (by omega) h (by omega) ⟨fun q m D M2 eq hB gd => ?_, fun f M2 eq b2 => ?_⟩
      · obtain ⟨g1, g2, g3, g4, g5, g6, g7'⟩ := gd
        have f := fin M2 q m D 1 rfl (e.trans eq) (hB (by decide)) g1 (by rw [← h53]; exact g2) (fun k q0 q1 => by rw [g3 k q0 (by omega), h7]) (hfr.tr g4) (by omega) g6 g7'
        exact b_X2_plain_84 (fun q => absurd q (by decide)) (fun _ => b_X2_plain_89 (fun h0 => f.1 h0) (fun h0 => f.2 h0))
      · exact b_X2_plain_84 (fun _ => b_X2_plain_103 (Or.inl rfl) (kb f M2 (e.trans eq) (b2.tr hfr))) (fun q => absurd rfl q)
theorem rd_plain (L : Lay S) (n : Nat) (ihL : PPl S laws tp len li n) : PMt S laws tp len li 6 (eN S) n := by
  intro Dp p nl dp M Q A hD h hmu k
  have hdp8 := h.2.2.2.2.2.2.2
  have hpl := h.1.2.2.2.1
  refine b_X2_plain_0 (ihL Dp p nl dp M Q A p 0 0 M (by omega) h hmu ⟨by have := h.2.2.2.2.1; omega, Int.le_refl _⟩ rfl (fun _ => rfl) (FrRd.rf M) (by omega) (Or.inl rfl) (fun q m D M' eq hB gd => k.1 q m D M' eq (fun _ => hB) ?_) k.2)
  rw [if_neg (by decide)] at gd; exact gd
theorem rd_bothL (L : Lay S) (n : Nat) (ihP : PMt S laws tp len li 6 (eN S) n) (ihL : PLp S laws tp len li 7 21 n) : PLp S laws tp len li 7 21 (n + 1) := by
  intro Dp p nl dp M Q A c0 n0 p0 M0 i u3 hD h hmu hc hA hAB hgr hpre hfr hi k
  have hdp8 := h.2.2.2.2.2.2.2
  obtain ⟨D1, rfl⟩ : ∃ D1, Dp = D1 + 1 := ⟨Dp - 1, by omega⟩
  have hpl := h.1.2.2.2.1
  have hl := h.1.1.1
  have hsz := h.2.2.2.2.1
  have bd := h.1.2.2.2.2.1.bd
  have hAb := hAB (by decide)
  have e : prs tp len laws (n + 1) 7 A p nl dp = if tS tp len p = 1 ∧ tW tp len p = 1476 then bRS (prs tp len laws n 6 A (tT tp len p) nl dp) (fun q m E => prs tp len laws n 7 (aoD 29 A E) q m dp) else .inr (p, nl, A) := rfl
  obtain ⟨kg, kb⟩ := k
  refine b_X2_both_7 (fun q => absurd q (by omega)) (fun _ => b_X2_both_14 (fun q => absurd q (by decide)) (fun _ => b_X2_both_18 L (c_isW L h.1 is_138 iw_138.1 iw_138.2 (fun hw => b_X2_both_24 (fun q => absurd q (by decide)) (fun _ => ?_)) (fun hw => b_X2_both_24 (fun _ => b_X2_both_68 (Or.inr rfl) (kg p nl A M (by rw [e, if_neg hw]) (fun _ => hAb) ⟨h, hA, hpre, hfr, hgr, hc.2.2.1, hc.2.2.2⟩)) (fun q => absurd rfl q)))))
  rw [if_pos hw] at e
  have hsT := bd.2.2.2.2.2 (by omega)
  have lA := hA.lt
  refine b_X2_both_27 L (c_write1 L rfl (by omega) (by decide) (b_X2_both_45 L ?_))
  generalize hM1 : up (up M 7 (M 5 3) (12 * 1024 + 0)) 5 3 (M 5 3 + 1) = M1
  have f1 : FrRd M M1 := by rw [← hM1]; exact wr_fr _ _ _ _
  have z1 : M1 5 3 = M 5 3 + 1 := by rw [← hM1]; exact up_s _ _ _ _
  have k1 : ∀ k, k ≠ M 5 3 → M1 7 k = M 7 k := fun k q => by rw [← hM1]; exact wr_7 _ _ _ q
  have k1s : M1 7 (M 5 3) = 12 * 1024 + 0 := by rw [← hM1]; exact wr_7s _ _ _
  have r1 : RdC tp len p M1 := h.1.congr (fun a j q => by rw [← hM1, up_na (by omega), up_na (by omega)])
  refine c_nx L r1 (fun M2 r2 f2 => ?_)
  have z2 : M2 5 3 = M 5 3 + 1 := by rw [f2 _ _ (by omega)]; exact z1
  have k2 : ∀ k, M2 7 k = M1 7 k := fun k => f2 _ _ (by omega)
  have h2 : CSt tp len li (tT tp len p) nl dp M2 := by
    obtain ⟨g1, g2, g3, g4, g5, g6, g7, g8⟩ := h
    refine ⟨r2, by rw [f2 _ _ (by omega), f1 _ _ (by omega)]; exact g2, ?_, ?_, by omega, fun k q0 q1 => ?_, g7, g8⟩
    · rw [f2 _ _ (by omega), ← hM1, up_na (by decide), up_na (by decide)]; exact g3
    · rw [f2 _ _ (by omega), ← hM1, up_na (by decide), up_na (by decide)]; exact g4
    · rw [k2]
      by_cases ek : k = M 5 3
      · rw [ek, k1s]; decide
      · rw [k1 k ek]; exact g6 k q0 q1
  have ht2 := h2.1.2.2.2.1
  have f02 : FrRd M0 M2 := (hfr.tr f1).tr (FrRd.ofN f2)
  refine b_X2_both_49 L (ihP D1 _ _ _ M2 _ A (by omega) h2 (by omega) ⟨fun q m E M3 eq hB gd => ?_, fun f M3 eq b3 => ?_⟩)
  · obtain ⟨g1, g2, g3, g4, g5, g6, g7⟩ := gd
    have e2 : prs tp len laws (n + 1) 7 A p nl dp = prs tp len laws n 7 (aoD 29 A E) q m dp := by rw [e, eq]; rfl
    have hq := g1.1.2.2.2.1
    have l2 := g2.lt
    have sz3 := g1.2.2.2.2.1
    have v3 : M3 7 (M 5 3) = 12 * 1024 + 0 := by rw [g3 _ (by omega) (by omega), k2]; exact k1s
    refine b_X2_both_53 L (c_aim1 L (st := 12) (by omega) v3 (by decide) (b_X2_both_62 (by omega) ?_))
    generalize hM4 : up M3 7 (M 5 3) (12 * 1024 + M3 5 3) = M4
    have k4 : ∀ k, k ≠ M 5 3 → M4 7 k = M3 7 k := fun k q => by rw [← hM4]; exact up_ni q
    have k4s : M4 7 (M 5 3) = 12 * 1024 + M3 5 3 := by rw [← hM4]; exact up_s _ _ _ _
    have n4 : ∀ a j, a ≠ 7 → M4 a j = M3 a j := fun a j q => by rw [← hM4]; exact up_na q
    have hcs := cs_of (st := 12) (a := M3 5 3) (by decide) (by omega)
    have h4 : CSt tp len li q m dp M4 := by
      obtain ⟨a1, a2, a3, a4, a5, a6, a7, a8⟩ := g1
      refine ⟨a1.congr (fun a j q => n4 a j (by omega)), by rw [n4 _ _ (by decide)]; exact a2, by rw [n4 _ _ (by decide)]; exact a3, by rw [n4 _ _ (by decide)]; exact a4, by rw [n4 _ _ (by decide)]; exact a5, fun k q0 q1 => ?_, a7, a8⟩
      by_cases ek : k = M 5 3
      · rw [ek, k4s]; omega
      · rw [k4 k ek]; exact a6 k q0 q1
    have sA : SegC laws (M4 7) c0 (M 5 3) (nl - n0) A := hA.congr (fun k p0' p1 => by rw [k4 k (by omega), g3 k (by omega) (by omega), k2, k1 k (by omega)])
    have sE : SegC laws (M4 7) (M 5 3 + 1) (M3 5 3) (m - nl) E := by rw [← z2]; exact g2.congr (fun k p0' p1 => k4 k (by omega))
    have sAE := SegC.ao sA hAb sE (by rw [k4s, hcs.1]; decide) (by rw [k4s]; exact hcs.2)
    rw [k4s, hcs.1] at sAE
    refine ihL (D1 + 1) q m dp M4 Q (aoD 29 A E) c0 n0 p0 M0 (i + 1) _ (by omega) h4 (by omega) ⟨hc.1, hc.2.1, by omega, by omega⟩ ?_ (fun _ => ao_isB hAb (hB (by decide))) (by rw [n4 _ _ (by decide)]; omega) (fun k q0 q1 => ?_) ((f02.tr g4).tr (fun a j q => n4 a j (by omega))) (by omega) ⟨fun q' m' D' M' eq' hB' gd' => kg q' m' D' M' (e2.trans eq') hB' gd', fun f M' eq' b => kb f M' (e2.trans eq') b⟩
    · rw [n4 _ _ (by decide), show m - n0 = nl - n0 + (m - nl) by omega]; exact sAE
    · rw [k4 k (by omega), g3 k q0 (by omega), k2, k1 k (by omega), hpre k q0 q1]
  · have e2 : prs tp len laws (n + 1) 7 A p nl dp = .inl f := by rw [e, eq]; rfl
    refine b_X2_both_53 L (c_aimB L b3.2.2.2 b3.2.2.1 (fun M4 f4 o4 s4 q4 => b_X2_both_62 (by omega) (b_X2_both_7 (fun _ => b_X2_both_68 (Or.inl rfl) ?_) (fun _ => b_X2_both_14 (fun _ => b_X2_both_68 (Or.inl rfl) ?_) (fun q => absurd rfl q)))))
    · exact kb f M4 e2 ((b3.mv f4 o4 s4 q4).tr f02)
    · exact kb f M4 e2 ((b3.mv f4 o4 s4 q4).tr f02)
theorem rd_both (L : Lay S) (n : Nat) (ihP : PMt S laws tp len li 6 (eN S) n) (ihL : PLp S laws tp len li 7 21 n) : PMt S laws tp len li 8 (eB S) (n + 1) := by
  intro Dp p nl dp M Q A hD h hmu k
  have hdp8 := h.2.2.2.2.2.2.2
  obtain ⟨D1, rfl⟩ : ∃ D1, Dp = D1 + 1 := ⟨Dp - 1, by omega⟩
  have hpl := h.1.2.2.2.1
  have hsz := h.2.2.2.2.1
  have e : prs tp len laws (n + 1) 8 A p nl dp = bRS (prs tp len laws n 6 A p nl dp) (fun q m D => prs tp len laws n 7 D q m dp) := rfl
  obtain ⟨kg, kb⟩ := k
  refine b_X2_both_0 L (ihP D1 _ _ _ M _ A (by omega) h (by omega) ⟨fun q m D M2 eq hB gd => ?_, fun f M2 eq b2 => ?_⟩)
  · obtain ⟨g1, g2, g3, g4, g5, g6, g7⟩ := gd
    have e2 : prs tp len laws (n + 1) 8 A p nl dp = prs tp len laws n 7 D q m dp := by rw [e, eq]; rfl
    have hq := g1.1.2.2.2.1
    refine b_X2_both_4 (ihL (D1 + 1) q m dp M2 Q D (M 5 3) nl p M 0 _ (by omega) g1 (by omega) ⟨hsz.1, hsz.2, g6, g7⟩ g2 (fun _ => hB (by decide)) g5 g3 g4 (by omega) ⟨fun q' m' D' M' eq' hB' gd' => kg q' m' D' M' (e2.trans eq') (fun _ => hB' (by decide)) gd', fun f M' eq' b => kb f M' (e2.trans eq') b⟩)
  · have e2 : prs tp len laws (n + 1) 8 A p nl dp = .inl f := by rw [e, eq]; rfl
    exact b_X2_both_4 (b_X2_both_7 (fun q => absurd q (by decide)) (fun _ => b_X2_both_14 (fun _ => b_X2_both_68 (Or.inl rfl) (kb f M2 e2 b2)) (fun q => absurd rfl q)))
theorem rd_testL (L : Lay S) (n : Nat) (ihP : PMt S laws tp len li 8 (eB S) n) (ihL : PLp S laws tp len li 9 20 n) : PLp S laws tp len li 9 20 (n + 1) := by
  intro Dp p nl dp M Q A c0 n0 p0 M0 i u3 hD h hmu hc hA hAB hgr hpre hfr hi k
  have hdp8 := h.2.2.2.2.2.2.2
  obtain ⟨D1, rfl⟩ : ∃ D1, Dp = D1 + 1 := ⟨Dp - 1, by omega⟩
  have hpl := h.1.2.2.2.1
  have hl := h.1.1.1
  have hsz := h.2.2.2.2.1
  have bd := h.1.2.2.2.2.1.bd
  have hAb := hAB (by decide)
  have e : prs tp len laws (n + 1) 9 A p nl dp = if tS tp len p = 1 ∧ tW tp len p = 498 then bRS (prs tp len laws n 8 A (tT tp len p) nl dp) (fun q m E => prs tp len laws n 9 (aoD 30 A E) q m dp) else .inr (p, nl, A) := rfl
  obtain ⟨kg, kb⟩ := k
  refine b_X2_test_7 (fun q => absurd q (by omega)) (fun _ => b_X2_test_14 (fun q => absurd q (by decide)) (fun _ => b_X2_test_18 L (c_isW L h.1 is_124 iw_124.1 iw_124.2 (fun hw => b_X2_test_24 (fun q => absurd q (by decide)) (fun _ => ?_)) (fun hw => b_X2_test_24 (fun _ => b_X2_test_68 (Or.inr rfl) (kg p nl A M (by rw [e, if_neg hw]) (fun _ => hAb) ⟨h, hA, hpre, hfr, hgr, hc.2.2.1, hc.2.2.2⟩)) (fun q => absurd rfl q)))))
  rw [if_pos hw] at e
  have hsT := bd.2.2.2.2.2 (by omega)
  have lA := hA.lt
  refine b_X2_test_27 L (c_write1 L rfl (by omega) (by decide) (b_X2_test_45 L ?_))
  generalize hM1 : up (up M 7 (M 5 3) (13 * 1024 + 0)) 5 3 (M 5 3 + 1) = M1
  have f1 : FrRd M M1 := by rw [← hM1]; exact wr_fr _ _ _ _
  have z1 : M1 5 3 = M 5 3 + 1 := by rw [← hM1]; exact up_s _ _ _ _
  have k1 : ∀ k, k ≠ M 5 3 → M1 7 k = M 7 k := fun k q => by rw [← hM1]; exact wr_7 _ _ _ q
  have k1s : M1 7 (M 5 3) = 13 * 1024 + 0 := by rw [← hM1]; exact wr_7s _ _ _
  have r1 : RdC tp len p M1 := h.1.congr (fun a j q => by rw [← hM1, up_na (by omega), up_na (by omega)])
  refine c_nx L r1 (fun M2 r2 f2 => ?_)
  have z2 : M2 5 3 = M 5 3 + 1 := by rw [f2 _ _ (by omega)]; exact z1
  have k2 : ∀ k, M2 7 k = M1 7 k := fun k => f2 _ _ (by omega)
  have h2 : CSt tp len li (tT tp len p) nl dp M2 := by
    obtain ⟨g1, g2, g3, g4, g5, g6, g7, g8⟩ := h
    refine ⟨r2, by rw [f2 _ _ (by omega), f1 _ _ (by omega)]; exact g2, ?_, ?_, by omega, fun k q0 q1 => ?_, g7, g8⟩
    · rw [f2 _ _ (by omega), ← hM1, up_na (by decide), up_na (by decide)]; exact g3
    · rw [f2 _ _ (by omega), ← hM1, up_na (by decide), up_na (by decide)]; exact g4
    · rw [k2]
      by_cases ek : k = M 5 3
      · rw [ek, k1s]; decide
      · rw [k1 k ek]; exact g6 k q0 q1
  have ht2 := h2.1.2.2.2.1
  have f02 : FrRd M0 M2 := (hfr.tr f1).tr (FrRd.ofN f2)
  refine b_X2_test_49 L (ihP D1 _ _ _ M2 _ A (by omega) h2 (by omega) ⟨fun q m E M3 eq hB gd => ?_, fun f M3 eq b3 => ?_⟩)
  · obtain ⟨g1, g2, g3, g4, g5, g6, g7⟩ := gd
    have e2 : prs tp len laws (n + 1) 9 A p nl dp = prs tp len laws n 9 (aoD 30 A E) q m dp := by rw [e, eq]; rfl
    have hq := g1.1.2.2.2.1
    have l2 := g2.lt
    have sz3 := g1.2.2.2.2.1
    have v3 : M3 7 (M 5 3) = 13 * 1024 + 0 := by rw [g3 _ (by omega) (by omega), k2]; exact k1s
    refine b_X2_test_53 L (c_aim1 L (st := 13) (by omega) v3 (by decide) (b_X2_test_62 (by omega) ?_))
    generalize hM4 : up M3 7 (M 5 3) (13 * 1024 + M3 5 3) = M4
    have k4 : ∀ k, k ≠ M 5 3 → M4 7 k = M3 7 k := fun k q => by rw [← hM4]; exact up_ni q
    have k4s : M4 7 (M 5 3) = 13 * 1024 + M3 5 3 := by rw [← hM4]; exact up_s _ _ _ _
    have n4 : ∀ a j, a ≠ 7 → M4 a j = M3 a j := fun a j q => by rw [← hM4]; exact up_na q
    have hcs := cs_of (st := 13) (a := M3 5 3) (by decide) (by omega)
    have h4 : CSt tp len li q m dp M4 := by
      obtain ⟨a1, a2, a3, a4, a5, a6, a7, a8⟩ := g1
      refine ⟨a1.congr (fun a j q => n4 a j (by omega)), by rw [n4 _ _ (by decide)]; exact a2, by rw [n4 _ _ (by decide)]; exact a3, by rw [n4 _ _ (by decide)]; exact a4, by rw [n4 _ _ (by decide)]; exact a5, fun k q0 q1 => ?_, a7, a8⟩
      by_cases ek : k = M 5 3
      · rw [ek, k4s]; omega
      · rw [k4 k ek]; exact a6 k q0 q1
    have sA : SegC laws (M4 7) c0 (M 5 3) (nl - n0) A := hA.congr (fun k p0' p1 => by rw [k4 k (by omega), g3 k (by omega) (by omega), k2, k1 k (by omega)])
    have sE : SegC laws (M4 7) (M 5 3 + 1) (M3 5 3) (m - nl) E := by rw [← z2]; exact g2.congr (fun k p0' p1 => k4 k (by omega))
    have sAE := SegC.ao sA hAb sE (by rw [k4s, hcs.1]; decide) (by rw [k4s]; exact hcs.2)
    rw [k4s, hcs.1] at sAE
    refine ihL (D1 + 1) q m dp M4 Q (aoD 30 A E) c0 n0 p0 M0 (i + 1) _ (by omega) h4 (by omega) ⟨hc.1, hc.2.1, by omega, by omega⟩ ?_ (fun _ => ao_isB hAb (hB (by decide))) (by rw [n4 _ _ (by decide)]; omega) (fun k q0 q1 => ?_) ((f02.tr g4).tr (fun a j q => n4 a j (by omega))) (by omega) ⟨fun q' m' D' M' eq' hB' gd' => kg q' m' D' M' (e2.trans eq') hB' gd', fun f M' eq' b => kb f M' (e2.trans eq') b⟩
    · rw [n4 _ _ (by decide), show m - n0 = nl - n0 + (m - nl) by omega]; exact sAE
    · rw [k4 k (by omega), g3 k q0 (by omega), k2, k1 k (by omega), hpre k q0 q1]
  · have e2 : prs tp len laws (n + 1) 9 A p nl dp = .inl f := by rw [e, eq]; rfl
    refine b_X2_test_53 L (c_aimB L b3.2.2.2 b3.2.2.1 (fun M4 f4 o4 s4 q4 => b_X2_test_62 (by omega) (b_X2_test_7 (fun _ => b_X2_test_68 (Or.inl rfl) ?_) (fun _ => b_X2_test_14 (fun _ => b_X2_test_68 (Or.inl rfl) ?_) (fun q => absurd rfl q)))))
    · exact kb f M4 e2 ((b3.mv f4 o4 s4 q4).tr f02)
    · exact kb f M4 e2 ((b3.mv f4 o4 s4 q4).tr f02)
theorem rd_test (L : Lay S) (n : Nat) (ihP : PMt S laws tp len li 8 (eB S) n) (ihL : PLp S laws tp len li 9 20 n) : PMt S laws tp len li 10 (eX S) (n + 1) := by
  intro Dp p nl dp M Q A hD h hmu k
  have hdp8 := h.2.2.2.2.2.2.2
  obtain ⟨D1, rfl⟩ : ∃ D1, Dp = D1 + 1 := ⟨Dp - 1, by omega⟩
  have hpl := h.1.2.2.2.1
  have hsz := h.2.2.2.2.1
  have e : prs tp len laws (n + 1) 10 A p nl dp = bRS (prs tp len laws n 8 A p nl dp) (fun q m D => prs tp len laws n 9 D q m dp) := rfl
  obtain ⟨kg, kb⟩ := k
  refine b_X2_test_0 L (ihP D1 _ _ _ M _ A (by omega) h (by omega) ⟨fun q m D M2 eq hB gd => ?_, fun f M2 eq b2 => ?_⟩)
  · obtain ⟨g1, g2, g3, g4, g5, g6, g7⟩ := gd
    have e2 : prs tp len laws (n + 1) 10 A p nl dp = prs tp len laws n 9 D q m dp := by rw [e, eq]; rfl
    have hq := g1.1.2.2.2.1
    refine b_X2_test_4 (ihL (D1 + 1) q m dp M2 Q D (M 5 3) nl p M 0 _ (by omega) g1 (by omega) ⟨hsz.1, hsz.2, g6, g7⟩ g2 (fun _ => hB (by decide)) g5 g3 g4 (by omega) ⟨fun q' m' D' M' eq' hB' gd' => kg q' m' D' M' (e2.trans eq') (fun _ => hB' (by decide)) gd', fun f M' eq' b => kb f M' (e2.trans eq') b⟩)
  · have e2 : prs tp len laws (n + 1) 10 A p nl dp = .inl f := by rw [e, eq]; rfl
    exact b_X2_test_4 (b_X2_test_7 (fun q => absurd q (by decide)) (fun _ => b_X2_test_14 (fun _ => b_X2_test_68 (Or.inl rfl) (kb f M2 e2 b2)) (fun q => absurd rfl q)))
/-- all of them, by how much is left -/
theorem rd_all (L : Lay S) (hli : (laws = true ∧ ¬ li = 0) ∨ (laws = false ∧ li = 0)) : ∀ n : Nat, PMt S laws tp len li 0 (eP S) n ∧ PLp S laws tp len li 1 25 n ∧ PMt S laws tp len li 2 (eT S) n ∧ PLp S laws tp len li 3 24 n ∧ PMt S laws tp len li 4 (eU S) n ∧ PMt S laws tp len li 5 (eC S) n ∧ PPl S laws tp len li n ∧ PLp S laws tp len li 7 21 n ∧ PMt S laws tp len li 8 (eB S) n ∧ PLp S laws tp len li 9 20 n ∧ PMt S laws tp len li 10 (eX S) n := by
  intro n
  induction n with
  | zero =>
    have pm : ∀ nt ent, PMt S laws tp len li nt ent 0 := fun nt ent Dp p nl dp M Q A hD h hmu => by
      have := h.1.2.2.2.1; exact absurd hmu (by omega)
    have pl : ∀ nt j, PLp S laws tp len li nt j 0 := fun nt j Dp p nl dp M Q A c0 n0 p0 M0 i u3 hD h hmu => by
      have := h.1.2.2.2.1; exact absurd hmu (by omega)
    exact ⟨pm _ _, pl _ _, pm _ _, pl _ _, pm _ _, pm _ _, fun Dp p nl dp M Q A p0 tb i M0 hD h hmu => by have := h.1.2.2.2.1; exact absurd hmu (by omega), pl _ _, pm _ _, pl _ _, pm _ _⟩
  | succ n ih =>
    obtain ⟨i0, i1, i2, i3, i4, i5, i6, i7, i8, i9, i10⟩ := ih
    exact ⟨rd_part L hli n i4, rd_termL L n i0 i1, rd_term L n i0 i1, rd_sumL L n i2 i3, rd_sum L n i2 i3, rd_cmp L n i4, rd_plainL L n i5 i10 i6, rd_bothL L n (rd_plain L n i6) i7, rd_both L n (rd_plain L n i6) i7, rd_testL L n i8 i9, rd_test L n i8 i9⟩
end BT
