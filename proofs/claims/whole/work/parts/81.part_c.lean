/-! The class's part: numbers and words. -/
section PT
variable {d : Nat} {S : mSh} {M : mMem} {Q : Option mV → mSh → mMem → Prop} {tp : Int → Int} {len li p nl dp : Int} {laws : Bool}
/-- a step is written behind what was read -/
theorem CSt.wr (h : CSt tp len li p nl dp M) {v : Int} (hv : 0 ≤ v ∧ v ≤ 20000) (hs : M 5 3 < p) : CSt tp len li p nl dp (up (up M 7 (M 5 3) v) 5 3 (M 5 3 + 1)) := by
  obtain ⟨h1, h2, h3, h4, h5, h6, h7, h8⟩ := h
  refine ⟨h1.congr (fun a i q => by rw [up_na (by omega), up_na (by omega)]), by rw [up_na (by decide), up_na (by decide)]; exact h2, by rw [up_na (by decide), up_na (by decide)]; exact h3, by rw [up_na (by decide), up_na (by decide)]; exact h4, by rw [up_s]; omega, fun k q0 q1 => ?_, h7, h8⟩
  rw [up_na (by decide)]
  by_cases e : k = M 5 3
  · rw [e, up_s]; exact hv
  · rw [up_ni e]; exact h6 k q0 q1
theorem wr_7 (M : mMem) (sz v : Int) {k : Int} (hk : k ≠ sz) : up (up M 7 sz v) 5 3 (sz + 1) 7 k = M 7 k := by rw [up_na (by decide), up_ni hk]
theorem wr_7s (M : mMem) (sz v : Int) : up (up M 7 sz v) 5 3 (sz + 1) 7 sz = v := by rw [up_na (by decide), up_s]
theorem wr_fr (M : mMem) (sz v w : Int) : FrRd M (up (up M 7 sz v) 5 3 w) := fun a i q => by
  by_cases e : a = 5
  · rw [up_ni (by omega), up_na (by omega)]
  · rw [up_na e, up_na (by omega)]
/-- a leaf is written -/
theorem leaf_good {M0 : mMem} {q : Int} (h : CSt tp len li q (nl + 1) dp M) (hf : FrRd M0 M) (h7 : ∀ k, M 7 k = M0 7 k) (h53 : M 5 3 = M0 5 3) (h5 : M0 5 3 ≤ p) (hpq : p < q) {st a op b : Int} (hb : 0 ≤ st ∧ st ≤ 13 ∧ 0 ≤ a ∧ a < 1024) (hok : okCs laws st a op b) :
    Good laws tp len li (M0 5 3) nl p M0 q (nl + 1) dp (lfD op b) (up (up M 7 (M 5 3) (st * 1024 + a)) 5 3 (M 5 3 + 1)) := by
  have w := h.wr (v := st * 1024 + a) (by omega) (by omega)
  have hc := cs_of hb.1 ⟨hb.2.2.1, hb.2.2.2⟩
  refine ⟨w, ?_, fun k q0 q1 => by rw [wr_7 _ _ _ (by omega), h7], hf.tr (wr_fr _ _ _ _), by rw [up_s]; omega, hpq, by omega⟩
  have e1 : nl + 1 - nl = 1 := by omega
  rw [up_s, e1, h53]
  have := SegC.lf (laws := laws) (cd := up (up M 7 (M 5 3) (st * 1024 + a)) 5 3 (M 5 3 + 1) 7) (i := M 5 3) (op := op) (b := b) (by rw [wr_7s, hc.1, hc.2]; exact hok)
  rw [h53] at this; exact this
theorem c_wordWritten (L : Lay S) {M0 : mMem} {q : Int} (hli : (laws = true ∧ ¬ li = 0) ∨ (laws = false ∧ li = 0)) (h : CSt tp len li q (nl + 1) dp M) (hf : FrRd M0 M) (h7 : ∀ k, M 7 k = M0 7 k) (h53 : M 5 3 = M0 5 3) (h5 : M0 5 3 ≤ p) (hpq : p < q) {op : Int} (hop : 1 ≤ op ∧ op ≤ 7)
    (kg : ∀ q' b M', (if laws = true ∨ op < 5 then q' = q ∧ b = 0 else (tS tp len q = 2 ∧ tW tp len q ≤ 7) ∧ q' = tT tp len q ∧ b = tW tp len q) → Good laws tp len li (M0 5 3) nl p M0 q' (nl + 1) dp (lfD op b) M' → Q (some (vI 1)) S M')
    (kb : ¬ (laws = true ∨ op < 5) → ¬ (tS tp len q = 2 ∧ tW tp len q ≤ 7) → ∀ M', Bad M0 (tF tp len q) M' → Q (some (vI 0)) S M') : e_X2_wordWritten (d + 1) (clWd laws op) S M Q := by
  have hsz := h.2.2.2.2.1
  have hl := h.1.1.1
  have hq := h.1.2.2.2.1
  have op7 : op = 1 ∨ op = 2 ∨ op = 3 ∨ op = 4 ∨ op = 5 ∨ op = 6 ∨ op = 7 := by omega
  have small : ∀ a, 0 ≤ a → a < 5 → okCs laws 1 a op 0 → (laws = true ∨ op < 5) → e_X2_wordWritten (d + 1) a S M Q := fun a a0 a5 hok hc =>
    b_X2_wordWritten_0 (fun q => absurd q (by omega)) (fun _ => b_X2_wordWritten_5 L (c_write1 L rfl (by omega) (by omega) (b_X2_wordWritten_14 (kg q 0 _ (by rw [if_pos hc]; exact ⟨rfl, rfl⟩) (leaf_good h hf h7 h53 h5 hpq (by omega) hok)))))
  rcases hli with ⟨rfl, hli⟩ | ⟨rfl, hli⟩
  · have big : ∀ a, 5 ≤ a → a ≤ 10 → okCs true 2 (a * 9 + 8) op 0 → e_X2_wordWritten (d + 1) a S M Q := fun a a0 a5 hok => by
      refine b_X2_wordWritten_0 (fun _ => b_X2_wordWritten_16 L (fun _ => b_X2_wordWritten_57 L (by omega) (c_write1 L rfl (by omega) (by omega) (b_X2_wordWritten_71 (kg q 0 _ (by rw [if_pos (Or.inl rfl)]; exact ⟨rfl, rfl⟩) (leaf_good h hf h7 h53 h5 hpq (by omega) hok))))) (fun q => absurd q (by rw [h.2.1]; exact hli))) (fun q => absurd q (by omega))
    rcases op7 with rfl | rfl | rfl | rfl | rfl | rfl | rfl
    · exact big 5 (by decide) (by decide) (Or.inr (Or.inl ⟨rfl, rfl, Or.inr ⟨rfl, by decide⟩⟩))
    · exact big 6 (by decide) (by decide) (Or.inr (Or.inl ⟨rfl, rfl, Or.inr ⟨rfl, by decide⟩⟩))
    · exact big 7 (by decide) (by decide) (Or.inr (Or.inl ⟨rfl, rfl, Or.inr ⟨rfl, by decide⟩⟩))
    · exact big 8 (by decide) (by decide) (Or.inr (Or.inl ⟨rfl, rfl, Or.inr ⟨rfl, by decide⟩⟩))
    · exact big 10 (by decide) (by decide) (Or.inr (Or.inl ⟨rfl, rfl, Or.inr ⟨rfl, by decide⟩⟩))
    · exact small 0 (by decide) (by decide) (Or.inr (Or.inl ⟨rfl, rfl, Or.inl ⟨rfl, by decide⟩⟩)) (Or.inl rfl)
    · exact small 1 (by decide) (by decide) (Or.inr (Or.inl ⟨rfl, rfl, Or.inl ⟨rfl, by decide⟩⟩)) (Or.inl rfl)
  · have big : ∀ a, 8 ≤ a → a ≤ 10 → ¬ op < 5 → (∀ b, 0 ≤ b → b ≤ 7 → okCs false 2 (a * 9 + b) op b) → e_X2_wordWritten (d + 1) a S M Q := fun a a0 a5 hop5 hok => by
      have hno : ¬ (false = true ∨ op < 5) := fun q => by rcases q with q | q; cases q; exact hop5 q
      have eS : M 4 5 = tS tp len q := h.1.2.2.2.2.2.2.2.1
      have eV := h.1.2.2.2.2.2.2.2.2
      have tk := h.1.2.2.2.2.1
      refine b_X2_wordWritten_0 (fun _ => b_X2_wordWritten_16 L (fun q => absurd (h.2.1.trans hli) q) (fun _ => b_X2_wordWritten_26 L ?_ ?_)) (fun q => absurd q (by omega))
      · rw [eS]; intro hn
        exact b_X2_wordWritten_43 L (c_wrong L h (fun M' b => b_X2_wordWritten_47 (Or.inl rfl) (kb hno (fun q => hn q.1) M' ⟨b.1, hf.tr b.2.1, b.2.2.1, b.2.2.2⟩)))
      · rw [eS]; intro hs
        have dg := tW_dig tk hs
        refine b_X2_wordWritten_34 L ?_ ?_
        · rw [eV, dg.2]; intro hlt
          have h7' : tW tp len q ≤ 7 := by split at hlt <;> omega
          have eb : (if 1001 < tW tp len q then 1001 else tW tp len q) = tW tp len q := if_neg (by omega)
          refine b_X2_wordWritten_48 L (c_nxS L h (fun M1 h1 f1 => ?_))
          rw [eV, dg.2, eb]
          have bd := tk.bd
          have hsz1 := h1.2.2.2.2.1
          have hl1 := h1.1.2.2.2.1
          have z1 : M1 5 3 = M0 5 3 := by rw [f1 _ _ (by omega), h53]
          refine b_X2_wordWritten_57 L (by omega) (c_write1 L rfl (by omega) (by omega) (b_X2_wordWritten_71 (kg (tT tp len q) (tW tp len q) _ (by rw [if_neg hno]; exact ⟨⟨hs, h7'⟩, rfl, rfl⟩) (leaf_good h1 (hf.tr (FrRd.ofN f1)) (fun k => by rw [f1 _ _ (by omega), h7]) (by rw [f1 _ _ (by omega), h53]) h5 (by omega) (by omega) (hok _ dg.1 h7')))))
        · rw [eV, dg.2]; intro hge
          have h7' : ¬ tW tp len q ≤ 7 := by split at hge <;> omega
          exact b_X2_wordWritten_43 L (c_wrong L h (fun M' b => b_X2_wordWritten_47 (Or.inl rfl) (kb hno (fun q => h7' q.2) M' ⟨b.1, hf.tr b.2.1, b.2.2.1, b.2.2.2⟩)))
    rcases op7 with rfl | rfl | rfl | rfl | rfl | rfl | rfl
    · exact small 0 (by decide) (by decide) (Or.inr (Or.inr ⟨rfl, Or.inl ⟨rfl, rfl, by decide⟩⟩)) (Or.inr (by decide))
    · exact small 2 (by decide) (by decide) (Or.inr (Or.inr ⟨rfl, Or.inl ⟨rfl, rfl, by decide⟩⟩)) (Or.inr (by decide))
    · exact small 3 (by decide) (by decide) (Or.inr (Or.inr ⟨rfl, Or.inl ⟨rfl, rfl, by decide⟩⟩)) (Or.inr (by decide))
    · exact small 4 (by decide) (by decide) (Or.inr (Or.inr ⟨rfl, Or.inl ⟨rfl, rfl, by decide⟩⟩)) (Or.inr (by decide))
    · exact big 8 (by decide) (by decide) (by decide) (fun b b0 b7 => Or.inr (Or.inr ⟨rfl, Or.inr ⟨rfl, b0, b7, by omega⟩⟩))
    · exact big 9 (by decide) (by decide) (by decide) (fun b b0 b7 => Or.inr (Or.inr ⟨rfl, Or.inr ⟨rfl, b0, b7, by omega⟩⟩))
    · exact big 10 (by decide) (by decide) (by decide) (fun b b0 b7 => Or.inr (Or.inr ⟨rfl, Or.inr ⟨rfl, b0, b7, by omega⟩⟩))
set_option maxHeartbeats 1000000 in
theorem c_leafP (L : Lay S) (hli : (laws = true ∧ ¬ li = 0) ∨ (laws = false ∧ li = 0)) (h : CSt tp len li p nl dp M) {u1 u2 u3 : mV}
    (kg : ∀ q m D M', leafR tp len laws p nl = .inr (q, m, D) → Good laws tp len li (M 5 3) nl p M q m dp D M' → Q (some (vI 1)) S M')
    (kb : ∀ f M', leafR tp len laws p nl = .inl f → Bad M f M' → Q (some (vI 0)) S M') : WP PR (d + 2) 26 38 [vA 4, u1, u2, u3] [] S M Q := by
  have eS : M 4 5 = tS tp len p := h.1.2.2.2.2.2.2.2.1
  have eV := h.1.2.2.2.2.2.2.2.2
  have tk := h.1.2.2.2.2.1
  have bd := tk.bd
  have e7 := h.2.2.1
  have hsz := h.2.2.2.2.1
  have hnl := h.2.2.2.2.2.2.1
  have hpl := h.1.2.2.2.1
  have hl := h.1.1.1
  have wr := wrdN_rng laws (tS tp len p) (tW tp len p)
  unfold leafR at kg kb
  have fault : ∀ x1 x2 u3, (50 ≤ nl ∨ (¬ (tS tp len p = 2 ∧ tW tp len p ≤ 1000) ∧ wrdN laws (tS tp len p) (tW tp len p) = -1)) → WP PR (d + 2) 26 99 [vA 4, vI x1, vI x2, u3] [] S M Q := fun x1 x2 u3 hc => by
    rw [if_pos hc] at kb
    exact b_X2_part_99 L (c_wrong L h (fun M' b => b_X2_part_103 (Or.inl rfl) (kb _ M' rfl b)))
  -- behind word and number
  have tail : ∀ (x2 : Int) u3, (x2 = 1 ∧ (tS tp len p = 2 ∧ tW tp len p ≤ 1000)) ∨ (x2 = 0 ∧ ¬ (tS tp len p = 2 ∧ tW tp len p ≤ 1000)) → nl < 50 → WP PR (d + 2) 26 90 [vA 4, vI (clWd laws (wrdN laws (tS tp len p) (tW tp len p))), vI x2, u3] [] S M Q := by
    intro x2 u3 hx hn50
    have go : ¬ (50 ≤ nl ∨ (¬ (tS tp len p = 2 ∧ tW tp len p ≤ 1000) ∧ wrdN laws (tS tp len p) (tW tp len p) = -1)) → ¬ tS tp len p = 0 → WP PR (d + 2) 26 104 [vA 4, vI (clWd laws (wrdN laws (tS tp len p) (tW tp len p))), vI x2, u3] [] S M Q := by
      intro hno hs0
      rw [if_neg hno] at kg kb
      refine b_X2_part_104 L (by omega) ?_
      rw [e7, eV]
      have h1 : CSt tp len li p (nl + 1) dp (up M 4 7 (nl + 1)) := by
        obtain ⟨g1, g2, g3, g4, g5, g6, g7, g8⟩ := h
        exact ⟨g1.congr (fun a i q => by by_cases e : a = 4; exact up_ni (by omega); exact up_na e), by rw [up_ni (by decide)]; exact g2, up_s _ _ _ _, by rw [up_ni (by decide)]; exact g4, by rw [up_na (by decide)]; exact g5, fun k q0 q1 => by rw [up_na (by decide)]; exact g6 k q0 q1, by omega, g8⟩
      have f0 : FrRd M (up M 4 7 (nl + 1)) := fun a i q => by by_cases e : a = 4; exact up_ni (by omega); exact up_na e
      refine c_nxS L h1 (fun M2 h2 f2 => ?_)
      have f02 : FrRd M M2 := f0.tr (FrRd.ofN f2)
      have k7 : ∀ k, M2 7 k = M 7 k := fun k => by rw [f2 _ _ (by omega), up_na (by decide)]
      have k53 : M2 5 3 = M 5 3 := by rw [f2 _ _ (by omega), up_na (by decide)]
      have hpq : p < tT tp len p := by have := bd.2.2.2.2.2 hs0; omega
      rcases hx with ⟨rfl, hd⟩ | ⟨rfl, hd⟩
      · rw [if_pos hd] at kg
        have dg := tW_dig tk hd.1
        have ev : (if 1001 < tW tp len p then 1001 else tW tp len p) = tW tp len p := if_neg (by omega)
        refine b_X2_part_123 (fun q => absurd q (by decide)) (fun _ => b_X2_part_127 L ?_)
        rw [dg.2, ev]
        have hq2 := h2.1.2.2.2.1
        refine c_write1 L rfl (by omega) (by omega) (b_X2_part_136 (kg _ _ _ _ rfl (leaf_good h2 f02 k7 k53 hsz.2 hpq (by omega) (Or.inl ⟨rfl, rfl, rfl, dg.1, hd.2⟩))))
      · rw [if_neg hd] at kg kb
        have hop : 1 ≤ wrdN laws (tS tp len p) (tW tp len p) ∧ wrdN laws (tS tp len p) (tW tp len p) ≤ 7 := by
          rcases wr with q | q
          · exact absurd (Or.inr ⟨hd, q⟩) hno
          · exact q
        refine b_X2_part_123 (fun _ => b_X2_part_138 L (c_wordWritten L hli h2 f02 k7 k53 hsz.2 hpq hop (fun q' b M' hq' gd => b_X2_part_143 (Or.inr rfl) ?_) (fun c1 c2 M' b => b_X2_part_143 (Or.inl rfl) ?_))) (fun q => absurd rfl q)
        · by_cases hc : laws = true ∨ wrdN laws (tS tp len p) (tW tp len p) < 5
          · rw [if_pos hc] at hq' kg
            obtain ⟨rfl, rfl⟩ := hq'
            exact kg _ _ _ _ rfl gd
          · rw [if_neg hc] at hq' kg
            obtain ⟨hc2, rfl, rfl⟩ := hq'
            rw [if_pos hc2] at kg
            exact kg _ _ _ _ rfl gd
        · rw [if_neg c1, if_neg c2] at kb
          exact kb _ M' rfl b
    refine b_X2_part_90 (fun hx2 => ?_) (fun hx2 => b_X2_part_94 (fun hw => ?_) (fun hw => fault _ _ _ ?_))
    · rcases hx with ⟨-, hd⟩ | ⟨q, -⟩
      · exact go (fun q => by rcases q with q | q; omega; exact q.1 hd) (by omega)
      · exact absurd q hx2
    · rcases hx with ⟨q, -⟩ | ⟨-, hd⟩
      · omega
      · have hw1 : ¬ wrdN laws (tS tp len p) (tW tp len p) = -1 := fun q => hw (by rw [q]; unfold clWd; cases laws <;> rfl)
        refine go (fun q => by rcases q with q | q; omega; exact hw1 q.2) (fun q => hw1 ?_)
        unfold wrdN; rw [if_neg (by omega)]
    · rcases hx with ⟨q, -⟩ | ⟨-, hd⟩
      · omega
      · refine Or.inr ⟨hd, ?_⟩
        rcases wr with q | q
        · exact q
        · exfalso
          have op7 : wrdN laws (tS tp len p) (tW tp len p) = 1 ∨ wrdN laws (tS tp len p) (tW tp len p) = 2 ∨ wrdN laws (tS tp len p) (tW tp len p) = 3 ∨ wrdN laws (tS tp len p) (tW tp len p) = 4 ∨ wrdN laws (tS tp len p) (tW tp len p) = 5 ∨ wrdN laws (tS tp len p) (tW tp len p) = 6 ∨ wrdN laws (tS tp len p) (tW tp len p) = 7 := by omega
          rcases op7 with e | e | e | e | e | e | e <;> (rw [e] at hw; cases laws <;> exact absurd hw (by decide))
  have num : ∀ u2 u3, WP PR (d + 2) 26 75 [vA 4, vI (clWd laws (wrdN laws (tS tp len p) (tW tp len p))), u2, u3] [] S M Q ∨ True := fun _ _ => Or.inr trivial
  have k75 : (tS tp len p = 2 ∧ tW tp len p ≤ 1000) → ∀ u2 u3, WP PR (d + 2) 26 75 [vA 4, vI (clWd laws (wrdN laws (tS tp len p) (tW tp len p))), u2, u3] [] S M Q := fun hd u2 u3 =>
    b_X2_part_75 L (fun q => fault _ _ _ (Or.inl (by omega))) (fun q => tail 1 _ (Or.inl ⟨rfl, hd⟩) (by omega))
  have k79 : ¬ (tS tp len p = 2 ∧ tW tp len p ≤ 1000) → ∀ u2 u3, WP PR (d + 2) 26 79 [vA 4, vI (clWd laws (wrdN laws (tS tp len p) (tW tp len p))), u2, u3] [] S M Q := fun hd u2 u3 =>
    b_X2_part_79 L (fun q => fault _ _ _ (Or.inl (by omega))) (fun q => tail 0 _ (Or.inr ⟨rfl, hd⟩) (by omega))
  have k65 : tS tp len p = 2 → ∀ u2 u3, WP PR (d + 2) 26 65 [vA 4, vI (clWd laws (wrdN laws (tS tp len p) (tW tp len p))), u2, u3] [] S M Q := fun hs u2 u3 => by
    have dg := tW_dig tk hs
    refine b_X2_part_65 L ?_ ?_
    · rw [eV, dg.2]; intro hq; exact k79 (fun q => by split at hq <;> omega) _ _
    · rw [eV, dg.2]; intro hq; exact k75 ⟨hs, by split at hq <;> omega⟩ _ _
  rcases hli with ⟨rfl, hli⟩ | ⟨rfl, hli⟩
  · refine b_X2_part_38 L (fun q => absurd q (by rw [h.2.1]; exact hli)) (fun _ => b_X2_part_45 L (c_lawWord L h.1 (b_X2_part_49 L ?_ ?_)))
    · rw [eS]; intro hn; exact k79 (fun q => hn q.1) _ _
    · rw [eS]; intro hs; exact k65 hs _ _
  · refine b_X2_part_38 L (fun _ => b_X2_part_52 L (c_orderWord L h.1 (b_X2_part_56 L ?_ ?_))) (fun q => absurd (h.2.1.trans hli) q)
    · rw [eS]; intro hn; exact k79 (fun q => hn q.1) _ _
    · rw [eS]; intro hs; exact k65 hs _ _
end PT
