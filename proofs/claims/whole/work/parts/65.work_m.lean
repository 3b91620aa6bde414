/-! The reference's works, first piece. -/
theorem SecM.congr {cd cd' : Int → Int × Int} {i j : Int} {o : Option Den} (h : SecM cd i j o) (he : ∀ k, 0 ≤ k → k < 400 → cd' k = cd k) : SecM cd' i j o := by
  cases o with
  | none => exact h
  | some D =>
    obtain ⟨a0, a1, p, hp, hs⟩ := h
    exact ⟨a0, a1, p, hp, hs.congr (fun k q0 q1 => he k (by omega) (by omega))⟩
theorem LawM.congr {r r' : Int → Int} {b b' : Int} {T : TX} (h : LawM r b T) (he : ∀ i, 0 ≤ i → i < 900 → r' (b' + i) = r (b + i)) : LawM r' b' T := by
  obtain ⟨h1, h2, h3⟩ := h
  have n12 := h1.1.2.1
  have cde : ∀ k, 0 ≤ k → k < 400 → cdL r' b' k = cdL r b k := fun k q0 q1 => by
    unfold cdL
    rw [Int.add_assoc b', he (98 + 2 * k) (by omega) (by omega), Int.add_assoc (b') (98 + 2 * k) 1, he (98 + 2 * k + 1) (by omega) (by omega), ← Int.add_assoc, ← Int.add_assoc, ← Int.add_assoc]
  refine ⟨h1, by rw [he 1 (by omega) (by omega)]; exact h2, fun i q0 q1 => ?_⟩
  obtain ⟨a1, a2, a3⟩ := h3 i q0 q1
  have e : ∀ x, 0 ≤ x → x ≤ 6 → r' (b' + 2 + 8 * i + x) = r (b + 2 + 8 * i + x) := fun x p0 p1 => by
    have e1 : b' + 2 + 8 * i + x = b' + (2 + 8 * i + x) := by omega
    have e2 : b + 2 + 8 * i + x = b + (2 + 8 * i + x) := by omega
    rw [e1, e2]; exact he _ (by omega) (by omega)
  refine ⟨?_, ?_, ?_⟩
  · have := e 0 (by decide) (by decide)
    rw [Int.add_zero, Int.add_zero] at this
    rw [this]; exact a1
  · rw [e 3 (by decide) (by decide), e 4 (by decide) (by decide)]; exact a2.congr cde
  · rw [e 5 (by decide) (by decide), e 6 (by decide) (by decide)]; exact a3.congr cde
theorem ForM.congr {r r' : Int → Int} {T : TX} (h : ForM r T) (h4 : r' 4 = r 4) (he : ∀ i, 186 ≤ i → r' i = r i) : ForM r' T := by
  rcases h with ⟨a, b⟩ | ⟨a, b, c⟩
  · exact Or.inl ⟨by rw [h4]; exact a, b⟩
  · refine Or.inr ⟨by rw [h4]; exact a, by rw [h4]; exact b, ?_⟩
    rw [h4]
    exact c.congr (fun i q0 q1 => he _ (by omega))
section MW
variable {d : Nat} {S : mSh} {M : mMem} {Q : Option mV → mSh → mMem → Prop} {T : TX}
theorem s_losesOf (L : Lay S) (ok : okS (M 202)) (h20 : M 200 20 = 0 ∨ M 200 20 = 1) (hT : ForM (M 202) T) {c : Int} (hc : 0 ≤ c ∧ c < 8) (k : ∀ M', FrL M M' → Q (some (vI (losT T (M 202) c))) S M') : e_X9_losesOf (d + 8) c S M Q :=
  b_X9_losesOf_0 L (s_tells L ok h20 hT hc (fun M' f => b_X9_losesOf_7 (s_bounded (by decide) (b_X9_losesOf_13 (k M' f)))))
theorem s_yieldsOf (L : Lay S) (ok : okS (M 202)) (h20 : M 200 20 = 0 ∨ M 200 20 = 1) (hT : ForM (M 202) T) {c : Int} (hc : 0 ≤ c ∧ c < 8) (k : ∀ M', FrL M M' → Q (some (vI (yieT T (M 202) c))) S M') : e_X9_yieldsOf (d + 8) c S M Q :=
  b_X9_yieldsOf_0 L (s_tells L ok h20 hT hc (fun M' f => b_X9_yieldsOf_9 (s_bounded (by decide) (b_X9_yieldsOf_16 (k M' f)))))
theorem s_isBarred (L : Lay S) (ok : okS (M 202)) (h20 : M 200 20 = 0 ∨ M 200 20 = 1) (hT : ForM (M 202) T) {c : Int} (hc : 0 ≤ c ∧ c < 8) (k1 : ∀ M', FrL M M' → barT T (M 202) c = 1 → Q (some (vI 1)) S M') (k0 : ∀ M', FrL M M' → ¬ barT T (M 202) c = 1 → Q (some (vI 0)) S M') : e_X9_isBarred (d + 8) c S M Q :=
  b_X9_isBarred_0 L (s_tells L ok h20 hT hc (fun M' f => b_X9_isBarred_7 (fun h => b_X9_isBarred_16 (k0 M' f h)) (fun h => b_X9_isBarred_12 (k1 M' f h))))
set_option maxHeartbeats 1000000 in
theorem s_takeOut (L : Lay S) {g : Int → Int} (hg : M 202 = g) (ok : okS g) {c n : Int} (hc : 0 ≤ c ∧ c < 8) (hn : 1 ≤ n) (hA : 1000 * n ≤ allG g c)
    (k : ∀ M', M' 202 = takG g c n → (∀ a, 0 ≤ a → a < 20 → M' 221 a = tkG g c n a) → (∀ a i, a ≠ 202 → a ≠ 221 → M' a i = M a i) → Q (some (vI (botM g c n))) S M') : e_X9_takeOut (d + 2) c n S M Q := by
  have hall := ok.all hc
  have hty := ty_bd ok hc hn hA
  have hbm := botM_bd ok hc hn hA
  have htb := fun (a : Int) (q0 : 0 ≤ a) (q1 : a < 20) => tk_bd ok hc hn hA (a := a) ⟨q0, q1⟩
  have ht0 := fun (a : Int) (q0 : 0 ≤ a) (q1 : a < 20) => tk0_bd ok hc hn hA (a := a) ⟨q0, q1⟩
  have hone := fun (a : Int) (q0 : 0 ≤ a) (q1 : a < 20) => ok.one hc (a := a) ⟨q0, q1⟩
  have hs0 : sm (tk0 g c n) 20 ≤ sm (tkG g c n) 20 := sm_le (by decide) (fun a q0 q1 => by have := (ex_bd (g := g) (c := c) (n := n) a).1; unfold tkG; omega)
  rw [tk_sum ok hc hn hA] at hs0
  refine b_X9_takeOut_0 L (s_allOf L (by rw [hg]; exact ok.D) hc (b_X9_takeOut_5 (by omega) ?_))
  rw [hg]
  refine Eq.mp (congrArg (fun m => WP PR (d + 2) 200 17 [vA 200, vI c, vI n, vL (allG g c), vU, vI (1000 * n), vI 0, vU, vU] [] S m Q) (fw_0 M 221 (tk0 g c n) 0)) ?_
  have key := for_up (W := fun i => WP PR (d + 2) 200 17 [vA 200, vI c, vI n, vL (allG g c), vU, vI (1000 * n - sm (tk0 g c n) i), vI i, vU, vU] [] S (fw M 221 (tk0 g c n) 0 i) Q) (lo := 0) (hi := 20) (by decide) ?_ ?_
  · rw [sm_0, Int.sub_zero] at key; exact key
  · refine b_X9_takeOut_17 (fun _ => b_X9_takeOut_67 ?_) (fun h => absurd h (by decide))
    have e19 : 1000 * n - sm (tk0 g c n) 20 = mis g c n 19 := (mis_19 g c n).symm
    rw [e19]
    have key2 := for_dn (W := fun a => ∀ M' : mMem, (∀ b i, b ≠ 202 → b ≠ 221 → M' b i = M b i) → (∀ x, 0 ≤ x → x < 20 → x ≤ a → M' 221 x = tk0 g c n x) → (∀ x, 0 ≤ x → x < 20 → a < x → M' 221 x = tkG g c n x) → (∀ i, (i ≤ 10 + 20 * c + a ∨ 30 + 20 * c ≤ i) → M' 202 i = g i) → (∀ x, a < x → x < 20 → M' 202 (10 + 20 * c + x) = g (10 + 20 * c + x) - tkG g c n x) → WP PR (d + 2) 200 74 [vA 200, vI c, vI n, vL (allG g c), vU, vI (mis g c n a), vL (tyG g c n - sm (fun x => x * tkG g c n x) (a + 1)), vU, vI a] [] S M' Q) (lo := -1) (hi := 19) (by decide) ?_ ?_
    · have := key2 (fw M 221 (tk0 g c n) 0 20) (fun b i q1 q2 => fw_na q2) (fun x q0 q1 q2 => fw_i (by omega)) (fun x q0 q1 q2 => absurd q1 (by omega)) (fun i _ => by rw [fw_na (by decide), hg]) (fun x q0 q1 => absurd q0 (by omega))
      have e : tyG g c n - sm (fun x => x * tkG g c n x) (19 + 1) = 0 := Int.sub_self _
      rw [e] at this; exact this
    · intro M' f1 f4 f5 f6 f7
      have e0 : tyG g c n - sm (fun x => x * tkG g c n x) (-1 + 1) = tyG g c n := by rw [show (-1 : Int) + 1 = 0 from rfl, sm_0]; omega
      rw [e0]
      have eb : (tyG g c n).tdiv n = botM g c n := rfl
      refine b_X9_takeOut_74 (fun _ => b_X9_takeOut_163 ⟨by omega, by rw [eb]; omega⟩ ?_) (fun h => absurd h (by decide))
      rw [eb, w32_id (by omega)]
      refine k M' ?_ (fun a q0 q1 => f5 a q0 q1 (by omega)) f1
      funext i
      by_cases hi : i < 10 + 20 * c ∨ 30 + 20 * c ≤ i
      · rw [f6 i (by omega), tak_o hi]
      · have e : i = 10 + 20 * c + (i - 10 - 20 * c) := by omega
        rw [e, f7 _ (by omega) (by omega)]
        unfold takG
        rw [seg_i (by omega)]
    · intro a h0 h1 ih M' f1 f4 f5 f6 f7
      have t1 := htb a (by omega) (by omega)
      have t2 := ht0 a (by omega) (by omega)
      have t3 := hone a (by omega) (by omega)
      have e5 : M' 202 (10 + 20 * c + a) = g (10 + 20 * c + a) := f6 _ (by omega)
      have e221 := f4 a (by omega) (by omega) (by omega)
      have ems := mis_s g c n (a := a) (by omega)
      have esm := sm_s (fun x => x * tkG g c n x) (i := a) (by omega)
      have p1 : 0 ≤ a * tkG g c n a := Int.mul_nonneg (by omega) t1.1
      have p2 : a * tkG g c n a ≤ 19 * 999000 := Int.mul_le_mul (by omega) (by omega) t1.1 (by omega)
      have p3 : sm (fun x => x * tkG g c n x) (a + 1) ≤ tyG g c n := sm_mono (by omega) (by omega) (fun x q0 q1 => Int.mul_nonneg q0 (htb x q0 q1).1)
      have p4 : 0 ≤ sm (fun x => x * tkG g c n x) a := sm_nn (by omega) (fun x q0 q1 => Int.mul_nonneg q0 (htb x q0 (by omega)).1)
      have p5 : mis g c n a ≤ 1000 * n := by
        have := for_dn (W := fun x => mis g c n x ≤ 1000 * n → mis g c n a ≤ 1000 * n) (lo := a) (hi := 19) (by omega) (fun q => q) (fun i q0 q1 ih2 q => ih2 (by have := mis_s g c n (a := i) q1; have := (ex_bd (g := g) (c := c) (n := n) i).1; omega))
        refine this ?_
        rw [mis_19]
        have : 0 ≤ sm (tk0 g c n) 20 := sm_nn (by decide) (fun x q0 q1 => (ht0 x q0 q1).1)
        omega
      have done : ∀ (v w y : Int) (N : mMem), v = tkG g c n a → w = mis g c n (a - 1) → y = tyG g c n - sm (fun x => x * tkG g c n x) (a + 1) + a * v → (∀ b i, b ≠ 202 → b ≠ 221 → N b i = M' b i) → (∀ i, i ≠ a → N 221 i = M' 221 i) → N 221 a = v → (∀ i, i ≠ 10 + 20 * c + a → N 202 i = M' 202 i) → N 202 (10 + 20 * c + a) = g (10 + 20 * c + a) - v → WP PR (d + 2) 200 74 [vA 200, vI c, vI n, vL (allG g c), vU, vI w, vL y, vU, vI (a + -1)] [] S N Q := by
        intro v w y N ev ew ey g1 g4 g4' g5 g6
        subst ev ew
        have := ih N (fun b i q1 q2 => by rw [g1 b i q1 q2, f1 b i q1 q2]) (fun x q0 q1 q2 => by rw [g4 x (by omega), f4 x q0 q1 (by omega)]) (fun x q0 q1 q2 => by
          by_cases hx : x = a
          · rw [hx]; exact g4'
          · rw [g4 x hx, f5 x q0 q1 (by omega)]) (fun i q => by rw [g5 i (by omega), f6 i (by omega)]) (fun x q0 q1 => by
          by_cases hx : x = a
          · rw [hx]; exact g6
          · rw [g5 _ (by omega), f7 x (by omega) q1])
        have e2 : y = tyG g c n - sm (fun x => x * tkG g c n x) (a - 1 + 1) := by rw [Int.sub_add_cancel]; omega
        rw [e2]; exact this
      have c115 : tkG g c n a = tk0 g c n a → mis g c n a = mis g c n (a - 1) → WP PR (d + 2) 200 115 [vA 200, vI c, vI n, vL (allG g c), vU, vI (mis g c n a), vL (tyG g c n - sm (fun x => x * tkG g c n x) (a + 1)), vU, vI a] [] S M' Q := by
        intro ex em
        refine b_X9_takeOut_115 L ?_ ?_
        · rw [e5, e221, ← ex]; omega
        · rw [e5, e221]
          exact done (tk0 g c n a) _ _ _ ex.symm em rfl (fun b i q1 q2 => up_na q1) (fun i q => up_na (by decide)) (by rw [up_na (by decide), e221]) (fun i q => up_ni q) (up_s _ _ _ _)
      refine b_X9_takeOut_74 (fun h => absurd h (by omega)) (fun _ => b_X9_takeOut_79 (fun hm => ?_) (fun hm => b_X9_takeOut_84 L (by omega) (s_dropsOf L hc (by omega) (b_X9_takeOut_98 ?_ ?_))))
      · exact c115 (by unfold tkG exG; rw [if_neg (fun q => by omega)]; omega) (by rw [ems]; unfold exG; rw [if_neg (fun q => by omega)]; omega)
      · rw [e5, e221]; intro hl
        have hl2 : ¬ (0 < mis g c n a ∧ tk0 g c n a < g (10 + 20 * c + a)) := fun q => by omega
        exact c115 (by unfold tkG exG; rw [if_neg hl2]; omega) (by rw [ems]; unfold exG; rw [if_neg hl2]; omega)
      · rw [e5, e221]; intro hl
        have hl2 : 0 < mis g c n a ∧ tk0 g c n a < g (10 + 20 * c + a) := by omega
        have ex : tkG g c n a = tk0 g c n a + 1 := by unfold tkG exG; rw [if_pos hl2]
        have em : mis g c n a + -1 = mis g c n (a - 1) := by rw [ems]; unfold exG; rw [if_pos hl2]; omega
        refine b_X9_takeOut_101 L ?_ ?_
        · rw [e5, e221, ← ex]; omega
        · rw [e5, e221]
          exact done (tk0 g c n a + 1) _ _ _ ex.symm em rfl (fun b i q1 q2 => by rw [up_na q1, up_na q2]) (fun i q => by rw [up_na (by decide), up_ni q]) (by rw [up_na (by decide), up_s]) (fun i q => by rw [up_ni q, up_na (by decide)]) (up_s _ _ _ _)
  · intro i h0 h1 ih
    have e := sm_s (tk0 g c n) h0
    have r1 : fw M 221 (tk0 g c n) 0 i 202 = g := by rw [fw_row (by decide), hg]
    have t2 := ht0 i h0 h1
    have t3 := hone i h0 h1
    have et : (g (10 + 20 * c + i) * n * 1000).tdiv (allG g c) = tk0 g c n i := by unfold tk0; rw [Int.mul_assoc, Int.mul_comm n 1000]
    have hd := ok.nn (10 + 20 * c + i) (by omega) (by omega)
    have p1 : 0 ≤ g (10 + 20 * c + i) * n := Int.mul_nonneg hd (by omega)
    have p2 : g (10 + 20 * c + i) * n ≤ 999000 * 999000 := Int.mul_le_mul (by omega) (by omega) (by omega) (by omega)
    have p3 : sm (tk0 g c n) i ≤ sm (tk0 g c n) 20 := sm_mono h0 (by omega) (fun x q0 q1 => (ht0 x q0 q1).1)
    have p4 : 0 ≤ sm (tk0 g c n) i := sm_nn h0 (fun x q0 q1 => (ht0 x q0 (by omega)).1)
    have l221 := ll221 L
    refine b_X9_takeOut_17 (fun h => absurd h (by omega)) (fun _ => b_X9_takeOut_24 L (s_dropsOf L hc ⟨h0, h1⟩ ?_))
    rw [r1]
    refine b_X9_takeOut_37 L (lo221 L) ?_ ?_
    · rw [et, w32_id (by omega), up_s, l221]; omega
    · rw [et, w32_id (by omega), up_s]
      have e2 : 1000 * n - sm (tk0 g c n) i - tk0 g c n i = 1000 * n - sm (tk0 g c n) (i + 1) := by omega
      have e4 := fw_up (M := M) (a := 221) (f := tk0 g c n) (lo := 0) (n := i) (v := tk0 g c n i) h0 (by rw [Int.zero_add])
      rw [Int.zero_add] at e4
      rw [e2, e4]; exact ih
end MW
