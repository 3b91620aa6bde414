/-! The class's stock, third piece: taking out, putting in, a year older. -/
def FrT (s : Int) (M M' : mMem) : Prop := ∀ a i, (a < s ∨ s + 6 < a) → a ≠ 195 → M' a i = M a i
section CC
variable {d : Nat} {S : mSh} {M : mMem} {Q : Option mV → mSh → mMem → Prop} {g : Int → Int} {s : Int}
set_option maxHeartbeats 1000000 in
theorem c_takeOut (L : Lay S) (hs : Stk S s) (h : StkR g s M) (ok : okS g) {c n : Int} (hc : 0 ≤ c ∧ c < 8) (hn : 1 ≤ n) (hA : 1000 * n ≤ allG g c)
    (k : ∀ M', StkR (takG g c n) s M' → (∀ a, 0 ≤ a → a < 20 → M' 195 a = tkG g c n a) → FrT s M M' → Q none S M') : e_X4_takeOut d s c n 195 S M Q := by
  have hlo := hs.lo
  have hhi := hs.hi
  have hall := ok.all hc
  have e3 := h.a hc
  have hyr := ok.yr hc
  have hty := ty_bd ok hc hn hA
  have htb := fun (a : Int) (q0 : 0 ≤ a) (q1 : a < 20) => tk_bd ok hc hn hA (a := a) ⟨q0, q1⟩
  have ht0 := fun (a : Int) (q0 : 0 ≤ a) (q1 : a < 20) => tk0_bd ok hc hn hA (a := a) ⟨q0, q1⟩
  have hone := fun (a : Int) (q0 : 0 ≤ a) (q1 : a < 20) => ok.one hc (a := a) ⟨q0, q1⟩
  have hs0 : sm (tk0 g c n) 20 ≤ sm (tkG g c n) 20 := sm_le (by decide) (fun a q0 q1 => by have := (ex_bd (g := g) (c := c) (n := n) a).1; unfold tkG; omega)
  rw [tk_sum ok hc hn hA] at hs0
  refine b_X4_takeOut_0 hs (by omega) ?_
  rw [e3, if_pos (by omega)]
  refine Eq.mp (congrArg (fun m => WP PR d 51 26 [vA s, vI c, vI n, vA 195, vI (n * 1000), vI (allG g c), vI (n * 1000), vI 0, vU] [] S m Q) (fw_0 M 195 (tk0 g c n) 0)) ?_
  have key := for_up (W := fun i => WP PR d 51 26 [vA s, vI c, vI n, vA 195, vI (n * 1000), vI (allG g c), vI (n * 1000 - sm (tk0 g c n) i), vI i, vU] [] S (fw M 195 (tk0 g c n) 0 i) Q) (lo := 0) (hi := 20) (by decide) ?_ ?_
  · rw [sm_0, Int.sub_zero] at key; exact key
  · refine b_X4_takeOut_26 (fun _ => b_X4_takeOut_74 ?_) (fun h => absurd h (by decide))
    have e19 : n * 1000 - sm (tk0 g c n) 20 = mis g c n 19 := by rw [mis_19]; omega
    rw [e19]
    have key2 := for_dn (W := fun a => ∀ (M' : mMem) (u : mV), (∀ b i, b ≠ 195 → b ≠ s + 5 → b ≠ s + 4 → M' b i = M b i) → (∀ i, i ≠ c → M' (s + 4) i = M (s + 4) i) → M' (s + 4) c = yrG g c - (tyG g c n - sm (fun x => x * tkG g c n x) (a + 1)) → (∀ x, 0 ≤ x → x < 20 → x ≤ a → M' 195 x = tk0 g c n x) → (∀ x, 0 ≤ x → x < 20 → a < x → M' 195 x = tkG g c n x) → (∀ i, (i ≤ c * 20 + a ∨ c * 20 + 20 ≤ i) → M' (s + 5) i = M (s + 5) i) → (∀ x, a < x → x < 20 → M' (s + 5) (c * 20 + x) = g (10 + 20 * c + x) - tkG g c n x) → WP PR d 51 78 [vA s, vI c, vI n, vA 195, vI (n * 1000), vI (allG g c), vI (mis g c n a), vI a, u] [] S M' Q) (lo := -1) (hi := 19) (by decide) ?_ ?_
    · refine key2 _ _ (fun b i q1 q2 q3 => fw_na q1) (fun i _ => fw_na (by omega)) ?_ (fun x q0 q1 q2 => fw_i (by omega)) (fun x q0 q1 q2 => absurd q1 (by omega)) (fun i _ => fw_na (by omega)) (fun x q0 q1 => absurd q0 (by omega))
      rw [fw_na (by omega), h.y hc]
      show yrG g c = yrG g c - (tyG g c n - tyG g c n)
      omega
    · intro M' u f1 f2 f3 f4 f5 f6 f7
      refine b_X4_takeOut_78 (fun _ => ?_) (fun h => absurd h (by decide))
      have e3' : M' (s + 3) c = allG g c := by rw [f1 _ _ (by omega) (by omega) (by omega)]; exact e3
      refine b_X4_takeOut_160 hs ⟨hc, by rw [e3']; omega⟩ (k _ ?_ ?_ ?_)
      · unfold takG
        refine seg_R h hc (fun i => ?_) (fun i => ?_) (fun i => ?_) (fun i => ?_) (fun i q0 q1 q2 => ?_) (fun i q0 q1 q2 => ?_) ?_ ?_ (fun i q0 q1 q2 => ?_) (fun a q0 q1 => ?_)
        · rw [up_na (by omega), f1 _ _ (by omega) (by omega) (by omega)]
        · rw [up_na (by omega), f1 _ _ (by omega) (by omega) (by omega)]
        · rw [up_na (by omega), f1 _ _ (by omega) (by omega) (by omega)]
        · rw [up_na (by omega), f1 _ _ (by omega) (by omega) (by omega)]
        · rw [up_ni q2, f1 _ _ (by omega) (by omega) (by omega)]
        · rw [up_na (by omega), f2 i q2]
        · rw [up_s, e3', tak_sum ok hc hn hA]; omega
        · rw [up_na (by omega), f3]
          have := tak_yr (g := g) (c := c) (n := n)
          unfold takG at this
          rw [seg_yr] at this
          rw [this, show (-1 : Int) + 1 = 0 from rfl, sm_0]; omega
        · rw [up_na (by omega), f6 i (by omega)]
        · rw [up_na (by omega), f7 a (by omega) q1]
      · intro a q0 q1
        rw [up_na (by omega), f5 a q0 q1 (by omega)]
      · intro a i q0 q1
        rw [up_na (by omega), f1 _ _ q1 (by omega) (by omega)]
    · intro a h0 h1 ih M' u f1 f2 f3 f4 f5 f6 f7
      have t1 := htb a (by omega) (by omega)
      have t2 := ht0 a (by omega) (by omega)
      have t3 := hone a (by omega) (by omega)
      have e5 : M' (s + 5) (c * 20 + a) = g (10 + 20 * c + a) := by rw [f6 _ (by omega), h.dd hc (by omega)]
      have e195 := f4 a (by omega) (by omega) (by omega)
      have ems := mis_s g c n (a := a) (by omega)
      have esm := sm_s (fun x => x * tkG g c n x) (i := a) (by omega)
      have p1 : 0 ≤ a * tkG g c n a := Int.mul_nonneg (by omega) t1.1
      have p2 : a * tkG g c n a ≤ 19 * 999000 := Int.mul_le_mul (by omega) (by omega) t1.1 (by omega)
      have p3 : sm (fun x => x * tkG g c n x) (a + 1) ≤ tyG g c n := sm_mono (by omega) (by omega) (fun x q0 q1 => Int.mul_nonneg q0 (htb x q0 q1).1)
      have p4 : 0 ≤ sm (fun x => x * tkG g c n x) a := sm_nn (by omega) (fun x q0 q1 => Int.mul_nonneg q0 (htb x q0 (by omega)).1)
      have p5 : mis g c n a ≤ 1000 * n := by
        have := for_dn (W := fun x => mis g c n x ≤ 1000 * n → mis g c n a ≤ 1000 * n) (lo := a) (hi := 19) (by omega) (fun q => q) (fun i q0 q1 ih2 q => ih2 (by have := mis_s g c n (a := i) q1; have := (ex_bd (g := g) (c := c) (n := n) i).1; omega))
        refine this ?_
        rw [mis_19]
        have : 0 ≤ sm (tk0 g c n) 20 := sm_nn (by decide) (fun x q0 q1 => (ht0 x q0 q1).1)
        omega
      have p6 : -20 ≤ mis g c n a := by
        have := for_dn (W := fun x => x - 20 ≤ mis g c n x → a - 20 ≤ mis g c n a) (lo := a) (hi := 19) (by omega) (fun q => q) (fun i q0 q1 ih2 q => ih2 (by have := mis_s g c n (a := i) q1; have := (ex_bd (g := g) (c := c) (n := n) i).2; omega))
        have h2 := this (by rw [mis_19]; omega)
        omega
      have done : ∀ (v w : Int) (N : mMem) (u2 : mV), v = tkG g c n a → w = mis g c n (a - 1) → (∀ b i, b ≠ 195 → b ≠ s + 5 → b ≠ s + 4 → N b i = M' b i) → (∀ i, i ≠ c → N (s + 4) i = M' (s + 4) i) → N (s + 4) c = M' (s + 4) c - a * v → (∀ i, i ≠ a → N 195 i = M' 195 i) → N 195 a = v → (∀ i, i ≠ c * 20 + a → N (s + 5) i = M' (s + 5) i) → N (s + 5) (c * 20 + a) = g (10 + 20 * c + a) - v → WP PR d 51 78 [vA s, vI c, vI n, vA 195, vI (n * 1000), vI (allG g c), vI w, vI (a + -1), u2] [] S N Q := by
        intro v w N u2 ev ew g1 g2 g3 g4 g4' g5 g6
        subst ev ew
        have := ih N u2 (fun b i q1 q2 q3 => by rw [g1 b i q1 q2 q3, f1 b i q1 q2 q3]) (fun i q => by rw [g2 i q, f2 i q]) (by rw [g3, f3, Int.sub_add_cancel, esm]; omega) (fun x q0 q1 q2 => by rw [g4 x (by omega), f4 x q0 q1 (by omega)]) (fun x q0 q1 q2 => by
          by_cases hx : x = a
          · rw [hx]; exact g4'
          · rw [g4 x hx, f5 x q0 q1 (by omega)]) (fun i q => by rw [g5 i (by omega), f6 i (by omega)]) (fun x q0 q1 => by
          by_cases hx : x = a
          · rw [hx]; exact g6
          · rw [g5 _ (by omega), f7 x (by omega) q1])
        exact this
      refine b_X4_takeOut_78 (fun h => absurd h (by omega)) (fun _ => b_X4_takeOut_83 (by omega) (fun hm => ?_) (fun hm => b_X4_takeOut_97 L hs (by omega) (fun hl => ?_) (fun hl => ?_)))
      · have ex : tkG g c n a = tk0 g c n a := by unfold tkG exG; rw [if_neg (fun q => by omega)]; omega
        have em : mis g c n a = mis g c n (a - 1) := by rw [ems]; unfold exG; rw [if_neg (fun q => by omega)]; omega
        refine b_X4_takeOut_122 L hs ?_ ?_
        · rw [up_na (by omega), e5, e195, f3, ← ex]; omega
        · rw [up_na (by omega), e5, e195]
          refine done (tk0 g c n a) _ _ _ ex.symm em (fun b i q1 q2 q3 => by rw [up_na q3, up_na q2]) (fun i q => by rw [up_ni q, up_na (by omega)]) (up_s _ _ _ _) (fun i q => by rw [up_na (by omega), up_na (by omega)]) (by rw [up_na (by omega), up_na (by omega), e195]) (fun i q => by rw [up_na (by omega), up_ni q]) (by rw [up_na (by omega), up_s])
      · have hl2 : ¬ (0 < mis g c n a ∧ tk0 g c n a < g (10 + 20 * c + a)) := fun q => by omega
        have ex : tkG g c n a = tk0 g c n a := by unfold tkG exG; rw [if_neg hl2]; omega
        have em : mis g c n a = mis g c n (a - 1) := by rw [ems]; unfold exG; rw [if_neg hl2]; omega
        refine b_X4_takeOut_122 L hs ?_ ?_
        · rw [up_na (by omega), e5, e195, f3, ← ex]; omega
        · rw [up_na (by omega), e5, e195]
          refine done (tk0 g c n a) _ _ _ ex.symm em (fun b i q1 q2 q3 => by rw [up_na q3, up_na q2]) (fun i q => by rw [up_ni q, up_na (by omega)]) (up_s _ _ _ _) (fun i q => by rw [up_na (by omega), up_na (by omega)]) (by rw [up_na (by omega), up_na (by omega), e195]) (fun i q => by rw [up_na (by omega), up_ni q]) (by rw [up_na (by omega), up_s])
      · have hl2 : 0 < mis g c n a ∧ tk0 g c n a < g (10 + 20 * c + a) := by omega
        have ex : tkG g c n a = tk0 g c n a + 1 := by unfold tkG exG; rw [if_pos hl2]
        have em : mis g c n a + -1 = mis g c n (a - 1) := by rw [ems]; unfold exG; rw [if_pos hl2]; omega
        refine b_X4_takeOut_111 L hs ?_ ?_
        · rw [up_na (a := 195) (by omega), up_na (a := s + 5) (by omega), up_s, e5, e195, f3, ← ex]; omega
        · rw [up_na (a := 195) (b := s + 5) (by omega), up_na (a := s + 5) (b := 195) (by omega), up_s, e5, e195]
          refine done (tk0 g c n a + 1) _ _ _ ex.symm em (fun b i q1 q2 q3 => by rw [up_na q3, up_na q2, up_na q1]) (fun i q => by rw [up_ni q, up_na (by omega), up_na (by omega)]) (up_s _ _ _ _) (fun i q => by rw [up_na (by omega), up_na (by omega), up_ni q]) (by rw [up_na (by omega), up_na (by omega), up_s]) (fun i q => by rw [up_na (by omega), up_ni q, up_na (by omega)]) (by rw [up_na (by omega), up_s])
  · intro i h0 h1 ih
    have e := sm_s (tk0 g c n) h0
    have ed : fw M 195 (tk0 g c n) 0 i (s + 5) (c * 20 + i) = g (10 + 20 * c + i) := by rw [fw_na (by omega), h.dd hc ⟨h0, h1⟩]
    have t2 := ht0 i h0 h1
    have t3 := hone i h0 h1
    have et : (g (10 + 20 * c + i) * (n * 1000)).tdiv (allG g c) = tk0 g c n i := by unfold tk0; rw [Int.mul_comm n 1000]
    have hd := ok.nn (10 + 20 * c + i) (by omega) (by omega)
    have p1 : 0 ≤ g (10 + 20 * c + i) * (n * 1000) := Int.mul_nonneg hd (by omega)
    have p2 : g (10 + 20 * c + i) * (n * 1000) ≤ 999000 * 999000 := Int.mul_le_mul (by omega) (by omega) (by omega) (by omega)
    have p3 : sm (tk0 g c n) i ≤ sm (tk0 g c n) 20 := sm_mono h0 (by omega) (fun x q0 q1 => (ht0 x q0 q1).1)
    have p4 : 0 ≤ sm (tk0 g c n) i := sm_nn h0 (fun x q0 q1 => (ht0 x q0 (by omega)).1)
    refine b_X4_takeOut_26 (fun h => absurd h (by omega)) (fun _ => b_X4_takeOut_33 L hs ?_ ?_)
    · rw [ed, et, w32_id (by omega)]; omega
    · rw [ed, et, w32_id (by omega)]
      have e2 : n * 1000 - sm (tk0 g c n) i - tk0 g c n i = n * 1000 - sm (tk0 g c n) (i + 1) := by omega
      have e4 := fw_up (M := M) (a := 195) (f := tk0 g c n) (lo := 0) (n := i) (v := tk0 g c n i) h0 (by rw [Int.zero_add])
      rw [Int.zero_add] at e4
      rw [e2, e4]; exact ih
set_option maxHeartbeats 1000000 in
theorem c_putIn (L : Lay S) (hs : Stk S s) (h : StkR g s M) (ok : okS g) {c : Int} {t : Int → Int} (hc : 0 ≤ c ∧ c < 8) (ht : ∀ a, 0 ≤ a → a < 20 → M 195 a = t a) (hnn : ∀ a, 0 ≤ a → a < 20 → 0 ≤ t a) (hA : allG g c + sm t 20 ≤ 1000 * g (178 + c))
    (k : ∀ M', StkR (putG g c t) s M' → FrS s M M' → Q none S M') : e_X4_putIn d s c 195 S M Q := by
  have hlo := hs.lo
  have hhi := hs.hi
  have hall := ok.all hc
  have hz := ok.z hc
  have hyr := ok.yr hc
  have ok' : okS (putG g c t) := put_ok ok hc hnn hA
  refine b_X4_putIn_0 ?_
  have key := for_up (W := fun i => ∀ M' : mMem, (∀ b j, b ≠ s + 3 → b ≠ s + 4 → b ≠ s + 5 → M' b j = M b j) → (∀ j, j ≠ c → M' (s + 3) j = M (s + 3) j) → (∀ j, j ≠ c → M' (s + 4) j = M (s + 4) j) → M' (s + 3) c = allG g c + sm t i → M' (s + 4) c = yrG g c + sm (fun a => a * t a) i → (∀ j, (j < c * 20 ∨ c * 20 + i ≤ j) → M' (s + 5) j = M (s + 5) j) → (∀ a, 0 ≤ a → a < i → M' (s + 5) (c * 20 + a) = g (10 + 20 * c + a) + t a) → WP PR d 52 2 [vA s, vI c, vA 195, vI i] [] S M' Q) (lo := 0) (hi := 20) (by decide) ?_ ?_
  · exact key M (fun b j _ _ _ => rfl) (fun _ _ => rfl) (fun _ _ => rfl) (by rw [h.a hc, sm_0]; omega) (by rw [h.y hc, sm_0]; omega) (fun _ _ => rfl) (fun a q0 q1 => absurd q1 (by omega))
  · intro M' f1 f2 f3 f4 f5 f6 f7
    refine b_X4_putIn_2 (fun _ => b_X4_putIn_59 (k _ ?_ ?_)) (fun h => absurd h (by decide))
    · refine seg_R h hc (fun i => f1 _ _ (by omega) (by omega) (by omega)) (fun i => f1 _ _ (by omega) (by omega) (by omega)) (fun i => f1 _ _ (by omega) (by omega) (by omega)) (fun i => f1 _ _ (by omega) (by omega) (by omega)) (fun i _ _ q => f2 i q) (fun i _ _ q => f3 i q) (by rw [f4, put_sum]) (by rw [f5, put_yr]) (fun i q0 q1 q2 => f6 i (by omega)) (fun a q0 q1 => f7 a q0 q1)
    · intro a i ha
      exact f1 a i (by omega) (by omega) (by omega)
  · intro i h0 h1 ih M' f1 f2 f3 f4 f5 f6 f7
    have e5 : M' (s + 5) (c * 20 + i) = g (10 + 20 * c + i) := by rw [f6 _ (by omega), h.dd hc ⟨h0, h1⟩]
    have e195 : M' 195 i = t i := by rw [f1 _ _ (by omega) (by omega) (by omega), ht i h0 h1]
    have hd := ok.one hc (a := i) ⟨h0, h1⟩
    have hd0 := ok.nn (10 + 20 * c + i) (by omega) (by omega)
    have ht0 := hnn i h0 h1
    have ht1 : t i ≤ sm t 20 := sm_one h0 h1 hnn
    have es := sm_s t h0
    have es2 := sm_s (fun a => a * t a) h0
    have p1 : sm t (i + 1) ≤ sm t 20 := sm_mono (by omega) (by omega) hnn
    have p2 : 0 ≤ sm t i := sm_nn h0 (fun a q0 q1 => hnn a q0 (by omega))
    have p3 : 0 ≤ i * t i := Int.mul_nonneg h0 ht0
    have p4 : i * t i ≤ 19 * 999000 := Int.mul_le_mul (by omega) (by omega) ht0 (by decide)
    have p5 : 0 ≤ sm (fun a => a * t a) i := sm_nn h0 (fun a q0 q1 => Int.mul_nonneg q0 (hnn a q0 (by omega)))
    have p6 : sm (fun a => a * t a) i ≤ sm (fun a => 19 * t a) i := sm_le h0 (fun a q0 q1 => Int.mul_le_mul_of_nonneg_right (by omega) (hnn a q0 (by omega)))
    rw [sm_mul _ _ h0] at p6
    refine b_X4_putIn_2 (fun h => absurd h (by omega)) (fun _ => b_X4_putIn_8 L hs ?_ ?_)
    · rw [up_na (a := s + 3) (by omega), up_na (a := s + 5) (by omega), e5, e195, f4, f5]
      omega
    · rw [up_na (a := s + 3) (by omega), up_na (a := s + 5) (by omega), e5, e195, f4, f5]
      refine ih _ (fun b j q1 q2 q3 => by rw [up_na q2, up_na q1, up_na q3]; exact f1 b j q1 q2 q3) (fun j q => by rw [up_na (by omega), up_ni q, up_na (by omega)]; exact f2 j q) (fun j q => by rw [up_ni q, up_na (by omega), up_na (by omega)]; exact f3 j q) (by rw [up_na (by omega), up_s, es]; omega) (by rw [up_s, es2]; omega) (fun j q => by rw [up_na (by omega), up_na (by omega), up_ni (by omega)]; exact f6 j (by omega)) (fun a q0 q1 => ?_)
      rw [up_na (by omega), up_na (by omega)]
      by_cases ha : a = i
      · rw [ha, up_s]
      · rw [up_ni (by omega), f7 a q0 (by omega)]
set_option maxHeartbeats 1000000 in
theorem c_growOlder (hs : Stk S s) (h : StkR g s M) (ok : okS g) {c k : Int} (hc : 0 ≤ c ∧ c < 8) (hk : 0 ≤ k ∧ k ≤ 99)
    (kk : ∀ M', StkR (growG g c k) s M' → FrS s M M' → Q (some (vI (lossG g c k))) S M') : e_X4_growOlder d s c k S M Q := by
  have hlo := hs.lo
  have hhi := hs.hi
  have hall := ok.all hc
  have hz := ok.z hc
  have hl := loss_bd ok hc hk
  have hle := fun (a : Int) (q0 : 0 ≤ a) (q1 : a < 20) => le_bd ok hc hk (a := a) ⟨q0, q1⟩
  have hone := fun (a : Int) (q0 : 0 ≤ a) (q1 : a < 20) => ok.one hc (a := a) ⟨q0, q1⟩
  have hlf : ∀ a, 0 ≤ a → a < 20 → 0 ≤ lfG g c k a ∧ lfG g c k a ≤ 999000 := fun a q0 q1 => by
    have h1 := hle a q0 q1
    have h2 := hone a q0 q1
    unfold lfG; omega
  generalize hYf : (fun a => (if 19 < a + 1 then 19 else a + 1) * lfG g c k a) = Y
  have hY : ∀ a, Y a = (if 19 < a + 1 then 19 else a + 1) * lfG g c k a := fun a => by rw [← hYf]
  have hYb : ∀ a, 0 ≤ a → a < 20 → 0 ≤ Y a ∧ Y a ≤ 18981000 := fun a q0 q1 => by
    have h1 := hlf a q0 q1
    rw [hY]
    have h2 : (0 : Int) ≤ (if 19 < a + 1 then 19 else a + 1) ∧ (if 19 < a + 1 then 19 else a + 1) ≤ 19 := by split <;> omega
    exact ⟨Int.mul_nonneg h2.1 h1.1, by have : (if 19 < a + 1 then 19 else a + 1) * lfG g c k a ≤ 19 * 999000 := Int.mul_le_mul h2.2 h1.2 h1.1 (by decide); omega⟩
  refine b_X4_growOlder_0 hs (by omega) ?_
  have key := for_dn (W := fun a => ∀ (M' : mMem) (u6 u7 u8 : mV), (∀ b j, b ≠ s + 4 → b ≠ s + 5 → M' b j = M b j) → (∀ j, j ≠ c → M' (s + 4) j = M (s + 4) j) → M' (s + 4) c = sm Y 20 - sm Y (a + 1) → (∀ j, (j < c * 20 ∨ c * 20 + 20 ≤ j) → M' (s + 5) j = M (s + 5) j) → (∀ x, 0 ≤ x → x ≤ a → M' (s + 5) (c * 20 + x) = g (10 + 20 * c + x)) → (∀ x, x = a + 1 → x < 20 → M' (s + 5) (c * 20 + x) = if x = 19 then lfG g c k 19 else 0) → (∀ x, a + 1 < x → x < 20 → M' (s + 5) (c * 20 + x) = grF g c k x) → WP PR d 54 19 [vA s, vI c, vI k, vI (lossG g c k - sm (leG g c k) (a + 1)), vI (c * 20), vI a, u6, u7, u8] [] S M' Q) (lo := -1) (hi := 19) (by decide) ?_ ?_
  · have := key (up M (s + 4) c 0) vU vU vU (fun b j q1 q2 => up_na q1) (fun j q => up_ni q) (by rw [up_s, show (19 : Int) + 1 = 20 from rfl]; omega) (fun j q => up_na (by omega)) (fun x q0 q1 => by rw [up_na (by omega), h.dd hc (by omega)]) (fun x q0 q1 => absurd q1 (by omega)) (fun x q0 q1 => absurd q1 (by omega))
    have e : lossG g c k - sm (leG g c k) (19 + 1) = 0 := Int.sub_self _
    rw [e] at this; exact this
  · intro M' u6 u7 u8 f1 f2 f3 f4 f5 f6 f7
    refine b_X4_growOlder_19 (fun _ => ?_) (fun h => absurd h (by decide))
    have e3 : M' (s + 3) c = allG g c := by rw [f1 _ _ (by omega) (by omega), h.a hc]
    have e0 : lossG g c k - sm (leG g c k) (-1 + 1) = lossG g c k := by rw [show (-1 : Int) + 1 = 0 from rfl, sm_0]; omega
    rw [e0]
    refine b_X4_growOlder_121 hs ⟨hc, by rw [e3]; omega⟩ ?_
    rw [e3]
    refine kk _ ?_ ?_
    · refine seg_R h hc (fun i => ?_) (fun i => ?_) (fun i => ?_) (fun i => ?_) (fun i _ _ q => ?_) (fun i _ _ q => ?_) ?_ ?_ (fun i q0 q1 q2 => ?_) (fun a q0 q1 => ?_)
      · rw [up_na (by omega), f1 _ _ (by omega) (by omega)]
      · rw [up_na (by omega), f1 _ _ (by omega) (by omega)]
      · rw [up_na (by omega), f1 _ _ (by omega) (by omega)]
      · rw [up_na (by omega), f1 _ _ (by omega) (by omega)]
      · rw [up_ni q, f1 _ _ (by omega) (by omega)]
      · rw [up_na (by omega), f2 i q]
      · rw [up_s, gr_sum]
      · rw [up_na (by omega), f3, show (-1 : Int) + 1 = 0 from rfl, sm_0, gr_yr, hYf]; omega
      · rw [up_na (by omega), f4 i (by omega)]
      · rw [up_na (by omega)]
        by_cases ha : a = 0
        · rw [f6 a (by omega) q1, ha, if_neg (by decide)]; rfl
        · rw [f7 a (by omega) q1]
    · intro a i ha
      rw [up_na (by omega), f1 a i (by omega) (by omega)]
  · intro a h0 h1 ih M' u6 u7 u8 f1 f2 f3 f4 f5 f6 f7
    have b1 := hle a (by omega) (by omega)
    have b2 := hone a (by omega) (by omega)
    have b3 := hlf a (by omega) (by omega)
    have e5 := f5 a (by omega) (by omega)
    have ele : (g (10 + 20 * c + a) * k).tdiv 1000 = leG g c k a := rfl
    have elf : g (10 + 20 * c + a) - leG g c k a = lfG g c k a := rfl
    have eYs := sm_s Y (i := a) (by omega)
    have els := sm_s (leG g c k) (i := a) (by omega)
    have p1 : 0 ≤ sm (leG g c k) a := sm_nn (by omega) (fun x q0 q1 => (hle x q0 (by omega)).2.2.1)
    have p2 : sm (leG g c k) (a + 1) ≤ lossG g c k := sm_mono (by omega) (by omega) (fun x q0 q1 => (hle x q0 q1).2.2.1)
    have p3 := hYb a (by omega) (by omega)
    have p4 := sm_bd (f := Y) (B := 18981000) (n := 20) (by decide) hYb
    have p5 : sm Y (a + 1) ≤ sm Y 20 := sm_mono (by omega) (by omega) (fun x q0 q1 => (hYb x q0 q1).1)
    have p6 : 0 ≤ sm Y a := sm_nn (by omega) (fun x q0 q1 => (hYb x q0 (by omega)).1)
    have eYa := hY a
    have efin : lossG g c k - sm (leG g c k) (a + 1) + leG g c k a = lossG g c k - sm (leG g c k) (a - 1 + 1) := by rw [Int.sub_add_cancel]; omega
    refine b_X4_growOlder_19 (fun h => absurd h (by omega)) (fun _ => ?_)
    by_cases h19 : a = 19
    · subst h19
      have en : (if (19 : Int) < 19 + 1 then (19 : Int) else 19 + 1) = 19 := rfl
      refine b_X4_growOlder_24 hs ?_ ?_
      · rw [en, e5, ele, elf, up_s, f3]
        rw [en] at eYa
        omega
      · rw [en, e5, ele, elf, up_s, f3, efin]
        rw [en] at eYa
        refine ih _ _ _ _ (fun b j q1 q2 => by rw [up_na q1, up_na q2, up_na q2]; exact f1 b j q1 q2) (fun j q => by rw [up_ni q, up_na (by omega), up_na (by omega)]; exact f2 j q) (by rw [up_s]; rw [Int.sub_add_cancel]; omega) (fun j q => by rw [up_na (by omega), up_ni (by omega), up_ni (by omega)]; exact f4 j q) (fun x q0 q1 => by rw [up_na (by omega), up_ni (by omega), up_ni (by omega)]; exact f5 x q0 (by omega)) (fun x q0 q1 => ?_) (fun x q0 q1 => absurd q1 (by omega))
        have hx : x = 19 := by omega
        rw [hx, up_na (by omega), up_s, if_pos rfl]; omega
    · have en : (if (19 : Int) < a + 1 then (19 : Int) else a + 1) = a + 1 := if_neg (by omega)
      have e6 := f6 (a + 1) rfl (by omega)
      have e61 : M' (s + 5) (c * 20 + (a + 1)) + lfG g c k a = grF g c k (a + 1) := by
        rw [e6]; unfold grF
        by_cases h18 : a = 18
        · subst h18; rw [if_pos (by decide), if_neg (by decide), if_pos (by decide)]; omega
        · rw [if_neg (by omega), if_neg (by omega), if_neg (by omega), Int.add_sub_cancel]; omega
      have gb := gr_nn ok hc hk (a := a + 1) (by omega)
      have gb2 : grF g c k (a + 1) ≤ 2000000 := by
        rw [← e61, e6]
        have := hlf 19 (by decide) (by decide)
        split <;> omega
      refine b_X4_growOlder_24 hs ?_ ?_
      · rw [en, e5, ele, elf, up_ni (by omega), e61, f3]
        rw [en] at eYa
        omega
      · rw [en, e5, ele, elf, up_ni (by omega), e61, f3, efin]
        rw [en] at eYa
        refine ih _ _ _ _ (fun b j q1 q2 => by rw [up_na q1, up_na q2, up_na q2]; exact f1 b j q1 q2) (fun j q => by rw [up_ni q, up_na (by omega), up_na (by omega)]; exact f2 j q) (by rw [up_s]; rw [Int.sub_add_cancel]; omega) (fun j q => by rw [up_na (by omega), up_ni (by omega), up_ni (by omega)]; exact f4 j q) (fun x q0 q1 => by rw [up_na (by omega), up_ni (by omega), up_ni (by omega)]; exact f5 x q0 (by omega)) (fun x q0 q1 => ?_) (fun x q0 q1 => ?_)
        · have hx : x = a := by omega
          rw [hx, up_na (by omega), up_ni (by omega), up_s, if_neg h19]
        · by_cases hx : x = a + 1
          · rw [hx, up_na (by omega), up_s]
          · rw [up_na (by omega), up_ni (by omega), up_ni (by omega)]; exact f7 x (by omega) q1
end CC
