/-! The reference reads an order. -/
theorem up1_ne {M : mMem} {a i x a' i' : Int} (h1 : ¬ (a = a' ∧ i = i')) : up M a' i' x a i = M a i := if_neg h1
theorem up2_ne {M : mMem} {a i x y a' i' b' j' : Int} (h1 : ¬ (a = a' ∧ i = i')) (h2 : ¬ (a = b' ∧ i = j')) : up (up M a' i' x) b' j' y a i = M a i := by rw [up1_ne h2, up1_ne h1]
def DrO (M : mMem) (n : Int) (T : TX) : Prop := ∀ i, 0 ≤ i → i < n → M 223 (10 * i) = tk T i ∧ M 223 (10 * i + 9) = tt T i ∧ SecN (cdO M) (M 200 23) (M 223 (10 * i + 1)) (M 223 (10 * i + 1 + 1)) (ts T i 0) ∧ SecN (cdO M) (M 200 23) (M 223 (10 * i + 7)) (M 223 (10 * i + 8)) (ts T i 3) ∧ SecN (cdO M) (M 200 23) (M 223 (10 * i + 3)) (M 223 (10 * i + 3 + 1)) (if tk T i = 0 then none else ts T i 1) ∧ SecN (cdO M) (M 200 23) (M 223 (10 * i + 5)) (M 223 (10 * i + 5 + 1)) (if tk T i = 0 then ts T i 1 else ts T i 2)
theorem DrO.gr {M M' : mMem} {n : Int} {T : TX} (h : DrO M n T) (hn : M 200 23 ≤ M' 200 23) (he : ∀ k, 0 ≤ k → k < M 200 23 → cdO M' k = cdO M k) (h2 : ∀ k, 0 ≤ k → k < 10 * n → M' 223 k = M 223 k) : DrO M' n T := fun i p0 p1 => by
  obtain ⟨a, b, c, e, f, g⟩ := h i p0 p1
  rw [h2 (10 * i) (by omega) (by omega), h2 (10 * i + 9) (by omega) (by omega), h2 (10 * i + 1) (by omega) (by omega), h2 (10 * i + 1 + 1) (by omega) (by omega), h2 (10 * i + 7) (by omega) (by omega), h2 (10 * i + 8) (by omega) (by omega), h2 (10 * i + 3) (by omega) (by omega), h2 (10 * i + 3 + 1) (by omega) (by omega), h2 (10 * i + 5) (by omega) (by omega), h2 (10 * i + 5 + 1) (by omega) (by omega)]
  exact ⟨a, b, c.gr hn he, e.gr hn he, f.gr hn he, g.gr hn he⟩
/-- within an order: its three sums so far -/
def OrC (lf : Int) (tp : Int → Int) (len : Int) (M0 : mMem) (T : TX) (c kd : Int) (A B C : Option Den) (q m : Int) (M : mMem) : Prop := EPre lf tp len q m M ∧ TabM M ∧ DrO M c T ∧ M 223 (10 * c) = kd ∧ M 200 21 = c + 1 ∧ FrTM M0 M ∧ SecN (cdO M) (M 200 23) (M 223 (10 * c + 1)) (M 223 (10 * c + 1 + 1)) A ∧ SecN (cdO M) (M 200 23) (M 223 (10 * c + 3)) (M 223 (10 * c + 3 + 1)) B ∧ SecN (cdO M) (M 200 23) (M 223 (10 * c + 5)) (M 223 (10 * c + 5 + 1)) C
section OD
variable {d : Nat} {S : mSh} {M : mMem} {Q : Option mV → mSh → mMem → Prop} {tp : Int → Int} {len p nl lf : Int} {T : TX} {M0 : mMem} {c kd q m : Int} {A B C : Option Den}
theorem OrC.s1 {M' : mMem} {q' m' : Int} {D : Den} (hc : 0 ≤ c) (h : OrC lf tp len M0 T c kd A B C q m M) (e : EPre lf tp len q' m' M') (sw : SumW M (10 * c + 1) (some D) M') : OrC lf tp len M0 T c kd (some D) B C q' m' M' := by
  obtain ⟨h1, h2, h3, h4, h5, h6, h7, h8, h9⟩ := h
  obtain ⟨s1, s2, s3, s4⟩ := sw
  refine ⟨e, h2.mvT (fun a i w => s2 a i (by omega)), h3.gr s3 s4 (fun k q0 q1 => s2 _ _ (by omega)), (s2 _ _ (by omega)).trans h4, (s2 _ _ (by omega)).trans h5, h6.tr (fun a i w => s2 a i (by omega)), s1, ?_, ?_⟩
  · rw [s2 223 (10 * c + 3) (by omega), s2 223 (10 * c + 3 + 1) (by omega)]; exact h8.gr s3 s4
  · rw [s2 223 (10 * c + 5) (by omega), s2 223 (10 * c + 5 + 1) (by omega)]; exact h9.gr s3 s4
theorem OrC.s3 {M' : mMem} {q' m' : Int} {D : Den} (hc : 0 ≤ c) (h : OrC lf tp len M0 T c kd A B C q m M) (e : EPre lf tp len q' m' M') (sw : SumW M (10 * c + 3) (some D) M') : OrC lf tp len M0 T c kd A (some D) C q' m' M' := by
  obtain ⟨h1, h2, h3, h4, h5, h6, h7, h8, h9⟩ := h
  obtain ⟨s1, s2, s3, s4⟩ := sw
  refine ⟨e, h2.mvT (fun a i w => s2 a i (by omega)), h3.gr s3 s4 (fun k q0 q1 => s2 _ _ (by omega)), (s2 _ _ (by omega)).trans h4, (s2 _ _ (by omega)).trans h5, h6.tr (fun a i w => s2 a i (by omega)), ?_, s1, ?_⟩
  · rw [s2 223 (10 * c + 1) (by omega), s2 223 (10 * c + 1 + 1) (by omega)]; exact h7.gr s3 s4
  · rw [s2 223 (10 * c + 5) (by omega), s2 223 (10 * c + 5 + 1) (by omega)]; exact h9.gr s3 s4
theorem OrC.s5 {M' : mMem} {q' m' : Int} {D : Den} (hc : 0 ≤ c) (h : OrC lf tp len M0 T c kd A B C q m M) (e : EPre lf tp len q' m' M') (sw : SumW M (10 * c + 5) (some D) M') : OrC lf tp len M0 T c kd A B (some D) q' m' M' := by
  obtain ⟨h1, h2, h3, h4, h5, h6, h7, h8, h9⟩ := h
  obtain ⟨s1, s2, s3, s4⟩ := sw
  refine ⟨e, h2.mvT (fun a i w => s2 a i (by omega)), h3.gr s3 s4 (fun k q0 q1 => s2 _ _ (by omega)), (s2 _ _ (by omega)).trans h4, (s2 _ _ (by omega)).trans h5, h6.tr (fun a i w => s2 a i (by omega)), ?_, ?_, s1⟩
  · rw [s2 223 (10 * c + 1) (by omega), s2 223 (10 * c + 1 + 1) (by omega)]; exact h7.gr s3 s4
  · rw [s2 223 (10 * c + 3) (by omega), s2 223 (10 * c + 3 + 1) (by omega)]; exact h8.gr s3 s4
/-- only places above 6 of the clause change -/
theorem OrC.cg {M' : mMem} {q' m' : Int} (hc : 0 ≤ c) (h : OrC lf tp len M0 T c kd A B C q m M) (e : EPre lf tp len q' m' M') (hf : FrTM M M') (hr : ∀ k, k < 10 * c + 7 → M' 223 k = M 223 k) (h21 : M' 200 21 = M 200 21) (hn : M 200 23 ≤ M' 200 23) (he : ∀ k, 0 ≤ k → k < M 200 23 → cdO M' k = cdO M k) : OrC lf tp len M0 T c kd A B C q' m' M' := by
  obtain ⟨h1, h2, h3, h4, h5, h6, h7, h8, h9⟩ := h
  refine ⟨e, h2.mvT hf, h3.gr hn he (fun k q0 q1 => hr k (by omega)), (hr _ (by omega)).trans h4, h21.trans h5, h6.tr hf, ?_, ?_, ?_⟩
  · rw [hr (10 * c + 1) (by omega), hr (10 * c + 1 + 1) (by omega)]; exact h7.gr hn he
  · rw [hr (10 * c + 3) (by omega), hr (10 * c + 3 + 1) (by omega)]; exact h8.gr hn he
  · rw [hr (10 * c + 5) (by omega), hr (10 * c + 5 + 1) (by omega)]; exact h9.gr hn he
theorem BadR.u {f i v : Int} (h : BadR M0 f M) : BadR M0 f (up M 223 i v) := ⟨by rw [up_na (by decide), up_na (by decide)]; exact h.1, h.2.tr (fun a j w => up_na (by omega))⟩
/-- what is behind a fault -/
theorem s_ord212B (L : Lay S) {x1 x3 f : Int} (hc : 0 ≤ c ∧ c < 12) (h : BadR M0 f M) (k : ∀ M', BadR M0 f M' → Q none S M') : WP PR d 219 212 [vA 200, vI x1, vI (10 * c), vI x3] [] S M Q :=
  b_X9_readOrder_212 L (by omega) (fun _ => b_X9_readOrder_251 L (by omega) (k _ h.u.u)) (fun w => absurd w (by rw [h.1.1]; decide))
theorem s_ord164B (L : Lay S) {x1 x3 f : Int} (hc : 0 ≤ c ∧ c < 12) (h : BadR M0 f M) (k : ∀ M', BadR M0 f M' → Q none S M') : WP PR d 219 164 [vA 200, vI x1, vI (10 * c), vI x3] [] S M Q :=
  b_X9_readOrder_164 L (by omega) (fun _ => s_ord212B L hc h.u k) (fun w => absurd w (by rw [h.1.1]; decide))
theorem s_ord145B (L : Lay S) {x1 x3 f : Int} (hc : 0 ≤ c ∧ c < 12) (h : BadR M0 f M) (k : ∀ M', BadR M0 f M' → Q none S M') : WP PR (d + 2) 219 145 [vA 200, vI x1, vI (10 * c), vI x3] [] S M Q := by
  have g : WP PR (d + 2) 219 154 [vA 200, vI x1, vI (10 * c), vI x3] [] S M Q := b_X9_readOrder_154 L (by omega) (s_readBehindB L h (by omega) (fun M1 b1 => s_ord164B L hc b1 k))
  exact b_X9_readOrder_145 (fun _ => g) (fun _ => b_X9_readOrder_150 (fun _ => s_ord164B L hc h k) (fun _ => g))
theorem s_ord125B (L : Lay S) {x1 x3 f : Int} (hc : 0 ≤ c ∧ c < 12) (h : BadR M0 f M) (k : ∀ M', BadR M0 f M' → Q none S M') : WP PR (d + 2) 219 125 [vA 200, vI x1, vI (10 * c), vI x3] [] S M Q := by
  have g : WP PR (d + 2) 219 135 [vA 200, vI x1, vI (10 * c), vI x3] [] S M Q := b_X9_readOrder_135 L (by omega) (s_readBehindB L h (by omega) (fun M1 b1 => s_ord145B L hc b1 k))
  exact b_X9_readOrder_125 (fun _ => g) (fun _ => b_X9_readOrder_130 (fun _ => s_ord145B L hc h k) (fun _ => g))
/-- the test of an order -/
theorem s_ordIf (L : Lay S) (hlf : ¬ lf = 0) {x1 x3 t : Int} (hc : 0 ≤ c ∧ c < 12) (h : OrC lf tp len M0 T c kd A B C q m M) (h9 : M 223 (10 * c + 9) = t) (e7 : M 223 (10 * c + 7) = M 200 23)
    (kG : ∀ z l o' M', ifR tp len false q m = .inr (z, l, o') → OrC lf tp len M0 T c kd A B C z l M' → M' 223 (10 * c + 9) = t → SecN (cdO M') (M' 200 23) (M' 223 (10 * c + 7)) (M' 223 (10 * c + 8)) o' → Q none S M')
    (kB : ∀ f M', ifR tp len false q m = .inl f → BadR M0 f M' → Q none S M') : WP PR (d + 7) 219 232 [vA 200, vI x1, vI (10 * c), vI x3] [] S M Q := by
  have hE := h.1
  have hq := hE.1.2.2.2.1
  have h23 := hE.2.2.2.2.1
  have fin : ∀ z l o' M2, ifR tp len false q m = .inr (z, l, o') → OrC lf tp len M0 T c kd A B C z l M2 → M2 223 (10 * c + 9) = t → SecN (cdO M2) (M2 200 23) (M2 223 (10 * c + 7)) (M2 200 23) o' → WP PR (d + 7) 219 251 [vA 200, vI x1, vI (10 * c), vI x3] [] S M2 Q := by
    intro z l o' M2 eI o2 t2 s2
    have f3 : ∀ a i, ¬ (a = 223 ∧ i = 10 * c + 8) → up M2 223 (10 * c + 8) (M2 200 23) a i = M2 a i := fun a i w => up1_ne w
    have c3 : cdO (up M2 223 (10 * c + 8) (M2 200 23)) = cdO M2 := funext fun i => cdO_eq (f3 _ _ (by omega)) (f3 _ _ (by omega))
    refine b_X9_readOrder_251 L (by omega) (kG z l o' _ eI (o2.cg hc.1 (o2.1.cg (fun a i w => f3 a i (by omega))) (fun a i w => f3 a i (by omega)) (fun k w => f3 _ _ (by omega)) (f3 _ _ (by omega)) (by rw [f3 _ _ (by omega)]; exact Int.le_refl _) (fun k _ _ => by rw [c3])) (by rw [f3 _ _ (by omega)]; exact t2) ?_)
    rw [c3, f3 200 23 (by omega), up_s, f3 223 (10 * c + 7) (by omega)]; exact s2
  refine b_X9_readOrder_232 L (s_isWord L hE.1 (fun hw => b_X9_readOrder_239 (fun w => absurd w (by decide)) (fun _ => b_X9_readOrder_242 L (s_nx L hE.1 (fun M2 r2 f2 => b_X9_readOrder_246 L ?_)))) (fun hw => b_X9_readOrder_239 (fun _ => fin q m none M (by unfold ifR; rw [if_neg hw]) h h9 (by rw [e7]; rfl)) (fun w => absurd rfl w)))
  have p2 := hE.nx r2 f2
  have n2 : M2 200 23 = M 200 23 := f2 _ _ (by omega)
  have o2 : OrC lf tp len M0 T c kd A B C (tT tp len q) m M2 := h.cg hc.1 p2 (FrTM.ofT f2) (fun k _ => f2 _ _ (by omega)) (f2 _ _ (by omega)) (by omega) (fun k _ _ => by rw [f2.cd])
  refine s_rdEx L (laws := false) (Or.inr ⟨rfl, hlf⟩) (nt := 10) (Or.inr ⟨rfl, rfl⟩) p2 o2.2.1 (fun z l D M3 eq p3 _ sg hB fe fr => ?_) (fun f M3 eq b => b_X9_readOrder_251 L (by omega) (kB f _ (by unfold ifR; rw [if_pos hw, eq]) (BadR.u ⟨b.1, (o2.2.2.2.2.2.1).tr (FrTM.ofP b.2.1)⟩)))
  have lt := sg.lt
  refine fin z l (some D) M3 (by unfold ifR; rw [if_pos hw, eq]) (o2.cg hc.1 p3 (FrTM.ofP fr) (fun k _ => fr _ _ (by omega)) (fr _ _ (by omega)) (by omega) fe) (by rw [fr _ _ (by omega), f2 _ _ (by omega)]; exact h9) ?_
  rw [fr 223 _ (by omega), f2 223 _ (by omega), e7, ← n2]
  exact ⟨by omega, Int.le_refl _, l - m, by have := p3.2.2.2.2.2; have := p2.2.2.2.2.2; omega, sg⟩
/-- the times of an order, and its test -/
theorem s_ordTail (L : Lay S) (hlf : ¬ lf = 0) {x1 x3 : Int} (hc : 0 ≤ c ∧ c < 12) (h : OrC lf tp len M0 T c kd A B C q m M)
    (kG : ∀ r t z l o' M', tmR tp len false q = .inr (r, t) → ifR tp len false r m = .inr (z, l, o') → OrC lf tp len M0 T c kd A B C z l M' → M' 223 (10 * c + 9) = t → SecN (cdO M') (M' 200 23) (M' 223 (10 * c + 7)) (M' 223 (10 * c + 8)) o' → Q none S M')
    (kB1 : ∀ f M', tmR tp len false q = .inl f → BadR M0 f M' → Q none S M')
    (kB2 : ∀ r t f M', tmR tp len false q = .inr (r, t) → ifR tp len false r m = .inl f → BadR M0 f M' → Q none S M') : WP PR (d + 7) 219 164 [vA 200, vI x1, vI (10 * c), vI x3] [] S M Q := by
  have hE := h.1
  have f1 : ∀ a i, ¬ (a = 223 ∧ i = 10 * c + 9) → up M 223 (10 * c + 9) 1 a i = M a i := fun a i w => up1_ne w
  have e9 : up M 223 (10 * c + 9) 1 223 (10 * c + 9) = 1 := up_s _ _ _ _
  refine b_X9_readOrder_164 L (by omega) (fun w => absurd hE.2.2.1 w) (fun _ => ?_)
  generalize up M 223 (10 * c + 9) 1 = M1 at f1 e9
  have c1 : cdO M1 = cdO M := funext fun i => cdO_eq (f1 _ _ (by omega)) (f1 _ _ (by omega))
  have n1 : M1 200 23 = M 200 23 := f1 _ _ (by omega)
  have p1 : EPre lf tp len q m M1 := hE.cg (fun a i w => f1 a i (by omega))
  have o1 : OrC lf tp len M0 T c kd A B C q m M1 := h.cg hc.1 p1 (fun a i w => f1 a i (by omega)) (fun k _ => f1 _ _ (by omega)) (f1 _ _ (by omega)) (by omega) (fun k _ _ => by rw [c1])
  have go : ∀ r t M2, tmR tp len false q = .inr (r, t) → OrC lf tp len M0 T c kd A B C r m M2 → M2 223 (10 * c + 9) = t → ∀ M3, M3 = up M2 223 (10 * c + 7) (M2 200 23) → WP PR (d + 7) 219 232 [vA 200, vI x1, vI (10 * c), vI x3] [] S M3 Q := by
    intro r t M2 eT o2 e2 M3 hM3
    have f3 : ∀ a i, ¬ (a = 223 ∧ i = 10 * c + 7) → M3 a i = M2 a i := fun a i w => by rw [hM3]; exact up1_ne w
    have c3 : cdO M3 = cdO M2 := funext fun i => cdO_eq (f3 _ _ (by omega)) (f3 _ _ (by omega))
    have n3 : M3 200 23 = M2 200 23 := f3 _ _ (by omega)
    refine s_ordIf L hlf hc (o2.cg hc.1 (o2.1.cg (fun a i w => f3 a i (by omega))) (fun a i w => f3 a i (by omega)) (fun k w => f3 _ _ (by omega)) (f3 _ _ (by omega)) (by omega) (fun k _ _ => by rw [c3])) (t := t) (by rw [f3 _ _ (by omega)]; exact e2) (by rw [n3, hM3]; exact up_s _ _ _ _) (fun z l o' M4 eI o4 e4 s4 => kG r t z l o' M4 eT eI o4 e4 s4) (fun f M4 eI b4 => kB2 r t f M4 eT eI b4)
  have to212 : ∀ r t M2, tmR tp len false q = .inr (r, t) → OrC lf tp len M0 T c kd A B C r m M2 → M2 223 (10 * c + 9) = t → WP PR (d + 7) 219 212 [vA 200, vI x1, vI (10 * c), vI x3] [] S M2 Q := fun r t M2 eT o2 e2 => b_X9_readOrder_212 L (by omega) (fun w => absurd o2.1.2.2.1 w) (fun _ => go r t M2 eT o2 e2 _ rfl)
  refine b_X9_readOrder_181 L (s_isWord L p1.1 (fun hw => b_X9_readOrder_188 (fun w => absurd w (by decide)) (fun _ => b_X9_readOrder_191 L (s_nx L p1.1 (fun M2 r2 f2 => b_X9_readOrder_195 L (by omega) ?_)))) (fun hw => b_X9_readOrder_188 (fun _ => to212 q 1 M1 (by unfold tmR; rw [if_neg (fun w => hw w.2)]) o1 e9) (fun w => absurd rfl w)))
  have p2 := p1.nx r2 f2
  have o2 : OrC lf tp len M0 T c kd A B C (tT tp len q) m M2 := o1.cg hc.1 p2 (FrTM.ofT f2) (fun k _ => f2 _ _ (by omega)) (f2 _ _ (by omega)) (by rw [f2 _ _ (by omega)]; exact Int.le_refl _) (fun k _ _ => by rw [f2.cd])
  refine s_numE L p2 (lo := 1) (hi := 20) (by decide) (fun hn M3 p3 f3 => ?_) (fun hn v M3 b3 => ?_)
  · have o3 : OrC lf tp len M0 T c kd A B C (tT tp len (tT tp len q)) m M3 := o2.cg hc.1 p3 (FrTM.ofT f3) (fun k _ => f3 _ _ (by omega)) (f3 _ _ (by omega)) (by rw [f3 _ _ (by omega)]; exact Int.le_refl _) (fun k _ _ => by rw [f3.cd])
    generalize hv : tW tp len (tT tp len q) = v at hn
    have f4 : ∀ a i, ¬ (a = 223 ∧ i = 10 * c + 9) → up M3 223 (10 * c + 9) v a i = M3 a i := fun a i w => up1_ne w
    have c4 : cdO (up M3 223 (10 * c + 9) v) = cdO M3 := funext fun i => cdO_eq (f4 _ _ (by omega)) (f4 _ _ (by omega))
    have o4 : OrC lf tp len M0 T c kd A B C (tT tp len (tT tp len q)) m (up M3 223 (10 * c + 9) v) := o3.cg hc.1 (p3.cg (fun a i w => f4 a i (by omega))) (fun a i w => f4 a i (by omega)) (fun k w => f4 _ _ (by omega)) (f4 _ _ (by omega)) (by rw [f4 _ _ (by omega)]; exact Int.le_refl _) (fun k _ _ => by rw [c4])
    have eT : tmR tp len false q = .inr (tT tp len (tT tp len q), v) := by unfold tmR; rw [if_pos ⟨rfl, hw⟩, hv, if_pos hn]
    exact b_X9_readOrder_211 L (lo223 L) (by rw [ll223 L]; omega) (fun w => absurd o4.1.2.2.1 w) (fun _ => go _ _ _ eT o4 (up_s _ _ _ _) _ rfl)
  · have eT : tmR tp len false q = .inl (tF tp len (tT tp len q)) := by unfold tmR; rw [if_pos ⟨rfl, hw⟩, if_neg hn]
    have b4 : BadR M0 (tF tp len (tT tp len q)) (up M3 223 (10 * c + 9) v) := BadR.u ⟨b3.1, o2.2.2.2.2.2.1.tr b3.2⟩
    exact b_X9_readOrder_211 L (lo223 L) (by rw [ll223 L]; omega) (fun _ => b_X9_readOrder_251 L (by omega) (kB1 _ _ eT b4.u.u)) (fun w => absurd w (by rw [b4.1.1]; decide))
end OD
