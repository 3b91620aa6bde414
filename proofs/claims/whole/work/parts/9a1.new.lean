/-! The constructors: the small ones. -/
def slT : Int → Int → Int := fun k l => if k = 0 then 6 else if k = 1 then 4 else if k = 2 then 10 else if k = 3 then 10 else if k = 4 then 8 else if k = 5 then 2 else if k = 6 then 4 else if k = 7 then 7 else if k = 8 then 15 else if k = 9 then 55 else l
def Uz (m : Int) : Int := (layT.take m.toNat).foldl (fun s q => s + slT q.1 q.2) 0
abbrev TB (m k l u : Int) : Prop := kdT m = k ∧ lnT m = l ∧ Uz m = Uz (m - 1) + u
def LT (m : Int) (S : mSh) : Prop := sN S = m ∧ sU S = Uz m ∧ ∀ a, 1 ≤ a → a ≤ m → sK S a = kdT a ∧ sL S a = lnT a
def Dn (S : mSh) (a : Int) : Prop := ∀ k ∈ finT (kdT a), sF S a k = 1
def DnR (S : mSh) (lo hi : Int) : Prop := ∀ a, lo ≤ a → a ≤ hi → Dn S a
def FlL (S : mSh) (a : Int) (l : List Int) : Prop := ∀ k ∈ l, sF S a k = 1
section NW
variable {d : Nat} {S S0 S' : mSh} {M M0 M' : mMem} {Q : Option mV → mSh → mMem → Prop} {m m' x0 a kd k l u f lo hi : Int} {fl : List Int}
theorem LT.nw (h : LT m S) (e : m' = m + 1) (t : TB m' k l u) : LT m' (sNew S k l u) := by
  obtain ⟨h1, h2, h3⟩ := h
  obtain ⟨t1, t2, t3⟩ := t
  refine ⟨by rw [sn_new]; omega, by rw [su_new, h2, t3, show m' - 1 = m by omega], fun a q0 q1 => ?_⟩
  by_cases ea : a = sN S + 1
  · have em : a = m' := by omega
    subst em
    rw [ea, sk_self, sl_self, ← ea]; exact ⟨t1.symm, t2.symm⟩
  · rw [sk_ne ea, sl_ne ea]; exact h3 a q0 (by omega)
theorem LT.st (h : LT m S) : LT m (sSet S a k) := h
theorem LT.o (h : LT m S) (h1 : 1 ≤ a) (h2 : a ≤ m) (t : kdT a = kd) : isO S a kd := ⟨h1, by rw [h.1]; exact h2, (h.2.2 a h1 h2).1.trans t⟩
theorem LT.ln (h : LT m S) (h1 : 1 ≤ a) (h2 : a ≤ m) (t : lnT a = l) : sL S a = l := (h.2.2 a h1 h2).2.trans t
theorem Dn.gf (h : Dn S a) (h1 : 1 ≤ a) (h2 : a ≤ sN S) (g : GrF S S') : Dn S' a := fun k hk => (g.2 a h1 h2).2.2 k (h k hk)
theorem Dn.ar (h : kdT a = 20 ∨ kdT a = 21 ∨ kdT a = 22 ∨ kdT a = 23 ∨ kdT a = 24 ∨ kdT a = 25) : Dn S a := fun k hk => by
  have e : finT (kdT a) = [] := by rcases h with h | h | h | h | h | h <;> (rw [h]; rfl)
  rw [e] at hk; cases hk
theorem Dn.of (h : FlL S a fl) (hs : ∀ k ∈ finT (kdT a), k ∈ fl) : Dn S a := fun k hk => h k (hs k hk)
theorem DnR.gf (h : DnR S lo hi) (h1 : 1 ≤ lo) (h2 : hi ≤ sN S) (g : GrF S S') : DnR S' lo hi := fun a q0 q1 => (h a q0 q1).gf (by omega) (by omega) g
theorem DnR.jn {mid : Int} (h : DnR S lo mid) (h' : DnR S (mid + 1) hi) : DnR S lo hi := fun a q0 q1 => by
  by_cases q : a ≤ mid
  · exact h a q0 q
  · exact h' a (by omega) q1
theorem DnR.one (h : Dn S a) : DnR S a a := fun b q0 q1 => by rw [show b = a by omega]; exact h
theorem FlL.gf (h : FlL S a fl) (h1 : 1 ≤ a) (h2 : a ≤ sN S) (g : GrF S S') : FlL S' a fl := fun k hk => (g.2 a h1 h2).2.2 k (h k hk)
theorem FlL.st (h : FlL S a fl) : FlL (sSet S a f) a (f :: fl) := fun k hk => by
  rcases List.mem_cons.mp hk with rfl | hk
  · exact sf_self
  · by_cases e : k = f
    · subst e; exact sf_self
    · rw [sf_set (by omega)]; exact h k hk
/-- an object amid its constructor -/
def CI (x0 m : Int) (fl : List Int) (S0 S : mSh) (M0 M : mMem) : Prop := LT m S ∧ GrF S0 S ∧ FlL S x0 fl ∧ (1 ≤ x0 ∧ x0 ≤ m) ∧ ∀ a i, a < x0 → M a i = M0 a i
def Z (lo hi : Int) (M : mMem) : Prop := ∀ a i, lo ≤ a → a ≤ hi → M a i = 0
theorem CI.be (lt : LT m S) (h1 : 1 ≤ x0) (h2 : x0 ≤ m) : CI x0 m [] S S M M := ⟨lt, GrF.rf S, (fun k hk => by cases hk), ⟨h1, h2⟩, fun _ _ _ => rfl⟩
theorem CI.nw (h : CI x0 m fl S0 S M0 M) (e : m' = m + 1) (t : TB m' k l u) {y : Int} (hy : y = m') : CI x0 m' fl S0 (sNew S k l u) M0 (zr M y) := by
  obtain ⟨h1, h2, h3, h4, h5⟩ := h
  exact ⟨h1.nw e t, h2.tr (GrF.nw S), h3.gf h4.1 (by rw [h1.1]; omega) (GrF.nw S), by omega, fun a i q => by rw [zr_ne (by omega)]; exact h5 a i q⟩
theorem CI.st (h : CI x0 m fl S0 S M0 M) : CI x0 m (f :: fl) S0 (sSet S x0 f) M0 M := ⟨h.1, h.2.1.tr GrF.st, h.2.2.1.st, h.2.2.2⟩
theorem CI.al (h : CI x0 m fl S0 S M0 M) (e : m' = m + 1) (t : TB m' k l u) {y : Int} (hy : y = m') : CI x0 m' (f :: fl) S0 (sSet (sNew S k l u) x0 f) M0 (zr M y) := (h.nw e t hy).st
theorem CI.up {b i v : Int} (h : CI x0 m fl S0 S M0 M) (hb : x0 ≤ b) : CI x0 m fl S0 S M0 (up M b i v) := ⟨h.1, h.2.1, h.2.2.1, h.2.2.2.1, fun a j q => by rw [up_na (by omega)]; exact h.2.2.2.2 a j q⟩
theorem CI.go (h : CI x0 m fl S0 S M0 M) (lt : LT m' S') (g : GrF S S') (e : m ≤ m') (f : ∀ a i, a < x0 → M' a i = M a i) : CI x0 m' fl S0 S' M0 M' := ⟨lt, h.2.1.tr g, h.2.2.1.gf h.2.2.2.1.1 (by rw [h.1.1]; exact h.2.2.2.1.2) g, by have := h.2.2.2.1; omega, fun a i q => (f a i q).trans (h.2.2.2.2 a i q)⟩
theorem CI.e (h : CI x0 m fl S0 S M0 M) {y : Int} (e : m + 1 = y) : sN S + 1 = y := by rw [h.1.1]; exact e
theorem CI.o (h : CI x0 m fl S0 S M0 M) (t : kdT x0 = kd) : isO S x0 kd := h.1.o h.2.2.2.1.1 h.2.2.2.1.2 t
theorem Z.nw {y : Int} (z : Z lo m M) (e : m' = m + 1) (hy : y = m') : Z lo m' (zr M y) := fun a i q0 q1 => by
  by_cases q : a = y
  · rw [q]; exact zr_s
  · rw [zr_ne q]; exact z a i q0 (by omega)
theorem Z.be (h : ∀ i, M x0 i = 0) : Z x0 x0 M := fun a i q0 q1 => by rw [show a = x0 by omega]; exact h i
/-- a Stock -/
abbrev tbS (x0 : Int) : Prop := 1 ≤ x0 ∧ kdT x0 = 4 ∧ TB (x0 + 1) 20 8 8 ∧ TB (x0 + 2) 20 8 8 ∧ TB (x0 + 3) 20 8 8 ∧ TB (x0 + 4) 21 8 8 ∧ TB (x0 + 5) 20 160 160 ∧ TB (x0 + 6) 20 4 4
def TmI (M : mMem) (a : Int) : Prop := M a 0 = 0 ∧ M a 1 = 1 ∧ M a 2 = 0 ∧ M a 3 = 85
theorem c_nStock (lt : LT x0 S) (tb : tbS x0) (hz : ∀ i, M x0 i = 0) (k : ∀ S' M', LT (x0 + 6) S' → GrF S S' → DnR S' x0 (x0 + 6) → (∀ a i, a < x0 → M' a i = M a i) → Z x0 (x0 + 5) M' → TmI M' (x0 + 6) → Q none S' M') : WP PR d 41 0 [vA x0] [] S M Q := by
  obtain ⟨x1, kd, b1, b2, b3, b4, b5, b6⟩ := tb
  have c0 : CI x0 x0 [] S S M M := CI.be lt x1 (Int.le_refl _)
  have z0 := Z.be hz
  refine n_X4_init_0 (c0.o kd).nw (c0.e rfl) x1 ?_
  have c1 := c0.al (f := 0) (m' := x0 + 1) rfl b1 (y := sN S + 1) (c0.e rfl)
  have z1 := z0.nw (m' := x0 + 1) (y := sN S + 1) rfl (c0.e rfl)
  generalize sSet (sNew S 20 8 8) x0 0 = S1 at *
  generalize zr M (sN S + 1) = M1 at *
  refine n_X4_init_12 (c1.o kd).nw (c1.e (by omega)) ?_
  have c2 := c1.al (f := 1) (m' := x0 + 2) (by omega) b2 (y := sN S1 + 1) (c1.e (by omega))
  have z2 := z1.nw (m' := x0 + 2) (y := sN S1 + 1) (by omega) (c1.e (by omega))
  generalize sSet (sNew S1 20 8 8) x0 1 = S2 at *
  generalize zr M1 (sN S1 + 1) = M2 at *
  refine n_X4_init_20 (c2.o kd).nw (c2.e (by omega)) ?_
  have c3 := c2.al (f := 2) (m' := x0 + 3) (by omega) b3 (y := sN S2 + 1) (c2.e (by omega))
  have z3 := z2.nw (m' := x0 + 3) (y := sN S2 + 1) (by omega) (c2.e (by omega))
  generalize sSet (sNew S2 20 8 8) x0 2 = S3 at *
  generalize zr M2 (sN S2 + 1) = M3 at *
  refine n_X4_init_28 (c3.o kd).nw (c3.e (by omega)) ?_
  have c4 := c3.al (f := 3) (m' := x0 + 4) (by omega) b4 (y := sN S3 + 1) (c3.e (by omega))
  have z4 := z3.nw (m' := x0 + 4) (y := sN S3 + 1) (by omega) (c3.e (by omega))
  generalize sSet (sNew S3 21 8 8) x0 3 = S4 at *
  generalize zr M3 (sN S3 + 1) = M4 at *
  refine n_X4_init_36 (c4.o kd).nw (c4.e (by omega)) ?_
  have c5 := c4.al (f := 4) (m' := x0 + 5) (by omega) b5 (y := sN S4 + 1) (c4.e (by omega))
  have z5 := z4.nw (m' := x0 + 5) (y := sN S4 + 1) (by omega) (c4.e (by omega))
  generalize sSet (sNew S4 20 160 160) x0 4 = S5 at *
  generalize zr M4 (sN S4 + 1) = M5 at *
  have e6 : sN S5 + 1 = x0 + 6 := c5.e (by omega)
  have l6 : sL (sNew S5 20 4 4) (sN S5 + 1) = 4 := sl_self
  have n5 : 0 ≤ sN S5 := by omega
  refine n_X4_init_45 (isO_self n5) (isO_self n5) (isO_self n5) (isO_self n5) (c5.o kd).nw e6 (by rw [l6]; decide) (n_X4_init_69 ?_)
  have c6 := c5.al (f := 5) (m' := x0 + 6) (by omega) b6 (y := sN S5 + 1) e6
  have z6 := z5.nw (m' := x0 + 6) (y := sN S5 + 1) (by omega) e6
  generalize sSet (sNew S5 20 4 4) x0 5 = S6 at *
  generalize zr M5 (sN S5 + 1) = M6 at *
  rw [e6]
  have dn : DnR S6 x0 (x0 + 6) := fun a q0 q1 => by
    by_cases e : a = x0
    · subst e; exact Dn.of c6.2.2.1 (by rw [kd]; decide)
    · refine Dn.ar ?_
      have : a = x0 + 1 ∨ a = x0 + 2 ∨ a = x0 + 3 ∨ a = x0 + 4 ∨ a = x0 + 5 ∨ a = x0 + 6 := by omega
      rcases this with rfl | rfl | rfl | rfl | rfl | rfl
      · exact Or.inl b1.1
      · exact Or.inl b2.1
      · exact Or.inl b3.1
      · exact Or.inr (Or.inl b4.1)
      · exact Or.inl b5.1
      · exact Or.inl b6.1
  refine k S6 _ c6.1 c6.2.1 dn (fun a i q => ?_) (fun a i q0 q1 => ?_) ⟨?_, ?_, ?_, ?_⟩
  · rw [up1_ne (by omega), up3_ne (by omega) (by omega) (by omega)]; exact c6.2.2.2.2 a i q
  · rw [up1_ne (by omega), up3_ne (by omega) (by omega) (by omega)]; exact z6 a i q0 (by omega)
  · rw [up1_ne (by omega), up2_ne (by omega) (by omega), up_s]
  · rw [up2_ne (by omega) (by omega), up_s]
  · rw [up1_ne (by omega), up_s]
  · rw [up_s]
/-- a Text -/
abbrev tbT (x0 n m : Int) : Prop := 1 ≤ x0 ∧ kdT x0 = 6 ∧ TB (x0 + 1) 20 (n * 7) (n * 7) ∧ TB (x0 + 2) 20 m m ∧ (0 ≤ n ∧ n ≤ 12) ∧ (0 ≤ m ∧ m ≤ 400)
theorem c_nText {n m : Int} (lt : LT x0 S) (tb : tbT x0 n m) (hz : ∀ i, M x0 i = 0) (k : ∀ S' M', LT (x0 + 2) S' → GrF S S' → DnR S' x0 (x0 + 2) → (∀ a i, a < x0 → M' a i = M a i) → Z x0 (x0 + 2) M' → Q none S' M') : WP PR d 58 0 [vA x0, vI n, vI m] [] S M Q := by
  obtain ⟨x1, kd, b1, b2, hn, hm⟩ := tb
  have c0 : CI x0 x0 [] S S M M := CI.be lt x1 (Int.le_refl _)
  have z0 := Z.be hz
  refine c_newText hn hm lt.1 (c0.o kd) ?_
  have c1 := c0.al (f := 0) (m' := x0 + 1) rfl b1 (y := x0 + 1) rfl
  have z1 := z0.nw (m' := x0 + 1) (y := x0 + 1) rfl rfl
  have c2 := c1.al (f := 1) (m' := x0 + 2) (by omega) b2 (y := x0 + 1 + 1) (by omega)
  have z2 := z1.nw (m' := x0 + 2) (y := x0 + 1 + 1) (by omega) (by omega)
  refine k _ _ c2.1 c2.2.1 (fun a q0 q1 => ?_) c2.2.2.2.2 z2
  by_cases e : a = x0
  · subst e; exact Dn.of c2.2.2.1 (by rw [kd]; decide)
  · refine Dn.ar (Or.inl ?_)
    have : a = x0 + 1 ∨ a = x0 + 2 := by omega
    rcases this with rfl | rfl
    · exact b1.1
    · exact b2.1
end NW
