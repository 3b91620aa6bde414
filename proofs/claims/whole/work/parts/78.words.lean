/-! Tokens by place; words and signs, in the class and in the reference. -/
noncomputable def tF (tp : Int → Int) (len p : Int) : Int := (tokE tp len p).1
noncomputable def tT (tp : Int → Int) (len p : Int) : Int := (tokE tp len p).2.1
noncomputable def tS (tp : Int → Int) (len p : Int) : Int := (tokE tp len p).2.2
noncomputable def tW (tp : Int → Int) (len p : Int) : Int := wth tp (tF tp len p) (tT tp len p) (tS tp len p)
def isTk (tp : Int → Int) (len p : Int) : Prop := IsTok tp len p (tF tp len p) (tT tp len p) (tS tp len p)
theorem isTk.of {tp : Int → Int} {len p f e k : Int} (h : IsTok tp len p f e k) : isTk tp len p ∧ tF tp len p = f ∧ tT tp len p = e ∧ tS tp len p = k := by
  have e1 := tok_eq h
  have a : tF tp len p = f := by unfold tF; rw [e1]
  have b : tT tp len p = e := by unfold tT; rw [e1]
  have c : tS tp len p = k := by unfold tS; rw [e1]
  exact ⟨by unfold isTk; rw [a, b, c]; exact h, a, b, c⟩
theorem isTk.bd {tp : Int → Int} {len p : Int} (h : isTk tp len p) : p ≤ tF tp len p ∧ tF tp len p ≤ tT tp len p ∧ tT tp len p ≤ len ∧ (0 ≤ tS tp len p ∧ tS tp len p ≤ 3) ∧ (tS tp len p = 0 → tF tp len p = len) ∧ (¬ tS tp len p = 0 → tF tp len p < tT tp len p) := by
  obtain ⟨a1, a2, a3, a4⟩ := h
  rcases a4 with ⟨q1, q2, q3⟩ | ⟨q1, q2, q3, q4⟩
  · refine ⟨a1, by omega, by omega, by omega, fun _ => q1, fun q => absurd q3 q⟩
  · have hc := ck_c (tp (tF tp len p))
    rcases q4 with ⟨r1, r2⟩ | ⟨r1, r2, r3, -, -⟩
    · exact ⟨a1, by omega, by omega, by omega, fun q => absurd q (by omega), fun _ => by omega⟩
    · exact ⟨a1, by omega, by omega, by omega, fun q => absurd q (by omega), fun _ => r2⟩
/-- a word's letters -/
def wdL (w : List Int) : Prop := 1 ≤ w.length ∧ w.length ≤ 10 ∧ ∀ (i : Nat), i < w.length → 97 ≤ w.getD i 0 ∧ w.getD i 0 ≤ 122
def codW (w : List Int) : Int := wcd (fun i => w.getD i.toNat 0) 0 w.length
theorem wcd_inj {t t' : Int → Int} {f f' : Int} : ∀ (n m : Nat), n ≤ 10 → m ≤ 10 → (∀ i : Nat, i < n → 97 ≤ t (f + i) ∧ t (f + i) ≤ 122) → (∀ i : Nat, i < m → 97 ≤ t' (f' + i) ∧ t' (f' + i) ≤ 122) → wcd t f n = wcd t' f' m → n = m ∧ ∀ i : Nat, i < n → t (f + i) = t' (f' + i) := by
  have nn : ∀ (t : Int → Int) (f : Int) (n : Nat), n ≤ 10 → (∀ i : Nat, i < n → 97 ≤ t (f + i) ∧ t (f + i) ≤ 122) → 0 ≤ wcd t f n ∧ (0 < n → 1 ≤ wcd t f n) := by
    intro t f n
    induction n with
    | zero => intro _ _; exact ⟨by show (0 : Int) ≤ 0; decide, fun h => absurd h (by decide)⟩
    | succ n ih =>
      intro hn h
      have i1 := ih (by omega) (fun i hi => h i (by omega))
      have h2 := h n (by omega)
      rw [wcd, if_pos (by omega)]
      exact ⟨by omega, fun _ => by omega⟩
  intro n
  induction n with
  | zero =>
    intro m _ hm _ h' he
    cases m with
    | zero => exact ⟨rfl, fun i hi => absurd hi (by omega)⟩
    | succ m =>
      have := (nn t' f' (m + 1) hm h').2 (by omega)
      rw [← he] at this
      exact absurd this (by show ¬ (1 : Int) ≤ 0; decide)
  | succ n ih =>
    intro m hn hm h h' he
    cases m with
    | zero =>
      have := (nn t f (n + 1) hn h).2 (by omega)
      rw [he] at this
      exact absurd this (by show ¬ (1 : Int) ≤ 0; decide)
    | succ m =>
      rw [wcd, wcd, if_pos (by omega), if_pos (by omega)] at he
      have a := h n (by omega)
      have b := h' m (by omega)
      have e1 : wcd t f n = wcd t' f' m := by omega
      have e2 : t (f + n) = t' (f' + m) := by omega
      obtain ⟨r1, r2⟩ := ih m (by omega) (by omega) (fun i hi => h i (by omega)) (fun i hi => h' i (by omega)) e1
      refine ⟨by omega, fun i hi => ?_⟩
      by_cases hin : i = n
      · rw [hin, e2, r1]
      · exact r2 i (by omega)
/-- a token is this text -/
def twd (tp : Int → Int) (f e : Int) (w : List Int) : Prop := e - f = (w.length : Int) ∧ ∀ i : Nat, i < w.length → tp (f + i) = w.getD i 0
theorem twd_word {tp : Int → Int} {len p : Int} (h : isTk tp len p) {w : List Int} (hw : wdL w) : twd tp (tF tp len p) (tT tp len p) w ↔ (tS tp len p = 1 ∧ tW tp len p = codW w) := by
  obtain ⟨w1, w10, wl⟩ := hw
  obtain ⟨a1, a2, a3, a4⟩ := id h
  have eW : tS tp len p = 1 → tW tp len p = wcd tp (tF tp len p) (tT tp len p - tF tp len p).toNat := fun q => by unfold tW wth; rw [if_pos q]
  constructor
  · intro ⟨t1, t2⟩
    have hk : tS tp len p = 1 := by
      rcases a4 with ⟨q1, q2, q3⟩ | ⟨q1, q2, q3, q4⟩
      · omega
      · have h0 := t2 0 (by omega)
        have h1 := wl 0 (by omega)
        have hc := ck_c (tp (tF tp len p))
        rw [show tF tp len p + ((0 : Nat) : Int) = tF tp len p by omega] at h0
        omega
    refine ⟨hk, ?_⟩
    rw [eW hk, show (tT tp len p - tF tp len p).toNat = w.length by omega]
    unfold codW
    -- same letters, same number
    have same : ∀ n : Nat, n ≤ w.length → wcd tp (tF tp len p) n = wcd (fun i => w.getD i.toNat 0) 0 n := by
      intro n
      induction n with
      | zero => intro _; rfl
      | succ n ih =>
        intro hn
        rw [wcd, wcd, ih (by omega), t2 n (by omega)]
        rw [show (0 : Int) + (n : Int) = (n : Int) by omega]
        rfl
    exact same _ (Nat.le_refl _)
  · intro ⟨hk, hc⟩
    rw [eW hk] at hc
    rcases a4 with ⟨q1, q2, q3⟩ | ⟨q1, q2, q3, q4⟩
    · omega
    · rcases q4 with ⟨r1, -⟩ | ⟨r1, r2, r3, r4, r5⟩
      · omega
      · have hall : ∀ i, tF tp len p ≤ i → i < tT tp len p → ck (tp i) = 1 := fun i p0 p1 => by rw [r4 i p0 p1]; exact hk
        have hbd := wcd_bd hall (tT tp len p - tF tp len p).toNat (by omega)
        have hn10 : (tT tp len p - tF tp len p).toNat ≤ 10 := by
          by_cases q : (tT tp len p - tF tp len p).toNat ≤ 10
          · exact q
          · have e1 := hbd.2 (by omega)
            rw [e1] at hc
            have := wcd_bd (tp := fun i => w.getD i.toNat 0) (f := 0) (e := w.length) (fun i p0 p1 => by
              have hi := wl i.toNat (by omega)
              have hcc := ck_c (w.getD i.toNat 0)
              show ck (w.getD i.toNat 0) = 1
              omega) w.length (by omega)
            have h3 := (this.1 w10).1
            unfold codW at hc
            omega
        obtain ⟨s1, s2⟩ := wcd_inj (t := tp) (t' := fun i => w.getD i.toNat 0) (f := tF tp len p) (f' := 0) _ w.length hn10 w10 (fun i hi => by
          have hcc := ck_c (tp (tF tp len p + i))
          have := hall (tF tp len p + i) (by omega) (by omega)
          omega) (fun i hi => by
          have := wl i hi
          show 97 ≤ w.getD (0 + (i : Int)).toNat 0 ∧ w.getD (0 + (i : Int)).toNat 0 ≤ 122
          rw [show (0 + (i : Int)).toNat = i by omega]; exact this) hc
        refine ⟨by omega, fun i hi => ?_⟩
        rw [s2 i (by omega)]
        show w.getD (0 + (i : Int)).toNat 0 = w.getD i 0
        rw [show (0 + (i : Int)).toNat = i by omega]
theorem twd_sign {tp : Int → Int} {len p : Int} (h : isTk tp len p) {b : Int} (hb : ck b = 3) (hb2 : b ≠ 32) : twd tp (tF tp len p) (tT tp len p) [b] ↔ (tS tp len p = 3 ∧ tW tp len p = b) := by
  obtain ⟨a1, a2, a3, a4⟩ := id h
  have eW : tS tp len p = 3 → tW tp len p = tp (tF tp len p) := fun q => by unfold tW wth; rw [if_neg (by omega), if_neg (by omega), if_pos q]
  constructor
  · intro ⟨t1, t2⟩
    have h0 := t2 0 (by simp)
    rw [show tF tp len p + ((0 : Nat) : Int) = tF tp len p by omega] at h0
    have h0 : tp (tF tp len p) = b := h0
    have t1 : tT tp len p - tF tp len p = 1 := t1
    have hk : tS tp len p = 3 := by
      rcases a4 with ⟨q1, q2, q3⟩ | ⟨q1, q2, q3, q4⟩
      · omega
      · rw [q3, h0]; exact hb
    exact ⟨hk, by rw [eW hk]; exact h0⟩
  · intro ⟨hk, hc⟩
    rw [eW hk] at hc
    rcases a4 with ⟨q1, q2, q3⟩ | ⟨q1, q2, q3, q4⟩
    · omega
    · rcases q4 with ⟨r1, r2⟩ | ⟨r1, -⟩
      · refine ⟨by show tT tp len p - tF tp len p = 1; omega, fun i hi => ?_⟩
        have : i = 0 := by simp at hi; omega
        subst this
        rw [show tF tp len p + ((0 : Nat) : Int) = tF tp len p by omega]; exact hc
      · exact absurd hk r1
/-- the class's reader at the token behind p -/
def RdC (tp : Int → Int) (len p : Int) (M : mMem) : Prop := okBy tp len ∧ (∀ i, 0 ≤ i → i < len → M 3 i = tp i) ∧ M 2 1 = len ∧ (0 ≤ p ∧ p ≤ len) ∧ isTk tp len p ∧ M 4 3 = tF tp len p ∧ M 4 4 = tT tp len p ∧ M 4 5 = tS tp len p ∧ M 4 6 = wvl tp (tF tp len p) (tT tp len p) (tS tp len p)
def RdM (tp : Int → Int) (len p : Int) (M : mMem) : Prop := okBy tp len ∧ (∀ i, 0 ≤ i → i < len → M 209 i = tp i) ∧ (M 200 13 = len ∧ M 200 18 = -1) ∧ (0 ≤ p ∧ p ≤ len) ∧ isTk tp len p ∧ M 200 14 = tF tp len p ∧ M 200 15 = tT tp len p ∧ M 200 16 = tS tp len p ∧ M 200 17 = tW tp len p
section RD
variable {d : Nat} {S : mSh} {M : mMem} {Q : Option mV → mSh → mMem → Prop} {tp : Int → Int} {len p : Int}
theorem RdC.congr {M' : mMem} (h : RdC tp len p M) (he : ∀ a i, (a = 3 ∨ a = 2 ∨ (a = 4 ∧ 3 ≤ i ∧ i ≤ 6)) → M' a i = M a i) : RdC tp len p M' := by
  obtain ⟨h1, h2, h3, h4, h5, h6, h7, h8, h9⟩ := h
  exact ⟨h1, fun i q0 q1 => by rw [he _ _ (by omega)]; exact h2 i q0 q1, by rw [he _ _ (by omega)]; exact h3, h4, h5, by rw [he _ _ (by omega)]; exact h6, by rw [he _ _ (by omega)]; exact h7, by rw [he _ _ (by omega)]; exact h8, by rw [he _ _ (by omega)]; exact h9⟩
theorem RdM.congr {M' : mMem} (h : RdM tp len p M) (he : ∀ a i, (a = 209 ∨ (a = 200 ∧ 13 ≤ i ∧ i ≤ 18)) → M' a i = M a i) : RdM tp len p M' := by
  obtain ⟨h1, h2, h3, h4, h5, h6, h7, h8, h9⟩ := h
  exact ⟨h1, fun i q0 q1 => by rw [he _ _ (by omega)]; exact h2 i q0 q1, ⟨by rw [he _ _ (by omega)]; exact h3.1, by rw [he _ _ (by omega)]; exact h3.2⟩, h4, h5, by rw [he _ _ (by omega)]; exact h6, by rw [he _ _ (by omega)]; exact h7, by rw [he _ _ (by omega)]; exact h8, by rw [he _ _ (by omega)]; exact h9⟩
theorem c_nx (L : Lay S) (h : RdC tp len p M) (k : ∀ M', RdC tp len (tT tp len p) M' → FrN4 M M' → Q none S M') : e_X2_next d S M Q := by
  obtain ⟨h1, h2, h3, h4, h5, h6, h7, h8, h9⟩ := h
  have b := h5.bd
  refine c_next L h1 h2 h3 h7 (by omega) (fun M' f e kk it a3 a4 a5 a6 fr => k M' ?_ fr)
  obtain ⟨i1, i2, i3, i4⟩ := isTk.of it
  refine ⟨h1, fun i q0 q1 => by rw [fr _ _ (by omega)]; exact h2 i q0 q1, by rw [fr _ _ (by decide)]; exact h3, by omega, i1, ?_, ?_, ?_, ?_⟩
  · rw [i2]; exact a3
  · rw [i3]; exact a4
  · rw [i4]; exact a5
  · rw [i2, i3, i4]; exact a6
theorem s_nx (L : Lay S) (h : RdM tp len p M) (k : ∀ M', RdM tp len (tT tp len p) M' → FrT4 M M' → Q none S M') : e_X9_next (d + 1) S M Q := by
  obtain ⟨h1, h2, h3, h4, h5, h6, h7, h8, h9⟩ := h
  have b := h5.bd
  refine s_next L h1 h2 h3.1 h7 (by omega) (fun M' f e kk it a3 a4 a5 a6 fr => k M' ?_ fr)
  obtain ⟨i1, i2, i3, i4⟩ := isTk.of it
  refine ⟨h1, fun i q0 q1 => by rw [fr _ _ (by omega)]; exact h2 i q0 q1, ⟨by rw [fr _ _ (by omega)]; exact h3.1, by rw [fr _ _ (by omega)]; exact h3.2⟩, by omega, i1, ?_, ?_, ?_, ?_⟩
  · rw [i2]; exact a3
  · rw [i3]; exact a4
  · rw [i4]; exact a5
  · unfold tW; rw [i2, i3, i4]; exact a6
theorem c_is (L : Lay S) (h : RdC tp len p M) {x1 : Int} {w : List Int} (hS : isS x1) (hw : strOf x1 = w) (k1 : twd tp (tF tp len p) (tT tp len p) w → Q (some (vI 1)) S M) (k0 : ¬ twd tp (tF tp len p) (tT tp len p) w → Q (some (vI 0)) S M) : e_X2_is d x1 S M Q := by
  obtain ⟨h1, h2, h3, h4, h5, h6, h7, h8, h9⟩ := h
  have b := h5.bd
  have hl := h1.1
  subst hw
  refine b_X2_is_0 L hS (by omega) (fun he => b_X2_is_18 ?_) (fun hne => b_X2_is_16 (k0 (fun q => hne (by rw [h6, h7]; exact q.1))))
  rw [h6, h7] at he
  refine for_up (W := fun i => (∀ j : Nat, (j : Int) < i → tp (tF tp len p + j) = (strOf x1).getD j 0) → WP PR d 33 20 [vA 4, vA x1, vI i] [] S M Q) (lo := 0) (hi := ((strOf x1).length : Int)) (by omega) ?_ ?_ (fun j hj => absurd hj (by omega))
  · intro hall
    exact b_X2_is_20 hS (fun _ => b_X2_is_58 (k1 ⟨he, fun i hi => hall i (by omega)⟩)) (fun q => absurd q (by omega))
  · intro i q0 q1 ih hall
    have e3 : M 3 (tF tp len p + i) = tp (tF tp len p + i) := h2 _ (by omega) (by omega)
    have ei : ((i.toNat : Nat) : Int) = i := by omega
    refine b_X2_is_20 hS (fun q => absurd q (by omega)) (fun _ => b_X2_is_28 L hS (by omega) ?_ ?_)
    · rw [h6, e3]; intro hq
      refine b_X2_is_52 (by omega) (ih (fun j hj => ?_))
      by_cases e : (j : Int) = i
      · have : j = i.toNat := by omega
        rw [this, ei]; exact hq
      · exact hall j (by omega)
    · rw [h6, e3]; intro hq
      refine b_X2_is_50 (k0 (fun q => hq ?_))
      have := q.2 i.toNat (by omega)
      rw [ei] at this; exact this
theorem c_isW (L : Lay S) (h : RdC tp len p M) {x1 c : Int} (hS : isS x1) (hw : wdL (strOf x1)) (hc : codW (strOf x1) = c) (k1 : tS tp len p = 1 ∧ tW tp len p = c → Q (some (vI 1)) S M) (k0 : ¬ (tS tp len p = 1 ∧ tW tp len p = c) → Q (some (vI 0)) S M) : e_X2_is d x1 S M Q := by
  subst hc
  have t := twd_word h.2.2.2.2.1 hw
  exact c_is L h hS rfl (fun q => k1 (t.mp q)) (fun q => k0 (fun q2 => q (t.mpr q2)))
theorem c_isG (L : Lay S) (h : RdC tp len p M) {x1 b : Int} (hS : isS x1) (hw : strOf x1 = [b]) (hb : ck b = 3) (hb2 : b ≠ 32) (k1 : tS tp len p = 3 ∧ tW tp len p = b → Q (some (vI 1)) S M) (k0 : ¬ (tS tp len p = 3 ∧ tW tp len p = b) → Q (some (vI 0)) S M) : e_X2_is d x1 S M Q := by
  have t := twd_sign h.2.2.2.2.1 hb hb2
  exact c_is L h hS hw (fun q => k1 (t.mp q)) (fun q => k0 (fun q2 => q (t.mpr q2)))
theorem s_isWord (L : Lay S) (h : RdM tp len p M) {c : Int} (k1 : tS tp len p = 1 ∧ tW tp len p = c → Q (some (vI 1)) S M) (k0 : ¬ (tS tp len p = 1 ∧ tW tp len p = c) → Q (some (vI 0)) S M) : e_X9_isWord d c S M Q := by
  obtain ⟨h1, h2, h3, h4, h5, h6, h7, h8, h9⟩ := h
  refine b_X9_isWord_0 L ?_ ?_
  · rw [h8]; intro q; exact b_X9_isWord_21 (k0 (fun r => q r.1))
  · rw [h8]; intro q
    refine b_X9_isWord_8 L ?_ ?_
    · rw [h9]; intro q2; exact b_X9_isWord_21 (k0 (fun r => q2 r.2))
    · rw [h9]; intro q2; exact b_X9_isWord_17 (k1 ⟨q, q2⟩)
theorem s_isSign (L : Lay S) (h : RdM tp len p M) {c : Int} (k1 : tS tp len p = 3 ∧ tW tp len p = c → Q (some (vI 1)) S M) (k0 : ¬ (tS tp len p = 3 ∧ tW tp len p = c) → Q (some (vI 0)) S M) : e_X9_isSign d c S M Q := by
  obtain ⟨h1, h2, h3, h4, h5, h6, h7, h8, h9⟩ := h
  refine b_X9_isSign_0 L ?_ ?_
  · rw [h8]; intro q; exact b_X9_isSign_22 (k0 (fun r => q r.1))
  · rw [h8]; intro q
    refine b_X9_isSign_8 L ?_ ?_
    · rw [h9]; intro q2; exact b_X9_isSign_22 (k0 (fun r => q2 r.2))
    · rw [h9]; intro q2; exact b_X9_isSign_18 (k1 ⟨q, q2⟩)
/-- the reference must: where it is so, the next token; else the fault -/
theorem s_must1 (L : Lay S) (h : RdM tp len p M) (hb : M 200 19 = 0) (k : ∀ M', RdM tp len (tT tp len p) M' → FrT4 M M' → Q none S M') : e_X9_must (d + 2) 1 S M Q :=
  b_X9_must_0 L (fun q => absurd hb q) (fun _ => b_X9_must_7 (fun _ => b_X9_must_24 L (fun q => absurd hb q) (fun _ => b_X9_must_31 L (s_nx L h (fun M' h' f' => b_X9_must_35 (k M' h' f'))))) (fun q => absurd q (by decide)))
theorem s_must0 (L : Lay S) (h : RdM tp len p M) (hb : M 200 19 = 0) (k : Q none S (up (up M 200 19 1) 200 18 (tF tp len p))) : e_X9_must d 0 S M Q := by
  have e := h.2.2.2.2.2.1
  refine b_X9_must_0 L (fun q => absurd hb q) (fun _ => b_X9_must_7 (fun q => absurd rfl q) (fun _ => b_X9_must_11 L ?_))
  rw [e]; exact k
theorem s_mustB (L : Lay S) {v : Int} (hb : ¬ M 200 19 = 0) (k : Q none S M) : e_X9_must d v S M Q := b_X9_must_0 L (fun _ => b_X9_must_24 L (fun _ => b_X9_must_35 k) (fun q => absurd q hb)) (fun q => absurd q hb)
end RD
