/-! Tokens: what they are; both scanners find them. -/
def ck (b : Int) : Int := if 97 ≤ b ∧ b ≤ 122 then 1 else if 48 ≤ b ∧ b ≤ 57 then 2 else 3
theorem ck_c (b : Int) : (ck b = 1 ∧ 97 ≤ b ∧ b ≤ 122) ∨ (ck b = 2 ∧ 48 ≤ b ∧ b ≤ 57) ∨ (ck b = 3 ∧ ¬ (97 ≤ b ∧ b ≤ 122) ∧ ¬ (48 ≤ b ∧ b ≤ 57)) := by unfold ck; split <;> (try split) <;> omega
/-- the token behind p: from f to e, of the sort k -/
def IsTok (tp : Int → Int) (len p f e k : Int) : Prop := p ≤ f ∧ f ≤ len ∧ (∀ i, p ≤ i → i < f → tp i = 32) ∧ ((f = len ∧ e = f ∧ k = 0) ∨ (f < len ∧ tp f ≠ 32 ∧ k = ck (tp f) ∧ ((k = 3 ∧ e = f + 1) ∨ (k ≠ 3 ∧ f < e ∧ e ≤ len ∧ (∀ i, f ≤ i → i < e → ck (tp i) = k) ∧ (e = len ∨ ck (tp e) ≠ k)))))
theorem tok_uniq {tp : Int → Int} {len p f e k f' e' k' : Int} (h : IsTok tp len p f e k) (h' : IsTok tp len p f' e' k') : f = f' ∧ e = e' ∧ k = k' := by
  obtain ⟨a1, a2, a3, a4⟩ := h
  obtain ⟨b1, b2, b3, b4⟩ := h'
  have hf : f = f' := by
    by_cases h1 : f < f'
    · have := b3 f a1 h1
      rcases a4 with ⟨q, -⟩ | ⟨-, q, -⟩
      · omega
      · exact absurd this q
    · by_cases h2 : f' < f
      · have := a3 f' b1 h2
        rcases b4 with ⟨q, -⟩ | ⟨-, q, -⟩
        · omega
        · exact absurd this q
      · omega
  subst hf
  rcases a4 with ⟨a5, a6, a7⟩ | ⟨a5, a6, a7, a8⟩
  · rcases b4 with ⟨b5, b6, b7⟩ | ⟨b5, -⟩
    · exact ⟨rfl, by omega, by omega⟩
    · omega
  · rcases b4 with ⟨b5, b6, b7⟩ | ⟨b5, b6, b7, b8⟩
    · omega
    · have hk : k = k' := by rw [a7, b7]
      subst hk
      refine ⟨rfl, ?_, rfl⟩
      rcases a8 with ⟨q1, q2⟩ | ⟨q1, q2, q3, q4, q5⟩
      · rcases b8 with ⟨r1, r2⟩ | ⟨r1, -⟩
        · omega
        · exact absurd q1 r1
      · rcases b8 with ⟨r1, -⟩ | ⟨r1, r2, r3, r4, r5⟩
        · exact absurd r1 q1
        · by_cases h1 : e < e'
          · have := r4 e (by omega) h1
            rcases q5 with q | q
            · omega
            · exact absurd this q
          · by_cases h2 : e' < e
            · have := q4 e' (by omega) h2
              rcases r5 with q | q
              · omega
              · exact absurd this q
            · omega
noncomputable def tokE (tp : Int → Int) (len p : Int) : Int × Int × Int := Classical.epsilon (fun t : Int × Int × Int => IsTok tp len p t.1 t.2.1 t.2.2)
theorem tok_eq {tp : Int → Int} {len p f e k : Int} (h : IsTok tp len p f e k) : tokE tp len p = (f, e, k) := by
  have h2 : IsTok tp len p (tokE tp len p).1 (tokE tp len p).2.1 (tokE tp len p).2.2 := Classical.epsilon_spec (p := fun t : Int × Int × Int => IsTok tp len p t.1 t.2.1 t.2.2) ⟨(f, e, k), h⟩
  obtain ⟨a, b, c⟩ := tok_uniq h2 h
  calc tokE tp len p = ((tokE tp len p).1, (tokE tp len p).2.1, (tokE tp len p).2.2) := rfl
    _ = (f, e, k) := by rw [a, b, c]
/-- a word's number, a number's worth -/
def wcd (tp : Int → Int) (f : Int) : Nat → Int
  | 0 => 0
  | n + 1 => if n < 10 then wcd tp f n * 32 + tp (f + n) - 96 else -1
def dgt (tp : Int → Int) (f : Int) : Nat → Int
  | 0 => 0
  | n + 1 => if 1000000 < dgt tp f n then dgt tp f n else dgt tp f n * 10 + tp (f + n) - 48
def wth (tp : Int → Int) (f e k : Int) : Int := if k = 1 then wcd tp f (e - f).toNat else if k = 2 then dgt tp f (e - f).toNat else if k = 3 then tp f else 0
def okBy (tp : Int → Int) (len : Int) : Prop := (0 ≤ len ∧ len ≤ 400) ∧ ∀ i, 0 ≤ i → i < len → 0 ≤ tp i ∧ tp i ≤ 255
theorem wcd_bd {tp : Int → Int} {f e : Int} (h : ∀ i, f ≤ i → i < e → ck (tp i) = 1) : ∀ (n : Nat), f + n ≤ e → (n ≤ 10 → 0 ≤ wcd tp f n ∧ wcd tp f n < 32 ^ n) ∧ (10 < n → wcd tp f n = -1) := by
  intro n
  induction n with
  | zero => intro _; exact ⟨fun _ => by show (0 : Int) ≤ 0 ∧ (0 : Int) < 32 ^ 0; decide, fun h => absurd h (by decide)⟩
  | succ n ih =>
    intro hn
    obtain ⟨i1, i2⟩ := ih (by omega)
    refine ⟨fun h10 => ?_, fun h10 => ?_⟩
    · have := i1 (by omega)
      have hc := ck_c (tp (f + n))
      have h1 := h (f + n) (by omega) (by omega)
      rw [wcd, if_pos (by omega), Int.pow_succ]
      omega
    · rw [wcd, if_neg (by omega)]
theorem dgt_bd {tp : Int → Int} {f e : Int} (h : ∀ i, f ≤ i → i < e → ck (tp i) = 2) : ∀ (n : Nat), f + n ≤ e → 0 ≤ dgt tp f n ∧ dgt tp f n ≤ 10000009 := by
  intro n
  induction n with
  | zero => intro _; show (0 : Int) ≤ 0 ∧ (0 : Int) ≤ 10000009; decide
  | succ n ih =>
    intro hn
    have i1 := ih (by omega)
    have hc := ck_c (tp (f + n))
    have h1 := h (f + n) (by omega) (by omega)
    rw [dgt]
    split <;> omega
theorem wcd_rng {tp : Int → Int} {f e : Int} (h : ∀ i, f ≤ i → i < e → ck (tp i) = 1) {n : Nat} (hn : f + n ≤ e) : -1 ≤ wcd tp f n ∧ wcd tp f n ≤ 1125899906842624 := by
  obtain ⟨a, b⟩ := wcd_bd h n hn
  by_cases h10 : n ≤ 10
  · have h1 := a h10
    have h2 : (32 : Int) ^ n ≤ 32 ^ 10 := by
      have : (32 : Nat) ^ n ≤ 32 ^ 10 := Nat.pow_le_pow_right (by decide) h10
      exact_mod_cast this
    have h3 : (32 : Int) ^ 10 = 1125899906842624 := by decide
    omega
  · rw [b (by omega)]; omega
section MC
variable {d : Nat} {S : mSh} {M : mMem} {Q : Option mV → mSh → mMem → Prop} {tp : Int → Int} {len : Int}
theorem s_isSmall {b : Int} (k1 : ck b = 1 → Q (some (vI 1)) S M) (k0 : ¬ ck b = 1 → Q (some (vI 0)) S M) : e_X9_isSmall d b S M Q := by
  have h := ck_c b
  exact b_X9_isSmall_0 (fun q => b_X9_isSmall_16 (k0 (by omega))) (fun q => b_X9_isSmall_6 (fun q2 => b_X9_isSmall_16 (k0 (by omega))) (fun q2 => b_X9_isSmall_12 (k1 (by omega))))
theorem s_isDigit {b : Int} (k1 : ck b = 2 → Q (some (vI 1)) S M) (k0 : ¬ ck b = 2 → Q (some (vI 0)) S M) : e_X9_isDigit d b S M Q := by
  have h := ck_c b
  exact b_X9_isDigit_0 (fun q => b_X9_isDigit_16 (k0 (by omega))) (fun q => b_X9_isDigit_6 (fun q2 => b_X9_isDigit_16 (k0 (by omega))) (fun q2 => b_X9_isDigit_12 (k1 (by omega))))
/-- cells that the reference's scanner writes -/
def FrT4 (M M' : mMem) : Prop := ∀ a i, ¬ (a = 200 ∧ 14 ≤ i ∧ i ≤ 17) → M' a i = M a i
theorem FrT4.u {M M' : mMem} (h : FrT4 M M') {i v : Int} (hi : 14 ≤ i ∧ i ≤ 17) : FrT4 M (up M' 200 i v) := fun a j q => by
  by_cases e : a = 200
  · rw [up_ni (by omega)]; exact h a j q
  · rw [up_na e]; exact h a j q
set_option maxHeartbeats 1000000 in
theorem s_next (L : Lay S) (ok : okBy tp len) (ht : ∀ i, 0 ≤ i → i < len → M 209 i = tp i) (hl : M 200 13 = len) {p : Int} (hp : M 200 15 = p) (hpb : 0 ≤ p ∧ p ≤ len)
    (k : ∀ M' f e kk, IsTok tp len p f e kk → M' 200 14 = f → M' 200 15 = e → M' 200 16 = kk → M' 200 17 = wth tp f e kk → FrT4 M M' → Q none S M') : e_X9_next (d + 1) S M Q := by
  have hlen := ok.1
  refine b_X9_next_0 L ?_
  rw [hp]
  -- behind the blanks
  have beh : ∀ (M' : mMem) (f : Int), FrT4 M M' → M' 200 14 = f → p ≤ f → f ≤ len → (∀ i, p ≤ i → i < f → tp i = 32) → (f = len ∨ tp f ≠ 32) → WP PR (d + 1) 165 46 [vA 200] [] S M' Q := by
    intro M' f f1 e14 hf0 hf1 hbl hend
    have el : M' 200 13 = len := by rw [f1 _ _ (by decide)]; exact hl
    generalize hM2 : up (up M' 200 15 (M' 200 14)) 200 17 0 = M2
    have f2 : FrT4 M M2 := by rw [← hM2]; exact (f1.u (by decide)).u (by decide)
    have e2 : M2 200 14 = f := by rw [← hM2, up_ni (by decide), up_ni (by decide)]; exact e14
    have e15 : M2 200 15 = f := by rw [← hM2, up_ni (by decide), up_s]; exact e14
    have e17 : M2 200 17 = 0 := by rw [← hM2, up_s]
    have el2 : M2 200 13 = len := by rw [f2 _ _ (by decide)]; exact hl
    have t2 : ∀ i, 0 ≤ i → i < len → M2 209 i = tp i := fun i q0 q1 => by rw [f2 _ _ (by omega)]; exact ht i q0 q1
    -- the end, once sort and places are there
    have done3 : ∀ (M3 : mMem) (e kk : Int), FrT4 M M3 → M3 200 14 = f → M3 200 15 = e → M3 200 16 = kk → M3 200 17 = wth tp f e kk → IsTok tp len p f e kk → Q none S M3 := fun M3 e kk f3 a14 a15 a16 a17 it => k M3 f e kk it a14 a15 a16 a17 f3
    refine b_X9_next_46 L ?_ ?_
    · rw [hM2, e14, el]
      intro hne
      have hlt : f < len := by omega
      have hc := ck_c (tp f)
      have hb := ok.2 f (by omega) hlt
      have htf : M2 209 (M2 200 14) = tp f := by rw [e2]; exact t2 f (by omega) hlt
      have hn32 : tp f ≠ 32 := by rcases hend with q | q; omega; exact q
      refine b_X9_next_75 L (by rw [e2]; omega) ?_
      rw [htf]
      refine s_isSmall (fun h1 => b_X9_next_87 (fun q => absurd q (by decide)) (fun _ => b_X9_next_90 L ?_)) (fun h1 => b_X9_next_87 (fun _ => b_X9_next_94 L (by rw [e2]; omega) ?_) (fun q => absurd rfl q))
      · -- a word
        refine for_up (W := fun x => ∀ M3 : mMem, FrT4 M M3 → M3 200 14 = f → M3 200 15 = x → M3 200 16 = 1 → M3 200 17 = wcd tp f (x - f).toNat → (∀ i, f ≤ i → i < x → ck (tp i) = 1) → WP PR (d + 1) 165 149 [vA 200] [] S M3 Q) (lo := f) (hi := len) hf1 ?_ ?_ _ (f2.u (by decide)) (by rw [up_ni (by decide)]; exact e2) (by rw [up_ni (by decide)]; exact e15) (up_s _ _ _ _) (by rw [up_ni (by decide), e17, Int.sub_self]; rfl) (fun i q0 q1 => absurd q1 (by omega))
        · intro M3 f3 a14 a15 a16 a17 hall
          have a13 : M3 200 13 = len := by rw [f3 _ _ (by decide)]; exact hl
          refine b_X9_next_149 L (fun q => absurd a16 q) (fun _ => b_X9_next_157 L (fun _ => b_X9_next_243 L (fun _ => b_X9_next_335 (done3 M3 len 1 f3 a14 a15 a16 (by rw [a17]; rfl) ?_)) (fun q => absurd q (by omega))) (fun q => absurd q (by omega)))
          exact ⟨hf0, hf1, hbl, Or.inr ⟨hlt, hn32, h1.symm, Or.inr ⟨by decide, hlt, Int.le_refl _, hall, Or.inl rfl⟩⟩⟩
        · intro x h0 h1' ih M3 f3 a14 a15 a16 a17 hall
          have a13 : M3 200 13 = len := by rw [f3 _ _ (by decide)]; exact hl
          have a9 : M3 209 x = tp x := by rw [f3 _ _ (by omega)]; exact ht x (by omega) h1'
          refine b_X9_next_149 L (fun q => absurd a16 q) (fun _ => b_X9_next_157 L (fun q => absurd q (by omega)) (fun _ => b_X9_next_168 L (by omega) ?_))
          rw [a15, a9]
          refine s_isSmall (fun hs => b_X9_next_180 (fun q => absurd q (by decide)) (fun _ => ?_)) (fun hs => b_X9_next_180 (fun _ => b_X9_next_243 L (fun _ => b_X9_next_335 (done3 M3 x 1 f3 a14 a15 a16 (by rw [a17]; rfl) ?_)) (fun q => absurd q (by omega))) (fun q => absurd rfl q))
          · have hall' : ∀ i, f ≤ i → i < x + 1 → ck (tp i) = 1 := fun i q0 q1 => by
              by_cases e : i = x
              · rw [e]; exact hs
              · exact hall i q0 (by omega)
            have en : (x + 1 - f).toNat = (x - f).toNat + 1 := by omega
            have ex : f + ((x - f).toNat : Int) = x := by omega
            have hcx := ck_c (tp x)
            have wb := wcd_rng (tp := tp) (f := f) (e := x) hall (n := (x - f).toNat) (by omega)
            rw [en, wcd, ex] at ih
            refine b_X9_next_183 L (by omega) (fun hge => b_X9_next_224 L (by omega) ?_) (fun hlt10 => b_X9_next_198 L ?_ ?_)
            · rw [if_neg (by omega)] at ih
              refine ih _ ((f3.u (by decide)).u (by decide)) (by rw [up_ni (by decide), up_ni (by decide)]; exact a14) (by rw [up_s, a15]) (by rw [up_ni (by decide), up_ni (by decide)]; exact a16) (by rw [up_ni (by decide), up_s]) hall'
            · rw [a15, a9, a17]; omega
            · rw [if_pos (by omega)] at ih
              refine ih _ ((f3.u (by decide)).u (by decide)) (by rw [up_ni (by decide), up_ni (by decide)]; exact a14) (by rw [up_s, a15]) (by rw [up_ni (by decide), up_ni (by decide)]; exact a16) (by rw [up_ni (by decide), up_s, a15, a9, a17]) hall'
          · by_cases hfx : x = f
            · rw [hfx] at hs; exact absurd h1 hs
            · exact ⟨hf0, hf1, hbl, Or.inr ⟨hlt, hn32, h1.symm, Or.inr ⟨by decide, by omega, by omega, hall, Or.inr hs⟩⟩⟩
      · rw [htf]
        refine s_isDigit (fun h2 => b_X9_next_106 (fun q => absurd q (by decide)) (fun _ => b_X9_next_109 L ?_)) (fun h2 => b_X9_next_106 (fun _ => b_X9_next_113 L (by omega) ?_) (fun q => absurd rfl q))
        · -- digits
          refine b_X9_next_149 L (fun _ => ?_) (fun q => absurd q (by rw [up_s]; decide))
          refine for_up (W := fun x => ∀ M3 : mMem, FrT4 M M3 → M3 200 14 = f → M3 200 15 = x → M3 200 16 = 2 → M3 200 17 = dgt tp f (x - f).toNat → (∀ i, f ≤ i → i < x → ck (tp i) = 2) → WP PR (d + 1) 165 243 [vA 200] [] S M3 Q) (lo := f) (hi := len) hf1 ?_ ?_ _ (f2.u (by decide)) (by rw [up_ni (by decide)]; exact e2) (by rw [up_ni (by decide)]; exact e15) (up_s _ _ _ _) (by rw [up_ni (by decide), e17, Int.sub_self]; rfl) (fun i q0 q1 => absurd q1 (by omega))
          · intro M3 f3 a14 a15 a16 a17 hall
            have a13 : M3 200 13 = len := by rw [f3 _ _ (by decide)]; exact hl
            refine b_X9_next_243 L (fun q => absurd a16 q) (fun _ => b_X9_next_251 L (fun _ => b_X9_next_335 (done3 M3 len 2 f3 a14 a15 a16 (by rw [a17]; rfl) ?_)) (fun q => absurd q (by omega)))
            exact ⟨hf0, hf1, hbl, Or.inr ⟨hlt, hn32, h2.symm, Or.inr ⟨by decide, hlt, Int.le_refl _, hall, Or.inl rfl⟩⟩⟩
          · intro x h0 h1' ih M3 f3 a14 a15 a16 a17 hall
            have a13 : M3 200 13 = len := by rw [f3 _ _ (by decide)]; exact hl
            have a9 : M3 209 x = tp x := by rw [f3 _ _ (by omega)]; exact ht x (by omega) h1'
            refine b_X9_next_243 L (fun q => absurd a16 q) (fun _ => b_X9_next_251 L (fun q => absurd q (by omega)) (fun _ => b_X9_next_262 L (by omega) ?_))
            rw [a15, a9]
            refine s_isDigit (fun hs => b_X9_next_274 (fun q => absurd q (by decide)) (fun _ => ?_)) (fun hs => b_X9_next_274 (fun _ => b_X9_next_335 (done3 M3 x 2 f3 a14 a15 a16 (by rw [a17]; rfl) ?_)) (fun q => absurd rfl q))
            · have hall' : ∀ i, f ≤ i → i < x + 1 → ck (tp i) = 2 := fun i q0 q1 => by
                by_cases e : i = x
                · rw [e]; exact hs
                · exact hall i q0 (by omega)
              have en : (x + 1 - f).toNat = (x - f).toNat + 1 := by omega
              have ex : f + ((x - f).toNat : Int) = x := by omega
              have hcx := ck_c (tp x)
              have wb := dgt_bd (tp := tp) (f := f) (e := x) hall (x - f).toNat (by omega)
              rw [en, dgt, ex] at ih
              refine b_X9_next_277 L (fun hle => b_X9_next_296 L ?_ ?_) (fun hgt => b_X9_next_289 L (by omega) ?_)
              · rw [a15, a9, a17]; omega
              · rw [if_neg (by omega)] at ih
                refine ih _ ((f3.u (by decide)).u (by decide)) (by rw [up_ni (by decide), up_ni (by decide)]; exact a14) (by rw [up_s, a15]) (by rw [up_ni (by decide), up_ni (by decide)]; exact a16) (by rw [up_ni (by decide), up_s, a15, a9, a17]) hall'
              · rw [if_pos (by omega)] at ih
                refine ih _ ((f3.u (by decide)).u (by decide)) (by rw [up_ni (by decide), up_ni (by decide)]; exact a14) (by rw [up_s, a15]) (by rw [up_ni (by decide), up_ni (by decide)]; exact a16) (by rw [up_ni (by decide), up_s, a17]) hall'
            · by_cases hfx : x = f
              · rw [hfx] at hs; exact absurd h2 hs
              · exact ⟨hf0, hf1, hbl, Or.inr ⟨hlt, hn32, h2.symm, Or.inr ⟨by decide, by omega, by omega, hall, Or.inr hs⟩⟩⟩
        · -- a sign
          have h3 : ck (tp f) = 3 := by omega
          rw [htf]
          have s16 : up (up (up M2 200 16 3) 200 17 (tp f)) 200 15 (M2 200 15 + 1) 200 16 = 3 := by rw [up_ni (by decide), up_ni (by decide), up_s]
          refine b_X9_next_149 L (fun _ => b_X9_next_243 L (fun _ => b_X9_next_335 (done3 _ (f + 1) 3 (((f2.u (by decide)).u (by decide)).u (by decide)) (by rw [up_ni (by decide), up_ni (by decide), up_ni (by decide)]; exact e2) (by rw [up_s, e15]) s16 (by rw [up_ni (by decide), up_s]; rfl) ?_)) (fun q => absurd q (by rw [s16]; decide))) (fun q => absurd q (by rw [s16]; decide))
          exact ⟨hf0, hf1, hbl, Or.inr ⟨hlt, hn32, h3.symm, Or.inl ⟨rfl, rfl⟩⟩⟩
    · rw [hM2, e14, el]
      intro heq
      refine b_X9_next_71 L ?_
      have s16 : up M2 200 16 0 200 16 = 0 := up_s _ _ _ _
      refine b_X9_next_149 L (fun _ => b_X9_next_243 L (fun _ => b_X9_next_335 (done3 _ f 0 (f2.u (by decide)) (by rw [up_ni (by decide)]; exact e2) (by rw [up_ni (by decide)]; exact e15) s16 (by rw [up_ni (by decide), e17]; rfl) ⟨hf0, hf1, hbl, Or.inl ⟨heq, rfl, rfl⟩⟩)) (fun q => absurd q (by rw [s16]; decide))) (fun q => absurd q (by rw [s16]; decide))
  refine for_up (W := fun x => ∀ M' : mMem, FrT4 M M' → M' 200 14 = x → (∀ i, p ≤ i → i < x → tp i = 32) → WP PR (d + 1) 165 8 [vA 200] [] S M' Q) (lo := p) (hi := len) hpb.2 ?_ ?_ _ (FrT4.u (fun _ _ _ => rfl) (by decide)) (up_s _ _ _ _) (fun i q0 q1 => absurd q1 (by omega))
  · intro M' f1 e14 hbl
    have el : M' 200 13 = len := by rw [f1 _ _ (by decide)]; exact hl
    exact b_X9_next_8 L (fun _ => beh M' len f1 e14 hpb.2 (Int.le_refl _) hbl (Or.inl rfl)) (fun q => absurd q (by omega))
  · intro x h0 h1 ih M' f1 e14 hbl
    have el : M' 200 13 = len := by rw [f1 _ _ (by decide)]; exact hl
    have a9 : M' 209 x = tp x := by rw [f1 _ _ (by omega)]; exact ht x (by omega) h1
    refine b_X9_next_8 L (fun q => absurd q (by omega)) (fun _ => b_X9_next_19 L (by omega) ?_ ?_)
    · rw [e14, a9]; intro hne
      exact beh M' x f1 e14 h0 (by omega) hbl (Or.inr hne)
    · rw [e14, a9]; intro heq
      refine b_X9_next_33 L (by omega) (ih _ (f1.u (by decide)) (by rw [up_s, e14]) (fun i q0 q1 => ?_))
      by_cases e : i = x
      · rw [e]; exact heq
      · exact hbl i q0 (by omega)
end MC
