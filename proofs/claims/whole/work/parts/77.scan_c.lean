/-! The class's scanner; words against tokens. -/
/-- a number's worth as the class has it -/
def dgc (tp : Int → Int) (f : Int) : Nat → Int
  | 0 => 0
  | n + 1 => if 1001 < dgc tp f n * 10 + tp (f + n) - 48 then 1001 else dgc tp f n * 10 + tp (f + n) - 48
theorem dgc_dgt {tp : Int → Int} {f e : Int} (h : ∀ i, f ≤ i → i < e → ck (tp i) = 2) : ∀ (n : Nat), f + n ≤ e → (dgc tp f n = if 1001 < dgt tp f n then 1001 else dgt tp f n) ∧ 0 ≤ dgc tp f n ∧ dgc tp f n ≤ 1001 := by
  intro n
  induction n with
  | zero => intro _; exact ⟨rfl, by show (0 : Int) ≤ 0; decide, by show (0 : Int) ≤ 1001; decide⟩
  | succ n ih =>
    intro hn
    obtain ⟨i1, i2, i3⟩ := ih (by omega)
    have hc := ck_c (tp (f + n))
    have h1 := h (f + n) (by omega) (by omega)
    have hb := dgt_bd h n (by omega)
    rw [dgc, dgt]
    refine ⟨?_, ?_, ?_⟩
    · by_cases q : 1000000 < dgt tp f n
      · rw [if_pos q]
        rw [if_pos (by omega)] at i1
        rw [i1, if_pos (by omega), if_pos (by omega)]
      · rw [if_neg q]
        by_cases q2 : 1001 < dgt tp f n
        · rw [if_pos q2] at i1
          rw [i1, if_pos (by omega), if_pos (by omega)]
        · rw [if_neg q2] at i1
          rw [i1]
    · split <;> omega
    · split <;> omega
def wvl (tp : Int → Int) (f e k : Int) : Int := if k = 2 then dgc tp f (e - f).toNat else 0
section CN
variable {d : Nat} {S : mSh} {M : mMem} {Q : Option mV → mSh → mMem → Prop} {tp : Int → Int} {len : Int}
/-- cells that the class's scanner writes -/
def FrN4 (M M' : mMem) : Prop := ∀ a i, ¬ (a = 4 ∧ 3 ≤ i ∧ i ≤ 6) → M' a i = M a i
theorem FrN4.u {M M' : mMem} (h : FrN4 M M') {i v : Int} (hi : 3 ≤ i ∧ i ≤ 6) : FrN4 M (up M' 4 i v) := fun a j q => by
  by_cases e : a = 4
  · rw [up_ni (by omega)]; exact h a j q
  · rw [up_na e]; exact h a j q
set_option maxHeartbeats 1000000 in
theorem c_next (L : Lay S) (ok : okBy tp len) (ht : ∀ i, 0 ≤ i → i < len → M 3 i = tp i) (hl : M 2 1 = len) {p : Int} (hp : M 4 4 = p) (hpb : 0 ≤ p ∧ p ≤ len)
    (k : ∀ M' f e kk, IsTok tp len p f e kk → M' 4 3 = f → M' 4 4 = e → M' 4 5 = kk → M' 4 6 = wvl tp f e kk → FrN4 M M' → Q none S M') : e_X2_next d S M Q := by
  have hlen := ok.1
  refine b_X2_next_0 L ?_
  rw [hp]
  have beh : ∀ (M' : mMem) (f : Int) (u1 u2 u3 : mV), FrN4 M M' → M' 4 3 = f → p ≤ f → f ≤ len → (∀ i, p ≤ i → i < f → tp i = 32) → (f = len ∨ tp f ≠ 32) → WP PR d 34 52 [vA 4, u1, u2, u3] [] S M' Q := by
    intro M' f u1 u2 u3 f1 e3 hf0 hf1 hbl hend
    refine b_X2_next_52 L ?_
    rw [e3]
    -- the loop: from f on, of the sort of the first
    have loop : f < len → ∀ (M2 : mMem) (u1 u2 u3 : mV) (x : Int), FrN4 M M2 → M2 4 3 = f → M2 4 4 = x → f < x → x ≤ len → M2 4 5 = ck (tp f) → M2 4 6 = wvl tp f x (ck (tp f)) → (∀ i, f ≤ i → i < x → ck (tp i) = ck (tp f)) → (ck (tp f) = 3 → x = f + 1) → WP PR d 34 70 [vA 4, u1, u2, u3] [] S M2 Q := by
      intro hlt M2 u1 u2 u3 x
      have hn32 : tp f ≠ 32 := by rcases hend with q | q; omega; exact q
      have hcf := ck_c (tp f)
      have fin : ∀ (M3 : mMem) (y : Int), FrN4 M M3 → M3 4 3 = f → M3 4 4 = y → f < y → y ≤ len → M3 4 5 = ck (tp f) → M3 4 6 = wvl tp f y (ck (tp f)) → (∀ i, f ≤ i → i < y → ck (tp i) = ck (tp f)) → (ck (tp f) = 3 → y = f + 1) → (¬ ck (tp f) = 3 → y = len ∨ ck (tp y) ≠ ck (tp f)) → Q none S M3 := by
        intro M3 y f3 a3 a4 hy0 hy1 a5 a6 hall h3 hn3
        refine k M3 f y (ck (tp f)) ⟨hf0, hf1, hbl, Or.inr ⟨hlt, hn32, rfl, ?_⟩⟩ a3 a4 a5 a6 f3
        by_cases q : ck (tp f) = 3
        · exact Or.inl ⟨q, h3 q⟩
        · exact Or.inr ⟨q, hy0, hy1, hall, hn3 q⟩
      intro f2 a3 a4 hx0 hx1 a5 a6 hall h3
      refine for_up (W := fun x => ∀ (M2 : mMem) (u1 u2 u3 : mV), FrN4 M M2 → M2 4 3 = f → M2 4 4 = x → f < x → M2 4 5 = ck (tp f) → M2 4 6 = wvl tp f x (ck (tp f)) → (∀ i, f ≤ i → i < x → ck (tp i) = ck (tp f)) → (ck (tp f) = 3 → x = f + 1) → WP PR d 34 70 [vA 4, u1, u2, u3] [] S M2 Q) (lo := x) (hi := len) hx1 ?_ ?_ M2 u1 u2 u3 f2 a3 a4 hx0 a5 a6 hall h3
      · intro M2 u1 u2 u3 f2 a3 a4 hx0 a5 a6 hall h3
        have al : M2 2 1 = len := by rw [f2 _ _ (by decide)]; exact hl
        exact b_X2_next_70 L (fun _ => b_X2_next_217 (fin M2 len f2 a3 a4 hx0 (Int.le_refl _) a5 a6 hall h3 (fun _ => Or.inl rfl))) (fun q => absurd q (by omega))
      · intro x q0 q1 ih M2 u1 u2 u3 f2 a3 a4 hx0 a5 a6 hall h3
        have al : M2 2 1 = len := by rw [f2 _ _ (by decide)]; exact hl
        have ax : M2 3 x = tp x := by rw [f2 _ _ (by omega)]; exact ht x (by omega) q1
        have hcx := ck_c (tp x)
        -- behind the sort of this byte
        have go : ∀ (kx : Int) (v2 : Int), kx = ck (tp x) → WP PR d 34 152 [vA 4, vI (tp x), vI v2, vI kx] [] S M2 Q := by
          intro kx v2 ek
          refine b_X2_next_152 L (fun hne => b_X2_next_168 (fin M2 x f2 a3 a4 hx0 (by omega) a5 a6 hall h3 (fun _ => Or.inr (by rw [← ek, ← a5]; exact hne)))) (fun heq => b_X2_next_160 L (fun hn3 => ?_) (fun he3 => b_X2_next_168 (fin M2 x f2 a3 a4 hx0 (by omega) a5 a6 hall h3 (fun q => absurd (by rw [← a5]; exact he3) q))))
          rw [a5] at heq hn3
          have hall' : ∀ i, f ≤ i → i < x + 1 → ck (tp i) = ck (tp f) := fun i p0 p1 => by
            by_cases e : i = x
            · rw [e, ← ek]; exact heq
            · exact hall i p0 (by omega)
          have en : (x + 1 - f).toNat = (x - f).toNat + 1 := by omega
          have ex : f + ((x - f).toNat : Int) = x := by omega
          refine b_X2_next_169 L (fun hn2 => b_X2_next_204 L (by rw [up_ni (by decide), a4]; omega) ?_) (fun he2 => b_X2_next_182 L ?_ ?_)
          · refine ih _ _ _ _ ((f2.u (by decide)).u (by decide)) (by rw [up_ni (by decide), up_ni (by decide)]; exact a3) (by rw [up_s, up_ni (by decide), a4]) (by omega) (by rw [up_ni (by decide), up_s]; exact heq) ?_ hall' (fun q => absurd q hn3)
            rw [up_ni (by decide), up_ni (by decide), a6]
            unfold wvl; rw [if_neg (by omega), if_neg (by omega)]
          · have hd := dgc_dgt (tp := tp) (f := f) (e := x) (fun i p0 p1 => by rw [hall i p0 p1]; omega) (x - f).toNat (by omega)
            have e6 : M2 4 6 = dgc tp f (x - f).toNat := by rw [a6]; unfold wvl; rw [if_pos (by omega)]
            rw [up_ni (by decide), up_ni (by decide), e6, a4]
            omega
          · have hd := dgc_dgt (tp := tp) (f := f) (e := x) (fun i p0 p1 => by rw [hall i p0 p1]; omega) (x - f).toNat (by omega)
            have e6 : M2 4 6 = dgc tp f (x - f).toNat := by rw [a6]; unfold wvl; rw [if_pos (by omega)]
            refine ih _ _ _ _ (((f2.u (by decide)).u (by decide)).u (by decide)) (by rw [up_ni (by decide), up_ni (by decide), up_ni (by decide)]; exact a3) (by rw [up_s, up_ni (by decide), a4]) (by omega) (by rw [up_ni (by decide), up_ni (by decide), up_s]; exact heq) ?_ hall' (fun q => absurd q hn3)
            rw [up_ni (by decide), up_s, up_ni (by decide), e6]
            unfold wvl; rw [if_pos (show ck (tp f) = 2 by omega), en, dgc, ex]
        refine b_X2_next_70 L (fun q => absurd q (by omega)) (fun _ => b_X2_next_84 L (by omega) ?_ ?_)
        · rw [a4, ax]; intro hlo
          refine b_X2_next_113 (fun hl => b_X2_next_139 L (fun q => absurd q (by omega)) (fun _ => go 3 _ (by omega))) (fun hl => b_X2_next_129 (fun hh => b_X2_next_139 L (fun q => absurd q (by omega)) (fun _ => go 3 _ (by omega))) (fun hh => b_X2_next_135 L (fun q => absurd q (by omega)) (fun _ => go 2 _ (by omega))))
        · rw [a4, ax]; intro hlo
          refine b_X2_next_103 (fun hh => b_X2_next_113 (fun hl => absurd hl (by omega)) (fun hl => b_X2_next_129 (fun hh2 => b_X2_next_139 L (fun q => absurd q (by omega)) (fun _ => go 3 _ (by omega))) (fun hh2 => absurd hh2 (by omega)))) (fun hh => b_X2_next_109 L (fun q => absurd q (by omega)) (fun _ => go 1 _ (by omega)))
    generalize hM2 : up (up (up M' 4 4 f) 4 5 0) 4 6 0 = M2
    have f2 : FrN4 M M2 := by rw [← hM2]; exact ((f1.u (by decide)).u (by decide)).u (by decide)
    have a3 : M2 4 3 = f := by rw [← hM2, up_ni (by decide), up_ni (by decide), up_ni (by decide)]; exact e3
    have a4 : M2 4 4 = f := by rw [← hM2, up_ni (by decide), up_ni (by decide), up_s]
    have a5 : M2 4 5 = 0 := by rw [← hM2, up_ni (by decide), up_s]
    have a6 : M2 4 6 = 0 := by rw [← hM2, up_s]
    have al : M2 2 1 = len := by rw [f2 _ _ (by decide)]; exact hl
    by_cases hlt : f < len
    · have ax : M2 3 f = tp f := by rw [f2 _ _ (by omega)]; exact ht f (by omega) hlt
      have hcf := ck_c (tp f)
      have ex : (f + 1 - f).toNat = 1 := by omega
      have go : ∀ (kx v2 : Int), kx = ck (tp f) → WP PR d 34 169 [vA 4, vI (tp f), vI v2, vI kx] [] S M2 Q := by
        intro kx v2 ek
        have hall' : ∀ i, f ≤ i → i < f + 1 → ck (tp i) = ck (tp f) := fun i p0 p1 => by rw [show i = f by omega]
        refine b_X2_next_169 L (fun hn2 => b_X2_next_204 L (by rw [up_ni (by decide), a4]; omega) ?_) (fun he2 => b_X2_next_182 L ?_ ?_)
        · refine loop hlt _ _ _ _ (f + 1) ((f2.u (by decide)).u (by decide)) (by rw [up_ni (by decide), up_ni (by decide)]; exact a3) (by rw [up_s, up_ni (by decide), a4]) (by omega) (by omega) (by rw [up_ni (by decide), up_s]; exact ek) ?_ hall' (fun _ => rfl)
          rw [up_ni (by decide), up_ni (by decide), a6]
          unfold wvl; rw [if_neg (by omega)]
        · rw [up_ni (by decide), up_ni (by decide), a6, a4]; omega
        · refine loop hlt _ _ _ _ (f + 1) (((f2.u (by decide)).u (by decide)).u (by decide)) (by rw [up_ni (by decide), up_ni (by decide), up_ni (by decide)]; exact a3) (by rw [up_s, up_ni (by decide), a4]) (by omega) (by omega) (by rw [up_ni (by decide), up_ni (by decide), up_s]; exact ek) ?_ hall' (fun _ => rfl)
          rw [up_ni (by decide), up_s, up_ni (by decide), a6]
          unfold wvl; rw [if_pos (show ck (tp f) = 2 by omega), ex]
          show _ = dgc tp f (0 + 1)
          rw [dgc]
          show _ = if 1001 < 0 * 10 + tp (f + 0) - 48 then 1001 else 0 * 10 + tp (f + 0) - 48
          rw [Int.add_zero]
      refine b_X2_next_70 L (fun q => absurd q (by omega)) (fun _ => b_X2_next_84 L (by omega) ?_ ?_)
      · rw [a4, ax]; intro hlo
        refine b_X2_next_113 (fun hl => b_X2_next_139 L (fun _ => go 3 _ (by omega)) (fun q => absurd q (by omega))) (fun hl => b_X2_next_129 (fun hh => b_X2_next_139 L (fun _ => go 3 _ (by omega)) (fun q => absurd q (by omega))) (fun hh => b_X2_next_135 L (fun _ => go 2 _ (by omega)) (fun q => absurd q (by omega))))
      · rw [a4, ax]; intro hlo
        refine b_X2_next_103 (fun hh => b_X2_next_113 (fun hl => absurd hl (by omega)) (fun hl => b_X2_next_129 (fun hh2 => b_X2_next_139 L (fun _ => go 3 _ (by omega)) (fun q => absurd q (by omega))) (fun hh2 => absurd hh2 (by omega)))) (fun hh => b_X2_next_109 L (fun _ => go 1 _ (by omega)) (fun q => absurd q (by omega)))
    · exact b_X2_next_70 L (fun _ => b_X2_next_217 (k M2 f f 0 ⟨hf0, hf1, hbl, Or.inl ⟨by omega, rfl, rfl⟩⟩ a3 a4 a5 (by rw [a6]; rfl) f2)) (fun q => absurd q (by omega))
  refine for_up (W := fun x => ∀ (M' : mMem) (u1 u2 u3 : mV), FrN4 M M' → M' 4 3 = x → (∀ i, p ≤ i → i < x → tp i = 32) → WP PR d 34 8 [vA 4, u1, u2, u3] [] S M' Q) (lo := p) (hi := len) hpb.2 ?_ ?_ _ vU vU vU (FrN4.u (fun _ _ _ => rfl) (by decide)) (up_s _ _ _ _) (fun i q0 q1 => absurd q1 (by omega))
  · intro M' u1 u2 u3 f1 e3 hbl
    have el : M' 2 1 = len := by rw [f1 _ _ (by decide)]; exact hl
    exact b_X2_next_8 L (fun _ => beh M' len _ _ _ f1 e3 hpb.2 (Int.le_refl _) hbl (Or.inl rfl)) (fun q => absurd q (by omega))
  · intro x h0 h1 ih M' u1 u2 u3 f1 e3 hbl
    have el : M' 2 1 = len := by rw [f1 _ _ (by decide)]; exact hl
    have a9 : M' 3 x = tp x := by rw [f1 _ _ (by omega)]; exact ht x (by omega) h1
    refine b_X2_next_8 L (fun q => absurd q (by omega)) (fun _ => b_X2_next_22 L (by omega) ?_ ?_)
    · rw [e3, a9]; intro hne
      exact beh M' x _ _ _ f1 e3 h0 (by omega) hbl (Or.inr hne)
    · rw [e3, a9]; intro heq
      refine b_X2_next_39 L (by omega) (ih _ _ _ _ (f1.u (by decide)) (by rw [up_s, e3]) (fun i q0 q1 => ?_))
      by_cases e : i = x
      · rw [e]; exact heq
      · exact hbl i q0 (by omega)
end CN
