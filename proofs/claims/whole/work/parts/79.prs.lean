/-! The reading of sums and tests, as a function: a fault's place, or the place behind, the leaves, the meaning. -/
abbrev RS : Type := Int ⊕ (Int × Int × Den)
def bRS (r : RS) (f : Int → Int → Den → RS) : RS := match r with
  | .inl x => .inl x
  | .inr y => f y.1 y.2.1 y.2.2
def lawWN (w : Int) : Int := if w = 99947 then 1 else if w = 664754 then 2 else if w = 632645 then 3 else if w = 218508 then 4 else if w = 431150 then 5 else if w = 824370 then 6 else if w = 441828 then 7 else -1
def ordWN (w : Int) : Int := if w = 824370 then 1 else if w = 146885 then 2 else if w = 404362868 then 3 else if w = 2672439460 then 4 else if w = 218508 then 5 else if w = 605677 then 6 else if w = 431150 then 7 else -1
def wrdN (laws : Bool) (s w : Int) : Int := if s = 1 then (if laws = true then lawWN w else ordWN w) else -1
def sgn (s w a b c x y z : Int) : Int := if s = 3 ∧ w = a then x else if s = 3 ∧ w = b then y else if s = 3 ∧ w = c then z else -1
def mulO (s w : Int) : Int := sgn s w 42 47 37 22 23 24
def addO (s w : Int) : Int := sgn s w 43 45 45 20 21 21
def cmpO (s w : Int) : Int := sgn s w 60 62 61 25 26 27
section PS
variable (tp : Int → Int) (len : Int) (laws : Bool)
noncomputable def leafR (p nl : Int) : RS :=
  if 50 ≤ nl ∨ (¬ (tS tp len p = 2 ∧ tW tp len p ≤ 1000) ∧ wrdN laws (tS tp len p) (tW tp len p) = -1) then .inl (tF tp len p)
  else if tS tp len p = 2 ∧ tW tp len p ≤ 1000 then .inr (tT tp len p, nl + 1, lfD 0 (tW tp len p))
  else if laws = true ∨ wrdN laws (tS tp len p) (tW tp len p) < 5 then .inr (tT tp len p, nl + 1, lfD (wrdN laws (tS tp len p) (tW tp len p)) 0)
  else if tS tp len (tT tp len p) = 2 ∧ tW tp len (tT tp len p) ≤ 7 then .inr (tT tp len (tT tp len p), nl + 1, lfD (wrdN laws (tS tp len p) (tW tp len p)) (tW tp len (tT tp len p)))
  else .inl (tF tp len (tT tp len p))
noncomputable def prsB (R : Nat → Den → Int → Int → Int → RS) (nt : Nat) (A : Den) (p nl dp : Int) : RS := match nt with
  | 0 => if tS tp len p = 3 ∧ tW tp len p = 91 then (if 8 ≤ dp then .inl (tF tp len p) else bRS (R 4 A (tT tp len p) nl (dp + 1)) (fun q m D => if tS tp len q = 3 ∧ tW tp len q = 93 then .inr (tT tp len q, m, D) else .inl (tF tp len q))) else leafR tp len laws p nl
  | 1 => if mulO (tS tp len p) (tW tp len p) = -1 then .inr (p, nl, A) else bRS (R 0 A (tT tp len p) nl dp) (fun q m E => R 1 (bnD (mulO (tS tp len p) (tW tp len p)) A E) q m dp)
  | 2 => bRS (R 0 A p nl dp) (fun q m D => R 1 D q m dp)
  | 3 => if addO (tS tp len p) (tW tp len p) = -1 then .inr (p, nl, A) else bRS (R 2 A (tT tp len p) nl dp) (fun q m E => R 3 (bnD (addO (tS tp len p) (tW tp len p)) A E) q m dp)
  | 4 => bRS (R 2 A p nl dp) (fun q m D => R 3 D q m dp)
  | 5 => bRS (R 4 A p nl dp) (fun q m D => if cmpO (tS tp len q) (tW tp len q) = -1 then .inl (tF tp len q) else bRS (R 4 A (tT tp len q) m dp) (fun r l E => .inr (r, l, bnD (cmpO (tS tp len q) (tW tp len q)) D E)))
  | 6 => if tS tp len p = 1 ∧ tW tp len p = 14836 then bRS (R 6 A (tT tp len p) nl dp) (fun q m D => .inr (q, m, ntD D)) else if tS tp len p = 3 ∧ tW tp len p = 40 then (if 8 ≤ dp then .inl (tF tp len p) else bRS (R 10 A (tT tp len p) nl (dp + 1)) (fun q m D => if tS tp len q = 3 ∧ tW tp len q = 41 then .inr (tT tp len q, m, D) else .inl (tF tp len q))) else R 5 A p nl dp
  | 7 => if tS tp len p = 1 ∧ tW tp len p = 1476 then bRS (R 6 A (tT tp len p) nl dp) (fun q m E => R 7 (aoD 29 A E) q m dp) else .inr (p, nl, A)
  | 8 => bRS (R 6 A p nl dp) (fun q m D => R 7 D q m dp)
  | 9 => if tS tp len p = 1 ∧ tW tp len p = 498 then bRS (R 8 A (tT tp len p) nl dp) (fun q m E => R 9 (aoD 30 A E) q m dp) else .inr (p, nl, A)
  | _ => bRS (R 8 A p nl dp) (fun q m D => R 9 D q m dp)
noncomputable def prs : Nat → Nat → Den → Int → Int → Int → RS
  | 0 => fun _ _ _ _ _ => .inl (-99)
  | n + 1 => prsB tp len laws (prs n)
end PS
theorem prs_s (tp : Int → Int) (len : Int) (laws : Bool) (n nt : Nat) (A : Den) (p nl dp : Int) : prs tp len laws (n + 1) nt A p nl dp = prsB tp len laws (prs tp len laws n) nt A p nl dp := rfl
theorem sgn_c (s w a b c x y z : Int) : (sgn s w a b c x y z = x ∧ s = 3 ∧ w = a) ∨ (sgn s w a b c x y z = y ∧ s = 3 ∧ w = b ∧ ¬ w = a) ∨ (sgn s w a b c x y z = z ∧ s = 3 ∧ w = c ∧ ¬ w = a ∧ ¬ w = b) ∨ (sgn s w a b c x y z = -1 ∧ ¬ (s = 3 ∧ (w = a ∨ w = b ∨ w = c))) := by
  unfold sgn
  by_cases h1 : s = 3 ∧ w = a
  · rw [if_pos h1]; exact Or.inl ⟨rfl, h1.1, h1.2⟩
  · rw [if_neg h1]
    by_cases h2 : s = 3 ∧ w = b
    · rw [if_pos h2]; exact Or.inr (Or.inl ⟨rfl, h2.1, h2.2, fun q => h1 ⟨h2.1, q⟩⟩)
    · rw [if_neg h2]
      by_cases h3 : s = 3 ∧ w = c
      · rw [if_pos h3]; exact Or.inr (Or.inr (Or.inl ⟨rfl, h3.1, h3.2, fun q => h1 ⟨h3.1, q⟩, fun q => h2 ⟨h3.1, q⟩⟩))
      · rw [if_neg h3]; exact Or.inr (Or.inr (Or.inr ⟨rfl, fun q => by rcases q.2 with r | r | r; exact h1 ⟨q.1, r⟩; exact h2 ⟨q.1, r⟩; exact h3 ⟨q.1, r⟩⟩))
theorem lawWN_rng (w : Int) : lawWN w = -1 ∨ (1 ≤ lawWN w ∧ lawWN w ≤ 7) := by unfold lawWN; split <;> (try split) <;> (try split) <;> (try split) <;> (try split) <;> (try split) <;> (try split) <;> omega
theorem ordWN_rng (w : Int) : ordWN w = -1 ∨ (1 ≤ ordWN w ∧ ordWN w ≤ 7) := by unfold ordWN; split <;> (try split) <;> (try split) <;> (try split) <;> (try split) <;> (try split) <;> (try split) <;> omega
theorem wrdN_rng (laws : Bool) (s w : Int) : wrdN laws s w = -1 ∨ (1 ≤ wrdN laws s w ∧ wrdN laws s w ≤ 7) := by
  unfold wrdN
  split
  · split
    · exact lawWN_rng w
    · exact ordWN_rng w
  · exact Or.inl rfl
/-- of digits the worth isn't below 0, and the class's value is it up to 1001 -/
theorem tW_dig {tp : Int → Int} {len p : Int} (h : isTk tp len p) (hs : tS tp len p = 2) : 0 ≤ tW tp len p ∧ (wvl tp (tF tp len p) (tT tp len p) (tS tp len p) = if 1001 < tW tp len p then 1001 else tW tp len p) := by
  obtain ⟨a1, a2, a3, a4⟩ := id h
  rcases a4 with ⟨q1, q2, q3⟩ | ⟨q1, q2, q3, q4⟩
  · omega
  · rcases q4 with ⟨r1, -⟩ | ⟨r1, r2, r3, r4, r5⟩
    · omega
    · have hall : ∀ i, tF tp len p ≤ i → i < tT tp len p → ck (tp i) = 2 := fun i p0 p1 => by rw [r4 i p0 p1]; exact hs
      have e : tW tp len p = dgt tp (tF tp len p) (tT tp len p - tF tp len p).toNat := by unfold tW wth; rw [if_neg (by omega), if_pos hs]
      have e2 : wvl tp (tF tp len p) (tT tp len p) (tS tp len p) = dgc tp (tF tp len p) (tT tp len p - tF tp len p).toNat := by unfold wvl; rw [if_pos hs]
      rw [e, e2]
      exact ⟨(dgt_bd hall _ (by omega)).1, (dgc_dgt hall _ (by omega)).1⟩
/-! The class's side: its state while it reads. -/
def StOK (M : mMem) : Prop := ∀ k, 0 ≤ k → k < 400 → 0 ≤ M 7 k ∧ M 7 k ≤ 20000
def CSt (tp : Int → Int) (len li p nl dp : Int) (M : mMem) : Prop := RdC tp len p M ∧ M 4 2 = li ∧ M 4 7 = nl ∧ M 4 8 = dp ∧ (0 ≤ M 5 3 ∧ M 5 3 ≤ p) ∧ StOK M ∧ (0 ≤ nl ∧ nl ≤ 50) ∧ (0 ≤ dp ∧ dp ≤ 8)
def FrRd (M M' : mMem) : Prop := ∀ a i, ¬ ((a = 4 ∧ 3 ≤ i ∧ i ≤ 9) ∨ (a = 5 ∧ i = 3) ∨ a = 7) → M' a i = M a i
theorem FrRd.rf (M : mMem) : FrRd M M := fun _ _ _ => rfl
theorem FrRd.tr {M M' M'' : mMem} (h : FrRd M M') (h' : FrRd M' M'') : FrRd M M'' := fun a i q => (h' a i q).trans (h a i q)
theorem FrRd.ofN {M M' : mMem} (h : FrN4 M M') : FrRd M M' := fun a i q => h a i (by omega)
def Good (laws : Bool) (tp : Int → Int) (len li c0 n0 p0 : Int) (M : mMem) (q m dp : Int) (D : Den) (M' : mMem) : Prop := CSt tp len li q m dp M' ∧ SegC laws (M' 7) c0 (M' 5 3) (m - n0) D ∧ (∀ k, 0 ≤ k → k < c0 → M' 7 k = M 7 k) ∧ FrRd M M' ∧ M' 5 3 - c0 ≤ q - p0 ∧ p0 < q ∧ n0 < m
def Bad (M : mMem) (f : Int) (M' : mMem) : Prop := (M' 4 9 = f ∧ 0 ≤ f) ∧ FrRd M M' ∧ StOK M' ∧ (0 ≤ M' 5 3 ∧ M' 5 3 ≤ 400)
theorem cs_of {st a : Int} (hs : 0 ≤ st) (ha : 0 ≤ a ∧ a < 1024) : cs1 (st * 1024 + a) = st ∧ cs2 (st * 1024 + a) = a := by
  unfold cs1 cs2
  rw [Int.tdiv_eq_ediv_of_nonneg (by omega), Int.tmod_eq_emod_of_nonneg (by omega)]
  omega
section RC
variable {d : Nat} {S : mSh} {M : mMem} {Q : Option mV → mSh → mMem → Prop} {tp : Int → Int} {len li p nl dp : Int} {laws : Bool}
theorem c_write1 (L : Lay S) {st a sz : Int} (hz : M 5 3 = sz) (hs : 0 ≤ sz ∧ sz < 400) (hb : 0 ≤ st ∧ st ≤ 13 ∧ 0 ≤ a ∧ a < 1024) (k : Q none S (up (up M 7 sz (st * 1024 + a)) 5 3 (sz + 1))) : e_X6_write d 5 st a S M Q := by
  subst hz
  have l7 : sL S (5 + 2) = 400 := ll7 L
  exact b_X6_write_0 (lTxt5 L) (fun q => absurd q (by omega)) (fun _ => b_X6_write_12 (lTxt5 L) (by omega) k)
theorem c_writeB (L : Lay S) {st a : Int} (hs : 0 ≤ M 5 3 ∧ M 5 3 ≤ 400) (ho : StOK M) (hb : 0 ≤ st ∧ st ≤ 13 ∧ 0 ≤ a ∧ a < 1024) (k : ∀ M', FrRd M M' → StOK M' → (0 ≤ M' 5 3 ∧ M' 5 3 ≤ 400) → (∀ i, M' 4 i = M 4 i) → Q none S M') : e_X6_write d 5 st a S M Q := by
  have l7 : sL S (5 + 2) = 400 := ll7 L
  refine b_X6_write_0 (lTxt5 L) (fun q => b_X6_write_38 (k M (FrRd.rf M) ho hs (fun _ => rfl))) (fun _ => b_X6_write_12 (lTxt5 L) (by omega) (k _ (fun x i q => ?_) (fun j q0 q1 => ?_) ?_ (fun i => ?_)))
  · by_cases e : x = 5
    · rw [up_ni (by omega), up_na (by omega)]
    · rw [up_na e, up_na (by omega)]
  · rw [up_na (by decide)]
    by_cases e : j = M 5 3
    · rw [e, show (5 : Int) + 2 = 7 from rfl, up_s]; omega
    · rw [up_ni e]; exact ho j q0 q1
  · rw [up_s]; omega
  · rw [up_na (by decide), up_na (by decide)]
theorem c_aimB (L : Lay S) {at' : Int} (hs : 0 ≤ M 5 3 ∧ M 5 3 ≤ 400) (ho : StOK M) (k : ∀ M', FrRd M M' → StOK M' → (0 ≤ M' 5 3 ∧ M' 5 3 ≤ 400) → (∀ i, M' 4 i = M 4 i) → Q none S M') : e_X6_aimHere d 5 at' S M Q := by
  have l7 : sL S (5 + 2) = 400 := ll7 L
  refine b_X6_aimHere_0 (fun _ => b_X6_aimHere_37 (k M (FrRd.rf M) ho hs (fun _ => rfl))) (fun q0 => b_X6_aimHere_4 (lTxt5 L) (fun _ => b_X6_aimHere_37 (k M (FrRd.rf M) ho hs (fun _ => rfl))) (fun q1 => ?_))
  have hb := ho at' q0 (by omega)
  have e : (M 7 at').tdiv 1024 = M 7 at' / 1024 := Int.tdiv_eq_ediv_of_nonneg hb.1
  refine b_X6_aimHere_12 (lTxt5 L) ?_ (k _ (fun x i q => up_na (by omega)) (fun j p0 p1 => ?_) (by rw [up_na (by decide)]; exact hs) (fun i => up_na (by decide)))
  · show _ ∧ R32 ((M 7 at').tdiv 1024) ∧ R32 ((M 7 at').tdiv 1024 * 1024) ∧ R32 ((M 7 at').tdiv 1024 * 1024 + M 5 3)
    rw [e]; omega
  · show 0 ≤ up M 7 at' ((M 7 at').tdiv 1024 * 1024 + M 5 3) 7 j ∧ up M 7 at' ((M 7 at').tdiv 1024 * 1024 + M 5 3) 7 j ≤ 20000
    by_cases ej : j = at'
    · rw [ej, up_s, e]; omega
    · rw [up_ni ej]; exact ho j p0 p1
theorem c_aim1 (L : Lay S) {at' st : Int} (hs : 0 ≤ at' ∧ at' < M 5 3 ∧ M 5 3 ≤ 400) (hv : M 7 at' = st * 1024 + 0) (hst : 0 ≤ st ∧ st ≤ 13) (k : Q none S (up M 7 at' (st * 1024 + M 5 3))) : e_X6_aimHere d 5 at' S M Q := by
  have l7 : sL S (5 + 2) = 400 := ll7 L
  have e : (M 7 at').tdiv 1024 = st := by rw [hv]; exact (cs_of hst.1 (by omega)).1
  refine b_X6_aimHere_0 (fun q => absurd q (by omega)) (fun q0 => b_X6_aimHere_4 (lTxt5 L) (fun q => absurd q (by omega)) (fun q1 => b_X6_aimHere_12 (lTxt5 L) ?_ ?_))
  · show _ ∧ R32 ((M 7 at').tdiv 1024) ∧ R32 ((M 7 at').tdiv 1024 * 1024) ∧ R32 ((M 7 at').tdiv 1024 * 1024 + M 5 3)
    rw [e]; omega
  · show Q none S (up M 7 at' ((M 7 at').tdiv 1024 * 1024 + M 5 3))
    rw [e]; exact k
theorem c_wrong (L : Lay S) (h : CSt tp len li p nl dp M) (k : ∀ M', Bad M (tF tp len p) M' → Q (some (vI 0)) S M') : e_X2_wrong d S M Q := by
  obtain ⟨h1, h2, h3, h4, h5, h6, h7, h8⟩ := h
  have e := h1.2.2.2.2.2.1
  have hp := h1.2.2.2.1
  have hl := h1.1.1
  refine b_X2_wrong_0 L ?_
  rw [e]
  refine k _ ⟨⟨up_s _ _ _ _, by have := h1.2.2.2.2.1.bd; omega⟩, fun a i q => ?_, fun j q0 q1 => by rw [up_na (by decide)]; exact h6 j q0 q1, by rw [up_na (by decide)]; omega⟩
  by_cases ea : a = 4
  · exact up_ni (by omega)
  · exact up_na ea
/-- the next token, in the state -/
theorem CSt.nx {M' : mMem} (h : CSt tp len li p nl dp M) (h' : RdC tp len (tT tp len p) M') (hf : FrN4 M M') : CSt tp len li (tT tp len p) nl dp M' := by
  obtain ⟨h1, h2, h3, h4, h5, h6, h7, h8⟩ := h
  have b := h1.2.2.2.2.1.bd
  exact ⟨h', by rw [hf _ _ (by omega)]; exact h2, by rw [hf _ _ (by omega)]; exact h3, by rw [hf _ _ (by omega)]; exact h4, by rw [hf _ _ (by omega)]; omega, fun k q0 q1 => by rw [hf _ _ (by omega)]; exact h6 k q0 q1, h7, h8⟩
theorem c_nxS (L : Lay S) (h : CSt tp len li p nl dp M) (k : ∀ M', CSt tp len li (tT tp len p) nl dp M' → FrN4 M M' → Q none S M') : e_X2_next d S M Q := c_nx L h.1 (fun M' h' f' => k M' (h.nx h' f') f')
end RC
