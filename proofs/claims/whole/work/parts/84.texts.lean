/-! Texts read: clauses as a function; the class's side. -/
abbrev RC : Type := Int ⊕ (Int × Int × (Int → Option Den))
def FU : Nat := 5000
def D0 : Den := lfD 0 0
def vrb (laws : Bool) (s w : Int) : Int := if s = 1 then (if laws = true then lawV w else ordV w) else -1
def nSm (v : Int) : Nat := if v = 1 then 3 else if v = 0 ∨ v = 2 then 2 else if v = 4 ∨ v = 5 then 1 else 0
def sWd (v : Int) (s : Nat) : Int := if s = 1 ∧ ¬ v = 0 then 215533 else 302
section TR
variable (tp : Int → Int) (len : Int) (laws : Bool)
noncomputable def smA (v : Int) (s : Nat) (p nl : Int) : RS := if s = 0 then prs tp len laws FU 4 D0 p nl 0 else if tS tp len p = 1 ∧ tW tp len p = sWd v s then prs tp len laws FU 4 D0 (tT tp len p) nl 0 else .inl (tF tp len p)
noncomputable def smN (v p nl : Int) : Nat → RC
  | 0 => .inr (p, nl, fun _ => none)
  | s + 1 => match smN v p nl s with
    | .inl f => .inl f
    | .inr (q, m, F) => match smA tp len laws v s q m with
      | .inl f => .inl f
      | .inr (r, l, D) => .inr (r, l, fun i => if i = (s : Int) then some D else F i)
noncomputable def tmR (q : Int) : Int ⊕ (Int × Int) := if laws = false ∧ (tS tp len q = 1 ∧ tW tp len q = 21279923) then (if tS tp len (tT tp len q) = 2 ∧ 1 ≤ tW tp len (tT tp len q) ∧ tW tp len (tT tp len q) ≤ 20 then .inr (tT tp len (tT tp len q), tW tp len (tT tp len q)) else .inl (tF tp len (tT tp len q))) else .inr (q, 1)
noncomputable def ifR (q m : Int) : Int ⊕ (Int × Int × Option Den) := if tS tp len q = 1 ∧ tW tp len q = 294 then (match prs tp len laws FU 10 D0 (tT tp len q) m 0 with
    | .inl f => .inl f
    | .inr (r, l, D) => .inr (r, l, some D)) else .inr (q, m, none)
noncomputable def clR (p nl : Int) : Int ⊕ (Int × Int × Int × Int × (Int → Option Den)) := if vrb laws (tS tp len p) (tW tp len p) = -1 then .inl (tF tp len p) else match smN tp len laws (vrb laws (tS tp len p) (tW tp len p)) (tT tp len p) nl (nSm (vrb laws (tS tp len p) (tW tp len p))) with
  | .inl f => .inl f
  | .inr (q, m, F) => match tmR tp len laws q with
    | .inl f => .inl f
    | .inr (r, t) => match ifR tp len laws r m with
      | .inl f => .inl f
      | .inr (z, l, o) => .inr (z, l, vrb laws (tS tp len p) (tW tp len p), t, fun i => if i = 3 then o else F i)
def apT (T : TX) (k t : Int) (F : Int → Option Den) : TX := (tn T + 1, fun i => if i = tn T then k else tk T i, fun i => if i = tn T then t else tt T i, fun i => if i = tn T then F else ts T i)
def kdV (laws : Bool) (v : Int) : Int := if laws = true then v - 4 else v
noncomputable def txR : Nat → TX → Int → Int → Int ⊕ TX
  | 0, _, p, _ => .inl (tF tp len p)
  | n + 1, T, p, nl => match clR tp len laws p nl with
    | .inl f => .inl f
    | .inr (q, m, v, t, F) => if tS tp len q = 0 then .inr (apT T (kdV laws v) t F) else if tS tp len q = 3 ∧ tW tp len q = 59 then txR n (apT T (kdV laws v) t F) (tT tp len q) m else .inl (tF tp len q)
end TR
theorem vrb_rng (laws : Bool) (s w : Int) : vrb laws s w = -1 ∨ (s = 1 ∧ ((laws = true ∧ 4 ≤ vrb laws s w ∧ vrb laws s w ≤ 6) ∨ (laws = false ∧ 0 ≤ vrb laws s w ∧ vrb laws s w ≤ 3))) := by
  unfold vrb
  by_cases hs : s = 1
  · rw [if_pos hs]
    cases laws
    · rw [if_neg (by decide)]; unfold ordV; split <;> (try split) <;> (try split) <;> (try split) <;> simp [hs]
    · rw [if_pos rfl]; unfold lawV; split <;> (try split) <;> (try split) <;> simp [hs]
  · rw [if_neg hs]; exact Or.inl rfl
/-- cells that the reading of a text writes -/
def FrTx (M M' : mMem) : Prop := ∀ a i, ¬ ((a = 4 ∧ 2 ≤ i ∧ i ≤ 9) ∨ (a = 5 ∧ (i = 2 ∨ i = 3)) ∨ a = 6 ∨ a = 7) → M' a i = M a i
theorem FrTx.ofR {M M' : mMem} (h : FrRd M M') : FrTx M M' := fun a i q => h a i (by omega)
theorem FrTx.ofN {M M' : mMem} (h : FrN4 M M') : FrTx M M' := fun a i q => h a i (by omega)
theorem FrTx.tr {M M' M'' : mMem} (h : FrTx M M') (h' : FrTx M' M'') : FrTx M M'' := fun a i q => (h' a i q).trans (h a i q)
/-- what is written of clause c: verb, times, the sections before s; the rest empty -/
def SecsC (laws : Bool) (M : mMem) (c s : Int) (F : Int → Option Den) : Prop := (∀ j, 0 ≤ j → j < s → SecC laws (M 7) (M 5 3) (M 6 (c * 7 + 2 + j)) (M 6 (c * 7 + 2 + (j + 1))) (F j)) ∧ (∀ j, s ≤ j → j ≤ 4 → M 6 (c * 7 + 2 + j) = M 5 3)
def HdC (laws : Bool) (M : mMem) (n : Int) (T : TX) : Prop := ∀ i, 0 ≤ i → i < n → M 6 (i * 7) = (if laws = true then tk T i + 4 else tk T i) ∧ M 6 (i * 7 + 1) = tt T i ∧ ∀ s, 0 ≤ s → s ≤ 3 → SecC laws (M 7) (M 5 3) (M 6 (i * 7 + 2 + s)) (M 6 (i * 7 + 2 + (s + 1))) (ts T i s)
theorem SecC.gr {laws : Bool} {cd cd' : Int → Int} {sz sz' i j : Int} {o : Option Den} (h : SecC laws cd sz i j o) (hs : sz ≤ sz') (he : ∀ k, 0 ≤ k → k < sz → cd' k = cd k) : SecC laws cd' sz' i j o := by
  cases o with
  | none => exact h
  | some D =>
    obtain ⟨a, b, p, hp, g⟩ := h
    exact ⟨a, by omega, p, hp, g.congr (fun k q0 q1 => he k (by omega) (by omega))⟩
theorem HdC.gr {laws : Bool} {M M' : mMem} {n : Int} {T : TX} (h : HdC laws M n T) (hs : M 5 3 ≤ M' 5 3) (he : ∀ k, 0 ≤ k → k < M 5 3 → M' 7 k = M 7 k) (h6 : ∀ k, 0 ≤ k → k < n * 7 → M' 6 k = M 6 k) : HdC laws M' n T := fun i p0 p1 => by
  obtain ⟨a, b, c⟩ := h i p0 p1
  refine ⟨by rw [h6 _ (by omega) (by omega)]; exact a, by rw [h6 _ (by omega) (by omega)]; exact b, fun s q0 q1 => ?_⟩
  rw [h6 _ (by omega) (by omega), h6 _ (by omega) (by omega)]
  exact (c s q0 q1).gr hs he
section TC
variable {d : Nat} {S : mSh} {M : mMem} {Q : Option mV → mSh → mMem → Prop} {tp : Int → Int} {len li p nl : Int} {laws : Bool}
theorem c_sums (v : Int) (hv : 0 ≤ v ∧ v ≤ 6) (k : Q (some (vI (nSm v : Int))) S M) : e_X2_sumsBehind d v S M Q := by
  refine b_X2_sumsBehind_0 ?_
  obtain h | h | h | h | h | h | h : v = 0 ∨ v = 1 ∨ v = 2 ∨ v = 3 ∨ v = 4 ∨ v = 5 ∨ v = 6 := by omega
  all_goals subst h
  · exact b_X2_sumsBehind_42 k
  · exact b_X2_sumsBehind_40 k
  · exact b_X2_sumsBehind_42 k
  · exact b_X2_sumsBehind_46 k
  · exact b_X2_sumsBehind_44 k
  · exact b_X2_sumsBehind_44 k
  · exact b_X2_sumsBehind_46 k
/-- the end of a section -/
theorem c_endS (L : Lay S) {c s : Int} (hc : M 5 2 = c + 1) (hcb : 0 ≤ c ∧ c < 12) (hs : -1 ≤ s ∧ s ≤ 3)
    (k : ∀ M', (∀ a i, ¬ (a = 6 ∧ c * 7 + 2 + (s + 1) ≤ i ∧ i ≤ c * 7 + 6) → M' a i = M a i) → (∀ j, s + 1 ≤ j → j ≤ 4 → M' 6 (c * 7 + 2 + j) = M 5 3) → Q none S M') : e_X6_endSection d 5 s S M Q := by
  have l6 : sL S (5 + 1) = 84 := ll6 L
  refine b_X6_endSection_0 (lTxt5 L) (by omega) ?_
  rw [show (if (-1 : Int) < s then s else -1) = s by split <;> omega, show M 5 2 * 7 - 7 = c * 7 by omega]
  have key : ∀ M1, (∀ a i, ¬ (a = 6 ∧ c * 7 + 2 + (s + 1) ≤ i ∧ i ≤ c * 7 + 6) → M1 a i = M a i) → (∀ j, s + 1 ≤ j → j < s + 1 → M1 6 (c * 7 + 2 + j) = M 5 3) → WP PR d 63 17 [vA 5, vI s, vI (c * 7), vI s] [] S M1 Q := by
    refine for_up (W := fun x => ∀ M1, (∀ a i, ¬ (a = 6 ∧ c * 7 + 2 + (s + 1) ≤ i ∧ i ≤ c * 7 + 6) → M1 a i = M a i) → (∀ j, s + 1 ≤ j → j < x + 1 → M1 6 (c * 7 + 2 + j) = M 5 3) → WP PR d 63 17 [vA 5, vI s, vI (c * 7), vI x] [] S M1 Q) (lo := s) (hi := 4) (by omega) ?_ ?_
    · intro M1 f1 h1
      exact b_X6_endSection_17 (fun _ => b_X6_endSection_48 (k M1 f1 (fun j q0 q1 => h1 j q0 (by omega)))) (fun q => absurd q (by omega))
    · intro x x0 x1 ih M1 f1 h1
      refine b_X6_endSection_17 (fun q => absurd q (by omega)) (fun _ => b_X6_endSection_22 (fun q => absurd q (by omega)) (fun _ => b_X6_endSection_26 (lTxt5 L) (by omega) (ih _ (fun a i q => ?_) (fun j q0 q1 => ?_))))
      · by_cases ea : a = 6
        · subst ea
          rw [show (5 : Int) + 1 = 6 from rfl, up_ni (by omega)]; exact f1 _ _ q
        · rw [up_na (by omega)]; exact f1 _ _ q
      · have h53 : M1 5 3 = M 5 3 := f1 _ _ (by omega)
        by_cases ej : j = x + 1
        · rw [ej, show c * 7 + 2 + (x + 1) = c * 7 + 2 + x + 1 by omega, show (5 : Int) + 1 = 6 from rfl, up_s]; exact h53
        · rw [show (5 : Int) + 1 = 6 from rfl, up_ni (by omega)]; exact h1 j q0 (by omega)
  exact key M (fun _ _ _ => rfl) (fun j q0 q1 => absurd q1 (by omega))
/-- a clause is opened -/
theorem c_open (L : Lay S) {c v : Int} (hc : M 5 2 = c) (hcb : 0 ≤ c ∧ c < 12)
    (k : ∀ M', (∀ a i, ¬ ((a = 6 ∧ c * 7 ≤ i ∧ i ≤ c * 7 + 6) ∨ (a = 5 ∧ i = 2)) → M' a i = M a i) → M' 5 2 = c + 1 → M' 6 (c * 7) = v → M' 6 (c * 7 + 1) = 1 → (∀ j, 0 ≤ j → j ≤ 4 → M' 6 (c * 7 + 2 + j) = M 5 3) → Q none S M') : e_X6_open (d + 1) 5 v S M Q := by
  have l6 : sL S (5 + 1) = 84 := ll6 L
  refine b_X6_open_0 (lTxt5 L) (by omega) (fun _ => b_X6_open_21 (lTxt5 L) (by omega) ?_) (fun q => absurd q (by omega))
  rw [hc]
  refine c_endS L (c := c) (s := -1) (by rw [up_na (by decide), up_na (by decide), up_s]) hcb (by decide) (fun M1 f1 h1 => b_X6_open_52 (k M1 (fun a i q => ?_) ?_ ?_ ?_ (fun j q0 q1 => ?_)))
  · rw [f1 a i (by omega)]
    by_cases ea : a = 6
    · subst ea
      rw [show (5 : Int) + 1 = 6 from rfl, up_ni (by omega), up_ni (by omega), up_na (by decide)]
    · rw [up_na (by omega), up_na (by omega)]
      by_cases e5 : a = 5
      · subst e5; exact up_ni (by omega)
      · exact up_na e5
  · rw [f1 _ _ (by omega), up_na (by decide), up_na (by decide), up_s]
  · rw [f1 _ _ (by omega), show (5 : Int) + 1 = 6 from rfl, up_ni (by omega), up_s]
  · rw [f1 _ _ (by omega), show (5 : Int) + 1 = 6 from rfl, up_s]
  · rw [h1 j (by omega) q1, up_na (by decide), up_na (by decide), up_ni (by decide)]
/-- how many times -/
theorem c_repeat (L : Lay S) {c t : Int} (hc : M 5 2 = c + 1) (hcb : 0 ≤ c ∧ c < 12) (k : Q none S (up M 6 (c * 7 + 1) t)) : e_X6_repeat d 5 t S M Q := by
  have l6 : sL S (5 + 1) = 84 := ll6 L
  refine b_X6_repeat_0 (lTxt5 L) (by omega) (fun q => absurd q (by omega)) (fun _ => ?_)
  rw [show M 5 2 * 7 - 7 = c * 7 by omega]
  exact b_X6_repeat_15 (lTxt5 L) (by omega) k
end TC
