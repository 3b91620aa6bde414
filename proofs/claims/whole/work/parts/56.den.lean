/-! What a text means: sums and tests as functions of the words' values; code that says so, of the reference and of the class (a derivation, by what every closed set of quadruples holds). -/
abbrev Env : Type := Int → Int → Int
abbrev Den : Type := Env → Option Int
def rkv (op a b : Int) : Int := if op = 20 then a + b else if op = 21 then a - b else if op = 22 then a * b else if op = 23 then a.tdiv b else if op = 24 then a.tmod b else if op = 25 then (if a < b then 1 else 0) else if op = 26 then (if b < a then 1 else 0) else if a = b then 1 else 0
def rk (op a b : Int) : Option Int := if (op = 23 ∨ op = 24) ∧ b = 0 then none else if -1000000000 ≤ rkv op a b ∧ rkv op a b ≤ 1000000000 then some (rkv op a b) else none
def lfD (op a : Int) : Den := fun w => some (if op = 0 then a else w op a)
def bnD (op : Int) (D E : Den) : Den := fun w => match D w with
  | some a => match E w with
    | some b => rk op a b
    | none => none
  | none => none
def ntD (D : Den) : Den := fun w => match D w with
  | some a => some (1 - a)
  | none => none
def aoD (op : Int) (D E : Den) : Den := fun w => match D w with
  | some a => if a = (if op = 29 then 0 else 1) then some a else E w
  | none => none
def isB (D : Den) : Prop := ∀ w v, D w = some v → v = 0 ∨ v = 1
def bdW (w : Env) : Prop := ∀ op a, 1 ≤ op → op ≤ 7 → 0 ≤ a → a ≤ 7 → -1000000000 ≤ w op a ∧ w op a ≤ 1000000000
def bdO (x : Option Int) : Prop := ∀ v, x = some v → -1000000000 ≤ v ∧ v ≤ 1000000000
theorem rk_bd (op a b : Int) : bdO (rk op a b) := by
  intro v h; unfold rk at h
  split at h
  · cases h
  · split at h
    · rename_i h2; cases h; exact h2
    · cases h
theorem bn_bd (op : Int) (D E : Den) (w : Env) : bdO (bnD op D E w) := by
  intro v h; unfold bnD at h
  cases hD : D w with
  | none => rw [hD] at h; cases h
  | some a =>
    rw [hD] at h
    cases hE : E w with
    | none => rw [hE] at h; cases h
    | some b => rw [hE] at h; exact rk_bd op a b v h
theorem bn_isB {op : Int} (h : 25 ≤ op) (D E : Den) : isB (bnD op D E) := by
  intro w v h2; unfold bnD at h2
  cases hD : D w with
  | none => rw [hD] at h2; cases h2
  | some a =>
    rw [hD] at h2
    cases hE : E w with
    | none => rw [hE] at h2; cases h2
    | some b =>
      rw [hE] at h2
      simp only [rk] at h2
      rw [if_neg (by omega)] at h2
      split at h2
      · cases h2
        unfold rkv
        rw [if_neg (by omega), if_neg (by omega), if_neg (by omega), if_neg (by omega), if_neg (by omega)]
        split <;> split <;> (try split) <;> simp
      · cases h2
theorem nt_isB {D : Den} (h : isB D) : isB (ntD D) := by
  intro w v h2; unfold ntD at h2
  cases hD : D w with
  | none => rw [hD] at h2; cases h2
  | some a => rw [hD] at h2; cases h2; have := h w a hD; omega
theorem ao_isB {op : Int} {D E : Den} (h : isB D) (h' : isB E) : isB (aoD op D E) := by
  intro w v h2; unfold aoD at h2
  cases hD : D w with
  | none => rw [hD] at h2; cases h2
  | some a =>
    rw [hD] at h2
    dsimp only at h2
    by_cases hv : a = (if op = 29 then 0 else 1)
    · rw [if_pos hv] at h2; cases h2; exact h w _ hD
    · rw [if_neg hv] at h2; exact h' w v h2
theorem nt_nt {D : Den} : ntD (ntD D) = D := by
  funext w; unfold ntD
  cases D w with
  | none => rfl
  | some a => show some (1 - (1 - a)) = some a; congr 1; omega
def okL (op a : Int) : Prop := 0 ≤ op ∧ op ≤ 7 ∧ (op = 0 → 0 ≤ a ∧ a ≤ 1000) ∧ (1 ≤ op → 0 ≤ a ∧ a ≤ 7)
theorem lf_bd {op a : Int} (h : okL op a) {w : Env} (hw : bdW w) : bdO (lfD op a w) := by
  intro v hv; unfold lfD at hv; cases hv
  obtain ⟨h0, h1, h2, h3⟩ := h
  by_cases e : op = 0
  · rw [if_pos e]; have := h2 e; omega
  · rw [if_neg e]; exact hw op a (by omega) h1 (h3 (by omega)).1 (h3 (by omega)).2
/-- the reference's code: places, how many leaves, what it means -/
def RulM (cd : Int → Int × Int) (P : Int → Int → Int → Den → Prop) : Prop :=
  (∀ i, okL (cd i).1 (cd i).2 → P i (i + 1) 1 (lfD (cd i).1 (cd i).2)) ∧
  (∀ i m j p q D E, P i m p D → P m j q E → 20 ≤ (cd j).1 → (cd j).1 < 28 → P i (j + 1) (p + q) (bnD (cd j).1 D E)) ∧
  (∀ i j p D, P i j p D → isB D → (cd j).1 = 28 → P i (j + 1) p (ntD D)) ∧
  (∀ i m j p q D E, P i m p D → isB D → P (m + 1) j q E → (cd m).1 = 29 ∨ (cd m).1 = 30 → (cd m).2 = j → P i j (p + q) (aoD (cd m).1 D E))
def SegM (cd : Int → Int × Int) (i j p : Int) (D : Den) : Prop := ∀ P, RulM cd P → P i j p D
section SM
variable {cd : Int → Int × Int} {i j m p q : Int} {D E : Den}
theorem SegM.lf (h : okL (cd i).1 (cd i).2) : SegM cd i (i + 1) 1 (lfD (cd i).1 (cd i).2) := fun P hP => hP.1 i h
theorem SegM.bn (h1 : SegM cd i m p D) (h2 : SegM cd m j q E) (h3 : 20 ≤ (cd j).1) (h4 : (cd j).1 < 28) : SegM cd i (j + 1) (p + q) (bnD (cd j).1 D E) := fun P hP => hP.2.1 i m j p q D E (h1 P hP) (h2 P hP) h3 h4
theorem SegM.nt (h1 : SegM cd i j p D) (hb : isB D) (h3 : (cd j).1 = 28) : SegM cd i (j + 1) p (ntD D) := fun P hP => hP.2.2.1 i j p D (h1 P hP) hb h3
theorem SegM.ao (h1 : SegM cd i m p D) (hb : isB D) (h2 : SegM cd (m + 1) j q E) (h3 : (cd m).1 = 29 ∨ (cd m).1 = 30) (h4 : (cd m).2 = j) : SegM cd i j (p + q) (aoD (cd m).1 D E) := fun P hP => hP.2.2.2 i m j p q D E (h1 P hP) hb (h2 P hP) h3 h4
theorem SegM.lt (h : SegM cd i j p D) : i < j ∧ 1 ≤ p := h (fun i j p _ => i < j ∧ 1 ≤ p) ⟨fun i _ => by omega, fun i m j p q D E h1 h2 _ _ => by omega, fun i j p D h1 _ _ => by omega, fun i m j p q D E h1 _ h2 _ _ => by omega⟩
theorem SegM.congr {cd' : Int → Int × Int} (h : SegM cd i j p D) (he : ∀ k, i ≤ k → k < j → cd' k = cd k) : SegM cd' i j p D := by
  have key : i < j ∧ ((∀ k, i ≤ k → k < j → cd' k = cd k) → SegM cd' i j p D) := by
    refine h (fun i j p D => i < j ∧ ((∀ k, i ≤ k → k < j → cd' k = cd k) → SegM cd' i j p D)) ⟨fun i hl => ⟨by omega, fun he => ?_⟩, fun i m j p q D E h1 h2 h3 h4 => ⟨by omega, fun he => ?_⟩, fun i j p D h1 hb h3 => ⟨by omega, fun he => ?_⟩, fun i m j p q D E h1 hb h2 h3 h4 => ⟨by omega, fun he => ?_⟩⟩
    · have e := he i (by omega) (by omega)
      rw [← e] at hl ⊢; exact SegM.lf hl
    · have e := he j (by omega) (by omega)
      rw [← e] at h3 h4 ⊢
      exact SegM.bn (h1.2 (fun k q0 q1 => he k q0 (by omega))) (h2.2 (fun k q0 q1 => he k (by omega) (by omega))) h3 h4
    · have e := he j (by omega) (by omega)
      rw [← e] at h3
      exact SegM.nt (h1.2 (fun k q0 q1 => he k q0 (by omega))) hb h3
    · have e := he m (by omega) (by omega)
      rw [← e] at h3 h4 ⊢
      exact SegM.ao (h1.2 (fun k q0 q1 => he k q0 (by omega))) hb (h2.2 (fun k q0 q1 => he k (by omega) (by omega))) h3 h4
  exact key.2 he
end SM
/-- the class's steps: a step's kind and argument; which word it is (as the reference numbers them) -/
def wcL (a : Int) : Int := if a.tdiv 9 = 10 then 5 else a.tdiv 9 - 4
def okCs (laws : Bool) (st a op b : Int) : Prop := (st = 0 ∧ op = 0 ∧ b = a ∧ 0 ≤ a ∧ a ≤ 1000) ∨
  (laws = true ∧ b = 0 ∧ ((st = 1 ∧ ((a = 0 ∧ op = 6) ∨ (a = 1 ∧ op = 7))) ∨ (st = 2 ∧ ((a = 53 ∧ op = 1) ∨ (a = 62 ∧ op = 2) ∨ (a = 71 ∧ op = 3) ∨ (a = 80 ∧ op = 4) ∨ (a = 98 ∧ op = 5))))) ∨
  (laws = false ∧ ((st = 1 ∧ b = 0 ∧ ((a = 0 ∧ op = 1) ∨ (a = 2 ∧ op = 2) ∨ (a = 3 ∧ op = 3) ∨ (a = 4 ∧ op = 4))) ∨ (st = 2 ∧ 0 ≤ b ∧ b ≤ 7 ∧ ((a = 72 + b ∧ op = 5) ∨ (a = 81 + b ∧ op = 6) ∨ (a = 90 + b ∧ op = 7)))))
def cs1 (x : Int) : Int := x.tdiv 1024
def cs2 (x : Int) : Int := x.tmod 1024
def RulC (laws : Bool) (cd : Int → Int) (P : Int → Int → Int → Den → Prop) : Prop :=
  (∀ i op b, okCs laws (cs1 (cd i)) (cs2 (cd i)) op b → P i (i + 1) 1 (lfD op b)) ∧
  (∀ i m j p q D E, P i m p D → P m j q E → 3 ≤ cs1 (cd j) → cs1 (cd j) < 11 → P i (j + 1) (p + q) (bnD (cs1 (cd j) + 17) D E)) ∧
  (∀ i j p D, P i j p D → isB D → cs1 (cd j) = 11 → P i (j + 1) p (ntD D)) ∧
  (∀ i m j p q D E, P i m p D → isB D → P (m + 1) j q E → cs1 (cd m) = 12 ∨ cs1 (cd m) = 13 → cs2 (cd m) = j → P i j (p + q) (aoD (cs1 (cd m) + 17) D E))
def SegC (laws : Bool) (cd : Int → Int) (i j p : Int) (D : Den) : Prop := ∀ P, RulC laws cd P → P i j p D
section SC
variable {laws : Bool} {cd : Int → Int} {i j m p q : Int} {D E : Den}
theorem SegC.lf {op b : Int} (h : okCs laws (cs1 (cd i)) (cs2 (cd i)) op b) : SegC laws cd i (i + 1) 1 (lfD op b) := fun P hP => hP.1 i op b h
theorem SegC.bn (h1 : SegC laws cd i m p D) (h2 : SegC laws cd m j q E) (h3 : 3 ≤ cs1 (cd j)) (h4 : cs1 (cd j) < 11) : SegC laws cd i (j + 1) (p + q) (bnD (cs1 (cd j) + 17) D E) := fun P hP => hP.2.1 i m j p q D E (h1 P hP) (h2 P hP) h3 h4
theorem SegC.nt (h1 : SegC laws cd i j p D) (hb : isB D) (h3 : cs1 (cd j) = 11) : SegC laws cd i (j + 1) p (ntD D) := fun P hP => hP.2.2.1 i j p D (h1 P hP) hb h3
theorem SegC.ao (h1 : SegC laws cd i m p D) (hb : isB D) (h2 : SegC laws cd (m + 1) j q E) (h3 : cs1 (cd m) = 12 ∨ cs1 (cd m) = 13) (h4 : cs2 (cd m) = j) : SegC laws cd i j (p + q) (aoD (cs1 (cd m) + 17) D E) := fun P hP => hP.2.2.2 i m j p q D E (h1 P hP) hb (h2 P hP) h3 h4
theorem SegC.lt (h : SegC laws cd i j p D) : i < j ∧ 1 ≤ p := h (fun i j p _ => i < j ∧ 1 ≤ p) ⟨fun i _ _ _ => by omega, fun i m j p q D E h1 h2 _ _ => by omega, fun i j p D h1 _ _ => by omega, fun i m j p q D E h1 _ h2 _ _ => by omega⟩
theorem SegC.congr {cd' : Int → Int} (h : SegC laws cd i j p D) (he : ∀ k, i ≤ k → k < j → cd' k = cd k) : SegC laws cd' i j p D := by
  have key : i < j ∧ ((∀ k, i ≤ k → k < j → cd' k = cd k) → SegC laws cd' i j p D) := by
    refine h (fun i j p D => i < j ∧ ((∀ k, i ≤ k → k < j → cd' k = cd k) → SegC laws cd' i j p D)) ⟨fun i op b hl => ⟨by omega, fun he => ?_⟩, fun i m j p q D E h1 h2 h3 h4 => ⟨by omega, fun he => ?_⟩, fun i j p D h1 hb h3 => ⟨by omega, fun he => ?_⟩, fun i m j p q D E h1 hb h2 h3 h4 => ⟨by omega, fun he => ?_⟩⟩
    · have e := he i (by omega) (by omega)
      rw [← e] at hl; exact SegC.lf hl
    · have e := he j (by omega) (by omega)
      rw [← e] at h3 h4 ⊢
      exact SegC.bn (h1.2 (fun k q0 q1 => he k q0 (by omega))) (h2.2 (fun k q0 q1 => he k (by omega) (by omega))) h3 h4
    · have e := he j (by omega) (by omega)
      rw [← e] at h3
      exact SegC.nt (h1.2 (fun k q0 q1 => he k q0 (by omega))) hb h3
    · have e := he m (by omega) (by omega)
      rw [← e] at h3 h4 ⊢
      exact SegC.ao (h1.2 (fun k q0 q1 => he k q0 (by omega))) hb (h2.2 (fun k q0 q1 => he k (by omega) (by omega))) h3 h4
  exact key.2 he
end SC
