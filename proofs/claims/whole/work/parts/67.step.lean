/-! One order, once, as a function: the state (row, done, latest, bottles, least mean), what comes of it. -/
abbrev ST : Type := (Int → Int) × Int × Int × Int × Int
def gS (σ : ST) : Int → Int := σ.1
def dnS (σ : ST) : Int := σ.2.1
def ltS (σ : ST) : Int := σ.2.2.1
def ylS (σ : ST) : Int := σ.2.2.2.1
def mnS (σ : ST) : Int := σ.2.2.2.2
def opW (kind : Int) (TL : TX) (g : Int → Int) (a b c : Int) : Int := if kind = 0 then pourW g b a else if kind = 1 then rackW TL g b c a else if kind = 2 then botW TL g b a else if 999 ≤ g 5 then -3 else 0
def opG (kind : Int) (TL : TX) (g : Int → Int) (a b c : Int) : Int → Int := if kind = 0 then addG g b a else if kind = 1 then rackG g b c a else if kind = 2 then botG g b a else passG TL g
def wS (σ : ST) : Env := wO (gS σ) (dnS σ) (ltS σ)
def stC (TL T : TX) (i : Int) (σ : ST) : Int := if tstO (ts T i 3) (wS σ) = true then (match valO (ts T i 0) (wS σ), valO (ts T i 1) (wS σ), valO (ts T i 2) (wS σ) with
  | some a, some b, some c => if opW (tk T i) TL (gS σ) a b c = 0 then 0 else -3
  | _, _, _ => -3) else -9
def stN (TL T : TX) (i : Int) (σ : ST) (a b c : Int) : ST := (opG (tk T i) TL (gS σ) a b c, dnS σ + 1, if tk T i = 2 then botM (gS σ) b a else ltS σ, if tk T i = 2 then ylS σ + a else ylS σ, if tk T i = 2 ∧ botM (gS σ) b a < mnS σ then botM (gS σ) b a else mnS σ)
def stS (TL T : TX) (i : Int) (σ : ST) : ST := match valO (ts T i 0) (wS σ), valO (ts T i 1) (wS σ), valO (ts T i 2) (wS σ) with
  | some a, some b, some c => stN TL T i σ a b c
  | _, _, _ => σ
/-- a text of orders, by its words: which sums a kind has -/
def okTO (T : TX) : Prop := okTx T ∧ ∀ i, 0 ≤ i → i < tn T → (0 ≤ tk T i ∧ tk T i ≤ 3) ∧ (1 ≤ tt T i ∧ tt T i ≤ 20) ∧ (tk T i = 3 ↔ ts T i 0 = none) ∧ (tk T i = 3 ↔ ts T i 1 = none) ∧ (¬ tk T i = 1 ↔ ts T i 2 = none)
/-- bounds of a state -/
def okST (σ : ST) : Prop := okS (gS σ) ∧ (0 ≤ dnS σ ∧ dnS σ ≤ 1000) ∧ (-1 ≤ ltS σ ∧ ltS σ ≤ 19000) ∧ (0 ≤ ylS σ ∧ ylS σ ≤ 1500000000) ∧ (0 ≤ mnS σ ∧ mnS σ ≤ 100000000)
theorem wS_bd {σ : ST} (h : okST σ) : bdW (wS σ) := wO_bd h.1 (by have := h.2.1; omega) (by have := h.2.2.1; omega)
theorem op_ok {kind : Int} {TL : TX} {g : Int → Int} (ok : okS g) {a b c : Int} (h : opW kind TL g a b c = 0) : okS (opG kind TL g a b c) := by
  unfold opW at h; unfold opG
  by_cases h0 : kind = 0
  · rw [if_pos h0] at h ⊢; exact (pour_ok ok h).2.2.2.2
  · rw [if_neg h0] at h ⊢
    by_cases h1 : kind = 1
    · rw [if_pos h1] at h ⊢; exact (rack_ok ok h).2.2.2.2.2.2.2.2
    · rw [if_neg h1] at h ⊢
      by_cases h2 : kind = 2
      · rw [if_pos h2] at h ⊢; exact (bot_ok ok h).2.2.2.2
      · rw [if_neg h2] at h ⊢
        refine pass_ok ok ?_
        split at h
        · cases h
        · omega
theorem stC_0 {TL T : TX} {i : Int} {σ : ST} (h : stC TL T i σ = 0) : tstO (ts T i 3) (wS σ) = true ∧ ∃ a b c, valO (ts T i 0) (wS σ) = some a ∧ valO (ts T i 1) (wS σ) = some b ∧ valO (ts T i 2) (wS σ) = some c ∧ opW (tk T i) TL (gS σ) a b c = 0 ∧ stS TL T i σ = stN TL T i σ a b c := by
  unfold stC at h
  by_cases ht : tstO (ts T i 3) (wS σ) = true
  · rw [if_pos ht] at h
    refine ⟨ht, ?_⟩
    cases h0 : valO (ts T i 0) (wS σ) with
    | none => rw [h0] at h; cases h
    | some a =>
      cases h1 : valO (ts T i 1) (wS σ) with
      | none => rw [h0, h1] at h; cases h
      | some b =>
        cases h2 : valO (ts T i 2) (wS σ) with
        | none => rw [h0, h1, h2] at h; cases h
        | some c =>
          rw [h0, h1, h2] at h
          dsimp only at h
          refine ⟨a, b, c, rfl, rfl, rfl, ?_, ?_⟩
          · by_cases ho : opW (tk T i) TL (gS σ) a b c = 0
            · exact ho
            · rw [if_neg ho] at h; cases h
          · unfold stS; rw [h0, h1, h2]
  · rw [if_neg ht] at h; cases h
theorem stC_cases (TL T : TX) (i : Int) (σ : ST) : stC TL T i σ = 0 ∨ stC TL T i σ = -3 ∨ stC TL T i σ = -9 := by
  unfold stC
  split
  · split
    · split <;> simp
    · simp
  · simp
theorem bot_in {TL : TX} {g : Int → Int} (ok : okS g) {b a : Int} (h : botW TL g b a = 0) : (1 ≤ a ∧ a ≤ 999) ∧ 0 ≤ botM g b a ∧ botM g b a ≤ 19000 := by
  obtain ⟨h1, h2, h3, -, -⟩ := bot_ok ok h
  have hn := ok.n
  have := botM_bd ok (c := b) (by omega) h1.1 h3
  exact ⟨h1, this.1, this.2⟩
theorem opW2 {TL : TX} {g : Int → Int} {kind a b c : Int} (hk : kind = 2) (h : opW kind TL g a b c = 0) : botW TL g b a = 0 := by
  unfold opW at h; rw [if_neg (by omega), if_neg (by omega), if_pos hk] at h; exact h
theorem stN_ok {TL T : TX} {i : Int} {σ : ST} (ok : okST σ) {a b c : Int} (h : opW (tk T i) TL (gS σ) a b c = 0) (hd : dnS σ < 1000) (hy : ylS σ ≤ 1400000000) : okST (stN TL T i σ a b c) := by
  obtain ⟨o1, o2, o3, o4, o5⟩ := ok
  refine ⟨op_ok o1 h, ?_, ?_, ?_, ?_⟩
  · show 0 ≤ dnS σ + 1 ∧ dnS σ + 1 ≤ 1000; omega
  · show -1 ≤ (if tk T i = 2 then botM (gS σ) b a else ltS σ) ∧ (if tk T i = 2 then botM (gS σ) b a else ltS σ) ≤ 19000
    by_cases h2 : tk T i = 2
    · have := bot_in o1 (opW2 h2 h); rw [if_pos h2]; omega
    · rw [if_neg h2]; exact o3
  · show 0 ≤ (if tk T i = 2 then ylS σ + a else ylS σ) ∧ (if tk T i = 2 then ylS σ + a else ylS σ) ≤ 1500000000
    by_cases h2 : tk T i = 2
    · have := bot_in o1 (opW2 h2 h); rw [if_pos h2]; omega
    · rw [if_neg h2]; exact o4
  · show 0 ≤ (if tk T i = 2 ∧ botM (gS σ) b a < mnS σ then botM (gS σ) b a else mnS σ) ∧ (if tk T i = 2 ∧ botM (gS σ) b a < mnS σ then botM (gS σ) b a else mnS σ) ≤ 100000000
    by_cases h2 : tk T i = 2 ∧ botM (gS σ) b a < mnS σ
    · have := bot_in o1 (opW2 h2.1 h); rw [if_pos h2]; omega
    · rw [if_neg h2]; exact o5
/-- what stays of a row whatever is done -/
def Fix (g g' : Int → Int) : Prop := ∀ i, (i < 5 ∨ 6 ≤ i ∧ i < 9 ∨ 170 ≤ i) → g' i = g i
theorem Fix.rf (g : Int → Int) : Fix g g := fun _ _ => rfl
theorem Fix.tr {g g' g'' : Int → Int} (h : Fix g g') (h' : Fix g' g'') : Fix g g'' := fun i q => (h' i q).trans (h i q)
theorem seg_fix {g f : Int → Int} {c : Int} (hc : 0 ≤ c ∧ c < 8) : Fix g (segG g c f) := fun i q => seg_o (by omega)
theorem pass_fix {TL : TX} {g : Int → Int} (ok : okS g) : Fix g (passG TL g) := fun i q => by
  have hn := ok.n
  unfold passG; rw [upr_n (by omega)]; exact pG_o TL g hn.1 hn.2 i (by omega)
theorem op_fix {kind : Int} {TL : TX} {g : Int → Int} (ok : okS g) {a b c : Int} (h : opW kind TL g a b c = 0) : Fix g (opG kind TL g a b c) := by
  have hn := ok.n
  unfold opW at h; unfold opG
  by_cases h0 : kind = 0
  · rw [if_pos h0] at h ⊢; have := pour_ok ok h; exact seg_fix (by omega)
  · rw [if_neg h0] at h ⊢
    by_cases h1 : kind = 1
    · rw [if_pos h1] at h ⊢
      have := rack_ok ok h
      have f1 : Fix g (takG g b a) := by unfold takG; exact seg_fix (c := b) (by omega)
      have f2 : Fix (takG g b a) (rackG g b c a) := by unfold rackG putG; exact seg_fix (c := c) (by omega)
      exact f1.tr f2
    · rw [if_neg h1] at h ⊢
      by_cases h2 : kind = 2
      · rw [if_pos h2] at h ⊢
        have := bot_ok ok h
        intro i q
        unfold botG; rw [upr_n (by omega)]; exact seg_fix (c := b) (by omega) i q
      · rw [if_neg h2]; exact pass_fix ok
theorem ForM.fix {r r' : Int → Int} {T : TX} (h : ForM r T) (hf : Fix r r') : ForM r' T := h.congr (hf 4 (by decide)) (fun i q => hf i (by omega))
/-- what can be undone, the latest first -/
abbrev HI : Type := List (Int × (Int → Int))
def pushH (k : Int) (g : Int → Int) (h : HI) : HI := ((k, g) :: h).take 16
def HistM (h : HI) (M : mMem) : Prop := M 200 8 = (h.length : Int) ∧ h.length ≤ 16 ∧ ∀ (j : Nat) e, h[j]? = some e → M 206 ((h.length : Int) - 1 - j) = e.1 ∧ ∀ x, 0 ≤ x → x < 165 → M 205 (165 * ((h.length : Int) - 1 - j) + x) = e.2 (5 + x)
theorem HistM.congr {h : HI} {M M' : mMem} (hh : HistM h M) (h8 : M' 200 8 = M 200 8) (h5 : ∀ i, 0 ≤ i → i < 2640 → M' 205 i = M 205 i) (h6 : ∀ i, M' 206 i = M 206 i) : HistM h M' := by
  obtain ⟨a, b, c⟩ := hh
  refine ⟨by rw [h8]; exact a, b, fun j e he => ?_⟩
  have hj : j < h.length := by
    by_cases hj : j < h.length
    · exact hj
    · rw [List.getElem?_eq_none (by omega)] at he; cases he
  obtain ⟨p, q⟩ := c j e he
  exact ⟨by rw [h6]; exact p, fun x x0 x1 => by rw [h5 _ (by omega) (by omega)]; exact q x x0 x1⟩
theorem pushH_len (k : Int) (g : Int → Int) (h : HI) (hl : h.length ≤ 16) : ((pushH k g h).length : Int) = if (h.length : Int) = 16 then 16 else (h.length : Int) + 1 := by
  unfold pushH
  rw [List.length_take, List.length_cons]
  split <;> omega
theorem pushH_get (k : Int) (g : Int → Int) (h : HI) (j : Nat) (e : Int × (Int → Int)) (he : (pushH k g h)[j]? = some e) : (j = 0 ∧ e = (k, g)) ∨ (∃ i, j = i + 1 ∧ i < 15 ∧ h[i]? = some e) := by
  unfold pushH at he
  rw [List.getElem?_take] at he
  split at he
  · rename_i hj
    cases j with
    | zero => left; simp at he; exact ⟨rfl, he.symm⟩
    | succ i => right; simp at he; exact ⟨i, rfl, by omega, he⟩
  · cases he
section MH
variable {d : Nat} {S : mSh} {M : mMem} {Q : Option mV → mSh → mMem → Prop}
theorem s_rem (L : Lay S) {h : HI} (hh : HistM h M) {s : Int} (k : ∀ M', HistM (pushH s (M 202) h) M' → (∀ a i, a ≠ 205 → a ≠ 206 → ¬ (a = 200 ∧ i = 8) → M' a i = M a i) → (∀ i, 2640 ≤ i → M' 205 i = M 205 i) → Q none S M') : e_X9_remember (d + 1) s S M Q := by
  obtain ⟨a, b, c⟩ := hh
  have hlen := pushH_len s (M 202) h b
  refine s_remember L (by omega) ?_
  unfold remM
  by_cases h16 : M 200 8 = 16
  · rw [if_pos h16]
    rw [if_pos (by omega)] at hlen
    refine k _ ⟨?_, by omega, fun j e he => ?_⟩ (fun x i q1 q2 q3 => ?_) (fun i q => ?_)
    · rw [up_s]; omega
    · rw [hlen]
      rcases pushH_get _ _ _ _ _ he with ⟨rfl, rfl⟩ | ⟨i, rfl, hi, hg⟩
      · refine ⟨?_, fun x x0 x1 => ?_⟩
        · rw [up_na (by decide), show (16 : Int) - 1 - ((0 : Nat) : Int) = 15 from rfl, up_s]
        · rw [up_na (by decide), up_na (by decide)]
          unfold keepM
          rw [show (16 : Int) - 1 - ((0 : Nat) : Int) = 15 from rfl, fw_i (by omega)]
          show shfM M 202 (5 + (165 * 15 + x - 165 * 15)) = M 202 (5 + x)
          unfold shfM
          rw [up_na (by decide), fw_na (by decide), fw_na (by decide)]; congr 1; omega
      · obtain ⟨p, q⟩ := c i e hg
        refine ⟨?_, fun x x0 x1 => ?_⟩
        · rw [up_na (by decide), up_ni (by omega), keepM_na (by decide)]
          unfold shfM
          rw [up_na (by decide), fw_i (by omega), ← p]; congr 1; omega
        · rw [up_na (by decide), up_na (by decide)]
          unfold keepM
          rw [fw_o (by omega)]
          unfold shfM
          rw [up_na (by decide), fw_na (by decide), fw_i (by omega), ← q x x0 x1]; congr 1; omega
    · by_cases e2 : x = 200
      · rw [up_ni (by omega), up_na q2, keepM_na q1]; unfold shfM; rw [up_ni (by omega), fw_na q2, fw_na q1]
      · rw [up_na e2, up_na q2, keepM_na q1]; unfold shfM; rw [up_na e2, fw_na q2, fw_na q1]
    · rw [up_na (by decide), up_na (by decide)]
      unfold keepM
      rw [fw_o (by omega)]
      unfold shfM
      rw [up_na (by decide), fw_na (by decide), fw_o (by omega)]
  · rw [if_neg h16]
    rw [if_neg (by omega)] at hlen
    refine k _ ⟨?_, by omega, fun j e he => ?_⟩ (fun x i q1 q2 q3 => ?_) (fun i q => ?_)
    · rw [up_s]; omega
    · rw [hlen, ← a]
      rcases pushH_get _ _ _ _ _ he with ⟨rfl, rfl⟩ | ⟨i, rfl, hi, hg⟩
      · have e0 : M 200 8 + 1 - 1 - ((0 : Nat) : Int) = M 200 8 := by omega
        rw [e0]
        refine ⟨?_, fun x x0 x1 => ?_⟩
        · rw [up_na (by decide), up_s]
        · rw [up_na (by decide), up_na (by decide)]
          unfold keepM
          rw [fw_i (by omega)]
          show M 202 (5 + (165 * M 200 8 + x - 165 * M 200 8)) = M 202 (5 + x)
          congr 1; omega
      · obtain ⟨p, q⟩ := c i e hg
        have hi2 : i < h.length := by
          by_cases hj : i < h.length
          · exact hj
          · rw [List.getElem?_eq_none (by omega)] at hg; cases hg
        refine ⟨?_, fun x x0 x1 => ?_⟩
        · rw [up_na (by decide), up_ni (by omega), keepM_na (by decide), ← p]; congr 1; omega
        · rw [up_na (by decide), up_na (by decide)]
          unfold keepM
          rw [fw_o (by omega), ← q x x0 x1]; congr 1; omega
    · by_cases e2 : x = 200
      · rw [up_ni (by omega), up_na q2, keepM_na q1]
      · rw [up_na e2, up_na q2, keepM_na q1]
    · rw [up_na (by decide), up_na (by decide)]
      unfold keepM
      rw [fw_o (by omega)]
end MH
