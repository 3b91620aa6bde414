/-! The reference reads a text. -/
def FrTX (M M' : mMem) : Prop := ∀ a i, ¬ ((a = 200 ∧ ((13 ≤ i ∧ i ≤ 21) ∨ i = 23 ∨ i = 26 ∨ i = 29 ∨ i = 30)) ∨ (210 ≤ a ∧ a ≤ 214) ∨ a = 223) → M' a i = M a i
theorem FrTX.ofM {M M' : mMem} (h : FrTM M M') : FrTX M M' := fun a i q => h a i (by omega)
theorem FrTX.tr {M M' M'' : mMem} (h : FrTX M M') (h' : FrTX M' M'') : FrTX M M'' := fun a i q => (h' a i q).trans (h a i q)
theorem FrTX.row {M M' : mMem} (h : FrTX M M') : M' 202 = M 202 := funext fun i => h 202 i (by omega)
section OF
variable {d : Nat} {S : mSh} {M : mMem} {Q : Option mV → mSh → mMem → Prop} {tp : Int → Int} {len p nl lf : Int} {T : TX} {M0 : mMem}
theorem s_begin (L : Lay S) (ok : okBy tp len) (ht : ∀ i, 0 ≤ i → i < len → M 209 i = tp i) (hl : M 200 13 = len)
    (k : ∀ M', RdM tp len 0 M' → M' 200 19 = 0 → (∀ a i, ¬ (a = 200 ∧ 14 ≤ i ∧ i ≤ 19) → M' a i = M a i) → Q none S M') : e_X9_begin (d + 2) S M Q := by
  have g : ∀ a i, ¬ (a = 200 ∧ 14 ≤ i ∧ i ≤ 19) → up (up (up M 200 15 0) 200 19 0) 200 18 (-1) a i = M a i := fun a i w => up3_ne (by omega) (by omega) (by omega)
  have e15 : up (up (up M 200 15 0) 200 19 0) 200 18 (-1) 200 15 = 0 := by rw [up_ni (by decide), up_ni (by decide), up_s]
  have e19 : up (up (up M 200 15 0) 200 19 0) 200 18 (-1) 200 19 = 0 := by rw [up_ni (by decide), up_s]
  have e18 : up (up (up M 200 15 0) 200 19 0) 200 18 (-1) 200 18 = -1 := up_s _ _ _ _
  refine b_X9_begin_0 L ?_
  generalize up (up (up M 200 15 0) 200 19 0) 200 18 (-1) = M1 at *
  have hlen := ok.1
  refine s_next L (tp := tp) (len := len) (p := 0) ok (fun i q0 q1 => by rw [g _ _ (by omega)]; exact ht i q0 q1) (by rw [g _ _ (by omega)]; exact hl) e15 (by omega) (fun M2 f e kk it a3 a4 a5 a6 fr => b_X9_begin_19 (k M2 ?_ (by rw [fr _ _ (by omega)]; exact e19) (fun a i w => by rw [fr _ _ (by omega)]; exact g a i w)))
  obtain ⟨i1, i2, i3, i4⟩ := isTk.of it
  refine ⟨ok, fun i q0 q1 => by rw [fr _ _ (by omega), g _ _ (by omega)]; exact ht i q0 q1, ⟨by rw [fr _ _ (by omega), g _ _ (by omega)]; exact hl, by rw [fr _ _ (by omega)]; exact e18⟩, by omega, i1, ?_, ?_, ?_, ?_⟩
  · rw [i2]; exact a3
  · rw [i3]; exact a4
  · rw [i4]; exact a5
  · unfold tW; rw [i2, i3, i4]; exact a6
theorem s_beginText (L : Lay S) {x1 : Int} (hx : x1 = 0 ∨ x1 = 1) (ok : okBy tp len) (ht : ∀ i, 0 ≤ i → i < len → M 209 i = tp i) (hl : M 200 13 = len)
    (k : ∀ M', EPre x1 tp len 0 0 M' → M' 200 21 = 0 → (∀ a i, ¬ (a = 200 ∧ ((14 ≤ i ∧ i ≤ 21) ∨ i = 23 ∨ i = 26)) → M' a i = M a i) → Q none S M') : e_X9_beginText (d + 3) x1 S M Q := by
  have g : ∀ a i, ¬ (a = 200 ∧ i = 20) → up M 200 20 x1 a i = M a i := fun a i w => up1_ne w
  have e20 : up M 200 20 x1 200 20 = x1 := up_s _ _ _ _
  refine b_X9_beginText_0 L hx ?_
  generalize up M 200 20 x1 = M1 at *
  refine s_begin L ok (fun i q0 q1 => by rw [g _ _ (by omega)]; exact ht i q0 q1) (by rw [g _ _ (by omega)]; exact hl) (fun M2 r2 e19 f2 => b_X9_beginText_9 L ?_)
  have f3 : ∀ a i, ¬ (a = 200 ∧ (i = 21 ∨ i = 23 ∨ i = 26)) → up (up (up M2 200 21 0) 200 23 0) 200 26 0 a i = M2 a i := fun a i w => up3_ne (by omega) (by omega) (by omega)
  have a21 : up (up (up M2 200 21 0) 200 23 0) 200 26 0 200 21 = 0 := by rw [up_ni (by decide), up_ni (by decide), up_s]
  have a23 : up (up (up M2 200 21 0) 200 23 0) 200 26 0 200 23 = 0 := by rw [up_ni (by decide), up_s]
  have a26 : up (up (up M2 200 21 0) 200 23 0) 200 26 0 200 26 = 0 := up_s _ _ _ _
  generalize up (up (up M2 200 21 0) 200 23 0) 200 26 0 = M3 at *
  exact k M3 ⟨r2.congr (fun a i w => f3 a i (by omega)), a26, by rw [f3 _ _ (by omega)]; exact e19, by rw [f3 _ _ (by omega), f2 _ _ (by omega)]; exact e20, by omega, by decide⟩ a21 (fun a i w => by rw [f3 _ _ (by omega), f2 _ _ (by omega), g _ _ (by omega)])
/-- behind a text: the fault, or none -/
def EndM (M0 : mMem) (f : Int) (M : mMem) : Prop := ((f = -1 ∧ M 200 19 = 0) ∨ (¬ f = -1 ∧ M 200 19 = 1)) ∧ M 200 18 = f ∧ M 200 20 = 0 ∧ M 200 13 = 0 ∧ FrTX M0 M
theorem s_endG (L : Lay S) {q m : Int} (h : EPre lf tp len q m M) (hs : tS tp len q = 0) (hf : FrTX M0 M) (k : ∀ M', EndM M0 (-1) M' → (∀ a i, ¬ (a = 200 ∧ (i = 13 ∨ i = 20)) → M' a i = M a i) → Q none S M') : e_X9_endText d S M Q := by
  have e16 : M 200 16 = tS tp len q := h.1.2.2.2.2.2.2.2.1
  have f3 : ∀ a i, ¬ (a = 200 ∧ (i = 13 ∨ i = 20)) → up (up M 200 20 0) 200 13 0 a i = M a i := fun a i w => up2_ne (by omega) (by omega)
  refine b_X9_endText_0 L (fun w => absurd h.2.2.1 w) (fun _ => b_X9_endText_7 L (fun _ => b_X9_endText_19 L (k _ ⟨Or.inl ⟨rfl, ?_⟩, ?_, ?_, up_s _ _ _ _, hf.tr (fun a i w => f3 a i (by omega))⟩ f3)) (fun w => absurd (e16.trans hs) w))
  · rw [f3 _ _ (by omega)]; exact h.2.2.1
  · rw [f3 _ _ (by omega)]; exact h.1.2.2.1.2
  · rw [up_ni (by decide), up_s]
theorem BadR.fin {f : Int} (hn : 0 ≤ f) (h : BadR M0 f M) : EndM M0 f (up (up M 200 20 0) 200 13 0) := by
  refine ⟨Or.inr ⟨by omega, ?_⟩, ?_, ?_, up_s _ _ _ _, (FrTX.ofM h.2).tr (fun a i w => up2_ne (by omega) (by omega))⟩
  · rw [up2_ne (by omega) (by omega)]; exact h.1.1
  · rw [up2_ne (by omega) (by omega)]; exact h.1.2
  · rw [up_ni (by decide), up_s]
theorem s_endX (L : Lay S) {q m : Int} (h : EPre lf tp len q m M) (hs : ¬ tS tp len q = 0) (hf : FrTM M0 M) (k : ∀ M', EndM M0 (tF tp len q) M' → Q none S M') : e_X9_endText (d + 1) S M Q := by
  have e16 : M 200 16 = tS tp len q := h.1.2.2.2.2.2.2.2.1
  have bd := h.1.2.2.2.2.1.bd
  have hq := h.1.2.2.2.1
  exact b_X9_endText_0 L (fun w => absurd h.2.2.1 w) (fun _ => b_X9_endText_7 L (fun w => absurd (e16.symm.trans w) hs) (fun _ => b_X9_endText_14 L (s_wrE L h (fun M1 b1 => b_X9_endText_19 L (k _ (BadR.fin (by omega) ⟨b1.1, hf.tr b1.2⟩))))))
theorem s_endB (L : Lay S) {f : Int} (hn : 0 ≤ f) (h : BadR M0 f M) (k : ∀ M', EndM M0 f M' → Q none S M') : e_X9_endText d S M Q :=
  b_X9_endText_0 L (fun _ => b_X9_endText_19 L (k _ (h.fin hn))) (fun w => absurd w (by rw [h.1.1]; decide))
end OF
