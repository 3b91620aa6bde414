/-! New cells; a text is kept. -/
section TR
variable {d : Nat} {S : mSh} {M : mMem} {Q : Option mV → mSh → mMem → Prop} {a b kd k l u x f : Int}
theorem sn_new : sN (sNew S k l u) = sN S + 1 := rfl
theorem su_new : sU (sNew S k l u) = sU S + u := rfl
theorem sl_self : sL (sNew S k l u) (sN S + 1) = l := if_pos rfl
theorem sl_ne (h : a ≠ sN S + 1) : sL (sNew S k l u) a = sL S a := if_neg h
theorem sk_self : sK (sNew S k l u) (sN S + 1) = k := if_pos rfl
theorem sk_ne (h : a ≠ sN S + 1) : sK (sNew S k l u) a = sK S a := if_neg h
theorem sf_ne (h : a ≠ sN S + 1) : sF (sNew S k l u) a f = sF S a f := if_neg h
theorem sf_self : sF (sSet S a f) a f = 1 := if_pos ⟨rfl, rfl⟩
theorem sf_set (h : ¬ (a = b ∧ f = x)) : sF (sSet S b x) a f = sF S a f := if_neg h
theorem isO.nw (h : isO S a kd) : isO (sNew S k l u) a kd := ⟨h.1, by have := h.2.1; rw [sn_new]; omega, (sk_ne (by have := h.2.1; omega)).trans h.2.2⟩
theorem isO.st (h : isO S a kd) : isO (sSet S b x) a kd := h
theorem isO_self (h : 0 ≤ sN S) : isO (sNew S k l u) (sN S + 1) k := ⟨by omega, Int.le_refl _, sk_self⟩
theorem GrS.nw (S : mSh) : GrS S (sNew S k l u) := ⟨by rw [sn_new]; omega, fun a q0 q1 => ⟨sk_ne (by omega), sl_ne (by omega), fun _ => sf_ne (by omega)⟩⟩
theorem GrS.st {S0 : mSh} (h : GrS S0 S) (hb : sN S0 < b) : GrS S0 (sSet S b x) := ⟨h.1, fun a q0 q1 => ⟨(h.2 a q0 q1).1, (h.2 a q0 q1).2.1, fun k => (sf_set (by omega)).trans ((h.2 a q0 q1).2.2 k)⟩⟩
theorem zr_ne {i : Int} (h : b ≠ a) : zr M a b i = M b i := if_neg h
theorem zr_s {i : Int} : zr M a a i = 0 := if_pos rfl
theorem c_newText {x0 x1 x2 : Int} (h1 : 0 ≤ x1 ∧ x1 ≤ 12) (h2 : 0 ≤ x2 ∧ x2 ≤ 400) (hx : sN S = x0) (ho : isO S x0 6) (k : Q none (sSet (sNew (sSet (sNew S 20 (x1 * 7) (x1 * 7)) x0 0) 20 x2 x2) x0 1) (zr (zr M (x0 + 1)) (x0 + 1 + 1))) : WP PR d 58 0 [vA x0, vI x1, vI x2] [] S M Q := by
  have e1 : (if 0 < x1 then x1 else 0) = x1 := by split <;> omega
  have e2 : (if 0 < x2 then x2 else 0) = x2 := by split <;> omega
  have q1 := ho.1
  refine b_X6_init_0 ?_ ?_ ?_ ?_ ?_ ?_
  · exact ho.nw
  · omega
  · exact (ho.nw).st.nw
  · show sN S + 1 + 1 = x0 + 2; omega
  · rw [e1, e2]; omega
  · rw [e1, e2, hx]
    show Q none _ (zr (zr M (x0 + 1)) (sN S + 1 + 1))
    rw [hx]; exact k
theorem c_trim (L : Lay S) {laws : Bool} {T : TX} (hT : TextC laws S M 5 T) (h6 : 225 ≤ sN S) (k : ∀ S' M', GrS S S' → sN S' = sN S + 3 → sU S' ≤ sU S + 488 → TextC laws S' M' (sN S + 1) T → (∀ a i, a ≤ sN S → M' a i = M a i) → Q (some (vA (sN S + 1))) S' M') : e_X6_trimmed (d + 1) 5 S M Q := by
  obtain ⟨t1, -, t0, t3, t4, t5, t6⟩ := hT
  have n12 := t0.2.1
  have n0 := t0.1
  have eA : zr M (sN S + 1) 5 2 = tn T := (zr_ne (by omega)).trans t3
  have eB : zr M (sN S + 1) 5 3 = M 5 3 := zr_ne (by omega)
  refine b_X6_trimmed_0 t1.o.nw t1.o.nw (isO_self (by omega)) ?_
  rw [eA, eB]
  have g0 : GrS S (sNew S 6 0 4) := GrS.nw S
  refine c_newText ⟨n0, n12⟩ ⟨t4.1, t4.2.2⟩ rfl (isO_self (by omega)) ?_
  have g1 : GrS S (sSet (sNew (sSet (sNew (sNew S 6 0 4) 20 (tn T * 7) (tn T * 7)) (sN S + 1) 0) 20 (M 5 3) (M 5 3)) (sN S + 1) 1) := ((((g0.tr (GrS.nw _)).st (by omega)).tr (GrS.nw _)).st (by omega))
  have o0 : isO (sSet (sNew (sSet (sNew (sNew S 6 0 4) 20 (tn T * 7) (tn T * 7)) (sN S + 1) 0) 20 (M 5 3) (M 5 3)) (sN S + 1) 1) (sN S + 1) 6 := ((isO_self (k := 6) (S := S) (by omega)).nw.st.nw.st)
  have o1 : isO (sSet (sNew (sSet (sNew (sNew S 6 0 4) 20 (tn T * 7) (tn T * 7)) (sN S + 1) 0) 20 (M 5 3) (M 5 3)) (sN S + 1) 1) (sN S + 1 + 1) 20 := ((isO_self (k := 20) (S := sNew S 6 0 4) (by rw [sn_new]; omega)).st.nw.st)
  have o2 : isO (sSet (sNew (sSet (sNew (sNew S 6 0 4) 20 (tn T * 7) (tn T * 7)) (sN S + 1) 0) 20 (M 5 3) (M 5 3)) (sN S + 1) 1) (sN S + 1 + 2) 20 := by
    have := (isO_self (k := 20) (l := M 5 3) (u := M 5 3) (S := sSet (sNew (sNew S 6 0 4) 20 (tn T * 7) (tn T * 7)) (sN S + 1) 0) (by show 0 ≤ sN S + 1 + 1; omega)).st (b := sN S + 1) (x := 1)
    rw [show sN S + 1 + 2 = sN (sSet (sNew (sNew S 6 0 4) 20 (tn T * 7) (tn T * 7)) (sN S + 1) 0) + 1 by show _ = sN S + 1 + 1 + 1; omega]
    exact this
  have f0 : sF (sSet (sNew (sSet (sNew (sNew S 6 0 4) 20 (tn T * 7) (tn T * 7)) (sN S + 1) 0) 20 (M 5 3) (M 5 3)) (sN S + 1) 1) (sN S + 1) 0 = 1 := (sf_set (by omega)).trans ((sf_ne (by show ¬ sN S + 1 = sN S + 1 + 1 + 1; omega)).trans sf_self)
  have f1 : sF (sSet (sNew (sSet (sNew (sNew S 6 0 4) 20 (tn T * 7) (tn T * 7)) (sN S + 1) 0) 20 (M 5 3) (M 5 3)) (sN S + 1) 1) (sN S + 1) 1 = 1 := sf_self
  have l1 : sL (sSet (sNew (sSet (sNew (sNew S 6 0 4) 20 (tn T * 7) (tn T * 7)) (sN S + 1) 0) 20 (M 5 3) (M 5 3)) (sN S + 1) 1) (sN S + 1 + 1) = tn T * 7 := (sl_ne (S := sSet (sNew (sNew S 6 0 4) 20 (tn T * 7) (tn T * 7)) (sN S + 1) 0) (k := 20) (u := M 5 3) (by show ¬ sN S + 1 + 1 = sN S + 1 + 1 + 1; omega)).trans (sl_self (S := sNew S 6 0 4) (k := 20) (u := tn T * 7))
  have l2 : sL (sSet (sNew (sSet (sNew (sNew S 6 0 4) 20 (tn T * 7) (tn T * 7)) (sN S + 1) 0) 20 (M 5 3) (M 5 3)) (sN S + 1) 1) (sN S + 1 + 2) = M 5 3 := if_pos (by show sN S + 1 + 2 = sN S + 1 + 1 + 1; omega)
  have en : sN (sSet (sNew (sSet (sNew (sNew S 6 0 4) 20 (tn T * 7) (tn T * 7)) (sN S + 1) 0) 20 (M 5 3) (M 5 3)) (sN S + 1) 1) = sN S + 3 := by show sN S + 1 + 1 + 1 = _; omega
  have eu : sU (sSet (sNew (sSet (sNew (sNew S 6 0 4) 20 (tn T * 7) (tn T * 7)) (sN S + 1) 0) 20 (M 5 3) (M 5 3)) (sN S + 1) 1) ≤ sU S + 488 := by show sU S + 4 + tn T * 7 + M 5 3 ≤ _; omega
  generalize sSet (sNew (sSet (sNew (sNew S 6 0 4) 20 (tn T * 7) (tn T * 7)) (sN S + 1) 0) 20 (M 5 3) (M 5 3)) (sN S + 1) 1 = S' at *
  have b6 : sL S' (5 + 1) = sL S (5 + 1) := (g1.2 (5 + 1) (by decide) (by omega)).2.1
  have b7 : sL S' (5 + 2) = sL S (5 + 2) := (g1.2 (5 + 2) (by decide) (by omega)).2.1
  have L' := L.gr g1
  have tt5 := t1.gr g1
  refine b_X6_trimmed_15 tt5.o tt5.f0 o0 f0 o0 f0 o1 tt5.a1 o1 tt5.o tt5.f1 o0 f1 o0 f1 o2 tt5.a2 o2 tt5.o o0 tt5.o o0 (by rw [l1, l2, b6, b7]; omega) ?_
  rw [l1, l2]
  have m0 : ∀ a i, a ≤ sN S → zr (zr (zr M (sN S + 1)) (sN S + 1 + 1)) (sN S + 1 + 1 + 1) a i = M a i := fun a i q => by rw [zr_ne (by omega), zr_ne (by omega), zr_ne (by omega)]
  generalize zr (zr (zr M (sN S + 1)) (sN S + 1 + 1)) (sN S + 1 + 1 + 1) = M1 at *
  have c0 : ∀ a i, a ≤ sN S → cpy (cpy M1 (5 + 1) 0 (sN S + 1 + 1) 0 (tn T * 7)) (5 + 2) 0 (sN S + 1 + 2) 0 (M 5 3) a i = M a i := fun a i q => by rw [cpy_na (by omega), cpy_na (by omega), m0 a i q]
  have c1 : ∀ i, 0 ≤ i → i < tn T * 7 → cpy (cpy M1 (5 + 1) 0 (sN S + 1 + 1) 0 (tn T * 7)) (5 + 2) 0 (sN S + 1 + 2) 0 (M 5 3) (sN S + 1 + 1) i = M (5 + 1) i := fun i q0 q1 => by rw [cpy_na (by omega), cpy_i ⟨q0, q1⟩, m0 _ i (by omega)]
  have c2 : ∀ i, 0 ≤ i → i < M 5 3 → cpy (cpy M1 (5 + 1) 0 (sN S + 1 + 1) 0 (tn T * 7)) (5 + 2) 0 (sN S + 1 + 2) 0 (M 5 3) (sN S + 1 + 2) i = M (5 + 2) i := fun i q0 q1 => by rw [cpy_i ⟨q0, q1⟩, cpy_na (by omega), m0 _ i (by omega)]
  generalize cpy (cpy M1 (5 + 1) 0 (sN S + 1 + 1) 0 (tn T * 7)) (5 + 2) 0 (sN S + 1 + 2) 0 (M 5 3) = M2 at *
  have y2 : up (up M2 (sN S + 1) 2 (M2 5 2)) (sN S + 1) 3 (up M2 (sN S + 1) 2 (M2 5 2) 5 3) (sN S + 1) 2 = tn T := by rw [up_ni (by decide), up_s, c0 _ _ (by omega), t3]
  have y3 : up (up M2 (sN S + 1) 2 (M2 5 2)) (sN S + 1) 3 (up M2 (sN S + 1) 2 (M2 5 2) 5 3) (sN S + 1) 3 = M 5 3 := by rw [up_s, up_na (by omega), c0 _ _ (by omega)]
  have yr : ∀ a i, a ≠ sN S + 1 → up (up M2 (sN S + 1) 2 (M2 5 2)) (sN S + 1) 3 (up M2 (sN S + 1) 2 (M2 5 2) 5 3) a i = M2 a i := fun a i q => by rw [up_na q, up_na q]
  generalize up (up M2 (sN S + 1) 2 (M2 5 2)) (sN S + 1) 3 (up M2 (sN S + 1) 2 (M2 5 2) 5 3) = M3 at *
  refine k S' M3 g1 en eu ⟨⟨o0, f0, f1, o1, o2⟩, Or.inr (by omega), t0, y2, ⟨by omega, by omega, by omega⟩, by omega, fun i q0 q1 => ?_⟩ (fun a i q => by rw [yr a i (by omega), c0 a i q])
  obtain ⟨x1, x2, x3⟩ := t6 i q0 q1
  have z1 : ∀ j, 0 ≤ j → j < tn T * 7 → M3 (sN S + 1 + 1) j = M (5 + 1) j := fun j p0 p1 => by rw [yr _ _ (by omega), c1 j p0 p1]
  rw [z1 _ (by omega) (by omega), z1 _ (by omega) (by omega)]
  refine ⟨x1, x2, fun s p0 p1 => ?_⟩
  rw [z1 _ (by omega) (by omega), z1 _ (by omega) (by omega), y3]
  exact (x3 s p0 p1).congr (fun j w0 w1 => by rw [yr _ _ (by omega), c2 j w0 w1])
end TR
