/-! The reference's evaluation of code. -/
def factG (g : Int → Int) (op c : Int) : Int := if ¬ (0 ≤ c ∧ c < g 0) then -1 else if op = 5 then (allG g c).tdiv 1000 else if op = 6 then (roomG g c).tdiv 1000 else wmG g c
def cdM (M : mMem) : Int → Int × Int := fun k => if M 200 20 = 0 then (M 202 (M 200 34 + 98 + 2 * k), M 202 (M 200 34 + 98 + 2 * k + 1)) else (M 211 k, M 212 k)
def EnvM (w : Env) (M : mMem) : Prop := (M 200 20 = 0 ∧ (∀ op a, 1 ≤ op → op ≤ 7 → M 218 op = w op a) ∧ 3990 ≤ M 200 34 ∧ M 200 34 ≤ 8490) ∨
  (¬ M 200 20 = 0 ∧ (∀ op a, 1 ≤ op → op ≤ 4 → M 219 op = w op a) ∧ okS (M 202) ∧ ∀ op c, 5 ≤ op → op ≤ 7 → 0 ≤ c → c ≤ 7 → factG (M 202) op c = w op c)
/-- the cells that an evaluation writes -/
def FrE (M M' : mMem) : Prop := ∀ a i, ¬ (a = 220 ∨ (a = 200 ∧ i = 38)) → M' a i = M a i
theorem FrE.rf (M : mMem) : FrE M M := fun _ _ _ => rfl
theorem FrE.tr {M M' M'' : mMem} (h : FrE M M') (h' : FrE M' M'') : FrE M M'' := fun a i q => (h' a i q).trans (h a i q)
theorem FrE.cd {M M' : mMem} (h : FrE M M') : cdM M' = cdM M := by
  funext k; unfold cdM
  rw [h 200 20 (by decide), h 200 34 (by decide), h _ _ (by omega), h _ _ (by omega), h _ _ (by omega), h _ _ (by omega)]
theorem FrE.row {M M' : mMem} (h : FrE M M') : M' 202 = M 202 := funext fun i => h 202 i (by omega)
theorem FrE.env {w : Env} {M M' : mMem} (h : FrE M M') (e : EnvM w M) : EnvM w M' := by
  unfold EnvM
  rw [h.row, h 200 20 (by decide), h 200 34 (by decide)]
  rcases e with ⟨e1, e2, e3⟩ | ⟨e1, e2, e3⟩
  · exact Or.inl ⟨e1, fun op a q0 q1 => by rw [h 218 op (by omega)]; exact e2 op a q0 q1, e3⟩
  · exact Or.inr ⟨e1, fun op a q0 q1 => by rw [h 219 op (by omega)]; exact e2 op a q0 q1, e3⟩
section ME
variable {d : Nat} {S : mSh} {M : mMem} {Q : Option mV → mSh → mMem → Prop}
theorem s_factOf (L : Lay S) (ok : okS (M 202)) {op c : Int} (ho : 5 ≤ op ∧ op ≤ 7) (hc : 0 ≤ c ∧ c ≤ 7) (k : Q (some (vL (factG (M 202) op c))) S M) : e_X9_factOf (d + 4) op c S M Q := by
  have hc8 : 0 ≤ c ∧ c < 8 := by omega
  unfold factG at k
  refine b_X9_factOf_0 L (s_isCask L ok.n (fun h => b_X9_factOf_5 (fun _ => ?_) (fun e => absurd e (by decide))) (fun h => b_X9_factOf_5 (fun e => absurd rfl e) (fun _ => b_X9_factOf_8 ?_)))
  · rw [if_neg (fun q => q h)] at k
    refine b_X9_factOf_12 (fun h5 => ?_) (fun h5 => b_X9_factOf_17 L (s_allOf L ok.D hc8 (b_X9_factOf_22 ?_ ?_)))
    · rw [if_neg h5] at k
      refine b_X9_factOf_30 (fun h6 => ?_) (fun h6 => b_X9_factOf_36 L (s_roomOf L ok.D hc8 (ok.z hc8) (b_X9_factOf_41 ?_ ?_)))
      · rw [if_neg h6] at k
        exact b_X9_factOf_49 L (s_wholeMean L ok.D hc8 (b_X9_factOf_54 k))
      · have := div_bd (y := 1000) (k := 999) (ok.room hc8).1 (by decide) (by have := ok.room hc8; omega); omega
      · rw [if_pos h6] at k; exact k
    · have := div_bd (y := 1000) (k := 999) (ok.all hc8).1 (by decide) (by have := ok.all hc8; omega); omega
    · rw [if_pos h5] at k; exact k
  · rw [if_pos h] at k; exact k
theorem s_reckon (L : Lay S) {op a b : Int} (ho : 20 ≤ op ∧ op < 28) (ha : -1000000000 ≤ a ∧ a ≤ 1000000000) (hb : -1000000000 ≤ b ∧ b ≤ 1000000000) (h38 : M 200 38 = 0)
    (k : ∀ M', (∀ a i, ¬ (a = 200 ∧ i = 38) → M' a i = M a i) → (M' 200 38 = if (op = 23 ∨ op = 24) ∧ b = 0 then 1 else 0) → Q (some (vL (if (op = 23 ∨ op = 24) ∧ b = 0 then 0 else rkv op a b))) S M') : e_X9_reckon d op a b S M Q := by
  have hmul : -1000000000000000000 ≤ a * b ∧ a * b ≤ 1000000000000000000 := by
    have h1 : (a * b).natAbs ≤ 1000000000 * 1000000000 := by rw [Int.natAbs_mul]; exact Nat.mul_le_mul (by omega) (by omega)
    omega
  have hdiv : b ≠ 0 → -1000000000 ≤ a.tdiv b ∧ a.tdiv b ≤ 1000000000 := fun _ => by
    have h1 : (a.tdiv b).natAbs ≤ a.natAbs := by rw [Int.natAbs_tdiv]; exact Nat.div_le_self _ _
    omega
  refine b_X9_reckon_0 ?_
  have ho8 : op = 20 ∨ op = 21 ∨ op = 22 ∨ op = 23 ∨ op = 24 ∨ op = 25 ∨ op = 26 ∨ op = 27 := by omega
  rcases ho8 with rfl | rfl | rfl | rfl | rfl | rfl | rfl | rfl
  · exact b_X9_reckon_44 (by omega) (k M (fun _ _ _ => rfl) h38)
  · exact b_X9_reckon_49 (by omega) (k M (fun _ _ _ => rfl) h38)
  · exact b_X9_reckon_54 (by omega) (k M (fun _ _ _ => rfl) h38)
  · refine b_X9_reckon_59 (fun hz => b_X9_reckon_71 L ⟨hz, by have := hdiv hz; omega⟩ ?_) (fun hz => b_X9_reckon_67 L ?_)
    · have := k (up M 200 38 0) (fun a i q => by by_cases e : a = 200; exact up_ni (fun e2 => q ⟨e, e2⟩); exact up_na e) (by rw [up_s, if_neg (fun q => hz q.2)])
      rw [if_neg (fun q => hz q.2)] at this; exact this
    · have := k (up M 200 38 1) (fun a i q => by by_cases e : a = 200; exact up_ni (fun e2 => q ⟨e, e2⟩); exact up_na e) (by rw [up_s, if_pos ⟨Or.inl rfl, hz⟩])
      rw [if_pos ⟨Or.inl rfl, hz⟩] at this; exact this
  · refine b_X9_reckon_91 (fun hz => b_X9_reckon_103 L ⟨hz, by have := hdiv hz; omega⟩ ?_) (fun hz => b_X9_reckon_99 L ?_)
    · have := k (up M 200 38 0) (fun a i q => by by_cases e : a = 200; exact up_ni (fun e2 => q ⟨e, e2⟩); exact up_na e) (by rw [up_s, if_neg (fun q => hz q.2)])
      rw [if_neg (fun q => hz q.2)] at this; exact this
    · have := k (up M 200 38 1) (fun a i q => by by_cases e : a = 200; exact up_ni (fun e2 => q ⟨e, e2⟩); exact up_na e) (by rw [up_s, if_pos ⟨Or.inr rfl, hz⟩])
      rw [if_pos ⟨Or.inr rfl, hz⟩] at this; exact this
  · have kk := k M (fun _ _ _ => rfl) h38
    refine b_X9_reckon_123 (fun hz => b_X9_reckon_134 ?_) (fun hz => b_X9_reckon_130 ?_)
    · have e : (if ((25 : Int) = 23 ∨ (25 : Int) = 24) ∧ b = 0 then 0 else rkv 25 a b) = 0 := by rw [if_neg (by omega)]; unfold rkv; simp; omega
      rw [e] at kk; exact kk
    · have e : (if ((25 : Int) = 23 ∨ (25 : Int) = 24) ∧ b = 0 then 0 else rkv 25 a b) = 1 := by rw [if_neg (by omega)]; unfold rkv; simp; omega
      rw [e] at kk; exact kk
  · have kk := k M (fun _ _ _ => rfl) h38
    refine b_X9_reckon_136 (fun hz => b_X9_reckon_147 ?_) (fun hz => b_X9_reckon_143 ?_)
    · have e : (if ((26 : Int) = 23 ∨ (26 : Int) = 24) ∧ b = 0 then 0 else rkv 26 a b) = 0 := by rw [if_neg (by omega)]; unfold rkv; simp; omega
      rw [e] at kk; exact kk
    · have e : (if ((26 : Int) = 23 ∨ (26 : Int) = 24) ∧ b = 0 then 0 else rkv 26 a b) = 1 := by rw [if_neg (by omega)]; unfold rkv; simp; omega
      rw [e] at kk; exact kk
  · have kk := k M (fun _ _ _ => rfl) h38
    refine b_X9_reckon_149 (fun hz => b_X9_reckon_160 ?_) (fun hz => b_X9_reckon_156 ?_)
    · have e : (if ((27 : Int) = 23 ∨ (27 : Int) = 24) ∧ b = 0 then 0 else rkv 27 a b) = 0 := by rw [if_neg (by omega)]; unfold rkv; simp; omega
      rw [e] at kk; exact kk
    · have e : (if ((27 : Int) = 23 ∨ (27 : Int) = 24) ∧ b = 0 then 0 else rkv 27 a b) = 1 := by rw [if_neg (by omega)]; unfold rkv; simp; omega
      rw [e] at kk; exact kk
/-- an instruction of the code is fetched -/
theorem s_fetch (L : Lay S) {w : Env} (he : EnvM w M) (h38 : M 200 38 = 0) {x1 l n i : Int} {u5 u6 : mV} (hi : 0 ≤ i ∧ i < l ∧ l ≤ 400)
    (kl : (cdM M i).1 < 20 → WP PR d 194 107 [vA 200, vI x1, vI l, vI n, vI (i + 1), vI (cdM M i).1, vI (cdM M i).2] [] S M Q)
    (ko : 20 ≤ (cdM M i).1 → WP PR d 194 171 [vA 200, vI x1, vI l, vI n, vI (i + 1), vI (cdM M i).1, vI (cdM M i).2] [] S M Q) : WP PR d 194 10 [vA 200, vI x1, vI l, vI n, vI i, u5, u6] [] S M Q := by
  refine b_X9_reckonAll_10 (fun h => absurd h (by omega)) (fun _ => b_X9_reckonAll_16 L (fun h => absurd h38 h) (fun _ => ?_))
  unfold cdM at kl ko
  rcases he with ⟨e0, -, e2, e3⟩ | ⟨e0, -⟩
  · rw [if_pos e0] at kl ko
    exact b_X9_reckonAll_23 L (fun _ => b_X9_reckonAll_40 L (by omega) (fun _ => b_X9_reckonAll_76 L (by omega) ko kl) (fun h => absurd e0 h)) (fun h => absurd e0 h)
  · rw [if_neg e0] at kl ko
    exact b_X9_reckonAll_23 L (fun h => absurd h e0) (fun _ => b_X9_reckonAll_30 L (by omega) (fun h => absurd h e0) (fun _ => b_X9_reckonAll_66 L (by omega) ko kl))
theorem s_leaf (L : Lay S) {w : Env} (he : EnvM w M) {x1 l n i op a : Int} (hl : okL op a) (hn : 0 ≤ n ∧ n < 400)
    (k : ∀ u5 u6, WP PR (d + 5) 194 10 [vA 200, vI x1, vI l, vI (n + 1), vI i, u5, u6] [] S (up M 220 n (if op = 0 then a else w op a)) Q) : WP PR (d + 5) 194 107 [vA 200, vI x1, vI l, vI n, vI i, vI op, vI a] [] S M Q := by
  obtain ⟨h0, h1, h2, h3⟩ := hl
  have l220 := ll220 L
  refine b_X9_reckonAll_107 L (fun hz => ?_) (fun hz => b_X9_reckonAll_117 (lo220 L) (by rw [l220]; omega) ?_)
  · rw [if_neg hz] at k
    rcases he with ⟨e0, e1, -⟩ | ⟨e0, e1, e2, e3⟩
    · refine b_X9_reckonAll_123 L (fun h => absurd e0 h) (fun _ => b_X9_reckonAll_130 L (lo220 L) (by rw [l220]; omega) ?_)
      rw [e1 op a (by omega) h1]; exact k _ _
    · refine b_X9_reckonAll_123 L (fun _ => b_X9_reckonAll_140 (fun h5 => ?_) (fun h5 => ?_)) (fun h => absurd h e0)
      · refine b_X9_reckonAll_156 L (s_factOf L e2 (by omega) (h3 (by omega)) ?_)
        refine b_X9_reckonAll_164 (lo220 L) (by rw [l220]; omega) ?_
        rw [e3 op a h5 h1 (h3 (by omega)).1 (h3 (by omega)).2]; exact k _ _
      · refine b_X9_reckonAll_146 L (lo220 L) (by rw [l220]; omega) ?_
        rw [e1 op a (by omega) (by omega)]; exact k _ _
  · rw [if_pos hz] at k; exact k _ _
end ME
