/-! Public methods, both sides: pour, rack, bottle. -/
section WA2
variable {n : Int} {d : Nat} {S : mSh} {M M' : mMem} {Q : Option mV → mSh → mMem → Prop}
theorem pourW_rng (g : Int → Int) (c m : Int) : pourW g c m = 0 ∨ (-7 < pourW g c m ∧ pourW g c m < 0) := by unfold pourW; split <;> (try split) <;> (try split) <;> omega
theorem rackW_rng (T : TX) (g : Int → Int) (f t m : Int) : rackW T g f t m = 0 ∨ (-7 < rackW T g f t m ∧ rackW T g f t m < 0) := by unfold rackW; split <;> (try split) <;> (try split) <;> omega
theorem botW_rng (T : TX) (g : Int → Int) (c m : Int) : botW T g c m = 0 ∨ (-7 < botW T g c m ∧ botW T g c m < 0) := by unfold botW; split <;> (try split) <;> (try split) <;> omega
theorem t_pour {c m : Int} : TwoI n (e_X8_pour (d + 4) c m) (e_X9_pour (d + 6) c m) := fun S M h hn => by
  have L := h.lay
  obtain ⟨hh, hi⟩ := h.his
  have lf := h.lef
  refine b_X8_pour_0 L (c_startWork h hi (fun M1 t T fm wk hc hr e4 f1 => b_X8_pour_4 L (c_pourInto L wk (fun q => ?_) (fun q M2 wk2 f2 => ?_))))
  · have hv : -7 < pourW (M 202) c m ∧ pourW (M 202) c m < 0 := by rcases pourW_rng (M 202) c m with x | x <;> omega
    refine b_X8_pour_15 L (c_finB L hv (by rw [f1 _ _ (by omega)]; exact h.r99 hv) (b_X8_pour_18 ⟨_, rfl, b_X9_pour_0 L ?_⟩))
    have e2 : up (refC M1 (pourW (M 202) c m)) 200 0 0 202 = M 202 := funext fun i => by rw [up1_ne (by omega)]; unfold refC; rw [up2_ne (by omega) (by omega), f1 _ _ (by omega)]
    have hm : HistM hh (up (refC M1 (pourW (M 202) c m)) 200 0 0) := hi.1.congr (by rw [up1_ne (by omega)]; unfold refC; rw [up2_ne (by omega) (by omega), f1 _ _ (by omega)]) (fun i _ _ => by rw [up1_ne (by omega)]; unfold refC; rw [up2_ne (by omega) (by omega), f1 _ _ (by omega)]) (fun i => by rw [up1_ne (by omega)]; unfold refC; rw [up2_ne (by omega) (by omega), f1 _ _ (by omega)])
    exact s_pourNow L e2 h.ok hm (fun _ => b_X9_pour_12 L (s_nwk h hn hi hv hc (fun a i q => f1 a i (by omega)) (FrL.rf _) (fun cp => b_X9_pour_15 ⟨rfl, cp⟩))) (fun w => absurd w (by omega))
  · obtain ⟨p1, p2, p3, p4, p5⟩ := pour_ok h.ok q
    have rb : 0 ≤ (allG (addG (M 202) c m) c).tdiv 1000 := by
      have := (p5.all (h.n8 p2)).1
      exact Int.tdiv_nonneg this (by decide)
    have e55 : M2 55 2 = M1 55 2 := f2 _ _ (by omega)
    refine b_X8_pour_15 L (c_finG L (hc.congr (fun a i q0 q1 => f2 a i (by omega))) (g := M 202) (by rw [e55]; have := hc.2.2.1; exact hr.congr (fun a i q0 q1 => f2 a i (by omega))) rb (fun M3 hc3 e11 f3 => b_X8_pour_18 ⟨_, rfl, b_X9_pour_0 L ?_⟩))
    have f13 : ∀ a i, ¬ (a = 191 ∨ (195 ≤ a ∧ a ≤ 197) ∨ (55 ≤ a ∧ a ≤ 176) ∨ (9 ≤ a ∧ a ≤ 15) ∨ (a = 1 ∧ i = 11)) → M3 a i = M a i := fun a i q => by rw [f3 a i (by omega), f2 a i (by omega), f1 a i (by omega)]
    have g3 : ∀ a i, 200 ≤ a → a ≤ 225 → ¬ (a = 200 ∧ i = 0) → up M3 200 0 0 a i = M a i := fun a i q0 q1 q2 => by rw [up1_ne q2, f13 a i (by omega)]
    have e2 : up M3 200 0 0 202 = M 202 := funext fun i => g3 _ _ (by omega) (by omega) (by omega)
    have hm : HistM hh (up M3 200 0 0) := hi.1.congr (g3 _ _ (by omega) (by omega) (by omega)) (fun i _ _ => g3 _ _ (by omega) (by omega) (by omega)) (fun i => g3 _ _ (by omega) (by omega) (by omega))
    have fx : Fix (M 202) (addG (M 202) c m) := seg_fix (h.n8 p2)
    refine s_pourNow L e2 h.ok hm (fun w => absurd w (by omega)) (fun _ M4 row hm4 f4 x42 x43 => b_X9_pour_12 L (s_ywk h hn hi (kind := 0) (by decide) rb p5 ?_ fx (wk2.r.congr (fun a i q0 q1 => f3 a i (by omega))) hc3 e11 f13 row hm4 f4 ?_ ?_ (fun cp => b_X9_pour_15 ⟨rfl, cp⟩)))
    · have : addG (M 202) c m 5 = M 202 5 := seg_o (by have := p2.1; omega)
      rw [this]; exact h.y
    · rw [x42, g3 _ _ (by omega) (by omega) (by omega)]; have := lf.2.2.2.1; omega
    · rw [x43, g3 _ _ (by omega) (by omega) (by omega)]; exact lf.2.2.2.2.1
theorem t_rack {a b m : Int} : TwoI n (e_X8_rack (d + 6) a b m) (e_X9_rack (d + 11) a b m) := fun S M h hn => by
  have L := h.lay
  obtain ⟨hh, hi⟩ := h.his
  have lf := h.lef
  have b20 : M 200 20 = 0 := lf.2.2.1
  refine b_X8_rack_0 L (c_startWork h hi (fun M1 t T fm wk hc hr e4 f1 => b_X8_rack_4 L (c_rackOver L wk (fun q M2 f2 => ?_) (fun q M2 wk2 f2 _ _ => ?_))))
  · have hv : -7 < rackW T (M 202) a b m ∧ rackW T (M 202) a b m < 0 := by rcases rackW_rng T (M 202) a b m with x | x <;> omega
    have f12 : ∀ x i, ¬ (x = 191 ∨ (195 ≤ x ∧ x ≤ 197) ∨ (58 ≤ x ∧ x ≤ 176)) → M2 x i = M x i := fun x i q => by rw [f2 x i (by omega), f1 x i (by omega)]
    refine b_X8_rack_16 L (c_finB L hv (by rw [f12 _ _ (by omega)]; exact h.r99 hv) (b_X8_rack_19 ⟨_, rfl, b_X9_rack_0 L ?_⟩))
    have g3 : ∀ x i, 200 ≤ x → x ≤ 225 → ¬ (x = 200 ∧ i = 0) → up (refC M2 (rackW T (M 202) a b m)) 200 0 0 x i = M x i := fun x i q0 q1 q2 => by rw [up1_ne q2]; unfold refC; rw [up2_ne (by omega) (by omega), f12 x i (by omega)]
    have e2 : up (refC M2 (rackW T (M 202) a b m)) 200 0 0 202 = M 202 := funext fun i => g3 _ _ (by omega) (by omega) (by omega)
    have hm : HistM hh (up (refC M2 (rackW T (M 202) a b m)) 200 0 0) := hi.1.congr (g3 _ _ (by omega) (by omega) (by omega)) (fun i _ _ => g3 _ _ (by omega) (by omega) (by omega)) (fun i => g3 _ _ (by omega) (by omega) (by omega))
    exact s_rackNow L e2 h.ok (Or.inl (by rw [g3 _ _ (by omega) (by omega) (by omega)]; exact b20)) fm hm (fun _ M3 f3 => b_X9_rack_13 L (s_nwk h hn hi hv (hc.congr (fun x i q0 q1 => f2 x i (by omega))) f12 f3 (fun cp => b_X9_rack_16 ⟨rfl, cp⟩))) (fun w => absurd w (by omega))
  · obtain ⟨p1, p2, p3, p4, p5, p6, p7, p8, p9⟩ := rack_ok h.ok q
    have rb : 0 ≤ meanG (rackG (M 202) a b m) b := by
      have b8 := h.n8 p3
      have al : allG (rackG (M 202) a b m) b = allG (takG (M 202) a m) b + sm (tkG (M 202) a m) 20 := by unfold rackG putG; rw [seg_all, put_sum]
      have a0 := (p7.all b8).1
      have ts := tk_sum h.ok (h.n8 p2) p1.1 p5
      have nz : ¬ allG (rackG (M 202) a b m) b = 0 := by omega
      have mb := mean_bd p9.D b8 nz
      unfold meanG
      rw [if_neg nz]; exact mb.1
    have e55 : M2 55 2 = M1 55 2 := f2 _ _ (by omega)
    refine b_X8_rack_16 L (c_finG L (hc.congr (fun a i q0 q1 => f2 a i (by omega))) (g := M 202) (by rw [e55]; have := hc.2.2.1; exact hr.congr (fun a i q0 q1 => f2 a i (by omega))) rb (fun M3 hc3 e11 f3 => b_X8_rack_19 ⟨_, rfl, b_X9_rack_0 L ?_⟩))
    have f13 : ∀ a i, ¬ (a = 191 ∨ (195 ≤ a ∧ a ≤ 197) ∨ (55 ≤ a ∧ a ≤ 176) ∨ (9 ≤ a ∧ a ≤ 15) ∨ (a = 1 ∧ i = 11)) → M3 a i = M a i := fun a i q => by rw [f3 a i (by omega), f2 a i (by omega), f1 a i (by omega)]
    have g3 : ∀ a i, 200 ≤ a → a ≤ 225 → ¬ (a = 200 ∧ i = 0) → up M3 200 0 0 a i = M a i := fun a i q0 q1 q2 => by rw [up1_ne q2, f13 a i (by omega)]
    have e2 : up M3 200 0 0 202 = M 202 := funext fun i => g3 _ _ (by omega) (by omega) (by omega)
    have hm : HistM hh (up M3 200 0 0) := hi.1.congr (g3 _ _ (by omega) (by omega) (by omega)) (fun i _ _ => g3 _ _ (by omega) (by omega) (by omega)) (fun i => g3 _ _ (by omega) (by omega) (by omega))
    have op : opW 1 T (M 202) m a b = 0 := by unfold opW; rw [if_neg (by decide), if_pos rfl]; exact q
    have og : opG 1 T (M 202) m a b = rackG (M 202) a b m := by unfold opG; rw [if_neg (by decide), if_pos rfl]
    have fx : Fix (M 202) (rackG (M 202) a b m) := og ▸ op_fix h.ok op
    have y5 : rackG (M 202) a b m 5 = M 202 5 := og ▸ op_5 h.ok (by decide) op
    refine s_rackNow L e2 h.ok (Or.inl (by rw [g3 _ _ (by omega) (by omega) (by omega)]; exact b20)) fm hm (fun w => absurd w (by omega)) (fun _ M4 row hm4 f4 x42 x43 => b_X9_rack_13 L (s_ywk h hn hi (kind := 1) (by decide) rb p9 (by rw [y5]; exact h.y) fx (wk2.r.congr (fun a i q0 q1 => f3 a i (by omega))) hc3 e11 f13 row hm4 f4 ?_ ?_ (fun cp => b_X9_rack_16 ⟨rfl, cp⟩)))
    · rw [x42, g3 _ _ (by omega) (by omega) (by omega)]; have := lf.2.2.2.1; omega
    · rw [x43, g3 _ _ (by omega) (by omega) (by omega)]; exact lf.2.2.2.2.1
theorem t_bottle {c m : Int} : TwoI n (e_X8_bottle (d + 6) c m) (e_X9_bottle (d + 11) c m) := fun S M h hn => by
  have L := h.lay
  obtain ⟨hh, hi⟩ := h.his
  have lf := h.lef
  have nn := h.nn
  have b20 : M 200 20 = 0 := lf.2.2.1
  refine b_X8_bottle_0 L (c_startWork h hi (fun M1 t T fm wk hc hr e4 f1 => b_X8_bottle_4 L (c_bottleFrom L wk (by omega) (fun q M2 f2 => ?_) (fun q M2 wk2 f2 _ _ => ?_))))
  · have hv : -7 < botW T (M 202) c m ∧ botW T (M 202) c m < 0 := by rcases botW_rng T (M 202) c m with x | x <;> omega
    have f12 : ∀ x i, ¬ (x = 191 ∨ (195 ≤ x ∧ x ≤ 197) ∨ (58 ≤ x ∧ x ≤ 176)) → M2 x i = M x i := fun x i q => by rw [f2 x i (by omega), f1 x i (by omega)]
    refine b_X8_bottle_15 L (c_finB L hv (by rw [f12 _ _ (by omega)]; exact h.r99 hv) (b_X8_bottle_18 ⟨_, rfl, b_X9_bottle_0 L ?_⟩))
    have g3 : ∀ x i, 200 ≤ x → x ≤ 225 → ¬ (x = 200 ∧ i = 0) → up (refC M2 (botW T (M 202) c m)) 200 0 0 x i = M x i := fun x i q0 q1 q2 => by rw [up1_ne q2]; unfold refC; rw [up2_ne (by omega) (by omega), f12 x i (by omega)]
    have e2 : up (refC M2 (botW T (M 202) c m)) 200 0 0 202 = M 202 := funext fun i => g3 _ _ (by omega) (by omega) (by omega)
    have hm : HistM hh (up (refC M2 (botW T (M 202) c m)) 200 0 0) := hi.1.congr (g3 _ _ (by omega) (by omega) (by omega)) (fun i _ _ => g3 _ _ (by omega) (by omega) (by omega)) (fun i => g3 _ _ (by omega) (by omega) (by omega))
    exact s_bottleNow L e2 h.ok (Or.inl (by rw [g3 _ _ (by omega) (by omega) (by omega)]; exact b20)) fm hm (by rw [g3 _ _ (by omega) (by omega) (by omega)]; have := lf.2.2.2.1; omega) (fun _ M3 f3 => b_X9_bottle_12 L (s_nwk h hn hi hv (hc.congr (fun x i q0 q1 => f2 x i (by omega))) f12 f3 (fun cp => b_X9_bottle_15 ⟨rfl, cp⟩))) (fun w => absurd w (by omega))
  · obtain ⟨p1, p2, p3, p4, p5⟩ := bot_ok h.ok q
    obtain ⟨-, rb, rb2⟩ := bot_in h.ok q
    have e55 : M2 55 2 = M1 55 2 := f2 _ _ (by omega)
    refine b_X8_bottle_15 L (c_finG L (hc.congr (fun a i q0 q1 => f2 a i (by omega))) (g := M 202) (by rw [e55]; have := hc.2.2.1; exact hr.congr (fun a i q0 q1 => f2 a i (by omega))) rb (fun M3 hc3 e11 f3 => b_X8_bottle_18 ⟨_, rfl, b_X9_bottle_0 L ?_⟩))
    have f13 : ∀ a i, ¬ (a = 191 ∨ (195 ≤ a ∧ a ≤ 197) ∨ (55 ≤ a ∧ a ≤ 176) ∨ (9 ≤ a ∧ a ≤ 15) ∨ (a = 1 ∧ i = 11)) → M3 a i = M a i := fun a i q => by rw [f3 a i (by omega), f2 a i (by omega), f1 a i (by omega)]
    have g3 : ∀ a i, 200 ≤ a → a ≤ 225 → ¬ (a = 200 ∧ i = 0) → up M3 200 0 0 a i = M a i := fun a i q0 q1 q2 => by rw [up1_ne q2, f13 a i (by omega)]
    have e2 : up M3 200 0 0 202 = M 202 := funext fun i => g3 _ _ (by omega) (by omega) (by omega)
    have hm : HistM hh (up M3 200 0 0) := hi.1.congr (g3 _ _ (by omega) (by omega) (by omega)) (fun i _ _ => g3 _ _ (by omega) (by omega) (by omega)) (fun i => g3 _ _ (by omega) (by omega) (by omega))
    have op : opW 2 T (M 202) m c 0 = 0 := by unfold opW; rw [if_neg (by decide), if_neg (by decide), if_pos rfl]; exact q
    have og : opG 2 T (M 202) m c 0 = botG (M 202) c m := by unfold opG; rw [if_neg (by decide), if_neg (by decide), if_pos rfl]
    have fx : Fix (M 202) (botG (M 202) c m) := og ▸ op_fix h.ok op
    have y5 : botG (M 202) c m 5 = M 202 5 := og ▸ op_5 h.ok (by decide) op
    refine s_bottleNow L e2 h.ok (Or.inl (by rw [g3 _ _ (by omega) (by omega) (by omega)]; exact b20)) fm hm (by rw [g3 _ _ (by omega) (by omega) (by omega)]; have := lf.2.2.2.1; omega) (fun w => absurd w (by omega)) (fun _ M4 row hm4 f4 x42 x43 => b_X9_bottle_12 L (s_ywk h hn hi (kind := 2) (by decide) rb p5 (by rw [y5]; exact h.y) fx (wk2.r.congr (fun a i q0 q1 => f3 a i (by omega))) hc3 e11 f13 row hm4 f4 ?_ ?_ (fun cp => b_X9_bottle_15 ⟨rfl, cp⟩)))
    · rw [x42, g3 _ _ (by omega) (by omega) (by omega)]; have := lf.2.2.2.1; omega
    · rw [x43, g3 _ _ (by omega) (by omega) (by omega)]
      have := lf.2.2.2.2.1
      split <;> omega
end WA2
