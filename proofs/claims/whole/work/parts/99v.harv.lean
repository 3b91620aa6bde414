/-! Harvests, both sides. -/
def dr (s : Int) : Int := (s * 1103 + 12345).tmod 1000003
theorem dr_bd {s : Int} (h : 0 ≤ s ∧ s ≤ 1000002) : R32 (s * 1103) ∧ R32 (s * 1103 + 12345) ∧ R32 ((s * 1103 + 12345).tdiv 1000003) ∧ 0 ≤ dr s ∧ dr s ≤ 1000002 := by
  unfold dr
  rw [Int.tdiv_eq_ediv_of_nonneg (by omega), Int.tmod_eq_emod_of_nonneg (by omega)]
  omega
theorem md_bd {s k : Int} (h : 0 ≤ s) (hk : 0 < k) : 0 ≤ s.tmod k ∧ s.tmod k < k ∧ 0 ≤ s.tdiv k ∧ s.tdiv k ≤ s := ⟨Int.tmod_nonneg k h, Int.tmod_lt_of_pos s hk, Int.tdiv_nonneg h (Int.le_of_lt hk), by rw [Int.tdiv_eq_ediv_of_nonneg h]; exact Int.ediv_le_self k h⟩
abbrev HVt : Type := (Int → Int) × Int × Int
/-- a drawn work: the row behind it, what it bottles -/
def haG (TL : TX) (g : Int → Int) (how c o m : Int) : Int → Int := if how = 0 then (if pourW g c m = 0 then addG g c m else g) else if how = 1 then (if rackW TL g c o m = 0 then rackG g c o m else g) else if how = 2 then (if botW TL g c m = 0 then botG g c m else g) else g
def haY (TL : TX) (g : Int → Int) (how c m : Int) : Int := if how = 2 ∧ botW TL g c m = 0 then m else 0
def hvS (TL : TX) (σ : HVt) : HVt := (passG TL (haG TL σ.1 ((dr (dr (dr (dr σ.2.1)))).tmod 4) ((dr σ.2.1).tmod (σ.1 0)) ((dr (dr σ.2.1)).tmod (σ.1 0)) ((dr (dr (dr σ.2.1))).tmod 9 + 1)), dr (dr (dr (dr σ.2.1))), σ.2.2 + haY TL σ.1 ((dr (dr (dr (dr σ.2.1)))).tmod 4) ((dr σ.2.1).tmod (σ.1 0)) ((dr (dr (dr σ.2.1))).tmod 9 + 1))
def hvN (TL : TX) (σ : HVt) : Nat → HVt
  | 0 => σ
  | k + 1 => hvS TL (hvN TL σ k)
def HvK (g0 : Int → Int) (j : Nat) (σ : HVt) : Prop := okS σ.1 ∧ Fix g0 σ.1 ∧ (0 ≤ σ.2.1 ∧ σ.2.1 ≤ 1000002) ∧ (0 ≤ σ.2.2 ∧ σ.2.2 ≤ 9 * (j : Int)) ∧ σ.1 5 = g0 5 + (j : Int)
theorem ha_ok {TL : TX} {g : Int → Int} (ok : okS g) (how c o m : Int) : okS (haG TL g how c o m) ∧ Fix g (haG TL g how c o m) ∧ haG TL g how c o m 5 = g 5 := by
  have id0 : okS g ∧ Fix g g ∧ g 5 = g 5 := ⟨ok, Fix.rf g, rfl⟩
  unfold haG
  by_cases h0 : how = 0
  · rw [if_pos h0]
    by_cases w : pourW g c m = 0
    · rw [if_pos w]
      obtain ⟨p1, p2, p3, p4, p5⟩ := pour_ok ok w
      have c8 : 0 ≤ c ∧ c < 8 := by have := ok.n; omega
      exact ⟨p5, seg_fix c8, seg_o (by omega)⟩
    · rw [if_neg w]; exact id0
  · rw [if_neg h0]
    by_cases h1 : how = 1
    · rw [if_pos h1]
      by_cases w : rackW TL g c o m = 0
      · rw [if_pos w]
        have op : opW 1 TL g m c o = 0 := by unfold opW; rw [if_neg (by decide), if_pos rfl]; exact w
        have og : opG 1 TL g m c o = rackG g c o m := by unfold opG; rw [if_neg (by decide), if_pos rfl]
        exact ⟨og ▸ op_ok ok op, og ▸ op_fix ok op, og ▸ op_5 ok (by decide) op⟩
      · rw [if_neg w]; exact id0
    · rw [if_neg h1]
      by_cases h2 : how = 2
      · rw [if_pos h2]
        by_cases w : botW TL g c m = 0
        · rw [if_pos w]
          have op : opW 2 TL g m c 0 = 0 := by unfold opW; rw [if_neg (by decide), if_neg (by decide), if_pos rfl]; exact w
          have og : opG 2 TL g m c 0 = botG g c m := by unfold opG; rw [if_neg (by decide), if_neg (by decide), if_pos rfl]
          exact ⟨og ▸ op_ok ok op, og ▸ op_fix ok op, og ▸ op_5 ok (by decide) op⟩
        · rw [if_neg w]; exact id0
      · rw [if_neg h2]; exact id0
theorem haY_bd {TL : TX} {g : Int → Int} {how c m : Int} (hm : 1 ≤ m ∧ m ≤ 9) : 0 ≤ haY TL g how c m ∧ haY TL g how c m ≤ 9 := by unfold haY; split <;> omega
theorem HvK.s {TL : TX} {g0 : Int → Int} {j : Nat} {σ : HVt} (h : HvK g0 j σ) (h5 : σ.1 5 < 999) : HvK g0 (j + 1) (hvS TL σ) := by
  obtain ⟨h1, h2, h3, h4, h6⟩ := h
  obtain ⟨o1, o2, o3⟩ := ha_ok (TL := TL) h1 ((dr (dr (dr (dr σ.2.1)))).tmod 4) ((dr σ.2.1).tmod (σ.1 0)) ((dr (dr σ.2.1)).tmod (σ.1 0)) ((dr (dr (dr σ.2.1))).tmod 9 + 1)
  have d1 := (dr_bd h3).2.2.2
  have d2 := (dr_bd d1).2.2.2
  have d3 := (dr_bd d2).2.2.2
  have d4 := (dr_bd d3).2.2.2
  have m9 := md_bd (s := dr (dr (dr σ.2.1))) (k := 9) (by omega) (by decide)
  have yb := haY_bd (TL := TL) (g := σ.1) (how := (dr (dr (dr (dr σ.2.1)))).tmod 4) (c := (dr σ.2.1).tmod (σ.1 0)) (m := (dr (dr (dr σ.2.1))).tmod 9 + 1) (by omega)
  refine ⟨pass_ok o1 (by omega), h2.tr (o2.tr (pass_fix o1)), d4, ?_, ?_⟩
  · show 0 ≤ σ.2.2 + haY TL σ.1 _ _ _ ∧ σ.2.2 + haY TL σ.1 _ _ _ ≤ 9 * ((j + 1 : Nat) : Int)
    omega
  · show passG TL (haG TL σ.1 _ _ _ _) 5 = _
    have : passG TL (haG TL σ.1 ((dr (dr (dr (dr σ.2.1)))).tmod 4) ((dr σ.2.1).tmod (σ.1 0)) ((dr (dr σ.2.1)).tmod (σ.1 0)) ((dr (dr (dr σ.2.1))).tmod 9 + 1)) 5 = haG TL σ.1 ((dr (dr (dr (dr σ.2.1)))).tmod 4) ((dr σ.2.1).tmod (σ.1 0)) ((dr (dr σ.2.1)).tmod (σ.1 0)) ((dr (dr (dr σ.2.1))).tmod 9 + 1) 5 + 1 := upr_s _ _ _
    rw [this, o3]
    omega
section HA
variable {n : Int} {d : Nat} {S : mSh} {M M' : mMem} {Q : Option mV → mSh → mMem → Prop} {TL T : TX}
theorem c_drawAfter {s : Int} (h : 0 ≤ s ∧ s ≤ 1000002) (k : Q (some (vI (dr s))) S M) : e_X7_drawAfter d s S M Q := by
  obtain ⟨a, b, c, -⟩ := dr_bd h
  exact b_X7_drawAfter_0 ⟨a, b, c⟩ k
/-- the class's year of harvest -/
theorem c_hYear (L : Lay S) {t : Int} {g0 : Int → Int} {j : Nat} {σ : HVt} (wk : Wk S M 184 t σ.1 TL) (hk : HvK g0 j σ) (hj : j ≤ 60) (h0 : 1 ≤ σ.1 0) (h5 : σ.1 5 < 999) (h4 : M 191 4 = σ.2.2) (k : ∀ M', Wk S M' 184 t (hvS TL σ).1 TL → M' 191 4 = (hvS TL σ).2.2 → FrW 184 M M' → Q (some (vI (hvS TL σ).2.1)) S M') : e_X7_harvestYear (d + 5) σ.2.1 S M Q := by
  obtain ⟨k1, k2, k3, k4, k6⟩ := hk
  have hs := wk.s
  have e6 : M 184 6 = σ.1 0 := wk.r.n
  have d1 := (dr_bd k3).2.2.2
  have d2 := (dr_bd d1).2.2.2
  have d3 := (dr_bd d2).2.2.2
  have d4 := (dr_bd d3).2.2.2
  have m1 := md_bd (s := dr σ.2.1) (k := σ.1 0) (by omega) (by omega)
  have m2 := md_bd (s := dr (dr σ.2.1)) (k := σ.1 0) (by omega) (by omega)
  have m9 := md_bd (s := dr (dr (dr σ.2.1))) (k := 9) (by omega) (by decide)
  have m4 := md_bd (s := dr (dr (dr (dr σ.2.1)))) (k := 4) (by omega) (by decide)
  refine b_X7_harvestYear_0 (q1 := 184) wk.e1 L hs (fun _ => b_X7_harvestYear_13 (c_drawAfter k3 (b_X7_harvestYear_17 (q1 := 184) wk.e1 L hs (by rw [e6]; omega) (c_drawAfter d1 (b_X7_harvestYear_32 (q1 := 184) wk.e1 L hs (by rw [e6]; omega) (c_drawAfter d2 (b_X7_harvestYear_48 (by omega) (c_drawAfter d3 (b_X7_harvestYear_61 (by omega) ?_))))))))) (fun w => absurd w (by rw [e6]; omega))
  rw [e6]
  have k := k
  unfold hvS at k
  generalize hh : (dr (dr (dr (dr σ.2.1)))).tmod 4 = how at *
  generalize (dr σ.2.1).tmod (σ.1 0) = c at *
  generalize (dr (dr σ.2.1)).tmod (σ.1 0) = o at *
  generalize (dr (dr (dr σ.2.1))).tmod 9 = m at *
  have ok' := (ha_ok (TL := TL) k1 how c o (m + 1))
  have fin : ∀ M1, Wk S M1 184 t (haG TL σ.1 how c o (m + 1)) TL → M1 191 4 = σ.2.2 + haY TL σ.1 how c (m + 1) → FrW 184 M M1 → ∀ (Q' : Option mV → mSh → mMem → Prop), (∀ M2 r, Wk S M2 184 t (passG TL (haG TL σ.1 how c o (m + 1))) TL → M2 191 4 = σ.2.2 + haY TL σ.1 how c (m + 1) → FrW 184 M M2 → Q' (some (vI r)) S M2) → e_X7_passYear (d + 4) S M1 Q' := fun M1 w1 e1 f1 Q' k' =>
    c_passYear L w1 (by rw [ok'.2.2]; omega) (fun M2 w2 f2 e2 _ => k' M2 _ w2 (e2.trans e1) (f1.tr f2))
  obtain rfl | rfl | rfl | rfl : how = 0 ∨ how = 1 ∨ how = 2 ∨ how = 3 := by omega
  · refine b_X7_harvestYear_92 L (c_pourInto L wk (fun q => b_X7_harvestYear_99 L (fin M ?_ ?_ (FrW.rf 184 M) _ (fun M2 r w2 e2 f2 => b_X7_harvestYear_131 (k M2 w2 e2 f2)))) (fun q M1 w1 f1 => b_X7_harvestYear_99 L (fin M1 ?_ ?_ (FrW.ofS f1) _ (fun M2 r w2 e2 f2 => b_X7_harvestYear_131 (k M2 w2 e2 f2)))))
    · unfold haG; rw [if_pos rfl, if_neg (by omega)]; exact wk
    · unfold haY; rw [if_neg (by omega)]; omega
    · unfold haG; rw [if_pos rfl, if_pos q]; exact w1
    · unfold haY; rw [if_neg (by omega), f1 _ _ (by omega)]; omega
  · refine b_X7_harvestYear_103 L (c_rackOver L wk (fun q M1 f1 => b_X7_harvestYear_112 L (fin M1 ?_ ?_ (FrW.ofB f1) _ (fun M2 r w2 e2 f2 => b_X7_harvestYear_131 (k M2 w2 e2 f2)))) (fun q M1 w1 f1 e4 _ => b_X7_harvestYear_112 L (fin M1 ?_ ?_ f1 _ (fun M2 r w2 e2 f2 => b_X7_harvestYear_131 (k M2 w2 e2 f2)))))
    · unfold haG; rw [if_neg (by decide), if_pos rfl, if_neg (by omega)]; exact wk.mb f1
    · unfold haY; rw [if_neg (by omega), f1 _ _ (by omega)]; omega
    · unfold haG; rw [if_neg (by decide), if_pos rfl, if_pos q]; exact w1
    · unfold haY; rw [if_neg (by omega), e4]; omega
  · refine b_X7_harvestYear_116 L (c_bottleFrom L wk (by omega) (fun q M1 f1 => b_X7_harvestYear_123 L (fin M1 ?_ ?_ (FrW.ofB f1) _ (fun M2 r w2 e2 f2 => b_X7_harvestYear_131 (k M2 w2 e2 f2)))) (fun q M1 w1 f1 e4 _ => b_X7_harvestYear_123 L (fin M1 ?_ ?_ f1 _ (fun M2 r w2 e2 f2 => b_X7_harvestYear_131 (k M2 w2 e2 f2)))))
    · unfold haG; rw [if_neg (by decide), if_neg (by decide), if_pos rfl, if_neg (by omega)]; exact wk.mb f1
    · unfold haY; rw [if_neg (by omega), f1 _ _ (by omega)]; omega
    · unfold haG; rw [if_neg (by decide), if_neg (by decide), if_pos rfl, if_pos q]; exact w1
    · unfold haY; rw [if_pos ⟨rfl, q⟩, e4]; omega
  · refine b_X7_harvestYear_127 L (fin M ?_ ?_ (FrW.rf 184 M) _ (fun M2 r w2 e2 f2 => b_X7_harvestYear_131 (k M2 w2 e2 f2)))
    · unfold haG; rw [if_neg (by decide), if_neg (by decide), if_neg (by decide)]; exact wk
    · unfold haY; rw [if_neg (by omega)]; omega
theorem s_draw (L : Lay S) {s m : Int} (hs : M 200 52 = s) (h : 0 ≤ s ∧ s ≤ 1000002) (hm : 1 ≤ m ∧ m ≤ 100) (k : Q (some (vI ((dr s).tmod m))) S (up M 200 52 (dr s))) : e_X9_draw d m S M Q := by
  obtain ⟨a, b, c, e⟩ := dr_bd h
  have md := md_bd (s := dr s) (k := m) (by omega) (by omega)
  have e1 : (s * 1103 + 12345).tmod 1000003 = dr s := rfl
  refine b_X9_draw_0 L ?_ ?_
  · rw [hs, e1]; omega
  · rw [hs, e1, w32_id (by omega)]; exact k
/-- the reference's drawn work -/
theorem s_drawnAct (L : Lay S) {g : Int → Int} (hg : M 202 = g) (ok : okS g) (h20 : M 200 20 = 0) (hT : ForM g TL) {how c o m : Int} (hh : 0 ≤ how ∧ how ≤ 3) (h42 : 0 ≤ M 200 42 ∧ M 200 42 ≤ 1600000000) (h43 : 0 ≤ M 200 43 ∧ M 200 43 ≤ 100000000) (k : ∀ M', M' 202 = haG TL g how c o m → M' 200 42 = M 200 42 + haY TL g how c m → (0 ≤ M' 200 43 ∧ M' 200 43 ≤ 100000000) → FrY M M' → Q none S M') : e_X9_drawnAct (d + 10) how c o m S M Q := by
  subst hg
  obtain rfl | rfl | rfl | rfl : how = 0 ∨ how = 1 ∨ how = 2 ∨ how = 3 := by omega
  · refine b_X9_drawnAct_0 (fun w => absurd rfl w) (fun _ => b_X9_drawnAct_4 L (s_whyNotPour L ok (b_X9_drawnAct_11 (fun q => b_X9_drawnAct_22 (fun _ => b_X9_drawnAct_47 (fun _ => b_X9_drawnAct_70 (k M ?_ ?_ h43 (FrY.rf M))) (fun e => absurd e (by decide))) (fun e => absurd e (by decide))) (fun q => b_X9_drawnAct_14 L (s_pourIt L rfl ok q (fun M1 row f1 => b_X9_drawnAct_21 (fun _ => b_X9_drawnAct_47 (fun _ => b_X9_drawnAct_70 (k M1 ?_ ?_ ?_ (fun a i q => f1 a i (by omega)))) (fun e => absurd e (by decide))) (fun e => absurd e (by decide))))))))
    · unfold haG; rw [if_pos rfl, if_neg q]
    · unfold haY; rw [if_neg (by omega)]; omega
    · unfold haG; rw [if_pos rfl, if_pos q]; exact row
    · unfold haY; rw [if_neg (by omega), f1 _ _ (by omega)]; omega
    · rw [f1 _ _ (by omega)]; exact h43
  · refine b_X9_drawnAct_0 (fun _ => b_X9_drawnAct_22 (fun w => absurd rfl w) (fun _ => b_X9_drawnAct_27 L (s_whyNotRack L ok (Or.inl h20) hT (fun M1 f1 => ?_)))) (fun e => absurd e (by decide))
    have r1 : M1 202 = M 202 := f1.row
    refine b_X9_drawnAct_35 (fun q => b_X9_drawnAct_47 (fun _ => b_X9_drawnAct_70 (k M1 ?_ ?_ ?_ (FrY.ofL f1))) (fun e => absurd e (by decide))) (fun q => b_X9_drawnAct_38 L (s_rackIt L r1 ok q (fun M2 row f2 => b_X9_drawnAct_46 (fun _ => b_X9_drawnAct_70 (k M2 ?_ ?_ ?_ ((FrY.ofL f1).tr (fun a i q => f2 a i (by omega) (by omega))))) (fun e => absurd e (by decide)))))
    · unfold haG; rw [if_neg (by decide), if_pos rfl, if_neg q]; exact r1
    · unfold haY; rw [if_neg (by omega), f1 _ _ (by omega)]; omega
    · rw [f1 _ _ (by omega)]; exact h43
    · unfold haG; rw [if_neg (by decide), if_pos rfl, if_pos q]; exact row
    · unfold haY; rw [if_neg (by omega), f2 _ _ (by omega) (by omega), f1 _ _ (by omega)]; omega
    · rw [f2 _ _ (by omega) (by omega), f1 _ _ (by omega)]; exact h43
  · refine b_X9_drawnAct_0 (fun _ => b_X9_drawnAct_22 (fun _ => b_X9_drawnAct_47 (fun w => absurd rfl w) (fun _ => b_X9_drawnAct_52 L (s_whyNotBottle L ok (Or.inl h20) hT (fun M1 f1 => ?_)))) (fun e => absurd e (by decide))) (fun e => absurd e (by decide))
    have r1 : M1 202 = M 202 := f1.row
    have e42 : M1 200 42 = M 200 42 := f1 _ _ (by omega)
    have e43 : M1 200 43 = M 200 43 := f1 _ _ (by omega)
    refine b_X9_drawnAct_59 (fun q => b_X9_drawnAct_70 (k M1 ?_ ?_ ?_ (FrY.ofL f1))) (fun q => b_X9_drawnAct_62 L (s_bottleIt L r1 ok q (by omega) (fun M2 row f2 x42 x43 => b_X9_drawnAct_69 (k M2 ?_ ?_ ?_ ((FrY.ofL f1).tr (fun a i q => f2 a i (by omega)))))))
    · unfold haG; rw [if_neg (by decide), if_neg (by decide), if_pos rfl, if_neg q]; exact r1
    · unfold haY; rw [if_neg (fun w => q w.2), e42]; omega
    · rw [e43]; exact h43
    · unfold haG; rw [if_neg (by decide), if_neg (by decide), if_pos rfl, if_pos q]; exact row
    · unfold haY; rw [if_pos ⟨rfl, q⟩, x42, e42]
    · obtain ⟨-, b1, b2⟩ := bot_in ok q
      rw [x43, e43]; split <;> omega
  · refine b_X9_drawnAct_0 (fun _ => b_X9_drawnAct_22 (fun _ => b_X9_drawnAct_47 (fun _ => b_X9_drawnAct_70 (k M ?_ ?_ h43 (FrY.rf M))) (fun e => absurd e (by decide))) (fun e => absurd e (by decide))) (fun e => absurd e (by decide))
    · unfold haG; rw [if_neg (by decide), if_neg (by decide), if_neg (by decide)]
    · unfold haY; rw [if_neg (by omega)]; omega
end HA
