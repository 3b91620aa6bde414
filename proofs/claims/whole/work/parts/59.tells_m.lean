/-! Texts; what a law tells of a cask; the reference's part of it. -/
abbrev TX : Type := Int × (Int → Int) × (Int → Int) × (Int → Int → Option Den)
def tn (T : TX) : Int := T.1
def tk (T : TX) (i : Int) : Int := T.2.1 i
def tt (T : TX) (i : Int) : Int := T.2.2.1 i
def ts (T : TX) (i s : Int) : Option Den := T.2.2.2 i s
def tstO (o : Option Den) (w : Env) : Bool := match o with
  | none => true
  | some D => decide (D w = some 1)
def valO (o : Option Den) (w : Env) : Option Int := match o with
  | none => some 1
  | some D => D w
def hold (T : TX) (i head : Int) (w : Env) : Option Int := if tk T i = head ∧ tstO (ts T i 3) w = true then valO (ts T i 0) w else none
def tlN (T : TX) (head : Int) (w : Env) (wo : Int) : Nat → Int
  | 0 => wo
  | n + 1 => match hold T (n : Int) head w with
    | some v => v
    | none => tlN T head w wo n
def tl (T : TX) (head : Int) (w : Env) (wo i : Int) : Int := tlN T head w wo i.toNat
theorem tl_0 (T : TX) (head : Int) (w : Env) (wo : Int) : tl T head w wo 0 = wo := rfl
theorem tl_s (T : TX) (head : Int) (w : Env) (wo : Int) {i : Int} (h : 0 ≤ i) : tl T head w wo (i + 1) = match hold T i head w with
    | some v => v
    | none => tl T head w wo i := by
  unfold tl
  have e : (i + 1).toNat = i.toNat + 1 := by omega
  have e2 : ((i.toNat : Nat) : Int) = i := by omega
  rw [e, tlN, e2]
def tellT (T : TX) (head : Int) (w : Env) (wo : Int) : Int := tl T head w wo (tn T)
/-- a law, by its words: of a bars no sum, of others one; tests are so or not -/
def okTx (T : TX) : Prop := 0 ≤ tn T ∧ tn T ≤ 12 ∧ ∀ i, 0 ≤ i → i < tn T → ∀ D, ts T i 3 = some D → isB D
def okTL (T : TX) : Prop := okTx T ∧ ∀ i, 0 ≤ i → i < tn T → 0 ≤ tk T i ∧ tk T i ≤ 2 ∧ (tk T i = 2 ↔ ts T i 0 = none)
def SecM (cd : Int → Int × Int) (i j : Int) (o : Option Den) : Prop := match o with
  | none => i = j
  | some D => 0 ≤ i ∧ j ≤ 400 ∧ ∃ p, p ≤ 50 ∧ SegM cd i j p D
def cdL (r : Int → Int) (b : Int) : Int → Int × Int := fun k => (r (b + 98 + 2 * k), r (b + 98 + 2 * k + 1))
def LawM (r : Int → Int) (b : Int) (T : TX) : Prop := okTL T ∧ r (b + 1) = tn T ∧ ∀ i, 0 ≤ i → i < tn T → r (b + 2 + 8 * i) = tk T i ∧ SecM (cdL r b) (r (b + 2 + 8 * i + 3)) (r (b + 2 + 8 * i + 4)) (ts T i 0) ∧ SecM (cdL r b) (r (b + 2 + 8 * i + 5)) (r (b + 2 + 8 * i + 6)) (ts T i 3)
/-- the law in force -/
def ForM (r : Int → Int) (T : TX) : Prop := (r 4 = -1 ∧ tn T = 0 ∧ okTL T) ∨ (0 ≤ r 4 ∧ r 4 ≤ 5 ∧ LawM r (3990 + 900 * r 4) T)
theorem ForM.ok {r : Int → Int} {T : TX} (h : ForM r T) : okTL T := by
  rcases h with h | h
  · exact h.2.2
  · exact h.2.2.1
def wL (g : Int → Int) (c : Int) : Env := fun op _ => if op = 1 then c else if op = 2 then g (170 + c) else if op = 3 then g (178 + c) else if op = 4 then (allG g c).tdiv 1000 else if op = 5 then wmG g c else if op = 6 then g 5 else g 7
theorem wm_bd {g : Int → Int} (ok : okS g) {c : Int} (hc : 0 ≤ c ∧ c < 8) : -1 ≤ wmG g c ∧ wmG g c ≤ 19 := by
  unfold wmG
  by_cases hz : allG g c = 0
  · rw [if_pos hz]; omega
  · rw [if_neg hz]
    have hm := mean_bd ok.D hc hz
    have := div_bd (y := 1000) (k := 19) hm.1 (by decide) (by omega)
    omega
theorem wL_bd {g : Int → Int} (ok : okS g) {c : Int} (hc : 0 ≤ c ∧ c < 8) : bdW (wL g c) := by
  intro op a h0 h1 _ _
  have h2 := ok.t hc
  have h3 := ok.z hc
  have h4 := div_bd (y := 1000) (k := 999) (ok.all hc).1 (by decide) (by have := ok.all hc; omega)
  have h5 := wm_bd ok hc
  have h6 := ok.y
  have h7 := ok.m
  unfold wL
  split
  · omega
  · split
    · omega
    · split
      · omega
      · split
        · omega
        · split
          · omega
          · split <;> omega
/-- the cells that a law's telling writes -/
def FrL (M M' : mMem) : Prop := ∀ a i, ¬ (a = 220 ∨ a = 218 ∨ (a = 200 ∧ (i = 38 ∨ i = 39 ∨ i = 40 ∨ i = 34))) → M' a i = M a i
theorem FrL.rf (M : mMem) : FrL M M := fun _ _ _ => rfl
theorem FrL.tr {M M' M'' : mMem} (h : FrL M M') (h' : FrL M' M'') : FrL M M'' := fun a i q => (h' a i q).trans (h a i q)
theorem FrL.row {M M' : mMem} (h : FrL M M') : M' 202 = M 202 := funext fun i => h 202 i (by omega)
section MT
variable {d : Nat} {S : mSh} {M : mMem} {Q : Option mV → mSh → mMem → Prop}
theorem cdM_L (h0 : M 200 20 = 0) : cdM M = cdL (M 202) (M 200 34) := by
  funext k; unfold cdM cdL; rw [if_pos h0]
theorem s_isSo (L : Lay S) {w : Env} (hw : bdW w) (he : EnvM w M) (h0 : M 200 20 = 0) {T : TX} (hT : LawM (M 202) (M 200 34) T) {i : Int} (hi : 0 ≤ i ∧ i < tn T)
    (k1 : ∀ M' v, (∀ a i, ¬ (a = 220 ∨ (a = 200 ∧ (i = 38 ∨ i = 39 ∨ i = 40))) → M' a i = M a i) → hold T i (tk T i) w = some v → (tk T i = 2 → v = 1) → (¬ tk T i = 2 → M' 200 40 = v) → Q (some (vI 1)) S M')
    (k0 : ∀ M', (∀ a i, ¬ (a = 220 ∨ (a = 200 ∧ (i = 38 ∨ i = 39 ∨ i = 40))) → M' a i = M a i) → hold T i (tk T i) w = none → Q (some (vI 0)) S M') : e_X9_isSo (d + 6) (M 200 34 + 2 + 8 * i) S M Q := by
  have hlaw : 3990 ≤ M 200 34 ∧ M 200 34 ≤ 8490 := by
    rcases he with h | h
    · exact h.2.2
    · exact absurd h0 h.1
  obtain ⟨⟨⟨hn0, hn1, hB⟩, hK⟩, -, hc⟩ := hT
  obtain ⟨c0, c1, c3⟩ := hc i hi.1 hi.2
  obtain ⟨k0', k1', k2'⟩ := hK i hi.1 hi.2
  generalize hb : M 200 34 + 2 + 8 * i = b at c0 c1 c3 ⊢
  have hbb : 3992 ≤ b ∧ b ≤ 8580 := by omega
  -- the second half: the sum
  have half : ∀ (M1 : mMem), (∀ a i, ¬ (a = 220 ∨ (a = 200 ∧ (i = 38 ∨ i = 39))) → M1 a i = M a i) → tstO (ts T i 3) w = true → WP PR (d + 6) 195 59 [vA 200, vI b] [] S M1 Q := by
    intro M1 f1 ht
    have r1 : M1 202 = M 202 := funext fun x => f1 202 x (by omega)
    have cdE : cdM M1 = cdM M := by
      funext x; unfold cdM
      rw [f1 200 20 (by decide), f1 200 34 (by decide), f1 _ _ (by omega), f1 _ _ (by omega), f1 _ _ (by omega), f1 _ _ (by omega)]
    have envE : EnvM w M1 := by
      unfold EnvM
      rw [r1, f1 200 20 (by decide), f1 200 34 (by decide)]
      rcases he with ⟨e1, e2, e3⟩ | ⟨e1, e2, e3⟩
      · exact Or.inl ⟨e1, fun op a q0 q1 => by rw [f1 218 op (by omega)]; exact e2 op a q0 q1, e3⟩
      · exact absurd h0 e1
    have hh : hold T i (tk T i) w = valO (ts T i 0) w := by unfold hold; rw [if_pos ⟨rfl, ht⟩]
    refine b_X9_isSo_59 L (by omega) ?_ ?_
    · rw [r1, c0]
      intro h2
      refine b_X9_isSo_110 (k1 M1 1 (fun a i q => f1 a i (by omega)) ?_ (fun _ => rfl) (fun h => absurd h2 h))
      rw [hh, k2'.mp h2]; rfl
    · rw [r1, c0]
      intro h2
      cases hs : ts T i 0 with
      | none => exact absurd (k2'.mpr hs) h2
      | some D =>
        rw [hs] at c1
        obtain ⟨a0, a1, p, hp, hseg⟩ := c1
        rw [hs] at hh
        refine b_X9_isSo_69 L (by omega) ?_
        rw [r1]
        rw [← cdM_L h0, ← cdE] at hseg
        refine s_reckonAll L hw envE hseg a0 a1 (by omega) (fun M2 f2 g2 n2 => ?_)
        have f3 : ∀ (v : Int) (a i : Int), ¬ (a = 220 ∨ (a = 200 ∧ (i = 38 ∨ i = 39 ∨ i = 40))) → up M2 200 40 v a i = M a i := fun v a i q => by
          by_cases e2 : a = 200
          · rw [up_ni (by omega), f2 a i (by omega), f1 a i (by omega)]
          · rw [up_na e2, f2 a i (by omega), f1 a i (by omega)]
        cases hv : D w with
        | none =>
          have := n2 hv
          refine b_X9_isSo_89 L (fun _ => b_X9_isSo_108 (k0 _ (f3 _) ?_)) (fun h => absurd h (by omega))
          rw [hh]; exact hv
        | some v =>
          have := g2 v hv
          refine b_X9_isSo_89 L (fun h => absurd this.1 h) (fun _ => b_X9_isSo_104 (k1 _ v (f3 _) ?_ (fun h => absurd h h2) (fun _ => ?_)))
          · rw [hh]; exact hv
          · rw [up_s]; exact this.2
  cases h3 : ts T i 3 with
  | none =>
    rw [h3] at c3
    have c3 : M 202 (b + 5) = M 202 (b + 6) := c3
    exact b_X9_isSo_0 L (by omega) (fun _ => half M (fun _ _ _ => rfl) (by rw [h3]; rfl)) (fun h => absurd h (by omega))
  | some D =>
    rw [h3] at c3
    obtain ⟨a0, a1, p, hp, hseg⟩ := c3
    have hlt := hseg.lt
    refine b_X9_isSo_0 L (by omega) (fun h => absurd h (by omega)) (fun _ => b_X9_isSo_20 L (by omega) ?_)
    rw [← cdM_L h0] at hseg
    refine s_reckonAll L hw he hseg a0 a1 (by omega) (fun M2 f2 g2 n2 => ?_)
    have hno : ∀ v, D w = some v → v = 0 ∨ v = 1 := hB i hi.1 hi.2 D h3 w
    have nh : ¬ D w = some 1 → hold T i (tk T i) w = none := fun q => by
      unfold hold; rw [h3]; rw [if_neg (fun e => q (by simpa [tstO] using e.2))]
    cases hv : D w with
    | none =>
      have := n2 hv
      exact b_X9_isSo_41 L (fun _ => b_X9_isSo_57 (k0 _ (fun a i q => f2 a i (by omega)) (nh (by rw [hv]; exact fun e => by cases e)))) (fun h => absurd h (by omega))
    | some v =>
      have := g2 v hv
      refine b_X9_isSo_41 L (fun h => absurd this.1 h) (fun _ => b_X9_isSo_48 L ?_ ?_)
      · rw [this.2]
        intro hz
        refine half M2 f2 ?_
        rw [h3]
        have : v = 1 := by have := hno v hv; omega
        rw [this] at hv
        simp [tstO, hv]
      · rw [this.2]
        intro hz
        refine b_X9_isSo_57 (k0 _ (fun a i q => f2 a i (by omega)) (nh (by rw [hv, hz]; exact fun e => by cases e)))
set_option maxHeartbeats 1000000 in
theorem s_tells (L : Lay S) (ok : okS (M 202)) (h20 : M 200 20 = 0 ∨ M 200 20 = 1) {T : TX} (hT : ForM (M 202) T) {c head wo : Int} (hc : 0 ≤ c ∧ c < 8)
    (k : ∀ M', FrL M M' → Q (some (vL (tellT T head (wL (M 202) c) wo))) S M') : e_X9_tells (d + 7) head c wo S M Q := by
  have hw := wL_bd ok hc
  rcases hT with ⟨hf, hn, -⟩ | ⟨hf0, hf1, hT⟩
  · refine b_X9_tells_0 L (fun h => absurd hf h) (fun _ => b_X9_tells_10 ?_)
    have := k M (FrL.rf M)
    unfold tellT at this; rw [hn, tl_0] at this; exact this
  · refine b_X9_tells_0 L (fun _ => b_X9_tells_12 L (by omega) ?_) (fun h => absurd h (by omega))
    generalize hM1 : up (up (up (up (up M 200 20 0) 200 34 (3990 + 900 * M 202 4)) 218 1 c) 218 2 (M 202 (170 + c))) 218 3 (M 202 (178 + c)) = M1
    have r1 : M1 202 = M 202 := by rw [← hM1]; funext x; rw [up_na (by decide), up_na (by decide), up_na (by decide), up_na (by decide), up_na (by decide)]
    refine s_allOf L (by rw [r1]; exact ok.D) hc ?_
    have l218 := ll218 L
    have h4 := div_bd (y := 1000) (k := 999) (ok.all hc).1 (by decide) (by have := ok.all hc; omega)
    rw [r1]
    refine b_X9_tells_93 L (lo218 L) (by rw [l218]; omega) ?_
    have r2 : ∀ v, up M1 218 4 v 202 = M 202 := fun v => by rw [← r1]; exact funext fun x => up_na (by decide)
    refine s_wholeMean L (by rw [r2]; exact ok.D) hc ?_
    rw [r2]
    refine b_X9_tells_109 L (lo218 L) (by rw [l218]; omega) ?_
    have r3 : ∀ v v' i, up (up M1 218 4 v) 218 5 v' 202 i = M 202 i := fun v v' i => by rw [up_na (by decide), r2]
    rw [r3, r3]
    generalize hM2 : up (up (up (up M1 218 4 ((allG (M 202) c).tdiv 1000)) 218 5 (wmG (M 202) c)) 218 6 (M 202 5)) 218 7 (M 202 7) = M2
    have rr : M2 202 = M 202 := by rw [← hM2]; funext x; rw [up_na (by decide), up_na (by decide), up_na (by decide), up_na (by decide), r1]
    have f2 : ∀ a i, ¬ (a = 218 ∨ (a = 200 ∧ (i = 20 ∨ i = 34))) → M2 a i = M a i := fun a i q => by
      rw [← hM2, up_na (by omega), up_na (by omega), up_na (by omega), up_na (by omega), ← hM1, up_na (by omega), up_na (by omega), up_na (by omega)]
      by_cases e2 : a = 200
      · rw [up_ni (by omega), up_ni (by omega)]
      · rw [up_na e2, up_na e2]
    have e20 : M2 200 20 = 0 := by rw [← hM2, up_na (by decide), up_na (by decide), up_na (by decide), up_na (by decide), ← hM1, up_na (by decide), up_na (by decide), up_na (by decide), up_ni (by decide), up_s]
    have e34 : M2 200 34 = 3990 + 900 * M 202 4 := by rw [← hM2, up_na (by decide), up_na (by decide), up_na (by decide), up_na (by decide), ← hM1, up_na (by decide), up_na (by decide), up_na (by decide), up_s]
    have env : EnvM (wL (M 202) c) M2 := by
      refine Or.inl ⟨e20, fun op a q0 q1 => ?_, by omega, by omega⟩
      have q8 : op = 1 ∨ op = 2 ∨ op = 3 ∨ op = 4 ∨ op = 5 ∨ op = 6 ∨ op = 7 := by omega
      rw [← hM2]
      rcases q8 with rfl | rfl | rfl | rfl | rfl | rfl | rfl
      · rw [up_ni (by decide), up_ni (by decide), up_ni (by decide), up_ni (by decide), ← hM1, up_ni (by decide), up_ni (by decide), up_s]; rfl
      · rw [up_ni (by decide), up_ni (by decide), up_ni (by decide), up_ni (by decide), ← hM1, up_ni (by decide), up_s]; rfl
      · rw [up_ni (by decide), up_ni (by decide), up_ni (by decide), up_ni (by decide), ← hM1, up_s]; rfl
      · rw [up_ni (by decide), up_ni (by decide), up_ni (by decide), up_s]; rfl
      · rw [up_ni (by decide), up_ni (by decide), up_s]; rfl
      · rw [up_ni (by decide), up_s]; rfl
      · rw [up_s]; rfl
    have hok := hT.1
    have hn0 := hok.1.1
    have hn12 := hok.1.2.1
    have key := for_up (W := fun i => ∀ (M3 : mMem) (u9 : mV), (∀ a i, ¬ (a = 220 ∨ (a = 200 ∧ (i = 38 ∨ i = 39 ∨ i = 40))) → M3 a i = M2 a i) → WP PR (d + 7) 196 146 [vA 200, vI head, vI c, vL wo, vU, vI (M 200 20), vL (tl T head (wL (M 202) c) wo i), vU, vI i, u9] [] S M3 Q) (lo := 0) (hi := tn T) hn0 ?_ ?_
    · exact key M2 vU (fun _ _ _ => rfl)
    · intro M3 u9 f3
      have r3 : M3 202 = M 202 := by rw [← rr]; exact funext fun x => f3 202 x (by omega)
      have e34' : M3 200 34 = 3990 + 900 * M 202 4 := by rw [f3 200 34 (by decide), e34]
      have en := hT.2.1
      refine b_X9_tells_146 L (by omega) (fun _ => b_X9_tells_217 L h20 (k _ (fun a i q => ?_))) ?_
      · by_cases e2 : a = 200
        · by_cases e3 : i = 20
          · subst e2 e3; rw [up_s]
          · rw [up_ni e3, f3 a i (by omega), f2 a i (by omega)]
        · rw [up_na e2, f3 a i (by omega), f2 a i (by omega)]
      · rw [r3, e34', en]; intro h; omega
    · intro i h0 h1 ih M3 u9 f3
      have r3 : M3 202 = M 202 := by rw [← rr]; exact funext fun x => f3 202 x (by omega)
      have e34' : M3 200 34 = 3990 + 900 * M 202 4 := by rw [f3 200 34 (by decide), e34]
      have e20' : M3 200 20 = 0 := by rw [f3 200 20 (by decide), e20]
      have en := hT.2.1
      have hcl := hT.2.2 i h0 h1
      have kk := hok.2 i h0 h1
      have env3 : EnvM (wL (M 202) c) M3 := by
        unfold EnvM
        rcases env with ⟨e1, e2, e3⟩ | ⟨e1, -⟩
        · exact Or.inl ⟨e20', fun op a q0 q1 => by rw [f3 218 op (by omega)]; exact e2 op a q0 q1, by omega, by omega⟩
        · exact absurd e20 e1
      have tls := tl_s T head (wL (M 202) c) wo h0
      refine b_X9_tells_146 L (by omega) ?_ (fun _ => b_X9_tells_162 L (by omega) ?_ ?_)
      · rw [r3, e34', en]; intro h; omega
      · rw [r3, e34', hcl.1]
        intro hne
        refine b_X9_tells_211 (by omega) ?_
        have hh : hold T i head (wL (M 202) c) = none := by unfold hold; rw [if_neg (fun q => hne q.1)]
        rw [hh] at tls
        have := ih M3 (vI (3990 + 900 * M 202 4 + 2 + 8 * i)) f3
        rw [tls] at this; exact this
      · rw [r3, e34', hcl.1]
        intro heq
        have hT3 : LawM (M3 202) (M3 200 34) T := by rw [r3, e34']; exact hT
        refine b_X9_tells_187 L ?_
        have e34s : 3990 + 900 * M 202 4 + 2 + 8 * i = M3 200 34 + 2 + 8 * i := by omega
        rw [e34s]
        refine s_isSo L hw env3 e20' hT3 ⟨h0, h1⟩ (fun M4 v f4 hh h2 hn2 => ?_) (fun M4 f4 hh => ?_)
        · refine b_X9_tells_193 (fun e => absurd e (by decide)) (fun _ => b_X9_tells_196 (fun h => b_X9_tells_205 L (by omega) ?_) (fun h => b_X9_tells_201 (by omega) ?_))
          · rw [heq] at hh hn2
            rw [hh] at tls
            have := ih M4 (vI (M3 200 34 + 2 + 8 * i)) (fun a i q => by rw [f4 a i q, f3 a i q])
            rw [tls] at this
            rw [hn2 h]; exact this
          · rw [heq] at hh h2
            rw [hh] at tls
            have := ih M4 (vI (M3 200 34 + 2 + 8 * i)) (fun a i q => by rw [f4 a i q, f3 a i q])
            rw [tls] at this
            rw [h2 h] at this; exact this
        · refine b_X9_tells_193 (fun _ => b_X9_tells_211 (by omega) ?_) (fun e => absurd rfl e)
          rw [heq] at hh
          rw [hh] at tls
          have := ih M4 (vI (M3 200 34 + 2 + 8 * i)) (fun a i q => by rw [f4 a i q, f3 a i q])
          rw [tls] at this; exact this
end MT
