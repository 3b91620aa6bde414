/-! The class's worker: what its law tells, its works. -/
theorem SecC.congr {laws : Bool} {cd cd' : Int → Int} {sz i j : Int} {o : Option Den} (h : SecC laws cd sz i j o) (he : ∀ k, 0 ≤ k → k < sz → cd' k = cd k) : SecC laws cd' sz i j o := by
  cases o with
  | none => exact h
  | some D =>
    obtain ⟨a0, a1, p, hp, hs⟩ := h
    exact ⟨a0, a1, p, hp, hs.congr (fun k q0 q1 => he k (by omega) (by omega))⟩
theorem TextC.congr {laws : Bool} {S : mSh} {M M' : mMem} {t : Int} {T : TX} (h : TextC laws S M t T) (he : ∀ a i, t ≤ a → a ≤ t + 2 → M' a i = M a i) : TextC laws S M' t T := by
  obtain ⟨t1, t2, t0, t3, t4, t5, t6⟩ := h
  refine ⟨t1, t2, t0, by rw [he t 2 (by omega) (by omega)]; exact t3, by rw [he t 3 (by omega) (by omega)]; exact t4, t5, fun i h0 h1 => ?_⟩
  obtain ⟨a1, a2, a3⟩ := t6 i h0 h1
  refine ⟨by rw [he _ _ (by omega) (by omega)]; exact a1, by rw [he _ _ (by omega) (by omega)]; exact a2, fun s q0 q1 => ?_⟩
  rw [he (t + 1) _ (by omega) (by omega), he (t + 1) _ (by omega) (by omega), he t 3 (by omega) (by omega)]
  exact (a3 s q0 q1).congr (fun k _ _ => he _ _ (by omega) (by omega))
/-- the worker at work: on the stock at s, which is g, under the law at t, which is T -/
def Wk (S : mSh) (M : mMem) (s t : Int) (g : Int → Int) (T : TX) : Prop := Stk S s ∧ M 191 2 = s ∧ M 196 2 = s ∧ M 191 3 = t ∧ StkR g s M ∧ okS g ∧ TextC true S M t T ∧ okTL T ∧ (t + 2 < s ∨ s + 6 < t) ∧ (t + 2 < 191 ∨ 191 < t)
theorem Wk.s {S : mSh} {M : mMem} {s t : Int} {g : Int → Int} {T : TX} (h : Wk S M s t g T) : Stk S s := h.1
theorem Wk.e1 {S : mSh} {M : mMem} {s t : Int} {g : Int → Int} {T : TX} (h : Wk S M s t g T) : M 191 2 = s := h.2.1
theorem Wk.e2 {S : mSh} {M : mMem} {s t : Int} {g : Int → Int} {T : TX} (h : Wk S M s t g T) : M 196 2 = s := h.2.2.1
theorem Wk.e3 {S : mSh} {M : mMem} {s t : Int} {g : Int → Int} {T : TX} (h : Wk S M s t g T) : M 191 3 = t := h.2.2.2.1
theorem Wk.r {S : mSh} {M : mMem} {s t : Int} {g : Int → Int} {T : TX} (h : Wk S M s t g T) : StkR g s M := h.2.2.2.2.1
theorem Wk.ok {S : mSh} {M : mMem} {s t : Int} {g : Int → Int} {T : TX} (h : Wk S M s t g T) : okS g := h.2.2.2.2.2.1
theorem Wk.x {S : mSh} {M : mMem} {s t : Int} {g : Int → Int} {T : TX} (h : Wk S M s t g T) : TextC true S M t T := h.2.2.2.2.2.2.1
theorem Wk.l {S : mSh} {M : mMem} {s t : Int} {g : Int → Int} {T : TX} (h : Wk S M s t g T) : okTL T := h.2.2.2.2.2.2.2.1
/-- cells that the worker writes besides the stock -/
def FrW (s : Int) (M M' : mMem) : Prop := ∀ a i, ¬ ((s ≤ a ∧ a ≤ s + 6) ∨ a = 195 ∨ a = 197 ∨ (a = 196 ∧ (i = 1 ∨ i = 3)) ∨ (a = 191 ∧ (i = 4 ∨ i = 5))) → M' a i = M a i
theorem FrW.rf (s : Int) (M : mMem) : FrW s M M := fun _ _ _ => rfl
theorem FrW.tr {s : Int} {M M' M'' : mMem} (h : FrW s M M') (h' : FrW s M' M'') : FrW s M M'' := fun a i q => (h' a i q).trans (h a i q)
theorem FrW.ofS {s : Int} {M M' : mMem} (h : FrS s M M') : FrW s M M' := fun a i q => h a i (by omega)
theorem FrW.ofT {s : Int} {M M' : mMem} (h : FrT s M M') : FrW s M M' := fun a i q => h a i (by omega) (by omega)
theorem Wk.mv {S : mSh} {M M' : mMem} {s t : Int} {g g' : Int → Int} {T : TX} (h : Wk S M s t g T) (hf : FrW s M M') (hr : StkR g' s M') (ok : okS g') : Wk S M' s t g' T := by
  obtain ⟨h1, h2, h3, h4, h5, h6, h7, h8, h9, h10⟩ := h
  have := h1.hi
  have := h1.lo
  have t2 := h7.2.1
  refine ⟨h1, by rw [hf 191 2 (by omega)]; exact h2, by rw [hf 196 2 (by omega)]; exact h3, by rw [hf 191 3 (by omega)]; exact h4, hr, ok, h7.congr (fun a i q0 q1 => hf a i (by omega)), h8, h9, h10⟩
section CW
variable {d : Nat} {S : mSh} {M : mMem} {Q : Option mV → mSh → mMem → Prop} {g : Int → Int} {s t : Int} {T : TX}
/-- cells that telling writes -/
def FrB (M M' : mMem) : Prop := ∀ a i, ¬ (a = 197 ∨ (a = 196 ∧ (i = 1 ∨ i = 3))) → M' a i = M a i
theorem FrW.ofB {M M' : mMem} (h : FrB M M') : FrW s M M' := fun a i q => h a i (by omega)
theorem Wk.mb {M' : mMem} (h : Wk S M s t g T) (hf : FrB M M') : Wk S M' s t g T := h.mv (FrW.ofB hf) (h.r.congr (fun a i q0 q1 => hf a i (by have := h.s.hi; omega))) h.ok
set_option maxHeartbeats 1000000 in
theorem c_tells (L : Lay S) (h : Wk S M s t g T) {kind c : Int} (hk : 4 ≤ kind ∧ kind ≤ 6) (hc : 0 ≤ c ∧ c < g 0) (k : ∀ M', FrB M M' → Q (some (vI (if kind = 4 then losT T g c else if kind = 5 then yieT T g c else barT T g c))) S M') : e_X7_tells (d + 3) kind c S M Q := by
  have hn := h.ok.n
  have tx := h.x
  have hT := h.l
  obtain ⟨t1, t2, t0, t3, t4, t5, t6⟩ := h.x
  have hi := h.s.hi
  have h12 := t0.2.1
  have hn0 := t0.1
  have hw : bdW (wL g c) := wL_bd h.ok (by omega)
  generalize hwo : (if kind = 5 then (999 : Int) else 0) = wo
  have fin : ∀ v, v = tellT T (kind - 4) (wL g c) wo → (if kind = 4 then losT T g c else if kind = 5 then yieT T g c else barT T g c) = bnd v 0 (if kind = 4 then 99 else if kind = 5 then 999 else 1) := by
    intro v ev
    have h3 : kind = 4 ∨ kind = 5 ∨ kind = 6 := by omega
    rcases h3 with rfl | rfl | rfl
    · have : wo = 0 := by rw [← hwo]; rfl
      subst this; rw [ev]; rfl
    · have : wo = 999 := by rw [← hwo]; rfl
      subst this; rw [ev]; rfl
    · have : wo = 0 := by rw [← hwo]; rfl
      subst this
      have h2 := bar_01 hT g c
      have h3 : v = barT T g c := ev
      rw [if_neg (by decide), if_neg (by decide), if_neg (by decide), if_neg (by decide), h3]
      unfold bnd; split <;> (try split) <;> omega
  refine b_X7_tells_0 h.e3 L t1 (by omega) ?_
  rw [t3]
  have key := for_dn (W := fun x => ∀ (M' : mMem) (u4 u5 : mV), FrB M M' → M' 196 3 = c → tl T (kind - 4) (wL g c) wo (tn T) = tl T (kind - 4) (wL g c) wo (x + 1) → WP PR (d + 3) 71 18 [vA 191, vI kind, vI c, vI x, u4, u5] [] S M' Q) (lo := -1) (hi := tn T - 1) (by omega) ?_ ?_
  · refine key _ _ _ (fun a i q => ?_) (up_s _ _ _ _) (by rw [Int.sub_add_cancel])
    by_cases e : a = 196
    · exact up_ni (by omega)
    · exact up_na e
  · intro M' u4 u5 f1 g1 hl
    have kk := k M' f1
    rw [fin wo hl.symm] at kk
    refine b_X7_tells_18 (fun _ => b_X7_tells_115 (fun h5 => b_X7_tells_126 ?_) (fun h5 => b_X7_tells_120 ?_)) (fun q => absurd q (by decide))
    · have : wo = 0 := by rw [← hwo, if_neg h5]
      rw [this] at kk
      have e : bnd 0 0 (if kind = 4 then 99 else if kind = 5 then 999 else 1) = 0 := by unfold bnd; rw [if_neg (by decide), if_neg]; split <;> (try split) <;> omega
      rw [e] at kk; exact kk
    · subst h5
      have : wo = 999 := by rw [← hwo]; rfl
      rw [this] at kk; exact kk
  · intro x h0 h1 ih M' u4 u5 f1 g1 hl
    have wk := h.mb f1
    have tls := tl_s T (kind - 4) (wL g c) wo (i := x) (by omega)
    obtain ⟨c1, c2, c3⟩ := wk.x.2.2.2.2.2.2 x (by omega) (by omega)
    have e3' := wk.e3
    have env : EnvC true (wL g c) g s S M' := ⟨wk.s, wk.e2, wk.r, wk.ok, hw, Or.inl ⟨rfl, by omega, by omega, by rw [g1]⟩⟩
    have nxt : ∀ (M2 : mMem) (u4 u5 : mV), FrB M M2 → M2 196 3 = c → hold T x (kind - 4) (wL g c) = none → WP PR (d + 3) 71 109 [vA 191, vI kind, vI c, vI x, u4, u5] [] S M2 Q := by
      intro M2 u4 u5 f2 g2 hh
      refine b_X7_tells_109 (by omega) ?_
      rw [hh] at tls
      exact ih M2 u4 u5 f2 g2 (by rw [Int.sub_add_cancel, hl, tls])
    refine b_X7_tells_18 (fun q => absurd q (by omega)) (fun _ => b_X7_tells_22 e3' L t1 (b_X6_kindOf_0 t1 (by omega) ?_))
    refine b_X7_tells_30 ?_ ?_
    · rw [c1, if_pos rfl]
      intro hne
      exact nxt M' u4 u5 f1 g1 (by unfold hold; rw [if_neg (fun q => hne (by omega))])
    · rw [c1, if_pos rfl]
      intro heq
      have hk2 : tk T x = kind - 4 := by omega
      refine b_X7_tells_34 e3' L (c_ask L env wk.x (by omega) (by decide) (fun M2 f2 => ?_))
      have f12 : FrB M M2 := fun a i q => by rw [f2 a i (by omega)]; exact f1 a i q
      have g12 : M2 196 3 = c := by rw [f2 196 3 (by decide)]; exact g1
      have wk2 := h.mb f12
      have env2 : EnvC true (wL g c) g s S M2 := ⟨wk2.s, wk2.e2, wk2.r, wk2.ok, hw, Or.inl ⟨rfl, by omega, by omega, by rw [g12]⟩⟩
      have hask : askO (ts T x 3) (wL g c) = 1 ↔ tstO (ts T x 3) (wL g c) = true := by
        cases hts : ts T x 3 with
        | none => exact ⟨fun _ => rfl, fun _ => rfl⟩
        | some D =>
          unfold askO tstO
          dsimp only
          cases hv : D (wL g c) with
          | none => simp
          | some v => simp
      refine b_X7_tells_47 (fun hne => ?_) (fun heq1 => ?_)
      · refine nxt M2 u4 u5 f12 g12 ?_
        unfold hold; rw [if_neg (fun q => hne (hask.mpr q.2))]
      · have hh : hold T x (kind - 4) (wL g c) = valO (ts T x 0) (wL g c) := by unfold hold; rw [if_pos ⟨hk2, hask.mp heq1⟩]
        refine b_X7_tells_51 wk2.e3 L (c_ask L env2 wk2.x (by omega) (by decide) (fun M3 f3 => ?_))
        have f13 : FrB M M3 := fun a i q => by rw [f3 a i (by omega)]; exact f12 a i q
        have g13 : M3 196 3 = c := by rw [f3 196 3 (by decide)]; exact g12
        -- what the sum told
        have hval : (valO (ts T x 0) (wL g c) = none ∧ askO (ts T x 0) (wL g c) = -2000000000) ∨ (∃ v, valO (ts T x 0) (wL g c) = some v ∧ askO (ts T x 0) (wL g c) = v ∧ ¬ v = -2000000000) := by
          cases hts : ts T x 0 with
          | none => exact Or.inr ⟨1, rfl, rfl, by decide⟩
          | some D =>
            have hS := wk2.x.2.2.2.2.2.2 x (by omega) (by omega)
            have hs0 := hS.2.2 0 (by decide) (by decide)
            rw [hts] at hs0
            obtain ⟨a0, a1, p, hp, hseg⟩ := hs0
            have hb := (c_seg (d := 0) (Q := fun _ _ _ => True) L env2 (cl := 0) (sec := 0) (from' := 0) (l := 0) t1 t2 (by have := wk2.x.2.2.2.2.1; omega) (by decide) hseg).2.2.1
            unfold valO askO
            dsimp only
            cases hv : D (wL g c) with
            | none => exact Or.inl ⟨rfl, rfl⟩
            | some v => exact Or.inr ⟨v, rfl, rfl, by have := hb v hv; omega⟩
        rcases hval with ⟨hv, ha⟩ | ⟨v, hv, ha, hne⟩
        · rw [ha]
          exact b_X7_tells_64 (fun _ => nxt M3 _ u5 f13 g13 (hh.trans hv)) (fun q => absurd rfl q)
        · rw [ha]
          rw [hh, hv] at tls
          have ev : v = tellT T (kind - 4) (wL g c) wo := by unfold tellT; rw [hl, tls]
          have kk := k M3 f13
          rw [fin v ev] at kk
          refine b_X7_tells_64 (fun q => absurd q hne) (fun _ => b_X7_tells_73 (fun h4 => b_X7_tells_83 (fun h5 => b_X7_tells_94 ?_) (fun h5 => b_X7_tells_88 ?_)) (fun h4 => b_X7_tells_78 ?_))
          · rw [if_neg h4, if_neg h5] at kk
            have e : (if 0 < (if 1 < v then 1 else v) then (if 1 < v then 1 else v) else 0) = bnd v 0 1 := by unfold bnd; split <;> split <;> (try split) <;> omega
            rw [e]; exact kk
          · rw [if_neg h4, if_pos h5] at kk
            have e : (if 0 < (if 999 < v then 999 else v) then (if 999 < v then 999 else v) else 0) = bnd v 0 999 := by unfold bnd; split <;> split <;> (try split) <;> omega
            rw [e]; exact kk
          · rw [if_pos h4] at kk
            have e : (if 0 < (if 99 < v then 99 else v) then (if 99 < v then 99 else v) else 0) = bnd v 0 99 := by unfold bnd; split <;> split <;> (try split) <;> omega
            rw [e]; exact kk
end CW
