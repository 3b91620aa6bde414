/-! SOUNDNESS: by induction over the fuel. -/
theorem nat_split {a b c0 : Int} (h1 : a ≤ b) (h2 : b ≤ c0) : (b - a).toNat + (c0 - b).toNat = (c0 - a).toNat := by omega
theorem ex_ne {P : List mMeth} {n d j : Nat} {cs : List mEnt} {ls st : List mV} {S : mSh} {M : mMem} {y : Option mV × mSh × mMem} (h : ex P n d j cs ls st S M = some y) : ∃ x cs', cs = x :: cs' := by
  cases cs with
  | nil =>
    cases n with
    | zero => rw [ex_0] at h; cases h
    | succ n => rw [ex_nil] at h; cases h
  | cons x cs => exact ⟨x, cs, rfl⟩
set_option maxHeartbeats 8000000 in
theorem body_all {P : List mMeth} (hP : PROK P) (l : Launch) (n0 : Nat) (D : va_G) (cy : Int → ClassId) (ak av : Nat → Nat) (L : Nat) (xs : Nat → Int32) (hgl : ∀ (ci : Nat) (q : vw_C), vwCl[ci]? = some q → ∀ w ∈ u_ws q.1 q.2.1 q.2.2, w ∈ WSg) : ∀ n, BodyAt P l n0 D cy ak av L xs n := by
  intro n
  induction n with
  | zero => intro d j x cs ls st S M r Sf Mf h; rw [ex_0] at h; cases h
  | succ n ih =>
    intro d j x cs ls st S M r Sf Mf h hs hj p e R s m args below meth c H locs cells slots Q as rls hx hb hml hown hts hnm hCU hfr hlo hR hl hst hsc hcells hslots hret
    obtain ⟨hent, hseq, -⟩ := hP.2 j hj
    have hE := hent x (suf_hd hs)
    obtain ⟨⟨len, hdec, hlen⟩, hjk, hokb, hneed, hneedC, hcall⟩ := hE
    have h0 : 0 ≤ sN S := by have := hR.1; omega
    have hgr := ex_grow hP.1 _ _ _ _ _ _ _ _ _ _ _ h hs h0
    obtain ⟨pc, ins, inf⟩ := x
    rw [ex_cons, exB.eq_def] at h
    -- going on behind the instruction
    have go : ∀ (d2 : Nat) (ls2 st2 : List mV) (S2 : mSh) (M2 : mMem), d2 = d → ex P n d2 j cs ls2 st2 S2 M2 = some (r, Sf, Mf) → Grow S M S2 M2 → noFall ins = false → ∀ (bs : List Nat) (H1 : Heap) (locs1 : List Loc) (rls1 : Array Slot), RW n0 D cy ak s S2 M2 (as ++ bs) H1 locs1 → LR (as ++ bs) ak (sN S2) rls1 (mxOf P j) ls2 → (∀ v ∈ st2, okv (sN S2) v) →
        W p l e R s m args below meth c H1 locs1 (cells + (sN S2 - sN S).toNat) (slots + (sU S2 - sU S).toNat) Q (F0 m (pc + ilen ins) rls1 (st2.map (enc (as ++ bs) ak))) := by
      intro d2 ls2 st2 S2 M2 ed hrun hg hnf bs H1 locs1 rls1 q1 q2 q3
      subst ed
      obtain ⟨x2, cs2, rfl⟩ := ex_ne hrun
      have hpc := hseq _ _ _ hs hnf
      have hg2 := ex_grow hP.1 _ _ _ _ _ _ _ _ _ _ _ hrun (suf_tl hs) (Int.le_trans h0 hg.1)
      have k := ih d2 j x2 cs2 ls2 st2 S2 M2 r Sf Mf hrun (suf_tl hs) hj p e R s m args below meth c H1 locs1 (cells + (sN S2 - sN S).toNat) (slots + (sU S2 - sU S).toNat) Q (as ++ bs) rls1 hx hb hml hown hts hnm hCU hfr hlo q1 q2 q3 (hsc.grow hg)
        (by have := nat_split hg.1 hg2.1; omega) (by have := nat_split hg.2.1 hg2.2.1; omega) ?_
      · have hpc : x2.1 = pc + ilen ins := hpc
        rw [hpc] at k
        exact k
      · intro bs2 H2 locs2 rls2 pcR insR stR cR g1 g2 g3 g4 g5
        have k := hret (bs ++ bs2) H2 locs2 rls2 pcR insR stR cR g1 g2 g3 g4 (by rw [← List.append_assoc]; exact g5)
        rw [← nat_split hg.1 hg2.1, ← nat_split hg.2.1 hg2.2.1, ← Nat.add_assoc, ← Nat.add_assoc, ← List.append_assoc] at k
        exact k
    cases hp : pl ins inf ls st S M with
    | some y =>
      obtain ⟨oc, ls', st', S', M'⟩ := y
      rw [hp] at h
      have hsw := pl_sw hp
      have hd : decode (bOf j) pc = .ok (ins, ilen ins) := by
        rcases hlen with q | q
        · rw [show isSw ins = false from hsw] at q; cases q
        · rw [← show len = ilen ins from q]; exact hdec
      have main : ∀ (hc : ∀ q, oc = some q → q), ex P n d j cs ls' st' S' M' = some (r, Sf, Mf) → W p l e R s m args below meth c H locs cells slots Q (F0 m pc rls (st.map (enc as ak))) := by
        intro hc hrun
        have hg := pl_grow hp hc h0 (fun i e => hP.1 j _ (suf_hd hs) i e)
        have hg2 := ex_grow hP.1 _ _ _ _ _ _ _ _ _ _ _ hrun (suf_tl hs) (Int.le_trans h0 hg.1)
        refine ps_pl hx hb hml hown hts hgl hnm hCU (by omega) (by omega) hp hc hd hokb hneed hR hl hst hsc (by have := nat_split hg.1 hg2.1; omega) (by have := nat_split hg.2.1 hg2.2.1; omega) ?_
        intro bs H1 locs1 rls1 q1 q2 q3
        exact go d ls' st' S' M' rfl hrun hg (pl_fall hp) bs H1 locs1 rls1 q1 q2 q3
      cases oc with
      | none => exact main (fun q e => by cases e) h
      | some cn =>
        dsimp only at h
        rcases pif_some h with ⟨hc, h⟩ | ⟨hc, h⟩
        · exact main (fun q e => by cases e; exact hc) h
        · cases h
    | none =>
      rw [hp] at h
      dsimp only at h
      cases hj2 : jm pc ins st with
      | some y =>
        obtain ⟨cn, t, st'⟩ := y
        rw [hj2] at h
        dsimp only at h
        refine ps_jm (n := sN S) hx hb hj2 hdec hlen hjk hst (fun hc q3 => ?_) (fun hc q3 => ?_)
        · rcases pif_some h with ⟨hc2, h⟩ | ⟨hc2, h⟩
          · obtain ⟨x2, cs2, hat⟩ := ex_ne h
            rw [hat] at h
            have hsuf : x2 :: cs2 <:+ mCode P j := hat ▸ mAt_suf P j t
            have k := ih d j x2 cs2 ls st' S M r Sf Mf h hsuf hj p e R s m args below meth c H locs cells slots Q as rls hx hb hml hown hts hnm hCU hfr hlo hR hl q3 hsc hcells hslots hret
            rw [mAt_hd hat] at k
            exact k
          · exact absurd hc hc2
        · rcases pif_some h with ⟨hc2, h⟩ | ⟨hc2, h⟩
          · exact absurd hc2 hc
          · obtain ⟨hnf, hl3⟩ := jm_fall hj2 hc
            have k := go d ls st' S M rfl h Grow.rf hnf [] H locs rls (by rw [List.append_nil]; exact hR) (by rw [List.append_nil]; exact hl) q3
            rw [Int.sub_self, Int.sub_self, List.append_nil, hl3] at k
            exact k
      | none =>
        rw [hj2] at h
        dsimp only at h
        cases hr : rt (mRet P j) ins st with
        | some y =>
          obtain ⟨cn, v⟩ := y
          rw [hr] at h
          dsimp only at h
          rcases pif_some h with ⟨hc, h⟩ | ⟨hc, h⟩
          · cases h
            obtain ⟨s1, s2⟩ := rt_sw hr
            have hd : decode (bOf j) pc = .ok (ins, 1) := by
              rcases hlen with q | q
              · rw [show isSw ins = false from s1] at q; cases q
              · rw [← s2, ← show len = ilen ins from q]; exact hdec
            have k := hret [] H locs rls pc ins st cn hr hc hd hst (by rw [List.append_nil]; exact hR)
            rw [Int.sub_self, Int.sub_self, List.append_nil] at k
            exact k
          · cases h
        | none =>
          rw [hr] at h
          dsimp only at h
          cases d with
          | zero => cases h
          | succ d =>
            dsimp only at h
            cases hca : ca P ins inf st S with
            | none => rw [hca] at h; cases h
            | some y =>
              obtain ⟨cn, q, las, st'⟩ := y
              rw [hca] at h
              dsimp only at h
              rcases pif_some h with ⟨hc, hk1⟩ | ⟨hc, hk1⟩
              · cases he : ex P n d q (mCode P q) las [] S M with
                | none => rw [he] at hk1; cases hk1
                | some y =>
                  obtain ⟨v, S1, M1⟩ := y
                  rw [he] at hk1
                  dsimp only at hk1
                  clear h
                  obtain ⟨i0, hq, A, hpop, hstw, hlas, hkind⟩ := ca_inv hca
                  obtain ⟨t0, j0, z0, w0⟩ := inf
                  have i0 : t0 = 0 := i0
                  subst i0
                  have hq : q = j0.toNat := hq
                  subst hlas
                  obtain ⟨B, eB, hstk, hBl⟩ := popA_inv _ _ _ _ _ hpop
                  rw [List.append_nil] at eB
                  subst eB
                  have hAu := popA_set _ _ _ _ _ hpop (fun v hv => by cases hv)
                  have hAo : ∀ v ∈ A, okv (sN S) v := fun v hv => hst v (by rw [hstk]; exact List.mem_append_left _ (List.mem_reverse.mpr hv))
                  have hst' : ∀ v ∈ st', okv (sN S) v := fun v hv => hst v (by rw [hstk]; exact List.mem_append_right _ hv)
                  have hq2 : q < P.length := by
                    rcases Nat.lt_or_ge q P.length with h9 | h9
                    · exact h9
                    · rw [mCode_nil (by omega)] at he
                      obtain ⟨_, _, h8⟩ := ex_ne he
                      cases h8
                  obtain ⟨-, -, m1, m2, m3, m4, m5, m6⟩ := hP.2 q hq2
                  have hAw : (iniA A).length ≤ mxOf P q := by
                    have := popA_w _ _ _ _ _ hpop
                    rw [argw_rev] at this
                    have e0 : (iniA []).length = 0 := rfl
                    omega
                  have hg := ex_grow hP.1 _ _ _ _ _ _ _ _ _ _ _ he (List.suffix_refl _) h0
                  have hg2 := ex_grow hP.1 _ _ _ _ _ _ _ _ _ _ _ hk1 (suf_tl hs) (Int.le_trans h0 hg.1)
                  have hM := met_of hP ih he (as := as) hAu hAo hAw h0 hsc
                  have hfit : cells + (sN S1 - sN S).toNat ≤ R.cells ∧ slots + (sU S1 - sU S).toNat ≤ R.slots := by
                    have e1 := nat_split hg.1 hg2.1
                    have e2 := nat_split hg.2.1 hg2.2.1
                    omega
                  have hroom : (rmD d (sN S1 - sN S).toNat (sU S1 - sU S).toNat).frames + 1 ≤ R.frames ∧ 8 + (mxOf P q + 11) + (rmD d (sN S1 - sN S).toNat (sU S1 - sU S).toNat).locals ≤ R.locals := by
                    show d + 6 + 1 ≤ R.frames ∧ 8 + (mxOf P q + 11) + (64 * d + 300) ≤ R.locals
                    omega
                  have hpre : ∀ U : State, U.heap = H → s.WarmedH U.vm → va_Pc (A.map (enc as ak)) (fun U => HU n0 D cy ak S M as U.heap ∧ CU n0 D cy ak av L xs U) (A.map (enc as ak)).toArray U := by
                    intro U hU hW
                    refine ⟨rfl, ⟨hR.1, hR.2.1, by rw [hU]; exact hR.2.2.1, hR.2.2.2.1⟩, hCU.moved hR.2.2.2.2 hU hW⟩
                  have hbl : FrameBlind (va_Pc (A.map (enc as ak)) (fun U => HU n0 D cy ak S M as U.heap ∧ CU n0 D cy ak av L xs U)) := fun a U g mk z => ⟨z.1, z.2.1, z.2.2.blind⟩
                  have hsum := stw_enc as ak st'
                  have hil : ilen ins = 3 := by rcases hkind with ⟨i, rfl⟩ | ⟨i, rfl, -⟩ | ⟨i, rfl, -⟩ <;> rfl
                  have hnf : noFall ins = false := by rcases hkind with ⟨i, rfl⟩ | ⟨i, rfl, -⟩ | ⟨i, rfl, -⟩ <;> rfl
                  have hd : decode (bOf j) pc = .ok (ins, 3) := by
                    rcases hlen with z | z
                    · rcases hkind with ⟨i, rfl⟩ | ⟨i, rfl, -⟩ | ⟨i, rfl, -⟩ <;> cases z
                    · rw [← hil, ← show len = ilen ins from z]; exact hdec
                  have kk : ∀ bs H1 locs1, RW n0 D cy ak s S1 M1 (as ++ bs) H1 locs1 → (∀ w, v = some w → okv (sN S1) w) → W p l e R s m args below meth c H1 locs1 (cells + (sN S1 - sN S).toNat) (slots + (sU S1 - sU S).toNat) Q (F0 m (pc + 3) rls ((v.map (enc (as ++ bs) ak)).toList ++ st'.map (enc as ak))) := by
                    intro bs H1 locs1 q1 q2
                    have k := go (d + 1) ls (v.toList ++ st') S1 M1 rfl hk1 hg hnf bs H1 locs1 rls q1 (hl.moved (by have := hR.1; omega) hg.1) (fun w hw => by
                      rcases List.mem_append.mp hw with hw | hw
                      · cases v with
                        | none => cases hw
                        | some u =>
                          rw [List.mem_singleton.mp hw]
                          exact q2 u rfl
                      · exact (hst' w hw).mono hg.1)
                    rw [hil, List.map_append, map_enc_app (n := sN S) (by have := hR.1; omega) hst'] at k
                    have e3 : (v.map (enc (as ++ bs) ak)).toList = v.toList.map (enc (as ++ bs) ak) := by cases v <;> rfl
                    rw [e3]
                    exact k
                  have hneedC : ∀ w ∈ needC P (yOf j).cls ins (0, j0, z0, w0), w ∈ WSg := hneedC
                  have hcall : callOK P (yOf j).cls ins (0, j0, z0, w0) = true := hcall
                  subst hq
                  have hstk2 : st.map (enc as ak) = (A.map (enc as ak)).reverse ++ st'.map (enc as ak) := by rw [hstk, List.map_append, List.map_reverse]
                  have hcodeW : (Jvm.Cond.code (yOf j0.toNat) (bOf j0.toNat) (mxOf P j0.toNat) (rOf j0.toNat)) ∈ WSg := by
                    rcases hkind with ⟨i, rfl⟩ | ⟨i, rfl, -⟩ | ⟨i, rfl, -⟩
                    · exact hneedC _ (List.mem_of_getElem? (i := 3) rfl)
                    · exact hneedC _ (List.mem_of_getElem? (i := 4) rfl)
                    · unfold needC at hneedC
                      dsimp only at hneedC
                      by_cases hz : z0 = 0
                      · rw [if_pos hz] at hneedC; exact hneedC _ (List.mem_of_getElem? (i := 3) rfl)
                      · rw [if_neg hz] at hneedC; exact hneedC _ (List.mem_of_getElem? (i := 2) rfl)
                  have hwsub := ws_sub hcodeW
                  have hAlen : A.length = (mGet P j0.toNat).2.1.length := by rw [hBl, List.length_reverse]
                  rcases hkind with ⟨i, rfl⟩ | ⟨i, rfl, hcn⟩ | ⟨i, rfl, hcn⟩
                  · -- static
                    have hst9 : isSt P j0.toNat = true := hcall
                    have hnp : (A.map (enc as ak)).length = nPar P j0.toNat := by unfold nPar; rw [hst9, List.length_map, hAlen]; rfl
                    refine callW (W.runS (As := A.map (enc as ak)) (rest := st'.map (enc as ak)) ⟨hx, hb, hml, hown, hts⟩ hM (va_cwS (nPar P j0.toNat) hts (good_ws (fun w h => h) (fun w hw => ?_)) rfl rfl rfl m4 hroom) ⟨hbl, hpre⟩ rfl hnp hl.1.1 hstk2 (lv_room (by omega)) hd hfit) hR.2.2.2.2 kk
                    rcases List.mem_append.mp hw with hw | hw
                    · simp only [List.mem_cons, List.not_mem_nil, or_false] at hw
                      rcases hw with rfl | rfl | rfl
                      · exact hneedC _ (List.mem_of_getElem? (i := 0) rfl)
                      · exact hneedC _ (List.mem_of_getElem? (i := 1) rfl)
                      · exact hneedC _ (List.mem_of_getElem? (i := 2) rfl)
                    · exact hwsub w hw
                  · -- virtual
                    simp only [callOK, Bool.and_eq_true, Bool.not_eq_true', decide_eq_true_eq] at hcall
                    obtain ⟨⟨c1, c2⟩, c3⟩ := hcall
                    have c2 := bR_spec c2
                    rw [hcn] at hc
                    obtain ⟨a, A2, rfl⟩ : ∃ a A2, A = vA a :: A2 := by
                      unfold rcv at hc
                      split at hc
                      · exact ⟨_, _, rfl⟩
                      · exact hc.elim
                    have hO : isO S a (mGet P j0.toNat).1 := hc
                    have hnp : (A2.map (enc as ak)).length = nPar P j0.toNat := by
                      unfold nPar; rw [c1, List.length_map, ← hAlen]; rfl
                    have hex2 : (wld cy S M as ak)[(a - 1).toNat]? = some (as.getD (a - 1).toNat 0, .inr ((mGet P j0.toNat).1.toNat, fldL S (M a) as ak a)) := by
                      rw [wld_at hO.1 (by have := hO.2.1; have := hR.1; omega)]
                      unfold cel
                      rw [if_pos (by rw [hO.2.2]; omega), hO.2.2]
                    have hrecv := va_recv hCU.1 hR.2.2.1 (clOf_get c2.1 (by omega)) hex2
                    rw [c3] at hrecv
                    have eA : (vA a :: A2).map (enc as ak) = .ref (as.getD (a - 1).toNat 0) :: A2.map (enc as ak) := by
                      rw [List.map_cons]; congr 1; exact encR_pos hO.1
                    rw [eA] at hM hbl hpre hstk2
                    refine callW (W.runV (C := (yOf j0.toNat).cls) (b := as.getD (a - 1).toNat 0) (As := A2.map (enc as ak)) (rest := st'.map (enc as ak)) ⟨hx, hb, hml, hown, hts⟩ hM (cwV (nPar P j0.toNat) hts (good_ws (fun w h => h) (fun w hw => ?_)) rfl rfl rfl ⟨rfl, m4⟩ hroom) ⟨hbl, hrecv, hpre⟩ rfl hnp hl.1.1 (by rw [hstk2]; simp) (lv_room (by omega)) hd hfit) hR.2.2.2.2 kk
                    rcases List.mem_append.mp hw with hw | hw
                    · simp only [List.mem_cons, List.not_mem_nil, or_false] at hw
                      rcases hw with rfl | rfl | rfl | rfl
                      · exact hneedC _ (List.mem_of_getElem? (i := 0) rfl)
                      · exact hneedC _ (List.mem_of_getElem? (i := 1) rfl)
                      · exact hneedC _ (List.mem_of_getElem? (i := 2) rfl)
                      · exact hneedC _ (List.mem_of_getElem? (i := 3) rfl)
                    · exact hwsub w hw
                  · -- a constructor
                    simp only [callOK, Bool.and_eq_true, Bool.or_eq_true, Bool.not_eq_true', decide_eq_true_eq] at hcall
                    obtain ⟨⟨⟨c1, c2⟩, c3⟩, c4⟩ := hcall
                    rw [hcn] at hc
                    obtain ⟨a, A2, rfl⟩ : ∃ a A2, A = vA a :: A2 := by
                      unfold rcv at hc
                      split at hc
                      · exact ⟨_, _, rfl⟩
                      · exact hc.elim
                    have hO : isO S a (mGet P j0.toNat).1 := hc
                    have hnp : (A2.map (enc as ak)).length = nPar P j0.toNat := by
                      unfold nPar; rw [c1, List.length_map, ← hAlen]; rfl
                    have eA : (vA a :: A2).map (enc as ak) = .ref (as.getD (a - 1).toNat 0) :: A2.map (enc as ak) := by
                      rw [List.map_cons]; congr 1; exact encR_pos hO.1
                    rw [eA] at hM hbl hpre hstk2
                    rw [c3] at hM hwsub
                    unfold needC at hneedC
                    dsimp only at hneedC
                    by_cases hz : z0 = 0
                    · rw [if_pos hz] at hneedC
                      refine callW (W.runI (b := as.getD (a - 1).toNat 0) (As := A2.map (enc as ak)) (rest := st'.map (enc as ak)) ⟨hx, hb, hml, hown, hts⟩ hM ⟨callB_of (nPar P j0.toNat) hts (good_ws (fun w h => h) hwsub) rfl rfl rfl (hts _ (hneedC _ (List.mem_of_getElem? (i := 2) rfl))) (hts _ (hneedC _ (List.mem_of_getElem? (i := 0) rfl))) m4 hroom, c2, hts _ (hneedC _ (List.mem_of_getElem? (i := 1) rfl))⟩ ⟨hbl, hpre⟩ rfl hnp hl.1.1 (by rw [hstk2]; simp) (lv_room (by omega)) hd hfit) hR.2.2.2.2 kk
                    · rw [if_neg hz] at hneedC
                      have c4 := c4.resolve_left hz
                      exact callW (va_Run.run (va_runIN (b := as.getD (a - 1).toNat 0) (As := A2.map (enc as ak)) (rest := st'.map (enc as ak)) ⟨hx, hb, hml, hown, hts⟩ hM ⟨va_cnB (nPar P j0.toNat) hts (good_ws (fun w h => h) hwsub) rfl rfl rfl (hCU.2.2.2.1 _ c4) (hts _ (hneedC _ (List.mem_of_getElem? (i := 1) rfl))) m4 hroom, c2, hts _ (hneedC _ (List.mem_of_getElem? (i := 0) rfl))⟩ ⟨hbl, hpre⟩ rfl hnp hl.1.1 (by rw [hstk2]; simp) (lv_room (by omega)) hd hfit)) hR.2.2.2.2 kk
              · cases hk1
