/-! SOUNDNESS: one plain instruction, whichever it is. -/
def elC (kd : Int) : String := if kd = 23 then RX6 else if kd = 24 then RX4 else RX3
def needB (own : String) (ins : Instr) (inf : mInf) : List Jvm.Cond := match ins with
  | .getfield i => needF own i inf
  | .putfield i => needF own i inf
  | .new i => [.classLink own i (clOf inf.2.1).1, .instantiable (clOf inf.2.1).1 (clOf inf.2.1).2.2, .initialized (clOf inf.2.1).1]
  | .newarray .int => [.arrayClass .int]
  | .newarray .long => [.arrayClass .long]
  | .newarray .boolean => [.arrayClass .boolean]
  | .anewarray i => [.classLink own i (elC inf.2.1)]
  | .invokestatic i => (match inf.1 with
    | 1 => needMax own i
    | 2 => needMin own i
    | 3 => needCpy own i
    | _ => [])
  | .invokespecial i => (match inf.1 with
    | 4 => needObj own i
    | _ => [])
  | .invokevirtual i => (match inf.1 with
    | 5 => [.methodLink own i yj_len]
    | 6 => [.methodLink own i yj_chr]
    | _ => [])
  | .ldc i => (match inf.1 with
    | 0 => needA own (.ldc i) inf
    | _ => [])
  | _ => needA own ins inf
def okB (own nm : String) (ins : Instr) (inf : mInf) : Bool := match ins with
  | .getfield _ => fchk inf
  | .putfield _ => fchk inf && (!(Nat.beq inf.1 3) || (decide (nm = "<init>") && decide ((clOf inf.2.1).1 = own)))
  | .aaload => decide (inf.2.1 = 23 ∨ inf.2.1 = 24 ∨ inf.2.1 = 25)
  | .aastore => decide ((inf.2.1 = 23 ∧ inf.2.2.1 = 6) ∨ (inf.2.1 = 24 ∧ inf.2.2.1 = 4) ∨ (inf.2.1 = 25 ∧ inf.2.2.1 = 3))
  | .arraylength => (match inf.1 with
    | 0 => bR inf.2.1 20 25
    | _ => true)
  | .new _ => bR inf.2.1 0 9 && decide (inf.2.2.1 = ((clOf inf.2.1).2.2 : Int))
  | .anewarray _ => decide (inf.2.1 = 23 ∨ inf.2.1 = 24 ∨ inf.2.1 = 25)
  | .invokestatic _ => (match inf.1 with
    | 0 => true
    | 1 => true
    | 2 => true
    | 3 => decide (inf.2.1 = 20 ∨ inf.2.1 = 21 ∨ inf.2.1 = 23)
    | _ => false)
  | .invokespecial _ => Nat.beq inf.1 0 || Nat.beq inf.1 4
  | .invokevirtual _ => Nat.beq inf.1 0 || Nat.beq inf.1 5 || Nat.beq inf.1 6
  | .ldc i => (match inf.1 with
    | 0 => okA (.ldc i) inf
    | 1 => decide (own = RX2) && decide (inf.2.1.toNat = i) && strT.any (fun q => decide (q.1 = inf.2.1))
    | _ => false)
  | .ldc_w i => Nat.beq inf.1 0 && okA (.ldc_w i) inf
  | _ => okA ins inf
theorem okA_of {own nm : String} {ins : Instr} {inf : mInf} (hA : insA ins inf = true) (h : okB own nm ins inf = true) : okA ins inf = true := by
  cases ins
  case ldc i =>
    obtain ⟨t, r⟩ := inf
    have ht : t = 0 := Nat.eq_of_beq_eq_true hA
    subst ht; exact h
  case ldc_w i =>
    simp only [okB, Bool.and_eq_true] at h
    exact h.2
  all_goals first | exact h | cases hA
theorem needA_of {own : String} {ins : Instr} {inf : mInf} (hA : insA ins inf = true) : ∀ w ∈ needA own ins inf, w ∈ needB own ins inf := by
  cases ins
  case ldc i =>
    obtain ⟨t, r⟩ := inf
    have ht : t = 0 := Nat.eq_of_beq_eq_true hA
    subst ht; exact fun w h => h
  all_goals first | exact fun w h => h | cases hA
def SCM (L : Nat) (xs : Nat → Int32) (S : mSh) (M : mMem) : Prop := sL S (-1) = (L : Int) ∧ L ≤ 100000 ∧ ∀ j : Nat, j < L → M (-1) j = (xs j).toInt
theorem isS_spec {a : Int} (h : isS a) : ∃ q ∈ strT, a = -q.1 := h
theorem ald_i_inv {t : Nat} {v a0 b0 : Int} {ls st : List mV} {S : mSh} {M : mMem} {r : Option Prop × List mV × List mV × mSh × mMem} (h : pl_ald (t, v, a0, b0) ls st S M .iaload = some r) :
    ∃ i a st', st = vI i :: vA a :: st' ∧ ((t = 0 ∧ r = (some (inA S a 20 i), ls, vI (M a i) :: st', S, M)) ∨ (t = 1 ∧ r = (some (a = -1 ∧ 0 ≤ i ∧ i < sL S (-1)), ls, vI (M (-1) i) :: st', S, M))) := by
  unfold pl_ald at h
  dsimp only at h
  split at h
  · rename_i i a st'
    exact ⟨i, a, st', rfl, Or.inl ⟨rfl, (Option.some.inj h).symm⟩⟩
  · rename_i i a st'
    exact ⟨i, a, st', rfl, Or.inr ⟨rfl, (Option.some.inj h).symm⟩⟩
  · cases h
theorem ald_n_inv {t : Nat} {v a0 b0 : Int} {ls st : List mV} {S : mSh} {M : mMem} {r : Option Prop × List mV × List mV × mSh × mMem} (h : pl_ald (t, v, a0, b0) ls st S M .arraylength = some r) :
    ∃ a st', st = vA a :: st' ∧ ((t = 0 ∧ r = (some (isO S a v), ls, vI (sL S a) :: st', S, M)) ∨ (t = 1 ∧ r = (some (a = -1), ls, vI (sL S (-1)) :: st', S, M))) := by
  unfold pl_ald at h
  dsimp only at h
  split at h
  · rename_i a st'
    exact ⟨a, st', rfl, Or.inl ⟨rfl, (Option.some.inj h).symm⟩⟩
  · rename_i a st'
    exact ⟨a, st', rfl, Or.inr ⟨rfl, (Option.some.inj h).symm⟩⟩
  · cases h
section PSL
variable {p : Program} {l : Launch} {e : Env} {R : Room} {s : State} {m : MethodId} {args : Array Value} {below : List Frame} {meth : Method} {c : Code} {H : Heap} {locs : List Loc} {cells slots : Nat} {Q : State → Prop}
variable {cc : ByteArray} {pc : Nat} {as : List Nat} {ak av : Nat → Nat} {nL n0 L : Nat} {xs : Nat → Int32} {rls : Array Slot} {own nm : String} {D : va_G} {cy : Int → ClassId}
set_option maxHeartbeats 4000000 in
theorem ps_pl (hx : p.tables.exec = Jvm.exec) (hb : c.code = cc) (hml : c.maxLocals = nL) (hown : s.vm.findClass own = some m.cls) (hts : ∀ w ∈ WSg, w.before args s = true) (hgl : ∀ (ci : Nat) (q : vw_C), vwCl[ci]? = some q → ∀ w ∈ u_ws q.1 q.2.1 q.2.2, w ∈ WSg) (hnm : meth.name = nm) (hCU : CU n0 D cy ak av L xs s) (hfr : 6 ≤ R.frames) (hlo : 300 ≤ R.locals)
    {ins : Instr} {inf : mInf} {ls st : List mV} {S : mSh} {M : mMem} {oc : Option Prop} {ls' st' : List mV} {S' : mSh} {M' : mMem}
    (hp : pl ins inf ls st S M = some (oc, ls', st', S', M')) (hc : ∀ q, oc = some q → q) (hd : decode cc pc = .ok (ins, ilen ins)) (hk : okB own nm ins inf = true) (hw : ∀ w ∈ needB own ins inf, w ∈ WSg)
    (hR : RW n0 D cy ak s S M as H locs) (hl : LR as ak (sN S) rls nL ls) (hst : ∀ v ∈ st, okv (sN S) v) (hsc : SCM L xs S M) (hcells : cells + (sN S' - sN S).toNat ≤ R.cells) (hslots : slots + (sU S' - sU S).toNat ≤ R.slots)
    (kk : ∀ bs H1 locs1 rls', RW n0 D cy ak s S' M' (as ++ bs) H1 locs1 → LR (as ++ bs) ak (sN S') rls' nL ls' → (∀ v ∈ st', okv (sN S') v) → W p l e R s m args below meth c H1 locs1 (cells + (sN S' - sN S).toNat) (slots + (sU S' - sU S).toNat) Q (F0 m (pc + ilen ins) rls' (st'.map (enc (as ++ bs) ak)))) :
    W p l e R s m args below meth c H locs cells slots Q (F0 m pc rls (st.map (enc as ak))) := by
  have h0 : 0 ≤ sN S := by have := hR.1; omega
  have hK := hCU.1
  have hA0 := hCU.2.1
  have hwb : ∀ w ∈ needB own ins inf, w.before args s = true := fun w h => hts w (hw w h)
  have hmls : c.maxLocals = rls.size := by rw [hml]; exact hl.1.1.symm
  have k0 : sN S' = sN S → sU S' = sU S → ∀ H1 locs1 rls', RW n0 D cy ak s S' M' as H1 locs1 → LR as ak (sN S) rls' nL ls' → (∀ v ∈ st', okv (sN S) v) → W p l e R s m args below meth c H1 locs1 cells slots Q (F0 m (pc + ilen ins) rls' (st'.map (enc as ak))) := by
    intro e1 e2 H1 locs1 rls' q1 q2 q3
    have k := kk [] H1 locs1 rls' (by rw [List.append_nil]; exact q1) (by rw [List.append_nil, e1]; exact q2) (by rw [e1]; exact q3)
    rw [List.append_nil, e1, e2, Int.sub_self, Int.sub_self] at k
    exact k
  by_cases hA : insA ins inf = true
  · exact psA hx hb hown hA hp hc hd (okA_of hA hk) (fun w h => hwb w (needA_of hA w h)) hl hst h0 (fun e1 e2 rls' q1 q2 => by
      subst e1; subst e2
      exact k0 rfl rfl H locs rls' hR q1 q2)
  cases ins
  case ldc i =>
    obtain ⟨t, v, a, b⟩ := inf
    match t, hA, hp, hk with
    | 0, hA, _, _ => exact absurd rfl hA
    | 1, _, hp, hk =>
      cases hp
      simp only [okB, Bool.and_eq_true, decide_eq_true_eq, List.any_eq_true] at hk
      obtain ⟨⟨e1, e2⟩, q, hq, e3⟩ := hk
      subst e1
      have e3 : q.1 = v := e3
      subst e3
      exact ps_ldcS hx hb hown hCU.2.2.2.2.1 hq (strT_ok q hq).1 e2 hd (k0 rfl rfl H locs rls hR hl (okvs_cons (show -q.1 ≤ sN S by have := (strT_ok q hq).1; omega) hst))
    | _ + 2, _, hp, _ => cases hp
  case getfield i =>
    exact ps_getf hx hb hown hts hgl hK hp hc hd hk hwb hR hst (fun e1 e2 e3 q => by
      subst e1; subst e2; subst e3
      exact k0 rfl rfl H locs rls hR hl q)
  case putfield i =>
    obtain ⟨t, ci, k, off, a, x, v, st2, rfl, rfl, hcase⟩ := pl_putf_inv hp
    simp only [okB, Bool.and_eq_true, Bool.or_eq_true, Bool.not_eq_true', decide_eq_true_eq] at hk
    obtain ⟨hk1, hk2⟩ := hk
    obtain ⟨-, -, f3, -, -⟩ := fchk_spec hk1
    have kc := kcast f3
    have hst2 := okvs_tl (okvs_tl hst)
    rcases hcase with ⟨rfl, rfl, hr⟩ | ⟨rfl, rfl, hr⟩ | ⟨rfl, rfl, hr⟩ | ⟨rfl, rfl, hr⟩ | ⟨rfl, rfl, hr⟩
    · cases hr
      have hO := hc _ rfl
      exact ps_putM hx hb hown hts hgl hK hd hk1 hwb hO (by decide) (by show Value.int (Int32.ofInt (up M a k x a k.toNat)) = _; rw [kc, up_s]; rfl) (Or.inl ⟨rfl, _, rfl⟩) (okvs_hd hst) hR (fun H1 locs1 q => k0 rfl rfl H1 locs1 rls q hl hst2)
    · cases hr
      have hO := hc _ rfl
      exact ps_putM hx hb hown hts hgl hK hd hk1 hwb hO (by decide) (by show Value.long (Int64.ofInt (up M a k x a k.toNat)) = _; rw [kc, up_s]; rfl) (Or.inr (Or.inl ⟨rfl, _, rfl⟩)) (okvs_hd hst) hR (fun H1 locs1 q => k0 rfl rfl H1 locs1 rls q hl hst2)
    · cases hr
      have hO := hc _ rfl
      exact ps_putM hx hb hown hts hgl hK hd hk1 hwb hO (by decide) (by show encR as ak (up M a k x a k.toNat) = _; rw [kc, up_s]; rfl) (Or.inr (Or.inr (Or.inl ⟨Or.inl rfl, encR_or as ak x⟩))) (okvs_hd hst) hR (fun H1 locs1 q => k0 rfl rfl H1 locs1 rls q hl hst2)
    · cases hr
      obtain ⟨hO, hxx⟩ := hc _ rfl
      rcases hk2 with hk2 | hk2
      · cases hk2
      · exact ps_putX hx hb hown hts hgl hK (hnm.trans hk2.1) hk2.2 hd hk1 hwb hO hxx (okvs_hd hst) hR (fun H1 locs1 q => k0 rfl rfl H1 locs1 rls q hl hst2)
    · cases hr
      obtain ⟨hO, hxx⟩ := hc _ rfl
      exact ps_putM hx hb hown hts hgl hK hd hk1 hwb hO (by decide) (by show Value.int (Int32.ofInt (up M a k x a k.toNat)) = _; rw [kc, up_s]; rfl) (Or.inr (Or.inr (Or.inr ⟨rfl, by rcases hxx with rfl | rfl; exact Or.inl rfl; exact Or.inr rfl⟩))) hxx hR (fun H1 locs1 q => k0 rfl rfl H1 locs1 rls q hl hst2)
  case iaload =>
    obtain ⟨t, v, a0, b0⟩ := inf
    obtain ⟨i, a, st2, rfl, ⟨rfl, hr⟩ | ⟨rfl, hr⟩⟩ := ald_i_inv (show pl_ald (t, v, a0, b0) ls st S M .iaload = _ from hp)
    · cases hr
      exact ps_iald hx hb hK hd (hc _ rfl) hR (fun q => k0 rfl rfl H locs rls hR hl (okvs_cons q (okvs_tl (okvs_tl hst))))
    · cases hr
      obtain ⟨e1, e2, e3⟩ := hc _ rfl
      subst e1
      obtain ⟨c1, c2, c3⟩ := hCU.2.2.2.2.2
      obtain ⟨d1, d2, d3⟩ := hsc
      rw [d1] at e3
      have d4 := d3 i.toNat (by omega)
      rw [kcast e2] at d4
      exact ps_sld hx hb c1 c2 c3 d2 hR.2.2.2.2 e2 e3 d4.symm hd (k0 rfl rfl H locs rls hR hl (okvs_cons (show R32 (M (-1) i) by rw [d4]; exact r32_rng _) (okvs_tl (okvs_tl hst))))
  case laload =>
    simp only [pl, pl_ald] at hp
    split at hp
    · cases hp
      exact ps_lald hx hb hK hd (hc _ rfl) hR (fun q => k0 rfl rfl H locs rls hR hl (okvs_cons q (okvs_tl (okvs_tl hst))))
    · cases hp
  case baload =>
    simp only [pl, pl_ald] at hp
    split at hp
    · cases hp
      exact ps_zald hx hb hK hd (hc _ rfl) hR (fun q => k0 rfl rfl H locs rls hR hl (okvs_cons q (okvs_tl (okvs_tl hst))))
    · cases hp
  case aaload =>
    simp only [pl, pl_ald] at hp
    split at hp
    · cases hp
      exact ps_aald hx hb hK (of_decide_eq_true hk) hd (hc _ rfl) hR (fun q => k0 rfl rfl H locs rls hR hl (okvs_cons q (okvs_tl (okvs_tl hst))))
    · cases hp
  case arraylength =>
    obtain ⟨t, v, a0, b0⟩ := inf
    obtain ⟨a, st2, rfl, ⟨rfl, hr⟩ | ⟨rfl, hr⟩⟩ := ald_n_inv (show pl_ald (t, v, a0, b0) ls st S M .arraylength = _ from hp)
    · cases hr
      exact ps_alen hx hb hK (bR_spec hk) hd (hc _ rfl) hR (fun q => k0 rfl rfl H locs rls hR hl (okvs_cons q (okvs_tl hst)))
    · cases hr
      have e1 := hc _ rfl
      subst e1
      obtain ⟨c1, c2, c3⟩ := hCU.2.2.2.2.2
      obtain ⟨d1, d2, d3⟩ := hsc
      refine ps_slen hx hb c1 c2 c3 hR.2.2.2.2 hd ?_
      rw [← d1]
      exact k0 rfl rfl H locs rls hR hl (okvs_cons (show R32 (sL S (-1)) by rw [d1]; exact ⟨by omega, by omega⟩) (okvs_tl hst))
  case iastore =>
    simp only [pl, pl_ast] at hp
    split at hp
    · cases hp
      exact ps_iast hx hb hK hd (hc _ rfl) (okvs_hd hst) hR (fun H1 locs1 q => k0 rfl rfl H1 locs1 rls q hl (okvs_tl (okvs_tl (okvs_tl hst))))
    · cases hp
  case lastore =>
    simp only [pl, pl_ast] at hp
    split at hp
    · cases hp
      exact ps_last hx hb hK hd (hc _ rfl) (okvs_hd hst) hR (fun H1 locs1 q => k0 rfl rfl H1 locs1 rls q hl (okvs_tl (okvs_tl (okvs_tl hst))))
    · cases hp
  case bastore =>
    simp only [pl, pl_ast] at hp
    split at hp
    · cases hp
      obtain ⟨h1, h2⟩ := hc _ rfl
      exact ps_zast hx hb hK hd h1 h2 hR (fun H1 locs1 q => k0 rfl rfl H1 locs1 rls q hl (okvs_tl (okvs_tl (okvs_tl hst))))
    · cases hp
  case aastore =>
    simp only [pl, pl_ast] at hp
    split at hp
    · cases hp
      obtain ⟨h1, h2⟩ := hc _ rfl
      exact ps_aast hx hb hK (of_decide_eq_true hk) hd h1 h2 hR (fun H1 locs1 q => k0 rfl rfl H1 locs1 rls q hl (okvs_tl (okvs_tl (okvs_tl hst))))
    · cases hp
  case new i =>
    cases hp
    simp only [okB, Bool.and_eq_true, decide_eq_true_eq] at hk
    have hci := bR_spec hk.1
    have e1 : (sN (sNew S inf.2.1 0 inf.2.2.1) - sN S).toNat = 1 := by rw [newN]; omega
    have e2 : (sU (sNew S inf.2.1 0 inf.2.2.1) - sU S).toNat = (clOf inf.2.1).2.2 := by rw [newU, hk.2]; omega
    rw [e1] at hcells kk
    rw [e2] at hslots kk
    exact ps_new hx hb hown hts hgl hK hA0 ⟨hci.1, by omega⟩ (hwb _ (List.mem_of_getElem? (i := 0) rfl)) (hwb _ (List.mem_of_getElem? (i := 1) rfl)) (hwb _ (List.mem_of_getElem? (i := 2) rfl)) hk.2 hd hR hcells hslots hst (fun q H1 q1 => kk [q] H1 locs rls q1 (hl.moved (by have := hR.1; omega) (by rw [newN]; omega)) (okvs_cons (show sN S + 1 ≤ sN (sNew S inf.2.1 0 inf.2.2.1) by rw [newN]; omega) (okvs_mono (by rw [newN]; omega) hst)))
  case newarray at_ =>
    have main : ∀ (kd : Int) (ty : FieldType) (t0 : Nat), newarray.typeOf at_ = ty → (tysL cy)[t0]? = some (cy kd, ty) → ((kd = 20 ∧ ty = .int) ∨ (kd = 21 ∧ ty = .long) ∨ (kd = 22 ∧ ty = .boolean)) → needB own (.newarray at_) inf = [.arrayClass ty] → pl_newa kd ls st S M = some (oc, ls', st', S', M') → W p l e R s m args below meth c H locs cells slots Q (F0 m pc rls (st.map (enc as ak))) := by
      intro kd ty t0 g1 g2 g3 g4 g5
      unfold pl_newa at g5
      split at g5
      · rename_i n st2
        cases g5
        have hn := hc _ rfl
        have e1 : (sN (sNew S kd n n) - sN S).toNat = 1 := by rw [newN]; omega
        have e2 : (sU (sNew S kd n n) - sU S).toNat = n.toNat := by rw [newU]; congr 1; omega
        rw [e1] at hcells kk
        rw [e2] at hslots kk
        exact ps_newa hx hb hK hA0 g1 g2 g3 (hwb _ (by rw [g4]; exact List.mem_cons_self)) hn hd hR hcells hslots (okvs_tl hst) (fun q H1 q1 => kk [q] H1 locs rls q1 (hl.moved (by have := hR.1; omega) (by rw [newN]; omega)) (okvs_cons (show sN S + 1 ≤ sN (sNew S kd n n) by rw [newN]; omega) (okvs_mono (by rw [newN]; omega) (okvs_tl hst))))
      · cases g5
    cases at_ with
    | int => exact main 20 .int 0 rfl rfl (Or.inl ⟨rfl, rfl⟩) rfl hp
    | long => exact main 21 .long 1 rfl rfl (Or.inr (Or.inl ⟨rfl, rfl⟩)) rfl hp
    | boolean => exact main 22 .boolean 2 rfl rfl (Or.inr (Or.inr ⟨rfl, rfl⟩)) rfl hp
    | _ => cases hp
  case anewarray i =>
    have hkd := of_decide_eq_true hk
    have g5 : pl_newa inf.2.1 ls st S M = some (oc, ls', st', S', M') := hp
    have main : ∀ (C : String) (t0 : Nat), (tysL cy)[t0]? = some (cy inf.2.1, .object C) → elC inf.2.1 = C → va_AO C s → W p l e R s m args below meth c H locs cells slots Q (F0 m pc rls (st.map (enc as ak))) := by
      intro C t0 g1 g2 g3
      unfold pl_newa at g5
      split at g5
      · rename_i n st2
        cases g5
        have hn := hc _ rfl
        have e1 : (sN (sNew S inf.2.1 n n) - sN S).toNat = 1 := by rw [newN]; omega
        have e2 : (sU (sNew S inf.2.1 n n) - sU S).toNat = n.toNat := by rw [newU]; congr 1; omega
        rw [e1] at hcells kk
        rw [e2] at hslots kk
        exact ps_newq hx hb hown hK hA0 g1 hkd (hwb _ (by show _ ∈ [Jvm.Cond.classLink own i (elC inf.2.1)]; rw [g2]; exact List.mem_cons_self)) g3 hn hd hR hcells hslots (okvs_tl hst) (fun q H1 q1 => kk [q] H1 locs rls q1 (hl.moved (by have := hR.1; omega) (by rw [newN]; omega)) (okvs_cons (show sN S + 1 ≤ sN (sNew S inf.2.1 n n) by rw [newN]; omega) (okvs_mono (by rw [newN]; omega) (okvs_tl hst))))
      · cases g5
    obtain ⟨a1, a2, a3⟩ := hCU.2.2.1
    rcases hkd with h | h | h
    · exact main RX6 3 (by rw [h]; rfl) (by rw [h]; rfl) a1
    · exact main RX4 4 (by rw [h]; rfl) (by rw [h]; rfl) a2
    · exact main RX3 5 (by rw [h]; rfl) (by rw [h]; rfl) a3
  case invokestatic i =>
    obtain ⟨t, kd, ec, z⟩ := inf
    have g5 : pl_lib (t, kd, ec, z) ls st S M = some (oc, ls', st', S', M') := hp
    unfold pl_lib at g5
    split at g5
    · rename_i y x st2 hh
      split at g5
      · rename_i hst8
        cases g5
        have hh : t = 1 := hh
        subst hh
        exact ps_max hx hb hmls hown hwb (by omega) (by omega) (by omega) (by omega) hd (Nat.ble_eq.mp hst8) (okvs_hd (okvs_tl hst)) (okvs_hd hst) (k0 rfl rfl H locs rls hR hl (okvs_cons (by show R32 _; split; exact okvs_hd hst; exact okvs_hd (okvs_tl hst)) (okvs_tl (okvs_tl hst))))
      · cases g5
    · rename_i y x st2 hh
      split at g5
      · rename_i hst8
        cases g5
        have hh : t = 2 := hh
        subst hh
        exact ps_min hx hb hmls hown hwb (by omega) (by omega) (by omega) (by omega) hd (Nat.ble_eq.mp hst8) (okvs_hd (okvs_tl hst)) (okvs_hd hst) (k0 rfl rfl H locs rls hR hl (okvs_cons (by show R32 _; split; exact okvs_hd hst; exact okvs_hd (okvs_tl hst)) (okvs_tl (okvs_tl hst))))
      · cases g5
    · rename_i n dp b sp a st2 hh
      split at g5
      · rename_i hst8
        cases g5
        have hh : t = 3 := hh
        subst hh
        obtain ⟨c1, c2, c3, c4⟩ := hc _ rfl
        exact ps_cpy hx hb hmls hown hK hwb (by omega) (by omega) (of_decide_eq_true hk) hd (Nat.ble_eq.mp hst8) c1 c2 c3 c4 hR (fun H1 locs1 q => k0 rfl rfl H1 locs1 rls q hl (okvs_tl (okvs_tl (okvs_tl (okvs_tl (okvs_tl hst))))))
      · cases g5
    · rename_i hh
      have hh : t = 4 := hh
      subst hh; cases hk
    · rename_i hh
      have hh : t = 5 := hh
      subst hh; cases hk
    · rename_i hh
      have hh : t = 6 := hh
      subst hh; cases hk
    · cases g5
  case invokespecial i =>
    obtain ⟨t, kd, ec, z⟩ := inf
    have g5 : pl_lib (t, kd, ec, z) ls st S M = some (oc, ls', st', S', M') := hp
    simp only [okB, Bool.or_eq_true] at hk
    rcases hk with hk | hk
    · have hh : t = 0 := Nat.eq_of_beq_eq_true hk
      subst hh
      unfold pl_lib at g5
      split at g5 <;> first | (rename_i hh; cases hh; done) | cases g5
    · have hh : t = 4 := Nat.eq_of_beq_eq_true hk
      subst hh
      unfold pl_lib at g5
      split at g5
      · rename_i hh; cases hh
      · rename_i hh; cases hh
      · rename_i hh; cases hh
      · rename_i a st2 hh
        split at g5
        · rename_i hst8
          cases g5
          exact ps_obj hx hb hmls hown hwb (by omega) (by omega) hd (Nat.ble_eq.mp hst8) (hc _ rfl) (k0 rfl rfl H locs rls hR hl (okvs_tl hst))
        · cases g5
      · rename_i hh; cases hh
      · rename_i hh; cases hh
      · cases g5
  case ldc_w i =>
    simp only [okB, Bool.and_eq_true] at hk
    exact absurd hk.1 hA
  case invokevirtual i =>
    obtain ⟨t, kd, ec, z⟩ := inf
    have g5 : pl_lib (t, kd, ec, z) ls st S M = some (oc, ls', st', S', M') := hp
    simp only [okB, Bool.or_eq_true] at hk
    have hSS := hR.2.2.2.2
    rcases hk with (hk | hk) | hk
    · have hh : t = 0 := Nat.eq_of_beq_eq_true hk
      subst hh
      unfold pl_lib at g5
      split at g5 <;> first | (rename_i hh; cases hh; done) | cases g5
    · have hh : t = 5 := Nat.eq_of_beq_eq_true hk
      subst hh
      unfold pl_lib at g5
      split at g5
      · rename_i hh; cases hh
      · rename_i hh; cases hh
      · rename_i hh; cases hh
      · rename_i hh; cases hh
      · rename_i a st2 hh
        split at g5
        · rename_i hst8
          cases g5
          obtain ⟨q, hq, rfl⟩ := hc _ rfl
          obtain ⟨t1, t2, t3, t4⟩ := strT_ok q hq
          obtain ⟨g1, -⟩ := hCU.2.2.2.2.1.1 q hq
          obtain ⟨cell, o1, o2, o3, -⟩ := g1.kept hSS.2.1
          have hsw := stw_enc as ak st2
          have hst9 := Nat.ble_eq.mp hst8
          have e1 : enc as ak (vA (-q.1)) = .ref (ak q.1.toNat) := by
            show encR as ak (-q.1) = _
            unfold encR
            rw [if_neg (by omega), if_neg (by omega), Int.neg_neg]
          rw [List.map_cons, e1]
          refine W.callR (W.runV (As := []) (rest := st2.map (enc as ak)) ⟨hx, hb, hml, hown, hts⟩ (c_len l n0 D cy ak av L xs hq) (cwV (C := RJ0) 0 hts (good_ws (fun w h => h) (fun w hw9 => ?_)) rfl rfl rfl (by decide +kernel) ⟨by show 1 + 1 ≤ R.frames; omega, by show 8 + (1 + 11) + 20 ≤ R.locals; omega⟩) ⟨fun a U g mk q => ⟨q.1, q.2.blind⟩, ⟨cell, o1, o2, o3⟩, fun U hU hW => ⟨rfl, hCU.moved hSS hU hW⟩⟩ rfl rfl hl.1.1 rfl (lv_room (by omega)) hd ⟨by omega, by omega⟩) ?_
          · rcases List.mem_append.mp hw9 with hw9 | hw9
            · simp only [List.mem_cons, List.not_mem_nil, or_false] at hw9
              rcases hw9 with rfl | rfl | rfl | rfl
              · exact hw _ List.mem_cons_self
              · exact jw_i_len
              · exact jw_s_len
              · exact jw_n_0
            · exact ws_sub jw_c_len w hw9
          · rw [← Int32.ofInt_eq_ofNat, ← t3]
            exact k0 rfl rfl H locs rls hR hl (okvs_cons (show R32 ((strOf (-q.1)).length : Int) by rw [t3]; exact ⟨by omega, by omega⟩) (okvs_tl hst))
        · cases g5
      · rename_i hh; cases hh
      · cases g5
    · have hh : t = 6 := Nat.eq_of_beq_eq_true hk
      subst hh
      unfold pl_lib at g5
      split at g5
      · rename_i hh; cases hh
      · rename_i hh; cases hh
      · rename_i hh; cases hh
      · rename_i hh; cases hh
      · rename_i hh; cases hh
      · rename_i ix a st2 hh
        split at g5
        · rename_i hst8
          cases g5
          obtain ⟨⟨q, hq, rfl⟩, i1, i2⟩ := hc _ rfl
          obtain ⟨t1, t2, t3, t4⟩ := strT_ok q hq
          rw [t3] at i2
          obtain ⟨g1, -⟩ := hCU.2.2.2.2.1.1 q hq
          obtain ⟨cell, o1, o2, o3, -⟩ := g1.kept hSS.2.1
          have hsw := stw_enc as ak st2
          have hst9 := Nat.ble_eq.mp hst8
          have hch : 0 ≤ q.2.getD ix.toNat 0 ∧ q.2.getD ix.toNat 0 ≤ 127 := by
            rw [List.getD_eq_getElem?_getD, List.getElem?_eq_getElem (by omega)]
            exact t4 _ (List.getElem_mem _)
          have e1 : enc as ak (vA (-q.1)) = .ref (ak q.1.toNat) := by
            show encR as ak (-q.1) = _
            unfold encR
            rw [if_neg (by omega), if_neg (by omega), Int.neg_neg]
          rw [List.map_cons, List.map_cons, e1]
          refine W.callR (W.runV (As := [.int (Int32.ofInt ix)]) (rest := st2.map (enc as ak)) ⟨hx, hb, hml, hown, hts⟩ (c_chr l n0 D cy ak av L xs hq i1 i2 t2 hch) (cwV (C := RJ0) 1 hts (good_ws (fun w h => h) (fun w hw9 => ?_)) rfl rfl rfl (by decide +kernel) ⟨by show 3 + 1 ≤ R.frames; omega, by show 8 + (2 + 11) + 100 ≤ R.locals; omega⟩) ⟨fun a U g mk q => ⟨q.1, q.2.blind⟩, ⟨cell, o1, o2, o3⟩, fun U hU hW => ⟨rfl, hCU.moved hSS hU hW⟩⟩ rfl rfl hl.1.1 rfl (lv_room (by omega)) hd ⟨by omega, by omega⟩) ?_
          · rcases List.mem_append.mp hw9 with hw9 | hw9
            · simp only [List.mem_cons, List.not_mem_nil, or_false] at hw9
              rcases hw9 with rfl | rfl | rfl | rfl
              · exact hw _ List.mem_cons_self
              · exact jw_i_chr
              · exact jw_s_chr
              · exact jw_n_0
            · exact ws_sub jw_c_chr w hw9
          · rw [← t3] at hch ⊢
            exact k0 rfl rfl H locs rls hR hl (okvs_cons (show R32 ((strOf (-q.1)).getD ix.toNat 0) from ⟨by omega, by omega⟩) (okvs_tl (okvs_tl hst)))
        · cases g5
      · cases g5
  all_goals first | exact absurd rfl hA | (cases hp; done)
end PSL
