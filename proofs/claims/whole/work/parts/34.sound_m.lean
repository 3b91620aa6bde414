/-! SOUNDNESS: jumps. -/
def jmOK (pc : Nat) (ins : Instr) : Bool := match ins with
  | .goto off => decide (0 ≤ (pc : Int) + off)
  | .ifCond _ off => decide (0 ≤ (pc : Int) + off)
  | .if_icmp _ off => decide (0 ≤ (pc : Int) + off)
  | .ifnull off => decide (0 ≤ (pc : Int) + off)
  | .tableswitch dflt lo hi offs => decide (0 ≤ (pc : Int) + dflt) && decide ((offs.toList.length : Int) = hi - lo + 1) && offs.toList.all (fun o => decide (0 ≤ (pc : Int) + o))
  | _ => true
def isSw : Instr → Bool
  | .tableswitch _ _ _ _ => true
  | _ => false
section PSM
variable {p : Program} {l : Launch} {e : Env} {R : Room} {s : State} {m : MethodId} {args : Array Value} {below : List Frame} {meth : Method} {c : Code} {H : Heap} {locs : List Loc} {cells slots : Nat} {Q : State → Prop}
variable {cc : ByteArray} {pc : Nat} {as : List Nat} {ak : Nat → Nat} {rls : Array Slot} {n : Int}
theorem ps_jm (hx : p.tables.exec = Jvm.exec) (hb : c.code = cc) {ins : Instr} {st st' : List mV} {cnd : Prop} {t len : Nat} (hj : jm pc ins st = some (cnd, t, st')) (hd : decode cc pc = .ok (ins, len)) (hlen : isSw ins = true ∨ len = ilen ins) (hk : jmOK pc ins = true) (hst : ∀ v ∈ st, okv n v)
    (kt : cnd → (∀ v ∈ st', okv n v) → W p l e R s m args below meth c H locs cells slots Q (F0 m t rls (st'.map (enc as ak)))) (kf : ¬ cnd → (∀ v ∈ st', okv n v) → W p l e R s m args below meth c H locs cells slots Q (F0 m (pc + 3) rls (st'.map (enc as ak)))) :
    W p l e R s m args below meth c H locs cells slots Q (F0 m pc rls (st.map (enc as ak))) := by
  cases ins
  case goto off =>
    have hd : decode cc pc = .ok (.goto off, 3) := by rcases hlen with h | h; cases h; rw [hd, h]; rfl
    cases hj
    have h0 := of_decide_eq_true hk
    exact lv_goto hx hb hd (by omega) (kt trivial hst)
  case ifCond cn off =>
    have hd : decode cc pc = .ok (.ifCond cn off, 3) := by rcases hlen with h | h; cases h; rw [hd, h]; rfl
    have h0 : 0 ≤ (pc : Int) + off := of_decide_eq_true hk
    unfold jm at hj
    dsimp only at hj
    split at hj
    · rename_i x st2
      cases hj
      have hxr : R32 x := okvs_hd hst
      have hs := okvs_tl hst
      have ht : (pc : Int) + off = ((((pc : Int) + off).toNat : Nat) : Int) := by omega
      cases cn
      · exact lv_if_eq hx hb hd ht (fun q => kt ((i32_eq hxr r32_0).mp q) hs) (fun q => kf (fun z => q ((i32_eq hxr r32_0).mpr z)) hs)
      · exact lv_if_ne hx hb hd ht (fun q => kt (fun z => q ((i32_eq hxr r32_0).mpr z)) hs) (fun q => kf (fun z => z ((i32_eq hxr r32_0).mp q)) hs)
      · exact lv_if_lt hx hb hd ht (fun q => kt ((i32_lt hxr r32_0).mp q) hs) (fun q => kf (fun z => q ((i32_lt hxr r32_0).mpr z)) hs)
      · exact lv_if_ge hx hb hd ht (fun q => kt ((i32_le r32_0 hxr).mp q) hs) (fun q => kf (fun z => q ((i32_le r32_0 hxr).mpr z)) hs)
      · exact lv_if_gt hx hb hd ht (fun q => kt ((i32_lt r32_0 hxr).mp q) hs) (fun q => kf (fun z => q ((i32_lt r32_0 hxr).mpr z)) hs)
      · exact lv_if_le hx hb hd ht (fun q => kt ((i32_le hxr r32_0).mp q) hs) (fun q => kf (fun z => q ((i32_le hxr r32_0).mpr z)) hs)
    · cases hj
  case if_icmp cn off =>
    have hd : decode cc pc = .ok (.if_icmp cn off, 3) := by rcases hlen with h | h; cases h; rw [hd, h]; rfl
    have h0 : 0 ≤ (pc : Int) + off := of_decide_eq_true hk
    unfold jm at hj
    dsimp only at hj
    split at hj
    · rename_i y x st2
      cases hj
      have hyr : R32 y := okvs_hd hst
      have hxr : R32 x := okvs_hd (okvs_tl hst)
      have hs := okvs_tl (okvs_tl hst)
      have ht : (pc : Int) + off = ((((pc : Int) + off).toNat : Nat) : Int) := by omega
      cases cn
      · exact lv_icmp_eq hx hb hd ht (fun q => kt ((i32_eq hxr hyr).mp q) hs) (fun q => kf (fun z => q ((i32_eq hxr hyr).mpr z)) hs)
      · exact lv_icmp_ne hx hb hd ht (fun q => kt (fun z => q ((i32_eq hxr hyr).mpr z)) hs) (fun q => kf (fun z => z ((i32_eq hxr hyr).mp q)) hs)
      · exact lv_icmp_lt hx hb hd ht (fun q => kt ((i32_lt hxr hyr).mp q) hs) (fun q => kf (fun z => q ((i32_lt hxr hyr).mpr z)) hs)
      · exact lv_icmp_ge hx hb hd ht (fun q => kt ((i32_le hyr hxr).mp q) hs) (fun q => kf (fun z => q ((i32_le hyr hxr).mpr z)) hs)
      · exact lv_icmp_gt hx hb hd ht (fun q => kt ((i32_lt hyr hxr).mp q) hs) (fun q => kf (fun z => q ((i32_lt hyr hxr).mpr z)) hs)
      · exact lv_icmp_le hx hb hd ht (fun q => kt ((i32_le hxr hyr).mp q) hs) (fun q => kf (fun z => q ((i32_le hxr hyr).mpr z)) hs)
    · cases hj
  case ifnull off =>
    have hd : decode cc pc = .ok (.ifnull off, 3) := by rcases hlen with h | h; cases h; rw [hd, h]; rfl
    have h0 : 0 ≤ (pc : Int) + off := of_decide_eq_true hk
    unfold jm at hj
    dsimp only at hj
    split at hj
    · rename_i a st2
      cases hj
      have hs := okvs_tl hst
      have ht : (pc : Int) + off = ((((pc : Int) + off).toNat : Nat) : Int) := by omega
      show W p l e R s m args below meth c H locs cells slots Q (F0 m pc rls (encR as ak a :: List.map (enc as ak) _))
      by_cases ha : a = 0
      · have e0 : encR as ak a = .null := if_pos ha
        rw [e0]
        exact lv_ifnullN hx hb hd ht (kt ha hs)
      · have e0 : ∃ y : Nat, encR as ak a = .ref y := by
          unfold encR
          rw [if_neg ha]
          split <;> exact ⟨_, rfl⟩
        obtain ⟨y, e0⟩ := e0
        rw [e0]
        exact lv_ifnull hx hb hd (kf ha hs)
    · cases hj
  case tableswitch dflt lo hi offs =>
    unfold jm at hj
    dsimp only at hj
    split at hj
    · rename_i x st2
      cases hj
      simp only [jmOK, Bool.and_eq_true, decide_eq_true_eq, List.all_eq_true] at hk
      obtain ⟨⟨h1, h2⟩, h3⟩ := hk
      have hxr : R32 x := okvs_hd hst
      have hs := okvs_tl hst
      have kt := kt trivial hs
      have ex : (Int32.ofInt x).toInt = x := i32_t hxr
      unfold swT at kt
      by_cases ho : x < lo ∨ hi < x
      · rw [if_pos ho] at kt
        exact lv_tableOut hx hb hd (by rw [ex]; exact ho) (by omega) kt
      · rw [if_neg ho] at kt
        have hi2 : (x - lo).toNat < offs.toList.length := by omega
        have hget : offs[(x - lo).toNat]? = some (offs.toList.getD (x - lo).toNat 0) := by
          rw [← Array.getElem?_toList, List.getD_eq_getElem?_getD, List.getElem?_eq_getElem hi2]; rfl
        have hmem : offs.toList.getD (x - lo).toNat 0 ∈ offs.toList := by
          rw [List.getD_eq_getElem?_getD, List.getElem?_eq_getElem hi2]; exact List.getElem_mem hi2
        have h4 := h3 _ hmem
        exact lv_tableIn (off := offs.toList.getD (x - lo).toNat 0) hx hb hd (by rw [ex]; omega) (by rw [ex]; omega) (by rw [ex]; exact hget) (by omega) kt
    · cases hj
  all_goals cases hj
end PSM
