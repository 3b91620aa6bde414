/-! SOUNDNESS, third piece: one plain instruction that leaves the heap. -/
section PSC
variable {p : Program} {l : Launch} {e : Env} {R : Room} {s : State} {m : MethodId} {args : Array Value} {below : List Frame} {meth : Method} {c : Code} {H : Heap} {locs : List Loc} {cells slots : Nat} {Q : State → Prop}
variable {cc : ByteArray} {pc : Nat} {as : List Nat} {ak : Nat → Nat} {n : Int} {nL : Nat} {rls : Array Slot} {own : String}
set_option maxHeartbeats 4000000 in
theorem psA (hx : p.tables.exec = Jvm.exec) (hb : c.code = cc) (hown : s.vm.findClass own = some m.cls) {ins : Instr} {inf : mInf} {ls st : List mV} {S : mSh} {M : mMem} {oc : Option Prop} {ls' st' : List mV} {S' : mSh} {M' : mMem}
    (hA : insA ins inf = true) (hp : pl ins inf ls st S M = some (oc, ls', st', S', M')) (hc : ∀ q, oc = some q → q) (hd : decode cc pc = .ok (ins, ilen ins)) (hk : okA ins inf = true) (hw : ∀ w ∈ needA own ins inf, w.before args s = true)
    (hl : LR as ak n rls nL ls) (hst : ∀ v ∈ st, okv n v) (h0 : 0 ≤ n)
    (kk : S' = S → M' = M → ∀ rls', LR as ak n rls' nL ls' → (∀ v ∈ st', okv n v) → W p l e R s m args below meth c H locs cells slots Q (F0 m (pc + ilen ins) rls' (st'.map (enc as ak)))) :
    W p l e R s m args below meth c H locs cells slots Q (F0 m pc rls (st.map (enc as ak))) := by
  cases ins
  case aconst_null =>
    cases hp
    exact lv_null hx hb hd (kk rfl rfl rls hl (okvs_cons h0 hst))
  case iload i =>
    rcases pl_load_inv hp with ⟨-, x, h1, h2⟩ | ⟨h, -⟩ | ⟨h, -⟩
    · cases h2
      exact lv_iload hx hb hd (hl.at h1 (gdb_i h1) (fun e => by cases e)) (kk rfl rfl rls hl (okvs_cons (hl.ok h1 (fun e => by cases e)) hst))
    · cases h
    · cases h
  case iload_n i =>
    rcases pl_load_inv hp with ⟨-, x, h1, h2⟩ | ⟨h, -⟩ | ⟨h, -⟩
    · cases h2
      exact lv_iload_n hx hb hd rfl (hl.at h1 (gdb_i h1) (fun e => by cases e)) (kk rfl rfl rls hl (okvs_cons (hl.ok h1 (fun e => by cases e)) hst))
    · cases h
    · cases h
  case lload i =>
    rcases pl_load_inv hp with ⟨h, -⟩ | ⟨-, x, h1, h3, h2⟩ | ⟨h, -⟩
    · cases h
    · cases h2
      exact lv_lload hx hb hd (hl.at h1 (gdb_l h1 h3) (fun e => by cases e)) (kk rfl rfl rls hl (okvs_cons (hl.ok h1 (fun e => by cases e)) hst))
    · cases h
  case lload_n i =>
    rcases pl_load_inv hp with ⟨h, -⟩ | ⟨-, x, h1, h3, h2⟩ | ⟨h, -⟩
    · cases h
    · cases h2
      exact lv_lload_n hx hb hd rfl (hl.at h1 (gdb_l h1 h3) (fun e => by cases e)) (kk rfl rfl rls hl (okvs_cons (hl.ok h1 (fun e => by cases e)) hst))
    · cases h
  case aload i =>
    rcases pl_load_inv hp with ⟨h, -⟩ | ⟨h, -⟩ | ⟨-, x, h1, h2⟩
    · cases h
    · cases h
    · cases h2
      exact ps_aload hx hb hd hl h1 (kk rfl rfl rls hl (okvs_cons (hl.ok h1 (fun e => by cases e)) hst))
  case aload_n i =>
    rcases pl_load_inv hp with ⟨h, -⟩ | ⟨h, -⟩ | ⟨-, x, h1, h2⟩
    · cases h
    · cases h
    · cases h2
      exact ps_aload_n hx hb hd hl h1 (kk rfl rfl rls hl (okvs_cons (hl.ok h1 (fun e => by cases e)) hst))
  case istore i =>
    rcases pl_store_inv hp with ⟨-, x, st2, h1, h3, h2⟩ | ⟨h, -⟩ | ⟨h, -⟩
    · cases h2; subst h1
      exact lv_istore hx hb hd hl.1 (hl.2.1 ▸ h3) rfl (fun rls' h' => kk rfl rfl rls' (hl.set1 h3 rfl (okvs_hd hst) h') (okvs_tl hst))
    · cases h
    · cases h
  case istore_n i =>
    rcases pl_store_inv hp with ⟨-, x, st2, h1, h3, h2⟩ | ⟨h, -⟩ | ⟨h, -⟩
    · cases h2; subst h1
      exact lv_istore_n hx hb hd rfl hl.1 (hl.2.1 ▸ h3) rfl (fun rls' h' => kk rfl rfl rls' (hl.set1 h3 rfl (okvs_hd hst) h') (okvs_tl hst))
    · cases h
    · cases h
  case lstore i =>
    rcases pl_store_inv hp with ⟨h, -⟩ | ⟨-, x, st2, h1, h3, h2⟩ | ⟨h, -⟩
    · cases h
    · cases h2; subst h1
      exact lv_lstore hx hb hd hl.1 (hl.2.1 ▸ h3) rfl (fun rls' h' => kk rfl rfl rls' (hl.set2 h3 (okvs_hd hst) h') (okvs_tl hst))
    · cases h
  case lstore_n i =>
    rcases pl_store_inv hp with ⟨h, -⟩ | ⟨-, x, st2, h1, h3, h2⟩ | ⟨h, -⟩
    · cases h
    · cases h2; subst h1
      exact lv_lstore_n hx hb hd rfl hl.1 (hl.2.1 ▸ h3) rfl (fun rls' h' => kk rfl rfl rls' (hl.set2 h3 (okvs_hd hst) h') (okvs_tl hst))
    · cases h
  case astore i =>
    rcases pl_store_inv hp with ⟨h, -⟩ | ⟨h, -⟩ | ⟨-, x, st2, h1, h3, h2⟩
    · cases h
    · cases h
    · cases h2; subst h1
      exact ps_astore hx hb hd hl h3 (okvs_hd hst) (fun rls' h' => kk rfl rfl rls' h' (okvs_tl hst))
  case astore_n i =>
    rcases pl_store_inv hp with ⟨h, -⟩ | ⟨h, -⟩ | ⟨-, x, st2, h1, h3, h2⟩
    · cases h
    · cases h
    · cases h2; subst h1
      exact ps_astore_n hx hb hd hl h3 (okvs_hd hst) (fun rls' h' => kk rfl rfl rls' h' (okvs_tl hst))
  case iinc i k =>
    unfold pl at hp
    dsimp only at hp
    split at hp
    · rename_i x h1
      cases hp
      have hr : R32 (x + k) := hc _ rfl
      have hi : i < ls.length := (getD_mem h1 (fun e => by cases e)).1
      have hmem : ((i, Value.int (Int32.ofInt x)) : Nat × Value) ∈ lvl as ak ls := mem_lvl.mpr ⟨hi, gdb_i h1, by show Value.int (Int32.ofInt x) = enc as ak (ls.getD i vU); rw [h1]; rfl⟩
      obtain ⟨k0, hk0⟩ := List.getElem?_of_mem hmem
      exact lv_iinc (v := Int32.ofInt (x + k)) hx hb hd hl.1 hk0 (Int32.ofInt_add x k).symm (hl.2.1 ▸ hi) rfl (fun rls' h' => kk rfl rfl rls' (hl.set1 hi rfl hr h') hst)
    · cases hp
  case iconst v =>
    cases hp
    have hv := bR_spec hk
    exact lv_iconst hx hb hd rfl (kk rfl rfl rls hl (okvs_cons (show R32 v from ⟨by omega, by omega⟩) hst))
  case bipush v =>
    cases hp
    have hv := bR_spec hk
    exact lv_bipush hx hb hd (byte_ext hv) (kk rfl rfl rls hl (okvs_cons (show R32 v from ⟨by omega, by omega⟩) hst))
  case sipush v =>
    cases hp
    have hv := bR_spec hk
    exact lv_sipush hx hb hd (short_ext hv) (kk rfl rfl rls hl (okvs_cons (show R32 v from ⟨by omega, by omega⟩) hst))
  case lconst v =>
    cases hp
    have hv : (v.val : Int) < 2 := by have := v.isLt; omega
    exact lv_lconst (v := Int64.ofInt (v.val : Int)) hx hb hd (by rw [Int64.ofInt_eq_ofNat]) (kk rfl rfl rls hl (okvs_cons (show R64 (v.val : Int) from ⟨by omega, by omega⟩) hst))
  case ldc i =>
    obtain ⟨t, v, a, b⟩ := inf
    have ht : t = 0 := Nat.eq_of_beq_eq_true hA
    subst ht
    cases hp
    have hv := bR_spec hk
    exact lv_ldc hx hb hown (hw _ List.mem_cons_self) hd (kk rfl rfl rls hl (okvs_cons (show R32 v from hv) hst))
  case ldc_w i =>
    obtain ⟨t, v, a, b⟩ := inf
    have ht : t = 0 := Nat.eq_of_beq_eq_true hA
    subst ht
    cases hp
    have hv := bR_spec hk
    exact lv_ldcw hx hb hown (hw _ List.mem_cons_self) hd (kk rfl rfl rls hl (okvs_cons (show R32 v from hv) hst))
  case ldc2_w i =>
    obtain ⟨t, v, a, b⟩ := inf
    cases hp
    have hv := bR_spec hk
    exact lv_ldc2 hx hb hown (hw _ List.mem_cons_self) hd (kk rfl rfl rls hl (okvs_cons (show R64 v from hv) hst))
  case dup =>
    unfold pl at hp
    dsimp only at hp
    split at hp
    · rename_i v st2
      split at hp
      · rename_i h1
        cases hp
        exact lv_dup hx hb hd (enc_cat as ak h1) (kk rfl rfl rls hl (okvs_cons (okvs_hd hst) hst))
      · cases hp
    · cases hp
  case pop =>
    unfold pl at hp
    dsimp only at hp
    split at hp
    · rename_i v st2
      split at hp
      · rename_i h1
        cases hp
        exact lv_pop hx hb hd (enc_cat as ak h1) (kk rfl rfl rls hl (okvs_tl hst))
      · cases hp
    · cases hp
  case dup2 =>
    unfold pl at hp
    dsimp only at hp
    split at hp
    · rename_i v w st2
      split at hp
      · rename_i h1 h2
        cases hp
        exact lv_dup2_11 hx hb hd (enc_cat as ak h1) (enc_cat as ak h2) (kk rfl rfl rls hl (okvs_cons (okvs_hd hst) (okvs_cons (okvs_hd (okvs_tl hst)) hst)))
      · cases hp
    · cases hp
  case iadd =>
    obtain ⟨x, y, st2, h1, h2⟩ := pl_bin_inv hp
    cases h2; subst h1
    refine lv_iadd hx hb hd ?_
    rw [← Int32.ofInt_add]
    exact kk rfl rfl rls hl (okvs_cons (hc _ rfl) (okvs_tl (okvs_tl hst)))
  case isub =>
    obtain ⟨x, y, st2, h1, h2⟩ := pl_bin_inv hp
    cases h2; subst h1
    refine lv_isub hx hb hd ?_
    rw [← Int32.ofInt_sub]
    exact kk rfl rfl rls hl (okvs_cons (hc _ rfl) (okvs_tl (okvs_tl hst)))
  case imul =>
    obtain ⟨x, y, st2, h1, h2⟩ := pl_bin_inv hp
    cases h2; subst h1
    refine lv_imul hx hb hd ?_
    rw [← Int32.ofInt_mul]
    exact kk rfl rfl rls hl (okvs_cons (hc _ rfl) (okvs_tl (okvs_tl hst)))
  case idiv =>
    obtain ⟨x, y, st2, h1, h2⟩ := pl_bin_inv hp
    cases h2; subst h1
    obtain ⟨hy0, hr⟩ := hc _ rfl
    have hy : R32 y := okvs_hd hst
    have hx2 : R32 x := okvs_hd (okvs_tl hst)
    refine lv_idiv hx hb hd (fun q => hy0 ((i32_eq hy r32_0).mp q)) ?_
    rw [← i32_div hx2 hy]
    exact kk rfl rfl rls hl (okvs_cons hr (okvs_tl (okvs_tl hst)))
  case irem =>
    obtain ⟨x, y, st2, h1, h2⟩ := pl_bin_inv hp
    cases h2; subst h1
    obtain ⟨hy0, hr⟩ := hc _ rfl
    have hy : R32 y := okvs_hd hst
    have hx2 : R32 x := okvs_hd (okvs_tl hst)
    refine lv_irem hx hb hd (fun q => hy0 ((i32_eq hy r32_0).mp q)) ?_
    rw [i32_rem hx2 hy]
    exact kk rfl rfl rls hl (okvs_cons (tmod_R32 hy hy0) (okvs_tl (okvs_tl hst)))
  case iand =>
    obtain ⟨x, y, st2, h1, h2⟩ := pl_bin_inv hp
    cases h2; subst h1
    refine lv_iand hx hb hd ?_
    rw [← Int32.ofInt_toInt (Int32.ofInt x &&& Int32.ofInt y)]
    exact kk rfl rfl rls hl (okvs_cons (r32_rng _) (okvs_tl (okvs_tl hst)))
  case ior =>
    obtain ⟨x, y, st2, h1, h2⟩ := pl_bin_inv hp
    cases h2; subst h1
    refine lv_ior hx hb hd ?_
    rw [← Int32.ofInt_toInt (Int32.ofInt x ||| Int32.ofInt y)]
    exact kk rfl rfl rls hl (okvs_cons (r32_rng _) (okvs_tl (okvs_tl hst)))
  case ishl =>
    obtain ⟨x, y, st2, h1, h2⟩ := pl_bin_inv hp
    cases h2; subst h1
    refine lv_ishl hx hb hd ?_
    rw [← Int32.ofInt_toInt (Int32.ofInt x <<< (Int32.ofInt y &&& 31))]
    exact kk rfl rfl rls hl (okvs_cons (r32_rng _) (okvs_tl (okvs_tl hst)))
  case ishr =>
    obtain ⟨x, y, st2, h1, h2⟩ := pl_bin_inv hp
    cases h2; subst h1
    refine lv_ishr hx hb hd ?_
    rw [← Int32.ofInt_toInt (Int32.ofInt x >>> (Int32.ofInt y &&& 31))]
    exact kk rfl rfl rls hl (okvs_cons (r32_rng _) (okvs_tl (okvs_tl hst)))
  case ineg =>
    unfold pl at hp
    dsimp only at hp
    split at hp
    · rename_i x st2
      cases hp
      refine lv_ineg hx hb hd ?_
      rw [← Int32.ofInt_neg]
      exact kk rfl rfl rls hl (okvs_cons (hc _ rfl) (okvs_tl hst))
    · cases hp
  case ladd =>
    obtain ⟨x, y, st2, h1, h2⟩ := pl_binL_inv hp
    cases h2; subst h1
    refine lv_ladd hx hb hd ?_
    rw [← Int64.ofInt_add]
    exact kk rfl rfl rls hl (okvs_cons (hc _ rfl) (okvs_tl (okvs_tl hst)))
  case lsub =>
    obtain ⟨x, y, st2, h1, h2⟩ := pl_binL_inv hp
    cases h2; subst h1
    refine lv_lsub hx hb hd ?_
    rw [← Int64.ofInt_sub]
    exact kk rfl rfl rls hl (okvs_cons (hc _ rfl) (okvs_tl (okvs_tl hst)))
  case lmul =>
    obtain ⟨x, y, st2, h1, h2⟩ := pl_binL_inv hp
    cases h2; subst h1
    refine lv_lmul hx hb hd ?_
    rw [← Int64.ofInt_mul]
    exact kk rfl rfl rls hl (okvs_cons (hc _ rfl) (okvs_tl (okvs_tl hst)))
  case ldiv =>
    obtain ⟨x, y, st2, h1, h2⟩ := pl_binL_inv hp
    cases h2; subst h1
    obtain ⟨hy0, hr⟩ := hc _ rfl
    have hy : R64 y := okvs_hd hst
    have hx2 : R64 x := okvs_hd (okvs_tl hst)
    refine lv_ldiv hx hb hd (fun q => hy0 ((i64_eq hy ⟨by decide, by decide⟩).mp q)) ?_
    rw [← i64_div hx2 hy]
    exact kk rfl rfl rls hl (okvs_cons hr (okvs_tl (okvs_tl hst)))
  case lrem =>
    obtain ⟨x, y, st2, h1, h2⟩ := pl_binL_inv hp
    cases h2; subst h1
    obtain ⟨hy0, hr⟩ := hc _ rfl
    have hy : R64 y := okvs_hd hst
    have hx2 : R64 x := okvs_hd (okvs_tl hst)
    refine lv_lrem hx hb hd (fun q => hy0 ((i64_eq hy ⟨by decide, by decide⟩).mp q)) ?_
    rw [i64_rem hx2 hy]
    exact kk rfl rfl rls hl (okvs_cons (tmod_R64 hy hy0) (okvs_tl (okvs_tl hst)))
  case lcmp =>
    unfold pl at hp
    dsimp only at hp
    split at hp
    · rename_i y x st2
      cases hp
      refine W.lcmp hx hb hd ?_
      rw [lcp_enc (okvs_hd (okvs_tl hst)) (okvs_hd hst)]
      exact kk rfl rfl rls hl (okvs_cons (lcp_rng x y) (okvs_tl (okvs_tl hst)))
    · cases hp
  case i2l =>
    unfold pl at hp
    dsimp only at hp
    split at hp
    · rename_i x st2
      cases hp
      have hr : R32 x := okvs_hd hst
      exact lv_i2l hx hb hd (i32_long hr) (kk rfl rfl rls hl (okvs_cons (show R64 x from ⟨by have := hr.1; omega, by have := hr.2; omega⟩) (okvs_tl hst)))
    · cases hp
  case l2i =>
    unfold pl at hp
    dsimp only at hp
    split at hp
    · rename_i x st2
      cases hp
      exact lv_l2i hx hb hd (w32_enc x) (kk rfl rfl rls hl (okvs_cons (w32_rng x) (okvs_tl hst)))
    · cases hp
  all_goals cases hA
end PSC
