/-! The program's check, as a program: what it says if it says true. -/
def chkE (P : List mMeth) (b : ByteArray) (own nm : String) (x : mEnt) (ps : List Nat) : Bool :=
  (match decode b x.1 with
    | .ok (i, len) => decide (i = x.2.1) && (isSw x.2.1 || Nat.beq len (ilen x.2.1))
    | .error _ => false) && (jmOK x.1 x.2.1 && (okB own nm x.2.1 x.2.2 && (callOK P own x.2.1 x.2.2 && (decide (needB own x.2.1 x.2.2 ++ needC P own x.2.1 x.2.2 = ps.filterMap (fun i => lw_tbl[i]?)) && (needB own x.2.1 x.2.2 ++ needC P own x.2.1 x.2.2).all goodWord))))
def chkL (P : List mMeth) (b : ByteArray) (own nm : String) : List mEnt → List (List Nat) → Bool
  | [], _ => true
  | x :: cs, [] => chkE P b own nm x [] && chkL P b own nm cs []
  | x :: cs, p :: ps => chkE P b own nm x p && chkL P b own nm cs ps
def seqB : List mEnt → Bool
  | x :: x2 :: rest => (noFall x.2.1 || Nat.beq x2.1 (x.1 + ilen x.2.1)) && seqB (x2 :: rest)
  | _ => true
def metB (P : List mMeth) (q : Nat) : Bool :=
  decide (mxOf P q ≤ 40) && (decide (argw (mGet P q).2.1 ≤ mxOf P q) && (plainName (yOf q).cls && (decide ((yOf q).cls ≠ "java/lang/invoke/MethodHandle") && (decide ((yOf q).cls ≠ "java/lang/invoke/VarHandle") && (decide ((parseMethodDescriptor (yOf q).desc).map (fun d => d.parameters.length) = some (nPar P q)) && (retOK (mRet P q) (rOf q) && (match mCode P q with | [] => true | x :: _ => Nat.beq x.1 0)))))))
theorem chkE_spec {P : List mMeth} {j : Nat} {x : mEnt} {ps : List Nat} (h : chkE P (bOf j) (yOf j).cls (yOf j).name x ps = true) : entOK P j x := by
  unfold chkE at h
  simp only [Bool.and_eq_true, decide_eq_true_eq] at h
  obtain ⟨h1, h2, h3, h4, h5, h6⟩ := h
  have hw : ∀ w ∈ needB (yOf j).cls x.2.1 x.2.2 ++ needC P (yOf j).cls x.2.1 x.2.2, w ∈ WSg := by
    intro w hw
    refine List.mem_filter.mpr ⟨?_, List.all_eq_true.mp h6 w hw⟩
    rw [h5] at hw
    obtain ⟨i, -, hi⟩ := List.mem_filterMap.mp hw
    exact List.mem_of_getElem? hi
  refine ⟨?_, h2, h3, fun w h => hw w (List.mem_append_left _ h), fun w h => hw w (List.mem_append_right _ h), h4⟩
  cases hd : decode (bOf j) x.1 with
  | error e => rw [hd] at h1; cases h1
  | ok y =>
    obtain ⟨i, len⟩ := y
    rw [hd] at h1
    simp only [Bool.and_eq_true, Bool.or_eq_true, decide_eq_true_eq] at h1
    refine ⟨len, by rw [h1.1], ?_⟩
    rcases h1.2 with q | q
    · exact Or.inl q
    · exact Or.inr (Nat.eq_of_beq_eq_true q)
theorem chkL_spec {P : List mMeth} {j : Nat} : ∀ (cs : List mEnt) (ps : List (List Nat)), chkL P (bOf j) (yOf j).cls (yOf j).name cs ps = true → ∀ x ∈ cs, entOK P j x := by
  intro cs
  induction cs with
  | nil => intro ps h x hx; cases hx
  | cons y cs ih =>
    intro ps h x hx
    cases ps with
    | nil =>
      simp only [chkL, Bool.and_eq_true] at h
      rcases List.mem_cons.mp hx with rfl | hx
      · exact chkE_spec h.1
      · exact ih [] h.2 x hx
    | cons p ps =>
      simp only [chkL, Bool.and_eq_true] at h
      rcases List.mem_cons.mp hx with rfl | hx
      · exact chkE_spec h.1
      · exact ih ps h.2 x hx
theorem seqB_spec : ∀ (cs : List mEnt), seqB cs = true → ∀ (x x2 : mEnt) (rest : List mEnt), x :: x2 :: rest <:+ cs → noFall x.2.1 = false → x2.1 = x.1 + ilen x.2.1 := by
  intro cs
  induction cs with
  | nil => intro h x x2 rest hs; exact absurd (List.suffix_nil.mp hs) (by simp)
  | cons y cs ih =>
    intro h x x2 rest hs hn
    rcases List.suffix_cons_iff.mp hs with e | hs
    · cases e
      simp only [seqB, Bool.and_eq_true, Bool.or_eq_true] at h
      rcases h.1 with q | q
      · rw [hn] at q; cases q
      · exact Nat.eq_of_beq_eq_true q
    · refine ih ?_ x x2 rest hs hn
      cases cs with
      | nil => rfl
      | cons z cs => simp only [seqB, Bool.and_eq_true] at h; exact h.2
theorem metB_spec {P : List mMeth} {q : Nat} (h : metB P q = true) : metOK P q := by
  unfold metB at h
  simp only [Bool.and_eq_true, decide_eq_true_eq] at h
  obtain ⟨h1, h2, h3, h4, h5, h6, h7, h8⟩ := h
  refine ⟨h1, h2, h3, ⟨h4, h5, h6⟩, h7, fun x cs e => ?_⟩
  rw [e] at h8
  exact Nat.eq_of_beq_eq_true h8
def chkM (P : List mMeth) (j : Nat) (b : ByteArray) (own nm : String) (cs : List mEnt) (ps : List (List Nat)) : Bool := chkL P b own nm cs ps && (seqB cs && metB P j)
theorem chkM_spec {P : List mMeth} {j : Nat} {ps : List (List Nat)} (h : chkM P j (bOf j) (yOf j).cls (yOf j).name (mCode P j) ps = true) : (∀ x ∈ mCode P j, entOK P j x) ∧ (∀ (x x2 : mEnt) (rest : List mEnt), x :: x2 :: rest <:+ mCode P j → noFall x.2.1 = false → x2.1 = x.1 + ilen x.2.1) ∧ metOK P j := by
  unfold chkM at h
  simp only [Bool.and_eq_true] at h
  exact ⟨chkL_spec _ _ h.1, seqB_spec _ h.2.1, metB_spec h.2.2⟩
theorem newOK_of {P : List mMeth} (h : ∀ j, j < P.length → ∀ x ∈ mCode P j, entOK P j x) : newOK P := by
  intro j x hx i hi
  rcases Nat.lt_or_ge j P.length with hj | hj
  · obtain ⟨-, -, h3, -⟩ := h j hj x hx
    rw [hi] at h3
    simp only [okB, Bool.and_eq_true, decide_eq_true_eq] at h3
    rw [h3.2]; omega
  · rw [mCode_nil (by omega)] at hx; cases hx
