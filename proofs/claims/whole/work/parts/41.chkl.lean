/-! Checks (by program: wip/whole/gen6.py). -/
set_option maxRecDepth 1000000 in
theorem ckl_s : (seqB pm258.2.2.2.2 && metB PR 258) = true := by decide +kernel
theorem mem_td {α : Type} {x : α} {l : List α} (n : Nat) (h : x ∈ l) : x ∈ l.take n ∨ x ∈ l.drop n := List.mem_append.mp (by rw [List.take_append_drop]; exact h)
theorem ckl_all : ∀ x ∈ mCode PR 258, entOK PR 258 x := by
  intro x hx
  have hx : x ∈ pm258.2.2.2.2.drop 0 := hx
  rcases mem_td 40 hx with h | h
  · exact chkL_spec (j := 258) _ _ ckl_0 x h
  rw [List.drop_drop] at h
  have hx : x ∈ pm258.2.2.2.2.drop 40 := h
  rcases mem_td 40 hx with h | h
  · exact chkL_spec (j := 258) _ _ ckl_1 x h
  rw [List.drop_drop] at h
  have hx : x ∈ pm258.2.2.2.2.drop 80 := h
  rcases mem_td 40 hx with h | h
  · exact chkL_spec (j := 258) _ _ ckl_2 x h
  rw [List.drop_drop] at h
  have hx : x ∈ pm258.2.2.2.2.drop 120 := h
  rcases mem_td 40 hx with h | h
  · exact chkL_spec (j := 258) _ _ ckl_3 x h
  rw [List.drop_drop] at h
  have hx : x ∈ pm258.2.2.2.2.drop 160 := h
  rcases mem_td 40 hx with h | h
  · exact chkL_spec (j := 258) _ _ ckl_4 x h
  rw [List.drop_drop] at h
  have hx : x ∈ pm258.2.2.2.2.drop 200 := h
  rcases mem_td 40 hx with h | h
  · exact chkL_spec (j := 258) _ _ ckl_5 x h
  rw [List.drop_drop] at h
  have hx : x ∈ pm258.2.2.2.2.drop 240 := h
  rcases mem_td 40 hx with h | h
  · exact chkL_spec (j := 258) _ _ ckl_6 x h
  rw [List.drop_drop] at h
  have hx : x ∈ pm258.2.2.2.2.drop 280 := h
  rcases mem_td 40 hx with h | h
  · exact chkL_spec (j := 258) _ _ ckl_7 x h
  rw [List.drop_drop] at h
  have hx : x ∈ pm258.2.2.2.2.drop 320 := h
  rcases mem_td 40 hx with h | h
  · exact chkL_spec (j := 258) _ _ ckl_8 x h
  rw [List.drop_drop] at h
  have hx : x ∈ pm258.2.2.2.2.drop 360 := h
  rcases mem_td 40 hx with h | h
  · exact chkL_spec (j := 258) _ _ ckl_9 x h
  rw [List.drop_drop] at h
  have hx : x ∈ pm258.2.2.2.2.drop 400 := h
  rcases mem_td 40 hx with h | h
  · exact chkL_spec (j := 258) _ _ ckl_10 x h
  rw [List.drop_drop] at h
  have hx : x ∈ pm258.2.2.2.2.drop 440 := h
  rcases mem_td 40 hx with h | h
  · exact chkL_spec (j := 258) _ _ ckl_11 x h
  rw [List.drop_drop] at h
  have hx : x ∈ pm258.2.2.2.2.drop 480 := h
  rcases mem_td 40 hx with h | h
  · exact chkL_spec (j := 258) _ _ ckl_12 x h
  rw [List.drop_drop] at h
  have hx : x ∈ pm258.2.2.2.2.drop 520 := h
  rcases mem_td 40 hx with h | h
  · exact chkL_spec (j := 258) _ _ ckl_13 x h
  rw [List.drop_drop] at h
  have hx : x ∈ pm258.2.2.2.2.drop 560 := h
  rcases mem_td 40 hx with h | h
  · exact chkL_spec (j := 258) _ _ ckl_14 x h
  rw [List.drop_drop] at h
  have hx : x ∈ pm258.2.2.2.2.drop 600 := h
  rcases mem_td 40 hx with h | h
  · exact chkL_spec (j := 258) _ _ ckl_15 x h
  rw [List.drop_drop] at h
  have hx : x ∈ pm258.2.2.2.2.drop 640 := h
  rcases mem_td 40 hx with h | h
  · exact chkL_spec (j := 258) _ _ ckl_16 x h
  rw [List.drop_drop] at h
  have hx : x ∈ pm258.2.2.2.2.drop 680 := h
  rcases mem_td 40 hx with h | h
  · exact chkL_spec (j := 258) _ _ ckl_17 x h
  rw [List.drop_drop] at h
  have hx : x ∈ pm258.2.2.2.2.drop 720 := h
  rcases mem_td 40 hx with h | h
  · exact chkL_spec (j := 258) _ _ ckl_18 x h
  rw [List.drop_drop] at h
  have hx : x ∈ pm258.2.2.2.2.drop 760 := h
  rcases mem_td 40 hx with h | h
  · exact chkL_spec (j := 258) _ _ ckl_19 x h
  rw [List.drop_drop] at h
  have hx : x ∈ pm258.2.2.2.2.drop 800 := h
  have e : pm258.2.2.2.2.drop 800 = [] := by decide +kernel
  rw [e] at hx
  cases hx
theorem okl_258 : (∀ x ∈ mCode PR 258, entOK PR 258 x) ∧ (∀ (x x2 : mEnt) (rest : List mEnt), x :: x2 :: rest <:+ mCode PR 258 → noFall x.2.1 = false → x2.1 = x.1 + ilen x.2.1) ∧ metOK PR 258 := by
  have h := ckl_s
  simp only [Bool.and_eq_true] at h
  exact ⟨ckl_all, seqB_spec _ h.1, metB_spec h.2⟩
