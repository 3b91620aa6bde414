/-! The class's words (by program: wip/whole/gen80.py). -/
theorem is_99 : isS (-99) := ⟨(99, [108, 111, 115, 101, 115]), by decide, rfl⟩
theorem iw_99 : wdL (strOf (-99)) ∧ codW (strOf (-99)) = 13094067 := by
  rw [show strOf (-99) = [108, 111, 115, 101, 115] from rfl]
  exact ⟨⟨by decide, by decide, by decide⟩, by decide⟩
theorem is_101 : isS (-101) := ⟨(101, [121, 105, 101, 108, 100, 115]), by decide, rfl⟩
theorem iw_101 : wdL (strOf (-101)) ∧ codW (strOf (-101)) = 848474259 := by
  rw [show strOf (-101) = [121, 105, 101, 108, 100, 115] from rfl]
  exact ⟨⟨by decide, by decide, by decide⟩, by decide⟩
theorem is_103 : isS (-103) := ⟨(103, [98, 97, 114, 115]), by decide, rfl⟩
theorem iw_103 : wdL (strOf (-103)) ∧ codW (strOf (-103)) = 67155 := by
  rw [show strOf (-103) = [98, 97, 114, 115] from rfl]
  exact ⟨⟨by decide, by decide, by decide⟩, by decide⟩
theorem is_105 : isS (-105) := ⟨(105, [112, 111, 117, 114]), by decide, rfl⟩
theorem iw_105 : wdL (strOf (-105)) ∧ codW (strOf (-105)) = 540338 := by
  rw [show strOf (-105) = [112, 111, 117, 114] from rfl]
  exact ⟨⟨by decide, by decide, by decide⟩, by decide⟩
theorem is_107 : isS (-107) := ⟨(107, [114, 97, 99, 107]), by decide, rfl⟩
theorem iw_107 : wdL (strOf (-107)) ∧ codW (strOf (-107)) = 590955 := by
  rw [show strOf (-107) = [114, 97, 99, 107] from rfl]
  exact ⟨⟨by decide, by decide, by decide⟩, by decide⟩
theorem is_109 : isS (-109) := ⟨(109, [98, 111, 116, 116, 108, 101]), by decide, rfl⟩
theorem iw_109 : wdL (strOf (-109)) ∧ codW (strOf (-109)) = 83513733 := by
  rw [show strOf (-109) = [98, 111, 116, 116, 108, 101] from rfl]
  exact ⟨⟨by decide, by decide, by decide⟩, by decide⟩
theorem is_111 : isS (-111) := ⟨(111, [112, 97, 115, 115]), by decide, rfl⟩
theorem iw_111 : wdL (strOf (-111)) ∧ codW (strOf (-111)) = 525939 := by
  rw [show strOf (-111) = [112, 97, 115, 115] from rfl]
  exact ⟨⟨by decide, by decide, by decide⟩, by decide⟩
theorem is_81 : isS (-81) := ⟨(81, [102, 114, 111, 109]), by decide, rfl⟩
theorem iw_81 : wdL (strOf (-81)) ∧ codW (strOf (-81)) = 215533 := by
  rw [show strOf (-81) = [102, 114, 111, 109] from rfl]
  exact ⟨⟨by decide, by decide, by decide⟩, by decide⟩
theorem is_83 : isS (-83) := ⟨(83, [105, 110]), by decide, rfl⟩
theorem iw_83 : wdL (strOf (-83)) ∧ codW (strOf (-83)) = 302 := by
  rw [show strOf (-83) = [105, 110] from rfl]
  exact ⟨⟨by decide, by decide, by decide⟩, by decide⟩
theorem is_177 : isS (-177) := ⟨(177, [91]), by decide, rfl⟩
theorem ig_177 : strOf (-177) = [91] ∧ ck 91 = 3 ∧ (91 : Int) ≠ 32 := ⟨rfl, by decide, by decide⟩
theorem is_179 : isS (-179) := ⟨(179, [93]), by decide, rfl⟩
theorem ig_179 : strOf (-179) = [93] ∧ ck 93 = 3 ∧ (93 : Int) ≠ 32 := ⟨rfl, by decide, by decide⟩
theorem is_191 : isS (-191) := ⟨(191, [99, 97, 115, 107]), by decide, rfl⟩
theorem iw_191 : wdL (strOf (-191)) ∧ codW (strOf (-191)) = 99947 := by
  rw [show strOf (-191) = [99, 97, 115, 107] from rfl]
  exact ⟨⟨by decide, by decide, by decide⟩, by decide⟩
theorem is_193 : isS (-193) := ⟨(193, [116, 105, 101, 114]), by decide, rfl⟩
theorem iw_193 : wdL (strOf (-193)) ∧ codW (strOf (-193)) = 664754 := by
  rw [show strOf (-193) = [116, 105, 101, 114] from rfl]
  exact ⟨⟨by decide, by decide, by decide⟩, by decide⟩
theorem is_195 : isS (-195) := ⟨(195, [115, 105, 122, 101]), by decide, rfl⟩
theorem iw_195 : wdL (strOf (-195)) ∧ codW (strOf (-195)) = 632645 := by
  rw [show strOf (-195) = [115, 105, 122, 101] from rfl]
  exact ⟨⟨by decide, by decide, by decide⟩, by decide⟩
theorem is_196 : isS (-196) := ⟨(196, [102, 117, 108, 108]), by decide, rfl⟩
theorem iw_196 : wdL (strOf (-196)) ∧ codW (strOf (-196)) = 218508 := by
  rw [show strOf (-196) = [102, 117, 108, 108] from rfl]
  exact ⟨⟨by decide, by decide, by decide⟩, by decide⟩
theorem is_198 : isS (-198) := ⟨(198, [109, 101, 97, 110]), by decide, rfl⟩
theorem iw_198 : wdL (strOf (-198)) ∧ codW (strOf (-198)) = 431150 := by
  rw [show strOf (-198) = [109, 101, 97, 110] from rfl]
  exact ⟨⟨by decide, by decide, by decide⟩, by decide⟩
theorem is_200 : isS (-200) := ⟨(200, [121, 101, 97, 114]), by decide, rfl⟩
theorem iw_200 : wdL (strOf (-200)) ∧ codW (strOf (-200)) = 824370 := by
  rw [show strOf (-200) = [121, 101, 97, 114] from rfl]
  exact ⟨⟨by decide, by decide, by decide⟩, by decide⟩
theorem is_202 : isS (-202) := ⟨(202, [109, 111, 111, 100]), by decide, rfl⟩
theorem iw_202 : wdL (strOf (-202)) ∧ codW (strOf (-202)) = 441828 := by
  rw [show strOf (-202) = [109, 111, 111, 100] from rfl]
  exact ⟨⟨by decide, by decide, by decide⟩, by decide⟩
theorem is_204 : isS (-204) := ⟨(204, [100, 111, 110, 101]), by decide, rfl⟩
theorem iw_204 : wdL (strOf (-204)) ∧ codW (strOf (-204)) = 146885 := by
  rw [show strOf (-204) = [100, 111, 110, 101] from rfl]
  exact ⟨⟨by decide, by decide, by decide⟩, by decide⟩
theorem is_206 : isS (-206) := ⟨(206, [108, 97, 116, 101, 115, 116]), by decide, rfl⟩
theorem iw_206 : wdL (strOf (-206)) ∧ codW (strOf (-206)) = 404362868 := by
  rw [show strOf (-206) = [108, 97, 116, 101, 115, 116] from rfl]
  exact ⟨⟨by decide, by decide, by decide⟩, by decide⟩
theorem is_208 : isS (-208) := ⟨(208, [98, 111, 116, 116, 108, 101, 100]), by decide, rfl⟩
theorem iw_208 : wdL (strOf (-208)) ∧ codW (strOf (-208)) = 2672439460 := by
  rw [show strOf (-208) = [98, 111, 116, 116, 108, 101, 100] from rfl]
  exact ⟨⟨by decide, by decide, by decide⟩, by decide⟩
theorem is_210 : isS (-210) := ⟨(210, [114, 111, 111, 109]), by decide, rfl⟩
theorem iw_210 : wdL (strOf (-210)) ∧ codW (strOf (-210)) = 605677 := by
  rw [show strOf (-210) = [114, 111, 111, 109] from rfl]
  exact ⟨⟨by decide, by decide, by decide⟩, by decide⟩
theorem is_171 : isS (-171) := ⟨(171, [42]), by decide, rfl⟩
theorem ig_171 : strOf (-171) = [42] ∧ ck 42 = 3 ∧ (42 : Int) ≠ 32 := ⟨rfl, by decide, by decide⟩
theorem is_173 : isS (-173) := ⟨(173, [47]), by decide, rfl⟩
theorem ig_173 : strOf (-173) = [47] ∧ ck 47 = 3 ∧ (47 : Int) ≠ 32 := ⟨rfl, by decide, by decide⟩
theorem is_175 : isS (-175) := ⟨(175, [37]), by decide, rfl⟩
theorem ig_175 : strOf (-175) = [37] ∧ ck 37 = 3 ∧ (37 : Int) ≠ 32 := ⟨rfl, by decide, by decide⟩
theorem is_164 : isS (-164) := ⟨(164, [43]), by decide, rfl⟩
theorem ig_164 : strOf (-164) = [43] ∧ ck 43 = 3 ∧ (43 : Int) ≠ 32 := ⟨rfl, by decide, by decide⟩
theorem is_166 : isS (-166) := ⟨(166, [45]), by decide, rfl⟩
theorem ig_166 : strOf (-166) = [45] ∧ ck 45 = 3 ∧ (45 : Int) ≠ 32 := ⟨rfl, by decide, by decide⟩
theorem is_113 : isS (-113) := ⟨(113, [116, 105, 109, 101, 115]), by decide, rfl⟩
theorem iw_113 : wdL (strOf (-113)) ∧ codW (strOf (-113)) = 21279923 := by
  rw [show strOf (-113) = [116, 105, 109, 101, 115] from rfl]
  exact ⟨⟨by decide, by decide, by decide⟩, by decide⟩
theorem is_94 : isS (-94) := ⟨(94, [105, 102]), by decide, rfl⟩
theorem iw_94 : wdL (strOf (-94)) ∧ codW (strOf (-94)) = 294 := by
  rw [show strOf (-94) = [105, 102] from rfl]
  exact ⟨⟨by decide, by decide, by decide⟩, by decide⟩
theorem is_140 : isS (-140) := ⟨(140, [110, 111, 116]), by decide, rfl⟩
theorem iw_140 : wdL (strOf (-140)) ∧ codW (strOf (-140)) = 14836 := by
  rw [show strOf (-140) = [110, 111, 116] from rfl]
  exact ⟨⟨by decide, by decide, by decide⟩, by decide⟩
theorem is_142 : isS (-142) := ⟨(142, [40]), by decide, rfl⟩
theorem ig_142 : strOf (-142) = [40] ∧ ck 40 = 3 ∧ (40 : Int) ≠ 32 := ⟨rfl, by decide, by decide⟩
theorem is_147 : isS (-147) := ⟨(147, [41]), by decide, rfl⟩
theorem ig_147 : strOf (-147) = [41] ∧ ck 41 = 3 ∧ (41 : Int) ≠ 32 := ⟨rfl, by decide, by decide⟩
theorem is_155 : isS (-155) := ⟨(155, [60]), by decide, rfl⟩
theorem ig_155 : strOf (-155) = [60] ∧ ck 60 = 3 ∧ (60 : Int) ≠ 32 := ⟨rfl, by decide, by decide⟩
theorem is_157 : isS (-157) := ⟨(157, [62]), by decide, rfl⟩
theorem ig_157 : strOf (-157) = [62] ∧ ck 62 = 3 ∧ (62 : Int) ≠ 32 := ⟨rfl, by decide, by decide⟩
theorem is_159 : isS (-159) := ⟨(159, [61]), by decide, rfl⟩
theorem ig_159 : strOf (-159) = [61] ∧ ck 61 = 3 ∧ (61 : Int) ≠ 32 := ⟨rfl, by decide, by decide⟩
theorem is_138 : isS (-138) := ⟨(138, [97, 110, 100]), by decide, rfl⟩
theorem iw_138 : wdL (strOf (-138)) ∧ codW (strOf (-138)) = 1476 := by
  rw [show strOf (-138) = [97, 110, 100] from rfl]
  exact ⟨⟨by decide, by decide, by decide⟩, by decide⟩
theorem is_124 : isS (-124) := ⟨(124, [111, 114]), by decide, rfl⟩
theorem iw_124 : wdL (strOf (-124)) ∧ codW (strOf (-124)) = 498 := by
  rw [show strOf (-124) = [111, 114] from rfl]
  exact ⟨⟨by decide, by decide, by decide⟩, by decide⟩
theorem is_54 : isS (-54) := ⟨(54, [59]), by decide, rfl⟩
theorem ig_54 : strOf (-54) = [59] ∧ ck 59 = 3 ∧ (59 : Int) ≠ 32 := ⟨rfl, by decide, by decide⟩
def clWd (laws : Bool) (op : Int) : Int := if laws = true then (if op = 1 then 5 else if op = 2 then 6 else if op = 3 then 7 else if op = 4 then 8 else if op = 5 then 10 else if op = 6 then 0 else if op = 7 then 1 else -1) else (if op = 1 then 0 else if op = 2 then 2 else if op = 3 then 3 else if op = 4 then 4 else if op = 5 then 8 else if op = 6 then 9 else if op = 7 then 10 else -1)
def lawV (w : Int) : Int := if w = 13094067 then 4 else if w = 848474259 then 5 else if w = 67155 then 6 else -1
def ordV (w : Int) : Int := if w = 540338 then 0 else if w = 590955 then 1 else if w = 83513733 then 2 else if w = 525939 then 3 else -1
section WD
variable {d : Nat} {S : mSh} {M : mMem} {Q : Option mV → mSh → mMem → Prop} {tp : Int → Int} {len p : Int}
theorem c_lawWord (L : Lay S) (h : RdC tp len p M) (k : Q (some (vI (clWd true (wrdN true (tS tp len p) (tW tp len p))))) S M) : e_X2_lawWord (d + 1) S M Q := by
  refine b_X2_lawWord_0 L (c_isW L h is_191 iw_191.1 iw_191.2 (fun h0 => b_X2_lawWord_6 (fun q => absurd q (by decide)) (fun _ => b_X2_lawWord_9 ?_)) (fun h0 => b_X2_lawWord_6 (fun _ => ?_) (fun q => absurd rfl q)))
  · rw [show clWd true (wrdN true (tS tp len p) (tW tp len p)) = 5 by unfold wrdN; rw [if_pos h0.1, if_pos rfl, h0.2]; rfl] at k; exact k
  refine b_X2_lawWord_11 L (c_isW L h is_193 iw_193.1 iw_193.2 (fun h1 => b_X2_lawWord_17 (fun q => absurd q (by decide)) (fun _ => b_X2_lawWord_20 ?_)) (fun h1 => b_X2_lawWord_17 (fun _ => ?_) (fun q => absurd rfl q)))
  · rw [show clWd true (wrdN true (tS tp len p) (tW tp len p)) = 6 by unfold wrdN; rw [if_pos h1.1, if_pos rfl, h1.2]; rfl] at k; exact k
  refine b_X2_lawWord_23 L (c_isW L h is_195 iw_195.1 iw_195.2 (fun h2 => b_X2_lawWord_29 (fun q => absurd q (by decide)) (fun _ => b_X2_lawWord_32 ?_)) (fun h2 => b_X2_lawWord_29 (fun _ => ?_) (fun q => absurd rfl q)))
  · rw [show clWd true (wrdN true (tS tp len p) (tW tp len p)) = 7 by unfold wrdN; rw [if_pos h2.1, if_pos rfl, h2.2]; rfl] at k; exact k
  refine b_X2_lawWord_35 L (c_isW L h is_196 iw_196.1 iw_196.2 (fun h3 => b_X2_lawWord_41 (fun q => absurd q (by decide)) (fun _ => b_X2_lawWord_44 ?_)) (fun h3 => b_X2_lawWord_41 (fun _ => ?_) (fun q => absurd rfl q)))
  · rw [show clWd true (wrdN true (tS tp len p) (tW tp len p)) = 8 by unfold wrdN; rw [if_pos h3.1, if_pos rfl, h3.2]; rfl] at k; exact k
  refine b_X2_lawWord_47 L (c_isW L h is_198 iw_198.1 iw_198.2 (fun h4 => b_X2_lawWord_53 (fun q => absurd q (by decide)) (fun _ => b_X2_lawWord_56 ?_)) (fun h4 => b_X2_lawWord_53 (fun _ => ?_) (fun q => absurd rfl q)))
  · rw [show clWd true (wrdN true (tS tp len p) (tW tp len p)) = 10 by unfold wrdN; rw [if_pos h4.1, if_pos rfl, h4.2]; rfl] at k; exact k
  refine b_X2_lawWord_59 L (c_isW L h is_200 iw_200.1 iw_200.2 (fun h5 => b_X2_lawWord_65 (fun q => absurd q (by decide)) (fun _ => b_X2_lawWord_68 ?_)) (fun h5 => b_X2_lawWord_65 (fun _ => ?_) (fun q => absurd rfl q)))
  · rw [show clWd true (wrdN true (tS tp len p) (tW tp len p)) = 0 by unfold wrdN; rw [if_pos h5.1, if_pos rfl, h5.2]; rfl] at k; exact k
  refine b_X2_lawWord_70 L (c_isW L h is_202 iw_202.1 iw_202.2 (fun h6 => b_X2_lawWord_76 (fun q => absurd q (by decide)) (fun _ => b_X2_lawWord_79 ?_)) (fun h6 => b_X2_lawWord_76 (fun _ => ?_) (fun q => absurd rfl q)))
  · rw [show clWd true (wrdN true (tS tp len p) (tW tp len p)) = 1 by unfold wrdN; rw [if_pos h6.1, if_pos rfl, h6.2]; rfl] at k; exact k
  refine b_X2_lawWord_83 ?_
  have e : clWd true (wrdN true (tS tp len p) (tW tp len p)) = -1 := by
    unfold wrdN
    by_cases hs : tS tp len p = 1
    · rw [if_pos hs, if_pos rfl]
      have e2 : lawWN (tW tp len p) = -1 := by
        unfold lawWN
        rw [if_neg (fun q => h0 ⟨hs, q⟩), if_neg (fun q => h1 ⟨hs, q⟩), if_neg (fun q => h2 ⟨hs, q⟩), if_neg (fun q => h3 ⟨hs, q⟩), if_neg (fun q => h4 ⟨hs, q⟩), if_neg (fun q => h5 ⟨hs, q⟩), if_neg (fun q => h6 ⟨hs, q⟩)]
      rw [e2]; rfl
    · rw [if_neg hs]; rfl
  rw [e] at k; exact k
theorem c_orderWord (L : Lay S) (h : RdC tp len p M) (k : Q (some (vI (clWd false (wrdN false (tS tp len p) (tW tp len p))))) S M) : e_X2_orderWord (d + 1) S M Q := by
  refine b_X2_orderWord_0 L (c_isW L h is_200 iw_200.1 iw_200.2 (fun h0 => b_X2_orderWord_6 (fun q => absurd q (by decide)) (fun _ => b_X2_orderWord_9 ?_)) (fun h0 => b_X2_orderWord_6 (fun _ => ?_) (fun q => absurd rfl q)))
  · rw [show clWd false (wrdN false (tS tp len p) (tW tp len p)) = 0 by unfold wrdN; rw [if_pos h0.1, if_neg (by decide), h0.2]; rfl] at k; exact k
  refine b_X2_orderWord_11 L (c_isW L h is_204 iw_204.1 iw_204.2 (fun h1 => b_X2_orderWord_17 (fun q => absurd q (by decide)) (fun _ => b_X2_orderWord_20 ?_)) (fun h1 => b_X2_orderWord_17 (fun _ => ?_) (fun q => absurd rfl q)))
  · rw [show clWd false (wrdN false (tS tp len p) (tW tp len p)) = 2 by unfold wrdN; rw [if_pos h1.1, if_neg (by decide), h1.2]; rfl] at k; exact k
  refine b_X2_orderWord_22 L (c_isW L h is_206 iw_206.1 iw_206.2 (fun h2 => b_X2_orderWord_28 (fun q => absurd q (by decide)) (fun _ => b_X2_orderWord_31 ?_)) (fun h2 => b_X2_orderWord_28 (fun _ => ?_) (fun q => absurd rfl q)))
  · rw [show clWd false (wrdN false (tS tp len p) (tW tp len p)) = 3 by unfold wrdN; rw [if_pos h2.1, if_neg (by decide), h2.2]; rfl] at k; exact k
  refine b_X2_orderWord_33 L (c_isW L h is_208 iw_208.1 iw_208.2 (fun h3 => b_X2_orderWord_39 (fun q => absurd q (by decide)) (fun _ => b_X2_orderWord_42 ?_)) (fun h3 => b_X2_orderWord_39 (fun _ => ?_) (fun q => absurd rfl q)))
  · rw [show clWd false (wrdN false (tS tp len p) (tW tp len p)) = 4 by unfold wrdN; rw [if_pos h3.1, if_neg (by decide), h3.2]; rfl] at k; exact k
  refine b_X2_orderWord_44 L (c_isW L h is_196 iw_196.1 iw_196.2 (fun h4 => b_X2_orderWord_50 (fun q => absurd q (by decide)) (fun _ => b_X2_orderWord_53 ?_)) (fun h4 => b_X2_orderWord_50 (fun _ => ?_) (fun q => absurd rfl q)))
  · rw [show clWd false (wrdN false (tS tp len p) (tW tp len p)) = 8 by unfold wrdN; rw [if_pos h4.1, if_neg (by decide), h4.2]; rfl] at k; exact k
  refine b_X2_orderWord_56 L (c_isW L h is_210 iw_210.1 iw_210.2 (fun h5 => b_X2_orderWord_62 (fun q => absurd q (by decide)) (fun _ => b_X2_orderWord_65 ?_)) (fun h5 => b_X2_orderWord_62 (fun _ => ?_) (fun q => absurd rfl q)))
  · rw [show clWd false (wrdN false (tS tp len p) (tW tp len p)) = 9 by unfold wrdN; rw [if_pos h5.1, if_neg (by decide), h5.2]; rfl] at k; exact k
  refine b_X2_orderWord_68 L (c_isW L h is_198 iw_198.1 iw_198.2 (fun h6 => b_X2_orderWord_74 (fun q => absurd q (by decide)) (fun _ => b_X2_orderWord_77 ?_)) (fun h6 => b_X2_orderWord_74 (fun _ => ?_) (fun q => absurd rfl q)))
  · rw [show clWd false (wrdN false (tS tp len p) (tW tp len p)) = 10 by unfold wrdN; rw [if_pos h6.1, if_neg (by decide), h6.2]; rfl] at k; exact k
  refine b_X2_orderWord_82 ?_
  have e : clWd false (wrdN false (tS tp len p) (tW tp len p)) = -1 := by
    unfold wrdN
    by_cases hs : tS tp len p = 1
    · rw [if_pos hs, if_neg (by decide)]
      have e2 : ordWN (tW tp len p) = -1 := by
        unfold ordWN
        rw [if_neg (fun q => h0 ⟨hs, q⟩), if_neg (fun q => h1 ⟨hs, q⟩), if_neg (fun q => h2 ⟨hs, q⟩), if_neg (fun q => h3 ⟨hs, q⟩), if_neg (fun q => h4 ⟨hs, q⟩), if_neg (fun q => h5 ⟨hs, q⟩), if_neg (fun q => h6 ⟨hs, q⟩)]
      rw [e2]; rfl
    · rw [if_neg hs]; rfl
  rw [e] at k; exact k
theorem c_lawVerb (L : Lay S) (h : RdC tp len p M) (k : Q (some (vI ((if tS tp len p = 1 then lawV (tW tp len p) else -1)))) S M) : e_X2_lawVerb (d + 1) S M Q := by
  refine b_X2_lawVerb_0 L (c_isW L h is_99 iw_99.1 iw_99.2 (fun h0 => b_X2_lawVerb_6 (fun q => absurd q (by decide)) (fun _ => b_X2_lawVerb_9 ?_)) (fun h0 => b_X2_lawVerb_6 (fun _ => ?_) (fun q => absurd rfl q)))
  · rw [show (if tS tp len p = 1 then lawV (tW tp len p) else -1) = 4 by  rw [if_pos h0.1, h0.2]; rfl] at k; exact k
  refine b_X2_lawVerb_11 L (c_isW L h is_101 iw_101.1 iw_101.2 (fun h1 => b_X2_lawVerb_17 (fun q => absurd q (by decide)) (fun _ => b_X2_lawVerb_20 ?_)) (fun h1 => b_X2_lawVerb_17 (fun _ => ?_) (fun q => absurd rfl q)))
  · rw [show (if tS tp len p = 1 then lawV (tW tp len p) else -1) = 5 by  rw [if_pos h1.1, h1.2]; rfl] at k; exact k
  refine b_X2_lawVerb_22 L (c_isW L h is_103 iw_103.1 iw_103.2 (fun h2 => b_X2_lawVerb_28 (fun q => absurd q (by decide)) (fun _ => b_X2_lawVerb_31 ?_)) (fun h2 => b_X2_lawVerb_28 (fun _ => ?_) (fun q => absurd rfl q)))
  · rw [show (if tS tp len p = 1 then lawV (tW tp len p) else -1) = 6 by  rw [if_pos h2.1, h2.2]; rfl] at k; exact k
  refine b_X2_lawVerb_36 ?_
  have e : (if tS tp len p = 1 then lawV (tW tp len p) else -1) = -1 := by
    
    by_cases hs : tS tp len p = 1
    · rw [if_pos hs]
      have e2 : lawV (tW tp len p) = -1 := by
        unfold lawV
        rw [if_neg (fun q => h0 ⟨hs, q⟩), if_neg (fun q => h1 ⟨hs, q⟩), if_neg (fun q => h2 ⟨hs, q⟩)]
      rw [e2]
    · rw [if_neg hs]
  rw [e] at k; exact k
theorem c_orderVerb (L : Lay S) (h : RdC tp len p M) (k : Q (some (vI ((if tS tp len p = 1 then ordV (tW tp len p) else -1)))) S M) : e_X2_orderVerb (d + 1) S M Q := by
  refine b_X2_orderVerb_0 L (c_isW L h is_105 iw_105.1 iw_105.2 (fun h0 => b_X2_orderVerb_6 (fun q => absurd q (by decide)) (fun _ => b_X2_orderVerb_9 ?_)) (fun h0 => b_X2_orderVerb_6 (fun _ => ?_) (fun q => absurd rfl q)))
  · rw [show (if tS tp len p = 1 then ordV (tW tp len p) else -1) = 0 by  rw [if_pos h0.1, h0.2]; rfl] at k; exact k
  refine b_X2_orderVerb_11 L (c_isW L h is_107 iw_107.1 iw_107.2 (fun h1 => b_X2_orderVerb_17 (fun q => absurd q (by decide)) (fun _ => b_X2_orderVerb_20 ?_)) (fun h1 => b_X2_orderVerb_17 (fun _ => ?_) (fun q => absurd rfl q)))
  · rw [show (if tS tp len p = 1 then ordV (tW tp len p) else -1) = 1 by  rw [if_pos h1.1, h1.2]; rfl] at k; exact k
  refine b_X2_orderVerb_22 L (c_isW L h is_109 iw_109.1 iw_109.2 (fun h2 => b_X2_orderVerb_28 (fun q => absurd q (by decide)) (fun _ => b_X2_orderVerb_31 ?_)) (fun h2 => b_X2_orderVerb_28 (fun _ => ?_) (fun q => absurd rfl q)))
  · rw [show (if tS tp len p = 1 then ordV (tW tp len p) else -1) = 2 by  rw [if_pos h2.1, h2.2]; rfl] at k; exact k
  refine b_X2_orderVerb_33 L (c_isW L h is_111 iw_111.1 iw_111.2 (fun h3 => b_X2_orderVerb_39 (fun q => absurd q (by decide)) (fun _ => b_X2_orderVerb_42 ?_)) (fun h3 => b_X2_orderVerb_39 (fun _ => ?_) (fun q => absurd rfl q)))
  · rw [show (if tS tp len p = 1 then ordV (tW tp len p) else -1) = 3 by  rw [if_pos h3.1, h3.2]; rfl] at k; exact k
  refine b_X2_orderVerb_46 ?_
  have e : (if tS tp len p = 1 then ordV (tW tp len p) else -1) = -1 := by
    
    by_cases hs : tS tp len p = 1
    · rw [if_pos hs]
      have e2 : ordV (tW tp len p) = -1 := by
        unfold ordV
        rw [if_neg (fun q => h0 ⟨hs, q⟩), if_neg (fun q => h1 ⟨hs, q⟩), if_neg (fun q => h2 ⟨hs, q⟩), if_neg (fun q => h3 ⟨hs, q⟩)]
      rw [e2]
    · rw [if_neg hs]
  rw [e] at k; exact k
end WD
