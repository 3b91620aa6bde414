/-! The class's ask, whole; what its law tells. -/
section CA
variable {d : Nat} {S : mSh} {Q : Option mV → mSh → mMem → Prop}
/-- a step is fetched -/
theorem c_fetch {M : mMem} {t cl sec from' l i : Int} {u7 u8 u9 : mV} (ht : Txt S t) (hi : 0 ≤ i ∧ i < l) (hl : l ≤ sL S (t + 2)) (hb : 0 ≤ cs1 (M (t + 2) i) ∧ cs1 (M (t + 2) i) ≤ 13)
    (k0 : cs1 (M (t + 2) i) = 0 → WP PR d 2 81 [vA 196, vA t, vI cl, vI sec, vI from', vI l, vI i, vI (cs1 (M (t + 2) i)), vI (cs2 (M (t + 2) i)), u9] [] S M Q)
    (k1 : cs1 (M (t + 2) i) = 1 → WP PR d 2 96 [vA 196, vA t, vI cl, vI sec, vI from', vI l, vI i, vI (cs1 (M (t + 2) i)), vI (cs2 (M (t + 2) i)), u9] [] S M Q)
    (k2 : cs1 (M (t + 2) i) = 2 → WP PR d 2 115 [vA 196, vA t, vI cl, vI sec, vI from', vI l, vI i, vI (cs1 (M (t + 2) i)), vI (cs2 (M (t + 2) i)), u9] [] S M Q)
    (ka : cs1 (M (t + 2) i) = 12 ∨ cs1 (M (t + 2) i) = 13 → WP PR d 2 150 [vA 196, vA t, vI cl, vI sec, vI from', vI l, vI i, vI (cs1 (M (t + 2) i)), vI (cs2 (M (t + 2) i)), u9] [] S M Q)
    (kn : cs1 (M (t + 2) i) = 11 → WP PR d 2 209 [vA 196, vA t, vI cl, vI sec, vI from', vI l, vI i, vI (cs1 (M (t + 2) i)), vI (cs2 (M (t + 2) i)), u9] [] S M Q)
    (kj : 3 ≤ cs1 (M (t + 2) i) → cs1 (M (t + 2) i) < 11 → WP PR d 2 222 [vA 196, vA t, vI cl, vI sec, vI from', vI l, vI i, vI (cs1 (M (t + 2) i)), vI (cs2 (M (t + 2) i)), u9] [] S M Q) : WP PR d 2 43 [vA 196, vA t, vI cl, vI sec, vI from', vI l, vI i, u7, u8, u9] [] S M Q := by
  unfold cs1 cs2 at *
  refine b_X0_ask_43 (fun h => absurd h (by omega)) (fun _ => b_X0_ask_50 ht (by omega) (fun h0 => b_X0_ask_90 (fun h1 => b_X0_ask_109 (fun h2 => b_X0_ask_136 (fun h3 => ka (Or.inl h3)) (fun h3 => b_X0_ask_143 (fun h4 => b_X0_ask_202 (fun h5 => kj (by omega) (by omega)) kn) (fun h4 => ka (Or.inr h4)))) k2) k1) k0)
set_option maxHeartbeats 1000000 in
theorem c_seg (L : Lay S) {laws : Bool} {w : Env} {g : Int → Int} {s : Int} {M0 : mMem} (he : EnvC laws w g s S M0) {t cl sec from' l : Int} (ht : Txt S t) (ht2 : t ≤ 192 ∨ 225 < t) (hl : l ≤ sL S (t + 2)) (hl2 : l ≤ 1000000) {i j p : Int} {D : Den} (h : SegC laws (M0 (t + 2)) i j p D) :
    i < j ∧ 1 ≤ p ∧ bdO (D w) ∧ (0 ≤ i → j ≤ l → ∀ (n : Int) (M : mMem) (u7 u8 u9 : mV), FrK M0 M → M 196 1 = n → 0 ≤ n → n + p ≤ 51 →
      (∀ v M' u7 u8 u9, D w = some v → FrK M0 M' → M' 196 1 = n + 1 → (∀ x, x < n → M' 197 x = M 197 x) → M' 197 n = v → WP PR (d + 2) 2 43 [vA 196, vA t, vI cl, vI sec, vI from', vI l, vI j, u7, u8, u9] [] S M' Q) →
      (∀ M', D w = none → FrK M0 M' → Q (some (vI (-2000000000))) S M') →
      WP PR (d + 2) 2 43 [vA 196, vA t, vI cl, vI sec, vI from', vI l, vI i, u7, u8, u9] [] S M Q) := by
  have hw : bdW w := he.2.2.2.2.1
  refine h (fun i j p D => i < j ∧ 1 ≤ p ∧ bdO (D w) ∧ (0 ≤ i → j ≤ l → ∀ (n : Int) (M : mMem) (u7 u8 u9 : mV), FrK M0 M → M 196 1 = n → 0 ≤ n → n + p ≤ 51 →
      (∀ v M' u7 u8 u9, D w = some v → FrK M0 M' → M' 196 1 = n + 1 → (∀ x, x < n → M' 197 x = M 197 x) → M' 197 n = v → WP PR (d + 2) 2 43 [vA 196, vA t, vI cl, vI sec, vI from', vI l, vI j, u7, u8, u9] [] S M' Q) →
      (∀ M', D w = none → FrK M0 M' → Q (some (vI (-2000000000))) S M') →
      WP PR (d + 2) 2 43 [vA 196, vA t, vI cl, vI sec, vI from', vI l, vI i, u7, u8, u9] [] S M Q)) ⟨?_, ?_, ?_, ?_⟩
  · intro i op b hL
    have hok : okL op b := by
      rcases hL with ⟨-, rfl, rfl, h1, h2⟩ | ⟨-, rfl, ⟨-, ⟨-, rfl⟩ | ⟨-, rfl⟩⟩ | ⟨-, ⟨-, rfl⟩ | ⟨-, rfl⟩ | ⟨-, rfl⟩ | ⟨-, rfl⟩ | ⟨-, rfl⟩⟩⟩ | ⟨-, ⟨-, rfl, ⟨-, rfl⟩ | ⟨-, rfl⟩ | ⟨-, rfl⟩ | ⟨-, rfl⟩⟩ | ⟨-, h0, h1, ⟨-, rfl⟩ | ⟨-, rfl⟩ | ⟨-, rfl⟩⟩⟩ <;> exact ⟨by omega, by omega, fun _ => by omega, fun _ => by omega⟩
    refine ⟨by omega, by omega, lf_bd hok hw, fun h0 h1 n M u7 u8 u9 hf hh hn hp kg kb => ?_⟩
    have e : M (t + 2) i = M0 (t + 2) i := hf _ _ (by omega)
    have env := hf.env he
    have fin : ∀ (v : Int) (u7 u8 u9 : mV), v = (if op = 0 then b else w op b) → WP PR (d + 2) 2 43 [vA 196, vA t, vI cl, vI sec, vI from', vI l, vI (i + 1), u7, u8, u9] [] S (up (up M 197 n v) 196 1 (n + 1)) Q := fun v u7 u8 u9 ev => by
      refine kg v _ u7 u8 u9 (by unfold lfD; rw [ev]) (fun a x q => ?_) (up_s _ _ _ _) (fun x hx => ?_) ?_
      · by_cases e2 : a = 196
        · rw [up_ni (by omega), up_na (by omega)]; exact hf a x q
        · rw [up_na e2, up_na (by omega)]; exact hf a x q
      · rw [up_na (by decide), up_ni (by omega)]
      · rw [up_na (by decide), up_s]
    have hst : cs1 (M0 (t + 2) i) = 0 ∨ cs1 (M0 (t + 2) i) = 1 ∨ cs1 (M0 (t + 2) i) = 2 := by
      rcases hL with ⟨h, -⟩ | ⟨-, -, ⟨h, -⟩ | ⟨h, -⟩⟩ | ⟨-, ⟨h, -⟩ | ⟨h, -⟩⟩ <;> omega
    have hL' := hL
    rw [← e] at hL' hst
    refine c_fetch ht ⟨h0, by omega⟩ hl (by omega) (fun e0 => ?_) (fun e1 => ?_) (fun e2 => ?_) (fun e => absurd e (by omega)) (fun e => absurd e (by omega)) (fun e => absurd e (by omega))
    · rw [e0] at hL'
      have hop : op = 0 ∧ b = cs2 (M (t + 2) i) := by
        rcases hL' with ⟨-, h1, h2, -⟩ | ⟨-, -, ⟨h, -⟩ | ⟨h, -⟩⟩ | ⟨-, ⟨h, -⟩ | ⟨h, -⟩⟩
        · exact ⟨h1, h2⟩
        all_goals exact absurd h (by decide)
      exact b_X0_ask_81 L (c_put L hh (by omega) (b_X0_ask_87 (by omega) (fin _ _ _ _ (by rw [if_pos hop.1, hop.2]))))
    · rw [e1] at hL'
      have hop : ¬ op = 0 := by
        rcases hL' with ⟨h, -⟩ | ⟨-, -, ⟨-, h⟩ | ⟨h, -⟩⟩ | ⟨-, ⟨-, -, h⟩ | ⟨h, -⟩⟩
        · exact absurd h (by decide)
        · omega
        · exact absurd h (by decide)
        · omega
        · exact absurd h (by decide)
      exact b_X0_ask_96 L (c_valueOfCellar L env hL' (b_X0_ask_103 L (c_put L hh (by omega) (b_X0_ask_106 (by omega) (fin _ _ _ _ (by rw [if_neg hop]))))))
    · rw [e2] at hL'
      have hop : ¬ op = 0 := by
        rcases hL' with ⟨h, -⟩ | ⟨-, -, ⟨h, -⟩ | ⟨-, h⟩⟩ | ⟨-, ⟨h, -⟩ | ⟨-, -, -, h⟩⟩
        · exact absurd h (by decide)
        · exact absurd h (by decide)
        · omega
        · exact absurd h (by decide)
        · omega
      have hr : R32 ((cs2 (M (t + 2) i)).tdiv 9) := by
        have : 0 ≤ cs2 (M (t + 2) i) ∧ cs2 (M (t + 2) i) ≤ 98 := by
          rcases hL' with ⟨h, -⟩ | ⟨-, -, ⟨h, -⟩ | ⟨-, h⟩⟩ | ⟨-, ⟨h, -⟩ | ⟨-, b0, b1, h⟩⟩
          · exact absurd h (by decide)
          · exact absurd h (by decide)
          · omega
          · exact absurd h (by decide)
          · omega
        rw [Int.tdiv_eq_ediv_of_nonneg this.1]; omega
      exact b_X0_ask_115 L hr (c_valueOfCask L env hL' (b_X0_ask_130 L (c_put L hh (by omega) (b_X0_ask_133 (by omega) (fin _ _ _ _ (by rw [if_neg hop]))))))
  · intro i m j p q D E hD hE ho1 ho2
    obtain ⟨a1, a2, a3, a4⟩ := hD
    obtain ⟨b1, b2, b3, b4⟩ := hE
    refine ⟨by omega, by omega, bn_bd _ _ _ _, fun h0 h1 n M u7 u8 u9 hf hh hn hp kg kb => ?_⟩
    refine a4 h0 (by omega) n M u7 u8 u9 hf hh hn (by omega) (fun a M1 u7 u8 u9 eD f1 g1 s1 r1 => ?_) (fun M1 eD f1 => kb M1 (by unfold bnD; rw [eD]) f1)
    refine b4 (by omega) (by omega) (n + 1) M1 u7 u8 u9 f1 g1 (by omega) (by omega) (fun b M2 u7 u8 u9 eE f2 g2 s2 r2 => ?_) (fun M2 eE f2 => kb M2 (by unfold bnD; rw [eD, eE]) f2)
    have ha := a3 a eD
    have hb := b3 b eE
    have e : M2 (t + 2) j = M0 (t + 2) j := f2 _ _ (by omega)
    have ra : M2 197 n = a := by rw [s2 n (by omega), r1]
    refine c_fetch ht ⟨by omega, by omega⟩ hl (by rw [e]; omega) (fun q => absurd q (by rw [e]; omega)) (fun q => absurd q (by rw [e]; omega)) (fun q => absurd q (by rw [e]; omega)) (fun q => absurd q (by rw [e]; omega)) (fun q => absurd q (by rw [e]; omega)) (fun _ _ => ?_)
    rw [e]
    refine b_X0_ask_222 L (c_joins L ⟨ho1, ho2⟩ (h := n) (by omega) (by omega) ra r2 ha hb (fun v M3 er f3 s3 g3 r3 => ?_) (fun M3 er f3 => ?_))
    · exact b_X0_ask_228 (fun _ => b_X0_ask_234 (by omega) (kg v M3 _ _ _ (by unfold bnD; rw [eD, eE]; exact er) (f2.tr f3) g3 (fun x hx => by rw [s3 x hx, s2 x (by omega), s1 x hx]) r3)) (fun q => absurd q (by decide))
    · exact b_X0_ask_228 (fun q => absurd rfl q) (fun _ => b_X0_ask_231 (kb M3 (by unfold bnD; rw [eD, eE]; exact er) (f2.tr f3)))
  · intro i j p D hD hb ho
    obtain ⟨a1, a2, a3, a4⟩ := hD
    refine ⟨by omega, a2, fun v hv => by have := nt_isB hb w v hv; omega, fun h0 h1 n M u7 u8 u9 hf hh hn hp kg kb => ?_⟩
    refine a4 h0 (by omega) n M u7 u8 u9 hf hh hn hp (fun a M1 u7 u8 u9 eD f1 g1 s1 r1 => ?_) (fun M1 eD f1 => kb M1 (by unfold ntD; rw [eD]) f1)
    have ha := a3 a eD
    have e : M1 (t + 2) j = M0 (t + 2) j := f1 _ _ (by omega)
    refine c_fetch ht ⟨by omega, by omega⟩ hl (by rw [e]; omega) (fun q => absurd q (by rw [e]; omega)) (fun q => absurd q (by rw [e]; omega)) (fun q => absurd q (by rw [e]; omega)) (fun q => absurd q (by rw [e]; omega)) (fun _ => ?_) (fun _ q => absurd q (by rw [e]; omega))
    refine b_X0_ask_209 L (c_lift L g1 (by omega) ?_)
    rw [Int.add_sub_cancel, r1]
    refine b_X0_ask_215 L (by omega) (c_put L (up_s _ _ _ _) (by omega) (b_X0_ask_219 (by omega) ?_))
    refine kg (1 - a) _ _ _ _ (by unfold ntD; rw [eD]) (fun a x q => ?_) (up_s _ _ _ _) (fun x hx => ?_) ?_
    · by_cases e2 : a = 196
      · rw [up_ni (by omega), up_na (by omega), up_ni (by omega)]; exact f1 a x q
      · rw [up_na e2, up_na (by omega), up_na e2]; exact f1 a x q
    · rw [up_na (by decide), up_ni (by omega), up_na (by decide), s1 x hx]
    · rw [up_na (by decide), up_s]
  · intro i m j p q D E hD hb hE ho har
    obtain ⟨a1, a2, a3, a4⟩ := hD
    obtain ⟨b1, b2, b3, b4⟩ := hE
    have hbd : bdO (aoD (cs1 (M0 (t + 2) m) + 17) D E w) := by
      intro v hv; unfold aoD at hv
      cases hDw : D w with
      | none => rw [hDw] at hv; cases hv
      | some a =>
        rw [hDw] at hv
        dsimp only at hv
        by_cases e : a = (if cs1 (M0 (t + 2) m) + 17 = 29 then 0 else 1)
        · rw [if_pos e] at hv; cases hv; exact a3 _ hDw
        · rw [if_neg e] at hv; exact b3 v hv
    refine ⟨by omega, by omega, hbd, fun h0 h1 n M u7 u8 u9 hf hh hn hp kg kb => ?_⟩
    refine a4 h0 (by omega) n M u7 u8 u9 hf hh hn (by omega) (fun a M1 u7 u8 u9 eD f1 g1 s1 r1 => ?_) (fun M1 eD f1 => kb M1 (by unfold aoD; rw [eD]) f1)
    have hab := hb w a eD
    have e : M1 (t + 2) m = M0 (t + 2) m := f1 _ _ (by omega)
    refine c_fetch ht ⟨by omega, by omega⟩ hl (by rw [e]; omega) (fun q => absurd q (by rw [e]; omega)) (fun q => absurd q (by rw [e]; omega)) (fun q => absurd q (by rw [e]; omega)) (fun _ => ?_) (fun q => absurd q (by rw [e]; omega)) (fun _ q => absurd q (by rw [e]; omega))
    rw [e, har]
    refine b_X0_ask_150 L (c_lift L g1 (by omega) ?_)
    rw [Int.add_sub_cancel, r1]
    have f1' : FrK M0 (up M1 196 1 n) := fun a x q => by
      by_cases e2 : a = 196
      · rw [up_ni (by omega)]; exact f1 a x q
      · rw [up_na e2]; exact f1 a x q
    have go1 : a = (if cs1 (M0 (t + 2) m) + 17 = 29 then 0 else 1) → WP PR (d + 2) 2 182 [vA 196, vA t, vI cl, vI sec, vI from', vI l, vI m, vI (cs1 (M0 (t + 2) m)), vI j, vI a] [] S (up M1 196 1 n) Q := fun ea => by
      refine b_X0_ask_182 L (c_put L (up_s _ _ _ _) (by omega) (b_X0_ask_188 ?_ ?_))
      · rw [if_pos (by omega)]; omega
      · rw [if_pos (by omega), Int.sub_add_cancel]
        refine kg a _ _ _ _ (by unfold aoD; rw [eD]; dsimp only; rw [if_pos ea]) (fun a x q => ?_) (up_s _ _ _ _) (fun x hx => ?_) ?_
        · by_cases e2 : a = 196
          · rw [up_ni (by omega), up_na (by omega)]; exact f1' a x q
          · rw [up_na e2, up_na (by omega)]; exact f1' a x q
        · rw [up_na (by decide), up_ni (by omega), up_na (by decide), s1 x hx]
        · rw [up_na (by decide), up_s]
    have go2 : ¬ a = (if cs1 (M0 (t + 2) m) + 17 = 29 then 0 else 1) → WP PR (d + 2) 2 199 [vA 196, vA t, vI cl, vI sec, vI from', vI l, vI m, vI (cs1 (M0 (t + 2) m)), vI j, vI a] [] S (up M1 196 1 n) Q := fun ea => by
      have eV : aoD (cs1 (M0 (t + 2) m) + 17) D E w = E w := by unfold aoD; rw [eD]; dsimp only; rw [if_neg ea]
      refine b_X0_ask_199 (by omega) ?_
      exact b4 (by omega) h1 n _ _ _ _ f1' (up_s _ _ _ _) hn (by omega) (fun v M2 u7 u8 u9 eE f2 g2 s2 r2 => kg v M2 u7 u8 u9 (eV.trans eE) f2 g2 (fun x hx => by rw [s2 x hx, up_na (by decide), s1 x hx]) r2) (fun M2 eE f2 => kb M2 (eV.trans eE) f2)
    refine b_X0_ask_154 (fun ha => b_X0_ask_166 (fun h13 => b_X0_ask_178 (fun e => absurd rfl e) (fun _ => go1 ?_)) (fun h13 => b_X0_ask_174 (fun _ => go2 ?_) (fun e => absurd e (by decide)))) (fun ha => b_X0_ask_162 (fun h13 => b_X0_ask_178 (fun _ => go2 ?_) (fun e => absurd e (by decide))) (fun h13 => b_X0_ask_174 (fun e => absurd rfl e) (fun _ => go1 ?_)))
    · rw [if_pos (by omega)]; omega
    · rw [if_neg (by omega)]; exact ha
    · rw [if_pos (by omega)]; omega
    · rw [if_neg (by omega)]; exact ha
/-- a text of the class -/
def SecC (laws : Bool) (cd : Int → Int) (sz i j : Int) (o : Option Den) : Prop := match o with
  | none => j ≤ i
  | some D => 0 ≤ i ∧ j ≤ sz ∧ ∃ p, p ≤ 50 ∧ SegC laws cd i j p D
def TextC (laws : Bool) (S : mSh) (M : mMem) (t : Int) (T : TX) : Prop := Txt S t ∧ (t ≤ 192 ∨ 225 < t) ∧ okTx T ∧ M t 2 = tn T ∧ (0 ≤ M t 3 ∧ M t 3 ≤ sL S (t + 2) ∧ M t 3 ≤ 400) ∧ tn T * 7 ≤ sL S (t + 1) ∧
  ∀ i, 0 ≤ i → i < tn T → M (t + 1) (i * 7) = (if laws = true then tk T i + 4 else tk T i) ∧ M (t + 1) (i * 7 + 1) = tt T i ∧ ∀ s, 0 ≤ s → s ≤ 3 → SecC laws (M (t + 2)) (M t 3) (M (t + 1) (i * 7 + 2 + s)) (M (t + 1) (i * 7 + 2 + (s + 1))) (ts T i s)
def askO (o : Option Den) (w : Env) : Int := match o with
  | none => 1
  | some D => match D w with
    | some v => v
    | none => -2000000000
theorem c_ask (L : Lay S) {M : mMem} {laws : Bool} {w : Env} {g : Int → Int} {s : Int} (he : EnvC laws w g s S M) {t : Int} {T : TX} (hT : TextC laws S M t T) {i sec : Int} (hi : 0 ≤ i ∧ i < tn T) (hsec : 0 ≤ sec ∧ sec ≤ 3)
    (k : ∀ M', FrK M M' → Q (some (vI (askO (ts T i sec) w))) S M') : e_X0_ask (d + 2) t i sec S M Q := by
  obtain ⟨t1, t2, ⟨n0, n12, -⟩, t3, t4, t5, t6⟩ := hT
  obtain ⟨-, -, hS⟩ := t6 i hi.1 hi.2
  have hsc := hS sec hsec.1 hsec.2
  refine b_X0_ask_0 t1 (b_X6_startOf_0 t1 (by omega) (b_X0_ask_6 t1 (by omega) (b_X6_startOf_0 t1 (by omega) ?_)))
  generalize ha : M (t + 1) (i * 7 + 2 + sec) = a at hsc
  generalize hb : M (t + 1) (i * 7 + 2 + (sec + 1)) = b at hsc
  show WP PR (d + 2) 2 16 [vA 196, vA t, vI i, vI sec, vI a, vU, vU, vU, vU, vU] [vI b] S M Q
  cases ho : ts T i sec with
  | none =>
    rw [ho] at hsc k
    have hsc : b ≤ a := hsc
    refine b_X0_ask_16 t1 (fun h => absurd h (by split <;> omega)) (fun _ => b_X0_ask_32 (k M (FrK.rf M)))
  | some D =>
    rw [ho] at hsc k
    obtain ⟨a0, a1, p, hp, hseg⟩ := hsc
    have hlt := hseg.lt
    have em : (if M t 3 < b then M t 3 else b) = b := if_neg (by omega)
    refine b_X0_ask_16 t1 ?_ ?_
    · rw [em]
      intro _
      refine b_X0_ask_34 L ?_
      have f0 : FrK M (up M 196 1 0) := fun a x q => by
        by_cases e2 : a = 196
        · exact up_ni (by omega)
        · exact up_na e2
      have key := c_seg (d := d) (Q := Q) L he (cl := i) (sec := sec) (from' := a) (l := b) t1 t2 (by omega) (by omega) hseg
      refine key.2.2.2 a0 (Int.le_refl _) 0 _ _ _ _ f0 (up_s _ _ _ _) (by decide) (by omega) (fun v M' u7 u8 u9 eD f1 g1 s1 r1 => ?_) (fun M' eD f1 => ?_)
      · refine b_X0_ask_43 (fun _ => b_X0_ask_240 L (c_lift L g1 (by decide) (b_X0_ask_244 ?_))) (fun h => absurd h (by omega))
        show Q (some (vI (M' 197 0))) S (up M' 196 1 0)
        rw [r1]
        have := k (up M' 196 1 0) (fun a x q => by
          by_cases e2 : a = 196
          · rw [up_ni (by omega)]; exact f1 a x q
          · rw [up_na e2]; exact f1 a x q)
        unfold askO at this
        dsimp only at this
        rw [eD] at this; exact this
      · have := k M' f1
        unfold askO at this
        dsimp only at this
        rw [eD] at this; exact this
    · rw [em]; intro h; omega
end CA
