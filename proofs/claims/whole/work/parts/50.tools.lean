/-! Tools over the mini machine: loops, sums, rows. -/
theorem for_up {W : Int → Prop} {lo hi : Int} (h : lo ≤ hi) (e : W hi) (s : ∀ i, lo ≤ i → i < hi → W (i + 1) → W i) : W lo := by
  have key : ∀ (n : Nat), (n : Int) ≤ hi - lo → W (hi - n) := by
    intro n
    induction n with
    | zero => intro _; simpa using e
    | succ n ih =>
      intro hn
      have h1 := ih (by omega)
      refine s _ (by omega) (by omega) ?_
      have e2 : hi - ((n + 1 : Nat) : Int) + 1 = hi - n := by omega
      rw [e2]; exact h1
  have := key (hi - lo).toNat (by omega)
  have e2 : hi - ((hi - lo).toNat : Int) = lo := by omega
  rw [e2] at this; exact this
theorem for_dn {W : Int → Prop} {lo hi : Int} (h : lo ≤ hi) (e : W lo) (s : ∀ i, lo < i → i ≤ hi → W (i - 1) → W i) : W hi := by
  have key : ∀ (n : Nat), (n : Int) ≤ hi - lo → W (lo + n) := by
    intro n
    induction n with
    | zero => intro _; simpa using e
    | succ n ih =>
      intro hn
      have h1 := ih (by omega)
      refine s _ (by omega) (by omega) ?_
      have e2 : lo + ((n + 1 : Nat) : Int) - 1 = lo + n := by omega
      rw [e2]; exact h1
  have := key (hi - lo).toNat (by omega)
  have e2 : lo + ((hi - lo).toNat : Int) = hi := by omega
  rw [e2] at this; exact this
/-- sums f 0 + .. + f (i - 1) -/
def sumN (f : Int → Int) : Nat → Int
  | 0 => 0
  | n + 1 => sumN f n + f (n : Int)
def sm (f : Int → Int) (i : Int) : Int := sumN f i.toNat
theorem sm_0 (f : Int → Int) : sm f 0 = 0 := rfl
theorem sm_s (f : Int → Int) {i : Int} (h : 0 ≤ i) : sm f (i + 1) = sm f i + f i := by
  unfold sm
  have e : (i + 1).toNat = i.toNat + 1 := by omega
  have e2 : ((i.toNat : Nat) : Int) = i := by omega
  rw [e, sumN, e2]
theorem sm_ind {P : Int → Prop} {n : Int} (hn : 0 ≤ n) (h0 : P 0) (hs : ∀ i, 0 ≤ i → i < n → P i → P (i + 1)) : P n := by
  have key : ∀ k : Nat, (k : Int) ≤ n → P k := by
    intro k
    induction k with
    | zero => intro _; exact h0
    | succ k ih => intro hk; have := hs k (by omega) (by omega) (ih (by omega)); simpa using this
  have := key n.toNat (by omega)
  have e : ((n.toNat : Nat) : Int) = n := by omega
  rw [e] at this; exact this
theorem sm_congr {f g : Int → Int} {n : Int} (hn : 0 ≤ n) (h : ∀ a, 0 ≤ a → a < n → f a = g a) : sm f n = sm g n :=
  sm_ind (P := fun i => sm f i = sm g i) hn rfl (fun i h0 h1 ih => by rw [sm_s f h0, sm_s g h0, ih, h i h0 h1])
theorem sm_bd {f : Int → Int} {B n : Int} (hn : 0 ≤ n) (h : ∀ a, 0 ≤ a → a < n → 0 ≤ f a ∧ f a ≤ B) : 0 ≤ sm f n ∧ sm f n ≤ n * B :=
  sm_ind (P := fun i => 0 ≤ sm f i ∧ sm f i ≤ i * B) hn (by rw [sm_0]; omega) (fun i h0 h1 ih => by
    have h2 := h i h0 h1
    have e : (i + 1) * B = i * B + B := by rw [Int.add_mul, Int.one_mul]
    rw [sm_s f h0, e]; omega)
theorem sm_add (f g : Int → Int) {n : Int} (hn : 0 ≤ n) : sm (fun a => f a + g a) n = sm f n + sm g n :=
  sm_ind (P := fun i => sm (fun a => f a + g a) i = sm f i + sm g i) hn rfl (fun i h0 h1 ih => by rw [sm_s _ h0, sm_s _ h0, sm_s _ h0, ih]; omega)
theorem sm_sub (f g : Int → Int) {n : Int} (hn : 0 ≤ n) : sm (fun a => f a - g a) n = sm f n - sm g n :=
  sm_ind (P := fun i => sm (fun a => f a - g a) i = sm f i - sm g i) hn rfl (fun i h0 h1 ih => by rw [sm_s _ h0, sm_s _ h0, sm_s _ h0, ih]; omega)
theorem sm_mul (k : Int) (f : Int → Int) {n : Int} (hn : 0 ≤ n) : sm (fun a => k * f a) n = k * sm f n :=
  sm_ind (P := fun i => sm (fun a => k * f a) i = k * sm f i) hn (by rw [sm_0, sm_0]; omega) (fun i h0 h1 ih => by rw [sm_s _ h0, sm_s _ h0, ih, Int.mul_add])
theorem sm_nn {f : Int → Int} {n : Int} (hn : 0 ≤ n) (h : ∀ a, 0 ≤ a → a < n → 0 ≤ f a) : 0 ≤ sm f n :=
  sm_ind (P := fun i => 0 ≤ sm f i) hn (by rw [sm_0]; omega) (fun i h0 h1 ih => by have := h i h0 h1; rw [sm_s f h0]; omega)
theorem sm_mono {f : Int → Int} {i n : Int} (hi : 0 ≤ i) (hn : i ≤ n) (h : ∀ a, 0 ≤ a → a < n → 0 ≤ f a) : sm f i ≤ sm f n := by
  have key := sm_ind (P := fun k => sm f i ≤ sm f (i + k)) (n := n - i) (by omega) (by simp) (fun k h0 h1 ih => by
    have := h (i + k) (by omega) (by omega)
    have e : i + (k + 1) = (i + k) + 1 := by omega
    rw [e, sm_s f (by omega)]; omega)
  have e : i + (n - i) = n := by omega
  rw [e] at key; exact key
theorem sm_le {f g : Int → Int} {n : Int} (hn : 0 ≤ n) (h : ∀ a, 0 ≤ a → a < n → f a ≤ g a) : sm f n ≤ sm g n :=
  sm_ind (P := fun i => sm f i ≤ sm g i) hn (by rw [sm_0, sm_0]; omega) (fun i h0 h1 ih => by have := h i h0 h1; rw [sm_s f h0, sm_s g h0]; omega)
theorem sm_one {f : Int → Int} {n i : Int} (h0 : 0 ≤ i) (h1 : i < n) (h : ∀ a, 0 ≤ a → a < n → 0 ≤ f a) : f i ≤ sm f n := by
  have a1 := sm_nn (f := f) h0 (fun a q1 q2 => h a q1 (by omega))
  have a2 := sm_s f h0
  have a3 := sm_mono (f := f) (i := i + 1) (n := n) (by omega) (by omega) h
  omega
theorem sm_zero {f : Int → Int} {n : Int} (hn : 0 ≤ n) (h : ∀ a, 0 ≤ a → a < n → 0 ≤ f a) (hz : sm f n = 0) : ∀ a, 0 ≤ a → a < n → f a = 0 := by
  intro a h0 h1
  have := sm_one h0 h1 h
  have := h a h0 h1
  omega
/-- rows: one place, a stretch -/
def upr (g : Int → Int) (i v : Int) : Int → Int := fun k => if k = i then v else g k
def fwr (g f : Int → Int) (lo n : Int) : Int → Int := fun k => if lo ≤ k ∧ k < lo + n then f k else g k
def fw (M : mMem) (a : Int) (f : Int → Int) (lo n : Int) : mMem := fun b k => if b = a ∧ lo ≤ k ∧ k < lo + n then f k else M b k
theorem upr_s (g : Int → Int) (i v : Int) : upr g i v i = v := if_pos rfl
theorem upr_n {g : Int → Int} {i v k : Int} (h : k ≠ i) : upr g i v k = g k := if_neg h
theorem fwr_i {g f : Int → Int} {lo n k : Int} (h : lo ≤ k ∧ k < lo + n) : fwr g f lo n k = f k := if_pos h
theorem fwr_o {g f : Int → Int} {lo n k : Int} (h : k < lo ∨ lo + n ≤ k) : fwr g f lo n k = g k := if_neg (by omega)
theorem fw_i {M : mMem} {a : Int} {f : Int → Int} {lo n k : Int} (h : lo ≤ k ∧ k < lo + n) : fw M a f lo n a k = f k := if_pos ⟨rfl, h⟩
theorem fw_o {M : mMem} {a : Int} {f : Int → Int} {lo n b k : Int} (h : k < lo ∨ lo + n ≤ k) : fw M a f lo n b k = M b k := if_neg (by omega)
theorem fw_na {M : mMem} {a : Int} {f : Int → Int} {lo n b k : Int} (h : b ≠ a) : fw M a f lo n b k = M b k := if_neg (fun e => h e.1)
theorem fw_row {M : mMem} {a : Int} {f : Int → Int} {lo n b : Int} (h : b ≠ a) : fw M a f lo n b = M b := funext fun _ => fw_na h
theorem fw_g (M : mMem) (a : Int) (f : Int → Int) (lo n : Int) : fw M a f lo n a = fwr (M a) f lo n := by
  funext k; unfold fw fwr; by_cases h : lo ≤ k ∧ k < lo + n
  · rw [if_pos ⟨rfl, h⟩, if_pos h]
  · rw [if_neg (fun q => h q.2), if_neg h]
theorem up_g (M : mMem) (a i v : Int) : up M a i v a = upr (M a) i v := by
  funext k; unfold up upr; by_cases h : k = i
  · rw [if_pos ⟨rfl, h⟩, if_pos h]
  · rw [if_neg (fun q => h q.2), if_neg h]
theorem fw_0 (M : mMem) (a : Int) (f : Int → Int) (lo : Int) : fw M a f lo 0 = M := by
  funext b k; exact if_neg (by omega)
theorem fw_up {M : mMem} {a : Int} {f : Int → Int} {lo n v : Int} (hn : 0 ≤ n) (hv : v = f (lo + n)) : up (fw M a f lo n) a (lo + n) v = fw M a f lo (n + 1) := by
  funext b k; unfold up fw
  by_cases h1 : b = a ∧ k = lo + n
  · rw [if_pos h1, if_pos ⟨h1.1, by omega, by omega⟩, hv, h1.2]
  · rw [if_neg h1]
    by_cases h2 : b = a ∧ lo ≤ k ∧ k < lo + n
    · rw [if_pos h2, if_pos ⟨h2.1, h2.2.1, by omega⟩]
    · rw [if_neg h2, if_neg (fun q => by by_cases e : k = lo + n; exact h1 ⟨q.1, e⟩; exact h2 ⟨q.1, q.2.1, by omega⟩)]
theorem fw_dn {M : mMem} {a : Int} {f : Int → Int} {lo n v : Int} (hn : 0 ≤ n) (hv : v = f lo) : up (fw M a f (lo + 1) n) a lo v = fw M a f lo (n + 1) := by
  funext b k; unfold up fw
  by_cases h1 : b = a ∧ k = lo
  · rw [if_pos h1, if_pos ⟨h1.1, by omega, by omega⟩, hv, h1.2]
  · rw [if_neg h1]
    by_cases h2 : b = a ∧ lo + 1 ≤ k ∧ k < lo + 1 + n
    · rw [if_pos h2, if_pos ⟨h2.1, by omega, by omega⟩]
    · rw [if_neg h2, if_neg (fun q => by by_cases e : k = lo; exact h1 ⟨q.1, e⟩; exact h2 ⟨q.1, by omega, by omega⟩)]
/-- the last place below n where p holds, -1 without -/
def lastB (p : Int → Bool) : Nat → Int
  | 0 => -1
  | n + 1 => if p (n : Int) then (n : Int) else lastB p n
def lasI (p : Int → Bool) (i : Int) : Int := lastB p i.toNat
theorem las_0 (p : Int → Bool) : lasI p 0 = -1 := rfl
theorem las_s (p : Int → Bool) {i : Int} (h : 0 ≤ i) : lasI p (i + 1) = if p i then i else lasI p i := by
  unfold lasI
  have e : (i + 1).toNat = i.toNat + 1 := by omega
  have e2 : ((i.toNat : Nat) : Int) = i := by omega
  rw [e, lastB, e2]
theorem cpy_i {M : mMem} {s d n k : Int} (h : 0 ≤ k ∧ k < n) : cpy M s 0 d 0 n d k = M s k := by
  unfold cpy; rw [if_pos (by omega)]; congr 1; omega
theorem cpy_na {M : mMem} {s sp d dp n a k : Int} (h : a ≠ d) : cpy M s sp d dp n a k = M a k := if_neg (fun e => h e.1)
