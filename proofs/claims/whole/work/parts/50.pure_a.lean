/-! Pure words, first piece: sums over ages. -/
def sumN (f : Int → Int) : Nat → Int
  | 0 => 0
  | n + 1 => sumN f n + f (n : Int)
theorem sumN_congr {f g : Int → Int} : ∀ {n : Nat}, (∀ a : Int, 0 ≤ a → a < (n : Int) → f a = g a) → sumN f n = sumN g n := by
  intro n
  induction n with
  | zero => intro _; rfl
  | succ n ih => intro h; rw [sumN, sumN, ih (fun a h1 h2 => h a h1 (by omega)), h n (by omega) (by omega)]
theorem sumN_bd {f : Int → Int} {B : Int} : ∀ {n : Nat}, (∀ a : Int, 0 ≤ a → a < (n : Int) → 0 ≤ f a ∧ f a ≤ B) → 0 ≤ sumN f n ∧ sumN f n ≤ (n : Int) * B := by
  intro n
  induction n with
  | zero => intro _; rw [sumN]; omega
  | succ n ih =>
    intro h
    have h1 := ih (fun a h1 h2 => h a h1 (by omega))
    have h2 := h n (by omega) (by omega)
    have e : ((n + 1 : Nat) : Int) * B = (n : Int) * B + B := by rw [Int.natCast_add, Int.add_mul]; simp
    rw [sumN, e]; omega
/-- all drops of a cask; their years together; by the row of drops -/
def allD (d : Int → Int) (c : Int) : Int := sumN (fun a => d (20 * c + a)) 20
def yrsD (d : Int → Int) (c : Int) : Int := sumN (fun a => a * d (20 * c + a)) 20
def meanD (d : Int → Int) (c : Int) : Int := if allD d c = 0 then -1 else (1000 * yrsD d c).tdiv (allD d c)
/-- the reference's row of drops -/
def dM (M : mMem) : Int → Int := fun i => M 202 (10 + i)
def okD (d : Int → Int) : Prop := ∀ i, 0 ≤ i → i < 160 → 0 ≤ d i ∧ d i ≤ 999000
