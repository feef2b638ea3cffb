/-! sets of SURNAMES, counted -/
def sI (n : Nat) (f : Nat → Int32) : Int32 := fo (fun y a => a + f y) n (nI 0)
theorem sI_succ (n : Nat) (f : Nat → Int32) : sI (n + 1) f = sI n f + f n := rfl
theorem sI_cong {f g : Nat → Int32} {n : Nat} (h : ∀ y, y < n → f y = g y) : sI n f = sI n g := fo_cong (fun i x hi => by rw [h i hi])
theorem i0_add (a : Int32) : nI 0 + a = a := Int32.zero_add a
theorem i_add0 (a : Int32) : a + nI 0 = a := Int32.add_zero a
theorem sI_zero {f : Nat → Int32} : ∀ {n : Nat}, (∀ y, y < n → f y = nI 0) → sI n f = nI 0
  | 0, _ => rfl
  | n + 1, h => by rw [sI_succ, sI_zero (fun y hy => h y (by omega)), h n (by omega)]; rfl
theorem sI_split (f : Nat → Int32) (m : Nat) : ∀ n, sI (m + n) f = sI m f + sI n (fun k => f (m + k))
  | 0 => (i_add0 _).symm
  | n + 1 => by
    show sI (m + n) f + f (m + n) = sI m f + (sI n (fun k => f (m + k)) + f (m + n))
    rw [sI_split f m n, Int32.add_assoc]
theorem sI_one {f : Nat → Int32} {x : Nat} : ∀ {n : Nat}, x < n → (∀ y, y < n → y ≠ x → f y = nI 0) → sI n f = f x
  | n + 1, hx, h => by
    rw [sI_succ]
    by_cases e : x = n
    · subst e
      rw [sI_zero (fun y hy => h y (by omega) (by omega)), i0_add]
    · rw [sI_one (by omega : x < n) (fun y hy hn => h y (by omega) hn), h n (by omega) (fun q => e q.symm), i_add0]
/-- a loop's sum from any beginning -/
theorem fo_sI (f : Nat → Int32) (n : Nat) : fo (fun y a => a + f y) n (nI 0) = sI n f := rfl
theorem set_all : ∀ s, s < 1024 → ∀ y, y < 10 → s.testBit y = true → s ^^^ 2 ^ y = s - 2 ^ y ∧ 2 ^ y ≤ s ∧ pc (s - 2 ^ y) + 1 = pc s := by decide +kernel
theorem pow_le_1024 {n : Nat} (hn : n ≤ 10) : 2 ^ n ≤ 1024 := Nat.pow_le_pow_right (by decide) hn
theorem tb_hi {s n i : Nat} (hs : s < 2 ^ n) (h : n ≤ i) : s.testBit i = false := Nat.testBit_lt_two_pow (Nat.lt_of_lt_of_le hs (Nat.pow_le_pow_right (by decide) h))
theorem tb_sub {s y i : Nat} (hs : s < 1024) (hy : y < 10) (h : s.testBit y = true) : (s - 2 ^ y).testBit i = (s.testBit i && !decide (i = y)) := by
  rw [← (set_all s hs y hy h).1, Nat.testBit_xor, Nat.testBit_two_pow]
  by_cases e : i = y
  · subst e; rw [h]; simp
  · rw [decide_eq_false e, decide_eq_false (fun q => e q.symm)]; simp
/-- the ways in which the first j HOUSES have just this set -/
def WW (n : Nat) (F : Nat → Nat → Bool) : Nat → Nat → Int32
  | 0, s => if s = 0 then nI 1 else nI 0
  | j + 1, s => sI n (fun y => if (s.testBit y && F j y) = true then WW n F j (s - 2 ^ y) else nI 0)
theorem WW_cong {n : Nat} {F G : Nat → Nat → Bool} : ∀ {j s : Nat}, (∀ k y, k < j → y < n → F k y = G k y) → WW n F j s = WW n G j s
  | 0, _, _ => rfl
  | j + 1, s, h => by
    show sI n _ = sI n _
    refine sI_cong (fun y hy => ?_)
    rw [h j y (by omega) hy, WW_cong (j := j) (fun k y hk hy => h k y (by omega) hy)]
theorem sub_lt2 {s y N : Nat} (hs : s < N) : s - 2 ^ y < N := Nat.lt_of_le_of_lt (Nat.sub_le _ _) hs
theorem WW_zero {n : Nat} (hn : n ≤ 10) {F : Nat → Nat → Bool} : ∀ {j s : Nat}, s < 2 ^ n → pc s ≠ j → WW n F j s = nI 0
  | 0, s, hs, h => by
    show (if s = 0 then nI 1 else nI 0) = nI 0
    rw [if_neg (fun e => h (by subst e; decide))]
  | j + 1, s, hs, h => by
    have h10 := pow_le_1024 hn
    refine sI_zero (fun y hy => ?_)
    by_cases hb : (s.testBit y && F j y) = true
    · rw [if_pos hb]
      have hb1 := ((Bool.and_eq_true _ _).mp hb).1
      have h3 := set_all s (by omega) y (by omega) hb1
      exact WW_zero hn (sub_lt2 hs) (by omega)
    · rw [if_neg hb]
/-- the HOUSES without one -/
def idx (h : Option Nat) (j : Nat) : Nat := match h with
  | none => j
  | some h => if j < h then j else j + 1
theorem WW_but {n : Nat} (hn : n ≤ 10) {F F' : Nat → Nat → Bool} {h x : Nat} (hx : x < n) (e1 : ∀ k y, k ≠ h → F' k y = F k y) (e2 : ∀ y, F' h y = (F h y && decide (y = x))) : ∀ d s, s < 2 ^ n → WW n F' (h + 1 + d) s = if (s.testBit x && F h x) = true then WW n (fun j => F (idx (some h) j)) (h + d) (s - 2 ^ x) else nI 0 := by
  have h10 := pow_le_1024 hn
  have eG : ∀ j y, h ≤ j → F (idx (some h) j) y = F (j + 1) y := fun j y hj => by show F (if j < h then j else j + 1) y = _; rw [if_neg (by omega)]
  have eL : ∀ j y, j < h → F (idx (some h) j) y = F j y := fun j y hj => by show F (if j < h then j else j + 1) y = _; rw [if_pos hj]
  intro d
  induction d with
  | zero =>
    intro s hs
    show sI n (fun y => if (s.testBit y && F' h y) = true then WW n F' h (s - 2 ^ y) else nI 0) = _
    rw [sI_one hx (fun y hy hyx => by rw [e2, decide_eq_false hyx, Bool.and_false, Bool.and_false]; rfl)]
    rw [e2, decide_eq_true rfl, Bool.and_true]
    by_cases hb : (s.testBit x && F h x) = true
    · rw [if_pos hb, if_pos hb]
      exact WW_cong (fun k y hk hy => by rw [e1 k y (by omega), eL k y hk])
    · rw [if_neg hb, if_neg hb]
  | succ d ih =>
    intro s hs
    show sI n (fun y => if (s.testBit y && F' (h + 1 + d) y) = true then WW n F' (h + 1 + d) (s - 2 ^ y) else nI 0) = _
    by_cases hb : (s.testBit x && F h x) = true
    · rw [if_pos hb]
      have hb1 := ((Bool.and_eq_true _ _).mp hb).1
      have hb2 := ((Bool.and_eq_true _ _).mp hb).2
      show _ = sI n (fun y => if ((s - 2 ^ x).testBit y && F (idx (some h) (h + d)) y) = true then WW n (fun j => F (idx (some h) j)) (h + d) (s - 2 ^ x - 2 ^ y) else nI 0)
      refine sI_cong (fun y hy => ?_)
      rw [eG (h + d) y (by omega), e1 _ y (by omega), show h + d + 1 = h + 1 + d by omega, tb_sub (by omega) (by omega) hb1]
      by_cases hyx : y = x
      · subst hyx
        rw [decide_eq_true rfl, Bool.not_true, Bool.and_false, Bool.false_and, if_neg (by decide : ¬ false = true)]
        by_cases hc : (s.testBit y && F (h + 1 + d) y) = true
        · rw [if_pos hc, ih (s - 2 ^ y) (sub_lt2 hs), tb_sub (by omega) (by omega) hb1, decide_eq_true rfl, Bool.not_true, Bool.and_false, Bool.false_and, if_neg (by decide : ¬ false = true)]
        · rw [if_neg hc]
      · rw [decide_eq_false hyx, Bool.not_false, Bool.and_true]
        by_cases hc : (s.testBit y && F (h + 1 + d) y) = true
        · have hc1 := ((Bool.and_eq_true _ _).mp hc).1
          rw [if_pos hc, if_pos hc, ih (s - 2 ^ y) (sub_lt2 hs), tb_sub (by omega) (by omega) hc1, decide_eq_false (fun q => hyx q.symm), Bool.not_false, Bool.and_true, if_pos hb]
          rw [Nat.sub_right_comm]
        · rw [if_neg hc, if_neg hc]
    · rw [if_neg hb]
      refine sI_zero (fun y hy => ?_)
      by_cases hc : (s.testBit y && F' (h + 1 + d) y) = true
      · have hc1 := ((Bool.and_eq_true _ _).mp hc).1
        rw [if_pos hc, ih (s - 2 ^ y) (sub_lt2 hs), tb_sub (by omega) (by omega) hc1]
        refine if_neg (fun q => hb ?_)
        rw [Bool.and_eq_true] at q ⊢
        exact ⟨((Bool.and_eq_true _ _).mp q.1).1, q.2⟩
      · rw [if_neg hc]
/-- the sets that have x, by those that don't -/
theorem sI_flip {n x : Nat} (hx : x < n) (g : Nat → Int32) : sI (2 ^ n) (fun s => if s.testBit x = true then g (s - 2 ^ x) else nI 0) = sI (2 ^ n) (fun s => if s.testBit x = true then nI 0 else g s) := by
  have key : ∀ A, sI ((2 ^ x + 2 ^ x) * A) (fun s => if s.testBit x = true then g (s - 2 ^ x) else nI 0) = sI ((2 ^ x + 2 ^ x) * A) (fun s => if s.testBit x = true then nI 0 else g s) := by
    intro A
    induction A with
    | zero => rfl
    | succ A ih =>
      have hB := Nat.two_pow_pos x
      have lo : ∀ k, k < 2 ^ x → ((2 ^ x + 2 ^ x) * A + k).testBit x = false := fun k hk => by
        rw [Nat.testBit_eq_decide_div_mod_eq, show (2 ^ x + 2 ^ x) * A + k = 2 ^ x * (2 * A) + k by rw [← Nat.two_mul, Nat.mul_comm 2, Nat.mul_assoc], Nat.mul_add_div hB, Nat.div_eq_of_lt hk]
        exact decide_eq_false (by omega)
      have hi : ∀ k, k < 2 ^ x → ((2 ^ x + 2 ^ x) * A + (2 ^ x + k)).testBit x = true := fun k hk => by
        rw [Nat.testBit_eq_decide_div_mod_eq, show (2 ^ x + 2 ^ x) * A + (2 ^ x + k) = 2 ^ x * (2 * A + 1) + k by rw [← Nat.two_mul, Nat.mul_comm 2, Nat.mul_assoc, Nat.mul_add, Nat.mul_one, Nat.add_assoc], Nat.mul_add_div hB, Nat.div_eq_of_lt hk]
        exact decide_eq_true (by omega)
      rw [Nat.mul_succ, sI_split, sI_split, ih]
      rw [sI_split, sI_split]
      rw [sI_zero (n := 2 ^ x) (f := fun k => if ((2 ^ x + 2 ^ x) * A + k).testBit x = true then g ((2 ^ x + 2 ^ x) * A + k - 2 ^ x) else nI 0) (fun y hy => by rw [lo y hy]; rfl)]
      rw [sI_zero (n := 2 ^ x) (f := fun k => if ((2 ^ x + 2 ^ x) * A + (2 ^ x + k)).testBit x = true then nI 0 else g ((2 ^ x + 2 ^ x) * A + (2 ^ x + k))) (fun y hy => by rw [hi y hy]; rfl)]
      rw [i0_add, i_add0]
      refine congrArg (HAdd.hAdd _) (sI_cong (fun k hk => ?_))
      rw [hi k hk, lo k hk, if_pos rfl, if_neg (by decide)]
      congr 1
      generalize (2 ^ x + 2 ^ x) * A = T
      generalize 2 ^ x = B
      omega
  have e : 2 ^ n = (2 ^ x + 2 ^ x) * 2 ^ (n - (x + 1)) := by
    rw [← Nat.two_mul, Nat.mul_comm 2, ← Nat.pow_succ, ← Nat.pow_add]
    congr 1
    omega
  rw [e]
  exact key _
