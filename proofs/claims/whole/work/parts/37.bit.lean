/-! bits, as the two programs ask for them and set them -/
theorem b_nI1 : ∀ i, i < 32 → bt (nI 1) i = decide (i = 0) := by decide +kernel
theorem b_nI0 (i : Nat) : bt (nI 0) i = false := b_0 i
theorem b_mN : ∀ i, i < 32 → bt mN i = true := by decide +kernel
theorem sh_bit {v : Int32} {k : Nat} (hk : k < 32) : ((v >>> (nI k &&& nI 31)) &&& nI 1 = nI 1) = (bt v k = true) := by
  apply propext
  have e0 : bt (v >>> (nI k &&& nI 31)) 0 = bt v k := by
    have := b_sshr k hk v (i := 0) (by decide)
    rw [Nat.add_zero, if_pos hk] at this
    exact this
  constructor
  · intro h
    have h2 := congrArg (fun w => bt w 0) h
    simp only [b_and, e0] at h2
    rw [b_nI1 0 (by decide)] at h2
    simpa using h2
  · intro h
    apply b_ext
    intro i hi
    rw [b_and, b_nI1 i hi]
    by_cases h0 : i = 0
    · subst h0; rw [e0, h]; rfl
    · rw [decide_eq_false h0, Bool.and_false]
theorem b_one {k i : Nat} (hk : k < 32) (hi : i < 32) : bt (nI 1 <<< (nI k &&& nI 31)) i = decide (i = k) := by
  have h := b_shl k hk (nI 1) hi
  refine Eq.trans h ?_
  by_cases h1 : k ≤ i
  · rw [decide_eq_true h1, b_nI1 _ (by omega), Bool.true_and]
    by_cases h2 : i = k
    · rw [decide_eq_true h2, decide_eq_true (by omega)]
    · rw [decide_eq_false h2, decide_eq_false (by omega)]
  · rw [decide_eq_false h1, Bool.false_and, decide_eq_false (by omega)]
theorem b_not {v : Int32} {i : Nat} (hi : i < 32) : bt (v ^^^ mN) i = !bt v i := by
  rw [b_xor, b_mN i hi]; cases bt v i <;> rfl
/-- one bit more -/
theorem b_set {v : Int32} {k i : Nat} (hk : k < 32) (hi : i < 32) : bt (v ||| nI 1 <<< (nI k &&& nI 31)) i = (bt v i || decide (i = k)) := by
  rw [b_or, b_one hk hi]
/-- one bit less -/
theorem b_clr {v : Int32} {k i : Nat} (hk : k < 32) (hi : i < 32) : bt (v &&& ((nI 1 <<< (nI k &&& nI 31)) ^^^ mN)) i = (bt v i && !decide (i = k)) := by
  rw [b_and, b_not hi, b_one hk hi]
theorem and_mN (v : Int32) : v &&& mN = v := by
  apply b_ext; intro i hi; rw [b_and, b_mN i hi, Bool.and_true]
theorem and_0 (v : Int32) : v &&& nI 0 = nI 0 := by
  apply b_ext; intro i hi; rw [b_and, b_nI0, Bool.and_false]
theorem b_zero {v : Int32} : v = nI 0 ↔ ∀ i, i < 32 → bt v i = false := by
  constructor
  · intro h i hi; rw [h, b_nI0]
  · intro h; apply b_ext; intro i hi; rw [h i hi, b_nI0]
/-- the n lowest bits -/
theorem b_low : ∀ n, n ≤ 10 → ∀ i, i < 32 → bt ((nI 1 <<< (nI n &&& nI 31)) - nI 1) i = decide (i < n) := by
  intro n hn
  match n, hn with
  | 0, _ => decide +kernel
  | 1, _ => decide +kernel
  | 2, _ => decide +kernel
  | 3, _ => decide +kernel
  | 4, _ => decide +kernel
  | 5, _ => decide +kernel
  | 6, _ => decide +kernel
  | 7, _ => decide +kernel
  | 8, _ => decide +kernel
  | 9, _ => decide +kernel
  | 10, _ => decide +kernel
  | n + 11, h => exact absurd h (by omega)
theorem b_1023 : ∀ i, i < 32 → bt (1023 : Int32) i = decide (i < 10) := by decide +kernel
/-! a number handed in that is no place -/
section OUT
variable {b : Int32} {n : Nat} {α : Type} {x y : α}
theorem out_last (h : b < nI 0 ∨ nI (n + 1) ≤ b) (hn : n + 1 < 2 ^ 31) : b < nI 0 ∨ nI n < b := by
  rcases h with h | h
  · exact Or.inl h
  · exact Or.inr (fa_trans (b := nI (n + 1)) (nI_lt (by omega) hn) h)
theorem out_md (h : b < nI 0 ∨ nI (n + 1) ≤ b) (hn : n + 1 < 2 ^ 31) {z : Nat → Nat} {m : Mm} : f_Mod_isIn z m b (nI 0) (nI n) = some (nI 0) := md_isnt (out_last h hn)
theorem out_le (h : b < nI 0 ∨ nI (n + 1) ≤ b) (hn : n + 1 < 2 ^ 31) : (if b < nI 0 then x else if b ≤ nI n then y else x) = x := by
  rcases out_last h hn with h | h
  · rw [if_pos h]
  · by_cases h2 : b < nI 0
    · rw [if_pos h2]
    · rw [if_neg h2, if_neg (fa_of_lt h).2.1]
theorem out_lt (h : b < nI 0 ∨ nI (n + 1) ≤ b) (hn : n + 1 < 2 ^ 31) : (if b < nI 0 then x else if nI n < b then x else y) = x := by
  rcases out_last h hn with h | h
  · rw [if_pos h]
  · by_cases h2 : b < nI 0
    · rw [if_pos h2]
    · rw [if_neg h2, if_pos h]
theorem out_ge (h : b < nI 0 ∨ nI n ≤ b) : (if b < nI 0 then x else if nI n ≤ b then x else y) = x := by
  rcases h with h | h
  · rw [if_pos h]
  · by_cases h2 : b < nI 0
    · rw [if_pos h2]
    · rw [if_neg h2, if_pos h]
end OUT
/-! counting down -/
theorem dn_sub {s i : Nat} (h : i ≤ s) : nI s - nI i = nI (s - i) := nI_sub h
theorem dn_step (s i : Nat) : nI s - nI i + mN = nI s - nI (i + 1) := by
  rw [← nI_add i 1, ← Int32.sub_sub, Int32.sub_eq_add_neg (nI s - nI i), fmN]
theorem dn_end {s i n : Nat} (hi : i < n) (hn : n ≤ s + 1) (hs : s < 2 ^ 31) : (nI s - nI i ≤ nI s - nI n) = False := by
  apply eq_false
  rw [dn_sub (by omega : i ≤ s)]
  by_cases h : n ≤ s
  · rw [dn_sub h]; exact nI_ge (by omega) (by omega)
  · have : n = s + 1 := by omega
    subst this
    rw [← dn_step s s, Int32.sub_self]
    rw [show (0 : Int32) + mN = mN from by decide]
    rw [mN_nle _ (by omega)]
    exact id
theorem dn_endS {s i n : Nat} (hi : i < n) (hn : n ≤ s + 1) (hs : s < 2 ^ 31) : (nI (s - i) ≤ nI s - nI n) = False := by
  rw [← dn_sub (by omega : i ≤ s)]; exact dn_end hi hn hs
theorem dn_stepS {s i : Nat} (h : i ≤ s) : nI (s - i) + mN = nI s - nI (i + 1) := by rw [← dn_sub h, dn_step]
theorem lp_down {α : Type} {body : α × Int32 → Option ((α × Int32) ⊕ α)} (g : Nat → α → α) (s n : Nat) {a : α} (h : ∀ i x, i < n → body (x, nI s - nI i) = some (.inl (g i x, nI s - nI (i + 1)))) (he : ∀ x, body (x, nI s - nI n) = some (.inr x)) : mm_lp body (a, nI s) = some (fo g n a) :=
  lp_go (fun i => (fo g i a, nI s - nI i)) n (Prod.ext rfl (Int32.sub_zero _).symm) (fun i hi => h i _ hi) (he _)
