/-! THE PURE PART. Small words: what a load, a store, a comparison of small numbers comes to -/
def mN : Int32 := -1
theorem fl (n : Nat) : (OfNat.ofNat n : Int32) = nI n := Int32.toBitVec_inj.mp rfl
theorem fmN : -nI 1 = mN := by decide
theorem fmN' : (-1 : Int32) = mN := by decide
def kF (σ : Mm) (o : Nat) (f : Nat → Int32) : Mm := (fun a => if a = o then f else σ.1 a, σ.2)
def kG (σ : Mm) (o : Nat) (f : Nat → Int64) : Mm := (σ.1, fun a => if a = o then f else σ.2 a)
def ok {α : Type} (x : Option α) (Q : α → Prop) : Prop := ∃ a, x = some a ∧ Q a
theorem ok_some {α : Type} {a : α} {Q : α → Prop} : ok (some a) Q ↔ Q a := ⟨fun ⟨b, h, q⟩ => by cases h; exact q, fun q => ⟨a, rfl, q⟩⟩
theorem ok_bind {α β : Type} {x : Option α} {f : α → Option β} {Q : β → Prop} : ok (x.bind f) Q ↔ ok x (fun a => ok (f a) Q) := by
  constructor
  · rintro ⟨b, h, q⟩
    cases x with
    | none => cases h
    | some a => exact ⟨a, rfl, b, h, q⟩
  · rintro ⟨a, rfl, b, h, q⟩
    exact ⟨b, h, q⟩
theorem ok_mono {α : Type} {x : Option α} {Q R : α → Prop} (h : ok x Q) (hq : ∀ a, Q a → R a) : ok x R := by
  obtain ⟨a, h1, h2⟩ := h; exact ⟨a, h1, hq a h2⟩
theorem ok_eq {α : Type} {x : Option α} {a : α} {Q : α → Prop} (h : x = some a) (q : Q a) : ok x Q := ⟨a, h, q⟩
theorem ok_of {α : Type} {x : Option α} {a : α} : ok x (fun b => b = a) ↔ x = some a := ⟨fun ⟨b, h, e⟩ => by subst e; exact h, fun h => ⟨a, h, rfl⟩⟩
theorem bd_of {α β : Type} {x : Option α} {a : α} {f : α → Option β} (h : x = some a) : x.bind f = f a := by rw [h]; rfl
theorem lt_t {a b : Nat} (h : a < b) (hb : b < 2 ^ 31) : (nI a < nI b) = True := eq_true (nI_lt h hb)
theorem lt_f {a b : Nat} (h : b ≤ a) (ha : a < 2 ^ 31) : (nI a < nI b) = False := eq_false (nI_nlt h ha)
theorem le_t {a b : Nat} (h : a ≤ b) (hb : b < 2 ^ 31) : (nI a ≤ nI b) = True := eq_true (nI_le h hb)
theorem le_f {a b : Nat} (h : b < a) (ha : a < 2 ^ 31) : (nI a ≤ nI b) = False := eq_false (nI_ge h ha)
theorem eq_f {a b : Nat} (h : a ≠ b) (ha : a < 2 ^ 31) (hb : b < 2 ^ 31) : (nI a = nI b) = False := eq_false (fun e => h ((nI_eq ha hb).mp e))
theorem mN_int : mN.toInt = -1 := by decide +kernel
theorem mN_lt (a : Nat) (h : a < 2 ^ 31) : (mN < nI a) = True := eq_true (by rw [fa_lt, mN_int, nI_toInt h]; omega)
theorem mN_nlt (a : Nat) (h : a < 2 ^ 31) : (nI a < mN) = False := eq_false (by rw [fa_lt, mN_int, nI_toInt h]; omega)
theorem mN_nle (a : Nat) (h : a < 2 ^ 31) : (nI a ≤ mN) = False := eq_false (by rw [fa_le, mN_int, nI_toInt h]; omega)
theorem mN_le (a : Nat) (h : a < 2 ^ 31) : (mN ≤ nI a) = True := eq_true (by rw [fa_le, mN_int, nI_toInt h]; omega)
theorem mN_ne (a : Nat) (h : a < 2 ^ 31) : (nI a = mN) = False := eq_false (by rw [fa_eq, mN_int, nI_toInt h]; omega)
theorem mN_ne' (a : Nat) (h : a < 2 ^ 31) : (mN = nI a) = False := eq_false (by rw [fa_eq, mN_int, nI_toInt h]; omega)
theorem nI_mul (a b : Nat) : nI a * nI b = nI (a * b) := (Int32.ofNat_mul a b).symm
theorem nI_sub {a b : Nat} (h : b ≤ a) : nI a - nI b = nI (a - b) := by
  obtain ⟨c, rfl⟩ : ∃ c, a = c + b := ⟨a - b, by omega⟩
  rw [Nat.add_sub_cancel, ← nI_add, Int32.add_sub_cancel]
theorem nI_inj {a b : Nat} (ha : a < 2 ^ 31) (hb : b < 2 ^ 31) (h : nI a = nI b) : a = b := (nI_eq ha hb).mp h
theorem ld_nI {f : Nat → Int32} {n j : Nat} (h : j < n) (hn : n < 2 ^ 31) : mm_ldI f n (nI j) = some (f j) := by
  unfold mm_ldI; rw [if_neg (nI_in h hn), nI_clamp (by omega)]
theorem ldL_nI {f : Nat → Int64} {n j : Nat} (h : j < n) (hn : n < 2 ^ 31) : mm_ldL f n (nI j) = some (f j) := by
  unfold mm_ldL; rw [if_neg (nI_in h hn), nI_clamp (by omega)]
theorem st_nI {σ : Mm} {o n j : Nat} {v : Int32} (h : j < n) (hn : n < 2 ^ 31) : mm_stI σ o n (nI j) v = some (kI σ o j v) := by
  unfold mm_stI; rw [if_neg (nI_in h hn), nI_clamp (by omega)]
theorem stL_nI {σ : Mm} {o n j : Nat} {v : Int64} (h : j < n) (hn : n < 2 ^ 31) : mm_stL σ o n (nI j) v = some (kL σ o j v) := by
  unfold mm_stL; rw [if_neg (nI_in h hn), nI_clamp (by omega)]
/-- a number handed in is a place below n, or it isn't -/
theorem arg_of (i : Int32) (n : Nat) (hn : n < 2 ^ 31) : (∃ k, k < n ∧ i = nI k) ∨ (i < nI 0 ∨ nI n ≤ i) := by
  by_cases h : i < nI 0
  · exact Or.inr (Or.inl h)
  · obtain ⟨j, hj, rfl⟩ := nI_of (x := i) h
    by_cases h2 : j < n
    · exact Or.inl ⟨j, h2, rfl⟩
    · exact Or.inr (Or.inr (nI_le (by omega) hj))
/-! loops -/
theorem lp_st {S R : Type} {body : S → Option (S ⊕ R)} (st : Nat → S) (n : Nat) {r : R} (h : ∀ i, i < n → body (st i) = some (.inl (st (i + 1)))) (he : body (st n) = some (.inr r)) : mm_lp body (st 0) = some r := by
  have key : ∀ k, k ≤ n → mm_lp body (st (n - k)) = some r := by
    intro k
    induction k with
    | zero => intro _; exact mm_lp_done he
    | succ k ih =>
      intro hk
      rw [mm_lp_step (h (n - (k + 1)) (by omega)), show n - (k + 1) + 1 = n - k by omega]
      exact ih (by omega)
  have := key n (Nat.le_refl n)
  rwa [Nat.sub_self] at this
theorem lp_go {S R : Type} {body : S → Option (S ⊕ R)} (st : Nat → S) (n : Nat) {s : S} {r : R} (h0 : s = st 0) (h : ∀ i, i < n → body (st i) = some (.inl (st (i + 1)))) (he : body (st n) = some (.inr r)) : mm_lp body s = some r := by
  rw [h0]; exact lp_st st n h he
/-- a loop with an invariant and a measure -/
theorem lp_inv {S R : Type} {body : S → Option (S ⊕ R)} {Q : R → Prop} (I : S → Prop) (μ : S → Nat) (step : ∀ s, I s → ok (body s) (fun q => match q with | .inl s' => I s' ∧ μ s' < μ s | .inr r => Q r)) {s : S} (h : I s) : ok (mm_lp body s) Q := by
  have key : ∀ n s, μ s ≤ n → I s → ok (mm_lp body s) Q := by
    intro n
    induction n with
    | zero =>
      intro s hm hi
      obtain ⟨q, h1, h2⟩ := step s hi
      cases q with
      | inl s' => exact absurd h2.2 (by omega)
      | inr r => exact ⟨r, mm_lp_done h1, h2⟩
    | succ n ih =>
      intro s hm hi
      obtain ⟨q, h1, h2⟩ := step s hi
      cases q with
      | inl s' => rw [mm_lp_step h1]; exact ih s' (by have := h2.2; omega) h2.1
      | inr r => exact ⟨r, mm_lp_done h1, h2⟩
  exact key (μ s) s (Nat.le_refl _) h
/-- what two memories have alike: all but these objects -/
def fr (σ m : Mm) (l : List Nat) : Prop := (∀ q, q ∉ l → m.1 q = σ.1 q) ∧ ∀ q, q ∉ l → m.2 q = σ.2 q
theorem fr_rf {σ : Mm} {l : List Nat} : fr σ σ l := ⟨fun _ _ => rfl, fun _ _ => rfl⟩
theorem fr_kI {σ m : Mm} {l : List Nat} {o k : Nat} {v : Int32} (h : fr σ m l) (ho : o ∈ l) : fr σ (kI m o k v) l := ⟨fun q hq => (kI_o m o k v (by intro e; subst e; exact hq ho)).trans (h.1 q hq), h.2⟩
theorem fr_kL {σ m : Mm} {l : List Nat} {o k : Nat} {v : Int64} (h : fr σ m l) (ho : o ∈ l) : fr σ (kL m o k v) l := ⟨h.1, fun q hq => (kL_o m o k v (by intro e; subst e; exact hq ho)).trans (h.2 q hq)⟩
theorem kF_s (σ : Mm) (o : Nat) (f : Nat → Int32) : (kF σ o f).1 o = f := if_pos rfl
theorem kF_o (σ : Mm) (o : Nat) (f : Nat → Int32) {q : Nat} (h : q ≠ o) : (kF σ o f).1 q = σ.1 q := if_neg h
theorem kG_s (σ : Mm) (o : Nat) (f : Nat → Int64) : (kG σ o f).2 o = f := if_pos rfl
theorem kG_o (σ : Mm) (o : Nat) (f : Nat → Int64) {q : Nat} (h : q ≠ o) : (kG σ o f).2 q = σ.2 q := if_neg h
theorem fr_kF {σ m : Mm} {l : List Nat} {o : Nat} {f : Nat → Int32} (h : fr σ m l) (ho : o ∈ l) : fr σ (kF m o f) l := ⟨fun q hq => (kF_o m o f (by intro e; subst e; exact hq ho)).trans (h.1 q hq), h.2⟩
theorem fr_kG {σ m : Mm} {l : List Nat} {o : Nat} {f : Nat → Int64} (h : fr σ m l) (ho : o ∈ l) : fr σ (kG m o f) l := ⟨h.1, fun q hq => (kG_o m o f (by intro e; subst e; exact hq ho)).trans (h.2 q hq)⟩
theorem fr_tr {σ m u : Mm} {l l' l2 : List Nat} (h : fr σ m l) (h' : fr m u l') (hs : ∀ q, q ∈ l → q ∈ l2) (hs' : ∀ q, q ∈ l' → q ∈ l2) : fr σ u l2 := ⟨fun q hq => (h'.1 q (fun e => hq (hs' q e))).trans (h.1 q (fun e => hq (hs q e))), fun q hq => (h'.2 q (fun e => hq (hs' q e))).trans (h.2 q (fun e => hq (hs q e)))⟩
theorem fr_wk {σ m : Mm} {l l2 : List Nat} (h : fr σ m l) (hs : ∀ q, q ∈ l → q ∈ l2) : fr σ m l2 := fr_tr h fr_rf hs hs
theorem kI_kF (σ : Mm) (o k : Nat) (v : Int32) : kI σ o k v = kF σ o (fun b => if b = k then v else σ.1 o b) := by
  refine Prod.ext ?_ rfl
  funext q
  by_cases h : q = o
  · subst h; rw [kI_s, kF_s]
  · rw [kI_o _ _ _ _ h, kF_o _ _ _ h]
theorem kF_kF (σ : Mm) (o : Nat) (f g : Nat → Int32) : kF (kF σ o f) o g = kF σ o g := by
  refine Prod.ext ?_ rfl
  funext q
  by_cases h : q = o
  · subst h; rw [kF_s, kF_s]
  · rw [kF_o _ _ _ h, kF_o _ _ _ h, kF_o _ _ _ h]
theorem kF_id (σ : Mm) (o : Nat) {f : Nat → Int32} (h : f = σ.1 o) : kF σ o f = σ := by
  refine Prod.ext ?_ rfl
  funext q
  by_cases h2 : q = o
  · subst h2; rw [kF_s, h]
  · rw [kF_o _ _ _ h2]
theorem kL_kG (σ : Mm) (o k : Nat) (v : Int64) : kL σ o k v = kG σ o (fun b => if b = k then v else σ.2 o b) := by
  refine Prod.ext rfl ?_
  funext q
  by_cases h : q = o
  · subst h; rw [kL_s, kG_s]
  · rw [kL_o _ _ _ _ h, kG_o _ _ _ h]
theorem kG_kG (σ : Mm) (o : Nat) (f g : Nat → Int64) : kG (kG σ o f) o g = kG σ o g := by
  refine Prod.ext rfl ?_
  funext q
  by_cases h : q = o
  · subst h; rw [kG_s, kG_s]
  · rw [kG_o _ _ _ h, kG_o _ _ _ h, kG_o _ _ _ h]
theorem kG_id (σ : Mm) (o : Nat) {f : Nat → Int64} (h : f = σ.2 o) : kG σ o f = σ := by
  refine Prod.ext rfl ?_
  funext q
  by_cases h2 : q = o
  · subst h2; rw [kG_s, h]
  · rw [kG_o _ _ _ h2]
/-! rows and names -/
section RW
variable {z : Nat → Nat} {σ : Mm} {o o1 n : Nat}
theorem row_at {k : Nat} (h : k < z (o + 1)) (hn : z (o + 1) < 2 ^ 31) : f_Row_at z σ o (nI k) = some (σ.1 (o + 1) k) := by
  unfold f_Row_at
  simp (disch := omega) only [fl, lt_f, le_f, ↓reduceIte, ld_nI, Option.bind_some]
theorem row_at_out {i : Int32} (h : i < nI 0 ∨ nI (z (o + 1)) ≤ i) : f_Row_at z σ o i = some mN := by
  unfold f_Row_at
  rcases h with h | h
  · rw [if_pos (show i < 0 from h)]; rfl
  · by_cases h2 : i < 0
    · rw [if_pos h2]; rfl
    · rw [if_neg h2, if_pos h]; rfl
theorem row_put {k : Nat} {v : Int32} (h : k < z (o + 1)) (hn : z (o + 1) < 2 ^ 31) : f_Row_put z σ o (nI k) v = some (kI σ (o + 1) k v) := by
  unfold f_Row_put
  simp (disch := omega) only [fl, lt_f, le_f, ↓reduceIte, st_nI, Option.bind_some]
theorem row_fill {v : Int32} (hz : z (o + 1) = n) (hn : n < 2 ^ 31) : f_Row_fill z σ o v = some (kF σ (o + 1) (fun k => if k < n then v else σ.1 (o + 1) k)) := by
  have key : mm_lp (f_Row_fill_L2 z o v) ((0 : Int32), σ) = some (kF σ (o + 1) (fun k => if k < n then v else σ.1 (o + 1) k)) := by
    refine lp_go (fun i => (nI i, kF σ (o + 1) (fun k => if k < i then v else σ.1 (o + 1) k))) n ?_ (fun i hi => ?_) ?_
    · refine Prod.ext rfl ?_
      show σ = kF σ (o + 1) _
      rw [kF_id]
      funext k; rw [if_neg (by omega)]
    · unfold f_Row_fill_L2
      simp (disch := omega) only [hz, fl, le_f, ↓reduceIte, st_nI, Option.bind_some, mm_lt, nI_add, kI_kF, kF_kF, kF_s]
      congr 4
      funext b
      by_cases hb : b = i
      · subst hb; rw [if_pos rfl, if_pos (by omega)]
      · rw [if_neg hb]
        by_cases hb2 : b < i
        · rw [if_pos hb2, if_pos (by omega)]
        · rw [if_neg hb2, if_neg (by omega)]
    · unfold f_Row_fill_L2
      simp (disch := omega) only [hz, le_t, ↓reduceIte]
  unfold f_Row_fill
  rw [key]; rfl
theorem row_copy (hz : z (o + 1) = n) (hz1 : z (o1 + 1) = n) (hn : n < 2 ^ 31) (ho : o1 ≠ o) : f_Row_copyFrom z σ o o1 = some (kF σ (o + 1) (fun k => if k < n then σ.1 (o1 + 1) k else σ.1 (o + 1) k)) := by
  have key : mm_lp (f_Row_copyFrom_L2 z o o1) ((0 : Int32), σ) = some (kF σ (o + 1) (fun k => if k < n then σ.1 (o1 + 1) k else σ.1 (o + 1) k)) := by
    refine lp_go (fun i => (nI i, kF σ (o + 1) (fun k => if k < i then σ.1 (o1 + 1) k else σ.1 (o + 1) k))) n ?_ (fun i hi => ?_) ?_
    · refine Prod.ext rfl ?_
      show σ = kF σ (o + 1) _
      rw [kF_id]
      funext k; rw [if_neg (by omega)]
    · unfold f_Row_copyFrom_L2
      have ho' : o1 + 1 ≠ o + 1 := by omega
      simp (disch := first | omega | assumption) only [hz, hz1, fl, le_f, ↓reduceIte, st_nI, ld_nI, Option.bind_some, mm_lt, nI_add, kI_kF, kF_kF, kF_s, kF_o]
      congr 4
      funext b
      by_cases hb : b = i
      · subst hb; rw [if_pos rfl, if_pos (by omega)]
      · rw [if_neg hb]
        by_cases hb2 : b < i
        · rw [if_pos hb2, if_pos (by omega)]
        · rw [if_neg hb2, if_neg (by omega)]
    · unfold f_Row_copyFrom_L2
      simp (disch := omega) only [hz, le_t, ↓reduceIte]
  unfold f_Row_copyFrom
  rw [key]; rfl
end RW
