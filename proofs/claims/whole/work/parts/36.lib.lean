/-! loops that add up, loops that look for the first -/
def fo {α : Type} (g : Nat → α → α) : Nat → α → α
  | 0, a => a
  | i + 1, a => g i (fo g i a)
theorem fo_cong {α : Type} {g g' : Nat → α → α} : ∀ {n : Nat} {a : α}, (∀ i x, i < n → g i x = g' i x) → fo g n a = fo g' n a
  | 0, _, _ => rfl
  | n + 1, a, h => by
    show g n (fo g n a) = g' n (fo g' n a)
    rw [fo_cong (n := n) (fun i x hi => h i x (by omega)), h n _ (by omega)]
theorem fo_inv {α : Type} {g : Nat → α → α} (P : Nat → α → Prop) {n : Nat} {a : α} (h0 : P 0 a) (h : ∀ i x, i < n → P i x → P (i + 1) (g i x)) : P n (fo g n a) := by
  have key : ∀ k, k ≤ n → P k (fo g k a) := by
    intro k
    induction k with
    | zero => intro _; exact h0
    | succ k ih => intro hk; exact h k _ (by omega) (ih (by omega))
  exact key n (Nat.le_refl n)
theorem lp_fo {α : Type} {body : α × Int32 → Option ((α × Int32) ⊕ α)} (g : Nat → α → α) (k n : Nat) {a : α} (hkn : k ≤ n) (h : ∀ i x, k ≤ i → i < n → body (x, nI i) = some (.inl (g (i - k) x, nI (i + 1)))) (he : ∀ x, body (x, nI n) = some (.inr x)) : mm_lp body (a, nI k) = some (fo g (n - k) a) := by
  refine lp_go (fun i => (fo g i a, nI (k + i))) (n - k) rfl (fun i hi => ?_) ?_
  · have := h (k + i) (fo g i a) (by omega) (by omega)
    rw [Nat.add_sub_cancel_left] at this
    exact this
  · have := he (fo g (n - k) a)
    rw [show k + (n - k) = n by omega]
    exact this
theorem lp_foK {α : Type} {body : α × Int32 → Option ((α × Int32) ⊕ α)} (g : Nat → α → α) (k n : Nat) {a : α} (hkn : k ≤ n) (h : ∀ i x, k ≤ i → i < n → body (x, nI i) = some (.inl (g i x, nI (i + 1)))) (he : ∀ x, body (x, nI n) = some (.inr x)) : mm_lp body (a, nI k) = some (fo (fun j => g (k + j)) (n - k) a) := by
  refine lp_fo (fun j => g (k + j)) k n hkn (fun i x h1 h2 => ?_) he
  rw [h i x h1 h2, show k + (i - k) = i by omega]
theorem lp_fo0 {α : Type} {body : α × Int32 → Option ((α × Int32) ⊕ α)} (g : Nat → α → α) (n : Nat) {a : α} (h : ∀ i x, i < n → body (x, nI i) = some (.inl (g i x, nI (i + 1)))) (he : ∀ x, body (x, nI n) = some (.inr x)) : mm_lp body (a, nI 0) = some (fo g n a) :=
  lp_fo g 0 n (Nat.zero_le n) (fun i x _ hi => h i x hi) he
/-- the state's counter first -/
theorem lp_foR {α : Type} {body : Int32 × α → Option ((Int32 × α) ⊕ α)} (g : Nat → α → α) (k n : Nat) {a : α} (hkn : k ≤ n) (h : ∀ i x, k ≤ i → i < n → body (nI i, x) = some (.inl (nI (i + 1), g (i - k) x))) (he : ∀ x, body (nI n, x) = some (.inr x)) : mm_lp body (nI k, a) = some (fo g (n - k) a) := by
  refine lp_go (fun i => (nI (k + i), fo g i a)) (n - k) rfl (fun i hi => ?_) ?_
  · have := h (k + i) (fo g i a) (by omega) (by omega)
    rw [Nat.add_sub_cancel_left] at this
    exact this
  · have := he (fo g (n - k) a)
    rw [show k + (n - k) = n by omega]
    exact this
theorem lp_foR0 {α : Type} {body : Int32 × α → Option ((Int32 × α) ⊕ α)} (g : Nat → α → α) (n : Nat) {a : α} (h : ∀ i x, i < n → body (nI i, x) = some (.inl (nI (i + 1), g i x))) (he : ∀ x, body (nI n, x) = some (.inr x)) : mm_lp body (nI 0, a) = some (fo g n a) :=
  lp_foR g 0 n (Nat.zero_le n) (fun i x _ hi => h i x hi) he
/-- the first place with p, or NONE -/
def fd (p : Nat → Bool) (n : Nat) : Int32 := if fa_first p n < n then nI (fa_first p n) else mN
theorem first_at {p : Nat → Bool} {k : Nat} : ∀ {n : Nat}, k < n → p k = true → (∀ j, j < k → p j = false) → fa_first p n = k := by
  intro n hk hp hj
  have h1 : fa_first p n ≤ k := by
    rcases Nat.lt_or_ge k (fa_first p n) with h | h
    · have := fa_first_no p n k h; rw [hp] at this; cases this
    · exact h
  rcases Nat.lt_or_ge (fa_first p n) k with h | h
  · have h2 := fa_first_yes p n (by omega)
    rw [hj _ h] at h2; cases h2
  · omega
theorem first_none {p : Nat → Bool} {n : Nat} (h : ∀ j, j < n → p j = false) : fa_first p n = n := by
  rcases Nat.lt_or_ge (fa_first p n) n with h1 | h1
  · have h2 := fa_first_yes p n h1
    rw [h _ h1] at h2; cases h2
  · have := fa_first_le p n; omega
theorem fd_at {p : Nat → Bool} {n k : Nat} (hk : k < n) (hp : p k = true) (hj : ∀ j, j < k → p j = false) : fd p n = nI k := by
  unfold fd; rw [first_at hk hp hj, if_pos hk]
theorem fd_none {p : Nat → Bool} {n : Nat} (h : ∀ j, j < n → p j = false) : fd p n = mN := by
  unfold fd; rw [first_none h, if_neg (Nat.lt_irrefl n)]
theorem fd_cases (p : Nat → Bool) (n : Nat) : (∃ k, k < n ∧ p k = true ∧ (∀ j, j < k → p j = false) ∧ fd p n = nI k) ∨ ((∀ j, j < n → p j = false) ∧ fd p n = mN) := by
  by_cases h : fa_first p n < n
  · exact Or.inl ⟨_, h, fa_first_yes p n h, fa_first_no p n, by unfold fd; rw [if_pos h]⟩
  · refine Or.inr ⟨fun j hj => fa_first_no p n j (by have := fa_first_le p n; omega), by unfold fd; rw [if_neg h]⟩
theorem fd_cong {p q : Nat → Bool} {n : Nat} (h : ∀ j, j < n → p j = q j) : fd p n = fd q n := by
  rcases fd_cases p n with ⟨k, hk, h1, h2, e⟩ | ⟨h1, e⟩
  · rw [e, fd_at hk (h k hk ▸ h1) (fun j hj => h j (by omega) ▸ h2 j hj)]
  · rw [e, fd_none (fun j hj => h j hj ▸ h1 j hj)]
theorem fd_cut {p : Nat → Bool} {m n : Nat} (hmn : m ≤ n) (h : ∀ j, m ≤ j → j < n → p j = false) : fd p n = fd p m := by
  rcases fd_cases p m with ⟨k, hk, h1, h2, e⟩ | ⟨h1, e⟩
  · rw [e, fd_at (by omega) h1 h2]
  · rw [e, fd_none (fun j hj => if h9 : j < m then h1 j h9 else h j (by omega) hj)]
theorem lp_find {R : Type} {body : Int32 → Option (Int32 ⊕ (R ⊕ Unit))} (p : Nat → Bool) (n : Nat) (f : Nat → R) (h : ∀ i, i < n → p i = false → body (nI i) = some (.inl (nI (i + 1)))) (hp : ∀ i, i < n → p i = true → body (nI i) = some (.inr (.inl (f i)))) (he : body (nI n) = some (.inr (.inr ()))) : mm_lp body (nI 0) = some (if fa_first p n < n then .inl (f (fa_first p n)) else .inr ()) := by
  have hle := fa_first_le p n
  by_cases hf : fa_first p n < n
  · rw [if_pos hf]
    exact lp_go (fun i => nI i) (fa_first p n) rfl (fun i hi => h i (by omega) (fa_first_no p n i hi)) (hp _ hf (fa_first_yes p n hf))
  · rw [if_neg hf]
    exact lp_go (fun i => nI i) n rfl (fun i hi => h i hi (fa_first_no p n i (by omega))) he
/-- .. the answer a number, NONE without -/
theorem lp_fd {body : Int32 → Option (Int32 ⊕ (Int32 ⊕ Unit))} (p : Nat → Bool) (n : Nat) (h : ∀ i, i < n → p i = false → body (nI i) = some (.inl (nI (i + 1)))) (hp : ∀ i, i < n → p i = true → body (nI i) = some (.inr (.inl (nI i)))) (he : body (nI n) = some (.inr (.inr ()))) : (mm_lp body (nI 0)).bind (Sum.elim (fun r => some r) (fun _ => some mN)) = some (fd p n) := by
  rw [lp_find p n (fun i => nI i) h hp he, Option.bind_some]
  unfold fd
  split <;> rfl
theorem dec_t {p : Prop} [Decidable p] (h : decide p = true) : p := of_decide_eq_true h
theorem dec_f {p : Prop} [Decidable p] (h : decide p = false) : ¬ p := of_decide_eq_false h
/-- what RL says of the numbers -/
def RS (σ : Mm) : Prop := SR σ 60 (σ.1 171) (σ.2 174) ∧ Inv (σ.1 171)
section RLN
variable {σ : Mm}
theorem rs (hR : RL σ) : RS σ := hR.2.2.1
theorem rl_S (hR : RS σ) : SR σ 60 (σ.1 171) (σ.2 174) := hR.1
theorem rl_v (hR : RS σ) : Inv (σ.1 171) := hR.2
theorem RS_kp {m : Mm} {A : Nat → Bool} (h : RS σ) (hk : kp A σ m) (hA : A 171 = false ∧ A 174 = false ∧ ∀ q, 60 ≤ q → q < 95 → A q = false) : RS m := by
  unfold RS
  rw [(hk.1 171 rfl hA.1).1, (hk.1 174 rfl hA.2.1).2]
  exact ⟨kp_SR hk h.1 hA.2.2, h.2⟩
theorem rl_n (hR : RS σ) : σ.1 62 1 = nI (sn (σ.1 171)) := ((rl_S hR).1.1).trans (iv_n (rl_v hR))
theorem rl_m (hR : RS σ) : σ.1 64 1 = nI (sm (σ.1 171)) := ((rl_S hR).1.2.1).trans (iv_m (rl_v hR))
theorem rl_p (hR : RS σ) : σ.1 61 6 = nI (pw (σ.1 171)) := ((rl_S hR).1.2.2.1).trans (iv_p (rl_v hR)).1
theorem rl_c (hR : RS σ) : σ.1 61 7 = nI (sc (σ.1 171)) := ((rl_S hR).1.2.2.2.1).trans (iv_c (rl_v hR)).1
theorem rl_sp (hR : RS σ) : σ.1 60 2 = nI (sp (σ.1 171)) := ((rl_S hR).2.2.2.1).trans (iv_sp (rl_v hR))
theorem rl_sb (hR : RS σ) : σ.1 60 7 = nI (sb (σ.1 171)) := ((rl_S hR).2.2.2.2.2.2.2.2.1).trans (iv_sb (rl_v hR))
theorem rl_I (hR : RS σ) : IR σ 61 (σ.1 171) := (rl_S hR).1
theorem rl_H (hR : RS σ) : HR σ 74 (σ.1 171) := (rl_S hR).2.2.1
theorem rl_th (hR : RL σ) {v : Int32} : RL (kI σ 169 0 v) := RL_kp hR (kp_s169 (by decide))
theorem rl_190 (hR : RL σ) {k : Nat} {v : Int64} : RL (kL σ 190 k v) := RL_kp hR (kp_kL (by decide))
end RLN
/-- a call that may throw: class, then reference -/
def opT {α : Type} (σ : Mm) (H : Option (Option (α × Mm))) (M : Mm → Option (α × Mm)) : Prop := (H = some none ∧ ∃ w m, M σ = some (w, m) ∧ m.1 169 0 = nI 1 ∧ RL m) ∨ ∃ v u, H = some (some (v, u)) ∧ ∀ c, ∃ m, M (kL u 190 0 c) = some (v, m) ∧ m.1 169 0 = nI 0 ∧ m.2 190 0 = c ∧ RL m
theorem opT_no {α : Type} {σ : Mm} {H : Option (Option (α × Mm))} {M : Mm → Option (α × Mm)} {w : α} (hR : RL σ) (h : H = some none) (hM : M σ = some (w, kI σ 169 0 (nI 1))) : opT σ H M := Or.inl ⟨h, w, _, hM, rfl, rl_th hR⟩
theorem opT_yes {α : Type} {σ : Mm} {H : Option (Option (α × Mm))} {M : Mm → Option (α × Mm)} {v : α} (hR : RL σ) (h : H = some (some (v, σ))) (hM : ∀ u : Mm, u.1 = σ.1 → M u = some (v, kI u 169 0 (nI 0))) : opT σ H M := Or.inr ⟨v, σ, h, fun c => ⟨_, hM _ rfl, rfl, rfl, rl_th (rl_190 hR)⟩⟩
/-- a loop with a counted invariant -/
theorem lp_ix {S R : Type} {body : S → Option (S ⊕ R)} {Q : R → Prop} (I : Nat → S → Prop) (n : Nat) (step : ∀ i s, i < n → I i s → ∃ s', body s = some (.inl s') ∧ I (i + 1) s') (done : ∀ s, I n s → ∃ r, body s = some (.inr r) ∧ Q r) {s : S} (h : I 0 s) : ∃ r, mm_lp body s = some r ∧ Q r := by
  have key : ∀ k i s, i + k = n → I i s → ∃ r, mm_lp body s = some r ∧ Q r := by
    intro k
    induction k with
    | zero =>
      intro i s hi hI
      have : i = n := by omega
      subst this
      obtain ⟨r, h1, h2⟩ := done s hI
      exact ⟨r, mm_lp_done h1, h2⟩
    | succ k ih =>
      intro i s hi hI
      obtain ⟨s', h1, h2⟩ := step i s (by omega) hI
      rw [mm_lp_step h1]
      exact ih (i + 1) s' (by omega) h2
  exact key n 0 s (by omega) h
