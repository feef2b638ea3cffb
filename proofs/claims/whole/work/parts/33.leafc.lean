/-! the class's small methods over an island and hands at any place -/
def IZ (z : Nat → Nat) (i : Nat) : Prop := z (i + 2) = 10 ∧ z (i + 4) = 8 ∧ z (i + 6) = 10 ∧ z (i + 8) = 10 ∧ z (i + 10) = 10 ∧ z (i + 12) = 80
def HZ (z : Nat → Nat) (d : Nat) : Prop := z (d + 2) = 8 ∧ z (d + 4) = 8 ∧ z (d + 6) = 8 ∧ z (d + 8) = 8
theorem IZ_61 : IZ z_Law 61 := by refine ⟨rfl, rfl, rfl, rfl, rfl, rfl⟩
theorem IZ_6 : IZ z_Law 6 := by refine ⟨rfl, rfl, rfl, rfl, rfl, rfl⟩
theorem HZ_74 : HZ z_Law 74 := by refine ⟨rfl, rfl, rfl, rfl⟩
theorem HZ_19 : HZ z_Law 19 := by refine ⟨rfl, rfl, rfl, rfl⟩
section LEAFC
variable {z : Nat → Nat} {σ : Mm} {S : Nat → Int32} {i d : Nat}
theorem row_atE {o p n k : Nat} (hp : o + 1 = p) (hz : z p = n) (h : k < n) (hn : n < 2 ^ 31) : f_Row_at z σ o (nI k) = some (σ.1 p k) := by
  subst hp; subst hz; exact row_at h hn
theorem row_outE {o p n : Nat} {v : Int32} (hp : o + 1 = p) (hz : z p = n) (h : v < nI 0 ∨ nI n ≤ v) : f_Row_at z σ o v = some mN := by
  subst hp; subst hz; exact row_at_out h
theorem row_putE {o p n k : Nat} {v : Int32} (hp : o + 1 = p) (hz : z p = n) (h : k < n) (hn : n < 2 ^ 31) : f_Row_put z σ o (nI k) v = some (kI σ p k v) := by
  subst hp; subst hz; exact row_put h hn
theorem is_wanted {k x : Nat} (hz : IZ z i) (h : IR σ i S) (hk : k < 8) (hx : x < 10) : f_Island_wanted z σ i (nI k) (nI x) = some (S (35 + 10 * k + x) - nI 1) := by
  unfold f_Island_wanted
  simp only [fl, nI_mul, nI_add]
  rw [row_atE (p := i + 12) rfl hz.2.2.2.2.2 (by omega) (by decide), show k * 10 + x = 10 * k + x by omega, h.2.2.2.2.2.2.2.2.1 k x hk hx]
  rfl
theorem sub1_ne {v : Int32} (h : nI 0 < v) : ¬ v - nI 1 = mN := by
  intro e
  have e2 : v = mN + nI 1 := by rw [← e, Int32.sub_add_cancel]
  rw [e2] at h
  exact absurd h (by decide)
theorem is_value {k x : Nat} (hz : IZ z i) (h : IR σ i S) (hk : k < 8) (hx : x < 10) : f_Island_valueFor z σ i (nI k) (nI x) = some (vw S k x) := by
  unfold f_Island_valueFor f_Island_valueFor_J24
  rw [is_wanted hz h hk hx, Option.bind_some, row_atE (p := i + 6) rfl hz.2.2.1 hx (by decide), row_atE (p := i + 8) rfl hz.2.2.2.1 hx (by decide), h.2.2.2.2.2.1 x hx, h.2.2.2.2.2.2.1 x hx, h.2.2.2.2.1]
  simp only [Option.bind_some, fl, fmN]
  unfold vw
  rcases h.2.2.2.2.2.2.2.2.2 k x hk hx with e | e
  · rw [e, if_pos (show nI 0 - nI 1 = mN by decide), if_neg (show ¬ nI 0 < nI 0 by decide)]
    split <;> rfl
  · rw [if_neg (sub1_ne e), if_pos e]
    split <;> rfl
theorem is_pawn {x : Nat} (hz : IZ z i) (h : IR σ i S) (hx : x < 10) : f_Island_isPawned z σ i (nI x) = some (if S (15 + x) = nI 2 then nI 1 else nI 0) := by
  unfold f_Island_isPawned
  rw [row_atE (p := i + 8) rfl hz.2.2.2.1 hx (by decide), h.2.2.2.2.2.2.1 x hx]
  simp only [Option.bind_some, fl]
  split <;> rfl
theorem hd_held {k : Nat} (hz : HZ z d) (h : HR σ d S) (hk : k < 8) : f_Row_at z σ (d + 1) (nI k) = some (S (123 + k)) := by
  rw [row_atE (p := d + 2) rfl hz.1 hk (by decide), h.1 k hk]
theorem hd_sits {k : Nat} (hz : HZ z d) (h : HR σ d S) (hk : k < 8) : f_Row_at z σ (d + 3) (nI k) = some (S (115 + k)) := by
  rw [row_atE (p := d + 4) rfl hz.2.1 hk (by decide), h.2 k hk]
theorem hd_vh {k n : Nat} (hz : HZ z d) (hzi : IZ z i) (h : HR σ d S) (hi : IR σ i S) (hk : k < 8) (hw : hq n (S (123 + k))) (hn : n ≤ 10) : f_Hands_valueHeld z σ d i (nI k) = some (vv S k (S (123 + k))) := by
  unfold f_Hands_valueHeld
  rw [hd_held hz h hk, Option.bind_some]
  simp only [fl, fmN]
  rcases hw with e | ⟨x, hx, e⟩
  · rw [e, if_pos rfl]; rfl
  · rw [e]
    simp (disch := omega) only [mN_ne, ↓reduceIte]
    rw [is_value hzi hi hk (by omega)]
    unfold vv
    simp (disch := omega) only [mN_ne, ↓reduceIte, nI_clamp, Option.bind_some]
/-- whether a HOUSE may trade -/
def cn (S : Nat → Int32) (k : Nat) : Prop := S (123 + k) ≠ mN ∧ S (15 + (S (123 + k)).toNatClampNeg) ≠ nI 2
theorem hd_can {k n : Nat} (hz : HZ z d) (hzi : IZ z i) (h : HR σ d S) (hi : IR σ i S) (hk : k < 8) (hw : hq n (S (123 + k))) (hn : n ≤ 10) : ∃ r, f_Hands_canTrade z σ d i (nI k) = some r ∧ ((cn S k ∧ r = nI 1) ∨ (¬ cn S k ∧ r = nI 0)) := by
  unfold f_Hands_canTrade cn
  rw [hd_held hz h hk, Option.bind_some]
  simp only [fl, fmN]
  rcases hw with e | ⟨x, hx, e⟩
  · rw [e, if_pos rfl]
    exact ⟨_, rfl, Or.inr ⟨fun q => q.1 rfl, rfl⟩⟩
  · rw [e]
    simp (disch := omega) only [mN_ne, ↓reduceIte, Option.bind_some, nI_clamp]
    rw [is_pawn hzi hi (by omega), Option.bind_some]
    by_cases h9 : S (15 + x) = nI 2
    · rw [if_pos h9, if_neg (by decide)]
      exact ⟨_, rfl, Or.inr ⟨fun q => q.2 h9, rfl⟩⟩
    · rw [if_neg h9, if_pos rfl]
      exact ⟨_, rfl, Or.inl ⟨⟨(fun e => absurd e (by rw [mN_ne _ (by omega)]; exact id)), h9⟩, rfl⟩⟩
end LEAFC
