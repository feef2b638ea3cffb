section TRADE
variable {σ m u : Mm} {S : Nat → Int32}
def nmb (S : Nat → Int32) (k : Nat) : Nat := (S (123 + k)).toNatClampNeg
/-- to whom a HOUSE points, of those that are left -/
def pt (S : Nat → Int32) (L : Nat → Bool) (k : Nat) : Nat := fo (fun o b => if L o = true ∧ vw S k (nmb S b) < vw S k (nmb S o) then o else b) 8 k
def ptn (S : Nat → Int32) (L : Nat → Bool) (k n : Nat) : Nat := fo (fun o b => if L o = true ∧ vw S k (nmb S b) < vw S k (nmb S o) then o else b) n k
theorem ptn_L {L : Nat → Bool} {k : Nat} (hk : L k = true) (n : Nat) : L (ptn S L k n) = true := fo_inv (fun _ b => L b = true) hk (fun i b _ hb => by
  show L (if _ then i else b) = true
  split
  · rename_i h; exact h.1
  · exact hb)
theorem pt_L {L : Nat → Bool} {k : Nat} (hk : L k = true) : L (pt S L k) = true := ptn_L hk 8
/-- who is left, what each gets, how many circles, behind r rounds -/
noncomputable def tL (S : Nat → Int32) : Nat → Nat → Bool
  | 0, x => decide (x < sm S) && dc (cn S x)
  | r + 1, x => tL S r x && !onc (pt S (tL S r)) x
noncomputable def tg (S : Nat → Int32) (r x : Nat) : Bool := tL S r x && onc (pt S (tL S r)) x
noncomputable def tP (S : Nat → Int32) : Nat → Nat → Nat
  | 0, k => k
  | r + 1, k => if tg S r k = true then pt S (tL S r) k else tP S r k
noncomputable def tC (S : Nat → Int32) : Nat → Nat
  | 0 => 0
  | r + 1 => tC S r + fb_ct (fun x => tg S r x && lst (pt S (tL S r)) x) 8
theorem tL_down {r x : Nat} (h : tL S (r + 1) x = true) : tL S r x = true ∧ onc (pt S (tL S r)) x = false := by
  obtain ⟨h1, h2⟩ := (Bool.and_eq_true _ _).mp h
  exact ⟨h1, by simpa using h2⟩
theorem tL_le : ∀ {r x : Nat}, tL S r x = true → tL S 0 x = true
  | 0, _, h => h
  | r + 1, _, h => tL_le (tL_down h).1
theorem tL_cn {r x : Nat} (h : tL S r x = true) : x < sm S ∧ cn S x := by
  obtain ⟨h1, h2⟩ := (Bool.and_eq_true _ _).mp (tL_le h)
  exact ⟨dec_t h1, dc_t.mp h2⟩
theorem tL_8 (hv : Inv S) {r x : Nat} (h : tL S r x = true) : x < 8 := by
  have := (tL_cn h).1
  have := iv_m8 hv
  omega
theorem tL_num (hv : Inv S) {r x : Nat} (h : tL S r x = true) : S (123 + x) = nI (nmb S x) ∧ nmb S x < sn S := by
  obtain ⟨h1, h2⟩ := tL_cn h
  have n10 := iv_n10 hv
  obtain ⟨-, y, hy, ey, -⟩ := cn_lt hv (tL_8 hv h) h2
  unfold nmb
  rw [ey, nI_clamp (by omega)]
  exact ⟨rfl, hy⟩
theorem tg_L {r x : Nat} (h : tg S r x = true) : tL S r x = true ∧ onc (pt S (tL S r)) x = true := (Bool.and_eq_true _ _).mp h
/-- each round some go -/
theorem tL_some (hv : Inv S) {r k : Nat} (h : tL S r k = true) : ∃ x, x < 8 ∧ tg S r x = true := by
  have hL : ∀ k, tL S r k = true → tL S r (pt S (tL S r) k) = true := fun k hk => pt_L hk
  have h1 := itr_L hL h 8
  exact ⟨_, tL_8 hv h1, (Bool.and_eq_true _ _).mpr ⟨h1, onc_8 hL (fun k hk => tL_8 hv hk) h⟩⟩
theorem tL_ct (hv : Inv S) (r : Nat) : (∀ x, tL S r x = false) ∨ fb_ct (tL S r) 8 + r ≤ 8 := by
  induction r with
  | zero =>
    have := fb_ct_le (tL S 0) 8
    exact Or.inr (by omega)
  | succ r ih =>
    rcases ih with h | h
    · exact Or.inl (fun x => by show (tL S r x && _) = false; rw [h x, Bool.false_and])
    · by_cases he : ∀ x, tL S (r + 1) x = false
      · exact Or.inl he
      · right
        have : ∃ x, tL S (r + 1) x = true := Classical.byContradiction (fun q => he (fun x => Bool.eq_false_iff.mpr (fun q2 => q ⟨x, q2⟩)))
        obtain ⟨x, hx⟩ := this
        obtain ⟨y, hy8, hy⟩ := tL_some hv (tL_down hx).1
        have e1 : fb_ct (tL S r) 8 = fb_ct (tL S (r + 1)) 8 + fb_ct (tg S r) 8 := by
          rw [← fb_ct_or (fun k _ q => by
            have a := (tL_down q.1).2
            have b := (tg_L q.2).2
            rw [a] at b; cases b)]
          refine fb_ct_cong (fun k _ => ?_)
          show tL S r k = ((tL S r k && !onc (pt S (tL S r)) k) || (tL S r k && onc (pt S (tL S r)) k))
          cases tL S r k <;> cases onc (pt S (tL S r)) k <;> rfl
        have e2 : 0 < fb_ct (tg S r) 8 := fb_ct_pos.mpr ⟨y, hy8, hy⟩
        omega
/-- the round in which nobody is left -/
noncomputable def tR (S : Nat → Int32) : Nat := fa_first (fun r => dc (∀ x, tL S r x = false)) 8
theorem tR_8 : tR S ≤ 8 := fa_first_le _ 8
theorem tR_no {r : Nat} (h : r < tR S) : ∃ x, tL S r x = true := by
  have := fa_first_no (fun r => dc (∀ x, tL S r x = false)) 8 r h
  exact Classical.byContradiction (fun q => dc_f.mp this (fun x => Bool.eq_false_iff.mpr (fun q2 => q ⟨x, q2⟩)))
theorem tR_end (hv : Inv S) (x : Nat) : tL S (tR S) x = false := by
  rcases Nat.lt_or_ge (tR S) 8 with h | h
  · exact dc_t.mp (fa_first_yes (fun r => dc (∀ x, tL S r x = false)) 8 h) x
  · have h8 : tR S = 8 := by have := tR_8 (S := S); omega
    rcases tL_ct hv 8 with q | q
    · rw [h8]; exact q x
    · rw [h8]
      apply Bool.eq_false_iff.mpr
      intro q2
      have : 0 < fb_ct (tL S 8) 8 := fb_ct_pos.mpr ⟨x, tL_8 hv q2, q2⟩
      omega
/-- what each gets is one of theirs, none twice -/
theorem tP_ok (hv : Inv S) : ∀ r, (∀ k, tL S r k = true → tP S r k = k) ∧ (∀ k, tL S 0 k = false → tP S r k = k) ∧ (∀ k, tL S r k = false → tL S r (tP S r k) = false) ∧ (∀ k, k < 8 → tP S r k < 8) ∧ ∀ j k, j < 8 → k < 8 → tP S r j = tP S r k → j = k
  | 0 => ⟨fun _ _ => rfl, fun _ _ => rfl, fun _ h => h, fun _ h => h, fun _ _ _ _ h => h⟩
  | r + 1 => by
    obtain ⟨h1, h2, h3, h4, h5⟩ := tP_ok hv r
    have yes : ∀ {k}, tg S r k = true → tP S (r + 1) k = pt S (tL S r) k := fun {k} h => if_pos h
    have no : ∀ {k}, tg S r k = false → tP S (r + 1) k = tP S r k := fun {k} h => if_neg (by rw [h]; decide)
    have gone : ∀ {k}, tg S r k = true → tg S r (pt S (tL S r) k) = true := fun {k} h => by
      obtain ⟨a, b⟩ := tg_L h
      exact (Bool.and_eq_true _ _).mpr ⟨pt_L a, onc_f b⟩
    have gL : ∀ {k}, tg S r k = true → tL S (r + 1) k = false := fun {k} h => by
      show (tL S r k && !onc (pt S (tL S r)) k) = false
      rw [(tg_L h).2, Bool.not_true, Bool.and_false]
    refine ⟨fun k hk => ?_, fun k hk => ?_, fun k hk => ?_, fun k hk => ?_, fun j k hj hk e => ?_⟩
    · obtain ⟨a, b⟩ := tL_down hk
      rw [no (by unfold tg; rw [b, Bool.and_false])]
      exact h1 k a
    · have : tg S r k = false := Bool.eq_false_iff.mpr (fun q => by rw [tL_le (tg_L q).1] at hk; cases hk)
      rw [no this]
      exact h2 k hk
    · cases hg : tg S r k with
      | true => rw [yes hg]; exact gL (gone hg)
      | false =>
        rw [no hg]
        have hLk : tL S r k = false := by
          apply Bool.eq_false_iff.mpr
          intro q
          have h9 : (tL S r k && !onc (pt S (tL S r)) k) = false := hk
          have h10 : (tL S r k && onc (pt S (tL S r)) k) = false := hg
          rw [q, Bool.true_and] at h9 h10
          rw [h10] at h9
          cases h9
        show (tL S r (tP S r k) && _) = false
        rw [h3 k hLk, Bool.false_and]
    · cases hg : tg S r k with
      | true => rw [yes hg]; exact tL_8 hv (pt_L (tg_L hg).1)
      | false => rw [no hg]; exact h4 k hk
    · have mixed : ∀ a b, a < 8 → b < 8 → tg S r a = true → tg S r b = false → tP S (r + 1) a = tP S (r + 1) b → False := by
        intro a b ha hb ga gb e
        rw [yes ga, no gb] at e
        cases hL : tL S r b with
        | true =>
          rw [h1 b hL] at e
          have := gone ga
          rw [e, gb] at this
          cases this
        | false =>
          have := h3 b hL
          rw [← e] at this
          rw [pt_L (tg_L ga).1] at this
          cases this
      cases gj : tg S r j with
      | true =>
        cases gk : tg S r k with
        | true =>
          rw [yes gj, yes gk] at e
          exact onc_inj (tg_L gj).2 (tg_L gk).2 e
        | false => exact (mixed j k hj hk gj gk e).elim
      | false =>
        cases gk : tg S r k with
        | true => exact (mixed k j hk hj gk gj e.symm).elim
        | false =>
          rw [no gj, no gk] at e
          exact h5 j k hj hk e
/-- the row when all are TRADED -/
noncomputable def trS (S : Nat → Int32) : Nat → Int32 := fun i => if 123 ≤ i ∧ i < 123 + sm S then S (123 + tP S (tR S) (i - 123)) else S i
theorem trS_at (hv : Inv S) {k : Nat} (hk : k < 8) : trS S (123 + k) = S (123 + tP S (tR S) k) := by
  unfold trS
  by_cases h : k < sm S
  · rw [if_pos (by omega), Nat.add_sub_cancel_left]
  · rw [if_neg (by omega)]
    have : tL S 0 k = false := by
      show (decide (k < sm S) && _) = false
      rw [decide_eq_false h, Bool.false_and]
    rw [(tP_ok hv (tR S)).2.1 k this]
theorem trS_o {i : Nat} (h : i < 123 ∨ 131 ≤ i) (hm : sm S ≤ 8) : trS S i = S i := if_neg (by omega)
theorem tr_Inv (hv : Inv S) : Inv (trS S) := by
  have m8 := iv_m8 hv
  obtain ⟨-, h2, -, h4, h5⟩ := tP_ok hv (tR S)
  refine Inv_held hv (fun i hi h => trS_o (by omega) m8) (fun k hk => ?_) (fun k h1 hk => ?_) (fun j k hjk hj hk e => ?_)
  · rw [trS_at hv hk]; exact iv_held hv _ (h4 k hk)
  · rw [trS_at hv hk, h2 k (by show (decide (k < sm S) && _) = false; rw [decide_eq_false (by omega), Bool.false_and])]
    exact iv_none hv k h1 hk
  · rw [trS_at hv hj, trS_at hv hk] at e
    rw [trS_at hv hk]
    exact iv_one' hv (fun q => hjk (h5 j k hj hk q)) (h4 j hj) (h4 k hk) e
end TRADE
