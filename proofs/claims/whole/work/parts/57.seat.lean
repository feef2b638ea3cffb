/-! seats: the search told once -/
section SEAT
variable {σ m u : Mm} {S : Nat → Int32}
def cst (S : Nat → Int32) (h v : Nat) : Nat := if S (115 + h) = nI v then 0 else 1
def ctp (p : Nat → Nat) (h v : Nat) : Nat := fb_ct (fun i => decide (p i = v)) h
def vld (S : Nat → Int32) (p : Nat → Nat) (h v : Nat) : Bool := decide (ctp p h v < sc S) && decide (∀ o, o < h → p o = v → foe S o h = false)
/-- the first seating of d HOUSES more with b moves at most -/
def sf (S : Nat → Int32) : Nat → (Nat → Nat) → Nat → Nat → Option (Nat → Nat)
  | 0, p, _, _ => some p
  | d + 1, p, h, b => fsome (fun v => if (decide (cst S h v ≤ b) && vld S p h v) = true then sf S d (upn p h v) (h + 1) (b - cst S h v) else none) 0 (pw S)
def sfc (S : Nat → Int32) (d : Nat) (p : Nat → Nat) (h b : Nat) : Nat → Option (Nat → Nat) := fun v => if (decide (cst S h v ≤ b) && vld S p h v) = true then sf S d (upn p h v) (h + 1) (b - cst S h v) else none
theorem sf_succ {d h b : Nat} {p : Nat → Nat} : sf S (d + 1) p h b = fsome (sfc S d p h b) 0 (pw S) := rfl
theorem cst_le (h v : Nat) : cst S h v ≤ 1 := by unfold cst; split <;> omega
theorem fs_cong {α : Type} {f g : Nat → Option α} : ∀ {n a : Nat}, (∀ v, f v = g v) → fsome f a n = fsome g a n
  | 0, _, _ => rfl
  | n + 1, a, h => by
    show (match f a with | some r => some r | none => fsome f (a + 1) n) = (match g a with | some r => some r | none => fsome g (a + 1) n)
    rw [h a, fs_cong h]
theorem fs_mem {α : Type} {f : Nat → Option α} {r : α} : ∀ {n a : Nat}, fsome f a n = some r → ∃ v, a ≤ v ∧ v < a + n ∧ f v = some r
  | 0, _, h => by cases h
  | n + 1, a, h => by
    have h' : (match f a with | some r => some r | none => fsome f (a + 1) n) = some r := h
    cases e : f a with
    | some x =>
      rw [e] at h'
      cases h'
      exact ⟨a, Nat.le_refl a, by omega, e⟩
    | none =>
      rw [e] at h'
      obtain ⟨v, h1, h2, h3⟩ := fs_mem h'
      exact ⟨v, by omega, by omega, h3⟩
/-- enough moves are enough -/
theorem sf_enough : ∀ d p h b b', d ≤ b → d ≤ b' → sf S d p h b = sf S d p h b'
  | 0, _, _, _, _, _, _ => rfl
  | d + 1, p, h, b, b', h1, h2 => by
    rw [sf_succ, sf_succ]
    refine fs_cong (fun v => ?_)
    have hc := cst_le (S := S) h v
    unfold sfc
    rw [decide_eq_true (by omega : cst S h v ≤ b), decide_eq_true (by omega : cst S h v ≤ b'), sf_enough d (upn p h v) (h + 1) (b - cst S h v) (b' - cst S h v) (by omega) (by omega)]
theorem sf_low {d h b : Nat} {p p' : Nat → Nat} (e : sf S d p h b = some p') (hm : ∀ b', b' < b → sf S d p h b' = none) : b ≤ d := by
  rcases Nat.lt_or_ge d b with q | q
  · have := hm d q
    rw [sf_enough d p h d b (Nat.le_refl d) (by omega), e] at this
    cases this
  · exact q
theorem ctp_c {p p' : Nat → Nat} {h v : Nat} (e : ∀ i, i < h → p' i = p i) : ctp p' h v = ctp p h v := fb_ct_cong (fun k hk => by rw [e k hk])
theorem sf_ok : ∀ d p h b p', sf S d p h b = some p' → (∀ i, i < h → p' i = p i) ∧ ∀ i, h ≤ i → i < h + d → p' i < pw S ∧ ctp p' i (p' i) < sc S
  | 0, p, h, b, p', e => by cases e; exact ⟨fun _ _ => rfl, fun i h1 h2 => absurd h2 (by omega)⟩
  | d + 1, p, h, b, p', e => by
    rw [sf_succ] at e
    obtain ⟨v, -, h2, h3⟩ := fs_mem e
    unfold sfc at h3
    by_cases hb : (decide (cst S h v ≤ b) && vld S p h v) = true
    · rw [if_pos hb] at h3
      obtain ⟨g1, g2⟩ := sf_ok d _ _ _ _ h3
      have hv1 := dec_t ((Bool.and_eq_true _ _).mp ((Bool.and_eq_true _ _).mp hb).2).1
      have e1 : ∀ i, i < h → p' i = p i := fun i hi => by rw [g1 i (by omega), upn_o (by omega)]
      have e2 : p' h = v := by rw [g1 h (by omega), upn_s]
      refine ⟨e1, fun i q1 q2 => ?_⟩
      by_cases q : i = h
      · rw [q, e2, ctp_c e1]
        exact ⟨by omega, hv1⟩
      · exact g2 i (by omega) (by omega)
    · rw [if_neg hb] at h3; cases h3
/-- too many HOUSES can't be seated -/
theorem sf_room {c b : Nat} {p p' : Nat → Nat} (e : sf S c p 0 b = some p') : c ≤ pw S * sc S := by
  obtain ⟨-, h⟩ := sf_ok c p 0 b p' e
  have hle : ∀ n, n ≤ c → ∀ v, ctp p' n v ≤ sc S := by
    intro n
    induction n with
    | zero => intro _ v; exact Nat.zero_le _
    | succ n ih =>
      intro hn v
      have i1 := ih (by omega) v
      show ctp p' n v + (if decide (p' n = v) = true then 1 else 0) ≤ sc S
      by_cases q : p' n = v
      · have := (h n (by omega) (by omega)).2
        rw [q] at this
        rw [decide_eq_true q, if_pos rfl]
        omega
      · rw [decide_eq_false q, if_neg (by decide)]; exact i1
  have hsum : ∀ n, n ≤ c → fb_sm (fun v => ctp p' n v) (pw S) = n := by
    intro n
    induction n with
    | zero =>
      intro _
      have : ∀ P, fb_sm (fun v => ctp p' 0 v) P = 0 := by
        intro P
        induction P with
        | zero => rfl
        | succ P ih => rw [fb_sm_succ, ih]; rfl
      exact this _
    | succ n ih =>
      intro hn
      have e1 : fb_sm (fun v => ctp p' (n + 1) v) (pw S) = fb_sm (fun v => ctp p' n v + (if decide (p' n = v) = true then 1 else 0)) (pw S) := rfl
      rw [e1, fb_sm_add, ih (by omega)]
      have h1 := (h n (by omega) (by omega)).1
      have e2 : ∀ P, fb_sm (fun v => if decide (p' n = v) = true then 1 else 0) P = if p' n < P then 1 else 0 := by
        intro P
        induction P with
        | zero => rfl
        | succ P ih =>
          rw [fb_sm_succ, ih]
          by_cases q : p' n = P
          · rw [if_neg (by omega), decide_eq_true q, if_pos rfl, if_pos (by omega)]
          · rw [decide_eq_false q, if_neg (by decide : ¬ false = true)]
            by_cases q2 : p' n < P
            · rw [if_pos q2, if_pos (by omega)]
            · rw [if_neg q2, if_neg (by omega)]
      rw [e2, if_pos h1]
  have h9 := fb_sm_bound (f := fun v => ctp p' c v) (c := sc S) (n := pw S) (fun k _ => hle c (Nat.le_refl c) k)
  rw [hsum c (Nat.le_refl c)] at h9
  exact h9
/-- the best so far -/
def bst (G : Nat → Option (Nat → Nat)) (mv best best' : Nat) (T : (Nat → Nat) → Prop) (N : Prop) : Prop := (∃ b p', G b = some p' ∧ (∀ b', b' < b → G b' = none) ∧ mv + b < best ∧ best' = mv + b ∧ T p') ∨ ((∀ b, mv + b < best → G b = none) ∧ best' = best ∧ N)
theorem bst_step {d k v mv best best1 best2 : Nat} {p : Nat → Nat} {T1 T2 : (Nat → Nat) → Prop} {N1 N2 : Prop} (hv : v < pw S) (hvl : vld S p k v = true) (hmv : mv + cst S k v < best) (h1 : bst (fun b => sf S d (upn p k v) (k + 1) b) (mv + cst S k v) best best1 T1 N1) (h2 : bst (fun b => fsome (sfc S d p k b) (v + 1) (pw S - (v + 1))) mv best1 best2 T2 N2) (hT : ∀ p', T1 p' → N2 → T2 p') {N : Prop} (hN : N1 → N2 → N) : bst (fun b => fsome (sfc S d p k b) v (pw S - v)) mv best best2 T2 N := by
  have cnone : ∀ b, (cst S k v ≤ b → sf S d (upn p k v) (k + 1) (b - cst S k v) = none) → sfc S d p k b v = none := by
    intro b h
    unfold sfc
    by_cases q : cst S k v ≤ b
    · rw [decide_eq_true q, hvl, Bool.true_and, if_pos rfl]; exact h q
    · rw [decide_eq_false q, Bool.false_and, if_neg (by decide)]
  rcases h1 with ⟨b1, p1, a1, a2, a3, a4, a5⟩ | ⟨a1, a2, a3⟩
  · rcases h2 with ⟨b2, p2, c1, c2, c3, c4, c5⟩ | ⟨c1, c2, c3⟩
    · have low : ∀ b, b ≤ b2 → sfc S d p k b v = none := fun b hb => cnone b (fun q => a2 _ (by omega))
      refine Or.inl ⟨b2, p2, ?_, fun b' hb' => ?_, by omega, c4, c5⟩
      · show fsome _ v _ = _
        rw [fs_no hv (low b2 (Nat.le_refl _))]; exact c1
      · show fsome _ v _ = _
        rw [fs_no hv (low b' (by omega))]; exact c2 b' hb'
    · refine Or.inl ⟨cst S k v + b1, p1, fs_yes hv ?_, fun b' hb' => ?_, by omega, by omega, hT p1 a5 c3⟩
      · unfold sfc
        rw [decide_eq_true (by omega), hvl, Bool.true_and, if_pos rfl, Nat.add_sub_cancel_left]; exact a1
      · show fsome _ v _ = _
        rw [fs_no hv (cnone b' (fun q => a2 _ (by omega)))]
        exact c1 b' (by omega)
  · rcases h2 with ⟨b2, p2, c1, c2, c3, c4, c5⟩ | ⟨c1, c2, c3⟩
    · have low : ∀ b, b ≤ b2 → sfc S d p k b v = none := fun b hb => cnone b (fun q => a1 _ (by omega))
      refine Or.inl ⟨b2, p2, ?_, fun b' hb' => ?_, by omega, c4, c5⟩
      · show fsome _ v _ = _
        rw [fs_no hv (low b2 (Nat.le_refl _))]; exact c1
      · show fsome _ v _ = _
        rw [fs_no hv (low b' (by omega))]; exact c2 b' hb'
    · refine Or.inr ⟨fun b hb => ?_, c2.trans a2, hN a3 c3⟩
      show fsome _ v _ = _
      rw [fs_no hv (cnone b (fun q => a1 _ (by omega)))]
      exact c1 b (by omega)
theorem bst_skip {d k v mv best best2 : Nat} {p : Nat → Nat} {T2 : (Nat → Nat) → Prop} {N2 : Prop} (hv : v < pw S) (hno : ¬ (vld S p k v = true ∧ mv + cst S k v < best)) (h2 : bst (fun b => fsome (sfc S d p k b) (v + 1) (pw S - (v + 1))) mv best best2 T2 N2) : bst (fun b => fsome (sfc S d p k b) v (pw S - v)) mv best best2 T2 N2 := by
  have cnone : ∀ b, mv + b < best → sfc S d p k b v = none := by
    intro b h
    unfold sfc
    by_cases q : cst S k v ≤ b
    · have : vld S p k v = false := Bool.eq_false_iff.mpr (fun q2 => hno ⟨q2, by omega⟩)
      rw [this, Bool.and_false, if_neg (by decide)]
    · rw [decide_eq_false q, Bool.false_and, if_neg (by decide)]
  rcases h2 with ⟨b2, p2, c1, c2, c3, c4, c5⟩ | ⟨c1, c2, c3⟩
  · refine Or.inl ⟨b2, p2, ?_, fun b' hb' => ?_, c3, c4, c5⟩
    · show fsome _ v _ = _
      rw [fs_no hv (cnone b2 c3)]; exact c1
    · show fsome _ v _ = _
      rw [fs_no hv (cnone b' (by omega))]; exact c2 b' hb'
  · refine Or.inr ⟨fun b hb => ?_, c2, c3⟩
    show fsome _ v _ = _
    rw [fs_no hv (cnone b hb)]
    exact c1 b hb
theorem foe_symm (hv : Inv S) {a b : Nat} (ha : a < 8) (hb : b < 8) : foe S a b = foe S b a := by
  have n10 := iv_n10 hv
  unfold foe
  rcases iv_held hv a ha with e | ⟨x, hx, e⟩
  · rw [e]; simp
  · rcases iv_held hv b hb with e2 | ⟨y, hy, e2⟩
    · rw [e2]; simp
    · rw [e, e2, nI_clamp (by omega), nI_clamp (by omega), iv_feud hv x y (by omega) (by omega)]
      rw [Bool.and_comm (!decide (nI x = mN))]
end SEAT
