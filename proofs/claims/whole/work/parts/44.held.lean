/-! who holds what, changed; swap, sit, feed, grave -/
section HELD
variable {σ m : Mm} {S S' : Nat → Int32} {N : Nat → Int64} {b d : Nat}
theorem lp_run {A R : Type} {body : A → Option (A ⊕ R)} (st : Nat → A) (n : Nat) (h : ∀ i, i < n → body (st i) = some (.inl (st (i + 1)))) : mm_lp body (st 0) = mm_lp body (st n) := by
  induction n with
  | zero => rfl
  | succ n ih => rw [ih (fun i hi => h i (by omega)), mm_lp_step (h n (by omega))]
theorem iv_one' (hv : Inv S) {j k : Nat} (hjk : j ≠ k) (hj : j < 8) (hk : k < 8) (e : S (123 + j) = S (123 + k)) : S (123 + k) = mN := by
  rcases Nat.lt_or_ge j k with h | h
  · exact iv_one hv j k h hk e
  · exact e ▸ iv_one hv k j (by omega) hj e.symm
theorem Inv_held (h : Inv S) (e : ∀ i, i < 744 → (i < 115 ∨ 131 ≤ i) → S' i = S i) (h1 : ∀ k, k < 8 → hq (sn S) (S' (123 + k))) (h2 : ∀ k, sm S ≤ k → k < 8 → S' (123 + k) = mN) (h3 : ∀ j k, j ≠ k → j < 8 → k < 8 → S' (123 + j) = S' (123 + k) → S' (123 + k) = mN) : Inv S' := by
  have e0 := sn_c (e 0 (by decide) (by decide))
  have e1 := sm_c (e 1 (by decide) (by decide))
  have e2 := pw_c (e 2 (by decide) (by decide))
  have e3 := sc_c (e 3 (by decide) (by decide))
  have e4 := sp_c (e 131 (by decide) (by decide))
  have e5 := sr_c (e 532 (by decide) (by decide))
  have e6 := sb_c (e 623 (by decide) (by decide))
  have m8 := iv_m8 h
  have h24 := iv_sp24 h
  have r30 := iv_sr30 h
  have b30 := iv_sb30 h
  unfold Inv
  rw [e0, e1, e2, e3, e4, e5, e6, e 0 (by decide) (by decide), e 1 (by decide) (by decide), e 2 (by decide) (by decide), e 3 (by decide) (by decide), e 131 (by decide) (by decide), e 532 (by decide) (by decide), e 623 (by decide) (by decide)]
  refine ⟨h.1, h.2.1, h.2.2.1, h.2.2.2.1, h.2.2.2.2.1, h.2.2.2.2.2.1, h.2.2.2.2.2.2.1, h1, h2, fun j k q1 q2 => h3 j k (by omega) (by omega) q2, fun t ht => ⟨fun k hk => ?_, fun j k h1 h2 => ?_⟩, fun t k h1 h2 h3 => ?_, fun x y hx hy => ?_, fun i hi => ?_, fun i hi => ?_, iv_pos h⟩
  · rw [e _ (by omega) (by omega)]; exact (iv_kept h t ht).1 k hk
  · rw [e _ (by omega) (by omega), e _ (by omega) (by omega)]; exact (iv_kept h t ht).2 j k h1 h2
  · rw [e _ (by omega) (by omega)]; exact iv_drew h t k h1 h2 h3
  · rw [e _ (by omega) (by omega), e _ (by omega) (by omega)]; exact iv_feud h x y hx hy
  · rw [e _ (by omega) (by omega), e _ (by omega) (by omega), e _ (by omega) (by omega)]; exact iv_roll h i hi
  · rw [e _ (by omega) (by omega), e _ (by omega) (by omega), e _ (by omega) (by omega)]; exact iv_book h i hi
theorem rf_cong2 (e : ∀ i, 532 ≤ i → i < 744 → S' i = S i) (k : Nat) : ∀ i, i ≤ 30 → rf S' k i = rf S k i
  | 0, _ => rfl
  | i + 1, hi => by
    show (if S' (533 + 3 * i) = nI k then _ else _) = (if S (533 + 3 * i) = nI k then _ else _)
    rw [rf_cong2 e k i (by omega), e _ (by omega) (by omega), e _ (by omega) (by omega), e _ (by omega) (by omega)]
theorem SR_held (h : SR σ b S N) (hv : Inv S) (e : ∀ i, i < 744 → (i < 115 ∨ 131 ≤ i) → S' i = S i) (f1 : ∀ j, j < 35 → j ≠ 16 → j ≠ 18 → j ≠ 20 → j ≠ 22 → m.1 (b + j) = σ.1 (b + j)) (f2 : ∀ j, j < 35 → m.2 (b + j) = σ.2 (b + j)) (hH : HR m (b + 14) S') : SR m b S' N := by
  have e1 := sm_c (e 1 (by decide) (by decide))
  have e4 := sp_c (e 131 (by decide) (by decide))
  have e5 := sr_c (e 532 (by decide) (by decide))
  have e6 := sb_c (e 623 (by decide) (by decide))
  have m8 := iv_m8 hv
  have h24 := iv_sp24 hv
  have r30 := iv_sr30 hv
  have b30 := iv_sb30 hv
  have f0 : m.1 b = σ.1 b := f1 0 (by decide) (by decide) (by decide) (by decide) (by decide)
  refine ⟨IR_cong (IR_c h.1 (fun j hj => by rw [Nat.add_assoc]; exact f1 _ (by omega) (by omega) (by omega) (by omega) (by omega))) (fun i hi => e i (by omega) (by omega)), ?_, hH, ?_⟩
  · have := NR_c (m := m) h.2.1 (fun j hj => by rw [Nat.add_assoc]; exact f2 _ (by omega))
    exact NR_cong this (iv_n10 hv) m8 (e 0 (by decide) (by decide)) (e 1 (by decide) (by decide)) (fun _ _ => rfl)
  · rw [e1, e4, e5, e6, e 131 (by decide) (by decide), e 532 (by decide) (by decide), e 623 (by decide) (by decide), f0, f1 24 (by decide) (by decide) (by decide) (by decide) (by decide), f1 26 (by decide) (by decide) (by decide) (by decide) (by decide), f1 28 (by decide) (by decide) (by decide) (by decide) (by decide), f1 30 (by decide) (by decide) (by decide) (by decide) (by decide), f1 32 (by decide) (by decide) (by decide) (by decide) (by decide), f1 34 (by decide) (by decide) (by decide) (by decide) (by decide)]
    refine ⟨h.2.2.2.1, fun t k ht hk => ?_, fun t k h1 h2 hk => ?_, h.2.2.2.2.2.2.1, fun k hk => ?_, h.2.2.2.2.2.2.2.2.1, fun i hi => ?_⟩
    · rw [e _ (by omega) (by omega)]; exact h.2.2.2.2.1 t k ht hk
    · rw [e _ (by omega) (by omega)]; exact h.2.2.2.2.2.1 t k h1 h2 hk
    · rw [rf_cong2 (fun i h1 h2 => e i h2 (by omega)) k _ r30]; exact h.2.2.2.2.2.2.2.1 k hk
    · rw [e _ (by omega) (by omega), e _ (by omega) (by omega), e _ (by omega) (by omega)]; exact h.2.2.2.2.2.2.2.2.2 i hi
/-- two HOUSES exchange what they hold -/
def sw (S : Nat → Int32) (a c : Nat) : Nat → Int32 := fun i => if i = 123 + c then S (123 + a) else if i = 123 + a then S (123 + c) else S i
theorem sw_o {a c i : Nat} (h1 : i ≠ 123 + c) (h2 : i ≠ 123 + a) : sw S a c i = S i := by unfold sw; rw [if_neg h1, if_neg h2]
theorem sw_at {a c k : Nat} : sw S a c (123 + k) = S (123 + (if k = c then a else if k = a then c else k)) := by
  unfold sw
  by_cases h1 : k = c
  · rw [if_pos (by omega), if_pos h1]
  · rw [if_neg (by omega), if_neg h1]
    by_cases h2 : k = a
    · rw [if_pos (by omega), if_pos h2]
    · rw [if_neg (by omega), if_neg h2]
theorem sw_Inv (hv : Inv S) {a c : Nat} (ha : a < sm S) (hc : c < sm S) : Inv (sw S a c) := by
  have m8 := iv_m8 hv
  refine Inv_held hv (fun i hi h => sw_o (by omega) (by omega)) (fun k hk => ?_) (fun k h1 h2 => ?_) (fun j k hjk hj hk e => ?_)
  · rw [sw_at]; exact iv_held hv _ (by split; omega; split <;> omega)
  · rw [sw_at, if_neg (by omega), if_neg (by omega)]; exact iv_none hv k h1 h2
  · rw [sw_at, sw_at] at e
    rw [sw_at]
    refine iv_one' hv ?_ ?_ ?_ e
    · split <;> split <;> (try split) <;> (try split) <;> omega
    · split; omega; split <;> omega
    · split; omega; split <;> omega
theorem hd_exch {z : Nat → Nat} {a c : Nat} (hz : HZ z d) (h : HR σ d S) (ha : a < 8) (hc : c < 8) : f_Hands_exchange z σ d (nI a) (nI c) = some (kI (kI σ (d + 2) a (S (123 + c))) (d + 2) c (S (123 + a))) := by
  unfold f_Hands_exchange
  rw [hd_held hz h ha, hd_held hz h hc]
  simp only [Option.bind_some]
  rw [row_putE (p := d + 2) (n := 8) rfl hz.1 ha (by decide), Option.bind_some, row_putE (p := d + 2) (n := 8) rfl hz.1 hc (by decide), Option.bind_some]
theorem hr_exch {a c : Nat} (h : HR σ d S) : HR (kI (kI σ (d + 2) a (S (123 + c))) (d + 2) c (S (123 + a))) d (sw S a c) := by
  constructor
  · intro k hk
    rw [kI_at, kI_at, sw_at]
    by_cases h1 : k = c
    · rw [if_pos h1, if_pos h1]
    · rw [if_neg h1, if_neg h1]
      by_cases h2 : k = a
      · rw [if_pos h2, if_pos h2]
      · rw [if_neg h2, if_neg h2]; exact h.1 k hk
  · intro k hk
    rw [kI_o _ _ _ _ (by omega), kI_o _ _ _ _ (by omega), sw_o (by omega) (by omega)]
    exact h.2 k hk
theorem md_exch {u : Mm} {a c : Nat} (hs : u.1 171 = S) (ha : a < 8) (hc : c < 8) : f_Mod_exchange z_Law u 169 (nI a) (nI c) = some (kI (kI u 171 (123 + a) (S (123 + c))) 171 (123 + c) (S (123 + a))) := by
  unfold f_Mod_exchange
  simp (disch := omega) only [fl, fmN, mm_lt, Nat.reduceAdd, Option.bind_some, lt_t, lt_f, le_t, le_f, eq_f, eq_self, nI_add, nI_mul, nI_sub, ↓reduceIte, zq_171, ld_nI, st_nI, hs]
theorem ms_exch {u : Mm} {a c : Nat} (hs : u.1 171 = S) : (kI (kI u 171 (123 + a) (S (123 + c))) 171 (123 + c) (S (123 + a))).1 171 = sw S a c := by
  rw [kI_s, kI_s, hs]; rfl
def pn (S : Nat → Int32) (k : Nat) : Prop := S (123 + k) ≠ mN ∧ S (15 + (S (123 + k)).toNatClampNeg) = nI 2
theorem fl_ite {α : Type} {P : Prop} [Decidable P] {x y : α} : (if (if P then nI 1 else nI 0) = nI 0 then x else y) = if P then y else x := by
  by_cases h : P
  · rw [if_pos h, if_pos h, if_neg (by decide)]
  · rw [if_neg h, if_neg h, if_pos rfl]
theorem md_swap {u : Mm} {a c : Nat} (hv : Inv S) (hs : u.1 171 = S) (ha : a < sm S) (hc : c < sm S) (hac : a ≠ c) : (cn S a ∧ cn S c → f_Mod_swap z_Law u 169 (nI a) (nI c) = some (nI 1, kI (kI (kI u 169 0 (nI 0)) 171 (123 + a) (S (123 + c))) 171 (123 + c) (S (123 + a)))) ∧ (¬ (cn S a ∧ cn S c) → f_Mod_swap z_Law u 169 (nI a) (nI c) = some (nI 0, kI u 169 0 (nI 0))) := by
  have m8 := iv_m8 hv
  have n10 := iv_n10 hv
  have hs2 : (kI u 169 0 (nI 0)).1 171 = S := hs
  unfold f_Mod_swap cn
  simp (disch := omega) only [fl, fmN, mm_lt, Nat.reduceAdd, Option.bind_some, lt_t, lt_f, le_t, le_f, eq_f, eq_self, nI_add, nI_mul, nI_sub, ↓reduceIte, md_isH hv hs2 ha, md_isH hv hs2 hc, zq_171, ld_nI, hs2, md_pawn hv hs2, md_exch hs2, fl_ite]
  simp only [hq_lt (iv_held hv a (by omega)) (by omega : sn S < 2 ^ 31), hq_lt (iv_held hv c (by omega)) (by omega : sn S < 2 ^ 31)]
  by_cases h1 : S (123 + a) = mN
  · exact ⟨fun q => absurd h1 q.1.1, fun _ => by rw [if_pos h1]⟩
  · rw [if_neg h1]
    by_cases h2 : S (123 + c) = mN
    · exact ⟨fun q => absurd h2 q.2.1, fun _ => by rw [if_pos h2]⟩
    · rw [if_neg h2]
      by_cases h3 : S (15 + (S (123 + a)).toNatClampNeg) = nI 2
      · refine ⟨fun q => absurd h3 q.1.2, fun _ => ?_⟩
        rw [if_pos ⟨h1, h3⟩]
      · rw [if_neg (fun q => h3 q.2)]
        by_cases h4 : S (15 + (S (123 + c)).toNatClampNeg) = nI 2
        · refine ⟨fun q => absurd h4 q.2.2, fun _ => ?_⟩
          rw [if_pos ⟨h2, h4⟩]
        · rw [if_neg (fun q => h4 q.2)]
          exact ⟨fun _ => rfl, fun q => absurd ⟨⟨h1, h3⟩, h2, h4⟩ q⟩
theorem op_swap (hR : RL σ) (a c : Int32) : ∃ r m1 m2, f_Hat_swap z_Law σ 0 a c = some (r, m1) ∧ f_Mod_swap z_Law m1 169 a c = some (r, m2) ∧ RL m2 := by
  have hv := rl_v (rs hR)
  have hm := rl_m (rs hR)
  have m8 := iv_m8 hv
  have hI := rl_I (rs hR)
  have hH := rl_H (rs hR)
  have hs2 : (kI σ 169 0 (nI 0)).1 171 = σ.1 171 := rfl
  rcases arg_of a (sm (σ.1 171)) (by omega) with ⟨k, hk, rfl⟩ | h
  · rcases arg_of c (sm (σ.1 171)) (by omega) with ⟨j, hj, rfl⟩ | h2
    · by_cases hkj : k = j
      · subst hkj
        refine ⟨nI 0, σ, kI σ 169 0 (nI 0), ?_, ?_, rl_th hR⟩
        · unfold f_Hat_swap
          simp (disch := omega) only [fl, fmN, mm_lt, Nat.reduceAdd, Option.bind_some, lt_t, lt_f, le_t, le_f, eq_f, eq_self, nI_add, nI_mul, nI_sub, ↓reduceIte, nm_has hm hk]
        · unfold f_Mod_swap
          simp (disch := omega) only [fl, fmN, mm_lt, Nat.reduceAdd, Option.bind_some, lt_t, lt_f, le_t, le_f, eq_f, eq_self, nI_add, nI_mul, nI_sub, ↓reduceIte, md_isH hv hs2 hk]
      · obtain ⟨r1, q1, p1⟩ := hd_can HZ_74 IZ_61 hH hI (by omega : k < 8) (iv_held hv k (by omega)) (iv_n10 hv)
        obtain ⟨r2, q2, p2⟩ := hd_can HZ_74 IZ_61 hH hI (by omega : j < 8) (iv_held hv j (by omega)) (iv_n10 hv)
        by_cases hc : cn (σ.1 171) k ∧ cn (σ.1 171) j
        · have e1 : r1 = nI 1 := by rcases p1 with p | p; exact p.2; exact absurd hc.1 p.1
          have e2 : r2 = nI 1 := by rcases p2 with p | p; exact p.2; exact absurd hc.2 p.1
          subst e1; subst e2
          refine ⟨nI 1, kI (kI σ 76 k (σ.1 171 (123 + j))) 76 j (σ.1 171 (123 + k)), _, ?_, (md_swap (u := kI (kI σ 76 k (σ.1 171 (123 + j))) 76 j (σ.1 171 (123 + k))) hv rfl hk hj hkj).1 hc, ?_⟩
          · unfold f_Hat_swap
            simp (disch := omega) only [fl, fmN, mm_lt, Nat.reduceAdd, Option.bind_some, lt_t, lt_f, le_t, le_f, eq_f, eq_self, nI_add, nI_mul, nI_sub, ↓reduceIte, nm_has hm hk, nm_has hm hj, q1, q2, hd_exch HZ_74 hH]
          · refine RL_N hR (kp_tr (kp_kI (by decide)) (kp_tr (kp_kI (by decide)) (kp_tr (kp_s169 (by decide)) (kp_tr (kp_kI (by decide)) (kp_kI (by decide)))))) ?_
            have eS : (kI (kI (kI (kI (kI σ 76 k (σ.1 171 (123 + j))) 76 j (σ.1 171 (123 + k))) 169 0 (nI 0)) 171 (123 + k) (σ.1 171 (123 + j))) 171 (123 + j) (σ.1 171 (123 + k))).1 171 = sw (σ.1 171) k j := ms_exch (u := kI (kI (kI σ 76 k (σ.1 171 (123 + j))) 76 j (σ.1 171 (123 + k))) 169 0 (nI 0)) rfl
            unfold RS
            rw [eS]
            refine ⟨SR_held (σ := σ) (S := σ.1 171) (S' := sw (σ.1 171) k j) (N := σ.2 174) (rl_S (rs hR)) hv (fun i hi h => sw_o (by omega) (by omega)) (fun i hi h1 h2 _ _ => ?_) (fun i hi => rfl) ?_, sw_Inv hv hk hj⟩
            · rw [kI_o _ _ _ _ (by omega), kI_o _ _ _ _ (by omega), kI_o _ _ _ _ (by omega), kI_o _ _ _ _ (by omega), kI_o _ _ _ _ (by omega)]
            · have := hr_exch (d := 74) (a := k) (c := j) hH
              exact HR_c this (by rw [kI_o _ _ _ _ (by decide), kI_o _ _ _ _ (by decide), kI_o _ _ _ _ (by decide)]) (by rw [kI_o _ _ _ _ (by decide), kI_o _ _ _ _ (by decide), kI_o _ _ _ _ (by decide)])
        · refine ⟨nI 0, σ, kI σ 169 0 (nI 0), ?_, (md_swap (u := σ) hv rfl hk hj hkj).2 hc, rl_th hR⟩
          unfold f_Hat_swap
          simp (disch := omega) only [fl, fmN, mm_lt, Nat.reduceAdd, Option.bind_some, lt_t, lt_f, le_t, le_f, eq_f, eq_self, nI_add, nI_mul, nI_sub, ↓reduceIte, nm_has hm hk, nm_has hm hj, q1]
          rcases p1 with p | p
          · rw [p.2, if_neg (by decide), q2, Option.bind_some]
            rcases p2 with p' | p'
            · exact absurd ⟨p.1, p'.1⟩ hc
            · rw [p'.2, if_pos rfl]
          · rw [p.2, if_pos rfl]
    · refine ⟨nI 0, σ, kI σ 169 0 (nI 0), ?_, ?_, rl_th hR⟩
      · unfold f_Hat_swap
        simp (disch := omega) only [fl, fmN, mm_lt, Nat.reduceAdd, Option.bind_some, lt_t, lt_f, le_t, le_f, eq_f, eq_self, nI_add, nI_mul, nI_sub, ↓reduceIte, nm_has hm hk, nm_hasnt hm h2]
      · unfold f_Mod_swap
        simp (disch := omega) only [fl, fmN, mm_lt, Nat.reduceAdd, Option.bind_some, lt_t, lt_f, le_t, le_f, eq_f, eq_self, nI_add, nI_mul, nI_sub, ↓reduceIte, md_isH hv hs2 hk, md_isntH hv hs2 h2]
  · refine ⟨nI 0, σ, kI σ 169 0 (nI 0), ?_, ?_, rl_th hR⟩
    · unfold f_Hat_swap
      simp (disch := omega) only [fl, fmN, mm_lt, Nat.reduceAdd, Option.bind_some, lt_t, lt_f, le_t, le_f, eq_f, eq_self, nI_add, nI_mul, nI_sub, ↓reduceIte, nm_hasnt hm h]
    · unfold f_Mod_swap
      simp (disch := omega) only [fl, fmN, mm_lt, Nat.reduceAdd, Option.bind_some, lt_t, lt_f, le_t, le_f, eq_f, eq_self, nI_add, nI_mul, nI_sub, ↓reduceIte, md_isntH hv hs2 h]
/-! sit -/
def st8 (S T : Nat → Int32) (n : Nat) : Nat → Int32 := fun i => if 115 ≤ i ∧ i < 115 + n then T (i - 115) else S i
theorem op_sit (hR : RL σ) : ∃ r m1 m2, f_Hat_sit z_Law σ 0 = some (r, m1) ∧ f_Mod_sit z_Law m1 169 = some (r, m2) ∧ RL m2 := by
  have hv := rl_v (rs hR)
  have hm := rl_m (rs hR)
  have m8 := iv_m8 hv
  obtain ⟨r1, r2, r3⟩ := hR.2.2.2.2.1
  by_cases he : σ.1 47 1 = nI (sm (σ.1 171))
  · have he2 : σ.1 169 35 = nI (sm (σ.1 171)) := r1 ▸ he
    have r3' : ∀ i, i < sm (σ.1 171) → σ.1 49 i = σ.1 183 i := fun i hi => r3 i (by rw [he, nI_clamp (by omega)]; exact hi)
    have key : ∀ i, i < sm (σ.1 171) → f_Row_at z_Law σ 48 (nI i) = some (σ.1 183 i) := fun i hi => by rw [row_atE (p := 49) (n := 8) rfl zq_49 (by omega) (by decide), r3' i hi]
    have L1 : mm_lp (f_Hat_sit_L27 z_Law σ 0) (nI 0) = some (if fa_first (fun i => !decide (σ.1 183 i < nI (pw (σ.1 171)))) (sm (σ.1 171)) < sm (σ.1 171) then .inl (nI 0, σ) else .inr ()) := by
      refine lp_find (fun i => !decide (σ.1 183 i < nI (pw (σ.1 171)))) (sm (σ.1 171)) (fun _ => (nI 0, σ)) (fun i hi h9 => ?_) (fun i hi h9 => ?_) ?_
      · have h8 : σ.1 183 i < nI (pw (σ.1 171)) := by simpa using h9
        unfold f_Hat_sit_L27
        simp (disch := omega) only [fl, fmN, mm_lt, Nat.reduceAdd, Option.bind_some, lt_t, lt_f, le_t, le_f, eq_f, eq_self, nI_add, nI_mul, nI_sub, ↓reduceIte, he, key i hi, rl_p (rs hR), if_pos h8]
      · have h8 : ¬ σ.1 183 i < nI (pw (σ.1 171)) := by simpa using h9
        unfold f_Hat_sit_L27
        simp (disch := omega) only [fl, fmN, mm_lt, Nat.reduceAdd, Option.bind_some, lt_t, lt_f, le_t, le_f, eq_f, eq_self, nI_add, nI_mul, nI_sub, ↓reduceIte, he, key i hi, rl_p (rs hR), if_neg h8]
      · unfold f_Hat_sit_L27
        simp (disch := omega) only [fl, fmN, mm_lt, Nat.reduceAdd, Option.bind_some, lt_t, lt_f, le_t, le_f, eq_f, eq_self, nI_add, nI_mul, nI_sub, ↓reduceIte, he]
    have hs : (kI σ 169 0 (nI 0)).1 171 = σ.1 171 := rfl
    have hs9 : (kI σ 169 0 (nI 0)).1 183 = σ.1 183 := rfl
    have L2 : ∀ u : Mm, u.1 171 = σ.1 171 → u.1 183 = σ.1 183 → mm_lp (f_Mod_sit_L29 z_Law u 169) (nI 0) = some (if fa_first (fun i => !decide (σ.1 183 i < nI (pw (σ.1 171)))) (sm (σ.1 171)) < sm (σ.1 171) then .inl (nI 0, u) else .inr ()) := by
      intro u hs hs9
      refine lp_find (fun i => !decide (σ.1 183 i < nI (pw (σ.1 171)))) (sm (σ.1 171)) (fun _ => (nI 0, u)) (fun i hi h9 => ?_) (fun i hi h9 => ?_) ?_
      · have h8 : σ.1 183 i < nI (pw (σ.1 171)) := by simpa using h9
        unfold f_Mod_sit_L29
        simp (disch := omega) only [fl, fmN, mm_lt, Nat.reduceAdd, Option.bind_some, lt_t, lt_f, le_t, le_f, eq_f, eq_self, nI_add, nI_mul, nI_sub, ↓reduceIte, zq_171, zq_183, ld_nI, hs, hs9, iv_m hv, (iv_p hv).1, if_pos h8]
      · have h8 : ¬ σ.1 183 i < nI (pw (σ.1 171)) := by simpa using h9
        unfold f_Mod_sit_L29
        simp (disch := omega) only [fl, fmN, mm_lt, Nat.reduceAdd, Option.bind_some, lt_t, lt_f, le_t, le_f, eq_f, eq_self, nI_add, nI_mul, nI_sub, ↓reduceIte, zq_171, zq_183, ld_nI, hs, hs9, iv_m hv, (iv_p hv).1, if_neg h8]
      · unfold f_Mod_sit_L29
        simp (disch := omega) only [fl, fmN, mm_lt, Nat.reduceAdd, Option.bind_some, lt_t, lt_f, le_t, le_f, eq_f, eq_self, nI_add, nI_mul, nI_sub, ↓reduceIte, zq_171, zq_183, ld_nI, hs, iv_m hv]
    by_cases hf : fa_first (fun i => !decide (σ.1 183 i < nI (pw (σ.1 171)))) (sm (σ.1 171)) < sm (σ.1 171)
    · refine ⟨nI 0, σ, kI σ 169 0 (nI 0), ?_, ?_, rl_th hR⟩
      · unfold f_Hat_sit
        simp only [fl, fmN, mm_lt, Nat.reduceAdd, Option.bind_some, lt_t, lt_f, le_t, le_f, eq_f, eq_self, nI_add, nI_mul, nI_sub, ↓reduceIte, he, hm, L1, if_pos hf]
        rfl
      · have he3 : (kI σ 169 0 (nI 0)).1 169 35 = nI (sm (σ.1 171)) := he2
        unfold f_Mod_sit
        simp (disch := omega) only [fl, fmN, mm_lt, Nat.reduceAdd, Option.bind_some, lt_t, lt_f, le_t, le_f, eq_f, eq_self, nI_add, nI_mul, nI_sub, ↓reduceIte, he3, zq_171, ld_nI, hs, iv_m hv, L2 (kI σ 169 0 (nI 0)) rfl rfl, if_pos hf]
        rfl
    · have hP : mm_lp (f_Hat_sit_L72 z_Law 0) (nI 0, σ) = some (kP σ 78 0 (sm (σ.1 171)) (σ.1 183)) := by
        refine lp_go (fun i => (nI i, kP σ 78 0 i (σ.1 183))) (sm (σ.1 171)) (Prod.ext rfl kP_0.symm) (fun i hi => ?_) ?_
        · have e47 : (kP σ 78 0 i (σ.1 183)).1 47 1 = nI (sm (σ.1 171)) := by rw [kP_o (by decide)]; exact he
          have e48 : f_Row_at z_Law (kP σ 78 0 i (σ.1 183)) 48 (nI i) = some (σ.1 183 i) := by rw [row_atE (p := 49) (n := 8) rfl zq_49 (by omega) (by decide), kP_o (by decide), r3' i hi]
          unfold f_Hat_sit_L72
          simp (disch := omega) only [fl, fmN, mm_lt, Nat.reduceAdd, Option.bind_some, lt_t, lt_f, le_t, le_f, eq_f, eq_self, nI_add, nI_mul, nI_sub, ↓reduceIte, e47, e48, row_putE (p := 78) rfl zq_78]
          have := kP_succ (m := σ) (o := 78) (a := 0) (n := i) (g := σ.1 183)
          rw [Nat.zero_add] at this
          rw [← this]
        · have e47 : (kP σ 78 0 (sm (σ.1 171)) (σ.1 183)).1 47 1 = nI (sm (σ.1 171)) := by rw [kP_o (by decide)]; exact he
          unfold f_Hat_sit_L72
          simp (disch := omega) only [fl, fmN, mm_lt, Nat.reduceAdd, Option.bind_some, lt_t, lt_f, le_t, le_f, eq_f, eq_self, nI_add, nI_mul, nI_sub, ↓reduceIte, e47]
      have hQ : ∀ u : Mm, u.1 171 = σ.1 171 → u.1 183 = σ.1 183 → mm_lp (f_Mod_sit_L64 z_Law 169) (nI 0, u) = some (kP u 171 115 (sm (σ.1 171)) (σ.1 183)) := by
        intro u hs hs9
        refine lp_go (fun i => (nI i, kP u 171 115 i (σ.1 183))) (sm (σ.1 171)) (Prod.ext rfl kP_0.symm) (fun i hi => ?_) ?_
        · have e1 : (kP u 171 115 i (σ.1 183)).1 171 1 = nI (sm (σ.1 171)) := by rw [kP_out (by omega), hs]; exact iv_m hv
          have e2 : (kP u 171 115 i (σ.1 183)).1 183 = σ.1 183 := by rw [kP_o (by decide)]; exact hs9
          unfold f_Mod_sit_L64
          simp (disch := omega) only [fl, fmN, mm_lt, Nat.reduceAdd, Option.bind_some, lt_t, lt_f, le_t, le_f, eq_f, eq_self, nI_add, nI_mul, nI_sub, ↓reduceIte, zq_171, zq_183, ld_nI, e1, e2, st_nI, kP_succ]
        · have e1 : (kP u 171 115 (sm (σ.1 171)) (σ.1 183)).1 171 1 = nI (sm (σ.1 171)) := by rw [kP_out (by omega), hs]; exact iv_m hv
          unfold f_Mod_sit_L64
          simp (disch := omega) only [fl, fmN, mm_lt, Nat.reduceAdd, Option.bind_some, lt_t, lt_f, le_t, le_f, eq_f, eq_self, nI_add, nI_mul, nI_sub, ↓reduceIte, zq_171, ld_nI, e1]
      have hs3 : (kI (kP σ 78 0 (sm (σ.1 171)) (σ.1 183)) 169 0 (nI 0)).1 171 = σ.1 171 := rfl
      refine ⟨nI 1, kP σ 78 0 (sm (σ.1 171)) (σ.1 183), kP (kI (kP σ 78 0 (sm (σ.1 171)) (σ.1 183)) 169 0 (nI 0)) 171 115 (sm (σ.1 171)) (σ.1 183), ?_, ?_, ?_⟩
      · unfold f_Hat_sit
        simp only [fl, fmN, mm_lt, Nat.reduceAdd, Option.bind_some, lt_t, lt_f, le_t, le_f, eq_f, eq_self, nI_add, nI_mul, nI_sub, ↓reduceIte, he, hm, L1, if_neg hf]
        show (mm_lp (f_Hat_sit_L72 z_Law 0) (nI 0, σ)).bind _ = _
        rw [hP]; rfl
      · have he3 : (kI (kP σ 78 0 (sm (σ.1 171)) (σ.1 183)) 169 0 (nI 0)).1 169 35 = nI (sm (σ.1 171)) := he2
        unfold f_Mod_sit
        simp (disch := omega) only [fl, fmN, mm_lt, Nat.reduceAdd, Option.bind_some, lt_t, lt_f, le_t, le_f, eq_f, eq_self, nI_add, nI_mul, nI_sub, ↓reduceIte, he3, zq_171, ld_nI, hs3, iv_m hv, L2 (kI (kP σ 78 0 (sm (σ.1 171)) (σ.1 183)) 169 0 (nI 0)) rfl rfl, if_neg hf]
        show (mm_lp (f_Mod_sit_L64 z_Law 169) (nI 0, _)).bind _ = _
        rw [hQ (kI (kP σ 78 0 (sm (σ.1 171)) (σ.1 183)) 169 0 (nI 0)) rfl rfl]; rfl
      · refine RL_N hR (kp_tr (kp_kP (by decide)) (kp_tr (kp_s169 (by decide)) (kp_kP (by decide)))) ?_
        unfold RS
        rw [kP_s]
        have eo : ∀ i, i < 744 → (i < 115 ∨ 131 ≤ i) → fb_put ((kI (kP σ 78 0 (sm (σ.1 171)) (σ.1 183)) 169 0 (nI 0)).1 171) (σ.1 183) 115 (sm (σ.1 171)) i = σ.1 171 i := fun i hi h => fb_put_out (by omega)
        have eh : ∀ k, fb_put ((kI (kP σ 78 0 (sm (σ.1 171)) (σ.1 183)) 169 0 (nI 0)).1 171) (σ.1 183) 115 (sm (σ.1 171)) (123 + k) = σ.1 171 (123 + k) := fun k => fb_put_out (by omega)
        refine ⟨SR_held (σ := σ) (S := σ.1 171) (N := σ.2 174) (rl_S (rs hR)) hv eo (fun i hi h1 h2 _ _ => ?_) (fun i hi => rfl) ⟨fun k hk => ?_, fun k hk => ?_⟩, Inv_held hv eo (fun k hk => by rw [eh]; exact iv_held hv k hk) (fun k h1 h2 => by rw [eh]; exact iv_none hv k h1 h2) (fun j k h1 h2 h3 h4 => by rw [eh, eh] at h4; rw [eh]; exact iv_one' hv h1 h2 h3 h4)⟩
        · rw [kP_o (by omega), kI_o _ _ _ _ (by omega), kP_o (by omega)]
        · rw [eh, kP_o (by omega), kI_o _ _ _ _ (by omega), kP_o (by omega)]
          exact (rl_H (rs hR)).1 k hk
        · rw [kP_o (by omega), kI_o _ _ _ _ (by omega)]
          show (kP σ 78 0 (sm (σ.1 171)) (σ.1 183)).1 78 k = _
          by_cases h : k < sm (σ.1 171)
          · rw [kP_in (by omega) (by omega), fb_put_in (by omega) (by omega)]
            rw [Nat.sub_zero, Nat.add_sub_cancel_left]
          · rw [kP_out (by omega), fb_put_out (by omega)]
            exact (rl_H (rs hR)).2 k hk
  · refine ⟨nI 0, σ, kI σ 169 0 (nI 0), ?_, ?_, rl_th hR⟩
    · unfold f_Hat_sit
      simp only [fl, fmN, mm_lt, Nat.reduceAdd, Option.bind_some, lt_t, lt_f, le_t, le_f, eq_f, eq_self, nI_add, nI_mul, nI_sub, ↓reduceIte, hm, if_neg he]
    · have hs : (kI σ 169 0 (nI 0)).1 171 = σ.1 171 := rfl
      have he3 : ¬ (kI σ 169 0 (nI 0)).1 169 35 = nI (sm (σ.1 171)) := fun q => he (r1.trans q)
      unfold f_Mod_sit
      simp (disch := omega) only [fl, fmN, mm_lt, Nat.reduceAdd, Option.bind_some, lt_t, lt_f, le_t, le_f, eq_f, eq_self, nI_add, nI_mul, nI_sub, ↓reduceIte, zq_171, ld_nI, hs, iv_m hv, if_neg he3, ite_self]
end HELD
