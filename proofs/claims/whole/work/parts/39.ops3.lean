/-! lapsed, broken, grave -/
section OPS3
variable {σ u : Mm} {S : Nat → Int32}
def lpg (S : Nat → Int32) (t : Nat) : Nat → Int32 → Int32 := fun k b => if ha S k t = mN then b else b &&& ((nI 1 <<< (ha S k t &&& nI 31)) ^^^ mN)
theorem hq_lt {n : Nat} {w : Int32} (h : hq n w) (hn : n < 2 ^ 31) : (w < nI 0) = (w = mN) := by
  rcases h with e | ⟨x, hx, e⟩
  · rw [e]; exact (eq_true (by decide)).trans (eq_true rfl).symm
  · rw [e, lt_f (by omega) (by omega), mN_ne _ (by omega)]
theorem hq_le {n : Nat} {w : Int32} (h : hq n w) (hn : n < 2 ^ 31) : (nI 0 ≤ w) = ¬ (w = mN) := by
  rcases h with e | ⟨x, hx, e⟩
  · rw [e]; exact (eq_false (by decide)).trans (eq_false (fun q => q rfl)).symm
  · rw [e, le_t (by omega) (by omega), mN_ne _ (by omega)]; exact (eq_true not_false).symm
theorem op_lapsed (hR : RL σ) (a : Int32) : ∃ r m, f_Hat_lapsed z_Law σ 0 a = some r ∧ f_Mod_lapsed z_Law σ 169 a = some (r, m) ∧ RL m := by
  have hv := rl_v (rs hR)
  have m8 := iv_m8 hv
  have n10 := iv_n10 hv
  have h24 := iv_sp24 hv
  have hm := rl_m (rs hR)
  have hp := rl_sp (rs hR)
  have hn := rl_n (rs hR)
  have key : ∃ r, f_Hat_lapsed z_Law σ 0 a = some r ∧ f_Mod_lapsed z_Law σ 169 a = some (r, kI σ 169 0 (nI 0)) := by
    have hs : (kI σ 169 0 (nI 0)).1 171 = σ.1 171 := rfl
    unfold f_Hat_lapsed f_Mod_lapsed f_Names_allBits
    by_cases h1 : a < nI 1
    · refine ⟨mN, ?_, ?_⟩
      · simp (disch := omega) only [fl, fmN, mm_lt, Nat.reduceAdd, Option.bind_some, lt_t, lt_f, le_t, le_f, eq_f, eq_self, nI_add, nI_mul, nI_sub, ↓reduceIte, if_pos h1]
      · simp (disch := omega) only [fl, fmN, mm_lt, Nat.reduceAdd, Option.bind_some, lt_t, lt_f, le_t, le_f, eq_f, eq_self, nI_add, nI_mul, nI_sub, ↓reduceIte, zq_171, ld_nI, hs, iv_sp hv, md_isnt (Or.inl h1)]
    · rcases arg_of a (sp (σ.1 171) + 2) (by omega) with ⟨k, hk, rfl⟩ | h
      · have hk1 : 1 ≤ k := by
          rcases Nat.lt_or_ge k 1 with h0 | h0
          · exact absurd (nI_lt h0 (by decide)) h1
          · exact h0
        refine ⟨fo (fun i b => fo (lpg (σ.1 171) (sp (σ.1 171) - i)) (sm (σ.1 171)) b) k ((nI 1 <<< (nI (sn (σ.1 171)) &&& nI 31)) - nI 1), ?_, ?_⟩
        · simp (disch := omega) only [fl, fmN, mm_lt, Nat.reduceAdd, Option.bind_some, lt_t, lt_f, le_t, le_f, eq_f, eq_self, nI_add, nI_mul, nI_sub, ↓reduceIte, hp, hn]
          rw [lp_down (fun i b => fo (lpg (σ.1 171) (sp (σ.1 171) - i)) (sm (σ.1 171)) b) (sp (σ.1 171)) k (fun i x hi => ?_) (fun x => ?_)]
          · rfl
          · unfold f_Hat_lapsed_L42
            simp (disch := omega) only [fl, fmN, mm_lt, Nat.reduceAdd, Option.bind_some, lt_t, lt_f, le_t, le_f, eq_f, eq_self, nI_add, nI_mul, nI_sub, ↓reduceIte, hp, dn_endS (s := sp (σ.1 171)) hi (by omega) (by omega)]
            rw [lp_fo0 (lpg (σ.1 171) (sp (σ.1 171) - i)) (sm (σ.1 171)) (fun j y hj => ?_) (fun y => ?_)]
            · simp only [Option.bind_some, fmN]
              rw [dn_stepS (by omega)]
            · unfold f_Hat_lapsed_L58 lpg
              simp (disch := omega) only [fl, fmN, mm_lt, Nat.reduceAdd, Option.bind_some, lt_t, lt_f, le_t, le_f, eq_f, eq_self, nI_add, nI_mul, nI_sub, ↓reduceIte, hm, st_heldAt (rs hR) hj (by omega : sp (σ.1 171) - i ≤ _), and_mN]
              split <;> rfl
            · unfold f_Hat_lapsed_L58
              simp (disch := omega) only [fl, fmN, mm_lt, Nat.reduceAdd, Option.bind_some, lt_t, lt_f, le_t, le_f, eq_f, eq_self, nI_add, nI_mul, nI_sub, ↓reduceIte, hm]
          · unfold f_Hat_lapsed_L42
            simp only [fl, fmN, mm_lt, Nat.reduceAdd, Option.bind_some, lt_t, lt_f, le_t, le_f, eq_f, eq_self, nI_add, nI_mul, nI_sub, ↓reduceIte, hp, Int32.le_refl, if_true]
        · simp (disch := omega) only [fl, fmN, mm_lt, Nat.reduceAdd, Option.bind_some, lt_t, lt_f, le_t, le_f, eq_f, eq_self, nI_add, nI_mul, nI_sub, ↓reduceIte, zq_171, ld_nI, hs, iv_sp hv, iv_n hv, md_isIn (v := nI k) rfl]
          rw [lp_down (fun i b => fo (lpg (σ.1 171) (sp (σ.1 171) - i)) (sm (σ.1 171)) b) (sp (σ.1 171)) k (fun i x hi => ?_) (fun x => ?_)]
          · rfl
          · unfold f_Mod_lapsed_L45
            simp (disch := omega) only [fl, fmN, mm_lt, Nat.reduceAdd, Option.bind_some, lt_t, lt_f, le_t, le_f, eq_f, eq_self, nI_add, nI_mul, nI_sub, ↓reduceIte, zq_171, ld_nI, hs, iv_sp hv, dn_endS (s := sp (σ.1 171)) hi (by omega) (by omega)]
            rw [lp_fo0 (lpg (σ.1 171) (sp (σ.1 171) - i)) (sm (σ.1 171)) (fun j y hj => ?_) (fun y => ?_)]
            · simp only [Option.bind_some, fmN]
              rw [dn_stepS (by omega)]
            · unfold f_Mod_lapsed_L62 lpg
              simp (disch := omega) only [fl, fmN, mm_lt, Nat.reduceAdd, Option.bind_some, lt_t, lt_f, le_t, le_f, eq_f, eq_self, nI_add, nI_mul, nI_sub, ↓reduceIte, zq_171, ld_nI, hs, iv_m hv, md_ha hv hs (by omega : j < 8) (by omega : sp (σ.1 171) - i ≤ _)]
              simp only [hq_lt (ha_hq hv (by omega : j < 8) (by omega : sp (σ.1 171) - i ≤ sp (σ.1 171))) (by omega)]
              split <;> rfl
            · unfold f_Mod_lapsed_L62
              simp (disch := omega) only [fl, fmN, mm_lt, Nat.reduceAdd, Option.bind_some, lt_t, lt_f, le_t, le_f, eq_f, eq_self, nI_add, nI_mul, nI_sub, ↓reduceIte, zq_171, ld_nI, hs, iv_m hv]
          · unfold f_Mod_lapsed_L45
            simp (disch := omega) only [fl, fmN, mm_lt, Nat.reduceAdd, Option.bind_some, lt_t, lt_f, le_t, le_f, eq_f, eq_self, nI_add, nI_mul, nI_sub, ↓reduceIte, zq_171, ld_nI, hs, iv_sp hv, Int32.le_refl, if_true]
      · have h2 : nI (sp (σ.1 171) + 1) < a := by
          rcases out_last h (by omega) with h | h
          · exact absurd (fa_trans h (show nI 0 ≤ nI 1 by decide)) h1
          · exact h
        refine ⟨mN, ?_, ?_⟩
        · simp (disch := omega) only [fl, fmN, mm_lt, Nat.reduceAdd, Option.bind_some, lt_t, lt_f, le_t, le_f, eq_f, eq_self, nI_add, nI_mul, nI_sub, ↓reduceIte, hp, if_neg h1, if_neg (fa_of_lt h2).2.1]
        · simp (disch := omega) only [fl, fmN, mm_lt, Nat.reduceAdd, Option.bind_some, lt_t, lt_f, le_t, le_f, eq_f, eq_self, nI_add, nI_mul, nI_sub, ↓reduceIte, zq_171, ld_nI, hs, iv_sp hv, md_isnt (Or.inr h2)]
  obtain ⟨r, h1, h2⟩ := key
  exact ⟨r, _, h1, h2, RL_kp hR (kp_s169 (by decide))⟩
/-! feuds -/
def foe (S : Nat → Int32) (a b : Nat) : Bool := !decide (S (123 + a) = mN) && !decide (S (123 + b) = mN) && bt (S (25 + (S (123 + a)).toNatClampNeg)) (S (123 + b)).toNatClampNeg
def bI (b : Bool) : Int32 := if b = true then nI 1 else nI 0
theorem bI_t : bI true = nI 1 := rfl
theorem bI_f : bI false = nI 0 := rfl
theorem bI_0 {b : Bool} : (bI b = nI 0) = (b = false) := by cases b <;> simp [bI] <;> decide
theorem bI_1 {b : Bool} : (bI b = nI 1) = (b = true) := by cases b <;> simp [bI] <;> decide
theorem md_has {z : Nat → Nat} {v : Int32} {k : Nat} (hk : k < 32) : f_Mod_has z u v (nI k) = some (bI (bt v k)) := by
  unfold f_Mod_has bI
  simp only [fl, sh_bit hk]
  split <;> rfl
theorem is_feud {z : Nat → Nat} {i a b n : Nat} (hz : IZ z i) (h : IR σ i S) (ha : hq n (S (123 + a))) (hb : hq n (S (123 + b))) (hn : n ≤ 10) : f_Island_feud z σ i (S (123 + a)) (S (123 + b)) = some (bI (foe S a b)) := by
  unfold f_Island_feud foe
  simp only [fl, fmN]
  rcases ha with e | ⟨x, hx, e⟩
  · rw [e, if_pos rfl]; rfl
  · rcases hb with e2 | ⟨y, hy, e2⟩
    · rw [e, e2]
      simp (disch := omega) only [fl, fmN, mm_lt, Nat.reduceAdd, Option.bind_some, lt_t, lt_f, le_t, le_f, eq_f, eq_self, nI_add, nI_mul, nI_sub, ↓reduceIte, mN_ne, nI_clamp]
      rfl
    · rw [e, e2]
      simp (disch := omega) only [fl, fmN, mm_lt, Nat.reduceAdd, Option.bind_some, lt_t, lt_f, le_t, le_f, eq_f, eq_self, nI_add, nI_mul, nI_sub, ↓reduceIte, mN_ne, nI_clamp, row_atE (p := i + 10) rfl hz.2.2.2.2.1, h.2.2.2.2.2.2.2.1 x, sh_bit, decide_false, Bool.not_false, Bool.true_and]
      unfold bI
      split <;> rfl
theorem md_foes {a b : Nat} (hs : u.1 171 = S) (hv : Inv S) (ha : a < 8) (hb : b < 8) : f_Mod_areFoes z_Law u 169 (nI a) (nI b) = some (bI (foe S a b)) := by
  have n10 := iv_n10 hv
  unfold f_Mod_areFoes foe
  simp (disch := omega) only [fl, fmN, mm_lt, Nat.reduceAdd, Option.bind_some, lt_t, lt_f, le_t, le_f, eq_f, eq_self, nI_add, nI_mul, nI_sub, ↓reduceIte, zq_171, ld_nI, hs]
  rcases iv_held hv a ha with e | ⟨x, hx, e⟩
  · rw [e, if_pos (by decide)]; rfl
  · rcases iv_held hv b hb with e2 | ⟨y, hy, e2⟩
    · rw [e, e2]
      simp (disch := omega) only [fl, fmN, mm_lt, Nat.reduceAdd, Option.bind_some, lt_t, lt_f, le_t, le_f, eq_f, eq_self, nI_add, nI_mul, nI_sub, ↓reduceIte, mN_ne, nI_clamp, ld_nI]
      rfl
    · rw [e, e2]
      simp (disch := omega) only [fl, fmN, mm_lt, Nat.reduceAdd, Option.bind_some, lt_t, lt_f, le_t, le_f, eq_f, eq_self, nI_add, nI_mul, nI_sub, ↓reduceIte, mN_ne, nI_clamp, ld_nI, md_has, decide_false, Bool.not_false, Bool.true_and, bI_0]
      cases bt (S (25 + x)) y <;> rfl
/-- the bits of those that feud with HOUSE a -/
def fw (S : Nat → Int32) (a : Nat) : Int32 := fo (fun o v => if foe S a o = true then v ||| nI 1 <<< (nI o &&& nI 31) else v) (sm S) (nI 0)
theorem bt_fo_or {p : Nat → Bool} : ∀ {n : Nat}, n ≤ 32 → ∀ i, i < 32 → bt (fo (fun o v => if p o = true then v ||| nI 1 <<< (nI o &&& nI 31) else v) n (nI 0)) i = (decide (i < n) && p i) := by
  intro n
  induction n with
  | zero => intro _ i _; exact b_nI0 i
  | succ n ih =>
    intro hn i hi
    have := ih (by omega) i hi
    show bt (if p n = true then fo _ n (nI 0) ||| nI 1 <<< (nI n &&& nI 31) else fo _ n (nI 0)) i = _
    by_cases hp : p n = true
    · rw [if_pos hp, b_set (by omega) hi, this]
      by_cases h1 : i = n
      · subst h1; simp [hp]
      · rw [decide_eq_false h1, Bool.or_false]
        congr 1
        exact decide_eq_decide.mpr (by omega)
    · rw [if_neg hp, this]
      by_cases h1 : i = n
      · subst h1; simp [hp]
      · congr 1
        exact decide_eq_decide.mpr (by omega)
theorem fw_bt (hv : Inv S) {a i : Nat} (hi : i < 32) : bt (fw S a) i = (decide (i < sm S) && foe S a i) := bt_fo_or (by have := iv_m8 hv; omega) i hi
theorem fw_in (hv : Inv S) {a i : Nat} (hi : i < sm S) : bt (fw S a) i = foe S a i := by
  have := iv_m8 hv
  rw [fw_bt hv (by omega), decide_eq_true hi, Bool.true_and]
theorem hd_fw {d a : Nat} (hz : HZ z_Law d) (h : HR σ d S) (hi : IR σ 61 S) (hv : Inv S) (ha : a < 8) : f_Hands_feudingWith z_Law σ d 61 (nI a) = some (fw S a) := by
  have m8 := iv_m8 hv
  have hm : σ.1 64 1 = nI (sm S) := hi.2.1.trans (iv_m hv)
  unfold f_Hands_feudingWith fw
  simp only [fl]
  rw [lp_fo0 (fun o v => if foe S a o = true then v ||| nI 1 <<< (nI o &&& nI 31) else v) (sm S) (fun i x hi9 => ?_) (fun x => ?_)]
  · rfl
  · unfold f_Hands_feudingWith_L5
    simp (disch := omega) only [fl, fmN, mm_lt, Nat.reduceAdd, Option.bind_some, lt_t, lt_f, le_t, le_f, eq_f, eq_self, nI_add, nI_mul, nI_sub, ↓reduceIte, hm, hd_held hz h, is_feud IZ_61 hi (iv_held hv a ha) (iv_held hv i (by omega)) (iv_n10 hv), bI_0]
    cases foe S a i <;> rfl
  · unfold f_Hands_feudingWith_L5
    simp (disch := omega) only [fl, fmN, mm_lt, Nat.reduceAdd, Option.bind_some, lt_t, lt_f, le_t, le_f, eq_f, eq_self, nI_add, nI_mul, nI_sub, ↓reduceIte, hm]
def brk (S : Nat → Int32) (a : Nat) : Nat → Int32 → Int32 := fun b n => if foe S a b = true ∧ S (115 + a) = S (115 + b) then n + nI 1 else n
theorem op_broken (hR : RL σ) : ∃ r m, f_Hat_broken z_Law σ 0 = some r ∧ f_Mod_broken z_Law σ 169 = some (r, m) ∧ RL m := by
  have hv := rl_v (rs hR)
  have m8 := iv_m8 hv
  have hm := rl_m (rs hR)
  have hH := rl_H (rs hR)
  have key : ∃ r, f_Hat_broken z_Law σ 0 = some r ∧ f_Mod_broken z_Law σ 169 = some (r, kI σ 169 0 (nI 0)) := by
    have hs : (kI σ 169 0 (nI 0)).1 171 = σ.1 171 := rfl
    unfold f_Hat_broken f_Mod_broken
    refine ⟨fo (fun a n => fo (fun j => brk (σ.1 171) a (a + 1 + j)) (sm (σ.1 171) - (a + 1)) n) (sm (σ.1 171)) (nI 0), ?_, ?_⟩
    · simp only [fl]
      rw [lp_fo0 (fun a n => fo (fun j => brk (σ.1 171) a (a + 1 + j)) (sm (σ.1 171) - (a + 1)) n) (sm (σ.1 171)) (fun i x hi => ?_) (fun x => ?_)]
      · rfl
      · unfold f_Hat_broken_L4
        simp (disch := omega) only [fl, fmN, mm_lt, Nat.reduceAdd, Option.bind_some, lt_t, lt_f, le_t, le_f, eq_f, eq_self, nI_add, nI_mul, nI_sub, ↓reduceIte, hm, hd_fw HZ_74 hH (rl_I (rs hR)) hv (by omega : i < 8)]
        rw [lp_foK (brk (σ.1 171) i) (i + 1) (sm (σ.1 171)) (by omega) (fun j y h1 h2 => ?_) (fun y => ?_)]
        · rfl
        · unfold f_Hat_broken_L45 brk
          simp (disch := omega) only [fl, fmN, mm_lt, Nat.reduceAdd, Option.bind_some, lt_t, lt_f, le_t, le_f, eq_f, eq_self, nI_add, nI_mul, nI_sub, ↓reduceIte, hm, sh_bit, fw_in hv h2, hd_sits HZ_74 hH]
          by_cases h3 : foe (σ.1 171) i j = true
          · rw [if_pos h3]
            by_cases h4 : σ.1 171 (115 + i) = σ.1 171 (115 + j)
            · rw [if_pos h4, if_pos ⟨h3, h4⟩]
            · rw [if_neg h4, if_neg (fun q => h4 q.2)]
          · rw [if_neg h3, if_neg (fun q => h3 q.1)]
        · unfold f_Hat_broken_L45
          simp (disch := omega) only [fl, fmN, mm_lt, Nat.reduceAdd, Option.bind_some, lt_t, lt_f, le_t, le_f, eq_f, eq_self, nI_add, nI_mul, nI_sub, ↓reduceIte, hm]
      · unfold f_Hat_broken_L4
        simp (disch := omega) only [fl, fmN, mm_lt, Nat.reduceAdd, Option.bind_some, lt_t, lt_f, le_t, le_f, eq_f, eq_self, nI_add, nI_mul, nI_sub, ↓reduceIte, hm]
    · simp only [fl, mm_lt]
      rw [lp_fo0 (fun a n => fo (fun j => brk (σ.1 171) a (a + 1 + j)) (sm (σ.1 171) - (a + 1)) n) (sm (σ.1 171)) (fun i x hi => ?_) (fun x => ?_)]
      · rfl
      · unfold f_Mod_broken_L9
        simp (disch := omega) only [fl, fmN, mm_lt, Nat.reduceAdd, Option.bind_some, lt_t, lt_f, le_t, le_f, eq_f, eq_self, nI_add, nI_mul, nI_sub, ↓reduceIte, zq_171, ld_nI, hs, iv_m hv]
        rw [lp_foK (brk (σ.1 171) i) (i + 1) (sm (σ.1 171)) (by omega) (fun j y h1 h2 => ?_) (fun y => ?_)]
        · rfl
        · unfold f_Mod_broken_L23 brk
          simp (disch := omega) only [fl, fmN, mm_lt, Nat.reduceAdd, Option.bind_some, lt_t, lt_f, le_t, le_f, eq_f, eq_self, nI_add, nI_mul, nI_sub, ↓reduceIte, zq_171, ld_nI, hs, iv_m hv, md_foes hs hv (by omega : i < 8) (by omega : j < 8), bI_0]
          rw [show y + nI 0 = y from Int32.add_zero y]
          by_cases h4 : σ.1 171 (115 + i) = σ.1 171 (115 + j)
          · rw [if_pos h4]
            cases h3 : foe (σ.1 171) i j
            · rw [if_pos rfl, if_neg (fun q => by cases q.1)]
            · rw [if_neg (by decide), if_pos ⟨rfl, h4⟩]
          · rw [if_neg h4, if_neg (fun q => h4 q.2)]
        · unfold f_Mod_broken_L23
          simp (disch := omega) only [fl, fmN, mm_lt, Nat.reduceAdd, Option.bind_some, lt_t, lt_f, le_t, le_f, eq_f, eq_self, nI_add, nI_mul, nI_sub, ↓reduceIte, zq_171, ld_nI, hs, iv_m hv]
      · unfold f_Mod_broken_L9
        simp (disch := omega) only [fl, fmN, mm_lt, Nat.reduceAdd, Option.bind_some, lt_t, lt_f, le_t, le_f, eq_f, eq_self, nI_add, nI_mul, nI_sub, ↓reduceIte, zq_171, ld_nI, hs, iv_m hv]
  obtain ⟨r, h1, h2⟩ := key
  exact ⟨r, _, h1, h2, RL_kp hR (kp_s169 (by decide))⟩
end OPS3
