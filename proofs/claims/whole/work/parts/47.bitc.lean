/-! how many bits; the one with a number among them -/
section BC
variable {z : Nat → Nat} {σ : Mm}
def bcI (p : Int32) : Int32 := (fun x9 : Int32 => (fun x23 : Int32 => (fun x33 : Int32 => (fun x40 : Int32 => (fun x47 : Int32 => x47 &&& (63 : Int32)) (x40 + ((Int32.toUInt32 x40 >>> (Int32.toUInt32 (16 : Int32) &&& Int32.toUInt32 31)).toInt32))) (x33 + ((Int32.toUInt32 x33 >>> (Int32.toUInt32 (8 : Int32) &&& Int32.toUInt32 31)).toInt32))) ((x23 + ((Int32.toUInt32 x23 >>> (Int32.toUInt32 (4 : Int32) &&& Int32.toUInt32 31)).toInt32)) &&& (252645135 : Int32))) ((x9 &&& (858993459 : Int32)) + (((Int32.toUInt32 x9 >>> (Int32.toUInt32 (2 : Int32) &&& Int32.toUInt32 31)).toInt32) &&& (858993459 : Int32)))) (p - (((Int32.toUInt32 p >>> (Int32.toUInt32 (1 : Int32) &&& Int32.toUInt32 31)).toInt32) &&& (1431655765 : Int32)))
def pc (n : Nat) : Nat := fb_ct (fun i => n.testBit i) 10
theorem bc_all : ∀ n, n < 1024 → bcI (nI n) = nI (pc n) := by decide +kernel
theorem bc_eq (v : Int32) : f_Int_bitCount z σ v = some (bcI v) := rfl
theorem pc_down : ∀ n, n < 1024 → n ≠ 0 → nI n &&& (nI n - nI 1) = nI (n &&& (n - 1)) ∧ n &&& (n - 1) < n ∧ pc n = pc (n &&& (n - 1)) + 1 := by decide +kernel
theorem b_nI {n i : Nat} (hi : i < 32) : bt (nI n) i = n.testBit i := by
  show (BitVec.ofNat 32 n).getLsbD i = _
  rw [BitVec.getLsbD_ofNat, decide_eq_true hi, Bool.true_and]
/-- bits below 10 alone -/
def sma (v : Int32) : Prop := ∀ i, i < 32 → 10 ≤ i → bt v i = false
theorem sma_of {v : Int32} (h : sma v) : ∃ n, n < 1024 ∧ v = nI n := by
  obtain ⟨j, hj, e⟩ := pk_andE v (m := 1023) 10 (by decide)
  refine ⟨j, hj, ?_⟩
  rw [← e]
  apply b_ext
  intro i hi
  rw [b_and, b_1023 i hi]
  by_cases h9 : i < 10
  · rw [decide_eq_true h9, Bool.and_true]
  · rw [decide_eq_false h9, Bool.and_false]; exact h i hi (by omega)
def pcI (v : Int32) : Nat := fb_ct (bt v) 10
theorem pcI_nI {n : Nat} : pcI (nI n) = pc n := fb_ct_cong (fun k hk => b_nI (by omega))
theorem hat_bc {v : Int32} (h : sma v) : f_Int_bitCount z σ v = some (nI (pcI v)) := by
  obtain ⟨n, hn, rfl⟩ := sma_of h
  rw [bc_eq, bc_all n hn, pcI_nI]
theorem md_bc {v : Int32} (h : sma v) : f_Mod_bits z σ v = some (nI (pcI v)) := by
  obtain ⟨n, hn, rfl⟩ := sma_of h
  have key : ∀ n, n < 1024 → ∀ c, mm_lp (f_Mod_bits_L4 z σ) (nI c, nI n) = some (nI (c + pc n)) := by
    intro n
    induction n using Nat.strongRecOn with
    | ind n ih =>
      intro hn c
      by_cases h0 : n = 0
      · subst h0
        refine mm_lp_done ?_
        unfold f_Mod_bits_L4
        simp only [fl, eq_self, ↓reduceIte]
        rfl
      · obtain ⟨h1, h2, h3⟩ := pc_down n hn h0
        rw [nI_sub (by omega)] at h1
        rw [mm_lp_step (s' := (nI (c + 1), nI (n &&& (n - 1))))]
        · rw [ih _ h2 (by omega), h3, Nat.add_assoc, Nat.add_comm 1]
        · unfold f_Mod_bits_L4
          simp (disch := omega) only [fl, fmN, mm_lt, Nat.reduceAdd, Option.bind_some, lt_t, lt_f, le_t, le_f, eq_f, eq_self, nI_add, nI_mul, nI_sub, ↓reduceIte, h1]
  unfold f_Mod_bits
  simp only [fl]
  rw [key n hn 0, Nat.zero_add, pcI_nI]; rfl
theorem pcI_0 {v : Int32} (h : sma v) : pcI v = 0 ↔ v = nI 0 := by
  constructor
  · intro e
    rw [b_zero]
    intro i hi
    by_cases h9 : i < 10
    · exact fb_ct_zero.mp e i h9
    · exact h i hi (by omega)
  · intro e
    subst e
    exact fb_ct_zero.mpr (fun k hk => b_nI0 k)
theorem pcI_le (v : Int32) : pcI v ≤ 10 := fb_ct_le _ _
/-- the place of the bit with number r -/
def kth (v : Int32) (r : Nat) : Nat := fa_first (fun i => bt v i && decide (fb_ct (bt v) i = r)) 10
theorem kth_ok {v : Int32} {r : Nat} (h : r < pcI v) : kth v r < 10 ∧ bt v (kth v r) = true ∧ fb_ct (bt v) (kth v r) = r := by
  obtain ⟨i, h1, h2, h3⟩ := fb_ct_kth (p := bt v) (k := r) (n := 10) h
  have h4 : kth v r < 10 := by
    rcases Nat.lt_or_ge (kth v r) 10 with q | q
    · exact q
    · have := fa_first_no (fun i => bt v i && decide (fb_ct (bt v) i = r)) 10 i (by unfold kth at q; omega)
      rw [h2, decide_eq_true h3] at this
      cases this
  have h5 := fa_first_yes (fun i => bt v i && decide (fb_ct (bt v) i = r)) 10 h4
  have h6 := (Bool.and_eq_true _ _).mp h5
  exact ⟨h4, h6.1, dec_t h6.2⟩
theorem kth_lt {v : Int32} {r i : Nat} (h : r < pcI v) (hi : i < kth v r) (hb : bt v i = true) : fb_ct (bt v) i < r := by
  obtain ⟨-, -, h3⟩ := kth_ok h
  have h1 : fb_ct (bt v) (i + 1) ≤ fb_ct (bt v) (kth v r) := fb_ct_mono _ hi
  rw [fb_ct_succ, if_pos hb] at h1
  omega
theorem kth_le {v : Int32} {r i : Nat} (h : r < pcI v) (hi : i ≤ kth v r) : fb_ct (bt v) i ≤ r := by
  obtain ⟨-, -, h3⟩ := kth_ok h
  have := fb_ct_mono (bt v) hi
  omega
theorem sh_bit0 {v : Int32} {k : Nat} (hk : k < 32) : ((v >>> (nI k &&& nI 31)) &&& nI 1 = nI 0) = (bt v k = false) := by
  apply propext
  have e0 : bt (v >>> (nI k &&& nI 31)) 0 = bt v k := by
    have := b_sshr k hk v (i := 0) (by decide)
    rw [Nat.add_zero, if_pos hk] at this
    exact this
  constructor
  · intro h
    have h2 := congrArg (fun w => bt w 0) h
    simp only [b_and, e0] at h2
    rw [b_nI1 0 (by decide), b_nI0] at h2
    simpa using h2
  · intro h
    apply b_ext
    intro i hi
    rw [b_and, b_nI1 i hi, b_nI0]
    by_cases h0 : i = 0
    · subst h0; rw [e0, h]; rfl
    · rw [decide_eq_false h0, Bool.and_false]
theorem hat_kth {v : Int32} {r : Nat} (hv : sma v) (h : r < pcI v) : f_State_inHat z σ v (nI r) = some (nI (kth v r)) := by
  obtain ⟨h1, h2, h3⟩ := kth_ok h
  have h10 := pcI_le v
  have key : mm_lp (f_State_inHat_L4 z σ v) (nI r, nI 0) = some (.inl (nI (kth v r))) := by
    refine lp_go (fun i => (nI (r - fb_ct (bt v) i), nI i)) (kth v r) rfl (fun i hi => ?_) ?_
    · unfold f_State_inHat_L4
      simp (disch := omega) only [fl, fmN, mm_lt, Nat.reduceAdd, Option.bind_some, lt_t, lt_f, le_t, le_f, eq_f, eq_self, nI_add, nI_mul, nI_sub, ↓reduceIte, sh_bit0]
      cases hb : bt v i
      · rw [if_pos rfl, fb_ct_succ, hb]; rfl
      · have hl := kth_lt h hi hb
        simp (disch := omega) only [fl, fmN, mm_lt, Nat.reduceAdd, Option.bind_some, lt_t, lt_f, le_t, le_f, eq_f, eq_self, nI_add, nI_mul, nI_sub, ↓reduceIte, Bool.true_eq_false]
        have e9 : fb_ct (bt v) (i + 1) = fb_ct (bt v) i + 1 := by rw [fb_ct_succ, hb]; rfl
        rw [e9]
        have := pk_m1 (r - (fb_ct (bt v) i + 1))
        rw [show r - (fb_ct (bt v) i + 1) + 1 = r - fb_ct (bt v) i by omega] at this
        exact congrArg (fun w => some (Sum.inl (w, nI (i + 1)))) this
    · unfold f_State_inHat_L4
      simp (disch := omega) only [fl, fmN, mm_lt, Nat.reduceAdd, Option.bind_some, lt_t, lt_f, le_t, le_f, eq_f, eq_self, nI_add, nI_mul, nI_sub, ↓reduceIte, sh_bit0, h2, h3, Nat.sub_self, Bool.true_eq_false]
  unfold f_State_inHat
  simp only [fl]
  rw [key]; rfl
theorem md_kth {a : Int32} {v : Int32} {r : Nat} (hv : sma v) (h : r < pcI v) : mm_lp (f_Mod_spring_L141 z σ 169 v a) (nI r, nI 0) = some (nI (kth v r)) := by
  obtain ⟨h1, h2, h3⟩ := kth_ok h
  have h10 := pcI_le v
  refine lp_go (fun i => (nI (r - fb_ct (bt v) i), nI i)) (kth v r) rfl (fun i hi => ?_) ?_
  · unfold f_Mod_spring_L141 f_Mod_spring_J155
    simp (disch := omega) only [fl, fmN, mm_lt, Nat.reduceAdd, Option.bind_some, lt_t, lt_f, le_t, le_f, eq_f, eq_self, nI_add, nI_mul, nI_sub, ↓reduceIte, md_has, bI_0]
    cases hb : bt v i
    · rw [if_pos rfl, if_pos rfl, fb_ct_succ, hb]
      rfl
    · have hl := kth_lt h hi hb
      simp (disch := omega) only [fl, fmN, mm_lt, Nat.reduceAdd, Option.bind_some, lt_t, lt_f, le_t, le_f, eq_f, eq_self, nI_add, nI_mul, nI_sub, ↓reduceIte, Bool.true_eq_false]
      have e9 : fb_ct (bt v) (i + 1) = fb_ct (bt v) i + 1 := by rw [fb_ct_succ, hb]; rfl
      rw [e9, Nat.sub_sub]
  · unfold f_Mod_spring_L141
    simp (disch := omega) only [fl, fmN, mm_lt, Nat.reduceAdd, Option.bind_some, lt_t, lt_f, le_t, le_f, eq_f, eq_self, nI_add, nI_mul, nI_sub, ↓reduceIte, md_has, bI_0, h2, h3, Nat.sub_self, Bool.true_eq_false]
end BC
