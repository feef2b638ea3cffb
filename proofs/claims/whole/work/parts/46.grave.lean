/-! grave -/
section GRAVE
variable {σ m u : Mm} {S : Nat → Int32}
theorem bt_fo_and {p : Nat → Bool} {b : Int32} : ∀ {n : Nat}, n ≤ 32 → ∀ i, i < 32 → bt (fo (fun k b => if p k = true then b else b &&& ((nI 1 <<< (nI k &&& nI 31)) ^^^ mN)) n b) i = (bt b i && (decide (n ≤ i) || p i)) := by
  intro n
  induction n with
  | zero => intro _ i _; show bt b i = _; simp
  | succ n ih =>
    intro hn i hi
    have := ih (by omega) i hi
    show bt (if p n = true then fo _ n b else fo _ n b &&& ((nI 1 <<< (nI n &&& nI 31)) ^^^ mN)) i = _
    by_cases hp : p n = true
    · rw [if_pos hp, this]
      congr 1
      by_cases h1 : i = n
      · subst h1; rw [hp, Bool.or_true, Bool.or_true]
      · congr 1
        exact decide_eq_decide.mpr (by omega)
    · rw [if_neg hp, b_clr (by omega) hi, this]
      by_cases h1 : i = n
      · subst h1; rw [decide_eq_true rfl, Bool.not_true, Bool.and_false, Bool.eq_false_iff.mpr hp, decide_eq_false (by omega), Bool.or_false, Bool.and_false]
      · rw [decide_eq_false h1, Bool.not_false, Bool.and_true]
        congr 2
        exact decide_eq_decide.mpr (by omega)
theorem ha_one (hv : Inv S) {j k t : Nat} (hjk : j ≠ k) (hj : j < 8) (hk : k < 8) (ht : t ≤ sp S) (e : ha S j t = ha S k t) : ha S k t = mN := by
  unfold ha at e ⊢
  by_cases h : t = sp S
  · rw [if_pos h] at e ⊢; rw [if_pos h] at e; exact iv_one' hv hjk hj hk e
  · rw [if_neg h] at e ⊢; rw [if_neg h] at e
    rcases Nat.lt_or_ge j k with q | q
    · exact (iv_kept hv t (by omega)).2 j k q hk e
    · exact e ▸ (iv_kept hv t (by omega)).2 k j (by omega) hj e.symm
def grM (S : Nat → Int32) (x t : Nat) (b : Int32) : Int32 := fo (fun k b => if kpr S x t k = true then b else b &&& ((nI 1 <<< (nI k &&& nI 31)) ^^^ mN)) (sm S) b
def grH (S : Nat → Int32) (x t : Nat) (b : Int32) : Int32 := if fd (kpr S x t) (sm S) = mN then b &&& nI 0 else b &&& (nI 1 <<< (fd (kpr S x t) (sm S) &&& nI 31))
def lowb (S : Nat → Int32) (b : Int32) : Prop := ∀ i, i < 32 → sm S ≤ i → bt b i = false
theorem gr_low (hv : Inv S) {x t : Nat} {b : Int32} (hb : lowb S b) : lowb S (grM S x t b) := fun i hi h => by
  have := iv_m8 hv
  unfold grM
  rw [bt_fo_and (by omega) i hi, hb i hi h, Bool.false_and]
theorem gr_eq (hv : Inv S) {x t : Nat} {b : Int32} (hb : lowb S b) (ht : t ≤ sp S) (hx : x < sn S) : grH S x t b = grM S x t b := by
  have m8 := iv_m8 hv
  have n10 := iv_n10 hv
  apply b_ext
  intro i hi
  unfold grM
  rw [bt_fo_and (by omega) i hi]
  unfold grH
  rcases fd_cases (kpr S x t) (sm S) with ⟨k, hk, h1, h2, e⟩ | ⟨h1, e⟩
  · rw [e, if_neg (hq_ne (n := k) (by omega)), b_and, b_one (by omega) hi]
    by_cases hm : i < sm S
    · congr 1
      rw [decide_eq_false (by omega : ¬ sm S ≤ i), Bool.false_or]
      by_cases h9 : i = k
      · subst h9; rw [decide_eq_true rfl, h1]
      · rw [decide_eq_false h9]
        symm
        apply decide_eq_false
        intro e2
        have e1 := dec_t h1
        have := ha_one hv h9 (by omega) (by omega) ht (e2.trans e1.symm)
        rw [e1, mN_ne x (by omega)] at this
        exact this
    · rw [hb i hi (by omega), Bool.false_and, Bool.false_and]
  · rw [e, if_pos rfl, b_and, b_nI0, Bool.and_false]
    by_cases hm : i < sm S
    · rw [h1 i hm, decide_eq_false (by omega : ¬ sm S ≤ i)]; rw [Bool.or_false, Bool.and_false]
    · rw [hb i hi (by omega), Bool.false_and]
theorem and255 (v : Int32) : ∃ k, k < 256 ∧ v &&& 255 = nI k := pk_andE v (m := 255) 8 (by decide)
/-- the bytes of the tape -/
def tb (σ : Mm) (i : Nat) : Nat := (σ.1 170 i &&& 255).toNatClampNeg
theorem tb_eq (i : Nat) : σ.1 170 i &&& 255 = nI (tb σ i) ∧ tb σ i < 256 := by
  obtain ⟨k, hk, e⟩ := and255 (σ.1 170 i)
  unfold tb
  rw [e, nI_clamp (by omega)]
  exact ⟨rfl, hk⟩
theorem md_octet {i : Nat} (h : i < 940) : f_Mod_octet z_Law u 169 (nI i) = some (nI (tb u i)) := by
  unfold f_Mod_octet
  simp (disch := omega) only [Nat.reduceAdd, zq_170, ld_nI, Option.bind_some, tb_eq]
/-- a pair of the tape that tells a SPRING and a SURNAME -/
def gd2 (σ : Mm) (S : Nat → Int32) (j : Nat) : Bool := decide (tb σ (2 * j) ≤ sp S) && decide (tb σ (2 * j + 1) < sn S)
def grF (σ : Mm) (S : Nat → Int32) (j : Nat) (b : Int32) : Int32 := grM S (tb σ (2 * j + 1)) (tb σ (2 * j)) b
theorem gF_low (hv : Inv S) {b : Int32} (hb : lowb S b) (n : Nat) : lowb S (fo (grF σ S) n b) := fo_inv (fun _ b => lowb S b) hb (fun _ _ _ h => gr_low hv h)
theorem hat_gr (hR : RS σ) {P : Nat} {b : Int32} (hP : P ≤ 20) (ht : ∀ i, i < 2 * P → σ.1 4 i = nI (tb σ i)) (hb : lowb (σ.1 171) b) : mm_lp (f_Hat_grave_L40 z_Law σ 0 (nI (2 * P))) (b, nI 0) = some (if fa_first (fun j => !gd2 σ (σ.1 171) j) P < P then .inl (mN, σ) else .inr (fo (grF σ (σ.1 171)) P b)) := by
  have hv := rl_v hR
  have n10 := iv_n10 hv
  have h24 := iv_sp24 hv
  have hle := fa_first_le (fun j => !gd2 σ (σ.1 171) j) P
  have step : ∀ j, j < P → gd2 σ (σ.1 171) j = true → f_Hat_grave_L40 z_Law σ 0 (nI (2 * P)) (fo (grF σ (σ.1 171)) j b, nI (2 * j)) = some (.inl (fo (grF σ (σ.1 171)) (j + 1) b, nI (2 * (j + 1)))) := by
    intro j hj hg
    unfold gd2 at hg
    rw [Bool.and_eq_true] at hg
    have g1 := dec_t hg.1
    have g2 := dec_t hg.2
    unfold f_Hat_grave_L40
    simp (disch := omega) only [fl, fmN, mm_lt, Nat.reduceAdd, Option.bind_some, lt_t, lt_f, le_t, le_f, eq_f, eq_self, nI_add, nI_mul, nI_sub, ↓reduceIte, Nat.zero_add, row_atE (p := 4) rfl zq_4, ht, rl_sp hR, nm_has (rl_n hR) g2, st_keeper hR g2 g1]
    have := gr_eq hv (gF_low (σ := σ) hv hb j) g1 g2
    rw [show fo (grF σ (σ.1 171)) (j + 1) b = grM (σ.1 171) (tb σ (2 * j + 1)) (tb σ (2 * j)) (fo (grF σ (σ.1 171)) j b) from rfl, ← this]
    unfold grH
    rw [show 2 * (j + 1) = 2 * j + 2 by omega]
    split <;> rfl
  by_cases hf : fa_first (fun j => !gd2 σ (σ.1 171) j) P < P
  · rw [if_pos hf]
    obtain ⟨j, ej⟩ : ∃ j, fa_first (fun j => !gd2 σ (σ.1 171) j) P = j := ⟨_, rfl⟩
    have hno := fa_first_no (fun j => !gd2 σ (σ.1 171) j) P
    have hyes := fa_first_yes (fun j => !gd2 σ (σ.1 171) j) P hf
    rw [ej] at hf hno hyes
    refine lp_go (fun i => (fo (grF σ (σ.1 171)) i b, nI (2 * i))) j rfl (fun i hi => step i (by omega) (by have := hno i hi; simpa using this)) ?_
    have hg : gd2 σ (σ.1 171) j = false := by simpa using hyes
    unfold gd2 at hg
    have b1 := (tb_eq (σ := σ) (2 * j)).2
    have b2 := (tb_eq (σ := σ) (2 * j + 1)).2
    unfold f_Hat_grave_L40
    simp (disch := omega) only [fl, fmN, mm_lt, Nat.reduceAdd, Option.bind_some, lt_t, lt_f, le_t, le_f, eq_f, eq_self, nI_add, nI_mul, nI_sub, ↓reduceIte, Nat.zero_add, row_atE (p := 4) rfl zq_4, ht, rl_sp hR]
    by_cases g1 : tb σ (2 * j) ≤ sp (σ.1 171)
    · rw [decide_eq_true g1, Bool.true_and] at hg
      have g2 := dec_f hg
      simp (disch := omega) only [fl, fmN, mm_lt, Nat.reduceAdd, Option.bind_some, lt_t, lt_f, le_t, le_f, eq_f, eq_self, nI_add, nI_mul, nI_sub, ↓reduceIte, nm_hasnt (rl_n hR) (Or.inr (nI_le (by omega : sn (σ.1 171) ≤ tb σ (2 * j + 1)) (by omega)))]
    · simp (disch := omega) only [fl, fmN, mm_lt, Nat.reduceAdd, Option.bind_some, lt_t, lt_f, le_t, le_f, eq_f, eq_self, nI_add, nI_mul, nI_sub, ↓reduceIte]
  · rw [if_neg hf]
    have hno := fa_first_no (fun j => !gd2 σ (σ.1 171) j) P
    refine lp_go (fun i => (fo (grF σ (σ.1 171)) i b, nI (2 * i))) P rfl (fun i hi => step i hi (by have := hno i (by omega); simpa using this)) ?_
    unfold f_Hat_grave_L40
    simp (disch := omega) only [fl, fmN, mm_lt, Nat.reduceAdd, Option.bind_some, lt_t, lt_f, le_t, le_f, eq_f, eq_self, nI_add, nI_mul, nI_sub, ↓reduceIte]
theorem md_grI (hv : Inv S) (hs : u.1 171 = S) {j : Nat} {b : Int32} (hj : 2 * j + 1 < 940) (h1 : tb u (2 * j) ≤ sp S) (h2 : tb u (2 * j + 1) < sn S) : mm_lp (f_Mod_grave_L95 z_Law u 169 (nI 1) (nI (2 * j))) (b, nI 0) = some (grF u S j b) := by
  have m8 := iv_m8 hv
  refine lp_fo0 (fun k b => if kpr S (tb u (2 * j + 1)) (tb u (2 * j)) k = true then b else b &&& ((nI 1 <<< (nI k &&& nI 31)) ^^^ mN)) (sm S) (fun k x hk => ?_) (fun x => ?_)
  · unfold f_Mod_grave_L95
    simp (disch := omega) only [fl, fmN, mm_lt, Nat.reduceAdd, Option.bind_some, lt_t, lt_f, le_t, le_f, eq_f, eq_self, nI_add, nI_mul, nI_sub, ↓reduceIte, zq_171, ld_nI, hs, iv_m hv, md_octet, md_ha hv hs (by omega : k < 8) h1]
    unfold kpr
    by_cases h : ha S k (tb u (2 * j)) = nI (tb u (2 * j + 1))
    · rw [if_pos h, if_pos (decide_eq_true h)]
    · rw [if_neg h, if_neg (fun q => h (dec_t q))]
  · unfold f_Mod_grave_L95
    simp (disch := omega) only [fl, fmN, mm_lt, Nat.reduceAdd, Option.bind_some, lt_t, lt_f, le_t, le_f, eq_f, eq_self, nI_add, nI_mul, nI_sub, ↓reduceIte, zq_171, ld_nI, hs, iv_m hv]
theorem md_grI0 (hv : Inv S) (hs : u.1 171 = S) {c : Int32} {b : Int32} : mm_lp (f_Mod_grave_L95 z_Law u 169 (nI 0) c) (b, nI 0) = some b := by
  have m8 := iv_m8 hv
  refine mm_lp_done ?_
  unfold f_Mod_grave_L95
  by_cases h : sm S = 0
  · simp (disch := omega) only [fl, fmN, mm_lt, Nat.reduceAdd, Option.bind_some, lt_t, lt_f, le_t, le_f, eq_f, eq_self, nI_add, nI_mul, nI_sub, ↓reduceIte, zq_171, ld_nI, hs, iv_m hv]
  · simp (disch := omega) only [fl, fmN, mm_lt, Nat.reduceAdd, Option.bind_some, lt_t, lt_f, le_t, le_f, eq_f, eq_self, nI_add, nI_mul, nI_sub, ↓reduceIte, zq_171, ld_nI, hs, iv_m hv]
theorem md_gr (hv : Inv S) (hs : u.1 171 = S) {P : Nat} {b : Int32} (hP : P ≤ 20) (hl : u.1 169 3 = nI (2 * P)) : ∃ c, mm_lp (f_Mod_grave_L48 z_Law u 169) (b, nI 1, nI 0) = some (c, if fa_first (fun j => !gd2 u S j) P < P then nI 0 else nI 1) ∧ (¬ fa_first (fun j => !gd2 u S j) P < P → c = fo (grF u S) P b) := by
  have n10 := iv_n10 hv
  have h24 := iv_sp24 hv
  have hle := fa_first_le (fun j => !gd2 u S j) P
  have hno := fa_first_no (fun j => !gd2 u S j) P
  have step : ∀ j, j < P → gd2 u S j = true → f_Mod_grave_L48 z_Law u 169 (fo (grF u S) j b, nI 1, nI (2 * j)) = some (.inl (fo (grF u S) (j + 1) b, nI 1, nI (2 * (j + 1)))) := by
    intro j hj hg
    unfold gd2 at hg
    rw [Bool.and_eq_true] at hg
    have g1 := dec_t hg.1
    have g2 := dec_t hg.2
    unfold f_Mod_grave_L48 f_Mod_grave_J91
    simp (disch := omega) only [fl, fmN, mm_lt, Nat.reduceAdd, Option.bind_some, lt_t, lt_f, le_t, le_f, eq_f, eq_self, nI_add, nI_mul, nI_sub, ↓reduceIte, hl, md_octet, md_isT hv hs g1, md_isS hv hs g2, md_grI hv hs (by omega) g1 g2]
    rfl
  by_cases hf : fa_first (fun j => !gd2 u S j) P < P
  · rw [if_pos hf]
    obtain ⟨j, ej⟩ : ∃ j, fa_first (fun j => !gd2 u S j) P = j := ⟨_, rfl⟩
    have hyes := fa_first_yes (fun j => !gd2 u S j) P hf
    rw [ej] at hf hno hyes hle
    refine ⟨fo (grF u S) j b, ?_, fun q => absurd (ej ▸ hf) q⟩
    have e1 := lp_run (body := f_Mod_grave_L48 z_Law u 169) (fun i => (fo (grF u S) i b, nI 1, nI (2 * i))) j (fun i hi => step i (by omega) (by have := hno i hi; simpa using this))
    have e2 : f_Mod_grave_L48 z_Law u 169 (fo (grF u S) j b, nI 1, nI (2 * j)) = some (.inl (fo (grF u S) j b, nI 0, nI (2 * (j + 1)))) := by
      have hg : gd2 u S j = false := by simpa using hyes
      unfold gd2 at hg
      have b1 := (tb_eq (σ := u) (2 * j)).2
      have b2 := (tb_eq (σ := u) (2 * j + 1)).2
      unfold f_Mod_grave_L48 f_Mod_grave_J91
      simp (disch := omega) only [fl, fmN, mm_lt, Nat.reduceAdd, Option.bind_some, lt_t, lt_f, le_t, le_f, eq_f, eq_self, nI_add, nI_mul, nI_sub, ↓reduceIte, hl, md_octet]
      by_cases g1 : tb u (2 * j) ≤ sp S
      · rw [decide_eq_true g1, Bool.true_and] at hg
        have g2 := dec_f hg
        simp (disch := omega) only [fl, fmN, mm_lt, Nat.reduceAdd, Option.bind_some, lt_t, lt_f, le_t, le_f, eq_f, eq_self, nI_add, nI_mul, nI_sub, ↓reduceIte, md_isT hv hs g1, md_isntS hv hs (Or.inr (nI_le (by omega : sn S ≤ tb u (2 * j + 1)) (by omega))), md_grI0 hv hs]
        rfl
      · simp (disch := omega) only [fl, fmN, mm_lt, Nat.reduceAdd, Option.bind_some, lt_t, lt_f, le_t, le_f, eq_f, eq_self, nI_add, nI_mul, nI_sub, ↓reduceIte, md_isntT hv hs (Or.inr (nI_le (by omega : sp S + 1 ≤ tb u (2 * j)) (by omega))), md_grI0 hv hs]
        rfl
    have e3 := lp_go (body := f_Mod_grave_L48 z_Law u 169) (fun i => (fo (grF u S) j b, nI 0, nI (2 * (j + 1 + i)))) (P - (j + 1)) (s := (fo (grF u S) j b, nI 0, nI (2 * (j + 1)))) (r := (fo (grF u S) j b, nI 0)) rfl (fun i hi => ?_) ?_
    · exact e1.trans ((mm_lp_step e2).trans e3)
    · unfold f_Mod_grave_L48 f_Mod_grave_J91
      simp (disch := omega) only [fl, fmN, mm_lt, Nat.reduceAdd, Option.bind_some, lt_t, lt_f, le_t, le_f, eq_f, eq_self, nI_add, nI_mul, nI_sub, ↓reduceIte, hl, md_grI0 hv hs]
      rfl
    · unfold f_Mod_grave_L48
      simp (disch := omega) only [fl, fmN, mm_lt, Nat.reduceAdd, Option.bind_some, lt_t, lt_f, le_t, le_f, eq_f, eq_self, nI_add, nI_mul, nI_sub, ↓reduceIte, hl]
  · rw [if_neg hf]
    refine ⟨fo (grF u S) P b, ?_, fun _ => rfl⟩
    refine lp_go (fun i => (fo (grF u S) i b, nI 1, nI (2 * i))) P rfl (fun i hi => step i hi (by have := hno i (by omega); simpa using this)) ?_
    unfold f_Mod_grave_L48
    simp (disch := omega) only [fl, fmN, mm_lt, Nat.reduceAdd, Option.bind_some, lt_t, lt_f, le_t, le_f, eq_f, eq_self, nI_add, nI_mul, nI_sub, ↓reduceIte, hl]
def tkM (m : Mm) (len mo : Nat) : Mm := kI (kI (kI (kI m 169 3 (nI len)) 169 2 (nI 0)) 169 4 (nI 0)) 169 5 (nI mo)
theorem md_taken {len mo : Nat} (h : m.1 169 2 = nI len) : f_Mod_taken z_Law m 169 (nI mo) = some (tkM m len mo) := by
  unfold f_Mod_taken tkM
  simp only [fl, mm_lt, h]
theorem kp_tk {A : Nat → Bool} {len mo : Nat} (hA : A 2002 = true) : kp A m (tkM m len mo) := kp_tr (kp_s169 (Or.inl (by decide))) (kp_tr (kp_s169 (Or.inr hA)) (kp_tr (kp_s169 (Or.inl (by decide))) (kp_s169 (Or.inl (by decide)))))
theorem op_grave (hR : RL σ) : ∃ r m1 m2, f_Hat_grave z_Law σ 0 = some (r, m1) ∧ f_Mod_grave z_Law m1 169 = some (r, m2) ∧ RL m2 := by
  obtain ⟨len, hl, t1, t2, t3⟩ := hR.1
  have hv := rl_v (rs hR)
  have m8 := iv_m8 hv
  have k7 : kp AT σ (kI σ 0 1 (nI 0)) := kp_s0 (Or.inr rfl)
  have hR7 : RS (kI σ 0 1 (nI 0)) := RS_kp (rs hR) k7 ⟨rfl, rfl, fun q a b => by simp [AT]; omega⟩
  have u2 : (kI (kI σ 0 1 (nI 0)) 169 0 (nI 0)).1 169 2 = nI len := t2
  have hT := md_taken (mo := 940) u2
  have fin : RL (tkM (kI (kI σ 0 1 (nI 0)) 169 0 (nI 0)) len 940) := RL_T hR (kp_tr k7 (kp_tr (kp_s169 (by decide)) (kp_tk rfl))) ⟨0, by omega, rfl, rfl, fun i hi => absurd hi (by omega)⟩
  have hrem : mm_irem (nI len) (nI 2) = some (nI (len % 2)) := by
    unfold mm_irem
    rw [if_neg (by decide), pk_rem (by omega) (by decide) (by decide)]
  have l3 : (tkM (kI (kI σ 0 1 (nI 0)) 169 0 (nI 0)) len 940).1 169 3 = nI len := rfl
  have s3 : (tkM (kI (kI σ 0 1 (nI 0)) 169 0 (nI 0)) len 940).1 171 = σ.1 171 := rfl
  have n7 : (kI σ 0 1 (nI 0)).1 64 1 = nI (sm (σ.1 171)) := rl_m hR7
  by_cases h2 : len % 2 = 0
  · by_cases h40 : len ≤ 40
    · obtain ⟨P, rfl⟩ : ∃ P, len = 2 * P := ⟨len / 2, by omega⟩
      have hb : lowb (σ.1 171) (nI 1 <<< (nI (sm (σ.1 171)) &&& nI 31) - nI 1) := fun i hi h => by rw [b_low _ (by omega) i hi, decide_eq_false (by omega)]
      have e1 := hat_gr (P := P) (b := nI 1 <<< (nI (sm (σ.1 171)) &&& nI 31) - nI 1) hR7 (by omega) (fun i hi => (t3 i hi).trans (tb_eq (σ := kI σ 0 1 (nI 0)) i).1) hb
      obtain ⟨c, e2, e3⟩ := md_gr (u := tkM (kI (kI σ 0 1 (nI 0)) 169 0 (nI 0)) (2 * P) 940) (P := P) (b := nI 1 <<< (nI (sm (σ.1 171)) &&& nI 31) - nI 1) hv s3 (by omega) l3
      have eg : gd2 (kI σ 0 1 (nI 0)) ((kI σ 0 1 (nI 0)).1 171) = gd2 (tkM (kI (kI σ 0 1 (nI 0)) 169 0 (nI 0)) (2 * P) 940) (σ.1 171) := rfl
      have ef : grF (kI σ 0 1 (nI 0)) ((kI σ 0 1 (nI 0)).1 171) = grF (tkM (kI (kI σ 0 1 (nI 0)) 169 0 (nI 0)) (2 * P) 940) (σ.1 171) := rfl
      rw [eg, ef] at e1
      by_cases hf : fa_first (fun j => !gd2 (tkM (kI (kI σ 0 1 (nI 0)) 169 0 (nI 0)) (2 * P) 940) (σ.1 171) j) P < P
      · rw [if_pos hf] at e1 e2
        refine ⟨mN, kI σ 0 1 (nI 0), _, ?_, ?_, fin⟩
        · unfold f_Hat_grave f_Names_allBits
          simp (disch := omega) only [fl, fmN, mm_lt, Nat.reduceAdd, Option.bind_some, lt_t, lt_f, le_t, le_f, eq_f, eq_self, nI_add, nI_mul, nI_sub, ↓reduceIte, t1, hrem, h2, n7, e1]
          rfl
        · unfold f_Mod_grave
          simp (disch := omega) only [fl, fmN, mm_lt, Nat.reduceAdd, Option.bind_some, lt_t, lt_f, le_t, le_f, eq_f, eq_self, nI_add, nI_mul, nI_sub, ↓reduceIte, hT, l3, hrem, h2, zq_171, ld_nI, s3, iv_m hv, e2]
      · rw [if_neg hf] at e1 e2
        refine ⟨c, kI σ 0 1 (nI 0), _, ?_, ?_, fin⟩
        · unfold f_Hat_grave f_Names_allBits
          simp (disch := omega) only [fl, fmN, mm_lt, Nat.reduceAdd, Option.bind_some, lt_t, lt_f, le_t, le_f, eq_f, eq_self, nI_add, nI_mul, nI_sub, ↓reduceIte, t1, hrem, h2, n7, e1]
          rw [e3 hf]
          rfl
        · unfold f_Mod_grave
          simp (disch := omega) only [fl, fmN, mm_lt, Nat.reduceAdd, Option.bind_some, lt_t, lt_f, le_t, le_f, eq_f, eq_self, nI_add, nI_mul, nI_sub, ↓reduceIte, hT, l3, hrem, h2, zq_171, ld_nI, s3, iv_m hv, e2]
    · refine ⟨mN, kI σ 0 1 (nI 0), _, ?_, ?_, fin⟩
      · unfold f_Hat_grave
        simp (disch := omega) only [fl, fmN, mm_lt, Nat.reduceAdd, Option.bind_some, lt_t, lt_f, le_t, le_f, eq_f, eq_self, nI_add, nI_mul, nI_sub, ↓reduceIte, t1, hrem, h2]
      · unfold f_Mod_grave
        simp (disch := omega) only [fl, fmN, mm_lt, Nat.reduceAdd, Option.bind_some, lt_t, lt_f, le_t, le_f, eq_f, eq_self, nI_add, nI_mul, nI_sub, ↓reduceIte, hT, l3, hrem, h2]
  · have h1 : len % 2 = 1 := by omega
    refine ⟨mN, kI σ 0 1 (nI 0), _, ?_, ?_, fin⟩
    · unfold f_Hat_grave
      simp (disch := omega) only [fl, fmN, mm_lt, Nat.reduceAdd, Option.bind_some, lt_t, lt_f, le_t, le_f, eq_f, eq_self, nI_add, nI_mul, nI_sub, ↓reduceIte, t1, hrem, h1]
    · unfold f_Mod_grave
      simp (disch := omega) only [fl, fmN, mm_lt, Nat.reduceAdd, Option.bind_some, lt_t, lt_f, le_t, le_f, eq_f, eq_self, nI_add, nI_mul, nI_sub, ↓reduceIte, hT, l3, hrem, h1]
end GRAVE
