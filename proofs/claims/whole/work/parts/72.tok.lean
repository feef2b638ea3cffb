/-! TOKENS, as both read them -/
section TOK
variable {σ m u : Mm} {t : Nat → Nat} {sz lim p q : Nat}
def isS (c : Nat) : Bool := decide (97 ≤ c) && decide (c ≤ 122)
def isD (c : Nat) : Bool := decide (48 ≤ c) && decide (c ≤ 57)
def alc (c : Nat) : Bool := isS c || isD c
def blk (c : Nat) : Bool := decide (c = 32) || decide (c = 10)
theorem blk_t {c : Nat} (h : blk c = true) : c = 32 ∨ c = 10 := by
  unfold blk at h; rw [Bool.or_eq_true, decide_eq_true_iff, decide_eq_true_iff] at h; exact h
theorem blk_f {c : Nat} (h : blk c = false) : ¬ c = 32 ∧ ¬ c = 10 := by
  unfold blk at h; rw [Bool.or_eq_false_iff, decide_eq_false_iff_not, decide_eq_false_iff_not] at h; exact h
theorem isS_t {c : Nat} : isS c = true ↔ 97 ≤ c ∧ c ≤ 122 := by unfold isS; rw [Bool.and_eq_true, decide_eq_true_iff, decide_eq_true_iff]
theorem isD_t {c : Nat} : isD c = true ↔ 48 ≤ c ∧ c ≤ 57 := by unfold isD; rw [Bool.and_eq_true, decide_eq_true_iff, decide_eq_true_iff]
theorem SD_no {c : Nat} (h : isS c = true) : isD c = false := by
  cases e : isD c
  · rfl
  · have h1 := isS_t.mp h
    have h2 := isD_t.mp e
    omega
/-- the first place from p on that isn't blank, e without -/
def skp (t : Nat → Nat) (e p : Nat) : Nat := p + fa_first (fun i => !blk (t (p + i))) (e - p)
def rln (t : Nat → Nat) (sz q : Nat) : Nat := fa_first (fun i => !alc (t (q + i))) (sz - q)
def rlt (t : Nat → Nat) (q n : Nat) : List Nat := (List.range n).map (fun i => t (q + i))
def nbd (t : Nat → Nat) (q : Nat) : Nat → Nat
  | 0 => 0
  | i + 1 => nbd t q i * 10 + (t (q + i) - 48)
def alS (t : Nat → Nat) (q n : Nat) : Prop := ∀ i, i < n → isS (t (q + i)) = true
def alD (t : Nat → Nat) (q n : Nat) : Prop := ∀ i, i < n → isD (t (q + i)) = true
theorem rlt_s (n : Nat) : rlt t q (n + 1) = rlt t q n ++ [t (q + n)] := by
  unfold rlt; rw [List.range_succ, List.map_append]; rfl
theorem rlt_ok {n : Nat} (h : alS t q n) (h7 : n ≤ 7) : okl (rlt t q n) := by
  refine ⟨fun c hc => ?_, by unfold rlt; rw [List.length_map, List.length_range]; exact h7⟩
  unfold rlt at hc
  obtain ⟨i, hi, e⟩ := List.mem_map.mp hc
  have := isS_t.mp (h i (List.mem_range.mp hi))
  omega
theorem skp_le (h : p ≤ q) : skp t q p ≤ q := by unfold skp; have := fa_first_le (fun i => !blk (t (p + i))) (q - p); omega
theorem skp_ge : p ≤ skp t q p := by unfold skp; omega
theorem skp_b {e i : Nat} (h1 : p ≤ i) (h2 : i < skp t e p) : blk (t i) = true := by
  unfold skp at h2
  have := fa_first_no (fun i => !blk (t (p + i))) (e - p) (i - p) (by omega)
  rw [show p + (i - p) = i by omega] at this
  simpa using this
theorem skp_n {e : Nat} (h : skp t e p < e) : blk (t (skp t e p)) = false := by
  unfold skp at h ⊢
  have := fa_first_yes (fun i => !blk (t (p + i))) (e - p) (by omega)
  simpa using this
theorem skp_at {e : Nat} (h1 : p ≤ q) (h2 : q < e) (h3 : blk (t q) = false) (h4 : ∀ i, p ≤ i → i < q → blk (t i) = true) : skp t e p = q := by
  unfold skp
  rw [first_at (k := q - p) (by omega) (by rw [show p + (q - p) = q by omega, h3]; rfl) (fun j hj => by rw [h4 _ (by omega) (by omega)]; rfl)]
  omega
theorem rln_le : rln t sz q ≤ sz - q := fa_first_le _ _
theorem rln_a {i : Nat} (h : i < rln t sz q) : alc (t (q + i)) = true := by
  have := fa_first_no (fun i => !alc (t (q + i))) (sz - q) i h
  simpa using this
theorem rln_n (h : rln t sz q < sz - q) : alc (t (q + rln t sz q)) = false := by
  have := fa_first_yes (fun i => !alc (t (q + i))) (sz - q) h
  show alc (t (q + fa_first (fun i => !alc (t (q + i))) (sz - q))) = false
  simpa using this
theorem rln_0 (hq : q < sz) : (rln t sz q = 0) = (alc (t q) = false) := by
  apply propext
  constructor
  · intro h
    have := rln_n (t := t) (sz := sz) (q := q) (by omega)
    rw [h, Nat.add_zero] at this
    exact this
  · intro h
    unfold rln
    exact first_at (by omega) (by rw [Nat.add_zero, h]; rfl) (fun j hj => absurd hj (by omega))
theorem nbd_99 {n : Nat} (h : alD t q n) (h2 : n ≤ 2) : nbd t q n < 100 := by
  match n, h2 with
  | 0, _ => exact Nat.zero_lt_succ _
  | 1, _ =>
    have h0 := isD_t.mp (h 0 (by omega))
    show 0 * 10 + (t (q + 0) - 48) < 100
    omega
  | 2, _ =>
    have h0 := isD_t.mp (h 0 (by omega))
    have h1 := isD_t.mp (h 1 (by omega))
    show (0 * 10 + (t (q + 0) - 48)) * 10 + (t (q + 1) - 48) < 100
    omega
/-- what a run of small letters and digits is -/
def kOf (t : Nat → Nat) (sz q κ : Nat) : Prop := (rln t sz q = 0 ∧ ((t q = 59 ∧ κ = 3) ∨ (t q ≠ 59 ∧ κ = 4))) ∨ (rln t sz q ≠ 0 ∧ ((alS t q (rln t sz q) ∧ rln t sz q ≤ 7 ∧ κ = 1) ∨ (alD t q (rln t sz q) ∧ rln t sz q ≤ 2 ∧ κ = 2) ∨ (κ = 4 ∧ ¬ (alS t q (rln t sz q) ∧ rln t sz q ≤ 7) ∧ ¬ (alD t q (rln t sz q) ∧ rln t sz q ≤ 2))))
def npO (t : Nat → Nat) (sz q : Nat) : Nat := if rln t sz q = 0 then q + 1 else q + rln t sz q
theorem kOf_ex : ∃ κ, kOf t sz q κ := by
  unfold kOf
  by_cases h : rln t sz q = 0
  · by_cases h2 : t q = 59
    · exact ⟨3, Or.inl ⟨h, Or.inl ⟨h2, rfl⟩⟩⟩
    · exact ⟨4, Or.inl ⟨h, Or.inr ⟨h2, rfl⟩⟩⟩
  · by_cases h2 : alS t q (rln t sz q) ∧ rln t sz q ≤ 7
    · exact ⟨1, Or.inr ⟨h, Or.inl ⟨h2.1, h2.2, rfl⟩⟩⟩
    · by_cases h3 : alD t q (rln t sz q) ∧ rln t sz q ≤ 2
      · exact ⟨2, Or.inr ⟨h, Or.inr (Or.inl ⟨h3.1, h3.2, rfl⟩)⟩⟩
      · exact ⟨4, Or.inr ⟨h, Or.inr (Or.inr ⟨rfl, h2, h3⟩)⟩⟩
def CT (m : Mm) (κ : Nat) (l : List Nat) (v a np : Nat) : Prop := m.1 2 4 = nI κ ∧ m.1 2 5 = nI a ∧ m.1 2 8 = (if κ = 1 then rwd l else mN) ∧ (κ = 1 → m.2 2 7 = lN (e128 l)) ∧ (κ = 2 → m.1 2 6 = nI v) ∧ (κ = 1 ∨ κ = 2 ∨ κ = 3 → m.1 2 3 = nI np)
def MT (u : Mm) (κ : Nat) (l : List Nat) (v a np : Nat) : Prop := u.1 169 11 = nI κ ∧ u.1 169 12 = nI a ∧ (κ = 1 → u.2 169 17 = lN (e256 l)) ∧ (κ = 2 → u.1 169 14 = nI v) ∧ (κ = 3 → u.1 169 14 = nI 59) ∧ (κ = 1 ∨ κ = 2 ∨ κ = 3 → u.1 169 4 = nI np)
def onC (m m' : Mm) : Prop := (∀ q, q ≠ 2 → m'.1 q = m.1 q ∧ m'.2 q = m.2 q) ∧ m'.1 2 1 = m.1 2 1 ∧ m'.1 2 2 = m.1 2 2
def onM (u u' : Mm) : Prop := (∀ q, q ≠ 169 → u'.1 q = u.1 q ∧ u'.2 q = u.2 q) ∧ ∀ k, k ≠ 4 → k ≠ 11 → k ≠ 12 → k ≠ 13 → k ≠ 14 → u'.1 169 k = u.1 169 k
/-- the class's tape -/
def ctp2 (t : Nat → Nat) (sz lim : Nat) (m : Mm) : Prop := m.1 2 1 = nI sz ∧ m.1 2 2 = nI lim ∧ ∀ i, i < sz → m.1 4 i = nI (t i)
def mtp2 (t : Nat → Nat) (sz lim : Nat) (u : Mm) : Prop := u.1 169 3 = nI sz ∧ u.1 169 5 = nI lim ∧ ∀ i, i < sz → u.1 170 i &&& 255 = nI (t i)
theorem hat_dig {c : Nat} (hc : c < 256) {z : Nat → Nat} : f_Tokens_isDigit z m (nI c) = some (bI (isD c)) := by
  unfold f_Tokens_isDigit isD
  simp only [fl]
  by_cases h1 : c < 48
  · simp (disch := omega) only [lt_t, ↓reduceIte, show decide (48 ≤ c) = false from decide_eq_false (by omega), Bool.false_and]; rfl
  · by_cases h2 : 57 < c
    · simp (disch := omega) only [lt_f, lt_t, ↓reduceIte, show decide (c ≤ 57) = false from decide_eq_false (by omega), Bool.and_false]; rfl
    · simp (disch := omega) only [lt_f, ↓reduceIte, show decide (48 ≤ c) = true from decide_eq_true (by omega), show decide (c ≤ 57) = true from decide_eq_true (by omega), Bool.and_true]; rfl
theorem hat_let {c : Nat} (hc : c < 256) {z : Nat → Nat} : f_Tokens_isLetter z m (nI c) = some (bI (isS c)) := by
  unfold f_Tokens_isLetter isS
  simp only [fl]
  by_cases h1 : c < 97
  · simp (disch := omega) only [lt_t, ↓reduceIte, show decide (97 ≤ c) = false from decide_eq_false (by omega), Bool.false_and]; rfl
  · by_cases h2 : 122 < c
    · simp (disch := omega) only [lt_f, lt_t, ↓reduceIte, show decide (c ≤ 122) = false from decide_eq_false (by omega), Bool.and_false]; rfl
    · simp (disch := omega) only [lt_f, ↓reduceIte, show decide (97 ≤ c) = true from decide_eq_true (by omega), show decide (c ≤ 122) = true from decide_eq_true (by omega), Bool.and_true]; rfl
theorem md_dig {c : Nat} (hc : c < 256) {z : Nat → Nat} : f_Mod_isDigit z m (nI c) = some (bI (isD c)) := hat_dig (m := m) hc (z := z)
theorem md_sma {c : Nat} (hc : c < 256) {z : Nat → Nat} : f_Mod_isSmall z m (nI c) = some (bI (isS c)) := hat_let (m := m) hc (z := z)
theorem md_digN {z : Nat → Nat} : f_Mod_isDigit z m mN = some (nI 0) := if_pos (by decide)
theorem md_smaN {z : Nat → Nat} : f_Mod_isSmall z m mN = some (nI 0) := if_pos (by decide)
theorem hat_skip (ht : ∀ i, i < sz → m.1 4 i = nI (t i)) (h256 : ∀ i, i < sz → t i < 256) (hsz : sz ≤ 940) {c : Nat} (hc : c ≤ sz) (h5 : m.1 2 5 = nI p) (hp : p ≤ sz) : ∃ s, mm_lp (f_Tokens_step_L20 z_Law 2 (nI c)) m = some s ∧ s.1 2 5 = nI (skp t c p) ∧ (∀ k, k ≠ 5 → s.1 2 k = m.1 2 k) ∧ (∀ q, q ≠ 2 → s.1 q = m.1 q) ∧ s.2 = m.2 := by
  have hle := fa_first_le (fun i => !blk (t (p + i))) (c - p)
  refine lp_ix (fun i s => s.1 2 5 = nI (p + i) ∧ (∀ k, k ≠ 5 → s.1 2 k = m.1 2 k) ∧ (∀ q, q ≠ 2 → s.1 q = m.1 q) ∧ s.2 = m.2) (fa_first (fun i => !blk (t (p + i))) (c - p)) (fun i s hi hI => ?_) (fun s hI => ?_) ⟨h5, fun _ _ => rfl, fun _ _ => rfl, rfl⟩
  · obtain ⟨h1, h2, h3, h4⟩ := hI
    have hb : blk (t (p + i)) = true := by simpa using fa_first_no (fun i => !blk (t (p + i))) (c - p) i hi
    have e4 : s.1 4 (p + i) = nI (t (p + i)) := by rw [h3 4 (by decide)]; exact ht _ (by omega)
    have h6 := h256 (p + i) (by omega)
    refine ⟨kI s 2 5 (nI (p + i + 1)), ?_, (by rw [kI_at, if_pos rfl]; rfl), fun k hk => by rw [kI_at, if_neg hk]; exact h2 k hk, fun q hq => by rw [kI_o _ _ _ _ hq]; exact h3 q hq, h4⟩
    unfold f_Tokens_step_L20
    simp (disch := omega) only [fl, fmN, mm_lt, Nat.reduceAdd, Option.bind_some, lt_t, lt_f, le_t, le_f, eq_f, eq_self, nI_add, nI_mul, nI_sub, ↓reduceIte, h1, row_atE (p := 4) rfl zq_4, e4]
    rcases blk_t hb with g | g
    · rw [g, if_pos rfl]
    · rw [g, if_neg (by decide), if_pos rfl]
  · obtain ⟨h1, h2, h3, h4⟩ := hI
    refine ⟨s, ?_, h1, h2, h3, h4⟩
    unfold f_Tokens_step_L20
    by_cases g : c ≤ p + fa_first (fun i => !blk (t (p + i))) (c - p)
    · simp (disch := omega) only [fl, fmN, mm_lt, Nat.reduceAdd, Option.bind_some, lt_t, lt_f, le_t, le_f, eq_f, eq_self, nI_add, nI_mul, nI_sub, ↓reduceIte, h1]
    · have hb : blk (t (p + fa_first (fun i => !blk (t (p + i))) (c - p))) = false := by simpa using fa_first_yes (fun i => !blk (t (p + i))) (c - p) (by omega)
      have e4 : s.1 4 (p + fa_first (fun i => !blk (t (p + i))) (c - p)) = nI (t (p + fa_first (fun i => !blk (t (p + i))) (c - p))) := by rw [h3 4 (by decide)]; exact ht _ (by omega)
      have h6 := h256 (p + fa_first (fun i => !blk (t (p + i))) (c - p)) (by omega)
      replace hb := blk_f hb
      simp (disch := omega) only [fl, fmN, mm_lt, Nat.reduceAdd, Option.bind_some, lt_t, lt_f, le_t, le_f, eq_f, eq_self, nI_add, nI_mul, nI_sub, ↓reduceIte, h1, row_atE (p := 4) rfl zq_4, e4]
/-! the class's run -/
def nbI (t : Nat → Nat) (q : Nat) : Nat → Int32
  | 0 => nI 0
  | i + 1 => if isD (t (q + i)) = true then nbI t q i * nI 10 + (nI (t (q + i)) - nI 48) else nbI t q i
def ltI (t : Nat → Nat) (q : Nat) : Nat → Int64
  | 0 => lN 0
  | i + 1 => if isD (t (q + i)) = true then ltI t q i else ltI t q i * lN 128 + (nI (t (q + i))).toInt64
theorem nbI_D : ∀ n, alD t q n → nbI t q n = nI (nbd t q n)
  | 0, _ => rfl
  | n + 1, h => by
    have h1 := h n (by omega)
    have h2 := isD_t.mp h1
    show (if isD (t (q + n)) = true then nbI t q n * nI 10 + (nI (t (q + n)) - nI 48) else nbI t q n) = _
    rw [if_pos h1, nbI_D n (fun i hi => h i (by omega)), nI_mul, nI_sub h2.1, nI_add]
    rfl
theorem ltI_S : ∀ n, alS t q n → ltI t q n = lN (e128 (rlt t q n))
  | 0, _ => rfl
  | n + 1, h => by
    have h1 := h n (by omega)
    have h2 := isS_t.mp h1
    show (if isD (t (q + n)) = true then ltI t q n else ltI t q n * lN 128 + (nI (t (q + n))).toInt64) = _
    rw [SD_no h1, if_neg (by decide), ltI_S n (fun i hi => h i (by omega)), lN_mul, nI_64 (by omega), lN_add, rlt_s, e128_snoc]
def dct (t : Nat → Nat) (q n : Nat) : Nat := fb_ct (fun i => isD (t (q + i))) n
theorem dct_s (n : Nat) : dct t q (n + 1) = dct t q n + (if isD (t (q + n)) = true then 1 else 0) := rfl
theorem dct_le : ∀ n, dct t q n ≤ n := fun n => fb_ct_le _ n
theorem dct_0 : ∀ n, (dct t q n = 0) = (∀ i, i < n → isD (t (q + i)) = false)
  | 0 => propext ⟨fun _ i hi => absurd hi (by omega), fun _ => rfl⟩
  | n + 1 => by
    have ih := dct_0 n
    apply propext
    rw [dct_s]
    constructor
    · intro h i hi
      by_cases g : isD (t (q + n)) = true
      · rw [if_pos g] at h; omega
      · rw [if_neg g] at h
        by_cases g2 : i = n
        · rw [g2]; simpa using g
        · exact (ih.mp (by omega)) i (by omega)
    · intro h
      rw [h n (by omega), if_neg (by decide), ih.mpr (fun i hi => h i (by omega))]
theorem dct_n : ∀ n, (dct t q n = n) = alD t q n
  | 0 => propext ⟨fun _ i hi => absurd hi (by omega), fun _ => rfl⟩
  | n + 1 => by
    have ih := dct_n n
    have hl := dct_le (t := t) (q := q) n
    apply propext
    rw [dct_s]
    constructor
    · intro h
      by_cases g : isD (t (q + n)) = true
      · rw [if_pos g] at h
        intro i hi
        by_cases g2 : i = n
        · rw [g2]; exact g
        · exact (ih.mp (by omega)) i (by omega)
      · rw [if_neg g] at h; omega
    · intro h
      rw [if_pos (h n (by omega)), ih.mpr (fun i hi => h i (by omega))]
theorem hat_run (ht : ∀ i, i < sz → m.1 4 i = nI (t i)) (h256 : ∀ i, i < sz → t i < 256) (hsz : sz ≤ 940) (hq : q < sz) (h1 : m.1 2 1 = nI sz) (h3 : m.1 2 3 = nI q) (h6 : m.1 2 6 = nI 0) (h7 : m.2 2 7 = lN 0) : ∃ s, mm_lp (f_Tokens_readRun_L20 z_Law 2) (nI 0, m) = some s ∧ s.1 = nI (dct t q (rln t sz q)) ∧ s.2.1 2 3 = nI (q + rln t sz q) ∧ s.2.1 2 6 = nbI t q (rln t sz q) ∧ s.2.2 2 7 = ltI t q (rln t sz q) ∧ (∀ k, k ≠ 3 → k ≠ 6 → s.2.1 2 k = m.1 2 k) ∧ ∀ o, o ≠ 2 → s.2.1 o = m.1 o ∧ s.2.2 o = m.2 o := by
  have hle := rln_le (t := t) (sz := sz) (q := q)
  refine lp_ix (fun i s => s.1 = nI (dct t q i) ∧ s.2.1 2 3 = nI (q + i) ∧ s.2.1 2 6 = nbI t q i ∧ s.2.2 2 7 = ltI t q i ∧ (∀ k, k ≠ 3 → k ≠ 6 → s.2.1 2 k = m.1 2 k) ∧ ∀ o, o ≠ 2 → s.2.1 o = m.1 o ∧ s.2.2 o = m.2 o) (rln t sz q) (fun i s hi hI => ?_) (fun s hI => ?_) ⟨rfl, h3, h6, h7, fun _ _ _ => rfl, fun _ _ => ⟨rfl, rfl⟩⟩
  · obtain ⟨dg, s⟩ := s
    obtain ⟨i1, i2, i3, i4, i5, i6⟩ := hI
    dsimp only at i1 i2 i3 i4 i5 i6
    subst i1
    have ha := rln_a hi
    have hb := h256 (q + i) (by omega)
    have e4 : s.1 4 (q + i) = nI (t (q + i)) := by rw [(i6 4 (by decide)).1]; exact ht _ (by omega)
    have e1 : s.1 2 1 = nI sz := (i5 1 (by decide) (by decide)).trans h1
    by_cases g : isD (t (q + i)) = true
    · have g2 := isD_t.mp g
      refine ⟨(nI (dct t q i + 1), kI (kI s 2 6 (nbI t q i * nI 10 + (nI (t (q + i)) - nI 48))) 2 3 (nI (q + i + 1))), ?_, ?_, ?_, ?_, ?_, fun k hk hk' => ?_, fun o ho => ?_⟩
      · have e3 : (kI s 2 6 (nbI t q i * nI 10 + (nI (t (q + i)) - nI 48))).1 2 3 = nI (q + i) := by rw [kI_at, if_neg (by decide)]; exact i2
        unfold f_Tokens_readRun_L20
        simp (disch := omega) only [fl, mm_lt, Nat.reduceAdd, Option.bind_some, le_f, ↓reduceIte, e1, i2, row_atE (p := 4) rfl zq_4, e4, hat_dig, bI_0, g, Bool.true_eq_false]
        unfold f_Tokens_readRun_J65
        simp (disch := omega) only [fl, mm_lt, Nat.reduceAdd, Option.bind_some, le_f, ↓reduceIte, e1, i2, i3, row_atE (p := 4) rfl zq_4, e4, hat_dig, bI_0, g, Bool.true_eq_false, e3, nI_add]
      · show nI (dct t q i + 1) = nI (dct t q (i + 1))
        rw [dct_s, if_pos g]
      · show (kI (kI s 2 6 _) 2 3 _).1 2 3 = _
        rw [kI_at, if_pos rfl]; rfl
      · show (kI (kI s 2 6 _) 2 3 _).1 2 6 = _
        rw [kI_at, if_neg (by decide), kI_at, if_pos rfl]
        exact (if_pos g).symm
      · exact i4.trans (if_pos g).symm
      · show (kI (kI s 2 6 _) 2 3 _).1 2 k = _
        rw [kI_at, if_neg hk, kI_at, if_neg hk']; exact i5 k hk hk'
      · refine ⟨?_, (i6 o ho).2⟩
        show (kI (kI s 2 6 _) 2 3 _).1 o = _
        rw [kI_o _ _ _ _ ho, kI_o _ _ _ _ ho]; exact (i6 o ho).1
    · have g' : isD (t (q + i)) = false := by simpa using g
      have gS : isS (t (q + i)) = true := by
        unfold alc at ha; rw [g', Bool.or_false] at ha; exact ha
      refine ⟨(nI (dct t q i), kI (kL s 2 7 (ltI t q i * lN 128 + (nI (t (q + i))).toInt64)) 2 3 (nI (q + i + 1))), ?_, ?_, ?_, ?_, ?_, fun k hk hk' => ?_, fun o ho => ?_⟩
      · have e3 : (kL s 2 7 (ltI t q i * lN 128 + (nI (t (q + i))).toInt64)).1 2 3 = nI (q + i) := i2
        unfold f_Tokens_readRun_L20
        simp (disch := omega) only [fl, mm_lt, Nat.reduceAdd, Option.bind_some, le_f, ↓reduceIte, e1, i2, row_atE (p := 4) rfl zq_4, e4, hat_dig, hat_let, bI_0, g', gS, Bool.true_eq_false]
        unfold f_Tokens_readRun_J65
        simp (disch := omega) only [fl, fl64, mm_lt, Nat.reduceAdd, Option.bind_some, le_f, ↓reduceIte, e1, i2, i4, row_atE (p := 4) rfl zq_4, e4, hat_dig, bI_0, g', e3, nI_add]
      · show nI (dct t q i) = nI (dct t q (i + 1))
        rw [dct_s, if_neg g]; rfl
      · show (kI (kL s 2 7 _) 2 3 _).1 2 3 = _
        rw [kI_at, if_pos rfl]; rfl
      · show (kI (kL s 2 7 _) 2 3 _).1 2 6 = _
        rw [kI_at, if_neg (by decide)]
        exact i3.trans (if_neg g).symm
      · show (kL s 2 7 _).2 2 7 = _
        rw [kL_at, if_pos rfl]; exact (if_neg g).symm
      · show (kI (kL s 2 7 _) 2 3 _).1 2 k = _
        rw [kI_at, if_neg hk]; exact i5 k hk hk'
      · refine ⟨?_, ?_⟩
        · show (kI (kL s 2 7 _) 2 3 _).1 o = _
          rw [kI_o _ _ _ _ ho]; exact (i6 o ho).1
        · show (kL s 2 7 _).2 o = _
          rw [kL_o _ _ _ _ ho]; exact (i6 o ho).2
  · obtain ⟨dg, s⟩ := s
    obtain ⟨i1, i2, i3, i4, i5, i6⟩ := hI
    dsimp only at i1 i2 i3 i4 i5 i6
    subst i1
    have e1 : s.1 2 1 = nI sz := (i5 1 (by decide) (by decide)).trans h1
    refine ⟨(nI (dct t q (rln t sz q)), s), ?_, rfl, i2, i3, i4, i5, i6⟩
    unfold f_Tokens_readRun_L20
    by_cases g : sz ≤ q + rln t sz q
    · simp (disch := omega) only [fl, le_t, ↓reduceIte, e1, i2]
    · have hn := rln_n (t := t) (sz := sz) (q := q) (by omega)
      unfold alc at hn
      rw [Bool.or_eq_false_iff] at hn
      have hb := h256 (q + rln t sz q) (by omega)
      have e4 : s.1 4 (q + rln t sz q) = nI (t (q + rln t sz q)) := by rw [(i6 4 (by decide)).1]; exact ht _ (by omega)
      simp (disch := omega) only [fl, mm_lt, Nat.reduceAdd, Option.bind_some, le_f, ↓reduceIte, e1, i2, row_atE (p := 4) rfl zq_4, e4, hat_dig, hat_let, bI_0, hn.1, hn.2]
end TOK
