section TOK3
variable {σ m u : Mm} {t : Nat → Nat} {sz lim p q : Nat}
theorem md_peek (ht : mtp2 t sz lim u) (hsz : sz ≤ 940) (h4 : u.1 169 4 = nI p) (hp : p ≤ 2000) : f_Mod_peek z_Law u 169 = some (if p < sz then nI (t p) else mN) := by
  obtain ⟨t1, t2, t3⟩ := ht
  unfold f_Mod_peek
  by_cases g : p < sz
  · have e := t3 p g
    simp only [fl] at e
    simp (disch := omega) only [fl, fmN, mm_lt, Nat.reduceAdd, Option.bind_some, lt_t, lt_f, le_t, le_f, eq_f, eq_self, nI_add, nI_mul, nI_sub, ↓reduceIte, t1, h4, zq_170, ld_nI, e, if_pos g]
  · simp (disch := omega) only [fl, fmN, mm_lt, Nat.reduceAdd, Option.bind_some, lt_t, lt_f, le_t, le_f, eq_f, eq_self, nI_add, nI_mul, nI_sub, ↓reduceIte, t1, h4, if_neg g]
theorem mtp_c {u' : Mm} (ht : mtp2 t sz lim u) (h3 : u'.1 169 3 = u.1 169 3) (h5 : u'.1 169 5 = u.1 169 5) (h7 : u'.1 170 = u.1 170) : mtp2 t sz lim u' := by
  unfold mtp2; rw [h3, h5, h7]; exact ht
theorem md_skip (ht : mtp2 t sz lim u) (h256 : ∀ i, i < sz → t i < 256) (hsz : sz ≤ 940) (h4 : u.1 169 4 = nI p) (hp : p ≤ sz) : ∃ s, mm_lp (f_Mod_next_L0 z_Law 169) u = some s ∧ s.1 169 4 = nI (skp t sz p) ∧ (∀ k, k ≠ 4 → s.1 169 k = u.1 169 k) ∧ (∀ q, q ≠ 169 → s.1 q = u.1 q) ∧ s.2 = u.2 := by
  have hle := fa_first_le (fun i => !blk (t (p + i))) (sz - p)
  refine lp_ix (fun i s => s.1 169 4 = nI (p + i) ∧ (∀ k, k ≠ 4 → s.1 169 k = u.1 169 k) ∧ (∀ q, q ≠ 169 → s.1 q = u.1 q) ∧ s.2 = u.2) (fa_first (fun i => !blk (t (p + i))) (sz - p)) (fun i s hi hI => ?_) (fun s hI => ?_) ⟨h4, fun _ _ => rfl, fun _ _ => rfl, rfl⟩
  · obtain ⟨h1, h2, h3, h4⟩ := hI
    have hb : blk (t (p + i)) = true := by simpa using fa_first_no (fun i => !blk (t (p + i))) (sz - p) i hi
    have hs := mtp_c ht (h2 3 (by decide)) (h2 5 (by decide)) (h3 170 (by decide))
    have e := md_peek hs hsz h1 (by omega)
    rw [if_pos (by omega)] at e
    refine ⟨kI s 169 4 (nI (p + i + 1)), ?_, (kI_e : (kI s 169 4 (nI (p + i + 1))).1 169 4 = nI (p + i + 1)), fun k hk => by rw [kI_f hk]; exact h2 k hk, fun q hq => by rw [kI_o _ _ _ _ hq]; exact h3 q hq, h4⟩
    unfold f_Mod_next_L0
    simp (disch := omega) only [fl, fmN, mm_lt, Nat.reduceAdd, Option.bind_some, lt_t, lt_f, le_t, le_f, eq_f, eq_self, nI_add, nI_mul, nI_sub, ↓reduceIte, e, h1]
    rcases blk_t hb with g | g
    · rw [g, if_pos rfl]
    · rw [g, if_neg (by decide), if_pos rfl]
  · obtain ⟨h1, h2, h3, h4⟩ := hI
    refine ⟨s, ?_, h1, h2, h3, h4⟩
    have hs := mtp_c ht (h2 3 (by decide)) (h2 5 (by decide)) (h3 170 (by decide))
    have e := md_peek hs hsz h1 (by omega)
    unfold f_Mod_next_L0
    by_cases g : p + fa_first (fun i => !blk (t (p + i))) (sz - p) < sz
    · rw [if_pos g] at e
      have hb : blk (t (p + fa_first (fun i => !blk (t (p + i))) (sz - p))) = false := by simpa using fa_first_yes (fun i => !blk (t (p + i))) (sz - p) (by omega)
      have h6 := h256 _ g
      replace hb := blk_f hb
      simp (disch := omega) only [fl, fmN, mm_lt, Nat.reduceAdd, Option.bind_some, lt_t, lt_f, le_t, le_f, eq_f, eq_self, nI_add, nI_mul, nI_sub, ↓reduceIte, e]
    · rw [if_neg g] at e
      simp (disch := omega) only [fl, fmN, mm_lt, Nat.reduceAdd, Option.bind_some, lt_t, lt_f, le_t, le_f, eq_f, eq_self, nI_add, nI_mul, nI_sub, ↓reduceIte, e, mN_ne']
def nbM (t : Nat → Nat) (q : Nat) : Nat → Int32
  | 0 => nI 0
  | i + 1 => if i < 2 then nI 10 * nbM t q i + nI (t (q + i)) - nI 48 else nbM t q i
def wM (t : Nat → Nat) (q : Nat) : Nat → Int64
  | 0 => lN 0
  | i + 1 => if i < 7 then (wM t q i <<< (Int32.toInt64 (nI 8) &&& 63)) ||| (nI (t (q + i))).toInt64 else wM t q i
def aB (t : Nat → Nat) (q : Nat) : Nat → Bool
  | 0 => true
  | i + 1 => aB t q i && (isS (t (q + i)) == isS (t q))
theorem nbM_D : ∀ n, n ≤ 2 → alD t q n → nbM t q n = nI (nbd t q n)
  | 0, _, _ => rfl
  | n + 1, h2, h => by
    have h1 := isD_t.mp (h n (by omega))
    show (if n < 2 then nI 10 * nbM t q n + nI (t (q + n)) - nI 48 else nbM t q n) = _
    rw [if_pos (by omega), nbM_D n (by omega) (fun i hi => h i (by omega)), nI_mul, nI_add, nI_sub (by omega)]
    congr 1
    show _ = nbd t q n * 10 + (t (q + n) - 48)
    omega
theorem wM_S : ∀ n, n ≤ 7 → alS t q n → wM t q n = lN (e256 (rlt t q n))
  | 0, _, _ => rfl
  | n + 1, h7, h => by
    have h1 := isS_t.mp (h n (by omega))
    have hok := rlt_ok (fun i hi => h i (by omega) : alS t q n) (by omega)
    have hlt : e256 (rlt t q n) < 2 ^ 48 := by
      rw [e256_er]
      have h3 := er_lt (B := 256) (by decide) _ (okw_rev hok.1)
      rw [List.length_reverse] at h3
      refine Nat.lt_of_lt_of_le h3 (Nat.le_trans (Nat.pow_le_pow_right (by decide) (show (rlt t q n).length ≤ 6 from ?_)) (by decide))
      unfold rlt; rw [List.length_map, List.length_range]; omega
    show (if n < 7 then (wM t q n <<< (Int32.toInt64 (nI 8) &&& 63)) ||| (nI (t (q + n))).toInt64 else wM t q n) = _
    rw [if_pos (by omega), wM_S n (by omega) (fun i hi => h i (by omega)), shl8_or hlt (by omega), rlt_s, e256_snoc]
theorem aB_t : ∀ n, (aB t q n = true) = (∀ i, i < n → isS (t (q + i)) = isS (t q))
  | 0 => propext ⟨fun _ i hi => absurd hi (by omega), fun _ => rfl⟩
  | n + 1 => by
    have ih := aB_t n
    apply propext
    show (aB t q n && (isS (t (q + n)) == isS (t q))) = true ↔ _
    rw [Bool.and_eq_true, ih, beq_iff_eq]
    constructor
    · rintro ⟨h1, h2⟩ i hi
      by_cases g : i = n
      · rw [g]; exact h2
      · exact h1 i (by omega)
    · intro h; exact ⟨fun i hi => h i (by omega), h n (by omega)⟩
theorem bI_inj {a b : Bool} : (bI a = bI b) = (a = b) := by cases a <;> cases b <;> simp [bI] <;> decide
/-- one sign of a run -/
theorem md_J224 (ht : mtp2 t sz lim u) (hsz : sz ≤ 940) {i : Nat} (hi : q + i < sz) (h4 : u.1 169 4 = nI (q + i)) (h13 : u.1 169 13 = nI i) {a b : Int32} : ∃ s, f_Mod_next_J224 z_Law 169 a b u = some (.inl (b, s)) ∧ s.1 169 4 = nI (q + i + 1) ∧ s.1 169 13 = nI (i + 1) ∧ s.1 169 14 = (if i < 2 then nI 10 * u.1 169 14 + nI (t (q + i)) - nI 48 else u.1 169 14) ∧ (∀ k, k ≠ 4 → k ≠ 13 → k ≠ 14 → s.1 169 k = u.1 169 k) ∧ (∀ o, o ≠ 169 → s.1 o = u.1 o) ∧ s.2 = u.2 := by
  have hJ : ∀ x : Mm, x.1 169 4 = nI (q + i) → x.1 169 13 = nI i → f_Mod_next_J251 z_Law 169 a b x = some (.inl (b, kI (kI x 169 13 (nI (i + 1))) 169 4 (nI (q + i + 1)))) := by
    intro x x4 x13
    have x4' : (kI x 169 13 (nI (i + 1))).1 169 4 = nI (q + i) := by rw [kI_f (by decide)]; exact x4
    unfold f_Mod_next_J251
    simp only [fl, mm_lt, x13, nI_add, x4']
  have e := md_peek ht hsz h4 (by omega)
  rw [if_pos hi] at e
  unfold f_Mod_next_J224
  by_cases g : i < 2
  · refine ⟨kI (kI (kI u 169 14 (nI 10 * u.1 169 14 + nI (t (q + i)) - nI 48)) 169 13 (nI (i + 1))) 169 4 (nI (q + i + 1)), ?_, kI_e, ?_, ?_, fun k k1 k2 k3 => ?_, fun o ho => ?_, rfl⟩
    · have x1 : (kI u 169 14 (nI 10 * u.1 169 14 + nI (t (q + i)) - nI 48)).1 169 4 = nI (q + i) := by rw [kI_f (by decide)]; exact h4
      have x2 : (kI u 169 14 (nI 10 * u.1 169 14 + nI (t (q + i)) - nI 48)).1 169 13 = nI i := by rw [kI_f (by decide)]; exact h13
      simp (disch := omega) only [fl, mm_lt, h13, le_f, ↓reduceIte, e, Option.bind_some, hJ _ x1 x2]
    · rw [kI_f (by decide), kI_e]
    · rw [kI_f (by decide), kI_f (by decide), kI_e, if_pos g]
    · rw [kI_f k1, kI_f k2, kI_f k3]
    · rw [kI_o _ _ _ _ ho, kI_o _ _ _ _ ho, kI_o _ _ _ _ ho]
  · refine ⟨kI (kI u 169 13 (nI (i + 1))) 169 4 (nI (q + i + 1)), ?_, kI_e, ?_, ?_, fun k k1 k2 k3 => ?_, fun o ho => ?_, rfl⟩
    · simp (disch := omega) only [fl, h13, le_t, ↓reduceIte, hJ u h4 h13]
    · rw [kI_f (by decide), kI_e]
    · rw [kI_f (by decide), kI_f (by decide), if_neg g]
    · rw [kI_f k1, kI_f k2]
    · rw [kI_o _ _ _ _ ho, kI_o _ _ _ _ ho]
theorem md_J197 (ht : mtp2 t sz lim u) (hsz : sz ≤ 940) {i : Nat} (hi : q + i < sz) (h4 : u.1 169 4 = nI (q + i)) (h13 : u.1 169 13 = nI i) {a b : Int32} : ∃ s, f_Mod_next_J197 z_Law 169 a b u = some (.inl (b, s)) ∧ s.1 169 4 = nI (q + i + 1) ∧ s.1 169 13 = nI (i + 1) ∧ s.1 169 14 = (if i < 2 then nI 10 * u.1 169 14 + nI (t (q + i)) - nI 48 else u.1 169 14) ∧ (∀ k, k ≠ 4 → k ≠ 13 → k ≠ 14 → s.1 169 k = u.1 169 k) ∧ (∀ o, o ≠ 169 → s.1 o = u.1 o ∧ s.2 o = u.2 o) ∧ s.2 169 17 = (if i < 7 then (u.2 169 17 <<< (Int32.toInt64 (nI 8) &&& 63)) ||| (nI (t (q + i))).toInt64 else u.2 169 17) := by
  have e := md_peek ht hsz h4 (by omega)
  rw [if_pos hi] at e
  unfold f_Mod_next_J197
  by_cases g : i < 7
  · obtain ⟨s, a1, a2, a3, a4, a5, a6, a7⟩ := md_J224 (u := kL u 169 17 ((u.2 169 17 <<< (Int32.toInt64 (nI 8) &&& 63)) ||| (nI (t (q + i))).toInt64)) ht hsz hi h4 h13 (a := a) (b := b)
    refine ⟨s, ?_, a2, a3, a4, a5, fun o ho => ⟨a6 o ho, by rw [a7, kL_o _ _ _ _ ho]⟩, ?_⟩
    · simp (disch := omega) only [fl, mm_lt, h13, le_f, ↓reduceIte, e, Option.bind_some]
      exact a1
    · rw [a7, kL_at, if_pos rfl, if_pos g]
  · obtain ⟨s, a1, a2, a3, a4, a5, a6, a7⟩ := md_J224 (u := u) ht hsz hi h4 h13 (a := a) (b := b)
    refine ⟨s, ?_, a2, a3, a4, a5, fun o ho => ⟨a6 o ho, by rw [a7]⟩, ?_⟩
    · simp (disch := omega) only [fl, h13, le_t, ↓reduceIte]
      exact a1
    · rw [a7, if_neg g]
theorem md_run (ht : mtp2 t sz lim u) (h256 : ∀ i, i < sz → t i < 256) (hsz : sz ≤ 940) (hq : q < sz) (h4 : u.1 169 4 = nI q) (h13 : u.1 169 13 = nI 0) (h14 : u.1 169 14 = nI 0) (h17 : u.2 169 17 = lN 0) : ∃ s, mm_lp (f_Mod_next_L157 z_Law 169 (bI (isS (t q)))) (nI 1, u) = some s ∧ s.1 = bI (aB t q (rln t sz q)) ∧ s.2.1 169 4 = nI (q + rln t sz q) ∧ s.2.1 169 13 = nI (rln t sz q) ∧ s.2.1 169 14 = nbM t q (rln t sz q) ∧ s.2.2 169 17 = wM t q (rln t sz q) ∧ (∀ k, k ≠ 4 → k ≠ 13 → k ≠ 14 → s.2.1 169 k = u.1 169 k) ∧ ∀ o, o ≠ 169 → s.2.1 o = u.1 o ∧ s.2.2 o = u.2 o := by
  have hle := rln_le (t := t) (sz := sz) (q := q)
  refine lp_ix (fun i s => s.1 = bI (aB t q i) ∧ s.2.1 169 4 = nI (q + i) ∧ s.2.1 169 13 = nI i ∧ s.2.1 169 14 = nbM t q i ∧ s.2.2 169 17 = wM t q i ∧ (∀ k, k ≠ 4 → k ≠ 13 → k ≠ 14 → s.2.1 169 k = u.1 169 k) ∧ ∀ o, o ≠ 169 → s.2.1 o = u.1 o ∧ s.2.2 o = u.2 o) (rln t sz q) (fun i s hi hI => ?_) (fun s hI => ?_) ⟨rfl, h4, h13, h14, h17, fun _ _ _ _ => rfl, fun _ _ => ⟨rfl, rfl⟩⟩
  · obtain ⟨v, s⟩ := s
    obtain ⟨i1, i2, i3, i4, i5, i6, i7⟩ := hI
    dsimp only at i1 i2 i3 i4 i5 i6 i7
    subst i1
    have hs := mtp_c ht (i6 3 (by decide) (by decide) (by decide)) (i6 5 (by decide) (by decide) (by decide)) (i7 170 (by decide)).1
    have e := md_peek hs hsz i2 (by omega)
    rw [if_pos (show q + i < sz by omega)] at e
    have ha := rln_a hi
    have hb := h256 (q + i) (by omega)
    have hJ : f_Mod_next_L157 z_Law 169 (bI (isS (t q))) (bI (aB t q i), s) = f_Mod_next_J177 z_Law 169 (bI (isS (t q))) (bI (aB t q i)) s := by
      unfold f_Mod_next_L157
      by_cases g : isS (t (q + i)) = true
      · simp (disch := omega) only [fl, e, Option.bind_some, md_sma hb, bI_0, g, Bool.true_eq_false, ↓reduceIte]
      · have g' : isS (t (q + i)) = false := by simpa using g
        have gD : isD (t (q + i)) = true := by unfold alc at ha; rw [g', Bool.false_or] at ha; exact ha
        simp (disch := omega) only [fl, e, Option.bind_some, md_sma hb, md_dig hb, bI_0, g', gD, Bool.true_eq_false, ↓reduceIte]
    have hJ2 : f_Mod_next_J177 z_Law 169 (bI (isS (t q))) (bI (aB t q i)) s = f_Mod_next_J197 z_Law 169 (bI (isS (t q))) (bI (aB t q (i + 1))) s := by
      unfold f_Mod_next_J177
      show _ = f_Mod_next_J197 z_Law 169 (bI (isS (t q))) (bI (aB t q i && (isS (t (q + i)) == isS (t q)))) s
      by_cases g : aB t q i = true
      · simp (disch := omega) only [fl, e, Option.bind_some, md_sma hb, bI_0, g, Bool.true_eq_false, ↓reduceIte, bI_inj, Bool.true_and]
        by_cases g2 : isS (t (q + i)) = isS (t q)
        · rw [if_pos g2, g2, beq_self_eq_true]; rfl
        · rw [if_neg g2, beq_eq_false_iff_ne.mpr g2]; rfl
      · have g' : aB t q i = false := by simpa using g
        simp (disch := omega) only [fl, bI_0, g', ↓reduceIte, Bool.false_and]
        rfl
    obtain ⟨s', b1, b2, b3, b4, b5, b6, b7⟩ := md_J197 hs hsz (show q + i < sz by omega) i2 i3 (a := bI (isS (t q))) (b := bI (aB t q (i + 1)))
    refine ⟨(bI (aB t q (i + 1)), s'), by rw [hJ, hJ2]; exact b1, rfl, b2, b3, ?_, ?_, fun k k1 k2 k3 => (b5 k k1 k2 k3).trans (i6 k k1 k2 k3), fun o ho => ⟨(b6 o ho).1.trans (i7 o ho).1, (b6 o ho).2.trans (i7 o ho).2⟩⟩
    · show s'.1 169 14 = if i < 2 then nI 10 * nbM t q i + nI (t (q + i)) - nI 48 else nbM t q i
      rw [b4, i4]
    · show s'.2 169 17 = if i < 7 then (wM t q i <<< (Int32.toInt64 (nI 8) &&& 63)) ||| (nI (t (q + i))).toInt64 else wM t q i
      rw [b7, i5]
  · obtain ⟨v, s⟩ := s
    obtain ⟨i1, i2, i3, i4, i5, i6, i7⟩ := hI
    dsimp only at i1 i2 i3 i4 i5 i6 i7
    subst i1
    have hs := mtp_c ht (i6 3 (by decide) (by decide) (by decide)) (i6 5 (by decide) (by decide) (by decide)) (i7 170 (by decide)).1
    have e := md_peek hs hsz i2 (by omega)
    refine ⟨(bI (aB t q (rln t sz q)), s), ?_, rfl, i2, i3, i4, i5, i6, i7⟩
    unfold f_Mod_next_L157
    by_cases g : q + rln t sz q < sz
    · rw [if_pos g] at e
      have hn := rln_n (t := t) (sz := sz) (q := q) (by omega)
      unfold alc at hn
      rw [Bool.or_eq_false_iff] at hn
      have hb := h256 _ g
      simp (disch := omega) only [fl, e, Option.bind_some, md_sma hb, md_dig hb, bI_0, hn.1, hn.2, ↓reduceIte]
    · rw [if_neg g] at e
      simp (disch := omega) only [fl, e, Option.bind_some, md_smaN, md_digN, eq_self, ↓reduceIte]
theorem onM_tr {a b c : Mm} (h : onM a b) (h' : onM b c) : onM a c := ⟨fun q hq => ⟨(h'.1 q hq).1.trans (h.1 q hq).1, (h'.1 q hq).2.trans (h.1 q hq).2⟩, fun k k1 k2 k3 k4 k5 => (h'.2 k k1 k2 k3 k4 k5).trans (h.2 k k1 k2 k3 k4 k5)⟩
theorem onM_kI {k : Nat} {v : Int32} (hk : k = 4 ∨ k = 11 ∨ k = 12 ∨ k = 13 ∨ k = 14) : onM u (kI u 169 k v) := ⟨fun q hq => ⟨kI_o _ _ _ _ hq, rfl⟩, fun j k1 k2 k3 k4 k5 => kI_f (by omega)⟩
theorem onM_kL {k : Nat} {v : Int64} : onM u (kL u 169 k v) := ⟨fun q hq => ⟨rfl, kL_o _ _ _ _ hq⟩, fun j k1 k2 k3 k4 k5 => rfl⟩
/-- the reference's next, up to its token -/
theorem md_st (ht : mtp2 t sz lim u) (h256 : ∀ i, i < sz → t i < 256) (hsz : sz ≤ 940) (h4 : u.1 169 4 = nI p) (hp : p ≤ sz) : ∃ s, mm_lp (f_Mod_next_L0 z_Law 169) u = some s ∧ onM u s ∧ s.1 169 4 = nI (skp t sz p) ∧ onM u (kI (kI s 169 12 (nI (skp t sz p))) 169 13 (nI 0)) ∧ mtp2 t sz lim (kI (kI s 169 12 (nI (skp t sz p))) 169 13 (nI 0)) := by
  obtain ⟨s, a1, a2, a3, a4, a5⟩ := md_skip ht h256 hsz h4 hp
  have o1 : onM u s := ⟨fun q hq => ⟨a4 q hq, by rw [a5]⟩, fun k k1 _ _ _ _ => a3 k k1⟩
  have o2 : onM u (kI (kI s 169 12 (nI (skp t sz p))) 169 13 (nI 0)) := onM_tr o1 (onM_tr (onM_kI (by decide)) (onM_kI (by decide)))
  exact ⟨s, a1, o1, a2, o2, mtp_c ht (o2.2 3 (by decide) (by decide) (by decide) (by decide) (by decide)) (o2.2 5 (by decide) (by decide) (by decide) (by decide) (by decide)) (o2.1 170 (by decide)).1⟩
theorem md_B (ht : mtp2 t sz lim u) (h256 : ∀ i, i < sz → t i < 256) (hsz : sz ≤ 940) (hl : lim ≤ 940) (h4 : u.1 169 4 = nI p) (hp : p ≤ sz) (hB : min sz lim ≤ skp t (min sz lim) p) : ∃ s, f_Mod_next z_Law u 169 = some s ∧ onM u s ∧ MT s (if sz ≤ lim then 0 else 4) [] 0 (min sz lim) 0 := by
  obtain ⟨s, a1, a2, a3, a4, a5⟩ := md_st ht h256 hsz h4 hp
  have hsk := skp_le (t := t) hp
  obtain ⟨w, ew⟩ : ∃ w, kI (kI s 169 12 (nI (skp t sz p))) 169 13 (nI 0) = w := ⟨_, rfl⟩
  rw [ew] at a4 a5
  have w4 : w.1 169 4 = nI (skp t sz p) := by rw [← ew, kI_f (by decide), kI_f (by decide)]; exact a3
  have hN : f_Mod_next z_Law u 169 = if w.1 169 3 ≤ w.1 169 5 then f_Mod_next_J80 z_Law 169 w else (if w.1 169 4 < w.1 169 5 then f_Mod_next_J80 z_Law 169 w else some (kI (kI w 169 12 (w.1 169 5)) 169 11 (nI 4))) := by
    unfold f_Mod_next
    simp only [a1, Option.bind_some, mm_lt, a3, fl, ew]
  by_cases g : sz ≤ lim
  · rw [Nat.min_eq_left g] at hB ⊢
    have e9 : skp t sz p = sz := by omega
    have w12 : w.1 169 12 = nI sz := by rw [← ew, kI_f (by decide), kI_e, e9]
    have e := md_peek a5 hsz w4 (by omega)
    rw [if_neg (by omega)] at e
    refine ⟨kI w 169 11 (nI 0), ?_, onM_tr a4 (onM_kI (by decide)), by rw [if_pos g]; exact kI_e, by rw [kI_f (by decide)]; exact w12, fun h => ?_, fun h => ?_, fun h => ?_, fun h => ?_⟩
    · rw [hN, a5.1, a5.2.1]
      unfold f_Mod_next_J80
      simp (disch := omega) only [fl, mm_lt, le_t, ↓reduceIte, e, Option.bind_some, mN_nle]
    all_goals (rw [if_pos g] at h; omega)
  · rw [Nat.min_eq_right (by omega)] at hB ⊢
    have e9 : lim ≤ skp t sz p := by
      rcases Nat.lt_or_ge (skp t sz p) lim with h | h
      · exfalso
        have h1 := skp_at (t := t) (e := lim) (skp_ge (t := t) (q := sz) (p := p)) h (skp_n (t := t) (by omega)) (fun i i1 i2 => skp_b i1 i2)
        rw [h1] at hB; omega
      · exact h
    refine ⟨kI (kI w 169 12 (nI lim)) 169 11 (nI 4), ?_, onM_tr a4 (onM_tr (onM_kI (by decide)) (onM_kI (by decide))), by rw [if_neg g]; exact kI_e, by rw [kI_f (by decide)]; exact kI_e, fun h => ?_, fun h => ?_, fun h => ?_, fun h => ?_⟩
    · rw [hN, a5.1, a5.2.1, w4]
      simp (disch := omega) only [le_f, lt_f, ↓reduceIte]
    all_goals (rw [if_neg g] at h; omega)
theorem md_A (ht : mtp2 t sz lim u) (h256 : ∀ i, i < sz → t i < 256) (hsz : sz ≤ 940) (hl : lim ≤ 940) (h4 : u.1 169 4 = nI p) (hp : p ≤ sz) (hq : skp t (min sz lim) p = q) (hA : q < min sz lim) {κ : Nat} (hκ : kOf t sz q κ) : ∃ s, f_Mod_next z_Law u 169 = some s ∧ onM u s ∧ MT s κ (rlt t q (rln t sz q)) (nbd t q (rln t sz q)) q (npO t sz q) := by
  obtain ⟨s, a1, a2, a3, a4, a5⟩ := md_st ht h256 hsz h4 hp
  have hc : min sz lim ≤ sz := Nat.min_le_left _ _
  have hc2 : min sz lim ≤ lim := Nat.min_le_right _ _
  have e9 : skp t sz p = q := by
    subst hq
    exact skp_at (skp_ge (t := t)) (by omega) (skp_n (t := t) hA) (fun i i1 i2 => skp_b i1 i2)
  rw [e9] at a3 a4 a5
  obtain ⟨w, ew⟩ : ∃ w, kI (kI s 169 12 (nI q)) 169 13 (nI 0) = w := ⟨_, rfl⟩
  rw [ew] at a4 a5
  have w4 : w.1 169 4 = nI q := by rw [← ew, kI_f (by decide), kI_f (by decide)]; exact a3
  have w12 : w.1 169 12 = nI q := by rw [← ew, kI_f (by decide), kI_e]
  have w13 : w.1 169 13 = nI 0 := by rw [← ew, kI_e]
  have tq := h256 q (by omega)
  have hle := rln_le (t := t) (sz := sz) (q := q)
  have e := md_peek a5 hsz w4 (by omega)
  rw [if_pos (by omega)] at e
  have hN : f_Mod_next z_Law u 169 = f_Mod_next_J80 z_Law 169 w := by
    unfold f_Mod_next
    simp only [a1, Option.bind_some, mm_lt, a3, fl, ew, a5.1, a5.2.1, w4]
    by_cases g : sz ≤ lim
    · simp (disch := omega) only [le_t, ↓reduceIte]
    · simp (disch := omega) only [le_f, lt_t, ↓reduceIte]
  rcases hκ with ⟨l0, hκ⟩ | ⟨l0, hκ⟩
  · have hal : alc (t q) = false := by rw [← rln_0 (sz := sz) (by omega)]; exact l0
    unfold alc at hal
    rw [Bool.or_eq_false_iff] at hal
    have hnp : npO t sz q = q + 1 := if_pos l0
    have hJ : ∀ κ0 : Nat, f_Mod_next_J121 z_Law 169 (nI (t q)) (nI κ0) w = some (kI (kI (kI w 169 11 (nI κ0)) 169 14 (nI (t q))) 169 4 (nI (q + 1))) := by
      intro κ0
      have x4 : (kI (kI w 169 11 (nI κ0)) 169 14 (nI (t q))).1 169 4 = nI q := by rw [kI_f (by decide), kI_f (by decide)]; exact w4
      unfold f_Mod_next_J121
      simp only [mm_lt, fl, x4, nI_add]
    have fin : ∀ κ0 : Nat, (κ0 = 3 → t q = 59) → (κ0 = 3 ∨ κ0 = 4) → onM u (kI (kI (kI w 169 11 (nI κ0)) 169 14 (nI (t q))) 169 4 (nI (q + 1))) ∧ MT (kI (kI (kI w 169 11 (nI κ0)) 169 14 (nI (t q))) 169 4 (nI (q + 1))) κ0 (rlt t q (rln t sz q)) (nbd t q (rln t sz q)) q (npO t sz q) := by
      intro κ0 h59 h0
      refine ⟨onM_tr a4 (onM_tr (onM_kI (by decide)) (onM_tr (onM_kI (by decide)) (onM_kI (by decide)))), ?_, ?_, fun h => by omega, fun h => by omega, fun h => ?_, fun _ => by rw [kI_e, hnp]⟩
      · rw [kI_f (by decide), kI_f (by decide), kI_e]
      · rw [kI_f (by decide), kI_f (by decide), kI_f (by decide)]; exact w12
      · rw [kI_f (by decide), kI_e, h59 h]
    rcases hκ with ⟨h59, rfl⟩ | ⟨h59, rfl⟩
    · refine ⟨_, ?_, (fin 3 (fun _ => h59) (Or.inl rfl)).1, (fin 3 (fun _ => h59) (Or.inl rfl)).2⟩
      rw [hN]
      unfold f_Mod_next_J80
      simp (disch := omega) only [fl, e, Option.bind_some, le_t, ↓reduceIte, md_sma tq, md_dig tq, hal.1, hal.2, bI_f, hJ]
      rw [h59, if_pos rfl]
    · refine ⟨_, ?_, (fin 4 (fun h => by omega) (Or.inr rfl)).1, (fin 4 (fun h => by omega) (Or.inr rfl)).2⟩
      rw [hN]
      unfold f_Mod_next_J80
      simp (disch := omega) only [fl, e, Option.bind_some, le_t, ↓reduceIte, md_sma tq, md_dig tq, hal.1, hal.2, bI_f, eq_f, hJ]
  · have hnp : npO t sz q = q + rln t sz q := if_neg l0
    have hal : alc (t q) = true := by
      have := rln_a (t := t) (sz := sz) (q := q) (i := 0) (by omega)
      rwa [Nat.add_zero] at this
    obtain ⟨w', ew'⟩ : ∃ w', kI (kL w 169 17 (lN 0)) 169 14 (nI 0) = w' := ⟨_, rfl⟩
    have ow : onM w w' := by rw [← ew']; exact onM_tr onM_kL (onM_kI (by decide))
    have tw : mtp2 t sz lim w' := mtp_c a5 (ow.2 3 (by decide) (by decide) (by decide) (by decide) (by decide)) (ow.2 5 (by decide) (by decide) (by decide) (by decide) (by decide)) (ow.1 170 (by decide)).1
    have z17 : w'.2 169 17 = lN 0 := by
      rw [← ew']
      show (kL w 169 17 (lN 0)).2 169 17 = _
      rw [kL_at, if_pos rfl]
    obtain ⟨r, b1, b2, b3, b4, b5, b6, b7, b8⟩ := md_run tw h256 hsz (show q < sz by omega) (by rw [← ew', kI_f (by decide)]; exact w4) (by rw [← ew', kI_f (by decide)]; exact w13) (by rw [← ew', kI_e]) z17
    obtain ⟨rb, r⟩ := r
    dsimp only at b2 b3 b4 b5 b6 b7 b8
    subst b2
    have or : onM u r := onM_tr a4 (onM_tr ow ⟨fun o ho => b8 o ho, fun k k1 k2 k3 k4 k5 => b7 k k1 k4 k5⟩)
    have r12 : r.1 169 12 = nI q := by rw [b7 12 (by decide) (by decide) (by decide), ← ew', kI_f (by decide)]; exact w12
    have hJ1 : f_Mod_next z_Law u 169 = f_Mod_next_J140 z_Law 169 (nI (t q)) w := by
      rw [hN]
      unfold f_Mod_next_J80
      by_cases g : isS (t q) = true
      · simp (disch := omega) only [fl, e, Option.bind_some, le_t, ↓reduceIte, md_sma tq, bI_0, g, Bool.true_eq_false]
      · have g' : isS (t q) = false := by simpa using g
        have gD : isD (t q) = true := by unfold alc at hal; rw [g', Bool.false_or] at hal; exact hal
        simp (disch := omega) only [fl, e, Option.bind_some, le_t, ↓reduceIte, md_sma tq, md_dig tq, bI_0, g', gD, Bool.true_eq_false]
    have hJ2 : f_Mod_next z_Law u 169 = if aB t q (rln t sz q) = false then some (kI r 169 11 (nI 4)) else (if isS (t q) = false then f_Mod_next_J293 z_Law 169 (bI (isS (t q))) (nI (rln t sz q)) (nI 2) r else f_Mod_next_J293 z_Law 169 (bI (isS (t q))) (nI (rln t sz q)) (nI 7) r) := by
      rw [hJ1]
      unfold f_Mod_next_J140
      simp only [fl, fl64, md_sma tq, Option.bind_some, mm_lt, ew', b1, bI_0, b4]
    have hJ3 : ∀ κ0 : Nat, f_Mod_next z_Law u 169 = some (kI r 169 11 (nI κ0)) → (κ0 = 1 → r.2 169 17 = lN (e256 (rlt t q (rln t sz q)))) → (κ0 = 2 → r.1 169 14 = nI (nbd t q (rln t sz q))) → κ0 ≠ 3 → ∃ s, f_Mod_next z_Law u 169 = some s ∧ onM u s ∧ MT s κ0 (rlt t q (rln t sz q)) (nbd t q (rln t sz q)) q (npO t sz q) := by
      intro κ0 h1 h2 h3 h4
      refine ⟨_, h1, onM_tr or (onM_kI (by decide)), kI_e, by rw [kI_f (by decide)]; exact r12, h2, fun h => by rw [kI_f (by decide)]; exact h3 h, fun h => absurd h h4, fun _ => by rw [kI_f (by decide), hnp]; exact b3⟩
    have hS1 : (aB t q (rln t sz q) = true ∧ isS (t q) = true) = alS t q (rln t sz q) := by
      apply propext
      rw [aB_t]
      constructor
      · rintro ⟨h1, h2⟩ i hi; rw [h1 i hi]; exact h2
      · intro h
        have h0 := h 0 (by omega)
        rw [Nat.add_zero] at h0
        exact ⟨fun i hi => by rw [h i hi, h0], h0⟩
    have hD1 : (aB t q (rln t sz q) = true ∧ isS (t q) = false) = alD t q (rln t sz q) := by
      apply propext
      rw [aB_t]
      constructor
      · rintro ⟨h1, h2⟩ i hi
        have := rln_a hi
        unfold alc at this
        rw [h1 i hi, h2, Bool.false_or] at this
        exact this
      · intro h
        have hx : ∀ i, i < rln t sz q → isS (t (q + i)) = false := fun i hi => by
          cases g : isS (t (q + i))
          · rfl
          · have := SD_no g; rw [h i hi] at this; cases this
        have h0 := hx 0 (by omega)
        rw [Nat.add_zero] at h0
        exact ⟨fun i hi => by rw [hx i hi, h0], h0⟩
    rcases hκ with ⟨k1, k2, rfl⟩ | ⟨k1, k2, rfl⟩ | ⟨rfl, k1, k2⟩
    · rw [← hS1] at k1
      refine hJ3 1 ?_ (fun _ => by rw [b6]; exact wM_S _ k2 (hS1 ▸ k1)) (fun h => absurd h (by decide)) (by decide)
      rw [hJ2, k1.1, if_neg (by decide), k1.2, if_neg (by decide)]
      unfold f_Mod_next_J293
      simp (disch := omega) only [fl, mm_lt, le_t, ↓reduceIte, bI_0, Bool.true_eq_false]
    · rw [← hD1] at k1
      refine hJ3 2 ?_ (fun h => absurd h (by decide)) (fun _ => by rw [b5]; exact nbM_D _ k2 (hD1 ▸ k1)) (by decide)
      rw [hJ2, k1.1, if_neg (by decide), k1.2, if_pos rfl]
      unfold f_Mod_next_J293
      simp (disch := omega) only [fl, mm_lt, le_t, ↓reduceIte, bI_0]
    · refine hJ3 4 ?_ (fun h => absurd h (by decide)) (fun h => absurd h (by decide)) (by decide)
      rw [hJ2]
      by_cases g : aB t q (rln t sz q) = true
      · rw [g, if_neg (by decide)]
        by_cases g2 : isS (t q) = true
        · rw [← hS1] at k1
          have h7 : 7 < rln t sz q := by
            rcases Nat.lt_or_ge 7 (rln t sz q) with h | h
            · exact h
            · exact absurd ⟨⟨g, g2⟩, h⟩ k1
          rw [g2, if_neg (by decide)]
          unfold f_Mod_next_J293
          simp (disch := omega) only [fl, mm_lt, le_f, ↓reduceIte]
        · have g2' : isS (t q) = false := by simpa using g2
          rw [← hD1] at k2
          have h2 : 2 < rln t sz q := by
            rcases Nat.lt_or_ge 2 (rln t sz q) with h | h
            · exact h
            · exact absurd ⟨⟨g, g2'⟩, h⟩ k2
          rw [g2', if_pos rfl]
          unfold f_Mod_next_J293
          simp (disch := omega) only [fl, mm_lt, le_f, ↓reduceIte]
      · have g' : aB t q (rln t sz q) = false := by simpa using g
        rw [g', if_pos rfl]
end TOK3
