/-! copies and the relation; image, restore -/
section CPR
variable {z : Nat → Nat} {m σ : Mm} {o o1 : Nat} {S : Nat → Int32} {N : Nat → Int64}
theorem cf0_o {k q : Nat} (h : q ≠ o) : (cf o o1 0 k m).1 q = m.1 q := kI_o _ _ _ _ h
theorem cf0_s {k : Nat} : (cf o o1 0 k m).1 o k = m.1 o1 k := by unfold cf; exact (kI_at (o := o)).trans (if_pos rfl)
theorem cf0_n {k i : Nat} (h : i ≠ k) : (cf o o1 0 k m).1 o i = m.1 o i := by unfold cf; exact (kI_at (o := o)).trans (if_neg h)
theorem cp_fr (q : Nat) (h : q < o ∨ o + 35 ≤ q) : (cpS o o1 m).1 q = m.1 q ∧ (cpS o o1 m).2 q = m.2 q := by
  constructor
  · simp (disch := omega) only [cpS, cpI, cpH, cf0_o, cl_1, cr_o, cf_o]
  · simp (disch := omega) only [cpS, cpI, cpH, cr_2, cf_2, cl_o]
section D
variable (hd : o + 35 ≤ o1 ∨ o1 + 35 ≤ o)
theorem cp_n : (o + 35 ≤ o1 ∨ o1 + 35 ≤ o) → (cpS o o1 m).1 (o + 2) 1 = m.1 (o1 + 2) 1 := fun hd => by simp (disch := omega) only [cpS, cpI, cpH, cf0_s, cf0_n, cf0_o, cr_2, cl_1, cf_2, cr_s, cl_s, cf_s, cf_n, cr_o, cl_o, cf_o]
theorem cp_m : (o + 35 ≤ o1 ∨ o1 + 35 ≤ o) → (cpS o o1 m).1 (o + 4) 1 = m.1 (o1 + 4) 1 := fun hd => by simp (disch := omega) only [cpS, cpI, cpH, cf0_s, cf0_n, cf0_o, cr_2, cl_1, cf_2, cr_s, cl_s, cf_s, cf_n, cr_o, cl_o, cf_o]
theorem cp_6 : (o + 35 ≤ o1 ∨ o1 + 35 ≤ o) → (cpS o o1 m).1 (o + 1) 6 = m.1 (o1 + 1) 6 := fun hd => by simp (disch := omega) only [cpS, cpI, cpH, cf0_s, cf0_n, cf0_o, cr_2, cl_1, cf_2, cr_s, cl_s, cf_s, cf_n, cr_o, cl_o, cf_o]
theorem cp_7 : (o + 35 ≤ o1 ∨ o1 + 35 ≤ o) → (cpS o o1 m).1 (o + 1) 7 = m.1 (o1 + 1) 7 := fun hd => by simp (disch := omega) only [cpS, cpI, cpH, cf0_s, cf0_n, cf0_o, cr_2, cl_1, cf_2, cr_s, cl_s, cf_s, cf_n, cr_o, cl_o, cf_o]
theorem cp_8 : (o + 35 ≤ o1 ∨ o1 + 35 ≤ o) → (cpS o o1 m).1 (o + 1) 8 = m.1 (o1 + 1) 8 := fun hd => by simp (disch := omega) only [cpS, cpI, cpH, cf0_s, cf0_n, cf0_o, cr_2, cl_1, cf_2, cr_s, cl_s, cf_s, cf_n, cr_o, cl_o, cf_o]
theorem cp_2 : (o + 35 ≤ o1 ∨ o1 + 35 ≤ o) → (cpS o o1 m).1 o 2 = m.1 o1 2 := fun hd => by simp (disch := omega) only [cpS, cpI, cpH, cf0_s, cf0_n, cf0_o, cr_2, cl_1, cf_2, cr_s, cl_s, cf_s, cf_n, cr_o, cl_o, cf_o]
theorem cp_5 : (o + 35 ≤ o1 ∨ o1 + 35 ≤ o) → (cpS o o1 m).1 o 5 = m.1 o1 5 := fun hd => by simp (disch := omega) only [cpS, cpI, cpH, cf0_s, cf0_n, cf0_o, cr_2, cl_1, cf_2, cr_s, cl_s, cf_s, cf_n, cr_o, cl_o, cf_o]
theorem cp_b : (o + 35 ≤ o1 ∨ o1 + 35 ≤ o) → (cpS o o1 m).1 o 7 = m.1 o1 7 := fun hd => by simp (disch := omega) only [cpS, cpI, cpH, cf0_s, cf0_n, cf0_o, cr_2, cl_1, cf_2, cr_s, cl_s, cf_s, cf_n, cr_o, cl_o, cf_o]
theorem cp_r7 {k : Nat} (hk : k < 10) : (o + 35 ≤ o1 ∨ o1 + 35 ≤ o) → (cpS o o1 m).1 (o + 7) k = m.1 (o1 + 7) k := fun hd => by simp (disch := omega) only [cpS, cpI, cpH, cf0_s, cf0_n, cf0_o, cr_2, cl_1, cf_2, cr_s, cl_s, cf_s, cf_n, cr_o, cl_o, cf_o]
theorem cp_r9 {k : Nat} (hk : k < 10) : (o + 35 ≤ o1 ∨ o1 + 35 ≤ o) → (cpS o o1 m).1 (o + 9) k = m.1 (o1 + 9) k := fun hd => by simp (disch := omega) only [cpS, cpI, cpH, cf0_s, cf0_n, cf0_o, cr_2, cl_1, cf_2, cr_s, cl_s, cf_s, cf_n, cr_o, cl_o, cf_o]
theorem cp_r11 {k : Nat} (hk : k < 10) : (o + 35 ≤ o1 ∨ o1 + 35 ≤ o) → (cpS o o1 m).1 (o + 11) k = m.1 (o1 + 11) k := fun hd => by simp (disch := omega) only [cpS, cpI, cpH, cf0_s, cf0_n, cf0_o, cr_2, cl_1, cf_2, cr_s, cl_s, cf_s, cf_n, cr_o, cl_o, cf_o]
theorem cp_r13 {k : Nat} (hk : k < 80) : (o + 35 ≤ o1 ∨ o1 + 35 ≤ o) → (cpS o o1 m).1 (o + 13) k = m.1 (o1 + 13) k := fun hd => by simp (disch := omega) only [cpS, cpI, cpH, cf0_s, cf0_n, cf0_o, cr_2, cl_1, cf_2, cr_s, cl_s, cf_s, cf_n, cr_o, cl_o, cf_o]
theorem cp_r16 {k : Nat} (hk : k < 8) : (o + 35 ≤ o1 ∨ o1 + 35 ≤ o) → (cpS o o1 m).1 (o + 16) k = m.1 (o1 + 16) k := fun hd => by simp (disch := omega) only [cpS, cpI, cpH, cf0_s, cf0_n, cf0_o, cr_2, cl_1, cf_2, cr_s, cl_s, cf_s, cf_n, cr_o, cl_o, cf_o]
theorem cp_r18 {k : Nat} (hk : k < 8) : (o + 35 ≤ o1 ∨ o1 + 35 ≤ o) → (cpS o o1 m).1 (o + 18) k = m.1 (o1 + 18) k := fun hd => by simp (disch := omega) only [cpS, cpI, cpH, cf0_s, cf0_n, cf0_o, cr_2, cl_1, cf_2, cr_s, cl_s, cf_s, cf_n, cr_o, cl_o, cf_o]
theorem cp_r24 {k : Nat} (hk : k < 200) : (o + 35 ≤ o1 ∨ o1 + 35 ≤ o) → (cpS o o1 m).1 (o + 24) k = m.1 (o1 + 24) k := fun hd => by simp (disch := omega) only [cpS, cpI, cpH, cf0_s, cf0_n, cf0_o, cr_2, cl_1, cf_2, cr_s, cl_s, cf_s, cf_n, cr_o, cl_o, cf_o]
theorem cp_r26 {k : Nat} (hk : k < 200) : (o + 35 ≤ o1 ∨ o1 + 35 ≤ o) → (cpS o o1 m).1 (o + 26) k = m.1 (o1 + 26) k := fun hd => by simp (disch := omega) only [cpS, cpI, cpH, cf0_s, cf0_n, cf0_o, cr_2, cl_1, cf_2, cr_s, cl_s, cf_s, cf_n, cr_o, cl_o, cf_o]
theorem cp_r28 {k : Nat} (hk : k < 8) : (o + 35 ≤ o1 ∨ o1 + 35 ≤ o) → (cpS o o1 m).1 (o + 28) k = m.1 (o1 + 28) k := fun hd => by simp (disch := omega) only [cpS, cpI, cpH, cf0_s, cf0_n, cf0_o, cr_2, cl_1, cf_2, cr_s, cl_s, cf_s, cf_n, cr_o, cl_o, cf_o]
theorem cp_r30 {k : Nat} (hk : k < 30) : (o + 35 ≤ o1 ∨ o1 + 35 ≤ o) → (cpS o o1 m).1 (o + 30) k = m.1 (o1 + 30) k := fun hd => by simp (disch := omega) only [cpS, cpI, cpH, cf0_s, cf0_n, cf0_o, cr_2, cl_1, cf_2, cr_s, cl_s, cf_s, cf_n, cr_o, cl_o, cf_o]
theorem cp_r32 {k : Nat} (hk : k < 30) : (o + 35 ≤ o1 ∨ o1 + 35 ≤ o) → (cpS o o1 m).1 (o + 32) k = m.1 (o1 + 32) k := fun hd => by simp (disch := omega) only [cpS, cpI, cpH, cf0_s, cf0_n, cf0_o, cr_2, cl_1, cf_2, cr_s, cl_s, cf_s, cf_n, cr_o, cl_o, cf_o]
theorem cp_r34 {k : Nat} (hk : k < 30) : (o + 35 ≤ o1 ∨ o1 + 35 ≤ o) → (cpS o o1 m).1 (o + 34) k = m.1 (o1 + 34) k := fun hd => by simp (disch := omega) only [cpS, cpI, cpH, cf0_s, cf0_n, cf0_o, cr_2, cl_1, cf_2, cr_s, cl_s, cf_s, cf_n, cr_o, cl_o, cf_o]
theorem cp_l3 {k : Nat} (hk : k < 10) : (o + 35 ≤ o1 ∨ o1 + 35 ≤ o) → (cpS o o1 m).2 (o + 3) k = m.2 (o1 + 3) k := fun hd => by simp (disch := omega) only [cpS, cpI, cpH, cf0_s, cf0_n, cf0_o, cr_2, cl_1, cf_2, cr_s, cl_s, cf_s, cf_n, cr_o, cl_o, cf_o]
theorem cp_l5 {k : Nat} (hk : k < 8) : (o + 35 ≤ o1 ∨ o1 + 35 ≤ o) → (cpS o o1 m).2 (o + 5) k = m.2 (o1 + 5) k := fun hd => by simp (disch := omega) only [cpS, cpI, cpH, cf0_s, cf0_n, cf0_o, cr_2, cl_1, cf_2, cr_s, cl_s, cf_s, cf_n, cr_o, cl_o, cf_o]
end D
theorem SR_cp (hv : Inv S) (hd : o + 35 ≤ o1 ∨ o1 + 35 ≤ o) (h : SR m o1 S N) : SR (cpS o o1 m) o S N := by
  have n10 := iv_n10 hv
  have m8 := iv_m8 hv
  have h24 := iv_sp24 hv
  have r30 := iv_sr30 hv
  have b30 := iv_sb30 hv
  obtain ⟨hI, hN, hH, a1, a2, a3, a4, a5, a6, a7⟩ := h
  obtain ⟨i1, i2, i3, i4, i5, i6, i7, i8, i9, i10⟩ := hI
  refine ⟨⟨(cp_n hd).trans i1, (cp_m hd).trans i2, (cp_6 hd).trans i3, (cp_7 hd).trans i4, (cp_8 hd).trans i5, fun x hx => (cp_r7 hx hd).trans (i6 x hx), fun x hx => (cp_r9 hx hd).trans (i7 x hx), fun x hx => (cp_r11 hx hd).trans (i8 x hx), fun k x hk hx => (cp_r13 (by omega) hd).trans (i9 k x hk hx), i10⟩, ⟨fun x hx => ?_, fun k hk => ?_⟩, ⟨fun k hk => (cp_r16 hk hd).trans (hH.1 k hk), fun k hk => (cp_r18 hk hd).trans (hH.2 k hk)⟩, (cp_2 hd).trans a1, fun t k ht hk => (cp_r24 (by omega) hd).trans (a2 t k ht hk), fun t k h1 h2 hk => (cp_r26 (by omega) hd).trans (a3 t k h1 h2 hk), (cp_5 hd).trans a4, fun k hk => (cp_r28 (by omega) hd).trans (a5 k hk), (cp_b hd).trans a6, fun i hi => ⟨(cp_r30 (by omega) hd).trans (a7 i hi).1, fun q => (cp_r32 (by omega) hd).trans ((a7 i hi).2.1 q), fun q q2 => (cp_r34 (by omega) hd).trans ((a7 i hi).2.2 q q2)⟩⟩
  · show WR (N x) ((cpS o o1 m).2 (o + 3) x)
    rw [cp_l3 (by omega) hd]
    exact hN.1 x hx
  · show WR (N (10 + k)) ((cpS o o1 m).2 (o + 5) k)
    rw [cp_l5 (by omega) hd]
    exact hN.2 k hk
theorem kp_cp {A : Nat → Bool} (h : ∀ q, o ≤ q → q < o + 35 → nw A q = true) : kp A m (cpS o o1 m) :=
  kp_fr (l := List.range' o 35) ⟨fun q hq => (cp_fr q (by rw [List.mem_range'_1] at hq; omega)).1, fun q hq => (cp_fr q (by rw [List.mem_range'_1] at hq; omega)).2⟩ (fun q hq => by rw [List.mem_range'_1] at hq; exact h q (by omega) (by omega))
end CPR
theorem SZ_5 : SZ z_Law 5 := by refine ⟨rfl, rfl, rfl, rfl, rfl, rfl, rfl, rfl, rfl, rfl, rfl, rfl, rfl, rfl⟩
theorem SZ_60 : SZ z_Law 60 := by refine ⟨rfl, rfl, rfl, rfl, rfl, rfl, rfl, rfl, rfl, rfl, rfl, rfl, rfl, rfl⟩
theorem SZ_95 : SZ z_Law 95 := by refine ⟨rfl, rfl, rfl, rfl, rfl, rfl, rfl, rfl, rfl, rfl, rfl, rfl, rfl, rfl⟩
theorem SZ_130 : SZ z_Law 130 := by refine ⟨rfl, rfl, rfl, rfl, rfl, rfl, rfl, rfl, rfl, rfl, rfl, rfl, rfl, rfl⟩
/-! a stretch of a row written over -/
def kP (m : Mm) (o a n : Nat) (g : Nat → Int32) : Mm := kF m o (fb_put (m.1 o) g a n)
def kQ (m : Mm) (o a n : Nat) (g : Nat → Int64) : Mm := kG m o (fb_put (m.2 o) g a n)
section PUT
variable {m : Mm} {o a n i : Nat} {g : Nat → Int32} {g2 : Nat → Int64}
theorem kP_0 : kP m o a 0 g = m := by unfold kP; exact kF_id m o (fb_put_0 _ _ _)
theorem kQ_0 : kQ m o a 0 g2 = m := by unfold kQ; exact kG_id m o (fb_put_0 _ _ _)
theorem kP_o {q : Nat} (h : q ≠ o) : (kP m o a n g).1 q = m.1 q := kF_o _ _ _ h
theorem kQ_o {q : Nat} (h : q ≠ o) : (kQ m o a n g2).2 q = m.2 q := kG_o _ _ _ h
theorem kP_2 : (kP m o a n g).2 = m.2 := rfl
theorem kQ_1 : (kQ m o a n g2).1 = m.1 := rfl
theorem kP_s : (kP m o a n g).1 o = fb_put (m.1 o) g a n := kF_s _ _ _
theorem kQ_s : (kQ m o a n g2).2 o = fb_put (m.2 o) g2 a n := kG_s _ _ _
theorem kP_in {k : Nat} (h1 : a ≤ k) (h2 : k < a + n) : (kP m o a n g).1 o k = g (k - a) := by rw [kP_s, fb_put_in h1 h2]
theorem kP_out {k : Nat} (h : k < a ∨ a + n ≤ k) : (kP m o a n g).1 o k = m.1 o k := by rw [kP_s, fb_put_out h]
theorem kQ_in {k : Nat} (h1 : a ≤ k) (h2 : k < a + n) : (kQ m o a n g2).2 o k = g2 (k - a) := by rw [kQ_s, fb_put_in h1 h2]
theorem kQ_out {k : Nat} (h : k < a ∨ a + n ≤ k) : (kQ m o a n g2).2 o k = m.2 o k := by rw [kQ_s, fb_put_out h]
theorem put_succ {α : Type} {f g : Nat → α} {a n : Nat} : (fun b => if b = a + n then g n else fb_put f g a n b) = fb_put f g a (n + 1) := by
  funext b
  unfold fb_put
  by_cases h : b = a + n
  · subst h
    rw [if_pos rfl, if_pos (by omega), Nat.add_sub_cancel_left]
  · rw [if_neg h]
    by_cases h2 : a ≤ b ∧ b < a + n
    · rw [if_pos h2, if_pos (by omega)]
    · rw [if_neg h2, if_neg (by omega)]
theorem kP_succ : kI (kP m o a n g) o (a + n) (g n) = kP m o a (n + 1) g := by
  rw [kI_kF]
  unfold kP
  rw [kF_kF, kF_s, put_succ]
theorem kQ_succ : kL (kQ m o a n g2) o (a + n) (g2 n) = kQ m o a (n + 1) g2 := by
  rw [kL_kG]
  unfold kQ
  rw [kG_kG, kG_s, put_succ]
theorem kp_kP {A : Nat → Bool} (h : nw A o = true) : kp A m (kP m o a n g) := kp_kF h
theorem kp_kQ {A : Nat → Bool} (h : nw A o = true) : kp A m (kQ m o a n g2) := kp_kG h
end PUT
section IMG
variable {σ : Mm}
/-- the reference keeps: what stands in its rows behind it -/
theorem md_img {m : Mm} {k : Nat} (hk : k < 2) : mm_lp (f_Mod_image_L18 z_Law 169 (nI k)) (nI 0, m) = some (kP m 187 (744 * k) 744 (m.1 171)) := by
  refine lp_go (fun i => (nI i, kP m 187 (744 * k) i (m.1 171))) 744 (Prod.ext rfl kP_0.symm) (fun i hi => ?_) ?_
  · unfold f_Mod_image_L18
    simp (disch := omega) only [fl, fmN, mm_lt, Nat.reduceAdd, Option.bind_some, lt_t, lt_f, le_t, le_f, eq_f, eq_self, nI_add, nI_mul, nI_sub, ↓reduceIte, zq_171, zq_187, ld_nI, st_nI, kP_o]
    rw [kP_succ]
  · unfold f_Mod_image_L18
    simp (disch := omega) only [fl, fmN, mm_lt, Nat.reduceAdd, Option.bind_some, lt_t, lt_f, le_t, le_f, eq_f, eq_self, nI_add, nI_mul, nI_sub, ↓reduceIte]
theorem md_img2 {m : Mm} {k : Nat} (hk : k < 2) : mm_lp (f_Mod_image_L51 z_Law 169 (nI k)) (nI 0, m) = some (kQ m 188 (18 * k) 18 (m.2 174)) := by
  refine lp_go (fun i => (nI i, kQ m 188 (18 * k) i (m.2 174))) 18 (Prod.ext rfl kQ_0.symm) (fun i hi => ?_) ?_
  · unfold f_Mod_image_L51
    simp (disch := omega) only [fl, fmN, mm_lt, Nat.reduceAdd, Option.bind_some, lt_t, lt_f, le_t, le_f, eq_f, eq_self, nI_add, nI_mul, nI_sub, ↓reduceIte, zq_174, zq_188, ldL_nI, stL_nI, kQ_o]
    rw [kQ_succ]
  · unfold f_Mod_image_L51
    simp (disch := omega) only [fl, fmN, mm_lt, Nat.reduceAdd, Option.bind_some, lt_t, lt_f, le_t, le_f, eq_f, eq_self, nI_add, nI_mul, nI_sub, ↓reduceIte]
theorem md_rst {m : Mm} {k : Nat} (hk : k < 2) : mm_lp (f_Mod_restore_L27 z_Law 169 (nI k)) (nI 0, m) = some (kP m 171 0 744 (fun i => m.1 187 (744 * k + i))) := by
  refine lp_go (fun i => (nI i, kP m 171 0 i (fun i => m.1 187 (744 * k + i)))) 744 (Prod.ext rfl kP_0.symm) (fun i hi => ?_) ?_
  · unfold f_Mod_restore_L27
    simp (disch := omega) only [fl, fmN, mm_lt, Nat.reduceAdd, Option.bind_some, lt_t, lt_f, le_t, le_f, eq_f, eq_self, nI_add, nI_mul, nI_sub, ↓reduceIte, zq_171, zq_187, ld_nI, st_nI, kP_o]
    have := kP_succ (m := m) (o := 171) (a := 0) (n := i) (g := fun i => m.1 187 (744 * k + i))
    rw [Nat.zero_add] at this
    rw [← this]
  · unfold f_Mod_restore_L27
    simp (disch := omega) only [fl, fmN, mm_lt, Nat.reduceAdd, Option.bind_some, lt_t, lt_f, le_t, le_f, eq_f, eq_self, nI_add, nI_mul, nI_sub, ↓reduceIte]
theorem md_rst2 {m : Mm} {k : Nat} (hk : k < 2) : mm_lp (f_Mod_restore_L60 z_Law 169 (nI k)) (nI 0, m) = some (kQ m 174 0 18 (fun i => m.2 188 (18 * k + i))) := by
  refine lp_go (fun i => (nI i, kQ m 174 0 i (fun i => m.2 188 (18 * k + i)))) 18 (Prod.ext rfl kQ_0.symm) (fun i hi => ?_) ?_
  · unfold f_Mod_restore_L60
    simp (disch := omega) only [fl, fmN, mm_lt, Nat.reduceAdd, Option.bind_some, lt_t, lt_f, le_t, le_f, eq_f, eq_self, nI_add, nI_mul, nI_sub, ↓reduceIte, zq_174, zq_188, ldL_nI, stL_nI, kQ_o]
    have := kQ_succ (m := m) (o := 174) (a := 0) (n := i) (g2 := fun i => m.2 188 (18 * k + i))
    rw [Nat.zero_add] at this
    rw [← this]
  · unfold f_Mod_restore_L60
    simp (disch := omega) only [fl, fmN, mm_lt, Nat.reduceAdd, Option.bind_some, lt_t, lt_f, le_t, le_f, eq_f, eq_self, nI_add, nI_mul, nI_sub, ↓reduceIte]
/-- what image() leaves in the reference -/
def imM (m : Mm) (k : Nat) : Mm := kI (kQ (kP m 187 (744 * k) 744 (m.1 171)) 188 (18 * k) 18 (m.2 174)) 189 k (nI 1)
theorem im_s {m : Mm} {k i j : Nat} (hi : i < 744) (hj : j = 744 * k + i) : (imM m k).1 187 j = m.1 171 i := by
  subst hj
  show (kP m 187 (744 * k) 744 (m.1 171)).1 187 (744 * k + i) = _
  rw [kP_in (by omega) (by omega), Nat.add_sub_cancel_left]
theorem im_s2 {m : Mm} {k i j : Nat} (hi : i < 18) (hj : j = 18 * k + i) : (imM m k).2 188 j = m.2 174 i := by
  subst hj
  show (kQ (kP m 187 (744 * k) 744 (m.1 171)) 188 (18 * k) 18 (m.2 174)).2 188 (18 * k + i) = _
  rw [kQ_in (by omega) (by omega), Nat.add_sub_cancel_left]
theorem md_image {m : Mm} {k : Nat} (hk : k < 2) : f_Mod_image z_Law m 169 (nI k) = some (nI 1, imM (kI m 169 0 (nI 0)) k) := by
  unfold f_Mod_image imM
  simp (disch := omega) only [fl, fmN, mm_lt, Nat.reduceAdd, Option.bind_some, lt_t, lt_f, le_t, le_f, eq_f, eq_self, nI_add, nI_mul, nI_sub, ↓reduceIte, md_isIn (v := nI k) rfl, md_img hk, md_img2 hk, zq_189, st_nI]
  rfl
theorem op_image (hR : RL σ) (a : Int32) : ∃ r m1 m2, f_Hat_image z_Law σ 0 a = some (r, m1) ∧ f_Mod_image z_Law m1 169 a = some (r, m2) ∧ RL m2 := by
  have hv := rl_v (rs hR)
  have hS := rl_S (rs hR)
  have hI := hR.2.2.2.2.2.2.1
  rcases arg_of a 2 (by decide) with ⟨k, hk, rfl⟩ | h
  · match k, hk with
    | 0, _ =>
      refine ⟨nI 1, kI (cpS 95 60 σ) 0 11 (nI 1), _, ?_, md_image (by decide), ?_⟩
      · unfold f_Hat_image f_Hat_image_J44
        simp (disch := omega) only [fl, fmN, mm_lt, Nat.reduceAdd, Option.bind_some, lt_t, lt_f, le_t, le_f, eq_f, eq_self, nI_add, nI_mul, nI_sub, ↓reduceIte, st_copy SZ_95 SZ_60]
      · have k1 : kp AI σ (cpS 95 60 σ) := kp_cp (fun q h1 h2 => by simp [nw, AI]; omega)
        have k2 : kp AI (cpS 95 60 σ) (imM (kI (kI (cpS 95 60 σ) 0 11 (nI 1)) 169 0 (nI 0)) 0) := kp_tr (kp_s0 (by decide)) (kp_tr (kp_s169 (by decide)) (kp_tr (kp_kP (by decide)) (kp_tr (kp_kQ (by decide)) (kp_kI (by decide)))))
        refine RL_I hR (kp_tr k1 k2) ⟨rfl, Or.inr rfl, fun _ => ⟨?_, ?_⟩, ?_, ?_, fun h => ?_⟩
        · refine SR_cong (SR_c (SR_cp hv (by decide) hS) (fun j hj => ?_) (fun j hj => ?_)) hv (fun i hi => ?_) (fun i hi => ?_)
          · exact (kI_o _ _ _ _ (by omega)).trans ((kP_o (by omega)).trans ((kI_o _ _ _ _ (by omega)).trans (kI_o _ _ _ _ (by omega))))
          · exact kQ_o (by omega)
          · exact (im_s hi (by omega)).trans (congrFun (cp_fr (m := σ) (o := 95) (o1 := 60) 171 (by decide)).1 i)
          · exact (im_s2 hi (by omega)).trans (congrFun (cp_fr (m := σ) (o := 95) (o1 := 60) 174 (by decide)).2 i)
        · exact Inv_cong hv (fun i hi => (im_s hi (by omega)).trans (congrFun (cp_fr (m := σ) (o := 95) (o1 := 60) 171 (by decide)).1 i))
        · show (cpS 95 60 σ).1 0 12 = (cpS 95 60 σ).1 189 1
          rw [(cp_fr 0 (by decide)).1, (cp_fr 189 (by decide)).1]
          exact hI.2.2.2.1
        · show (cpS 95 60 σ).1 0 12 = nI 0 ∨ (cpS 95 60 σ).1 0 12 = nI 1
          rw [(cp_fr 0 (by decide)).1]
          exact hI.2.2.2.2.1
        · have h' : (cpS 95 60 σ).1 0 12 = nI 1 := h
          rw [(cp_fr 0 (by decide)).1] at h'
          have h2 := hI.2.2.2.2.2 h'
          have e1 : ∀ i, (imM (kI (kI (cpS 95 60 σ) 0 11 (nI 1)) 169 0 (nI 0)) 0).1 187 (744 + i) = σ.1 187 (744 + i) := fun i => (kP_out (by omega)).trans (congrFun (cp_fr (m := σ) (o := 95) (o1 := 60) 187 (by decide)).1 _)
          have e2 : ∀ i, (imM (kI (kI (cpS 95 60 σ) 0 11 (nI 1)) 169 0 (nI 0)) 0).2 188 (18 + i) = σ.2 188 (18 + i) := fun i => (kQ_out (by omega)).trans (congrFun (cp_fr (m := σ) (o := 95) (o1 := 60) 188 (by decide)).2 _)
          refine ⟨SR_cong (SR_c h2.1 (fun j hj => ?_) (fun j hj => ?_)) h2.2 (fun i _ => e1 i) (fun i _ => e2 i), Inv_cong h2.2 (fun i _ => e1 i)⟩
          · exact (kI_o _ _ _ _ (by omega)).trans ((kP_o (by omega)).trans ((kI_o _ _ _ _ (by omega)).trans ((kI_o _ _ _ _ (by omega)).trans (cp_fr (130 + j) (by omega)).1)))
          · exact (kQ_o (by omega)).trans (cp_fr (130 + j) (by omega)).2
    | 1, _ =>
      refine ⟨nI 1, kI (cpS 130 60 σ) 0 12 (nI 1), _, ?_, md_image (by decide), ?_⟩
      · unfold f_Hat_image f_Hat_image_J44
        simp (disch := omega) only [fl, fmN, mm_lt, Nat.reduceAdd, Option.bind_some, lt_t, lt_f, le_t, le_f, eq_f, eq_self, nI_add, nI_mul, nI_sub, ↓reduceIte, st_copy SZ_130 SZ_60]
      · have k1 : kp AI σ (cpS 130 60 σ) := kp_cp (fun q h1 h2 => by simp [nw, AI]; omega)
        have k2 : kp AI (cpS 130 60 σ) (imM (kI (kI (cpS 130 60 σ) 0 12 (nI 1)) 169 0 (nI 0)) 1) := kp_tr (kp_s0 (by decide)) (kp_tr (kp_s169 (by decide)) (kp_tr (kp_kP (by decide)) (kp_tr (kp_kQ (by decide)) (kp_kI (by decide)))))
        refine RL_I hR (kp_tr k1 k2) ⟨?_, ?_, fun h => ?_, rfl, Or.inr rfl, fun _ => ⟨?_, ?_⟩⟩
        · show (cpS 130 60 σ).1 0 11 = (cpS 130 60 σ).1 189 0
          rw [(cp_fr 0 (by decide)).1, (cp_fr 189 (by decide)).1]
          exact hI.1
        · show (cpS 130 60 σ).1 0 11 = nI 0 ∨ (cpS 130 60 σ).1 0 11 = nI 1
          rw [(cp_fr 0 (by decide)).1]
          exact hI.2.1
        · have h' : (cpS 130 60 σ).1 0 11 = nI 1 := h
          rw [(cp_fr 0 (by decide)).1] at h'
          have h2 := hI.2.2.1 h'
          have e1 : ∀ i, i < 744 → (imM (kI (kI (cpS 130 60 σ) 0 12 (nI 1)) 169 0 (nI 0)) 1).1 187 i = σ.1 187 i := fun i hi => (kP_out (by omega)).trans (congrFun (cp_fr (m := σ) (o := 130) (o1 := 60) 187 (by decide)).1 _)
          have e2 : ∀ i, i < 18 → (imM (kI (kI (cpS 130 60 σ) 0 12 (nI 1)) 169 0 (nI 0)) 1).2 188 i = σ.2 188 i := fun i hi => (kQ_out (by omega)).trans (congrFun (cp_fr (m := σ) (o := 130) (o1 := 60) 188 (by decide)).2 _)
          refine ⟨SR_cong (SR_c h2.1 (fun j hj => ?_) (fun j hj => ?_)) h2.2 e1 e2, Inv_cong h2.2 e1⟩
          · exact (kI_o _ _ _ _ (by omega)).trans ((kP_o (by omega)).trans ((kI_o _ _ _ _ (by omega)).trans ((kI_o _ _ _ _ (by omega)).trans (cp_fr (95 + j) (by omega)).1)))
          · exact (kQ_o (by omega)).trans (cp_fr (95 + j) (by omega)).2
        · refine SR_cong (SR_c (SR_cp hv (by decide) hS) (fun j hj => ?_) (fun j hj => ?_)) hv (fun i hi => ?_) (fun i hi => ?_)
          · exact (kI_o _ _ _ _ (by omega)).trans ((kP_o (by omega)).trans ((kI_o _ _ _ _ (by omega)).trans (kI_o _ _ _ _ (by omega))))
          · exact kQ_o (by omega)
          · exact (im_s hi (by omega)).trans (congrFun (cp_fr (m := σ) (o := 130) (o1 := 60) 171 (by decide)).1 i)
          · exact (im_s2 hi (by omega)).trans (congrFun (cp_fr (m := σ) (o := 130) (o1 := 60) 174 (by decide)).2 i)
        · exact Inv_cong hv (fun i hi => (im_s hi (by omega)).trans (congrFun (cp_fr (m := σ) (o := 130) (o1 := 60) 171 (by decide)).1 i))
  · refine ⟨nI 0, σ, kI σ 169 0 (nI 0), ?_, ?_, rl_th hR⟩
    · unfold f_Hat_image f_Hat_image_J44
      simp (disch := omega) only [fl, fmN, mm_lt, Nat.reduceAdd, Option.bind_some, lt_t, lt_f, le_t, le_f, eq_f, eq_self, nI_add, nI_mul, nI_sub, ↓reduceIte, out_ne h]
    · unfold f_Mod_image
      simp (disch := omega) only [fl, fmN, mm_lt, Nat.reduceAdd, Option.bind_some, lt_t, lt_f, le_t, le_f, eq_f, eq_self, nI_add, nI_mul, nI_sub, ↓reduceIte, out_md h]
theorem md_restore {m : Mm} {k : Nat} (hk : k < 2) (h : m.1 189 k = nI 1) : f_Mod_restore z_Law m 169 (nI k) = some (nI 1, kQ (kP (kI m 169 0 (nI 0)) 171 0 744 (fun i => m.1 187 (744 * k + i))) 174 0 18 (fun i => m.2 188 (18 * k + i))) := by
  have h' : (kI m 169 0 (nI 0)).1 189 k = nI 1 := h
  unfold f_Mod_restore
  simp (disch := omega) only [fl, fmN, mm_lt, Nat.reduceAdd, Option.bind_some, lt_t, lt_f, le_t, le_f, eq_f, eq_self, nI_add, nI_mul, nI_sub, ↓reduceIte, md_isIn (v := nI k) rfl, md_rst hk, md_rst2 hk, zq_189, ld_nI, h']
  rfl
theorem md_restore0 {m : Mm} {k : Nat} (hk : k < 2) (h : m.1 189 k = nI 0) : f_Mod_restore z_Law m 169 (nI k) = some (nI 0, kI m 169 0 (nI 0)) := by
  have h' : (kI m 169 0 (nI 0)).1 189 k = nI 0 := h
  unfold f_Mod_restore
  simp (disch := omega) only [fl, fmN, mm_lt, Nat.reduceAdd, Option.bind_some, lt_t, lt_f, le_t, le_f, eq_f, eq_self, nI_add, nI_mul, nI_sub, ↓reduceIte, md_isIn (v := nI k) rfl, zq_189, ld_nI, h']
theorem op_restore (hR : RL σ) (a : Int32) : ∃ r m1 m2, f_Hat_restore z_Law σ 0 a = some (r, m1) ∧ f_Mod_restore z_Law m1 169 a = some (r, m2) ∧ RL m2 := by
  have hI := hR.2.2.2.2.2.2.1
  have fin : ∀ (b : Nat) (S1 : Nat → Int32) (N1 : Nat → Int64), (b = 95 ∨ b = 130) → SR σ b S1 N1 → Inv S1 → RL (kQ (kP (kI (cpS 60 b σ) 169 0 (nI 0)) 171 0 744 S1) 174 0 18 N1) := by
    intro b S1 N1 hb h1 h2
    have k1 : kp AN σ (cpS 60 b σ) := kp_cp (fun q h1 h2 => by simp [nw, AN]; omega)
    have k2 : kp AN (cpS 60 b σ) (kQ (kP (kI (cpS 60 b σ) 169 0 (nI 0)) 171 0 744 S1) 174 0 18 N1) := kp_tr (kp_s169 (by decide)) (kp_tr (kp_kP (by decide)) (kp_kQ (by decide)))
    have eS : ∀ i, i < 744 → (kQ (kP (kI (cpS 60 b σ) 169 0 (nI 0)) 171 0 744 S1) 174 0 18 N1).1 171 i = S1 i := fun i hi => by
      show (kP (kI (cpS 60 b σ) 169 0 (nI 0)) 171 0 744 S1).1 171 i = _
      exact kP_in (a := 0) (n := 744) (k := i) (by omega) (by omega)
    refine RL_N hR (kp_tr k1 k2) ⟨?_, ?_⟩
    · refine SR_cong (SR_c (SR_cp h2 (by omega) h1) (fun j hj => ?_) (fun j hj => ?_)) h2 (fun i hi => ?_) (fun i hi => ?_)
      · exact (kP_o (by omega)).trans (kI_o _ _ _ _ (by omega))
      · exact kQ_o (by omega)
      · exact eS i hi
      · exact kQ_in (a := 0) (n := 18) (k := i) (by omega) (by omega)
    · exact Inv_cong h2 eS
  rcases arg_of a 2 (by decide) with ⟨k, hk, rfl⟩ | h
  · match k, hk with
    | 0, _ =>
      rcases hI.2.1 with e | e
      · refine ⟨nI 0, σ, kI σ 169 0 (nI 0), ?_, md_restore0 (by decide) (hI.1 ▸ e), rl_th hR⟩
        unfold f_Hat_restore f_Hat_restore_J24
        simp (disch := omega) only [fl, fmN, mm_lt, Nat.reduceAdd, Option.bind_some, lt_t, lt_f, le_t, le_f, eq_f, eq_self, nI_add, nI_mul, nI_sub, ↓reduceIte, e]
      · have h1 := hI.2.2.1 e
        refine ⟨nI 1, cpS 60 95 σ, _, ?_, md_restore (by decide) ((congrFun (cp_fr (m := σ) (o := 60) (o1 := 95) 189 (by decide)).1 0).trans (hI.1 ▸ e)), ?_⟩
        · unfold f_Hat_restore
          simp (disch := omega) only [fl, fmN, mm_lt, Nat.reduceAdd, Option.bind_some, lt_t, lt_f, le_t, le_f, eq_f, eq_self, nI_add, nI_mul, nI_sub, ↓reduceIte, e, st_copy SZ_60 SZ_95]
        · rw [(cp_fr (m := σ) (o := 60) (o1 := 95) 187 (by decide)).1, (cp_fr (m := σ) (o := 60) (o1 := 95) 188 (by decide)).2]
          have e1 : (fun i => σ.1 187 (744 * 0 + i)) = σ.1 187 := by funext i; rw [Nat.mul_zero, Nat.zero_add]
          have e2 : (fun i => σ.2 188 (18 * 0 + i)) = σ.2 188 := by funext i; rw [Nat.mul_zero, Nat.zero_add]
          rw [e1, e2]
          exact fin 95 _ _ (Or.inl rfl) h1.1 h1.2
    | 1, _ =>
      rcases hI.2.2.2.2.1 with e | e
      · refine ⟨nI 0, σ, kI σ 169 0 (nI 0), ?_, md_restore0 (by decide) (hI.2.2.2.1 ▸ e), rl_th hR⟩
        unfold f_Hat_restore f_Hat_restore_J24
        simp (disch := omega) only [fl, fmN, mm_lt, Nat.reduceAdd, Option.bind_some, lt_t, lt_f, le_t, le_f, eq_f, eq_self, nI_add, nI_mul, nI_sub, ↓reduceIte, e]
      · have h1 := hI.2.2.2.2.2 e
        refine ⟨nI 1, cpS 60 130 σ, _, ?_, md_restore (by decide) ((congrFun (cp_fr (m := σ) (o := 60) (o1 := 130) 189 (by decide)).1 1).trans (hI.2.2.2.1 ▸ e)), ?_⟩
        · unfold f_Hat_restore f_Hat_restore_J24
          simp (disch := omega) only [fl, fmN, mm_lt, Nat.reduceAdd, Option.bind_some, lt_t, lt_f, le_t, le_f, eq_f, eq_self, nI_add, nI_mul, nI_sub, ↓reduceIte, e, st_copy SZ_60 SZ_130]
        · rw [(cp_fr (m := σ) (o := 60) (o1 := 130) 187 (by decide)).1, (cp_fr (m := σ) (o := 60) (o1 := 130) 188 (by decide)).2]
          exact fin 130 _ _ (Or.inr rfl) h1.1 h1.2
  · refine ⟨nI 0, σ, kI σ 169 0 (nI 0), ?_, ?_, rl_th hR⟩
    · unfold f_Hat_restore f_Hat_restore_J24
      simp (disch := omega) only [fl, fmN, mm_lt, Nat.reduceAdd, Option.bind_some, lt_t, lt_f, le_t, le_f, eq_f, eq_self, nI_add, nI_mul, nI_sub, ↓reduceIte, out_ne h]
    · unfold f_Mod_restore
      simp (disch := omega) only [fl, fmN, mm_lt, Nat.reduceAdd, Option.bind_some, lt_t, lt_f, le_t, le_f, eq_f, eq_self, nI_add, nI_mul, nI_sub, ↓reduceIte, out_md h]
end IMG
