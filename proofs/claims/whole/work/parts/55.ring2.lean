section RING2
variable {σ m u : Mm} {S : Nat → Int32}
/-- rings of one length; of all -/
noncomputable def rgs (S : Nat → Int32) (L : Nat) : Nat → Option (Nat → Nat) := fun a => rg (wB S) (sm S) (L - 1) (fun _ => a) 1
noncomputable def rgL (S : Nat → Int32) (L : Nat) : Option (Nat × (Nat → Nat)) := (fsome (rgs S L) 0 (sm S)).map (fun p => (L, p))
theorem hat_len (hv : Inv S) {L : Nat} (hL2 : 2 ≤ L) (hLc : L ≤ sm S) : ∀ r v m, v + r = sm S → m.1 64 1 = nI (sm S) → (∀ a, a < 8 → m.1 46 a = wi S a) → (∃ p' m', fsome (rgs S L) v (sm S - v) = some p' ∧ mm_lp (f_Rings_find_L22 z_Law 40 61 74 (nI L)) (nI v, m) = some (.inl (nI L, m')) ∧ (∀ q, q ≠ 44 → q ≠ 42 → q ≠ 40 → m'.1 q = m.1 q) ∧ (∀ k, k ≠ 1 → m'.1 40 k = m.1 40 k) ∧ m'.2 = m.2 ∧ m'.1 40 1 = nI L ∧ ∀ i, i < L → m'.1 42 i = nI (p' i)) ∨ (∃ m', fsome (rgs S L) v (sm S - v) = none ∧ mm_lp (f_Rings_find_L22 z_Law 40 61 74 (nI L)) (nI v, m) = some (.inr m') ∧ (∀ q, q ≠ 44 → m'.1 q = m.1 q) ∧ m'.2 = m.2) := by
  have m8 := iv_m8 hv
  intro r
  induction r with
  | zero =>
    intro v m hvr hm hw
    refine Or.inr ⟨m, fs_end (by omega), mm_lp_done ?_, fun _ _ => rfl, rfl⟩
    unfold f_Rings_find_L22
    simp (disch := omega) only [fl, fmN, mm_lt, Nat.reduceAdd, Option.bind_some, lt_t, lt_f, le_t, le_f, eq_f, eq_self, nI_add, nI_mul, nI_sub, ↓reduceIte, hm]
  | succ r ih =>
    intro v m hvr hm hw
    have hvc : v < sm S := by omega
    obtain ⟨res, m1, e1, c1, c2, c3⟩ := hat_closes hv (L := L) (by omega) (L - 1) 9 (fun _ => v) 1 (kI m 44 0 (nI v)) (nI 1 <<< (nI v &&& nI 31)) (by omega) (by omega) (by omega) (fun i hi => by rw [kI_at, if_pos (by omega)]) (fun i hi => hvc) (fun a ha => by rw [kI_o _ _ _ _ (by decide)]; exact hw a ha) (fun j hj => by
      rw [b_one (by omega) hj]
      unfold nwp
      by_cases g : j = v
      · rw [decide_eq_true g, decide_eq_false (fun q => q 0 (by omega) g.symm)]; rfl
      · rw [decide_eq_false g, decide_eq_true (show ∀ i, i < 1 → (fun _ => v) i ≠ j from fun i hi q => g q.symm)]; rfl)
    have hstep : ∀ y, (if res = nI 0 then some (Sum.inl (nI (v + 1), m1)) else (f_Row_copyFrom z_Law m1 41 43).bind fun q65 => some (Sum.inr (Sum.inl (nI L, kI q65 40 1 (nI L))))) = y → f_Rings_find_L22 z_Law 40 61 74 (nI L) (nI v, m) = y := by
      intro y hy
      rw [← hy]
      unfold f_Rings_find_L22
      simp (disch := omega) only [fl, fmN, mm_lt, Nat.reduceAdd, Option.bind_some, lt_t, lt_f, le_t, le_f, eq_f, eq_self, nI_add, nI_mul, nI_sub, ↓reduceIte, hm, row_putE (p := 44) (k := 0) rfl zq_44, e1]
    rcases c3 with ⟨p', g1, g2, g3⟩ | ⟨g1, g2, g3⟩
    · refine Or.inl ⟨p', kI (kF m1 42 (fun k => if k < 8 then m1.1 44 k else m1.1 42 k)) 40 1 (nI L), fs_yes hvc g1, mm_lp_done (hstep _ ?_), fun q q1 q2 q3 => ?_, fun k hk => ?_, c2, ?_, fun i hi => ?_⟩
      · rw [g2, if_neg (by decide), row_copy (o := 41) (o1 := 43) (n := 8) rfl rfl (by decide) (by decide)]
        rfl
      · rw [kI_o _ _ _ _ q3, kF_o _ _ _ q2, c1 q q1, kI_o _ _ _ _ q1]
      · rw [kI_at, if_neg hk, kF_o _ _ _ (by decide), c1 40 (by decide), kI_o _ _ _ _ (by decide)]
      · rw [kI_at, if_pos rfl]
      · rw [kI_o _ _ _ _ (by decide), kF_s, if_pos (by omega)]; exact g3 i hi
    · rcases ih (v + 1) m1 (by omega) (by rw [c1 64 (by decide), kI_o _ _ _ _ (by decide)]; exact hm) (fun a ha => by rw [c1 46 (by decide), kI_o _ _ _ _ (by decide)]; exact hw a ha) with ⟨p', m', f1, f2, f3, f4, f5, f6, f7⟩ | ⟨m', f1, f2, f3, f4⟩
      · refine Or.inl ⟨p', m', ?_, (mm_lp_step (hstep _ (by rw [g2, if_pos rfl]))).trans f2, fun q q1 q2 q3 => (f3 q q1 q2 q3).trans ((c1 q q1).trans (kI_o _ _ _ _ q1)), fun k hk => ?_, f5.trans c2, f6, f7⟩
        · rw [fs_no hvc g1]; exact f1
        · rw [f4 k hk, c1 40 (by decide), kI_o _ _ _ _ (by decide)]
      · refine Or.inr ⟨m', ?_, (mm_lp_step (hstep _ (by rw [g2, if_pos rfl]))).trans f2, fun q q1 => (f3 q q1).trans ((c1 q q1).trans (kI_o _ _ _ _ q1)), f4.trans c2⟩
        rw [fs_no hvc g1]; exact f1
theorem hat_find (hv : Inv S) : ∀ r L m, L + r = sm S + 1 → 2 ≤ L → m.1 64 1 = nI (sm S) → (∀ a, a < 8 → m.1 46 a = wi S a) → (∃ L' p' m', fsome (rgL S) L (sm S + 1 - L) = some (L', p') ∧ 2 ≤ L' ∧ L' ≤ sm S ∧ mm_lp (f_Rings_find_L8 z_Law 40 61 74) (nI L, m) = some (.inl (nI L', m')) ∧ (∀ q, q ≠ 44 → q ≠ 42 → q ≠ 40 → m'.1 q = m.1 q) ∧ (∀ k, k ≠ 1 → m'.1 40 k = m.1 40 k) ∧ m'.2 = m.2 ∧ m'.1 40 1 = nI L' ∧ ∀ i, i < L' → m'.1 42 i = nI (p' i)) ∨ (∃ m', fsome (rgL S) L (sm S + 1 - L) = none ∧ mm_lp (f_Rings_find_L8 z_Law 40 61 74) (nI L, m) = some (.inr m') ∧ (∀ q, q ≠ 44 → m'.1 q = m.1 q) ∧ m'.2 = m.2) := by
  have m8 := iv_m8 hv
  intro r
  induction r with
  | zero =>
    intro L m hLr hL2 hm hw
    refine Or.inr ⟨m, fs_end (by omega), mm_lp_done ?_, fun _ _ => rfl, rfl⟩
    unfold f_Rings_find_L8
    simp (disch := omega) only [fl, fmN, mm_lt, Nat.reduceAdd, Option.bind_some, lt_t, lt_f, le_t, le_f, eq_f, eq_self, nI_add, nI_mul, nI_sub, ↓reduceIte, hm]
  | succ r ih =>
    intro L m hLr hL2 hm hw
    have h0 := hat_len hv hL2 (by omega : L ≤ sm S) (sm S) 0 m (by omega) hm hw
    rw [Nat.sub_zero] at h0
    rcases h0 with ⟨p', m', f1, f2, f3, f4, f5, f6, f7⟩ | ⟨m1, f1, f2, f3, f4⟩
    · refine Or.inl ⟨L, p', m', fs_yes (by omega) (by unfold rgL; rw [f1]; rfl), hL2, by omega, mm_lp_done ?_, f3, f4, f5, f6, f7⟩
      unfold f_Rings_find_L8
      simp (disch := omega) only [fl, fmN, mm_lt, Nat.reduceAdd, Option.bind_some, lt_t, lt_f, le_t, le_f, eq_f, eq_self, nI_add, nI_mul, nI_sub, ↓reduceIte, hm, f2]
      rfl
    · have hstep : f_Rings_find_L8 z_Law 40 61 74 (nI L, m) = some (.inl (nI (L + 1), m1)) := by
        unfold f_Rings_find_L8
        simp (disch := omega) only [fl, fmN, mm_lt, Nat.reduceAdd, Option.bind_some, lt_t, lt_f, le_t, le_f, eq_f, eq_self, nI_add, nI_mul, nI_sub, ↓reduceIte, hm, f2]
        simp only [Sum.elim_inr, mm_lt, nI_add]
      have hno : rgL S L = none := by unfold rgL; rw [f1]; rfl
      rcases ih (L + 1) m1 (by omega) (by omega) (by rw [f3 64 (by decide)]; exact hm) (fun a ha => by rw [f3 46 (by decide)]; exact hw a ha) with ⟨L', p', m', g1, g2, g3, g4, g5, g6, g7, g8, g9⟩ | ⟨m', g1, g2, g3, g4⟩
      · exact Or.inl ⟨L', p', m', by rw [fs_no (by omega) hno]; exact g1, g2, g3, (mm_lp_step hstep).trans g4, fun q q1 q2 q3 => (g5 q q1 q2 q3).trans (f3 q q1), fun k hk => by rw [g6 k hk, f3 40 (by decide)], g7.trans f4, g8, g9⟩
      · exact Or.inr ⟨m', by rw [fs_no (by omega) hno]; exact g1, (mm_lp_step hstep).trans g2, fun q q1 => (g3 q q1).trans (f3 q q1), g4.trans f4⟩
/-! reference -/
theorem md_more {a b : Nat} (hs : u.1 171 = S) (hv : Inv S) (ha : a < sm S) (hb : b < sm S) : f_Mod_isMore z_Law u 169 (nI a) (nI b) = some (bI (wB S a b)) := by
  have m8 := iv_m8 hv
  have n10 := iv_n10 hv
  have e0 : wB S a b = wsh S a b := by unfold wB; rw [decide_eq_true hb, Bool.true_and]
  rw [e0]
  unfold f_Mod_isMore
  by_cases hab : a = b
  · subst hab
    have : wsh S a a = false := by
      apply Bool.eq_false_iff.mpr
      intro q
      obtain ⟨h1, -, h3⟩ := wsh_t.mp q
      obtain ⟨-, x, hx, ex, -⟩ := cn_lt hv (by omega) h1
      rw [ex, nI_clamp (by omega)] at h3
      unfold vv at h3
      rw [if_neg (hq_ne (n := x) (by omega)), nI_clamp (by omega)] at h3
      exact Int32.lt_irrefl h3
    rw [this, if_pos rfl]; rfl
  · simp (disch := omega) only [fl, fmN, mm_lt, Nat.reduceAdd, Option.bind_some, lt_t, lt_f, le_t, le_f, eq_f, eq_self, nI_add, nI_mul, nI_sub, ↓reduceIte, zq_171, ld_nI, hs, hq_lt (iv_held hv a (by omega)) (by omega : sn S < 2 ^ 31), hq_lt (iv_held hv b (by omega)) (by omega : sn S < 2 ^ 31), md_pawn hv hs, fl_ite, md_vv hs (by omega : a < 8) (iv_held hv a (by omega)) n10, md_vv hs (by omega : a < 8) (iv_held hv b (by omega)) n10]
    by_cases h1 : S (123 + a) = mN
    · rw [if_pos h1, Bool.eq_false_iff.mpr (fun q => (wsh_t.mp q).1.1 h1)]; rfl
    · rw [if_neg h1]
      by_cases h2 : S (123 + b) = mN
      · rw [if_pos h2, Bool.eq_false_iff.mpr (fun q => (wsh_t.mp q).2.1.1 h2)]; rfl
      · rw [if_neg h2]
        by_cases h3 : S (15 + (S (123 + a)).toNatClampNeg) = nI 2
        · rw [if_pos ⟨h1, h3⟩, Bool.eq_false_iff.mpr (fun q => (wsh_t.mp q).1.2 h3)]; rfl
        · rw [if_neg (fun q => h3 q.2)]
          by_cases h4 : S (15 + (S (123 + b)).toNatClampNeg) = nI 2
          · rw [if_pos ⟨h2, h4⟩, Bool.eq_false_iff.mpr (fun q => (wsh_t.mp q).2.1.2 h4)]; rfl
          · rw [if_neg (fun q => h4 q.2)]
            have ev : vv S a (S (123 + b)) = vw S a (S (123 + b)).toNatClampNeg := by unfold vv; rw [if_neg h2]
            rw [ev]
            by_cases h5 : vv S a (S (123 + a)) < vw S a (S (123 + b)).toNatClampNeg
            · rw [if_neg (fa_of_lt h5).2.1, wsh_t.mpr ⟨⟨h1, h3⟩, ⟨h2, h4⟩, h5⟩]; rfl
            · rw [if_pos (fa_of_nlt h5), Bool.eq_false_iff.mpr (fun q => h5 (wsh_t.mp q).2.2)]; rfl
theorem md_new {i v : Nat} {p : Nat → Nat} (hi : i < 8) (hp : ∀ j, j < i → u.1 176 j = nI (p j)) (hp8 : ∀ j, j < i → p j < 8) (hv8 : v < 8) (h : u.1 176 i = nI v) : f_Mod_isNew z_Law u 169 (nI i) = some (bI (nwp p i v)) := by
  unfold f_Mod_isNew
  simp only [fl]
  rw [lp_find (fun j => decide (p j = v)) i (fun _ => nI 0) (fun j hj h9 => ?_) (fun j hj h9 => ?_) ?_]
  · by_cases hn : nwp p i v = true
    · have h2 := dec_t hn
      rw [first_none (fun j hj => decide_eq_false (h2 j hj)), if_neg (Nat.lt_irrefl i), hn]; rfl
    · have h2 : ¬ ∀ j, j < i → p j ≠ v := fun q => hn (decide_eq_true q)
      have h3 : fa_first (fun j => decide (p j = v)) i < i := by
        rcases Nat.lt_or_ge (fa_first (fun j => decide (p j = v)) i) i with q | q
        · exact q
        · exact absurd (fun j hj => dec_f (fa_first_no (fun j => decide (p j = v)) i j (by omega))) h2
      rw [if_pos h3, Bool.eq_false_iff.mpr hn]; rfl
  · unfold f_Mod_isNew_L2
    simp (disch := omega) only [fl, fmN, mm_lt, Nat.reduceAdd, Option.bind_some, lt_t, lt_f, le_t, le_f, eq_f, eq_self, nI_add, nI_mul, nI_sub, ↓reduceIte]
  · have h9 := dec_f h9
    have := hp8 j hj
    unfold f_Mod_isNew_L2
    simp (disch := omega) only [fl, fmN, mm_lt, Nat.reduceAdd, Option.bind_some, lt_t, lt_f, le_t, le_f, eq_f, eq_self, nI_add, nI_mul, nI_sub, ↓reduceIte, zq_176, ld_nI, hp j hj, h]
  · have h9 := dec_t h9
    have := hp8 j hj
    unfold f_Mod_isNew_L2
    simp (disch := omega) only [fl, fmN, mm_lt, Nat.reduceAdd, Option.bind_some, lt_t, lt_f, le_t, le_f, eq_f, eq_self, nI_add, nI_mul, nI_sub, ↓reduceIte, zq_176, ld_nI, hp j hj, h, h9]
theorem md_ringM (hv : Inv S) {L : Nat} (hL2 : 2 ≤ L) (hLc : L ≤ sm S) : ∀ d i, i + d + 1 = L → 1 ≤ i → ∀ r v p m, v + r = sm S → p 0 + 1 ≤ v → m.1 171 = S → (∀ j, j < i → m.1 176 j = nI (p j)) → (∀ j, j < i → p j < sm S) → m.1 176 i = nI v - nI 1 → (∃ p' m', fsome (cdd (wB S) (sm S) d p i) v (sm S - v) = some p' ∧ mm_lp (f_Mod_findsRing_L9 z_Law 169 (nI L)) (nI i, m) = some (.inl (nI 1, m')) ∧ (∀ q, q ≠ 176 → m'.1 q = m.1 q) ∧ m'.2 = m.2 ∧ ∀ j, j < L → m'.1 176 j = nI (p' j)) ∨ (∃ m', fsome (cdd (wB S) (sm S) d p i) v (sm S - v) = none ∧ mm_lp (f_Mod_findsRing_L9 z_Law 169 (nI L)) (nI i, m) = mm_lp (f_Mod_findsRing_L9 z_Law 169 (nI L)) (nI (i - 1), m') ∧ (∀ q, q ≠ 176 → m'.1 q = m.1 q) ∧ m'.2 = m.2 ∧ ∀ j, j < i → m'.1 176 j = m.1 176 j) := by
  have m8 := iv_m8 hv
  intro d
  induction d with
  | zero =>
    intro i hid hi1 r
    induction r with
    | zero =>
      intro v p m hvr hp0 hs hp hpc hcur
      have hcur' : m.1 176 i + nI 1 = nI v := by rw [hcur, Int32.sub_add_cancel]
      have hvc : v = sm S := by omega
      subst hvc
      refine Or.inr ⟨kI m 176 i (nI (sm S)), fs_end (Nat.le_refl _), mm_lp_step ?_, fun q hq => kI_o _ _ _ _ hq, rfl, fun j hj => by rw [kI_at, if_neg (by omega)]⟩
      have e1 : (kI m 176 i (nI (sm S))).1 176 i = nI (sm S) := kI_at.trans (if_pos rfl)
      have e2 : (kI m 176 i (nI (sm S))).1 171 = S := hs
      unfold f_Mod_findsRing_L9
      simp (disch := omega) only [fl, fmN, mm_lt, Nat.reduceAdd, Option.bind_some, lt_f, ↓reduceIte, zq_176, zq_171, ld_nI, st_nI, hcur', e1, e2, iv_m hv]
      have := pk_m1 (i - 1)
      rw [show i - 1 + 1 = i by omega] at this
      exact congrArg (fun w => some (Sum.inl (w, kI m 176 i (nI (sm S))))) this
    | succ r ihr =>
      intro v p m hvr hp0 hs hp hpc hcur
      have hcur' : m.1 176 i + nI 1 = nI v := by rw [hcur, Int32.sub_add_cancel]
      have hvc : v < sm S := by omega
      have e1 : (kI m 176 i (nI v)).1 176 i = nI v := kI_at.trans (if_pos rfl)
      have e2 : (kI m 176 i (nI v)).1 171 = S := hs
      have e3 : ∀ j, j < i → (kI m 176 i (nI v)).1 176 j = nI (p j) := fun j hj => by rw [kI_at, if_neg (by omega)]; exact hp j hj
      have enew := md_new (u := kI m 176 i (nI v)) (i := i) (v := v) (p := p) (by omega) e3 (fun j hj => by have := hpc j hj; omega) (by omega) e1
      have q1 := hpc 0 (by omega)
      have q2 := hpc (i - 1) (by omega)
      have em1 := md_more e2 hv q2 hvc
      have em2 := md_more e2 hv hvc q1
      have body : f_Mod_findsRing_L9 z_Law 169 (nI L) (nI i, m) = if (wB S (p (i - 1)) v && nwp p i v) = true then (if wB S v (p 0) = true then some (.inr (.inl (nI 1, kI m 176 i (nI v)))) else some (.inl (nI i, kI m 176 i (nI v)))) else some (.inl (nI i, kI m 176 i (nI v))) := by
        unfold f_Mod_findsRing_L9 f_Mod_findsRing_J97
        simp (disch := omega) only [fl, fmN, mm_lt, Nat.reduceAdd, Option.bind_some, lt_t, lt_f, le_t, le_f, eq_f, eq_self, nI_add, nI_mul, nI_sub, ↓reduceIte, zq_176, zq_171, ld_nI, st_nI, hcur', e1, e2, iv_m hv, e3, enew, em1, em2, bI_0]
        cases nwp p i v <;> cases wB S (p (i - 1)) v <;> cases wB S v (p 0) <;> rfl
      have hcd : cdd (wB S) (sm S) 0 p i v = if (wB S (p (i - 1)) v && nwp p i v) = true then (if wB S v (p 0) = true then some (upn p i v) else none) else none := by
        show (if _ then (if wB S (upn p i v (i + 1 - 1)) (upn p i v 0) = true then _ else _) else _) = _
        rw [Nat.add_sub_cancel, upn_s, upn_o (by omega)]
      have cont : f_Mod_findsRing_L9 z_Law 169 (nI L) (nI i, m) = some (.inl (nI i, kI m 176 i (nI v))) → cdd (wB S) (sm S) 0 p i v = none → _ := fun hb hn => by
        have := ihr (v + 1) p (kI m 176 i (nI v)) (by omega) (by omega) e2 e3 hpc (by rw [e1, ← nI_add v 1, Int32.add_sub_cancel])
        rw [← fs_no hvc hn, ← mm_lp_step hb] at this
        exact this
      by_cases hb : (wB S (p (i - 1)) v && nwp p i v) = true
      · rw [if_pos hb] at body hcd
        by_cases hb2 : wB S v (p 0) = true
        · rw [if_pos hb2] at body hcd
          refine Or.inl ⟨upn p i v, _, fs_yes hvc hcd, mm_lp_done body, fun q hq => kI_o _ _ _ _ hq, rfl, fun j hj => ?_⟩
          by_cases g : j = i
          · rw [g, e1, upn_s]
          · rw [e3 j (by omega), upn_o g]
        · rw [if_neg hb2] at body hcd
          rcases cont body hcd with ⟨p', m', f1, f2, f3, f4, f5⟩ | ⟨m', f1, f2, f3, f4, f5⟩
          · exact Or.inl ⟨p', m', f1, f2, fun q hq => (f3 q hq).trans (kI_o _ _ _ _ hq), f4, f5⟩
          · exact Or.inr ⟨m', f1, f2, fun q hq => (f3 q hq).trans (kI_o _ _ _ _ hq), f4, fun j hj => (f5 j hj).trans (by rw [kI_at, if_neg (by omega)])⟩
      · rw [if_neg hb] at body hcd
        rcases cont body hcd with ⟨p', m', f1, f2, f3, f4, f5⟩ | ⟨m', f1, f2, f3, f4, f5⟩
        · exact Or.inl ⟨p', m', f1, f2, fun q hq => (f3 q hq).trans (kI_o _ _ _ _ hq), f4, f5⟩
        · exact Or.inr ⟨m', f1, f2, fun q hq => (f3 q hq).trans (kI_o _ _ _ _ hq), f4, fun j hj => (f5 j hj).trans (by rw [kI_at, if_neg (by omega)])⟩
  | succ d ihd =>
    intro i hid hi1 r
    induction r with
    | zero =>
      intro v p m hvr hp0 hs hp hpc hcur
      have hcur' : m.1 176 i + nI 1 = nI v := by rw [hcur, Int32.sub_add_cancel]
      have hvc : v = sm S := by omega
      subst hvc
      refine Or.inr ⟨kI m 176 i (nI (sm S)), fs_end (Nat.le_refl _), mm_lp_step ?_, fun q hq => kI_o _ _ _ _ hq, rfl, fun j hj => by rw [kI_at, if_neg (by omega)]⟩
      have e1 : (kI m 176 i (nI (sm S))).1 176 i = nI (sm S) := kI_at.trans (if_pos rfl)
      have e2 : (kI m 176 i (nI (sm S))).1 171 = S := hs
      unfold f_Mod_findsRing_L9
      simp (disch := omega) only [fl, fmN, mm_lt, Nat.reduceAdd, Option.bind_some, lt_f, ↓reduceIte, zq_176, zq_171, ld_nI, st_nI, hcur', e1, e2, iv_m hv]
      have := pk_m1 (i - 1)
      rw [show i - 1 + 1 = i by omega] at this
      exact congrArg (fun w => some (Sum.inl (w, kI m 176 i (nI (sm S))))) this
    | succ r ihr =>
      intro v p m hvr hp0 hs hp hpc hcur
      have hcur' : m.1 176 i + nI 1 = nI v := by rw [hcur, Int32.sub_add_cancel]
      have hvc : v < sm S := by omega
      have e1 : (kI m 176 i (nI v)).1 176 i = nI v := kI_at.trans (if_pos rfl)
      have e2 : (kI m 176 i (nI v)).1 171 = S := hs
      have e3 : ∀ j, j < i → (kI m 176 i (nI v)).1 176 j = nI (p j) := fun j hj => by rw [kI_at, if_neg (by omega)]; exact hp j hj
      have enew := md_new (u := kI m 176 i (nI v)) (i := i) (v := v) (p := p) (by omega) e3 (fun j hj => by have := hpc j hj; omega) (by omega) e1
      have q1 := hpc 0 (by omega)
      have q2 := hpc (i - 1) (by omega)
      have em1 := md_more e2 hv q2 hvc
      have body : f_Mod_findsRing_L9 z_Law 169 (nI L) (nI i, m) = if (wB S (p (i - 1)) v && nwp p i v) = true then some (.inl (nI (i + 1), kI (kI m 176 i (nI v)) 176 (i + 1) (nI (p 0)))) else some (.inl (nI i, kI m 176 i (nI v))) := by
        unfold f_Mod_findsRing_L9 f_Mod_findsRing_J97
        simp (disch := omega) only [fl, fmN, mm_lt, Nat.reduceAdd, Option.bind_some, lt_t, lt_f, le_t, le_f, eq_f, eq_self, nI_add, nI_mul, nI_sub, ↓reduceIte, zq_176, zq_171, ld_nI, st_nI, hcur', e1, e2, iv_m hv, e3, enew, em1, bI_0]
        cases nwp p i v <;> cases wB S (p (i - 1)) v <;> rfl
      have cont : ∀ m2, (∀ q, q ≠ 176 → m2.1 q = m.1 q) → m2.2 = m.2 → (∀ j, j < i → m2.1 176 j = m.1 176 j) → m2.1 176 i = nI v → mm_lp (f_Mod_findsRing_L9 z_Law 169 (nI L)) (nI i, m) = mm_lp (f_Mod_findsRing_L9 z_Law 169 (nI L)) (nI i, m2) → cdd (wB S) (sm S) (d + 1) p i v = none → (∃ p' m', fsome (cdd (wB S) (sm S) (d + 1) p i) v (sm S - v) = some p' ∧ mm_lp (f_Mod_findsRing_L9 z_Law 169 (nI L)) (nI i, m) = some (.inl (nI 1, m')) ∧ (∀ q, q ≠ 176 → m'.1 q = m.1 q) ∧ m'.2 = m.2 ∧ ∀ j, j < L → m'.1 176 j = nI (p' j)) ∨ (∃ m', fsome (cdd (wB S) (sm S) (d + 1) p i) v (sm S - v) = none ∧ mm_lp (f_Mod_findsRing_L9 z_Law 169 (nI L)) (nI i, m) = mm_lp (f_Mod_findsRing_L9 z_Law 169 (nI L)) (nI (i - 1), m') ∧ (∀ q, q ≠ 176 → m'.1 q = m.1 q) ∧ m'.2 = m.2 ∧ ∀ j, j < i → m'.1 176 j = m.1 176 j) := by
        intro m2 k1 k2 k3 k4 hb hn
        have := ihr (v + 1) p m2 (by omega) (by omega) (by rw [k1 171 (by decide)]; exact hs) (fun j hj => (k3 j hj).trans (hp j hj)) hpc (by rw [k4, ← nI_add v 1, Int32.add_sub_cancel])
        rw [← fs_no hvc hn, ← hb] at this
        rcases this with ⟨p', m', f1, f2, f3, f4, f5⟩ | ⟨m', f1, f2, f3, f4, f5⟩
        · exact Or.inl ⟨p', m', f1, f2, fun q hq => (f3 q hq).trans (k1 q hq), f4.trans k2, f5⟩
        · exact Or.inr ⟨m', f1, f2, fun q hq => (f3 q hq).trans (k1 q hq), f4.trans k2, fun j hj => (f5 j hj).trans (k3 j hj)⟩
      by_cases hb : (wB S (p (i - 1)) v && nwp p i v) = true
      · rw [if_pos hb] at body
        have hcd : cdd (wB S) (sm S) (d + 1) p i v = fsome (cdd (wB S) (sm S) d (upn p i v) (i + 1)) (p 0 + 1) (sm S - (p 0 + 1)) := by
          show (if _ then rg _ _ (d + 1) _ _ else _) = _
          rw [if_pos hb, rg_succ, upn_o (by omega)]
        have := ihd (i + 1) (by omega) (by omega) (sm S - (p 0 + 1)) (p 0 + 1) (upn p i v) (kI (kI m 176 i (nI v)) 176 (i + 1) (nI (p 0))) (by omega) (by rw [upn_o (by omega)]; omega) hs (fun j hj => by
            rw [kI_at, if_neg (by omega)]
            by_cases g : j = i
            · rw [g, e1, upn_s]
            · rw [e3 j (by omega), upn_o g]) (fun j hj => by
            by_cases g : j = i
            · rw [g, upn_s]; exact hvc
            · rw [upn_o g]; exact hpc j (by omega)) (by rw [kI_at, if_pos rfl, ← nI_add (p 0) 1, Int32.add_sub_cancel])
        rw [← hcd, ← mm_lp_step body] at this
        rcases this with ⟨p', m', f1, f2, f3, f4, f5⟩ | ⟨m', f1, f2, f3, f4, f5⟩
        · exact Or.inl ⟨p', m', fs_yes hvc f1, f2, fun q hq => (f3 q hq).trans ((kI_o _ _ _ _ hq).trans (kI_o _ _ _ _ hq)), f4, f5⟩
        · rw [Nat.add_sub_cancel] at f2
          exact cont m' (fun q hq => (f3 q hq).trans ((kI_o _ _ _ _ hq).trans (kI_o _ _ _ _ hq))) f4 (fun j hj => by rw [f5 j (by omega), kI_at, if_neg (by omega), kI_at, if_neg (by omega)]) (by rw [f5 i (by omega), kI_at, if_neg (by omega)]; exact e1) f2 f1
      · rw [if_neg hb] at body
        exact cont (kI m 176 i (nI v)) (fun q hq => kI_o _ _ _ _ hq) rfl (fun j hj => by rw [kI_at, if_neg (by omega)]) e1 (mm_lp_step body) (if_neg hb)
end RING2
