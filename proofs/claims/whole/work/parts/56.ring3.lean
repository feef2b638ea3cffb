section RING3
variable {σ m u : Mm} {S : Nat → Int32}
theorem md_ring0 (hv : Inv S) {L : Nat} (hL2 : 2 ≤ L) (hLc : L ≤ sm S) : ∀ r v m, v + r = sm S → m.1 171 = S → m.1 176 0 = nI v - nI 1 → (∃ p' m', fsome (rgs S L) v (sm S - v) = some p' ∧ mm_lp (f_Mod_findsRing_L9 z_Law 169 (nI L)) (nI 0, m) = some (.inl (nI 1, m')) ∧ (∀ q, q ≠ 176 → m'.1 q = m.1 q) ∧ m'.2 = m.2 ∧ ∀ j, j < L → m'.1 176 j = nI (p' j)) ∨ (∃ m', fsome (rgs S L) v (sm S - v) = none ∧ mm_lp (f_Mod_findsRing_L9 z_Law 169 (nI L)) (nI 0, m) = some (.inr m') ∧ (∀ q, q ≠ 176 → m'.1 q = m.1 q) ∧ m'.2 = m.2) := by
  have m8 := iv_m8 hv
  intro r
  induction r with
  | zero =>
    intro v m hvr hs hcur
    have hcur' : m.1 176 0 + nI 1 = nI v := by rw [hcur, Int32.sub_add_cancel]
    have hvc : v = sm S := by omega
    subst hvc
    have e1 : (kI m 176 0 (nI (sm S))).1 176 0 = nI (sm S) := kI_at.trans (if_pos rfl)
    have e2 : (kI m 176 0 (nI (sm S))).1 171 = S := hs
    refine Or.inr ⟨kI m 176 0 (nI (sm S)), fs_end (Nat.le_refl _), ?_, fun q hq => kI_o _ _ _ _ hq, rfl⟩
    have body : f_Mod_findsRing_L9 z_Law 169 (nI L) (nI 0, m) = some (.inl (mN, kI m 176 0 (nI (sm S)))) := by
      unfold f_Mod_findsRing_L9
      simp (disch := omega) only [fl, fmN, mm_lt, Nat.reduceAdd, Option.bind_some, lt_t, lt_f, le_t, le_f, eq_f, eq_self, nI_add, nI_mul, nI_sub, ↓reduceIte, zq_176, zq_171, ld_nI, st_nI, hcur', e1, e2, iv_m hv]
      rfl
    rw [mm_lp_step body]
    refine mm_lp_done ?_
    unfold f_Mod_findsRing_L9
    exact if_pos (show mN < 0 by decide)
  | succ r ihr =>
    intro v m hvr hs hcur
    have hcur' : m.1 176 0 + nI 1 = nI v := by rw [hcur, Int32.sub_add_cancel]
    have hvc : v < sm S := by omega
    have e1 : (kI m 176 0 (nI v)).1 176 0 = nI v := kI_at.trans (if_pos rfl)
    have e2 : (kI m 176 0 (nI v)).1 171 = S := hs
    have body : f_Mod_findsRing_L9 z_Law 169 (nI L) (nI 0, m) = some (.inl (nI 1, kI (kI m 176 0 (nI v)) 176 1 (nI v))) := by
      unfold f_Mod_findsRing_L9 f_Mod_findsRing_J97
      simp (disch := omega) only [fl, fmN, mm_lt, Nat.reduceAdd, Option.bind_some, lt_t, lt_f, le_t, le_f, eq_f, eq_self, nI_add, nI_mul, nI_sub, ↓reduceIte, zq_176, zq_171, ld_nI, st_nI, hcur', e1, e2, iv_m hv]
    have hcd : rgs S L v = fsome (cdd (wB S) (sm S) (L - 2) (fun _ => v) 1) (v + 1) (sm S - (v + 1)) := by
      unfold rgs
      rw [show L - 1 = L - 2 + 1 by omega, rg_succ]
    have := md_ringM hv hL2 hLc (L - 2) 1 (by omega) (Nat.le_refl 1) (sm S - (v + 1)) (v + 1) (fun _ => v) (kI (kI m 176 0 (nI v)) 176 1 (nI v)) (by omega) (Nat.le_refl _) hs (fun j hj => by rw [kI_at, if_neg (by omega), show j = 0 by omega]; exact e1) (fun j hj => hvc) (by rw [kI_at, if_pos rfl, ← nI_add v 1, Int32.add_sub_cancel])
    rw [← hcd, ← mm_lp_step body] at this
    rcases this with ⟨p', m', f1, f2, f3, f4, f5⟩ | ⟨m', f1, f2, f3, f4, f5⟩
    · exact Or.inl ⟨p', m', fs_yes hvc f1, f2, fun q hq => (f3 q hq).trans ((kI_o _ _ _ _ hq).trans (kI_o _ _ _ _ hq)), f4, f5⟩
    · have := ihr (v + 1) m' (by omega) (by rw [f3 171 (by decide)]; exact hs) (by rw [f5 0 (by omega), kI_at, if_neg (by omega), e1, ← nI_add v 1, Int32.add_sub_cancel])
      rw [fs_no hvc f1]
      rw [show (1 : Nat) - 1 = 0 from rfl] at f2
      rw [← f2] at this
      rcases this with ⟨p', m2, g1, g2, g3, g4, g5⟩ | ⟨m2, g1, g2, g3, g4⟩
      · exact Or.inl ⟨p', m2, g1, g2, fun q hq => (g3 q hq).trans ((f3 q hq).trans ((kI_o _ _ _ _ hq).trans (kI_o _ _ _ _ hq))), g4.trans f4, g5⟩
      · exact Or.inr ⟨m2, g1, g2, fun q hq => (g3 q hq).trans ((f3 q hq).trans ((kI_o _ _ _ _ hq).trans (kI_o _ _ _ _ hq))), g4.trans f4⟩
theorem md_finds (hv : Inv S) {L : Nat} (hL2 : 2 ≤ L) (hLc : L ≤ sm S) (hs : m.1 171 = S) : (∃ p' m', fsome (rgs S L) 0 (sm S) = some p' ∧ f_Mod_findsRing z_Law m 169 (nI L) = some (nI 1, m') ∧ (∀ q, q ≠ 176 → m'.1 q = m.1 q) ∧ m'.2 = m.2 ∧ ∀ j, j < L → m'.1 176 j = nI (p' j)) ∨ (∃ m', fsome (rgs S L) 0 (sm S) = none ∧ f_Mod_findsRing z_Law m 169 (nI L) = some (nI 0, m') ∧ (∀ q, q ≠ 176 → m'.1 q = m.1 q) ∧ m'.2 = m.2) := by
  have h0 := md_ring0 hv hL2 hLc (sm S) 0 (kI m 176 0 mN) (by omega) hs (by rw [kI_at, if_pos rfl]; decide)
  rw [Nat.sub_zero] at h0
  have hf : ∀ x, mm_lp (f_Mod_findsRing_L9 z_Law 169 (nI L)) (nI 0, kI m 176 0 mN) = some x → f_Mod_findsRing z_Law m 169 (nI L) = (some x).bind (Sum.elim (fun r9 => some r9) (fun x9_ => some (nI 0, x9_))) := by
    intro x hx
    unfold f_Mod_findsRing
    simp (disch := omega) only [fl, fmN, mm_lt, Nat.reduceAdd, Option.bind_some, lt_t, lt_f, le_t, le_f, eq_f, eq_self, nI_add, nI_mul, nI_sub, ↓reduceIte, zq_176, st_nI, hx]
  rcases h0 with ⟨p', m', f1, f2, f3, f4, f5⟩ | ⟨m', f1, f2, f3, f4⟩
  · exact Or.inl ⟨p', m', f1, hf _ f2, fun q hq => (f3 q hq).trans (kI_o _ _ _ _ hq), f4, f5⟩
  · exact Or.inr ⟨m', f1, hf _ f2, fun q hq => (f3 q hq).trans (kI_o _ _ _ _ hq), f4⟩
theorem md_ringA (hv : Inv S) : ∀ r L m, L + r = sm S + 1 → 2 ≤ L → m.1 171 = S → (∃ L' p' m', fsome (rgL S) L (sm S + 1 - L) = some (L', p') ∧ mm_lp (f_Mod_ring_L7 z_Law 169) (nI L, m) = some (.inl (nI L', m')) ∧ (∀ q, q ≠ 176 → q ≠ 177 → q ≠ 169 → m'.1 q = m.1 q) ∧ (∀ k, k ≠ 26 → m'.1 169 k = m.1 169 k) ∧ m'.2 = m.2 ∧ m'.1 169 26 = nI L' ∧ ∀ i, i < L' → m'.1 177 i = nI (p' i)) ∨ (∃ m', fsome (rgL S) L (sm S + 1 - L) = none ∧ mm_lp (f_Mod_ring_L7 z_Law 169) (nI L, m) = some (.inr m') ∧ (∀ q, q ≠ 176 → m'.1 q = m.1 q) ∧ m'.2 = m.2) := by
  have m8 := iv_m8 hv
  intro r
  induction r with
  | zero =>
    intro L m hLr hL2 hs
    refine Or.inr ⟨m, fs_end (by omega), mm_lp_done ?_, fun _ _ => rfl, rfl⟩
    unfold f_Mod_ring_L7
    simp (disch := omega) only [fl, fmN, mm_lt, Nat.reduceAdd, Option.bind_some, lt_t, lt_f, le_t, le_f, eq_f, eq_self, nI_add, nI_mul, nI_sub, ↓reduceIte, zq_171, ld_nI, hs, iv_m hv]
  | succ r ih =>
    intro L m hLr hL2 hs
    rcases md_finds hv hL2 (by omega : L ≤ sm S) hs with ⟨p', m1, f1, f2, f3, f4, f5⟩ | ⟨m1, f1, f2, f3, f4⟩
    · have L35 : mm_lp (f_Mod_ring_L35 z_Law 169 (nI L)) (nI 0, kI m1 169 26 (nI L)) = some (kP (kI m1 169 26 (nI L)) 177 0 L (m1.1 176)) := by
        refine lp_go (fun i => (nI i, kP (kI m1 169 26 (nI L)) 177 0 i (m1.1 176))) L (Prod.ext rfl kP_0.symm) (fun i hi => ?_) ?_
        · unfold f_Mod_ring_L35
          simp (disch := omega) only [fl, fmN, mm_lt, Nat.reduceAdd, Option.bind_some, lt_t, lt_f, le_t, le_f, eq_f, eq_self, nI_add, nI_mul, nI_sub, ↓reduceIte, zq_176, zq_177, ld_nI, st_nI, kP_o]
          have := kP_succ (m := kI m1 169 26 (nI L)) (o := 177) (a := 0) (n := i) (g := m1.1 176)
          rw [Nat.zero_add] at this
          rw [← this]
          rfl
        · unfold f_Mod_ring_L35
          simp only [fl, fmN, mm_lt, Nat.reduceAdd, Option.bind_some, lt_t, lt_f, le_t, le_f, eq_f, eq_self, nI_add, nI_mul, nI_sub, ↓reduceIte, Int32.le_refl, if_true]
      refine Or.inl ⟨L, p', kP (kI m1 169 26 (nI L)) 177 0 L (m1.1 176), fs_yes (by omega) (by unfold rgL; rw [f1]; rfl), mm_lp_done ?_, fun q q1 q2 q3 => ?_, fun k hk => ?_, f4, ?_, fun i hi => ?_⟩
      · unfold f_Mod_ring_L7
        simp (disch := omega) only [fl, fmN, mm_lt, Nat.reduceAdd, Option.bind_some, lt_t, lt_f, le_t, le_f, eq_f, eq_self, nI_add, nI_mul, nI_sub, ↓reduceIte, zq_171, ld_nI, hs, iv_m hv, f2, L35]
      · rw [kP_o q2, kI_o _ _ _ _ q3]; exact f3 q q1
      · rw [kP_o (by decide), kI_at, if_neg hk, f3 169 (by decide)]
      · rw [kP_o (by decide), kI_at, if_pos rfl]
      · rw [kP_in (by omega) (by omega), Nat.sub_zero]; exact f5 i hi
    · have hstep : f_Mod_ring_L7 z_Law 169 (nI L, m) = some (.inl (nI (L + 1), m1)) := by
        unfold f_Mod_ring_L7
        simp (disch := omega) only [fl, fmN, mm_lt, Nat.reduceAdd, Option.bind_some, lt_t, lt_f, le_t, le_f, eq_f, eq_self, nI_add, nI_mul, nI_sub, ↓reduceIte, zq_171, ld_nI, hs, iv_m hv, f2]
      have hno : rgL S L = none := by unfold rgL; rw [f1]; rfl
      rcases ih (L + 1) m1 (by omega) (by omega) (by rw [f3 171 (by decide)]; exact hs) with ⟨L', p', m', g1, g4, g5, g6, g7, g8, g9⟩ | ⟨m', g1, g2, g3, g4⟩
      · exact Or.inl ⟨L', p', m', by rw [fs_no (by omega) hno]; exact g1, (mm_lp_step hstep).trans g4, fun q q1 q2 q3 => (g5 q q1 q2 q3).trans (f3 q q1), fun k hk => by rw [g6 k hk, f3 169 (by decide)], g7.trans f4, g8, g9⟩
      · exact Or.inr ⟨m', by rw [fs_no (by omega) hno]; exact g1, (mm_lp_step hstep).trans g2, fun q q1 => (g3 q q1).trans (f3 q q1), g4.trans f4⟩
theorem kp_40 {A : Nat → Bool} (hA : A 1040 = true) {l : List Nat} (hl : ∀ q, q ∈ l → nw A q = true) (h : ∀ q, q ∉ l → q ≠ 40 → m.1 q = σ.1 q) (h4 : ∀ k, k ≠ 1 → m.1 40 k = σ.1 40 k) (h2 : m.2 = σ.2) : kp A σ m := by
  have h0 : ∀ q, nw A q = false → q ∉ l := fun q hq hm => by rw [hl q hm] at hq; cases hq
  refine ⟨fun q a b => ⟨?_, by rw [h2]⟩, fun k _ _ => by rw [h 0 (h0 0 (by simp [nw])) (by decide)], fun q => (by rw [hA] at q; cases q), fun _ => by rw [h 47 (h0 47 (by simp [nw])) (by decide)], fun k _ _ => by rw [h 169 (h0 169 (by simp [nw])) (by decide)]⟩
  refine h q (h0 q (by simp [nw, a, b])) ?_
  rintro rfl
  exact absurd a (by decide)
theorem kp_169 {A : Nat → Bool} {j : Nat} (hA : A (2000 + j) = true) {l : List Nat} (hl : ∀ q, q ∈ l → nw A q = true) (h : ∀ q, q ∉ l → q ≠ 169 → m.1 q = σ.1 q) (h4 : ∀ k, k ≠ j → m.1 169 k = σ.1 169 k) (h2 : m.2 = σ.2) : kp A σ m := by
  have h0 : ∀ q, nw A q = false → q ∉ l := fun q hq hm => by rw [hl q hm] at hq; cases hq
  refine ⟨fun q a b => ⟨?_, by rw [h2]⟩, fun k _ _ => by rw [h 0 (h0 0 (by simp [nw])) (by decide)], fun q => by rw [h 40 (h0 40 (by simp [nw])) (by decide)], fun _ => by rw [h 47 (h0 47 (by simp [nw])) (by decide)], fun k _ b => h4 k (by rintro rfl; rw [hA] at b; cases b)⟩
  refine h q (h0 q (by simp [nw, a, b])) ?_
  rintro rfl
  exact absurd a (by decide)
theorem nm3 {q a b c : Nat} (h : q ∉ [a, b, c]) : q ≠ a ∧ q ≠ b ∧ q ≠ c := by
  refine ⟨?_, ?_, ?_⟩
  · rintro rfl; exact h (List.mem_cons_self)
  · rintro rfl; exact h (List.mem_cons_of_mem _ List.mem_cons_self)
  · rintro rfl; exact h (List.mem_cons_of_mem _ (List.mem_cons_of_mem _ List.mem_cons_self))
theorem op_ring (hR : RL σ) : ∃ r m1 m2, f_Hat_ring z_Law σ 0 = some (r, m1) ∧ f_Mod_ring z_Law m1 169 = some (r, m2) ∧ RL m2 := by
  have hv := rl_v (rs hR)
  have hm := rl_m (rs hR)
  have m8 := iv_m8 hv
  obtain ⟨w, ew, w1, w2, w3⟩ := hat_wish (rs hR)
  have hc := hR.2.2.2.1
  by_cases h2 : 2 ≤ sm (σ.1 171) + 1
  · have HA := hat_find hv (sm (σ.1 171) + 1 - 2) 2 w (by omega) (by omega) (by rw [w2 64 (by decide)]; exact hm) w1
    have hfind : ∀ x, mm_lp (f_Rings_find_L8 z_Law 40 61 74) (nI 2, w) = some x → f_Hat_ring z_Law σ 0 = ((some x).bind (Sum.elim (fun r9 => some r9) (fun x8_ => some (mN, x8_)))).bind (fun q18 => some (q18.1, q18.2)) := by
      intro x hx
      unfold f_Hat_ring f_Rings_find
      simp only [fl, fmN, mm_lt, Nat.reduceAdd, Option.bind_some, lt_t, lt_f, le_t, le_f, eq_f, eq_self, nI_add, nI_mul, nI_sub, ↓reduceIte, Nat.zero_add, ew, hx]
    have hmod : ∀ u : Mm, ∀ x, mm_lp (f_Mod_ring_L7 z_Law 169) (nI 2, kI u 169 0 (nI 0)) = some x → f_Mod_ring z_Law u 169 = (some x).bind (Sum.elim (fun r9 => some r9) (fun x7_ => some (mN, x7_))) := by
      intro u x hx
      unfold f_Mod_ring
      simp only [fl, fmN, mm_lt, Nat.reduceAdd, Option.bind_some, lt_t, lt_f, le_t, le_f, eq_f, eq_self, nI_add, nI_mul, nI_sub, ↓reduceIte, hx]
    rcases HA with ⟨L', p', m1, f1, f2, f3, f4, f5, f6, f7, f8, f9⟩ | ⟨m1, f1, f2, f3, f4⟩
    · have f1' : m1.1 171 = σ.1 171 := by rw [f5 171 (by decide) (by decide) (by decide), w2 171 (by decide)]
      have hu : (kI m1 169 0 (nI 0)).1 171 = σ.1 171 := f1'
      have k1 : kp AR σ m1 := kp_40 (l := [44, 42, 46]) rfl (by decide) (fun q hq h40 => by
        have := nm3 hq
        rw [f5 q this.1 this.2.1 h40, w2 q this.2.2]) (fun k hk => by rw [f6 k hk, w2 40 (by decide)]) (f7.trans w3)
      rcases md_ringA hv (sm (σ.1 171) + 1 - 2) 2 (kI m1 169 0 (nI 0)) (by omega) (by omega) hu with ⟨L2, p2, m2, g1, g2, g3, g4, g5, g6, g7⟩ | ⟨m2, g1, -⟩
      · rw [f1] at g1
        cases g1
        have k2 : kp AR (kI m1 169 0 (nI 0)) m2 := kp_169 (l := [176, 177, 177]) (j := 26) rfl (by decide) (fun q hq h9 => g3 q (nm3 hq).1 (nm3 hq).2.1 h9) g4 g5
        refine ⟨nI L', m1, m2, ?_, ?_, RL_R hR (kp_tr k1 (kp_tr (kp_s169 (by decide)) k2)) ⟨L', by omega, ?_, Or.inl g6, fun i hi => ?_⟩⟩
        · rw [hfind _ f4]; rfl
        · rw [hmod _ _ g2]; rfl
        · rw [g3 40 (by decide) (by decide) (by decide), kI_o _ _ _ _ (by decide)]; exact f8
        · rw [g3 42 (by decide) (by decide) (by decide), kI_o _ _ _ _ (by decide), f9 i hi, g7 i hi]
      · rw [f1] at g1; cases g1
    · have f1' : m1.1 171 = σ.1 171 := by rw [f3 171 (by decide), w2 171 (by decide)]
      have hu : (kI m1 169 0 (nI 0)).1 171 = σ.1 171 := f1'
      have k1 : kp no σ m1 := kp_two (a := 44) (b := 46) (fun q q1 q2 => by rw [f3 q q1, w2 q q2]) (f4.trans w3) (by decide) (by decide)
      rcases md_ringA hv (sm (σ.1 171) + 1 - 2) 2 (kI m1 169 0 (nI 0)) (by omega) (by omega) hu with ⟨L2, p2, m2, g1, -⟩ | ⟨m2, g1, g2, g3, g4⟩
      · rw [f1] at g1; cases g1
      · have k2 : kp no (kI m1 169 0 (nI 0)) m2 := kp_two (a := 176) (b := 176) (fun q q1 _ => g3 q q1) g4 (by decide) (by decide)
        refine ⟨mN, m1, m2, ?_, ?_, RL_kp hR (kp_tr k1 (kp_tr (kp_s169 (by decide)) k2))⟩
        · rw [hfind _ f2]; rfl
        · rw [hmod _ _ g2]; rfl
  · have h0 : sm (σ.1 171) = 0 := by omega
    have hw : w.1 64 1 = nI 0 := by rw [w2 64 (by decide), hm, h0]
    have k1 : kp no σ w := kp_two (a := 46) (b := 46) (fun q q1 _ => w2 q q1) w3 (by decide) (by decide)
    have e1 : (kI w 169 0 (nI 0)).1 171 1 = nI 0 := by show w.1 171 1 = _; rw [w2 171 (by decide), iv_m hv, h0]
    refine ⟨mN, w, kI w 169 0 (nI 0), ?_, ?_, rl_th (RL_kp hR k1)⟩
    · unfold f_Hat_ring f_Rings_find
      simp only [fl, fmN, mm_lt, Nat.reduceAdd, Option.bind_some, lt_t, lt_f, le_t, le_f, eq_f, eq_self, nI_add, nI_mul, nI_sub, ↓reduceIte, Nat.zero_add, ew]
      rw [mm_lp_done (r := .inr w)]
      · rfl
      · unfold f_Rings_find_L8
        simp (disch := omega) only [fl, fmN, mm_lt, Nat.reduceAdd, Option.bind_some, lt_t, lt_f, le_t, le_f, eq_f, eq_self, nI_add, nI_mul, nI_sub, ↓reduceIte, hw]
    · unfold f_Mod_ring
      simp only [fl, fmN, mm_lt, Nat.reduceAdd, Option.bind_some, lt_t, lt_f, le_t, le_f, eq_f, eq_self, nI_add, nI_mul, nI_sub, ↓reduceIte]
      rw [mm_lp_done (r := .inr (kI w 169 0 (nI 0)))]
      · rfl
      · unfold f_Mod_ring_L7
        simp (disch := omega) only [fl, fmN, mm_lt, Nat.reduceAdd, Option.bind_some, lt_t, lt_f, le_t, le_f, eq_f, eq_self, nI_add, nI_mul, nI_sub, ↓reduceIte, zq_171, ld_nI, e1]
end RING3
