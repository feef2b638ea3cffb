section DEAL
variable {σ m u : Mm} {S : Nat → Int32}
def fbb (S : Nat → Int32) (k y : Nat) : Bool := bt (rf S k (sr S)) y
def fbx (S : Nat → Int32) (h x : Nat) (k y : Nat) : Bool := fbb S k y && (!decide (k = h) || decide (y = x))
def dl (S : Nat → Int32) (h x : Nat) : Int32 := sI (2 ^ sn S) (WW (sn S) (fbx S h x) (sm S))
theorem pow_sh : ∀ n, n < 11 → nI 1 <<< (nI n &&& nI 31) = nI (2 ^ n) := by decide +kernel
theorem n_sub {s x : Nat} (hs : s < 1024) (hx : x < 10) (h : s.testBit x = true) : nI s &&& ((nI 1 <<< (nI x &&& nI 31)) ^^^ mN) = nI (s - 2 ^ x) := by
  apply b_ext
  intro i hi
  rw [b_clr (by omega) hi, b_nI hi, b_nI hi, tb_sub hs hx h]
theorem n_xor {s x : Nat} (hs : s < 1024) (hx : x < 10) (h : s.testBit x = true) : nI s ^^^ (nI 1 <<< (nI x &&& nI 31)) = nI (s - 2 ^ x) := by
  rw [pow_sh x (by omega), fb_xorI, (set_all s hs x hx h).1]
theorem sma_s {s : Nat} (hs : s < 1024) : sma (nI s) := fun i hi h => by rw [b_nI hi]; exact tb_hi (n := 10) hs h
theorem bc_s {z : Nat → Nat} {s : Nat} (hs : s < 1024) : f_Int_bitCount z σ (nI s) = some (nI (pc s)) := by rw [hat_bc (sma_s hs), pcI_nI]
theorem pc_pos {s : Nat} (hs : s < 1024) (h0 : s ≠ 0) : 1 ≤ pc s := by
  obtain ⟨-, -, h⟩ := pc_down s hs h0
  omega
theorem pc_le (s : Nat) : pc s ≤ 10 := fb_ct_le _ _
/-! class: laid out -/
def VV (S : Nat → Int32) (hb : Option Nat) (D s : Nat) : Int32 := if pc s ≤ D then WW (sn S) (fun j => fbb S (idx hb j)) (pc s) s else nI 0
theorem hat_L122 {s n : Nat} {v2 fit : Int32} {G : Nat → Bool} {old : Nat → Int32} (hn : n ≤ 10) (hs : s < 2 ^ n) (hf : ∀ i, i < 32 → bt fit i = (s.testBit i && G i)) (hrow : ∀ y, y < n → s.testBit y = true → m.1 167 (s - 2 ^ y) = old (s - 2 ^ y)) : mm_lp (f_Dealings_layOut_L122 z_Law m 165 60 v2 (nI s) fit) (nI 0, nI 0) = some (sI n (fun y => if (s.testBit y && G y) = true then old (s - 2 ^ y) else nI 0)) := by
  have h10 := pow_le_1024 hn
  obtain ⟨g, hg⟩ : ∃ g : Nat → Int32, g = fun y => if (s.testBit y && G y) = true then old (s - 2 ^ y) else nI 0 := ⟨_, rfl⟩
  have gz : ∀ y, y < 10 → (s.testBit y && G y) = false → g y = nI 0 := fun y hy h => by rw [hg]; show (if _ then _ else _) = _; rw [if_neg (by rw [h]; decide)]
  have step : ∀ i x, i < 10 → ¬ fit >>> (nI i &&& nI 31) = nI 0 → f_Dealings_layOut_L122 z_Law m 165 60 v2 (nI s) fit (x, nI i) = some (.inl (x + g i, nI (i + 1))) := by
    intro i x hi h0
    unfold f_Dealings_layOut_L122
    simp (disch := omega) only [fl, fmN, mm_lt, Nat.reduceAdd, Option.bind_some, lt_t, lt_f, le_t, le_f, eq_f, eq_self, nI_add, nI_mul, nI_sub, ↓reduceIte, if_neg h0, sh_bit, hf]
    by_cases hb : (s.testBit i && G i) = true
    · have hb1 := ((Bool.and_eq_true _ _).mp hb).1
      have hin : i < n := by
        rcases Nat.lt_or_ge i n with q | q
        · exact q
        · rw [tb_hi hs q] at hb1; cases hb1
      rw [if_pos hb, n_sub (by omega) hi hb1, row_atE (p := 167) (n := 1024) rfl zq_167 (sub_lt2 (by omega)) (by decide), hrow i hin hb1, hg]
      simp only [Option.bind_some, hb, if_true]
    · rw [if_neg hb, gz i hi (Bool.eq_false_iff.mpr hb), i_add0]
  have e10 : sI 10 g = sI n g := by
    have := sI_split g n (10 - n)
    rw [show n + (10 - n) = 10 by omega] at this
    have z9 : sI (10 - n) (fun k => g (n + k)) = nI 0 := sI_zero (fun y hy => gz _ (by omega) (by rw [tb_hi hs (by omega : n ≤ n + y), Bool.false_and]))
    rw [this, z9, i_add0]
  rw [← hg, ← e10]
  obtain ⟨i0, hi0⟩ : ∃ i0, i0 = fa_first (fun i => decide (fit >>> (nI i &&& nI 31) = nI 0)) 10 := ⟨_, rfl⟩
  have hle := fa_first_le (fun i => decide (fit >>> (nI i &&& nI 31) = nI 0)) 10
  have hno := fa_first_no (fun i => decide (fit >>> (nI i &&& nI 31) = nI 0)) 10
  rw [← hi0] at hle hno
  have run : mm_lp (f_Dealings_layOut_L122 z_Law m 165 60 v2 (nI s) fit) (nI 0, nI 0) = some (sI i0 g) := by
    refine lp_go (fun i => (sI i g, nI i)) i0 rfl (fun i hi => step i _ (by omega) (dec_f (hno i hi))) ?_
    unfold f_Dealings_layOut_L122
    by_cases h9 : i0 < 10
    · have hy := fa_first_yes (fun i => decide (fit >>> (nI i &&& nI 31) = nI 0)) 10 (by omega)
      rw [← hi0] at hy
      simp (disch := omega) only [fl, fmN, mm_lt, Nat.reduceAdd, Option.bind_some, lt_t, lt_f, le_t, le_f, eq_f, eq_self, nI_add, nI_mul, nI_sub, ↓reduceIte, if_pos (dec_t hy)]
    · simp (disch := omega) only [fl, fmN, mm_lt, Nat.reduceAdd, Option.bind_some, lt_t, lt_f, le_t, le_f, eq_f, eq_self, nI_add, nI_mul, nI_sub, ↓reduceIte]
  rw [run]
  by_cases h9 : i0 < 10
  · have hy := fa_first_yes (fun i => decide (fit >>> (nI i &&& nI 31) = nI 0)) 10 (by omega)
    rw [← hi0] at hy
    have hy := dec_t hy
    have := sI_split g i0 (10 - i0)
    rw [show i0 + (10 - i0) = 10 by omega] at this
    have z9 : sI (10 - i0) (fun k => g (i0 + k)) = nI 0 := by
      refine sI_zero (fun y hy9 => gz _ (by omega) ?_)
      rw [← hf _ (by omega)]
      have e := b_sshr i0 (by omega) fit (i := y) (by omega)
      rw [if_pos (by omega)] at e
      rw [← e]
      have hy' : fit >>> (nI i0 &&& 31) = nI 0 := hy
      rw [hy', b_nI0]
    rw [this, z9, i_add0]
  · rw [show i0 = 10 by omega]
theorem hat_lay (hR : RS σ) {but : Int32} {hb : Option Nat} {D : Nat} (hbut : (hb = none ∧ but = mN ∧ D = sm (σ.1 171)) ∨ ∃ h, h < sm (σ.1 171) ∧ hb = some h ∧ but = nI h ∧ D + 1 = sm (σ.1 171)) : ∃ m, f_Dealings_layOut z_Law σ 165 60 but = some m ∧ m.1 165 1 = nI D ∧ m.1 165 2 = nI (2 ^ sn (σ.1 171)) ∧ (∀ s, s < 2 ^ sn (σ.1 171) → m.1 167 s = VV (σ.1 171) hb D s) ∧ (∀ q, q ≠ 165 → q ≠ 167 → m.1 q = σ.1 q) ∧ m.2 = σ.2 := by
  have hv := rl_v hR
  have n10 := iv_n10 hv
  have m8 := iv_m8 hv
  have hm := rl_m hR
  have hn := rl_n hR
  obtain ⟨n, en⟩ : ∃ n, sn (σ.1 171) = n := ⟨_, rfl⟩
  obtain ⟨c, ec⟩ : ∃ c, sm (σ.1 171) = c := ⟨_, rfl⟩
  rw [en] at n10 hn ⊢
  rw [ec] at m8 hm hbut
  have h10 := pow_le_1024 n10
  have h2n := Nat.two_pow_pos n
  have hD : D ≤ c := by rcases hbut with ⟨-, -, e⟩ | ⟨h, -, -, -, e⟩ <;> omega
  have hix : ∀ s, s < 2 ^ n → 1 ≤ pc s → pc s ≤ D → idx hb (pc s - 1) < c := by
    intro s hs h1 h2
    rcases hbut with ⟨e, -, eD⟩ | ⟨h, hh, e, -, eD⟩
    · rw [e]; show pc s - 1 < c; omega
    · rw [e]; show (if pc s - 1 < h then pc s - 1 else pc s - 1 + 1) < c
      split <;> omega
  obtain ⟨w, ew⟩ : ∃ w, kI (kI (kI σ 165 1 (nI D)) 165 2 (nI (2 ^ n))) 167 0 (nI 1) = w := ⟨_, rfl⟩
  have w1 : w.1 165 1 = nI D := by rw [← ew]; rfl
  have w2 : w.1 165 2 = nI (2 ^ n) := by rw [← ew]; rfl
  have w3 : w.1 167 0 = nI 1 := by rw [← ew]; exact kI_at.trans (if_pos rfl)
  have w4 : ∀ q, q ≠ 165 → q ≠ 167 → w.1 q = σ.1 q := fun q g1 g2 => by rw [← ew, kI_o _ _ _ _ g2, kI_o _ _ _ _ g1, kI_o _ _ _ _ g1]
  have w5 : w.2 = σ.2 := by rw [← ew]; rfl
  have L52 : ∃ m, mm_lp (f_Dealings_layOut_L52 z_Law 165 60 but) (nI 1, w) = some m ∧ m.1 165 1 = nI D ∧ m.1 165 2 = nI (2 ^ n) ∧ (∀ s, s < 2 ^ n → m.1 167 s = VV (σ.1 171) hb D s) ∧ (∀ q, q ≠ 165 → q ≠ 167 → m.1 q = σ.1 q) ∧ m.2 = σ.2 := by
    refine lp_ix (fun i t => t.1 = nI (i + 1) ∧ t.2.1 165 1 = nI D ∧ t.2.1 165 2 = nI (2 ^ n) ∧ (∀ s, s < i + 1 → t.2.1 167 s = VV (σ.1 171) hb D s) ∧ (∀ q, q ≠ 165 → q ≠ 167 → t.2.1 q = σ.1 q) ∧ t.2.2 = σ.2) (2 ^ n - 1) (fun i t hi hI => ?_) (fun t hI => ?_) ⟨rfl, w1, w2, fun s hs => ?_, w4, w5⟩
    · obtain ⟨a, q⟩ := t
      obtain ⟨h1, h2, h3, h4, h5, h6⟩ := hI
      dsimp only at h1 h2 h3 h4 h5 h6
      subst h1
      obtain ⟨s, es⟩ : ∃ s, i + 1 = s := ⟨_, rfl⟩
      rw [es] at h4 ⊢
      have hs : s < 2 ^ n := by omega
      have hp1 := pc_pos (s := s) (by omega) (by omega)
      have hp10 := pc_le s
      have hJ88 : ∀ j : Nat, (pc s ≤ D → j = idx hb (pc s - 1)) → f_Dealings_layOut_J88 z_Law 165 60 but (nI s) (nI (pc s)) (nI j) q = some (.inl (nI (s + 1), kI q 167 s (VV (σ.1 171) hb D s))) := by
        intro j hj
        unfold f_Dealings_layOut_J88 f_Dealings_layOut_J117 f_Dealings_layOut_J174
        by_cases hd : pc s ≤ D
        · have hj' := hj hd
          have hjc := hix s hs hp1 hd
          rw [← hj'] at hjc
          have e88 : q.1 88 j = rf (σ.1 171) j (sr (σ.1 171)) := by
            rw [h5 88 (by decide) (by decide)]
            exact (rl_S hR).2.2.2.2.2.2.2.1 j (by rw [ec]; exact hjc)
          simp (disch := omega) only [fl, fmN, mm_lt, Nat.reduceAdd, Option.bind_some, lt_t, lt_f, le_t, le_f, eq_f, eq_self, nI_add, nI_mul, nI_sub, ↓reduceIte, h2, row_atE (p := 88) rfl zq_88, e88]
          rw [hat_L122 (n := n) (G := fbb (σ.1 171) j) (old := VV (σ.1 171) hb D) n10 hs (fun i hi => by rw [b_and, b_nI hi]; rfl) (fun y hy hb9 => h4 _ (by have := set_all s (by omega) y (by omega) hb9; have := Nat.two_pow_pos y; omega))]
          simp (disch := omega) only [fl, fmN, mm_lt, Nat.reduceAdd, Option.bind_some, lt_t, lt_f, le_t, le_f, eq_f, eq_self, nI_add, nI_mul, nI_sub, ↓reduceIte, row_putE (p := 167) rfl zq_167]
          congr 4
          have : VV (σ.1 171) hb D s = WW n (fun j => fbb (σ.1 171) (idx hb j)) (pc s - 1 + 1) s := by
            unfold VV
            rw [if_pos hd, en, show pc s - 1 + 1 = pc s by omega]
          rw [this]
          refine sI_cong (fun y hy => ?_)
          show _ = (if (s.testBit y && fbb (σ.1 171) (idx hb (pc s - 1)) y) = true then _ else _)
          rw [← hj']
          by_cases hb9 : (s.testBit y && fbb (σ.1 171) j y) = true
          · rw [if_pos hb9, if_pos hb9]
            have hb1 := ((Bool.and_eq_true _ _).mp hb9).1
            have h8 := set_all s (by omega) y (by omega) hb1
            unfold VV
            rw [if_pos (by omega), en, show pc (s - 2 ^ y) = pc s - 1 by omega]
          · rw [if_neg hb9, if_neg hb9]
        · have e0 : mm_lp (f_Dealings_layOut_L122 z_Law q 165 60 but (nI s) (nI 0)) (nI 0, nI 0) = some (nI 0) := by
            refine mm_lp_done ?_
            unfold f_Dealings_layOut_L122
            simp (disch := omega) only [fl, fmN, mm_lt, Nat.reduceAdd, Option.bind_some, lt_t, lt_f, le_t, le_f, eq_f, eq_self, nI_add, nI_mul, nI_sub, ↓reduceIte]
            rw [if_pos (by decide)]
          simp (disch := omega) only [fl, fmN, mm_lt, Nat.reduceAdd, Option.bind_some, lt_t, lt_f, le_t, le_f, eq_f, eq_self, nI_add, nI_mul, nI_sub, ↓reduceIte, h2, e0, row_putE (p := 167) rfl zq_167]
          congr 4
          unfold VV
          rw [if_neg hd]
      refine ⟨(nI (s + 1), kI q 167 s (VV (σ.1 171) hb D s)), ?_, rfl, h2, h3, fun s' hs' => ?_, fun q' g1 g2 => ?_, h6⟩
      · unfold f_Dealings_layOut_L52
        simp (disch := omega) only [fl, fmN, mm_lt, Nat.reduceAdd, Option.bind_some, lt_t, lt_f, le_t, le_f, eq_f, eq_self, nI_add, nI_mul, nI_sub, ↓reduceIte, h3, bc_s (by omega : s < 1024)]
        rcases hbut with ⟨e, e2, eD⟩ | ⟨h, hh, e, e2, eD⟩
        · rw [e2, if_pos rfl]
          rw [e2] at hJ88
          exact hJ88 _ (fun _ => by rw [e]; rfl)
        · rw [e2]
          simp (disch := omega) only [mN_ne, if_false]
          rw [e2] at hJ88
          by_cases h9 : pc s - 1 < h
          · simp (disch := omega) only [lt_t, ↓reduceIte]
            exact hJ88 _ (fun _ => by rw [e]; show _ = if pc s - 1 < h then pc s - 1 else pc s - 1 + 1; rw [if_pos h9])
          · simp (disch := omega) only [lt_f, ↓reduceIte]
            exact hJ88 _ (fun _ => by rw [e]; show _ = if pc s - 1 < h then pc s - 1 else pc s - 1 + 1; rw [if_neg h9]; omega)
      · show (kI q 167 s _).1 167 s' = _
        rw [kI_at]
        by_cases g : s' = s
        · rw [if_pos g, g]
        · rw [if_neg g]; exact h4 s' (by omega)
      · show (kI q 167 s _).1 q' = _
        rw [kI_o _ _ _ _ g2]; exact h5 q' g1 g2
    · obtain ⟨a, q⟩ := t
      obtain ⟨h1, h2, h3, h4, h5, h6⟩ := hI
      dsimp only at h1 h2 h3 h4 h5 h6
      subst h1
      refine ⟨q, ?_, h2, h3, fun s hs => h4 s (by omega), h5, h6⟩
      unfold f_Dealings_layOut_L52
      rw [show 2 ^ n - 1 + 1 = 2 ^ n by omega]
      simp (disch := omega) only [fl, fmN, mm_lt, Nat.reduceAdd, Option.bind_some, lt_t, lt_f, le_t, le_f, eq_f, eq_self, nI_add, nI_mul, nI_sub, ↓reduceIte, h3, Int32.le_refl]
    · have : s = 0 := by omega
      subst this
      show w.1 167 0 = _
      rw [w3]
      unfold VV
      rw [if_pos (by rw [show pc 0 = 0 by decide]; omega), show pc 0 = 0 by decide]
      rfl
  obtain ⟨m, e, r⟩ := L52
  refine ⟨m, ?_, r⟩
  have hJ : f_Dealings_layOut_J21 z_Law 165 60 but (nI c) (nI (c - D)) σ = some m := by
    unfold f_Dealings_layOut_J21
    have e1 : (kI σ 165 1 (nI D)).1 62 1 = nI n := hn
    have e2 : nI c - nI (c - D) = nI D := by rw [nI_sub (by omega), show c - (c - D) = D by omega]
    simp only [fl, mm_lt, Nat.reduceAdd, e2, e1, pow_sh n (by omega), row_putE (p := 167) (n := 1024) (k := 0) rfl zq_167 (by decide) (by decide), Option.bind_some]
    rw [ew, e]
    rfl
  unfold f_Dealings_layOut
  simp only [fl, fmN, Nat.reduceAdd, hm]
  rcases hbut with ⟨e', e2, eD⟩ | ⟨h, hh, e', e2, eD⟩
  · rw [if_pos e2]
    rw [show c - D = 0 by omega] at hJ
    exact hJ
  · rw [if_neg (by rw [e2]; exact hq_ne (n := h) (by omega))]
    rw [show c - D = 1 by omega] at hJ
    exact hJ
end DEAL
