/-! spring -/
section SPR
variable {σ m u : Mm} {S S' : Nat → Int32}
/-- one HOUSE draws: what, the hat and the seed then -/
def dsx (x : Int32) : Int32 := x * nI 1103515245 + nI 12345
def dsr (v x : Int32) : Nat := ((dsx x).toUInt32 >>> ((nI 8).toUInt32 &&& Int32.toUInt32 (nI 31))).toInt32.toNatClampNeg % pcI v
def dst (h : Int32 × Int32) : Int32 × Int32 × Int32 := if h.1 = nI 0 then (mN, h) else (nI (kth h.1 (dsr h.1 h.2)), h.1 &&& ((nI 1 <<< (nI (kth h.1 (dsr h.1 h.2)) &&& nI 31)) ^^^ mN), dsx h.2)
def hs (v x : Int32) : Nat → Int32 × Int32
  | 0 => (v, x)
  | k + 1 => (dst (hs v x k)).2
def ou (v x : Int32) (k : Nat) : Int32 := (dst (hs v x k)).1
theorem ush8 (y : Int32) : ∃ q, q < 2 ^ 24 ∧ (y.toUInt32 >>> ((nI 8).toUInt32 &&& Int32.toUInt32 (nI 31))).toInt32 = nI q := by
  have h := pk_ushr y (nI 8) 8 (by decide)
  refine ⟨y.toBitVec.toNat / 2 ^ 8, ?_, ?_⟩
  · have := y.toBitVec.isLt
    omega
  · apply Int32.toBitVec_inj.mp
    apply BitVec.eq_of_toNat_eq
    refine h.trans ?_
    show _ = (BitVec.ofNat 32 _).toNat
    rw [BitVec.toNat_ofNat]
    have := y.toBitVec.isLt
    omega
theorem ds_rem {v x : Int32} (h : 0 < pcI v) : mm_irem ((dsx x).toUInt32 >>> ((nI 8).toUInt32 &&& Int32.toUInt32 (nI 31))).toInt32 (nI (pcI v)) = some (nI (dsr v x)) ∧ dsr v x < pcI v := by
  obtain ⟨q, hq, e⟩ := ush8 (dsx x)
  have := pcI_le v
  unfold dsr
  rw [e, nI_clamp (by omega)]
  refine ⟨?_, Nat.mod_lt _ h⟩
  unfold mm_irem
  rw [if_neg (nI_ne0 h (by omega)), pk_rem (by omega) h (by omega)]
def allb (n : Nat) : Int32 := nI 1 <<< (nI n &&& nI 31) - nI 1
/-- what stands of the hat behind k draws -/
def hatI (n : Nat) (v x : Int32) (k : Nat) : Prop := (∀ i, i < 32 → n ≤ i → bt (hs v x k).1 i = false) ∧ ∀ j, j < k → ou v x j = mN ∨ ∃ p, p < n ∧ ou v x j = nI p ∧ bt (hs v x k).1 p = false
theorem hat_sma {n k : Nat} {v x : Int32} (hn : n ≤ 10) (h : hatI n v x k) : sma (hs v x k).1 := fun i hi h9 => h.1 i hi (by omega)
theorem hat_k {n k : Nat} {v x : Int32} (hn : n ≤ 10) (h : hatI n v x k) (h0 : (hs v x k).1 ≠ nI 0) : 0 < pcI (hs v x k).1 ∧ dsr (hs v x k).1 (hs v x k).2 < pcI (hs v x k).1 ∧ kth (hs v x k).1 (dsr (hs v x k).1 (hs v x k).2) < n ∧ bt (hs v x k).1 (kth (hs v x k).1 (dsr (hs v x k).1 (hs v x k).2)) = true := by
  have h1 : 0 < pcI (hs v x k).1 := by
    rcases Nat.eq_zero_or_pos (pcI (hs v x k).1) with q | q
    · exact absurd ((pcI_0 (hat_sma hn h)).mp q) h0
    · exact q
  have h2 := (ds_rem (x := (hs v x k).2) h1).2
  obtain ⟨k1, k2, k3⟩ := kth_ok h2
  refine ⟨h1, h2, ?_, k2⟩
  rcases Nat.lt_or_ge (kth (hs v x k).1 (dsr (hs v x k).1 (hs v x k).2)) n with q | q
  · exact q
  · rw [h.1 _ (by omega) q] at k2; cases k2
theorem ou_0 {v x : Int32} {k : Nat} (h0 : (hs v x k).1 = nI 0) : ou v x k = mN ∧ hs v x (k + 1) = hs v x k := by
  unfold ou
  show (dst (hs v x k)).1 = mN ∧ (dst (hs v x k)).2 = hs v x k
  unfold dst
  rw [if_pos h0]
  exact ⟨rfl, rfl⟩
theorem ou_1 {v x : Int32} {k : Nat} (h0 : (hs v x k).1 ≠ nI 0) : ou v x k = nI (kth (hs v x k).1 (dsr (hs v x k).1 (hs v x k).2)) ∧ hs v x (k + 1) = ((hs v x k).1 &&& ((nI 1 <<< (nI (kth (hs v x k).1 (dsr (hs v x k).1 (hs v x k).2)) &&& nI 31)) ^^^ mN), dsx (hs v x k).2) := by
  unfold ou
  show (dst (hs v x k)).1 = _ ∧ (dst (hs v x k)).2 = _
  unfold dst
  rw [if_neg h0]
  exact ⟨rfl, rfl⟩
theorem hat_all {n : Nat} (hn : n ≤ 10) (x : Int32) : ∀ k, hatI n (allb n) x k
  | 0 => ⟨fun i hi h => by show bt (nI 1 <<< (nI n &&& nI 31) - nI 1) i = false; rw [b_low n hn i hi, decide_eq_false (by omega)], fun j hj => absurd hj (by omega)⟩
  | k + 1 => by
    have ih := hat_all hn x k
    by_cases h0 : (hs (allb n) x k).1 = nI 0
    · obtain ⟨e1, e2⟩ := ou_0 h0
      unfold hatI
      rw [e2]
      refine ⟨ih.1, fun j hj => ?_⟩
      by_cases hjk : j = k
      · subst hjk; exact Or.inl e1
      · exact ih.2 j (by omega)
    · obtain ⟨e1, e2⟩ := ou_1 h0
      obtain ⟨k1, k2, k3, k4⟩ := hat_k hn ih h0
      unfold hatI
      rw [e2]
      refine ⟨fun i hi h => ?_, fun j hj => ?_⟩
      · show bt (_ &&& (_ ^^^ mN)) i = false
        rw [b_clr (by omega) hi, ih.1 i hi h, Bool.false_and]
      · by_cases hjk : j = k
        · subst hjk
          refine Or.inr ⟨_, k3, e1, ?_⟩
          show bt (_ &&& (_ ^^^ mN)) _ = false
          rw [b_clr (by omega) (by omega), decide_eq_true rfl, Bool.not_true, Bool.and_false]
        · rcases ih.2 j (by omega) with q | ⟨p, p1, p2, p3⟩
          · exact Or.inl q
          · refine Or.inr ⟨p, p1, p2, ?_⟩
            show bt (_ &&& (_ ^^^ mN)) _ = false
            rw [b_clr (by omega) (by omega), p3, Bool.false_and]
theorem ou_hq {n : Nat} (hn : n ≤ 10) (x : Int32) (k : Nat) : hq n (ou (allb n) x k) := by
  rcases (hat_all hn x (k + 1)).2 k (by omega) with q | ⟨p, p1, p2, -⟩
  · exact Or.inl q
  · exact Or.inr ⟨p, p1, p2⟩
theorem ou_one {n : Nat} (hn : n ≤ 10) (x : Int32) {j k : Nat} (hjk : j < k) (e : ou (allb n) x j = ou (allb n) x k) : ou (allb n) x k = mN := by
  have ih := hat_all hn x k
  by_cases h0 : (hs (allb n) x k).1 = nI 0
  · exact (ou_0 h0).1
  · obtain ⟨e1, -⟩ := ou_1 h0
    obtain ⟨k1, k2, k3, k4⟩ := hat_k hn ih h0
    rcases ih.2 j hjk with q | ⟨p, p1, p2, p3⟩
    · exact e ▸ q
    · rw [e1, p2] at e
      have := nI_inj (by omega) (by omega) e
      rw [← this, p3] at k4
      cases k4
theorem spr_rel {N : Nat → Int64} {o : Nat → Int32} (hv : Inv S) (hS : SR σ 60 S N) (hsp : sp S ≤ 23) (hn0 : sn S ≠ 0) (ho : ∀ k, hq (sn S) (o k)) (ho2 : ∀ j k, j < k → o j = o k → o k = mN)
    (P1 : ∀ k, k < sm S → S' (123 + k) = o k) (P2 : ∀ k, k < sm S → S' (332 + 8 * (sp S + 1) + k) = o k) (P3 : S' 131 = nI (sp S + 1)) (P4 : ∀ k, k < 8 → S' (132 + 8 * sp S + k) = S (123 + k)) (P5 : ∀ i, i < 744 → ¬ (123 ≤ i ∧ i < 123 + sm S) → ¬ (332 + 8 * (sp S + 1) ≤ i ∧ i < 332 + 8 * (sp S + 1) + sm S) → i ≠ 131 → ¬ (132 + 8 * sp S ≤ i ∧ i < 132 + 8 * sp S + 8) → S' i = S i)
    (c1 : m.2 = σ.2) (c2 : m.1 60 2 = nI (sp S + 1)) (c3 : ∀ k, k ≠ 2 → m.1 60 k = σ.1 60 k) (c4 : ∀ k, k < sm S → m.1 76 k = o k) (c5 : ∀ k, sm S ≤ k → m.1 76 k = σ.1 76 k) (c6 : ∀ k, k < 8 → m.1 84 (8 * sp S + k) = σ.1 76 k) (c7 : ∀ i, i < 8 * sp S → m.1 84 i = σ.1 84 i) (c8 : ∀ k, k < sm S → m.1 86 (8 * (sp S + 1) + k) = o k) (c9 : ∀ i, i < 8 * (sp S + 1) → m.1 86 i = σ.1 86 i) (c10 : ∀ q, q < 169 → q ≠ 60 → q ≠ 76 → q ≠ 84 → q ≠ 86 → m.1 q = σ.1 q) : SR m 60 S' N ∧ Inv S' := by
  have m8 := iv_m8 hv
  have n10 := iv_n10 hv
  have r30 := iv_sr30 hv
  have b30 := iv_sb30 hv
  have e : ∀ i, i < 744 → (i < 123 ∨ 532 ≤ i) → S' i = S i := fun i hi h => P5 i hi (by omega) (by omega) (by omega) (by omega)
  have e0 := sn_c (e 0 (by decide) (by decide))
  have e1 := sm_c (e 1 (by decide) (by decide))
  have e2 := pw_c (e 2 (by decide) (by decide))
  have e3 := sc_c (e 3 (by decide) (by decide))
  have e5 := sr_c (e 532 (by decide) (by decide))
  have e6 := sb_c (e 623 (by decide) (by decide))
  have e4 : sp S' = sp S + 1 := by unfold sp; rw [P3, nI_clamp (by omega)]; rfl
  constructor
  · have hH : HR m 74 S' := by
      constructor
      · intro k hk
        show m.1 76 k = _
        by_cases h : k < sm S
        · rw [c4 k h, P1 k h]
        · rw [c5 k (by omega), P5 _ (by omega) (by omega) (by omega) (by omega) (by omega)]
          exact hS.2.2.1.1 k hk
      · intro k hk
        show m.1 78 k = _
        rw [c10 78 (by decide) (by decide) (by decide) (by decide) (by decide), e _ (by omega) (by omega)]
        exact hS.2.2.1.2 k hk
    refine ⟨IR_cong (IR_c hS.1 (fun j hj => c10 _ (by omega) (by omega) (by omega) (by omega) (by omega))) (fun i hi => e i (by omega) (by omega)), ?_, hH, ?_⟩
    · have := NR_c (m := m) hS.2.1 (fun j hj => by rw [c1])
      exact NR_cong this n10 m8 (e 0 (by decide) (by decide)) (e 1 (by decide) (by decide)) (fun _ _ => rfl)
    · rw [e1, e4, e5, e6, P3, e 532 (by decide) (by decide), e 623 (by decide) (by decide), c3 5 (by decide), c3 7 (by decide), c10 (60 + 28) (by decide) (by decide) (by decide) (by decide) (by decide), c10 (60 + 30) (by decide) (by decide) (by decide) (by decide) (by decide), c10 (60 + 32) (by decide) (by decide) (by decide) (by decide) (by decide), c10 (60 + 34) (by decide) (by decide) (by decide) (by decide) (by decide)]
      refine ⟨c2, fun t k ht hk => ?_, fun t k h1 h2 hk => ?_, hS.2.2.2.2.2.2.1, fun k hk => ?_, hS.2.2.2.2.2.2.2.2.1, fun i hi => ?_⟩
      · show m.1 84 (8 * t + k) = _
        by_cases h : t = sp S
        · subst h
          rw [c6 k hk, P4 k hk]; exact hS.2.2.1.1 k hk
        · rw [c7 _ (by omega), P5 _ (by omega) (by omega) (by omega) (by omega) (by omega)]
          exact hS.2.2.2.2.1 t k (by omega) hk
      · show m.1 86 (8 * t + k) = _
        by_cases h : t = sp S + 1
        · subst h
          rw [c8 k hk, P2 k hk]
        · rw [c9 _ (by omega), P5 _ (by omega) (by omega) (by omega) (by omega) (by omega)]
          exact hS.2.2.2.2.2.1 t k h1 (by omega) hk
      · rw [rf_cong2 (fun i h1 h2 => e i h2 (by omega)) k _ r30]; exact hS.2.2.2.2.2.2.2.1 k hk
      · rw [e _ (by omega) (by omega), e _ (by omega) (by omega), e _ (by omega) (by omega)]; exact hS.2.2.2.2.2.2.2.2.2 i hi
  · unfold Inv
    rw [e0, e1, e2, e3, e4, e5, e6, e 0 (by decide) (by decide), e 1 (by decide) (by decide), e 2 (by decide) (by decide), e 3 (by decide) (by decide), P3, e 532 (by decide) (by decide), e 623 (by decide) (by decide)]
    refine ⟨hv.1, hv.2.1, hv.2.2.1, hv.2.2.2.1, ⟨rfl, by omega⟩, hv.2.2.2.2.2.1, hv.2.2.2.2.2.2.1, fun k hk => ?_, fun k h1 h2 => ?_, fun j k h1 h2 h3 => ?_, fun t ht => ⟨fun k hk => ?_, fun j k h1 h2 h3 => ?_⟩, fun t k h1 h2 h3 => ?_, fun x y hx hy => ?_, fun i hi => ?_, fun i hi => ?_, fun _ => hn0⟩
    · by_cases h : k < sm S
      · rw [P1 k h]; exact ho k
      · rw [P5 _ (by omega) (by omega) (by omega) (by omega) (by omega)]; exact iv_held hv k hk
    · rw [P5 _ (by omega) (by omega) (by omega) (by omega) (by omega)]; exact iv_none hv k h1 h2
    · by_cases h : k < sm S
      · rw [P1 j (by omega), P1 k h] at h3
        rw [P1 k h]; exact ho2 j k h1 h3
      · rw [P5 _ (by omega) (by omega) (by omega) (by omega) (by omega)]; exact iv_none hv k (by omega) h2
    · by_cases h : t = sp S
      · subst h; rw [P4 k hk]; exact iv_held hv k hk
      · rw [P5 _ (by omega) (by omega) (by omega) (by omega) (by omega)]; exact (iv_kept hv t (by omega)).1 k hk
    · by_cases h : t = sp S
      · subst h
        rw [P4 j (by omega), P4 k h2] at h3
        rw [P4 k h2]; exact iv_one hv j k h1 h2 h3
      · rw [P5 (132 + 8 * t + j) (by omega) (by omega) (by omega) (by omega) (by omega), P5 (132 + 8 * t + k) (by omega) (by omega) (by omega) (by omega) (by omega)] at h3
        rw [P5 (132 + 8 * t + k) (by omega) (by omega) (by omega) (by omega) (by omega)]; exact (iv_kept hv t (by omega)).2 j k h1 h2 h3
    · by_cases h : t = sp S + 1
      · subst h; rw [P2 k h3]; exact ho k
      · rw [P5 _ (by omega) (by omega) (by omega) (by omega) (by omega)]; exact iv_drew hv t k h1 (by omega) h3
    · rw [e _ (by omega) (by omega), e _ (by omega) (by omega)]; exact iv_feud hv x y hx hy
    · rw [e _ (by omega) (by omega), e _ (by omega) (by omega), e _ (by omega) (by omega)]; exact iv_roll hv i hi
    · rw [e _ (by omega) (by omega), e _ (by omega) (by omega), e _ (by omega) (by omega)]; exact iv_book hv i hi
theorem hat_draw (hR : RS σ) (hsp : sp (σ.1 171) ≤ 23) (x : Int32) : ∃ m, f_State_drawAll z_Law σ 60 x = some m ∧ m.2 = σ.2 ∧ m.1 60 2 = nI (sp (σ.1 171) + 1) ∧ (∀ k, k ≠ 2 → m.1 60 k = σ.1 60 k) ∧ (∀ k, k < sm (σ.1 171) → m.1 76 k = ou (allb (sn (σ.1 171))) x k) ∧ (∀ k, sm (σ.1 171) ≤ k → m.1 76 k = σ.1 76 k) ∧ (∀ k, k < 8 → m.1 84 (8 * sp (σ.1 171) + k) = σ.1 76 k) ∧ (∀ i, i < 8 * sp (σ.1 171) → m.1 84 i = σ.1 84 i) ∧ (∀ k, k < sm (σ.1 171) → m.1 86 (8 * (sp (σ.1 171) + 1) + k) = ou (allb (sn (σ.1 171))) x k) ∧ (∀ i, i < 8 * (sp (σ.1 171) + 1) → m.1 86 i = σ.1 86 i) ∧ (∀ q, q ≠ 60 → q ≠ 76 → q ≠ 84 → q ≠ 86 → m.1 q = σ.1 q) := by
  have hv := rl_v hR
  have m8 := iv_m8 hv
  have n10 := iv_n10 hv
  have hp := rl_sp hR
  have hm := rl_m hR
  have hn := rl_n hR
  obtain ⟨s, es⟩ : ∃ s, sp (σ.1 171) = s := ⟨_, rfl⟩
  obtain ⟨c, ec⟩ : ∃ c, sm (σ.1 171) = c := ⟨_, rfl⟩
  obtain ⟨n, en⟩ : ∃ n, sn (σ.1 171) = n := ⟨_, rfl⟩
  rw [es] at hp hsp ⊢
  rw [ec] at hm m8 ⊢
  rw [en] at hn n10 ⊢
  have L2 : mm_lp (f_State_drawAll_L2 z_Law 60 x) (nI 0, σ) = some (kP σ 84 (s * 8) 8 (σ.1 76)) := by
    refine lp_go (fun i => (nI i, kP σ 84 (s * 8) i (σ.1 76))) 8 (Prod.ext rfl kP_0.symm) (fun i hi => ?_) ?_
    · have e1 : (kP σ 84 (s * 8) i (σ.1 76)).1 60 2 = nI s := by rw [kP_o (by decide)]; exact hp
      have e2 : f_Row_at z_Law (kP σ 84 (s * 8) i (σ.1 76)) 75 (nI i) = some (σ.1 76 i) := by rw [row_atE (p := 76) (n := 8) rfl zq_76 (by omega) (by decide), kP_o (by decide)]
      unfold f_State_drawAll_L2
      simp (disch := omega) only [fl, fmN, mm_lt, Nat.reduceAdd, Option.bind_some, lt_t, lt_f, le_t, le_f, eq_f, eq_self, nI_add, nI_mul, nI_sub, ↓reduceIte, e1, e2, row_putE (p := 84) rfl zq_84, kP_succ]
    · unfold f_State_drawAll_L2
      simp (disch := omega) only [fl, fmN, mm_lt, Nat.reduceAdd, Option.bind_some, lt_t, lt_f, le_t, le_f, eq_f, eq_self, nI_add, nI_mul, nI_sub, ↓reduceIte]
  have hf : ∀ {q : Nat}, q ≠ 84 → q ≠ 60 → (kI (kP σ 84 (s * 8) 8 (σ.1 76)) 60 2 (nI (s + 1))).1 q = σ.1 q := fun h1 h2 => (kI_o _ _ _ _ h2).trans (kP_o h1)
  have L67 : ∃ m, mm_lp (f_State_drawAll_L67 z_Law 60) (allb n, x, nI 0, kI (kP σ 84 (s * 8) 8 (σ.1 76)) 60 2 (nI (s + 1))) = some m ∧ m.2 = σ.2 ∧ (∀ j, j < c → m.1 76 j = ou (allb n) x j) ∧ (∀ j, c ≤ j → m.1 76 j = σ.1 76 j) ∧ (∀ j, j < c → m.1 86 ((s + 1) * 8 + j) = ou (allb n) x j) ∧ (∀ i, i < (s + 1) * 8 → m.1 86 i = σ.1 86 i) ∧ ∀ q, q ≠ 76 → q ≠ 86 → m.1 q = (kI (kP σ 84 (s * 8) 8 (σ.1 76)) 60 2 (nI (s + 1))).1 q := by
    refine lp_ix (fun k t => t.1 = (hs (allb n) x k).1 ∧ t.2.1 = (hs (allb n) x k).2 ∧ t.2.2.1 = nI k ∧ t.2.2.2.2 = σ.2 ∧ (∀ j, j < k → t.2.2.2.1 76 j = ou (allb n) x j) ∧ (∀ j, k ≤ j → t.2.2.2.1 76 j = σ.1 76 j) ∧ (∀ j, j < k → t.2.2.2.1 86 ((s + 1) * 8 + j) = ou (allb n) x j) ∧ (∀ i, i < (s + 1) * 8 → t.2.2.2.1 86 i = σ.1 86 i) ∧ ∀ q, q ≠ 76 → q ≠ 86 → t.2.2.2.1 q = (kI (kP σ 84 (s * 8) 8 (σ.1 76)) 60 2 (nI (s + 1))).1 q) c (fun k t hk hI => ?_) (fun t hI => ?_) ⟨rfl, rfl, rfl, rfl, fun j hj => absurd hj (by omega), fun j hj => congrFun (hf (by decide) (by decide)) j, fun j hj => absurd hj (by omega), fun i hi => congrFun (hf (by decide) (by decide)) i, fun q h1 h2 => rfl⟩
    · obtain ⟨a1, a2, a3, q⟩ := t
      obtain ⟨h1, h2, h3, h4, h5, h6, h7, h8, h9⟩ := hI
      dsimp only at h1 h2 h3 h4 h5 h6 h7 h8 h9
      subst h1; subst h2; subst h3
      have hh := hat_all n10 x k
      have hbc := hat_bc (z := z_Law) (σ := q) (hat_sma n10 hh)
      have e64 : q.1 64 1 = nI c := by rw [h9 64 (by decide) (by decide), hf (by decide) (by decide)]; exact hm
      have e60 : q.1 60 2 = nI (s + 1) := by rw [h9 60 (by decide) (by decide)]; exact (kI_at (o := 60)).trans (if_pos rfl)
      have hJ : ∀ (v2 v3 v5 : Int32), v5 = ou (allb n) x k → ∃ s', f_State_drawAll_J127 z_Law 60 v2 v3 (nI k) v5 q = some (.inl s') ∧ s' = (v2, v3, nI (k + 1), kI (kI q 76 k v5) 86 ((s + 1) * 8 + k) v5) := by
        intro v2 v3 v5 hv5
        refine ⟨_, ?_, rfl⟩
        have e60' : (kI q 76 k v5).1 60 2 = nI (s + 1) := e60
        unfold f_State_drawAll_J127
        simp (disch := omega) only [fl, fmN, mm_lt, Nat.reduceAdd, Option.bind_some, lt_t, lt_f, le_t, le_f, eq_f, eq_self, nI_add, nI_mul, nI_sub, ↓reduceIte, row_putE (p := 76) rfl zq_76, row_putE (p := 86) rfl zq_86, e60']
      have hI' : ∀ v5 : Int32, v5 = ou (allb n) x k → (kI (kI q 76 k v5) 86 ((s + 1) * 8 + k) v5).2 = σ.2 ∧ (∀ j, j < k + 1 → (kI (kI q 76 k v5) 86 ((s + 1) * 8 + k) v5).1 76 j = ou (allb n) x j) ∧ (∀ j, k + 1 ≤ j → (kI (kI q 76 k v5) 86 ((s + 1) * 8 + k) v5).1 76 j = σ.1 76 j) ∧ (∀ j, j < k + 1 → (kI (kI q 76 k v5) 86 ((s + 1) * 8 + k) v5).1 86 ((s + 1) * 8 + j) = ou (allb n) x j) ∧ (∀ i, i < (s + 1) * 8 → (kI (kI q 76 k v5) 86 ((s + 1) * 8 + k) v5).1 86 i = σ.1 86 i) ∧ ∀ q', q' ≠ 76 → q' ≠ 86 → (kI (kI q 76 k v5) 86 ((s + 1) * 8 + k) v5).1 q' = (kI (kP σ 84 (s * 8) 8 (σ.1 76)) 60 2 (nI (s + 1))).1 q' := by
        intro v5 hv5
        refine ⟨h4, fun j hj => ?_, fun j hj => ?_, fun j hj => ?_, fun i hi => ?_, fun q' g1 g2 => ?_⟩
        · rw [kI_o _ _ _ _ (by decide), kI_at]
          by_cases g : j = k
          · rw [if_pos g, g]; exact hv5
          · rw [if_neg g]; exact h5 j (by omega)
        · rw [kI_o _ _ _ _ (by decide), kI_at, if_neg (by omega)]; exact h6 j (by omega)
        · rw [kI_at]
          by_cases g : j = k
          · rw [if_pos (by omega), g]; exact hv5
          · rw [if_neg (by omega), kI_o _ _ _ _ (by decide)]; exact h7 j (by omega)
        · rw [kI_at, if_neg (by omega), kI_o _ _ _ _ (by decide)]; exact h8 i hi
        · rw [kI_o _ _ _ _ g2, kI_o _ _ _ _ g1]; exact h9 q' g1 g2
      by_cases h0 : (hs (allb n) x k).1 = nI 0
      · obtain ⟨e1, e2⟩ := ou_0 (v := allb n) (x := x) h0
        obtain ⟨s', g1, g2⟩ := hJ (hs (allb n) x k).1 (hs (allb n) x k).2 mN e1.symm
        refine ⟨s', ?_, ?_⟩
        · unfold f_State_drawAll_L67
          have hpc : pcI (hs (allb n) x k).1 = 0 := (pcI_0 (hat_sma n10 hh)).mpr h0
          have hbc' : f_Int_bitCount z_Law q (hs (allb n) x k).1 = some (nI (pcI (hs (allb n) x k).1)) := hbc
          simp (disch := omega) only [fl, fmN, mm_lt, Nat.reduceAdd, Option.bind_some, lt_t, lt_f, le_t, le_f, eq_f, eq_self, nI_add, nI_mul, nI_sub, ↓reduceIte, e64, hbc', hpc, Int32.le_refl]
          exact g1
        · subst g2
          exact ⟨by rw [e2], by rw [e2], rfl, hI' mN e1.symm⟩
      · obtain ⟨e1, e2⟩ := ou_1 (v := allb n) (x := x) h0
        obtain ⟨k1, k2, k3, k4⟩ := hat_k n10 hh h0
        have hp10 := pcI_le (hs (allb n) x k).1
        obtain ⟨s', g1, g2⟩ := hJ ((hs (allb n) x k).1 &&& ((nI 1 <<< (nI (kth (hs (allb n) x k).1 (dsr (hs (allb n) x k).1 (hs (allb n) x k).2)) &&& nI 31)) ^^^ mN)) (dsx (hs (allb n) x k).2) (nI (kth (hs (allb n) x k).1 (dsr (hs (allb n) x k).1 (hs (allb n) x k).2))) e1.symm
        refine ⟨s', ?_, ?_⟩
        · have hbc' : f_Int_bitCount z_Law q (hs (allb n) x k).1 = some (nI (pcI (hs (allb n) x k).1)) := hbc
          have hk1 : 0 < pcI (hs (allb n) x k).1 := k1
          have hrem := (ds_rem (x := (hs (allb n) x k).2) k1).1
          unfold f_State_drawAll_L67
          simp (disch := omega) only [fl, fmN, mm_lt, Nat.reduceAdd, e64, lt_f, le_f, ↓reduceIte, hbc', Option.bind_some]
          rw [show (hs (allb n) x k).2 * nI 1103515245 + nI 12345 = dsx (hs (allb n) x k).2 from rfl, hrem, Option.bind_some, hat_kth (hat_sma n10 hh) k2, Option.bind_some]
          exact g1
        · subst g2
          exact ⟨by rw [e2], by rw [e2], rfl, hI' _ e1.symm⟩
    · obtain ⟨a1, a2, a3, q⟩ := t
      obtain ⟨h1, h2, h3, h4, h5, h6, h7, h8, h9⟩ := hI
      dsimp only at h1 h2 h3 h4 h5 h6 h7 h8 h9
      subst h1; subst h2; subst h3
      have e64 : q.1 64 1 = nI c := by rw [h9 64 (by decide) (by decide), hf (by decide) (by decide)]; exact hm
      refine ⟨q, ?_, h4, h5, h6, h7, h8, h9⟩
      unfold f_State_drawAll_L67
      simp (disch := omega) only [fl, fmN, mm_lt, Nat.reduceAdd, Option.bind_some, lt_t, lt_f, le_t, le_f, eq_f, eq_self, nI_add, nI_mul, nI_sub, ↓reduceIte, e64]
  obtain ⟨m, e, r1, r2, r3, r4, r5, r6⟩ := L67
  refine ⟨m, ?_, r1, ?_, fun k hk => ?_, r2, r3, fun k hk => ?_, fun i hi => ?_, fun k hk => ?_, fun i hi => r5 i (by omega), fun q q1 q2 q3 q4 => ?_⟩
  · have e60 : (kP σ 84 (s * 8) 8 (σ.1 76)).1 60 2 = nI s := by rw [kP_o (by decide)]; exact hp
    have e62 : (kI (kP σ 84 (s * 8) 8 (σ.1 76)) 60 2 (nI (s + 1))).1 62 1 = nI n := by rw [hf (by decide) (by decide)]; exact hn
    unfold f_State_drawAll f_Names_allBits
    simp only [fl, L2, Option.bind_some, mm_lt, e60, nI_add, Nat.reduceAdd, e62]
    unfold allb at e
    rw [e]; rfl
  · rw [r6 60 (by decide) (by decide)]; exact (kI_at (o := 60)).trans (if_pos rfl)
  · rw [r6 60 (by decide) (by decide)]; exact ((kI_at (o := 60)).trans (if_neg hk)).trans (congrFun (kP_o (by decide)) k)
  · rw [r6 84 (by decide) (by decide), kI_o _ _ _ _ (by decide), kP_in (by omega) (by omega)]
    rw [show 8 * s + k - s * 8 = k by omega]
  · rw [r6 84 (by decide) (by decide), kI_o _ _ _ _ (by decide), kP_out (by omega)]
  · have := r4 k hk
    rw [show (s + 1) * 8 + k = 8 * (s + 1) + k by omega] at this
    exact this
  · rw [r6 q q2 q4, hf q3 q1]
end SPR
