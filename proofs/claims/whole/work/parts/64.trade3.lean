section TRADE3
variable {σ m u : Mm} {S : Nat → Int32} {d r : Nat} {left : Int32}
/-- what J95 does with a circle -/
theorem hat_J95 {v gone left : Int32} {c h rd : Nat} {G : Nat → Bool} (hh : h < 8) (hv : ∀ x, x < 32 → bt v x = G x) (hG : ∀ x, x < 32 → 8 ≤ x → G x = false) : f_Hands_tradeAll_J95 z_Law d 61 left (nI c) (nI rd) gone (nI h) v m = some (.inl (nI (c + if 1 < fb_ct G 10 ∧ ∀ x, x < h → G x = false then 1 else 0), gone ||| v, nI (h + 1))) := by
  have hs : sma v := fun i h1 h2 => by rw [hv i h1]; exact hG i h1 (by omega)
  have hp : pcI v = fb_ct G 10 := fb_ct_cong (fun k hk => hv k (by omega))
  have hle := pcI_le v
  unfold f_Hands_tradeAll_J95
  simp (disch := omega) only [fl, fmN, mm_lt, Nat.reduceAdd, Option.bind_some, lt_t, lt_f, le_t, le_f, eq_f, eq_self, nI_add, nI_mul, nI_sub, ↓reduceIte, hat_bc hs]
  have hz : (v &&& (nI 1 <<< (nI h &&& nI 31) - nI 1) = nI 0) = (∀ x, x < h → G x = false) := by
    apply propext
    rw [b_zero]
    constructor
    · intro q x hx
      have := q x (by omega)
      rw [b_and, b_low h (by omega) x (by omega), decide_eq_true hx, Bool.and_true, hv x (by omega)] at this
      exact this
    · intro q x hx
      rw [b_and, b_low h (by omega) x hx, hv x hx]
      by_cases g : x < h
      · rw [q x g, Bool.false_and]
      · rw [decide_eq_false g, Bool.and_false]
  rw [← hp]
  by_cases h1 : 1 < pcI v
  · simp (disch := omega) only [le_f, ↓reduceIte]
    by_cases h2 : ∀ x, x < h → G x = false
    · rw [if_pos (hz.mpr h2), if_pos ⟨h1, h2⟩]
    · rw [if_neg (fun q => h2 (hz.mp q)), if_neg (fun q => h2 q.2)]
      rfl
  · simp (disch := omega) only [le_t, ↓reduceIte]
    rw [if_neg (fun q => h1 q.1)]
    rfl
theorem hat_68 (hz : HZ z_Law d) (hv : Inv S) (hp : ∀ k, tL S r k = true → m.1 (d + 6) k = nI (pt S (tL S r) k)) (hl : ∀ x, x < 32 → bt left x = tL S r x) {rd : Nat} : ∃ gone, mm_lp (f_Hands_tradeAll_L68 z_Law m d 61 left (nI rd)) (nI (tC S r), nI 0, nI 0) = some (nI (tC S (r + 1)), gone) ∧ ∀ x, x < 32 → bt gone x = tg S r x := by
  have hL : ∀ k, tL S r k = true → tL S r (pt S (tL S r) k) = true := fun k hk => pt_L hk
  have key : ∃ q, mm_lp (f_Hands_tradeAll_L68 z_Law m d 61 left (nI rd)) (nI (tC S r), nI 0, nI 0) = some q ∧ q.1 = nI (tC S (r + 1)) ∧ ∀ x, x < 32 → bt q.2 x = tg S r x := by
    refine lp_ix (fun h t => t.1 = nI (tC S r + fb_ct (fun x => tg S r x && lst (pt S (tL S r)) x) h) ∧ t.2.2 = nI h ∧ ∀ x, x < 32 → bt t.2.1 x = dc (∃ h', h' < h ∧ tg S r h' = true ∧ cyc (pt S (tL S r)) h' x = true)) 8 (fun h t hh hI => ?_) (fun t hI => ?_) ⟨rfl, rfl, fun x hx => by rw [b_nI0]; exact (dc_f.mpr (fun ⟨_, q, _⟩ => absurd q (by omega))).symm⟩
    · obtain ⟨c, gone, i⟩ := t
      obtain ⟨h1, h2, h3⟩ := hI
      dsimp only at h1 h2 h3
      subst h1; subst h2
      have hG : ∀ x, x < 32 → 8 ≤ x → (tg S r h && cyc (pt S (tL S r)) h x) = false := fun x _ hx => by
        apply Bool.eq_false_iff.mpr
        intro q
        obtain ⟨q1, q2⟩ := (Bool.and_eq_true _ _).mp q
        have := tL_8 hv (cyc_L hL (tg_L q1).1 q2)
        omega
      have fin : ∀ v, (∀ x, x < 32 → bt v x = (tg S r h && cyc (pt S (tL S r)) h x)) → ∃ s', f_Hands_tradeAll_J95 z_Law d 61 left (nI (tC S r + fb_ct (fun x => tg S r x && lst (pt S (tL S r)) x) h)) (nI rd) gone (nI h) v m = some (.inl s') ∧ s'.1 = nI (tC S r + fb_ct (fun x => tg S r x && lst (pt S (tL S r)) x) (h + 1)) ∧ s'.2.2 = nI (h + 1) ∧ ∀ x, x < 32 → bt s'.2.1 x = dc (∃ h', h' < h + 1 ∧ tg S r h' = true ∧ cyc (pt S (tL S r)) h' x = true) := by
        intro v hv9
        refine ⟨_, hat_J95 hh hv9 hG, ?_, rfl, fun x hx => ?_⟩
        · show nI _ = nI _
          congr 1
          rw [fb_ct_succ (fun x => tg S r x && lst (pt S (tL S r)) x) h, ← Nat.add_assoc]
          congr 1
          cases ht : tg S r h with
          | false =>
            simp only [Bool.false_and]
            rw [if_neg (fun q => ?_), if_neg (by decide)]
            have := q.1
            rw [fb_ct_zero.mpr (fun _ _ => rfl)] at this
            omega
          | true =>
            simp only [Bool.true_and]
            by_cases hq : lst (pt S (tL S r)) h = true
            · rw [if_pos (dc_t.mp hq), if_pos hq]
            · rw [if_neg (fun q => hq (dc_t.mpr q)), if_neg hq]
        · show bt (gone ||| v) x = _
          rw [b_or, h3 x hx, hv9 x hx]
          apply Bool.eq_iff_iff.mpr
          rw [Bool.or_eq_true, dc_t, dc_t, Bool.and_eq_true]
          constructor
          · rintro (⟨h', a, b, c⟩ | ⟨b, c⟩)
            · exact ⟨h', by omega, b, c⟩
            · exact ⟨h, by omega, b, c⟩
          · rintro ⟨h', a, b, c⟩
            by_cases g : h' = h
            · exact Or.inr (g ▸ ⟨b, c⟩)
            · exact Or.inl ⟨h', by omega, b, c⟩
      cases hLh : tL S r h with
      | false =>
        obtain ⟨s', e, r1, r2, r3⟩ := fin (nI 0) (fun x hx => by
          rw [b_nI0]
          show false = ((tL S r h && _) && _)
          rw [hLh, Bool.false_and, Bool.false_and])
        refine ⟨s', ?_, r1, r2, r3⟩
        unfold f_Hands_tradeAll_L68
        simp (disch := omega) only [fl, fmN, mm_lt, Nat.reduceAdd, Option.bind_some, lt_t, lt_f, le_t, le_f, eq_f, eq_self, nI_add, nI_mul, nI_sub, ↓reduceIte, sh_bit, hl h (by omega), hLh]
        exact e
      | true =>
        obtain ⟨v, e1, hv9⟩ := hat_circ hz hv hp hLh
        obtain ⟨s', e, r1, r2, r3⟩ := fin v (fun x hx => by
          rw [hv9 x hx]
          show _ = ((tL S r h && _) && _)
          rw [hLh, Bool.true_and])
        refine ⟨s', ?_, r1, r2, r3⟩
        unfold f_Hands_tradeAll_L68
        simp (disch := omega) only [fl, fmN, mm_lt, Nat.reduceAdd, Option.bind_some, lt_t, lt_f, le_t, le_f, eq_f, eq_self, nI_add, nI_mul, nI_sub, ↓reduceIte, sh_bit, hl h (by omega), hLh, e1]
        exact e
    · obtain ⟨c, gone, i⟩ := t
      obtain ⟨h1, h2, h3⟩ := hI
      dsimp only at h1 h2 h3
      subst h1; subst h2
      refine ⟨(nI (tC S (r + 1)), gone), ?_, rfl, fun x hx => ?_⟩
      · unfold f_Hands_tradeAll_L68
        simp (disch := omega) only [fl, fmN, mm_lt, Nat.reduceAdd, Option.bind_some, lt_t, lt_f, le_t, le_f, eq_f, eq_self, nI_add, nI_mul, nI_sub, ↓reduceIte]
        rfl
      · show bt gone x = _
        rw [h3 x hx]
        apply Bool.eq_iff_iff.mpr
        rw [dc_t]
        constructor
        · rintro ⟨h', a, b, c⟩
          obtain ⟨b1, b2⟩ := tg_L b
          exact (Bool.and_eq_true _ _).mpr ⟨cyc_L hL b1 c, cyc_onc b2 c⟩
        · intro q
          exact ⟨x, tL_8 hv (tg_L q).1, q, cyc_self x⟩
  obtain ⟨⟨a, b⟩, e, h1, h2⟩ := key
  dsimp only at h1 h2
  subst h1
  exact ⟨b, e, h2⟩
theorem hat_take (hd : d = 74 ∨ d = 19) (hz : HZ z_Law d) (hv : Inv S) {gone : Int32} (hc : CH S (tP S r) d m) (hp : ∀ k, tL S r k = true → m.1 (d + 6) k = nI (pt S (tL S r) k)) (hg : ∀ x, x < 32 → bt gone x = tg S r x) : ∃ m', f_Hands_takeWhatTheyPointTo z_Law m d gone = some m' ∧ CH S (tP S (r + 1)) d m' ∧ (∀ q, q ≠ d + 2 → q ≠ d + 8 → m'.1 q = m.1 q) ∧ m'.2 = m.2 := by
  obtain ⟨w, ew⟩ : ∃ w, kF m (d + 8) (fun k => if k < 8 then m.1 (d + 2) k else m.1 (d + 8) k) = w := ⟨_, rfl⟩
  have wq : ∀ q, q ≠ d + 8 → w.1 q = m.1 q := fun q h => by rw [← ew, kF_o _ _ _ h]
  have w8 : ∀ k, k < 8 → w.1 (d + 8) k = S (123 + tP S r k) := fun k hk => by rw [← ew, kF_s, if_pos hk]; exact hc.2 k hk
  have key : ∃ m', mm_lp (f_Hands_takeWhatTheyPointTo_L13 z_Law d gone) (nI 0, w) = some m' ∧ (∀ k, k < 8 → m'.1 (d + 2) k = S (123 + tP S (r + 1) k)) ∧ (∀ q, q ≠ d + 2 → m'.1 q = w.1 q) ∧ m'.2 = w.2 := by
    refine lp_ix (fun i t => t.1 = nI i ∧ (∀ k, k < i → t.2.1 (d + 2) k = S (123 + tP S (r + 1) k)) ∧ (∀ k, i ≤ k → k < 8 → t.2.1 (d + 2) k = S (123 + tP S r k)) ∧ (∀ q, q ≠ d + 2 → t.2.1 q = w.1 q) ∧ t.2.2 = w.2) 8 (fun i t hi hI => ?_) (fun t hI => ?_) ⟨rfl, fun k hk => absurd hk (by omega), fun k _ hk => by rw [wq _ (by omega)]; exact hc.2 k hk, fun _ _ => rfl, rfl⟩
    · obtain ⟨c, q⟩ := t
      obtain ⟨h1, h2, h2b, h3, h4⟩ := hI
      dsimp only at h1 h2 h2b h3 h4
      subst h1
      cases ht : tg S r i with
      | false =>
        refine ⟨(nI (i + 1), q), ?_, rfl, fun k hk => ?_, fun k h1 h2 => h2b k (by omega) h2, h3, h4⟩
        · unfold f_Hands_takeWhatTheyPointTo_L13
          simp (disch := omega) only [fl, fmN, mm_lt, Nat.reduceAdd, Option.bind_some, lt_t, lt_f, le_t, le_f, eq_f, eq_self, nI_add, nI_mul, nI_sub, ↓reduceIte, sh_bit, hg i (by omega), ht]
          rw [if_neg (by decide)]
        · by_cases g : k = i
          · have e2 : tP S (r + 1) i = tP S r i := if_neg (by rw [ht]; decide)
            rw [g, e2]; exact h2b i (Nat.le_refl _) hi
          · exact h2 k (by omega)
      | true =>
        obtain ⟨t1, t2⟩ := tg_L ht
        have e2 : tP S (r + 1) i = pt S (tL S r) i := if_pos ht
        have pL := pt_L (S := S) t1
        have p8 := tL_8 hv pL
        have q6 : q.1 (d + 6) i = nI (pt S (tL S r) i) := by rw [h3 _ (by omega), wq _ (by omega)]; exact hp i t1
        have q8 : q.1 (d + 8) (pt S (tL S r) i) = S (123 + pt S (tL S r) i) := by rw [h3 _ (by omega), w8 _ p8, (tP_ok hv r).1 _ pL]
        refine ⟨(nI (i + 1), kI q (d + 2) i (S (123 + pt S (tL S r) i))), ?_, rfl, fun k hk => ?_, fun k h1 h2 => ?_, fun q' g => ?_, h4⟩
        · unfold f_Hands_takeWhatTheyPointTo_L13
          simp (disch := omega) only [fl, fmN, mm_lt, Nat.reduceAdd, Option.bind_some, lt_t, lt_f, le_t, le_f, eq_f, eq_self, nI_add, nI_mul, nI_sub, ↓reduceIte, sh_bit, hg i (by omega), ht, row_atE (p := d + 6) rfl hz.2.2.1, row_atE (p := d + 8) rfl hz.2.2.2, row_putE (p := d + 2) rfl hz.1, q6, q8]
        · show (kI q (d + 2) i _).1 (d + 2) k = _
          rw [kI_at]
          by_cases g : k = i
          · rw [if_pos g, g, e2]
          · rw [if_neg g]; exact h2 k (by omega)
        · show (kI q (d + 2) i _).1 (d + 2) k = _
          rw [kI_at, if_neg (by omega)]; exact h2b k (by omega) h2
        · show (kI q (d + 2) i _).1 q' = _
          rw [kI_o _ _ _ _ g]; exact h3 q' g
    · obtain ⟨c, q⟩ := t
      obtain ⟨h1, h2, h2b, h3, h4⟩ := hI
      dsimp only at h1 h2 h2b h3 h4
      subst h1
      refine ⟨q, ?_, h2, h3, h4⟩
      unfold f_Hands_takeWhatTheyPointTo_L13
      simp (disch := omega) only [fl, fmN, mm_lt, Nat.reduceAdd, Option.bind_some, lt_t, lt_f, le_t, le_f, eq_f, eq_self, nI_add, nI_mul, nI_sub, ↓reduceIte]
  obtain ⟨m', e, r1, r2, r3⟩ := key
  refine ⟨m', ?_, ⟨IR_c hc.1 (fun j hj => by rw [r2 _ (by omega), wq _ (by omega)]), r1⟩, fun q q1 q2 => by rw [r2 q q1, wq q q2], by rw [r3, ← ew]; rfl⟩
  unfold f_Hands_takeWhatTheyPointTo
  rw [row_copy (o := d + 7) (o1 := d + 1) (n := 8) hz.2.2.2 hz.1 (by decide) (by omega)]
  simp only [fl, Option.bind_some]
  rw [ew, e]; rfl
theorem hat_trade (hd : d = 74 ∨ d = 19) (hz : HZ z_Law d) (hI : IR m 61 S) (hH : HR m d S) (hv : Inv S) : ∃ m', f_Hands_tradeAll z_Law m d 61 = some (nI (tC S (tR S)), m') ∧ HR m' d (trS S) ∧ (∀ q, q ≠ d + 2 → q ≠ d + 6 → q ≠ d + 8 → m'.1 q = m.1 q) ∧ m'.2 = m.2 := by
  have m8 := iv_m8 hv
  obtain ⟨left, el, hl⟩ := hat_left hz hI hH hv
  have hR8 := tR_8 (S := S)
  have key : ∃ q, mm_lp (f_Hands_tradeAll_L45 z_Law d 61) (left, nI 0, nI 0, m) = some q ∧ q.1 = nI (tC S (tR S)) ∧ CH S (tP S (tR S)) d q.2 ∧ (∀ q', q' ≠ d + 2 → q' ≠ d + 6 → q' ≠ d + 8 → q.2.1 q' = m.1 q') ∧ q.2.2 = m.2 := by
    refine lp_ix (fun r t => (∀ x, x < 32 → bt t.1 x = tL S r x) ∧ t.2.1 = nI (tC S r) ∧ t.2.2.1 = nI r ∧ CH S (tP S r) d t.2.2.2 ∧ (∀ q', q' ≠ d + 2 → q' ≠ d + 6 → q' ≠ d + 8 → t.2.2.2.1 q' = m.1 q') ∧ t.2.2.2.2 = m.2) (tR S) (fun r t hr hI => ?_) (fun t hI => ?_) ⟨hl, rfl, rfl, ⟨hI, fun k hk => hH.1 k hk⟩, fun _ _ _ _ => rfl, rfl⟩
    · obtain ⟨l, c, rd, q⟩ := t
      obtain ⟨h1, h2, h3, h4, h5, h6⟩ := hI
      dsimp only at h1 h2 h3 h4 h5 h6
      subst h2; subst h3
      obtain ⟨x, hx⟩ := tR_no hr
      have hx8 := tL_8 hv hx
      have hne : ¬ l = nI 0 := fun e => by
        have := (b_zero.mp e) x (by omega)
        rw [h1 x (by omega), hx] at this; cases this
      obtain ⟨m1, a1, a2, a3, a4⟩ := hat_point hd hz hv h4 h1
      obtain ⟨gone, b1, b2⟩ := hat_68 (rd := r) hz hv a2 h1
      have c1 : CH S (tP S r) d m1 := ⟨IR_c h4.1 (fun j hj => a3 _ (by omega)), fun k hk => by rw [a3 _ (by omega)]; exact h4.2 k hk⟩
      obtain ⟨m2, d1, d2, d3, d4⟩ := hat_take hd hz hv c1 a2 b2
      refine ⟨(l &&& (gone ^^^ mN), nI (tC S (r + 1)), nI (r + 1), m2), ?_, fun y hy => ?_, rfl, rfl, d2, fun q' q1 q2 q3 => by rw [d3 q' q1 q3, a3 q' q2, h5 q' q1 q2 q3], d4.trans (a4.trans h6)⟩
      · unfold f_Hands_tradeAll_L45
        simp (disch := omega) only [fl, fmN, mm_lt, Nat.reduceAdd, Option.bind_some, lt_t, lt_f, le_t, le_f, eq_f, eq_self, nI_add, nI_mul, nI_sub, ↓reduceIte, if_neg hne, a1, b1, d1]
      · show bt (l &&& (gone ^^^ mN)) y = _
        rw [b_and, b_not hy, h1 y hy, b2 y hy]
        show (tL S r y && !(tL S r y && onc (pt S (tL S r)) y)) = (tL S r y && !onc (pt S (tL S r)) y)
        cases tL S r y <;> cases onc (pt S (tL S r)) y <;> rfl
    · obtain ⟨l, c, rd, q⟩ := t
      obtain ⟨h1, h2, h3, h4, h5, h6⟩ := hI
      dsimp only at h1 h2 h3 h4 h5 h6
      subst h2; subst h3
      have hz9 : l = nI 0 := b_zero.mpr (fun i hi => by rw [h1 i hi]; exact tR_end hv i)
      refine ⟨(nI (tC S (tR S)), q), ?_, rfl, h4, h5, h6⟩
      unfold f_Hands_tradeAll_L45
      by_cases g : 8 ≤ tR S
      · simp (disch := omega) only [fl, fmN, mm_lt, Nat.reduceAdd, Option.bind_some, lt_t, lt_f, le_t, le_f, eq_f, eq_self, nI_add, nI_mul, nI_sub, ↓reduceIte]
      · simp (disch := omega) only [fl, fmN, mm_lt, Nat.reduceAdd, Option.bind_some, lt_t, lt_f, le_t, le_f, eq_f, eq_self, nI_add, nI_mul, nI_sub, ↓reduceIte, hz9]
  obtain ⟨⟨c, m'⟩, e, h1, h2, h3, h4⟩ := key
  dsimp only at h1 h2 h3 h4
  subst h1
  refine ⟨m', ?_, ⟨fun k hk => ?_, fun k hk => ?_⟩, h3, h4⟩
  · unfold f_Hands_tradeAll
    simp only [fl, el, Option.bind_some, e]
  · rw [trS_at hv hk]; exact h2.2 k hk
  · rw [h3 _ (by omega) (by omega) (by omega), trS_o (by omega) m8]; exact hH.2 k hk
end TRADE3
