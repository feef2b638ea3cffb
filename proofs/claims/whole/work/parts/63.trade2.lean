section TRADE2
variable {σ m u : Mm} {S : Nat → Int32} {d : Nat}
theorem or_0 (v : Int32) : v ||| nI 0 = v := by
  apply b_ext; intro i hi; rw [b_or, b_nI0, Bool.or_false]
/-- the class's hands behind r rounds -/
def CH (S : Nat → Int32) (P : Nat → Nat) (d : Nat) (m : Mm) : Prop := IR m 61 S ∧ ∀ k, k < 8 → m.1 (d + 2) k = S (123 + P k)
theorem hat_left (hz : HZ z_Law d) (hI : IR m 61 S) (hH : HR m d S) (hv : Inv S) : ∃ left, mm_lp (f_Hands_tradeAll_L4 z_Law m d 61) (nI 0, nI 0) = some left ∧ ∀ x, x < 32 → bt left x = tL S 0 x := by
  have m8 := iv_m8 hv
  have hm : m.1 64 1 = nI (sm S) := hI.2.1.trans (iv_m hv)
  refine ⟨_, lp_fo0 (fun o v => if dc (cn S o) = true then v ||| nI 1 <<< (nI o &&& nI 31) else v) (sm S) (fun i x hi => ?_) (fun x => ?_), fun x hx => bt_fo_or (by omega) x hx⟩
  · obtain ⟨r, e, hr⟩ := hd_can hz IZ_61 hH hI (by omega : i < 8) (iv_held hv i (by omega)) (iv_n10 hv)
    unfold f_Hands_tradeAll_L4
    simp (disch := omega) only [fl, fmN, mm_lt, Nat.reduceAdd, Option.bind_some, lt_t, lt_f, le_t, le_f, eq_f, eq_self, nI_add, nI_mul, nI_sub, ↓reduceIte, hm, e]
    rcases hr with ⟨hc, rfl⟩ | ⟨hc, rfl⟩
    · rw [if_neg (by decide), if_pos (dc_t.mpr hc)]
    · rw [if_pos rfl, if_neg (fun q => hc (dc_t.mp q)), or_0]
  · unfold f_Hands_tradeAll_L4
    simp (disch := omega) only [fl, fmN, mm_lt, Nat.reduceAdd, Option.bind_some, lt_t, lt_f, le_t, le_f, eq_f, eq_self, nI_add, nI_mul, nI_sub, ↓reduceIte, hm]
section RD
variable {r : Nat} {left : Int32}
theorem hat_point (hd : d = 74 ∨ d = 19) (hz : HZ z_Law d) (hv : Inv S) (hc : CH S (tP S r) d m) (hl : ∀ x, x < 32 → bt left x = tL S r x) : ∃ m', f_Hands_pointAll z_Law m d 61 left = some m' ∧ (∀ k, tL S r k = true → m'.1 (d + 6) k = nI (pt S (tL S r) k)) ∧ (∀ q, q ≠ d + 6 → m'.1 q = m.1 q) ∧ m'.2 = m.2 := by
  have n10 := iv_n10 hv
  have key : ∃ m', mm_lp (f_Hands_pointAll_L2 z_Law d 61 left) (nI 0, m) = some m' ∧ (∀ k, k < 8 → tL S r k = true → m'.1 (d + 6) k = nI (pt S (tL S r) k)) ∧ (∀ q, q ≠ d + 6 → m'.1 q = m.1 q) ∧ m'.2 = m.2 := by
    refine lp_ix (fun i t => t.1 = nI i ∧ (∀ k, k < i → tL S r k = true → t.2.1 (d + 6) k = nI (pt S (tL S r) k)) ∧ (∀ q, q ≠ d + 6 → t.2.1 q = m.1 q) ∧ t.2.2 = m.2) 8 (fun i t hi hI => ?_) (fun t hI => ?_) ⟨rfl, fun k hk => absurd hk (by omega), fun _ _ => rfl, rfl⟩
    · obtain ⟨c, q⟩ := t
      obtain ⟨h1, h2, h3, h4⟩ := hI
      dsimp only at h1 h2 h3 h4
      subst h1
      cases hL : tL S r i with
      | false =>
        refine ⟨(nI (i + 1), q), ?_, rfl, fun k hk hk2 => ?_, h3, h4⟩
        · unfold f_Hands_pointAll_L2
          simp (disch := omega) only [fl, fmN, mm_lt, Nat.reduceAdd, Option.bind_some, lt_t, lt_f, le_t, le_f, eq_f, eq_self, nI_add, nI_mul, nI_sub, ↓reduceIte, sh_bit0, hl i (by omega), hL]
        · by_cases g : k = i
          · rw [g, hL] at hk2; cases hk2
          · exact h2 k (by omega) hk2
      | true =>
        have qI : IR q 61 S := IR_c hc.1 (fun j hj => h3 _ (by omega))
        have qH : ∀ k, tL S r k = true → f_Row_at z_Law q (d + 1) (nI k) = some (nI (nmb S k)) := fun k hk => by
          rw [row_atE (p := d + 2) (n := 8) rfl hz.1 (tL_8 hv hk) (by decide), h3 _ (by omega), hc.2 k (tL_8 hv hk), (tP_ok hv r).1 k hk, (tL_num hv hk).1]
        have qV : ∀ k, tL S r k = true → f_Island_valueFor z_Law q 61 (nI i) (nI (nmb S k)) = some (vw S i (nmb S k)) := fun k hk => is_value IZ_61 qI hi (by have := (tL_num hv hk).2; omega)
        have L40 : mm_lp (f_Hands_pointAll_L40 z_Law q d 61 left (nI i)) (nI i, vw S i (nmb S i), nI 0) = some (nI (pt S (tL S r) i)) := by
          refine lp_go (fun o => (nI (ptn S (tL S r) i o), vw S i (nmb S (ptn S (tL S r) i o)), nI o)) 8 rfl (fun o ho => ?_) ?_
          · unfold f_Hands_pointAll_L40
            simp (disch := omega) only [fl, fmN, mm_lt, Nat.reduceAdd, Option.bind_some, lt_t, lt_f, le_t, le_f, eq_f, eq_self, nI_add, nI_mul, nI_sub, ↓reduceIte, sh_bit, hl o (by omega)]
            show _ = some (Sum.inl (nI (if tL S r o = true ∧ vw S i (nmb S (ptn S (tL S r) i o)) < vw S i (nmb S o) then o else ptn S (tL S r) i o), vw S i (nmb S (if tL S r o = true ∧ vw S i (nmb S (ptn S (tL S r) i o)) < vw S i (nmb S o) then o else ptn S (tL S r) i o)), _))
            cases ho2 : tL S r o with
            | false => rw [if_neg (by decide), if_neg (fun q => by cases q.1)]
            | true =>
              simp only [qH o ho2, qV o ho2, Option.bind_some, if_true]
              by_cases h9 : vw S i (nmb S (ptn S (tL S r) i o)) < vw S i (nmb S o)
              · rw [if_neg (fa_of_lt h9).2.1, if_pos ⟨trivial, h9⟩]
              · rw [if_pos (fa_of_nlt h9), if_neg (fun q => h9 q.2)]
          · unfold f_Hands_pointAll_L40
            simp (disch := omega) only [fl, fmN, mm_lt, Nat.reduceAdd, Option.bind_some, lt_t, lt_f, le_t, le_f, eq_f, eq_self, nI_add, nI_mul, nI_sub, ↓reduceIte]
            rfl
        refine ⟨(nI (i + 1), kI q (d + 6) i (nI (pt S (tL S r) i))), ?_, rfl, fun k hk hk2 => ?_, fun q' g => ?_, h4⟩
        · unfold f_Hands_pointAll_L2
          simp (disch := omega) only [fl, fmN, mm_lt, Nat.reduceAdd, Option.bind_some, lt_t, lt_f, le_t, le_f, eq_f, eq_self, nI_add, nI_mul, nI_sub, ↓reduceIte, sh_bit0, hl i (by omega), hL, Bool.true_eq_false, qH i hL, qV i hL, L40, row_putE (p := d + 6) rfl hz.2.2.1]
        · show (kI q (d + 6) i _).1 (d + 6) k = _
          rw [kI_at]
          by_cases g : k = i
          · rw [if_pos g, g]
          · rw [if_neg g]; exact h2 k (by omega) hk2
        · show (kI q (d + 6) i _).1 q' = _
          rw [kI_o _ _ _ _ g]; exact h3 q' g
    · obtain ⟨c, q⟩ := t
      obtain ⟨h1, h2, h3, h4⟩ := hI
      dsimp only at h1 h2 h3 h4
      subst h1
      refine ⟨q, ?_, h2, h3, h4⟩
      unfold f_Hands_pointAll_L2
      simp (disch := omega) only [fl, fmN, mm_lt, Nat.reduceAdd, Option.bind_some, lt_t, lt_f, le_t, le_f, eq_f, eq_self, nI_add, nI_mul, nI_sub, ↓reduceIte]
  obtain ⟨m', e, r1, r2, r3⟩ := key
  refine ⟨m', ?_, fun k hk => r1 k (tL_8 hv hk) hk, r2, r3⟩
  unfold f_Hands_pointAll
  simp only [fl, e, Option.bind_some]
/-- the HOUSES met on the way from k -/
def wayb (f : Nat → Nat) (k n : Nat) : Int32 := fo (fun i b => b ||| nI 1 <<< (nI (itr f i k) &&& nI 31)) n (nI 0)
theorem wayb_bt {f : Nat → Nat} {k : Nat} (h : ∀ i, itr f i k < 8) : ∀ n x, x < 32 → bt (wayb f k n) x = dc (∃ i, i < n ∧ itr f i k = x)
  | 0, x, _ => by
    show bt (nI 0) x = _
    rw [b_nI0]
    exact (dc_f.mpr (fun ⟨i, hi, _⟩ => absurd hi (by omega))).symm
  | n + 1, x, hx => by
    show bt (wayb f k n ||| nI 1 <<< (nI (itr f n k) &&& nI 31)) x = _
    rw [b_set (by have := h n; omega) hx, wayb_bt h n x hx]
    apply Bool.eq_iff_iff.mpr
    rw [Bool.or_eq_true, dc_t, dc_t, decide_eq_true_iff]
    constructor
    · rintro (⟨i, hi, e⟩ | e)
      · exact ⟨i, by omega, e⟩
      · exact ⟨n, by omega, e.symm⟩
    · rintro ⟨i, hi, e⟩
      by_cases g : i = n
      · exact Or.inr (by rw [← e, g])
      · exact Or.inl ⟨i, by omega, e⟩
theorem way_cyc {f : Nat → Nat} {k P : Nat} (h : ∀ i, itr f i k < 8) (h1 : 1 ≤ P) (h8 : P ≤ 8) (e : itr f P k = k) {x : Nat} (hx : x < 32) : bt (wayb f k P) x = cyc f k x := by
  rw [wayb_bt h P x hx]
  apply Bool.eq_iff_iff.mpr
  unfold cyc
  rw [dc_t, dc_t]
  constructor
  · rintro ⟨i, hi, e2⟩; exact ⟨i, by omega, e2⟩
  · rintro ⟨i, hi, e2⟩
    exact ⟨i % P, Nat.mod_lt i h1, by rw [← itr_mod e, e2]⟩
theorem hat_circ (hz : HZ z_Law d) (hv : Inv S) (hp : ∀ k, tL S r k = true → m.1 (d + 6) k = nI (pt S (tL S r) k)) {k : Nat} (hk : tL S r k = true) : ∃ v, f_Hands_circleOf z_Law m d (nI k) = some v ∧ ∀ x, x < 32 → bt v x = (onc (pt S (tL S r)) k && cyc (pt S (tL S r)) k x) := by
  have hL : ∀ k, tL S r k = true → tL S r (pt S (tL S r) k) = true := fun k hk => pt_L hk
  have h8 : ∀ i, itr (pt S (tL S r)) i k < 8 := fun i => tL_8 hv (itr_L hL hk i)
  have step : ∀ s, s < 8 → itr (pt S (tL S r)) (s + 1) k ≠ k → f_Hands_circleOf_L7 z_Law m d (nI k) (wayb (pt S (tL S r)) k s, nI (itr (pt S (tL S r)) s k), nI s) = some (.inl (wayb (pt S (tL S r)) k (s + 1), nI (itr (pt S (tL S r)) (s + 1) k), nI (s + 1))) := by
    intro s hs hne
    have a1 := h8 s
    have a2 := h8 (s + 1)
    have a3 := tL_8 hv hk
    have e1 : m.1 (d + 6) (itr (pt S (tL S r)) s k) = nI (itr (pt S (tL S r)) (s + 1) k) := hp _ (itr_L hL hk s)
    unfold f_Hands_circleOf_L7
    simp (disch := omega) only [fl, fmN, mm_lt, Nat.reduceAdd, Option.bind_some, lt_t, lt_f, le_t, le_f, eq_f, eq_self, nI_add, nI_mul, nI_sub, ↓reduceIte, row_atE (p := d + 6) rfl hz.2.2.1, e1]
    rfl
  by_cases ho : onc (pt S (tL S r)) k = true
  · obtain ⟨j, j8, j1, jn⟩ := fb_first (p := fun j => itr (pt S (tL S r)) (j + 1) k = k) (dc_t.mp ho)
    refine ⟨wayb (pt S (tL S r)) k (j + 1), ?_, fun x hx => ?_⟩
    · have a1 := h8 j
      have a3 := tL_8 hv hk
      have e1 : m.1 (d + 6) (itr (pt S (tL S r)) j k) = nI k := (hp _ (itr_L hL hk j)).trans (congrArg nI j1)
      have run : mm_lp (f_Hands_circleOf_L7 z_Law m d (nI k)) (nI 0, nI k, nI 0) = some (.inl (wayb (pt S (tL S r)) k (j + 1))) := by
        refine lp_go (fun s => (wayb (pt S (tL S r)) k s, nI (itr (pt S (tL S r)) s k), nI s)) j rfl (fun s hs => step s (by omega) (jn s hs)) ?_
        unfold f_Hands_circleOf_L7
        simp (disch := omega) only [fl, fmN, mm_lt, Nat.reduceAdd, Option.bind_some, lt_t, lt_f, le_t, le_f, eq_f, eq_self, nI_add, nI_mul, nI_sub, ↓reduceIte, row_atE (p := d + 6) rfl hz.2.2.1, e1]
        rfl
      unfold f_Hands_circleOf
      simp only [fl, run, Option.bind_some]
      rfl
    · rw [way_cyc h8 (by omega) (by omega) j1 hx, ho, Bool.true_and]
  · refine ⟨nI 0, ?_, fun x hx => by rw [b_nI0, Bool.eq_false_iff.mpr ho, Bool.false_and]⟩
    have run : mm_lp (f_Hands_circleOf_L7 z_Law m d (nI k)) (nI 0, nI k, nI 0) = some (.inr ()) := by
      refine lp_go (fun s => (wayb (pt S (tL S r)) k s, nI (itr (pt S (tL S r)) s k), nI s)) 8 rfl (fun s hs => step s hs (fun q => ho (dc_t.mpr ⟨s, hs, q⟩))) ?_
      unfold f_Hands_circleOf_L7
      simp (disch := omega) only [fl, fmN, mm_lt, Nat.reduceAdd, Option.bind_some, lt_t, lt_f, le_t, le_f, eq_f, eq_self, nI_add, nI_mul, nI_sub, ↓reduceIte]
    unfold f_Hands_circleOf
    simp only [fl, run, Option.bind_some]
    rfl
end RD
end TRADE2
