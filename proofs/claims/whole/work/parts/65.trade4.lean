section TRADE4
variable {σ m u : Mm} {S : Nat → Int32} {r : Nat} {left : Int32}
theorem ptn_cut {L : Nat → Bool} {k c : Nat} (h : ∀ o, c ≤ o → L o = false) : ∀ n, c ≤ n → ptn S L k n = ptn S L k c
  | 0, hn => by rw [show c = 0 by omega]
  | n + 1, hn => by
    by_cases g : c = n + 1
    · rw [g]
    · show (if L n = true ∧ _ then n else ptn S L k n) = _
      rw [if_neg (fun q => by rw [h n (by omega)] at q; cases q.1), ptn_cut h n (by omega)]
theorem md_left (hs : u.1 171 = S) (hv : Inv S) : ∃ q, mm_lp (f_Mod_trades_L4 z_Law 169) (nI 0, nI 0, u) = some q ∧ (∀ x, x < 32 → bt q.1 x = tL S 0 x) ∧ (∀ k, k < sm S → q.2.1 179 k = S (123 + k)) ∧ (∀ q', q' ≠ 179 → q.2.1 q' = u.1 q') ∧ q.2.2 = u.2 := by
  have m8 := iv_m8 hv
  refine lp_ix (fun k t => (∀ x, x < 32 → bt t.1 x = (decide (x < k) && dc (cn S x))) ∧ t.2.1 = nI k ∧ (∀ j, j < k → t.2.2.1 179 j = S (123 + j)) ∧ (∀ q', q' ≠ 179 → t.2.2.1 q' = u.1 q') ∧ t.2.2.2 = u.2) (sm S) (fun k t hk hI => ?_) (fun t hI => ?_) ⟨fun x hx => by rw [b_nI0, decide_eq_false (by omega : ¬ x < 0), Bool.false_and], rfl, fun j hj => absurd hj (by omega), fun _ _ => rfl, rfl⟩
  · obtain ⟨l, i, q⟩ := t
    obtain ⟨h1, h2, h3, h4, h5⟩ := hI
    dsimp only at h1 h2 h3 h4 h5
    subst h2
    have e171 : q.1 171 = S := by rw [h4 171 (by decide), hs]
    have e171' : (kI q 179 k (S (123 + k))).1 171 = S := e171
    have hst : f_Mod_trades_L4 z_Law 169 (l, nI k, q) = some (.inl (if dc (cn S k) = true then l ||| nI 1 <<< (nI k &&& nI 31) else l, nI (k + 1), kI q 179 k (S (123 + k)))) := by
      unfold f_Mod_trades_L4
      simp (disch := omega) only [fl, fmN, mm_lt, Nat.reduceAdd, Option.bind_some, lt_t, lt_f, le_t, le_f, eq_f, eq_self, nI_add, nI_mul, nI_sub, ↓reduceIte, zq_171, zq_179, ld_nI, st_nI, e171, e171', iv_m hv, hq_lt (iv_held hv k (by omega)) (by have := iv_n10 hv; omega : sn S < 2 ^ 31), md_pawn hv e171', fl_ite, or_0]
      by_cases g1 : S (123 + k) = mN
      · rw [if_pos g1, if_neg (fun q => (dc_t.mp q).1 g1)]
      · rw [if_neg g1]
        by_cases g2 : S (15 + (S (123 + k)).toNatClampNeg) = nI 2
        · rw [if_pos ⟨g1, g2⟩, if_neg (fun q => (dc_t.mp q).2 g2)]
        · rw [if_neg (fun q => g2 q.2), if_pos (dc_t.mpr ⟨g1, g2⟩)]
    refine ⟨_, hst, fun x hx => ?_, rfl, fun j hj => ?_, fun q' g => ?_, h5⟩
    · show bt (if dc (cn S k) = true then l ||| nI 1 <<< (nI k &&& nI 31) else l) x = _
      cases hc : dc (cn S k) with
      | true =>
        rw [if_pos rfl, b_set (by omega) hx, h1 x hx]
        by_cases g : x = k
        · rw [g, hc, decide_eq_true (by omega : k < k + 1), decide_eq_true rfl, Bool.or_true]; rfl
        · rw [decide_eq_false g, Bool.or_false]
          congr 1
          exact decide_eq_decide.mpr (by omega)
      | false =>
        rw [if_neg (by decide), h1 x hx]
        by_cases g : x = k
        · rw [g, hc, Bool.and_false, Bool.and_false]
        · congr 1
          exact decide_eq_decide.mpr (by omega)
    · show (kI q 179 k _).1 179 j = _
      rw [kI_at]
      by_cases g : j = k
      · rw [if_pos g, g]
      · rw [if_neg g]; exact h3 j (by omega)
    · show (kI q 179 k _).1 q' = _
      rw [kI_o _ _ _ _ g]; exact h4 q' g
  · obtain ⟨l, i, q⟩ := t
    obtain ⟨h1, h2, h3, h4, h5⟩ := hI
    dsimp only at h1 h2 h3 h4 h5
    subst h2
    have e171 : q.1 171 = S := by rw [h4 171 (by decide), hs]
    refine ⟨(l, q), ?_, h1, h3, h4, h5⟩
    unfold f_Mod_trades_L4
    simp (disch := omega) only [fl, fmN, mm_lt, Nat.reduceAdd, Option.bind_some, lt_t, lt_f, le_t, le_f, eq_f, eq_self, nI_add, nI_mul, nI_sub, ↓reduceIte, zq_171, ld_nI, e171, iv_m hv]
theorem md_points (hs : u.1 171 = S) (hv : Inv S) (hl : ∀ x, x < 32 → bt left x = tL S r x) {v2 : Int32} : ∃ m', mm_lp (f_Mod_trades_L73 z_Law 169 left v2) (nI 0, u) = some m' ∧ (∀ k, tL S r k = true → m'.1 178 k = nI (pt S (tL S r) k)) ∧ (∀ q, q ≠ 178 → m'.1 q = u.1 q) ∧ m'.2 = u.2 := by
  have m8 := iv_m8 hv
  have n10 := iv_n10 hv
  have key : ∃ m', mm_lp (f_Mod_trades_L73 z_Law 169 left v2) (nI 0, u) = some m' ∧ (∀ k, k < sm S → tL S r k = true → m'.1 178 k = nI (pt S (tL S r) k)) ∧ (∀ q, q ≠ 178 → m'.1 q = u.1 q) ∧ m'.2 = u.2 := by
    refine lp_ix (fun i t => t.1 = nI i ∧ (∀ k, k < i → tL S r k = true → t.2.1 178 k = nI (pt S (tL S r) k)) ∧ (∀ q, q ≠ 178 → t.2.1 q = u.1 q) ∧ t.2.2 = u.2) (sm S) (fun i t hi hI => ?_) (fun t hI => ?_) ⟨rfl, fun k hk => absurd hk (by omega), fun _ _ => rfl, rfl⟩
    · obtain ⟨c, q⟩ := t
      obtain ⟨h1, h2, h3, h4⟩ := hI
      dsimp only at h1 h2 h3 h4
      subst h1
      have e171 : q.1 171 = S := by rw [h3 171 (by decide), hs]
      have fin : ∀ v, (tL S r i = true → v = nI (pt S (tL S r) i)) → f_Mod_trades_L73 z_Law 169 left v2 (nI i, q) = some (.inl (nI (i + 1), kI q 178 i v)) → ∃ s', f_Mod_trades_L73 z_Law 169 left v2 (nI i, q) = some (.inl s') ∧ s'.1 = nI (i + 1) ∧ (∀ k, k < i + 1 → tL S r k = true → s'.2.1 178 k = nI (pt S (tL S r) k)) ∧ (∀ q, q ≠ 178 → s'.2.1 q = u.1 q) ∧ s'.2.2 = u.2 := by
        intro v hv9 e
        refine ⟨_, e, rfl, fun k hk hk2 => ?_, fun q' g => ?_, h4⟩
        · show (kI q 178 i v).1 178 k = _
          rw [kI_at]
          by_cases g : k = i
          · rw [if_pos g, g]; exact hv9 (g ▸ hk2)
          · rw [if_neg g]; exact h2 k (by omega) hk2
        · show (kI q 178 i v).1 q' = _
          rw [kI_o _ _ _ _ g]; exact h3 q' g
      cases hL : tL S r i with
      | false =>
        refine fin mN (fun q => by rw [hL] at q; cases q) ?_
        unfold f_Mod_trades_L73
        simp (disch := omega) only [fl, fmN, mm_lt, Nat.reduceAdd, Option.bind_some, lt_t, lt_f, le_t, le_f, eq_f, eq_self, nI_add, nI_mul, nI_sub, ↓reduceIte, zq_171, zq_178, ld_nI, st_nI, e171, iv_m hv, md_has, bI_0, hl i (by omega), hL]
      | true =>
        have hpo : f_Mod_pointOf z_Law q 169 (nI i) left = some (nI (pt S (tL S r) i)) := by
          have hcut : pt S (tL S r) i = ptn S (tL S r) i (sm S) := ptn_cut (fun o ho => Bool.eq_false_iff.mpr (fun q => by have := (tL_cn q).1; omega)) 8 m8
          have run : mm_lp (f_Mod_pointOf_L5 z_Law q 169 (nI i) left) (nI i, nI 0) = some (nI (ptn S (tL S r) i (sm S))) := by
            refine lp_go (fun o => (nI (ptn S (tL S r) i o), nI o)) (sm S) rfl (fun o ho => ?_) ?_
            · have hb := ptn_L (S := S) hL o
              obtain ⟨b1, b2⟩ := tL_num hv hb
              have b8 := tL_8 hv hb
              unfold f_Mod_pointOf_L5
              simp (disch := omega) only [fl, fmN, mm_lt, Nat.reduceAdd, Option.bind_some, lt_t, lt_f, le_t, le_f, eq_f, eq_self, nI_add, nI_mul, nI_sub, ↓reduceIte, zq_171, ld_nI, e171, iv_m hv, md_has, bI_0, hl o (by omega)]
              show _ = some (Sum.inl (nI (if tL S r o = true ∧ vw S i (nmb S (ptn S (tL S r) i o)) < vw S i (nmb S o) then o else ptn S (tL S r) i o), _))
              cases ho2 : tL S r o with
              | false => rw [if_pos rfl, if_neg (fun q => by cases q.1)]
              | true =>
                obtain ⟨o1, o2⟩ := tL_num hv ho2
                rw [if_neg (by decide), o1, b1]
                simp (disch := omega) only [md_valueOf e171, Option.bind_some]
                by_cases h9 : vw S i (nmb S (ptn S (tL S r) i o)) < vw S i (nmb S o)
                · rw [if_neg (fa_of_lt h9).2.1, if_pos ⟨trivial, h9⟩]
                · rw [if_pos (fa_of_nlt h9), if_neg (fun q => h9 q.2)]
            · unfold f_Mod_pointOf_L5
              simp (disch := omega) only [fl, fmN, mm_lt, Nat.reduceAdd, Option.bind_some, lt_t, lt_f, le_t, le_f, eq_f, eq_self, nI_add, nI_mul, nI_sub, ↓reduceIte, zq_171, ld_nI, e171, iv_m hv]
          unfold f_Mod_pointOf
          simp only [fl, run, Option.bind_some, hcut]
        refine fin _ (fun _ => rfl) ?_
        unfold f_Mod_trades_L73
        simp (disch := omega) only [fl, fmN, mm_lt, Nat.reduceAdd, Option.bind_some, lt_t, lt_f, le_t, le_f, eq_f, eq_self, nI_add, nI_mul, nI_sub, ↓reduceIte, zq_171, zq_178, ld_nI, st_nI, e171, iv_m hv, md_has, bI_0, hl i (by omega), hL, Bool.true_eq_false, hpo]
    · obtain ⟨c, q⟩ := t
      obtain ⟨h1, h2, h3, h4⟩ := hI
      dsimp only at h1 h2 h3 h4
      subst h1
      have e171 : q.1 171 = S := by rw [h3 171 (by decide), hs]
      refine ⟨q, ?_, h2, h3, h4⟩
      unfold f_Mod_trades_L73
      simp (disch := omega) only [fl, fmN, mm_lt, Nat.reduceAdd, Option.bind_some, lt_t, lt_f, le_t, le_f, eq_f, eq_self, nI_add, nI_mul, nI_sub, ↓reduceIte, zq_171, ld_nI, e171, iv_m hv]
  obtain ⟨m', e, r1, r2, r3⟩ := key
  exact ⟨m', e, fun k hk => r1 k (tL_cn hk).1 hk, r2, r3⟩
theorem md_round (hv : Inv S) (hp : ∀ k, tL S r k = true → u.1 178 k = nI (pt S (tL S r) k)) {o : Nat} (ho : tL S r o = true) (hc : onc (pt S (tL S r)) o = true) {a b c d e : Int32} : ∃ v, mm_lp (f_Mod_trades_L186 z_Law u 169 a b c d e) (nI 0, nI o) = some v ∧ ∀ x, x < 32 → bt v x = cyc (pt S (tL S r)) o x := by
  have hL : ∀ k, tL S r k = true → tL S r (pt S (tL S r) k) = true := fun k hk => pt_L hk
  have h8 : ∀ i, itr (pt S (tL S r)) i o < 8 := fun i => tL_8 hv (itr_L hL ho i)
  obtain ⟨j, j8, j1, jn⟩ := fb_first (p := fun j => itr (pt S (tL S r)) (j + 1) o = o) (dc_t.mp hc)
  have jn' : ∀ P, 1 ≤ P → P < j + 1 → itr (pt S (tL S r)) P o ≠ o := fun P p1 p2 q => jn (P - 1) (by omega) (by show itr _ (P - 1 + 1) o = o; rw [show P - 1 + 1 = P by omega]; exact q)
  have j1' : itr (pt S (tL S r)) (j + 1) o = o := j1
  refine ⟨wayb (pt S (tL S r)) o (j + 1), ?_, fun x hx => way_cyc h8 (by omega) (by omega) j1' hx⟩
  refine lp_go (fun s => (wayb (pt S (tL S r)) o s, nI (itr (pt S (tL S r)) s o))) (j + 1) rfl (fun s hs => ?_) ?_
  · have a1 := h8 s
    have e1 : u.1 178 (itr (pt S (tL S r)) s o) = nI (itr (pt S (tL S r)) (s + 1) o) := hp _ (itr_L hL ho s)
    have hn : bt (wayb (pt S (tL S r)) o s) (itr (pt S (tL S r)) s o) = false := by
      rw [wayb_bt h8 s _ (by omega), dc_f]
      rintro ⟨i, hi, q⟩
      refine jn' (i + (j + 1 - s)) (by omega) (by omega) ?_
      rw [itr_add, q, ← itr_add, show s + (j + 1 - s) = j + 1 by omega]
      exact j1'
    unfold f_Mod_trades_L186
    simp (disch := omega) only [fl, fmN, mm_lt, Nat.reduceAdd, Option.bind_some, lt_t, lt_f, le_t, le_f, eq_f, eq_self, nI_add, nI_mul, nI_sub, ↓reduceIte, zq_178, ld_nI, md_has, bI_0, hn, e1]
    rfl
  · have a1 := h8 (j + 1)
    have hn : bt (wayb (pt S (tL S r)) o (j + 1)) (itr (pt S (tL S r)) (j + 1) o) = true := by
      rw [wayb_bt h8 _ _ (by omega), dc_t]
      exact ⟨0, by omega, j1'.symm⟩
    unfold f_Mod_trades_L186
    simp (disch := omega) only [fl, fmN, mm_lt, Nat.reduceAdd, Option.bind_some, lt_t, lt_f, le_t, le_f, eq_f, eq_self, nI_add, nI_mul, nI_sub, ↓reduceIte, md_has, bI_0, hn, Bool.true_eq_false]
/-- who is out behind k HOUSES of a round -/
noncomputable def oK (S : Nat → Int32) (r k x : Nat) : Bool := dc (∃ k', k' < k ∧ tL S r k' = true ∧ cyc (pt S (tL S r)) (itr (pt S (tL S r)) 8 k') x = true)
theorem oK_end (hv : Inv S) (x : Nat) : oK S r (sm S) x = tg S r x := by
  have hL : ∀ k, tL S r k = true → tL S r (pt S (tL S r) k) = true := fun k hk => pt_L hk
  apply Bool.eq_iff_iff.mpr
  unfold oK
  rw [dc_t]
  constructor
  · rintro ⟨k, h1, h2, h3⟩
    have ho := onc_8 hL (fun k hk => tL_8 hv hk) h2
    exact (Bool.and_eq_true _ _).mpr ⟨cyc_L hL (itr_L hL h2 8) h3, cyc_onc ho h3⟩
  · intro q
    obtain ⟨q1, q2⟩ := tg_L q
    refine ⟨x, (tL_cn q1).1, q1, ?_⟩
    obtain ⟨P, p1, p8, e⟩ := onc_P q2
    rw [cyc_same q2 (cyc_any p1 p8 e) x]
    exact cyc_self x
theorem md_118 (hs : u.1 171 = S) (hv : Inv S) (hp : ∀ k, tL S r k = true → u.1 178 k = nI (pt S (tL S r) k)) (hl : ∀ x, x < 32 → bt left x = tL S r x) : ∃ out, mm_lp (f_Mod_trades_L118 z_Law u 169 left) (nI (tC S r), nI 0, nI 0) = some (nI (tC S (r + 1)), out) ∧ ∀ x, x < 32 → bt out x = tg S r x := by
  have m8 := iv_m8 hv
  have hL : ∀ k, tL S r k = true → tL S r (pt S (tL S r) k) = true := fun k hk => pt_L hk
  have key : ∃ q, mm_lp (f_Mod_trades_L118 z_Law u 169 left) (nI (tC S r), nI 0, nI 0) = some q ∧ q.1 = nI (tC S (r + 1)) ∧ ∀ x, x < 32 → bt q.2 x = tg S r x := by
    refine lp_ix (fun k t => t.1 = nI (tC S r + fb_ct (fun x => oK S r k x && lst (pt S (tL S r)) x) 8) ∧ t.2.2 = nI k ∧ ∀ x, x < 32 → bt t.2.1 x = oK S r k x) (sm S) (fun k t hk hI => ?_) (fun t hI => ?_) ⟨?_, rfl, fun x hx => by rw [b_nI0]; exact (dc_f.mpr (fun ⟨_, q, _⟩ => absurd q (by omega))).symm⟩
    · obtain ⟨c, out, i⟩ := t
      obtain ⟨h1, h2, h3⟩ := hI
      dsimp only at h1 h2 h3
      subst h1; subst h2
      have same : (∀ x, oK S r (k + 1) x = oK S r k x) → f_Mod_trades_L118 z_Law u 169 left (nI (tC S r + fb_ct (fun x => oK S r k x && lst (pt S (tL S r)) x) 8), out, nI k) = some (.inl (nI (tC S r + fb_ct (fun x => oK S r k x && lst (pt S (tL S r)) x) 8), out, nI (k + 1))) → ∃ s', f_Mod_trades_L118 z_Law u 169 left (nI (tC S r + fb_ct (fun x => oK S r k x && lst (pt S (tL S r)) x) 8), out, nI k) = some (.inl s') ∧ s'.1 = nI (tC S r + fb_ct (fun x => oK S r (k + 1) x && lst (pt S (tL S r)) x) 8) ∧ s'.2.2 = nI (k + 1) ∧ ∀ x, x < 32 → bt s'.2.1 x = oK S r (k + 1) x := by
        intro hsame e
        have e9 : (fun x => oK S r (k + 1) x && lst (pt S (tL S r)) x) = fun x => oK S r k x && lst (pt S (tL S r)) x := funext (fun x => by rw [hsame x])
        exact ⟨_, e, by rw [e9], rfl, fun x hx => (h3 x hx).trans (hsame x).symm⟩
      cases hLk : tL S r k with
      | false =>
        refine same (fun x => ?_) ?_
        · apply Bool.eq_iff_iff.mpr
          unfold oK
          rw [dc_t, dc_t]
          constructor
          · rintro ⟨k', a, b, c⟩
            by_cases g : k' = k
            · rw [g, hLk] at b; cases b
            · exact ⟨k', by omega, b, c⟩
          · rintro ⟨k', a, b, c⟩; exact ⟨k', by omega, b, c⟩
        · unfold f_Mod_trades_L118
          simp (disch := omega) only [fl, fmN, mm_lt, Nat.reduceAdd, Option.bind_some, lt_t, lt_f, le_t, le_f, eq_f, eq_self, nI_add, nI_mul, nI_sub, ↓reduceIte, zq_171, ld_nI, hs, iv_m hv, md_has, bI_0, hl k (by omega), hLk]
      | true =>
        have ho8 : ∀ i, itr (pt S (tL S r)) i k < 8 := fun i => tL_8 hv (itr_L hL hLk i)
        have hon := onc_8 hL (fun k hk => tL_8 hv hk) hLk
        have hoL := itr_L hL hLk 8
        obtain ⟨o, eo⟩ : ∃ o, itr (pt S (tL S r)) 8 k = o := ⟨_, rfl⟩
        have o8 := ho8 8
        rw [eo] at hon hoL o8
        -- one who is out brings all of its circle
        have sub : ∀ y, oK S r k y = true → cyc (pt S (tL S r)) y o = true → onc (pt S (tL S r)) y = true → ∀ x, oK S r (k + 1) x = oK S r k x := by
          intro y hy hyo hyc x
          obtain ⟨k1, a1, b1, c1⟩ := dc_t.mp hy
          have ho1 := onc_8 hL (fun k hk => tL_8 hv hk) b1
          apply Bool.eq_iff_iff.mpr
          unfold oK
          rw [dc_t, dc_t]
          constructor
          · rintro ⟨k', a, b, c⟩
            by_cases g : k' = k
            · rw [g, eo] at c
              refine ⟨k1, a1, b1, ?_⟩
              rw [← cyc_same ho1 c1, ← cyc_same hyc hyo]
              exact c
            · exact ⟨k', by omega, b, c⟩
          · rintro ⟨k', a, b, c⟩; exact ⟨k', by omega, b, c⟩
        have L157 : mm_lp (f_Mod_trades_L157 z_Law u 169 left (nI (tC S r + fb_ct (fun x => oK S r k x && lst (pt S (tL S r)) x) 8)) out (nI k)) (nI k, nI 0) = some (nI o) := by
          refine lp_go (fun s => (nI (itr (pt S (tL S r)) s k), nI s)) 8 rfl (fun s hs9 => ?_) ?_
          · have a1 := ho8 s
            have e1 : u.1 178 (itr (pt S (tL S r)) s k) = nI (itr (pt S (tL S r)) (s + 1) k) := hp _ (itr_L hL hLk s)
            unfold f_Mod_trades_L157
            simp (disch := omega) only [fl, fmN, mm_lt, Nat.reduceAdd, Option.bind_some, lt_t, lt_f, le_t, le_f, eq_f, eq_self, nI_add, nI_mul, nI_sub, ↓reduceIte, zq_178, ld_nI, e1]
          · unfold f_Mod_trades_L157
            simp (disch := omega) only [fl, fmN, mm_lt, Nat.reduceAdd, Option.bind_some, lt_t, lt_f, le_t, le_f, eq_f, eq_self, nI_add, nI_mul, nI_sub, ↓reduceIte, eo]
        cases hok : oK S r k k with
        | true =>
          have hkc : onc (pt S (tL S r)) k = true := by
            obtain ⟨k1, a1, b1, c1⟩ := dc_t.mp hok
            exact cyc_onc (onc_8 hL (fun k hk => tL_8 hv hk) b1) c1
          have hko : cyc (pt S (tL S r)) k o = true := by
            obtain ⟨P, p1, p8, e⟩ := onc_P hkc
            rw [← eo]; exact cyc_any p1 p8 e
          refine same (sub k hok hko hkc) ?_
          unfold f_Mod_trades_L118
          simp (disch := omega) only [fl, fmN, mm_lt, Nat.reduceAdd, Option.bind_some, lt_t, lt_f, le_t, le_f, eq_f, eq_self, nI_add, nI_mul, nI_sub, ↓reduceIte, zq_171, ld_nI, hs, iv_m hv, md_has, bI_0, hl k (by omega), hLk, h3 k (by omega), hok, Bool.true_eq_false]
        | false =>
          obtain ⟨v, ev, hv9⟩ := md_round (a := left) (b := nI (tC S r + fb_ct (fun x => oK S r k x && lst (pt S (tL S r)) x) 8)) (c := out) (d := nI k) (e := nI o) hv hp hoL hon
          cases hoo : oK S r k o with
          | true =>
            refine same (sub o hoo (cyc_self o) hon) ?_
            unfold f_Mod_trades_L118
            simp (disch := omega) only [fl, fmN, mm_lt, Nat.reduceAdd, Option.bind_some, lt_t, lt_f, le_t, le_f, eq_f, eq_self, nI_add, nI_mul, nI_sub, ↓reduceIte, zq_171, ld_nI, hs, iv_m hv, md_has, bI_0, hl k (by omega), hLk, h3 k (by omega), hok, Bool.true_eq_false, L157, ev, h3 o (by omega), hoo]
          | false =>
            have hsm : sma v := fun i h1 h2 => by
              rw [hv9 i h1]
              apply Bool.eq_false_iff.mpr
              intro q
              have := tL_8 hv (cyc_L hL hoL q)
              omega
            have hpc : pcI v = fb_ct (cyc (pt S (tL S r)) o) 10 := fb_ct_cong (fun i hi => hv9 i (by omega))
            have hpl := pcI_le v
            have hOK : ∀ x, oK S r (k + 1) x = (oK S r k x || cyc (pt S (tL S r)) o x) := by
              intro x
              apply Bool.eq_iff_iff.mpr
              unfold oK
              rw [Bool.or_eq_true, dc_t, dc_t]
              constructor
              · rintro ⟨k', a, b, c⟩
                by_cases g : k' = k
                · rw [g, eo] at c; exact Or.inr c
                · exact Or.inl ⟨k', by omega, b, c⟩
              · rintro (⟨k', a, b, c⟩ | c)
                · exact ⟨k', by omega, b, c⟩
                · exact ⟨k, by omega, hLk, by rw [eo]; exact c⟩
            have hmore := lst_more (f := pt S (tL S r)) (out := oK S r k) hon (fun x hx => tL_8 hv (cyc_L hL hoL hx)) (fun x hx => by
              apply Bool.eq_false_iff.mpr
              intro q
              obtain ⟨k1, a1, b1, c1⟩ := dc_t.mp q
              have ho1 := onc_8 hL (fun k hk => tL_8 hv hk) b1
              have : oK S r k o = true := dc_t.mpr ⟨k1, a1, b1, by
                rw [← cyc_same ho1 c1, cyc_same hon hx]; exact cyc_self o⟩
              rw [hoo] at this; cases this)
            have e9 : fb_ct (fun x => oK S r (k + 1) x && lst (pt S (tL S r)) x) 8 = fb_ct (fun x => (oK S r k x || cyc (pt S (tL S r)) o x) && lst (pt S (tL S r)) x) 8 := fb_ct_cong (fun x _ => by rw [hOK x])
            rw [← e9] at hmore
            refine ⟨(nI (tC S r + fb_ct (fun x => oK S r (k + 1) x && lst (pt S (tL S r)) x) 8), out ||| v, nI (k + 1)), ?_, rfl, rfl, fun x hx => ?_⟩
            · unfold f_Mod_trades_L118
              simp (disch := omega) only [fl, fmN, mm_lt, Nat.reduceAdd, Option.bind_some, lt_t, lt_f, le_t, le_f, eq_f, eq_self, nI_add, nI_mul, nI_sub, ↓reduceIte, zq_171, ld_nI, hs, iv_m hv, md_has, bI_0, hl k (by omega), hLk, h3 k (by omega), hok, Bool.true_eq_false, L157, ev, h3 o (by omega), hoo, md_bc hsm]
              rw [hmore, ← hpc]
              by_cases g : 1 < pcI v
              · simp (disch := omega) only [le_f, ↓reduceIte, if_pos g]
                rw [Nat.add_assoc]
              · simp (disch := omega) only [le_t, ↓reduceIte, if_neg g, Nat.add_zero]
            · show bt (out ||| v) x = _
              rw [b_or, h3 x hx, hv9 x hx, hOK x]
    · obtain ⟨c, out, i⟩ := t
      obtain ⟨h1, h2, h3⟩ := hI
      dsimp only at h1 h2 h3
      subst h1; subst h2
      refine ⟨(nI (tC S (r + 1)), out), ?_, rfl, fun x hx => (h3 x hx).trans (oK_end hv x)⟩
      have e9 : (fun x => oK S r (sm S) x && lst (pt S (tL S r)) x) = fun x => tg S r x && lst (pt S (tL S r)) x := funext (fun x => by rw [oK_end hv x])
      unfold f_Mod_trades_L118
      simp (disch := omega) only [fl, fmN, mm_lt, Nat.reduceAdd, Option.bind_some, lt_t, lt_f, le_t, le_f, eq_f, eq_self, nI_add, nI_mul, nI_sub, ↓reduceIte, zq_171, ld_nI, hs, iv_m hv]
      rw [e9]
      rfl
    · show nI (tC S r) = nI (tC S r + _)
      rw [fb_ct_zero.mpr (fun x _ => ?_), Nat.add_zero]
      have : oK S r 0 x = false := dc_f.mpr (fun ⟨_, q, _⟩ => absurd q (by omega))
      rw [this, Bool.false_and]
  obtain ⟨⟨a, b⟩, e, h1, h2⟩ := key
  dsimp only at h1 h2
  subst h1
  exact ⟨b, e, h2⟩
end TRADE4
