/-! rings: the search told once, met by both -/
def fsome {α : Type} (f : Nat → Option α) : Nat → Nat → Option α
  | _, 0 => none
  | a, n + 1 => match f a with
    | some r => some r
    | none => fsome f (a + 1) n
section FS
variable {α : Type} {f : Nat → Option α} {v c : Nat} {r : α}
theorem fs_no (h : v < c) (e : f v = none) : fsome f v (c - v) = fsome f (v + 1) (c - (v + 1)) := by
  rw [show c - v = (c - (v + 1)) + 1 by omega]
  show (match f v with | some r => some r | none => fsome f (v + 1) (c - (v + 1))) = _
  rw [e]
theorem fs_yes (h : v < c) (e : f v = some r) : fsome f v (c - v) = some r := by
  rw [show c - v = (c - (v + 1)) + 1 by omega]
  show (match f v with | some r => some r | none => fsome f (v + 1) (c - (v + 1))) = _
  rw [e]
theorem fs_end (h : c ≤ v) : fsome f v (c - v) = none := by
  rw [show c - v = 0 by omega]; rfl
end FS
def upn (p : Nat → Nat) (k v : Nat) : Nat → Nat := fun i => if i = k then v else p i
theorem upn_s {p : Nat → Nat} {k v : Nat} : upn p k v k = v := if_pos rfl
theorem upn_o {p : Nat → Nat} {k v i : Nat} (h : i ≠ k) : upn p k v i = p i := if_neg h
/-- new on the path -/
def nwp (p : Nat → Nat) (k v : Nat) : Bool := decide (∀ i, i < k → p i ≠ v)
/-- the rest of a ring behind k HOUSES of the path -/
def rg (w : Nat → Nat → Bool) (c : Nat) : Nat → (Nat → Nat) → Nat → Option (Nat → Nat)
  | 0, p, k => if w (p (k - 1)) (p 0) = true then some p else none
  | d + 1, p, k => fsome (fun v => if (w (p (k - 1)) v && nwp p k v) = true then rg w c d (upn p k v) (k + 1) else none) (p 0 + 1) (c - (p 0 + 1))
def cdd (w : Nat → Nat → Bool) (c d : Nat) (p : Nat → Nat) (k : Nat) : Nat → Option (Nat → Nat) := fun v => if (w (p (k - 1)) v && nwp p k v) = true then rg w c d (upn p k v) (k + 1) else none
theorem rg_succ {w : Nat → Nat → Bool} {c d k : Nat} {p : Nat → Nat} : rg w c (d + 1) p k = fsome (cdd w c d p k) (p 0 + 1) (c - (p 0 + 1)) := rfl
section RING
variable {σ m u : Mm} {S : Nat → Int32}
/-- whether a HOUSE would rather have what another holds -/
noncomputable def wsh (S : Nat → Int32) (a b : Nat) : Bool := @decide (cn S a ∧ cn S b ∧ vv S a (S (123 + a)) < vw S a (S (123 + b)).toNatClampNeg) (Classical.propDecidable _)
theorem wsh_t {a b : Nat} : wsh S a b = true ↔ cn S a ∧ cn S b ∧ vv S a (S (123 + a)) < vw S a (S (123 + b)).toNatClampNeg := by
  unfold wsh; exact @decide_eq_true_iff _ (Classical.propDecidable _)
noncomputable def wB (S : Nat → Int32) (a b : Nat) : Bool := decide (b < sm S) && wsh S a b
theorem cn_lt (hv : Inv S) {k : Nat} (hk : k < 8) (h : cn S k) : k < sm S ∧ ∃ x, x < sn S ∧ S (123 + k) = nI x ∧ S (15 + x) ≠ nI 2 := by
  have n10 := iv_n10 hv
  refine ⟨?_, ?_⟩
  · rcases Nat.lt_or_ge k (sm S) with q | q
    · exact q
    · exact absurd (iv_none hv k q hk) h.1
  · rcases iv_held hv k hk with e | ⟨x, hx, e⟩
    · exact absurd e h.1
    · refine ⟨x, hx, e, ?_⟩
      have := h.2
      rw [e, nI_clamp (by omega)] at this
      exact this
/-! class: the wishes -/
noncomputable def wi (S : Nat → Int32) (a : Nat) : Int32 := fo (fun o v => if wsh S a o = true then v ||| nI 1 <<< (nI o &&& nI 31) else v) (sm S) (nI 0)
theorem wi_bt (hv : Inv S) {a i : Nat} (hi : i < 32) : bt (wi S a) i = wB S a i := bt_fo_or (by have := iv_m8 hv; omega) i hi
theorem hat_wish1 {z : Nat → Nat} (hz : z = z_Law) (hI : IR m 61 S) (hH : HR m 74 S) (hv : Inv S) {h : Nat} (hh : h < 8) {o : Nat} : mm_lp (f_Rings_wishAll_L22 z m o 61 74 (nI h) (vv S h (S (123 + h)))) (nI 0, nI 0) = some (wi S h) := by
  subst hz
  have m8 := iv_m8 hv
  have n10 := iv_n10 hv
  have hm : m.1 64 1 = nI (sm S) := hI.2.1.trans (iv_m hv)
  obtain ⟨r, e, hr⟩ := hd_can HZ_74 IZ_61 hH hI hh (iv_held hv h hh) n10
  rcases hr with ⟨hc, rfl⟩ | ⟨hc, rfl⟩
  · refine lp_fo0 _ _ (fun i x hi => ?_) (fun x => ?_)
    · obtain ⟨r2, e2, hr2⟩ := hd_can HZ_74 IZ_61 hH hI (by omega : i < 8) (iv_held hv i (by omega)) n10
      unfold f_Rings_wishAll_L22
      simp (disch := omega) only [fl, fmN, mm_lt, Nat.reduceAdd, Option.bind_some, lt_t, lt_f, le_t, le_f, eq_f, eq_self, nI_add, nI_mul, nI_sub, ↓reduceIte, hm, e, e2]
      rcases hr2 with ⟨hc2, rfl⟩ | ⟨hc2, rfl⟩
      · obtain ⟨-, y, hy, ey, -⟩ := cn_lt hv (by omega) hc2
        simp (disch := omega) only [fl, fmN, mm_lt, Nat.reduceAdd, Option.bind_some, lt_t, lt_f, le_t, le_f, eq_f, eq_self, nI_add, nI_mul, nI_sub, ↓reduceIte, hd_held HZ_74 hH, ey, is_value IZ_61 hI]
        have hw : wsh S h i = true ↔ vv S h (S (123 + h)) < vw S h y := by
          rw [wsh_t, ey, nI_clamp (by omega)]
          exact ⟨fun q => q.2.2, fun q => ⟨hc, hc2, q⟩⟩
        by_cases h9 : vv S h (S (123 + h)) < vw S h y
        · rw [if_neg (fa_of_lt h9).2.1, if_pos (hw.mpr h9)]
        · rw [if_pos (fa_of_nlt h9), if_neg (fun q => h9 (hw.mp q))]
      · simp (disch := omega) only [fl, fmN, mm_lt, Nat.reduceAdd, Option.bind_some, lt_t, lt_f, le_t, le_f, eq_f, eq_self, nI_add, nI_mul, nI_sub, ↓reduceIte]
        rw [if_neg (fun q => hc2 (wsh_t.mp q).2.1)]
    · unfold f_Rings_wishAll_L22
      simp (disch := omega) only [fl, fmN, mm_lt, Nat.reduceAdd, Option.bind_some, lt_t, lt_f, le_t, le_f, eq_f, eq_self, nI_add, nI_mul, nI_sub, ↓reduceIte, hm]
  · have e0 : wi S h = nI 0 := by
      unfold wi
      have : ∀ n, fo (fun o v => if wsh S h o = true then v ||| nI 1 <<< (nI o &&& nI 31) else v) n (nI 0) = nI 0 := by
        intro n
        induction n with
        | zero => rfl
        | succ n ih =>
          show (if wsh S h n = true then _ else fo _ n (nI 0)) = nI 0
          rw [if_neg (fun q => hc (wsh_t.mp q).1), ih]
      exact this _
    rw [e0]
    refine mm_lp_done ?_
    unfold f_Rings_wishAll_L22
    by_cases h0 : sm S = 0
    · simp (disch := omega) only [fl, fmN, mm_lt, Nat.reduceAdd, Option.bind_some, lt_t, lt_f, le_t, le_f, eq_f, eq_self, nI_add, nI_mul, nI_sub, ↓reduceIte, hm, h0]
    · simp (disch := omega) only [fl, fmN, mm_lt, Nat.reduceAdd, Option.bind_some, lt_t, lt_f, le_t, le_f, eq_f, eq_self, nI_add, nI_mul, nI_sub, ↓reduceIte, hm, e]
theorem hat_wish (hR : RS σ) : ∃ m, f_Rings_wishAll z_Law σ 40 61 74 = some m ∧ (∀ a, a < 8 → m.1 46 a = wi (σ.1 171) a) ∧ (∀ q, q ≠ 46 → m.1 q = σ.1 q) ∧ m.2 = σ.2 := by
  have hv := rl_v hR
  have n10 := iv_n10 hv
  have key : ∃ m, mm_lp (f_Rings_wishAll_L2 z_Law 40 61 74) (nI 0, σ) = some m ∧ (∀ a, a < 8 → m.1 46 a = wi (σ.1 171) a) ∧ (∀ q, q ≠ 46 → m.1 q = σ.1 q) ∧ m.2 = σ.2 := by
    refine lp_ix (fun i t => t.1 = nI i ∧ (∀ a, a < i → t.2.1 46 a = wi (σ.1 171) a) ∧ (∀ q, q ≠ 46 → t.2.1 q = σ.1 q) ∧ t.2.2 = σ.2) 8 (fun i t hi hI => ?_) (fun t hI => ?_) ⟨rfl, fun a ha => absurd ha (by omega), fun _ _ => rfl, rfl⟩
    · obtain ⟨c, q⟩ := t
      obtain ⟨h1, h2, h3, h4⟩ := hI
      dsimp only at h1 h2 h3 h4
      subst h1
      have qI : IR q 61 (σ.1 171) := IR_c (rl_I hR) (fun j hj => h3 _ (by omega))
      have qH : HR q 74 (σ.1 171) := HR_c (rl_H hR) (h3 _ (by decide)) (h3 _ (by decide))
      refine ⟨(nI (i + 1), kI q 46 i (wi (σ.1 171) i)), ?_, rfl, fun a ha => ?_, fun q' g => ?_, h4⟩
      · unfold f_Rings_wishAll_L2 f_Rings_wishAll_J87
        simp (disch := omega) only [fl, fmN, mm_lt, Nat.reduceAdd, Option.bind_some, lt_t, lt_f, le_t, le_f, eq_f, eq_self, nI_add, nI_mul, nI_sub, ↓reduceIte, hd_vh HZ_74 IZ_61 qH qI hi (iv_held hv i hi) n10]
        rw [hat_wish1 rfl qI qH hv hi, Option.bind_some]
        simp (disch := omega) only [fl, fmN, mm_lt, Nat.reduceAdd, Option.bind_some, lt_t, lt_f, le_t, le_f, eq_f, eq_self, nI_add, nI_mul, nI_sub, ↓reduceIte, row_putE (p := 46) rfl zq_46]
      · show (kI q 46 i _).1 46 a = _
        rw [kI_at]
        by_cases e : a = i
        · rw [if_pos e, e]
        · rw [if_neg e]; exact h2 a (by omega)
      · show (kI q 46 i _).1 q' = _
        rw [kI_o _ _ _ _ g]; exact h3 q' g
    · obtain ⟨c, q⟩ := t
      obtain ⟨h1, h2, h3, h4⟩ := hI
      dsimp only at h1 h2 h3 h4
      subst h1
      refine ⟨q, ?_, h2, h3, h4⟩
      unfold f_Rings_wishAll_L2
      simp (disch := omega) only [fl, fmN, mm_lt, Nat.reduceAdd, Option.bind_some, lt_t, lt_f, le_t, le_f, eq_f, eq_self, nI_add, nI_mul, nI_sub, ↓reduceIte]
  obtain ⟨m, e, r⟩ := key
  refine ⟨m, ?_, r⟩
  unfold f_Rings_wishAll
  simp only [fl, e, Option.bind_some]
/-- what closes() leaves -/
def clR (L k : Nat) (m m' : Mm) (r : Option (Nat → Nat)) (res : Int32) : Prop := (∀ q, q ≠ 44 → m'.1 q = m.1 q) ∧ m'.2 = m.2 ∧ ((∃ p', r = some p' ∧ res = nI 1 ∧ ∀ i, i < L → m'.1 44 i = nI (p' i)) ∨ (r = none ∧ res = nI 0 ∧ ∀ i, i < k → m'.1 44 i = m.1 44 i))
theorem hat_closes (hv : Inv S) {L : Nat} (hL : L ≤ 8) : ∀ d fuel p k m us, d < fuel → k + d = L → 1 ≤ k → (∀ i, i < k → m.1 44 i = nI (p i)) → (∀ i, i < k → p i < sm S) → (∀ a, a < 8 → m.1 46 a = wi S a) → (∀ j, j < 32 → bt us j = !nwp p k j) → ∃ res m', f_Rings_closes z_Law fuel m 40 (nI k) (nI L) us = some (res, m') ∧ clR L k m m' (rg (wB S) (sm S) d p k) res := by
  have m8 := iv_m8 hv
  intro d
  induction d with
  | zero =>
    intro fuel p k m us hf hk hk1 hp hpc hw hus
    obtain ⟨f, rfl⟩ : ∃ f, fuel = f + 1 := ⟨fuel - 1, by omega⟩
    have e46 := hw (p (k - 1)) (by have := hpc (k - 1) (by omega); omega)
    have p0 := hpc 0 (by omega)
    have pk := hpc (k - 1) (by omega)
    show ∃ res m', f_Rings_closes_B z_Law (f_Rings_closes z_Law f) m 40 (nI k) (nI L) us = some (res, m') ∧ _
    have key : f_Rings_closes_B z_Law (f_Rings_closes z_Law f) m 40 (nI k) (nI L) us = some (bI (wB S (p (k - 1)) (p 0)), m) := by
      unfold f_Rings_closes_B f_Rings_closes_J40
      simp (disch := omega) only [fl, fmN, mm_lt, Nat.reduceAdd, Option.bind_some, lt_t, lt_f, le_t, le_f, eq_f, eq_self, nI_add, nI_mul, nI_sub, ↓reduceIte, row_atE (p := 44) rfl zq_44, row_atE (p := 46) rfl zq_46, hp, e46, sh_bit, wi_bt hv]
      unfold bI
      split <;> rfl
    refine ⟨_, m, key, fun _ _ => rfl, rfl, ?_⟩
    show (∃ p', (if wB S (p (k - 1)) (p 0) = true then some p else none) = some p' ∧ _) ∨ ((if wB S (p (k - 1)) (p 0) = true then some p else none) = none ∧ _)
    by_cases h : wB S (p (k - 1)) (p 0) = true
    · rw [if_pos h, h]
      exact Or.inl ⟨p, rfl, rfl, fun i hi => hp i (by omega)⟩
    · rw [if_neg h, Bool.eq_false_iff.mpr h]
      exact Or.inr ⟨rfl, rfl, fun _ _ => rfl⟩
  | succ d ih =>
    intro fuel p k m us hf hk hk1 hp hpc hw hus
    obtain ⟨f, rfl⟩ : ∃ f, fuel = f + 1 := ⟨fuel - 1, by omega⟩
    have e46 := hw (p (k - 1)) (by have := hpc (k - 1) (by omega); omega)
    have p0 := hpc 0 (by omega)
    have pk := hpc (k - 1) (by omega)
    have inner : ∀ r v m, v + r = 8 → (∀ i, i < k → m.1 44 i = nI (p i)) → (∀ a, a < 8 → m.1 46 a = wi S a) → ∃ x, mm_lp (f_Rings_closes_L63 z_Law (f_Rings_closes z_Law f) 40 (nI k) (nI L) us (wi S (p (k - 1)))) (nI v, m) = some x ∧ ((∃ p' m', fsome (cdd (wB S) (sm S) d p k) v (sm S - v) = some p' ∧ x = .inl (nI 1, m') ∧ (∀ q, q ≠ 44 → m'.1 q = m.1 q) ∧ m'.2 = m.2 ∧ ∀ i, i < L → m'.1 44 i = nI (p' i)) ∨ (∃ m', fsome (cdd (wB S) (sm S) d p k) v (sm S - v) = none ∧ x = .inr m' ∧ (∀ q, q ≠ 44 → m'.1 q = m.1 q) ∧ m'.2 = m.2 ∧ ∀ i, i < k → m'.1 44 i = m.1 44 i)) := by
      intro r
      induction r with
      | zero =>
        intro v m hv8 hp hw
        have : v = 8 := by omega
        subst this
        refine ⟨.inr m, mm_lp_done ?_, Or.inr ⟨m, fs_end m8, rfl, fun _ _ => rfl, rfl, fun _ _ => rfl⟩⟩
        unfold f_Rings_closes_L63
        simp (disch := omega) only [fl, fmN, mm_lt, Nat.reduceAdd, Option.bind_some, lt_t, lt_f, le_t, le_f, eq_f, eq_self, nI_add, nI_mul, nI_sub, ↓reduceIte]
      | succ r ihr =>
        intro v m hv8 hp hw
        have hbit : bt (wi S (p (k - 1)) &&& (us ^^^ mN)) v = (wB S (p (k - 1)) v && nwp p k v) := by
          rw [b_and, b_not (by omega), wi_bt hv (by omega), hus v (by omega), Bool.not_not]
        by_cases hb : (wB S (p (k - 1)) v && nwp p k v) = true
        · have hvc : v < sm S := by
            have := ((Bool.and_eq_true _ _).mp hb).1
            unfold wB at this
            exact dec_t ((Bool.and_eq_true _ _).mp this).1
          obtain ⟨res, m1, e1, c1, c2, c3⟩ := ih f (upn p k v) (k + 1) (kI m 44 k (nI v)) (us ||| nI 1 <<< (nI v &&& nI 31)) (by omega) (by omega) (by omega) (fun i hi => by
            rw [kI_at]
            by_cases g : i = k
            · rw [if_pos g, g, upn_s]
            · rw [if_neg g, upn_o g]; exact hp i (by omega)) (fun i hi => by
            by_cases g : i = k
            · rw [g, upn_s]; exact hvc
            · rw [upn_o g]; exact hpc i (by omega)) (fun a ha => by rw [kI_o _ _ _ _ (by decide)]; exact hw a ha) (fun j hj => by
            rw [b_set (by omega) hj, hus j hj]
            unfold nwp
            by_cases g : j = v
            · subst g
              rw [decide_eq_true rfl, Bool.or_true]
              rw [decide_eq_false (fun q => q k (by omega) upn_s)]; rfl
            · rw [decide_eq_false g, Bool.or_false]
              congr 1
              apply decide_eq_decide.mpr
              constructor
              · intro q i hi
                by_cases g2 : i = k
                · rw [g2, upn_s]; exact fun q2 => g q2.symm
                · rw [upn_o g2]; exact q i (by omega)
              · intro q i hi
                have := q i (by omega)
                rw [upn_o (by omega)] at this
                exact this)
          have hcd : cdd (wB S) (sm S) d p k v = rg (wB S) (sm S) d (upn p k v) (k + 1) := if_pos hb
          have hstep : ∀ y, (if res = nI 0 then some (Sum.inl (nI (v + 1), m1)) else some (Sum.inr (Sum.inl (nI 1, m1)))) = y → f_Rings_closes_L63 z_Law (f_Rings_closes z_Law f) 40 (nI k) (nI L) us (wi S (p (k - 1))) (nI v, m) = y := by
            intro y hy
            rw [← hy]
            unfold f_Rings_closes_L63
            simp (disch := omega) only [fl, fmN, mm_lt, Nat.reduceAdd, Option.bind_some, lt_t, lt_f, le_t, le_f, eq_f, eq_self, nI_add, nI_mul, nI_sub, ↓reduceIte, sh_bit0, hbit, hb, Bool.true_eq_false, row_putE (p := 44) rfl zq_44, e1]
          rcases c3 with ⟨p', g1, g2, g3⟩ | ⟨g1, g2, g3⟩
          · refine ⟨.inl (nI 1, m1), mm_lp_done (hstep _ ?_), Or.inl ⟨p', m1, fs_yes hvc (hcd.trans g1), rfl, fun q hq => (c1 q hq).trans (kI_o _ _ _ _ hq), c2, g3⟩⟩
            rw [g2, if_neg (by decide)]
          · have hm1 : ∀ i, i < k → m1.1 44 i = m.1 44 i := fun i hi => by rw [g3 i (by omega), kI_at, if_neg (by omega)]
            obtain ⟨x, e2, hx⟩ := ihr (v + 1) m1 (by omega) (fun i hi => (hm1 i hi).trans (hp i hi)) (fun a ha => by rw [c1 46 (by decide), kI_o _ _ _ _ (by decide)]; exact hw a ha)
            refine ⟨x, (mm_lp_step (hstep _ (by rw [g2, if_pos rfl]))).trans e2, ?_⟩
            rw [fs_no hvc (hcd.trans g1)]
            rcases hx with ⟨p', m', f1, f2, f3, f4, f5⟩ | ⟨m', f1, f2, f3, f4, f5⟩
            · exact Or.inl ⟨p', m', f1, f2, fun q hq => (f3 q hq).trans ((c1 q hq).trans (kI_o _ _ _ _ hq)), f4.trans c2, f5⟩
            · exact Or.inr ⟨m', f1, f2, fun q hq => (f3 q hq).trans ((c1 q hq).trans (kI_o _ _ _ _ hq)), f4.trans c2, fun i hi => (f5 i hi).trans (hm1 i hi)⟩
        · have hb' := Bool.eq_false_iff.mpr hb
          obtain ⟨x, e2, hx⟩ := ihr (v + 1) m (by omega) hp hw
          refine ⟨x, (mm_lp_step ?_).trans e2, ?_⟩
          · unfold f_Rings_closes_L63
            simp (disch := omega) only [fl, fmN, mm_lt, Nat.reduceAdd, Option.bind_some, lt_t, lt_f, le_t, le_f, eq_f, eq_self, nI_add, nI_mul, nI_sub, ↓reduceIte, sh_bit0, hbit, hb']
          · by_cases hvc : v < sm S
            · rw [fs_no hvc (if_neg hb)]; exact hx
            · rw [fs_end (by omega)] at hx ⊢
              exact hx
    obtain ⟨x, ex, hx⟩ := inner (8 - (p 0 + 1)) (p 0 + 1) m (by omega) hp hw
    show ∃ res m', f_Rings_closes_B z_Law (f_Rings_closes z_Law f) m 40 (nI k) (nI L) us = some (res, m') ∧ _
    have key : f_Rings_closes_B z_Law (f_Rings_closes z_Law f) m 40 (nI k) (nI L) us = (some x).bind (Sum.elim (fun r9 => some r9) (fun x63_ => some (nI 0, x63_))) := by
      unfold f_Rings_closes_B
      simp (disch := omega) only [fl, fmN, mm_lt, Nat.reduceAdd, Option.bind_some, lt_t, lt_f, le_t, le_f, eq_f, eq_self, nI_add, nI_mul, nI_sub, ↓reduceIte, row_atE (p := 44) rfl zq_44, row_atE (p := 46) rfl zq_46, hp, e46, ex]
    rcases hx with ⟨p', m', f1, f2, f3, f4, f5⟩ | ⟨m', f1, f2, f3, f4, f5⟩
    · refine ⟨nI 1, m', ?_, f3, f4, Or.inl ⟨p', f1, rfl, f5⟩⟩
      rw [key, f2]; rfl
    · refine ⟨nI 0, m', ?_, f3, f4, Or.inr ⟨f1, rfl, f5⟩⟩
      rw [key, f2]; rfl
end RING
