section DEAL3
variable {σ m u : Mm} {S : Nat → Int32}
theorem hat_ww {n D : Nat} {w : Int32} {V : Nat → Int32} (n10 : n ≤ 10) (hD : D ≤ 8) (h1 : m.1 165 1 = nI D) (h2 : m.1 165 2 = nI (2 ^ n)) (h3 : ∀ s, s < 2 ^ n → m.1 167 s = V s) : f_Dealings_waysWithout z_Law m 165 w = some (sI (2 ^ n) (fun s => if pc s = D ∧ nI s &&& w = nI 0 then V s else nI 0)) := by
  have h10 := pow_le_1024 n10
  unfold f_Dealings_waysWithout
  simp only [fl]
  rw [lp_fo0 (fun s a => a + (if pc s = D ∧ nI s &&& w = nI 0 then V s else nI 0)) (2 ^ n) (fun s x hs => ?_) (fun x => ?_)]
  · rfl
  · have := pc_le s
    unfold f_Dealings_waysWithout_L4
    simp (disch := omega) only [fl, fmN, mm_lt, Nat.reduceAdd, Option.bind_some, lt_t, lt_f, le_t, le_f, eq_f, eq_self, nI_add, nI_mul, nI_sub, ↓reduceIte, h1, h2, bc_s (by omega : s < 1024), nI_eq]
    by_cases e1 : pc s = D
    · rw [if_pos e1]
      by_cases e2 : nI s &&& w = nI 0
      · rw [if_pos e2, if_pos ⟨e1, e2⟩, row_atE (p := 167) (n := 1024) rfl zq_167 (by omega) (by decide), h3 s hs, Option.bind_some]
      · rw [if_neg e2, if_neg (fun q => e2 q.2), i_add0]
    · rw [if_neg e1, if_neg (fun q => e1 q.1), i_add0]
  · unfold f_Dealings_waysWithout_L4
    simp only [fl, fmN, mm_lt, Nat.reduceAdd, Option.bind_some, lt_t, lt_f, le_t, le_f, eq_f, eq_self, nI_add, nI_mul, nI_sub, ↓reduceIte, h2, Int32.le_refl, if_true]
theorem n_bit0 {s x : Nat} (hs : s < 1024) (hx : x < 10) : (nI s &&& nI 1 <<< (nI x &&& nI 31) = nI 0) = (s.testBit x = false) := by
  rw [pow_sh x (by omega)]
  exact propext (fa_bit (by omega))
theorem dl_all (hv : Inv S) : sI (2 ^ sn S) (fun s => if pc s = sm S ∧ nI s &&& nI 0 = nI 0 then VV S none (sm S) s else nI 0) = dl S 8 0 := by
  have n10 := iv_n10 hv
  have m8 := iv_m8 hv
  have h10 := pow_le_1024 n10
  refine sI_cong (fun s hs => ?_)
  have e : WW (sn S) (fbx S 8 0) (sm S) s = WW (sn S) (fbb S) (sm S) s := WW_cong (fun k y hk hy => by unfold fbx; rw [decide_eq_false (by omega : ¬ k = 8), Bool.not_false, Bool.true_or, Bool.and_true])
  rw [e]
  by_cases h : pc s = sm S
  · rw [if_pos ⟨h, and_0 _⟩]
    unfold VV
    rw [if_pos (by omega), h]
    rfl
  · rw [if_neg (fun q => h q.1), WW_zero n10 hs h]
theorem dl_one (hv : Inv S) {h x : Nat} (hh : h < sm S) (hx : x < sn S) : (if fbb S h x = true then sI (2 ^ sn S) (fun s => if pc s = sm S - 1 ∧ nI s &&& nI 1 <<< (nI x &&& nI 31) = nI 0 then VV S (some h) (sm S - 1) s else nI 0) else nI 0) = dl S h x := by
  have n10 := iv_n10 hv
  have m8 := iv_m8 hv
  have h10 := pow_le_1024 n10
  obtain ⟨d, hd⟩ : ∃ d, sm S = h + 1 + d := ⟨sm S - (h + 1), by omega⟩
  have e : ∀ s, s < 2 ^ sn S → WW (sn S) (fbx S h x) (sm S) s = if (s.testBit x && fbb S h x) = true then WW (sn S) (fun j => fbb S (idx (some h) j)) (h + d) (s - 2 ^ x) else nI 0 := fun s hs => by
    rw [hd]
    exact WW_but n10 hx (fun k y hk => by unfold fbx; rw [decide_eq_false hk, Bool.not_false, Bool.true_or, Bool.and_true]) (fun y => by unfold fbx; rw [decide_eq_true rfl, Bool.not_true, Bool.false_or]) d s hs
  unfold dl
  rw [sI_cong e]
  by_cases hb : fbb S h x = true
  · rw [if_pos hb]
    have e2 : sI (2 ^ sn S) (fun s => if (s.testBit x && fbb S h x) = true then WW (sn S) (fun j => fbb S (idx (some h) j)) (h + d) (s - 2 ^ x) else nI 0) = sI (2 ^ sn S) (fun s => if s.testBit x = true then WW (sn S) (fun j => fbb S (idx (some h) j)) (h + d) (s - 2 ^ x) else nI 0) := sI_cong (fun s hs => by rw [hb, Bool.and_true])
    rw [e2, sI_flip hx]
    refine sI_cong (fun s hs => ?_)
    have e3 : sm S - 1 = h + d := by omega
    rw [e3]
    simp only [n_bit0 (by omega : s < 1024) (by omega : x < 10)]
    by_cases h1 : s.testBit x = true
    · rw [if_pos h1, if_neg (fun q => by rw [h1] at q; cases q.2)]
    · rw [if_neg h1]
      by_cases h2 : pc s = h + d
      · rw [if_pos ⟨h2, Bool.eq_false_iff.mpr h1⟩]
        unfold VV
        rw [if_pos (by omega), h2]
      · rw [if_neg (fun q => h2 q.1), WW_zero n10 hs h2]
  · rw [if_neg hb]
    symm
    exact sI_zero (fun s hs => by rw [Bool.eq_false_iff.mpr hb, Bool.and_false]; rfl)
theorem hat_have {h x : Nat} (hv : Inv S) (hh : h < sm S) (hx : x < sn S) (e88 : m.1 88 h = rf S h (sr S)) (h1 : m.1 165 1 = nI (sm S - 1)) (h2 : m.1 165 2 = nI (2 ^ sn S)) (h3 : ∀ s, s < 2 ^ sn S → m.1 167 s = VV S (some h) (sm S - 1) s) : f_Hat_waysToHave z_Law m 0 (nI h) (nI x) = some (dl S h x) := by
  have n10 := iv_n10 hv
  have m8 := iv_m8 hv
  rw [← dl_one hv hh hx]
  unfold f_Hat_waysToHave
  simp (disch := omega) only [fl, fmN, mm_lt, Nat.reduceAdd, Option.bind_some, lt_t, lt_f, le_t, le_f, eq_f, eq_self, nI_add, nI_mul, nI_sub, ↓reduceIte, row_atE (p := 88) rfl zq_88, e88, sh_bit, hat_ww n10 (by omega : sm S - 1 ≤ 8) h1 h2 h3]
  show (if fbb S h x = true then _ else _) = _
  by_cases hb : fbb S h x = true
  · rw [if_pos hb, if_pos hb]
  · rw [if_neg hb, if_neg hb]
/-! reference -/
theorem kI_kI {o k : Nat} {a b : Int32} : kI (kI m o k a) o k b = kI m o k b := by
  refine Prod.ext ?_ rfl
  funext q j
  show (if q = o ∧ j = k then b else if q = o ∧ j = k then a else m.1 q j) = if q = o ∧ j = k then b else m.1 q j
  split <;> rfl
def mf (S : Nat → Int32) (k : Nat) : Nat → Int32
  | 0 => allb (sn S)
  | i + 1 => if S (533 + 3 * i) = nI k then mf S k i &&& (if S (534 + 3 * i) = nI 1 then nI 1 <<< (S (535 + 3 * i) &&& nI 31) else (nI 1 <<< (S (535 + 3 * i) &&& nI 31)) ^^^ mN) else mf S k i
theorem mf_bt (hv : Inv S) (k : Nat) : ∀ i y, y < 32 → bt (mf S k i) y = (decide (y < sn S) && bt (rf S k i) y)
  | 0, y, hy => by
    have n10 := iv_n10 hv
    show bt (nI 1 <<< (nI (sn S) &&& nI 31) - nI 1) y = (decide (y < sn S) && bt (1023 : Int32) y)
    rw [b_low _ n10 y hy, b_1023 y hy]
    by_cases h : y < sn S
    · rw [decide_eq_true h, decide_eq_true (by omega)]; rfl
    · rw [decide_eq_false h]; rfl
  | i + 1, y, hy => by
    show bt (if S (533 + 3 * i) = nI k then mf S k i &&& _ else mf S k i) y = (decide (y < sn S) && bt (if S (533 + 3 * i) = nI k then rf S k i &&& _ else rf S k i) y)
    have ih := mf_bt hv k i y hy
    by_cases h : S (533 + 3 * i) = nI k
    · rw [if_pos h, if_pos h, b_and, b_and, ih, Bool.and_assoc]
      rfl
    · rw [if_neg h, if_neg h, ih]
/-- what a HOUSE may have, with one SURNAME alone for HOUSE h -/
def may (S : Nat → Int32) (h x k : Nat) : Int32 := if k = h then mf S k (sr S) &&& (nI 1 <<< (nI x &&& nI 31)) else mf S k (sr S)
theorem may_bt (hv : Inv S) {h x k y : Nat} (hx : x < 10) (hy : y < sn S) : bt (may S h x k) y = fbx S h x k y := by
  have n10 := iv_n10 hv
  unfold may fbx
  by_cases e : k = h
  · rw [if_pos e, b_and, b_one (by omega) (by omega), mf_bt hv k _ y (by omega), decide_eq_true hy, Bool.true_and, decide_eq_true e, Bool.not_true, Bool.false_or]
    rfl
  · rw [if_neg e, mf_bt hv k _ y (by omega), decide_eq_true hy, Bool.true_and, decide_eq_false e, Bool.not_false, Bool.true_or, Bool.and_true]
    rfl
theorem md_may (hs : u.1 171 = S) (hv : Inv S) {v1 : Int32} {h x : Nat} (hx : x < 10) (hv1 : ∀ k, k < 8 → (nI k = v1) = (k = h)) : ∃ m, mm_lp (f_Mod_waysBy_L2 z_Law 169 v1 (nI x)) (nI 0, u) = some m ∧ (∀ k, k < sm S → m.1 185 k = may S h x k) ∧ (∀ q, q ≠ 185 → m.1 q = u.1 q) ∧ m.2 = u.2 := by
  have n10 := iv_n10 hv
  have m8 := iv_m8 hv
  have r30 := iv_sr30 hv
  refine lp_ix (fun k t => t.1 = nI k ∧ (∀ j, j < k → t.2.1 185 j = may S h x j) ∧ (∀ q, q ≠ 185 → t.2.1 q = u.1 q) ∧ t.2.2 = u.2) (sm S) (fun k t hk hI => ?_) (fun t hI => ?_) ⟨rfl, fun j hj => absurd hj (by omega), fun _ _ => rfl, rfl⟩
  · obtain ⟨a, q⟩ := t
    obtain ⟨h1, h2, h3, h4⟩ := hI
    dsimp only at h1 h2 h3 h4
    subst h1
    have e171 : q.1 171 = S := by rw [h3 171 (by decide), hs]
    have L31 : mm_lp (f_Mod_waysBy_L31 z_Law 169 v1 (nI x) (nI k)) (nI 0, kI q 185 k (allb (sn S))) = some (kI q 185 k (mf S k (sr S))) := by
      refine lp_go (fun i => (nI i, kI q 185 k (mf S k i))) (sr S) rfl (fun i hi => ?_) ?_
      · have f171 : (kI q 185 k (mf S k i)).1 171 = S := e171
        have f185 : (kI q 185 k (mf S k i)).1 185 k = mf S k i := kI_at.trans (if_pos rfl)
        obtain ⟨⟨kk, hkk, ek⟩, h01, ⟨xx, hxx, ex⟩⟩ := iv_roll hv i hi
        unfold f_Mod_waysBy_L31
        simp (disch := omega) only [fl, fmN, mm_lt, Nat.reduceAdd, Option.bind_some, lt_t, lt_f, le_t, le_f, eq_f, eq_self, nI_add, nI_mul, nI_sub, ↓reduceIte, zq_171, zq_185, ld_nI, st_nI, f171, f185, iv_sr hv, kI_kI]
        show _ = some (Sum.inl (nI (i + 1), kI q 185 k (if S (533 + 3 * i) = nI k then mf S k i &&& (if S (534 + 3 * i) = nI 1 then nI 1 <<< (S (535 + 3 * i) &&& nI 31) else (nI 1 <<< (S (535 + 3 * i) &&& nI 31)) ^^^ mN) else mf S k i)))
        rw [show 533 + 3 * i + 1 = 534 + 3 * i by omega, show 533 + 3 * i + 2 = 535 + 3 * i by omega]
        by_cases e : S (533 + 3 * i) = nI k
        · rw [if_pos e, if_pos e]
          by_cases e1 : S (534 + 3 * i) = nI 1
          · rw [if_pos e1, if_pos e1]
          · rw [if_neg e1, if_neg e1]
        · rw [if_neg e, if_neg e]
      · have f171 : (kI q 185 k (mf S k (sr S))).1 171 = S := e171
        unfold f_Mod_waysBy_L31
        simp (disch := omega) only [fl, fmN, mm_lt, Nat.reduceAdd, Option.bind_some, lt_t, lt_f, le_t, le_f, eq_f, eq_self, nI_add, nI_mul, nI_sub, ↓reduceIte, zq_171, ld_nI, f171, iv_sr hv, Int32.le_refl]
    refine ⟨(nI (k + 1), kI q 185 k (may S h x k)), ?_, rfl, fun j hj => ?_, fun q' g => ?_, h4⟩
    · have f185 : (kI q 185 k (mf S k (sr S))).1 185 k = mf S k (sr S) := kI_at.trans (if_pos rfl)
      unfold f_Mod_waysBy_L2
      unfold allb at L31
      simp (disch := omega) only [fl, fmN, mm_lt, Nat.reduceAdd, Option.bind_some, lt_t, lt_f, le_t, le_f, eq_f, eq_self, nI_add, nI_mul, nI_sub, ↓reduceIte, zq_171, zq_185, ld_nI, st_nI, e171, iv_m hv, iv_n hv, L31, hv1 k (by omega), f185, kI_kI]
      unfold may
      by_cases e : k = h
      · rw [if_pos e, if_pos e]
      · rw [if_neg e, if_neg e]
    · show (kI q 185 k _).1 185 j = _
      rw [kI_at]
      by_cases e : j = k
      · rw [if_pos e, e]
      · rw [if_neg e]; exact h2 j (by omega)
    · show (kI q 185 k _).1 q' = _
      rw [kI_o _ _ _ _ g]; exact h3 q' g
  · obtain ⟨a, q⟩ := t
    obtain ⟨h1, h2, h3, h4⟩ := hI
    dsimp only at h1 h2 h3 h4
    subst h1
    have e171 : q.1 171 = S := by rw [h3 171 (by decide), hs]
    refine ⟨q, ?_, h2, h3, h4⟩
    unfold f_Mod_waysBy_L2
    simp (disch := omega) only [fl, fmN, mm_lt, Nat.reduceAdd, Option.bind_some, lt_t, lt_f, le_t, le_f, eq_f, eq_self, nI_add, nI_mul, nI_sub, ↓reduceIte, zq_171, ld_nI, e171, iv_m hv]
theorem md_ways (hs : u.1 171 = S) (hv : Inv S) {v1 : Int32} {h x : Nat} (hx : x < 10) (hv1 : ∀ k, k < 8 → (nI k = v1) = (k = h)) : ∃ m, f_Mod_waysBy z_Law u 169 v1 (nI x) = some (dl S h x, m) ∧ (∀ q, q ≠ 184 → q ≠ 185 → m.1 q = u.1 q) ∧ m.2 = u.2 := by
  have n10 := iv_n10 hv
  have m8 := iv_m8 hv
  obtain ⟨a, ea, a1, a2, a3⟩ := md_may hs hv hx hv1
  obtain ⟨n, en⟩ : ∃ n, sn S = n := ⟨_, rfl⟩
  have h10 : 2 ^ n ≤ 1024 := pow_le_1024 (en ▸ n10)
  have h2n := Nat.two_pow_pos n
  have eS : a.1 171 = S := by rw [a2 171 (by decide), hs]
  have L155 : ∃ m, mm_lp (f_Mod_waysBy_L155 z_Law 169 (nI (2 ^ n))) (nI 0, a) = some m ∧ (∀ s, s < 2 ^ n → m.1 184 s = WW n (fbx S h x) 0 s) ∧ (∀ q, q ≠ 184 → m.1 q = a.1 q) ∧ m.2 = a.2 := by
    refine lp_ix (fun i t => t.1 = nI i ∧ (∀ s, s < i → t.2.1 184 s = WW n (fbx S h x) 0 s) ∧ (∀ q, q ≠ 184 → t.2.1 q = a.1 q) ∧ t.2.2 = a.2) (2 ^ n) (fun i t hi hI => ?_) (fun t hI => ?_) ⟨rfl, fun s hs => absurd hs (by omega), fun _ _ => rfl, rfl⟩
    · obtain ⟨c, q⟩ := t
      obtain ⟨h1, h2, h3, h4⟩ := hI
      dsimp only at h1 h2 h3 h4
      subst h1
      refine ⟨(nI (i + 1), kI q 184 i (if i = 0 then nI 1 else nI 0)), ?_, rfl, fun j hj => ?_, fun q' g => ?_, h4⟩
      · unfold f_Mod_waysBy_L155
        simp (disch := omega) only [fl, fmN, mm_lt, Nat.reduceAdd, Option.bind_some, lt_t, lt_f, le_t, le_f, eq_f, eq_self, nI_add, nI_mul, nI_sub, ↓reduceIte, zq_184, st_nI, nI_eq]
        by_cases e : i = 0
        · rw [if_pos e, if_pos e]
        · rw [if_neg e, if_neg e]
      · show (kI q 184 i _).1 184 j = _
        rw [kI_at]
        by_cases e : j = i
        · rw [if_pos e, e]; rfl
        · rw [if_neg e]; exact h2 j (by omega)
      · show (kI q 184 i _).1 q' = _
        rw [kI_o _ _ _ _ g]; exact h3 q' g
    · obtain ⟨c, q⟩ := t
      obtain ⟨h1, h2, h3, h4⟩ := hI
      dsimp only at h1 h2 h3 h4
      subst h1
      refine ⟨q, ?_, h2, h3, h4⟩
      unfold f_Mod_waysBy_L155
      simp only [fl, fmN, mm_lt, Nat.reduceAdd, Option.bind_some, lt_t, lt_f, le_t, le_f, eq_f, eq_self, nI_add, nI_mul, nI_sub, ↓reduceIte, Int32.le_refl, if_true]
  obtain ⟨b, eb, b1, b2, b3⟩ := L155
  have L187 : ∃ m, mm_lp (f_Mod_waysBy_L187 z_Law 169 (nI (2 ^ n))) (nI 0, b) = some m ∧ (∀ s, s < 2 ^ n → m.1 184 s = WW n (fbx S h x) (sm S) s) ∧ (∀ q, q ≠ 184 → m.1 q = a.1 q) ∧ m.2 = a.2 := by
    refine lp_ix (fun k t => t.1 = nI k ∧ (∀ s, s < 2 ^ n → t.2.1 184 s = WW n (fbx S h x) k s) ∧ (∀ q, q ≠ 184 → t.2.1 q = a.1 q) ∧ t.2.2 = a.2) (sm S) (fun k t hk hI => ?_) (fun t hI => ?_) ⟨rfl, b1, b2, b3⟩
    · obtain ⟨c, q⟩ := t
      obtain ⟨h1, h2, h3, h4⟩ := hI
      dsimp only at h1 h2 h3 h4
      subst h1
      have L203 : ∃ m, mm_lp (f_Mod_waysBy_L203 z_Law 169 (nI (2 ^ n)) (nI k)) (nI (2 ^ n - 1), q) = some m ∧ (∀ s, s < 2 ^ n → m.1 184 s = WW n (fbx S h x) (k + 1) s) ∧ (∀ q, q ≠ 184 → m.1 q = a.1 q) ∧ m.2 = a.2 := by
        refine lp_ix (fun i t => t.1 = nI (2 ^ n - 1) - nI i ∧ (∀ s, s + i < 2 ^ n → t.2.1 184 s = WW n (fbx S h x) k s) ∧ (∀ s, s < 2 ^ n → 2 ^ n ≤ s + i → t.2.1 184 s = WW n (fbx S h x) (k + 1) s) ∧ (∀ q, q ≠ 184 → t.2.1 q = a.1 q) ∧ t.2.2 = a.2) (2 ^ n) (fun i t hi hI => ?_) (fun t hI => ?_) ⟨(Int32.sub_zero _).symm, fun s hs => h2 s (by omega), fun s hs hs2 => absurd hs2 (by omega), h3, h4⟩
        · obtain ⟨c, w⟩ := t
          obtain ⟨g1, g2, g3, g4, g5⟩ := hI
          dsimp only at g1 g2 g3 g4 g5
          subst g1
          have w171 : w.1 171 = S := by rw [g4 171 (by decide)]; exact eS
          have w185 : w.1 185 k = may S h x k := by rw [g4 185 (by decide)]; exact a1 k hk
          obtain ⟨s, es⟩ : ∃ s, 2 ^ n - 1 - i = s := ⟨_, rfl⟩
          have hs9 : s < 2 ^ n := by omega
          have L214 : mm_lp (f_Mod_waysBy_L214 z_Law w 169 (nI (2 ^ n)) (nI k) (nI s)) (nI 0, nI 0) = some (WW n (fbx S h x) (k + 1) s) := by
            refine lp_fo0 (fun y a => a + (if (s.testBit y && fbx S h x k y) = true then WW n (fbx S h x) k (s - 2 ^ y) else nI 0)) n (fun y v hy => ?_) (fun v => ?_)
            · have hyn : y < sn S := by rw [en]; exact hy
              unfold f_Mod_waysBy_L214
              simp (disch := omega) only [fl, fmN, mm_lt, Nat.reduceAdd, Option.bind_some, lt_t, lt_f, le_t, le_f, eq_f, eq_self, nI_add, nI_mul, nI_sub, ↓reduceIte, zq_171, zq_185, ld_nI, w171, iv_n hv, en, md_has, bI_0, b_nI, w185, may_bt hv hx hyn]
              cases e1 : s.testBit y
              · rw [if_pos rfl, Bool.false_and, if_neg (by decide)]
              · have hy10 : y < 10 := by rw [en] at n10; omega
                rw [if_neg (by decide), Bool.true_and, n_xor (by omega) hy10 e1]
                cases e2 : fbx S h x k y
                · rw [if_pos rfl, if_neg (by decide)]
                · have h9 := set_all s (by omega) y hy10 e1
                  have h8 := Nat.two_pow_pos y
                  rw [if_neg (by decide), if_pos rfl, zq_184, ld_nI (by omega) (by decide), Option.bind_some, g2 (s - 2 ^ y) (by omega)]
            · unfold f_Mod_waysBy_L214
              simp (disch := omega) only [fl, fmN, mm_lt, Nat.reduceAdd, Option.bind_some, lt_t, lt_f, le_t, le_f, eq_f, eq_self, nI_add, nI_mul, nI_sub, ↓reduceIte, zq_171, ld_nI, w171, iv_n hv, en, Int32.le_refl, if_true]
          refine ⟨(nI (2 ^ n - 1) - nI (i + 1), kI w 184 s (WW n (fbx S h x) (k + 1) s)), ?_, rfl, fun j hj => ?_, fun j hj hj2 => ?_, fun q' g => ?_, g5⟩
          · unfold f_Mod_waysBy_L203
            rw [dn_sub (by omega : i ≤ 2 ^ n - 1), es]
            simp (disch := omega) only [fl, fmN, mm_lt, Nat.reduceAdd, Option.bind_some, lt_t, lt_f, le_t, le_f, eq_f, eq_self, nI_add, nI_mul, nI_sub, ↓reduceIte, L214, zq_184, st_nI]
            rw [← es, dn_stepS (by omega)]
          · show (kI w 184 s _).1 184 j = _
            rw [kI_at, if_neg (by omega)]; exact g2 j (by omega)
          · show (kI w 184 s _).1 184 j = _
            rw [kI_at]
            by_cases e : j = s
            · rw [if_pos e, e]
            · rw [if_neg e]; exact g3 j hj (by omega)
          · show (kI w 184 s _).1 q' = _
            rw [kI_o _ _ _ _ g]; exact g4 q' g
        · obtain ⟨c, w⟩ := t
          obtain ⟨g1, g2, g3, g4, g5⟩ := hI
          dsimp only at g1 g2 g3 g4 g5
          subst g1
          refine ⟨w, ?_, fun s hs => g3 s hs (by omega), g4, g5⟩
          unfold f_Mod_waysBy_L203
          refine if_pos (show nI (2 ^ n - 1) - nI (2 ^ n) < 0 from ?_)
          obtain ⟨N, hN⟩ : ∃ N, 2 ^ n = N + 1 := ⟨2 ^ n - 1, by omega⟩
          rw [hN, Nat.add_sub_cancel, ← dn_step, Int32.sub_self]
          decide
      obtain ⟨m, e, r1, r2, r3⟩ := L203
      refine ⟨(nI (k + 1), m), ?_, rfl, r1, r2, r3⟩
      have q171 : q.1 171 = S := by rw [h3 171 (by decide)]; exact eS
      unfold f_Mod_waysBy_L187
      simp (disch := omega) only [fl, fmN, mm_lt, Nat.reduceAdd, Option.bind_some, lt_t, lt_f, le_t, le_f, eq_f, eq_self, nI_add, nI_mul, nI_sub, ↓reduceIte, zq_171, ld_nI, q171, iv_m hv, e]
    · obtain ⟨c, q⟩ := t
      obtain ⟨h1, h2, h3, h4⟩ := hI
      dsimp only at h1 h2 h3 h4
      subst h1
      have q171 : q.1 171 = S := by rw [h3 171 (by decide)]; exact eS
      refine ⟨q, ?_, h2, h3, h4⟩
      unfold f_Mod_waysBy_L187
      simp (disch := omega) only [fl, fmN, mm_lt, Nat.reduceAdd, Option.bind_some, lt_t, lt_f, le_t, le_f, eq_f, eq_self, nI_add, nI_mul, nI_sub, ↓reduceIte, zq_171, ld_nI, q171, iv_m hv]
  obtain ⟨c, ec, c1, c2, c3⟩ := L187
  refine ⟨c, ?_, fun q g1 g2 => (c2 q g1).trans (a2 q g2), c3.trans a3⟩
  have L304 : mm_lp (f_Mod_waysBy_L304 z_Law c 169 (nI (2 ^ n))) (nI 0, nI 0) = some (dl S h x) := by
    unfold dl
    rw [en]
    refine lp_fo0 (fun s a => a + WW n (fbx S h x) (sm S) s) (2 ^ n) (fun s v hs9 => ?_) (fun v => ?_)
    · unfold f_Mod_waysBy_L304
      simp (disch := omega) only [fl, fmN, mm_lt, Nat.reduceAdd, Option.bind_some, lt_t, lt_f, le_t, le_f, eq_f, eq_self, nI_add, nI_mul, nI_sub, ↓reduceIte, zq_184, ld_nI, c1 s hs9]
    · unfold f_Mod_waysBy_L304
      simp only [fl, fmN, mm_lt, Nat.reduceAdd, Option.bind_some, lt_t, lt_f, le_t, le_f, eq_f, eq_self, nI_add, nI_mul, nI_sub, ↓reduceIte, Int32.le_refl, if_true]
  unfold f_Mod_waysBy
  simp only [fl]
  rw [ea]
  simp (disch := omega) only [fl, fmN, mm_lt, Nat.reduceAdd, Option.bind_some, lt_t, lt_f, le_t, le_f, eq_f, eq_self, nI_add, nI_mul, nI_sub, ↓reduceIte, zq_171, ld_nI, eS, iv_n hv, en, pow_sh n (by omega), eb, ec, L304]
end DEAL3
