/-! class and reference, side by side over a text -/
section ATS
variable {M0 U0 a b m u : Mm} {t : Nat → Nat} {sz lim κ v ap np : Nat} {l : List Nat}
def Tp (M0 U0 : Mm) (t : Nat → Nat) (sz lim : Nat) : Prop := (∀ i, i < sz → M0.1 4 i = nI (t i)) ∧ (∀ i, i < sz → U0.1 170 i &&& 255 = nI (t i)) ∧ (∀ i, i < sz → t i < 256) ∧ sz ≤ 940 ∧ lim ≤ 940 ∧ ∀ k, k < 17 → U0.2 175 k = lN (resv.getD k 0)
/-- what reading leaves alone -/
def FC (M0 m : Mm) : Prop := (∀ q, q ≠ 1 → q ≠ 2 → (q < 5 ∨ 40 ≤ q) → m.1 q = M0.1 q) ∧ ∀ q, q ≠ 2 → (q < 5 ∨ 40 ≤ q) → m.2 q = M0.2 q
def FU (U0 u : Mm) : Prop := (∀ q, q ≠ 169 → q ≠ 172 → q ≠ 173 → u.1 q = U0.1 q) ∧ (∀ q, q ≠ 169 → q ≠ 174 → u.2 q = U0.2 q) ∧ (∀ k, k = 0 ∨ k = 2 ∨ k = 26 ∨ k = 32 ∨ k = 35 → u.1 169 k = U0.1 169 k) ∧ ∀ i, i < 18 → u.2 174 i = U0.2 174 i
def EC (a m : Mm) : Prop := (∀ q, q ≠ 1 → q ≠ 2 → m.1 q = a.1 q) ∧ (∀ q, q ≠ 2 → m.2 q = a.2 q) ∧ ∀ k, k = 2 ∨ k = 3 ∨ k = 6 ∨ k = 7 ∨ k = 8 → m.1 1 k = a.1 1 k
def EU (b u : Mm) : Prop := (∀ q, q ≠ 169 → u.1 q = b.1 q ∧ u.2 q = b.2 q) ∧ ∀ k, k = 15 ∨ k = 19 ∨ k = 20 ∨ k = 21 ∨ k = 22 ∨ k = 29 → u.1 169 k = b.1 169 k
def Sz (sz lim : Nat) (m u : Mm) : Prop := m.1 2 1 = nI sz ∧ m.1 2 2 = nI lim ∧ u.1 169 3 = nI sz ∧ u.1 169 5 = nI lim
def Wd (M0 U0 : Mm) (sz lim : Nat) (a b m u : Mm) : Prop := FC M0 m ∧ FU U0 u ∧ EC a m ∧ EU b u ∧ Sz sz lim m u
def Tk (sz κ : Nat) (l : List Nat) (v ap np : Nat) (m u : Mm) : Prop := CT m κ l v ap np ∧ MT u κ l v ap np ∧ κ ≤ 4 ∧ (κ = 1 → okl l) ∧ (κ = 2 → v < 100) ∧ ap ≤ 940 ∧ (κ = 1 ∨ κ = 2 ∨ κ = 3 → np ≤ sz)
def At (M0 U0 : Mm) (sz lim : Nat) (a b m u : Mm) (κ : Nat) (l : List Nat) (v ap np : Nat) : Prop := Wd M0 U0 sz lim a b m u ∧ Tk sz κ l v ap np m u
theorem FC_on {m' : Mm} (h : FC M0 m) (ho : onC m m') : FC M0 m' := ⟨fun q q1 q2 q3 => (ho.1 q q2).1.trans (h.1 q q1 q2 q3), fun q q2 q3 => (ho.1 q q2).2.trans (h.2 q q2 q3)⟩
theorem FU_on {u' : Mm} (h : FU U0 u) (ho : onM u u') : FU U0 u' := ⟨fun q q1 q2 q3 => (ho.1 q q1).1.trans (h.1 q q1 q2 q3), fun q q1 q2 => (ho.1 q q1).2.trans (h.2.1 q q1 q2), fun k hk => (ho.2 k (by omega) (by omega) (by omega) (by omega) (by omega)).trans (h.2.2.1 k hk), fun i hi => by rw [(ho.1 174 (by decide)).2]; exact h.2.2.2 i hi⟩
theorem Wd_on {m' u' : Mm} (h : Wd M0 U0 sz lim a b m u) (hc : onC m m') (hu : onM u u') : Wd M0 U0 sz lim a b m' u' := by
  obtain ⟨h1, h2, h3, h4, h5⟩ := h
  refine ⟨FC_on h1 hc, FU_on h2 hu, ⟨fun q q1 q2 => (hc.1 q q2).1.trans (h3.1 q q1 q2), fun q q2 => (hc.1 q q2).2.trans (h3.2.1 q q2), fun k hk => by rw [(hc.1 1 (by decide)).1]; exact h3.2.2 k hk⟩, ⟨fun q q1 => ⟨(hu.1 q q1).1.trans (h4.1 q q1).1, (hu.1 q q1).2.trans (h4.1 q q1).2⟩, fun k hk => (hu.2 k (by omega) (by omega) (by omega) (by omega) (by omega)).trans (h4.2 k hk)⟩, hc.2.1.trans h5.1, hc.2.2.trans h5.2.1, (hu.2 3 (by decide) (by decide) (by decide) (by decide) (by decide)).trans h5.2.2.1, (hu.2 5 (by decide) (by decide) (by decide) (by decide) (by decide)).trans h5.2.2.2⟩
/-- one TOKEN on, both -/
theorem wd_step (hT : Tp M0 U0 t sz lim) (h : Wd M0 U0 sz lim a b m u) {p : Nat} (h3 : m.1 2 3 = nI p) (h4 : u.1 169 4 = nI p) (hp : p ≤ sz) : ∃ m' u' κ l v ap np, f_Tokens_step z_Law m 2 = some m' ∧ f_Mod_next z_Law u 169 = some u' ∧ At M0 U0 sz lim a b m' u' κ l v ap np ∧ (κ = 1 ∨ κ = 2 ∨ κ = 3 → p < np) ∧ onC m m' ∧ onM u u' := by
  obtain ⟨t1, t2, t3, t4, t5, t6⟩ := hT
  have hc : ctp2 t sz lim m := ⟨h.2.2.2.2.1, h.2.2.2.2.2.1, fun i hi => by rw [h.1.1 4 (by decide) (by decide) (by decide)]; exact t1 i hi⟩
  have hm : mtp2 t sz lim u := ⟨h.2.2.2.2.2.2.1, h.2.2.2.2.2.2.2, fun i hi => by rw [h.2.1.1 170 (by decide) (by decide) (by decide)]; exact t2 i hi⟩
  have hmin : min sz lim ≤ sz := Nat.min_le_left _ _
  by_cases hA : skp t (min sz lim) p < min sz lim
  · obtain ⟨κ, hκ⟩ := kOf_ex (t := t) (sz := sz) (q := skp t (min sz lim) p)
    obtain ⟨m', a1, a2, a3⟩ := hat_A hc t3 t4 t5 h3 hp rfl hA hκ
    obtain ⟨u', b1, b2, b3⟩ := md_A hm t3 t4 t5 h4 hp rfl hA hκ
    have hge := skp_ge (t := t) (q := min sz lim) (p := p)
    have hle := rln_le (t := t) (sz := sz) (q := skp t (min sz lim) p)
    refine ⟨m', u', κ, _, _, _, _, a1, b1, ⟨Wd_on h a2 b2, a3, b3, ?_, ?_, ?_, ?_, ?_⟩, ?_, a2, b2⟩
    · rcases hκ with ⟨_, h | h⟩ | ⟨_, h | h | h⟩
      · omega
      · omega
      · omega
      · omega
      · omega
    · intro h1
      rcases hκ with ⟨_, h | h⟩ | ⟨_, h | h | h⟩
      · omega
      · omega
      · exact rlt_ok h.1 h.2.1
      · omega
      · omega
    · intro h1
      rcases hκ with ⟨_, h | h⟩ | ⟨_, h | h | h⟩
      · omega
      · omega
      · omega
      · exact nbd_99 h.1 h.2.1
      · omega
    · omega
    · intro _; unfold npO; split <;> omega
    · intro _; unfold npO; split <;> omega
  · obtain ⟨m', a1, a2, a3⟩ := hat_B hc t3 t4 t5 h3 hp (by omega)
    obtain ⟨u', b1, b2, b3⟩ := md_B hm t3 t4 t5 h4 hp (by omega)
    refine ⟨m', u', _, _, _, _, _, a1, b1, ⟨Wd_on h a2 b2, a3, b3, ?_, ?_, ?_, ?_, ?_⟩, ?_, a2, b2⟩
    · split <;> omega
    · intro h; split at h <;> omega
    · intro h; split at h <;> omega
    · omega
    · intro h; split at h <;> omega
    · intro h; split at h <;> omega
theorem at_step (hT : Tp M0 U0 t sz lim) (h : At M0 U0 sz lim a b m u κ l v ap np) (hκ : κ = 1 ∨ κ = 2 ∨ κ = 3) : ∃ m' u' κ' l' v' ap' np', f_Tokens_step z_Law m 2 = some m' ∧ f_Mod_next z_Law u 169 = some u' ∧ At M0 U0 sz lim a b m' u' κ' l' v' ap' np' ∧ (κ' = 1 ∨ κ' = 2 ∨ κ' = 3 → np < np') ∧ onC m m' ∧ onM u u' :=
  wd_step hT h.1 (h.2.1.2.2.2.2.2 hκ) (h.2.2.1.2.2.2.2.2 hκ) (h.2.2.2.2.2.2.2 hκ)
/-! writes -/
theorem CT_c {m' : Mm} (h : CT m κ l v ap np) (e1 : m'.1 2 = m.1 2) (e2 : m'.2 2 = m.2 2) : CT m' κ l v ap np := by
  unfold CT; rw [e1, e2]; exact h
theorem MT_c {u' : Mm} (h : MT u κ l v ap np) (e1 : ∀ k, k = 4 ∨ k = 11 ∨ k = 12 ∨ k = 14 → u'.1 169 k = u.1 169 k) (e2 : u'.2 169 = u.2 169) : MT u' κ l v ap np := by
  unfold MT; rw [e1 11 (by decide), e1 12 (by decide), e1 14 (by decide), e1 4 (by decide), e2]; exact h
theorem ac_I (h : At M0 U0 sz lim a b m u κ l v ap np) {q k : Nat} {x : Int32} (h5 : 5 ≤ q ∧ q < 40) : At M0 U0 sz lim (kI a q k x) b (kI m q k x) u κ l v ap np := by
  obtain ⟨⟨h1, h2, h3, h4, s1, s2, s3, s4⟩, c1, c2⟩ := h
  refine ⟨⟨⟨fun o o1 o2 o3 => ?_, h1.2⟩, h2, ⟨fun o o1 o2 => ?_, h3.2.1, fun j hj => ?_⟩, h4, ?_, ?_, s3, s4⟩, CT_c c1 (kI_o _ _ _ _ (by omega)) rfl, c2⟩
  · rw [kI_o _ _ _ _ (by omega)]; exact h1.1 o o1 o2 o3
  · by_cases g : o = q
    · subst g; funext j; rw [kI_at, kI_at, h3.1 o o1 o2]
    · rw [kI_o _ _ _ _ g, kI_o _ _ _ _ g]; exact h3.1 o o1 o2
  · rw [kI_o _ _ _ _ (by omega), kI_o _ _ _ _ (by omega)]; exact h3.2.2 j hj
  · rw [kI_o _ _ _ _ (by omega)]; exact s1
  · rw [kI_o _ _ _ _ (by omega)]; exact s2
theorem ac_L (h : At M0 U0 sz lim a b m u κ l v ap np) {q k : Nat} {x : Int64} (h5 : 5 ≤ q ∧ q < 40) : At M0 U0 sz lim (kL a q k x) b (kL m q k x) u κ l v ap np := by
  obtain ⟨⟨h1, h2, h3, h4, s1, s2, s3, s4⟩, c1, c2⟩ := h
  refine ⟨⟨⟨h1.1, fun o o2 o3 => ?_⟩, h2, ⟨h3.1, fun o o2 => ?_, h3.2.2⟩, h4, s1, s2, s3, s4⟩, CT_c c1 rfl (kL_o _ _ _ _ (by omega)), c2⟩
  · rw [kL_o _ _ _ _ (by omega)]; exact h1.2 o o2 o3
  · by_cases g : o = q
    · subst g; funext j; rw [kL_at, kL_at, h3.2.1 o o2]
    · rw [kL_o _ _ _ _ g, kL_o _ _ _ _ g]; exact h3.2.1 o o2
theorem ac_f (h : At M0 U0 sz lim a b m u κ l v ap np) {k : Nat} {x : Int32} : At M0 U0 sz lim (kI a 1 k x) b (kI m 1 k x) u κ l v ap np := by
  obtain ⟨⟨h1, h2, h3, h4, s1, s2, s3, s4⟩, c1, c2⟩ := h
  refine ⟨⟨⟨fun o o1 o2 o3 => ?_, h1.2⟩, h2, ⟨fun o o1 o2 => ?_, h3.2.1, fun j hj => ?_⟩, h4, s1, s2, s3, s4⟩, CT_c c1 rfl rfl, c2⟩
  · rw [kI_o _ _ _ _ o1]; exact h1.1 o o1 o2 o3
  · rw [kI_o _ _ _ _ o1, kI_o _ _ _ _ o1]; exact h3.1 o o1 o2
  · rw [kI_at, kI_at, h3.2.2 j hj]
theorem ac_5 (h : At M0 U0 sz lim a b m u κ l v ap np) {k : Nat} {x : Int32} (hk : k = 4 ∨ k = 5) : At M0 U0 sz lim a b (kI m 1 k x) u κ l v ap np := by
  obtain ⟨⟨h1, h2, h3, h4, s1, s2, s3, s4⟩, c1, c2⟩ := h
  refine ⟨⟨⟨fun o o1 o2 o3 => ?_, h1.2⟩, h2, ⟨fun o o1 o2 => ?_, h3.2.1, fun j hj => ?_⟩, h4, s1, s2, s3, s4⟩, CT_c c1 rfl rfl, c2⟩
  · rw [kI_o _ _ _ _ o1]; exact h1.1 o o1 o2 o3
  · rw [kI_o _ _ _ _ o1]; exact h3.1 o o1 o2
  · rw [kI_f (by omega)]; exact h3.2.2 j hj
theorem au_I (h : At M0 U0 sz lim a b m u κ l v ap np) {q k : Nat} {x : Int32} (hq : q = 172 ∨ q = 173) : At M0 U0 sz lim a (kI b q k x) m (kI u q k x) κ l v ap np := by
  obtain ⟨⟨h1, h2, h3, h4, s1, s2, s3, s4⟩, c1, c2, c3⟩ := h
  refine ⟨⟨h1, ⟨fun o o1 o2 o3 => ?_, h2.2.1, fun j hj => ?_, h2.2.2.2⟩, h3, ⟨fun o o1 => ⟨?_, (h4.1 o o1).2⟩, fun j hj => ?_⟩, s1, s2, ?_, ?_⟩, c1, MT_c c2 (fun j _ => by rw [kI_o _ _ _ _ (by omega)]) rfl, c3⟩
  · rw [kI_o _ _ _ _ (by omega)]; exact h2.1 o o1 o2 o3
  · rw [kI_o _ _ _ _ (by omega)]; exact h2.2.2.1 j hj
  · by_cases g : o = q
    · subst g; funext j; rw [kI_at, kI_at, (h4.1 o o1).1]
    · rw [kI_o _ _ _ _ g, kI_o _ _ _ _ g]; exact (h4.1 o o1).1
  · rw [kI_o _ _ _ _ (by omega), kI_o _ _ _ _ (by omega)]; exact h4.2 j hj
  · rw [kI_o _ _ _ _ (by omega)]; exact s3
  · rw [kI_o _ _ _ _ (by omega)]; exact s4
theorem au_L (h : At M0 U0 sz lim a b m u κ l v ap np) {k : Nat} {x : Int64} (hk : 18 ≤ k) : At M0 U0 sz lim a (kL b 174 k x) m (kL u 174 k x) κ l v ap np := by
  obtain ⟨⟨h1, h2, h3, h4, s1, s2, s3, s4⟩, c1, c2, c3⟩ := h
  refine ⟨⟨h1, ⟨h2.1, fun o o1 o2 => ?_, h2.2.2.1, fun i hi => ?_⟩, h3, ⟨fun o o1 => ⟨(h4.1 o o1).1, ?_⟩, h4.2⟩, s1, s2, s3, s4⟩, c1, MT_c c2 (fun _ _ => rfl) (kL_o _ _ _ _ (by decide)), c3⟩
  · rw [kL_o _ _ _ _ o2]; exact h2.2.1 o o1 o2
  · rw [kL_at, if_neg (by omega)]; exact h2.2.2.2 i hi
  · by_cases g : o = 174
    · subst g; funext j; rw [kL_at, kL_at, (h4.1 174 o1).2]
    · rw [kL_o _ _ _ _ g, kL_o _ _ _ _ g]; exact (h4.1 o o1).2
theorem au_f (h : At M0 U0 sz lim a b m u κ l v ap np) {k : Nat} {x : Int32} (hk : k = 19 ∨ k = 20 ∨ k = 21 ∨ k = 22 ∨ k = 29) : At M0 U0 sz lim a (kI b 169 k x) m (kI u 169 k x) κ l v ap np := by
  obtain ⟨⟨h1, h2, h3, h4, s1, s2, s3, s4⟩, c1, c2, c3⟩ := h
  refine ⟨⟨h1, ⟨fun o o1 o2 o3 => ?_, h2.2.1, fun j hj => ?_, h2.2.2.2⟩, h3, ⟨fun o o1 => ⟨?_, (h4.1 o o1).2⟩, fun j hj => ?_⟩, s1, s2, ?_, ?_⟩, c1, MT_c c2 (fun j hj => kI_f (by omega)) rfl, c3⟩
  · rw [kI_o _ _ _ _ o1]; exact h2.1 o o1 o2 o3
  · rw [kI_f (by omega)]; exact h2.2.2.1 j hj
  · rw [kI_o _ _ _ _ o1, kI_o _ _ _ _ o1]; exact (h4.1 o o1).1
  · rw [kI_at, kI_at, h4.2 j hj]
  · rw [kI_f (by omega)]; exact s3
  · rw [kI_f (by omega)]; exact s4
theorem au_g (h : At M0 U0 sz lim a b m u κ l v ap np) {k : Nat} {x : Int32} (hk : k = 16 ∨ k = 18) : At M0 U0 sz lim a b m (kI u 169 k x) κ l v ap np := by
  obtain ⟨⟨h1, h2, h3, h4, s1, s2, s3, s4⟩, c1, c2, c3⟩ := h
  refine ⟨⟨h1, ⟨fun o o1 o2 o3 => ?_, h2.2.1, fun j hj => ?_, h2.2.2.2⟩, h3, ⟨fun o o1 => ⟨?_, (h4.1 o o1).2⟩, fun j hj => ?_⟩, s1, s2, ?_, ?_⟩, c1, MT_c c2 (fun j hj => kI_f (by omega)) rfl, c3⟩
  · rw [kI_o _ _ _ _ o1]; exact h2.1 o o1 o2 o3
  · rw [kI_f (by omega)]; exact h2.2.2.1 j hj
  · rw [kI_o _ _ _ _ o1]; exact (h4.1 o o1).1
  · rw [kI_f (by omega)]; exact h4.2 j hj
  · rw [kI_f (by omega)]; exact s3
  · rw [kI_f (by omega)]; exact s4
/-! faults -/
def cbad (m : Mm) (k ap : Nat) : Mm := kI (kI m 1 3 (nI k)) 1 4 (nI ap)
def ubad (u : Mm) (k ap : Nat) : Mm := kI (kI u 169 15 (nI k)) 169 16 (nI ap)
def FL (M0 U0 m u : Mm) : Prop := ∃ k a, 1 ≤ k ∧ k ≤ 4 ∧ a ≤ 940 ∧ m.1 1 3 = nI k ∧ m.1 1 4 = nI a ∧ u.1 169 15 = nI k ∧ u.1 169 16 = nI a ∧ FC M0 m ∧ FU U0 u
def Sm (M0 U0 : Mm) (R : Mm → Mm → Prop) (x y : Option (Int32 × Mm)) : Prop := ∃ r m u, x = some (r, m) ∧ y = some (r, u) ∧ ((r = nI 1 ∧ R m u) ∨ (r = nI 0 ∧ FL M0 U0 m u))
theorem FC_bad (h : FC M0 m) {k ap : Nat} : FC M0 (cbad m k ap) := ⟨fun q q1 q2 q3 => by unfold cbad; rw [kI_o _ _ _ _ q1, kI_o _ _ _ _ q1]; exact h.1 q q1 q2 q3, h.2⟩
theorem FU_bad (h : FU U0 u) {k ap : Nat} : FU U0 (ubad u k ap) := ⟨fun q q1 q2 q3 => by unfold ubad; rw [kI_o _ _ _ _ q1, kI_o _ _ _ _ q1]; exact h.1 q q1 q2 q3, h.2.1, fun k hk => by unfold ubad; rw [kI_f (by omega), kI_f (by omega)]; exact h.2.2.1 k hk, h.2.2.2⟩
theorem fl_bad (h : At M0 U0 sz lim a b m u κ l v ap np) {k : Nat} (hk : 1 ≤ k ∧ k ≤ 4) : FL M0 U0 (cbad m k ap) (ubad u k ap) := by
  refine ⟨k, ap, hk.1, hk.2, h.2.2.2.2.2.2.1, ?_, kI_e, ?_, kI_e, FC_bad h.1.1, FU_bad h.1.2.1⟩
  · unfold cbad; rw [kI_f (by decide), kI_e]
  · unfold ubad; rw [kI_f (by decide), kI_e]
theorem sm_bad {R : Mm → Mm → Prop} (h : At M0 U0 sz lim a b m u κ l v ap np) {k : Nat} (hk : 1 ≤ k ∧ k ≤ 4) {x y : Option (Int32 × Mm)} (hx : x = some (nI 0, cbad m k ap)) (hy : y = some (nI 0, ubad u k ap)) : Sm M0 U0 R x y :=
  ⟨nI 0, _, _, hx, hy, Or.inr ⟨rfl, fl_bad h hk⟩⟩
theorem sm_ok {R : Mm → Mm → Prop} {x y : Option (Int32 × Mm)} (hx : x = some (nI 1, m)) (hy : y = some (nI 1, u)) (h : R m u) : Sm M0 U0 R x y := ⟨nI 1, m, u, hx, hy, Or.inl ⟨rfl, h⟩⟩
/-! what both ask of a TOKEN -/
theorem c_fail (h : At M0 U0 sz lim a b m u κ l v ap np) {k : Nat} : f_Reader_fail z_Law m 1 (nI k) = some (nI 0, cbad m k ap) := by
  have e : (kI m 1 3 (nI k)).1 2 5 = nI ap := (congrFun (kI_o _ _ _ _ (by decide)) 5).trans h.2.1.2.1
  unfold f_Reader_fail cbad
  simp only [fl, mm_lt, Nat.reduceAdd, e]
theorem u_bad (h : At M0 U0 sz lim a b m u κ l v ap np) {k : Nat} : f_Mod_bad z_Law u 169 (nI k) = some (nI 0, ubad u k ap) := by
  have e : (kI u 169 15 (nI k)).1 169 12 = nI ap := (kI_f (by decide)).trans h.2.2.1.2.1
  unfold f_Mod_bad ubad
  simp only [fl, mm_lt, e]
theorem c_word (h : At M0 U0 sz lim a b m u κ l v ap np) : m.1 2 8 = (if κ = 1 then rwd l else mN) := h.2.1.2.2.1
theorem c_isW (h : At M0 U0 sz lim a b m u κ l v ap np) {j : Nat} : f_Tokens_isWord z_Law m 2 (nI j) = some (if κ = 1 ∧ rwd l = nI j then nI 1 else nI 0) := by
  have h4 := h.2.2.2.1
  unfold f_Tokens_isWord
  simp only [fl, c_word h, h.2.1.1]
  by_cases g : κ = 1
  · subst g; simp only [↓reduceIte, true_and]; split <;> rfl
  · simp (disch := omega) only [eq_f, g, false_and, ↓reduceIte]
theorem u_isW (h : At M0 U0 sz lim a b m u κ l v ap np) {j c : Nat} (hj : j < 17) (hc : c = e256 (wdl j)) : f_Mod_isWord z_Law u 169 (lN c) = some (if κ = 1 ∧ rwd l = nI j then nI 1 else nI 0) :=
  md_isW (by have := h.2.2.2.1; omega) h.2.2.1.1 hj hc (fun g => ⟨h.2.2.2.2.1 g, h.2.2.1.2.2.1 g⟩)
theorem u_isN (hT : Tp M0 U0 t sz lim) (h : At M0 U0 sz lim a b m u κ l v ap np) : f_Mod_isName z_Law u 169 = some (if κ = 1 ∧ rwd l = mN then nI 1 else nI 0) :=
  md_isN (by have := h.2.2.2.1; omega) (fun k hk => by rw [h.1.2.1.2.1 175 (by decide) (by decide)]; exact hT.2.2.2.2.2 k hk) h.2.2.1.1 (fun g => ⟨h.2.2.2.2.1 g, h.2.2.1.2.2.1 g⟩)
theorem c_isN (h : At M0 U0 sz lim a b m u κ l v ap np) : f_Reader_isName z_Law m 1 = some (if κ = 1 ∧ rwd l = mN then (nI 1, m) else (nI 0, cbad m 1 ap)) := by
  have h4 := h.2.2.2.1
  unfold f_Reader_isName f_Reader_isName_J22
  simp only [fl, fmN, Nat.reduceAdd, c_word h, h.2.1.1, c_fail h, Option.bind_some, ↓reduceIte]
  by_cases g : κ = 1
  · subst g; simp only [↓reduceIte, true_and]; split <;> rfl
  · simp (disch := omega) only [eq_f, g, false_and, ↓reduceIte]
theorem c_isNum (h : At M0 U0 sz lim a b m u κ l v ap np) {lo hi : Nat} (hlo : lo ≤ 1) (hhi : hi ≤ 99) : f_Reader_isNumber z_Law m 1 (nI lo) (nI hi) = some (if κ = 2 then (if lo ≤ v ∧ v ≤ hi then (nI 1, m) else (nI 0, cbad m 2 ap)) else (nI 0, cbad m 1 ap)) := by
  have h4 := h.2.2.2.1
  unfold f_Reader_isNumber f_Reader_isNumber_J39
  simp only [fl, Nat.reduceAdd, h.2.1.1, c_fail h, Option.bind_some, ↓reduceIte, zb_0]
  by_cases g : κ = 2
  · have hv := h.2.2.2.2.2.1 g
    have e6 := h.2.1.2.2.2.2.1 g
    subst g
    simp only [↓reduceIte, e6]
    by_cases g1 : lo ≤ v
    · by_cases g2 : v ≤ hi
      · simp (disch := omega) only [lt_f, le_t, ↓reduceIte, if_pos (And.intro g1 g2)]
      · simp (disch := omega) only [lt_f, le_f, ↓reduceIte, if_neg (fun q : lo ≤ v ∧ v ≤ hi => g2 q.2)]
    · simp (disch := omega) only [lt_t, ↓reduceIte, if_neg (fun q : lo ≤ v ∧ v ≤ hi => g1 q.1)]
  · simp (disch := omega) only [eq_f, g, ↓reduceIte]
theorem u_takes (h : At M0 U0 sz lim a b m u κ l v ap np) {lo hi : Nat} (hlo : lo ≤ 1) (hhi : hi ≤ 99) : f_Mod_takes z_Law u 169 (nI lo) (nI hi) = if κ = 2 then (if lo ≤ v ∧ v ≤ hi then (f_Mod_next z_Law (kI u 169 18 (nI v)) 169).bind (fun q => some (nI 1, q)) else some (nI 0, ubad u 2 ap)) else some (nI 0, ubad u 1 ap) := by
  have h4 := h.2.2.2.1
  unfold f_Mod_takes
  simp only [fl, h.2.2.1.1, u_bad h, Option.bind_some, zb_0, mm_lt]
  by_cases g : κ = 2
  · have hv := h.2.2.2.2.2.1 g
    have e6 := h.2.2.1.2.2.2.1 g
    subst g
    simp only [↓reduceIte, e6]
    by_cases g1 : lo ≤ v
    · by_cases g2 : v ≤ hi
      · simp (disch := omega) only [md_isIn rfl g1 g2, Option.bind_some, eq_f, ↓reduceIte, if_pos (And.intro g1 g2)]
      · rw [md_isnt (Or.inr (nI_lt (by omega) (by omega)))]
        simp only [Option.bind_some, ↓reduceIte, if_neg (fun q : lo ≤ v ∧ v ≤ hi => g2 q.2)]
    · rw [md_isnt (Or.inl (nI_lt (by omega) (by omega)))]
      simp only [Option.bind_some, ↓reduceIte, if_neg (fun q : lo ≤ v ∧ v ≤ hi => g1 q.1)]
  · simp (disch := omega) only [eq_f, g, ↓reduceIte]
/-- the number that a word has among some, NONE without -/
def pnm (N : Nat → Int64) (l : List Nat) (k : Nat) : Bool := decide (N k = lN (e256 l))
theorem c_find (h : At M0 U0 sz lim a b m u κ l v ap np) (hκ : κ = 1) {o n r : Nat} {N : Nat → Int64} (ho : z_Law (o + 1) = r) (hr : r ≤ 10) (hn : n ≤ r) (h1 : m.1 o 1 = nI n) (hN : ∀ k, k < n → WR (N k) (m.2 (o + 1) k)) : f_Names_find z_Law m o (m.2 2 7) = some (fd (pnm N l) n) := by
  have hl := h.2.2.2.2.1 hκ
  unfold f_Names_find
  rw [show (0 : Int32) = nI 0 from fl 0, show (-1 : Int32) = mN from fmN']
  refine lp_fd (pnm N l) n (fun i hi hp => ?_) (fun i hi hp => ?_) ?_
  · obtain ⟨l', w1, w2, w3, w4⟩ := hN i hi
    have hl' : okl l' := ⟨w1, w2⟩
    unfold pnm at hp
    rw [w3] at hp
    have hne := of_decide_eq_false hp
    rw [l256_eq hl' hl] at hne
    unfold f_Names_find_L2
    simp (disch := omega) only [fl, mm_lt, h1, ho, le_f, ↓reduceIte, ldL_nI, Option.bind_some, w4, h.2.1.2.2.2.1 hκ, lg_eq0, l128_eq hl' hl, if_neg hne, nI_add]
  · obtain ⟨l', w1, w2, w3, w4⟩ := hN i hi
    have hl' : okl l' := ⟨w1, w2⟩
    unfold pnm at hp
    rw [w3] at hp
    have he := of_decide_eq_true hp
    rw [l256_eq hl' hl] at he
    unfold f_Names_find_L2
    simp (disch := omega) only [fl, mm_lt, h1, ho, le_f, ↓reduceIte, ldL_nI, Option.bind_some, w4, h.2.1.2.2.2.1 hκ, lg_eq0, l128_eq hl' hl, if_pos he]
  · unfold f_Names_find_L2
    simp (disch := omega) only [fl, h1, le_t, ↓reduceIte]
theorem u_find (h : At M0 U0 sz lim a b m u κ l v ap np) (hκ : κ = 1) {f n : Nat} (hf : f + n ≤ 36) : f_Mod_find z_Law u 169 (nI f) (nI n) = some (fd (pnm (fun k => u.2 174 (f + k)) l) n) := by
  have z174 : z_Law 174 = 36 := rfl
  unfold f_Mod_find
  rw [show (0 : Int32) = nI 0 from fl 0, show (-1 : Int32) = mN from fmN']
  refine lp_fd _ n (fun i hi hp => ?_) (fun i hi hp => ?_) ?_
  · unfold pnm at hp
    have hne := of_decide_eq_false hp
    unfold f_Mod_find_L2
    simp (disch := omega) only [fl, mm_lt, le_f, ↓reduceIte, Nat.reduceAdd, z174, nI_add, ldL_nI, Option.bind_some, h.2.2.1.2.2.1 hκ, lg_eq0, if_neg hne]
  · unfold pnm at hp
    have he := of_decide_eq_true hp
    unfold f_Mod_find_L2
    simp (disch := omega) only [fl, mm_lt, le_f, ↓reduceIte, Nat.reduceAdd, z174, nI_add, ldL_nI, Option.bind_some, h.2.2.1.2.2.1 hκ, lg_eq0, if_pos he]
  · unfold f_Mod_find_L2
    simp (disch := omega) only [fl, le_t, ↓reduceIte]
theorem fd_hq {p : Nat → Bool} {n : Nat} : hq n (fd p n) := by
  rcases fd_cases p n with ⟨j, hj, h1, h2, e⟩ | ⟨h1, e⟩
  · rw [e]; exact Or.inr ⟨j, hj, rfl⟩
  · rw [e]; exact Or.inl rfl
end ATS
