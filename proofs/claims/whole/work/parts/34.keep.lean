/-! what keeps the relation -/
section KP
variable {σ m : Mm} {S : Nat → Int32} {N : Nat → Int64} {b i d : Nat}
theorem IR_c (h : IR σ i S) (e : ∀ j, j < 13 → m.1 (i + j) = σ.1 (i + j)) : IR m i S := by
  have e0 : m.1 i = σ.1 i := e 0 (by decide)
  unfold IR at h ⊢
  rw [e 1 (by decide), e 3 (by decide), e0, e 6 (by decide), e 8 (by decide), e 10 (by decide), e 12 (by decide)]
  exact h
theorem NR_c (h : NR σ i S N) (e : ∀ j, j < 13 → m.2 (i + j) = σ.2 (i + j)) : NR m i S N := by
  unfold NR at h ⊢
  rw [e 2 (by decide), e 4 (by decide)]
  exact h
theorem HR_c (h : HR σ d S) (e2 : m.1 (d + 2) = σ.1 (d + 2)) (e4 : m.1 (d + 4) = σ.1 (d + 4)) : HR m d S := by
  unfold HR at h ⊢
  rw [e2, e4]
  exact h
theorem SR_c (h : SR σ b S N) (e : ∀ j, j < 35 → m.1 (b + j) = σ.1 (b + j)) (e2 : ∀ j, j < 35 → m.2 (b + j) = σ.2 (b + j)) : SR m b S N := by
  have e0 : m.1 b = σ.1 b := e 0 (by decide)
  unfold SR at h ⊢
  refine ⟨IR_c h.1 (fun j hj => by rw [Nat.add_assoc]; exact e _ (by omega)), NR_c h.2.1 (fun j hj => by rw [Nat.add_assoc]; exact e2 _ (by omega)), HR_c h.2.2.1 (e 16 (by decide)) (e 18 (by decide)), ?_⟩
  rw [e0, e 24 (by decide), e 26 (by decide), e 28 (by decide), e 30 (by decide), e 32 (by decide), e 34 (by decide)]
  exact h.2.2.2
theorem cT_c (h : cT σ) (e1 : m.1 0 1 = σ.1 0 1) (e2 : m.1 4 = σ.1 4) (e3 : m.1 169 2 = σ.1 169 2) (e4 : m.1 170 = σ.1 170) : cT m := by
  unfold cT at h ⊢; rw [e1, e2, e3, e4]; exact h
theorem cR_c (h : cR σ) (e1 : m.1 40 1 = σ.1 40 1) (e2 : m.1 42 = σ.1 42) (e3 : m.1 169 26 = σ.1 169 26) (e4 : m.1 177 = σ.1 177) : cR m := by
  unfold cR at h ⊢; rw [e1, e2, e3, e4]; exact h
theorem cS_c (h : cS σ) (e1 : m.1 47 1 = σ.1 47 1) (e2 : m.1 49 = σ.1 49) (e3 : m.1 169 35 = σ.1 169 35) (e4 : m.1 183 = σ.1 183) : cS m := by
  unfold cS at h ⊢; rw [e1, e2, e3, e4]; exact h
theorem cW_c (h : cW σ) (e1 : m.1 0 6 = σ.1 0 6) (e2 : m.1 59 = σ.1 59) (e3 : m.1 169 32 = σ.1 169 32) (e4 : m.1 180 = σ.1 180) : cW m := by
  unfold cW at h ⊢; rw [e1, e2, e3, e4]; exact h
theorem cI_c (h : cI σ) (e1 : m.1 0 11 = σ.1 0 11) (e2 : m.1 0 12 = σ.1 0 12) (e3 : m.1 187 = σ.1 187) (e4 : m.2 188 = σ.2 188) (e5 : m.1 189 = σ.1 189) (ea : ∀ q, 95 ≤ q → q < 165 → m.1 q = σ.1 q) (eb : ∀ q, 95 ≤ q → q < 165 → m.2 q = σ.2 q) : cI m := by
  unfold cI at h ⊢
  rw [e1, e2, e3, e4, e5]
  refine ⟨h.1, h.2.1, fun q => ⟨SR_c (h.2.2.1 q).1 (fun j hj => ea _ (by omega) (by omega)) (fun j hj => eb _ (by omega) (by omega)), (h.2.2.1 q).2⟩, h.2.2.2.1, h.2.2.2.2.1, fun q => ⟨SR_c (h.2.2.2.2.2 q).1 (fun j hj => ea _ (by omega) (by omega)) (fun j hj => eb _ (by omega) (by omega)), (h.2.2.2.2.2 q).2⟩⟩
theorem cN_c (h : cN σ) (e : m.2 175 = σ.2 175) : cN m := by
  unfold cN at h ⊢; rw [e]; exact h
/-- the objects that the relation is of, whole -/
def rel (q : Nat) : Bool := q == 4 || q == 42 || q == 49 || q == 59 || (60 ≤ q && q < 165) || q == 170 || q == 171 || q == 174 || q == 175 || q == 177 || q == 180 || q == 183 || q == 187 || q == 188 || q == 189
/-- nothing of the relation is changed, but what A names -/
def kp (A : Nat → Bool) (σ m : Mm) : Prop := (∀ q, rel q = true → A q = false → m.1 q = σ.1 q ∧ m.2 q = σ.2 q) ∧ (∀ k, k = 1 ∨ k = 2 ∨ k = 6 ∨ k = 11 ∨ k = 12 → A (1000 + k) = false → m.1 0 k = σ.1 0 k) ∧ (A 1040 = false → m.1 40 1 = σ.1 40 1) ∧ (A 1047 = false → m.1 47 1 = σ.1 47 1) ∧ ∀ k, k = 2 ∨ k = 15 ∨ k = 26 ∨ k = 32 ∨ k = 35 → A (2000 + k) = false → m.1 169 k = σ.1 169 k
def no : Nat → Bool := fun _ => false
theorem kp_rf {A : Nat → Bool} : kp A σ σ := ⟨fun _ _ _ => ⟨rfl, rfl⟩, fun _ _ _ => rfl, fun _ => rfl, fun _ => rfl, fun _ _ _ => rfl⟩
theorem kp_tr {A : Nat → Bool} {u : Mm} (h : kp A σ m) (h' : kp A m u) : kp A σ u := ⟨fun q a b => ⟨(h'.1 q a b).1.trans (h.1 q a b).1, (h'.1 q a b).2.trans (h.1 q a b).2⟩, fun k a b => (h'.2.1 k a b).trans (h.2.1 k a b), fun b => (h'.2.2.1 b).trans (h.2.2.1 b), fun b => (h'.2.2.2.1 b).trans (h.2.2.2.1 b), fun k a b => (h'.2.2.2.2 k a b).trans (h.2.2.2.2 k a b)⟩
/-- objects of no weight -/
def nw (A : Nat → Bool) (q : Nat) : Bool := (!rel q || A q) && !(q == 0) && !(q == 40) && !(q == 47) && !(q == 169)
theorem kp_fr {A : Nat → Bool} {l : List Nat} (h : fr σ m l) (hl : ∀ q, q ∈ l → nw A q = true) : kp A σ m := by
  have h0 : ∀ q, nw A q = false → q ∉ l := fun q hq hm => by rw [hl q hm] at hq; cases hq
  refine ⟨fun q a b => ⟨h.1 q (h0 q (by simp [nw, a, b])), h.2 q (h0 q (by simp [nw, a, b]))⟩, fun k _ _ => by rw [h.1 0 (h0 0 (by simp [nw]))], fun _ => by rw [h.1 40 (h0 40 (by simp [nw]))], fun _ => by rw [h.1 47 (h0 47 (by simp [nw]))], fun k _ _ => by rw [h.1 169 (h0 169 (by simp [nw]))]⟩
/-- a slot of one of the four objects -/
theorem kp_s169 {A : Nat → Bool} {k : Nat} {v : Int32} (hk : k ≠ 2 ∧ k ≠ 15 ∧ k ≠ 26 ∧ k ≠ 32 ∧ k ≠ 35 ∨ A (2000 + k) = true) : kp A σ (kI σ 169 k v) := by
  refine ⟨fun q a b => ⟨kI_o _ _ _ _ (by intro e; subst e; revert a; decide), rfl⟩, fun k _ _ => by rw [kI_o _ _ _ _ (by decide)], fun _ => by rw [kI_o _ _ _ _ (by decide)], fun _ => by rw [kI_o _ _ _ _ (by decide)], fun j hj b => ?_⟩
  rw [kI_s]
  show (if j = k then v else σ.1 169 j) = σ.1 169 j
  rw [if_neg]
  intro e
  subst e
  rcases hk with hk | hk
  · omega
  · rw [b] at hk; cases hk
theorem kp_s0 {A : Nat → Bool} {k : Nat} {v : Int32} (hk : k ≠ 1 ∧ k ≠ 2 ∧ k ≠ 6 ∧ k ≠ 11 ∧ k ≠ 12 ∨ A (1000 + k) = true) : kp A σ (kI σ 0 k v) := by
  refine ⟨fun q a b => ⟨kI_o _ _ _ _ (by intro e; subst e; revert a; decide), rfl⟩, fun j hj b => ?_, fun _ => by rw [kI_o _ _ _ _ (by decide)], fun _ => by rw [kI_o _ _ _ _ (by decide)], fun j hj b => by rw [kI_o _ _ _ _ (by decide)]⟩
  rw [kI_s]
  show (if j = k then v else σ.1 0 j) = σ.1 0 j
  rw [if_neg]
  intro e
  subst e
  rcases hk with hk | hk
  · omega
  · rw [b] at hk; cases hk
theorem kp_s40 {A : Nat → Bool} {k : Nat} {v : Int32} (hk : k ≠ 1 ∨ A 1040 = true) : kp A σ (kI σ 40 k v) := by
  refine ⟨fun q a b => ⟨kI_o _ _ _ _ (by intro e; subst e; revert a; decide), rfl⟩, fun j hj b => by rw [kI_o _ _ _ _ (by decide)], fun b => ?_, fun _ => by rw [kI_o _ _ _ _ (by decide)], fun j hj b => by rw [kI_o _ _ _ _ (by decide)]⟩
  rw [kI_s]
  show (if 1 = k then v else σ.1 40 1) = σ.1 40 1
  rw [if_neg]
  intro e
  subst e
  rcases hk with hk | hk
  · omega
  · rw [b] at hk; cases hk
theorem kp_s47 {A : Nat → Bool} {k : Nat} {v : Int32} (hk : k ≠ 1 ∨ A 1047 = true) : kp A σ (kI σ 47 k v) := by
  refine ⟨fun q a b => ⟨kI_o _ _ _ _ (by intro e; subst e; revert a; decide), rfl⟩, fun j hj b => by rw [kI_o _ _ _ _ (by decide)], fun _ => by rw [kI_o _ _ _ _ (by decide)], fun b => ?_, fun j hj b => by rw [kI_o _ _ _ _ (by decide)]⟩
  rw [kI_s]
  show (if 1 = k then v else σ.1 47 1) = σ.1 47 1
  rw [if_neg]
  intro e
  subst e
  rcases hk with hk | hk
  · omega
  · rw [b] at hk; cases hk
theorem kp_kI {A : Nat → Bool} {o k : Nat} {v : Int32} (h : nw A o = true) : kp A σ (kI σ o k v) := kp_fr (l := [o]) (fr_kI fr_rf List.mem_cons_self) (fun q hq => by rw [List.mem_singleton.mp hq]; exact h)
theorem kp_kL {A : Nat → Bool} {o k : Nat} {v : Int64} (h : nw A o = true) : kp A σ (kL σ o k v) := kp_fr (l := [o]) (fr_kL fr_rf List.mem_cons_self) (fun q hq => by rw [List.mem_singleton.mp hq]; exact h)
theorem kp_kF {A : Nat → Bool} {o : Nat} {f : Nat → Int32} (h : nw A o = true) : kp A σ (kF σ o f) := kp_fr (l := [o]) (fr_kF fr_rf List.mem_cons_self) (fun q hq => by rw [List.mem_singleton.mp hq]; exact h)
theorem kp_kG {A : Nat → Bool} {o : Nat} {f : Nat → Int64} (h : nw A o = true) : kp A σ (kG σ o f) := kp_fr (l := [o]) (fr_kG fr_rf List.mem_cons_self) (fun q hq => by rw [List.mem_singleton.mp hq]; exact h)
/-- a slot of 169 that holds a long -/
theorem kp_l169 {A : Nat → Bool} {k : Nat} {v : Int64} : kp A σ (kL σ 169 k v) := ⟨fun q a b => ⟨rfl, kL_o _ _ _ _ (by intro e; subst e; revert a; decide)⟩, fun _ _ _ => rfl, fun _ => rfl, fun _ => rfl, fun _ _ _ => rfl⟩
section KPR
variable {A : Nat → Bool}
theorem kp_T (h : kp A σ m) (hc : cT σ) (hA : A 1001 = false ∧ A 4 = false ∧ A 2002 = false ∧ A 170 = false) : cT m := cT_c hc (h.2.1 1 (by decide) hA.1) (h.1 4 rfl hA.2.1).1 (h.2.2.2.2 2 (by decide) hA.2.2.1) (h.1 170 rfl hA.2.2.2).1
theorem kp_F (h : kp A σ m) (hc : σ.1 0 2 = σ.1 169 15) (hA : A 1002 = false ∧ A 2015 = false) : m.1 0 2 = m.1 169 15 := by rw [h.2.1 2 (by decide) hA.1, h.2.2.2.2 15 (by decide) hA.2]; exact hc
theorem kp_R (h : kp A σ m) (hc : cR σ) (hA : A 1040 = false ∧ A 42 = false ∧ A 2026 = false ∧ A 177 = false) : cR m := cR_c hc (h.2.2.1 hA.1) (h.1 42 rfl hA.2.1).1 (h.2.2.2.2 26 (by decide) hA.2.2.1) (h.1 177 rfl hA.2.2.2).1
theorem kp_S (h : kp A σ m) (hc : cS σ) (hA : A 1047 = false ∧ A 49 = false ∧ A 2035 = false ∧ A 183 = false) : cS m := cS_c hc (h.2.2.2.1 hA.1) (h.1 49 rfl hA.2.1).1 (h.2.2.2.2 35 (by decide) hA.2.2.1) (h.1 183 rfl hA.2.2.2).1
theorem kp_W (h : kp A σ m) (hc : cW σ) (hA : A 1006 = false ∧ A 59 = false ∧ A 2032 = false ∧ A 180 = false) : cW m := cW_c hc (h.2.1 6 (by decide) hA.1) (h.1 59 rfl hA.2.1).1 (h.2.2.2.2 32 (by decide) hA.2.2.1) (h.1 180 rfl hA.2.2.2).1
theorem kp_I (h : kp A σ m) (hc : cI σ) (hA : A 1011 = false ∧ A 1012 = false ∧ A 187 = false ∧ A 188 = false ∧ A 189 = false ∧ ∀ q, 95 ≤ q → q < 165 → A q = false) : cI m := cI_c hc (h.2.1 11 (by decide) hA.1) (h.2.1 12 (by decide) hA.2.1) (h.1 187 rfl hA.2.2.1).1 (h.1 188 rfl hA.2.2.2.1).2 (h.1 189 rfl hA.2.2.2.2.1).1 (fun q h1 h2 => (h.1 q (by simp [rel]; omega) (hA.2.2.2.2.2 q h1 h2)).1) (fun q h1 h2 => (h.1 q (by simp [rel]; omega) (hA.2.2.2.2.2 q h1 h2)).2)
theorem kp_N (h : kp A σ m) (hc : cN σ) (hA : A 175 = false) : cN m := cN_c hc (h.1 175 rfl hA).2
theorem kp_SR (h : kp A σ m) (hc : SR σ 60 S N) (hA : ∀ q, 60 ≤ q → q < 95 → A q = false) : SR m 60 S N := SR_c hc (fun j hj => (h.1 _ (by simp [rel]; omega) (hA _ (by omega) (by omega))).1) (fun j hj => (h.1 _ (by simp [rel]; omega) (hA _ (by omega) (by omega))).2)
end KPR
theorem RL_kp (hR : RL σ) (h : kp no σ m) : RL m := by
  obtain ⟨h1, h2, h3, h4, h5, h6, h7, h8⟩ := hR
  refine ⟨kp_T h h1 ⟨rfl, rfl, rfl, rfl⟩, kp_F h h2 ⟨rfl, rfl⟩, ?_, kp_R h h4 ⟨rfl, rfl, rfl, rfl⟩, kp_S h h5 ⟨rfl, rfl, rfl, rfl⟩, kp_W h h6 ⟨rfl, rfl, rfl, rfl⟩, kp_I h h7 ⟨rfl, rfl, rfl, rfl, rfl, fun _ _ _ => rfl⟩, kp_N h h8 rfl⟩
  rw [(h.1 171 rfl rfl).1, (h.1 174 rfl rfl).2]
  exact ⟨kp_SR h h3.1 (fun _ _ _ => rfl), h3.2⟩
end KP
