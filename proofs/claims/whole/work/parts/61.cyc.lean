/-! circles of a row of pointers -/
noncomputable def dc (P : Prop) : Bool := @decide P (Classical.propDecidable P)
theorem dc_t {P : Prop} : dc P = true ↔ P := @decide_eq_true_iff P (Classical.propDecidable P)
theorem dc_f {P : Prop} : dc P = false ↔ ¬ P := ⟨fun h q => (by rw [dc_t.mpr q] at h; cases h), fun h => Bool.eq_false_iff.mpr (fun q => h (dc_t.mp q))⟩
def itr (f : Nat → Nat) : Nat → Nat → Nat
  | 0, k => k
  | n + 1, k => f (itr f n k)
section CYC
variable {f : Nat → Nat} {L : Nat → Bool}
theorem itr_add (a : Nat) : ∀ b k, itr f (a + b) k = itr f b (itr f a k)
  | 0, _ => rfl
  | b + 1, k => by show f (itr f (a + b) k) = f (itr f b (itr f a k)); rw [itr_add a b k]
theorem itr_mul {P x : Nat} (h : itr f P x = x) : ∀ q, itr f (P * q) x = x
  | 0 => rfl
  | q + 1 => by rw [Nat.mul_succ, itr_add, itr_mul h q, h]
theorem itr_mod {P x : Nat} (h : itr f P x = x) (n : Nat) : itr f n x = itr f (n % P) x := by
  have e := Nat.div_add_mod n P
  have : itr f (P * (n / P) + n % P) x = itr f (n % P) x := by rw [itr_add, itr_mul h]
  rw [e] at this
  exact this
/-- stands in a circle; who stands in one with it -/
noncomputable def onc (f : Nat → Nat) (h : Nat) : Bool := dc (∃ j, j < 8 ∧ itr f (j + 1) h = h)
noncomputable def cyc (f : Nat → Nat) (o x : Nat) : Bool := dc (∃ i, i < 8 ∧ itr f i o = x)
theorem cyc_any {x P n : Nat} (h1 : 1 ≤ P) (h8 : P ≤ 8) (h : itr f P x = x) : cyc f x (itr f n x) = true := dc_t.mpr ⟨n % P, by have := Nat.mod_lt n h1; omega, (itr_mod h n).symm⟩
theorem onc_P {h : Nat} (e : onc f h = true) : ∃ P, 1 ≤ P ∧ P ≤ 8 ∧ itr f P h = h := by
  obtain ⟨j, h1, h2⟩ := dc_t.mp e
  exact ⟨j + 1, by omega, by omega, h2⟩
theorem onc_of {h P : Nat} (h1 : 1 ≤ P) (h8 : P ≤ 8) (e : itr f P h = h) : onc f h = true := dc_t.mpr ⟨P - 1, by omega, by rw [show P - 1 + 1 = P by omega]; exact e⟩
theorem cyc_self (o : Nat) : cyc f o o = true := dc_t.mpr ⟨0, by decide, rfl⟩
theorem itr_on {P o : Nat} (e : itr f P o = o) (i : Nat) : itr f P (itr f i o) = itr f i o := by rw [← itr_add, Nat.add_comm, itr_add, e]
theorem cyc_onc {o x : Nat} (h : onc f o = true) (hx : cyc f o x = true) : onc f x = true := by
  obtain ⟨P, h1, h8, e⟩ := onc_P h
  obtain ⟨i, -, rfl⟩ := dc_t.mp hx
  exact onc_of h1 h8 (itr_on e i)
theorem cyc_same {o x : Nat} (h : onc f o = true) (hx : cyc f o x = true) (y : Nat) : cyc f x y = cyc f o y := by
  obtain ⟨P, h1, h8, e⟩ := onc_P h
  obtain ⟨i, hi, rfl⟩ := dc_t.mp hx
  have e2 := itr_on e i
  apply Bool.eq_iff_iff.mpr
  constructor
  · intro q
    obtain ⟨a, -, rfl⟩ := dc_t.mp q
    rw [← itr_add]
    exact cyc_any h1 h8 e
  · intro q
    obtain ⟨a, -, rfl⟩ := dc_t.mp q
    have hle : i ≤ P * i := Nat.le_mul_of_pos_left i h1
    have e3 : itr f (P * i - i) (itr f i o) = o := by
      rw [← itr_add, show i + (P * i - i) = P * i by omega, itr_mul e]
    have : itr f a o = itr f (P * i - i + a) (itr f i o) := by rw [itr_add, e3]
    rw [this]
    exact cyc_any h1 h8 e2
theorem itr_L (hL : ∀ k, L k = true → L (f k) = true) {k : Nat} (hk : L k = true) : ∀ n, L (itr f n k) = true
  | 0 => hk
  | n + 1 => hL _ (itr_L hL hk n)
theorem cyc_L (hL : ∀ k, L k = true → L (f k) = true) {o x : Nat} (ho : L o = true) (hx : cyc f o x = true) : L x = true := by
  obtain ⟨i, -, rfl⟩ := dc_t.mp hx
  exact itr_L hL ho i
/-- eight steps on, in a circle -/
theorem onc_8 (hL : ∀ k, L k = true → L (f k) = true) (h8 : ∀ k, L k = true → k < 8) {k : Nat} (hk : L k = true) : onc f (itr f 8 k) = true := by
  obtain ⟨i, j, hij, hj, e⟩ := fb_twice (m := 8) (n := 9) (f := fun i => itr f i k) (fun i _ => h8 _ (itr_L hL hk i)) (by decide)
  refine onc_of (P := j - i) (by omega) (by omega) ?_
  have e' : itr f i k = itr f j k := e
  rw [← itr_add, show 8 + (j - i) = j + (8 - i) by omega, itr_add, ← e', ← itr_add, show i + (8 - i) = 8 by omega]
theorem onc_f {h : Nat} (e : onc f h = true) : onc f (f h) = true := by
  obtain ⟨P, h1, h8, e2⟩ := onc_P e
  exact onc_of h1 h8 (itr_on e2 1)
theorem onc_inj {j k : Nat} (hj : onc f j = true) (hk : onc f k = true) (e : f j = f k) : j = k := by
  obtain ⟨P, p1, -, ep⟩ := onc_P hj
  obtain ⟨Q, q1, -, eq⟩ := onc_P hk
  have hpq : 1 ≤ P * Q := Nat.mul_le_mul p1 q1
  have a : itr f (P * Q) j = j := itr_mul ep Q
  have b : itr f (P * Q) k = k := by rw [Nat.mul_comm]; exact itr_mul eq P
  have c : ∀ x, itr f (P * Q) x = itr f (P * Q - 1) (f x) := fun x => by
    have := itr_add (f := f) 1 (P * Q - 1) x
    rw [show 1 + (P * Q - 1) = P * Q by omega] at this
    exact this
  rw [← a, ← b, c j, c k, e]
/-- the least of a circle of two or more -/
noncomputable def lst (f : Nat → Nat) (h : Nat) : Bool := dc (1 < fb_ct (cyc f h) 10 ∧ ∀ x, x < h → cyc f h x = false)
theorem first_in {C : Nat → Bool} {n : Nat} (h : ∃ x, x < n ∧ C x = true) : ∃ x, x < n ∧ C x = true ∧ ∀ y, y < x → C y = false := by
  obtain ⟨x, h1, h2, h3⟩ := fb_first (p := fun x => C x = true) h
  exact ⟨x, h1, h2, fun y hy => Bool.eq_false_iff.mpr (h3 y hy)⟩
theorem ct_one {n x : Nat} {q : Nat → Bool} (hx : x < n) (h : ∀ y, y < n → q y = decide (y = x)) : fb_ct q n = 1 := by
  rw [fb_ct_cong h]
  have : ∀ m, fb_ct (fun y => decide (y = x)) m = if x < m then 1 else 0 := by
    intro m
    induction m with
    | zero => rfl
    | succ m ih =>
      rw [fb_ct_succ, ih]
      by_cases g : m = x
      · rw [if_neg (by omega), decide_eq_true g, if_pos rfl, if_pos (by omega)]
      · rw [decide_eq_false g, if_neg (by decide : ¬ false = true)]
        by_cases g2 : x < m
        · rw [if_pos g2, if_pos (by omega)]
        · rw [if_neg g2, if_neg (by omega)]
  rw [this, if_pos hx]
/-- one circle more: one least more, if it has two or more -/
theorem lst_more {out : Nat → Bool} {o : Nat} (h : onc f o = true) (ho8 : ∀ x, cyc f o x = true → x < 8) (hd : ∀ x, cyc f o x = true → out x = false) : fb_ct (fun x => (out x || cyc f o x) && lst f x) 8 = fb_ct (fun x => out x && lst f x) 8 + (if 1 < fb_ct (cyc f o) 10 then 1 else 0) := by
  have e1 : fb_ct (fun x => (out x || cyc f o x) && lst f x) 8 = fb_ct (fun x => (out x && lst f x) || (cyc f o x && lst f x)) 8 := fb_ct_cong (fun x _ => by rw [Bool.and_or_distrib_right])
  have e2 := fb_ct_or (p := fun x => out x && lst f x) (q := fun x => cyc f o x && lst f x) (n := 8) (fun x _ q => by
    have a := (Bool.and_eq_true _ _).mp q.1
    have b := (Bool.and_eq_true _ _).mp q.2
    rw [hd x b.1] at a
    cases a.1)
  rw [e1, e2]
  congr 1
  by_cases h1 : 1 < fb_ct (cyc f o) 10
  · rw [if_pos h1]
    obtain ⟨x, x8, xc, xl⟩ := first_in (C := cyc f o) (n := 8) ⟨o, ho8 o (cyc_self o), cyc_self o⟩
    refine ct_one x8 (fun y hy => ?_)
    by_cases g : y = x
    · rw [decide_eq_true g, g, xc, Bool.true_and]
      refine dc_t.mpr ⟨?_, fun z hz => ?_⟩
      · rw [fb_ct_cong (q := cyc f o) (fun z _ => cyc_same h xc z)]; exact h1
      · rw [cyc_same h xc z]; exact xl z hz
    · rw [decide_eq_false g]
      apply Bool.eq_false_iff.mpr
      intro q
      obtain ⟨q1, q2⟩ := (Bool.and_eq_true _ _).mp q
      have q3 := (dc_t.mp q2).2
      rcases Nat.lt_or_ge x y with g2 | g2
      · have := q3 x g2
        rw [cyc_same h q1, xc] at this
        cases this
      · have := xl y (by omega)
        rw [q1] at this
        cases this
  · rw [if_neg h1]
    refine fb_ct_zero.mpr (fun x _ => ?_)
    apply Bool.eq_false_iff.mpr
    intro q
    obtain ⟨q1, q2⟩ := (Bool.and_eq_true _ _).mp q
    have q3 := (dc_t.mp q2).1
    rw [fb_ct_cong (q := cyc f o) (fun z _ => cyc_same h q1 z)] at q3
    exact h1 q3
end CYC
