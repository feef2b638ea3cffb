/-! the greatest common divisor, in both ways; waiting, wedding -/
section LG
variable {x y : Int64}
theorem lg_eq0 : (lg_cmp x y = nI 0) = (x = y) := by
  apply propext
  unfold lg_cmp
  by_cases h : x > y
  · rw [if_pos h]
    constructor
    · intro e; exact absurd e (by decide)
    · intro e; subst e; exact absurd h (Int64.lt_irrefl)
  · rw [if_neg h]
    by_cases h2 : x = y
    · rw [if_pos h2]; exact ⟨fun _ => h2, fun _ => rfl⟩
    · rw [if_neg h2]
      constructor
      · intro e; exact absurd e (by decide)
      · intro e; exact absurd e h2
theorem lg_gt0 : (nI 0 < lg_cmp x y) = (y < x) := by
  apply propext
  unfold lg_cmp
  by_cases h : x > y
  · rw [if_pos h]; exact ⟨fun _ => h, fun _ => by decide⟩
  · rw [if_neg h]
    constructor
    · intro e
      by_cases h2 : x = y
      · rw [if_pos h2] at e; exact absurd e (by decide)
      · rw [if_neg h2] at e; exact absurd e (by decide)
    · intro e; exact absurd e h
theorem lg_le0 : (lg_cmp x y ≤ nI 0) = ¬ (y < x) := by
  rw [← lg_gt0]
  apply propext
  constructor
  · intro h h2; exact (fa_of_lt h2).2.1 h
  · intro h; exact fa_of_nlt h
theorem lg_ge0 : (nI 0 ≤ lg_cmp x y) = ¬ (x < y) := by
  apply propext
  unfold lg_cmp
  by_cases h : x > y
  · rw [if_pos h]
    refine ⟨fun _ h2 => ?_, fun _ => by decide⟩
    have h' := (fa_lt64 _ _).mp h
    have h2' := (fa_lt64 _ _).mp h2
    omega
  · rw [if_neg h]
    by_cases h2 : x = y
    · rw [if_pos h2]; subst h2; exact ⟨fun _ => Int64.lt_irrefl, fun _ => by decide⟩
    · rw [if_neg h2]
      constructor
      · intro e; exact absurd e (by decide)
      · intro e
        refine absurd ?_ e
        rw [fa_lt64]
        have h' : ¬ y.toInt < x.toInt := fun q => h ((fa_lt64 _ _).mpr q)
        have h2' : ¬ x.toInt = y.toInt := fun q => h2 ((fa_eq64 _ _).mpr q)
        omega
end LG
section GCD
variable {z : Nat → Nat} {σ : Mm}
theorem gcd_dn {a b : Nat} : Nat.gcd a b = Nat.gcd b (a % b) := by rw [Nat.gcd_comm, Nat.gcd_rec b a, Nat.gcd_comm]
theorem gcd_half {a b n : Nat} (h0 : 0 < b) (h : b ≤ a) (h2 : a * b < 2 ^ (n + 1)) : b * (a % b) < 2 ^ n := by
  have h3 : 2 * (a % b) ≤ a := by
    have e := Nat.div_add_mod a b
    have l := Nat.mod_lt a h0
    have q : 1 ≤ a / b := (Nat.one_le_div_iff h0).mpr h
    have q2 : b * 1 ≤ b * (a / b) := Nat.mul_le_mul_left b q
    omega
  have h4 : b * (2 * (a % b)) ≤ b * a := Nat.mul_le_mul_left b h3
  rw [Nat.mul_left_comm, Nat.mul_comm b a] at h4
  rw [Nat.pow_succ] at h2
  omega
theorem lrem_nat {a b : Nat} (ha : a < 2 ^ 63) (h0 : 0 < b) (hb : b < 2 ^ 63) : mm_lrem (lN a) (lN b) = some (lN (a % b)) := by
  unfold mm_lrem
  rw [if_neg (fun e => by have := (pk_lEQ hb (show 0 < 2 ^ 63 by decide)).mp e; omega), pk_lRem ha h0 hb]
theorem ne_l {b : Nat} (h0 : 0 < b) (hb : b < 2 ^ 63) : (lN b = lN 0) = False := eq_false (fun e => by have := (pk_lEQ hb (show 0 < 2 ^ 63 by decide)).mp e; omega)
theorem hat_gcd1 : ∀ n a b i, b ≤ a → a * b < 2 ^ n → i + n ≤ 199 → a < 2 ^ 63 → mm_lp (f_Hat_greatestDivisor_L9 z σ) (lN a, lN b, nI i) = some (lN (Nat.gcd a b)) := by
  intro n
  induction n with
  | zero =>
    intro a b i hba hab hi ha
    have hb0 : b = 0 := by
      rcases Nat.eq_zero_or_pos b with h | h
      · exact h
      · have : 1 * 1 ≤ a * b := Nat.mul_le_mul (by omega) h
        omega
    subst hb0
    refine mm_lp_done ?_
    unfold f_Hat_greatestDivisor_L9
    simp (disch := omega) only [fl, fmN, mm_lt, Nat.reduceAdd, Option.bind_some, lt_t, lt_f, le_t, le_f, eq_f, eq_self, nI_add, nI_mul, nI_sub, ↓reduceIte, lg_eq0, fa_litL, Nat.gcd_zero_right]
  | succ n ih =>
    intro a b i hba hab hi ha
    rcases Nat.eq_zero_or_pos b with h | h
    · subst h
      refine mm_lp_done ?_
      unfold f_Hat_greatestDivisor_L9
      simp (disch := omega) only [fl, fmN, mm_lt, Nat.reduceAdd, Option.bind_some, lt_t, lt_f, le_t, le_f, eq_f, eq_self, nI_add, nI_mul, nI_sub, ↓reduceIte, lg_eq0, fa_litL, Nat.gcd_zero_right]
    · rw [mm_lp_step (s' := (lN b, lN (a % b), nI (i + 1)))]
      · rw [gcd_dn]
        exact ih b (a % b) (i + 1) (Nat.le_of_lt (Nat.mod_lt a h)) (gcd_half h hba hab) (by omega) (by omega)
      · unfold f_Hat_greatestDivisor_L9
        simp (disch := omega) only [fl, fmN, mm_lt, Nat.reduceAdd, Option.bind_some, lt_t, lt_f, le_t, le_f, eq_f, eq_self, nI_add, nI_mul, nI_sub, ↓reduceIte, lg_eq0, fa_litL, ne_l h, lrem_nat ha h]
theorem prod_126 {a b : Nat} (ha : a < 2 ^ 63) (hb : b < 2 ^ 63) : a * b < 2 ^ 126 := by
  have : a * b ≤ (2 ^ 63 - 1) * (2 ^ 63 - 1) := Nat.mul_le_mul (by omega) (by omega)
  omega
theorem hat_gcd {a b : Nat} (ha : a < 2 ^ 63) (hb : b < 2 ^ 63) : f_Hat_greatestDivisor z σ (lN a) (lN b) = some (lN (Nat.gcd a b)) := by
  unfold f_Hat_greatestDivisor
  simp only [fl]
  have key : mm_lp (f_Hat_greatestDivisor_L9 z σ) (lN a, lN b, nI 0) = some (lN (Nat.gcd a b)) := by
    by_cases h : b ≤ a
    · exact hat_gcd1 126 a b 0 h (prod_126 ha hb) (by omega) ha
    · rw [mm_lp_step (s' := (lN b, lN (a % b), nI 1))]
      · rw [gcd_dn]
        exact hat_gcd1 126 b (a % b) 1 (Nat.le_of_lt (Nat.mod_lt a (by omega))) (by rw [Nat.mod_eq_of_lt (by omega)]; exact prod_126 hb ha) (by omega) hb
      · unfold f_Hat_greatestDivisor_L9
        simp (disch := omega) only [fl, fmN, mm_lt, Nat.reduceAdd, Option.bind_some, lt_t, lt_f, le_t, le_f, eq_f, eq_self, nI_add, nI_mul, nI_sub, ↓reduceIte, lg_eq0, fa_litL, ne_l (by omega : 0 < b) hb, lrem_nat ha (by omega : 0 < b)]
  rw [key]; rfl
theorem md_gcd1 : ∀ b a, a < 2 ^ 63 → b < 2 ^ 63 → mm_lp (f_Mod_common_L28 z σ) (lN a, lN b) = some (lN (Nat.gcd a b)) := by
  intro b
  induction b using Nat.strongRecOn with
  | ind b ih =>
    intro a ha hb
    rcases Nat.eq_zero_or_pos b with h | h
    · subst h
      refine mm_lp_done ?_
      unfold f_Mod_common_L28
      simp (disch := omega) only [fl, fmN, mm_lt, Nat.reduceAdd, Option.bind_some, lt_t, lt_f, le_t, le_f, eq_f, eq_self, nI_add, nI_mul, nI_sub, ↓reduceIte, lg_eq0, fa_litL, Nat.gcd_zero_right]
    · rw [mm_lp_step (s' := (lN b, lN (a % b)))]
      · rw [gcd_dn]
        exact ih (a % b) (Nat.mod_lt a h) b hb (by have := Nat.mod_lt a h; omega)
      · unfold f_Mod_common_L28
        simp (disch := omega) only [fl, fmN, mm_lt, Nat.reduceAdd, Option.bind_some, lt_t, lt_f, le_t, le_f, eq_f, eq_self, nI_add, nI_mul, nI_sub, ↓reduceIte, lg_eq0, fa_litL, ne_l h, lrem_nat ha h]
theorem abs_lN {a : Int64} (h : -9223372036854775808 < a.toInt) : a.toInt.natAbs < 2 ^ 63 ∧ (a < lN 0 → -a = lN a.toInt.natAbs) ∧ (¬ a < lN 0 → a = lN a.toInt.natAbs) := by
  have r := fb_rngL a
  have z0 : (lN 0).toInt = 0 := pk_lT (by decide)
  refine ⟨by omega, fun h1 => ?_, fun h1 => ?_⟩
  · rw [fa_lt64, z0] at h1
    rw [fa_eq64, pk_lT (by omega), Int64.toInt_neg, fb_bmodL (by omega) (by omega)]
    omega
  · rw [fa_lt64, z0] at h1
    rw [fa_eq64, pk_lT (by omega)]
    omega
theorem gcd_pos {a b : Nat} (h : 0 < b) (hb : b < 2 ^ 63) : 0 < Nat.gcd a b ∧ Nat.gcd a b < 2 ^ 63 := by
  have h1 := Nat.gcd_pos_of_pos_right a h
  have h2 := Nat.le_of_dvd h (Nat.gcd_dvd_right a b)
  exact ⟨h1, by omega⟩
theorem ldiv_nat {p : Int64} {g : Nat} (h0 : 0 < g) (hg : g < 2 ^ 63) : mm_ldiv p (lN g) = some (p / lN g) := by
  unfold mm_ldiv
  rw [if_neg (fun e => by have := (pk_lEQ hg (show 0 < 2 ^ 63 by decide)).mp e; omega)]
theorem hat_least {p a : Int64} {B : Nat} (h0 : 0 < B) (hB : B < 2 ^ 63) (h : -9223372036854775808 < a.toInt) : f_Hat_inLeastNumbers z σ p a (lN B) = some (p / lN (Nat.gcd a.toInt.natAbs B)) := by
  obtain ⟨h1, h2, h3⟩ := abs_lN h
  have g1 := gcd_pos (a := a.toInt.natAbs) h0 hB
  have key : f_Hat_inLeastNumbers_J12 z σ p (lN B) (lN a.toInt.natAbs) = some (p / lN (Nat.gcd a.toInt.natAbs B)) := by
    unfold f_Hat_inLeastNumbers_J12
    rw [hat_gcd h1 hB, Option.bind_some]
    simp only [fl, fa_litL, lg_le0]
    by_cases h9 : lN 1 < lN (Nat.gcd a.toInt.natAbs B)
    · rw [if_neg (fun q => q h9), ldiv_nat g1.1 g1.2]; rfl
    · rw [if_pos h9]
      have : Nat.gcd a.toInt.natAbs B = 1 := by
        have h8 : ¬ 1 < Nat.gcd a.toInt.natAbs B := fun q => h9 ((pk_lLT (by decide) g1.2).mpr q)
        have := g1.1
        omega
      rw [this]
      exact congrArg some (Int64.div_one).symm
  unfold f_Hat_inLeastNumbers
  simp only [fl, fa_litL, lg_ge0]
  by_cases h9 : a < lN 0
  · rw [if_neg (fun q => q h9), h2 h9]; exact key
  · rw [if_pos h9]
    have := h3 h9
    rw [← this] at key
    exact key
theorem md_gcd {a : Int64} {B : Nat} (hB : B < 2 ^ 63) (h : -9223372036854775808 < a.toInt) : f_Mod_common z σ a (lN B) = some (lN (Nat.gcd a.toInt.natAbs B)) := by
  obtain ⟨h1, h2, h3⟩ := abs_lN h
  have key : f_Mod_common_J12 z σ (lN B) (lN a.toInt.natAbs) = some (lN (Nat.gcd a.toInt.natAbs B)) := by
    unfold f_Mod_common_J12 f_Mod_common_J26
    simp only [fl, fa_litL, lg_ge0]
    rw [if_pos (fun q => by have := (pk_lLT hB (show 0 < 2 ^ 63 by decide)).mp q; omega), md_gcd1 B _ h1 hB]
    rfl
  unfold f_Mod_common
  simp only [fl, fa_litL, lg_ge0]
  by_cases h9 : a < lN 0
  · rw [if_neg (fun q => q h9), h2 h9]; exact key
  · rw [if_pos h9]
    have := h3 h9
    rw [← this] at key
    exact key
theorem md_part {a : Int64} {B : Nat} (h0 : 0 < B) (hB : B < 2 ^ 63) (h : -9223372036854775808 < a.toInt) {j : Nat} (hj : j < 2) : f_Mod_part z σ a (lN B) (nI j) = some ((if j = 0 then a else lN B) / lN (Nat.gcd a.toInt.natAbs B)) := by
  have g1 := gcd_pos (a := a.toInt.natAbs) h0 hB
  unfold f_Mod_part f_Mod_part_J10
  simp (disch := omega) only [fl, nI_eq, md_gcd hB h, Option.bind_some]
  by_cases h9 : j = 0
  · rw [if_pos h9, if_pos h9, ldiv_nat g1.1 g1.2]; rfl
  · rw [if_neg h9, if_neg h9, ldiv_nat g1.1 g1.2]; rfl
end GCD
theorem i64_min (q : Int32) : -9223372036854775808 < q.toInt64.toInt := by
  rw [Int32.toInt_toInt64]; have := fb_rng q; omega
section OPS4
variable {σ u : Mm} {S : Nat → Int32}
def wt (S : Nat → Int32) (k : Nat) : Int32 := fo (fun x a => a + vw S k x) (sn S) (nI 0)
theorem op_waiting (hR : RL σ) (a b : Int32) : opT σ (f_Hat_waiting z_Law σ 0 a b) (fun u => f_Mod_waiting z_Law u 169 a b) := by
  have hv := rl_v (rs hR)
  have hn := rl_n (rs hR)
  have hm := rl_m (rs hR)
  have n10 := iv_n10 hv
  have m8 := iv_m8 hv
  have hI := rl_I (rs hR)
  rcases arg_of a (sm (σ.1 171)) (by omega) with ⟨k, hk, rfl⟩ | h
  · rcases arg_of b 2 (by decide) with ⟨j, hj, rfl⟩ | h2
    · by_cases h0 : sn (σ.1 171) = 0
      · refine opT_no hR (w := nI 0) ?_ ?_
        · unfold f_Hat_waiting
          simp (disch := omega) only [fl, fmN, mm_lt, Nat.reduceAdd, Option.bind_some, lt_t, lt_f, le_t, le_f, eq_f, eq_self, nI_add, nI_mul, nI_sub, ↓reduceIte, nm_has hm hk, hn, h0]
        · unfold f_Mod_waiting f_Mod_waiting_J32
          simp (disch := omega) only [fl, fmN, mm_lt, Nat.reduceAdd, Option.bind_some, lt_t, lt_f, le_t, le_f, eq_f, eq_self, nI_add, nI_mul, nI_sub, ↓reduceIte, md_isH hv rfl hk, md_isIn (v := nI j) rfl, zq_171, ld_nI, iv_n hv, h0, md_throwsIf1]
      · refine opT_yes hR (v := ((if j = 0 then (wt (σ.1 171) k).toInt64 else lN (sn (σ.1 171))) / lN (Nat.gcd (wt (σ.1 171) k).toInt64.toInt.natAbs (sn (σ.1 171)))).toInt32) ?_ (fun u hu => ?_)
        · unfold f_Hat_waiting f_Hat_waiting_J102
          simp (disch := omega) only [fl, fmN, mm_lt, Nat.reduceAdd, Option.bind_some, lt_t, lt_f, le_t, le_f, eq_f, eq_self, nI_add, nI_mul, nI_sub, ↓reduceIte, nm_has hm hk, hn]
          rw [lp_fo0 (fun x a => a + vw (σ.1 171) k x) (sn (σ.1 171)) (fun i y hi => ?_) (fun y => ?_)]
          · simp (disch := omega) only [Option.bind_some, nI_eq, nI_l]
            by_cases h9 : j = 0
            · rw [if_pos h9, if_pos h9, hat_least (by omega) (by omega) (i64_min _)]; rfl
            · rw [if_neg h9, if_neg h9, hat_least (by omega) (by omega) (i64_min _)]; rfl
          · unfold f_Hat_waiting_L60
            simp (disch := omega) only [fl, fmN, mm_lt, Nat.reduceAdd, Option.bind_some, lt_t, lt_f, le_t, le_f, eq_f, eq_self, nI_add, nI_mul, nI_sub, ↓reduceIte, is_value IZ_61 hI]
          · unfold f_Hat_waiting_L60
            simp (disch := omega) only [fl, fmN, mm_lt, Nat.reduceAdd, Option.bind_some, lt_t, lt_f, le_t, le_f, eq_f, eq_self, nI_add, nI_mul, nI_sub, ↓reduceIte]
        · have hs : u.1 171 = σ.1 171 := by rw [hu]
          have hs2 : (kI u 169 0 (nI 0)).1 171 = σ.1 171 := hs
          unfold f_Mod_waiting f_Mod_waiting_J32
          simp (disch := omega) only [fl, fmN, mm_lt, Nat.reduceAdd, Option.bind_some, lt_t, lt_f, le_t, le_f, eq_f, eq_self, nI_add, nI_mul, nI_sub, ↓reduceIte, md_isH hv hs hk, md_isIn (v := nI j) rfl, md_throwsIf0, th_171, hs, zq_171, ld_nI, iv_n hv]
          rw [lp_fo0 (fun x a => a + vw (σ.1 171) k x) (sn (σ.1 171)) (fun i y hi => ?_) (fun y => ?_)]
          · simp (disch := omega) only [Option.bind_some, nI_l]
            rw [md_part (by omega) (by omega) (i64_min _) hj]; rfl
          · unfold f_Mod_waiting_L45
            simp (disch := omega) only [fl, fmN, mm_lt, Nat.reduceAdd, Option.bind_some, lt_t, lt_f, le_t, le_f, eq_f, eq_self, nI_add, nI_mul, nI_sub, ↓reduceIte, zq_171, ld_nI, hs2, iv_n hv, md_valueOf (S := σ.1 171) hs2]
          · unfold f_Mod_waiting_L45
            simp (disch := omega) only [fl, fmN, mm_lt, Nat.reduceAdd, Option.bind_some, lt_t, lt_f, le_t, le_f, eq_f, eq_self, nI_add, nI_mul, nI_sub, ↓reduceIte, zq_171, ld_nI, hs2, iv_n hv]
    · refine opT_no hR (w := nI 0) ?_ ?_
      · unfold f_Hat_waiting
        simp (disch := omega) only [fl, fmN, mm_lt, Nat.reduceAdd, Option.bind_some, lt_t, lt_f, le_t, le_f, eq_f, eq_self, nI_add, nI_mul, nI_sub, ↓reduceIte, nm_has hm hk, out_lt h2]
      · unfold f_Mod_waiting f_Mod_waiting_J32
        simp (disch := omega) only [fl, fmN, mm_lt, Nat.reduceAdd, Option.bind_some, lt_t, lt_f, le_t, le_f, eq_f, eq_self, nI_add, nI_mul, nI_sub, ↓reduceIte, md_isH hv rfl hk, out_md h2, md_throwsIf1]
  · refine opT_no hR (w := nI 0) ?_ ?_
    · unfold f_Hat_waiting
      simp (disch := omega) only [fl, fmN, mm_lt, Nat.reduceAdd, Option.bind_some, lt_t, lt_f, le_t, le_f, eq_f, eq_self, nI_add, nI_mul, nI_sub, ↓reduceIte, nm_hasnt hm h]
    · unfold f_Mod_waiting f_Mod_waiting_J32
      simp (disch := omega) only [fl, fmN, mm_lt, Nat.reduceAdd, Option.bind_some, lt_t, lt_f, le_t, le_f, eq_f, eq_self, nI_add, nI_mul, nI_sub, ↓reduceIte, md_isntH hv rfl h, md_throwsIf1]
/-! wedding -/
def v2 (S : Nat → Int32) (a b x : Nat) : Int32 := vw S a x + vw S b x
def mx (S : Nat → Int32) (a b x y : Nat) : Int32 := if v2 S a b x < v2 S a b y then v2 S a b y else v2 S a b x
def w0 (S : Nat → Int32) (a b : Nat) : Int32 := fo (fun x s => s + v2 S a b x) (sn S) (nI 0)
def w1i (S : Nat → Int32) (a b x : Nat) (s : Int32) : Int32 := fo (fun j s => s + mx S a b x (x + 1 + j)) (sn S - (x + 1)) s
def w1 (S : Nat → Int32) (a b : Nat) : Int32 := fo (fun x s => w1i S a b x s) (sn S) (nI 0)
def wn (n i : Nat) : Nat := fb_sm (fun x => n - (x + 1)) i
theorem wn_all : ∀ n, n ≤ 10 → wn n n = n * (n - 1) / 2 := by
  intro n hn
  match n, hn with
  | 0, _ => rfl
  | 1, _ => rfl
  | 2, _ => rfl
  | 3, _ => rfl
  | 4, _ => rfl
  | 5, _ => rfl
  | 6, _ => rfl
  | 7, _ => rfl
  | 8, _ => rfl
  | 9, _ => rfl
  | 10, _ => rfl
  | n + 11, h => exact absurd h (by omega)
theorem wn_le (n i : Nat) (h : n ≤ 10) (hi : i ≤ 10) : wn n i ≤ 100 := by
  have := fb_sm_bound (f := fun x => n - (x + 1)) (c := 10) (n := i) (fun k _ => by show n - (k + 1) ≤ 10; omega)
  show fb_sm _ i ≤ 100
  omega
theorem is_both (hI : IR σ 61 S) {a b x : Nat} (ha : a < 8) (hb : b < 8) (hx : x < 10) : f_Island_valueForBoth z_Law σ 61 (nI a) (nI b) (nI x) = some (v2 S a b x) := by
  unfold f_Island_valueForBoth v2
  rw [is_value IZ_61 hI ha hx, is_value IZ_61 hI hb hx]; rfl
theorem hat_w0 (hR : RS σ) {a b : Nat} (ha : a < 8) (hb : b < 8) : f_Hat_bothOfOne z_Law σ 0 (nI a) (nI b) = some (w0 (σ.1 171) a b) := by
  have hv := rl_v hR
  have hn := rl_n hR
  have n10 := iv_n10 hv
  unfold f_Hat_bothOfOne w0
  simp only [fl]
  rw [lp_fo0 (fun x s => s + v2 (σ.1 171) a b x) (sn (σ.1 171)) (fun i y hi => ?_) (fun y => ?_)]
  · rfl
  · unfold f_Hat_bothOfOne_L5
    simp (disch := omega) only [fl, fmN, mm_lt, Nat.reduceAdd, Option.bind_some, lt_t, lt_f, le_t, le_f, eq_f, eq_self, nI_add, nI_mul, nI_sub, ↓reduceIte, hn, is_both (rl_I hR)]
  · unfold f_Hat_bothOfOne_L5
    simp (disch := omega) only [fl, fmN, mm_lt, Nat.reduceAdd, Option.bind_some, lt_t, lt_f, le_t, le_f, eq_f, eq_self, nI_add, nI_mul, nI_sub, ↓reduceIte, hn]
theorem hat_w1 (hR : RS σ) {a b : Nat} (ha : a < 8) (hb : b < 8) : f_Hat_bothOfTheBetter z_Law σ 0 (nI a) (nI b) = some (w1 (σ.1 171) a b) := by
  have hv := rl_v hR
  have hn := rl_n hR
  have n10 := iv_n10 hv
  unfold f_Hat_bothOfTheBetter w1
  simp only [fl]
  rw [lp_fo0 (fun x s => w1i (σ.1 171) a b x s) (sn (σ.1 171)) (fun i y hi => ?_) (fun y => ?_)]
  · rfl
  · unfold f_Hat_bothOfTheBetter_L5
    simp (disch := omega) only [fl, fmN, mm_lt, Nat.reduceAdd, Option.bind_some, lt_t, lt_f, le_t, le_f, eq_f, eq_self, nI_add, nI_mul, nI_sub, ↓reduceIte, hn, is_both (rl_I hR)]
    rw [lp_foK (fun j s => s + mx (σ.1 171) a b i j) (i + 1) (sn (σ.1 171)) (by omega) (fun j y h1 h2 => ?_) (fun y => ?_)]
    · rfl
    · unfold f_Hat_bothOfTheBetter_L45
      simp (disch := omega) only [fl, fmN, mm_lt, Nat.reduceAdd, Option.bind_some, lt_t, lt_f, le_t, le_f, eq_f, eq_self, nI_add, nI_mul, nI_sub, ↓reduceIte, hn, is_both (rl_I hR)]
      rfl
    · unfold f_Hat_bothOfTheBetter_L45
      simp (disch := omega) only [fl, fmN, mm_lt, Nat.reduceAdd, Option.bind_some, lt_t, lt_f, le_t, le_f, eq_f, eq_self, nI_add, nI_mul, nI_sub, ↓reduceIte, hn]
  · unfold f_Hat_bothOfTheBetter_L5
    simp (disch := omega) only [fl, fmN, mm_lt, Nat.reduceAdd, Option.bind_some, lt_t, lt_f, le_t, le_f, eq_f, eq_self, nI_add, nI_mul, nI_sub, ↓reduceIte, hn]
theorem md_w0i (hs : u.1 171 = S) (hv : Inv S) {a b x c : Nat} {s w : Int32} (ha : a < 8) (hb : b < 8) (hx : x < sn S) (hc : c < 1000) : mm_lp (f_Mod_wedding_L99 z_Law u 169 (nI a) (nI b) (nI 0) w (nI x)) (s, nI c, nI x) = some (s + v2 S a b x, nI (c + 1)) := by
  have n10 := iv_n10 hv
  rw [mm_lp_step (s' := (s + v2 S a b x, nI (c + 1), nI (x + 1)))]
  · refine mm_lp_done ?_
    unfold f_Mod_wedding_L99 f_Mod_wedding_J118
    simp (disch := omega) only [fl, fmN, mm_lt, Nat.reduceAdd, Option.bind_some, lt_t, lt_f, le_t, le_f, eq_f, eq_self, nI_add, nI_mul, nI_sub, ↓reduceIte]
  · unfold f_Mod_wedding_L99 f_Mod_wedding_J118 v2
    simp (disch := omega) only [fl, fmN, mm_lt, Nat.reduceAdd, Option.bind_some, lt_t, lt_f, le_t, le_f, eq_f, eq_self, nI_add, nI_mul, nI_sub, ↓reduceIte, md_valueOf hs, Int32.le_refl, if_true]
theorem md_w1i (hs : u.1 171 = S) (hv : Inv S) {a b x c : Nat} {s w : Int32} (ha : a < 8) (hb : b < 8) (hx : x < sn S) (hc : c < 1000) : mm_lp (f_Mod_wedding_L99 z_Law u 169 (nI a) (nI b) (nI 1) w (nI x)) (s, nI c, nI (x + 1)) = some (w1i S a b x s, nI (c + (sn S - (x + 1)))) := by
  have n10 := iv_n10 hv
  refine lp_go (fun j => (fo (fun j s => s + mx S a b x (x + 1 + j)) j s, nI (c + j), nI (x + 1 + j))) (sn S - (x + 1)) rfl (fun j hj => ?_) ?_
  · unfold f_Mod_wedding_L99 f_Mod_wedding_J118
    simp (disch := omega) only [fl, fmN, mm_lt, Nat.reduceAdd, Option.bind_some, lt_t, lt_f, le_t, le_f, eq_f, eq_self, nI_add, nI_mul, nI_sub, ↓reduceIte, zq_171, ld_nI, hs, iv_n hv, md_valueOf hs]
    show (if v2 S a b x ≤ v2 S a b (x + 1 + j) then _ else _) = some (Sum.inl (_ + mx S a b x (x + 1 + j), _, _))
    unfold mx
    by_cases h9 : v2 S a b x < v2 S a b (x + 1 + j)
    · rw [if_pos (fa_of_lt h9).1, if_pos h9]
      rfl
    · rw [if_neg h9]
      by_cases h8 : v2 S a b x ≤ v2 S a b (x + 1 + j)
      · rw [if_pos h8]
        have e : v2 S a b x = v2 S a b (x + 1 + j) := by
          by_cases e : v2 S a b x = v2 S a b (x + 1 + j)
          · exact e
          · exact absurd (fa_le_ne h8 e) h9
        rw [e]
        rfl
      · rw [if_neg h8]
        rfl
  · unfold f_Mod_wedding_L99 f_Mod_wedding_J118
    simp (disch := omega) only [fl, fmN, mm_lt, Nat.reduceAdd, Option.bind_some, lt_t, lt_f, le_t, le_f, eq_f, eq_self, nI_add, nI_mul, nI_sub, ↓reduceIte, zq_171, ld_nI, hs, iv_n hv]
    rfl
theorem md_w0 (hs : u.1 171 = S) (hv : Inv S) {a b : Nat} {w : Int32} (ha : a < 8) (hb : b < 8) : mm_lp (f_Mod_wedding_L73 z_Law u 169 (nI a) (nI b) (nI 0) w) (nI 0, nI 0, nI 0) = some (w0 S a b, nI (sn S)) := by
  have n10 := iv_n10 hv
  refine lp_go (fun i => (fo (fun x s => s + v2 S a b x) i (nI 0), nI i, nI i)) (sn S) rfl (fun i hi => ?_) ?_
  · unfold f_Mod_wedding_L73 f_Mod_wedding_J97
    simp (disch := omega) only [fl, fmN, mm_lt, Nat.reduceAdd, Option.bind_some, lt_t, lt_f, le_t, le_f, eq_f, eq_self, nI_add, nI_mul, nI_sub, ↓reduceIte, zq_171, ld_nI, hs, iv_n hv, md_w0i hs hv ha hb]
    rfl
  · unfold f_Mod_wedding_L73
    simp (disch := omega) only [fl, fmN, mm_lt, Nat.reduceAdd, Option.bind_some, lt_t, lt_f, le_t, le_f, eq_f, eq_self, nI_add, nI_mul, nI_sub, ↓reduceIte, zq_171, ld_nI, hs, iv_n hv]
    rfl
theorem md_w1 (hs : u.1 171 = S) (hv : Inv S) {a b : Nat} {w : Int32} (ha : a < 8) (hb : b < 8) : mm_lp (f_Mod_wedding_L73 z_Law u 169 (nI a) (nI b) (nI 1) w) (nI 0, nI 0, nI 0) = some (w1 S a b, nI (wn (sn S) (sn S))) := by
  have n10 := iv_n10 hv
  refine lp_go (fun i => (fo (fun x s => w1i S a b x s) i (nI 0), nI (wn (sn S) i), nI i)) (sn S) rfl (fun i hi => ?_) ?_
  · have := wn_le (sn S) i n10 (by omega)
    unfold f_Mod_wedding_L73 f_Mod_wedding_J97
    simp (disch := omega) only [fl, fmN, mm_lt, Nat.reduceAdd, Option.bind_some, lt_t, lt_f, le_t, le_f, eq_f, eq_self, nI_add, nI_mul, nI_sub, ↓reduceIte, zq_171, ld_nI, hs, iv_n hv, md_w1i hs hv ha hb]
    rfl
  · unfold f_Mod_wedding_L73
    simp (disch := omega) only [fl, fmN, mm_lt, Nat.reduceAdd, Option.bind_some, lt_t, lt_f, le_t, le_f, eq_f, eq_self, nI_add, nI_mul, nI_sub, ↓reduceIte, zq_171, ld_nI, hs, iv_n hv]
    rfl
theorem tri {n : Nat} (hn : n ≤ 10) (h2 : 2 ≤ n) : mm_idiv (nI (n * (n - 1))) (nI 2) = some (nI (wn n n)) ∧ 0 < wn n n := by
  rw [wn_all n hn]
  have hle : n * (n - 1) ≤ 10 * 9 := Nat.mul_le_mul hn (by omega)
  have hge : 2 * 1 ≤ n * (n - 1) := Nat.mul_le_mul h2 (by omega)
  constructor
  · unfold mm_idiv
    rw [if_neg (by decide), pk_div (by omega) (by decide) (by decide)]
  · omega
theorem op_wedding (hR : RL σ) (a b c d : Int32) : opT σ (f_Hat_wedding z_Law σ 0 a b c d) (fun u => f_Mod_wedding z_Law u 169 a b c d) := by
  have hv := rl_v (rs hR)
  have hn := rl_n (rs hR)
  have hm := rl_m (rs hR)
  have n10 := iv_n10 hv
  have m8 := iv_m8 hv
  have hI := rl_I (rs hR)
  rcases arg_of a (sm (σ.1 171)) (by omega) with ⟨k, hk, rfl⟩ | h
  · rcases arg_of b (sm (σ.1 171)) (by omega) with ⟨j, hj, rfl⟩ | h2
    · by_cases hkj : k = j
      · subst hkj
        refine opT_no hR (w := nI 0) ?_ ?_
        · unfold f_Hat_wedding
          simp (disch := omega) only [fl, fmN, mm_lt, Nat.reduceAdd, Option.bind_some, lt_t, lt_f, le_t, le_f, eq_f, eq_self, nI_add, nI_mul, nI_sub, ↓reduceIte, nm_has hm hk]
        · unfold f_Mod_wedding f_Mod_wedding_J56
          simp (disch := omega) only [fl, fmN, mm_lt, Nat.reduceAdd, Option.bind_some, lt_t, lt_f, le_t, le_f, eq_f, eq_self, nI_add, nI_mul, nI_sub, ↓reduceIte, md_isH hv rfl hk, md_throwsIf1]
      · rcases arg_of c 2 (by decide) with ⟨p, hp, rfl⟩ | h3
        · rcases arg_of d 2 (by decide) with ⟨q, hq, rfl⟩ | h4
          · by_cases hn2 : 2 ≤ sn (σ.1 171)
            · obtain ⟨t1, t2⟩ := tri n10 hn2
              have t3 := wn_le (sn (σ.1 171)) (sn (σ.1 171)) n10 n10
              refine opT_yes hR (v := if p = 0 then ((if q = 0 then (w0 (σ.1 171) k j).toInt64 else lN (sn (σ.1 171))) / lN (Nat.gcd (w0 (σ.1 171) k j).toInt64.toInt.natAbs (sn (σ.1 171)))).toInt32 else ((if q = 0 then (w1 (σ.1 171) k j).toInt64 else lN (wn (sn (σ.1 171)) (sn (σ.1 171)))) / lN (Nat.gcd (w1 (σ.1 171) k j).toInt64.toInt.natAbs (wn (sn (σ.1 171)) (sn (σ.1 171))))).toInt32) ?_ (fun u hu => ?_)
              · unfold f_Hat_wedding f_Hat_wedding_J120 f_Hat_wedding_J140 f_Hat_wedding_J156
                simp (disch := omega) only [fl, fmN, mm_lt, Nat.reduceAdd, Option.bind_some, lt_t, lt_f, le_t, le_f, eq_f, eq_self, nI_add, nI_mul, nI_sub, ↓reduceIte, nm_has hm hk, nm_has hm hj, hn, hat_w0 (rs hR), hat_w1 (rs hR), t1, nI_l]
                by_cases h9 : p = 0
                · subst h9
                  simp only [eq_self, if_true]
                  by_cases h8 : q = 0
                  · subst h8
                    simp only [eq_self, if_true]
                    rw [hat_least (by omega) (by omega) (i64_min _)]; rfl
                  · simp (disch := omega) only [eq_f, if_false, if_neg h8]
                    rw [hat_least (by omega) (by omega) (i64_min _)]; rfl
                · simp (disch := omega) only [eq_f, if_false, if_neg h9]
                  by_cases h8 : q = 0
                  · subst h8
                    simp only [eq_self, if_true]
                    rw [hat_least (by omega) (by omega) (i64_min _)]; rfl
                  · simp (disch := omega) only [eq_f, if_false, if_neg h8]
                    rw [hat_least (by omega) (by omega) (i64_min _)]; rfl
              · have hs : u.1 171 = σ.1 171 := by rw [hu]
                have hs2 : (kI u 169 0 (nI 0)).1 171 = σ.1 171 := hs
                unfold f_Mod_wedding f_Mod_wedding_J56
                simp (disch := omega) only [fl, fmN, mm_lt, Nat.reduceAdd, Option.bind_some, lt_t, lt_f, le_t, le_f, eq_f, eq_self, nI_add, nI_mul, nI_sub, ↓reduceIte, md_isH hv hs hk, md_isH hv hs hj, md_isIn (v := nI p) rfl, md_isIn (v := nI q) rfl, md_throwsIf0, th_171, hs, zq_171, ld_nI, iv_n hv]
                by_cases h9 : p = 0
                · subst h9
                  rw [md_w0 hs2 hv (by omega) (by omega), if_pos rfl]
                  simp (disch := omega) only [Option.bind_some, nI_l]
                  rw [md_part (by omega) (by omega) (i64_min _) hq]; rfl
                · have h1 : p = 1 := by omega
                  subst h1
                  rw [md_w1 hs2 hv (by omega) (by omega), if_neg h9]
                  simp (disch := omega) only [Option.bind_some, nI_l]
                  rw [md_part (by omega) (by omega) (i64_min _) hq]; rfl
            · refine opT_no hR (w := nI 0) ?_ ?_
              · unfold f_Hat_wedding
                simp (disch := omega) only [fl, fmN, mm_lt, Nat.reduceAdd, Option.bind_some, lt_t, lt_f, le_t, le_f, eq_f, eq_self, nI_add, nI_mul, nI_sub, ↓reduceIte, nm_has hm hk, nm_has hm hj, hn]
              · unfold f_Mod_wedding f_Mod_wedding_J56
                simp (disch := omega) only [fl, fmN, mm_lt, Nat.reduceAdd, Option.bind_some, lt_t, lt_f, le_t, le_f, eq_f, eq_self, nI_add, nI_mul, nI_sub, ↓reduceIte, md_isH hv rfl hk, md_isH hv rfl hj, md_isIn (v := nI p) rfl, md_isIn (v := nI q) rfl, zq_171, ld_nI, iv_n hv, md_throwsIf1]
          · refine opT_no hR (w := nI 0) ?_ ?_
            · unfold f_Hat_wedding
              simp (disch := omega) only [fl, fmN, mm_lt, Nat.reduceAdd, Option.bind_some, lt_t, lt_f, le_t, le_f, eq_f, eq_self, nI_add, nI_mul, nI_sub, ↓reduceIte, nm_has hm hk, nm_has hm hj, hn, out_le h4, ite_self]
            · unfold f_Mod_wedding f_Mod_wedding_J56
              simp (disch := omega) only [fl, fmN, mm_lt, Nat.reduceAdd, Option.bind_some, lt_t, lt_f, le_t, le_f, eq_f, eq_self, nI_add, nI_mul, nI_sub, ↓reduceIte, md_isH hv rfl hk, md_isH hv rfl hj, md_isIn (v := nI p) rfl, out_md h4, md_throwsIf1]
        · refine opT_no hR (w := nI 0) ?_ ?_
          · unfold f_Hat_wedding
            simp (disch := omega) only [fl, fmN, mm_lt, Nat.reduceAdd, Option.bind_some, lt_t, lt_f, le_t, le_f, eq_f, eq_self, nI_add, nI_mul, nI_sub, ↓reduceIte, nm_has hm hk, nm_has hm hj, hn, out_lt h3, ite_self]
          · unfold f_Mod_wedding f_Mod_wedding_J56
            simp (disch := omega) only [fl, fmN, mm_lt, Nat.reduceAdd, Option.bind_some, lt_t, lt_f, le_t, le_f, eq_f, eq_self, nI_add, nI_mul, nI_sub, ↓reduceIte, md_isH hv rfl hk, md_isH hv rfl hj, out_md h3, md_throwsIf1]
    · refine opT_no hR (w := nI 0) ?_ ?_
      · unfold f_Hat_wedding
        simp (disch := omega) only [fl, fmN, mm_lt, Nat.reduceAdd, Option.bind_some, lt_t, lt_f, le_t, le_f, eq_f, eq_self, nI_add, nI_mul, nI_sub, ↓reduceIte, nm_has hm hk, nm_hasnt hm h2]
      · unfold f_Mod_wedding f_Mod_wedding_J56
        simp (disch := omega) only [fl, fmN, mm_lt, Nat.reduceAdd, Option.bind_some, lt_t, lt_f, le_t, le_f, eq_f, eq_self, nI_add, nI_mul, nI_sub, ↓reduceIte, md_isH hv rfl hk, md_isntH hv rfl h2, md_throwsIf1]
  · refine opT_no hR (w := nI 0) ?_ ?_
    · unfold f_Hat_wedding
      simp (disch := omega) only [fl, fmN, mm_lt, Nat.reduceAdd, Option.bind_some, lt_t, lt_f, le_t, le_f, eq_f, eq_self, nI_add, nI_mul, nI_sub, ↓reduceIte, nm_hasnt hm h]
    · unfold f_Mod_wedding f_Mod_wedding_J56
      simp (disch := omega) only [fl, fmN, mm_lt, Nat.reduceAdd, Option.bind_some, lt_t, lt_f, le_t, le_f, eq_f, eq_self, nI_add, nI_mul, nI_sub, ↓reduceIte, md_isntH hv rfl h, md_throwsIf1]
end OPS4
