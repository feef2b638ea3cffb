theorem zq_4 : z_Law 4 = 940 := rfl
theorem zq_8 : z_Law 8 = 10 := rfl
theorem zq_10 : z_Law 10 = 8 := rfl
theorem zq_12 : z_Law 12 = 10 := rfl
theorem zq_14 : z_Law 14 = 10 := rfl
theorem zq_16 : z_Law 16 = 10 := rfl
theorem zq_18 : z_Law 18 = 80 := rfl
theorem zq_21 : z_Law 21 = 8 := rfl
theorem zq_23 : z_Law 23 = 8 := rfl
theorem zq_25 : z_Law 25 = 8 := rfl
theorem zq_27 : z_Law 27 = 8 := rfl
theorem zq_29 : z_Law 29 = 200 := rfl
theorem zq_31 : z_Law 31 = 200 := rfl
theorem zq_33 : z_Law 33 = 8 := rfl
theorem zq_35 : z_Law 35 = 30 := rfl
theorem zq_37 : z_Law 37 = 30 := rfl
theorem zq_39 : z_Law 39 = 30 := rfl
theorem zq_42 : z_Law 42 = 8 := rfl
theorem zq_44 : z_Law 44 = 8 := rfl
theorem zq_46 : z_Law 46 = 8 := rfl
theorem zq_49 : z_Law 49 = 8 := rfl
theorem zq_51 : z_Law 51 = 8 := rfl
theorem zq_53 : z_Law 53 = 8 := rfl
theorem zq_55 : z_Law 55 = 4 := rfl
theorem zq_57 : z_Law 57 = 8 := rfl
theorem zq_59 : z_Law 59 = 4 := rfl
theorem zq_63 : z_Law 63 = 10 := rfl
theorem zq_65 : z_Law 65 = 8 := rfl
theorem zq_67 : z_Law 67 = 10 := rfl
theorem zq_69 : z_Law 69 = 10 := rfl
theorem zq_71 : z_Law 71 = 10 := rfl
theorem zq_73 : z_Law 73 = 80 := rfl
theorem zq_76 : z_Law 76 = 8 := rfl
theorem zq_78 : z_Law 78 = 8 := rfl
theorem zq_80 : z_Law 80 = 8 := rfl
theorem zq_82 : z_Law 82 = 8 := rfl
theorem zq_84 : z_Law 84 = 200 := rfl
theorem zq_86 : z_Law 86 = 200 := rfl
theorem zq_88 : z_Law 88 = 8 := rfl
theorem zq_90 : z_Law 90 = 30 := rfl
theorem zq_92 : z_Law 92 = 30 := rfl
theorem zq_94 : z_Law 94 = 30 := rfl
theorem zq_98 : z_Law 98 = 10 := rfl
theorem zq_100 : z_Law 100 = 8 := rfl
theorem zq_102 : z_Law 102 = 10 := rfl
theorem zq_104 : z_Law 104 = 10 := rfl
theorem zq_106 : z_Law 106 = 10 := rfl
theorem zq_108 : z_Law 108 = 80 := rfl
theorem zq_111 : z_Law 111 = 8 := rfl
theorem zq_113 : z_Law 113 = 8 := rfl
theorem zq_115 : z_Law 115 = 8 := rfl
theorem zq_117 : z_Law 117 = 8 := rfl
theorem zq_119 : z_Law 119 = 200 := rfl
theorem zq_121 : z_Law 121 = 200 := rfl
theorem zq_123 : z_Law 123 = 8 := rfl
theorem zq_125 : z_Law 125 = 30 := rfl
theorem zq_127 : z_Law 127 = 30 := rfl
theorem zq_129 : z_Law 129 = 30 := rfl
theorem zq_133 : z_Law 133 = 10 := rfl
theorem zq_135 : z_Law 135 = 8 := rfl
theorem zq_137 : z_Law 137 = 10 := rfl
theorem zq_139 : z_Law 139 = 10 := rfl
theorem zq_141 : z_Law 141 = 10 := rfl
theorem zq_143 : z_Law 143 = 80 := rfl
theorem zq_146 : z_Law 146 = 8 := rfl
theorem zq_148 : z_Law 148 = 8 := rfl
theorem zq_150 : z_Law 150 = 8 := rfl
theorem zq_152 : z_Law 152 = 8 := rfl
theorem zq_154 : z_Law 154 = 200 := rfl
theorem zq_156 : z_Law 156 = 200 := rfl
theorem zq_158 : z_Law 158 = 8 := rfl
theorem zq_160 : z_Law 160 = 30 := rfl
theorem zq_162 : z_Law 162 = 30 := rfl
theorem zq_164 : z_Law 164 = 30 := rfl
theorem zq_167 : z_Law 167 = 1024 := rfl
theorem zq_168 : z_Law 168 = 13 := rfl
theorem zq_170 : z_Law 170 = 940 := rfl
theorem zq_171 : z_Law 171 = 744 := rfl
theorem zq_172 : z_Law 172 = 131 := rfl
theorem zq_173 : z_Law 173 = 121 := rfl
theorem zq_174 : z_Law 174 = 36 := rfl
theorem zq_175 : z_Law 175 = 17 := rfl
theorem zq_176 : z_Law 176 = 8 := rfl
theorem zq_177 : z_Law 177 = 8 := rfl
theorem zq_178 : z_Law 178 = 8 := rfl
theorem zq_179 : z_Law 179 = 8 := rfl
theorem zq_180 : z_Law 180 = 4 := rfl
theorem zq_181 : z_Law 181 = 16 := rfl
theorem zq_182 : z_Law 182 = 8 := rfl
theorem zq_183 : z_Law 183 = 8 := rfl
theorem zq_184 : z_Law 184 = 1024 := rfl
theorem zq_185 : z_Law 185 = 8 := rfl
theorem zq_186 : z_Law 186 = 13 := rfl
theorem zq_187 : z_Law 187 = 1488 := rfl
theorem zq_188 : z_Law 188 = 36 := rfl
theorem zq_189 : z_Law 189 = 2 := rfl
theorem zq_190 : z_Law 190 = 1 := rfl
/-! what the reference's rows hold -/
def sn (S : Nat → Int32) : Nat := (S 0).toNatClampNeg
def sm (S : Nat → Int32) : Nat := (S 1).toNatClampNeg
def pw (S : Nat → Int32) : Nat := (S 2).toNatClampNeg
def sc (S : Nat → Int32) : Nat := (S 3).toNatClampNeg
def sp (S : Nat → Int32) : Nat := (S 131).toNatClampNeg
def sr (S : Nat → Int32) : Nat := (S 532).toNatClampNeg
def sb (S : Nat → Int32) : Nat := (S 623).toNatClampNeg
/-- nothing, or a number below n -/
def hq (n : Nat) (w : Int32) : Prop := w = mN ∨ ∃ x, x < n ∧ w = nI x
def e256 : List Nat → Nat := List.foldl (fun a c => a * 256 + c) 0
def e128 : List Nat → Nat := List.foldl (fun a c => a * 128 + c) 0
/-- one word of at most seven small letters in both codes -/
def WR (a b : Int64) : Prop := ∃ l : List Nat, (∀ c ∈ l, 97 ≤ c ∧ c ≤ 122) ∧ l.length ≤ 7 ∧ a = lN (e256 l) ∧ b = lN (e128 l)
def bookOK (n m : Nat) (w a b : Int32) : Prop := (∃ q, q ≤ 5 ∧ w = nI q) ∧ (w ≠ nI 5 → ∃ k, k < m ∧ a = nI k) ∧ (w = nI 0 ∨ w = nI 1 → ∃ k, k < m ∧ b = nI k) ∧ (w = nI 3 → ∃ x, x < n ∧ b = nI x) ∧ (w = nI 5 → a = nI 0)
def Inv (S : Nat → Int32) : Prop :=
  (S 0 = nI (sn S) ∧ sn S ≤ 10) ∧ (S 1 = nI (sm S) ∧ sm S ≤ 8) ∧ (S 2 = nI (pw S) ∧ 1 ≤ pw S ∧ pw S ≤ 4) ∧ (S 3 = nI (sc S) ∧ 1 ≤ sc S ∧ sc S ≤ 8) ∧ (S 131 = nI (sp S) ∧ sp S ≤ 24) ∧ (S 532 = nI (sr S) ∧ sr S ≤ 30) ∧ (S 623 = nI (sb S) ∧ sb S ≤ 30)
  ∧ (∀ k, k < 8 → hq (sn S) (S (123 + k))) ∧ (∀ k, sm S ≤ k → k < 8 → S (123 + k) = mN) ∧ (∀ j k, j < k → k < 8 → S (123 + j) = S (123 + k) → S (123 + k) = mN)
  ∧ (∀ t, t < sp S → (∀ k, k < 8 → hq (sn S) (S (132 + 8 * t + k))) ∧ ∀ j k, j < k → k < 8 → S (132 + 8 * t + j) = S (132 + 8 * t + k) → S (132 + 8 * t + k) = mN)
  ∧ (∀ t k, 1 ≤ t → t ≤ sp S → k < sm S → hq (sn S) (S (332 + 8 * t + k)))
  ∧ (∀ x y, x < 10 → y < 10 → bt (S (25 + x)) y = bt (S (25 + y)) x)
  ∧ (∀ i, i < sr S → (∃ k, k < sm S ∧ S (533 + 3 * i) = nI k) ∧ (S (534 + 3 * i) = nI 0 ∨ S (534 + 3 * i) = nI 1) ∧ ∃ x, x < sn S ∧ S (535 + 3 * i) = nI x)
  ∧ (∀ i, i < sb S → bookOK (sn S) (sm S) (S (624 + 4 * i)) (S (625 + 4 * i)) (S (626 + 4 * i)))
  ∧ (sp S ≠ 0 → sn S ≠ 0)
section INV
variable {S : Nat → Int32}
theorem iv_n (h : Inv S) : S 0 = nI (sn S) := h.1.1
theorem iv_n10 (h : Inv S) : sn S ≤ 10 := h.1.2
theorem iv_m (h : Inv S) : S 1 = nI (sm S) := h.2.1.1
theorem iv_m8 (h : Inv S) : sm S ≤ 8 := h.2.1.2
theorem iv_p (h : Inv S) : S 2 = nI (pw S) ∧ 1 ≤ pw S ∧ pw S ≤ 4 := h.2.2.1
theorem iv_c (h : Inv S) : S 3 = nI (sc S) ∧ 1 ≤ sc S ∧ sc S ≤ 8 := h.2.2.2.1
theorem iv_sp (h : Inv S) : S 131 = nI (sp S) := h.2.2.2.2.1.1
theorem iv_sp24 (h : Inv S) : sp S ≤ 24 := h.2.2.2.2.1.2
theorem iv_sr (h : Inv S) : S 532 = nI (sr S) := h.2.2.2.2.2.1.1
theorem iv_sr30 (h : Inv S) : sr S ≤ 30 := h.2.2.2.2.2.1.2
theorem iv_sb (h : Inv S) : S 623 = nI (sb S) := h.2.2.2.2.2.2.1.1
theorem iv_sb30 (h : Inv S) : sb S ≤ 30 := h.2.2.2.2.2.2.1.2
theorem iv_held (h : Inv S) : ∀ k, k < 8 → hq (sn S) (S (123 + k)) := h.2.2.2.2.2.2.2.1
theorem iv_none (h : Inv S) : ∀ k, sm S ≤ k → k < 8 → S (123 + k) = mN := h.2.2.2.2.2.2.2.2.1
theorem iv_one (h : Inv S) : ∀ j k, j < k → k < 8 → S (123 + j) = S (123 + k) → S (123 + k) = mN := h.2.2.2.2.2.2.2.2.2.1
theorem iv_kept (h : Inv S) : ∀ t, t < sp S → (∀ k, k < 8 → hq (sn S) (S (132 + 8 * t + k))) ∧ ∀ j k, j < k → k < 8 → S (132 + 8 * t + j) = S (132 + 8 * t + k) → S (132 + 8 * t + k) = mN := h.2.2.2.2.2.2.2.2.2.2.1
theorem iv_drew (h : Inv S) : ∀ t k, 1 ≤ t → t ≤ sp S → k < sm S → hq (sn S) (S (332 + 8 * t + k)) := h.2.2.2.2.2.2.2.2.2.2.2.1
theorem iv_feud (h : Inv S) : ∀ x y, x < 10 → y < 10 → bt (S (25 + x)) y = bt (S (25 + y)) x := h.2.2.2.2.2.2.2.2.2.2.2.2.1
theorem iv_roll (h : Inv S) : ∀ i, i < sr S → (∃ k, k < sm S ∧ S (533 + 3 * i) = nI k) ∧ (S (534 + 3 * i) = nI 0 ∨ S (534 + 3 * i) = nI 1) ∧ ∃ x, x < sn S ∧ S (535 + 3 * i) = nI x := h.2.2.2.2.2.2.2.2.2.2.2.2.2.1
theorem iv_book (h : Inv S) : ∀ i, i < sb S → bookOK (sn S) (sm S) (S (624 + 4 * i)) (S (625 + 4 * i)) (S (626 + 4 * i)) := h.2.2.2.2.2.2.2.2.2.2.2.2.2.2.1
theorem iv_pos (h : Inv S) : sp S ≠ 0 → sn S ≠ 0 := h.2.2.2.2.2.2.2.2.2.2.2.2.2.2.2
end INV
/-- what a HOUSE has of a SURNAME -/
def vw (S : Nat → Int32) (k x : Nat) : Int32 := (fun v => if S (15 + x) = nI 1 then S 4 - v else v) (if nI 0 < S (35 + 10 * k + x) then S (35 + 10 * k + x) - nI 1 else S (5 + x))
def vv (S : Nat → Int32) (k : Nat) (w : Int32) : Int32 := if w = mN then nI 0 else vw S k w.toNatClampNeg
/-! the class's objects beside the reference's rows -/
def IR (σ : Mm) (i : Nat) (S : Nat → Int32) : Prop :=
  σ.1 (i + 1) 1 = S 0 ∧ σ.1 (i + 3) 1 = S 1 ∧ σ.1 i 6 = S 2 ∧ σ.1 i 7 = S 3 ∧ σ.1 i 8 = S 4 ∧ (∀ x, x < 10 → σ.1 (i + 6) x = S (5 + x)) ∧ (∀ x, x < 10 → σ.1 (i + 8) x = S (15 + x)) ∧ (∀ x, x < 10 → σ.1 (i + 10) x = S (25 + x)) ∧ (∀ k x, k < 8 → x < 10 → σ.1 (i + 12) (10 * k + x) = S (35 + 10 * k + x) - nI 1) ∧ (∀ k x, k < 8 → x < 10 → S (35 + 10 * k + x) = nI 0 ∨ nI 0 < S (35 + 10 * k + x))
def NR (σ : Mm) (i : Nat) (S : Nat → Int32) (N : Nat → Int64) : Prop := (∀ x, x < sn S → WR (N x) (σ.2 (i + 2) x)) ∧ ∀ k, k < sm S → WR (N (10 + k)) (σ.2 (i + 4) k)
def HR (σ : Mm) (d : Nat) (S : Nat → Int32) : Prop := (∀ k, k < 8 → σ.1 (d + 2) k = S (123 + k)) ∧ ∀ k, k < 8 → σ.1 (d + 4) k = S (115 + k)
/-- the bits that the first i LINES of a ROLL leave a HOUSE -/
def rf (S : Nat → Int32) (k : Nat) : Nat → Int32
  | 0 => 1023
  | i + 1 => if S (533 + 3 * i) = nI k then rf S k i &&& (if S (534 + 3 * i) = nI 1 then (1 : Int32) <<< (S (535 + 3 * i) &&& 31) else ((1 : Int32) <<< (S (535 + 3 * i) &&& 31)) ^^^ (-1)) else rf S k i
def bkw (w : Int32) : Int32 := if w = nI 4 then nI 8 else if w = nI 5 then nI 16 else w + nI 12
def SR (σ : Mm) (b : Nat) (S : Nat → Int32) (N : Nat → Int64) : Prop :=
  IR σ (b + 1) S ∧ NR σ (b + 1) S N ∧ HR σ (b + 14) S ∧ σ.1 b 2 = S 131 ∧ (∀ t k, t < sp S → k < 8 → σ.1 (b + 24) (8 * t + k) = S (132 + 8 * t + k)) ∧ (∀ t k, 1 ≤ t → t ≤ sp S → k < sm S → σ.1 (b + 26) (8 * t + k) = S (332 + 8 * t + k)) ∧ σ.1 b 5 = S 532 ∧ (∀ k, k < sm S → σ.1 (b + 28) k = rf S k (sr S)) ∧ σ.1 b 7 = S 623 ∧ (∀ i, i < sb S → σ.1 (b + 30) i = bkw (S (624 + 4 * i)) ∧ (S (624 + 4 * i) ≠ nI 5 → σ.1 (b + 32) i = S (625 + 4 * i)) ∧ (S (624 + 4 * i) ≠ nI 5 → S (624 + 4 * i) ≠ nI 2 → σ.1 (b + 34) i = S (626 + 4 * i)))
/-- the tape -/
def cT (σ : Mm) : Prop := ∃ len, len ≤ 940 ∧ σ.1 0 1 = nI len ∧ σ.1 169 2 = nI len ∧ ∀ i, i < len → σ.1 4 i = σ.1 170 i &&& 255
/-- what the latest RING and the latest seats were -/
def cR (σ : Mm) : Prop := ∃ n, n ≤ 8 ∧ σ.1 40 1 = nI n ∧ (σ.1 169 26 = nI n ∨ (n = 0 ∧ σ.1 169 26 = mN)) ∧ ∀ i, i < n → σ.1 42 i = σ.1 177 i
def cS (σ : Mm) : Prop := σ.1 47 1 = σ.1 169 35 ∧ hq 9 (σ.1 47 1) ∧ ∀ i, i < (σ.1 47 1).toNatClampNeg → σ.1 49 i = σ.1 183 i
def cW (σ : Mm) : Prop := σ.1 0 6 = σ.1 169 32 ∧ (σ.1 0 6 = nI 0 ∨ σ.1 0 6 = nI 1) ∧ (σ.1 0 6 = nI 1 → ∀ i, i < 4 → σ.1 59 i = σ.1 180 i)
def cI (σ : Mm) : Prop := σ.1 0 11 = σ.1 189 0 ∧ (σ.1 0 11 = nI 0 ∨ σ.1 0 11 = nI 1) ∧ (σ.1 0 11 = nI 1 → SR σ 95 (σ.1 187) (σ.2 188) ∧ Inv (σ.1 187)) ∧ σ.1 0 12 = σ.1 189 1 ∧ (σ.1 0 12 = nI 0 ∨ σ.1 0 12 = nI 1) ∧ (σ.1 0 12 = nI 1 → SR σ 130 (fun i => σ.1 187 (744 + i)) (fun i => σ.2 188 (18 + i)) ∧ Inv (fun i => σ.1 187 (744 + i)))
def resv : List Nat := [1851878757, 109356082488676, 123563917862244, 448546567013, 448545973363, 512735736947, 1717925220, 1885697907, 1936290931, 439854918756, 6840691, 7237492, 1937203568, 1734964837, 1685221232, 1952541541, 500135191653]
def cN (σ : Mm) : Prop := ∀ k, k < 17 → σ.2 175 k = lN (resv.getD k 0)
/-- both objects tell the same -/
def RL (σ : Mm) : Prop := cT σ ∧ σ.1 0 2 = σ.1 169 15 ∧ (SR σ 60 (σ.1 171) (σ.2 174) ∧ Inv (σ.1 171)) ∧ cR σ ∧ cS σ ∧ cW σ ∧ cI σ ∧ cN σ
