/-! the draft of an ISLAND -/
section ISL
variable {a a' b b' m u : Mm} {H H' : Nat → Int32} {N N' : Nat → Int64} {i : Nat}
def InvH (H : Nat → Int32) : Prop := (H 0 = nI (sn H) ∧ sn H ≤ 10) ∧ (H 1 = nI (sm H) ∧ sm H ≤ 8) ∧ (H 2 = nI (pw H) ∧ 1 ≤ pw H ∧ pw H ≤ 4) ∧ (H 3 = nI (sc H) ∧ 1 ≤ sc H ∧ sc H ≤ 8) ∧ (∀ k, k < 8 → hq (sn H) (H (123 + k))) ∧ (∀ k, sm H ≤ k → k < 8 → H (123 + k) = mN) ∧ (∀ j k, j < k → k < 8 → H (123 + j) = H (123 + k) → H (123 + k) = mN) ∧ ∀ x y, x < 10 → y < 10 → bt (H (25 + x)) y = bt (H (25 + y)) x
def Co (a : Mm) (H : Nat → Int32) (N : Nat → Int64) : Prop := IR a 6 H ∧ NR a 6 H N ∧ HR a 19 H ∧ InvH H ∧ ∀ x, sn H ≤ x → x < 10 → H (15 + x) = nI 0
theorem cl_n {v : Int32} {n : Nat} (h : v = nI n) (hn : n < 2 ^ 31) : v.toNatClampNeg = n := by rw [h, nI_clamp hn]
theorem Co_c (h : Co a H N) (e1 : ∀ q, 6 ≤ q → q < 28 → a'.1 q = a.1 q) (e2 : ∀ q, 6 ≤ q → q < 28 → a'.2 q = a.2 q) : Co a' H N :=
  ⟨IR_c h.1 (fun j hj => e1 _ (by omega) (by omega)), NR_c h.2.1 (fun j hj => e2 _ (by omega) (by omega)), HR_c h.2.2.1 (e1 21 (by decide) (by decide)) (e1 23 (by decide) (by decide)), h.2.2.2⟩
theorem hq_mono {n n' : Nat} {w : Int32} (h : hq n w) (hn : n ≤ n') : hq n' w := by
  rcases h with h | ⟨x, hx, h⟩
  · exact Or.inl h
  · exact Or.inr ⟨x, by omega, h⟩
theorem Co_name {n : Nat} {l : List Nat} {v kd : Int32} (hC : Co a H N) (hn : n = sn H) (h10 : n < 10) (hl : okl l) (a1 : a'.1 7 1 = nI (n + 1)) (a2 : a'.1 9 = a.1 9) (a3 : a'.1 6 = a.1 6) (a4 : ∀ x, a'.1 12 x = if x = n then v else a.1 12 x) (a5 : ∀ x, a'.1 14 x = if x = n then kd else a.1 14 x) (a6 : a'.1 16 = a.1 16) (a7 : a'.1 18 = a.1 18) (a8 : a'.1 21 = a.1 21) (a9 : a'.1 23 = a.1 23) (l1 : ∀ x, a'.2 8 x = if x = n then lN (e128 l) else a.2 8 x) (l2 : a'.2 10 = a.2 10) (H0 : H' 0 = nI (n + 1)) (H5 : H' (5 + n) = v) (H15 : H' (15 + n) = kd) (Ho : ∀ q, q ≠ 0 → q ≠ 5 + n → q ≠ 15 + n → H' q = H q) (N1 : ∀ k, N' k = if k = n then lN (e256 l) else N k) : Co a' H' N' := by
  obtain ⟨c1, c2, c3, c4, c5⟩ := hC
  have esn : sn H' = n + 1 := cl_n H0 (by omega)
  have esm : sm H' = sm H := sm_c (Ho 1 (by omega) (by omega) (by omega))
  have epw : pw H' = pw H := pw_c (Ho 2 (by omega) (by omega) (by omega))
  have esc : sc H' = sc H := sc_c (Ho 3 (by omega) (by omega) (by omega))
  refine ⟨⟨a1.trans H0.symm, ?_, ?_, ?_, ?_, fun x hx => ?_, fun x hx => ?_, fun x hx => ?_, fun k x hk hx => ?_, fun k x hk hx => ?_⟩, ⟨fun x hx => ?_, fun k hk => ?_⟩, ⟨fun k hk => ?_, fun k hk => ?_⟩, ?_, fun x h1 h2 => ?_⟩
  · show a'.1 9 1 = _; rw [a2, Ho 1 (by omega) (by omega) (by omega)]; exact c1.2.1
  · rw [a3, Ho 2 (by omega) (by omega) (by omega)]; exact c1.2.2.1
  · rw [a3, Ho 3 (by omega) (by omega) (by omega)]; exact c1.2.2.2.1
  · rw [a3, Ho 4 (by omega) (by omega) (by omega)]; exact c1.2.2.2.2.1
  · show a'.1 12 x = _
    rw [a4]
    by_cases g : x = n
    · rw [if_pos g, g, H5]
    · rw [if_neg g, Ho _ (by omega) (by omega) (by omega)]; exact c1.2.2.2.2.2.1 x hx
  · show a'.1 14 x = _
    rw [a5]
    by_cases g : x = n
    · rw [if_pos g, g, H15]
    · rw [if_neg g, Ho _ (by omega) (by omega) (by omega)]; exact c1.2.2.2.2.2.2.1 x hx
  · show a'.1 16 x = _
    rw [a6, Ho _ (by omega) (by omega) (by omega)]; exact c1.2.2.2.2.2.2.2.1 x hx
  · show a'.1 18 _ = _
    rw [a7, Ho _ (by omega) (by omega) (by omega)]; exact c1.2.2.2.2.2.2.2.2.1 k x hk hx
  · rw [Ho _ (by omega) (by omega) (by omega)]; exact c1.2.2.2.2.2.2.2.2.2 k x hk hx
  · rw [esn] at hx
    show WR (N' x) (a'.2 8 x)
    rw [N1, l1]
    by_cases g : x = n
    · rw [if_pos g, if_pos g]; exact ⟨l, hl.1, hl.2, rfl, rfl⟩
    · rw [if_neg g, if_neg g]; exact c2.1 x (by omega)
  · rw [esm] at hk
    show WR (N' (10 + k)) (a'.2 10 k)
    rw [N1, l2, if_neg (by omega)]; exact c2.2 k hk
  · show a'.1 21 k = _
    rw [a8, Ho _ (by omega) (by omega) (by omega)]; exact c3.1 k hk
  · show a'.1 23 k = _
    rw [a9, Ho _ (by omega) (by omega) (by omega)]; exact c3.2 k hk
  · unfold InvH
    rw [esn, esm, epw, esc, Ho 1 (by omega) (by omega) (by omega), Ho 2 (by omega) (by omega) (by omega), Ho 3 (by omega) (by omega) (by omega)]
    refine ⟨⟨H0, by omega⟩, c4.2.1, c4.2.2.1, c4.2.2.2.1, fun k hk => ?_, fun k h1 h2 => ?_, fun j k h1 h2 => ?_, fun x y hx hy => ?_⟩
    · rw [Ho _ (by omega) (by omega) (by omega)]; exact hq_mono (c4.2.2.2.2.1 k hk) (by omega)
    · rw [Ho _ (by omega) (by omega) (by omega)]; exact c4.2.2.2.2.2.1 k h1 h2
    · rw [Ho _ (by omega) (by omega) (by omega), Ho _ (by omega) (by omega) (by omega)]; exact c4.2.2.2.2.2.2.1 j k h1 h2
    · rw [Ho _ (by omega) (by omega) (by omega), Ho _ (by omega) (by omega) (by omega)]; exact c4.2.2.2.2.2.2.2 x y hx hy
  · rw [esn] at h1
    rw [Ho _ (by omega) (by omega) (by omega)]; exact c5 x (by omega) h2
theorem Co_house {k0 : Nat} {l : List Nat} {w : Int32} (hC : Co a H N) (hn : k0 = sm H) (h8 : k0 < 8) (hl : okl l) (hw : w = mN ∨ ∃ x, x < sn H ∧ w = nI x ∧ ∀ j, j < 8 → H (123 + j) ≠ nI x) (a1 : a'.1 9 1 = nI (k0 + 1)) (a2 : a'.1 7 = a.1 7) (a3 : a'.1 6 = a.1 6) (a4 : a'.1 12 = a.1 12) (a5 : a'.1 14 = a.1 14) (a6 : a'.1 16 = a.1 16) (a7 : a'.1 18 = a.1 18) (a8 : ∀ k, a'.1 21 k = if k = k0 then w else a.1 21 k) (a9 : a'.1 23 = a.1 23) (l1 : ∀ x, a'.2 10 x = if x = k0 then lN (e128 l) else a.2 10 x) (l2 : a'.2 8 = a.2 8) (H1 : H' 1 = nI (k0 + 1)) (H5 : H' (123 + k0) = w) (Ho : ∀ q, q ≠ 1 → q ≠ 123 + k0 → H' q = H q) (N1 : ∀ k, N' k = if k = 10 + k0 then lN (e256 l) else N k) : Co a' H' N' := by
  obtain ⟨c1, c2, c3, c4, c5⟩ := hC
  have n10 := c4.1.2
  have esm : sm H' = k0 + 1 := cl_n H1 (by omega)
  have esn : sn H' = sn H := sn_c (Ho 0 (by omega) (by omega))
  have epw : pw H' = pw H := pw_c (Ho 2 (by omega) (by omega))
  have esc : sc H' = sc H := sc_c (Ho 3 (by omega) (by omega))
  refine ⟨⟨?_, a1.trans H1.symm, ?_, ?_, ?_, fun x hx => ?_, fun x hx => ?_, fun x hx => ?_, fun k x hk hx => ?_, fun k x hk hx => ?_⟩, ⟨fun x hx => ?_, fun k hk => ?_⟩, ⟨fun k hk => ?_, fun k hk => ?_⟩, ?_, fun x h1 h2 => ?_⟩
  · show a'.1 7 1 = _; rw [a2, Ho 0 (by omega) (by omega)]; exact c1.1
  · rw [a3, Ho 2 (by omega) (by omega)]; exact c1.2.2.1
  · rw [a3, Ho 3 (by omega) (by omega)]; exact c1.2.2.2.1
  · rw [a3, Ho 4 (by omega) (by omega)]; exact c1.2.2.2.2.1
  · show a'.1 12 x = _; rw [a4, Ho _ (by omega) (by omega)]; exact c1.2.2.2.2.2.1 x hx
  · show a'.1 14 x = _; rw [a5, Ho _ (by omega) (by omega)]; exact c1.2.2.2.2.2.2.1 x hx
  · show a'.1 16 x = _; rw [a6, Ho _ (by omega) (by omega)]; exact c1.2.2.2.2.2.2.2.1 x hx
  · show a'.1 18 _ = _; rw [a7, Ho _ (by omega) (by omega)]; exact c1.2.2.2.2.2.2.2.2.1 k x hk hx
  · rw [Ho _ (by omega) (by omega)]; exact c1.2.2.2.2.2.2.2.2.2 k x hk hx
  · rw [esn] at hx
    show WR (N' x) (a'.2 8 x)
    rw [N1, l2, if_neg (by omega)]; exact c2.1 x hx
  · rw [esm] at hk
    show WR (N' (10 + k)) (a'.2 10 k)
    rw [N1, l1]
    by_cases g : k = k0
    · rw [if_pos (by omega), if_pos g]; exact ⟨l, hl.1, hl.2, rfl, rfl⟩
    · rw [if_neg (by omega), if_neg g]; exact c2.2 k (by omega)
  · show a'.1 21 k = _
    rw [a8]
    by_cases g : k = k0
    · rw [if_pos g, g, H5]
    · rw [if_neg g, Ho _ (by omega) (by omega)]; exact c3.1 k hk
  · show a'.1 23 k = _; rw [a9, Ho _ (by omega) (by omega)]; exact c3.2 k hk
  · unfold InvH
    rw [esn, esm, epw, esc, Ho 0 (by omega) (by omega), Ho 2 (by omega) (by omega), Ho 3 (by omega) (by omega)]
    refine ⟨c4.1, ⟨H1, by omega⟩, c4.2.2.1, c4.2.2.2.1, fun k hk => ?_, fun k h1 h2 => ?_, fun j k h1 h2 h3 => ?_, fun x y hx hy => ?_⟩
    · by_cases g : k = k0
      · rw [g, H5]
        rcases hw with hw | ⟨x, hx, hw, -⟩
        · exact Or.inl hw
        · exact Or.inr ⟨x, hx, hw⟩
      · rw [Ho _ (by omega) (by omega)]; exact c4.2.2.2.2.1 k hk
    · rw [Ho _ (by omega) (by omega)]; exact c4.2.2.2.2.2.1 k (by omega) h2
    · by_cases g : k = k0
      · subst g
        rw [H5] at h3 ⊢
        rw [Ho _ (by omega) (by omega)] at h3
        rcases hw with hw | ⟨x, hx, hw, hn⟩
        · exact hw
        · exact absurd (h3.trans hw) (hn j (by omega))
      · by_cases g2 : j = k0
        · subst g2
          rw [H5, Ho _ (by omega) (by omega)] at h3
          rw [Ho _ (by omega) (by omega)]
          rcases hw with hw | ⟨x, hx, hw, hn⟩
          · exact h3.symm.trans hw
          · exact absurd (h3.symm.trans hw) (hn k h2)
        · rw [Ho _ (by omega) (by omega), Ho _ (by omega) (by omega)] at h3
          rw [Ho _ (by omega) (by omega)]; exact c4.2.2.2.2.2.2.1 j k h1 h2 h3
    · rw [Ho _ (by omega) (by omega), Ho _ (by omega) (by omega)]; exact c4.2.2.2.2.2.2.2 x y hx hy
  · rw [esn] at h1
    rw [Ho _ (by omega) (by omega)]; exact c5 x h1 h2
/-- what else a LINE tells: nothing of how many there are, nor of what is held -/
theorem Co_up (hC : Co a H N) (e0 : H' 0 = H 0) (e1 : H' 1 = H 1) (eh : ∀ k, k < 8 → H' (123 + k) = H (123 + k)) (e15 : ∀ x, x < 10 → H' (15 + x) = H (15 + x)) (e5 : ∀ x, x < 10 → H' (5 + x) = H (5 + x)) (a1 : a'.1 7 = a.1 7) (a2 : a'.1 9 = a.1 9) (a4 : a'.1 12 = a.1 12) (a5 : a'.1 14 = a.1 14) (a8 : a'.1 21 = a.1 21) (l1 : a'.2 8 = a.2 8) (l2 : a'.2 10 = a.2 10) (b2 : a'.1 6 6 = H' 2 ∧ H' 2 = nI (pw H') ∧ 1 ≤ pw H' ∧ pw H' ≤ 4) (b3 : a'.1 6 7 = H' 3 ∧ H' 3 = nI (sc H') ∧ 1 ≤ sc H' ∧ sc H' ≤ 8) (b4 : a'.1 6 8 = H' 4) (bf : ∀ x, x < 10 → a'.1 16 x = H' (25 + x)) (bs : ∀ x y, x < 10 → y < 10 → bt (H' (25 + x)) y = bt (H' (25 + y)) x) (bw : ∀ k x, k < 8 → x < 10 → a'.1 18 (10 * k + x) = H' (35 + 10 * k + x) - nI 1) (bw2 : ∀ k x, k < 8 → x < 10 → H' (35 + 10 * k + x) = nI 0 ∨ nI 0 < H' (35 + 10 * k + x)) (bi : ∀ k, k < 8 → a'.1 23 k = H' (115 + k)) : Co a' H' N := by
  obtain ⟨c1, c2, c3, c4, c5⟩ := hC
  have esm : sm H' = sm H := sm_c e1
  have esn : sn H' = sn H := sn_c e0
  refine ⟨⟨?_, ?_, b2.1, b3.1, b4, fun x hx => ?_, fun x hx => ?_, bf, bw, bw2⟩, ⟨fun x hx => ?_, fun k hk => ?_⟩, ⟨fun k hk => ?_, bi⟩, ?_, fun x h1 h2 => ?_⟩
  · show a'.1 7 1 = _; rw [a1, e0]; exact c1.1
  · show a'.1 9 1 = _; rw [a2, e1]; exact c1.2.1
  · show a'.1 12 x = _; rw [a4, e5 x hx]; exact c1.2.2.2.2.2.1 x hx
  · show a'.1 14 x = _; rw [a5, e15 x hx]; exact c1.2.2.2.2.2.2.1 x hx
  · rw [esn] at hx; show WR _ (a'.2 8 x); rw [l1]; exact c2.1 x hx
  · rw [esm] at hk; show WR _ (a'.2 10 k); rw [l2]; exact c2.2 k hk
  · show a'.1 21 k = _; rw [a8, eh k hk]; exact c3.1 k hk
  · unfold InvH
    rw [esn, esm, e0, e1]
    refine ⟨c4.1, c4.2.1, b2.2, b3.2, fun k hk => ?_, fun k h1 h2 => ?_, fun j k h1 h2 h3 => ?_, bs⟩
    · rw [eh k hk]; exact c4.2.2.2.2.1 k hk
    · rw [eh k h2]; exact c4.2.2.2.2.2.1 k h1 h2
    · rw [eh k h2, eh j (by omega)] at h3; rw [eh k h2]; exact c4.2.2.2.2.2.2.1 j k h1 h2 h3
  · rw [esn] at h1
    rw [e15 x h2]; exact c5 x h1 h2
def Nb (b : Mm) : Nat → Int64 := fun k => b.2 174 (18 + k)
def Di (i : Nat) (a b : Mm) : Prop := a.1 1 2 = nI i ∧ b.1 169 19 = nI i ∧ a.1 1 3 = nI 0 ∧ b.1 169 15 = nI 0 ∧ (a.1 1 6 = b.1 169 21 ∧ (a.1 1 6 = nI 0 ∨ a.1 1 6 = nI 1)) ∧ (a.1 1 7 = b.1 169 22 ∧ (a.1 1 7 = nI 0 ∨ a.1 1 7 = nI 1)) ∧ a.1 1 8 = b.1 169 20 ∧ (a.1 5 2 = nI 0 ∧ a.1 5 5 = nI 0 ∧ a.1 5 7 = nI 0) ∧ (∀ k, k < 8 → a.1 33 k = nI 1023) ∧ Co a (b.1 172) (Nb b)
theorem Di_fin (hD : Di i a b) (hC : Co a' (b'.1 172) (Nb b')) (e2 : a'.1 1 2 = a.1 1 2) (e3 : a'.1 1 3 = a.1 1 3) (f1 : b'.1 169 19 = b.1 169 19) (f2 : b'.1 169 15 = b.1 169 15) (g6 : a'.1 1 6 = b'.1 169 21 ∧ (a'.1 1 6 = nI 0 ∨ a'.1 1 6 = nI 1)) (g7 : a'.1 1 7 = b'.1 169 22 ∧ (a'.1 1 7 = nI 0 ∨ a'.1 1 7 = nI 1)) (g8 : a'.1 1 8 = b'.1 169 20) (e5 : a'.1 5 = a.1 5) (e33 : a'.1 33 = a.1 33) : a'.1 1 2 = nI i ∧ b'.1 169 19 = nI i ∧ Di (i + 1) (kI a' 1 2 (nI (i + 1))) (kI b' 169 19 (nI (i + 1))) := by
  obtain ⟨d1, d2, d3, d4, d5, d6, d7, d8, d9, d10⟩ := hD
  have bo : (kI b' 169 19 (nI (i + 1))).1 172 = b'.1 172 := kI_o _ _ _ _ (by decide)
  refine ⟨e2.trans d1, f1.trans d2, kI_e, kI_e, ?_, ?_, ?_, ?_, ?_, ?_, ?_, ?_⟩
  · rw [kI_f (by decide), e3]; exact d3
  · rw [kI_f (by decide), f2]; exact d4
  · rw [kI_f (by decide), kI_f (by decide)]; exact g6
  · rw [kI_f (by decide), kI_f (by decide)]; exact g7
  · rw [kI_f (by decide), kI_f (by decide)]; exact g8
  · rw [kI_o _ _ _ _ (by decide), e5]; exact d8
  · rw [kI_o _ _ _ _ (by decide), e33]; exact d9
  · rw [bo]
    exact Co_c hC (fun q h1 h2 => kI_o _ _ _ _ (by omega)) (fun q h1 h2 => rfl)
end ISL
