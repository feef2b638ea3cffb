/-! NameHat.Row.fill(I)V -/
abbrev b_Row_fill : ByteArray := prog_8_method_4_code
def y_Row_fill : MethodName := ⟨"NameHat$Row", "fill", "(I)V"⟩
abbrev rm_Row_fill : Room := { frames := 0, cells := 0, slots := 0, locals := 0 }
theorem hd_Row_fill : y_Row_fill.cls ≠ "java/lang/invoke/MethodHandle" ∧ y_Row_fill.cls ≠ "java/lang/invoke/VarHandle" ∧ (parseMethodDescriptor y_Row_fill.desc).map (fun d => d.parameters.length) = some 1 := by decide +kernel
theorem d_Row_fill_0 : decode b_Row_fill 0 = .ok (.iconst 0, 1) := by decide +kernel
theorem d_Row_fill_1 : decode b_Row_fill 1 = .ok (.istore_n 2, 1) := by decide +kernel
theorem d_Row_fill_2 : decode b_Row_fill 2 = .ok (.iload_n 2, 1) := by decide +kernel
theorem d_Row_fill_3 : decode b_Row_fill 3 = .ok (.aload_n 0, 1) := by decide +kernel
theorem d_Row_fill_4 : decode b_Row_fill 4 = .ok (.getfield 9, 3) := by decide +kernel
theorem d_Row_fill_7 : decode b_Row_fill 7 = .ok (.arraylength, 1) := by decide +kernel
theorem d_Row_fill_8 : decode b_Row_fill 8 = .ok (.if_icmp .ge 16, 3) := by decide +kernel
theorem d_Row_fill_11 : decode b_Row_fill 11 = .ok (.aload_n 0, 1) := by decide +kernel
theorem d_Row_fill_12 : decode b_Row_fill 12 = .ok (.getfield 9, 3) := by decide +kernel
theorem d_Row_fill_15 : decode b_Row_fill 15 = .ok (.iload_n 2, 1) := by decide +kernel
theorem d_Row_fill_16 : decode b_Row_fill 16 = .ok (.iload_n 1, 1) := by decide +kernel
theorem d_Row_fill_17 : decode b_Row_fill 17 = .ok (.iastore, 1) := by decide +kernel
theorem d_Row_fill_18 : decode b_Row_fill 18 = .ok (.iinc 2 1, 3) := by decide +kernel
theorem d_Row_fill_21 : decode b_Row_fill 21 = .ok (.goto (-19), 3) := by decide +kernel
theorem d_Row_fill_24 : decode b_Row_fill 24 = .ok (.return_, 1) := by decide +kernel
noncomputable def f_Row_fill_L2 (z : Nat → Nat) (o : Nat) (v1 : Int32) (s2 : Int32 × Mm) : Option ((Int32 × Mm) ⊕ (Mm)) :=
  if (nI (z (o + 1))) ≤ s2.1 then (
    some (.inr s2.2)
  ) else (
    (mm_stI s2.2 (o + 1) (z (o + 1)) s2.1 v1).bind fun m17 =>
    mm_lt (s2.1 + (1 : Int32)) fun x18 =>
    some (.inl (x18, m17))
  )
noncomputable def f_Row_fill (z : Nat → Nat) (σ : Mm) (o : Nat) (p1 : Int32) : Option (Mm) :=
  (mm_lp (f_Row_fill_L2 z o p1) ((0 : Int32), σ)).bind (fun q2 =>
    some q2)
set_option maxHeartbeats 4000000 in
set_option maxRecDepth 100000 in
theorem c_Row_fill (l : Launch) {L : Ly} (hg : gd_ok L) {σ : Mm} {o : Nat} {p1 : Int32} (k_o_0 : ly_k L o = 0) {res : Mm} (hf0 : f_Row_fill (ly_z L) σ o p1 = some res) : CtV l y_Row_fill b_Row_fill 3 (none) rm_Row_fill L [.ref (ly_a L o), .int p1] σ res := by
  refine ct_v hg (by decide) (Nat.le_of_ble_eq_true rfl) ?_
  intro E A Q hE C hN
  subst hE
  have k_o_1 : ly_k L (o + 1) = 20 := gd_Row_cells hg k_o_0
  unfold f_Row_fill at hf0
  show GW E L A 3 0 0 Q σ 0 [(0, .ref (ly_a L o)), (1, .int p1)] []
  refine gw_iconst C (0 : Int32) d_Row_fill_0 (by decide) ?_
  refine gw_istore_n C [(2, .int (0 : Int32)), (0, .ref (ly_a L o)), (1, .int p1)] d_Row_fill_1 rfl (by decide) rfl ?_
  obtain ⟨q2, hq2, hf0⟩ := mx_bd hf0
  have hk2 : ∀ x9, q2 = x9 → GW E L A 3 0 0 Q x9 24 [] [] := by
    intro x9 hx9
    subst hx9
    exact en_v hN hf0 d_Row_fill_24
  refine gw_sub [1, 2, 0] (lv' := [(0, .ref (ly_a L o)), (1, .int p1), (2, .int (0 : Int32))]) rfl ?_
  refine mm_rule hq2 (P := fun (s2 : Int32 × Mm) => GW E L A 3 0 0 Q s2.2 2 [(0, .ref (ly_a L o)), (1, .int p1), (2, .int s2.1)] []) ?_
  intro s2 ih2 hx2 ⟨w2, hb2⟩
  have hf1 := hb2
  unfold f_Row_fill_L2 at hf1
  refine gw_iload_n C 2 d_Row_fill_2 rfl rfl ?_
  refine gw_aload_n C 0 d_Row_fill_3 rfl rfl ?_
  refine gw_getA C 0 d_Row_fill_4 k_o_0 (by decide) i_Row rfl rfl (by decide) qw_50 rfl rfl (o + 1) rfl ?_
  refine gw_alen20 C d_Row_fill_7 k_o_1 ?_
  refine gw_icmp_ge C 24 d_Row_fill_8 (by decide) (fun hc => ?_) (fun hc => ?_)
  · replace hf1 := mx_t hc hf1
    exact gw_go [] (hk2 _ (hx2 _ (hb2.trans hf1.symm)).symm) rfl
  · replace hf1 := mx_f hc hf1
    refine gw_aload_n C 0 d_Row_fill_11 rfl rfl ?_
    refine gw_getA C 0 d_Row_fill_12 k_o_0 (by decide) i_Row rfl rfl (by decide) qw_50 rfl rfl (o + 1) rfl ?_
    refine gw_iload_n C 2 d_Row_fill_15 rfl rfl ?_
    refine gw_iload_n C 1 d_Row_fill_16 rfl rfl ?_
    obtain ⟨m17, hm17, hf1⟩ := mx_bd hf1
    obtain ⟨gm17, em17⟩ := mx_stI hm17
    refine gw_iast C d_Row_fill_17 k_o_1 gm17 em17 ?_
    obtain ⟨x18, ex18, hf1⟩ := mx_lt hf1
    refine gw_iinc C 2 [(2, .int x18), (0, .ref (ly_a L o)), (1, .int p1)] d_Row_fill_18 rfl (by rw [ex18]; rfl) (by decide) rfl ?_
    refine gw_goto C 2 d_Row_fill_21 (by decide) ?_
    exact gw_go [1, 2, 0] (ih2 _ (hb2.trans hf1.symm)) rfl

/-! NameHat.Row.put(II)V -/
abbrev b_Row_put : ByteArray := prog_8_method_3_code
def y_Row_put : MethodName := ⟨"NameHat$Row", "put", "(II)V"⟩
abbrev rm_Row_put : Room := { frames := 0, cells := 0, slots := 0, locals := 0 }
theorem hd_Row_put : y_Row_put.cls ≠ "java/lang/invoke/MethodHandle" ∧ y_Row_put.cls ≠ "java/lang/invoke/VarHandle" ∧ (parseMethodDescriptor y_Row_put.desc).map (fun d => d.parameters.length) = some 2 := by decide +kernel
theorem d_Row_put_0 : decode b_Row_put 0 = .ok (.iload_n 1, 1) := by decide +kernel
theorem d_Row_put_1 : decode b_Row_put 1 = .ok (.ifCond .lt 19, 3) := by decide +kernel
theorem d_Row_put_4 : decode b_Row_put 4 = .ok (.iload_n 1, 1) := by decide +kernel
theorem d_Row_put_5 : decode b_Row_put 5 = .ok (.aload_n 0, 1) := by decide +kernel
theorem d_Row_put_6 : decode b_Row_put 6 = .ok (.getfield 9, 3) := by decide +kernel
theorem d_Row_put_9 : decode b_Row_put 9 = .ok (.arraylength, 1) := by decide +kernel
theorem d_Row_put_10 : decode b_Row_put 10 = .ok (.if_icmp .ge 10, 3) := by decide +kernel
theorem d_Row_put_13 : decode b_Row_put 13 = .ok (.aload_n 0, 1) := by decide +kernel
theorem d_Row_put_14 : decode b_Row_put 14 = .ok (.getfield 9, 3) := by decide +kernel
theorem d_Row_put_17 : decode b_Row_put 17 = .ok (.iload_n 1, 1) := by decide +kernel
theorem d_Row_put_18 : decode b_Row_put 18 = .ok (.iload_n 2, 1) := by decide +kernel
theorem d_Row_put_19 : decode b_Row_put 19 = .ok (.iastore, 1) := by decide +kernel
theorem d_Row_put_20 : decode b_Row_put 20 = .ok (.return_, 1) := by decide +kernel
noncomputable def f_Row_put (z : Nat → Nat) (σ : Mm) (o : Nat) (p1 : Int32) (p2 : Int32) : Option (Mm) :=
  if p1 < 0 then (
    some σ
  ) else (
    if (nI (z (o + 1))) ≤ p1 then (
      some σ
    ) else (
      (mm_stI σ (o + 1) (z (o + 1)) p1 p2).bind fun m19 =>
      some m19
    )
  )
set_option maxHeartbeats 4000000 in
set_option maxRecDepth 100000 in
theorem c_Row_put (l : Launch) {L : Ly} (hg : gd_ok L) {σ : Mm} {o : Nat} {p1 : Int32} {p2 : Int32} (k_o_0 : ly_k L o = 0) {res : Mm} (hf0 : f_Row_put (ly_z L) σ o p1 p2 = some res) : CtV l y_Row_put b_Row_put 3 (none) rm_Row_put L [.ref (ly_a L o), .int p1, .int p2] σ res := by
  refine ct_v hg (by decide) (Nat.le_of_ble_eq_true rfl) ?_
  intro E A Q hE C hN
  subst hE
  have k_o_1 : ly_k L (o + 1) = 20 := gd_Row_cells hg k_o_0
  unfold f_Row_put at hf0
  show GW E L A 3 0 0 Q σ 0 [(0, .ref (ly_a L o)), (1, .int p1), (2, .int p2)] []
  refine gw_iload_n C 1 d_Row_put_0 rfl rfl ?_
  refine gw_if_lt C 20 d_Row_put_1 (by decide) (fun hc => ?_) (fun hc => ?_)
  · replace hf0 := mx_t hc hf0
    exact en_v hN hf0 d_Row_put_20
  · replace hf0 := mx_f hc hf0
    refine gw_iload_n C 1 d_Row_put_4 rfl rfl ?_
    refine gw_aload_n C 0 d_Row_put_5 rfl rfl ?_
    refine gw_getA C 0 d_Row_put_6 k_o_0 (by decide) i_Row rfl rfl (by decide) qw_50 rfl rfl (o + 1) rfl ?_
    refine gw_alen20 C d_Row_put_9 k_o_1 ?_
    refine gw_icmp_ge C 20 d_Row_put_10 (by decide) (fun hc => ?_) (fun hc => ?_)
    · replace hf0 := mx_t hc hf0
      exact en_v hN hf0 d_Row_put_20
    · replace hf0 := mx_f hc hf0
      refine gw_aload_n C 0 d_Row_put_13 rfl rfl ?_
      refine gw_getA C 0 d_Row_put_14 k_o_0 (by decide) i_Row rfl rfl (by decide) qw_50 rfl rfl (o + 1) rfl ?_
      refine gw_iload_n C 1 d_Row_put_17 rfl rfl ?_
      refine gw_iload_n C 2 d_Row_put_18 rfl rfl ?_
      obtain ⟨m19, hm19, hf0⟩ := mx_bd hf0
      obtain ⟨gm19, em19⟩ := mx_stI hm19
      refine gw_iast C d_Row_put_19 k_o_1 gm19 em19 ?_
      exact en_v hN hf0 d_Row_put_20

/-! NameHat.Row.at(I)I -/
abbrev b_Row_at : ByteArray := prog_8_method_2_code
def y_Row_at : MethodName := ⟨"NameHat$Row", "at", "(I)I"⟩
abbrev rm_Row_at : Room := { frames := 0, cells := 0, slots := 0, locals := 0 }
theorem hd_Row_at : y_Row_at.cls ≠ "java/lang/invoke/MethodHandle" ∧ y_Row_at.cls ≠ "java/lang/invoke/VarHandle" ∧ (parseMethodDescriptor y_Row_at.desc).map (fun d => d.parameters.length) = some 1 := by decide +kernel
theorem d_Row_at_0 : decode b_Row_at 0 = .ok (.iload_n 1, 1) := by decide +kernel
theorem d_Row_at_1 : decode b_Row_at 1 = .ok (.ifCond .lt 21, 3) := by decide +kernel
theorem d_Row_at_4 : decode b_Row_at 4 = .ok (.iload_n 1, 1) := by decide +kernel
theorem d_Row_at_5 : decode b_Row_at 5 = .ok (.aload_n 0, 1) := by decide +kernel
theorem d_Row_at_6 : decode b_Row_at 6 = .ok (.getfield 9, 3) := by decide +kernel
theorem d_Row_at_9 : decode b_Row_at 9 = .ok (.arraylength, 1) := by decide +kernel
theorem d_Row_at_10 : decode b_Row_at 10 = .ok (.if_icmp .ge 12, 3) := by decide +kernel
theorem d_Row_at_13 : decode b_Row_at 13 = .ok (.aload_n 0, 1) := by decide +kernel
theorem d_Row_at_14 : decode b_Row_at 14 = .ok (.getfield 9, 3) := by decide +kernel
theorem d_Row_at_17 : decode b_Row_at 17 = .ok (.iload_n 1, 1) := by decide +kernel
theorem d_Row_at_18 : decode b_Row_at 18 = .ok (.iaload, 1) := by decide +kernel
theorem d_Row_at_19 : decode b_Row_at 19 = .ok (.goto 4, 3) := by decide +kernel
theorem d_Row_at_22 : decode b_Row_at 22 = .ok (.iconst (-1), 1) := by decide +kernel
theorem d_Row_at_23 : decode b_Row_at 23 = .ok (.ireturn, 1) := by decide +kernel
noncomputable def f_Row_at (z : Nat → Nat) (σ : Mm) (o : Nat) (p1 : Int32) : Option (Int32) :=
  if p1 < 0 then (
    some ((-1) : Int32)
  ) else (
    if (nI (z (o + 1))) ≤ p1 then (
      some ((-1) : Int32)
    ) else (
      (mm_ldI (σ.1 (o + 1)) (z (o + 1)) p1).bind fun x18 =>
      some x18
    )
  )
set_option maxHeartbeats 4000000 in
set_option maxRecDepth 100000 in
theorem c_Row_at (l : Launch) {L : Ly} (hg : gd_ok L) {σ : Mm} {o : Nat} {p1 : Int32} (k_o_0 : ly_k L o = 0) {res : Int32} (hf0 : f_Row_at (ly_z L) σ o p1 = some res) : CtI l y_Row_at b_Row_at 2 (some .int) rm_Row_at L [.ref (ly_a L o), .int p1] σ res σ := by
  refine ct_i hg (by decide) (Nat.le_of_ble_eq_true rfl) ?_
  intro E A Q hE C hN
  subst hE
  have k_o_1 : ly_k L (o + 1) = 20 := gd_Row_cells hg k_o_0
  unfold f_Row_at at hf0
  show GW E L A 2 0 0 Q σ 0 [(0, .ref (ly_a L o)), (1, .int p1)] []
  refine gw_iload_n C 1 d_Row_at_0 rfl rfl ?_
  refine gw_if_lt C 22 d_Row_at_1 (by decide) (fun hc => ?_) (fun hc => ?_)
  · replace hf0 := mx_t hc hf0
    refine gw_iconst C ((-1) : Int32) d_Row_at_22 (by decide) ?_
    exact en_ip hN hf0 d_Row_at_23
  · replace hf0 := mx_f hc hf0
    refine gw_iload_n C 1 d_Row_at_4 rfl rfl ?_
    refine gw_aload_n C 0 d_Row_at_5 rfl rfl ?_
    refine gw_getA C 0 d_Row_at_6 k_o_0 (by decide) i_Row rfl rfl (by decide) qw_50 rfl rfl (o + 1) rfl ?_
    refine gw_alen20 C d_Row_at_9 k_o_1 ?_
    refine gw_icmp_ge C 22 d_Row_at_10 (by decide) (fun hc => ?_) (fun hc => ?_)
    · replace hf0 := mx_t hc hf0
      refine gw_iconst C ((-1) : Int32) d_Row_at_22 (by decide) ?_
      exact en_ip hN hf0 d_Row_at_23
    · replace hf0 := mx_f hc hf0
      refine gw_aload_n C 0 d_Row_at_13 rfl rfl ?_
      refine gw_getA C 0 d_Row_at_14 k_o_0 (by decide) i_Row rfl rfl (by decide) qw_50 rfl rfl (o + 1) rfl ?_
      refine gw_iload_n C 1 d_Row_at_17 rfl rfl ?_
      obtain ⟨x18, hx18, hf0⟩ := mx_bd hf0
      obtain ⟨gx18, ex18⟩ := mx_ldI hx18
      refine gw_iald C d_Row_at_18 k_o_1 gx18 ex18 ?_
      refine gw_goto C 23 d_Row_at_19 (by decide) ?_
      exact en_ip hN hf0 d_Row_at_23

/-! NameHat.Names.find(J)I -/
abbrev b_Names_find : ByteArray := prog_5_method_5_code
def y_Names_find : MethodName := ⟨"NameHat$Names", "find", "(J)I"⟩
abbrev rm_Names_find : Room := { frames := 0, cells := 0, slots := 0, locals := 0 }
theorem hd_Names_find : y_Names_find.cls ≠ "java/lang/invoke/MethodHandle" ∧ y_Names_find.cls ≠ "java/lang/invoke/VarHandle" ∧ (parseMethodDescriptor y_Names_find.desc).map (fun d => d.parameters.length) = some 1 := by decide +kernel
theorem d_Names_find_0 : decode b_Names_find 0 = .ok (.iconst 0, 1) := by decide +kernel
theorem d_Names_find_1 : decode b_Names_find 1 = .ok (.istore_n 3, 1) := by decide +kernel
theorem d_Names_find_2 : decode b_Names_find 2 = .ok (.iload_n 3, 1) := by decide +kernel
theorem d_Names_find_3 : decode b_Names_find 3 = .ok (.aload_n 0, 1) := by decide +kernel
theorem d_Names_find_4 : decode b_Names_find 4 = .ok (.getfield 15, 3) := by decide +kernel
theorem d_Names_find_7 : decode b_Names_find 7 = .ok (.if_icmp .ge 31, 3) := by decide +kernel
theorem d_Names_find_10 : decode b_Names_find 10 = .ok (.iload_n 3, 1) := by decide +kernel
theorem d_Names_find_11 : decode b_Names_find 11 = .ok (.aload_n 0, 1) := by decide +kernel
theorem d_Names_find_12 : decode b_Names_find 12 = .ok (.getfield 9, 3) := by decide +kernel
theorem d_Names_find_15 : decode b_Names_find 15 = .ok (.arraylength, 1) := by decide +kernel
theorem d_Names_find_16 : decode b_Names_find 16 = .ok (.if_icmp .ge 22, 3) := by decide +kernel
theorem d_Names_find_19 : decode b_Names_find 19 = .ok (.aload_n 0, 1) := by decide +kernel
theorem d_Names_find_20 : decode b_Names_find 20 = .ok (.getfield 9, 3) := by decide +kernel
theorem d_Names_find_23 : decode b_Names_find 23 = .ok (.iload_n 3, 1) := by decide +kernel
theorem d_Names_find_24 : decode b_Names_find 24 = .ok (.laload, 1) := by decide +kernel
theorem d_Names_find_25 : decode b_Names_find 25 = .ok (.lload_n 1, 1) := by decide +kernel
theorem d_Names_find_26 : decode b_Names_find 26 = .ok (.lcmp, 1) := by decide +kernel
theorem d_Names_find_27 : decode b_Names_find 27 = .ok (.ifCond .ne 5, 3) := by decide +kernel
theorem d_Names_find_30 : decode b_Names_find 30 = .ok (.iload_n 3, 1) := by decide +kernel
theorem d_Names_find_31 : decode b_Names_find 31 = .ok (.ireturn, 1) := by decide +kernel
theorem d_Names_find_32 : decode b_Names_find 32 = .ok (.iinc 3 1, 3) := by decide +kernel
theorem d_Names_find_35 : decode b_Names_find 35 = .ok (.goto (-33), 3) := by decide +kernel
theorem d_Names_find_38 : decode b_Names_find 38 = .ok (.iconst (-1), 1) := by decide +kernel
theorem d_Names_find_39 : decode b_Names_find 39 = .ok (.ireturn, 1) := by decide +kernel
noncomputable def f_Names_find_L2 (z : Nat → Nat) (σ : Mm) (o : Nat) (v1 : Int64) (s2 : Int32) : Option ((Int32) ⊕ ((Int32) ⊕ (Unit))) :=
  if (σ.1 o 1) ≤ s2 then (
    some (.inr (.inr ()))
  ) else (
    if (nI (z (o + 1))) ≤ s2 then (
      some (.inr (.inr ()))
    ) else (
      (mm_ldL (σ.2 (o + 1)) (z (o + 1)) s2).bind fun x24 =>
      if (lg_cmp x24 v1) = 0 then (
        some (.inr (.inl s2))
      ) else (
        mm_lt (s2 + (1 : Int32)) fun x32 =>
        some (.inl x32)
      )
    )
  )
noncomputable def f_Names_find (z : Nat → Nat) (σ : Mm) (o : Nat) (p1 : Int64) : Option (Int32) :=
  (mm_lp (f_Names_find_L2 z σ o p1) (0 : Int32)).bind (Sum.elim (fun r9 => some r9) (fun x2_ =>
    some ((-1) : Int32)))
set_option maxHeartbeats 4000000 in
set_option maxRecDepth 100000 in
theorem c_Names_find (l : Launch) {L : Ly} (hg : gd_ok L) {σ : Mm} {o : Nat} {p1 : Int64} (k_o_0 : ly_k L o = 1) {res : Int32} (hf0 : f_Names_find (ly_z L) σ o p1 = some res) : CtI l y_Names_find b_Names_find 4 (some .int) rm_Names_find L [.ref (ly_a L o), .long p1] σ res σ := by
  refine ct_i hg (by decide) (Nat.le_of_ble_eq_true rfl) ?_
  intro E A Q hE C hN
  subst hE
  have k_o_1 : ly_k L (o + 1) = 21 := gd_Names_letters hg k_o_0
  unfold f_Names_find at hf0
  show GW E L A 4 0 0 Q σ 0 [(0, .ref (ly_a L o)), (1, .long p1)] []
  refine gw_iconst C (0 : Int32) d_Names_find_0 (by decide) ?_
  refine gw_istore_n C [(3, .int (0 : Int32)), (0, .ref (ly_a L o)), (1, .long p1)] d_Names_find_1 rfl (by decide) rfl ?_
  obtain ⟨q2, hq2, hf0⟩ := mx_bd hf0
  have hk2 : ∀ x2_, q2 = .inr x2_ → GW E L A 4 0 0 Q σ 38 [] [] := by
    intro x2_ hx9
    subst hx9
    replace hf0 := mx_sr hf0
    refine gw_iconst C ((-1) : Int32) d_Names_find_38 (by decide) ?_
    exact en_ip hN hf0 d_Names_find_39
  refine gw_sub [1, 2, 0] (lv' := [(0, .ref (ly_a L o)), (1, .long p1), (3, .int (0 : Int32))]) rfl ?_
  refine mm_rule hq2 (P := fun (s2 : Int32) => GW E L A 4 0 0 Q σ 2 [(0, .ref (ly_a L o)), (1, .long p1), (3, .int s2)] []) ?_
  intro s2 ih2 hx2 ⟨w2, hb2⟩
  have hf1 := hb2
  unfold f_Names_find_L2 at hf1
  refine gw_iload_n C 2 d_Names_find_2 rfl rfl ?_
  refine gw_aload_n C 0 d_Names_find_3 rfl rfl ?_
  refine gw_getI C 1 d_Names_find_4 k_o_0 (by decide) i_Names rfl rfl (by decide) qw_109 rfl rfl ?_
  refine gw_icmp_ge C 38 d_Names_find_7 (by decide) (fun hc => ?_) (fun hc => ?_)
  · replace hf1 := mx_t hc hf1
    exact gw_go [] (hk2 _ (hx2 _ (hb2.trans hf1.symm)).symm) rfl
  · replace hf1 := mx_f hc hf1
    refine gw_iload_n C 2 d_Names_find_10 rfl rfl ?_
    refine gw_aload_n C 0 d_Names_find_11 rfl rfl ?_
    refine gw_getA C 0 d_Names_find_12 k_o_0 (by decide) i_Names rfl rfl (by decide) qw_107 rfl rfl (o + 1) rfl ?_
    refine gw_alen21 C d_Names_find_15 k_o_1 ?_
    refine gw_icmp_ge C 38 d_Names_find_16 (by decide) (fun hc => ?_) (fun hc => ?_)
    · replace hf1 := mx_t hc hf1
      exact gw_go [] (hk2 _ (hx2 _ (hb2.trans hf1.symm)).symm) rfl
    · replace hf1 := mx_f hc hf1
      refine gw_aload_n C 0 d_Names_find_19 rfl rfl ?_
      refine gw_getA C 0 d_Names_find_20 k_o_0 (by decide) i_Names rfl rfl (by decide) qw_107 rfl rfl (o + 1) rfl ?_
      refine gw_iload_n C 2 d_Names_find_23 rfl rfl ?_
      obtain ⟨x24, hx24, hf1⟩ := mx_bd hf1
      obtain ⟨gx24, ex24⟩ := mx_ldL hx24
      refine gw_lald C d_Names_find_24 k_o_1 gx24 ex24 ?_
      refine gw_lload_n C 1 d_Names_find_25 rfl rfl ?_
      refine gw_lcmp C d_Names_find_26 ?_
      refine gw_if_ne C 32 d_Names_find_27 (by decide) (fun hc => ?_) (fun hc => ?_)
      · replace hf1 := mx_f hc hf1
        obtain ⟨x32, ex32, hf1⟩ := mx_lt hf1
        refine gw_iinc C 2 [(3, .int x32), (0, .ref (ly_a L o)), (1, .long p1)] d_Names_find_32 rfl (by rw [ex32]; rfl) (by decide) rfl ?_
        refine gw_goto C 2 d_Names_find_35 (by decide) ?_
        exact gw_go [1, 2, 0] (ih2 _ (hb2.trans hf1.symm)) rfl
      · replace hf1 := mx_t hc hf1
        refine gw_iload_n C 2 d_Names_find_30 rfl rfl ?_
        have hr2 := hx2 _ (hb2.trans hf1.symm)
        subst hr2
        replace hf0 := mx_sl hf0
        exact en_ip hN hf0 d_Names_find_31

/-! NameHat.Row.copyFrom(LNameHat.Row;)V -/
abbrev b_Row_copyFrom : ByteArray := prog_8_method_5_code
def y_Row_copyFrom : MethodName := ⟨"NameHat$Row", "copyFrom", "(LNameHat$Row;)V"⟩
abbrev rm_Row_copyFrom : Room := { frames := 0, cells := 0, slots := 0, locals := 0 }
theorem hd_Row_copyFrom : y_Row_copyFrom.cls ≠ "java/lang/invoke/MethodHandle" ∧ y_Row_copyFrom.cls ≠ "java/lang/invoke/VarHandle" ∧ (parseMethodDescriptor y_Row_copyFrom.desc).map (fun d => d.parameters.length) = some 1 := by decide +kernel
theorem d_Row_copyFrom_0 : decode b_Row_copyFrom 0 = .ok (.iconst 0, 1) := by decide +kernel
theorem d_Row_copyFrom_1 : decode b_Row_copyFrom 1 = .ok (.istore_n 2, 1) := by decide +kernel
theorem d_Row_copyFrom_2 : decode b_Row_copyFrom 2 = .ok (.iload_n 2, 1) := by decide +kernel
theorem d_Row_copyFrom_3 : decode b_Row_copyFrom 3 = .ok (.aload_n 0, 1) := by decide +kernel
theorem d_Row_copyFrom_4 : decode b_Row_copyFrom 4 = .ok (.getfield 9, 3) := by decide +kernel
theorem d_Row_copyFrom_7 : decode b_Row_copyFrom 7 = .ok (.arraylength, 1) := by decide +kernel
theorem d_Row_copyFrom_8 : decode b_Row_copyFrom 8 = .ok (.if_icmp .ge 30, 3) := by decide +kernel
theorem d_Row_copyFrom_11 : decode b_Row_copyFrom 11 = .ok (.iload_n 2, 1) := by decide +kernel
theorem d_Row_copyFrom_12 : decode b_Row_copyFrom 12 = .ok (.aload_n 1, 1) := by decide +kernel
theorem d_Row_copyFrom_13 : decode b_Row_copyFrom 13 = .ok (.getfield 9, 3) := by decide +kernel
theorem d_Row_copyFrom_16 : decode b_Row_copyFrom 16 = .ok (.arraylength, 1) := by decide +kernel
theorem d_Row_copyFrom_17 : decode b_Row_copyFrom 17 = .ok (.if_icmp .ge 21, 3) := by decide +kernel
theorem d_Row_copyFrom_20 : decode b_Row_copyFrom 20 = .ok (.aload_n 0, 1) := by decide +kernel
theorem d_Row_copyFrom_21 : decode b_Row_copyFrom 21 = .ok (.getfield 9, 3) := by decide +kernel
theorem d_Row_copyFrom_24 : decode b_Row_copyFrom 24 = .ok (.iload_n 2, 1) := by decide +kernel
theorem d_Row_copyFrom_25 : decode b_Row_copyFrom 25 = .ok (.aload_n 1, 1) := by decide +kernel
theorem d_Row_copyFrom_26 : decode b_Row_copyFrom 26 = .ok (.getfield 9, 3) := by decide +kernel
theorem d_Row_copyFrom_29 : decode b_Row_copyFrom 29 = .ok (.iload_n 2, 1) := by decide +kernel
theorem d_Row_copyFrom_30 : decode b_Row_copyFrom 30 = .ok (.iaload, 1) := by decide +kernel
theorem d_Row_copyFrom_31 : decode b_Row_copyFrom 31 = .ok (.iastore, 1) := by decide +kernel
theorem d_Row_copyFrom_32 : decode b_Row_copyFrom 32 = .ok (.iinc 2 1, 3) := by decide +kernel
theorem d_Row_copyFrom_35 : decode b_Row_copyFrom 35 = .ok (.goto (-33), 3) := by decide +kernel
theorem d_Row_copyFrom_38 : decode b_Row_copyFrom 38 = .ok (.return_, 1) := by decide +kernel
noncomputable def f_Row_copyFrom_L2 (z : Nat → Nat) (o : Nat) (o1 : Nat) (s2 : Int32 × Mm) : Option ((Int32 × Mm) ⊕ (Mm)) :=
  if (nI (z (o + 1))) ≤ s2.1 then (
    some (.inr s2.2)
  ) else (
    if (nI (z (o1 + 1))) ≤ s2.1 then (
      some (.inr s2.2)
    ) else (
      (mm_ldI (s2.2.1 (o1 + 1)) (z (o1 + 1)) s2.1).bind fun x30 =>
      (mm_stI s2.2 (o + 1) (z (o + 1)) s2.1 x30).bind fun m31 =>
      mm_lt (s2.1 + (1 : Int32)) fun x32 =>
      some (.inl (x32, m31))
    )
  )
noncomputable def f_Row_copyFrom (z : Nat → Nat) (σ : Mm) (o : Nat) (o1 : Nat) : Option (Mm) :=
  (mm_lp (f_Row_copyFrom_L2 z o o1) ((0 : Int32), σ)).bind (fun q2 =>
    some q2)
set_option maxHeartbeats 4000000 in
set_option maxRecDepth 100000 in
theorem c_Row_copyFrom (l : Launch) {L : Ly} (hg : gd_ok L) {σ : Mm} {o : Nat} {o1 : Nat} (k_o_0 : ly_k L o = 0) (k_o1_0 : ly_k L o1 = 0) {res : Mm} (hf0 : f_Row_copyFrom (ly_z L) σ o o1 = some res) : CtV l y_Row_copyFrom b_Row_copyFrom 3 (none) rm_Row_copyFrom L [.ref (ly_a L o), .ref (ly_a L o1)] σ res := by
  refine ct_v hg (by decide) (Nat.le_of_ble_eq_true rfl) ?_
  intro E A Q hE C hN
  subst hE
  have k_o_1 : ly_k L (o + 1) = 20 := gd_Row_cells hg k_o_0
  have k_o1_1 : ly_k L (o1 + 1) = 20 := gd_Row_cells hg k_o1_0
  unfold f_Row_copyFrom at hf0
  show GW E L A 3 0 0 Q σ 0 [(0, .ref (ly_a L o)), (1, .ref (ly_a L o1))] []
  refine gw_iconst C (0 : Int32) d_Row_copyFrom_0 (by decide) ?_
  refine gw_istore_n C [(2, .int (0 : Int32)), (0, .ref (ly_a L o)), (1, .ref (ly_a L o1))] d_Row_copyFrom_1 rfl (by decide) rfl ?_
  obtain ⟨q2, hq2, hf0⟩ := mx_bd hf0
  have hk2 : ∀ x9, q2 = x9 → GW E L A 3 0 0 Q x9 38 [] [] := by
    intro x9 hx9
    subst hx9
    exact en_v hN hf0 d_Row_copyFrom_38
  refine gw_sub [1, 2, 0] (lv' := [(0, .ref (ly_a L o)), (1, .ref (ly_a L o1)), (2, .int (0 : Int32))]) rfl ?_
  refine mm_rule hq2 (P := fun (s2 : Int32 × Mm) => GW E L A 3 0 0 Q s2.2 2 [(0, .ref (ly_a L o)), (1, .ref (ly_a L o1)), (2, .int s2.1)] []) ?_
  intro s2 ih2 hx2 ⟨w2, hb2⟩
  have hf1 := hb2
  unfold f_Row_copyFrom_L2 at hf1
  refine gw_iload_n C 2 d_Row_copyFrom_2 rfl rfl ?_
  refine gw_aload_n C 0 d_Row_copyFrom_3 rfl rfl ?_
  refine gw_getA C 0 d_Row_copyFrom_4 k_o_0 (by decide) i_Row rfl rfl (by decide) qw_50 rfl rfl (o + 1) rfl ?_
  refine gw_alen20 C d_Row_copyFrom_7 k_o_1 ?_
  refine gw_icmp_ge C 38 d_Row_copyFrom_8 (by decide) (fun hc => ?_) (fun hc => ?_)
  · replace hf1 := mx_t hc hf1
    exact gw_go [] (hk2 _ (hx2 _ (hb2.trans hf1.symm)).symm) rfl
  · replace hf1 := mx_f hc hf1
    refine gw_iload_n C 2 d_Row_copyFrom_11 rfl rfl ?_
    refine gw_aload_n C 1 d_Row_copyFrom_12 rfl rfl ?_
    refine gw_getA C 0 d_Row_copyFrom_13 k_o1_0 (by decide) i_Row rfl rfl (by decide) qw_50 rfl rfl (o1 + 1) rfl ?_
    refine gw_alen20 C d_Row_copyFrom_16 k_o1_1 ?_
    refine gw_icmp_ge C 38 d_Row_copyFrom_17 (by decide) (fun hc => ?_) (fun hc => ?_)
    · replace hf1 := mx_t hc hf1
      exact gw_go [] (hk2 _ (hx2 _ (hb2.trans hf1.symm)).symm) rfl
    · replace hf1 := mx_f hc hf1
      refine gw_aload_n C 0 d_Row_copyFrom_20 rfl rfl ?_
      refine gw_getA C 0 d_Row_copyFrom_21 k_o_0 (by decide) i_Row rfl rfl (by decide) qw_50 rfl rfl (o + 1) rfl ?_
      refine gw_iload_n C 2 d_Row_copyFrom_24 rfl rfl ?_
      refine gw_aload_n C 1 d_Row_copyFrom_25 rfl rfl ?_
      refine gw_getA C 0 d_Row_copyFrom_26 k_o1_0 (by decide) i_Row rfl rfl (by decide) qw_50 rfl rfl (o1 + 1) rfl ?_
      refine gw_iload_n C 2 d_Row_copyFrom_29 rfl rfl ?_
      obtain ⟨x30, hx30, hf1⟩ := mx_bd hf1
      obtain ⟨gx30, ex30⟩ := mx_ldI hx30
      refine gw_iald C d_Row_copyFrom_30 k_o1_1 gx30 ex30 ?_
      obtain ⟨m31, hm31, hf1⟩ := mx_bd hf1
      obtain ⟨gm31, em31⟩ := mx_stI hm31
      refine gw_iast C d_Row_copyFrom_31 k_o_1 gm31 em31 ?_
      obtain ⟨x32, ex32, hf1⟩ := mx_lt hf1
      refine gw_iinc C 2 [(2, .int x32), (0, .ref (ly_a L o)), (1, .ref (ly_a L o1))] d_Row_copyFrom_32 rfl (by rw [ex32]; rfl) (by decide) rfl ?_
      refine gw_goto C 2 d_Row_copyFrom_35 (by decide) ?_
      exact gw_go [1, 2, 0] (ih2 _ (hb2.trans hf1.symm)) rfl

