/-! NameHat.Names.allBits()I -/
abbrev b_Names_allBits : ByteArray := prog_5_method_4_code
def y_Names_allBits : MethodName := ⟨"NameHat$Names", "allBits", "()I"⟩
abbrev rm_Names_allBits : Room := { frames := 0, cells := 0, slots := 0, locals := 0 }
theorem hd_Names_allBits : y_Names_allBits.cls ≠ "java/lang/invoke/MethodHandle" ∧ y_Names_allBits.cls ≠ "java/lang/invoke/VarHandle" ∧ (parseMethodDescriptor y_Names_allBits.desc).map (fun d => d.parameters.length) = some 0 := by decide +kernel
theorem d_Names_allBits_0 : decode b_Names_allBits 0 = .ok (.iconst 1, 1) := by decide +kernel
theorem d_Names_allBits_1 : decode b_Names_allBits 1 = .ok (.aload_n 0, 1) := by decide +kernel
theorem d_Names_allBits_2 : decode b_Names_allBits 2 = .ok (.getfield 15, 3) := by decide +kernel
theorem d_Names_allBits_5 : decode b_Names_allBits 5 = .ok (.ishl, 1) := by decide +kernel
theorem d_Names_allBits_6 : decode b_Names_allBits 6 = .ok (.iconst 1, 1) := by decide +kernel
theorem d_Names_allBits_7 : decode b_Names_allBits 7 = .ok (.isub, 1) := by decide +kernel
theorem d_Names_allBits_8 : decode b_Names_allBits 8 = .ok (.ireturn, 1) := by decide +kernel
noncomputable def f_Names_allBits (z : Nat → Nat) (σ : Mm) (o : Nat) : Option (Int32) :=
  some (((1 : Int32) <<< ((σ.1 o 1) &&& 31)) - (1 : Int32))
set_option maxHeartbeats 4000000 in
set_option maxRecDepth 100000 in
theorem c_Names_allBits (l : Launch) {L : Ly} (hg : gd_ok L) {σ : Mm} {o : Nat} (k_o_0 : ly_k L o = 1) {res : Int32} (hf0 : f_Names_allBits (ly_z L) σ o = some res) : CtI l y_Names_allBits b_Names_allBits 1 (some .int) rm_Names_allBits L [.ref (ly_a L o)] σ res σ := by
  refine ct_i hg (by decide) (Nat.le_of_ble_eq_true rfl) ?_
  intro E A Q hE C hN
  subst hE
  unfold f_Names_allBits at hf0
  show GW E L A 1 0 0 Q σ 0 [(0, .ref (ly_a L o))] []
  refine gw_iconst C (1 : Int32) d_Names_allBits_0 (by decide) ?_
  refine gw_aload_n C 0 d_Names_allBits_1 rfl rfl ?_
  refine gw_getI C 1 d_Names_allBits_2 k_o_0 (by decide) i_Names rfl rfl (by decide) qw_109 rfl rfl ?_
  refine gw_ishl C d_Names_allBits_5 ?_
  refine gw_iconst C (1 : Int32) d_Names_allBits_6 (by decide) ?_
  refine gw_isub C d_Names_allBits_7 ?_
  exact en_ip hN hf0 d_Names_allBits_8

/-! java/lang/Integer.bitCount(I)I -/
abbrev b_Int_bitCount : ByteArray := prog_19_method_49_code
def y_Int_bitCount : MethodName := ⟨"java/lang/Integer", "bitCount", "(I)I"⟩
abbrev rm_Int_bitCount : Room := { frames := 0, cells := 0, slots := 0, locals := 0 }
theorem hd_Int_bitCount : y_Int_bitCount.cls ≠ "java/lang/invoke/MethodHandle" ∧ y_Int_bitCount.cls ≠ "java/lang/invoke/VarHandle" ∧ (parseMethodDescriptor y_Int_bitCount.desc).map (fun d => d.parameters.length) = some 1 := by decide +kernel
theorem d_Int_bitCount_0 : decode b_Int_bitCount 0 = .ok (.iload_n 0, 1) := by decide +kernel
theorem d_Int_bitCount_1 : decode b_Int_bitCount 1 = .ok (.iload_n 0, 1) := by decide +kernel
theorem d_Int_bitCount_2 : decode b_Int_bitCount 2 = .ok (.iconst 1, 1) := by decide +kernel
theorem d_Int_bitCount_3 : decode b_Int_bitCount 3 = .ok (.iushr, 1) := by decide +kernel
theorem d_Int_bitCount_4 : decode b_Int_bitCount 4 = .ok (.ldc_w 265, 3) := by decide +kernel
theorem d_Int_bitCount_7 : decode b_Int_bitCount 7 = .ok (.iand, 1) := by decide +kernel
theorem d_Int_bitCount_8 : decode b_Int_bitCount 8 = .ok (.isub, 1) := by decide +kernel
theorem d_Int_bitCount_9 : decode b_Int_bitCount 9 = .ok (.istore_n 0, 1) := by decide +kernel
theorem d_Int_bitCount_10 : decode b_Int_bitCount 10 = .ok (.iload_n 0, 1) := by decide +kernel
theorem d_Int_bitCount_11 : decode b_Int_bitCount 11 = .ok (.ldc_w 266, 3) := by decide +kernel
theorem d_Int_bitCount_14 : decode b_Int_bitCount 14 = .ok (.iand, 1) := by decide +kernel
theorem d_Int_bitCount_15 : decode b_Int_bitCount 15 = .ok (.iload_n 0, 1) := by decide +kernel
theorem d_Int_bitCount_16 : decode b_Int_bitCount 16 = .ok (.iconst 2, 1) := by decide +kernel
theorem d_Int_bitCount_17 : decode b_Int_bitCount 17 = .ok (.iushr, 1) := by decide +kernel
theorem d_Int_bitCount_18 : decode b_Int_bitCount 18 = .ok (.ldc_w 266, 3) := by decide +kernel
theorem d_Int_bitCount_21 : decode b_Int_bitCount 21 = .ok (.iand, 1) := by decide +kernel
theorem d_Int_bitCount_22 : decode b_Int_bitCount 22 = .ok (.iadd, 1) := by decide +kernel
theorem d_Int_bitCount_23 : decode b_Int_bitCount 23 = .ok (.istore_n 0, 1) := by decide +kernel
theorem d_Int_bitCount_24 : decode b_Int_bitCount 24 = .ok (.iload_n 0, 1) := by decide +kernel
theorem d_Int_bitCount_25 : decode b_Int_bitCount 25 = .ok (.iload_n 0, 1) := by decide +kernel
theorem d_Int_bitCount_26 : decode b_Int_bitCount 26 = .ok (.iconst 4, 1) := by decide +kernel
theorem d_Int_bitCount_27 : decode b_Int_bitCount 27 = .ok (.iushr, 1) := by decide +kernel
theorem d_Int_bitCount_28 : decode b_Int_bitCount 28 = .ok (.iadd, 1) := by decide +kernel
theorem d_Int_bitCount_29 : decode b_Int_bitCount 29 = .ok (.ldc_w 267, 3) := by decide +kernel
theorem d_Int_bitCount_32 : decode b_Int_bitCount 32 = .ok (.iand, 1) := by decide +kernel
theorem d_Int_bitCount_33 : decode b_Int_bitCount 33 = .ok (.istore_n 0, 1) := by decide +kernel
theorem d_Int_bitCount_34 : decode b_Int_bitCount 34 = .ok (.iload_n 0, 1) := by decide +kernel
theorem d_Int_bitCount_35 : decode b_Int_bitCount 35 = .ok (.iload_n 0, 1) := by decide +kernel
theorem d_Int_bitCount_36 : decode b_Int_bitCount 36 = .ok (.bipush 8, 2) := by decide +kernel
theorem d_Int_bitCount_38 : decode b_Int_bitCount 38 = .ok (.iushr, 1) := by decide +kernel
theorem d_Int_bitCount_39 : decode b_Int_bitCount 39 = .ok (.iadd, 1) := by decide +kernel
theorem d_Int_bitCount_40 : decode b_Int_bitCount 40 = .ok (.istore_n 0, 1) := by decide +kernel
theorem d_Int_bitCount_41 : decode b_Int_bitCount 41 = .ok (.iload_n 0, 1) := by decide +kernel
theorem d_Int_bitCount_42 : decode b_Int_bitCount 42 = .ok (.iload_n 0, 1) := by decide +kernel
theorem d_Int_bitCount_43 : decode b_Int_bitCount 43 = .ok (.bipush 16, 2) := by decide +kernel
theorem d_Int_bitCount_45 : decode b_Int_bitCount 45 = .ok (.iushr, 1) := by decide +kernel
theorem d_Int_bitCount_46 : decode b_Int_bitCount 46 = .ok (.iadd, 1) := by decide +kernel
theorem d_Int_bitCount_47 : decode b_Int_bitCount 47 = .ok (.istore_n 0, 1) := by decide +kernel
theorem d_Int_bitCount_48 : decode b_Int_bitCount 48 = .ok (.iload_n 0, 1) := by decide +kernel
theorem d_Int_bitCount_49 : decode b_Int_bitCount 49 = .ok (.bipush 63, 2) := by decide +kernel
theorem d_Int_bitCount_51 : decode b_Int_bitCount 51 = .ok (.iand, 1) := by decide +kernel
theorem d_Int_bitCount_52 : decode b_Int_bitCount 52 = .ok (.ireturn, 1) := by decide +kernel
noncomputable def f_Int_bitCount (z : Nat → Nat) (σ : Mm) (p1 : Int32) : Option (Int32) :=
  mm_lt ((p1 - (((Int32.toUInt32 p1 >>> (Int32.toUInt32 (1 : Int32) &&& Int32.toUInt32 31)).toInt32) &&& (1431655765 : Int32)))) fun x9 =>
  mm_lt (((x9 &&& (858993459 : Int32)) + (((Int32.toUInt32 x9 >>> (Int32.toUInt32 (2 : Int32) &&& Int32.toUInt32 31)).toInt32) &&& (858993459 : Int32)))) fun x23 =>
  mm_lt (((x23 + ((Int32.toUInt32 x23 >>> (Int32.toUInt32 (4 : Int32) &&& Int32.toUInt32 31)).toInt32)) &&& (252645135 : Int32))) fun x33 =>
  mm_lt ((x33 + ((Int32.toUInt32 x33 >>> (Int32.toUInt32 (8 : Int32) &&& Int32.toUInt32 31)).toInt32))) fun x40 =>
  mm_lt ((x40 + ((Int32.toUInt32 x40 >>> (Int32.toUInt32 (16 : Int32) &&& Int32.toUInt32 31)).toInt32))) fun x47 =>
  some (x47 &&& (63 : Int32))
set_option maxHeartbeats 4000000 in
set_option maxRecDepth 100000 in
theorem c_Int_bitCount (l : Launch) {L : Ly} (hg : gd_ok L) {σ : Mm} {p1 : Int32} {res : Int32} (hf0 : f_Int_bitCount (ly_z L) σ p1 = some res) : CtI l y_Int_bitCount b_Int_bitCount 1 (some .int) rm_Int_bitCount L [.int p1] σ res σ := by
  refine ct_i hg (by decide) (Nat.le_of_ble_eq_true rfl) ?_
  intro E A Q hE C hN
  subst hE
  unfold f_Int_bitCount at hf0
  show GW E L A 1 0 0 Q σ 0 [(0, .int p1)] []
  refine gw_iload_n C 0 d_Int_bitCount_0 rfl rfl ?_
  refine gw_iload_n C 0 d_Int_bitCount_1 rfl rfl ?_
  refine gw_iconst C (1 : Int32) d_Int_bitCount_2 (by decide) ?_
  refine gw_iushr C d_Int_bitCount_3 ?_
  refine gw_ldc_w C d_Int_bitCount_4 qw_722 ?_
  refine gw_iand C d_Int_bitCount_7 ?_
  refine gw_isub C d_Int_bitCount_8 ?_
  obtain ⟨x9, ex9, hf0⟩ := mx_lt hf0
  refine gw_topi ex9 ?_
  refine gw_istore_n C [(0, .int x9)] d_Int_bitCount_9 rfl (by decide) rfl ?_
  refine gw_iload_n C 0 d_Int_bitCount_10 rfl rfl ?_
  refine gw_ldc_w C d_Int_bitCount_11 qw_723 ?_
  refine gw_iand C d_Int_bitCount_14 ?_
  refine gw_iload_n C 0 d_Int_bitCount_15 rfl rfl ?_
  refine gw_iconst C (2 : Int32) d_Int_bitCount_16 (by decide) ?_
  refine gw_iushr C d_Int_bitCount_17 ?_
  refine gw_ldc_w C d_Int_bitCount_18 qw_723 ?_
  refine gw_iand C d_Int_bitCount_21 ?_
  refine gw_iadd C d_Int_bitCount_22 ?_
  obtain ⟨x23, ex23, hf0⟩ := mx_lt hf0
  refine gw_topi ex23 ?_
  refine gw_istore_n C [(0, .int x23)] d_Int_bitCount_23 rfl (by decide) rfl ?_
  refine gw_iload_n C 0 d_Int_bitCount_24 rfl rfl ?_
  refine gw_iload_n C 0 d_Int_bitCount_25 rfl rfl ?_
  refine gw_iconst C (4 : Int32) d_Int_bitCount_26 (by decide) ?_
  refine gw_iushr C d_Int_bitCount_27 ?_
  refine gw_iadd C d_Int_bitCount_28 ?_
  refine gw_ldc_w C d_Int_bitCount_29 qw_724 ?_
  refine gw_iand C d_Int_bitCount_32 ?_
  obtain ⟨x33, ex33, hf0⟩ := mx_lt hf0
  refine gw_topi ex33 ?_
  refine gw_istore_n C [(0, .int x33)] d_Int_bitCount_33 rfl (by decide) rfl ?_
  refine gw_iload_n C 0 d_Int_bitCount_34 rfl rfl ?_
  refine gw_iload_n C 0 d_Int_bitCount_35 rfl rfl ?_
  refine gw_bipush C (8 : Int32) d_Int_bitCount_36 (by decide) ?_
  refine gw_iushr C d_Int_bitCount_38 ?_
  refine gw_iadd C d_Int_bitCount_39 ?_
  obtain ⟨x40, ex40, hf0⟩ := mx_lt hf0
  refine gw_topi ex40 ?_
  refine gw_istore_n C [(0, .int x40)] d_Int_bitCount_40 rfl (by decide) rfl ?_
  refine gw_iload_n C 0 d_Int_bitCount_41 rfl rfl ?_
  refine gw_iload_n C 0 d_Int_bitCount_42 rfl rfl ?_
  refine gw_bipush C (16 : Int32) d_Int_bitCount_43 (by decide) ?_
  refine gw_iushr C d_Int_bitCount_45 ?_
  refine gw_iadd C d_Int_bitCount_46 ?_
  obtain ⟨x47, ex47, hf0⟩ := mx_lt hf0
  refine gw_topi ex47 ?_
  refine gw_istore_n C [(0, .int x47)] d_Int_bitCount_47 rfl (by decide) rfl ?_
  refine gw_iload_n C 0 d_Int_bitCount_48 rfl rfl ?_
  refine gw_bipush C (63 : Int32) d_Int_bitCount_49 (by decide) ?_
  refine gw_iand C d_Int_bitCount_51 ?_
  exact en_ip hN hf0 d_Int_bitCount_52

/-! NameHat.State.inHat(II)I -/
abbrev b_State_inHat : ByteArray := prog_10_method_8_code
def y_State_inHat : MethodName := ⟨"NameHat$State", "inHat", "(II)I"⟩
abbrev rm_State_inHat : Room := { frames := 0, cells := 0, slots := 0, locals := 0 }
theorem hd_State_inHat : y_State_inHat.cls ≠ "java/lang/invoke/MethodHandle" ∧ y_State_inHat.cls ≠ "java/lang/invoke/VarHandle" ∧ (parseMethodDescriptor y_State_inHat.desc).map (fun d => d.parameters.length) = some 2 := by decide +kernel
theorem d_State_inHat_0 : decode b_State_inHat 0 = .ok (.iload_n 1, 1) := by decide +kernel
theorem d_State_inHat_1 : decode b_State_inHat 1 = .ok (.istore_n 2, 1) := by decide +kernel
theorem d_State_inHat_2 : decode b_State_inHat 2 = .ok (.iconst 0, 1) := by decide +kernel
theorem d_State_inHat_3 : decode b_State_inHat 3 = .ok (.istore_n 3, 1) := by decide +kernel
theorem d_State_inHat_4 : decode b_State_inHat 4 = .ok (.iload_n 3, 1) := by decide +kernel
theorem d_State_inHat_5 : decode b_State_inHat 5 = .ok (.bipush 10, 2) := by decide +kernel
theorem d_State_inHat_7 : decode b_State_inHat 7 = .ok (.if_icmp .ge 29, 3) := by decide +kernel
theorem d_State_inHat_10 : decode b_State_inHat 10 = .ok (.iload_n 0, 1) := by decide +kernel
theorem d_State_inHat_11 : decode b_State_inHat 11 = .ok (.iload_n 3, 1) := by decide +kernel
theorem d_State_inHat_12 : decode b_State_inHat 12 = .ok (.ishr, 1) := by decide +kernel
theorem d_State_inHat_13 : decode b_State_inHat 13 = .ok (.iconst 1, 1) := by decide +kernel
theorem d_State_inHat_14 : decode b_State_inHat 14 = .ok (.iand, 1) := by decide +kernel
theorem d_State_inHat_15 : decode b_State_inHat 15 = .ok (.ifCond .ne 6, 3) := by decide +kernel
theorem d_State_inHat_18 : decode b_State_inHat 18 = .ok (.goto 12, 3) := by decide +kernel
theorem d_State_inHat_21 : decode b_State_inHat 21 = .ok (.iload_n 2, 1) := by decide +kernel
theorem d_State_inHat_22 : decode b_State_inHat 22 = .ok (.ifCond .ne 5, 3) := by decide +kernel
theorem d_State_inHat_25 : decode b_State_inHat 25 = .ok (.iload_n 3, 1) := by decide +kernel
theorem d_State_inHat_26 : decode b_State_inHat 26 = .ok (.ireturn, 1) := by decide +kernel
theorem d_State_inHat_27 : decode b_State_inHat 27 = .ok (.iinc 2 (-1), 3) := by decide +kernel
theorem d_State_inHat_30 : decode b_State_inHat 30 = .ok (.iinc 3 1, 3) := by decide +kernel
theorem d_State_inHat_33 : decode b_State_inHat 33 = .ok (.goto (-29), 3) := by decide +kernel
theorem d_State_inHat_36 : decode b_State_inHat 36 = .ok (.iconst (-1), 1) := by decide +kernel
theorem d_State_inHat_37 : decode b_State_inHat 37 = .ok (.ireturn, 1) := by decide +kernel
noncomputable def f_State_inHat_L4 (z : Nat → Nat) (σ : Mm) (v0 : Int32) (s4 : Int32 × Int32) : Option ((Int32 × Int32) ⊕ ((Int32) ⊕ (Unit))) :=
  if (10 : Int32) ≤ s4.2 then (
    some (.inr (.inr ()))
  ) else (
    if ((v0 >>> (s4.2 &&& 31)) &&& (1 : Int32)) = 0 then (
      mm_lt (s4.2 + (1 : Int32)) fun x30 =>
      some (.inl (s4.1, x30))
    ) else (
      if s4.1 = 0 then (
        some (.inr (.inl s4.2))
      ) else (
        mm_lt (s4.1 + ((-1) : Int32)) fun x27 =>
        mm_lt (s4.2 + (1 : Int32)) fun x30 =>
        some (.inl (x27, x30))
      )
    )
  )
noncomputable def f_State_inHat (z : Nat → Nat) (σ : Mm) (p1 : Int32) (p2 : Int32) : Option (Int32) :=
  (mm_lp (f_State_inHat_L4 z σ p1) (p2, (0 : Int32))).bind (Sum.elim (fun r9 => some r9) (fun x4_ =>
    some ((-1) : Int32)))
set_option maxHeartbeats 4000000 in
set_option maxRecDepth 100000 in
theorem c_State_inHat (l : Launch) {L : Ly} (hg : gd_ok L) {σ : Mm} {p1 : Int32} {p2 : Int32} {res : Int32} (hf0 : f_State_inHat (ly_z L) σ p1 p2 = some res) : CtI l y_State_inHat b_State_inHat 4 (some .int) rm_State_inHat L [.int p1, .int p2] σ res σ := by
  refine ct_i hg (by decide) (Nat.le_of_ble_eq_true rfl) ?_
  intro E A Q hE C hN
  subst hE
  unfold f_State_inHat at hf0
  show GW E L A 4 0 0 Q σ 0 [(0, .int p1), (1, .int p2)] []
  refine gw_iload_n C 1 d_State_inHat_0 rfl rfl ?_
  refine gw_istore_n C [(2, .int p2), (0, .int p1), (1, .int p2)] d_State_inHat_1 rfl (by decide) rfl ?_
  refine gw_iconst C (0 : Int32) d_State_inHat_2 (by decide) ?_
  refine gw_istore_n C [(3, .int (0 : Int32)), (2, .int p2), (0, .int p1), (1, .int p2)] d_State_inHat_3 rfl (by decide) rfl ?_
  obtain ⟨q4, hq4, hf0⟩ := mx_bd hf0
  have hk4 : ∀ x4_, q4 = .inr x4_ → GW E L A 4 0 0 Q σ 36 [] [] := by
    intro x4_ hx9
    subst hx9
    replace hf0 := mx_sr hf0
    refine gw_iconst C ((-1) : Int32) d_State_inHat_36 (by decide) ?_
    exact en_ip hN hf0 d_State_inHat_37
  refine gw_sub [2, 1, 0] (lv' := [(0, .int p1), (2, .int p2), (3, .int (0 : Int32))]) rfl ?_
  refine mm_rule hq4 (P := fun (s4 : Int32 × Int32) => GW E L A 4 0 0 Q σ 4 [(0, .int p1), (2, .int s4.1), (3, .int s4.2)] []) ?_
  intro s4 ih4 hx4 ⟨w4, hb4⟩
  have hf1 := hb4
  unfold f_State_inHat_L4 at hf1
  refine gw_iload_n C 2 d_State_inHat_4 rfl rfl ?_
  refine gw_bipush C (10 : Int32) d_State_inHat_5 (by decide) ?_
  refine gw_icmp_ge C 36 d_State_inHat_7 (by decide) (fun hc => ?_) (fun hc => ?_)
  · replace hf1 := mx_t hc hf1
    exact gw_go [] (hk4 () (hx4 _ (hb4.trans hf1.symm)).symm) rfl
  · replace hf1 := mx_f hc hf1
    refine gw_iload_n C 0 d_State_inHat_10 rfl rfl ?_
    refine gw_iload_n C 2 d_State_inHat_11 rfl rfl ?_
    refine gw_ishr C d_State_inHat_12 ?_
    refine gw_iconst C (1 : Int32) d_State_inHat_13 (by decide) ?_
    refine gw_iand C d_State_inHat_14 ?_
    refine gw_if_ne C 21 d_State_inHat_15 (by decide) (fun hc => ?_) (fun hc => ?_)
    · replace hf1 := mx_f hc hf1
      refine gw_iload_n C 1 d_State_inHat_21 rfl rfl ?_
      refine gw_if_ne C 27 d_State_inHat_22 (by decide) (fun hc => ?_) (fun hc => ?_)
      · replace hf1 := mx_f hc hf1
        obtain ⟨x27, ex27, hf1⟩ := mx_lt hf1
        refine gw_iinc C 1 [(2, .int x27), (0, .int p1), (3, .int s4.2)] d_State_inHat_27 rfl (by rw [ex27]; rfl) (by decide) rfl ?_
        obtain ⟨x30, ex30, hf1⟩ := mx_lt hf1
        refine gw_iinc C 2 [(3, .int x30), (2, .int x27), (0, .int p1)] d_State_inHat_30 rfl (by rw [ex30]; rfl) (by decide) rfl ?_
        refine gw_goto C 4 d_State_inHat_33 (by decide) ?_
        exact gw_go [2, 1, 0] (ih4 (x27, x30) (hb4.trans hf1.symm)) rfl
      · replace hf1 := mx_t hc hf1
        refine gw_iload_n C 2 d_State_inHat_25 rfl rfl ?_
        have hr4 := hx4 _ (hb4.trans hf1.symm)
        subst hr4
        replace hf0 := mx_sl hf0
        exact en_ip hN hf0 d_State_inHat_26
    · replace hf1 := mx_t hc hf1
      refine gw_goto C 30 d_State_inHat_18 (by decide) ?_
      obtain ⟨x30, ex30, hf1⟩ := mx_lt hf1
      refine gw_iinc C 2 [(3, .int x30), (0, .int p1), (2, .int s4.1)] d_State_inHat_30 rfl (by rw [ex30]; rfl) (by decide) rfl ?_
      refine gw_goto C 4 d_State_inHat_33 (by decide) ?_
      exact gw_go [1, 2, 0] (ih4 (s4.1, x30) (hb4.trans hf1.symm)) rfl

/-! NameHat.State.drawAll(I)V -/
abbrev b_State_drawAll : ByteArray := prog_10_method_7_code
def y_State_drawAll : MethodName := ⟨"NameHat$State", "drawAll", "(I)V"⟩
abbrev rm_State_drawAll : Room := { frames := 1, cells := 0, slots := 0, locals := 23 }
theorem hd_State_drawAll : y_State_drawAll.cls ≠ "java/lang/invoke/MethodHandle" ∧ y_State_drawAll.cls ≠ "java/lang/invoke/VarHandle" ∧ (parseMethodDescriptor y_State_drawAll.desc).map (fun d => d.parameters.length) = some 1 := by decide +kernel
theorem d_State_drawAll_0 : decode b_State_drawAll 0 = .ok (.iconst 0, 1) := by decide +kernel
theorem d_State_drawAll_1 : decode b_State_drawAll 1 = .ok (.istore_n 2, 1) := by decide +kernel
theorem d_State_drawAll_2 : decode b_State_drawAll 2 = .ok (.iload_n 2, 1) := by decide +kernel
theorem d_State_drawAll_3 : decode b_State_drawAll 3 = .ok (.bipush 8, 2) := by decide +kernel
theorem d_State_drawAll_5 : decode b_State_drawAll 5 = .ok (.if_icmp .ge 36, 3) := by decide +kernel
theorem d_State_drawAll_8 : decode b_State_drawAll 8 = .ok (.aload_n 0, 1) := by decide +kernel
theorem d_State_drawAll_9 : decode b_State_drawAll 9 = .ok (.getfield 30, 3) := by decide +kernel
theorem d_State_drawAll_12 : decode b_State_drawAll 12 = .ok (.aload_n 0, 1) := by decide +kernel
theorem d_State_drawAll_13 : decode b_State_drawAll 13 = .ok (.getfield 54, 3) := by decide +kernel
theorem d_State_drawAll_16 : decode b_State_drawAll 16 = .ok (.bipush 8, 2) := by decide +kernel
theorem d_State_drawAll_18 : decode b_State_drawAll 18 = .ok (.imul, 1) := by decide +kernel
theorem d_State_drawAll_19 : decode b_State_drawAll 19 = .ok (.iload_n 2, 1) := by decide +kernel
theorem d_State_drawAll_20 : decode b_State_drawAll 20 = .ok (.iadd, 1) := by decide +kernel
theorem d_State_drawAll_21 : decode b_State_drawAll 21 = .ok (.aload_n 0, 1) := by decide +kernel
theorem d_State_drawAll_22 : decode b_State_drawAll 22 = .ok (.getfield 21, 3) := by decide +kernel
theorem d_State_drawAll_25 : decode b_State_drawAll 25 = .ok (.getfield 90, 3) := by decide +kernel
theorem d_State_drawAll_28 : decode b_State_drawAll 28 = .ok (.iload_n 2, 1) := by decide +kernel
theorem d_State_drawAll_29 : decode b_State_drawAll 29 = .ok (.invokevirtual 93, 3) := by decide +kernel
theorem d_State_drawAll_32 : decode b_State_drawAll 32 = .ok (.invokevirtual 107, 3) := by decide +kernel
theorem d_State_drawAll_35 : decode b_State_drawAll 35 = .ok (.iinc 2 1, 3) := by decide +kernel
theorem d_State_drawAll_38 : decode b_State_drawAll 38 = .ok (.goto (-36), 3) := by decide +kernel
theorem d_State_drawAll_41 : decode b_State_drawAll 41 = .ok (.aload_n 0, 1) := by decide +kernel
theorem d_State_drawAll_42 : decode b_State_drawAll 42 = .ok (.dup, 1) := by decide +kernel
theorem d_State_drawAll_43 : decode b_State_drawAll 43 = .ok (.getfield 54, 3) := by decide +kernel
theorem d_State_drawAll_46 : decode b_State_drawAll 46 = .ok (.iconst 1, 1) := by decide +kernel
theorem d_State_drawAll_47 : decode b_State_drawAll 47 = .ok (.iadd, 1) := by decide +kernel
theorem d_State_drawAll_48 : decode b_State_drawAll 48 = .ok (.putfield 54, 3) := by decide +kernel
theorem d_State_drawAll_51 : decode b_State_drawAll 51 = .ok (.aload_n 0, 1) := by decide +kernel
theorem d_State_drawAll_52 : decode b_State_drawAll 52 = .ok (.getfield 12, 3) := by decide +kernel
theorem d_State_drawAll_55 : decode b_State_drawAll 55 = .ok (.getfield 100, 3) := by decide +kernel
theorem d_State_drawAll_58 : decode b_State_drawAll 58 = .ok (.invokevirtual 111, 3) := by decide +kernel
theorem d_State_drawAll_61 : decode b_State_drawAll 61 = .ok (.istore_n 2, 1) := by decide +kernel
theorem d_State_drawAll_62 : decode b_State_drawAll 62 = .ok (.iload_n 1, 1) := by decide +kernel
theorem d_State_drawAll_63 : decode b_State_drawAll 63 = .ok (.istore_n 3, 1) := by decide +kernel
theorem d_State_drawAll_64 : decode b_State_drawAll 64 = .ok (.iconst 0, 1) := by decide +kernel
theorem d_State_drawAll_65 : decode b_State_drawAll 65 = .ok (.istore 4, 2) := by decide +kernel
theorem d_State_drawAll_67 : decode b_State_drawAll 67 = .ok (.iload 4, 2) := by decide +kernel
theorem d_State_drawAll_69 : decode b_State_drawAll 69 = .ok (.aload_n 0, 1) := by decide +kernel
theorem d_State_drawAll_70 : decode b_State_drawAll 70 = .ok (.getfield 12, 3) := by decide +kernel
theorem d_State_drawAll_73 : decode b_State_drawAll 73 = .ok (.getfield 80, 3) := by decide +kernel
theorem d_State_drawAll_76 : decode b_State_drawAll 76 = .ok (.getfield 97, 3) := by decide +kernel
theorem d_State_drawAll_79 : decode b_State_drawAll 79 = .ok (.if_icmp .ge 87, 3) := by decide +kernel
theorem d_State_drawAll_82 : decode b_State_drawAll 82 = .ok (.iconst (-1), 1) := by decide +kernel
theorem d_State_drawAll_83 : decode b_State_drawAll 83 = .ok (.istore 5, 2) := by decide +kernel
theorem d_State_drawAll_85 : decode b_State_drawAll 85 = .ok (.iload_n 2, 1) := by decide +kernel
theorem d_State_drawAll_86 : decode b_State_drawAll 86 = .ok (.invokestatic 115, 3) := by decide +kernel
theorem d_State_drawAll_89 : decode b_State_drawAll 89 = .ok (.istore 6, 2) := by decide +kernel
theorem d_State_drawAll_91 : decode b_State_drawAll 91 = .ok (.iload 6, 2) := by decide +kernel
theorem d_State_drawAll_93 : decode b_State_drawAll 93 = .ok (.ifCond .le 34, 3) := by decide +kernel
theorem d_State_drawAll_96 : decode b_State_drawAll 96 = .ok (.iload_n 3, 1) := by decide +kernel
theorem d_State_drawAll_97 : decode b_State_drawAll 97 = .ok (.ldc 120, 2) := by decide +kernel
theorem d_State_drawAll_99 : decode b_State_drawAll 99 = .ok (.imul, 1) := by decide +kernel
theorem d_State_drawAll_100 : decode b_State_drawAll 100 = .ok (.sipush 12345, 3) := by decide +kernel
theorem d_State_drawAll_103 : decode b_State_drawAll 103 = .ok (.iadd, 1) := by decide +kernel
theorem d_State_drawAll_104 : decode b_State_drawAll 104 = .ok (.istore_n 3, 1) := by decide +kernel
theorem d_State_drawAll_105 : decode b_State_drawAll 105 = .ok (.iload_n 2, 1) := by decide +kernel
theorem d_State_drawAll_106 : decode b_State_drawAll 106 = .ok (.iload_n 3, 1) := by decide +kernel
theorem d_State_drawAll_107 : decode b_State_drawAll 107 = .ok (.bipush 8, 2) := by decide +kernel
theorem d_State_drawAll_109 : decode b_State_drawAll 109 = .ok (.iushr, 1) := by decide +kernel
theorem d_State_drawAll_110 : decode b_State_drawAll 110 = .ok (.iload 6, 2) := by decide +kernel
theorem d_State_drawAll_112 : decode b_State_drawAll 112 = .ok (.irem, 1) := by decide +kernel
theorem d_State_drawAll_113 : decode b_State_drawAll 113 = .ok (.invokestatic 121, 3) := by decide +kernel
theorem d_State_drawAll_116 : decode b_State_drawAll 116 = .ok (.istore 5, 2) := by decide +kernel
theorem d_State_drawAll_118 : decode b_State_drawAll 118 = .ok (.iload_n 2, 1) := by decide +kernel
theorem d_State_drawAll_119 : decode b_State_drawAll 119 = .ok (.iconst 1, 1) := by decide +kernel
theorem d_State_drawAll_120 : decode b_State_drawAll 120 = .ok (.iload 5, 2) := by decide +kernel
theorem d_State_drawAll_122 : decode b_State_drawAll 122 = .ok (.ishl, 1) := by decide +kernel
theorem d_State_drawAll_123 : decode b_State_drawAll 123 = .ok (.iconst (-1), 1) := by decide +kernel
theorem d_State_drawAll_124 : decode b_State_drawAll 124 = .ok (.ixor, 1) := by decide +kernel
theorem d_State_drawAll_125 : decode b_State_drawAll 125 = .ok (.iand, 1) := by decide +kernel
theorem d_State_drawAll_126 : decode b_State_drawAll 126 = .ok (.istore_n 2, 1) := by decide +kernel
theorem d_State_drawAll_127 : decode b_State_drawAll 127 = .ok (.aload_n 0, 1) := by decide +kernel
theorem d_State_drawAll_128 : decode b_State_drawAll 128 = .ok (.getfield 21, 3) := by decide +kernel
theorem d_State_drawAll_131 : decode b_State_drawAll 131 = .ok (.getfield 90, 3) := by decide +kernel
theorem d_State_drawAll_134 : decode b_State_drawAll 134 = .ok (.iload 4, 2) := by decide +kernel
theorem d_State_drawAll_136 : decode b_State_drawAll 136 = .ok (.iload 5, 2) := by decide +kernel
theorem d_State_drawAll_138 : decode b_State_drawAll 138 = .ok (.invokevirtual 107, 3) := by decide +kernel
theorem d_State_drawAll_141 : decode b_State_drawAll 141 = .ok (.aload_n 0, 1) := by decide +kernel
theorem d_State_drawAll_142 : decode b_State_drawAll 142 = .ok (.getfield 34, 3) := by decide +kernel
theorem d_State_drawAll_145 : decode b_State_drawAll 145 = .ok (.aload_n 0, 1) := by decide +kernel
theorem d_State_drawAll_146 : decode b_State_drawAll 146 = .ok (.getfield 54, 3) := by decide +kernel
theorem d_State_drawAll_149 : decode b_State_drawAll 149 = .ok (.bipush 8, 2) := by decide +kernel
theorem d_State_drawAll_151 : decode b_State_drawAll 151 = .ok (.imul, 1) := by decide +kernel
theorem d_State_drawAll_152 : decode b_State_drawAll 152 = .ok (.iload 4, 2) := by decide +kernel
theorem d_State_drawAll_154 : decode b_State_drawAll 154 = .ok (.iadd, 1) := by decide +kernel
theorem d_State_drawAll_155 : decode b_State_drawAll 155 = .ok (.iload 5, 2) := by decide +kernel
theorem d_State_drawAll_157 : decode b_State_drawAll 157 = .ok (.invokevirtual 107, 3) := by decide +kernel
theorem d_State_drawAll_160 : decode b_State_drawAll 160 = .ok (.iinc 4 1, 3) := by decide +kernel
theorem d_State_drawAll_163 : decode b_State_drawAll 163 = .ok (.goto (-96), 3) := by decide +kernel
theorem d_State_drawAll_166 : decode b_State_drawAll 166 = .ok (.return_, 1) := by decide +kernel
noncomputable def f_State_drawAll_L2 (z : Nat → Nat) (o : Nat) (v1 : Int32) (s2 : Int32 × Mm) : Option ((Int32 × Mm) ⊕ (Mm)) :=
  if (8 : Int32) ≤ s2.1 then (
    some (.inr s2.2)
  ) else (
    (f_Row_at z s2.2 (o + 15) s2.1).bind fun q29 =>
    (f_Row_put z s2.2 (o + 23) (((s2.2.1 o 2) * (8 : Int32)) + s2.1) q29).bind fun q32 =>
    mm_lt (s2.1 + (1 : Int32)) fun x35 =>
    some (.inl (x35, q32))
  )
noncomputable def f_State_drawAll_J127 (z : Nat → Nat) (o : Nat) (v2 : Int32) (v3 : Int32) (v4 : Int32) (v5 : Int32) (m127 : Mm) : Option ((Int32 × Int32 × Int32 × Mm) ⊕ (Mm)) :=
  (f_Row_put z m127 (o + 15) v4 v5).bind fun q138 =>
  (f_Row_put z q138 (o + 25) (((q138.1 o 2) * (8 : Int32)) + v4) v5).bind fun q157 =>
  mm_lt (v4 + (1 : Int32)) fun x160 =>
  some (.inl (v2, v3, x160, q157))
noncomputable def f_State_drawAll_L67 (z : Nat → Nat) (o : Nat) (s67 : Int32 × Int32 × Int32 × Mm) : Option ((Int32 × Int32 × Int32 × Mm) ⊕ (Mm)) :=
  if (s67.2.2.2.1 (o + 4) 1) ≤ s67.2.2.1 then (
    some (.inr s67.2.2.2)
  ) else (
    (f_Int_bitCount z s67.2.2.2 s67.1).bind fun q86 =>
    if q86 ≤ 0 then (
      f_State_drawAll_J127 z o s67.1 s67.2.1 s67.2.2.1 ((-1) : Int32) s67.2.2.2
    ) else (
      mm_lt (((s67.2.1 * (1103515245 : Int32)) + (12345 : Int32))) fun x104 =>
      (mm_irem ((Int32.toUInt32 x104 >>> (Int32.toUInt32 (8 : Int32) &&& Int32.toUInt32 31)).toInt32) q86).bind fun x112 =>
      (f_State_inHat z s67.2.2.2 s67.1 x112).bind fun q113 =>
      mm_lt ((s67.1 &&& (((1 : Int32) <<< (q113 &&& 31)) ^^^ ((-1) : Int32)))) fun x126 =>
      f_State_drawAll_J127 z o x126 x104 s67.2.2.1 q113 s67.2.2.2
    )
  )
noncomputable def f_State_drawAll (z : Nat → Nat) (σ : Mm) (o : Nat) (p1 : Int32) : Option (Mm) :=
  (mm_lp (f_State_drawAll_L2 z o p1) ((0 : Int32), σ)).bind (fun q2 =>
    mm_lt (kI q2 o 2 ((q2.1 o 2) + (1 : Int32))) fun m48 =>
    (f_Names_allBits z m48 (o + 2)).bind fun q58 =>
    (mm_lp (f_State_drawAll_L67 z o) (q58, p1, (0 : Int32), m48)).bind (fun q67 =>
      some q67))
set_option maxHeartbeats 4000000 in
set_option maxRecDepth 100000 in
theorem c_State_drawAll (l : Launch) {L : Ly} (hg : gd_ok L) {σ : Mm} {o : Nat} {p1 : Int32} (k_o_0 : ly_k L o = 4) {res : Mm} (hf0 : f_State_drawAll (ly_z L) σ o p1 = some res) : CtV l y_State_drawAll b_State_drawAll 7 (none) rm_State_drawAll L [.ref (ly_a L o), .int p1] σ res := by
  refine ct_v hg (by decide) (Nat.le_of_ble_eq_true rfl) ?_
  intro E A Q hE C hN
  subst hE
  have k_o_14 : ly_k L (o + 14) = 3 := gd_State_hands hg k_o_0
  have k_o_15 : ly_k L (o + 15) = 0 := gd_Hands_held hg k_o_14
  have k_o_23 : ly_k L (o + 23) = 0 := gd_State_ended hg k_o_0
  have k_o_1 : ly_k L (o + 1) = 2 := gd_State_island hg k_o_0
  have k_o_2 : ly_k L (o + 2) = 1 := gd_Island_surnames hg k_o_1
  have k_o_25 : ly_k L (o + 25) = 0 := gd_State_drawn hg k_o_0
  have k_o_4 : ly_k L (o + 4) = 1 := gd_Island_houses hg k_o_1
  unfold f_State_drawAll at hf0
  show GW E L A 7 0 0 Q σ 0 [(0, .ref (ly_a L o)), (1, .int p1)] []
  refine gw_iconst C (0 : Int32) d_State_drawAll_0 (by decide) ?_
  refine gw_istore_n C [(2, .int (0 : Int32)), (0, .ref (ly_a L o)), (1, .int p1)] d_State_drawAll_1 rfl (by decide) rfl ?_
  obtain ⟨q2, hq2, hf0⟩ := mx_bd hf0
  have hk2 : ∀ x9, q2 = x9 → GW E L A 7 0 0 Q x9 41 [(0, .ref (ly_a L o)), (1, .int p1)] [] := by
    intro x9 hx9
    subst hx9
    refine gw_aload_n C 0 d_State_drawAll_41 rfl rfl ?_
    refine gw_dup C d_State_drawAll_42 rfl ?_
    refine gw_getI C 2 d_State_drawAll_43 k_o_0 (by decide) i_State rfl rfl (by decide) qw_241 rfl rfl ?_
    refine gw_iconst C (1 : Int32) d_State_drawAll_46 (by decide) ?_
    refine gw_iadd C d_State_drawAll_47 ?_
    obtain ⟨m48, em48, hf0⟩ := mx_lt hf0
    refine gw_putI t_State C 2 d_State_drawAll_48 k_o_0 (by decide) i_State rfl rfl (by decide) qw_241 rfl rfl t_State_ok n_State rfl (t_State_ok 2 (by decide)) rfl rfl em48 ?_
    refine gw_aload_n C 0 d_State_drawAll_51 rfl rfl ?_
    refine gw_getA C 0 d_State_drawAll_52 k_o_0 (by decide) i_State rfl rfl (by decide) qw_234 rfl rfl (o + 1) rfl ?_
    refine gw_getAN C 0 d_State_drawAll_55 k_o_1 (by decide) i_Island rfl rfl (by decide) qw_126 rfl rfl (o + 2) rfl ?_
    obtain ⟨q58, hq58, hf0⟩ := mx_bd hf0
    refine gw_callI C (c_Names_allBits _ hg k_o_2 hq58) d_State_drawAll_58 0 qw_715 qw_716 qw_717 qw_7 qw_718 k_o_2 (by decide) rfl hd_Names_allBits rfl rfl (Nat.le_of_ble_eq_true rfl) ⟨rfl, rfl, Nat.le_of_ble_eq_true rfl, Nat.le_of_ble_eq_true rfl⟩ ⟨Nat.zero_le _, Nat.zero_le _⟩ ?_
    refine gw_istore_n C [(2, .int q58), (0, .ref (ly_a L o)), (1, .int p1)] d_State_drawAll_61 rfl (by decide) rfl ?_
    refine gw_iload_n C 2 d_State_drawAll_62 rfl rfl ?_
    refine gw_istore_n C [(3, .int p1), (2, .int q58), (0, .ref (ly_a L o)), (1, .int p1)] d_State_drawAll_63 rfl (by decide) rfl ?_
    refine gw_iconst C (0 : Int32) d_State_drawAll_64 (by decide) ?_
    refine gw_istore C [(4, .int (0 : Int32)), (3, .int p1), (2, .int q58), (0, .ref (ly_a L o)), (1, .int p1)] d_State_drawAll_65 (by decide) rfl ?_
    obtain ⟨q67, hq67, hf0⟩ := mx_bd hf0
    have hk67 : ∀ x9, q67 = x9 → GW E L A 7 0 0 Q x9 166 [] [] := by
      intro x9 hx9
      subst hx9
      exact en_v hN hf0 d_State_drawAll_166
    refine gw_sub [3, 2, 1, 0] (lv' := [(0, .ref (ly_a L o)), (2, .int q58), (3, .int p1), (4, .int (0 : Int32))]) rfl ?_
    refine mm_rule hq67 (P := fun (s67 : Int32 × Int32 × Int32 × Mm) => GW E L A 7 0 0 Q s67.2.2.2 67 [(0, .ref (ly_a L o)), (2, .int s67.1), (3, .int s67.2.1), (4, .int s67.2.2.1)] []) ?_
    intro s67 ih67 hx67 ⟨w67, hb67⟩
    have hj127 : ∀ (v2 : Int32) (v3 : Int32) (v4 : Int32) (v5 : Int32) (m127 : Mm), f_State_drawAll_J127 (ly_z L) o v2 v3 v4 v5 m127 = some w67 → GW E L A 7 0 0 Q m127 127 [(0, .ref (ly_a L o)), (2, .int v2), (3, .int v3), (4, .int v4), (5, .int v5)] [] := by
      intro v2 v3 v4 v5 m127 hf1
      unfold f_State_drawAll_J127 at hf1
      refine gw_aload_n C 0 d_State_drawAll_127 rfl rfl ?_
      refine gw_getA C 1 d_State_drawAll_128 k_o_0 (by decide) i_State rfl rfl (by decide) qw_238 rfl rfl (o + 14) rfl ?_
      refine gw_getAN C 0 d_State_drawAll_131 k_o_14 (by decide) i_Hands rfl rfl (by decide) qw_188 rfl rfl (o + 15) rfl ?_
      refine gw_iload C 3 d_State_drawAll_134 rfl ?_
      refine gw_iload C 4 d_State_drawAll_136 rfl ?_
      obtain ⟨q138, hq138, hf1⟩ := mx_bd hf1
      refine gw_callV C (c_Row_put _ hg k_o_15 hq138) d_State_drawAll_138 2 qw_714 qw_461 qw_462 qw_4 qw_463 k_o_15 (by decide) rfl hd_Row_put rfl rfl (Nat.le_of_ble_eq_true rfl) ⟨rfl, rfl, Nat.le_of_ble_eq_true rfl, Nat.le_of_ble_eq_true rfl⟩ ⟨Nat.zero_le _, Nat.zero_le _⟩ ?_
      refine gw_aload_n C 0 d_State_drawAll_141 rfl rfl ?_
      refine gw_getA C 4 d_State_drawAll_142 k_o_0 (by decide) i_State rfl rfl (by decide) qw_244 rfl rfl (o + 25) rfl ?_
      refine gw_aload_n C 0 d_State_drawAll_145 rfl rfl ?_
      refine gw_getI C 2 d_State_drawAll_146 k_o_0 (by decide) i_State rfl rfl (by decide) qw_241 rfl rfl ?_
      refine gw_bipush C (8 : Int32) d_State_drawAll_149 (by decide) ?_
      refine gw_imul C d_State_drawAll_151 ?_
      refine gw_iload C 3 d_State_drawAll_152 rfl ?_
      refine gw_iadd C d_State_drawAll_154 ?_
      refine gw_iload C 4 d_State_drawAll_155 rfl ?_
      obtain ⟨q157, hq157, hf1⟩ := mx_bd hf1
      refine gw_callV C (c_Row_put _ hg k_o_25 hq157) d_State_drawAll_157 2 qw_714 qw_461 qw_462 qw_4 qw_463 k_o_25 (by decide) rfl hd_Row_put rfl rfl (Nat.le_of_ble_eq_true rfl) ⟨rfl, rfl, Nat.le_of_ble_eq_true rfl, Nat.le_of_ble_eq_true rfl⟩ ⟨Nat.zero_le _, Nat.zero_le _⟩ ?_
      obtain ⟨x160, ex160, hf1⟩ := mx_lt hf1
      refine gw_iinc C 3 [(4, .int x160), (0, .ref (ly_a L o)), (2, .int v2), (3, .int v3), (5, .int v5)] d_State_drawAll_160 rfl (by rw [ex160]; rfl) (by decide) rfl ?_
      refine gw_goto C 67 d_State_drawAll_163 (by decide) ?_
      exact gw_go [1, 2, 3, 0] (ih67 (v2, v3, x160, q157) (hb67.trans hf1.symm)) rfl
    have hf1 := hb67
    unfold f_State_drawAll_L67 at hf1
    refine gw_iload C 3 d_State_drawAll_67 rfl ?_
    refine gw_aload_n C 0 d_State_drawAll_69 rfl rfl ?_
    refine gw_getA C 0 d_State_drawAll_70 k_o_0 (by decide) i_State rfl rfl (by decide) qw_234 rfl rfl (o + 1) rfl ?_
    refine gw_getAN C 1 d_State_drawAll_73 k_o_1 (by decide) i_Island rfl rfl (by decide) qw_133 rfl rfl (o + 4) rfl ?_
    refine gw_getIN C 1 d_State_drawAll_76 k_o_4 (by decide) i_Names rfl rfl (by decide) qw_112 rfl rfl ?_
    refine gw_icmp_ge C 166 d_State_drawAll_79 (by decide) (fun hc => ?_) (fun hc => ?_)
    · replace hf1 := mx_t hc hf1
      exact gw_go [] (hk67 s67.2.2.2 (hx67 _ (hb67.trans hf1.symm)).symm) rfl
    · replace hf1 := mx_f hc hf1
      refine gw_iconst C ((-1) : Int32) d_State_drawAll_82 (by decide) ?_
      refine gw_istore C [(5, .int ((-1) : Int32)), (0, .ref (ly_a L o)), (2, .int s67.1), (3, .int s67.2.1), (4, .int s67.2.2.1)] d_State_drawAll_83 (by decide) rfl ?_
      refine gw_iload_n C 2 d_State_drawAll_85 rfl rfl ?_
      obtain ⟨q86, hq86, hf1⟩ := mx_bd hf1
      refine gw_callIS C (c_Int_bitCount _ hg hq86) d_State_drawAll_86 1 qw_719 qw_720 qw_23 qw_721 hd_Int_bitCount rfl rfl (Nat.le_of_ble_eq_true rfl) ⟨rfl, rfl, Nat.le_of_ble_eq_true rfl, Nat.le_of_ble_eq_true rfl⟩ ⟨Nat.zero_le _, Nat.zero_le _⟩ ?_
      refine gw_istore C [(6, .int q86), (5, .int ((-1) : Int32)), (0, .ref (ly_a L o)), (2, .int s67.1), (3, .int s67.2.1), (4, .int s67.2.2.1)] d_State_drawAll_89 (by decide) rfl ?_
      refine gw_iload C 0 d_State_drawAll_91 rfl ?_
      refine gw_if_le C 127 d_State_drawAll_93 (by decide) (fun hc => ?_) (fun hc => ?_)
      · replace hf1 := mx_t hc hf1
        exact gw_go [2, 3, 4, 5, 1] (hj127 _ _ _ _ _ hf1) rfl
      · replace hf1 := mx_f hc hf1
        refine gw_iload_n C 4 d_State_drawAll_96 rfl rfl ?_
        refine gw_ldc C d_State_drawAll_97 qw_725 ?_
        refine gw_imul C d_State_drawAll_99 ?_
        refine gw_sipush C (12345 : Int32) d_State_drawAll_100 (by decide) ?_
        refine gw_iadd C d_State_drawAll_103 ?_
        obtain ⟨x104, ex104, hf1⟩ := mx_lt hf1
        refine gw_topi ex104 ?_
        refine gw_istore_n C [(3, .int x104), (6, .int q86), (5, .int ((-1) : Int32)), (0, .ref (ly_a L o)), (2, .int s67.1), (4, .int s67.2.2.1)] d_State_drawAll_104 rfl (by decide) rfl ?_
        refine gw_iload_n C 4 d_State_drawAll_105 rfl rfl ?_
        refine gw_iload_n C 0 d_State_drawAll_106 rfl rfl ?_
        refine gw_bipush C (8 : Int32) d_State_drawAll_107 (by decide) ?_
        refine gw_iushr C d_State_drawAll_109 ?_
        refine gw_iload C 1 d_State_drawAll_110 rfl ?_
        obtain ⟨x112, hx112, hf1⟩ := mx_bd hf1
        obtain ⟨nx112, ex112⟩ := mx_irem hx112
        refine gw_irem C d_State_drawAll_112 nx112 ?_
        refine gw_topi ex112 ?_
        obtain ⟨q113, hq113, hf1⟩ := mx_bd hf1
        refine gw_callIS C (c_State_inHat _ hg hq113) d_State_drawAll_113 2 qw_726 qw_727 qw_5 qw_728 hd_State_inHat rfl rfl (Nat.le_of_ble_eq_true rfl) ⟨rfl, rfl, Nat.le_of_ble_eq_true rfl, Nat.le_of_ble_eq_true rfl⟩ ⟨Nat.zero_le _, Nat.zero_le _⟩ ?_
        refine gw_istore C [(5, .int q113), (3, .int x104), (6, .int q86), (0, .ref (ly_a L o)), (2, .int s67.1), (4, .int s67.2.2.1)] d_State_drawAll_116 (by decide) rfl ?_
        refine gw_iload_n C 4 d_State_drawAll_118 rfl rfl ?_
        refine gw_iconst C (1 : Int32) d_State_drawAll_119 (by decide) ?_
        refine gw_iload C 0 d_State_drawAll_120 rfl ?_
        refine gw_ishl C d_State_drawAll_122 ?_
        refine gw_iconst C ((-1) : Int32) d_State_drawAll_123 (by decide) ?_
        refine gw_ixor C d_State_drawAll_124 ?_
        refine gw_iand C d_State_drawAll_125 ?_
        obtain ⟨x126, ex126, hf1⟩ := mx_lt hf1
        refine gw_topi ex126 ?_
        refine gw_istore_n C [(2, .int x126), (5, .int q113), (3, .int x104), (6, .int q86), (0, .ref (ly_a L o)), (4, .int s67.2.2.1)] d_State_drawAll_126 rfl (by decide) rfl ?_
        exact gw_go [4, 0, 2, 5, 1] (hj127 _ _ _ _ _ hf1) rfl
  refine gw_sub [1, 2, 0] (lv' := [(0, .ref (ly_a L o)), (1, .int p1), (2, .int (0 : Int32))]) rfl ?_
  refine mm_rule hq2 (P := fun (s2 : Int32 × Mm) => GW E L A 7 0 0 Q s2.2 2 [(0, .ref (ly_a L o)), (1, .int p1), (2, .int s2.1)] []) ?_
  intro s2 ih2 hx2 ⟨w2, hb2⟩
  have hf1 := hb2
  unfold f_State_drawAll_L2 at hf1
  refine gw_iload_n C 2 d_State_drawAll_2 rfl rfl ?_
  refine gw_bipush C (8 : Int32) d_State_drawAll_3 (by decide) ?_
  refine gw_icmp_ge C 41 d_State_drawAll_5 (by decide) (fun hc => ?_) (fun hc => ?_)
  · replace hf1 := mx_t hc hf1
    exact gw_go [0, 1] (hk2 s2.2 (hx2 _ (hb2.trans hf1.symm)).symm) rfl
  · replace hf1 := mx_f hc hf1
    refine gw_aload_n C 0 d_State_drawAll_8 rfl rfl ?_
    refine gw_getA C 3 d_State_drawAll_9 k_o_0 (by decide) i_State rfl rfl (by decide) qw_243 rfl rfl (o + 23) rfl ?_
    refine gw_aload_n C 0 d_State_drawAll_12 rfl rfl ?_
    refine gw_getI C 2 d_State_drawAll_13 k_o_0 (by decide) i_State rfl rfl (by decide) qw_241 rfl rfl ?_
    refine gw_bipush C (8 : Int32) d_State_drawAll_16 (by decide) ?_
    refine gw_imul C d_State_drawAll_18 ?_
    refine gw_iload_n C 2 d_State_drawAll_19 rfl rfl ?_
    refine gw_iadd C d_State_drawAll_20 ?_
    refine gw_aload_n C 0 d_State_drawAll_21 rfl rfl ?_
    refine gw_getA C 1 d_State_drawAll_22 k_o_0 (by decide) i_State rfl rfl (by decide) qw_238 rfl rfl (o + 14) rfl ?_
    refine gw_getAN C 0 d_State_drawAll_25 k_o_14 (by decide) i_Hands rfl rfl (by decide) qw_188 rfl rfl (o + 15) rfl ?_
    refine gw_iload_n C 2 d_State_drawAll_28 rfl rfl ?_
    obtain ⟨q29, hq29, hf1⟩ := mx_bd hf1
    refine gw_callI C (c_Row_at _ hg k_o_15 hq29) d_State_drawAll_29 1 qw_713 qw_489 qw_490 qw_4 qw_491 k_o_15 (by decide) rfl hd_Row_at rfl rfl (Nat.le_of_ble_eq_true rfl) ⟨rfl, rfl, Nat.le_of_ble_eq_true rfl, Nat.le_of_ble_eq_true rfl⟩ ⟨Nat.zero_le _, Nat.zero_le _⟩ ?_
    obtain ⟨q32, hq32, hf1⟩ := mx_bd hf1
    refine gw_callV C (c_Row_put _ hg k_o_23 hq32) d_State_drawAll_32 2 qw_714 qw_461 qw_462 qw_4 qw_463 k_o_23 (by decide) rfl hd_Row_put rfl rfl (Nat.le_of_ble_eq_true rfl) ⟨rfl, rfl, Nat.le_of_ble_eq_true rfl, Nat.le_of_ble_eq_true rfl⟩ ⟨Nat.zero_le _, Nat.zero_le _⟩ ?_
    obtain ⟨x35, ex35, hf1⟩ := mx_lt hf1
    refine gw_iinc C 2 [(2, .int x35), (0, .ref (ly_a L o)), (1, .int p1)] d_State_drawAll_35 rfl (by rw [ex35]; rfl) (by decide) rfl ?_
    refine gw_goto C 2 d_State_drawAll_38 (by decide) ?_
    exact gw_go [1, 2, 0] (ih2 (x35, q32) (hb2.trans hf1.symm)) rfl

/-! NameHat.spring(I)I -/
abbrev b_Hat_spring : ByteArray := prog_1_method_13_code
def y_Hat_spring : MethodName := ⟨"NameHat", "spring", "(I)I"⟩
abbrev rm_Hat_spring : Room := { frames := 2, cells := 0, slots := 0, locals := 49 }
theorem hd_Hat_spring : y_Hat_spring.cls ≠ "java/lang/invoke/MethodHandle" ∧ y_Hat_spring.cls ≠ "java/lang/invoke/VarHandle" ∧ (parseMethodDescriptor y_Hat_spring.desc).map (fun d => d.parameters.length) = some 1 := by decide +kernel
theorem d_Hat_spring_0 : decode b_Hat_spring 0 = .ok (.aload_n 0, 1) := by decide +kernel
theorem d_Hat_spring_1 : decode b_Hat_spring 1 = .ok (.getfield 57, 3) := by decide +kernel
theorem d_Hat_spring_4 : decode b_Hat_spring 4 = .ok (.getfield 183, 3) := by decide +kernel
theorem d_Hat_spring_7 : decode b_Hat_spring 7 = .ok (.bipush 24, 2) := by decide +kernel
theorem d_Hat_spring_9 : decode b_Hat_spring 9 = .ok (.if_icmp .ge 19, 3) := by decide +kernel
theorem d_Hat_spring_12 : decode b_Hat_spring 12 = .ok (.aload_n 0, 1) := by decide +kernel
theorem d_Hat_spring_13 : decode b_Hat_spring 13 = .ok (.getfield 57, 3) := by decide +kernel
theorem d_Hat_spring_16 : decode b_Hat_spring 16 = .ok (.getfield 121, 3) := by decide +kernel
theorem d_Hat_spring_19 : decode b_Hat_spring 19 = .ok (.getfield 125, 3) := by decide +kernel
theorem d_Hat_spring_22 : decode b_Hat_spring 22 = .ok (.getfield 186, 3) := by decide +kernel
theorem d_Hat_spring_25 : decode b_Hat_spring 25 = .ok (.ifCond .ne 5, 3) := by decide +kernel
theorem d_Hat_spring_28 : decode b_Hat_spring 28 = .ok (.iconst (-1), 1) := by decide +kernel
theorem d_Hat_spring_29 : decode b_Hat_spring 29 = .ok (.ireturn, 1) := by decide +kernel
theorem d_Hat_spring_30 : decode b_Hat_spring 30 = .ok (.aload_n 0, 1) := by decide +kernel
theorem d_Hat_spring_31 : decode b_Hat_spring 31 = .ok (.getfield 57, 3) := by decide +kernel
theorem d_Hat_spring_34 : decode b_Hat_spring 34 = .ok (.iload_n 1, 1) := by decide +kernel
theorem d_Hat_spring_35 : decode b_Hat_spring 35 = .ok (.invokevirtual 189, 3) := by decide +kernel
theorem d_Hat_spring_38 : decode b_Hat_spring 38 = .ok (.aload_n 0, 1) := by decide +kernel
theorem d_Hat_spring_39 : decode b_Hat_spring 39 = .ok (.getfield 57, 3) := by decide +kernel
theorem d_Hat_spring_42 : decode b_Hat_spring 42 = .ok (.getfield 183, 3) := by decide +kernel
theorem d_Hat_spring_45 : decode b_Hat_spring 45 = .ok (.ireturn, 1) := by decide +kernel
noncomputable def f_Hat_spring (z : Nat → Nat) (σ : Mm) (o : Nat) (p1 : Int32) : Option (Int32 × Mm) :=
  if (24 : Int32) ≤ (σ.1 (o + 60) 2) then (
    some (((-1) : Int32), σ)
  ) else (
    if (σ.1 (o + 62) 1) = 0 then (
      some (((-1) : Int32), σ)
    ) else (
      (f_State_drawAll z σ (o + 60) p1).bind fun q35 =>
      some ((q35.1 (o + 60) 2), q35)
    )
  )
set_option maxHeartbeats 4000000 in
set_option maxRecDepth 100000 in
theorem c_Hat_spring (l : Launch) {L : Ly} (hg : gd_ok L) {σ : Mm} {o : Nat} {p1 : Int32} (k_o_0 : ly_k L o = 10) {res : Int32 × Mm} (hf0 : f_Hat_spring (ly_z L) σ o p1 = some res) : CtI l y_Hat_spring b_Hat_spring 2 (some .int) rm_Hat_spring L [.ref (ly_a L o), .int p1] σ res.1 res.2 := by
  refine ct_i hg (by decide) (Nat.le_of_ble_eq_true rfl) ?_
  intro E A Q hE C hN
  subst hE
  have k_o_60 : ly_k L (o + 60) = 4 := gd_Hat_now hg k_o_0
  have k_o_61 : ly_k L (o + 61) = 2 := gd_State_island hg k_o_60
  have k_o_62 : ly_k L (o + 62) = 1 := gd_Island_surnames hg k_o_61
  unfold f_Hat_spring at hf0
  show GW E L A 2 0 0 Q σ 0 [(0, .ref (ly_a L o)), (1, .int p1)] []
  refine gw_aload_n C 0 d_Hat_spring_0 rfl rfl ?_
  refine gw_getA C 7 d_Hat_spring_1 k_o_0 (by decide) i_Hat rfl rfl (by decide) qw_410 rfl rfl (o + 60) rfl ?_
  refine gw_getIN C 2 d_Hat_spring_4 k_o_60 (by decide) i_State rfl rfl (by decide) qw_242 rfl rfl ?_
  refine gw_bipush C (24 : Int32) d_Hat_spring_7 (by decide) ?_
  refine gw_icmp_ge C 28 d_Hat_spring_9 (by decide) (fun hc => ?_) (fun hc => ?_)
  · replace hf0 := mx_t hc hf0
    refine gw_iconst C ((-1) : Int32) d_Hat_spring_28 (by decide) ?_
    exact en_i hN hf0 d_Hat_spring_29
  · replace hf0 := mx_f hc hf0
    refine gw_aload_n C 0 d_Hat_spring_12 rfl rfl ?_
    refine gw_getA C 7 d_Hat_spring_13 k_o_0 (by decide) i_Hat rfl rfl (by decide) qw_410 rfl rfl (o + 60) rfl ?_
    refine gw_getAN C 0 d_Hat_spring_16 k_o_60 (by decide) i_State rfl rfl (by decide) qw_237 rfl rfl (o + 61) rfl ?_
    refine gw_getAN C 0 d_Hat_spring_19 k_o_61 (by decide) i_Island rfl rfl (by decide) qw_128 rfl rfl (o + 62) rfl ?_
    refine gw_getIN C 1 d_Hat_spring_22 k_o_62 (by decide) i_Names rfl rfl (by decide) qw_115 rfl rfl ?_
    refine gw_if_ne C 30 d_Hat_spring_25 (by decide) (fun hc => ?_) (fun hc => ?_)
    · replace hf0 := mx_f hc hf0
      refine gw_aload_n C 0 d_Hat_spring_30 rfl rfl ?_
      refine gw_getA C 7 d_Hat_spring_31 k_o_0 (by decide) i_Hat rfl rfl (by decide) qw_410 rfl rfl (o + 60) rfl ?_
      refine gw_iload_n C 1 d_Hat_spring_34 rfl rfl ?_
      obtain ⟨q35, hq35, hf0⟩ := mx_bd hf0
      refine gw_callV C (c_State_drawAll _ hg k_o_60 hq35) d_Hat_spring_35 1 qw_709 qw_710 qw_711 qw_5 qw_712 k_o_60 (by decide) rfl hd_State_drawAll rfl rfl (Nat.le_of_ble_eq_true rfl) ⟨rfl, rfl, Nat.le_of_ble_eq_true rfl, Nat.le_of_ble_eq_true rfl⟩ ⟨Nat.zero_le _, Nat.zero_le _⟩ ?_
      refine gw_aload_n C 0 d_Hat_spring_38 rfl rfl ?_
      refine gw_getA C 7 d_Hat_spring_39 k_o_0 (by decide) i_Hat rfl rfl (by decide) qw_410 rfl rfl (o + 60) rfl ?_
      refine gw_getIN C 2 d_Hat_spring_42 k_o_60 (by decide) i_State rfl rfl (by decide) qw_242 rfl rfl ?_
      exact en_i hN hf0 d_Hat_spring_45
    · replace hf0 := mx_t hc hf0
      refine gw_iconst C ((-1) : Int32) d_Hat_spring_28 (by decide) ?_
      exact en_i hN hf0 d_Hat_spring_29

/-! NameHat.State.heldAt(II)I -/
abbrev b_State_heldAt : ByteArray := prog_10_method_5_code
def y_State_heldAt : MethodName := ⟨"NameHat$State", "heldAt", "(II)I"⟩
abbrev rm_State_heldAt : Room := { frames := 1, cells := 0, slots := 0, locals := 21 }
theorem hd_State_heldAt : y_State_heldAt.cls ≠ "java/lang/invoke/MethodHandle" ∧ y_State_heldAt.cls ≠ "java/lang/invoke/VarHandle" ∧ (parseMethodDescriptor y_State_heldAt.desc).map (fun d => d.parameters.length) = some 2 := by decide +kernel
theorem d_State_heldAt_0 : decode b_State_heldAt 0 = .ok (.aload_n 0, 1) := by decide +kernel
theorem d_State_heldAt_1 : decode b_State_heldAt 1 = .ok (.getfield 12, 3) := by decide +kernel
theorem d_State_heldAt_4 : decode b_State_heldAt 4 = .ok (.getfield 80, 3) := by decide +kernel
theorem d_State_heldAt_7 : decode b_State_heldAt 7 = .ok (.iload_n 1, 1) := by decide +kernel
theorem d_State_heldAt_8 : decode b_State_heldAt 8 = .ok (.invokevirtual 84, 3) := by decide +kernel
theorem d_State_heldAt_11 : decode b_State_heldAt 11 = .ok (.ifCond .eq 15, 3) := by decide +kernel
theorem d_State_heldAt_14 : decode b_State_heldAt 14 = .ok (.iload_n 2, 1) := by decide +kernel
theorem d_State_heldAt_15 : decode b_State_heldAt 15 = .ok (.ifCond .lt 11, 3) := by decide +kernel
theorem d_State_heldAt_18 : decode b_State_heldAt 18 = .ok (.iload_n 2, 1) := by decide +kernel
theorem d_State_heldAt_19 : decode b_State_heldAt 19 = .ok (.aload_n 0, 1) := by decide +kernel
theorem d_State_heldAt_20 : decode b_State_heldAt 20 = .ok (.getfield 54, 3) := by decide +kernel
theorem d_State_heldAt_23 : decode b_State_heldAt 23 = .ok (.if_icmp .le 5, 3) := by decide +kernel
theorem d_State_heldAt_26 : decode b_State_heldAt 26 = .ok (.iconst (-1), 1) := by decide +kernel
theorem d_State_heldAt_27 : decode b_State_heldAt 27 = .ok (.ireturn, 1) := by decide +kernel
theorem d_State_heldAt_28 : decode b_State_heldAt 28 = .ok (.iload_n 2, 1) := by decide +kernel
theorem d_State_heldAt_29 : decode b_State_heldAt 29 = .ok (.aload_n 0, 1) := by decide +kernel
theorem d_State_heldAt_30 : decode b_State_heldAt 30 = .ok (.getfield 54, 3) := by decide +kernel
theorem d_State_heldAt_33 : decode b_State_heldAt 33 = .ok (.if_icmp .ne 17, 3) := by decide +kernel
theorem d_State_heldAt_36 : decode b_State_heldAt 36 = .ok (.aload_n 0, 1) := by decide +kernel
theorem d_State_heldAt_37 : decode b_State_heldAt 37 = .ok (.getfield 21, 3) := by decide +kernel
theorem d_State_heldAt_40 : decode b_State_heldAt 40 = .ok (.getfield 90, 3) := by decide +kernel
theorem d_State_heldAt_43 : decode b_State_heldAt 43 = .ok (.iload_n 1, 1) := by decide +kernel
theorem d_State_heldAt_44 : decode b_State_heldAt 44 = .ok (.invokevirtual 93, 3) := by decide +kernel
theorem d_State_heldAt_47 : decode b_State_heldAt 47 = .ok (.goto 16, 3) := by decide +kernel
theorem d_State_heldAt_50 : decode b_State_heldAt 50 = .ok (.aload_n 0, 1) := by decide +kernel
theorem d_State_heldAt_51 : decode b_State_heldAt 51 = .ok (.getfield 30, 3) := by decide +kernel
theorem d_State_heldAt_54 : decode b_State_heldAt 54 = .ok (.iload_n 2, 1) := by decide +kernel
theorem d_State_heldAt_55 : decode b_State_heldAt 55 = .ok (.bipush 8, 2) := by decide +kernel
theorem d_State_heldAt_57 : decode b_State_heldAt 57 = .ok (.imul, 1) := by decide +kernel
theorem d_State_heldAt_58 : decode b_State_heldAt 58 = .ok (.iload_n 1, 1) := by decide +kernel
theorem d_State_heldAt_59 : decode b_State_heldAt 59 = .ok (.iadd, 1) := by decide +kernel
theorem d_State_heldAt_60 : decode b_State_heldAt 60 = .ok (.invokevirtual 93, 3) := by decide +kernel
theorem d_State_heldAt_63 : decode b_State_heldAt 63 = .ok (.ireturn, 1) := by decide +kernel
noncomputable def f_State_heldAt (z : Nat → Nat) (σ : Mm) (o : Nat) (p1 : Int32) (p2 : Int32) : Option (Int32) :=
  (f_Names_has z σ (o + 4) p1).bind fun q8 =>
  if q8 = 0 then (
    some ((-1) : Int32)
  ) else (
    if p2 < 0 then (
      some ((-1) : Int32)
    ) else (
      if p2 ≤ (σ.1 o 2) then (
        if p2 = (σ.1 o 2) then (
          (f_Row_at z σ (o + 15) p1).bind fun q44 =>
          some q44
        ) else (
          (f_Row_at z σ (o + 23) ((p2 * (8 : Int32)) + p1)).bind fun q60 =>
          some q60
        )
      ) else (
        some ((-1) : Int32)
      )
    )
  )
set_option maxHeartbeats 4000000 in
set_option maxRecDepth 100000 in
theorem c_State_heldAt (l : Launch) {L : Ly} (hg : gd_ok L) {σ : Mm} {o : Nat} {p1 : Int32} {p2 : Int32} (k_o_0 : ly_k L o = 4) {res : Int32} (hf0 : f_State_heldAt (ly_z L) σ o p1 p2 = some res) : CtI l y_State_heldAt b_State_heldAt 3 (some .int) rm_State_heldAt L [.ref (ly_a L o), .int p1, .int p2] σ res σ := by
  refine ct_i hg (by decide) (Nat.le_of_ble_eq_true rfl) ?_
  intro E A Q hE C hN
  subst hE
  have k_o_1 : ly_k L (o + 1) = 2 := gd_State_island hg k_o_0
  have k_o_4 : ly_k L (o + 4) = 1 := gd_Island_houses hg k_o_1
  have k_o_23 : ly_k L (o + 23) = 0 := gd_State_ended hg k_o_0
  have k_o_14 : ly_k L (o + 14) = 3 := gd_State_hands hg k_o_0
  have k_o_15 : ly_k L (o + 15) = 0 := gd_Hands_held hg k_o_14
  unfold f_State_heldAt at hf0
  show GW E L A 3 0 0 Q σ 0 [(0, .ref (ly_a L o)), (1, .int p1), (2, .int p2)] []
  refine gw_aload_n C 0 d_State_heldAt_0 rfl rfl ?_
  refine gw_getA C 0 d_State_heldAt_1 k_o_0 (by decide) i_State rfl rfl (by decide) qw_234 rfl rfl (o + 1) rfl ?_
  refine gw_getAN C 1 d_State_heldAt_4 k_o_1 (by decide) i_Island rfl rfl (by decide) qw_133 rfl rfl (o + 4) rfl ?_
  refine gw_iload_n C 1 d_State_heldAt_7 rfl rfl ?_
  obtain ⟨q8, hq8, hf0⟩ := mx_bd hf0
  refine gw_callI C (c_Names_has _ hg k_o_4 hq8) d_State_heldAt_8 1 qw_737 qw_738 qw_739 qw_7 qw_740 k_o_4 (by decide) rfl hd_Names_has rfl rfl (Nat.le_of_ble_eq_true rfl) ⟨rfl, rfl, Nat.le_of_ble_eq_true rfl, Nat.le_of_ble_eq_true rfl⟩ ⟨Nat.zero_le _, Nat.zero_le _⟩ ?_
  refine gw_if_eq C 26 d_State_heldAt_11 (by decide) (fun hc => ?_) (fun hc => ?_)
  · replace hf0 := mx_t hc hf0
    refine gw_iconst C ((-1) : Int32) d_State_heldAt_26 (by decide) ?_
    exact en_ip hN hf0 d_State_heldAt_27
  · replace hf0 := mx_f hc hf0
    refine gw_iload_n C 2 d_State_heldAt_14 rfl rfl ?_
    refine gw_if_lt C 26 d_State_heldAt_15 (by decide) (fun hc => ?_) (fun hc => ?_)
    · replace hf0 := mx_t hc hf0
      refine gw_iconst C ((-1) : Int32) d_State_heldAt_26 (by decide) ?_
      exact en_ip hN hf0 d_State_heldAt_27
    · replace hf0 := mx_f hc hf0
      refine gw_iload_n C 2 d_State_heldAt_18 rfl rfl ?_
      refine gw_aload_n C 0 d_State_heldAt_19 rfl rfl ?_
      refine gw_getI C 2 d_State_heldAt_20 k_o_0 (by decide) i_State rfl rfl (by decide) qw_241 rfl rfl ?_
      refine gw_icmp_le C 28 d_State_heldAt_23 (by decide) (fun hc => ?_) (fun hc => ?_)
      · replace hf0 := mx_t hc hf0
        refine gw_iload_n C 2 d_State_heldAt_28 rfl rfl ?_
        refine gw_aload_n C 0 d_State_heldAt_29 rfl rfl ?_
        refine gw_getI C 2 d_State_heldAt_30 k_o_0 (by decide) i_State rfl rfl (by decide) qw_241 rfl rfl ?_
        refine gw_icmp_ne C 50 d_State_heldAt_33 (by decide) (fun hc => ?_) (fun hc => ?_)
        · replace hf0 := mx_f hc hf0
          refine gw_aload_n C 0 d_State_heldAt_50 rfl rfl ?_
          refine gw_getA C 3 d_State_heldAt_51 k_o_0 (by decide) i_State rfl rfl (by decide) qw_243 rfl rfl (o + 23) rfl ?_
          refine gw_iload_n C 2 d_State_heldAt_54 rfl rfl ?_
          refine gw_bipush C (8 : Int32) d_State_heldAt_55 (by decide) ?_
          refine gw_imul C d_State_heldAt_57 ?_
          refine gw_iload_n C 1 d_State_heldAt_58 rfl rfl ?_
          refine gw_iadd C d_State_heldAt_59 ?_
          obtain ⟨q60, hq60, hf0⟩ := mx_bd hf0
          refine gw_callI C (c_Row_at _ hg k_o_23 hq60) d_State_heldAt_60 1 qw_713 qw_489 qw_490 qw_4 qw_491 k_o_23 (by decide) rfl hd_Row_at rfl rfl (Nat.le_of_ble_eq_true rfl) ⟨rfl, rfl, Nat.le_of_ble_eq_true rfl, Nat.le_of_ble_eq_true rfl⟩ ⟨Nat.zero_le _, Nat.zero_le _⟩ ?_
          exact en_ip hN hf0 d_State_heldAt_63
        · replace hf0 := mx_t hc hf0
          refine gw_aload_n C 0 d_State_heldAt_36 rfl rfl ?_
          refine gw_getA C 1 d_State_heldAt_37 k_o_0 (by decide) i_State rfl rfl (by decide) qw_238 rfl rfl (o + 14) rfl ?_
          refine gw_getAN C 0 d_State_heldAt_40 k_o_14 (by decide) i_Hands rfl rfl (by decide) qw_188 rfl rfl (o + 15) rfl ?_
          refine gw_iload_n C 1 d_State_heldAt_43 rfl rfl ?_
          obtain ⟨q44, hq44, hf0⟩ := mx_bd hf0
          refine gw_callI C (c_Row_at _ hg k_o_15 hq44) d_State_heldAt_44 1 qw_713 qw_489 qw_490 qw_4 qw_491 k_o_15 (by decide) rfl hd_Row_at rfl rfl (Nat.le_of_ble_eq_true rfl) ⟨rfl, rfl, Nat.le_of_ble_eq_true rfl, Nat.le_of_ble_eq_true rfl⟩ ⟨Nat.zero_le _, Nat.zero_le _⟩ ?_
          refine gw_goto C 63 d_State_heldAt_47 (by decide) ?_
          exact en_ip hN hf0 d_State_heldAt_63
      · replace hf0 := mx_f hc hf0
        refine gw_iconst C ((-1) : Int32) d_State_heldAt_26 (by decide) ?_
        exact en_ip hN hf0 d_State_heldAt_27

/-! NameHat.held(II)I -/
abbrev b_Hat_held : ByteArray := prog_1_method_14_code
def y_Hat_held : MethodName := ⟨"NameHat", "held", "(II)I"⟩
abbrev rm_Hat_held : Room := { frames := 2, cells := 0, slots := 0, locals := 43 }
theorem hd_Hat_held : y_Hat_held.cls ≠ "java/lang/invoke/MethodHandle" ∧ y_Hat_held.cls ≠ "java/lang/invoke/VarHandle" ∧ (parseMethodDescriptor y_Hat_held.desc).map (fun d => d.parameters.length) = some 2 := by decide +kernel
theorem d_Hat_held_0 : decode b_Hat_held 0 = .ok (.aload_n 0, 1) := by decide +kernel
theorem d_Hat_held_1 : decode b_Hat_held 1 = .ok (.getfield 57, 3) := by decide +kernel
theorem d_Hat_held_4 : decode b_Hat_held 4 = .ok (.iload_n 1, 1) := by decide +kernel
theorem d_Hat_held_5 : decode b_Hat_held 5 = .ok (.iload_n 2, 1) := by decide +kernel
theorem d_Hat_held_6 : decode b_Hat_held 6 = .ok (.invokevirtual 192, 3) := by decide +kernel
theorem d_Hat_held_9 : decode b_Hat_held 9 = .ok (.ireturn, 1) := by decide +kernel
noncomputable def f_Hat_held (z : Nat → Nat) (σ : Mm) (o : Nat) (p1 : Int32) (p2 : Int32) : Option (Int32) :=
  (f_State_heldAt z σ (o + 60) p1 p2).bind fun q6 =>
  some q6
set_option maxHeartbeats 4000000 in
set_option maxRecDepth 100000 in
theorem c_Hat_held (l : Launch) {L : Ly} (hg : gd_ok L) {σ : Mm} {o : Nat} {p1 : Int32} {p2 : Int32} (k_o_0 : ly_k L o = 10) {res : Int32} (hf0 : f_Hat_held (ly_z L) σ o p1 p2 = some res) : CtI l y_Hat_held b_Hat_held 3 (some .int) rm_Hat_held L [.ref (ly_a L o), .int p1, .int p2] σ res σ := by
  refine ct_i hg (by decide) (Nat.le_of_ble_eq_true rfl) ?_
  intro E A Q hE C hN
  subst hE
  have k_o_60 : ly_k L (o + 60) = 4 := gd_Hat_now hg k_o_0
  unfold f_Hat_held at hf0
  show GW E L A 3 0 0 Q σ 0 [(0, .ref (ly_a L o)), (1, .int p1), (2, .int p2)] []
  refine gw_aload_n C 0 d_Hat_held_0 rfl rfl ?_
  refine gw_getA C 7 d_Hat_held_1 k_o_0 (by decide) i_Hat rfl rfl (by decide) qw_410 rfl rfl (o + 60) rfl ?_
  refine gw_iload_n C 1 d_Hat_held_4 rfl rfl ?_
  refine gw_iload_n C 2 d_Hat_held_5 rfl rfl ?_
  obtain ⟨q6, hq6, hf0⟩ := mx_bd hf0
  refine gw_callI C (c_State_heldAt _ hg k_o_60 hq6) d_Hat_held_6 2 qw_733 qw_734 qw_735 qw_5 qw_736 k_o_60 (by decide) rfl hd_State_heldAt rfl rfl (Nat.le_of_ble_eq_true rfl) ⟨rfl, rfl, Nat.le_of_ble_eq_true rfl, Nat.le_of_ble_eq_true rfl⟩ ⟨Nat.zero_le _, Nat.zero_le _⟩ ?_
  exact en_ip hN hf0 d_Hat_held_9

/-! NameHat.State.keeperAt(II)I -/
abbrev b_State_keeperAt : ByteArray := prog_10_method_6_code
def y_State_keeperAt : MethodName := ⟨"NameHat$State", "keeperAt", "(II)I"⟩
abbrev rm_State_keeperAt : Room := { frames := 2, cells := 0, slots := 0, locals := 43 }
theorem hd_State_keeperAt : y_State_keeperAt.cls ≠ "java/lang/invoke/MethodHandle" ∧ y_State_keeperAt.cls ≠ "java/lang/invoke/VarHandle" ∧ (parseMethodDescriptor y_State_keeperAt.desc).map (fun d => d.parameters.length) = some 2 := by decide +kernel
theorem d_State_keeperAt_0 : decode b_State_keeperAt 0 = .ok (.iconst 0, 1) := by decide +kernel
theorem d_State_keeperAt_1 : decode b_State_keeperAt 1 = .ok (.istore_n 3, 1) := by decide +kernel
theorem d_State_keeperAt_2 : decode b_State_keeperAt 2 = .ok (.iload_n 3, 1) := by decide +kernel
theorem d_State_keeperAt_3 : decode b_State_keeperAt 3 = .ok (.aload_n 0, 1) := by decide +kernel
theorem d_State_keeperAt_4 : decode b_State_keeperAt 4 = .ok (.getfield 12, 3) := by decide +kernel
theorem d_State_keeperAt_7 : decode b_State_keeperAt 7 = .ok (.getfield 80, 3) := by decide +kernel
theorem d_State_keeperAt_10 : decode b_State_keeperAt 10 = .ok (.getfield 97, 3) := by decide +kernel
theorem d_State_keeperAt_13 : decode b_State_keeperAt 13 = .ok (.if_icmp .ge 35, 3) := by decide +kernel
theorem d_State_keeperAt_16 : decode b_State_keeperAt 16 = .ok (.aload_n 0, 1) := by decide +kernel
theorem d_State_keeperAt_17 : decode b_State_keeperAt 17 = .ok (.getfield 12, 3) := by decide +kernel
theorem d_State_keeperAt_20 : decode b_State_keeperAt 20 = .ok (.getfield 100, 3) := by decide +kernel
theorem d_State_keeperAt_23 : decode b_State_keeperAt 23 = .ok (.iload_n 1, 1) := by decide +kernel
theorem d_State_keeperAt_24 : decode b_State_keeperAt 24 = .ok (.invokevirtual 84, 3) := by decide +kernel
theorem d_State_keeperAt_27 : decode b_State_keeperAt 27 = .ok (.ifCond .eq 21, 3) := by decide +kernel
theorem d_State_keeperAt_30 : decode b_State_keeperAt 30 = .ok (.aload_n 0, 1) := by decide +kernel
theorem d_State_keeperAt_31 : decode b_State_keeperAt 31 = .ok (.iload_n 3, 1) := by decide +kernel
theorem d_State_keeperAt_32 : decode b_State_keeperAt 32 = .ok (.iload_n 2, 1) := by decide +kernel
theorem d_State_keeperAt_33 : decode b_State_keeperAt 33 = .ok (.invokevirtual 103, 3) := by decide +kernel
theorem d_State_keeperAt_36 : decode b_State_keeperAt 36 = .ok (.iload_n 1, 1) := by decide +kernel
theorem d_State_keeperAt_37 : decode b_State_keeperAt 37 = .ok (.if_icmp .ne 5, 3) := by decide +kernel
theorem d_State_keeperAt_40 : decode b_State_keeperAt 40 = .ok (.iload_n 3, 1) := by decide +kernel
theorem d_State_keeperAt_41 : decode b_State_keeperAt 41 = .ok (.ireturn, 1) := by decide +kernel
theorem d_State_keeperAt_42 : decode b_State_keeperAt 42 = .ok (.iinc 3 1, 3) := by decide +kernel
theorem d_State_keeperAt_45 : decode b_State_keeperAt 45 = .ok (.goto (-43), 3) := by decide +kernel
theorem d_State_keeperAt_48 : decode b_State_keeperAt 48 = .ok (.iconst (-1), 1) := by decide +kernel
theorem d_State_keeperAt_49 : decode b_State_keeperAt 49 = .ok (.ireturn, 1) := by decide +kernel
noncomputable def f_State_keeperAt_L2 (z : Nat → Nat) (σ : Mm) (o : Nat) (v1 : Int32) (v2 : Int32) (s2 : Int32) : Option ((Int32) ⊕ ((Int32) ⊕ (Unit))) :=
  if (σ.1 (o + 4) 1) ≤ s2 then (
    some (.inr (.inr ()))
  ) else (
    (f_Names_has z σ (o + 2) v1).bind fun q24 =>
    if q24 = 0 then (
      some (.inr (.inr ()))
    ) else (
      (f_State_heldAt z σ o s2 v2).bind fun q33 =>
      if q33 = v1 then (
        some (.inr (.inl s2))
      ) else (
        mm_lt (s2 + (1 : Int32)) fun x42 =>
        some (.inl x42)
      )
    )
  )
noncomputable def f_State_keeperAt (z : Nat → Nat) (σ : Mm) (o : Nat) (p1 : Int32) (p2 : Int32) : Option (Int32) :=
  (mm_lp (f_State_keeperAt_L2 z σ o p1 p2) (0 : Int32)).bind (Sum.elim (fun r9 => some r9) (fun x2_ =>
    some ((-1) : Int32)))
set_option maxHeartbeats 4000000 in
set_option maxRecDepth 100000 in
theorem c_State_keeperAt (l : Launch) {L : Ly} (hg : gd_ok L) {σ : Mm} {o : Nat} {p1 : Int32} {p2 : Int32} (k_o_0 : ly_k L o = 4) {res : Int32} (hf0 : f_State_keeperAt (ly_z L) σ o p1 p2 = some res) : CtI l y_State_keeperAt b_State_keeperAt 4 (some .int) rm_State_keeperAt L [.ref (ly_a L o), .int p1, .int p2] σ res σ := by
  refine ct_i hg (by decide) (Nat.le_of_ble_eq_true rfl) ?_
  intro E A Q hE C hN
  subst hE
  have k_o_1 : ly_k L (o + 1) = 2 := gd_State_island hg k_o_0
  have k_o_4 : ly_k L (o + 4) = 1 := gd_Island_houses hg k_o_1
  have k_o_2 : ly_k L (o + 2) = 1 := gd_Island_surnames hg k_o_1
  unfold f_State_keeperAt at hf0
  show GW E L A 4 0 0 Q σ 0 [(0, .ref (ly_a L o)), (1, .int p1), (2, .int p2)] []
  refine gw_iconst C (0 : Int32) d_State_keeperAt_0 (by decide) ?_
  refine gw_istore_n C [(3, .int (0 : Int32)), (0, .ref (ly_a L o)), (1, .int p1), (2, .int p2)] d_State_keeperAt_1 rfl (by decide) rfl ?_
  obtain ⟨q2, hq2, hf0⟩ := mx_bd hf0
  have hk2 : ∀ x2_, q2 = .inr x2_ → GW E L A 4 0 0 Q σ 48 [] [] := by
    intro x2_ hx9
    subst hx9
    replace hf0 := mx_sr hf0
    refine gw_iconst C ((-1) : Int32) d_State_keeperAt_48 (by decide) ?_
    exact en_ip hN hf0 d_State_keeperAt_49
  refine gw_sub [1, 2, 3, 0] (lv' := [(0, .ref (ly_a L o)), (1, .int p1), (2, .int p2), (3, .int (0 : Int32))]) rfl ?_
  refine mm_rule hq2 (P := fun (s2 : Int32) => GW E L A 4 0 0 Q σ 2 [(0, .ref (ly_a L o)), (1, .int p1), (2, .int p2), (3, .int s2)] []) ?_
  intro s2 ih2 hx2 ⟨w2, hb2⟩
  have hf1 := hb2
  unfold f_State_keeperAt_L2 at hf1
  refine gw_iload_n C 3 d_State_keeperAt_2 rfl rfl ?_
  refine gw_aload_n C 0 d_State_keeperAt_3 rfl rfl ?_
  refine gw_getA C 0 d_State_keeperAt_4 k_o_0 (by decide) i_State rfl rfl (by decide) qw_234 rfl rfl (o + 1) rfl ?_
  refine gw_getAN C 1 d_State_keeperAt_7 k_o_1 (by decide) i_Island rfl rfl (by decide) qw_133 rfl rfl (o + 4) rfl ?_
  refine gw_getIN C 1 d_State_keeperAt_10 k_o_4 (by decide) i_Names rfl rfl (by decide) qw_112 rfl rfl ?_
  refine gw_icmp_ge C 48 d_State_keeperAt_13 (by decide) (fun hc => ?_) (fun hc => ?_)
  · replace hf1 := mx_t hc hf1
    exact gw_go [] (hk2 () (hx2 _ (hb2.trans hf1.symm)).symm) rfl
  · replace hf1 := mx_f hc hf1
    refine gw_aload_n C 0 d_State_keeperAt_16 rfl rfl ?_
    refine gw_getA C 0 d_State_keeperAt_17 k_o_0 (by decide) i_State rfl rfl (by decide) qw_234 rfl rfl (o + 1) rfl ?_
    refine gw_getAN C 0 d_State_keeperAt_20 k_o_1 (by decide) i_Island rfl rfl (by decide) qw_126 rfl rfl (o + 2) rfl ?_
    refine gw_iload_n C 1 d_State_keeperAt_23 rfl rfl ?_
    obtain ⟨q24, hq24, hf1⟩ := mx_bd hf1
    refine gw_callI C (c_Names_has _ hg k_o_2 hq24) d_State_keeperAt_24 1 qw_737 qw_738 qw_739 qw_7 qw_740 k_o_2 (by decide) rfl hd_Names_has rfl rfl (Nat.le_of_ble_eq_true rfl) ⟨rfl, rfl, Nat.le_of_ble_eq_true rfl, Nat.le_of_ble_eq_true rfl⟩ ⟨Nat.zero_le _, Nat.zero_le _⟩ ?_
    refine gw_if_eq C 48 d_State_keeperAt_27 (by decide) (fun hc => ?_) (fun hc => ?_)
    · replace hf1 := mx_t hc hf1
      exact gw_go [] (hk2 () (hx2 _ (hb2.trans hf1.symm)).symm) rfl
    · replace hf1 := mx_f hc hf1
      refine gw_aload_n C 0 d_State_keeperAt_30 rfl rfl ?_
      refine gw_iload_n C 3 d_State_keeperAt_31 rfl rfl ?_
      refine gw_iload_n C 2 d_State_keeperAt_32 rfl rfl ?_
      obtain ⟨q33, hq33, hf1⟩ := mx_bd hf1
      refine gw_callI C (c_State_heldAt _ hg k_o_0 hq33) d_State_keeperAt_33 2 qw_749 qw_734 qw_735 qw_5 qw_736 k_o_0 (by decide) rfl hd_State_heldAt rfl rfl (Nat.le_of_ble_eq_true rfl) ⟨rfl, rfl, Nat.le_of_ble_eq_true rfl, Nat.le_of_ble_eq_true rfl⟩ ⟨Nat.zero_le _, Nat.zero_le _⟩ ?_
      refine gw_iload_n C 1 d_State_keeperAt_36 rfl rfl ?_
      refine gw_icmp_ne C 42 d_State_keeperAt_37 (by decide) (fun hc => ?_) (fun hc => ?_)
      · replace hf1 := mx_f hc hf1
        obtain ⟨x42, ex42, hf1⟩ := mx_lt hf1
        refine gw_iinc C 3 [(3, .int x42), (0, .ref (ly_a L o)), (1, .int p1), (2, .int p2)] d_State_keeperAt_42 rfl (by rw [ex42]; rfl) (by decide) rfl ?_
        refine gw_goto C 2 d_State_keeperAt_45 (by decide) ?_
        exact gw_go [1, 2, 3, 0] (ih2 x42 (hb2.trans hf1.symm)) rfl
      · replace hf1 := mx_t hc hf1
        refine gw_iload_n C 3 d_State_keeperAt_40 rfl rfl ?_
        have hr2 := hx2 _ (hb2.trans hf1.symm)
        subst hr2
        replace hf0 := mx_sl hf0
        exact en_ip hN hf0 d_State_keeperAt_41

/-! NameHat.keeper(II)I -/
abbrev b_Hat_keeper : ByteArray := prog_1_method_15_code
def y_Hat_keeper : MethodName := ⟨"NameHat", "keeper", "(II)I"⟩
abbrev rm_Hat_keeper : Room := { frames := 3, cells := 0, slots := 0, locals := 66 }
theorem hd_Hat_keeper : y_Hat_keeper.cls ≠ "java/lang/invoke/MethodHandle" ∧ y_Hat_keeper.cls ≠ "java/lang/invoke/VarHandle" ∧ (parseMethodDescriptor y_Hat_keeper.desc).map (fun d => d.parameters.length) = some 2 := by decide +kernel
theorem d_Hat_keeper_0 : decode b_Hat_keeper 0 = .ok (.aload_n 0, 1) := by decide +kernel
theorem d_Hat_keeper_1 : decode b_Hat_keeper 1 = .ok (.getfield 57, 3) := by decide +kernel
theorem d_Hat_keeper_4 : decode b_Hat_keeper 4 = .ok (.iload_n 1, 1) := by decide +kernel
theorem d_Hat_keeper_5 : decode b_Hat_keeper 5 = .ok (.iload_n 2, 1) := by decide +kernel
theorem d_Hat_keeper_6 : decode b_Hat_keeper 6 = .ok (.invokevirtual 195, 3) := by decide +kernel
theorem d_Hat_keeper_9 : decode b_Hat_keeper 9 = .ok (.ireturn, 1) := by decide +kernel
noncomputable def f_Hat_keeper (z : Nat → Nat) (σ : Mm) (o : Nat) (p1 : Int32) (p2 : Int32) : Option (Int32) :=
  (f_State_keeperAt z σ (o + 60) p1 p2).bind fun q6 =>
  some q6
set_option maxHeartbeats 4000000 in
set_option maxRecDepth 100000 in
theorem c_Hat_keeper (l : Launch) {L : Ly} (hg : gd_ok L) {σ : Mm} {o : Nat} {p1 : Int32} {p2 : Int32} (k_o_0 : ly_k L o = 10) {res : Int32} (hf0 : f_Hat_keeper (ly_z L) σ o p1 p2 = some res) : CtI l y_Hat_keeper b_Hat_keeper 3 (some .int) rm_Hat_keeper L [.ref (ly_a L o), .int p1, .int p2] σ res σ := by
  refine ct_i hg (by decide) (Nat.le_of_ble_eq_true rfl) ?_
  intro E A Q hE C hN
  subst hE
  have k_o_60 : ly_k L (o + 60) = 4 := gd_Hat_now hg k_o_0
  unfold f_Hat_keeper at hf0
  show GW E L A 3 0 0 Q σ 0 [(0, .ref (ly_a L o)), (1, .int p1), (2, .int p2)] []
  refine gw_aload_n C 0 d_Hat_keeper_0 rfl rfl ?_
  refine gw_getA C 7 d_Hat_keeper_1 k_o_0 (by decide) i_Hat rfl rfl (by decide) qw_410 rfl rfl (o + 60) rfl ?_
  refine gw_iload_n C 1 d_Hat_keeper_4 rfl rfl ?_
  refine gw_iload_n C 2 d_Hat_keeper_5 rfl rfl ?_
  obtain ⟨q6, hq6, hf0⟩ := mx_bd hf0
  refine gw_callI C (c_State_keeperAt _ hg k_o_60 hq6) d_Hat_keeper_6 2 qw_745 qw_746 qw_747 qw_5 qw_748 k_o_60 (by decide) rfl hd_State_keeperAt rfl rfl (Nat.le_of_ble_eq_true rfl) ⟨rfl, rfl, Nat.le_of_ble_eq_true rfl, Nat.le_of_ble_eq_true rfl⟩ ⟨Nat.zero_le _, Nat.zero_le _⟩ ?_
  exact en_ip hN hf0 d_Hat_keeper_9

/-! NameHat.Hands.valueHeld(LNameHat.Island;I)I -/
abbrev b_Hands_valueHeld : ByteArray := prog_3_method_6_code
def y_Hands_valueHeld : MethodName := ⟨"NameHat$Hands", "valueHeld", "(LNameHat$Island;I)I"⟩
abbrev rm_Hands_valueHeld : Room := { frames := 3, cells := 0, slots := 0, locals := 67 }
theorem hd_Hands_valueHeld : y_Hands_valueHeld.cls ≠ "java/lang/invoke/MethodHandle" ∧ y_Hands_valueHeld.cls ≠ "java/lang/invoke/VarHandle" ∧ (parseMethodDescriptor y_Hands_valueHeld.desc).map (fun d => d.parameters.length) = some 2 := by decide +kernel
theorem d_Hands_valueHeld_0 : decode b_Hands_valueHeld 0 = .ok (.aload_n 0, 1) := by decide +kernel
theorem d_Hands_valueHeld_1 : decode b_Hands_valueHeld 1 = .ok (.getfield 14, 3) := by decide +kernel
theorem d_Hands_valueHeld_4 : decode b_Hands_valueHeld 4 = .ok (.iload_n 2, 1) := by decide +kernel
theorem d_Hands_valueHeld_5 : decode b_Hands_valueHeld 5 = .ok (.invokevirtual 36, 3) := by decide +kernel
theorem d_Hands_valueHeld_8 : decode b_Hands_valueHeld 8 = .ok (.istore_n 3, 1) := by decide +kernel
theorem d_Hands_valueHeld_9 : decode b_Hands_valueHeld 9 = .ok (.iload_n 3, 1) := by decide +kernel
theorem d_Hands_valueHeld_10 : decode b_Hands_valueHeld 10 = .ok (.iconst (-1), 1) := by decide +kernel
theorem d_Hands_valueHeld_11 : decode b_Hands_valueHeld 11 = .ok (.if_icmp .ne 7, 3) := by decide +kernel
theorem d_Hands_valueHeld_14 : decode b_Hands_valueHeld 14 = .ok (.iconst 0, 1) := by decide +kernel
theorem d_Hands_valueHeld_15 : decode b_Hands_valueHeld 15 = .ok (.goto 9, 3) := by decide +kernel
theorem d_Hands_valueHeld_18 : decode b_Hands_valueHeld 18 = .ok (.aload_n 1, 1) := by decide +kernel
theorem d_Hands_valueHeld_19 : decode b_Hands_valueHeld 19 = .ok (.iload_n 2, 1) := by decide +kernel
theorem d_Hands_valueHeld_20 : decode b_Hands_valueHeld 20 = .ok (.iload_n 3, 1) := by decide +kernel
theorem d_Hands_valueHeld_21 : decode b_Hands_valueHeld 21 = .ok (.invokevirtual 40, 3) := by decide +kernel
theorem d_Hands_valueHeld_24 : decode b_Hands_valueHeld 24 = .ok (.ireturn, 1) := by decide +kernel
noncomputable def f_Hands_valueHeld (z : Nat → Nat) (σ : Mm) (o : Nat) (o1 : Nat) (p2 : Int32) : Option (Int32) :=
  (f_Row_at z σ (o + 1) p2).bind fun q5 =>
  if q5 = ((-1) : Int32) then (
    some (0 : Int32)
  ) else (
    (f_Island_valueFor z σ o1 p2 q5).bind fun q21 =>
    some q21
  )
set_option maxHeartbeats 4000000 in
set_option maxRecDepth 100000 in
theorem c_Hands_valueHeld (l : Launch) {L : Ly} (hg : gd_ok L) {σ : Mm} {o : Nat} {o1 : Nat} {p2 : Int32} (k_o_0 : ly_k L o = 3) (k_o1_0 : ly_k L o1 = 2) {res : Int32} (hf0 : f_Hands_valueHeld (ly_z L) σ o o1 p2 = some res) : CtI l y_Hands_valueHeld b_Hands_valueHeld 4 (some .int) rm_Hands_valueHeld L [.ref (ly_a L o), .ref (ly_a L o1), .int p2] σ res σ := by
  refine ct_i hg (by decide) (Nat.le_of_ble_eq_true rfl) ?_
  intro E A Q hE C hN
  subst hE
  have k_o_1 : ly_k L (o + 1) = 0 := gd_Hands_held hg k_o_0
  unfold f_Hands_valueHeld at hf0
  show GW E L A 4 0 0 Q σ 0 [(0, .ref (ly_a L o)), (1, .ref (ly_a L o1)), (2, .int p2)] []
  refine gw_aload_n C 0 d_Hands_valueHeld_0 rfl rfl ?_
  refine gw_getA C 0 d_Hands_valueHeld_1 k_o_0 (by decide) i_Hands rfl rfl (by decide) qw_186 rfl rfl (o + 1) rfl ?_
  refine gw_iload_n C 2 d_Hands_valueHeld_4 rfl rfl ?_
  obtain ⟨q5, hq5, hf0⟩ := mx_bd hf0
  refine gw_callI C (c_Row_at _ hg k_o_1 hq5) d_Hands_valueHeld_5 1 qw_609 qw_489 qw_490 qw_4 qw_491 k_o_1 (by decide) rfl hd_Row_at rfl rfl (Nat.le_of_ble_eq_true rfl) ⟨rfl, rfl, Nat.le_of_ble_eq_true rfl, Nat.le_of_ble_eq_true rfl⟩ ⟨Nat.zero_le _, Nat.zero_le _⟩ ?_
  refine gw_istore_n C [(3, .int q5), (0, .ref (ly_a L o)), (1, .ref (ly_a L o1)), (2, .int p2)] d_Hands_valueHeld_8 rfl (by decide) rfl ?_
  refine gw_iload_n C 0 d_Hands_valueHeld_9 rfl rfl ?_
  refine gw_iconst C ((-1) : Int32) d_Hands_valueHeld_10 (by decide) ?_
  refine gw_icmp_ne C 18 d_Hands_valueHeld_11 (by decide) (fun hc => ?_) (fun hc => ?_)
  · replace hf0 := mx_f hc hf0
    refine gw_aload_n C 2 d_Hands_valueHeld_18 rfl rfl ?_
    refine gw_iload_n C 3 d_Hands_valueHeld_19 rfl rfl ?_
    refine gw_iload_n C 0 d_Hands_valueHeld_20 rfl rfl ?_
    obtain ⟨q21, hq21, hf0⟩ := mx_bd hf0
    refine gw_callI C (c_Island_valueFor _ hg k_o1_0 hq21) d_Hands_valueHeld_21 2 qw_765 qw_757 qw_758 qw_6 qw_759 k_o1_0 (by decide) rfl hd_Island_valueFor rfl rfl (Nat.le_of_ble_eq_true rfl) ⟨rfl, rfl, Nat.le_of_ble_eq_true rfl, Nat.le_of_ble_eq_true rfl⟩ ⟨Nat.zero_le _, Nat.zero_le _⟩ ?_
    exact en_ip hN hf0 d_Hands_valueHeld_24
  · replace hf0 := mx_t hc hf0
    refine gw_iconst C (0 : Int32) d_Hands_valueHeld_14 (by decide) ?_
    refine gw_goto C 24 d_Hands_valueHeld_15 (by decide) ?_
    exact en_ip hN hf0 d_Hands_valueHeld_24

/-! NameHat.envy(I)I -/
abbrev b_Hat_envy : ByteArray := prog_1_method_16_code
def y_Hat_envy : MethodName := ⟨"NameHat", "envy", "(I)I"⟩
abbrev rm_Hat_envy : Room := { frames := 4, cells := 0, slots := 0, locals := 90 }
theorem hd_Hat_envy : y_Hat_envy.cls ≠ "java/lang/invoke/MethodHandle" ∧ y_Hat_envy.cls ≠ "java/lang/invoke/VarHandle" ∧ (parseMethodDescriptor y_Hat_envy.desc).map (fun d => d.parameters.length) = some 1 := by decide +kernel
theorem d_Hat_envy_0 : decode b_Hat_envy 0 = .ok (.aload_n 0, 1) := by decide +kernel
theorem d_Hat_envy_1 : decode b_Hat_envy 1 = .ok (.getfield 57, 3) := by decide +kernel
theorem d_Hat_envy_4 : decode b_Hat_envy 4 = .ok (.getfield 121, 3) := by decide +kernel
theorem d_Hat_envy_7 : decode b_Hat_envy 7 = .ok (.getfield 166, 3) := by decide +kernel
theorem d_Hat_envy_10 : decode b_Hat_envy 10 = .ok (.iload_n 1, 1) := by decide +kernel
theorem d_Hat_envy_11 : decode b_Hat_envy 11 = .ok (.invokevirtual 131, 3) := by decide +kernel
theorem d_Hat_envy_14 : decode b_Hat_envy 14 = .ok (.ifCond .eq 20, 3) := by decide +kernel
theorem d_Hat_envy_17 : decode b_Hat_envy 17 = .ok (.aload_n 0, 1) := by decide +kernel
theorem d_Hat_envy_18 : decode b_Hat_envy 18 = .ok (.getfield 57, 3) := by decide +kernel
theorem d_Hat_envy_21 : decode b_Hat_envy 21 = .ok (.getfield 154, 3) := by decide +kernel
theorem d_Hat_envy_24 : decode b_Hat_envy 24 = .ok (.getfield 171, 3) := by decide +kernel
theorem d_Hat_envy_27 : decode b_Hat_envy 27 = .ok (.iload_n 1, 1) := by decide +kernel
theorem d_Hat_envy_28 : decode b_Hat_envy 28 = .ok (.invokevirtual 147, 3) := by decide +kernel
theorem d_Hat_envy_31 : decode b_Hat_envy 31 = .ok (.goto 4, 3) := by decide +kernel
theorem d_Hat_envy_34 : decode b_Hat_envy 34 = .ok (.iconst (-1), 1) := by decide +kernel
theorem d_Hat_envy_35 : decode b_Hat_envy 35 = .ok (.istore_n 2, 1) := by decide +kernel
theorem d_Hat_envy_36 : decode b_Hat_envy 36 = .ok (.iload_n 2, 1) := by decide +kernel
theorem d_Hat_envy_37 : decode b_Hat_envy 37 = .ok (.iconst (-1), 1) := by decide +kernel
theorem d_Hat_envy_38 : decode b_Hat_envy 38 = .ok (.if_icmp .ne 5, 3) := by decide +kernel
theorem d_Hat_envy_41 : decode b_Hat_envy 41 = .ok (.iconst (-1), 1) := by decide +kernel
theorem d_Hat_envy_42 : decode b_Hat_envy 42 = .ok (.ireturn, 1) := by decide +kernel
theorem d_Hat_envy_43 : decode b_Hat_envy 43 = .ok (.iconst 0, 1) := by decide +kernel
theorem d_Hat_envy_44 : decode b_Hat_envy 44 = .ok (.istore_n 3, 1) := by decide +kernel
theorem d_Hat_envy_45 : decode b_Hat_envy 45 = .ok (.iconst 0, 1) := by decide +kernel
theorem d_Hat_envy_46 : decode b_Hat_envy 46 = .ok (.istore 4, 2) := by decide +kernel
theorem d_Hat_envy_48 : decode b_Hat_envy 48 = .ok (.iload 4, 2) := by decide +kernel
theorem d_Hat_envy_50 : decode b_Hat_envy 50 = .ok (.aload_n 0, 1) := by decide +kernel
theorem d_Hat_envy_51 : decode b_Hat_envy 51 = .ok (.getfield 57, 3) := by decide +kernel
theorem d_Hat_envy_54 : decode b_Hat_envy 54 = .ok (.getfield 121, 3) := by decide +kernel
theorem d_Hat_envy_57 : decode b_Hat_envy 57 = .ok (.getfield 166, 3) := by decide +kernel
theorem d_Hat_envy_60 : decode b_Hat_envy 60 = .ok (.getfield 186, 3) := by decide +kernel
theorem d_Hat_envy_63 : decode b_Hat_envy 63 = .ok (.if_icmp .ge 47, 3) := by decide +kernel
theorem d_Hat_envy_66 : decode b_Hat_envy 66 = .ok (.aload_n 0, 1) := by decide +kernel
theorem d_Hat_envy_67 : decode b_Hat_envy 67 = .ok (.getfield 57, 3) := by decide +kernel
theorem d_Hat_envy_70 : decode b_Hat_envy 70 = .ok (.getfield 121, 3) := by decide +kernel
theorem d_Hat_envy_73 : decode b_Hat_envy 73 = .ok (.iload 4, 2) := by decide +kernel
theorem d_Hat_envy_75 : decode b_Hat_envy 75 = .ok (.iload_n 2, 1) := by decide +kernel
theorem d_Hat_envy_76 : decode b_Hat_envy 76 = .ok (.invokevirtual 179, 3) := by decide +kernel
theorem d_Hat_envy_79 : decode b_Hat_envy 79 = .ok (.aload_n 0, 1) := by decide +kernel
theorem d_Hat_envy_80 : decode b_Hat_envy 80 = .ok (.getfield 57, 3) := by decide +kernel
theorem d_Hat_envy_83 : decode b_Hat_envy 83 = .ok (.getfield 154, 3) := by decide +kernel
theorem d_Hat_envy_86 : decode b_Hat_envy 86 = .ok (.aload_n 0, 1) := by decide +kernel
theorem d_Hat_envy_87 : decode b_Hat_envy 87 = .ok (.getfield 57, 3) := by decide +kernel
theorem d_Hat_envy_90 : decode b_Hat_envy 90 = .ok (.getfield 121, 3) := by decide +kernel
theorem d_Hat_envy_93 : decode b_Hat_envy 93 = .ok (.iload 4, 2) := by decide +kernel
theorem d_Hat_envy_95 : decode b_Hat_envy 95 = .ok (.invokevirtual 198, 3) := by decide +kernel
theorem d_Hat_envy_98 : decode b_Hat_envy 98 = .ok (.if_icmp .le 6, 3) := by decide +kernel
theorem d_Hat_envy_101 : decode b_Hat_envy 101 = .ok (.iinc 3 1, 3) := by decide +kernel
theorem d_Hat_envy_104 : decode b_Hat_envy 104 = .ok (.iinc 4 1, 3) := by decide +kernel
theorem d_Hat_envy_107 : decode b_Hat_envy 107 = .ok (.goto (-59), 3) := by decide +kernel
theorem d_Hat_envy_110 : decode b_Hat_envy 110 = .ok (.iload_n 3, 1) := by decide +kernel
theorem d_Hat_envy_111 : decode b_Hat_envy 111 = .ok (.ireturn, 1) := by decide +kernel
noncomputable def f_Hat_envy_L48 (z : Nat → Nat) (σ : Mm) (o : Nat) (v2 : Int32) (s48 : Int32 × Int32) : Option ((Int32 × Int32) ⊕ (Int32)) :=
  if (σ.1 (o + 64) 1) ≤ s48.2 then (
    some (.inr s48.1)
  ) else (
    (f_Island_valueFor z σ (o + 61) s48.2 v2).bind fun q76 =>
    (f_Hands_valueHeld z σ (o + 74) (o + 61) s48.2).bind fun q95 =>
    if q76 ≤ q95 then (
      mm_lt (s48.2 + (1 : Int32)) fun x104 =>
      some (.inl (s48.1, x104))
    ) else (
      mm_lt (s48.1 + (1 : Int32)) fun x101 =>
      mm_lt (s48.2 + (1 : Int32)) fun x104 =>
      some (.inl (x101, x104))
    )
  )
noncomputable def f_Hat_envy_J35 (z : Nat → Nat) (σ : Mm) (o : Nat) (t35_0 : Int32) : Option (Int32) :=
  if t35_0 = ((-1) : Int32) then (
    some ((-1) : Int32)
  ) else (
    (mm_lp (f_Hat_envy_L48 z σ o t35_0) ((0 : Int32), (0 : Int32))).bind (fun q48 =>
      some q48)
  )
noncomputable def f_Hat_envy (z : Nat → Nat) (σ : Mm) (o : Nat) (p1 : Int32) : Option (Int32) :=
  (f_Names_has z σ (o + 64) p1).bind fun q11 =>
  if q11 = 0 then (
    f_Hat_envy_J35 z σ o ((-1) : Int32)
  ) else (
    (f_Row_at z σ (o + 75) p1).bind fun q28 =>
    f_Hat_envy_J35 z σ o q28
  )
set_option maxHeartbeats 4000000 in
set_option maxRecDepth 100000 in
theorem c_Hat_envy (l : Launch) {L : Ly} (hg : gd_ok L) {σ : Mm} {o : Nat} {p1 : Int32} (k_o_0 : ly_k L o = 10) {res : Int32} (hf0 : f_Hat_envy (ly_z L) σ o p1 = some res) : CtI l y_Hat_envy b_Hat_envy 5 (some .int) rm_Hat_envy L [.ref (ly_a L o), .int p1] σ res σ := by
  refine ct_i hg (by decide) (Nat.le_of_ble_eq_true rfl) ?_
  intro E A Q hE C hN
  subst hE
  have k_o_60 : ly_k L (o + 60) = 4 := gd_Hat_now hg k_o_0
  have k_o_61 : ly_k L (o + 61) = 2 := gd_State_island hg k_o_60
  have k_o_64 : ly_k L (o + 64) = 1 := gd_Island_houses hg k_o_61
  have k_o_74 : ly_k L (o + 74) = 3 := gd_State_hands hg k_o_60
  have k_o_75 : ly_k L (o + 75) = 0 := gd_Hands_held hg k_o_74
  unfold f_Hat_envy at hf0
  show GW E L A 5 0 0 Q σ 0 [(0, .ref (ly_a L o)), (1, .int p1)] []
  have hj35 : ∀ (t35_0 : Int32), f_Hat_envy_J35 (ly_z L) σ o t35_0 = some res → GW E L A 5 0 0 Q σ 35 [(0, .ref (ly_a L o))] [.int t35_0] := by
    intro t35_0 hf0
    unfold f_Hat_envy_J35 at hf0
    refine gw_istore_n C [(2, .int t35_0), (0, .ref (ly_a L o))] d_Hat_envy_35 rfl (by decide) rfl ?_
    refine gw_iload_n C 0 d_Hat_envy_36 rfl rfl ?_
    refine gw_iconst C ((-1) : Int32) d_Hat_envy_37 (by decide) ?_
    refine gw_icmp_ne C 43 d_Hat_envy_38 (by decide) (fun hc => ?_) (fun hc => ?_)
    · replace hf0 := mx_f hc hf0
      refine gw_iconst C (0 : Int32) d_Hat_envy_43 (by decide) ?_
      refine gw_istore_n C [(3, .int (0 : Int32)), (2, .int t35_0), (0, .ref (ly_a L o))] d_Hat_envy_44 rfl (by decide) rfl ?_
      refine gw_iconst C (0 : Int32) d_Hat_envy_45 (by decide) ?_
      refine gw_istore C [(4, .int (0 : Int32)), (3, .int (0 : Int32)), (2, .int t35_0), (0, .ref (ly_a L o))] d_Hat_envy_46 (by decide) rfl ?_
      obtain ⟨q48, hq48, hf0⟩ := mx_bd hf0
      have hk48 : ∀ x9, q48 = x9 → GW E L A 5 0 0 Q σ 110 [(3, .int x9)] [] := by
        intro x9 hx9
        subst hx9
        refine gw_iload_n C 0 d_Hat_envy_110 rfl rfl ?_
        exact en_ip hN hf0 d_Hat_envy_111
      refine gw_sub [3, 2, 1, 0] (lv' := [(0, .ref (ly_a L o)), (2, .int t35_0), (3, .int (0 : Int32)), (4, .int (0 : Int32))]) rfl ?_
      refine mm_rule hq48 (P := fun (s48 : Int32 × Int32) => GW E L A 5 0 0 Q σ 48 [(0, .ref (ly_a L o)), (2, .int t35_0), (3, .int s48.1), (4, .int s48.2)] []) ?_
      intro s48 ih48 hx48 ⟨w48, hb48⟩
      have hf1 := hb48
      unfold f_Hat_envy_L48 at hf1
      refine gw_iload C 3 d_Hat_envy_48 rfl ?_
      refine gw_aload_n C 0 d_Hat_envy_50 rfl rfl ?_
      refine gw_getA C 7 d_Hat_envy_51 k_o_0 (by decide) i_Hat rfl rfl (by decide) qw_410 rfl rfl (o + 60) rfl ?_
      refine gw_getAN C 0 d_Hat_envy_54 k_o_60 (by decide) i_State rfl rfl (by decide) qw_237 rfl rfl (o + 61) rfl ?_
      refine gw_getAN C 1 d_Hat_envy_57 k_o_61 (by decide) i_Island rfl rfl (by decide) qw_136 rfl rfl (o + 64) rfl ?_
      refine gw_getIN C 1 d_Hat_envy_60 k_o_64 (by decide) i_Names rfl rfl (by decide) qw_115 rfl rfl ?_
      refine gw_icmp_ge C 110 d_Hat_envy_63 (by decide) (fun hc => ?_) (fun hc => ?_)
      · replace hf1 := mx_t hc hf1
        exact gw_go [2] (hk48 s48.1 (hx48 _ (hb48.trans hf1.symm)).symm) rfl
      · replace hf1 := mx_f hc hf1
        refine gw_aload_n C 0 d_Hat_envy_66 rfl rfl ?_
        refine gw_getA C 7 d_Hat_envy_67 k_o_0 (by decide) i_Hat rfl rfl (by decide) qw_410 rfl rfl (o + 60) rfl ?_
        refine gw_getAN C 0 d_Hat_envy_70 k_o_60 (by decide) i_State rfl rfl (by decide) qw_237 rfl rfl (o + 61) rfl ?_
        refine gw_iload C 3 d_Hat_envy_73 rfl ?_
        refine gw_iload_n C 1 d_Hat_envy_75 rfl rfl ?_
        obtain ⟨q76, hq76, hf1⟩ := mx_bd hf1
        refine gw_callI C (c_Island_valueFor _ hg k_o_61 hq76) d_Hat_envy_76 2 qw_756 qw_757 qw_758 qw_6 qw_759 k_o_61 (by decide) rfl hd_Island_valueFor rfl rfl (Nat.le_of_ble_eq_true rfl) ⟨rfl, rfl, Nat.le_of_ble_eq_true rfl, Nat.le_of_ble_eq_true rfl⟩ ⟨Nat.zero_le _, Nat.zero_le _⟩ ?_
        refine gw_aload_n C 0 d_Hat_envy_79 rfl rfl ?_
        refine gw_getA C 7 d_Hat_envy_80 k_o_0 (by decide) i_Hat rfl rfl (by decide) qw_410 rfl rfl (o + 60) rfl ?_
        refine gw_getAN C 1 d_Hat_envy_83 k_o_60 (by decide) i_State rfl rfl (by decide) qw_239 rfl rfl (o + 74) rfl ?_
        refine gw_aload_n C 0 d_Hat_envy_86 rfl rfl ?_
        refine gw_getA C 7 d_Hat_envy_87 k_o_0 (by decide) i_Hat rfl rfl (by decide) qw_410 rfl rfl (o + 60) rfl ?_
        refine gw_getAN C 0 d_Hat_envy_90 k_o_60 (by decide) i_State rfl rfl (by decide) qw_237 rfl rfl (o + 61) rfl ?_
        refine gw_iload C 3 d_Hat_envy_93 rfl ?_
        obtain ⟨q95, hq95, hf1⟩ := mx_bd hf1
        refine gw_callI C (c_Hands_valueHeld _ hg k_o_74 k_o_61 hq95) d_Hat_envy_95 2 qw_761 qw_762 qw_763 qw_8 qw_764 k_o_74 (by decide) rfl hd_Hands_valueHeld rfl rfl (Nat.le_of_ble_eq_true rfl) ⟨rfl, rfl, Nat.le_of_ble_eq_true rfl, Nat.le_of_ble_eq_true rfl⟩ ⟨Nat.zero_le _, Nat.zero_le _⟩ ?_
        refine gw_icmp_le C 104 d_Hat_envy_98 (by decide) (fun hc => ?_) (fun hc => ?_)
        · replace hf1 := mx_t hc hf1
          obtain ⟨x104, ex104, hf1⟩ := mx_lt hf1
          refine gw_iinc C 3 [(4, .int x104), (0, .ref (ly_a L o)), (2, .int t35_0), (3, .int s48.1)] d_Hat_envy_104 rfl (by rw [ex104]; rfl) (by decide) rfl ?_
          refine gw_goto C 48 d_Hat_envy_107 (by decide) ?_
          exact gw_go [1, 2, 3, 0] (ih48 (s48.1, x104) (hb48.trans hf1.symm)) rfl
        · replace hf1 := mx_f hc hf1
          obtain ⟨x101, ex101, hf1⟩ := mx_lt hf1
          refine gw_iinc C 2 [(3, .int x101), (0, .ref (ly_a L o)), (2, .int t35_0), (4, .int s48.2)] d_Hat_envy_101 rfl (by rw [ex101]; rfl) (by decide) rfl ?_
          obtain ⟨x104, ex104, hf1⟩ := mx_lt hf1
          refine gw_iinc C 3 [(4, .int x104), (3, .int x101), (0, .ref (ly_a L o)), (2, .int t35_0)] d_Hat_envy_104 rfl (by rw [ex104]; rfl) (by decide) rfl ?_
          refine gw_goto C 48 d_Hat_envy_107 (by decide) ?_
          exact gw_go [2, 3, 1, 0] (ih48 (x101, x104) (hb48.trans hf1.symm)) rfl
    · replace hf0 := mx_t hc hf0
      refine gw_iconst C ((-1) : Int32) d_Hat_envy_41 (by decide) ?_
      exact en_ip hN hf0 d_Hat_envy_42
  refine gw_aload_n C 0 d_Hat_envy_0 rfl rfl ?_
  refine gw_getA C 7 d_Hat_envy_1 k_o_0 (by decide) i_Hat rfl rfl (by decide) qw_410 rfl rfl (o + 60) rfl ?_
  refine gw_getAN C 0 d_Hat_envy_4 k_o_60 (by decide) i_State rfl rfl (by decide) qw_237 rfl rfl (o + 61) rfl ?_
  refine gw_getAN C 1 d_Hat_envy_7 k_o_61 (by decide) i_Island rfl rfl (by decide) qw_136 rfl rfl (o + 64) rfl ?_
  refine gw_iload_n C 1 d_Hat_envy_10 rfl rfl ?_
  obtain ⟨q11, hq11, hf0⟩ := mx_bd hf0
  refine gw_callI C (c_Names_has _ hg k_o_64 hq11) d_Hat_envy_11 1 qw_754 qw_738 qw_739 qw_7 qw_740 k_o_64 (by decide) rfl hd_Names_has rfl rfl (Nat.le_of_ble_eq_true rfl) ⟨rfl, rfl, Nat.le_of_ble_eq_true rfl, Nat.le_of_ble_eq_true rfl⟩ ⟨Nat.zero_le _, Nat.zero_le _⟩ ?_
  refine gw_if_eq C 34 d_Hat_envy_14 (by decide) (fun hc => ?_) (fun hc => ?_)
  · replace hf0 := mx_t hc hf0
    refine gw_iconst C ((-1) : Int32) d_Hat_envy_34 (by decide) ?_
    exact gw_go [0] (hj35 _ hf0) rfl
  · replace hf0 := mx_f hc hf0
    refine gw_aload_n C 0 d_Hat_envy_17 rfl rfl ?_
    refine gw_getA C 7 d_Hat_envy_18 k_o_0 (by decide) i_Hat rfl rfl (by decide) qw_410 rfl rfl (o + 60) rfl ?_
    refine gw_getAN C 1 d_Hat_envy_21 k_o_60 (by decide) i_State rfl rfl (by decide) qw_239 rfl rfl (o + 74) rfl ?_
    refine gw_getAN C 0 d_Hat_envy_24 k_o_74 (by decide) i_Hands rfl rfl (by decide) qw_189 rfl rfl (o + 75) rfl ?_
    refine gw_iload_n C 1 d_Hat_envy_27 rfl rfl ?_
    obtain ⟨q28, hq28, hf0⟩ := mx_bd hf0
    refine gw_callI C (c_Row_at _ hg k_o_75 hq28) d_Hat_envy_28 1 qw_755 qw_489 qw_490 qw_4 qw_491 k_o_75 (by decide) rfl hd_Row_at rfl rfl (Nat.le_of_ble_eq_true rfl) ⟨rfl, rfl, Nat.le_of_ble_eq_true rfl, Nat.le_of_ble_eq_true rfl⟩ ⟨Nat.zero_le _, Nat.zero_le _⟩ ?_
    refine gw_goto C 35 d_Hat_envy_31 (by decide) ?_
    exact gw_go [0] (hj35 _ hf0) rfl

/-! NameHat.Hands.allValues(LNameHat.Island;)I -/
abbrev b_Hands_allValues : ByteArray := prog_3_method_7_code
def y_Hands_allValues : MethodName := ⟨"NameHat$Hands", "allValues", "(LNameHat$Island;)I"⟩
abbrev rm_Hands_allValues : Room := { frames := 4, cells := 0, slots := 0, locals := 90 }
theorem hd_Hands_allValues : y_Hands_allValues.cls ≠ "java/lang/invoke/MethodHandle" ∧ y_Hands_allValues.cls ≠ "java/lang/invoke/VarHandle" ∧ (parseMethodDescriptor y_Hands_allValues.desc).map (fun d => d.parameters.length) = some 1 := by decide +kernel
theorem d_Hands_allValues_0 : decode b_Hands_allValues 0 = .ok (.iconst 0, 1) := by decide +kernel
theorem d_Hands_allValues_1 : decode b_Hands_allValues 1 = .ok (.istore_n 2, 1) := by decide +kernel
theorem d_Hands_allValues_2 : decode b_Hands_allValues 2 = .ok (.iconst 0, 1) := by decide +kernel
theorem d_Hands_allValues_3 : decode b_Hands_allValues 3 = .ok (.istore_n 3, 1) := by decide +kernel
theorem d_Hands_allValues_4 : decode b_Hands_allValues 4 = .ok (.iload_n 3, 1) := by decide +kernel
theorem d_Hands_allValues_5 : decode b_Hands_allValues 5 = .ok (.aload_n 1, 1) := by decide +kernel
theorem d_Hands_allValues_6 : decode b_Hands_allValues 6 = .ok (.getfield 46, 3) := by decide +kernel
theorem d_Hands_allValues_9 : decode b_Hands_allValues 9 = .ok (.getfield 50, 3) := by decide +kernel
theorem d_Hands_allValues_12 : decode b_Hands_allValues 12 = .ok (.if_icmp .ge 18, 3) := by decide +kernel
theorem d_Hands_allValues_15 : decode b_Hands_allValues 15 = .ok (.iload_n 2, 1) := by decide +kernel
theorem d_Hands_allValues_16 : decode b_Hands_allValues 16 = .ok (.aload_n 0, 1) := by decide +kernel
theorem d_Hands_allValues_17 : decode b_Hands_allValues 17 = .ok (.aload_n 1, 1) := by decide +kernel
theorem d_Hands_allValues_18 : decode b_Hands_allValues 18 = .ok (.iload_n 3, 1) := by decide +kernel
theorem d_Hands_allValues_19 : decode b_Hands_allValues 19 = .ok (.invokevirtual 56, 3) := by decide +kernel
theorem d_Hands_allValues_22 : decode b_Hands_allValues 22 = .ok (.iadd, 1) := by decide +kernel
theorem d_Hands_allValues_23 : decode b_Hands_allValues 23 = .ok (.istore_n 2, 1) := by decide +kernel
theorem d_Hands_allValues_24 : decode b_Hands_allValues 24 = .ok (.iinc 3 1, 3) := by decide +kernel
theorem d_Hands_allValues_27 : decode b_Hands_allValues 27 = .ok (.goto (-23), 3) := by decide +kernel
theorem d_Hands_allValues_30 : decode b_Hands_allValues 30 = .ok (.iload_n 2, 1) := by decide +kernel
theorem d_Hands_allValues_31 : decode b_Hands_allValues 31 = .ok (.ireturn, 1) := by decide +kernel
noncomputable def f_Hands_allValues_L4 (z : Nat → Nat) (σ : Mm) (o : Nat) (o1 : Nat) (s4 : Int32 × Int32) : Option ((Int32 × Int32) ⊕ (Int32)) :=
  if (σ.1 (o1 + 3) 1) ≤ s4.2 then (
    some (.inr s4.1)
  ) else (
    (f_Hands_valueHeld z σ o o1 s4.2).bind fun q19 =>
    mm_lt ((s4.1 + q19)) fun x23 =>
    mm_lt (s4.2 + (1 : Int32)) fun x24 =>
    some (.inl (x23, x24))
  )
noncomputable def f_Hands_allValues (z : Nat → Nat) (σ : Mm) (o : Nat) (o1 : Nat) : Option (Int32) :=
  (mm_lp (f_Hands_allValues_L4 z σ o o1) ((0 : Int32), (0 : Int32))).bind (fun q4 =>
    some q4)
set_option maxHeartbeats 4000000 in
set_option maxRecDepth 100000 in
theorem c_Hands_allValues (l : Launch) {L : Ly} (hg : gd_ok L) {σ : Mm} {o : Nat} {o1 : Nat} (k_o_0 : ly_k L o = 3) (k_o1_0 : ly_k L o1 = 2) {res : Int32} (hf0 : f_Hands_allValues (ly_z L) σ o o1 = some res) : CtI l y_Hands_allValues b_Hands_allValues 4 (some .int) rm_Hands_allValues L [.ref (ly_a L o), .ref (ly_a L o1)] σ res σ := by
  refine ct_i hg (by decide) (Nat.le_of_ble_eq_true rfl) ?_
  intro E A Q hE C hN
  subst hE
  have k_o1_3 : ly_k L (o1 + 3) = 1 := gd_Island_houses hg k_o1_0
  unfold f_Hands_allValues at hf0
  show GW E L A 4 0 0 Q σ 0 [(0, .ref (ly_a L o)), (1, .ref (ly_a L o1))] []
  refine gw_iconst C (0 : Int32) d_Hands_allValues_0 (by decide) ?_
  refine gw_istore_n C [(2, .int (0 : Int32)), (0, .ref (ly_a L o)), (1, .ref (ly_a L o1))] d_Hands_allValues_1 rfl (by decide) rfl ?_
  refine gw_iconst C (0 : Int32) d_Hands_allValues_2 (by decide) ?_
  refine gw_istore_n C [(3, .int (0 : Int32)), (2, .int (0 : Int32)), (0, .ref (ly_a L o)), (1, .ref (ly_a L o1))] d_Hands_allValues_3 rfl (by decide) rfl ?_
  obtain ⟨q4, hq4, hf0⟩ := mx_bd hf0
  have hk4 : ∀ x9, q4 = x9 → GW E L A 4 0 0 Q σ 30 [(2, .int x9)] [] := by
    intro x9 hx9
    subst hx9
    refine gw_iload_n C 0 d_Hands_allValues_30 rfl rfl ?_
    exact en_ip hN hf0 d_Hands_allValues_31
  refine gw_sub [2, 3, 1, 0] (lv' := [(0, .ref (ly_a L o)), (1, .ref (ly_a L o1)), (2, .int (0 : Int32)), (3, .int (0 : Int32))]) rfl ?_
  refine mm_rule hq4 (P := fun (s4 : Int32 × Int32) => GW E L A 4 0 0 Q σ 4 [(0, .ref (ly_a L o)), (1, .ref (ly_a L o1)), (2, .int s4.1), (3, .int s4.2)] []) ?_
  intro s4 ih4 hx4 ⟨w4, hb4⟩
  have hf1 := hb4
  unfold f_Hands_allValues_L4 at hf1
  refine gw_iload_n C 3 d_Hands_allValues_4 rfl rfl ?_
  refine gw_aload_n C 1 d_Hands_allValues_5 rfl rfl ?_
  refine gw_getAN C 1 d_Hands_allValues_6 k_o1_0 (by decide) i_Island rfl rfl (by decide) qw_134 rfl rfl (o1 + 3) rfl ?_
  refine gw_getIN C 1 d_Hands_allValues_9 k_o1_3 (by decide) i_Names rfl rfl (by decide) qw_113 rfl rfl ?_
  refine gw_icmp_ge C 30 d_Hands_allValues_12 (by decide) (fun hc => ?_) (fun hc => ?_)
  · replace hf1 := mx_t hc hf1
    exact gw_go [2] (hk4 s4.1 (hx4 _ (hb4.trans hf1.symm)).symm) rfl
  · replace hf1 := mx_f hc hf1
    refine gw_iload_n C 2 d_Hands_allValues_15 rfl rfl ?_
    refine gw_aload_n C 0 d_Hands_allValues_16 rfl rfl ?_
    refine gw_aload_n C 1 d_Hands_allValues_17 rfl rfl ?_
    refine gw_iload_n C 3 d_Hands_allValues_18 rfl rfl ?_
    obtain ⟨q19, hq19, hf1⟩ := mx_bd hf1
    refine gw_callI C (c_Hands_valueHeld _ hg k_o_0 k_o1_0 hq19) d_Hands_allValues_19 2 qw_774 qw_762 qw_763 qw_8 qw_764 k_o_0 (by decide) rfl hd_Hands_valueHeld rfl rfl (Nat.le_of_ble_eq_true rfl) ⟨rfl, rfl, Nat.le_of_ble_eq_true rfl, Nat.le_of_ble_eq_true rfl⟩ ⟨Nat.zero_le _, Nat.zero_le _⟩ ?_
    refine gw_iadd C d_Hands_allValues_22 ?_
    obtain ⟨x23, ex23, hf1⟩ := mx_lt hf1
    refine gw_topi ex23 ?_
    refine gw_istore_n C [(2, .int x23), (0, .ref (ly_a L o)), (1, .ref (ly_a L o1)), (3, .int s4.2)] d_Hands_allValues_23 rfl (by decide) rfl ?_
    obtain ⟨x24, ex24, hf1⟩ := mx_lt hf1
    refine gw_iinc C 3 [(3, .int x24), (2, .int x23), (0, .ref (ly_a L o)), (1, .ref (ly_a L o1))] d_Hands_allValues_24 rfl (by rw [ex24]; rfl) (by decide) rfl ?_
    refine gw_goto C 4 d_Hands_allValues_27 (by decide) ?_
    exact gw_go [2, 3, 1, 0] (ih4 (x23, x24) (hb4.trans hf1.symm)) rfl

/-! NameHat.worth()I -/
abbrev b_Hat_worth : ByteArray := prog_1_method_17_code
def y_Hat_worth : MethodName := ⟨"NameHat", "worth", "()I"⟩
abbrev rm_Hat_worth : Room := { frames := 5, cells := 0, slots := 0, locals := 113 }
theorem hd_Hat_worth : y_Hat_worth.cls ≠ "java/lang/invoke/MethodHandle" ∧ y_Hat_worth.cls ≠ "java/lang/invoke/VarHandle" ∧ (parseMethodDescriptor y_Hat_worth.desc).map (fun d => d.parameters.length) = some 0 := by decide +kernel
theorem d_Hat_worth_0 : decode b_Hat_worth 0 = .ok (.aload_n 0, 1) := by decide +kernel
theorem d_Hat_worth_1 : decode b_Hat_worth 1 = .ok (.getfield 57, 3) := by decide +kernel
theorem d_Hat_worth_4 : decode b_Hat_worth 4 = .ok (.getfield 154, 3) := by decide +kernel
theorem d_Hat_worth_7 : decode b_Hat_worth 7 = .ok (.aload_n 0, 1) := by decide +kernel
theorem d_Hat_worth_8 : decode b_Hat_worth 8 = .ok (.getfield 57, 3) := by decide +kernel
theorem d_Hat_worth_11 : decode b_Hat_worth 11 = .ok (.getfield 121, 3) := by decide +kernel
theorem d_Hat_worth_14 : decode b_Hat_worth 14 = .ok (.invokevirtual 202, 3) := by decide +kernel
theorem d_Hat_worth_17 : decode b_Hat_worth 17 = .ok (.ireturn, 1) := by decide +kernel
noncomputable def f_Hat_worth (z : Nat → Nat) (σ : Mm) (o : Nat) : Option (Int32) :=
  (f_Hands_allValues z σ (o + 74) (o + 61)).bind fun q14 =>
  some q14
set_option maxHeartbeats 4000000 in
set_option maxRecDepth 100000 in
theorem c_Hat_worth (l : Launch) {L : Ly} (hg : gd_ok L) {σ : Mm} {o : Nat} (k_o_0 : ly_k L o = 10) {res : Int32} (hf0 : f_Hat_worth (ly_z L) σ o = some res) : CtI l y_Hat_worth b_Hat_worth 1 (some .int) rm_Hat_worth L [.ref (ly_a L o)] σ res σ := by
  refine ct_i hg (by decide) (Nat.le_of_ble_eq_true rfl) ?_
  intro E A Q hE C hN
  subst hE
  have k_o_60 : ly_k L (o + 60) = 4 := gd_Hat_now hg k_o_0
  have k_o_74 : ly_k L (o + 74) = 3 := gd_State_hands hg k_o_60
  have k_o_61 : ly_k L (o + 61) = 2 := gd_State_island hg k_o_60
  unfold f_Hat_worth at hf0
  show GW E L A 1 0 0 Q σ 0 [(0, .ref (ly_a L o))] []
  refine gw_aload_n C 0 d_Hat_worth_0 rfl rfl ?_
  refine gw_getA C 7 d_Hat_worth_1 k_o_0 (by decide) i_Hat rfl rfl (by decide) qw_410 rfl rfl (o + 60) rfl ?_
  refine gw_getAN C 1 d_Hat_worth_4 k_o_60 (by decide) i_State rfl rfl (by decide) qw_239 rfl rfl (o + 74) rfl ?_
  refine gw_aload_n C 0 d_Hat_worth_7 rfl rfl ?_
  refine gw_getA C 7 d_Hat_worth_8 k_o_0 (by decide) i_Hat rfl rfl (by decide) qw_410 rfl rfl (o + 60) rfl ?_
  refine gw_getAN C 0 d_Hat_worth_11 k_o_60 (by decide) i_State rfl rfl (by decide) qw_237 rfl rfl (o + 61) rfl ?_
  obtain ⟨q14, hq14, hf0⟩ := mx_bd hf0
  refine gw_callI C (c_Hands_allValues _ hg k_o_74 k_o_61 hq14) d_Hat_worth_14 1 qw_770 qw_771 qw_772 qw_8 qw_773 k_o_74 (by decide) rfl hd_Hands_allValues rfl rfl (Nat.le_of_ble_eq_true rfl) ⟨rfl, rfl, Nat.le_of_ble_eq_true rfl, Nat.le_of_ble_eq_true rfl⟩ ⟨Nat.zero_le _, Nat.zero_le _⟩ ?_
  exact en_ip hN hf0 d_Hat_worth_17

/-! NameHat.Island.isPawned(I)Z -/
abbrev b_Island_isPawned : ByteArray := prog_4_method_8_code
def y_Island_isPawned : MethodName := ⟨"NameHat$Island", "isPawned", "(I)Z"⟩
abbrev rm_Island_isPawned : Room := { frames := 1, cells := 0, slots := 0, locals := 21 }
theorem hd_Island_isPawned : y_Island_isPawned.cls ≠ "java/lang/invoke/MethodHandle" ∧ y_Island_isPawned.cls ≠ "java/lang/invoke/VarHandle" ∧ (parseMethodDescriptor y_Island_isPawned.desc).map (fun d => d.parameters.length) = some 1 := by decide +kernel
theorem d_Island_isPawned_0 : decode b_Island_isPawned 0 = .ok (.aload_n 0, 1) := by decide +kernel
theorem d_Island_isPawned_1 : decode b_Island_isPawned 1 = .ok (.getfield 30, 3) := by decide +kernel
theorem d_Island_isPawned_4 : decode b_Island_isPawned 4 = .ok (.iload_n 1, 1) := by decide +kernel
theorem d_Island_isPawned_5 : decode b_Island_isPawned 5 = .ok (.invokevirtual 62, 3) := by decide +kernel
theorem d_Island_isPawned_8 : decode b_Island_isPawned 8 = .ok (.iconst 2, 1) := by decide +kernel
theorem d_Island_isPawned_9 : decode b_Island_isPawned 9 = .ok (.if_icmp .ne 7, 3) := by decide +kernel
theorem d_Island_isPawned_12 : decode b_Island_isPawned 12 = .ok (.iconst 1, 1) := by decide +kernel
theorem d_Island_isPawned_13 : decode b_Island_isPawned 13 = .ok (.goto 4, 3) := by decide +kernel
theorem d_Island_isPawned_16 : decode b_Island_isPawned 16 = .ok (.iconst 0, 1) := by decide +kernel
theorem d_Island_isPawned_17 : decode b_Island_isPawned 17 = .ok (.ireturn, 1) := by decide +kernel
noncomputable def f_Island_isPawned (z : Nat → Nat) (σ : Mm) (o : Nat) (p1 : Int32) : Option (Int32) :=
  (f_Row_at z σ (o + 7) p1).bind fun q5 =>
  if q5 = (2 : Int32) then (
    some (1 : Int32)
  ) else (
    some (0 : Int32)
  )
set_option maxHeartbeats 4000000 in
set_option maxRecDepth 100000 in
theorem c_Island_isPawned (l : Launch) {L : Ly} (hg : gd_ok L) {σ : Mm} {o : Nat} {p1 : Int32} (k_o_0 : ly_k L o = 2) {res : Int32} (hf0 : f_Island_isPawned (ly_z L) σ o p1 = some res) : CtI l y_Island_isPawned b_Island_isPawned 2 (some .boolean) rm_Island_isPawned L [.ref (ly_a L o), .int p1] σ res σ := by
  refine ct_z hg (by decide) (Nat.le_of_ble_eq_true rfl) ?_
  intro E A Q hE C hN
  subst hE
  have k_o_7 : ly_k L (o + 7) = 0 := gd_Island_kinds hg k_o_0
  unfold f_Island_isPawned at hf0
  show GW E L A 2 0 0 Q σ 0 [(0, .ref (ly_a L o)), (1, .int p1)] []
  refine gw_aload_n C 0 d_Island_isPawned_0 rfl rfl ?_
  refine gw_getA C 3 d_Island_isPawned_1 k_o_0 (by decide) i_Island rfl rfl (by decide) qw_141 rfl rfl (o + 7) rfl ?_
  refine gw_iload_n C 1 d_Island_isPawned_4 rfl rfl ?_
  obtain ⟨q5, hq5, hf0⟩ := mx_bd hf0
  refine gw_callI C (c_Row_at _ hg k_o_7 hq5) d_Island_isPawned_5 1 qw_618 qw_489 qw_490 qw_4 qw_491 k_o_7 (by decide) rfl hd_Row_at rfl rfl (Nat.le_of_ble_eq_true rfl) ⟨rfl, rfl, Nat.le_of_ble_eq_true rfl, Nat.le_of_ble_eq_true rfl⟩ ⟨Nat.zero_le _, Nat.zero_le _⟩ ?_
  refine gw_iconst C (2 : Int32) d_Island_isPawned_8 (by decide) ?_
  refine gw_icmp_ne C 16 d_Island_isPawned_9 (by decide) (fun hc => ?_) (fun hc => ?_)
  · replace hf0 := mx_f hc hf0
    refine gw_iconst C (0 : Int32) d_Island_isPawned_16 (by decide) ?_
    exact en_zp hN (Or.inl rfl) hf0 d_Island_isPawned_17
  · replace hf0 := mx_t hc hf0
    refine gw_iconst C (1 : Int32) d_Island_isPawned_12 (by decide) ?_
    refine gw_goto C 17 d_Island_isPawned_13 (by decide) ?_
    exact en_zp hN (Or.inr rfl) hf0 d_Island_isPawned_17

/-! NameHat.Hands.canTrade(LNameHat.Island;I)Z -/
abbrev b_Hands_canTrade : ByteArray := prog_3_method_10_code
def y_Hands_canTrade : MethodName := ⟨"NameHat$Hands", "canTrade", "(LNameHat$Island;I)Z"⟩
abbrev rm_Hands_canTrade : Room := { frames := 2, cells := 0, slots := 0, locals := 42 }
theorem hd_Hands_canTrade : y_Hands_canTrade.cls ≠ "java/lang/invoke/MethodHandle" ∧ y_Hands_canTrade.cls ≠ "java/lang/invoke/VarHandle" ∧ (parseMethodDescriptor y_Hands_canTrade.desc).map (fun d => d.parameters.length) = some 2 := by decide +kernel
theorem d_Hands_canTrade_0 : decode b_Hands_canTrade 0 = .ok (.aload_n 0, 1) := by decide +kernel
theorem d_Hands_canTrade_1 : decode b_Hands_canTrade 1 = .ok (.getfield 14, 3) := by decide +kernel
theorem d_Hands_canTrade_4 : decode b_Hands_canTrade 4 = .ok (.iload_n 2, 1) := by decide +kernel
theorem d_Hands_canTrade_5 : decode b_Hands_canTrade 5 = .ok (.invokevirtual 36, 3) := by decide +kernel
theorem d_Hands_canTrade_8 : decode b_Hands_canTrade 8 = .ok (.iconst (-1), 1) := by decide +kernel
theorem d_Hands_canTrade_9 : decode b_Hands_canTrade 9 = .ok (.if_icmp .eq 22, 3) := by decide +kernel
theorem d_Hands_canTrade_12 : decode b_Hands_canTrade 12 = .ok (.aload_n 1, 1) := by decide +kernel
theorem d_Hands_canTrade_13 : decode b_Hands_canTrade 13 = .ok (.aload_n 0, 1) := by decide +kernel
theorem d_Hands_canTrade_14 : decode b_Hands_canTrade 14 = .ok (.getfield 14, 3) := by decide +kernel
theorem d_Hands_canTrade_17 : decode b_Hands_canTrade 17 = .ok (.iload_n 2, 1) := by decide +kernel
theorem d_Hands_canTrade_18 : decode b_Hands_canTrade 18 = .ok (.invokevirtual 36, 3) := by decide +kernel
theorem d_Hands_canTrade_21 : decode b_Hands_canTrade 21 = .ok (.invokevirtual 64, 3) := by decide +kernel
theorem d_Hands_canTrade_24 : decode b_Hands_canTrade 24 = .ok (.ifCond .ne 7, 3) := by decide +kernel
theorem d_Hands_canTrade_27 : decode b_Hands_canTrade 27 = .ok (.iconst 1, 1) := by decide +kernel
theorem d_Hands_canTrade_28 : decode b_Hands_canTrade 28 = .ok (.goto 4, 3) := by decide +kernel
theorem d_Hands_canTrade_31 : decode b_Hands_canTrade 31 = .ok (.iconst 0, 1) := by decide +kernel
theorem d_Hands_canTrade_32 : decode b_Hands_canTrade 32 = .ok (.ireturn, 1) := by decide +kernel
noncomputable def f_Hands_canTrade (z : Nat → Nat) (σ : Mm) (o : Nat) (o1 : Nat) (p2 : Int32) : Option (Int32) :=
  (f_Row_at z σ (o + 1) p2).bind fun q5 =>
  if q5 = ((-1) : Int32) then (
    some (0 : Int32)
  ) else (
    (f_Row_at z σ (o + 1) p2).bind fun q18 =>
    (f_Island_isPawned z σ o1 q18).bind fun q21 =>
    if q21 = 0 then (
      some (1 : Int32)
    ) else (
      some (0 : Int32)
    )
  )
set_option maxHeartbeats 4000000 in
set_option maxRecDepth 100000 in
theorem c_Hands_canTrade (l : Launch) {L : Ly} (hg : gd_ok L) {σ : Mm} {o : Nat} {o1 : Nat} {p2 : Int32} (k_o_0 : ly_k L o = 3) (k_o1_0 : ly_k L o1 = 2) {res : Int32} (hf0 : f_Hands_canTrade (ly_z L) σ o o1 p2 = some res) : CtI l y_Hands_canTrade b_Hands_canTrade 3 (some .boolean) rm_Hands_canTrade L [.ref (ly_a L o), .ref (ly_a L o1), .int p2] σ res σ := by
  refine ct_z hg (by decide) (Nat.le_of_ble_eq_true rfl) ?_
  intro E A Q hE C hN
  subst hE
  have k_o_1 : ly_k L (o + 1) = 0 := gd_Hands_held hg k_o_0
  unfold f_Hands_canTrade at hf0
  show GW E L A 3 0 0 Q σ 0 [(0, .ref (ly_a L o)), (1, .ref (ly_a L o1)), (2, .int p2)] []
  refine gw_aload_n C 0 d_Hands_canTrade_0 rfl rfl ?_
  refine gw_getA C 0 d_Hands_canTrade_1 k_o_0 (by decide) i_Hands rfl rfl (by decide) qw_186 rfl rfl (o + 1) rfl ?_
  refine gw_iload_n C 2 d_Hands_canTrade_4 rfl rfl ?_
  obtain ⟨q5, hq5, hf0⟩ := mx_bd hf0
  refine gw_callI C (c_Row_at _ hg k_o_1 hq5) d_Hands_canTrade_5 1 qw_609 qw_489 qw_490 qw_4 qw_491 k_o_1 (by decide) rfl hd_Row_at rfl rfl (Nat.le_of_ble_eq_true rfl) ⟨rfl, rfl, Nat.le_of_ble_eq_true rfl, Nat.le_of_ble_eq_true rfl⟩ ⟨Nat.zero_le _, Nat.zero_le _⟩ ?_
  refine gw_iconst C ((-1) : Int32) d_Hands_canTrade_8 (by decide) ?_
  refine gw_icmp_eq C 31 d_Hands_canTrade_9 (by decide) (fun hc => ?_) (fun hc => ?_)
  · replace hf0 := mx_t hc hf0
    refine gw_iconst C (0 : Int32) d_Hands_canTrade_31 (by decide) ?_
    exact en_zp hN (Or.inl rfl) hf0 d_Hands_canTrade_32
  · replace hf0 := mx_f hc hf0
    refine gw_aload_n C 1 d_Hands_canTrade_12 rfl rfl ?_
    refine gw_aload_n C 0 d_Hands_canTrade_13 rfl rfl ?_
    refine gw_getA C 0 d_Hands_canTrade_14 k_o_0 (by decide) i_Hands rfl rfl (by decide) qw_186 rfl rfl (o + 1) rfl ?_
    refine gw_iload_n C 2 d_Hands_canTrade_17 rfl rfl ?_
    obtain ⟨q18, hq18, hf0⟩ := mx_bd hf0
    refine gw_callI C (c_Row_at _ hg k_o_1 hq18) d_Hands_canTrade_18 1 qw_609 qw_489 qw_490 qw_4 qw_491 k_o_1 (by decide) rfl hd_Row_at rfl rfl (Nat.le_of_ble_eq_true rfl) ⟨rfl, rfl, Nat.le_of_ble_eq_true rfl, Nat.le_of_ble_eq_true rfl⟩ ⟨Nat.zero_le _, Nat.zero_le _⟩ ?_
    obtain ⟨q21, hq21, hf0⟩ := mx_bd hf0
    refine gw_callI C (c_Island_isPawned _ hg k_o1_0 hq21) d_Hands_canTrade_21 1 qw_783 qw_784 qw_785 qw_6 qw_786 k_o1_0 (by decide) rfl hd_Island_isPawned rfl rfl (Nat.le_of_ble_eq_true rfl) ⟨rfl, rfl, Nat.le_of_ble_eq_true rfl, Nat.le_of_ble_eq_true rfl⟩ ⟨Nat.zero_le _, Nat.zero_le _⟩ ?_
    refine gw_if_ne C 31 d_Hands_canTrade_24 (by decide) (fun hc => ?_) (fun hc => ?_)
    · replace hf0 := mx_f hc hf0
      refine gw_iconst C (0 : Int32) d_Hands_canTrade_31 (by decide) ?_
      exact en_zp hN (Or.inl rfl) hf0 d_Hands_canTrade_32
    · replace hf0 := mx_t hc hf0
      refine gw_iconst C (1 : Int32) d_Hands_canTrade_27 (by decide) ?_
      refine gw_goto C 32 d_Hands_canTrade_28 (by decide) ?_
      exact en_zp hN (Or.inr rfl) hf0 d_Hands_canTrade_32

/-! NameHat.Hands.exchange(II)V -/
abbrev b_Hands_exchange : ByteArray := prog_3_method_11_code
def y_Hands_exchange : MethodName := ⟨"NameHat$Hands", "exchange", "(II)V"⟩
abbrev rm_Hands_exchange : Room := { frames := 1, cells := 0, slots := 0, locals := 22 }
theorem hd_Hands_exchange : y_Hands_exchange.cls ≠ "java/lang/invoke/MethodHandle" ∧ y_Hands_exchange.cls ≠ "java/lang/invoke/VarHandle" ∧ (parseMethodDescriptor y_Hands_exchange.desc).map (fun d => d.parameters.length) = some 2 := by decide +kernel
theorem d_Hands_exchange_0 : decode b_Hands_exchange 0 = .ok (.aload_n 0, 1) := by decide +kernel
theorem d_Hands_exchange_1 : decode b_Hands_exchange 1 = .ok (.getfield 14, 3) := by decide +kernel
theorem d_Hands_exchange_4 : decode b_Hands_exchange 4 = .ok (.iload_n 1, 1) := by decide +kernel
theorem d_Hands_exchange_5 : decode b_Hands_exchange 5 = .ok (.invokevirtual 36, 3) := by decide +kernel
theorem d_Hands_exchange_8 : decode b_Hands_exchange 8 = .ok (.istore_n 3, 1) := by decide +kernel
theorem d_Hands_exchange_9 : decode b_Hands_exchange 9 = .ok (.aload_n 0, 1) := by decide +kernel
theorem d_Hands_exchange_10 : decode b_Hands_exchange 10 = .ok (.getfield 14, 3) := by decide +kernel
theorem d_Hands_exchange_13 : decode b_Hands_exchange 13 = .ok (.iload_n 1, 1) := by decide +kernel
theorem d_Hands_exchange_14 : decode b_Hands_exchange 14 = .ok (.aload_n 0, 1) := by decide +kernel
theorem d_Hands_exchange_15 : decode b_Hands_exchange 15 = .ok (.getfield 14, 3) := by decide +kernel
theorem d_Hands_exchange_18 : decode b_Hands_exchange 18 = .ok (.iload_n 2, 1) := by decide +kernel
theorem d_Hands_exchange_19 : decode b_Hands_exchange 19 = .ok (.invokevirtual 36, 3) := by decide +kernel
theorem d_Hands_exchange_22 : decode b_Hands_exchange 22 = .ok (.invokevirtual 68, 3) := by decide +kernel
theorem d_Hands_exchange_25 : decode b_Hands_exchange 25 = .ok (.aload_n 0, 1) := by decide +kernel
theorem d_Hands_exchange_26 : decode b_Hands_exchange 26 = .ok (.getfield 14, 3) := by decide +kernel
theorem d_Hands_exchange_29 : decode b_Hands_exchange 29 = .ok (.iload_n 2, 1) := by decide +kernel
theorem d_Hands_exchange_30 : decode b_Hands_exchange 30 = .ok (.iload_n 3, 1) := by decide +kernel
theorem d_Hands_exchange_31 : decode b_Hands_exchange 31 = .ok (.invokevirtual 68, 3) := by decide +kernel
theorem d_Hands_exchange_34 : decode b_Hands_exchange 34 = .ok (.return_, 1) := by decide +kernel
noncomputable def f_Hands_exchange (z : Nat → Nat) (σ : Mm) (o : Nat) (p1 : Int32) (p2 : Int32) : Option (Mm) :=
  (f_Row_at z σ (o + 1) p1).bind fun q5 =>
  (f_Row_at z σ (o + 1) p2).bind fun q19 =>
  (f_Row_put z σ (o + 1) p1 q19).bind fun q22 =>
  (f_Row_put z q22 (o + 1) p2 q5).bind fun q31 =>
  some q31
set_option maxHeartbeats 4000000 in
set_option maxRecDepth 100000 in
theorem c_Hands_exchange (l : Launch) {L : Ly} (hg : gd_ok L) {σ : Mm} {o : Nat} {p1 : Int32} {p2 : Int32} (k_o_0 : ly_k L o = 3) {res : Mm} (hf0 : f_Hands_exchange (ly_z L) σ o p1 p2 = some res) : CtV l y_Hands_exchange b_Hands_exchange 4 (none) rm_Hands_exchange L [.ref (ly_a L o), .int p1, .int p2] σ res := by
  refine ct_v hg (by decide) (Nat.le_of_ble_eq_true rfl) ?_
  intro E A Q hE C hN
  subst hE
  have k_o_1 : ly_k L (o + 1) = 0 := gd_Hands_held hg k_o_0
  unfold f_Hands_exchange at hf0
  show GW E L A 4 0 0 Q σ 0 [(0, .ref (ly_a L o)), (1, .int p1), (2, .int p2)] []
  refine gw_aload_n C 0 d_Hands_exchange_0 rfl rfl ?_
  refine gw_getA C 0 d_Hands_exchange_1 k_o_0 (by decide) i_Hands rfl rfl (by decide) qw_186 rfl rfl (o + 1) rfl ?_
  refine gw_iload_n C 1 d_Hands_exchange_4 rfl rfl ?_
  obtain ⟨q5, hq5, hf0⟩ := mx_bd hf0
  refine gw_callI C (c_Row_at _ hg k_o_1 hq5) d_Hands_exchange_5 1 qw_609 qw_489 qw_490 qw_4 qw_491 k_o_1 (by decide) rfl hd_Row_at rfl rfl (Nat.le_of_ble_eq_true rfl) ⟨rfl, rfl, Nat.le_of_ble_eq_true rfl, Nat.le_of_ble_eq_true rfl⟩ ⟨Nat.zero_le _, Nat.zero_le _⟩ ?_
  refine gw_istore_n C [(3, .int q5), (0, .ref (ly_a L o)), (1, .int p1), (2, .int p2)] d_Hands_exchange_8 rfl (by decide) rfl ?_
  refine gw_aload_n C 1 d_Hands_exchange_9 rfl rfl ?_
  refine gw_getA C 0 d_Hands_exchange_10 k_o_0 (by decide) i_Hands rfl rfl (by decide) qw_186 rfl rfl (o + 1) rfl ?_
  refine gw_iload_n C 2 d_Hands_exchange_13 rfl rfl ?_
  refine gw_aload_n C 1 d_Hands_exchange_14 rfl rfl ?_
  refine gw_getA C 0 d_Hands_exchange_15 k_o_0 (by decide) i_Hands rfl rfl (by decide) qw_186 rfl rfl (o + 1) rfl ?_
  refine gw_iload_n C 3 d_Hands_exchange_18 rfl rfl ?_
  obtain ⟨q19, hq19, hf0⟩ := mx_bd hf0
  refine gw_callI C (c_Row_at _ hg k_o_1 hq19) d_Hands_exchange_19 1 qw_609 qw_489 qw_490 qw_4 qw_491 k_o_1 (by decide) rfl hd_Row_at rfl rfl (Nat.le_of_ble_eq_true rfl) ⟨rfl, rfl, Nat.le_of_ble_eq_true rfl, Nat.le_of_ble_eq_true rfl⟩ ⟨Nat.zero_le _, Nat.zero_le _⟩ ?_
  obtain ⟨q22, hq22, hf0⟩ := mx_bd hf0
  refine gw_callV C (c_Row_put _ hg k_o_1 hq22) d_Hands_exchange_22 2 qw_791 qw_461 qw_462 qw_4 qw_463 k_o_1 (by decide) rfl hd_Row_put rfl rfl (Nat.le_of_ble_eq_true rfl) ⟨rfl, rfl, Nat.le_of_ble_eq_true rfl, Nat.le_of_ble_eq_true rfl⟩ ⟨Nat.zero_le _, Nat.zero_le _⟩ ?_
  refine gw_aload_n C 1 d_Hands_exchange_25 rfl rfl ?_
  refine gw_getA C 0 d_Hands_exchange_26 k_o_0 (by decide) i_Hands rfl rfl (by decide) qw_186 rfl rfl (o + 1) rfl ?_
  refine gw_iload_n C 3 d_Hands_exchange_29 rfl rfl ?_
  refine gw_iload_n C 0 d_Hands_exchange_30 rfl rfl ?_
  obtain ⟨q31, hq31, hf0⟩ := mx_bd hf0
  refine gw_callV C (c_Row_put _ hg k_o_1 hq31) d_Hands_exchange_31 2 qw_791 qw_461 qw_462 qw_4 qw_463 k_o_1 (by decide) rfl hd_Row_put rfl rfl (Nat.le_of_ble_eq_true rfl) ⟨rfl, rfl, Nat.le_of_ble_eq_true rfl, Nat.le_of_ble_eq_true rfl⟩ ⟨Nat.zero_le _, Nat.zero_le _⟩ ?_
  exact en_v hN hf0 d_Hands_exchange_34

/-! NameHat.swap(II)Z -/
abbrev b_Hat_swap : ByteArray := prog_1_method_18_code
def y_Hat_swap : MethodName := ⟨"NameHat", "swap", "(II)Z"⟩
abbrev rm_Hat_swap : Room := { frames := 3, cells := 0, slots := 0, locals := 64 }
theorem hd_Hat_swap : y_Hat_swap.cls ≠ "java/lang/invoke/MethodHandle" ∧ y_Hat_swap.cls ≠ "java/lang/invoke/VarHandle" ∧ (parseMethodDescriptor y_Hat_swap.desc).map (fun d => d.parameters.length) = some 2 := by decide +kernel
theorem d_Hat_swap_0 : decode b_Hat_swap 0 = .ok (.aload_n 0, 1) := by decide +kernel
theorem d_Hat_swap_1 : decode b_Hat_swap 1 = .ok (.getfield 57, 3) := by decide +kernel
theorem d_Hat_swap_4 : decode b_Hat_swap 4 = .ok (.getfield 121, 3) := by decide +kernel
theorem d_Hat_swap_7 : decode b_Hat_swap 7 = .ok (.astore_n 3, 1) := by decide +kernel
theorem d_Hat_swap_8 : decode b_Hat_swap 8 = .ok (.aload_n 3, 1) := by decide +kernel
theorem d_Hat_swap_9 : decode b_Hat_swap 9 = .ok (.getfield 166, 3) := by decide +kernel
theorem d_Hat_swap_12 : decode b_Hat_swap 12 = .ok (.iload_n 1, 1) := by decide +kernel
theorem d_Hat_swap_13 : decode b_Hat_swap 13 = .ok (.invokevirtual 131, 3) := by decide +kernel
theorem d_Hat_swap_16 : decode b_Hat_swap 16 = .ok (.ifCond .eq 19, 3) := by decide +kernel
theorem d_Hat_swap_19 : decode b_Hat_swap 19 = .ok (.aload_n 3, 1) := by decide +kernel
theorem d_Hat_swap_20 : decode b_Hat_swap 20 = .ok (.getfield 166, 3) := by decide +kernel
theorem d_Hat_swap_23 : decode b_Hat_swap 23 = .ok (.iload_n 2, 1) := by decide +kernel
theorem d_Hat_swap_24 : decode b_Hat_swap 24 = .ok (.invokevirtual 131, 3) := by decide +kernel
theorem d_Hat_swap_27 : decode b_Hat_swap 27 = .ok (.ifCond .eq 8, 3) := by decide +kernel
theorem d_Hat_swap_30 : decode b_Hat_swap 30 = .ok (.iload_n 1, 1) := by decide +kernel
theorem d_Hat_swap_31 : decode b_Hat_swap 31 = .ok (.iload_n 2, 1) := by decide +kernel
theorem d_Hat_swap_32 : decode b_Hat_swap 32 = .ok (.if_icmp .ne 5, 3) := by decide +kernel
theorem d_Hat_swap_35 : decode b_Hat_swap 35 = .ok (.iconst 0, 1) := by decide +kernel
theorem d_Hat_swap_36 : decode b_Hat_swap 36 = .ok (.ireturn, 1) := by decide +kernel
theorem d_Hat_swap_37 : decode b_Hat_swap 37 = .ok (.aload_n 0, 1) := by decide +kernel
theorem d_Hat_swap_38 : decode b_Hat_swap 38 = .ok (.getfield 57, 3) := by decide +kernel
theorem d_Hat_swap_41 : decode b_Hat_swap 41 = .ok (.getfield 154, 3) := by decide +kernel
theorem d_Hat_swap_44 : decode b_Hat_swap 44 = .ok (.aload_n 3, 1) := by decide +kernel
theorem d_Hat_swap_45 : decode b_Hat_swap 45 = .ok (.iload_n 1, 1) := by decide +kernel
theorem d_Hat_swap_46 : decode b_Hat_swap 46 = .ok (.invokevirtual 206, 3) := by decide +kernel
theorem d_Hat_swap_49 : decode b_Hat_swap 49 = .ok (.ifCond .eq 18, 3) := by decide +kernel
theorem d_Hat_swap_52 : decode b_Hat_swap 52 = .ok (.aload_n 0, 1) := by decide +kernel
theorem d_Hat_swap_53 : decode b_Hat_swap 53 = .ok (.getfield 57, 3) := by decide +kernel
theorem d_Hat_swap_56 : decode b_Hat_swap 56 = .ok (.getfield 154, 3) := by decide +kernel
theorem d_Hat_swap_59 : decode b_Hat_swap 59 = .ok (.aload_n 3, 1) := by decide +kernel
theorem d_Hat_swap_60 : decode b_Hat_swap 60 = .ok (.iload_n 2, 1) := by decide +kernel
theorem d_Hat_swap_61 : decode b_Hat_swap 61 = .ok (.invokevirtual 206, 3) := by decide +kernel
theorem d_Hat_swap_64 : decode b_Hat_swap 64 = .ok (.ifCond .ne 5, 3) := by decide +kernel
theorem d_Hat_swap_67 : decode b_Hat_swap 67 = .ok (.iconst 0, 1) := by decide +kernel
theorem d_Hat_swap_68 : decode b_Hat_swap 68 = .ok (.ireturn, 1) := by decide +kernel
theorem d_Hat_swap_69 : decode b_Hat_swap 69 = .ok (.aload_n 0, 1) := by decide +kernel
theorem d_Hat_swap_70 : decode b_Hat_swap 70 = .ok (.getfield 57, 3) := by decide +kernel
theorem d_Hat_swap_73 : decode b_Hat_swap 73 = .ok (.getfield 154, 3) := by decide +kernel
theorem d_Hat_swap_76 : decode b_Hat_swap 76 = .ok (.iload_n 1, 1) := by decide +kernel
theorem d_Hat_swap_77 : decode b_Hat_swap 77 = .ok (.iload_n 2, 1) := by decide +kernel
theorem d_Hat_swap_78 : decode b_Hat_swap 78 = .ok (.invokevirtual 210, 3) := by decide +kernel
theorem d_Hat_swap_81 : decode b_Hat_swap 81 = .ok (.iconst 1, 1) := by decide +kernel
theorem d_Hat_swap_82 : decode b_Hat_swap 82 = .ok (.ireturn, 1) := by decide +kernel
noncomputable def f_Hat_swap (z : Nat → Nat) (σ : Mm) (o : Nat) (p1 : Int32) (p2 : Int32) : Option (Int32 × Mm) :=
  (f_Names_has z σ (o + 64) p1).bind fun q13 =>
  if q13 = 0 then (
    some ((0 : Int32), σ)
  ) else (
    (f_Names_has z σ (o + 64) p2).bind fun q24 =>
    if q24 = 0 then (
      some ((0 : Int32), σ)
    ) else (
      if p1 = p2 then (
        some ((0 : Int32), σ)
      ) else (
        (f_Hands_canTrade z σ (o + 74) (o + 61) p1).bind fun q46 =>
        if q46 = 0 then (
          some ((0 : Int32), σ)
        ) else (
          (f_Hands_canTrade z σ (o + 74) (o + 61) p2).bind fun q61 =>
          if q61 = 0 then (
            some ((0 : Int32), σ)
          ) else (
            (f_Hands_exchange z σ (o + 74) p1 p2).bind fun q78 =>
            some ((1 : Int32), q78)
          )
        )
      )
    )
  )
set_option maxHeartbeats 4000000 in
set_option maxRecDepth 100000 in
theorem c_Hat_swap (l : Launch) {L : Ly} (hg : gd_ok L) {σ : Mm} {o : Nat} {p1 : Int32} {p2 : Int32} (k_o_0 : ly_k L o = 10) {res : Int32 × Mm} (hf0 : f_Hat_swap (ly_z L) σ o p1 p2 = some res) : CtI l y_Hat_swap b_Hat_swap 4 (some .boolean) rm_Hat_swap L [.ref (ly_a L o), .int p1, .int p2] σ res.1 res.2 := by
  refine ct_z hg (by decide) (Nat.le_of_ble_eq_true rfl) ?_
  intro E A Q hE C hN
  subst hE
  have k_o_60 : ly_k L (o + 60) = 4 := gd_Hat_now hg k_o_0
  have k_o_61 : ly_k L (o + 61) = 2 := gd_State_island hg k_o_60
  have k_o_64 : ly_k L (o + 64) = 1 := gd_Island_houses hg k_o_61
  have k_o_74 : ly_k L (o + 74) = 3 := gd_State_hands hg k_o_60
  unfold f_Hat_swap at hf0
  show GW E L A 4 0 0 Q σ 0 [(0, .ref (ly_a L o)), (1, .int p1), (2, .int p2)] []
  refine gw_aload_n C 0 d_Hat_swap_0 rfl rfl ?_
  refine gw_getA C 7 d_Hat_swap_1 k_o_0 (by decide) i_Hat rfl rfl (by decide) qw_410 rfl rfl (o + 60) rfl ?_
  refine gw_getAN C 0 d_Hat_swap_4 k_o_60 (by decide) i_State rfl rfl (by decide) qw_237 rfl rfl (o + 61) rfl ?_
  refine gw_astore_n C [(3, .ref (ly_a L (o + 61))), (0, .ref (ly_a L o)), (1, .int p1), (2, .int p2)] d_Hat_swap_7 rfl (by decide) rfl ?_
  refine gw_aload_n C 0 d_Hat_swap_8 rfl rfl ?_
  refine gw_getAN C 1 d_Hat_swap_9 k_o_61 (by decide) i_Island rfl rfl (by decide) qw_136 rfl rfl (o + 64) rfl ?_
  refine gw_iload_n C 2 d_Hat_swap_12 rfl rfl ?_
  obtain ⟨q13, hq13, hf0⟩ := mx_bd hf0
  refine gw_callI C (c_Names_has _ hg k_o_64 hq13) d_Hat_swap_13 1 qw_754 qw_738 qw_739 qw_7 qw_740 k_o_64 (by decide) rfl hd_Names_has rfl rfl (Nat.le_of_ble_eq_true rfl) ⟨rfl, rfl, Nat.le_of_ble_eq_true rfl, Nat.le_of_ble_eq_true rfl⟩ ⟨Nat.zero_le _, Nat.zero_le _⟩ ?_
  refine gw_if_eq C 35 d_Hat_swap_16 (by decide) (fun hc => ?_) (fun hc => ?_)
  · replace hf0 := mx_t hc hf0
    refine gw_iconst C (0 : Int32) d_Hat_swap_35 (by decide) ?_
    exact en_z hN (Or.inl rfl) hf0 d_Hat_swap_36
  · replace hf0 := mx_f hc hf0
    refine gw_aload_n C 0 d_Hat_swap_19 rfl rfl ?_
    refine gw_getAN C 1 d_Hat_swap_20 k_o_61 (by decide) i_Island rfl rfl (by decide) qw_136 rfl rfl (o + 64) rfl ?_
    refine gw_iload_n C 3 d_Hat_swap_23 rfl rfl ?_
    obtain ⟨q24, hq24, hf0⟩ := mx_bd hf0
    refine gw_callI C (c_Names_has _ hg k_o_64 hq24) d_Hat_swap_24 1 qw_754 qw_738 qw_739 qw_7 qw_740 k_o_64 (by decide) rfl hd_Names_has rfl rfl (Nat.le_of_ble_eq_true rfl) ⟨rfl, rfl, Nat.le_of_ble_eq_true rfl, Nat.le_of_ble_eq_true rfl⟩ ⟨Nat.zero_le _, Nat.zero_le _⟩ ?_
    refine gw_if_eq C 35 d_Hat_swap_27 (by decide) (fun hc => ?_) (fun hc => ?_)
    · replace hf0 := mx_t hc hf0
      refine gw_iconst C (0 : Int32) d_Hat_swap_35 (by decide) ?_
      exact en_z hN (Or.inl rfl) hf0 d_Hat_swap_36
    · replace hf0 := mx_f hc hf0
      refine gw_iload_n C 2 d_Hat_swap_30 rfl rfl ?_
      refine gw_iload_n C 3 d_Hat_swap_31 rfl rfl ?_
      refine gw_icmp_ne C 37 d_Hat_swap_32 (by decide) (fun hc => ?_) (fun hc => ?_)
      · replace hf0 := mx_f hc hf0
        refine gw_aload_n C 1 d_Hat_swap_37 rfl rfl ?_
        refine gw_getA C 7 d_Hat_swap_38 k_o_0 (by decide) i_Hat rfl rfl (by decide) qw_410 rfl rfl (o + 60) rfl ?_
        refine gw_getAN C 1 d_Hat_swap_41 k_o_60 (by decide) i_State rfl rfl (by decide) qw_239 rfl rfl (o + 74) rfl ?_
        refine gw_aload_n C 0 d_Hat_swap_44 rfl rfl ?_
        refine gw_iload_n C 2 d_Hat_swap_45 rfl rfl ?_
        obtain ⟨q46, hq46, hf0⟩ := mx_bd hf0
        refine gw_callI C (c_Hands_canTrade _ hg k_o_74 k_o_61 hq46) d_Hat_swap_46 2 qw_779 qw_780 qw_781 qw_8 qw_782 k_o_74 (by decide) rfl hd_Hands_canTrade rfl rfl (Nat.le_of_ble_eq_true rfl) ⟨rfl, rfl, Nat.le_of_ble_eq_true rfl, Nat.le_of_ble_eq_true rfl⟩ ⟨Nat.zero_le _, Nat.zero_le _⟩ ?_
        refine gw_if_eq C 67 d_Hat_swap_49 (by decide) (fun hc => ?_) (fun hc => ?_)
        · replace hf0 := mx_t hc hf0
          refine gw_iconst C (0 : Int32) d_Hat_swap_67 (by decide) ?_
          exact en_z hN (Or.inl rfl) hf0 d_Hat_swap_68
        · replace hf0 := mx_f hc hf0
          refine gw_aload_n C 1 d_Hat_swap_52 rfl rfl ?_
          refine gw_getA C 7 d_Hat_swap_53 k_o_0 (by decide) i_Hat rfl rfl (by decide) qw_410 rfl rfl (o + 60) rfl ?_
          refine gw_getAN C 1 d_Hat_swap_56 k_o_60 (by decide) i_State rfl rfl (by decide) qw_239 rfl rfl (o + 74) rfl ?_
          refine gw_aload_n C 0 d_Hat_swap_59 rfl rfl ?_
          refine gw_iload_n C 3 d_Hat_swap_60 rfl rfl ?_
          obtain ⟨q61, hq61, hf0⟩ := mx_bd hf0
          refine gw_callI C (c_Hands_canTrade _ hg k_o_74 k_o_61 hq61) d_Hat_swap_61 2 qw_779 qw_780 qw_781 qw_8 qw_782 k_o_74 (by decide) rfl hd_Hands_canTrade rfl rfl (Nat.le_of_ble_eq_true rfl) ⟨rfl, rfl, Nat.le_of_ble_eq_true rfl, Nat.le_of_ble_eq_true rfl⟩ ⟨Nat.zero_le _, Nat.zero_le _⟩ ?_
          refine gw_if_ne C 69 d_Hat_swap_64 (by decide) (fun hc => ?_) (fun hc => ?_)
          · replace hf0 := mx_f hc hf0
            refine gw_aload_n C 1 d_Hat_swap_69 rfl rfl ?_
            refine gw_getA C 7 d_Hat_swap_70 k_o_0 (by decide) i_Hat rfl rfl (by decide) qw_410 rfl rfl (o + 60) rfl ?_
            refine gw_getAN C 1 d_Hat_swap_73 k_o_60 (by decide) i_State rfl rfl (by decide) qw_239 rfl rfl (o + 74) rfl ?_
            refine gw_iload_n C 2 d_Hat_swap_76 rfl rfl ?_
            refine gw_iload_n C 3 d_Hat_swap_77 rfl rfl ?_
            obtain ⟨q78, hq78, hf0⟩ := mx_bd hf0
            refine gw_callV C (c_Hands_exchange _ hg k_o_74 hq78) d_Hat_swap_78 2 qw_787 qw_788 qw_789 qw_8 qw_790 k_o_74 (by decide) rfl hd_Hands_exchange rfl rfl (Nat.le_of_ble_eq_true rfl) ⟨rfl, rfl, Nat.le_of_ble_eq_true rfl, Nat.le_of_ble_eq_true rfl⟩ ⟨Nat.zero_le _, Nat.zero_le _⟩ ?_
            refine gw_iconst C (1 : Int32) d_Hat_swap_81 (by decide) ?_
            exact en_z hN (Or.inr rfl) hf0 d_Hat_swap_82
          · replace hf0 := mx_t hc hf0
            refine gw_iconst C (0 : Int32) d_Hat_swap_67 (by decide) ?_
            exact en_z hN (Or.inl rfl) hf0 d_Hat_swap_68
      · replace hf0 := mx_t hc hf0
        refine gw_iconst C (0 : Int32) d_Hat_swap_35 (by decide) ?_
        exact en_z hN (Or.inl rfl) hf0 d_Hat_swap_36

/-! NameHat.Rings.wishAll(LNameHat.Island;LNameHat.Hands;)V -/
abbrev b_Rings_wishAll : ByteArray := prog_7_method_3_code
def y_Rings_wishAll : MethodName := ⟨"NameHat$Rings", "wishAll", "(LNameHat$Island;LNameHat$Hands;)V"⟩
abbrev rm_Rings_wishAll : Room := { frames := 4, cells := 0, slots := 0, locals := 90 }
theorem hd_Rings_wishAll : y_Rings_wishAll.cls ≠ "java/lang/invoke/MethodHandle" ∧ y_Rings_wishAll.cls ≠ "java/lang/invoke/VarHandle" ∧ (parseMethodDescriptor y_Rings_wishAll.desc).map (fun d => d.parameters.length) = some 2 := by decide +kernel
theorem d_Rings_wishAll_0 : decode b_Rings_wishAll 0 = .ok (.iconst 0, 1) := by decide +kernel
theorem d_Rings_wishAll_1 : decode b_Rings_wishAll 1 = .ok (.istore_n 3, 1) := by decide +kernel
theorem d_Rings_wishAll_2 : decode b_Rings_wishAll 2 = .ok (.iload_n 3, 1) := by decide +kernel
theorem d_Rings_wishAll_3 : decode b_Rings_wishAll 3 = .ok (.bipush 8, 2) := by decide +kernel
theorem d_Rings_wishAll_5 : decode b_Rings_wishAll 5 = .ok (.if_icmp .ge 98, 3) := by decide +kernel
theorem d_Rings_wishAll_8 : decode b_Rings_wishAll 8 = .ok (.iconst 0, 1) := by decide +kernel
theorem d_Rings_wishAll_9 : decode b_Rings_wishAll 9 = .ok (.istore 4, 2) := by decide +kernel
theorem d_Rings_wishAll_11 : decode b_Rings_wishAll 11 = .ok (.aload_n 2, 1) := by decide +kernel
theorem d_Rings_wishAll_12 : decode b_Rings_wishAll 12 = .ok (.aload_n 1, 1) := by decide +kernel
theorem d_Rings_wishAll_13 : decode b_Rings_wishAll 13 = .ok (.iload_n 3, 1) := by decide +kernel
theorem d_Rings_wishAll_14 : decode b_Rings_wishAll 14 = .ok (.invokevirtual 57, 3) := by decide +kernel
theorem d_Rings_wishAll_17 : decode b_Rings_wishAll 17 = .ok (.istore 5, 2) := by decide +kernel
theorem d_Rings_wishAll_19 : decode b_Rings_wishAll 19 = .ok (.iconst 0, 1) := by decide +kernel
theorem d_Rings_wishAll_20 : decode b_Rings_wishAll 20 = .ok (.istore 6, 2) := by decide +kernel
theorem d_Rings_wishAll_22 : decode b_Rings_wishAll 22 = .ok (.iload 6, 2) := by decide +kernel
theorem d_Rings_wishAll_24 : decode b_Rings_wishAll 24 = .ok (.aload_n 1, 1) := by decide +kernel
theorem d_Rings_wishAll_25 : decode b_Rings_wishAll 25 = .ok (.getfield 30, 3) := by decide +kernel
theorem d_Rings_wishAll_28 : decode b_Rings_wishAll 28 = .ok (.getfield 36, 3) := by decide +kernel
theorem d_Rings_wishAll_31 : decode b_Rings_wishAll 31 = .ok (.if_icmp .ge 56, 3) := by decide +kernel
theorem d_Rings_wishAll_34 : decode b_Rings_wishAll 34 = .ok (.aload_n 2, 1) := by decide +kernel
theorem d_Rings_wishAll_35 : decode b_Rings_wishAll 35 = .ok (.aload_n 1, 1) := by decide +kernel
theorem d_Rings_wishAll_36 : decode b_Rings_wishAll 36 = .ok (.iload_n 3, 1) := by decide +kernel
theorem d_Rings_wishAll_37 : decode b_Rings_wishAll 37 = .ok (.invokevirtual 63, 3) := by decide +kernel
theorem d_Rings_wishAll_40 : decode b_Rings_wishAll 40 = .ok (.ifCond .eq 47, 3) := by decide +kernel
theorem d_Rings_wishAll_43 : decode b_Rings_wishAll 43 = .ok (.aload_n 2, 1) := by decide +kernel
theorem d_Rings_wishAll_44 : decode b_Rings_wishAll 44 = .ok (.aload_n 1, 1) := by decide +kernel
theorem d_Rings_wishAll_45 : decode b_Rings_wishAll 45 = .ok (.iload 6, 2) := by decide +kernel
theorem d_Rings_wishAll_47 : decode b_Rings_wishAll 47 = .ok (.invokevirtual 63, 3) := by decide +kernel
theorem d_Rings_wishAll_50 : decode b_Rings_wishAll 50 = .ok (.ifCond .eq 31, 3) := by decide +kernel
theorem d_Rings_wishAll_53 : decode b_Rings_wishAll 53 = .ok (.aload_n 1, 1) := by decide +kernel
theorem d_Rings_wishAll_54 : decode b_Rings_wishAll 54 = .ok (.iload_n 3, 1) := by decide +kernel
theorem d_Rings_wishAll_55 : decode b_Rings_wishAll 55 = .ok (.aload_n 2, 1) := by decide +kernel
theorem d_Rings_wishAll_56 : decode b_Rings_wishAll 56 = .ok (.getfield 67, 3) := by decide +kernel
theorem d_Rings_wishAll_59 : decode b_Rings_wishAll 59 = .ok (.iload 6, 2) := by decide +kernel
theorem d_Rings_wishAll_61 : decode b_Rings_wishAll 61 = .ok (.invokevirtual 70, 3) := by decide +kernel
theorem d_Rings_wishAll_64 : decode b_Rings_wishAll 64 = .ok (.invokevirtual 74, 3) := by decide +kernel
theorem d_Rings_wishAll_67 : decode b_Rings_wishAll 67 = .ok (.iload 5, 2) := by decide +kernel
theorem d_Rings_wishAll_69 : decode b_Rings_wishAll 69 = .ok (.if_icmp .le 12, 3) := by decide +kernel
theorem d_Rings_wishAll_72 : decode b_Rings_wishAll 72 = .ok (.iload 4, 2) := by decide +kernel
theorem d_Rings_wishAll_74 : decode b_Rings_wishAll 74 = .ok (.iconst 1, 1) := by decide +kernel
theorem d_Rings_wishAll_75 : decode b_Rings_wishAll 75 = .ok (.iload 6, 2) := by decide +kernel
theorem d_Rings_wishAll_77 : decode b_Rings_wishAll 77 = .ok (.ishl, 1) := by decide +kernel
theorem d_Rings_wishAll_78 : decode b_Rings_wishAll 78 = .ok (.ior, 1) := by decide +kernel
theorem d_Rings_wishAll_79 : decode b_Rings_wishAll 79 = .ok (.istore 4, 2) := by decide +kernel
theorem d_Rings_wishAll_81 : decode b_Rings_wishAll 81 = .ok (.iinc 6 1, 3) := by decide +kernel
theorem d_Rings_wishAll_84 : decode b_Rings_wishAll 84 = .ok (.goto (-62), 3) := by decide +kernel
theorem d_Rings_wishAll_87 : decode b_Rings_wishAll 87 = .ok (.aload_n 0, 1) := by decide +kernel
theorem d_Rings_wishAll_88 : decode b_Rings_wishAll 88 = .ok (.getfield 23, 3) := by decide +kernel
theorem d_Rings_wishAll_91 : decode b_Rings_wishAll 91 = .ok (.iload_n 3, 1) := by decide +kernel
theorem d_Rings_wishAll_92 : decode b_Rings_wishAll 92 = .ok (.iload 4, 2) := by decide +kernel
theorem d_Rings_wishAll_94 : decode b_Rings_wishAll 94 = .ok (.invokevirtual 42, 3) := by decide +kernel
theorem d_Rings_wishAll_97 : decode b_Rings_wishAll 97 = .ok (.iinc 3 1, 3) := by decide +kernel
theorem d_Rings_wishAll_100 : decode b_Rings_wishAll 100 = .ok (.goto (-98), 3) := by decide +kernel
theorem d_Rings_wishAll_103 : decode b_Rings_wishAll 103 = .ok (.return_, 1) := by decide +kernel
noncomputable def f_Rings_wishAll_J87 (z : Nat → Nat) (o : Nat) (o1 : Nat) (o2 : Nat) (v3 : Int32) (v4 : Int32) (m87 : Mm) : Option ((Int32 × Mm) ⊕ (Mm)) :=
  (f_Row_put z m87 (o + 5) v3 v4).bind fun q94 =>
  mm_lt (v3 + (1 : Int32)) fun x97 =>
  some (.inl (x97, q94))
noncomputable def f_Rings_wishAll_L22 (z : Nat → Nat) (σ : Mm) (o : Nat) (o1 : Nat) (o2 : Nat) (v3 : Int32) (v5 : Int32) (s22 : Int32 × Int32) : Option ((Int32 × Int32) ⊕ (Int32)) :=
  if (σ.1 (o1 + 3) 1) ≤ s22.2 then (
    some (.inr s22.1)
  ) else (
    (f_Hands_canTrade z σ o2 o1 v3).bind fun q37 =>
    if q37 = 0 then (
      some (.inr s22.1)
    ) else (
      (f_Hands_canTrade z σ o2 o1 s22.2).bind fun q47 =>
      if q47 = 0 then (
        mm_lt (s22.2 + (1 : Int32)) fun x81 =>
        some (.inl (s22.1, x81))
      ) else (
        (f_Row_at z σ (o2 + 1) s22.2).bind fun q61 =>
        (f_Island_valueFor z σ o1 v3 q61).bind fun q64 =>
        if q64 ≤ v5 then (
          mm_lt (s22.2 + (1 : Int32)) fun x81 =>
          some (.inl (s22.1, x81))
        ) else (
          mm_lt ((s22.1 ||| ((1 : Int32) <<< (s22.2 &&& 31)))) fun x79 =>
          mm_lt (s22.2 + (1 : Int32)) fun x81 =>
          some (.inl (x79, x81))
        )
      )
    )
  )
noncomputable def f_Rings_wishAll_L2 (z : Nat → Nat) (o : Nat) (o1 : Nat) (o2 : Nat) (s2 : Int32 × Mm) : Option ((Int32 × Mm) ⊕ (Mm)) :=
  if (8 : Int32) ≤ s2.1 then (
    some (.inr s2.2)
  ) else (
    (f_Hands_valueHeld z s2.2 o2 o1 s2.1).bind fun q14 =>
    (mm_lp (f_Rings_wishAll_L22 z s2.2 o o1 o2 s2.1 q14) ((0 : Int32), (0 : Int32))).bind (fun q22 =>
      f_Rings_wishAll_J87 z o o1 o2 s2.1 q22 s2.2)
  )
noncomputable def f_Rings_wishAll (z : Nat → Nat) (σ : Mm) (o : Nat) (o1 : Nat) (o2 : Nat) : Option (Mm) :=
  (mm_lp (f_Rings_wishAll_L2 z o o1 o2) ((0 : Int32), σ)).bind (fun q2 =>
    some q2)
set_option maxHeartbeats 4000000 in
set_option maxRecDepth 100000 in
theorem c_Rings_wishAll (l : Launch) {L : Ly} (hg : gd_ok L) {σ : Mm} {o : Nat} {o1 : Nat} {o2 : Nat} (k_o_0 : ly_k L o = 5) (k_o1_0 : ly_k L o1 = 2) (k_o2_0 : ly_k L o2 = 3) {res : Mm} (hf0 : f_Rings_wishAll (ly_z L) σ o o1 o2 = some res) : CtV l y_Rings_wishAll b_Rings_wishAll 7 (none) rm_Rings_wishAll L [.ref (ly_a L o), .ref (ly_a L o1), .ref (ly_a L o2)] σ res := by
  refine ct_v hg (by decide) (Nat.le_of_ble_eq_true rfl) ?_
  intro E A Q hE C hN
  subst hE
  have k_o_5 : ly_k L (o + 5) = 0 := gd_Rings_wishes hg k_o_0
  have k_o1_3 : ly_k L (o1 + 3) = 1 := gd_Island_houses hg k_o1_0
  have k_o2_1 : ly_k L (o2 + 1) = 0 := gd_Hands_held hg k_o2_0
  unfold f_Rings_wishAll at hf0
  show GW E L A 7 0 0 Q σ 0 [(0, .ref (ly_a L o)), (1, .ref (ly_a L o1)), (2, .ref (ly_a L o2))] []
  refine gw_iconst C (0 : Int32) d_Rings_wishAll_0 (by decide) ?_
  refine gw_istore_n C [(3, .int (0 : Int32)), (0, .ref (ly_a L o)), (1, .ref (ly_a L o1)), (2, .ref (ly_a L o2))] d_Rings_wishAll_1 rfl (by decide) rfl ?_
  obtain ⟨q2, hq2, hf0⟩ := mx_bd hf0
  have hk2 : ∀ x9, q2 = x9 → GW E L A 7 0 0 Q x9 103 [] [] := by
    intro x9 hx9
    subst hx9
    exact en_v hN hf0 d_Rings_wishAll_103
  refine gw_sub [1, 2, 3, 0] (lv' := [(0, .ref (ly_a L o)), (1, .ref (ly_a L o1)), (2, .ref (ly_a L o2)), (3, .int (0 : Int32))]) rfl ?_
  refine mm_rule hq2 (P := fun (s2 : Int32 × Mm) => GW E L A 7 0 0 Q s2.2 2 [(0, .ref (ly_a L o)), (1, .ref (ly_a L o1)), (2, .ref (ly_a L o2)), (3, .int s2.1)] []) ?_
  intro s2 ih2 hx2 ⟨w2, hb2⟩
  have hj87 : ∀ (v3 : Int32) (v4 : Int32) (m87 : Mm), f_Rings_wishAll_J87 (ly_z L) o o1 o2 v3 v4 m87 = some w2 → GW E L A 7 0 0 Q m87 87 [(0, .ref (ly_a L o)), (1, .ref (ly_a L o1)), (2, .ref (ly_a L o2)), (3, .int v3), (4, .int v4)] [] := by
    intro v3 v4 m87 hf1
    unfold f_Rings_wishAll_J87 at hf1
    refine gw_aload_n C 0 d_Rings_wishAll_87 rfl rfl ?_
    refine gw_getA C 3 d_Rings_wishAll_88 k_o_0 (by decide) i_Rings rfl rfl (by decide) qw_333 rfl rfl (o + 5) rfl ?_
    refine gw_iload_n C 3 d_Rings_wishAll_91 rfl rfl ?_
    refine gw_iload C 4 d_Rings_wishAll_92 rfl ?_
    obtain ⟨q94, hq94, hf1⟩ := mx_bd hf1
    refine gw_callV C (c_Row_put _ hg k_o_5 hq94) d_Rings_wishAll_94 2 qw_808 qw_461 qw_462 qw_4 qw_463 k_o_5 (by decide) rfl hd_Row_put rfl rfl (Nat.le_of_ble_eq_true rfl) ⟨rfl, rfl, Nat.le_of_ble_eq_true rfl, Nat.le_of_ble_eq_true rfl⟩ ⟨Nat.zero_le _, Nat.zero_le _⟩ ?_
    obtain ⟨x97, ex97, hf1⟩ := mx_lt hf1
    refine gw_iinc C 3 [(3, .int x97), (0, .ref (ly_a L o)), (1, .ref (ly_a L o1)), (2, .ref (ly_a L o2)), (4, .int v4)] d_Rings_wishAll_97 rfl (by rw [ex97]; rfl) (by decide) rfl ?_
    refine gw_goto C 2 d_Rings_wishAll_100 (by decide) ?_
    exact gw_go [1, 2, 3, 0] (ih2 (x97, q94) (hb2.trans hf1.symm)) rfl
  have hf1 := hb2
  unfold f_Rings_wishAll_L2 at hf1
  refine gw_iload_n C 3 d_Rings_wishAll_2 rfl rfl ?_
  refine gw_bipush C (8 : Int32) d_Rings_wishAll_3 (by decide) ?_
  refine gw_icmp_ge C 103 d_Rings_wishAll_5 (by decide) (fun hc => ?_) (fun hc => ?_)
  · replace hf1 := mx_t hc hf1
    exact gw_go [] (hk2 s2.2 (hx2 _ (hb2.trans hf1.symm)).symm) rfl
  · replace hf1 := mx_f hc hf1
    refine gw_iconst C (0 : Int32) d_Rings_wishAll_8 (by decide) ?_
    refine gw_istore C [(4, .int (0 : Int32)), (0, .ref (ly_a L o)), (1, .ref (ly_a L o1)), (2, .ref (ly_a L o2)), (3, .int s2.1)] d_Rings_wishAll_9 (by decide) rfl ?_
    refine gw_aload_n C 3 d_Rings_wishAll_11 rfl rfl ?_
    refine gw_aload_n C 2 d_Rings_wishAll_12 rfl rfl ?_
    refine gw_iload_n C 4 d_Rings_wishAll_13 rfl rfl ?_
    obtain ⟨q14, hq14, hf1⟩ := mx_bd hf1
    refine gw_callI C (c_Hands_valueHeld _ hg k_o2_0 k_o1_0 hq14) d_Rings_wishAll_14 2 qw_804 qw_762 qw_763 qw_8 qw_764 k_o2_0 (by decide) rfl hd_Hands_valueHeld rfl rfl (Nat.le_of_ble_eq_true rfl) ⟨rfl, rfl, Nat.le_of_ble_eq_true rfl, Nat.le_of_ble_eq_true rfl⟩ ⟨Nat.zero_le _, Nat.zero_le _⟩ ?_
    refine gw_istore C [(5, .int q14), (4, .int (0 : Int32)), (0, .ref (ly_a L o)), (1, .ref (ly_a L o1)), (2, .ref (ly_a L o2)), (3, .int s2.1)] d_Rings_wishAll_17 (by decide) rfl ?_
    refine gw_iconst C (0 : Int32) d_Rings_wishAll_19 (by decide) ?_
    refine gw_istore C [(6, .int (0 : Int32)), (5, .int q14), (4, .int (0 : Int32)), (0, .ref (ly_a L o)), (1, .ref (ly_a L o1)), (2, .ref (ly_a L o2)), (3, .int s2.1)] d_Rings_wishAll_20 (by decide) rfl ?_
    obtain ⟨q22, hq22, hf1⟩ := mx_bd hf1
    have hk22 : ∀ x9, q22 = x9 → GW E L A 7 0 0 Q s2.2 87 [(0, .ref (ly_a L o)), (1, .ref (ly_a L o1)), (2, .ref (ly_a L o2)), (3, .int s2.1), (4, .int x9)] [] := by
      intro x9 hx9
      subst hx9
      exact gw_go [0, 1, 2, 3, 4] (hj87 _ _ _ hf1) rfl
    refine gw_sub [3, 4, 5, 6, 2, 1, 0] (lv' := [(0, .ref (ly_a L o)), (1, .ref (ly_a L o1)), (2, .ref (ly_a L o2)), (3, .int s2.1), (4, .int (0 : Int32)), (5, .int q14), (6, .int (0 : Int32))]) rfl ?_
    refine mm_rule hq22 (P := fun (s22 : Int32 × Int32) => GW E L A 7 0 0 Q s2.2 22 [(0, .ref (ly_a L o)), (1, .ref (ly_a L o1)), (2, .ref (ly_a L o2)), (3, .int s2.1), (4, .int s22.1), (5, .int q14), (6, .int s22.2)] []) ?_
    intro s22 ih22 hx22 ⟨w22, hb22⟩
    have hf2 := hb22
    unfold f_Rings_wishAll_L22 at hf2
    refine gw_iload C 6 d_Rings_wishAll_22 rfl ?_
    refine gw_aload_n C 1 d_Rings_wishAll_24 rfl rfl ?_
    refine gw_getAN C 1 d_Rings_wishAll_25 k_o1_0 (by decide) i_Island rfl rfl (by decide) qw_132 rfl rfl (o1 + 3) rfl ?_
    refine gw_getIN C 1 d_Rings_wishAll_28 k_o1_3 (by decide) i_Names rfl rfl (by decide) qw_111 rfl rfl ?_
    refine gw_icmp_ge C 87 d_Rings_wishAll_31 (by decide) (fun hc => ?_) (fun hc => ?_)
    · replace hf2 := mx_t hc hf2
      exact gw_go [0, 1, 2, 3, 4] (hk22 s22.1 (hx22 _ (hb22.trans hf2.symm)).symm) rfl
    · replace hf2 := mx_f hc hf2
      refine gw_aload_n C 2 d_Rings_wishAll_34 rfl rfl ?_
      refine gw_aload_n C 1 d_Rings_wishAll_35 rfl rfl ?_
      refine gw_iload_n C 3 d_Rings_wishAll_36 rfl rfl ?_
      obtain ⟨q37, hq37, hf2⟩ := mx_bd hf2
      refine gw_callI C (c_Hands_canTrade _ hg k_o2_0 k_o1_0 hq37) d_Rings_wishAll_37 2 qw_805 qw_780 qw_781 qw_8 qw_782 k_o2_0 (by decide) rfl hd_Hands_canTrade rfl rfl (Nat.le_of_ble_eq_true rfl) ⟨rfl, rfl, Nat.le_of_ble_eq_true rfl, Nat.le_of_ble_eq_true rfl⟩ ⟨Nat.zero_le _, Nat.zero_le _⟩ ?_
      refine gw_if_eq C 87 d_Rings_wishAll_40 (by decide) (fun hc => ?_) (fun hc => ?_)
      · replace hf2 := mx_t hc hf2
        exact gw_go [0, 1, 2, 3, 4] (hk22 s22.1 (hx22 _ (hb22.trans hf2.symm)).symm) rfl
      · replace hf2 := mx_f hc hf2
        refine gw_aload_n C 2 d_Rings_wishAll_43 rfl rfl ?_
        refine gw_aload_n C 1 d_Rings_wishAll_44 rfl rfl ?_
        refine gw_iload C 6 d_Rings_wishAll_45 rfl ?_
        obtain ⟨q47, hq47, hf2⟩ := mx_bd hf2
        refine gw_callI C (c_Hands_canTrade _ hg k_o2_0 k_o1_0 hq47) d_Rings_wishAll_47 2 qw_805 qw_780 qw_781 qw_8 qw_782 k_o2_0 (by decide) rfl hd_Hands_canTrade rfl rfl (Nat.le_of_ble_eq_true rfl) ⟨rfl, rfl, Nat.le_of_ble_eq_true rfl, Nat.le_of_ble_eq_true rfl⟩ ⟨Nat.zero_le _, Nat.zero_le _⟩ ?_
        refine gw_if_eq C 81 d_Rings_wishAll_50 (by decide) (fun hc => ?_) (fun hc => ?_)
        · replace hf2 := mx_t hc hf2
          obtain ⟨x81, ex81, hf2⟩ := mx_lt hf2
          refine gw_iinc C 6 [(6, .int x81), (0, .ref (ly_a L o)), (1, .ref (ly_a L o1)), (2, .ref (ly_a L o2)), (3, .int s2.1), (4, .int s22.1), (5, .int q14)] d_Rings_wishAll_81 rfl (by rw [ex81]; rfl) (by decide) rfl ?_
          refine gw_goto C 22 d_Rings_wishAll_84 (by decide) ?_
          exact gw_go [1, 2, 3, 4, 5, 6, 0] (ih22 (s22.1, x81) (hb22.trans hf2.symm)) rfl
        · replace hf2 := mx_f hc hf2
          refine gw_aload_n C 1 d_Rings_wishAll_53 rfl rfl ?_
          refine gw_iload_n C 3 d_Rings_wishAll_54 rfl rfl ?_
          refine gw_aload_n C 2 d_Rings_wishAll_55 rfl rfl ?_
          refine gw_getAN C 0 d_Rings_wishAll_56 k_o2_0 (by decide) i_Hands rfl rfl (by decide) qw_187 rfl rfl (o2 + 1) rfl ?_
          refine gw_iload C 6 d_Rings_wishAll_59 rfl ?_
          obtain ⟨q61, hq61, hf2⟩ := mx_bd hf2
          refine gw_callI C (c_Row_at _ hg k_o2_1 hq61) d_Rings_wishAll_61 1 qw_806 qw_489 qw_490 qw_4 qw_491 k_o2_1 (by decide) rfl hd_Row_at rfl rfl (Nat.le_of_ble_eq_true rfl) ⟨rfl, rfl, Nat.le_of_ble_eq_true rfl, Nat.le_of_ble_eq_true rfl⟩ ⟨Nat.zero_le _, Nat.zero_le _⟩ ?_
          obtain ⟨q64, hq64, hf2⟩ := mx_bd hf2
          refine gw_callI C (c_Island_valueFor _ hg k_o1_0 hq64) d_Rings_wishAll_64 2 qw_807 qw_757 qw_758 qw_6 qw_759 k_o1_0 (by decide) rfl hd_Island_valueFor rfl rfl (Nat.le_of_ble_eq_true rfl) ⟨rfl, rfl, Nat.le_of_ble_eq_true rfl, Nat.le_of_ble_eq_true rfl⟩ ⟨Nat.zero_le _, Nat.zero_le _⟩ ?_
          refine gw_iload C 5 d_Rings_wishAll_67 rfl ?_
          refine gw_icmp_le C 81 d_Rings_wishAll_69 (by decide) (fun hc => ?_) (fun hc => ?_)
          · replace hf2 := mx_t hc hf2
            obtain ⟨x81, ex81, hf2⟩ := mx_lt hf2
            refine gw_iinc C 6 [(6, .int x81), (0, .ref (ly_a L o)), (1, .ref (ly_a L o1)), (2, .ref (ly_a L o2)), (3, .int s2.1), (4, .int s22.1), (5, .int q14)] d_Rings_wishAll_81 rfl (by rw [ex81]; rfl) (by decide) rfl ?_
            refine gw_goto C 22 d_Rings_wishAll_84 (by decide) ?_
            exact gw_go [1, 2, 3, 4, 5, 6, 0] (ih22 (s22.1, x81) (hb22.trans hf2.symm)) rfl
          · replace hf2 := mx_f hc hf2
            refine gw_iload C 4 d_Rings_wishAll_72 rfl ?_
            refine gw_iconst C (1 : Int32) d_Rings_wishAll_74 (by decide) ?_
            refine gw_iload C 6 d_Rings_wishAll_75 rfl ?_
            refine gw_ishl C d_Rings_wishAll_77 ?_
            refine gw_ior C d_Rings_wishAll_78 ?_
            obtain ⟨x79, ex79, hf2⟩ := mx_lt hf2
            refine gw_topi ex79 ?_
            refine gw_istore C [(4, .int x79), (0, .ref (ly_a L o)), (1, .ref (ly_a L o1)), (2, .ref (ly_a L o2)), (3, .int s2.1), (5, .int q14), (6, .int s22.2)] d_Rings_wishAll_79 (by decide) rfl ?_
            obtain ⟨x81, ex81, hf2⟩ := mx_lt hf2
            refine gw_iinc C 6 [(6, .int x81), (4, .int x79), (0, .ref (ly_a L o)), (1, .ref (ly_a L o1)), (2, .ref (ly_a L o2)), (3, .int s2.1), (5, .int q14)] d_Rings_wishAll_81 rfl (by rw [ex81]; rfl) (by decide) rfl ?_
            refine gw_goto C 22 d_Rings_wishAll_84 (by decide) ?_
            exact gw_go [2, 3, 4, 5, 1, 6, 0] (ih22 (x79, x81) (hb22.trans hf2.symm)) rfl

/-! NameHat.Rings.closes(LNameHat.Rings;III)Z -/
abbrev b_Rings_closes : ByteArray := prog_7_method_4_code
def y_Rings_closes : MethodName := ⟨"NameHat$Rings", "closes", "(LNameHat$Rings;III)Z"⟩
abbrev rm_Rings_closes (d : Nat) : Room := { frames := d + 1, cells := 0, slots := 0, locals := 60 * (d + 1) }
theorem hd_Rings_closes : y_Rings_closes.cls ≠ "java/lang/invoke/MethodHandle" ∧ y_Rings_closes.cls ≠ "java/lang/invoke/VarHandle" ∧ (parseMethodDescriptor y_Rings_closes.desc).map (fun d => d.parameters.length) = some 4 := by decide +kernel
theorem d_Rings_closes_0 : decode b_Rings_closes 0 = .ok (.aload_n 0, 1) := by decide +kernel
theorem d_Rings_closes_1 : decode b_Rings_closes 1 = .ok (.getfield 20, 3) := by decide +kernel
theorem d_Rings_closes_4 : decode b_Rings_closes 4 = .ok (.iconst 0, 1) := by decide +kernel
theorem d_Rings_closes_5 : decode b_Rings_closes 5 = .ok (.invokevirtual 70, 3) := by decide +kernel
theorem d_Rings_closes_8 : decode b_Rings_closes 8 = .ok (.istore 4, 2) := by decide +kernel
theorem d_Rings_closes_10 : decode b_Rings_closes 10 = .ok (.aload_n 0, 1) := by decide +kernel
theorem d_Rings_closes_11 : decode b_Rings_closes 11 = .ok (.getfield 23, 3) := by decide +kernel
theorem d_Rings_closes_14 : decode b_Rings_closes 14 = .ok (.aload_n 0, 1) := by decide +kernel
theorem d_Rings_closes_15 : decode b_Rings_closes 15 = .ok (.getfield 20, 3) := by decide +kernel
theorem d_Rings_closes_18 : decode b_Rings_closes 18 = .ok (.iload_n 1, 1) := by decide +kernel
theorem d_Rings_closes_19 : decode b_Rings_closes 19 = .ok (.iconst 1, 1) := by decide +kernel
theorem d_Rings_closes_20 : decode b_Rings_closes 20 = .ok (.isub, 1) := by decide +kernel
theorem d_Rings_closes_21 : decode b_Rings_closes 21 = .ok (.invokevirtual 70, 3) := by decide +kernel
theorem d_Rings_closes_24 : decode b_Rings_closes 24 = .ok (.invokevirtual 70, 3) := by decide +kernel
theorem d_Rings_closes_27 : decode b_Rings_closes 27 = .ok (.istore 5, 2) := by decide +kernel
theorem d_Rings_closes_29 : decode b_Rings_closes 29 = .ok (.iload_n 1, 1) := by decide +kernel
theorem d_Rings_closes_30 : decode b_Rings_closes 30 = .ok (.iload_n 2, 1) := by decide +kernel
theorem d_Rings_closes_31 : decode b_Rings_closes 31 = .ok (.if_icmp .ge 9, 3) := by decide +kernel
theorem d_Rings_closes_34 : decode b_Rings_closes 34 = .ok (.iload_n 1, 1) := by decide +kernel
theorem d_Rings_closes_35 : decode b_Rings_closes 35 = .ok (.bipush 8, 2) := by decide +kernel
theorem d_Rings_closes_37 : decode b_Rings_closes 37 = .ok (.if_icmp .lt 20, 3) := by decide +kernel
theorem d_Rings_closes_40 : decode b_Rings_closes 40 = .ok (.iload 5, 2) := by decide +kernel
theorem d_Rings_closes_42 : decode b_Rings_closes 42 = .ok (.iload 4, 2) := by decide +kernel
theorem d_Rings_closes_44 : decode b_Rings_closes 44 = .ok (.ishr, 1) := by decide +kernel
theorem d_Rings_closes_45 : decode b_Rings_closes 45 = .ok (.iconst 1, 1) := by decide +kernel
theorem d_Rings_closes_46 : decode b_Rings_closes 46 = .ok (.iand, 1) := by decide +kernel
theorem d_Rings_closes_47 : decode b_Rings_closes 47 = .ok (.iconst 1, 1) := by decide +kernel
theorem d_Rings_closes_48 : decode b_Rings_closes 48 = .ok (.if_icmp .ne 7, 3) := by decide +kernel
theorem d_Rings_closes_51 : decode b_Rings_closes 51 = .ok (.iconst 1, 1) := by decide +kernel
theorem d_Rings_closes_52 : decode b_Rings_closes 52 = .ok (.goto 4, 3) := by decide +kernel
theorem d_Rings_closes_55 : decode b_Rings_closes 55 = .ok (.iconst 0, 1) := by decide +kernel
theorem d_Rings_closes_56 : decode b_Rings_closes 56 = .ok (.ireturn, 1) := by decide +kernel
theorem d_Rings_closes_57 : decode b_Rings_closes 57 = .ok (.iload 4, 2) := by decide +kernel
theorem d_Rings_closes_59 : decode b_Rings_closes 59 = .ok (.iconst 1, 1) := by decide +kernel
theorem d_Rings_closes_60 : decode b_Rings_closes 60 = .ok (.iadd, 1) := by decide +kernel
theorem d_Rings_closes_61 : decode b_Rings_closes 61 = .ok (.istore 6, 2) := by decide +kernel
theorem d_Rings_closes_63 : decode b_Rings_closes 63 = .ok (.iload 6, 2) := by decide +kernel
theorem d_Rings_closes_65 : decode b_Rings_closes 65 = .ok (.bipush 8, 2) := by decide +kernel
theorem d_Rings_closes_67 : decode b_Rings_closes 67 = .ok (.if_icmp .ge 55, 3) := by decide +kernel
theorem d_Rings_closes_70 : decode b_Rings_closes 70 = .ok (.iload 5, 2) := by decide +kernel
theorem d_Rings_closes_72 : decode b_Rings_closes 72 = .ok (.iload_n 3, 1) := by decide +kernel
theorem d_Rings_closes_73 : decode b_Rings_closes 73 = .ok (.iconst (-1), 1) := by decide +kernel
theorem d_Rings_closes_74 : decode b_Rings_closes 74 = .ok (.ixor, 1) := by decide +kernel
theorem d_Rings_closes_75 : decode b_Rings_closes 75 = .ok (.iand, 1) := by decide +kernel
theorem d_Rings_closes_76 : decode b_Rings_closes 76 = .ok (.iload 6, 2) := by decide +kernel
theorem d_Rings_closes_78 : decode b_Rings_closes 78 = .ok (.ishr, 1) := by decide +kernel
theorem d_Rings_closes_79 : decode b_Rings_closes 79 = .ok (.iconst 1, 1) := by decide +kernel
theorem d_Rings_closes_80 : decode b_Rings_closes 80 = .ok (.iand, 1) := by decide +kernel
theorem d_Rings_closes_81 : decode b_Rings_closes 81 = .ok (.ifCond .ne 6, 3) := by decide +kernel
theorem d_Rings_closes_84 : decode b_Rings_closes 84 = .ok (.goto 32, 3) := by decide +kernel
theorem d_Rings_closes_87 : decode b_Rings_closes 87 = .ok (.aload_n 0, 1) := by decide +kernel
theorem d_Rings_closes_88 : decode b_Rings_closes 88 = .ok (.getfield 20, 3) := by decide +kernel
theorem d_Rings_closes_91 : decode b_Rings_closes 91 = .ok (.iload_n 1, 1) := by decide +kernel
theorem d_Rings_closes_92 : decode b_Rings_closes 92 = .ok (.iload 6, 2) := by decide +kernel
theorem d_Rings_closes_94 : decode b_Rings_closes 94 = .ok (.invokevirtual 42, 3) := by decide +kernel
theorem d_Rings_closes_97 : decode b_Rings_closes 97 = .ok (.aload_n 0, 1) := by decide +kernel
theorem d_Rings_closes_98 : decode b_Rings_closes 98 = .ok (.iload_n 1, 1) := by decide +kernel
theorem d_Rings_closes_99 : decode b_Rings_closes 99 = .ok (.iconst 1, 1) := by decide +kernel
theorem d_Rings_closes_100 : decode b_Rings_closes 100 = .ok (.iadd, 1) := by decide +kernel
theorem d_Rings_closes_101 : decode b_Rings_closes 101 = .ok (.iload_n 2, 1) := by decide +kernel
theorem d_Rings_closes_102 : decode b_Rings_closes 102 = .ok (.iload_n 3, 1) := by decide +kernel
theorem d_Rings_closes_103 : decode b_Rings_closes 103 = .ok (.iconst 1, 1) := by decide +kernel
theorem d_Rings_closes_104 : decode b_Rings_closes 104 = .ok (.iload 6, 2) := by decide +kernel
theorem d_Rings_closes_106 : decode b_Rings_closes 106 = .ok (.ishl, 1) := by decide +kernel
theorem d_Rings_closes_107 : decode b_Rings_closes 107 = .ok (.ior, 1) := by decide +kernel
theorem d_Rings_closes_108 : decode b_Rings_closes 108 = .ok (.invokestatic 46, 3) := by decide +kernel
theorem d_Rings_closes_111 : decode b_Rings_closes 111 = .ok (.ifCond .eq 5, 3) := by decide +kernel
theorem d_Rings_closes_114 : decode b_Rings_closes 114 = .ok (.iconst 1, 1) := by decide +kernel
theorem d_Rings_closes_115 : decode b_Rings_closes 115 = .ok (.ireturn, 1) := by decide +kernel
theorem d_Rings_closes_116 : decode b_Rings_closes 116 = .ok (.iinc 6 1, 3) := by decide +kernel
theorem d_Rings_closes_119 : decode b_Rings_closes 119 = .ok (.goto (-56), 3) := by decide +kernel
theorem d_Rings_closes_122 : decode b_Rings_closes 122 = .ok (.iconst 0, 1) := by decide +kernel
theorem d_Rings_closes_123 : decode b_Rings_closes 123 = .ok (.ireturn, 1) := by decide +kernel
noncomputable def f_Rings_closes_J40 (z : Nat → Nat) (rc : Mm → Nat → Int32 → Int32 → Int32 → Option (Int32 × Mm)) (o1 : Nat) (v4 : Int32) (v5 : Int32) (m40 : Mm) : Option (Int32 × Mm) :=
  if ((v5 >>> (v4 &&& 31)) &&& (1 : Int32)) = (1 : Int32) then (
    some ((1 : Int32), m40)
  ) else (
    some ((0 : Int32), m40)
  )
noncomputable def f_Rings_closes_L63 (z : Nat → Nat) (rc : Mm → Nat → Int32 → Int32 → Int32 → Option (Int32 × Mm)) (o1 : Nat) (v1 : Int32) (v2 : Int32) (v3 : Int32) (v5 : Int32) (s63 : Int32 × Mm) : Option ((Int32 × Mm) ⊕ ((Int32 × Mm) ⊕ (Mm))) :=
  if (8 : Int32) ≤ s63.1 then (
    some (.inr (.inr s63.2))
  ) else (
    if (((v5 &&& (v3 ^^^ ((-1) : Int32))) >>> (s63.1 &&& 31)) &&& (1 : Int32)) = 0 then (
      mm_lt (s63.1 + (1 : Int32)) fun x116 =>
      some (.inl (x116, s63.2))
    ) else (
      (f_Row_put z s63.2 (o1 + 3) v1 s63.1).bind fun q94 =>
      (rc q94 o1 (v1 + (1 : Int32)) v2 (v3 ||| ((1 : Int32) <<< (s63.1 &&& 31)))).bind fun q108 =>
      if q108.1 = 0 then (
        mm_lt (s63.1 + (1 : Int32)) fun x116 =>
        some (.inl (x116, q108.2))
      ) else (
        some (.inr (.inl ((1 : Int32), q108.2)))
      )
    )
  )
noncomputable def f_Rings_closes_B (z : Nat → Nat) (rc : Mm → Nat → Int32 → Int32 → Int32 → Option (Int32 × Mm)) (σ : Mm) (o1 : Nat) (p2 : Int32) (p3 : Int32) (p4 : Int32) : Option (Int32 × Mm) :=
  (f_Row_at z σ (o1 + 3) (0 : Int32)).bind fun q5 =>
  (f_Row_at z σ (o1 + 3) (p2 - (1 : Int32))).bind fun q21 =>
  (f_Row_at z σ (o1 + 5) q21).bind fun q24 =>
  if p3 ≤ p2 then (
    f_Rings_closes_J40 z rc o1 q5 q24 σ
  ) else (
    if p2 < (8 : Int32) then (
      mm_lt ((q5 + (1 : Int32))) fun x61 =>
      (mm_lp (f_Rings_closes_L63 z rc o1 p2 p3 p4 q24) (x61, σ)).bind (Sum.elim (fun r9 => some r9) (fun x63_ =>
        some ((0 : Int32), x63_)))
    ) else (
      f_Rings_closes_J40 z rc o1 q5 q24 σ
    )
  )
noncomputable def f_Rings_closes (z : Nat → Nat) : Nat → Mm → Nat → Int32 → Int32 → Int32 → Option (Int32 × Mm)
  | 0 => fun _ _ _ _ _ => none
  | d + 1 => f_Rings_closes_B z (f_Rings_closes z d)
set_option maxHeartbeats 4000000 in
set_option maxRecDepth 100000 in
theorem c_Rings_closes (l : Launch) {L : Ly} (hg : gd_ok L) : ∀ (d : Nat) {σ : Mm} {o1 : Nat} {p2 : Int32} {p3 : Int32} {p4 : Int32} (k_o1_0 : ly_k L o1 = 5) {res : Int32 × Mm} (hf0 : f_Rings_closes (ly_z L) d σ o1 p2 p3 p4 = some res), CtI l y_Rings_closes b_Rings_closes 7 (some .boolean) (rm_Rings_closes d) L [.ref (ly_a L o1), .int p2, .int p3, .int p4] σ res.1 res.2 := by
  intro d
  induction d with
  | zero =>
    intro σ o1 p2 p3 p4 k_o1_0 res hf0
    cases hf0
  | succ d IH =>
    intro σ o1 p2 p3 p4 k_o1_0 res hf0
    refine ct_z hg (by decide) (Nat.le_of_ble_eq_true rfl) ?_
    intro E A Q hE C hN
    subst hE
    have k_o1_3 : ly_k L (o1 + 3) = 0 := gd_Rings_path hg k_o1_0
    have k_o1_5 : ly_k L (o1 + 5) = 0 := gd_Rings_wishes hg k_o1_0
    replace hf0 : f_Rings_closes_B (ly_z L) (f_Rings_closes (ly_z L) d) σ o1 p2 p3 p4 = some res := hf0
    unfold f_Rings_closes_B at hf0
    show GW E L A 7 0 0 Q σ 0 [(0, .ref (ly_a L o1)), (1, .int p2), (2, .int p3), (3, .int p4)] []
    have hj40 : ∀ (v4 : Int32) (v5 : Int32) (m40 : Mm), f_Rings_closes_J40 (ly_z L) (f_Rings_closes (ly_z L) d) o1 v4 v5 m40 = some res → GW E L A 7 0 0 Q m40 40 [(4, .int v4), (5, .int v5)] [] := by
      intro v4 v5 m40 hf0
      unfold f_Rings_closes_J40 at hf0
      refine gw_iload C 1 d_Rings_closes_40 rfl ?_
      refine gw_iload C 0 d_Rings_closes_42 rfl ?_
      refine gw_ishr C d_Rings_closes_44 ?_
      refine gw_iconst C (1 : Int32) d_Rings_closes_45 (by decide) ?_
      refine gw_iand C d_Rings_closes_46 ?_
      refine gw_iconst C (1 : Int32) d_Rings_closes_47 (by decide) ?_
      refine gw_icmp_ne C 55 d_Rings_closes_48 (by decide) (fun hc => ?_) (fun hc => ?_)
      · replace hf0 := mx_f hc hf0
        refine gw_iconst C (0 : Int32) d_Rings_closes_55 (by decide) ?_
        exact en_z hN (Or.inl rfl) hf0 d_Rings_closes_56
      · replace hf0 := mx_t hc hf0
        refine gw_iconst C (1 : Int32) d_Rings_closes_51 (by decide) ?_
        refine gw_goto C 56 d_Rings_closes_52 (by decide) ?_
        exact en_z hN (Or.inr rfl) hf0 d_Rings_closes_56
    refine gw_aload_n C 0 d_Rings_closes_0 rfl rfl ?_
    refine gw_getA C 2 d_Rings_closes_1 k_o1_0 (by decide) i_Rings rfl rfl (by decide) qw_332 rfl rfl (o1 + 3) rfl ?_
    refine gw_iconst C (0 : Int32) d_Rings_closes_4 (by decide) ?_
    obtain ⟨q5, hq5, hf0⟩ := mx_bd hf0
    refine gw_callI C (c_Row_at _ hg k_o1_3 hq5) d_Rings_closes_5 1 qw_806 qw_489 qw_490 qw_4 qw_491 k_o1_3 (by decide) rfl hd_Row_at rfl rfl (Nat.le_of_ble_eq_true rfl) ⟨rfl, rfl, by dsimp only [rm_Row_at, rm_Rings_closes]; omega, by dsimp only [rm_Row_at, rm_Rings_closes]; omega⟩ ⟨Nat.zero_le _, Nat.zero_le _⟩ ?_
    refine gw_istore C [(4, .int q5), (0, .ref (ly_a L o1)), (1, .int p2), (2, .int p3), (3, .int p4)] d_Rings_closes_8 (by decide) rfl ?_
    refine gw_aload_n C 1 d_Rings_closes_10 rfl rfl ?_
    refine gw_getA C 3 d_Rings_closes_11 k_o1_0 (by decide) i_Rings rfl rfl (by decide) qw_333 rfl rfl (o1 + 5) rfl ?_
    refine gw_aload_n C 1 d_Rings_closes_14 rfl rfl ?_
    refine gw_getA C 2 d_Rings_closes_15 k_o1_0 (by decide) i_Rings rfl rfl (by decide) qw_332 rfl rfl (o1 + 3) rfl ?_
    refine gw_iload_n C 2 d_Rings_closes_18 rfl rfl ?_
    refine gw_iconst C (1 : Int32) d_Rings_closes_19 (by decide) ?_
    refine gw_isub C d_Rings_closes_20 ?_
    obtain ⟨q21, hq21, hf0⟩ := mx_bd hf0
    refine gw_callI C (c_Row_at _ hg k_o1_3 hq21) d_Rings_closes_21 1 qw_806 qw_489 qw_490 qw_4 qw_491 k_o1_3 (by decide) rfl hd_Row_at rfl rfl (Nat.le_of_ble_eq_true rfl) ⟨rfl, rfl, by dsimp only [rm_Row_at, rm_Rings_closes]; omega, by dsimp only [rm_Row_at, rm_Rings_closes]; omega⟩ ⟨Nat.zero_le _, Nat.zero_le _⟩ ?_
    obtain ⟨q24, hq24, hf0⟩ := mx_bd hf0
    refine gw_callI C (c_Row_at _ hg k_o1_5 hq24) d_Rings_closes_24 1 qw_806 qw_489 qw_490 qw_4 qw_491 k_o1_5 (by decide) rfl hd_Row_at rfl rfl (Nat.le_of_ble_eq_true rfl) ⟨rfl, rfl, by dsimp only [rm_Row_at, rm_Rings_closes]; omega, by dsimp only [rm_Row_at, rm_Rings_closes]; omega⟩ ⟨Nat.zero_le _, Nat.zero_le _⟩ ?_
    refine gw_istore C [(5, .int q24), (4, .int q5), (0, .ref (ly_a L o1)), (1, .int p2), (2, .int p3), (3, .int p4)] d_Rings_closes_27 (by decide) rfl ?_
    refine gw_iload_n C 3 d_Rings_closes_29 rfl rfl ?_
    refine gw_iload_n C 4 d_Rings_closes_30 rfl rfl ?_
    refine gw_icmp_ge C 40 d_Rings_closes_31 (by decide) (fun hc => ?_) (fun hc => ?_)
    · replace hf0 := mx_t hc hf0
      exact gw_go [1, 0] (hj40 _ _ _ hf0) rfl
    · replace hf0 := mx_f hc hf0
      refine gw_iload_n C 3 d_Rings_closes_34 rfl rfl ?_
      refine gw_bipush C (8 : Int32) d_Rings_closes_35 (by decide) ?_
      refine gw_icmp_lt C 57 d_Rings_closes_37 (by decide) (fun hc => ?_) (fun hc => ?_)
      · replace hf0 := mx_t hc hf0
        refine gw_iload C 1 d_Rings_closes_57 rfl ?_
        refine gw_iconst C (1 : Int32) d_Rings_closes_59 (by decide) ?_
        refine gw_iadd C d_Rings_closes_60 ?_
        obtain ⟨x61, ex61, hf0⟩ := mx_lt hf0
        refine gw_topi ex61 ?_
        refine gw_istore C [(6, .int x61), (5, .int q24), (4, .int q5), (0, .ref (ly_a L o1)), (1, .int p2), (2, .int p3), (3, .int p4)] d_Rings_closes_61 (by decide) rfl ?_
        obtain ⟨q63, hq63, hf0⟩ := mx_bd hf0
        have hk63 : ∀ x63_, q63 = .inr x63_ → GW E L A 7 0 0 Q x63_ 122 [] [] := by
          intro x63_ hx9
          subst hx9
          replace hf0 := mx_sr hf0
          refine gw_iconst C (0 : Int32) d_Rings_closes_122 (by decide) ?_
          exact en_z hN (Or.inl rfl) hf0 d_Rings_closes_123
        refine gw_sub [3, 4, 5, 6, 1, 0] (lv' := [(0, .ref (ly_a L o1)), (1, .int p2), (2, .int p3), (3, .int p4), (5, .int q24), (6, .int x61)]) rfl ?_
        refine mm_rule hq63 (P := fun (s63 : Int32 × Mm) => GW E L A 7 0 0 Q s63.2 63 [(0, .ref (ly_a L o1)), (1, .int p2), (2, .int p3), (3, .int p4), (5, .int q24), (6, .int s63.1)] []) ?_
        intro s63 ih63 hx63 ⟨w63, hb63⟩
        have hf1 := hb63
        unfold f_Rings_closes_L63 at hf1
        refine gw_iload C 5 d_Rings_closes_63 rfl ?_
        refine gw_bipush C (8 : Int32) d_Rings_closes_65 (by decide) ?_
        refine gw_icmp_ge C 122 d_Rings_closes_67 (by decide) (fun hc => ?_) (fun hc => ?_)
        · replace hf1 := mx_t hc hf1
          exact gw_go [] (hk63 s63.2 (hx63 _ (hb63.trans hf1.symm)).symm) rfl
        · replace hf1 := mx_f hc hf1
          refine gw_iload C 4 d_Rings_closes_70 rfl ?_
          refine gw_iload_n C 3 d_Rings_closes_72 rfl rfl ?_
          refine gw_iconst C ((-1) : Int32) d_Rings_closes_73 (by decide) ?_
          refine gw_ixor C d_Rings_closes_74 ?_
          refine gw_iand C d_Rings_closes_75 ?_
          refine gw_iload C 5 d_Rings_closes_76 rfl ?_
          refine gw_ishr C d_Rings_closes_78 ?_
          refine gw_iconst C (1 : Int32) d_Rings_closes_79 (by decide) ?_
          refine gw_iand C d_Rings_closes_80 ?_
          refine gw_if_ne C 87 d_Rings_closes_81 (by decide) (fun hc => ?_) (fun hc => ?_)
          · replace hf1 := mx_f hc hf1
            refine gw_aload_n C 0 d_Rings_closes_87 rfl rfl ?_
            refine gw_getA C 2 d_Rings_closes_88 k_o1_0 (by decide) i_Rings rfl rfl (by decide) qw_332 rfl rfl (o1 + 3) rfl ?_
            refine gw_iload_n C 1 d_Rings_closes_91 rfl rfl ?_
            refine gw_iload C 5 d_Rings_closes_92 rfl ?_
            obtain ⟨q94, hq94, hf1⟩ := mx_bd hf1
            refine gw_callV C (c_Row_put _ hg k_o1_3 hq94) d_Rings_closes_94 2 qw_808 qw_461 qw_462 qw_4 qw_463 k_o1_3 (by decide) rfl hd_Row_put rfl rfl (Nat.le_of_ble_eq_true rfl) ⟨rfl, rfl, by dsimp only [rm_Row_put, rm_Rings_closes]; omega, by dsimp only [rm_Row_put, rm_Rings_closes]; omega⟩ ⟨Nat.zero_le _, Nat.zero_le _⟩ ?_
            refine gw_aload_n C 0 d_Rings_closes_97 rfl rfl ?_
            refine gw_iload_n C 1 d_Rings_closes_98 rfl rfl ?_
            refine gw_iconst C (1 : Int32) d_Rings_closes_99 (by decide) ?_
            refine gw_iadd C d_Rings_closes_100 ?_
            refine gw_iload_n C 2 d_Rings_closes_101 rfl rfl ?_
            refine gw_iload_n C 3 d_Rings_closes_102 rfl rfl ?_
            refine gw_iconst C (1 : Int32) d_Rings_closes_103 (by decide) ?_
            refine gw_iload C 5 d_Rings_closes_104 rfl ?_
            refine gw_ishl C d_Rings_closes_106 ?_
            refine gw_ior C d_Rings_closes_107 ?_
            obtain ⟨q108, hq108, hf1⟩ := mx_bd hf1
            refine gw_callIS C (IH k_o1_0 hq108) d_Rings_closes_108 4 qw_809 qw_810 qw_9 qw_811 hd_Rings_closes rfl rfl (Nat.le_of_ble_eq_true rfl) ⟨rfl, rfl, by dsimp only [rm_Rings_closes, rm_Rings_closes]; omega, by dsimp only [rm_Rings_closes, rm_Rings_closes]; omega⟩ ⟨Nat.zero_le _, Nat.zero_le _⟩ ?_
            refine gw_if_eq C 116 d_Rings_closes_111 (by decide) (fun hc => ?_) (fun hc => ?_)
            · replace hf1 := mx_t hc hf1
              obtain ⟨x116, ex116, hf1⟩ := mx_lt hf1
              refine gw_iinc C 5 [(6, .int x116), (0, .ref (ly_a L o1)), (1, .int p2), (2, .int p3), (3, .int p4), (5, .int q24)] d_Rings_closes_116 rfl (by rw [ex116]; rfl) (by decide) rfl ?_
              refine gw_goto C 63 d_Rings_closes_119 (by decide) ?_
              exact gw_go [1, 2, 3, 4, 5, 0] (ih63 (x116, q108.2) (hb63.trans hf1.symm)) rfl
            · replace hf1 := mx_f hc hf1
              refine gw_iconst C (1 : Int32) d_Rings_closes_114 (by decide) ?_
              have hr63 := hx63 _ (hb63.trans hf1.symm)
              subst hr63
              replace hf0 := mx_sl hf0
              exact en_z hN (Or.inr rfl) hf0 d_Rings_closes_115
          · replace hf1 := mx_t hc hf1
            refine gw_goto C 116 d_Rings_closes_84 (by decide) ?_
            obtain ⟨x116, ex116, hf1⟩ := mx_lt hf1
            refine gw_iinc C 5 [(6, .int x116), (0, .ref (ly_a L o1)), (1, .int p2), (2, .int p3), (3, .int p4), (5, .int q24)] d_Rings_closes_116 rfl (by rw [ex116]; rfl) (by decide) rfl ?_
            refine gw_goto C 63 d_Rings_closes_119 (by decide) ?_
            exact gw_go [1, 2, 3, 4, 5, 0] (ih63 (x116, s63.2) (hb63.trans hf1.symm)) rfl
      · replace hf0 := mx_f hc hf0
        exact gw_go [1, 0] (hj40 _ _ _ hf0) rfl

/-! NameHat.Rings.find(LNameHat.Island;LNameHat.Hands;)I -/
abbrev b_Rings_find : ByteArray := prog_7_method_2_code
def y_Rings_find : MethodName := ⟨"NameHat$Rings", "find", "(LNameHat$Island;LNameHat$Hands;)I"⟩
abbrev rm_Rings_find : Room := { frames := 11, cells := 0, slots := 0, locals := 626 }
theorem hd_Rings_find : y_Rings_find.cls ≠ "java/lang/invoke/MethodHandle" ∧ y_Rings_find.cls ≠ "java/lang/invoke/VarHandle" ∧ (parseMethodDescriptor y_Rings_find.desc).map (fun d => d.parameters.length) = some 2 := by decide +kernel
theorem d_Rings_find_0 : decode b_Rings_find 0 = .ok (.aload_n 0, 1) := by decide +kernel
theorem d_Rings_find_1 : decode b_Rings_find 1 = .ok (.aload_n 1, 1) := by decide +kernel
theorem d_Rings_find_2 : decode b_Rings_find 2 = .ok (.aload_n 2, 1) := by decide +kernel
theorem d_Rings_find_3 : decode b_Rings_find 3 = .ok (.invokevirtual 26, 3) := by decide +kernel
theorem d_Rings_find_6 : decode b_Rings_find 6 = .ok (.iconst 2, 1) := by decide +kernel
theorem d_Rings_find_7 : decode b_Rings_find 7 = .ok (.istore_n 3, 1) := by decide +kernel
theorem d_Rings_find_8 : decode b_Rings_find 8 = .ok (.iload_n 3, 1) := by decide +kernel
theorem d_Rings_find_9 : decode b_Rings_find 9 = .ok (.aload_n 1, 1) := by decide +kernel
theorem d_Rings_find_10 : decode b_Rings_find 10 = .ok (.getfield 30, 3) := by decide +kernel
theorem d_Rings_find_13 : decode b_Rings_find 13 = .ok (.getfield 36, 3) := by decide +kernel
theorem d_Rings_find_16 : decode b_Rings_find 16 = .ok (.if_icmp .gt 71, 3) := by decide +kernel
theorem d_Rings_find_19 : decode b_Rings_find 19 = .ok (.iconst 0, 1) := by decide +kernel
theorem d_Rings_find_20 : decode b_Rings_find 20 = .ok (.istore 4, 2) := by decide +kernel
theorem d_Rings_find_22 : decode b_Rings_find 22 = .ok (.iload 4, 2) := by decide +kernel
theorem d_Rings_find_24 : decode b_Rings_find 24 = .ok (.aload_n 1, 1) := by decide +kernel
theorem d_Rings_find_25 : decode b_Rings_find 25 = .ok (.getfield 30, 3) := by decide +kernel
theorem d_Rings_find_28 : decode b_Rings_find 28 = .ok (.getfield 36, 3) := by decide +kernel
theorem d_Rings_find_31 : decode b_Rings_find 31 = .ok (.if_icmp .ge 50, 3) := by decide +kernel
theorem d_Rings_find_34 : decode b_Rings_find 34 = .ok (.aload_n 0, 1) := by decide +kernel
theorem d_Rings_find_35 : decode b_Rings_find 35 = .ok (.getfield 20, 3) := by decide +kernel
theorem d_Rings_find_38 : decode b_Rings_find 38 = .ok (.iconst 0, 1) := by decide +kernel
theorem d_Rings_find_39 : decode b_Rings_find 39 = .ok (.iload 4, 2) := by decide +kernel
theorem d_Rings_find_41 : decode b_Rings_find 41 = .ok (.invokevirtual 42, 3) := by decide +kernel
theorem d_Rings_find_44 : decode b_Rings_find 44 = .ok (.aload_n 0, 1) := by decide +kernel
theorem d_Rings_find_45 : decode b_Rings_find 45 = .ok (.iconst 1, 1) := by decide +kernel
theorem d_Rings_find_46 : decode b_Rings_find 46 = .ok (.iload_n 3, 1) := by decide +kernel
theorem d_Rings_find_47 : decode b_Rings_find 47 = .ok (.iconst 1, 1) := by decide +kernel
theorem d_Rings_find_48 : decode b_Rings_find 48 = .ok (.iload 4, 2) := by decide +kernel
theorem d_Rings_find_50 : decode b_Rings_find 50 = .ok (.ishl, 1) := by decide +kernel
theorem d_Rings_find_51 : decode b_Rings_find 51 = .ok (.invokestatic 46, 3) := by decide +kernel
theorem d_Rings_find_54 : decode b_Rings_find 54 = .ok (.ifCond .eq 21, 3) := by decide +kernel
theorem d_Rings_find_57 : decode b_Rings_find 57 = .ok (.aload_n 0, 1) := by decide +kernel
theorem d_Rings_find_58 : decode b_Rings_find 58 = .ok (.getfield 14, 3) := by decide +kernel
theorem d_Rings_find_61 : decode b_Rings_find 61 = .ok (.aload_n 0, 1) := by decide +kernel
theorem d_Rings_find_62 : decode b_Rings_find 62 = .ok (.getfield 20, 3) := by decide +kernel
theorem d_Rings_find_65 : decode b_Rings_find 65 = .ok (.invokevirtual 50, 3) := by decide +kernel
theorem d_Rings_find_68 : decode b_Rings_find 68 = .ok (.aload_n 0, 1) := by decide +kernel
theorem d_Rings_find_69 : decode b_Rings_find 69 = .ok (.iload_n 3, 1) := by decide +kernel
theorem d_Rings_find_70 : decode b_Rings_find 70 = .ok (.putfield 54, 3) := by decide +kernel
theorem d_Rings_find_73 : decode b_Rings_find 73 = .ok (.iload_n 3, 1) := by decide +kernel
theorem d_Rings_find_74 : decode b_Rings_find 74 = .ok (.ireturn, 1) := by decide +kernel
theorem d_Rings_find_75 : decode b_Rings_find 75 = .ok (.iinc 4 1, 3) := by decide +kernel
theorem d_Rings_find_78 : decode b_Rings_find 78 = .ok (.goto (-56), 3) := by decide +kernel
theorem d_Rings_find_81 : decode b_Rings_find 81 = .ok (.iinc 3 1, 3) := by decide +kernel
theorem d_Rings_find_84 : decode b_Rings_find 84 = .ok (.goto (-76), 3) := by decide +kernel
theorem d_Rings_find_87 : decode b_Rings_find 87 = .ok (.iconst (-1), 1) := by decide +kernel
theorem d_Rings_find_88 : decode b_Rings_find 88 = .ok (.ireturn, 1) := by decide +kernel
noncomputable def f_Rings_find_L22 (z : Nat → Nat) (o : Nat) (o1 : Nat) (o2 : Nat) (v3 : Int32) (s22 : Int32 × Mm) : Option ((Int32 × Mm) ⊕ ((Int32 × Mm) ⊕ (Mm))) :=
  if (s22.2.1 (o1 + 3) 1) ≤ s22.1 then (
    some (.inr (.inr s22.2))
  ) else (
    (f_Row_put z s22.2 (o + 3) (0 : Int32) s22.1).bind fun q41 =>
    (f_Rings_closes z 9 q41 o (1 : Int32) v3 ((1 : Int32) <<< (s22.1 &&& 31))).bind fun q51 =>
    if q51.1 = 0 then (
      mm_lt (s22.1 + (1 : Int32)) fun x75 =>
      some (.inl (x75, q51.2))
    ) else (
      (f_Row_copyFrom z q51.2 (o + 1) (o + 3)).bind fun q65 =>
      mm_lt (kI q65 o 1 v3) fun m70 =>
      some (.inr (.inl (v3, m70)))
    )
  )
noncomputable def f_Rings_find_L8 (z : Nat → Nat) (o : Nat) (o1 : Nat) (o2 : Nat) (s8 : Int32 × Mm) : Option ((Int32 × Mm) ⊕ ((Int32 × Mm) ⊕ (Mm))) :=
  if (s8.2.1 (o1 + 3) 1) < s8.1 then (
    some (.inr (.inr s8.2))
  ) else (
    (mm_lp (f_Rings_find_L22 z o o1 o2 s8.1) ((0 : Int32), s8.2)).bind (Sum.elim (fun r9 => some (.inr (.inl r9))) (fun x22_ =>
      mm_lt (s8.1 + (1 : Int32)) fun x81 =>
      some (.inl (x81, x22_))))
  )
noncomputable def f_Rings_find (z : Nat → Nat) (σ : Mm) (o : Nat) (o1 : Nat) (o2 : Nat) : Option (Int32 × Mm) :=
  (f_Rings_wishAll z σ o o1 o2).bind fun q3 =>
  (mm_lp (f_Rings_find_L8 z o o1 o2) ((2 : Int32), q3)).bind (Sum.elim (fun r9 => some r9) (fun x8_ =>
    some (((-1) : Int32), x8_)))
set_option maxHeartbeats 4000000 in
set_option maxRecDepth 100000 in
theorem c_Rings_find (l : Launch) {L : Ly} (hg : gd_ok L) {σ : Mm} {o : Nat} {o1 : Nat} {o2 : Nat} (k_o_0 : ly_k L o = 5) (k_o1_0 : ly_k L o1 = 2) (k_o2_0 : ly_k L o2 = 3) {res : Int32 × Mm} (hf0 : f_Rings_find (ly_z L) σ o o1 o2 = some res) : CtI l y_Rings_find b_Rings_find 5 (some .int) rm_Rings_find L [.ref (ly_a L o), .ref (ly_a L o1), .ref (ly_a L o2)] σ res.1 res.2 := by
  refine ct_i hg (by decide) (Nat.le_of_ble_eq_true rfl) ?_
  intro E A Q hE C hN
  subst hE
  have k_o1_3 : ly_k L (o1 + 3) = 1 := gd_Island_houses hg k_o1_0
  have k_o_3 : ly_k L (o + 3) = 0 := gd_Rings_path hg k_o_0
  have k_o_1 : ly_k L (o + 1) = 0 := gd_Rings_latest hg k_o_0
  unfold f_Rings_find at hf0
  show GW E L A 5 0 0 Q σ 0 [(0, .ref (ly_a L o)), (1, .ref (ly_a L o1)), (2, .ref (ly_a L o2))] []
  refine gw_aload_n C 0 d_Rings_find_0 rfl rfl ?_
  refine gw_aload_n C 1 d_Rings_find_1 rfl rfl ?_
  refine gw_aload_n C 2 d_Rings_find_2 rfl rfl ?_
  obtain ⟨q3, hq3, hf0⟩ := mx_bd hf0
  refine gw_callV C (c_Rings_wishAll _ hg k_o_0 k_o1_0 k_o2_0 hq3) d_Rings_find_3 2 qw_800 qw_802 qs_20 qw_9 qw_803 k_o_0 (by decide) rfl hd_Rings_wishAll rfl rfl (Nat.le_of_ble_eq_true rfl) ⟨rfl, rfl, Nat.le_of_ble_eq_true rfl, Nat.le_of_ble_eq_true rfl⟩ ⟨Nat.zero_le _, Nat.zero_le _⟩ ?_
  refine gw_iconst C (2 : Int32) d_Rings_find_6 (by decide) ?_
  refine gw_istore_n C [(3, .int (2 : Int32)), (0, .ref (ly_a L o)), (1, .ref (ly_a L o1)), (2, .ref (ly_a L o2))] d_Rings_find_7 rfl (by decide) rfl ?_
  obtain ⟨q8, hq8, hf0⟩ := mx_bd hf0
  have hk8 : ∀ x8_, q8 = .inr x8_ → GW E L A 5 0 0 Q x8_ 87 [] [] := by
    intro x8_ hx9
    subst hx9
    replace hf0 := mx_sr hf0
    refine gw_iconst C ((-1) : Int32) d_Rings_find_87 (by decide) ?_
    exact en_i hN hf0 d_Rings_find_88
  refine gw_sub [1, 2, 0] (lv' := [(0, .ref (ly_a L o)), (1, .ref (ly_a L o1)), (3, .int (2 : Int32))]) rfl ?_
  refine mm_rule hq8 (P := fun (s8 : Int32 × Mm) => GW E L A 5 0 0 Q s8.2 8 [(0, .ref (ly_a L o)), (1, .ref (ly_a L o1)), (3, .int s8.1)] []) ?_
  intro s8 ih8 hx8 ⟨w8, hb8⟩
  have hf1 := hb8
  unfold f_Rings_find_L8 at hf1
  refine gw_iload_n C 2 d_Rings_find_8 rfl rfl ?_
  refine gw_aload_n C 1 d_Rings_find_9 rfl rfl ?_
  refine gw_getAN C 1 d_Rings_find_10 k_o1_0 (by decide) i_Island rfl rfl (by decide) qw_132 rfl rfl (o1 + 3) rfl ?_
  refine gw_getIN C 1 d_Rings_find_13 k_o1_3 (by decide) i_Names rfl rfl (by decide) qw_111 rfl rfl ?_
  refine gw_icmp_gt C 87 d_Rings_find_16 (by decide) (fun hc => ?_) (fun hc => ?_)
  · replace hf1 := mx_t hc hf1
    exact gw_go [] (hk8 s8.2 (hx8 _ (hb8.trans hf1.symm)).symm) rfl
  · replace hf1 := mx_f hc hf1
    refine gw_iconst C (0 : Int32) d_Rings_find_19 (by decide) ?_
    refine gw_istore C [(4, .int (0 : Int32)), (0, .ref (ly_a L o)), (1, .ref (ly_a L o1)), (3, .int s8.1)] d_Rings_find_20 (by decide) rfl ?_
    obtain ⟨q22, hq22, hf1⟩ := mx_bd hf1
    have hk22 : ∀ x22_, q22 = .inr x22_ → GW E L A 5 0 0 Q x22_ 81 [(0, .ref (ly_a L o)), (1, .ref (ly_a L o1)), (3, .int s8.1)] [] := by
      intro x22_ hx9
      subst hx9
      replace hf1 := mx_sr hf1
      obtain ⟨x81, ex81, hf1⟩ := mx_lt hf1
      refine gw_iinc C 2 [(3, .int x81), (0, .ref (ly_a L o)), (1, .ref (ly_a L o1))] d_Rings_find_81 rfl (by rw [ex81]; rfl) (by decide) rfl ?_
      refine gw_goto C 8 d_Rings_find_84 (by decide) ?_
      exact gw_go [1, 2, 0] (ih8 (x81, x22_) (hb8.trans hf1.symm)) rfl
    refine gw_sub [1, 2, 3, 0] (lv' := [(0, .ref (ly_a L o)), (1, .ref (ly_a L o1)), (3, .int s8.1), (4, .int (0 : Int32))]) rfl ?_
    refine mm_rule hq22 (P := fun (s22 : Int32 × Mm) => GW E L A 5 0 0 Q s22.2 22 [(0, .ref (ly_a L o)), (1, .ref (ly_a L o1)), (3, .int s8.1), (4, .int s22.1)] []) ?_
    intro s22 ih22 hx22 ⟨w22, hb22⟩
    have hf2 := hb22
    unfold f_Rings_find_L22 at hf2
    refine gw_iload C 3 d_Rings_find_22 rfl ?_
    refine gw_aload_n C 1 d_Rings_find_24 rfl rfl ?_
    refine gw_getAN C 1 d_Rings_find_25 k_o1_0 (by decide) i_Island rfl rfl (by decide) qw_132 rfl rfl (o1 + 3) rfl ?_
    refine gw_getIN C 1 d_Rings_find_28 k_o1_3 (by decide) i_Names rfl rfl (by decide) qw_111 rfl rfl ?_
    refine gw_icmp_ge C 81 d_Rings_find_31 (by decide) (fun hc => ?_) (fun hc => ?_)
    · replace hf2 := mx_t hc hf2
      exact gw_go [0, 1, 2] (hk22 s22.2 (hx22 _ (hb22.trans hf2.symm)).symm) rfl
    · replace hf2 := mx_f hc hf2
      refine gw_aload_n C 0 d_Rings_find_34 rfl rfl ?_
      refine gw_getA C 2 d_Rings_find_35 k_o_0 (by decide) i_Rings rfl rfl (by decide) qw_332 rfl rfl (o + 3) rfl ?_
      refine gw_iconst C (0 : Int32) d_Rings_find_38 (by decide) ?_
      refine gw_iload C 3 d_Rings_find_39 rfl ?_
      obtain ⟨q41, hq41, hf2⟩ := mx_bd hf2
      refine gw_callV C (c_Row_put _ hg k_o_3 hq41) d_Rings_find_41 2 qw_808 qw_461 qw_462 qw_4 qw_463 k_o_3 (by decide) rfl hd_Row_put rfl rfl (Nat.le_of_ble_eq_true rfl) ⟨rfl, rfl, Nat.le_of_ble_eq_true rfl, Nat.le_of_ble_eq_true rfl⟩ ⟨Nat.zero_le _, Nat.zero_le _⟩ ?_
      refine gw_aload_n C 0 d_Rings_find_44 rfl rfl ?_
      refine gw_iconst C (1 : Int32) d_Rings_find_45 (by decide) ?_
      refine gw_iload_n C 2 d_Rings_find_46 rfl rfl ?_
      refine gw_iconst C (1 : Int32) d_Rings_find_47 (by decide) ?_
      refine gw_iload C 3 d_Rings_find_48 rfl ?_
      refine gw_ishl C d_Rings_find_50 ?_
      obtain ⟨q51, hq51, hf2⟩ := mx_bd hf2
      refine gw_callIS C (c_Rings_closes _ hg _ k_o_0 hq51) d_Rings_find_51 4 qw_809 qw_810 qw_9 qw_811 hd_Rings_closes rfl rfl (Nat.le_of_ble_eq_true rfl) ⟨rfl, rfl, Nat.le_of_ble_eq_true rfl, Nat.le_of_ble_eq_true rfl⟩ ⟨Nat.zero_le _, Nat.zero_le _⟩ ?_
      refine gw_if_eq C 75 d_Rings_find_54 (by decide) (fun hc => ?_) (fun hc => ?_)
      · replace hf2 := mx_t hc hf2
        obtain ⟨x75, ex75, hf2⟩ := mx_lt hf2
        refine gw_iinc C 3 [(4, .int x75), (0, .ref (ly_a L o)), (1, .ref (ly_a L o1)), (3, .int s8.1)] d_Rings_find_75 rfl (by rw [ex75]; rfl) (by decide) rfl ?_
        refine gw_goto C 22 d_Rings_find_78 (by decide) ?_
        exact gw_go [1, 2, 3, 0] (ih22 (x75, q51.2) (hb22.trans hf2.symm)) rfl
      · replace hf2 := mx_f hc hf2
        refine gw_aload_n C 0 d_Rings_find_57 rfl rfl ?_
        refine gw_getA C 0 d_Rings_find_58 k_o_0 (by decide) i_Rings rfl rfl (by decide) qw_328 rfl rfl (o + 1) rfl ?_
        refine gw_aload_n C 0 d_Rings_find_61 rfl rfl ?_
        refine gw_getA C 2 d_Rings_find_62 k_o_0 (by decide) i_Rings rfl rfl (by decide) qw_332 rfl rfl (o + 3) rfl ?_
        obtain ⟨q65, hq65, hf2⟩ := mx_bd hf2
        refine gw_callV C (c_Row_copyFrom _ hg k_o_1 k_o_3 hq65) d_Rings_find_65 1 qw_812 qw_682 qw_683 qw_4 qw_684 k_o_1 (by decide) rfl hd_Row_copyFrom rfl rfl (Nat.le_of_ble_eq_true rfl) ⟨rfl, rfl, Nat.le_of_ble_eq_true rfl, Nat.le_of_ble_eq_true rfl⟩ ⟨Nat.zero_le _, Nat.zero_le _⟩ ?_
        refine gw_aload_n C 0 d_Rings_find_68 rfl rfl ?_
        refine gw_iload_n C 2 d_Rings_find_69 rfl rfl ?_
        obtain ⟨m70, em70, hf2⟩ := mx_lt hf2
        refine gw_putI t_Rings C 1 d_Rings_find_70 k_o_0 (by decide) i_Rings rfl rfl (by decide) qw_330 rfl rfl t_Rings_ok n_Rings rfl (t_Rings_ok 1 (by decide)) rfl rfl em70 ?_
        refine gw_iload_n C 2 d_Rings_find_73 rfl rfl ?_
        have hr22 := hx22 _ (hb22.trans hf2.symm)
        subst hr22
        replace hf1 := mx_sl hf1
        have hr8 := hx8 _ (hb8.trans hf1.symm)
        subst hr8
        replace hf0 := mx_sl hf0
        exact en_i hN hf0 d_Rings_find_74

/-! NameHat.ring()I -/
abbrev b_Hat_ring : ByteArray := prog_1_method_19_code
def y_Hat_ring : MethodName := ⟨"NameHat", "ring", "()I"⟩
abbrev rm_Hat_ring : Room := { frames := 12, cells := 0, slots := 0, locals := 650 }
theorem hd_Hat_ring : y_Hat_ring.cls ≠ "java/lang/invoke/MethodHandle" ∧ y_Hat_ring.cls ≠ "java/lang/invoke/VarHandle" ∧ (parseMethodDescriptor y_Hat_ring.desc).map (fun d => d.parameters.length) = some 0 := by decide +kernel
theorem d_Hat_ring_0 : decode b_Hat_ring 0 = .ok (.aload_n 0, 1) := by decide +kernel
theorem d_Hat_ring_1 : decode b_Hat_ring 1 = .ok (.getfield 35, 3) := by decide +kernel
theorem d_Hat_ring_4 : decode b_Hat_ring 4 = .ok (.aload_n 0, 1) := by decide +kernel
theorem d_Hat_ring_5 : decode b_Hat_ring 5 = .ok (.getfield 57, 3) := by decide +kernel
theorem d_Hat_ring_8 : decode b_Hat_ring 8 = .ok (.getfield 121, 3) := by decide +kernel
theorem d_Hat_ring_11 : decode b_Hat_ring 11 = .ok (.aload_n 0, 1) := by decide +kernel
theorem d_Hat_ring_12 : decode b_Hat_ring 12 = .ok (.getfield 57, 3) := by decide +kernel
theorem d_Hat_ring_15 : decode b_Hat_ring 15 = .ok (.getfield 154, 3) := by decide +kernel
theorem d_Hat_ring_18 : decode b_Hat_ring 18 = .ok (.invokevirtual 213, 3) := by decide +kernel
theorem d_Hat_ring_21 : decode b_Hat_ring 21 = .ok (.ireturn, 1) := by decide +kernel
noncomputable def f_Hat_ring (z : Nat → Nat) (σ : Mm) (o : Nat) : Option (Int32 × Mm) :=
  (f_Rings_find z σ (o + 40) (o + 61) (o + 74)).bind fun q18 =>
  some (q18.1, q18.2)
set_option maxHeartbeats 4000000 in
set_option maxRecDepth 100000 in
theorem c_Hat_ring (l : Launch) {L : Ly} (hg : gd_ok L) {σ : Mm} {o : Nat} (k_o_0 : ly_k L o = 10) {res : Int32 × Mm} (hf0 : f_Hat_ring (ly_z L) σ o = some res) : CtI l y_Hat_ring b_Hat_ring 1 (some .int) rm_Hat_ring L [.ref (ly_a L o)] σ res.1 res.2 := by
  refine ct_i hg (by decide) (Nat.le_of_ble_eq_true rfl) ?_
  intro E A Q hE C hN
  subst hE
  have k_o_60 : ly_k L (o + 60) = 4 := gd_Hat_now hg k_o_0
  have k_o_40 : ly_k L (o + 40) = 5 := gd_Hat_rings hg k_o_0
  have k_o_61 : ly_k L (o + 61) = 2 := gd_State_island hg k_o_60
  have k_o_74 : ly_k L (o + 74) = 3 := gd_State_hands hg k_o_60
  unfold f_Hat_ring at hf0
  show GW E L A 1 0 0 Q σ 0 [(0, .ref (ly_a L o))] []
  refine gw_aload_n C 0 d_Hat_ring_0 rfl rfl ?_
  refine gw_getA C 3 d_Hat_ring_1 k_o_0 (by decide) i_Hat rfl rfl (by decide) qw_406 rfl rfl (o + 40) rfl ?_
  refine gw_aload_n C 0 d_Hat_ring_4 rfl rfl ?_
  refine gw_getA C 7 d_Hat_ring_5 k_o_0 (by decide) i_Hat rfl rfl (by decide) qw_410 rfl rfl (o + 60) rfl ?_
  refine gw_getAN C 0 d_Hat_ring_8 k_o_60 (by decide) i_State rfl rfl (by decide) qw_237 rfl rfl (o + 61) rfl ?_
  refine gw_aload_n C 0 d_Hat_ring_11 rfl rfl ?_
  refine gw_getA C 7 d_Hat_ring_12 k_o_0 (by decide) i_Hat rfl rfl (by decide) qw_410 rfl rfl (o + 60) rfl ?_
  refine gw_getAN C 1 d_Hat_ring_15 k_o_60 (by decide) i_State rfl rfl (by decide) qw_239 rfl rfl (o + 74) rfl ?_
  obtain ⟨q18, hq18, hf0⟩ := mx_bd hf0
  refine gw_callI C (c_Rings_find _ hg k_o_40 k_o_61 k_o_74 hq18) d_Hat_ring_18 2 qw_796 qw_797 qw_798 qw_9 qw_799 k_o_40 (by decide) rfl hd_Rings_find rfl rfl (Nat.le_of_ble_eq_true rfl) ⟨rfl, rfl, Nat.le_of_ble_eq_true rfl, Nat.le_of_ble_eq_true rfl⟩ ⟨Nat.zero_le _, Nat.zero_le _⟩ ?_
  exact en_i hN hf0 d_Hat_ring_21

/-! NameHat.ringAt(I)I -/
abbrev b_Hat_ringAt : ByteArray := prog_1_method_20_code
def y_Hat_ringAt : MethodName := ⟨"NameHat", "ringAt", "(I)I"⟩
abbrev rm_Hat_ringAt : Room := { frames := 1, cells := 0, slots := 0, locals := 21 }
theorem hd_Hat_ringAt : y_Hat_ringAt.cls ≠ "java/lang/invoke/MethodHandle" ∧ y_Hat_ringAt.cls ≠ "java/lang/invoke/VarHandle" ∧ (parseMethodDescriptor y_Hat_ringAt.desc).map (fun d => d.parameters.length) = some 1 := by decide +kernel
theorem d_Hat_ringAt_0 : decode b_Hat_ringAt 0 = .ok (.iload_n 1, 1) := by decide +kernel
theorem d_Hat_ringAt_1 : decode b_Hat_ringAt 1 = .ok (.ifCond .lt 14, 3) := by decide +kernel
theorem d_Hat_ringAt_4 : decode b_Hat_ringAt 4 = .ok (.iload_n 1, 1) := by decide +kernel
theorem d_Hat_ringAt_5 : decode b_Hat_ringAt 5 = .ok (.aload_n 0, 1) := by decide +kernel
theorem d_Hat_ringAt_6 : decode b_Hat_ringAt 6 = .ok (.getfield 35, 3) := by decide +kernel
theorem d_Hat_ringAt_9 : decode b_Hat_ringAt 9 = .ok (.getfield 217, 3) := by decide +kernel
theorem d_Hat_ringAt_12 : decode b_Hat_ringAt 12 = .ok (.if_icmp .lt 7, 3) := by decide +kernel
theorem d_Hat_ringAt_15 : decode b_Hat_ringAt 15 = .ok (.iconst (-1), 1) := by decide +kernel
theorem d_Hat_ringAt_16 : decode b_Hat_ringAt 16 = .ok (.goto 14, 3) := by decide +kernel
theorem d_Hat_ringAt_19 : decode b_Hat_ringAt 19 = .ok (.aload_n 0, 1) := by decide +kernel
theorem d_Hat_ringAt_20 : decode b_Hat_ringAt 20 = .ok (.getfield 35, 3) := by decide +kernel
theorem d_Hat_ringAt_23 : decode b_Hat_ringAt 23 = .ok (.getfield 220, 3) := by decide +kernel
theorem d_Hat_ringAt_26 : decode b_Hat_ringAt 26 = .ok (.iload_n 1, 1) := by decide +kernel
theorem d_Hat_ringAt_27 : decode b_Hat_ringAt 27 = .ok (.invokevirtual 147, 3) := by decide +kernel
theorem d_Hat_ringAt_30 : decode b_Hat_ringAt 30 = .ok (.ireturn, 1) := by decide +kernel
noncomputable def f_Hat_ringAt (z : Nat → Nat) (σ : Mm) (o : Nat) (p1 : Int32) : Option (Int32) :=
  if p1 < 0 then (
    some ((-1) : Int32)
  ) else (
    if p1 < (σ.1 (o + 40) 1) then (
      (f_Row_at z σ (o + 41) p1).bind fun q27 =>
      some q27
    ) else (
      some ((-1) : Int32)
    )
  )
set_option maxHeartbeats 4000000 in
set_option maxRecDepth 100000 in
theorem c_Hat_ringAt (l : Launch) {L : Ly} (hg : gd_ok L) {σ : Mm} {o : Nat} {p1 : Int32} (k_o_0 : ly_k L o = 10) {res : Int32} (hf0 : f_Hat_ringAt (ly_z L) σ o p1 = some res) : CtI l y_Hat_ringAt b_Hat_ringAt 2 (some .int) rm_Hat_ringAt L [.ref (ly_a L o), .int p1] σ res σ := by
  refine ct_i hg (by decide) (Nat.le_of_ble_eq_true rfl) ?_
  intro E A Q hE C hN
  subst hE
  have k_o_40 : ly_k L (o + 40) = 5 := gd_Hat_rings hg k_o_0
  have k_o_41 : ly_k L (o + 41) = 0 := gd_Rings_latest hg k_o_40
  unfold f_Hat_ringAt at hf0
  show GW E L A 2 0 0 Q σ 0 [(0, .ref (ly_a L o)), (1, .int p1)] []
  refine gw_iload_n C 1 d_Hat_ringAt_0 rfl rfl ?_
  refine gw_if_lt C 15 d_Hat_ringAt_1 (by decide) (fun hc => ?_) (fun hc => ?_)
  · replace hf0 := mx_t hc hf0
    refine gw_iconst C ((-1) : Int32) d_Hat_ringAt_15 (by decide) ?_
    refine gw_goto C 30 d_Hat_ringAt_16 (by decide) ?_
    exact en_ip hN hf0 d_Hat_ringAt_30
  · replace hf0 := mx_f hc hf0
    refine gw_iload_n C 1 d_Hat_ringAt_4 rfl rfl ?_
    refine gw_aload_n C 0 d_Hat_ringAt_5 rfl rfl ?_
    refine gw_getA C 3 d_Hat_ringAt_6 k_o_0 (by decide) i_Hat rfl rfl (by decide) qw_406 rfl rfl (o + 40) rfl ?_
    refine gw_getIN C 1 d_Hat_ringAt_9 k_o_40 (by decide) i_Rings rfl rfl (by decide) qw_331 rfl rfl ?_
    refine gw_icmp_lt C 19 d_Hat_ringAt_12 (by decide) (fun hc => ?_) (fun hc => ?_)
    · replace hf0 := mx_t hc hf0
      refine gw_aload_n C 0 d_Hat_ringAt_19 rfl rfl ?_
      refine gw_getA C 3 d_Hat_ringAt_20 k_o_0 (by decide) i_Hat rfl rfl (by decide) qw_406 rfl rfl (o + 40) rfl ?_
      refine gw_getAN C 0 d_Hat_ringAt_23 k_o_40 (by decide) i_Rings rfl rfl (by decide) qw_329 rfl rfl (o + 41) rfl ?_
      refine gw_iload_n C 1 d_Hat_ringAt_26 rfl rfl ?_
      obtain ⟨q27, hq27, hf0⟩ := mx_bd hf0
      refine gw_callI C (c_Row_at _ hg k_o_41 hq27) d_Hat_ringAt_27 1 qw_755 qw_489 qw_490 qw_4 qw_491 k_o_41 (by decide) rfl hd_Row_at rfl rfl (Nat.le_of_ble_eq_true rfl) ⟨rfl, rfl, Nat.le_of_ble_eq_true rfl, Nat.le_of_ble_eq_true rfl⟩ ⟨Nat.zero_le _, Nat.zero_le _⟩ ?_
      exact en_ip hN hf0 d_Hat_ringAt_30
    · replace hf0 := mx_f hc hf0
      refine gw_iconst C ((-1) : Int32) d_Hat_ringAt_15 (by decide) ?_
      refine gw_goto C 30 d_Hat_ringAt_16 (by decide) ?_
      exact en_ip hN hf0 d_Hat_ringAt_30

/-! NameHat.Hands.pointAll(LNameHat.Island;I)V -/
abbrev b_Hands_pointAll : ByteArray := prog_3_method_13_code
def y_Hands_pointAll : MethodName := ⟨"NameHat$Hands", "pointAll", "(LNameHat$Island;I)V"⟩
abbrev rm_Hands_pointAll : Room := { frames := 3, cells := 0, slots := 0, locals := 67 }
theorem hd_Hands_pointAll : y_Hands_pointAll.cls ≠ "java/lang/invoke/MethodHandle" ∧ y_Hands_pointAll.cls ≠ "java/lang/invoke/VarHandle" ∧ (parseMethodDescriptor y_Hands_pointAll.desc).map (fun d => d.parameters.length) = some 2 := by decide +kernel
theorem d_Hands_pointAll_0 : decode b_Hands_pointAll 0 = .ok (.iconst 0, 1) := by decide +kernel
theorem d_Hands_pointAll_1 : decode b_Hands_pointAll 1 = .ok (.istore_n 3, 1) := by decide +kernel
theorem d_Hands_pointAll_2 : decode b_Hands_pointAll 2 = .ok (.iload_n 3, 1) := by decide +kernel
theorem d_Hands_pointAll_3 : decode b_Hands_pointAll 3 = .ok (.bipush 8, 2) := by decide +kernel
theorem d_Hands_pointAll_5 : decode b_Hands_pointAll 5 = .ok (.if_icmp .ge 113, 3) := by decide +kernel
theorem d_Hands_pointAll_8 : decode b_Hands_pointAll 8 = .ok (.iload_n 2, 1) := by decide +kernel
theorem d_Hands_pointAll_9 : decode b_Hands_pointAll 9 = .ok (.iload_n 3, 1) := by decide +kernel
theorem d_Hands_pointAll_10 : decode b_Hands_pointAll 10 = .ok (.ishr, 1) := by decide +kernel
theorem d_Hands_pointAll_11 : decode b_Hands_pointAll 11 = .ok (.iconst 1, 1) := by decide +kernel
theorem d_Hands_pointAll_12 : decode b_Hands_pointAll 12 = .ok (.iand, 1) := by decide +kernel
theorem d_Hands_pointAll_13 : decode b_Hands_pointAll 13 = .ok (.ifCond .ne 6, 3) := by decide +kernel
theorem d_Hands_pointAll_16 : decode b_Hands_pointAll 16 = .ok (.goto 96, 3) := by decide +kernel
theorem d_Hands_pointAll_19 : decode b_Hands_pointAll 19 = .ok (.iload_n 3, 1) := by decide +kernel
theorem d_Hands_pointAll_20 : decode b_Hands_pointAll 20 = .ok (.istore 4, 2) := by decide +kernel
theorem d_Hands_pointAll_22 : decode b_Hands_pointAll 22 = .ok (.aload_n 1, 1) := by decide +kernel
theorem d_Hands_pointAll_23 : decode b_Hands_pointAll 23 = .ok (.iload_n 3, 1) := by decide +kernel
theorem d_Hands_pointAll_24 : decode b_Hands_pointAll 24 = .ok (.aload_n 0, 1) := by decide +kernel
theorem d_Hands_pointAll_25 : decode b_Hands_pointAll 25 = .ok (.getfield 14, 3) := by decide +kernel
theorem d_Hands_pointAll_28 : decode b_Hands_pointAll 28 = .ok (.iload_n 3, 1) := by decide +kernel
theorem d_Hands_pointAll_29 : decode b_Hands_pointAll 29 = .ok (.invokevirtual 36, 3) := by decide +kernel
theorem d_Hands_pointAll_32 : decode b_Hands_pointAll 32 = .ok (.invokevirtual 40, 3) := by decide +kernel
theorem d_Hands_pointAll_35 : decode b_Hands_pointAll 35 = .ok (.istore 5, 2) := by decide +kernel
theorem d_Hands_pointAll_37 : decode b_Hands_pointAll 37 = .ok (.iconst 0, 1) := by decide +kernel
theorem d_Hands_pointAll_38 : decode b_Hands_pointAll 38 = .ok (.istore 6, 2) := by decide +kernel
theorem d_Hands_pointAll_40 : decode b_Hands_pointAll 40 = .ok (.iload 6, 2) := by decide +kernel
theorem d_Hands_pointAll_42 : decode b_Hands_pointAll 42 = .ok (.bipush 8, 2) := by decide +kernel
theorem d_Hands_pointAll_44 : decode b_Hands_pointAll 44 = .ok (.if_icmp .ge 58, 3) := by decide +kernel
theorem d_Hands_pointAll_47 : decode b_Hands_pointAll 47 = .ok (.iload_n 2, 1) := by decide +kernel
theorem d_Hands_pointAll_48 : decode b_Hands_pointAll 48 = .ok (.iload 6, 2) := by decide +kernel
theorem d_Hands_pointAll_50 : decode b_Hands_pointAll 50 = .ok (.ishr, 1) := by decide +kernel
theorem d_Hands_pointAll_51 : decode b_Hands_pointAll 51 = .ok (.iconst 1, 1) := by decide +kernel
theorem d_Hands_pointAll_52 : decode b_Hands_pointAll 52 = .ok (.iand, 1) := by decide +kernel
theorem d_Hands_pointAll_53 : decode b_Hands_pointAll 53 = .ok (.iconst 1, 1) := by decide +kernel
theorem d_Hands_pointAll_54 : decode b_Hands_pointAll 54 = .ok (.if_icmp .ne 42, 3) := by decide +kernel
theorem d_Hands_pointAll_57 : decode b_Hands_pointAll 57 = .ok (.aload_n 1, 1) := by decide +kernel
theorem d_Hands_pointAll_58 : decode b_Hands_pointAll 58 = .ok (.iload_n 3, 1) := by decide +kernel
theorem d_Hands_pointAll_59 : decode b_Hands_pointAll 59 = .ok (.aload_n 0, 1) := by decide +kernel
theorem d_Hands_pointAll_60 : decode b_Hands_pointAll 60 = .ok (.getfield 14, 3) := by decide +kernel
theorem d_Hands_pointAll_63 : decode b_Hands_pointAll 63 = .ok (.iload 6, 2) := by decide +kernel
theorem d_Hands_pointAll_65 : decode b_Hands_pointAll 65 = .ok (.invokevirtual 36, 3) := by decide +kernel
theorem d_Hands_pointAll_68 : decode b_Hands_pointAll 68 = .ok (.invokevirtual 40, 3) := by decide +kernel
theorem d_Hands_pointAll_71 : decode b_Hands_pointAll 71 = .ok (.iload 5, 2) := by decide +kernel
theorem d_Hands_pointAll_73 : decode b_Hands_pointAll 73 = .ok (.if_icmp .le 23, 3) := by decide +kernel
theorem d_Hands_pointAll_76 : decode b_Hands_pointAll 76 = .ok (.iload 6, 2) := by decide +kernel
theorem d_Hands_pointAll_78 : decode b_Hands_pointAll 78 = .ok (.istore 4, 2) := by decide +kernel
theorem d_Hands_pointAll_80 : decode b_Hands_pointAll 80 = .ok (.aload_n 1, 1) := by decide +kernel
theorem d_Hands_pointAll_81 : decode b_Hands_pointAll 81 = .ok (.iload_n 3, 1) := by decide +kernel
theorem d_Hands_pointAll_82 : decode b_Hands_pointAll 82 = .ok (.aload_n 0, 1) := by decide +kernel
theorem d_Hands_pointAll_83 : decode b_Hands_pointAll 83 = .ok (.getfield 14, 3) := by decide +kernel
theorem d_Hands_pointAll_86 : decode b_Hands_pointAll 86 = .ok (.iload 6, 2) := by decide +kernel
theorem d_Hands_pointAll_88 : decode b_Hands_pointAll 88 = .ok (.invokevirtual 36, 3) := by decide +kernel
theorem d_Hands_pointAll_91 : decode b_Hands_pointAll 91 = .ok (.invokevirtual 40, 3) := by decide +kernel
theorem d_Hands_pointAll_94 : decode b_Hands_pointAll 94 = .ok (.istore 5, 2) := by decide +kernel
theorem d_Hands_pointAll_96 : decode b_Hands_pointAll 96 = .ok (.iinc 6 1, 3) := by decide +kernel
theorem d_Hands_pointAll_99 : decode b_Hands_pointAll 99 = .ok (.goto (-59), 3) := by decide +kernel
theorem d_Hands_pointAll_102 : decode b_Hands_pointAll 102 = .ok (.aload_n 0, 1) := by decide +kernel
theorem d_Hands_pointAll_103 : decode b_Hands_pointAll 103 = .ok (.getfield 23, 3) := by decide +kernel
theorem d_Hands_pointAll_106 : decode b_Hands_pointAll 106 = .ok (.iload_n 3, 1) := by decide +kernel
theorem d_Hands_pointAll_107 : decode b_Hands_pointAll 107 = .ok (.iload 4, 2) := by decide +kernel
theorem d_Hands_pointAll_109 : decode b_Hands_pointAll 109 = .ok (.invokevirtual 68, 3) := by decide +kernel
theorem d_Hands_pointAll_112 : decode b_Hands_pointAll 112 = .ok (.iinc 3 1, 3) := by decide +kernel
theorem d_Hands_pointAll_115 : decode b_Hands_pointAll 115 = .ok (.goto (-113), 3) := by decide +kernel
theorem d_Hands_pointAll_118 : decode b_Hands_pointAll 118 = .ok (.return_, 1) := by decide +kernel
noncomputable def f_Hands_pointAll_L40 (z : Nat → Nat) (σ : Mm) (o : Nat) (o1 : Nat) (v2 : Int32) (v3 : Int32) (s40 : Int32 × Int32 × Int32) : Option ((Int32 × Int32 × Int32) ⊕ (Int32)) :=
  if (8 : Int32) ≤ s40.2.2 then (
    some (.inr s40.1)
  ) else (
    if ((v2 >>> (s40.2.2 &&& 31)) &&& (1 : Int32)) = (1 : Int32) then (
      (f_Row_at z σ (o + 1) s40.2.2).bind fun q65 =>
      (f_Island_valueFor z σ o1 v3 q65).bind fun q68 =>
      if q68 ≤ s40.2.1 then (
        mm_lt (s40.2.2 + (1 : Int32)) fun x96 =>
        some (.inl (s40.1, s40.2.1, x96))
      ) else (
        (f_Row_at z σ (o + 1) s40.2.2).bind fun q88 =>
        (f_Island_valueFor z σ o1 v3 q88).bind fun q91 =>
        mm_lt (s40.2.2 + (1 : Int32)) fun x96 =>
        some (.inl (s40.2.2, q91, x96))
      )
    ) else (
      mm_lt (s40.2.2 + (1 : Int32)) fun x96 =>
      some (.inl (s40.1, s40.2.1, x96))
    )
  )
noncomputable def f_Hands_pointAll_L2 (z : Nat → Nat) (o : Nat) (o1 : Nat) (v2 : Int32) (s2 : Int32 × Mm) : Option ((Int32 × Mm) ⊕ (Mm)) :=
  if (8 : Int32) ≤ s2.1 then (
    some (.inr s2.2)
  ) else (
    if ((v2 >>> (s2.1 &&& 31)) &&& (1 : Int32)) = 0 then (
      mm_lt (s2.1 + (1 : Int32)) fun x112 =>
      some (.inl (x112, s2.2))
    ) else (
      (f_Row_at z s2.2 (o + 1) s2.1).bind fun q29 =>
      (f_Island_valueFor z s2.2 o1 s2.1 q29).bind fun q32 =>
      (mm_lp (f_Hands_pointAll_L40 z s2.2 o o1 v2 s2.1) (s2.1, q32, (0 : Int32))).bind (fun q40 =>
        (f_Row_put z s2.2 (o + 5) s2.1 q40).bind fun q109 =>
        mm_lt (s2.1 + (1 : Int32)) fun x112 =>
        some (.inl (x112, q109)))
    )
  )
noncomputable def f_Hands_pointAll (z : Nat → Nat) (σ : Mm) (o : Nat) (o1 : Nat) (p2 : Int32) : Option (Mm) :=
  (mm_lp (f_Hands_pointAll_L2 z o o1 p2) ((0 : Int32), σ)).bind (fun q2 =>
    some q2)
set_option maxHeartbeats 4000000 in
set_option maxRecDepth 100000 in
theorem c_Hands_pointAll (l : Launch) {L : Ly} (hg : gd_ok L) {σ : Mm} {o : Nat} {o1 : Nat} {p2 : Int32} (k_o_0 : ly_k L o = 3) (k_o1_0 : ly_k L o1 = 2) {res : Mm} (hf0 : f_Hands_pointAll (ly_z L) σ o o1 p2 = some res) : CtV l y_Hands_pointAll b_Hands_pointAll 7 (none) rm_Hands_pointAll L [.ref (ly_a L o), .ref (ly_a L o1), .int p2] σ res := by
  refine ct_v hg (by decide) (Nat.le_of_ble_eq_true rfl) ?_
  intro E A Q hE C hN
  subst hE
  have k_o_1 : ly_k L (o + 1) = 0 := gd_Hands_held hg k_o_0
  have k_o_5 : ly_k L (o + 5) = 0 := gd_Hands_points hg k_o_0
  unfold f_Hands_pointAll at hf0
  show GW E L A 7 0 0 Q σ 0 [(0, .ref (ly_a L o)), (1, .ref (ly_a L o1)), (2, .int p2)] []
  refine gw_iconst C (0 : Int32) d_Hands_pointAll_0 (by decide) ?_
  refine gw_istore_n C [(3, .int (0 : Int32)), (0, .ref (ly_a L o)), (1, .ref (ly_a L o1)), (2, .int p2)] d_Hands_pointAll_1 rfl (by decide) rfl ?_
  obtain ⟨q2, hq2, hf0⟩ := mx_bd hf0
  have hk2 : ∀ x9, q2 = x9 → GW E L A 7 0 0 Q x9 118 [] [] := by
    intro x9 hx9
    subst hx9
    exact en_v hN hf0 d_Hands_pointAll_118
  refine gw_sub [1, 2, 3, 0] (lv' := [(0, .ref (ly_a L o)), (1, .ref (ly_a L o1)), (2, .int p2), (3, .int (0 : Int32))]) rfl ?_
  refine mm_rule hq2 (P := fun (s2 : Int32 × Mm) => GW E L A 7 0 0 Q s2.2 2 [(0, .ref (ly_a L o)), (1, .ref (ly_a L o1)), (2, .int p2), (3, .int s2.1)] []) ?_
  intro s2 ih2 hx2 ⟨w2, hb2⟩
  have hf1 := hb2
  unfold f_Hands_pointAll_L2 at hf1
  refine gw_iload_n C 3 d_Hands_pointAll_2 rfl rfl ?_
  refine gw_bipush C (8 : Int32) d_Hands_pointAll_3 (by decide) ?_
  refine gw_icmp_ge C 118 d_Hands_pointAll_5 (by decide) (fun hc => ?_) (fun hc => ?_)
  · replace hf1 := mx_t hc hf1
    exact gw_go [] (hk2 s2.2 (hx2 _ (hb2.trans hf1.symm)).symm) rfl
  · replace hf1 := mx_f hc hf1
    refine gw_iload_n C 2 d_Hands_pointAll_8 rfl rfl ?_
    refine gw_iload_n C 3 d_Hands_pointAll_9 rfl rfl ?_
    refine gw_ishr C d_Hands_pointAll_10 ?_
    refine gw_iconst C (1 : Int32) d_Hands_pointAll_11 (by decide) ?_
    refine gw_iand C d_Hands_pointAll_12 ?_
    refine gw_if_ne C 19 d_Hands_pointAll_13 (by decide) (fun hc => ?_) (fun hc => ?_)
    · replace hf1 := mx_f hc hf1
      refine gw_iload_n C 3 d_Hands_pointAll_19 rfl rfl ?_
      refine gw_istore C [(4, .int s2.1), (0, .ref (ly_a L o)), (1, .ref (ly_a L o1)), (2, .int p2), (3, .int s2.1)] d_Hands_pointAll_20 (by decide) rfl ?_
      refine gw_aload_n C 2 d_Hands_pointAll_22 rfl rfl ?_
      refine gw_iload_n C 4 d_Hands_pointAll_23 rfl rfl ?_
      refine gw_aload_n C 1 d_Hands_pointAll_24 rfl rfl ?_
      refine gw_getA C 0 d_Hands_pointAll_25 k_o_0 (by decide) i_Hands rfl rfl (by decide) qw_186 rfl rfl (o + 1) rfl ?_
      refine gw_iload_n C 4 d_Hands_pointAll_28 rfl rfl ?_
      obtain ⟨q29, hq29, hf1⟩ := mx_bd hf1
      refine gw_callI C (c_Row_at _ hg k_o_1 hq29) d_Hands_pointAll_29 1 qw_609 qw_489 qw_490 qw_4 qw_491 k_o_1 (by decide) rfl hd_Row_at rfl rfl (Nat.le_of_ble_eq_true rfl) ⟨rfl, rfl, Nat.le_of_ble_eq_true rfl, Nat.le_of_ble_eq_true rfl⟩ ⟨Nat.zero_le _, Nat.zero_le _⟩ ?_
      obtain ⟨q32, hq32, hf1⟩ := mx_bd hf1
      refine gw_callI C (c_Island_valueFor _ hg k_o1_0 hq32) d_Hands_pointAll_32 2 qw_765 qw_757 qw_758 qw_6 qw_759 k_o1_0 (by decide) rfl hd_Island_valueFor rfl rfl (Nat.le_of_ble_eq_true rfl) ⟨rfl, rfl, Nat.le_of_ble_eq_true rfl, Nat.le_of_ble_eq_true rfl⟩ ⟨Nat.zero_le _, Nat.zero_le _⟩ ?_
      refine gw_istore C [(5, .int q32), (4, .int s2.1), (0, .ref (ly_a L o)), (1, .ref (ly_a L o1)), (2, .int p2), (3, .int s2.1)] d_Hands_pointAll_35 (by decide) rfl ?_
      refine gw_iconst C (0 : Int32) d_Hands_pointAll_37 (by decide) ?_
      refine gw_istore C [(6, .int (0 : Int32)), (5, .int q32), (4, .int s2.1), (0, .ref (ly_a L o)), (1, .ref (ly_a L o1)), (2, .int p2), (3, .int s2.1)] d_Hands_pointAll_38 (by decide) rfl ?_
      obtain ⟨q40, hq40, hf1⟩ := mx_bd hf1
      have hk40 : ∀ x9, q40 = x9 → GW E L A 7 0 0 Q s2.2 102 [(0, .ref (ly_a L o)), (1, .ref (ly_a L o1)), (2, .int p2), (3, .int s2.1), (4, .int x9)] [] := by
        intro x9 hx9
        subst hx9
        refine gw_aload_n C 0 d_Hands_pointAll_102 rfl rfl ?_
        refine gw_getA C 2 d_Hands_pointAll_103 k_o_0 (by decide) i_Hands rfl rfl (by decide) qw_195 rfl rfl (o + 5) rfl ?_
        refine gw_iload_n C 3 d_Hands_pointAll_106 rfl rfl ?_
        refine gw_iload C 4 d_Hands_pointAll_107 rfl ?_
        obtain ⟨q109, hq109, hf1⟩ := mx_bd hf1
        refine gw_callV C (c_Row_put _ hg k_o_5 hq109) d_Hands_pointAll_109 2 qw_791 qw_461 qw_462 qw_4 qw_463 k_o_5 (by decide) rfl hd_Row_put rfl rfl (Nat.le_of_ble_eq_true rfl) ⟨rfl, rfl, Nat.le_of_ble_eq_true rfl, Nat.le_of_ble_eq_true rfl⟩ ⟨Nat.zero_le _, Nat.zero_le _⟩ ?_
        obtain ⟨x112, ex112, hf1⟩ := mx_lt hf1
        refine gw_iinc C 3 [(3, .int x112), (0, .ref (ly_a L o)), (1, .ref (ly_a L o1)), (2, .int p2), (4, .int q40)] d_Hands_pointAll_112 rfl (by rw [ex112]; rfl) (by decide) rfl ?_
        refine gw_goto C 2 d_Hands_pointAll_115 (by decide) ?_
        exact gw_go [1, 2, 3, 0] (ih2 (x112, q109) (hb2.trans hf1.symm)) rfl
      refine gw_sub [3, 4, 5, 6, 2, 1, 0] (lv' := [(0, .ref (ly_a L o)), (1, .ref (ly_a L o1)), (2, .int p2), (3, .int s2.1), (4, .int s2.1), (5, .int q32), (6, .int (0 : Int32))]) rfl ?_
      refine mm_rule hq40 (P := fun (s40 : Int32 × Int32 × Int32) => GW E L A 7 0 0 Q s2.2 40 [(0, .ref (ly_a L o)), (1, .ref (ly_a L o1)), (2, .int p2), (3, .int s2.1), (4, .int s40.1), (5, .int s40.2.1), (6, .int s40.2.2)] []) ?_
      intro s40 ih40 hx40 ⟨w40, hb40⟩
      have hf2 := hb40
      unfold f_Hands_pointAll_L40 at hf2
      refine gw_iload C 6 d_Hands_pointAll_40 rfl ?_
      refine gw_bipush C (8 : Int32) d_Hands_pointAll_42 (by decide) ?_
      refine gw_icmp_ge C 102 d_Hands_pointAll_44 (by decide) (fun hc => ?_) (fun hc => ?_)
      · replace hf2 := mx_t hc hf2
        exact gw_go [0, 1, 2, 3, 4] (hk40 s40.1 (hx40 _ (hb40.trans hf2.symm)).symm) rfl
      · replace hf2 := mx_f hc hf2
        refine gw_iload_n C 2 d_Hands_pointAll_47 rfl rfl ?_
        refine gw_iload C 6 d_Hands_pointAll_48 rfl ?_
        refine gw_ishr C d_Hands_pointAll_50 ?_
        refine gw_iconst C (1 : Int32) d_Hands_pointAll_51 (by decide) ?_
        refine gw_iand C d_Hands_pointAll_52 ?_
        refine gw_iconst C (1 : Int32) d_Hands_pointAll_53 (by decide) ?_
        refine gw_icmp_ne C 96 d_Hands_pointAll_54 (by decide) (fun hc => ?_) (fun hc => ?_)
        · replace hf2 := mx_f hc hf2
          obtain ⟨x96, ex96, hf2⟩ := mx_lt hf2
          refine gw_iinc C 6 [(6, .int x96), (0, .ref (ly_a L o)), (1, .ref (ly_a L o1)), (2, .int p2), (3, .int s2.1), (4, .int s40.1), (5, .int s40.2.1)] d_Hands_pointAll_96 rfl (by rw [ex96]; rfl) (by decide) rfl ?_
          refine gw_goto C 40 d_Hands_pointAll_99 (by decide) ?_
          exact gw_go [1, 2, 3, 4, 5, 6, 0] (ih40 (s40.1, s40.2.1, x96) (hb40.trans hf2.symm)) rfl
        · replace hf2 := mx_t hc hf2
          refine gw_aload_n C 1 d_Hands_pointAll_57 rfl rfl ?_
          refine gw_iload_n C 3 d_Hands_pointAll_58 rfl rfl ?_
          refine gw_aload_n C 0 d_Hands_pointAll_59 rfl rfl ?_
          refine gw_getA C 0 d_Hands_pointAll_60 k_o_0 (by decide) i_Hands rfl rfl (by decide) qw_186 rfl rfl (o + 1) rfl ?_
          refine gw_iload C 6 d_Hands_pointAll_63 rfl ?_
          obtain ⟨q65, hq65, hf2⟩ := mx_bd hf2
          refine gw_callI C (c_Row_at _ hg k_o_1 hq65) d_Hands_pointAll_65 1 qw_609 qw_489 qw_490 qw_4 qw_491 k_o_1 (by decide) rfl hd_Row_at rfl rfl (Nat.le_of_ble_eq_true rfl) ⟨rfl, rfl, Nat.le_of_ble_eq_true rfl, Nat.le_of_ble_eq_true rfl⟩ ⟨Nat.zero_le _, Nat.zero_le _⟩ ?_
          obtain ⟨q68, hq68, hf2⟩ := mx_bd hf2
          refine gw_callI C (c_Island_valueFor _ hg k_o1_0 hq68) d_Hands_pointAll_68 2 qw_765 qw_757 qw_758 qw_6 qw_759 k_o1_0 (by decide) rfl hd_Island_valueFor rfl rfl (Nat.le_of_ble_eq_true rfl) ⟨rfl, rfl, Nat.le_of_ble_eq_true rfl, Nat.le_of_ble_eq_true rfl⟩ ⟨Nat.zero_le _, Nat.zero_le _⟩ ?_
          refine gw_iload C 5 d_Hands_pointAll_71 rfl ?_
          refine gw_icmp_le C 96 d_Hands_pointAll_73 (by decide) (fun hc => ?_) (fun hc => ?_)
          · replace hf2 := mx_t hc hf2
            obtain ⟨x96, ex96, hf2⟩ := mx_lt hf2
            refine gw_iinc C 6 [(6, .int x96), (0, .ref (ly_a L o)), (1, .ref (ly_a L o1)), (2, .int p2), (3, .int s2.1), (4, .int s40.1), (5, .int s40.2.1)] d_Hands_pointAll_96 rfl (by rw [ex96]; rfl) (by decide) rfl ?_
            refine gw_goto C 40 d_Hands_pointAll_99 (by decide) ?_
            exact gw_go [1, 2, 3, 4, 5, 6, 0] (ih40 (s40.1, s40.2.1, x96) (hb40.trans hf2.symm)) rfl
          · replace hf2 := mx_f hc hf2
            refine gw_iload C 6 d_Hands_pointAll_76 rfl ?_
            refine gw_istore C [(4, .int s40.2.2), (0, .ref (ly_a L o)), (1, .ref (ly_a L o1)), (2, .int p2), (3, .int s2.1), (5, .int s40.2.1), (6, .int s40.2.2)] d_Hands_pointAll_78 (by decide) rfl ?_
            refine gw_aload_n C 2 d_Hands_pointAll_80 rfl rfl ?_
            refine gw_iload_n C 4 d_Hands_pointAll_81 rfl rfl ?_
            refine gw_aload_n C 1 d_Hands_pointAll_82 rfl rfl ?_
            refine gw_getA C 0 d_Hands_pointAll_83 k_o_0 (by decide) i_Hands rfl rfl (by decide) qw_186 rfl rfl (o + 1) rfl ?_
            refine gw_iload C 6 d_Hands_pointAll_86 rfl ?_
            obtain ⟨q88, hq88, hf2⟩ := mx_bd hf2
            refine gw_callI C (c_Row_at _ hg k_o_1 hq88) d_Hands_pointAll_88 1 qw_609 qw_489 qw_490 qw_4 qw_491 k_o_1 (by decide) rfl hd_Row_at rfl rfl (Nat.le_of_ble_eq_true rfl) ⟨rfl, rfl, Nat.le_of_ble_eq_true rfl, Nat.le_of_ble_eq_true rfl⟩ ⟨Nat.zero_le _, Nat.zero_le _⟩ ?_
            obtain ⟨q91, hq91, hf2⟩ := mx_bd hf2
            refine gw_callI C (c_Island_valueFor _ hg k_o1_0 hq91) d_Hands_pointAll_91 2 qw_765 qw_757 qw_758 qw_6 qw_759 k_o1_0 (by decide) rfl hd_Island_valueFor rfl rfl (Nat.le_of_ble_eq_true rfl) ⟨rfl, rfl, Nat.le_of_ble_eq_true rfl, Nat.le_of_ble_eq_true rfl⟩ ⟨Nat.zero_le _, Nat.zero_le _⟩ ?_
            refine gw_istore C [(5, .int q91), (4, .int s40.2.2), (0, .ref (ly_a L o)), (1, .ref (ly_a L o1)), (2, .int p2), (3, .int s2.1), (6, .int s40.2.2)] d_Hands_pointAll_94 (by decide) rfl ?_
            obtain ⟨x96, ex96, hf2⟩ := mx_lt hf2
            refine gw_iinc C 6 [(6, .int x96), (5, .int q91), (4, .int s40.2.2), (0, .ref (ly_a L o)), (1, .ref (ly_a L o1)), (2, .int p2), (3, .int s2.1)] d_Hands_pointAll_96 rfl (by rw [ex96]; rfl) (by decide) rfl ?_
            refine gw_goto C 40 d_Hands_pointAll_99 (by decide) ?_
            exact gw_go [3, 4, 5, 6, 2, 1, 0] (ih40 (s40.2.2, q91, x96) (hb40.trans hf2.symm)) rfl
    · replace hf1 := mx_t hc hf1
      refine gw_goto C 112 d_Hands_pointAll_16 (by decide) ?_
      obtain ⟨x112, ex112, hf1⟩ := mx_lt hf1
      refine gw_iinc C 3 [(3, .int x112), (0, .ref (ly_a L o)), (1, .ref (ly_a L o1)), (2, .int p2)] d_Hands_pointAll_112 rfl (by rw [ex112]; rfl) (by decide) rfl ?_
      refine gw_goto C 2 d_Hands_pointAll_115 (by decide) ?_
      exact gw_go [1, 2, 3, 0] (ih2 (x112, s2.2) (hb2.trans hf1.symm)) rfl

/-! NameHat.Hands.circleOf(I)I -/
abbrev b_Hands_circleOf : ByteArray := prog_3_method_14_code
def y_Hands_circleOf : MethodName := ⟨"NameHat$Hands", "circleOf", "(I)I"⟩
abbrev rm_Hands_circleOf : Room := { frames := 1, cells := 0, slots := 0, locals := 21 }
theorem hd_Hands_circleOf : y_Hands_circleOf.cls ≠ "java/lang/invoke/MethodHandle" ∧ y_Hands_circleOf.cls ≠ "java/lang/invoke/VarHandle" ∧ (parseMethodDescriptor y_Hands_circleOf.desc).map (fun d => d.parameters.length) = some 1 := by decide +kernel
theorem d_Hands_circleOf_0 : decode b_Hands_circleOf 0 = .ok (.iconst 0, 1) := by decide +kernel
theorem d_Hands_circleOf_1 : decode b_Hands_circleOf 1 = .ok (.istore_n 2, 1) := by decide +kernel
theorem d_Hands_circleOf_2 : decode b_Hands_circleOf 2 = .ok (.iload_n 1, 1) := by decide +kernel
theorem d_Hands_circleOf_3 : decode b_Hands_circleOf 3 = .ok (.istore_n 3, 1) := by decide +kernel
theorem d_Hands_circleOf_4 : decode b_Hands_circleOf 4 = .ok (.iconst 0, 1) := by decide +kernel
theorem d_Hands_circleOf_5 : decode b_Hands_circleOf 5 = .ok (.istore 4, 2) := by decide +kernel
theorem d_Hands_circleOf_7 : decode b_Hands_circleOf 7 = .ok (.iload 4, 2) := by decide +kernel
theorem d_Hands_circleOf_9 : decode b_Hands_circleOf 9 = .ok (.bipush 8, 2) := by decide +kernel
theorem d_Hands_circleOf_11 : decode b_Hands_circleOf 11 = .ok (.if_icmp .ge 31, 3) := by decide +kernel
theorem d_Hands_circleOf_14 : decode b_Hands_circleOf 14 = .ok (.iload_n 2, 1) := by decide +kernel
theorem d_Hands_circleOf_15 : decode b_Hands_circleOf 15 = .ok (.iconst 1, 1) := by decide +kernel
theorem d_Hands_circleOf_16 : decode b_Hands_circleOf 16 = .ok (.iload_n 3, 1) := by decide +kernel
theorem d_Hands_circleOf_17 : decode b_Hands_circleOf 17 = .ok (.ishl, 1) := by decide +kernel
theorem d_Hands_circleOf_18 : decode b_Hands_circleOf 18 = .ok (.ior, 1) := by decide +kernel
theorem d_Hands_circleOf_19 : decode b_Hands_circleOf 19 = .ok (.istore_n 2, 1) := by decide +kernel
theorem d_Hands_circleOf_20 : decode b_Hands_circleOf 20 = .ok (.aload_n 0, 1) := by decide +kernel
theorem d_Hands_circleOf_21 : decode b_Hands_circleOf 21 = .ok (.getfield 23, 3) := by decide +kernel
theorem d_Hands_circleOf_24 : decode b_Hands_circleOf 24 = .ok (.iload_n 3, 1) := by decide +kernel
theorem d_Hands_circleOf_25 : decode b_Hands_circleOf 25 = .ok (.invokevirtual 36, 3) := by decide +kernel
theorem d_Hands_circleOf_28 : decode b_Hands_circleOf 28 = .ok (.istore_n 3, 1) := by decide +kernel
theorem d_Hands_circleOf_29 : decode b_Hands_circleOf 29 = .ok (.iload_n 3, 1) := by decide +kernel
theorem d_Hands_circleOf_30 : decode b_Hands_circleOf 30 = .ok (.iload_n 1, 1) := by decide +kernel
theorem d_Hands_circleOf_31 : decode b_Hands_circleOf 31 = .ok (.if_icmp .ne 5, 3) := by decide +kernel
theorem d_Hands_circleOf_34 : decode b_Hands_circleOf 34 = .ok (.iload_n 2, 1) := by decide +kernel
theorem d_Hands_circleOf_35 : decode b_Hands_circleOf 35 = .ok (.ireturn, 1) := by decide +kernel
theorem d_Hands_circleOf_36 : decode b_Hands_circleOf 36 = .ok (.iinc 4 1, 3) := by decide +kernel
theorem d_Hands_circleOf_39 : decode b_Hands_circleOf 39 = .ok (.goto (-32), 3) := by decide +kernel
theorem d_Hands_circleOf_42 : decode b_Hands_circleOf 42 = .ok (.iconst 0, 1) := by decide +kernel
theorem d_Hands_circleOf_43 : decode b_Hands_circleOf 43 = .ok (.ireturn, 1) := by decide +kernel
noncomputable def f_Hands_circleOf_L7 (z : Nat → Nat) (σ : Mm) (o : Nat) (v1 : Int32) (s7 : Int32 × Int32 × Int32) : Option ((Int32 × Int32 × Int32) ⊕ ((Int32) ⊕ (Unit))) :=
  if (8 : Int32) ≤ s7.2.2 then (
    some (.inr (.inr ()))
  ) else (
    mm_lt ((s7.1 ||| ((1 : Int32) <<< (s7.2.1 &&& 31)))) fun x19 =>
    (f_Row_at z σ (o + 5) s7.2.1).bind fun q25 =>
    if q25 = v1 then (
      some (.inr (.inl x19))
    ) else (
      mm_lt (s7.2.2 + (1 : Int32)) fun x36 =>
      some (.inl (x19, q25, x36))
    )
  )
noncomputable def f_Hands_circleOf (z : Nat → Nat) (σ : Mm) (o : Nat) (p1 : Int32) : Option (Int32) :=
  (mm_lp (f_Hands_circleOf_L7 z σ o p1) ((0 : Int32), p1, (0 : Int32))).bind (Sum.elim (fun r9 => some r9) (fun x7_ =>
    some (0 : Int32)))
set_option maxHeartbeats 4000000 in
set_option maxRecDepth 100000 in
theorem c_Hands_circleOf (l : Launch) {L : Ly} (hg : gd_ok L) {σ : Mm} {o : Nat} {p1 : Int32} (k_o_0 : ly_k L o = 3) {res : Int32} (hf0 : f_Hands_circleOf (ly_z L) σ o p1 = some res) : CtI l y_Hands_circleOf b_Hands_circleOf 5 (some .int) rm_Hands_circleOf L [.ref (ly_a L o), .int p1] σ res σ := by
  refine ct_i hg (by decide) (Nat.le_of_ble_eq_true rfl) ?_
  intro E A Q hE C hN
  subst hE
  have k_o_5 : ly_k L (o + 5) = 0 := gd_Hands_points hg k_o_0
  unfold f_Hands_circleOf at hf0
  show GW E L A 5 0 0 Q σ 0 [(0, .ref (ly_a L o)), (1, .int p1)] []
  refine gw_iconst C (0 : Int32) d_Hands_circleOf_0 (by decide) ?_
  refine gw_istore_n C [(2, .int (0 : Int32)), (0, .ref (ly_a L o)), (1, .int p1)] d_Hands_circleOf_1 rfl (by decide) rfl ?_
  refine gw_iload_n C 2 d_Hands_circleOf_2 rfl rfl ?_
  refine gw_istore_n C [(3, .int p1), (2, .int (0 : Int32)), (0, .ref (ly_a L o)), (1, .int p1)] d_Hands_circleOf_3 rfl (by decide) rfl ?_
  refine gw_iconst C (0 : Int32) d_Hands_circleOf_4 (by decide) ?_
  refine gw_istore C [(4, .int (0 : Int32)), (3, .int p1), (2, .int (0 : Int32)), (0, .ref (ly_a L o)), (1, .int p1)] d_Hands_circleOf_5 (by decide) rfl ?_
  obtain ⟨q7, hq7, hf0⟩ := mx_bd hf0
  have hk7 : ∀ x7_, q7 = .inr x7_ → GW E L A 5 0 0 Q σ 42 [] [] := by
    intro x7_ hx9
    subst hx9
    replace hf0 := mx_sr hf0
    refine gw_iconst C (0 : Int32) d_Hands_circleOf_42 (by decide) ?_
    exact en_ip hN hf0 d_Hands_circleOf_43
  refine gw_sub [3, 4, 2, 1, 0] (lv' := [(0, .ref (ly_a L o)), (1, .int p1), (2, .int (0 : Int32)), (3, .int p1), (4, .int (0 : Int32))]) rfl ?_
  refine mm_rule hq7 (P := fun (s7 : Int32 × Int32 × Int32) => GW E L A 5 0 0 Q σ 7 [(0, .ref (ly_a L o)), (1, .int p1), (2, .int s7.1), (3, .int s7.2.1), (4, .int s7.2.2)] []) ?_
  intro s7 ih7 hx7 ⟨w7, hb7⟩
  have hf1 := hb7
  unfold f_Hands_circleOf_L7 at hf1
  refine gw_iload C 4 d_Hands_circleOf_7 rfl ?_
  refine gw_bipush C (8 : Int32) d_Hands_circleOf_9 (by decide) ?_
  refine gw_icmp_ge C 42 d_Hands_circleOf_11 (by decide) (fun hc => ?_) (fun hc => ?_)
  · replace hf1 := mx_t hc hf1
    exact gw_go [] (hk7 () (hx7 _ (hb7.trans hf1.symm)).symm) rfl
  · replace hf1 := mx_f hc hf1
    refine gw_iload_n C 2 d_Hands_circleOf_14 rfl rfl ?_
    refine gw_iconst C (1 : Int32) d_Hands_circleOf_15 (by decide) ?_
    refine gw_iload_n C 3 d_Hands_circleOf_16 rfl rfl ?_
    refine gw_ishl C d_Hands_circleOf_17 ?_
    refine gw_ior C d_Hands_circleOf_18 ?_
    obtain ⟨x19, ex19, hf1⟩ := mx_lt hf1
    refine gw_topi ex19 ?_
    refine gw_istore_n C [(2, .int x19), (0, .ref (ly_a L o)), (1, .int p1), (3, .int s7.2.1), (4, .int s7.2.2)] d_Hands_circleOf_19 rfl (by decide) rfl ?_
    refine gw_aload_n C 1 d_Hands_circleOf_20 rfl rfl ?_
    refine gw_getA C 2 d_Hands_circleOf_21 k_o_0 (by decide) i_Hands rfl rfl (by decide) qw_195 rfl rfl (o + 5) rfl ?_
    refine gw_iload_n C 3 d_Hands_circleOf_24 rfl rfl ?_
    obtain ⟨q25, hq25, hf1⟩ := mx_bd hf1
    refine gw_callI C (c_Row_at _ hg k_o_5 hq25) d_Hands_circleOf_25 1 qw_609 qw_489 qw_490 qw_4 qw_491 k_o_5 (by decide) rfl hd_Row_at rfl rfl (Nat.le_of_ble_eq_true rfl) ⟨rfl, rfl, Nat.le_of_ble_eq_true rfl, Nat.le_of_ble_eq_true rfl⟩ ⟨Nat.zero_le _, Nat.zero_le _⟩ ?_
    refine gw_istore_n C [(3, .int q25), (2, .int x19), (0, .ref (ly_a L o)), (1, .int p1), (4, .int s7.2.2)] d_Hands_circleOf_28 rfl (by decide) rfl ?_
    refine gw_iload_n C 0 d_Hands_circleOf_29 rfl rfl ?_
    refine gw_iload_n C 3 d_Hands_circleOf_30 rfl rfl ?_
    refine gw_icmp_ne C 36 d_Hands_circleOf_31 (by decide) (fun hc => ?_) (fun hc => ?_)
    · replace hf1 := mx_f hc hf1
      obtain ⟨x36, ex36, hf1⟩ := mx_lt hf1
      refine gw_iinc C 4 [(4, .int x36), (3, .int q25), (2, .int x19), (0, .ref (ly_a L o)), (1, .int p1)] d_Hands_circleOf_36 rfl (by rw [ex36]; rfl) (by decide) rfl ?_
      refine gw_goto C 7 d_Hands_circleOf_39 (by decide) ?_
      exact gw_go [3, 4, 2, 1, 0] (ih7 (x19, q25, x36) (hb7.trans hf1.symm)) rfl
    · replace hf1 := mx_t hc hf1
      refine gw_iload_n C 1 d_Hands_circleOf_34 rfl rfl ?_
      have hr7 := hx7 _ (hb7.trans hf1.symm)
      subst hr7
      replace hf0 := mx_sl hf0
      exact en_ip hN hf0 d_Hands_circleOf_35

/-! NameHat.Hands.takeWhatTheyPointTo(I)V -/
abbrev b_Hands_takeWhatTheyPointTo : ByteArray := prog_3_method_15_code
def y_Hands_takeWhatTheyPointTo : MethodName := ⟨"NameHat$Hands", "takeWhatTheyPointTo", "(I)V"⟩
abbrev rm_Hands_takeWhatTheyPointTo : Room := { frames := 1, cells := 0, slots := 0, locals := 22 }
theorem hd_Hands_takeWhatTheyPointTo : y_Hands_takeWhatTheyPointTo.cls ≠ "java/lang/invoke/MethodHandle" ∧ y_Hands_takeWhatTheyPointTo.cls ≠ "java/lang/invoke/VarHandle" ∧ (parseMethodDescriptor y_Hands_takeWhatTheyPointTo.desc).map (fun d => d.parameters.length) = some 1 := by decide +kernel
theorem d_Hands_takeWhatTheyPointTo_0 : decode b_Hands_takeWhatTheyPointTo 0 = .ok (.aload_n 0, 1) := by decide +kernel
theorem d_Hands_takeWhatTheyPointTo_1 : decode b_Hands_takeWhatTheyPointTo 1 = .ok (.getfield 26, 3) := by decide +kernel
theorem d_Hands_takeWhatTheyPointTo_4 : decode b_Hands_takeWhatTheyPointTo 4 = .ok (.aload_n 0, 1) := by decide +kernel
theorem d_Hands_takeWhatTheyPointTo_5 : decode b_Hands_takeWhatTheyPointTo 5 = .ok (.getfield 14, 3) := by decide +kernel
theorem d_Hands_takeWhatTheyPointTo_8 : decode b_Hands_takeWhatTheyPointTo 8 = .ok (.invokevirtual 32, 3) := by decide +kernel
theorem d_Hands_takeWhatTheyPointTo_11 : decode b_Hands_takeWhatTheyPointTo 11 = .ok (.iconst 0, 1) := by decide +kernel
theorem d_Hands_takeWhatTheyPointTo_12 : decode b_Hands_takeWhatTheyPointTo 12 = .ok (.istore_n 2, 1) := by decide +kernel
theorem d_Hands_takeWhatTheyPointTo_13 : decode b_Hands_takeWhatTheyPointTo 13 = .ok (.iload_n 2, 1) := by decide +kernel
theorem d_Hands_takeWhatTheyPointTo_14 : decode b_Hands_takeWhatTheyPointTo 14 = .ok (.bipush 8, 2) := by decide +kernel
theorem d_Hands_takeWhatTheyPointTo_16 : decode b_Hands_takeWhatTheyPointTo 16 = .ok (.if_icmp .ge 41, 3) := by decide +kernel
theorem d_Hands_takeWhatTheyPointTo_19 : decode b_Hands_takeWhatTheyPointTo 19 = .ok (.iload_n 1, 1) := by decide +kernel
theorem d_Hands_takeWhatTheyPointTo_20 : decode b_Hands_takeWhatTheyPointTo 20 = .ok (.iload_n 2, 1) := by decide +kernel
theorem d_Hands_takeWhatTheyPointTo_21 : decode b_Hands_takeWhatTheyPointTo 21 = .ok (.ishr, 1) := by decide +kernel
theorem d_Hands_takeWhatTheyPointTo_22 : decode b_Hands_takeWhatTheyPointTo 22 = .ok (.iconst 1, 1) := by decide +kernel
theorem d_Hands_takeWhatTheyPointTo_23 : decode b_Hands_takeWhatTheyPointTo 23 = .ok (.iand, 1) := by decide +kernel
theorem d_Hands_takeWhatTheyPointTo_24 : decode b_Hands_takeWhatTheyPointTo 24 = .ok (.iconst 1, 1) := by decide +kernel
theorem d_Hands_takeWhatTheyPointTo_25 : decode b_Hands_takeWhatTheyPointTo 25 = .ok (.if_icmp .ne 26, 3) := by decide +kernel
theorem d_Hands_takeWhatTheyPointTo_28 : decode b_Hands_takeWhatTheyPointTo 28 = .ok (.aload_n 0, 1) := by decide +kernel
theorem d_Hands_takeWhatTheyPointTo_29 : decode b_Hands_takeWhatTheyPointTo 29 = .ok (.getfield 14, 3) := by decide +kernel
theorem d_Hands_takeWhatTheyPointTo_32 : decode b_Hands_takeWhatTheyPointTo 32 = .ok (.iload_n 2, 1) := by decide +kernel
theorem d_Hands_takeWhatTheyPointTo_33 : decode b_Hands_takeWhatTheyPointTo 33 = .ok (.aload_n 0, 1) := by decide +kernel
theorem d_Hands_takeWhatTheyPointTo_34 : decode b_Hands_takeWhatTheyPointTo 34 = .ok (.getfield 26, 3) := by decide +kernel
theorem d_Hands_takeWhatTheyPointTo_37 : decode b_Hands_takeWhatTheyPointTo 37 = .ok (.aload_n 0, 1) := by decide +kernel
theorem d_Hands_takeWhatTheyPointTo_38 : decode b_Hands_takeWhatTheyPointTo 38 = .ok (.getfield 23, 3) := by decide +kernel
theorem d_Hands_takeWhatTheyPointTo_41 : decode b_Hands_takeWhatTheyPointTo 41 = .ok (.iload_n 2, 1) := by decide +kernel
theorem d_Hands_takeWhatTheyPointTo_42 : decode b_Hands_takeWhatTheyPointTo 42 = .ok (.invokevirtual 36, 3) := by decide +kernel
theorem d_Hands_takeWhatTheyPointTo_45 : decode b_Hands_takeWhatTheyPointTo 45 = .ok (.invokevirtual 36, 3) := by decide +kernel
theorem d_Hands_takeWhatTheyPointTo_48 : decode b_Hands_takeWhatTheyPointTo 48 = .ok (.invokevirtual 68, 3) := by decide +kernel
theorem d_Hands_takeWhatTheyPointTo_51 : decode b_Hands_takeWhatTheyPointTo 51 = .ok (.iinc 2 1, 3) := by decide +kernel
theorem d_Hands_takeWhatTheyPointTo_54 : decode b_Hands_takeWhatTheyPointTo 54 = .ok (.goto (-41), 3) := by decide +kernel
theorem d_Hands_takeWhatTheyPointTo_57 : decode b_Hands_takeWhatTheyPointTo 57 = .ok (.return_, 1) := by decide +kernel
noncomputable def f_Hands_takeWhatTheyPointTo_L13 (z : Nat → Nat) (o : Nat) (v1 : Int32) (s13 : Int32 × Mm) : Option ((Int32 × Mm) ⊕ (Mm)) :=
  if (8 : Int32) ≤ s13.1 then (
    some (.inr s13.2)
  ) else (
    if ((v1 >>> (s13.1 &&& 31)) &&& (1 : Int32)) = (1 : Int32) then (
      (f_Row_at z s13.2 (o + 5) s13.1).bind fun q42 =>
      (f_Row_at z s13.2 (o + 7) q42).bind fun q45 =>
      (f_Row_put z s13.2 (o + 1) s13.1 q45).bind fun q48 =>
      mm_lt (s13.1 + (1 : Int32)) fun x51 =>
      some (.inl (x51, q48))
    ) else (
      mm_lt (s13.1 + (1 : Int32)) fun x51 =>
      some (.inl (x51, s13.2))
    )
  )
noncomputable def f_Hands_takeWhatTheyPointTo (z : Nat → Nat) (σ : Mm) (o : Nat) (p1 : Int32) : Option (Mm) :=
  (f_Row_copyFrom z σ (o + 7) (o + 1)).bind fun q8 =>
  (mm_lp (f_Hands_takeWhatTheyPointTo_L13 z o p1) ((0 : Int32), q8)).bind (fun q13 =>
    some q13)
set_option maxHeartbeats 4000000 in
set_option maxRecDepth 100000 in
theorem c_Hands_takeWhatTheyPointTo (l : Launch) {L : Ly} (hg : gd_ok L) {σ : Mm} {o : Nat} {p1 : Int32} (k_o_0 : ly_k L o = 3) {res : Mm} (hf0 : f_Hands_takeWhatTheyPointTo (ly_z L) σ o p1 = some res) : CtV l y_Hands_takeWhatTheyPointTo b_Hands_takeWhatTheyPointTo 3 (none) rm_Hands_takeWhatTheyPointTo L [.ref (ly_a L o), .int p1] σ res := by
  refine ct_v hg (by decide) (Nat.le_of_ble_eq_true rfl) ?_
  intro E A Q hE C hN
  subst hE
  have k_o_7 : ly_k L (o + 7) = 0 := gd_Hands_taken hg k_o_0
  have k_o_1 : ly_k L (o + 1) = 0 := gd_Hands_held hg k_o_0
  have k_o_5 : ly_k L (o + 5) = 0 := gd_Hands_points hg k_o_0
  unfold f_Hands_takeWhatTheyPointTo at hf0
  show GW E L A 3 0 0 Q σ 0 [(0, .ref (ly_a L o)), (1, .int p1)] []
  refine gw_aload_n C 0 d_Hands_takeWhatTheyPointTo_0 rfl rfl ?_
  refine gw_getA C 3 d_Hands_takeWhatTheyPointTo_1 k_o_0 (by decide) i_Hands rfl rfl (by decide) qw_196 rfl rfl (o + 7) rfl ?_
  refine gw_aload_n C 0 d_Hands_takeWhatTheyPointTo_4 rfl rfl ?_
  refine gw_getA C 0 d_Hands_takeWhatTheyPointTo_5 k_o_0 (by decide) i_Hands rfl rfl (by decide) qw_186 rfl rfl (o + 1) rfl ?_
  obtain ⟨q8, hq8, hf0⟩ := mx_bd hf0
  refine gw_callV C (c_Row_copyFrom _ hg k_o_7 k_o_1 hq8) d_Hands_takeWhatTheyPointTo_8 1 qw_689 qw_682 qw_683 qw_4 qw_684 k_o_7 (by decide) rfl hd_Row_copyFrom rfl rfl (Nat.le_of_ble_eq_true rfl) ⟨rfl, rfl, Nat.le_of_ble_eq_true rfl, Nat.le_of_ble_eq_true rfl⟩ ⟨Nat.zero_le _, Nat.zero_le _⟩ ?_
  refine gw_iconst C (0 : Int32) d_Hands_takeWhatTheyPointTo_11 (by decide) ?_
  refine gw_istore_n C [(2, .int (0 : Int32)), (0, .ref (ly_a L o)), (1, .int p1)] d_Hands_takeWhatTheyPointTo_12 rfl (by decide) rfl ?_
  obtain ⟨q13, hq13, hf0⟩ := mx_bd hf0
  have hk13 : ∀ x9, q13 = x9 → GW E L A 3 0 0 Q x9 57 [] [] := by
    intro x9 hx9
    subst hx9
    exact en_v hN hf0 d_Hands_takeWhatTheyPointTo_57
  refine gw_sub [1, 2, 0] (lv' := [(0, .ref (ly_a L o)), (1, .int p1), (2, .int (0 : Int32))]) rfl ?_
  refine mm_rule hq13 (P := fun (s13 : Int32 × Mm) => GW E L A 3 0 0 Q s13.2 13 [(0, .ref (ly_a L o)), (1, .int p1), (2, .int s13.1)] []) ?_
  intro s13 ih13 hx13 ⟨w13, hb13⟩
  have hf1 := hb13
  unfold f_Hands_takeWhatTheyPointTo_L13 at hf1
  refine gw_iload_n C 2 d_Hands_takeWhatTheyPointTo_13 rfl rfl ?_
  refine gw_bipush C (8 : Int32) d_Hands_takeWhatTheyPointTo_14 (by decide) ?_
  refine gw_icmp_ge C 57 d_Hands_takeWhatTheyPointTo_16 (by decide) (fun hc => ?_) (fun hc => ?_)
  · replace hf1 := mx_t hc hf1
    exact gw_go [] (hk13 s13.2 (hx13 _ (hb13.trans hf1.symm)).symm) rfl
  · replace hf1 := mx_f hc hf1
    refine gw_iload_n C 1 d_Hands_takeWhatTheyPointTo_19 rfl rfl ?_
    refine gw_iload_n C 2 d_Hands_takeWhatTheyPointTo_20 rfl rfl ?_
    refine gw_ishr C d_Hands_takeWhatTheyPointTo_21 ?_
    refine gw_iconst C (1 : Int32) d_Hands_takeWhatTheyPointTo_22 (by decide) ?_
    refine gw_iand C d_Hands_takeWhatTheyPointTo_23 ?_
    refine gw_iconst C (1 : Int32) d_Hands_takeWhatTheyPointTo_24 (by decide) ?_
    refine gw_icmp_ne C 51 d_Hands_takeWhatTheyPointTo_25 (by decide) (fun hc => ?_) (fun hc => ?_)
    · replace hf1 := mx_f hc hf1
      obtain ⟨x51, ex51, hf1⟩ := mx_lt hf1
      refine gw_iinc C 2 [(2, .int x51), (0, .ref (ly_a L o)), (1, .int p1)] d_Hands_takeWhatTheyPointTo_51 rfl (by rw [ex51]; rfl) (by decide) rfl ?_
      refine gw_goto C 13 d_Hands_takeWhatTheyPointTo_54 (by decide) ?_
      exact gw_go [1, 2, 0] (ih13 (x51, s13.2) (hb13.trans hf1.symm)) rfl
    · replace hf1 := mx_t hc hf1
      refine gw_aload_n C 0 d_Hands_takeWhatTheyPointTo_28 rfl rfl ?_
      refine gw_getA C 0 d_Hands_takeWhatTheyPointTo_29 k_o_0 (by decide) i_Hands rfl rfl (by decide) qw_186 rfl rfl (o + 1) rfl ?_
      refine gw_iload_n C 2 d_Hands_takeWhatTheyPointTo_32 rfl rfl ?_
      refine gw_aload_n C 0 d_Hands_takeWhatTheyPointTo_33 rfl rfl ?_
      refine gw_getA C 3 d_Hands_takeWhatTheyPointTo_34 k_o_0 (by decide) i_Hands rfl rfl (by decide) qw_196 rfl rfl (o + 7) rfl ?_
      refine gw_aload_n C 0 d_Hands_takeWhatTheyPointTo_37 rfl rfl ?_
      refine gw_getA C 2 d_Hands_takeWhatTheyPointTo_38 k_o_0 (by decide) i_Hands rfl rfl (by decide) qw_195 rfl rfl (o + 5) rfl ?_
      refine gw_iload_n C 2 d_Hands_takeWhatTheyPointTo_41 rfl rfl ?_
      obtain ⟨q42, hq42, hf1⟩ := mx_bd hf1
      refine gw_callI C (c_Row_at _ hg k_o_5 hq42) d_Hands_takeWhatTheyPointTo_42 1 qw_609 qw_489 qw_490 qw_4 qw_491 k_o_5 (by decide) rfl hd_Row_at rfl rfl (Nat.le_of_ble_eq_true rfl) ⟨rfl, rfl, Nat.le_of_ble_eq_true rfl, Nat.le_of_ble_eq_true rfl⟩ ⟨Nat.zero_le _, Nat.zero_le _⟩ ?_
      obtain ⟨q45, hq45, hf1⟩ := mx_bd hf1
      refine gw_callI C (c_Row_at _ hg k_o_7 hq45) d_Hands_takeWhatTheyPointTo_45 1 qw_609 qw_489 qw_490 qw_4 qw_491 k_o_7 (by decide) rfl hd_Row_at rfl rfl (Nat.le_of_ble_eq_true rfl) ⟨rfl, rfl, Nat.le_of_ble_eq_true rfl, Nat.le_of_ble_eq_true rfl⟩ ⟨Nat.zero_le _, Nat.zero_le _⟩ ?_
      obtain ⟨q48, hq48, hf1⟩ := mx_bd hf1
      refine gw_callV C (c_Row_put _ hg k_o_1 hq48) d_Hands_takeWhatTheyPointTo_48 2 qw_791 qw_461 qw_462 qw_4 qw_463 k_o_1 (by decide) rfl hd_Row_put rfl rfl (Nat.le_of_ble_eq_true rfl) ⟨rfl, rfl, Nat.le_of_ble_eq_true rfl, Nat.le_of_ble_eq_true rfl⟩ ⟨Nat.zero_le _, Nat.zero_le _⟩ ?_
      obtain ⟨x51, ex51, hf1⟩ := mx_lt hf1
      refine gw_iinc C 2 [(2, .int x51), (0, .ref (ly_a L o)), (1, .int p1)] d_Hands_takeWhatTheyPointTo_51 rfl (by rw [ex51]; rfl) (by decide) rfl ?_
      refine gw_goto C 13 d_Hands_takeWhatTheyPointTo_54 (by decide) ?_
      exact gw_go [1, 2, 0] (ih13 (x51, q48) (hb13.trans hf1.symm)) rfl
