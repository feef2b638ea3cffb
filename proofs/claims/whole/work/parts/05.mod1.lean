/-! NameHatModel.thrown()I -/
abbrev b_Mod_thrown : ByteArray := prog_14_method_1_code
def y_Mod_thrown : MethodName := ⟨"NameHatModel", "thrown", "()I"⟩
abbrev rm_Mod_thrown : Room := { frames := 0, cells := 0, slots := 0, locals := 0 }
theorem hd_Mod_thrown : y_Mod_thrown.cls ≠ "java/lang/invoke/MethodHandle" ∧ y_Mod_thrown.cls ≠ "java/lang/invoke/VarHandle" ∧ (parseMethodDescriptor y_Mod_thrown.desc).map (fun d => d.parameters.length) = some 0 := by decide +kernel
theorem d_Mod_thrown_0 : decode b_Mod_thrown 0 = .ok (.aload_n 0, 1) := by decide +kernel
theorem d_Mod_thrown_1 : decode b_Mod_thrown 1 = .ok (.getfield 1, 3) := by decide +kernel
theorem d_Mod_thrown_4 : decode b_Mod_thrown 4 = .ok (.ireturn, 1) := by decide +kernel
noncomputable def f_Mod_thrown (z : Nat → Nat) (σ : Mm) (o : Nat) : Option (Int32) :=
  some (σ.1 o 0)
set_option maxHeartbeats 4000000 in
set_option maxRecDepth 100000 in
theorem c_Mod_thrown (l : Launch) {L : Ly} (hg : gd_ok L) {σ : Mm} {o : Nat} (k_o_0 : ly_k L o = 11) {res : Int32} (hf0 : f_Mod_thrown (ly_z L) σ o = some res) : CtI l y_Mod_thrown b_Mod_thrown 1 (some .int) rm_Mod_thrown L [.ref (ly_a L o)] σ res σ := by
  refine ct_i hg (by decide) (Nat.le_of_ble_eq_true rfl) ?_
  intro E A Q hE C hN
  subst hE
  unfold f_Mod_thrown at hf0
  show GW E L A 1 0 0 Q σ 0 [(0, .ref (ly_a L o))] []
  refine gw_aload_n C 0 d_Mod_thrown_0 rfl rfl ?_
  refine gw_getI C 0 d_Mod_thrown_1 k_o_0 (by decide) i_Mod rfl rfl (by decide) qw_1165 rfl rfl ?_
  exact en_ip hN hf0 d_Mod_thrown_4

/-! NameHatModel.throwsIf(Z)Z -/
abbrev b_Mod_throwsIf : ByteArray := prog_14_method_2_code
def y_Mod_throwsIf : MethodName := ⟨"NameHatModel", "throwsIf", "(Z)Z"⟩
abbrev rm_Mod_throwsIf : Room := { frames := 0, cells := 0, slots := 0, locals := 0 }
theorem hd_Mod_throwsIf : y_Mod_throwsIf.cls ≠ "java/lang/invoke/MethodHandle" ∧ y_Mod_throwsIf.cls ≠ "java/lang/invoke/VarHandle" ∧ (parseMethodDescriptor y_Mod_throwsIf.desc).map (fun d => d.parameters.length) = some 1 := by decide +kernel
theorem d_Mod_throwsIf_0 : decode b_Mod_throwsIf 0 = .ok (.aload_n 0, 1) := by decide +kernel
theorem d_Mod_throwsIf_1 : decode b_Mod_throwsIf 1 = .ok (.iload_n 1, 1) := by decide +kernel
theorem d_Mod_throwsIf_2 : decode b_Mod_throwsIf 2 = .ok (.ifCond .eq 7, 3) := by decide +kernel
theorem d_Mod_throwsIf_5 : decode b_Mod_throwsIf 5 = .ok (.iconst 1, 1) := by decide +kernel
theorem d_Mod_throwsIf_6 : decode b_Mod_throwsIf 6 = .ok (.goto 4, 3) := by decide +kernel
theorem d_Mod_throwsIf_9 : decode b_Mod_throwsIf 9 = .ok (.iconst 0, 1) := by decide +kernel
theorem d_Mod_throwsIf_10 : decode b_Mod_throwsIf 10 = .ok (.putfield 1, 3) := by decide +kernel
theorem d_Mod_throwsIf_13 : decode b_Mod_throwsIf 13 = .ok (.iload_n 1, 1) := by decide +kernel
theorem d_Mod_throwsIf_14 : decode b_Mod_throwsIf 14 = .ok (.ireturn, 1) := by decide +kernel
noncomputable def f_Mod_throwsIf (z : Nat → Nat) (σ : Mm) (o : Nat) (p1 : Int32) : Option (Int32 × Mm) :=
  if p1 = 0 then (
    mm_lt (kI σ o 0 (0 : Int32)) fun m10 =>
    (mm_zb p1).bind fun y14 =>
    some (y14, m10)
  ) else (
    mm_lt (kI σ o 0 (1 : Int32)) fun m10 =>
    (mm_zb p1).bind fun y14 =>
    some (y14, m10)
  )
set_option maxHeartbeats 4000000 in
set_option maxRecDepth 100000 in
theorem c_Mod_throwsIf (l : Launch) {L : Ly} (hg : gd_ok L) {σ : Mm} {o : Nat} {p1 : Int32} (k_o_0 : ly_k L o = 11) {res : Int32 × Mm} (hf0 : f_Mod_throwsIf (ly_z L) σ o p1 = some res) : CtI l y_Mod_throwsIf b_Mod_throwsIf 2 (some .boolean) rm_Mod_throwsIf L [.ref (ly_a L o), .int p1] σ res.1 res.2 := by
  refine ct_z hg (by decide) (Nat.le_of_ble_eq_true rfl) ?_
  intro E A Q hE C hN
  subst hE
  unfold f_Mod_throwsIf at hf0
  show GW E L A 2 0 0 Q σ 0 [(0, .ref (ly_a L o)), (1, .int p1)] []
  refine gw_aload_n C 0 d_Mod_throwsIf_0 rfl rfl ?_
  refine gw_iload_n C 1 d_Mod_throwsIf_1 rfl rfl ?_
  refine gw_if_eq C 9 d_Mod_throwsIf_2 (by decide) (fun hc => ?_) (fun hc => ?_)
  · replace hf0 := mx_t hc hf0
    refine gw_iconst C (0 : Int32) d_Mod_throwsIf_9 (by decide) ?_
    obtain ⟨m10, em10, hf0⟩ := mx_lt hf0
    refine gw_putI t_Mod C 0 d_Mod_throwsIf_10 k_o_0 (by decide) i_Mod rfl rfl (by decide) qw_1165 rfl rfl t_Mod_ok n_Mod rfl (t_Mod_ok 0 (by decide)) rfl rfl em10 ?_
    refine gw_iload_n C 1 d_Mod_throwsIf_13 rfl rfl ?_
    obtain ⟨y14, hy14, hf0⟩ := mx_bd hf0
    obtain ⟨zy14, ey14⟩ := mx_zb hy14
    refine gw_topi ey14 ?_
    exact en_z hN zy14 hf0 d_Mod_throwsIf_14
  · replace hf0 := mx_f hc hf0
    refine gw_iconst C (1 : Int32) d_Mod_throwsIf_5 (by decide) ?_
    refine gw_goto C 10 d_Mod_throwsIf_6 (by decide) ?_
    obtain ⟨m10, em10, hf0⟩ := mx_lt hf0
    refine gw_putI t_Mod C 0 d_Mod_throwsIf_10 k_o_0 (by decide) i_Mod rfl rfl (by decide) qw_1165 rfl rfl t_Mod_ok n_Mod rfl (t_Mod_ok 0 (by decide)) rfl rfl em10 ?_
    refine gw_iload_n C 1 d_Mod_throwsIf_13 rfl rfl ?_
    obtain ⟨y14, hy14, hf0⟩ := mx_bd hf0
    obtain ⟨zy14, ey14⟩ := mx_zb hy14
    refine gw_topi ey14 ?_
    exact en_z hN zy14 hf0 d_Mod_throwsIf_14

/-! NameHatModel.four(I)V -/
abbrev b_Mod_four : ByteArray := prog_14_method_4_code
def y_Mod_four : MethodName := ⟨"NameHatModel", "four", "(I)V"⟩
abbrev rm_Mod_four : Room := { frames := 0, cells := 0, slots := 0, locals := 0 }
theorem hd_Mod_four : y_Mod_four.cls ≠ "java/lang/invoke/MethodHandle" ∧ y_Mod_four.cls ≠ "java/lang/invoke/VarHandle" ∧ (parseMethodDescriptor y_Mod_four.desc).map (fun d => d.parameters.length) = some 1 := by decide +kernel
theorem d_Mod_four_0 : decode b_Mod_four 0 = .ok (.bipush 24, 2) := by decide +kernel
theorem d_Mod_four_2 : decode b_Mod_four 2 = .ok (.istore_n 2, 1) := by decide +kernel
theorem d_Mod_four_3 : decode b_Mod_four 3 = .ok (.iload_n 2, 1) := by decide +kernel
theorem d_Mod_four_4 : decode b_Mod_four 4 = .ok (.ifCond .lt 32, 3) := by decide +kernel
theorem d_Mod_four_7 : decode b_Mod_four 7 = .ok (.aload_n 0, 1) := by decide +kernel
theorem d_Mod_four_8 : decode b_Mod_four 8 = .ok (.getfield 14, 3) := by decide +kernel
theorem d_Mod_four_11 : decode b_Mod_four 11 = .ok (.aload_n 0, 1) := by decide +kernel
theorem d_Mod_four_12 : decode b_Mod_four 12 = .ok (.getfield 7, 3) := by decide +kernel
theorem d_Mod_four_15 : decode b_Mod_four 15 = .ok (.iload_n 1, 1) := by decide +kernel
theorem d_Mod_four_16 : decode b_Mod_four 16 = .ok (.iload_n 2, 1) := by decide +kernel
theorem d_Mod_four_17 : decode b_Mod_four 17 = .ok (.ishr, 1) := by decide +kernel
theorem d_Mod_four_18 : decode b_Mod_four 18 = .ok (.i2b, 1) := by decide +kernel
theorem d_Mod_four_19 : decode b_Mod_four 19 = .ok (.bastore, 1) := by decide +kernel
theorem d_Mod_four_20 : decode b_Mod_four 20 = .ok (.aload_n 0, 1) := by decide +kernel
theorem d_Mod_four_21 : decode b_Mod_four 21 = .ok (.dup, 1) := by decide +kernel
theorem d_Mod_four_22 : decode b_Mod_four 22 = .ok (.getfield 7, 3) := by decide +kernel
theorem d_Mod_four_25 : decode b_Mod_four 25 = .ok (.iconst 1, 1) := by decide +kernel
theorem d_Mod_four_26 : decode b_Mod_four 26 = .ok (.iadd, 1) := by decide +kernel
theorem d_Mod_four_27 : decode b_Mod_four 27 = .ok (.putfield 7, 3) := by decide +kernel
theorem d_Mod_four_30 : decode b_Mod_four 30 = .ok (.iinc 2 (-8), 3) := by decide +kernel
theorem d_Mod_four_33 : decode b_Mod_four 33 = .ok (.goto (-30), 3) := by decide +kernel
theorem d_Mod_four_36 : decode b_Mod_four 36 = .ok (.return_, 1) := by decide +kernel
noncomputable def f_Mod_four_L3 (z : Nat → Nat) (o : Nat) (v1 : Int32) (s3 : Int32 × Mm) : Option ((Int32 × Mm) ⊕ (Mm)) :=
  if s3.1 < 0 then (
    some (.inr s3.2)
  ) else (
    (mm_stI s3.2 (o + 1) (z (o + 1)) (s3.2.1 o 2) (vp_nar .byte (Int8.toInt32 (Int32.toInt8 (v1 >>> (s3.1 &&& 31)))))).bind fun m19 =>
    mm_lt (kI m19 o 2 ((m19.1 o 2) + (1 : Int32))) fun m27 =>
    mm_lt (s3.1 + ((-8) : Int32)) fun x30 =>
    some (.inl (x30, m27))
  )
noncomputable def f_Mod_four (z : Nat → Nat) (σ : Mm) (o : Nat) (p1 : Int32) : Option (Mm) :=
  (mm_lp (f_Mod_four_L3 z o p1) ((24 : Int32), σ)).bind (fun q3 =>
    some q3)
set_option maxHeartbeats 4000000 in
set_option maxRecDepth 100000 in
theorem c_Mod_four (l : Launch) {L : Ly} (hg : gd_ok L) {σ : Mm} {o : Nat} {p1 : Int32} (k_o_0 : ly_k L o = 11) {res : Mm} (hf0 : f_Mod_four (ly_z L) σ o p1 = some res) : CtV l y_Mod_four b_Mod_four 3 (none) rm_Mod_four L [.ref (ly_a L o), .int p1] σ res := by
  refine ct_v hg (by decide) (Nat.le_of_ble_eq_true rfl) ?_
  intro E A Q hE C hN
  subst hE
  have k_o_1 : ly_k L (o + 1) = 22 := gd_Mod_tape hg k_o_0
  unfold f_Mod_four at hf0
  show GW E L A 3 0 0 Q σ 0 [(0, .ref (ly_a L o)), (1, .int p1)] []
  refine gw_bipush C (24 : Int32) d_Mod_four_0 (by decide) ?_
  refine gw_istore_n C [(2, .int (24 : Int32)), (0, .ref (ly_a L o)), (1, .int p1)] d_Mod_four_2 rfl (by decide) rfl ?_
  obtain ⟨q3, hq3, hf0⟩ := mx_bd hf0
  have hk3 : ∀ x9, q3 = x9 → GW E L A 3 0 0 Q x9 36 [] [] := by
    intro x9 hx9
    subst hx9
    exact en_v hN hf0 d_Mod_four_36
  refine gw_sub [1, 2, 0] (lv' := [(0, .ref (ly_a L o)), (1, .int p1), (2, .int (24 : Int32))]) rfl ?_
  refine mm_rule hq3 (P := fun (s3 : Int32 × Mm) => GW E L A 3 0 0 Q s3.2 3 [(0, .ref (ly_a L o)), (1, .int p1), (2, .int s3.1)] []) ?_
  intro s3 ih3 hx3 ⟨w3, hb3⟩
  have hf1 := hb3
  unfold f_Mod_four_L3 at hf1
  refine gw_iload_n C 2 d_Mod_four_3 rfl rfl ?_
  refine gw_if_lt C 36 d_Mod_four_4 (by decide) (fun hc => ?_) (fun hc => ?_)
  · replace hf1 := mx_t hc hf1
    exact gw_go [] (hk3 s3.2 (hx3 _ (hb3.trans hf1.symm)).symm) rfl
  · replace hf1 := mx_f hc hf1
    refine gw_aload_n C 0 d_Mod_four_7 rfl rfl ?_
    refine gw_getA C 1 d_Mod_four_8 k_o_0 (by decide) i_Mod rfl rfl (by decide) qw_1166 rfl rfl (o + 1) rfl ?_
    refine gw_aload_n C 0 d_Mod_four_11 rfl rfl ?_
    refine gw_getI C 2 d_Mod_four_12 k_o_0 (by decide) i_Mod rfl rfl (by decide) qw_1167 rfl rfl ?_
    refine gw_iload_n C 1 d_Mod_four_15 rfl rfl ?_
    refine gw_iload_n C 2 d_Mod_four_16 rfl rfl ?_
    refine gw_ishr C d_Mod_four_17 ?_
    refine gw_i2b C d_Mod_four_18 ?_
    obtain ⟨m19, hm19, hf1⟩ := mx_bd hf1
    obtain ⟨gm19, em19⟩ := mx_stI hm19
    refine gw_bast C d_Mod_four_19 k_o_1 gm19 em19 ?_
    refine gw_aload_n C 0 d_Mod_four_20 rfl rfl ?_
    refine gw_dup C d_Mod_four_21 rfl ?_
    refine gw_getI C 2 d_Mod_four_22 k_o_0 (by decide) i_Mod rfl rfl (by decide) qw_1167 rfl rfl ?_
    refine gw_iconst C (1 : Int32) d_Mod_four_25 (by decide) ?_
    refine gw_iadd C d_Mod_four_26 ?_
    obtain ⟨m27, em27, hf1⟩ := mx_lt hf1
    refine gw_putI t_Mod C 2 d_Mod_four_27 k_o_0 (by decide) i_Mod rfl rfl (by decide) qw_1167 rfl rfl t_Mod_ok n_Mod rfl (t_Mod_ok 2 (by decide)) rfl rfl em27 ?_
    obtain ⟨x30, ex30, hf1⟩ := mx_lt hf1
    refine gw_iinc C 2 [(2, .int x30), (0, .ref (ly_a L o)), (1, .int p1)] d_Mod_four_30 rfl (by rw [ex30]; rfl) (by decide) rfl ?_
    refine gw_goto C 3 d_Mod_four_33 (by decide) ?_
    exact gw_go [1, 2, 0] (ih3 (x30, m27) (hb3.trans hf1.symm)) rfl

/-! NameHatModel.feed(IIIII)I -/
abbrev b_Mod_feed : ByteArray := prog_14_method_3_code
def y_Mod_feed : MethodName := ⟨"NameHatModel", "feed", "(IIIII)I"⟩
abbrev rm_Mod_feed : Room := { frames := 1, cells := 0, slots := 0, locals := 22 }
theorem hd_Mod_feed : y_Mod_feed.cls ≠ "java/lang/invoke/MethodHandle" ∧ y_Mod_feed.cls ≠ "java/lang/invoke/VarHandle" ∧ (parseMethodDescriptor y_Mod_feed.desc).map (fun d => d.parameters.length) = some 5 := by decide +kernel
theorem d_Mod_feed_0 : decode b_Mod_feed 0 = .ok (.aload_n 0, 1) := by decide +kernel
theorem d_Mod_feed_1 : decode b_Mod_feed 1 = .ok (.iconst 0, 1) := by decide +kernel
theorem d_Mod_feed_2 : decode b_Mod_feed 2 = .ok (.putfield 1, 3) := by decide +kernel
theorem d_Mod_feed_5 : decode b_Mod_feed 5 = .ok (.aload_n 0, 1) := by decide +kernel
theorem d_Mod_feed_6 : decode b_Mod_feed 6 = .ok (.getfield 7, 3) := by decide +kernel
theorem d_Mod_feed_9 : decode b_Mod_feed 9 = .ok (.bipush 20, 2) := by decide +kernel
theorem d_Mod_feed_11 : decode b_Mod_feed 11 = .ok (.iadd, 1) := by decide +kernel
theorem d_Mod_feed_12 : decode b_Mod_feed 12 = .ok (.sipush 940, 3) := by decide +kernel
theorem d_Mod_feed_15 : decode b_Mod_feed 15 = .ok (.if_icmp .le 5, 3) := by decide +kernel
theorem d_Mod_feed_18 : decode b_Mod_feed 18 = .ok (.iconst (-1), 1) := by decide +kernel
theorem d_Mod_feed_19 : decode b_Mod_feed 19 = .ok (.ireturn, 1) := by decide +kernel
theorem d_Mod_feed_20 : decode b_Mod_feed 20 = .ok (.aload_n 0, 1) := by decide +kernel
theorem d_Mod_feed_21 : decode b_Mod_feed 21 = .ok (.iload_n 1, 1) := by decide +kernel
theorem d_Mod_feed_22 : decode b_Mod_feed 22 = .ok (.invokevirtual 10, 3) := by decide +kernel
theorem d_Mod_feed_25 : decode b_Mod_feed 25 = .ok (.aload_n 0, 1) := by decide +kernel
theorem d_Mod_feed_26 : decode b_Mod_feed 26 = .ok (.iload_n 2, 1) := by decide +kernel
theorem d_Mod_feed_27 : decode b_Mod_feed 27 = .ok (.invokevirtual 10, 3) := by decide +kernel
theorem d_Mod_feed_30 : decode b_Mod_feed 30 = .ok (.aload_n 0, 1) := by decide +kernel
theorem d_Mod_feed_31 : decode b_Mod_feed 31 = .ok (.iload_n 3, 1) := by decide +kernel
theorem d_Mod_feed_32 : decode b_Mod_feed 32 = .ok (.invokevirtual 10, 3) := by decide +kernel
theorem d_Mod_feed_35 : decode b_Mod_feed 35 = .ok (.aload_n 0, 1) := by decide +kernel
theorem d_Mod_feed_36 : decode b_Mod_feed 36 = .ok (.iload 4, 2) := by decide +kernel
theorem d_Mod_feed_38 : decode b_Mod_feed 38 = .ok (.invokevirtual 10, 3) := by decide +kernel
theorem d_Mod_feed_41 : decode b_Mod_feed 41 = .ok (.aload_n 0, 1) := by decide +kernel
theorem d_Mod_feed_42 : decode b_Mod_feed 42 = .ok (.iload 5, 2) := by decide +kernel
theorem d_Mod_feed_44 : decode b_Mod_feed 44 = .ok (.invokevirtual 10, 3) := by decide +kernel
theorem d_Mod_feed_47 : decode b_Mod_feed 47 = .ok (.aload_n 0, 1) := by decide +kernel
theorem d_Mod_feed_48 : decode b_Mod_feed 48 = .ok (.getfield 7, 3) := by decide +kernel
theorem d_Mod_feed_51 : decode b_Mod_feed 51 = .ok (.ireturn, 1) := by decide +kernel
noncomputable def f_Mod_feed (z : Nat → Nat) (σ : Mm) (o : Nat) (p1 : Int32) (p2 : Int32) (p3 : Int32) (p4 : Int32) (p5 : Int32) : Option (Int32 × Mm) :=
  mm_lt (kI σ o 0 (0 : Int32)) fun m2 =>
  if ((m2.1 o 2) + (20 : Int32)) ≤ (940 : Int32) then (
    (f_Mod_four z m2 o p1).bind fun q22 =>
    (f_Mod_four z q22 o p2).bind fun q27 =>
    (f_Mod_four z q27 o p3).bind fun q32 =>
    (f_Mod_four z q32 o p4).bind fun q38 =>
    (f_Mod_four z q38 o p5).bind fun q44 =>
    some ((q44.1 o 2), q44)
  ) else (
    some (((-1) : Int32), m2)
  )
set_option maxHeartbeats 4000000 in
set_option maxRecDepth 100000 in
theorem c_Mod_feed (l : Launch) {L : Ly} (hg : gd_ok L) {σ : Mm} {o : Nat} {p1 : Int32} {p2 : Int32} {p3 : Int32} {p4 : Int32} {p5 : Int32} (k_o_0 : ly_k L o = 11) {res : Int32 × Mm} (hf0 : f_Mod_feed (ly_z L) σ o p1 p2 p3 p4 p5 = some res) : CtI l y_Mod_feed b_Mod_feed 6 (some .int) rm_Mod_feed L [.ref (ly_a L o), .int p1, .int p2, .int p3, .int p4, .int p5] σ res.1 res.2 := by
  refine ct_i hg (by decide) (Nat.le_of_ble_eq_true rfl) ?_
  intro E A Q hE C hN
  subst hE
  unfold f_Mod_feed at hf0
  show GW E L A 6 0 0 Q σ 0 [(0, .ref (ly_a L o)), (1, .int p1), (2, .int p2), (3, .int p3), (4, .int p4), (5, .int p5)] []
  refine gw_aload_n C 0 d_Mod_feed_0 rfl rfl ?_
  refine gw_iconst C (0 : Int32) d_Mod_feed_1 (by decide) ?_
  obtain ⟨m2, em2, hf0⟩ := mx_lt hf0
  refine gw_putI t_Mod C 0 d_Mod_feed_2 k_o_0 (by decide) i_Mod rfl rfl (by decide) qw_1165 rfl rfl t_Mod_ok n_Mod rfl (t_Mod_ok 0 (by decide)) rfl rfl em2 ?_
  refine gw_aload_n C 0 d_Mod_feed_5 rfl rfl ?_
  refine gw_getI C 2 d_Mod_feed_6 k_o_0 (by decide) i_Mod rfl rfl (by decide) qw_1167 rfl rfl ?_
  refine gw_bipush C (20 : Int32) d_Mod_feed_9 (by decide) ?_
  refine gw_iadd C d_Mod_feed_11 ?_
  refine gw_sipush C (940 : Int32) d_Mod_feed_12 (by decide) ?_
  refine gw_icmp_le C 20 d_Mod_feed_15 (by decide) (fun hc => ?_) (fun hc => ?_)
  · replace hf0 := mx_t hc hf0
    refine gw_aload_n C 0 d_Mod_feed_20 rfl rfl ?_
    refine gw_iload_n C 1 d_Mod_feed_21 rfl rfl ?_
    obtain ⟨q22, hq22, hf0⟩ := mx_bd hf0
    refine gw_callV C (c_Mod_four _ hg k_o_0 hq22) d_Mod_feed_22 1 qw_1134 qw_1136 qs_36 qw_12 qw_1138 k_o_0 (by decide) rfl hd_Mod_four rfl rfl (Nat.le_of_ble_eq_true rfl) ⟨rfl, rfl, Nat.le_of_ble_eq_true rfl, Nat.le_of_ble_eq_true rfl⟩ ⟨Nat.zero_le _, Nat.zero_le _⟩ ?_
    refine gw_aload_n C 0 d_Mod_feed_25 rfl rfl ?_
    refine gw_iload_n C 2 d_Mod_feed_26 rfl rfl ?_
    obtain ⟨q27, hq27, hf0⟩ := mx_bd hf0
    refine gw_callV C (c_Mod_four _ hg k_o_0 hq27) d_Mod_feed_27 1 qw_1134 qw_1136 qs_36 qw_12 qw_1138 k_o_0 (by decide) rfl hd_Mod_four rfl rfl (Nat.le_of_ble_eq_true rfl) ⟨rfl, rfl, Nat.le_of_ble_eq_true rfl, Nat.le_of_ble_eq_true rfl⟩ ⟨Nat.zero_le _, Nat.zero_le _⟩ ?_
    refine gw_aload_n C 0 d_Mod_feed_30 rfl rfl ?_
    refine gw_iload_n C 3 d_Mod_feed_31 rfl rfl ?_
    obtain ⟨q32, hq32, hf0⟩ := mx_bd hf0
    refine gw_callV C (c_Mod_four _ hg k_o_0 hq32) d_Mod_feed_32 1 qw_1134 qw_1136 qs_36 qw_12 qw_1138 k_o_0 (by decide) rfl hd_Mod_four rfl rfl (Nat.le_of_ble_eq_true rfl) ⟨rfl, rfl, Nat.le_of_ble_eq_true rfl, Nat.le_of_ble_eq_true rfl⟩ ⟨Nat.zero_le _, Nat.zero_le _⟩ ?_
    refine gw_aload_n C 0 d_Mod_feed_35 rfl rfl ?_
    refine gw_iload C 4 d_Mod_feed_36 rfl ?_
    obtain ⟨q38, hq38, hf0⟩ := mx_bd hf0
    refine gw_callV C (c_Mod_four _ hg k_o_0 hq38) d_Mod_feed_38 1 qw_1134 qw_1136 qs_36 qw_12 qw_1138 k_o_0 (by decide) rfl hd_Mod_four rfl rfl (Nat.le_of_ble_eq_true rfl) ⟨rfl, rfl, Nat.le_of_ble_eq_true rfl, Nat.le_of_ble_eq_true rfl⟩ ⟨Nat.zero_le _, Nat.zero_le _⟩ ?_
    refine gw_aload_n C 0 d_Mod_feed_41 rfl rfl ?_
    refine gw_iload C 5 d_Mod_feed_42 rfl ?_
    obtain ⟨q44, hq44, hf0⟩ := mx_bd hf0
    refine gw_callV C (c_Mod_four _ hg k_o_0 hq44) d_Mod_feed_44 1 qw_1134 qw_1136 qs_36 qw_12 qw_1138 k_o_0 (by decide) rfl hd_Mod_four rfl rfl (Nat.le_of_ble_eq_true rfl) ⟨rfl, rfl, Nat.le_of_ble_eq_true rfl, Nat.le_of_ble_eq_true rfl⟩ ⟨Nat.zero_le _, Nat.zero_le _⟩ ?_
    refine gw_aload_n C 0 d_Mod_feed_47 rfl rfl ?_
    refine gw_getI C 2 d_Mod_feed_48 k_o_0 (by decide) i_Mod rfl rfl (by decide) qw_1167 rfl rfl ?_
    exact en_i hN hf0 d_Mod_feed_51
  · replace hf0 := mx_f hc hf0
    refine gw_iconst C ((-1) : Int32) d_Mod_feed_18 (by decide) ?_
    exact en_i hN hf0 d_Mod_feed_19

/-! NameHatModel.end(I)Z -/
abbrev b_Mod_end : ByteArray := prog_14_method_5_code
def y_Mod_end : MethodName := ⟨"NameHatModel", "end", "(I)Z"⟩
abbrev rm_Mod_end : Room := { frames := 0, cells := 0, slots := 0, locals := 0 }
theorem hd_Mod_end : y_Mod_end.cls ≠ "java/lang/invoke/MethodHandle" ∧ y_Mod_end.cls ≠ "java/lang/invoke/VarHandle" ∧ (parseMethodDescriptor y_Mod_end.desc).map (fun d => d.parameters.length) = some 1 := by decide +kernel
theorem d_Mod_end_0 : decode b_Mod_end 0 = .ok (.aload_n 0, 1) := by decide +kernel
theorem d_Mod_end_1 : decode b_Mod_end 1 = .ok (.iconst 0, 1) := by decide +kernel
theorem d_Mod_end_2 : decode b_Mod_end 2 = .ok (.putfield 1, 3) := by decide +kernel
theorem d_Mod_end_5 : decode b_Mod_end 5 = .ok (.iload_n 1, 1) := by decide +kernel
theorem d_Mod_end_6 : decode b_Mod_end 6 = .ok (.ifCond .lt 11, 3) := by decide +kernel
theorem d_Mod_end_9 : decode b_Mod_end 9 = .ok (.iload_n 1, 1) := by decide +kernel
theorem d_Mod_end_10 : decode b_Mod_end 10 = .ok (.aload_n 0, 1) := by decide +kernel
theorem d_Mod_end_11 : decode b_Mod_end 11 = .ok (.getfield 7, 3) := by decide +kernel
theorem d_Mod_end_14 : decode b_Mod_end 14 = .ok (.if_icmp .le 5, 3) := by decide +kernel
theorem d_Mod_end_17 : decode b_Mod_end 17 = .ok (.iconst 0, 1) := by decide +kernel
theorem d_Mod_end_18 : decode b_Mod_end 18 = .ok (.ireturn, 1) := by decide +kernel
theorem d_Mod_end_19 : decode b_Mod_end 19 = .ok (.aload_n 0, 1) := by decide +kernel
theorem d_Mod_end_20 : decode b_Mod_end 20 = .ok (.iload_n 1, 1) := by decide +kernel
theorem d_Mod_end_21 : decode b_Mod_end 21 = .ok (.putfield 7, 3) := by decide +kernel
theorem d_Mod_end_24 : decode b_Mod_end 24 = .ok (.iconst 1, 1) := by decide +kernel
theorem d_Mod_end_25 : decode b_Mod_end 25 = .ok (.ireturn, 1) := by decide +kernel
noncomputable def f_Mod_end (z : Nat → Nat) (σ : Mm) (o : Nat) (p1 : Int32) : Option (Int32 × Mm) :=
  mm_lt (kI σ o 0 (0 : Int32)) fun m2 =>
  if p1 < 0 then (
    some ((0 : Int32), m2)
  ) else (
    if p1 ≤ (m2.1 o 2) then (
      mm_lt (kI m2 o 2 p1) fun m21 =>
      some ((1 : Int32), m21)
    ) else (
      some ((0 : Int32), m2)
    )
  )
set_option maxHeartbeats 4000000 in
set_option maxRecDepth 100000 in
theorem c_Mod_end (l : Launch) {L : Ly} (hg : gd_ok L) {σ : Mm} {o : Nat} {p1 : Int32} (k_o_0 : ly_k L o = 11) {res : Int32 × Mm} (hf0 : f_Mod_end (ly_z L) σ o p1 = some res) : CtI l y_Mod_end b_Mod_end 2 (some .boolean) rm_Mod_end L [.ref (ly_a L o), .int p1] σ res.1 res.2 := by
  refine ct_z hg (by decide) (Nat.le_of_ble_eq_true rfl) ?_
  intro E A Q hE C hN
  subst hE
  unfold f_Mod_end at hf0
  show GW E L A 2 0 0 Q σ 0 [(0, .ref (ly_a L o)), (1, .int p1)] []
  refine gw_aload_n C 0 d_Mod_end_0 rfl rfl ?_
  refine gw_iconst C (0 : Int32) d_Mod_end_1 (by decide) ?_
  obtain ⟨m2, em2, hf0⟩ := mx_lt hf0
  refine gw_putI t_Mod C 0 d_Mod_end_2 k_o_0 (by decide) i_Mod rfl rfl (by decide) qw_1165 rfl rfl t_Mod_ok n_Mod rfl (t_Mod_ok 0 (by decide)) rfl rfl em2 ?_
  refine gw_iload_n C 1 d_Mod_end_5 rfl rfl ?_
  refine gw_if_lt C 17 d_Mod_end_6 (by decide) (fun hc => ?_) (fun hc => ?_)
  · replace hf0 := mx_t hc hf0
    refine gw_iconst C (0 : Int32) d_Mod_end_17 (by decide) ?_
    exact en_z hN (Or.inl rfl) hf0 d_Mod_end_18
  · replace hf0 := mx_f hc hf0
    refine gw_iload_n C 1 d_Mod_end_9 rfl rfl ?_
    refine gw_aload_n C 0 d_Mod_end_10 rfl rfl ?_
    refine gw_getI C 2 d_Mod_end_11 k_o_0 (by decide) i_Mod rfl rfl (by decide) qw_1167 rfl rfl ?_
    refine gw_icmp_le C 19 d_Mod_end_14 (by decide) (fun hc => ?_) (fun hc => ?_)
    · replace hf0 := mx_t hc hf0
      refine gw_aload_n C 0 d_Mod_end_19 rfl rfl ?_
      refine gw_iload_n C 1 d_Mod_end_20 rfl rfl ?_
      obtain ⟨m21, em21, hf0⟩ := mx_lt hf0
      refine gw_putI t_Mod C 2 d_Mod_end_21 k_o_0 (by decide) i_Mod rfl rfl (by decide) qw_1167 rfl rfl t_Mod_ok n_Mod rfl (t_Mod_ok 2 (by decide)) rfl rfl em21 ?_
      refine gw_iconst C (1 : Int32) d_Mod_end_24 (by decide) ?_
      exact en_z hN (Or.inr rfl) hf0 d_Mod_end_25
    · replace hf0 := mx_f hc hf0
      refine gw_iconst C (0 : Int32) d_Mod_end_17 (by decide) ?_
      exact en_z hN (Or.inl rfl) hf0 d_Mod_end_18

/-! NameHatModel.taken(I)V -/
abbrev b_Mod_taken : ByteArray := prog_14_method_6_code
def y_Mod_taken : MethodName := ⟨"NameHatModel", "taken", "(I)V"⟩
abbrev rm_Mod_taken : Room := { frames := 0, cells := 0, slots := 0, locals := 0 }
theorem hd_Mod_taken : y_Mod_taken.cls ≠ "java/lang/invoke/MethodHandle" ∧ y_Mod_taken.cls ≠ "java/lang/invoke/VarHandle" ∧ (parseMethodDescriptor y_Mod_taken.desc).map (fun d => d.parameters.length) = some 1 := by decide +kernel
theorem d_Mod_taken_0 : decode b_Mod_taken 0 = .ok (.aload_n 0, 1) := by decide +kernel
theorem d_Mod_taken_1 : decode b_Mod_taken 1 = .ok (.aload_n 0, 1) := by decide +kernel
theorem d_Mod_taken_2 : decode b_Mod_taken 2 = .ok (.getfield 7, 3) := by decide +kernel
theorem d_Mod_taken_5 : decode b_Mod_taken 5 = .ok (.putfield 18, 3) := by decide +kernel
theorem d_Mod_taken_8 : decode b_Mod_taken 8 = .ok (.aload_n 0, 1) := by decide +kernel
theorem d_Mod_taken_9 : decode b_Mod_taken 9 = .ok (.iconst 0, 1) := by decide +kernel
theorem d_Mod_taken_10 : decode b_Mod_taken 10 = .ok (.putfield 7, 3) := by decide +kernel
theorem d_Mod_taken_13 : decode b_Mod_taken 13 = .ok (.aload_n 0, 1) := by decide +kernel
theorem d_Mod_taken_14 : decode b_Mod_taken 14 = .ok (.iconst 0, 1) := by decide +kernel
theorem d_Mod_taken_15 : decode b_Mod_taken 15 = .ok (.putfield 21, 3) := by decide +kernel
theorem d_Mod_taken_18 : decode b_Mod_taken 18 = .ok (.aload_n 0, 1) := by decide +kernel
theorem d_Mod_taken_19 : decode b_Mod_taken 19 = .ok (.iload_n 1, 1) := by decide +kernel
theorem d_Mod_taken_20 : decode b_Mod_taken 20 = .ok (.putfield 24, 3) := by decide +kernel
theorem d_Mod_taken_23 : decode b_Mod_taken 23 = .ok (.return_, 1) := by decide +kernel
noncomputable def f_Mod_taken (z : Nat → Nat) (σ : Mm) (o : Nat) (p1 : Int32) : Option (Mm) :=
  mm_lt (kI σ o 3 (σ.1 o 2)) fun m5 =>
  mm_lt (kI m5 o 2 (0 : Int32)) fun m10 =>
  mm_lt (kI m10 o 4 (0 : Int32)) fun m15 =>
  mm_lt (kI m15 o 5 p1) fun m20 =>
  some m20
set_option maxHeartbeats 4000000 in
set_option maxRecDepth 100000 in
theorem c_Mod_taken (l : Launch) {L : Ly} (hg : gd_ok L) {σ : Mm} {o : Nat} {p1 : Int32} (k_o_0 : ly_k L o = 11) {res : Mm} (hf0 : f_Mod_taken (ly_z L) σ o p1 = some res) : CtV l y_Mod_taken b_Mod_taken 2 (none) rm_Mod_taken L [.ref (ly_a L o), .int p1] σ res := by
  refine ct_v hg (by decide) (Nat.le_of_ble_eq_true rfl) ?_
  intro E A Q hE C hN
  subst hE
  unfold f_Mod_taken at hf0
  show GW E L A 2 0 0 Q σ 0 [(0, .ref (ly_a L o)), (1, .int p1)] []
  refine gw_aload_n C 0 d_Mod_taken_0 rfl rfl ?_
  refine gw_aload_n C 0 d_Mod_taken_1 rfl rfl ?_
  refine gw_getI C 2 d_Mod_taken_2 k_o_0 (by decide) i_Mod rfl rfl (by decide) qw_1167 rfl rfl ?_
  obtain ⟨m5, em5, hf0⟩ := mx_lt hf0
  refine gw_putI t_Mod C 3 d_Mod_taken_5 k_o_0 (by decide) i_Mod rfl rfl (by decide) qw_1168 rfl rfl t_Mod_ok n_Mod rfl (t_Mod_ok 3 (by decide)) rfl rfl em5 ?_
  refine gw_aload_n C 0 d_Mod_taken_8 rfl rfl ?_
  refine gw_iconst C (0 : Int32) d_Mod_taken_9 (by decide) ?_
  obtain ⟨m10, em10, hf0⟩ := mx_lt hf0
  refine gw_putI t_Mod C 2 d_Mod_taken_10 k_o_0 (by decide) i_Mod rfl rfl (by decide) qw_1167 rfl rfl t_Mod_ok n_Mod rfl (t_Mod_ok 2 (by decide)) rfl rfl em10 ?_
  refine gw_aload_n C 0 d_Mod_taken_13 rfl rfl ?_
  refine gw_iconst C (0 : Int32) d_Mod_taken_14 (by decide) ?_
  obtain ⟨m15, em15, hf0⟩ := mx_lt hf0
  refine gw_putI t_Mod C 4 d_Mod_taken_15 k_o_0 (by decide) i_Mod rfl rfl (by decide) qw_1169 rfl rfl t_Mod_ok n_Mod rfl (t_Mod_ok 4 (by decide)) rfl rfl em15 ?_
  refine gw_aload_n C 0 d_Mod_taken_18 rfl rfl ?_
  refine gw_iload_n C 1 d_Mod_taken_19 rfl rfl ?_
  obtain ⟨m20, em20, hf0⟩ := mx_lt hf0
  refine gw_putI t_Mod C 5 d_Mod_taken_20 k_o_0 (by decide) i_Mod rfl rfl (by decide) qw_1170 rfl rfl t_Mod_ok n_Mod rfl (t_Mod_ok 5 (by decide)) rfl rfl em20 ?_
  exact en_v hN hf0 d_Mod_taken_23

/-! NameHatModel.isIn(III)Z -/
abbrev b_Mod_isIn : ByteArray := prog_14_method_7_code
def y_Mod_isIn : MethodName := ⟨"NameHatModel", "isIn", "(III)Z"⟩
abbrev rm_Mod_isIn : Room := { frames := 0, cells := 0, slots := 0, locals := 0 }
theorem hd_Mod_isIn : y_Mod_isIn.cls ≠ "java/lang/invoke/MethodHandle" ∧ y_Mod_isIn.cls ≠ "java/lang/invoke/VarHandle" ∧ (parseMethodDescriptor y_Mod_isIn.desc).map (fun d => d.parameters.length) = some 3 := by decide +kernel
theorem d_Mod_isIn_0 : decode b_Mod_isIn 0 = .ok (.iload_n 0, 1) := by decide +kernel
theorem d_Mod_isIn_1 : decode b_Mod_isIn 1 = .ok (.iload_n 1, 1) := by decide +kernel
theorem d_Mod_isIn_2 : decode b_Mod_isIn 2 = .ok (.if_icmp .lt 12, 3) := by decide +kernel
theorem d_Mod_isIn_5 : decode b_Mod_isIn 5 = .ok (.iload_n 0, 1) := by decide +kernel
theorem d_Mod_isIn_6 : decode b_Mod_isIn 6 = .ok (.iload_n 2, 1) := by decide +kernel
theorem d_Mod_isIn_7 : decode b_Mod_isIn 7 = .ok (.if_icmp .gt 7, 3) := by decide +kernel
theorem d_Mod_isIn_10 : decode b_Mod_isIn 10 = .ok (.iconst 1, 1) := by decide +kernel
theorem d_Mod_isIn_11 : decode b_Mod_isIn 11 = .ok (.goto 4, 3) := by decide +kernel
theorem d_Mod_isIn_14 : decode b_Mod_isIn 14 = .ok (.iconst 0, 1) := by decide +kernel
theorem d_Mod_isIn_15 : decode b_Mod_isIn 15 = .ok (.ireturn, 1) := by decide +kernel
noncomputable def f_Mod_isIn (z : Nat → Nat) (σ : Mm) (p1 : Int32) (p2 : Int32) (p3 : Int32) : Option (Int32) :=
  if p1 < p2 then (
    some (0 : Int32)
  ) else (
    if p3 < p1 then (
      some (0 : Int32)
    ) else (
      some (1 : Int32)
    )
  )
set_option maxHeartbeats 4000000 in
set_option maxRecDepth 100000 in
theorem c_Mod_isIn (l : Launch) {L : Ly} (hg : gd_ok L) {σ : Mm} {p1 : Int32} {p2 : Int32} {p3 : Int32} {res : Int32} (hf0 : f_Mod_isIn (ly_z L) σ p1 p2 p3 = some res) : CtI l y_Mod_isIn b_Mod_isIn 3 (some .boolean) rm_Mod_isIn L [.int p1, .int p2, .int p3] σ res σ := by
  refine ct_z hg (by decide) (Nat.le_of_ble_eq_true rfl) ?_
  intro E A Q hE C hN
  subst hE
  unfold f_Mod_isIn at hf0
  show GW E L A 3 0 0 Q σ 0 [(0, .int p1), (1, .int p2), (2, .int p3)] []
  refine gw_iload_n C 0 d_Mod_isIn_0 rfl rfl ?_
  refine gw_iload_n C 1 d_Mod_isIn_1 rfl rfl ?_
  refine gw_icmp_lt C 14 d_Mod_isIn_2 (by decide) (fun hc => ?_) (fun hc => ?_)
  · replace hf0 := mx_t hc hf0
    refine gw_iconst C (0 : Int32) d_Mod_isIn_14 (by decide) ?_
    exact en_zp hN (Or.inl rfl) hf0 d_Mod_isIn_15
  · replace hf0 := mx_f hc hf0
    refine gw_iload_n C 0 d_Mod_isIn_5 rfl rfl ?_
    refine gw_iload_n C 2 d_Mod_isIn_6 rfl rfl ?_
    refine gw_icmp_gt C 14 d_Mod_isIn_7 (by decide) (fun hc => ?_) (fun hc => ?_)
    · replace hf0 := mx_t hc hf0
      refine gw_iconst C (0 : Int32) d_Mod_isIn_14 (by decide) ?_
      exact en_zp hN (Or.inl rfl) hf0 d_Mod_isIn_15
    · replace hf0 := mx_f hc hf0
      refine gw_iconst C (1 : Int32) d_Mod_isIn_10 (by decide) ?_
      refine gw_goto C 15 d_Mod_isIn_11 (by decide) ?_
      exact en_zp hN (Or.inr rfl) hf0 d_Mod_isIn_15

/-! NameHatModel.has(II)Z -/
abbrev b_Mod_has : ByteArray := prog_14_method_8_code
def y_Mod_has : MethodName := ⟨"NameHatModel", "has", "(II)Z"⟩
abbrev rm_Mod_has : Room := { frames := 0, cells := 0, slots := 0, locals := 0 }
theorem hd_Mod_has : y_Mod_has.cls ≠ "java/lang/invoke/MethodHandle" ∧ y_Mod_has.cls ≠ "java/lang/invoke/VarHandle" ∧ (parseMethodDescriptor y_Mod_has.desc).map (fun d => d.parameters.length) = some 2 := by decide +kernel
theorem d_Mod_has_0 : decode b_Mod_has 0 = .ok (.iload_n 0, 1) := by decide +kernel
theorem d_Mod_has_1 : decode b_Mod_has 1 = .ok (.iload_n 1, 1) := by decide +kernel
theorem d_Mod_has_2 : decode b_Mod_has 2 = .ok (.ishr, 1) := by decide +kernel
theorem d_Mod_has_3 : decode b_Mod_has 3 = .ok (.iconst 1, 1) := by decide +kernel
theorem d_Mod_has_4 : decode b_Mod_has 4 = .ok (.iand, 1) := by decide +kernel
theorem d_Mod_has_5 : decode b_Mod_has 5 = .ok (.iconst 1, 1) := by decide +kernel
theorem d_Mod_has_6 : decode b_Mod_has 6 = .ok (.if_icmp .ne 7, 3) := by decide +kernel
theorem d_Mod_has_9 : decode b_Mod_has 9 = .ok (.iconst 1, 1) := by decide +kernel
theorem d_Mod_has_10 : decode b_Mod_has 10 = .ok (.goto 4, 3) := by decide +kernel
theorem d_Mod_has_13 : decode b_Mod_has 13 = .ok (.iconst 0, 1) := by decide +kernel
theorem d_Mod_has_14 : decode b_Mod_has 14 = .ok (.ireturn, 1) := by decide +kernel
noncomputable def f_Mod_has (z : Nat → Nat) (σ : Mm) (p1 : Int32) (p2 : Int32) : Option (Int32) :=
  if ((p1 >>> (p2 &&& 31)) &&& (1 : Int32)) = (1 : Int32) then (
    some (1 : Int32)
  ) else (
    some (0 : Int32)
  )
set_option maxHeartbeats 4000000 in
set_option maxRecDepth 100000 in
theorem c_Mod_has (l : Launch) {L : Ly} (hg : gd_ok L) {σ : Mm} {p1 : Int32} {p2 : Int32} {res : Int32} (hf0 : f_Mod_has (ly_z L) σ p1 p2 = some res) : CtI l y_Mod_has b_Mod_has 2 (some .boolean) rm_Mod_has L [.int p1, .int p2] σ res σ := by
  refine ct_z hg (by decide) (Nat.le_of_ble_eq_true rfl) ?_
  intro E A Q hE C hN
  subst hE
  unfold f_Mod_has at hf0
  show GW E L A 2 0 0 Q σ 0 [(0, .int p1), (1, .int p2)] []
  refine gw_iload_n C 0 d_Mod_has_0 rfl rfl ?_
  refine gw_iload_n C 1 d_Mod_has_1 rfl rfl ?_
  refine gw_ishr C d_Mod_has_2 ?_
  refine gw_iconst C (1 : Int32) d_Mod_has_3 (by decide) ?_
  refine gw_iand C d_Mod_has_4 ?_
  refine gw_iconst C (1 : Int32) d_Mod_has_5 (by decide) ?_
  refine gw_icmp_ne C 13 d_Mod_has_6 (by decide) (fun hc => ?_) (fun hc => ?_)
  · replace hf0 := mx_f hc hf0
    refine gw_iconst C (0 : Int32) d_Mod_has_13 (by decide) ?_
    exact en_zp hN (Or.inl rfl) hf0 d_Mod_has_14
  · replace hf0 := mx_t hc hf0
    refine gw_iconst C (1 : Int32) d_Mod_has_9 (by decide) ?_
    refine gw_goto C 14 d_Mod_has_10 (by decide) ?_
    exact en_zp hN (Or.inr rfl) hf0 d_Mod_has_14

/-! NameHatModel.bits(I)I -/
abbrev b_Mod_bits : ByteArray := prog_14_method_9_code
def y_Mod_bits : MethodName := ⟨"NameHatModel", "bits", "(I)I"⟩
abbrev rm_Mod_bits : Room := { frames := 0, cells := 0, slots := 0, locals := 0 }
theorem hd_Mod_bits : y_Mod_bits.cls ≠ "java/lang/invoke/MethodHandle" ∧ y_Mod_bits.cls ≠ "java/lang/invoke/VarHandle" ∧ (parseMethodDescriptor y_Mod_bits.desc).map (fun d => d.parameters.length) = some 1 := by decide +kernel
theorem d_Mod_bits_0 : decode b_Mod_bits 0 = .ok (.iconst 0, 1) := by decide +kernel
theorem d_Mod_bits_1 : decode b_Mod_bits 1 = .ok (.istore_n 1, 1) := by decide +kernel
theorem d_Mod_bits_2 : decode b_Mod_bits 2 = .ok (.iload_n 0, 1) := by decide +kernel
theorem d_Mod_bits_3 : decode b_Mod_bits 3 = .ok (.istore_n 2, 1) := by decide +kernel
theorem d_Mod_bits_4 : decode b_Mod_bits 4 = .ok (.iload_n 2, 1) := by decide +kernel
theorem d_Mod_bits_5 : decode b_Mod_bits 5 = .ok (.ifCond .eq 15, 3) := by decide +kernel
theorem d_Mod_bits_8 : decode b_Mod_bits 8 = .ok (.iinc 1 1, 3) := by decide +kernel
theorem d_Mod_bits_11 : decode b_Mod_bits 11 = .ok (.iload_n 2, 1) := by decide +kernel
theorem d_Mod_bits_12 : decode b_Mod_bits 12 = .ok (.iload_n 2, 1) := by decide +kernel
theorem d_Mod_bits_13 : decode b_Mod_bits 13 = .ok (.iconst 1, 1) := by decide +kernel
theorem d_Mod_bits_14 : decode b_Mod_bits 14 = .ok (.isub, 1) := by decide +kernel
theorem d_Mod_bits_15 : decode b_Mod_bits 15 = .ok (.iand, 1) := by decide +kernel
theorem d_Mod_bits_16 : decode b_Mod_bits 16 = .ok (.istore_n 2, 1) := by decide +kernel
theorem d_Mod_bits_17 : decode b_Mod_bits 17 = .ok (.goto (-13), 3) := by decide +kernel
theorem d_Mod_bits_20 : decode b_Mod_bits 20 = .ok (.iload_n 1, 1) := by decide +kernel
theorem d_Mod_bits_21 : decode b_Mod_bits 21 = .ok (.ireturn, 1) := by decide +kernel
noncomputable def f_Mod_bits_L4 (z : Nat → Nat) (σ : Mm) (s4 : Int32 × Int32) : Option ((Int32 × Int32) ⊕ (Int32)) :=
  if s4.2 = 0 then (
    some (.inr s4.1)
  ) else (
    mm_lt (s4.1 + (1 : Int32)) fun x8 =>
    mm_lt ((s4.2 &&& (s4.2 - (1 : Int32)))) fun x16 =>
    some (.inl (x8, x16))
  )
noncomputable def f_Mod_bits (z : Nat → Nat) (σ : Mm) (p1 : Int32) : Option (Int32) :=
  (mm_lp (f_Mod_bits_L4 z σ) ((0 : Int32), p1)).bind (fun q4 =>
    some q4)
set_option maxHeartbeats 4000000 in
set_option maxRecDepth 100000 in
theorem c_Mod_bits (l : Launch) {L : Ly} (hg : gd_ok L) {σ : Mm} {p1 : Int32} {res : Int32} (hf0 : f_Mod_bits (ly_z L) σ p1 = some res) : CtI l y_Mod_bits b_Mod_bits 3 (some .int) rm_Mod_bits L [.int p1] σ res σ := by
  refine ct_i hg (by decide) (Nat.le_of_ble_eq_true rfl) ?_
  intro E A Q hE C hN
  subst hE
  unfold f_Mod_bits at hf0
  show GW E L A 3 0 0 Q σ 0 [(0, .int p1)] []
  refine gw_iconst C (0 : Int32) d_Mod_bits_0 (by decide) ?_
  refine gw_istore_n C [(1, .int (0 : Int32)), (0, .int p1)] d_Mod_bits_1 rfl (by decide) rfl ?_
  refine gw_iload_n C 1 d_Mod_bits_2 rfl rfl ?_
  refine gw_istore_n C [(2, .int p1), (1, .int (0 : Int32)), (0, .int p1)] d_Mod_bits_3 rfl (by decide) rfl ?_
  obtain ⟨q4, hq4, hf0⟩ := mx_bd hf0
  have hk4 : ∀ x9, q4 = x9 → GW E L A 3 0 0 Q σ 20 [(1, .int x9)] [] := by
    intro x9 hx9
    subst hx9
    refine gw_iload_n C 0 d_Mod_bits_20 rfl rfl ?_
    exact en_ip hN hf0 d_Mod_bits_21
  refine gw_sub [1, 0] (lv' := [(1, .int (0 : Int32)), (2, .int p1)]) rfl ?_
  refine mm_rule hq4 (P := fun (s4 : Int32 × Int32) => GW E L A 3 0 0 Q σ 4 [(1, .int s4.1), (2, .int s4.2)] []) ?_
  intro s4 ih4 hx4 ⟨w4, hb4⟩
  have hf1 := hb4
  unfold f_Mod_bits_L4 at hf1
  refine gw_iload_n C 1 d_Mod_bits_4 rfl rfl ?_
  refine gw_if_eq C 20 d_Mod_bits_5 (by decide) (fun hc => ?_) (fun hc => ?_)
  · replace hf1 := mx_t hc hf1
    exact gw_go [0] (hk4 s4.1 (hx4 _ (hb4.trans hf1.symm)).symm) rfl
  · replace hf1 := mx_f hc hf1
    obtain ⟨x8, ex8, hf1⟩ := mx_lt hf1
    refine gw_iinc C 0 [(1, .int x8), (2, .int s4.2)] d_Mod_bits_8 rfl (by rw [ex8]; rfl) (by decide) rfl ?_
    refine gw_iload_n C 1 d_Mod_bits_11 rfl rfl ?_
    refine gw_iload_n C 1 d_Mod_bits_12 rfl rfl ?_
    refine gw_iconst C (1 : Int32) d_Mod_bits_13 (by decide) ?_
    refine gw_isub C d_Mod_bits_14 ?_
    refine gw_iand C d_Mod_bits_15 ?_
    obtain ⟨x16, ex16, hf1⟩ := mx_lt hf1
    refine gw_topi ex16 ?_
    refine gw_istore_n C [(2, .int x16), (1, .int x8)] d_Mod_bits_16 rfl (by decide) rfl ?_
    refine gw_goto C 4 d_Mod_bits_17 (by decide) ?_
    exact gw_go [1, 0] (ih4 (x8, x16) (hb4.trans hf1.symm)) rfl

/-! NameHatModel.octet(I)I -/
abbrev b_Mod_octet : ByteArray := prog_14_method_10_code
def y_Mod_octet : MethodName := ⟨"NameHatModel", "octet", "(I)I"⟩
abbrev rm_Mod_octet : Room := { frames := 0, cells := 0, slots := 0, locals := 0 }
theorem hd_Mod_octet : y_Mod_octet.cls ≠ "java/lang/invoke/MethodHandle" ∧ y_Mod_octet.cls ≠ "java/lang/invoke/VarHandle" ∧ (parseMethodDescriptor y_Mod_octet.desc).map (fun d => d.parameters.length) = some 1 := by decide +kernel
theorem d_Mod_octet_0 : decode b_Mod_octet 0 = .ok (.aload_n 0, 1) := by decide +kernel
theorem d_Mod_octet_1 : decode b_Mod_octet 1 = .ok (.getfield 14, 3) := by decide +kernel
theorem d_Mod_octet_4 : decode b_Mod_octet 4 = .ok (.iload_n 1, 1) := by decide +kernel
theorem d_Mod_octet_5 : decode b_Mod_octet 5 = .ok (.baload, 1) := by decide +kernel
theorem d_Mod_octet_6 : decode b_Mod_octet 6 = .ok (.sipush 255, 3) := by decide +kernel
theorem d_Mod_octet_9 : decode b_Mod_octet 9 = .ok (.iand, 1) := by decide +kernel
theorem d_Mod_octet_10 : decode b_Mod_octet 10 = .ok (.ireturn, 1) := by decide +kernel
noncomputable def f_Mod_octet (z : Nat → Nat) (σ : Mm) (o : Nat) (p1 : Int32) : Option (Int32) :=
  (mm_ldI (σ.1 (o + 1)) (z (o + 1)) p1).bind fun x5 =>
  some (x5 &&& (255 : Int32))
set_option maxHeartbeats 4000000 in
set_option maxRecDepth 100000 in
theorem c_Mod_octet (l : Launch) {L : Ly} (hg : gd_ok L) {σ : Mm} {o : Nat} {p1 : Int32} (k_o_0 : ly_k L o = 11) {res : Int32} (hf0 : f_Mod_octet (ly_z L) σ o p1 = some res) : CtI l y_Mod_octet b_Mod_octet 2 (some .int) rm_Mod_octet L [.ref (ly_a L o), .int p1] σ res σ := by
  refine ct_i hg (by decide) (Nat.le_of_ble_eq_true rfl) ?_
  intro E A Q hE C hN
  subst hE
  have k_o_1 : ly_k L (o + 1) = 22 := gd_Mod_tape hg k_o_0
  unfold f_Mod_octet at hf0
  show GW E L A 2 0 0 Q σ 0 [(0, .ref (ly_a L o)), (1, .int p1)] []
  refine gw_aload_n C 0 d_Mod_octet_0 rfl rfl ?_
  refine gw_getA C 1 d_Mod_octet_1 k_o_0 (by decide) i_Mod rfl rfl (by decide) qw_1166 rfl rfl (o + 1) rfl ?_
  refine gw_iload_n C 1 d_Mod_octet_4 rfl rfl ?_
  obtain ⟨x5, hx5, hf0⟩ := mx_bd hf0
  obtain ⟨gx5, ex5⟩ := mx_ldI hx5
  refine gw_bald C d_Mod_octet_5 k_o_1 gx5 ex5 ?_
  refine gw_sipush C (255 : Int32) d_Mod_octet_6 (by decide) ?_
  refine gw_iand C d_Mod_octet_9 ?_
  exact en_ip hN hf0 d_Mod_octet_10

/-! NameHatModel.peek()I -/
abbrev b_Mod_peek : ByteArray := prog_14_method_12_code
def y_Mod_peek : MethodName := ⟨"NameHatModel", "peek", "()I"⟩
abbrev rm_Mod_peek : Room := { frames := 0, cells := 0, slots := 0, locals := 0 }
theorem hd_Mod_peek : y_Mod_peek.cls ≠ "java/lang/invoke/MethodHandle" ∧ y_Mod_peek.cls ≠ "java/lang/invoke/VarHandle" ∧ (parseMethodDescriptor y_Mod_peek.desc).map (fun d => d.parameters.length) = some 0 := by decide +kernel
theorem d_Mod_peek_0 : decode b_Mod_peek 0 = .ok (.aload_n 0, 1) := by decide +kernel
theorem d_Mod_peek_1 : decode b_Mod_peek 1 = .ok (.getfield 21, 3) := by decide +kernel
theorem d_Mod_peek_4 : decode b_Mod_peek 4 = .ok (.aload_n 0, 1) := by decide +kernel
theorem d_Mod_peek_5 : decode b_Mod_peek 5 = .ok (.getfield 18, 3) := by decide +kernel
theorem d_Mod_peek_8 : decode b_Mod_peek 8 = .ok (.if_icmp .ge 19, 3) := by decide +kernel
theorem d_Mod_peek_11 : decode b_Mod_peek 11 = .ok (.aload_n 0, 1) := by decide +kernel
theorem d_Mod_peek_12 : decode b_Mod_peek 12 = .ok (.getfield 14, 3) := by decide +kernel
theorem d_Mod_peek_15 : decode b_Mod_peek 15 = .ok (.aload_n 0, 1) := by decide +kernel
theorem d_Mod_peek_16 : decode b_Mod_peek 16 = .ok (.getfield 21, 3) := by decide +kernel
theorem d_Mod_peek_19 : decode b_Mod_peek 19 = .ok (.baload, 1) := by decide +kernel
theorem d_Mod_peek_20 : decode b_Mod_peek 20 = .ok (.sipush 255, 3) := by decide +kernel
theorem d_Mod_peek_23 : decode b_Mod_peek 23 = .ok (.iand, 1) := by decide +kernel
theorem d_Mod_peek_24 : decode b_Mod_peek 24 = .ok (.goto 4, 3) := by decide +kernel
theorem d_Mod_peek_27 : decode b_Mod_peek 27 = .ok (.iconst (-1), 1) := by decide +kernel
theorem d_Mod_peek_28 : decode b_Mod_peek 28 = .ok (.ireturn, 1) := by decide +kernel
noncomputable def f_Mod_peek (z : Nat → Nat) (σ : Mm) (o : Nat) : Option (Int32) :=
  if (σ.1 o 3) ≤ (σ.1 o 4) then (
    some ((-1) : Int32)
  ) else (
    (mm_ldI (σ.1 (o + 1)) (z (o + 1)) (σ.1 o 4)).bind fun x19 =>
    some (x19 &&& (255 : Int32))
  )
set_option maxHeartbeats 4000000 in
set_option maxRecDepth 100000 in
theorem c_Mod_peek (l : Launch) {L : Ly} (hg : gd_ok L) {σ : Mm} {o : Nat} (k_o_0 : ly_k L o = 11) {res : Int32} (hf0 : f_Mod_peek (ly_z L) σ o = some res) : CtI l y_Mod_peek b_Mod_peek 1 (some .int) rm_Mod_peek L [.ref (ly_a L o)] σ res σ := by
  refine ct_i hg (by decide) (Nat.le_of_ble_eq_true rfl) ?_
  intro E A Q hE C hN
  subst hE
  have k_o_1 : ly_k L (o + 1) = 22 := gd_Mod_tape hg k_o_0
  unfold f_Mod_peek at hf0
  show GW E L A 1 0 0 Q σ 0 [(0, .ref (ly_a L o))] []
  refine gw_aload_n C 0 d_Mod_peek_0 rfl rfl ?_
  refine gw_getI C 4 d_Mod_peek_1 k_o_0 (by decide) i_Mod rfl rfl (by decide) qw_1169 rfl rfl ?_
  refine gw_aload_n C 0 d_Mod_peek_4 rfl rfl ?_
  refine gw_getI C 3 d_Mod_peek_5 k_o_0 (by decide) i_Mod rfl rfl (by decide) qw_1168 rfl rfl ?_
  refine gw_icmp_ge C 27 d_Mod_peek_8 (by decide) (fun hc => ?_) (fun hc => ?_)
  · replace hf0 := mx_t hc hf0
    refine gw_iconst C ((-1) : Int32) d_Mod_peek_27 (by decide) ?_
    exact en_ip hN hf0 d_Mod_peek_28
  · replace hf0 := mx_f hc hf0
    refine gw_aload_n C 0 d_Mod_peek_11 rfl rfl ?_
    refine gw_getA C 1 d_Mod_peek_12 k_o_0 (by decide) i_Mod rfl rfl (by decide) qw_1166 rfl rfl (o + 1) rfl ?_
    refine gw_aload_n C 0 d_Mod_peek_15 rfl rfl ?_
    refine gw_getI C 4 d_Mod_peek_16 k_o_0 (by decide) i_Mod rfl rfl (by decide) qw_1169 rfl rfl ?_
    obtain ⟨x19, hx19, hf0⟩ := mx_bd hf0
    obtain ⟨gx19, ex19⟩ := mx_ldI hx19
    refine gw_bald C d_Mod_peek_19 k_o_1 gx19 ex19 ?_
    refine gw_sipush C (255 : Int32) d_Mod_peek_20 (by decide) ?_
    refine gw_iand C d_Mod_peek_23 ?_
    refine gw_goto C 28 d_Mod_peek_24 (by decide) ?_
    exact en_ip hN hf0 d_Mod_peek_28

/-! NameHatModel.isSmall(I)Z -/
abbrev b_Mod_isSmall : ByteArray := prog_14_method_13_code
def y_Mod_isSmall : MethodName := ⟨"NameHatModel", "isSmall", "(I)Z"⟩
abbrev rm_Mod_isSmall : Room := { frames := 0, cells := 0, slots := 0, locals := 0 }
theorem hd_Mod_isSmall : y_Mod_isSmall.cls ≠ "java/lang/invoke/MethodHandle" ∧ y_Mod_isSmall.cls ≠ "java/lang/invoke/VarHandle" ∧ (parseMethodDescriptor y_Mod_isSmall.desc).map (fun d => d.parameters.length) = some 1 := by decide +kernel
theorem d_Mod_isSmall_0 : decode b_Mod_isSmall 0 = .ok (.iload_n 0, 1) := by decide +kernel
theorem d_Mod_isSmall_1 : decode b_Mod_isSmall 1 = .ok (.bipush 97, 2) := by decide +kernel
theorem d_Mod_isSmall_3 : decode b_Mod_isSmall 3 = .ok (.if_icmp .lt 13, 3) := by decide +kernel
theorem d_Mod_isSmall_6 : decode b_Mod_isSmall 6 = .ok (.iload_n 0, 1) := by decide +kernel
theorem d_Mod_isSmall_7 : decode b_Mod_isSmall 7 = .ok (.bipush 122, 2) := by decide +kernel
theorem d_Mod_isSmall_9 : decode b_Mod_isSmall 9 = .ok (.if_icmp .gt 7, 3) := by decide +kernel
theorem d_Mod_isSmall_12 : decode b_Mod_isSmall 12 = .ok (.iconst 1, 1) := by decide +kernel
theorem d_Mod_isSmall_13 : decode b_Mod_isSmall 13 = .ok (.goto 4, 3) := by decide +kernel
theorem d_Mod_isSmall_16 : decode b_Mod_isSmall 16 = .ok (.iconst 0, 1) := by decide +kernel
theorem d_Mod_isSmall_17 : decode b_Mod_isSmall 17 = .ok (.ireturn, 1) := by decide +kernel
noncomputable def f_Mod_isSmall (z : Nat → Nat) (σ : Mm) (p1 : Int32) : Option (Int32) :=
  if p1 < (97 : Int32) then (
    some (0 : Int32)
  ) else (
    if (122 : Int32) < p1 then (
      some (0 : Int32)
    ) else (
      some (1 : Int32)
    )
  )
set_option maxHeartbeats 4000000 in
set_option maxRecDepth 100000 in
theorem c_Mod_isSmall (l : Launch) {L : Ly} (hg : gd_ok L) {σ : Mm} {p1 : Int32} {res : Int32} (hf0 : f_Mod_isSmall (ly_z L) σ p1 = some res) : CtI l y_Mod_isSmall b_Mod_isSmall 1 (some .boolean) rm_Mod_isSmall L [.int p1] σ res σ := by
  refine ct_z hg (by decide) (Nat.le_of_ble_eq_true rfl) ?_
  intro E A Q hE C hN
  subst hE
  unfold f_Mod_isSmall at hf0
  show GW E L A 1 0 0 Q σ 0 [(0, .int p1)] []
  refine gw_iload_n C 0 d_Mod_isSmall_0 rfl rfl ?_
  refine gw_bipush C (97 : Int32) d_Mod_isSmall_1 (by decide) ?_
  refine gw_icmp_lt C 16 d_Mod_isSmall_3 (by decide) (fun hc => ?_) (fun hc => ?_)
  · replace hf0 := mx_t hc hf0
    refine gw_iconst C (0 : Int32) d_Mod_isSmall_16 (by decide) ?_
    exact en_zp hN (Or.inl rfl) hf0 d_Mod_isSmall_17
  · replace hf0 := mx_f hc hf0
    refine gw_iload_n C 0 d_Mod_isSmall_6 rfl rfl ?_
    refine gw_bipush C (122 : Int32) d_Mod_isSmall_7 (by decide) ?_
    refine gw_icmp_gt C 16 d_Mod_isSmall_9 (by decide) (fun hc => ?_) (fun hc => ?_)
    · replace hf0 := mx_t hc hf0
      refine gw_iconst C (0 : Int32) d_Mod_isSmall_16 (by decide) ?_
      exact en_zp hN (Or.inl rfl) hf0 d_Mod_isSmall_17
    · replace hf0 := mx_f hc hf0
      refine gw_iconst C (1 : Int32) d_Mod_isSmall_12 (by decide) ?_
      refine gw_goto C 17 d_Mod_isSmall_13 (by decide) ?_
      exact en_zp hN (Or.inr rfl) hf0 d_Mod_isSmall_17

/-! NameHatModel.isDigit(I)Z -/
abbrev b_Mod_isDigit : ByteArray := prog_14_method_14_code
def y_Mod_isDigit : MethodName := ⟨"NameHatModel", "isDigit", "(I)Z"⟩
abbrev rm_Mod_isDigit : Room := { frames := 0, cells := 0, slots := 0, locals := 0 }
theorem hd_Mod_isDigit : y_Mod_isDigit.cls ≠ "java/lang/invoke/MethodHandle" ∧ y_Mod_isDigit.cls ≠ "java/lang/invoke/VarHandle" ∧ (parseMethodDescriptor y_Mod_isDigit.desc).map (fun d => d.parameters.length) = some 1 := by decide +kernel
theorem d_Mod_isDigit_0 : decode b_Mod_isDigit 0 = .ok (.iload_n 0, 1) := by decide +kernel
theorem d_Mod_isDigit_1 : decode b_Mod_isDigit 1 = .ok (.bipush 48, 2) := by decide +kernel
theorem d_Mod_isDigit_3 : decode b_Mod_isDigit 3 = .ok (.if_icmp .lt 13, 3) := by decide +kernel
theorem d_Mod_isDigit_6 : decode b_Mod_isDigit 6 = .ok (.iload_n 0, 1) := by decide +kernel
theorem d_Mod_isDigit_7 : decode b_Mod_isDigit 7 = .ok (.bipush 57, 2) := by decide +kernel
theorem d_Mod_isDigit_9 : decode b_Mod_isDigit 9 = .ok (.if_icmp .gt 7, 3) := by decide +kernel
theorem d_Mod_isDigit_12 : decode b_Mod_isDigit 12 = .ok (.iconst 1, 1) := by decide +kernel
theorem d_Mod_isDigit_13 : decode b_Mod_isDigit 13 = .ok (.goto 4, 3) := by decide +kernel
theorem d_Mod_isDigit_16 : decode b_Mod_isDigit 16 = .ok (.iconst 0, 1) := by decide +kernel
theorem d_Mod_isDigit_17 : decode b_Mod_isDigit 17 = .ok (.ireturn, 1) := by decide +kernel
noncomputable def f_Mod_isDigit (z : Nat → Nat) (σ : Mm) (p1 : Int32) : Option (Int32) :=
  if p1 < (48 : Int32) then (
    some (0 : Int32)
  ) else (
    if (57 : Int32) < p1 then (
      some (0 : Int32)
    ) else (
      some (1 : Int32)
    )
  )
set_option maxHeartbeats 4000000 in
set_option maxRecDepth 100000 in
theorem c_Mod_isDigit (l : Launch) {L : Ly} (hg : gd_ok L) {σ : Mm} {p1 : Int32} {res : Int32} (hf0 : f_Mod_isDigit (ly_z L) σ p1 = some res) : CtI l y_Mod_isDigit b_Mod_isDigit 1 (some .boolean) rm_Mod_isDigit L [.int p1] σ res σ := by
  refine ct_z hg (by decide) (Nat.le_of_ble_eq_true rfl) ?_
  intro E A Q hE C hN
  subst hE
  unfold f_Mod_isDigit at hf0
  show GW E L A 1 0 0 Q σ 0 [(0, .int p1)] []
  refine gw_iload_n C 0 d_Mod_isDigit_0 rfl rfl ?_
  refine gw_bipush C (48 : Int32) d_Mod_isDigit_1 (by decide) ?_
  refine gw_icmp_lt C 16 d_Mod_isDigit_3 (by decide) (fun hc => ?_) (fun hc => ?_)
  · replace hf0 := mx_t hc hf0
    refine gw_iconst C (0 : Int32) d_Mod_isDigit_16 (by decide) ?_
    exact en_zp hN (Or.inl rfl) hf0 d_Mod_isDigit_17
  · replace hf0 := mx_f hc hf0
    refine gw_iload_n C 0 d_Mod_isDigit_6 rfl rfl ?_
    refine gw_bipush C (57 : Int32) d_Mod_isDigit_7 (by decide) ?_
    refine gw_icmp_gt C 16 d_Mod_isDigit_9 (by decide) (fun hc => ?_) (fun hc => ?_)
    · replace hf0 := mx_t hc hf0
      refine gw_iconst C (0 : Int32) d_Mod_isDigit_16 (by decide) ?_
      exact en_zp hN (Or.inl rfl) hf0 d_Mod_isDigit_17
    · replace hf0 := mx_f hc hf0
      refine gw_iconst C (1 : Int32) d_Mod_isDigit_12 (by decide) ?_
      refine gw_goto C 17 d_Mod_isDigit_13 (by decide) ?_
      exact en_zp hN (Or.inr rfl) hf0 d_Mod_isDigit_17

/-! NameHatModel.next()V -/
abbrev b_Mod_next : ByteArray := prog_14_method_15_code
def y_Mod_next : MethodName := ⟨"NameHatModel", "next", "()V"⟩
abbrev rm_Mod_next : Room := { frames := 1, cells := 0, slots := 0, locals := 20 }
theorem hd_Mod_next : y_Mod_next.cls ≠ "java/lang/invoke/MethodHandle" ∧ y_Mod_next.cls ≠ "java/lang/invoke/VarHandle" ∧ (parseMethodDescriptor y_Mod_next.desc).map (fun d => d.parameters.length) = some 0 := by decide +kernel
theorem d_Mod_next_0 : decode b_Mod_next 0 = .ok (.aload_n 0, 1) := by decide +kernel
theorem d_Mod_next_1 : decode b_Mod_next 1 = .ok (.invokevirtual 133, 3) := by decide +kernel
theorem d_Mod_next_4 : decode b_Mod_next 4 = .ok (.bipush 32, 2) := by decide +kernel
theorem d_Mod_next_6 : decode b_Mod_next 6 = .ok (.if_icmp .eq 12, 3) := by decide +kernel
theorem d_Mod_next_9 : decode b_Mod_next 9 = .ok (.aload_n 0, 1) := by decide +kernel
theorem d_Mod_next_10 : decode b_Mod_next 10 = .ok (.invokevirtual 133, 3) := by decide +kernel
theorem d_Mod_next_13 : decode b_Mod_next 13 = .ok (.bipush 10, 2) := by decide +kernel
theorem d_Mod_next_15 : decode b_Mod_next 15 = .ok (.if_icmp .ne 16, 3) := by decide +kernel
theorem d_Mod_next_18 : decode b_Mod_next 18 = .ok (.aload_n 0, 1) := by decide +kernel
theorem d_Mod_next_19 : decode b_Mod_next 19 = .ok (.dup, 1) := by decide +kernel
theorem d_Mod_next_20 : decode b_Mod_next 20 = .ok (.getfield 21, 3) := by decide +kernel
theorem d_Mod_next_23 : decode b_Mod_next 23 = .ok (.iconst 1, 1) := by decide +kernel
theorem d_Mod_next_24 : decode b_Mod_next 24 = .ok (.iadd, 1) := by decide +kernel
theorem d_Mod_next_25 : decode b_Mod_next 25 = .ok (.putfield 21, 3) := by decide +kernel
theorem d_Mod_next_28 : decode b_Mod_next 28 = .ok (.goto (-28), 3) := by decide +kernel
theorem d_Mod_next_31 : decode b_Mod_next 31 = .ok (.aload_n 0, 1) := by decide +kernel
theorem d_Mod_next_32 : decode b_Mod_next 32 = .ok (.aload_n 0, 1) := by decide +kernel
theorem d_Mod_next_33 : decode b_Mod_next 33 = .ok (.getfield 21, 3) := by decide +kernel
theorem d_Mod_next_36 : decode b_Mod_next 36 = .ok (.putfield 137, 3) := by decide +kernel
theorem d_Mod_next_39 : decode b_Mod_next 39 = .ok (.aload_n 0, 1) := by decide +kernel
theorem d_Mod_next_40 : decode b_Mod_next 40 = .ok (.iconst 0, 1) := by decide +kernel
theorem d_Mod_next_41 : decode b_Mod_next 41 = .ok (.putfield 140, 3) := by decide +kernel
theorem d_Mod_next_44 : decode b_Mod_next 44 = .ok (.aload_n 0, 1) := by decide +kernel
theorem d_Mod_next_45 : decode b_Mod_next 45 = .ok (.getfield 18, 3) := by decide +kernel
theorem d_Mod_next_48 : decode b_Mod_next 48 = .ok (.aload_n 0, 1) := by decide +kernel
theorem d_Mod_next_49 : decode b_Mod_next 49 = .ok (.getfield 24, 3) := by decide +kernel
theorem d_Mod_next_52 : decode b_Mod_next 52 = .ok (.if_icmp .le 28, 3) := by decide +kernel
theorem d_Mod_next_55 : decode b_Mod_next 55 = .ok (.aload_n 0, 1) := by decide +kernel
theorem d_Mod_next_56 : decode b_Mod_next 56 = .ok (.getfield 21, 3) := by decide +kernel
theorem d_Mod_next_59 : decode b_Mod_next 59 = .ok (.aload_n 0, 1) := by decide +kernel
theorem d_Mod_next_60 : decode b_Mod_next 60 = .ok (.getfield 24, 3) := by decide +kernel
theorem d_Mod_next_63 : decode b_Mod_next 63 = .ok (.if_icmp .lt 17, 3) := by decide +kernel
theorem d_Mod_next_66 : decode b_Mod_next 66 = .ok (.aload_n 0, 1) := by decide +kernel
theorem d_Mod_next_67 : decode b_Mod_next 67 = .ok (.aload_n 0, 1) := by decide +kernel
theorem d_Mod_next_68 : decode b_Mod_next 68 = .ok (.getfield 24, 3) := by decide +kernel
theorem d_Mod_next_71 : decode b_Mod_next 71 = .ok (.putfield 137, 3) := by decide +kernel
theorem d_Mod_next_74 : decode b_Mod_next 74 = .ok (.aload_n 0, 1) := by decide +kernel
theorem d_Mod_next_75 : decode b_Mod_next 75 = .ok (.iconst 4, 1) := by decide +kernel
theorem d_Mod_next_76 : decode b_Mod_next 76 = .ok (.putfield 143, 3) := by decide +kernel
theorem d_Mod_next_79 : decode b_Mod_next 79 = .ok (.return_, 1) := by decide +kernel
theorem d_Mod_next_80 : decode b_Mod_next 80 = .ok (.aload_n 0, 1) := by decide +kernel
theorem d_Mod_next_81 : decode b_Mod_next 81 = .ok (.invokevirtual 133, 3) := by decide +kernel
theorem d_Mod_next_84 : decode b_Mod_next 84 = .ok (.istore_n 1, 1) := by decide +kernel
theorem d_Mod_next_85 : decode b_Mod_next 85 = .ok (.iload_n 1, 1) := by decide +kernel
theorem d_Mod_next_86 : decode b_Mod_next 86 = .ok (.ifCond .ge 9, 3) := by decide +kernel
theorem d_Mod_next_89 : decode b_Mod_next 89 = .ok (.aload_n 0, 1) := by decide +kernel
theorem d_Mod_next_90 : decode b_Mod_next 90 = .ok (.iconst 0, 1) := by decide +kernel
theorem d_Mod_next_91 : decode b_Mod_next 91 = .ok (.putfield 143, 3) := by decide +kernel
theorem d_Mod_next_94 : decode b_Mod_next 94 = .ok (.return_, 1) := by decide +kernel
theorem d_Mod_next_95 : decode b_Mod_next 95 = .ok (.iload_n 1, 1) := by decide +kernel
theorem d_Mod_next_96 : decode b_Mod_next 96 = .ok (.invokestatic 146, 3) := by decide +kernel
theorem d_Mod_next_99 : decode b_Mod_next 99 = .ok (.ifCond .ne 41, 3) := by decide +kernel
theorem d_Mod_next_102 : decode b_Mod_next 102 = .ok (.iload_n 1, 1) := by decide +kernel
theorem d_Mod_next_103 : decode b_Mod_next 103 = .ok (.invokestatic 150, 3) := by decide +kernel
theorem d_Mod_next_106 : decode b_Mod_next 106 = .ok (.ifCond .ne 34, 3) := by decide +kernel
theorem d_Mod_next_109 : decode b_Mod_next 109 = .ok (.aload_n 0, 1) := by decide +kernel
theorem d_Mod_next_110 : decode b_Mod_next 110 = .ok (.iload_n 1, 1) := by decide +kernel
theorem d_Mod_next_111 : decode b_Mod_next 111 = .ok (.bipush 59, 2) := by decide +kernel
theorem d_Mod_next_113 : decode b_Mod_next 113 = .ok (.if_icmp .ne 7, 3) := by decide +kernel
theorem d_Mod_next_116 : decode b_Mod_next 116 = .ok (.iconst 3, 1) := by decide +kernel
theorem d_Mod_next_117 : decode b_Mod_next 117 = .ok (.goto 4, 3) := by decide +kernel
theorem d_Mod_next_120 : decode b_Mod_next 120 = .ok (.iconst 4, 1) := by decide +kernel
theorem d_Mod_next_121 : decode b_Mod_next 121 = .ok (.putfield 143, 3) := by decide +kernel
theorem d_Mod_next_124 : decode b_Mod_next 124 = .ok (.aload_n 0, 1) := by decide +kernel
theorem d_Mod_next_125 : decode b_Mod_next 125 = .ok (.iload_n 1, 1) := by decide +kernel
theorem d_Mod_next_126 : decode b_Mod_next 126 = .ok (.putfield 153, 3) := by decide +kernel
theorem d_Mod_next_129 : decode b_Mod_next 129 = .ok (.aload_n 0, 1) := by decide +kernel
theorem d_Mod_next_130 : decode b_Mod_next 130 = .ok (.dup, 1) := by decide +kernel
theorem d_Mod_next_131 : decode b_Mod_next 131 = .ok (.getfield 21, 3) := by decide +kernel
theorem d_Mod_next_134 : decode b_Mod_next 134 = .ok (.iconst 1, 1) := by decide +kernel
theorem d_Mod_next_135 : decode b_Mod_next 135 = .ok (.iadd, 1) := by decide +kernel
theorem d_Mod_next_136 : decode b_Mod_next 136 = .ok (.putfield 21, 3) := by decide +kernel
theorem d_Mod_next_139 : decode b_Mod_next 139 = .ok (.return_, 1) := by decide +kernel
theorem d_Mod_next_140 : decode b_Mod_next 140 = .ok (.iload_n 1, 1) := by decide +kernel
theorem d_Mod_next_141 : decode b_Mod_next 141 = .ok (.invokestatic 146, 3) := by decide +kernel
theorem d_Mod_next_144 : decode b_Mod_next 144 = .ok (.istore_n 2, 1) := by decide +kernel
theorem d_Mod_next_145 : decode b_Mod_next 145 = .ok (.iconst 1, 1) := by decide +kernel
theorem d_Mod_next_146 : decode b_Mod_next 146 = .ok (.istore_n 3, 1) := by decide +kernel
theorem d_Mod_next_147 : decode b_Mod_next 147 = .ok (.aload_n 0, 1) := by decide +kernel
theorem d_Mod_next_148 : decode b_Mod_next 148 = .ok (.lconst 0, 1) := by decide +kernel
theorem d_Mod_next_149 : decode b_Mod_next 149 = .ok (.putfield 156, 3) := by decide +kernel
theorem d_Mod_next_152 : decode b_Mod_next 152 = .ok (.aload_n 0, 1) := by decide +kernel
theorem d_Mod_next_153 : decode b_Mod_next 153 = .ok (.iconst 0, 1) := by decide +kernel
theorem d_Mod_next_154 : decode b_Mod_next 154 = .ok (.putfield 153, 3) := by decide +kernel
theorem d_Mod_next_157 : decode b_Mod_next 157 = .ok (.aload_n 0, 1) := by decide +kernel
theorem d_Mod_next_158 : decode b_Mod_next 158 = .ok (.invokevirtual 133, 3) := by decide +kernel
theorem d_Mod_next_161 : decode b_Mod_next 161 = .ok (.invokestatic 146, 3) := by decide +kernel
theorem d_Mod_next_164 : decode b_Mod_next 164 = .ok (.ifCond .ne 13, 3) := by decide +kernel
theorem d_Mod_next_167 : decode b_Mod_next 167 = .ok (.aload_n 0, 1) := by decide +kernel
theorem d_Mod_next_168 : decode b_Mod_next 168 = .ok (.invokevirtual 133, 3) := by decide +kernel
theorem d_Mod_next_171 : decode b_Mod_next 171 = .ok (.invokestatic 150, 3) := by decide +kernel
theorem d_Mod_next_174 : decode b_Mod_next 174 = .ok (.ifCond .eq 100, 3) := by decide +kernel
theorem d_Mod_next_177 : decode b_Mod_next 177 = .ok (.iload_n 3, 1) := by decide +kernel
theorem d_Mod_next_178 : decode b_Mod_next 178 = .ok (.ifCond .eq 18, 3) := by decide +kernel
theorem d_Mod_next_181 : decode b_Mod_next 181 = .ok (.aload_n 0, 1) := by decide +kernel
theorem d_Mod_next_182 : decode b_Mod_next 182 = .ok (.invokevirtual 133, 3) := by decide +kernel
theorem d_Mod_next_185 : decode b_Mod_next 185 = .ok (.invokestatic 146, 3) := by decide +kernel
theorem d_Mod_next_188 : decode b_Mod_next 188 = .ok (.iload_n 2, 1) := by decide +kernel
theorem d_Mod_next_189 : decode b_Mod_next 189 = .ok (.if_icmp .ne 7, 3) := by decide +kernel
theorem d_Mod_next_192 : decode b_Mod_next 192 = .ok (.iconst 1, 1) := by decide +kernel
theorem d_Mod_next_193 : decode b_Mod_next 193 = .ok (.goto 4, 3) := by decide +kernel
theorem d_Mod_next_196 : decode b_Mod_next 196 = .ok (.iconst 0, 1) := by decide +kernel
theorem d_Mod_next_197 : decode b_Mod_next 197 = .ok (.istore_n 3, 1) := by decide +kernel
theorem d_Mod_next_198 : decode b_Mod_next 198 = .ok (.aload_n 0, 1) := by decide +kernel
theorem d_Mod_next_199 : decode b_Mod_next 199 = .ok (.getfield 140, 3) := by decide +kernel
theorem d_Mod_next_202 : decode b_Mod_next 202 = .ok (.bipush 7, 2) := by decide +kernel
theorem d_Mod_next_204 : decode b_Mod_next 204 = .ok (.if_icmp .ge 20, 3) := by decide +kernel
theorem d_Mod_next_207 : decode b_Mod_next 207 = .ok (.aload_n 0, 1) := by decide +kernel
theorem d_Mod_next_208 : decode b_Mod_next 208 = .ok (.aload_n 0, 1) := by decide +kernel
theorem d_Mod_next_209 : decode b_Mod_next 209 = .ok (.getfield 156, 3) := by decide +kernel
theorem d_Mod_next_212 : decode b_Mod_next 212 = .ok (.bipush 8, 2) := by decide +kernel
theorem d_Mod_next_214 : decode b_Mod_next 214 = .ok (.lshl, 1) := by decide +kernel
theorem d_Mod_next_215 : decode b_Mod_next 215 = .ok (.aload_n 0, 1) := by decide +kernel
theorem d_Mod_next_216 : decode b_Mod_next 216 = .ok (.invokevirtual 133, 3) := by decide +kernel
theorem d_Mod_next_219 : decode b_Mod_next 219 = .ok (.i2l, 1) := by decide +kernel
theorem d_Mod_next_220 : decode b_Mod_next 220 = .ok (.lor, 1) := by decide +kernel
theorem d_Mod_next_221 : decode b_Mod_next 221 = .ok (.putfield 156, 3) := by decide +kernel
theorem d_Mod_next_224 : decode b_Mod_next 224 = .ok (.aload_n 0, 1) := by decide +kernel
theorem d_Mod_next_225 : decode b_Mod_next 225 = .ok (.getfield 140, 3) := by decide +kernel
theorem d_Mod_next_228 : decode b_Mod_next 228 = .ok (.iconst 2, 1) := by decide +kernel
theorem d_Mod_next_229 : decode b_Mod_next 229 = .ok (.if_icmp .ge 22, 3) := by decide +kernel
theorem d_Mod_next_232 : decode b_Mod_next 232 = .ok (.aload_n 0, 1) := by decide +kernel
theorem d_Mod_next_233 : decode b_Mod_next 233 = .ok (.bipush 10, 2) := by decide +kernel
theorem d_Mod_next_235 : decode b_Mod_next 235 = .ok (.aload_n 0, 1) := by decide +kernel
theorem d_Mod_next_236 : decode b_Mod_next 236 = .ok (.getfield 153, 3) := by decide +kernel
theorem d_Mod_next_239 : decode b_Mod_next 239 = .ok (.imul, 1) := by decide +kernel
theorem d_Mod_next_240 : decode b_Mod_next 240 = .ok (.aload_n 0, 1) := by decide +kernel
theorem d_Mod_next_241 : decode b_Mod_next 241 = .ok (.invokevirtual 133, 3) := by decide +kernel
theorem d_Mod_next_244 : decode b_Mod_next 244 = .ok (.iadd, 1) := by decide +kernel
theorem d_Mod_next_245 : decode b_Mod_next 245 = .ok (.bipush 48, 2) := by decide +kernel
theorem d_Mod_next_247 : decode b_Mod_next 247 = .ok (.isub, 1) := by decide +kernel
theorem d_Mod_next_248 : decode b_Mod_next 248 = .ok (.putfield 153, 3) := by decide +kernel
theorem d_Mod_next_251 : decode b_Mod_next 251 = .ok (.aload_n 0, 1) := by decide +kernel
theorem d_Mod_next_252 : decode b_Mod_next 252 = .ok (.dup, 1) := by decide +kernel
theorem d_Mod_next_253 : decode b_Mod_next 253 = .ok (.getfield 140, 3) := by decide +kernel
theorem d_Mod_next_256 : decode b_Mod_next 256 = .ok (.iconst 1, 1) := by decide +kernel
theorem d_Mod_next_257 : decode b_Mod_next 257 = .ok (.iadd, 1) := by decide +kernel
theorem d_Mod_next_258 : decode b_Mod_next 258 = .ok (.putfield 140, 3) := by decide +kernel
theorem d_Mod_next_261 : decode b_Mod_next 261 = .ok (.aload_n 0, 1) := by decide +kernel
theorem d_Mod_next_262 : decode b_Mod_next 262 = .ok (.dup, 1) := by decide +kernel
theorem d_Mod_next_263 : decode b_Mod_next 263 = .ok (.getfield 21, 3) := by decide +kernel
theorem d_Mod_next_266 : decode b_Mod_next 266 = .ok (.iconst 1, 1) := by decide +kernel
theorem d_Mod_next_267 : decode b_Mod_next 267 = .ok (.iadd, 1) := by decide +kernel
theorem d_Mod_next_268 : decode b_Mod_next 268 = .ok (.putfield 21, 3) := by decide +kernel
theorem d_Mod_next_271 : decode b_Mod_next 271 = .ok (.goto (-114), 3) := by decide +kernel
theorem d_Mod_next_274 : decode b_Mod_next 274 = .ok (.aload_n 0, 1) := by decide +kernel
theorem d_Mod_next_275 : decode b_Mod_next 275 = .ok (.iload_n 3, 1) := by decide +kernel
theorem d_Mod_next_276 : decode b_Mod_next 276 = .ok (.ifCond .eq 20, 3) := by decide +kernel
theorem d_Mod_next_279 : decode b_Mod_next 279 = .ok (.aload_n 0, 1) := by decide +kernel
theorem d_Mod_next_280 : decode b_Mod_next 280 = .ok (.getfield 140, 3) := by decide +kernel
theorem d_Mod_next_283 : decode b_Mod_next 283 = .ok (.iload_n 2, 1) := by decide +kernel
theorem d_Mod_next_284 : decode b_Mod_next 284 = .ok (.ifCond .eq 8, 3) := by decide +kernel
theorem d_Mod_next_287 : decode b_Mod_next 287 = .ok (.bipush 7, 2) := by decide +kernel
theorem d_Mod_next_289 : decode b_Mod_next 289 = .ok (.goto 4, 3) := by decide +kernel
theorem d_Mod_next_292 : decode b_Mod_next 292 = .ok (.iconst 2, 1) := by decide +kernel
theorem d_Mod_next_293 : decode b_Mod_next 293 = .ok (.if_icmp .le 7, 3) := by decide +kernel
theorem d_Mod_next_296 : decode b_Mod_next 296 = .ok (.iconst 4, 1) := by decide +kernel
theorem d_Mod_next_297 : decode b_Mod_next 297 = .ok (.goto 12, 3) := by decide +kernel
theorem d_Mod_next_300 : decode b_Mod_next 300 = .ok (.iload_n 2, 1) := by decide +kernel
theorem d_Mod_next_301 : decode b_Mod_next 301 = .ok (.ifCond .eq 7, 3) := by decide +kernel
theorem d_Mod_next_304 : decode b_Mod_next 304 = .ok (.iconst 1, 1) := by decide +kernel
theorem d_Mod_next_305 : decode b_Mod_next 305 = .ok (.goto 4, 3) := by decide +kernel
theorem d_Mod_next_308 : decode b_Mod_next 308 = .ok (.iconst 2, 1) := by decide +kernel
theorem d_Mod_next_309 : decode b_Mod_next 309 = .ok (.putfield 143, 3) := by decide +kernel
theorem d_Mod_next_312 : decode b_Mod_next 312 = .ok (.return_, 1) := by decide +kernel
noncomputable def f_Mod_next_J293 (z : Nat → Nat) (o : Nat) (v2 : Int32) (t293_1 : Int32) (t293_2 : Int32) (m293 : Mm) : Option (Mm) :=
  if t293_1 ≤ t293_2 then (
    if v2 = 0 then (
      mm_lt (kI m293 o 11 (2 : Int32)) fun m309 =>
      some m309
    ) else (
      mm_lt (kI m293 o 11 (1 : Int32)) fun m309 =>
      some m309
    )
  ) else (
    mm_lt (kI m293 o 11 (4 : Int32)) fun m309 =>
    some m309
  )
noncomputable def f_Mod_next_J251 (z : Nat → Nat) (o : Nat) (v2 : Int32) (v3 : Int32) (m251 : Mm) : Option ((Int32 × Mm) ⊕ (Int32 × Mm)) :=
  mm_lt (kI m251 o 13 ((m251.1 o 13) + (1 : Int32))) fun m258 =>
  mm_lt (kI m258 o 4 ((m258.1 o 4) + (1 : Int32))) fun m268 =>
  some (.inl (v3, m268))
noncomputable def f_Mod_next_J224 (z : Nat → Nat) (o : Nat) (v2 : Int32) (v3 : Int32) (m224 : Mm) : Option ((Int32 × Mm) ⊕ (Int32 × Mm)) :=
  if (2 : Int32) ≤ (m224.1 o 13) then (
    f_Mod_next_J251 z o v2 v3 m224
  ) else (
    (f_Mod_peek z m224 o).bind fun q241 =>
    mm_lt (kI m224 o 14 ((((10 : Int32) * (m224.1 o 14)) + q241) - (48 : Int32))) fun m248 =>
    f_Mod_next_J251 z o v2 v3 m248
  )
noncomputable def f_Mod_next_J197 (z : Nat → Nat) (o : Nat) (v2 : Int32) (t197_0 : Int32) (m197 : Mm) : Option ((Int32 × Mm) ⊕ (Int32 × Mm)) :=
  if (7 : Int32) ≤ (m197.1 o 13) then (
    f_Mod_next_J224 z o v2 t197_0 m197
  ) else (
    (f_Mod_peek z m197 o).bind fun q216 =>
    mm_lt (kL m197 o 17 (((m197.2 o 17) <<< (Int32.toInt64 (8 : Int32) &&& 63)) ||| (Int32.toInt64 q216))) fun m221 =>
    f_Mod_next_J224 z o v2 t197_0 m221
  )
noncomputable def f_Mod_next_J177 (z : Nat → Nat) (o : Nat) (v2 : Int32) (v3 : Int32) (m177 : Mm) : Option ((Int32 × Mm) ⊕ (Int32 × Mm)) :=
  if v3 = 0 then (
    f_Mod_next_J197 z o v2 (0 : Int32) m177
  ) else (
    (f_Mod_peek z m177 o).bind fun q182 =>
    (f_Mod_isSmall z m177 q182).bind fun q185 =>
    if q185 = v2 then (
      f_Mod_next_J197 z o v2 (1 : Int32) m177
    ) else (
      f_Mod_next_J197 z o v2 (0 : Int32) m177
    )
  )
noncomputable def f_Mod_next_L157 (z : Nat → Nat) (o : Nat) (v2 : Int32) (s157 : Int32 × Mm) : Option ((Int32 × Mm) ⊕ (Int32 × Mm)) :=
  (f_Mod_peek z s157.2 o).bind fun q158 =>
  (f_Mod_isSmall z s157.2 q158).bind fun q161 =>
  if q161 = 0 then (
    (f_Mod_peek z s157.2 o).bind fun q168 =>
    (f_Mod_isDigit z s157.2 q168).bind fun q171 =>
    if q171 = 0 then (
      some (.inr (s157.1, s157.2))
    ) else (
      f_Mod_next_J177 z o v2 s157.1 s157.2
    )
  ) else (
    f_Mod_next_J177 z o v2 s157.1 s157.2
  )
noncomputable def f_Mod_next_J140 (z : Nat → Nat) (o : Nat) (v1 : Int32) (m140 : Mm) : Option (Mm) :=
  (f_Mod_isSmall z m140 v1).bind fun q141 =>
  mm_lt (kL m140 o 17 (0 : Int64)) fun m149 =>
  mm_lt (kI m149 o 14 (0 : Int32)) fun m154 =>
  (mm_lp (f_Mod_next_L157 z o q141) ((1 : Int32), m154)).bind (fun q157 =>
    if q157.1 = 0 then (
      mm_lt (kI q157.2 o 11 (4 : Int32)) fun m309 =>
      some m309
    ) else (
      if q141 = 0 then (
        f_Mod_next_J293 z o q141 (q157.2.1 o 13) (2 : Int32) q157.2
      ) else (
        f_Mod_next_J293 z o q141 (q157.2.1 o 13) (7 : Int32) q157.2
      )
    ))
noncomputable def f_Mod_next_J121 (z : Nat → Nat) (o : Nat) (v1 : Int32) (t121_1 : Int32) (m121 : Mm) : Option (Mm) :=
  mm_lt (kI m121 o 11 t121_1) fun m121 =>
  mm_lt (kI m121 o 14 v1) fun m126 =>
  mm_lt (kI m126 o 4 ((m126.1 o 4) + (1 : Int32))) fun m136 =>
  some m136
noncomputable def f_Mod_next_J80 (z : Nat → Nat) (o : Nat) (m80 : Mm) : Option (Mm) :=
  (f_Mod_peek z m80 o).bind fun q81 =>
  if 0 ≤ q81 then (
    (f_Mod_isSmall z m80 q81).bind fun q96 =>
    if q96 = 0 then (
      (f_Mod_isDigit z m80 q81).bind fun q103 =>
      if q103 = 0 then (
        if q81 = (59 : Int32) then (
          f_Mod_next_J121 z o q81 (3 : Int32) m80
        ) else (
          f_Mod_next_J121 z o q81 (4 : Int32) m80
        )
      ) else (
        f_Mod_next_J140 z o q81 m80
      )
    ) else (
      f_Mod_next_J140 z o q81 m80
    )
  ) else (
    mm_lt (kI m80 o 11 (0 : Int32)) fun m91 =>
    some m91
  )
noncomputable def f_Mod_next_L0 (z : Nat → Nat) (o : Nat) (s0 : Mm) : Option ((Mm) ⊕ (Mm)) :=
  (f_Mod_peek z s0 o).bind fun q1 =>
  if q1 = (32 : Int32) then (
    mm_lt (kI s0 o 4 ((s0.1 o 4) + (1 : Int32))) fun m25 =>
    some (.inl m25)
  ) else (
    (f_Mod_peek z s0 o).bind fun q10 =>
    if q10 = (10 : Int32) then (
      mm_lt (kI s0 o 4 ((s0.1 o 4) + (1 : Int32))) fun m25 =>
      some (.inl m25)
    ) else (
      some (.inr s0)
    )
  )
noncomputable def f_Mod_next (z : Nat → Nat) (σ : Mm) (o : Nat) : Option (Mm) :=
  (mm_lp (f_Mod_next_L0 z o) σ).bind (fun q0 =>
    mm_lt (kI q0 o 12 (q0.1 o 4)) fun m36 =>
    mm_lt (kI m36 o 13 (0 : Int32)) fun m41 =>
    if (m41.1 o 3) ≤ (m41.1 o 5) then (
      f_Mod_next_J80 z o m41
    ) else (
      if (m41.1 o 4) < (m41.1 o 5) then (
        f_Mod_next_J80 z o m41
      ) else (
        mm_lt (kI m41 o 12 (m41.1 o 5)) fun m71 =>
        mm_lt (kI m71 o 11 (4 : Int32)) fun m76 =>
        some m76
      )
    ))
set_option maxHeartbeats 4000000 in
set_option maxRecDepth 100000 in
theorem c_Mod_next (l : Launch) {L : Ly} (hg : gd_ok L) {σ : Mm} {o : Nat} (k_o_0 : ly_k L o = 11) {res : Mm} (hf0 : f_Mod_next (ly_z L) σ o = some res) : CtV l y_Mod_next b_Mod_next 4 (none) rm_Mod_next L [.ref (ly_a L o)] σ res := by
  refine ct_v hg (by decide) (Nat.le_of_ble_eq_true rfl) ?_
  intro E A Q hE C hN
  subst hE
  unfold f_Mod_next at hf0
  show GW E L A 4 0 0 Q σ 0 [(0, .ref (ly_a L o))] []
  have hj293 : ∀ (v2 : Int32) (t293_1 : Int32) (t293_2 : Int32) (m293 : Mm), f_Mod_next_J293 (ly_z L) o v2 t293_1 t293_2 m293 = some res → GW E L A 4 0 0 Q m293 293 [(2, .int v2)] [.int t293_2, .int t293_1, .ref (ly_a L o)] := by
    intro v2 t293_1 t293_2 m293 hf0
    unfold f_Mod_next_J293 at hf0
    refine gw_icmp_le C 300 d_Mod_next_293 (by decide) (fun hc => ?_) (fun hc => ?_)
    · replace hf0 := mx_t hc hf0
      refine gw_iload_n C 0 d_Mod_next_300 rfl rfl ?_
      refine gw_if_eq C 308 d_Mod_next_301 (by decide) (fun hc => ?_) (fun hc => ?_)
      · replace hf0 := mx_t hc hf0
        refine gw_iconst C (2 : Int32) d_Mod_next_308 (by decide) ?_
        obtain ⟨m309, em309, hf0⟩ := mx_lt hf0
        refine gw_putI t_Mod C 11 d_Mod_next_309 k_o_0 (by decide) i_Mod rfl rfl (by decide) qw_1176 rfl rfl t_Mod_ok n_Mod rfl (t_Mod_ok 11 (by decide)) rfl rfl em309 ?_
        exact en_v hN hf0 d_Mod_next_312
      · replace hf0 := mx_f hc hf0
        refine gw_iconst C (1 : Int32) d_Mod_next_304 (by decide) ?_
        refine gw_goto C 309 d_Mod_next_305 (by decide) ?_
        obtain ⟨m309, em309, hf0⟩ := mx_lt hf0
        refine gw_putI t_Mod C 11 d_Mod_next_309 k_o_0 (by decide) i_Mod rfl rfl (by decide) qw_1176 rfl rfl t_Mod_ok n_Mod rfl (t_Mod_ok 11 (by decide)) rfl rfl em309 ?_
        exact en_v hN hf0 d_Mod_next_312
    · replace hf0 := mx_f hc hf0
      refine gw_iconst C (4 : Int32) d_Mod_next_296 (by decide) ?_
      refine gw_goto C 309 d_Mod_next_297 (by decide) ?_
      obtain ⟨m309, em309, hf0⟩ := mx_lt hf0
      refine gw_putI t_Mod C 11 d_Mod_next_309 k_o_0 (by decide) i_Mod rfl rfl (by decide) qw_1176 rfl rfl t_Mod_ok n_Mod rfl (t_Mod_ok 11 (by decide)) rfl rfl em309 ?_
      exact en_v hN hf0 d_Mod_next_312
  have hj140 : ∀ (v1 : Int32) (m140 : Mm), f_Mod_next_J140 (ly_z L) o v1 m140 = some res → GW E L A 4 0 0 Q m140 140 [(0, .ref (ly_a L o)), (1, .int v1)] [] := by
    intro v1 m140 hf0
    unfold f_Mod_next_J140 at hf0
    refine gw_iload_n C 1 d_Mod_next_140 rfl rfl ?_
    obtain ⟨q141, hq141, hf0⟩ := mx_bd hf0
    refine gw_callIS C (c_Mod_isSmall _ hg hq141) d_Mod_next_141 1 qw_1318 qw_1319 qw_12 qw_1320 hd_Mod_isSmall rfl rfl (Nat.le_of_ble_eq_true rfl) ⟨rfl, rfl, Nat.le_of_ble_eq_true rfl, Nat.le_of_ble_eq_true rfl⟩ ⟨Nat.zero_le _, Nat.zero_le _⟩ ?_
    refine gw_istore_n C [(2, .int q141), (0, .ref (ly_a L o)), (1, .int v1)] d_Mod_next_144 rfl (by decide) rfl ?_
    refine gw_iconst C (1 : Int32) d_Mod_next_145 (by decide) ?_
    refine gw_istore_n C [(3, .int (1 : Int32)), (2, .int q141), (0, .ref (ly_a L o)), (1, .int v1)] d_Mod_next_146 rfl (by decide) rfl ?_
    refine gw_aload_n C 2 d_Mod_next_147 rfl rfl ?_
    refine gw_lconst C (0 : Int64) d_Mod_next_148 (by decide) ?_
    obtain ⟨m149, em149, hf0⟩ := mx_lt hf0
    refine gw_putL t_Mod C 17 d_Mod_next_149 k_o_0 (by decide) i_Mod rfl rfl (by decide) qw_1182 rfl rfl t_Mod_ok n_Mod rfl (t_Mod_ok 17 (by decide)) rfl rfl em149 ?_
    refine gw_aload_n C 2 d_Mod_next_152 rfl rfl ?_
    refine gw_iconst C (0 : Int32) d_Mod_next_153 (by decide) ?_
    obtain ⟨m154, em154, hf0⟩ := mx_lt hf0
    refine gw_putI t_Mod C 14 d_Mod_next_154 k_o_0 (by decide) i_Mod rfl rfl (by decide) qw_1179 rfl rfl t_Mod_ok n_Mod rfl (t_Mod_ok 14 (by decide)) rfl rfl em154 ?_
    obtain ⟨q157, hq157, hf0⟩ := mx_bd hf0
    have hk157 : ∀ x9, q157 = x9 → GW E L A 4 0 0 Q x9.2 274 [(0, .ref (ly_a L o)), (2, .int q141), (3, .int x9.1)] [] := by
      intro x9 hx9
      subst hx9
      refine gw_aload_n C 0 d_Mod_next_274 rfl rfl ?_
      refine gw_iload_n C 2 d_Mod_next_275 rfl rfl ?_
      refine gw_if_eq C 296 d_Mod_next_276 (by decide) (fun hc => ?_) (fun hc => ?_)
      · replace hf0 := mx_t hc hf0
        refine gw_iconst C (4 : Int32) d_Mod_next_296 (by decide) ?_
        refine gw_goto C 309 d_Mod_next_297 (by decide) ?_
        obtain ⟨m309, em309, hf0⟩ := mx_lt hf0
        refine gw_putI t_Mod C 11 d_Mod_next_309 k_o_0 (by decide) i_Mod rfl rfl (by decide) qw_1176 rfl rfl t_Mod_ok n_Mod rfl (t_Mod_ok 11 (by decide)) rfl rfl em309 ?_
        exact en_v hN hf0 d_Mod_next_312
      · replace hf0 := mx_f hc hf0
        refine gw_aload_n C 0 d_Mod_next_279 rfl rfl ?_
        refine gw_getI C 13 d_Mod_next_280 k_o_0 (by decide) i_Mod rfl rfl (by decide) qw_1178 rfl rfl ?_
        refine gw_iload_n C 1 d_Mod_next_283 rfl rfl ?_
        refine gw_if_eq C 292 d_Mod_next_284 (by decide) (fun hc => ?_) (fun hc => ?_)
        · replace hf0 := mx_t hc hf0
          refine gw_iconst C (2 : Int32) d_Mod_next_292 (by decide) ?_
          exact gw_go [1] (hj293 _ _ _ _ hf0) rfl
        · replace hf0 := mx_f hc hf0
          refine gw_bipush C (7 : Int32) d_Mod_next_287 (by decide) ?_
          refine gw_goto C 293 d_Mod_next_289 (by decide) ?_
          exact gw_go [1] (hj293 _ _ _ _ hf0) rfl
    refine gw_sub [2, 1, 0] (lv' := [(0, .ref (ly_a L o)), (2, .int q141), (3, .int (1 : Int32))]) rfl ?_
    refine mm_rule hq157 (P := fun (s157 : Int32 × Mm) => GW E L A 4 0 0 Q s157.2 157 [(0, .ref (ly_a L o)), (2, .int q141), (3, .int s157.1)] []) ?_
    intro s157 ih157 hx157 ⟨w157, hb157⟩
    have hj251 : ∀ (v3 : Int32) (m251 : Mm), f_Mod_next_J251 (ly_z L) o q141 v3 m251 = some w157 → GW E L A 4 0 0 Q m251 251 [(0, .ref (ly_a L o)), (2, .int q141), (3, .int v3)] [] := by
      intro v3 m251 hf1
      unfold f_Mod_next_J251 at hf1
      refine gw_aload_n C 0 d_Mod_next_251 rfl rfl ?_
      refine gw_dup C d_Mod_next_252 rfl ?_
      refine gw_getI C 13 d_Mod_next_253 k_o_0 (by decide) i_Mod rfl rfl (by decide) qw_1178 rfl rfl ?_
      refine gw_iconst C (1 : Int32) d_Mod_next_256 (by decide) ?_
      refine gw_iadd C d_Mod_next_257 ?_
      obtain ⟨m258, em258, hf1⟩ := mx_lt hf1
      refine gw_putI t_Mod C 13 d_Mod_next_258 k_o_0 (by decide) i_Mod rfl rfl (by decide) qw_1178 rfl rfl t_Mod_ok n_Mod rfl (t_Mod_ok 13 (by decide)) rfl rfl em258 ?_
      refine gw_aload_n C 0 d_Mod_next_261 rfl rfl ?_
      refine gw_dup C d_Mod_next_262 rfl ?_
      refine gw_getI C 4 d_Mod_next_263 k_o_0 (by decide) i_Mod rfl rfl (by decide) qw_1169 rfl rfl ?_
      refine gw_iconst C (1 : Int32) d_Mod_next_266 (by decide) ?_
      refine gw_iadd C d_Mod_next_267 ?_
      obtain ⟨m268, em268, hf1⟩ := mx_lt hf1
      refine gw_putI t_Mod C 4 d_Mod_next_268 k_o_0 (by decide) i_Mod rfl rfl (by decide) qw_1169 rfl rfl t_Mod_ok n_Mod rfl (t_Mod_ok 4 (by decide)) rfl rfl em268 ?_
      refine gw_goto C 157 d_Mod_next_271 (by decide) ?_
      exact gw_go [0, 1, 2] (ih157 (v3, m268) (hb157.trans hf1.symm)) rfl
    have hj224 : ∀ (v3 : Int32) (m224 : Mm), f_Mod_next_J224 (ly_z L) o q141 v3 m224 = some w157 → GW E L A 4 0 0 Q m224 224 [(0, .ref (ly_a L o)), (2, .int q141), (3, .int v3)] [] := by
      intro v3 m224 hf1
      unfold f_Mod_next_J224 at hf1
      refine gw_aload_n C 0 d_Mod_next_224 rfl rfl ?_
      refine gw_getI C 13 d_Mod_next_225 k_o_0 (by decide) i_Mod rfl rfl (by decide) qw_1178 rfl rfl ?_
      refine gw_iconst C (2 : Int32) d_Mod_next_228 (by decide) ?_
      refine gw_icmp_ge C 251 d_Mod_next_229 (by decide) (fun hc => ?_) (fun hc => ?_)
      · replace hf1 := mx_t hc hf1
        exact gw_go [0, 1, 2] (hj251 _ _ hf1) rfl
      · replace hf1 := mx_f hc hf1
        refine gw_aload_n C 0 d_Mod_next_232 rfl rfl ?_
        refine gw_bipush C (10 : Int32) d_Mod_next_233 (by decide) ?_
        refine gw_aload_n C 0 d_Mod_next_235 rfl rfl ?_
        refine gw_getI C 14 d_Mod_next_236 k_o_0 (by decide) i_Mod rfl rfl (by decide) qw_1179 rfl rfl ?_
        refine gw_imul C d_Mod_next_239 ?_
        refine gw_aload_n C 0 d_Mod_next_240 rfl rfl ?_
        obtain ⟨q241, hq241, hf1⟩ := mx_bd hf1
        refine gw_callI C (c_Mod_peek _ hg k_o_0 hq241) d_Mod_next_241 0 qw_1314 qw_1316 qs_39 qw_12 qw_1317 k_o_0 (by decide) rfl hd_Mod_peek rfl rfl (Nat.le_of_ble_eq_true rfl) ⟨rfl, rfl, Nat.le_of_ble_eq_true rfl, Nat.le_of_ble_eq_true rfl⟩ ⟨Nat.zero_le _, Nat.zero_le _⟩ ?_
        refine gw_iadd C d_Mod_next_244 ?_
        refine gw_bipush C (48 : Int32) d_Mod_next_245 (by decide) ?_
        refine gw_isub C d_Mod_next_247 ?_
        obtain ⟨m248, em248, hf1⟩ := mx_lt hf1
        refine gw_putI t_Mod C 14 d_Mod_next_248 k_o_0 (by decide) i_Mod rfl rfl (by decide) qw_1179 rfl rfl t_Mod_ok n_Mod rfl (t_Mod_ok 14 (by decide)) rfl rfl em248 ?_
        exact gw_go [0, 1, 2] (hj251 _ _ hf1) rfl
    have hj197 : ∀ (t197_0 : Int32) (m197 : Mm), f_Mod_next_J197 (ly_z L) o q141 t197_0 m197 = some w157 → GW E L A 4 0 0 Q m197 197 [(0, .ref (ly_a L o)), (2, .int q141)] [.int t197_0] := by
      intro t197_0 m197 hf1
      unfold f_Mod_next_J197 at hf1
      refine gw_istore_n C [(3, .int t197_0), (0, .ref (ly_a L o)), (2, .int q141)] d_Mod_next_197 rfl (by decide) rfl ?_
      refine gw_aload_n C 1 d_Mod_next_198 rfl rfl ?_
      refine gw_getI C 13 d_Mod_next_199 k_o_0 (by decide) i_Mod rfl rfl (by decide) qw_1178 rfl rfl ?_
      refine gw_bipush C (7 : Int32) d_Mod_next_202 (by decide) ?_
      refine gw_icmp_ge C 224 d_Mod_next_204 (by decide) (fun hc => ?_) (fun hc => ?_)
      · replace hf1 := mx_t hc hf1
        exact gw_go [1, 2, 0] (hj224 _ _ hf1) rfl
      · replace hf1 := mx_f hc hf1
        refine gw_aload_n C 1 d_Mod_next_207 rfl rfl ?_
        refine gw_aload_n C 1 d_Mod_next_208 rfl rfl ?_
        refine gw_getL C 17 d_Mod_next_209 k_o_0 (by decide) i_Mod rfl rfl (by decide) qw_1182 rfl rfl ?_
        refine gw_bipush C (8 : Int32) d_Mod_next_212 (by decide) ?_
        refine gw_lshl C d_Mod_next_214 ?_
        refine gw_aload_n C 1 d_Mod_next_215 rfl rfl ?_
        obtain ⟨q216, hq216, hf1⟩ := mx_bd hf1
        refine gw_callI C (c_Mod_peek _ hg k_o_0 hq216) d_Mod_next_216 0 qw_1314 qw_1316 qs_39 qw_12 qw_1317 k_o_0 (by decide) rfl hd_Mod_peek rfl rfl (Nat.le_of_ble_eq_true rfl) ⟨rfl, rfl, Nat.le_of_ble_eq_true rfl, Nat.le_of_ble_eq_true rfl⟩ ⟨Nat.zero_le _, Nat.zero_le _⟩ ?_
        refine gw_i2l C d_Mod_next_219 ?_
        refine gw_lor C d_Mod_next_220 ?_
        obtain ⟨m221, em221, hf1⟩ := mx_lt hf1
        refine gw_putL t_Mod C 17 d_Mod_next_221 k_o_0 (by decide) i_Mod rfl rfl (by decide) qw_1182 rfl rfl t_Mod_ok n_Mod rfl (t_Mod_ok 17 (by decide)) rfl rfl em221 ?_
        exact gw_go [1, 2, 0] (hj224 _ _ hf1) rfl
    have hj177 : ∀ (v3 : Int32) (m177 : Mm), f_Mod_next_J177 (ly_z L) o q141 v3 m177 = some w157 → GW E L A 4 0 0 Q m177 177 [(0, .ref (ly_a L o)), (2, .int q141), (3, .int v3)] [] := by
      intro v3 m177 hf1
      unfold f_Mod_next_J177 at hf1
      refine gw_iload_n C 2 d_Mod_next_177 rfl rfl ?_
      refine gw_if_eq C 196 d_Mod_next_178 (by decide) (fun hc => ?_) (fun hc => ?_)
      · replace hf1 := mx_t hc hf1
        refine gw_iconst C (0 : Int32) d_Mod_next_196 (by decide) ?_
        exact gw_go [0, 1] (hj197 _ _ hf1) rfl
      · replace hf1 := mx_f hc hf1
        refine gw_aload_n C 0 d_Mod_next_181 rfl rfl ?_
        obtain ⟨q182, hq182, hf1⟩ := mx_bd hf1
        refine gw_callI C (c_Mod_peek _ hg k_o_0 hq182) d_Mod_next_182 0 qw_1314 qw_1316 qs_39 qw_12 qw_1317 k_o_0 (by decide) rfl hd_Mod_peek rfl rfl (Nat.le_of_ble_eq_true rfl) ⟨rfl, rfl, Nat.le_of_ble_eq_true rfl, Nat.le_of_ble_eq_true rfl⟩ ⟨Nat.zero_le _, Nat.zero_le _⟩ ?_
        obtain ⟨q185, hq185, hf1⟩ := mx_bd hf1
        refine gw_callIS C (c_Mod_isSmall _ hg hq185) d_Mod_next_185 1 qw_1318 qw_1319 qw_12 qw_1320 hd_Mod_isSmall rfl rfl (Nat.le_of_ble_eq_true rfl) ⟨rfl, rfl, Nat.le_of_ble_eq_true rfl, Nat.le_of_ble_eq_true rfl⟩ ⟨Nat.zero_le _, Nat.zero_le _⟩ ?_
        refine gw_iload_n C 1 d_Mod_next_188 rfl rfl ?_
        refine gw_icmp_ne C 196 d_Mod_next_189 (by decide) (fun hc => ?_) (fun hc => ?_)
        · replace hf1 := mx_f hc hf1
          refine gw_iconst C (0 : Int32) d_Mod_next_196 (by decide) ?_
          exact gw_go [0, 1] (hj197 _ _ hf1) rfl
        · replace hf1 := mx_t hc hf1
          refine gw_iconst C (1 : Int32) d_Mod_next_192 (by decide) ?_
          refine gw_goto C 197 d_Mod_next_193 (by decide) ?_
          exact gw_go [0, 1] (hj197 _ _ hf1) rfl
    have hf1 := hb157
    unfold f_Mod_next_L157 at hf1
    refine gw_aload_n C 0 d_Mod_next_157 rfl rfl ?_
    obtain ⟨q158, hq158, hf1⟩ := mx_bd hf1
    refine gw_callI C (c_Mod_peek _ hg k_o_0 hq158) d_Mod_next_158 0 qw_1314 qw_1316 qs_39 qw_12 qw_1317 k_o_0 (by decide) rfl hd_Mod_peek rfl rfl (Nat.le_of_ble_eq_true rfl) ⟨rfl, rfl, Nat.le_of_ble_eq_true rfl, Nat.le_of_ble_eq_true rfl⟩ ⟨Nat.zero_le _, Nat.zero_le _⟩ ?_
    obtain ⟨q161, hq161, hf1⟩ := mx_bd hf1
    refine gw_callIS C (c_Mod_isSmall _ hg hq161) d_Mod_next_161 1 qw_1318 qw_1319 qw_12 qw_1320 hd_Mod_isSmall rfl rfl (Nat.le_of_ble_eq_true rfl) ⟨rfl, rfl, Nat.le_of_ble_eq_true rfl, Nat.le_of_ble_eq_true rfl⟩ ⟨Nat.zero_le _, Nat.zero_le _⟩ ?_
    refine gw_if_ne C 177 d_Mod_next_164 (by decide) (fun hc => ?_) (fun hc => ?_)
    · replace hf1 := mx_f hc hf1
      exact gw_go [0, 1, 2] (hj177 _ _ hf1) rfl
    · replace hf1 := mx_t hc hf1
      refine gw_aload_n C 0 d_Mod_next_167 rfl rfl ?_
      obtain ⟨q168, hq168, hf1⟩ := mx_bd hf1
      refine gw_callI C (c_Mod_peek _ hg k_o_0 hq168) d_Mod_next_168 0 qw_1314 qw_1316 qs_39 qw_12 qw_1317 k_o_0 (by decide) rfl hd_Mod_peek rfl rfl (Nat.le_of_ble_eq_true rfl) ⟨rfl, rfl, Nat.le_of_ble_eq_true rfl, Nat.le_of_ble_eq_true rfl⟩ ⟨Nat.zero_le _, Nat.zero_le _⟩ ?_
      obtain ⟨q171, hq171, hf1⟩ := mx_bd hf1
      refine gw_callIS C (c_Mod_isDigit _ hg hq171) d_Mod_next_171 1 qw_1321 qw_1322 qw_12 qw_1323 hd_Mod_isDigit rfl rfl (Nat.le_of_ble_eq_true rfl) ⟨rfl, rfl, Nat.le_of_ble_eq_true rfl, Nat.le_of_ble_eq_true rfl⟩ ⟨Nat.zero_le _, Nat.zero_le _⟩ ?_
      refine gw_if_eq C 274 d_Mod_next_174 (by decide) (fun hc => ?_) (fun hc => ?_)
      · replace hf1 := mx_t hc hf1
        exact gw_go [0, 1, 2] (hk157 (s157.1, s157.2) (hx157 _ (hb157.trans hf1.symm)).symm) rfl
      · replace hf1 := mx_f hc hf1
        exact gw_go [0, 1, 2] (hj177 _ _ hf1) rfl
  have hj121 : ∀ (v1 : Int32) (t121_1 : Int32) (m121 : Mm), f_Mod_next_J121 (ly_z L) o v1 t121_1 m121 = some res → GW E L A 4 0 0 Q m121 121 [(0, .ref (ly_a L o)), (1, .int v1)] [.int t121_1, .ref (ly_a L o)] := by
    intro v1 t121_1 m121 hf0
    unfold f_Mod_next_J121 at hf0
    obtain ⟨m121, em121, hf0⟩ := mx_lt hf0
    refine gw_putI t_Mod C 11 d_Mod_next_121 k_o_0 (by decide) i_Mod rfl rfl (by decide) qw_1176 rfl rfl t_Mod_ok n_Mod rfl (t_Mod_ok 11 (by decide)) rfl rfl em121 ?_
    refine gw_aload_n C 0 d_Mod_next_124 rfl rfl ?_
    refine gw_iload_n C 1 d_Mod_next_125 rfl rfl ?_
    obtain ⟨m126, em126, hf0⟩ := mx_lt hf0
    refine gw_putI t_Mod C 14 d_Mod_next_126 k_o_0 (by decide) i_Mod rfl rfl (by decide) qw_1179 rfl rfl t_Mod_ok n_Mod rfl (t_Mod_ok 14 (by decide)) rfl rfl em126 ?_
    refine gw_aload_n C 0 d_Mod_next_129 rfl rfl ?_
    refine gw_dup C d_Mod_next_130 rfl ?_
    refine gw_getI C 4 d_Mod_next_131 k_o_0 (by decide) i_Mod rfl rfl (by decide) qw_1169 rfl rfl ?_
    refine gw_iconst C (1 : Int32) d_Mod_next_134 (by decide) ?_
    refine gw_iadd C d_Mod_next_135 ?_
    obtain ⟨m136, em136, hf0⟩ := mx_lt hf0
    refine gw_putI t_Mod C 4 d_Mod_next_136 k_o_0 (by decide) i_Mod rfl rfl (by decide) qw_1169 rfl rfl t_Mod_ok n_Mod rfl (t_Mod_ok 4 (by decide)) rfl rfl em136 ?_
    exact en_v hN hf0 d_Mod_next_139
  have hj80 : ∀ (m80 : Mm), f_Mod_next_J80 (ly_z L) o m80 = some res → GW E L A 4 0 0 Q m80 80 [(0, .ref (ly_a L o))] [] := by
    intro m80 hf0
    unfold f_Mod_next_J80 at hf0
    refine gw_aload_n C 0 d_Mod_next_80 rfl rfl ?_
    obtain ⟨q81, hq81, hf0⟩ := mx_bd hf0
    refine gw_callI C (c_Mod_peek _ hg k_o_0 hq81) d_Mod_next_81 0 qw_1314 qw_1316 qs_39 qw_12 qw_1317 k_o_0 (by decide) rfl hd_Mod_peek rfl rfl (Nat.le_of_ble_eq_true rfl) ⟨rfl, rfl, Nat.le_of_ble_eq_true rfl, Nat.le_of_ble_eq_true rfl⟩ ⟨Nat.zero_le _, Nat.zero_le _⟩ ?_
    refine gw_istore_n C [(1, .int q81), (0, .ref (ly_a L o))] d_Mod_next_84 rfl (by decide) rfl ?_
    refine gw_iload_n C 0 d_Mod_next_85 rfl rfl ?_
    refine gw_if_ge C 95 d_Mod_next_86 (by decide) (fun hc => ?_) (fun hc => ?_)
    · replace hf0 := mx_t hc hf0
      refine gw_iload_n C 0 d_Mod_next_95 rfl rfl ?_
      obtain ⟨q96, hq96, hf0⟩ := mx_bd hf0
      refine gw_callIS C (c_Mod_isSmall _ hg hq96) d_Mod_next_96 1 qw_1318 qw_1319 qw_12 qw_1320 hd_Mod_isSmall rfl rfl (Nat.le_of_ble_eq_true rfl) ⟨rfl, rfl, Nat.le_of_ble_eq_true rfl, Nat.le_of_ble_eq_true rfl⟩ ⟨Nat.zero_le _, Nat.zero_le _⟩ ?_
      refine gw_if_ne C 140 d_Mod_next_99 (by decide) (fun hc => ?_) (fun hc => ?_)
      · replace hf0 := mx_f hc hf0
        exact gw_go [1, 0] (hj140 _ _ hf0) rfl
      · replace hf0 := mx_t hc hf0
        refine gw_iload_n C 0 d_Mod_next_102 rfl rfl ?_
        obtain ⟨q103, hq103, hf0⟩ := mx_bd hf0
        refine gw_callIS C (c_Mod_isDigit _ hg hq103) d_Mod_next_103 1 qw_1321 qw_1322 qw_12 qw_1323 hd_Mod_isDigit rfl rfl (Nat.le_of_ble_eq_true rfl) ⟨rfl, rfl, Nat.le_of_ble_eq_true rfl, Nat.le_of_ble_eq_true rfl⟩ ⟨Nat.zero_le _, Nat.zero_le _⟩ ?_
        refine gw_if_ne C 140 d_Mod_next_106 (by decide) (fun hc => ?_) (fun hc => ?_)
        · replace hf0 := mx_f hc hf0
          exact gw_go [1, 0] (hj140 _ _ hf0) rfl
        · replace hf0 := mx_t hc hf0
          refine gw_aload_n C 1 d_Mod_next_109 rfl rfl ?_
          refine gw_iload_n C 0 d_Mod_next_110 rfl rfl ?_
          refine gw_bipush C (59 : Int32) d_Mod_next_111 (by decide) ?_
          refine gw_icmp_ne C 120 d_Mod_next_113 (by decide) (fun hc => ?_) (fun hc => ?_)
          · replace hf0 := mx_f hc hf0
            refine gw_iconst C (4 : Int32) d_Mod_next_120 (by decide) ?_
            exact gw_go [1, 0] (hj121 _ _ _ hf0) rfl
          · replace hf0 := mx_t hc hf0
            refine gw_iconst C (3 : Int32) d_Mod_next_116 (by decide) ?_
            refine gw_goto C 121 d_Mod_next_117 (by decide) ?_
            exact gw_go [1, 0] (hj121 _ _ _ hf0) rfl
    · replace hf0 := mx_f hc hf0
      refine gw_aload_n C 1 d_Mod_next_89 rfl rfl ?_
      refine gw_iconst C (0 : Int32) d_Mod_next_90 (by decide) ?_
      obtain ⟨m91, em91, hf0⟩ := mx_lt hf0
      refine gw_putI t_Mod C 11 d_Mod_next_91 k_o_0 (by decide) i_Mod rfl rfl (by decide) qw_1176 rfl rfl t_Mod_ok n_Mod rfl (t_Mod_ok 11 (by decide)) rfl rfl em91 ?_
      exact en_v hN hf0 d_Mod_next_94
  obtain ⟨q0, hq0, hf0⟩ := mx_bd hf0
  have hk0 : ∀ x9, q0 = x9 → GW E L A 4 0 0 Q x9 31 [(0, .ref (ly_a L o))] [] := by
    intro x9 hx9
    subst hx9
    refine gw_aload_n C 0 d_Mod_next_31 rfl rfl ?_
    refine gw_aload_n C 0 d_Mod_next_32 rfl rfl ?_
    refine gw_getI C 4 d_Mod_next_33 k_o_0 (by decide) i_Mod rfl rfl (by decide) qw_1169 rfl rfl ?_
    obtain ⟨m36, em36, hf0⟩ := mx_lt hf0
    refine gw_putI t_Mod C 12 d_Mod_next_36 k_o_0 (by decide) i_Mod rfl rfl (by decide) qw_1177 rfl rfl t_Mod_ok n_Mod rfl (t_Mod_ok 12 (by decide)) rfl rfl em36 ?_
    refine gw_aload_n C 0 d_Mod_next_39 rfl rfl ?_
    refine gw_iconst C (0 : Int32) d_Mod_next_40 (by decide) ?_
    obtain ⟨m41, em41, hf0⟩ := mx_lt hf0
    refine gw_putI t_Mod C 13 d_Mod_next_41 k_o_0 (by decide) i_Mod rfl rfl (by decide) qw_1178 rfl rfl t_Mod_ok n_Mod rfl (t_Mod_ok 13 (by decide)) rfl rfl em41 ?_
    refine gw_aload_n C 0 d_Mod_next_44 rfl rfl ?_
    refine gw_getI C 3 d_Mod_next_45 k_o_0 (by decide) i_Mod rfl rfl (by decide) qw_1168 rfl rfl ?_
    refine gw_aload_n C 0 d_Mod_next_48 rfl rfl ?_
    refine gw_getI C 5 d_Mod_next_49 k_o_0 (by decide) i_Mod rfl rfl (by decide) qw_1170 rfl rfl ?_
    refine gw_icmp_le C 80 d_Mod_next_52 (by decide) (fun hc => ?_) (fun hc => ?_)
    · replace hf0 := mx_t hc hf0
      exact gw_go [0] (hj80 _ hf0) rfl
    · replace hf0 := mx_f hc hf0
      refine gw_aload_n C 0 d_Mod_next_55 rfl rfl ?_
      refine gw_getI C 4 d_Mod_next_56 k_o_0 (by decide) i_Mod rfl rfl (by decide) qw_1169 rfl rfl ?_
      refine gw_aload_n C 0 d_Mod_next_59 rfl rfl ?_
      refine gw_getI C 5 d_Mod_next_60 k_o_0 (by decide) i_Mod rfl rfl (by decide) qw_1170 rfl rfl ?_
      refine gw_icmp_lt C 80 d_Mod_next_63 (by decide) (fun hc => ?_) (fun hc => ?_)
      · replace hf0 := mx_t hc hf0
        exact gw_go [0] (hj80 _ hf0) rfl
      · replace hf0 := mx_f hc hf0
        refine gw_aload_n C 0 d_Mod_next_66 rfl rfl ?_
        refine gw_aload_n C 0 d_Mod_next_67 rfl rfl ?_
        refine gw_getI C 5 d_Mod_next_68 k_o_0 (by decide) i_Mod rfl rfl (by decide) qw_1170 rfl rfl ?_
        obtain ⟨m71, em71, hf0⟩ := mx_lt hf0
        refine gw_putI t_Mod C 12 d_Mod_next_71 k_o_0 (by decide) i_Mod rfl rfl (by decide) qw_1177 rfl rfl t_Mod_ok n_Mod rfl (t_Mod_ok 12 (by decide)) rfl rfl em71 ?_
        refine gw_aload_n C 0 d_Mod_next_74 rfl rfl ?_
        refine gw_iconst C (4 : Int32) d_Mod_next_75 (by decide) ?_
        obtain ⟨m76, em76, hf0⟩ := mx_lt hf0
        refine gw_putI t_Mod C 11 d_Mod_next_76 k_o_0 (by decide) i_Mod rfl rfl (by decide) qw_1176 rfl rfl t_Mod_ok n_Mod rfl (t_Mod_ok 11 (by decide)) rfl rfl em76 ?_
        exact en_v hN hf0 d_Mod_next_79
  refine gw_sub [0] (lv' := [(0, .ref (ly_a L o))]) rfl ?_
  refine mm_rule hq0 (P := fun (s0 : Mm) => GW E L A 4 0 0 Q s0 0 [(0, .ref (ly_a L o))] []) ?_
  intro s0 ih0 hx0 ⟨w0, hb0⟩
  have hf1 := hb0
  unfold f_Mod_next_L0 at hf1
  refine gw_aload_n C 0 d_Mod_next_0 rfl rfl ?_
  obtain ⟨q1, hq1, hf1⟩ := mx_bd hf1
  refine gw_callI C (c_Mod_peek _ hg k_o_0 hq1) d_Mod_next_1 0 qw_1314 qw_1316 qs_39 qw_12 qw_1317 k_o_0 (by decide) rfl hd_Mod_peek rfl rfl (Nat.le_of_ble_eq_true rfl) ⟨rfl, rfl, Nat.le_of_ble_eq_true rfl, Nat.le_of_ble_eq_true rfl⟩ ⟨Nat.zero_le _, Nat.zero_le _⟩ ?_
  refine gw_bipush C (32 : Int32) d_Mod_next_4 (by decide) ?_
  refine gw_icmp_eq C 18 d_Mod_next_6 (by decide) (fun hc => ?_) (fun hc => ?_)
  · replace hf1 := mx_t hc hf1
    refine gw_aload_n C 0 d_Mod_next_18 rfl rfl ?_
    refine gw_dup C d_Mod_next_19 rfl ?_
    refine gw_getI C 4 d_Mod_next_20 k_o_0 (by decide) i_Mod rfl rfl (by decide) qw_1169 rfl rfl ?_
    refine gw_iconst C (1 : Int32) d_Mod_next_23 (by decide) ?_
    refine gw_iadd C d_Mod_next_24 ?_
    obtain ⟨m25, em25, hf1⟩ := mx_lt hf1
    refine gw_putI t_Mod C 4 d_Mod_next_25 k_o_0 (by decide) i_Mod rfl rfl (by decide) qw_1169 rfl rfl t_Mod_ok n_Mod rfl (t_Mod_ok 4 (by decide)) rfl rfl em25 ?_
    refine gw_goto C 0 d_Mod_next_28 (by decide) ?_
    exact gw_go [0] (ih0 m25 (hb0.trans hf1.symm)) rfl
  · replace hf1 := mx_f hc hf1
    refine gw_aload_n C 0 d_Mod_next_9 rfl rfl ?_
    obtain ⟨q10, hq10, hf1⟩ := mx_bd hf1
    refine gw_callI C (c_Mod_peek _ hg k_o_0 hq10) d_Mod_next_10 0 qw_1314 qw_1316 qs_39 qw_12 qw_1317 k_o_0 (by decide) rfl hd_Mod_peek rfl rfl (Nat.le_of_ble_eq_true rfl) ⟨rfl, rfl, Nat.le_of_ble_eq_true rfl, Nat.le_of_ble_eq_true rfl⟩ ⟨Nat.zero_le _, Nat.zero_le _⟩ ?_
    refine gw_bipush C (10 : Int32) d_Mod_next_13 (by decide) ?_
    refine gw_icmp_ne C 31 d_Mod_next_15 (by decide) (fun hc => ?_) (fun hc => ?_)
    · replace hf1 := mx_f hc hf1
      exact gw_go [0] (hk0 s0 (hx0 _ (hb0.trans hf1.symm)).symm) rfl
    · replace hf1 := mx_t hc hf1
      refine gw_aload_n C 0 d_Mod_next_18 rfl rfl ?_
      refine gw_dup C d_Mod_next_19 rfl ?_
      refine gw_getI C 4 d_Mod_next_20 k_o_0 (by decide) i_Mod rfl rfl (by decide) qw_1169 rfl rfl ?_
      refine gw_iconst C (1 : Int32) d_Mod_next_23 (by decide) ?_
      refine gw_iadd C d_Mod_next_24 ?_
      obtain ⟨m25, em25, hf1⟩ := mx_lt hf1
      refine gw_putI t_Mod C 4 d_Mod_next_25 k_o_0 (by decide) i_Mod rfl rfl (by decide) qw_1169 rfl rfl t_Mod_ok n_Mod rfl (t_Mod_ok 4 (by decide)) rfl rfl em25 ?_
      refine gw_goto C 0 d_Mod_next_28 (by decide) ?_
      exact gw_go [0] (ih0 m25 (hb0.trans hf1.symm)) rfl

/-! NameHatModel.bad(I)Z -/
abbrev b_Mod_bad : ByteArray := prog_14_method_16_code
def y_Mod_bad : MethodName := ⟨"NameHatModel", "bad", "(I)Z"⟩
abbrev rm_Mod_bad : Room := { frames := 0, cells := 0, slots := 0, locals := 0 }
theorem hd_Mod_bad : y_Mod_bad.cls ≠ "java/lang/invoke/MethodHandle" ∧ y_Mod_bad.cls ≠ "java/lang/invoke/VarHandle" ∧ (parseMethodDescriptor y_Mod_bad.desc).map (fun d => d.parameters.length) = some 1 := by decide +kernel
theorem d_Mod_bad_0 : decode b_Mod_bad 0 = .ok (.aload_n 0, 1) := by decide +kernel
theorem d_Mod_bad_1 : decode b_Mod_bad 1 = .ok (.iload_n 1, 1) := by decide +kernel
theorem d_Mod_bad_2 : decode b_Mod_bad 2 = .ok (.putfield 160, 3) := by decide +kernel
theorem d_Mod_bad_5 : decode b_Mod_bad 5 = .ok (.aload_n 0, 1) := by decide +kernel
theorem d_Mod_bad_6 : decode b_Mod_bad 6 = .ok (.aload_n 0, 1) := by decide +kernel
theorem d_Mod_bad_7 : decode b_Mod_bad 7 = .ok (.getfield 137, 3) := by decide +kernel
theorem d_Mod_bad_10 : decode b_Mod_bad 10 = .ok (.putfield 163, 3) := by decide +kernel
theorem d_Mod_bad_13 : decode b_Mod_bad 13 = .ok (.iconst 0, 1) := by decide +kernel
theorem d_Mod_bad_14 : decode b_Mod_bad 14 = .ok (.ireturn, 1) := by decide +kernel
noncomputable def f_Mod_bad (z : Nat → Nat) (σ : Mm) (o : Nat) (p1 : Int32) : Option (Int32 × Mm) :=
  mm_lt (kI σ o 15 p1) fun m2 =>
  mm_lt (kI m2 o 16 (m2.1 o 12)) fun m10 =>
  some ((0 : Int32), m10)
set_option maxHeartbeats 4000000 in
set_option maxRecDepth 100000 in
theorem c_Mod_bad (l : Launch) {L : Ly} (hg : gd_ok L) {σ : Mm} {o : Nat} {p1 : Int32} (k_o_0 : ly_k L o = 11) {res : Int32 × Mm} (hf0 : f_Mod_bad (ly_z L) σ o p1 = some res) : CtI l y_Mod_bad b_Mod_bad 2 (some .boolean) rm_Mod_bad L [.ref (ly_a L o), .int p1] σ res.1 res.2 := by
  refine ct_z hg (by decide) (Nat.le_of_ble_eq_true rfl) ?_
  intro E A Q hE C hN
  subst hE
  unfold f_Mod_bad at hf0
  show GW E L A 2 0 0 Q σ 0 [(0, .ref (ly_a L o)), (1, .int p1)] []
  refine gw_aload_n C 0 d_Mod_bad_0 rfl rfl ?_
  refine gw_iload_n C 1 d_Mod_bad_1 rfl rfl ?_
  obtain ⟨m2, em2, hf0⟩ := mx_lt hf0
  refine gw_putI t_Mod C 15 d_Mod_bad_2 k_o_0 (by decide) i_Mod rfl rfl (by decide) qw_1180 rfl rfl t_Mod_ok n_Mod rfl (t_Mod_ok 15 (by decide)) rfl rfl em2 ?_
  refine gw_aload_n C 0 d_Mod_bad_5 rfl rfl ?_
  refine gw_aload_n C 0 d_Mod_bad_6 rfl rfl ?_
  refine gw_getI C 12 d_Mod_bad_7 k_o_0 (by decide) i_Mod rfl rfl (by decide) qw_1177 rfl rfl ?_
  obtain ⟨m10, em10, hf0⟩ := mx_lt hf0
  refine gw_putI t_Mod C 16 d_Mod_bad_10 k_o_0 (by decide) i_Mod rfl rfl (by decide) qw_1181 rfl rfl t_Mod_ok n_Mod rfl (t_Mod_ok 16 (by decide)) rfl rfl em10 ?_
  refine gw_iconst C (0 : Int32) d_Mod_bad_13 (by decide) ?_
  exact en_z hN (Or.inl rfl) hf0 d_Mod_bad_14

/-! NameHatModel.isWord(J)Z -/
abbrev b_Mod_isWord : ByteArray := prog_14_method_17_code
def y_Mod_isWord : MethodName := ⟨"NameHatModel", "isWord", "(J)Z"⟩
abbrev rm_Mod_isWord : Room := { frames := 0, cells := 0, slots := 0, locals := 0 }
theorem hd_Mod_isWord : y_Mod_isWord.cls ≠ "java/lang/invoke/MethodHandle" ∧ y_Mod_isWord.cls ≠ "java/lang/invoke/VarHandle" ∧ (parseMethodDescriptor y_Mod_isWord.desc).map (fun d => d.parameters.length) = some 1 := by decide +kernel
theorem d_Mod_isWord_0 : decode b_Mod_isWord 0 = .ok (.aload_n 0, 1) := by decide +kernel
theorem d_Mod_isWord_1 : decode b_Mod_isWord 1 = .ok (.getfield 143, 3) := by decide +kernel
theorem d_Mod_isWord_4 : decode b_Mod_isWord 4 = .ok (.iconst 1, 1) := by decide +kernel
theorem d_Mod_isWord_5 : decode b_Mod_isWord 5 = .ok (.if_icmp .ne 16, 3) := by decide +kernel
theorem d_Mod_isWord_8 : decode b_Mod_isWord 8 = .ok (.aload_n 0, 1) := by decide +kernel
theorem d_Mod_isWord_9 : decode b_Mod_isWord 9 = .ok (.getfield 156, 3) := by decide +kernel
theorem d_Mod_isWord_12 : decode b_Mod_isWord 12 = .ok (.lload_n 1, 1) := by decide +kernel
theorem d_Mod_isWord_13 : decode b_Mod_isWord 13 = .ok (.lcmp, 1) := by decide +kernel
theorem d_Mod_isWord_14 : decode b_Mod_isWord 14 = .ok (.ifCond .ne 7, 3) := by decide +kernel
theorem d_Mod_isWord_17 : decode b_Mod_isWord 17 = .ok (.iconst 1, 1) := by decide +kernel
theorem d_Mod_isWord_18 : decode b_Mod_isWord 18 = .ok (.goto 4, 3) := by decide +kernel
theorem d_Mod_isWord_21 : decode b_Mod_isWord 21 = .ok (.iconst 0, 1) := by decide +kernel
theorem d_Mod_isWord_22 : decode b_Mod_isWord 22 = .ok (.ireturn, 1) := by decide +kernel
noncomputable def f_Mod_isWord (z : Nat → Nat) (σ : Mm) (o : Nat) (p1 : Int64) : Option (Int32) :=
  if (σ.1 o 11) = (1 : Int32) then (
    if (lg_cmp (σ.2 o 17) p1) = 0 then (
      some (1 : Int32)
    ) else (
      some (0 : Int32)
    )
  ) else (
    some (0 : Int32)
  )
set_option maxHeartbeats 4000000 in
set_option maxRecDepth 100000 in
theorem c_Mod_isWord (l : Launch) {L : Ly} (hg : gd_ok L) {σ : Mm} {o : Nat} {p1 : Int64} (k_o_0 : ly_k L o = 11) {res : Int32} (hf0 : f_Mod_isWord (ly_z L) σ o p1 = some res) : CtI l y_Mod_isWord b_Mod_isWord 3 (some .boolean) rm_Mod_isWord L [.ref (ly_a L o), .long p1] σ res σ := by
  refine ct_z hg (by decide) (Nat.le_of_ble_eq_true rfl) ?_
  intro E A Q hE C hN
  subst hE
  unfold f_Mod_isWord at hf0
  show GW E L A 3 0 0 Q σ 0 [(0, .ref (ly_a L o)), (1, .long p1)] []
  refine gw_aload_n C 0 d_Mod_isWord_0 rfl rfl ?_
  refine gw_getI C 11 d_Mod_isWord_1 k_o_0 (by decide) i_Mod rfl rfl (by decide) qw_1176 rfl rfl ?_
  refine gw_iconst C (1 : Int32) d_Mod_isWord_4 (by decide) ?_
  refine gw_icmp_ne C 21 d_Mod_isWord_5 (by decide) (fun hc => ?_) (fun hc => ?_)
  · replace hf0 := mx_f hc hf0
    refine gw_iconst C (0 : Int32) d_Mod_isWord_21 (by decide) ?_
    exact en_zp hN (Or.inl rfl) hf0 d_Mod_isWord_22
  · replace hf0 := mx_t hc hf0
    refine gw_aload_n C 0 d_Mod_isWord_8 rfl rfl ?_
    refine gw_getL C 17 d_Mod_isWord_9 k_o_0 (by decide) i_Mod rfl rfl (by decide) qw_1182 rfl rfl ?_
    refine gw_lload_n C 1 d_Mod_isWord_12 rfl rfl ?_
    refine gw_lcmp C d_Mod_isWord_13 ?_
    refine gw_if_ne C 21 d_Mod_isWord_14 (by decide) (fun hc => ?_) (fun hc => ?_)
    · replace hf0 := mx_f hc hf0
      refine gw_iconst C (0 : Int32) d_Mod_isWord_21 (by decide) ?_
      exact en_zp hN (Or.inl rfl) hf0 d_Mod_isWord_22
    · replace hf0 := mx_t hc hf0
      refine gw_iconst C (1 : Int32) d_Mod_isWord_17 (by decide) ?_
      refine gw_goto C 22 d_Mod_isWord_18 (by decide) ?_
      exact en_zp hN (Or.inr rfl) hf0 d_Mod_isWord_22

/-! NameHatModel.isSign(I)Z -/
abbrev b_Mod_isSign : ByteArray := prog_14_method_18_code
def y_Mod_isSign : MethodName := ⟨"NameHatModel", "isSign", "(I)Z"⟩
abbrev rm_Mod_isSign : Room := { frames := 0, cells := 0, slots := 0, locals := 0 }
theorem hd_Mod_isSign : y_Mod_isSign.cls ≠ "java/lang/invoke/MethodHandle" ∧ y_Mod_isSign.cls ≠ "java/lang/invoke/VarHandle" ∧ (parseMethodDescriptor y_Mod_isSign.desc).map (fun d => d.parameters.length) = some 1 := by decide +kernel
theorem d_Mod_isSign_0 : decode b_Mod_isSign 0 = .ok (.aload_n 0, 1) := by decide +kernel
theorem d_Mod_isSign_1 : decode b_Mod_isSign 1 = .ok (.getfield 143, 3) := by decide +kernel
theorem d_Mod_isSign_4 : decode b_Mod_isSign 4 = .ok (.iconst 3, 1) := by decide +kernel
theorem d_Mod_isSign_5 : decode b_Mod_isSign 5 = .ok (.if_icmp .ne 15, 3) := by decide +kernel
theorem d_Mod_isSign_8 : decode b_Mod_isSign 8 = .ok (.aload_n 0, 1) := by decide +kernel
theorem d_Mod_isSign_9 : decode b_Mod_isSign 9 = .ok (.getfield 153, 3) := by decide +kernel
theorem d_Mod_isSign_12 : decode b_Mod_isSign 12 = .ok (.iload_n 1, 1) := by decide +kernel
theorem d_Mod_isSign_13 : decode b_Mod_isSign 13 = .ok (.if_icmp .ne 7, 3) := by decide +kernel
theorem d_Mod_isSign_16 : decode b_Mod_isSign 16 = .ok (.iconst 1, 1) := by decide +kernel
theorem d_Mod_isSign_17 : decode b_Mod_isSign 17 = .ok (.goto 4, 3) := by decide +kernel
theorem d_Mod_isSign_20 : decode b_Mod_isSign 20 = .ok (.iconst 0, 1) := by decide +kernel
theorem d_Mod_isSign_21 : decode b_Mod_isSign 21 = .ok (.ireturn, 1) := by decide +kernel
noncomputable def f_Mod_isSign (z : Nat → Nat) (σ : Mm) (o : Nat) (p1 : Int32) : Option (Int32) :=
  if (σ.1 o 11) = (3 : Int32) then (
    if (σ.1 o 14) = p1 then (
      some (1 : Int32)
    ) else (
      some (0 : Int32)
    )
  ) else (
    some (0 : Int32)
  )
set_option maxHeartbeats 4000000 in
set_option maxRecDepth 100000 in
theorem c_Mod_isSign (l : Launch) {L : Ly} (hg : gd_ok L) {σ : Mm} {o : Nat} {p1 : Int32} (k_o_0 : ly_k L o = 11) {res : Int32} (hf0 : f_Mod_isSign (ly_z L) σ o p1 = some res) : CtI l y_Mod_isSign b_Mod_isSign 2 (some .boolean) rm_Mod_isSign L [.ref (ly_a L o), .int p1] σ res σ := by
  refine ct_z hg (by decide) (Nat.le_of_ble_eq_true rfl) ?_
  intro E A Q hE C hN
  subst hE
  unfold f_Mod_isSign at hf0
  show GW E L A 2 0 0 Q σ 0 [(0, .ref (ly_a L o)), (1, .int p1)] []
  refine gw_aload_n C 0 d_Mod_isSign_0 rfl rfl ?_
  refine gw_getI C 11 d_Mod_isSign_1 k_o_0 (by decide) i_Mod rfl rfl (by decide) qw_1176 rfl rfl ?_
  refine gw_iconst C (3 : Int32) d_Mod_isSign_4 (by decide) ?_
  refine gw_icmp_ne C 20 d_Mod_isSign_5 (by decide) (fun hc => ?_) (fun hc => ?_)
  · replace hf0 := mx_f hc hf0
    refine gw_iconst C (0 : Int32) d_Mod_isSign_20 (by decide) ?_
    exact en_zp hN (Or.inl rfl) hf0 d_Mod_isSign_21
  · replace hf0 := mx_t hc hf0
    refine gw_aload_n C 0 d_Mod_isSign_8 rfl rfl ?_
    refine gw_getI C 14 d_Mod_isSign_9 k_o_0 (by decide) i_Mod rfl rfl (by decide) qw_1179 rfl rfl ?_
    refine gw_iload_n C 1 d_Mod_isSign_12 rfl rfl ?_
    refine gw_icmp_ne C 20 d_Mod_isSign_13 (by decide) (fun hc => ?_) (fun hc => ?_)
    · replace hf0 := mx_f hc hf0
      refine gw_iconst C (0 : Int32) d_Mod_isSign_20 (by decide) ?_
      exact en_zp hN (Or.inl rfl) hf0 d_Mod_isSign_21
    · replace hf0 := mx_t hc hf0
      refine gw_iconst C (1 : Int32) d_Mod_isSign_16 (by decide) ?_
      refine gw_goto C 21 d_Mod_isSign_17 (by decide) ?_
      exact en_zp hN (Or.inr rfl) hf0 d_Mod_isSign_21

/-! NameHatModel.sign(I)Z -/
abbrev b_Mod_sign : ByteArray := prog_14_method_19_code
def y_Mod_sign : MethodName := ⟨"NameHatModel", "sign", "(I)Z"⟩
abbrev rm_Mod_sign : Room := { frames := 2, cells := 0, slots := 0, locals := 43 }
theorem hd_Mod_sign : y_Mod_sign.cls ≠ "java/lang/invoke/MethodHandle" ∧ y_Mod_sign.cls ≠ "java/lang/invoke/VarHandle" ∧ (parseMethodDescriptor y_Mod_sign.desc).map (fun d => d.parameters.length) = some 1 := by decide +kernel
theorem d_Mod_sign_0 : decode b_Mod_sign 0 = .ok (.aload_n 0, 1) := by decide +kernel
theorem d_Mod_sign_1 : decode b_Mod_sign 1 = .ok (.iload_n 1, 1) := by decide +kernel
theorem d_Mod_sign_2 : decode b_Mod_sign 2 = .ok (.invokevirtual 166, 3) := by decide +kernel
theorem d_Mod_sign_5 : decode b_Mod_sign 5 = .ok (.ifCond .ne 9, 3) := by decide +kernel
theorem d_Mod_sign_8 : decode b_Mod_sign 8 = .ok (.aload_n 0, 1) := by decide +kernel
theorem d_Mod_sign_9 : decode b_Mod_sign 9 = .ok (.iconst 1, 1) := by decide +kernel
theorem d_Mod_sign_10 : decode b_Mod_sign 10 = .ok (.invokevirtual 169, 3) := by decide +kernel
theorem d_Mod_sign_13 : decode b_Mod_sign 13 = .ok (.ireturn, 1) := by decide +kernel
theorem d_Mod_sign_14 : decode b_Mod_sign 14 = .ok (.aload_n 0, 1) := by decide +kernel
theorem d_Mod_sign_15 : decode b_Mod_sign 15 = .ok (.invokevirtual 172, 3) := by decide +kernel
theorem d_Mod_sign_18 : decode b_Mod_sign 18 = .ok (.iconst 1, 1) := by decide +kernel
theorem d_Mod_sign_19 : decode b_Mod_sign 19 = .ok (.ireturn, 1) := by decide +kernel
noncomputable def f_Mod_sign (z : Nat → Nat) (σ : Mm) (o : Nat) (p1 : Int32) : Option (Int32 × Mm) :=
  (f_Mod_isSign z σ o p1).bind fun q2 =>
  if q2 = 0 then (
    (f_Mod_bad z σ o (1 : Int32)).bind fun q10 =>
    (mm_zb q10.1).bind fun y13 =>
    some (y13, q10.2)
  ) else (
    (f_Mod_next z σ o).bind fun q15 =>
    some ((1 : Int32), q15)
  )
set_option maxHeartbeats 4000000 in
set_option maxRecDepth 100000 in
theorem c_Mod_sign (l : Launch) {L : Ly} (hg : gd_ok L) {σ : Mm} {o : Nat} {p1 : Int32} (k_o_0 : ly_k L o = 11) {res : Int32 × Mm} (hf0 : f_Mod_sign (ly_z L) σ o p1 = some res) : CtI l y_Mod_sign b_Mod_sign 2 (some .boolean) rm_Mod_sign L [.ref (ly_a L o), .int p1] σ res.1 res.2 := by
  refine ct_z hg (by decide) (Nat.le_of_ble_eq_true rfl) ?_
  intro E A Q hE C hN
  subst hE
  unfold f_Mod_sign at hf0
  show GW E L A 2 0 0 Q σ 0 [(0, .ref (ly_a L o)), (1, .int p1)] []
  refine gw_aload_n C 0 d_Mod_sign_0 rfl rfl ?_
  refine gw_iload_n C 1 d_Mod_sign_1 rfl rfl ?_
  obtain ⟨q2, hq2, hf0⟩ := mx_bd hf0
  refine gw_callI C (c_Mod_isSign _ hg k_o_0 hq2) d_Mod_sign_2 1 qw_1382 qw_1384 qs_53 qw_12 qw_1385 k_o_0 (by decide) rfl hd_Mod_isSign rfl rfl (Nat.le_of_ble_eq_true rfl) ⟨rfl, rfl, Nat.le_of_ble_eq_true rfl, Nat.le_of_ble_eq_true rfl⟩ ⟨Nat.zero_le _, Nat.zero_le _⟩ ?_
  refine gw_if_ne C 14 d_Mod_sign_5 (by decide) (fun hc => ?_) (fun hc => ?_)
  · replace hf0 := mx_f hc hf0
    refine gw_aload_n C 0 d_Mod_sign_14 rfl rfl ?_
    obtain ⟨q15, hq15, hf0⟩ := mx_bd hf0
    refine gw_callV C (c_Mod_next _ hg k_o_0 hq15) d_Mod_sign_15 0 qw_1310 qw_1312 qs_38 qw_12 qw_1313 k_o_0 (by decide) rfl hd_Mod_next rfl rfl (Nat.le_of_ble_eq_true rfl) ⟨rfl, rfl, Nat.le_of_ble_eq_true rfl, Nat.le_of_ble_eq_true rfl⟩ ⟨Nat.zero_le _, Nat.zero_le _⟩ ?_
    refine gw_iconst C (1 : Int32) d_Mod_sign_18 (by decide) ?_
    exact en_z hN (Or.inr rfl) hf0 d_Mod_sign_19
  · replace hf0 := mx_t hc hf0
    refine gw_aload_n C 0 d_Mod_sign_8 rfl rfl ?_
    refine gw_iconst C (1 : Int32) d_Mod_sign_9 (by decide) ?_
    obtain ⟨q10, hq10, hf0⟩ := mx_bd hf0
    refine gw_callI C (c_Mod_bad _ hg k_o_0 hq10) d_Mod_sign_10 1 qw_1336 qw_1338 qs_43 qw_12 qw_1339 k_o_0 (by decide) rfl hd_Mod_bad rfl rfl (Nat.le_of_ble_eq_true rfl) ⟨rfl, rfl, Nat.le_of_ble_eq_true rfl, Nat.le_of_ble_eq_true rfl⟩ ⟨Nat.zero_le _, Nat.zero_le _⟩ ?_
    obtain ⟨y13, hy13, hf0⟩ := mx_bd hf0
    obtain ⟨zy13, ey13⟩ := mx_zb hy13
    refine gw_topi ey13 ?_
    exact en_z hN zy13 hf0 d_Mod_sign_13

/-! NameHatModel.isName()Z -/
abbrev b_Mod_isName : ByteArray := prog_14_method_20_code
def y_Mod_isName : MethodName := ⟨"NameHatModel", "isName", "()Z"⟩
abbrev rm_Mod_isName : Room := { frames := 0, cells := 0, slots := 0, locals := 0 }
theorem hd_Mod_isName : y_Mod_isName.cls ≠ "java/lang/invoke/MethodHandle" ∧ y_Mod_isName.cls ≠ "java/lang/invoke/VarHandle" ∧ (parseMethodDescriptor y_Mod_isName.desc).map (fun d => d.parameters.length) = some 0 := by decide +kernel
theorem d_Mod_isName_0 : decode b_Mod_isName 0 = .ok (.aload_n 0, 1) := by decide +kernel
theorem d_Mod_isName_1 : decode b_Mod_isName 1 = .ok (.getfield 143, 3) := by decide +kernel
theorem d_Mod_isName_4 : decode b_Mod_isName 4 = .ok (.iconst 1, 1) := by decide +kernel
theorem d_Mod_isName_5 : decode b_Mod_isName 5 = .ok (.if_icmp .ne 7, 3) := by decide +kernel
theorem d_Mod_isName_8 : decode b_Mod_isName 8 = .ok (.iconst 1, 1) := by decide +kernel
theorem d_Mod_isName_9 : decode b_Mod_isName 9 = .ok (.goto 4, 3) := by decide +kernel
theorem d_Mod_isName_12 : decode b_Mod_isName 12 = .ok (.iconst 0, 1) := by decide +kernel
theorem d_Mod_isName_13 : decode b_Mod_isName 13 = .ok (.istore_n 1, 1) := by decide +kernel
theorem d_Mod_isName_14 : decode b_Mod_isName 14 = .ok (.iconst 0, 1) := by decide +kernel
theorem d_Mod_isName_15 : decode b_Mod_isName 15 = .ok (.istore_n 2, 1) := by decide +kernel
theorem d_Mod_isName_16 : decode b_Mod_isName 16 = .ok (.iload_n 2, 1) := by decide +kernel
theorem d_Mod_isName_17 : decode b_Mod_isName 17 = .ok (.bipush 17, 2) := by decide +kernel
theorem d_Mod_isName_19 : decode b_Mod_isName 19 = .ok (.if_icmp .ge 33, 3) := by decide +kernel
theorem d_Mod_isName_22 : decode b_Mod_isName 22 = .ok (.iload_n 1, 1) := by decide +kernel
theorem d_Mod_isName_23 : decode b_Mod_isName 23 = .ok (.ifCond .eq 21, 3) := by decide +kernel
theorem d_Mod_isName_26 : decode b_Mod_isName 26 = .ok (.aload_n 0, 1) := by decide +kernel
theorem d_Mod_isName_27 : decode b_Mod_isName 27 = .ok (.getfield 156, 3) := by decide +kernel
theorem d_Mod_isName_30 : decode b_Mod_isName 30 = .ok (.aload_n 0, 1) := by decide +kernel
theorem d_Mod_isName_31 : decode b_Mod_isName 31 = .ok (.getfield 47, 3) := by decide +kernel
theorem d_Mod_isName_34 : decode b_Mod_isName 34 = .ok (.iload_n 2, 1) := by decide +kernel
theorem d_Mod_isName_35 : decode b_Mod_isName 35 = .ok (.laload, 1) := by decide +kernel
theorem d_Mod_isName_36 : decode b_Mod_isName 36 = .ok (.lcmp, 1) := by decide +kernel
theorem d_Mod_isName_37 : decode b_Mod_isName 37 = .ok (.ifCond .eq 7, 3) := by decide +kernel
theorem d_Mod_isName_40 : decode b_Mod_isName 40 = .ok (.iconst 1, 1) := by decide +kernel
theorem d_Mod_isName_41 : decode b_Mod_isName 41 = .ok (.goto 4, 3) := by decide +kernel
theorem d_Mod_isName_44 : decode b_Mod_isName 44 = .ok (.iconst 0, 1) := by decide +kernel
theorem d_Mod_isName_45 : decode b_Mod_isName 45 = .ok (.istore_n 1, 1) := by decide +kernel
theorem d_Mod_isName_46 : decode b_Mod_isName 46 = .ok (.iinc 2 1, 3) := by decide +kernel
theorem d_Mod_isName_49 : decode b_Mod_isName 49 = .ok (.goto (-33), 3) := by decide +kernel
theorem d_Mod_isName_52 : decode b_Mod_isName 52 = .ok (.iload_n 1, 1) := by decide +kernel
theorem d_Mod_isName_53 : decode b_Mod_isName 53 = .ok (.ireturn, 1) := by decide +kernel
noncomputable def f_Mod_isName_L16 (z : Nat → Nat) (σ : Mm) (o : Nat) (s16 : Int32 × Int32) : Option ((Int32 × Int32) ⊕ (Int32)) :=
  if (17 : Int32) ≤ s16.2 then (
    some (.inr s16.1)
  ) else (
    if s16.1 = 0 then (
      mm_lt (s16.2 + (1 : Int32)) fun x46 =>
      some (.inl ((0 : Int32), x46))
    ) else (
      (mm_ldL (σ.2 (o + 6)) (z (o + 6)) s16.2).bind fun x35 =>
      if (lg_cmp (σ.2 o 17) x35) = 0 then (
        mm_lt (s16.2 + (1 : Int32)) fun x46 =>
        some (.inl ((0 : Int32), x46))
      ) else (
        mm_lt (s16.2 + (1 : Int32)) fun x46 =>
        some (.inl ((1 : Int32), x46))
      )
    )
  )
noncomputable def f_Mod_isName_J13 (z : Nat → Nat) (σ : Mm) (o : Nat) (t13_0 : Int32) : Option (Int32) :=
  (mm_lp (f_Mod_isName_L16 z σ o) (t13_0, (0 : Int32))).bind (fun q16 =>
    (mm_zb q16).bind fun y53 =>
    some y53)
noncomputable def f_Mod_isName (z : Nat → Nat) (σ : Mm) (o : Nat) : Option (Int32) :=
  if (σ.1 o 11) = (1 : Int32) then (
    f_Mod_isName_J13 z σ o (1 : Int32)
  ) else (
    f_Mod_isName_J13 z σ o (0 : Int32)
  )
set_option maxHeartbeats 4000000 in
set_option maxRecDepth 100000 in
theorem c_Mod_isName (l : Launch) {L : Ly} (hg : gd_ok L) {σ : Mm} {o : Nat} (k_o_0 : ly_k L o = 11) {res : Int32} (hf0 : f_Mod_isName (ly_z L) σ o = some res) : CtI l y_Mod_isName b_Mod_isName 3 (some .boolean) rm_Mod_isName L [.ref (ly_a L o)] σ res σ := by
  refine ct_z hg (by decide) (Nat.le_of_ble_eq_true rfl) ?_
  intro E A Q hE C hN
  subst hE
  have k_o_6 : ly_k L (o + 6) = 21 := gd_Mod_reserved hg k_o_0
  unfold f_Mod_isName at hf0
  show GW E L A 3 0 0 Q σ 0 [(0, .ref (ly_a L o))] []
  have hj13 : ∀ (t13_0 : Int32), f_Mod_isName_J13 (ly_z L) σ o t13_0 = some res → GW E L A 3 0 0 Q σ 13 [(0, .ref (ly_a L o))] [.int t13_0] := by
    intro t13_0 hf0
    unfold f_Mod_isName_J13 at hf0
    refine gw_istore_n C [(1, .int t13_0), (0, .ref (ly_a L o))] d_Mod_isName_13 rfl (by decide) rfl ?_
    refine gw_iconst C (0 : Int32) d_Mod_isName_14 (by decide) ?_
    refine gw_istore_n C [(2, .int (0 : Int32)), (1, .int t13_0), (0, .ref (ly_a L o))] d_Mod_isName_15 rfl (by decide) rfl ?_
    obtain ⟨q16, hq16, hf0⟩ := mx_bd hf0
    have hk16 : ∀ x9, q16 = x9 → GW E L A 3 0 0 Q σ 52 [(1, .int x9)] [] := by
      intro x9 hx9
      subst hx9
      refine gw_iload_n C 0 d_Mod_isName_52 rfl rfl ?_
      obtain ⟨y53, hy53, hf0⟩ := mx_bd hf0
      obtain ⟨zy53, ey53⟩ := mx_zb hy53
      refine gw_topi ey53 ?_
      exact en_zp hN zy53 hf0 d_Mod_isName_53
    refine gw_sub [2, 1, 0] (lv' := [(0, .ref (ly_a L o)), (1, .int t13_0), (2, .int (0 : Int32))]) rfl ?_
    refine mm_rule hq16 (P := fun (s16 : Int32 × Int32) => GW E L A 3 0 0 Q σ 16 [(0, .ref (ly_a L o)), (1, .int s16.1), (2, .int s16.2)] []) ?_
    intro s16 ih16 hx16 ⟨w16, hb16⟩
    have hf1 := hb16
    unfold f_Mod_isName_L16 at hf1
    refine gw_iload_n C 2 d_Mod_isName_16 rfl rfl ?_
    refine gw_bipush C (17 : Int32) d_Mod_isName_17 (by decide) ?_
    refine gw_icmp_ge C 52 d_Mod_isName_19 (by decide) (fun hc => ?_) (fun hc => ?_)
    · replace hf1 := mx_t hc hf1
      exact gw_go [1] (hk16 s16.1 (hx16 _ (hb16.trans hf1.symm)).symm) rfl
    · replace hf1 := mx_f hc hf1
      refine gw_iload_n C 1 d_Mod_isName_22 rfl rfl ?_
      refine gw_if_eq C 44 d_Mod_isName_23 (by decide) (fun hc => ?_) (fun hc => ?_)
      · replace hf1 := mx_t hc hf1
        refine gw_iconst C (0 : Int32) d_Mod_isName_44 (by decide) ?_
        refine gw_istore_n C [(1, .int (0 : Int32)), (0, .ref (ly_a L o)), (2, .int s16.2)] d_Mod_isName_45 rfl (by decide) rfl ?_
        obtain ⟨x46, ex46, hf1⟩ := mx_lt hf1
        refine gw_iinc C 2 [(2, .int x46), (1, .int (0 : Int32)), (0, .ref (ly_a L o))] d_Mod_isName_46 rfl (by rw [ex46]; rfl) (by decide) rfl ?_
        refine gw_goto C 16 d_Mod_isName_49 (by decide) ?_
        exact gw_go [2, 1, 0] (ih16 ((0 : Int32), x46) (hb16.trans hf1.symm)) rfl
      · replace hf1 := mx_f hc hf1
        refine gw_aload_n C 0 d_Mod_isName_26 rfl rfl ?_
        refine gw_getL C 17 d_Mod_isName_27 k_o_0 (by decide) i_Mod rfl rfl (by decide) qw_1182 rfl rfl ?_
        refine gw_aload_n C 0 d_Mod_isName_30 rfl rfl ?_
        refine gw_getA C 10 d_Mod_isName_31 k_o_0 (by decide) i_Mod rfl rfl (by decide) qw_1175 rfl rfl (o + 6) rfl ?_
        refine gw_iload_n C 2 d_Mod_isName_34 rfl rfl ?_
        obtain ⟨x35, hx35, hf1⟩ := mx_bd hf1
        obtain ⟨gx35, ex35⟩ := mx_ldL hx35
        refine gw_lald C d_Mod_isName_35 k_o_6 gx35 ex35 ?_
        refine gw_lcmp C d_Mod_isName_36 ?_
        refine gw_if_eq C 44 d_Mod_isName_37 (by decide) (fun hc => ?_) (fun hc => ?_)
        · replace hf1 := mx_t hc hf1
          refine gw_iconst C (0 : Int32) d_Mod_isName_44 (by decide) ?_
          refine gw_istore_n C [(1, .int (0 : Int32)), (0, .ref (ly_a L o)), (2, .int s16.2)] d_Mod_isName_45 rfl (by decide) rfl ?_
          obtain ⟨x46, ex46, hf1⟩ := mx_lt hf1
          refine gw_iinc C 2 [(2, .int x46), (1, .int (0 : Int32)), (0, .ref (ly_a L o))] d_Mod_isName_46 rfl (by rw [ex46]; rfl) (by decide) rfl ?_
          refine gw_goto C 16 d_Mod_isName_49 (by decide) ?_
          exact gw_go [2, 1, 0] (ih16 ((0 : Int32), x46) (hb16.trans hf1.symm)) rfl
        · replace hf1 := mx_f hc hf1
          refine gw_iconst C (1 : Int32) d_Mod_isName_40 (by decide) ?_
          refine gw_goto C 45 d_Mod_isName_41 (by decide) ?_
          refine gw_istore_n C [(1, .int (1 : Int32)), (0, .ref (ly_a L o)), (2, .int s16.2)] d_Mod_isName_45 rfl (by decide) rfl ?_
          obtain ⟨x46, ex46, hf1⟩ := mx_lt hf1
          refine gw_iinc C 2 [(2, .int x46), (1, .int (1 : Int32)), (0, .ref (ly_a L o))] d_Mod_isName_46 rfl (by rw [ex46]; rfl) (by decide) rfl ?_
          refine gw_goto C 16 d_Mod_isName_49 (by decide) ?_
          exact gw_go [2, 1, 0] (ih16 ((1 : Int32), x46) (hb16.trans hf1.symm)) rfl
  refine gw_aload_n C 0 d_Mod_isName_0 rfl rfl ?_
  refine gw_getI C 11 d_Mod_isName_1 k_o_0 (by decide) i_Mod rfl rfl (by decide) qw_1176 rfl rfl ?_
  refine gw_iconst C (1 : Int32) d_Mod_isName_4 (by decide) ?_
  refine gw_icmp_ne C 12 d_Mod_isName_5 (by decide) (fun hc => ?_) (fun hc => ?_)
  · replace hf0 := mx_f hc hf0
    refine gw_iconst C (0 : Int32) d_Mod_isName_12 (by decide) ?_
    exact gw_go [0] (hj13 _ hf0) rfl
  · replace hf0 := mx_t hc hf0
    refine gw_iconst C (1 : Int32) d_Mod_isName_8 (by decide) ?_
    refine gw_goto C 13 d_Mod_isName_9 (by decide) ?_
    exact gw_go [0] (hj13 _ hf0) rfl

/-! NameHatModel.takes(II)Z -/
abbrev b_Mod_takes : ByteArray := prog_14_method_21_code
def y_Mod_takes : MethodName := ⟨"NameHatModel", "takes", "(II)Z"⟩
abbrev rm_Mod_takes : Room := { frames := 2, cells := 0, slots := 0, locals := 43 }
theorem hd_Mod_takes : y_Mod_takes.cls ≠ "java/lang/invoke/MethodHandle" ∧ y_Mod_takes.cls ≠ "java/lang/invoke/VarHandle" ∧ (parseMethodDescriptor y_Mod_takes.desc).map (fun d => d.parameters.length) = some 2 := by decide +kernel
theorem d_Mod_takes_0 : decode b_Mod_takes 0 = .ok (.aload_n 0, 1) := by decide +kernel
theorem d_Mod_takes_1 : decode b_Mod_takes 1 = .ok (.getfield 143, 3) := by decide +kernel
theorem d_Mod_takes_4 : decode b_Mod_takes 4 = .ok (.iconst 2, 1) := by decide +kernel
theorem d_Mod_takes_5 : decode b_Mod_takes 5 = .ok (.if_icmp .eq 9, 3) := by decide +kernel
theorem d_Mod_takes_8 : decode b_Mod_takes 8 = .ok (.aload_n 0, 1) := by decide +kernel
theorem d_Mod_takes_9 : decode b_Mod_takes 9 = .ok (.iconst 1, 1) := by decide +kernel
theorem d_Mod_takes_10 : decode b_Mod_takes 10 = .ok (.invokevirtual 169, 3) := by decide +kernel
theorem d_Mod_takes_13 : decode b_Mod_takes 13 = .ok (.ireturn, 1) := by decide +kernel
theorem d_Mod_takes_14 : decode b_Mod_takes 14 = .ok (.aload_n 0, 1) := by decide +kernel
theorem d_Mod_takes_15 : decode b_Mod_takes 15 = .ok (.getfield 153, 3) := by decide +kernel
theorem d_Mod_takes_18 : decode b_Mod_takes 18 = .ok (.iload_n 1, 1) := by decide +kernel
theorem d_Mod_takes_19 : decode b_Mod_takes 19 = .ok (.iload_n 2, 1) := by decide +kernel
theorem d_Mod_takes_20 : decode b_Mod_takes 20 = .ok (.invokestatic 175, 3) := by decide +kernel
theorem d_Mod_takes_23 : decode b_Mod_takes 23 = .ok (.ifCond .ne 9, 3) := by decide +kernel
theorem d_Mod_takes_26 : decode b_Mod_takes 26 = .ok (.aload_n 0, 1) := by decide +kernel
theorem d_Mod_takes_27 : decode b_Mod_takes 27 = .ok (.iconst 2, 1) := by decide +kernel
theorem d_Mod_takes_28 : decode b_Mod_takes 28 = .ok (.invokevirtual 169, 3) := by decide +kernel
theorem d_Mod_takes_31 : decode b_Mod_takes 31 = .ok (.ireturn, 1) := by decide +kernel
theorem d_Mod_takes_32 : decode b_Mod_takes 32 = .ok (.aload_n 0, 1) := by decide +kernel
theorem d_Mod_takes_33 : decode b_Mod_takes 33 = .ok (.aload_n 0, 1) := by decide +kernel
theorem d_Mod_takes_34 : decode b_Mod_takes 34 = .ok (.getfield 153, 3) := by decide +kernel
theorem d_Mod_takes_37 : decode b_Mod_takes 37 = .ok (.putfield 179, 3) := by decide +kernel
theorem d_Mod_takes_40 : decode b_Mod_takes 40 = .ok (.aload_n 0, 1) := by decide +kernel
theorem d_Mod_takes_41 : decode b_Mod_takes 41 = .ok (.invokevirtual 172, 3) := by decide +kernel
theorem d_Mod_takes_44 : decode b_Mod_takes 44 = .ok (.iconst 1, 1) := by decide +kernel
theorem d_Mod_takes_45 : decode b_Mod_takes 45 = .ok (.ireturn, 1) := by decide +kernel
noncomputable def f_Mod_takes (z : Nat → Nat) (σ : Mm) (o : Nat) (p1 : Int32) (p2 : Int32) : Option (Int32 × Mm) :=
  if (σ.1 o 11) = (2 : Int32) then (
    (f_Mod_isIn z σ (σ.1 o 14) p1 p2).bind fun q20 =>
    if q20 = 0 then (
      (f_Mod_bad z σ o (2 : Int32)).bind fun q28 =>
      (mm_zb q28.1).bind fun y31 =>
      some (y31, q28.2)
    ) else (
      mm_lt (kI σ o 18 (σ.1 o 14)) fun m37 =>
      (f_Mod_next z m37 o).bind fun q41 =>
      some ((1 : Int32), q41)
    )
  ) else (
    (f_Mod_bad z σ o (1 : Int32)).bind fun q10 =>
    (mm_zb q10.1).bind fun y13 =>
    some (y13, q10.2)
  )
set_option maxHeartbeats 4000000 in
set_option maxRecDepth 100000 in
theorem c_Mod_takes (l : Launch) {L : Ly} (hg : gd_ok L) {σ : Mm} {o : Nat} {p1 : Int32} {p2 : Int32} (k_o_0 : ly_k L o = 11) {res : Int32 × Mm} (hf0 : f_Mod_takes (ly_z L) σ o p1 p2 = some res) : CtI l y_Mod_takes b_Mod_takes 3 (some .boolean) rm_Mod_takes L [.ref (ly_a L o), .int p1, .int p2] σ res.1 res.2 := by
  refine ct_z hg (by decide) (Nat.le_of_ble_eq_true rfl) ?_
  intro E A Q hE C hN
  subst hE
  unfold f_Mod_takes at hf0
  show GW E L A 3 0 0 Q σ 0 [(0, .ref (ly_a L o)), (1, .int p1), (2, .int p2)] []
  refine gw_aload_n C 0 d_Mod_takes_0 rfl rfl ?_
  refine gw_getI C 11 d_Mod_takes_1 k_o_0 (by decide) i_Mod rfl rfl (by decide) qw_1176 rfl rfl ?_
  refine gw_iconst C (2 : Int32) d_Mod_takes_4 (by decide) ?_
  refine gw_icmp_eq C 14 d_Mod_takes_5 (by decide) (fun hc => ?_) (fun hc => ?_)
  · replace hf0 := mx_t hc hf0
    refine gw_aload_n C 0 d_Mod_takes_14 rfl rfl ?_
    refine gw_getI C 14 d_Mod_takes_15 k_o_0 (by decide) i_Mod rfl rfl (by decide) qw_1179 rfl rfl ?_
    refine gw_iload_n C 1 d_Mod_takes_18 rfl rfl ?_
    refine gw_iload_n C 2 d_Mod_takes_19 rfl rfl ?_
    obtain ⟨q20, hq20, hf0⟩ := mx_bd hf0
    refine gw_callIS C (c_Mod_isIn _ hg hq20) d_Mod_takes_20 3 qw_1356 qw_1357 qw_12 qw_1358 hd_Mod_isIn rfl rfl (Nat.le_of_ble_eq_true rfl) ⟨rfl, rfl, Nat.le_of_ble_eq_true rfl, Nat.le_of_ble_eq_true rfl⟩ ⟨Nat.zero_le _, Nat.zero_le _⟩ ?_
    refine gw_if_ne C 32 d_Mod_takes_23 (by decide) (fun hc => ?_) (fun hc => ?_)
    · replace hf0 := mx_f hc hf0
      refine gw_aload_n C 0 d_Mod_takes_32 rfl rfl ?_
      refine gw_aload_n C 0 d_Mod_takes_33 rfl rfl ?_
      refine gw_getI C 14 d_Mod_takes_34 k_o_0 (by decide) i_Mod rfl rfl (by decide) qw_1179 rfl rfl ?_
      obtain ⟨m37, em37, hf0⟩ := mx_lt hf0
      refine gw_putI t_Mod C 18 d_Mod_takes_37 k_o_0 (by decide) i_Mod rfl rfl (by decide) qw_1183 rfl rfl t_Mod_ok n_Mod rfl (t_Mod_ok 18 (by decide)) rfl rfl em37 ?_
      refine gw_aload_n C 0 d_Mod_takes_40 rfl rfl ?_
      obtain ⟨q41, hq41, hf0⟩ := mx_bd hf0
      refine gw_callV C (c_Mod_next _ hg k_o_0 hq41) d_Mod_takes_41 0 qw_1310 qw_1312 qs_38 qw_12 qw_1313 k_o_0 (by decide) rfl hd_Mod_next rfl rfl (Nat.le_of_ble_eq_true rfl) ⟨rfl, rfl, Nat.le_of_ble_eq_true rfl, Nat.le_of_ble_eq_true rfl⟩ ⟨Nat.zero_le _, Nat.zero_le _⟩ ?_
      refine gw_iconst C (1 : Int32) d_Mod_takes_44 (by decide) ?_
      exact en_z hN (Or.inr rfl) hf0 d_Mod_takes_45
    · replace hf0 := mx_t hc hf0
      refine gw_aload_n C 0 d_Mod_takes_26 rfl rfl ?_
      refine gw_iconst C (2 : Int32) d_Mod_takes_27 (by decide) ?_
      obtain ⟨q28, hq28, hf0⟩ := mx_bd hf0
      refine gw_callI C (c_Mod_bad _ hg k_o_0 hq28) d_Mod_takes_28 1 qw_1336 qw_1338 qs_43 qw_12 qw_1339 k_o_0 (by decide) rfl hd_Mod_bad rfl rfl (Nat.le_of_ble_eq_true rfl) ⟨rfl, rfl, Nat.le_of_ble_eq_true rfl, Nat.le_of_ble_eq_true rfl⟩ ⟨Nat.zero_le _, Nat.zero_le _⟩ ?_
      obtain ⟨y31, hy31, hf0⟩ := mx_bd hf0
      obtain ⟨zy31, ey31⟩ := mx_zb hy31
      refine gw_topi ey31 ?_
      exact en_z hN zy31 hf0 d_Mod_takes_31
  · replace hf0 := mx_f hc hf0
    refine gw_aload_n C 0 d_Mod_takes_8 rfl rfl ?_
    refine gw_iconst C (1 : Int32) d_Mod_takes_9 (by decide) ?_
    obtain ⟨q10, hq10, hf0⟩ := mx_bd hf0
    refine gw_callI C (c_Mod_bad _ hg k_o_0 hq10) d_Mod_takes_10 1 qw_1336 qw_1338 qs_43 qw_12 qw_1339 k_o_0 (by decide) rfl hd_Mod_bad rfl rfl (Nat.le_of_ble_eq_true rfl) ⟨rfl, rfl, Nat.le_of_ble_eq_true rfl, Nat.le_of_ble_eq_true rfl⟩ ⟨Nat.zero_le _, Nat.zero_le _⟩ ?_
    obtain ⟨y13, hy13, hf0⟩ := mx_bd hf0
    obtain ⟨zy13, ey13⟩ := mx_zb hy13
    refine gw_topi ey13 ?_
    exact en_z hN zy13 hf0 d_Mod_takes_13

/-! NameHatModel.find(II)I -/
abbrev b_Mod_find : ByteArray := prog_14_method_22_code
def y_Mod_find : MethodName := ⟨"NameHatModel", "find", "(II)I"⟩
abbrev rm_Mod_find : Room := { frames := 0, cells := 0, slots := 0, locals := 0 }
theorem hd_Mod_find : y_Mod_find.cls ≠ "java/lang/invoke/MethodHandle" ∧ y_Mod_find.cls ≠ "java/lang/invoke/VarHandle" ∧ (parseMethodDescriptor y_Mod_find.desc).map (fun d => d.parameters.length) = some 2 := by decide +kernel
theorem d_Mod_find_0 : decode b_Mod_find 0 = .ok (.iconst 0, 1) := by decide +kernel
theorem d_Mod_find_1 : decode b_Mod_find 1 = .ok (.istore_n 3, 1) := by decide +kernel
theorem d_Mod_find_2 : decode b_Mod_find 2 = .ok (.iload_n 3, 1) := by decide +kernel
theorem d_Mod_find_3 : decode b_Mod_find 3 = .ok (.iload_n 2, 1) := by decide +kernel
theorem d_Mod_find_4 : decode b_Mod_find 4 = .ok (.if_icmp .ge 27, 3) := by decide +kernel
theorem d_Mod_find_7 : decode b_Mod_find 7 = .ok (.aload_n 0, 1) := by decide +kernel
theorem d_Mod_find_8 : decode b_Mod_find 8 = .ok (.getfield 43, 3) := by decide +kernel
theorem d_Mod_find_11 : decode b_Mod_find 11 = .ok (.iload_n 1, 1) := by decide +kernel
theorem d_Mod_find_12 : decode b_Mod_find 12 = .ok (.iload_n 3, 1) := by decide +kernel
theorem d_Mod_find_13 : decode b_Mod_find 13 = .ok (.iadd, 1) := by decide +kernel
theorem d_Mod_find_14 : decode b_Mod_find 14 = .ok (.laload, 1) := by decide +kernel
theorem d_Mod_find_15 : decode b_Mod_find 15 = .ok (.aload_n 0, 1) := by decide +kernel
theorem d_Mod_find_16 : decode b_Mod_find 16 = .ok (.getfield 156, 3) := by decide +kernel
theorem d_Mod_find_19 : decode b_Mod_find 19 = .ok (.lcmp, 1) := by decide +kernel
theorem d_Mod_find_20 : decode b_Mod_find 20 = .ok (.ifCond .ne 5, 3) := by decide +kernel
theorem d_Mod_find_23 : decode b_Mod_find 23 = .ok (.iload_n 3, 1) := by decide +kernel
theorem d_Mod_find_24 : decode b_Mod_find 24 = .ok (.ireturn, 1) := by decide +kernel
theorem d_Mod_find_25 : decode b_Mod_find 25 = .ok (.iinc 3 1, 3) := by decide +kernel
theorem d_Mod_find_28 : decode b_Mod_find 28 = .ok (.goto (-26), 3) := by decide +kernel
theorem d_Mod_find_31 : decode b_Mod_find 31 = .ok (.iconst (-1), 1) := by decide +kernel
theorem d_Mod_find_32 : decode b_Mod_find 32 = .ok (.ireturn, 1) := by decide +kernel
noncomputable def f_Mod_find_L2 (z : Nat → Nat) (σ : Mm) (o : Nat) (v1 : Int32) (v2 : Int32) (s2 : Int32) : Option ((Int32) ⊕ ((Int32) ⊕ (Unit))) :=
  if v2 ≤ s2 then (
    some (.inr (.inr ()))
  ) else (
    (mm_ldL (σ.2 (o + 5)) (z (o + 5)) (v1 + s2)).bind fun x14 =>
    if (lg_cmp x14 (σ.2 o 17)) = 0 then (
      some (.inr (.inl s2))
    ) else (
      mm_lt (s2 + (1 : Int32)) fun x25 =>
      some (.inl x25)
    )
  )
noncomputable def f_Mod_find (z : Nat → Nat) (σ : Mm) (o : Nat) (p1 : Int32) (p2 : Int32) : Option (Int32) :=
  (mm_lp (f_Mod_find_L2 z σ o p1 p2) (0 : Int32)).bind (Sum.elim (fun r9 => some r9) (fun x2_ =>
    some ((-1) : Int32)))
set_option maxHeartbeats 4000000 in
set_option maxRecDepth 100000 in
theorem c_Mod_find (l : Launch) {L : Ly} (hg : gd_ok L) {σ : Mm} {o : Nat} {p1 : Int32} {p2 : Int32} (k_o_0 : ly_k L o = 11) {res : Int32} (hf0 : f_Mod_find (ly_z L) σ o p1 p2 = some res) : CtI l y_Mod_find b_Mod_find 4 (some .int) rm_Mod_find L [.ref (ly_a L o), .int p1, .int p2] σ res σ := by
  refine ct_i hg (by decide) (Nat.le_of_ble_eq_true rfl) ?_
  intro E A Q hE C hN
  subst hE
  have k_o_5 : ly_k L (o + 5) = 21 := gd_Mod_names hg k_o_0
  unfold f_Mod_find at hf0
  show GW E L A 4 0 0 Q σ 0 [(0, .ref (ly_a L o)), (1, .int p1), (2, .int p2)] []
  refine gw_iconst C (0 : Int32) d_Mod_find_0 (by decide) ?_
  refine gw_istore_n C [(3, .int (0 : Int32)), (0, .ref (ly_a L o)), (1, .int p1), (2, .int p2)] d_Mod_find_1 rfl (by decide) rfl ?_
  obtain ⟨q2, hq2, hf0⟩ := mx_bd hf0
  have hk2 : ∀ x2_, q2 = .inr x2_ → GW E L A 4 0 0 Q σ 31 [] [] := by
    intro x2_ hx9
    subst hx9
    replace hf0 := mx_sr hf0
    refine gw_iconst C ((-1) : Int32) d_Mod_find_31 (by decide) ?_
    exact en_ip hN hf0 d_Mod_find_32
  refine gw_sub [1, 2, 3, 0] (lv' := [(0, .ref (ly_a L o)), (1, .int p1), (2, .int p2), (3, .int (0 : Int32))]) rfl ?_
  refine mm_rule hq2 (P := fun (s2 : Int32) => GW E L A 4 0 0 Q σ 2 [(0, .ref (ly_a L o)), (1, .int p1), (2, .int p2), (3, .int s2)] []) ?_
  intro s2 ih2 hx2 ⟨w2, hb2⟩
  have hf1 := hb2
  unfold f_Mod_find_L2 at hf1
  refine gw_iload_n C 3 d_Mod_find_2 rfl rfl ?_
  refine gw_iload_n C 2 d_Mod_find_3 rfl rfl ?_
  refine gw_icmp_ge C 31 d_Mod_find_4 (by decide) (fun hc => ?_) (fun hc => ?_)
  · replace hf1 := mx_t hc hf1
    exact gw_go [] (hk2 () (hx2 _ (hb2.trans hf1.symm)).symm) rfl
  · replace hf1 := mx_f hc hf1
    refine gw_aload_n C 0 d_Mod_find_7 rfl rfl ?_
    refine gw_getA C 9 d_Mod_find_8 k_o_0 (by decide) i_Mod rfl rfl (by decide) qw_1174 rfl rfl (o + 5) rfl ?_
    refine gw_iload_n C 1 d_Mod_find_11 rfl rfl ?_
    refine gw_iload_n C 3 d_Mod_find_12 rfl rfl ?_
    refine gw_iadd C d_Mod_find_13 ?_
    obtain ⟨x14, hx14, hf1⟩ := mx_bd hf1
    obtain ⟨gx14, ex14⟩ := mx_ldL hx14
    refine gw_lald C d_Mod_find_14 k_o_5 gx14 ex14 ?_
    refine gw_aload_n C 0 d_Mod_find_15 rfl rfl ?_
    refine gw_getL C 17 d_Mod_find_16 k_o_0 (by decide) i_Mod rfl rfl (by decide) qw_1182 rfl rfl ?_
    refine gw_lcmp C d_Mod_find_19 ?_
    refine gw_if_ne C 25 d_Mod_find_20 (by decide) (fun hc => ?_) (fun hc => ?_)
    · replace hf1 := mx_f hc hf1
      obtain ⟨x25, ex25, hf1⟩ := mx_lt hf1
      refine gw_iinc C 3 [(3, .int x25), (0, .ref (ly_a L o)), (1, .int p1), (2, .int p2)] d_Mod_find_25 rfl (by rw [ex25]; rfl) (by decide) rfl ?_
      refine gw_goto C 2 d_Mod_find_28 (by decide) ?_
      exact gw_go [1, 2, 3, 0] (ih2 x25 (hb2.trans hf1.symm)) rfl
    · replace hf1 := mx_t hc hf1
      refine gw_iload_n C 3 d_Mod_find_23 rfl rfl ?_
      have hr2 := hx2 _ (hb2.trans hf1.symm)
      subst hr2
      replace hf0 := mx_sl hf0
      exact en_ip hN hf0 d_Mod_find_24

/-! NameHatModel.takesName(II)Z -/
abbrev b_Mod_takesName : ByteArray := prog_14_method_23_code
def y_Mod_takesName : MethodName := ⟨"NameHatModel", "takesName", "(II)Z"⟩
abbrev rm_Mod_takesName : Room := { frames := 2, cells := 0, slots := 0, locals := 43 }
theorem hd_Mod_takesName : y_Mod_takesName.cls ≠ "java/lang/invoke/MethodHandle" ∧ y_Mod_takesName.cls ≠ "java/lang/invoke/VarHandle" ∧ (parseMethodDescriptor y_Mod_takesName.desc).map (fun d => d.parameters.length) = some 2 := by decide +kernel
theorem d_Mod_takesName_0 : decode b_Mod_takesName 0 = .ok (.aload_n 0, 1) := by decide +kernel
theorem d_Mod_takesName_1 : decode b_Mod_takesName 1 = .ok (.invokevirtual 182, 3) := by decide +kernel
theorem d_Mod_takesName_4 : decode b_Mod_takesName 4 = .ok (.ifCond .ne 9, 3) := by decide +kernel
theorem d_Mod_takesName_7 : decode b_Mod_takesName 7 = .ok (.aload_n 0, 1) := by decide +kernel
theorem d_Mod_takesName_8 : decode b_Mod_takesName 8 = .ok (.iconst 1, 1) := by decide +kernel
theorem d_Mod_takesName_9 : decode b_Mod_takesName 9 = .ok (.invokevirtual 169, 3) := by decide +kernel
theorem d_Mod_takesName_12 : decode b_Mod_takesName 12 = .ok (.ireturn, 1) := by decide +kernel
theorem d_Mod_takesName_13 : decode b_Mod_takesName 13 = .ok (.aload_n 0, 1) := by decide +kernel
theorem d_Mod_takesName_14 : decode b_Mod_takesName 14 = .ok (.aload_n 0, 1) := by decide +kernel
theorem d_Mod_takesName_15 : decode b_Mod_takesName 15 = .ok (.iload_n 1, 1) := by decide +kernel
theorem d_Mod_takesName_16 : decode b_Mod_takesName 16 = .ok (.iload_n 2, 1) := by decide +kernel
theorem d_Mod_takesName_17 : decode b_Mod_takesName 17 = .ok (.invokevirtual 186, 3) := by decide +kernel
theorem d_Mod_takesName_20 : decode b_Mod_takesName 20 = .ok (.putfield 179, 3) := by decide +kernel
theorem d_Mod_takesName_23 : decode b_Mod_takesName 23 = .ok (.aload_n 0, 1) := by decide +kernel
theorem d_Mod_takesName_24 : decode b_Mod_takesName 24 = .ok (.getfield 179, 3) := by decide +kernel
theorem d_Mod_takesName_27 : decode b_Mod_takesName 27 = .ok (.ifCond .ge 9, 3) := by decide +kernel
theorem d_Mod_takesName_30 : decode b_Mod_takesName 30 = .ok (.aload_n 0, 1) := by decide +kernel
theorem d_Mod_takesName_31 : decode b_Mod_takesName 31 = .ok (.iconst 3, 1) := by decide +kernel
theorem d_Mod_takesName_32 : decode b_Mod_takesName 32 = .ok (.invokevirtual 169, 3) := by decide +kernel
theorem d_Mod_takesName_35 : decode b_Mod_takesName 35 = .ok (.ireturn, 1) := by decide +kernel
theorem d_Mod_takesName_36 : decode b_Mod_takesName 36 = .ok (.aload_n 0, 1) := by decide +kernel
theorem d_Mod_takesName_37 : decode b_Mod_takesName 37 = .ok (.invokevirtual 172, 3) := by decide +kernel
theorem d_Mod_takesName_40 : decode b_Mod_takesName 40 = .ok (.iconst 1, 1) := by decide +kernel
theorem d_Mod_takesName_41 : decode b_Mod_takesName 41 = .ok (.ireturn, 1) := by decide +kernel
noncomputable def f_Mod_takesName (z : Nat → Nat) (σ : Mm) (o : Nat) (p1 : Int32) (p2 : Int32) : Option (Int32 × Mm) :=
  (f_Mod_isName z σ o).bind fun q1 =>
  if q1 = 0 then (
    (f_Mod_bad z σ o (1 : Int32)).bind fun q9 =>
    (mm_zb q9.1).bind fun y12 =>
    some (y12, q9.2)
  ) else (
    (f_Mod_find z σ o p1 p2).bind fun q17 =>
    mm_lt (kI σ o 18 q17) fun m20 =>
    if 0 ≤ (m20.1 o 18) then (
      (f_Mod_next z m20 o).bind fun q37 =>
      some ((1 : Int32), q37)
    ) else (
      (f_Mod_bad z m20 o (3 : Int32)).bind fun q32 =>
      (mm_zb q32.1).bind fun y35 =>
      some (y35, q32.2)
    )
  )
set_option maxHeartbeats 4000000 in
set_option maxRecDepth 100000 in
theorem c_Mod_takesName (l : Launch) {L : Ly} (hg : gd_ok L) {σ : Mm} {o : Nat} {p1 : Int32} {p2 : Int32} (k_o_0 : ly_k L o = 11) {res : Int32 × Mm} (hf0 : f_Mod_takesName (ly_z L) σ o p1 p2 = some res) : CtI l y_Mod_takesName b_Mod_takesName 3 (some .boolean) rm_Mod_takesName L [.ref (ly_a L o), .int p1, .int p2] σ res.1 res.2 := by
  refine ct_z hg (by decide) (Nat.le_of_ble_eq_true rfl) ?_
  intro E A Q hE C hN
  subst hE
  unfold f_Mod_takesName at hf0
  show GW E L A 3 0 0 Q σ 0 [(0, .ref (ly_a L o)), (1, .int p1), (2, .int p2)] []
  refine gw_aload_n C 0 d_Mod_takesName_0 rfl rfl ?_
  obtain ⟨q1, hq1, hf0⟩ := mx_bd hf0
  refine gw_callI C (c_Mod_isName _ hg k_o_0 hq1) d_Mod_takesName_1 0 qw_1344 qw_1346 qs_45 qw_12 qw_1347 k_o_0 (by decide) rfl hd_Mod_isName rfl rfl (Nat.le_of_ble_eq_true rfl) ⟨rfl, rfl, Nat.le_of_ble_eq_true rfl, Nat.le_of_ble_eq_true rfl⟩ ⟨Nat.zero_le _, Nat.zero_le _⟩ ?_
  refine gw_if_ne C 13 d_Mod_takesName_4 (by decide) (fun hc => ?_) (fun hc => ?_)
  · replace hf0 := mx_f hc hf0
    refine gw_aload_n C 0 d_Mod_takesName_13 rfl rfl ?_
    refine gw_aload_n C 0 d_Mod_takesName_14 rfl rfl ?_
    refine gw_iload_n C 1 d_Mod_takesName_15 rfl rfl ?_
    refine gw_iload_n C 2 d_Mod_takesName_16 rfl rfl ?_
    obtain ⟨q17, hq17, hf0⟩ := mx_bd hf0
    refine gw_callI C (c_Mod_find _ hg k_o_0 hq17) d_Mod_takesName_17 2 qw_1348 qw_1350 qs_46 qw_12 qw_1351 k_o_0 (by decide) rfl hd_Mod_find rfl rfl (Nat.le_of_ble_eq_true rfl) ⟨rfl, rfl, Nat.le_of_ble_eq_true rfl, Nat.le_of_ble_eq_true rfl⟩ ⟨Nat.zero_le _, Nat.zero_le _⟩ ?_
    obtain ⟨m20, em20, hf0⟩ := mx_lt hf0
    refine gw_putI t_Mod C 18 d_Mod_takesName_20 k_o_0 (by decide) i_Mod rfl rfl (by decide) qw_1183 rfl rfl t_Mod_ok n_Mod rfl (t_Mod_ok 18 (by decide)) rfl rfl em20 ?_
    refine gw_aload_n C 0 d_Mod_takesName_23 rfl rfl ?_
    refine gw_getI C 18 d_Mod_takesName_24 k_o_0 (by decide) i_Mod rfl rfl (by decide) qw_1183 rfl rfl ?_
    refine gw_if_ge C 36 d_Mod_takesName_27 (by decide) (fun hc => ?_) (fun hc => ?_)
    · replace hf0 := mx_t hc hf0
      refine gw_aload_n C 0 d_Mod_takesName_36 rfl rfl ?_
      obtain ⟨q37, hq37, hf0⟩ := mx_bd hf0
      refine gw_callV C (c_Mod_next _ hg k_o_0 hq37) d_Mod_takesName_37 0 qw_1310 qw_1312 qs_38 qw_12 qw_1313 k_o_0 (by decide) rfl hd_Mod_next rfl rfl (Nat.le_of_ble_eq_true rfl) ⟨rfl, rfl, Nat.le_of_ble_eq_true rfl, Nat.le_of_ble_eq_true rfl⟩ ⟨Nat.zero_le _, Nat.zero_le _⟩ ?_
      refine gw_iconst C (1 : Int32) d_Mod_takesName_40 (by decide) ?_
      exact en_z hN (Or.inr rfl) hf0 d_Mod_takesName_41
    · replace hf0 := mx_f hc hf0
      refine gw_aload_n C 0 d_Mod_takesName_30 rfl rfl ?_
      refine gw_iconst C (3 : Int32) d_Mod_takesName_31 (by decide) ?_
      obtain ⟨q32, hq32, hf0⟩ := mx_bd hf0
      refine gw_callI C (c_Mod_bad _ hg k_o_0 hq32) d_Mod_takesName_32 1 qw_1336 qw_1338 qs_43 qw_12 qw_1339 k_o_0 (by decide) rfl hd_Mod_bad rfl rfl (Nat.le_of_ble_eq_true rfl) ⟨rfl, rfl, Nat.le_of_ble_eq_true rfl, Nat.le_of_ble_eq_true rfl⟩ ⟨Nat.zero_le _, Nat.zero_le _⟩ ?_
      obtain ⟨y35, hy35, hf0⟩ := mx_bd hf0
      obtain ⟨zy35, ey35⟩ := mx_zb hy35
      refine gw_topi ey35 ?_
      exact en_z hN zy35 hf0 d_Mod_takesName_35
  · replace hf0 := mx_t hc hf0
    refine gw_aload_n C 0 d_Mod_takesName_7 rfl rfl ?_
    refine gw_iconst C (1 : Int32) d_Mod_takesName_8 (by decide) ?_
    obtain ⟨q9, hq9, hf0⟩ := mx_bd hf0
    refine gw_callI C (c_Mod_bad _ hg k_o_0 hq9) d_Mod_takesName_9 1 qw_1336 qw_1338 qs_43 qw_12 qw_1339 k_o_0 (by decide) rfl hd_Mod_bad rfl rfl (Nat.le_of_ble_eq_true rfl) ⟨rfl, rfl, Nat.le_of_ble_eq_true rfl, Nat.le_of_ble_eq_true rfl⟩ ⟨Nat.zero_le _, Nat.zero_le _⟩ ?_
    obtain ⟨y12, hy12, hf0⟩ := mx_bd hf0
    obtain ⟨zy12, ey12⟩ := mx_zb hy12
    refine gw_topi ey12 ?_
    exact en_z hN zy12 hf0 d_Mod_takesName_12

/-! NameHatModel.fresh(I)Z -/
abbrev b_Mod_fresh : ByteArray := prog_14_method_24_code
def y_Mod_fresh : MethodName := ⟨"NameHatModel", "fresh", "(I)Z"⟩
abbrev rm_Mod_fresh : Room := { frames := 2, cells := 0, slots := 0, locals := 43 }
theorem hd_Mod_fresh : y_Mod_fresh.cls ≠ "java/lang/invoke/MethodHandle" ∧ y_Mod_fresh.cls ≠ "java/lang/invoke/VarHandle" ∧ (parseMethodDescriptor y_Mod_fresh.desc).map (fun d => d.parameters.length) = some 1 := by decide +kernel
theorem d_Mod_fresh_0 : decode b_Mod_fresh 0 = .ok (.aload_n 0, 1) := by decide +kernel
theorem d_Mod_fresh_1 : decode b_Mod_fresh 1 = .ok (.invokevirtual 182, 3) := by decide +kernel
theorem d_Mod_fresh_4 : decode b_Mod_fresh 4 = .ok (.ifCond .ne 9, 3) := by decide +kernel
theorem d_Mod_fresh_7 : decode b_Mod_fresh 7 = .ok (.aload_n 0, 1) := by decide +kernel
theorem d_Mod_fresh_8 : decode b_Mod_fresh 8 = .ok (.iconst 1, 1) := by decide +kernel
theorem d_Mod_fresh_9 : decode b_Mod_fresh 9 = .ok (.invokevirtual 169, 3) := by decide +kernel
theorem d_Mod_fresh_12 : decode b_Mod_fresh 12 = .ok (.ireturn, 1) := by decide +kernel
theorem d_Mod_fresh_13 : decode b_Mod_fresh 13 = .ok (.aload_n 0, 1) := by decide +kernel
theorem d_Mod_fresh_14 : decode b_Mod_fresh 14 = .ok (.bipush 18, 2) := by decide +kernel
theorem d_Mod_fresh_16 : decode b_Mod_fresh 16 = .ok (.aload_n 0, 1) := by decide +kernel
theorem d_Mod_fresh_17 : decode b_Mod_fresh 17 = .ok (.getfield 37, 3) := by decide +kernel
theorem d_Mod_fresh_20 : decode b_Mod_fresh 20 = .ok (.iconst 0, 1) := by decide +kernel
theorem d_Mod_fresh_21 : decode b_Mod_fresh 21 = .ok (.iaload, 1) := by decide +kernel
theorem d_Mod_fresh_22 : decode b_Mod_fresh 22 = .ok (.invokevirtual 186, 3) := by decide +kernel
theorem d_Mod_fresh_25 : decode b_Mod_fresh 25 = .ok (.ifCond .ge 18, 3) := by decide +kernel
theorem d_Mod_fresh_28 : decode b_Mod_fresh 28 = .ok (.aload_n 0, 1) := by decide +kernel
theorem d_Mod_fresh_29 : decode b_Mod_fresh 29 = .ok (.bipush 28, 2) := by decide +kernel
theorem d_Mod_fresh_31 : decode b_Mod_fresh 31 = .ok (.aload_n 0, 1) := by decide +kernel
theorem d_Mod_fresh_32 : decode b_Mod_fresh 32 = .ok (.getfield 37, 3) := by decide +kernel
theorem d_Mod_fresh_35 : decode b_Mod_fresh 35 = .ok (.iconst 1, 1) := by decide +kernel
theorem d_Mod_fresh_36 : decode b_Mod_fresh 36 = .ok (.iaload, 1) := by decide +kernel
theorem d_Mod_fresh_37 : decode b_Mod_fresh 37 = .ok (.invokevirtual 186, 3) := by decide +kernel
theorem d_Mod_fresh_40 : decode b_Mod_fresh 40 = .ok (.ifCond .lt 9, 3) := by decide +kernel
theorem d_Mod_fresh_43 : decode b_Mod_fresh 43 = .ok (.aload_n 0, 1) := by decide +kernel
theorem d_Mod_fresh_44 : decode b_Mod_fresh 44 = .ok (.iconst 3, 1) := by decide +kernel
theorem d_Mod_fresh_45 : decode b_Mod_fresh 45 = .ok (.invokevirtual 169, 3) := by decide +kernel
theorem d_Mod_fresh_48 : decode b_Mod_fresh 48 = .ok (.ireturn, 1) := by decide +kernel
theorem d_Mod_fresh_49 : decode b_Mod_fresh 49 = .ok (.aload_n 0, 1) := by decide +kernel
theorem d_Mod_fresh_50 : decode b_Mod_fresh 50 = .ok (.getfield 43, 3) := by decide +kernel
theorem d_Mod_fresh_53 : decode b_Mod_fresh 53 = .ok (.iload_n 1, 1) := by decide +kernel
theorem d_Mod_fresh_54 : decode b_Mod_fresh 54 = .ok (.aload_n 0, 1) := by decide +kernel
theorem d_Mod_fresh_55 : decode b_Mod_fresh 55 = .ok (.getfield 156, 3) := by decide +kernel
theorem d_Mod_fresh_58 : decode b_Mod_fresh 58 = .ok (.lastore, 1) := by decide +kernel
theorem d_Mod_fresh_59 : decode b_Mod_fresh 59 = .ok (.aload_n 0, 1) := by decide +kernel
theorem d_Mod_fresh_60 : decode b_Mod_fresh 60 = .ok (.invokevirtual 172, 3) := by decide +kernel
theorem d_Mod_fresh_63 : decode b_Mod_fresh 63 = .ok (.iconst 1, 1) := by decide +kernel
theorem d_Mod_fresh_64 : decode b_Mod_fresh 64 = .ok (.ireturn, 1) := by decide +kernel
noncomputable def f_Mod_fresh_J43 (z : Nat → Nat) (o : Nat) (m43 : Mm) : Option (Int32 × Mm) :=
  (f_Mod_bad z m43 o (3 : Int32)).bind fun q45 =>
  (mm_zb q45.1).bind fun y48 =>
  some (y48, q45.2)
noncomputable def f_Mod_fresh (z : Nat → Nat) (σ : Mm) (o : Nat) (p1 : Int32) : Option (Int32 × Mm) :=
  (f_Mod_isName z σ o).bind fun q1 =>
  if q1 = 0 then (
    (f_Mod_bad z σ o (1 : Int32)).bind fun q9 =>
    (mm_zb q9.1).bind fun y12 =>
    some (y12, q9.2)
  ) else (
    (mm_ldI (σ.1 (o + 3)) (z (o + 3)) (0 : Int32)).bind fun x21 =>
    (f_Mod_find z σ o (18 : Int32) x21).bind fun q22 =>
    if 0 ≤ q22 then (
      f_Mod_fresh_J43 z o σ
    ) else (
      (mm_ldI (σ.1 (o + 3)) (z (o + 3)) (1 : Int32)).bind fun x36 =>
      (f_Mod_find z σ o (28 : Int32) x36).bind fun q37 =>
      if q37 < 0 then (
        (mm_stL σ (o + 5) (z (o + 5)) p1 (σ.2 o 17)).bind fun m58 =>
        (f_Mod_next z m58 o).bind fun q60 =>
        some ((1 : Int32), q60)
      ) else (
        f_Mod_fresh_J43 z o σ
      )
    )
  )
set_option maxHeartbeats 4000000 in
set_option maxRecDepth 100000 in
theorem c_Mod_fresh (l : Launch) {L : Ly} (hg : gd_ok L) {σ : Mm} {o : Nat} {p1 : Int32} (k_o_0 : ly_k L o = 11) {res : Int32 × Mm} (hf0 : f_Mod_fresh (ly_z L) σ o p1 = some res) : CtI l y_Mod_fresh b_Mod_fresh 2 (some .boolean) rm_Mod_fresh L [.ref (ly_a L o), .int p1] σ res.1 res.2 := by
  refine ct_z hg (by decide) (Nat.le_of_ble_eq_true rfl) ?_
  intro E A Q hE C hN
  subst hE
  have k_o_3 : ly_k L (o + 3) = 20 := gd_Mod_h hg k_o_0
  have k_o_5 : ly_k L (o + 5) = 21 := gd_Mod_names hg k_o_0
  unfold f_Mod_fresh at hf0
  show GW E L A 2 0 0 Q σ 0 [(0, .ref (ly_a L o)), (1, .int p1)] []
  have hj43 : ∀ (m43 : Mm), f_Mod_fresh_J43 (ly_z L) o m43 = some res → GW E L A 2 0 0 Q m43 43 [(0, .ref (ly_a L o))] [] := by
    intro m43 hf0
    unfold f_Mod_fresh_J43 at hf0
    refine gw_aload_n C 0 d_Mod_fresh_43 rfl rfl ?_
    refine gw_iconst C (3 : Int32) d_Mod_fresh_44 (by decide) ?_
    obtain ⟨q45, hq45, hf0⟩ := mx_bd hf0
    refine gw_callI C (c_Mod_bad _ hg k_o_0 hq45) d_Mod_fresh_45 1 qw_1336 qw_1338 qs_43 qw_12 qw_1339 k_o_0 (by decide) rfl hd_Mod_bad rfl rfl (Nat.le_of_ble_eq_true rfl) ⟨rfl, rfl, Nat.le_of_ble_eq_true rfl, Nat.le_of_ble_eq_true rfl⟩ ⟨Nat.zero_le _, Nat.zero_le _⟩ ?_
    obtain ⟨y48, hy48, hf0⟩ := mx_bd hf0
    obtain ⟨zy48, ey48⟩ := mx_zb hy48
    refine gw_topi ey48 ?_
    exact en_z hN zy48 hf0 d_Mod_fresh_48
  refine gw_aload_n C 0 d_Mod_fresh_0 rfl rfl ?_
  obtain ⟨q1, hq1, hf0⟩ := mx_bd hf0
  refine gw_callI C (c_Mod_isName _ hg k_o_0 hq1) d_Mod_fresh_1 0 qw_1344 qw_1346 qs_45 qw_12 qw_1347 k_o_0 (by decide) rfl hd_Mod_isName rfl rfl (Nat.le_of_ble_eq_true rfl) ⟨rfl, rfl, Nat.le_of_ble_eq_true rfl, Nat.le_of_ble_eq_true rfl⟩ ⟨Nat.zero_le _, Nat.zero_le _⟩ ?_
  refine gw_if_ne C 13 d_Mod_fresh_4 (by decide) (fun hc => ?_) (fun hc => ?_)
  · replace hf0 := mx_f hc hf0
    refine gw_aload_n C 0 d_Mod_fresh_13 rfl rfl ?_
    refine gw_bipush C (18 : Int32) d_Mod_fresh_14 (by decide) ?_
    refine gw_aload_n C 0 d_Mod_fresh_16 rfl rfl ?_
    refine gw_getA C 7 d_Mod_fresh_17 k_o_0 (by decide) i_Mod rfl rfl (by decide) qw_1172 rfl rfl (o + 3) rfl ?_
    refine gw_iconst C (0 : Int32) d_Mod_fresh_20 (by decide) ?_
    obtain ⟨x21, hx21, hf0⟩ := mx_bd hf0
    obtain ⟨gx21, ex21⟩ := mx_ldI hx21
    refine gw_iald C d_Mod_fresh_21 k_o_3 gx21 ex21 ?_
    obtain ⟨q22, hq22, hf0⟩ := mx_bd hf0
    refine gw_callI C (c_Mod_find _ hg k_o_0 hq22) d_Mod_fresh_22 2 qw_1348 qw_1350 qs_46 qw_12 qw_1351 k_o_0 (by decide) rfl hd_Mod_find rfl rfl (Nat.le_of_ble_eq_true rfl) ⟨rfl, rfl, Nat.le_of_ble_eq_true rfl, Nat.le_of_ble_eq_true rfl⟩ ⟨Nat.zero_le _, Nat.zero_le _⟩ ?_
    refine gw_if_ge C 43 d_Mod_fresh_25 (by decide) (fun hc => ?_) (fun hc => ?_)
    · replace hf0 := mx_t hc hf0
      exact gw_go [0] (hj43 _ hf0) rfl
    · replace hf0 := mx_f hc hf0
      refine gw_aload_n C 0 d_Mod_fresh_28 rfl rfl ?_
      refine gw_bipush C (28 : Int32) d_Mod_fresh_29 (by decide) ?_
      refine gw_aload_n C 0 d_Mod_fresh_31 rfl rfl ?_
      refine gw_getA C 7 d_Mod_fresh_32 k_o_0 (by decide) i_Mod rfl rfl (by decide) qw_1172 rfl rfl (o + 3) rfl ?_
      refine gw_iconst C (1 : Int32) d_Mod_fresh_35 (by decide) ?_
      obtain ⟨x36, hx36, hf0⟩ := mx_bd hf0
      obtain ⟨gx36, ex36⟩ := mx_ldI hx36
      refine gw_iald C d_Mod_fresh_36 k_o_3 gx36 ex36 ?_
      obtain ⟨q37, hq37, hf0⟩ := mx_bd hf0
      refine gw_callI C (c_Mod_find _ hg k_o_0 hq37) d_Mod_fresh_37 2 qw_1348 qw_1350 qs_46 qw_12 qw_1351 k_o_0 (by decide) rfl hd_Mod_find rfl rfl (Nat.le_of_ble_eq_true rfl) ⟨rfl, rfl, Nat.le_of_ble_eq_true rfl, Nat.le_of_ble_eq_true rfl⟩ ⟨Nat.zero_le _, Nat.zero_le _⟩ ?_
      refine gw_if_lt C 49 d_Mod_fresh_40 (by decide) (fun hc => ?_) (fun hc => ?_)
      · replace hf0 := mx_t hc hf0
        refine gw_aload_n C 0 d_Mod_fresh_49 rfl rfl ?_
        refine gw_getA C 9 d_Mod_fresh_50 k_o_0 (by decide) i_Mod rfl rfl (by decide) qw_1174 rfl rfl (o + 5) rfl ?_
        refine gw_iload_n C 1 d_Mod_fresh_53 rfl rfl ?_
        refine gw_aload_n C 0 d_Mod_fresh_54 rfl rfl ?_
        refine gw_getL C 17 d_Mod_fresh_55 k_o_0 (by decide) i_Mod rfl rfl (by decide) qw_1182 rfl rfl ?_
        obtain ⟨m58, hm58, hf0⟩ := mx_bd hf0
        obtain ⟨gm58, em58⟩ := mx_stL hm58
        refine gw_last C d_Mod_fresh_58 k_o_5 gm58 em58 ?_
        refine gw_aload_n C 0 d_Mod_fresh_59 rfl rfl ?_
        obtain ⟨q60, hq60, hf0⟩ := mx_bd hf0
        refine gw_callV C (c_Mod_next _ hg k_o_0 hq60) d_Mod_fresh_60 0 qw_1310 qw_1312 qs_38 qw_12 qw_1313 k_o_0 (by decide) rfl hd_Mod_next rfl rfl (Nat.le_of_ble_eq_true rfl) ⟨rfl, rfl, Nat.le_of_ble_eq_true rfl, Nat.le_of_ble_eq_true rfl⟩ ⟨Nat.zero_le _, Nat.zero_le _⟩ ?_
        refine gw_iconst C (1 : Int32) d_Mod_fresh_63 (by decide) ?_
        exact en_z hN (Or.inr rfl) hf0 d_Mod_fresh_64
      · replace hf0 := mx_f hc hf0
        exact gw_go [0] (hj43 _ hf0) rfl
  · replace hf0 := mx_t hc hf0
    refine gw_aload_n C 0 d_Mod_fresh_7 rfl rfl ?_
    refine gw_iconst C (1 : Int32) d_Mod_fresh_8 (by decide) ?_
    obtain ⟨q9, hq9, hf0⟩ := mx_bd hf0
    refine gw_callI C (c_Mod_bad _ hg k_o_0 hq9) d_Mod_fresh_9 1 qw_1336 qw_1338 qs_43 qw_12 qw_1339 k_o_0 (by decide) rfl hd_Mod_bad rfl rfl (Nat.le_of_ble_eq_true rfl) ⟨rfl, rfl, Nat.le_of_ble_eq_true rfl, Nat.le_of_ble_eq_true rfl⟩ ⟨Nat.zero_le _, Nat.zero_le _⟩ ?_
    obtain ⟨y12, hy12, hf0⟩ := mx_bd hf0
    obtain ⟨zy12, ey12⟩ := mx_zb hy12
    refine gw_topi ey12 ?_
    exact en_z hN zy12 hf0 d_Mod_fresh_12

/-! NameHatModel.readName()Z -/
abbrev b_Mod_readName : ByteArray := prog_14_method_26_code
def y_Mod_readName : MethodName := ⟨"NameHatModel", "readName", "()Z"⟩
abbrev rm_Mod_readName : Room := { frames := 3, cells := 0, slots := 0, locals := 65 }
theorem hd_Mod_readName : y_Mod_readName.cls ≠ "java/lang/invoke/MethodHandle" ∧ y_Mod_readName.cls ≠ "java/lang/invoke/VarHandle" ∧ (parseMethodDescriptor y_Mod_readName.desc).map (fun d => d.parameters.length) = some 0 := by decide +kernel
theorem d_Mod_readName_0 : decode b_Mod_readName 0 = .ok (.aload_n 0, 1) := by decide +kernel
theorem d_Mod_readName_1 : decode b_Mod_readName 1 = .ok (.getfield 37, 3) := by decide +kernel
theorem d_Mod_readName_4 : decode b_Mod_readName 4 = .ok (.iconst 0, 1) := by decide +kernel
theorem d_Mod_readName_5 : decode b_Mod_readName 5 = .ok (.iaload, 1) := by decide +kernel
theorem d_Mod_readName_6 : decode b_Mod_readName 6 = .ok (.istore_n 1, 1) := by decide +kernel
theorem d_Mod_readName_7 : decode b_Mod_readName 7 = .ok (.iload_n 1, 1) := by decide +kernel
theorem d_Mod_readName_8 : decode b_Mod_readName 8 = .ok (.bipush 10, 2) := by decide +kernel
theorem d_Mod_readName_10 : decode b_Mod_readName 10 = .ok (.if_icmp .ne 9, 3) := by decide +kernel
theorem d_Mod_readName_13 : decode b_Mod_readName 13 = .ok (.aload_n 0, 1) := by decide +kernel
theorem d_Mod_readName_14 : decode b_Mod_readName 14 = .ok (.iconst 4, 1) := by decide +kernel
theorem d_Mod_readName_15 : decode b_Mod_readName 15 = .ok (.invokevirtual 169, 3) := by decide +kernel
theorem d_Mod_readName_18 : decode b_Mod_readName 18 = .ok (.ireturn, 1) := by decide +kernel
theorem d_Mod_readName_19 : decode b_Mod_readName 19 = .ok (.aload_n 0, 1) := by decide +kernel
theorem d_Mod_readName_20 : decode b_Mod_readName 20 = .ok (.invokevirtual 172, 3) := by decide +kernel
theorem d_Mod_readName_23 : decode b_Mod_readName 23 = .ok (.aload_n 0, 1) := by decide +kernel
theorem d_Mod_readName_24 : decode b_Mod_readName 24 = .ok (.bipush 18, 2) := by decide +kernel
theorem d_Mod_readName_26 : decode b_Mod_readName 26 = .ok (.iload_n 1, 1) := by decide +kernel
theorem d_Mod_readName_27 : decode b_Mod_readName 27 = .ok (.iadd, 1) := by decide +kernel
theorem d_Mod_readName_28 : decode b_Mod_readName 28 = .ok (.invokevirtual 223, 3) := by decide +kernel
theorem d_Mod_readName_31 : decode b_Mod_readName 31 = .ok (.ifCond .ne 5, 3) := by decide +kernel
theorem d_Mod_readName_34 : decode b_Mod_readName 34 = .ok (.iconst 0, 1) := by decide +kernel
theorem d_Mod_readName_35 : decode b_Mod_readName 35 = .ok (.ireturn, 1) := by decide +kernel
theorem d_Mod_readName_36 : decode b_Mod_readName 36 = .ok (.aload_n 0, 1) := by decide +kernel
theorem d_Mod_readName_37 : decode b_Mod_readName 37 = .ok (.iconst 0, 1) := by decide +kernel
theorem d_Mod_readName_38 : decode b_Mod_readName 38 = .ok (.bipush 99, 2) := by decide +kernel
theorem d_Mod_readName_40 : decode b_Mod_readName 40 = .ok (.invokevirtual 213, 3) := by decide +kernel
theorem d_Mod_readName_43 : decode b_Mod_readName 43 = .ok (.ifCond .ne 5, 3) := by decide +kernel
theorem d_Mod_readName_46 : decode b_Mod_readName 46 = .ok (.iconst 0, 1) := by decide +kernel
theorem d_Mod_readName_47 : decode b_Mod_readName 47 = .ok (.ireturn, 1) := by decide +kernel
theorem d_Mod_readName_48 : decode b_Mod_readName 48 = .ok (.aload_n 0, 1) := by decide +kernel
theorem d_Mod_readName_49 : decode b_Mod_readName 49 = .ok (.getfield 37, 3) := by decide +kernel
theorem d_Mod_readName_52 : decode b_Mod_readName 52 = .ok (.iconst 5, 1) := by decide +kernel
theorem d_Mod_readName_53 : decode b_Mod_readName 53 = .ok (.iload_n 1, 1) := by decide +kernel
theorem d_Mod_readName_54 : decode b_Mod_readName 54 = .ok (.iadd, 1) := by decide +kernel
theorem d_Mod_readName_55 : decode b_Mod_readName 55 = .ok (.aload_n 0, 1) := by decide +kernel
theorem d_Mod_readName_56 : decode b_Mod_readName 56 = .ok (.getfield 179, 3) := by decide +kernel
theorem d_Mod_readName_59 : decode b_Mod_readName 59 = .ok (.iastore, 1) := by decide +kernel
theorem d_Mod_readName_60 : decode b_Mod_readName 60 = .ok (.aload_n 0, 1) := by decide +kernel
theorem d_Mod_readName_61 : decode b_Mod_readName 61 = .ok (.getfield 37, 3) := by decide +kernel
theorem d_Mod_readName_64 : decode b_Mod_readName 64 = .ok (.bipush 15, 2) := by decide +kernel
theorem d_Mod_readName_66 : decode b_Mod_readName 66 = .ok (.iload_n 1, 1) := by decide +kernel
theorem d_Mod_readName_67 : decode b_Mod_readName 67 = .ok (.iadd, 1) := by decide +kernel
theorem d_Mod_readName_68 : decode b_Mod_readName 68 = .ok (.aload_n 0, 1) := by decide +kernel
theorem d_Mod_readName_69 : decode b_Mod_readName 69 = .ok (.ldc2_w 101, 3) := by decide +kernel
theorem d_Mod_readName_72 : decode b_Mod_readName 72 = .ok (.invokevirtual 190, 3) := by decide +kernel
theorem d_Mod_readName_75 : decode b_Mod_readName 75 = .ok (.ifCond .eq 7, 3) := by decide +kernel
theorem d_Mod_readName_78 : decode b_Mod_readName 78 = .ok (.iconst 1, 1) := by decide +kernel
theorem d_Mod_readName_79 : decode b_Mod_readName 79 = .ok (.goto 18, 3) := by decide +kernel
theorem d_Mod_readName_82 : decode b_Mod_readName 82 = .ok (.aload_n 0, 1) := by decide +kernel
theorem d_Mod_readName_83 : decode b_Mod_readName 83 = .ok (.ldc2_w 103, 3) := by decide +kernel
theorem d_Mod_readName_86 : decode b_Mod_readName 86 = .ok (.invokevirtual 190, 3) := by decide +kernel
theorem d_Mod_readName_89 : decode b_Mod_readName 89 = .ok (.ifCond .eq 7, 3) := by decide +kernel
theorem d_Mod_readName_92 : decode b_Mod_readName 92 = .ok (.iconst 2, 1) := by decide +kernel
theorem d_Mod_readName_93 : decode b_Mod_readName 93 = .ok (.goto 4, 3) := by decide +kernel
theorem d_Mod_readName_96 : decode b_Mod_readName 96 = .ok (.iconst 0, 1) := by decide +kernel
theorem d_Mod_readName_97 : decode b_Mod_readName 97 = .ok (.iastore, 1) := by decide +kernel
theorem d_Mod_readName_98 : decode b_Mod_readName 98 = .ok (.aload_n 0, 1) := by decide +kernel
theorem d_Mod_readName_99 : decode b_Mod_readName 99 = .ok (.getfield 37, 3) := by decide +kernel
theorem d_Mod_readName_102 : decode b_Mod_readName 102 = .ok (.bipush 15, 2) := by decide +kernel
theorem d_Mod_readName_104 : decode b_Mod_readName 104 = .ok (.iload_n 1, 1) := by decide +kernel
theorem d_Mod_readName_105 : decode b_Mod_readName 105 = .ok (.iadd, 1) := by decide +kernel
theorem d_Mod_readName_106 : decode b_Mod_readName 106 = .ok (.iaload, 1) := by decide +kernel
theorem d_Mod_readName_107 : decode b_Mod_readName 107 = .ok (.ifCond .le 7, 3) := by decide +kernel
theorem d_Mod_readName_110 : decode b_Mod_readName 110 = .ok (.aload_n 0, 1) := by decide +kernel
theorem d_Mod_readName_111 : decode b_Mod_readName 111 = .ok (.invokevirtual 172, 3) := by decide +kernel
theorem d_Mod_readName_114 : decode b_Mod_readName 114 = .ok (.aload_n 0, 1) := by decide +kernel
theorem d_Mod_readName_115 : decode b_Mod_readName 115 = .ok (.getfield 37, 3) := by decide +kernel
theorem d_Mod_readName_118 : decode b_Mod_readName 118 = .ok (.iconst 0, 1) := by decide +kernel
theorem d_Mod_readName_119 : decode b_Mod_readName 119 = .ok (.dup2, 1) := by decide +kernel
theorem d_Mod_readName_120 : decode b_Mod_readName 120 = .ok (.iaload, 1) := by decide +kernel
theorem d_Mod_readName_121 : decode b_Mod_readName 121 = .ok (.iconst 1, 1) := by decide +kernel
theorem d_Mod_readName_122 : decode b_Mod_readName 122 = .ok (.iadd, 1) := by decide +kernel
theorem d_Mod_readName_123 : decode b_Mod_readName 123 = .ok (.iastore, 1) := by decide +kernel
theorem d_Mod_readName_124 : decode b_Mod_readName 124 = .ok (.iconst 1, 1) := by decide +kernel
theorem d_Mod_readName_125 : decode b_Mod_readName 125 = .ok (.ireturn, 1) := by decide +kernel
noncomputable def f_Mod_readName_J114 (z : Nat → Nat) (o : Nat) (m114 : Mm) : Option (Int32 × Mm) :=
  (mm_ldI (m114.1 (o + 3)) (z (o + 3)) (0 : Int32)).bind fun x120 =>
  (mm_stI m114 (o + 3) (z (o + 3)) (0 : Int32) (x120 + (1 : Int32))).bind fun m123 =>
  some ((1 : Int32), m123)
noncomputable def f_Mod_readName_J97 (z : Nat → Nat) (o : Nat) (v1 : Int32) (t97_1 : Int32) (t97_2 : Int32) (m97 : Mm) : Option (Int32 × Mm) :=
  (mm_stI m97 (o + 3) (z (o + 3)) t97_1 t97_2).bind fun m97 =>
  (mm_ldI (m97.1 (o + 3)) (z (o + 3)) ((15 : Int32) + v1)).bind fun x106 =>
  if x106 ≤ 0 then (
    f_Mod_readName_J114 z o m97
  ) else (
    (f_Mod_next z m97 o).bind fun q111 =>
    f_Mod_readName_J114 z o q111
  )
noncomputable def f_Mod_readName (z : Nat → Nat) (σ : Mm) (o : Nat) : Option (Int32 × Mm) :=
  (mm_ldI (σ.1 (o + 3)) (z (o + 3)) (0 : Int32)).bind fun x5 =>
  if x5 = (10 : Int32) then (
    (f_Mod_bad z σ o (4 : Int32)).bind fun q15 =>
    (mm_zb q15.1).bind fun y18 =>
    some (y18, q15.2)
  ) else (
    (f_Mod_next z σ o).bind fun q20 =>
    (f_Mod_fresh z q20 o ((18 : Int32) + x5)).bind fun q28 =>
    if q28.1 = 0 then (
      some ((0 : Int32), q28.2)
    ) else (
      (f_Mod_takes z q28.2 o (0 : Int32) (99 : Int32)).bind fun q40 =>
      if q40.1 = 0 then (
        some ((0 : Int32), q40.2)
      ) else (
        (mm_stI q40.2 (o + 3) (z (o + 3)) ((5 : Int32) + x5) (q40.2.1 o 18)).bind fun m59 =>
        (f_Mod_isWord z m59 o (109356082488676 : Int64)).bind fun q72 =>
        if q72 = 0 then (
          (f_Mod_isWord z m59 o (123563917862244 : Int64)).bind fun q86 =>
          if q86 = 0 then (
            f_Mod_readName_J97 z o x5 ((15 : Int32) + x5) (0 : Int32) m59
          ) else (
            f_Mod_readName_J97 z o x5 ((15 : Int32) + x5) (2 : Int32) m59
          )
        ) else (
          f_Mod_readName_J97 z o x5 ((15 : Int32) + x5) (1 : Int32) m59
        )
      )
    )
  )
set_option maxHeartbeats 4000000 in
set_option maxRecDepth 100000 in
theorem c_Mod_readName (l : Launch) {L : Ly} (hg : gd_ok L) {σ : Mm} {o : Nat} (k_o_0 : ly_k L o = 11) {res : Int32 × Mm} (hf0 : f_Mod_readName (ly_z L) σ o = some res) : CtI l y_Mod_readName b_Mod_readName 2 (some .boolean) rm_Mod_readName L [.ref (ly_a L o)] σ res.1 res.2 := by
  refine ct_z hg (by decide) (Nat.le_of_ble_eq_true rfl) ?_
  intro E A Q hE C hN
  subst hE
  have k_o_3 : ly_k L (o + 3) = 20 := gd_Mod_h hg k_o_0
  unfold f_Mod_readName at hf0
  show GW E L A 2 0 0 Q σ 0 [(0, .ref (ly_a L o))] []
  have hj114 : ∀ (m114 : Mm), f_Mod_readName_J114 (ly_z L) o m114 = some res → GW E L A 2 0 0 Q m114 114 [(0, .ref (ly_a L o))] [] := by
    intro m114 hf0
    unfold f_Mod_readName_J114 at hf0
    refine gw_aload_n C 0 d_Mod_readName_114 rfl rfl ?_
    refine gw_getA C 7 d_Mod_readName_115 k_o_0 (by decide) i_Mod rfl rfl (by decide) qw_1172 rfl rfl (o + 3) rfl ?_
    refine gw_iconst C (0 : Int32) d_Mod_readName_118 (by decide) ?_
    refine gw_dup2 C d_Mod_readName_119 rfl rfl ?_
    obtain ⟨x120, hx120, hf0⟩ := mx_bd hf0
    obtain ⟨gx120, ex120⟩ := mx_ldI hx120
    refine gw_iald C d_Mod_readName_120 k_o_3 gx120 ex120 ?_
    refine gw_iconst C (1 : Int32) d_Mod_readName_121 (by decide) ?_
    refine gw_iadd C d_Mod_readName_122 ?_
    obtain ⟨m123, hm123, hf0⟩ := mx_bd hf0
    obtain ⟨gm123, em123⟩ := mx_stI hm123
    refine gw_iast C d_Mod_readName_123 k_o_3 gm123 em123 ?_
    refine gw_iconst C (1 : Int32) d_Mod_readName_124 (by decide) ?_
    exact en_z hN (Or.inr rfl) hf0 d_Mod_readName_125
  have hj97 : ∀ (v1 : Int32) (t97_1 : Int32) (t97_2 : Int32) (m97 : Mm), f_Mod_readName_J97 (ly_z L) o v1 t97_1 t97_2 m97 = some res → GW E L A 2 0 0 Q m97 97 [(0, .ref (ly_a L o)), (1, .int v1)] [.int t97_2, .int t97_1, .ref (ly_a L (o + 3))] := by
    intro v1 t97_1 t97_2 m97 hf0
    unfold f_Mod_readName_J97 at hf0
    obtain ⟨m97, hm97, hf0⟩ := mx_bd hf0
    obtain ⟨gm97, em97⟩ := mx_stI hm97
    refine gw_iast C d_Mod_readName_97 k_o_3 gm97 em97 ?_
    refine gw_aload_n C 0 d_Mod_readName_98 rfl rfl ?_
    refine gw_getA C 7 d_Mod_readName_99 k_o_0 (by decide) i_Mod rfl rfl (by decide) qw_1172 rfl rfl (o + 3) rfl ?_
    refine gw_bipush C (15 : Int32) d_Mod_readName_102 (by decide) ?_
    refine gw_iload_n C 1 d_Mod_readName_104 rfl rfl ?_
    refine gw_iadd C d_Mod_readName_105 ?_
    obtain ⟨x106, hx106, hf0⟩ := mx_bd hf0
    obtain ⟨gx106, ex106⟩ := mx_ldI hx106
    refine gw_iald C d_Mod_readName_106 k_o_3 gx106 ex106 ?_
    refine gw_if_le C 114 d_Mod_readName_107 (by decide) (fun hc => ?_) (fun hc => ?_)
    · replace hf0 := mx_t hc hf0
      exact gw_go [0] (hj114 _ hf0) rfl
    · replace hf0 := mx_f hc hf0
      refine gw_aload_n C 0 d_Mod_readName_110 rfl rfl ?_
      obtain ⟨q111, hq111, hf0⟩ := mx_bd hf0
      refine gw_callV C (c_Mod_next _ hg k_o_0 hq111) d_Mod_readName_111 0 qw_1310 qw_1312 qs_38 qw_12 qw_1313 k_o_0 (by decide) rfl hd_Mod_next rfl rfl (Nat.le_of_ble_eq_true rfl) ⟨rfl, rfl, Nat.le_of_ble_eq_true rfl, Nat.le_of_ble_eq_true rfl⟩ ⟨Nat.zero_le _, Nat.zero_le _⟩ ?_
      exact gw_go [0] (hj114 _ hf0) rfl
  refine gw_aload_n C 0 d_Mod_readName_0 rfl rfl ?_
  refine gw_getA C 7 d_Mod_readName_1 k_o_0 (by decide) i_Mod rfl rfl (by decide) qw_1172 rfl rfl (o + 3) rfl ?_
  refine gw_iconst C (0 : Int32) d_Mod_readName_4 (by decide) ?_
  obtain ⟨x5, hx5, hf0⟩ := mx_bd hf0
  obtain ⟨gx5, ex5⟩ := mx_ldI hx5
  refine gw_iald C d_Mod_readName_5 k_o_3 gx5 ex5 ?_
  refine gw_istore_n C [(1, .int x5), (0, .ref (ly_a L o))] d_Mod_readName_6 rfl (by decide) rfl ?_
  refine gw_iload_n C 0 d_Mod_readName_7 rfl rfl ?_
  refine gw_bipush C (10 : Int32) d_Mod_readName_8 (by decide) ?_
  refine gw_icmp_ne C 19 d_Mod_readName_10 (by decide) (fun hc => ?_) (fun hc => ?_)
  · replace hf0 := mx_f hc hf0
    refine gw_aload_n C 1 d_Mod_readName_19 rfl rfl ?_
    obtain ⟨q20, hq20, hf0⟩ := mx_bd hf0
    refine gw_callV C (c_Mod_next _ hg k_o_0 hq20) d_Mod_readName_20 0 qw_1310 qw_1312 qs_38 qw_12 qw_1313 k_o_0 (by decide) rfl hd_Mod_next rfl rfl (Nat.le_of_ble_eq_true rfl) ⟨rfl, rfl, Nat.le_of_ble_eq_true rfl, Nat.le_of_ble_eq_true rfl⟩ ⟨Nat.zero_le _, Nat.zero_le _⟩ ?_
    refine gw_aload_n C 1 d_Mod_readName_23 rfl rfl ?_
    refine gw_bipush C (18 : Int32) d_Mod_readName_24 (by decide) ?_
    refine gw_iload_n C 0 d_Mod_readName_26 rfl rfl ?_
    refine gw_iadd C d_Mod_readName_27 ?_
    obtain ⟨q28, hq28, hf0⟩ := mx_bd hf0
    refine gw_callI C (c_Mod_fresh _ hg k_o_0 hq28) d_Mod_readName_28 1 qw_1340 qw_1342 qs_44 qw_12 qw_1343 k_o_0 (by decide) rfl hd_Mod_fresh rfl rfl (Nat.le_of_ble_eq_true rfl) ⟨rfl, rfl, Nat.le_of_ble_eq_true rfl, Nat.le_of_ble_eq_true rfl⟩ ⟨Nat.zero_le _, Nat.zero_le _⟩ ?_
    refine gw_if_ne C 36 d_Mod_readName_31 (by decide) (fun hc => ?_) (fun hc => ?_)
    · replace hf0 := mx_f hc hf0
      refine gw_aload_n C 1 d_Mod_readName_36 rfl rfl ?_
      refine gw_iconst C (0 : Int32) d_Mod_readName_37 (by decide) ?_
      refine gw_bipush C (99 : Int32) d_Mod_readName_38 (by decide) ?_
      obtain ⟨q40, hq40, hf0⟩ := mx_bd hf0
      refine gw_callI C (c_Mod_takes _ hg k_o_0 hq40) d_Mod_readName_40 2 qw_1352 qw_1354 qs_47 qw_12 qw_1355 k_o_0 (by decide) rfl hd_Mod_takes rfl rfl (Nat.le_of_ble_eq_true rfl) ⟨rfl, rfl, Nat.le_of_ble_eq_true rfl, Nat.le_of_ble_eq_true rfl⟩ ⟨Nat.zero_le _, Nat.zero_le _⟩ ?_
      refine gw_if_ne C 48 d_Mod_readName_43 (by decide) (fun hc => ?_) (fun hc => ?_)
      · replace hf0 := mx_f hc hf0
        refine gw_aload_n C 1 d_Mod_readName_48 rfl rfl ?_
        refine gw_getA C 7 d_Mod_readName_49 k_o_0 (by decide) i_Mod rfl rfl (by decide) qw_1172 rfl rfl (o + 3) rfl ?_
        refine gw_iconst C (5 : Int32) d_Mod_readName_52 (by decide) ?_
        refine gw_iload_n C 0 d_Mod_readName_53 rfl rfl ?_
        refine gw_iadd C d_Mod_readName_54 ?_
        refine gw_aload_n C 1 d_Mod_readName_55 rfl rfl ?_
        refine gw_getI C 18 d_Mod_readName_56 k_o_0 (by decide) i_Mod rfl rfl (by decide) qw_1183 rfl rfl ?_
        obtain ⟨m59, hm59, hf0⟩ := mx_bd hf0
        obtain ⟨gm59, em59⟩ := mx_stI hm59
        refine gw_iast C d_Mod_readName_59 k_o_3 gm59 em59 ?_
        refine gw_aload_n C 1 d_Mod_readName_60 rfl rfl ?_
        refine gw_getA C 7 d_Mod_readName_61 k_o_0 (by decide) i_Mod rfl rfl (by decide) qw_1172 rfl rfl (o + 3) rfl ?_
        refine gw_bipush C (15 : Int32) d_Mod_readName_64 (by decide) ?_
        refine gw_iload_n C 0 d_Mod_readName_66 rfl rfl ?_
        refine gw_iadd C d_Mod_readName_67 ?_
        refine gw_aload_n C 1 d_Mod_readName_68 rfl rfl ?_
        refine gw_ldc2_w C d_Mod_readName_69 qw_1149 ?_
        obtain ⟨q72, hq72, hf0⟩ := mx_bd hf0
        refine gw_callI C (c_Mod_isWord _ hg k_o_0 hq72) d_Mod_readName_72 1 qw_1328 qw_1330 qs_41 qw_12 qw_1331 k_o_0 (by decide) rfl hd_Mod_isWord rfl rfl (Nat.le_of_ble_eq_true rfl) ⟨rfl, rfl, Nat.le_of_ble_eq_true rfl, Nat.le_of_ble_eq_true rfl⟩ ⟨Nat.zero_le _, Nat.zero_le _⟩ ?_
        refine gw_if_eq C 82 d_Mod_readName_75 (by decide) (fun hc => ?_) (fun hc => ?_)
        · replace hf0 := mx_t hc hf0
          refine gw_aload_n C 1 d_Mod_readName_82 rfl rfl ?_
          refine gw_ldc2_w C d_Mod_readName_83 qw_1150 ?_
          obtain ⟨q86, hq86, hf0⟩ := mx_bd hf0
          refine gw_callI C (c_Mod_isWord _ hg k_o_0 hq86) d_Mod_readName_86 1 qw_1328 qw_1330 qs_41 qw_12 qw_1331 k_o_0 (by decide) rfl hd_Mod_isWord rfl rfl (Nat.le_of_ble_eq_true rfl) ⟨rfl, rfl, Nat.le_of_ble_eq_true rfl, Nat.le_of_ble_eq_true rfl⟩ ⟨Nat.zero_le _, Nat.zero_le _⟩ ?_
          refine gw_if_eq C 96 d_Mod_readName_89 (by decide) (fun hc => ?_) (fun hc => ?_)
          · replace hf0 := mx_t hc hf0
            refine gw_iconst C (0 : Int32) d_Mod_readName_96 (by decide) ?_
            exact gw_go [1, 0] (hj97 _ _ _ _ hf0) rfl
          · replace hf0 := mx_f hc hf0
            refine gw_iconst C (2 : Int32) d_Mod_readName_92 (by decide) ?_
            refine gw_goto C 97 d_Mod_readName_93 (by decide) ?_
            exact gw_go [1, 0] (hj97 _ _ _ _ hf0) rfl
        · replace hf0 := mx_f hc hf0
          refine gw_iconst C (1 : Int32) d_Mod_readName_78 (by decide) ?_
          refine gw_goto C 97 d_Mod_readName_79 (by decide) ?_
          exact gw_go [1, 0] (hj97 _ _ _ _ hf0) rfl
      · replace hf0 := mx_t hc hf0
        refine gw_iconst C (0 : Int32) d_Mod_readName_46 (by decide) ?_
        exact en_z hN (Or.inl rfl) hf0 d_Mod_readName_47
    · replace hf0 := mx_t hc hf0
      refine gw_iconst C (0 : Int32) d_Mod_readName_34 (by decide) ?_
      exact en_z hN (Or.inl rfl) hf0 d_Mod_readName_35
  · replace hf0 := mx_t hc hf0
    refine gw_aload_n C 1 d_Mod_readName_13 rfl rfl ?_
    refine gw_iconst C (4 : Int32) d_Mod_readName_14 (by decide) ?_
    obtain ⟨q15, hq15, hf0⟩ := mx_bd hf0
    refine gw_callI C (c_Mod_bad _ hg k_o_0 hq15) d_Mod_readName_15 1 qw_1336 qw_1338 qs_43 qw_12 qw_1339 k_o_0 (by decide) rfl hd_Mod_bad rfl rfl (Nat.le_of_ble_eq_true rfl) ⟨rfl, rfl, Nat.le_of_ble_eq_true rfl, Nat.le_of_ble_eq_true rfl⟩ ⟨Nat.zero_le _, Nat.zero_le _⟩ ?_
    obtain ⟨y18, hy18, hf0⟩ := mx_bd hf0
    obtain ⟨zy18, ey18⟩ := mx_zb hy18
    refine gw_topi ey18 ?_
    exact en_z hN zy18 hf0 d_Mod_readName_18

/-! NameHatModel.readHouse()Z -/
abbrev b_Mod_readHouse : ByteArray := prog_14_method_27_code
def y_Mod_readHouse : MethodName := ⟨"NameHatModel", "readHouse", "()Z"⟩
abbrev rm_Mod_readHouse : Room := { frames := 3, cells := 0, slots := 0, locals := 64 }
theorem hd_Mod_readHouse : y_Mod_readHouse.cls ≠ "java/lang/invoke/MethodHandle" ∧ y_Mod_readHouse.cls ≠ "java/lang/invoke/VarHandle" ∧ (parseMethodDescriptor y_Mod_readHouse.desc).map (fun d => d.parameters.length) = some 0 := by decide +kernel
theorem d_Mod_readHouse_0 : decode b_Mod_readHouse 0 = .ok (.aload_n 0, 1) := by decide +kernel
theorem d_Mod_readHouse_1 : decode b_Mod_readHouse 1 = .ok (.getfield 37, 3) := by decide +kernel
theorem d_Mod_readHouse_4 : decode b_Mod_readHouse 4 = .ok (.iconst 1, 1) := by decide +kernel
theorem d_Mod_readHouse_5 : decode b_Mod_readHouse 5 = .ok (.iaload, 1) := by decide +kernel
theorem d_Mod_readHouse_6 : decode b_Mod_readHouse 6 = .ok (.istore_n 1, 1) := by decide +kernel
theorem d_Mod_readHouse_7 : decode b_Mod_readHouse 7 = .ok (.iload_n 1, 1) := by decide +kernel
theorem d_Mod_readHouse_8 : decode b_Mod_readHouse 8 = .ok (.bipush 8, 2) := by decide +kernel
theorem d_Mod_readHouse_10 : decode b_Mod_readHouse 10 = .ok (.if_icmp .ne 9, 3) := by decide +kernel
theorem d_Mod_readHouse_13 : decode b_Mod_readHouse 13 = .ok (.aload_n 0, 1) := by decide +kernel
theorem d_Mod_readHouse_14 : decode b_Mod_readHouse 14 = .ok (.iconst 4, 1) := by decide +kernel
theorem d_Mod_readHouse_15 : decode b_Mod_readHouse 15 = .ok (.invokevirtual 169, 3) := by decide +kernel
theorem d_Mod_readHouse_18 : decode b_Mod_readHouse 18 = .ok (.ireturn, 1) := by decide +kernel
theorem d_Mod_readHouse_19 : decode b_Mod_readHouse 19 = .ok (.aload_n 0, 1) := by decide +kernel
theorem d_Mod_readHouse_20 : decode b_Mod_readHouse 20 = .ok (.invokevirtual 172, 3) := by decide +kernel
theorem d_Mod_readHouse_23 : decode b_Mod_readHouse 23 = .ok (.aload_n 0, 1) := by decide +kernel
theorem d_Mod_readHouse_24 : decode b_Mod_readHouse 24 = .ok (.bipush 28, 2) := by decide +kernel
theorem d_Mod_readHouse_26 : decode b_Mod_readHouse 26 = .ok (.iload_n 1, 1) := by decide +kernel
theorem d_Mod_readHouse_27 : decode b_Mod_readHouse 27 = .ok (.iadd, 1) := by decide +kernel
theorem d_Mod_readHouse_28 : decode b_Mod_readHouse 28 = .ok (.invokevirtual 223, 3) := by decide +kernel
theorem d_Mod_readHouse_31 : decode b_Mod_readHouse 31 = .ok (.ifCond .ne 5, 3) := by decide +kernel
theorem d_Mod_readHouse_34 : decode b_Mod_readHouse 34 = .ok (.iconst 0, 1) := by decide +kernel
theorem d_Mod_readHouse_35 : decode b_Mod_readHouse 35 = .ok (.ireturn, 1) := by decide +kernel
theorem d_Mod_readHouse_36 : decode b_Mod_readHouse 36 = .ok (.aload_n 0, 1) := by decide +kernel
theorem d_Mod_readHouse_37 : decode b_Mod_readHouse 37 = .ok (.getfield 37, 3) := by decide +kernel
theorem d_Mod_readHouse_40 : decode b_Mod_readHouse 40 = .ok (.bipush 123, 2) := by decide +kernel
theorem d_Mod_readHouse_42 : decode b_Mod_readHouse 42 = .ok (.iload_n 1, 1) := by decide +kernel
theorem d_Mod_readHouse_43 : decode b_Mod_readHouse 43 = .ok (.iadd, 1) := by decide +kernel
theorem d_Mod_readHouse_44 : decode b_Mod_readHouse 44 = .ok (.iconst (-1), 1) := by decide +kernel
theorem d_Mod_readHouse_45 : decode b_Mod_readHouse 45 = .ok (.iastore, 1) := by decide +kernel
theorem d_Mod_readHouse_46 : decode b_Mod_readHouse 46 = .ok (.aload_n 0, 1) := by decide +kernel
theorem d_Mod_readHouse_47 : decode b_Mod_readHouse 47 = .ok (.ldc2_w 107, 3) := by decide +kernel
theorem d_Mod_readHouse_50 : decode b_Mod_readHouse 50 = .ok (.invokevirtual 190, 3) := by decide +kernel
theorem d_Mod_readHouse_53 : decode b_Mod_readHouse 53 = .ok (.ifCond .eq 89, 3) := by decide +kernel
theorem d_Mod_readHouse_56 : decode b_Mod_readHouse 56 = .ok (.aload_n 0, 1) := by decide +kernel
theorem d_Mod_readHouse_57 : decode b_Mod_readHouse 57 = .ok (.invokevirtual 172, 3) := by decide +kernel
theorem d_Mod_readHouse_60 : decode b_Mod_readHouse 60 = .ok (.aload_n 0, 1) := by decide +kernel
theorem d_Mod_readHouse_61 : decode b_Mod_readHouse 61 = .ok (.invokevirtual 182, 3) := by decide +kernel
theorem d_Mod_readHouse_64 : decode b_Mod_readHouse 64 = .ok (.ifCond .ne 9, 3) := by decide +kernel
theorem d_Mod_readHouse_67 : decode b_Mod_readHouse 67 = .ok (.aload_n 0, 1) := by decide +kernel
theorem d_Mod_readHouse_68 : decode b_Mod_readHouse 68 = .ok (.iconst 1, 1) := by decide +kernel
theorem d_Mod_readHouse_69 : decode b_Mod_readHouse 69 = .ok (.invokevirtual 169, 3) := by decide +kernel
theorem d_Mod_readHouse_72 : decode b_Mod_readHouse 72 = .ok (.ireturn, 1) := by decide +kernel
theorem d_Mod_readHouse_73 : decode b_Mod_readHouse 73 = .ok (.aload_n 0, 1) := by decide +kernel
theorem d_Mod_readHouse_74 : decode b_Mod_readHouse 74 = .ok (.bipush 18, 2) := by decide +kernel
theorem d_Mod_readHouse_76 : decode b_Mod_readHouse 76 = .ok (.aload_n 0, 1) := by decide +kernel
theorem d_Mod_readHouse_77 : decode b_Mod_readHouse 77 = .ok (.getfield 37, 3) := by decide +kernel
theorem d_Mod_readHouse_80 : decode b_Mod_readHouse 80 = .ok (.iconst 0, 1) := by decide +kernel
theorem d_Mod_readHouse_81 : decode b_Mod_readHouse 81 = .ok (.iaload, 1) := by decide +kernel
theorem d_Mod_readHouse_82 : decode b_Mod_readHouse 82 = .ok (.invokevirtual 186, 3) := by decide +kernel
theorem d_Mod_readHouse_85 : decode b_Mod_readHouse 85 = .ok (.istore_n 2, 1) := by decide +kernel
theorem d_Mod_readHouse_86 : decode b_Mod_readHouse 86 = .ok (.iload_n 2, 1) := by decide +kernel
theorem d_Mod_readHouse_87 : decode b_Mod_readHouse 87 = .ok (.ifCond .ge 9, 3) := by decide +kernel
theorem d_Mod_readHouse_90 : decode b_Mod_readHouse 90 = .ok (.aload_n 0, 1) := by decide +kernel
theorem d_Mod_readHouse_91 : decode b_Mod_readHouse 91 = .ok (.iconst 3, 1) := by decide +kernel
theorem d_Mod_readHouse_92 : decode b_Mod_readHouse 92 = .ok (.invokevirtual 169, 3) := by decide +kernel
theorem d_Mod_readHouse_95 : decode b_Mod_readHouse 95 = .ok (.ireturn, 1) := by decide +kernel
theorem d_Mod_readHouse_96 : decode b_Mod_readHouse 96 = .ok (.iconst 0, 1) := by decide +kernel
theorem d_Mod_readHouse_97 : decode b_Mod_readHouse 97 = .ok (.istore_n 3, 1) := by decide +kernel
theorem d_Mod_readHouse_98 : decode b_Mod_readHouse 98 = .ok (.iload_n 3, 1) := by decide +kernel
theorem d_Mod_readHouse_99 : decode b_Mod_readHouse 99 = .ok (.iload_n 1, 1) := by decide +kernel
theorem d_Mod_readHouse_100 : decode b_Mod_readHouse 100 = .ok (.if_icmp .ge 28, 3) := by decide +kernel
theorem d_Mod_readHouse_103 : decode b_Mod_readHouse 103 = .ok (.aload_n 0, 1) := by decide +kernel
theorem d_Mod_readHouse_104 : decode b_Mod_readHouse 104 = .ok (.getfield 37, 3) := by decide +kernel
theorem d_Mod_readHouse_107 : decode b_Mod_readHouse 107 = .ok (.bipush 123, 2) := by decide +kernel
theorem d_Mod_readHouse_109 : decode b_Mod_readHouse 109 = .ok (.iload_n 3, 1) := by decide +kernel
theorem d_Mod_readHouse_110 : decode b_Mod_readHouse 110 = .ok (.iadd, 1) := by decide +kernel
theorem d_Mod_readHouse_111 : decode b_Mod_readHouse 111 = .ok (.iaload, 1) := by decide +kernel
theorem d_Mod_readHouse_112 : decode b_Mod_readHouse 112 = .ok (.iload_n 2, 1) := by decide +kernel
theorem d_Mod_readHouse_113 : decode b_Mod_readHouse 113 = .ok (.if_icmp .ne 9, 3) := by decide +kernel
theorem d_Mod_readHouse_116 : decode b_Mod_readHouse 116 = .ok (.aload_n 0, 1) := by decide +kernel
theorem d_Mod_readHouse_117 : decode b_Mod_readHouse 117 = .ok (.iconst 3, 1) := by decide +kernel
theorem d_Mod_readHouse_118 : decode b_Mod_readHouse 118 = .ok (.invokevirtual 169, 3) := by decide +kernel
theorem d_Mod_readHouse_121 : decode b_Mod_readHouse 121 = .ok (.ireturn, 1) := by decide +kernel
theorem d_Mod_readHouse_122 : decode b_Mod_readHouse 122 = .ok (.iinc 3 1, 3) := by decide +kernel
theorem d_Mod_readHouse_125 : decode b_Mod_readHouse 125 = .ok (.goto (-27), 3) := by decide +kernel
theorem d_Mod_readHouse_128 : decode b_Mod_readHouse 128 = .ok (.aload_n 0, 1) := by decide +kernel
theorem d_Mod_readHouse_129 : decode b_Mod_readHouse 129 = .ok (.getfield 37, 3) := by decide +kernel
theorem d_Mod_readHouse_132 : decode b_Mod_readHouse 132 = .ok (.bipush 123, 2) := by decide +kernel
theorem d_Mod_readHouse_134 : decode b_Mod_readHouse 134 = .ok (.iload_n 1, 1) := by decide +kernel
theorem d_Mod_readHouse_135 : decode b_Mod_readHouse 135 = .ok (.iadd, 1) := by decide +kernel
theorem d_Mod_readHouse_136 : decode b_Mod_readHouse 136 = .ok (.iload_n 2, 1) := by decide +kernel
theorem d_Mod_readHouse_137 : decode b_Mod_readHouse 137 = .ok (.iastore, 1) := by decide +kernel
theorem d_Mod_readHouse_138 : decode b_Mod_readHouse 138 = .ok (.aload_n 0, 1) := by decide +kernel
theorem d_Mod_readHouse_139 : decode b_Mod_readHouse 139 = .ok (.invokevirtual 172, 3) := by decide +kernel
theorem d_Mod_readHouse_142 : decode b_Mod_readHouse 142 = .ok (.aload_n 0, 1) := by decide +kernel
theorem d_Mod_readHouse_143 : decode b_Mod_readHouse 143 = .ok (.getfield 37, 3) := by decide +kernel
theorem d_Mod_readHouse_146 : decode b_Mod_readHouse 146 = .ok (.iconst 1, 1) := by decide +kernel
theorem d_Mod_readHouse_147 : decode b_Mod_readHouse 147 = .ok (.dup2, 1) := by decide +kernel
theorem d_Mod_readHouse_148 : decode b_Mod_readHouse 148 = .ok (.iaload, 1) := by decide +kernel
theorem d_Mod_readHouse_149 : decode b_Mod_readHouse 149 = .ok (.iconst 1, 1) := by decide +kernel
theorem d_Mod_readHouse_150 : decode b_Mod_readHouse 150 = .ok (.iadd, 1) := by decide +kernel
theorem d_Mod_readHouse_151 : decode b_Mod_readHouse 151 = .ok (.iastore, 1) := by decide +kernel
theorem d_Mod_readHouse_152 : decode b_Mod_readHouse 152 = .ok (.iconst 1, 1) := by decide +kernel
theorem d_Mod_readHouse_153 : decode b_Mod_readHouse 153 = .ok (.ireturn, 1) := by decide +kernel
noncomputable def f_Mod_readHouse_J142 (z : Nat → Nat) (o : Nat) (m142 : Mm) : Option (Int32 × Mm) :=
  (mm_ldI (m142.1 (o + 3)) (z (o + 3)) (1 : Int32)).bind fun x148 =>
  (mm_stI m142 (o + 3) (z (o + 3)) (1 : Int32) (x148 + (1 : Int32))).bind fun m151 =>
  some ((1 : Int32), m151)
noncomputable def f_Mod_readHouse_L98 (z : Nat → Nat) (o : Nat) (v1 : Int32) (v2 : Int32) (s98 : Int32 × Mm) : Option ((Int32 × Mm) ⊕ ((Int32 × Mm) ⊕ (Mm))) :=
  if v1 ≤ s98.1 then (
    some (.inr (.inr s98.2))
  ) else (
    (mm_ldI (s98.2.1 (o + 3)) (z (o + 3)) ((123 : Int32) + s98.1)).bind fun x111 =>
    if x111 = v2 then (
      (f_Mod_bad z s98.2 o (3 : Int32)).bind fun q118 =>
      (mm_zb q118.1).bind fun y121 =>
      some (.inr (.inl (y121, q118.2)))
    ) else (
      mm_lt (s98.1 + (1 : Int32)) fun x122 =>
      some (.inl (x122, s98.2))
    )
  )
noncomputable def f_Mod_readHouse (z : Nat → Nat) (σ : Mm) (o : Nat) : Option (Int32 × Mm) :=
  (mm_ldI (σ.1 (o + 3)) (z (o + 3)) (1 : Int32)).bind fun x5 =>
  if x5 = (8 : Int32) then (
    (f_Mod_bad z σ o (4 : Int32)).bind fun q15 =>
    (mm_zb q15.1).bind fun y18 =>
    some (y18, q15.2)
  ) else (
    (f_Mod_next z σ o).bind fun q20 =>
    (f_Mod_fresh z q20 o ((28 : Int32) + x5)).bind fun q28 =>
    if q28.1 = 0 then (
      some ((0 : Int32), q28.2)
    ) else (
      (mm_stI q28.2 (o + 3) (z (o + 3)) ((123 : Int32) + x5) ((-1) : Int32)).bind fun m45 =>
      (f_Mod_isWord z m45 o (448545973363 : Int64)).bind fun q50 =>
      if q50 = 0 then (
        f_Mod_readHouse_J142 z o m45
      ) else (
        (f_Mod_next z m45 o).bind fun q57 =>
        (f_Mod_isName z q57 o).bind fun q61 =>
        if q61 = 0 then (
          (f_Mod_bad z q57 o (1 : Int32)).bind fun q69 =>
          (mm_zb q69.1).bind fun y72 =>
          some (y72, q69.2)
        ) else (
          (mm_ldI (q57.1 (o + 3)) (z (o + 3)) (0 : Int32)).bind fun x81 =>
          (f_Mod_find z q57 o (18 : Int32) x81).bind fun q82 =>
          if 0 ≤ q82 then (
            (mm_lp (f_Mod_readHouse_L98 z o x5 q82) ((0 : Int32), q57)).bind (Sum.elim (fun r9 => some r9) (fun x98_ =>
              (mm_stI x98_ (o + 3) (z (o + 3)) ((123 : Int32) + x5) q82).bind fun m137 =>
              (f_Mod_next z m137 o).bind fun q139 =>
              f_Mod_readHouse_J142 z o q139))
          ) else (
            (f_Mod_bad z q57 o (3 : Int32)).bind fun q92 =>
            (mm_zb q92.1).bind fun y95 =>
            some (y95, q92.2)
          )
        )
      )
    )
  )
set_option maxHeartbeats 4000000 in
set_option maxRecDepth 100000 in
theorem c_Mod_readHouse (l : Launch) {L : Ly} (hg : gd_ok L) {σ : Mm} {o : Nat} (k_o_0 : ly_k L o = 11) {res : Int32 × Mm} (hf0 : f_Mod_readHouse (ly_z L) σ o = some res) : CtI l y_Mod_readHouse b_Mod_readHouse 4 (some .boolean) rm_Mod_readHouse L [.ref (ly_a L o)] σ res.1 res.2 := by
  refine ct_z hg (by decide) (Nat.le_of_ble_eq_true rfl) ?_
  intro E A Q hE C hN
  subst hE
  have k_o_3 : ly_k L (o + 3) = 20 := gd_Mod_h hg k_o_0
  unfold f_Mod_readHouse at hf0
  show GW E L A 4 0 0 Q σ 0 [(0, .ref (ly_a L o))] []
  have hj142 : ∀ (m142 : Mm), f_Mod_readHouse_J142 (ly_z L) o m142 = some res → GW E L A 4 0 0 Q m142 142 [(0, .ref (ly_a L o))] [] := by
    intro m142 hf0
    unfold f_Mod_readHouse_J142 at hf0
    refine gw_aload_n C 0 d_Mod_readHouse_142 rfl rfl ?_
    refine gw_getA C 7 d_Mod_readHouse_143 k_o_0 (by decide) i_Mod rfl rfl (by decide) qw_1172 rfl rfl (o + 3) rfl ?_
    refine gw_iconst C (1 : Int32) d_Mod_readHouse_146 (by decide) ?_
    refine gw_dup2 C d_Mod_readHouse_147 rfl rfl ?_
    obtain ⟨x148, hx148, hf0⟩ := mx_bd hf0
    obtain ⟨gx148, ex148⟩ := mx_ldI hx148
    refine gw_iald C d_Mod_readHouse_148 k_o_3 gx148 ex148 ?_
    refine gw_iconst C (1 : Int32) d_Mod_readHouse_149 (by decide) ?_
    refine gw_iadd C d_Mod_readHouse_150 ?_
    obtain ⟨m151, hm151, hf0⟩ := mx_bd hf0
    obtain ⟨gm151, em151⟩ := mx_stI hm151
    refine gw_iast C d_Mod_readHouse_151 k_o_3 gm151 em151 ?_
    refine gw_iconst C (1 : Int32) d_Mod_readHouse_152 (by decide) ?_
    exact en_z hN (Or.inr rfl) hf0 d_Mod_readHouse_153
  refine gw_aload_n C 0 d_Mod_readHouse_0 rfl rfl ?_
  refine gw_getA C 7 d_Mod_readHouse_1 k_o_0 (by decide) i_Mod rfl rfl (by decide) qw_1172 rfl rfl (o + 3) rfl ?_
  refine gw_iconst C (1 : Int32) d_Mod_readHouse_4 (by decide) ?_
  obtain ⟨x5, hx5, hf0⟩ := mx_bd hf0
  obtain ⟨gx5, ex5⟩ := mx_ldI hx5
  refine gw_iald C d_Mod_readHouse_5 k_o_3 gx5 ex5 ?_
  refine gw_istore_n C [(1, .int x5), (0, .ref (ly_a L o))] d_Mod_readHouse_6 rfl (by decide) rfl ?_
  refine gw_iload_n C 0 d_Mod_readHouse_7 rfl rfl ?_
  refine gw_bipush C (8 : Int32) d_Mod_readHouse_8 (by decide) ?_
  refine gw_icmp_ne C 19 d_Mod_readHouse_10 (by decide) (fun hc => ?_) (fun hc => ?_)
  · replace hf0 := mx_f hc hf0
    refine gw_aload_n C 1 d_Mod_readHouse_19 rfl rfl ?_
    obtain ⟨q20, hq20, hf0⟩ := mx_bd hf0
    refine gw_callV C (c_Mod_next _ hg k_o_0 hq20) d_Mod_readHouse_20 0 qw_1310 qw_1312 qs_38 qw_12 qw_1313 k_o_0 (by decide) rfl hd_Mod_next rfl rfl (Nat.le_of_ble_eq_true rfl) ⟨rfl, rfl, Nat.le_of_ble_eq_true rfl, Nat.le_of_ble_eq_true rfl⟩ ⟨Nat.zero_le _, Nat.zero_le _⟩ ?_
    refine gw_aload_n C 1 d_Mod_readHouse_23 rfl rfl ?_
    refine gw_bipush C (28 : Int32) d_Mod_readHouse_24 (by decide) ?_
    refine gw_iload_n C 0 d_Mod_readHouse_26 rfl rfl ?_
    refine gw_iadd C d_Mod_readHouse_27 ?_
    obtain ⟨q28, hq28, hf0⟩ := mx_bd hf0
    refine gw_callI C (c_Mod_fresh _ hg k_o_0 hq28) d_Mod_readHouse_28 1 qw_1340 qw_1342 qs_44 qw_12 qw_1343 k_o_0 (by decide) rfl hd_Mod_fresh rfl rfl (Nat.le_of_ble_eq_true rfl) ⟨rfl, rfl, Nat.le_of_ble_eq_true rfl, Nat.le_of_ble_eq_true rfl⟩ ⟨Nat.zero_le _, Nat.zero_le _⟩ ?_
    refine gw_if_ne C 36 d_Mod_readHouse_31 (by decide) (fun hc => ?_) (fun hc => ?_)
    · replace hf0 := mx_f hc hf0
      refine gw_aload_n C 1 d_Mod_readHouse_36 rfl rfl ?_
      refine gw_getA C 7 d_Mod_readHouse_37 k_o_0 (by decide) i_Mod rfl rfl (by decide) qw_1172 rfl rfl (o + 3) rfl ?_
      refine gw_bipush C (123 : Int32) d_Mod_readHouse_40 (by decide) ?_
      refine gw_iload_n C 0 d_Mod_readHouse_42 rfl rfl ?_
      refine gw_iadd C d_Mod_readHouse_43 ?_
      refine gw_iconst C ((-1) : Int32) d_Mod_readHouse_44 (by decide) ?_
      obtain ⟨m45, hm45, hf0⟩ := mx_bd hf0
      obtain ⟨gm45, em45⟩ := mx_stI hm45
      refine gw_iast C d_Mod_readHouse_45 k_o_3 gm45 em45 ?_
      refine gw_aload_n C 1 d_Mod_readHouse_46 rfl rfl ?_
      refine gw_ldc2_w C d_Mod_readHouse_47 qw_1152 ?_
      obtain ⟨q50, hq50, hf0⟩ := mx_bd hf0
      refine gw_callI C (c_Mod_isWord _ hg k_o_0 hq50) d_Mod_readHouse_50 1 qw_1328 qw_1330 qs_41 qw_12 qw_1331 k_o_0 (by decide) rfl hd_Mod_isWord rfl rfl (Nat.le_of_ble_eq_true rfl) ⟨rfl, rfl, Nat.le_of_ble_eq_true rfl, Nat.le_of_ble_eq_true rfl⟩ ⟨Nat.zero_le _, Nat.zero_le _⟩ ?_
      refine gw_if_eq C 142 d_Mod_readHouse_53 (by decide) (fun hc => ?_) (fun hc => ?_)
      · replace hf0 := mx_t hc hf0
        exact gw_go [1] (hj142 _ hf0) rfl
      · replace hf0 := mx_f hc hf0
        refine gw_aload_n C 1 d_Mod_readHouse_56 rfl rfl ?_
        obtain ⟨q57, hq57, hf0⟩ := mx_bd hf0
        refine gw_callV C (c_Mod_next _ hg k_o_0 hq57) d_Mod_readHouse_57 0 qw_1310 qw_1312 qs_38 qw_12 qw_1313 k_o_0 (by decide) rfl hd_Mod_next rfl rfl (Nat.le_of_ble_eq_true rfl) ⟨rfl, rfl, Nat.le_of_ble_eq_true rfl, Nat.le_of_ble_eq_true rfl⟩ ⟨Nat.zero_le _, Nat.zero_le _⟩ ?_
        refine gw_aload_n C 1 d_Mod_readHouse_60 rfl rfl ?_
        obtain ⟨q61, hq61, hf0⟩ := mx_bd hf0
        refine gw_callI C (c_Mod_isName _ hg k_o_0 hq61) d_Mod_readHouse_61 0 qw_1344 qw_1346 qs_45 qw_12 qw_1347 k_o_0 (by decide) rfl hd_Mod_isName rfl rfl (Nat.le_of_ble_eq_true rfl) ⟨rfl, rfl, Nat.le_of_ble_eq_true rfl, Nat.le_of_ble_eq_true rfl⟩ ⟨Nat.zero_le _, Nat.zero_le _⟩ ?_
        refine gw_if_ne C 73 d_Mod_readHouse_64 (by decide) (fun hc => ?_) (fun hc => ?_)
        · replace hf0 := mx_f hc hf0
          refine gw_aload_n C 1 d_Mod_readHouse_73 rfl rfl ?_
          refine gw_bipush C (18 : Int32) d_Mod_readHouse_74 (by decide) ?_
          refine gw_aload_n C 1 d_Mod_readHouse_76 rfl rfl ?_
          refine gw_getA C 7 d_Mod_readHouse_77 k_o_0 (by decide) i_Mod rfl rfl (by decide) qw_1172 rfl rfl (o + 3) rfl ?_
          refine gw_iconst C (0 : Int32) d_Mod_readHouse_80 (by decide) ?_
          obtain ⟨x81, hx81, hf0⟩ := mx_bd hf0
          obtain ⟨gx81, ex81⟩ := mx_ldI hx81
          refine gw_iald C d_Mod_readHouse_81 k_o_3 gx81 ex81 ?_
          obtain ⟨q82, hq82, hf0⟩ := mx_bd hf0
          refine gw_callI C (c_Mod_find _ hg k_o_0 hq82) d_Mod_readHouse_82 2 qw_1348 qw_1350 qs_46 qw_12 qw_1351 k_o_0 (by decide) rfl hd_Mod_find rfl rfl (Nat.le_of_ble_eq_true rfl) ⟨rfl, rfl, Nat.le_of_ble_eq_true rfl, Nat.le_of_ble_eq_true rfl⟩ ⟨Nat.zero_le _, Nat.zero_le _⟩ ?_
          refine gw_istore_n C [(2, .int q82), (1, .int x5), (0, .ref (ly_a L o))] d_Mod_readHouse_85 rfl (by decide) rfl ?_
          refine gw_iload_n C 0 d_Mod_readHouse_86 rfl rfl ?_
          refine gw_if_ge C 96 d_Mod_readHouse_87 (by decide) (fun hc => ?_) (fun hc => ?_)
          · replace hf0 := mx_t hc hf0
            refine gw_iconst C (0 : Int32) d_Mod_readHouse_96 (by decide) ?_
            refine gw_istore_n C [(3, .int (0 : Int32)), (2, .int q82), (1, .int x5), (0, .ref (ly_a L o))] d_Mod_readHouse_97 rfl (by decide) rfl ?_
            obtain ⟨q98, hq98, hf0⟩ := mx_bd hf0
            have hk98 : ∀ x98_, q98 = .inr x98_ → GW E L A 4 0 0 Q x98_ 128 [(0, .ref (ly_a L o)), (1, .int x5), (2, .int q82)] [] := by
              intro x98_ hx9
              subst hx9
              replace hf0 := mx_sr hf0
              refine gw_aload_n C 0 d_Mod_readHouse_128 rfl rfl ?_
              refine gw_getA C 7 d_Mod_readHouse_129 k_o_0 (by decide) i_Mod rfl rfl (by decide) qw_1172 rfl rfl (o + 3) rfl ?_
              refine gw_bipush C (123 : Int32) d_Mod_readHouse_132 (by decide) ?_
              refine gw_iload_n C 1 d_Mod_readHouse_134 rfl rfl ?_
              refine gw_iadd C d_Mod_readHouse_135 ?_
              refine gw_iload_n C 2 d_Mod_readHouse_136 rfl rfl ?_
              obtain ⟨m137, hm137, hf0⟩ := mx_bd hf0
              obtain ⟨gm137, em137⟩ := mx_stI hm137
              refine gw_iast C d_Mod_readHouse_137 k_o_3 gm137 em137 ?_
              refine gw_aload_n C 0 d_Mod_readHouse_138 rfl rfl ?_
              obtain ⟨q139, hq139, hf0⟩ := mx_bd hf0
              refine gw_callV C (c_Mod_next _ hg k_o_0 hq139) d_Mod_readHouse_139 0 qw_1310 qw_1312 qs_38 qw_12 qw_1313 k_o_0 (by decide) rfl hd_Mod_next rfl rfl (Nat.le_of_ble_eq_true rfl) ⟨rfl, rfl, Nat.le_of_ble_eq_true rfl, Nat.le_of_ble_eq_true rfl⟩ ⟨Nat.zero_le _, Nat.zero_le _⟩ ?_
              exact gw_go [0] (hj142 _ hf0) rfl
            refine gw_sub [3, 2, 1, 0] (lv' := [(0, .ref (ly_a L o)), (1, .int x5), (2, .int q82), (3, .int (0 : Int32))]) rfl ?_
            refine mm_rule hq98 (P := fun (s98 : Int32 × Mm) => GW E L A 4 0 0 Q s98.2 98 [(0, .ref (ly_a L o)), (1, .int x5), (2, .int q82), (3, .int s98.1)] []) ?_
            intro s98 ih98 hx98 ⟨w98, hb98⟩
            have hf1 := hb98
            unfold f_Mod_readHouse_L98 at hf1
            refine gw_iload_n C 3 d_Mod_readHouse_98 rfl rfl ?_
            refine gw_iload_n C 1 d_Mod_readHouse_99 rfl rfl ?_
            refine gw_icmp_ge C 128 d_Mod_readHouse_100 (by decide) (fun hc => ?_) (fun hc => ?_)
            · replace hf1 := mx_t hc hf1
              exact gw_go [0, 1, 2] (hk98 s98.2 (hx98 _ (hb98.trans hf1.symm)).symm) rfl
            · replace hf1 := mx_f hc hf1
              refine gw_aload_n C 0 d_Mod_readHouse_103 rfl rfl ?_
              refine gw_getA C 7 d_Mod_readHouse_104 k_o_0 (by decide) i_Mod rfl rfl (by decide) qw_1172 rfl rfl (o + 3) rfl ?_
              refine gw_bipush C (123 : Int32) d_Mod_readHouse_107 (by decide) ?_
              refine gw_iload_n C 3 d_Mod_readHouse_109 rfl rfl ?_
              refine gw_iadd C d_Mod_readHouse_110 ?_
              obtain ⟨x111, hx111, hf1⟩ := mx_bd hf1
              obtain ⟨gx111, ex111⟩ := mx_ldI hx111
              refine gw_iald C d_Mod_readHouse_111 k_o_3 gx111 ex111 ?_
              refine gw_iload_n C 2 d_Mod_readHouse_112 rfl rfl ?_
              refine gw_icmp_ne C 122 d_Mod_readHouse_113 (by decide) (fun hc => ?_) (fun hc => ?_)
              · replace hf1 := mx_f hc hf1
                obtain ⟨x122, ex122, hf1⟩ := mx_lt hf1
                refine gw_iinc C 3 [(3, .int x122), (0, .ref (ly_a L o)), (1, .int x5), (2, .int q82)] d_Mod_readHouse_122 rfl (by rw [ex122]; rfl) (by decide) rfl ?_
                refine gw_goto C 98 d_Mod_readHouse_125 (by decide) ?_
                exact gw_go [1, 2, 3, 0] (ih98 (x122, s98.2) (hb98.trans hf1.symm)) rfl
              · replace hf1 := mx_t hc hf1
                refine gw_aload_n C 0 d_Mod_readHouse_116 rfl rfl ?_
                refine gw_iconst C (3 : Int32) d_Mod_readHouse_117 (by decide) ?_
                obtain ⟨q118, hq118, hf1⟩ := mx_bd hf1
                refine gw_callI C (c_Mod_bad _ hg k_o_0 hq118) d_Mod_readHouse_118 1 qw_1336 qw_1338 qs_43 qw_12 qw_1339 k_o_0 (by decide) rfl hd_Mod_bad rfl rfl (Nat.le_of_ble_eq_true rfl) ⟨rfl, rfl, Nat.le_of_ble_eq_true rfl, Nat.le_of_ble_eq_true rfl⟩ ⟨Nat.zero_le _, Nat.zero_le _⟩ ?_
                obtain ⟨y121, hy121, hf1⟩ := mx_bd hf1
                obtain ⟨zy121, ey121⟩ := mx_zb hy121
                refine gw_topi ey121 ?_
                have hr98 := hx98 _ (hb98.trans hf1.symm)
                subst hr98
                replace hf0 := mx_sl hf0
                exact en_z hN zy121 hf0 d_Mod_readHouse_121
          · replace hf0 := mx_f hc hf0
            refine gw_aload_n C 2 d_Mod_readHouse_90 rfl rfl ?_
            refine gw_iconst C (3 : Int32) d_Mod_readHouse_91 (by decide) ?_
            obtain ⟨q92, hq92, hf0⟩ := mx_bd hf0
            refine gw_callI C (c_Mod_bad _ hg k_o_0 hq92) d_Mod_readHouse_92 1 qw_1336 qw_1338 qs_43 qw_12 qw_1339 k_o_0 (by decide) rfl hd_Mod_bad rfl rfl (Nat.le_of_ble_eq_true rfl) ⟨rfl, rfl, Nat.le_of_ble_eq_true rfl, Nat.le_of_ble_eq_true rfl⟩ ⟨Nat.zero_le _, Nat.zero_le _⟩ ?_
            obtain ⟨y95, hy95, hf0⟩ := mx_bd hf0
            obtain ⟨zy95, ey95⟩ := mx_zb hy95
            refine gw_topi ey95 ?_
            exact en_z hN zy95 hf0 d_Mod_readHouse_95
        · replace hf0 := mx_t hc hf0
          refine gw_aload_n C 1 d_Mod_readHouse_67 rfl rfl ?_
          refine gw_iconst C (1 : Int32) d_Mod_readHouse_68 (by decide) ?_
          obtain ⟨q69, hq69, hf0⟩ := mx_bd hf0
          refine gw_callI C (c_Mod_bad _ hg k_o_0 hq69) d_Mod_readHouse_69 1 qw_1336 qw_1338 qs_43 qw_12 qw_1339 k_o_0 (by decide) rfl hd_Mod_bad rfl rfl (Nat.le_of_ble_eq_true rfl) ⟨rfl, rfl, Nat.le_of_ble_eq_true rfl, Nat.le_of_ble_eq_true rfl⟩ ⟨Nat.zero_le _, Nat.zero_le _⟩ ?_
          obtain ⟨y72, hy72, hf0⟩ := mx_bd hf0
          obtain ⟨zy72, ey72⟩ := mx_zb hy72
          refine gw_topi ey72 ?_
          exact en_z hN zy72 hf0 d_Mod_readHouse_72
    · replace hf0 := mx_t hc hf0
      refine gw_iconst C (0 : Int32) d_Mod_readHouse_34 (by decide) ?_
      exact en_z hN (Or.inl rfl) hf0 d_Mod_readHouse_35
  · replace hf0 := mx_t hc hf0
    refine gw_aload_n C 1 d_Mod_readHouse_13 rfl rfl ?_
    refine gw_iconst C (4 : Int32) d_Mod_readHouse_14 (by decide) ?_
    obtain ⟨q15, hq15, hf0⟩ := mx_bd hf0
    refine gw_callI C (c_Mod_bad _ hg k_o_0 hq15) d_Mod_readHouse_15 1 qw_1336 qw_1338 qs_43 qw_12 qw_1339 k_o_0 (by decide) rfl hd_Mod_bad rfl rfl (Nat.le_of_ble_eq_true rfl) ⟨rfl, rfl, Nat.le_of_ble_eq_true rfl, Nat.le_of_ble_eq_true rfl⟩ ⟨Nat.zero_le _, Nat.zero_le _⟩ ?_
    obtain ⟨y18, hy18, hf0⟩ := mx_bd hf0
    obtain ⟨zy18, ey18⟩ := mx_zb hy18
    refine gw_topi ey18 ?_
    exact en_z hN zy18 hf0 d_Mod_readHouse_18

/-! NameHatModel.readWants()Z -/
abbrev b_Mod_readWants : ByteArray := prog_14_method_28_code
def y_Mod_readWants : MethodName := ⟨"NameHatModel", "readWants", "()Z"⟩
abbrev rm_Mod_readWants : Room := { frames := 3, cells := 0, slots := 0, locals := 65 }
theorem hd_Mod_readWants : y_Mod_readWants.cls ≠ "java/lang/invoke/MethodHandle" ∧ y_Mod_readWants.cls ≠ "java/lang/invoke/VarHandle" ∧ (parseMethodDescriptor y_Mod_readWants.desc).map (fun d => d.parameters.length) = some 0 := by decide +kernel
theorem d_Mod_readWants_0 : decode b_Mod_readWants 0 = .ok (.aload_n 0, 1) := by decide +kernel
theorem d_Mod_readWants_1 : decode b_Mod_readWants 1 = .ok (.invokevirtual 172, 3) := by decide +kernel
theorem d_Mod_readWants_4 : decode b_Mod_readWants 4 = .ok (.aload_n 0, 1) := by decide +kernel
theorem d_Mod_readWants_5 : decode b_Mod_readWants 5 = .ok (.bipush 28, 2) := by decide +kernel
theorem d_Mod_readWants_7 : decode b_Mod_readWants 7 = .ok (.aload_n 0, 1) := by decide +kernel
theorem d_Mod_readWants_8 : decode b_Mod_readWants 8 = .ok (.getfield 37, 3) := by decide +kernel
theorem d_Mod_readWants_11 : decode b_Mod_readWants 11 = .ok (.iconst 1, 1) := by decide +kernel
theorem d_Mod_readWants_12 : decode b_Mod_readWants 12 = .ok (.iaload, 1) := by decide +kernel
theorem d_Mod_readWants_13 : decode b_Mod_readWants 13 = .ok (.invokevirtual 226, 3) := by decide +kernel
theorem d_Mod_readWants_16 : decode b_Mod_readWants 16 = .ok (.ifCond .ne 5, 3) := by decide +kernel
theorem d_Mod_readWants_19 : decode b_Mod_readWants 19 = .ok (.iconst 0, 1) := by decide +kernel
theorem d_Mod_readWants_20 : decode b_Mod_readWants 20 = .ok (.ireturn, 1) := by decide +kernel
theorem d_Mod_readWants_21 : decode b_Mod_readWants 21 = .ok (.aload_n 0, 1) := by decide +kernel
theorem d_Mod_readWants_22 : decode b_Mod_readWants 22 = .ok (.getfield 179, 3) := by decide +kernel
theorem d_Mod_readWants_25 : decode b_Mod_readWants 25 = .ok (.istore_n 1, 1) := by decide +kernel
theorem d_Mod_readWants_26 : decode b_Mod_readWants 26 = .ok (.aload_n 0, 1) := by decide +kernel
theorem d_Mod_readWants_27 : decode b_Mod_readWants 27 = .ok (.invokevirtual 182, 3) := by decide +kernel
theorem d_Mod_readWants_30 : decode b_Mod_readWants 30 = .ok (.ifCond .ne 9, 3) := by decide +kernel
theorem d_Mod_readWants_33 : decode b_Mod_readWants 33 = .ok (.aload_n 0, 1) := by decide +kernel
theorem d_Mod_readWants_34 : decode b_Mod_readWants 34 = .ok (.iconst 1, 1) := by decide +kernel
theorem d_Mod_readWants_35 : decode b_Mod_readWants 35 = .ok (.invokevirtual 169, 3) := by decide +kernel
theorem d_Mod_readWants_38 : decode b_Mod_readWants 38 = .ok (.ireturn, 1) := by decide +kernel
theorem d_Mod_readWants_39 : decode b_Mod_readWants 39 = .ok (.aload_n 0, 1) := by decide +kernel
theorem d_Mod_readWants_40 : decode b_Mod_readWants 40 = .ok (.bipush 18, 2) := by decide +kernel
theorem d_Mod_readWants_42 : decode b_Mod_readWants 42 = .ok (.aload_n 0, 1) := by decide +kernel
theorem d_Mod_readWants_43 : decode b_Mod_readWants 43 = .ok (.getfield 37, 3) := by decide +kernel
theorem d_Mod_readWants_46 : decode b_Mod_readWants 46 = .ok (.iconst 0, 1) := by decide +kernel
theorem d_Mod_readWants_47 : decode b_Mod_readWants 47 = .ok (.iaload, 1) := by decide +kernel
theorem d_Mod_readWants_48 : decode b_Mod_readWants 48 = .ok (.invokevirtual 186, 3) := by decide +kernel
theorem d_Mod_readWants_51 : decode b_Mod_readWants 51 = .ok (.istore_n 2, 1) := by decide +kernel
theorem d_Mod_readWants_52 : decode b_Mod_readWants 52 = .ok (.iload_n 2, 1) := by decide +kernel
theorem d_Mod_readWants_53 : decode b_Mod_readWants 53 = .ok (.ifCond .lt 20, 3) := by decide +kernel
theorem d_Mod_readWants_56 : decode b_Mod_readWants 56 = .ok (.aload_n 0, 1) := by decide +kernel
theorem d_Mod_readWants_57 : decode b_Mod_readWants 57 = .ok (.getfield 37, 3) := by decide +kernel
theorem d_Mod_readWants_60 : decode b_Mod_readWants 60 = .ok (.bipush 35, 2) := by decide +kernel
theorem d_Mod_readWants_62 : decode b_Mod_readWants 62 = .ok (.bipush 10, 2) := by decide +kernel
theorem d_Mod_readWants_64 : decode b_Mod_readWants 64 = .ok (.iload_n 1, 1) := by decide +kernel
theorem d_Mod_readWants_65 : decode b_Mod_readWants 65 = .ok (.imul, 1) := by decide +kernel
theorem d_Mod_readWants_66 : decode b_Mod_readWants 66 = .ok (.iadd, 1) := by decide +kernel
theorem d_Mod_readWants_67 : decode b_Mod_readWants 67 = .ok (.iload_n 2, 1) := by decide +kernel
theorem d_Mod_readWants_68 : decode b_Mod_readWants 68 = .ok (.iadd, 1) := by decide +kernel
theorem d_Mod_readWants_69 : decode b_Mod_readWants 69 = .ok (.iaload, 1) := by decide +kernel
theorem d_Mod_readWants_70 : decode b_Mod_readWants 70 = .ok (.ifCond .le 9, 3) := by decide +kernel
theorem d_Mod_readWants_73 : decode b_Mod_readWants 73 = .ok (.aload_n 0, 1) := by decide +kernel
theorem d_Mod_readWants_74 : decode b_Mod_readWants 74 = .ok (.iconst 3, 1) := by decide +kernel
theorem d_Mod_readWants_75 : decode b_Mod_readWants 75 = .ok (.invokevirtual 169, 3) := by decide +kernel
theorem d_Mod_readWants_78 : decode b_Mod_readWants 78 = .ok (.ireturn, 1) := by decide +kernel
theorem d_Mod_readWants_79 : decode b_Mod_readWants 79 = .ok (.aload_n 0, 1) := by decide +kernel
theorem d_Mod_readWants_80 : decode b_Mod_readWants 80 = .ok (.invokevirtual 172, 3) := by decide +kernel
theorem d_Mod_readWants_83 : decode b_Mod_readWants 83 = .ok (.aload_n 0, 1) := by decide +kernel
theorem d_Mod_readWants_84 : decode b_Mod_readWants 84 = .ok (.iconst 0, 1) := by decide +kernel
theorem d_Mod_readWants_85 : decode b_Mod_readWants 85 = .ok (.bipush 99, 2) := by decide +kernel
theorem d_Mod_readWants_87 : decode b_Mod_readWants 87 = .ok (.invokevirtual 213, 3) := by decide +kernel
theorem d_Mod_readWants_90 : decode b_Mod_readWants 90 = .ok (.ifCond .ne 5, 3) := by decide +kernel
theorem d_Mod_readWants_93 : decode b_Mod_readWants 93 = .ok (.iconst 0, 1) := by decide +kernel
theorem d_Mod_readWants_94 : decode b_Mod_readWants 94 = .ok (.ireturn, 1) := by decide +kernel
theorem d_Mod_readWants_95 : decode b_Mod_readWants 95 = .ok (.aload_n 0, 1) := by decide +kernel
theorem d_Mod_readWants_96 : decode b_Mod_readWants 96 = .ok (.getfield 37, 3) := by decide +kernel
theorem d_Mod_readWants_99 : decode b_Mod_readWants 99 = .ok (.bipush 35, 2) := by decide +kernel
theorem d_Mod_readWants_101 : decode b_Mod_readWants 101 = .ok (.bipush 10, 2) := by decide +kernel
theorem d_Mod_readWants_103 : decode b_Mod_readWants 103 = .ok (.iload_n 1, 1) := by decide +kernel
theorem d_Mod_readWants_104 : decode b_Mod_readWants 104 = .ok (.imul, 1) := by decide +kernel
theorem d_Mod_readWants_105 : decode b_Mod_readWants 105 = .ok (.iadd, 1) := by decide +kernel
theorem d_Mod_readWants_106 : decode b_Mod_readWants 106 = .ok (.iload_n 2, 1) := by decide +kernel
theorem d_Mod_readWants_107 : decode b_Mod_readWants 107 = .ok (.iadd, 1) := by decide +kernel
theorem d_Mod_readWants_108 : decode b_Mod_readWants 108 = .ok (.aload_n 0, 1) := by decide +kernel
theorem d_Mod_readWants_109 : decode b_Mod_readWants 109 = .ok (.getfield 179, 3) := by decide +kernel
theorem d_Mod_readWants_112 : decode b_Mod_readWants 112 = .ok (.iconst 1, 1) := by decide +kernel
theorem d_Mod_readWants_113 : decode b_Mod_readWants 113 = .ok (.iadd, 1) := by decide +kernel
theorem d_Mod_readWants_114 : decode b_Mod_readWants 114 = .ok (.iastore, 1) := by decide +kernel
theorem d_Mod_readWants_115 : decode b_Mod_readWants 115 = .ok (.iconst 1, 1) := by decide +kernel
theorem d_Mod_readWants_116 : decode b_Mod_readWants 116 = .ok (.ireturn, 1) := by decide +kernel
noncomputable def f_Mod_readWants_J73 (z : Nat → Nat) (o : Nat) (m73 : Mm) : Option (Int32 × Mm) :=
  (f_Mod_bad z m73 o (3 : Int32)).bind fun q75 =>
  (mm_zb q75.1).bind fun y78 =>
  some (y78, q75.2)
noncomputable def f_Mod_readWants (z : Nat → Nat) (σ : Mm) (o : Nat) : Option (Int32 × Mm) :=
  (f_Mod_next z σ o).bind fun q1 =>
  (mm_ldI (q1.1 (o + 3)) (z (o + 3)) (1 : Int32)).bind fun x12 =>
  (f_Mod_takesName z q1 o (28 : Int32) x12).bind fun q13 =>
  if q13.1 = 0 then (
    some ((0 : Int32), q13.2)
  ) else (
    mm_lt ((q13.2.1 o 18)) fun x25 =>
    (f_Mod_isName z q13.2 o).bind fun q27 =>
    if q27 = 0 then (
      (f_Mod_bad z q13.2 o (1 : Int32)).bind fun q35 =>
      (mm_zb q35.1).bind fun y38 =>
      some (y38, q35.2)
    ) else (
      (mm_ldI (q13.2.1 (o + 3)) (z (o + 3)) (0 : Int32)).bind fun x47 =>
      (f_Mod_find z q13.2 o (18 : Int32) x47).bind fun q48 =>
      if q48 < 0 then (
        f_Mod_readWants_J73 z o q13.2
      ) else (
        (mm_ldI (q13.2.1 (o + 3)) (z (o + 3)) (((35 : Int32) + ((10 : Int32) * x25)) + q48)).bind fun x69 =>
        if x69 ≤ 0 then (
          (f_Mod_next z q13.2 o).bind fun q80 =>
          (f_Mod_takes z q80 o (0 : Int32) (99 : Int32)).bind fun q87 =>
          if q87.1 = 0 then (
            some ((0 : Int32), q87.2)
          ) else (
            (mm_stI q87.2 (o + 3) (z (o + 3)) (((35 : Int32) + ((10 : Int32) * x25)) + q48) ((q87.2.1 o 18) + (1 : Int32))).bind fun m114 =>
            some ((1 : Int32), m114)
          )
        ) else (
          f_Mod_readWants_J73 z o q13.2
        )
      )
    )
  )
set_option maxHeartbeats 4000000 in
set_option maxRecDepth 100000 in
theorem c_Mod_readWants (l : Launch) {L : Ly} (hg : gd_ok L) {σ : Mm} {o : Nat} (k_o_0 : ly_k L o = 11) {res : Int32 × Mm} (hf0 : f_Mod_readWants (ly_z L) σ o = some res) : CtI l y_Mod_readWants b_Mod_readWants 3 (some .boolean) rm_Mod_readWants L [.ref (ly_a L o)] σ res.1 res.2 := by
  refine ct_z hg (by decide) (Nat.le_of_ble_eq_true rfl) ?_
  intro E A Q hE C hN
  subst hE
  have k_o_3 : ly_k L (o + 3) = 20 := gd_Mod_h hg k_o_0
  unfold f_Mod_readWants at hf0
  show GW E L A 3 0 0 Q σ 0 [(0, .ref (ly_a L o))] []
  have hj73 : ∀ (m73 : Mm), f_Mod_readWants_J73 (ly_z L) o m73 = some res → GW E L A 3 0 0 Q m73 73 [(0, .ref (ly_a L o))] [] := by
    intro m73 hf0
    unfold f_Mod_readWants_J73 at hf0
    refine gw_aload_n C 0 d_Mod_readWants_73 rfl rfl ?_
    refine gw_iconst C (3 : Int32) d_Mod_readWants_74 (by decide) ?_
    obtain ⟨q75, hq75, hf0⟩ := mx_bd hf0
    refine gw_callI C (c_Mod_bad _ hg k_o_0 hq75) d_Mod_readWants_75 1 qw_1336 qw_1338 qs_43 qw_12 qw_1339 k_o_0 (by decide) rfl hd_Mod_bad rfl rfl (Nat.le_of_ble_eq_true rfl) ⟨rfl, rfl, Nat.le_of_ble_eq_true rfl, Nat.le_of_ble_eq_true rfl⟩ ⟨Nat.zero_le _, Nat.zero_le _⟩ ?_
    obtain ⟨y78, hy78, hf0⟩ := mx_bd hf0
    obtain ⟨zy78, ey78⟩ := mx_zb hy78
    refine gw_topi ey78 ?_
    exact en_z hN zy78 hf0 d_Mod_readWants_78
  refine gw_aload_n C 0 d_Mod_readWants_0 rfl rfl ?_
  obtain ⟨q1, hq1, hf0⟩ := mx_bd hf0
  refine gw_callV C (c_Mod_next _ hg k_o_0 hq1) d_Mod_readWants_1 0 qw_1310 qw_1312 qs_38 qw_12 qw_1313 k_o_0 (by decide) rfl hd_Mod_next rfl rfl (Nat.le_of_ble_eq_true rfl) ⟨rfl, rfl, Nat.le_of_ble_eq_true rfl, Nat.le_of_ble_eq_true rfl⟩ ⟨Nat.zero_le _, Nat.zero_le _⟩ ?_
  refine gw_aload_n C 0 d_Mod_readWants_4 rfl rfl ?_
  refine gw_bipush C (28 : Int32) d_Mod_readWants_5 (by decide) ?_
  refine gw_aload_n C 0 d_Mod_readWants_7 rfl rfl ?_
  refine gw_getA C 7 d_Mod_readWants_8 k_o_0 (by decide) i_Mod rfl rfl (by decide) qw_1172 rfl rfl (o + 3) rfl ?_
  refine gw_iconst C (1 : Int32) d_Mod_readWants_11 (by decide) ?_
  obtain ⟨x12, hx12, hf0⟩ := mx_bd hf0
  obtain ⟨gx12, ex12⟩ := mx_ldI hx12
  refine gw_iald C d_Mod_readWants_12 k_o_3 gx12 ex12 ?_
  obtain ⟨q13, hq13, hf0⟩ := mx_bd hf0
  refine gw_callI C (c_Mod_takesName _ hg k_o_0 hq13) d_Mod_readWants_13 2 qw_1367 qw_1369 qs_50 qw_12 qw_1370 k_o_0 (by decide) rfl hd_Mod_takesName rfl rfl (Nat.le_of_ble_eq_true rfl) ⟨rfl, rfl, Nat.le_of_ble_eq_true rfl, Nat.le_of_ble_eq_true rfl⟩ ⟨Nat.zero_le _, Nat.zero_le _⟩ ?_
  refine gw_if_ne C 21 d_Mod_readWants_16 (by decide) (fun hc => ?_) (fun hc => ?_)
  · replace hf0 := mx_f hc hf0
    refine gw_aload_n C 0 d_Mod_readWants_21 rfl rfl ?_
    refine gw_getI C 18 d_Mod_readWants_22 k_o_0 (by decide) i_Mod rfl rfl (by decide) qw_1183 rfl rfl ?_
    obtain ⟨x25, ex25, hf0⟩ := mx_lt hf0
    refine gw_topi ex25 ?_
    refine gw_istore_n C [(1, .int x25), (0, .ref (ly_a L o))] d_Mod_readWants_25 rfl (by decide) rfl ?_
    refine gw_aload_n C 1 d_Mod_readWants_26 rfl rfl ?_
    obtain ⟨q27, hq27, hf0⟩ := mx_bd hf0
    refine gw_callI C (c_Mod_isName _ hg k_o_0 hq27) d_Mod_readWants_27 0 qw_1344 qw_1346 qs_45 qw_12 qw_1347 k_o_0 (by decide) rfl hd_Mod_isName rfl rfl (Nat.le_of_ble_eq_true rfl) ⟨rfl, rfl, Nat.le_of_ble_eq_true rfl, Nat.le_of_ble_eq_true rfl⟩ ⟨Nat.zero_le _, Nat.zero_le _⟩ ?_
    refine gw_if_ne C 39 d_Mod_readWants_30 (by decide) (fun hc => ?_) (fun hc => ?_)
    · replace hf0 := mx_f hc hf0
      refine gw_aload_n C 1 d_Mod_readWants_39 rfl rfl ?_
      refine gw_bipush C (18 : Int32) d_Mod_readWants_40 (by decide) ?_
      refine gw_aload_n C 1 d_Mod_readWants_42 rfl rfl ?_
      refine gw_getA C 7 d_Mod_readWants_43 k_o_0 (by decide) i_Mod rfl rfl (by decide) qw_1172 rfl rfl (o + 3) rfl ?_
      refine gw_iconst C (0 : Int32) d_Mod_readWants_46 (by decide) ?_
      obtain ⟨x47, hx47, hf0⟩ := mx_bd hf0
      obtain ⟨gx47, ex47⟩ := mx_ldI hx47
      refine gw_iald C d_Mod_readWants_47 k_o_3 gx47 ex47 ?_
      obtain ⟨q48, hq48, hf0⟩ := mx_bd hf0
      refine gw_callI C (c_Mod_find _ hg k_o_0 hq48) d_Mod_readWants_48 2 qw_1348 qw_1350 qs_46 qw_12 qw_1351 k_o_0 (by decide) rfl hd_Mod_find rfl rfl (Nat.le_of_ble_eq_true rfl) ⟨rfl, rfl, Nat.le_of_ble_eq_true rfl, Nat.le_of_ble_eq_true rfl⟩ ⟨Nat.zero_le _, Nat.zero_le _⟩ ?_
      refine gw_istore_n C [(2, .int q48), (1, .int x25), (0, .ref (ly_a L o))] d_Mod_readWants_51 rfl (by decide) rfl ?_
      refine gw_iload_n C 0 d_Mod_readWants_52 rfl rfl ?_
      refine gw_if_lt C 73 d_Mod_readWants_53 (by decide) (fun hc => ?_) (fun hc => ?_)
      · replace hf0 := mx_t hc hf0
        exact gw_go [2] (hj73 _ hf0) rfl
      · replace hf0 := mx_f hc hf0
        refine gw_aload_n C 2 d_Mod_readWants_56 rfl rfl ?_
        refine gw_getA C 7 d_Mod_readWants_57 k_o_0 (by decide) i_Mod rfl rfl (by decide) qw_1172 rfl rfl (o + 3) rfl ?_
        refine gw_bipush C (35 : Int32) d_Mod_readWants_60 (by decide) ?_
        refine gw_bipush C (10 : Int32) d_Mod_readWants_62 (by decide) ?_
        refine gw_iload_n C 1 d_Mod_readWants_64 rfl rfl ?_
        refine gw_imul C d_Mod_readWants_65 ?_
        refine gw_iadd C d_Mod_readWants_66 ?_
        refine gw_iload_n C 0 d_Mod_readWants_67 rfl rfl ?_
        refine gw_iadd C d_Mod_readWants_68 ?_
        obtain ⟨x69, hx69, hf0⟩ := mx_bd hf0
        obtain ⟨gx69, ex69⟩ := mx_ldI hx69
        refine gw_iald C d_Mod_readWants_69 k_o_3 gx69 ex69 ?_
        refine gw_if_le C 79 d_Mod_readWants_70 (by decide) (fun hc => ?_) (fun hc => ?_)
        · replace hf0 := mx_t hc hf0
          refine gw_aload_n C 2 d_Mod_readWants_79 rfl rfl ?_
          obtain ⟨q80, hq80, hf0⟩ := mx_bd hf0
          refine gw_callV C (c_Mod_next _ hg k_o_0 hq80) d_Mod_readWants_80 0 qw_1310 qw_1312 qs_38 qw_12 qw_1313 k_o_0 (by decide) rfl hd_Mod_next rfl rfl (Nat.le_of_ble_eq_true rfl) ⟨rfl, rfl, Nat.le_of_ble_eq_true rfl, Nat.le_of_ble_eq_true rfl⟩ ⟨Nat.zero_le _, Nat.zero_le _⟩ ?_
          refine gw_aload_n C 2 d_Mod_readWants_83 rfl rfl ?_
          refine gw_iconst C (0 : Int32) d_Mod_readWants_84 (by decide) ?_
          refine gw_bipush C (99 : Int32) d_Mod_readWants_85 (by decide) ?_
          obtain ⟨q87, hq87, hf0⟩ := mx_bd hf0
          refine gw_callI C (c_Mod_takes _ hg k_o_0 hq87) d_Mod_readWants_87 2 qw_1352 qw_1354 qs_47 qw_12 qw_1355 k_o_0 (by decide) rfl hd_Mod_takes rfl rfl (Nat.le_of_ble_eq_true rfl) ⟨rfl, rfl, Nat.le_of_ble_eq_true rfl, Nat.le_of_ble_eq_true rfl⟩ ⟨Nat.zero_le _, Nat.zero_le _⟩ ?_
          refine gw_if_ne C 95 d_Mod_readWants_90 (by decide) (fun hc => ?_) (fun hc => ?_)
          · replace hf0 := mx_f hc hf0
            refine gw_aload_n C 2 d_Mod_readWants_95 rfl rfl ?_
            refine gw_getA C 7 d_Mod_readWants_96 k_o_0 (by decide) i_Mod rfl rfl (by decide) qw_1172 rfl rfl (o + 3) rfl ?_
            refine gw_bipush C (35 : Int32) d_Mod_readWants_99 (by decide) ?_
            refine gw_bipush C (10 : Int32) d_Mod_readWants_101 (by decide) ?_
            refine gw_iload_n C 1 d_Mod_readWants_103 rfl rfl ?_
            refine gw_imul C d_Mod_readWants_104 ?_
            refine gw_iadd C d_Mod_readWants_105 ?_
            refine gw_iload_n C 0 d_Mod_readWants_106 rfl rfl ?_
            refine gw_iadd C d_Mod_readWants_107 ?_
            refine gw_aload_n C 2 d_Mod_readWants_108 rfl rfl ?_
            refine gw_getI C 18 d_Mod_readWants_109 k_o_0 (by decide) i_Mod rfl rfl (by decide) qw_1183 rfl rfl ?_
            refine gw_iconst C (1 : Int32) d_Mod_readWants_112 (by decide) ?_
            refine gw_iadd C d_Mod_readWants_113 ?_
            obtain ⟨m114, hm114, hf0⟩ := mx_bd hf0
            obtain ⟨gm114, em114⟩ := mx_stI hm114
            refine gw_iast C d_Mod_readWants_114 k_o_3 gm114 em114 ?_
            refine gw_iconst C (1 : Int32) d_Mod_readWants_115 (by decide) ?_
            exact en_z hN (Or.inr rfl) hf0 d_Mod_readWants_116
          · replace hf0 := mx_t hc hf0
            refine gw_iconst C (0 : Int32) d_Mod_readWants_93 (by decide) ?_
            exact en_z hN (Or.inl rfl) hf0 d_Mod_readWants_94
        · replace hf0 := mx_f hc hf0
          exact gw_go [2] (hj73 _ hf0) rfl
    · replace hf0 := mx_t hc hf0
      refine gw_aload_n C 1 d_Mod_readWants_33 rfl rfl ?_
      refine gw_iconst C (1 : Int32) d_Mod_readWants_34 (by decide) ?_
      obtain ⟨q35, hq35, hf0⟩ := mx_bd hf0
      refine gw_callI C (c_Mod_bad _ hg k_o_0 hq35) d_Mod_readWants_35 1 qw_1336 qw_1338 qs_43 qw_12 qw_1339 k_o_0 (by decide) rfl hd_Mod_bad rfl rfl (Nat.le_of_ble_eq_true rfl) ⟨rfl, rfl, Nat.le_of_ble_eq_true rfl, Nat.le_of_ble_eq_true rfl⟩ ⟨Nat.zero_le _, Nat.zero_le _⟩ ?_
      obtain ⟨y38, hy38, hf0⟩ := mx_bd hf0
      obtain ⟨zy38, ey38⟩ := mx_zb hy38
      refine gw_topi ey38 ?_
      exact en_z hN zy38 hf0 d_Mod_readWants_38
  · replace hf0 := mx_t hc hf0
    refine gw_iconst C (0 : Int32) d_Mod_readWants_19 (by decide) ?_
    exact en_z hN (Or.inl rfl) hf0 d_Mod_readWants_20

/-! NameHatModel.readFeud()Z -/
abbrev b_Mod_readFeud : ByteArray := prog_14_method_29_code
def y_Mod_readFeud : MethodName := ⟨"NameHatModel", "readFeud", "()Z"⟩
abbrev rm_Mod_readFeud : Room := { frames := 3, cells := 0, slots := 0, locals := 65 }
theorem hd_Mod_readFeud : y_Mod_readFeud.cls ≠ "java/lang/invoke/MethodHandle" ∧ y_Mod_readFeud.cls ≠ "java/lang/invoke/VarHandle" ∧ (parseMethodDescriptor y_Mod_readFeud.desc).map (fun d => d.parameters.length) = some 0 := by decide +kernel
theorem d_Mod_readFeud_0 : decode b_Mod_readFeud 0 = .ok (.aload_n 0, 1) := by decide +kernel
theorem d_Mod_readFeud_1 : decode b_Mod_readFeud 1 = .ok (.invokevirtual 172, 3) := by decide +kernel
theorem d_Mod_readFeud_4 : decode b_Mod_readFeud 4 = .ok (.aload_n 0, 1) := by decide +kernel
theorem d_Mod_readFeud_5 : decode b_Mod_readFeud 5 = .ok (.bipush 18, 2) := by decide +kernel
theorem d_Mod_readFeud_7 : decode b_Mod_readFeud 7 = .ok (.aload_n 0, 1) := by decide +kernel
theorem d_Mod_readFeud_8 : decode b_Mod_readFeud 8 = .ok (.getfield 37, 3) := by decide +kernel
theorem d_Mod_readFeud_11 : decode b_Mod_readFeud 11 = .ok (.iconst 0, 1) := by decide +kernel
theorem d_Mod_readFeud_12 : decode b_Mod_readFeud 12 = .ok (.iaload, 1) := by decide +kernel
theorem d_Mod_readFeud_13 : decode b_Mod_readFeud 13 = .ok (.invokevirtual 226, 3) := by decide +kernel
theorem d_Mod_readFeud_16 : decode b_Mod_readFeud 16 = .ok (.ifCond .ne 5, 3) := by decide +kernel
theorem d_Mod_readFeud_19 : decode b_Mod_readFeud 19 = .ok (.iconst 0, 1) := by decide +kernel
theorem d_Mod_readFeud_20 : decode b_Mod_readFeud 20 = .ok (.ireturn, 1) := by decide +kernel
theorem d_Mod_readFeud_21 : decode b_Mod_readFeud 21 = .ok (.aload_n 0, 1) := by decide +kernel
theorem d_Mod_readFeud_22 : decode b_Mod_readFeud 22 = .ok (.getfield 179, 3) := by decide +kernel
theorem d_Mod_readFeud_25 : decode b_Mod_readFeud 25 = .ok (.istore_n 1, 1) := by decide +kernel
theorem d_Mod_readFeud_26 : decode b_Mod_readFeud 26 = .ok (.aload_n 0, 1) := by decide +kernel
theorem d_Mod_readFeud_27 : decode b_Mod_readFeud 27 = .ok (.invokevirtual 182, 3) := by decide +kernel
theorem d_Mod_readFeud_30 : decode b_Mod_readFeud 30 = .ok (.ifCond .ne 9, 3) := by decide +kernel
theorem d_Mod_readFeud_33 : decode b_Mod_readFeud 33 = .ok (.aload_n 0, 1) := by decide +kernel
theorem d_Mod_readFeud_34 : decode b_Mod_readFeud 34 = .ok (.iconst 1, 1) := by decide +kernel
theorem d_Mod_readFeud_35 : decode b_Mod_readFeud 35 = .ok (.invokevirtual 169, 3) := by decide +kernel
theorem d_Mod_readFeud_38 : decode b_Mod_readFeud 38 = .ok (.ireturn, 1) := by decide +kernel
theorem d_Mod_readFeud_39 : decode b_Mod_readFeud 39 = .ok (.aload_n 0, 1) := by decide +kernel
theorem d_Mod_readFeud_40 : decode b_Mod_readFeud 40 = .ok (.bipush 18, 2) := by decide +kernel
theorem d_Mod_readFeud_42 : decode b_Mod_readFeud 42 = .ok (.aload_n 0, 1) := by decide +kernel
theorem d_Mod_readFeud_43 : decode b_Mod_readFeud 43 = .ok (.getfield 37, 3) := by decide +kernel
theorem d_Mod_readFeud_46 : decode b_Mod_readFeud 46 = .ok (.iconst 0, 1) := by decide +kernel
theorem d_Mod_readFeud_47 : decode b_Mod_readFeud 47 = .ok (.iaload, 1) := by decide +kernel
theorem d_Mod_readFeud_48 : decode b_Mod_readFeud 48 = .ok (.invokevirtual 186, 3) := by decide +kernel
theorem d_Mod_readFeud_51 : decode b_Mod_readFeud 51 = .ok (.istore_n 2, 1) := by decide +kernel
theorem d_Mod_readFeud_52 : decode b_Mod_readFeud 52 = .ok (.iload_n 2, 1) := by decide +kernel
theorem d_Mod_readFeud_53 : decode b_Mod_readFeud 53 = .ok (.ifCond .lt 24, 3) := by decide +kernel
theorem d_Mod_readFeud_56 : decode b_Mod_readFeud 56 = .ok (.iload_n 2, 1) := by decide +kernel
theorem d_Mod_readFeud_57 : decode b_Mod_readFeud 57 = .ok (.iload_n 1, 1) := by decide +kernel
theorem d_Mod_readFeud_58 : decode b_Mod_readFeud 58 = .ok (.if_icmp .eq 19, 3) := by decide +kernel
theorem d_Mod_readFeud_61 : decode b_Mod_readFeud 61 = .ok (.aload_n 0, 1) := by decide +kernel
theorem d_Mod_readFeud_62 : decode b_Mod_readFeud 62 = .ok (.getfield 37, 3) := by decide +kernel
theorem d_Mod_readFeud_65 : decode b_Mod_readFeud 65 = .ok (.bipush 25, 2) := by decide +kernel
theorem d_Mod_readFeud_67 : decode b_Mod_readFeud 67 = .ok (.iload_n 1, 1) := by decide +kernel
theorem d_Mod_readFeud_68 : decode b_Mod_readFeud 68 = .ok (.iadd, 1) := by decide +kernel
theorem d_Mod_readFeud_69 : decode b_Mod_readFeud 69 = .ok (.iaload, 1) := by decide +kernel
theorem d_Mod_readFeud_70 : decode b_Mod_readFeud 70 = .ok (.iload_n 2, 1) := by decide +kernel
theorem d_Mod_readFeud_71 : decode b_Mod_readFeud 71 = .ok (.invokestatic 217, 3) := by decide +kernel
theorem d_Mod_readFeud_74 : decode b_Mod_readFeud 74 = .ok (.ifCond .eq 9, 3) := by decide +kernel
theorem d_Mod_readFeud_77 : decode b_Mod_readFeud 77 = .ok (.aload_n 0, 1) := by decide +kernel
theorem d_Mod_readFeud_78 : decode b_Mod_readFeud 78 = .ok (.iconst 3, 1) := by decide +kernel
theorem d_Mod_readFeud_79 : decode b_Mod_readFeud 79 = .ok (.invokevirtual 169, 3) := by decide +kernel
theorem d_Mod_readFeud_82 : decode b_Mod_readFeud 82 = .ok (.ireturn, 1) := by decide +kernel
theorem d_Mod_readFeud_83 : decode b_Mod_readFeud 83 = .ok (.aload_n 0, 1) := by decide +kernel
theorem d_Mod_readFeud_84 : decode b_Mod_readFeud 84 = .ok (.getfield 37, 3) := by decide +kernel
theorem d_Mod_readFeud_87 : decode b_Mod_readFeud 87 = .ok (.bipush 25, 2) := by decide +kernel
theorem d_Mod_readFeud_89 : decode b_Mod_readFeud 89 = .ok (.iload_n 1, 1) := by decide +kernel
theorem d_Mod_readFeud_90 : decode b_Mod_readFeud 90 = .ok (.iadd, 1) := by decide +kernel
theorem d_Mod_readFeud_91 : decode b_Mod_readFeud 91 = .ok (.dup2, 1) := by decide +kernel
theorem d_Mod_readFeud_92 : decode b_Mod_readFeud 92 = .ok (.iaload, 1) := by decide +kernel
theorem d_Mod_readFeud_93 : decode b_Mod_readFeud 93 = .ok (.iconst 1, 1) := by decide +kernel
theorem d_Mod_readFeud_94 : decode b_Mod_readFeud 94 = .ok (.iload_n 2, 1) := by decide +kernel
theorem d_Mod_readFeud_95 : decode b_Mod_readFeud 95 = .ok (.ishl, 1) := by decide +kernel
theorem d_Mod_readFeud_96 : decode b_Mod_readFeud 96 = .ok (.ior, 1) := by decide +kernel
theorem d_Mod_readFeud_97 : decode b_Mod_readFeud 97 = .ok (.iastore, 1) := by decide +kernel
theorem d_Mod_readFeud_98 : decode b_Mod_readFeud 98 = .ok (.aload_n 0, 1) := by decide +kernel
theorem d_Mod_readFeud_99 : decode b_Mod_readFeud 99 = .ok (.getfield 37, 3) := by decide +kernel
theorem d_Mod_readFeud_102 : decode b_Mod_readFeud 102 = .ok (.bipush 25, 2) := by decide +kernel
theorem d_Mod_readFeud_104 : decode b_Mod_readFeud 104 = .ok (.iload_n 2, 1) := by decide +kernel
theorem d_Mod_readFeud_105 : decode b_Mod_readFeud 105 = .ok (.iadd, 1) := by decide +kernel
theorem d_Mod_readFeud_106 : decode b_Mod_readFeud 106 = .ok (.dup2, 1) := by decide +kernel
theorem d_Mod_readFeud_107 : decode b_Mod_readFeud 107 = .ok (.iaload, 1) := by decide +kernel
theorem d_Mod_readFeud_108 : decode b_Mod_readFeud 108 = .ok (.iconst 1, 1) := by decide +kernel
theorem d_Mod_readFeud_109 : decode b_Mod_readFeud 109 = .ok (.iload_n 1, 1) := by decide +kernel
theorem d_Mod_readFeud_110 : decode b_Mod_readFeud 110 = .ok (.ishl, 1) := by decide +kernel
theorem d_Mod_readFeud_111 : decode b_Mod_readFeud 111 = .ok (.ior, 1) := by decide +kernel
theorem d_Mod_readFeud_112 : decode b_Mod_readFeud 112 = .ok (.iastore, 1) := by decide +kernel
theorem d_Mod_readFeud_113 : decode b_Mod_readFeud 113 = .ok (.aload_n 0, 1) := by decide +kernel
theorem d_Mod_readFeud_114 : decode b_Mod_readFeud 114 = .ok (.invokevirtual 172, 3) := by decide +kernel
theorem d_Mod_readFeud_117 : decode b_Mod_readFeud 117 = .ok (.iconst 1, 1) := by decide +kernel
theorem d_Mod_readFeud_118 : decode b_Mod_readFeud 118 = .ok (.ireturn, 1) := by decide +kernel
noncomputable def f_Mod_readFeud_J77 (z : Nat → Nat) (o : Nat) (m77 : Mm) : Option (Int32 × Mm) :=
  (f_Mod_bad z m77 o (3 : Int32)).bind fun q79 =>
  (mm_zb q79.1).bind fun y82 =>
  some (y82, q79.2)
noncomputable def f_Mod_readFeud (z : Nat → Nat) (σ : Mm) (o : Nat) : Option (Int32 × Mm) :=
  (f_Mod_next z σ o).bind fun q1 =>
  (mm_ldI (q1.1 (o + 3)) (z (o + 3)) (0 : Int32)).bind fun x12 =>
  (f_Mod_takesName z q1 o (18 : Int32) x12).bind fun q13 =>
  if q13.1 = 0 then (
    some ((0 : Int32), q13.2)
  ) else (
    mm_lt ((q13.2.1 o 18)) fun x25 =>
    (f_Mod_isName z q13.2 o).bind fun q27 =>
    if q27 = 0 then (
      (f_Mod_bad z q13.2 o (1 : Int32)).bind fun q35 =>
      (mm_zb q35.1).bind fun y38 =>
      some (y38, q35.2)
    ) else (
      (mm_ldI (q13.2.1 (o + 3)) (z (o + 3)) (0 : Int32)).bind fun x47 =>
      (f_Mod_find z q13.2 o (18 : Int32) x47).bind fun q48 =>
      if q48 < 0 then (
        f_Mod_readFeud_J77 z o q13.2
      ) else (
        if q48 = x25 then (
          f_Mod_readFeud_J77 z o q13.2
        ) else (
          (mm_ldI (q13.2.1 (o + 3)) (z (o + 3)) ((25 : Int32) + x25)).bind fun x69 =>
          (f_Mod_has z q13.2 x69 q48).bind fun q71 =>
          if q71 = 0 then (
            (mm_ldI (q13.2.1 (o + 3)) (z (o + 3)) ((25 : Int32) + x25)).bind fun x92 =>
            (mm_stI q13.2 (o + 3) (z (o + 3)) ((25 : Int32) + x25) (x92 ||| ((1 : Int32) <<< (q48 &&& 31)))).bind fun m97 =>
            (mm_ldI (m97.1 (o + 3)) (z (o + 3)) ((25 : Int32) + q48)).bind fun x107 =>
            (mm_stI m97 (o + 3) (z (o + 3)) ((25 : Int32) + q48) (x107 ||| ((1 : Int32) <<< (x25 &&& 31)))).bind fun m112 =>
            (f_Mod_next z m112 o).bind fun q114 =>
            some ((1 : Int32), q114)
          ) else (
            f_Mod_readFeud_J77 z o q13.2
          )
        )
      )
    )
  )
set_option maxHeartbeats 4000000 in
set_option maxRecDepth 100000 in
theorem c_Mod_readFeud (l : Launch) {L : Ly} (hg : gd_ok L) {σ : Mm} {o : Nat} (k_o_0 : ly_k L o = 11) {res : Int32 × Mm} (hf0 : f_Mod_readFeud (ly_z L) σ o = some res) : CtI l y_Mod_readFeud b_Mod_readFeud 3 (some .boolean) rm_Mod_readFeud L [.ref (ly_a L o)] σ res.1 res.2 := by
  refine ct_z hg (by decide) (Nat.le_of_ble_eq_true rfl) ?_
  intro E A Q hE C hN
  subst hE
  have k_o_3 : ly_k L (o + 3) = 20 := gd_Mod_h hg k_o_0
  unfold f_Mod_readFeud at hf0
  show GW E L A 3 0 0 Q σ 0 [(0, .ref (ly_a L o))] []
  have hj77 : ∀ (m77 : Mm), f_Mod_readFeud_J77 (ly_z L) o m77 = some res → GW E L A 3 0 0 Q m77 77 [(0, .ref (ly_a L o))] [] := by
    intro m77 hf0
    unfold f_Mod_readFeud_J77 at hf0
    refine gw_aload_n C 0 d_Mod_readFeud_77 rfl rfl ?_
    refine gw_iconst C (3 : Int32) d_Mod_readFeud_78 (by decide) ?_
    obtain ⟨q79, hq79, hf0⟩ := mx_bd hf0
    refine gw_callI C (c_Mod_bad _ hg k_o_0 hq79) d_Mod_readFeud_79 1 qw_1336 qw_1338 qs_43 qw_12 qw_1339 k_o_0 (by decide) rfl hd_Mod_bad rfl rfl (Nat.le_of_ble_eq_true rfl) ⟨rfl, rfl, Nat.le_of_ble_eq_true rfl, Nat.le_of_ble_eq_true rfl⟩ ⟨Nat.zero_le _, Nat.zero_le _⟩ ?_
    obtain ⟨y82, hy82, hf0⟩ := mx_bd hf0
    obtain ⟨zy82, ey82⟩ := mx_zb hy82
    refine gw_topi ey82 ?_
    exact en_z hN zy82 hf0 d_Mod_readFeud_82
  refine gw_aload_n C 0 d_Mod_readFeud_0 rfl rfl ?_
  obtain ⟨q1, hq1, hf0⟩ := mx_bd hf0
  refine gw_callV C (c_Mod_next _ hg k_o_0 hq1) d_Mod_readFeud_1 0 qw_1310 qw_1312 qs_38 qw_12 qw_1313 k_o_0 (by decide) rfl hd_Mod_next rfl rfl (Nat.le_of_ble_eq_true rfl) ⟨rfl, rfl, Nat.le_of_ble_eq_true rfl, Nat.le_of_ble_eq_true rfl⟩ ⟨Nat.zero_le _, Nat.zero_le _⟩ ?_
  refine gw_aload_n C 0 d_Mod_readFeud_4 rfl rfl ?_
  refine gw_bipush C (18 : Int32) d_Mod_readFeud_5 (by decide) ?_
  refine gw_aload_n C 0 d_Mod_readFeud_7 rfl rfl ?_
  refine gw_getA C 7 d_Mod_readFeud_8 k_o_0 (by decide) i_Mod rfl rfl (by decide) qw_1172 rfl rfl (o + 3) rfl ?_
  refine gw_iconst C (0 : Int32) d_Mod_readFeud_11 (by decide) ?_
  obtain ⟨x12, hx12, hf0⟩ := mx_bd hf0
  obtain ⟨gx12, ex12⟩ := mx_ldI hx12
  refine gw_iald C d_Mod_readFeud_12 k_o_3 gx12 ex12 ?_
  obtain ⟨q13, hq13, hf0⟩ := mx_bd hf0
  refine gw_callI C (c_Mod_takesName _ hg k_o_0 hq13) d_Mod_readFeud_13 2 qw_1367 qw_1369 qs_50 qw_12 qw_1370 k_o_0 (by decide) rfl hd_Mod_takesName rfl rfl (Nat.le_of_ble_eq_true rfl) ⟨rfl, rfl, Nat.le_of_ble_eq_true rfl, Nat.le_of_ble_eq_true rfl⟩ ⟨Nat.zero_le _, Nat.zero_le _⟩ ?_
  refine gw_if_ne C 21 d_Mod_readFeud_16 (by decide) (fun hc => ?_) (fun hc => ?_)
  · replace hf0 := mx_f hc hf0
    refine gw_aload_n C 0 d_Mod_readFeud_21 rfl rfl ?_
    refine gw_getI C 18 d_Mod_readFeud_22 k_o_0 (by decide) i_Mod rfl rfl (by decide) qw_1183 rfl rfl ?_
    obtain ⟨x25, ex25, hf0⟩ := mx_lt hf0
    refine gw_topi ex25 ?_
    refine gw_istore_n C [(1, .int x25), (0, .ref (ly_a L o))] d_Mod_readFeud_25 rfl (by decide) rfl ?_
    refine gw_aload_n C 1 d_Mod_readFeud_26 rfl rfl ?_
    obtain ⟨q27, hq27, hf0⟩ := mx_bd hf0
    refine gw_callI C (c_Mod_isName _ hg k_o_0 hq27) d_Mod_readFeud_27 0 qw_1344 qw_1346 qs_45 qw_12 qw_1347 k_o_0 (by decide) rfl hd_Mod_isName rfl rfl (Nat.le_of_ble_eq_true rfl) ⟨rfl, rfl, Nat.le_of_ble_eq_true rfl, Nat.le_of_ble_eq_true rfl⟩ ⟨Nat.zero_le _, Nat.zero_le _⟩ ?_
    refine gw_if_ne C 39 d_Mod_readFeud_30 (by decide) (fun hc => ?_) (fun hc => ?_)
    · replace hf0 := mx_f hc hf0
      refine gw_aload_n C 1 d_Mod_readFeud_39 rfl rfl ?_
      refine gw_bipush C (18 : Int32) d_Mod_readFeud_40 (by decide) ?_
      refine gw_aload_n C 1 d_Mod_readFeud_42 rfl rfl ?_
      refine gw_getA C 7 d_Mod_readFeud_43 k_o_0 (by decide) i_Mod rfl rfl (by decide) qw_1172 rfl rfl (o + 3) rfl ?_
      refine gw_iconst C (0 : Int32) d_Mod_readFeud_46 (by decide) ?_
      obtain ⟨x47, hx47, hf0⟩ := mx_bd hf0
      obtain ⟨gx47, ex47⟩ := mx_ldI hx47
      refine gw_iald C d_Mod_readFeud_47 k_o_3 gx47 ex47 ?_
      obtain ⟨q48, hq48, hf0⟩ := mx_bd hf0
      refine gw_callI C (c_Mod_find _ hg k_o_0 hq48) d_Mod_readFeud_48 2 qw_1348 qw_1350 qs_46 qw_12 qw_1351 k_o_0 (by decide) rfl hd_Mod_find rfl rfl (Nat.le_of_ble_eq_true rfl) ⟨rfl, rfl, Nat.le_of_ble_eq_true rfl, Nat.le_of_ble_eq_true rfl⟩ ⟨Nat.zero_le _, Nat.zero_le _⟩ ?_
      refine gw_istore_n C [(2, .int q48), (1, .int x25), (0, .ref (ly_a L o))] d_Mod_readFeud_51 rfl (by decide) rfl ?_
      refine gw_iload_n C 0 d_Mod_readFeud_52 rfl rfl ?_
      refine gw_if_lt C 77 d_Mod_readFeud_53 (by decide) (fun hc => ?_) (fun hc => ?_)
      · replace hf0 := mx_t hc hf0
        exact gw_go [2] (hj77 _ hf0) rfl
      · replace hf0 := mx_f hc hf0
        refine gw_iload_n C 0 d_Mod_readFeud_56 rfl rfl ?_
        refine gw_iload_n C 1 d_Mod_readFeud_57 rfl rfl ?_
        refine gw_icmp_eq C 77 d_Mod_readFeud_58 (by decide) (fun hc => ?_) (fun hc => ?_)
        · replace hf0 := mx_t hc hf0
          exact gw_go [2] (hj77 _ hf0) rfl
        · replace hf0 := mx_f hc hf0
          refine gw_aload_n C 2 d_Mod_readFeud_61 rfl rfl ?_
          refine gw_getA C 7 d_Mod_readFeud_62 k_o_0 (by decide) i_Mod rfl rfl (by decide) qw_1172 rfl rfl (o + 3) rfl ?_
          refine gw_bipush C (25 : Int32) d_Mod_readFeud_65 (by decide) ?_
          refine gw_iload_n C 1 d_Mod_readFeud_67 rfl rfl ?_
          refine gw_iadd C d_Mod_readFeud_68 ?_
          obtain ⟨x69, hx69, hf0⟩ := mx_bd hf0
          obtain ⟨gx69, ex69⟩ := mx_ldI hx69
          refine gw_iald C d_Mod_readFeud_69 k_o_3 gx69 ex69 ?_
          refine gw_iload_n C 0 d_Mod_readFeud_70 rfl rfl ?_
          obtain ⟨q71, hq71, hf0⟩ := mx_bd hf0
          refine gw_callIS C (c_Mod_has _ hg hq71) d_Mod_readFeud_71 2 qw_1375 qw_1376 qw_12 qw_1377 hd_Mod_has rfl rfl (Nat.le_of_ble_eq_true rfl) ⟨rfl, rfl, Nat.le_of_ble_eq_true rfl, Nat.le_of_ble_eq_true rfl⟩ ⟨Nat.zero_le _, Nat.zero_le _⟩ ?_
          refine gw_if_eq C 83 d_Mod_readFeud_74 (by decide) (fun hc => ?_) (fun hc => ?_)
          · replace hf0 := mx_t hc hf0
            refine gw_aload_n C 2 d_Mod_readFeud_83 rfl rfl ?_
            refine gw_getA C 7 d_Mod_readFeud_84 k_o_0 (by decide) i_Mod rfl rfl (by decide) qw_1172 rfl rfl (o + 3) rfl ?_
            refine gw_bipush C (25 : Int32) d_Mod_readFeud_87 (by decide) ?_
            refine gw_iload_n C 1 d_Mod_readFeud_89 rfl rfl ?_
            refine gw_iadd C d_Mod_readFeud_90 ?_
            refine gw_dup2 C d_Mod_readFeud_91 rfl rfl ?_
            obtain ⟨x92, hx92, hf0⟩ := mx_bd hf0
            obtain ⟨gx92, ex92⟩ := mx_ldI hx92
            refine gw_iald C d_Mod_readFeud_92 k_o_3 gx92 ex92 ?_
            refine gw_iconst C (1 : Int32) d_Mod_readFeud_93 (by decide) ?_
            refine gw_iload_n C 0 d_Mod_readFeud_94 rfl rfl ?_
            refine gw_ishl C d_Mod_readFeud_95 ?_
            refine gw_ior C d_Mod_readFeud_96 ?_
            obtain ⟨m97, hm97, hf0⟩ := mx_bd hf0
            obtain ⟨gm97, em97⟩ := mx_stI hm97
            refine gw_iast C d_Mod_readFeud_97 k_o_3 gm97 em97 ?_
            refine gw_aload_n C 2 d_Mod_readFeud_98 rfl rfl ?_
            refine gw_getA C 7 d_Mod_readFeud_99 k_o_0 (by decide) i_Mod rfl rfl (by decide) qw_1172 rfl rfl (o + 3) rfl ?_
            refine gw_bipush C (25 : Int32) d_Mod_readFeud_102 (by decide) ?_
            refine gw_iload_n C 0 d_Mod_readFeud_104 rfl rfl ?_
            refine gw_iadd C d_Mod_readFeud_105 ?_
            refine gw_dup2 C d_Mod_readFeud_106 rfl rfl ?_
            obtain ⟨x107, hx107, hf0⟩ := mx_bd hf0
            obtain ⟨gx107, ex107⟩ := mx_ldI hx107
            refine gw_iald C d_Mod_readFeud_107 k_o_3 gx107 ex107 ?_
            refine gw_iconst C (1 : Int32) d_Mod_readFeud_108 (by decide) ?_
            refine gw_iload_n C 1 d_Mod_readFeud_109 rfl rfl ?_
            refine gw_ishl C d_Mod_readFeud_110 ?_
            refine gw_ior C d_Mod_readFeud_111 ?_
            obtain ⟨m112, hm112, hf0⟩ := mx_bd hf0
            obtain ⟨gm112, em112⟩ := mx_stI hm112
            refine gw_iast C d_Mod_readFeud_112 k_o_3 gm112 em112 ?_
            refine gw_aload_n C 2 d_Mod_readFeud_113 rfl rfl ?_
            obtain ⟨q114, hq114, hf0⟩ := mx_bd hf0
            refine gw_callV C (c_Mod_next _ hg k_o_0 hq114) d_Mod_readFeud_114 0 qw_1310 qw_1312 qs_38 qw_12 qw_1313 k_o_0 (by decide) rfl hd_Mod_next rfl rfl (Nat.le_of_ble_eq_true rfl) ⟨rfl, rfl, Nat.le_of_ble_eq_true rfl, Nat.le_of_ble_eq_true rfl⟩ ⟨Nat.zero_le _, Nat.zero_le _⟩ ?_
            refine gw_iconst C (1 : Int32) d_Mod_readFeud_117 (by decide) ?_
            exact en_z hN (Or.inr rfl) hf0 d_Mod_readFeud_118
          · replace hf0 := mx_f hc hf0
            exact gw_go [2] (hj77 _ hf0) rfl
    · replace hf0 := mx_t hc hf0
      refine gw_aload_n C 1 d_Mod_readFeud_33 rfl rfl ?_
      refine gw_iconst C (1 : Int32) d_Mod_readFeud_34 (by decide) ?_
      obtain ⟨q35, hq35, hf0⟩ := mx_bd hf0
      refine gw_callI C (c_Mod_bad _ hg k_o_0 hq35) d_Mod_readFeud_35 1 qw_1336 qw_1338 qs_43 qw_12 qw_1339 k_o_0 (by decide) rfl hd_Mod_bad rfl rfl (Nat.le_of_ble_eq_true rfl) ⟨rfl, rfl, Nat.le_of_ble_eq_true rfl, Nat.le_of_ble_eq_true rfl⟩ ⟨Nat.zero_le _, Nat.zero_le _⟩ ?_
      obtain ⟨y38, hy38, hf0⟩ := mx_bd hf0
      obtain ⟨zy38, ey38⟩ := mx_zb hy38
      refine gw_topi ey38 ?_
      exact en_z hN zy38 hf0 d_Mod_readFeud_38
  · replace hf0 := mx_t hc hf0
    refine gw_iconst C (0 : Int32) d_Mod_readFeud_19 (by decide) ?_
    exact en_z hN (Or.inl rfl) hf0 d_Mod_readFeud_20
