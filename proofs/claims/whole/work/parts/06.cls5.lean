/-! NameHat.restore(I)Z -/
abbrev b_Hat_restore : ByteArray := prog_1_method_46_code
def y_Hat_restore : MethodName := ⟨"NameHat", "restore", "(I)Z"⟩
abbrev rm_Hat_restore : Room := { frames := 3, cells := 0, slots := 0, locals := 64 }
theorem hd_Hat_restore : y_Hat_restore.cls ≠ "java/lang/invoke/MethodHandle" ∧ y_Hat_restore.cls ≠ "java/lang/invoke/VarHandle" ∧ (parseMethodDescriptor y_Hat_restore.desc).map (fun d => d.parameters.length) = some 1 := by decide +kernel
theorem d_Hat_restore_0 : decode b_Hat_restore 0 = .ok (.iload_n 1, 1) := by decide +kernel
theorem d_Hat_restore_1 : decode b_Hat_restore 1 = .ok (.ifCond .ne 23, 3) := by decide +kernel
theorem d_Hat_restore_4 : decode b_Hat_restore 4 = .ok (.aload_n 0, 1) := by decide +kernel
theorem d_Hat_restore_5 : decode b_Hat_restore 5 = .ok (.getfield 325, 3) := by decide +kernel
theorem d_Hat_restore_8 : decode b_Hat_restore 8 = .ok (.ifCond .eq 16, 3) := by decide +kernel
theorem d_Hat_restore_11 : decode b_Hat_restore 11 = .ok (.aload_n 0, 1) := by decide +kernel
theorem d_Hat_restore_12 : decode b_Hat_restore 12 = .ok (.getfield 57, 3) := by decide +kernel
theorem d_Hat_restore_15 : decode b_Hat_restore 15 = .ok (.aload_n 0, 1) := by decide +kernel
theorem d_Hat_restore_16 : decode b_Hat_restore 16 = .ok (.getfield 60, 3) := by decide +kernel
theorem d_Hat_restore_19 : decode b_Hat_restore 19 = .ok (.invokevirtual 102, 3) := by decide +kernel
theorem d_Hat_restore_22 : decode b_Hat_restore 22 = .ok (.iconst 1, 1) := by decide +kernel
theorem d_Hat_restore_23 : decode b_Hat_restore 23 = .ok (.ireturn, 1) := by decide +kernel
theorem d_Hat_restore_24 : decode b_Hat_restore 24 = .ok (.iload_n 1, 1) := by decide +kernel
theorem d_Hat_restore_25 : decode b_Hat_restore 25 = .ok (.iconst 1, 1) := by decide +kernel
theorem d_Hat_restore_26 : decode b_Hat_restore 26 = .ok (.if_icmp .ne 23, 3) := by decide +kernel
theorem d_Hat_restore_29 : decode b_Hat_restore 29 = .ok (.aload_n 0, 1) := by decide +kernel
theorem d_Hat_restore_30 : decode b_Hat_restore 30 = .ok (.getfield 328, 3) := by decide +kernel
theorem d_Hat_restore_33 : decode b_Hat_restore 33 = .ok (.ifCond .eq 16, 3) := by decide +kernel
theorem d_Hat_restore_36 : decode b_Hat_restore 36 = .ok (.aload_n 0, 1) := by decide +kernel
theorem d_Hat_restore_37 : decode b_Hat_restore 37 = .ok (.getfield 57, 3) := by decide +kernel
theorem d_Hat_restore_40 : decode b_Hat_restore 40 = .ok (.aload_n 0, 1) := by decide +kernel
theorem d_Hat_restore_41 : decode b_Hat_restore 41 = .ok (.getfield 63, 3) := by decide +kernel
theorem d_Hat_restore_44 : decode b_Hat_restore 44 = .ok (.invokevirtual 102, 3) := by decide +kernel
theorem d_Hat_restore_47 : decode b_Hat_restore 47 = .ok (.iconst 1, 1) := by decide +kernel
theorem d_Hat_restore_48 : decode b_Hat_restore 48 = .ok (.ireturn, 1) := by decide +kernel
theorem d_Hat_restore_49 : decode b_Hat_restore 49 = .ok (.iconst 0, 1) := by decide +kernel
theorem d_Hat_restore_50 : decode b_Hat_restore 50 = .ok (.ireturn, 1) := by decide +kernel
noncomputable def f_Hat_restore_J24 (z : Nat → Nat) (o : Nat) (v1 : Int32) (m24 : Mm) : Option (Int32 × Mm) :=
  if v1 = (1 : Int32) then (
    if (m24.1 o 12) = 0 then (
      some ((0 : Int32), m24)
    ) else (
      (f_State_copyFrom z m24 (o + 60) (o + 130)).bind fun q44 =>
      some ((1 : Int32), q44)
    )
  ) else (
    some ((0 : Int32), m24)
  )
noncomputable def f_Hat_restore (z : Nat → Nat) (σ : Mm) (o : Nat) (p1 : Int32) : Option (Int32 × Mm) :=
  if p1 = 0 then (
    if (σ.1 o 11) = 0 then (
      f_Hat_restore_J24 z o p1 σ
    ) else (
      (f_State_copyFrom z σ (o + 60) (o + 95)).bind fun q19 =>
      some ((1 : Int32), q19)
    )
  ) else (
    f_Hat_restore_J24 z o p1 σ
  )
set_option maxHeartbeats 4000000 in
set_option maxRecDepth 100000 in
theorem c_Hat_restore (l : Launch) {L : Ly} (hg : gd_ok L) {σ : Mm} {o : Nat} {p1 : Int32} (k_o_0 : ly_k L o = 10) {res : Int32 × Mm} (hf0 : f_Hat_restore (ly_z L) σ o p1 = some res) : CtI l y_Hat_restore b_Hat_restore 2 (some .boolean) rm_Hat_restore L [.ref (ly_a L o), .int p1] σ res.1 res.2 := by
  refine ct_z hg (by decide) (Nat.le_of_ble_eq_true rfl) ?_
  intro E A Q hE C hN
  subst hE
  have k_o_60 : ly_k L (o + 60) = 4 := gd_Hat_now hg k_o_0
  have k_o_130 : ly_k L (o + 130) = 4 := gd_Hat_secondImage hg k_o_0
  have k_o_95 : ly_k L (o + 95) = 4 := gd_Hat_firstImage hg k_o_0
  unfold f_Hat_restore at hf0
  show GW E L A 2 0 0 Q σ 0 [(0, .ref (ly_a L o)), (1, .int p1)] []
  have hj24 : ∀ (v1 : Int32) (m24 : Mm), f_Hat_restore_J24 (ly_z L) o v1 m24 = some res → GW E L A 2 0 0 Q m24 24 [(0, .ref (ly_a L o)), (1, .int v1)] [] := by
    intro v1 m24 hf0
    unfold f_Hat_restore_J24 at hf0
    refine gw_iload_n C 1 d_Hat_restore_24 rfl rfl ?_
    refine gw_iconst C (1 : Int32) d_Hat_restore_25 (by decide) ?_
    refine gw_icmp_ne C 49 d_Hat_restore_26 (by decide) (fun hc => ?_) (fun hc => ?_)
    · replace hf0 := mx_f hc hf0
      refine gw_iconst C (0 : Int32) d_Hat_restore_49 (by decide) ?_
      exact en_z hN (Or.inl rfl) hf0 d_Hat_restore_50
    · replace hf0 := mx_t hc hf0
      refine gw_aload_n C 0 d_Hat_restore_29 rfl rfl ?_
      refine gw_getI C 12 d_Hat_restore_30 k_o_0 (by decide) i_Hat rfl rfl (by decide) qw_415 rfl rfl ?_
      refine gw_if_eq C 49 d_Hat_restore_33 (by decide) (fun hc => ?_) (fun hc => ?_)
      · replace hf0 := mx_t hc hf0
        refine gw_iconst C (0 : Int32) d_Hat_restore_49 (by decide) ?_
        exact en_z hN (Or.inl rfl) hf0 d_Hat_restore_50
      · replace hf0 := mx_f hc hf0
        refine gw_aload_n C 0 d_Hat_restore_36 rfl rfl ?_
        refine gw_getA C 7 d_Hat_restore_37 k_o_0 (by decide) i_Hat rfl rfl (by decide) qw_410 rfl rfl (o + 60) rfl ?_
        refine gw_aload_n C 0 d_Hat_restore_40 rfl rfl ?_
        refine gw_getA C 10 d_Hat_restore_41 k_o_0 (by decide) i_Hat rfl rfl (by decide) qw_413 rfl rfl (o + 130) rfl ?_
        obtain ⟨q44, hq44, hf0⟩ := mx_bd hf0
        refine gw_callV C (c_State_copyFrom _ hg k_o_60 k_o_130 hq44) d_Hat_restore_44 1 qw_669 qw_670 qw_671 qw_5 qw_672 k_o_60 (by decide) rfl hd_State_copyFrom rfl rfl (Nat.le_of_ble_eq_true rfl) ⟨rfl, rfl, Nat.le_of_ble_eq_true rfl, Nat.le_of_ble_eq_true rfl⟩ ⟨Nat.zero_le _, Nat.zero_le _⟩ ?_
        refine gw_iconst C (1 : Int32) d_Hat_restore_47 (by decide) ?_
        exact en_z hN (Or.inr rfl) hf0 d_Hat_restore_48
  refine gw_iload_n C 1 d_Hat_restore_0 rfl rfl ?_
  refine gw_if_ne C 24 d_Hat_restore_1 (by decide) (fun hc => ?_) (fun hc => ?_)
  · replace hf0 := mx_f hc hf0
    exact gw_go [0, 1] (hj24 _ _ hf0) rfl
  · replace hf0 := mx_t hc hf0
    refine gw_aload_n C 0 d_Hat_restore_4 rfl rfl ?_
    refine gw_getI C 11 d_Hat_restore_5 k_o_0 (by decide) i_Hat rfl rfl (by decide) qw_414 rfl rfl ?_
    refine gw_if_eq C 24 d_Hat_restore_8 (by decide) (fun hc => ?_) (fun hc => ?_)
    · replace hf0 := mx_t hc hf0
      exact gw_go [0, 1] (hj24 _ _ hf0) rfl
    · replace hf0 := mx_f hc hf0
      refine gw_aload_n C 0 d_Hat_restore_11 rfl rfl ?_
      refine gw_getA C 7 d_Hat_restore_12 k_o_0 (by decide) i_Hat rfl rfl (by decide) qw_410 rfl rfl (o + 60) rfl ?_
      refine gw_aload_n C 0 d_Hat_restore_15 rfl rfl ?_
      refine gw_getA C 9 d_Hat_restore_16 k_o_0 (by decide) i_Hat rfl rfl (by decide) qw_412 rfl rfl (o + 95) rfl ?_
      obtain ⟨q19, hq19, hf0⟩ := mx_bd hf0
      refine gw_callV C (c_State_copyFrom _ hg k_o_60 k_o_95 hq19) d_Hat_restore_19 1 qw_669 qw_670 qw_671 qw_5 qw_672 k_o_60 (by decide) rfl hd_State_copyFrom rfl rfl (Nat.le_of_ble_eq_true rfl) ⟨rfl, rfl, Nat.le_of_ble_eq_true rfl, Nat.le_of_ble_eq_true rfl⟩ ⟨Nat.zero_le _, Nat.zero_le _⟩ ?_
      refine gw_iconst C (1 : Int32) d_Hat_restore_22 (by decide) ?_
      exact en_z hN (Or.inr rfl) hf0 d_Hat_restore_23

/-! NameHat.count(I)I -/
abbrev b_Hat_count : ByteArray := prog_1_method_47_code
def y_Hat_count : MethodName := ⟨"NameHat", "count", "(I)I"⟩
abbrev rm_Hat_count : Room := { frames := 0, cells := 0, slots := 0, locals := 0 }
theorem hd_Hat_count : y_Hat_count.cls ≠ "java/lang/invoke/MethodHandle" ∧ y_Hat_count.cls ≠ "java/lang/invoke/VarHandle" ∧ (parseMethodDescriptor y_Hat_count.desc).map (fun d => d.parameters.length) = some 1 := by decide +kernel
theorem d_Hat_count_0 : decode b_Hat_count 0 = .ok (.iload_n 1, 1) := by decide +kernel
theorem d_Hat_count_1 : decode b_Hat_count 1 = .ok (.tableswitch 141 0 8 #[51, 65, 79, 90, 101, 112, 120, 128, 133], 51) := by decide +kernel
theorem d_Hat_count_52 : decode b_Hat_count 52 = .ok (.aload_n 0, 1) := by decide +kernel
theorem d_Hat_count_53 : decode b_Hat_count 53 = .ok (.getfield 57, 3) := by decide +kernel
theorem d_Hat_count_56 : decode b_Hat_count 56 = .ok (.getfield 121, 3) := by decide +kernel
theorem d_Hat_count_59 : decode b_Hat_count 59 = .ok (.getfield 125, 3) := by decide +kernel
theorem d_Hat_count_62 : decode b_Hat_count 62 = .ok (.getfield 186, 3) := by decide +kernel
theorem d_Hat_count_65 : decode b_Hat_count 65 = .ok (.ireturn, 1) := by decide +kernel
theorem d_Hat_count_66 : decode b_Hat_count 66 = .ok (.aload_n 0, 1) := by decide +kernel
theorem d_Hat_count_67 : decode b_Hat_count 67 = .ok (.getfield 57, 3) := by decide +kernel
theorem d_Hat_count_70 : decode b_Hat_count 70 = .ok (.getfield 121, 3) := by decide +kernel
theorem d_Hat_count_73 : decode b_Hat_count 73 = .ok (.getfield 166, 3) := by decide +kernel
theorem d_Hat_count_76 : decode b_Hat_count 76 = .ok (.getfield 186, 3) := by decide +kernel
theorem d_Hat_count_79 : decode b_Hat_count 79 = .ok (.ireturn, 1) := by decide +kernel
theorem d_Hat_count_80 : decode b_Hat_count 80 = .ok (.aload_n 0, 1) := by decide +kernel
theorem d_Hat_count_81 : decode b_Hat_count 81 = .ok (.getfield 57, 3) := by decide +kernel
theorem d_Hat_count_84 : decode b_Hat_count 84 = .ok (.getfield 121, 3) := by decide +kernel
theorem d_Hat_count_87 : decode b_Hat_count 87 = .ok (.getfield 286, 3) := by decide +kernel
theorem d_Hat_count_90 : decode b_Hat_count 90 = .ok (.ireturn, 1) := by decide +kernel
theorem d_Hat_count_91 : decode b_Hat_count 91 = .ok (.aload_n 0, 1) := by decide +kernel
theorem d_Hat_count_92 : decode b_Hat_count 92 = .ok (.getfield 57, 3) := by decide +kernel
theorem d_Hat_count_95 : decode b_Hat_count 95 = .ok (.getfield 121, 3) := by decide +kernel
theorem d_Hat_count_98 : decode b_Hat_count 98 = .ok (.getfield 331, 3) := by decide +kernel
theorem d_Hat_count_101 : decode b_Hat_count 101 = .ok (.ireturn, 1) := by decide +kernel
theorem d_Hat_count_102 : decode b_Hat_count 102 = .ok (.aload_n 0, 1) := by decide +kernel
theorem d_Hat_count_103 : decode b_Hat_count 103 = .ok (.getfield 57, 3) := by decide +kernel
theorem d_Hat_count_106 : decode b_Hat_count 106 = .ok (.getfield 121, 3) := by decide +kernel
theorem d_Hat_count_109 : decode b_Hat_count 109 = .ok (.getfield 334, 3) := by decide +kernel
theorem d_Hat_count_112 : decode b_Hat_count 112 = .ok (.ireturn, 1) := by decide +kernel
theorem d_Hat_count_113 : decode b_Hat_count 113 = .ok (.aload_n 0, 1) := by decide +kernel
theorem d_Hat_count_114 : decode b_Hat_count 114 = .ok (.getfield 57, 3) := by decide +kernel
theorem d_Hat_count_117 : decode b_Hat_count 117 = .ok (.getfield 183, 3) := by decide +kernel
theorem d_Hat_count_120 : decode b_Hat_count 120 = .ok (.ireturn, 1) := by decide +kernel
theorem d_Hat_count_121 : decode b_Hat_count 121 = .ok (.aload_n 0, 1) := by decide +kernel
theorem d_Hat_count_122 : decode b_Hat_count 122 = .ok (.getfield 57, 3) := by decide +kernel
theorem d_Hat_count_125 : decode b_Hat_count 125 = .ok (.getfield 337, 3) := by decide +kernel
theorem d_Hat_count_128 : decode b_Hat_count 128 = .ok (.ireturn, 1) := by decide +kernel
theorem d_Hat_count_129 : decode b_Hat_count 129 = .ok (.aload_n 0, 1) := by decide +kernel
theorem d_Hat_count_130 : decode b_Hat_count 130 = .ok (.getfield 77, 3) := by decide +kernel
theorem d_Hat_count_133 : decode b_Hat_count 133 = .ok (.ireturn, 1) := by decide +kernel
theorem d_Hat_count_134 : decode b_Hat_count 134 = .ok (.aload_n 0, 1) := by decide +kernel
theorem d_Hat_count_135 : decode b_Hat_count 135 = .ok (.getfield 57, 3) := by decide +kernel
theorem d_Hat_count_138 : decode b_Hat_count 138 = .ok (.getfield 106, 3) := by decide +kernel
theorem d_Hat_count_141 : decode b_Hat_count 141 = .ok (.ireturn, 1) := by decide +kernel
theorem d_Hat_count_142 : decode b_Hat_count 142 = .ok (.iconst (-1), 1) := by decide +kernel
theorem d_Hat_count_143 : decode b_Hat_count 143 = .ok (.ireturn, 1) := by decide +kernel
noncomputable def f_Hat_count (z : Nat → Nat) (σ : Mm) (o : Nat) (p1 : Int32) : Option (Int32) :=
  if p1 = (0 : Int32) then (
    some (σ.1 (o + 62) 1)
  ) else (
  if p1 = (1 : Int32) then (
    some (σ.1 (o + 64) 1)
  ) else (
  if p1 = (2 : Int32) then (
    some (σ.1 (o + 61) 6)
  ) else (
  if p1 = (3 : Int32) then (
    some (σ.1 (o + 61) 7)
  ) else (
  if p1 = (4 : Int32) then (
    some (σ.1 (o + 61) 8)
  ) else (
  if p1 = (5 : Int32) then (
    some (σ.1 (o + 60) 2)
  ) else (
  if p1 = (6 : Int32) then (
    some (σ.1 (o + 60) 5)
  ) else (
  if p1 = (7 : Int32) then (
    some (σ.1 o 1)
  ) else (
  if p1 = (8 : Int32) then (
    some (σ.1 (o + 60) 7)
  ) else (
    some ((-1) : Int32)
  )))))))))
set_option maxHeartbeats 4000000 in
set_option maxRecDepth 100000 in
theorem c_Hat_count (l : Launch) {L : Ly} (hg : gd_ok L) {σ : Mm} {o : Nat} {p1 : Int32} (k_o_0 : ly_k L o = 10) {res : Int32} (hf0 : f_Hat_count (ly_z L) σ o p1 = some res) : CtI l y_Hat_count b_Hat_count 2 (some .int) rm_Hat_count L [.ref (ly_a L o), .int p1] σ res σ := by
  refine ct_i hg (by decide) (Nat.le_of_ble_eq_true rfl) ?_
  intro E A Q hE C hN
  subst hE
  have k_o_60 : ly_k L (o + 60) = 4 := gd_Hat_now hg k_o_0
  have k_o_61 : ly_k L (o + 61) = 2 := gd_State_island hg k_o_60
  have k_o_62 : ly_k L (o + 62) = 1 := gd_Island_surnames hg k_o_61
  have k_o_64 : ly_k L (o + 64) = 1 := gd_Island_houses hg k_o_61
  unfold f_Hat_count at hf0
  show GW E L A 2 0 0 Q σ 0 [(0, .ref (ly_a L o)), (1, .int p1)] []
  refine gw_iload_n C 1 d_Hat_count_0 rfl rfl ?_
  by_cases hc0 : p1 = (0 : Int32)
  · replace hf0 := mx_t hc0 hf0
    refine gw_tabEq (off := 51) C 52 hc0 d_Hat_count_1 (by decide) (by decide) (by decide) (by decide) ?_
    refine gw_aload_n C 0 d_Hat_count_52 rfl rfl ?_
    refine gw_getA C 7 d_Hat_count_53 k_o_0 (by decide) i_Hat rfl rfl (by decide) qw_410 rfl rfl (o + 60) rfl ?_
    refine gw_getAN C 0 d_Hat_count_56 k_o_60 (by decide) i_State rfl rfl (by decide) qw_237 rfl rfl (o + 61) rfl ?_
    refine gw_getAN C 0 d_Hat_count_59 k_o_61 (by decide) i_Island rfl rfl (by decide) qw_128 rfl rfl (o + 62) rfl ?_
    refine gw_getIN C 1 d_Hat_count_62 k_o_62 (by decide) i_Names rfl rfl (by decide) qw_115 rfl rfl ?_
    exact en_ip hN hf0 d_Hat_count_65
  replace hf0 := mx_f hc0 hf0
  have hn0 := lv_neT hc0 (show ((0 : Int32)).toInt = 0 by decide)
  by_cases hc1 : p1 = (1 : Int32)
  · replace hf0 := mx_t hc1 hf0
    refine gw_tabEq (off := 65) C 66 hc1 d_Hat_count_1 (by decide) (by decide) (by decide) (by decide) ?_
    refine gw_aload_n C 0 d_Hat_count_66 rfl rfl ?_
    refine gw_getA C 7 d_Hat_count_67 k_o_0 (by decide) i_Hat rfl rfl (by decide) qw_410 rfl rfl (o + 60) rfl ?_
    refine gw_getAN C 0 d_Hat_count_70 k_o_60 (by decide) i_State rfl rfl (by decide) qw_237 rfl rfl (o + 61) rfl ?_
    refine gw_getAN C 1 d_Hat_count_73 k_o_61 (by decide) i_Island rfl rfl (by decide) qw_136 rfl rfl (o + 64) rfl ?_
    refine gw_getIN C 1 d_Hat_count_76 k_o_64 (by decide) i_Names rfl rfl (by decide) qw_115 rfl rfl ?_
    exact en_ip hN hf0 d_Hat_count_79
  replace hf0 := mx_f hc1 hf0
  have hn1 := lv_neT hc1 (show ((1 : Int32)).toInt = 1 by decide)
  by_cases hc2 : p1 = (2 : Int32)
  · replace hf0 := mx_t hc2 hf0
    refine gw_tabEq (off := 79) C 80 hc2 d_Hat_count_1 (by decide) (by decide) (by decide) (by decide) ?_
    refine gw_aload_n C 0 d_Hat_count_80 rfl rfl ?_
    refine gw_getA C 7 d_Hat_count_81 k_o_0 (by decide) i_Hat rfl rfl (by decide) qw_410 rfl rfl (o + 60) rfl ?_
    refine gw_getAN C 0 d_Hat_count_84 k_o_60 (by decide) i_State rfl rfl (by decide) qw_237 rfl rfl (o + 61) rfl ?_
    refine gw_getIN C 6 d_Hat_count_87 k_o_61 (by decide) i_Island rfl rfl (by decide) qw_150 rfl rfl ?_
    exact en_ip hN hf0 d_Hat_count_90
  replace hf0 := mx_f hc2 hf0
  have hn2 := lv_neT hc2 (show ((2 : Int32)).toInt = 2 by decide)
  by_cases hc3 : p1 = (3 : Int32)
  · replace hf0 := mx_t hc3 hf0
    refine gw_tabEq (off := 90) C 91 hc3 d_Hat_count_1 (by decide) (by decide) (by decide) (by decide) ?_
    refine gw_aload_n C 0 d_Hat_count_91 rfl rfl ?_
    refine gw_getA C 7 d_Hat_count_92 k_o_0 (by decide) i_Hat rfl rfl (by decide) qw_410 rfl rfl (o + 60) rfl ?_
    refine gw_getAN C 0 d_Hat_count_95 k_o_60 (by decide) i_State rfl rfl (by decide) qw_237 rfl rfl (o + 61) rfl ?_
    refine gw_getIN C 7 d_Hat_count_98 k_o_61 (by decide) i_Island rfl rfl (by decide) qw_155 rfl rfl ?_
    exact en_ip hN hf0 d_Hat_count_101
  replace hf0 := mx_f hc3 hf0
  have hn3 := lv_neT hc3 (show ((3 : Int32)).toInt = 3 by decide)
  by_cases hc4 : p1 = (4 : Int32)
  · replace hf0 := mx_t hc4 hf0
    refine gw_tabEq (off := 101) C 102 hc4 d_Hat_count_1 (by decide) (by decide) (by decide) (by decide) ?_
    refine gw_aload_n C 0 d_Hat_count_102 rfl rfl ?_
    refine gw_getA C 7 d_Hat_count_103 k_o_0 (by decide) i_Hat rfl rfl (by decide) qw_410 rfl rfl (o + 60) rfl ?_
    refine gw_getAN C 0 d_Hat_count_106 k_o_60 (by decide) i_State rfl rfl (by decide) qw_237 rfl rfl (o + 61) rfl ?_
    refine gw_getIN C 8 d_Hat_count_109 k_o_61 (by decide) i_Island rfl rfl (by decide) qw_158 rfl rfl ?_
    exact en_ip hN hf0 d_Hat_count_112
  replace hf0 := mx_f hc4 hf0
  have hn4 := lv_neT hc4 (show ((4 : Int32)).toInt = 4 by decide)
  by_cases hc5 : p1 = (5 : Int32)
  · replace hf0 := mx_t hc5 hf0
    refine gw_tabEq (off := 112) C 113 hc5 d_Hat_count_1 (by decide) (by decide) (by decide) (by decide) ?_
    refine gw_aload_n C 0 d_Hat_count_113 rfl rfl ?_
    refine gw_getA C 7 d_Hat_count_114 k_o_0 (by decide) i_Hat rfl rfl (by decide) qw_410 rfl rfl (o + 60) rfl ?_
    refine gw_getIN C 2 d_Hat_count_117 k_o_60 (by decide) i_State rfl rfl (by decide) qw_242 rfl rfl ?_
    exact en_ip hN hf0 d_Hat_count_120
  replace hf0 := mx_f hc5 hf0
  have hn5 := lv_neT hc5 (show ((5 : Int32)).toInt = 5 by decide)
  by_cases hc6 : p1 = (6 : Int32)
  · replace hf0 := mx_t hc6 hf0
    refine gw_tabEq (off := 120) C 121 hc6 d_Hat_count_1 (by decide) (by decide) (by decide) (by decide) ?_
    refine gw_aload_n C 0 d_Hat_count_121 rfl rfl ?_
    refine gw_getA C 7 d_Hat_count_122 k_o_0 (by decide) i_Hat rfl rfl (by decide) qw_410 rfl rfl (o + 60) rfl ?_
    refine gw_getIN C 5 d_Hat_count_125 k_o_60 (by decide) i_State rfl rfl (by decide) qw_247 rfl rfl ?_
    exact en_ip hN hf0 d_Hat_count_128
  replace hf0 := mx_f hc6 hf0
  have hn6 := lv_neT hc6 (show ((6 : Int32)).toInt = 6 by decide)
  by_cases hc7 : p1 = (7 : Int32)
  · replace hf0 := mx_t hc7 hf0
    refine gw_tabEq (off := 128) C 129 hc7 d_Hat_count_1 (by decide) (by decide) (by decide) (by decide) ?_
    refine gw_aload_n C 0 d_Hat_count_129 rfl rfl ?_
    refine gw_getI C 1 d_Hat_count_130 k_o_0 (by decide) i_Hat rfl rfl (by decide) qw_404 rfl rfl ?_
    exact en_ip hN hf0 d_Hat_count_133
  replace hf0 := mx_f hc7 hf0
  have hn7 := lv_neT hc7 (show ((7 : Int32)).toInt = 7 by decide)
  by_cases hc8 : p1 = (8 : Int32)
  · replace hf0 := mx_t hc8 hf0
    refine gw_tabEq (off := 133) C 134 hc8 d_Hat_count_1 (by decide) (by decide) (by decide) (by decide) ?_
    refine gw_aload_n C 0 d_Hat_count_134 rfl rfl ?_
    refine gw_getA C 7 d_Hat_count_135 k_o_0 (by decide) i_Hat rfl rfl (by decide) qw_410 rfl rfl (o + 60) rfl ?_
    refine gw_getIN C 7 d_Hat_count_138 k_o_60 (by decide) i_State rfl rfl (by decide) qw_253 rfl rfl ?_
    exact en_ip hN hf0 d_Hat_count_141
  replace hf0 := mx_f hc8 hf0
  have hn8 := lv_neT hc8 (show ((8 : Int32)).toInt = 8 by decide)
  refine gw_tabOut C 142 d_Hat_count_1 (by omega) (by decide) ?_
  refine gw_iconst C ((-1) : Int32) d_Hat_count_142 (by decide) ?_
  exact en_ip hN hf0 d_Hat_count_143
