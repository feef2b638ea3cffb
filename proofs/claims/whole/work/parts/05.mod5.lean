/-! NameHatModel.rollLine()Z -/
abbrev b_Mod_rollLine : ByteArray := prog_14_method_74_code
def y_Mod_rollLine : MethodName := ⟨"NameHatModel", "rollLine", "()Z"⟩
abbrev rm_Mod_rollLine : Room := { frames := 3, cells := 0, slots := 0, locals := 65 }
theorem hd_Mod_rollLine : y_Mod_rollLine.cls ≠ "java/lang/invoke/MethodHandle" ∧ y_Mod_rollLine.cls ≠ "java/lang/invoke/VarHandle" ∧ (parseMethodDescriptor y_Mod_rollLine.desc).map (fun d => d.parameters.length) = some 0 := by decide +kernel
theorem d_Mod_rollLine_0 : decode b_Mod_rollLine 0 = .ok (.aload_n 0, 1) := by decide +kernel
theorem d_Mod_rollLine_1 : decode b_Mod_rollLine 1 = .ok (.invokevirtual 182, 3) := by decide +kernel
theorem d_Mod_rollLine_4 : decode b_Mod_rollLine 4 = .ok (.ifCond .ne 9, 3) := by decide +kernel
theorem d_Mod_rollLine_7 : decode b_Mod_rollLine 7 = .ok (.aload_n 0, 1) := by decide +kernel
theorem d_Mod_rollLine_8 : decode b_Mod_rollLine 8 = .ok (.iconst 1, 1) := by decide +kernel
theorem d_Mod_rollLine_9 : decode b_Mod_rollLine 9 = .ok (.invokevirtual 169, 3) := by decide +kernel
theorem d_Mod_rollLine_12 : decode b_Mod_rollLine 12 = .ok (.ireturn, 1) := by decide +kernel
theorem d_Mod_rollLine_13 : decode b_Mod_rollLine 13 = .ok (.aload_n 0, 1) := by decide +kernel
theorem d_Mod_rollLine_14 : decode b_Mod_rollLine 14 = .ok (.bipush 10, 2) := by decide +kernel
theorem d_Mod_rollLine_16 : decode b_Mod_rollLine 16 = .ok (.aload_n 0, 1) := by decide +kernel
theorem d_Mod_rollLine_17 : decode b_Mod_rollLine 17 = .ok (.getfield 33, 3) := by decide +kernel
theorem d_Mod_rollLine_20 : decode b_Mod_rollLine 20 = .ok (.iconst 1, 1) := by decide +kernel
theorem d_Mod_rollLine_21 : decode b_Mod_rollLine 21 = .ok (.iaload, 1) := by decide +kernel
theorem d_Mod_rollLine_22 : decode b_Mod_rollLine 22 = .ok (.invokevirtual 186, 3) := by decide +kernel
theorem d_Mod_rollLine_25 : decode b_Mod_rollLine 25 = .ok (.istore_n 1, 1) := by decide +kernel
theorem d_Mod_rollLine_26 : decode b_Mod_rollLine 26 = .ok (.iload_n 1, 1) := by decide +kernel
theorem d_Mod_rollLine_27 : decode b_Mod_rollLine 27 = .ok (.ifCond .ge 9, 3) := by decide +kernel
theorem d_Mod_rollLine_30 : decode b_Mod_rollLine 30 = .ok (.aload_n 0, 1) := by decide +kernel
theorem d_Mod_rollLine_31 : decode b_Mod_rollLine 31 = .ok (.iconst 3, 1) := by decide +kernel
theorem d_Mod_rollLine_32 : decode b_Mod_rollLine 32 = .ok (.invokevirtual 169, 3) := by decide +kernel
theorem d_Mod_rollLine_35 : decode b_Mod_rollLine 35 = .ok (.ireturn, 1) := by decide +kernel
theorem d_Mod_rollLine_36 : decode b_Mod_rollLine 36 = .ok (.aload_n 0, 1) := by decide +kernel
theorem d_Mod_rollLine_37 : decode b_Mod_rollLine 37 = .ok (.getfield 296, 3) := by decide +kernel
theorem d_Mod_rollLine_40 : decode b_Mod_rollLine 40 = .ok (.bipush 30, 2) := by decide +kernel
theorem d_Mod_rollLine_42 : decode b_Mod_rollLine 42 = .ok (.if_icmp .ne 9, 3) := by decide +kernel
theorem d_Mod_rollLine_45 : decode b_Mod_rollLine 45 = .ok (.aload_n 0, 1) := by decide +kernel
theorem d_Mod_rollLine_46 : decode b_Mod_rollLine 46 = .ok (.iconst 4, 1) := by decide +kernel
theorem d_Mod_rollLine_47 : decode b_Mod_rollLine 47 = .ok (.invokevirtual 169, 3) := by decide +kernel
theorem d_Mod_rollLine_50 : decode b_Mod_rollLine 50 = .ok (.ireturn, 1) := by decide +kernel
theorem d_Mod_rollLine_51 : decode b_Mod_rollLine 51 = .ok (.iconst 1, 1) := by decide +kernel
theorem d_Mod_rollLine_52 : decode b_Mod_rollLine 52 = .ok (.iconst 3, 1) := by decide +kernel
theorem d_Mod_rollLine_53 : decode b_Mod_rollLine 53 = .ok (.aload_n 0, 1) := by decide +kernel
theorem d_Mod_rollLine_54 : decode b_Mod_rollLine 54 = .ok (.getfield 296, 3) := by decide +kernel
theorem d_Mod_rollLine_57 : decode b_Mod_rollLine 57 = .ok (.imul, 1) := by decide +kernel
theorem d_Mod_rollLine_58 : decode b_Mod_rollLine 58 = .ok (.iadd, 1) := by decide +kernel
theorem d_Mod_rollLine_59 : decode b_Mod_rollLine 59 = .ok (.istore_n 2, 1) := by decide +kernel
theorem d_Mod_rollLine_60 : decode b_Mod_rollLine 60 = .ok (.aload_n 0, 1) := by decide +kernel
theorem d_Mod_rollLine_61 : decode b_Mod_rollLine 61 = .ok (.invokevirtual 172, 3) := by decide +kernel
theorem d_Mod_rollLine_64 : decode b_Mod_rollLine 64 = .ok (.aload_n 0, 1) := by decide +kernel
theorem d_Mod_rollLine_65 : decode b_Mod_rollLine 65 = .ok (.getfield 40, 3) := by decide +kernel
theorem d_Mod_rollLine_68 : decode b_Mod_rollLine 68 = .ok (.iload_n 2, 1) := by decide +kernel
theorem d_Mod_rollLine_69 : decode b_Mod_rollLine 69 = .ok (.iload_n 1, 1) := by decide +kernel
theorem d_Mod_rollLine_70 : decode b_Mod_rollLine 70 = .ok (.iastore, 1) := by decide +kernel
theorem d_Mod_rollLine_71 : decode b_Mod_rollLine 71 = .ok (.aload_n 0, 1) := by decide +kernel
theorem d_Mod_rollLine_72 : decode b_Mod_rollLine 72 = .ok (.ldc2_w 119, 3) := by decide +kernel
theorem d_Mod_rollLine_75 : decode b_Mod_rollLine 75 = .ok (.invokevirtual 190, 3) := by decide +kernel
theorem d_Mod_rollLine_78 : decode b_Mod_rollLine 78 = .ok (.ifCond .ne 19, 3) := by decide +kernel
theorem d_Mod_rollLine_81 : decode b_Mod_rollLine 81 = .ok (.aload_n 0, 1) := by decide +kernel
theorem d_Mod_rollLine_82 : decode b_Mod_rollLine 82 = .ok (.ldc2_w 121, 3) := by decide +kernel
theorem d_Mod_rollLine_85 : decode b_Mod_rollLine 85 = .ok (.invokevirtual 190, 3) := by decide +kernel
theorem d_Mod_rollLine_88 : decode b_Mod_rollLine 88 = .ok (.ifCond .ne 9, 3) := by decide +kernel
theorem d_Mod_rollLine_91 : decode b_Mod_rollLine 91 = .ok (.aload_n 0, 1) := by decide +kernel
theorem d_Mod_rollLine_92 : decode b_Mod_rollLine 92 = .ok (.iconst 1, 1) := by decide +kernel
theorem d_Mod_rollLine_93 : decode b_Mod_rollLine 93 = .ok (.invokevirtual 169, 3) := by decide +kernel
theorem d_Mod_rollLine_96 : decode b_Mod_rollLine 96 = .ok (.ireturn, 1) := by decide +kernel
theorem d_Mod_rollLine_97 : decode b_Mod_rollLine 97 = .ok (.aload_n 0, 1) := by decide +kernel
theorem d_Mod_rollLine_98 : decode b_Mod_rollLine 98 = .ok (.getfield 40, 3) := by decide +kernel
theorem d_Mod_rollLine_101 : decode b_Mod_rollLine 101 = .ok (.iload_n 2, 1) := by decide +kernel
theorem d_Mod_rollLine_102 : decode b_Mod_rollLine 102 = .ok (.iconst 1, 1) := by decide +kernel
theorem d_Mod_rollLine_103 : decode b_Mod_rollLine 103 = .ok (.iadd, 1) := by decide +kernel
theorem d_Mod_rollLine_104 : decode b_Mod_rollLine 104 = .ok (.aload_n 0, 1) := by decide +kernel
theorem d_Mod_rollLine_105 : decode b_Mod_rollLine 105 = .ok (.ldc2_w 119, 3) := by decide +kernel
theorem d_Mod_rollLine_108 : decode b_Mod_rollLine 108 = .ok (.invokevirtual 190, 3) := by decide +kernel
theorem d_Mod_rollLine_111 : decode b_Mod_rollLine 111 = .ok (.ifCond .eq 7, 3) := by decide +kernel
theorem d_Mod_rollLine_114 : decode b_Mod_rollLine 114 = .ok (.iconst 1, 1) := by decide +kernel
theorem d_Mod_rollLine_115 : decode b_Mod_rollLine 115 = .ok (.goto 4, 3) := by decide +kernel
theorem d_Mod_rollLine_118 : decode b_Mod_rollLine 118 = .ok (.iconst 0, 1) := by decide +kernel
theorem d_Mod_rollLine_119 : decode b_Mod_rollLine 119 = .ok (.iastore, 1) := by decide +kernel
theorem d_Mod_rollLine_120 : decode b_Mod_rollLine 120 = .ok (.aload_n 0, 1) := by decide +kernel
theorem d_Mod_rollLine_121 : decode b_Mod_rollLine 121 = .ok (.invokevirtual 172, 3) := by decide +kernel
theorem d_Mod_rollLine_124 : decode b_Mod_rollLine 124 = .ok (.aload_n 0, 1) := by decide +kernel
theorem d_Mod_rollLine_125 : decode b_Mod_rollLine 125 = .ok (.iconst 0, 1) := by decide +kernel
theorem d_Mod_rollLine_126 : decode b_Mod_rollLine 126 = .ok (.aload_n 0, 1) := by decide +kernel
theorem d_Mod_rollLine_127 : decode b_Mod_rollLine 127 = .ok (.getfield 33, 3) := by decide +kernel
theorem d_Mod_rollLine_130 : decode b_Mod_rollLine 130 = .ok (.iconst 0, 1) := by decide +kernel
theorem d_Mod_rollLine_131 : decode b_Mod_rollLine 131 = .ok (.iaload, 1) := by decide +kernel
theorem d_Mod_rollLine_132 : decode b_Mod_rollLine 132 = .ok (.invokevirtual 226, 3) := by decide +kernel
theorem d_Mod_rollLine_135 : decode b_Mod_rollLine 135 = .ok (.ifCond .ne 5, 3) := by decide +kernel
theorem d_Mod_rollLine_138 : decode b_Mod_rollLine 138 = .ok (.iconst 0, 1) := by decide +kernel
theorem d_Mod_rollLine_139 : decode b_Mod_rollLine 139 = .ok (.ireturn, 1) := by decide +kernel
theorem d_Mod_rollLine_140 : decode b_Mod_rollLine 140 = .ok (.aload_n 0, 1) := by decide +kernel
theorem d_Mod_rollLine_141 : decode b_Mod_rollLine 141 = .ok (.getfield 40, 3) := by decide +kernel
theorem d_Mod_rollLine_144 : decode b_Mod_rollLine 144 = .ok (.iload_n 2, 1) := by decide +kernel
theorem d_Mod_rollLine_145 : decode b_Mod_rollLine 145 = .ok (.iconst 2, 1) := by decide +kernel
theorem d_Mod_rollLine_146 : decode b_Mod_rollLine 146 = .ok (.iadd, 1) := by decide +kernel
theorem d_Mod_rollLine_147 : decode b_Mod_rollLine 147 = .ok (.aload_n 0, 1) := by decide +kernel
theorem d_Mod_rollLine_148 : decode b_Mod_rollLine 148 = .ok (.getfield 179, 3) := by decide +kernel
theorem d_Mod_rollLine_151 : decode b_Mod_rollLine 151 = .ok (.iastore, 1) := by decide +kernel
theorem d_Mod_rollLine_152 : decode b_Mod_rollLine 152 = .ok (.iconst 1, 1) := by decide +kernel
theorem d_Mod_rollLine_153 : decode b_Mod_rollLine 153 = .ok (.ireturn, 1) := by decide +kernel
noncomputable def f_Mod_rollLine_J119 (z : Nat → Nat) (o : Nat) (v2 : Int32) (t119_1 : Int32) (t119_2 : Int32) (m119 : Mm) : Option (Int32 × Mm) :=
  (mm_stI m119 (o + 4) (z (o + 4)) t119_1 t119_2).bind fun m119 =>
  (f_Mod_next z m119 o).bind fun q121 =>
  (mm_ldI (q121.1 (o + 2)) (z (o + 2)) (0 : Int32)).bind fun x131 =>
  (f_Mod_takesName z q121 o (0 : Int32) x131).bind fun q132 =>
  if q132.1 = 0 then (
    some ((0 : Int32), q132.2)
  ) else (
    (mm_stI q132.2 (o + 4) (z (o + 4)) (v2 + (2 : Int32)) (q132.2.1 o 18)).bind fun m151 =>
    some ((1 : Int32), m151)
  )
noncomputable def f_Mod_rollLine_J97 (z : Nat → Nat) (o : Nat) (v2 : Int32) (m97 : Mm) : Option (Int32 × Mm) :=
  (f_Mod_isWord z m97 o (6840691 : Int64)).bind fun q108 =>
  if q108 = 0 then (
    f_Mod_rollLine_J119 z o v2 (v2 + (1 : Int32)) (0 : Int32) m97
  ) else (
    f_Mod_rollLine_J119 z o v2 (v2 + (1 : Int32)) (1 : Int32) m97
  )
noncomputable def f_Mod_rollLine (z : Nat → Nat) (σ : Mm) (o : Nat) : Option (Int32 × Mm) :=
  (f_Mod_isName z σ o).bind fun q1 =>
  if q1 = 0 then (
    (f_Mod_bad z σ o (1 : Int32)).bind fun q9 =>
    (mm_zb q9.1).bind fun y12 =>
    some (y12, q9.2)
  ) else (
    (mm_ldI (σ.1 (o + 2)) (z (o + 2)) (1 : Int32)).bind fun x21 =>
    (f_Mod_find z σ o (10 : Int32) x21).bind fun q22 =>
    if 0 ≤ q22 then (
      if (σ.1 o 29) = (30 : Int32) then (
        (f_Mod_bad z σ o (4 : Int32)).bind fun q47 =>
        (mm_zb q47.1).bind fun y50 =>
        some (y50, q47.2)
      ) else (
        mm_lt (((1 : Int32) + ((3 : Int32) * (σ.1 o 29)))) fun x59 =>
        (f_Mod_next z σ o).bind fun q61 =>
        (mm_stI q61 (o + 4) (z (o + 4)) x59 q22).bind fun m70 =>
        (f_Mod_isWord z m70 o (6840691 : Int64)).bind fun q75 =>
        if q75 = 0 then (
          (f_Mod_isWord z m70 o (7237492 : Int64)).bind fun q85 =>
          if q85 = 0 then (
            (f_Mod_bad z m70 o (1 : Int32)).bind fun q93 =>
            (mm_zb q93.1).bind fun y96 =>
            some (y96, q93.2)
          ) else (
            f_Mod_rollLine_J97 z o x59 m70
          )
        ) else (
          f_Mod_rollLine_J97 z o x59 m70
        )
      )
    ) else (
      (f_Mod_bad z σ o (3 : Int32)).bind fun q32 =>
      (mm_zb q32.1).bind fun y35 =>
      some (y35, q32.2)
    )
  )
set_option maxHeartbeats 4000000 in
set_option maxRecDepth 100000 in
theorem c_Mod_rollLine (l : Launch) {L : Ly} (hg : gd_ok L) {σ : Mm} {o : Nat} (k_o_0 : ly_k L o = 11) {res : Int32 × Mm} (hf0 : f_Mod_rollLine (ly_z L) σ o = some res) : CtI l y_Mod_rollLine b_Mod_rollLine 3 (some .boolean) rm_Mod_rollLine L [.ref (ly_a L o)] σ res.1 res.2 := by
  refine ct_z hg (by decide) (Nat.le_of_ble_eq_true rfl) ?_
  intro E A Q hE C hN
  subst hE
  have k_o_4 : ly_k L (o + 4) = 20 := gd_Mod_read hg k_o_0
  have k_o_2 : ly_k L (o + 2) = 20 := gd_Mod_s hg k_o_0
  unfold f_Mod_rollLine at hf0
  show GW E L A 3 0 0 Q σ 0 [(0, .ref (ly_a L o))] []
  have hj119 : ∀ (v2 : Int32) (t119_1 : Int32) (t119_2 : Int32) (m119 : Mm), f_Mod_rollLine_J119 (ly_z L) o v2 t119_1 t119_2 m119 = some res → GW E L A 3 0 0 Q m119 119 [(0, .ref (ly_a L o)), (2, .int v2)] [.int t119_2, .int t119_1, .ref (ly_a L (o + 4))] := by
    intro v2 t119_1 t119_2 m119 hf0
    unfold f_Mod_rollLine_J119 at hf0
    obtain ⟨m119, hm119, hf0⟩ := mx_bd hf0
    obtain ⟨gm119, em119⟩ := mx_stI hm119
    refine gw_iast C d_Mod_rollLine_119 k_o_4 gm119 em119 ?_
    refine gw_aload_n C 0 d_Mod_rollLine_120 rfl rfl ?_
    obtain ⟨q121, hq121, hf0⟩ := mx_bd hf0
    refine gw_callV C (c_Mod_next _ hg k_o_0 hq121) d_Mod_rollLine_121 0 qw_1310 qw_1312 qs_38 qw_12 qw_1313 k_o_0 (by decide) rfl hd_Mod_next rfl rfl (Nat.le_of_ble_eq_true rfl) ⟨rfl, rfl, Nat.le_of_ble_eq_true rfl, Nat.le_of_ble_eq_true rfl⟩ ⟨Nat.zero_le _, Nat.zero_le _⟩ ?_
    refine gw_aload_n C 0 d_Mod_rollLine_124 rfl rfl ?_
    refine gw_iconst C (0 : Int32) d_Mod_rollLine_125 (by decide) ?_
    refine gw_aload_n C 0 d_Mod_rollLine_126 rfl rfl ?_
    refine gw_getA C 6 d_Mod_rollLine_127 k_o_0 (by decide) i_Mod rfl rfl (by decide) qw_1171 rfl rfl (o + 2) rfl ?_
    refine gw_iconst C (0 : Int32) d_Mod_rollLine_130 (by decide) ?_
    obtain ⟨x131, hx131, hf0⟩ := mx_bd hf0
    obtain ⟨gx131, ex131⟩ := mx_ldI hx131
    refine gw_iald C d_Mod_rollLine_131 k_o_2 gx131 ex131 ?_
    obtain ⟨q132, hq132, hf0⟩ := mx_bd hf0
    refine gw_callI C (c_Mod_takesName _ hg k_o_0 hq132) d_Mod_rollLine_132 2 qw_1367 qw_1369 qs_50 qw_12 qw_1370 k_o_0 (by decide) rfl hd_Mod_takesName rfl rfl (Nat.le_of_ble_eq_true rfl) ⟨rfl, rfl, Nat.le_of_ble_eq_true rfl, Nat.le_of_ble_eq_true rfl⟩ ⟨Nat.zero_le _, Nat.zero_le _⟩ ?_
    refine gw_if_ne C 140 d_Mod_rollLine_135 (by decide) (fun hc => ?_) (fun hc => ?_)
    · replace hf0 := mx_f hc hf0
      refine gw_aload_n C 0 d_Mod_rollLine_140 rfl rfl ?_
      refine gw_getA C 8 d_Mod_rollLine_141 k_o_0 (by decide) i_Mod rfl rfl (by decide) qw_1173 rfl rfl (o + 4) rfl ?_
      refine gw_iload_n C 1 d_Mod_rollLine_144 rfl rfl ?_
      refine gw_iconst C (2 : Int32) d_Mod_rollLine_145 (by decide) ?_
      refine gw_iadd C d_Mod_rollLine_146 ?_
      refine gw_aload_n C 0 d_Mod_rollLine_147 rfl rfl ?_
      refine gw_getI C 18 d_Mod_rollLine_148 k_o_0 (by decide) i_Mod rfl rfl (by decide) qw_1183 rfl rfl ?_
      obtain ⟨m151, hm151, hf0⟩ := mx_bd hf0
      obtain ⟨gm151, em151⟩ := mx_stI hm151
      refine gw_iast C d_Mod_rollLine_151 k_o_4 gm151 em151 ?_
      refine gw_iconst C (1 : Int32) d_Mod_rollLine_152 (by decide) ?_
      exact en_z hN (Or.inr rfl) hf0 d_Mod_rollLine_153
    · replace hf0 := mx_t hc hf0
      refine gw_iconst C (0 : Int32) d_Mod_rollLine_138 (by decide) ?_
      exact en_z hN (Or.inl rfl) hf0 d_Mod_rollLine_139
  have hj97 : ∀ (v2 : Int32) (m97 : Mm), f_Mod_rollLine_J97 (ly_z L) o v2 m97 = some res → GW E L A 3 0 0 Q m97 97 [(0, .ref (ly_a L o)), (2, .int v2)] [] := by
    intro v2 m97 hf0
    unfold f_Mod_rollLine_J97 at hf0
    refine gw_aload_n C 0 d_Mod_rollLine_97 rfl rfl ?_
    refine gw_getA C 8 d_Mod_rollLine_98 k_o_0 (by decide) i_Mod rfl rfl (by decide) qw_1173 rfl rfl (o + 4) rfl ?_
    refine gw_iload_n C 1 d_Mod_rollLine_101 rfl rfl ?_
    refine gw_iconst C (1 : Int32) d_Mod_rollLine_102 (by decide) ?_
    refine gw_iadd C d_Mod_rollLine_103 ?_
    refine gw_aload_n C 0 d_Mod_rollLine_104 rfl rfl ?_
    refine gw_ldc2_w C d_Mod_rollLine_105 qw_1158 ?_
    obtain ⟨q108, hq108, hf0⟩ := mx_bd hf0
    refine gw_callI C (c_Mod_isWord _ hg k_o_0 hq108) d_Mod_rollLine_108 1 qw_1328 qw_1330 qs_41 qw_12 qw_1331 k_o_0 (by decide) rfl hd_Mod_isWord rfl rfl (Nat.le_of_ble_eq_true rfl) ⟨rfl, rfl, Nat.le_of_ble_eq_true rfl, Nat.le_of_ble_eq_true rfl⟩ ⟨Nat.zero_le _, Nat.zero_le _⟩ ?_
    refine gw_if_eq C 118 d_Mod_rollLine_111 (by decide) (fun hc => ?_) (fun hc => ?_)
    · replace hf0 := mx_t hc hf0
      refine gw_iconst C (0 : Int32) d_Mod_rollLine_118 (by decide) ?_
      exact gw_go [0, 1] (hj119 _ _ _ _ hf0) rfl
    · replace hf0 := mx_f hc hf0
      refine gw_iconst C (1 : Int32) d_Mod_rollLine_114 (by decide) ?_
      refine gw_goto C 119 d_Mod_rollLine_115 (by decide) ?_
      exact gw_go [0, 1] (hj119 _ _ _ _ hf0) rfl
  refine gw_aload_n C 0 d_Mod_rollLine_0 rfl rfl ?_
  obtain ⟨q1, hq1, hf0⟩ := mx_bd hf0
  refine gw_callI C (c_Mod_isName _ hg k_o_0 hq1) d_Mod_rollLine_1 0 qw_1344 qw_1346 qs_45 qw_12 qw_1347 k_o_0 (by decide) rfl hd_Mod_isName rfl rfl (Nat.le_of_ble_eq_true rfl) ⟨rfl, rfl, Nat.le_of_ble_eq_true rfl, Nat.le_of_ble_eq_true rfl⟩ ⟨Nat.zero_le _, Nat.zero_le _⟩ ?_
  refine gw_if_ne C 13 d_Mod_rollLine_4 (by decide) (fun hc => ?_) (fun hc => ?_)
  · replace hf0 := mx_f hc hf0
    refine gw_aload_n C 0 d_Mod_rollLine_13 rfl rfl ?_
    refine gw_bipush C (10 : Int32) d_Mod_rollLine_14 (by decide) ?_
    refine gw_aload_n C 0 d_Mod_rollLine_16 rfl rfl ?_
    refine gw_getA C 6 d_Mod_rollLine_17 k_o_0 (by decide) i_Mod rfl rfl (by decide) qw_1171 rfl rfl (o + 2) rfl ?_
    refine gw_iconst C (1 : Int32) d_Mod_rollLine_20 (by decide) ?_
    obtain ⟨x21, hx21, hf0⟩ := mx_bd hf0
    obtain ⟨gx21, ex21⟩ := mx_ldI hx21
    refine gw_iald C d_Mod_rollLine_21 k_o_2 gx21 ex21 ?_
    obtain ⟨q22, hq22, hf0⟩ := mx_bd hf0
    refine gw_callI C (c_Mod_find _ hg k_o_0 hq22) d_Mod_rollLine_22 2 qw_1348 qw_1350 qs_46 qw_12 qw_1351 k_o_0 (by decide) rfl hd_Mod_find rfl rfl (Nat.le_of_ble_eq_true rfl) ⟨rfl, rfl, Nat.le_of_ble_eq_true rfl, Nat.le_of_ble_eq_true rfl⟩ ⟨Nat.zero_le _, Nat.zero_le _⟩ ?_
    refine gw_istore_n C [(1, .int q22), (0, .ref (ly_a L o))] d_Mod_rollLine_25 rfl (by decide) rfl ?_
    refine gw_iload_n C 0 d_Mod_rollLine_26 rfl rfl ?_
    refine gw_if_ge C 36 d_Mod_rollLine_27 (by decide) (fun hc => ?_) (fun hc => ?_)
    · replace hf0 := mx_t hc hf0
      refine gw_aload_n C 1 d_Mod_rollLine_36 rfl rfl ?_
      refine gw_getI C 29 d_Mod_rollLine_37 k_o_0 (by decide) i_Mod rfl rfl (by decide) qw_1194 rfl rfl ?_
      refine gw_bipush C (30 : Int32) d_Mod_rollLine_40 (by decide) ?_
      refine gw_icmp_ne C 51 d_Mod_rollLine_42 (by decide) (fun hc => ?_) (fun hc => ?_)
      · replace hf0 := mx_f hc hf0
        refine gw_iconst C (1 : Int32) d_Mod_rollLine_51 (by decide) ?_
        refine gw_iconst C (3 : Int32) d_Mod_rollLine_52 (by decide) ?_
        refine gw_aload_n C 1 d_Mod_rollLine_53 rfl rfl ?_
        refine gw_getI C 29 d_Mod_rollLine_54 k_o_0 (by decide) i_Mod rfl rfl (by decide) qw_1194 rfl rfl ?_
        refine gw_imul C d_Mod_rollLine_57 ?_
        refine gw_iadd C d_Mod_rollLine_58 ?_
        obtain ⟨x59, ex59, hf0⟩ := mx_lt hf0
        refine gw_topi ex59 ?_
        refine gw_istore_n C [(2, .int x59), (1, .int q22), (0, .ref (ly_a L o))] d_Mod_rollLine_59 rfl (by decide) rfl ?_
        refine gw_aload_n C 2 d_Mod_rollLine_60 rfl rfl ?_
        obtain ⟨q61, hq61, hf0⟩ := mx_bd hf0
        refine gw_callV C (c_Mod_next _ hg k_o_0 hq61) d_Mod_rollLine_61 0 qw_1310 qw_1312 qs_38 qw_12 qw_1313 k_o_0 (by decide) rfl hd_Mod_next rfl rfl (Nat.le_of_ble_eq_true rfl) ⟨rfl, rfl, Nat.le_of_ble_eq_true rfl, Nat.le_of_ble_eq_true rfl⟩ ⟨Nat.zero_le _, Nat.zero_le _⟩ ?_
        refine gw_aload_n C 2 d_Mod_rollLine_64 rfl rfl ?_
        refine gw_getA C 8 d_Mod_rollLine_65 k_o_0 (by decide) i_Mod rfl rfl (by decide) qw_1173 rfl rfl (o + 4) rfl ?_
        refine gw_iload_n C 0 d_Mod_rollLine_68 rfl rfl ?_
        refine gw_iload_n C 1 d_Mod_rollLine_69 rfl rfl ?_
        obtain ⟨m70, hm70, hf0⟩ := mx_bd hf0
        obtain ⟨gm70, em70⟩ := mx_stI hm70
        refine gw_iast C d_Mod_rollLine_70 k_o_4 gm70 em70 ?_
        refine gw_aload_n C 2 d_Mod_rollLine_71 rfl rfl ?_
        refine gw_ldc2_w C d_Mod_rollLine_72 qw_1158 ?_
        obtain ⟨q75, hq75, hf0⟩ := mx_bd hf0
        refine gw_callI C (c_Mod_isWord _ hg k_o_0 hq75) d_Mod_rollLine_75 1 qw_1328 qw_1330 qs_41 qw_12 qw_1331 k_o_0 (by decide) rfl hd_Mod_isWord rfl rfl (Nat.le_of_ble_eq_true rfl) ⟨rfl, rfl, Nat.le_of_ble_eq_true rfl, Nat.le_of_ble_eq_true rfl⟩ ⟨Nat.zero_le _, Nat.zero_le _⟩ ?_
        refine gw_if_ne C 97 d_Mod_rollLine_78 (by decide) (fun hc => ?_) (fun hc => ?_)
        · replace hf0 := mx_f hc hf0
          exact gw_go [2, 0] (hj97 _ _ hf0) rfl
        · replace hf0 := mx_t hc hf0
          refine gw_aload_n C 2 d_Mod_rollLine_81 rfl rfl ?_
          refine gw_ldc2_w C d_Mod_rollLine_82 qw_1159 ?_
          obtain ⟨q85, hq85, hf0⟩ := mx_bd hf0
          refine gw_callI C (c_Mod_isWord _ hg k_o_0 hq85) d_Mod_rollLine_85 1 qw_1328 qw_1330 qs_41 qw_12 qw_1331 k_o_0 (by decide) rfl hd_Mod_isWord rfl rfl (Nat.le_of_ble_eq_true rfl) ⟨rfl, rfl, Nat.le_of_ble_eq_true rfl, Nat.le_of_ble_eq_true rfl⟩ ⟨Nat.zero_le _, Nat.zero_le _⟩ ?_
          refine gw_if_ne C 97 d_Mod_rollLine_88 (by decide) (fun hc => ?_) (fun hc => ?_)
          · replace hf0 := mx_f hc hf0
            exact gw_go [2, 0] (hj97 _ _ hf0) rfl
          · replace hf0 := mx_t hc hf0
            refine gw_aload_n C 2 d_Mod_rollLine_91 rfl rfl ?_
            refine gw_iconst C (1 : Int32) d_Mod_rollLine_92 (by decide) ?_
            obtain ⟨q93, hq93, hf0⟩ := mx_bd hf0
            refine gw_callI C (c_Mod_bad _ hg k_o_0 hq93) d_Mod_rollLine_93 1 qw_1336 qw_1338 qs_43 qw_12 qw_1339 k_o_0 (by decide) rfl hd_Mod_bad rfl rfl (Nat.le_of_ble_eq_true rfl) ⟨rfl, rfl, Nat.le_of_ble_eq_true rfl, Nat.le_of_ble_eq_true rfl⟩ ⟨Nat.zero_le _, Nat.zero_le _⟩ ?_
            obtain ⟨y96, hy96, hf0⟩ := mx_bd hf0
            obtain ⟨zy96, ey96⟩ := mx_zb hy96
            refine gw_topi ey96 ?_
            exact en_z hN zy96 hf0 d_Mod_rollLine_96
      · replace hf0 := mx_t hc hf0
        refine gw_aload_n C 1 d_Mod_rollLine_45 rfl rfl ?_
        refine gw_iconst C (4 : Int32) d_Mod_rollLine_46 (by decide) ?_
        obtain ⟨q47, hq47, hf0⟩ := mx_bd hf0
        refine gw_callI C (c_Mod_bad _ hg k_o_0 hq47) d_Mod_rollLine_47 1 qw_1336 qw_1338 qs_43 qw_12 qw_1339 k_o_0 (by decide) rfl hd_Mod_bad rfl rfl (Nat.le_of_ble_eq_true rfl) ⟨rfl, rfl, Nat.le_of_ble_eq_true rfl, Nat.le_of_ble_eq_true rfl⟩ ⟨Nat.zero_le _, Nat.zero_le _⟩ ?_
        obtain ⟨y50, hy50, hf0⟩ := mx_bd hf0
        obtain ⟨zy50, ey50⟩ := mx_zb hy50
        refine gw_topi ey50 ?_
        exact en_z hN zy50 hf0 d_Mod_rollLine_50
    · replace hf0 := mx_f hc hf0
      refine gw_aload_n C 1 d_Mod_rollLine_30 rfl rfl ?_
      refine gw_iconst C (3 : Int32) d_Mod_rollLine_31 (by decide) ?_
      obtain ⟨q32, hq32, hf0⟩ := mx_bd hf0
      refine gw_callI C (c_Mod_bad _ hg k_o_0 hq32) d_Mod_rollLine_32 1 qw_1336 qw_1338 qs_43 qw_12 qw_1339 k_o_0 (by decide) rfl hd_Mod_bad rfl rfl (Nat.le_of_ble_eq_true rfl) ⟨rfl, rfl, Nat.le_of_ble_eq_true rfl, Nat.le_of_ble_eq_true rfl⟩ ⟨Nat.zero_le _, Nat.zero_le _⟩ ?_
      obtain ⟨y35, hy35, hf0⟩ := mx_bd hf0
      obtain ⟨zy35, ey35⟩ := mx_zb hy35
      refine gw_topi ey35 ?_
      exact en_z hN zy35 hf0 d_Mod_rollLine_35
  · replace hf0 := mx_t hc hf0
    refine gw_aload_n C 0 d_Mod_rollLine_7 rfl rfl ?_
    refine gw_iconst C (1 : Int32) d_Mod_rollLine_8 (by decide) ?_
    obtain ⟨q9, hq9, hf0⟩ := mx_bd hf0
    refine gw_callI C (c_Mod_bad _ hg k_o_0 hq9) d_Mod_rollLine_9 1 qw_1336 qw_1338 qs_43 qw_12 qw_1339 k_o_0 (by decide) rfl hd_Mod_bad rfl rfl (Nat.le_of_ble_eq_true rfl) ⟨rfl, rfl, Nat.le_of_ble_eq_true rfl, Nat.le_of_ble_eq_true rfl⟩ ⟨Nat.zero_le _, Nat.zero_le _⟩ ?_
    obtain ⟨y12, hy12, hf0⟩ := mx_bd hf0
    obtain ⟨zy12, ey12⟩ := mx_zb hy12
    refine gw_topi ey12 ?_
    exact en_z hN zy12 hf0 d_Mod_rollLine_12

/-! NameHatModel.roll()I -/
abbrev b_Mod_roll : ByteArray := prog_14_method_75_code
def y_Mod_roll : MethodName := ⟨"NameHatModel", "roll", "()I"⟩
abbrev rm_Mod_roll : Room := { frames := 4, cells := 0, slots := 0, locals := 87 }
theorem hd_Mod_roll : y_Mod_roll.cls ≠ "java/lang/invoke/MethodHandle" ∧ y_Mod_roll.cls ≠ "java/lang/invoke/VarHandle" ∧ (parseMethodDescriptor y_Mod_roll.desc).map (fun d => d.parameters.length) = some 0 := by decide +kernel
theorem d_Mod_roll_0 : decode b_Mod_roll 0 = .ok (.aload_n 0, 1) := by decide +kernel
theorem d_Mod_roll_1 : decode b_Mod_roll 1 = .ok (.iconst 0, 1) := by decide +kernel
theorem d_Mod_roll_2 : decode b_Mod_roll 2 = .ok (.putfield 1, 3) := by decide +kernel
theorem d_Mod_roll_5 : decode b_Mod_roll 5 = .ok (.aload_n 0, 1) := by decide +kernel
theorem d_Mod_roll_6 : decode b_Mod_roll 6 = .ok (.sipush 400, 3) := by decide +kernel
theorem d_Mod_roll_9 : decode b_Mod_roll 9 = .ok (.invokevirtual 229, 3) := by decide +kernel
theorem d_Mod_roll_12 : decode b_Mod_roll 12 = .ok (.aload_n 0, 1) := by decide +kernel
theorem d_Mod_roll_13 : decode b_Mod_roll 13 = .ok (.iconst 0, 1) := by decide +kernel
theorem d_Mod_roll_14 : decode b_Mod_roll 14 = .ok (.putfield 160, 3) := by decide +kernel
theorem d_Mod_roll_17 : decode b_Mod_roll 17 = .ok (.aload_n 0, 1) := by decide +kernel
theorem d_Mod_roll_18 : decode b_Mod_roll 18 = .ok (.iconst 0, 1) := by decide +kernel
theorem d_Mod_roll_19 : decode b_Mod_roll 19 = .ok (.putfield 296, 3) := by decide +kernel
theorem d_Mod_roll_22 : decode b_Mod_roll 22 = .ok (.aload_n 0, 1) := by decide +kernel
theorem d_Mod_roll_23 : decode b_Mod_roll 23 = .ok (.invokevirtual 172, 3) := by decide +kernel
theorem d_Mod_roll_26 : decode b_Mod_roll 26 = .ok (.aload_n 0, 1) := by decide +kernel
theorem d_Mod_roll_27 : decode b_Mod_roll 27 = .ok (.getfield 143, 3) := by decide +kernel
theorem d_Mod_roll_30 : decode b_Mod_roll 30 = .ok (.ifCond .eq 39, 3) := by decide +kernel
theorem d_Mod_roll_33 : decode b_Mod_roll 33 = .ok (.aload_n 0, 1) := by decide +kernel
theorem d_Mod_roll_34 : decode b_Mod_roll 34 = .ok (.invokevirtual 327, 3) := by decide +kernel
theorem d_Mod_roll_37 : decode b_Mod_roll 37 = .ok (.ifCond .eq 12, 3) := by decide +kernel
theorem d_Mod_roll_40 : decode b_Mod_roll 40 = .ok (.aload_n 0, 1) := by decide +kernel
theorem d_Mod_roll_41 : decode b_Mod_roll 41 = .ok (.bipush 59, 2) := by decide +kernel
theorem d_Mod_roll_43 : decode b_Mod_roll 43 = .ok (.invokevirtual 238, 3) := by decide +kernel
theorem d_Mod_roll_46 : decode b_Mod_roll 46 = .ok (.ifCond .ne 10, 3) := by decide +kernel
theorem d_Mod_roll_49 : decode b_Mod_roll 49 = .ok (.iconst (-1), 1) := by decide +kernel
theorem d_Mod_roll_50 : decode b_Mod_roll 50 = .ok (.aload_n 0, 1) := by decide +kernel
theorem d_Mod_roll_51 : decode b_Mod_roll 51 = .ok (.getfield 163, 3) := by decide +kernel
theorem d_Mod_roll_54 : decode b_Mod_roll 54 = .ok (.isub, 1) := by decide +kernel
theorem d_Mod_roll_55 : decode b_Mod_roll 55 = .ok (.ireturn, 1) := by decide +kernel
theorem d_Mod_roll_56 : decode b_Mod_roll 56 = .ok (.aload_n 0, 1) := by decide +kernel
theorem d_Mod_roll_57 : decode b_Mod_roll 57 = .ok (.dup, 1) := by decide +kernel
theorem d_Mod_roll_58 : decode b_Mod_roll 58 = .ok (.getfield 296, 3) := by decide +kernel
theorem d_Mod_roll_61 : decode b_Mod_roll 61 = .ok (.iconst 1, 1) := by decide +kernel
theorem d_Mod_roll_62 : decode b_Mod_roll 62 = .ok (.iadd, 1) := by decide +kernel
theorem d_Mod_roll_63 : decode b_Mod_roll 63 = .ok (.putfield 296, 3) := by decide +kernel
theorem d_Mod_roll_66 : decode b_Mod_roll 66 = .ok (.goto (-40), 3) := by decide +kernel
theorem d_Mod_roll_69 : decode b_Mod_roll 69 = .ok (.aload_n 0, 1) := by decide +kernel
theorem d_Mod_roll_70 : decode b_Mod_roll 70 = .ok (.getfield 40, 3) := by decide +kernel
theorem d_Mod_roll_73 : decode b_Mod_roll 73 = .ok (.iconst 0, 1) := by decide +kernel
theorem d_Mod_roll_74 : decode b_Mod_roll 74 = .ok (.aload_n 0, 1) := by decide +kernel
theorem d_Mod_roll_75 : decode b_Mod_roll 75 = .ok (.getfield 296, 3) := by decide +kernel
theorem d_Mod_roll_78 : decode b_Mod_roll 78 = .ok (.iastore, 1) := by decide +kernel
theorem d_Mod_roll_79 : decode b_Mod_roll 79 = .ok (.iconst 0, 1) := by decide +kernel
theorem d_Mod_roll_80 : decode b_Mod_roll 80 = .ok (.istore_n 1, 1) := by decide +kernel
theorem d_Mod_roll_81 : decode b_Mod_roll 81 = .ok (.iload_n 1, 1) := by decide +kernel
theorem d_Mod_roll_82 : decode b_Mod_roll 82 = .ok (.iconst 3, 1) := by decide +kernel
theorem d_Mod_roll_83 : decode b_Mod_roll 83 = .ok (.aload_n 0, 1) := by decide +kernel
theorem d_Mod_roll_84 : decode b_Mod_roll 84 = .ok (.getfield 296, 3) := by decide +kernel
theorem d_Mod_roll_87 : decode b_Mod_roll 87 = .ok (.imul, 1) := by decide +kernel
theorem d_Mod_roll_88 : decode b_Mod_roll 88 = .ok (.if_icmp .gt 25, 3) := by decide +kernel
theorem d_Mod_roll_91 : decode b_Mod_roll 91 = .ok (.aload_n 0, 1) := by decide +kernel
theorem d_Mod_roll_92 : decode b_Mod_roll 92 = .ok (.getfield 33, 3) := by decide +kernel
theorem d_Mod_roll_95 : decode b_Mod_roll 95 = .ok (.sipush 532, 3) := by decide +kernel
theorem d_Mod_roll_98 : decode b_Mod_roll 98 = .ok (.iload_n 1, 1) := by decide +kernel
theorem d_Mod_roll_99 : decode b_Mod_roll 99 = .ok (.iadd, 1) := by decide +kernel
theorem d_Mod_roll_100 : decode b_Mod_roll 100 = .ok (.aload_n 0, 1) := by decide +kernel
theorem d_Mod_roll_101 : decode b_Mod_roll 101 = .ok (.getfield 40, 3) := by decide +kernel
theorem d_Mod_roll_104 : decode b_Mod_roll 104 = .ok (.iload_n 1, 1) := by decide +kernel
theorem d_Mod_roll_105 : decode b_Mod_roll 105 = .ok (.iaload, 1) := by decide +kernel
theorem d_Mod_roll_106 : decode b_Mod_roll 106 = .ok (.iastore, 1) := by decide +kernel
theorem d_Mod_roll_107 : decode b_Mod_roll 107 = .ok (.iinc 1 1, 3) := by decide +kernel
theorem d_Mod_roll_110 : decode b_Mod_roll 110 = .ok (.goto (-29), 3) := by decide +kernel
theorem d_Mod_roll_113 : decode b_Mod_roll 113 = .ok (.aload_n 0, 1) := by decide +kernel
theorem d_Mod_roll_114 : decode b_Mod_roll 114 = .ok (.getfield 296, 3) := by decide +kernel
theorem d_Mod_roll_117 : decode b_Mod_roll 117 = .ok (.ireturn, 1) := by decide +kernel
noncomputable def f_Mod_roll_L26 (z : Nat → Nat) (o : Nat) (s26 : Mm) : Option ((Mm) ⊕ ((Int32 × Mm) ⊕ (Mm))) :=
  if (s26.1 o 11) = 0 then (
    some (.inr (.inr s26))
  ) else (
    (f_Mod_rollLine z s26 o).bind fun q34 =>
    if q34.1 = 0 then (
      some (.inr (.inl ((((-1) : Int32) - (q34.2.1 o 16)), q34.2)))
    ) else (
      (f_Mod_sign z q34.2 o (59 : Int32)).bind fun q43 =>
      if q43.1 = 0 then (
        some (.inr (.inl ((((-1) : Int32) - (q43.2.1 o 16)), q43.2)))
      ) else (
        mm_lt (kI q43.2 o 29 ((q43.2.1 o 29) + (1 : Int32))) fun m63 =>
        some (.inl m63)
      )
    )
  )
noncomputable def f_Mod_roll_L81 (z : Nat → Nat) (o : Nat) (s81 : Int32 × Mm) : Option ((Int32 × Mm) ⊕ (Mm)) :=
  if ((3 : Int32) * (s81.2.1 o 29)) < s81.1 then (
    some (.inr s81.2)
  ) else (
    (mm_ldI (s81.2.1 (o + 4)) (z (o + 4)) s81.1).bind fun x105 =>
    (mm_stI s81.2 (o + 2) (z (o + 2)) ((532 : Int32) + s81.1) x105).bind fun m106 =>
    mm_lt (s81.1 + (1 : Int32)) fun x107 =>
    some (.inl (x107, m106))
  )
noncomputable def f_Mod_roll (z : Nat → Nat) (σ : Mm) (o : Nat) : Option (Int32 × Mm) :=
  mm_lt (kI σ o 0 (0 : Int32)) fun m2 =>
  (f_Mod_taken z m2 o (400 : Int32)).bind fun q9 =>
  mm_lt (kI q9 o 15 (0 : Int32)) fun m14 =>
  mm_lt (kI m14 o 29 (0 : Int32)) fun m19 =>
  (f_Mod_next z m19 o).bind fun q23 =>
  (mm_lp (f_Mod_roll_L26 z o) q23).bind (Sum.elim (fun r9 => some r9) (fun x26_ =>
    (mm_stI x26_ (o + 4) (z (o + 4)) (0 : Int32) (x26_.1 o 29)).bind fun m78 =>
    (mm_lp (f_Mod_roll_L81 z o) ((0 : Int32), m78)).bind (fun q81 =>
      some ((q81.1 o 29), q81))))
set_option maxHeartbeats 4000000 in
set_option maxRecDepth 100000 in
theorem c_Mod_roll (l : Launch) {L : Ly} (hg : gd_ok L) {σ : Mm} {o : Nat} (k_o_0 : ly_k L o = 11) {res : Int32 × Mm} (hf0 : f_Mod_roll (ly_z L) σ o = some res) : CtI l y_Mod_roll b_Mod_roll 2 (some .int) rm_Mod_roll L [.ref (ly_a L o)] σ res.1 res.2 := by
  refine ct_i hg (by decide) (Nat.le_of_ble_eq_true rfl) ?_
  intro E A Q hE C hN
  subst hE
  have k_o_4 : ly_k L (o + 4) = 20 := gd_Mod_read hg k_o_0
  have k_o_2 : ly_k L (o + 2) = 20 := gd_Mod_s hg k_o_0
  unfold f_Mod_roll at hf0
  show GW E L A 2 0 0 Q σ 0 [(0, .ref (ly_a L o))] []
  refine gw_aload_n C 0 d_Mod_roll_0 rfl rfl ?_
  refine gw_iconst C (0 : Int32) d_Mod_roll_1 (by decide) ?_
  obtain ⟨m2, em2, hf0⟩ := mx_lt hf0
  refine gw_putI t_Mod C 0 d_Mod_roll_2 k_o_0 (by decide) i_Mod rfl rfl (by decide) qw_1165 rfl rfl t_Mod_ok n_Mod rfl (t_Mod_ok 0 (by decide)) rfl rfl em2 ?_
  refine gw_aload_n C 0 d_Mod_roll_5 rfl rfl ?_
  refine gw_sipush C (400 : Int32) d_Mod_roll_6 (by decide) ?_
  obtain ⟨q9, hq9, hf0⟩ := mx_bd hf0
  refine gw_callV C (c_Mod_taken _ hg k_o_0 hq9) d_Mod_roll_9 1 qw_1306 qw_1308 qs_37 qw_12 qw_1309 k_o_0 (by decide) rfl hd_Mod_taken rfl rfl (Nat.le_of_ble_eq_true rfl) ⟨rfl, rfl, Nat.le_of_ble_eq_true rfl, Nat.le_of_ble_eq_true rfl⟩ ⟨Nat.zero_le _, Nat.zero_le _⟩ ?_
  refine gw_aload_n C 0 d_Mod_roll_12 rfl rfl ?_
  refine gw_iconst C (0 : Int32) d_Mod_roll_13 (by decide) ?_
  obtain ⟨m14, em14, hf0⟩ := mx_lt hf0
  refine gw_putI t_Mod C 15 d_Mod_roll_14 k_o_0 (by decide) i_Mod rfl rfl (by decide) qw_1180 rfl rfl t_Mod_ok n_Mod rfl (t_Mod_ok 15 (by decide)) rfl rfl em14 ?_
  refine gw_aload_n C 0 d_Mod_roll_17 rfl rfl ?_
  refine gw_iconst C (0 : Int32) d_Mod_roll_18 (by decide) ?_
  obtain ⟨m19, em19, hf0⟩ := mx_lt hf0
  refine gw_putI t_Mod C 29 d_Mod_roll_19 k_o_0 (by decide) i_Mod rfl rfl (by decide) qw_1194 rfl rfl t_Mod_ok n_Mod rfl (t_Mod_ok 29 (by decide)) rfl rfl em19 ?_
  refine gw_aload_n C 0 d_Mod_roll_22 rfl rfl ?_
  obtain ⟨q23, hq23, hf0⟩ := mx_bd hf0
  refine gw_callV C (c_Mod_next _ hg k_o_0 hq23) d_Mod_roll_23 0 qw_1310 qw_1312 qs_38 qw_12 qw_1313 k_o_0 (by decide) rfl hd_Mod_next rfl rfl (Nat.le_of_ble_eq_true rfl) ⟨rfl, rfl, Nat.le_of_ble_eq_true rfl, Nat.le_of_ble_eq_true rfl⟩ ⟨Nat.zero_le _, Nat.zero_le _⟩ ?_
  obtain ⟨q26, hq26, hf0⟩ := mx_bd hf0
  have hk26 : ∀ x26_, q26 = .inr x26_ → GW E L A 2 0 0 Q x26_ 69 [(0, .ref (ly_a L o))] [] := by
    intro x26_ hx9
    subst hx9
    replace hf0 := mx_sr hf0
    refine gw_aload_n C 0 d_Mod_roll_69 rfl rfl ?_
    refine gw_getA C 8 d_Mod_roll_70 k_o_0 (by decide) i_Mod rfl rfl (by decide) qw_1173 rfl rfl (o + 4) rfl ?_
    refine gw_iconst C (0 : Int32) d_Mod_roll_73 (by decide) ?_
    refine gw_aload_n C 0 d_Mod_roll_74 rfl rfl ?_
    refine gw_getI C 29 d_Mod_roll_75 k_o_0 (by decide) i_Mod rfl rfl (by decide) qw_1194 rfl rfl ?_
    obtain ⟨m78, hm78, hf0⟩ := mx_bd hf0
    obtain ⟨gm78, em78⟩ := mx_stI hm78
    refine gw_iast C d_Mod_roll_78 k_o_4 gm78 em78 ?_
    refine gw_iconst C (0 : Int32) d_Mod_roll_79 (by decide) ?_
    refine gw_istore_n C [(1, .int (0 : Int32)), (0, .ref (ly_a L o))] d_Mod_roll_80 rfl (by decide) rfl ?_
    obtain ⟨q81, hq81, hf0⟩ := mx_bd hf0
    have hk81 : ∀ x9, q81 = x9 → GW E L A 2 0 0 Q x9 113 [(0, .ref (ly_a L o))] [] := by
      intro x9 hx9
      subst hx9
      refine gw_aload_n C 0 d_Mod_roll_113 rfl rfl ?_
      refine gw_getI C 29 d_Mod_roll_114 k_o_0 (by decide) i_Mod rfl rfl (by decide) qw_1194 rfl rfl ?_
      exact en_i hN hf0 d_Mod_roll_117
    refine gw_sub [1, 0] (lv' := [(0, .ref (ly_a L o)), (1, .int (0 : Int32))]) rfl ?_
    refine mm_rule hq81 (P := fun (s81 : Int32 × Mm) => GW E L A 2 0 0 Q s81.2 81 [(0, .ref (ly_a L o)), (1, .int s81.1)] []) ?_
    intro s81 ih81 hx81 ⟨w81, hb81⟩
    have hf1 := hb81
    unfold f_Mod_roll_L81 at hf1
    refine gw_iload_n C 1 d_Mod_roll_81 rfl rfl ?_
    refine gw_iconst C (3 : Int32) d_Mod_roll_82 (by decide) ?_
    refine gw_aload_n C 0 d_Mod_roll_83 rfl rfl ?_
    refine gw_getI C 29 d_Mod_roll_84 k_o_0 (by decide) i_Mod rfl rfl (by decide) qw_1194 rfl rfl ?_
    refine gw_imul C d_Mod_roll_87 ?_
    refine gw_icmp_gt C 113 d_Mod_roll_88 (by decide) (fun hc => ?_) (fun hc => ?_)
    · replace hf1 := mx_t hc hf1
      exact gw_go [0] (hk81 s81.2 (hx81 _ (hb81.trans hf1.symm)).symm) rfl
    · replace hf1 := mx_f hc hf1
      refine gw_aload_n C 0 d_Mod_roll_91 rfl rfl ?_
      refine gw_getA C 6 d_Mod_roll_92 k_o_0 (by decide) i_Mod rfl rfl (by decide) qw_1171 rfl rfl (o + 2) rfl ?_
      refine gw_sipush C (532 : Int32) d_Mod_roll_95 (by decide) ?_
      refine gw_iload_n C 1 d_Mod_roll_98 rfl rfl ?_
      refine gw_iadd C d_Mod_roll_99 ?_
      refine gw_aload_n C 0 d_Mod_roll_100 rfl rfl ?_
      refine gw_getA C 8 d_Mod_roll_101 k_o_0 (by decide) i_Mod rfl rfl (by decide) qw_1173 rfl rfl (o + 4) rfl ?_
      refine gw_iload_n C 1 d_Mod_roll_104 rfl rfl ?_
      obtain ⟨x105, hx105, hf1⟩ := mx_bd hf1
      obtain ⟨gx105, ex105⟩ := mx_ldI hx105
      refine gw_iald C d_Mod_roll_105 k_o_4 gx105 ex105 ?_
      obtain ⟨m106, hm106, hf1⟩ := mx_bd hf1
      obtain ⟨gm106, em106⟩ := mx_stI hm106
      refine gw_iast C d_Mod_roll_106 k_o_2 gm106 em106 ?_
      obtain ⟨x107, ex107, hf1⟩ := mx_lt hf1
      refine gw_iinc C 1 [(1, .int x107), (0, .ref (ly_a L o))] d_Mod_roll_107 rfl (by rw [ex107]; rfl) (by decide) rfl ?_
      refine gw_goto C 81 d_Mod_roll_110 (by decide) ?_
      exact gw_go [1, 0] (ih81 (x107, m106) (hb81.trans hf1.symm)) rfl
  refine gw_sub [0] (lv' := [(0, .ref (ly_a L o))]) rfl ?_
  refine mm_rule hq26 (P := fun (s26 : Mm) => GW E L A 2 0 0 Q s26 26 [(0, .ref (ly_a L o))] []) ?_
  intro s26 ih26 hx26 ⟨w26, hb26⟩
  have hf1 := hb26
  unfold f_Mod_roll_L26 at hf1
  refine gw_aload_n C 0 d_Mod_roll_26 rfl rfl ?_
  refine gw_getI C 11 d_Mod_roll_27 k_o_0 (by decide) i_Mod rfl rfl (by decide) qw_1176 rfl rfl ?_
  refine gw_if_eq C 69 d_Mod_roll_30 (by decide) (fun hc => ?_) (fun hc => ?_)
  · replace hf1 := mx_t hc hf1
    exact gw_go [0] (hk26 s26 (hx26 _ (hb26.trans hf1.symm)).symm) rfl
  · replace hf1 := mx_f hc hf1
    refine gw_aload_n C 0 d_Mod_roll_33 rfl rfl ?_
    obtain ⟨q34, hq34, hf1⟩ := mx_bd hf1
    refine gw_callI C (c_Mod_rollLine _ hg k_o_0 hq34) d_Mod_roll_34 0 qw_1569 qw_1571 qs_74 qw_12 qw_1572 k_o_0 (by decide) rfl hd_Mod_rollLine rfl rfl (Nat.le_of_ble_eq_true rfl) ⟨rfl, rfl, Nat.le_of_ble_eq_true rfl, Nat.le_of_ble_eq_true rfl⟩ ⟨Nat.zero_le _, Nat.zero_le _⟩ ?_
    refine gw_if_eq C 49 d_Mod_roll_37 (by decide) (fun hc => ?_) (fun hc => ?_)
    · replace hf1 := mx_t hc hf1
      refine gw_iconst C ((-1) : Int32) d_Mod_roll_49 (by decide) ?_
      refine gw_aload_n C 0 d_Mod_roll_50 rfl rfl ?_
      refine gw_getI C 16 d_Mod_roll_51 k_o_0 (by decide) i_Mod rfl rfl (by decide) qw_1181 rfl rfl ?_
      refine gw_isub C d_Mod_roll_54 ?_
      have hr26 := hx26 _ (hb26.trans hf1.symm)
      subst hr26
      replace hf0 := mx_sl hf0
      exact en_i hN hf0 d_Mod_roll_55
    · replace hf1 := mx_f hc hf1
      refine gw_aload_n C 0 d_Mod_roll_40 rfl rfl ?_
      refine gw_bipush C (59 : Int32) d_Mod_roll_41 (by decide) ?_
      obtain ⟨q43, hq43, hf1⟩ := mx_bd hf1
      refine gw_callI C (c_Mod_sign _ hg k_o_0 hq43) d_Mod_roll_43 1 qw_1378 qw_1380 qs_52 qw_12 qw_1381 k_o_0 (by decide) rfl hd_Mod_sign rfl rfl (Nat.le_of_ble_eq_true rfl) ⟨rfl, rfl, Nat.le_of_ble_eq_true rfl, Nat.le_of_ble_eq_true rfl⟩ ⟨Nat.zero_le _, Nat.zero_le _⟩ ?_
      refine gw_if_ne C 56 d_Mod_roll_46 (by decide) (fun hc => ?_) (fun hc => ?_)
      · replace hf1 := mx_f hc hf1
        refine gw_aload_n C 0 d_Mod_roll_56 rfl rfl ?_
        refine gw_dup C d_Mod_roll_57 rfl ?_
        refine gw_getI C 29 d_Mod_roll_58 k_o_0 (by decide) i_Mod rfl rfl (by decide) qw_1194 rfl rfl ?_
        refine gw_iconst C (1 : Int32) d_Mod_roll_61 (by decide) ?_
        refine gw_iadd C d_Mod_roll_62 ?_
        obtain ⟨m63, em63, hf1⟩ := mx_lt hf1
        refine gw_putI t_Mod C 29 d_Mod_roll_63 k_o_0 (by decide) i_Mod rfl rfl (by decide) qw_1194 rfl rfl t_Mod_ok n_Mod rfl (t_Mod_ok 29 (by decide)) rfl rfl em63 ?_
        refine gw_goto C 26 d_Mod_roll_66 (by decide) ?_
        exact gw_go [0] (ih26 m63 (hb26.trans hf1.symm)) rfl
      · replace hf1 := mx_t hc hf1
        refine gw_iconst C ((-1) : Int32) d_Mod_roll_49 (by decide) ?_
        refine gw_aload_n C 0 d_Mod_roll_50 rfl rfl ?_
        refine gw_getI C 16 d_Mod_roll_51 k_o_0 (by decide) i_Mod rfl rfl (by decide) qw_1181 rfl rfl ?_
        refine gw_isub C d_Mod_roll_54 ?_
        have hr26 := hx26 _ (hb26.trans hf1.symm)
        subst hr26
        replace hf0 := mx_sl hf0
        exact en_i hN hf0 d_Mod_roll_55

/-! NameHatModel.waysBy(II)I -/
abbrev b_Mod_waysBy : ByteArray := prog_14_method_76_code
def y_Mod_waysBy : MethodName := ⟨"NameHatModel", "waysBy", "(II)I"⟩
abbrev rm_Mod_waysBy : Room := { frames := 1, cells := 0, slots := 0, locals := 21 }
theorem hd_Mod_waysBy : y_Mod_waysBy.cls ≠ "java/lang/invoke/MethodHandle" ∧ y_Mod_waysBy.cls ≠ "java/lang/invoke/VarHandle" ∧ (parseMethodDescriptor y_Mod_waysBy.desc).map (fun d => d.parameters.length) = some 2 := by decide +kernel
theorem d_Mod_waysBy_0 : decode b_Mod_waysBy 0 = .ok (.iconst 0, 1) := by decide +kernel
theorem d_Mod_waysBy_1 : decode b_Mod_waysBy 1 = .ok (.istore_n 3, 1) := by decide +kernel
theorem d_Mod_waysBy_2 : decode b_Mod_waysBy 2 = .ok (.iload_n 3, 1) := by decide +kernel
theorem d_Mod_waysBy_3 : decode b_Mod_waysBy 3 = .ok (.aload_n 0, 1) := by decide +kernel
theorem d_Mod_waysBy_4 : decode b_Mod_waysBy 4 = .ok (.getfield 33, 3) := by decide +kernel
theorem d_Mod_waysBy_7 : decode b_Mod_waysBy 7 = .ok (.iconst 1, 1) := by decide +kernel
theorem d_Mod_waysBy_8 : decode b_Mod_waysBy 8 = .ok (.iaload, 1) := by decide +kernel
theorem d_Mod_waysBy_9 : decode b_Mod_waysBy 9 = .ok (.if_icmp .ge 134, 3) := by decide +kernel
theorem d_Mod_waysBy_12 : decode b_Mod_waysBy 12 = .ok (.aload_n 0, 1) := by decide +kernel
theorem d_Mod_waysBy_13 : decode b_Mod_waysBy 13 = .ok (.getfield 83, 3) := by decide +kernel
theorem d_Mod_waysBy_16 : decode b_Mod_waysBy 16 = .ok (.iload_n 3, 1) := by decide +kernel
theorem d_Mod_waysBy_17 : decode b_Mod_waysBy 17 = .ok (.iconst 1, 1) := by decide +kernel
theorem d_Mod_waysBy_18 : decode b_Mod_waysBy 18 = .ok (.aload_n 0, 1) := by decide +kernel
theorem d_Mod_waysBy_19 : decode b_Mod_waysBy 19 = .ok (.getfield 33, 3) := by decide +kernel
theorem d_Mod_waysBy_22 : decode b_Mod_waysBy 22 = .ok (.iconst 0, 1) := by decide +kernel
theorem d_Mod_waysBy_23 : decode b_Mod_waysBy 23 = .ok (.iaload, 1) := by decide +kernel
theorem d_Mod_waysBy_24 : decode b_Mod_waysBy 24 = .ok (.ishl, 1) := by decide +kernel
theorem d_Mod_waysBy_25 : decode b_Mod_waysBy 25 = .ok (.iconst 1, 1) := by decide +kernel
theorem d_Mod_waysBy_26 : decode b_Mod_waysBy 26 = .ok (.isub, 1) := by decide +kernel
theorem d_Mod_waysBy_27 : decode b_Mod_waysBy 27 = .ok (.iastore, 1) := by decide +kernel
theorem d_Mod_waysBy_28 : decode b_Mod_waysBy 28 = .ok (.iconst 0, 1) := by decide +kernel
theorem d_Mod_waysBy_29 : decode b_Mod_waysBy 29 = .ok (.istore 4, 2) := by decide +kernel
theorem d_Mod_waysBy_31 : decode b_Mod_waysBy 31 = .ok (.iload 4, 2) := by decide +kernel
theorem d_Mod_waysBy_33 : decode b_Mod_waysBy 33 = .ok (.aload_n 0, 1) := by decide +kernel
theorem d_Mod_waysBy_34 : decode b_Mod_waysBy 34 = .ok (.getfield 33, 3) := by decide +kernel
theorem d_Mod_waysBy_37 : decode b_Mod_waysBy 37 = .ok (.sipush 532, 3) := by decide +kernel
theorem d_Mod_waysBy_40 : decode b_Mod_waysBy 40 = .ok (.iaload, 1) := by decide +kernel
theorem d_Mod_waysBy_41 : decode b_Mod_waysBy 41 = .ok (.if_icmp .ge 79, 3) := by decide +kernel
theorem d_Mod_waysBy_44 : decode b_Mod_waysBy 44 = .ok (.sipush 533, 3) := by decide +kernel
theorem d_Mod_waysBy_47 : decode b_Mod_waysBy 47 = .ok (.iconst 3, 1) := by decide +kernel
theorem d_Mod_waysBy_48 : decode b_Mod_waysBy 48 = .ok (.iload 4, 2) := by decide +kernel
theorem d_Mod_waysBy_50 : decode b_Mod_waysBy 50 = .ok (.imul, 1) := by decide +kernel
theorem d_Mod_waysBy_51 : decode b_Mod_waysBy 51 = .ok (.iadd, 1) := by decide +kernel
theorem d_Mod_waysBy_52 : decode b_Mod_waysBy 52 = .ok (.istore 5, 2) := by decide +kernel
theorem d_Mod_waysBy_54 : decode b_Mod_waysBy 54 = .ok (.aload_n 0, 1) := by decide +kernel
theorem d_Mod_waysBy_55 : decode b_Mod_waysBy 55 = .ok (.getfield 33, 3) := by decide +kernel
theorem d_Mod_waysBy_58 : decode b_Mod_waysBy 58 = .ok (.iload 5, 2) := by decide +kernel
theorem d_Mod_waysBy_60 : decode b_Mod_waysBy 60 = .ok (.iaload, 1) := by decide +kernel
theorem d_Mod_waysBy_61 : decode b_Mod_waysBy 61 = .ok (.iload_n 3, 1) := by decide +kernel
theorem d_Mod_waysBy_62 : decode b_Mod_waysBy 62 = .ok (.if_icmp .ne 52, 3) := by decide +kernel
theorem d_Mod_waysBy_65 : decode b_Mod_waysBy 65 = .ok (.aload_n 0, 1) := by decide +kernel
theorem d_Mod_waysBy_66 : decode b_Mod_waysBy 66 = .ok (.getfield 83, 3) := by decide +kernel
theorem d_Mod_waysBy_69 : decode b_Mod_waysBy 69 = .ok (.iload_n 3, 1) := by decide +kernel
theorem d_Mod_waysBy_70 : decode b_Mod_waysBy 70 = .ok (.dup2, 1) := by decide +kernel
theorem d_Mod_waysBy_71 : decode b_Mod_waysBy 71 = .ok (.iaload, 1) := by decide +kernel
theorem d_Mod_waysBy_72 : decode b_Mod_waysBy 72 = .ok (.aload_n 0, 1) := by decide +kernel
theorem d_Mod_waysBy_73 : decode b_Mod_waysBy 73 = .ok (.getfield 33, 3) := by decide +kernel
theorem d_Mod_waysBy_76 : decode b_Mod_waysBy 76 = .ok (.iload 5, 2) := by decide +kernel
theorem d_Mod_waysBy_78 : decode b_Mod_waysBy 78 = .ok (.iconst 1, 1) := by decide +kernel
theorem d_Mod_waysBy_79 : decode b_Mod_waysBy 79 = .ok (.iadd, 1) := by decide +kernel
theorem d_Mod_waysBy_80 : decode b_Mod_waysBy 80 = .ok (.iaload, 1) := by decide +kernel
theorem d_Mod_waysBy_81 : decode b_Mod_waysBy 81 = .ok (.iconst 1, 1) := by decide +kernel
theorem d_Mod_waysBy_82 : decode b_Mod_waysBy 82 = .ok (.if_icmp .ne 17, 3) := by decide +kernel
theorem d_Mod_waysBy_85 : decode b_Mod_waysBy 85 = .ok (.iconst 1, 1) := by decide +kernel
theorem d_Mod_waysBy_86 : decode b_Mod_waysBy 86 = .ok (.aload_n 0, 1) := by decide +kernel
theorem d_Mod_waysBy_87 : decode b_Mod_waysBy 87 = .ok (.getfield 33, 3) := by decide +kernel
theorem d_Mod_waysBy_90 : decode b_Mod_waysBy 90 = .ok (.iload 5, 2) := by decide +kernel
theorem d_Mod_waysBy_92 : decode b_Mod_waysBy 92 = .ok (.iconst 2, 1) := by decide +kernel
theorem d_Mod_waysBy_93 : decode b_Mod_waysBy 93 = .ok (.iadd, 1) := by decide +kernel
theorem d_Mod_waysBy_94 : decode b_Mod_waysBy 94 = .ok (.iaload, 1) := by decide +kernel
theorem d_Mod_waysBy_95 : decode b_Mod_waysBy 95 = .ok (.ishl, 1) := by decide +kernel
theorem d_Mod_waysBy_96 : decode b_Mod_waysBy 96 = .ok (.goto 16, 3) := by decide +kernel
theorem d_Mod_waysBy_99 : decode b_Mod_waysBy 99 = .ok (.iconst 1, 1) := by decide +kernel
theorem d_Mod_waysBy_100 : decode b_Mod_waysBy 100 = .ok (.aload_n 0, 1) := by decide +kernel
theorem d_Mod_waysBy_101 : decode b_Mod_waysBy 101 = .ok (.getfield 33, 3) := by decide +kernel
theorem d_Mod_waysBy_104 : decode b_Mod_waysBy 104 = .ok (.iload 5, 2) := by decide +kernel
theorem d_Mod_waysBy_106 : decode b_Mod_waysBy 106 = .ok (.iconst 2, 1) := by decide +kernel
theorem d_Mod_waysBy_107 : decode b_Mod_waysBy 107 = .ok (.iadd, 1) := by decide +kernel
theorem d_Mod_waysBy_108 : decode b_Mod_waysBy 108 = .ok (.iaload, 1) := by decide +kernel
theorem d_Mod_waysBy_109 : decode b_Mod_waysBy 109 = .ok (.ishl, 1) := by decide +kernel
theorem d_Mod_waysBy_110 : decode b_Mod_waysBy 110 = .ok (.iconst (-1), 1) := by decide +kernel
theorem d_Mod_waysBy_111 : decode b_Mod_waysBy 111 = .ok (.ixor, 1) := by decide +kernel
theorem d_Mod_waysBy_112 : decode b_Mod_waysBy 112 = .ok (.iand, 1) := by decide +kernel
theorem d_Mod_waysBy_113 : decode b_Mod_waysBy 113 = .ok (.iastore, 1) := by decide +kernel
theorem d_Mod_waysBy_114 : decode b_Mod_waysBy 114 = .ok (.iinc 4 1, 3) := by decide +kernel
theorem d_Mod_waysBy_117 : decode b_Mod_waysBy 117 = .ok (.goto (-86), 3) := by decide +kernel
theorem d_Mod_waysBy_120 : decode b_Mod_waysBy 120 = .ok (.iload_n 3, 1) := by decide +kernel
theorem d_Mod_waysBy_121 : decode b_Mod_waysBy 121 = .ok (.iload_n 1, 1) := by decide +kernel
theorem d_Mod_waysBy_122 : decode b_Mod_waysBy 122 = .ok (.if_icmp .ne 15, 3) := by decide +kernel
theorem d_Mod_waysBy_125 : decode b_Mod_waysBy 125 = .ok (.aload_n 0, 1) := by decide +kernel
theorem d_Mod_waysBy_126 : decode b_Mod_waysBy 126 = .ok (.getfield 83, 3) := by decide +kernel
theorem d_Mod_waysBy_129 : decode b_Mod_waysBy 129 = .ok (.iload_n 3, 1) := by decide +kernel
theorem d_Mod_waysBy_130 : decode b_Mod_waysBy 130 = .ok (.dup2, 1) := by decide +kernel
theorem d_Mod_waysBy_131 : decode b_Mod_waysBy 131 = .ok (.iaload, 1) := by decide +kernel
theorem d_Mod_waysBy_132 : decode b_Mod_waysBy 132 = .ok (.iconst 1, 1) := by decide +kernel
theorem d_Mod_waysBy_133 : decode b_Mod_waysBy 133 = .ok (.iload_n 2, 1) := by decide +kernel
theorem d_Mod_waysBy_134 : decode b_Mod_waysBy 134 = .ok (.ishl, 1) := by decide +kernel
theorem d_Mod_waysBy_135 : decode b_Mod_waysBy 135 = .ok (.iand, 1) := by decide +kernel
theorem d_Mod_waysBy_136 : decode b_Mod_waysBy 136 = .ok (.iastore, 1) := by decide +kernel
theorem d_Mod_waysBy_137 : decode b_Mod_waysBy 137 = .ok (.iinc 3 1, 3) := by decide +kernel
theorem d_Mod_waysBy_140 : decode b_Mod_waysBy 140 = .ok (.goto (-138), 3) := by decide +kernel
theorem d_Mod_waysBy_143 : decode b_Mod_waysBy 143 = .ok (.iconst 1, 1) := by decide +kernel
theorem d_Mod_waysBy_144 : decode b_Mod_waysBy 144 = .ok (.aload_n 0, 1) := by decide +kernel
theorem d_Mod_waysBy_145 : decode b_Mod_waysBy 145 = .ok (.getfield 33, 3) := by decide +kernel
theorem d_Mod_waysBy_148 : decode b_Mod_waysBy 148 = .ok (.iconst 0, 1) := by decide +kernel
theorem d_Mod_waysBy_149 : decode b_Mod_waysBy 149 = .ok (.iaload, 1) := by decide +kernel
theorem d_Mod_waysBy_150 : decode b_Mod_waysBy 150 = .ok (.ishl, 1) := by decide +kernel
theorem d_Mod_waysBy_151 : decode b_Mod_waysBy 151 = .ok (.istore_n 3, 1) := by decide +kernel
theorem d_Mod_waysBy_152 : decode b_Mod_waysBy 152 = .ok (.iconst 0, 1) := by decide +kernel
theorem d_Mod_waysBy_153 : decode b_Mod_waysBy 153 = .ok (.istore 4, 2) := by decide +kernel
theorem d_Mod_waysBy_155 : decode b_Mod_waysBy 155 = .ok (.iload 4, 2) := by decide +kernel
theorem d_Mod_waysBy_157 : decode b_Mod_waysBy 157 = .ok (.iload_n 3, 1) := by decide +kernel
theorem d_Mod_waysBy_158 : decode b_Mod_waysBy 158 = .ok (.if_icmp .ge 26, 3) := by decide +kernel
theorem d_Mod_waysBy_161 : decode b_Mod_waysBy 161 = .ok (.aload_n 0, 1) := by decide +kernel
theorem d_Mod_waysBy_162 : decode b_Mod_waysBy 162 = .ok (.getfield 80, 3) := by decide +kernel
theorem d_Mod_waysBy_165 : decode b_Mod_waysBy 165 = .ok (.iload 4, 2) := by decide +kernel
theorem d_Mod_waysBy_167 : decode b_Mod_waysBy 167 = .ok (.iload 4, 2) := by decide +kernel
theorem d_Mod_waysBy_169 : decode b_Mod_waysBy 169 = .ok (.ifCond .ne 7, 3) := by decide +kernel
theorem d_Mod_waysBy_172 : decode b_Mod_waysBy 172 = .ok (.iconst 1, 1) := by decide +kernel
theorem d_Mod_waysBy_173 : decode b_Mod_waysBy 173 = .ok (.goto 4, 3) := by decide +kernel
theorem d_Mod_waysBy_176 : decode b_Mod_waysBy 176 = .ok (.iconst 0, 1) := by decide +kernel
theorem d_Mod_waysBy_177 : decode b_Mod_waysBy 177 = .ok (.iastore, 1) := by decide +kernel
theorem d_Mod_waysBy_178 : decode b_Mod_waysBy 178 = .ok (.iinc 4 1, 3) := by decide +kernel
theorem d_Mod_waysBy_181 : decode b_Mod_waysBy 181 = .ok (.goto (-26), 3) := by decide +kernel
theorem d_Mod_waysBy_184 : decode b_Mod_waysBy 184 = .ok (.iconst 0, 1) := by decide +kernel
theorem d_Mod_waysBy_185 : decode b_Mod_waysBy 185 = .ok (.istore 4, 2) := by decide +kernel
theorem d_Mod_waysBy_187 : decode b_Mod_waysBy 187 = .ok (.iload 4, 2) := by decide +kernel
theorem d_Mod_waysBy_189 : decode b_Mod_waysBy 189 = .ok (.aload_n 0, 1) := by decide +kernel
theorem d_Mod_waysBy_190 : decode b_Mod_waysBy 190 = .ok (.getfield 33, 3) := by decide +kernel
theorem d_Mod_waysBy_193 : decode b_Mod_waysBy 193 = .ok (.iconst 1, 1) := by decide +kernel
theorem d_Mod_waysBy_194 : decode b_Mod_waysBy 194 = .ok (.iaload, 1) := by decide +kernel
theorem d_Mod_waysBy_195 : decode b_Mod_waysBy 195 = .ok (.if_icmp .ge 103, 3) := by decide +kernel
theorem d_Mod_waysBy_198 : decode b_Mod_waysBy 198 = .ok (.iload_n 3, 1) := by decide +kernel
theorem d_Mod_waysBy_199 : decode b_Mod_waysBy 199 = .ok (.iconst 1, 1) := by decide +kernel
theorem d_Mod_waysBy_200 : decode b_Mod_waysBy 200 = .ok (.isub, 1) := by decide +kernel
theorem d_Mod_waysBy_201 : decode b_Mod_waysBy 201 = .ok (.istore 5, 2) := by decide +kernel
theorem d_Mod_waysBy_203 : decode b_Mod_waysBy 203 = .ok (.iload 5, 2) := by decide +kernel
theorem d_Mod_waysBy_205 : decode b_Mod_waysBy 205 = .ok (.ifCond .lt 87, 3) := by decide +kernel
theorem d_Mod_waysBy_208 : decode b_Mod_waysBy 208 = .ok (.iconst 0, 1) := by decide +kernel
theorem d_Mod_waysBy_209 : decode b_Mod_waysBy 209 = .ok (.istore 6, 2) := by decide +kernel
theorem d_Mod_waysBy_211 : decode b_Mod_waysBy 211 = .ok (.iconst 0, 1) := by decide +kernel
theorem d_Mod_waysBy_212 : decode b_Mod_waysBy 212 = .ok (.istore 7, 2) := by decide +kernel
theorem d_Mod_waysBy_214 : decode b_Mod_waysBy 214 = .ok (.iload 7, 2) := by decide +kernel
theorem d_Mod_waysBy_216 : decode b_Mod_waysBy 216 = .ok (.aload_n 0, 1) := by decide +kernel
theorem d_Mod_waysBy_217 : decode b_Mod_waysBy 217 = .ok (.getfield 33, 3) := by decide +kernel
theorem d_Mod_waysBy_220 : decode b_Mod_waysBy 220 = .ok (.iconst 0, 1) := by decide +kernel
theorem d_Mod_waysBy_221 : decode b_Mod_waysBy 221 = .ok (.iaload, 1) := by decide +kernel
theorem d_Mod_waysBy_222 : decode b_Mod_waysBy 222 = .ok (.if_icmp .ge 55, 3) := by decide +kernel
theorem d_Mod_waysBy_225 : decode b_Mod_waysBy 225 = .ok (.iload 6, 2) := by decide +kernel
theorem d_Mod_waysBy_227 : decode b_Mod_waysBy 227 = .ok (.iload 5, 2) := by decide +kernel
theorem d_Mod_waysBy_229 : decode b_Mod_waysBy 229 = .ok (.iload 7, 2) := by decide +kernel
theorem d_Mod_waysBy_231 : decode b_Mod_waysBy 231 = .ok (.invokestatic 217, 3) := by decide +kernel
theorem d_Mod_waysBy_234 : decode b_Mod_waysBy 234 = .ok (.ifCond .eq 33, 3) := by decide +kernel
theorem d_Mod_waysBy_237 : decode b_Mod_waysBy 237 = .ok (.aload_n 0, 1) := by decide +kernel
theorem d_Mod_waysBy_238 : decode b_Mod_waysBy 238 = .ok (.getfield 83, 3) := by decide +kernel
theorem d_Mod_waysBy_241 : decode b_Mod_waysBy 241 = .ok (.iload 4, 2) := by decide +kernel
theorem d_Mod_waysBy_243 : decode b_Mod_waysBy 243 = .ok (.iaload, 1) := by decide +kernel
theorem d_Mod_waysBy_244 : decode b_Mod_waysBy 244 = .ok (.iload 7, 2) := by decide +kernel
theorem d_Mod_waysBy_246 : decode b_Mod_waysBy 246 = .ok (.invokestatic 217, 3) := by decide +kernel
theorem d_Mod_waysBy_249 : decode b_Mod_waysBy 249 = .ok (.ifCond .eq 18, 3) := by decide +kernel
theorem d_Mod_waysBy_252 : decode b_Mod_waysBy 252 = .ok (.aload_n 0, 1) := by decide +kernel
theorem d_Mod_waysBy_253 : decode b_Mod_waysBy 253 = .ok (.getfield 80, 3) := by decide +kernel
theorem d_Mod_waysBy_256 : decode b_Mod_waysBy 256 = .ok (.iload 5, 2) := by decide +kernel
theorem d_Mod_waysBy_258 : decode b_Mod_waysBy 258 = .ok (.iconst 1, 1) := by decide +kernel
theorem d_Mod_waysBy_259 : decode b_Mod_waysBy 259 = .ok (.iload 7, 2) := by decide +kernel
theorem d_Mod_waysBy_261 : decode b_Mod_waysBy 261 = .ok (.ishl, 1) := by decide +kernel
theorem d_Mod_waysBy_262 : decode b_Mod_waysBy 262 = .ok (.ixor, 1) := by decide +kernel
theorem d_Mod_waysBy_263 : decode b_Mod_waysBy 263 = .ok (.iaload, 1) := by decide +kernel
theorem d_Mod_waysBy_264 : decode b_Mod_waysBy 264 = .ok (.goto 4, 3) := by decide +kernel
theorem d_Mod_waysBy_267 : decode b_Mod_waysBy 267 = .ok (.iconst 0, 1) := by decide +kernel
theorem d_Mod_waysBy_268 : decode b_Mod_waysBy 268 = .ok (.iadd, 1) := by decide +kernel
theorem d_Mod_waysBy_269 : decode b_Mod_waysBy 269 = .ok (.istore 6, 2) := by decide +kernel
theorem d_Mod_waysBy_271 : decode b_Mod_waysBy 271 = .ok (.iinc 7 1, 3) := by decide +kernel
theorem d_Mod_waysBy_274 : decode b_Mod_waysBy 274 = .ok (.goto (-60), 3) := by decide +kernel
theorem d_Mod_waysBy_277 : decode b_Mod_waysBy 277 = .ok (.aload_n 0, 1) := by decide +kernel
theorem d_Mod_waysBy_278 : decode b_Mod_waysBy 278 = .ok (.getfield 80, 3) := by decide +kernel
theorem d_Mod_waysBy_281 : decode b_Mod_waysBy 281 = .ok (.iload 5, 2) := by decide +kernel
theorem d_Mod_waysBy_283 : decode b_Mod_waysBy 283 = .ok (.iload 6, 2) := by decide +kernel
theorem d_Mod_waysBy_285 : decode b_Mod_waysBy 285 = .ok (.iastore, 1) := by decide +kernel
theorem d_Mod_waysBy_286 : decode b_Mod_waysBy 286 = .ok (.iinc 5 (-1), 3) := by decide +kernel
theorem d_Mod_waysBy_289 : decode b_Mod_waysBy 289 = .ok (.goto (-86), 3) := by decide +kernel
theorem d_Mod_waysBy_292 : decode b_Mod_waysBy 292 = .ok (.iinc 4 1, 3) := by decide +kernel
theorem d_Mod_waysBy_295 : decode b_Mod_waysBy 295 = .ok (.goto (-108), 3) := by decide +kernel
theorem d_Mod_waysBy_298 : decode b_Mod_waysBy 298 = .ok (.iconst 0, 1) := by decide +kernel
theorem d_Mod_waysBy_299 : decode b_Mod_waysBy 299 = .ok (.istore 4, 2) := by decide +kernel
theorem d_Mod_waysBy_301 : decode b_Mod_waysBy 301 = .ok (.iconst 0, 1) := by decide +kernel
theorem d_Mod_waysBy_302 : decode b_Mod_waysBy 302 = .ok (.istore 5, 2) := by decide +kernel
theorem d_Mod_waysBy_304 : decode b_Mod_waysBy 304 = .ok (.iload 5, 2) := by decide +kernel
theorem d_Mod_waysBy_306 : decode b_Mod_waysBy 306 = .ok (.iload_n 3, 1) := by decide +kernel
theorem d_Mod_waysBy_307 : decode b_Mod_waysBy 307 = .ok (.if_icmp .ge 21, 3) := by decide +kernel
theorem d_Mod_waysBy_310 : decode b_Mod_waysBy 310 = .ok (.iload 4, 2) := by decide +kernel
theorem d_Mod_waysBy_312 : decode b_Mod_waysBy 312 = .ok (.aload_n 0, 1) := by decide +kernel
theorem d_Mod_waysBy_313 : decode b_Mod_waysBy 313 = .ok (.getfield 80, 3) := by decide +kernel
theorem d_Mod_waysBy_316 : decode b_Mod_waysBy 316 = .ok (.iload 5, 2) := by decide +kernel
theorem d_Mod_waysBy_318 : decode b_Mod_waysBy 318 = .ok (.iaload, 1) := by decide +kernel
theorem d_Mod_waysBy_319 : decode b_Mod_waysBy 319 = .ok (.iadd, 1) := by decide +kernel
theorem d_Mod_waysBy_320 : decode b_Mod_waysBy 320 = .ok (.istore 4, 2) := by decide +kernel
theorem d_Mod_waysBy_322 : decode b_Mod_waysBy 322 = .ok (.iinc 5 1, 3) := by decide +kernel
theorem d_Mod_waysBy_325 : decode b_Mod_waysBy 325 = .ok (.goto (-21), 3) := by decide +kernel
theorem d_Mod_waysBy_328 : decode b_Mod_waysBy 328 = .ok (.iload 4, 2) := by decide +kernel
theorem d_Mod_waysBy_330 : decode b_Mod_waysBy 330 = .ok (.ireturn, 1) := by decide +kernel
noncomputable def f_Mod_waysBy_L31 (z : Nat → Nat) (o : Nat) (v1 : Int32) (v2 : Int32) (v3 : Int32) (s31 : Int32 × Mm) : Option ((Int32 × Mm) ⊕ (Mm)) :=
  (mm_ldI (s31.2.1 (o + 2)) (z (o + 2)) (532 : Int32)).bind fun x40 =>
  if x40 ≤ s31.1 then (
    some (.inr s31.2)
  ) else (
    mm_lt (((533 : Int32) + ((3 : Int32) * s31.1))) fun x52 =>
    (mm_ldI (s31.2.1 (o + 2)) (z (o + 2)) x52).bind fun x60 =>
    if x60 = v3 then (
      (mm_ldI (s31.2.1 (o + 16)) (z (o + 16)) v3).bind fun x71 =>
      (mm_ldI (s31.2.1 (o + 2)) (z (o + 2)) (x52 + (1 : Int32))).bind fun x80 =>
      if x80 = (1 : Int32) then (
        (mm_ldI (s31.2.1 (o + 2)) (z (o + 2)) (x52 + (2 : Int32))).bind fun x94 =>
        (mm_stI s31.2 (o + 16) (z (o + 16)) v3 (x71 &&& ((1 : Int32) <<< (x94 &&& 31)))).bind fun m113 =>
        mm_lt (s31.1 + (1 : Int32)) fun x114 =>
        some (.inl (x114, m113))
      ) else (
        (mm_ldI (s31.2.1 (o + 2)) (z (o + 2)) (x52 + (2 : Int32))).bind fun x108 =>
        (mm_stI s31.2 (o + 16) (z (o + 16)) v3 (x71 &&& (((1 : Int32) <<< (x108 &&& 31)) ^^^ ((-1) : Int32)))).bind fun m113 =>
        mm_lt (s31.1 + (1 : Int32)) fun x114 =>
        some (.inl (x114, m113))
      )
    ) else (
      mm_lt (s31.1 + (1 : Int32)) fun x114 =>
      some (.inl (x114, s31.2))
    )
  )
noncomputable def f_Mod_waysBy_L2 (z : Nat → Nat) (o : Nat) (v1 : Int32) (v2 : Int32) (s2 : Int32 × Mm) : Option ((Int32 × Mm) ⊕ (Mm)) :=
  (mm_ldI (s2.2.1 (o + 2)) (z (o + 2)) (1 : Int32)).bind fun x8 =>
  if x8 ≤ s2.1 then (
    some (.inr s2.2)
  ) else (
    (mm_ldI (s2.2.1 (o + 2)) (z (o + 2)) (0 : Int32)).bind fun x23 =>
    (mm_stI s2.2 (o + 16) (z (o + 16)) s2.1 (((1 : Int32) <<< (x23 &&& 31)) - (1 : Int32))).bind fun m27 =>
    (mm_lp (f_Mod_waysBy_L31 z o v1 v2 s2.1) ((0 : Int32), m27)).bind (fun q31 =>
      if s2.1 = v1 then (
        (mm_ldI (q31.1 (o + 16)) (z (o + 16)) s2.1).bind fun x131 =>
        (mm_stI q31 (o + 16) (z (o + 16)) s2.1 (x131 &&& ((1 : Int32) <<< (v2 &&& 31)))).bind fun m136 =>
        mm_lt (s2.1 + (1 : Int32)) fun x137 =>
        some (.inl (x137, m136))
      ) else (
        mm_lt (s2.1 + (1 : Int32)) fun x137 =>
        some (.inl (x137, q31))
      ))
  )
noncomputable def f_Mod_waysBy_L155 (z : Nat → Nat) (o : Nat) (v3 : Int32) (s155 : Int32 × Mm) : Option ((Int32 × Mm) ⊕ (Mm)) :=
  if v3 ≤ s155.1 then (
    some (.inr s155.2)
  ) else (
    if s155.1 = 0 then (
      (mm_stI s155.2 (o + 15) (z (o + 15)) s155.1 (1 : Int32)).bind fun m177 =>
      mm_lt (s155.1 + (1 : Int32)) fun x178 =>
      some (.inl (x178, m177))
    ) else (
      (mm_stI s155.2 (o + 15) (z (o + 15)) s155.1 (0 : Int32)).bind fun m177 =>
      mm_lt (s155.1 + (1 : Int32)) fun x178 =>
      some (.inl (x178, m177))
    )
  )
noncomputable def f_Mod_waysBy_L214 (z : Nat → Nat) (σ : Mm) (o : Nat) (v3 : Int32) (v4 : Int32) (v5 : Int32) (s214 : Int32 × Int32) : Option ((Int32 × Int32) ⊕ (Int32)) :=
  (mm_ldI (σ.1 (o + 2)) (z (o + 2)) (0 : Int32)).bind fun x221 =>
  if x221 ≤ s214.2 then (
    some (.inr s214.1)
  ) else (
    (f_Mod_has z σ v5 s214.2).bind fun q231 =>
    if q231 = 0 then (
      mm_lt ((s214.1 + (0 : Int32))) fun x269 =>
      mm_lt (s214.2 + (1 : Int32)) fun x271 =>
      some (.inl (x269, x271))
    ) else (
      (mm_ldI (σ.1 (o + 16)) (z (o + 16)) v4).bind fun x243 =>
      (f_Mod_has z σ x243 s214.2).bind fun q246 =>
      if q246 = 0 then (
        mm_lt ((s214.1 + (0 : Int32))) fun x269 =>
        mm_lt (s214.2 + (1 : Int32)) fun x271 =>
        some (.inl (x269, x271))
      ) else (
        (mm_ldI (σ.1 (o + 15)) (z (o + 15)) (v5 ^^^ ((1 : Int32) <<< (s214.2 &&& 31)))).bind fun x263 =>
        mm_lt ((s214.1 + x263)) fun x269 =>
        mm_lt (s214.2 + (1 : Int32)) fun x271 =>
        some (.inl (x269, x271))
      )
    )
  )
noncomputable def f_Mod_waysBy_L203 (z : Nat → Nat) (o : Nat) (v3 : Int32) (v4 : Int32) (s203 : Int32 × Mm) : Option ((Int32 × Mm) ⊕ (Mm)) :=
  if s203.1 < 0 then (
    some (.inr s203.2)
  ) else (
    (mm_lp (f_Mod_waysBy_L214 z s203.2 o v3 v4 s203.1) ((0 : Int32), (0 : Int32))).bind (fun q214 =>
      (mm_stI s203.2 (o + 15) (z (o + 15)) s203.1 q214).bind fun m285 =>
      mm_lt (s203.1 + ((-1) : Int32)) fun x286 =>
      some (.inl (x286, m285)))
  )
noncomputable def f_Mod_waysBy_L187 (z : Nat → Nat) (o : Nat) (v3 : Int32) (s187 : Int32 × Mm) : Option ((Int32 × Mm) ⊕ (Mm)) :=
  (mm_ldI (s187.2.1 (o + 2)) (z (o + 2)) (1 : Int32)).bind fun x194 =>
  if x194 ≤ s187.1 then (
    some (.inr s187.2)
  ) else (
    mm_lt ((v3 - (1 : Int32))) fun x201 =>
    (mm_lp (f_Mod_waysBy_L203 z o v3 s187.1) (x201, s187.2)).bind (fun q203 =>
      mm_lt (s187.1 + (1 : Int32)) fun x292 =>
      some (.inl (x292, q203)))
  )
noncomputable def f_Mod_waysBy_L304 (z : Nat → Nat) (σ : Mm) (o : Nat) (v3 : Int32) (s304 : Int32 × Int32) : Option ((Int32 × Int32) ⊕ (Int32)) :=
  if v3 ≤ s304.2 then (
    some (.inr s304.1)
  ) else (
    (mm_ldI (σ.1 (o + 15)) (z (o + 15)) s304.2).bind fun x318 =>
    mm_lt ((s304.1 + x318)) fun x320 =>
    mm_lt (s304.2 + (1 : Int32)) fun x322 =>
    some (.inl (x320, x322))
  )
noncomputable def f_Mod_waysBy (z : Nat → Nat) (σ : Mm) (o : Nat) (p1 : Int32) (p2 : Int32) : Option (Int32 × Mm) :=
  (mm_lp (f_Mod_waysBy_L2 z o p1 p2) ((0 : Int32), σ)).bind (fun q2 =>
    (mm_ldI (q2.1 (o + 2)) (z (o + 2)) (0 : Int32)).bind fun x149 =>
    mm_lt (((1 : Int32) <<< (x149 &&& 31))) fun x151 =>
    (mm_lp (f_Mod_waysBy_L155 z o x151) ((0 : Int32), q2)).bind (fun q155 =>
      (mm_lp (f_Mod_waysBy_L187 z o x151) ((0 : Int32), q155)).bind (fun q187 =>
        (mm_lp (f_Mod_waysBy_L304 z q187 o x151) ((0 : Int32), (0 : Int32))).bind (fun q304 =>
          some (q304, q187)))))
set_option maxHeartbeats 4000000 in
set_option maxRecDepth 100000 in
theorem c_Mod_waysBy (l : Launch) {L : Ly} (hg : gd_ok L) {σ : Mm} {o : Nat} {p1 : Int32} {p2 : Int32} (k_o_0 : ly_k L o = 11) {res : Int32 × Mm} (hf0 : f_Mod_waysBy (ly_z L) σ o p1 p2 = some res) : CtI l y_Mod_waysBy b_Mod_waysBy 8 (some .int) rm_Mod_waysBy L [.ref (ly_a L o), .int p1, .int p2] σ res.1 res.2 := by
  refine ct_i hg (by decide) (Nat.le_of_ble_eq_true rfl) ?_
  intro E A Q hE C hN
  subst hE
  have k_o_2 : ly_k L (o + 2) = 20 := gd_Mod_s hg k_o_0
  have k_o_16 : ly_k L (o + 16) = 20 := gd_Mod_may hg k_o_0
  have k_o_15 : ly_k L (o + 15) = 20 := gd_Mod_ways hg k_o_0
  unfold f_Mod_waysBy at hf0
  show GW E L A 8 0 0 Q σ 0 [(0, .ref (ly_a L o)), (1, .int p1), (2, .int p2)] []
  refine gw_iconst C (0 : Int32) d_Mod_waysBy_0 (by decide) ?_
  refine gw_istore_n C [(3, .int (0 : Int32)), (0, .ref (ly_a L o)), (1, .int p1), (2, .int p2)] d_Mod_waysBy_1 rfl (by decide) rfl ?_
  obtain ⟨q2, hq2, hf0⟩ := mx_bd hf0
  have hk2 : ∀ x9, q2 = x9 → GW E L A 8 0 0 Q x9 143 [(0, .ref (ly_a L o))] [] := by
    intro x9 hx9
    subst hx9
    refine gw_iconst C (1 : Int32) d_Mod_waysBy_143 (by decide) ?_
    refine gw_aload_n C 0 d_Mod_waysBy_144 rfl rfl ?_
    refine gw_getA C 6 d_Mod_waysBy_145 k_o_0 (by decide) i_Mod rfl rfl (by decide) qw_1171 rfl rfl (o + 2) rfl ?_
    refine gw_iconst C (0 : Int32) d_Mod_waysBy_148 (by decide) ?_
    obtain ⟨x149, hx149, hf0⟩ := mx_bd hf0
    obtain ⟨gx149, ex149⟩ := mx_ldI hx149
    refine gw_iald C d_Mod_waysBy_149 k_o_2 gx149 ex149 ?_
    refine gw_ishl C d_Mod_waysBy_150 ?_
    obtain ⟨x151, ex151, hf0⟩ := mx_lt hf0
    refine gw_topi ex151 ?_
    refine gw_istore_n C [(3, .int x151), (0, .ref (ly_a L o))] d_Mod_waysBy_151 rfl (by decide) rfl ?_
    refine gw_iconst C (0 : Int32) d_Mod_waysBy_152 (by decide) ?_
    refine gw_istore C [(4, .int (0 : Int32)), (3, .int x151), (0, .ref (ly_a L o))] d_Mod_waysBy_153 (by decide) rfl ?_
    obtain ⟨q155, hq155, hf0⟩ := mx_bd hf0
    have hk155 : ∀ x9, q155 = x9 → GW E L A 8 0 0 Q x9 184 [(0, .ref (ly_a L o)), (3, .int x151)] [] := by
      intro x9 hx9
      subst hx9
      refine gw_iconst C (0 : Int32) d_Mod_waysBy_184 (by decide) ?_
      refine gw_istore C [(4, .int (0 : Int32)), (0, .ref (ly_a L o)), (3, .int x151)] d_Mod_waysBy_185 (by decide) rfl ?_
      obtain ⟨q187, hq187, hf0⟩ := mx_bd hf0
      have hk187 : ∀ x9, q187 = x9 → GW E L A 8 0 0 Q x9 298 [(0, .ref (ly_a L o)), (3, .int x151)] [] := by
        intro x9 hx9
        subst hx9
        refine gw_iconst C (0 : Int32) d_Mod_waysBy_298 (by decide) ?_
        refine gw_istore C [(4, .int (0 : Int32)), (0, .ref (ly_a L o)), (3, .int x151)] d_Mod_waysBy_299 (by decide) rfl ?_
        refine gw_iconst C (0 : Int32) d_Mod_waysBy_301 (by decide) ?_
        refine gw_istore C [(5, .int (0 : Int32)), (4, .int (0 : Int32)), (0, .ref (ly_a L o)), (3, .int x151)] d_Mod_waysBy_302 (by decide) rfl ?_
        obtain ⟨q304, hq304, hf0⟩ := mx_bd hf0
        have hk304 : ∀ x9, q304 = x9 → GW E L A 8 0 0 Q q187 328 [(4, .int x9)] [] := by
          intro x9 hx9
          subst hx9
          refine gw_iload C 0 d_Mod_waysBy_328 rfl ?_
          exact en_i hN hf0 d_Mod_waysBy_330
        refine gw_sub [2, 3, 1, 0] (lv' := [(0, .ref (ly_a L o)), (3, .int x151), (4, .int (0 : Int32)), (5, .int (0 : Int32))]) rfl ?_
        refine mm_rule hq304 (P := fun (s304 : Int32 × Int32) => GW E L A 8 0 0 Q q187 304 [(0, .ref (ly_a L o)), (3, .int x151), (4, .int s304.1), (5, .int s304.2)] []) ?_
        intro s304 ih304 hx304 ⟨w304, hb304⟩
        have hf1 := hb304
        unfold f_Mod_waysBy_L304 at hf1
        refine gw_iload C 3 d_Mod_waysBy_304 rfl ?_
        refine gw_iload_n C 1 d_Mod_waysBy_306 rfl rfl ?_
        refine gw_icmp_ge C 328 d_Mod_waysBy_307 (by decide) (fun hc => ?_) (fun hc => ?_)
        · replace hf1 := mx_t hc hf1
          exact gw_go [2] (hk304 s304.1 (hx304 _ (hb304.trans hf1.symm)).symm) rfl
        · replace hf1 := mx_f hc hf1
          refine gw_iload C 2 d_Mod_waysBy_310 rfl ?_
          refine gw_aload_n C 0 d_Mod_waysBy_312 rfl rfl ?_
          refine gw_getA C 36 d_Mod_waysBy_313 k_o_0 (by decide) i_Mod rfl rfl (by decide) qw_1201 rfl rfl (o + 15) rfl ?_
          refine gw_iload C 3 d_Mod_waysBy_316 rfl ?_
          obtain ⟨x318, hx318, hf1⟩ := mx_bd hf1
          obtain ⟨gx318, ex318⟩ := mx_ldI hx318
          refine gw_iald C d_Mod_waysBy_318 k_o_15 gx318 ex318 ?_
          refine gw_iadd C d_Mod_waysBy_319 ?_
          obtain ⟨x320, ex320, hf1⟩ := mx_lt hf1
          refine gw_topi ex320 ?_
          refine gw_istore C [(4, .int x320), (0, .ref (ly_a L o)), (3, .int x151), (5, .int s304.2)] d_Mod_waysBy_320 (by decide) rfl ?_
          obtain ⟨x322, ex322, hf1⟩ := mx_lt hf1
          refine gw_iinc C 3 [(5, .int x322), (4, .int x320), (0, .ref (ly_a L o)), (3, .int x151)] d_Mod_waysBy_322 rfl (by rw [ex322]; rfl) (by decide) rfl ?_
          refine gw_goto C 304 d_Mod_waysBy_325 (by decide) ?_
          exact gw_go [2, 3, 1, 0] (ih304 (x320, x322) (hb304.trans hf1.symm)) rfl
      refine gw_sub [1, 2, 0] (lv' := [(0, .ref (ly_a L o)), (3, .int x151), (4, .int (0 : Int32))]) rfl ?_
      refine mm_rule hq187 (P := fun (s187 : Int32 × Mm) => GW E L A 8 0 0 Q s187.2 187 [(0, .ref (ly_a L o)), (3, .int x151), (4, .int s187.1)] []) ?_
      intro s187 ih187 hx187 ⟨w187, hb187⟩
      have hf1 := hb187
      unfold f_Mod_waysBy_L187 at hf1
      refine gw_iload C 2 d_Mod_waysBy_187 rfl ?_
      refine gw_aload_n C 0 d_Mod_waysBy_189 rfl rfl ?_
      refine gw_getA C 6 d_Mod_waysBy_190 k_o_0 (by decide) i_Mod rfl rfl (by decide) qw_1171 rfl rfl (o + 2) rfl ?_
      refine gw_iconst C (1 : Int32) d_Mod_waysBy_193 (by decide) ?_
      obtain ⟨x194, hx194, hf1⟩ := mx_bd hf1
      obtain ⟨gx194, ex194⟩ := mx_ldI hx194
      refine gw_iald C d_Mod_waysBy_194 k_o_2 gx194 ex194 ?_
      refine gw_icmp_ge C 298 d_Mod_waysBy_195 (by decide) (fun hc => ?_) (fun hc => ?_)
      · replace hf1 := mx_t hc hf1
        exact gw_go [0, 1] (hk187 s187.2 (hx187 _ (hb187.trans hf1.symm)).symm) rfl
      · replace hf1 := mx_f hc hf1
        refine gw_iload_n C 1 d_Mod_waysBy_198 rfl rfl ?_
        refine gw_iconst C (1 : Int32) d_Mod_waysBy_199 (by decide) ?_
        refine gw_isub C d_Mod_waysBy_200 ?_
        obtain ⟨x201, ex201, hf1⟩ := mx_lt hf1
        refine gw_topi ex201 ?_
        refine gw_istore C [(5, .int x201), (0, .ref (ly_a L o)), (3, .int x151), (4, .int s187.1)] d_Mod_waysBy_201 (by decide) rfl ?_
        obtain ⟨q203, hq203, hf1⟩ := mx_bd hf1
        have hk203 : ∀ x9, q203 = x9 → GW E L A 8 0 0 Q x9 292 [(0, .ref (ly_a L o)), (3, .int x151), (4, .int s187.1)] [] := by
          intro x9 hx9
          subst hx9
          obtain ⟨x292, ex292, hf1⟩ := mx_lt hf1
          refine gw_iinc C 2 [(4, .int x292), (0, .ref (ly_a L o)), (3, .int x151)] d_Mod_waysBy_292 rfl (by rw [ex292]; rfl) (by decide) rfl ?_
          refine gw_goto C 187 d_Mod_waysBy_295 (by decide) ?_
          exact gw_go [1, 2, 0] (ih187 (x292, q203) (hb187.trans hf1.symm)) rfl
        refine gw_sub [1, 2, 3, 0] (lv' := [(0, .ref (ly_a L o)), (3, .int x151), (4, .int s187.1), (5, .int x201)]) rfl ?_
        refine mm_rule hq203 (P := fun (s203 : Int32 × Mm) => GW E L A 8 0 0 Q s203.2 203 [(0, .ref (ly_a L o)), (3, .int x151), (4, .int s187.1), (5, .int s203.1)] []) ?_
        intro s203 ih203 hx203 ⟨w203, hb203⟩
        have hf2 := hb203
        unfold f_Mod_waysBy_L203 at hf2
        refine gw_iload C 3 d_Mod_waysBy_203 rfl ?_
        refine gw_if_lt C 292 d_Mod_waysBy_205 (by decide) (fun hc => ?_) (fun hc => ?_)
        · replace hf2 := mx_t hc hf2
          exact gw_go [0, 1, 2] (hk203 s203.2 (hx203 _ (hb203.trans hf2.symm)).symm) rfl
        · replace hf2 := mx_f hc hf2
          refine gw_iconst C (0 : Int32) d_Mod_waysBy_208 (by decide) ?_
          refine gw_istore C [(6, .int (0 : Int32)), (0, .ref (ly_a L o)), (3, .int x151), (4, .int s187.1), (5, .int s203.1)] d_Mod_waysBy_209 (by decide) rfl ?_
          refine gw_iconst C (0 : Int32) d_Mod_waysBy_211 (by decide) ?_
          refine gw_istore C [(7, .int (0 : Int32)), (6, .int (0 : Int32)), (0, .ref (ly_a L o)), (3, .int x151), (4, .int s187.1), (5, .int s203.1)] d_Mod_waysBy_212 (by decide) rfl ?_
          obtain ⟨q214, hq214, hf2⟩ := mx_bd hf2
          have hk214 : ∀ x9, q214 = x9 → GW E L A 8 0 0 Q s203.2 277 [(0, .ref (ly_a L o)), (3, .int x151), (4, .int s187.1), (5, .int s203.1), (6, .int x9)] [] := by
            intro x9 hx9
            subst hx9
            refine gw_aload_n C 0 d_Mod_waysBy_277 rfl rfl ?_
            refine gw_getA C 36 d_Mod_waysBy_278 k_o_0 (by decide) i_Mod rfl rfl (by decide) qw_1201 rfl rfl (o + 15) rfl ?_
            refine gw_iload C 3 d_Mod_waysBy_281 rfl ?_
            refine gw_iload C 4 d_Mod_waysBy_283 rfl ?_
            obtain ⟨m285, hm285, hf2⟩ := mx_bd hf2
            obtain ⟨gm285, em285⟩ := mx_stI hm285
            refine gw_iast C d_Mod_waysBy_285 k_o_15 gm285 em285 ?_
            obtain ⟨x286, ex286, hf2⟩ := mx_lt hf2
            refine gw_iinc C 3 [(5, .int x286), (0, .ref (ly_a L o)), (3, .int x151), (4, .int s187.1), (6, .int q214)] d_Mod_waysBy_286 rfl (by rw [ex286]; rfl) (by decide) rfl ?_
            refine gw_goto C 203 d_Mod_waysBy_289 (by decide) ?_
            exact gw_go [1, 2, 3, 0] (ih203 (x286, m285) (hb203.trans hf2.symm)) rfl
          refine gw_sub [2, 3, 4, 5, 1, 0] (lv' := [(0, .ref (ly_a L o)), (3, .int x151), (4, .int s187.1), (5, .int s203.1), (6, .int (0 : Int32)), (7, .int (0 : Int32))]) rfl ?_
          refine mm_rule hq214 (P := fun (s214 : Int32 × Int32) => GW E L A 8 0 0 Q s203.2 214 [(0, .ref (ly_a L o)), (3, .int x151), (4, .int s187.1), (5, .int s203.1), (6, .int s214.1), (7, .int s214.2)] []) ?_
          intro s214 ih214 hx214 ⟨w214, hb214⟩
          have hf3 := hb214
          unfold f_Mod_waysBy_L214 at hf3
          refine gw_iload C 5 d_Mod_waysBy_214 rfl ?_
          refine gw_aload_n C 0 d_Mod_waysBy_216 rfl rfl ?_
          refine gw_getA C 6 d_Mod_waysBy_217 k_o_0 (by decide) i_Mod rfl rfl (by decide) qw_1171 rfl rfl (o + 2) rfl ?_
          refine gw_iconst C (0 : Int32) d_Mod_waysBy_220 (by decide) ?_
          obtain ⟨x221, hx221, hf3⟩ := mx_bd hf3
          obtain ⟨gx221, ex221⟩ := mx_ldI hx221
          refine gw_iald C d_Mod_waysBy_221 k_o_2 gx221 ex221 ?_
          refine gw_icmp_ge C 277 d_Mod_waysBy_222 (by decide) (fun hc => ?_) (fun hc => ?_)
          · replace hf3 := mx_t hc hf3
            exact gw_go [0, 1, 2, 3, 4] (hk214 s214.1 (hx214 _ (hb214.trans hf3.symm)).symm) rfl
          · replace hf3 := mx_f hc hf3
            refine gw_iload C 4 d_Mod_waysBy_225 rfl ?_
            refine gw_iload C 3 d_Mod_waysBy_227 rfl ?_
            refine gw_iload C 5 d_Mod_waysBy_229 rfl ?_
            obtain ⟨q231, hq231, hf3⟩ := mx_bd hf3
            refine gw_callIS C (c_Mod_has _ hg hq231) d_Mod_waysBy_231 2 qw_1375 qw_1376 qw_12 qw_1377 hd_Mod_has rfl rfl (Nat.le_of_ble_eq_true rfl) ⟨rfl, rfl, Nat.le_of_ble_eq_true rfl, Nat.le_of_ble_eq_true rfl⟩ ⟨Nat.zero_le _, Nat.zero_le _⟩ ?_
            refine gw_if_eq C 267 d_Mod_waysBy_234 (by decide) (fun hc => ?_) (fun hc => ?_)
            · replace hf3 := mx_t hc hf3
              refine gw_iconst C (0 : Int32) d_Mod_waysBy_267 (by decide) ?_
              refine gw_iadd C d_Mod_waysBy_268 ?_
              obtain ⟨x269, ex269, hf3⟩ := mx_lt hf3
              refine gw_topi ex269 ?_
              refine gw_istore C [(6, .int x269), (0, .ref (ly_a L o)), (3, .int x151), (4, .int s187.1), (5, .int s203.1), (7, .int s214.2)] d_Mod_waysBy_269 (by decide) rfl ?_
              obtain ⟨x271, ex271, hf3⟩ := mx_lt hf3
              refine gw_iinc C 5 [(7, .int x271), (6, .int x269), (0, .ref (ly_a L o)), (3, .int x151), (4, .int s187.1), (5, .int s203.1)] d_Mod_waysBy_271 rfl (by rw [ex271]; rfl) (by decide) rfl ?_
              refine gw_goto C 214 d_Mod_waysBy_274 (by decide) ?_
              exact gw_go [2, 3, 4, 5, 1, 0] (ih214 (x269, x271) (hb214.trans hf3.symm)) rfl
            · replace hf3 := mx_f hc hf3
              refine gw_aload_n C 0 d_Mod_waysBy_237 rfl rfl ?_
              refine gw_getA C 37 d_Mod_waysBy_238 k_o_0 (by decide) i_Mod rfl rfl (by decide) qw_1202 rfl rfl (o + 16) rfl ?_
              refine gw_iload C 2 d_Mod_waysBy_241 rfl ?_
              obtain ⟨x243, hx243, hf3⟩ := mx_bd hf3
              obtain ⟨gx243, ex243⟩ := mx_ldI hx243
              refine gw_iald C d_Mod_waysBy_243 k_o_16 gx243 ex243 ?_
              refine gw_iload C 5 d_Mod_waysBy_244 rfl ?_
              obtain ⟨q246, hq246, hf3⟩ := mx_bd hf3
              refine gw_callIS C (c_Mod_has _ hg hq246) d_Mod_waysBy_246 2 qw_1375 qw_1376 qw_12 qw_1377 hd_Mod_has rfl rfl (Nat.le_of_ble_eq_true rfl) ⟨rfl, rfl, Nat.le_of_ble_eq_true rfl, Nat.le_of_ble_eq_true rfl⟩ ⟨Nat.zero_le _, Nat.zero_le _⟩ ?_
              refine gw_if_eq C 267 d_Mod_waysBy_249 (by decide) (fun hc => ?_) (fun hc => ?_)
              · replace hf3 := mx_t hc hf3
                refine gw_iconst C (0 : Int32) d_Mod_waysBy_267 (by decide) ?_
                refine gw_iadd C d_Mod_waysBy_268 ?_
                obtain ⟨x269, ex269, hf3⟩ := mx_lt hf3
                refine gw_topi ex269 ?_
                refine gw_istore C [(6, .int x269), (0, .ref (ly_a L o)), (3, .int x151), (4, .int s187.1), (5, .int s203.1), (7, .int s214.2)] d_Mod_waysBy_269 (by decide) rfl ?_
                obtain ⟨x271, ex271, hf3⟩ := mx_lt hf3
                refine gw_iinc C 5 [(7, .int x271), (6, .int x269), (0, .ref (ly_a L o)), (3, .int x151), (4, .int s187.1), (5, .int s203.1)] d_Mod_waysBy_271 rfl (by rw [ex271]; rfl) (by decide) rfl ?_
                refine gw_goto C 214 d_Mod_waysBy_274 (by decide) ?_
                exact gw_go [2, 3, 4, 5, 1, 0] (ih214 (x269, x271) (hb214.trans hf3.symm)) rfl
              · replace hf3 := mx_f hc hf3
                refine gw_aload_n C 0 d_Mod_waysBy_252 rfl rfl ?_
                refine gw_getA C 36 d_Mod_waysBy_253 k_o_0 (by decide) i_Mod rfl rfl (by decide) qw_1201 rfl rfl (o + 15) rfl ?_
                refine gw_iload C 3 d_Mod_waysBy_256 rfl ?_
                refine gw_iconst C (1 : Int32) d_Mod_waysBy_258 (by decide) ?_
                refine gw_iload C 5 d_Mod_waysBy_259 rfl ?_
                refine gw_ishl C d_Mod_waysBy_261 ?_
                refine gw_ixor C d_Mod_waysBy_262 ?_
                obtain ⟨x263, hx263, hf3⟩ := mx_bd hf3
                obtain ⟨gx263, ex263⟩ := mx_ldI hx263
                refine gw_iald C d_Mod_waysBy_263 k_o_15 gx263 ex263 ?_
                refine gw_goto C 268 d_Mod_waysBy_264 (by decide) ?_
                refine gw_iadd C d_Mod_waysBy_268 ?_
                obtain ⟨x269, ex269, hf3⟩ := mx_lt hf3
                refine gw_topi ex269 ?_
                refine gw_istore C [(6, .int x269), (0, .ref (ly_a L o)), (3, .int x151), (4, .int s187.1), (5, .int s203.1), (7, .int s214.2)] d_Mod_waysBy_269 (by decide) rfl ?_
                obtain ⟨x271, ex271, hf3⟩ := mx_lt hf3
                refine gw_iinc C 5 [(7, .int x271), (6, .int x269), (0, .ref (ly_a L o)), (3, .int x151), (4, .int s187.1), (5, .int s203.1)] d_Mod_waysBy_271 rfl (by rw [ex271]; rfl) (by decide) rfl ?_
                refine gw_goto C 214 d_Mod_waysBy_274 (by decide) ?_
                exact gw_go [2, 3, 4, 5, 1, 0] (ih214 (x269, x271) (hb214.trans hf3.symm)) rfl
    refine gw_sub [2, 1, 0] (lv' := [(0, .ref (ly_a L o)), (3, .int x151), (4, .int (0 : Int32))]) rfl ?_
    refine mm_rule hq155 (P := fun (s155 : Int32 × Mm) => GW E L A 8 0 0 Q s155.2 155 [(0, .ref (ly_a L o)), (3, .int x151), (4, .int s155.1)] []) ?_
    intro s155 ih155 hx155 ⟨w155, hb155⟩
    have hf1 := hb155
    unfold f_Mod_waysBy_L155 at hf1
    refine gw_iload C 2 d_Mod_waysBy_155 rfl ?_
    refine gw_iload_n C 1 d_Mod_waysBy_157 rfl rfl ?_
    refine gw_icmp_ge C 184 d_Mod_waysBy_158 (by decide) (fun hc => ?_) (fun hc => ?_)
    · replace hf1 := mx_t hc hf1
      exact gw_go [0, 1] (hk155 s155.2 (hx155 _ (hb155.trans hf1.symm)).symm) rfl
    · replace hf1 := mx_f hc hf1
      refine gw_aload_n C 0 d_Mod_waysBy_161 rfl rfl ?_
      refine gw_getA C 36 d_Mod_waysBy_162 k_o_0 (by decide) i_Mod rfl rfl (by decide) qw_1201 rfl rfl (o + 15) rfl ?_
      refine gw_iload C 2 d_Mod_waysBy_165 rfl ?_
      refine gw_iload C 2 d_Mod_waysBy_167 rfl ?_
      refine gw_if_ne C 176 d_Mod_waysBy_169 (by decide) (fun hc => ?_) (fun hc => ?_)
      · replace hf1 := mx_f hc hf1
        refine gw_iconst C (0 : Int32) d_Mod_waysBy_176 (by decide) ?_
        obtain ⟨m177, hm177, hf1⟩ := mx_bd hf1
        obtain ⟨gm177, em177⟩ := mx_stI hm177
        refine gw_iast C d_Mod_waysBy_177 k_o_15 gm177 em177 ?_
        obtain ⟨x178, ex178, hf1⟩ := mx_lt hf1
        refine gw_iinc C 2 [(4, .int x178), (0, .ref (ly_a L o)), (3, .int x151)] d_Mod_waysBy_178 rfl (by rw [ex178]; rfl) (by decide) rfl ?_
        refine gw_goto C 155 d_Mod_waysBy_181 (by decide) ?_
        exact gw_go [1, 2, 0] (ih155 (x178, m177) (hb155.trans hf1.symm)) rfl
      · replace hf1 := mx_t hc hf1
        refine gw_iconst C (1 : Int32) d_Mod_waysBy_172 (by decide) ?_
        refine gw_goto C 177 d_Mod_waysBy_173 (by decide) ?_
        obtain ⟨m177, hm177, hf1⟩ := mx_bd hf1
        obtain ⟨gm177, em177⟩ := mx_stI hm177
        refine gw_iast C d_Mod_waysBy_177 k_o_15 gm177 em177 ?_
        obtain ⟨x178, ex178, hf1⟩ := mx_lt hf1
        refine gw_iinc C 2 [(4, .int x178), (0, .ref (ly_a L o)), (3, .int x151)] d_Mod_waysBy_178 rfl (by rw [ex178]; rfl) (by decide) rfl ?_
        refine gw_goto C 155 d_Mod_waysBy_181 (by decide) ?_
        exact gw_go [1, 2, 0] (ih155 (x178, m177) (hb155.trans hf1.symm)) rfl
  refine gw_sub [1, 2, 3, 0] (lv' := [(0, .ref (ly_a L o)), (1, .int p1), (2, .int p2), (3, .int (0 : Int32))]) rfl ?_
  refine mm_rule hq2 (P := fun (s2 : Int32 × Mm) => GW E L A 8 0 0 Q s2.2 2 [(0, .ref (ly_a L o)), (1, .int p1), (2, .int p2), (3, .int s2.1)] []) ?_
  intro s2 ih2 hx2 ⟨w2, hb2⟩
  have hf1 := hb2
  unfold f_Mod_waysBy_L2 at hf1
  refine gw_iload_n C 3 d_Mod_waysBy_2 rfl rfl ?_
  refine gw_aload_n C 0 d_Mod_waysBy_3 rfl rfl ?_
  refine gw_getA C 6 d_Mod_waysBy_4 k_o_0 (by decide) i_Mod rfl rfl (by decide) qw_1171 rfl rfl (o + 2) rfl ?_
  refine gw_iconst C (1 : Int32) d_Mod_waysBy_7 (by decide) ?_
  obtain ⟨x8, hx8, hf1⟩ := mx_bd hf1
  obtain ⟨gx8, ex8⟩ := mx_ldI hx8
  refine gw_iald C d_Mod_waysBy_8 k_o_2 gx8 ex8 ?_
  refine gw_icmp_ge C 143 d_Mod_waysBy_9 (by decide) (fun hc => ?_) (fun hc => ?_)
  · replace hf1 := mx_t hc hf1
    exact gw_go [0] (hk2 s2.2 (hx2 _ (hb2.trans hf1.symm)).symm) rfl
  · replace hf1 := mx_f hc hf1
    refine gw_aload_n C 0 d_Mod_waysBy_12 rfl rfl ?_
    refine gw_getA C 37 d_Mod_waysBy_13 k_o_0 (by decide) i_Mod rfl rfl (by decide) qw_1202 rfl rfl (o + 16) rfl ?_
    refine gw_iload_n C 3 d_Mod_waysBy_16 rfl rfl ?_
    refine gw_iconst C (1 : Int32) d_Mod_waysBy_17 (by decide) ?_
    refine gw_aload_n C 0 d_Mod_waysBy_18 rfl rfl ?_
    refine gw_getA C 6 d_Mod_waysBy_19 k_o_0 (by decide) i_Mod rfl rfl (by decide) qw_1171 rfl rfl (o + 2) rfl ?_
    refine gw_iconst C (0 : Int32) d_Mod_waysBy_22 (by decide) ?_
    obtain ⟨x23, hx23, hf1⟩ := mx_bd hf1
    obtain ⟨gx23, ex23⟩ := mx_ldI hx23
    refine gw_iald C d_Mod_waysBy_23 k_o_2 gx23 ex23 ?_
    refine gw_ishl C d_Mod_waysBy_24 ?_
    refine gw_iconst C (1 : Int32) d_Mod_waysBy_25 (by decide) ?_
    refine gw_isub C d_Mod_waysBy_26 ?_
    obtain ⟨m27, hm27, hf1⟩ := mx_bd hf1
    obtain ⟨gm27, em27⟩ := mx_stI hm27
    refine gw_iast C d_Mod_waysBy_27 k_o_16 gm27 em27 ?_
    refine gw_iconst C (0 : Int32) d_Mod_waysBy_28 (by decide) ?_
    refine gw_istore C [(4, .int (0 : Int32)), (0, .ref (ly_a L o)), (1, .int p1), (2, .int p2), (3, .int s2.1)] d_Mod_waysBy_29 (by decide) rfl ?_
    obtain ⟨q31, hq31, hf1⟩ := mx_bd hf1
    have hk31 : ∀ x9, q31 = x9 → GW E L A 8 0 0 Q x9 120 [(0, .ref (ly_a L o)), (1, .int p1), (2, .int p2), (3, .int s2.1)] [] := by
      intro x9 hx9
      subst hx9
      refine gw_iload_n C 3 d_Mod_waysBy_120 rfl rfl ?_
      refine gw_iload_n C 1 d_Mod_waysBy_121 rfl rfl ?_
      refine gw_icmp_ne C 137 d_Mod_waysBy_122 (by decide) (fun hc => ?_) (fun hc => ?_)
      · replace hf1 := mx_f hc hf1
        obtain ⟨x137, ex137, hf1⟩ := mx_lt hf1
        refine gw_iinc C 3 [(3, .int x137), (0, .ref (ly_a L o)), (1, .int p1), (2, .int p2)] d_Mod_waysBy_137 rfl (by rw [ex137]; rfl) (by decide) rfl ?_
        refine gw_goto C 2 d_Mod_waysBy_140 (by decide) ?_
        exact gw_go [1, 2, 3, 0] (ih2 (x137, q31) (hb2.trans hf1.symm)) rfl
      · replace hf1 := mx_t hc hf1
        refine gw_aload_n C 0 d_Mod_waysBy_125 rfl rfl ?_
        refine gw_getA C 37 d_Mod_waysBy_126 k_o_0 (by decide) i_Mod rfl rfl (by decide) qw_1202 rfl rfl (o + 16) rfl ?_
        refine gw_iload_n C 3 d_Mod_waysBy_129 rfl rfl ?_
        refine gw_dup2 C d_Mod_waysBy_130 rfl rfl ?_
        obtain ⟨x131, hx131, hf1⟩ := mx_bd hf1
        obtain ⟨gx131, ex131⟩ := mx_ldI hx131
        refine gw_iald C d_Mod_waysBy_131 k_o_16 gx131 ex131 ?_
        refine gw_iconst C (1 : Int32) d_Mod_waysBy_132 (by decide) ?_
        refine gw_iload_n C 2 d_Mod_waysBy_133 rfl rfl ?_
        refine gw_ishl C d_Mod_waysBy_134 ?_
        refine gw_iand C d_Mod_waysBy_135 ?_
        obtain ⟨m136, hm136, hf1⟩ := mx_bd hf1
        obtain ⟨gm136, em136⟩ := mx_stI hm136
        refine gw_iast C d_Mod_waysBy_136 k_o_16 gm136 em136 ?_
        obtain ⟨x137, ex137, hf1⟩ := mx_lt hf1
        refine gw_iinc C 3 [(3, .int x137), (0, .ref (ly_a L o)), (1, .int p1), (2, .int p2)] d_Mod_waysBy_137 rfl (by rw [ex137]; rfl) (by decide) rfl ?_
        refine gw_goto C 2 d_Mod_waysBy_140 (by decide) ?_
        exact gw_go [1, 2, 3, 0] (ih2 (x137, m136) (hb2.trans hf1.symm)) rfl
    refine gw_sub [1, 2, 3, 4, 0] (lv' := [(0, .ref (ly_a L o)), (1, .int p1), (2, .int p2), (3, .int s2.1), (4, .int (0 : Int32))]) rfl ?_
    refine mm_rule hq31 (P := fun (s31 : Int32 × Mm) => GW E L A 8 0 0 Q s31.2 31 [(0, .ref (ly_a L o)), (1, .int p1), (2, .int p2), (3, .int s2.1), (4, .int s31.1)] []) ?_
    intro s31 ih31 hx31 ⟨w31, hb31⟩
    have hf2 := hb31
    unfold f_Mod_waysBy_L31 at hf2
    refine gw_iload C 4 d_Mod_waysBy_31 rfl ?_
    refine gw_aload_n C 0 d_Mod_waysBy_33 rfl rfl ?_
    refine gw_getA C 6 d_Mod_waysBy_34 k_o_0 (by decide) i_Mod rfl rfl (by decide) qw_1171 rfl rfl (o + 2) rfl ?_
    refine gw_sipush C (532 : Int32) d_Mod_waysBy_37 (by decide) ?_
    obtain ⟨x40, hx40, hf2⟩ := mx_bd hf2
    obtain ⟨gx40, ex40⟩ := mx_ldI hx40
    refine gw_iald C d_Mod_waysBy_40 k_o_2 gx40 ex40 ?_
    refine gw_icmp_ge C 120 d_Mod_waysBy_41 (by decide) (fun hc => ?_) (fun hc => ?_)
    · replace hf2 := mx_t hc hf2
      exact gw_go [0, 1, 2, 3] (hk31 s31.2 (hx31 _ (hb31.trans hf2.symm)).symm) rfl
    · replace hf2 := mx_f hc hf2
      refine gw_sipush C (533 : Int32) d_Mod_waysBy_44 (by decide) ?_
      refine gw_iconst C (3 : Int32) d_Mod_waysBy_47 (by decide) ?_
      refine gw_iload C 4 d_Mod_waysBy_48 rfl ?_
      refine gw_imul C d_Mod_waysBy_50 ?_
      refine gw_iadd C d_Mod_waysBy_51 ?_
      obtain ⟨x52, ex52, hf2⟩ := mx_lt hf2
      refine gw_topi ex52 ?_
      refine gw_istore C [(5, .int x52), (0, .ref (ly_a L o)), (1, .int p1), (2, .int p2), (3, .int s2.1), (4, .int s31.1)] d_Mod_waysBy_52 (by decide) rfl ?_
      refine gw_aload_n C 1 d_Mod_waysBy_54 rfl rfl ?_
      refine gw_getA C 6 d_Mod_waysBy_55 k_o_0 (by decide) i_Mod rfl rfl (by decide) qw_1171 rfl rfl (o + 2) rfl ?_
      refine gw_iload C 0 d_Mod_waysBy_58 rfl ?_
      obtain ⟨x60, hx60, hf2⟩ := mx_bd hf2
      obtain ⟨gx60, ex60⟩ := mx_ldI hx60
      refine gw_iald C d_Mod_waysBy_60 k_o_2 gx60 ex60 ?_
      refine gw_iload_n C 4 d_Mod_waysBy_61 rfl rfl ?_
      refine gw_icmp_ne C 114 d_Mod_waysBy_62 (by decide) (fun hc => ?_) (fun hc => ?_)
      · replace hf2 := mx_f hc hf2
        obtain ⟨x114, ex114, hf2⟩ := mx_lt hf2
        refine gw_iinc C 5 [(4, .int x114), (5, .int x52), (0, .ref (ly_a L o)), (1, .int p1), (2, .int p2), (3, .int s2.1)] d_Mod_waysBy_114 rfl (by rw [ex114]; rfl) (by decide) rfl ?_
        refine gw_goto C 31 d_Mod_waysBy_117 (by decide) ?_
        exact gw_go [2, 3, 4, 5, 0] (ih31 (x114, s31.2) (hb31.trans hf2.symm)) rfl
      · replace hf2 := mx_t hc hf2
        refine gw_aload_n C 1 d_Mod_waysBy_65 rfl rfl ?_
        refine gw_getA C 37 d_Mod_waysBy_66 k_o_0 (by decide) i_Mod rfl rfl (by decide) qw_1202 rfl rfl (o + 16) rfl ?_
        refine gw_iload_n C 4 d_Mod_waysBy_69 rfl rfl ?_
        refine gw_dup2 C d_Mod_waysBy_70 rfl rfl ?_
        obtain ⟨x71, hx71, hf2⟩ := mx_bd hf2
        obtain ⟨gx71, ex71⟩ := mx_ldI hx71
        refine gw_iald C d_Mod_waysBy_71 k_o_16 gx71 ex71 ?_
        refine gw_aload_n C 1 d_Mod_waysBy_72 rfl rfl ?_
        refine gw_getA C 6 d_Mod_waysBy_73 k_o_0 (by decide) i_Mod rfl rfl (by decide) qw_1171 rfl rfl (o + 2) rfl ?_
        refine gw_iload C 0 d_Mod_waysBy_76 rfl ?_
        refine gw_iconst C (1 : Int32) d_Mod_waysBy_78 (by decide) ?_
        refine gw_iadd C d_Mod_waysBy_79 ?_
        obtain ⟨x80, hx80, hf2⟩ := mx_bd hf2
        obtain ⟨gx80, ex80⟩ := mx_ldI hx80
        refine gw_iald C d_Mod_waysBy_80 k_o_2 gx80 ex80 ?_
        refine gw_iconst C (1 : Int32) d_Mod_waysBy_81 (by decide) ?_
        refine gw_icmp_ne C 99 d_Mod_waysBy_82 (by decide) (fun hc => ?_) (fun hc => ?_)
        · replace hf2 := mx_f hc hf2
          refine gw_iconst C (1 : Int32) d_Mod_waysBy_99 (by decide) ?_
          refine gw_aload_n C 1 d_Mod_waysBy_100 rfl rfl ?_
          refine gw_getA C 6 d_Mod_waysBy_101 k_o_0 (by decide) i_Mod rfl rfl (by decide) qw_1171 rfl rfl (o + 2) rfl ?_
          refine gw_iload C 0 d_Mod_waysBy_104 rfl ?_
          refine gw_iconst C (2 : Int32) d_Mod_waysBy_106 (by decide) ?_
          refine gw_iadd C d_Mod_waysBy_107 ?_
          obtain ⟨x108, hx108, hf2⟩ := mx_bd hf2
          obtain ⟨gx108, ex108⟩ := mx_ldI hx108
          refine gw_iald C d_Mod_waysBy_108 k_o_2 gx108 ex108 ?_
          refine gw_ishl C d_Mod_waysBy_109 ?_
          refine gw_iconst C ((-1) : Int32) d_Mod_waysBy_110 (by decide) ?_
          refine gw_ixor C d_Mod_waysBy_111 ?_
          refine gw_iand C d_Mod_waysBy_112 ?_
          obtain ⟨m113, hm113, hf2⟩ := mx_bd hf2
          obtain ⟨gm113, em113⟩ := mx_stI hm113
          refine gw_iast C d_Mod_waysBy_113 k_o_16 gm113 em113 ?_
          obtain ⟨x114, ex114, hf2⟩ := mx_lt hf2
          refine gw_iinc C 5 [(4, .int x114), (5, .int x52), (0, .ref (ly_a L o)), (1, .int p1), (2, .int p2), (3, .int s2.1)] d_Mod_waysBy_114 rfl (by rw [ex114]; rfl) (by decide) rfl ?_
          refine gw_goto C 31 d_Mod_waysBy_117 (by decide) ?_
          exact gw_go [2, 3, 4, 5, 0] (ih31 (x114, m113) (hb31.trans hf2.symm)) rfl
        · replace hf2 := mx_t hc hf2
          refine gw_iconst C (1 : Int32) d_Mod_waysBy_85 (by decide) ?_
          refine gw_aload_n C 1 d_Mod_waysBy_86 rfl rfl ?_
          refine gw_getA C 6 d_Mod_waysBy_87 k_o_0 (by decide) i_Mod rfl rfl (by decide) qw_1171 rfl rfl (o + 2) rfl ?_
          refine gw_iload C 0 d_Mod_waysBy_90 rfl ?_
          refine gw_iconst C (2 : Int32) d_Mod_waysBy_92 (by decide) ?_
          refine gw_iadd C d_Mod_waysBy_93 ?_
          obtain ⟨x94, hx94, hf2⟩ := mx_bd hf2
          obtain ⟨gx94, ex94⟩ := mx_ldI hx94
          refine gw_iald C d_Mod_waysBy_94 k_o_2 gx94 ex94 ?_
          refine gw_ishl C d_Mod_waysBy_95 ?_
          refine gw_goto C 112 d_Mod_waysBy_96 (by decide) ?_
          refine gw_iand C d_Mod_waysBy_112 ?_
          obtain ⟨m113, hm113, hf2⟩ := mx_bd hf2
          obtain ⟨gm113, em113⟩ := mx_stI hm113
          refine gw_iast C d_Mod_waysBy_113 k_o_16 gm113 em113 ?_
          obtain ⟨x114, ex114, hf2⟩ := mx_lt hf2
          refine gw_iinc C 5 [(4, .int x114), (5, .int x52), (0, .ref (ly_a L o)), (1, .int p1), (2, .int p2), (3, .int s2.1)] d_Mod_waysBy_114 rfl (by rw [ex114]; rfl) (by decide) rfl ?_
          refine gw_goto C 31 d_Mod_waysBy_117 (by decide) ?_
          exact gw_go [2, 3, 4, 5, 0] (ih31 (x114, m113) (hb31.trans hf2.symm)) rfl

/-! NameHatModel.dealings()I -/
abbrev b_Mod_dealings : ByteArray := prog_14_method_77_code
def y_Mod_dealings : MethodName := ⟨"NameHatModel", "dealings", "()I"⟩
abbrev rm_Mod_dealings : Room := { frames := 2, cells := 0, slots := 0, locals := 48 }
theorem hd_Mod_dealings : y_Mod_dealings.cls ≠ "java/lang/invoke/MethodHandle" ∧ y_Mod_dealings.cls ≠ "java/lang/invoke/VarHandle" ∧ (parseMethodDescriptor y_Mod_dealings.desc).map (fun d => d.parameters.length) = some 0 := by decide +kernel
theorem d_Mod_dealings_0 : decode b_Mod_dealings 0 = .ok (.aload_n 0, 1) := by decide +kernel
theorem d_Mod_dealings_1 : decode b_Mod_dealings 1 = .ok (.iconst 0, 1) := by decide +kernel
theorem d_Mod_dealings_2 : decode b_Mod_dealings 2 = .ok (.putfield 1, 3) := by decide +kernel
theorem d_Mod_dealings_5 : decode b_Mod_dealings 5 = .ok (.aload_n 0, 1) := by decide +kernel
theorem d_Mod_dealings_6 : decode b_Mod_dealings 6 = .ok (.iconst (-1), 1) := by decide +kernel
theorem d_Mod_dealings_7 : decode b_Mod_dealings 7 = .ok (.iconst 0, 1) := by decide +kernel
theorem d_Mod_dealings_8 : decode b_Mod_dealings 8 = .ok (.invokevirtual 330, 3) := by decide +kernel
theorem d_Mod_dealings_11 : decode b_Mod_dealings 11 = .ok (.ireturn, 1) := by decide +kernel
noncomputable def f_Mod_dealings (z : Nat → Nat) (σ : Mm) (o : Nat) : Option (Int32 × Mm) :=
  mm_lt (kI σ o 0 (0 : Int32)) fun m2 =>
  (f_Mod_waysBy z m2 o ((-1) : Int32) (0 : Int32)).bind fun q8 =>
  some (q8.1, q8.2)
set_option maxHeartbeats 4000000 in
set_option maxRecDepth 100000 in
theorem c_Mod_dealings (l : Launch) {L : Ly} (hg : gd_ok L) {σ : Mm} {o : Nat} (k_o_0 : ly_k L o = 11) {res : Int32 × Mm} (hf0 : f_Mod_dealings (ly_z L) σ o = some res) : CtI l y_Mod_dealings b_Mod_dealings 1 (some .int) rm_Mod_dealings L [.ref (ly_a L o)] σ res.1 res.2 := by
  refine ct_i hg (by decide) (Nat.le_of_ble_eq_true rfl) ?_
  intro E A Q hE C hN
  subst hE
  unfold f_Mod_dealings at hf0
  show GW E L A 1 0 0 Q σ 0 [(0, .ref (ly_a L o))] []
  refine gw_aload_n C 0 d_Mod_dealings_0 rfl rfl ?_
  refine gw_iconst C (0 : Int32) d_Mod_dealings_1 (by decide) ?_
  obtain ⟨m2, em2, hf0⟩ := mx_lt hf0
  refine gw_putI t_Mod C 0 d_Mod_dealings_2 k_o_0 (by decide) i_Mod rfl rfl (by decide) qw_1165 rfl rfl t_Mod_ok n_Mod rfl (t_Mod_ok 0 (by decide)) rfl rfl em2 ?_
  refine gw_aload_n C 0 d_Mod_dealings_5 rfl rfl ?_
  refine gw_iconst C ((-1) : Int32) d_Mod_dealings_6 (by decide) ?_
  refine gw_iconst C (0 : Int32) d_Mod_dealings_7 (by decide) ?_
  obtain ⟨q8, hq8, hf0⟩ := mx_bd hf0
  refine gw_callI C (c_Mod_waysBy _ hg k_o_0 hq8) d_Mod_dealings_8 2 qw_1577 qw_1579 qs_75 qw_12 qw_1580 k_o_0 (by decide) rfl hd_Mod_waysBy rfl rfl (Nat.le_of_ble_eq_true rfl) ⟨rfl, rfl, Nat.le_of_ble_eq_true rfl, Nat.le_of_ble_eq_true rfl⟩ ⟨Nat.zero_le _, Nat.zero_le _⟩ ?_
  exact en_i hN hf0 d_Mod_dealings_11

/-! NameHatModel.dealt(II)I -/
abbrev b_Mod_dealt : ByteArray := prog_14_method_78_code
def y_Mod_dealt : MethodName := ⟨"NameHatModel", "dealt", "(II)I"⟩
abbrev rm_Mod_dealt : Room := { frames := 2, cells := 0, slots := 0, locals := 48 }
theorem hd_Mod_dealt : y_Mod_dealt.cls ≠ "java/lang/invoke/MethodHandle" ∧ y_Mod_dealt.cls ≠ "java/lang/invoke/VarHandle" ∧ (parseMethodDescriptor y_Mod_dealt.desc).map (fun d => d.parameters.length) = some 2 := by decide +kernel
theorem d_Mod_dealt_0 : decode b_Mod_dealt 0 = .ok (.aload_n 0, 1) := by decide +kernel
theorem d_Mod_dealt_1 : decode b_Mod_dealt 1 = .ok (.iconst 0, 1) := by decide +kernel
theorem d_Mod_dealt_2 : decode b_Mod_dealt 2 = .ok (.putfield 1, 3) := by decide +kernel
theorem d_Mod_dealt_5 : decode b_Mod_dealt 5 = .ok (.aload_n 0, 1) := by decide +kernel
theorem d_Mod_dealt_6 : decode b_Mod_dealt 6 = .ok (.iload_n 1, 1) := by decide +kernel
theorem d_Mod_dealt_7 : decode b_Mod_dealt 7 = .ok (.invokevirtual 252, 3) := by decide +kernel
theorem d_Mod_dealt_10 : decode b_Mod_dealt 10 = .ok (.ifCond .eq 20, 3) := by decide +kernel
theorem d_Mod_dealt_13 : decode b_Mod_dealt 13 = .ok (.aload_n 0, 1) := by decide +kernel
theorem d_Mod_dealt_14 : decode b_Mod_dealt 14 = .ok (.iload_n 2, 1) := by decide +kernel
theorem d_Mod_dealt_15 : decode b_Mod_dealt 15 = .ok (.invokevirtual 241, 3) := by decide +kernel
theorem d_Mod_dealt_18 : decode b_Mod_dealt 18 = .ok (.ifCond .eq 12, 3) := by decide +kernel
theorem d_Mod_dealt_21 : decode b_Mod_dealt 21 = .ok (.aload_n 0, 1) := by decide +kernel
theorem d_Mod_dealt_22 : decode b_Mod_dealt 22 = .ok (.iload_n 1, 1) := by decide +kernel
theorem d_Mod_dealt_23 : decode b_Mod_dealt 23 = .ok (.iload_n 2, 1) := by decide +kernel
theorem d_Mod_dealt_24 : decode b_Mod_dealt 24 = .ok (.invokevirtual 330, 3) := by decide +kernel
theorem d_Mod_dealt_27 : decode b_Mod_dealt 27 = .ok (.goto 4, 3) := by decide +kernel
theorem d_Mod_dealt_30 : decode b_Mod_dealt 30 = .ok (.iconst (-1), 1) := by decide +kernel
theorem d_Mod_dealt_31 : decode b_Mod_dealt 31 = .ok (.ireturn, 1) := by decide +kernel
noncomputable def f_Mod_dealt (z : Nat → Nat) (σ : Mm) (o : Nat) (p1 : Int32) (p2 : Int32) : Option (Int32 × Mm) :=
  mm_lt (kI σ o 0 (0 : Int32)) fun m2 =>
  (f_Mod_isHouse z m2 o p1).bind fun q7 =>
  if q7 = 0 then (
    some (((-1) : Int32), m2)
  ) else (
    (f_Mod_isSurname z m2 o p2).bind fun q15 =>
    if q15 = 0 then (
      some (((-1) : Int32), m2)
    ) else (
      (f_Mod_waysBy z m2 o p1 p2).bind fun q24 =>
      some (q24.1, q24.2)
    )
  )
set_option maxHeartbeats 4000000 in
set_option maxRecDepth 100000 in
theorem c_Mod_dealt (l : Launch) {L : Ly} (hg : gd_ok L) {σ : Mm} {o : Nat} {p1 : Int32} {p2 : Int32} (k_o_0 : ly_k L o = 11) {res : Int32 × Mm} (hf0 : f_Mod_dealt (ly_z L) σ o p1 p2 = some res) : CtI l y_Mod_dealt b_Mod_dealt 3 (some .int) rm_Mod_dealt L [.ref (ly_a L o), .int p1, .int p2] σ res.1 res.2 := by
  refine ct_i hg (by decide) (Nat.le_of_ble_eq_true rfl) ?_
  intro E A Q hE C hN
  subst hE
  unfold f_Mod_dealt at hf0
  show GW E L A 3 0 0 Q σ 0 [(0, .ref (ly_a L o)), (1, .int p1), (2, .int p2)] []
  refine gw_aload_n C 0 d_Mod_dealt_0 rfl rfl ?_
  refine gw_iconst C (0 : Int32) d_Mod_dealt_1 (by decide) ?_
  obtain ⟨m2, em2, hf0⟩ := mx_lt hf0
  refine gw_putI t_Mod C 0 d_Mod_dealt_2 k_o_0 (by decide) i_Mod rfl rfl (by decide) qw_1165 rfl rfl t_Mod_ok n_Mod rfl (t_Mod_ok 0 (by decide)) rfl rfl em2 ?_
  refine gw_aload_n C 0 d_Mod_dealt_5 rfl rfl ?_
  refine gw_iload_n C 1 d_Mod_dealt_6 rfl rfl ?_
  obtain ⟨q7, hq7, hf0⟩ := mx_bd hf0
  refine gw_callI C (c_Mod_isHouse _ hg k_o_0 hq7) d_Mod_dealt_7 1 qw_1410 qw_1412 qs_57 qw_12 qw_1413 k_o_0 (by decide) rfl hd_Mod_isHouse rfl rfl (Nat.le_of_ble_eq_true rfl) ⟨rfl, rfl, Nat.le_of_ble_eq_true rfl, Nat.le_of_ble_eq_true rfl⟩ ⟨Nat.zero_le _, Nat.zero_le _⟩ ?_
  refine gw_if_eq C 30 d_Mod_dealt_10 (by decide) (fun hc => ?_) (fun hc => ?_)
  · replace hf0 := mx_t hc hf0
    refine gw_iconst C ((-1) : Int32) d_Mod_dealt_30 (by decide) ?_
    exact en_i hN hf0 d_Mod_dealt_31
  · replace hf0 := mx_f hc hf0
    refine gw_aload_n C 0 d_Mod_dealt_13 rfl rfl ?_
    refine gw_iload_n C 2 d_Mod_dealt_14 rfl rfl ?_
    obtain ⟨q15, hq15, hf0⟩ := mx_bd hf0
    refine gw_callI C (c_Mod_isSurname _ hg k_o_0 hq15) d_Mod_dealt_15 1 qw_1394 qw_1396 qs_54 qw_12 qw_1397 k_o_0 (by decide) rfl hd_Mod_isSurname rfl rfl (Nat.le_of_ble_eq_true rfl) ⟨rfl, rfl, Nat.le_of_ble_eq_true rfl, Nat.le_of_ble_eq_true rfl⟩ ⟨Nat.zero_le _, Nat.zero_le _⟩ ?_
    refine gw_if_eq C 30 d_Mod_dealt_18 (by decide) (fun hc => ?_) (fun hc => ?_)
    · replace hf0 := mx_t hc hf0
      refine gw_iconst C ((-1) : Int32) d_Mod_dealt_30 (by decide) ?_
      exact en_i hN hf0 d_Mod_dealt_31
    · replace hf0 := mx_f hc hf0
      refine gw_aload_n C 0 d_Mod_dealt_21 rfl rfl ?_
      refine gw_iload_n C 1 d_Mod_dealt_22 rfl rfl ?_
      refine gw_iload_n C 2 d_Mod_dealt_23 rfl rfl ?_
      obtain ⟨q24, hq24, hf0⟩ := mx_bd hf0
      refine gw_callI C (c_Mod_waysBy _ hg k_o_0 hq24) d_Mod_dealt_24 2 qw_1577 qw_1579 qs_75 qw_12 qw_1580 k_o_0 (by decide) rfl hd_Mod_waysBy rfl rfl (Nat.le_of_ble_eq_true rfl) ⟨rfl, rfl, Nat.le_of_ble_eq_true rfl, Nat.le_of_ble_eq_true rfl⟩ ⟨Nat.zero_le _, Nat.zero_le _⟩ ?_
      refine gw_goto C 31 d_Mod_dealt_27 (by decide) ?_
      exact en_i hN hf0 d_Mod_dealt_31

/-! NameHatModel.could(I)I -/
abbrev b_Mod_could : ByteArray := prog_14_method_79_code
def y_Mod_could : MethodName := ⟨"NameHatModel", "could", "(I)I"⟩
abbrev rm_Mod_could : Room := { frames := 2, cells := 0, slots := 0, locals := 48 }
theorem hd_Mod_could : y_Mod_could.cls ≠ "java/lang/invoke/MethodHandle" ∧ y_Mod_could.cls ≠ "java/lang/invoke/VarHandle" ∧ (parseMethodDescriptor y_Mod_could.desc).map (fun d => d.parameters.length) = some 1 := by decide +kernel
theorem d_Mod_could_0 : decode b_Mod_could 0 = .ok (.aload_n 0, 1) := by decide +kernel
theorem d_Mod_could_1 : decode b_Mod_could 1 = .ok (.iconst 0, 1) := by decide +kernel
theorem d_Mod_could_2 : decode b_Mod_could 2 = .ok (.putfield 1, 3) := by decide +kernel
theorem d_Mod_could_5 : decode b_Mod_could 5 = .ok (.aload_n 0, 1) := by decide +kernel
theorem d_Mod_could_6 : decode b_Mod_could 6 = .ok (.iload_n 1, 1) := by decide +kernel
theorem d_Mod_could_7 : decode b_Mod_could 7 = .ok (.invokevirtual 252, 3) := by decide +kernel
theorem d_Mod_could_10 : decode b_Mod_could 10 = .ok (.ifCond .ne 5, 3) := by decide +kernel
theorem d_Mod_could_13 : decode b_Mod_could 13 = .ok (.iconst (-1), 1) := by decide +kernel
theorem d_Mod_could_14 : decode b_Mod_could 14 = .ok (.ireturn, 1) := by decide +kernel
theorem d_Mod_could_15 : decode b_Mod_could 15 = .ok (.iconst 0, 1) := by decide +kernel
theorem d_Mod_could_16 : decode b_Mod_could 16 = .ok (.istore_n 2, 1) := by decide +kernel
theorem d_Mod_could_17 : decode b_Mod_could 17 = .ok (.iconst 0, 1) := by decide +kernel
theorem d_Mod_could_18 : decode b_Mod_could 18 = .ok (.istore_n 3, 1) := by decide +kernel
theorem d_Mod_could_19 : decode b_Mod_could 19 = .ok (.iload_n 3, 1) := by decide +kernel
theorem d_Mod_could_20 : decode b_Mod_could 20 = .ok (.aload_n 0, 1) := by decide +kernel
theorem d_Mod_could_21 : decode b_Mod_could 21 = .ok (.getfield 33, 3) := by decide +kernel
theorem d_Mod_could_24 : decode b_Mod_could 24 = .ok (.iconst 0, 1) := by decide +kernel
theorem d_Mod_could_25 : decode b_Mod_could 25 = .ok (.iaload, 1) := by decide +kernel
theorem d_Mod_could_26 : decode b_Mod_could 26 = .ok (.if_icmp .ge 28, 3) := by decide +kernel
theorem d_Mod_could_29 : decode b_Mod_could 29 = .ok (.iload_n 2, 1) := by decide +kernel
theorem d_Mod_could_30 : decode b_Mod_could 30 = .ok (.aload_n 0, 1) := by decide +kernel
theorem d_Mod_could_31 : decode b_Mod_could 31 = .ok (.iload_n 1, 1) := by decide +kernel
theorem d_Mod_could_32 : decode b_Mod_could 32 = .ok (.iload_n 3, 1) := by decide +kernel
theorem d_Mod_could_33 : decode b_Mod_could 33 = .ok (.invokevirtual 330, 3) := by decide +kernel
theorem d_Mod_could_36 : decode b_Mod_could 36 = .ok (.ifCond .le 9, 3) := by decide +kernel
theorem d_Mod_could_39 : decode b_Mod_could 39 = .ok (.iconst 1, 1) := by decide +kernel
theorem d_Mod_could_40 : decode b_Mod_could 40 = .ok (.iload_n 3, 1) := by decide +kernel
theorem d_Mod_could_41 : decode b_Mod_could 41 = .ok (.ishl, 1) := by decide +kernel
theorem d_Mod_could_42 : decode b_Mod_could 42 = .ok (.goto 4, 3) := by decide +kernel
theorem d_Mod_could_45 : decode b_Mod_could 45 = .ok (.iconst 0, 1) := by decide +kernel
theorem d_Mod_could_46 : decode b_Mod_could 46 = .ok (.ior, 1) := by decide +kernel
theorem d_Mod_could_47 : decode b_Mod_could 47 = .ok (.istore_n 2, 1) := by decide +kernel
theorem d_Mod_could_48 : decode b_Mod_could 48 = .ok (.iinc 3 1, 3) := by decide +kernel
theorem d_Mod_could_51 : decode b_Mod_could 51 = .ok (.goto (-32), 3) := by decide +kernel
theorem d_Mod_could_54 : decode b_Mod_could 54 = .ok (.iload_n 2, 1) := by decide +kernel
theorem d_Mod_could_55 : decode b_Mod_could 55 = .ok (.ireturn, 1) := by decide +kernel
noncomputable def f_Mod_could_L19 (z : Nat → Nat) (o : Nat) (v1 : Int32) (s19 : Int32 × Int32 × Mm) : Option ((Int32 × Int32 × Mm) ⊕ (Int32 × Mm)) :=
  (mm_ldI (s19.2.2.1 (o + 2)) (z (o + 2)) (0 : Int32)).bind fun x25 =>
  if x25 ≤ s19.2.1 then (
    some (.inr (s19.1, s19.2.2))
  ) else (
    (f_Mod_waysBy z s19.2.2 o v1 s19.2.1).bind fun q33 =>
    if q33.1 ≤ 0 then (
      mm_lt ((s19.1 ||| (0 : Int32))) fun x47 =>
      mm_lt (s19.2.1 + (1 : Int32)) fun x48 =>
      some (.inl (x47, x48, q33.2))
    ) else (
      mm_lt ((s19.1 ||| ((1 : Int32) <<< (s19.2.1 &&& 31)))) fun x47 =>
      mm_lt (s19.2.1 + (1 : Int32)) fun x48 =>
      some (.inl (x47, x48, q33.2))
    )
  )
noncomputable def f_Mod_could (z : Nat → Nat) (σ : Mm) (o : Nat) (p1 : Int32) : Option (Int32 × Mm) :=
  mm_lt (kI σ o 0 (0 : Int32)) fun m2 =>
  (f_Mod_isHouse z m2 o p1).bind fun q7 =>
  if q7 = 0 then (
    some (((-1) : Int32), m2)
  ) else (
    (mm_lp (f_Mod_could_L19 z o p1) ((0 : Int32), (0 : Int32), m2)).bind (fun q19 =>
      some (q19.1, q19.2))
  )
set_option maxHeartbeats 4000000 in
set_option maxRecDepth 100000 in
theorem c_Mod_could (l : Launch) {L : Ly} (hg : gd_ok L) {σ : Mm} {o : Nat} {p1 : Int32} (k_o_0 : ly_k L o = 11) {res : Int32 × Mm} (hf0 : f_Mod_could (ly_z L) σ o p1 = some res) : CtI l y_Mod_could b_Mod_could 4 (some .int) rm_Mod_could L [.ref (ly_a L o), .int p1] σ res.1 res.2 := by
  refine ct_i hg (by decide) (Nat.le_of_ble_eq_true rfl) ?_
  intro E A Q hE C hN
  subst hE
  have k_o_2 : ly_k L (o + 2) = 20 := gd_Mod_s hg k_o_0
  unfold f_Mod_could at hf0
  show GW E L A 4 0 0 Q σ 0 [(0, .ref (ly_a L o)), (1, .int p1)] []
  refine gw_aload_n C 0 d_Mod_could_0 rfl rfl ?_
  refine gw_iconst C (0 : Int32) d_Mod_could_1 (by decide) ?_
  obtain ⟨m2, em2, hf0⟩ := mx_lt hf0
  refine gw_putI t_Mod C 0 d_Mod_could_2 k_o_0 (by decide) i_Mod rfl rfl (by decide) qw_1165 rfl rfl t_Mod_ok n_Mod rfl (t_Mod_ok 0 (by decide)) rfl rfl em2 ?_
  refine gw_aload_n C 0 d_Mod_could_5 rfl rfl ?_
  refine gw_iload_n C 1 d_Mod_could_6 rfl rfl ?_
  obtain ⟨q7, hq7, hf0⟩ := mx_bd hf0
  refine gw_callI C (c_Mod_isHouse _ hg k_o_0 hq7) d_Mod_could_7 1 qw_1410 qw_1412 qs_57 qw_12 qw_1413 k_o_0 (by decide) rfl hd_Mod_isHouse rfl rfl (Nat.le_of_ble_eq_true rfl) ⟨rfl, rfl, Nat.le_of_ble_eq_true rfl, Nat.le_of_ble_eq_true rfl⟩ ⟨Nat.zero_le _, Nat.zero_le _⟩ ?_
  refine gw_if_ne C 15 d_Mod_could_10 (by decide) (fun hc => ?_) (fun hc => ?_)
  · replace hf0 := mx_f hc hf0
    refine gw_iconst C (0 : Int32) d_Mod_could_15 (by decide) ?_
    refine gw_istore_n C [(2, .int (0 : Int32)), (0, .ref (ly_a L o)), (1, .int p1)] d_Mod_could_16 rfl (by decide) rfl ?_
    refine gw_iconst C (0 : Int32) d_Mod_could_17 (by decide) ?_
    refine gw_istore_n C [(3, .int (0 : Int32)), (2, .int (0 : Int32)), (0, .ref (ly_a L o)), (1, .int p1)] d_Mod_could_18 rfl (by decide) rfl ?_
    obtain ⟨q19, hq19, hf0⟩ := mx_bd hf0
    have hk19 : ∀ x9, q19 = x9 → GW E L A 4 0 0 Q x9.2 54 [(2, .int x9.1)] [] := by
      intro x9 hx9
      subst hx9
      refine gw_iload_n C 0 d_Mod_could_54 rfl rfl ?_
      exact en_i hN hf0 d_Mod_could_55
    refine gw_sub [2, 3, 1, 0] (lv' := [(0, .ref (ly_a L o)), (1, .int p1), (2, .int (0 : Int32)), (3, .int (0 : Int32))]) rfl ?_
    refine mm_rule hq19 (P := fun (s19 : Int32 × Int32 × Mm) => GW E L A 4 0 0 Q s19.2.2 19 [(0, .ref (ly_a L o)), (1, .int p1), (2, .int s19.1), (3, .int s19.2.1)] []) ?_
    intro s19 ih19 hx19 ⟨w19, hb19⟩
    have hf1 := hb19
    unfold f_Mod_could_L19 at hf1
    refine gw_iload_n C 3 d_Mod_could_19 rfl rfl ?_
    refine gw_aload_n C 0 d_Mod_could_20 rfl rfl ?_
    refine gw_getA C 6 d_Mod_could_21 k_o_0 (by decide) i_Mod rfl rfl (by decide) qw_1171 rfl rfl (o + 2) rfl ?_
    refine gw_iconst C (0 : Int32) d_Mod_could_24 (by decide) ?_
    obtain ⟨x25, hx25, hf1⟩ := mx_bd hf1
    obtain ⟨gx25, ex25⟩ := mx_ldI hx25
    refine gw_iald C d_Mod_could_25 k_o_2 gx25 ex25 ?_
    refine gw_icmp_ge C 54 d_Mod_could_26 (by decide) (fun hc => ?_) (fun hc => ?_)
    · replace hf1 := mx_t hc hf1
      exact gw_go [2] (hk19 (s19.1, s19.2.2) (hx19 _ (hb19.trans hf1.symm)).symm) rfl
    · replace hf1 := mx_f hc hf1
      refine gw_iload_n C 2 d_Mod_could_29 rfl rfl ?_
      refine gw_aload_n C 0 d_Mod_could_30 rfl rfl ?_
      refine gw_iload_n C 1 d_Mod_could_31 rfl rfl ?_
      refine gw_iload_n C 3 d_Mod_could_32 rfl rfl ?_
      obtain ⟨q33, hq33, hf1⟩ := mx_bd hf1
      refine gw_callI C (c_Mod_waysBy _ hg k_o_0 hq33) d_Mod_could_33 2 qw_1577 qw_1579 qs_75 qw_12 qw_1580 k_o_0 (by decide) rfl hd_Mod_waysBy rfl rfl (Nat.le_of_ble_eq_true rfl) ⟨rfl, rfl, Nat.le_of_ble_eq_true rfl, Nat.le_of_ble_eq_true rfl⟩ ⟨Nat.zero_le _, Nat.zero_le _⟩ ?_
      refine gw_if_le C 45 d_Mod_could_36 (by decide) (fun hc => ?_) (fun hc => ?_)
      · replace hf1 := mx_t hc hf1
        refine gw_iconst C (0 : Int32) d_Mod_could_45 (by decide) ?_
        refine gw_ior C d_Mod_could_46 ?_
        obtain ⟨x47, ex47, hf1⟩ := mx_lt hf1
        refine gw_topi ex47 ?_
        refine gw_istore_n C [(2, .int x47), (0, .ref (ly_a L o)), (1, .int p1), (3, .int s19.2.1)] d_Mod_could_47 rfl (by decide) rfl ?_
        obtain ⟨x48, ex48, hf1⟩ := mx_lt hf1
        refine gw_iinc C 3 [(3, .int x48), (2, .int x47), (0, .ref (ly_a L o)), (1, .int p1)] d_Mod_could_48 rfl (by rw [ex48]; rfl) (by decide) rfl ?_
        refine gw_goto C 19 d_Mod_could_51 (by decide) ?_
        exact gw_go [2, 3, 1, 0] (ih19 (x47, x48, q33.2) (hb19.trans hf1.symm)) rfl
      · replace hf1 := mx_f hc hf1
        refine gw_iconst C (1 : Int32) d_Mod_could_39 (by decide) ?_
        refine gw_iload_n C 3 d_Mod_could_40 rfl rfl ?_
        refine gw_ishl C d_Mod_could_41 ?_
        refine gw_goto C 46 d_Mod_could_42 (by decide) ?_
        refine gw_ior C d_Mod_could_46 ?_
        obtain ⟨x47, ex47, hf1⟩ := mx_lt hf1
        refine gw_topi ex47 ?_
        refine gw_istore_n C [(2, .int x47), (0, .ref (ly_a L o)), (1, .int p1), (3, .int s19.2.1)] d_Mod_could_47 rfl (by decide) rfl ?_
        obtain ⟨x48, ex48, hf1⟩ := mx_lt hf1
        refine gw_iinc C 3 [(3, .int x48), (2, .int x47), (0, .ref (ly_a L o)), (1, .int p1)] d_Mod_could_48 rfl (by rw [ex48]; rfl) (by decide) rfl ?_
        refine gw_goto C 19 d_Mod_could_51 (by decide) ?_
        exact gw_go [2, 3, 1, 0] (ih19 (x47, x48, q33.2) (hb19.trans hf1.symm)) rfl
  · replace hf0 := mx_t hc hf0
    refine gw_iconst C ((-1) : Int32) d_Mod_could_13 (by decide) ?_
    exact en_i hN hf0 d_Mod_could_14

/-! NameHatModel.grave()I -/
abbrev b_Mod_grave : ByteArray := prog_14_method_80_code
def y_Mod_grave : MethodName := ⟨"NameHatModel", "grave", "()I"⟩
abbrev rm_Mod_grave : Room := { frames := 2, cells := 0, slots := 0, locals := 43 }
theorem hd_Mod_grave : y_Mod_grave.cls ≠ "java/lang/invoke/MethodHandle" ∧ y_Mod_grave.cls ≠ "java/lang/invoke/VarHandle" ∧ (parseMethodDescriptor y_Mod_grave.desc).map (fun d => d.parameters.length) = some 0 := by decide +kernel
theorem d_Mod_grave_0 : decode b_Mod_grave 0 = .ok (.aload_n 0, 1) := by decide +kernel
theorem d_Mod_grave_1 : decode b_Mod_grave 1 = .ok (.iconst 0, 1) := by decide +kernel
theorem d_Mod_grave_2 : decode b_Mod_grave 2 = .ok (.putfield 1, 3) := by decide +kernel
theorem d_Mod_grave_5 : decode b_Mod_grave 5 = .ok (.aload_n 0, 1) := by decide +kernel
theorem d_Mod_grave_6 : decode b_Mod_grave 6 = .ok (.sipush 940, 3) := by decide +kernel
theorem d_Mod_grave_9 : decode b_Mod_grave 9 = .ok (.invokevirtual 229, 3) := by decide +kernel
theorem d_Mod_grave_12 : decode b_Mod_grave 12 = .ok (.aload_n 0, 1) := by decide +kernel
theorem d_Mod_grave_13 : decode b_Mod_grave 13 = .ok (.getfield 18, 3) := by decide +kernel
theorem d_Mod_grave_16 : decode b_Mod_grave 16 = .ok (.iconst 2, 1) := by decide +kernel
theorem d_Mod_grave_17 : decode b_Mod_grave 17 = .ok (.irem, 1) := by decide +kernel
theorem d_Mod_grave_18 : decode b_Mod_grave 18 = .ok (.iconst 1, 1) := by decide +kernel
theorem d_Mod_grave_19 : decode b_Mod_grave 19 = .ok (.if_icmp .eq 12, 3) := by decide +kernel
theorem d_Mod_grave_22 : decode b_Mod_grave 22 = .ok (.aload_n 0, 1) := by decide +kernel
theorem d_Mod_grave_23 : decode b_Mod_grave 23 = .ok (.getfield 18, 3) := by decide +kernel
theorem d_Mod_grave_26 : decode b_Mod_grave 26 = .ok (.bipush 40, 2) := by decide +kernel
theorem d_Mod_grave_28 : decode b_Mod_grave 28 = .ok (.if_icmp .le 5, 3) := by decide +kernel
theorem d_Mod_grave_31 : decode b_Mod_grave 31 = .ok (.iconst (-1), 1) := by decide +kernel
theorem d_Mod_grave_32 : decode b_Mod_grave 32 = .ok (.ireturn, 1) := by decide +kernel
theorem d_Mod_grave_33 : decode b_Mod_grave 33 = .ok (.iconst 1, 1) := by decide +kernel
theorem d_Mod_grave_34 : decode b_Mod_grave 34 = .ok (.aload_n 0, 1) := by decide +kernel
theorem d_Mod_grave_35 : decode b_Mod_grave 35 = .ok (.getfield 33, 3) := by decide +kernel
theorem d_Mod_grave_38 : decode b_Mod_grave 38 = .ok (.iconst 1, 1) := by decide +kernel
theorem d_Mod_grave_39 : decode b_Mod_grave 39 = .ok (.iaload, 1) := by decide +kernel
theorem d_Mod_grave_40 : decode b_Mod_grave 40 = .ok (.ishl, 1) := by decide +kernel
theorem d_Mod_grave_41 : decode b_Mod_grave 41 = .ok (.iconst 1, 1) := by decide +kernel
theorem d_Mod_grave_42 : decode b_Mod_grave 42 = .ok (.isub, 1) := by decide +kernel
theorem d_Mod_grave_43 : decode b_Mod_grave 43 = .ok (.istore_n 1, 1) := by decide +kernel
theorem d_Mod_grave_44 : decode b_Mod_grave 44 = .ok (.iconst 1, 1) := by decide +kernel
theorem d_Mod_grave_45 : decode b_Mod_grave 45 = .ok (.istore_n 2, 1) := by decide +kernel
theorem d_Mod_grave_46 : decode b_Mod_grave 46 = .ok (.iconst 0, 1) := by decide +kernel
theorem d_Mod_grave_47 : decode b_Mod_grave 47 = .ok (.istore_n 3, 1) := by decide +kernel
theorem d_Mod_grave_48 : decode b_Mod_grave 48 = .ok (.iload_n 3, 1) := by decide +kernel
theorem d_Mod_grave_49 : decode b_Mod_grave 49 = .ok (.aload_n 0, 1) := by decide +kernel
theorem d_Mod_grave_50 : decode b_Mod_grave 50 = .ok (.getfield 18, 3) := by decide +kernel
theorem d_Mod_grave_53 : decode b_Mod_grave 53 = .ok (.if_icmp .ge 99, 3) := by decide +kernel
theorem d_Mod_grave_56 : decode b_Mod_grave 56 = .ok (.iload_n 2, 1) := by decide +kernel
theorem d_Mod_grave_57 : decode b_Mod_grave 57 = .ok (.ifCond .eq 33, 3) := by decide +kernel
theorem d_Mod_grave_60 : decode b_Mod_grave 60 = .ok (.aload_n 0, 1) := by decide +kernel
theorem d_Mod_grave_61 : decode b_Mod_grave 61 = .ok (.aload_n 0, 1) := by decide +kernel
theorem d_Mod_grave_62 : decode b_Mod_grave 62 = .ok (.iload_n 3, 1) := by decide +kernel
theorem d_Mod_grave_63 : decode b_Mod_grave 63 = .ok (.invokevirtual 333, 3) := by decide +kernel
theorem d_Mod_grave_66 : decode b_Mod_grave 66 = .ok (.invokevirtual 268, 3) := by decide +kernel
theorem d_Mod_grave_69 : decode b_Mod_grave 69 = .ok (.ifCond .eq 21, 3) := by decide +kernel
theorem d_Mod_grave_72 : decode b_Mod_grave 72 = .ok (.aload_n 0, 1) := by decide +kernel
theorem d_Mod_grave_73 : decode b_Mod_grave 73 = .ok (.aload_n 0, 1) := by decide +kernel
theorem d_Mod_grave_74 : decode b_Mod_grave 74 = .ok (.iload_n 3, 1) := by decide +kernel
theorem d_Mod_grave_75 : decode b_Mod_grave 75 = .ok (.iconst 1, 1) := by decide +kernel
theorem d_Mod_grave_76 : decode b_Mod_grave 76 = .ok (.iadd, 1) := by decide +kernel
theorem d_Mod_grave_77 : decode b_Mod_grave 77 = .ok (.invokevirtual 333, 3) := by decide +kernel
theorem d_Mod_grave_80 : decode b_Mod_grave 80 = .ok (.invokevirtual 241, 3) := by decide +kernel
theorem d_Mod_grave_83 : decode b_Mod_grave 83 = .ok (.ifCond .eq 7, 3) := by decide +kernel
theorem d_Mod_grave_86 : decode b_Mod_grave 86 = .ok (.iconst 1, 1) := by decide +kernel
theorem d_Mod_grave_87 : decode b_Mod_grave 87 = .ok (.goto 4, 3) := by decide +kernel
theorem d_Mod_grave_90 : decode b_Mod_grave 90 = .ok (.iconst 0, 1) := by decide +kernel
theorem d_Mod_grave_91 : decode b_Mod_grave 91 = .ok (.istore_n 2, 1) := by decide +kernel
theorem d_Mod_grave_92 : decode b_Mod_grave 92 = .ok (.iconst 0, 1) := by decide +kernel
theorem d_Mod_grave_93 : decode b_Mod_grave 93 = .ok (.istore 4, 2) := by decide +kernel
theorem d_Mod_grave_95 : decode b_Mod_grave 95 = .ok (.iload 4, 2) := by decide +kernel
theorem d_Mod_grave_97 : decode b_Mod_grave 97 = .ok (.aload_n 0, 1) := by decide +kernel
theorem d_Mod_grave_98 : decode b_Mod_grave 98 = .ok (.getfield 33, 3) := by decide +kernel
theorem d_Mod_grave_101 : decode b_Mod_grave 101 = .ok (.iconst 1, 1) := by decide +kernel
theorem d_Mod_grave_102 : decode b_Mod_grave 102 = .ok (.iaload, 1) := by decide +kernel
theorem d_Mod_grave_103 : decode b_Mod_grave 103 = .ok (.if_icmp .ge 43, 3) := by decide +kernel
theorem d_Mod_grave_106 : decode b_Mod_grave 106 = .ok (.iload_n 2, 1) := by decide +kernel
theorem d_Mod_grave_107 : decode b_Mod_grave 107 = .ok (.ifCond .eq 39, 3) := by decide +kernel
theorem d_Mod_grave_110 : decode b_Mod_grave 110 = .ok (.aload_n 0, 1) := by decide +kernel
theorem d_Mod_grave_111 : decode b_Mod_grave 111 = .ok (.iload 4, 2) := by decide +kernel
theorem d_Mod_grave_113 : decode b_Mod_grave 113 = .ok (.aload_n 0, 1) := by decide +kernel
theorem d_Mod_grave_114 : decode b_Mod_grave 114 = .ok (.iload_n 3, 1) := by decide +kernel
theorem d_Mod_grave_115 : decode b_Mod_grave 115 = .ok (.invokevirtual 333, 3) := by decide +kernel
theorem d_Mod_grave_118 : decode b_Mod_grave 118 = .ok (.invokevirtual 271, 3) := by decide +kernel
theorem d_Mod_grave_121 : decode b_Mod_grave 121 = .ok (.aload_n 0, 1) := by decide +kernel
theorem d_Mod_grave_122 : decode b_Mod_grave 122 = .ok (.iload_n 3, 1) := by decide +kernel
theorem d_Mod_grave_123 : decode b_Mod_grave 123 = .ok (.iconst 1, 1) := by decide +kernel
theorem d_Mod_grave_124 : decode b_Mod_grave 124 = .ok (.iadd, 1) := by decide +kernel
theorem d_Mod_grave_125 : decode b_Mod_grave 125 = .ok (.invokevirtual 333, 3) := by decide +kernel
theorem d_Mod_grave_128 : decode b_Mod_grave 128 = .ok (.if_icmp .eq 12, 3) := by decide +kernel
theorem d_Mod_grave_131 : decode b_Mod_grave 131 = .ok (.iload_n 1, 1) := by decide +kernel
theorem d_Mod_grave_132 : decode b_Mod_grave 132 = .ok (.iconst 1, 1) := by decide +kernel
theorem d_Mod_grave_133 : decode b_Mod_grave 133 = .ok (.iload 4, 2) := by decide +kernel
theorem d_Mod_grave_135 : decode b_Mod_grave 135 = .ok (.ishl, 1) := by decide +kernel
theorem d_Mod_grave_136 : decode b_Mod_grave 136 = .ok (.iconst (-1), 1) := by decide +kernel
theorem d_Mod_grave_137 : decode b_Mod_grave 137 = .ok (.ixor, 1) := by decide +kernel
theorem d_Mod_grave_138 : decode b_Mod_grave 138 = .ok (.iand, 1) := by decide +kernel
theorem d_Mod_grave_139 : decode b_Mod_grave 139 = .ok (.istore_n 1, 1) := by decide +kernel
theorem d_Mod_grave_140 : decode b_Mod_grave 140 = .ok (.iinc 4 1, 3) := by decide +kernel
theorem d_Mod_grave_143 : decode b_Mod_grave 143 = .ok (.goto (-48), 3) := by decide +kernel
theorem d_Mod_grave_146 : decode b_Mod_grave 146 = .ok (.iinc 3 2, 3) := by decide +kernel
theorem d_Mod_grave_149 : decode b_Mod_grave 149 = .ok (.goto (-101), 3) := by decide +kernel
theorem d_Mod_grave_152 : decode b_Mod_grave 152 = .ok (.iload_n 2, 1) := by decide +kernel
theorem d_Mod_grave_153 : decode b_Mod_grave 153 = .ok (.ifCond .eq 7, 3) := by decide +kernel
theorem d_Mod_grave_156 : decode b_Mod_grave 156 = .ok (.iload_n 1, 1) := by decide +kernel
theorem d_Mod_grave_157 : decode b_Mod_grave 157 = .ok (.goto 4, 3) := by decide +kernel
theorem d_Mod_grave_160 : decode b_Mod_grave 160 = .ok (.iconst (-1), 1) := by decide +kernel
theorem d_Mod_grave_161 : decode b_Mod_grave 161 = .ok (.ireturn, 1) := by decide +kernel
noncomputable def f_Mod_grave_L95 (z : Nat → Nat) (σ : Mm) (o : Nat) (v2 : Int32) (v3 : Int32) (s95 : Int32 × Int32) : Option ((Int32 × Int32) ⊕ (Int32)) :=
  (mm_ldI (σ.1 (o + 2)) (z (o + 2)) (1 : Int32)).bind fun x102 =>
  if x102 ≤ s95.2 then (
    some (.inr s95.1)
  ) else (
    if v2 = 0 then (
      some (.inr s95.1)
    ) else (
      (f_Mod_octet z σ o v3).bind fun q115 =>
      (f_Mod_heldAt z σ o s95.2 q115).bind fun q118 =>
      (f_Mod_octet z σ o (v3 + (1 : Int32))).bind fun q125 =>
      if q118 = q125 then (
        mm_lt (s95.2 + (1 : Int32)) fun x140 =>
        some (.inl (s95.1, x140))
      ) else (
        mm_lt ((s95.1 &&& (((1 : Int32) <<< (s95.2 &&& 31)) ^^^ ((-1) : Int32)))) fun x139 =>
        mm_lt (s95.2 + (1 : Int32)) fun x140 =>
        some (.inl (x139, x140))
      )
    )
  )
noncomputable def f_Mod_grave_J91 (z : Nat → Nat) (o : Nat) (v1 : Int32) (v3 : Int32) (t91_0 : Int32) (m91 : Mm) : Option ((Int32 × Int32 × Int32) ⊕ (Int32 × Int32)) :=
  (mm_lp (f_Mod_grave_L95 z m91 o t91_0 v3) (v1, (0 : Int32))).bind (fun q95 =>
    mm_lt (v3 + (2 : Int32)) fun x146 =>
    some (.inl (q95, t91_0, x146)))
noncomputable def f_Mod_grave_L48 (z : Nat → Nat) (σ : Mm) (o : Nat) (s48 : Int32 × Int32 × Int32) : Option ((Int32 × Int32 × Int32) ⊕ (Int32 × Int32)) :=
  if (σ.1 o 3) ≤ s48.2.2 then (
    some (.inr (s48.1, s48.2.1))
  ) else (
    if s48.2.1 = 0 then (
      f_Mod_grave_J91 z o s48.1 s48.2.2 (0 : Int32) σ
    ) else (
      (f_Mod_octet z σ o s48.2.2).bind fun q63 =>
      (f_Mod_isSpring z σ o q63).bind fun q66 =>
      if q66 = 0 then (
        f_Mod_grave_J91 z o s48.1 s48.2.2 (0 : Int32) σ
      ) else (
        (f_Mod_octet z σ o (s48.2.2 + (1 : Int32))).bind fun q77 =>
        (f_Mod_isSurname z σ o q77).bind fun q80 =>
        if q80 = 0 then (
          f_Mod_grave_J91 z o s48.1 s48.2.2 (0 : Int32) σ
        ) else (
          f_Mod_grave_J91 z o s48.1 s48.2.2 (1 : Int32) σ
        )
      )
    )
  )
noncomputable def f_Mod_grave (z : Nat → Nat) (σ : Mm) (o : Nat) : Option (Int32 × Mm) :=
  mm_lt (kI σ o 0 (0 : Int32)) fun m2 =>
  (f_Mod_taken z m2 o (940 : Int32)).bind fun q9 =>
  (mm_irem (q9.1 o 3) (2 : Int32)).bind fun x17 =>
  if x17 = (1 : Int32) then (
    some (((-1) : Int32), q9)
  ) else (
    if (q9.1 o 3) ≤ (40 : Int32) then (
      (mm_ldI (q9.1 (o + 2)) (z (o + 2)) (1 : Int32)).bind fun x39 =>
      mm_lt ((((1 : Int32) <<< (x39 &&& 31)) - (1 : Int32))) fun x43 =>
      (mm_lp (f_Mod_grave_L48 z q9 o) (x43, (1 : Int32), (0 : Int32))).bind (fun q48 =>
        if q48.2 = 0 then (
          some (((-1) : Int32), q9)
        ) else (
          some (q48.1, q9)
        ))
    ) else (
      some (((-1) : Int32), q9)
    )
  )
set_option maxHeartbeats 4000000 in
set_option maxRecDepth 100000 in
theorem c_Mod_grave (l : Launch) {L : Ly} (hg : gd_ok L) {σ : Mm} {o : Nat} (k_o_0 : ly_k L o = 11) {res : Int32 × Mm} (hf0 : f_Mod_grave (ly_z L) σ o = some res) : CtI l y_Mod_grave b_Mod_grave 5 (some .int) rm_Mod_grave L [.ref (ly_a L o)] σ res.1 res.2 := by
  refine ct_i hg (by decide) (Nat.le_of_ble_eq_true rfl) ?_
  intro E A Q hE C hN
  subst hE
  have k_o_2 : ly_k L (o + 2) = 20 := gd_Mod_s hg k_o_0
  unfold f_Mod_grave at hf0
  show GW E L A 5 0 0 Q σ 0 [(0, .ref (ly_a L o))] []
  refine gw_aload_n C 0 d_Mod_grave_0 rfl rfl ?_
  refine gw_iconst C (0 : Int32) d_Mod_grave_1 (by decide) ?_
  obtain ⟨m2, em2, hf0⟩ := mx_lt hf0
  refine gw_putI t_Mod C 0 d_Mod_grave_2 k_o_0 (by decide) i_Mod rfl rfl (by decide) qw_1165 rfl rfl t_Mod_ok n_Mod rfl (t_Mod_ok 0 (by decide)) rfl rfl em2 ?_
  refine gw_aload_n C 0 d_Mod_grave_5 rfl rfl ?_
  refine gw_sipush C (940 : Int32) d_Mod_grave_6 (by decide) ?_
  obtain ⟨q9, hq9, hf0⟩ := mx_bd hf0
  refine gw_callV C (c_Mod_taken _ hg k_o_0 hq9) d_Mod_grave_9 1 qw_1306 qw_1308 qs_37 qw_12 qw_1309 k_o_0 (by decide) rfl hd_Mod_taken rfl rfl (Nat.le_of_ble_eq_true rfl) ⟨rfl, rfl, Nat.le_of_ble_eq_true rfl, Nat.le_of_ble_eq_true rfl⟩ ⟨Nat.zero_le _, Nat.zero_le _⟩ ?_
  refine gw_aload_n C 0 d_Mod_grave_12 rfl rfl ?_
  refine gw_getI C 3 d_Mod_grave_13 k_o_0 (by decide) i_Mod rfl rfl (by decide) qw_1168 rfl rfl ?_
  refine gw_iconst C (2 : Int32) d_Mod_grave_16 (by decide) ?_
  obtain ⟨x17, hx17, hf0⟩ := mx_bd hf0
  obtain ⟨nx17, ex17⟩ := mx_irem hx17
  refine gw_irem C d_Mod_grave_17 nx17 ?_
  refine gw_topi ex17 ?_
  refine gw_iconst C (1 : Int32) d_Mod_grave_18 (by decide) ?_
  refine gw_icmp_eq C 31 d_Mod_grave_19 (by decide) (fun hc => ?_) (fun hc => ?_)
  · replace hf0 := mx_t hc hf0
    refine gw_iconst C ((-1) : Int32) d_Mod_grave_31 (by decide) ?_
    exact en_i hN hf0 d_Mod_grave_32
  · replace hf0 := mx_f hc hf0
    refine gw_aload_n C 0 d_Mod_grave_22 rfl rfl ?_
    refine gw_getI C 3 d_Mod_grave_23 k_o_0 (by decide) i_Mod rfl rfl (by decide) qw_1168 rfl rfl ?_
    refine gw_bipush C (40 : Int32) d_Mod_grave_26 (by decide) ?_
    refine gw_icmp_le C 33 d_Mod_grave_28 (by decide) (fun hc => ?_) (fun hc => ?_)
    · replace hf0 := mx_t hc hf0
      refine gw_iconst C (1 : Int32) d_Mod_grave_33 (by decide) ?_
      refine gw_aload_n C 0 d_Mod_grave_34 rfl rfl ?_
      refine gw_getA C 6 d_Mod_grave_35 k_o_0 (by decide) i_Mod rfl rfl (by decide) qw_1171 rfl rfl (o + 2) rfl ?_
      refine gw_iconst C (1 : Int32) d_Mod_grave_38 (by decide) ?_
      obtain ⟨x39, hx39, hf0⟩ := mx_bd hf0
      obtain ⟨gx39, ex39⟩ := mx_ldI hx39
      refine gw_iald C d_Mod_grave_39 k_o_2 gx39 ex39 ?_
      refine gw_ishl C d_Mod_grave_40 ?_
      refine gw_iconst C (1 : Int32) d_Mod_grave_41 (by decide) ?_
      refine gw_isub C d_Mod_grave_42 ?_
      obtain ⟨x43, ex43, hf0⟩ := mx_lt hf0
      refine gw_topi ex43 ?_
      refine gw_istore_n C [(1, .int x43), (0, .ref (ly_a L o))] d_Mod_grave_43 rfl (by decide) rfl ?_
      refine gw_iconst C (1 : Int32) d_Mod_grave_44 (by decide) ?_
      refine gw_istore_n C [(2, .int (1 : Int32)), (1, .int x43), (0, .ref (ly_a L o))] d_Mod_grave_45 rfl (by decide) rfl ?_
      refine gw_iconst C (0 : Int32) d_Mod_grave_46 (by decide) ?_
      refine gw_istore_n C [(3, .int (0 : Int32)), (2, .int (1 : Int32)), (1, .int x43), (0, .ref (ly_a L o))] d_Mod_grave_47 rfl (by decide) rfl ?_
      obtain ⟨q48, hq48, hf0⟩ := mx_bd hf0
      have hk48 : ∀ x9, q48 = x9 → GW E L A 5 0 0 Q q9 152 [(1, .int x9.1), (2, .int x9.2)] [] := by
        intro x9 hx9
        subst hx9
        refine gw_iload_n C 1 d_Mod_grave_152 rfl rfl ?_
        refine gw_if_eq C 160 d_Mod_grave_153 (by decide) (fun hc => ?_) (fun hc => ?_)
        · replace hf0 := mx_t hc hf0
          refine gw_iconst C ((-1) : Int32) d_Mod_grave_160 (by decide) ?_
          exact en_i hN hf0 d_Mod_grave_161
        · replace hf0 := mx_f hc hf0
          refine gw_iload_n C 0 d_Mod_grave_156 rfl rfl ?_
          refine gw_goto C 161 d_Mod_grave_157 (by decide) ?_
          exact en_i hN hf0 d_Mod_grave_161
      refine gw_sub [3, 2, 1, 0] (lv' := [(0, .ref (ly_a L o)), (1, .int x43), (2, .int (1 : Int32)), (3, .int (0 : Int32))]) rfl ?_
      refine mm_rule hq48 (P := fun (s48 : Int32 × Int32 × Int32) => GW E L A 5 0 0 Q q9 48 [(0, .ref (ly_a L o)), (1, .int s48.1), (2, .int s48.2.1), (3, .int s48.2.2)] []) ?_
      intro s48 ih48 hx48 ⟨w48, hb48⟩
      have hj91 : ∀ (v1 : Int32) (v3 : Int32) (t91_0 : Int32), f_Mod_grave_J91 (ly_z L) o v1 v3 t91_0 q9 = some w48 → GW E L A 5 0 0 Q q9 91 [(0, .ref (ly_a L o)), (1, .int v1), (3, .int v3)] [.int t91_0] := by
        intro v1 v3 t91_0 hf1
        unfold f_Mod_grave_J91 at hf1
        refine gw_istore_n C [(2, .int t91_0), (0, .ref (ly_a L o)), (1, .int v1), (3, .int v3)] d_Mod_grave_91 rfl (by decide) rfl ?_
        refine gw_iconst C (0 : Int32) d_Mod_grave_92 (by decide) ?_
        refine gw_istore C [(4, .int (0 : Int32)), (2, .int t91_0), (0, .ref (ly_a L o)), (1, .int v1), (3, .int v3)] d_Mod_grave_93 (by decide) rfl ?_
        obtain ⟨q95, hq95, hf1⟩ := mx_bd hf1
        have hk95 : ∀ x9, q95 = x9 → GW E L A 5 0 0 Q q9 146 [(0, .ref (ly_a L o)), (1, .int x9), (2, .int t91_0), (3, .int v3)] [] := by
          intro x9 hx9
          subst hx9
          obtain ⟨x146, ex146, hf1⟩ := mx_lt hf1
          refine gw_iinc C 3 [(3, .int x146), (0, .ref (ly_a L o)), (1, .int q95), (2, .int t91_0)] d_Mod_grave_146 rfl (by rw [ex146]; rfl) (by decide) rfl ?_
          refine gw_goto C 48 d_Mod_grave_149 (by decide) ?_
          exact gw_go [1, 2, 3, 0] (ih48 (q95, t91_0, x146) (hb48.trans hf1.symm)) rfl
        refine gw_sub [2, 3, 1, 4, 0] (lv' := [(0, .ref (ly_a L o)), (1, .int v1), (2, .int t91_0), (3, .int v3), (4, .int (0 : Int32))]) rfl ?_
        refine mm_rule hq95 (P := fun (s95 : Int32 × Int32) => GW E L A 5 0 0 Q q9 95 [(0, .ref (ly_a L o)), (1, .int s95.1), (2, .int t91_0), (3, .int v3), (4, .int s95.2)] []) ?_
        intro s95 ih95 hx95 ⟨w95, hb95⟩
        have hf2 := hb95
        unfold f_Mod_grave_L95 at hf2
        refine gw_iload C 4 d_Mod_grave_95 rfl ?_
        refine gw_aload_n C 0 d_Mod_grave_97 rfl rfl ?_
        refine gw_getA C 6 d_Mod_grave_98 k_o_0 (by decide) i_Mod rfl rfl (by decide) qw_1171 rfl rfl (o + 2) rfl ?_
        refine gw_iconst C (1 : Int32) d_Mod_grave_101 (by decide) ?_
        obtain ⟨x102, hx102, hf2⟩ := mx_bd hf2
        obtain ⟨gx102, ex102⟩ := mx_ldI hx102
        refine gw_iald C d_Mod_grave_102 k_o_2 gx102 ex102 ?_
        refine gw_icmp_ge C 146 d_Mod_grave_103 (by decide) (fun hc => ?_) (fun hc => ?_)
        · replace hf2 := mx_t hc hf2
          exact gw_go [0, 1, 2, 3] (hk95 s95.1 (hx95 _ (hb95.trans hf2.symm)).symm) rfl
        · replace hf2 := mx_f hc hf2
          refine gw_iload_n C 2 d_Mod_grave_106 rfl rfl ?_
          refine gw_if_eq C 146 d_Mod_grave_107 (by decide) (fun hc => ?_) (fun hc => ?_)
          · replace hf2 := mx_t hc hf2
            exact gw_go [0, 1, 2, 3] (hk95 s95.1 (hx95 _ (hb95.trans hf2.symm)).symm) rfl
          · replace hf2 := mx_f hc hf2
            refine gw_aload_n C 0 d_Mod_grave_110 rfl rfl ?_
            refine gw_iload C 4 d_Mod_grave_111 rfl ?_
            refine gw_aload_n C 0 d_Mod_grave_113 rfl rfl ?_
            refine gw_iload_n C 3 d_Mod_grave_114 rfl rfl ?_
            obtain ⟨q115, hq115, hf2⟩ := mx_bd hf2
            refine gw_callI C (c_Mod_octet _ hg k_o_0 hq115) d_Mod_grave_115 1 qw_1593 qw_1595 qs_76 qw_12 qw_1596 k_o_0 (by decide) rfl hd_Mod_octet rfl rfl (Nat.le_of_ble_eq_true rfl) ⟨rfl, rfl, Nat.le_of_ble_eq_true rfl, Nat.le_of_ble_eq_true rfl⟩ ⟨Nat.zero_le _, Nat.zero_le _⟩ ?_
            obtain ⟨q118, hq118, hf2⟩ := mx_bd hf2
            refine gw_callI C (c_Mod_heldAt _ hg k_o_0 hq118) d_Mod_grave_118 2 qw_1442 qw_1444 qs_61 qw_12 qw_1445 k_o_0 (by decide) rfl hd_Mod_heldAt rfl rfl (Nat.le_of_ble_eq_true rfl) ⟨rfl, rfl, Nat.le_of_ble_eq_true rfl, Nat.le_of_ble_eq_true rfl⟩ ⟨Nat.zero_le _, Nat.zero_le _⟩ ?_
            refine gw_aload_n C 0 d_Mod_grave_121 rfl rfl ?_
            refine gw_iload_n C 3 d_Mod_grave_122 rfl rfl ?_
            refine gw_iconst C (1 : Int32) d_Mod_grave_123 (by decide) ?_
            refine gw_iadd C d_Mod_grave_124 ?_
            obtain ⟨q125, hq125, hf2⟩ := mx_bd hf2
            refine gw_callI C (c_Mod_octet _ hg k_o_0 hq125) d_Mod_grave_125 1 qw_1593 qw_1595 qs_76 qw_12 qw_1596 k_o_0 (by decide) rfl hd_Mod_octet rfl rfl (Nat.le_of_ble_eq_true rfl) ⟨rfl, rfl, Nat.le_of_ble_eq_true rfl, Nat.le_of_ble_eq_true rfl⟩ ⟨Nat.zero_le _, Nat.zero_le _⟩ ?_
            refine gw_icmp_eq C 140 d_Mod_grave_128 (by decide) (fun hc => ?_) (fun hc => ?_)
            · replace hf2 := mx_t hc hf2
              obtain ⟨x140, ex140, hf2⟩ := mx_lt hf2
              refine gw_iinc C 4 [(4, .int x140), (0, .ref (ly_a L o)), (1, .int s95.1), (2, .int t91_0), (3, .int v3)] d_Mod_grave_140 rfl (by rw [ex140]; rfl) (by decide) rfl ?_
              refine gw_goto C 95 d_Mod_grave_143 (by decide) ?_
              exact gw_go [1, 2, 3, 4, 0] (ih95 (s95.1, x140) (hb95.trans hf2.symm)) rfl
            · replace hf2 := mx_f hc hf2
              refine gw_iload_n C 1 d_Mod_grave_131 rfl rfl ?_
              refine gw_iconst C (1 : Int32) d_Mod_grave_132 (by decide) ?_
              refine gw_iload C 4 d_Mod_grave_133 rfl ?_
              refine gw_ishl C d_Mod_grave_135 ?_
              refine gw_iconst C ((-1) : Int32) d_Mod_grave_136 (by decide) ?_
              refine gw_ixor C d_Mod_grave_137 ?_
              refine gw_iand C d_Mod_grave_138 ?_
              obtain ⟨x139, ex139, hf2⟩ := mx_lt hf2
              refine gw_topi ex139 ?_
              refine gw_istore_n C [(1, .int x139), (0, .ref (ly_a L o)), (2, .int t91_0), (3, .int v3), (4, .int s95.2)] d_Mod_grave_139 rfl (by decide) rfl ?_
              obtain ⟨x140, ex140, hf2⟩ := mx_lt hf2
              refine gw_iinc C 4 [(4, .int x140), (1, .int x139), (0, .ref (ly_a L o)), (2, .int t91_0), (3, .int v3)] d_Mod_grave_140 rfl (by rw [ex140]; rfl) (by decide) rfl ?_
              refine gw_goto C 95 d_Mod_grave_143 (by decide) ?_
              exact gw_go [2, 1, 3, 4, 0] (ih95 (x139, x140) (hb95.trans hf2.symm)) rfl
      have hf1 := hb48
      unfold f_Mod_grave_L48 at hf1
      refine gw_iload_n C 3 d_Mod_grave_48 rfl rfl ?_
      refine gw_aload_n C 0 d_Mod_grave_49 rfl rfl ?_
      refine gw_getI C 3 d_Mod_grave_50 k_o_0 (by decide) i_Mod rfl rfl (by decide) qw_1168 rfl rfl ?_
      refine gw_icmp_ge C 152 d_Mod_grave_53 (by decide) (fun hc => ?_) (fun hc => ?_)
      · replace hf1 := mx_t hc hf1
        exact gw_go [1, 2] (hk48 (s48.1, s48.2.1) (hx48 _ (hb48.trans hf1.symm)).symm) rfl
      · replace hf1 := mx_f hc hf1
        refine gw_iload_n C 2 d_Mod_grave_56 rfl rfl ?_
        refine gw_if_eq C 90 d_Mod_grave_57 (by decide) (fun hc => ?_) (fun hc => ?_)
        · replace hf1 := mx_t hc hf1
          refine gw_iconst C (0 : Int32) d_Mod_grave_90 (by decide) ?_
          exact gw_go [0, 1, 3] (hj91 _ _ _ hf1) rfl
        · replace hf1 := mx_f hc hf1
          refine gw_aload_n C 0 d_Mod_grave_60 rfl rfl ?_
          refine gw_aload_n C 0 d_Mod_grave_61 rfl rfl ?_
          refine gw_iload_n C 3 d_Mod_grave_62 rfl rfl ?_
          obtain ⟨q63, hq63, hf1⟩ := mx_bd hf1
          refine gw_callI C (c_Mod_octet _ hg k_o_0 hq63) d_Mod_grave_63 1 qw_1593 qw_1595 qs_76 qw_12 qw_1596 k_o_0 (by decide) rfl hd_Mod_octet rfl rfl (Nat.le_of_ble_eq_true rfl) ⟨rfl, rfl, Nat.le_of_ble_eq_true rfl, Nat.le_of_ble_eq_true rfl⟩ ⟨Nat.zero_le _, Nat.zero_le _⟩ ?_
          obtain ⟨q66, hq66, hf1⟩ := mx_bd hf1
          refine gw_callI C (c_Mod_isSpring _ hg k_o_0 hq66) d_Mod_grave_66 1 qw_1438 qw_1440 qs_60 qw_12 qw_1441 k_o_0 (by decide) rfl hd_Mod_isSpring rfl rfl (Nat.le_of_ble_eq_true rfl) ⟨rfl, rfl, Nat.le_of_ble_eq_true rfl, Nat.le_of_ble_eq_true rfl⟩ ⟨Nat.zero_le _, Nat.zero_le _⟩ ?_
          refine gw_if_eq C 90 d_Mod_grave_69 (by decide) (fun hc => ?_) (fun hc => ?_)
          · replace hf1 := mx_t hc hf1
            refine gw_iconst C (0 : Int32) d_Mod_grave_90 (by decide) ?_
            exact gw_go [0, 1, 3] (hj91 _ _ _ hf1) rfl
          · replace hf1 := mx_f hc hf1
            refine gw_aload_n C 0 d_Mod_grave_72 rfl rfl ?_
            refine gw_aload_n C 0 d_Mod_grave_73 rfl rfl ?_
            refine gw_iload_n C 3 d_Mod_grave_74 rfl rfl ?_
            refine gw_iconst C (1 : Int32) d_Mod_grave_75 (by decide) ?_
            refine gw_iadd C d_Mod_grave_76 ?_
            obtain ⟨q77, hq77, hf1⟩ := mx_bd hf1
            refine gw_callI C (c_Mod_octet _ hg k_o_0 hq77) d_Mod_grave_77 1 qw_1593 qw_1595 qs_76 qw_12 qw_1596 k_o_0 (by decide) rfl hd_Mod_octet rfl rfl (Nat.le_of_ble_eq_true rfl) ⟨rfl, rfl, Nat.le_of_ble_eq_true rfl, Nat.le_of_ble_eq_true rfl⟩ ⟨Nat.zero_le _, Nat.zero_le _⟩ ?_
            obtain ⟨q80, hq80, hf1⟩ := mx_bd hf1
            refine gw_callI C (c_Mod_isSurname _ hg k_o_0 hq80) d_Mod_grave_80 1 qw_1394 qw_1396 qs_54 qw_12 qw_1397 k_o_0 (by decide) rfl hd_Mod_isSurname rfl rfl (Nat.le_of_ble_eq_true rfl) ⟨rfl, rfl, Nat.le_of_ble_eq_true rfl, Nat.le_of_ble_eq_true rfl⟩ ⟨Nat.zero_le _, Nat.zero_le _⟩ ?_
            refine gw_if_eq C 90 d_Mod_grave_83 (by decide) (fun hc => ?_) (fun hc => ?_)
            · replace hf1 := mx_t hc hf1
              refine gw_iconst C (0 : Int32) d_Mod_grave_90 (by decide) ?_
              exact gw_go [0, 1, 3] (hj91 _ _ _ hf1) rfl
            · replace hf1 := mx_f hc hf1
              refine gw_iconst C (1 : Int32) d_Mod_grave_86 (by decide) ?_
              refine gw_goto C 91 d_Mod_grave_87 (by decide) ?_
              exact gw_go [0, 1, 3] (hj91 _ _ _ hf1) rfl
    · replace hf0 := mx_f hc hf0
      refine gw_iconst C ((-1) : Int32) d_Mod_grave_31 (by decide) ?_
      exact en_i hN hf0 d_Mod_grave_32

/-! NameHatModel.lapsed(I)I -/
abbrev b_Mod_lapsed : ByteArray := prog_14_method_81_code
def y_Mod_lapsed : MethodName := ⟨"NameHatModel", "lapsed", "(I)I"⟩
abbrev rm_Mod_lapsed : Room := { frames := 1, cells := 0, slots := 0, locals := 22 }
theorem hd_Mod_lapsed : y_Mod_lapsed.cls ≠ "java/lang/invoke/MethodHandle" ∧ y_Mod_lapsed.cls ≠ "java/lang/invoke/VarHandle" ∧ (parseMethodDescriptor y_Mod_lapsed.desc).map (fun d => d.parameters.length) = some 1 := by decide +kernel
theorem d_Mod_lapsed_0 : decode b_Mod_lapsed 0 = .ok (.aload_n 0, 1) := by decide +kernel
theorem d_Mod_lapsed_1 : decode b_Mod_lapsed 1 = .ok (.iconst 0, 1) := by decide +kernel
theorem d_Mod_lapsed_2 : decode b_Mod_lapsed 2 = .ok (.putfield 1, 3) := by decide +kernel
theorem d_Mod_lapsed_5 : decode b_Mod_lapsed 5 = .ok (.iload_n 1, 1) := by decide +kernel
theorem d_Mod_lapsed_6 : decode b_Mod_lapsed 6 = .ok (.iconst 1, 1) := by decide +kernel
theorem d_Mod_lapsed_7 : decode b_Mod_lapsed 7 = .ok (.aload_n 0, 1) := by decide +kernel
theorem d_Mod_lapsed_8 : decode b_Mod_lapsed 8 = .ok (.getfield 33, 3) := by decide +kernel
theorem d_Mod_lapsed_11 : decode b_Mod_lapsed 11 = .ok (.sipush 131, 3) := by decide +kernel
theorem d_Mod_lapsed_14 : decode b_Mod_lapsed 14 = .ok (.iaload, 1) := by decide +kernel
theorem d_Mod_lapsed_15 : decode b_Mod_lapsed 15 = .ok (.iconst 1, 1) := by decide +kernel
theorem d_Mod_lapsed_16 : decode b_Mod_lapsed 16 = .ok (.iadd, 1) := by decide +kernel
theorem d_Mod_lapsed_17 : decode b_Mod_lapsed 17 = .ok (.invokestatic 175, 3) := by decide +kernel
theorem d_Mod_lapsed_20 : decode b_Mod_lapsed 20 = .ok (.ifCond .ne 5, 3) := by decide +kernel
theorem d_Mod_lapsed_23 : decode b_Mod_lapsed 23 = .ok (.iconst (-1), 1) := by decide +kernel
theorem d_Mod_lapsed_24 : decode b_Mod_lapsed 24 = .ok (.ireturn, 1) := by decide +kernel
theorem d_Mod_lapsed_25 : decode b_Mod_lapsed 25 = .ok (.iconst 1, 1) := by decide +kernel
theorem d_Mod_lapsed_26 : decode b_Mod_lapsed 26 = .ok (.aload_n 0, 1) := by decide +kernel
theorem d_Mod_lapsed_27 : decode b_Mod_lapsed 27 = .ok (.getfield 33, 3) := by decide +kernel
theorem d_Mod_lapsed_30 : decode b_Mod_lapsed 30 = .ok (.iconst 0, 1) := by decide +kernel
theorem d_Mod_lapsed_31 : decode b_Mod_lapsed 31 = .ok (.iaload, 1) := by decide +kernel
theorem d_Mod_lapsed_32 : decode b_Mod_lapsed 32 = .ok (.ishl, 1) := by decide +kernel
theorem d_Mod_lapsed_33 : decode b_Mod_lapsed 33 = .ok (.iconst 1, 1) := by decide +kernel
theorem d_Mod_lapsed_34 : decode b_Mod_lapsed 34 = .ok (.isub, 1) := by decide +kernel
theorem d_Mod_lapsed_35 : decode b_Mod_lapsed 35 = .ok (.istore_n 2, 1) := by decide +kernel
theorem d_Mod_lapsed_36 : decode b_Mod_lapsed 36 = .ok (.aload_n 0, 1) := by decide +kernel
theorem d_Mod_lapsed_37 : decode b_Mod_lapsed 37 = .ok (.getfield 33, 3) := by decide +kernel
theorem d_Mod_lapsed_40 : decode b_Mod_lapsed 40 = .ok (.sipush 131, 3) := by decide +kernel
theorem d_Mod_lapsed_43 : decode b_Mod_lapsed 43 = .ok (.iaload, 1) := by decide +kernel
theorem d_Mod_lapsed_44 : decode b_Mod_lapsed 44 = .ok (.istore_n 3, 1) := by decide +kernel
theorem d_Mod_lapsed_45 : decode b_Mod_lapsed 45 = .ok (.iload_n 3, 1) := by decide +kernel
theorem d_Mod_lapsed_46 : decode b_Mod_lapsed 46 = .ok (.aload_n 0, 1) := by decide +kernel
theorem d_Mod_lapsed_47 : decode b_Mod_lapsed 47 = .ok (.getfield 33, 3) := by decide +kernel
theorem d_Mod_lapsed_50 : decode b_Mod_lapsed 50 = .ok (.sipush 131, 3) := by decide +kernel
theorem d_Mod_lapsed_53 : decode b_Mod_lapsed 53 = .ok (.iaload, 1) := by decide +kernel
theorem d_Mod_lapsed_54 : decode b_Mod_lapsed 54 = .ok (.iload_n 1, 1) := by decide +kernel
theorem d_Mod_lapsed_55 : decode b_Mod_lapsed 55 = .ok (.isub, 1) := by decide +kernel
theorem d_Mod_lapsed_56 : decode b_Mod_lapsed 56 = .ok (.if_icmp .le 53, 3) := by decide +kernel
theorem d_Mod_lapsed_59 : decode b_Mod_lapsed 59 = .ok (.iconst 0, 1) := by decide +kernel
theorem d_Mod_lapsed_60 : decode b_Mod_lapsed 60 = .ok (.istore 4, 2) := by decide +kernel
theorem d_Mod_lapsed_62 : decode b_Mod_lapsed 62 = .ok (.iload 4, 2) := by decide +kernel
theorem d_Mod_lapsed_64 : decode b_Mod_lapsed 64 = .ok (.aload_n 0, 1) := by decide +kernel
theorem d_Mod_lapsed_65 : decode b_Mod_lapsed 65 = .ok (.getfield 33, 3) := by decide +kernel
theorem d_Mod_lapsed_68 : decode b_Mod_lapsed 68 = .ok (.iconst 1, 1) := by decide +kernel
theorem d_Mod_lapsed_69 : decode b_Mod_lapsed 69 = .ok (.iaload, 1) := by decide +kernel
theorem d_Mod_lapsed_70 : decode b_Mod_lapsed 70 = .ok (.if_icmp .ge 33, 3) := by decide +kernel
theorem d_Mod_lapsed_73 : decode b_Mod_lapsed 73 = .ok (.aload_n 0, 1) := by decide +kernel
theorem d_Mod_lapsed_74 : decode b_Mod_lapsed 74 = .ok (.iload 4, 2) := by decide +kernel
theorem d_Mod_lapsed_76 : decode b_Mod_lapsed 76 = .ok (.iload_n 3, 1) := by decide +kernel
theorem d_Mod_lapsed_77 : decode b_Mod_lapsed 77 = .ok (.invokevirtual 271, 3) := by decide +kernel
theorem d_Mod_lapsed_80 : decode b_Mod_lapsed 80 = .ok (.ifCond .lt 17, 3) := by decide +kernel
theorem d_Mod_lapsed_83 : decode b_Mod_lapsed 83 = .ok (.iload_n 2, 1) := by decide +kernel
theorem d_Mod_lapsed_84 : decode b_Mod_lapsed 84 = .ok (.iconst 1, 1) := by decide +kernel
theorem d_Mod_lapsed_85 : decode b_Mod_lapsed 85 = .ok (.aload_n 0, 1) := by decide +kernel
theorem d_Mod_lapsed_86 : decode b_Mod_lapsed 86 = .ok (.iload 4, 2) := by decide +kernel
theorem d_Mod_lapsed_88 : decode b_Mod_lapsed 88 = .ok (.iload_n 3, 1) := by decide +kernel
theorem d_Mod_lapsed_89 : decode b_Mod_lapsed 89 = .ok (.invokevirtual 271, 3) := by decide +kernel
theorem d_Mod_lapsed_92 : decode b_Mod_lapsed 92 = .ok (.ishl, 1) := by decide +kernel
theorem d_Mod_lapsed_93 : decode b_Mod_lapsed 93 = .ok (.iconst (-1), 1) := by decide +kernel
theorem d_Mod_lapsed_94 : decode b_Mod_lapsed 94 = .ok (.ixor, 1) := by decide +kernel
theorem d_Mod_lapsed_95 : decode b_Mod_lapsed 95 = .ok (.iand, 1) := by decide +kernel
theorem d_Mod_lapsed_96 : decode b_Mod_lapsed 96 = .ok (.istore_n 2, 1) := by decide +kernel
theorem d_Mod_lapsed_97 : decode b_Mod_lapsed 97 = .ok (.iinc 4 1, 3) := by decide +kernel
theorem d_Mod_lapsed_100 : decode b_Mod_lapsed 100 = .ok (.goto (-38), 3) := by decide +kernel
theorem d_Mod_lapsed_103 : decode b_Mod_lapsed 103 = .ok (.iinc 3 (-1), 3) := by decide +kernel
theorem d_Mod_lapsed_106 : decode b_Mod_lapsed 106 = .ok (.goto (-61), 3) := by decide +kernel
theorem d_Mod_lapsed_109 : decode b_Mod_lapsed 109 = .ok (.iload_n 2, 1) := by decide +kernel
theorem d_Mod_lapsed_110 : decode b_Mod_lapsed 110 = .ok (.ireturn, 1) := by decide +kernel
noncomputable def f_Mod_lapsed_L62 (z : Nat → Nat) (σ : Mm) (o : Nat) (v1 : Int32) (v3 : Int32) (s62 : Int32 × Int32) : Option ((Int32 × Int32) ⊕ (Int32)) :=
  (mm_ldI (σ.1 (o + 2)) (z (o + 2)) (1 : Int32)).bind fun x69 =>
  if x69 ≤ s62.2 then (
    some (.inr s62.1)
  ) else (
    (f_Mod_heldAt z σ o s62.2 v3).bind fun q77 =>
    if q77 < 0 then (
      mm_lt (s62.2 + (1 : Int32)) fun x97 =>
      some (.inl (s62.1, x97))
    ) else (
      (f_Mod_heldAt z σ o s62.2 v3).bind fun q89 =>
      mm_lt ((s62.1 &&& (((1 : Int32) <<< (q89 &&& 31)) ^^^ ((-1) : Int32)))) fun x96 =>
      mm_lt (s62.2 + (1 : Int32)) fun x97 =>
      some (.inl (x96, x97))
    )
  )
noncomputable def f_Mod_lapsed_L45 (z : Nat → Nat) (σ : Mm) (o : Nat) (v1 : Int32) (s45 : Int32 × Int32) : Option ((Int32 × Int32) ⊕ (Int32)) :=
  (mm_ldI (σ.1 (o + 2)) (z (o + 2)) (131 : Int32)).bind fun x53 =>
  if s45.2 ≤ (x53 - v1) then (
    some (.inr s45.1)
  ) else (
    (mm_lp (f_Mod_lapsed_L62 z σ o v1 s45.2) (s45.1, (0 : Int32))).bind (fun q62 =>
      mm_lt (s45.2 + ((-1) : Int32)) fun x103 =>
      some (.inl (q62, x103)))
  )
noncomputable def f_Mod_lapsed (z : Nat → Nat) (σ : Mm) (o : Nat) (p1 : Int32) : Option (Int32 × Mm) :=
  mm_lt (kI σ o 0 (0 : Int32)) fun m2 =>
  (mm_ldI (m2.1 (o + 2)) (z (o + 2)) (131 : Int32)).bind fun x14 =>
  (f_Mod_isIn z m2 p1 (1 : Int32) (x14 + (1 : Int32))).bind fun q17 =>
  if q17 = 0 then (
    some (((-1) : Int32), m2)
  ) else (
    (mm_ldI (m2.1 (o + 2)) (z (o + 2)) (0 : Int32)).bind fun x31 =>
    mm_lt ((((1 : Int32) <<< (x31 &&& 31)) - (1 : Int32))) fun x35 =>
    (mm_ldI (m2.1 (o + 2)) (z (o + 2)) (131 : Int32)).bind fun x43 =>
    (mm_lp (f_Mod_lapsed_L45 z m2 o p1) (x35, x43)).bind (fun q45 =>
      some (q45, m2))
  )
set_option maxHeartbeats 4000000 in
set_option maxRecDepth 100000 in
theorem c_Mod_lapsed (l : Launch) {L : Ly} (hg : gd_ok L) {σ : Mm} {o : Nat} {p1 : Int32} (k_o_0 : ly_k L o = 11) {res : Int32 × Mm} (hf0 : f_Mod_lapsed (ly_z L) σ o p1 = some res) : CtI l y_Mod_lapsed b_Mod_lapsed 5 (some .int) rm_Mod_lapsed L [.ref (ly_a L o), .int p1] σ res.1 res.2 := by
  refine ct_i hg (by decide) (Nat.le_of_ble_eq_true rfl) ?_
  intro E A Q hE C hN
  subst hE
  have k_o_2 : ly_k L (o + 2) = 20 := gd_Mod_s hg k_o_0
  unfold f_Mod_lapsed at hf0
  show GW E L A 5 0 0 Q σ 0 [(0, .ref (ly_a L o)), (1, .int p1)] []
  refine gw_aload_n C 0 d_Mod_lapsed_0 rfl rfl ?_
  refine gw_iconst C (0 : Int32) d_Mod_lapsed_1 (by decide) ?_
  obtain ⟨m2, em2, hf0⟩ := mx_lt hf0
  refine gw_putI t_Mod C 0 d_Mod_lapsed_2 k_o_0 (by decide) i_Mod rfl rfl (by decide) qw_1165 rfl rfl t_Mod_ok n_Mod rfl (t_Mod_ok 0 (by decide)) rfl rfl em2 ?_
  refine gw_iload_n C 1 d_Mod_lapsed_5 rfl rfl ?_
  refine gw_iconst C (1 : Int32) d_Mod_lapsed_6 (by decide) ?_
  refine gw_aload_n C 0 d_Mod_lapsed_7 rfl rfl ?_
  refine gw_getA C 6 d_Mod_lapsed_8 k_o_0 (by decide) i_Mod rfl rfl (by decide) qw_1171 rfl rfl (o + 2) rfl ?_
  refine gw_sipush C (131 : Int32) d_Mod_lapsed_11 (by decide) ?_
  obtain ⟨x14, hx14, hf0⟩ := mx_bd hf0
  obtain ⟨gx14, ex14⟩ := mx_ldI hx14
  refine gw_iald C d_Mod_lapsed_14 k_o_2 gx14 ex14 ?_
  refine gw_iconst C (1 : Int32) d_Mod_lapsed_15 (by decide) ?_
  refine gw_iadd C d_Mod_lapsed_16 ?_
  obtain ⟨q17, hq17, hf0⟩ := mx_bd hf0
  refine gw_callIS C (c_Mod_isIn _ hg hq17) d_Mod_lapsed_17 3 qw_1356 qw_1357 qw_12 qw_1358 hd_Mod_isIn rfl rfl (Nat.le_of_ble_eq_true rfl) ⟨rfl, rfl, Nat.le_of_ble_eq_true rfl, Nat.le_of_ble_eq_true rfl⟩ ⟨Nat.zero_le _, Nat.zero_le _⟩ ?_
  refine gw_if_ne C 25 d_Mod_lapsed_20 (by decide) (fun hc => ?_) (fun hc => ?_)
  · replace hf0 := mx_f hc hf0
    refine gw_iconst C (1 : Int32) d_Mod_lapsed_25 (by decide) ?_
    refine gw_aload_n C 0 d_Mod_lapsed_26 rfl rfl ?_
    refine gw_getA C 6 d_Mod_lapsed_27 k_o_0 (by decide) i_Mod rfl rfl (by decide) qw_1171 rfl rfl (o + 2) rfl ?_
    refine gw_iconst C (0 : Int32) d_Mod_lapsed_30 (by decide) ?_
    obtain ⟨x31, hx31, hf0⟩ := mx_bd hf0
    obtain ⟨gx31, ex31⟩ := mx_ldI hx31
    refine gw_iald C d_Mod_lapsed_31 k_o_2 gx31 ex31 ?_
    refine gw_ishl C d_Mod_lapsed_32 ?_
    refine gw_iconst C (1 : Int32) d_Mod_lapsed_33 (by decide) ?_
    refine gw_isub C d_Mod_lapsed_34 ?_
    obtain ⟨x35, ex35, hf0⟩ := mx_lt hf0
    refine gw_topi ex35 ?_
    refine gw_istore_n C [(2, .int x35), (0, .ref (ly_a L o)), (1, .int p1)] d_Mod_lapsed_35 rfl (by decide) rfl ?_
    refine gw_aload_n C 1 d_Mod_lapsed_36 rfl rfl ?_
    refine gw_getA C 6 d_Mod_lapsed_37 k_o_0 (by decide) i_Mod rfl rfl (by decide) qw_1171 rfl rfl (o + 2) rfl ?_
    refine gw_sipush C (131 : Int32) d_Mod_lapsed_40 (by decide) ?_
    obtain ⟨x43, hx43, hf0⟩ := mx_bd hf0
    obtain ⟨gx43, ex43⟩ := mx_ldI hx43
    refine gw_iald C d_Mod_lapsed_43 k_o_2 gx43 ex43 ?_
    refine gw_istore_n C [(3, .int x43), (2, .int x35), (0, .ref (ly_a L o)), (1, .int p1)] d_Mod_lapsed_44 rfl (by decide) rfl ?_
    obtain ⟨q45, hq45, hf0⟩ := mx_bd hf0
    have hk45 : ∀ x9, q45 = x9 → GW E L A 5 0 0 Q m2 109 [(2, .int x9)] [] := by
      intro x9 hx9
      subst hx9
      refine gw_iload_n C 0 d_Mod_lapsed_109 rfl rfl ?_
      exact en_i hN hf0 d_Mod_lapsed_110
    refine gw_sub [2, 3, 1, 0] (lv' := [(0, .ref (ly_a L o)), (1, .int p1), (2, .int x35), (3, .int x43)]) rfl ?_
    refine mm_rule hq45 (P := fun (s45 : Int32 × Int32) => GW E L A 5 0 0 Q m2 45 [(0, .ref (ly_a L o)), (1, .int p1), (2, .int s45.1), (3, .int s45.2)] []) ?_
    intro s45 ih45 hx45 ⟨w45, hb45⟩
    have hf1 := hb45
    unfold f_Mod_lapsed_L45 at hf1
    refine gw_iload_n C 3 d_Mod_lapsed_45 rfl rfl ?_
    refine gw_aload_n C 0 d_Mod_lapsed_46 rfl rfl ?_
    refine gw_getA C 6 d_Mod_lapsed_47 k_o_0 (by decide) i_Mod rfl rfl (by decide) qw_1171 rfl rfl (o + 2) rfl ?_
    refine gw_sipush C (131 : Int32) d_Mod_lapsed_50 (by decide) ?_
    obtain ⟨x53, hx53, hf1⟩ := mx_bd hf1
    obtain ⟨gx53, ex53⟩ := mx_ldI hx53
    refine gw_iald C d_Mod_lapsed_53 k_o_2 gx53 ex53 ?_
    refine gw_iload_n C 1 d_Mod_lapsed_54 rfl rfl ?_
    refine gw_isub C d_Mod_lapsed_55 ?_
    refine gw_icmp_le C 109 d_Mod_lapsed_56 (by decide) (fun hc => ?_) (fun hc => ?_)
    · replace hf1 := mx_t hc hf1
      exact gw_go [2] (hk45 s45.1 (hx45 _ (hb45.trans hf1.symm)).symm) rfl
    · replace hf1 := mx_f hc hf1
      refine gw_iconst C (0 : Int32) d_Mod_lapsed_59 (by decide) ?_
      refine gw_istore C [(4, .int (0 : Int32)), (0, .ref (ly_a L o)), (1, .int p1), (2, .int s45.1), (3, .int s45.2)] d_Mod_lapsed_60 (by decide) rfl ?_
      obtain ⟨q62, hq62, hf1⟩ := mx_bd hf1
      have hk62 : ∀ x9, q62 = x9 → GW E L A 5 0 0 Q m2 103 [(0, .ref (ly_a L o)), (1, .int p1), (2, .int x9), (3, .int s45.2)] [] := by
        intro x9 hx9
        subst hx9
        obtain ⟨x103, ex103, hf1⟩ := mx_lt hf1
        refine gw_iinc C 3 [(3, .int x103), (0, .ref (ly_a L o)), (1, .int p1), (2, .int q62)] d_Mod_lapsed_103 rfl (by rw [ex103]; rfl) (by decide) rfl ?_
        refine gw_goto C 45 d_Mod_lapsed_106 (by decide) ?_
        exact gw_go [1, 2, 3, 0] (ih45 (q62, x103) (hb45.trans hf1.symm)) rfl
      refine gw_sub [1, 2, 3, 4, 0] (lv' := [(0, .ref (ly_a L o)), (1, .int p1), (2, .int s45.1), (3, .int s45.2), (4, .int (0 : Int32))]) rfl ?_
      refine mm_rule hq62 (P := fun (s62 : Int32 × Int32) => GW E L A 5 0 0 Q m2 62 [(0, .ref (ly_a L o)), (1, .int p1), (2, .int s62.1), (3, .int s45.2), (4, .int s62.2)] []) ?_
      intro s62 ih62 hx62 ⟨w62, hb62⟩
      have hf2 := hb62
      unfold f_Mod_lapsed_L62 at hf2
      refine gw_iload C 4 d_Mod_lapsed_62 rfl ?_
      refine gw_aload_n C 0 d_Mod_lapsed_64 rfl rfl ?_
      refine gw_getA C 6 d_Mod_lapsed_65 k_o_0 (by decide) i_Mod rfl rfl (by decide) qw_1171 rfl rfl (o + 2) rfl ?_
      refine gw_iconst C (1 : Int32) d_Mod_lapsed_68 (by decide) ?_
      obtain ⟨x69, hx69, hf2⟩ := mx_bd hf2
      obtain ⟨gx69, ex69⟩ := mx_ldI hx69
      refine gw_iald C d_Mod_lapsed_69 k_o_2 gx69 ex69 ?_
      refine gw_icmp_ge C 103 d_Mod_lapsed_70 (by decide) (fun hc => ?_) (fun hc => ?_)
      · replace hf2 := mx_t hc hf2
        exact gw_go [0, 1, 2, 3] (hk62 s62.1 (hx62 _ (hb62.trans hf2.symm)).symm) rfl
      · replace hf2 := mx_f hc hf2
        refine gw_aload_n C 0 d_Mod_lapsed_73 rfl rfl ?_
        refine gw_iload C 4 d_Mod_lapsed_74 rfl ?_
        refine gw_iload_n C 3 d_Mod_lapsed_76 rfl rfl ?_
        obtain ⟨q77, hq77, hf2⟩ := mx_bd hf2
        refine gw_callI C (c_Mod_heldAt _ hg k_o_0 hq77) d_Mod_lapsed_77 2 qw_1442 qw_1444 qs_61 qw_12 qw_1445 k_o_0 (by decide) rfl hd_Mod_heldAt rfl rfl (Nat.le_of_ble_eq_true rfl) ⟨rfl, rfl, Nat.le_of_ble_eq_true rfl, Nat.le_of_ble_eq_true rfl⟩ ⟨Nat.zero_le _, Nat.zero_le _⟩ ?_
        refine gw_if_lt C 97 d_Mod_lapsed_80 (by decide) (fun hc => ?_) (fun hc => ?_)
        · replace hf2 := mx_t hc hf2
          obtain ⟨x97, ex97, hf2⟩ := mx_lt hf2
          refine gw_iinc C 4 [(4, .int x97), (0, .ref (ly_a L o)), (1, .int p1), (2, .int s62.1), (3, .int s45.2)] d_Mod_lapsed_97 rfl (by rw [ex97]; rfl) (by decide) rfl ?_
          refine gw_goto C 62 d_Mod_lapsed_100 (by decide) ?_
          exact gw_go [1, 2, 3, 4, 0] (ih62 (s62.1, x97) (hb62.trans hf2.symm)) rfl
        · replace hf2 := mx_f hc hf2
          refine gw_iload_n C 2 d_Mod_lapsed_83 rfl rfl ?_
          refine gw_iconst C (1 : Int32) d_Mod_lapsed_84 (by decide) ?_
          refine gw_aload_n C 0 d_Mod_lapsed_85 rfl rfl ?_
          refine gw_iload C 4 d_Mod_lapsed_86 rfl ?_
          refine gw_iload_n C 3 d_Mod_lapsed_88 rfl rfl ?_
          obtain ⟨q89, hq89, hf2⟩ := mx_bd hf2
          refine gw_callI C (c_Mod_heldAt _ hg k_o_0 hq89) d_Mod_lapsed_89 2 qw_1442 qw_1444 qs_61 qw_12 qw_1445 k_o_0 (by decide) rfl hd_Mod_heldAt rfl rfl (Nat.le_of_ble_eq_true rfl) ⟨rfl, rfl, Nat.le_of_ble_eq_true rfl, Nat.le_of_ble_eq_true rfl⟩ ⟨Nat.zero_le _, Nat.zero_le _⟩ ?_
          refine gw_ishl C d_Mod_lapsed_92 ?_
          refine gw_iconst C ((-1) : Int32) d_Mod_lapsed_93 (by decide) ?_
          refine gw_ixor C d_Mod_lapsed_94 ?_
          refine gw_iand C d_Mod_lapsed_95 ?_
          obtain ⟨x96, ex96, hf2⟩ := mx_lt hf2
          refine gw_topi ex96 ?_
          refine gw_istore_n C [(2, .int x96), (0, .ref (ly_a L o)), (1, .int p1), (3, .int s45.2), (4, .int s62.2)] d_Mod_lapsed_96 rfl (by decide) rfl ?_
          obtain ⟨x97, ex97, hf2⟩ := mx_lt hf2
          refine gw_iinc C 4 [(4, .int x97), (2, .int x96), (0, .ref (ly_a L o)), (1, .int p1), (3, .int s45.2)] d_Mod_lapsed_97 rfl (by rw [ex97]; rfl) (by decide) rfl ?_
          refine gw_goto C 62 d_Mod_lapsed_100 (by decide) ?_
          exact gw_go [2, 3, 1, 4, 0] (ih62 (x96, x97) (hb62.trans hf2.symm)) rfl
  · replace hf0 := mx_t hc hf0
    refine gw_iconst C ((-1) : Int32) d_Mod_lapsed_23 (by decide) ?_
    exact en_i hN hf0 d_Mod_lapsed_24

/-! NameHatModel.hasLuck(II)Z -/
abbrev b_Mod_hasLuck : ByteArray := prog_14_method_82_code
def y_Mod_hasLuck : MethodName := ⟨"NameHatModel", "hasLuck", "(II)Z"⟩
abbrev rm_Mod_hasLuck : Room := { frames := 2, cells := 0, slots := 0, locals := 43 }
theorem hd_Mod_hasLuck : y_Mod_hasLuck.cls ≠ "java/lang/invoke/MethodHandle" ∧ y_Mod_hasLuck.cls ≠ "java/lang/invoke/VarHandle" ∧ (parseMethodDescriptor y_Mod_hasLuck.desc).map (fun d => d.parameters.length) = some 2 := by decide +kernel
theorem d_Mod_hasLuck_0 : decode b_Mod_hasLuck 0 = .ok (.aload_n 0, 1) := by decide +kernel
theorem d_Mod_hasLuck_1 : decode b_Mod_hasLuck 1 = .ok (.iload_n 1, 1) := by decide +kernel
theorem d_Mod_hasLuck_2 : decode b_Mod_hasLuck 2 = .ok (.invokevirtual 252, 3) := by decide +kernel
theorem d_Mod_hasLuck_5 : decode b_Mod_hasLuck 5 = .ok (.ifCond .eq 30, 3) := by decide +kernel
theorem d_Mod_hasLuck_8 : decode b_Mod_hasLuck 8 = .ok (.iload_n 2, 1) := by decide +kernel
theorem d_Mod_hasLuck_9 : decode b_Mod_hasLuck 9 = .ok (.iconst 0, 1) := by decide +kernel
theorem d_Mod_hasLuck_10 : decode b_Mod_hasLuck 10 = .ok (.bipush 99, 2) := by decide +kernel
theorem d_Mod_hasLuck_12 : decode b_Mod_hasLuck 12 = .ok (.invokestatic 175, 3) := by decide +kernel
theorem d_Mod_hasLuck_15 : decode b_Mod_hasLuck 15 = .ok (.ifCond .eq 20, 3) := by decide +kernel
theorem d_Mod_hasLuck_18 : decode b_Mod_hasLuck 18 = .ok (.aload_n 0, 1) := by decide +kernel
theorem d_Mod_hasLuck_19 : decode b_Mod_hasLuck 19 = .ok (.getfield 33, 3) := by decide +kernel
theorem d_Mod_hasLuck_22 : decode b_Mod_hasLuck 22 = .ok (.sipush 131, 3) := by decide +kernel
theorem d_Mod_hasLuck_25 : decode b_Mod_hasLuck 25 = .ok (.iaload, 1) := by decide +kernel
theorem d_Mod_hasLuck_26 : decode b_Mod_hasLuck 26 = .ok (.iconst 1, 1) := by decide +kernel
theorem d_Mod_hasLuck_27 : decode b_Mod_hasLuck 27 = .ok (.bipush 12, 2) := by decide +kernel
theorem d_Mod_hasLuck_29 : decode b_Mod_hasLuck 29 = .ok (.invokestatic 175, 3) := by decide +kernel
theorem d_Mod_hasLuck_32 : decode b_Mod_hasLuck 32 = .ok (.ifCond .ne 5, 3) := by decide +kernel
theorem d_Mod_hasLuck_35 : decode b_Mod_hasLuck 35 = .ok (.iconst 0, 1) := by decide +kernel
theorem d_Mod_hasLuck_36 : decode b_Mod_hasLuck 36 = .ok (.ireturn, 1) := by decide +kernel
theorem d_Mod_hasLuck_37 : decode b_Mod_hasLuck 37 = .ok (.iconst 0, 1) := by decide +kernel
theorem d_Mod_hasLuck_38 : decode b_Mod_hasLuck 38 = .ok (.istore_n 3, 1) := by decide +kernel
theorem d_Mod_hasLuck_39 : decode b_Mod_hasLuck 39 = .ok (.iconst 0, 1) := by decide +kernel
theorem d_Mod_hasLuck_40 : decode b_Mod_hasLuck 40 = .ok (.istore 4, 2) := by decide +kernel
theorem d_Mod_hasLuck_42 : decode b_Mod_hasLuck 42 = .ok (.iload 4, 2) := by decide +kernel
theorem d_Mod_hasLuck_44 : decode b_Mod_hasLuck 44 = .ok (.aload_n 0, 1) := by decide +kernel
theorem d_Mod_hasLuck_45 : decode b_Mod_hasLuck 45 = .ok (.getfield 33, 3) := by decide +kernel
theorem d_Mod_hasLuck_48 : decode b_Mod_hasLuck 48 = .ok (.iconst 0, 1) := by decide +kernel
theorem d_Mod_hasLuck_49 : decode b_Mod_hasLuck 49 = .ok (.iaload, 1) := by decide +kernel
theorem d_Mod_hasLuck_50 : decode b_Mod_hasLuck 50 = .ok (.if_icmp .ge 30, 3) := by decide +kernel
theorem d_Mod_hasLuck_53 : decode b_Mod_hasLuck 53 = .ok (.iload_n 3, 1) := by decide +kernel
theorem d_Mod_hasLuck_54 : decode b_Mod_hasLuck 54 = .ok (.aload_n 0, 1) := by decide +kernel
theorem d_Mod_hasLuck_55 : decode b_Mod_hasLuck 55 = .ok (.getfield 33, 3) := by decide +kernel
theorem d_Mod_hasLuck_58 : decode b_Mod_hasLuck 58 = .ok (.iconst 5, 1) := by decide +kernel
theorem d_Mod_hasLuck_59 : decode b_Mod_hasLuck 59 = .ok (.iload 4, 2) := by decide +kernel
theorem d_Mod_hasLuck_61 : decode b_Mod_hasLuck 61 = .ok (.iadd, 1) := by decide +kernel
theorem d_Mod_hasLuck_62 : decode b_Mod_hasLuck 62 = .ok (.iaload, 1) := by decide +kernel
theorem d_Mod_hasLuck_63 : decode b_Mod_hasLuck 63 = .ok (.iload_n 2, 1) := by decide +kernel
theorem d_Mod_hasLuck_64 : decode b_Mod_hasLuck 64 = .ok (.if_icmp .lt 7, 3) := by decide +kernel
theorem d_Mod_hasLuck_67 : decode b_Mod_hasLuck 67 = .ok (.iconst 1, 1) := by decide +kernel
theorem d_Mod_hasLuck_68 : decode b_Mod_hasLuck 68 = .ok (.goto 4, 3) := by decide +kernel
theorem d_Mod_hasLuck_71 : decode b_Mod_hasLuck 71 = .ok (.iconst 0, 1) := by decide +kernel
theorem d_Mod_hasLuck_72 : decode b_Mod_hasLuck 72 = .ok (.iadd, 1) := by decide +kernel
theorem d_Mod_hasLuck_73 : decode b_Mod_hasLuck 73 = .ok (.istore_n 3, 1) := by decide +kernel
theorem d_Mod_hasLuck_74 : decode b_Mod_hasLuck 74 = .ok (.iinc 4 1, 3) := by decide +kernel
theorem d_Mod_hasLuck_77 : decode b_Mod_hasLuck 77 = .ok (.goto (-35), 3) := by decide +kernel
theorem d_Mod_hasLuck_80 : decode b_Mod_hasLuck 80 = .ok (.aload_n 0, 1) := by decide +kernel
theorem d_Mod_hasLuck_81 : decode b_Mod_hasLuck 81 = .ok (.iconst 0, 1) := by decide +kernel
theorem d_Mod_hasLuck_82 : decode b_Mod_hasLuck 82 = .ok (.putfield 336, 3) := by decide +kernel
theorem d_Mod_hasLuck_85 : decode b_Mod_hasLuck 85 = .ok (.aload_n 0, 1) := by decide +kernel
theorem d_Mod_hasLuck_86 : decode b_Mod_hasLuck 86 = .ok (.lconst 1, 1) := by decide +kernel
theorem d_Mod_hasLuck_87 : decode b_Mod_hasLuck 87 = .ok (.putfield 339, 3) := by decide +kernel
theorem d_Mod_hasLuck_90 : decode b_Mod_hasLuck 90 = .ok (.iconst 0, 1) := by decide +kernel
theorem d_Mod_hasLuck_91 : decode b_Mod_hasLuck 91 = .ok (.istore 4, 2) := by decide +kernel
theorem d_Mod_hasLuck_93 : decode b_Mod_hasLuck 93 = .ok (.iload 4, 2) := by decide +kernel
theorem d_Mod_hasLuck_95 : decode b_Mod_hasLuck 95 = .ok (.bipush 13, 2) := by decide +kernel
theorem d_Mod_hasLuck_97 : decode b_Mod_hasLuck 97 = .ok (.if_icmp .ge 26, 3) := by decide +kernel
theorem d_Mod_hasLuck_100 : decode b_Mod_hasLuck 100 = .ok (.aload_n 0, 1) := by decide +kernel
theorem d_Mod_hasLuck_101 : decode b_Mod_hasLuck 101 = .ok (.getfield 86, 3) := by decide +kernel
theorem d_Mod_hasLuck_104 : decode b_Mod_hasLuck 104 = .ok (.iload 4, 2) := by decide +kernel
theorem d_Mod_hasLuck_106 : decode b_Mod_hasLuck 106 = .ok (.iload 4, 2) := by decide +kernel
theorem d_Mod_hasLuck_108 : decode b_Mod_hasLuck 108 = .ok (.ifCond .ne 7, 3) := by decide +kernel
theorem d_Mod_hasLuck_111 : decode b_Mod_hasLuck 111 = .ok (.lconst 1, 1) := by decide +kernel
theorem d_Mod_hasLuck_112 : decode b_Mod_hasLuck 112 = .ok (.goto 4, 3) := by decide +kernel
theorem d_Mod_hasLuck_115 : decode b_Mod_hasLuck 115 = .ok (.lconst 0, 1) := by decide +kernel
theorem d_Mod_hasLuck_116 : decode b_Mod_hasLuck 116 = .ok (.lastore, 1) := by decide +kernel
theorem d_Mod_hasLuck_117 : decode b_Mod_hasLuck 117 = .ok (.iinc 4 1, 3) := by decide +kernel
theorem d_Mod_hasLuck_120 : decode b_Mod_hasLuck 120 = .ok (.goto (-27), 3) := by decide +kernel
theorem d_Mod_hasLuck_123 : decode b_Mod_hasLuck 123 = .ok (.iconst 1, 1) := by decide +kernel
theorem d_Mod_hasLuck_124 : decode b_Mod_hasLuck 124 = .ok (.istore 4, 2) := by decide +kernel
theorem d_Mod_hasLuck_126 : decode b_Mod_hasLuck 126 = .ok (.iload 4, 2) := by decide +kernel
theorem d_Mod_hasLuck_128 : decode b_Mod_hasLuck 128 = .ok (.aload_n 0, 1) := by decide +kernel
theorem d_Mod_hasLuck_129 : decode b_Mod_hasLuck 129 = .ok (.getfield 33, 3) := by decide +kernel
theorem d_Mod_hasLuck_132 : decode b_Mod_hasLuck 132 = .ok (.sipush 131, 3) := by decide +kernel
theorem d_Mod_hasLuck_135 : decode b_Mod_hasLuck 135 = .ok (.iaload, 1) := by decide +kernel
theorem d_Mod_hasLuck_136 : decode b_Mod_hasLuck 136 = .ok (.if_icmp .gt 136, 3) := by decide +kernel
theorem d_Mod_hasLuck_139 : decode b_Mod_hasLuck 139 = .ok (.aload_n 0, 1) := by decide +kernel
theorem d_Mod_hasLuck_140 : decode b_Mod_hasLuck 140 = .ok (.getfield 33, 3) := by decide +kernel
theorem d_Mod_hasLuck_143 : decode b_Mod_hasLuck 143 = .ok (.sipush 332, 3) := by decide +kernel
theorem d_Mod_hasLuck_146 : decode b_Mod_hasLuck 146 = .ok (.bipush 8, 2) := by decide +kernel
theorem d_Mod_hasLuck_148 : decode b_Mod_hasLuck 148 = .ok (.iload 4, 2) := by decide +kernel
theorem d_Mod_hasLuck_150 : decode b_Mod_hasLuck 150 = .ok (.imul, 1) := by decide +kernel
theorem d_Mod_hasLuck_151 : decode b_Mod_hasLuck 151 = .ok (.iadd, 1) := by decide +kernel
theorem d_Mod_hasLuck_152 : decode b_Mod_hasLuck 152 = .ok (.iload_n 1, 1) := by decide +kernel
theorem d_Mod_hasLuck_153 : decode b_Mod_hasLuck 153 = .ok (.iadd, 1) := by decide +kernel
theorem d_Mod_hasLuck_154 : decode b_Mod_hasLuck 154 = .ok (.iaload, 1) := by decide +kernel
theorem d_Mod_hasLuck_155 : decode b_Mod_hasLuck 155 = .ok (.istore 5, 2) := by decide +kernel
theorem d_Mod_hasLuck_157 : decode b_Mod_hasLuck 157 = .ok (.aload_n 0, 1) := by decide +kernel
theorem d_Mod_hasLuck_158 : decode b_Mod_hasLuck 158 = .ok (.dup, 1) := by decide +kernel
theorem d_Mod_hasLuck_159 : decode b_Mod_hasLuck 159 = .ok (.getfield 336, 3) := by decide +kernel
theorem d_Mod_hasLuck_162 : decode b_Mod_hasLuck 162 = .ok (.iload 5, 2) := by decide +kernel
theorem d_Mod_hasLuck_164 : decode b_Mod_hasLuck 164 = .ok (.ifCond .lt 20, 3) := by decide +kernel
theorem d_Mod_hasLuck_167 : decode b_Mod_hasLuck 167 = .ok (.aload_n 0, 1) := by decide +kernel
theorem d_Mod_hasLuck_168 : decode b_Mod_hasLuck 168 = .ok (.getfield 33, 3) := by decide +kernel
theorem d_Mod_hasLuck_171 : decode b_Mod_hasLuck 171 = .ok (.iconst 5, 1) := by decide +kernel
theorem d_Mod_hasLuck_172 : decode b_Mod_hasLuck 172 = .ok (.iload 5, 2) := by decide +kernel
theorem d_Mod_hasLuck_174 : decode b_Mod_hasLuck 174 = .ok (.iadd, 1) := by decide +kernel
theorem d_Mod_hasLuck_175 : decode b_Mod_hasLuck 175 = .ok (.iaload, 1) := by decide +kernel
theorem d_Mod_hasLuck_176 : decode b_Mod_hasLuck 176 = .ok (.iload_n 2, 1) := by decide +kernel
theorem d_Mod_hasLuck_177 : decode b_Mod_hasLuck 177 = .ok (.if_icmp .lt 7, 3) := by decide +kernel
theorem d_Mod_hasLuck_180 : decode b_Mod_hasLuck 180 = .ok (.iconst 1, 1) := by decide +kernel
theorem d_Mod_hasLuck_181 : decode b_Mod_hasLuck 181 = .ok (.goto 4, 3) := by decide +kernel
theorem d_Mod_hasLuck_184 : decode b_Mod_hasLuck 184 = .ok (.iconst 0, 1) := by decide +kernel
theorem d_Mod_hasLuck_185 : decode b_Mod_hasLuck 185 = .ok (.iadd, 1) := by decide +kernel
theorem d_Mod_hasLuck_186 : decode b_Mod_hasLuck 186 = .ok (.putfield 336, 3) := by decide +kernel
theorem d_Mod_hasLuck_189 : decode b_Mod_hasLuck 189 = .ok (.iload 4, 2) := by decide +kernel
theorem d_Mod_hasLuck_191 : decode b_Mod_hasLuck 191 = .ok (.istore 6, 2) := by decide +kernel
theorem d_Mod_hasLuck_193 : decode b_Mod_hasLuck 193 = .ok (.iload 6, 2) := by decide +kernel
theorem d_Mod_hasLuck_195 : decode b_Mod_hasLuck 195 = .ok (.ifCond .lt 55, 3) := by decide +kernel
theorem d_Mod_hasLuck_198 : decode b_Mod_hasLuck 198 = .ok (.aload_n 0, 1) := by decide +kernel
theorem d_Mod_hasLuck_199 : decode b_Mod_hasLuck 199 = .ok (.getfield 86, 3) := by decide +kernel
theorem d_Mod_hasLuck_202 : decode b_Mod_hasLuck 202 = .ok (.iload 6, 2) := by decide +kernel
theorem d_Mod_hasLuck_204 : decode b_Mod_hasLuck 204 = .ok (.aload_n 0, 1) := by decide +kernel
theorem d_Mod_hasLuck_205 : decode b_Mod_hasLuck 205 = .ok (.getfield 86, 3) := by decide +kernel
theorem d_Mod_hasLuck_208 : decode b_Mod_hasLuck 208 = .ok (.iload 6, 2) := by decide +kernel
theorem d_Mod_hasLuck_210 : decode b_Mod_hasLuck 210 = .ok (.laload, 1) := by decide +kernel
theorem d_Mod_hasLuck_211 : decode b_Mod_hasLuck 211 = .ok (.aload_n 0, 1) := by decide +kernel
theorem d_Mod_hasLuck_212 : decode b_Mod_hasLuck 212 = .ok (.getfield 33, 3) := by decide +kernel
theorem d_Mod_hasLuck_215 : decode b_Mod_hasLuck 215 = .ok (.iconst 0, 1) := by decide +kernel
theorem d_Mod_hasLuck_216 : decode b_Mod_hasLuck 216 = .ok (.iaload, 1) := by decide +kernel
theorem d_Mod_hasLuck_217 : decode b_Mod_hasLuck 217 = .ok (.iload_n 3, 1) := by decide +kernel
theorem d_Mod_hasLuck_218 : decode b_Mod_hasLuck 218 = .ok (.isub, 1) := by decide +kernel
theorem d_Mod_hasLuck_219 : decode b_Mod_hasLuck 219 = .ok (.i2l, 1) := by decide +kernel
theorem d_Mod_hasLuck_220 : decode b_Mod_hasLuck 220 = .ok (.lmul, 1) := by decide +kernel
theorem d_Mod_hasLuck_221 : decode b_Mod_hasLuck 221 = .ok (.iload 6, 2) := by decide +kernel
theorem d_Mod_hasLuck_223 : decode b_Mod_hasLuck 223 = .ok (.ifCond .le 18, 3) := by decide +kernel
theorem d_Mod_hasLuck_226 : decode b_Mod_hasLuck 226 = .ok (.aload_n 0, 1) := by decide +kernel
theorem d_Mod_hasLuck_227 : decode b_Mod_hasLuck 227 = .ok (.getfield 86, 3) := by decide +kernel
theorem d_Mod_hasLuck_230 : decode b_Mod_hasLuck 230 = .ok (.iload 6, 2) := by decide +kernel
theorem d_Mod_hasLuck_232 : decode b_Mod_hasLuck 232 = .ok (.iconst 1, 1) := by decide +kernel
theorem d_Mod_hasLuck_233 : decode b_Mod_hasLuck 233 = .ok (.isub, 1) := by decide +kernel
theorem d_Mod_hasLuck_234 : decode b_Mod_hasLuck 234 = .ok (.laload, 1) := by decide +kernel
theorem d_Mod_hasLuck_235 : decode b_Mod_hasLuck 235 = .ok (.iload_n 3, 1) := by decide +kernel
theorem d_Mod_hasLuck_236 : decode b_Mod_hasLuck 236 = .ok (.i2l, 1) := by decide +kernel
theorem d_Mod_hasLuck_237 : decode b_Mod_hasLuck 237 = .ok (.lmul, 1) := by decide +kernel
theorem d_Mod_hasLuck_238 : decode b_Mod_hasLuck 238 = .ok (.goto 4, 3) := by decide +kernel
theorem d_Mod_hasLuck_241 : decode b_Mod_hasLuck 241 = .ok (.lconst 0, 1) := by decide +kernel
theorem d_Mod_hasLuck_242 : decode b_Mod_hasLuck 242 = .ok (.ladd, 1) := by decide +kernel
theorem d_Mod_hasLuck_243 : decode b_Mod_hasLuck 243 = .ok (.lastore, 1) := by decide +kernel
theorem d_Mod_hasLuck_244 : decode b_Mod_hasLuck 244 = .ok (.iinc 6 (-1), 3) := by decide +kernel
theorem d_Mod_hasLuck_247 : decode b_Mod_hasLuck 247 = .ok (.goto (-54), 3) := by decide +kernel
theorem d_Mod_hasLuck_250 : decode b_Mod_hasLuck 250 = .ok (.aload_n 0, 1) := by decide +kernel
theorem d_Mod_hasLuck_251 : decode b_Mod_hasLuck 251 = .ok (.dup, 1) := by decide +kernel
theorem d_Mod_hasLuck_252 : decode b_Mod_hasLuck 252 = .ok (.getfield 339, 3) := by decide +kernel
theorem d_Mod_hasLuck_255 : decode b_Mod_hasLuck 255 = .ok (.aload_n 0, 1) := by decide +kernel
theorem d_Mod_hasLuck_256 : decode b_Mod_hasLuck 256 = .ok (.getfield 33, 3) := by decide +kernel
theorem d_Mod_hasLuck_259 : decode b_Mod_hasLuck 259 = .ok (.iconst 0, 1) := by decide +kernel
theorem d_Mod_hasLuck_260 : decode b_Mod_hasLuck 260 = .ok (.iaload, 1) := by decide +kernel
theorem d_Mod_hasLuck_261 : decode b_Mod_hasLuck 261 = .ok (.i2l, 1) := by decide +kernel
theorem d_Mod_hasLuck_262 : decode b_Mod_hasLuck 262 = .ok (.lmul, 1) := by decide +kernel
theorem d_Mod_hasLuck_263 : decode b_Mod_hasLuck 263 = .ok (.putfield 339, 3) := by decide +kernel
theorem d_Mod_hasLuck_266 : decode b_Mod_hasLuck 266 = .ok (.iinc 4 1, 3) := by decide +kernel
theorem d_Mod_hasLuck_269 : decode b_Mod_hasLuck 269 = .ok (.goto (-143), 3) := by decide +kernel
theorem d_Mod_hasLuck_272 : decode b_Mod_hasLuck 272 = .ok (.aload_n 0, 1) := by decide +kernel
theorem d_Mod_hasLuck_273 : decode b_Mod_hasLuck 273 = .ok (.lconst 0, 1) := by decide +kernel
theorem d_Mod_hasLuck_274 : decode b_Mod_hasLuck 274 = .ok (.putfield 342, 3) := by decide +kernel
theorem d_Mod_hasLuck_277 : decode b_Mod_hasLuck 277 = .ok (.aload_n 0, 1) := by decide +kernel
theorem d_Mod_hasLuck_278 : decode b_Mod_hasLuck 278 = .ok (.getfield 336, 3) := by decide +kernel
theorem d_Mod_hasLuck_281 : decode b_Mod_hasLuck 281 = .ok (.istore 4, 2) := by decide +kernel
theorem d_Mod_hasLuck_283 : decode b_Mod_hasLuck 283 = .ok (.iload 4, 2) := by decide +kernel
theorem d_Mod_hasLuck_285 : decode b_Mod_hasLuck 285 = .ok (.bipush 13, 2) := by decide +kernel
theorem d_Mod_hasLuck_287 : decode b_Mod_hasLuck 287 = .ok (.if_icmp .ge 25, 3) := by decide +kernel
theorem d_Mod_hasLuck_290 : decode b_Mod_hasLuck 290 = .ok (.aload_n 0, 1) := by decide +kernel
theorem d_Mod_hasLuck_291 : decode b_Mod_hasLuck 291 = .ok (.dup, 1) := by decide +kernel
theorem d_Mod_hasLuck_292 : decode b_Mod_hasLuck 292 = .ok (.getfield 342, 3) := by decide +kernel
theorem d_Mod_hasLuck_295 : decode b_Mod_hasLuck 295 = .ok (.aload_n 0, 1) := by decide +kernel
theorem d_Mod_hasLuck_296 : decode b_Mod_hasLuck 296 = .ok (.getfield 86, 3) := by decide +kernel
theorem d_Mod_hasLuck_299 : decode b_Mod_hasLuck 299 = .ok (.iload 4, 2) := by decide +kernel
theorem d_Mod_hasLuck_301 : decode b_Mod_hasLuck 301 = .ok (.laload, 1) := by decide +kernel
theorem d_Mod_hasLuck_302 : decode b_Mod_hasLuck 302 = .ok (.ladd, 1) := by decide +kernel
theorem d_Mod_hasLuck_303 : decode b_Mod_hasLuck 303 = .ok (.putfield 342, 3) := by decide +kernel
theorem d_Mod_hasLuck_306 : decode b_Mod_hasLuck 306 = .ok (.iinc 4 1, 3) := by decide +kernel
theorem d_Mod_hasLuck_309 : decode b_Mod_hasLuck 309 = .ok (.goto (-26), 3) := by decide +kernel
theorem d_Mod_hasLuck_312 : decode b_Mod_hasLuck 312 = .ok (.iconst 1, 1) := by decide +kernel
theorem d_Mod_hasLuck_313 : decode b_Mod_hasLuck 313 = .ok (.ireturn, 1) := by decide +kernel
noncomputable def f_Mod_hasLuck_L42 (z : Nat → Nat) (σ : Mm) (o : Nat) (v1 : Int32) (v2 : Int32) (s42 : Int32 × Int32) : Option ((Int32 × Int32) ⊕ (Int32)) :=
  (mm_ldI (σ.1 (o + 2)) (z (o + 2)) (0 : Int32)).bind fun x49 =>
  if x49 ≤ s42.2 then (
    some (.inr s42.1)
  ) else (
    (mm_ldI (σ.1 (o + 2)) (z (o + 2)) ((5 : Int32) + s42.2)).bind fun x62 =>
    if x62 < v2 then (
      mm_lt ((s42.1 + (0 : Int32))) fun x73 =>
      mm_lt (s42.2 + (1 : Int32)) fun x74 =>
      some (.inl (x73, x74))
    ) else (
      mm_lt ((s42.1 + (1 : Int32))) fun x73 =>
      mm_lt (s42.2 + (1 : Int32)) fun x74 =>
      some (.inl (x73, x74))
    )
  )
noncomputable def f_Mod_hasLuck_L93 (z : Nat → Nat) (o : Nat) (v1 : Int32) (v2 : Int32) (v3 : Int32) (s93 : Int32 × Mm) : Option ((Int32 × Mm) ⊕ (Mm)) :=
  if (13 : Int32) ≤ s93.1 then (
    some (.inr s93.2)
  ) else (
    if s93.1 = 0 then (
      (mm_stL s93.2 (o + 17) (z (o + 17)) s93.1 (1 : Int64)).bind fun m116 =>
      mm_lt (s93.1 + (1 : Int32)) fun x117 =>
      some (.inl (x117, m116))
    ) else (
      (mm_stL s93.2 (o + 17) (z (o + 17)) s93.1 (0 : Int64)).bind fun m116 =>
      mm_lt (s93.1 + (1 : Int32)) fun x117 =>
      some (.inl (x117, m116))
    )
  )
noncomputable def f_Mod_hasLuck_L193 (z : Nat → Nat) (o : Nat) (v1 : Int32) (v2 : Int32) (v3 : Int32) (v4 : Int32) (s193 : Int32 × Mm) : Option ((Int32 × Mm) ⊕ (Mm)) :=
  if s193.1 < 0 then (
    some (.inr s193.2)
  ) else (
    (mm_ldL (s193.2.2 (o + 17)) (z (o + 17)) s193.1).bind fun x210 =>
    (mm_ldI (s193.2.1 (o + 2)) (z (o + 2)) (0 : Int32)).bind fun x216 =>
    if s193.1 ≤ 0 then (
      (mm_stL s193.2 (o + 17) (z (o + 17)) s193.1 ((x210 * (Int32.toInt64 (x216 - v3))) + (0 : Int64))).bind fun m243 =>
      mm_lt (s193.1 + ((-1) : Int32)) fun x244 =>
      some (.inl (x244, m243))
    ) else (
      (mm_ldL (s193.2.2 (o + 17)) (z (o + 17)) (s193.1 - (1 : Int32))).bind fun x234 =>
      (mm_stL s193.2 (o + 17) (z (o + 17)) s193.1 ((x210 * (Int32.toInt64 (x216 - v3))) + (x234 * (Int32.toInt64 v3)))).bind fun m243 =>
      mm_lt (s193.1 + ((-1) : Int32)) fun x244 =>
      some (.inl (x244, m243))
    )
  )
noncomputable def f_Mod_hasLuck_J185 (z : Nat → Nat) (o : Nat) (v1 : Int32) (v2 : Int32) (v3 : Int32) (v4 : Int32) (t185_1 : Int32) (t185_2 : Int32) (m185 : Mm) : Option ((Int32 × Mm) ⊕ (Mm)) :=
  mm_lt (kI m185 o 40 (t185_1 + t185_2)) fun m186 =>
  (mm_lp (f_Mod_hasLuck_L193 z o v1 v2 v3 v4) (v4, m186)).bind (fun q193 =>
    (mm_ldI (q193.1 (o + 2)) (z (o + 2)) (0 : Int32)).bind fun x260 =>
    mm_lt (kL q193 o 39 ((q193.2 o 39) * (Int32.toInt64 x260))) fun m263 =>
    mm_lt (v4 + (1 : Int32)) fun x266 =>
    some (.inl (x266, m263)))
noncomputable def f_Mod_hasLuck_L126 (z : Nat → Nat) (o : Nat) (v1 : Int32) (v2 : Int32) (v3 : Int32) (s126 : Int32 × Mm) : Option ((Int32 × Mm) ⊕ (Mm)) :=
  (mm_ldI (s126.2.1 (o + 2)) (z (o + 2)) (131 : Int32)).bind fun x135 =>
  if x135 < s126.1 then (
    some (.inr s126.2)
  ) else (
    (mm_ldI (s126.2.1 (o + 2)) (z (o + 2)) (((332 : Int32) + ((8 : Int32) * s126.1)) + v1)).bind fun x154 =>
    if x154 < 0 then (
      f_Mod_hasLuck_J185 z o v1 v2 v3 s126.1 (s126.2.1 o 40) (0 : Int32) s126.2
    ) else (
      (mm_ldI (s126.2.1 (o + 2)) (z (o + 2)) ((5 : Int32) + x154)).bind fun x175 =>
      if x175 < v2 then (
        f_Mod_hasLuck_J185 z o v1 v2 v3 s126.1 (s126.2.1 o 40) (0 : Int32) s126.2
      ) else (
        f_Mod_hasLuck_J185 z o v1 v2 v3 s126.1 (s126.2.1 o 40) (1 : Int32) s126.2
      )
    )
  )
noncomputable def f_Mod_hasLuck_L283 (z : Nat → Nat) (o : Nat) (s283 : Int32 × Mm) : Option ((Int32 × Mm) ⊕ (Mm)) :=
  if (13 : Int32) ≤ s283.1 then (
    some (.inr s283.2)
  ) else (
    (mm_ldL (s283.2.2 (o + 17)) (z (o + 17)) s283.1).bind fun x301 =>
    mm_lt (kL s283.2 o 38 ((s283.2.2 o 38) + x301)) fun m303 =>
    mm_lt (s283.1 + (1 : Int32)) fun x306 =>
    some (.inl (x306, m303))
  )
noncomputable def f_Mod_hasLuck (z : Nat → Nat) (σ : Mm) (o : Nat) (p1 : Int32) (p2 : Int32) : Option (Int32 × Mm) :=
  (f_Mod_isHouse z σ o p1).bind fun q2 =>
  if q2 = 0 then (
    some ((0 : Int32), σ)
  ) else (
    (f_Mod_isIn z σ p2 (0 : Int32) (99 : Int32)).bind fun q12 =>
    if q12 = 0 then (
      some ((0 : Int32), σ)
    ) else (
      (mm_ldI (σ.1 (o + 2)) (z (o + 2)) (131 : Int32)).bind fun x25 =>
      (f_Mod_isIn z σ x25 (1 : Int32) (12 : Int32)).bind fun q29 =>
      if q29 = 0 then (
        some ((0 : Int32), σ)
      ) else (
        (mm_lp (f_Mod_hasLuck_L42 z σ o p1 p2) ((0 : Int32), (0 : Int32))).bind (fun q42 =>
          mm_lt (kI σ o 40 (0 : Int32)) fun m82 =>
          mm_lt (kL m82 o 39 (1 : Int64)) fun m87 =>
          (mm_lp (f_Mod_hasLuck_L93 z o p1 p2 q42) ((0 : Int32), m87)).bind (fun q93 =>
            (mm_lp (f_Mod_hasLuck_L126 z o p1 p2 q42) ((1 : Int32), q93)).bind (fun q126 =>
              mm_lt (kL q126 o 38 (0 : Int64)) fun m274 =>
              mm_lt ((m274.1 o 40)) fun x281 =>
              (mm_lp (f_Mod_hasLuck_L283 z o) (x281, m274)).bind (fun q283 =>
                some ((1 : Int32), q283)))))
      )
    )
  )
set_option maxHeartbeats 4000000 in
set_option maxRecDepth 100000 in
theorem c_Mod_hasLuck (l : Launch) {L : Ly} (hg : gd_ok L) {σ : Mm} {o : Nat} {p1 : Int32} {p2 : Int32} (k_o_0 : ly_k L o = 11) {res : Int32 × Mm} (hf0 : f_Mod_hasLuck (ly_z L) σ o p1 p2 = some res) : CtI l y_Mod_hasLuck b_Mod_hasLuck 7 (some .boolean) rm_Mod_hasLuck L [.ref (ly_a L o), .int p1, .int p2] σ res.1 res.2 := by
  refine ct_z hg (by decide) (Nat.le_of_ble_eq_true rfl) ?_
  intro E A Q hE C hN
  subst hE
  have k_o_2 : ly_k L (o + 2) = 20 := gd_Mod_s hg k_o_0
  have k_o_17 : ly_k L (o + 17) = 21 := gd_Mod_chance hg k_o_0
  unfold f_Mod_hasLuck at hf0
  show GW E L A 7 0 0 Q σ 0 [(0, .ref (ly_a L o)), (1, .int p1), (2, .int p2)] []
  refine gw_aload_n C 0 d_Mod_hasLuck_0 rfl rfl ?_
  refine gw_iload_n C 1 d_Mod_hasLuck_1 rfl rfl ?_
  obtain ⟨q2, hq2, hf0⟩ := mx_bd hf0
  refine gw_callI C (c_Mod_isHouse _ hg k_o_0 hq2) d_Mod_hasLuck_2 1 qw_1410 qw_1412 qs_57 qw_12 qw_1413 k_o_0 (by decide) rfl hd_Mod_isHouse rfl rfl (Nat.le_of_ble_eq_true rfl) ⟨rfl, rfl, Nat.le_of_ble_eq_true rfl, Nat.le_of_ble_eq_true rfl⟩ ⟨Nat.zero_le _, Nat.zero_le _⟩ ?_
  refine gw_if_eq C 35 d_Mod_hasLuck_5 (by decide) (fun hc => ?_) (fun hc => ?_)
  · replace hf0 := mx_t hc hf0
    refine gw_iconst C (0 : Int32) d_Mod_hasLuck_35 (by decide) ?_
    exact en_z hN (Or.inl rfl) hf0 d_Mod_hasLuck_36
  · replace hf0 := mx_f hc hf0
    refine gw_iload_n C 2 d_Mod_hasLuck_8 rfl rfl ?_
    refine gw_iconst C (0 : Int32) d_Mod_hasLuck_9 (by decide) ?_
    refine gw_bipush C (99 : Int32) d_Mod_hasLuck_10 (by decide) ?_
    obtain ⟨q12, hq12, hf0⟩ := mx_bd hf0
    refine gw_callIS C (c_Mod_isIn _ hg hq12) d_Mod_hasLuck_12 3 qw_1356 qw_1357 qw_12 qw_1358 hd_Mod_isIn rfl rfl (Nat.le_of_ble_eq_true rfl) ⟨rfl, rfl, Nat.le_of_ble_eq_true rfl, Nat.le_of_ble_eq_true rfl⟩ ⟨Nat.zero_le _, Nat.zero_le _⟩ ?_
    refine gw_if_eq C 35 d_Mod_hasLuck_15 (by decide) (fun hc => ?_) (fun hc => ?_)
    · replace hf0 := mx_t hc hf0
      refine gw_iconst C (0 : Int32) d_Mod_hasLuck_35 (by decide) ?_
      exact en_z hN (Or.inl rfl) hf0 d_Mod_hasLuck_36
    · replace hf0 := mx_f hc hf0
      refine gw_aload_n C 0 d_Mod_hasLuck_18 rfl rfl ?_
      refine gw_getA C 6 d_Mod_hasLuck_19 k_o_0 (by decide) i_Mod rfl rfl (by decide) qw_1171 rfl rfl (o + 2) rfl ?_
      refine gw_sipush C (131 : Int32) d_Mod_hasLuck_22 (by decide) ?_
      obtain ⟨x25, hx25, hf0⟩ := mx_bd hf0
      obtain ⟨gx25, ex25⟩ := mx_ldI hx25
      refine gw_iald C d_Mod_hasLuck_25 k_o_2 gx25 ex25 ?_
      refine gw_iconst C (1 : Int32) d_Mod_hasLuck_26 (by decide) ?_
      refine gw_bipush C (12 : Int32) d_Mod_hasLuck_27 (by decide) ?_
      obtain ⟨q29, hq29, hf0⟩ := mx_bd hf0
      refine gw_callIS C (c_Mod_isIn _ hg hq29) d_Mod_hasLuck_29 3 qw_1356 qw_1357 qw_12 qw_1358 hd_Mod_isIn rfl rfl (Nat.le_of_ble_eq_true rfl) ⟨rfl, rfl, Nat.le_of_ble_eq_true rfl, Nat.le_of_ble_eq_true rfl⟩ ⟨Nat.zero_le _, Nat.zero_le _⟩ ?_
      refine gw_if_ne C 37 d_Mod_hasLuck_32 (by decide) (fun hc => ?_) (fun hc => ?_)
      · replace hf0 := mx_f hc hf0
        refine gw_iconst C (0 : Int32) d_Mod_hasLuck_37 (by decide) ?_
        refine gw_istore_n C [(3, .int (0 : Int32)), (0, .ref (ly_a L o)), (1, .int p1), (2, .int p2)] d_Mod_hasLuck_38 rfl (by decide) rfl ?_
        refine gw_iconst C (0 : Int32) d_Mod_hasLuck_39 (by decide) ?_
        refine gw_istore C [(4, .int (0 : Int32)), (3, .int (0 : Int32)), (0, .ref (ly_a L o)), (1, .int p1), (2, .int p2)] d_Mod_hasLuck_40 (by decide) rfl ?_
        obtain ⟨q42, hq42, hf0⟩ := mx_bd hf0
        have hk42 : ∀ x9, q42 = x9 → GW E L A 7 0 0 Q σ 80 [(0, .ref (ly_a L o)), (1, .int p1), (2, .int p2), (3, .int x9)] [] := by
          intro x9 hx9
          subst hx9
          refine gw_aload_n C 0 d_Mod_hasLuck_80 rfl rfl ?_
          refine gw_iconst C (0 : Int32) d_Mod_hasLuck_81 (by decide) ?_
          obtain ⟨m82, em82, hf0⟩ := mx_lt hf0
          refine gw_putI t_Mod C 40 d_Mod_hasLuck_82 k_o_0 (by decide) i_Mod rfl rfl (by decide) qw_1205 rfl rfl t_Mod_ok n_Mod rfl (t_Mod_ok 40 (by decide)) rfl rfl em82 ?_
          refine gw_aload_n C 0 d_Mod_hasLuck_85 rfl rfl ?_
          refine gw_lconst C (1 : Int64) d_Mod_hasLuck_86 (by decide) ?_
          obtain ⟨m87, em87, hf0⟩ := mx_lt hf0
          refine gw_putL t_Mod C 39 d_Mod_hasLuck_87 k_o_0 (by decide) i_Mod rfl rfl (by decide) qw_1204 rfl rfl t_Mod_ok n_Mod rfl (t_Mod_ok 39 (by decide)) rfl rfl em87 ?_
          refine gw_iconst C (0 : Int32) d_Mod_hasLuck_90 (by decide) ?_
          refine gw_istore C [(4, .int (0 : Int32)), (0, .ref (ly_a L o)), (1, .int p1), (2, .int p2), (3, .int q42)] d_Mod_hasLuck_91 (by decide) rfl ?_
          obtain ⟨q93, hq93, hf0⟩ := mx_bd hf0
          have hk93 : ∀ x9, q93 = x9 → GW E L A 7 0 0 Q x9 123 [(0, .ref (ly_a L o)), (1, .int p1), (2, .int p2), (3, .int q42)] [] := by
            intro x9 hx9
            subst hx9
            refine gw_iconst C (1 : Int32) d_Mod_hasLuck_123 (by decide) ?_
            refine gw_istore C [(4, .int (1 : Int32)), (0, .ref (ly_a L o)), (1, .int p1), (2, .int p2), (3, .int q42)] d_Mod_hasLuck_124 (by decide) rfl ?_
            obtain ⟨q126, hq126, hf0⟩ := mx_bd hf0
            have hk126 : ∀ x9, q126 = x9 → GW E L A 7 0 0 Q x9 272 [(0, .ref (ly_a L o))] [] := by
              intro x9 hx9
              subst hx9
              refine gw_aload_n C 0 d_Mod_hasLuck_272 rfl rfl ?_
              refine gw_lconst C (0 : Int64) d_Mod_hasLuck_273 (by decide) ?_
              obtain ⟨m274, em274, hf0⟩ := mx_lt hf0
              refine gw_putL t_Mod C 38 d_Mod_hasLuck_274 k_o_0 (by decide) i_Mod rfl rfl (by decide) qw_1203 rfl rfl t_Mod_ok n_Mod rfl (t_Mod_ok 38 (by decide)) rfl rfl em274 ?_
              refine gw_aload_n C 0 d_Mod_hasLuck_277 rfl rfl ?_
              refine gw_getI C 40 d_Mod_hasLuck_278 k_o_0 (by decide) i_Mod rfl rfl (by decide) qw_1205 rfl rfl ?_
              obtain ⟨x281, ex281, hf0⟩ := mx_lt hf0
              refine gw_topi ex281 ?_
              refine gw_istore C [(4, .int x281), (0, .ref (ly_a L o))] d_Mod_hasLuck_281 (by decide) rfl ?_
              obtain ⟨q283, hq283, hf0⟩ := mx_bd hf0
              have hk283 : ∀ x9, q283 = x9 → GW E L A 7 0 0 Q x9 312 [] [] := by
                intro x9 hx9
                subst hx9
                refine gw_iconst C (1 : Int32) d_Mod_hasLuck_312 (by decide) ?_
                exact en_z hN (Or.inr rfl) hf0 d_Mod_hasLuck_313
              refine gw_sub [1, 0] (lv' := [(0, .ref (ly_a L o)), (4, .int x281)]) rfl ?_
              refine mm_rule hq283 (P := fun (s283 : Int32 × Mm) => GW E L A 7 0 0 Q s283.2 283 [(0, .ref (ly_a L o)), (4, .int s283.1)] []) ?_
              intro s283 ih283 hx283 ⟨w283, hb283⟩
              have hf1 := hb283
              unfold f_Mod_hasLuck_L283 at hf1
              refine gw_iload C 1 d_Mod_hasLuck_283 rfl ?_
              refine gw_bipush C (13 : Int32) d_Mod_hasLuck_285 (by decide) ?_
              refine gw_icmp_ge C 312 d_Mod_hasLuck_287 (by decide) (fun hc => ?_) (fun hc => ?_)
              · replace hf1 := mx_t hc hf1
                exact gw_go [] (hk283 s283.2 (hx283 _ (hb283.trans hf1.symm)).symm) rfl
              · replace hf1 := mx_f hc hf1
                refine gw_aload_n C 0 d_Mod_hasLuck_290 rfl rfl ?_
                refine gw_dup C d_Mod_hasLuck_291 rfl ?_
                refine gw_getL C 38 d_Mod_hasLuck_292 k_o_0 (by decide) i_Mod rfl rfl (by decide) qw_1203 rfl rfl ?_
                refine gw_aload_n C 0 d_Mod_hasLuck_295 rfl rfl ?_
                refine gw_getA C 41 d_Mod_hasLuck_296 k_o_0 (by decide) i_Mod rfl rfl (by decide) qw_1206 rfl rfl (o + 17) rfl ?_
                refine gw_iload C 1 d_Mod_hasLuck_299 rfl ?_
                obtain ⟨x301, hx301, hf1⟩ := mx_bd hf1
                obtain ⟨gx301, ex301⟩ := mx_ldL hx301
                refine gw_lald C d_Mod_hasLuck_301 k_o_17 gx301 ex301 ?_
                refine gw_ladd C d_Mod_hasLuck_302 ?_
                obtain ⟨m303, em303, hf1⟩ := mx_lt hf1
                refine gw_putL t_Mod C 38 d_Mod_hasLuck_303 k_o_0 (by decide) i_Mod rfl rfl (by decide) qw_1203 rfl rfl t_Mod_ok n_Mod rfl (t_Mod_ok 38 (by decide)) rfl rfl em303 ?_
                obtain ⟨x306, ex306, hf1⟩ := mx_lt hf1
                refine gw_iinc C 1 [(4, .int x306), (0, .ref (ly_a L o))] d_Mod_hasLuck_306 rfl (by rw [ex306]; rfl) (by decide) rfl ?_
                refine gw_goto C 283 d_Mod_hasLuck_309 (by decide) ?_
                exact gw_go [1, 0] (ih283 (x306, m303) (hb283.trans hf1.symm)) rfl
            refine gw_sub [1, 2, 3, 4, 0] (lv' := [(0, .ref (ly_a L o)), (1, .int p1), (2, .int p2), (3, .int q42), (4, .int (1 : Int32))]) rfl ?_
            refine mm_rule hq126 (P := fun (s126 : Int32 × Mm) => GW E L A 7 0 0 Q s126.2 126 [(0, .ref (ly_a L o)), (1, .int p1), (2, .int p2), (3, .int q42), (4, .int s126.1)] []) ?_
            intro s126 ih126 hx126 ⟨w126, hb126⟩
            have hj185 : ∀ (v4 : Int32) (t185_1 : Int32) (t185_2 : Int32) (m185 : Mm), f_Mod_hasLuck_J185 (ly_z L) o p1 p2 q42 v4 t185_1 t185_2 m185 = some w126 → GW E L A 7 0 0 Q m185 185 [(0, .ref (ly_a L o)), (1, .int p1), (2, .int p2), (3, .int q42), (4, .int v4)] [.int t185_2, .int t185_1, .ref (ly_a L o)] := by
              intro v4 t185_1 t185_2 m185 hf1
              unfold f_Mod_hasLuck_J185 at hf1
              refine gw_iadd C d_Mod_hasLuck_185 ?_
              obtain ⟨m186, em186, hf1⟩ := mx_lt hf1
              refine gw_putI t_Mod C 40 d_Mod_hasLuck_186 k_o_0 (by decide) i_Mod rfl rfl (by decide) qw_1205 rfl rfl t_Mod_ok n_Mod rfl (t_Mod_ok 40 (by decide)) rfl rfl em186 ?_
              refine gw_iload C 4 d_Mod_hasLuck_189 rfl ?_
              refine gw_istore C [(6, .int v4), (0, .ref (ly_a L o)), (1, .int p1), (2, .int p2), (3, .int q42), (4, .int v4)] d_Mod_hasLuck_191 (by decide) rfl ?_
              obtain ⟨q193, hq193, hf1⟩ := mx_bd hf1
              have hk193 : ∀ x9, q193 = x9 → GW E L A 7 0 0 Q x9 250 [(0, .ref (ly_a L o)), (1, .int p1), (2, .int p2), (3, .int q42), (4, .int v4)] [] := by
                intro x9 hx9
                subst hx9
                refine gw_aload_n C 0 d_Mod_hasLuck_250 rfl rfl ?_
                refine gw_dup C d_Mod_hasLuck_251 rfl ?_
                refine gw_getL C 39 d_Mod_hasLuck_252 k_o_0 (by decide) i_Mod rfl rfl (by decide) qw_1204 rfl rfl ?_
                refine gw_aload_n C 0 d_Mod_hasLuck_255 rfl rfl ?_
                refine gw_getA C 6 d_Mod_hasLuck_256 k_o_0 (by decide) i_Mod rfl rfl (by decide) qw_1171 rfl rfl (o + 2) rfl ?_
                refine gw_iconst C (0 : Int32) d_Mod_hasLuck_259 (by decide) ?_
                obtain ⟨x260, hx260, hf1⟩ := mx_bd hf1
                obtain ⟨gx260, ex260⟩ := mx_ldI hx260
                refine gw_iald C d_Mod_hasLuck_260 k_o_2 gx260 ex260 ?_
                refine gw_i2l C d_Mod_hasLuck_261 ?_
                refine gw_lmul C d_Mod_hasLuck_262 ?_
                obtain ⟨m263, em263, hf1⟩ := mx_lt hf1
                refine gw_putL t_Mod C 39 d_Mod_hasLuck_263 k_o_0 (by decide) i_Mod rfl rfl (by decide) qw_1204 rfl rfl t_Mod_ok n_Mod rfl (t_Mod_ok 39 (by decide)) rfl rfl em263 ?_
                obtain ⟨x266, ex266, hf1⟩ := mx_lt hf1
                refine gw_iinc C 4 [(4, .int x266), (0, .ref (ly_a L o)), (1, .int p1), (2, .int p2), (3, .int q42)] d_Mod_hasLuck_266 rfl (by rw [ex266]; rfl) (by decide) rfl ?_
                refine gw_goto C 126 d_Mod_hasLuck_269 (by decide) ?_
                exact gw_go [1, 2, 3, 4, 0] (ih126 (x266, m263) (hb126.trans hf1.symm)) rfl
              refine gw_sub [1, 2, 3, 4, 5, 0] (lv' := [(0, .ref (ly_a L o)), (1, .int p1), (2, .int p2), (3, .int q42), (4, .int v4), (6, .int v4)]) rfl ?_
              refine mm_rule hq193 (P := fun (s193 : Int32 × Mm) => GW E L A 7 0 0 Q s193.2 193 [(0, .ref (ly_a L o)), (1, .int p1), (2, .int p2), (3, .int q42), (4, .int v4), (6, .int s193.1)] []) ?_
              intro s193 ih193 hx193 ⟨w193, hb193⟩
              have hf2 := hb193
              unfold f_Mod_hasLuck_L193 at hf2
              refine gw_iload C 5 d_Mod_hasLuck_193 rfl ?_
              refine gw_if_lt C 250 d_Mod_hasLuck_195 (by decide) (fun hc => ?_) (fun hc => ?_)
              · replace hf2 := mx_t hc hf2
                exact gw_go [0, 1, 2, 3, 4] (hk193 s193.2 (hx193 _ (hb193.trans hf2.symm)).symm) rfl
              · replace hf2 := mx_f hc hf2
                refine gw_aload_n C 0 d_Mod_hasLuck_198 rfl rfl ?_
                refine gw_getA C 41 d_Mod_hasLuck_199 k_o_0 (by decide) i_Mod rfl rfl (by decide) qw_1206 rfl rfl (o + 17) rfl ?_
                refine gw_iload C 5 d_Mod_hasLuck_202 rfl ?_
                refine gw_aload_n C 0 d_Mod_hasLuck_204 rfl rfl ?_
                refine gw_getA C 41 d_Mod_hasLuck_205 k_o_0 (by decide) i_Mod rfl rfl (by decide) qw_1206 rfl rfl (o + 17) rfl ?_
                refine gw_iload C 5 d_Mod_hasLuck_208 rfl ?_
                obtain ⟨x210, hx210, hf2⟩ := mx_bd hf2
                obtain ⟨gx210, ex210⟩ := mx_ldL hx210
                refine gw_lald C d_Mod_hasLuck_210 k_o_17 gx210 ex210 ?_
                refine gw_aload_n C 0 d_Mod_hasLuck_211 rfl rfl ?_
                refine gw_getA C 6 d_Mod_hasLuck_212 k_o_0 (by decide) i_Mod rfl rfl (by decide) qw_1171 rfl rfl (o + 2) rfl ?_
                refine gw_iconst C (0 : Int32) d_Mod_hasLuck_215 (by decide) ?_
                obtain ⟨x216, hx216, hf2⟩ := mx_bd hf2
                obtain ⟨gx216, ex216⟩ := mx_ldI hx216
                refine gw_iald C d_Mod_hasLuck_216 k_o_2 gx216 ex216 ?_
                refine gw_iload_n C 3 d_Mod_hasLuck_217 rfl rfl ?_
                refine gw_isub C d_Mod_hasLuck_218 ?_
                refine gw_i2l C d_Mod_hasLuck_219 ?_
                refine gw_lmul C d_Mod_hasLuck_220 ?_
                refine gw_iload C 5 d_Mod_hasLuck_221 rfl ?_
                refine gw_if_le C 241 d_Mod_hasLuck_223 (by decide) (fun hc => ?_) (fun hc => ?_)
                · replace hf2 := mx_t hc hf2
                  refine gw_lconst C (0 : Int64) d_Mod_hasLuck_241 (by decide) ?_
                  refine gw_ladd C d_Mod_hasLuck_242 ?_
                  obtain ⟨m243, hm243, hf2⟩ := mx_bd hf2
                  obtain ⟨gm243, em243⟩ := mx_stL hm243
                  refine gw_last C d_Mod_hasLuck_243 k_o_17 gm243 em243 ?_
                  obtain ⟨x244, ex244, hf2⟩ := mx_lt hf2
                  refine gw_iinc C 5 [(6, .int x244), (0, .ref (ly_a L o)), (1, .int p1), (2, .int p2), (3, .int q42), (4, .int v4)] d_Mod_hasLuck_244 rfl (by rw [ex244]; rfl) (by decide) rfl ?_
                  refine gw_goto C 193 d_Mod_hasLuck_247 (by decide) ?_
                  exact gw_go [1, 2, 3, 4, 5, 0] (ih193 (x244, m243) (hb193.trans hf2.symm)) rfl
                · replace hf2 := mx_f hc hf2
                  refine gw_aload_n C 0 d_Mod_hasLuck_226 rfl rfl ?_
                  refine gw_getA C 41 d_Mod_hasLuck_227 k_o_0 (by decide) i_Mod rfl rfl (by decide) qw_1206 rfl rfl (o + 17) rfl ?_
                  refine gw_iload C 5 d_Mod_hasLuck_230 rfl ?_
                  refine gw_iconst C (1 : Int32) d_Mod_hasLuck_232 (by decide) ?_
                  refine gw_isub C d_Mod_hasLuck_233 ?_
                  obtain ⟨x234, hx234, hf2⟩ := mx_bd hf2
                  obtain ⟨gx234, ex234⟩ := mx_ldL hx234
                  refine gw_lald C d_Mod_hasLuck_234 k_o_17 gx234 ex234 ?_
                  refine gw_iload_n C 3 d_Mod_hasLuck_235 rfl rfl ?_
                  refine gw_i2l C d_Mod_hasLuck_236 ?_
                  refine gw_lmul C d_Mod_hasLuck_237 ?_
                  refine gw_goto C 242 d_Mod_hasLuck_238 (by decide) ?_
                  refine gw_ladd C d_Mod_hasLuck_242 ?_
                  obtain ⟨m243, hm243, hf2⟩ := mx_bd hf2
                  obtain ⟨gm243, em243⟩ := mx_stL hm243
                  refine gw_last C d_Mod_hasLuck_243 k_o_17 gm243 em243 ?_
                  obtain ⟨x244, ex244, hf2⟩ := mx_lt hf2
                  refine gw_iinc C 5 [(6, .int x244), (0, .ref (ly_a L o)), (1, .int p1), (2, .int p2), (3, .int q42), (4, .int v4)] d_Mod_hasLuck_244 rfl (by rw [ex244]; rfl) (by decide) rfl ?_
                  refine gw_goto C 193 d_Mod_hasLuck_247 (by decide) ?_
                  exact gw_go [1, 2, 3, 4, 5, 0] (ih193 (x244, m243) (hb193.trans hf2.symm)) rfl
            have hf1 := hb126
            unfold f_Mod_hasLuck_L126 at hf1
            refine gw_iload C 4 d_Mod_hasLuck_126 rfl ?_
            refine gw_aload_n C 0 d_Mod_hasLuck_128 rfl rfl ?_
            refine gw_getA C 6 d_Mod_hasLuck_129 k_o_0 (by decide) i_Mod rfl rfl (by decide) qw_1171 rfl rfl (o + 2) rfl ?_
            refine gw_sipush C (131 : Int32) d_Mod_hasLuck_132 (by decide) ?_
            obtain ⟨x135, hx135, hf1⟩ := mx_bd hf1
            obtain ⟨gx135, ex135⟩ := mx_ldI hx135
            refine gw_iald C d_Mod_hasLuck_135 k_o_2 gx135 ex135 ?_
            refine gw_icmp_gt C 272 d_Mod_hasLuck_136 (by decide) (fun hc => ?_) (fun hc => ?_)
            · replace hf1 := mx_t hc hf1
              exact gw_go [0] (hk126 s126.2 (hx126 _ (hb126.trans hf1.symm)).symm) rfl
            · replace hf1 := mx_f hc hf1
              refine gw_aload_n C 0 d_Mod_hasLuck_139 rfl rfl ?_
              refine gw_getA C 6 d_Mod_hasLuck_140 k_o_0 (by decide) i_Mod rfl rfl (by decide) qw_1171 rfl rfl (o + 2) rfl ?_
              refine gw_sipush C (332 : Int32) d_Mod_hasLuck_143 (by decide) ?_
              refine gw_bipush C (8 : Int32) d_Mod_hasLuck_146 (by decide) ?_
              refine gw_iload C 4 d_Mod_hasLuck_148 rfl ?_
              refine gw_imul C d_Mod_hasLuck_150 ?_
              refine gw_iadd C d_Mod_hasLuck_151 ?_
              refine gw_iload_n C 1 d_Mod_hasLuck_152 rfl rfl ?_
              refine gw_iadd C d_Mod_hasLuck_153 ?_
              obtain ⟨x154, hx154, hf1⟩ := mx_bd hf1
              obtain ⟨gx154, ex154⟩ := mx_ldI hx154
              refine gw_iald C d_Mod_hasLuck_154 k_o_2 gx154 ex154 ?_
              refine gw_istore C [(5, .int x154), (0, .ref (ly_a L o)), (1, .int p1), (2, .int p2), (3, .int q42), (4, .int s126.1)] d_Mod_hasLuck_155 (by decide) rfl ?_
              refine gw_aload_n C 1 d_Mod_hasLuck_157 rfl rfl ?_
              refine gw_dup C d_Mod_hasLuck_158 rfl ?_
              refine gw_getI C 40 d_Mod_hasLuck_159 k_o_0 (by decide) i_Mod rfl rfl (by decide) qw_1205 rfl rfl ?_
              refine gw_iload C 0 d_Mod_hasLuck_162 rfl ?_
              refine gw_if_lt C 184 d_Mod_hasLuck_164 (by decide) (fun hc => ?_) (fun hc => ?_)
              · replace hf1 := mx_t hc hf1
                refine gw_iconst C (0 : Int32) d_Mod_hasLuck_184 (by decide) ?_
                exact gw_go [1, 2, 3, 4, 5] (hj185 _ _ _ _ hf1) rfl
              · replace hf1 := mx_f hc hf1
                refine gw_aload_n C 1 d_Mod_hasLuck_167 rfl rfl ?_
                refine gw_getA C 6 d_Mod_hasLuck_168 k_o_0 (by decide) i_Mod rfl rfl (by decide) qw_1171 rfl rfl (o + 2) rfl ?_
                refine gw_iconst C (5 : Int32) d_Mod_hasLuck_171 (by decide) ?_
                refine gw_iload C 0 d_Mod_hasLuck_172 rfl ?_
                refine gw_iadd C d_Mod_hasLuck_174 ?_
                obtain ⟨x175, hx175, hf1⟩ := mx_bd hf1
                obtain ⟨gx175, ex175⟩ := mx_ldI hx175
                refine gw_iald C d_Mod_hasLuck_175 k_o_2 gx175 ex175 ?_
                refine gw_iload_n C 3 d_Mod_hasLuck_176 rfl rfl ?_
                refine gw_icmp_lt C 184 d_Mod_hasLuck_177 (by decide) (fun hc => ?_) (fun hc => ?_)
                · replace hf1 := mx_t hc hf1
                  refine gw_iconst C (0 : Int32) d_Mod_hasLuck_184 (by decide) ?_
                  exact gw_go [1, 2, 3, 4, 5] (hj185 _ _ _ _ hf1) rfl
                · replace hf1 := mx_f hc hf1
                  refine gw_iconst C (1 : Int32) d_Mod_hasLuck_180 (by decide) ?_
                  refine gw_goto C 185 d_Mod_hasLuck_181 (by decide) ?_
                  exact gw_go [1, 2, 3, 4, 5] (hj185 _ _ _ _ hf1) rfl
          refine gw_sub [1, 2, 3, 4, 0] (lv' := [(0, .ref (ly_a L o)), (1, .int p1), (2, .int p2), (3, .int q42), (4, .int (0 : Int32))]) rfl ?_
          refine mm_rule hq93 (P := fun (s93 : Int32 × Mm) => GW E L A 7 0 0 Q s93.2 93 [(0, .ref (ly_a L o)), (1, .int p1), (2, .int p2), (3, .int q42), (4, .int s93.1)] []) ?_
          intro s93 ih93 hx93 ⟨w93, hb93⟩
          have hf1 := hb93
          unfold f_Mod_hasLuck_L93 at hf1
          refine gw_iload C 4 d_Mod_hasLuck_93 rfl ?_
          refine gw_bipush C (13 : Int32) d_Mod_hasLuck_95 (by decide) ?_
          refine gw_icmp_ge C 123 d_Mod_hasLuck_97 (by decide) (fun hc => ?_) (fun hc => ?_)
          · replace hf1 := mx_t hc hf1
            exact gw_go [0, 1, 2, 3] (hk93 s93.2 (hx93 _ (hb93.trans hf1.symm)).symm) rfl
          · replace hf1 := mx_f hc hf1
            refine gw_aload_n C 0 d_Mod_hasLuck_100 rfl rfl ?_
            refine gw_getA C 41 d_Mod_hasLuck_101 k_o_0 (by decide) i_Mod rfl rfl (by decide) qw_1206 rfl rfl (o + 17) rfl ?_
            refine gw_iload C 4 d_Mod_hasLuck_104 rfl ?_
            refine gw_iload C 4 d_Mod_hasLuck_106 rfl ?_
            refine gw_if_ne C 115 d_Mod_hasLuck_108 (by decide) (fun hc => ?_) (fun hc => ?_)
            · replace hf1 := mx_f hc hf1
              refine gw_lconst C (0 : Int64) d_Mod_hasLuck_115 (by decide) ?_
              obtain ⟨m116, hm116, hf1⟩ := mx_bd hf1
              obtain ⟨gm116, em116⟩ := mx_stL hm116
              refine gw_last C d_Mod_hasLuck_116 k_o_17 gm116 em116 ?_
              obtain ⟨x117, ex117, hf1⟩ := mx_lt hf1
              refine gw_iinc C 4 [(4, .int x117), (0, .ref (ly_a L o)), (1, .int p1), (2, .int p2), (3, .int q42)] d_Mod_hasLuck_117 rfl (by rw [ex117]; rfl) (by decide) rfl ?_
              refine gw_goto C 93 d_Mod_hasLuck_120 (by decide) ?_
              exact gw_go [1, 2, 3, 4, 0] (ih93 (x117, m116) (hb93.trans hf1.symm)) rfl
            · replace hf1 := mx_t hc hf1
              refine gw_lconst C (1 : Int64) d_Mod_hasLuck_111 (by decide) ?_
              refine gw_goto C 116 d_Mod_hasLuck_112 (by decide) ?_
              obtain ⟨m116, hm116, hf1⟩ := mx_bd hf1
              obtain ⟨gm116, em116⟩ := mx_stL hm116
              refine gw_last C d_Mod_hasLuck_116 k_o_17 gm116 em116 ?_
              obtain ⟨x117, ex117, hf1⟩ := mx_lt hf1
              refine gw_iinc C 4 [(4, .int x117), (0, .ref (ly_a L o)), (1, .int p1), (2, .int p2), (3, .int q42)] d_Mod_hasLuck_117 rfl (by rw [ex117]; rfl) (by decide) rfl ?_
              refine gw_goto C 93 d_Mod_hasLuck_120 (by decide) ?_
              exact gw_go [1, 2, 3, 4, 0] (ih93 (x117, m116) (hb93.trans hf1.symm)) rfl
        refine gw_sub [2, 3, 4, 1, 0] (lv' := [(0, .ref (ly_a L o)), (1, .int p1), (2, .int p2), (3, .int (0 : Int32)), (4, .int (0 : Int32))]) rfl ?_
        refine mm_rule hq42 (P := fun (s42 : Int32 × Int32) => GW E L A 7 0 0 Q σ 42 [(0, .ref (ly_a L o)), (1, .int p1), (2, .int p2), (3, .int s42.1), (4, .int s42.2)] []) ?_
        intro s42 ih42 hx42 ⟨w42, hb42⟩
        have hf1 := hb42
        unfold f_Mod_hasLuck_L42 at hf1
        refine gw_iload C 4 d_Mod_hasLuck_42 rfl ?_
        refine gw_aload_n C 0 d_Mod_hasLuck_44 rfl rfl ?_
        refine gw_getA C 6 d_Mod_hasLuck_45 k_o_0 (by decide) i_Mod rfl rfl (by decide) qw_1171 rfl rfl (o + 2) rfl ?_
        refine gw_iconst C (0 : Int32) d_Mod_hasLuck_48 (by decide) ?_
        obtain ⟨x49, hx49, hf1⟩ := mx_bd hf1
        obtain ⟨gx49, ex49⟩ := mx_ldI hx49
        refine gw_iald C d_Mod_hasLuck_49 k_o_2 gx49 ex49 ?_
        refine gw_icmp_ge C 80 d_Mod_hasLuck_50 (by decide) (fun hc => ?_) (fun hc => ?_)
        · replace hf1 := mx_t hc hf1
          exact gw_go [0, 1, 2, 3] (hk42 s42.1 (hx42 _ (hb42.trans hf1.symm)).symm) rfl
        · replace hf1 := mx_f hc hf1
          refine gw_iload_n C 3 d_Mod_hasLuck_53 rfl rfl ?_
          refine gw_aload_n C 0 d_Mod_hasLuck_54 rfl rfl ?_
          refine gw_getA C 6 d_Mod_hasLuck_55 k_o_0 (by decide) i_Mod rfl rfl (by decide) qw_1171 rfl rfl (o + 2) rfl ?_
          refine gw_iconst C (5 : Int32) d_Mod_hasLuck_58 (by decide) ?_
          refine gw_iload C 4 d_Mod_hasLuck_59 rfl ?_
          refine gw_iadd C d_Mod_hasLuck_61 ?_
          obtain ⟨x62, hx62, hf1⟩ := mx_bd hf1
          obtain ⟨gx62, ex62⟩ := mx_ldI hx62
          refine gw_iald C d_Mod_hasLuck_62 k_o_2 gx62 ex62 ?_
          refine gw_iload_n C 2 d_Mod_hasLuck_63 rfl rfl ?_
          refine gw_icmp_lt C 71 d_Mod_hasLuck_64 (by decide) (fun hc => ?_) (fun hc => ?_)
          · replace hf1 := mx_t hc hf1
            refine gw_iconst C (0 : Int32) d_Mod_hasLuck_71 (by decide) ?_
            refine gw_iadd C d_Mod_hasLuck_72 ?_
            obtain ⟨x73, ex73, hf1⟩ := mx_lt hf1
            refine gw_topi ex73 ?_
            refine gw_istore_n C [(3, .int x73), (0, .ref (ly_a L o)), (1, .int p1), (2, .int p2), (4, .int s42.2)] d_Mod_hasLuck_73 rfl (by decide) rfl ?_
            obtain ⟨x74, ex74, hf1⟩ := mx_lt hf1
            refine gw_iinc C 4 [(4, .int x74), (3, .int x73), (0, .ref (ly_a L o)), (1, .int p1), (2, .int p2)] d_Mod_hasLuck_74 rfl (by rw [ex74]; rfl) (by decide) rfl ?_
            refine gw_goto C 42 d_Mod_hasLuck_77 (by decide) ?_
            exact gw_go [2, 3, 4, 1, 0] (ih42 (x73, x74) (hb42.trans hf1.symm)) rfl
          · replace hf1 := mx_f hc hf1
            refine gw_iconst C (1 : Int32) d_Mod_hasLuck_67 (by decide) ?_
            refine gw_goto C 72 d_Mod_hasLuck_68 (by decide) ?_
            refine gw_iadd C d_Mod_hasLuck_72 ?_
            obtain ⟨x73, ex73, hf1⟩ := mx_lt hf1
            refine gw_topi ex73 ?_
            refine gw_istore_n C [(3, .int x73), (0, .ref (ly_a L o)), (1, .int p1), (2, .int p2), (4, .int s42.2)] d_Mod_hasLuck_73 rfl (by decide) rfl ?_
            obtain ⟨x74, ex74, hf1⟩ := mx_lt hf1
            refine gw_iinc C 4 [(4, .int x74), (3, .int x73), (0, .ref (ly_a L o)), (1, .int p1), (2, .int p2)] d_Mod_hasLuck_74 rfl (by rw [ex74]; rfl) (by decide) rfl ?_
            refine gw_goto C 42 d_Mod_hasLuck_77 (by decide) ?_
            exact gw_go [2, 3, 4, 1, 0] (ih42 (x73, x74) (hb42.trans hf1.symm)) rfl
      · replace hf0 := mx_t hc hf0
        refine gw_iconst C (0 : Int32) d_Mod_hasLuck_35 (by decide) ?_
        exact en_z hN (Or.inl rfl) hf0 d_Mod_hasLuck_36

/-! NameHatModel.luck(III)J -/
abbrev b_Mod_luck : ByteArray := prog_14_method_83_code
def y_Mod_luck : MethodName := ⟨"NameHatModel", "luck", "(III)J"⟩
abbrev rm_Mod_luck : Room := { frames := 3, cells := 0, slots := 0, locals := 69 }
theorem hd_Mod_luck : y_Mod_luck.cls ≠ "java/lang/invoke/MethodHandle" ∧ y_Mod_luck.cls ≠ "java/lang/invoke/VarHandle" ∧ (parseMethodDescriptor y_Mod_luck.desc).map (fun d => d.parameters.length) = some 3 := by decide +kernel
theorem d_Mod_luck_0 : decode b_Mod_luck 0 = .ok (.aload_n 0, 1) := by decide +kernel
theorem d_Mod_luck_1 : decode b_Mod_luck 1 = .ok (.iload_n 3, 1) := by decide +kernel
theorem d_Mod_luck_2 : decode b_Mod_luck 2 = .ok (.iconst 0, 1) := by decide +kernel
theorem d_Mod_luck_3 : decode b_Mod_luck 3 = .ok (.iconst 2, 1) := by decide +kernel
theorem d_Mod_luck_4 : decode b_Mod_luck 4 = .ok (.invokestatic 175, 3) := by decide +kernel
theorem d_Mod_luck_7 : decode b_Mod_luck 7 = .ok (.ifCond .eq 12, 3) := by decide +kernel
theorem d_Mod_luck_10 : decode b_Mod_luck 10 = .ok (.aload_n 0, 1) := by decide +kernel
theorem d_Mod_luck_11 : decode b_Mod_luck 11 = .ok (.iload_n 1, 1) := by decide +kernel
theorem d_Mod_luck_12 : decode b_Mod_luck 12 = .ok (.iload_n 2, 1) := by decide +kernel
theorem d_Mod_luck_13 : decode b_Mod_luck 13 = .ok (.invokevirtual 345, 3) := by decide +kernel
theorem d_Mod_luck_16 : decode b_Mod_luck 16 = .ok (.ifCond .ne 7, 3) := by decide +kernel
theorem d_Mod_luck_19 : decode b_Mod_luck 19 = .ok (.iconst 1, 1) := by decide +kernel
theorem d_Mod_luck_20 : decode b_Mod_luck 20 = .ok (.goto 4, 3) := by decide +kernel
theorem d_Mod_luck_23 : decode b_Mod_luck 23 = .ok (.iconst 0, 1) := by decide +kernel
theorem d_Mod_luck_24 : decode b_Mod_luck 24 = .ok (.invokevirtual 244, 3) := by decide +kernel
theorem d_Mod_luck_27 : decode b_Mod_luck 27 = .ok (.ifCond .eq 5, 3) := by decide +kernel
theorem d_Mod_luck_30 : decode b_Mod_luck 30 = .ok (.lconst 0, 1) := by decide +kernel
theorem d_Mod_luck_31 : decode b_Mod_luck 31 = .ok (.lreturn, 1) := by decide +kernel
theorem d_Mod_luck_32 : decode b_Mod_luck 32 = .ok (.iload_n 3, 1) := by decide +kernel
theorem d_Mod_luck_33 : decode b_Mod_luck 33 = .ok (.iconst 2, 1) := by decide +kernel
theorem d_Mod_luck_34 : decode b_Mod_luck 34 = .ok (.if_icmp .ne 11, 3) := by decide +kernel
theorem d_Mod_luck_37 : decode b_Mod_luck 37 = .ok (.aload_n 0, 1) := by decide +kernel
theorem d_Mod_luck_38 : decode b_Mod_luck 38 = .ok (.getfield 336, 3) := by decide +kernel
theorem d_Mod_luck_41 : decode b_Mod_luck 41 = .ok (.i2l, 1) := by decide +kernel
theorem d_Mod_luck_42 : decode b_Mod_luck 42 = .ok (.goto 15, 3) := by decide +kernel
theorem d_Mod_luck_45 : decode b_Mod_luck 45 = .ok (.aload_n 0, 1) := by decide +kernel
theorem d_Mod_luck_46 : decode b_Mod_luck 46 = .ok (.getfield 342, 3) := by decide +kernel
theorem d_Mod_luck_49 : decode b_Mod_luck 49 = .ok (.aload_n 0, 1) := by decide +kernel
theorem d_Mod_luck_50 : decode b_Mod_luck 50 = .ok (.getfield 339, 3) := by decide +kernel
theorem d_Mod_luck_53 : decode b_Mod_luck 53 = .ok (.iload_n 3, 1) := by decide +kernel
theorem d_Mod_luck_54 : decode b_Mod_luck 54 = .ok (.invokestatic 316, 3) := by decide +kernel
theorem d_Mod_luck_57 : decode b_Mod_luck 57 = .ok (.lreturn, 1) := by decide +kernel
noncomputable def f_Mod_luck_J24 (z : Nat → Nat) (o : Nat) (v3 : Int32) (t24_1 : Int32) (m24 : Mm) : Option (Int64 × Mm) :=
  (f_Mod_throwsIf z m24 o t24_1).bind fun q24 =>
  if q24.1 = 0 then (
    if v3 = (2 : Int32) then (
      some ((Int32.toInt64 (q24.2.1 o 40)), q24.2)
    ) else (
      (f_Mod_part z q24.2 (q24.2.2 o 38) (q24.2.2 o 39) v3).bind fun q54 =>
      some (q54, q24.2)
    )
  ) else (
    some ((0 : Int64), q24.2)
  )
noncomputable def f_Mod_luck (z : Nat → Nat) (σ : Mm) (o : Nat) (p1 : Int32) (p2 : Int32) (p3 : Int32) : Option (Int64 × Mm) :=
  (f_Mod_isIn z σ p3 (0 : Int32) (2 : Int32)).bind fun q4 =>
  if q4 = 0 then (
    f_Mod_luck_J24 z o p3 (1 : Int32) σ
  ) else (
    (f_Mod_hasLuck z σ o p1 p2).bind fun q13 =>
    if q13.1 = 0 then (
      f_Mod_luck_J24 z o p3 (1 : Int32) q13.2
    ) else (
      f_Mod_luck_J24 z o p3 (0 : Int32) q13.2
    )
  )
set_option maxHeartbeats 4000000 in
set_option maxRecDepth 100000 in
theorem c_Mod_luck (l : Launch) {L : Ly} (hg : gd_ok L) {σ : Mm} {o : Nat} {p1 : Int32} {p2 : Int32} {p3 : Int32} (k_o_0 : ly_k L o = 11) {res : Int64 × Mm} (hf0 : f_Mod_luck (ly_z L) σ o p1 p2 p3 = some res) : CtL l y_Mod_luck b_Mod_luck 4 (some .long) rm_Mod_luck L [.ref (ly_a L o), .int p1, .int p2, .int p3] σ res.1 res.2 := by
  refine ct_l hg (by decide) (Nat.le_of_ble_eq_true rfl) ?_
  intro E A Q hE C hN
  subst hE
  unfold f_Mod_luck at hf0
  show GW E L A 4 0 0 Q σ 0 [(0, .ref (ly_a L o)), (1, .int p1), (2, .int p2), (3, .int p3)] []
  have hj24 : ∀ (v3 : Int32) (t24_1 : Int32) (m24 : Mm), f_Mod_luck_J24 (ly_z L) o v3 t24_1 m24 = some res → GW E L A 4 0 0 Q m24 24 [(0, .ref (ly_a L o)), (3, .int v3)] [.int t24_1, .ref (ly_a L o)] := by
    intro v3 t24_1 m24 hf0
    unfold f_Mod_luck_J24 at hf0
    obtain ⟨q24, hq24, hf0⟩ := mx_bd hf0
    refine gw_callI C (c_Mod_throwsIf _ hg k_o_0 hq24) d_Mod_luck_24 1 qw_1398 qw_1400 qs_55 qw_12 qw_1401 k_o_0 (by decide) rfl hd_Mod_throwsIf rfl rfl (Nat.le_of_ble_eq_true rfl) ⟨rfl, rfl, Nat.le_of_ble_eq_true rfl, Nat.le_of_ble_eq_true rfl⟩ ⟨Nat.zero_le _, Nat.zero_le _⟩ ?_
    refine gw_if_eq C 32 d_Mod_luck_27 (by decide) (fun hc => ?_) (fun hc => ?_)
    · replace hf0 := mx_t hc hf0
      refine gw_iload_n C 1 d_Mod_luck_32 rfl rfl ?_
      refine gw_iconst C (2 : Int32) d_Mod_luck_33 (by decide) ?_
      refine gw_icmp_ne C 45 d_Mod_luck_34 (by decide) (fun hc => ?_) (fun hc => ?_)
      · replace hf0 := mx_f hc hf0
        refine gw_aload_n C 0 d_Mod_luck_45 rfl rfl ?_
        refine gw_getL C 38 d_Mod_luck_46 k_o_0 (by decide) i_Mod rfl rfl (by decide) qw_1203 rfl rfl ?_
        refine gw_aload_n C 0 d_Mod_luck_49 rfl rfl ?_
        refine gw_getL C 39 d_Mod_luck_50 k_o_0 (by decide) i_Mod rfl rfl (by decide) qw_1204 rfl rfl ?_
        refine gw_iload_n C 1 d_Mod_luck_53 rfl rfl ?_
        obtain ⟨q54, hq54, hf0⟩ := mx_bd hf0
        refine gw_callLS C (c_Mod_part _ hg hq54) d_Mod_luck_54 3 qw_1530 qw_1531 qw_12 qw_1532 hd_Mod_part rfl rfl (Nat.le_of_ble_eq_true rfl) ⟨rfl, rfl, Nat.le_of_ble_eq_true rfl, Nat.le_of_ble_eq_true rfl⟩ ⟨Nat.zero_le _, Nat.zero_le _⟩ ?_
        exact en_l hN hf0 d_Mod_luck_57
      · replace hf0 := mx_t hc hf0
        refine gw_aload_n C 0 d_Mod_luck_37 rfl rfl ?_
        refine gw_getI C 40 d_Mod_luck_38 k_o_0 (by decide) i_Mod rfl rfl (by decide) qw_1205 rfl rfl ?_
        refine gw_i2l C d_Mod_luck_41 ?_
        refine gw_goto C 57 d_Mod_luck_42 (by decide) ?_
        exact en_l hN hf0 d_Mod_luck_57
    · replace hf0 := mx_f hc hf0
      refine gw_lconst C (0 : Int64) d_Mod_luck_30 (by decide) ?_
      exact en_l hN hf0 d_Mod_luck_31
  refine gw_aload_n C 0 d_Mod_luck_0 rfl rfl ?_
  refine gw_iload_n C 3 d_Mod_luck_1 rfl rfl ?_
  refine gw_iconst C (0 : Int32) d_Mod_luck_2 (by decide) ?_
  refine gw_iconst C (2 : Int32) d_Mod_luck_3 (by decide) ?_
  obtain ⟨q4, hq4, hf0⟩ := mx_bd hf0
  refine gw_callIS C (c_Mod_isIn _ hg hq4) d_Mod_luck_4 3 qw_1356 qw_1357 qw_12 qw_1358 hd_Mod_isIn rfl rfl (Nat.le_of_ble_eq_true rfl) ⟨rfl, rfl, Nat.le_of_ble_eq_true rfl, Nat.le_of_ble_eq_true rfl⟩ ⟨Nat.zero_le _, Nat.zero_le _⟩ ?_
  refine gw_if_eq C 19 d_Mod_luck_7 (by decide) (fun hc => ?_) (fun hc => ?_)
  · replace hf0 := mx_t hc hf0
    refine gw_iconst C (1 : Int32) d_Mod_luck_19 (by decide) ?_
    refine gw_goto C 24 d_Mod_luck_20 (by decide) ?_
    exact gw_go [0, 3] (hj24 _ _ _ hf0) rfl
  · replace hf0 := mx_f hc hf0
    refine gw_aload_n C 0 d_Mod_luck_10 rfl rfl ?_
    refine gw_iload_n C 1 d_Mod_luck_11 rfl rfl ?_
    refine gw_iload_n C 2 d_Mod_luck_12 rfl rfl ?_
    obtain ⟨q13, hq13, hf0⟩ := mx_bd hf0
    refine gw_callI C (c_Mod_hasLuck _ hg k_o_0 hq13) d_Mod_luck_13 2 qw_1605 qw_1607 qs_77 qw_12 qw_1608 k_o_0 (by decide) rfl hd_Mod_hasLuck rfl rfl (Nat.le_of_ble_eq_true rfl) ⟨rfl, rfl, Nat.le_of_ble_eq_true rfl, Nat.le_of_ble_eq_true rfl⟩ ⟨Nat.zero_le _, Nat.zero_le _⟩ ?_
    refine gw_if_ne C 23 d_Mod_luck_16 (by decide) (fun hc => ?_) (fun hc => ?_)
    · replace hf0 := mx_f hc hf0
      refine gw_iconst C (0 : Int32) d_Mod_luck_23 (by decide) ?_
      exact gw_go [0, 3] (hj24 _ _ _ hf0) rfl
    · replace hf0 := mx_t hc hf0
      refine gw_iconst C (1 : Int32) d_Mod_luck_19 (by decide) ?_
      refine gw_goto C 24 d_Mod_luck_20 (by decide) ?_
      exact gw_go [0, 3] (hj24 _ _ _ hf0) rfl

/-! NameHatModel.unfair(IIII)I -/
abbrev b_Mod_unfair : ByteArray := prog_14_method_84_code
def y_Mod_unfair : MethodName := ⟨"NameHatModel", "unfair", "(IIII)I"⟩
abbrev rm_Mod_unfair : Room := { frames := 3, cells := 0, slots := 0, locals := 69 }
theorem hd_Mod_unfair : y_Mod_unfair.cls ≠ "java/lang/invoke/MethodHandle" ∧ y_Mod_unfair.cls ≠ "java/lang/invoke/VarHandle" ∧ (parseMethodDescriptor y_Mod_unfair.desc).map (fun d => d.parameters.length) = some 4 := by decide +kernel
theorem d_Mod_unfair_0 : decode b_Mod_unfair 0 = .ok (.aload_n 0, 1) := by decide +kernel
theorem d_Mod_unfair_1 : decode b_Mod_unfair 1 = .ok (.iconst 0, 1) := by decide +kernel
theorem d_Mod_unfair_2 : decode b_Mod_unfair 2 = .ok (.putfield 1, 3) := by decide +kernel
theorem d_Mod_unfair_5 : decode b_Mod_unfair 5 = .ok (.iload_n 3, 1) := by decide +kernel
theorem d_Mod_unfair_6 : decode b_Mod_unfair 6 = .ok (.iconst 0, 1) := by decide +kernel
theorem d_Mod_unfair_7 : decode b_Mod_unfair 7 = .ok (.sipush 999, 3) := by decide +kernel
theorem d_Mod_unfair_10 : decode b_Mod_unfair 10 = .ok (.invokestatic 175, 3) := by decide +kernel
theorem d_Mod_unfair_13 : decode b_Mod_unfair 13 = .ok (.ifCond .eq 24, 3) := by decide +kernel
theorem d_Mod_unfair_16 : decode b_Mod_unfair 16 = .ok (.iload 4, 2) := by decide +kernel
theorem d_Mod_unfair_18 : decode b_Mod_unfair 18 = .ok (.iconst 1, 1) := by decide +kernel
theorem d_Mod_unfair_19 : decode b_Mod_unfair 19 = .ok (.sipush 999, 3) := by decide +kernel
theorem d_Mod_unfair_22 : decode b_Mod_unfair 22 = .ok (.invokestatic 175, 3) := by decide +kernel
theorem d_Mod_unfair_25 : decode b_Mod_unfair 25 = .ok (.ifCond .eq 12, 3) := by decide +kernel
theorem d_Mod_unfair_28 : decode b_Mod_unfair 28 = .ok (.aload_n 0, 1) := by decide +kernel
theorem d_Mod_unfair_29 : decode b_Mod_unfair 29 = .ok (.iload_n 1, 1) := by decide +kernel
theorem d_Mod_unfair_30 : decode b_Mod_unfair 30 = .ok (.iload_n 2, 1) := by decide +kernel
theorem d_Mod_unfair_31 : decode b_Mod_unfair 31 = .ok (.invokevirtual 345, 3) := by decide +kernel
theorem d_Mod_unfair_34 : decode b_Mod_unfair 34 = .ok (.ifCond .ne 5, 3) := by decide +kernel
theorem d_Mod_unfair_37 : decode b_Mod_unfair 37 = .ok (.iconst (-1), 1) := by decide +kernel
theorem d_Mod_unfair_38 : decode b_Mod_unfair 38 = .ok (.ireturn, 1) := by decide +kernel
theorem d_Mod_unfair_39 : decode b_Mod_unfair 39 = .ok (.aload_n 0, 1) := by decide +kernel
theorem d_Mod_unfair_40 : decode b_Mod_unfair 40 = .ok (.getfield 342, 3) := by decide +kernel
theorem d_Mod_unfair_43 : decode b_Mod_unfair 43 = .ok (.iload 4, 2) := by decide +kernel
theorem d_Mod_unfair_45 : decode b_Mod_unfair 45 = .ok (.i2l, 1) := by decide +kernel
theorem d_Mod_unfair_46 : decode b_Mod_unfair 46 = .ok (.lmul, 1) := by decide +kernel
theorem d_Mod_unfair_47 : decode b_Mod_unfair 47 = .ok (.aload_n 0, 1) := by decide +kernel
theorem d_Mod_unfair_48 : decode b_Mod_unfair 48 = .ok (.getfield 339, 3) := by decide +kernel
theorem d_Mod_unfair_51 : decode b_Mod_unfair 51 = .ok (.iload_n 3, 1) := by decide +kernel
theorem d_Mod_unfair_52 : decode b_Mod_unfair 52 = .ok (.i2l, 1) := by decide +kernel
theorem d_Mod_unfair_53 : decode b_Mod_unfair 53 = .ok (.lmul, 1) := by decide +kernel
theorem d_Mod_unfair_54 : decode b_Mod_unfair 54 = .ok (.lcmp, 1) := by decide +kernel
theorem d_Mod_unfair_55 : decode b_Mod_unfair 55 = .ok (.ifCond .gt 7, 3) := by decide +kernel
theorem d_Mod_unfair_58 : decode b_Mod_unfair 58 = .ok (.iconst 1, 1) := by decide +kernel
theorem d_Mod_unfair_59 : decode b_Mod_unfair 59 = .ok (.goto 4, 3) := by decide +kernel
theorem d_Mod_unfair_62 : decode b_Mod_unfair 62 = .ok (.iconst 0, 1) := by decide +kernel
theorem d_Mod_unfair_63 : decode b_Mod_unfair 63 = .ok (.ireturn, 1) := by decide +kernel
noncomputable def f_Mod_unfair (z : Nat → Nat) (σ : Mm) (o : Nat) (p1 : Int32) (p2 : Int32) (p3 : Int32) (p4 : Int32) : Option (Int32 × Mm) :=
  mm_lt (kI σ o 0 (0 : Int32)) fun m2 =>
  (f_Mod_isIn z m2 p3 (0 : Int32) (999 : Int32)).bind fun q10 =>
  if q10 = 0 then (
    some (((-1) : Int32), m2)
  ) else (
    (f_Mod_isIn z m2 p4 (1 : Int32) (999 : Int32)).bind fun q22 =>
    if q22 = 0 then (
      some (((-1) : Int32), m2)
    ) else (
      (f_Mod_hasLuck z m2 o p1 p2).bind fun q31 =>
      if q31.1 = 0 then (
        some (((-1) : Int32), q31.2)
      ) else (
        if 0 < (lg_cmp ((q31.2.2 o 38) * (Int32.toInt64 p4)) ((q31.2.2 o 39) * (Int32.toInt64 p3))) then (
          some ((0 : Int32), q31.2)
        ) else (
          some ((1 : Int32), q31.2)
        )
      )
    )
  )
set_option maxHeartbeats 4000000 in
set_option maxRecDepth 100000 in
theorem c_Mod_unfair (l : Launch) {L : Ly} (hg : gd_ok L) {σ : Mm} {o : Nat} {p1 : Int32} {p2 : Int32} {p3 : Int32} {p4 : Int32} (k_o_0 : ly_k L o = 11) {res : Int32 × Mm} (hf0 : f_Mod_unfair (ly_z L) σ o p1 p2 p3 p4 = some res) : CtI l y_Mod_unfair b_Mod_unfair 5 (some .int) rm_Mod_unfair L [.ref (ly_a L o), .int p1, .int p2, .int p3, .int p4] σ res.1 res.2 := by
  refine ct_i hg (by decide) (Nat.le_of_ble_eq_true rfl) ?_
  intro E A Q hE C hN
  subst hE
  unfold f_Mod_unfair at hf0
  show GW E L A 5 0 0 Q σ 0 [(0, .ref (ly_a L o)), (1, .int p1), (2, .int p2), (3, .int p3), (4, .int p4)] []
  refine gw_aload_n C 0 d_Mod_unfair_0 rfl rfl ?_
  refine gw_iconst C (0 : Int32) d_Mod_unfair_1 (by decide) ?_
  obtain ⟨m2, em2, hf0⟩ := mx_lt hf0
  refine gw_putI t_Mod C 0 d_Mod_unfair_2 k_o_0 (by decide) i_Mod rfl rfl (by decide) qw_1165 rfl rfl t_Mod_ok n_Mod rfl (t_Mod_ok 0 (by decide)) rfl rfl em2 ?_
  refine gw_iload_n C 3 d_Mod_unfair_5 rfl rfl ?_
  refine gw_iconst C (0 : Int32) d_Mod_unfair_6 (by decide) ?_
  refine gw_sipush C (999 : Int32) d_Mod_unfair_7 (by decide) ?_
  obtain ⟨q10, hq10, hf0⟩ := mx_bd hf0
  refine gw_callIS C (c_Mod_isIn _ hg hq10) d_Mod_unfair_10 3 qw_1356 qw_1357 qw_12 qw_1358 hd_Mod_isIn rfl rfl (Nat.le_of_ble_eq_true rfl) ⟨rfl, rfl, Nat.le_of_ble_eq_true rfl, Nat.le_of_ble_eq_true rfl⟩ ⟨Nat.zero_le _, Nat.zero_le _⟩ ?_
  refine gw_if_eq C 37 d_Mod_unfair_13 (by decide) (fun hc => ?_) (fun hc => ?_)
  · replace hf0 := mx_t hc hf0
    refine gw_iconst C ((-1) : Int32) d_Mod_unfair_37 (by decide) ?_
    exact en_i hN hf0 d_Mod_unfair_38
  · replace hf0 := mx_f hc hf0
    refine gw_iload C 4 d_Mod_unfair_16 rfl ?_
    refine gw_iconst C (1 : Int32) d_Mod_unfair_18 (by decide) ?_
    refine gw_sipush C (999 : Int32) d_Mod_unfair_19 (by decide) ?_
    obtain ⟨q22, hq22, hf0⟩ := mx_bd hf0
    refine gw_callIS C (c_Mod_isIn _ hg hq22) d_Mod_unfair_22 3 qw_1356 qw_1357 qw_12 qw_1358 hd_Mod_isIn rfl rfl (Nat.le_of_ble_eq_true rfl) ⟨rfl, rfl, Nat.le_of_ble_eq_true rfl, Nat.le_of_ble_eq_true rfl⟩ ⟨Nat.zero_le _, Nat.zero_le _⟩ ?_
    refine gw_if_eq C 37 d_Mod_unfair_25 (by decide) (fun hc => ?_) (fun hc => ?_)
    · replace hf0 := mx_t hc hf0
      refine gw_iconst C ((-1) : Int32) d_Mod_unfair_37 (by decide) ?_
      exact en_i hN hf0 d_Mod_unfair_38
    · replace hf0 := mx_f hc hf0
      refine gw_aload_n C 0 d_Mod_unfair_28 rfl rfl ?_
      refine gw_iload_n C 1 d_Mod_unfair_29 rfl rfl ?_
      refine gw_iload_n C 2 d_Mod_unfair_30 rfl rfl ?_
      obtain ⟨q31, hq31, hf0⟩ := mx_bd hf0
      refine gw_callI C (c_Mod_hasLuck _ hg k_o_0 hq31) d_Mod_unfair_31 2 qw_1605 qw_1607 qs_77 qw_12 qw_1608 k_o_0 (by decide) rfl hd_Mod_hasLuck rfl rfl (Nat.le_of_ble_eq_true rfl) ⟨rfl, rfl, Nat.le_of_ble_eq_true rfl, Nat.le_of_ble_eq_true rfl⟩ ⟨Nat.zero_le _, Nat.zero_le _⟩ ?_
      refine gw_if_ne C 39 d_Mod_unfair_34 (by decide) (fun hc => ?_) (fun hc => ?_)
      · replace hf0 := mx_f hc hf0
        refine gw_aload_n C 0 d_Mod_unfair_39 rfl rfl ?_
        refine gw_getL C 38 d_Mod_unfair_40 k_o_0 (by decide) i_Mod rfl rfl (by decide) qw_1203 rfl rfl ?_
        refine gw_iload C 4 d_Mod_unfair_43 rfl ?_
        refine gw_i2l C d_Mod_unfair_45 ?_
        refine gw_lmul C d_Mod_unfair_46 ?_
        refine gw_aload_n C 0 d_Mod_unfair_47 rfl rfl ?_
        refine gw_getL C 39 d_Mod_unfair_48 k_o_0 (by decide) i_Mod rfl rfl (by decide) qw_1204 rfl rfl ?_
        refine gw_iload_n C 3 d_Mod_unfair_51 rfl rfl ?_
        refine gw_i2l C d_Mod_unfair_52 ?_
        refine gw_lmul C d_Mod_unfair_53 ?_
        refine gw_lcmp C d_Mod_unfair_54 ?_
        refine gw_if_gt C 62 d_Mod_unfair_55 (by decide) (fun hc => ?_) (fun hc => ?_)
        · replace hf0 := mx_t hc hf0
          refine gw_iconst C (0 : Int32) d_Mod_unfair_62 (by decide) ?_
          exact en_i hN hf0 d_Mod_unfair_63
        · replace hf0 := mx_f hc hf0
          refine gw_iconst C (1 : Int32) d_Mod_unfair_58 (by decide) ?_
          refine gw_goto C 63 d_Mod_unfair_59 (by decide) ?_
          exact en_i hN hf0 d_Mod_unfair_63
      · replace hf0 := mx_t hc hf0
        refine gw_iconst C ((-1) : Int32) d_Mod_unfair_37 (by decide) ?_
        exact en_i hN hf0 d_Mod_unfair_38

/-! NameHatModel.image(I)Z -/
abbrev b_Mod_image : ByteArray := prog_14_method_85_code
def y_Mod_image : MethodName := ⟨"NameHatModel", "image", "(I)Z"⟩
abbrev rm_Mod_image : Room := { frames := 1, cells := 0, slots := 0, locals := 22 }
theorem hd_Mod_image : y_Mod_image.cls ≠ "java/lang/invoke/MethodHandle" ∧ y_Mod_image.cls ≠ "java/lang/invoke/VarHandle" ∧ (parseMethodDescriptor y_Mod_image.desc).map (fun d => d.parameters.length) = some 1 := by decide +kernel
theorem d_Mod_image_0 : decode b_Mod_image 0 = .ok (.aload_n 0, 1) := by decide +kernel
theorem d_Mod_image_1 : decode b_Mod_image 1 = .ok (.iconst 0, 1) := by decide +kernel
theorem d_Mod_image_2 : decode b_Mod_image 2 = .ok (.putfield 1, 3) := by decide +kernel
theorem d_Mod_image_5 : decode b_Mod_image 5 = .ok (.iload_n 1, 1) := by decide +kernel
theorem d_Mod_image_6 : decode b_Mod_image 6 = .ok (.iconst 0, 1) := by decide +kernel
theorem d_Mod_image_7 : decode b_Mod_image 7 = .ok (.iconst 1, 1) := by decide +kernel
theorem d_Mod_image_8 : decode b_Mod_image 8 = .ok (.invokestatic 175, 3) := by decide +kernel
theorem d_Mod_image_11 : decode b_Mod_image 11 = .ok (.ifCond .ne 5, 3) := by decide +kernel
theorem d_Mod_image_14 : decode b_Mod_image 14 = .ok (.iconst 0, 1) := by decide +kernel
theorem d_Mod_image_15 : decode b_Mod_image 15 = .ok (.ireturn, 1) := by decide +kernel
theorem d_Mod_image_16 : decode b_Mod_image 16 = .ok (.iconst 0, 1) := by decide +kernel
theorem d_Mod_image_17 : decode b_Mod_image 17 = .ok (.istore_n 2, 1) := by decide +kernel
theorem d_Mod_image_18 : decode b_Mod_image 18 = .ok (.iload_n 2, 1) := by decide +kernel
theorem d_Mod_image_19 : decode b_Mod_image 19 = .ok (.sipush 744, 3) := by decide +kernel
theorem d_Mod_image_22 : decode b_Mod_image 22 = .ok (.if_icmp .ge 27, 3) := by decide +kernel
theorem d_Mod_image_25 : decode b_Mod_image 25 = .ok (.aload_n 0, 1) := by decide +kernel
theorem d_Mod_image_26 : decode b_Mod_image 26 = .ok (.getfield 89, 3) := by decide +kernel
theorem d_Mod_image_29 : decode b_Mod_image 29 = .ok (.sipush 744, 3) := by decide +kernel
theorem d_Mod_image_32 : decode b_Mod_image 32 = .ok (.iload_n 1, 1) := by decide +kernel
theorem d_Mod_image_33 : decode b_Mod_image 33 = .ok (.imul, 1) := by decide +kernel
theorem d_Mod_image_34 : decode b_Mod_image 34 = .ok (.iload_n 2, 1) := by decide +kernel
theorem d_Mod_image_35 : decode b_Mod_image 35 = .ok (.iadd, 1) := by decide +kernel
theorem d_Mod_image_36 : decode b_Mod_image 36 = .ok (.aload_n 0, 1) := by decide +kernel
theorem d_Mod_image_37 : decode b_Mod_image 37 = .ok (.getfield 33, 3) := by decide +kernel
theorem d_Mod_image_40 : decode b_Mod_image 40 = .ok (.iload_n 2, 1) := by decide +kernel
theorem d_Mod_image_41 : decode b_Mod_image 41 = .ok (.iaload, 1) := by decide +kernel
theorem d_Mod_image_42 : decode b_Mod_image 42 = .ok (.iastore, 1) := by decide +kernel
theorem d_Mod_image_43 : decode b_Mod_image 43 = .ok (.iinc 2 1, 3) := by decide +kernel
theorem d_Mod_image_46 : decode b_Mod_image 46 = .ok (.goto (-28), 3) := by decide +kernel
theorem d_Mod_image_49 : decode b_Mod_image 49 = .ok (.iconst 0, 1) := by decide +kernel
theorem d_Mod_image_50 : decode b_Mod_image 50 = .ok (.istore_n 2, 1) := by decide +kernel
theorem d_Mod_image_51 : decode b_Mod_image 51 = .ok (.iload_n 2, 1) := by decide +kernel
theorem d_Mod_image_52 : decode b_Mod_image 52 = .ok (.bipush 18, 2) := by decide +kernel
theorem d_Mod_image_54 : decode b_Mod_image 54 = .ok (.if_icmp .ge 26, 3) := by decide +kernel
theorem d_Mod_image_57 : decode b_Mod_image 57 = .ok (.aload_n 0, 1) := by decide +kernel
theorem d_Mod_image_58 : decode b_Mod_image 58 = .ok (.getfield 92, 3) := by decide +kernel
theorem d_Mod_image_61 : decode b_Mod_image 61 = .ok (.bipush 18, 2) := by decide +kernel
theorem d_Mod_image_63 : decode b_Mod_image 63 = .ok (.iload_n 1, 1) := by decide +kernel
theorem d_Mod_image_64 : decode b_Mod_image 64 = .ok (.imul, 1) := by decide +kernel
theorem d_Mod_image_65 : decode b_Mod_image 65 = .ok (.iload_n 2, 1) := by decide +kernel
theorem d_Mod_image_66 : decode b_Mod_image 66 = .ok (.iadd, 1) := by decide +kernel
theorem d_Mod_image_67 : decode b_Mod_image 67 = .ok (.aload_n 0, 1) := by decide +kernel
theorem d_Mod_image_68 : decode b_Mod_image 68 = .ok (.getfield 43, 3) := by decide +kernel
theorem d_Mod_image_71 : decode b_Mod_image 71 = .ok (.iload_n 2, 1) := by decide +kernel
theorem d_Mod_image_72 : decode b_Mod_image 72 = .ok (.laload, 1) := by decide +kernel
theorem d_Mod_image_73 : decode b_Mod_image 73 = .ok (.lastore, 1) := by decide +kernel
theorem d_Mod_image_74 : decode b_Mod_image 74 = .ok (.iinc 2 1, 3) := by decide +kernel
theorem d_Mod_image_77 : decode b_Mod_image 77 = .ok (.goto (-26), 3) := by decide +kernel
theorem d_Mod_image_80 : decode b_Mod_image 80 = .ok (.aload_n 0, 1) := by decide +kernel
theorem d_Mod_image_81 : decode b_Mod_image 81 = .ok (.getfield 95, 3) := by decide +kernel
theorem d_Mod_image_84 : decode b_Mod_image 84 = .ok (.iload_n 1, 1) := by decide +kernel
theorem d_Mod_image_85 : decode b_Mod_image 85 = .ok (.iconst 1, 1) := by decide +kernel
theorem d_Mod_image_86 : decode b_Mod_image 86 = .ok (.bastore, 1) := by decide +kernel
theorem d_Mod_image_87 : decode b_Mod_image 87 = .ok (.iconst 1, 1) := by decide +kernel
theorem d_Mod_image_88 : decode b_Mod_image 88 = .ok (.ireturn, 1) := by decide +kernel
noncomputable def f_Mod_image_L18 (z : Nat → Nat) (o : Nat) (v1 : Int32) (s18 : Int32 × Mm) : Option ((Int32 × Mm) ⊕ (Mm)) :=
  if (744 : Int32) ≤ s18.1 then (
    some (.inr s18.2)
  ) else (
    (mm_ldI (s18.2.1 (o + 2)) (z (o + 2)) s18.1).bind fun x41 =>
    (mm_stI s18.2 (o + 18) (z (o + 18)) (((744 : Int32) * v1) + s18.1) x41).bind fun m42 =>
    mm_lt (s18.1 + (1 : Int32)) fun x43 =>
    some (.inl (x43, m42))
  )
noncomputable def f_Mod_image_L51 (z : Nat → Nat) (o : Nat) (v1 : Int32) (s51 : Int32 × Mm) : Option ((Int32 × Mm) ⊕ (Mm)) :=
  if (18 : Int32) ≤ s51.1 then (
    some (.inr s51.2)
  ) else (
    (mm_ldL (s51.2.2 (o + 5)) (z (o + 5)) s51.1).bind fun x72 =>
    (mm_stL s51.2 (o + 19) (z (o + 19)) (((18 : Int32) * v1) + s51.1) x72).bind fun m73 =>
    mm_lt (s51.1 + (1 : Int32)) fun x74 =>
    some (.inl (x74, m73))
  )
noncomputable def f_Mod_image (z : Nat → Nat) (σ : Mm) (o : Nat) (p1 : Int32) : Option (Int32 × Mm) :=
  mm_lt (kI σ o 0 (0 : Int32)) fun m2 =>
  (f_Mod_isIn z m2 p1 (0 : Int32) (1 : Int32)).bind fun q8 =>
  if q8 = 0 then (
    some ((0 : Int32), m2)
  ) else (
    (mm_lp (f_Mod_image_L18 z o p1) ((0 : Int32), m2)).bind (fun q18 =>
      (mm_lp (f_Mod_image_L51 z o p1) ((0 : Int32), q18)).bind (fun q51 =>
        (mm_stI q51 (o + 20) (z (o + 20)) p1 (vp_nar .boolean (1 : Int32))).bind fun m86 =>
        some ((1 : Int32), m86)))
  )
set_option maxHeartbeats 4000000 in
set_option maxRecDepth 100000 in
theorem c_Mod_image (l : Launch) {L : Ly} (hg : gd_ok L) {σ : Mm} {o : Nat} {p1 : Int32} (k_o_0 : ly_k L o = 11) {res : Int32 × Mm} (hf0 : f_Mod_image (ly_z L) σ o p1 = some res) : CtI l y_Mod_image b_Mod_image 3 (some .boolean) rm_Mod_image L [.ref (ly_a L o), .int p1] σ res.1 res.2 := by
  refine ct_z hg (by decide) (Nat.le_of_ble_eq_true rfl) ?_
  intro E A Q hE C hN
  subst hE
  have k_o_2 : ly_k L (o + 2) = 20 := gd_Mod_s hg k_o_0
  have k_o_18 : ly_k L (o + 18) = 20 := gd_Mod_kept hg k_o_0
  have k_o_5 : ly_k L (o + 5) = 21 := gd_Mod_names hg k_o_0
  have k_o_19 : ly_k L (o + 19) = 21 := gd_Mod_namesKept hg k_o_0
  have k_o_20 : ly_k L (o + 20) = 23 := gd_Mod_isKept hg k_o_0
  unfold f_Mod_image at hf0
  show GW E L A 3 0 0 Q σ 0 [(0, .ref (ly_a L o)), (1, .int p1)] []
  refine gw_aload_n C 0 d_Mod_image_0 rfl rfl ?_
  refine gw_iconst C (0 : Int32) d_Mod_image_1 (by decide) ?_
  obtain ⟨m2, em2, hf0⟩ := mx_lt hf0
  refine gw_putI t_Mod C 0 d_Mod_image_2 k_o_0 (by decide) i_Mod rfl rfl (by decide) qw_1165 rfl rfl t_Mod_ok n_Mod rfl (t_Mod_ok 0 (by decide)) rfl rfl em2 ?_
  refine gw_iload_n C 1 d_Mod_image_5 rfl rfl ?_
  refine gw_iconst C (0 : Int32) d_Mod_image_6 (by decide) ?_
  refine gw_iconst C (1 : Int32) d_Mod_image_7 (by decide) ?_
  obtain ⟨q8, hq8, hf0⟩ := mx_bd hf0
  refine gw_callIS C (c_Mod_isIn _ hg hq8) d_Mod_image_8 3 qw_1356 qw_1357 qw_12 qw_1358 hd_Mod_isIn rfl rfl (Nat.le_of_ble_eq_true rfl) ⟨rfl, rfl, Nat.le_of_ble_eq_true rfl, Nat.le_of_ble_eq_true rfl⟩ ⟨Nat.zero_le _, Nat.zero_le _⟩ ?_
  refine gw_if_ne C 16 d_Mod_image_11 (by decide) (fun hc => ?_) (fun hc => ?_)
  · replace hf0 := mx_f hc hf0
    refine gw_iconst C (0 : Int32) d_Mod_image_16 (by decide) ?_
    refine gw_istore_n C [(2, .int (0 : Int32)), (0, .ref (ly_a L o)), (1, .int p1)] d_Mod_image_17 rfl (by decide) rfl ?_
    obtain ⟨q18, hq18, hf0⟩ := mx_bd hf0
    have hk18 : ∀ x9, q18 = x9 → GW E L A 3 0 0 Q x9 49 [(0, .ref (ly_a L o)), (1, .int p1)] [] := by
      intro x9 hx9
      subst hx9
      refine gw_iconst C (0 : Int32) d_Mod_image_49 (by decide) ?_
      refine gw_istore_n C [(2, .int (0 : Int32)), (0, .ref (ly_a L o)), (1, .int p1)] d_Mod_image_50 rfl (by decide) rfl ?_
      obtain ⟨q51, hq51, hf0⟩ := mx_bd hf0
      have hk51 : ∀ x9, q51 = x9 → GW E L A 3 0 0 Q x9 80 [(0, .ref (ly_a L o)), (1, .int p1)] [] := by
        intro x9 hx9
        subst hx9
        refine gw_aload_n C 0 d_Mod_image_80 rfl rfl ?_
        refine gw_getA C 44 d_Mod_image_81 k_o_0 (by decide) i_Mod rfl rfl (by decide) qw_1209 rfl rfl (o + 20) rfl ?_
        refine gw_iload_n C 1 d_Mod_image_84 rfl rfl ?_
        refine gw_iconst C (1 : Int32) d_Mod_image_85 (by decide) ?_
        obtain ⟨m86, hm86, hf0⟩ := mx_bd hf0
        obtain ⟨gm86, em86⟩ := mx_stI hm86
        refine gw_zast C d_Mod_image_86 k_o_20 gm86 em86 ?_
        refine gw_iconst C (1 : Int32) d_Mod_image_87 (by decide) ?_
        exact en_z hN (Or.inr rfl) hf0 d_Mod_image_88
      refine gw_sub [1, 2, 0] (lv' := [(0, .ref (ly_a L o)), (1, .int p1), (2, .int (0 : Int32))]) rfl ?_
      refine mm_rule hq51 (P := fun (s51 : Int32 × Mm) => GW E L A 3 0 0 Q s51.2 51 [(0, .ref (ly_a L o)), (1, .int p1), (2, .int s51.1)] []) ?_
      intro s51 ih51 hx51 ⟨w51, hb51⟩
      have hf1 := hb51
      unfold f_Mod_image_L51 at hf1
      refine gw_iload_n C 2 d_Mod_image_51 rfl rfl ?_
      refine gw_bipush C (18 : Int32) d_Mod_image_52 (by decide) ?_
      refine gw_icmp_ge C 80 d_Mod_image_54 (by decide) (fun hc => ?_) (fun hc => ?_)
      · replace hf1 := mx_t hc hf1
        exact gw_go [0, 1] (hk51 s51.2 (hx51 _ (hb51.trans hf1.symm)).symm) rfl
      · replace hf1 := mx_f hc hf1
        refine gw_aload_n C 0 d_Mod_image_57 rfl rfl ?_
        refine gw_getA C 43 d_Mod_image_58 k_o_0 (by decide) i_Mod rfl rfl (by decide) qw_1208 rfl rfl (o + 19) rfl ?_
        refine gw_bipush C (18 : Int32) d_Mod_image_61 (by decide) ?_
        refine gw_iload_n C 1 d_Mod_image_63 rfl rfl ?_
        refine gw_imul C d_Mod_image_64 ?_
        refine gw_iload_n C 2 d_Mod_image_65 rfl rfl ?_
        refine gw_iadd C d_Mod_image_66 ?_
        refine gw_aload_n C 0 d_Mod_image_67 rfl rfl ?_
        refine gw_getA C 9 d_Mod_image_68 k_o_0 (by decide) i_Mod rfl rfl (by decide) qw_1174 rfl rfl (o + 5) rfl ?_
        refine gw_iload_n C 2 d_Mod_image_71 rfl rfl ?_
        obtain ⟨x72, hx72, hf1⟩ := mx_bd hf1
        obtain ⟨gx72, ex72⟩ := mx_ldL hx72
        refine gw_lald C d_Mod_image_72 k_o_5 gx72 ex72 ?_
        obtain ⟨m73, hm73, hf1⟩ := mx_bd hf1
        obtain ⟨gm73, em73⟩ := mx_stL hm73
        refine gw_last C d_Mod_image_73 k_o_19 gm73 em73 ?_
        obtain ⟨x74, ex74, hf1⟩ := mx_lt hf1
        refine gw_iinc C 2 [(2, .int x74), (0, .ref (ly_a L o)), (1, .int p1)] d_Mod_image_74 rfl (by rw [ex74]; rfl) (by decide) rfl ?_
        refine gw_goto C 51 d_Mod_image_77 (by decide) ?_
        exact gw_go [1, 2, 0] (ih51 (x74, m73) (hb51.trans hf1.symm)) rfl
    refine gw_sub [1, 2, 0] (lv' := [(0, .ref (ly_a L o)), (1, .int p1), (2, .int (0 : Int32))]) rfl ?_
    refine mm_rule hq18 (P := fun (s18 : Int32 × Mm) => GW E L A 3 0 0 Q s18.2 18 [(0, .ref (ly_a L o)), (1, .int p1), (2, .int s18.1)] []) ?_
    intro s18 ih18 hx18 ⟨w18, hb18⟩
    have hf1 := hb18
    unfold f_Mod_image_L18 at hf1
    refine gw_iload_n C 2 d_Mod_image_18 rfl rfl ?_
    refine gw_sipush C (744 : Int32) d_Mod_image_19 (by decide) ?_
    refine gw_icmp_ge C 49 d_Mod_image_22 (by decide) (fun hc => ?_) (fun hc => ?_)
    · replace hf1 := mx_t hc hf1
      exact gw_go [0, 1] (hk18 s18.2 (hx18 _ (hb18.trans hf1.symm)).symm) rfl
    · replace hf1 := mx_f hc hf1
      refine gw_aload_n C 0 d_Mod_image_25 rfl rfl ?_
      refine gw_getA C 42 d_Mod_image_26 k_o_0 (by decide) i_Mod rfl rfl (by decide) qw_1207 rfl rfl (o + 18) rfl ?_
      refine gw_sipush C (744 : Int32) d_Mod_image_29 (by decide) ?_
      refine gw_iload_n C 1 d_Mod_image_32 rfl rfl ?_
      refine gw_imul C d_Mod_image_33 ?_
      refine gw_iload_n C 2 d_Mod_image_34 rfl rfl ?_
      refine gw_iadd C d_Mod_image_35 ?_
      refine gw_aload_n C 0 d_Mod_image_36 rfl rfl ?_
      refine gw_getA C 6 d_Mod_image_37 k_o_0 (by decide) i_Mod rfl rfl (by decide) qw_1171 rfl rfl (o + 2) rfl ?_
      refine gw_iload_n C 2 d_Mod_image_40 rfl rfl ?_
      obtain ⟨x41, hx41, hf1⟩ := mx_bd hf1
      obtain ⟨gx41, ex41⟩ := mx_ldI hx41
      refine gw_iald C d_Mod_image_41 k_o_2 gx41 ex41 ?_
      obtain ⟨m42, hm42, hf1⟩ := mx_bd hf1
      obtain ⟨gm42, em42⟩ := mx_stI hm42
      refine gw_iast C d_Mod_image_42 k_o_18 gm42 em42 ?_
      obtain ⟨x43, ex43, hf1⟩ := mx_lt hf1
      refine gw_iinc C 2 [(2, .int x43), (0, .ref (ly_a L o)), (1, .int p1)] d_Mod_image_43 rfl (by rw [ex43]; rfl) (by decide) rfl ?_
      refine gw_goto C 18 d_Mod_image_46 (by decide) ?_
      exact gw_go [1, 2, 0] (ih18 (x43, m42) (hb18.trans hf1.symm)) rfl
  · replace hf0 := mx_t hc hf0
    refine gw_iconst C (0 : Int32) d_Mod_image_14 (by decide) ?_
    exact en_z hN (Or.inl rfl) hf0 d_Mod_image_15
