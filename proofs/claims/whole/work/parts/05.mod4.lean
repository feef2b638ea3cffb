/-! NameHatModel.worthOf()I -/
abbrev b_Mod_worthOf : ByteArray := prog_14_method_61_code
def y_Mod_worthOf : MethodName := ⟨"NameHatModel", "worthOf", "()I"⟩
abbrev rm_Mod_worthOf : Room := { frames := 1, cells := 0, slots := 0, locals := 23 }
theorem hd_Mod_worthOf : y_Mod_worthOf.cls ≠ "java/lang/invoke/MethodHandle" ∧ y_Mod_worthOf.cls ≠ "java/lang/invoke/VarHandle" ∧ (parseMethodDescriptor y_Mod_worthOf.desc).map (fun d => d.parameters.length) = some 0 := by decide +kernel
theorem d_Mod_worthOf_0 : decode b_Mod_worthOf 0 = .ok (.iconst 0, 1) := by decide +kernel
theorem d_Mod_worthOf_1 : decode b_Mod_worthOf 1 = .ok (.istore_n 1, 1) := by decide +kernel
theorem d_Mod_worthOf_2 : decode b_Mod_worthOf 2 = .ok (.iconst 0, 1) := by decide +kernel
theorem d_Mod_worthOf_3 : decode b_Mod_worthOf 3 = .ok (.istore_n 2, 1) := by decide +kernel
theorem d_Mod_worthOf_4 : decode b_Mod_worthOf 4 = .ok (.iload_n 2, 1) := by decide +kernel
theorem d_Mod_worthOf_5 : decode b_Mod_worthOf 5 = .ok (.aload_n 0, 1) := by decide +kernel
theorem d_Mod_worthOf_6 : decode b_Mod_worthOf 6 = .ok (.getfield 33, 3) := by decide +kernel
theorem d_Mod_worthOf_9 : decode b_Mod_worthOf 9 = .ok (.iconst 1, 1) := by decide +kernel
theorem d_Mod_worthOf_10 : decode b_Mod_worthOf 10 = .ok (.iaload, 1) := by decide +kernel
theorem d_Mod_worthOf_11 : decode b_Mod_worthOf 11 = .ok (.if_icmp .ge 26, 3) := by decide +kernel
theorem d_Mod_worthOf_14 : decode b_Mod_worthOf 14 = .ok (.iload_n 1, 1) := by decide +kernel
theorem d_Mod_worthOf_15 : decode b_Mod_worthOf 15 = .ok (.aload_n 0, 1) := by decide +kernel
theorem d_Mod_worthOf_16 : decode b_Mod_worthOf 16 = .ok (.iload_n 2, 1) := by decide +kernel
theorem d_Mod_worthOf_17 : decode b_Mod_worthOf 17 = .ok (.aload_n 0, 1) := by decide +kernel
theorem d_Mod_worthOf_18 : decode b_Mod_worthOf 18 = .ok (.getfield 33, 3) := by decide +kernel
theorem d_Mod_worthOf_21 : decode b_Mod_worthOf 21 = .ok (.bipush 123, 2) := by decide +kernel
theorem d_Mod_worthOf_23 : decode b_Mod_worthOf 23 = .ok (.iload_n 2, 1) := by decide +kernel
theorem d_Mod_worthOf_24 : decode b_Mod_worthOf 24 = .ok (.iadd, 1) := by decide +kernel
theorem d_Mod_worthOf_25 : decode b_Mod_worthOf 25 = .ok (.iaload, 1) := by decide +kernel
theorem d_Mod_worthOf_26 : decode b_Mod_worthOf 26 = .ok (.invokevirtual 255, 3) := by decide +kernel
theorem d_Mod_worthOf_29 : decode b_Mod_worthOf 29 = .ok (.iadd, 1) := by decide +kernel
theorem d_Mod_worthOf_30 : decode b_Mod_worthOf 30 = .ok (.istore_n 1, 1) := by decide +kernel
theorem d_Mod_worthOf_31 : decode b_Mod_worthOf 31 = .ok (.iinc 2 1, 3) := by decide +kernel
theorem d_Mod_worthOf_34 : decode b_Mod_worthOf 34 = .ok (.goto (-30), 3) := by decide +kernel
theorem d_Mod_worthOf_37 : decode b_Mod_worthOf 37 = .ok (.iload_n 1, 1) := by decide +kernel
theorem d_Mod_worthOf_38 : decode b_Mod_worthOf 38 = .ok (.ireturn, 1) := by decide +kernel
noncomputable def f_Mod_worthOf_L4 (z : Nat → Nat) (σ : Mm) (o : Nat) (s4 : Int32 × Int32) : Option ((Int32 × Int32) ⊕ (Int32)) :=
  (mm_ldI (σ.1 (o + 2)) (z (o + 2)) (1 : Int32)).bind fun x10 =>
  if x10 ≤ s4.2 then (
    some (.inr s4.1)
  ) else (
    (mm_ldI (σ.1 (o + 2)) (z (o + 2)) ((123 : Int32) + s4.2)).bind fun x25 =>
    (f_Mod_valueOf z σ o s4.2 x25).bind fun q26 =>
    mm_lt ((s4.1 + q26)) fun x30 =>
    mm_lt (s4.2 + (1 : Int32)) fun x31 =>
    some (.inl (x30, x31))
  )
noncomputable def f_Mod_worthOf (z : Nat → Nat) (σ : Mm) (o : Nat) : Option (Int32) :=
  (mm_lp (f_Mod_worthOf_L4 z σ o) ((0 : Int32), (0 : Int32))).bind (fun q4 =>
    some q4)
set_option maxHeartbeats 4000000 in
set_option maxRecDepth 100000 in
theorem c_Mod_worthOf (l : Launch) {L : Ly} (hg : gd_ok L) {σ : Mm} {o : Nat} (k_o_0 : ly_k L o = 11) {res : Int32} (hf0 : f_Mod_worthOf (ly_z L) σ o = some res) : CtI l y_Mod_worthOf b_Mod_worthOf 3 (some .int) rm_Mod_worthOf L [.ref (ly_a L o)] σ res σ := by
  refine ct_i hg (by decide) (Nat.le_of_ble_eq_true rfl) ?_
  intro E A Q hE C hN
  subst hE
  have k_o_2 : ly_k L (o + 2) = 20 := gd_Mod_s hg k_o_0
  unfold f_Mod_worthOf at hf0
  show GW E L A 3 0 0 Q σ 0 [(0, .ref (ly_a L o))] []
  refine gw_iconst C (0 : Int32) d_Mod_worthOf_0 (by decide) ?_
  refine gw_istore_n C [(1, .int (0 : Int32)), (0, .ref (ly_a L o))] d_Mod_worthOf_1 rfl (by decide) rfl ?_
  refine gw_iconst C (0 : Int32) d_Mod_worthOf_2 (by decide) ?_
  refine gw_istore_n C [(2, .int (0 : Int32)), (1, .int (0 : Int32)), (0, .ref (ly_a L o))] d_Mod_worthOf_3 rfl (by decide) rfl ?_
  obtain ⟨q4, hq4, hf0⟩ := mx_bd hf0
  have hk4 : ∀ x9, q4 = x9 → GW E L A 3 0 0 Q σ 37 [(1, .int x9)] [] := by
    intro x9 hx9
    subst hx9
    refine gw_iload_n C 0 d_Mod_worthOf_37 rfl rfl ?_
    exact en_ip hN hf0 d_Mod_worthOf_38
  refine gw_sub [2, 1, 0] (lv' := [(0, .ref (ly_a L o)), (1, .int (0 : Int32)), (2, .int (0 : Int32))]) rfl ?_
  refine mm_rule hq4 (P := fun (s4 : Int32 × Int32) => GW E L A 3 0 0 Q σ 4 [(0, .ref (ly_a L o)), (1, .int s4.1), (2, .int s4.2)] []) ?_
  intro s4 ih4 hx4 ⟨w4, hb4⟩
  have hf1 := hb4
  unfold f_Mod_worthOf_L4 at hf1
  refine gw_iload_n C 2 d_Mod_worthOf_4 rfl rfl ?_
  refine gw_aload_n C 0 d_Mod_worthOf_5 rfl rfl ?_
  refine gw_getA C 6 d_Mod_worthOf_6 k_o_0 (by decide) i_Mod rfl rfl (by decide) qw_1171 rfl rfl (o + 2) rfl ?_
  refine gw_iconst C (1 : Int32) d_Mod_worthOf_9 (by decide) ?_
  obtain ⟨x10, hx10, hf1⟩ := mx_bd hf1
  obtain ⟨gx10, ex10⟩ := mx_ldI hx10
  refine gw_iald C d_Mod_worthOf_10 k_o_2 gx10 ex10 ?_
  refine gw_icmp_ge C 37 d_Mod_worthOf_11 (by decide) (fun hc => ?_) (fun hc => ?_)
  · replace hf1 := mx_t hc hf1
    exact gw_go [1] (hk4 s4.1 (hx4 _ (hb4.trans hf1.symm)).symm) rfl
  · replace hf1 := mx_f hc hf1
    refine gw_iload_n C 1 d_Mod_worthOf_14 rfl rfl ?_
    refine gw_aload_n C 0 d_Mod_worthOf_15 rfl rfl ?_
    refine gw_iload_n C 2 d_Mod_worthOf_16 rfl rfl ?_
    refine gw_aload_n C 0 d_Mod_worthOf_17 rfl rfl ?_
    refine gw_getA C 6 d_Mod_worthOf_18 k_o_0 (by decide) i_Mod rfl rfl (by decide) qw_1171 rfl rfl (o + 2) rfl ?_
    refine gw_bipush C (123 : Int32) d_Mod_worthOf_21 (by decide) ?_
    refine gw_iload_n C 2 d_Mod_worthOf_23 rfl rfl ?_
    refine gw_iadd C d_Mod_worthOf_24 ?_
    obtain ⟨x25, hx25, hf1⟩ := mx_bd hf1
    obtain ⟨gx25, ex25⟩ := mx_ldI hx25
    refine gw_iald C d_Mod_worthOf_25 k_o_2 gx25 ex25 ?_
    obtain ⟨q26, hq26, hf1⟩ := mx_bd hf1
    refine gw_callI C (c_Mod_valueOf _ hg k_o_0 hq26) d_Mod_worthOf_26 2 qw_1418 qw_1420 qs_58 qw_12 qw_1421 k_o_0 (by decide) rfl hd_Mod_valueOf rfl rfl (Nat.le_of_ble_eq_true rfl) ⟨rfl, rfl, Nat.le_of_ble_eq_true rfl, Nat.le_of_ble_eq_true rfl⟩ ⟨Nat.zero_le _, Nat.zero_le _⟩ ?_
    refine gw_iadd C d_Mod_worthOf_29 ?_
    obtain ⟨x30, ex30, hf1⟩ := mx_lt hf1
    refine gw_topi ex30 ?_
    refine gw_istore_n C [(1, .int x30), (0, .ref (ly_a L o)), (2, .int s4.2)] d_Mod_worthOf_30 rfl (by decide) rfl ?_
    obtain ⟨x31, ex31, hf1⟩ := mx_lt hf1
    refine gw_iinc C 2 [(2, .int x31), (1, .int x30), (0, .ref (ly_a L o))] d_Mod_worthOf_31 rfl (by rw [ex31]; rfl) (by decide) rfl ?_
    refine gw_goto C 4 d_Mod_worthOf_34 (by decide) ?_
    exact gw_go [2, 1, 0] (ih4 (x30, x31) (hb4.trans hf1.symm)) rfl

/-! NameHatModel.go(I)I -/
abbrev b_Mod_go : ByteArray := prog_14_method_59_code
def y_Mod_go : MethodName := ⟨"NameHatModel", "go", "(I)I"⟩
abbrev rm_Mod_go : Room := { frames := 4, cells := 0, slots := 0, locals := 102 }
theorem hd_Mod_go : y_Mod_go.cls ≠ "java/lang/invoke/MethodHandle" ∧ y_Mod_go.cls ≠ "java/lang/invoke/VarHandle" ∧ (parseMethodDescriptor y_Mod_go.desc).map (fun d => d.parameters.length) = some 1 := by decide +kernel
theorem d_Mod_go_0 : decode b_Mod_go 0 = .ok (.aload_n 0, 1) := by decide +kernel
theorem d_Mod_go_1 : decode b_Mod_go 1 = .ok (.iconst 0, 1) := by decide +kernel
theorem d_Mod_go_2 : decode b_Mod_go 2 = .ok (.putfield 1, 3) := by decide +kernel
theorem d_Mod_go_5 : decode b_Mod_go 5 = .ok (.iload_n 1, 1) := by decide +kernel
theorem d_Mod_go_6 : decode b_Mod_go 6 = .ok (.iconst 0, 1) := by decide +kernel
theorem d_Mod_go_7 : decode b_Mod_go 7 = .ok (.iconst 1, 1) := by decide +kernel
theorem d_Mod_go_8 : decode b_Mod_go 8 = .ok (.invokestatic 175, 3) := by decide +kernel
theorem d_Mod_go_11 : decode b_Mod_go 11 = .ok (.ifCond .ne 6, 3) := by decide +kernel
theorem d_Mod_go_14 : decode b_Mod_go 14 = .ok (.bipush (-2), 2) := by decide +kernel
theorem d_Mod_go_16 : decode b_Mod_go 16 = .ok (.ireturn, 1) := by decide +kernel
theorem d_Mod_go_17 : decode b_Mod_go 17 = .ok (.iconst 0, 1) := by decide +kernel
theorem d_Mod_go_18 : decode b_Mod_go 18 = .ok (.istore_n 2, 1) := by decide +kernel
theorem d_Mod_go_19 : decode b_Mod_go 19 = .ok (.iload_n 2, 1) := by decide +kernel
theorem d_Mod_go_20 : decode b_Mod_go 20 = .ok (.bipush 8, 2) := by decide +kernel
theorem d_Mod_go_22 : decode b_Mod_go 22 = .ok (.if_icmp .ge 42, 3) := by decide +kernel
theorem d_Mod_go_25 : decode b_Mod_go 25 = .ok (.aload_n 0, 1) := by decide +kernel
theorem d_Mod_go_26 : decode b_Mod_go 26 = .ok (.getfield 68, 3) := by decide +kernel
theorem d_Mod_go_29 : decode b_Mod_go 29 = .ok (.iload_n 2, 1) := by decide +kernel
theorem d_Mod_go_30 : decode b_Mod_go 30 = .ok (.aload_n 0, 1) := by decide +kernel
theorem d_Mod_go_31 : decode b_Mod_go 31 = .ok (.getfield 33, 3) := by decide +kernel
theorem d_Mod_go_34 : decode b_Mod_go 34 = .ok (.bipush 123, 2) := by decide +kernel
theorem d_Mod_go_36 : decode b_Mod_go 36 = .ok (.iload_n 2, 1) := by decide +kernel
theorem d_Mod_go_37 : decode b_Mod_go 37 = .ok (.iadd, 1) := by decide +kernel
theorem d_Mod_go_38 : decode b_Mod_go 38 = .ok (.iaload, 1) := by decide +kernel
theorem d_Mod_go_39 : decode b_Mod_go 39 = .ok (.iastore, 1) := by decide +kernel
theorem d_Mod_go_40 : decode b_Mod_go 40 = .ok (.aload_n 0, 1) := by decide +kernel
theorem d_Mod_go_41 : decode b_Mod_go 41 = .ok (.getfield 68, 3) := by decide +kernel
theorem d_Mod_go_44 : decode b_Mod_go 44 = .ok (.bipush 8, 2) := by decide +kernel
theorem d_Mod_go_46 : decode b_Mod_go 46 = .ok (.iload_n 2, 1) := by decide +kernel
theorem d_Mod_go_47 : decode b_Mod_go 47 = .ok (.iadd, 1) := by decide +kernel
theorem d_Mod_go_48 : decode b_Mod_go 48 = .ok (.aload_n 0, 1) := by decide +kernel
theorem d_Mod_go_49 : decode b_Mod_go 49 = .ok (.getfield 33, 3) := by decide +kernel
theorem d_Mod_go_52 : decode b_Mod_go 52 = .ok (.bipush 115, 2) := by decide +kernel
theorem d_Mod_go_54 : decode b_Mod_go 54 = .ok (.iload_n 2, 1) := by decide +kernel
theorem d_Mod_go_55 : decode b_Mod_go 55 = .ok (.iadd, 1) := by decide +kernel
theorem d_Mod_go_56 : decode b_Mod_go 56 = .ok (.iaload, 1) := by decide +kernel
theorem d_Mod_go_57 : decode b_Mod_go 57 = .ok (.iastore, 1) := by decide +kernel
theorem d_Mod_go_58 : decode b_Mod_go 58 = .ok (.iinc 2 1, 3) := by decide +kernel
theorem d_Mod_go_61 : decode b_Mod_go 61 = .ok (.goto (-42), 3) := by decide +kernel
theorem d_Mod_go_64 : decode b_Mod_go 64 = .ok (.iconst (-1), 1) := by decide +kernel
theorem d_Mod_go_65 : decode b_Mod_go 65 = .ok (.istore_n 2, 1) := by decide +kernel
theorem d_Mod_go_66 : decode b_Mod_go 66 = .ok (.aload_n 0, 1) := by decide +kernel
theorem d_Mod_go_67 : decode b_Mod_go 67 = .ok (.getfield 65, 3) := by decide +kernel
theorem d_Mod_go_70 : decode b_Mod_go 70 = .ok (.iconst 0, 1) := by decide +kernel
theorem d_Mod_go_71 : decode b_Mod_go 71 = .ok (.iconst 0, 1) := by decide +kernel
theorem d_Mod_go_72 : decode b_Mod_go 72 = .ok (.iastore, 1) := by decide +kernel
theorem d_Mod_go_73 : decode b_Mod_go 73 = .ok (.aload_n 0, 1) := by decide +kernel
theorem d_Mod_go_74 : decode b_Mod_go 74 = .ok (.getfield 65, 3) := by decide +kernel
theorem d_Mod_go_77 : decode b_Mod_go 77 = .ok (.iconst 1, 1) := by decide +kernel
theorem d_Mod_go_78 : decode b_Mod_go 78 = .ok (.iconst 0, 1) := by decide +kernel
theorem d_Mod_go_79 : decode b_Mod_go 79 = .ok (.iastore, 1) := by decide +kernel
theorem d_Mod_go_80 : decode b_Mod_go 80 = .ok (.iconst 0, 1) := by decide +kernel
theorem d_Mod_go_81 : decode b_Mod_go 81 = .ok (.istore_n 3, 1) := by decide +kernel
theorem d_Mod_go_82 : decode b_Mod_go 82 = .ok (.iload_n 3, 1) := by decide +kernel
theorem d_Mod_go_83 : decode b_Mod_go 83 = .ok (.aload_n 0, 1) := by decide +kernel
theorem d_Mod_go_84 : decode b_Mod_go 84 = .ok (.getfield 33, 3) := by decide +kernel
theorem d_Mod_go_87 : decode b_Mod_go 87 = .ok (.sipush 623, 3) := by decide +kernel
theorem d_Mod_go_90 : decode b_Mod_go 90 = .ok (.iaload, 1) := by decide +kernel
theorem d_Mod_go_91 : decode b_Mod_go 91 = .ok (.if_icmp .ge 81, 3) := by decide +kernel
theorem d_Mod_go_94 : decode b_Mod_go 94 = .ok (.iload_n 2, 1) := by decide +kernel
theorem d_Mod_go_95 : decode b_Mod_go 95 = .ok (.ifCond .ge 77, 3) := by decide +kernel
theorem d_Mod_go_98 : decode b_Mod_go 98 = .ok (.sipush 624, 3) := by decide +kernel
theorem d_Mod_go_101 : decode b_Mod_go 101 = .ok (.iconst 4, 1) := by decide +kernel
theorem d_Mod_go_102 : decode b_Mod_go 102 = .ok (.iload_n 3, 1) := by decide +kernel
theorem d_Mod_go_103 : decode b_Mod_go 103 = .ok (.imul, 1) := by decide +kernel
theorem d_Mod_go_104 : decode b_Mod_go 104 = .ok (.iadd, 1) := by decide +kernel
theorem d_Mod_go_105 : decode b_Mod_go 105 = .ok (.istore 4, 2) := by decide +kernel
theorem d_Mod_go_107 : decode b_Mod_go 107 = .ok (.aload_n 0, 1) := by decide +kernel
theorem d_Mod_go_108 : decode b_Mod_go 108 = .ok (.getfield 65, 3) := by decide +kernel
theorem d_Mod_go_111 : decode b_Mod_go 111 = .ok (.iconst 0, 1) := by decide +kernel
theorem d_Mod_go_112 : decode b_Mod_go 112 = .ok (.aload_n 0, 1) := by decide +kernel
theorem d_Mod_go_113 : decode b_Mod_go 113 = .ok (.aload_n 0, 1) := by decide +kernel
theorem d_Mod_go_114 : decode b_Mod_go 114 = .ok (.getfield 33, 3) := by decide +kernel
theorem d_Mod_go_117 : decode b_Mod_go 117 = .ok (.iload 4, 2) := by decide +kernel
theorem d_Mod_go_119 : decode b_Mod_go 119 = .ok (.iaload, 1) := by decide +kernel
theorem d_Mod_go_120 : decode b_Mod_go 120 = .ok (.aload_n 0, 1) := by decide +kernel
theorem d_Mod_go_121 : decode b_Mod_go 121 = .ok (.getfield 33, 3) := by decide +kernel
theorem d_Mod_go_124 : decode b_Mod_go 124 = .ok (.iload 4, 2) := by decide +kernel
theorem d_Mod_go_126 : decode b_Mod_go 126 = .ok (.iconst 1, 1) := by decide +kernel
theorem d_Mod_go_127 : decode b_Mod_go 127 = .ok (.iadd, 1) := by decide +kernel
theorem d_Mod_go_128 : decode b_Mod_go 128 = .ok (.iaload, 1) := by decide +kernel
theorem d_Mod_go_129 : decode b_Mod_go 129 = .ok (.aload_n 0, 1) := by decide +kernel
theorem d_Mod_go_130 : decode b_Mod_go 130 = .ok (.getfield 33, 3) := by decide +kernel
theorem d_Mod_go_133 : decode b_Mod_go 133 = .ok (.iload 4, 2) := by decide +kernel
theorem d_Mod_go_135 : decode b_Mod_go 135 = .ok (.iconst 2, 1) := by decide +kernel
theorem d_Mod_go_136 : decode b_Mod_go 136 = .ok (.iadd, 1) := by decide +kernel
theorem d_Mod_go_137 : decode b_Mod_go 137 = .ok (.iaload, 1) := by decide +kernel
theorem d_Mod_go_138 : decode b_Mod_go 138 = .ok (.invokevirtual 302, 3) := by decide +kernel
theorem d_Mod_go_141 : decode b_Mod_go 141 = .ok (.iastore, 1) := by decide +kernel
theorem d_Mod_go_142 : decode b_Mod_go 142 = .ok (.aload_n 0, 1) := by decide +kernel
theorem d_Mod_go_143 : decode b_Mod_go 143 = .ok (.getfield 65, 3) := by decide +kernel
theorem d_Mod_go_146 : decode b_Mod_go 146 = .ok (.iconst 0, 1) := by decide +kernel
theorem d_Mod_go_147 : decode b_Mod_go 147 = .ok (.iaload, 1) := by decide +kernel
theorem d_Mod_go_148 : decode b_Mod_go 148 = .ok (.ifCond .le 8, 3) := by decide +kernel
theorem d_Mod_go_151 : decode b_Mod_go 151 = .ok (.iload_n 3, 1) := by decide +kernel
theorem d_Mod_go_152 : decode b_Mod_go 152 = .ok (.istore_n 2, 1) := by decide +kernel
theorem d_Mod_go_153 : decode b_Mod_go 153 = .ok (.goto 13, 3) := by decide +kernel
theorem d_Mod_go_156 : decode b_Mod_go 156 = .ok (.aload_n 0, 1) := by decide +kernel
theorem d_Mod_go_157 : decode b_Mod_go 157 = .ok (.getfield 65, 3) := by decide +kernel
theorem d_Mod_go_160 : decode b_Mod_go 160 = .ok (.iconst 1, 1) := by decide +kernel
theorem d_Mod_go_161 : decode b_Mod_go 161 = .ok (.dup2, 1) := by decide +kernel
theorem d_Mod_go_162 : decode b_Mod_go 162 = .ok (.iaload, 1) := by decide +kernel
theorem d_Mod_go_163 : decode b_Mod_go 163 = .ok (.iconst 1, 1) := by decide +kernel
theorem d_Mod_go_164 : decode b_Mod_go 164 = .ok (.iadd, 1) := by decide +kernel
theorem d_Mod_go_165 : decode b_Mod_go 165 = .ok (.iastore, 1) := by decide +kernel
theorem d_Mod_go_166 : decode b_Mod_go 166 = .ok (.iinc 3 1, 3) := by decide +kernel
theorem d_Mod_go_169 : decode b_Mod_go 169 = .ok (.goto (-87), 3) := by decide +kernel
theorem d_Mod_go_172 : decode b_Mod_go 172 = .ok (.aload_n 0, 1) := by decide +kernel
theorem d_Mod_go_173 : decode b_Mod_go 173 = .ok (.getfield 65, 3) := by decide +kernel
theorem d_Mod_go_176 : decode b_Mod_go 176 = .ok (.iconst 2, 1) := by decide +kernel
theorem d_Mod_go_177 : decode b_Mod_go 177 = .ok (.aload_n 0, 1) := by decide +kernel
theorem d_Mod_go_178 : decode b_Mod_go 178 = .ok (.invokevirtual 306, 3) := by decide +kernel
theorem d_Mod_go_181 : decode b_Mod_go 181 = .ok (.iastore, 1) := by decide +kernel
theorem d_Mod_go_182 : decode b_Mod_go 182 = .ok (.aload_n 0, 1) := by decide +kernel
theorem d_Mod_go_183 : decode b_Mod_go 183 = .ok (.getfield 65, 3) := by decide +kernel
theorem d_Mod_go_186 : decode b_Mod_go 186 = .ok (.iconst 3, 1) := by decide +kernel
theorem d_Mod_go_187 : decode b_Mod_go 187 = .ok (.iconst 0, 1) := by decide +kernel
theorem d_Mod_go_188 : decode b_Mod_go 188 = .ok (.iastore, 1) := by decide +kernel
theorem d_Mod_go_189 : decode b_Mod_go 189 = .ok (.iconst 0, 1) := by decide +kernel
theorem d_Mod_go_190 : decode b_Mod_go 190 = .ok (.istore_n 3, 1) := by decide +kernel
theorem d_Mod_go_191 : decode b_Mod_go 191 = .ok (.iload_n 3, 1) := by decide +kernel
theorem d_Mod_go_192 : decode b_Mod_go 192 = .ok (.aload_n 0, 1) := by decide +kernel
theorem d_Mod_go_193 : decode b_Mod_go 193 = .ok (.getfield 33, 3) := by decide +kernel
theorem d_Mod_go_196 : decode b_Mod_go 196 = .ok (.iconst 1, 1) := by decide +kernel
theorem d_Mod_go_197 : decode b_Mod_go 197 = .ok (.iaload, 1) := by decide +kernel
theorem d_Mod_go_198 : decode b_Mod_go 198 = .ok (.if_icmp .ge 35, 3) := by decide +kernel
theorem d_Mod_go_201 : decode b_Mod_go 201 = .ok (.aload_n 0, 1) := by decide +kernel
theorem d_Mod_go_202 : decode b_Mod_go 202 = .ok (.getfield 65, 3) := by decide +kernel
theorem d_Mod_go_205 : decode b_Mod_go 205 = .ok (.iconst 3, 1) := by decide +kernel
theorem d_Mod_go_206 : decode b_Mod_go 206 = .ok (.dup2, 1) := by decide +kernel
theorem d_Mod_go_207 : decode b_Mod_go 207 = .ok (.iaload, 1) := by decide +kernel
theorem d_Mod_go_208 : decode b_Mod_go 208 = .ok (.aload_n 0, 1) := by decide +kernel
theorem d_Mod_go_209 : decode b_Mod_go 209 = .ok (.getfield 33, 3) := by decide +kernel
theorem d_Mod_go_212 : decode b_Mod_go 212 = .ok (.bipush 123, 2) := by decide +kernel
theorem d_Mod_go_214 : decode b_Mod_go 214 = .ok (.iload_n 3, 1) := by decide +kernel
theorem d_Mod_go_215 : decode b_Mod_go 215 = .ok (.iadd, 1) := by decide +kernel
theorem d_Mod_go_216 : decode b_Mod_go 216 = .ok (.iaload, 1) := by decide +kernel
theorem d_Mod_go_217 : decode b_Mod_go 217 = .ok (.ifCond .lt 7, 3) := by decide +kernel
theorem d_Mod_go_220 : decode b_Mod_go 220 = .ok (.iconst 1, 1) := by decide +kernel
theorem d_Mod_go_221 : decode b_Mod_go 221 = .ok (.goto 4, 3) := by decide +kernel
theorem d_Mod_go_224 : decode b_Mod_go 224 = .ok (.iconst 0, 1) := by decide +kernel
theorem d_Mod_go_225 : decode b_Mod_go 225 = .ok (.iadd, 1) := by decide +kernel
theorem d_Mod_go_226 : decode b_Mod_go 226 = .ok (.iastore, 1) := by decide +kernel
theorem d_Mod_go_227 : decode b_Mod_go 227 = .ok (.iinc 3 1, 3) := by decide +kernel
theorem d_Mod_go_230 : decode b_Mod_go 230 = .ok (.goto (-39), 3) := by decide +kernel
theorem d_Mod_go_233 : decode b_Mod_go 233 = .ok (.aload_n 0, 1) := by decide +kernel
theorem d_Mod_go_234 : decode b_Mod_go 234 = .ok (.iconst 1, 1) := by decide +kernel
theorem d_Mod_go_235 : decode b_Mod_go 235 = .ok (.putfield 309, 3) := by decide +kernel
theorem d_Mod_go_238 : decode b_Mod_go 238 = .ok (.iconst 0, 1) := by decide +kernel
theorem d_Mod_go_239 : decode b_Mod_go 239 = .ok (.istore_n 3, 1) := by decide +kernel
theorem d_Mod_go_240 : decode b_Mod_go 240 = .ok (.iload_n 3, 1) := by decide +kernel
theorem d_Mod_go_241 : decode b_Mod_go 241 = .ok (.bipush 8, 2) := by decide +kernel
theorem d_Mod_go_243 : decode b_Mod_go 243 = .ok (.if_icmp .ge 46, 3) := by decide +kernel
theorem d_Mod_go_246 : decode b_Mod_go 246 = .ok (.iload_n 1, 1) := by decide +kernel
theorem d_Mod_go_247 : decode b_Mod_go 247 = .ok (.ifCond .ne 42, 3) := by decide +kernel
theorem d_Mod_go_250 : decode b_Mod_go 250 = .ok (.aload_n 0, 1) := by decide +kernel
theorem d_Mod_go_251 : decode b_Mod_go 251 = .ok (.getfield 33, 3) := by decide +kernel
theorem d_Mod_go_254 : decode b_Mod_go 254 = .ok (.bipush 123, 2) := by decide +kernel
theorem d_Mod_go_256 : decode b_Mod_go 256 = .ok (.iload_n 3, 1) := by decide +kernel
theorem d_Mod_go_257 : decode b_Mod_go 257 = .ok (.iadd, 1) := by decide +kernel
theorem d_Mod_go_258 : decode b_Mod_go 258 = .ok (.aload_n 0, 1) := by decide +kernel
theorem d_Mod_go_259 : decode b_Mod_go 259 = .ok (.getfield 68, 3) := by decide +kernel
theorem d_Mod_go_262 : decode b_Mod_go 262 = .ok (.iload_n 3, 1) := by decide +kernel
theorem d_Mod_go_263 : decode b_Mod_go 263 = .ok (.iaload, 1) := by decide +kernel
theorem d_Mod_go_264 : decode b_Mod_go 264 = .ok (.iastore, 1) := by decide +kernel
theorem d_Mod_go_265 : decode b_Mod_go 265 = .ok (.aload_n 0, 1) := by decide +kernel
theorem d_Mod_go_266 : decode b_Mod_go 266 = .ok (.getfield 33, 3) := by decide +kernel
theorem d_Mod_go_269 : decode b_Mod_go 269 = .ok (.bipush 115, 2) := by decide +kernel
theorem d_Mod_go_271 : decode b_Mod_go 271 = .ok (.iload_n 3, 1) := by decide +kernel
theorem d_Mod_go_272 : decode b_Mod_go 272 = .ok (.iadd, 1) := by decide +kernel
theorem d_Mod_go_273 : decode b_Mod_go 273 = .ok (.aload_n 0, 1) := by decide +kernel
theorem d_Mod_go_274 : decode b_Mod_go 274 = .ok (.getfield 68, 3) := by decide +kernel
theorem d_Mod_go_277 : decode b_Mod_go 277 = .ok (.bipush 8, 2) := by decide +kernel
theorem d_Mod_go_279 : decode b_Mod_go 279 = .ok (.iload_n 3, 1) := by decide +kernel
theorem d_Mod_go_280 : decode b_Mod_go 280 = .ok (.iadd, 1) := by decide +kernel
theorem d_Mod_go_281 : decode b_Mod_go 281 = .ok (.iaload, 1) := by decide +kernel
theorem d_Mod_go_282 : decode b_Mod_go 282 = .ok (.iastore, 1) := by decide +kernel
theorem d_Mod_go_283 : decode b_Mod_go 283 = .ok (.iinc 3 1, 3) := by decide +kernel
theorem d_Mod_go_286 : decode b_Mod_go 286 = .ok (.goto (-46), 3) := by decide +kernel
theorem d_Mod_go_289 : decode b_Mod_go 289 = .ok (.iload_n 2, 1) := by decide +kernel
theorem d_Mod_go_290 : decode b_Mod_go 290 = .ok (.ireturn, 1) := by decide +kernel
noncomputable def f_Mod_go_L191 (z : Nat → Nat) (o : Nat) (v1 : Int32) (v2 : Int32) (s191 : Int32 × Mm) : Option ((Int32 × Mm) ⊕ (Mm)) :=
  (mm_ldI (s191.2.1 (o + 2)) (z (o + 2)) (1 : Int32)).bind fun x197 =>
  if x197 ≤ s191.1 then (
    some (.inr s191.2)
  ) else (
    (mm_ldI (s191.2.1 (o + 11)) (z (o + 11)) (3 : Int32)).bind fun x207 =>
    (mm_ldI (s191.2.1 (o + 2)) (z (o + 2)) ((123 : Int32) + s191.1)).bind fun x216 =>
    if x216 < 0 then (
      (mm_stI s191.2 (o + 11) (z (o + 11)) (3 : Int32) (x207 + (0 : Int32))).bind fun m226 =>
      mm_lt (s191.1 + (1 : Int32)) fun x227 =>
      some (.inl (x227, m226))
    ) else (
      (mm_stI s191.2 (o + 11) (z (o + 11)) (3 : Int32) (x207 + (1 : Int32))).bind fun m226 =>
      mm_lt (s191.1 + (1 : Int32)) fun x227 =>
      some (.inl (x227, m226))
    )
  )
noncomputable def f_Mod_go_L240 (z : Nat → Nat) (o : Nat) (v1 : Int32) (v2 : Int32) (s240 : Int32 × Mm) : Option ((Int32 × Mm) ⊕ (Mm)) :=
  if (8 : Int32) ≤ s240.1 then (
    some (.inr s240.2)
  ) else (
    if v1 = 0 then (
      (mm_ldI (s240.2.1 (o + 12)) (z (o + 12)) s240.1).bind fun x263 =>
      (mm_stI s240.2 (o + 2) (z (o + 2)) ((123 : Int32) + s240.1) x263).bind fun m264 =>
      (mm_ldI (m264.1 (o + 12)) (z (o + 12)) ((8 : Int32) + s240.1)).bind fun x281 =>
      (mm_stI m264 (o + 2) (z (o + 2)) ((115 : Int32) + s240.1) x281).bind fun m282 =>
      mm_lt (s240.1 + (1 : Int32)) fun x283 =>
      some (.inl (x283, m282))
    ) else (
      some (.inr s240.2)
    )
  )
noncomputable def f_Mod_go_J172 (z : Nat → Nat) (o : Nat) (v1 : Int32) (v2 : Int32) (m172 : Mm) : Option (Int32 × Mm) :=
  (f_Mod_worthOf z m172 o).bind fun q178 =>
  (mm_stI m172 (o + 11) (z (o + 11)) (2 : Int32) q178).bind fun m181 =>
  (mm_stI m181 (o + 11) (z (o + 11)) (3 : Int32) (0 : Int32)).bind fun m188 =>
  (mm_lp (f_Mod_go_L191 z o v1 v2) ((0 : Int32), m188)).bind (fun q191 =>
    mm_lt (kI q191 o 32 (1 : Int32)) fun m235 =>
    (mm_lp (f_Mod_go_L240 z o v1 v2) ((0 : Int32), m235)).bind (fun q240 =>
      some (v2, q240)))
noncomputable def f_Mod_go_L19 (z : Nat → Nat) (o : Nat) (v1 : Int32) (s19 : Int32 × Mm) : Option ((Int32 × Mm) ⊕ (Mm)) :=
  if (8 : Int32) ≤ s19.1 then (
    some (.inr s19.2)
  ) else (
    (mm_ldI (s19.2.1 (o + 2)) (z (o + 2)) ((123 : Int32) + s19.1)).bind fun x38 =>
    (mm_stI s19.2 (o + 12) (z (o + 12)) s19.1 x38).bind fun m39 =>
    (mm_ldI (m39.1 (o + 2)) (z (o + 2)) ((115 : Int32) + s19.1)).bind fun x56 =>
    (mm_stI m39 (o + 12) (z (o + 12)) ((8 : Int32) + s19.1) x56).bind fun m57 =>
    mm_lt (s19.1 + (1 : Int32)) fun x58 =>
    some (.inl (x58, m57))
  )
noncomputable def f_Mod_go_L82 (z : Nat → Nat) (o : Nat) (v1 : Int32) (s82 : Int32 × Int32 × Mm) : Option ((Int32 × Int32 × Mm) ⊕ (Int32 × Mm)) :=
  (mm_ldI (s82.2.2.1 (o + 2)) (z (o + 2)) (623 : Int32)).bind fun x90 =>
  if x90 ≤ s82.2.1 then (
    some (.inr (s82.1, s82.2.2))
  ) else (
    if 0 ≤ s82.1 then (
      some (.inr (s82.1, s82.2.2))
    ) else (
      mm_lt (((624 : Int32) + ((4 : Int32) * s82.2.1))) fun x105 =>
      (mm_ldI (s82.2.2.1 (o + 2)) (z (o + 2)) x105).bind fun x119 =>
      (mm_ldI (s82.2.2.1 (o + 2)) (z (o + 2)) (x105 + (1 : Int32))).bind fun x128 =>
      (mm_ldI (s82.2.2.1 (o + 2)) (z (o + 2)) (x105 + (2 : Int32))).bind fun x137 =>
      (f_Mod_does z s82.2.2 o x119 x128 x137).bind fun q138 =>
      (mm_stI q138.2 (o + 11) (z (o + 11)) (0 : Int32) q138.1).bind fun m141 =>
      (mm_ldI (m141.1 (o + 11)) (z (o + 11)) (0 : Int32)).bind fun x147 =>
      if x147 ≤ 0 then (
        (mm_ldI (m141.1 (o + 11)) (z (o + 11)) (1 : Int32)).bind fun x162 =>
        (mm_stI m141 (o + 11) (z (o + 11)) (1 : Int32) (x162 + (1 : Int32))).bind fun m165 =>
        mm_lt (s82.2.1 + (1 : Int32)) fun x166 =>
        some (.inl (s82.1, x166, m165))
      ) else (
        mm_lt (s82.2.1 + (1 : Int32)) fun x166 =>
        some (.inl (s82.2.1, x166, m141))
      )
    )
  )
noncomputable def f_Mod_go (z : Nat → Nat) (σ : Mm) (o : Nat) (p1 : Int32) : Option (Int32 × Mm) :=
  mm_lt (kI σ o 0 (0 : Int32)) fun m2 =>
  (f_Mod_isIn z m2 p1 (0 : Int32) (1 : Int32)).bind fun q8 =>
  if q8 = 0 then (
    some (((-2) : Int32), m2)
  ) else (
    (mm_lp (f_Mod_go_L19 z o p1) ((0 : Int32), m2)).bind (fun q19 =>
      (mm_stI q19 (o + 11) (z (o + 11)) (0 : Int32) (0 : Int32)).bind fun m72 =>
      (mm_stI m72 (o + 11) (z (o + 11)) (1 : Int32) (0 : Int32)).bind fun m79 =>
      (mm_lp (f_Mod_go_L82 z o p1) (((-1) : Int32), (0 : Int32), m79)).bind (fun q82 =>
        f_Mod_go_J172 z o p1 q82.1 q82.2))
  )
set_option maxHeartbeats 4000000 in
set_option maxRecDepth 100000 in
theorem c_Mod_go (l : Launch) {L : Ly} (hg : gd_ok L) {σ : Mm} {o : Nat} {p1 : Int32} (k_o_0 : ly_k L o = 11) {res : Int32 × Mm} (hf0 : f_Mod_go (ly_z L) σ o p1 = some res) : CtI l y_Mod_go b_Mod_go 5 (some .int) rm_Mod_go L [.ref (ly_a L o), .int p1] σ res.1 res.2 := by
  refine ct_i hg (by decide) (Nat.le_of_ble_eq_true rfl) ?_
  intro E A Q hE C hN
  subst hE
  have k_o_11 : ly_k L (o + 11) = 20 := gd_Mod_went hg k_o_0
  have k_o_2 : ly_k L (o + 2) = 20 := gd_Mod_s hg k_o_0
  have k_o_12 : ly_k L (o + 12) = 20 := gd_Mod_heldKept hg k_o_0
  unfold f_Mod_go at hf0
  show GW E L A 5 0 0 Q σ 0 [(0, .ref (ly_a L o)), (1, .int p1)] []
  have hj172 : ∀ (v1 : Int32) (v2 : Int32) (m172 : Mm), f_Mod_go_J172 (ly_z L) o v1 v2 m172 = some res → GW E L A 5 0 0 Q m172 172 [(0, .ref (ly_a L o)), (1, .int v1), (2, .int v2)] [] := by
    intro v1 v2 m172 hf0
    unfold f_Mod_go_J172 at hf0
    refine gw_aload_n C 0 d_Mod_go_172 rfl rfl ?_
    refine gw_getA C 30 d_Mod_go_173 k_o_0 (by decide) i_Mod rfl rfl (by decide) qw_1195 rfl rfl (o + 11) rfl ?_
    refine gw_iconst C (2 : Int32) d_Mod_go_176 (by decide) ?_
    refine gw_aload_n C 0 d_Mod_go_177 rfl rfl ?_
    obtain ⟨q178, hq178, hf0⟩ := mx_bd hf0
    refine gw_callI C (c_Mod_worthOf _ hg k_o_0 hq178) d_Mod_go_178 0 qw_1510 qw_1512 qs_71 qw_12 qw_1513 k_o_0 (by decide) rfl hd_Mod_worthOf rfl rfl (Nat.le_of_ble_eq_true rfl) ⟨rfl, rfl, Nat.le_of_ble_eq_true rfl, Nat.le_of_ble_eq_true rfl⟩ ⟨Nat.zero_le _, Nat.zero_le _⟩ ?_
    obtain ⟨m181, hm181, hf0⟩ := mx_bd hf0
    obtain ⟨gm181, em181⟩ := mx_stI hm181
    refine gw_iast C d_Mod_go_181 k_o_11 gm181 em181 ?_
    refine gw_aload_n C 0 d_Mod_go_182 rfl rfl ?_
    refine gw_getA C 30 d_Mod_go_183 k_o_0 (by decide) i_Mod rfl rfl (by decide) qw_1195 rfl rfl (o + 11) rfl ?_
    refine gw_iconst C (3 : Int32) d_Mod_go_186 (by decide) ?_
    refine gw_iconst C (0 : Int32) d_Mod_go_187 (by decide) ?_
    obtain ⟨m188, hm188, hf0⟩ := mx_bd hf0
    obtain ⟨gm188, em188⟩ := mx_stI hm188
    refine gw_iast C d_Mod_go_188 k_o_11 gm188 em188 ?_
    refine gw_iconst C (0 : Int32) d_Mod_go_189 (by decide) ?_
    refine gw_istore_n C [(3, .int (0 : Int32)), (0, .ref (ly_a L o)), (1, .int v1), (2, .int v2)] d_Mod_go_190 rfl (by decide) rfl ?_
    obtain ⟨q191, hq191, hf0⟩ := mx_bd hf0
    have hk191 : ∀ x9, q191 = x9 → GW E L A 5 0 0 Q x9 233 [(0, .ref (ly_a L o)), (1, .int v1), (2, .int v2)] [] := by
      intro x9 hx9
      subst hx9
      refine gw_aload_n C 0 d_Mod_go_233 rfl rfl ?_
      refine gw_iconst C (1 : Int32) d_Mod_go_234 (by decide) ?_
      obtain ⟨m235, em235, hf0⟩ := mx_lt hf0
      refine gw_putI t_Mod C 32 d_Mod_go_235 k_o_0 (by decide) i_Mod rfl rfl (by decide) qw_1197 rfl rfl t_Mod_ok n_Mod rfl (t_Mod_ok 32 (by decide)) rfl rfl em235 ?_
      refine gw_iconst C (0 : Int32) d_Mod_go_238 (by decide) ?_
      refine gw_istore_n C [(3, .int (0 : Int32)), (0, .ref (ly_a L o)), (1, .int v1), (2, .int v2)] d_Mod_go_239 rfl (by decide) rfl ?_
      obtain ⟨q240, hq240, hf0⟩ := mx_bd hf0
      have hk240 : ∀ x9, q240 = x9 → GW E L A 5 0 0 Q x9 289 [(2, .int v2)] [] := by
        intro x9 hx9
        subst hx9
        refine gw_iload_n C 0 d_Mod_go_289 rfl rfl ?_
        exact en_i hN hf0 d_Mod_go_290
      refine gw_sub [1, 2, 3, 0] (lv' := [(0, .ref (ly_a L o)), (1, .int v1), (2, .int v2), (3, .int (0 : Int32))]) rfl ?_
      refine mm_rule hq240 (P := fun (s240 : Int32 × Mm) => GW E L A 5 0 0 Q s240.2 240 [(0, .ref (ly_a L o)), (1, .int v1), (2, .int v2), (3, .int s240.1)] []) ?_
      intro s240 ih240 hx240 ⟨w240, hb240⟩
      have hf1 := hb240
      unfold f_Mod_go_L240 at hf1
      refine gw_iload_n C 3 d_Mod_go_240 rfl rfl ?_
      refine gw_bipush C (8 : Int32) d_Mod_go_241 (by decide) ?_
      refine gw_icmp_ge C 289 d_Mod_go_243 (by decide) (fun hc => ?_) (fun hc => ?_)
      · replace hf1 := mx_t hc hf1
        exact gw_go [2] (hk240 s240.2 (hx240 _ (hb240.trans hf1.symm)).symm) rfl
      · replace hf1 := mx_f hc hf1
        refine gw_iload_n C 1 d_Mod_go_246 rfl rfl ?_
        refine gw_if_ne C 289 d_Mod_go_247 (by decide) (fun hc => ?_) (fun hc => ?_)
        · replace hf1 := mx_f hc hf1
          exact gw_go [2] (hk240 s240.2 (hx240 _ (hb240.trans hf1.symm)).symm) rfl
        · replace hf1 := mx_t hc hf1
          refine gw_aload_n C 0 d_Mod_go_250 rfl rfl ?_
          refine gw_getA C 6 d_Mod_go_251 k_o_0 (by decide) i_Mod rfl rfl (by decide) qw_1171 rfl rfl (o + 2) rfl ?_
          refine gw_bipush C (123 : Int32) d_Mod_go_254 (by decide) ?_
          refine gw_iload_n C 3 d_Mod_go_256 rfl rfl ?_
          refine gw_iadd C d_Mod_go_257 ?_
          refine gw_aload_n C 0 d_Mod_go_258 rfl rfl ?_
          refine gw_getA C 31 d_Mod_go_259 k_o_0 (by decide) i_Mod rfl rfl (by decide) qw_1196 rfl rfl (o + 12) rfl ?_
          refine gw_iload_n C 3 d_Mod_go_262 rfl rfl ?_
          obtain ⟨x263, hx263, hf1⟩ := mx_bd hf1
          obtain ⟨gx263, ex263⟩ := mx_ldI hx263
          refine gw_iald C d_Mod_go_263 k_o_12 gx263 ex263 ?_
          obtain ⟨m264, hm264, hf1⟩ := mx_bd hf1
          obtain ⟨gm264, em264⟩ := mx_stI hm264
          refine gw_iast C d_Mod_go_264 k_o_2 gm264 em264 ?_
          refine gw_aload_n C 0 d_Mod_go_265 rfl rfl ?_
          refine gw_getA C 6 d_Mod_go_266 k_o_0 (by decide) i_Mod rfl rfl (by decide) qw_1171 rfl rfl (o + 2) rfl ?_
          refine gw_bipush C (115 : Int32) d_Mod_go_269 (by decide) ?_
          refine gw_iload_n C 3 d_Mod_go_271 rfl rfl ?_
          refine gw_iadd C d_Mod_go_272 ?_
          refine gw_aload_n C 0 d_Mod_go_273 rfl rfl ?_
          refine gw_getA C 31 d_Mod_go_274 k_o_0 (by decide) i_Mod rfl rfl (by decide) qw_1196 rfl rfl (o + 12) rfl ?_
          refine gw_bipush C (8 : Int32) d_Mod_go_277 (by decide) ?_
          refine gw_iload_n C 3 d_Mod_go_279 rfl rfl ?_
          refine gw_iadd C d_Mod_go_280 ?_
          obtain ⟨x281, hx281, hf1⟩ := mx_bd hf1
          obtain ⟨gx281, ex281⟩ := mx_ldI hx281
          refine gw_iald C d_Mod_go_281 k_o_12 gx281 ex281 ?_
          obtain ⟨m282, hm282, hf1⟩ := mx_bd hf1
          obtain ⟨gm282, em282⟩ := mx_stI hm282
          refine gw_iast C d_Mod_go_282 k_o_2 gm282 em282 ?_
          obtain ⟨x283, ex283, hf1⟩ := mx_lt hf1
          refine gw_iinc C 3 [(3, .int x283), (0, .ref (ly_a L o)), (1, .int v1), (2, .int v2)] d_Mod_go_283 rfl (by rw [ex283]; rfl) (by decide) rfl ?_
          refine gw_goto C 240 d_Mod_go_286 (by decide) ?_
          exact gw_go [1, 2, 3, 0] (ih240 (x283, m282) (hb240.trans hf1.symm)) rfl
    refine gw_sub [1, 2, 3, 0] (lv' := [(0, .ref (ly_a L o)), (1, .int v1), (2, .int v2), (3, .int (0 : Int32))]) rfl ?_
    refine mm_rule hq191 (P := fun (s191 : Int32 × Mm) => GW E L A 5 0 0 Q s191.2 191 [(0, .ref (ly_a L o)), (1, .int v1), (2, .int v2), (3, .int s191.1)] []) ?_
    intro s191 ih191 hx191 ⟨w191, hb191⟩
    have hf1 := hb191
    unfold f_Mod_go_L191 at hf1
    refine gw_iload_n C 3 d_Mod_go_191 rfl rfl ?_
    refine gw_aload_n C 0 d_Mod_go_192 rfl rfl ?_
    refine gw_getA C 6 d_Mod_go_193 k_o_0 (by decide) i_Mod rfl rfl (by decide) qw_1171 rfl rfl (o + 2) rfl ?_
    refine gw_iconst C (1 : Int32) d_Mod_go_196 (by decide) ?_
    obtain ⟨x197, hx197, hf1⟩ := mx_bd hf1
    obtain ⟨gx197, ex197⟩ := mx_ldI hx197
    refine gw_iald C d_Mod_go_197 k_o_2 gx197 ex197 ?_
    refine gw_icmp_ge C 233 d_Mod_go_198 (by decide) (fun hc => ?_) (fun hc => ?_)
    · replace hf1 := mx_t hc hf1
      exact gw_go [0, 1, 2] (hk191 s191.2 (hx191 _ (hb191.trans hf1.symm)).symm) rfl
    · replace hf1 := mx_f hc hf1
      refine gw_aload_n C 0 d_Mod_go_201 rfl rfl ?_
      refine gw_getA C 30 d_Mod_go_202 k_o_0 (by decide) i_Mod rfl rfl (by decide) qw_1195 rfl rfl (o + 11) rfl ?_
      refine gw_iconst C (3 : Int32) d_Mod_go_205 (by decide) ?_
      refine gw_dup2 C d_Mod_go_206 rfl rfl ?_
      obtain ⟨x207, hx207, hf1⟩ := mx_bd hf1
      obtain ⟨gx207, ex207⟩ := mx_ldI hx207
      refine gw_iald C d_Mod_go_207 k_o_11 gx207 ex207 ?_
      refine gw_aload_n C 0 d_Mod_go_208 rfl rfl ?_
      refine gw_getA C 6 d_Mod_go_209 k_o_0 (by decide) i_Mod rfl rfl (by decide) qw_1171 rfl rfl (o + 2) rfl ?_
      refine gw_bipush C (123 : Int32) d_Mod_go_212 (by decide) ?_
      refine gw_iload_n C 3 d_Mod_go_214 rfl rfl ?_
      refine gw_iadd C d_Mod_go_215 ?_
      obtain ⟨x216, hx216, hf1⟩ := mx_bd hf1
      obtain ⟨gx216, ex216⟩ := mx_ldI hx216
      refine gw_iald C d_Mod_go_216 k_o_2 gx216 ex216 ?_
      refine gw_if_lt C 224 d_Mod_go_217 (by decide) (fun hc => ?_) (fun hc => ?_)
      · replace hf1 := mx_t hc hf1
        refine gw_iconst C (0 : Int32) d_Mod_go_224 (by decide) ?_
        refine gw_iadd C d_Mod_go_225 ?_
        obtain ⟨m226, hm226, hf1⟩ := mx_bd hf1
        obtain ⟨gm226, em226⟩ := mx_stI hm226
        refine gw_iast C d_Mod_go_226 k_o_11 gm226 em226 ?_
        obtain ⟨x227, ex227, hf1⟩ := mx_lt hf1
        refine gw_iinc C 3 [(3, .int x227), (0, .ref (ly_a L o)), (1, .int v1), (2, .int v2)] d_Mod_go_227 rfl (by rw [ex227]; rfl) (by decide) rfl ?_
        refine gw_goto C 191 d_Mod_go_230 (by decide) ?_
        exact gw_go [1, 2, 3, 0] (ih191 (x227, m226) (hb191.trans hf1.symm)) rfl
      · replace hf1 := mx_f hc hf1
        refine gw_iconst C (1 : Int32) d_Mod_go_220 (by decide) ?_
        refine gw_goto C 225 d_Mod_go_221 (by decide) ?_
        refine gw_iadd C d_Mod_go_225 ?_
        obtain ⟨m226, hm226, hf1⟩ := mx_bd hf1
        obtain ⟨gm226, em226⟩ := mx_stI hm226
        refine gw_iast C d_Mod_go_226 k_o_11 gm226 em226 ?_
        obtain ⟨x227, ex227, hf1⟩ := mx_lt hf1
        refine gw_iinc C 3 [(3, .int x227), (0, .ref (ly_a L o)), (1, .int v1), (2, .int v2)] d_Mod_go_227 rfl (by rw [ex227]; rfl) (by decide) rfl ?_
        refine gw_goto C 191 d_Mod_go_230 (by decide) ?_
        exact gw_go [1, 2, 3, 0] (ih191 (x227, m226) (hb191.trans hf1.symm)) rfl
  refine gw_aload_n C 0 d_Mod_go_0 rfl rfl ?_
  refine gw_iconst C (0 : Int32) d_Mod_go_1 (by decide) ?_
  obtain ⟨m2, em2, hf0⟩ := mx_lt hf0
  refine gw_putI t_Mod C 0 d_Mod_go_2 k_o_0 (by decide) i_Mod rfl rfl (by decide) qw_1165 rfl rfl t_Mod_ok n_Mod rfl (t_Mod_ok 0 (by decide)) rfl rfl em2 ?_
  refine gw_iload_n C 1 d_Mod_go_5 rfl rfl ?_
  refine gw_iconst C (0 : Int32) d_Mod_go_6 (by decide) ?_
  refine gw_iconst C (1 : Int32) d_Mod_go_7 (by decide) ?_
  obtain ⟨q8, hq8, hf0⟩ := mx_bd hf0
  refine gw_callIS C (c_Mod_isIn _ hg hq8) d_Mod_go_8 3 qw_1356 qw_1357 qw_12 qw_1358 hd_Mod_isIn rfl rfl (Nat.le_of_ble_eq_true rfl) ⟨rfl, rfl, Nat.le_of_ble_eq_true rfl, Nat.le_of_ble_eq_true rfl⟩ ⟨Nat.zero_le _, Nat.zero_le _⟩ ?_
  refine gw_if_ne C 17 d_Mod_go_11 (by decide) (fun hc => ?_) (fun hc => ?_)
  · replace hf0 := mx_f hc hf0
    refine gw_iconst C (0 : Int32) d_Mod_go_17 (by decide) ?_
    refine gw_istore_n C [(2, .int (0 : Int32)), (0, .ref (ly_a L o)), (1, .int p1)] d_Mod_go_18 rfl (by decide) rfl ?_
    obtain ⟨q19, hq19, hf0⟩ := mx_bd hf0
    have hk19 : ∀ x9, q19 = x9 → GW E L A 5 0 0 Q x9 64 [(0, .ref (ly_a L o)), (1, .int p1)] [] := by
      intro x9 hx9
      subst hx9
      refine gw_iconst C ((-1) : Int32) d_Mod_go_64 (by decide) ?_
      refine gw_istore_n C [(2, .int ((-1) : Int32)), (0, .ref (ly_a L o)), (1, .int p1)] d_Mod_go_65 rfl (by decide) rfl ?_
      refine gw_aload_n C 1 d_Mod_go_66 rfl rfl ?_
      refine gw_getA C 30 d_Mod_go_67 k_o_0 (by decide) i_Mod rfl rfl (by decide) qw_1195 rfl rfl (o + 11) rfl ?_
      refine gw_iconst C (0 : Int32) d_Mod_go_70 (by decide) ?_
      refine gw_iconst C (0 : Int32) d_Mod_go_71 (by decide) ?_
      obtain ⟨m72, hm72, hf0⟩ := mx_bd hf0
      obtain ⟨gm72, em72⟩ := mx_stI hm72
      refine gw_iast C d_Mod_go_72 k_o_11 gm72 em72 ?_
      refine gw_aload_n C 1 d_Mod_go_73 rfl rfl ?_
      refine gw_getA C 30 d_Mod_go_74 k_o_0 (by decide) i_Mod rfl rfl (by decide) qw_1195 rfl rfl (o + 11) rfl ?_
      refine gw_iconst C (1 : Int32) d_Mod_go_77 (by decide) ?_
      refine gw_iconst C (0 : Int32) d_Mod_go_78 (by decide) ?_
      obtain ⟨m79, hm79, hf0⟩ := mx_bd hf0
      obtain ⟨gm79, em79⟩ := mx_stI hm79
      refine gw_iast C d_Mod_go_79 k_o_11 gm79 em79 ?_
      refine gw_iconst C (0 : Int32) d_Mod_go_80 (by decide) ?_
      refine gw_istore_n C [(3, .int (0 : Int32)), (2, .int ((-1) : Int32)), (0, .ref (ly_a L o)), (1, .int p1)] d_Mod_go_81 rfl (by decide) rfl ?_
      obtain ⟨q82, hq82, hf0⟩ := mx_bd hf0
      have hk82 : ∀ x9, q82 = x9 → GW E L A 5 0 0 Q x9.2 172 [(0, .ref (ly_a L o)), (1, .int p1), (2, .int x9.1)] [] := by
        intro x9 hx9
        subst hx9
        exact gw_go [0, 1, 2] (hj172 _ _ _ hf0) rfl
      refine gw_sub [2, 3, 1, 0] (lv' := [(0, .ref (ly_a L o)), (1, .int p1), (2, .int ((-1) : Int32)), (3, .int (0 : Int32))]) rfl ?_
      refine mm_rule hq82 (P := fun (s82 : Int32 × Int32 × Mm) => GW E L A 5 0 0 Q s82.2.2 82 [(0, .ref (ly_a L o)), (1, .int p1), (2, .int s82.1), (3, .int s82.2.1)] []) ?_
      intro s82 ih82 hx82 ⟨w82, hb82⟩
      have hf1 := hb82
      unfold f_Mod_go_L82 at hf1
      refine gw_iload_n C 3 d_Mod_go_82 rfl rfl ?_
      refine gw_aload_n C 0 d_Mod_go_83 rfl rfl ?_
      refine gw_getA C 6 d_Mod_go_84 k_o_0 (by decide) i_Mod rfl rfl (by decide) qw_1171 rfl rfl (o + 2) rfl ?_
      refine gw_sipush C (623 : Int32) d_Mod_go_87 (by decide) ?_
      obtain ⟨x90, hx90, hf1⟩ := mx_bd hf1
      obtain ⟨gx90, ex90⟩ := mx_ldI hx90
      refine gw_iald C d_Mod_go_90 k_o_2 gx90 ex90 ?_
      refine gw_icmp_ge C 172 d_Mod_go_91 (by decide) (fun hc => ?_) (fun hc => ?_)
      · replace hf1 := mx_t hc hf1
        exact gw_go [0, 1, 2] (hk82 (s82.1, s82.2.2) (hx82 _ (hb82.trans hf1.symm)).symm) rfl
      · replace hf1 := mx_f hc hf1
        refine gw_iload_n C 2 d_Mod_go_94 rfl rfl ?_
        refine gw_if_ge C 172 d_Mod_go_95 (by decide) (fun hc => ?_) (fun hc => ?_)
        · replace hf1 := mx_t hc hf1
          exact gw_go [0, 1, 2] (hk82 (s82.1, s82.2.2) (hx82 _ (hb82.trans hf1.symm)).symm) rfl
        · replace hf1 := mx_f hc hf1
          refine gw_sipush C (624 : Int32) d_Mod_go_98 (by decide) ?_
          refine gw_iconst C (4 : Int32) d_Mod_go_101 (by decide) ?_
          refine gw_iload_n C 3 d_Mod_go_102 rfl rfl ?_
          refine gw_imul C d_Mod_go_103 ?_
          refine gw_iadd C d_Mod_go_104 ?_
          obtain ⟨x105, ex105, hf1⟩ := mx_lt hf1
          refine gw_topi ex105 ?_
          refine gw_istore C [(4, .int x105), (0, .ref (ly_a L o)), (1, .int p1), (2, .int s82.1), (3, .int s82.2.1)] d_Mod_go_105 (by decide) rfl ?_
          refine gw_aload_n C 1 d_Mod_go_107 rfl rfl ?_
          refine gw_getA C 30 d_Mod_go_108 k_o_0 (by decide) i_Mod rfl rfl (by decide) qw_1195 rfl rfl (o + 11) rfl ?_
          refine gw_iconst C (0 : Int32) d_Mod_go_111 (by decide) ?_
          refine gw_aload_n C 1 d_Mod_go_112 rfl rfl ?_
          refine gw_aload_n C 1 d_Mod_go_113 rfl rfl ?_
          refine gw_getA C 6 d_Mod_go_114 k_o_0 (by decide) i_Mod rfl rfl (by decide) qw_1171 rfl rfl (o + 2) rfl ?_
          refine gw_iload C 0 d_Mod_go_117 rfl ?_
          obtain ⟨x119, hx119, hf1⟩ := mx_bd hf1
          obtain ⟨gx119, ex119⟩ := mx_ldI hx119
          refine gw_iald C d_Mod_go_119 k_o_2 gx119 ex119 ?_
          refine gw_aload_n C 1 d_Mod_go_120 rfl rfl ?_
          refine gw_getA C 6 d_Mod_go_121 k_o_0 (by decide) i_Mod rfl rfl (by decide) qw_1171 rfl rfl (o + 2) rfl ?_
          refine gw_iload C 0 d_Mod_go_124 rfl ?_
          refine gw_iconst C (1 : Int32) d_Mod_go_126 (by decide) ?_
          refine gw_iadd C d_Mod_go_127 ?_
          obtain ⟨x128, hx128, hf1⟩ := mx_bd hf1
          obtain ⟨gx128, ex128⟩ := mx_ldI hx128
          refine gw_iald C d_Mod_go_128 k_o_2 gx128 ex128 ?_
          refine gw_aload_n C 1 d_Mod_go_129 rfl rfl ?_
          refine gw_getA C 6 d_Mod_go_130 k_o_0 (by decide) i_Mod rfl rfl (by decide) qw_1171 rfl rfl (o + 2) rfl ?_
          refine gw_iload C 0 d_Mod_go_133 rfl ?_
          refine gw_iconst C (2 : Int32) d_Mod_go_135 (by decide) ?_
          refine gw_iadd C d_Mod_go_136 ?_
          obtain ⟨x137, hx137, hf1⟩ := mx_bd hf1
          obtain ⟨gx137, ex137⟩ := mx_ldI hx137
          refine gw_iald C d_Mod_go_137 k_o_2 gx137 ex137 ?_
          obtain ⟨q138, hq138, hf1⟩ := mx_bd hf1
          refine gw_callI C (c_Mod_does _ hg k_o_0 hq138) d_Mod_go_138 3 qw_1506 qw_1508 qs_70 qw_12 qw_1509 k_o_0 (by decide) rfl hd_Mod_does rfl rfl (Nat.le_of_ble_eq_true rfl) ⟨rfl, rfl, Nat.le_of_ble_eq_true rfl, Nat.le_of_ble_eq_true rfl⟩ ⟨Nat.zero_le _, Nat.zero_le _⟩ ?_
          obtain ⟨m141, hm141, hf1⟩ := mx_bd hf1
          obtain ⟨gm141, em141⟩ := mx_stI hm141
          refine gw_iast C d_Mod_go_141 k_o_11 gm141 em141 ?_
          refine gw_aload_n C 1 d_Mod_go_142 rfl rfl ?_
          refine gw_getA C 30 d_Mod_go_143 k_o_0 (by decide) i_Mod rfl rfl (by decide) qw_1195 rfl rfl (o + 11) rfl ?_
          refine gw_iconst C (0 : Int32) d_Mod_go_146 (by decide) ?_
          obtain ⟨x147, hx147, hf1⟩ := mx_bd hf1
          obtain ⟨gx147, ex147⟩ := mx_ldI hx147
          refine gw_iald C d_Mod_go_147 k_o_11 gx147 ex147 ?_
          refine gw_if_le C 156 d_Mod_go_148 (by decide) (fun hc => ?_) (fun hc => ?_)
          · replace hf1 := mx_t hc hf1
            refine gw_aload_n C 1 d_Mod_go_156 rfl rfl ?_
            refine gw_getA C 30 d_Mod_go_157 k_o_0 (by decide) i_Mod rfl rfl (by decide) qw_1195 rfl rfl (o + 11) rfl ?_
            refine gw_iconst C (1 : Int32) d_Mod_go_160 (by decide) ?_
            refine gw_dup2 C d_Mod_go_161 rfl rfl ?_
            obtain ⟨x162, hx162, hf1⟩ := mx_bd hf1
            obtain ⟨gx162, ex162⟩ := mx_ldI hx162
            refine gw_iald C d_Mod_go_162 k_o_11 gx162 ex162 ?_
            refine gw_iconst C (1 : Int32) d_Mod_go_163 (by decide) ?_
            refine gw_iadd C d_Mod_go_164 ?_
            obtain ⟨m165, hm165, hf1⟩ := mx_bd hf1
            obtain ⟨gm165, em165⟩ := mx_stI hm165
            refine gw_iast C d_Mod_go_165 k_o_11 gm165 em165 ?_
            obtain ⟨x166, ex166, hf1⟩ := mx_lt hf1
            refine gw_iinc C 4 [(3, .int x166), (4, .int x105), (0, .ref (ly_a L o)), (1, .int p1), (2, .int s82.1)] d_Mod_go_166 rfl (by rw [ex166]; rfl) (by decide) rfl ?_
            refine gw_goto C 82 d_Mod_go_169 (by decide) ?_
            exact gw_go [2, 3, 4, 0] (ih82 (s82.1, x166, m165) (hb82.trans hf1.symm)) rfl
          · replace hf1 := mx_f hc hf1
            refine gw_iload_n C 4 d_Mod_go_151 rfl rfl ?_
            refine gw_istore_n C [(2, .int s82.2.1), (4, .int x105), (0, .ref (ly_a L o)), (1, .int p1), (3, .int s82.2.1)] d_Mod_go_152 rfl (by decide) rfl ?_
            refine gw_goto C 166 d_Mod_go_153 (by decide) ?_
            obtain ⟨x166, ex166, hf1⟩ := mx_lt hf1
            refine gw_iinc C 4 [(3, .int x166), (2, .int s82.2.1), (4, .int x105), (0, .ref (ly_a L o)), (1, .int p1)] d_Mod_go_166 rfl (by rw [ex166]; rfl) (by decide) rfl ?_
            refine gw_goto C 82 d_Mod_go_169 (by decide) ?_
            exact gw_go [3, 4, 1, 0] (ih82 (s82.2.1, x166, m141) (hb82.trans hf1.symm)) rfl
    refine gw_sub [1, 2, 0] (lv' := [(0, .ref (ly_a L o)), (1, .int p1), (2, .int (0 : Int32))]) rfl ?_
    refine mm_rule hq19 (P := fun (s19 : Int32 × Mm) => GW E L A 5 0 0 Q s19.2 19 [(0, .ref (ly_a L o)), (1, .int p1), (2, .int s19.1)] []) ?_
    intro s19 ih19 hx19 ⟨w19, hb19⟩
    have hf1 := hb19
    unfold f_Mod_go_L19 at hf1
    refine gw_iload_n C 2 d_Mod_go_19 rfl rfl ?_
    refine gw_bipush C (8 : Int32) d_Mod_go_20 (by decide) ?_
    refine gw_icmp_ge C 64 d_Mod_go_22 (by decide) (fun hc => ?_) (fun hc => ?_)
    · replace hf1 := mx_t hc hf1
      exact gw_go [0, 1] (hk19 s19.2 (hx19 _ (hb19.trans hf1.symm)).symm) rfl
    · replace hf1 := mx_f hc hf1
      refine gw_aload_n C 0 d_Mod_go_25 rfl rfl ?_
      refine gw_getA C 31 d_Mod_go_26 k_o_0 (by decide) i_Mod rfl rfl (by decide) qw_1196 rfl rfl (o + 12) rfl ?_
      refine gw_iload_n C 2 d_Mod_go_29 rfl rfl ?_
      refine gw_aload_n C 0 d_Mod_go_30 rfl rfl ?_
      refine gw_getA C 6 d_Mod_go_31 k_o_0 (by decide) i_Mod rfl rfl (by decide) qw_1171 rfl rfl (o + 2) rfl ?_
      refine gw_bipush C (123 : Int32) d_Mod_go_34 (by decide) ?_
      refine gw_iload_n C 2 d_Mod_go_36 rfl rfl ?_
      refine gw_iadd C d_Mod_go_37 ?_
      obtain ⟨x38, hx38, hf1⟩ := mx_bd hf1
      obtain ⟨gx38, ex38⟩ := mx_ldI hx38
      refine gw_iald C d_Mod_go_38 k_o_2 gx38 ex38 ?_
      obtain ⟨m39, hm39, hf1⟩ := mx_bd hf1
      obtain ⟨gm39, em39⟩ := mx_stI hm39
      refine gw_iast C d_Mod_go_39 k_o_12 gm39 em39 ?_
      refine gw_aload_n C 0 d_Mod_go_40 rfl rfl ?_
      refine gw_getA C 31 d_Mod_go_41 k_o_0 (by decide) i_Mod rfl rfl (by decide) qw_1196 rfl rfl (o + 12) rfl ?_
      refine gw_bipush C (8 : Int32) d_Mod_go_44 (by decide) ?_
      refine gw_iload_n C 2 d_Mod_go_46 rfl rfl ?_
      refine gw_iadd C d_Mod_go_47 ?_
      refine gw_aload_n C 0 d_Mod_go_48 rfl rfl ?_
      refine gw_getA C 6 d_Mod_go_49 k_o_0 (by decide) i_Mod rfl rfl (by decide) qw_1171 rfl rfl (o + 2) rfl ?_
      refine gw_bipush C (115 : Int32) d_Mod_go_52 (by decide) ?_
      refine gw_iload_n C 2 d_Mod_go_54 rfl rfl ?_
      refine gw_iadd C d_Mod_go_55 ?_
      obtain ⟨x56, hx56, hf1⟩ := mx_bd hf1
      obtain ⟨gx56, ex56⟩ := mx_ldI hx56
      refine gw_iald C d_Mod_go_56 k_o_2 gx56 ex56 ?_
      obtain ⟨m57, hm57, hf1⟩ := mx_bd hf1
      obtain ⟨gm57, em57⟩ := mx_stI hm57
      refine gw_iast C d_Mod_go_57 k_o_12 gm57 em57 ?_
      obtain ⟨x58, ex58, hf1⟩ := mx_lt hf1
      refine gw_iinc C 2 [(2, .int x58), (0, .ref (ly_a L o)), (1, .int p1)] d_Mod_go_58 rfl (by rw [ex58]; rfl) (by decide) rfl ?_
      refine gw_goto C 19 d_Mod_go_61 (by decide) ?_
      exact gw_go [1, 2, 0] (ih19 (x58, m57) (hb19.trans hf1.symm)) rfl
  · replace hf0 := mx_t hc hf0
    refine gw_bipush C ((-2) : Int32) d_Mod_go_14 (by decide) ?_
    exact en_i hN hf0 d_Mod_go_16

/-! NameHatModel.went(I)I -/
abbrev b_Mod_went : ByteArray := prog_14_method_60_code
def y_Mod_went : MethodName := ⟨"NameHatModel", "went", "(I)I"⟩
abbrev rm_Mod_went : Room := { frames := 1, cells := 0, slots := 0, locals := 22 }
theorem hd_Mod_went : y_Mod_went.cls ≠ "java/lang/invoke/MethodHandle" ∧ y_Mod_went.cls ≠ "java/lang/invoke/VarHandle" ∧ (parseMethodDescriptor y_Mod_went.desc).map (fun d => d.parameters.length) = some 1 := by decide +kernel
theorem d_Mod_went_0 : decode b_Mod_went 0 = .ok (.aload_n 0, 1) := by decide +kernel
theorem d_Mod_went_1 : decode b_Mod_went 1 = .ok (.iconst 0, 1) := by decide +kernel
theorem d_Mod_went_2 : decode b_Mod_went 2 = .ok (.putfield 1, 3) := by decide +kernel
theorem d_Mod_went_5 : decode b_Mod_went 5 = .ok (.aload_n 0, 1) := by decide +kernel
theorem d_Mod_went_6 : decode b_Mod_went 6 = .ok (.getfield 309, 3) := by decide +kernel
theorem d_Mod_went_9 : decode b_Mod_went 9 = .ok (.ifCond .eq 21, 3) := by decide +kernel
theorem d_Mod_went_12 : decode b_Mod_went 12 = .ok (.iload_n 1, 1) := by decide +kernel
theorem d_Mod_went_13 : decode b_Mod_went 13 = .ok (.iconst 0, 1) := by decide +kernel
theorem d_Mod_went_14 : decode b_Mod_went 14 = .ok (.iconst 3, 1) := by decide +kernel
theorem d_Mod_went_15 : decode b_Mod_went 15 = .ok (.invokestatic 175, 3) := by decide +kernel
theorem d_Mod_went_18 : decode b_Mod_went 18 = .ok (.ifCond .eq 12, 3) := by decide +kernel
theorem d_Mod_went_21 : decode b_Mod_went 21 = .ok (.aload_n 0, 1) := by decide +kernel
theorem d_Mod_went_22 : decode b_Mod_went 22 = .ok (.getfield 65, 3) := by decide +kernel
theorem d_Mod_went_25 : decode b_Mod_went 25 = .ok (.iload_n 1, 1) := by decide +kernel
theorem d_Mod_went_26 : decode b_Mod_went 26 = .ok (.iaload, 1) := by decide +kernel
theorem d_Mod_went_27 : decode b_Mod_went 27 = .ok (.goto 4, 3) := by decide +kernel
theorem d_Mod_went_30 : decode b_Mod_went 30 = .ok (.iconst (-1), 1) := by decide +kernel
theorem d_Mod_went_31 : decode b_Mod_went 31 = .ok (.ireturn, 1) := by decide +kernel
noncomputable def f_Mod_went (z : Nat → Nat) (σ : Mm) (o : Nat) (p1 : Int32) : Option (Int32 × Mm) :=
  mm_lt (kI σ o 0 (0 : Int32)) fun m2 =>
  if (m2.1 o 32) = 0 then (
    some (((-1) : Int32), m2)
  ) else (
    (f_Mod_isIn z m2 p1 (0 : Int32) (3 : Int32)).bind fun q15 =>
    if q15 = 0 then (
      some (((-1) : Int32), m2)
    ) else (
      (mm_ldI (m2.1 (o + 11)) (z (o + 11)) p1).bind fun x26 =>
      some (x26, m2)
    )
  )
set_option maxHeartbeats 4000000 in
set_option maxRecDepth 100000 in
theorem c_Mod_went (l : Launch) {L : Ly} (hg : gd_ok L) {σ : Mm} {o : Nat} {p1 : Int32} (k_o_0 : ly_k L o = 11) {res : Int32 × Mm} (hf0 : f_Mod_went (ly_z L) σ o p1 = some res) : CtI l y_Mod_went b_Mod_went 2 (some .int) rm_Mod_went L [.ref (ly_a L o), .int p1] σ res.1 res.2 := by
  refine ct_i hg (by decide) (Nat.le_of_ble_eq_true rfl) ?_
  intro E A Q hE C hN
  subst hE
  have k_o_11 : ly_k L (o + 11) = 20 := gd_Mod_went hg k_o_0
  unfold f_Mod_went at hf0
  show GW E L A 2 0 0 Q σ 0 [(0, .ref (ly_a L o)), (1, .int p1)] []
  refine gw_aload_n C 0 d_Mod_went_0 rfl rfl ?_
  refine gw_iconst C (0 : Int32) d_Mod_went_1 (by decide) ?_
  obtain ⟨m2, em2, hf0⟩ := mx_lt hf0
  refine gw_putI t_Mod C 0 d_Mod_went_2 k_o_0 (by decide) i_Mod rfl rfl (by decide) qw_1165 rfl rfl t_Mod_ok n_Mod rfl (t_Mod_ok 0 (by decide)) rfl rfl em2 ?_
  refine gw_aload_n C 0 d_Mod_went_5 rfl rfl ?_
  refine gw_getI C 32 d_Mod_went_6 k_o_0 (by decide) i_Mod rfl rfl (by decide) qw_1197 rfl rfl ?_
  refine gw_if_eq C 30 d_Mod_went_9 (by decide) (fun hc => ?_) (fun hc => ?_)
  · replace hf0 := mx_t hc hf0
    refine gw_iconst C ((-1) : Int32) d_Mod_went_30 (by decide) ?_
    exact en_i hN hf0 d_Mod_went_31
  · replace hf0 := mx_f hc hf0
    refine gw_iload_n C 1 d_Mod_went_12 rfl rfl ?_
    refine gw_iconst C (0 : Int32) d_Mod_went_13 (by decide) ?_
    refine gw_iconst C (3 : Int32) d_Mod_went_14 (by decide) ?_
    obtain ⟨q15, hq15, hf0⟩ := mx_bd hf0
    refine gw_callIS C (c_Mod_isIn _ hg hq15) d_Mod_went_15 3 qw_1356 qw_1357 qw_12 qw_1358 hd_Mod_isIn rfl rfl (Nat.le_of_ble_eq_true rfl) ⟨rfl, rfl, Nat.le_of_ble_eq_true rfl, Nat.le_of_ble_eq_true rfl⟩ ⟨Nat.zero_le _, Nat.zero_le _⟩ ?_
    refine gw_if_eq C 30 d_Mod_went_18 (by decide) (fun hc => ?_) (fun hc => ?_)
    · replace hf0 := mx_t hc hf0
      refine gw_iconst C ((-1) : Int32) d_Mod_went_30 (by decide) ?_
      exact en_i hN hf0 d_Mod_went_31
    · replace hf0 := mx_f hc hf0
      refine gw_aload_n C 0 d_Mod_went_21 rfl rfl ?_
      refine gw_getA C 30 d_Mod_went_22 k_o_0 (by decide) i_Mod rfl rfl (by decide) qw_1195 rfl rfl (o + 11) rfl ?_
      refine gw_iload_n C 1 d_Mod_went_25 rfl rfl ?_
      obtain ⟨x26, hx26, hf0⟩ := mx_bd hf0
      obtain ⟨gx26, ex26⟩ := mx_ldI hx26
      refine gw_iald C d_Mod_went_26 k_o_11 gx26 ex26 ?_
      refine gw_goto C 31 d_Mod_went_27 (by decide) ?_
      exact en_i hN hf0 d_Mod_went_31

/-! NameHatModel.worth()I -/
abbrev b_Mod_worth : ByteArray := prog_14_method_62_code
def y_Mod_worth : MethodName := ⟨"NameHatModel", "worth", "()I"⟩
abbrev rm_Mod_worth : Room := { frames := 2, cells := 0, slots := 0, locals := 45 }
theorem hd_Mod_worth : y_Mod_worth.cls ≠ "java/lang/invoke/MethodHandle" ∧ y_Mod_worth.cls ≠ "java/lang/invoke/VarHandle" ∧ (parseMethodDescriptor y_Mod_worth.desc).map (fun d => d.parameters.length) = some 0 := by decide +kernel
theorem d_Mod_worth_0 : decode b_Mod_worth 0 = .ok (.aload_n 0, 1) := by decide +kernel
theorem d_Mod_worth_1 : decode b_Mod_worth 1 = .ok (.iconst 0, 1) := by decide +kernel
theorem d_Mod_worth_2 : decode b_Mod_worth 2 = .ok (.putfield 1, 3) := by decide +kernel
theorem d_Mod_worth_5 : decode b_Mod_worth 5 = .ok (.aload_n 0, 1) := by decide +kernel
theorem d_Mod_worth_6 : decode b_Mod_worth 6 = .ok (.invokevirtual 306, 3) := by decide +kernel
theorem d_Mod_worth_9 : decode b_Mod_worth 9 = .ok (.ireturn, 1) := by decide +kernel
noncomputable def f_Mod_worth (z : Nat → Nat) (σ : Mm) (o : Nat) : Option (Int32 × Mm) :=
  mm_lt (kI σ o 0 (0 : Int32)) fun m2 =>
  (f_Mod_worthOf z m2 o).bind fun q6 =>
  some (q6, m2)
set_option maxHeartbeats 4000000 in
set_option maxRecDepth 100000 in
theorem c_Mod_worth (l : Launch) {L : Ly} (hg : gd_ok L) {σ : Mm} {o : Nat} (k_o_0 : ly_k L o = 11) {res : Int32 × Mm} (hf0 : f_Mod_worth (ly_z L) σ o = some res) : CtI l y_Mod_worth b_Mod_worth 1 (some .int) rm_Mod_worth L [.ref (ly_a L o)] σ res.1 res.2 := by
  refine ct_i hg (by decide) (Nat.le_of_ble_eq_true rfl) ?_
  intro E A Q hE C hN
  subst hE
  unfold f_Mod_worth at hf0
  show GW E L A 1 0 0 Q σ 0 [(0, .ref (ly_a L o))] []
  refine gw_aload_n C 0 d_Mod_worth_0 rfl rfl ?_
  refine gw_iconst C (0 : Int32) d_Mod_worth_1 (by decide) ?_
  obtain ⟨m2, em2, hf0⟩ := mx_lt hf0
  refine gw_putI t_Mod C 0 d_Mod_worth_2 k_o_0 (by decide) i_Mod rfl rfl (by decide) qw_1165 rfl rfl t_Mod_ok n_Mod rfl (t_Mod_ok 0 (by decide)) rfl rfl em2 ?_
  refine gw_aload_n C 0 d_Mod_worth_5 rfl rfl ?_
  obtain ⟨q6, hq6, hf0⟩ := mx_bd hf0
  refine gw_callI C (c_Mod_worthOf _ hg k_o_0 hq6) d_Mod_worth_6 0 qw_1510 qw_1512 qs_71 qw_12 qw_1513 k_o_0 (by decide) rfl hd_Mod_worthOf rfl rfl (Nat.le_of_ble_eq_true rfl) ⟨rfl, rfl, Nat.le_of_ble_eq_true rfl, Nat.le_of_ble_eq_true rfl⟩ ⟨Nat.zero_le _, Nat.zero_le _⟩ ?_
  exact en_i hN hf0 d_Mod_worth_9

/-! NameHatModel.envy(I)I -/
abbrev b_Mod_envy : ByteArray := prog_14_method_63_code
def y_Mod_envy : MethodName := ⟨"NameHatModel", "envy", "(I)I"⟩
abbrev rm_Mod_envy : Room := { frames := 2, cells := 0, slots := 0, locals := 43 }
theorem hd_Mod_envy : y_Mod_envy.cls ≠ "java/lang/invoke/MethodHandle" ∧ y_Mod_envy.cls ≠ "java/lang/invoke/VarHandle" ∧ (parseMethodDescriptor y_Mod_envy.desc).map (fun d => d.parameters.length) = some 1 := by decide +kernel
theorem d_Mod_envy_0 : decode b_Mod_envy 0 = .ok (.aload_n 0, 1) := by decide +kernel
theorem d_Mod_envy_1 : decode b_Mod_envy 1 = .ok (.iconst 0, 1) := by decide +kernel
theorem d_Mod_envy_2 : decode b_Mod_envy 2 = .ok (.putfield 1, 3) := by decide +kernel
theorem d_Mod_envy_5 : decode b_Mod_envy 5 = .ok (.aload_n 0, 1) := by decide +kernel
theorem d_Mod_envy_6 : decode b_Mod_envy 6 = .ok (.iload_n 1, 1) := by decide +kernel
theorem d_Mod_envy_7 : decode b_Mod_envy 7 = .ok (.invokevirtual 252, 3) := by decide +kernel
theorem d_Mod_envy_10 : decode b_Mod_envy 10 = .ok (.ifCond .eq 15, 3) := by decide +kernel
theorem d_Mod_envy_13 : decode b_Mod_envy 13 = .ok (.aload_n 0, 1) := by decide +kernel
theorem d_Mod_envy_14 : decode b_Mod_envy 14 = .ok (.getfield 33, 3) := by decide +kernel
theorem d_Mod_envy_17 : decode b_Mod_envy 17 = .ok (.bipush 123, 2) := by decide +kernel
theorem d_Mod_envy_19 : decode b_Mod_envy 19 = .ok (.iload_n 1, 1) := by decide +kernel
theorem d_Mod_envy_20 : decode b_Mod_envy 20 = .ok (.iadd, 1) := by decide +kernel
theorem d_Mod_envy_21 : decode b_Mod_envy 21 = .ok (.iaload, 1) := by decide +kernel
theorem d_Mod_envy_22 : decode b_Mod_envy 22 = .ok (.ifCond .ge 5, 3) := by decide +kernel
theorem d_Mod_envy_25 : decode b_Mod_envy 25 = .ok (.iconst (-1), 1) := by decide +kernel
theorem d_Mod_envy_26 : decode b_Mod_envy 26 = .ok (.ireturn, 1) := by decide +kernel
theorem d_Mod_envy_27 : decode b_Mod_envy 27 = .ok (.iconst 0, 1) := by decide +kernel
theorem d_Mod_envy_28 : decode b_Mod_envy 28 = .ok (.istore_n 2, 1) := by decide +kernel
theorem d_Mod_envy_29 : decode b_Mod_envy 29 = .ok (.iconst 0, 1) := by decide +kernel
theorem d_Mod_envy_30 : decode b_Mod_envy 30 = .ok (.istore_n 3, 1) := by decide +kernel
theorem d_Mod_envy_31 : decode b_Mod_envy 31 = .ok (.iload_n 3, 1) := by decide +kernel
theorem d_Mod_envy_32 : decode b_Mod_envy 32 = .ok (.aload_n 0, 1) := by decide +kernel
theorem d_Mod_envy_33 : decode b_Mod_envy 33 = .ok (.getfield 33, 3) := by decide +kernel
theorem d_Mod_envy_36 : decode b_Mod_envy 36 = .ok (.iconst 1, 1) := by decide +kernel
theorem d_Mod_envy_37 : decode b_Mod_envy 37 = .ok (.iaload, 1) := by decide +kernel
theorem d_Mod_envy_38 : decode b_Mod_envy 38 = .ok (.if_icmp .ge 53, 3) := by decide +kernel
theorem d_Mod_envy_41 : decode b_Mod_envy 41 = .ok (.iload_n 2, 1) := by decide +kernel
theorem d_Mod_envy_42 : decode b_Mod_envy 42 = .ok (.iload_n 3, 1) := by decide +kernel
theorem d_Mod_envy_43 : decode b_Mod_envy 43 = .ok (.iload_n 1, 1) := by decide +kernel
theorem d_Mod_envy_44 : decode b_Mod_envy 44 = .ok (.if_icmp .eq 38, 3) := by decide +kernel
theorem d_Mod_envy_47 : decode b_Mod_envy 47 = .ok (.aload_n 0, 1) := by decide +kernel
theorem d_Mod_envy_48 : decode b_Mod_envy 48 = .ok (.iload_n 3, 1) := by decide +kernel
theorem d_Mod_envy_49 : decode b_Mod_envy 49 = .ok (.aload_n 0, 1) := by decide +kernel
theorem d_Mod_envy_50 : decode b_Mod_envy 50 = .ok (.getfield 33, 3) := by decide +kernel
theorem d_Mod_envy_53 : decode b_Mod_envy 53 = .ok (.bipush 123, 2) := by decide +kernel
theorem d_Mod_envy_55 : decode b_Mod_envy 55 = .ok (.iload_n 1, 1) := by decide +kernel
theorem d_Mod_envy_56 : decode b_Mod_envy 56 = .ok (.iadd, 1) := by decide +kernel
theorem d_Mod_envy_57 : decode b_Mod_envy 57 = .ok (.iaload, 1) := by decide +kernel
theorem d_Mod_envy_58 : decode b_Mod_envy 58 = .ok (.invokevirtual 255, 3) := by decide +kernel
theorem d_Mod_envy_61 : decode b_Mod_envy 61 = .ok (.aload_n 0, 1) := by decide +kernel
theorem d_Mod_envy_62 : decode b_Mod_envy 62 = .ok (.iload_n 3, 1) := by decide +kernel
theorem d_Mod_envy_63 : decode b_Mod_envy 63 = .ok (.aload_n 0, 1) := by decide +kernel
theorem d_Mod_envy_64 : decode b_Mod_envy 64 = .ok (.getfield 33, 3) := by decide +kernel
theorem d_Mod_envy_67 : decode b_Mod_envy 67 = .ok (.bipush 123, 2) := by decide +kernel
theorem d_Mod_envy_69 : decode b_Mod_envy 69 = .ok (.iload_n 3, 1) := by decide +kernel
theorem d_Mod_envy_70 : decode b_Mod_envy 70 = .ok (.iadd, 1) := by decide +kernel
theorem d_Mod_envy_71 : decode b_Mod_envy 71 = .ok (.iaload, 1) := by decide +kernel
theorem d_Mod_envy_72 : decode b_Mod_envy 72 = .ok (.invokevirtual 255, 3) := by decide +kernel
theorem d_Mod_envy_75 : decode b_Mod_envy 75 = .ok (.if_icmp .le 7, 3) := by decide +kernel
theorem d_Mod_envy_78 : decode b_Mod_envy 78 = .ok (.iconst 1, 1) := by decide +kernel
theorem d_Mod_envy_79 : decode b_Mod_envy 79 = .ok (.goto 4, 3) := by decide +kernel
theorem d_Mod_envy_82 : decode b_Mod_envy 82 = .ok (.iconst 0, 1) := by decide +kernel
theorem d_Mod_envy_83 : decode b_Mod_envy 83 = .ok (.iadd, 1) := by decide +kernel
theorem d_Mod_envy_84 : decode b_Mod_envy 84 = .ok (.istore_n 2, 1) := by decide +kernel
theorem d_Mod_envy_85 : decode b_Mod_envy 85 = .ok (.iinc 3 1, 3) := by decide +kernel
theorem d_Mod_envy_88 : decode b_Mod_envy 88 = .ok (.goto (-57), 3) := by decide +kernel
theorem d_Mod_envy_91 : decode b_Mod_envy 91 = .ok (.iload_n 2, 1) := by decide +kernel
theorem d_Mod_envy_92 : decode b_Mod_envy 92 = .ok (.ireturn, 1) := by decide +kernel
noncomputable def f_Mod_envy_L31 (z : Nat → Nat) (σ : Mm) (o : Nat) (v1 : Int32) (s31 : Int32 × Int32) : Option ((Int32 × Int32) ⊕ (Int32)) :=
  (mm_ldI (σ.1 (o + 2)) (z (o + 2)) (1 : Int32)).bind fun x37 =>
  if x37 ≤ s31.2 then (
    some (.inr s31.1)
  ) else (
    if s31.2 = v1 then (
      mm_lt ((s31.1 + (0 : Int32))) fun x84 =>
      mm_lt (s31.2 + (1 : Int32)) fun x85 =>
      some (.inl (x84, x85))
    ) else (
      (mm_ldI (σ.1 (o + 2)) (z (o + 2)) ((123 : Int32) + v1)).bind fun x57 =>
      (f_Mod_valueOf z σ o s31.2 x57).bind fun q58 =>
      (mm_ldI (σ.1 (o + 2)) (z (o + 2)) ((123 : Int32) + s31.2)).bind fun x71 =>
      (f_Mod_valueOf z σ o s31.2 x71).bind fun q72 =>
      if q58 ≤ q72 then (
        mm_lt ((s31.1 + (0 : Int32))) fun x84 =>
        mm_lt (s31.2 + (1 : Int32)) fun x85 =>
        some (.inl (x84, x85))
      ) else (
        mm_lt ((s31.1 + (1 : Int32))) fun x84 =>
        mm_lt (s31.2 + (1 : Int32)) fun x85 =>
        some (.inl (x84, x85))
      )
    )
  )
noncomputable def f_Mod_envy (z : Nat → Nat) (σ : Mm) (o : Nat) (p1 : Int32) : Option (Int32 × Mm) :=
  mm_lt (kI σ o 0 (0 : Int32)) fun m2 =>
  (f_Mod_isHouse z m2 o p1).bind fun q7 =>
  if q7 = 0 then (
    some (((-1) : Int32), m2)
  ) else (
    (mm_ldI (m2.1 (o + 2)) (z (o + 2)) ((123 : Int32) + p1)).bind fun x21 =>
    if 0 ≤ x21 then (
      (mm_lp (f_Mod_envy_L31 z m2 o p1) ((0 : Int32), (0 : Int32))).bind (fun q31 =>
        some (q31, m2))
    ) else (
      some (((-1) : Int32), m2)
    )
  )
set_option maxHeartbeats 4000000 in
set_option maxRecDepth 100000 in
theorem c_Mod_envy (l : Launch) {L : Ly} (hg : gd_ok L) {σ : Mm} {o : Nat} {p1 : Int32} (k_o_0 : ly_k L o = 11) {res : Int32 × Mm} (hf0 : f_Mod_envy (ly_z L) σ o p1 = some res) : CtI l y_Mod_envy b_Mod_envy 4 (some .int) rm_Mod_envy L [.ref (ly_a L o), .int p1] σ res.1 res.2 := by
  refine ct_i hg (by decide) (Nat.le_of_ble_eq_true rfl) ?_
  intro E A Q hE C hN
  subst hE
  have k_o_2 : ly_k L (o + 2) = 20 := gd_Mod_s hg k_o_0
  unfold f_Mod_envy at hf0
  show GW E L A 4 0 0 Q σ 0 [(0, .ref (ly_a L o)), (1, .int p1)] []
  refine gw_aload_n C 0 d_Mod_envy_0 rfl rfl ?_
  refine gw_iconst C (0 : Int32) d_Mod_envy_1 (by decide) ?_
  obtain ⟨m2, em2, hf0⟩ := mx_lt hf0
  refine gw_putI t_Mod C 0 d_Mod_envy_2 k_o_0 (by decide) i_Mod rfl rfl (by decide) qw_1165 rfl rfl t_Mod_ok n_Mod rfl (t_Mod_ok 0 (by decide)) rfl rfl em2 ?_
  refine gw_aload_n C 0 d_Mod_envy_5 rfl rfl ?_
  refine gw_iload_n C 1 d_Mod_envy_6 rfl rfl ?_
  obtain ⟨q7, hq7, hf0⟩ := mx_bd hf0
  refine gw_callI C (c_Mod_isHouse _ hg k_o_0 hq7) d_Mod_envy_7 1 qw_1410 qw_1412 qs_57 qw_12 qw_1413 k_o_0 (by decide) rfl hd_Mod_isHouse rfl rfl (Nat.le_of_ble_eq_true rfl) ⟨rfl, rfl, Nat.le_of_ble_eq_true rfl, Nat.le_of_ble_eq_true rfl⟩ ⟨Nat.zero_le _, Nat.zero_le _⟩ ?_
  refine gw_if_eq C 25 d_Mod_envy_10 (by decide) (fun hc => ?_) (fun hc => ?_)
  · replace hf0 := mx_t hc hf0
    refine gw_iconst C ((-1) : Int32) d_Mod_envy_25 (by decide) ?_
    exact en_i hN hf0 d_Mod_envy_26
  · replace hf0 := mx_f hc hf0
    refine gw_aload_n C 0 d_Mod_envy_13 rfl rfl ?_
    refine gw_getA C 6 d_Mod_envy_14 k_o_0 (by decide) i_Mod rfl rfl (by decide) qw_1171 rfl rfl (o + 2) rfl ?_
    refine gw_bipush C (123 : Int32) d_Mod_envy_17 (by decide) ?_
    refine gw_iload_n C 1 d_Mod_envy_19 rfl rfl ?_
    refine gw_iadd C d_Mod_envy_20 ?_
    obtain ⟨x21, hx21, hf0⟩ := mx_bd hf0
    obtain ⟨gx21, ex21⟩ := mx_ldI hx21
    refine gw_iald C d_Mod_envy_21 k_o_2 gx21 ex21 ?_
    refine gw_if_ge C 27 d_Mod_envy_22 (by decide) (fun hc => ?_) (fun hc => ?_)
    · replace hf0 := mx_t hc hf0
      refine gw_iconst C (0 : Int32) d_Mod_envy_27 (by decide) ?_
      refine gw_istore_n C [(2, .int (0 : Int32)), (0, .ref (ly_a L o)), (1, .int p1)] d_Mod_envy_28 rfl (by decide) rfl ?_
      refine gw_iconst C (0 : Int32) d_Mod_envy_29 (by decide) ?_
      refine gw_istore_n C [(3, .int (0 : Int32)), (2, .int (0 : Int32)), (0, .ref (ly_a L o)), (1, .int p1)] d_Mod_envy_30 rfl (by decide) rfl ?_
      obtain ⟨q31, hq31, hf0⟩ := mx_bd hf0
      have hk31 : ∀ x9, q31 = x9 → GW E L A 4 0 0 Q m2 91 [(2, .int x9)] [] := by
        intro x9 hx9
        subst hx9
        refine gw_iload_n C 0 d_Mod_envy_91 rfl rfl ?_
        exact en_i hN hf0 d_Mod_envy_92
      refine gw_sub [2, 3, 1, 0] (lv' := [(0, .ref (ly_a L o)), (1, .int p1), (2, .int (0 : Int32)), (3, .int (0 : Int32))]) rfl ?_
      refine mm_rule hq31 (P := fun (s31 : Int32 × Int32) => GW E L A 4 0 0 Q m2 31 [(0, .ref (ly_a L o)), (1, .int p1), (2, .int s31.1), (3, .int s31.2)] []) ?_
      intro s31 ih31 hx31 ⟨w31, hb31⟩
      have hf1 := hb31
      unfold f_Mod_envy_L31 at hf1
      refine gw_iload_n C 3 d_Mod_envy_31 rfl rfl ?_
      refine gw_aload_n C 0 d_Mod_envy_32 rfl rfl ?_
      refine gw_getA C 6 d_Mod_envy_33 k_o_0 (by decide) i_Mod rfl rfl (by decide) qw_1171 rfl rfl (o + 2) rfl ?_
      refine gw_iconst C (1 : Int32) d_Mod_envy_36 (by decide) ?_
      obtain ⟨x37, hx37, hf1⟩ := mx_bd hf1
      obtain ⟨gx37, ex37⟩ := mx_ldI hx37
      refine gw_iald C d_Mod_envy_37 k_o_2 gx37 ex37 ?_
      refine gw_icmp_ge C 91 d_Mod_envy_38 (by decide) (fun hc => ?_) (fun hc => ?_)
      · replace hf1 := mx_t hc hf1
        exact gw_go [2] (hk31 s31.1 (hx31 _ (hb31.trans hf1.symm)).symm) rfl
      · replace hf1 := mx_f hc hf1
        refine gw_iload_n C 2 d_Mod_envy_41 rfl rfl ?_
        refine gw_iload_n C 3 d_Mod_envy_42 rfl rfl ?_
        refine gw_iload_n C 1 d_Mod_envy_43 rfl rfl ?_
        refine gw_icmp_eq C 82 d_Mod_envy_44 (by decide) (fun hc => ?_) (fun hc => ?_)
        · replace hf1 := mx_t hc hf1
          refine gw_iconst C (0 : Int32) d_Mod_envy_82 (by decide) ?_
          refine gw_iadd C d_Mod_envy_83 ?_
          obtain ⟨x84, ex84, hf1⟩ := mx_lt hf1
          refine gw_topi ex84 ?_
          refine gw_istore_n C [(2, .int x84), (0, .ref (ly_a L o)), (1, .int p1), (3, .int s31.2)] d_Mod_envy_84 rfl (by decide) rfl ?_
          obtain ⟨x85, ex85, hf1⟩ := mx_lt hf1
          refine gw_iinc C 3 [(3, .int x85), (2, .int x84), (0, .ref (ly_a L o)), (1, .int p1)] d_Mod_envy_85 rfl (by rw [ex85]; rfl) (by decide) rfl ?_
          refine gw_goto C 31 d_Mod_envy_88 (by decide) ?_
          exact gw_go [2, 3, 1, 0] (ih31 (x84, x85) (hb31.trans hf1.symm)) rfl
        · replace hf1 := mx_f hc hf1
          refine gw_aload_n C 0 d_Mod_envy_47 rfl rfl ?_
          refine gw_iload_n C 3 d_Mod_envy_48 rfl rfl ?_
          refine gw_aload_n C 0 d_Mod_envy_49 rfl rfl ?_
          refine gw_getA C 6 d_Mod_envy_50 k_o_0 (by decide) i_Mod rfl rfl (by decide) qw_1171 rfl rfl (o + 2) rfl ?_
          refine gw_bipush C (123 : Int32) d_Mod_envy_53 (by decide) ?_
          refine gw_iload_n C 1 d_Mod_envy_55 rfl rfl ?_
          refine gw_iadd C d_Mod_envy_56 ?_
          obtain ⟨x57, hx57, hf1⟩ := mx_bd hf1
          obtain ⟨gx57, ex57⟩ := mx_ldI hx57
          refine gw_iald C d_Mod_envy_57 k_o_2 gx57 ex57 ?_
          obtain ⟨q58, hq58, hf1⟩ := mx_bd hf1
          refine gw_callI C (c_Mod_valueOf _ hg k_o_0 hq58) d_Mod_envy_58 2 qw_1418 qw_1420 qs_58 qw_12 qw_1421 k_o_0 (by decide) rfl hd_Mod_valueOf rfl rfl (Nat.le_of_ble_eq_true rfl) ⟨rfl, rfl, Nat.le_of_ble_eq_true rfl, Nat.le_of_ble_eq_true rfl⟩ ⟨Nat.zero_le _, Nat.zero_le _⟩ ?_
          refine gw_aload_n C 0 d_Mod_envy_61 rfl rfl ?_
          refine gw_iload_n C 3 d_Mod_envy_62 rfl rfl ?_
          refine gw_aload_n C 0 d_Mod_envy_63 rfl rfl ?_
          refine gw_getA C 6 d_Mod_envy_64 k_o_0 (by decide) i_Mod rfl rfl (by decide) qw_1171 rfl rfl (o + 2) rfl ?_
          refine gw_bipush C (123 : Int32) d_Mod_envy_67 (by decide) ?_
          refine gw_iload_n C 3 d_Mod_envy_69 rfl rfl ?_
          refine gw_iadd C d_Mod_envy_70 ?_
          obtain ⟨x71, hx71, hf1⟩ := mx_bd hf1
          obtain ⟨gx71, ex71⟩ := mx_ldI hx71
          refine gw_iald C d_Mod_envy_71 k_o_2 gx71 ex71 ?_
          obtain ⟨q72, hq72, hf1⟩ := mx_bd hf1
          refine gw_callI C (c_Mod_valueOf _ hg k_o_0 hq72) d_Mod_envy_72 2 qw_1418 qw_1420 qs_58 qw_12 qw_1421 k_o_0 (by decide) rfl hd_Mod_valueOf rfl rfl (Nat.le_of_ble_eq_true rfl) ⟨rfl, rfl, Nat.le_of_ble_eq_true rfl, Nat.le_of_ble_eq_true rfl⟩ ⟨Nat.zero_le _, Nat.zero_le _⟩ ?_
          refine gw_icmp_le C 82 d_Mod_envy_75 (by decide) (fun hc => ?_) (fun hc => ?_)
          · replace hf1 := mx_t hc hf1
            refine gw_iconst C (0 : Int32) d_Mod_envy_82 (by decide) ?_
            refine gw_iadd C d_Mod_envy_83 ?_
            obtain ⟨x84, ex84, hf1⟩ := mx_lt hf1
            refine gw_topi ex84 ?_
            refine gw_istore_n C [(2, .int x84), (0, .ref (ly_a L o)), (1, .int p1), (3, .int s31.2)] d_Mod_envy_84 rfl (by decide) rfl ?_
            obtain ⟨x85, ex85, hf1⟩ := mx_lt hf1
            refine gw_iinc C 3 [(3, .int x85), (2, .int x84), (0, .ref (ly_a L o)), (1, .int p1)] d_Mod_envy_85 rfl (by rw [ex85]; rfl) (by decide) rfl ?_
            refine gw_goto C 31 d_Mod_envy_88 (by decide) ?_
            exact gw_go [2, 3, 1, 0] (ih31 (x84, x85) (hb31.trans hf1.symm)) rfl
          · replace hf1 := mx_f hc hf1
            refine gw_iconst C (1 : Int32) d_Mod_envy_78 (by decide) ?_
            refine gw_goto C 83 d_Mod_envy_79 (by decide) ?_
            refine gw_iadd C d_Mod_envy_83 ?_
            obtain ⟨x84, ex84, hf1⟩ := mx_lt hf1
            refine gw_topi ex84 ?_
            refine gw_istore_n C [(2, .int x84), (0, .ref (ly_a L o)), (1, .int p1), (3, .int s31.2)] d_Mod_envy_84 rfl (by decide) rfl ?_
            obtain ⟨x85, ex85, hf1⟩ := mx_lt hf1
            refine gw_iinc C 3 [(3, .int x85), (2, .int x84), (0, .ref (ly_a L o)), (1, .int p1)] d_Mod_envy_85 rfl (by rw [ex85]; rfl) (by decide) rfl ?_
            refine gw_goto C 31 d_Mod_envy_88 (by decide) ?_
            exact gw_go [2, 3, 1, 0] (ih31 (x84, x85) (hb31.trans hf1.symm)) rfl
    · replace hf0 := mx_f hc hf0
      refine gw_iconst C ((-1) : Int32) d_Mod_envy_25 (by decide) ?_
      exact en_i hN hf0 d_Mod_envy_26

/-! NameHatModel.common(JJ)J -/
abbrev b_Mod_common : ByteArray := prog_14_method_64_code
def y_Mod_common : MethodName := ⟨"NameHatModel", "common", "(JJ)J"⟩
abbrev rm_Mod_common : Room := { frames := 0, cells := 0, slots := 0, locals := 0 }
theorem hd_Mod_common : y_Mod_common.cls ≠ "java/lang/invoke/MethodHandle" ∧ y_Mod_common.cls ≠ "java/lang/invoke/VarHandle" ∧ (parseMethodDescriptor y_Mod_common.desc).map (fun d => d.parameters.length) = some 2 := by decide +kernel
theorem d_Mod_common_0 : decode b_Mod_common 0 = .ok (.lload_n 0, 1) := by decide +kernel
theorem d_Mod_common_1 : decode b_Mod_common 1 = .ok (.lconst 0, 1) := by decide +kernel
theorem d_Mod_common_2 : decode b_Mod_common 2 = .ok (.lcmp, 1) := by decide +kernel
theorem d_Mod_common_3 : decode b_Mod_common 3 = .ok (.ifCond .ge 8, 3) := by decide +kernel
theorem d_Mod_common_6 : decode b_Mod_common 6 = .ok (.lload_n 0, 1) := by decide +kernel
theorem d_Mod_common_7 : decode b_Mod_common 7 = .ok (.lneg, 1) := by decide +kernel
theorem d_Mod_common_8 : decode b_Mod_common 8 = .ok (.goto 4, 3) := by decide +kernel
theorem d_Mod_common_11 : decode b_Mod_common 11 = .ok (.lload_n 0, 1) := by decide +kernel
theorem d_Mod_common_12 : decode b_Mod_common 12 = .ok (.lstore 4, 2) := by decide +kernel
theorem d_Mod_common_14 : decode b_Mod_common 14 = .ok (.lload_n 2, 1) := by decide +kernel
theorem d_Mod_common_15 : decode b_Mod_common 15 = .ok (.lconst 0, 1) := by decide +kernel
theorem d_Mod_common_16 : decode b_Mod_common 16 = .ok (.lcmp, 1) := by decide +kernel
theorem d_Mod_common_17 : decode b_Mod_common 17 = .ok (.ifCond .ge 8, 3) := by decide +kernel
theorem d_Mod_common_20 : decode b_Mod_common 20 = .ok (.lload_n 2, 1) := by decide +kernel
theorem d_Mod_common_21 : decode b_Mod_common 21 = .ok (.lneg, 1) := by decide +kernel
theorem d_Mod_common_22 : decode b_Mod_common 22 = .ok (.goto 4, 3) := by decide +kernel
theorem d_Mod_common_25 : decode b_Mod_common 25 = .ok (.lload_n 2, 1) := by decide +kernel
theorem d_Mod_common_26 : decode b_Mod_common 26 = .ok (.lstore 6, 2) := by decide +kernel
theorem d_Mod_common_28 : decode b_Mod_common 28 = .ok (.lload 6, 2) := by decide +kernel
theorem d_Mod_common_30 : decode b_Mod_common 30 = .ok (.lconst 0, 1) := by decide +kernel
theorem d_Mod_common_31 : decode b_Mod_common 31 = .ok (.lcmp, 1) := by decide +kernel
theorem d_Mod_common_32 : decode b_Mod_common 32 = .ok (.ifCond .eq 21, 3) := by decide +kernel
theorem d_Mod_common_35 : decode b_Mod_common 35 = .ok (.lload 4, 2) := by decide +kernel
theorem d_Mod_common_37 : decode b_Mod_common 37 = .ok (.lload 6, 2) := by decide +kernel
theorem d_Mod_common_39 : decode b_Mod_common 39 = .ok (.lrem, 1) := by decide +kernel
theorem d_Mod_common_40 : decode b_Mod_common 40 = .ok (.lstore 8, 2) := by decide +kernel
theorem d_Mod_common_42 : decode b_Mod_common 42 = .ok (.lload 6, 2) := by decide +kernel
theorem d_Mod_common_44 : decode b_Mod_common 44 = .ok (.lstore 4, 2) := by decide +kernel
theorem d_Mod_common_46 : decode b_Mod_common 46 = .ok (.lload 8, 2) := by decide +kernel
theorem d_Mod_common_48 : decode b_Mod_common 48 = .ok (.lstore 6, 2) := by decide +kernel
theorem d_Mod_common_50 : decode b_Mod_common 50 = .ok (.goto (-22), 3) := by decide +kernel
theorem d_Mod_common_53 : decode b_Mod_common 53 = .ok (.lload 4, 2) := by decide +kernel
theorem d_Mod_common_55 : decode b_Mod_common 55 = .ok (.lreturn, 1) := by decide +kernel
noncomputable def f_Mod_common_L28 (z : Nat → Nat) (σ : Mm) (s28 : Int64 × Int64) : Option ((Int64 × Int64) ⊕ (Int64)) :=
  if (lg_cmp s28.2 (0 : Int64)) = 0 then (
    some (.inr s28.1)
  ) else (
    (mm_lrem s28.1 s28.2).bind fun x39 =>
    some (.inl (s28.2, x39))
  )
noncomputable def f_Mod_common_J26 (z : Nat → Nat) (σ : Mm) (v4 : Int64) (t26_0 : Int64) : Option (Int64) :=
  (mm_lp (f_Mod_common_L28 z σ) (v4, t26_0)).bind (fun q28 =>
    some q28)
noncomputable def f_Mod_common_J12 (z : Nat → Nat) (σ : Mm) (v2 : Int64) (t12_0 : Int64) : Option (Int64) :=
  if 0 ≤ (lg_cmp v2 (0 : Int64)) then (
    f_Mod_common_J26 z σ t12_0 v2
  ) else (
    f_Mod_common_J26 z σ t12_0 (-v2)
  )
noncomputable def f_Mod_common (z : Nat → Nat) (σ : Mm) (p1 : Int64) (p2 : Int64) : Option (Int64) :=
  if 0 ≤ (lg_cmp p1 (0 : Int64)) then (
    f_Mod_common_J12 z σ p2 p1
  ) else (
    f_Mod_common_J12 z σ p2 (-p1)
  )
set_option maxHeartbeats 4000000 in
set_option maxRecDepth 100000 in
theorem c_Mod_common (l : Launch) {L : Ly} (hg : gd_ok L) {σ : Mm} {p1 : Int64} {p2 : Int64} {res : Int64} (hf0 : f_Mod_common (ly_z L) σ p1 p2 = some res) : CtL l y_Mod_common b_Mod_common 10 (some .long) rm_Mod_common L [.long p1, .long p2] σ res σ := by
  refine ct_l hg (by decide) (Nat.le_of_ble_eq_true rfl) ?_
  intro E A Q hE C hN
  subst hE
  unfold f_Mod_common at hf0
  show GW E L A 10 0 0 Q σ 0 [(0, .long p1), (2, .long p2)] []
  have hj26 : ∀ (v4 : Int64) (t26_0 : Int64), f_Mod_common_J26 (ly_z L) σ v4 t26_0 = some res → GW E L A 10 0 0 Q σ 26 [(4, .long v4)] [.long t26_0] := by
    intro v4 t26_0 hf0
    unfold f_Mod_common_J26 at hf0
    refine gw_lstore C [(6, .long t26_0), (4, .long v4)] d_Mod_common_26 (by decide) rfl ?_
    obtain ⟨q28, hq28, hf0⟩ := mx_bd hf0
    have hk28 : ∀ x9, q28 = x9 → GW E L A 10 0 0 Q σ 53 [(4, .long x9)] [] := by
      intro x9 hx9
      subst hx9
      refine gw_lload C 0 d_Mod_common_53 rfl ?_
      exact en_lp hN hf0 d_Mod_common_55
    refine gw_sub [1, 0] (lv' := [(4, .long v4), (6, .long t26_0)]) rfl ?_
    refine mm_rule hq28 (P := fun (s28 : Int64 × Int64) => GW E L A 10 0 0 Q σ 28 [(4, .long s28.1), (6, .long s28.2)] []) ?_
    intro s28 ih28 hx28 ⟨w28, hb28⟩
    have hf1 := hb28
    unfold f_Mod_common_L28 at hf1
    refine gw_lload C 1 d_Mod_common_28 rfl ?_
    refine gw_lconst C (0 : Int64) d_Mod_common_30 (by decide) ?_
    refine gw_lcmp C d_Mod_common_31 ?_
    refine gw_if_eq C 53 d_Mod_common_32 (by decide) (fun hc => ?_) (fun hc => ?_)
    · replace hf1 := mx_t hc hf1
      exact gw_go [0] (hk28 s28.1 (hx28 _ (hb28.trans hf1.symm)).symm) rfl
    · replace hf1 := mx_f hc hf1
      refine gw_lload C 0 d_Mod_common_35 rfl ?_
      refine gw_lload C 1 d_Mod_common_37 rfl ?_
      obtain ⟨x39, hx39, hf1⟩ := mx_bd hf1
      obtain ⟨nx39, ex39⟩ := mx_lrem hx39
      refine gw_lrem C d_Mod_common_39 nx39 ?_
      refine gw_topl ex39 ?_
      refine gw_lstore C [(8, .long x39), (4, .long s28.1), (6, .long s28.2)] d_Mod_common_40 (by decide) rfl ?_
      refine gw_lload C 2 d_Mod_common_42 rfl ?_
      refine gw_lstore C [(4, .long s28.2), (8, .long x39), (6, .long s28.2)] d_Mod_common_44 (by decide) rfl ?_
      refine gw_lload C 1 d_Mod_common_46 rfl ?_
      refine gw_lstore C [(6, .long x39), (4, .long s28.2), (8, .long x39)] d_Mod_common_48 (by decide) rfl ?_
      refine gw_goto C 28 d_Mod_common_50 (by decide) ?_
      exact gw_go [1, 0] (ih28 (s28.2, x39) (hb28.trans hf1.symm)) rfl
  have hj12 : ∀ (v2 : Int64) (t12_0 : Int64), f_Mod_common_J12 (ly_z L) σ v2 t12_0 = some res → GW E L A 10 0 0 Q σ 12 [(2, .long v2)] [.long t12_0] := by
    intro v2 t12_0 hf0
    unfold f_Mod_common_J12 at hf0
    refine gw_lstore C [(4, .long t12_0), (2, .long v2)] d_Mod_common_12 (by decide) rfl ?_
    refine gw_lload_n C 1 d_Mod_common_14 rfl rfl ?_
    refine gw_lconst C (0 : Int64) d_Mod_common_15 (by decide) ?_
    refine gw_lcmp C d_Mod_common_16 ?_
    refine gw_if_ge C 25 d_Mod_common_17 (by decide) (fun hc => ?_) (fun hc => ?_)
    · replace hf0 := mx_t hc hf0
      refine gw_lload_n C 1 d_Mod_common_25 rfl rfl ?_
      exact gw_go [0] (hj26 _ _ hf0) rfl
    · replace hf0 := mx_f hc hf0
      refine gw_lload_n C 1 d_Mod_common_20 rfl rfl ?_
      refine gw_lneg C d_Mod_common_21 ?_
      refine gw_goto C 26 d_Mod_common_22 (by decide) ?_
      exact gw_go [0] (hj26 _ _ hf0) rfl
  refine gw_lload_n C 0 d_Mod_common_0 rfl rfl ?_
  refine gw_lconst C (0 : Int64) d_Mod_common_1 (by decide) ?_
  refine gw_lcmp C d_Mod_common_2 ?_
  refine gw_if_ge C 11 d_Mod_common_3 (by decide) (fun hc => ?_) (fun hc => ?_)
  · replace hf0 := mx_t hc hf0
    refine gw_lload_n C 0 d_Mod_common_11 rfl rfl ?_
    exact gw_go [1] (hj12 _ _ hf0) rfl
  · replace hf0 := mx_f hc hf0
    refine gw_lload_n C 0 d_Mod_common_6 rfl rfl ?_
    refine gw_lneg C d_Mod_common_7 ?_
    refine gw_goto C 12 d_Mod_common_8 (by decide) ?_
    exact gw_go [1] (hj12 _ _ hf0) rfl

/-! NameHatModel.part(JJI)J -/
abbrev b_Mod_part : ByteArray := prog_14_method_65_code
def y_Mod_part : MethodName := ⟨"NameHatModel", "part", "(JJI)J"⟩
abbrev rm_Mod_part : Room := { frames := 1, cells := 0, slots := 0, locals := 29 }
theorem hd_Mod_part : y_Mod_part.cls ≠ "java/lang/invoke/MethodHandle" ∧ y_Mod_part.cls ≠ "java/lang/invoke/VarHandle" ∧ (parseMethodDescriptor y_Mod_part.desc).map (fun d => d.parameters.length) = some 3 := by decide +kernel
theorem d_Mod_part_0 : decode b_Mod_part 0 = .ok (.iload 4, 2) := by decide +kernel
theorem d_Mod_part_2 : decode b_Mod_part 2 = .ok (.ifCond .ne 7, 3) := by decide +kernel
theorem d_Mod_part_5 : decode b_Mod_part 5 = .ok (.lload_n 0, 1) := by decide +kernel
theorem d_Mod_part_6 : decode b_Mod_part 6 = .ok (.goto 4, 3) := by decide +kernel
theorem d_Mod_part_9 : decode b_Mod_part 9 = .ok (.lload_n 2, 1) := by decide +kernel
theorem d_Mod_part_10 : decode b_Mod_part 10 = .ok (.lload_n 0, 1) := by decide +kernel
theorem d_Mod_part_11 : decode b_Mod_part 11 = .ok (.lload_n 2, 1) := by decide +kernel
theorem d_Mod_part_12 : decode b_Mod_part 12 = .ok (.invokestatic 312, 3) := by decide +kernel
theorem d_Mod_part_15 : decode b_Mod_part 15 = .ok (.ldiv, 1) := by decide +kernel
theorem d_Mod_part_16 : decode b_Mod_part 16 = .ok (.lreturn, 1) := by decide +kernel
noncomputable def f_Mod_part_J10 (z : Nat → Nat) (σ : Mm) (v0 : Int64) (v2 : Int64) (t10_0 : Int64) : Option (Int64) :=
  (f_Mod_common z σ v0 v2).bind fun q12 =>
  (mm_ldiv t10_0 q12).bind fun x15 =>
  some x15
noncomputable def f_Mod_part (z : Nat → Nat) (σ : Mm) (p1 : Int64) (p2 : Int64) (p3 : Int32) : Option (Int64) :=
  if p3 = 0 then (
    f_Mod_part_J10 z σ p1 p2 p1
  ) else (
    f_Mod_part_J10 z σ p1 p2 p2
  )
set_option maxHeartbeats 4000000 in
set_option maxRecDepth 100000 in
theorem c_Mod_part (l : Launch) {L : Ly} (hg : gd_ok L) {σ : Mm} {p1 : Int64} {p2 : Int64} {p3 : Int32} {res : Int64} (hf0 : f_Mod_part (ly_z L) σ p1 p2 p3 = some res) : CtL l y_Mod_part b_Mod_part 5 (some .long) rm_Mod_part L [.long p1, .long p2, .int p3] σ res σ := by
  refine ct_l hg (by decide) (Nat.le_of_ble_eq_true rfl) ?_
  intro E A Q hE C hN
  subst hE
  unfold f_Mod_part at hf0
  show GW E L A 5 0 0 Q σ 0 [(0, .long p1), (2, .long p2), (4, .int p3)] []
  have hj10 : ∀ (v0 : Int64) (v2 : Int64) (t10_0 : Int64), f_Mod_part_J10 (ly_z L) σ v0 v2 t10_0 = some res → GW E L A 5 0 0 Q σ 10 [(0, .long v0), (2, .long v2)] [.long t10_0] := by
    intro v0 v2 t10_0 hf0
    unfold f_Mod_part_J10 at hf0
    refine gw_lload_n C 0 d_Mod_part_10 rfl rfl ?_
    refine gw_lload_n C 1 d_Mod_part_11 rfl rfl ?_
    obtain ⟨q12, hq12, hf0⟩ := mx_bd hf0
    refine gw_callLS C (c_Mod_common _ hg hq12) d_Mod_part_12 2 qw_1533 qw_1534 qw_12 qw_1535 hd_Mod_common rfl rfl (Nat.le_of_ble_eq_true rfl) ⟨rfl, rfl, Nat.le_of_ble_eq_true rfl, Nat.le_of_ble_eq_true rfl⟩ ⟨Nat.zero_le _, Nat.zero_le _⟩ ?_
    obtain ⟨x15, hx15, hf0⟩ := mx_bd hf0
    obtain ⟨nx15, ex15⟩ := mx_ldiv hx15
    refine gw_ldiv C d_Mod_part_15 nx15 ?_
    refine gw_topl ex15 ?_
    exact en_lp hN hf0 d_Mod_part_16
  refine gw_iload C 2 d_Mod_part_0 rfl ?_
  refine gw_if_ne C 9 d_Mod_part_2 (by decide) (fun hc => ?_) (fun hc => ?_)
  · replace hf0 := mx_f hc hf0
    refine gw_lload_n C 1 d_Mod_part_9 rfl rfl ?_
    exact gw_go [0, 1] (hj10 _ _ _ hf0) rfl
  · replace hf0 := mx_t hc hf0
    refine gw_lload_n C 0 d_Mod_part_5 rfl rfl ?_
    refine gw_goto C 10 d_Mod_part_6 (by decide) ?_
    exact gw_go [0, 1] (hj10 _ _ _ hf0) rfl

/-! NameHatModel.waiting(II)I -/
abbrev b_Mod_waiting : ByteArray := prog_14_method_66_code
def y_Mod_waiting : MethodName := ⟨"NameHatModel", "waiting", "(II)I"⟩
abbrev rm_Mod_waiting : Room := { frames := 2, cells := 0, slots := 0, locals := 53 }
theorem hd_Mod_waiting : y_Mod_waiting.cls ≠ "java/lang/invoke/MethodHandle" ∧ y_Mod_waiting.cls ≠ "java/lang/invoke/VarHandle" ∧ (parseMethodDescriptor y_Mod_waiting.desc).map (fun d => d.parameters.length) = some 2 := by decide +kernel
theorem d_Mod_waiting_0 : decode b_Mod_waiting 0 = .ok (.aload_n 0, 1) := by decide +kernel
theorem d_Mod_waiting_1 : decode b_Mod_waiting 1 = .ok (.aload_n 0, 1) := by decide +kernel
theorem d_Mod_waiting_2 : decode b_Mod_waiting 2 = .ok (.iload_n 1, 1) := by decide +kernel
theorem d_Mod_waiting_3 : decode b_Mod_waiting 3 = .ok (.invokevirtual 252, 3) := by decide +kernel
theorem d_Mod_waiting_6 : decode b_Mod_waiting 6 = .ok (.ifCond .eq 21, 3) := by decide +kernel
theorem d_Mod_waiting_9 : decode b_Mod_waiting 9 = .ok (.iload_n 2, 1) := by decide +kernel
theorem d_Mod_waiting_10 : decode b_Mod_waiting 10 = .ok (.iconst 0, 1) := by decide +kernel
theorem d_Mod_waiting_11 : decode b_Mod_waiting 11 = .ok (.iconst 1, 1) := by decide +kernel
theorem d_Mod_waiting_12 : decode b_Mod_waiting 12 = .ok (.invokestatic 175, 3) := by decide +kernel
theorem d_Mod_waiting_15 : decode b_Mod_waiting 15 = .ok (.ifCond .eq 12, 3) := by decide +kernel
theorem d_Mod_waiting_18 : decode b_Mod_waiting 18 = .ok (.aload_n 0, 1) := by decide +kernel
theorem d_Mod_waiting_19 : decode b_Mod_waiting 19 = .ok (.getfield 33, 3) := by decide +kernel
theorem d_Mod_waiting_22 : decode b_Mod_waiting 22 = .ok (.iconst 0, 1) := by decide +kernel
theorem d_Mod_waiting_23 : decode b_Mod_waiting 23 = .ok (.iaload, 1) := by decide +kernel
theorem d_Mod_waiting_24 : decode b_Mod_waiting 24 = .ok (.ifCond .ne 7, 3) := by decide +kernel
theorem d_Mod_waiting_27 : decode b_Mod_waiting 27 = .ok (.iconst 1, 1) := by decide +kernel
theorem d_Mod_waiting_28 : decode b_Mod_waiting 28 = .ok (.goto 4, 3) := by decide +kernel
theorem d_Mod_waiting_31 : decode b_Mod_waiting 31 = .ok (.iconst 0, 1) := by decide +kernel
theorem d_Mod_waiting_32 : decode b_Mod_waiting 32 = .ok (.invokevirtual 244, 3) := by decide +kernel
theorem d_Mod_waiting_35 : decode b_Mod_waiting 35 = .ok (.ifCond .eq 5, 3) := by decide +kernel
theorem d_Mod_waiting_38 : decode b_Mod_waiting 38 = .ok (.iconst 0, 1) := by decide +kernel
theorem d_Mod_waiting_39 : decode b_Mod_waiting 39 = .ok (.ireturn, 1) := by decide +kernel
theorem d_Mod_waiting_40 : decode b_Mod_waiting 40 = .ok (.iconst 0, 1) := by decide +kernel
theorem d_Mod_waiting_41 : decode b_Mod_waiting 41 = .ok (.istore_n 3, 1) := by decide +kernel
theorem d_Mod_waiting_42 : decode b_Mod_waiting 42 = .ok (.iconst 0, 1) := by decide +kernel
theorem d_Mod_waiting_43 : decode b_Mod_waiting 43 = .ok (.istore 4, 2) := by decide +kernel
theorem d_Mod_waiting_45 : decode b_Mod_waiting 45 = .ok (.iload 4, 2) := by decide +kernel
theorem d_Mod_waiting_47 : decode b_Mod_waiting 47 = .ok (.aload_n 0, 1) := by decide +kernel
theorem d_Mod_waiting_48 : decode b_Mod_waiting 48 = .ok (.getfield 33, 3) := by decide +kernel
theorem d_Mod_waiting_51 : decode b_Mod_waiting 51 = .ok (.iconst 0, 1) := by decide +kernel
theorem d_Mod_waiting_52 : decode b_Mod_waiting 52 = .ok (.iaload, 1) := by decide +kernel
theorem d_Mod_waiting_53 : decode b_Mod_waiting 53 = .ok (.if_icmp .ge 19, 3) := by decide +kernel
theorem d_Mod_waiting_56 : decode b_Mod_waiting 56 = .ok (.iload_n 3, 1) := by decide +kernel
theorem d_Mod_waiting_57 : decode b_Mod_waiting 57 = .ok (.aload_n 0, 1) := by decide +kernel
theorem d_Mod_waiting_58 : decode b_Mod_waiting 58 = .ok (.iload_n 1, 1) := by decide +kernel
theorem d_Mod_waiting_59 : decode b_Mod_waiting 59 = .ok (.iload 4, 2) := by decide +kernel
theorem d_Mod_waiting_61 : decode b_Mod_waiting 61 = .ok (.invokevirtual 255, 3) := by decide +kernel
theorem d_Mod_waiting_64 : decode b_Mod_waiting 64 = .ok (.iadd, 1) := by decide +kernel
theorem d_Mod_waiting_65 : decode b_Mod_waiting 65 = .ok (.istore_n 3, 1) := by decide +kernel
theorem d_Mod_waiting_66 : decode b_Mod_waiting 66 = .ok (.iinc 4 1, 3) := by decide +kernel
theorem d_Mod_waiting_69 : decode b_Mod_waiting 69 = .ok (.goto (-24), 3) := by decide +kernel
theorem d_Mod_waiting_72 : decode b_Mod_waiting 72 = .ok (.iload_n 3, 1) := by decide +kernel
theorem d_Mod_waiting_73 : decode b_Mod_waiting 73 = .ok (.i2l, 1) := by decide +kernel
theorem d_Mod_waiting_74 : decode b_Mod_waiting 74 = .ok (.aload_n 0, 1) := by decide +kernel
theorem d_Mod_waiting_75 : decode b_Mod_waiting 75 = .ok (.getfield 33, 3) := by decide +kernel
theorem d_Mod_waiting_78 : decode b_Mod_waiting 78 = .ok (.iconst 0, 1) := by decide +kernel
theorem d_Mod_waiting_79 : decode b_Mod_waiting 79 = .ok (.iaload, 1) := by decide +kernel
theorem d_Mod_waiting_80 : decode b_Mod_waiting 80 = .ok (.i2l, 1) := by decide +kernel
theorem d_Mod_waiting_81 : decode b_Mod_waiting 81 = .ok (.iload_n 2, 1) := by decide +kernel
theorem d_Mod_waiting_82 : decode b_Mod_waiting 82 = .ok (.invokestatic 316, 3) := by decide +kernel
theorem d_Mod_waiting_85 : decode b_Mod_waiting 85 = .ok (.l2i, 1) := by decide +kernel
theorem d_Mod_waiting_86 : decode b_Mod_waiting 86 = .ok (.ireturn, 1) := by decide +kernel
noncomputable def f_Mod_waiting_L45 (z : Nat → Nat) (σ : Mm) (o : Nat) (v1 : Int32) (v2 : Int32) (s45 : Int32 × Int32) : Option ((Int32 × Int32) ⊕ (Int32)) :=
  (mm_ldI (σ.1 (o + 2)) (z (o + 2)) (0 : Int32)).bind fun x52 =>
  if x52 ≤ s45.2 then (
    some (.inr s45.1)
  ) else (
    (f_Mod_valueOf z σ o v1 s45.2).bind fun q61 =>
    mm_lt ((s45.1 + q61)) fun x65 =>
    mm_lt (s45.2 + (1 : Int32)) fun x66 =>
    some (.inl (x65, x66))
  )
noncomputable def f_Mod_waiting_J32 (z : Nat → Nat) (o : Nat) (v1 : Int32) (v2 : Int32) (t32_1 : Int32) (m32 : Mm) : Option (Int32 × Mm) :=
  (f_Mod_throwsIf z m32 o t32_1).bind fun q32 =>
  if q32.1 = 0 then (
    (mm_lp (f_Mod_waiting_L45 z q32.2 o v1 v2) ((0 : Int32), (0 : Int32))).bind (fun q45 =>
      (mm_ldI (q32.2.1 (o + 2)) (z (o + 2)) (0 : Int32)).bind fun x79 =>
      (f_Mod_part z q32.2 (Int32.toInt64 q45) (Int32.toInt64 x79) v2).bind fun q82 =>
      some ((Int64.toInt32 q82), q32.2))
  ) else (
    some ((0 : Int32), q32.2)
  )
noncomputable def f_Mod_waiting (z : Nat → Nat) (σ : Mm) (o : Nat) (p1 : Int32) (p2 : Int32) : Option (Int32 × Mm) :=
  (f_Mod_isHouse z σ o p1).bind fun q3 =>
  if q3 = 0 then (
    f_Mod_waiting_J32 z o p1 p2 (1 : Int32) σ
  ) else (
    (f_Mod_isIn z σ p2 (0 : Int32) (1 : Int32)).bind fun q12 =>
    if q12 = 0 then (
      f_Mod_waiting_J32 z o p1 p2 (1 : Int32) σ
    ) else (
      (mm_ldI (σ.1 (o + 2)) (z (o + 2)) (0 : Int32)).bind fun x23 =>
      if x23 = 0 then (
        f_Mod_waiting_J32 z o p1 p2 (1 : Int32) σ
      ) else (
        f_Mod_waiting_J32 z o p1 p2 (0 : Int32) σ
      )
    )
  )
set_option maxHeartbeats 4000000 in
set_option maxRecDepth 100000 in
theorem c_Mod_waiting (l : Launch) {L : Ly} (hg : gd_ok L) {σ : Mm} {o : Nat} {p1 : Int32} {p2 : Int32} (k_o_0 : ly_k L o = 11) {res : Int32 × Mm} (hf0 : f_Mod_waiting (ly_z L) σ o p1 p2 = some res) : CtI l y_Mod_waiting b_Mod_waiting 5 (some .int) rm_Mod_waiting L [.ref (ly_a L o), .int p1, .int p2] σ res.1 res.2 := by
  refine ct_i hg (by decide) (Nat.le_of_ble_eq_true rfl) ?_
  intro E A Q hE C hN
  subst hE
  have k_o_2 : ly_k L (o + 2) = 20 := gd_Mod_s hg k_o_0
  unfold f_Mod_waiting at hf0
  show GW E L A 5 0 0 Q σ 0 [(0, .ref (ly_a L o)), (1, .int p1), (2, .int p2)] []
  have hj32 : ∀ (v1 : Int32) (v2 : Int32) (t32_1 : Int32) (m32 : Mm), f_Mod_waiting_J32 (ly_z L) o v1 v2 t32_1 m32 = some res → GW E L A 5 0 0 Q m32 32 [(0, .ref (ly_a L o)), (1, .int v1), (2, .int v2)] [.int t32_1, .ref (ly_a L o)] := by
    intro v1 v2 t32_1 m32 hf0
    unfold f_Mod_waiting_J32 at hf0
    obtain ⟨q32, hq32, hf0⟩ := mx_bd hf0
    refine gw_callI C (c_Mod_throwsIf _ hg k_o_0 hq32) d_Mod_waiting_32 1 qw_1398 qw_1400 qs_55 qw_12 qw_1401 k_o_0 (by decide) rfl hd_Mod_throwsIf rfl rfl (Nat.le_of_ble_eq_true rfl) ⟨rfl, rfl, Nat.le_of_ble_eq_true rfl, Nat.le_of_ble_eq_true rfl⟩ ⟨Nat.zero_le _, Nat.zero_le _⟩ ?_
    refine gw_if_eq C 40 d_Mod_waiting_35 (by decide) (fun hc => ?_) (fun hc => ?_)
    · replace hf0 := mx_t hc hf0
      refine gw_iconst C (0 : Int32) d_Mod_waiting_40 (by decide) ?_
      refine gw_istore_n C [(3, .int (0 : Int32)), (0, .ref (ly_a L o)), (1, .int v1), (2, .int v2)] d_Mod_waiting_41 rfl (by decide) rfl ?_
      refine gw_iconst C (0 : Int32) d_Mod_waiting_42 (by decide) ?_
      refine gw_istore C [(4, .int (0 : Int32)), (3, .int (0 : Int32)), (0, .ref (ly_a L o)), (1, .int v1), (2, .int v2)] d_Mod_waiting_43 (by decide) rfl ?_
      obtain ⟨q45, hq45, hf0⟩ := mx_bd hf0
      have hk45 : ∀ x9, q45 = x9 → GW E L A 5 0 0 Q q32.2 72 [(0, .ref (ly_a L o)), (2, .int v2), (3, .int x9)] [] := by
        intro x9 hx9
        subst hx9
        refine gw_iload_n C 2 d_Mod_waiting_72 rfl rfl ?_
        refine gw_i2l C d_Mod_waiting_73 ?_
        refine gw_aload_n C 0 d_Mod_waiting_74 rfl rfl ?_
        refine gw_getA C 6 d_Mod_waiting_75 k_o_0 (by decide) i_Mod rfl rfl (by decide) qw_1171 rfl rfl (o + 2) rfl ?_
        refine gw_iconst C (0 : Int32) d_Mod_waiting_78 (by decide) ?_
        obtain ⟨x79, hx79, hf0⟩ := mx_bd hf0
        obtain ⟨gx79, ex79⟩ := mx_ldI hx79
        refine gw_iald C d_Mod_waiting_79 k_o_2 gx79 ex79 ?_
        refine gw_i2l C d_Mod_waiting_80 ?_
        refine gw_iload_n C 1 d_Mod_waiting_81 rfl rfl ?_
        obtain ⟨q82, hq82, hf0⟩ := mx_bd hf0
        refine gw_callLS C (c_Mod_part _ hg hq82) d_Mod_waiting_82 3 qw_1530 qw_1531 qw_12 qw_1532 hd_Mod_part rfl rfl (Nat.le_of_ble_eq_true rfl) ⟨rfl, rfl, Nat.le_of_ble_eq_true rfl, Nat.le_of_ble_eq_true rfl⟩ ⟨Nat.zero_le _, Nat.zero_le _⟩ ?_
        refine gw_l2i C d_Mod_waiting_85 ?_
        exact en_i hN hf0 d_Mod_waiting_86
      refine gw_sub [2, 3, 4, 1, 0] (lv' := [(0, .ref (ly_a L o)), (1, .int v1), (2, .int v2), (3, .int (0 : Int32)), (4, .int (0 : Int32))]) rfl ?_
      refine mm_rule hq45 (P := fun (s45 : Int32 × Int32) => GW E L A 5 0 0 Q q32.2 45 [(0, .ref (ly_a L o)), (1, .int v1), (2, .int v2), (3, .int s45.1), (4, .int s45.2)] []) ?_
      intro s45 ih45 hx45 ⟨w45, hb45⟩
      have hf1 := hb45
      unfold f_Mod_waiting_L45 at hf1
      refine gw_iload C 4 d_Mod_waiting_45 rfl ?_
      refine gw_aload_n C 0 d_Mod_waiting_47 rfl rfl ?_
      refine gw_getA C 6 d_Mod_waiting_48 k_o_0 (by decide) i_Mod rfl rfl (by decide) qw_1171 rfl rfl (o + 2) rfl ?_
      refine gw_iconst C (0 : Int32) d_Mod_waiting_51 (by decide) ?_
      obtain ⟨x52, hx52, hf1⟩ := mx_bd hf1
      obtain ⟨gx52, ex52⟩ := mx_ldI hx52
      refine gw_iald C d_Mod_waiting_52 k_o_2 gx52 ex52 ?_
      refine gw_icmp_ge C 72 d_Mod_waiting_53 (by decide) (fun hc => ?_) (fun hc => ?_)
      · replace hf1 := mx_t hc hf1
        exact gw_go [0, 2, 3] (hk45 s45.1 (hx45 _ (hb45.trans hf1.symm)).symm) rfl
      · replace hf1 := mx_f hc hf1
        refine gw_iload_n C 3 d_Mod_waiting_56 rfl rfl ?_
        refine gw_aload_n C 0 d_Mod_waiting_57 rfl rfl ?_
        refine gw_iload_n C 1 d_Mod_waiting_58 rfl rfl ?_
        refine gw_iload C 4 d_Mod_waiting_59 rfl ?_
        obtain ⟨q61, hq61, hf1⟩ := mx_bd hf1
        refine gw_callI C (c_Mod_valueOf _ hg k_o_0 hq61) d_Mod_waiting_61 2 qw_1418 qw_1420 qs_58 qw_12 qw_1421 k_o_0 (by decide) rfl hd_Mod_valueOf rfl rfl (Nat.le_of_ble_eq_true rfl) ⟨rfl, rfl, Nat.le_of_ble_eq_true rfl, Nat.le_of_ble_eq_true rfl⟩ ⟨Nat.zero_le _, Nat.zero_le _⟩ ?_
        refine gw_iadd C d_Mod_waiting_64 ?_
        obtain ⟨x65, ex65, hf1⟩ := mx_lt hf1
        refine gw_topi ex65 ?_
        refine gw_istore_n C [(3, .int x65), (0, .ref (ly_a L o)), (1, .int v1), (2, .int v2), (4, .int s45.2)] d_Mod_waiting_65 rfl (by decide) rfl ?_
        obtain ⟨x66, ex66, hf1⟩ := mx_lt hf1
        refine gw_iinc C 4 [(4, .int x66), (3, .int x65), (0, .ref (ly_a L o)), (1, .int v1), (2, .int v2)] d_Mod_waiting_66 rfl (by rw [ex66]; rfl) (by decide) rfl ?_
        refine gw_goto C 45 d_Mod_waiting_69 (by decide) ?_
        exact gw_go [2, 3, 4, 1, 0] (ih45 (x65, x66) (hb45.trans hf1.symm)) rfl
    · replace hf0 := mx_f hc hf0
      refine gw_iconst C (0 : Int32) d_Mod_waiting_38 (by decide) ?_
      exact en_i hN hf0 d_Mod_waiting_39
  refine gw_aload_n C 0 d_Mod_waiting_0 rfl rfl ?_
  refine gw_aload_n C 0 d_Mod_waiting_1 rfl rfl ?_
  refine gw_iload_n C 1 d_Mod_waiting_2 rfl rfl ?_
  obtain ⟨q3, hq3, hf0⟩ := mx_bd hf0
  refine gw_callI C (c_Mod_isHouse _ hg k_o_0 hq3) d_Mod_waiting_3 1 qw_1410 qw_1412 qs_57 qw_12 qw_1413 k_o_0 (by decide) rfl hd_Mod_isHouse rfl rfl (Nat.le_of_ble_eq_true rfl) ⟨rfl, rfl, Nat.le_of_ble_eq_true rfl, Nat.le_of_ble_eq_true rfl⟩ ⟨Nat.zero_le _, Nat.zero_le _⟩ ?_
  refine gw_if_eq C 27 d_Mod_waiting_6 (by decide) (fun hc => ?_) (fun hc => ?_)
  · replace hf0 := mx_t hc hf0
    refine gw_iconst C (1 : Int32) d_Mod_waiting_27 (by decide) ?_
    refine gw_goto C 32 d_Mod_waiting_28 (by decide) ?_
    exact gw_go [0, 1, 2] (hj32 _ _ _ _ hf0) rfl
  · replace hf0 := mx_f hc hf0
    refine gw_iload_n C 2 d_Mod_waiting_9 rfl rfl ?_
    refine gw_iconst C (0 : Int32) d_Mod_waiting_10 (by decide) ?_
    refine gw_iconst C (1 : Int32) d_Mod_waiting_11 (by decide) ?_
    obtain ⟨q12, hq12, hf0⟩ := mx_bd hf0
    refine gw_callIS C (c_Mod_isIn _ hg hq12) d_Mod_waiting_12 3 qw_1356 qw_1357 qw_12 qw_1358 hd_Mod_isIn rfl rfl (Nat.le_of_ble_eq_true rfl) ⟨rfl, rfl, Nat.le_of_ble_eq_true rfl, Nat.le_of_ble_eq_true rfl⟩ ⟨Nat.zero_le _, Nat.zero_le _⟩ ?_
    refine gw_if_eq C 27 d_Mod_waiting_15 (by decide) (fun hc => ?_) (fun hc => ?_)
    · replace hf0 := mx_t hc hf0
      refine gw_iconst C (1 : Int32) d_Mod_waiting_27 (by decide) ?_
      refine gw_goto C 32 d_Mod_waiting_28 (by decide) ?_
      exact gw_go [0, 1, 2] (hj32 _ _ _ _ hf0) rfl
    · replace hf0 := mx_f hc hf0
      refine gw_aload_n C 0 d_Mod_waiting_18 rfl rfl ?_
      refine gw_getA C 6 d_Mod_waiting_19 k_o_0 (by decide) i_Mod rfl rfl (by decide) qw_1171 rfl rfl (o + 2) rfl ?_
      refine gw_iconst C (0 : Int32) d_Mod_waiting_22 (by decide) ?_
      obtain ⟨x23, hx23, hf0⟩ := mx_bd hf0
      obtain ⟨gx23, ex23⟩ := mx_ldI hx23
      refine gw_iald C d_Mod_waiting_23 k_o_2 gx23 ex23 ?_
      refine gw_if_ne C 31 d_Mod_waiting_24 (by decide) (fun hc => ?_) (fun hc => ?_)
      · replace hf0 := mx_f hc hf0
        refine gw_iconst C (0 : Int32) d_Mod_waiting_31 (by decide) ?_
        exact gw_go [0, 1, 2] (hj32 _ _ _ _ hf0) rfl
      · replace hf0 := mx_t hc hf0
        refine gw_iconst C (1 : Int32) d_Mod_waiting_27 (by decide) ?_
        refine gw_goto C 32 d_Mod_waiting_28 (by decide) ?_
        exact gw_go [0, 1, 2] (hj32 _ _ _ _ hf0) rfl

/-! NameHatModel.wedding(IIII)I -/
abbrev b_Mod_wedding : ByteArray := prog_14_method_67_code
def y_Mod_wedding : MethodName := ⟨"NameHatModel", "wedding", "(IIII)I"⟩
abbrev rm_Mod_wedding : Room := { frames := 2, cells := 0, slots := 0, locals := 53 }
theorem hd_Mod_wedding : y_Mod_wedding.cls ≠ "java/lang/invoke/MethodHandle" ∧ y_Mod_wedding.cls ≠ "java/lang/invoke/VarHandle" ∧ (parseMethodDescriptor y_Mod_wedding.desc).map (fun d => d.parameters.length) = some 4 := by decide +kernel
theorem d_Mod_wedding_0 : decode b_Mod_wedding 0 = .ok (.aload_n 0, 1) := by decide +kernel
theorem d_Mod_wedding_1 : decode b_Mod_wedding 1 = .ok (.aload_n 0, 1) := by decide +kernel
theorem d_Mod_wedding_2 : decode b_Mod_wedding 2 = .ok (.iload_n 1, 1) := by decide +kernel
theorem d_Mod_wedding_3 : decode b_Mod_wedding 3 = .ok (.invokevirtual 252, 3) := by decide +kernel
theorem d_Mod_wedding_6 : decode b_Mod_wedding 6 = .ok (.ifCond .eq 45, 3) := by decide +kernel
theorem d_Mod_wedding_9 : decode b_Mod_wedding 9 = .ok (.aload_n 0, 1) := by decide +kernel
theorem d_Mod_wedding_10 : decode b_Mod_wedding 10 = .ok (.iload_n 2, 1) := by decide +kernel
theorem d_Mod_wedding_11 : decode b_Mod_wedding 11 = .ok (.invokevirtual 252, 3) := by decide +kernel
theorem d_Mod_wedding_14 : decode b_Mod_wedding 14 = .ok (.ifCond .eq 37, 3) := by decide +kernel
theorem d_Mod_wedding_17 : decode b_Mod_wedding 17 = .ok (.iload_n 1, 1) := by decide +kernel
theorem d_Mod_wedding_18 : decode b_Mod_wedding 18 = .ok (.iload_n 2, 1) := by decide +kernel
theorem d_Mod_wedding_19 : decode b_Mod_wedding 19 = .ok (.if_icmp .eq 32, 3) := by decide +kernel
theorem d_Mod_wedding_22 : decode b_Mod_wedding 22 = .ok (.iload_n 3, 1) := by decide +kernel
theorem d_Mod_wedding_23 : decode b_Mod_wedding 23 = .ok (.iconst 0, 1) := by decide +kernel
theorem d_Mod_wedding_24 : decode b_Mod_wedding 24 = .ok (.iconst 1, 1) := by decide +kernel
theorem d_Mod_wedding_25 : decode b_Mod_wedding 25 = .ok (.invokestatic 175, 3) := by decide +kernel
theorem d_Mod_wedding_28 : decode b_Mod_wedding 28 = .ok (.ifCond .eq 23, 3) := by decide +kernel
theorem d_Mod_wedding_31 : decode b_Mod_wedding 31 = .ok (.iload 4, 2) := by decide +kernel
theorem d_Mod_wedding_33 : decode b_Mod_wedding 33 = .ok (.iconst 0, 1) := by decide +kernel
theorem d_Mod_wedding_34 : decode b_Mod_wedding 34 = .ok (.iconst 1, 1) := by decide +kernel
theorem d_Mod_wedding_35 : decode b_Mod_wedding 35 = .ok (.invokestatic 175, 3) := by decide +kernel
theorem d_Mod_wedding_38 : decode b_Mod_wedding 38 = .ok (.ifCond .eq 13, 3) := by decide +kernel
theorem d_Mod_wedding_41 : decode b_Mod_wedding 41 = .ok (.aload_n 0, 1) := by decide +kernel
theorem d_Mod_wedding_42 : decode b_Mod_wedding 42 = .ok (.getfield 33, 3) := by decide +kernel
theorem d_Mod_wedding_45 : decode b_Mod_wedding 45 = .ok (.iconst 0, 1) := by decide +kernel
theorem d_Mod_wedding_46 : decode b_Mod_wedding 46 = .ok (.iaload, 1) := by decide +kernel
theorem d_Mod_wedding_47 : decode b_Mod_wedding 47 = .ok (.iconst 2, 1) := by decide +kernel
theorem d_Mod_wedding_48 : decode b_Mod_wedding 48 = .ok (.if_icmp .ge 7, 3) := by decide +kernel
theorem d_Mod_wedding_51 : decode b_Mod_wedding 51 = .ok (.iconst 1, 1) := by decide +kernel
theorem d_Mod_wedding_52 : decode b_Mod_wedding 52 = .ok (.goto 4, 3) := by decide +kernel
theorem d_Mod_wedding_55 : decode b_Mod_wedding 55 = .ok (.iconst 0, 1) := by decide +kernel
theorem d_Mod_wedding_56 : decode b_Mod_wedding 56 = .ok (.invokevirtual 244, 3) := by decide +kernel
theorem d_Mod_wedding_59 : decode b_Mod_wedding 59 = .ok (.ifCond .eq 5, 3) := by decide +kernel
theorem d_Mod_wedding_62 : decode b_Mod_wedding 62 = .ok (.iconst 0, 1) := by decide +kernel
theorem d_Mod_wedding_63 : decode b_Mod_wedding 63 = .ok (.ireturn, 1) := by decide +kernel
theorem d_Mod_wedding_64 : decode b_Mod_wedding 64 = .ok (.iconst 0, 1) := by decide +kernel
theorem d_Mod_wedding_65 : decode b_Mod_wedding 65 = .ok (.istore 5, 2) := by decide +kernel
theorem d_Mod_wedding_67 : decode b_Mod_wedding 67 = .ok (.iconst 0, 1) := by decide +kernel
theorem d_Mod_wedding_68 : decode b_Mod_wedding 68 = .ok (.istore 6, 2) := by decide +kernel
theorem d_Mod_wedding_70 : decode b_Mod_wedding 70 = .ok (.iconst 0, 1) := by decide +kernel
theorem d_Mod_wedding_71 : decode b_Mod_wedding 71 = .ok (.istore 7, 2) := by decide +kernel
theorem d_Mod_wedding_73 : decode b_Mod_wedding 73 = .ok (.iload 7, 2) := by decide +kernel
theorem d_Mod_wedding_75 : decode b_Mod_wedding 75 = .ok (.aload_n 0, 1) := by decide +kernel
theorem d_Mod_wedding_76 : decode b_Mod_wedding 76 = .ok (.getfield 33, 3) := by decide +kernel
theorem d_Mod_wedding_79 : decode b_Mod_wedding 79 = .ok (.iconst 0, 1) := by decide +kernel
theorem d_Mod_wedding_80 : decode b_Mod_wedding 80 = .ok (.iaload, 1) := by decide +kernel
theorem d_Mod_wedding_81 : decode b_Mod_wedding 81 = .ok (.if_icmp .ge 108, 3) := by decide +kernel
theorem d_Mod_wedding_84 : decode b_Mod_wedding 84 = .ok (.iload_n 3, 1) := by decide +kernel
theorem d_Mod_wedding_85 : decode b_Mod_wedding 85 = .ok (.ifCond .ne 8, 3) := by decide +kernel
theorem d_Mod_wedding_88 : decode b_Mod_wedding 88 = .ok (.iload 7, 2) := by decide +kernel
theorem d_Mod_wedding_90 : decode b_Mod_wedding 90 = .ok (.goto 7, 3) := by decide +kernel
theorem d_Mod_wedding_93 : decode b_Mod_wedding 93 = .ok (.iload 7, 2) := by decide +kernel
theorem d_Mod_wedding_95 : decode b_Mod_wedding 95 = .ok (.iconst 1, 1) := by decide +kernel
theorem d_Mod_wedding_96 : decode b_Mod_wedding 96 = .ok (.iadd, 1) := by decide +kernel
theorem d_Mod_wedding_97 : decode b_Mod_wedding 97 = .ok (.istore 8, 2) := by decide +kernel
theorem d_Mod_wedding_99 : decode b_Mod_wedding 99 = .ok (.iload 8, 2) := by decide +kernel
theorem d_Mod_wedding_101 : decode b_Mod_wedding 101 = .ok (.iload_n 3, 1) := by decide +kernel
theorem d_Mod_wedding_102 : decode b_Mod_wedding 102 = .ok (.ifCond .ne 10, 3) := by decide +kernel
theorem d_Mod_wedding_105 : decode b_Mod_wedding 105 = .ok (.iload 7, 2) := by decide +kernel
theorem d_Mod_wedding_107 : decode b_Mod_wedding 107 = .ok (.iconst 1, 1) := by decide +kernel
theorem d_Mod_wedding_108 : decode b_Mod_wedding 108 = .ok (.iadd, 1) := by decide +kernel
theorem d_Mod_wedding_109 : decode b_Mod_wedding 109 = .ok (.goto 9, 3) := by decide +kernel
theorem d_Mod_wedding_112 : decode b_Mod_wedding 112 = .ok (.aload_n 0, 1) := by decide +kernel
theorem d_Mod_wedding_113 : decode b_Mod_wedding 113 = .ok (.getfield 33, 3) := by decide +kernel
theorem d_Mod_wedding_116 : decode b_Mod_wedding 116 = .ok (.iconst 0, 1) := by decide +kernel
theorem d_Mod_wedding_117 : decode b_Mod_wedding 117 = .ok (.iaload, 1) := by decide +kernel
theorem d_Mod_wedding_118 : decode b_Mod_wedding 118 = .ok (.if_icmp .ge 65, 3) := by decide +kernel
theorem d_Mod_wedding_121 : decode b_Mod_wedding 121 = .ok (.aload_n 0, 1) := by decide +kernel
theorem d_Mod_wedding_122 : decode b_Mod_wedding 122 = .ok (.iload_n 1, 1) := by decide +kernel
theorem d_Mod_wedding_123 : decode b_Mod_wedding 123 = .ok (.iload 7, 2) := by decide +kernel
theorem d_Mod_wedding_125 : decode b_Mod_wedding 125 = .ok (.invokevirtual 255, 3) := by decide +kernel
theorem d_Mod_wedding_128 : decode b_Mod_wedding 128 = .ok (.aload_n 0, 1) := by decide +kernel
theorem d_Mod_wedding_129 : decode b_Mod_wedding 129 = .ok (.iload_n 2, 1) := by decide +kernel
theorem d_Mod_wedding_130 : decode b_Mod_wedding 130 = .ok (.iload 7, 2) := by decide +kernel
theorem d_Mod_wedding_132 : decode b_Mod_wedding 132 = .ok (.invokevirtual 255, 3) := by decide +kernel
theorem d_Mod_wedding_135 : decode b_Mod_wedding 135 = .ok (.iadd, 1) := by decide +kernel
theorem d_Mod_wedding_136 : decode b_Mod_wedding 136 = .ok (.istore 9, 2) := by decide +kernel
theorem d_Mod_wedding_138 : decode b_Mod_wedding 138 = .ok (.aload_n 0, 1) := by decide +kernel
theorem d_Mod_wedding_139 : decode b_Mod_wedding 139 = .ok (.iload_n 1, 1) := by decide +kernel
theorem d_Mod_wedding_140 : decode b_Mod_wedding 140 = .ok (.iload 8, 2) := by decide +kernel
theorem d_Mod_wedding_142 : decode b_Mod_wedding 142 = .ok (.invokevirtual 255, 3) := by decide +kernel
theorem d_Mod_wedding_145 : decode b_Mod_wedding 145 = .ok (.aload_n 0, 1) := by decide +kernel
theorem d_Mod_wedding_146 : decode b_Mod_wedding 146 = .ok (.iload_n 2, 1) := by decide +kernel
theorem d_Mod_wedding_147 : decode b_Mod_wedding 147 = .ok (.iload 8, 2) := by decide +kernel
theorem d_Mod_wedding_149 : decode b_Mod_wedding 149 = .ok (.invokevirtual 255, 3) := by decide +kernel
theorem d_Mod_wedding_152 : decode b_Mod_wedding 152 = .ok (.iadd, 1) := by decide +kernel
theorem d_Mod_wedding_153 : decode b_Mod_wedding 153 = .ok (.istore 10, 2) := by decide +kernel
theorem d_Mod_wedding_155 : decode b_Mod_wedding 155 = .ok (.iload 5, 2) := by decide +kernel
theorem d_Mod_wedding_157 : decode b_Mod_wedding 157 = .ok (.iload 9, 2) := by decide +kernel
theorem d_Mod_wedding_159 : decode b_Mod_wedding 159 = .ok (.iload 10, 2) := by decide +kernel
theorem d_Mod_wedding_161 : decode b_Mod_wedding 161 = .ok (.if_icmp .le 8, 3) := by decide +kernel
theorem d_Mod_wedding_164 : decode b_Mod_wedding 164 = .ok (.iload 9, 2) := by decide +kernel
theorem d_Mod_wedding_166 : decode b_Mod_wedding 166 = .ok (.goto 5, 3) := by decide +kernel
theorem d_Mod_wedding_169 : decode b_Mod_wedding 169 = .ok (.iload 10, 2) := by decide +kernel
theorem d_Mod_wedding_171 : decode b_Mod_wedding 171 = .ok (.iadd, 1) := by decide +kernel
theorem d_Mod_wedding_172 : decode b_Mod_wedding 172 = .ok (.istore 5, 2) := by decide +kernel
theorem d_Mod_wedding_174 : decode b_Mod_wedding 174 = .ok (.iinc 6 1, 3) := by decide +kernel
theorem d_Mod_wedding_177 : decode b_Mod_wedding 177 = .ok (.iinc 8 1, 3) := by decide +kernel
theorem d_Mod_wedding_180 : decode b_Mod_wedding 180 = .ok (.goto (-81), 3) := by decide +kernel
theorem d_Mod_wedding_183 : decode b_Mod_wedding 183 = .ok (.iinc 7 1, 3) := by decide +kernel
theorem d_Mod_wedding_186 : decode b_Mod_wedding 186 = .ok (.goto (-113), 3) := by decide +kernel
theorem d_Mod_wedding_189 : decode b_Mod_wedding 189 = .ok (.iload 5, 2) := by decide +kernel
theorem d_Mod_wedding_191 : decode b_Mod_wedding 191 = .ok (.i2l, 1) := by decide +kernel
theorem d_Mod_wedding_192 : decode b_Mod_wedding 192 = .ok (.iload 6, 2) := by decide +kernel
theorem d_Mod_wedding_194 : decode b_Mod_wedding 194 = .ok (.i2l, 1) := by decide +kernel
theorem d_Mod_wedding_195 : decode b_Mod_wedding 195 = .ok (.iload 4, 2) := by decide +kernel
theorem d_Mod_wedding_197 : decode b_Mod_wedding 197 = .ok (.invokestatic 316, 3) := by decide +kernel
theorem d_Mod_wedding_200 : decode b_Mod_wedding 200 = .ok (.l2i, 1) := by decide +kernel
theorem d_Mod_wedding_201 : decode b_Mod_wedding 201 = .ok (.ireturn, 1) := by decide +kernel
noncomputable def f_Mod_wedding_J118 (z : Nat → Nat) (o : Nat) (v1 : Int32) (v2 : Int32) (v3 : Int32) (v4 : Int32) (v5 : Int32) (v6 : Int32) (v7 : Int32) (v8 : Int32) (t118_0 : Int32) (t118_1 : Int32) (m118 : Mm) : Option ((Int32 × Int32 × Int32) ⊕ (Int32 × Int32)) :=
  if t118_1 ≤ t118_0 then (
    some (.inr (v5, v6))
  ) else (
    (f_Mod_valueOf z m118 o v1 v7).bind fun q125 =>
    (f_Mod_valueOf z m118 o v2 v7).bind fun q132 =>
    mm_lt ((q125 + q132)) fun x136 =>
    (f_Mod_valueOf z m118 o v1 v8).bind fun q142 =>
    (f_Mod_valueOf z m118 o v2 v8).bind fun q149 =>
    mm_lt ((q142 + q149)) fun x153 =>
    if x136 ≤ x153 then (
      mm_lt ((v5 + x153)) fun x172 =>
      mm_lt (v6 + (1 : Int32)) fun x174 =>
      mm_lt (v8 + (1 : Int32)) fun x177 =>
      some (.inl (x172, x174, x177))
    ) else (
      mm_lt ((v5 + x136)) fun x172 =>
      mm_lt (v6 + (1 : Int32)) fun x174 =>
      mm_lt (v8 + (1 : Int32)) fun x177 =>
      some (.inl (x172, x174, x177))
    )
  )
noncomputable def f_Mod_wedding_L99 (z : Nat → Nat) (σ : Mm) (o : Nat) (v1 : Int32) (v2 : Int32) (v3 : Int32) (v4 : Int32) (v7 : Int32) (s99 : Int32 × Int32 × Int32) : Option ((Int32 × Int32 × Int32) ⊕ (Int32 × Int32)) :=
  if v3 = 0 then (
    f_Mod_wedding_J118 z o v1 v2 v3 v4 s99.1 s99.2.1 v7 s99.2.2 s99.2.2 (v7 + (1 : Int32)) σ
  ) else (
    (mm_ldI (σ.1 (o + 2)) (z (o + 2)) (0 : Int32)).bind fun x117 =>
    f_Mod_wedding_J118 z o v1 v2 v3 v4 s99.1 s99.2.1 v7 s99.2.2 s99.2.2 x117 σ
  )
noncomputable def f_Mod_wedding_J97 (z : Nat → Nat) (o : Nat) (v1 : Int32) (v2 : Int32) (v3 : Int32) (v4 : Int32) (v5 : Int32) (v6 : Int32) (v7 : Int32) (t97_0 : Int32) (m97 : Mm) : Option ((Int32 × Int32 × Int32) ⊕ (Int32 × Int32)) :=
  (mm_lp (f_Mod_wedding_L99 z m97 o v1 v2 v3 v4 v7) (v5, v6, t97_0)).bind (fun q99 =>
    mm_lt (v7 + (1 : Int32)) fun x183 =>
    some (.inl (q99.1, q99.2, x183)))
noncomputable def f_Mod_wedding_L73 (z : Nat → Nat) (σ : Mm) (o : Nat) (v1 : Int32) (v2 : Int32) (v3 : Int32) (v4 : Int32) (s73 : Int32 × Int32 × Int32) : Option ((Int32 × Int32 × Int32) ⊕ (Int32 × Int32)) :=
  (mm_ldI (σ.1 (o + 2)) (z (o + 2)) (0 : Int32)).bind fun x80 =>
  if x80 ≤ s73.2.2 then (
    some (.inr (s73.1, s73.2.1))
  ) else (
    if v3 = 0 then (
      f_Mod_wedding_J97 z o v1 v2 v3 v4 s73.1 s73.2.1 s73.2.2 s73.2.2 σ
    ) else (
      f_Mod_wedding_J97 z o v1 v2 v3 v4 s73.1 s73.2.1 s73.2.2 (s73.2.2 + (1 : Int32)) σ
    )
  )
noncomputable def f_Mod_wedding_J56 (z : Nat → Nat) (o : Nat) (v1 : Int32) (v2 : Int32) (v3 : Int32) (v4 : Int32) (t56_1 : Int32) (m56 : Mm) : Option (Int32 × Mm) :=
  (f_Mod_throwsIf z m56 o t56_1).bind fun q56 =>
  if q56.1 = 0 then (
    (mm_lp (f_Mod_wedding_L73 z q56.2 o v1 v2 v3 v4) ((0 : Int32), (0 : Int32), (0 : Int32))).bind (fun q73 =>
      (f_Mod_part z q56.2 (Int32.toInt64 q73.1) (Int32.toInt64 q73.2) v4).bind fun q197 =>
      some ((Int64.toInt32 q197), q56.2))
  ) else (
    some ((0 : Int32), q56.2)
  )
noncomputable def f_Mod_wedding (z : Nat → Nat) (σ : Mm) (o : Nat) (p1 : Int32) (p2 : Int32) (p3 : Int32) (p4 : Int32) : Option (Int32 × Mm) :=
  (f_Mod_isHouse z σ o p1).bind fun q3 =>
  if q3 = 0 then (
    f_Mod_wedding_J56 z o p1 p2 p3 p4 (1 : Int32) σ
  ) else (
    (f_Mod_isHouse z σ o p2).bind fun q11 =>
    if q11 = 0 then (
      f_Mod_wedding_J56 z o p1 p2 p3 p4 (1 : Int32) σ
    ) else (
      if p1 = p2 then (
        f_Mod_wedding_J56 z o p1 p2 p3 p4 (1 : Int32) σ
      ) else (
        (f_Mod_isIn z σ p3 (0 : Int32) (1 : Int32)).bind fun q25 =>
        if q25 = 0 then (
          f_Mod_wedding_J56 z o p1 p2 p3 p4 (1 : Int32) σ
        ) else (
          (f_Mod_isIn z σ p4 (0 : Int32) (1 : Int32)).bind fun q35 =>
          if q35 = 0 then (
            f_Mod_wedding_J56 z o p1 p2 p3 p4 (1 : Int32) σ
          ) else (
            (mm_ldI (σ.1 (o + 2)) (z (o + 2)) (0 : Int32)).bind fun x46 =>
            if (2 : Int32) ≤ x46 then (
              f_Mod_wedding_J56 z o p1 p2 p3 p4 (0 : Int32) σ
            ) else (
              f_Mod_wedding_J56 z o p1 p2 p3 p4 (1 : Int32) σ
            )
          )
        )
      )
    )
  )
set_option maxHeartbeats 4000000 in
set_option maxRecDepth 100000 in
theorem c_Mod_wedding (l : Launch) {L : Ly} (hg : gd_ok L) {σ : Mm} {o : Nat} {p1 : Int32} {p2 : Int32} {p3 : Int32} {p4 : Int32} (k_o_0 : ly_k L o = 11) {res : Int32 × Mm} (hf0 : f_Mod_wedding (ly_z L) σ o p1 p2 p3 p4 = some res) : CtI l y_Mod_wedding b_Mod_wedding 11 (some .int) rm_Mod_wedding L [.ref (ly_a L o), .int p1, .int p2, .int p3, .int p4] σ res.1 res.2 := by
  refine ct_i hg (by decide) (Nat.le_of_ble_eq_true rfl) ?_
  intro E A Q hE C hN
  subst hE
  have k_o_2 : ly_k L (o + 2) = 20 := gd_Mod_s hg k_o_0
  unfold f_Mod_wedding at hf0
  show GW E L A 11 0 0 Q σ 0 [(0, .ref (ly_a L o)), (1, .int p1), (2, .int p2), (3, .int p3), (4, .int p4)] []
  have hj56 : ∀ (v1 : Int32) (v2 : Int32) (v3 : Int32) (v4 : Int32) (t56_1 : Int32) (m56 : Mm), f_Mod_wedding_J56 (ly_z L) o v1 v2 v3 v4 t56_1 m56 = some res → GW E L A 11 0 0 Q m56 56 [(0, .ref (ly_a L o)), (1, .int v1), (2, .int v2), (3, .int v3), (4, .int v4)] [.int t56_1, .ref (ly_a L o)] := by
    intro v1 v2 v3 v4 t56_1 m56 hf0
    unfold f_Mod_wedding_J56 at hf0
    obtain ⟨q56, hq56, hf0⟩ := mx_bd hf0
    refine gw_callI C (c_Mod_throwsIf _ hg k_o_0 hq56) d_Mod_wedding_56 1 qw_1398 qw_1400 qs_55 qw_12 qw_1401 k_o_0 (by decide) rfl hd_Mod_throwsIf rfl rfl (Nat.le_of_ble_eq_true rfl) ⟨rfl, rfl, Nat.le_of_ble_eq_true rfl, Nat.le_of_ble_eq_true rfl⟩ ⟨Nat.zero_le _, Nat.zero_le _⟩ ?_
    refine gw_if_eq C 64 d_Mod_wedding_59 (by decide) (fun hc => ?_) (fun hc => ?_)
    · replace hf0 := mx_t hc hf0
      refine gw_iconst C (0 : Int32) d_Mod_wedding_64 (by decide) ?_
      refine gw_istore C [(5, .int (0 : Int32)), (0, .ref (ly_a L o)), (1, .int v1), (2, .int v2), (3, .int v3), (4, .int v4)] d_Mod_wedding_65 (by decide) rfl ?_
      refine gw_iconst C (0 : Int32) d_Mod_wedding_67 (by decide) ?_
      refine gw_istore C [(6, .int (0 : Int32)), (5, .int (0 : Int32)), (0, .ref (ly_a L o)), (1, .int v1), (2, .int v2), (3, .int v3), (4, .int v4)] d_Mod_wedding_68 (by decide) rfl ?_
      refine gw_iconst C (0 : Int32) d_Mod_wedding_70 (by decide) ?_
      refine gw_istore C [(7, .int (0 : Int32)), (6, .int (0 : Int32)), (5, .int (0 : Int32)), (0, .ref (ly_a L o)), (1, .int v1), (2, .int v2), (3, .int v3), (4, .int v4)] d_Mod_wedding_71 (by decide) rfl ?_
      obtain ⟨q73, hq73, hf0⟩ := mx_bd hf0
      have hk73 : ∀ x9, q73 = x9 → GW E L A 11 0 0 Q q56.2 189 [(4, .int v4), (5, .int x9.1), (6, .int x9.2)] [] := by
        intro x9 hx9
        subst hx9
        refine gw_iload C 1 d_Mod_wedding_189 rfl ?_
        refine gw_i2l C d_Mod_wedding_191 ?_
        refine gw_iload C 2 d_Mod_wedding_192 rfl ?_
        refine gw_i2l C d_Mod_wedding_194 ?_
        refine gw_iload C 0 d_Mod_wedding_195 rfl ?_
        obtain ⟨q197, hq197, hf0⟩ := mx_bd hf0
        refine gw_callLS C (c_Mod_part _ hg hq197) d_Mod_wedding_197 3 qw_1530 qw_1531 qw_12 qw_1532 hd_Mod_part rfl rfl (Nat.le_of_ble_eq_true rfl) ⟨rfl, rfl, Nat.le_of_ble_eq_true rfl, Nat.le_of_ble_eq_true rfl⟩ ⟨Nat.zero_le _, Nat.zero_le _⟩ ?_
        refine gw_l2i C d_Mod_wedding_200 ?_
        exact en_i hN hf0 d_Mod_wedding_201
      refine gw_sub [3, 4, 5, 6, 7, 2, 1, 0] (lv' := [(0, .ref (ly_a L o)), (1, .int v1), (2, .int v2), (3, .int v3), (4, .int v4), (5, .int (0 : Int32)), (6, .int (0 : Int32)), (7, .int (0 : Int32))]) rfl ?_
      refine mm_rule hq73 (P := fun (s73 : Int32 × Int32 × Int32) => GW E L A 11 0 0 Q q56.2 73 [(0, .ref (ly_a L o)), (1, .int v1), (2, .int v2), (3, .int v3), (4, .int v4), (5, .int s73.1), (6, .int s73.2.1), (7, .int s73.2.2)] []) ?_
      intro s73 ih73 hx73 ⟨w73, hb73⟩
      have hj97 : ∀ (v5 : Int32) (v6 : Int32) (v7 : Int32) (t97_0 : Int32), f_Mod_wedding_J97 (ly_z L) o v1 v2 v3 v4 v5 v6 v7 t97_0 q56.2 = some w73 → GW E L A 11 0 0 Q q56.2 97 [(0, .ref (ly_a L o)), (1, .int v1), (2, .int v2), (3, .int v3), (4, .int v4), (5, .int v5), (6, .int v6), (7, .int v7)] [.int t97_0] := by
        intro v5 v6 v7 t97_0 hf1
        unfold f_Mod_wedding_J97 at hf1
        refine gw_istore C [(8, .int t97_0), (0, .ref (ly_a L o)), (1, .int v1), (2, .int v2), (3, .int v3), (4, .int v4), (5, .int v5), (6, .int v6), (7, .int v7)] d_Mod_wedding_97 (by decide) rfl ?_
        obtain ⟨q99, hq99, hf1⟩ := mx_bd hf1
        have hk99 : ∀ x9, q99 = x9 → GW E L A 11 0 0 Q q56.2 183 [(0, .ref (ly_a L o)), (1, .int v1), (2, .int v2), (3, .int v3), (4, .int v4), (5, .int x9.1), (6, .int x9.2), (7, .int v7)] [] := by
          intro x9 hx9
          subst hx9
          obtain ⟨x183, ex183, hf1⟩ := mx_lt hf1
          refine gw_iinc C 7 [(7, .int x183), (0, .ref (ly_a L o)), (1, .int v1), (2, .int v2), (3, .int v3), (4, .int v4), (5, .int q99.1), (6, .int q99.2)] d_Mod_wedding_183 rfl (by rw [ex183]; rfl) (by decide) rfl ?_
          refine gw_goto C 73 d_Mod_wedding_186 (by decide) ?_
          exact gw_go [1, 2, 3, 4, 5, 6, 7, 0] (ih73 (q99.1, q99.2, x183) (hb73.trans hf1.symm)) rfl
        refine gw_sub [1, 2, 3, 4, 5, 6, 7, 8, 0] (lv' := [(0, .ref (ly_a L o)), (1, .int v1), (2, .int v2), (3, .int v3), (4, .int v4), (5, .int v5), (6, .int v6), (7, .int v7), (8, .int t97_0)]) rfl ?_
        refine mm_rule hq99 (P := fun (s99 : Int32 × Int32 × Int32) => GW E L A 11 0 0 Q q56.2 99 [(0, .ref (ly_a L o)), (1, .int v1), (2, .int v2), (3, .int v3), (4, .int v4), (5, .int s99.1), (6, .int s99.2.1), (7, .int v7), (8, .int s99.2.2)] []) ?_
        intro s99 ih99 hx99 ⟨w99, hb99⟩
        have hj118 : ∀ (v5 : Int32) (v6 : Int32) (v8 : Int32) (t118_0 : Int32) (t118_1 : Int32), f_Mod_wedding_J118 (ly_z L) o v1 v2 v3 v4 v5 v6 v7 v8 t118_0 t118_1 q56.2 = some w99 → GW E L A 11 0 0 Q q56.2 118 [(0, .ref (ly_a L o)), (1, .int v1), (2, .int v2), (3, .int v3), (4, .int v4), (5, .int v5), (6, .int v6), (7, .int v7), (8, .int v8)] [.int t118_1, .int t118_0] := by
          intro v5 v6 v8 t118_0 t118_1 hf2
          unfold f_Mod_wedding_J118 at hf2
          refine gw_icmp_ge C 183 d_Mod_wedding_118 (by decide) (fun hc => ?_) (fun hc => ?_)
          · replace hf2 := mx_t hc hf2
            exact gw_go [0, 1, 2, 3, 4, 5, 6, 7] (hk99 (v5, v6) (hx99 _ (hb99.trans hf2.symm)).symm) rfl
          · replace hf2 := mx_f hc hf2
            refine gw_aload_n C 0 d_Mod_wedding_121 rfl rfl ?_
            refine gw_iload_n C 1 d_Mod_wedding_122 rfl rfl ?_
            refine gw_iload C 7 d_Mod_wedding_123 rfl ?_
            obtain ⟨q125, hq125, hf2⟩ := mx_bd hf2
            refine gw_callI C (c_Mod_valueOf _ hg k_o_0 hq125) d_Mod_wedding_125 2 qw_1418 qw_1420 qs_58 qw_12 qw_1421 k_o_0 (by decide) rfl hd_Mod_valueOf rfl rfl (Nat.le_of_ble_eq_true rfl) ⟨rfl, rfl, Nat.le_of_ble_eq_true rfl, Nat.le_of_ble_eq_true rfl⟩ ⟨Nat.zero_le _, Nat.zero_le _⟩ ?_
            refine gw_aload_n C 0 d_Mod_wedding_128 rfl rfl ?_
            refine gw_iload_n C 2 d_Mod_wedding_129 rfl rfl ?_
            refine gw_iload C 7 d_Mod_wedding_130 rfl ?_
            obtain ⟨q132, hq132, hf2⟩ := mx_bd hf2
            refine gw_callI C (c_Mod_valueOf _ hg k_o_0 hq132) d_Mod_wedding_132 2 qw_1418 qw_1420 qs_58 qw_12 qw_1421 k_o_0 (by decide) rfl hd_Mod_valueOf rfl rfl (Nat.le_of_ble_eq_true rfl) ⟨rfl, rfl, Nat.le_of_ble_eq_true rfl, Nat.le_of_ble_eq_true rfl⟩ ⟨Nat.zero_le _, Nat.zero_le _⟩ ?_
            refine gw_iadd C d_Mod_wedding_135 ?_
            obtain ⟨x136, ex136, hf2⟩ := mx_lt hf2
            refine gw_topi ex136 ?_
            refine gw_istore C [(9, .int x136), (0, .ref (ly_a L o)), (1, .int v1), (2, .int v2), (3, .int v3), (4, .int v4), (5, .int v5), (6, .int v6), (7, .int v7), (8, .int v8)] d_Mod_wedding_136 (by decide) rfl ?_
            refine gw_aload_n C 1 d_Mod_wedding_138 rfl rfl ?_
            refine gw_iload_n C 2 d_Mod_wedding_139 rfl rfl ?_
            refine gw_iload C 9 d_Mod_wedding_140 rfl ?_
            obtain ⟨q142, hq142, hf2⟩ := mx_bd hf2
            refine gw_callI C (c_Mod_valueOf _ hg k_o_0 hq142) d_Mod_wedding_142 2 qw_1418 qw_1420 qs_58 qw_12 qw_1421 k_o_0 (by decide) rfl hd_Mod_valueOf rfl rfl (Nat.le_of_ble_eq_true rfl) ⟨rfl, rfl, Nat.le_of_ble_eq_true rfl, Nat.le_of_ble_eq_true rfl⟩ ⟨Nat.zero_le _, Nat.zero_le _⟩ ?_
            refine gw_aload_n C 1 d_Mod_wedding_145 rfl rfl ?_
            refine gw_iload_n C 3 d_Mod_wedding_146 rfl rfl ?_
            refine gw_iload C 9 d_Mod_wedding_147 rfl ?_
            obtain ⟨q149, hq149, hf2⟩ := mx_bd hf2
            refine gw_callI C (c_Mod_valueOf _ hg k_o_0 hq149) d_Mod_wedding_149 2 qw_1418 qw_1420 qs_58 qw_12 qw_1421 k_o_0 (by decide) rfl hd_Mod_valueOf rfl rfl (Nat.le_of_ble_eq_true rfl) ⟨rfl, rfl, Nat.le_of_ble_eq_true rfl, Nat.le_of_ble_eq_true rfl⟩ ⟨Nat.zero_le _, Nat.zero_le _⟩ ?_
            refine gw_iadd C d_Mod_wedding_152 ?_
            obtain ⟨x153, ex153, hf2⟩ := mx_lt hf2
            refine gw_topi ex153 ?_
            refine gw_istore C [(10, .int x153), (9, .int x136), (0, .ref (ly_a L o)), (1, .int v1), (2, .int v2), (3, .int v3), (4, .int v4), (5, .int v5), (6, .int v6), (7, .int v7), (8, .int v8)] d_Mod_wedding_153 (by decide) rfl ?_
            refine gw_iload C 7 d_Mod_wedding_155 rfl ?_
            refine gw_iload C 1 d_Mod_wedding_157 rfl ?_
            refine gw_iload C 0 d_Mod_wedding_159 rfl ?_
            refine gw_icmp_le C 169 d_Mod_wedding_161 (by decide) (fun hc => ?_) (fun hc => ?_)
            · replace hf2 := mx_t hc hf2
              refine gw_iload C 0 d_Mod_wedding_169 rfl ?_
              refine gw_iadd C d_Mod_wedding_171 ?_
              obtain ⟨x172, ex172, hf2⟩ := mx_lt hf2
              refine gw_topi ex172 ?_
              refine gw_istore C [(5, .int x172), (10, .int x153), (9, .int x136), (0, .ref (ly_a L o)), (1, .int v1), (2, .int v2), (3, .int v3), (4, .int v4), (6, .int v6), (7, .int v7), (8, .int v8)] d_Mod_wedding_172 (by decide) rfl ?_
              obtain ⟨x174, ex174, hf2⟩ := mx_lt hf2
              refine gw_iinc C 8 [(6, .int x174), (5, .int x172), (10, .int x153), (9, .int x136), (0, .ref (ly_a L o)), (1, .int v1), (2, .int v2), (3, .int v3), (4, .int v4), (7, .int v7), (8, .int v8)] d_Mod_wedding_174 rfl (by rw [ex174]; rfl) (by decide) rfl ?_
              obtain ⟨x177, ex177, hf2⟩ := mx_lt hf2
              refine gw_iinc C 10 [(8, .int x177), (6, .int x174), (5, .int x172), (10, .int x153), (9, .int x136), (0, .ref (ly_a L o)), (1, .int v1), (2, .int v2), (3, .int v3), (4, .int v4), (7, .int v7)] d_Mod_wedding_177 rfl (by rw [ex177]; rfl) (by decide) rfl ?_
              refine gw_goto C 99 d_Mod_wedding_180 (by decide) ?_
              exact gw_go [5, 6, 7, 8, 9, 2, 1, 10, 0] (ih99 (x172, x174, x177) (hb99.trans hf2.symm)) rfl
            · replace hf2 := mx_f hc hf2
              refine gw_iload C 1 d_Mod_wedding_164 rfl ?_
              refine gw_goto C 171 d_Mod_wedding_166 (by decide) ?_
              refine gw_iadd C d_Mod_wedding_171 ?_
              obtain ⟨x172, ex172, hf2⟩ := mx_lt hf2
              refine gw_topi ex172 ?_
              refine gw_istore C [(5, .int x172), (10, .int x153), (9, .int x136), (0, .ref (ly_a L o)), (1, .int v1), (2, .int v2), (3, .int v3), (4, .int v4), (6, .int v6), (7, .int v7), (8, .int v8)] d_Mod_wedding_172 (by decide) rfl ?_
              obtain ⟨x174, ex174, hf2⟩ := mx_lt hf2
              refine gw_iinc C 8 [(6, .int x174), (5, .int x172), (10, .int x153), (9, .int x136), (0, .ref (ly_a L o)), (1, .int v1), (2, .int v2), (3, .int v3), (4, .int v4), (7, .int v7), (8, .int v8)] d_Mod_wedding_174 rfl (by rw [ex174]; rfl) (by decide) rfl ?_
              obtain ⟨x177, ex177, hf2⟩ := mx_lt hf2
              refine gw_iinc C 10 [(8, .int x177), (6, .int x174), (5, .int x172), (10, .int x153), (9, .int x136), (0, .ref (ly_a L o)), (1, .int v1), (2, .int v2), (3, .int v3), (4, .int v4), (7, .int v7)] d_Mod_wedding_177 rfl (by rw [ex177]; rfl) (by decide) rfl ?_
              refine gw_goto C 99 d_Mod_wedding_180 (by decide) ?_
              exact gw_go [5, 6, 7, 8, 9, 2, 1, 10, 0] (ih99 (x172, x174, x177) (hb99.trans hf2.symm)) rfl
        have hf2 := hb99
        unfold f_Mod_wedding_L99 at hf2
        refine gw_iload C 8 d_Mod_wedding_99 rfl ?_
        refine gw_iload_n C 3 d_Mod_wedding_101 rfl rfl ?_
        refine gw_if_ne C 112 d_Mod_wedding_102 (by decide) (fun hc => ?_) (fun hc => ?_)
        · replace hf2 := mx_f hc hf2
          refine gw_aload_n C 0 d_Mod_wedding_112 rfl rfl ?_
          refine gw_getA C 6 d_Mod_wedding_113 k_o_0 (by decide) i_Mod rfl rfl (by decide) qw_1171 rfl rfl (o + 2) rfl ?_
          refine gw_iconst C (0 : Int32) d_Mod_wedding_116 (by decide) ?_
          obtain ⟨x117, hx117, hf2⟩ := mx_bd hf2
          obtain ⟨gx117, ex117⟩ := mx_ldI hx117
          refine gw_iald C d_Mod_wedding_117 k_o_2 gx117 ex117 ?_
          exact gw_go [0, 1, 2, 3, 4, 5, 6, 7, 8] (hj118 _ _ _ _ _ hf2) rfl
        · replace hf2 := mx_t hc hf2
          refine gw_iload C 7 d_Mod_wedding_105 rfl ?_
          refine gw_iconst C (1 : Int32) d_Mod_wedding_107 (by decide) ?_
          refine gw_iadd C d_Mod_wedding_108 ?_
          refine gw_goto C 118 d_Mod_wedding_109 (by decide) ?_
          exact gw_go [0, 1, 2, 3, 4, 5, 6, 7, 8] (hj118 _ _ _ _ _ hf2) rfl
      have hf1 := hb73
      unfold f_Mod_wedding_L73 at hf1
      refine gw_iload C 7 d_Mod_wedding_73 rfl ?_
      refine gw_aload_n C 0 d_Mod_wedding_75 rfl rfl ?_
      refine gw_getA C 6 d_Mod_wedding_76 k_o_0 (by decide) i_Mod rfl rfl (by decide) qw_1171 rfl rfl (o + 2) rfl ?_
      refine gw_iconst C (0 : Int32) d_Mod_wedding_79 (by decide) ?_
      obtain ⟨x80, hx80, hf1⟩ := mx_bd hf1
      obtain ⟨gx80, ex80⟩ := mx_ldI hx80
      refine gw_iald C d_Mod_wedding_80 k_o_2 gx80 ex80 ?_
      refine gw_icmp_ge C 189 d_Mod_wedding_81 (by decide) (fun hc => ?_) (fun hc => ?_)
      · replace hf1 := mx_t hc hf1
        exact gw_go [4, 5, 6] (hk73 (s73.1, s73.2.1) (hx73 _ (hb73.trans hf1.symm)).symm) rfl
      · replace hf1 := mx_f hc hf1
        refine gw_iload_n C 3 d_Mod_wedding_84 rfl rfl ?_
        refine gw_if_ne C 93 d_Mod_wedding_85 (by decide) (fun hc => ?_) (fun hc => ?_)
        · replace hf1 := mx_f hc hf1
          refine gw_iload C 7 d_Mod_wedding_93 rfl ?_
          refine gw_iconst C (1 : Int32) d_Mod_wedding_95 (by decide) ?_
          refine gw_iadd C d_Mod_wedding_96 ?_
          exact gw_go [0, 1, 2, 3, 4, 5, 6, 7] (hj97 _ _ _ _ hf1) rfl
        · replace hf1 := mx_t hc hf1
          refine gw_iload C 7 d_Mod_wedding_88 rfl ?_
          refine gw_goto C 97 d_Mod_wedding_90 (by decide) ?_
          exact gw_go [0, 1, 2, 3, 4, 5, 6, 7] (hj97 _ _ _ _ hf1) rfl
    · replace hf0 := mx_f hc hf0
      refine gw_iconst C (0 : Int32) d_Mod_wedding_62 (by decide) ?_
      exact en_i hN hf0 d_Mod_wedding_63
  refine gw_aload_n C 0 d_Mod_wedding_0 rfl rfl ?_
  refine gw_aload_n C 0 d_Mod_wedding_1 rfl rfl ?_
  refine gw_iload_n C 1 d_Mod_wedding_2 rfl rfl ?_
  obtain ⟨q3, hq3, hf0⟩ := mx_bd hf0
  refine gw_callI C (c_Mod_isHouse _ hg k_o_0 hq3) d_Mod_wedding_3 1 qw_1410 qw_1412 qs_57 qw_12 qw_1413 k_o_0 (by decide) rfl hd_Mod_isHouse rfl rfl (Nat.le_of_ble_eq_true rfl) ⟨rfl, rfl, Nat.le_of_ble_eq_true rfl, Nat.le_of_ble_eq_true rfl⟩ ⟨Nat.zero_le _, Nat.zero_le _⟩ ?_
  refine gw_if_eq C 51 d_Mod_wedding_6 (by decide) (fun hc => ?_) (fun hc => ?_)
  · replace hf0 := mx_t hc hf0
    refine gw_iconst C (1 : Int32) d_Mod_wedding_51 (by decide) ?_
    refine gw_goto C 56 d_Mod_wedding_52 (by decide) ?_
    exact gw_go [0, 1, 2, 3, 4] (hj56 _ _ _ _ _ _ hf0) rfl
  · replace hf0 := mx_f hc hf0
    refine gw_aload_n C 0 d_Mod_wedding_9 rfl rfl ?_
    refine gw_iload_n C 2 d_Mod_wedding_10 rfl rfl ?_
    obtain ⟨q11, hq11, hf0⟩ := mx_bd hf0
    refine gw_callI C (c_Mod_isHouse _ hg k_o_0 hq11) d_Mod_wedding_11 1 qw_1410 qw_1412 qs_57 qw_12 qw_1413 k_o_0 (by decide) rfl hd_Mod_isHouse rfl rfl (Nat.le_of_ble_eq_true rfl) ⟨rfl, rfl, Nat.le_of_ble_eq_true rfl, Nat.le_of_ble_eq_true rfl⟩ ⟨Nat.zero_le _, Nat.zero_le _⟩ ?_
    refine gw_if_eq C 51 d_Mod_wedding_14 (by decide) (fun hc => ?_) (fun hc => ?_)
    · replace hf0 := mx_t hc hf0
      refine gw_iconst C (1 : Int32) d_Mod_wedding_51 (by decide) ?_
      refine gw_goto C 56 d_Mod_wedding_52 (by decide) ?_
      exact gw_go [0, 1, 2, 3, 4] (hj56 _ _ _ _ _ _ hf0) rfl
    · replace hf0 := mx_f hc hf0
      refine gw_iload_n C 1 d_Mod_wedding_17 rfl rfl ?_
      refine gw_iload_n C 2 d_Mod_wedding_18 rfl rfl ?_
      refine gw_icmp_eq C 51 d_Mod_wedding_19 (by decide) (fun hc => ?_) (fun hc => ?_)
      · replace hf0 := mx_t hc hf0
        refine gw_iconst C (1 : Int32) d_Mod_wedding_51 (by decide) ?_
        refine gw_goto C 56 d_Mod_wedding_52 (by decide) ?_
        exact gw_go [0, 1, 2, 3, 4] (hj56 _ _ _ _ _ _ hf0) rfl
      · replace hf0 := mx_f hc hf0
        refine gw_iload_n C 3 d_Mod_wedding_22 rfl rfl ?_
        refine gw_iconst C (0 : Int32) d_Mod_wedding_23 (by decide) ?_
        refine gw_iconst C (1 : Int32) d_Mod_wedding_24 (by decide) ?_
        obtain ⟨q25, hq25, hf0⟩ := mx_bd hf0
        refine gw_callIS C (c_Mod_isIn _ hg hq25) d_Mod_wedding_25 3 qw_1356 qw_1357 qw_12 qw_1358 hd_Mod_isIn rfl rfl (Nat.le_of_ble_eq_true rfl) ⟨rfl, rfl, Nat.le_of_ble_eq_true rfl, Nat.le_of_ble_eq_true rfl⟩ ⟨Nat.zero_le _, Nat.zero_le _⟩ ?_
        refine gw_if_eq C 51 d_Mod_wedding_28 (by decide) (fun hc => ?_) (fun hc => ?_)
        · replace hf0 := mx_t hc hf0
          refine gw_iconst C (1 : Int32) d_Mod_wedding_51 (by decide) ?_
          refine gw_goto C 56 d_Mod_wedding_52 (by decide) ?_
          exact gw_go [0, 1, 2, 3, 4] (hj56 _ _ _ _ _ _ hf0) rfl
        · replace hf0 := mx_f hc hf0
          refine gw_iload C 4 d_Mod_wedding_31 rfl ?_
          refine gw_iconst C (0 : Int32) d_Mod_wedding_33 (by decide) ?_
          refine gw_iconst C (1 : Int32) d_Mod_wedding_34 (by decide) ?_
          obtain ⟨q35, hq35, hf0⟩ := mx_bd hf0
          refine gw_callIS C (c_Mod_isIn _ hg hq35) d_Mod_wedding_35 3 qw_1356 qw_1357 qw_12 qw_1358 hd_Mod_isIn rfl rfl (Nat.le_of_ble_eq_true rfl) ⟨rfl, rfl, Nat.le_of_ble_eq_true rfl, Nat.le_of_ble_eq_true rfl⟩ ⟨Nat.zero_le _, Nat.zero_le _⟩ ?_
          refine gw_if_eq C 51 d_Mod_wedding_38 (by decide) (fun hc => ?_) (fun hc => ?_)
          · replace hf0 := mx_t hc hf0
            refine gw_iconst C (1 : Int32) d_Mod_wedding_51 (by decide) ?_
            refine gw_goto C 56 d_Mod_wedding_52 (by decide) ?_
            exact gw_go [0, 1, 2, 3, 4] (hj56 _ _ _ _ _ _ hf0) rfl
          · replace hf0 := mx_f hc hf0
            refine gw_aload_n C 0 d_Mod_wedding_41 rfl rfl ?_
            refine gw_getA C 6 d_Mod_wedding_42 k_o_0 (by decide) i_Mod rfl rfl (by decide) qw_1171 rfl rfl (o + 2) rfl ?_
            refine gw_iconst C (0 : Int32) d_Mod_wedding_45 (by decide) ?_
            obtain ⟨x46, hx46, hf0⟩ := mx_bd hf0
            obtain ⟨gx46, ex46⟩ := mx_ldI hx46
            refine gw_iald C d_Mod_wedding_46 k_o_2 gx46 ex46 ?_
            refine gw_iconst C (2 : Int32) d_Mod_wedding_47 (by decide) ?_
            refine gw_icmp_ge C 55 d_Mod_wedding_48 (by decide) (fun hc => ?_) (fun hc => ?_)
            · replace hf0 := mx_t hc hf0
              refine gw_iconst C (0 : Int32) d_Mod_wedding_55 (by decide) ?_
              exact gw_go [0, 1, 2, 3, 4] (hj56 _ _ _ _ _ _ hf0) rfl
            · replace hf0 := mx_f hc hf0
              refine gw_iconst C (1 : Int32) d_Mod_wedding_51 (by decide) ?_
              refine gw_goto C 56 d_Mod_wedding_52 (by decide) ?_
              exact gw_go [0, 1, 2, 3, 4] (hj56 _ _ _ _ _ _ hf0) rfl

/-! NameHatModel.areFoes(II)Z -/
abbrev b_Mod_areFoes : ByteArray := prog_14_method_68_code
def y_Mod_areFoes : MethodName := ⟨"NameHatModel", "areFoes", "(II)Z"⟩
abbrev rm_Mod_areFoes : Room := { frames := 1, cells := 0, slots := 0, locals := 21 }
theorem hd_Mod_areFoes : y_Mod_areFoes.cls ≠ "java/lang/invoke/MethodHandle" ∧ y_Mod_areFoes.cls ≠ "java/lang/invoke/VarHandle" ∧ (parseMethodDescriptor y_Mod_areFoes.desc).map (fun d => d.parameters.length) = some 2 := by decide +kernel
theorem d_Mod_areFoes_0 : decode b_Mod_areFoes 0 = .ok (.aload_n 0, 1) := by decide +kernel
theorem d_Mod_areFoes_1 : decode b_Mod_areFoes 1 = .ok (.getfield 33, 3) := by decide +kernel
theorem d_Mod_areFoes_4 : decode b_Mod_areFoes 4 = .ok (.bipush 123, 2) := by decide +kernel
theorem d_Mod_areFoes_6 : decode b_Mod_areFoes 6 = .ok (.iload_n 1, 1) := by decide +kernel
theorem d_Mod_areFoes_7 : decode b_Mod_areFoes 7 = .ok (.iadd, 1) := by decide +kernel
theorem d_Mod_areFoes_8 : decode b_Mod_areFoes 8 = .ok (.iaload, 1) := by decide +kernel
theorem d_Mod_areFoes_9 : decode b_Mod_areFoes 9 = .ok (.ifCond .lt 51, 3) := by decide +kernel
theorem d_Mod_areFoes_12 : decode b_Mod_areFoes 12 = .ok (.aload_n 0, 1) := by decide +kernel
theorem d_Mod_areFoes_13 : decode b_Mod_areFoes 13 = .ok (.getfield 33, 3) := by decide +kernel
theorem d_Mod_areFoes_16 : decode b_Mod_areFoes 16 = .ok (.bipush 123, 2) := by decide +kernel
theorem d_Mod_areFoes_18 : decode b_Mod_areFoes 18 = .ok (.iload_n 2, 1) := by decide +kernel
theorem d_Mod_areFoes_19 : decode b_Mod_areFoes 19 = .ok (.iadd, 1) := by decide +kernel
theorem d_Mod_areFoes_20 : decode b_Mod_areFoes 20 = .ok (.iaload, 1) := by decide +kernel
theorem d_Mod_areFoes_21 : decode b_Mod_areFoes 21 = .ok (.ifCond .lt 39, 3) := by decide +kernel
theorem d_Mod_areFoes_24 : decode b_Mod_areFoes 24 = .ok (.aload_n 0, 1) := by decide +kernel
theorem d_Mod_areFoes_25 : decode b_Mod_areFoes 25 = .ok (.getfield 33, 3) := by decide +kernel
theorem d_Mod_areFoes_28 : decode b_Mod_areFoes 28 = .ok (.bipush 25, 2) := by decide +kernel
theorem d_Mod_areFoes_30 : decode b_Mod_areFoes 30 = .ok (.aload_n 0, 1) := by decide +kernel
theorem d_Mod_areFoes_31 : decode b_Mod_areFoes 31 = .ok (.getfield 33, 3) := by decide +kernel
theorem d_Mod_areFoes_34 : decode b_Mod_areFoes 34 = .ok (.bipush 123, 2) := by decide +kernel
theorem d_Mod_areFoes_36 : decode b_Mod_areFoes 36 = .ok (.iload_n 1, 1) := by decide +kernel
theorem d_Mod_areFoes_37 : decode b_Mod_areFoes 37 = .ok (.iadd, 1) := by decide +kernel
theorem d_Mod_areFoes_38 : decode b_Mod_areFoes 38 = .ok (.iaload, 1) := by decide +kernel
theorem d_Mod_areFoes_39 : decode b_Mod_areFoes 39 = .ok (.iadd, 1) := by decide +kernel
theorem d_Mod_areFoes_40 : decode b_Mod_areFoes 40 = .ok (.iaload, 1) := by decide +kernel
theorem d_Mod_areFoes_41 : decode b_Mod_areFoes 41 = .ok (.aload_n 0, 1) := by decide +kernel
theorem d_Mod_areFoes_42 : decode b_Mod_areFoes 42 = .ok (.getfield 33, 3) := by decide +kernel
theorem d_Mod_areFoes_45 : decode b_Mod_areFoes 45 = .ok (.bipush 123, 2) := by decide +kernel
theorem d_Mod_areFoes_47 : decode b_Mod_areFoes 47 = .ok (.iload_n 2, 1) := by decide +kernel
theorem d_Mod_areFoes_48 : decode b_Mod_areFoes 48 = .ok (.iadd, 1) := by decide +kernel
theorem d_Mod_areFoes_49 : decode b_Mod_areFoes 49 = .ok (.iaload, 1) := by decide +kernel
theorem d_Mod_areFoes_50 : decode b_Mod_areFoes 50 = .ok (.invokestatic 217, 3) := by decide +kernel
theorem d_Mod_areFoes_53 : decode b_Mod_areFoes 53 = .ok (.ifCond .eq 7, 3) := by decide +kernel
theorem d_Mod_areFoes_56 : decode b_Mod_areFoes 56 = .ok (.iconst 1, 1) := by decide +kernel
theorem d_Mod_areFoes_57 : decode b_Mod_areFoes 57 = .ok (.goto 4, 3) := by decide +kernel
theorem d_Mod_areFoes_60 : decode b_Mod_areFoes 60 = .ok (.iconst 0, 1) := by decide +kernel
theorem d_Mod_areFoes_61 : decode b_Mod_areFoes 61 = .ok (.ireturn, 1) := by decide +kernel
noncomputable def f_Mod_areFoes (z : Nat → Nat) (σ : Mm) (o : Nat) (p1 : Int32) (p2 : Int32) : Option (Int32) :=
  (mm_ldI (σ.1 (o + 2)) (z (o + 2)) ((123 : Int32) + p1)).bind fun x8 =>
  if x8 < 0 then (
    some (0 : Int32)
  ) else (
    (mm_ldI (σ.1 (o + 2)) (z (o + 2)) ((123 : Int32) + p2)).bind fun x20 =>
    if x20 < 0 then (
      some (0 : Int32)
    ) else (
      (mm_ldI (σ.1 (o + 2)) (z (o + 2)) ((123 : Int32) + p1)).bind fun x38 =>
      (mm_ldI (σ.1 (o + 2)) (z (o + 2)) ((25 : Int32) + x38)).bind fun x40 =>
      (mm_ldI (σ.1 (o + 2)) (z (o + 2)) ((123 : Int32) + p2)).bind fun x49 =>
      (f_Mod_has z σ x40 x49).bind fun q50 =>
      if q50 = 0 then (
        some (0 : Int32)
      ) else (
        some (1 : Int32)
      )
    )
  )
set_option maxHeartbeats 4000000 in
set_option maxRecDepth 100000 in
theorem c_Mod_areFoes (l : Launch) {L : Ly} (hg : gd_ok L) {σ : Mm} {o : Nat} {p1 : Int32} {p2 : Int32} (k_o_0 : ly_k L o = 11) {res : Int32} (hf0 : f_Mod_areFoes (ly_z L) σ o p1 p2 = some res) : CtI l y_Mod_areFoes b_Mod_areFoes 3 (some .boolean) rm_Mod_areFoes L [.ref (ly_a L o), .int p1, .int p2] σ res σ := by
  refine ct_z hg (by decide) (Nat.le_of_ble_eq_true rfl) ?_
  intro E A Q hE C hN
  subst hE
  have k_o_2 : ly_k L (o + 2) = 20 := gd_Mod_s hg k_o_0
  unfold f_Mod_areFoes at hf0
  show GW E L A 3 0 0 Q σ 0 [(0, .ref (ly_a L o)), (1, .int p1), (2, .int p2)] []
  refine gw_aload_n C 0 d_Mod_areFoes_0 rfl rfl ?_
  refine gw_getA C 6 d_Mod_areFoes_1 k_o_0 (by decide) i_Mod rfl rfl (by decide) qw_1171 rfl rfl (o + 2) rfl ?_
  refine gw_bipush C (123 : Int32) d_Mod_areFoes_4 (by decide) ?_
  refine gw_iload_n C 1 d_Mod_areFoes_6 rfl rfl ?_
  refine gw_iadd C d_Mod_areFoes_7 ?_
  obtain ⟨x8, hx8, hf0⟩ := mx_bd hf0
  obtain ⟨gx8, ex8⟩ := mx_ldI hx8
  refine gw_iald C d_Mod_areFoes_8 k_o_2 gx8 ex8 ?_
  refine gw_if_lt C 60 d_Mod_areFoes_9 (by decide) (fun hc => ?_) (fun hc => ?_)
  · replace hf0 := mx_t hc hf0
    refine gw_iconst C (0 : Int32) d_Mod_areFoes_60 (by decide) ?_
    exact en_zp hN (Or.inl rfl) hf0 d_Mod_areFoes_61
  · replace hf0 := mx_f hc hf0
    refine gw_aload_n C 0 d_Mod_areFoes_12 rfl rfl ?_
    refine gw_getA C 6 d_Mod_areFoes_13 k_o_0 (by decide) i_Mod rfl rfl (by decide) qw_1171 rfl rfl (o + 2) rfl ?_
    refine gw_bipush C (123 : Int32) d_Mod_areFoes_16 (by decide) ?_
    refine gw_iload_n C 2 d_Mod_areFoes_18 rfl rfl ?_
    refine gw_iadd C d_Mod_areFoes_19 ?_
    obtain ⟨x20, hx20, hf0⟩ := mx_bd hf0
    obtain ⟨gx20, ex20⟩ := mx_ldI hx20
    refine gw_iald C d_Mod_areFoes_20 k_o_2 gx20 ex20 ?_
    refine gw_if_lt C 60 d_Mod_areFoes_21 (by decide) (fun hc => ?_) (fun hc => ?_)
    · replace hf0 := mx_t hc hf0
      refine gw_iconst C (0 : Int32) d_Mod_areFoes_60 (by decide) ?_
      exact en_zp hN (Or.inl rfl) hf0 d_Mod_areFoes_61
    · replace hf0 := mx_f hc hf0
      refine gw_aload_n C 0 d_Mod_areFoes_24 rfl rfl ?_
      refine gw_getA C 6 d_Mod_areFoes_25 k_o_0 (by decide) i_Mod rfl rfl (by decide) qw_1171 rfl rfl (o + 2) rfl ?_
      refine gw_bipush C (25 : Int32) d_Mod_areFoes_28 (by decide) ?_
      refine gw_aload_n C 0 d_Mod_areFoes_30 rfl rfl ?_
      refine gw_getA C 6 d_Mod_areFoes_31 k_o_0 (by decide) i_Mod rfl rfl (by decide) qw_1171 rfl rfl (o + 2) rfl ?_
      refine gw_bipush C (123 : Int32) d_Mod_areFoes_34 (by decide) ?_
      refine gw_iload_n C 1 d_Mod_areFoes_36 rfl rfl ?_
      refine gw_iadd C d_Mod_areFoes_37 ?_
      obtain ⟨x38, hx38, hf0⟩ := mx_bd hf0
      obtain ⟨gx38, ex38⟩ := mx_ldI hx38
      refine gw_iald C d_Mod_areFoes_38 k_o_2 gx38 ex38 ?_
      refine gw_iadd C d_Mod_areFoes_39 ?_
      obtain ⟨x40, hx40, hf0⟩ := mx_bd hf0
      obtain ⟨gx40, ex40⟩ := mx_ldI hx40
      refine gw_iald C d_Mod_areFoes_40 k_o_2 gx40 ex40 ?_
      refine gw_aload_n C 0 d_Mod_areFoes_41 rfl rfl ?_
      refine gw_getA C 6 d_Mod_areFoes_42 k_o_0 (by decide) i_Mod rfl rfl (by decide) qw_1171 rfl rfl (o + 2) rfl ?_
      refine gw_bipush C (123 : Int32) d_Mod_areFoes_45 (by decide) ?_
      refine gw_iload_n C 2 d_Mod_areFoes_47 rfl rfl ?_
      refine gw_iadd C d_Mod_areFoes_48 ?_
      obtain ⟨x49, hx49, hf0⟩ := mx_bd hf0
      obtain ⟨gx49, ex49⟩ := mx_ldI hx49
      refine gw_iald C d_Mod_areFoes_49 k_o_2 gx49 ex49 ?_
      obtain ⟨q50, hq50, hf0⟩ := mx_bd hf0
      refine gw_callIS C (c_Mod_has _ hg hq50) d_Mod_areFoes_50 2 qw_1375 qw_1376 qw_12 qw_1377 hd_Mod_has rfl rfl (Nat.le_of_ble_eq_true rfl) ⟨rfl, rfl, Nat.le_of_ble_eq_true rfl, Nat.le_of_ble_eq_true rfl⟩ ⟨Nat.zero_le _, Nat.zero_le _⟩ ?_
      refine gw_if_eq C 60 d_Mod_areFoes_53 (by decide) (fun hc => ?_) (fun hc => ?_)
      · replace hf0 := mx_t hc hf0
        refine gw_iconst C (0 : Int32) d_Mod_areFoes_60 (by decide) ?_
        exact en_zp hN (Or.inl rfl) hf0 d_Mod_areFoes_61
      · replace hf0 := mx_f hc hf0
        refine gw_iconst C (1 : Int32) d_Mod_areFoes_56 (by decide) ?_
        refine gw_goto C 61 d_Mod_areFoes_57 (by decide) ?_
        exact en_zp hN (Or.inr rfl) hf0 d_Mod_areFoes_61

/-! NameHatModel.broken()I -/
abbrev b_Mod_broken : ByteArray := prog_14_method_69_code
def y_Mod_broken : MethodName := ⟨"NameHatModel", "broken", "()I"⟩
abbrev rm_Mod_broken : Room := { frames := 2, cells := 0, slots := 0, locals := 43 }
theorem hd_Mod_broken : y_Mod_broken.cls ≠ "java/lang/invoke/MethodHandle" ∧ y_Mod_broken.cls ≠ "java/lang/invoke/VarHandle" ∧ (parseMethodDescriptor y_Mod_broken.desc).map (fun d => d.parameters.length) = some 0 := by decide +kernel
theorem d_Mod_broken_0 : decode b_Mod_broken 0 = .ok (.aload_n 0, 1) := by decide +kernel
theorem d_Mod_broken_1 : decode b_Mod_broken 1 = .ok (.iconst 0, 1) := by decide +kernel
theorem d_Mod_broken_2 : decode b_Mod_broken 2 = .ok (.putfield 1, 3) := by decide +kernel
theorem d_Mod_broken_5 : decode b_Mod_broken 5 = .ok (.iconst 0, 1) := by decide +kernel
theorem d_Mod_broken_6 : decode b_Mod_broken 6 = .ok (.istore_n 1, 1) := by decide +kernel
theorem d_Mod_broken_7 : decode b_Mod_broken 7 = .ok (.iconst 0, 1) := by decide +kernel
theorem d_Mod_broken_8 : decode b_Mod_broken 8 = .ok (.istore_n 2, 1) := by decide +kernel
theorem d_Mod_broken_9 : decode b_Mod_broken 9 = .ok (.iload_n 2, 1) := by decide +kernel
theorem d_Mod_broken_10 : decode b_Mod_broken 10 = .ok (.aload_n 0, 1) := by decide +kernel
theorem d_Mod_broken_11 : decode b_Mod_broken 11 = .ok (.getfield 33, 3) := by decide +kernel
theorem d_Mod_broken_14 : decode b_Mod_broken 14 = .ok (.iconst 1, 1) := by decide +kernel
theorem d_Mod_broken_15 : decode b_Mod_broken 15 = .ok (.iaload, 1) := by decide +kernel
theorem d_Mod_broken_16 : decode b_Mod_broken 16 = .ok (.if_icmp .ge 67, 3) := by decide +kernel
theorem d_Mod_broken_19 : decode b_Mod_broken 19 = .ok (.iload_n 2, 1) := by decide +kernel
theorem d_Mod_broken_20 : decode b_Mod_broken 20 = .ok (.iconst 1, 1) := by decide +kernel
theorem d_Mod_broken_21 : decode b_Mod_broken 21 = .ok (.iadd, 1) := by decide +kernel
theorem d_Mod_broken_22 : decode b_Mod_broken 22 = .ok (.istore_n 3, 1) := by decide +kernel
theorem d_Mod_broken_23 : decode b_Mod_broken 23 = .ok (.iload_n 3, 1) := by decide +kernel
theorem d_Mod_broken_24 : decode b_Mod_broken 24 = .ok (.aload_n 0, 1) := by decide +kernel
theorem d_Mod_broken_25 : decode b_Mod_broken 25 = .ok (.getfield 33, 3) := by decide +kernel
theorem d_Mod_broken_28 : decode b_Mod_broken 28 = .ok (.iconst 1, 1) := by decide +kernel
theorem d_Mod_broken_29 : decode b_Mod_broken 29 = .ok (.iaload, 1) := by decide +kernel
theorem d_Mod_broken_30 : decode b_Mod_broken 30 = .ok (.if_icmp .ge 47, 3) := by decide +kernel
theorem d_Mod_broken_33 : decode b_Mod_broken 33 = .ok (.iload_n 1, 1) := by decide +kernel
theorem d_Mod_broken_34 : decode b_Mod_broken 34 = .ok (.aload_n 0, 1) := by decide +kernel
theorem d_Mod_broken_35 : decode b_Mod_broken 35 = .ok (.getfield 33, 3) := by decide +kernel
theorem d_Mod_broken_38 : decode b_Mod_broken 38 = .ok (.bipush 115, 2) := by decide +kernel
theorem d_Mod_broken_40 : decode b_Mod_broken 40 = .ok (.iload_n 2, 1) := by decide +kernel
theorem d_Mod_broken_41 : decode b_Mod_broken 41 = .ok (.iadd, 1) := by decide +kernel
theorem d_Mod_broken_42 : decode b_Mod_broken 42 = .ok (.iaload, 1) := by decide +kernel
theorem d_Mod_broken_43 : decode b_Mod_broken 43 = .ok (.aload_n 0, 1) := by decide +kernel
theorem d_Mod_broken_44 : decode b_Mod_broken 44 = .ok (.getfield 33, 3) := by decide +kernel
theorem d_Mod_broken_47 : decode b_Mod_broken 47 = .ok (.bipush 115, 2) := by decide +kernel
theorem d_Mod_broken_49 : decode b_Mod_broken 49 = .ok (.iload_n 3, 1) := by decide +kernel
theorem d_Mod_broken_50 : decode b_Mod_broken 50 = .ok (.iadd, 1) := by decide +kernel
theorem d_Mod_broken_51 : decode b_Mod_broken 51 = .ok (.iaload, 1) := by decide +kernel
theorem d_Mod_broken_52 : decode b_Mod_broken 52 = .ok (.if_icmp .ne 16, 3) := by decide +kernel
theorem d_Mod_broken_55 : decode b_Mod_broken 55 = .ok (.aload_n 0, 1) := by decide +kernel
theorem d_Mod_broken_56 : decode b_Mod_broken 56 = .ok (.iload_n 2, 1) := by decide +kernel
theorem d_Mod_broken_57 : decode b_Mod_broken 57 = .ok (.iload_n 3, 1) := by decide +kernel
theorem d_Mod_broken_58 : decode b_Mod_broken 58 = .ok (.invokevirtual 320, 3) := by decide +kernel
theorem d_Mod_broken_61 : decode b_Mod_broken 61 = .ok (.ifCond .eq 7, 3) := by decide +kernel
theorem d_Mod_broken_64 : decode b_Mod_broken 64 = .ok (.iconst 1, 1) := by decide +kernel
theorem d_Mod_broken_65 : decode b_Mod_broken 65 = .ok (.goto 4, 3) := by decide +kernel
theorem d_Mod_broken_68 : decode b_Mod_broken 68 = .ok (.iconst 0, 1) := by decide +kernel
theorem d_Mod_broken_69 : decode b_Mod_broken 69 = .ok (.iadd, 1) := by decide +kernel
theorem d_Mod_broken_70 : decode b_Mod_broken 70 = .ok (.istore_n 1, 1) := by decide +kernel
theorem d_Mod_broken_71 : decode b_Mod_broken 71 = .ok (.iinc 3 1, 3) := by decide +kernel
theorem d_Mod_broken_74 : decode b_Mod_broken 74 = .ok (.goto (-51), 3) := by decide +kernel
theorem d_Mod_broken_77 : decode b_Mod_broken 77 = .ok (.iinc 2 1, 3) := by decide +kernel
theorem d_Mod_broken_80 : decode b_Mod_broken 80 = .ok (.goto (-71), 3) := by decide +kernel
theorem d_Mod_broken_83 : decode b_Mod_broken 83 = .ok (.iload_n 1, 1) := by decide +kernel
theorem d_Mod_broken_84 : decode b_Mod_broken 84 = .ok (.ireturn, 1) := by decide +kernel
noncomputable def f_Mod_broken_L23 (z : Nat → Nat) (σ : Mm) (o : Nat) (v2 : Int32) (s23 : Int32 × Int32) : Option ((Int32 × Int32) ⊕ (Int32)) :=
  (mm_ldI (σ.1 (o + 2)) (z (o + 2)) (1 : Int32)).bind fun x29 =>
  if x29 ≤ s23.2 then (
    some (.inr s23.1)
  ) else (
    (mm_ldI (σ.1 (o + 2)) (z (o + 2)) ((115 : Int32) + v2)).bind fun x42 =>
    (mm_ldI (σ.1 (o + 2)) (z (o + 2)) ((115 : Int32) + s23.2)).bind fun x51 =>
    if x42 = x51 then (
      (f_Mod_areFoes z σ o v2 s23.2).bind fun q58 =>
      if q58 = 0 then (
        mm_lt ((s23.1 + (0 : Int32))) fun x70 =>
        mm_lt (s23.2 + (1 : Int32)) fun x71 =>
        some (.inl (x70, x71))
      ) else (
        mm_lt ((s23.1 + (1 : Int32))) fun x70 =>
        mm_lt (s23.2 + (1 : Int32)) fun x71 =>
        some (.inl (x70, x71))
      )
    ) else (
      mm_lt ((s23.1 + (0 : Int32))) fun x70 =>
      mm_lt (s23.2 + (1 : Int32)) fun x71 =>
      some (.inl (x70, x71))
    )
  )
noncomputable def f_Mod_broken_L9 (z : Nat → Nat) (σ : Mm) (o : Nat) (s9 : Int32 × Int32) : Option ((Int32 × Int32) ⊕ (Int32)) :=
  (mm_ldI (σ.1 (o + 2)) (z (o + 2)) (1 : Int32)).bind fun x15 =>
  if x15 ≤ s9.2 then (
    some (.inr s9.1)
  ) else (
    mm_lt ((s9.2 + (1 : Int32))) fun x22 =>
    (mm_lp (f_Mod_broken_L23 z σ o s9.2) (s9.1, x22)).bind (fun q23 =>
      mm_lt (s9.2 + (1 : Int32)) fun x77 =>
      some (.inl (q23, x77)))
  )
noncomputable def f_Mod_broken (z : Nat → Nat) (σ : Mm) (o : Nat) : Option (Int32 × Mm) :=
  mm_lt (kI σ o 0 (0 : Int32)) fun m2 =>
  (mm_lp (f_Mod_broken_L9 z m2 o) ((0 : Int32), (0 : Int32))).bind (fun q9 =>
    some (q9, m2))
set_option maxHeartbeats 4000000 in
set_option maxRecDepth 100000 in
theorem c_Mod_broken (l : Launch) {L : Ly} (hg : gd_ok L) {σ : Mm} {o : Nat} (k_o_0 : ly_k L o = 11) {res : Int32 × Mm} (hf0 : f_Mod_broken (ly_z L) σ o = some res) : CtI l y_Mod_broken b_Mod_broken 4 (some .int) rm_Mod_broken L [.ref (ly_a L o)] σ res.1 res.2 := by
  refine ct_i hg (by decide) (Nat.le_of_ble_eq_true rfl) ?_
  intro E A Q hE C hN
  subst hE
  have k_o_2 : ly_k L (o + 2) = 20 := gd_Mod_s hg k_o_0
  unfold f_Mod_broken at hf0
  show GW E L A 4 0 0 Q σ 0 [(0, .ref (ly_a L o))] []
  refine gw_aload_n C 0 d_Mod_broken_0 rfl rfl ?_
  refine gw_iconst C (0 : Int32) d_Mod_broken_1 (by decide) ?_
  obtain ⟨m2, em2, hf0⟩ := mx_lt hf0
  refine gw_putI t_Mod C 0 d_Mod_broken_2 k_o_0 (by decide) i_Mod rfl rfl (by decide) qw_1165 rfl rfl t_Mod_ok n_Mod rfl (t_Mod_ok 0 (by decide)) rfl rfl em2 ?_
  refine gw_iconst C (0 : Int32) d_Mod_broken_5 (by decide) ?_
  refine gw_istore_n C [(1, .int (0 : Int32)), (0, .ref (ly_a L o))] d_Mod_broken_6 rfl (by decide) rfl ?_
  refine gw_iconst C (0 : Int32) d_Mod_broken_7 (by decide) ?_
  refine gw_istore_n C [(2, .int (0 : Int32)), (1, .int (0 : Int32)), (0, .ref (ly_a L o))] d_Mod_broken_8 rfl (by decide) rfl ?_
  obtain ⟨q9, hq9, hf0⟩ := mx_bd hf0
  have hk9 : ∀ x9, q9 = x9 → GW E L A 4 0 0 Q m2 83 [(1, .int x9)] [] := by
    intro x9 hx9
    subst hx9
    refine gw_iload_n C 0 d_Mod_broken_83 rfl rfl ?_
    exact en_i hN hf0 d_Mod_broken_84
  refine gw_sub [2, 1, 0] (lv' := [(0, .ref (ly_a L o)), (1, .int (0 : Int32)), (2, .int (0 : Int32))]) rfl ?_
  refine mm_rule hq9 (P := fun (s9 : Int32 × Int32) => GW E L A 4 0 0 Q m2 9 [(0, .ref (ly_a L o)), (1, .int s9.1), (2, .int s9.2)] []) ?_
  intro s9 ih9 hx9 ⟨w9, hb9⟩
  have hf1 := hb9
  unfold f_Mod_broken_L9 at hf1
  refine gw_iload_n C 2 d_Mod_broken_9 rfl rfl ?_
  refine gw_aload_n C 0 d_Mod_broken_10 rfl rfl ?_
  refine gw_getA C 6 d_Mod_broken_11 k_o_0 (by decide) i_Mod rfl rfl (by decide) qw_1171 rfl rfl (o + 2) rfl ?_
  refine gw_iconst C (1 : Int32) d_Mod_broken_14 (by decide) ?_
  obtain ⟨x15, hx15, hf1⟩ := mx_bd hf1
  obtain ⟨gx15, ex15⟩ := mx_ldI hx15
  refine gw_iald C d_Mod_broken_15 k_o_2 gx15 ex15 ?_
  refine gw_icmp_ge C 83 d_Mod_broken_16 (by decide) (fun hc => ?_) (fun hc => ?_)
  · replace hf1 := mx_t hc hf1
    exact gw_go [1] (hk9 s9.1 (hx9 _ (hb9.trans hf1.symm)).symm) rfl
  · replace hf1 := mx_f hc hf1
    refine gw_iload_n C 2 d_Mod_broken_19 rfl rfl ?_
    refine gw_iconst C (1 : Int32) d_Mod_broken_20 (by decide) ?_
    refine gw_iadd C d_Mod_broken_21 ?_
    obtain ⟨x22, ex22, hf1⟩ := mx_lt hf1
    refine gw_topi ex22 ?_
    refine gw_istore_n C [(3, .int x22), (0, .ref (ly_a L o)), (1, .int s9.1), (2, .int s9.2)] d_Mod_broken_22 rfl (by decide) rfl ?_
    obtain ⟨q23, hq23, hf1⟩ := mx_bd hf1
    have hk23 : ∀ x9, q23 = x9 → GW E L A 4 0 0 Q m2 77 [(0, .ref (ly_a L o)), (1, .int x9), (2, .int s9.2)] [] := by
      intro x9 hx9
      subst hx9
      obtain ⟨x77, ex77, hf1⟩ := mx_lt hf1
      refine gw_iinc C 2 [(2, .int x77), (0, .ref (ly_a L o)), (1, .int q23)] d_Mod_broken_77 rfl (by rw [ex77]; rfl) (by decide) rfl ?_
      refine gw_goto C 9 d_Mod_broken_80 (by decide) ?_
      exact gw_go [1, 2, 0] (ih9 (q23, x77) (hb9.trans hf1.symm)) rfl
    refine gw_sub [1, 2, 3, 0] (lv' := [(0, .ref (ly_a L o)), (1, .int s9.1), (2, .int s9.2), (3, .int x22)]) rfl ?_
    refine mm_rule hq23 (P := fun (s23 : Int32 × Int32) => GW E L A 4 0 0 Q m2 23 [(0, .ref (ly_a L o)), (1, .int s23.1), (2, .int s9.2), (3, .int s23.2)] []) ?_
    intro s23 ih23 hx23 ⟨w23, hb23⟩
    have hf2 := hb23
    unfold f_Mod_broken_L23 at hf2
    refine gw_iload_n C 3 d_Mod_broken_23 rfl rfl ?_
    refine gw_aload_n C 0 d_Mod_broken_24 rfl rfl ?_
    refine gw_getA C 6 d_Mod_broken_25 k_o_0 (by decide) i_Mod rfl rfl (by decide) qw_1171 rfl rfl (o + 2) rfl ?_
    refine gw_iconst C (1 : Int32) d_Mod_broken_28 (by decide) ?_
    obtain ⟨x29, hx29, hf2⟩ := mx_bd hf2
    obtain ⟨gx29, ex29⟩ := mx_ldI hx29
    refine gw_iald C d_Mod_broken_29 k_o_2 gx29 ex29 ?_
    refine gw_icmp_ge C 77 d_Mod_broken_30 (by decide) (fun hc => ?_) (fun hc => ?_)
    · replace hf2 := mx_t hc hf2
      exact gw_go [0, 1, 2] (hk23 s23.1 (hx23 _ (hb23.trans hf2.symm)).symm) rfl
    · replace hf2 := mx_f hc hf2
      refine gw_iload_n C 1 d_Mod_broken_33 rfl rfl ?_
      refine gw_aload_n C 0 d_Mod_broken_34 rfl rfl ?_
      refine gw_getA C 6 d_Mod_broken_35 k_o_0 (by decide) i_Mod rfl rfl (by decide) qw_1171 rfl rfl (o + 2) rfl ?_
      refine gw_bipush C (115 : Int32) d_Mod_broken_38 (by decide) ?_
      refine gw_iload_n C 2 d_Mod_broken_40 rfl rfl ?_
      refine gw_iadd C d_Mod_broken_41 ?_
      obtain ⟨x42, hx42, hf2⟩ := mx_bd hf2
      obtain ⟨gx42, ex42⟩ := mx_ldI hx42
      refine gw_iald C d_Mod_broken_42 k_o_2 gx42 ex42 ?_
      refine gw_aload_n C 0 d_Mod_broken_43 rfl rfl ?_
      refine gw_getA C 6 d_Mod_broken_44 k_o_0 (by decide) i_Mod rfl rfl (by decide) qw_1171 rfl rfl (o + 2) rfl ?_
      refine gw_bipush C (115 : Int32) d_Mod_broken_47 (by decide) ?_
      refine gw_iload_n C 3 d_Mod_broken_49 rfl rfl ?_
      refine gw_iadd C d_Mod_broken_50 ?_
      obtain ⟨x51, hx51, hf2⟩ := mx_bd hf2
      obtain ⟨gx51, ex51⟩ := mx_ldI hx51
      refine gw_iald C d_Mod_broken_51 k_o_2 gx51 ex51 ?_
      refine gw_icmp_ne C 68 d_Mod_broken_52 (by decide) (fun hc => ?_) (fun hc => ?_)
      · replace hf2 := mx_f hc hf2
        refine gw_iconst C (0 : Int32) d_Mod_broken_68 (by decide) ?_
        refine gw_iadd C d_Mod_broken_69 ?_
        obtain ⟨x70, ex70, hf2⟩ := mx_lt hf2
        refine gw_topi ex70 ?_
        refine gw_istore_n C [(1, .int x70), (0, .ref (ly_a L o)), (2, .int s9.2), (3, .int s23.2)] d_Mod_broken_70 rfl (by decide) rfl ?_
        obtain ⟨x71, ex71, hf2⟩ := mx_lt hf2
        refine gw_iinc C 3 [(3, .int x71), (1, .int x70), (0, .ref (ly_a L o)), (2, .int s9.2)] d_Mod_broken_71 rfl (by rw [ex71]; rfl) (by decide) rfl ?_
        refine gw_goto C 23 d_Mod_broken_74 (by decide) ?_
        exact gw_go [2, 1, 3, 0] (ih23 (x70, x71) (hb23.trans hf2.symm)) rfl
      · replace hf2 := mx_t hc hf2
        refine gw_aload_n C 0 d_Mod_broken_55 rfl rfl ?_
        refine gw_iload_n C 2 d_Mod_broken_56 rfl rfl ?_
        refine gw_iload_n C 3 d_Mod_broken_57 rfl rfl ?_
        obtain ⟨q58, hq58, hf2⟩ := mx_bd hf2
        refine gw_callI C (c_Mod_areFoes _ hg k_o_0 hq58) d_Mod_broken_58 2 qw_1544 qw_1546 qs_72 qw_12 qw_1547 k_o_0 (by decide) rfl hd_Mod_areFoes rfl rfl (Nat.le_of_ble_eq_true rfl) ⟨rfl, rfl, Nat.le_of_ble_eq_true rfl, Nat.le_of_ble_eq_true rfl⟩ ⟨Nat.zero_le _, Nat.zero_le _⟩ ?_
        refine gw_if_eq C 68 d_Mod_broken_61 (by decide) (fun hc => ?_) (fun hc => ?_)
        · replace hf2 := mx_t hc hf2
          refine gw_iconst C (0 : Int32) d_Mod_broken_68 (by decide) ?_
          refine gw_iadd C d_Mod_broken_69 ?_
          obtain ⟨x70, ex70, hf2⟩ := mx_lt hf2
          refine gw_topi ex70 ?_
          refine gw_istore_n C [(1, .int x70), (0, .ref (ly_a L o)), (2, .int s9.2), (3, .int s23.2)] d_Mod_broken_70 rfl (by decide) rfl ?_
          obtain ⟨x71, ex71, hf2⟩ := mx_lt hf2
          refine gw_iinc C 3 [(3, .int x71), (1, .int x70), (0, .ref (ly_a L o)), (2, .int s9.2)] d_Mod_broken_71 rfl (by rw [ex71]; rfl) (by decide) rfl ?_
          refine gw_goto C 23 d_Mod_broken_74 (by decide) ?_
          exact gw_go [2, 1, 3, 0] (ih23 (x70, x71) (hb23.trans hf2.symm)) rfl
        · replace hf2 := mx_f hc hf2
          refine gw_iconst C (1 : Int32) d_Mod_broken_64 (by decide) ?_
          refine gw_goto C 69 d_Mod_broken_65 (by decide) ?_
          refine gw_iadd C d_Mod_broken_69 ?_
          obtain ⟨x70, ex70, hf2⟩ := mx_lt hf2
          refine gw_topi ex70 ?_
          refine gw_istore_n C [(1, .int x70), (0, .ref (ly_a L o)), (2, .int s9.2), (3, .int s23.2)] d_Mod_broken_70 rfl (by decide) rfl ?_
          obtain ⟨x71, ex71, hf2⟩ := mx_lt hf2
          refine gw_iinc C 3 [(3, .int x71), (1, .int x70), (0, .ref (ly_a L o)), (2, .int s9.2)] d_Mod_broken_71 rfl (by rw [ex71]; rfl) (by decide) rfl ?_
          refine gw_goto C 23 d_Mod_broken_74 (by decide) ?_
          exact gw_go [2, 1, 3, 0] (ih23 (x70, x71) (hb23.trans hf2.symm)) rfl

/-! NameHatModel.canSit(I)Z -/
abbrev b_Mod_canSit : ByteArray := prog_14_method_70_code
def y_Mod_canSit : MethodName := ⟨"NameHatModel", "canSit", "(I)Z"⟩
abbrev rm_Mod_canSit : Room := { frames := 2, cells := 0, slots := 0, locals := 43 }
theorem hd_Mod_canSit : y_Mod_canSit.cls ≠ "java/lang/invoke/MethodHandle" ∧ y_Mod_canSit.cls ≠ "java/lang/invoke/VarHandle" ∧ (parseMethodDescriptor y_Mod_canSit.desc).map (fun d => d.parameters.length) = some 1 := by decide +kernel
theorem d_Mod_canSit_0 : decode b_Mod_canSit 0 = .ok (.iconst 0, 1) := by decide +kernel
theorem d_Mod_canSit_1 : decode b_Mod_canSit 1 = .ok (.istore_n 2, 1) := by decide +kernel
theorem d_Mod_canSit_2 : decode b_Mod_canSit 2 = .ok (.iconst 0, 1) := by decide +kernel
theorem d_Mod_canSit_3 : decode b_Mod_canSit 3 = .ok (.istore_n 3, 1) := by decide +kernel
theorem d_Mod_canSit_4 : decode b_Mod_canSit 4 = .ok (.iload_n 3, 1) := by decide +kernel
theorem d_Mod_canSit_5 : decode b_Mod_canSit 5 = .ok (.iload_n 1, 1) := by decide +kernel
theorem d_Mod_canSit_6 : decode b_Mod_canSit 6 = .ok (.if_icmp .ge 41, 3) := by decide +kernel
theorem d_Mod_canSit_9 : decode b_Mod_canSit 9 = .ok (.aload_n 0, 1) := by decide +kernel
theorem d_Mod_canSit_10 : decode b_Mod_canSit 10 = .ok (.getfield 71, 3) := by decide +kernel
theorem d_Mod_canSit_13 : decode b_Mod_canSit 13 = .ok (.iload_n 3, 1) := by decide +kernel
theorem d_Mod_canSit_14 : decode b_Mod_canSit 14 = .ok (.iaload, 1) := by decide +kernel
theorem d_Mod_canSit_15 : decode b_Mod_canSit 15 = .ok (.aload_n 0, 1) := by decide +kernel
theorem d_Mod_canSit_16 : decode b_Mod_canSit 16 = .ok (.getfield 71, 3) := by decide +kernel
theorem d_Mod_canSit_19 : decode b_Mod_canSit 19 = .ok (.iload_n 1, 1) := by decide +kernel
theorem d_Mod_canSit_20 : decode b_Mod_canSit 20 = .ok (.iaload, 1) := by decide +kernel
theorem d_Mod_canSit_21 : decode b_Mod_canSit 21 = .ok (.if_icmp .eq 6, 3) := by decide +kernel
theorem d_Mod_canSit_24 : decode b_Mod_canSit 24 = .ok (.goto 17, 3) := by decide +kernel
theorem d_Mod_canSit_27 : decode b_Mod_canSit 27 = .ok (.iinc 2 1, 3) := by decide +kernel
theorem d_Mod_canSit_30 : decode b_Mod_canSit 30 = .ok (.aload_n 0, 1) := by decide +kernel
theorem d_Mod_canSit_31 : decode b_Mod_canSit 31 = .ok (.iload_n 3, 1) := by decide +kernel
theorem d_Mod_canSit_32 : decode b_Mod_canSit 32 = .ok (.iload_n 1, 1) := by decide +kernel
theorem d_Mod_canSit_33 : decode b_Mod_canSit 33 = .ok (.invokevirtual 320, 3) := by decide +kernel
theorem d_Mod_canSit_36 : decode b_Mod_canSit 36 = .ok (.ifCond .eq 5, 3) := by decide +kernel
theorem d_Mod_canSit_39 : decode b_Mod_canSit 39 = .ok (.iconst 0, 1) := by decide +kernel
theorem d_Mod_canSit_40 : decode b_Mod_canSit 40 = .ok (.ireturn, 1) := by decide +kernel
theorem d_Mod_canSit_41 : decode b_Mod_canSit 41 = .ok (.iinc 3 1, 3) := by decide +kernel
theorem d_Mod_canSit_44 : decode b_Mod_canSit 44 = .ok (.goto (-40), 3) := by decide +kernel
theorem d_Mod_canSit_47 : decode b_Mod_canSit 47 = .ok (.iload_n 2, 1) := by decide +kernel
theorem d_Mod_canSit_48 : decode b_Mod_canSit 48 = .ok (.aload_n 0, 1) := by decide +kernel
theorem d_Mod_canSit_49 : decode b_Mod_canSit 49 = .ok (.getfield 33, 3) := by decide +kernel
theorem d_Mod_canSit_52 : decode b_Mod_canSit 52 = .ok (.iconst 3, 1) := by decide +kernel
theorem d_Mod_canSit_53 : decode b_Mod_canSit 53 = .ok (.iaload, 1) := by decide +kernel
theorem d_Mod_canSit_54 : decode b_Mod_canSit 54 = .ok (.if_icmp .ge 7, 3) := by decide +kernel
theorem d_Mod_canSit_57 : decode b_Mod_canSit 57 = .ok (.iconst 1, 1) := by decide +kernel
theorem d_Mod_canSit_58 : decode b_Mod_canSit 58 = .ok (.goto 4, 3) := by decide +kernel
theorem d_Mod_canSit_61 : decode b_Mod_canSit 61 = .ok (.iconst 0, 1) := by decide +kernel
theorem d_Mod_canSit_62 : decode b_Mod_canSit 62 = .ok (.ireturn, 1) := by decide +kernel
noncomputable def f_Mod_canSit_L4 (z : Nat → Nat) (σ : Mm) (o : Nat) (v1 : Int32) (s4 : Int32 × Int32) : Option ((Int32 × Int32) ⊕ ((Int32) ⊕ (Int32))) :=
  if v1 ≤ s4.2 then (
    some (.inr (.inr s4.1))
  ) else (
    (mm_ldI (σ.1 (o + 13)) (z (o + 13)) s4.2).bind fun x14 =>
    (mm_ldI (σ.1 (o + 13)) (z (o + 13)) v1).bind fun x20 =>
    if x14 = x20 then (
      mm_lt (s4.1 + (1 : Int32)) fun x27 =>
      (f_Mod_areFoes z σ o s4.2 v1).bind fun q33 =>
      if q33 = 0 then (
        mm_lt (s4.2 + (1 : Int32)) fun x41 =>
        some (.inl (x27, x41))
      ) else (
        some (.inr (.inl (0 : Int32)))
      )
    ) else (
      mm_lt (s4.2 + (1 : Int32)) fun x41 =>
      some (.inl (s4.1, x41))
    )
  )
noncomputable def f_Mod_canSit (z : Nat → Nat) (σ : Mm) (o : Nat) (p1 : Int32) : Option (Int32) :=
  (mm_lp (f_Mod_canSit_L4 z σ o p1) ((0 : Int32), (0 : Int32))).bind (Sum.elim (fun r9 => some r9) (fun x4_ =>
    (mm_ldI (σ.1 (o + 2)) (z (o + 2)) (3 : Int32)).bind fun x53 =>
    if x53 ≤ x4_ then (
      some (0 : Int32)
    ) else (
      some (1 : Int32)
    )))
set_option maxHeartbeats 4000000 in
set_option maxRecDepth 100000 in
theorem c_Mod_canSit (l : Launch) {L : Ly} (hg : gd_ok L) {σ : Mm} {o : Nat} {p1 : Int32} (k_o_0 : ly_k L o = 11) {res : Int32} (hf0 : f_Mod_canSit (ly_z L) σ o p1 = some res) : CtI l y_Mod_canSit b_Mod_canSit 4 (some .boolean) rm_Mod_canSit L [.ref (ly_a L o), .int p1] σ res σ := by
  refine ct_z hg (by decide) (Nat.le_of_ble_eq_true rfl) ?_
  intro E A Q hE C hN
  subst hE
  have k_o_13 : ly_k L (o + 13) = 20 := gd_Mod_tried hg k_o_0
  have k_o_2 : ly_k L (o + 2) = 20 := gd_Mod_s hg k_o_0
  unfold f_Mod_canSit at hf0
  show GW E L A 4 0 0 Q σ 0 [(0, .ref (ly_a L o)), (1, .int p1)] []
  refine gw_iconst C (0 : Int32) d_Mod_canSit_0 (by decide) ?_
  refine gw_istore_n C [(2, .int (0 : Int32)), (0, .ref (ly_a L o)), (1, .int p1)] d_Mod_canSit_1 rfl (by decide) rfl ?_
  refine gw_iconst C (0 : Int32) d_Mod_canSit_2 (by decide) ?_
  refine gw_istore_n C [(3, .int (0 : Int32)), (2, .int (0 : Int32)), (0, .ref (ly_a L o)), (1, .int p1)] d_Mod_canSit_3 rfl (by decide) rfl ?_
  obtain ⟨q4, hq4, hf0⟩ := mx_bd hf0
  have hk4 : ∀ x4_, q4 = .inr x4_ → GW E L A 4 0 0 Q σ 47 [(0, .ref (ly_a L o)), (2, .int x4_)] [] := by
    intro x4_ hx9
    subst hx9
    replace hf0 := mx_sr hf0
    refine gw_iload_n C 1 d_Mod_canSit_47 rfl rfl ?_
    refine gw_aload_n C 0 d_Mod_canSit_48 rfl rfl ?_
    refine gw_getA C 6 d_Mod_canSit_49 k_o_0 (by decide) i_Mod rfl rfl (by decide) qw_1171 rfl rfl (o + 2) rfl ?_
    refine gw_iconst C (3 : Int32) d_Mod_canSit_52 (by decide) ?_
    obtain ⟨x53, hx53, hf0⟩ := mx_bd hf0
    obtain ⟨gx53, ex53⟩ := mx_ldI hx53
    refine gw_iald C d_Mod_canSit_53 k_o_2 gx53 ex53 ?_
    refine gw_icmp_ge C 61 d_Mod_canSit_54 (by decide) (fun hc => ?_) (fun hc => ?_)
    · replace hf0 := mx_t hc hf0
      refine gw_iconst C (0 : Int32) d_Mod_canSit_61 (by decide) ?_
      exact en_zp hN (Or.inl rfl) hf0 d_Mod_canSit_62
    · replace hf0 := mx_f hc hf0
      refine gw_iconst C (1 : Int32) d_Mod_canSit_57 (by decide) ?_
      refine gw_goto C 62 d_Mod_canSit_58 (by decide) ?_
      exact en_zp hN (Or.inr rfl) hf0 d_Mod_canSit_62
  refine gw_sub [2, 3, 1, 0] (lv' := [(0, .ref (ly_a L o)), (1, .int p1), (2, .int (0 : Int32)), (3, .int (0 : Int32))]) rfl ?_
  refine mm_rule hq4 (P := fun (s4 : Int32 × Int32) => GW E L A 4 0 0 Q σ 4 [(0, .ref (ly_a L o)), (1, .int p1), (2, .int s4.1), (3, .int s4.2)] []) ?_
  intro s4 ih4 hx4 ⟨w4, hb4⟩
  have hf1 := hb4
  unfold f_Mod_canSit_L4 at hf1
  refine gw_iload_n C 3 d_Mod_canSit_4 rfl rfl ?_
  refine gw_iload_n C 1 d_Mod_canSit_5 rfl rfl ?_
  refine gw_icmp_ge C 47 d_Mod_canSit_6 (by decide) (fun hc => ?_) (fun hc => ?_)
  · replace hf1 := mx_t hc hf1
    exact gw_go [0, 2] (hk4 s4.1 (hx4 _ (hb4.trans hf1.symm)).symm) rfl
  · replace hf1 := mx_f hc hf1
    refine gw_aload_n C 0 d_Mod_canSit_9 rfl rfl ?_
    refine gw_getA C 33 d_Mod_canSit_10 k_o_0 (by decide) i_Mod rfl rfl (by decide) qw_1198 rfl rfl (o + 13) rfl ?_
    refine gw_iload_n C 3 d_Mod_canSit_13 rfl rfl ?_
    obtain ⟨x14, hx14, hf1⟩ := mx_bd hf1
    obtain ⟨gx14, ex14⟩ := mx_ldI hx14
    refine gw_iald C d_Mod_canSit_14 k_o_13 gx14 ex14 ?_
    refine gw_aload_n C 0 d_Mod_canSit_15 rfl rfl ?_
    refine gw_getA C 33 d_Mod_canSit_16 k_o_0 (by decide) i_Mod rfl rfl (by decide) qw_1198 rfl rfl (o + 13) rfl ?_
    refine gw_iload_n C 1 d_Mod_canSit_19 rfl rfl ?_
    obtain ⟨x20, hx20, hf1⟩ := mx_bd hf1
    obtain ⟨gx20, ex20⟩ := mx_ldI hx20
    refine gw_iald C d_Mod_canSit_20 k_o_13 gx20 ex20 ?_
    refine gw_icmp_eq C 27 d_Mod_canSit_21 (by decide) (fun hc => ?_) (fun hc => ?_)
    · replace hf1 := mx_t hc hf1
      obtain ⟨x27, ex27, hf1⟩ := mx_lt hf1
      refine gw_iinc C 2 [(2, .int x27), (0, .ref (ly_a L o)), (1, .int p1), (3, .int s4.2)] d_Mod_canSit_27 rfl (by rw [ex27]; rfl) (by decide) rfl ?_
      refine gw_aload_n C 1 d_Mod_canSit_30 rfl rfl ?_
      refine gw_iload_n C 3 d_Mod_canSit_31 rfl rfl ?_
      refine gw_iload_n C 2 d_Mod_canSit_32 rfl rfl ?_
      obtain ⟨q33, hq33, hf1⟩ := mx_bd hf1
      refine gw_callI C (c_Mod_areFoes _ hg k_o_0 hq33) d_Mod_canSit_33 2 qw_1544 qw_1546 qs_72 qw_12 qw_1547 k_o_0 (by decide) rfl hd_Mod_areFoes rfl rfl (Nat.le_of_ble_eq_true rfl) ⟨rfl, rfl, Nat.le_of_ble_eq_true rfl, Nat.le_of_ble_eq_true rfl⟩ ⟨Nat.zero_le _, Nat.zero_le _⟩ ?_
      refine gw_if_eq C 41 d_Mod_canSit_36 (by decide) (fun hc => ?_) (fun hc => ?_)
      · replace hf1 := mx_t hc hf1
        obtain ⟨x41, ex41, hf1⟩ := mx_lt hf1
        refine gw_iinc C 3 [(3, .int x41), (2, .int x27), (0, .ref (ly_a L o)), (1, .int p1)] d_Mod_canSit_41 rfl (by rw [ex41]; rfl) (by decide) rfl ?_
        refine gw_goto C 4 d_Mod_canSit_44 (by decide) ?_
        exact gw_go [2, 3, 1, 0] (ih4 (x27, x41) (hb4.trans hf1.symm)) rfl
      · replace hf1 := mx_f hc hf1
        refine gw_iconst C (0 : Int32) d_Mod_canSit_39 (by decide) ?_
        have hr4 := hx4 _ (hb4.trans hf1.symm)
        subst hr4
        replace hf0 := mx_sl hf0
        exact en_zp hN (Or.inl rfl) hf0 d_Mod_canSit_40
    · replace hf1 := mx_f hc hf1
      refine gw_goto C 41 d_Mod_canSit_24 (by decide) ?_
      obtain ⟨x41, ex41, hf1⟩ := mx_lt hf1
      refine gw_iinc C 3 [(3, .int x41), (0, .ref (ly_a L o)), (1, .int p1), (2, .int s4.1)] d_Mod_canSit_41 rfl (by rw [ex41]; rfl) (by decide) rfl ?_
      refine gw_goto C 4 d_Mod_canSit_44 (by decide) ?_
      exact gw_go [1, 2, 3, 0] (ih4 (s4.1, x41) (hb4.trans hf1.symm)) rfl

/-! NameHatModel.seats()I -/
abbrev b_Mod_seats : ByteArray := prog_14_method_71_code
def y_Mod_seats : MethodName := ⟨"NameHatModel", "seats", "()I"⟩
abbrev rm_Mod_seats : Room := { frames := 3, cells := 0, slots := 0, locals := 66 }
theorem hd_Mod_seats : y_Mod_seats.cls ≠ "java/lang/invoke/MethodHandle" ∧ y_Mod_seats.cls ≠ "java/lang/invoke/VarHandle" ∧ (parseMethodDescriptor y_Mod_seats.desc).map (fun d => d.parameters.length) = some 0 := by decide +kernel
theorem d_Mod_seats_0 : decode b_Mod_seats 0 = .ok (.aload_n 0, 1) := by decide +kernel
theorem d_Mod_seats_1 : decode b_Mod_seats 1 = .ok (.iconst 0, 1) := by decide +kernel
theorem d_Mod_seats_2 : decode b_Mod_seats 2 = .ok (.putfield 1, 3) := by decide +kernel
theorem d_Mod_seats_5 : decode b_Mod_seats 5 = .ok (.ldc_w 323, 3) := by decide +kernel
theorem d_Mod_seats_8 : decode b_Mod_seats 8 = .ok (.istore_n 1, 1) := by decide +kernel
theorem d_Mod_seats_9 : decode b_Mod_seats 9 = .ok (.iconst 0, 1) := by decide +kernel
theorem d_Mod_seats_10 : decode b_Mod_seats 10 = .ok (.istore_n 2, 1) := by decide +kernel
theorem d_Mod_seats_11 : decode b_Mod_seats 11 = .ok (.iconst 0, 1) := by decide +kernel
theorem d_Mod_seats_12 : decode b_Mod_seats 12 = .ok (.istore_n 3, 1) := by decide +kernel
theorem d_Mod_seats_13 : decode b_Mod_seats 13 = .ok (.aload_n 0, 1) := by decide +kernel
theorem d_Mod_seats_14 : decode b_Mod_seats 14 = .ok (.getfield 71, 3) := by decide +kernel
theorem d_Mod_seats_17 : decode b_Mod_seats 17 = .ok (.iconst 0, 1) := by decide +kernel
theorem d_Mod_seats_18 : decode b_Mod_seats 18 = .ok (.iconst (-1), 1) := by decide +kernel
theorem d_Mod_seats_19 : decode b_Mod_seats 19 = .ok (.iastore, 1) := by decide +kernel
theorem d_Mod_seats_20 : decode b_Mod_seats 20 = .ok (.aload_n 0, 1) := by decide +kernel
theorem d_Mod_seats_21 : decode b_Mod_seats 21 = .ok (.getfield 33, 3) := by decide +kernel
theorem d_Mod_seats_24 : decode b_Mod_seats 24 = .ok (.iconst 1, 1) := by decide +kernel
theorem d_Mod_seats_25 : decode b_Mod_seats 25 = .ok (.iaload, 1) := by decide +kernel
theorem d_Mod_seats_26 : decode b_Mod_seats 26 = .ok (.ifCond .ne 10, 3) := by decide +kernel
theorem d_Mod_seats_29 : decode b_Mod_seats 29 = .ok (.aload_n 0, 1) := by decide +kernel
theorem d_Mod_seats_30 : decode b_Mod_seats 30 = .ok (.iconst 0, 1) := by decide +kernel
theorem d_Mod_seats_31 : decode b_Mod_seats 31 = .ok (.putfield 77, 3) := by decide +kernel
theorem d_Mod_seats_34 : decode b_Mod_seats 34 = .ok (.iconst 0, 1) := by decide +kernel
theorem d_Mod_seats_35 : decode b_Mod_seats 35 = .ok (.ireturn, 1) := by decide +kernel
theorem d_Mod_seats_36 : decode b_Mod_seats 36 = .ok (.iload_n 3, 1) := by decide +kernel
theorem d_Mod_seats_37 : decode b_Mod_seats 37 = .ok (.ifCond .lt 165, 3) := by decide +kernel
theorem d_Mod_seats_40 : decode b_Mod_seats 40 = .ok (.aload_n 0, 1) := by decide +kernel
theorem d_Mod_seats_41 : decode b_Mod_seats 41 = .ok (.getfield 71, 3) := by decide +kernel
theorem d_Mod_seats_44 : decode b_Mod_seats 44 = .ok (.iload_n 3, 1) := by decide +kernel
theorem d_Mod_seats_45 : decode b_Mod_seats 45 = .ok (.iaload, 1) := by decide +kernel
theorem d_Mod_seats_46 : decode b_Mod_seats 46 = .ok (.ifCond .lt 24, 3) := by decide +kernel
theorem d_Mod_seats_49 : decode b_Mod_seats 49 = .ok (.aload_n 0, 1) := by decide +kernel
theorem d_Mod_seats_50 : decode b_Mod_seats 50 = .ok (.getfield 71, 3) := by decide +kernel
theorem d_Mod_seats_53 : decode b_Mod_seats 53 = .ok (.iload_n 3, 1) := by decide +kernel
theorem d_Mod_seats_54 : decode b_Mod_seats 54 = .ok (.iaload, 1) := by decide +kernel
theorem d_Mod_seats_55 : decode b_Mod_seats 55 = .ok (.aload_n 0, 1) := by decide +kernel
theorem d_Mod_seats_56 : decode b_Mod_seats 56 = .ok (.getfield 33, 3) := by decide +kernel
theorem d_Mod_seats_59 : decode b_Mod_seats 59 = .ok (.bipush 115, 2) := by decide +kernel
theorem d_Mod_seats_61 : decode b_Mod_seats 61 = .ok (.iload_n 3, 1) := by decide +kernel
theorem d_Mod_seats_62 : decode b_Mod_seats 62 = .ok (.iadd, 1) := by decide +kernel
theorem d_Mod_seats_63 : decode b_Mod_seats 63 = .ok (.iaload, 1) := by decide +kernel
theorem d_Mod_seats_64 : decode b_Mod_seats 64 = .ok (.if_icmp .eq 6, 3) := by decide +kernel
theorem d_Mod_seats_67 : decode b_Mod_seats 67 = .ok (.iinc 2 (-1), 3) := by decide +kernel
theorem d_Mod_seats_70 : decode b_Mod_seats 70 = .ok (.aload_n 0, 1) := by decide +kernel
theorem d_Mod_seats_71 : decode b_Mod_seats 71 = .ok (.getfield 71, 3) := by decide +kernel
theorem d_Mod_seats_74 : decode b_Mod_seats 74 = .ok (.iload_n 3, 1) := by decide +kernel
theorem d_Mod_seats_75 : decode b_Mod_seats 75 = .ok (.dup2, 1) := by decide +kernel
theorem d_Mod_seats_76 : decode b_Mod_seats 76 = .ok (.iaload, 1) := by decide +kernel
theorem d_Mod_seats_77 : decode b_Mod_seats 77 = .ok (.iconst 1, 1) := by decide +kernel
theorem d_Mod_seats_78 : decode b_Mod_seats 78 = .ok (.iadd, 1) := by decide +kernel
theorem d_Mod_seats_79 : decode b_Mod_seats 79 = .ok (.iastore, 1) := by decide +kernel
theorem d_Mod_seats_80 : decode b_Mod_seats 80 = .ok (.aload_n 0, 1) := by decide +kernel
theorem d_Mod_seats_81 : decode b_Mod_seats 81 = .ok (.getfield 71, 3) := by decide +kernel
theorem d_Mod_seats_84 : decode b_Mod_seats 84 = .ok (.iload_n 3, 1) := by decide +kernel
theorem d_Mod_seats_85 : decode b_Mod_seats 85 = .ok (.iaload, 1) := by decide +kernel
theorem d_Mod_seats_86 : decode b_Mod_seats 86 = .ok (.aload_n 0, 1) := by decide +kernel
theorem d_Mod_seats_87 : decode b_Mod_seats 87 = .ok (.getfield 33, 3) := by decide +kernel
theorem d_Mod_seats_90 : decode b_Mod_seats 90 = .ok (.iconst 2, 1) := by decide +kernel
theorem d_Mod_seats_91 : decode b_Mod_seats 91 = .ok (.iaload, 1) := by decide +kernel
theorem d_Mod_seats_92 : decode b_Mod_seats 92 = .ok (.if_icmp .ne 9, 3) := by decide +kernel
theorem d_Mod_seats_95 : decode b_Mod_seats 95 = .ok (.iinc 3 (-1), 3) := by decide +kernel
theorem d_Mod_seats_98 : decode b_Mod_seats 98 = .ok (.goto (-62), 3) := by decide +kernel
theorem d_Mod_seats_101 : decode b_Mod_seats 101 = .ok (.aload_n 0, 1) := by decide +kernel
theorem d_Mod_seats_102 : decode b_Mod_seats 102 = .ok (.getfield 71, 3) := by decide +kernel
theorem d_Mod_seats_105 : decode b_Mod_seats 105 = .ok (.iload_n 3, 1) := by decide +kernel
theorem d_Mod_seats_106 : decode b_Mod_seats 106 = .ok (.iaload, 1) := by decide +kernel
theorem d_Mod_seats_107 : decode b_Mod_seats 107 = .ok (.aload_n 0, 1) := by decide +kernel
theorem d_Mod_seats_108 : decode b_Mod_seats 108 = .ok (.getfield 33, 3) := by decide +kernel
theorem d_Mod_seats_111 : decode b_Mod_seats 111 = .ok (.bipush 115, 2) := by decide +kernel
theorem d_Mod_seats_113 : decode b_Mod_seats 113 = .ok (.iload_n 3, 1) := by decide +kernel
theorem d_Mod_seats_114 : decode b_Mod_seats 114 = .ok (.iadd, 1) := by decide +kernel
theorem d_Mod_seats_115 : decode b_Mod_seats 115 = .ok (.iaload, 1) := by decide +kernel
theorem d_Mod_seats_116 : decode b_Mod_seats 116 = .ok (.if_icmp .eq 6, 3) := by decide +kernel
theorem d_Mod_seats_119 : decode b_Mod_seats 119 = .ok (.iinc 2 1, 3) := by decide +kernel
theorem d_Mod_seats_122 : decode b_Mod_seats 122 = .ok (.iload_n 2, 1) := by decide +kernel
theorem d_Mod_seats_123 : decode b_Mod_seats 123 = .ok (.iload_n 1, 1) := by decide +kernel
theorem d_Mod_seats_124 : decode b_Mod_seats 124 = .ok (.if_icmp .ge (-88), 3) := by decide +kernel
theorem d_Mod_seats_127 : decode b_Mod_seats 127 = .ok (.aload_n 0, 1) := by decide +kernel
theorem d_Mod_seats_128 : decode b_Mod_seats 128 = .ok (.iload_n 3, 1) := by decide +kernel
theorem d_Mod_seats_129 : decode b_Mod_seats 129 = .ok (.invokevirtual 324, 3) := by decide +kernel
theorem d_Mod_seats_132 : decode b_Mod_seats 132 = .ok (.ifCond .ne 6, 3) := by decide +kernel
theorem d_Mod_seats_135 : decode b_Mod_seats 135 = .ok (.goto (-99), 3) := by decide +kernel
theorem d_Mod_seats_138 : decode b_Mod_seats 138 = .ok (.iload_n 3, 1) := by decide +kernel
theorem d_Mod_seats_139 : decode b_Mod_seats 139 = .ok (.aload_n 0, 1) := by decide +kernel
theorem d_Mod_seats_140 : decode b_Mod_seats 140 = .ok (.getfield 33, 3) := by decide +kernel
theorem d_Mod_seats_143 : decode b_Mod_seats 143 = .ok (.iconst 1, 1) := by decide +kernel
theorem d_Mod_seats_144 : decode b_Mod_seats 144 = .ok (.iaload, 1) := by decide +kernel
theorem d_Mod_seats_145 : decode b_Mod_seats 145 = .ok (.iconst 1, 1) := by decide +kernel
theorem d_Mod_seats_146 : decode b_Mod_seats 146 = .ok (.isub, 1) := by decide +kernel
theorem d_Mod_seats_147 : decode b_Mod_seats 147 = .ok (.if_icmp .ge 16, 3) := by decide +kernel
theorem d_Mod_seats_150 : decode b_Mod_seats 150 = .ok (.iinc 3 1, 3) := by decide +kernel
theorem d_Mod_seats_153 : decode b_Mod_seats 153 = .ok (.aload_n 0, 1) := by decide +kernel
theorem d_Mod_seats_154 : decode b_Mod_seats 154 = .ok (.getfield 71, 3) := by decide +kernel
theorem d_Mod_seats_157 : decode b_Mod_seats 157 = .ok (.iload_n 3, 1) := by decide +kernel
theorem d_Mod_seats_158 : decode b_Mod_seats 158 = .ok (.iconst (-1), 1) := by decide +kernel
theorem d_Mod_seats_159 : decode b_Mod_seats 159 = .ok (.iastore, 1) := by decide +kernel
theorem d_Mod_seats_160 : decode b_Mod_seats 160 = .ok (.goto (-124), 3) := by decide +kernel
theorem d_Mod_seats_163 : decode b_Mod_seats 163 = .ok (.iload_n 2, 1) := by decide +kernel
theorem d_Mod_seats_164 : decode b_Mod_seats 164 = .ok (.istore_n 1, 1) := by decide +kernel
theorem d_Mod_seats_165 : decode b_Mod_seats 165 = .ok (.iconst 0, 1) := by decide +kernel
theorem d_Mod_seats_166 : decode b_Mod_seats 166 = .ok (.istore 4, 2) := by decide +kernel
theorem d_Mod_seats_168 : decode b_Mod_seats 168 = .ok (.iload 4, 2) := by decide +kernel
theorem d_Mod_seats_170 : decode b_Mod_seats 170 = .ok (.aload_n 0, 1) := by decide +kernel
theorem d_Mod_seats_171 : decode b_Mod_seats 171 = .ok (.getfield 33, 3) := by decide +kernel
theorem d_Mod_seats_174 : decode b_Mod_seats 174 = .ok (.iconst 1, 1) := by decide +kernel
theorem d_Mod_seats_175 : decode b_Mod_seats 175 = .ok (.iaload, 1) := by decide +kernel
theorem d_Mod_seats_176 : decode b_Mod_seats 176 = .ok (.if_icmp .ge 23, 3) := by decide +kernel
theorem d_Mod_seats_179 : decode b_Mod_seats 179 = .ok (.aload_n 0, 1) := by decide +kernel
theorem d_Mod_seats_180 : decode b_Mod_seats 180 = .ok (.getfield 74, 3) := by decide +kernel
theorem d_Mod_seats_183 : decode b_Mod_seats 183 = .ok (.iload 4, 2) := by decide +kernel
theorem d_Mod_seats_185 : decode b_Mod_seats 185 = .ok (.aload_n 0, 1) := by decide +kernel
theorem d_Mod_seats_186 : decode b_Mod_seats 186 = .ok (.getfield 71, 3) := by decide +kernel
theorem d_Mod_seats_189 : decode b_Mod_seats 189 = .ok (.iload 4, 2) := by decide +kernel
theorem d_Mod_seats_191 : decode b_Mod_seats 191 = .ok (.iaload, 1) := by decide +kernel
theorem d_Mod_seats_192 : decode b_Mod_seats 192 = .ok (.iastore, 1) := by decide +kernel
theorem d_Mod_seats_193 : decode b_Mod_seats 193 = .ok (.iinc 4 1, 3) := by decide +kernel
theorem d_Mod_seats_196 : decode b_Mod_seats 196 = .ok (.goto (-28), 3) := by decide +kernel
theorem d_Mod_seats_199 : decode b_Mod_seats 199 = .ok (.goto (-163), 3) := by decide +kernel
theorem d_Mod_seats_202 : decode b_Mod_seats 202 = .ok (.iload_n 1, 1) := by decide +kernel
theorem d_Mod_seats_203 : decode b_Mod_seats 203 = .ok (.ldc_w 323, 3) := by decide +kernel
theorem d_Mod_seats_206 : decode b_Mod_seats 206 = .ok (.if_icmp .ne 5, 3) := by decide +kernel
theorem d_Mod_seats_209 : decode b_Mod_seats 209 = .ok (.iconst (-1), 1) := by decide +kernel
theorem d_Mod_seats_210 : decode b_Mod_seats 210 = .ok (.ireturn, 1) := by decide +kernel
theorem d_Mod_seats_211 : decode b_Mod_seats 211 = .ok (.aload_n 0, 1) := by decide +kernel
theorem d_Mod_seats_212 : decode b_Mod_seats 212 = .ok (.aload_n 0, 1) := by decide +kernel
theorem d_Mod_seats_213 : decode b_Mod_seats 213 = .ok (.getfield 33, 3) := by decide +kernel
theorem d_Mod_seats_216 : decode b_Mod_seats 216 = .ok (.iconst 1, 1) := by decide +kernel
theorem d_Mod_seats_217 : decode b_Mod_seats 217 = .ok (.iaload, 1) := by decide +kernel
theorem d_Mod_seats_218 : decode b_Mod_seats 218 = .ok (.putfield 77, 3) := by decide +kernel
theorem d_Mod_seats_221 : decode b_Mod_seats 221 = .ok (.iload_n 1, 1) := by decide +kernel
theorem d_Mod_seats_222 : decode b_Mod_seats 222 = .ok (.ireturn, 1) := by decide +kernel
noncomputable def f_Mod_seats_L168 (z : Nat → Nat) (o : Nat) (v1 : Int32) (v2 : Int32) (v3 : Int32) (s168 : Int32 × Mm) : Option ((Int32 × Mm) ⊕ (Mm)) :=
  (mm_ldI (s168.2.1 (o + 2)) (z (o + 2)) (1 : Int32)).bind fun x175 =>
  if x175 ≤ s168.1 then (
    some (.inr s168.2)
  ) else (
    (mm_ldI (s168.2.1 (o + 13)) (z (o + 13)) s168.1).bind fun x191 =>
    (mm_stI s168.2 (o + 14) (z (o + 14)) s168.1 x191).bind fun m192 =>
    mm_lt (s168.1 + (1 : Int32)) fun x193 =>
    some (.inl (x193, m192))
  )
noncomputable def f_Mod_seats_J122 (z : Nat → Nat) (o : Nat) (v1 : Int32) (v2 : Int32) (v3 : Int32) (m122 : Mm) : Option ((Int32 × Int32 × Int32 × Mm) ⊕ (Int32 × Mm)) :=
  if v1 ≤ v2 then (
    some (.inl (v1, v2, v3, m122))
  ) else (
    (f_Mod_canSit z m122 o v3).bind fun q129 =>
    if q129 = 0 then (
      some (.inl (v1, v2, v3, m122))
    ) else (
      (mm_ldI (m122.1 (o + 2)) (z (o + 2)) (1 : Int32)).bind fun x144 =>
      if (x144 - (1 : Int32)) ≤ v3 then (
        (mm_lp (f_Mod_seats_L168 z o v2 v2 v3) ((0 : Int32), m122)).bind (fun q168 =>
          some (.inl (v2, v2, v3, q168)))
      ) else (
        mm_lt (v3 + (1 : Int32)) fun x150 =>
        (mm_stI m122 (o + 13) (z (o + 13)) x150 ((-1) : Int32)).bind fun m159 =>
        some (.inl (v1, v2, x150, m159))
      )
    )
  )
noncomputable def f_Mod_seats_J70 (z : Nat → Nat) (o : Nat) (v1 : Int32) (v2 : Int32) (v3 : Int32) (m70 : Mm) : Option ((Int32 × Int32 × Int32 × Mm) ⊕ (Int32 × Mm)) :=
  (mm_ldI (m70.1 (o + 13)) (z (o + 13)) v3).bind fun x76 =>
  (mm_stI m70 (o + 13) (z (o + 13)) v3 (x76 + (1 : Int32))).bind fun m79 =>
  (mm_ldI (m79.1 (o + 13)) (z (o + 13)) v3).bind fun x85 =>
  (mm_ldI (m79.1 (o + 2)) (z (o + 2)) (2 : Int32)).bind fun x91 =>
  if x85 = x91 then (
    mm_lt (v3 + ((-1) : Int32)) fun x95 =>
    some (.inl (v1, v2, x95, m79))
  ) else (
    (mm_ldI (m79.1 (o + 13)) (z (o + 13)) v3).bind fun x106 =>
    (mm_ldI (m79.1 (o + 2)) (z (o + 2)) ((115 : Int32) + v3)).bind fun x115 =>
    if x106 = x115 then (
      f_Mod_seats_J122 z o v1 v2 v3 m79
    ) else (
      mm_lt (v2 + (1 : Int32)) fun x119 =>
      f_Mod_seats_J122 z o v1 x119 v3 m79
    )
  )
noncomputable def f_Mod_seats_L36 (z : Nat → Nat) (o : Nat) (s36 : Int32 × Int32 × Int32 × Mm) : Option ((Int32 × Int32 × Int32 × Mm) ⊕ (Int32 × Mm)) :=
  if s36.2.2.1 < 0 then (
    some (.inr (s36.1, s36.2.2.2))
  ) else (
    (mm_ldI (s36.2.2.2.1 (o + 13)) (z (o + 13)) s36.2.2.1).bind fun x45 =>
    if x45 < 0 then (
      f_Mod_seats_J70 z o s36.1 s36.2.1 s36.2.2.1 s36.2.2.2
    ) else (
      (mm_ldI (s36.2.2.2.1 (o + 13)) (z (o + 13)) s36.2.2.1).bind fun x54 =>
      (mm_ldI (s36.2.2.2.1 (o + 2)) (z (o + 2)) ((115 : Int32) + s36.2.2.1)).bind fun x63 =>
      if x54 = x63 then (
        f_Mod_seats_J70 z o s36.1 s36.2.1 s36.2.2.1 s36.2.2.2
      ) else (
        mm_lt (s36.2.1 + ((-1) : Int32)) fun x67 =>
        f_Mod_seats_J70 z o s36.1 x67 s36.2.2.1 s36.2.2.2
      )
    )
  )
noncomputable def f_Mod_seats (z : Nat → Nat) (σ : Mm) (o : Nat) : Option (Int32 × Mm) :=
  mm_lt (kI σ o 0 (0 : Int32)) fun m2 =>
  (mm_stI m2 (o + 13) (z (o + 13)) (0 : Int32) ((-1) : Int32)).bind fun m19 =>
  (mm_ldI (m19.1 (o + 2)) (z (o + 2)) (1 : Int32)).bind fun x25 =>
  if x25 = 0 then (
    mm_lt (kI m19 o 35 (0 : Int32)) fun m31 =>
    some ((0 : Int32), m31)
  ) else (
    (mm_lp (f_Mod_seats_L36 z o) ((1000000000 : Int32), (0 : Int32), (0 : Int32), m19)).bind (fun q36 =>
      if q36.1 = (1000000000 : Int32) then (
        some (((-1) : Int32), q36.2)
      ) else (
        (mm_ldI (q36.2.1 (o + 2)) (z (o + 2)) (1 : Int32)).bind fun x217 =>
        mm_lt (kI q36.2 o 35 x217) fun m218 =>
        some (q36.1, m218)
      ))
  )
set_option maxHeartbeats 4000000 in
set_option maxRecDepth 100000 in
theorem c_Mod_seats (l : Launch) {L : Ly} (hg : gd_ok L) {σ : Mm} {o : Nat} (k_o_0 : ly_k L o = 11) {res : Int32 × Mm} (hf0 : f_Mod_seats (ly_z L) σ o = some res) : CtI l y_Mod_seats b_Mod_seats 5 (some .int) rm_Mod_seats L [.ref (ly_a L o)] σ res.1 res.2 := by
  refine ct_i hg (by decide) (Nat.le_of_ble_eq_true rfl) ?_
  intro E A Q hE C hN
  subst hE
  have k_o_13 : ly_k L (o + 13) = 20 := gd_Mod_tried hg k_o_0
  have k_o_2 : ly_k L (o + 2) = 20 := gd_Mod_s hg k_o_0
  have k_o_14 : ly_k L (o + 14) = 20 := gd_Mod_seated hg k_o_0
  unfold f_Mod_seats at hf0
  show GW E L A 5 0 0 Q σ 0 [(0, .ref (ly_a L o))] []
  refine gw_aload_n C 0 d_Mod_seats_0 rfl rfl ?_
  refine gw_iconst C (0 : Int32) d_Mod_seats_1 (by decide) ?_
  obtain ⟨m2, em2, hf0⟩ := mx_lt hf0
  refine gw_putI t_Mod C 0 d_Mod_seats_2 k_o_0 (by decide) i_Mod rfl rfl (by decide) qw_1165 rfl rfl t_Mod_ok n_Mod rfl (t_Mod_ok 0 (by decide)) rfl rfl em2 ?_
  refine gw_ldc_w C d_Mod_seats_5 qw_1552 ?_
  refine gw_istore_n C [(1, .int (1000000000 : Int32)), (0, .ref (ly_a L o))] d_Mod_seats_8 rfl (by decide) rfl ?_
  refine gw_iconst C (0 : Int32) d_Mod_seats_9 (by decide) ?_
  refine gw_istore_n C [(2, .int (0 : Int32)), (1, .int (1000000000 : Int32)), (0, .ref (ly_a L o))] d_Mod_seats_10 rfl (by decide) rfl ?_
  refine gw_iconst C (0 : Int32) d_Mod_seats_11 (by decide) ?_
  refine gw_istore_n C [(3, .int (0 : Int32)), (2, .int (0 : Int32)), (1, .int (1000000000 : Int32)), (0, .ref (ly_a L o))] d_Mod_seats_12 rfl (by decide) rfl ?_
  refine gw_aload_n C 3 d_Mod_seats_13 rfl rfl ?_
  refine gw_getA C 33 d_Mod_seats_14 k_o_0 (by decide) i_Mod rfl rfl (by decide) qw_1198 rfl rfl (o + 13) rfl ?_
  refine gw_iconst C (0 : Int32) d_Mod_seats_17 (by decide) ?_
  refine gw_iconst C ((-1) : Int32) d_Mod_seats_18 (by decide) ?_
  obtain ⟨m19, hm19, hf0⟩ := mx_bd hf0
  obtain ⟨gm19, em19⟩ := mx_stI hm19
  refine gw_iast C d_Mod_seats_19 k_o_13 gm19 em19 ?_
  refine gw_aload_n C 3 d_Mod_seats_20 rfl rfl ?_
  refine gw_getA C 6 d_Mod_seats_21 k_o_0 (by decide) i_Mod rfl rfl (by decide) qw_1171 rfl rfl (o + 2) rfl ?_
  refine gw_iconst C (1 : Int32) d_Mod_seats_24 (by decide) ?_
  obtain ⟨x25, hx25, hf0⟩ := mx_bd hf0
  obtain ⟨gx25, ex25⟩ := mx_ldI hx25
  refine gw_iald C d_Mod_seats_25 k_o_2 gx25 ex25 ?_
  refine gw_if_ne C 36 d_Mod_seats_26 (by decide) (fun hc => ?_) (fun hc => ?_)
  · replace hf0 := mx_f hc hf0
    obtain ⟨q36, hq36, hf0⟩ := mx_bd hf0
    have hk36 : ∀ x9, q36 = x9 → GW E L A 5 0 0 Q x9.2 202 [(0, .ref (ly_a L o)), (1, .int x9.1)] [] := by
      intro x9 hx9
      subst hx9
      refine gw_iload_n C 1 d_Mod_seats_202 rfl rfl ?_
      refine gw_ldc_w C d_Mod_seats_203 qw_1552 ?_
      refine gw_icmp_ne C 211 d_Mod_seats_206 (by decide) (fun hc => ?_) (fun hc => ?_)
      · replace hf0 := mx_f hc hf0
        refine gw_aload_n C 0 d_Mod_seats_211 rfl rfl ?_
        refine gw_aload_n C 0 d_Mod_seats_212 rfl rfl ?_
        refine gw_getA C 6 d_Mod_seats_213 k_o_0 (by decide) i_Mod rfl rfl (by decide) qw_1171 rfl rfl (o + 2) rfl ?_
        refine gw_iconst C (1 : Int32) d_Mod_seats_216 (by decide) ?_
        obtain ⟨x217, hx217, hf0⟩ := mx_bd hf0
        obtain ⟨gx217, ex217⟩ := mx_ldI hx217
        refine gw_iald C d_Mod_seats_217 k_o_2 gx217 ex217 ?_
        obtain ⟨m218, em218, hf0⟩ := mx_lt hf0
        refine gw_putI t_Mod C 35 d_Mod_seats_218 k_o_0 (by decide) i_Mod rfl rfl (by decide) qw_1200 rfl rfl t_Mod_ok n_Mod rfl (t_Mod_ok 35 (by decide)) rfl rfl em218 ?_
        refine gw_iload_n C 1 d_Mod_seats_221 rfl rfl ?_
        exact en_i hN hf0 d_Mod_seats_222
      · replace hf0 := mx_t hc hf0
        refine gw_iconst C ((-1) : Int32) d_Mod_seats_209 (by decide) ?_
        exact en_i hN hf0 d_Mod_seats_210
    refine gw_sub [3, 2, 1, 0] (lv' := [(0, .ref (ly_a L o)), (1, .int (1000000000 : Int32)), (2, .int (0 : Int32)), (3, .int (0 : Int32))]) rfl ?_
    refine mm_rule hq36 (P := fun (s36 : Int32 × Int32 × Int32 × Mm) => GW E L A 5 0 0 Q s36.2.2.2 36 [(0, .ref (ly_a L o)), (1, .int s36.1), (2, .int s36.2.1), (3, .int s36.2.2.1)] []) ?_
    intro s36 ih36 hx36 ⟨w36, hb36⟩
    have hj122 : ∀ (v1 : Int32) (v2 : Int32) (v3 : Int32) (m122 : Mm), f_Mod_seats_J122 (ly_z L) o v1 v2 v3 m122 = some w36 → GW E L A 5 0 0 Q m122 122 [(0, .ref (ly_a L o)), (1, .int v1), (2, .int v2), (3, .int v3)] [] := by
      intro v1 v2 v3 m122 hf1
      unfold f_Mod_seats_J122 at hf1
      refine gw_iload_n C 2 d_Mod_seats_122 rfl rfl ?_
      refine gw_iload_n C 1 d_Mod_seats_123 rfl rfl ?_
      refine gw_icmp_ge C 36 d_Mod_seats_124 (by decide) (fun hc => ?_) (fun hc => ?_)
      · replace hf1 := mx_t hc hf1
        exact gw_go [0, 1, 2, 3] (ih36 (v1, v2, v3, m122) (hb36.trans hf1.symm)) rfl
      · replace hf1 := mx_f hc hf1
        refine gw_aload_n C 0 d_Mod_seats_127 rfl rfl ?_
        refine gw_iload_n C 3 d_Mod_seats_128 rfl rfl ?_
        obtain ⟨q129, hq129, hf1⟩ := mx_bd hf1
        refine gw_callI C (c_Mod_canSit _ hg k_o_0 hq129) d_Mod_seats_129 1 qw_1553 qw_1555 qs_73 qw_12 qw_1556 k_o_0 (by decide) rfl hd_Mod_canSit rfl rfl (Nat.le_of_ble_eq_true rfl) ⟨rfl, rfl, Nat.le_of_ble_eq_true rfl, Nat.le_of_ble_eq_true rfl⟩ ⟨Nat.zero_le _, Nat.zero_le _⟩ ?_
        refine gw_if_ne C 138 d_Mod_seats_132 (by decide) (fun hc => ?_) (fun hc => ?_)
        · replace hf1 := mx_f hc hf1
          refine gw_iload_n C 3 d_Mod_seats_138 rfl rfl ?_
          refine gw_aload_n C 0 d_Mod_seats_139 rfl rfl ?_
          refine gw_getA C 6 d_Mod_seats_140 k_o_0 (by decide) i_Mod rfl rfl (by decide) qw_1171 rfl rfl (o + 2) rfl ?_
          refine gw_iconst C (1 : Int32) d_Mod_seats_143 (by decide) ?_
          obtain ⟨x144, hx144, hf1⟩ := mx_bd hf1
          obtain ⟨gx144, ex144⟩ := mx_ldI hx144
          refine gw_iald C d_Mod_seats_144 k_o_2 gx144 ex144 ?_
          refine gw_iconst C (1 : Int32) d_Mod_seats_145 (by decide) ?_
          refine gw_isub C d_Mod_seats_146 ?_
          refine gw_icmp_ge C 163 d_Mod_seats_147 (by decide) (fun hc => ?_) (fun hc => ?_)
          · replace hf1 := mx_t hc hf1
            refine gw_iload_n C 2 d_Mod_seats_163 rfl rfl ?_
            refine gw_istore_n C [(1, .int v2), (0, .ref (ly_a L o)), (2, .int v2), (3, .int v3)] d_Mod_seats_164 rfl (by decide) rfl ?_
            refine gw_iconst C (0 : Int32) d_Mod_seats_165 (by decide) ?_
            refine gw_istore C [(4, .int (0 : Int32)), (1, .int v2), (0, .ref (ly_a L o)), (2, .int v2), (3, .int v3)] d_Mod_seats_166 (by decide) rfl ?_
            obtain ⟨q168, hq168, hf1⟩ := mx_bd hf1
            have hk168 : ∀ x9, q168 = x9 → GW E L A 5 0 0 Q x9 199 [(0, .ref (ly_a L o)), (1, .int v2), (2, .int v2), (3, .int v3)] [] := by
              intro x9 hx9
              subst hx9
              refine gw_goto C 36 d_Mod_seats_199 (by decide) ?_
              exact gw_go [0, 1, 2, 3] (ih36 (v2, v2, v3, q168) (hb36.trans hf1.symm)) rfl
            refine gw_sub [2, 1, 3, 4, 0] (lv' := [(0, .ref (ly_a L o)), (1, .int v2), (2, .int v2), (3, .int v3), (4, .int (0 : Int32))]) rfl ?_
            refine mm_rule hq168 (P := fun (s168 : Int32 × Mm) => GW E L A 5 0 0 Q s168.2 168 [(0, .ref (ly_a L o)), (1, .int v2), (2, .int v2), (3, .int v3), (4, .int s168.1)] []) ?_
            intro s168 ih168 hx168 ⟨w168, hb168⟩
            have hf2 := hb168
            unfold f_Mod_seats_L168 at hf2
            refine gw_iload C 4 d_Mod_seats_168 rfl ?_
            refine gw_aload_n C 0 d_Mod_seats_170 rfl rfl ?_
            refine gw_getA C 6 d_Mod_seats_171 k_o_0 (by decide) i_Mod rfl rfl (by decide) qw_1171 rfl rfl (o + 2) rfl ?_
            refine gw_iconst C (1 : Int32) d_Mod_seats_174 (by decide) ?_
            obtain ⟨x175, hx175, hf2⟩ := mx_bd hf2
            obtain ⟨gx175, ex175⟩ := mx_ldI hx175
            refine gw_iald C d_Mod_seats_175 k_o_2 gx175 ex175 ?_
            refine gw_icmp_ge C 199 d_Mod_seats_176 (by decide) (fun hc => ?_) (fun hc => ?_)
            · replace hf2 := mx_t hc hf2
              exact gw_go [0, 1, 2, 3] (hk168 s168.2 (hx168 _ (hb168.trans hf2.symm)).symm) rfl
            · replace hf2 := mx_f hc hf2
              refine gw_aload_n C 0 d_Mod_seats_179 rfl rfl ?_
              refine gw_getA C 34 d_Mod_seats_180 k_o_0 (by decide) i_Mod rfl rfl (by decide) qw_1199 rfl rfl (o + 14) rfl ?_
              refine gw_iload C 4 d_Mod_seats_183 rfl ?_
              refine gw_aload_n C 0 d_Mod_seats_185 rfl rfl ?_
              refine gw_getA C 33 d_Mod_seats_186 k_o_0 (by decide) i_Mod rfl rfl (by decide) qw_1198 rfl rfl (o + 13) rfl ?_
              refine gw_iload C 4 d_Mod_seats_189 rfl ?_
              obtain ⟨x191, hx191, hf2⟩ := mx_bd hf2
              obtain ⟨gx191, ex191⟩ := mx_ldI hx191
              refine gw_iald C d_Mod_seats_191 k_o_13 gx191 ex191 ?_
              obtain ⟨m192, hm192, hf2⟩ := mx_bd hf2
              obtain ⟨gm192, em192⟩ := mx_stI hm192
              refine gw_iast C d_Mod_seats_192 k_o_14 gm192 em192 ?_
              obtain ⟨x193, ex193, hf2⟩ := mx_lt hf2
              refine gw_iinc C 4 [(4, .int x193), (0, .ref (ly_a L o)), (1, .int v2), (2, .int v2), (3, .int v3)] d_Mod_seats_193 rfl (by rw [ex193]; rfl) (by decide) rfl ?_
              refine gw_goto C 168 d_Mod_seats_196 (by decide) ?_
              exact gw_go [1, 2, 3, 4, 0] (ih168 (x193, m192) (hb168.trans hf2.symm)) rfl
          · replace hf1 := mx_f hc hf1
            obtain ⟨x150, ex150, hf1⟩ := mx_lt hf1
            refine gw_iinc C 3 [(3, .int x150), (0, .ref (ly_a L o)), (1, .int v1), (2, .int v2)] d_Mod_seats_150 rfl (by rw [ex150]; rfl) (by decide) rfl ?_
            refine gw_aload_n C 1 d_Mod_seats_153 rfl rfl ?_
            refine gw_getA C 33 d_Mod_seats_154 k_o_0 (by decide) i_Mod rfl rfl (by decide) qw_1198 rfl rfl (o + 13) rfl ?_
            refine gw_iload_n C 0 d_Mod_seats_157 rfl rfl ?_
            refine gw_iconst C ((-1) : Int32) d_Mod_seats_158 (by decide) ?_
            obtain ⟨m159, hm159, hf1⟩ := mx_bd hf1
            obtain ⟨gm159, em159⟩ := mx_stI hm159
            refine gw_iast C d_Mod_seats_159 k_o_13 gm159 em159 ?_
            refine gw_goto C 36 d_Mod_seats_160 (by decide) ?_
            exact gw_go [1, 2, 3, 0] (ih36 (v1, v2, x150, m159) (hb36.trans hf1.symm)) rfl
        · replace hf1 := mx_t hc hf1
          refine gw_goto C 36 d_Mod_seats_135 (by decide) ?_
          exact gw_go [0, 1, 2, 3] (ih36 (v1, v2, v3, m122) (hb36.trans hf1.symm)) rfl
    have hj70 : ∀ (v1 : Int32) (v2 : Int32) (v3 : Int32) (m70 : Mm), f_Mod_seats_J70 (ly_z L) o v1 v2 v3 m70 = some w36 → GW E L A 5 0 0 Q m70 70 [(0, .ref (ly_a L o)), (1, .int v1), (2, .int v2), (3, .int v3)] [] := by
      intro v1 v2 v3 m70 hf1
      unfold f_Mod_seats_J70 at hf1
      refine gw_aload_n C 0 d_Mod_seats_70 rfl rfl ?_
      refine gw_getA C 33 d_Mod_seats_71 k_o_0 (by decide) i_Mod rfl rfl (by decide) qw_1198 rfl rfl (o + 13) rfl ?_
      refine gw_iload_n C 3 d_Mod_seats_74 rfl rfl ?_
      refine gw_dup2 C d_Mod_seats_75 rfl rfl ?_
      obtain ⟨x76, hx76, hf1⟩ := mx_bd hf1
      obtain ⟨gx76, ex76⟩ := mx_ldI hx76
      refine gw_iald C d_Mod_seats_76 k_o_13 gx76 ex76 ?_
      refine gw_iconst C (1 : Int32) d_Mod_seats_77 (by decide) ?_
      refine gw_iadd C d_Mod_seats_78 ?_
      obtain ⟨m79, hm79, hf1⟩ := mx_bd hf1
      obtain ⟨gm79, em79⟩ := mx_stI hm79
      refine gw_iast C d_Mod_seats_79 k_o_13 gm79 em79 ?_
      refine gw_aload_n C 0 d_Mod_seats_80 rfl rfl ?_
      refine gw_getA C 33 d_Mod_seats_81 k_o_0 (by decide) i_Mod rfl rfl (by decide) qw_1198 rfl rfl (o + 13) rfl ?_
      refine gw_iload_n C 3 d_Mod_seats_84 rfl rfl ?_
      obtain ⟨x85, hx85, hf1⟩ := mx_bd hf1
      obtain ⟨gx85, ex85⟩ := mx_ldI hx85
      refine gw_iald C d_Mod_seats_85 k_o_13 gx85 ex85 ?_
      refine gw_aload_n C 0 d_Mod_seats_86 rfl rfl ?_
      refine gw_getA C 6 d_Mod_seats_87 k_o_0 (by decide) i_Mod rfl rfl (by decide) qw_1171 rfl rfl (o + 2) rfl ?_
      refine gw_iconst C (2 : Int32) d_Mod_seats_90 (by decide) ?_
      obtain ⟨x91, hx91, hf1⟩ := mx_bd hf1
      obtain ⟨gx91, ex91⟩ := mx_ldI hx91
      refine gw_iald C d_Mod_seats_91 k_o_2 gx91 ex91 ?_
      refine gw_icmp_ne C 101 d_Mod_seats_92 (by decide) (fun hc => ?_) (fun hc => ?_)
      · replace hf1 := mx_f hc hf1
        refine gw_aload_n C 0 d_Mod_seats_101 rfl rfl ?_
        refine gw_getA C 33 d_Mod_seats_102 k_o_0 (by decide) i_Mod rfl rfl (by decide) qw_1198 rfl rfl (o + 13) rfl ?_
        refine gw_iload_n C 3 d_Mod_seats_105 rfl rfl ?_
        obtain ⟨x106, hx106, hf1⟩ := mx_bd hf1
        obtain ⟨gx106, ex106⟩ := mx_ldI hx106
        refine gw_iald C d_Mod_seats_106 k_o_13 gx106 ex106 ?_
        refine gw_aload_n C 0 d_Mod_seats_107 rfl rfl ?_
        refine gw_getA C 6 d_Mod_seats_108 k_o_0 (by decide) i_Mod rfl rfl (by decide) qw_1171 rfl rfl (o + 2) rfl ?_
        refine gw_bipush C (115 : Int32) d_Mod_seats_111 (by decide) ?_
        refine gw_iload_n C 3 d_Mod_seats_113 rfl rfl ?_
        refine gw_iadd C d_Mod_seats_114 ?_
        obtain ⟨x115, hx115, hf1⟩ := mx_bd hf1
        obtain ⟨gx115, ex115⟩ := mx_ldI hx115
        refine gw_iald C d_Mod_seats_115 k_o_2 gx115 ex115 ?_
        refine gw_icmp_eq C 122 d_Mod_seats_116 (by decide) (fun hc => ?_) (fun hc => ?_)
        · replace hf1 := mx_t hc hf1
          exact gw_go [0, 1, 2, 3] (hj122 _ _ _ _ hf1) rfl
        · replace hf1 := mx_f hc hf1
          obtain ⟨x119, ex119, hf1⟩ := mx_lt hf1
          refine gw_iinc C 2 [(2, .int x119), (0, .ref (ly_a L o)), (1, .int v1), (3, .int v3)] d_Mod_seats_119 rfl (by rw [ex119]; rfl) (by decide) rfl ?_
          exact gw_go [1, 2, 0, 3] (hj122 _ _ _ _ hf1) rfl
      · replace hf1 := mx_t hc hf1
        obtain ⟨x95, ex95, hf1⟩ := mx_lt hf1
        refine gw_iinc C 3 [(3, .int x95), (0, .ref (ly_a L o)), (1, .int v1), (2, .int v2)] d_Mod_seats_95 rfl (by rw [ex95]; rfl) (by decide) rfl ?_
        refine gw_goto C 36 d_Mod_seats_98 (by decide) ?_
        exact gw_go [1, 2, 3, 0] (ih36 (v1, v2, x95, m79) (hb36.trans hf1.symm)) rfl
    have hf1 := hb36
    unfold f_Mod_seats_L36 at hf1
    refine gw_iload_n C 3 d_Mod_seats_36 rfl rfl ?_
    refine gw_if_lt C 202 d_Mod_seats_37 (by decide) (fun hc => ?_) (fun hc => ?_)
    · replace hf1 := mx_t hc hf1
      exact gw_go [0, 1] (hk36 (s36.1, s36.2.2.2) (hx36 _ (hb36.trans hf1.symm)).symm) rfl
    · replace hf1 := mx_f hc hf1
      refine gw_aload_n C 0 d_Mod_seats_40 rfl rfl ?_
      refine gw_getA C 33 d_Mod_seats_41 k_o_0 (by decide) i_Mod rfl rfl (by decide) qw_1198 rfl rfl (o + 13) rfl ?_
      refine gw_iload_n C 3 d_Mod_seats_44 rfl rfl ?_
      obtain ⟨x45, hx45, hf1⟩ := mx_bd hf1
      obtain ⟨gx45, ex45⟩ := mx_ldI hx45
      refine gw_iald C d_Mod_seats_45 k_o_13 gx45 ex45 ?_
      refine gw_if_lt C 70 d_Mod_seats_46 (by decide) (fun hc => ?_) (fun hc => ?_)
      · replace hf1 := mx_t hc hf1
        exact gw_go [0, 1, 2, 3] (hj70 _ _ _ _ hf1) rfl
      · replace hf1 := mx_f hc hf1
        refine gw_aload_n C 0 d_Mod_seats_49 rfl rfl ?_
        refine gw_getA C 33 d_Mod_seats_50 k_o_0 (by decide) i_Mod rfl rfl (by decide) qw_1198 rfl rfl (o + 13) rfl ?_
        refine gw_iload_n C 3 d_Mod_seats_53 rfl rfl ?_
        obtain ⟨x54, hx54, hf1⟩ := mx_bd hf1
        obtain ⟨gx54, ex54⟩ := mx_ldI hx54
        refine gw_iald C d_Mod_seats_54 k_o_13 gx54 ex54 ?_
        refine gw_aload_n C 0 d_Mod_seats_55 rfl rfl ?_
        refine gw_getA C 6 d_Mod_seats_56 k_o_0 (by decide) i_Mod rfl rfl (by decide) qw_1171 rfl rfl (o + 2) rfl ?_
        refine gw_bipush C (115 : Int32) d_Mod_seats_59 (by decide) ?_
        refine gw_iload_n C 3 d_Mod_seats_61 rfl rfl ?_
        refine gw_iadd C d_Mod_seats_62 ?_
        obtain ⟨x63, hx63, hf1⟩ := mx_bd hf1
        obtain ⟨gx63, ex63⟩ := mx_ldI hx63
        refine gw_iald C d_Mod_seats_63 k_o_2 gx63 ex63 ?_
        refine gw_icmp_eq C 70 d_Mod_seats_64 (by decide) (fun hc => ?_) (fun hc => ?_)
        · replace hf1 := mx_t hc hf1
          exact gw_go [0, 1, 2, 3] (hj70 _ _ _ _ hf1) rfl
        · replace hf1 := mx_f hc hf1
          obtain ⟨x67, ex67, hf1⟩ := mx_lt hf1
          refine gw_iinc C 2 [(2, .int x67), (0, .ref (ly_a L o)), (1, .int s36.1), (3, .int s36.2.2.1)] d_Mod_seats_67 rfl (by rw [ex67]; rfl) (by decide) rfl ?_
          exact gw_go [1, 2, 0, 3] (hj70 _ _ _ _ hf1) rfl
  · replace hf0 := mx_t hc hf0
    refine gw_aload_n C 3 d_Mod_seats_29 rfl rfl ?_
    refine gw_iconst C (0 : Int32) d_Mod_seats_30 (by decide) ?_
    obtain ⟨m31, em31, hf0⟩ := mx_lt hf0
    refine gw_putI t_Mod C 35 d_Mod_seats_31 k_o_0 (by decide) i_Mod rfl rfl (by decide) qw_1200 rfl rfl t_Mod_ok n_Mod rfl (t_Mod_ok 35 (by decide)) rfl rfl em31 ?_
    refine gw_iconst C (0 : Int32) d_Mod_seats_34 (by decide) ?_
    exact en_i hN hf0 d_Mod_seats_35

/-! NameHatModel.seatOf(I)I -/
abbrev b_Mod_seatOf : ByteArray := prog_14_method_72_code
def y_Mod_seatOf : MethodName := ⟨"NameHatModel", "seatOf", "(I)I"⟩
abbrev rm_Mod_seatOf : Room := { frames := 1, cells := 0, slots := 0, locals := 22 }
theorem hd_Mod_seatOf : y_Mod_seatOf.cls ≠ "java/lang/invoke/MethodHandle" ∧ y_Mod_seatOf.cls ≠ "java/lang/invoke/VarHandle" ∧ (parseMethodDescriptor y_Mod_seatOf.desc).map (fun d => d.parameters.length) = some 1 := by decide +kernel
theorem d_Mod_seatOf_0 : decode b_Mod_seatOf 0 = .ok (.aload_n 0, 1) := by decide +kernel
theorem d_Mod_seatOf_1 : decode b_Mod_seatOf 1 = .ok (.iconst 0, 1) := by decide +kernel
theorem d_Mod_seatOf_2 : decode b_Mod_seatOf 2 = .ok (.putfield 1, 3) := by decide +kernel
theorem d_Mod_seatOf_5 : decode b_Mod_seatOf 5 = .ok (.iload_n 1, 1) := by decide +kernel
theorem d_Mod_seatOf_6 : decode b_Mod_seatOf 6 = .ok (.iconst 0, 1) := by decide +kernel
theorem d_Mod_seatOf_7 : decode b_Mod_seatOf 7 = .ok (.aload_n 0, 1) := by decide +kernel
theorem d_Mod_seatOf_8 : decode b_Mod_seatOf 8 = .ok (.getfield 77, 3) := by decide +kernel
theorem d_Mod_seatOf_11 : decode b_Mod_seatOf 11 = .ok (.iconst 1, 1) := by decide +kernel
theorem d_Mod_seatOf_12 : decode b_Mod_seatOf 12 = .ok (.isub, 1) := by decide +kernel
theorem d_Mod_seatOf_13 : decode b_Mod_seatOf 13 = .ok (.invokestatic 175, 3) := by decide +kernel
theorem d_Mod_seatOf_16 : decode b_Mod_seatOf 16 = .ok (.ifCond .eq 12, 3) := by decide +kernel
theorem d_Mod_seatOf_19 : decode b_Mod_seatOf 19 = .ok (.aload_n 0, 1) := by decide +kernel
theorem d_Mod_seatOf_20 : decode b_Mod_seatOf 20 = .ok (.getfield 74, 3) := by decide +kernel
theorem d_Mod_seatOf_23 : decode b_Mod_seatOf 23 = .ok (.iload_n 1, 1) := by decide +kernel
theorem d_Mod_seatOf_24 : decode b_Mod_seatOf 24 = .ok (.iaload, 1) := by decide +kernel
theorem d_Mod_seatOf_25 : decode b_Mod_seatOf 25 = .ok (.goto 4, 3) := by decide +kernel
theorem d_Mod_seatOf_28 : decode b_Mod_seatOf 28 = .ok (.iconst (-1), 1) := by decide +kernel
theorem d_Mod_seatOf_29 : decode b_Mod_seatOf 29 = .ok (.ireturn, 1) := by decide +kernel
noncomputable def f_Mod_seatOf (z : Nat → Nat) (σ : Mm) (o : Nat) (p1 : Int32) : Option (Int32 × Mm) :=
  mm_lt (kI σ o 0 (0 : Int32)) fun m2 =>
  (f_Mod_isIn z m2 p1 (0 : Int32) ((m2.1 o 35) - (1 : Int32))).bind fun q13 =>
  if q13 = 0 then (
    some (((-1) : Int32), m2)
  ) else (
    (mm_ldI (m2.1 (o + 14)) (z (o + 14)) p1).bind fun x24 =>
    some (x24, m2)
  )
set_option maxHeartbeats 4000000 in
set_option maxRecDepth 100000 in
theorem c_Mod_seatOf (l : Launch) {L : Ly} (hg : gd_ok L) {σ : Mm} {o : Nat} {p1 : Int32} (k_o_0 : ly_k L o = 11) {res : Int32 × Mm} (hf0 : f_Mod_seatOf (ly_z L) σ o p1 = some res) : CtI l y_Mod_seatOf b_Mod_seatOf 2 (some .int) rm_Mod_seatOf L [.ref (ly_a L o), .int p1] σ res.1 res.2 := by
  refine ct_i hg (by decide) (Nat.le_of_ble_eq_true rfl) ?_
  intro E A Q hE C hN
  subst hE
  have k_o_14 : ly_k L (o + 14) = 20 := gd_Mod_seated hg k_o_0
  unfold f_Mod_seatOf at hf0
  show GW E L A 2 0 0 Q σ 0 [(0, .ref (ly_a L o)), (1, .int p1)] []
  refine gw_aload_n C 0 d_Mod_seatOf_0 rfl rfl ?_
  refine gw_iconst C (0 : Int32) d_Mod_seatOf_1 (by decide) ?_
  obtain ⟨m2, em2, hf0⟩ := mx_lt hf0
  refine gw_putI t_Mod C 0 d_Mod_seatOf_2 k_o_0 (by decide) i_Mod rfl rfl (by decide) qw_1165 rfl rfl t_Mod_ok n_Mod rfl (t_Mod_ok 0 (by decide)) rfl rfl em2 ?_
  refine gw_iload_n C 1 d_Mod_seatOf_5 rfl rfl ?_
  refine gw_iconst C (0 : Int32) d_Mod_seatOf_6 (by decide) ?_
  refine gw_aload_n C 0 d_Mod_seatOf_7 rfl rfl ?_
  refine gw_getI C 35 d_Mod_seatOf_8 k_o_0 (by decide) i_Mod rfl rfl (by decide) qw_1200 rfl rfl ?_
  refine gw_iconst C (1 : Int32) d_Mod_seatOf_11 (by decide) ?_
  refine gw_isub C d_Mod_seatOf_12 ?_
  obtain ⟨q13, hq13, hf0⟩ := mx_bd hf0
  refine gw_callIS C (c_Mod_isIn _ hg hq13) d_Mod_seatOf_13 3 qw_1356 qw_1357 qw_12 qw_1358 hd_Mod_isIn rfl rfl (Nat.le_of_ble_eq_true rfl) ⟨rfl, rfl, Nat.le_of_ble_eq_true rfl, Nat.le_of_ble_eq_true rfl⟩ ⟨Nat.zero_le _, Nat.zero_le _⟩ ?_
  refine gw_if_eq C 28 d_Mod_seatOf_16 (by decide) (fun hc => ?_) (fun hc => ?_)
  · replace hf0 := mx_t hc hf0
    refine gw_iconst C ((-1) : Int32) d_Mod_seatOf_28 (by decide) ?_
    exact en_i hN hf0 d_Mod_seatOf_29
  · replace hf0 := mx_f hc hf0
    refine gw_aload_n C 0 d_Mod_seatOf_19 rfl rfl ?_
    refine gw_getA C 34 d_Mod_seatOf_20 k_o_0 (by decide) i_Mod rfl rfl (by decide) qw_1199 rfl rfl (o + 14) rfl ?_
    refine gw_iload_n C 1 d_Mod_seatOf_23 rfl rfl ?_
    obtain ⟨x24, hx24, hf0⟩ := mx_bd hf0
    obtain ⟨gx24, ex24⟩ := mx_ldI hx24
    refine gw_iald C d_Mod_seatOf_24 k_o_14 gx24 ex24 ?_
    refine gw_goto C 29 d_Mod_seatOf_25 (by decide) ?_
    exact en_i hN hf0 d_Mod_seatOf_29

/-! NameHatModel.sit()Z -/
abbrev b_Mod_sit : ByteArray := prog_14_method_73_code
def y_Mod_sit : MethodName := ⟨"NameHatModel", "sit", "()Z"⟩
abbrev rm_Mod_sit : Room := { frames := 0, cells := 0, slots := 0, locals := 0 }
theorem hd_Mod_sit : y_Mod_sit.cls ≠ "java/lang/invoke/MethodHandle" ∧ y_Mod_sit.cls ≠ "java/lang/invoke/VarHandle" ∧ (parseMethodDescriptor y_Mod_sit.desc).map (fun d => d.parameters.length) = some 0 := by decide +kernel
theorem d_Mod_sit_0 : decode b_Mod_sit 0 = .ok (.aload_n 0, 1) := by decide +kernel
theorem d_Mod_sit_1 : decode b_Mod_sit 1 = .ok (.iconst 0, 1) := by decide +kernel
theorem d_Mod_sit_2 : decode b_Mod_sit 2 = .ok (.putfield 1, 3) := by decide +kernel
theorem d_Mod_sit_5 : decode b_Mod_sit 5 = .ok (.aload_n 0, 1) := by decide +kernel
theorem d_Mod_sit_6 : decode b_Mod_sit 6 = .ok (.getfield 77, 3) := by decide +kernel
theorem d_Mod_sit_9 : decode b_Mod_sit 9 = .ok (.ifCond .lt 16, 3) := by decide +kernel
theorem d_Mod_sit_12 : decode b_Mod_sit 12 = .ok (.aload_n 0, 1) := by decide +kernel
theorem d_Mod_sit_13 : decode b_Mod_sit 13 = .ok (.getfield 77, 3) := by decide +kernel
theorem d_Mod_sit_16 : decode b_Mod_sit 16 = .ok (.aload_n 0, 1) := by decide +kernel
theorem d_Mod_sit_17 : decode b_Mod_sit 17 = .ok (.getfield 33, 3) := by decide +kernel
theorem d_Mod_sit_20 : decode b_Mod_sit 20 = .ok (.iconst 1, 1) := by decide +kernel
theorem d_Mod_sit_21 : decode b_Mod_sit 21 = .ok (.iaload, 1) := by decide +kernel
theorem d_Mod_sit_22 : decode b_Mod_sit 22 = .ok (.if_icmp .eq 5, 3) := by decide +kernel
theorem d_Mod_sit_25 : decode b_Mod_sit 25 = .ok (.iconst 0, 1) := by decide +kernel
theorem d_Mod_sit_26 : decode b_Mod_sit 26 = .ok (.ireturn, 1) := by decide +kernel
theorem d_Mod_sit_27 : decode b_Mod_sit 27 = .ok (.iconst 0, 1) := by decide +kernel
theorem d_Mod_sit_28 : decode b_Mod_sit 28 = .ok (.istore_n 1, 1) := by decide +kernel
theorem d_Mod_sit_29 : decode b_Mod_sit 29 = .ok (.iload_n 1, 1) := by decide +kernel
theorem d_Mod_sit_30 : decode b_Mod_sit 30 = .ok (.aload_n 0, 1) := by decide +kernel
theorem d_Mod_sit_31 : decode b_Mod_sit 31 = .ok (.getfield 33, 3) := by decide +kernel
theorem d_Mod_sit_34 : decode b_Mod_sit 34 = .ok (.iconst 1, 1) := by decide +kernel
theorem d_Mod_sit_35 : decode b_Mod_sit 35 = .ok (.iaload, 1) := by decide +kernel
theorem d_Mod_sit_36 : decode b_Mod_sit 36 = .ok (.if_icmp .ge 26, 3) := by decide +kernel
theorem d_Mod_sit_39 : decode b_Mod_sit 39 = .ok (.aload_n 0, 1) := by decide +kernel
theorem d_Mod_sit_40 : decode b_Mod_sit 40 = .ok (.getfield 74, 3) := by decide +kernel
theorem d_Mod_sit_43 : decode b_Mod_sit 43 = .ok (.iload_n 1, 1) := by decide +kernel
theorem d_Mod_sit_44 : decode b_Mod_sit 44 = .ok (.iaload, 1) := by decide +kernel
theorem d_Mod_sit_45 : decode b_Mod_sit 45 = .ok (.aload_n 0, 1) := by decide +kernel
theorem d_Mod_sit_46 : decode b_Mod_sit 46 = .ok (.getfield 33, 3) := by decide +kernel
theorem d_Mod_sit_49 : decode b_Mod_sit 49 = .ok (.iconst 2, 1) := by decide +kernel
theorem d_Mod_sit_50 : decode b_Mod_sit 50 = .ok (.iaload, 1) := by decide +kernel
theorem d_Mod_sit_51 : decode b_Mod_sit 51 = .ok (.if_icmp .lt 5, 3) := by decide +kernel
theorem d_Mod_sit_54 : decode b_Mod_sit 54 = .ok (.iconst 0, 1) := by decide +kernel
theorem d_Mod_sit_55 : decode b_Mod_sit 55 = .ok (.ireturn, 1) := by decide +kernel
theorem d_Mod_sit_56 : decode b_Mod_sit 56 = .ok (.iinc 1 1, 3) := by decide +kernel
theorem d_Mod_sit_59 : decode b_Mod_sit 59 = .ok (.goto (-30), 3) := by decide +kernel
theorem d_Mod_sit_62 : decode b_Mod_sit 62 = .ok (.iconst 0, 1) := by decide +kernel
theorem d_Mod_sit_63 : decode b_Mod_sit 63 = .ok (.istore_n 1, 1) := by decide +kernel
theorem d_Mod_sit_64 : decode b_Mod_sit 64 = .ok (.iload_n 1, 1) := by decide +kernel
theorem d_Mod_sit_65 : decode b_Mod_sit 65 = .ok (.aload_n 0, 1) := by decide +kernel
theorem d_Mod_sit_66 : decode b_Mod_sit 66 = .ok (.getfield 33, 3) := by decide +kernel
theorem d_Mod_sit_69 : decode b_Mod_sit 69 = .ok (.iconst 1, 1) := by decide +kernel
theorem d_Mod_sit_70 : decode b_Mod_sit 70 = .ok (.iaload, 1) := by decide +kernel
theorem d_Mod_sit_71 : decode b_Mod_sit 71 = .ok (.if_icmp .ge 24, 3) := by decide +kernel
theorem d_Mod_sit_74 : decode b_Mod_sit 74 = .ok (.aload_n 0, 1) := by decide +kernel
theorem d_Mod_sit_75 : decode b_Mod_sit 75 = .ok (.getfield 33, 3) := by decide +kernel
theorem d_Mod_sit_78 : decode b_Mod_sit 78 = .ok (.bipush 115, 2) := by decide +kernel
theorem d_Mod_sit_80 : decode b_Mod_sit 80 = .ok (.iload_n 1, 1) := by decide +kernel
theorem d_Mod_sit_81 : decode b_Mod_sit 81 = .ok (.iadd, 1) := by decide +kernel
theorem d_Mod_sit_82 : decode b_Mod_sit 82 = .ok (.aload_n 0, 1) := by decide +kernel
theorem d_Mod_sit_83 : decode b_Mod_sit 83 = .ok (.getfield 74, 3) := by decide +kernel
theorem d_Mod_sit_86 : decode b_Mod_sit 86 = .ok (.iload_n 1, 1) := by decide +kernel
theorem d_Mod_sit_87 : decode b_Mod_sit 87 = .ok (.iaload, 1) := by decide +kernel
theorem d_Mod_sit_88 : decode b_Mod_sit 88 = .ok (.iastore, 1) := by decide +kernel
theorem d_Mod_sit_89 : decode b_Mod_sit 89 = .ok (.iinc 1 1, 3) := by decide +kernel
theorem d_Mod_sit_92 : decode b_Mod_sit 92 = .ok (.goto (-28), 3) := by decide +kernel
theorem d_Mod_sit_95 : decode b_Mod_sit 95 = .ok (.iconst 1, 1) := by decide +kernel
theorem d_Mod_sit_96 : decode b_Mod_sit 96 = .ok (.ireturn, 1) := by decide +kernel
noncomputable def f_Mod_sit_L29 (z : Nat → Nat) (σ : Mm) (o : Nat) (s29 : Int32) : Option ((Int32) ⊕ ((Int32 × Mm) ⊕ (Unit))) :=
  (mm_ldI (σ.1 (o + 2)) (z (o + 2)) (1 : Int32)).bind fun x35 =>
  if x35 ≤ s29 then (
    some (.inr (.inr ()))
  ) else (
    (mm_ldI (σ.1 (o + 14)) (z (o + 14)) s29).bind fun x44 =>
    (mm_ldI (σ.1 (o + 2)) (z (o + 2)) (2 : Int32)).bind fun x50 =>
    if x44 < x50 then (
      mm_lt (s29 + (1 : Int32)) fun x56 =>
      some (.inl x56)
    ) else (
      some (.inr (.inl ((0 : Int32), σ)))
    )
  )
noncomputable def f_Mod_sit_L64 (z : Nat → Nat) (o : Nat) (s64 : Int32 × Mm) : Option ((Int32 × Mm) ⊕ (Mm)) :=
  (mm_ldI (s64.2.1 (o + 2)) (z (o + 2)) (1 : Int32)).bind fun x70 =>
  if x70 ≤ s64.1 then (
    some (.inr s64.2)
  ) else (
    (mm_ldI (s64.2.1 (o + 14)) (z (o + 14)) s64.1).bind fun x87 =>
    (mm_stI s64.2 (o + 2) (z (o + 2)) ((115 : Int32) + s64.1) x87).bind fun m88 =>
    mm_lt (s64.1 + (1 : Int32)) fun x89 =>
    some (.inl (x89, m88))
  )
noncomputable def f_Mod_sit (z : Nat → Nat) (σ : Mm) (o : Nat) : Option (Int32 × Mm) :=
  mm_lt (kI σ o 0 (0 : Int32)) fun m2 =>
  if (m2.1 o 35) < 0 then (
    some ((0 : Int32), m2)
  ) else (
    (mm_ldI (m2.1 (o + 2)) (z (o + 2)) (1 : Int32)).bind fun x21 =>
    if (m2.1 o 35) = x21 then (
      (mm_lp (f_Mod_sit_L29 z m2 o) (0 : Int32)).bind (Sum.elim (fun r9 => some r9) (fun x29_ =>
        (mm_lp (f_Mod_sit_L64 z o) ((0 : Int32), m2)).bind (fun q64 =>
          some ((1 : Int32), q64))))
    ) else (
      some ((0 : Int32), m2)
    )
  )
set_option maxHeartbeats 4000000 in
set_option maxRecDepth 100000 in
theorem c_Mod_sit (l : Launch) {L : Ly} (hg : gd_ok L) {σ : Mm} {o : Nat} (k_o_0 : ly_k L o = 11) {res : Int32 × Mm} (hf0 : f_Mod_sit (ly_z L) σ o = some res) : CtI l y_Mod_sit b_Mod_sit 2 (some .boolean) rm_Mod_sit L [.ref (ly_a L o)] σ res.1 res.2 := by
  refine ct_z hg (by decide) (Nat.le_of_ble_eq_true rfl) ?_
  intro E A Q hE C hN
  subst hE
  have k_o_2 : ly_k L (o + 2) = 20 := gd_Mod_s hg k_o_0
  have k_o_14 : ly_k L (o + 14) = 20 := gd_Mod_seated hg k_o_0
  unfold f_Mod_sit at hf0
  show GW E L A 2 0 0 Q σ 0 [(0, .ref (ly_a L o))] []
  refine gw_aload_n C 0 d_Mod_sit_0 rfl rfl ?_
  refine gw_iconst C (0 : Int32) d_Mod_sit_1 (by decide) ?_
  obtain ⟨m2, em2, hf0⟩ := mx_lt hf0
  refine gw_putI t_Mod C 0 d_Mod_sit_2 k_o_0 (by decide) i_Mod rfl rfl (by decide) qw_1165 rfl rfl t_Mod_ok n_Mod rfl (t_Mod_ok 0 (by decide)) rfl rfl em2 ?_
  refine gw_aload_n C 0 d_Mod_sit_5 rfl rfl ?_
  refine gw_getI C 35 d_Mod_sit_6 k_o_0 (by decide) i_Mod rfl rfl (by decide) qw_1200 rfl rfl ?_
  refine gw_if_lt C 25 d_Mod_sit_9 (by decide) (fun hc => ?_) (fun hc => ?_)
  · replace hf0 := mx_t hc hf0
    refine gw_iconst C (0 : Int32) d_Mod_sit_25 (by decide) ?_
    exact en_z hN (Or.inl rfl) hf0 d_Mod_sit_26
  · replace hf0 := mx_f hc hf0
    refine gw_aload_n C 0 d_Mod_sit_12 rfl rfl ?_
    refine gw_getI C 35 d_Mod_sit_13 k_o_0 (by decide) i_Mod rfl rfl (by decide) qw_1200 rfl rfl ?_
    refine gw_aload_n C 0 d_Mod_sit_16 rfl rfl ?_
    refine gw_getA C 6 d_Mod_sit_17 k_o_0 (by decide) i_Mod rfl rfl (by decide) qw_1171 rfl rfl (o + 2) rfl ?_
    refine gw_iconst C (1 : Int32) d_Mod_sit_20 (by decide) ?_
    obtain ⟨x21, hx21, hf0⟩ := mx_bd hf0
    obtain ⟨gx21, ex21⟩ := mx_ldI hx21
    refine gw_iald C d_Mod_sit_21 k_o_2 gx21 ex21 ?_
    refine gw_icmp_eq C 27 d_Mod_sit_22 (by decide) (fun hc => ?_) (fun hc => ?_)
    · replace hf0 := mx_t hc hf0
      refine gw_iconst C (0 : Int32) d_Mod_sit_27 (by decide) ?_
      refine gw_istore_n C [(1, .int (0 : Int32)), (0, .ref (ly_a L o))] d_Mod_sit_28 rfl (by decide) rfl ?_
      obtain ⟨q29, hq29, hf0⟩ := mx_bd hf0
      have hk29 : ∀ x29_, q29 = .inr x29_ → GW E L A 2 0 0 Q m2 62 [(0, .ref (ly_a L o))] [] := by
        intro x29_ hx9
        subst hx9
        replace hf0 := mx_sr hf0
        refine gw_iconst C (0 : Int32) d_Mod_sit_62 (by decide) ?_
        refine gw_istore_n C [(1, .int (0 : Int32)), (0, .ref (ly_a L o))] d_Mod_sit_63 rfl (by decide) rfl ?_
        obtain ⟨q64, hq64, hf0⟩ := mx_bd hf0
        have hk64 : ∀ x9, q64 = x9 → GW E L A 2 0 0 Q x9 95 [] [] := by
          intro x9 hx9
          subst hx9
          refine gw_iconst C (1 : Int32) d_Mod_sit_95 (by decide) ?_
          exact en_z hN (Or.inr rfl) hf0 d_Mod_sit_96
        refine gw_sub [1, 0] (lv' := [(0, .ref (ly_a L o)), (1, .int (0 : Int32))]) rfl ?_
        refine mm_rule hq64 (P := fun (s64 : Int32 × Mm) => GW E L A 2 0 0 Q s64.2 64 [(0, .ref (ly_a L o)), (1, .int s64.1)] []) ?_
        intro s64 ih64 hx64 ⟨w64, hb64⟩
        have hf1 := hb64
        unfold f_Mod_sit_L64 at hf1
        refine gw_iload_n C 1 d_Mod_sit_64 rfl rfl ?_
        refine gw_aload_n C 0 d_Mod_sit_65 rfl rfl ?_
        refine gw_getA C 6 d_Mod_sit_66 k_o_0 (by decide) i_Mod rfl rfl (by decide) qw_1171 rfl rfl (o + 2) rfl ?_
        refine gw_iconst C (1 : Int32) d_Mod_sit_69 (by decide) ?_
        obtain ⟨x70, hx70, hf1⟩ := mx_bd hf1
        obtain ⟨gx70, ex70⟩ := mx_ldI hx70
        refine gw_iald C d_Mod_sit_70 k_o_2 gx70 ex70 ?_
        refine gw_icmp_ge C 95 d_Mod_sit_71 (by decide) (fun hc => ?_) (fun hc => ?_)
        · replace hf1 := mx_t hc hf1
          exact gw_go [] (hk64 s64.2 (hx64 _ (hb64.trans hf1.symm)).symm) rfl
        · replace hf1 := mx_f hc hf1
          refine gw_aload_n C 0 d_Mod_sit_74 rfl rfl ?_
          refine gw_getA C 6 d_Mod_sit_75 k_o_0 (by decide) i_Mod rfl rfl (by decide) qw_1171 rfl rfl (o + 2) rfl ?_
          refine gw_bipush C (115 : Int32) d_Mod_sit_78 (by decide) ?_
          refine gw_iload_n C 1 d_Mod_sit_80 rfl rfl ?_
          refine gw_iadd C d_Mod_sit_81 ?_
          refine gw_aload_n C 0 d_Mod_sit_82 rfl rfl ?_
          refine gw_getA C 34 d_Mod_sit_83 k_o_0 (by decide) i_Mod rfl rfl (by decide) qw_1199 rfl rfl (o + 14) rfl ?_
          refine gw_iload_n C 1 d_Mod_sit_86 rfl rfl ?_
          obtain ⟨x87, hx87, hf1⟩ := mx_bd hf1
          obtain ⟨gx87, ex87⟩ := mx_ldI hx87
          refine gw_iald C d_Mod_sit_87 k_o_14 gx87 ex87 ?_
          obtain ⟨m88, hm88, hf1⟩ := mx_bd hf1
          obtain ⟨gm88, em88⟩ := mx_stI hm88
          refine gw_iast C d_Mod_sit_88 k_o_2 gm88 em88 ?_
          obtain ⟨x89, ex89, hf1⟩ := mx_lt hf1
          refine gw_iinc C 1 [(1, .int x89), (0, .ref (ly_a L o))] d_Mod_sit_89 rfl (by rw [ex89]; rfl) (by decide) rfl ?_
          refine gw_goto C 64 d_Mod_sit_92 (by decide) ?_
          exact gw_go [1, 0] (ih64 (x89, m88) (hb64.trans hf1.symm)) rfl
      refine gw_sub [1, 0] (lv' := [(0, .ref (ly_a L o)), (1, .int (0 : Int32))]) rfl ?_
      refine mm_rule hq29 (P := fun (s29 : Int32) => GW E L A 2 0 0 Q m2 29 [(0, .ref (ly_a L o)), (1, .int s29)] []) ?_
      intro s29 ih29 hx29 ⟨w29, hb29⟩
      have hf1 := hb29
      unfold f_Mod_sit_L29 at hf1
      refine gw_iload_n C 1 d_Mod_sit_29 rfl rfl ?_
      refine gw_aload_n C 0 d_Mod_sit_30 rfl rfl ?_
      refine gw_getA C 6 d_Mod_sit_31 k_o_0 (by decide) i_Mod rfl rfl (by decide) qw_1171 rfl rfl (o + 2) rfl ?_
      refine gw_iconst C (1 : Int32) d_Mod_sit_34 (by decide) ?_
      obtain ⟨x35, hx35, hf1⟩ := mx_bd hf1
      obtain ⟨gx35, ex35⟩ := mx_ldI hx35
      refine gw_iald C d_Mod_sit_35 k_o_2 gx35 ex35 ?_
      refine gw_icmp_ge C 62 d_Mod_sit_36 (by decide) (fun hc => ?_) (fun hc => ?_)
      · replace hf1 := mx_t hc hf1
        exact gw_go [0] (hk29 () (hx29 _ (hb29.trans hf1.symm)).symm) rfl
      · replace hf1 := mx_f hc hf1
        refine gw_aload_n C 0 d_Mod_sit_39 rfl rfl ?_
        refine gw_getA C 34 d_Mod_sit_40 k_o_0 (by decide) i_Mod rfl rfl (by decide) qw_1199 rfl rfl (o + 14) rfl ?_
        refine gw_iload_n C 1 d_Mod_sit_43 rfl rfl ?_
        obtain ⟨x44, hx44, hf1⟩ := mx_bd hf1
        obtain ⟨gx44, ex44⟩ := mx_ldI hx44
        refine gw_iald C d_Mod_sit_44 k_o_14 gx44 ex44 ?_
        refine gw_aload_n C 0 d_Mod_sit_45 rfl rfl ?_
        refine gw_getA C 6 d_Mod_sit_46 k_o_0 (by decide) i_Mod rfl rfl (by decide) qw_1171 rfl rfl (o + 2) rfl ?_
        refine gw_iconst C (2 : Int32) d_Mod_sit_49 (by decide) ?_
        obtain ⟨x50, hx50, hf1⟩ := mx_bd hf1
        obtain ⟨gx50, ex50⟩ := mx_ldI hx50
        refine gw_iald C d_Mod_sit_50 k_o_2 gx50 ex50 ?_
        refine gw_icmp_lt C 56 d_Mod_sit_51 (by decide) (fun hc => ?_) (fun hc => ?_)
        · replace hf1 := mx_t hc hf1
          obtain ⟨x56, ex56, hf1⟩ := mx_lt hf1
          refine gw_iinc C 1 [(1, .int x56), (0, .ref (ly_a L o))] d_Mod_sit_56 rfl (by rw [ex56]; rfl) (by decide) rfl ?_
          refine gw_goto C 29 d_Mod_sit_59 (by decide) ?_
          exact gw_go [1, 0] (ih29 x56 (hb29.trans hf1.symm)) rfl
        · replace hf1 := mx_f hc hf1
          refine gw_iconst C (0 : Int32) d_Mod_sit_54 (by decide) ?_
          have hr29 := hx29 _ (hb29.trans hf1.symm)
          subst hr29
          replace hf0 := mx_sl hf0
          exact en_z hN (Or.inl rfl) hf0 d_Mod_sit_55
    · replace hf0 := mx_f hc hf0
      refine gw_iconst C (0 : Int32) d_Mod_sit_25 (by decide) ?_
      exact en_z hN (Or.inl rfl) hf0 d_Mod_sit_26
