/-! NameHatModel.isNew(I)Z -/
abbrev b_Mod_isNew : ByteArray := prog_14_method_49_code
def y_Mod_isNew : MethodName := ⟨"NameHatModel", "isNew", "(I)Z"⟩
abbrev rm_Mod_isNew : Room := { frames := 0, cells := 0, slots := 0, locals := 0 }
theorem hd_Mod_isNew : y_Mod_isNew.cls ≠ "java/lang/invoke/MethodHandle" ∧ y_Mod_isNew.cls ≠ "java/lang/invoke/VarHandle" ∧ (parseMethodDescriptor y_Mod_isNew.desc).map (fun d => d.parameters.length) = some 1 := by decide +kernel
theorem d_Mod_isNew_0 : decode b_Mod_isNew 0 = .ok (.iconst 0, 1) := by decide +kernel
theorem d_Mod_isNew_1 : decode b_Mod_isNew 1 = .ok (.istore_n 2, 1) := by decide +kernel
theorem d_Mod_isNew_2 : decode b_Mod_isNew 2 = .ok (.iload_n 2, 1) := by decide +kernel
theorem d_Mod_isNew_3 : decode b_Mod_isNew 3 = .ok (.iload_n 1, 1) := by decide +kernel
theorem d_Mod_isNew_4 : decode b_Mod_isNew 4 = .ok (.if_icmp .ge 26, 3) := by decide +kernel
theorem d_Mod_isNew_7 : decode b_Mod_isNew 7 = .ok (.aload_n 0, 1) := by decide +kernel
theorem d_Mod_isNew_8 : decode b_Mod_isNew 8 = .ok (.getfield 50, 3) := by decide +kernel
theorem d_Mod_isNew_11 : decode b_Mod_isNew 11 = .ok (.iload_n 2, 1) := by decide +kernel
theorem d_Mod_isNew_12 : decode b_Mod_isNew 12 = .ok (.iaload, 1) := by decide +kernel
theorem d_Mod_isNew_13 : decode b_Mod_isNew 13 = .ok (.aload_n 0, 1) := by decide +kernel
theorem d_Mod_isNew_14 : decode b_Mod_isNew 14 = .ok (.getfield 50, 3) := by decide +kernel
theorem d_Mod_isNew_17 : decode b_Mod_isNew 17 = .ok (.iload_n 1, 1) := by decide +kernel
theorem d_Mod_isNew_18 : decode b_Mod_isNew 18 = .ok (.iaload, 1) := by decide +kernel
theorem d_Mod_isNew_19 : decode b_Mod_isNew 19 = .ok (.if_icmp .ne 5, 3) := by decide +kernel
theorem d_Mod_isNew_22 : decode b_Mod_isNew 22 = .ok (.iconst 0, 1) := by decide +kernel
theorem d_Mod_isNew_23 : decode b_Mod_isNew 23 = .ok (.ireturn, 1) := by decide +kernel
theorem d_Mod_isNew_24 : decode b_Mod_isNew 24 = .ok (.iinc 2 1, 3) := by decide +kernel
theorem d_Mod_isNew_27 : decode b_Mod_isNew 27 = .ok (.goto (-25), 3) := by decide +kernel
theorem d_Mod_isNew_30 : decode b_Mod_isNew 30 = .ok (.iconst 1, 1) := by decide +kernel
theorem d_Mod_isNew_31 : decode b_Mod_isNew 31 = .ok (.ireturn, 1) := by decide +kernel
noncomputable def f_Mod_isNew_L2 (z : Nat → Nat) (σ : Mm) (o : Nat) (v1 : Int32) (s2 : Int32) : Option ((Int32) ⊕ ((Int32) ⊕ (Unit))) :=
  if v1 ≤ s2 then (
    some (.inr (.inr ()))
  ) else (
    (mm_ldI (σ.1 (o + 7)) (z (o + 7)) s2).bind fun x12 =>
    (mm_ldI (σ.1 (o + 7)) (z (o + 7)) v1).bind fun x18 =>
    if x12 = x18 then (
      some (.inr (.inl (0 : Int32)))
    ) else (
      mm_lt (s2 + (1 : Int32)) fun x24 =>
      some (.inl x24)
    )
  )
noncomputable def f_Mod_isNew (z : Nat → Nat) (σ : Mm) (o : Nat) (p1 : Int32) : Option (Int32) :=
  (mm_lp (f_Mod_isNew_L2 z σ o p1) (0 : Int32)).bind (Sum.elim (fun r9 => some r9) (fun x2_ =>
    some (1 : Int32)))
set_option maxHeartbeats 4000000 in
set_option maxRecDepth 100000 in
theorem c_Mod_isNew (l : Launch) {L : Ly} (hg : gd_ok L) {σ : Mm} {o : Nat} {p1 : Int32} (k_o_0 : ly_k L o = 11) {res : Int32} (hf0 : f_Mod_isNew (ly_z L) σ o p1 = some res) : CtI l y_Mod_isNew b_Mod_isNew 3 (some .boolean) rm_Mod_isNew L [.ref (ly_a L o), .int p1] σ res σ := by
  refine ct_z hg (by decide) (Nat.le_of_ble_eq_true rfl) ?_
  intro E A Q hE C hN
  subst hE
  have k_o_7 : ly_k L (o + 7) = 20 := gd_Mod_ring hg k_o_0
  unfold f_Mod_isNew at hf0
  show GW E L A 3 0 0 Q σ 0 [(0, .ref (ly_a L o)), (1, .int p1)] []
  refine gw_iconst C (0 : Int32) d_Mod_isNew_0 (by decide) ?_
  refine gw_istore_n C [(2, .int (0 : Int32)), (0, .ref (ly_a L o)), (1, .int p1)] d_Mod_isNew_1 rfl (by decide) rfl ?_
  obtain ⟨q2, hq2, hf0⟩ := mx_bd hf0
  have hk2 : ∀ x2_, q2 = .inr x2_ → GW E L A 3 0 0 Q σ 30 [] [] := by
    intro x2_ hx9
    subst hx9
    replace hf0 := mx_sr hf0
    refine gw_iconst C (1 : Int32) d_Mod_isNew_30 (by decide) ?_
    exact en_zp hN (Or.inr rfl) hf0 d_Mod_isNew_31
  refine gw_sub [1, 2, 0] (lv' := [(0, .ref (ly_a L o)), (1, .int p1), (2, .int (0 : Int32))]) rfl ?_
  refine mm_rule hq2 (P := fun (s2 : Int32) => GW E L A 3 0 0 Q σ 2 [(0, .ref (ly_a L o)), (1, .int p1), (2, .int s2)] []) ?_
  intro s2 ih2 hx2 ⟨w2, hb2⟩
  have hf1 := hb2
  unfold f_Mod_isNew_L2 at hf1
  refine gw_iload_n C 2 d_Mod_isNew_2 rfl rfl ?_
  refine gw_iload_n C 1 d_Mod_isNew_3 rfl rfl ?_
  refine gw_icmp_ge C 30 d_Mod_isNew_4 (by decide) (fun hc => ?_) (fun hc => ?_)
  · replace hf1 := mx_t hc hf1
    exact gw_go [] (hk2 () (hx2 _ (hb2.trans hf1.symm)).symm) rfl
  · replace hf1 := mx_f hc hf1
    refine gw_aload_n C 0 d_Mod_isNew_7 rfl rfl ?_
    refine gw_getA C 24 d_Mod_isNew_8 k_o_0 (by decide) i_Mod rfl rfl (by decide) qw_1189 rfl rfl (o + 7) rfl ?_
    refine gw_iload_n C 2 d_Mod_isNew_11 rfl rfl ?_
    obtain ⟨x12, hx12, hf1⟩ := mx_bd hf1
    obtain ⟨gx12, ex12⟩ := mx_ldI hx12
    refine gw_iald C d_Mod_isNew_12 k_o_7 gx12 ex12 ?_
    refine gw_aload_n C 0 d_Mod_isNew_13 rfl rfl ?_
    refine gw_getA C 24 d_Mod_isNew_14 k_o_0 (by decide) i_Mod rfl rfl (by decide) qw_1189 rfl rfl (o + 7) rfl ?_
    refine gw_iload_n C 1 d_Mod_isNew_17 rfl rfl ?_
    obtain ⟨x18, hx18, hf1⟩ := mx_bd hf1
    obtain ⟨gx18, ex18⟩ := mx_ldI hx18
    refine gw_iald C d_Mod_isNew_18 k_o_7 gx18 ex18 ?_
    refine gw_icmp_ne C 24 d_Mod_isNew_19 (by decide) (fun hc => ?_) (fun hc => ?_)
    · replace hf1 := mx_f hc hf1
      obtain ⟨x24, ex24, hf1⟩ := mx_lt hf1
      refine gw_iinc C 2 [(2, .int x24), (0, .ref (ly_a L o)), (1, .int p1)] d_Mod_isNew_24 rfl (by rw [ex24]; rfl) (by decide) rfl ?_
      refine gw_goto C 2 d_Mod_isNew_27 (by decide) ?_
      exact gw_go [1, 2, 0] (ih2 x24 (hb2.trans hf1.symm)) rfl
    · replace hf1 := mx_t hc hf1
      refine gw_iconst C (0 : Int32) d_Mod_isNew_22 (by decide) ?_
      have hr2 := hx2 _ (hb2.trans hf1.symm)
      subst hr2
      replace hf0 := mx_sl hf0
      exact en_zp hN (Or.inl rfl) hf0 d_Mod_isNew_23

/-! NameHatModel.findsRing(I)Z -/
abbrev b_Mod_findsRing : ByteArray := prog_14_method_50_code
def y_Mod_findsRing : MethodName := ⟨"NameHatModel", "findsRing", "(I)Z"⟩
abbrev rm_Mod_findsRing : Room := { frames := 2, cells := 0, slots := 0, locals := 45 }
theorem hd_Mod_findsRing : y_Mod_findsRing.cls ≠ "java/lang/invoke/MethodHandle" ∧ y_Mod_findsRing.cls ≠ "java/lang/invoke/VarHandle" ∧ (parseMethodDescriptor y_Mod_findsRing.desc).map (fun d => d.parameters.length) = some 1 := by decide +kernel
theorem d_Mod_findsRing_0 : decode b_Mod_findsRing 0 = .ok (.iconst 0, 1) := by decide +kernel
theorem d_Mod_findsRing_1 : decode b_Mod_findsRing 1 = .ok (.istore_n 2, 1) := by decide +kernel
theorem d_Mod_findsRing_2 : decode b_Mod_findsRing 2 = .ok (.aload_n 0, 1) := by decide +kernel
theorem d_Mod_findsRing_3 : decode b_Mod_findsRing 3 = .ok (.getfield 50, 3) := by decide +kernel
theorem d_Mod_findsRing_6 : decode b_Mod_findsRing 6 = .ok (.iconst 0, 1) := by decide +kernel
theorem d_Mod_findsRing_7 : decode b_Mod_findsRing 7 = .ok (.iconst (-1), 1) := by decide +kernel
theorem d_Mod_findsRing_8 : decode b_Mod_findsRing 8 = .ok (.iastore, 1) := by decide +kernel
theorem d_Mod_findsRing_9 : decode b_Mod_findsRing 9 = .ok (.iload_n 2, 1) := by decide +kernel
theorem d_Mod_findsRing_10 : decode b_Mod_findsRing 10 = .ok (.ifCond .lt 144, 3) := by decide +kernel
theorem d_Mod_findsRing_13 : decode b_Mod_findsRing 13 = .ok (.aload_n 0, 1) := by decide +kernel
theorem d_Mod_findsRing_14 : decode b_Mod_findsRing 14 = .ok (.getfield 50, 3) := by decide +kernel
theorem d_Mod_findsRing_17 : decode b_Mod_findsRing 17 = .ok (.iload_n 2, 1) := by decide +kernel
theorem d_Mod_findsRing_18 : decode b_Mod_findsRing 18 = .ok (.dup2, 1) := by decide +kernel
theorem d_Mod_findsRing_19 : decode b_Mod_findsRing 19 = .ok (.iaload, 1) := by decide +kernel
theorem d_Mod_findsRing_20 : decode b_Mod_findsRing 20 = .ok (.iconst 1, 1) := by decide +kernel
theorem d_Mod_findsRing_21 : decode b_Mod_findsRing 21 = .ok (.iadd, 1) := by decide +kernel
theorem d_Mod_findsRing_22 : decode b_Mod_findsRing 22 = .ok (.iastore, 1) := by decide +kernel
theorem d_Mod_findsRing_23 : decode b_Mod_findsRing 23 = .ok (.aload_n 0, 1) := by decide +kernel
theorem d_Mod_findsRing_24 : decode b_Mod_findsRing 24 = .ok (.getfield 50, 3) := by decide +kernel
theorem d_Mod_findsRing_27 : decode b_Mod_findsRing 27 = .ok (.iload_n 2, 1) := by decide +kernel
theorem d_Mod_findsRing_28 : decode b_Mod_findsRing 28 = .ok (.iaload, 1) := by decide +kernel
theorem d_Mod_findsRing_29 : decode b_Mod_findsRing 29 = .ok (.aload_n 0, 1) := by decide +kernel
theorem d_Mod_findsRing_30 : decode b_Mod_findsRing 30 = .ok (.getfield 33, 3) := by decide +kernel
theorem d_Mod_findsRing_33 : decode b_Mod_findsRing 33 = .ok (.iconst 1, 1) := by decide +kernel
theorem d_Mod_findsRing_34 : decode b_Mod_findsRing 34 = .ok (.iaload, 1) := by decide +kernel
theorem d_Mod_findsRing_35 : decode b_Mod_findsRing 35 = .ok (.if_icmp .ne 9, 3) := by decide +kernel
theorem d_Mod_findsRing_38 : decode b_Mod_findsRing 38 = .ok (.iinc 2 (-1), 3) := by decide +kernel
theorem d_Mod_findsRing_41 : decode b_Mod_findsRing 41 = .ok (.goto (-32), 3) := by decide +kernel
theorem d_Mod_findsRing_44 : decode b_Mod_findsRing 44 = .ok (.iload_n 2, 1) := by decide +kernel
theorem d_Mod_findsRing_45 : decode b_Mod_findsRing 45 = .ok (.ifCond .eq 47, 3) := by decide +kernel
theorem d_Mod_findsRing_48 : decode b_Mod_findsRing 48 = .ok (.aload_n 0, 1) := by decide +kernel
theorem d_Mod_findsRing_49 : decode b_Mod_findsRing 49 = .ok (.getfield 50, 3) := by decide +kernel
theorem d_Mod_findsRing_52 : decode b_Mod_findsRing 52 = .ok (.iload_n 2, 1) := by decide +kernel
theorem d_Mod_findsRing_53 : decode b_Mod_findsRing 53 = .ok (.iaload, 1) := by decide +kernel
theorem d_Mod_findsRing_54 : decode b_Mod_findsRing 54 = .ok (.aload_n 0, 1) := by decide +kernel
theorem d_Mod_findsRing_55 : decode b_Mod_findsRing 55 = .ok (.getfield 50, 3) := by decide +kernel
theorem d_Mod_findsRing_58 : decode b_Mod_findsRing 58 = .ok (.iconst 0, 1) := by decide +kernel
theorem d_Mod_findsRing_59 : decode b_Mod_findsRing 59 = .ok (.iaload, 1) := by decide +kernel
theorem d_Mod_findsRing_60 : decode b_Mod_findsRing 60 = .ok (.if_icmp .le 36, 3) := by decide +kernel
theorem d_Mod_findsRing_63 : decode b_Mod_findsRing 63 = .ok (.aload_n 0, 1) := by decide +kernel
theorem d_Mod_findsRing_64 : decode b_Mod_findsRing 64 = .ok (.iload_n 2, 1) := by decide +kernel
theorem d_Mod_findsRing_65 : decode b_Mod_findsRing 65 = .ok (.invokevirtual 281, 3) := by decide +kernel
theorem d_Mod_findsRing_68 : decode b_Mod_findsRing 68 = .ok (.ifCond .eq 28, 3) := by decide +kernel
theorem d_Mod_findsRing_71 : decode b_Mod_findsRing 71 = .ok (.aload_n 0, 1) := by decide +kernel
theorem d_Mod_findsRing_72 : decode b_Mod_findsRing 72 = .ok (.aload_n 0, 1) := by decide +kernel
theorem d_Mod_findsRing_73 : decode b_Mod_findsRing 73 = .ok (.getfield 50, 3) := by decide +kernel
theorem d_Mod_findsRing_76 : decode b_Mod_findsRing 76 = .ok (.iload_n 2, 1) := by decide +kernel
theorem d_Mod_findsRing_77 : decode b_Mod_findsRing 77 = .ok (.iconst 1, 1) := by decide +kernel
theorem d_Mod_findsRing_78 : decode b_Mod_findsRing 78 = .ok (.isub, 1) := by decide +kernel
theorem d_Mod_findsRing_79 : decode b_Mod_findsRing 79 = .ok (.iaload, 1) := by decide +kernel
theorem d_Mod_findsRing_80 : decode b_Mod_findsRing 80 = .ok (.aload_n 0, 1) := by decide +kernel
theorem d_Mod_findsRing_81 : decode b_Mod_findsRing 81 = .ok (.getfield 50, 3) := by decide +kernel
theorem d_Mod_findsRing_84 : decode b_Mod_findsRing 84 = .ok (.iload_n 2, 1) := by decide +kernel
theorem d_Mod_findsRing_85 : decode b_Mod_findsRing 85 = .ok (.iaload, 1) := by decide +kernel
theorem d_Mod_findsRing_86 : decode b_Mod_findsRing 86 = .ok (.invokevirtual 284, 3) := by decide +kernel
theorem d_Mod_findsRing_89 : decode b_Mod_findsRing 89 = .ok (.ifCond .eq 7, 3) := by decide +kernel
theorem d_Mod_findsRing_92 : decode b_Mod_findsRing 92 = .ok (.iconst 1, 1) := by decide +kernel
theorem d_Mod_findsRing_93 : decode b_Mod_findsRing 93 = .ok (.goto 4, 3) := by decide +kernel
theorem d_Mod_findsRing_96 : decode b_Mod_findsRing 96 = .ok (.iconst 0, 1) := by decide +kernel
theorem d_Mod_findsRing_97 : decode b_Mod_findsRing 97 = .ok (.istore_n 3, 1) := by decide +kernel
theorem d_Mod_findsRing_98 : decode b_Mod_findsRing 98 = .ok (.iload_n 3, 1) := by decide +kernel
theorem d_Mod_findsRing_99 : decode b_Mod_findsRing 99 = .ok (.ifCond .ne 6, 3) := by decide +kernel
theorem d_Mod_findsRing_102 : decode b_Mod_findsRing 102 = .ok (.goto (-93), 3) := by decide +kernel
theorem d_Mod_findsRing_105 : decode b_Mod_findsRing 105 = .ok (.iload_n 2, 1) := by decide +kernel
theorem d_Mod_findsRing_106 : decode b_Mod_findsRing 106 = .ok (.iload_n 1, 1) := by decide +kernel
theorem d_Mod_findsRing_107 : decode b_Mod_findsRing 107 = .ok (.iconst 1, 1) := by decide +kernel
theorem d_Mod_findsRing_108 : decode b_Mod_findsRing 108 = .ok (.isub, 1) := by decide +kernel
theorem d_Mod_findsRing_109 : decode b_Mod_findsRing 109 = .ok (.if_icmp .ge 21, 3) := by decide +kernel
theorem d_Mod_findsRing_112 : decode b_Mod_findsRing 112 = .ok (.iinc 2 1, 3) := by decide +kernel
theorem d_Mod_findsRing_115 : decode b_Mod_findsRing 115 = .ok (.aload_n 0, 1) := by decide +kernel
theorem d_Mod_findsRing_116 : decode b_Mod_findsRing 116 = .ok (.getfield 50, 3) := by decide +kernel
theorem d_Mod_findsRing_119 : decode b_Mod_findsRing 119 = .ok (.iload_n 2, 1) := by decide +kernel
theorem d_Mod_findsRing_120 : decode b_Mod_findsRing 120 = .ok (.aload_n 0, 1) := by decide +kernel
theorem d_Mod_findsRing_121 : decode b_Mod_findsRing 121 = .ok (.getfield 50, 3) := by decide +kernel
theorem d_Mod_findsRing_124 : decode b_Mod_findsRing 124 = .ok (.iconst 0, 1) := by decide +kernel
theorem d_Mod_findsRing_125 : decode b_Mod_findsRing 125 = .ok (.iaload, 1) := by decide +kernel
theorem d_Mod_findsRing_126 : decode b_Mod_findsRing 126 = .ok (.iastore, 1) := by decide +kernel
theorem d_Mod_findsRing_127 : decode b_Mod_findsRing 127 = .ok (.goto 24, 3) := by decide +kernel
theorem d_Mod_findsRing_130 : decode b_Mod_findsRing 130 = .ok (.aload_n 0, 1) := by decide +kernel
theorem d_Mod_findsRing_131 : decode b_Mod_findsRing 131 = .ok (.aload_n 0, 1) := by decide +kernel
theorem d_Mod_findsRing_132 : decode b_Mod_findsRing 132 = .ok (.getfield 50, 3) := by decide +kernel
theorem d_Mod_findsRing_135 : decode b_Mod_findsRing 135 = .ok (.iload_n 2, 1) := by decide +kernel
theorem d_Mod_findsRing_136 : decode b_Mod_findsRing 136 = .ok (.iaload, 1) := by decide +kernel
theorem d_Mod_findsRing_137 : decode b_Mod_findsRing 137 = .ok (.aload_n 0, 1) := by decide +kernel
theorem d_Mod_findsRing_138 : decode b_Mod_findsRing 138 = .ok (.getfield 50, 3) := by decide +kernel
theorem d_Mod_findsRing_141 : decode b_Mod_findsRing 141 = .ok (.iconst 0, 1) := by decide +kernel
theorem d_Mod_findsRing_142 : decode b_Mod_findsRing 142 = .ok (.iaload, 1) := by decide +kernel
theorem d_Mod_findsRing_143 : decode b_Mod_findsRing 143 = .ok (.invokevirtual 284, 3) := by decide +kernel
theorem d_Mod_findsRing_146 : decode b_Mod_findsRing 146 = .ok (.ifCond .eq 5, 3) := by decide +kernel
theorem d_Mod_findsRing_149 : decode b_Mod_findsRing 149 = .ok (.iconst 1, 1) := by decide +kernel
theorem d_Mod_findsRing_150 : decode b_Mod_findsRing 150 = .ok (.ireturn, 1) := by decide +kernel
theorem d_Mod_findsRing_151 : decode b_Mod_findsRing 151 = .ok (.goto (-142), 3) := by decide +kernel
theorem d_Mod_findsRing_154 : decode b_Mod_findsRing 154 = .ok (.iconst 0, 1) := by decide +kernel
theorem d_Mod_findsRing_155 : decode b_Mod_findsRing 155 = .ok (.ireturn, 1) := by decide +kernel
noncomputable def f_Mod_findsRing_J97 (z : Nat → Nat) (o : Nat) (v1 : Int32) (v2 : Int32) (t97_0 : Int32) (m97 : Mm) : Option ((Int32 × Mm) ⊕ ((Int32 × Mm) ⊕ (Mm))) :=
  if t97_0 = 0 then (
    some (.inl (v2, m97))
  ) else (
    if (v1 - (1 : Int32)) ≤ v2 then (
      (mm_ldI (m97.1 (o + 7)) (z (o + 7)) v2).bind fun x136 =>
      (mm_ldI (m97.1 (o + 7)) (z (o + 7)) (0 : Int32)).bind fun x142 =>
      (f_Mod_isMore z m97 o x136 x142).bind fun q143 =>
      if q143 = 0 then (
        some (.inl (v2, m97))
      ) else (
        some (.inr (.inl ((1 : Int32), m97)))
      )
    ) else (
      mm_lt (v2 + (1 : Int32)) fun x112 =>
      (mm_ldI (m97.1 (o + 7)) (z (o + 7)) (0 : Int32)).bind fun x125 =>
      (mm_stI m97 (o + 7) (z (o + 7)) x112 x125).bind fun m126 =>
      some (.inl (x112, m126))
    )
  )
noncomputable def f_Mod_findsRing_L9 (z : Nat → Nat) (o : Nat) (v1 : Int32) (s9 : Int32 × Mm) : Option ((Int32 × Mm) ⊕ ((Int32 × Mm) ⊕ (Mm))) :=
  if s9.1 < 0 then (
    some (.inr (.inr s9.2))
  ) else (
    (mm_ldI (s9.2.1 (o + 7)) (z (o + 7)) s9.1).bind fun x19 =>
    (mm_stI s9.2 (o + 7) (z (o + 7)) s9.1 (x19 + (1 : Int32))).bind fun m22 =>
    (mm_ldI (m22.1 (o + 7)) (z (o + 7)) s9.1).bind fun x28 =>
    (mm_ldI (m22.1 (o + 2)) (z (o + 2)) (1 : Int32)).bind fun x34 =>
    if x28 = x34 then (
      mm_lt (s9.1 + ((-1) : Int32)) fun x38 =>
      some (.inl (x38, m22))
    ) else (
      if s9.1 = 0 then (
        f_Mod_findsRing_J97 z o v1 s9.1 (1 : Int32) m22
      ) else (
        (mm_ldI (m22.1 (o + 7)) (z (o + 7)) s9.1).bind fun x53 =>
        (mm_ldI (m22.1 (o + 7)) (z (o + 7)) (0 : Int32)).bind fun x59 =>
        if x53 ≤ x59 then (
          f_Mod_findsRing_J97 z o v1 s9.1 (0 : Int32) m22
        ) else (
          (f_Mod_isNew z m22 o s9.1).bind fun q65 =>
          if q65 = 0 then (
            f_Mod_findsRing_J97 z o v1 s9.1 (0 : Int32) m22
          ) else (
            (mm_ldI (m22.1 (o + 7)) (z (o + 7)) (s9.1 - (1 : Int32))).bind fun x79 =>
            (mm_ldI (m22.1 (o + 7)) (z (o + 7)) s9.1).bind fun x85 =>
            (f_Mod_isMore z m22 o x79 x85).bind fun q86 =>
            if q86 = 0 then (
              f_Mod_findsRing_J97 z o v1 s9.1 (0 : Int32) m22
            ) else (
              f_Mod_findsRing_J97 z o v1 s9.1 (1 : Int32) m22
            )
          )
        )
      )
    )
  )
noncomputable def f_Mod_findsRing (z : Nat → Nat) (σ : Mm) (o : Nat) (p1 : Int32) : Option (Int32 × Mm) :=
  (mm_stI σ (o + 7) (z (o + 7)) (0 : Int32) ((-1) : Int32)).bind fun m8 =>
  (mm_lp (f_Mod_findsRing_L9 z o p1) ((0 : Int32), m8)).bind (Sum.elim (fun r9 => some r9) (fun x9_ =>
    some ((0 : Int32), x9_)))
set_option maxHeartbeats 4000000 in
set_option maxRecDepth 100000 in
theorem c_Mod_findsRing (l : Launch) {L : Ly} (hg : gd_ok L) {σ : Mm} {o : Nat} {p1 : Int32} (k_o_0 : ly_k L o = 11) {res : Int32 × Mm} (hf0 : f_Mod_findsRing (ly_z L) σ o p1 = some res) : CtI l y_Mod_findsRing b_Mod_findsRing 4 (some .boolean) rm_Mod_findsRing L [.ref (ly_a L o), .int p1] σ res.1 res.2 := by
  refine ct_z hg (by decide) (Nat.le_of_ble_eq_true rfl) ?_
  intro E A Q hE C hN
  subst hE
  have k_o_7 : ly_k L (o + 7) = 20 := gd_Mod_ring hg k_o_0
  have k_o_2 : ly_k L (o + 2) = 20 := gd_Mod_s hg k_o_0
  unfold f_Mod_findsRing at hf0
  show GW E L A 4 0 0 Q σ 0 [(0, .ref (ly_a L o)), (1, .int p1)] []
  refine gw_iconst C (0 : Int32) d_Mod_findsRing_0 (by decide) ?_
  refine gw_istore_n C [(2, .int (0 : Int32)), (0, .ref (ly_a L o)), (1, .int p1)] d_Mod_findsRing_1 rfl (by decide) rfl ?_
  refine gw_aload_n C 1 d_Mod_findsRing_2 rfl rfl ?_
  refine gw_getA C 24 d_Mod_findsRing_3 k_o_0 (by decide) i_Mod rfl rfl (by decide) qw_1189 rfl rfl (o + 7) rfl ?_
  refine gw_iconst C (0 : Int32) d_Mod_findsRing_6 (by decide) ?_
  refine gw_iconst C ((-1) : Int32) d_Mod_findsRing_7 (by decide) ?_
  obtain ⟨m8, hm8, hf0⟩ := mx_bd hf0
  obtain ⟨gm8, em8⟩ := mx_stI hm8
  refine gw_iast C d_Mod_findsRing_8 k_o_7 gm8 em8 ?_
  obtain ⟨q9, hq9, hf0⟩ := mx_bd hf0
  have hk9 : ∀ x9_, q9 = .inr x9_ → GW E L A 4 0 0 Q x9_ 154 [] [] := by
    intro x9_ hx9
    subst hx9
    replace hf0 := mx_sr hf0
    refine gw_iconst C (0 : Int32) d_Mod_findsRing_154 (by decide) ?_
    exact en_z hN (Or.inl rfl) hf0 d_Mod_findsRing_155
  refine gw_sub [1, 2, 0] (lv' := [(0, .ref (ly_a L o)), (1, .int p1), (2, .int (0 : Int32))]) rfl ?_
  refine mm_rule hq9 (P := fun (s9 : Int32 × Mm) => GW E L A 4 0 0 Q s9.2 9 [(0, .ref (ly_a L o)), (1, .int p1), (2, .int s9.1)] []) ?_
  intro s9 ih9 hx9 ⟨w9, hb9⟩
  have hj97 : ∀ (v2 : Int32) (t97_0 : Int32) (m97 : Mm), f_Mod_findsRing_J97 (ly_z L) o p1 v2 t97_0 m97 = some w9 → GW E L A 4 0 0 Q m97 97 [(0, .ref (ly_a L o)), (1, .int p1), (2, .int v2)] [.int t97_0] := by
    intro v2 t97_0 m97 hf1
    unfold f_Mod_findsRing_J97 at hf1
    refine gw_istore_n C [(3, .int t97_0), (0, .ref (ly_a L o)), (1, .int p1), (2, .int v2)] d_Mod_findsRing_97 rfl (by decide) rfl ?_
    refine gw_iload_n C 0 d_Mod_findsRing_98 rfl rfl ?_
    refine gw_if_ne C 105 d_Mod_findsRing_99 (by decide) (fun hc => ?_) (fun hc => ?_)
    · replace hf1 := mx_f hc hf1
      refine gw_iload_n C 3 d_Mod_findsRing_105 rfl rfl ?_
      refine gw_iload_n C 2 d_Mod_findsRing_106 rfl rfl ?_
      refine gw_iconst C (1 : Int32) d_Mod_findsRing_107 (by decide) ?_
      refine gw_isub C d_Mod_findsRing_108 ?_
      refine gw_icmp_ge C 130 d_Mod_findsRing_109 (by decide) (fun hc => ?_) (fun hc => ?_)
      · replace hf1 := mx_t hc hf1
        refine gw_aload_n C 1 d_Mod_findsRing_130 rfl rfl ?_
        refine gw_aload_n C 1 d_Mod_findsRing_131 rfl rfl ?_
        refine gw_getA C 24 d_Mod_findsRing_132 k_o_0 (by decide) i_Mod rfl rfl (by decide) qw_1189 rfl rfl (o + 7) rfl ?_
        refine gw_iload_n C 3 d_Mod_findsRing_135 rfl rfl ?_
        obtain ⟨x136, hx136, hf1⟩ := mx_bd hf1
        obtain ⟨gx136, ex136⟩ := mx_ldI hx136
        refine gw_iald C d_Mod_findsRing_136 k_o_7 gx136 ex136 ?_
        refine gw_aload_n C 1 d_Mod_findsRing_137 rfl rfl ?_
        refine gw_getA C 24 d_Mod_findsRing_138 k_o_0 (by decide) i_Mod rfl rfl (by decide) qw_1189 rfl rfl (o + 7) rfl ?_
        refine gw_iconst C (0 : Int32) d_Mod_findsRing_141 (by decide) ?_
        obtain ⟨x142, hx142, hf1⟩ := mx_bd hf1
        obtain ⟨gx142, ex142⟩ := mx_ldI hx142
        refine gw_iald C d_Mod_findsRing_142 k_o_7 gx142 ex142 ?_
        obtain ⟨q143, hq143, hf1⟩ := mx_bd hf1
        refine gw_callI C (c_Mod_isMore _ hg k_o_0 hq143) d_Mod_findsRing_143 2 qw_1474 qw_1476 qs_66 qw_12 qw_1477 k_o_0 (by decide) rfl hd_Mod_isMore rfl rfl (Nat.le_of_ble_eq_true rfl) ⟨rfl, rfl, Nat.le_of_ble_eq_true rfl, Nat.le_of_ble_eq_true rfl⟩ ⟨Nat.zero_le _, Nat.zero_le _⟩ ?_
        refine gw_if_eq C 151 d_Mod_findsRing_146 (by decide) (fun hc => ?_) (fun hc => ?_)
        · replace hf1 := mx_t hc hf1
          refine gw_goto C 9 d_Mod_findsRing_151 (by decide) ?_
          exact gw_go [1, 2, 3] (ih9 (v2, m97) (hb9.trans hf1.symm)) rfl
        · replace hf1 := mx_f hc hf1
          refine gw_iconst C (1 : Int32) d_Mod_findsRing_149 (by decide) ?_
          have hr9 := hx9 _ (hb9.trans hf1.symm)
          subst hr9
          replace hf0 := mx_sl hf0
          exact en_z hN (Or.inr rfl) hf0 d_Mod_findsRing_150
      · replace hf1 := mx_f hc hf1
        obtain ⟨x112, ex112, hf1⟩ := mx_lt hf1
        refine gw_iinc C 3 [(2, .int x112), (3, .int t97_0), (0, .ref (ly_a L o)), (1, .int p1)] d_Mod_findsRing_112 rfl (by rw [ex112]; rfl) (by decide) rfl ?_
        refine gw_aload_n C 2 d_Mod_findsRing_115 rfl rfl ?_
        refine gw_getA C 24 d_Mod_findsRing_116 k_o_0 (by decide) i_Mod rfl rfl (by decide) qw_1189 rfl rfl (o + 7) rfl ?_
        refine gw_iload_n C 0 d_Mod_findsRing_119 rfl rfl ?_
        refine gw_aload_n C 2 d_Mod_findsRing_120 rfl rfl ?_
        refine gw_getA C 24 d_Mod_findsRing_121 k_o_0 (by decide) i_Mod rfl rfl (by decide) qw_1189 rfl rfl (o + 7) rfl ?_
        refine gw_iconst C (0 : Int32) d_Mod_findsRing_124 (by decide) ?_
        obtain ⟨x125, hx125, hf1⟩ := mx_bd hf1
        obtain ⟨gx125, ex125⟩ := mx_ldI hx125
        refine gw_iald C d_Mod_findsRing_125 k_o_7 gx125 ex125 ?_
        obtain ⟨m126, hm126, hf1⟩ := mx_bd hf1
        obtain ⟨gm126, em126⟩ := mx_stI hm126
        refine gw_iast C d_Mod_findsRing_126 k_o_7 gm126 em126 ?_
        refine gw_goto C 151 d_Mod_findsRing_127 (by decide) ?_
        refine gw_goto C 9 d_Mod_findsRing_151 (by decide) ?_
        exact gw_go [2, 3, 0] (ih9 (x112, m126) (hb9.trans hf1.symm)) rfl
    · replace hf1 := mx_t hc hf1
      refine gw_goto C 9 d_Mod_findsRing_102 (by decide) ?_
      exact gw_go [1, 2, 3] (ih9 (v2, m97) (hb9.trans hf1.symm)) rfl
  have hf1 := hb9
  unfold f_Mod_findsRing_L9 at hf1
  refine gw_iload_n C 2 d_Mod_findsRing_9 rfl rfl ?_
  refine gw_if_lt C 154 d_Mod_findsRing_10 (by decide) (fun hc => ?_) (fun hc => ?_)
  · replace hf1 := mx_t hc hf1
    exact gw_go [] (hk9 s9.2 (hx9 _ (hb9.trans hf1.symm)).symm) rfl
  · replace hf1 := mx_f hc hf1
    refine gw_aload_n C 0 d_Mod_findsRing_13 rfl rfl ?_
    refine gw_getA C 24 d_Mod_findsRing_14 k_o_0 (by decide) i_Mod rfl rfl (by decide) qw_1189 rfl rfl (o + 7) rfl ?_
    refine gw_iload_n C 2 d_Mod_findsRing_17 rfl rfl ?_
    refine gw_dup2 C d_Mod_findsRing_18 rfl rfl ?_
    obtain ⟨x19, hx19, hf1⟩ := mx_bd hf1
    obtain ⟨gx19, ex19⟩ := mx_ldI hx19
    refine gw_iald C d_Mod_findsRing_19 k_o_7 gx19 ex19 ?_
    refine gw_iconst C (1 : Int32) d_Mod_findsRing_20 (by decide) ?_
    refine gw_iadd C d_Mod_findsRing_21 ?_
    obtain ⟨m22, hm22, hf1⟩ := mx_bd hf1
    obtain ⟨gm22, em22⟩ := mx_stI hm22
    refine gw_iast C d_Mod_findsRing_22 k_o_7 gm22 em22 ?_
    refine gw_aload_n C 0 d_Mod_findsRing_23 rfl rfl ?_
    refine gw_getA C 24 d_Mod_findsRing_24 k_o_0 (by decide) i_Mod rfl rfl (by decide) qw_1189 rfl rfl (o + 7) rfl ?_
    refine gw_iload_n C 2 d_Mod_findsRing_27 rfl rfl ?_
    obtain ⟨x28, hx28, hf1⟩ := mx_bd hf1
    obtain ⟨gx28, ex28⟩ := mx_ldI hx28
    refine gw_iald C d_Mod_findsRing_28 k_o_7 gx28 ex28 ?_
    refine gw_aload_n C 0 d_Mod_findsRing_29 rfl rfl ?_
    refine gw_getA C 6 d_Mod_findsRing_30 k_o_0 (by decide) i_Mod rfl rfl (by decide) qw_1171 rfl rfl (o + 2) rfl ?_
    refine gw_iconst C (1 : Int32) d_Mod_findsRing_33 (by decide) ?_
    obtain ⟨x34, hx34, hf1⟩ := mx_bd hf1
    obtain ⟨gx34, ex34⟩ := mx_ldI hx34
    refine gw_iald C d_Mod_findsRing_34 k_o_2 gx34 ex34 ?_
    refine gw_icmp_ne C 44 d_Mod_findsRing_35 (by decide) (fun hc => ?_) (fun hc => ?_)
    · replace hf1 := mx_f hc hf1
      refine gw_iload_n C 2 d_Mod_findsRing_44 rfl rfl ?_
      refine gw_if_eq C 92 d_Mod_findsRing_45 (by decide) (fun hc => ?_) (fun hc => ?_)
      · replace hf1 := mx_t hc hf1
        refine gw_iconst C (1 : Int32) d_Mod_findsRing_92 (by decide) ?_
        refine gw_goto C 97 d_Mod_findsRing_93 (by decide) ?_
        exact gw_go [0, 1, 2] (hj97 _ _ _ hf1) rfl
      · replace hf1 := mx_f hc hf1
        refine gw_aload_n C 0 d_Mod_findsRing_48 rfl rfl ?_
        refine gw_getA C 24 d_Mod_findsRing_49 k_o_0 (by decide) i_Mod rfl rfl (by decide) qw_1189 rfl rfl (o + 7) rfl ?_
        refine gw_iload_n C 2 d_Mod_findsRing_52 rfl rfl ?_
        obtain ⟨x53, hx53, hf1⟩ := mx_bd hf1
        obtain ⟨gx53, ex53⟩ := mx_ldI hx53
        refine gw_iald C d_Mod_findsRing_53 k_o_7 gx53 ex53 ?_
        refine gw_aload_n C 0 d_Mod_findsRing_54 rfl rfl ?_
        refine gw_getA C 24 d_Mod_findsRing_55 k_o_0 (by decide) i_Mod rfl rfl (by decide) qw_1189 rfl rfl (o + 7) rfl ?_
        refine gw_iconst C (0 : Int32) d_Mod_findsRing_58 (by decide) ?_
        obtain ⟨x59, hx59, hf1⟩ := mx_bd hf1
        obtain ⟨gx59, ex59⟩ := mx_ldI hx59
        refine gw_iald C d_Mod_findsRing_59 k_o_7 gx59 ex59 ?_
        refine gw_icmp_le C 96 d_Mod_findsRing_60 (by decide) (fun hc => ?_) (fun hc => ?_)
        · replace hf1 := mx_t hc hf1
          refine gw_iconst C (0 : Int32) d_Mod_findsRing_96 (by decide) ?_
          exact gw_go [0, 1, 2] (hj97 _ _ _ hf1) rfl
        · replace hf1 := mx_f hc hf1
          refine gw_aload_n C 0 d_Mod_findsRing_63 rfl rfl ?_
          refine gw_iload_n C 2 d_Mod_findsRing_64 rfl rfl ?_
          obtain ⟨q65, hq65, hf1⟩ := mx_bd hf1
          refine gw_callI C (c_Mod_isNew _ hg k_o_0 hq65) d_Mod_findsRing_65 1 qw_1470 qw_1472 qs_65 qw_12 qw_1473 k_o_0 (by decide) rfl hd_Mod_isNew rfl rfl (Nat.le_of_ble_eq_true rfl) ⟨rfl, rfl, Nat.le_of_ble_eq_true rfl, Nat.le_of_ble_eq_true rfl⟩ ⟨Nat.zero_le _, Nat.zero_le _⟩ ?_
          refine gw_if_eq C 96 d_Mod_findsRing_68 (by decide) (fun hc => ?_) (fun hc => ?_)
          · replace hf1 := mx_t hc hf1
            refine gw_iconst C (0 : Int32) d_Mod_findsRing_96 (by decide) ?_
            exact gw_go [0, 1, 2] (hj97 _ _ _ hf1) rfl
          · replace hf1 := mx_f hc hf1
            refine gw_aload_n C 0 d_Mod_findsRing_71 rfl rfl ?_
            refine gw_aload_n C 0 d_Mod_findsRing_72 rfl rfl ?_
            refine gw_getA C 24 d_Mod_findsRing_73 k_o_0 (by decide) i_Mod rfl rfl (by decide) qw_1189 rfl rfl (o + 7) rfl ?_
            refine gw_iload_n C 2 d_Mod_findsRing_76 rfl rfl ?_
            refine gw_iconst C (1 : Int32) d_Mod_findsRing_77 (by decide) ?_
            refine gw_isub C d_Mod_findsRing_78 ?_
            obtain ⟨x79, hx79, hf1⟩ := mx_bd hf1
            obtain ⟨gx79, ex79⟩ := mx_ldI hx79
            refine gw_iald C d_Mod_findsRing_79 k_o_7 gx79 ex79 ?_
            refine gw_aload_n C 0 d_Mod_findsRing_80 rfl rfl ?_
            refine gw_getA C 24 d_Mod_findsRing_81 k_o_0 (by decide) i_Mod rfl rfl (by decide) qw_1189 rfl rfl (o + 7) rfl ?_
            refine gw_iload_n C 2 d_Mod_findsRing_84 rfl rfl ?_
            obtain ⟨x85, hx85, hf1⟩ := mx_bd hf1
            obtain ⟨gx85, ex85⟩ := mx_ldI hx85
            refine gw_iald C d_Mod_findsRing_85 k_o_7 gx85 ex85 ?_
            obtain ⟨q86, hq86, hf1⟩ := mx_bd hf1
            refine gw_callI C (c_Mod_isMore _ hg k_o_0 hq86) d_Mod_findsRing_86 2 qw_1474 qw_1476 qs_66 qw_12 qw_1477 k_o_0 (by decide) rfl hd_Mod_isMore rfl rfl (Nat.le_of_ble_eq_true rfl) ⟨rfl, rfl, Nat.le_of_ble_eq_true rfl, Nat.le_of_ble_eq_true rfl⟩ ⟨Nat.zero_le _, Nat.zero_le _⟩ ?_
            refine gw_if_eq C 96 d_Mod_findsRing_89 (by decide) (fun hc => ?_) (fun hc => ?_)
            · replace hf1 := mx_t hc hf1
              refine gw_iconst C (0 : Int32) d_Mod_findsRing_96 (by decide) ?_
              exact gw_go [0, 1, 2] (hj97 _ _ _ hf1) rfl
            · replace hf1 := mx_f hc hf1
              refine gw_iconst C (1 : Int32) d_Mod_findsRing_92 (by decide) ?_
              refine gw_goto C 97 d_Mod_findsRing_93 (by decide) ?_
              exact gw_go [0, 1, 2] (hj97 _ _ _ hf1) rfl
    · replace hf1 := mx_t hc hf1
      obtain ⟨x38, ex38, hf1⟩ := mx_lt hf1
      refine gw_iinc C 2 [(2, .int x38), (0, .ref (ly_a L o)), (1, .int p1)] d_Mod_findsRing_38 rfl (by rw [ex38]; rfl) (by decide) rfl ?_
      refine gw_goto C 9 d_Mod_findsRing_41 (by decide) ?_
      exact gw_go [1, 2, 0] (ih9 (x38, m22) (hb9.trans hf1.symm)) rfl

/-! NameHatModel.ring()I -/
abbrev b_Mod_ring : ByteArray := prog_14_method_51_code
def y_Mod_ring : MethodName := ⟨"NameHatModel", "ring", "()I"⟩
abbrev rm_Mod_ring : Room := { frames := 3, cells := 0, slots := 0, locals := 68 }
theorem hd_Mod_ring : y_Mod_ring.cls ≠ "java/lang/invoke/MethodHandle" ∧ y_Mod_ring.cls ≠ "java/lang/invoke/VarHandle" ∧ (parseMethodDescriptor y_Mod_ring.desc).map (fun d => d.parameters.length) = some 0 := by decide +kernel
theorem d_Mod_ring_0 : decode b_Mod_ring 0 = .ok (.aload_n 0, 1) := by decide +kernel
theorem d_Mod_ring_1 : decode b_Mod_ring 1 = .ok (.iconst 0, 1) := by decide +kernel
theorem d_Mod_ring_2 : decode b_Mod_ring 2 = .ok (.putfield 1, 3) := by decide +kernel
theorem d_Mod_ring_5 : decode b_Mod_ring 5 = .ok (.iconst 2, 1) := by decide +kernel
theorem d_Mod_ring_6 : decode b_Mod_ring 6 = .ok (.istore_n 1, 1) := by decide +kernel
theorem d_Mod_ring_7 : decode b_Mod_ring 7 = .ok (.iload_n 1, 1) := by decide +kernel
theorem d_Mod_ring_8 : decode b_Mod_ring 8 = .ok (.aload_n 0, 1) := by decide +kernel
theorem d_Mod_ring_9 : decode b_Mod_ring 9 = .ok (.getfield 33, 3) := by decide +kernel
theorem d_Mod_ring_12 : decode b_Mod_ring 12 = .ok (.iconst 1, 1) := by decide +kernel
theorem d_Mod_ring_13 : decode b_Mod_ring 13 = .ok (.iaload, 1) := by decide +kernel
theorem d_Mod_ring_14 : decode b_Mod_ring 14 = .ok (.if_icmp .gt 52, 3) := by decide +kernel
theorem d_Mod_ring_17 : decode b_Mod_ring 17 = .ok (.aload_n 0, 1) := by decide +kernel
theorem d_Mod_ring_18 : decode b_Mod_ring 18 = .ok (.iload_n 1, 1) := by decide +kernel
theorem d_Mod_ring_19 : decode b_Mod_ring 19 = .ok (.invokevirtual 287, 3) := by decide +kernel
theorem d_Mod_ring_22 : decode b_Mod_ring 22 = .ok (.ifCond .ne 6, 3) := by decide +kernel
theorem d_Mod_ring_25 : decode b_Mod_ring 25 = .ok (.goto 35, 3) := by decide +kernel
theorem d_Mod_ring_28 : decode b_Mod_ring 28 = .ok (.aload_n 0, 1) := by decide +kernel
theorem d_Mod_ring_29 : decode b_Mod_ring 29 = .ok (.iload_n 1, 1) := by decide +kernel
theorem d_Mod_ring_30 : decode b_Mod_ring 30 = .ok (.putfield 56, 3) := by decide +kernel
theorem d_Mod_ring_33 : decode b_Mod_ring 33 = .ok (.iconst 0, 1) := by decide +kernel
theorem d_Mod_ring_34 : decode b_Mod_ring 34 = .ok (.istore_n 2, 1) := by decide +kernel
theorem d_Mod_ring_35 : decode b_Mod_ring 35 = .ok (.iload_n 2, 1) := by decide +kernel
theorem d_Mod_ring_36 : decode b_Mod_ring 36 = .ok (.iload_n 1, 1) := by decide +kernel
theorem d_Mod_ring_37 : decode b_Mod_ring 37 = .ok (.if_icmp .ge 21, 3) := by decide +kernel
theorem d_Mod_ring_40 : decode b_Mod_ring 40 = .ok (.aload_n 0, 1) := by decide +kernel
theorem d_Mod_ring_41 : decode b_Mod_ring 41 = .ok (.getfield 53, 3) := by decide +kernel
theorem d_Mod_ring_44 : decode b_Mod_ring 44 = .ok (.iload_n 2, 1) := by decide +kernel
theorem d_Mod_ring_45 : decode b_Mod_ring 45 = .ok (.aload_n 0, 1) := by decide +kernel
theorem d_Mod_ring_46 : decode b_Mod_ring 46 = .ok (.getfield 50, 3) := by decide +kernel
theorem d_Mod_ring_49 : decode b_Mod_ring 49 = .ok (.iload_n 2, 1) := by decide +kernel
theorem d_Mod_ring_50 : decode b_Mod_ring 50 = .ok (.iaload, 1) := by decide +kernel
theorem d_Mod_ring_51 : decode b_Mod_ring 51 = .ok (.iastore, 1) := by decide +kernel
theorem d_Mod_ring_52 : decode b_Mod_ring 52 = .ok (.iinc 2 1, 3) := by decide +kernel
theorem d_Mod_ring_55 : decode b_Mod_ring 55 = .ok (.goto (-20), 3) := by decide +kernel
theorem d_Mod_ring_58 : decode b_Mod_ring 58 = .ok (.iload_n 1, 1) := by decide +kernel
theorem d_Mod_ring_59 : decode b_Mod_ring 59 = .ok (.ireturn, 1) := by decide +kernel
theorem d_Mod_ring_60 : decode b_Mod_ring 60 = .ok (.iinc 1 1, 3) := by decide +kernel
theorem d_Mod_ring_63 : decode b_Mod_ring 63 = .ok (.goto (-56), 3) := by decide +kernel
theorem d_Mod_ring_66 : decode b_Mod_ring 66 = .ok (.iconst (-1), 1) := by decide +kernel
theorem d_Mod_ring_67 : decode b_Mod_ring 67 = .ok (.ireturn, 1) := by decide +kernel
noncomputable def f_Mod_ring_L35 (z : Nat → Nat) (o : Nat) (v1 : Int32) (s35 : Int32 × Mm) : Option ((Int32 × Mm) ⊕ (Mm)) :=
  if v1 ≤ s35.1 then (
    some (.inr s35.2)
  ) else (
    (mm_ldI (s35.2.1 (o + 7)) (z (o + 7)) s35.1).bind fun x50 =>
    (mm_stI s35.2 (o + 8) (z (o + 8)) s35.1 x50).bind fun m51 =>
    mm_lt (s35.1 + (1 : Int32)) fun x52 =>
    some (.inl (x52, m51))
  )
noncomputable def f_Mod_ring_L7 (z : Nat → Nat) (o : Nat) (s7 : Int32 × Mm) : Option ((Int32 × Mm) ⊕ ((Int32 × Mm) ⊕ (Mm))) :=
  (mm_ldI (s7.2.1 (o + 2)) (z (o + 2)) (1 : Int32)).bind fun x13 =>
  if x13 < s7.1 then (
    some (.inr (.inr s7.2))
  ) else (
    (f_Mod_findsRing z s7.2 o s7.1).bind fun q19 =>
    if q19.1 = 0 then (
      mm_lt (s7.1 + (1 : Int32)) fun x60 =>
      some (.inl (x60, q19.2))
    ) else (
      mm_lt (kI q19.2 o 26 s7.1) fun m30 =>
      (mm_lp (f_Mod_ring_L35 z o s7.1) ((0 : Int32), m30)).bind (fun q35 =>
        some (.inr (.inl (s7.1, q35))))
    )
  )
noncomputable def f_Mod_ring (z : Nat → Nat) (σ : Mm) (o : Nat) : Option (Int32 × Mm) :=
  mm_lt (kI σ o 0 (0 : Int32)) fun m2 =>
  (mm_lp (f_Mod_ring_L7 z o) ((2 : Int32), m2)).bind (Sum.elim (fun r9 => some r9) (fun x7_ =>
    some (((-1) : Int32), x7_)))
set_option maxHeartbeats 4000000 in
set_option maxRecDepth 100000 in
theorem c_Mod_ring (l : Launch) {L : Ly} (hg : gd_ok L) {σ : Mm} {o : Nat} (k_o_0 : ly_k L o = 11) {res : Int32 × Mm} (hf0 : f_Mod_ring (ly_z L) σ o = some res) : CtI l y_Mod_ring b_Mod_ring 3 (some .int) rm_Mod_ring L [.ref (ly_a L o)] σ res.1 res.2 := by
  refine ct_i hg (by decide) (Nat.le_of_ble_eq_true rfl) ?_
  intro E A Q hE C hN
  subst hE
  have k_o_2 : ly_k L (o + 2) = 20 := gd_Mod_s hg k_o_0
  have k_o_7 : ly_k L (o + 7) = 20 := gd_Mod_ring hg k_o_0
  have k_o_8 : ly_k L (o + 8) = 20 := gd_Mod_ringKept hg k_o_0
  unfold f_Mod_ring at hf0
  show GW E L A 3 0 0 Q σ 0 [(0, .ref (ly_a L o))] []
  refine gw_aload_n C 0 d_Mod_ring_0 rfl rfl ?_
  refine gw_iconst C (0 : Int32) d_Mod_ring_1 (by decide) ?_
  obtain ⟨m2, em2, hf0⟩ := mx_lt hf0
  refine gw_putI t_Mod C 0 d_Mod_ring_2 k_o_0 (by decide) i_Mod rfl rfl (by decide) qw_1165 rfl rfl t_Mod_ok n_Mod rfl (t_Mod_ok 0 (by decide)) rfl rfl em2 ?_
  refine gw_iconst C (2 : Int32) d_Mod_ring_5 (by decide) ?_
  refine gw_istore_n C [(1, .int (2 : Int32)), (0, .ref (ly_a L o))] d_Mod_ring_6 rfl (by decide) rfl ?_
  obtain ⟨q7, hq7, hf0⟩ := mx_bd hf0
  have hk7 : ∀ x7_, q7 = .inr x7_ → GW E L A 3 0 0 Q x7_ 66 [] [] := by
    intro x7_ hx9
    subst hx9
    replace hf0 := mx_sr hf0
    refine gw_iconst C ((-1) : Int32) d_Mod_ring_66 (by decide) ?_
    exact en_i hN hf0 d_Mod_ring_67
  refine gw_sub [1, 0] (lv' := [(0, .ref (ly_a L o)), (1, .int (2 : Int32))]) rfl ?_
  refine mm_rule hq7 (P := fun (s7 : Int32 × Mm) => GW E L A 3 0 0 Q s7.2 7 [(0, .ref (ly_a L o)), (1, .int s7.1)] []) ?_
  intro s7 ih7 hx7 ⟨w7, hb7⟩
  have hf1 := hb7
  unfold f_Mod_ring_L7 at hf1
  refine gw_iload_n C 1 d_Mod_ring_7 rfl rfl ?_
  refine gw_aload_n C 0 d_Mod_ring_8 rfl rfl ?_
  refine gw_getA C 6 d_Mod_ring_9 k_o_0 (by decide) i_Mod rfl rfl (by decide) qw_1171 rfl rfl (o + 2) rfl ?_
  refine gw_iconst C (1 : Int32) d_Mod_ring_12 (by decide) ?_
  obtain ⟨x13, hx13, hf1⟩ := mx_bd hf1
  obtain ⟨gx13, ex13⟩ := mx_ldI hx13
  refine gw_iald C d_Mod_ring_13 k_o_2 gx13 ex13 ?_
  refine gw_icmp_gt C 66 d_Mod_ring_14 (by decide) (fun hc => ?_) (fun hc => ?_)
  · replace hf1 := mx_t hc hf1
    exact gw_go [] (hk7 s7.2 (hx7 _ (hb7.trans hf1.symm)).symm) rfl
  · replace hf1 := mx_f hc hf1
    refine gw_aload_n C 0 d_Mod_ring_17 rfl rfl ?_
    refine gw_iload_n C 1 d_Mod_ring_18 rfl rfl ?_
    obtain ⟨q19, hq19, hf1⟩ := mx_bd hf1
    refine gw_callI C (c_Mod_findsRing _ hg k_o_0 hq19) d_Mod_ring_19 1 qw_1466 qw_1468 qs_64 qw_12 qw_1469 k_o_0 (by decide) rfl hd_Mod_findsRing rfl rfl (Nat.le_of_ble_eq_true rfl) ⟨rfl, rfl, Nat.le_of_ble_eq_true rfl, Nat.le_of_ble_eq_true rfl⟩ ⟨Nat.zero_le _, Nat.zero_le _⟩ ?_
    refine gw_if_ne C 28 d_Mod_ring_22 (by decide) (fun hc => ?_) (fun hc => ?_)
    · replace hf1 := mx_f hc hf1
      refine gw_aload_n C 0 d_Mod_ring_28 rfl rfl ?_
      refine gw_iload_n C 1 d_Mod_ring_29 rfl rfl ?_
      obtain ⟨m30, em30, hf1⟩ := mx_lt hf1
      refine gw_putI t_Mod C 26 d_Mod_ring_30 k_o_0 (by decide) i_Mod rfl rfl (by decide) qw_1191 rfl rfl t_Mod_ok n_Mod rfl (t_Mod_ok 26 (by decide)) rfl rfl em30 ?_
      refine gw_iconst C (0 : Int32) d_Mod_ring_33 (by decide) ?_
      refine gw_istore_n C [(2, .int (0 : Int32)), (0, .ref (ly_a L o)), (1, .int s7.1)] d_Mod_ring_34 rfl (by decide) rfl ?_
      obtain ⟨q35, hq35, hf1⟩ := mx_bd hf1
      have hk35 : ∀ x9, q35 = x9 → GW E L A 3 0 0 Q x9 58 [(1, .int s7.1)] [] := by
        intro x9 hx9
        subst hx9
        refine gw_iload_n C 0 d_Mod_ring_58 rfl rfl ?_
        have hr7 := hx7 _ (hb7.trans hf1.symm)
        subst hr7
        replace hf0 := mx_sl hf0
        exact en_i hN hf0 d_Mod_ring_59
      refine gw_sub [1, 2, 0] (lv' := [(0, .ref (ly_a L o)), (1, .int s7.1), (2, .int (0 : Int32))]) rfl ?_
      refine mm_rule hq35 (P := fun (s35 : Int32 × Mm) => GW E L A 3 0 0 Q s35.2 35 [(0, .ref (ly_a L o)), (1, .int s7.1), (2, .int s35.1)] []) ?_
      intro s35 ih35 hx35 ⟨w35, hb35⟩
      have hf2 := hb35
      unfold f_Mod_ring_L35 at hf2
      refine gw_iload_n C 2 d_Mod_ring_35 rfl rfl ?_
      refine gw_iload_n C 1 d_Mod_ring_36 rfl rfl ?_
      refine gw_icmp_ge C 58 d_Mod_ring_37 (by decide) (fun hc => ?_) (fun hc => ?_)
      · replace hf2 := mx_t hc hf2
        exact gw_go [1] (hk35 s35.2 (hx35 _ (hb35.trans hf2.symm)).symm) rfl
      · replace hf2 := mx_f hc hf2
        refine gw_aload_n C 0 d_Mod_ring_40 rfl rfl ?_
        refine gw_getA C 25 d_Mod_ring_41 k_o_0 (by decide) i_Mod rfl rfl (by decide) qw_1190 rfl rfl (o + 8) rfl ?_
        refine gw_iload_n C 2 d_Mod_ring_44 rfl rfl ?_
        refine gw_aload_n C 0 d_Mod_ring_45 rfl rfl ?_
        refine gw_getA C 24 d_Mod_ring_46 k_o_0 (by decide) i_Mod rfl rfl (by decide) qw_1189 rfl rfl (o + 7) rfl ?_
        refine gw_iload_n C 2 d_Mod_ring_49 rfl rfl ?_
        obtain ⟨x50, hx50, hf2⟩ := mx_bd hf2
        obtain ⟨gx50, ex50⟩ := mx_ldI hx50
        refine gw_iald C d_Mod_ring_50 k_o_7 gx50 ex50 ?_
        obtain ⟨m51, hm51, hf2⟩ := mx_bd hf2
        obtain ⟨gm51, em51⟩ := mx_stI hm51
        refine gw_iast C d_Mod_ring_51 k_o_8 gm51 em51 ?_
        obtain ⟨x52, ex52, hf2⟩ := mx_lt hf2
        refine gw_iinc C 2 [(2, .int x52), (0, .ref (ly_a L o)), (1, .int s7.1)] d_Mod_ring_52 rfl (by rw [ex52]; rfl) (by decide) rfl ?_
        refine gw_goto C 35 d_Mod_ring_55 (by decide) ?_
        exact gw_go [1, 2, 0] (ih35 (x52, m51) (hb35.trans hf2.symm)) rfl
    · replace hf1 := mx_t hc hf1
      refine gw_goto C 60 d_Mod_ring_25 (by decide) ?_
      obtain ⟨x60, ex60, hf1⟩ := mx_lt hf1
      refine gw_iinc C 1 [(1, .int x60), (0, .ref (ly_a L o))] d_Mod_ring_60 rfl (by rw [ex60]; rfl) (by decide) rfl ?_
      refine gw_goto C 7 d_Mod_ring_63 (by decide) ?_
      exact gw_go [1, 0] (ih7 (x60, q19.2) (hb7.trans hf1.symm)) rfl

/-! NameHatModel.ringAt(I)I -/
abbrev b_Mod_ringAt : ByteArray := prog_14_method_52_code
def y_Mod_ringAt : MethodName := ⟨"NameHatModel", "ringAt", "(I)I"⟩
abbrev rm_Mod_ringAt : Room := { frames := 1, cells := 0, slots := 0, locals := 22 }
theorem hd_Mod_ringAt : y_Mod_ringAt.cls ≠ "java/lang/invoke/MethodHandle" ∧ y_Mod_ringAt.cls ≠ "java/lang/invoke/VarHandle" ∧ (parseMethodDescriptor y_Mod_ringAt.desc).map (fun d => d.parameters.length) = some 1 := by decide +kernel
theorem d_Mod_ringAt_0 : decode b_Mod_ringAt 0 = .ok (.aload_n 0, 1) := by decide +kernel
theorem d_Mod_ringAt_1 : decode b_Mod_ringAt 1 = .ok (.iconst 0, 1) := by decide +kernel
theorem d_Mod_ringAt_2 : decode b_Mod_ringAt 2 = .ok (.putfield 1, 3) := by decide +kernel
theorem d_Mod_ringAt_5 : decode b_Mod_ringAt 5 = .ok (.iload_n 1, 1) := by decide +kernel
theorem d_Mod_ringAt_6 : decode b_Mod_ringAt 6 = .ok (.iconst 0, 1) := by decide +kernel
theorem d_Mod_ringAt_7 : decode b_Mod_ringAt 7 = .ok (.aload_n 0, 1) := by decide +kernel
theorem d_Mod_ringAt_8 : decode b_Mod_ringAt 8 = .ok (.getfield 56, 3) := by decide +kernel
theorem d_Mod_ringAt_11 : decode b_Mod_ringAt 11 = .ok (.iconst 1, 1) := by decide +kernel
theorem d_Mod_ringAt_12 : decode b_Mod_ringAt 12 = .ok (.isub, 1) := by decide +kernel
theorem d_Mod_ringAt_13 : decode b_Mod_ringAt 13 = .ok (.invokestatic 175, 3) := by decide +kernel
theorem d_Mod_ringAt_16 : decode b_Mod_ringAt 16 = .ok (.ifCond .eq 12, 3) := by decide +kernel
theorem d_Mod_ringAt_19 : decode b_Mod_ringAt 19 = .ok (.aload_n 0, 1) := by decide +kernel
theorem d_Mod_ringAt_20 : decode b_Mod_ringAt 20 = .ok (.getfield 53, 3) := by decide +kernel
theorem d_Mod_ringAt_23 : decode b_Mod_ringAt 23 = .ok (.iload_n 1, 1) := by decide +kernel
theorem d_Mod_ringAt_24 : decode b_Mod_ringAt 24 = .ok (.iaload, 1) := by decide +kernel
theorem d_Mod_ringAt_25 : decode b_Mod_ringAt 25 = .ok (.goto 4, 3) := by decide +kernel
theorem d_Mod_ringAt_28 : decode b_Mod_ringAt 28 = .ok (.iconst (-1), 1) := by decide +kernel
theorem d_Mod_ringAt_29 : decode b_Mod_ringAt 29 = .ok (.ireturn, 1) := by decide +kernel
noncomputable def f_Mod_ringAt (z : Nat → Nat) (σ : Mm) (o : Nat) (p1 : Int32) : Option (Int32 × Mm) :=
  mm_lt (kI σ o 0 (0 : Int32)) fun m2 =>
  (f_Mod_isIn z m2 p1 (0 : Int32) ((m2.1 o 26) - (1 : Int32))).bind fun q13 =>
  if q13 = 0 then (
    some (((-1) : Int32), m2)
  ) else (
    (mm_ldI (m2.1 (o + 8)) (z (o + 8)) p1).bind fun x24 =>
    some (x24, m2)
  )
set_option maxHeartbeats 4000000 in
set_option maxRecDepth 100000 in
theorem c_Mod_ringAt (l : Launch) {L : Ly} (hg : gd_ok L) {σ : Mm} {o : Nat} {p1 : Int32} (k_o_0 : ly_k L o = 11) {res : Int32 × Mm} (hf0 : f_Mod_ringAt (ly_z L) σ o p1 = some res) : CtI l y_Mod_ringAt b_Mod_ringAt 2 (some .int) rm_Mod_ringAt L [.ref (ly_a L o), .int p1] σ res.1 res.2 := by
  refine ct_i hg (by decide) (Nat.le_of_ble_eq_true rfl) ?_
  intro E A Q hE C hN
  subst hE
  have k_o_8 : ly_k L (o + 8) = 20 := gd_Mod_ringKept hg k_o_0
  unfold f_Mod_ringAt at hf0
  show GW E L A 2 0 0 Q σ 0 [(0, .ref (ly_a L o)), (1, .int p1)] []
  refine gw_aload_n C 0 d_Mod_ringAt_0 rfl rfl ?_
  refine gw_iconst C (0 : Int32) d_Mod_ringAt_1 (by decide) ?_
  obtain ⟨m2, em2, hf0⟩ := mx_lt hf0
  refine gw_putI t_Mod C 0 d_Mod_ringAt_2 k_o_0 (by decide) i_Mod rfl rfl (by decide) qw_1165 rfl rfl t_Mod_ok n_Mod rfl (t_Mod_ok 0 (by decide)) rfl rfl em2 ?_
  refine gw_iload_n C 1 d_Mod_ringAt_5 rfl rfl ?_
  refine gw_iconst C (0 : Int32) d_Mod_ringAt_6 (by decide) ?_
  refine gw_aload_n C 0 d_Mod_ringAt_7 rfl rfl ?_
  refine gw_getI C 26 d_Mod_ringAt_8 k_o_0 (by decide) i_Mod rfl rfl (by decide) qw_1191 rfl rfl ?_
  refine gw_iconst C (1 : Int32) d_Mod_ringAt_11 (by decide) ?_
  refine gw_isub C d_Mod_ringAt_12 ?_
  obtain ⟨q13, hq13, hf0⟩ := mx_bd hf0
  refine gw_callIS C (c_Mod_isIn _ hg hq13) d_Mod_ringAt_13 3 qw_1356 qw_1357 qw_12 qw_1358 hd_Mod_isIn rfl rfl (Nat.le_of_ble_eq_true rfl) ⟨rfl, rfl, Nat.le_of_ble_eq_true rfl, Nat.le_of_ble_eq_true rfl⟩ ⟨Nat.zero_le _, Nat.zero_le _⟩ ?_
  refine gw_if_eq C 28 d_Mod_ringAt_16 (by decide) (fun hc => ?_) (fun hc => ?_)
  · replace hf0 := mx_t hc hf0
    refine gw_iconst C ((-1) : Int32) d_Mod_ringAt_28 (by decide) ?_
    exact en_i hN hf0 d_Mod_ringAt_29
  · replace hf0 := mx_f hc hf0
    refine gw_aload_n C 0 d_Mod_ringAt_19 rfl rfl ?_
    refine gw_getA C 25 d_Mod_ringAt_20 k_o_0 (by decide) i_Mod rfl rfl (by decide) qw_1190 rfl rfl (o + 8) rfl ?_
    refine gw_iload_n C 1 d_Mod_ringAt_23 rfl rfl ?_
    obtain ⟨x24, hx24, hf0⟩ := mx_bd hf0
    obtain ⟨gx24, ex24⟩ := mx_ldI hx24
    refine gw_iald C d_Mod_ringAt_24 k_o_8 gx24 ex24 ?_
    refine gw_goto C 29 d_Mod_ringAt_25 (by decide) ?_
    exact en_i hN hf0 d_Mod_ringAt_29

/-! NameHatModel.pointOf(II)I -/
abbrev b_Mod_pointOf : ByteArray := prog_14_method_53_code
def y_Mod_pointOf : MethodName := ⟨"NameHatModel", "pointOf", "(II)I"⟩
abbrev rm_Mod_pointOf : Room := { frames := 1, cells := 0, slots := 0, locals := 23 }
theorem hd_Mod_pointOf : y_Mod_pointOf.cls ≠ "java/lang/invoke/MethodHandle" ∧ y_Mod_pointOf.cls ≠ "java/lang/invoke/VarHandle" ∧ (parseMethodDescriptor y_Mod_pointOf.desc).map (fun d => d.parameters.length) = some 2 := by decide +kernel
theorem d_Mod_pointOf_0 : decode b_Mod_pointOf 0 = .ok (.iload_n 1, 1) := by decide +kernel
theorem d_Mod_pointOf_1 : decode b_Mod_pointOf 1 = .ok (.istore_n 3, 1) := by decide +kernel
theorem d_Mod_pointOf_2 : decode b_Mod_pointOf 2 = .ok (.iconst 0, 1) := by decide +kernel
theorem d_Mod_pointOf_3 : decode b_Mod_pointOf 3 = .ok (.istore 4, 2) := by decide +kernel
theorem d_Mod_pointOf_5 : decode b_Mod_pointOf 5 = .ok (.iload 4, 2) := by decide +kernel
theorem d_Mod_pointOf_7 : decode b_Mod_pointOf 7 = .ok (.aload_n 0, 1) := by decide +kernel
theorem d_Mod_pointOf_8 : decode b_Mod_pointOf 8 = .ok (.getfield 33, 3) := by decide +kernel
theorem d_Mod_pointOf_11 : decode b_Mod_pointOf 11 = .ok (.iconst 1, 1) := by decide +kernel
theorem d_Mod_pointOf_12 : decode b_Mod_pointOf 12 = .ok (.iaload, 1) := by decide +kernel
theorem d_Mod_pointOf_13 : decode b_Mod_pointOf 13 = .ok (.if_icmp .ge 64, 3) := by decide +kernel
theorem d_Mod_pointOf_16 : decode b_Mod_pointOf 16 = .ok (.iload_n 2, 1) := by decide +kernel
theorem d_Mod_pointOf_17 : decode b_Mod_pointOf 17 = .ok (.iload 4, 2) := by decide +kernel
theorem d_Mod_pointOf_19 : decode b_Mod_pointOf 19 = .ok (.invokestatic 217, 3) := by decide +kernel
theorem d_Mod_pointOf_22 : decode b_Mod_pointOf 22 = .ok (.ifCond .ne 6, 3) := by decide +kernel
theorem d_Mod_pointOf_25 : decode b_Mod_pointOf 25 = .ok (.goto 46, 3) := by decide +kernel
theorem d_Mod_pointOf_28 : decode b_Mod_pointOf 28 = .ok (.aload_n 0, 1) := by decide +kernel
theorem d_Mod_pointOf_29 : decode b_Mod_pointOf 29 = .ok (.iload_n 1, 1) := by decide +kernel
theorem d_Mod_pointOf_30 : decode b_Mod_pointOf 30 = .ok (.aload_n 0, 1) := by decide +kernel
theorem d_Mod_pointOf_31 : decode b_Mod_pointOf 31 = .ok (.getfield 33, 3) := by decide +kernel
theorem d_Mod_pointOf_34 : decode b_Mod_pointOf 34 = .ok (.bipush 123, 2) := by decide +kernel
theorem d_Mod_pointOf_36 : decode b_Mod_pointOf 36 = .ok (.iload 4, 2) := by decide +kernel
theorem d_Mod_pointOf_38 : decode b_Mod_pointOf 38 = .ok (.iadd, 1) := by decide +kernel
theorem d_Mod_pointOf_39 : decode b_Mod_pointOf 39 = .ok (.iaload, 1) := by decide +kernel
theorem d_Mod_pointOf_40 : decode b_Mod_pointOf 40 = .ok (.invokevirtual 255, 3) := by decide +kernel
theorem d_Mod_pointOf_43 : decode b_Mod_pointOf 43 = .ok (.istore 5, 2) := by decide +kernel
theorem d_Mod_pointOf_45 : decode b_Mod_pointOf 45 = .ok (.aload_n 0, 1) := by decide +kernel
theorem d_Mod_pointOf_46 : decode b_Mod_pointOf 46 = .ok (.iload_n 1, 1) := by decide +kernel
theorem d_Mod_pointOf_47 : decode b_Mod_pointOf 47 = .ok (.aload_n 0, 1) := by decide +kernel
theorem d_Mod_pointOf_48 : decode b_Mod_pointOf 48 = .ok (.getfield 33, 3) := by decide +kernel
theorem d_Mod_pointOf_51 : decode b_Mod_pointOf 51 = .ok (.bipush 123, 2) := by decide +kernel
theorem d_Mod_pointOf_53 : decode b_Mod_pointOf 53 = .ok (.iload_n 3, 1) := by decide +kernel
theorem d_Mod_pointOf_54 : decode b_Mod_pointOf 54 = .ok (.iadd, 1) := by decide +kernel
theorem d_Mod_pointOf_55 : decode b_Mod_pointOf 55 = .ok (.iaload, 1) := by decide +kernel
theorem d_Mod_pointOf_56 : decode b_Mod_pointOf 56 = .ok (.invokevirtual 255, 3) := by decide +kernel
theorem d_Mod_pointOf_59 : decode b_Mod_pointOf 59 = .ok (.istore 6, 2) := by decide +kernel
theorem d_Mod_pointOf_61 : decode b_Mod_pointOf 61 = .ok (.iload 5, 2) := by decide +kernel
theorem d_Mod_pointOf_63 : decode b_Mod_pointOf 63 = .ok (.iload 6, 2) := by decide +kernel
theorem d_Mod_pointOf_65 : decode b_Mod_pointOf 65 = .ok (.if_icmp .le 6, 3) := by decide +kernel
theorem d_Mod_pointOf_68 : decode b_Mod_pointOf 68 = .ok (.iload 4, 2) := by decide +kernel
theorem d_Mod_pointOf_70 : decode b_Mod_pointOf 70 = .ok (.istore_n 3, 1) := by decide +kernel
theorem d_Mod_pointOf_71 : decode b_Mod_pointOf 71 = .ok (.iinc 4 1, 3) := by decide +kernel
theorem d_Mod_pointOf_74 : decode b_Mod_pointOf 74 = .ok (.goto (-69), 3) := by decide +kernel
theorem d_Mod_pointOf_77 : decode b_Mod_pointOf 77 = .ok (.iload_n 3, 1) := by decide +kernel
theorem d_Mod_pointOf_78 : decode b_Mod_pointOf 78 = .ok (.ireturn, 1) := by decide +kernel
noncomputable def f_Mod_pointOf_L5 (z : Nat → Nat) (σ : Mm) (o : Nat) (v1 : Int32) (v2 : Int32) (s5 : Int32 × Int32) : Option ((Int32 × Int32) ⊕ (Int32)) :=
  (mm_ldI (σ.1 (o + 2)) (z (o + 2)) (1 : Int32)).bind fun x12 =>
  if x12 ≤ s5.2 then (
    some (.inr s5.1)
  ) else (
    (f_Mod_has z σ v2 s5.2).bind fun q19 =>
    if q19 = 0 then (
      mm_lt (s5.2 + (1 : Int32)) fun x71 =>
      some (.inl (s5.1, x71))
    ) else (
      (mm_ldI (σ.1 (o + 2)) (z (o + 2)) ((123 : Int32) + s5.2)).bind fun x39 =>
      (f_Mod_valueOf z σ o v1 x39).bind fun q40 =>
      (mm_ldI (σ.1 (o + 2)) (z (o + 2)) ((123 : Int32) + s5.1)).bind fun x55 =>
      (f_Mod_valueOf z σ o v1 x55).bind fun q56 =>
      if q40 ≤ q56 then (
        mm_lt (s5.2 + (1 : Int32)) fun x71 =>
        some (.inl (s5.1, x71))
      ) else (
        mm_lt (s5.2 + (1 : Int32)) fun x71 =>
        some (.inl (s5.2, x71))
      )
    )
  )
noncomputable def f_Mod_pointOf (z : Nat → Nat) (σ : Mm) (o : Nat) (p1 : Int32) (p2 : Int32) : Option (Int32) :=
  (mm_lp (f_Mod_pointOf_L5 z σ o p1 p2) (p1, (0 : Int32))).bind (fun q5 =>
    some q5)
set_option maxHeartbeats 4000000 in
set_option maxRecDepth 100000 in
theorem c_Mod_pointOf (l : Launch) {L : Ly} (hg : gd_ok L) {σ : Mm} {o : Nat} {p1 : Int32} {p2 : Int32} (k_o_0 : ly_k L o = 11) {res : Int32} (hf0 : f_Mod_pointOf (ly_z L) σ o p1 p2 = some res) : CtI l y_Mod_pointOf b_Mod_pointOf 7 (some .int) rm_Mod_pointOf L [.ref (ly_a L o), .int p1, .int p2] σ res σ := by
  refine ct_i hg (by decide) (Nat.le_of_ble_eq_true rfl) ?_
  intro E A Q hE C hN
  subst hE
  have k_o_2 : ly_k L (o + 2) = 20 := gd_Mod_s hg k_o_0
  unfold f_Mod_pointOf at hf0
  show GW E L A 7 0 0 Q σ 0 [(0, .ref (ly_a L o)), (1, .int p1), (2, .int p2)] []
  refine gw_iload_n C 1 d_Mod_pointOf_0 rfl rfl ?_
  refine gw_istore_n C [(3, .int p1), (0, .ref (ly_a L o)), (1, .int p1), (2, .int p2)] d_Mod_pointOf_1 rfl (by decide) rfl ?_
  refine gw_iconst C (0 : Int32) d_Mod_pointOf_2 (by decide) ?_
  refine gw_istore C [(4, .int (0 : Int32)), (3, .int p1), (0, .ref (ly_a L o)), (1, .int p1), (2, .int p2)] d_Mod_pointOf_3 (by decide) rfl ?_
  obtain ⟨q5, hq5, hf0⟩ := mx_bd hf0
  have hk5 : ∀ x9, q5 = x9 → GW E L A 7 0 0 Q σ 77 [(3, .int x9)] [] := by
    intro x9 hx9
    subst hx9
    refine gw_iload_n C 0 d_Mod_pointOf_77 rfl rfl ?_
    exact en_ip hN hf0 d_Mod_pointOf_78
  refine gw_sub [2, 3, 4, 1, 0] (lv' := [(0, .ref (ly_a L o)), (1, .int p1), (2, .int p2), (3, .int p1), (4, .int (0 : Int32))]) rfl ?_
  refine mm_rule hq5 (P := fun (s5 : Int32 × Int32) => GW E L A 7 0 0 Q σ 5 [(0, .ref (ly_a L o)), (1, .int p1), (2, .int p2), (3, .int s5.1), (4, .int s5.2)] []) ?_
  intro s5 ih5 hx5 ⟨w5, hb5⟩
  have hf1 := hb5
  unfold f_Mod_pointOf_L5 at hf1
  refine gw_iload C 4 d_Mod_pointOf_5 rfl ?_
  refine gw_aload_n C 0 d_Mod_pointOf_7 rfl rfl ?_
  refine gw_getA C 6 d_Mod_pointOf_8 k_o_0 (by decide) i_Mod rfl rfl (by decide) qw_1171 rfl rfl (o + 2) rfl ?_
  refine gw_iconst C (1 : Int32) d_Mod_pointOf_11 (by decide) ?_
  obtain ⟨x12, hx12, hf1⟩ := mx_bd hf1
  obtain ⟨gx12, ex12⟩ := mx_ldI hx12
  refine gw_iald C d_Mod_pointOf_12 k_o_2 gx12 ex12 ?_
  refine gw_icmp_ge C 77 d_Mod_pointOf_13 (by decide) (fun hc => ?_) (fun hc => ?_)
  · replace hf1 := mx_t hc hf1
    exact gw_go [3] (hk5 s5.1 (hx5 _ (hb5.trans hf1.symm)).symm) rfl
  · replace hf1 := mx_f hc hf1
    refine gw_iload_n C 2 d_Mod_pointOf_16 rfl rfl ?_
    refine gw_iload C 4 d_Mod_pointOf_17 rfl ?_
    obtain ⟨q19, hq19, hf1⟩ := mx_bd hf1
    refine gw_callIS C (c_Mod_has _ hg hq19) d_Mod_pointOf_19 2 qw_1375 qw_1376 qw_12 qw_1377 hd_Mod_has rfl rfl (Nat.le_of_ble_eq_true rfl) ⟨rfl, rfl, Nat.le_of_ble_eq_true rfl, Nat.le_of_ble_eq_true rfl⟩ ⟨Nat.zero_le _, Nat.zero_le _⟩ ?_
    refine gw_if_ne C 28 d_Mod_pointOf_22 (by decide) (fun hc => ?_) (fun hc => ?_)
    · replace hf1 := mx_f hc hf1
      refine gw_aload_n C 0 d_Mod_pointOf_28 rfl rfl ?_
      refine gw_iload_n C 1 d_Mod_pointOf_29 rfl rfl ?_
      refine gw_aload_n C 0 d_Mod_pointOf_30 rfl rfl ?_
      refine gw_getA C 6 d_Mod_pointOf_31 k_o_0 (by decide) i_Mod rfl rfl (by decide) qw_1171 rfl rfl (o + 2) rfl ?_
      refine gw_bipush C (123 : Int32) d_Mod_pointOf_34 (by decide) ?_
      refine gw_iload C 4 d_Mod_pointOf_36 rfl ?_
      refine gw_iadd C d_Mod_pointOf_38 ?_
      obtain ⟨x39, hx39, hf1⟩ := mx_bd hf1
      obtain ⟨gx39, ex39⟩ := mx_ldI hx39
      refine gw_iald C d_Mod_pointOf_39 k_o_2 gx39 ex39 ?_
      obtain ⟨q40, hq40, hf1⟩ := mx_bd hf1
      refine gw_callI C (c_Mod_valueOf _ hg k_o_0 hq40) d_Mod_pointOf_40 2 qw_1418 qw_1420 qs_58 qw_12 qw_1421 k_o_0 (by decide) rfl hd_Mod_valueOf rfl rfl (Nat.le_of_ble_eq_true rfl) ⟨rfl, rfl, Nat.le_of_ble_eq_true rfl, Nat.le_of_ble_eq_true rfl⟩ ⟨Nat.zero_le _, Nat.zero_le _⟩ ?_
      refine gw_istore C [(5, .int q40), (0, .ref (ly_a L o)), (1, .int p1), (2, .int p2), (3, .int s5.1), (4, .int s5.2)] d_Mod_pointOf_43 (by decide) rfl ?_
      refine gw_aload_n C 1 d_Mod_pointOf_45 rfl rfl ?_
      refine gw_iload_n C 2 d_Mod_pointOf_46 rfl rfl ?_
      refine gw_aload_n C 1 d_Mod_pointOf_47 rfl rfl ?_
      refine gw_getA C 6 d_Mod_pointOf_48 k_o_0 (by decide) i_Mod rfl rfl (by decide) qw_1171 rfl rfl (o + 2) rfl ?_
      refine gw_bipush C (123 : Int32) d_Mod_pointOf_51 (by decide) ?_
      refine gw_iload_n C 4 d_Mod_pointOf_53 rfl rfl ?_
      refine gw_iadd C d_Mod_pointOf_54 ?_
      obtain ⟨x55, hx55, hf1⟩ := mx_bd hf1
      obtain ⟨gx55, ex55⟩ := mx_ldI hx55
      refine gw_iald C d_Mod_pointOf_55 k_o_2 gx55 ex55 ?_
      obtain ⟨q56, hq56, hf1⟩ := mx_bd hf1
      refine gw_callI C (c_Mod_valueOf _ hg k_o_0 hq56) d_Mod_pointOf_56 2 qw_1418 qw_1420 qs_58 qw_12 qw_1421 k_o_0 (by decide) rfl hd_Mod_valueOf rfl rfl (Nat.le_of_ble_eq_true rfl) ⟨rfl, rfl, Nat.le_of_ble_eq_true rfl, Nat.le_of_ble_eq_true rfl⟩ ⟨Nat.zero_le _, Nat.zero_le _⟩ ?_
      refine gw_istore C [(6, .int q56), (5, .int q40), (0, .ref (ly_a L o)), (1, .int p1), (2, .int p2), (3, .int s5.1), (4, .int s5.2)] d_Mod_pointOf_59 (by decide) rfl ?_
      refine gw_iload C 1 d_Mod_pointOf_61 rfl ?_
      refine gw_iload C 0 d_Mod_pointOf_63 rfl ?_
      refine gw_icmp_le C 71 d_Mod_pointOf_65 (by decide) (fun hc => ?_) (fun hc => ?_)
      · replace hf1 := mx_t hc hf1
        obtain ⟨x71, ex71, hf1⟩ := mx_lt hf1
        refine gw_iinc C 6 [(4, .int x71), (6, .int q56), (5, .int q40), (0, .ref (ly_a L o)), (1, .int p1), (2, .int p2), (3, .int s5.1)] d_Mod_pointOf_71 rfl (by rw [ex71]; rfl) (by decide) rfl ?_
        refine gw_goto C 5 d_Mod_pointOf_74 (by decide) ?_
        exact gw_go [3, 4, 5, 6, 0] (ih5 (s5.1, x71) (hb5.trans hf1.symm)) rfl
      · replace hf1 := mx_f hc hf1
        refine gw_iload C 6 d_Mod_pointOf_68 rfl ?_
        refine gw_istore_n C [(3, .int s5.2), (6, .int q56), (5, .int q40), (0, .ref (ly_a L o)), (1, .int p1), (2, .int p2), (4, .int s5.2)] d_Mod_pointOf_70 rfl (by decide) rfl ?_
        obtain ⟨x71, ex71, hf1⟩ := mx_lt hf1
        refine gw_iinc C 6 [(4, .int x71), (3, .int s5.2), (6, .int q56), (5, .int q40), (0, .ref (ly_a L o)), (1, .int p1), (2, .int p2)] d_Mod_pointOf_71 rfl (by rw [ex71]; rfl) (by decide) rfl ?_
        refine gw_goto C 5 d_Mod_pointOf_74 (by decide) ?_
        exact gw_go [4, 5, 6, 1, 0] (ih5 (s5.2, x71) (hb5.trans hf1.symm)) rfl
    · replace hf1 := mx_t hc hf1
      refine gw_goto C 71 d_Mod_pointOf_25 (by decide) ?_
      obtain ⟨x71, ex71, hf1⟩ := mx_lt hf1
      refine gw_iinc C 4 [(4, .int x71), (0, .ref (ly_a L o)), (1, .int p1), (2, .int p2), (3, .int s5.1)] d_Mod_pointOf_71 rfl (by rw [ex71]; rfl) (by decide) rfl ?_
      refine gw_goto C 5 d_Mod_pointOf_74 (by decide) ?_
      exact gw_go [1, 2, 3, 4, 0] (ih5 (s5.1, x71) (hb5.trans hf1.symm)) rfl

/-! NameHatModel.trades()I -/
abbrev b_Mod_trades : ByteArray := prog_14_method_54_code
def y_Mod_trades : MethodName := ⟨"NameHatModel", "trades", "()I"⟩
abbrev rm_Mod_trades : Room := { frames := 2, cells := 0, slots := 0, locals := 49 }
theorem hd_Mod_trades : y_Mod_trades.cls ≠ "java/lang/invoke/MethodHandle" ∧ y_Mod_trades.cls ≠ "java/lang/invoke/VarHandle" ∧ (parseMethodDescriptor y_Mod_trades.desc).map (fun d => d.parameters.length) = some 0 := by decide +kernel
theorem d_Mod_trades_0 : decode b_Mod_trades 0 = .ok (.iconst 0, 1) := by decide +kernel
theorem d_Mod_trades_1 : decode b_Mod_trades 1 = .ok (.istore_n 1, 1) := by decide +kernel
theorem d_Mod_trades_2 : decode b_Mod_trades 2 = .ok (.iconst 0, 1) := by decide +kernel
theorem d_Mod_trades_3 : decode b_Mod_trades 3 = .ok (.istore_n 2, 1) := by decide +kernel
theorem d_Mod_trades_4 : decode b_Mod_trades 4 = .ok (.iload_n 2, 1) := by decide +kernel
theorem d_Mod_trades_5 : decode b_Mod_trades 5 = .ok (.aload_n 0, 1) := by decide +kernel
theorem d_Mod_trades_6 : decode b_Mod_trades 6 = .ok (.getfield 33, 3) := by decide +kernel
theorem d_Mod_trades_9 : decode b_Mod_trades 9 = .ok (.iconst 1, 1) := by decide +kernel
theorem d_Mod_trades_10 : decode b_Mod_trades 10 = .ok (.iaload, 1) := by decide +kernel
theorem d_Mod_trades_11 : decode b_Mod_trades 11 = .ok (.if_icmp .ge 54, 3) := by decide +kernel
theorem d_Mod_trades_14 : decode b_Mod_trades 14 = .ok (.aload_n 0, 1) := by decide +kernel
theorem d_Mod_trades_15 : decode b_Mod_trades 15 = .ok (.getfield 62, 3) := by decide +kernel
theorem d_Mod_trades_18 : decode b_Mod_trades 18 = .ok (.iload_n 2, 1) := by decide +kernel
theorem d_Mod_trades_19 : decode b_Mod_trades 19 = .ok (.aload_n 0, 1) := by decide +kernel
theorem d_Mod_trades_20 : decode b_Mod_trades 20 = .ok (.getfield 33, 3) := by decide +kernel
theorem d_Mod_trades_23 : decode b_Mod_trades 23 = .ok (.bipush 123, 2) := by decide +kernel
theorem d_Mod_trades_25 : decode b_Mod_trades 25 = .ok (.iload_n 2, 1) := by decide +kernel
theorem d_Mod_trades_26 : decode b_Mod_trades 26 = .ok (.iadd, 1) := by decide +kernel
theorem d_Mod_trades_27 : decode b_Mod_trades 27 = .ok (.iaload, 1) := by decide +kernel
theorem d_Mod_trades_28 : decode b_Mod_trades 28 = .ok (.iastore, 1) := by decide +kernel
theorem d_Mod_trades_29 : decode b_Mod_trades 29 = .ok (.iload_n 1, 1) := by decide +kernel
theorem d_Mod_trades_30 : decode b_Mod_trades 30 = .ok (.aload_n 0, 1) := by decide +kernel
theorem d_Mod_trades_31 : decode b_Mod_trades 31 = .ok (.getfield 33, 3) := by decide +kernel
theorem d_Mod_trades_34 : decode b_Mod_trades 34 = .ok (.bipush 123, 2) := by decide +kernel
theorem d_Mod_trades_36 : decode b_Mod_trades 36 = .ok (.iload_n 2, 1) := by decide +kernel
theorem d_Mod_trades_37 : decode b_Mod_trades 37 = .ok (.iadd, 1) := by decide +kernel
theorem d_Mod_trades_38 : decode b_Mod_trades 38 = .ok (.iaload, 1) := by decide +kernel
theorem d_Mod_trades_39 : decode b_Mod_trades 39 = .ok (.ifCond .lt 17, 3) := by decide +kernel
theorem d_Mod_trades_42 : decode b_Mod_trades 42 = .ok (.aload_n 0, 1) := by decide +kernel
theorem d_Mod_trades_43 : decode b_Mod_trades 43 = .ok (.iload_n 2, 1) := by decide +kernel
theorem d_Mod_trades_44 : decode b_Mod_trades 44 = .ok (.invokevirtual 274, 3) := by decide +kernel
theorem d_Mod_trades_47 : decode b_Mod_trades 47 = .ok (.ifCond .ne 9, 3) := by decide +kernel
theorem d_Mod_trades_50 : decode b_Mod_trades 50 = .ok (.iconst 1, 1) := by decide +kernel
theorem d_Mod_trades_51 : decode b_Mod_trades 51 = .ok (.iload_n 2, 1) := by decide +kernel
theorem d_Mod_trades_52 : decode b_Mod_trades 52 = .ok (.ishl, 1) := by decide +kernel
theorem d_Mod_trades_53 : decode b_Mod_trades 53 = .ok (.goto 4, 3) := by decide +kernel
theorem d_Mod_trades_56 : decode b_Mod_trades 56 = .ok (.iconst 0, 1) := by decide +kernel
theorem d_Mod_trades_57 : decode b_Mod_trades 57 = .ok (.ior, 1) := by decide +kernel
theorem d_Mod_trades_58 : decode b_Mod_trades 58 = .ok (.istore_n 1, 1) := by decide +kernel
theorem d_Mod_trades_59 : decode b_Mod_trades 59 = .ok (.iinc 2 1, 3) := by decide +kernel
theorem d_Mod_trades_62 : decode b_Mod_trades 62 = .ok (.goto (-58), 3) := by decide +kernel
theorem d_Mod_trades_65 : decode b_Mod_trades 65 = .ok (.iconst 0, 1) := by decide +kernel
theorem d_Mod_trades_66 : decode b_Mod_trades 66 = .ok (.istore_n 2, 1) := by decide +kernel
theorem d_Mod_trades_67 : decode b_Mod_trades 67 = .ok (.iload_n 1, 1) := by decide +kernel
theorem d_Mod_trades_68 : decode b_Mod_trades 68 = .ok (.ifCond .eq 249, 3) := by decide +kernel
theorem d_Mod_trades_71 : decode b_Mod_trades 71 = .ok (.iconst 0, 1) := by decide +kernel
theorem d_Mod_trades_72 : decode b_Mod_trades 72 = .ok (.istore_n 3, 1) := by decide +kernel
theorem d_Mod_trades_73 : decode b_Mod_trades 73 = .ok (.iload_n 3, 1) := by decide +kernel
theorem d_Mod_trades_74 : decode b_Mod_trades 74 = .ok (.aload_n 0, 1) := by decide +kernel
theorem d_Mod_trades_75 : decode b_Mod_trades 75 = .ok (.getfield 33, 3) := by decide +kernel
theorem d_Mod_trades_78 : decode b_Mod_trades 78 = .ok (.iconst 1, 1) := by decide +kernel
theorem d_Mod_trades_79 : decode b_Mod_trades 79 = .ok (.iaload, 1) := by decide +kernel
theorem d_Mod_trades_80 : decode b_Mod_trades 80 = .ok (.if_icmp .ge 33, 3) := by decide +kernel
theorem d_Mod_trades_83 : decode b_Mod_trades 83 = .ok (.aload_n 0, 1) := by decide +kernel
theorem d_Mod_trades_84 : decode b_Mod_trades 84 = .ok (.getfield 59, 3) := by decide +kernel
theorem d_Mod_trades_87 : decode b_Mod_trades 87 = .ok (.iload_n 3, 1) := by decide +kernel
theorem d_Mod_trades_88 : decode b_Mod_trades 88 = .ok (.iload_n 1, 1) := by decide +kernel
theorem d_Mod_trades_89 : decode b_Mod_trades 89 = .ok (.iload_n 3, 1) := by decide +kernel
theorem d_Mod_trades_90 : decode b_Mod_trades 90 = .ok (.invokestatic 217, 3) := by decide +kernel
theorem d_Mod_trades_93 : decode b_Mod_trades 93 = .ok (.ifCond .eq 12, 3) := by decide +kernel
theorem d_Mod_trades_96 : decode b_Mod_trades 96 = .ok (.aload_n 0, 1) := by decide +kernel
theorem d_Mod_trades_97 : decode b_Mod_trades 97 = .ok (.iload_n 3, 1) := by decide +kernel
theorem d_Mod_trades_98 : decode b_Mod_trades 98 = .ok (.iload_n 1, 1) := by decide +kernel
theorem d_Mod_trades_99 : decode b_Mod_trades 99 = .ok (.invokevirtual 290, 3) := by decide +kernel
theorem d_Mod_trades_102 : decode b_Mod_trades 102 = .ok (.goto 4, 3) := by decide +kernel
theorem d_Mod_trades_105 : decode b_Mod_trades 105 = .ok (.iconst (-1), 1) := by decide +kernel
theorem d_Mod_trades_106 : decode b_Mod_trades 106 = .ok (.iastore, 1) := by decide +kernel
theorem d_Mod_trades_107 : decode b_Mod_trades 107 = .ok (.iinc 3 1, 3) := by decide +kernel
theorem d_Mod_trades_110 : decode b_Mod_trades 110 = .ok (.goto (-37), 3) := by decide +kernel
theorem d_Mod_trades_113 : decode b_Mod_trades 113 = .ok (.iconst 0, 1) := by decide +kernel
theorem d_Mod_trades_114 : decode b_Mod_trades 114 = .ok (.istore_n 3, 1) := by decide +kernel
theorem d_Mod_trades_115 : decode b_Mod_trades 115 = .ok (.iconst 0, 1) := by decide +kernel
theorem d_Mod_trades_116 : decode b_Mod_trades 116 = .ok (.istore 4, 2) := by decide +kernel
theorem d_Mod_trades_118 : decode b_Mod_trades 118 = .ok (.iload 4, 2) := by decide +kernel
theorem d_Mod_trades_120 : decode b_Mod_trades 120 = .ok (.aload_n 0, 1) := by decide +kernel
theorem d_Mod_trades_121 : decode b_Mod_trades 121 = .ok (.getfield 33, 3) := by decide +kernel
theorem d_Mod_trades_124 : decode b_Mod_trades 124 = .ok (.iconst 1, 1) := by decide +kernel
theorem d_Mod_trades_125 : decode b_Mod_trades 125 = .ok (.iaload, 1) := by decide +kernel
theorem d_Mod_trades_126 : decode b_Mod_trades 126 = .ok (.if_icmp .ge 131, 3) := by decide +kernel
theorem d_Mod_trades_129 : decode b_Mod_trades 129 = .ok (.iload_n 1, 1) := by decide +kernel
theorem d_Mod_trades_130 : decode b_Mod_trades 130 = .ok (.iload 4, 2) := by decide +kernel
theorem d_Mod_trades_132 : decode b_Mod_trades 132 = .ok (.invokestatic 217, 3) := by decide +kernel
theorem d_Mod_trades_135 : decode b_Mod_trades 135 = .ok (.ifCond .eq 116, 3) := by decide +kernel
theorem d_Mod_trades_138 : decode b_Mod_trades 138 = .ok (.iload_n 3, 1) := by decide +kernel
theorem d_Mod_trades_139 : decode b_Mod_trades 139 = .ok (.iload 4, 2) := by decide +kernel
theorem d_Mod_trades_141 : decode b_Mod_trades 141 = .ok (.invokestatic 217, 3) := by decide +kernel
theorem d_Mod_trades_144 : decode b_Mod_trades 144 = .ok (.ifCond .eq 6, 3) := by decide +kernel
theorem d_Mod_trades_147 : decode b_Mod_trades 147 = .ok (.goto 104, 3) := by decide +kernel
theorem d_Mod_trades_150 : decode b_Mod_trades 150 = .ok (.iload 4, 2) := by decide +kernel
theorem d_Mod_trades_152 : decode b_Mod_trades 152 = .ok (.istore 5, 2) := by decide +kernel
theorem d_Mod_trades_154 : decode b_Mod_trades 154 = .ok (.iconst 0, 1) := by decide +kernel
theorem d_Mod_trades_155 : decode b_Mod_trades 155 = .ok (.istore 6, 2) := by decide +kernel
theorem d_Mod_trades_157 : decode b_Mod_trades 157 = .ok (.iload 6, 2) := by decide +kernel
theorem d_Mod_trades_159 : decode b_Mod_trades 159 = .ok (.bipush 8, 2) := by decide +kernel
theorem d_Mod_trades_161 : decode b_Mod_trades 161 = .ok (.if_icmp .ge 18, 3) := by decide +kernel
theorem d_Mod_trades_164 : decode b_Mod_trades 164 = .ok (.aload_n 0, 1) := by decide +kernel
theorem d_Mod_trades_165 : decode b_Mod_trades 165 = .ok (.getfield 59, 3) := by decide +kernel
theorem d_Mod_trades_168 : decode b_Mod_trades 168 = .ok (.iload 5, 2) := by decide +kernel
theorem d_Mod_trades_170 : decode b_Mod_trades 170 = .ok (.iaload, 1) := by decide +kernel
theorem d_Mod_trades_171 : decode b_Mod_trades 171 = .ok (.istore 5, 2) := by decide +kernel
theorem d_Mod_trades_173 : decode b_Mod_trades 173 = .ok (.iinc 6 1, 3) := by decide +kernel
theorem d_Mod_trades_176 : decode b_Mod_trades 176 = .ok (.goto (-19), 3) := by decide +kernel
theorem d_Mod_trades_179 : decode b_Mod_trades 179 = .ok (.iconst 0, 1) := by decide +kernel
theorem d_Mod_trades_180 : decode b_Mod_trades 180 = .ok (.istore 6, 2) := by decide +kernel
theorem d_Mod_trades_182 : decode b_Mod_trades 182 = .ok (.iload 5, 2) := by decide +kernel
theorem d_Mod_trades_184 : decode b_Mod_trades 184 = .ok (.istore 7, 2) := by decide +kernel
theorem d_Mod_trades_186 : decode b_Mod_trades 186 = .ok (.iload 6, 2) := by decide +kernel
theorem d_Mod_trades_188 : decode b_Mod_trades 188 = .ok (.iload 7, 2) := by decide +kernel
theorem d_Mod_trades_190 : decode b_Mod_trades 190 = .ok (.invokestatic 217, 3) := by decide +kernel
theorem d_Mod_trades_193 : decode b_Mod_trades 193 = .ok (.ifCond .ne 24, 3) := by decide +kernel
theorem d_Mod_trades_196 : decode b_Mod_trades 196 = .ok (.iload 6, 2) := by decide +kernel
theorem d_Mod_trades_198 : decode b_Mod_trades 198 = .ok (.iconst 1, 1) := by decide +kernel
theorem d_Mod_trades_199 : decode b_Mod_trades 199 = .ok (.iload 7, 2) := by decide +kernel
theorem d_Mod_trades_201 : decode b_Mod_trades 201 = .ok (.ishl, 1) := by decide +kernel
theorem d_Mod_trades_202 : decode b_Mod_trades 202 = .ok (.ior, 1) := by decide +kernel
theorem d_Mod_trades_203 : decode b_Mod_trades 203 = .ok (.istore 6, 2) := by decide +kernel
theorem d_Mod_trades_205 : decode b_Mod_trades 205 = .ok (.aload_n 0, 1) := by decide +kernel
theorem d_Mod_trades_206 : decode b_Mod_trades 206 = .ok (.getfield 59, 3) := by decide +kernel
theorem d_Mod_trades_209 : decode b_Mod_trades 209 = .ok (.iload 7, 2) := by decide +kernel
theorem d_Mod_trades_211 : decode b_Mod_trades 211 = .ok (.iaload, 1) := by decide +kernel
theorem d_Mod_trades_212 : decode b_Mod_trades 212 = .ok (.istore 7, 2) := by decide +kernel
theorem d_Mod_trades_214 : decode b_Mod_trades 214 = .ok (.goto (-28), 3) := by decide +kernel
theorem d_Mod_trades_217 : decode b_Mod_trades 217 = .ok (.iload_n 3, 1) := by decide +kernel
theorem d_Mod_trades_218 : decode b_Mod_trades 218 = .ok (.iload 5, 2) := by decide +kernel
theorem d_Mod_trades_220 : decode b_Mod_trades 220 = .ok (.invokestatic 217, 3) := by decide +kernel
theorem d_Mod_trades_223 : decode b_Mod_trades 223 = .ok (.ifCond .eq 6, 3) := by decide +kernel
theorem d_Mod_trades_226 : decode b_Mod_trades 226 = .ok (.goto 25, 3) := by decide +kernel
theorem d_Mod_trades_229 : decode b_Mod_trades 229 = .ok (.iload_n 3, 1) := by decide +kernel
theorem d_Mod_trades_230 : decode b_Mod_trades 230 = .ok (.iload 6, 2) := by decide +kernel
theorem d_Mod_trades_232 : decode b_Mod_trades 232 = .ok (.ior, 1) := by decide +kernel
theorem d_Mod_trades_233 : decode b_Mod_trades 233 = .ok (.istore_n 3, 1) := by decide +kernel
theorem d_Mod_trades_234 : decode b_Mod_trades 234 = .ok (.iload_n 2, 1) := by decide +kernel
theorem d_Mod_trades_235 : decode b_Mod_trades 235 = .ok (.iload 6, 2) := by decide +kernel
theorem d_Mod_trades_237 : decode b_Mod_trades 237 = .ok (.invokestatic 262, 3) := by decide +kernel
theorem d_Mod_trades_240 : decode b_Mod_trades 240 = .ok (.iconst 1, 1) := by decide +kernel
theorem d_Mod_trades_241 : decode b_Mod_trades 241 = .ok (.if_icmp .le 7, 3) := by decide +kernel
theorem d_Mod_trades_244 : decode b_Mod_trades 244 = .ok (.iconst 1, 1) := by decide +kernel
theorem d_Mod_trades_245 : decode b_Mod_trades 245 = .ok (.goto 4, 3) := by decide +kernel
theorem d_Mod_trades_248 : decode b_Mod_trades 248 = .ok (.iconst 0, 1) := by decide +kernel
theorem d_Mod_trades_249 : decode b_Mod_trades 249 = .ok (.iadd, 1) := by decide +kernel
theorem d_Mod_trades_250 : decode b_Mod_trades 250 = .ok (.istore_n 2, 1) := by decide +kernel
theorem d_Mod_trades_251 : decode b_Mod_trades 251 = .ok (.iinc 4 1, 3) := by decide +kernel
theorem d_Mod_trades_254 : decode b_Mod_trades 254 = .ok (.goto (-136), 3) := by decide +kernel
theorem d_Mod_trades_257 : decode b_Mod_trades 257 = .ok (.iconst 0, 1) := by decide +kernel
theorem d_Mod_trades_258 : decode b_Mod_trades 258 = .ok (.istore 4, 2) := by decide +kernel
theorem d_Mod_trades_260 : decode b_Mod_trades 260 = .ok (.iload 4, 2) := by decide +kernel
theorem d_Mod_trades_262 : decode b_Mod_trades 262 = .ok (.aload_n 0, 1) := by decide +kernel
theorem d_Mod_trades_263 : decode b_Mod_trades 263 = .ok (.getfield 33, 3) := by decide +kernel
theorem d_Mod_trades_266 : decode b_Mod_trades 266 = .ok (.iconst 1, 1) := by decide +kernel
theorem d_Mod_trades_267 : decode b_Mod_trades 267 = .ok (.iaload, 1) := by decide +kernel
theorem d_Mod_trades_268 : decode b_Mod_trades 268 = .ok (.if_icmp .ge 40, 3) := by decide +kernel
theorem d_Mod_trades_271 : decode b_Mod_trades 271 = .ok (.iload_n 3, 1) := by decide +kernel
theorem d_Mod_trades_272 : decode b_Mod_trades 272 = .ok (.iload 4, 2) := by decide +kernel
theorem d_Mod_trades_274 : decode b_Mod_trades 274 = .ok (.invokestatic 217, 3) := by decide +kernel
theorem d_Mod_trades_277 : decode b_Mod_trades 277 = .ok (.ifCond .eq 25, 3) := by decide +kernel
theorem d_Mod_trades_280 : decode b_Mod_trades 280 = .ok (.aload_n 0, 1) := by decide +kernel
theorem d_Mod_trades_281 : decode b_Mod_trades 281 = .ok (.getfield 62, 3) := by decide +kernel
theorem d_Mod_trades_284 : decode b_Mod_trades 284 = .ok (.iload 4, 2) := by decide +kernel
theorem d_Mod_trades_286 : decode b_Mod_trades 286 = .ok (.aload_n 0, 1) := by decide +kernel
theorem d_Mod_trades_287 : decode b_Mod_trades 287 = .ok (.getfield 33, 3) := by decide +kernel
theorem d_Mod_trades_290 : decode b_Mod_trades 290 = .ok (.bipush 123, 2) := by decide +kernel
theorem d_Mod_trades_292 : decode b_Mod_trades 292 = .ok (.aload_n 0, 1) := by decide +kernel
theorem d_Mod_trades_293 : decode b_Mod_trades 293 = .ok (.getfield 59, 3) := by decide +kernel
theorem d_Mod_trades_296 : decode b_Mod_trades 296 = .ok (.iload 4, 2) := by decide +kernel
theorem d_Mod_trades_298 : decode b_Mod_trades 298 = .ok (.iaload, 1) := by decide +kernel
theorem d_Mod_trades_299 : decode b_Mod_trades 299 = .ok (.iadd, 1) := by decide +kernel
theorem d_Mod_trades_300 : decode b_Mod_trades 300 = .ok (.iaload, 1) := by decide +kernel
theorem d_Mod_trades_301 : decode b_Mod_trades 301 = .ok (.iastore, 1) := by decide +kernel
theorem d_Mod_trades_302 : decode b_Mod_trades 302 = .ok (.iinc 4 1, 3) := by decide +kernel
theorem d_Mod_trades_305 : decode b_Mod_trades 305 = .ok (.goto (-45), 3) := by decide +kernel
theorem d_Mod_trades_308 : decode b_Mod_trades 308 = .ok (.iload_n 1, 1) := by decide +kernel
theorem d_Mod_trades_309 : decode b_Mod_trades 309 = .ok (.iload_n 3, 1) := by decide +kernel
theorem d_Mod_trades_310 : decode b_Mod_trades 310 = .ok (.iconst (-1), 1) := by decide +kernel
theorem d_Mod_trades_311 : decode b_Mod_trades 311 = .ok (.ixor, 1) := by decide +kernel
theorem d_Mod_trades_312 : decode b_Mod_trades 312 = .ok (.iand, 1) := by decide +kernel
theorem d_Mod_trades_313 : decode b_Mod_trades 313 = .ok (.istore_n 1, 1) := by decide +kernel
theorem d_Mod_trades_314 : decode b_Mod_trades 314 = .ok (.goto (-247), 3) := by decide +kernel
theorem d_Mod_trades_317 : decode b_Mod_trades 317 = .ok (.iconst 0, 1) := by decide +kernel
theorem d_Mod_trades_318 : decode b_Mod_trades 318 = .ok (.istore_n 3, 1) := by decide +kernel
theorem d_Mod_trades_319 : decode b_Mod_trades 319 = .ok (.iload_n 3, 1) := by decide +kernel
theorem d_Mod_trades_320 : decode b_Mod_trades 320 = .ok (.aload_n 0, 1) := by decide +kernel
theorem d_Mod_trades_321 : decode b_Mod_trades 321 = .ok (.getfield 33, 3) := by decide +kernel
theorem d_Mod_trades_324 : decode b_Mod_trades 324 = .ok (.iconst 1, 1) := by decide +kernel
theorem d_Mod_trades_325 : decode b_Mod_trades 325 = .ok (.iaload, 1) := by decide +kernel
theorem d_Mod_trades_326 : decode b_Mod_trades 326 = .ok (.if_icmp .ge 24, 3) := by decide +kernel
theorem d_Mod_trades_329 : decode b_Mod_trades 329 = .ok (.aload_n 0, 1) := by decide +kernel
theorem d_Mod_trades_330 : decode b_Mod_trades 330 = .ok (.getfield 33, 3) := by decide +kernel
theorem d_Mod_trades_333 : decode b_Mod_trades 333 = .ok (.bipush 123, 2) := by decide +kernel
theorem d_Mod_trades_335 : decode b_Mod_trades 335 = .ok (.iload_n 3, 1) := by decide +kernel
theorem d_Mod_trades_336 : decode b_Mod_trades 336 = .ok (.iadd, 1) := by decide +kernel
theorem d_Mod_trades_337 : decode b_Mod_trades 337 = .ok (.aload_n 0, 1) := by decide +kernel
theorem d_Mod_trades_338 : decode b_Mod_trades 338 = .ok (.getfield 62, 3) := by decide +kernel
theorem d_Mod_trades_341 : decode b_Mod_trades 341 = .ok (.iload_n 3, 1) := by decide +kernel
theorem d_Mod_trades_342 : decode b_Mod_trades 342 = .ok (.iaload, 1) := by decide +kernel
theorem d_Mod_trades_343 : decode b_Mod_trades 343 = .ok (.iastore, 1) := by decide +kernel
theorem d_Mod_trades_344 : decode b_Mod_trades 344 = .ok (.iinc 3 1, 3) := by decide +kernel
theorem d_Mod_trades_347 : decode b_Mod_trades 347 = .ok (.goto (-28), 3) := by decide +kernel
theorem d_Mod_trades_350 : decode b_Mod_trades 350 = .ok (.iload_n 2, 1) := by decide +kernel
theorem d_Mod_trades_351 : decode b_Mod_trades 351 = .ok (.ireturn, 1) := by decide +kernel
noncomputable def f_Mod_trades_L4 (z : Nat → Nat) (o : Nat) (s4 : Int32 × Int32 × Mm) : Option ((Int32 × Int32 × Mm) ⊕ (Int32 × Mm)) :=
  (mm_ldI (s4.2.2.1 (o + 2)) (z (o + 2)) (1 : Int32)).bind fun x10 =>
  if x10 ≤ s4.2.1 then (
    some (.inr (s4.1, s4.2.2))
  ) else (
    (mm_ldI (s4.2.2.1 (o + 2)) (z (o + 2)) ((123 : Int32) + s4.2.1)).bind fun x27 =>
    (mm_stI s4.2.2 (o + 10) (z (o + 10)) s4.2.1 x27).bind fun m28 =>
    (mm_ldI (m28.1 (o + 2)) (z (o + 2)) ((123 : Int32) + s4.2.1)).bind fun x38 =>
    if x38 < 0 then (
      mm_lt ((s4.1 ||| (0 : Int32))) fun x58 =>
      mm_lt (s4.2.1 + (1 : Int32)) fun x59 =>
      some (.inl (x58, x59, m28))
    ) else (
      (f_Mod_isPawned z m28 o s4.2.1).bind fun q44 =>
      if q44 = 0 then (
        mm_lt ((s4.1 ||| ((1 : Int32) <<< (s4.2.1 &&& 31)))) fun x58 =>
        mm_lt (s4.2.1 + (1 : Int32)) fun x59 =>
        some (.inl (x58, x59, m28))
      ) else (
        mm_lt ((s4.1 ||| (0 : Int32))) fun x58 =>
        mm_lt (s4.2.1 + (1 : Int32)) fun x59 =>
        some (.inl (x58, x59, m28))
      )
    )
  )
noncomputable def f_Mod_trades_L73 (z : Nat → Nat) (o : Nat) (v1 : Int32) (v2 : Int32) (s73 : Int32 × Mm) : Option ((Int32 × Mm) ⊕ (Mm)) :=
  (mm_ldI (s73.2.1 (o + 2)) (z (o + 2)) (1 : Int32)).bind fun x79 =>
  if x79 ≤ s73.1 then (
    some (.inr s73.2)
  ) else (
    (f_Mod_has z s73.2 v1 s73.1).bind fun q90 =>
    if q90 = 0 then (
      (mm_stI s73.2 (o + 9) (z (o + 9)) s73.1 ((-1) : Int32)).bind fun m106 =>
      mm_lt (s73.1 + (1 : Int32)) fun x107 =>
      some (.inl (x107, m106))
    ) else (
      (f_Mod_pointOf z s73.2 o s73.1 v1).bind fun q99 =>
      (mm_stI s73.2 (o + 9) (z (o + 9)) s73.1 q99).bind fun m106 =>
      mm_lt (s73.1 + (1 : Int32)) fun x107 =>
      some (.inl (x107, m106))
    )
  )
noncomputable def f_Mod_trades_L157 (z : Nat → Nat) (σ : Mm) (o : Nat) (v1 : Int32) (v2 : Int32) (v3 : Int32) (v4 : Int32) (s157 : Int32 × Int32) : Option ((Int32 × Int32) ⊕ (Int32)) :=
  if (8 : Int32) ≤ s157.2 then (
    some (.inr s157.1)
  ) else (
    (mm_ldI (σ.1 (o + 9)) (z (o + 9)) s157.1).bind fun x170 =>
    mm_lt (s157.2 + (1 : Int32)) fun x173 =>
    some (.inl (x170, x173))
  )
noncomputable def f_Mod_trades_L186 (z : Nat → Nat) (σ : Mm) (o : Nat) (v1 : Int32) (v2 : Int32) (v3 : Int32) (v4 : Int32) (v5 : Int32) (s186 : Int32 × Int32) : Option ((Int32 × Int32) ⊕ (Int32)) :=
  (f_Mod_has z σ s186.1 s186.2).bind fun q190 =>
  if q190 = 0 then (
    mm_lt ((s186.1 ||| ((1 : Int32) <<< (s186.2 &&& 31)))) fun x203 =>
    (mm_ldI (σ.1 (o + 9)) (z (o + 9)) s186.2).bind fun x211 =>
    some (.inl (x203, x211))
  ) else (
    some (.inr s186.1)
  )
noncomputable def f_Mod_trades_L118 (z : Nat → Nat) (σ : Mm) (o : Nat) (v1 : Int32) (s118 : Int32 × Int32 × Int32) : Option ((Int32 × Int32 × Int32) ⊕ (Int32 × Int32)) :=
  (mm_ldI (σ.1 (o + 2)) (z (o + 2)) (1 : Int32)).bind fun x125 =>
  if x125 ≤ s118.2.2 then (
    some (.inr (s118.1, s118.2.1))
  ) else (
    (f_Mod_has z σ v1 s118.2.2).bind fun q132 =>
    if q132 = 0 then (
      mm_lt (s118.2.2 + (1 : Int32)) fun x251 =>
      some (.inl (s118.1, s118.2.1, x251))
    ) else (
      (f_Mod_has z σ s118.2.1 s118.2.2).bind fun q141 =>
      if q141 = 0 then (
        (mm_lp (f_Mod_trades_L157 z σ o v1 s118.1 s118.2.1 s118.2.2) (s118.2.2, (0 : Int32))).bind (fun q157 =>
          (mm_lp (f_Mod_trades_L186 z σ o v1 s118.1 s118.2.1 s118.2.2 q157) ((0 : Int32), q157)).bind (fun q186 =>
            (f_Mod_has z σ s118.2.1 q157).bind fun q220 =>
            if q220 = 0 then (
              mm_lt ((s118.2.1 ||| q186)) fun x233 =>
              (f_Mod_bits z σ q186).bind fun q237 =>
              if q237 ≤ (1 : Int32) then (
                mm_lt ((s118.1 + (0 : Int32))) fun x250 =>
                mm_lt (s118.2.2 + (1 : Int32)) fun x251 =>
                some (.inl (x250, x233, x251))
              ) else (
                mm_lt ((s118.1 + (1 : Int32))) fun x250 =>
                mm_lt (s118.2.2 + (1 : Int32)) fun x251 =>
                some (.inl (x250, x233, x251))
              )
            ) else (
              mm_lt (s118.2.2 + (1 : Int32)) fun x251 =>
              some (.inl (s118.1, s118.2.1, x251))
            )))
      ) else (
        mm_lt (s118.2.2 + (1 : Int32)) fun x251 =>
        some (.inl (s118.1, s118.2.1, x251))
      )
    )
  )
noncomputable def f_Mod_trades_L260 (z : Nat → Nat) (o : Nat) (v1 : Int32) (v2 : Int32) (v3 : Int32) (s260 : Int32 × Mm) : Option ((Int32 × Mm) ⊕ (Mm)) :=
  (mm_ldI (s260.2.1 (o + 2)) (z (o + 2)) (1 : Int32)).bind fun x267 =>
  if x267 ≤ s260.1 then (
    some (.inr s260.2)
  ) else (
    (f_Mod_has z s260.2 v3 s260.1).bind fun q274 =>
    if q274 = 0 then (
      mm_lt (s260.1 + (1 : Int32)) fun x302 =>
      some (.inl (x302, s260.2))
    ) else (
      (mm_ldI (s260.2.1 (o + 9)) (z (o + 9)) s260.1).bind fun x298 =>
      (mm_ldI (s260.2.1 (o + 2)) (z (o + 2)) ((123 : Int32) + x298)).bind fun x300 =>
      (mm_stI s260.2 (o + 10) (z (o + 10)) s260.1 x300).bind fun m301 =>
      mm_lt (s260.1 + (1 : Int32)) fun x302 =>
      some (.inl (x302, m301))
    )
  )
noncomputable def f_Mod_trades_L67 (z : Nat → Nat) (o : Nat) (s67 : Int32 × Int32 × Mm) : Option ((Int32 × Int32 × Mm) ⊕ (Int32 × Mm)) :=
  if s67.1 = 0 then (
    some (.inr (s67.2.1, s67.2.2))
  ) else (
    (mm_lp (f_Mod_trades_L73 z o s67.1 s67.2.1) ((0 : Int32), s67.2.2)).bind (fun q73 =>
      (mm_lp (f_Mod_trades_L118 z q73 o s67.1) (s67.2.1, (0 : Int32), (0 : Int32))).bind (fun q118 =>
        (mm_lp (f_Mod_trades_L260 z o s67.1 q118.1 q118.2) ((0 : Int32), q73)).bind (fun q260 =>
          mm_lt ((s67.1 &&& (q118.2 ^^^ ((-1) : Int32)))) fun x313 =>
          some (.inl (x313, q118.1, q260)))))
  )
noncomputable def f_Mod_trades_L319 (z : Nat → Nat) (o : Nat) (v2 : Int32) (s319 : Int32 × Mm) : Option ((Int32 × Mm) ⊕ (Mm)) :=
  (mm_ldI (s319.2.1 (o + 2)) (z (o + 2)) (1 : Int32)).bind fun x325 =>
  if x325 ≤ s319.1 then (
    some (.inr s319.2)
  ) else (
    (mm_ldI (s319.2.1 (o + 10)) (z (o + 10)) s319.1).bind fun x342 =>
    (mm_stI s319.2 (o + 2) (z (o + 2)) ((123 : Int32) + s319.1) x342).bind fun m343 =>
    mm_lt (s319.1 + (1 : Int32)) fun x344 =>
    some (.inl (x344, m343))
  )
noncomputable def f_Mod_trades (z : Nat → Nat) (σ : Mm) (o : Nat) : Option (Int32 × Mm) :=
  (mm_lp (f_Mod_trades_L4 z o) ((0 : Int32), (0 : Int32), σ)).bind (fun q4 =>
    (mm_lp (f_Mod_trades_L67 z o) (q4.1, (0 : Int32), q4.2)).bind (fun q67 =>
      (mm_lp (f_Mod_trades_L319 z o q67.1) ((0 : Int32), q67.2)).bind (fun q319 =>
        some (q67.1, q319))))
set_option maxHeartbeats 4000000 in
set_option maxRecDepth 100000 in
theorem c_Mod_trades (l : Launch) {L : Ly} (hg : gd_ok L) {σ : Mm} {o : Nat} (k_o_0 : ly_k L o = 11) {res : Int32 × Mm} (hf0 : f_Mod_trades (ly_z L) σ o = some res) : CtI l y_Mod_trades b_Mod_trades 8 (some .int) rm_Mod_trades L [.ref (ly_a L o)] σ res.1 res.2 := by
  refine ct_i hg (by decide) (Nat.le_of_ble_eq_true rfl) ?_
  intro E A Q hE C hN
  subst hE
  have k_o_2 : ly_k L (o + 2) = 20 := gd_Mod_s hg k_o_0
  have k_o_10 : ly_k L (o + 10) = 20 := gd_Mod_held hg k_o_0
  have k_o_9 : ly_k L (o + 9) = 20 := gd_Mod_points hg k_o_0
  unfold f_Mod_trades at hf0
  show GW E L A 8 0 0 Q σ 0 [(0, .ref (ly_a L o))] []
  refine gw_iconst C (0 : Int32) d_Mod_trades_0 (by decide) ?_
  refine gw_istore_n C [(1, .int (0 : Int32)), (0, .ref (ly_a L o))] d_Mod_trades_1 rfl (by decide) rfl ?_
  refine gw_iconst C (0 : Int32) d_Mod_trades_2 (by decide) ?_
  refine gw_istore_n C [(2, .int (0 : Int32)), (1, .int (0 : Int32)), (0, .ref (ly_a L o))] d_Mod_trades_3 rfl (by decide) rfl ?_
  obtain ⟨q4, hq4, hf0⟩ := mx_bd hf0
  have hk4 : ∀ x9, q4 = x9 → GW E L A 8 0 0 Q x9.2 65 [(0, .ref (ly_a L o)), (1, .int x9.1)] [] := by
    intro x9 hx9
    subst hx9
    refine gw_iconst C (0 : Int32) d_Mod_trades_65 (by decide) ?_
    refine gw_istore_n C [(2, .int (0 : Int32)), (0, .ref (ly_a L o)), (1, .int q4.1)] d_Mod_trades_66 rfl (by decide) rfl ?_
    obtain ⟨q67, hq67, hf0⟩ := mx_bd hf0
    have hk67 : ∀ x9, q67 = x9 → GW E L A 8 0 0 Q x9.2 317 [(0, .ref (ly_a L o)), (2, .int x9.1)] [] := by
      intro x9 hx9
      subst hx9
      refine gw_iconst C (0 : Int32) d_Mod_trades_317 (by decide) ?_
      refine gw_istore_n C [(3, .int (0 : Int32)), (0, .ref (ly_a L o)), (2, .int q67.1)] d_Mod_trades_318 rfl (by decide) rfl ?_
      obtain ⟨q319, hq319, hf0⟩ := mx_bd hf0
      have hk319 : ∀ x9, q319 = x9 → GW E L A 8 0 0 Q x9 350 [(2, .int q67.1)] [] := by
        intro x9 hx9
        subst hx9
        refine gw_iload_n C 0 d_Mod_trades_350 rfl rfl ?_
        exact en_i hN hf0 d_Mod_trades_351
      refine gw_sub [1, 2, 0] (lv' := [(0, .ref (ly_a L o)), (2, .int q67.1), (3, .int (0 : Int32))]) rfl ?_
      refine mm_rule hq319 (P := fun (s319 : Int32 × Mm) => GW E L A 8 0 0 Q s319.2 319 [(0, .ref (ly_a L o)), (2, .int q67.1), (3, .int s319.1)] []) ?_
      intro s319 ih319 hx319 ⟨w319, hb319⟩
      have hf1 := hb319
      unfold f_Mod_trades_L319 at hf1
      refine gw_iload_n C 2 d_Mod_trades_319 rfl rfl ?_
      refine gw_aload_n C 0 d_Mod_trades_320 rfl rfl ?_
      refine gw_getA C 6 d_Mod_trades_321 k_o_0 (by decide) i_Mod rfl rfl (by decide) qw_1171 rfl rfl (o + 2) rfl ?_
      refine gw_iconst C (1 : Int32) d_Mod_trades_324 (by decide) ?_
      obtain ⟨x325, hx325, hf1⟩ := mx_bd hf1
      obtain ⟨gx325, ex325⟩ := mx_ldI hx325
      refine gw_iald C d_Mod_trades_325 k_o_2 gx325 ex325 ?_
      refine gw_icmp_ge C 350 d_Mod_trades_326 (by decide) (fun hc => ?_) (fun hc => ?_)
      · replace hf1 := mx_t hc hf1
        exact gw_go [1] (hk319 s319.2 (hx319 _ (hb319.trans hf1.symm)).symm) rfl
      · replace hf1 := mx_f hc hf1
        refine gw_aload_n C 0 d_Mod_trades_329 rfl rfl ?_
        refine gw_getA C 6 d_Mod_trades_330 k_o_0 (by decide) i_Mod rfl rfl (by decide) qw_1171 rfl rfl (o + 2) rfl ?_
        refine gw_bipush C (123 : Int32) d_Mod_trades_333 (by decide) ?_
        refine gw_iload_n C 2 d_Mod_trades_335 rfl rfl ?_
        refine gw_iadd C d_Mod_trades_336 ?_
        refine gw_aload_n C 0 d_Mod_trades_337 rfl rfl ?_
        refine gw_getA C 28 d_Mod_trades_338 k_o_0 (by decide) i_Mod rfl rfl (by decide) qw_1193 rfl rfl (o + 10) rfl ?_
        refine gw_iload_n C 2 d_Mod_trades_341 rfl rfl ?_
        obtain ⟨x342, hx342, hf1⟩ := mx_bd hf1
        obtain ⟨gx342, ex342⟩ := mx_ldI hx342
        refine gw_iald C d_Mod_trades_342 k_o_10 gx342 ex342 ?_
        obtain ⟨m343, hm343, hf1⟩ := mx_bd hf1
        obtain ⟨gm343, em343⟩ := mx_stI hm343
        refine gw_iast C d_Mod_trades_343 k_o_2 gm343 em343 ?_
        obtain ⟨x344, ex344, hf1⟩ := mx_lt hf1
        refine gw_iinc C 2 [(3, .int x344), (0, .ref (ly_a L o)), (2, .int q67.1)] d_Mod_trades_344 rfl (by rw [ex344]; rfl) (by decide) rfl ?_
        refine gw_goto C 319 d_Mod_trades_347 (by decide) ?_
        exact gw_go [1, 2, 0] (ih319 (x344, m343) (hb319.trans hf1.symm)) rfl
    refine gw_sub [1, 2, 0] (lv' := [(0, .ref (ly_a L o)), (1, .int q4.1), (2, .int (0 : Int32))]) rfl ?_
    refine mm_rule hq67 (P := fun (s67 : Int32 × Int32 × Mm) => GW E L A 8 0 0 Q s67.2.2 67 [(0, .ref (ly_a L o)), (1, .int s67.1), (2, .int s67.2.1)] []) ?_
    intro s67 ih67 hx67 ⟨w67, hb67⟩
    have hf1 := hb67
    unfold f_Mod_trades_L67 at hf1
    refine gw_iload_n C 1 d_Mod_trades_67 rfl rfl ?_
    refine gw_if_eq C 317 d_Mod_trades_68 (by decide) (fun hc => ?_) (fun hc => ?_)
    · replace hf1 := mx_t hc hf1
      exact gw_go [0, 2] (hk67 (s67.2.1, s67.2.2) (hx67 _ (hb67.trans hf1.symm)).symm) rfl
    · replace hf1 := mx_f hc hf1
      refine gw_iconst C (0 : Int32) d_Mod_trades_71 (by decide) ?_
      refine gw_istore_n C [(3, .int (0 : Int32)), (0, .ref (ly_a L o)), (1, .int s67.1), (2, .int s67.2.1)] d_Mod_trades_72 rfl (by decide) rfl ?_
      obtain ⟨q73, hq73, hf1⟩ := mx_bd hf1
      have hk73 : ∀ x9, q73 = x9 → GW E L A 8 0 0 Q x9 113 [(0, .ref (ly_a L o)), (1, .int s67.1), (2, .int s67.2.1)] [] := by
        intro x9 hx9
        subst hx9
        refine gw_iconst C (0 : Int32) d_Mod_trades_113 (by decide) ?_
        refine gw_istore_n C [(3, .int (0 : Int32)), (0, .ref (ly_a L o)), (1, .int s67.1), (2, .int s67.2.1)] d_Mod_trades_114 rfl (by decide) rfl ?_
        refine gw_iconst C (0 : Int32) d_Mod_trades_115 (by decide) ?_
        refine gw_istore C [(4, .int (0 : Int32)), (3, .int (0 : Int32)), (0, .ref (ly_a L o)), (1, .int s67.1), (2, .int s67.2.1)] d_Mod_trades_116 (by decide) rfl ?_
        obtain ⟨q118, hq118, hf1⟩ := mx_bd hf1
        have hk118 : ∀ x9, q118 = x9 → GW E L A 8 0 0 Q q73 257 [(0, .ref (ly_a L o)), (1, .int s67.1), (2, .int x9.1), (3, .int x9.2)] [] := by
          intro x9 hx9
          subst hx9
          refine gw_iconst C (0 : Int32) d_Mod_trades_257 (by decide) ?_
          refine gw_istore C [(4, .int (0 : Int32)), (0, .ref (ly_a L o)), (1, .int s67.1), (2, .int q118.1), (3, .int q118.2)] d_Mod_trades_258 (by decide) rfl ?_
          obtain ⟨q260, hq260, hf1⟩ := mx_bd hf1
          have hk260 : ∀ x9, q260 = x9 → GW E L A 8 0 0 Q x9 308 [(0, .ref (ly_a L o)), (1, .int s67.1), (2, .int q118.1), (3, .int q118.2)] [] := by
            intro x9 hx9
            subst hx9
            refine gw_iload_n C 1 d_Mod_trades_308 rfl rfl ?_
            refine gw_iload_n C 3 d_Mod_trades_309 rfl rfl ?_
            refine gw_iconst C ((-1) : Int32) d_Mod_trades_310 (by decide) ?_
            refine gw_ixor C d_Mod_trades_311 ?_
            refine gw_iand C d_Mod_trades_312 ?_
            obtain ⟨x313, ex313, hf1⟩ := mx_lt hf1
            refine gw_topi ex313 ?_
            refine gw_istore_n C [(1, .int x313), (0, .ref (ly_a L o)), (2, .int q118.1), (3, .int q118.2)] d_Mod_trades_313 rfl (by decide) rfl ?_
            refine gw_goto C 67 d_Mod_trades_314 (by decide) ?_
            exact gw_go [1, 0, 2] (ih67 (x313, q118.1, q260) (hb67.trans hf1.symm)) rfl
          refine gw_sub [1, 2, 3, 4, 0] (lv' := [(0, .ref (ly_a L o)), (1, .int s67.1), (2, .int q118.1), (3, .int q118.2), (4, .int (0 : Int32))]) rfl ?_
          refine mm_rule hq260 (P := fun (s260 : Int32 × Mm) => GW E L A 8 0 0 Q s260.2 260 [(0, .ref (ly_a L o)), (1, .int s67.1), (2, .int q118.1), (3, .int q118.2), (4, .int s260.1)] []) ?_
          intro s260 ih260 hx260 ⟨w260, hb260⟩
          have hf2 := hb260
          unfold f_Mod_trades_L260 at hf2
          refine gw_iload C 4 d_Mod_trades_260 rfl ?_
          refine gw_aload_n C 0 d_Mod_trades_262 rfl rfl ?_
          refine gw_getA C 6 d_Mod_trades_263 k_o_0 (by decide) i_Mod rfl rfl (by decide) qw_1171 rfl rfl (o + 2) rfl ?_
          refine gw_iconst C (1 : Int32) d_Mod_trades_266 (by decide) ?_
          obtain ⟨x267, hx267, hf2⟩ := mx_bd hf2
          obtain ⟨gx267, ex267⟩ := mx_ldI hx267
          refine gw_iald C d_Mod_trades_267 k_o_2 gx267 ex267 ?_
          refine gw_icmp_ge C 308 d_Mod_trades_268 (by decide) (fun hc => ?_) (fun hc => ?_)
          · replace hf2 := mx_t hc hf2
            exact gw_go [0, 1, 2, 3] (hk260 s260.2 (hx260 _ (hb260.trans hf2.symm)).symm) rfl
          · replace hf2 := mx_f hc hf2
            refine gw_iload_n C 3 d_Mod_trades_271 rfl rfl ?_
            refine gw_iload C 4 d_Mod_trades_272 rfl ?_
            obtain ⟨q274, hq274, hf2⟩ := mx_bd hf2
            refine gw_callIS C (c_Mod_has _ hg hq274) d_Mod_trades_274 2 qw_1375 qw_1376 qw_12 qw_1377 hd_Mod_has rfl rfl (Nat.le_of_ble_eq_true rfl) ⟨rfl, rfl, Nat.le_of_ble_eq_true rfl, Nat.le_of_ble_eq_true rfl⟩ ⟨Nat.zero_le _, Nat.zero_le _⟩ ?_
            refine gw_if_eq C 302 d_Mod_trades_277 (by decide) (fun hc => ?_) (fun hc => ?_)
            · replace hf2 := mx_t hc hf2
              obtain ⟨x302, ex302, hf2⟩ := mx_lt hf2
              refine gw_iinc C 4 [(4, .int x302), (0, .ref (ly_a L o)), (1, .int s67.1), (2, .int q118.1), (3, .int q118.2)] d_Mod_trades_302 rfl (by rw [ex302]; rfl) (by decide) rfl ?_
              refine gw_goto C 260 d_Mod_trades_305 (by decide) ?_
              exact gw_go [1, 2, 3, 4, 0] (ih260 (x302, s260.2) (hb260.trans hf2.symm)) rfl
            · replace hf2 := mx_f hc hf2
              refine gw_aload_n C 0 d_Mod_trades_280 rfl rfl ?_
              refine gw_getA C 28 d_Mod_trades_281 k_o_0 (by decide) i_Mod rfl rfl (by decide) qw_1193 rfl rfl (o + 10) rfl ?_
              refine gw_iload C 4 d_Mod_trades_284 rfl ?_
              refine gw_aload_n C 0 d_Mod_trades_286 rfl rfl ?_
              refine gw_getA C 6 d_Mod_trades_287 k_o_0 (by decide) i_Mod rfl rfl (by decide) qw_1171 rfl rfl (o + 2) rfl ?_
              refine gw_bipush C (123 : Int32) d_Mod_trades_290 (by decide) ?_
              refine gw_aload_n C 0 d_Mod_trades_292 rfl rfl ?_
              refine gw_getA C 27 d_Mod_trades_293 k_o_0 (by decide) i_Mod rfl rfl (by decide) qw_1192 rfl rfl (o + 9) rfl ?_
              refine gw_iload C 4 d_Mod_trades_296 rfl ?_
              obtain ⟨x298, hx298, hf2⟩ := mx_bd hf2
              obtain ⟨gx298, ex298⟩ := mx_ldI hx298
              refine gw_iald C d_Mod_trades_298 k_o_9 gx298 ex298 ?_
              refine gw_iadd C d_Mod_trades_299 ?_
              obtain ⟨x300, hx300, hf2⟩ := mx_bd hf2
              obtain ⟨gx300, ex300⟩ := mx_ldI hx300
              refine gw_iald C d_Mod_trades_300 k_o_2 gx300 ex300 ?_
              obtain ⟨m301, hm301, hf2⟩ := mx_bd hf2
              obtain ⟨gm301, em301⟩ := mx_stI hm301
              refine gw_iast C d_Mod_trades_301 k_o_10 gm301 em301 ?_
              obtain ⟨x302, ex302, hf2⟩ := mx_lt hf2
              refine gw_iinc C 4 [(4, .int x302), (0, .ref (ly_a L o)), (1, .int s67.1), (2, .int q118.1), (3, .int q118.2)] d_Mod_trades_302 rfl (by rw [ex302]; rfl) (by decide) rfl ?_
              refine gw_goto C 260 d_Mod_trades_305 (by decide) ?_
              exact gw_go [1, 2, 3, 4, 0] (ih260 (x302, m301) (hb260.trans hf2.symm)) rfl
        refine gw_sub [2, 3, 4, 1, 0] (lv' := [(0, .ref (ly_a L o)), (1, .int s67.1), (2, .int s67.2.1), (3, .int (0 : Int32)), (4, .int (0 : Int32))]) rfl ?_
        refine mm_rule hq118 (P := fun (s118 : Int32 × Int32 × Int32) => GW E L A 8 0 0 Q q73 118 [(0, .ref (ly_a L o)), (1, .int s67.1), (2, .int s118.1), (3, .int s118.2.1), (4, .int s118.2.2)] []) ?_
        intro s118 ih118 hx118 ⟨w118, hb118⟩
        have hf2 := hb118
        unfold f_Mod_trades_L118 at hf2
        refine gw_iload C 4 d_Mod_trades_118 rfl ?_
        refine gw_aload_n C 0 d_Mod_trades_120 rfl rfl ?_
        refine gw_getA C 6 d_Mod_trades_121 k_o_0 (by decide) i_Mod rfl rfl (by decide) qw_1171 rfl rfl (o + 2) rfl ?_
        refine gw_iconst C (1 : Int32) d_Mod_trades_124 (by decide) ?_
        obtain ⟨x125, hx125, hf2⟩ := mx_bd hf2
        obtain ⟨gx125, ex125⟩ := mx_ldI hx125
        refine gw_iald C d_Mod_trades_125 k_o_2 gx125 ex125 ?_
        refine gw_icmp_ge C 257 d_Mod_trades_126 (by decide) (fun hc => ?_) (fun hc => ?_)
        · replace hf2 := mx_t hc hf2
          exact gw_go [0, 1, 2, 3] (hk118 (s118.1, s118.2.1) (hx118 _ (hb118.trans hf2.symm)).symm) rfl
        · replace hf2 := mx_f hc hf2
          refine gw_iload_n C 1 d_Mod_trades_129 rfl rfl ?_
          refine gw_iload C 4 d_Mod_trades_130 rfl ?_
          obtain ⟨q132, hq132, hf2⟩ := mx_bd hf2
          refine gw_callIS C (c_Mod_has _ hg hq132) d_Mod_trades_132 2 qw_1375 qw_1376 qw_12 qw_1377 hd_Mod_has rfl rfl (Nat.le_of_ble_eq_true rfl) ⟨rfl, rfl, Nat.le_of_ble_eq_true rfl, Nat.le_of_ble_eq_true rfl⟩ ⟨Nat.zero_le _, Nat.zero_le _⟩ ?_
          refine gw_if_eq C 251 d_Mod_trades_135 (by decide) (fun hc => ?_) (fun hc => ?_)
          · replace hf2 := mx_t hc hf2
            obtain ⟨x251, ex251, hf2⟩ := mx_lt hf2
            refine gw_iinc C 4 [(4, .int x251), (0, .ref (ly_a L o)), (1, .int s67.1), (2, .int s118.1), (3, .int s118.2.1)] d_Mod_trades_251 rfl (by rw [ex251]; rfl) (by decide) rfl ?_
            refine gw_goto C 118 d_Mod_trades_254 (by decide) ?_
            exact gw_go [1, 2, 3, 4, 0] (ih118 (s118.1, s118.2.1, x251) (hb118.trans hf2.symm)) rfl
          · replace hf2 := mx_f hc hf2
            refine gw_iload_n C 3 d_Mod_trades_138 rfl rfl ?_
            refine gw_iload C 4 d_Mod_trades_139 rfl ?_
            obtain ⟨q141, hq141, hf2⟩ := mx_bd hf2
            refine gw_callIS C (c_Mod_has _ hg hq141) d_Mod_trades_141 2 qw_1375 qw_1376 qw_12 qw_1377 hd_Mod_has rfl rfl (Nat.le_of_ble_eq_true rfl) ⟨rfl, rfl, Nat.le_of_ble_eq_true rfl, Nat.le_of_ble_eq_true rfl⟩ ⟨Nat.zero_le _, Nat.zero_le _⟩ ?_
            refine gw_if_eq C 150 d_Mod_trades_144 (by decide) (fun hc => ?_) (fun hc => ?_)
            · replace hf2 := mx_t hc hf2
              refine gw_iload C 4 d_Mod_trades_150 rfl ?_
              refine gw_istore C [(5, .int s118.2.2), (0, .ref (ly_a L o)), (1, .int s67.1), (2, .int s118.1), (3, .int s118.2.1), (4, .int s118.2.2)] d_Mod_trades_152 (by decide) rfl ?_
              refine gw_iconst C (0 : Int32) d_Mod_trades_154 (by decide) ?_
              refine gw_istore C [(6, .int (0 : Int32)), (5, .int s118.2.2), (0, .ref (ly_a L o)), (1, .int s67.1), (2, .int s118.1), (3, .int s118.2.1), (4, .int s118.2.2)] d_Mod_trades_155 (by decide) rfl ?_
              obtain ⟨q157, hq157, hf2⟩ := mx_bd hf2
              have hk157 : ∀ x9, q157 = x9 → GW E L A 8 0 0 Q q73 179 [(0, .ref (ly_a L o)), (1, .int s67.1), (2, .int s118.1), (3, .int s118.2.1), (4, .int s118.2.2), (5, .int x9)] [] := by
                intro x9 hx9
                subst hx9
                refine gw_iconst C (0 : Int32) d_Mod_trades_179 (by decide) ?_
                refine gw_istore C [(6, .int (0 : Int32)), (0, .ref (ly_a L o)), (1, .int s67.1), (2, .int s118.1), (3, .int s118.2.1), (4, .int s118.2.2), (5, .int q157)] d_Mod_trades_180 (by decide) rfl ?_
                refine gw_iload C 6 d_Mod_trades_182 rfl ?_
                refine gw_istore C [(7, .int q157), (6, .int (0 : Int32)), (0, .ref (ly_a L o)), (1, .int s67.1), (2, .int s118.1), (3, .int s118.2.1), (4, .int s118.2.2), (5, .int q157)] d_Mod_trades_184 (by decide) rfl ?_
                obtain ⟨q186, hq186, hf2⟩ := mx_bd hf2
                have hk186 : ∀ x9, q186 = x9 → GW E L A 8 0 0 Q q73 217 [(0, .ref (ly_a L o)), (1, .int s67.1), (2, .int s118.1), (3, .int s118.2.1), (4, .int s118.2.2), (5, .int q157), (6, .int x9)] [] := by
                  intro x9 hx9
                  subst hx9
                  refine gw_iload_n C 3 d_Mod_trades_217 rfl rfl ?_
                  refine gw_iload C 5 d_Mod_trades_218 rfl ?_
                  obtain ⟨q220, hq220, hf2⟩ := mx_bd hf2
                  refine gw_callIS C (c_Mod_has _ hg hq220) d_Mod_trades_220 2 qw_1375 qw_1376 qw_12 qw_1377 hd_Mod_has rfl rfl (Nat.le_of_ble_eq_true rfl) ⟨rfl, rfl, Nat.le_of_ble_eq_true rfl, Nat.le_of_ble_eq_true rfl⟩ ⟨Nat.zero_le _, Nat.zero_le _⟩ ?_
                  refine gw_if_eq C 229 d_Mod_trades_223 (by decide) (fun hc => ?_) (fun hc => ?_)
                  · replace hf2 := mx_t hc hf2
                    refine gw_iload_n C 3 d_Mod_trades_229 rfl rfl ?_
                    refine gw_iload C 6 d_Mod_trades_230 rfl ?_
                    refine gw_ior C d_Mod_trades_232 ?_
                    obtain ⟨x233, ex233, hf2⟩ := mx_lt hf2
                    refine gw_topi ex233 ?_
                    refine gw_istore_n C [(3, .int x233), (0, .ref (ly_a L o)), (1, .int s67.1), (2, .int s118.1), (4, .int s118.2.2), (5, .int q157), (6, .int q186)] d_Mod_trades_233 rfl (by decide) rfl ?_
                    refine gw_iload_n C 3 d_Mod_trades_234 rfl rfl ?_
                    refine gw_iload C 6 d_Mod_trades_235 rfl ?_
                    obtain ⟨q237, hq237, hf2⟩ := mx_bd hf2
                    refine gw_callIS C (c_Mod_bits _ hg hq237) d_Mod_trades_237 1 qw_1426 qw_1427 qw_12 qw_1428 hd_Mod_bits rfl rfl (Nat.le_of_ble_eq_true rfl) ⟨rfl, rfl, Nat.le_of_ble_eq_true rfl, Nat.le_of_ble_eq_true rfl⟩ ⟨Nat.zero_le _, Nat.zero_le _⟩ ?_
                    refine gw_iconst C (1 : Int32) d_Mod_trades_240 (by decide) ?_
                    refine gw_icmp_le C 248 d_Mod_trades_241 (by decide) (fun hc => ?_) (fun hc => ?_)
                    · replace hf2 := mx_t hc hf2
                      refine gw_iconst C (0 : Int32) d_Mod_trades_248 (by decide) ?_
                      refine gw_iadd C d_Mod_trades_249 ?_
                      obtain ⟨x250, ex250, hf2⟩ := mx_lt hf2
                      refine gw_topi ex250 ?_
                      refine gw_istore_n C [(2, .int x250), (3, .int x233), (0, .ref (ly_a L o)), (1, .int s67.1), (4, .int s118.2.2), (5, .int q157), (6, .int q186)] d_Mod_trades_250 rfl (by decide) rfl ?_
                      obtain ⟨x251, ex251, hf2⟩ := mx_lt hf2
                      refine gw_iinc C 4 [(4, .int x251), (2, .int x250), (3, .int x233), (0, .ref (ly_a L o)), (1, .int s67.1), (5, .int q157), (6, .int q186)] d_Mod_trades_251 rfl (by rw [ex251]; rfl) (by decide) rfl ?_
                      refine gw_goto C 118 d_Mod_trades_254 (by decide) ?_
                      exact gw_go [3, 4, 1, 2, 0] (ih118 (x250, x233, x251) (hb118.trans hf2.symm)) rfl
                    · replace hf2 := mx_f hc hf2
                      refine gw_iconst C (1 : Int32) d_Mod_trades_244 (by decide) ?_
                      refine gw_goto C 249 d_Mod_trades_245 (by decide) ?_
                      refine gw_iadd C d_Mod_trades_249 ?_
                      obtain ⟨x250, ex250, hf2⟩ := mx_lt hf2
                      refine gw_topi ex250 ?_
                      refine gw_istore_n C [(2, .int x250), (3, .int x233), (0, .ref (ly_a L o)), (1, .int s67.1), (4, .int s118.2.2), (5, .int q157), (6, .int q186)] d_Mod_trades_250 rfl (by decide) rfl ?_
                      obtain ⟨x251, ex251, hf2⟩ := mx_lt hf2
                      refine gw_iinc C 4 [(4, .int x251), (2, .int x250), (3, .int x233), (0, .ref (ly_a L o)), (1, .int s67.1), (5, .int q157), (6, .int q186)] d_Mod_trades_251 rfl (by rw [ex251]; rfl) (by decide) rfl ?_
                      refine gw_goto C 118 d_Mod_trades_254 (by decide) ?_
                      exact gw_go [3, 4, 1, 2, 0] (ih118 (x250, x233, x251) (hb118.trans hf2.symm)) rfl
                  · replace hf2 := mx_f hc hf2
                    refine gw_goto C 251 d_Mod_trades_226 (by decide) ?_
                    obtain ⟨x251, ex251, hf2⟩ := mx_lt hf2
                    refine gw_iinc C 4 [(4, .int x251), (0, .ref (ly_a L o)), (1, .int s67.1), (2, .int s118.1), (3, .int s118.2.1), (5, .int q157), (6, .int q186)] d_Mod_trades_251 rfl (by rw [ex251]; rfl) (by decide) rfl ?_
                    refine gw_goto C 118 d_Mod_trades_254 (by decide) ?_
                    exact gw_go [1, 2, 3, 4, 0] (ih118 (s118.1, s118.2.1, x251) (hb118.trans hf2.symm)) rfl
                refine gw_sub [2, 3, 4, 5, 6, 7, 1, 0] (lv' := [(0, .ref (ly_a L o)), (1, .int s67.1), (2, .int s118.1), (3, .int s118.2.1), (4, .int s118.2.2), (5, .int q157), (6, .int (0 : Int32)), (7, .int q157)]) rfl ?_
                refine mm_rule hq186 (P := fun (s186 : Int32 × Int32) => GW E L A 8 0 0 Q q73 186 [(0, .ref (ly_a L o)), (1, .int s67.1), (2, .int s118.1), (3, .int s118.2.1), (4, .int s118.2.2), (5, .int q157), (6, .int s186.1), (7, .int s186.2)] []) ?_
                intro s186 ih186 hx186 ⟨w186, hb186⟩
                have hf3 := hb186
                unfold f_Mod_trades_L186 at hf3
                refine gw_iload C 6 d_Mod_trades_186 rfl ?_
                refine gw_iload C 7 d_Mod_trades_188 rfl ?_
                obtain ⟨q190, hq190, hf3⟩ := mx_bd hf3
                refine gw_callIS C (c_Mod_has _ hg hq190) d_Mod_trades_190 2 qw_1375 qw_1376 qw_12 qw_1377 hd_Mod_has rfl rfl (Nat.le_of_ble_eq_true rfl) ⟨rfl, rfl, Nat.le_of_ble_eq_true rfl, Nat.le_of_ble_eq_true rfl⟩ ⟨Nat.zero_le _, Nat.zero_le _⟩ ?_
                refine gw_if_ne C 217 d_Mod_trades_193 (by decide) (fun hc => ?_) (fun hc => ?_)
                · replace hf3 := mx_f hc hf3
                  exact gw_go [0, 1, 2, 3, 4, 5, 6] (hk186 s186.1 (hx186 _ (hb186.trans hf3.symm)).symm) rfl
                · replace hf3 := mx_t hc hf3
                  refine gw_iload C 6 d_Mod_trades_196 rfl ?_
                  refine gw_iconst C (1 : Int32) d_Mod_trades_198 (by decide) ?_
                  refine gw_iload C 7 d_Mod_trades_199 rfl ?_
                  refine gw_ishl C d_Mod_trades_201 ?_
                  refine gw_ior C d_Mod_trades_202 ?_
                  obtain ⟨x203, ex203, hf3⟩ := mx_lt hf3
                  refine gw_topi ex203 ?_
                  refine gw_istore C [(6, .int x203), (0, .ref (ly_a L o)), (1, .int s67.1), (2, .int s118.1), (3, .int s118.2.1), (4, .int s118.2.2), (5, .int q157), (7, .int s186.2)] d_Mod_trades_203 (by decide) rfl ?_
                  refine gw_aload_n C 1 d_Mod_trades_205 rfl rfl ?_
                  refine gw_getA C 27 d_Mod_trades_206 k_o_0 (by decide) i_Mod rfl rfl (by decide) qw_1192 rfl rfl (o + 9) rfl ?_
                  refine gw_iload C 7 d_Mod_trades_209 rfl ?_
                  obtain ⟨x211, hx211, hf3⟩ := mx_bd hf3
                  obtain ⟨gx211, ex211⟩ := mx_ldI hx211
                  refine gw_iald C d_Mod_trades_211 k_o_9 gx211 ex211 ?_
                  refine gw_istore C [(7, .int x211), (6, .int x203), (0, .ref (ly_a L o)), (1, .int s67.1), (2, .int s118.1), (3, .int s118.2.1), (4, .int s118.2.2), (5, .int q157)] d_Mod_trades_212 (by decide) rfl ?_
                  refine gw_goto C 186 d_Mod_trades_214 (by decide) ?_
                  exact gw_go [2, 3, 4, 5, 6, 7, 1, 0] (ih186 (x203, x211) (hb186.trans hf3.symm)) rfl
              refine gw_sub [2, 3, 4, 5, 6, 1, 0] (lv' := [(0, .ref (ly_a L o)), (1, .int s67.1), (2, .int s118.1), (3, .int s118.2.1), (4, .int s118.2.2), (5, .int s118.2.2), (6, .int (0 : Int32))]) rfl ?_
              refine mm_rule hq157 (P := fun (s157 : Int32 × Int32) => GW E L A 8 0 0 Q q73 157 [(0, .ref (ly_a L o)), (1, .int s67.1), (2, .int s118.1), (3, .int s118.2.1), (4, .int s118.2.2), (5, .int s157.1), (6, .int s157.2)] []) ?_
              intro s157 ih157 hx157 ⟨w157, hb157⟩
              have hf3 := hb157
              unfold f_Mod_trades_L157 at hf3
              refine gw_iload C 6 d_Mod_trades_157 rfl ?_
              refine gw_bipush C (8 : Int32) d_Mod_trades_159 (by decide) ?_
              refine gw_icmp_ge C 179 d_Mod_trades_161 (by decide) (fun hc => ?_) (fun hc => ?_)
              · replace hf3 := mx_t hc hf3
                exact gw_go [0, 1, 2, 3, 4, 5] (hk157 s157.1 (hx157 _ (hb157.trans hf3.symm)).symm) rfl
              · replace hf3 := mx_f hc hf3
                refine gw_aload_n C 0 d_Mod_trades_164 rfl rfl ?_
                refine gw_getA C 27 d_Mod_trades_165 k_o_0 (by decide) i_Mod rfl rfl (by decide) qw_1192 rfl rfl (o + 9) rfl ?_
                refine gw_iload C 5 d_Mod_trades_168 rfl ?_
                obtain ⟨x170, hx170, hf3⟩ := mx_bd hf3
                obtain ⟨gx170, ex170⟩ := mx_ldI hx170
                refine gw_iald C d_Mod_trades_170 k_o_9 gx170 ex170 ?_
                refine gw_istore C [(5, .int x170), (0, .ref (ly_a L o)), (1, .int s67.1), (2, .int s118.1), (3, .int s118.2.1), (4, .int s118.2.2), (6, .int s157.2)] d_Mod_trades_171 (by decide) rfl ?_
                obtain ⟨x173, ex173, hf3⟩ := mx_lt hf3
                refine gw_iinc C 6 [(6, .int x173), (5, .int x170), (0, .ref (ly_a L o)), (1, .int s67.1), (2, .int s118.1), (3, .int s118.2.1), (4, .int s118.2.2)] d_Mod_trades_173 rfl (by rw [ex173]; rfl) (by decide) rfl ?_
                refine gw_goto C 157 d_Mod_trades_176 (by decide) ?_
                exact gw_go [2, 3, 4, 5, 6, 1, 0] (ih157 (x170, x173) (hb157.trans hf3.symm)) rfl
            · replace hf2 := mx_f hc hf2
              refine gw_goto C 251 d_Mod_trades_147 (by decide) ?_
              obtain ⟨x251, ex251, hf2⟩ := mx_lt hf2
              refine gw_iinc C 4 [(4, .int x251), (0, .ref (ly_a L o)), (1, .int s67.1), (2, .int s118.1), (3, .int s118.2.1)] d_Mod_trades_251 rfl (by rw [ex251]; rfl) (by decide) rfl ?_
              refine gw_goto C 118 d_Mod_trades_254 (by decide) ?_
              exact gw_go [1, 2, 3, 4, 0] (ih118 (s118.1, s118.2.1, x251) (hb118.trans hf2.symm)) rfl
      refine gw_sub [1, 2, 3, 0] (lv' := [(0, .ref (ly_a L o)), (1, .int s67.1), (2, .int s67.2.1), (3, .int (0 : Int32))]) rfl ?_
      refine mm_rule hq73 (P := fun (s73 : Int32 × Mm) => GW E L A 8 0 0 Q s73.2 73 [(0, .ref (ly_a L o)), (1, .int s67.1), (2, .int s67.2.1), (3, .int s73.1)] []) ?_
      intro s73 ih73 hx73 ⟨w73, hb73⟩
      have hf2 := hb73
      unfold f_Mod_trades_L73 at hf2
      refine gw_iload_n C 3 d_Mod_trades_73 rfl rfl ?_
      refine gw_aload_n C 0 d_Mod_trades_74 rfl rfl ?_
      refine gw_getA C 6 d_Mod_trades_75 k_o_0 (by decide) i_Mod rfl rfl (by decide) qw_1171 rfl rfl (o + 2) rfl ?_
      refine gw_iconst C (1 : Int32) d_Mod_trades_78 (by decide) ?_
      obtain ⟨x79, hx79, hf2⟩ := mx_bd hf2
      obtain ⟨gx79, ex79⟩ := mx_ldI hx79
      refine gw_iald C d_Mod_trades_79 k_o_2 gx79 ex79 ?_
      refine gw_icmp_ge C 113 d_Mod_trades_80 (by decide) (fun hc => ?_) (fun hc => ?_)
      · replace hf2 := mx_t hc hf2
        exact gw_go [0, 1, 2] (hk73 s73.2 (hx73 _ (hb73.trans hf2.symm)).symm) rfl
      · replace hf2 := mx_f hc hf2
        refine gw_aload_n C 0 d_Mod_trades_83 rfl rfl ?_
        refine gw_getA C 27 d_Mod_trades_84 k_o_0 (by decide) i_Mod rfl rfl (by decide) qw_1192 rfl rfl (o + 9) rfl ?_
        refine gw_iload_n C 3 d_Mod_trades_87 rfl rfl ?_
        refine gw_iload_n C 1 d_Mod_trades_88 rfl rfl ?_
        refine gw_iload_n C 3 d_Mod_trades_89 rfl rfl ?_
        obtain ⟨q90, hq90, hf2⟩ := mx_bd hf2
        refine gw_callIS C (c_Mod_has _ hg hq90) d_Mod_trades_90 2 qw_1375 qw_1376 qw_12 qw_1377 hd_Mod_has rfl rfl (Nat.le_of_ble_eq_true rfl) ⟨rfl, rfl, Nat.le_of_ble_eq_true rfl, Nat.le_of_ble_eq_true rfl⟩ ⟨Nat.zero_le _, Nat.zero_le _⟩ ?_
        refine gw_if_eq C 105 d_Mod_trades_93 (by decide) (fun hc => ?_) (fun hc => ?_)
        · replace hf2 := mx_t hc hf2
          refine gw_iconst C ((-1) : Int32) d_Mod_trades_105 (by decide) ?_
          obtain ⟨m106, hm106, hf2⟩ := mx_bd hf2
          obtain ⟨gm106, em106⟩ := mx_stI hm106
          refine gw_iast C d_Mod_trades_106 k_o_9 gm106 em106 ?_
          obtain ⟨x107, ex107, hf2⟩ := mx_lt hf2
          refine gw_iinc C 3 [(3, .int x107), (0, .ref (ly_a L o)), (1, .int s67.1), (2, .int s67.2.1)] d_Mod_trades_107 rfl (by rw [ex107]; rfl) (by decide) rfl ?_
          refine gw_goto C 73 d_Mod_trades_110 (by decide) ?_
          exact gw_go [1, 2, 3, 0] (ih73 (x107, m106) (hb73.trans hf2.symm)) rfl
        · replace hf2 := mx_f hc hf2
          refine gw_aload_n C 0 d_Mod_trades_96 rfl rfl ?_
          refine gw_iload_n C 3 d_Mod_trades_97 rfl rfl ?_
          refine gw_iload_n C 1 d_Mod_trades_98 rfl rfl ?_
          obtain ⟨q99, hq99, hf2⟩ := mx_bd hf2
          refine gw_callI C (c_Mod_pointOf _ hg k_o_0 hq99) d_Mod_trades_99 2 qw_1490 qw_1492 qs_68 qw_12 qw_1493 k_o_0 (by decide) rfl hd_Mod_pointOf rfl rfl (Nat.le_of_ble_eq_true rfl) ⟨rfl, rfl, Nat.le_of_ble_eq_true rfl, Nat.le_of_ble_eq_true rfl⟩ ⟨Nat.zero_le _, Nat.zero_le _⟩ ?_
          refine gw_goto C 106 d_Mod_trades_102 (by decide) ?_
          obtain ⟨m106, hm106, hf2⟩ := mx_bd hf2
          obtain ⟨gm106, em106⟩ := mx_stI hm106
          refine gw_iast C d_Mod_trades_106 k_o_9 gm106 em106 ?_
          obtain ⟨x107, ex107, hf2⟩ := mx_lt hf2
          refine gw_iinc C 3 [(3, .int x107), (0, .ref (ly_a L o)), (1, .int s67.1), (2, .int s67.2.1)] d_Mod_trades_107 rfl (by rw [ex107]; rfl) (by decide) rfl ?_
          refine gw_goto C 73 d_Mod_trades_110 (by decide) ?_
          exact gw_go [1, 2, 3, 0] (ih73 (x107, m106) (hb73.trans hf2.symm)) rfl
  refine gw_sub [2, 1, 0] (lv' := [(0, .ref (ly_a L o)), (1, .int (0 : Int32)), (2, .int (0 : Int32))]) rfl ?_
  refine mm_rule hq4 (P := fun (s4 : Int32 × Int32 × Mm) => GW E L A 8 0 0 Q s4.2.2 4 [(0, .ref (ly_a L o)), (1, .int s4.1), (2, .int s4.2.1)] []) ?_
  intro s4 ih4 hx4 ⟨w4, hb4⟩
  have hf1 := hb4
  unfold f_Mod_trades_L4 at hf1
  refine gw_iload_n C 2 d_Mod_trades_4 rfl rfl ?_
  refine gw_aload_n C 0 d_Mod_trades_5 rfl rfl ?_
  refine gw_getA C 6 d_Mod_trades_6 k_o_0 (by decide) i_Mod rfl rfl (by decide) qw_1171 rfl rfl (o + 2) rfl ?_
  refine gw_iconst C (1 : Int32) d_Mod_trades_9 (by decide) ?_
  obtain ⟨x10, hx10, hf1⟩ := mx_bd hf1
  obtain ⟨gx10, ex10⟩ := mx_ldI hx10
  refine gw_iald C d_Mod_trades_10 k_o_2 gx10 ex10 ?_
  refine gw_icmp_ge C 65 d_Mod_trades_11 (by decide) (fun hc => ?_) (fun hc => ?_)
  · replace hf1 := mx_t hc hf1
    exact gw_go [0, 1] (hk4 (s4.1, s4.2.2) (hx4 _ (hb4.trans hf1.symm)).symm) rfl
  · replace hf1 := mx_f hc hf1
    refine gw_aload_n C 0 d_Mod_trades_14 rfl rfl ?_
    refine gw_getA C 28 d_Mod_trades_15 k_o_0 (by decide) i_Mod rfl rfl (by decide) qw_1193 rfl rfl (o + 10) rfl ?_
    refine gw_iload_n C 2 d_Mod_trades_18 rfl rfl ?_
    refine gw_aload_n C 0 d_Mod_trades_19 rfl rfl ?_
    refine gw_getA C 6 d_Mod_trades_20 k_o_0 (by decide) i_Mod rfl rfl (by decide) qw_1171 rfl rfl (o + 2) rfl ?_
    refine gw_bipush C (123 : Int32) d_Mod_trades_23 (by decide) ?_
    refine gw_iload_n C 2 d_Mod_trades_25 rfl rfl ?_
    refine gw_iadd C d_Mod_trades_26 ?_
    obtain ⟨x27, hx27, hf1⟩ := mx_bd hf1
    obtain ⟨gx27, ex27⟩ := mx_ldI hx27
    refine gw_iald C d_Mod_trades_27 k_o_2 gx27 ex27 ?_
    obtain ⟨m28, hm28, hf1⟩ := mx_bd hf1
    obtain ⟨gm28, em28⟩ := mx_stI hm28
    refine gw_iast C d_Mod_trades_28 k_o_10 gm28 em28 ?_
    refine gw_iload_n C 1 d_Mod_trades_29 rfl rfl ?_
    refine gw_aload_n C 0 d_Mod_trades_30 rfl rfl ?_
    refine gw_getA C 6 d_Mod_trades_31 k_o_0 (by decide) i_Mod rfl rfl (by decide) qw_1171 rfl rfl (o + 2) rfl ?_
    refine gw_bipush C (123 : Int32) d_Mod_trades_34 (by decide) ?_
    refine gw_iload_n C 2 d_Mod_trades_36 rfl rfl ?_
    refine gw_iadd C d_Mod_trades_37 ?_
    obtain ⟨x38, hx38, hf1⟩ := mx_bd hf1
    obtain ⟨gx38, ex38⟩ := mx_ldI hx38
    refine gw_iald C d_Mod_trades_38 k_o_2 gx38 ex38 ?_
    refine gw_if_lt C 56 d_Mod_trades_39 (by decide) (fun hc => ?_) (fun hc => ?_)
    · replace hf1 := mx_t hc hf1
      refine gw_iconst C (0 : Int32) d_Mod_trades_56 (by decide) ?_
      refine gw_ior C d_Mod_trades_57 ?_
      obtain ⟨x58, ex58, hf1⟩ := mx_lt hf1
      refine gw_topi ex58 ?_
      refine gw_istore_n C [(1, .int x58), (0, .ref (ly_a L o)), (2, .int s4.2.1)] d_Mod_trades_58 rfl (by decide) rfl ?_
      obtain ⟨x59, ex59, hf1⟩ := mx_lt hf1
      refine gw_iinc C 2 [(2, .int x59), (1, .int x58), (0, .ref (ly_a L o))] d_Mod_trades_59 rfl (by rw [ex59]; rfl) (by decide) rfl ?_
      refine gw_goto C 4 d_Mod_trades_62 (by decide) ?_
      exact gw_go [2, 1, 0] (ih4 (x58, x59, m28) (hb4.trans hf1.symm)) rfl
    · replace hf1 := mx_f hc hf1
      refine gw_aload_n C 0 d_Mod_trades_42 rfl rfl ?_
      refine gw_iload_n C 2 d_Mod_trades_43 rfl rfl ?_
      obtain ⟨q44, hq44, hf1⟩ := mx_bd hf1
      refine gw_callI C (c_Mod_isPawned _ hg k_o_0 hq44) d_Mod_trades_44 1 qw_1454 qw_1456 qs_62 qw_12 qw_1457 k_o_0 (by decide) rfl hd_Mod_isPawned rfl rfl (Nat.le_of_ble_eq_true rfl) ⟨rfl, rfl, Nat.le_of_ble_eq_true rfl, Nat.le_of_ble_eq_true rfl⟩ ⟨Nat.zero_le _, Nat.zero_le _⟩ ?_
      refine gw_if_ne C 56 d_Mod_trades_47 (by decide) (fun hc => ?_) (fun hc => ?_)
      · replace hf1 := mx_f hc hf1
        refine gw_iconst C (0 : Int32) d_Mod_trades_56 (by decide) ?_
        refine gw_ior C d_Mod_trades_57 ?_
        obtain ⟨x58, ex58, hf1⟩ := mx_lt hf1
        refine gw_topi ex58 ?_
        refine gw_istore_n C [(1, .int x58), (0, .ref (ly_a L o)), (2, .int s4.2.1)] d_Mod_trades_58 rfl (by decide) rfl ?_
        obtain ⟨x59, ex59, hf1⟩ := mx_lt hf1
        refine gw_iinc C 2 [(2, .int x59), (1, .int x58), (0, .ref (ly_a L o))] d_Mod_trades_59 rfl (by rw [ex59]; rfl) (by decide) rfl ?_
        refine gw_goto C 4 d_Mod_trades_62 (by decide) ?_
        exact gw_go [2, 1, 0] (ih4 (x58, x59, m28) (hb4.trans hf1.symm)) rfl
      · replace hf1 := mx_t hc hf1
        refine gw_iconst C (1 : Int32) d_Mod_trades_50 (by decide) ?_
        refine gw_iload_n C 2 d_Mod_trades_51 rfl rfl ?_
        refine gw_ishl C d_Mod_trades_52 ?_
        refine gw_goto C 57 d_Mod_trades_53 (by decide) ?_
        refine gw_ior C d_Mod_trades_57 ?_
        obtain ⟨x58, ex58, hf1⟩ := mx_lt hf1
        refine gw_topi ex58 ?_
        refine gw_istore_n C [(1, .int x58), (0, .ref (ly_a L o)), (2, .int s4.2.1)] d_Mod_trades_58 rfl (by decide) rfl ?_
        obtain ⟨x59, ex59, hf1⟩ := mx_lt hf1
        refine gw_iinc C 2 [(2, .int x59), (1, .int x58), (0, .ref (ly_a L o))] d_Mod_trades_59 rfl (by rw [ex59]; rfl) (by decide) rfl ?_
        refine gw_goto C 4 d_Mod_trades_62 (by decide) ?_
        exact gw_go [2, 1, 0] (ih4 (x58, x59, m28) (hb4.trans hf1.symm)) rfl

/-! NameHatModel.trade()I -/
abbrev b_Mod_trade : ByteArray := prog_14_method_55_code
def y_Mod_trade : MethodName := ⟨"NameHatModel", "trade", "()I"⟩
abbrev rm_Mod_trade : Room := { frames := 3, cells := 0, slots := 0, locals := 76 }
theorem hd_Mod_trade : y_Mod_trade.cls ≠ "java/lang/invoke/MethodHandle" ∧ y_Mod_trade.cls ≠ "java/lang/invoke/VarHandle" ∧ (parseMethodDescriptor y_Mod_trade.desc).map (fun d => d.parameters.length) = some 0 := by decide +kernel
theorem d_Mod_trade_0 : decode b_Mod_trade 0 = .ok (.aload_n 0, 1) := by decide +kernel
theorem d_Mod_trade_1 : decode b_Mod_trade 1 = .ok (.iconst 0, 1) := by decide +kernel
theorem d_Mod_trade_2 : decode b_Mod_trade 2 = .ok (.putfield 1, 3) := by decide +kernel
theorem d_Mod_trade_5 : decode b_Mod_trade 5 = .ok (.aload_n 0, 1) := by decide +kernel
theorem d_Mod_trade_6 : decode b_Mod_trade 6 = .ok (.invokevirtual 293, 3) := by decide +kernel
theorem d_Mod_trade_9 : decode b_Mod_trade 9 = .ok (.ireturn, 1) := by decide +kernel
noncomputable def f_Mod_trade (z : Nat → Nat) (σ : Mm) (o : Nat) : Option (Int32 × Mm) :=
  mm_lt (kI σ o 0 (0 : Int32)) fun m2 =>
  (f_Mod_trades z m2 o).bind fun q6 =>
  some (q6.1, q6.2)
set_option maxHeartbeats 4000000 in
set_option maxRecDepth 100000 in
theorem c_Mod_trade (l : Launch) {L : Ly} (hg : gd_ok L) {σ : Mm} {o : Nat} (k_o_0 : ly_k L o = 11) {res : Int32 × Mm} (hf0 : f_Mod_trade (ly_z L) σ o = some res) : CtI l y_Mod_trade b_Mod_trade 1 (some .int) rm_Mod_trade L [.ref (ly_a L o)] σ res.1 res.2 := by
  refine ct_i hg (by decide) (Nat.le_of_ble_eq_true rfl) ?_
  intro E A Q hE C hN
  subst hE
  unfold f_Mod_trade at hf0
  show GW E L A 1 0 0 Q σ 0 [(0, .ref (ly_a L o))] []
  refine gw_aload_n C 0 d_Mod_trade_0 rfl rfl ?_
  refine gw_iconst C (0 : Int32) d_Mod_trade_1 (by decide) ?_
  obtain ⟨m2, em2, hf0⟩ := mx_lt hf0
  refine gw_putI t_Mod C 0 d_Mod_trade_2 k_o_0 (by decide) i_Mod rfl rfl (by decide) qw_1165 rfl rfl t_Mod_ok n_Mod rfl (t_Mod_ok 0 (by decide)) rfl rfl em2 ?_
  refine gw_aload_n C 0 d_Mod_trade_5 rfl rfl ?_
  obtain ⟨q6, hq6, hf0⟩ := mx_bd hf0
  refine gw_callI C (c_Mod_trades _ hg k_o_0 hq6) d_Mod_trade_6 0 qw_1486 qw_1488 qs_67 qw_12 qw_1489 k_o_0 (by decide) rfl hd_Mod_trades rfl rfl (Nat.le_of_ble_eq_true rfl) ⟨rfl, rfl, Nat.le_of_ble_eq_true rfl, Nat.le_of_ble_eq_true rfl⟩ ⟨Nat.zero_le _, Nat.zero_le _⟩ ?_
  exact en_i hN hf0 d_Mod_trade_9

/-! NameHatModel.bookLine()Z -/
abbrev b_Mod_bookLine : ByteArray := prog_14_method_56_code
def y_Mod_bookLine : MethodName := ⟨"NameHatModel", "bookLine", "()Z"⟩
abbrev rm_Mod_bookLine : Room := { frames := 3, cells := 0, slots := 0, locals := 65 }
theorem hd_Mod_bookLine : y_Mod_bookLine.cls ≠ "java/lang/invoke/MethodHandle" ∧ y_Mod_bookLine.cls ≠ "java/lang/invoke/VarHandle" ∧ (parseMethodDescriptor y_Mod_bookLine.desc).map (fun d => d.parameters.length) = some 0 := by decide +kernel
theorem d_Mod_bookLine_0 : decode b_Mod_bookLine 0 = .ok (.aload_n 0, 1) := by decide +kernel
theorem d_Mod_bookLine_1 : decode b_Mod_bookLine 1 = .ok (.ldc2_w 123, 3) := by decide +kernel
theorem d_Mod_bookLine_4 : decode b_Mod_bookLine 4 = .ok (.invokevirtual 190, 3) := by decide +kernel
theorem d_Mod_bookLine_7 : decode b_Mod_bookLine 7 = .ok (.ifCond .eq 7, 3) := by decide +kernel
theorem d_Mod_bookLine_10 : decode b_Mod_bookLine 10 = .ok (.iconst 0, 1) := by decide +kernel
theorem d_Mod_bookLine_11 : decode b_Mod_bookLine 11 = .ok (.goto 74, 3) := by decide +kernel
theorem d_Mod_bookLine_14 : decode b_Mod_bookLine 14 = .ok (.aload_n 0, 1) := by decide +kernel
theorem d_Mod_bookLine_15 : decode b_Mod_bookLine 15 = .ok (.ldc2_w 125, 3) := by decide +kernel
theorem d_Mod_bookLine_18 : decode b_Mod_bookLine 18 = .ok (.invokevirtual 190, 3) := by decide +kernel
theorem d_Mod_bookLine_21 : decode b_Mod_bookLine 21 = .ok (.ifCond .eq 7, 3) := by decide +kernel
theorem d_Mod_bookLine_24 : decode b_Mod_bookLine 24 = .ok (.iconst 1, 1) := by decide +kernel
theorem d_Mod_bookLine_25 : decode b_Mod_bookLine 25 = .ok (.goto 60, 3) := by decide +kernel
theorem d_Mod_bookLine_28 : decode b_Mod_bookLine 28 = .ok (.aload_n 0, 1) := by decide +kernel
theorem d_Mod_bookLine_29 : decode b_Mod_bookLine 29 = .ok (.ldc2_w 127, 3) := by decide +kernel
theorem d_Mod_bookLine_32 : decode b_Mod_bookLine 32 = .ok (.invokevirtual 190, 3) := by decide +kernel
theorem d_Mod_bookLine_35 : decode b_Mod_bookLine 35 = .ok (.ifCond .eq 7, 3) := by decide +kernel
theorem d_Mod_bookLine_38 : decode b_Mod_bookLine 38 = .ok (.iconst 2, 1) := by decide +kernel
theorem d_Mod_bookLine_39 : decode b_Mod_bookLine 39 = .ok (.goto 46, 3) := by decide +kernel
theorem d_Mod_bookLine_42 : decode b_Mod_bookLine 42 = .ok (.aload_n 0, 1) := by decide +kernel
theorem d_Mod_bookLine_43 : decode b_Mod_bookLine 43 = .ok (.ldc2_w 129, 3) := by decide +kernel
theorem d_Mod_bookLine_46 : decode b_Mod_bookLine 46 = .ok (.invokevirtual 190, 3) := by decide +kernel
theorem d_Mod_bookLine_49 : decode b_Mod_bookLine 49 = .ok (.ifCond .eq 7, 3) := by decide +kernel
theorem d_Mod_bookLine_52 : decode b_Mod_bookLine 52 = .ok (.iconst 3, 1) := by decide +kernel
theorem d_Mod_bookLine_53 : decode b_Mod_bookLine 53 = .ok (.goto 32, 3) := by decide +kernel
theorem d_Mod_bookLine_56 : decode b_Mod_bookLine 56 = .ok (.aload_n 0, 1) := by decide +kernel
theorem d_Mod_bookLine_57 : decode b_Mod_bookLine 57 = .ok (.ldc2_w 115, 3) := by decide +kernel
theorem d_Mod_bookLine_60 : decode b_Mod_bookLine 60 = .ok (.invokevirtual 190, 3) := by decide +kernel
theorem d_Mod_bookLine_63 : decode b_Mod_bookLine 63 = .ok (.ifCond .eq 7, 3) := by decide +kernel
theorem d_Mod_bookLine_66 : decode b_Mod_bookLine 66 = .ok (.iconst 4, 1) := by decide +kernel
theorem d_Mod_bookLine_67 : decode b_Mod_bookLine 67 = .ok (.goto 18, 3) := by decide +kernel
theorem d_Mod_bookLine_70 : decode b_Mod_bookLine 70 = .ok (.aload_n 0, 1) := by decide +kernel
theorem d_Mod_bookLine_71 : decode b_Mod_bookLine 71 = .ok (.ldc2_w 131, 3) := by decide +kernel
theorem d_Mod_bookLine_74 : decode b_Mod_bookLine 74 = .ok (.invokevirtual 190, 3) := by decide +kernel
theorem d_Mod_bookLine_77 : decode b_Mod_bookLine 77 = .ok (.ifCond .eq 7, 3) := by decide +kernel
theorem d_Mod_bookLine_80 : decode b_Mod_bookLine 80 = .ok (.iconst 5, 1) := by decide +kernel
theorem d_Mod_bookLine_81 : decode b_Mod_bookLine 81 = .ok (.goto 4, 3) := by decide +kernel
theorem d_Mod_bookLine_84 : decode b_Mod_bookLine 84 = .ok (.iconst (-1), 1) := by decide +kernel
theorem d_Mod_bookLine_85 : decode b_Mod_bookLine 85 = .ok (.istore_n 1, 1) := by decide +kernel
theorem d_Mod_bookLine_86 : decode b_Mod_bookLine 86 = .ok (.iload_n 1, 1) := by decide +kernel
theorem d_Mod_bookLine_87 : decode b_Mod_bookLine 87 = .ok (.ifCond .ge 9, 3) := by decide +kernel
theorem d_Mod_bookLine_90 : decode b_Mod_bookLine 90 = .ok (.aload_n 0, 1) := by decide +kernel
theorem d_Mod_bookLine_91 : decode b_Mod_bookLine 91 = .ok (.iconst 1, 1) := by decide +kernel
theorem d_Mod_bookLine_92 : decode b_Mod_bookLine 92 = .ok (.invokevirtual 169, 3) := by decide +kernel
theorem d_Mod_bookLine_95 : decode b_Mod_bookLine 95 = .ok (.ireturn, 1) := by decide +kernel
theorem d_Mod_bookLine_96 : decode b_Mod_bookLine 96 = .ok (.aload_n 0, 1) := by decide +kernel
theorem d_Mod_bookLine_97 : decode b_Mod_bookLine 97 = .ok (.getfield 296, 3) := by decide +kernel
theorem d_Mod_bookLine_100 : decode b_Mod_bookLine 100 = .ok (.bipush 30, 2) := by decide +kernel
theorem d_Mod_bookLine_102 : decode b_Mod_bookLine 102 = .ok (.if_icmp .ne 9, 3) := by decide +kernel
theorem d_Mod_bookLine_105 : decode b_Mod_bookLine 105 = .ok (.aload_n 0, 1) := by decide +kernel
theorem d_Mod_bookLine_106 : decode b_Mod_bookLine 106 = .ok (.iconst 4, 1) := by decide +kernel
theorem d_Mod_bookLine_107 : decode b_Mod_bookLine 107 = .ok (.invokevirtual 169, 3) := by decide +kernel
theorem d_Mod_bookLine_110 : decode b_Mod_bookLine 110 = .ok (.ireturn, 1) := by decide +kernel
theorem d_Mod_bookLine_111 : decode b_Mod_bookLine 111 = .ok (.iconst 1, 1) := by decide +kernel
theorem d_Mod_bookLine_112 : decode b_Mod_bookLine 112 = .ok (.iconst 4, 1) := by decide +kernel
theorem d_Mod_bookLine_113 : decode b_Mod_bookLine 113 = .ok (.aload_n 0, 1) := by decide +kernel
theorem d_Mod_bookLine_114 : decode b_Mod_bookLine 114 = .ok (.getfield 296, 3) := by decide +kernel
theorem d_Mod_bookLine_117 : decode b_Mod_bookLine 117 = .ok (.imul, 1) := by decide +kernel
theorem d_Mod_bookLine_118 : decode b_Mod_bookLine 118 = .ok (.iadd, 1) := by decide +kernel
theorem d_Mod_bookLine_119 : decode b_Mod_bookLine 119 = .ok (.istore_n 2, 1) := by decide +kernel
theorem d_Mod_bookLine_120 : decode b_Mod_bookLine 120 = .ok (.aload_n 0, 1) := by decide +kernel
theorem d_Mod_bookLine_121 : decode b_Mod_bookLine 121 = .ok (.invokevirtual 172, 3) := by decide +kernel
theorem d_Mod_bookLine_124 : decode b_Mod_bookLine 124 = .ok (.aload_n 0, 1) := by decide +kernel
theorem d_Mod_bookLine_125 : decode b_Mod_bookLine 125 = .ok (.getfield 40, 3) := by decide +kernel
theorem d_Mod_bookLine_128 : decode b_Mod_bookLine 128 = .ok (.iload_n 2, 1) := by decide +kernel
theorem d_Mod_bookLine_129 : decode b_Mod_bookLine 129 = .ok (.iload_n 1, 1) := by decide +kernel
theorem d_Mod_bookLine_130 : decode b_Mod_bookLine 130 = .ok (.iastore, 1) := by decide +kernel
theorem d_Mod_bookLine_131 : decode b_Mod_bookLine 131 = .ok (.aload_n 0, 1) := by decide +kernel
theorem d_Mod_bookLine_132 : decode b_Mod_bookLine 132 = .ok (.getfield 40, 3) := by decide +kernel
theorem d_Mod_bookLine_135 : decode b_Mod_bookLine 135 = .ok (.iload_n 2, 1) := by decide +kernel
theorem d_Mod_bookLine_136 : decode b_Mod_bookLine 136 = .ok (.iconst 1, 1) := by decide +kernel
theorem d_Mod_bookLine_137 : decode b_Mod_bookLine 137 = .ok (.iadd, 1) := by decide +kernel
theorem d_Mod_bookLine_138 : decode b_Mod_bookLine 138 = .ok (.iconst 0, 1) := by decide +kernel
theorem d_Mod_bookLine_139 : decode b_Mod_bookLine 139 = .ok (.iastore, 1) := by decide +kernel
theorem d_Mod_bookLine_140 : decode b_Mod_bookLine 140 = .ok (.aload_n 0, 1) := by decide +kernel
theorem d_Mod_bookLine_141 : decode b_Mod_bookLine 141 = .ok (.getfield 40, 3) := by decide +kernel
theorem d_Mod_bookLine_144 : decode b_Mod_bookLine 144 = .ok (.iload_n 2, 1) := by decide +kernel
theorem d_Mod_bookLine_145 : decode b_Mod_bookLine 145 = .ok (.iconst 2, 1) := by decide +kernel
theorem d_Mod_bookLine_146 : decode b_Mod_bookLine 146 = .ok (.iadd, 1) := by decide +kernel
theorem d_Mod_bookLine_147 : decode b_Mod_bookLine 147 = .ok (.iconst 0, 1) := by decide +kernel
theorem d_Mod_bookLine_148 : decode b_Mod_bookLine 148 = .ok (.iastore, 1) := by decide +kernel
theorem d_Mod_bookLine_149 : decode b_Mod_bookLine 149 = .ok (.iload_n 1, 1) := by decide +kernel
theorem d_Mod_bookLine_150 : decode b_Mod_bookLine 150 = .ok (.iconst 5, 1) := by decide +kernel
theorem d_Mod_bookLine_151 : decode b_Mod_bookLine 151 = .ok (.if_icmp .ne 5, 3) := by decide +kernel
theorem d_Mod_bookLine_154 : decode b_Mod_bookLine 154 = .ok (.iconst 1, 1) := by decide +kernel
theorem d_Mod_bookLine_155 : decode b_Mod_bookLine 155 = .ok (.ireturn, 1) := by decide +kernel
theorem d_Mod_bookLine_156 : decode b_Mod_bookLine 156 = .ok (.aload_n 0, 1) := by decide +kernel
theorem d_Mod_bookLine_157 : decode b_Mod_bookLine 157 = .ok (.bipush 10, 2) := by decide +kernel
theorem d_Mod_bookLine_159 : decode b_Mod_bookLine 159 = .ok (.aload_n 0, 1) := by decide +kernel
theorem d_Mod_bookLine_160 : decode b_Mod_bookLine 160 = .ok (.getfield 33, 3) := by decide +kernel
theorem d_Mod_bookLine_163 : decode b_Mod_bookLine 163 = .ok (.iconst 1, 1) := by decide +kernel
theorem d_Mod_bookLine_164 : decode b_Mod_bookLine 164 = .ok (.iaload, 1) := by decide +kernel
theorem d_Mod_bookLine_165 : decode b_Mod_bookLine 165 = .ok (.invokevirtual 226, 3) := by decide +kernel
theorem d_Mod_bookLine_168 : decode b_Mod_bookLine 168 = .ok (.ifCond .ne 5, 3) := by decide +kernel
theorem d_Mod_bookLine_171 : decode b_Mod_bookLine 171 = .ok (.iconst 0, 1) := by decide +kernel
theorem d_Mod_bookLine_172 : decode b_Mod_bookLine 172 = .ok (.ireturn, 1) := by decide +kernel
theorem d_Mod_bookLine_173 : decode b_Mod_bookLine 173 = .ok (.aload_n 0, 1) := by decide +kernel
theorem d_Mod_bookLine_174 : decode b_Mod_bookLine 174 = .ok (.getfield 40, 3) := by decide +kernel
theorem d_Mod_bookLine_177 : decode b_Mod_bookLine 177 = .ok (.iload_n 2, 1) := by decide +kernel
theorem d_Mod_bookLine_178 : decode b_Mod_bookLine 178 = .ok (.iconst 1, 1) := by decide +kernel
theorem d_Mod_bookLine_179 : decode b_Mod_bookLine 179 = .ok (.iadd, 1) := by decide +kernel
theorem d_Mod_bookLine_180 : decode b_Mod_bookLine 180 = .ok (.aload_n 0, 1) := by decide +kernel
theorem d_Mod_bookLine_181 : decode b_Mod_bookLine 181 = .ok (.getfield 179, 3) := by decide +kernel
theorem d_Mod_bookLine_184 : decode b_Mod_bookLine 184 = .ok (.iastore, 1) := by decide +kernel
theorem d_Mod_bookLine_185 : decode b_Mod_bookLine 185 = .ok (.iload_n 1, 1) := by decide +kernel
theorem d_Mod_bookLine_186 : decode b_Mod_bookLine 186 = .ok (.iconst 2, 1) := by decide +kernel
theorem d_Mod_bookLine_187 : decode b_Mod_bookLine 187 = .ok (.if_icmp .ne 5, 3) := by decide +kernel
theorem d_Mod_bookLine_190 : decode b_Mod_bookLine 190 = .ok (.iconst 1, 1) := by decide +kernel
theorem d_Mod_bookLine_191 : decode b_Mod_bookLine 191 = .ok (.ireturn, 1) := by decide +kernel
theorem d_Mod_bookLine_192 : decode b_Mod_bookLine 192 = .ok (.iload_n 1, 1) := by decide +kernel
theorem d_Mod_bookLine_193 : decode b_Mod_bookLine 193 = .ok (.iconst 4, 1) := by decide +kernel
theorem d_Mod_bookLine_194 : decode b_Mod_bookLine 194 = .ok (.if_icmp .ne 22, 3) := by decide +kernel
theorem d_Mod_bookLine_197 : decode b_Mod_bookLine 197 = .ok (.aload_n 0, 1) := by decide +kernel
theorem d_Mod_bookLine_198 : decode b_Mod_bookLine 198 = .ok (.iconst 0, 1) := by decide +kernel
theorem d_Mod_bookLine_199 : decode b_Mod_bookLine 199 = .ok (.aload_n 0, 1) := by decide +kernel
theorem d_Mod_bookLine_200 : decode b_Mod_bookLine 200 = .ok (.getfield 33, 3) := by decide +kernel
theorem d_Mod_bookLine_203 : decode b_Mod_bookLine 203 = .ok (.iconst 2, 1) := by decide +kernel
theorem d_Mod_bookLine_204 : decode b_Mod_bookLine 204 = .ok (.iaload, 1) := by decide +kernel
theorem d_Mod_bookLine_205 : decode b_Mod_bookLine 205 = .ok (.iconst 1, 1) := by decide +kernel
theorem d_Mod_bookLine_206 : decode b_Mod_bookLine 206 = .ok (.isub, 1) := by decide +kernel
theorem d_Mod_bookLine_207 : decode b_Mod_bookLine 207 = .ok (.invokevirtual 213, 3) := by decide +kernel
theorem d_Mod_bookLine_210 : decode b_Mod_bookLine 210 = .ok (.ifCond .ne 45, 3) := by decide +kernel
theorem d_Mod_bookLine_213 : decode b_Mod_bookLine 213 = .ok (.goto 40, 3) := by decide +kernel
theorem d_Mod_bookLine_216 : decode b_Mod_bookLine 216 = .ok (.iload_n 1, 1) := by decide +kernel
theorem d_Mod_bookLine_217 : decode b_Mod_bookLine 217 = .ok (.iconst 3, 1) := by decide +kernel
theorem d_Mod_bookLine_218 : decode b_Mod_bookLine 218 = .ok (.if_icmp .ne 20, 3) := by decide +kernel
theorem d_Mod_bookLine_221 : decode b_Mod_bookLine 221 = .ok (.aload_n 0, 1) := by decide +kernel
theorem d_Mod_bookLine_222 : decode b_Mod_bookLine 222 = .ok (.iconst 0, 1) := by decide +kernel
theorem d_Mod_bookLine_223 : decode b_Mod_bookLine 223 = .ok (.aload_n 0, 1) := by decide +kernel
theorem d_Mod_bookLine_224 : decode b_Mod_bookLine 224 = .ok (.getfield 33, 3) := by decide +kernel
theorem d_Mod_bookLine_227 : decode b_Mod_bookLine 227 = .ok (.iconst 0, 1) := by decide +kernel
theorem d_Mod_bookLine_228 : decode b_Mod_bookLine 228 = .ok (.iaload, 1) := by decide +kernel
theorem d_Mod_bookLine_229 : decode b_Mod_bookLine 229 = .ok (.invokevirtual 226, 3) := by decide +kernel
theorem d_Mod_bookLine_232 : decode b_Mod_bookLine 232 = .ok (.ifCond .ne 23, 3) := by decide +kernel
theorem d_Mod_bookLine_235 : decode b_Mod_bookLine 235 = .ok (.goto 18, 3) := by decide +kernel
theorem d_Mod_bookLine_238 : decode b_Mod_bookLine 238 = .ok (.aload_n 0, 1) := by decide +kernel
theorem d_Mod_bookLine_239 : decode b_Mod_bookLine 239 = .ok (.bipush 10, 2) := by decide +kernel
theorem d_Mod_bookLine_241 : decode b_Mod_bookLine 241 = .ok (.aload_n 0, 1) := by decide +kernel
theorem d_Mod_bookLine_242 : decode b_Mod_bookLine 242 = .ok (.getfield 33, 3) := by decide +kernel
theorem d_Mod_bookLine_245 : decode b_Mod_bookLine 245 = .ok (.iconst 1, 1) := by decide +kernel
theorem d_Mod_bookLine_246 : decode b_Mod_bookLine 246 = .ok (.iaload, 1) := by decide +kernel
theorem d_Mod_bookLine_247 : decode b_Mod_bookLine 247 = .ok (.invokevirtual 226, 3) := by decide +kernel
theorem d_Mod_bookLine_250 : decode b_Mod_bookLine 250 = .ok (.ifCond .ne 5, 3) := by decide +kernel
theorem d_Mod_bookLine_253 : decode b_Mod_bookLine 253 = .ok (.iconst 0, 1) := by decide +kernel
theorem d_Mod_bookLine_254 : decode b_Mod_bookLine 254 = .ok (.ireturn, 1) := by decide +kernel
theorem d_Mod_bookLine_255 : decode b_Mod_bookLine 255 = .ok (.aload_n 0, 1) := by decide +kernel
theorem d_Mod_bookLine_256 : decode b_Mod_bookLine 256 = .ok (.getfield 40, 3) := by decide +kernel
theorem d_Mod_bookLine_259 : decode b_Mod_bookLine 259 = .ok (.iload_n 2, 1) := by decide +kernel
theorem d_Mod_bookLine_260 : decode b_Mod_bookLine 260 = .ok (.iconst 2, 1) := by decide +kernel
theorem d_Mod_bookLine_261 : decode b_Mod_bookLine 261 = .ok (.iadd, 1) := by decide +kernel
theorem d_Mod_bookLine_262 : decode b_Mod_bookLine 262 = .ok (.aload_n 0, 1) := by decide +kernel
theorem d_Mod_bookLine_263 : decode b_Mod_bookLine 263 = .ok (.getfield 179, 3) := by decide +kernel
theorem d_Mod_bookLine_266 : decode b_Mod_bookLine 266 = .ok (.iastore, 1) := by decide +kernel
theorem d_Mod_bookLine_267 : decode b_Mod_bookLine 267 = .ok (.iconst 1, 1) := by decide +kernel
theorem d_Mod_bookLine_268 : decode b_Mod_bookLine 268 = .ok (.ireturn, 1) := by decide +kernel
noncomputable def f_Mod_bookLine_J255 (z : Nat → Nat) (o : Nat) (v2 : Int32) (m255 : Mm) : Option (Int32 × Mm) :=
  (mm_stI m255 (o + 4) (z (o + 4)) (v2 + (2 : Int32)) (m255.1 o 18)).bind fun m266 =>
  some ((1 : Int32), m266)
noncomputable def f_Mod_bookLine_J85 (z : Nat → Nat) (o : Nat) (t85_0 : Int32) (m85 : Mm) : Option (Int32 × Mm) :=
  if 0 ≤ t85_0 then (
    if (m85.1 o 29) = (30 : Int32) then (
      (f_Mod_bad z m85 o (4 : Int32)).bind fun q107 =>
      (mm_zb q107.1).bind fun y110 =>
      some (y110, q107.2)
    ) else (
      mm_lt (((1 : Int32) + ((4 : Int32) * (m85.1 o 29)))) fun x119 =>
      (f_Mod_next z m85 o).bind fun q121 =>
      (mm_stI q121 (o + 4) (z (o + 4)) x119 t85_0).bind fun m130 =>
      (mm_stI m130 (o + 4) (z (o + 4)) (x119 + (1 : Int32)) (0 : Int32)).bind fun m139 =>
      (mm_stI m139 (o + 4) (z (o + 4)) (x119 + (2 : Int32)) (0 : Int32)).bind fun m148 =>
      if t85_0 = (5 : Int32) then (
        some ((1 : Int32), m148)
      ) else (
        (mm_ldI (m148.1 (o + 2)) (z (o + 2)) (1 : Int32)).bind fun x164 =>
        (f_Mod_takesName z m148 o (10 : Int32) x164).bind fun q165 =>
        if q165.1 = 0 then (
          some ((0 : Int32), q165.2)
        ) else (
          (mm_stI q165.2 (o + 4) (z (o + 4)) (x119 + (1 : Int32)) (q165.2.1 o 18)).bind fun m184 =>
          if t85_0 = (2 : Int32) then (
            some ((1 : Int32), m184)
          ) else (
            if t85_0 = (4 : Int32) then (
              (mm_ldI (m184.1 (o + 2)) (z (o + 2)) (2 : Int32)).bind fun x204 =>
              (f_Mod_takes z m184 o (0 : Int32) (x204 - (1 : Int32))).bind fun q207 =>
              if q207.1 = 0 then (
                some ((0 : Int32), q207.2)
              ) else (
                f_Mod_bookLine_J255 z o x119 q207.2
              )
            ) else (
              if t85_0 = (3 : Int32) then (
                (mm_ldI (m184.1 (o + 2)) (z (o + 2)) (0 : Int32)).bind fun x228 =>
                (f_Mod_takesName z m184 o (0 : Int32) x228).bind fun q229 =>
                if q229.1 = 0 then (
                  some ((0 : Int32), q229.2)
                ) else (
                  f_Mod_bookLine_J255 z o x119 q229.2
                )
              ) else (
                (mm_ldI (m184.1 (o + 2)) (z (o + 2)) (1 : Int32)).bind fun x246 =>
                (f_Mod_takesName z m184 o (10 : Int32) x246).bind fun q247 =>
                if q247.1 = 0 then (
                  some ((0 : Int32), q247.2)
                ) else (
                  f_Mod_bookLine_J255 z o x119 q247.2
                )
              )
            )
          )
        )
      )
    )
  ) else (
    (f_Mod_bad z m85 o (1 : Int32)).bind fun q92 =>
    (mm_zb q92.1).bind fun y95 =>
    some (y95, q92.2)
  )
noncomputable def f_Mod_bookLine (z : Nat → Nat) (σ : Mm) (o : Nat) : Option (Int32 × Mm) :=
  (f_Mod_isWord z σ o (1937203568 : Int64)).bind fun q4 =>
  if q4 = 0 then (
    (f_Mod_isWord z σ o (1734964837 : Int64)).bind fun q18 =>
    if q18 = 0 then (
      (f_Mod_isWord z σ o (1685221232 : Int64)).bind fun q32 =>
      if q32 = 0 then (
        (f_Mod_isWord z σ o (1952541541 : Int64)).bind fun q46 =>
        if q46 = 0 then (
          (f_Mod_isWord z σ o (1936290931 : Int64)).bind fun q60 =>
          if q60 = 0 then (
            (f_Mod_isWord z σ o (500135191653 : Int64)).bind fun q74 =>
            if q74 = 0 then (
              f_Mod_bookLine_J85 z o ((-1) : Int32) σ
            ) else (
              f_Mod_bookLine_J85 z o (5 : Int32) σ
            )
          ) else (
            f_Mod_bookLine_J85 z o (4 : Int32) σ
          )
        ) else (
          f_Mod_bookLine_J85 z o (3 : Int32) σ
        )
      ) else (
        f_Mod_bookLine_J85 z o (2 : Int32) σ
      )
    ) else (
      f_Mod_bookLine_J85 z o (1 : Int32) σ
    )
  ) else (
    f_Mod_bookLine_J85 z o (0 : Int32) σ
  )
set_option maxHeartbeats 4000000 in
set_option maxRecDepth 100000 in
theorem c_Mod_bookLine (l : Launch) {L : Ly} (hg : gd_ok L) {σ : Mm} {o : Nat} (k_o_0 : ly_k L o = 11) {res : Int32 × Mm} (hf0 : f_Mod_bookLine (ly_z L) σ o = some res) : CtI l y_Mod_bookLine b_Mod_bookLine 3 (some .boolean) rm_Mod_bookLine L [.ref (ly_a L o)] σ res.1 res.2 := by
  refine ct_z hg (by decide) (Nat.le_of_ble_eq_true rfl) ?_
  intro E A Q hE C hN
  subst hE
  have k_o_4 : ly_k L (o + 4) = 20 := gd_Mod_read hg k_o_0
  have k_o_2 : ly_k L (o + 2) = 20 := gd_Mod_s hg k_o_0
  unfold f_Mod_bookLine at hf0
  show GW E L A 3 0 0 Q σ 0 [(0, .ref (ly_a L o))] []
  have hj255 : ∀ (v2 : Int32) (m255 : Mm), f_Mod_bookLine_J255 (ly_z L) o v2 m255 = some res → GW E L A 3 0 0 Q m255 255 [(0, .ref (ly_a L o)), (2, .int v2)] [] := by
    intro v2 m255 hf0
    unfold f_Mod_bookLine_J255 at hf0
    refine gw_aload_n C 0 d_Mod_bookLine_255 rfl rfl ?_
    refine gw_getA C 8 d_Mod_bookLine_256 k_o_0 (by decide) i_Mod rfl rfl (by decide) qw_1173 rfl rfl (o + 4) rfl ?_
    refine gw_iload_n C 1 d_Mod_bookLine_259 rfl rfl ?_
    refine gw_iconst C (2 : Int32) d_Mod_bookLine_260 (by decide) ?_
    refine gw_iadd C d_Mod_bookLine_261 ?_
    refine gw_aload_n C 0 d_Mod_bookLine_262 rfl rfl ?_
    refine gw_getI C 18 d_Mod_bookLine_263 k_o_0 (by decide) i_Mod rfl rfl (by decide) qw_1183 rfl rfl ?_
    obtain ⟨m266, hm266, hf0⟩ := mx_bd hf0
    obtain ⟨gm266, em266⟩ := mx_stI hm266
    refine gw_iast C d_Mod_bookLine_266 k_o_4 gm266 em266 ?_
    refine gw_iconst C (1 : Int32) d_Mod_bookLine_267 (by decide) ?_
    exact en_z hN (Or.inr rfl) hf0 d_Mod_bookLine_268
  have hj85 : ∀ (t85_0 : Int32) (m85 : Mm), f_Mod_bookLine_J85 (ly_z L) o t85_0 m85 = some res → GW E L A 3 0 0 Q m85 85 [(0, .ref (ly_a L o))] [.int t85_0] := by
    intro t85_0 m85 hf0
    unfold f_Mod_bookLine_J85 at hf0
    refine gw_istore_n C [(1, .int t85_0), (0, .ref (ly_a L o))] d_Mod_bookLine_85 rfl (by decide) rfl ?_
    refine gw_iload_n C 0 d_Mod_bookLine_86 rfl rfl ?_
    refine gw_if_ge C 96 d_Mod_bookLine_87 (by decide) (fun hc => ?_) (fun hc => ?_)
    · replace hf0 := mx_t hc hf0
      refine gw_aload_n C 1 d_Mod_bookLine_96 rfl rfl ?_
      refine gw_getI C 29 d_Mod_bookLine_97 k_o_0 (by decide) i_Mod rfl rfl (by decide) qw_1194 rfl rfl ?_
      refine gw_bipush C (30 : Int32) d_Mod_bookLine_100 (by decide) ?_
      refine gw_icmp_ne C 111 d_Mod_bookLine_102 (by decide) (fun hc => ?_) (fun hc => ?_)
      · replace hf0 := mx_f hc hf0
        refine gw_iconst C (1 : Int32) d_Mod_bookLine_111 (by decide) ?_
        refine gw_iconst C (4 : Int32) d_Mod_bookLine_112 (by decide) ?_
        refine gw_aload_n C 1 d_Mod_bookLine_113 rfl rfl ?_
        refine gw_getI C 29 d_Mod_bookLine_114 k_o_0 (by decide) i_Mod rfl rfl (by decide) qw_1194 rfl rfl ?_
        refine gw_imul C d_Mod_bookLine_117 ?_
        refine gw_iadd C d_Mod_bookLine_118 ?_
        obtain ⟨x119, ex119, hf0⟩ := mx_lt hf0
        refine gw_topi ex119 ?_
        refine gw_istore_n C [(2, .int x119), (1, .int t85_0), (0, .ref (ly_a L o))] d_Mod_bookLine_119 rfl (by decide) rfl ?_
        refine gw_aload_n C 2 d_Mod_bookLine_120 rfl rfl ?_
        obtain ⟨q121, hq121, hf0⟩ := mx_bd hf0
        refine gw_callV C (c_Mod_next _ hg k_o_0 hq121) d_Mod_bookLine_121 0 qw_1310 qw_1312 qs_38 qw_12 qw_1313 k_o_0 (by decide) rfl hd_Mod_next rfl rfl (Nat.le_of_ble_eq_true rfl) ⟨rfl, rfl, Nat.le_of_ble_eq_true rfl, Nat.le_of_ble_eq_true rfl⟩ ⟨Nat.zero_le _, Nat.zero_le _⟩ ?_
        refine gw_aload_n C 2 d_Mod_bookLine_124 rfl rfl ?_
        refine gw_getA C 8 d_Mod_bookLine_125 k_o_0 (by decide) i_Mod rfl rfl (by decide) qw_1173 rfl rfl (o + 4) rfl ?_
        refine gw_iload_n C 0 d_Mod_bookLine_128 rfl rfl ?_
        refine gw_iload_n C 1 d_Mod_bookLine_129 rfl rfl ?_
        obtain ⟨m130, hm130, hf0⟩ := mx_bd hf0
        obtain ⟨gm130, em130⟩ := mx_stI hm130
        refine gw_iast C d_Mod_bookLine_130 k_o_4 gm130 em130 ?_
        refine gw_aload_n C 2 d_Mod_bookLine_131 rfl rfl ?_
        refine gw_getA C 8 d_Mod_bookLine_132 k_o_0 (by decide) i_Mod rfl rfl (by decide) qw_1173 rfl rfl (o + 4) rfl ?_
        refine gw_iload_n C 0 d_Mod_bookLine_135 rfl rfl ?_
        refine gw_iconst C (1 : Int32) d_Mod_bookLine_136 (by decide) ?_
        refine gw_iadd C d_Mod_bookLine_137 ?_
        refine gw_iconst C (0 : Int32) d_Mod_bookLine_138 (by decide) ?_
        obtain ⟨m139, hm139, hf0⟩ := mx_bd hf0
        obtain ⟨gm139, em139⟩ := mx_stI hm139
        refine gw_iast C d_Mod_bookLine_139 k_o_4 gm139 em139 ?_
        refine gw_aload_n C 2 d_Mod_bookLine_140 rfl rfl ?_
        refine gw_getA C 8 d_Mod_bookLine_141 k_o_0 (by decide) i_Mod rfl rfl (by decide) qw_1173 rfl rfl (o + 4) rfl ?_
        refine gw_iload_n C 0 d_Mod_bookLine_144 rfl rfl ?_
        refine gw_iconst C (2 : Int32) d_Mod_bookLine_145 (by decide) ?_
        refine gw_iadd C d_Mod_bookLine_146 ?_
        refine gw_iconst C (0 : Int32) d_Mod_bookLine_147 (by decide) ?_
        obtain ⟨m148, hm148, hf0⟩ := mx_bd hf0
        obtain ⟨gm148, em148⟩ := mx_stI hm148
        refine gw_iast C d_Mod_bookLine_148 k_o_4 gm148 em148 ?_
        refine gw_iload_n C 1 d_Mod_bookLine_149 rfl rfl ?_
        refine gw_iconst C (5 : Int32) d_Mod_bookLine_150 (by decide) ?_
        refine gw_icmp_ne C 156 d_Mod_bookLine_151 (by decide) (fun hc => ?_) (fun hc => ?_)
        · replace hf0 := mx_f hc hf0
          refine gw_aload_n C 2 d_Mod_bookLine_156 rfl rfl ?_
          refine gw_bipush C (10 : Int32) d_Mod_bookLine_157 (by decide) ?_
          refine gw_aload_n C 2 d_Mod_bookLine_159 rfl rfl ?_
          refine gw_getA C 6 d_Mod_bookLine_160 k_o_0 (by decide) i_Mod rfl rfl (by decide) qw_1171 rfl rfl (o + 2) rfl ?_
          refine gw_iconst C (1 : Int32) d_Mod_bookLine_163 (by decide) ?_
          obtain ⟨x164, hx164, hf0⟩ := mx_bd hf0
          obtain ⟨gx164, ex164⟩ := mx_ldI hx164
          refine gw_iald C d_Mod_bookLine_164 k_o_2 gx164 ex164 ?_
          obtain ⟨q165, hq165, hf0⟩ := mx_bd hf0
          refine gw_callI C (c_Mod_takesName _ hg k_o_0 hq165) d_Mod_bookLine_165 2 qw_1367 qw_1369 qs_50 qw_12 qw_1370 k_o_0 (by decide) rfl hd_Mod_takesName rfl rfl (Nat.le_of_ble_eq_true rfl) ⟨rfl, rfl, Nat.le_of_ble_eq_true rfl, Nat.le_of_ble_eq_true rfl⟩ ⟨Nat.zero_le _, Nat.zero_le _⟩ ?_
          refine gw_if_ne C 173 d_Mod_bookLine_168 (by decide) (fun hc => ?_) (fun hc => ?_)
          · replace hf0 := mx_f hc hf0
            refine gw_aload_n C 2 d_Mod_bookLine_173 rfl rfl ?_
            refine gw_getA C 8 d_Mod_bookLine_174 k_o_0 (by decide) i_Mod rfl rfl (by decide) qw_1173 rfl rfl (o + 4) rfl ?_
            refine gw_iload_n C 0 d_Mod_bookLine_177 rfl rfl ?_
            refine gw_iconst C (1 : Int32) d_Mod_bookLine_178 (by decide) ?_
            refine gw_iadd C d_Mod_bookLine_179 ?_
            refine gw_aload_n C 2 d_Mod_bookLine_180 rfl rfl ?_
            refine gw_getI C 18 d_Mod_bookLine_181 k_o_0 (by decide) i_Mod rfl rfl (by decide) qw_1183 rfl rfl ?_
            obtain ⟨m184, hm184, hf0⟩ := mx_bd hf0
            obtain ⟨gm184, em184⟩ := mx_stI hm184
            refine gw_iast C d_Mod_bookLine_184 k_o_4 gm184 em184 ?_
            refine gw_iload_n C 1 d_Mod_bookLine_185 rfl rfl ?_
            refine gw_iconst C (2 : Int32) d_Mod_bookLine_186 (by decide) ?_
            refine gw_icmp_ne C 192 d_Mod_bookLine_187 (by decide) (fun hc => ?_) (fun hc => ?_)
            · replace hf0 := mx_f hc hf0
              refine gw_iload_n C 1 d_Mod_bookLine_192 rfl rfl ?_
              refine gw_iconst C (4 : Int32) d_Mod_bookLine_193 (by decide) ?_
              refine gw_icmp_ne C 216 d_Mod_bookLine_194 (by decide) (fun hc => ?_) (fun hc => ?_)
              · replace hf0 := mx_f hc hf0
                refine gw_iload_n C 1 d_Mod_bookLine_216 rfl rfl ?_
                refine gw_iconst C (3 : Int32) d_Mod_bookLine_217 (by decide) ?_
                refine gw_icmp_ne C 238 d_Mod_bookLine_218 (by decide) (fun hc => ?_) (fun hc => ?_)
                · replace hf0 := mx_f hc hf0
                  refine gw_aload_n C 2 d_Mod_bookLine_238 rfl rfl ?_
                  refine gw_bipush C (10 : Int32) d_Mod_bookLine_239 (by decide) ?_
                  refine gw_aload_n C 2 d_Mod_bookLine_241 rfl rfl ?_
                  refine gw_getA C 6 d_Mod_bookLine_242 k_o_0 (by decide) i_Mod rfl rfl (by decide) qw_1171 rfl rfl (o + 2) rfl ?_
                  refine gw_iconst C (1 : Int32) d_Mod_bookLine_245 (by decide) ?_
                  obtain ⟨x246, hx246, hf0⟩ := mx_bd hf0
                  obtain ⟨gx246, ex246⟩ := mx_ldI hx246
                  refine gw_iald C d_Mod_bookLine_246 k_o_2 gx246 ex246 ?_
                  obtain ⟨q247, hq247, hf0⟩ := mx_bd hf0
                  refine gw_callI C (c_Mod_takesName _ hg k_o_0 hq247) d_Mod_bookLine_247 2 qw_1367 qw_1369 qs_50 qw_12 qw_1370 k_o_0 (by decide) rfl hd_Mod_takesName rfl rfl (Nat.le_of_ble_eq_true rfl) ⟨rfl, rfl, Nat.le_of_ble_eq_true rfl, Nat.le_of_ble_eq_true rfl⟩ ⟨Nat.zero_le _, Nat.zero_le _⟩ ?_
                  refine gw_if_ne C 255 d_Mod_bookLine_250 (by decide) (fun hc => ?_) (fun hc => ?_)
                  · replace hf0 := mx_f hc hf0
                    exact gw_go [2, 0] (hj255 _ _ hf0) rfl
                  · replace hf0 := mx_t hc hf0
                    refine gw_iconst C (0 : Int32) d_Mod_bookLine_253 (by decide) ?_
                    exact en_z hN (Or.inl rfl) hf0 d_Mod_bookLine_254
                · replace hf0 := mx_t hc hf0
                  refine gw_aload_n C 2 d_Mod_bookLine_221 rfl rfl ?_
                  refine gw_iconst C (0 : Int32) d_Mod_bookLine_222 (by decide) ?_
                  refine gw_aload_n C 2 d_Mod_bookLine_223 rfl rfl ?_
                  refine gw_getA C 6 d_Mod_bookLine_224 k_o_0 (by decide) i_Mod rfl rfl (by decide) qw_1171 rfl rfl (o + 2) rfl ?_
                  refine gw_iconst C (0 : Int32) d_Mod_bookLine_227 (by decide) ?_
                  obtain ⟨x228, hx228, hf0⟩ := mx_bd hf0
                  obtain ⟨gx228, ex228⟩ := mx_ldI hx228
                  refine gw_iald C d_Mod_bookLine_228 k_o_2 gx228 ex228 ?_
                  obtain ⟨q229, hq229, hf0⟩ := mx_bd hf0
                  refine gw_callI C (c_Mod_takesName _ hg k_o_0 hq229) d_Mod_bookLine_229 2 qw_1367 qw_1369 qs_50 qw_12 qw_1370 k_o_0 (by decide) rfl hd_Mod_takesName rfl rfl (Nat.le_of_ble_eq_true rfl) ⟨rfl, rfl, Nat.le_of_ble_eq_true rfl, Nat.le_of_ble_eq_true rfl⟩ ⟨Nat.zero_le _, Nat.zero_le _⟩ ?_
                  refine gw_if_ne C 255 d_Mod_bookLine_232 (by decide) (fun hc => ?_) (fun hc => ?_)
                  · replace hf0 := mx_f hc hf0
                    exact gw_go [2, 0] (hj255 _ _ hf0) rfl
                  · replace hf0 := mx_t hc hf0
                    refine gw_goto C 253 d_Mod_bookLine_235 (by decide) ?_
                    refine gw_iconst C (0 : Int32) d_Mod_bookLine_253 (by decide) ?_
                    exact en_z hN (Or.inl rfl) hf0 d_Mod_bookLine_254
              · replace hf0 := mx_t hc hf0
                refine gw_aload_n C 2 d_Mod_bookLine_197 rfl rfl ?_
                refine gw_iconst C (0 : Int32) d_Mod_bookLine_198 (by decide) ?_
                refine gw_aload_n C 2 d_Mod_bookLine_199 rfl rfl ?_
                refine gw_getA C 6 d_Mod_bookLine_200 k_o_0 (by decide) i_Mod rfl rfl (by decide) qw_1171 rfl rfl (o + 2) rfl ?_
                refine gw_iconst C (2 : Int32) d_Mod_bookLine_203 (by decide) ?_
                obtain ⟨x204, hx204, hf0⟩ := mx_bd hf0
                obtain ⟨gx204, ex204⟩ := mx_ldI hx204
                refine gw_iald C d_Mod_bookLine_204 k_o_2 gx204 ex204 ?_
                refine gw_iconst C (1 : Int32) d_Mod_bookLine_205 (by decide) ?_
                refine gw_isub C d_Mod_bookLine_206 ?_
                obtain ⟨q207, hq207, hf0⟩ := mx_bd hf0
                refine gw_callI C (c_Mod_takes _ hg k_o_0 hq207) d_Mod_bookLine_207 2 qw_1352 qw_1354 qs_47 qw_12 qw_1355 k_o_0 (by decide) rfl hd_Mod_takes rfl rfl (Nat.le_of_ble_eq_true rfl) ⟨rfl, rfl, Nat.le_of_ble_eq_true rfl, Nat.le_of_ble_eq_true rfl⟩ ⟨Nat.zero_le _, Nat.zero_le _⟩ ?_
                refine gw_if_ne C 255 d_Mod_bookLine_210 (by decide) (fun hc => ?_) (fun hc => ?_)
                · replace hf0 := mx_f hc hf0
                  exact gw_go [2, 0] (hj255 _ _ hf0) rfl
                · replace hf0 := mx_t hc hf0
                  refine gw_goto C 253 d_Mod_bookLine_213 (by decide) ?_
                  refine gw_iconst C (0 : Int32) d_Mod_bookLine_253 (by decide) ?_
                  exact en_z hN (Or.inl rfl) hf0 d_Mod_bookLine_254
            · replace hf0 := mx_t hc hf0
              refine gw_iconst C (1 : Int32) d_Mod_bookLine_190 (by decide) ?_
              exact en_z hN (Or.inr rfl) hf0 d_Mod_bookLine_191
          · replace hf0 := mx_t hc hf0
            refine gw_iconst C (0 : Int32) d_Mod_bookLine_171 (by decide) ?_
            exact en_z hN (Or.inl rfl) hf0 d_Mod_bookLine_172
        · replace hf0 := mx_t hc hf0
          refine gw_iconst C (1 : Int32) d_Mod_bookLine_154 (by decide) ?_
          exact en_z hN (Or.inr rfl) hf0 d_Mod_bookLine_155
      · replace hf0 := mx_t hc hf0
        refine gw_aload_n C 1 d_Mod_bookLine_105 rfl rfl ?_
        refine gw_iconst C (4 : Int32) d_Mod_bookLine_106 (by decide) ?_
        obtain ⟨q107, hq107, hf0⟩ := mx_bd hf0
        refine gw_callI C (c_Mod_bad _ hg k_o_0 hq107) d_Mod_bookLine_107 1 qw_1336 qw_1338 qs_43 qw_12 qw_1339 k_o_0 (by decide) rfl hd_Mod_bad rfl rfl (Nat.le_of_ble_eq_true rfl) ⟨rfl, rfl, Nat.le_of_ble_eq_true rfl, Nat.le_of_ble_eq_true rfl⟩ ⟨Nat.zero_le _, Nat.zero_le _⟩ ?_
        obtain ⟨y110, hy110, hf0⟩ := mx_bd hf0
        obtain ⟨zy110, ey110⟩ := mx_zb hy110
        refine gw_topi ey110 ?_
        exact en_z hN zy110 hf0 d_Mod_bookLine_110
    · replace hf0 := mx_f hc hf0
      refine gw_aload_n C 1 d_Mod_bookLine_90 rfl rfl ?_
      refine gw_iconst C (1 : Int32) d_Mod_bookLine_91 (by decide) ?_
      obtain ⟨q92, hq92, hf0⟩ := mx_bd hf0
      refine gw_callI C (c_Mod_bad _ hg k_o_0 hq92) d_Mod_bookLine_92 1 qw_1336 qw_1338 qs_43 qw_12 qw_1339 k_o_0 (by decide) rfl hd_Mod_bad rfl rfl (Nat.le_of_ble_eq_true rfl) ⟨rfl, rfl, Nat.le_of_ble_eq_true rfl, Nat.le_of_ble_eq_true rfl⟩ ⟨Nat.zero_le _, Nat.zero_le _⟩ ?_
      obtain ⟨y95, hy95, hf0⟩ := mx_bd hf0
      obtain ⟨zy95, ey95⟩ := mx_zb hy95
      refine gw_topi ey95 ?_
      exact en_z hN zy95 hf0 d_Mod_bookLine_95
  refine gw_aload_n C 0 d_Mod_bookLine_0 rfl rfl ?_
  refine gw_ldc2_w C d_Mod_bookLine_1 qw_1160 ?_
  obtain ⟨q4, hq4, hf0⟩ := mx_bd hf0
  refine gw_callI C (c_Mod_isWord _ hg k_o_0 hq4) d_Mod_bookLine_4 1 qw_1328 qw_1330 qs_41 qw_12 qw_1331 k_o_0 (by decide) rfl hd_Mod_isWord rfl rfl (Nat.le_of_ble_eq_true rfl) ⟨rfl, rfl, Nat.le_of_ble_eq_true rfl, Nat.le_of_ble_eq_true rfl⟩ ⟨Nat.zero_le _, Nat.zero_le _⟩ ?_
  refine gw_if_eq C 14 d_Mod_bookLine_7 (by decide) (fun hc => ?_) (fun hc => ?_)
  · replace hf0 := mx_t hc hf0
    refine gw_aload_n C 0 d_Mod_bookLine_14 rfl rfl ?_
    refine gw_ldc2_w C d_Mod_bookLine_15 qw_1161 ?_
    obtain ⟨q18, hq18, hf0⟩ := mx_bd hf0
    refine gw_callI C (c_Mod_isWord _ hg k_o_0 hq18) d_Mod_bookLine_18 1 qw_1328 qw_1330 qs_41 qw_12 qw_1331 k_o_0 (by decide) rfl hd_Mod_isWord rfl rfl (Nat.le_of_ble_eq_true rfl) ⟨rfl, rfl, Nat.le_of_ble_eq_true rfl, Nat.le_of_ble_eq_true rfl⟩ ⟨Nat.zero_le _, Nat.zero_le _⟩ ?_
    refine gw_if_eq C 28 d_Mod_bookLine_21 (by decide) (fun hc => ?_) (fun hc => ?_)
    · replace hf0 := mx_t hc hf0
      refine gw_aload_n C 0 d_Mod_bookLine_28 rfl rfl ?_
      refine gw_ldc2_w C d_Mod_bookLine_29 qw_1162 ?_
      obtain ⟨q32, hq32, hf0⟩ := mx_bd hf0
      refine gw_callI C (c_Mod_isWord _ hg k_o_0 hq32) d_Mod_bookLine_32 1 qw_1328 qw_1330 qs_41 qw_12 qw_1331 k_o_0 (by decide) rfl hd_Mod_isWord rfl rfl (Nat.le_of_ble_eq_true rfl) ⟨rfl, rfl, Nat.le_of_ble_eq_true rfl, Nat.le_of_ble_eq_true rfl⟩ ⟨Nat.zero_le _, Nat.zero_le _⟩ ?_
      refine gw_if_eq C 42 d_Mod_bookLine_35 (by decide) (fun hc => ?_) (fun hc => ?_)
      · replace hf0 := mx_t hc hf0
        refine gw_aload_n C 0 d_Mod_bookLine_42 rfl rfl ?_
        refine gw_ldc2_w C d_Mod_bookLine_43 qw_1163 ?_
        obtain ⟨q46, hq46, hf0⟩ := mx_bd hf0
        refine gw_callI C (c_Mod_isWord _ hg k_o_0 hq46) d_Mod_bookLine_46 1 qw_1328 qw_1330 qs_41 qw_12 qw_1331 k_o_0 (by decide) rfl hd_Mod_isWord rfl rfl (Nat.le_of_ble_eq_true rfl) ⟨rfl, rfl, Nat.le_of_ble_eq_true rfl, Nat.le_of_ble_eq_true rfl⟩ ⟨Nat.zero_le _, Nat.zero_le _⟩ ?_
        refine gw_if_eq C 56 d_Mod_bookLine_49 (by decide) (fun hc => ?_) (fun hc => ?_)
        · replace hf0 := mx_t hc hf0
          refine gw_aload_n C 0 d_Mod_bookLine_56 rfl rfl ?_
          refine gw_ldc2_w C d_Mod_bookLine_57 qw_1156 ?_
          obtain ⟨q60, hq60, hf0⟩ := mx_bd hf0
          refine gw_callI C (c_Mod_isWord _ hg k_o_0 hq60) d_Mod_bookLine_60 1 qw_1328 qw_1330 qs_41 qw_12 qw_1331 k_o_0 (by decide) rfl hd_Mod_isWord rfl rfl (Nat.le_of_ble_eq_true rfl) ⟨rfl, rfl, Nat.le_of_ble_eq_true rfl, Nat.le_of_ble_eq_true rfl⟩ ⟨Nat.zero_le _, Nat.zero_le _⟩ ?_
          refine gw_if_eq C 70 d_Mod_bookLine_63 (by decide) (fun hc => ?_) (fun hc => ?_)
          · replace hf0 := mx_t hc hf0
            refine gw_aload_n C 0 d_Mod_bookLine_70 rfl rfl ?_
            refine gw_ldc2_w C d_Mod_bookLine_71 qw_1164 ?_
            obtain ⟨q74, hq74, hf0⟩ := mx_bd hf0
            refine gw_callI C (c_Mod_isWord _ hg k_o_0 hq74) d_Mod_bookLine_74 1 qw_1328 qw_1330 qs_41 qw_12 qw_1331 k_o_0 (by decide) rfl hd_Mod_isWord rfl rfl (Nat.le_of_ble_eq_true rfl) ⟨rfl, rfl, Nat.le_of_ble_eq_true rfl, Nat.le_of_ble_eq_true rfl⟩ ⟨Nat.zero_le _, Nat.zero_le _⟩ ?_
            refine gw_if_eq C 84 d_Mod_bookLine_77 (by decide) (fun hc => ?_) (fun hc => ?_)
            · replace hf0 := mx_t hc hf0
              refine gw_iconst C ((-1) : Int32) d_Mod_bookLine_84 (by decide) ?_
              exact gw_go [0] (hj85 _ _ hf0) rfl
            · replace hf0 := mx_f hc hf0
              refine gw_iconst C (5 : Int32) d_Mod_bookLine_80 (by decide) ?_
              refine gw_goto C 85 d_Mod_bookLine_81 (by decide) ?_
              exact gw_go [0] (hj85 _ _ hf0) rfl
          · replace hf0 := mx_f hc hf0
            refine gw_iconst C (4 : Int32) d_Mod_bookLine_66 (by decide) ?_
            refine gw_goto C 85 d_Mod_bookLine_67 (by decide) ?_
            exact gw_go [0] (hj85 _ _ hf0) rfl
        · replace hf0 := mx_f hc hf0
          refine gw_iconst C (3 : Int32) d_Mod_bookLine_52 (by decide) ?_
          refine gw_goto C 85 d_Mod_bookLine_53 (by decide) ?_
          exact gw_go [0] (hj85 _ _ hf0) rfl
      · replace hf0 := mx_f hc hf0
        refine gw_iconst C (2 : Int32) d_Mod_bookLine_38 (by decide) ?_
        refine gw_goto C 85 d_Mod_bookLine_39 (by decide) ?_
        exact gw_go [0] (hj85 _ _ hf0) rfl
    · replace hf0 := mx_f hc hf0
      refine gw_iconst C (1 : Int32) d_Mod_bookLine_24 (by decide) ?_
      refine gw_goto C 85 d_Mod_bookLine_25 (by decide) ?_
      exact gw_go [0] (hj85 _ _ hf0) rfl
  · replace hf0 := mx_f hc hf0
    refine gw_iconst C (0 : Int32) d_Mod_bookLine_10 (by decide) ?_
    refine gw_goto C 85 d_Mod_bookLine_11 (by decide) ?_
    exact gw_go [0] (hj85 _ _ hf0) rfl

/-! NameHatModel.book()I -/
abbrev b_Mod_book : ByteArray := prog_14_method_57_code
def y_Mod_book : MethodName := ⟨"NameHatModel", "book", "()I"⟩
abbrev rm_Mod_book : Room := { frames := 4, cells := 0, slots := 0, locals := 87 }
theorem hd_Mod_book : y_Mod_book.cls ≠ "java/lang/invoke/MethodHandle" ∧ y_Mod_book.cls ≠ "java/lang/invoke/VarHandle" ∧ (parseMethodDescriptor y_Mod_book.desc).map (fun d => d.parameters.length) = some 0 := by decide +kernel
theorem d_Mod_book_0 : decode b_Mod_book 0 = .ok (.aload_n 0, 1) := by decide +kernel
theorem d_Mod_book_1 : decode b_Mod_book 1 = .ok (.iconst 0, 1) := by decide +kernel
theorem d_Mod_book_2 : decode b_Mod_book 2 = .ok (.putfield 1, 3) := by decide +kernel
theorem d_Mod_book_5 : decode b_Mod_book 5 = .ok (.aload_n 0, 1) := by decide +kernel
theorem d_Mod_book_6 : decode b_Mod_book 6 = .ok (.sipush 400, 3) := by decide +kernel
theorem d_Mod_book_9 : decode b_Mod_book 9 = .ok (.invokevirtual 229, 3) := by decide +kernel
theorem d_Mod_book_12 : decode b_Mod_book 12 = .ok (.aload_n 0, 1) := by decide +kernel
theorem d_Mod_book_13 : decode b_Mod_book 13 = .ok (.iconst 0, 1) := by decide +kernel
theorem d_Mod_book_14 : decode b_Mod_book 14 = .ok (.putfield 160, 3) := by decide +kernel
theorem d_Mod_book_17 : decode b_Mod_book 17 = .ok (.aload_n 0, 1) := by decide +kernel
theorem d_Mod_book_18 : decode b_Mod_book 18 = .ok (.iconst 0, 1) := by decide +kernel
theorem d_Mod_book_19 : decode b_Mod_book 19 = .ok (.putfield 296, 3) := by decide +kernel
theorem d_Mod_book_22 : decode b_Mod_book 22 = .ok (.aload_n 0, 1) := by decide +kernel
theorem d_Mod_book_23 : decode b_Mod_book 23 = .ok (.invokevirtual 172, 3) := by decide +kernel
theorem d_Mod_book_26 : decode b_Mod_book 26 = .ok (.aload_n 0, 1) := by decide +kernel
theorem d_Mod_book_27 : decode b_Mod_book 27 = .ok (.getfield 143, 3) := by decide +kernel
theorem d_Mod_book_30 : decode b_Mod_book 30 = .ok (.ifCond .eq 39, 3) := by decide +kernel
theorem d_Mod_book_33 : decode b_Mod_book 33 = .ok (.aload_n 0, 1) := by decide +kernel
theorem d_Mod_book_34 : decode b_Mod_book 34 = .ok (.invokevirtual 299, 3) := by decide +kernel
theorem d_Mod_book_37 : decode b_Mod_book 37 = .ok (.ifCond .eq 12, 3) := by decide +kernel
theorem d_Mod_book_40 : decode b_Mod_book 40 = .ok (.aload_n 0, 1) := by decide +kernel
theorem d_Mod_book_41 : decode b_Mod_book 41 = .ok (.bipush 59, 2) := by decide +kernel
theorem d_Mod_book_43 : decode b_Mod_book 43 = .ok (.invokevirtual 238, 3) := by decide +kernel
theorem d_Mod_book_46 : decode b_Mod_book 46 = .ok (.ifCond .ne 10, 3) := by decide +kernel
theorem d_Mod_book_49 : decode b_Mod_book 49 = .ok (.iconst (-1), 1) := by decide +kernel
theorem d_Mod_book_50 : decode b_Mod_book 50 = .ok (.aload_n 0, 1) := by decide +kernel
theorem d_Mod_book_51 : decode b_Mod_book 51 = .ok (.getfield 163, 3) := by decide +kernel
theorem d_Mod_book_54 : decode b_Mod_book 54 = .ok (.isub, 1) := by decide +kernel
theorem d_Mod_book_55 : decode b_Mod_book 55 = .ok (.ireturn, 1) := by decide +kernel
theorem d_Mod_book_56 : decode b_Mod_book 56 = .ok (.aload_n 0, 1) := by decide +kernel
theorem d_Mod_book_57 : decode b_Mod_book 57 = .ok (.dup, 1) := by decide +kernel
theorem d_Mod_book_58 : decode b_Mod_book 58 = .ok (.getfield 296, 3) := by decide +kernel
theorem d_Mod_book_61 : decode b_Mod_book 61 = .ok (.iconst 1, 1) := by decide +kernel
theorem d_Mod_book_62 : decode b_Mod_book 62 = .ok (.iadd, 1) := by decide +kernel
theorem d_Mod_book_63 : decode b_Mod_book 63 = .ok (.putfield 296, 3) := by decide +kernel
theorem d_Mod_book_66 : decode b_Mod_book 66 = .ok (.goto (-40), 3) := by decide +kernel
theorem d_Mod_book_69 : decode b_Mod_book 69 = .ok (.aload_n 0, 1) := by decide +kernel
theorem d_Mod_book_70 : decode b_Mod_book 70 = .ok (.getfield 40, 3) := by decide +kernel
theorem d_Mod_book_73 : decode b_Mod_book 73 = .ok (.iconst 0, 1) := by decide +kernel
theorem d_Mod_book_74 : decode b_Mod_book 74 = .ok (.aload_n 0, 1) := by decide +kernel
theorem d_Mod_book_75 : decode b_Mod_book 75 = .ok (.getfield 296, 3) := by decide +kernel
theorem d_Mod_book_78 : decode b_Mod_book 78 = .ok (.iastore, 1) := by decide +kernel
theorem d_Mod_book_79 : decode b_Mod_book 79 = .ok (.iconst 0, 1) := by decide +kernel
theorem d_Mod_book_80 : decode b_Mod_book 80 = .ok (.istore_n 1, 1) := by decide +kernel
theorem d_Mod_book_81 : decode b_Mod_book 81 = .ok (.iload_n 1, 1) := by decide +kernel
theorem d_Mod_book_82 : decode b_Mod_book 82 = .ok (.iconst 4, 1) := by decide +kernel
theorem d_Mod_book_83 : decode b_Mod_book 83 = .ok (.aload_n 0, 1) := by decide +kernel
theorem d_Mod_book_84 : decode b_Mod_book 84 = .ok (.getfield 296, 3) := by decide +kernel
theorem d_Mod_book_87 : decode b_Mod_book 87 = .ok (.imul, 1) := by decide +kernel
theorem d_Mod_book_88 : decode b_Mod_book 88 = .ok (.if_icmp .gt 25, 3) := by decide +kernel
theorem d_Mod_book_91 : decode b_Mod_book 91 = .ok (.aload_n 0, 1) := by decide +kernel
theorem d_Mod_book_92 : decode b_Mod_book 92 = .ok (.getfield 33, 3) := by decide +kernel
theorem d_Mod_book_95 : decode b_Mod_book 95 = .ok (.sipush 623, 3) := by decide +kernel
theorem d_Mod_book_98 : decode b_Mod_book 98 = .ok (.iload_n 1, 1) := by decide +kernel
theorem d_Mod_book_99 : decode b_Mod_book 99 = .ok (.iadd, 1) := by decide +kernel
theorem d_Mod_book_100 : decode b_Mod_book 100 = .ok (.aload_n 0, 1) := by decide +kernel
theorem d_Mod_book_101 : decode b_Mod_book 101 = .ok (.getfield 40, 3) := by decide +kernel
theorem d_Mod_book_104 : decode b_Mod_book 104 = .ok (.iload_n 1, 1) := by decide +kernel
theorem d_Mod_book_105 : decode b_Mod_book 105 = .ok (.iaload, 1) := by decide +kernel
theorem d_Mod_book_106 : decode b_Mod_book 106 = .ok (.iastore, 1) := by decide +kernel
theorem d_Mod_book_107 : decode b_Mod_book 107 = .ok (.iinc 1 1, 3) := by decide +kernel
theorem d_Mod_book_110 : decode b_Mod_book 110 = .ok (.goto (-29), 3) := by decide +kernel
theorem d_Mod_book_113 : decode b_Mod_book 113 = .ok (.aload_n 0, 1) := by decide +kernel
theorem d_Mod_book_114 : decode b_Mod_book 114 = .ok (.getfield 296, 3) := by decide +kernel
theorem d_Mod_book_117 : decode b_Mod_book 117 = .ok (.ireturn, 1) := by decide +kernel
noncomputable def f_Mod_book_L26 (z : Nat → Nat) (o : Nat) (s26 : Mm) : Option ((Mm) ⊕ ((Int32 × Mm) ⊕ (Mm))) :=
  if (s26.1 o 11) = 0 then (
    some (.inr (.inr s26))
  ) else (
    (f_Mod_bookLine z s26 o).bind fun q34 =>
    if q34.1 = 0 then (
      some (.inr (.inl ((((-1) : Int32) - (q34.2.1 o 16)), q34.2)))
    ) else (
      (f_Mod_sign z q34.2 o (59 : Int32)).bind fun q43 =>
      if q43.1 = 0 then (
        some (.inr (.inl ((((-1) : Int32) - (q43.2.1 o 16)), q43.2)))
      ) else (
        mm_lt (kI q43.2 o 29 ((q43.2.1 o 29) + (1 : Int32))) fun m63 =>
        some (.inl m63)
      )
    )
  )
noncomputable def f_Mod_book_L81 (z : Nat → Nat) (o : Nat) (s81 : Int32 × Mm) : Option ((Int32 × Mm) ⊕ (Mm)) :=
  if ((4 : Int32) * (s81.2.1 o 29)) < s81.1 then (
    some (.inr s81.2)
  ) else (
    (mm_ldI (s81.2.1 (o + 4)) (z (o + 4)) s81.1).bind fun x105 =>
    (mm_stI s81.2 (o + 2) (z (o + 2)) ((623 : Int32) + s81.1) x105).bind fun m106 =>
    mm_lt (s81.1 + (1 : Int32)) fun x107 =>
    some (.inl (x107, m106))
  )
noncomputable def f_Mod_book (z : Nat → Nat) (σ : Mm) (o : Nat) : Option (Int32 × Mm) :=
  mm_lt (kI σ o 0 (0 : Int32)) fun m2 =>
  (f_Mod_taken z m2 o (400 : Int32)).bind fun q9 =>
  mm_lt (kI q9 o 15 (0 : Int32)) fun m14 =>
  mm_lt (kI m14 o 29 (0 : Int32)) fun m19 =>
  (f_Mod_next z m19 o).bind fun q23 =>
  (mm_lp (f_Mod_book_L26 z o) q23).bind (Sum.elim (fun r9 => some r9) (fun x26_ =>
    (mm_stI x26_ (o + 4) (z (o + 4)) (0 : Int32) (x26_.1 o 29)).bind fun m78 =>
    (mm_lp (f_Mod_book_L81 z o) ((0 : Int32), m78)).bind (fun q81 =>
      some ((q81.1 o 29), q81))))
set_option maxHeartbeats 4000000 in
set_option maxRecDepth 100000 in
theorem c_Mod_book (l : Launch) {L : Ly} (hg : gd_ok L) {σ : Mm} {o : Nat} (k_o_0 : ly_k L o = 11) {res : Int32 × Mm} (hf0 : f_Mod_book (ly_z L) σ o = some res) : CtI l y_Mod_book b_Mod_book 2 (some .int) rm_Mod_book L [.ref (ly_a L o)] σ res.1 res.2 := by
  refine ct_i hg (by decide) (Nat.le_of_ble_eq_true rfl) ?_
  intro E A Q hE C hN
  subst hE
  have k_o_4 : ly_k L (o + 4) = 20 := gd_Mod_read hg k_o_0
  have k_o_2 : ly_k L (o + 2) = 20 := gd_Mod_s hg k_o_0
  unfold f_Mod_book at hf0
  show GW E L A 2 0 0 Q σ 0 [(0, .ref (ly_a L o))] []
  refine gw_aload_n C 0 d_Mod_book_0 rfl rfl ?_
  refine gw_iconst C (0 : Int32) d_Mod_book_1 (by decide) ?_
  obtain ⟨m2, em2, hf0⟩ := mx_lt hf0
  refine gw_putI t_Mod C 0 d_Mod_book_2 k_o_0 (by decide) i_Mod rfl rfl (by decide) qw_1165 rfl rfl t_Mod_ok n_Mod rfl (t_Mod_ok 0 (by decide)) rfl rfl em2 ?_
  refine gw_aload_n C 0 d_Mod_book_5 rfl rfl ?_
  refine gw_sipush C (400 : Int32) d_Mod_book_6 (by decide) ?_
  obtain ⟨q9, hq9, hf0⟩ := mx_bd hf0
  refine gw_callV C (c_Mod_taken _ hg k_o_0 hq9) d_Mod_book_9 1 qw_1306 qw_1308 qs_37 qw_12 qw_1309 k_o_0 (by decide) rfl hd_Mod_taken rfl rfl (Nat.le_of_ble_eq_true rfl) ⟨rfl, rfl, Nat.le_of_ble_eq_true rfl, Nat.le_of_ble_eq_true rfl⟩ ⟨Nat.zero_le _, Nat.zero_le _⟩ ?_
  refine gw_aload_n C 0 d_Mod_book_12 rfl rfl ?_
  refine gw_iconst C (0 : Int32) d_Mod_book_13 (by decide) ?_
  obtain ⟨m14, em14, hf0⟩ := mx_lt hf0
  refine gw_putI t_Mod C 15 d_Mod_book_14 k_o_0 (by decide) i_Mod rfl rfl (by decide) qw_1180 rfl rfl t_Mod_ok n_Mod rfl (t_Mod_ok 15 (by decide)) rfl rfl em14 ?_
  refine gw_aload_n C 0 d_Mod_book_17 rfl rfl ?_
  refine gw_iconst C (0 : Int32) d_Mod_book_18 (by decide) ?_
  obtain ⟨m19, em19, hf0⟩ := mx_lt hf0
  refine gw_putI t_Mod C 29 d_Mod_book_19 k_o_0 (by decide) i_Mod rfl rfl (by decide) qw_1194 rfl rfl t_Mod_ok n_Mod rfl (t_Mod_ok 29 (by decide)) rfl rfl em19 ?_
  refine gw_aload_n C 0 d_Mod_book_22 rfl rfl ?_
  obtain ⟨q23, hq23, hf0⟩ := mx_bd hf0
  refine gw_callV C (c_Mod_next _ hg k_o_0 hq23) d_Mod_book_23 0 qw_1310 qw_1312 qs_38 qw_12 qw_1313 k_o_0 (by decide) rfl hd_Mod_next rfl rfl (Nat.le_of_ble_eq_true rfl) ⟨rfl, rfl, Nat.le_of_ble_eq_true rfl, Nat.le_of_ble_eq_true rfl⟩ ⟨Nat.zero_le _, Nat.zero_le _⟩ ?_
  obtain ⟨q26, hq26, hf0⟩ := mx_bd hf0
  have hk26 : ∀ x26_, q26 = .inr x26_ → GW E L A 2 0 0 Q x26_ 69 [(0, .ref (ly_a L o))] [] := by
    intro x26_ hx9
    subst hx9
    replace hf0 := mx_sr hf0
    refine gw_aload_n C 0 d_Mod_book_69 rfl rfl ?_
    refine gw_getA C 8 d_Mod_book_70 k_o_0 (by decide) i_Mod rfl rfl (by decide) qw_1173 rfl rfl (o + 4) rfl ?_
    refine gw_iconst C (0 : Int32) d_Mod_book_73 (by decide) ?_
    refine gw_aload_n C 0 d_Mod_book_74 rfl rfl ?_
    refine gw_getI C 29 d_Mod_book_75 k_o_0 (by decide) i_Mod rfl rfl (by decide) qw_1194 rfl rfl ?_
    obtain ⟨m78, hm78, hf0⟩ := mx_bd hf0
    obtain ⟨gm78, em78⟩ := mx_stI hm78
    refine gw_iast C d_Mod_book_78 k_o_4 gm78 em78 ?_
    refine gw_iconst C (0 : Int32) d_Mod_book_79 (by decide) ?_
    refine gw_istore_n C [(1, .int (0 : Int32)), (0, .ref (ly_a L o))] d_Mod_book_80 rfl (by decide) rfl ?_
    obtain ⟨q81, hq81, hf0⟩ := mx_bd hf0
    have hk81 : ∀ x9, q81 = x9 → GW E L A 2 0 0 Q x9 113 [(0, .ref (ly_a L o))] [] := by
      intro x9 hx9
      subst hx9
      refine gw_aload_n C 0 d_Mod_book_113 rfl rfl ?_
      refine gw_getI C 29 d_Mod_book_114 k_o_0 (by decide) i_Mod rfl rfl (by decide) qw_1194 rfl rfl ?_
      exact en_i hN hf0 d_Mod_book_117
    refine gw_sub [1, 0] (lv' := [(0, .ref (ly_a L o)), (1, .int (0 : Int32))]) rfl ?_
    refine mm_rule hq81 (P := fun (s81 : Int32 × Mm) => GW E L A 2 0 0 Q s81.2 81 [(0, .ref (ly_a L o)), (1, .int s81.1)] []) ?_
    intro s81 ih81 hx81 ⟨w81, hb81⟩
    have hf1 := hb81
    unfold f_Mod_book_L81 at hf1
    refine gw_iload_n C 1 d_Mod_book_81 rfl rfl ?_
    refine gw_iconst C (4 : Int32) d_Mod_book_82 (by decide) ?_
    refine gw_aload_n C 0 d_Mod_book_83 rfl rfl ?_
    refine gw_getI C 29 d_Mod_book_84 k_o_0 (by decide) i_Mod rfl rfl (by decide) qw_1194 rfl rfl ?_
    refine gw_imul C d_Mod_book_87 ?_
    refine gw_icmp_gt C 113 d_Mod_book_88 (by decide) (fun hc => ?_) (fun hc => ?_)
    · replace hf1 := mx_t hc hf1
      exact gw_go [0] (hk81 s81.2 (hx81 _ (hb81.trans hf1.symm)).symm) rfl
    · replace hf1 := mx_f hc hf1
      refine gw_aload_n C 0 d_Mod_book_91 rfl rfl ?_
      refine gw_getA C 6 d_Mod_book_92 k_o_0 (by decide) i_Mod rfl rfl (by decide) qw_1171 rfl rfl (o + 2) rfl ?_
      refine gw_sipush C (623 : Int32) d_Mod_book_95 (by decide) ?_
      refine gw_iload_n C 1 d_Mod_book_98 rfl rfl ?_
      refine gw_iadd C d_Mod_book_99 ?_
      refine gw_aload_n C 0 d_Mod_book_100 rfl rfl ?_
      refine gw_getA C 8 d_Mod_book_101 k_o_0 (by decide) i_Mod rfl rfl (by decide) qw_1173 rfl rfl (o + 4) rfl ?_
      refine gw_iload_n C 1 d_Mod_book_104 rfl rfl ?_
      obtain ⟨x105, hx105, hf1⟩ := mx_bd hf1
      obtain ⟨gx105, ex105⟩ := mx_ldI hx105
      refine gw_iald C d_Mod_book_105 k_o_4 gx105 ex105 ?_
      obtain ⟨m106, hm106, hf1⟩ := mx_bd hf1
      obtain ⟨gm106, em106⟩ := mx_stI hm106
      refine gw_iast C d_Mod_book_106 k_o_2 gm106 em106 ?_
      obtain ⟨x107, ex107, hf1⟩ := mx_lt hf1
      refine gw_iinc C 1 [(1, .int x107), (0, .ref (ly_a L o))] d_Mod_book_107 rfl (by rw [ex107]; rfl) (by decide) rfl ?_
      refine gw_goto C 81 d_Mod_book_110 (by decide) ?_
      exact gw_go [1, 0] (ih81 (x107, m106) (hb81.trans hf1.symm)) rfl
  refine gw_sub [0] (lv' := [(0, .ref (ly_a L o))]) rfl ?_
  refine mm_rule hq26 (P := fun (s26 : Mm) => GW E L A 2 0 0 Q s26 26 [(0, .ref (ly_a L o))] []) ?_
  intro s26 ih26 hx26 ⟨w26, hb26⟩
  have hf1 := hb26
  unfold f_Mod_book_L26 at hf1
  refine gw_aload_n C 0 d_Mod_book_26 rfl rfl ?_
  refine gw_getI C 11 d_Mod_book_27 k_o_0 (by decide) i_Mod rfl rfl (by decide) qw_1176 rfl rfl ?_
  refine gw_if_eq C 69 d_Mod_book_30 (by decide) (fun hc => ?_) (fun hc => ?_)
  · replace hf1 := mx_t hc hf1
    exact gw_go [0] (hk26 s26 (hx26 _ (hb26.trans hf1.symm)).symm) rfl
  · replace hf1 := mx_f hc hf1
    refine gw_aload_n C 0 d_Mod_book_33 rfl rfl ?_
    obtain ⟨q34, hq34, hf1⟩ := mx_bd hf1
    refine gw_callI C (c_Mod_bookLine _ hg k_o_0 hq34) d_Mod_book_34 0 qw_1498 qw_1500 qs_69 qw_12 qw_1501 k_o_0 (by decide) rfl hd_Mod_bookLine rfl rfl (Nat.le_of_ble_eq_true rfl) ⟨rfl, rfl, Nat.le_of_ble_eq_true rfl, Nat.le_of_ble_eq_true rfl⟩ ⟨Nat.zero_le _, Nat.zero_le _⟩ ?_
    refine gw_if_eq C 49 d_Mod_book_37 (by decide) (fun hc => ?_) (fun hc => ?_)
    · replace hf1 := mx_t hc hf1
      refine gw_iconst C ((-1) : Int32) d_Mod_book_49 (by decide) ?_
      refine gw_aload_n C 0 d_Mod_book_50 rfl rfl ?_
      refine gw_getI C 16 d_Mod_book_51 k_o_0 (by decide) i_Mod rfl rfl (by decide) qw_1181 rfl rfl ?_
      refine gw_isub C d_Mod_book_54 ?_
      have hr26 := hx26 _ (hb26.trans hf1.symm)
      subst hr26
      replace hf0 := mx_sl hf0
      exact en_i hN hf0 d_Mod_book_55
    · replace hf1 := mx_f hc hf1
      refine gw_aload_n C 0 d_Mod_book_40 rfl rfl ?_
      refine gw_bipush C (59 : Int32) d_Mod_book_41 (by decide) ?_
      obtain ⟨q43, hq43, hf1⟩ := mx_bd hf1
      refine gw_callI C (c_Mod_sign _ hg k_o_0 hq43) d_Mod_book_43 1 qw_1378 qw_1380 qs_52 qw_12 qw_1381 k_o_0 (by decide) rfl hd_Mod_sign rfl rfl (Nat.le_of_ble_eq_true rfl) ⟨rfl, rfl, Nat.le_of_ble_eq_true rfl, Nat.le_of_ble_eq_true rfl⟩ ⟨Nat.zero_le _, Nat.zero_le _⟩ ?_
      refine gw_if_ne C 56 d_Mod_book_46 (by decide) (fun hc => ?_) (fun hc => ?_)
      · replace hf1 := mx_f hc hf1
        refine gw_aload_n C 0 d_Mod_book_56 rfl rfl ?_
        refine gw_dup C d_Mod_book_57 rfl ?_
        refine gw_getI C 29 d_Mod_book_58 k_o_0 (by decide) i_Mod rfl rfl (by decide) qw_1194 rfl rfl ?_
        refine gw_iconst C (1 : Int32) d_Mod_book_61 (by decide) ?_
        refine gw_iadd C d_Mod_book_62 ?_
        obtain ⟨m63, em63, hf1⟩ := mx_lt hf1
        refine gw_putI t_Mod C 29 d_Mod_book_63 k_o_0 (by decide) i_Mod rfl rfl (by decide) qw_1194 rfl rfl t_Mod_ok n_Mod rfl (t_Mod_ok 29 (by decide)) rfl rfl em63 ?_
        refine gw_goto C 26 d_Mod_book_66 (by decide) ?_
        exact gw_go [0] (ih26 m63 (hb26.trans hf1.symm)) rfl
      · replace hf1 := mx_t hc hf1
        refine gw_iconst C ((-1) : Int32) d_Mod_book_49 (by decide) ?_
        refine gw_aload_n C 0 d_Mod_book_50 rfl rfl ?_
        refine gw_getI C 16 d_Mod_book_51 k_o_0 (by decide) i_Mod rfl rfl (by decide) qw_1181 rfl rfl ?_
        refine gw_isub C d_Mod_book_54 ?_
        have hr26 := hx26 _ (hb26.trans hf1.symm)
        subst hr26
        replace hf0 := mx_sl hf0
        exact en_i hN hf0 d_Mod_book_55

/-! NameHatModel.does(III)I -/
abbrev b_Mod_does : ByteArray := prog_14_method_58_code
def y_Mod_does : MethodName := ⟨"NameHatModel", "does", "(III)I"⟩
abbrev rm_Mod_does : Room := { frames := 3, cells := 0, slots := 0, locals := 76 }
theorem hd_Mod_does : y_Mod_does.cls ≠ "java/lang/invoke/MethodHandle" ∧ y_Mod_does.cls ≠ "java/lang/invoke/VarHandle" ∧ (parseMethodDescriptor y_Mod_does.desc).map (fun d => d.parameters.length) = some 3 := by decide +kernel
theorem d_Mod_does_0 : decode b_Mod_does 0 = .ok (.aload_n 0, 1) := by decide +kernel
theorem d_Mod_does_1 : decode b_Mod_does 1 = .ok (.getfield 33, 3) := by decide +kernel
theorem d_Mod_does_4 : decode b_Mod_does 4 = .ok (.bipush 123, 2) := by decide +kernel
theorem d_Mod_does_6 : decode b_Mod_does 6 = .ok (.iload_n 2, 1) := by decide +kernel
theorem d_Mod_does_7 : decode b_Mod_does 7 = .ok (.iadd, 1) := by decide +kernel
theorem d_Mod_does_8 : decode b_Mod_does 8 = .ok (.iaload, 1) := by decide +kernel
theorem d_Mod_does_9 : decode b_Mod_does 9 = .ok (.istore 4, 2) := by decide +kernel
theorem d_Mod_does_11 : decode b_Mod_does 11 = .ok (.iload_n 1, 1) := by decide +kernel
theorem d_Mod_does_12 : decode b_Mod_does 12 = .ok (.iconst 5, 1) := by decide +kernel
theorem d_Mod_does_13 : decode b_Mod_does 13 = .ok (.if_icmp .ne 10, 3) := by decide +kernel
theorem d_Mod_does_16 : decode b_Mod_does 16 = .ok (.aload_n 0, 1) := by decide +kernel
theorem d_Mod_does_17 : decode b_Mod_does 17 = .ok (.invokevirtual 293, 3) := by decide +kernel
theorem d_Mod_does_20 : decode b_Mod_does 20 = .ok (.pop, 1) := by decide +kernel
theorem d_Mod_does_21 : decode b_Mod_does 21 = .ok (.iconst 0, 1) := by decide +kernel
theorem d_Mod_does_22 : decode b_Mod_does 22 = .ok (.ireturn, 1) := by decide +kernel
theorem d_Mod_does_23 : decode b_Mod_does 23 = .ok (.iload_n 1, 1) := by decide +kernel
theorem d_Mod_does_24 : decode b_Mod_does 24 = .ok (.iconst 4, 1) := by decide +kernel
theorem d_Mod_does_25 : decode b_Mod_does 25 = .ok (.if_icmp .ne 91, 3) := by decide +kernel
theorem d_Mod_does_28 : decode b_Mod_does 28 = .ok (.aload_n 0, 1) := by decide +kernel
theorem d_Mod_does_29 : decode b_Mod_does 29 = .ok (.getfield 33, 3) := by decide +kernel
theorem d_Mod_does_32 : decode b_Mod_does 32 = .ok (.bipush 115, 2) := by decide +kernel
theorem d_Mod_does_34 : decode b_Mod_does 34 = .ok (.iload_n 2, 1) := by decide +kernel
theorem d_Mod_does_35 : decode b_Mod_does 35 = .ok (.iadd, 1) := by decide +kernel
theorem d_Mod_does_36 : decode b_Mod_does 36 = .ok (.iaload, 1) := by decide +kernel
theorem d_Mod_does_37 : decode b_Mod_does 37 = .ok (.iload_n 3, 1) := by decide +kernel
theorem d_Mod_does_38 : decode b_Mod_does 38 = .ok (.if_icmp .ne 5, 3) := by decide +kernel
theorem d_Mod_does_41 : decode b_Mod_does 41 = .ok (.iconst 5, 1) := by decide +kernel
theorem d_Mod_does_42 : decode b_Mod_does 42 = .ok (.ireturn, 1) := by decide +kernel
theorem d_Mod_does_43 : decode b_Mod_does 43 = .ok (.iconst 0, 1) := by decide +kernel
theorem d_Mod_does_44 : decode b_Mod_does 44 = .ok (.istore 5, 2) := by decide +kernel
theorem d_Mod_does_46 : decode b_Mod_does 46 = .ok (.iconst 0, 1) := by decide +kernel
theorem d_Mod_does_47 : decode b_Mod_does 47 = .ok (.istore 6, 2) := by decide +kernel
theorem d_Mod_does_49 : decode b_Mod_does 49 = .ok (.iload 6, 2) := by decide +kernel
theorem d_Mod_does_51 : decode b_Mod_does 51 = .ok (.aload_n 0, 1) := by decide +kernel
theorem d_Mod_does_52 : decode b_Mod_does 52 = .ok (.getfield 33, 3) := by decide +kernel
theorem d_Mod_does_55 : decode b_Mod_does 55 = .ok (.iconst 1, 1) := by decide +kernel
theorem d_Mod_does_56 : decode b_Mod_does 56 = .ok (.iaload, 1) := by decide +kernel
theorem d_Mod_does_57 : decode b_Mod_does 57 = .ok (.if_icmp .ge 33, 3) := by decide +kernel
theorem d_Mod_does_60 : decode b_Mod_does 60 = .ok (.iload 5, 2) := by decide +kernel
theorem d_Mod_does_62 : decode b_Mod_does 62 = .ok (.aload_n 0, 1) := by decide +kernel
theorem d_Mod_does_63 : decode b_Mod_does 63 = .ok (.getfield 33, 3) := by decide +kernel
theorem d_Mod_does_66 : decode b_Mod_does 66 = .ok (.bipush 115, 2) := by decide +kernel
theorem d_Mod_does_68 : decode b_Mod_does 68 = .ok (.iload 6, 2) := by decide +kernel
theorem d_Mod_does_70 : decode b_Mod_does 70 = .ok (.iadd, 1) := by decide +kernel
theorem d_Mod_does_71 : decode b_Mod_does 71 = .ok (.iaload, 1) := by decide +kernel
theorem d_Mod_does_72 : decode b_Mod_does 72 = .ok (.iload_n 3, 1) := by decide +kernel
theorem d_Mod_does_73 : decode b_Mod_does 73 = .ok (.if_icmp .ne 7, 3) := by decide +kernel
theorem d_Mod_does_76 : decode b_Mod_does 76 = .ok (.iconst 1, 1) := by decide +kernel
theorem d_Mod_does_77 : decode b_Mod_does 77 = .ok (.goto 4, 3) := by decide +kernel
theorem d_Mod_does_80 : decode b_Mod_does 80 = .ok (.iconst 0, 1) := by decide +kernel
theorem d_Mod_does_81 : decode b_Mod_does 81 = .ok (.iadd, 1) := by decide +kernel
theorem d_Mod_does_82 : decode b_Mod_does 82 = .ok (.istore 5, 2) := by decide +kernel
theorem d_Mod_does_84 : decode b_Mod_does 84 = .ok (.iinc 6 1, 3) := by decide +kernel
theorem d_Mod_does_87 : decode b_Mod_does 87 = .ok (.goto (-38), 3) := by decide +kernel
theorem d_Mod_does_90 : decode b_Mod_does 90 = .ok (.iload 5, 2) := by decide +kernel
theorem d_Mod_does_92 : decode b_Mod_does 92 = .ok (.aload_n 0, 1) := by decide +kernel
theorem d_Mod_does_93 : decode b_Mod_does 93 = .ok (.getfield 33, 3) := by decide +kernel
theorem d_Mod_does_96 : decode b_Mod_does 96 = .ok (.iconst 3, 1) := by decide +kernel
theorem d_Mod_does_97 : decode b_Mod_does 97 = .ok (.iaload, 1) := by decide +kernel
theorem d_Mod_does_98 : decode b_Mod_does 98 = .ok (.if_icmp .lt 6, 3) := by decide +kernel
theorem d_Mod_does_101 : decode b_Mod_does 101 = .ok (.bipush 6, 2) := by decide +kernel
theorem d_Mod_does_103 : decode b_Mod_does 103 = .ok (.ireturn, 1) := by decide +kernel
theorem d_Mod_does_104 : decode b_Mod_does 104 = .ok (.aload_n 0, 1) := by decide +kernel
theorem d_Mod_does_105 : decode b_Mod_does 105 = .ok (.getfield 33, 3) := by decide +kernel
theorem d_Mod_does_108 : decode b_Mod_does 108 = .ok (.bipush 115, 2) := by decide +kernel
theorem d_Mod_does_110 : decode b_Mod_does 110 = .ok (.iload_n 2, 1) := by decide +kernel
theorem d_Mod_does_111 : decode b_Mod_does 111 = .ok (.iadd, 1) := by decide +kernel
theorem d_Mod_does_112 : decode b_Mod_does 112 = .ok (.iload_n 3, 1) := by decide +kernel
theorem d_Mod_does_113 : decode b_Mod_does 113 = .ok (.iastore, 1) := by decide +kernel
theorem d_Mod_does_114 : decode b_Mod_does 114 = .ok (.iconst 0, 1) := by decide +kernel
theorem d_Mod_does_115 : decode b_Mod_does 115 = .ok (.ireturn, 1) := by decide +kernel
theorem d_Mod_does_116 : decode b_Mod_does 116 = .ok (.iload_n 1, 1) := by decide +kernel
theorem d_Mod_does_117 : decode b_Mod_does 117 = .ok (.iconst 3, 1) := by decide +kernel
theorem d_Mod_does_118 : decode b_Mod_does 118 = .ok (.if_icmp .ne 47, 3) := by decide +kernel
theorem d_Mod_does_121 : decode b_Mod_does 121 = .ok (.iload 4, 2) := by decide +kernel
theorem d_Mod_does_123 : decode b_Mod_does 123 = .ok (.ifCond .lt 5, 3) := by decide +kernel
theorem d_Mod_does_126 : decode b_Mod_does 126 = .ok (.iconst 1, 1) := by decide +kernel
theorem d_Mod_does_127 : decode b_Mod_does 127 = .ok (.ireturn, 1) := by decide +kernel
theorem d_Mod_does_128 : decode b_Mod_does 128 = .ok (.aload_n 0, 1) := by decide +kernel
theorem d_Mod_does_129 : decode b_Mod_does 129 = .ok (.getfield 33, 3) := by decide +kernel
theorem d_Mod_does_132 : decode b_Mod_does 132 = .ok (.bipush 15, 2) := by decide +kernel
theorem d_Mod_does_134 : decode b_Mod_does 134 = .ok (.iload_n 3, 1) := by decide +kernel
theorem d_Mod_does_135 : decode b_Mod_does 135 = .ok (.iadd, 1) := by decide +kernel
theorem d_Mod_does_136 : decode b_Mod_does 136 = .ok (.iaload, 1) := by decide +kernel
theorem d_Mod_does_137 : decode b_Mod_does 137 = .ok (.iconst 2, 1) := by decide +kernel
theorem d_Mod_does_138 : decode b_Mod_does 138 = .ok (.if_icmp .ne 5, 3) := by decide +kernel
theorem d_Mod_does_141 : decode b_Mod_does 141 = .ok (.iconst 2, 1) := by decide +kernel
theorem d_Mod_does_142 : decode b_Mod_does 142 = .ok (.ireturn, 1) := by decide +kernel
theorem d_Mod_does_143 : decode b_Mod_does 143 = .ok (.aload_n 0, 1) := by decide +kernel
theorem d_Mod_does_144 : decode b_Mod_does 144 = .ok (.iload_n 3, 1) := by decide +kernel
theorem d_Mod_does_145 : decode b_Mod_does 145 = .ok (.invokevirtual 248, 3) := by decide +kernel
theorem d_Mod_does_148 : decode b_Mod_does 148 = .ok (.ifCond .lt 5, 3) := by decide +kernel
theorem d_Mod_does_151 : decode b_Mod_does 151 = .ok (.iconst 4, 1) := by decide +kernel
theorem d_Mod_does_152 : decode b_Mod_does 152 = .ok (.ireturn, 1) := by decide +kernel
theorem d_Mod_does_153 : decode b_Mod_does 153 = .ok (.aload_n 0, 1) := by decide +kernel
theorem d_Mod_does_154 : decode b_Mod_does 154 = .ok (.getfield 33, 3) := by decide +kernel
theorem d_Mod_does_157 : decode b_Mod_does 157 = .ok (.bipush 123, 2) := by decide +kernel
theorem d_Mod_does_159 : decode b_Mod_does 159 = .ok (.iload_n 2, 1) := by decide +kernel
theorem d_Mod_does_160 : decode b_Mod_does 160 = .ok (.iadd, 1) := by decide +kernel
theorem d_Mod_does_161 : decode b_Mod_does 161 = .ok (.iload_n 3, 1) := by decide +kernel
theorem d_Mod_does_162 : decode b_Mod_does 162 = .ok (.iastore, 1) := by decide +kernel
theorem d_Mod_does_163 : decode b_Mod_does 163 = .ok (.iconst 0, 1) := by decide +kernel
theorem d_Mod_does_164 : decode b_Mod_does 164 = .ok (.ireturn, 1) := by decide +kernel
theorem d_Mod_does_165 : decode b_Mod_does 165 = .ok (.iload 4, 2) := by decide +kernel
theorem d_Mod_does_167 : decode b_Mod_does 167 = .ok (.ifCond .lt 46, 3) := by decide +kernel
theorem d_Mod_does_170 : decode b_Mod_does 170 = .ok (.iload_n 1, 1) := by decide +kernel
theorem d_Mod_does_171 : decode b_Mod_does 171 = .ok (.iconst 2, 1) := by decide +kernel
theorem d_Mod_does_172 : decode b_Mod_does 172 = .ok (.if_icmp .eq 8, 3) := by decide +kernel
theorem d_Mod_does_175 : decode b_Mod_does 175 = .ok (.iload_n 2, 1) := by decide +kernel
theorem d_Mod_does_176 : decode b_Mod_does 176 = .ok (.iload_n 3, 1) := by decide +kernel
theorem d_Mod_does_177 : decode b_Mod_does 177 = .ok (.if_icmp .eq 36, 3) := by decide +kernel
theorem d_Mod_does_180 : decode b_Mod_does 180 = .ok (.iload_n 1, 1) := by decide +kernel
theorem d_Mod_does_181 : decode b_Mod_does 181 = .ok (.ifCond .ne 15, 3) := by decide +kernel
theorem d_Mod_does_184 : decode b_Mod_does 184 = .ok (.aload_n 0, 1) := by decide +kernel
theorem d_Mod_does_185 : decode b_Mod_does 185 = .ok (.getfield 33, 3) := by decide +kernel
theorem d_Mod_does_188 : decode b_Mod_does 188 = .ok (.bipush 123, 2) := by decide +kernel
theorem d_Mod_does_190 : decode b_Mod_does 190 = .ok (.iload_n 3, 1) := by decide +kernel
theorem d_Mod_does_191 : decode b_Mod_does 191 = .ok (.iadd, 1) := by decide +kernel
theorem d_Mod_does_192 : decode b_Mod_does 192 = .ok (.iaload, 1) := by decide +kernel
theorem d_Mod_does_193 : decode b_Mod_does 193 = .ok (.ifCond .lt 20, 3) := by decide +kernel
theorem d_Mod_does_196 : decode b_Mod_does 196 = .ok (.iload_n 1, 1) := by decide +kernel
theorem d_Mod_does_197 : decode b_Mod_does 197 = .ok (.iconst 1, 1) := by decide +kernel
theorem d_Mod_does_198 : decode b_Mod_does 198 = .ok (.if_icmp .ne 17, 3) := by decide +kernel
theorem d_Mod_does_201 : decode b_Mod_does 201 = .ok (.aload_n 0, 1) := by decide +kernel
theorem d_Mod_does_202 : decode b_Mod_does 202 = .ok (.getfield 33, 3) := by decide +kernel
theorem d_Mod_does_205 : decode b_Mod_does 205 = .ok (.bipush 123, 2) := by decide +kernel
theorem d_Mod_does_207 : decode b_Mod_does 207 = .ok (.iload_n 3, 1) := by decide +kernel
theorem d_Mod_does_208 : decode b_Mod_does 208 = .ok (.iadd, 1) := by decide +kernel
theorem d_Mod_does_209 : decode b_Mod_does 209 = .ok (.iaload, 1) := by decide +kernel
theorem d_Mod_does_210 : decode b_Mod_does 210 = .ok (.ifCond .lt 5, 3) := by decide +kernel
theorem d_Mod_does_213 : decode b_Mod_does 213 = .ok (.iconst 1, 1) := by decide +kernel
theorem d_Mod_does_214 : decode b_Mod_does 214 = .ok (.ireturn, 1) := by decide +kernel
theorem d_Mod_does_215 : decode b_Mod_does 215 = .ok (.aload_n 0, 1) := by decide +kernel
theorem d_Mod_does_216 : decode b_Mod_does 216 = .ok (.iload_n 2, 1) := by decide +kernel
theorem d_Mod_does_217 : decode b_Mod_does 217 = .ok (.invokevirtual 274, 3) := by decide +kernel
theorem d_Mod_does_220 : decode b_Mod_does 220 = .ok (.ifCond .ne 15, 3) := by decide +kernel
theorem d_Mod_does_223 : decode b_Mod_does 223 = .ok (.iload_n 1, 1) := by decide +kernel
theorem d_Mod_does_224 : decode b_Mod_does 224 = .ok (.ifCond .ne 13, 3) := by decide +kernel
theorem d_Mod_does_227 : decode b_Mod_does 227 = .ok (.aload_n 0, 1) := by decide +kernel
theorem d_Mod_does_228 : decode b_Mod_does 228 = .ok (.iload_n 3, 1) := by decide +kernel
theorem d_Mod_does_229 : decode b_Mod_does 229 = .ok (.invokevirtual 274, 3) := by decide +kernel
theorem d_Mod_does_232 : decode b_Mod_does 232 = .ok (.ifCond .eq 5, 3) := by decide +kernel
theorem d_Mod_does_235 : decode b_Mod_does 235 = .ok (.iconst 2, 1) := by decide +kernel
theorem d_Mod_does_236 : decode b_Mod_does 236 = .ok (.ireturn, 1) := by decide +kernel
theorem d_Mod_does_237 : decode b_Mod_does 237 = .ok (.iload_n 1, 1) := by decide +kernel
theorem d_Mod_does_238 : decode b_Mod_does 238 = .ok (.ifCond .ne 53, 3) := by decide +kernel
theorem d_Mod_does_241 : decode b_Mod_does 241 = .ok (.aload_n 0, 1) := by decide +kernel
theorem d_Mod_does_242 : decode b_Mod_does 242 = .ok (.iload_n 2, 1) := by decide +kernel
theorem d_Mod_does_243 : decode b_Mod_does 243 = .ok (.aload_n 0, 1) := by decide +kernel
theorem d_Mod_does_244 : decode b_Mod_does 244 = .ok (.getfield 33, 3) := by decide +kernel
theorem d_Mod_does_247 : decode b_Mod_does 247 = .ok (.bipush 123, 2) := by decide +kernel
theorem d_Mod_does_249 : decode b_Mod_does 249 = .ok (.iload_n 3, 1) := by decide +kernel
theorem d_Mod_does_250 : decode b_Mod_does 250 = .ok (.iadd, 1) := by decide +kernel
theorem d_Mod_does_251 : decode b_Mod_does 251 = .ok (.iaload, 1) := by decide +kernel
theorem d_Mod_does_252 : decode b_Mod_does 252 = .ok (.invokevirtual 255, 3) := by decide +kernel
theorem d_Mod_does_255 : decode b_Mod_does 255 = .ok (.aload_n 0, 1) := by decide +kernel
theorem d_Mod_does_256 : decode b_Mod_does 256 = .ok (.iload_n 2, 1) := by decide +kernel
theorem d_Mod_does_257 : decode b_Mod_does 257 = .ok (.iload 4, 2) := by decide +kernel
theorem d_Mod_does_259 : decode b_Mod_does 259 = .ok (.invokevirtual 255, 3) := by decide +kernel
theorem d_Mod_does_262 : decode b_Mod_does 262 = .ok (.if_icmp .lt 27, 3) := by decide +kernel
theorem d_Mod_does_265 : decode b_Mod_does 265 = .ok (.aload_n 0, 1) := by decide +kernel
theorem d_Mod_does_266 : decode b_Mod_does 266 = .ok (.iload_n 3, 1) := by decide +kernel
theorem d_Mod_does_267 : decode b_Mod_does 267 = .ok (.iload 4, 2) := by decide +kernel
theorem d_Mod_does_269 : decode b_Mod_does 269 = .ok (.invokevirtual 255, 3) := by decide +kernel
theorem d_Mod_does_272 : decode b_Mod_does 272 = .ok (.aload_n 0, 1) := by decide +kernel
theorem d_Mod_does_273 : decode b_Mod_does 273 = .ok (.iload_n 3, 1) := by decide +kernel
theorem d_Mod_does_274 : decode b_Mod_does 274 = .ok (.aload_n 0, 1) := by decide +kernel
theorem d_Mod_does_275 : decode b_Mod_does 275 = .ok (.getfield 33, 3) := by decide +kernel
theorem d_Mod_does_278 : decode b_Mod_does 278 = .ok (.bipush 123, 2) := by decide +kernel
theorem d_Mod_does_280 : decode b_Mod_does 280 = .ok (.iload_n 3, 1) := by decide +kernel
theorem d_Mod_does_281 : decode b_Mod_does 281 = .ok (.iadd, 1) := by decide +kernel
theorem d_Mod_does_282 : decode b_Mod_does 282 = .ok (.iaload, 1) := by decide +kernel
theorem d_Mod_does_283 : decode b_Mod_does 283 = .ok (.invokevirtual 255, 3) := by decide +kernel
theorem d_Mod_does_286 : decode b_Mod_does 286 = .ok (.if_icmp .ge 5, 3) := by decide +kernel
theorem d_Mod_does_289 : decode b_Mod_does 289 = .ok (.iconst 3, 1) := by decide +kernel
theorem d_Mod_does_290 : decode b_Mod_does 290 = .ok (.ireturn, 1) := by decide +kernel
theorem d_Mod_does_291 : decode b_Mod_does 291 = .ok (.iload_n 1, 1) := by decide +kernel
theorem d_Mod_does_292 : decode b_Mod_does 292 = .ok (.iconst 1, 1) := by decide +kernel
theorem d_Mod_does_293 : decode b_Mod_does 293 = .ok (.if_icmp .ne 15, 3) := by decide +kernel
theorem d_Mod_does_296 : decode b_Mod_does 296 = .ok (.aload_n 0, 1) := by decide +kernel
theorem d_Mod_does_297 : decode b_Mod_does 297 = .ok (.iload_n 3, 1) := by decide +kernel
theorem d_Mod_does_298 : decode b_Mod_does 298 = .ok (.iload 4, 2) := by decide +kernel
theorem d_Mod_does_300 : decode b_Mod_does 300 = .ok (.invokevirtual 255, 3) := by decide +kernel
theorem d_Mod_does_303 : decode b_Mod_does 303 = .ok (.ifCond .ge 5, 3) := by decide +kernel
theorem d_Mod_does_306 : decode b_Mod_does 306 = .ok (.iconst 3, 1) := by decide +kernel
theorem d_Mod_does_307 : decode b_Mod_does 307 = .ok (.ireturn, 1) := by decide +kernel
theorem d_Mod_does_308 : decode b_Mod_does 308 = .ok (.iload_n 1, 1) := by decide +kernel
theorem d_Mod_does_309 : decode b_Mod_does 309 = .ok (.iconst 2, 1) := by decide +kernel
theorem d_Mod_does_310 : decode b_Mod_does 310 = .ok (.if_icmp .ne 16, 3) := by decide +kernel
theorem d_Mod_does_313 : decode b_Mod_does 313 = .ok (.aload_n 0, 1) := by decide +kernel
theorem d_Mod_does_314 : decode b_Mod_does 314 = .ok (.getfield 33, 3) := by decide +kernel
theorem d_Mod_does_317 : decode b_Mod_does 317 = .ok (.bipush 123, 2) := by decide +kernel
theorem d_Mod_does_319 : decode b_Mod_does 319 = .ok (.iload_n 2, 1) := by decide +kernel
theorem d_Mod_does_320 : decode b_Mod_does 320 = .ok (.iadd, 1) := by decide +kernel
theorem d_Mod_does_321 : decode b_Mod_does 321 = .ok (.iconst (-1), 1) := by decide +kernel
theorem d_Mod_does_322 : decode b_Mod_does 322 = .ok (.iastore, 1) := by decide +kernel
theorem d_Mod_does_323 : decode b_Mod_does 323 = .ok (.goto 9, 3) := by decide +kernel
theorem d_Mod_does_326 : decode b_Mod_does 326 = .ok (.aload_n 0, 1) := by decide +kernel
theorem d_Mod_does_327 : decode b_Mod_does 327 = .ok (.iload_n 2, 1) := by decide +kernel
theorem d_Mod_does_328 : decode b_Mod_does 328 = .ok (.iload_n 3, 1) := by decide +kernel
theorem d_Mod_does_329 : decode b_Mod_does 329 = .ok (.invokevirtual 277, 3) := by decide +kernel
theorem d_Mod_does_332 : decode b_Mod_does 332 = .ok (.iconst 0, 1) := by decide +kernel
theorem d_Mod_does_333 : decode b_Mod_does 333 = .ok (.ireturn, 1) := by decide +kernel
noncomputable def f_Mod_does_J308 (z : Nat → Nat) (o : Nat) (v1 : Int32) (v2 : Int32) (v3 : Int32) (m308 : Mm) : Option (Int32 × Mm) :=
  if v1 = (2 : Int32) then (
    (mm_stI m308 (o + 2) (z (o + 2)) ((123 : Int32) + v2) ((-1) : Int32)).bind fun m322 =>
    some ((0 : Int32), m322)
  ) else (
    (f_Mod_exchange z m308 o v2 v3).bind fun q329 =>
    some ((0 : Int32), q329)
  )
noncomputable def f_Mod_does_J291 (z : Nat → Nat) (o : Nat) (v1 : Int32) (v2 : Int32) (v3 : Int32) (v4 : Int32) (m291 : Mm) : Option (Int32 × Mm) :=
  if v1 = (1 : Int32) then (
    (f_Mod_valueOf z m291 o v3 v4).bind fun q300 =>
    if 0 ≤ q300 then (
      f_Mod_does_J308 z o v1 v2 v3 m291
    ) else (
      some ((3 : Int32), m291)
    )
  ) else (
    f_Mod_does_J308 z o v1 v2 v3 m291
  )
noncomputable def f_Mod_does_J237 (z : Nat → Nat) (o : Nat) (v1 : Int32) (v2 : Int32) (v3 : Int32) (v4 : Int32) (m237 : Mm) : Option (Int32 × Mm) :=
  if v1 = 0 then (
    (mm_ldI (m237.1 (o + 2)) (z (o + 2)) ((123 : Int32) + v3)).bind fun x251 =>
    (f_Mod_valueOf z m237 o v2 x251).bind fun q252 =>
    (f_Mod_valueOf z m237 o v2 v4).bind fun q259 =>
    if q252 < q259 then (
      some ((3 : Int32), m237)
    ) else (
      (f_Mod_valueOf z m237 o v3 v4).bind fun q269 =>
      (mm_ldI (m237.1 (o + 2)) (z (o + 2)) ((123 : Int32) + v3)).bind fun x282 =>
      (f_Mod_valueOf z m237 o v3 x282).bind fun q283 =>
      if q283 ≤ q269 then (
        f_Mod_does_J291 z o v1 v2 v3 v4 m237
      ) else (
        some ((3 : Int32), m237)
      )
    )
  ) else (
    f_Mod_does_J291 z o v1 v2 v3 v4 m237
  )
noncomputable def f_Mod_does_J215 (z : Nat → Nat) (o : Nat) (v1 : Int32) (v2 : Int32) (v3 : Int32) (v4 : Int32) (m215 : Mm) : Option (Int32 × Mm) :=
  (f_Mod_isPawned z m215 o v2).bind fun q217 =>
  if q217 = 0 then (
    if v1 = 0 then (
      (f_Mod_isPawned z m215 o v3).bind fun q229 =>
      if q229 = 0 then (
        f_Mod_does_J237 z o v1 v2 v3 v4 m215
      ) else (
        some ((2 : Int32), m215)
      )
    ) else (
      f_Mod_does_J237 z o v1 v2 v3 v4 m215
    )
  ) else (
    some ((2 : Int32), m215)
  )
noncomputable def f_Mod_does_J196 (z : Nat → Nat) (o : Nat) (v1 : Int32) (v2 : Int32) (v3 : Int32) (v4 : Int32) (m196 : Mm) : Option (Int32 × Mm) :=
  if v1 = (1 : Int32) then (
    (mm_ldI (m196.1 (o + 2)) (z (o + 2)) ((123 : Int32) + v3)).bind fun x209 =>
    if x209 < 0 then (
      f_Mod_does_J215 z o v1 v2 v3 v4 m196
    ) else (
      some ((1 : Int32), m196)
    )
  ) else (
    f_Mod_does_J215 z o v1 v2 v3 v4 m196
  )
noncomputable def f_Mod_does_J180 (z : Nat → Nat) (o : Nat) (v1 : Int32) (v2 : Int32) (v3 : Int32) (v4 : Int32) (m180 : Mm) : Option (Int32 × Mm) :=
  if v1 = 0 then (
    (mm_ldI (m180.1 (o + 2)) (z (o + 2)) ((123 : Int32) + v3)).bind fun x192 =>
    if x192 < 0 then (
      some ((1 : Int32), m180)
    ) else (
      f_Mod_does_J196 z o v1 v2 v3 v4 m180
    )
  ) else (
    f_Mod_does_J196 z o v1 v2 v3 v4 m180
  )
noncomputable def f_Mod_does_L49 (z : Nat → Nat) (σ : Mm) (o : Nat) (v2 : Int32) (v3 : Int32) (s49 : Int32 × Int32) : Option ((Int32 × Int32) ⊕ (Int32)) :=
  (mm_ldI (σ.1 (o + 2)) (z (o + 2)) (1 : Int32)).bind fun x56 =>
  if x56 ≤ s49.2 then (
    some (.inr s49.1)
  ) else (
    (mm_ldI (σ.1 (o + 2)) (z (o + 2)) ((115 : Int32) + s49.2)).bind fun x71 =>
    if x71 = v3 then (
      mm_lt ((s49.1 + (1 : Int32))) fun x82 =>
      mm_lt (s49.2 + (1 : Int32)) fun x84 =>
      some (.inl (x82, x84))
    ) else (
      mm_lt ((s49.1 + (0 : Int32))) fun x82 =>
      mm_lt (s49.2 + (1 : Int32)) fun x84 =>
      some (.inl (x82, x84))
    )
  )
noncomputable def f_Mod_does (z : Nat → Nat) (σ : Mm) (o : Nat) (p1 : Int32) (p2 : Int32) (p3 : Int32) : Option (Int32 × Mm) :=
  (mm_ldI (σ.1 (o + 2)) (z (o + 2)) ((123 : Int32) + p2)).bind fun x8 =>
  if p1 = (5 : Int32) then (
    (f_Mod_trades z σ o).bind fun q17 =>
    some ((0 : Int32), q17.2)
  ) else (
    if p1 = (4 : Int32) then (
      (mm_ldI (σ.1 (o + 2)) (z (o + 2)) ((115 : Int32) + p2)).bind fun x36 =>
      if x36 = p3 then (
        some ((5 : Int32), σ)
      ) else (
        (mm_lp (f_Mod_does_L49 z σ o p2 p3) ((0 : Int32), (0 : Int32))).bind (fun q49 =>
          (mm_ldI (σ.1 (o + 2)) (z (o + 2)) (3 : Int32)).bind fun x97 =>
          if q49 < x97 then (
            (mm_stI σ (o + 2) (z (o + 2)) ((115 : Int32) + p2) p3).bind fun m113 =>
            some ((0 : Int32), m113)
          ) else (
            some ((6 : Int32), σ)
          ))
      )
    ) else (
      if p1 = (3 : Int32) then (
        if x8 < 0 then (
          (mm_ldI (σ.1 (o + 2)) (z (o + 2)) ((15 : Int32) + p3)).bind fun x136 =>
          if x136 = (2 : Int32) then (
            some ((2 : Int32), σ)
          ) else (
            (f_Mod_holderOf z σ o p3).bind fun q145 =>
            if q145 < 0 then (
              (mm_stI σ (o + 2) (z (o + 2)) ((123 : Int32) + p2) p3).bind fun m162 =>
              some ((0 : Int32), m162)
            ) else (
              some ((4 : Int32), σ)
            )
          )
        ) else (
          some ((1 : Int32), σ)
        )
      ) else (
        if x8 < 0 then (
          some ((1 : Int32), σ)
        ) else (
          if p1 = (2 : Int32) then (
            f_Mod_does_J180 z o p1 p2 p3 x8 σ
          ) else (
            if p2 = p3 then (
              some ((1 : Int32), σ)
            ) else (
              f_Mod_does_J180 z o p1 p2 p3 x8 σ
            )
          )
        )
      )
    )
  )
set_option maxHeartbeats 4000000 in
set_option maxRecDepth 100000 in
theorem c_Mod_does (l : Launch) {L : Ly} (hg : gd_ok L) {σ : Mm} {o : Nat} {p1 : Int32} {p2 : Int32} {p3 : Int32} (k_o_0 : ly_k L o = 11) {res : Int32 × Mm} (hf0 : f_Mod_does (ly_z L) σ o p1 p2 p3 = some res) : CtI l y_Mod_does b_Mod_does 7 (some .int) rm_Mod_does L [.ref (ly_a L o), .int p1, .int p2, .int p3] σ res.1 res.2 := by
  refine ct_i hg (by decide) (Nat.le_of_ble_eq_true rfl) ?_
  intro E A Q hE C hN
  subst hE
  have k_o_2 : ly_k L (o + 2) = 20 := gd_Mod_s hg k_o_0
  unfold f_Mod_does at hf0
  show GW E L A 7 0 0 Q σ 0 [(0, .ref (ly_a L o)), (1, .int p1), (2, .int p2), (3, .int p3)] []
  have hj308 : ∀ (v1 : Int32) (v2 : Int32) (v3 : Int32) (m308 : Mm), f_Mod_does_J308 (ly_z L) o v1 v2 v3 m308 = some res → GW E L A 7 0 0 Q m308 308 [(0, .ref (ly_a L o)), (1, .int v1), (2, .int v2), (3, .int v3)] [] := by
    intro v1 v2 v3 m308 hf0
    unfold f_Mod_does_J308 at hf0
    refine gw_iload_n C 1 d_Mod_does_308 rfl rfl ?_
    refine gw_iconst C (2 : Int32) d_Mod_does_309 (by decide) ?_
    refine gw_icmp_ne C 326 d_Mod_does_310 (by decide) (fun hc => ?_) (fun hc => ?_)
    · replace hf0 := mx_f hc hf0
      refine gw_aload_n C 0 d_Mod_does_326 rfl rfl ?_
      refine gw_iload_n C 2 d_Mod_does_327 rfl rfl ?_
      refine gw_iload_n C 3 d_Mod_does_328 rfl rfl ?_
      obtain ⟨q329, hq329, hf0⟩ := mx_bd hf0
      refine gw_callV C (c_Mod_exchange _ hg k_o_0 hq329) d_Mod_does_329 2 qw_1458 qw_1460 qs_63 qw_12 qw_1461 k_o_0 (by decide) rfl hd_Mod_exchange rfl rfl (Nat.le_of_ble_eq_true rfl) ⟨rfl, rfl, Nat.le_of_ble_eq_true rfl, Nat.le_of_ble_eq_true rfl⟩ ⟨Nat.zero_le _, Nat.zero_le _⟩ ?_
      refine gw_iconst C (0 : Int32) d_Mod_does_332 (by decide) ?_
      exact en_i hN hf0 d_Mod_does_333
    · replace hf0 := mx_t hc hf0
      refine gw_aload_n C 0 d_Mod_does_313 rfl rfl ?_
      refine gw_getA C 6 d_Mod_does_314 k_o_0 (by decide) i_Mod rfl rfl (by decide) qw_1171 rfl rfl (o + 2) rfl ?_
      refine gw_bipush C (123 : Int32) d_Mod_does_317 (by decide) ?_
      refine gw_iload_n C 2 d_Mod_does_319 rfl rfl ?_
      refine gw_iadd C d_Mod_does_320 ?_
      refine gw_iconst C ((-1) : Int32) d_Mod_does_321 (by decide) ?_
      obtain ⟨m322, hm322, hf0⟩ := mx_bd hf0
      obtain ⟨gm322, em322⟩ := mx_stI hm322
      refine gw_iast C d_Mod_does_322 k_o_2 gm322 em322 ?_
      refine gw_goto C 332 d_Mod_does_323 (by decide) ?_
      refine gw_iconst C (0 : Int32) d_Mod_does_332 (by decide) ?_
      exact en_i hN hf0 d_Mod_does_333
  have hj291 : ∀ (v1 : Int32) (v2 : Int32) (v3 : Int32) (v4 : Int32) (m291 : Mm), f_Mod_does_J291 (ly_z L) o v1 v2 v3 v4 m291 = some res → GW E L A 7 0 0 Q m291 291 [(0, .ref (ly_a L o)), (1, .int v1), (2, .int v2), (3, .int v3), (4, .int v4)] [] := by
    intro v1 v2 v3 v4 m291 hf0
    unfold f_Mod_does_J291 at hf0
    refine gw_iload_n C 1 d_Mod_does_291 rfl rfl ?_
    refine gw_iconst C (1 : Int32) d_Mod_does_292 (by decide) ?_
    refine gw_icmp_ne C 308 d_Mod_does_293 (by decide) (fun hc => ?_) (fun hc => ?_)
    · replace hf0 := mx_f hc hf0
      exact gw_go [0, 1, 2, 3] (hj308 _ _ _ _ hf0) rfl
    · replace hf0 := mx_t hc hf0
      refine gw_aload_n C 0 d_Mod_does_296 rfl rfl ?_
      refine gw_iload_n C 3 d_Mod_does_297 rfl rfl ?_
      refine gw_iload C 4 d_Mod_does_298 rfl ?_
      obtain ⟨q300, hq300, hf0⟩ := mx_bd hf0
      refine gw_callI C (c_Mod_valueOf _ hg k_o_0 hq300) d_Mod_does_300 2 qw_1418 qw_1420 qs_58 qw_12 qw_1421 k_o_0 (by decide) rfl hd_Mod_valueOf rfl rfl (Nat.le_of_ble_eq_true rfl) ⟨rfl, rfl, Nat.le_of_ble_eq_true rfl, Nat.le_of_ble_eq_true rfl⟩ ⟨Nat.zero_le _, Nat.zero_le _⟩ ?_
      refine gw_if_ge C 308 d_Mod_does_303 (by decide) (fun hc => ?_) (fun hc => ?_)
      · replace hf0 := mx_t hc hf0
        exact gw_go [0, 1, 2, 3] (hj308 _ _ _ _ hf0) rfl
      · replace hf0 := mx_f hc hf0
        refine gw_iconst C (3 : Int32) d_Mod_does_306 (by decide) ?_
        exact en_i hN hf0 d_Mod_does_307
  have hj237 : ∀ (v1 : Int32) (v2 : Int32) (v3 : Int32) (v4 : Int32) (m237 : Mm), f_Mod_does_J237 (ly_z L) o v1 v2 v3 v4 m237 = some res → GW E L A 7 0 0 Q m237 237 [(0, .ref (ly_a L o)), (1, .int v1), (2, .int v2), (3, .int v3), (4, .int v4)] [] := by
    intro v1 v2 v3 v4 m237 hf0
    unfold f_Mod_does_J237 at hf0
    refine gw_iload_n C 1 d_Mod_does_237 rfl rfl ?_
    refine gw_if_ne C 291 d_Mod_does_238 (by decide) (fun hc => ?_) (fun hc => ?_)
    · replace hf0 := mx_f hc hf0
      exact gw_go [0, 1, 2, 3, 4] (hj291 _ _ _ _ _ hf0) rfl
    · replace hf0 := mx_t hc hf0
      refine gw_aload_n C 0 d_Mod_does_241 rfl rfl ?_
      refine gw_iload_n C 2 d_Mod_does_242 rfl rfl ?_
      refine gw_aload_n C 0 d_Mod_does_243 rfl rfl ?_
      refine gw_getA C 6 d_Mod_does_244 k_o_0 (by decide) i_Mod rfl rfl (by decide) qw_1171 rfl rfl (o + 2) rfl ?_
      refine gw_bipush C (123 : Int32) d_Mod_does_247 (by decide) ?_
      refine gw_iload_n C 3 d_Mod_does_249 rfl rfl ?_
      refine gw_iadd C d_Mod_does_250 ?_
      obtain ⟨x251, hx251, hf0⟩ := mx_bd hf0
      obtain ⟨gx251, ex251⟩ := mx_ldI hx251
      refine gw_iald C d_Mod_does_251 k_o_2 gx251 ex251 ?_
      obtain ⟨q252, hq252, hf0⟩ := mx_bd hf0
      refine gw_callI C (c_Mod_valueOf _ hg k_o_0 hq252) d_Mod_does_252 2 qw_1418 qw_1420 qs_58 qw_12 qw_1421 k_o_0 (by decide) rfl hd_Mod_valueOf rfl rfl (Nat.le_of_ble_eq_true rfl) ⟨rfl, rfl, Nat.le_of_ble_eq_true rfl, Nat.le_of_ble_eq_true rfl⟩ ⟨Nat.zero_le _, Nat.zero_le _⟩ ?_
      refine gw_aload_n C 0 d_Mod_does_255 rfl rfl ?_
      refine gw_iload_n C 2 d_Mod_does_256 rfl rfl ?_
      refine gw_iload C 4 d_Mod_does_257 rfl ?_
      obtain ⟨q259, hq259, hf0⟩ := mx_bd hf0
      refine gw_callI C (c_Mod_valueOf _ hg k_o_0 hq259) d_Mod_does_259 2 qw_1418 qw_1420 qs_58 qw_12 qw_1421 k_o_0 (by decide) rfl hd_Mod_valueOf rfl rfl (Nat.le_of_ble_eq_true rfl) ⟨rfl, rfl, Nat.le_of_ble_eq_true rfl, Nat.le_of_ble_eq_true rfl⟩ ⟨Nat.zero_le _, Nat.zero_le _⟩ ?_
      refine gw_icmp_lt C 289 d_Mod_does_262 (by decide) (fun hc => ?_) (fun hc => ?_)
      · replace hf0 := mx_t hc hf0
        refine gw_iconst C (3 : Int32) d_Mod_does_289 (by decide) ?_
        exact en_i hN hf0 d_Mod_does_290
      · replace hf0 := mx_f hc hf0
        refine gw_aload_n C 0 d_Mod_does_265 rfl rfl ?_
        refine gw_iload_n C 3 d_Mod_does_266 rfl rfl ?_
        refine gw_iload C 4 d_Mod_does_267 rfl ?_
        obtain ⟨q269, hq269, hf0⟩ := mx_bd hf0
        refine gw_callI C (c_Mod_valueOf _ hg k_o_0 hq269) d_Mod_does_269 2 qw_1418 qw_1420 qs_58 qw_12 qw_1421 k_o_0 (by decide) rfl hd_Mod_valueOf rfl rfl (Nat.le_of_ble_eq_true rfl) ⟨rfl, rfl, Nat.le_of_ble_eq_true rfl, Nat.le_of_ble_eq_true rfl⟩ ⟨Nat.zero_le _, Nat.zero_le _⟩ ?_
        refine gw_aload_n C 0 d_Mod_does_272 rfl rfl ?_
        refine gw_iload_n C 3 d_Mod_does_273 rfl rfl ?_
        refine gw_aload_n C 0 d_Mod_does_274 rfl rfl ?_
        refine gw_getA C 6 d_Mod_does_275 k_o_0 (by decide) i_Mod rfl rfl (by decide) qw_1171 rfl rfl (o + 2) rfl ?_
        refine gw_bipush C (123 : Int32) d_Mod_does_278 (by decide) ?_
        refine gw_iload_n C 3 d_Mod_does_280 rfl rfl ?_
        refine gw_iadd C d_Mod_does_281 ?_
        obtain ⟨x282, hx282, hf0⟩ := mx_bd hf0
        obtain ⟨gx282, ex282⟩ := mx_ldI hx282
        refine gw_iald C d_Mod_does_282 k_o_2 gx282 ex282 ?_
        obtain ⟨q283, hq283, hf0⟩ := mx_bd hf0
        refine gw_callI C (c_Mod_valueOf _ hg k_o_0 hq283) d_Mod_does_283 2 qw_1418 qw_1420 qs_58 qw_12 qw_1421 k_o_0 (by decide) rfl hd_Mod_valueOf rfl rfl (Nat.le_of_ble_eq_true rfl) ⟨rfl, rfl, Nat.le_of_ble_eq_true rfl, Nat.le_of_ble_eq_true rfl⟩ ⟨Nat.zero_le _, Nat.zero_le _⟩ ?_
        refine gw_icmp_ge C 291 d_Mod_does_286 (by decide) (fun hc => ?_) (fun hc => ?_)
        · replace hf0 := mx_t hc hf0
          exact gw_go [0, 1, 2, 3, 4] (hj291 _ _ _ _ _ hf0) rfl
        · replace hf0 := mx_f hc hf0
          refine gw_iconst C (3 : Int32) d_Mod_does_289 (by decide) ?_
          exact en_i hN hf0 d_Mod_does_290
  have hj215 : ∀ (v1 : Int32) (v2 : Int32) (v3 : Int32) (v4 : Int32) (m215 : Mm), f_Mod_does_J215 (ly_z L) o v1 v2 v3 v4 m215 = some res → GW E L A 7 0 0 Q m215 215 [(0, .ref (ly_a L o)), (1, .int v1), (2, .int v2), (3, .int v3), (4, .int v4)] [] := by
    intro v1 v2 v3 v4 m215 hf0
    unfold f_Mod_does_J215 at hf0
    refine gw_aload_n C 0 d_Mod_does_215 rfl rfl ?_
    refine gw_iload_n C 2 d_Mod_does_216 rfl rfl ?_
    obtain ⟨q217, hq217, hf0⟩ := mx_bd hf0
    refine gw_callI C (c_Mod_isPawned _ hg k_o_0 hq217) d_Mod_does_217 1 qw_1454 qw_1456 qs_62 qw_12 qw_1457 k_o_0 (by decide) rfl hd_Mod_isPawned rfl rfl (Nat.le_of_ble_eq_true rfl) ⟨rfl, rfl, Nat.le_of_ble_eq_true rfl, Nat.le_of_ble_eq_true rfl⟩ ⟨Nat.zero_le _, Nat.zero_le _⟩ ?_
    refine gw_if_ne C 235 d_Mod_does_220 (by decide) (fun hc => ?_) (fun hc => ?_)
    · replace hf0 := mx_f hc hf0
      refine gw_iconst C (2 : Int32) d_Mod_does_235 (by decide) ?_
      exact en_i hN hf0 d_Mod_does_236
    · replace hf0 := mx_t hc hf0
      refine gw_iload_n C 1 d_Mod_does_223 rfl rfl ?_
      refine gw_if_ne C 237 d_Mod_does_224 (by decide) (fun hc => ?_) (fun hc => ?_)
      · replace hf0 := mx_f hc hf0
        exact gw_go [0, 1, 2, 3, 4] (hj237 _ _ _ _ _ hf0) rfl
      · replace hf0 := mx_t hc hf0
        refine gw_aload_n C 0 d_Mod_does_227 rfl rfl ?_
        refine gw_iload_n C 3 d_Mod_does_228 rfl rfl ?_
        obtain ⟨q229, hq229, hf0⟩ := mx_bd hf0
        refine gw_callI C (c_Mod_isPawned _ hg k_o_0 hq229) d_Mod_does_229 1 qw_1454 qw_1456 qs_62 qw_12 qw_1457 k_o_0 (by decide) rfl hd_Mod_isPawned rfl rfl (Nat.le_of_ble_eq_true rfl) ⟨rfl, rfl, Nat.le_of_ble_eq_true rfl, Nat.le_of_ble_eq_true rfl⟩ ⟨Nat.zero_le _, Nat.zero_le _⟩ ?_
        refine gw_if_eq C 237 d_Mod_does_232 (by decide) (fun hc => ?_) (fun hc => ?_)
        · replace hf0 := mx_t hc hf0
          exact gw_go [0, 1, 2, 3, 4] (hj237 _ _ _ _ _ hf0) rfl
        · replace hf0 := mx_f hc hf0
          refine gw_iconst C (2 : Int32) d_Mod_does_235 (by decide) ?_
          exact en_i hN hf0 d_Mod_does_236
  have hj196 : ∀ (v1 : Int32) (v2 : Int32) (v3 : Int32) (v4 : Int32) (m196 : Mm), f_Mod_does_J196 (ly_z L) o v1 v2 v3 v4 m196 = some res → GW E L A 7 0 0 Q m196 196 [(0, .ref (ly_a L o)), (1, .int v1), (2, .int v2), (3, .int v3), (4, .int v4)] [] := by
    intro v1 v2 v3 v4 m196 hf0
    unfold f_Mod_does_J196 at hf0
    refine gw_iload_n C 1 d_Mod_does_196 rfl rfl ?_
    refine gw_iconst C (1 : Int32) d_Mod_does_197 (by decide) ?_
    refine gw_icmp_ne C 215 d_Mod_does_198 (by decide) (fun hc => ?_) (fun hc => ?_)
    · replace hf0 := mx_f hc hf0
      exact gw_go [0, 1, 2, 3, 4] (hj215 _ _ _ _ _ hf0) rfl
    · replace hf0 := mx_t hc hf0
      refine gw_aload_n C 0 d_Mod_does_201 rfl rfl ?_
      refine gw_getA C 6 d_Mod_does_202 k_o_0 (by decide) i_Mod rfl rfl (by decide) qw_1171 rfl rfl (o + 2) rfl ?_
      refine gw_bipush C (123 : Int32) d_Mod_does_205 (by decide) ?_
      refine gw_iload_n C 3 d_Mod_does_207 rfl rfl ?_
      refine gw_iadd C d_Mod_does_208 ?_
      obtain ⟨x209, hx209, hf0⟩ := mx_bd hf0
      obtain ⟨gx209, ex209⟩ := mx_ldI hx209
      refine gw_iald C d_Mod_does_209 k_o_2 gx209 ex209 ?_
      refine gw_if_lt C 215 d_Mod_does_210 (by decide) (fun hc => ?_) (fun hc => ?_)
      · replace hf0 := mx_t hc hf0
        exact gw_go [0, 1, 2, 3, 4] (hj215 _ _ _ _ _ hf0) rfl
      · replace hf0 := mx_f hc hf0
        refine gw_iconst C (1 : Int32) d_Mod_does_213 (by decide) ?_
        exact en_i hN hf0 d_Mod_does_214
  have hj180 : ∀ (v1 : Int32) (v2 : Int32) (v3 : Int32) (v4 : Int32) (m180 : Mm), f_Mod_does_J180 (ly_z L) o v1 v2 v3 v4 m180 = some res → GW E L A 7 0 0 Q m180 180 [(0, .ref (ly_a L o)), (1, .int v1), (2, .int v2), (3, .int v3), (4, .int v4)] [] := by
    intro v1 v2 v3 v4 m180 hf0
    unfold f_Mod_does_J180 at hf0
    refine gw_iload_n C 1 d_Mod_does_180 rfl rfl ?_
    refine gw_if_ne C 196 d_Mod_does_181 (by decide) (fun hc => ?_) (fun hc => ?_)
    · replace hf0 := mx_f hc hf0
      exact gw_go [0, 1, 2, 3, 4] (hj196 _ _ _ _ _ hf0) rfl
    · replace hf0 := mx_t hc hf0
      refine gw_aload_n C 0 d_Mod_does_184 rfl rfl ?_
      refine gw_getA C 6 d_Mod_does_185 k_o_0 (by decide) i_Mod rfl rfl (by decide) qw_1171 rfl rfl (o + 2) rfl ?_
      refine gw_bipush C (123 : Int32) d_Mod_does_188 (by decide) ?_
      refine gw_iload_n C 3 d_Mod_does_190 rfl rfl ?_
      refine gw_iadd C d_Mod_does_191 ?_
      obtain ⟨x192, hx192, hf0⟩ := mx_bd hf0
      obtain ⟨gx192, ex192⟩ := mx_ldI hx192
      refine gw_iald C d_Mod_does_192 k_o_2 gx192 ex192 ?_
      refine gw_if_lt C 213 d_Mod_does_193 (by decide) (fun hc => ?_) (fun hc => ?_)
      · replace hf0 := mx_t hc hf0
        refine gw_iconst C (1 : Int32) d_Mod_does_213 (by decide) ?_
        exact en_i hN hf0 d_Mod_does_214
      · replace hf0 := mx_f hc hf0
        exact gw_go [0, 1, 2, 3, 4] (hj196 _ _ _ _ _ hf0) rfl
  refine gw_aload_n C 0 d_Mod_does_0 rfl rfl ?_
  refine gw_getA C 6 d_Mod_does_1 k_o_0 (by decide) i_Mod rfl rfl (by decide) qw_1171 rfl rfl (o + 2) rfl ?_
  refine gw_bipush C (123 : Int32) d_Mod_does_4 (by decide) ?_
  refine gw_iload_n C 2 d_Mod_does_6 rfl rfl ?_
  refine gw_iadd C d_Mod_does_7 ?_
  obtain ⟨x8, hx8, hf0⟩ := mx_bd hf0
  obtain ⟨gx8, ex8⟩ := mx_ldI hx8
  refine gw_iald C d_Mod_does_8 k_o_2 gx8 ex8 ?_
  refine gw_istore C [(4, .int x8), (0, .ref (ly_a L o)), (1, .int p1), (2, .int p2), (3, .int p3)] d_Mod_does_9 (by decide) rfl ?_
  refine gw_iload_n C 2 d_Mod_does_11 rfl rfl ?_
  refine gw_iconst C (5 : Int32) d_Mod_does_12 (by decide) ?_
  refine gw_icmp_ne C 23 d_Mod_does_13 (by decide) (fun hc => ?_) (fun hc => ?_)
  · replace hf0 := mx_f hc hf0
    refine gw_iload_n C 2 d_Mod_does_23 rfl rfl ?_
    refine gw_iconst C (4 : Int32) d_Mod_does_24 (by decide) ?_
    refine gw_icmp_ne C 116 d_Mod_does_25 (by decide) (fun hc => ?_) (fun hc => ?_)
    · replace hf0 := mx_f hc hf0
      refine gw_iload_n C 2 d_Mod_does_116 rfl rfl ?_
      refine gw_iconst C (3 : Int32) d_Mod_does_117 (by decide) ?_
      refine gw_icmp_ne C 165 d_Mod_does_118 (by decide) (fun hc => ?_) (fun hc => ?_)
      · replace hf0 := mx_f hc hf0
        refine gw_iload C 0 d_Mod_does_165 rfl ?_
        refine gw_if_lt C 213 d_Mod_does_167 (by decide) (fun hc => ?_) (fun hc => ?_)
        · replace hf0 := mx_t hc hf0
          refine gw_iconst C (1 : Int32) d_Mod_does_213 (by decide) ?_
          exact en_i hN hf0 d_Mod_does_214
        · replace hf0 := mx_f hc hf0
          refine gw_iload_n C 2 d_Mod_does_170 rfl rfl ?_
          refine gw_iconst C (2 : Int32) d_Mod_does_171 (by decide) ?_
          refine gw_icmp_eq C 180 d_Mod_does_172 (by decide) (fun hc => ?_) (fun hc => ?_)
          · replace hf0 := mx_t hc hf0
            exact gw_go [1, 2, 3, 4, 0] (hj180 _ _ _ _ _ hf0) rfl
          · replace hf0 := mx_f hc hf0
            refine gw_iload_n C 3 d_Mod_does_175 rfl rfl ?_
            refine gw_iload_n C 4 d_Mod_does_176 rfl rfl ?_
            refine gw_icmp_eq C 213 d_Mod_does_177 (by decide) (fun hc => ?_) (fun hc => ?_)
            · replace hf0 := mx_t hc hf0
              refine gw_iconst C (1 : Int32) d_Mod_does_213 (by decide) ?_
              exact en_i hN hf0 d_Mod_does_214
            · replace hf0 := mx_f hc hf0
              exact gw_go [1, 2, 3, 4, 0] (hj180 _ _ _ _ _ hf0) rfl
      · replace hf0 := mx_t hc hf0
        refine gw_iload C 0 d_Mod_does_121 rfl ?_
        refine gw_if_lt C 128 d_Mod_does_123 (by decide) (fun hc => ?_) (fun hc => ?_)
        · replace hf0 := mx_t hc hf0
          refine gw_aload_n C 1 d_Mod_does_128 rfl rfl ?_
          refine gw_getA C 6 d_Mod_does_129 k_o_0 (by decide) i_Mod rfl rfl (by decide) qw_1171 rfl rfl (o + 2) rfl ?_
          refine gw_bipush C (15 : Int32) d_Mod_does_132 (by decide) ?_
          refine gw_iload_n C 4 d_Mod_does_134 rfl rfl ?_
          refine gw_iadd C d_Mod_does_135 ?_
          obtain ⟨x136, hx136, hf0⟩ := mx_bd hf0
          obtain ⟨gx136, ex136⟩ := mx_ldI hx136
          refine gw_iald C d_Mod_does_136 k_o_2 gx136 ex136 ?_
          refine gw_iconst C (2 : Int32) d_Mod_does_137 (by decide) ?_
          refine gw_icmp_ne C 143 d_Mod_does_138 (by decide) (fun hc => ?_) (fun hc => ?_)
          · replace hf0 := mx_f hc hf0
            refine gw_aload_n C 1 d_Mod_does_143 rfl rfl ?_
            refine gw_iload_n C 4 d_Mod_does_144 rfl rfl ?_
            obtain ⟨q145, hq145, hf0⟩ := mx_bd hf0
            refine gw_callI C (c_Mod_holderOf _ hg k_o_0 hq145) d_Mod_does_145 1 qw_1402 qw_1404 qs_56 qw_12 qw_1405 k_o_0 (by decide) rfl hd_Mod_holderOf rfl rfl (Nat.le_of_ble_eq_true rfl) ⟨rfl, rfl, Nat.le_of_ble_eq_true rfl, Nat.le_of_ble_eq_true rfl⟩ ⟨Nat.zero_le _, Nat.zero_le _⟩ ?_
            refine gw_if_lt C 153 d_Mod_does_148 (by decide) (fun hc => ?_) (fun hc => ?_)
            · replace hf0 := mx_t hc hf0
              refine gw_aload_n C 1 d_Mod_does_153 rfl rfl ?_
              refine gw_getA C 6 d_Mod_does_154 k_o_0 (by decide) i_Mod rfl rfl (by decide) qw_1171 rfl rfl (o + 2) rfl ?_
              refine gw_bipush C (123 : Int32) d_Mod_does_157 (by decide) ?_
              refine gw_iload_n C 3 d_Mod_does_159 rfl rfl ?_
              refine gw_iadd C d_Mod_does_160 ?_
              refine gw_iload_n C 4 d_Mod_does_161 rfl rfl ?_
              obtain ⟨m162, hm162, hf0⟩ := mx_bd hf0
              obtain ⟨gm162, em162⟩ := mx_stI hm162
              refine gw_iast C d_Mod_does_162 k_o_2 gm162 em162 ?_
              refine gw_iconst C (0 : Int32) d_Mod_does_163 (by decide) ?_
              exact en_i hN hf0 d_Mod_does_164
            · replace hf0 := mx_f hc hf0
              refine gw_iconst C (4 : Int32) d_Mod_does_151 (by decide) ?_
              exact en_i hN hf0 d_Mod_does_152
          · replace hf0 := mx_t hc hf0
            refine gw_iconst C (2 : Int32) d_Mod_does_141 (by decide) ?_
            exact en_i hN hf0 d_Mod_does_142
        · replace hf0 := mx_f hc hf0
          refine gw_iconst C (1 : Int32) d_Mod_does_126 (by decide) ?_
          exact en_i hN hf0 d_Mod_does_127
    · replace hf0 := mx_t hc hf0
      refine gw_aload_n C 1 d_Mod_does_28 rfl rfl ?_
      refine gw_getA C 6 d_Mod_does_29 k_o_0 (by decide) i_Mod rfl rfl (by decide) qw_1171 rfl rfl (o + 2) rfl ?_
      refine gw_bipush C (115 : Int32) d_Mod_does_32 (by decide) ?_
      refine gw_iload_n C 3 d_Mod_does_34 rfl rfl ?_
      refine gw_iadd C d_Mod_does_35 ?_
      obtain ⟨x36, hx36, hf0⟩ := mx_bd hf0
      obtain ⟨gx36, ex36⟩ := mx_ldI hx36
      refine gw_iald C d_Mod_does_36 k_o_2 gx36 ex36 ?_
      refine gw_iload_n C 4 d_Mod_does_37 rfl rfl ?_
      refine gw_icmp_ne C 43 d_Mod_does_38 (by decide) (fun hc => ?_) (fun hc => ?_)
      · replace hf0 := mx_f hc hf0
        refine gw_iconst C (0 : Int32) d_Mod_does_43 (by decide) ?_
        refine gw_istore C [(5, .int (0 : Int32)), (4, .int x8), (0, .ref (ly_a L o)), (1, .int p1), (2, .int p2), (3, .int p3)] d_Mod_does_44 (by decide) rfl ?_
        refine gw_iconst C (0 : Int32) d_Mod_does_46 (by decide) ?_
        refine gw_istore C [(6, .int (0 : Int32)), (5, .int (0 : Int32)), (4, .int x8), (0, .ref (ly_a L o)), (1, .int p1), (2, .int p2), (3, .int p3)] d_Mod_does_47 (by decide) rfl ?_
        obtain ⟨q49, hq49, hf0⟩ := mx_bd hf0
        have hk49 : ∀ x9, q49 = x9 → GW E L A 7 0 0 Q σ 90 [(0, .ref (ly_a L o)), (2, .int p2), (3, .int p3), (5, .int x9)] [] := by
          intro x9 hx9
          subst hx9
          refine gw_iload C 3 d_Mod_does_90 rfl ?_
          refine gw_aload_n C 0 d_Mod_does_92 rfl rfl ?_
          refine gw_getA C 6 d_Mod_does_93 k_o_0 (by decide) i_Mod rfl rfl (by decide) qw_1171 rfl rfl (o + 2) rfl ?_
          refine gw_iconst C (3 : Int32) d_Mod_does_96 (by decide) ?_
          obtain ⟨x97, hx97, hf0⟩ := mx_bd hf0
          obtain ⟨gx97, ex97⟩ := mx_ldI hx97
          refine gw_iald C d_Mod_does_97 k_o_2 gx97 ex97 ?_
          refine gw_icmp_lt C 104 d_Mod_does_98 (by decide) (fun hc => ?_) (fun hc => ?_)
          · replace hf0 := mx_t hc hf0
            refine gw_aload_n C 0 d_Mod_does_104 rfl rfl ?_
            refine gw_getA C 6 d_Mod_does_105 k_o_0 (by decide) i_Mod rfl rfl (by decide) qw_1171 rfl rfl (o + 2) rfl ?_
            refine gw_bipush C (115 : Int32) d_Mod_does_108 (by decide) ?_
            refine gw_iload_n C 1 d_Mod_does_110 rfl rfl ?_
            refine gw_iadd C d_Mod_does_111 ?_
            refine gw_iload_n C 2 d_Mod_does_112 rfl rfl ?_
            obtain ⟨m113, hm113, hf0⟩ := mx_bd hf0
            obtain ⟨gm113, em113⟩ := mx_stI hm113
            refine gw_iast C d_Mod_does_113 k_o_2 gm113 em113 ?_
            refine gw_iconst C (0 : Int32) d_Mod_does_114 (by decide) ?_
            exact en_i hN hf0 d_Mod_does_115
          · replace hf0 := mx_f hc hf0
            refine gw_bipush C (6 : Int32) d_Mod_does_101 (by decide) ?_
            exact en_i hN hf0 d_Mod_does_103
        refine gw_sub [3, 5, 6, 1, 0] (lv' := [(0, .ref (ly_a L o)), (2, .int p2), (3, .int p3), (5, .int (0 : Int32)), (6, .int (0 : Int32))]) rfl ?_
        refine mm_rule hq49 (P := fun (s49 : Int32 × Int32) => GW E L A 7 0 0 Q σ 49 [(0, .ref (ly_a L o)), (2, .int p2), (3, .int p3), (5, .int s49.1), (6, .int s49.2)] []) ?_
        intro s49 ih49 hx49 ⟨w49, hb49⟩
        have hf1 := hb49
        unfold f_Mod_does_L49 at hf1
        refine gw_iload C 4 d_Mod_does_49 rfl ?_
        refine gw_aload_n C 0 d_Mod_does_51 rfl rfl ?_
        refine gw_getA C 6 d_Mod_does_52 k_o_0 (by decide) i_Mod rfl rfl (by decide) qw_1171 rfl rfl (o + 2) rfl ?_
        refine gw_iconst C (1 : Int32) d_Mod_does_55 (by decide) ?_
        obtain ⟨x56, hx56, hf1⟩ := mx_bd hf1
        obtain ⟨gx56, ex56⟩ := mx_ldI hx56
        refine gw_iald C d_Mod_does_56 k_o_2 gx56 ex56 ?_
        refine gw_icmp_ge C 90 d_Mod_does_57 (by decide) (fun hc => ?_) (fun hc => ?_)
        · replace hf1 := mx_t hc hf1
          exact gw_go [0, 1, 2, 3] (hk49 s49.1 (hx49 _ (hb49.trans hf1.symm)).symm) rfl
        · replace hf1 := mx_f hc hf1
          refine gw_iload C 3 d_Mod_does_60 rfl ?_
          refine gw_aload_n C 0 d_Mod_does_62 rfl rfl ?_
          refine gw_getA C 6 d_Mod_does_63 k_o_0 (by decide) i_Mod rfl rfl (by decide) qw_1171 rfl rfl (o + 2) rfl ?_
          refine gw_bipush C (115 : Int32) d_Mod_does_66 (by decide) ?_
          refine gw_iload C 4 d_Mod_does_68 rfl ?_
          refine gw_iadd C d_Mod_does_70 ?_
          obtain ⟨x71, hx71, hf1⟩ := mx_bd hf1
          obtain ⟨gx71, ex71⟩ := mx_ldI hx71
          refine gw_iald C d_Mod_does_71 k_o_2 gx71 ex71 ?_
          refine gw_iload_n C 2 d_Mod_does_72 rfl rfl ?_
          refine gw_icmp_ne C 80 d_Mod_does_73 (by decide) (fun hc => ?_) (fun hc => ?_)
          · replace hf1 := mx_f hc hf1
            refine gw_iconst C (0 : Int32) d_Mod_does_80 (by decide) ?_
            refine gw_iadd C d_Mod_does_81 ?_
            obtain ⟨x82, ex82, hf1⟩ := mx_lt hf1
            refine gw_topi ex82 ?_
            refine gw_istore C [(5, .int x82), (0, .ref (ly_a L o)), (2, .int p2), (3, .int p3), (6, .int s49.2)] d_Mod_does_82 (by decide) rfl ?_
            obtain ⟨x84, ex84, hf1⟩ := mx_lt hf1
            refine gw_iinc C 4 [(6, .int x84), (5, .int x82), (0, .ref (ly_a L o)), (2, .int p2), (3, .int p3)] d_Mod_does_84 rfl (by rw [ex84]; rfl) (by decide) rfl ?_
            refine gw_goto C 49 d_Mod_does_87 (by decide) ?_
            exact gw_go [2, 3, 4, 1, 0] (ih49 (x82, x84) (hb49.trans hf1.symm)) rfl
          · replace hf1 := mx_t hc hf1
            refine gw_iconst C (1 : Int32) d_Mod_does_76 (by decide) ?_
            refine gw_goto C 81 d_Mod_does_77 (by decide) ?_
            refine gw_iadd C d_Mod_does_81 ?_
            obtain ⟨x82, ex82, hf1⟩ := mx_lt hf1
            refine gw_topi ex82 ?_
            refine gw_istore C [(5, .int x82), (0, .ref (ly_a L o)), (2, .int p2), (3, .int p3), (6, .int s49.2)] d_Mod_does_82 (by decide) rfl ?_
            obtain ⟨x84, ex84, hf1⟩ := mx_lt hf1
            refine gw_iinc C 4 [(6, .int x84), (5, .int x82), (0, .ref (ly_a L o)), (2, .int p2), (3, .int p3)] d_Mod_does_84 rfl (by rw [ex84]; rfl) (by decide) rfl ?_
            refine gw_goto C 49 d_Mod_does_87 (by decide) ?_
            exact gw_go [2, 3, 4, 1, 0] (ih49 (x82, x84) (hb49.trans hf1.symm)) rfl
      · replace hf0 := mx_t hc hf0
        refine gw_iconst C (5 : Int32) d_Mod_does_41 (by decide) ?_
        exact en_i hN hf0 d_Mod_does_42
  · replace hf0 := mx_t hc hf0
    refine gw_aload_n C 1 d_Mod_does_16 rfl rfl ?_
    obtain ⟨q17, hq17, hf0⟩ := mx_bd hf0
    refine gw_callI C (c_Mod_trades _ hg k_o_0 hq17) d_Mod_does_17 0 qw_1486 qw_1488 qs_67 qw_12 qw_1489 k_o_0 (by decide) rfl hd_Mod_trades rfl rfl (Nat.le_of_ble_eq_true rfl) ⟨rfl, rfl, Nat.le_of_ble_eq_true rfl, Nat.le_of_ble_eq_true rfl⟩ ⟨Nat.zero_le _, Nat.zero_le _⟩ ?_
    refine gw_pop C d_Mod_does_20 rfl ?_
    refine gw_iconst C (0 : Int32) d_Mod_does_21 (by decide) ?_
    exact en_i hN hf0 d_Mod_does_22
