/-! NameHat.Tokens.readRun()V -/
abbrev b_Tokens_readRun : ByteArray := prog_11_method_4_code
def y_Tokens_readRun : MethodName := ⟨"NameHat$Tokens", "readRun", "()V"⟩
abbrev rm_Tokens_readRun : Room := { frames := 7, cells := 0, slots := 0, locals := 425 }
theorem hd_Tokens_readRun : y_Tokens_readRun.cls ≠ "java/lang/invoke/MethodHandle" ∧ y_Tokens_readRun.cls ≠ "java/lang/invoke/VarHandle" ∧ (parseMethodDescriptor y_Tokens_readRun.desc).map (fun d => d.parameters.length) = some 0 := by decide +kernel
theorem d_Tokens_readRun_0 : decode b_Tokens_readRun 0 = .ok (.iconst 0, 1) := by decide +kernel
theorem d_Tokens_readRun_1 : decode b_Tokens_readRun 1 = .ok (.istore_n 1, 1) := by decide +kernel
theorem d_Tokens_readRun_2 : decode b_Tokens_readRun 2 = .ok (.aload_n 0, 1) := by decide +kernel
theorem d_Tokens_readRun_3 : decode b_Tokens_readRun 3 = .ok (.iconst 0, 1) := by decide +kernel
theorem d_Tokens_readRun_4 : decode b_Tokens_readRun 4 = .ok (.putfield 52, 3) := by decide +kernel
theorem d_Tokens_readRun_7 : decode b_Tokens_readRun 7 = .ok (.aload_n 0, 1) := by decide +kernel
theorem d_Tokens_readRun_8 : decode b_Tokens_readRun 8 = .ok (.lconst 0, 1) := by decide +kernel
theorem d_Tokens_readRun_9 : decode b_Tokens_readRun 9 = .ok (.putfield 55, 3) := by decide +kernel
theorem d_Tokens_readRun_12 : decode b_Tokens_readRun 12 = .ok (.aload_n 0, 1) := by decide +kernel
theorem d_Tokens_readRun_13 : decode b_Tokens_readRun 13 = .ok (.aload_n 0, 1) := by decide +kernel
theorem d_Tokens_readRun_14 : decode b_Tokens_readRun 14 = .ok (.getfield 36, 3) := by decide +kernel
theorem d_Tokens_readRun_17 : decode b_Tokens_readRun 17 = .ok (.putfield 27, 3) := by decide +kernel
theorem d_Tokens_readRun_20 : decode b_Tokens_readRun 20 = .ok (.aload_n 0, 1) := by decide +kernel
theorem d_Tokens_readRun_21 : decode b_Tokens_readRun 21 = .ok (.getfield 27, 3) := by decide +kernel
theorem d_Tokens_readRun_24 : decode b_Tokens_readRun 24 = .ok (.aload_n 0, 1) := by decide +kernel
theorem d_Tokens_readRun_25 : decode b_Tokens_readRun 25 = .ok (.getfield 20, 3) := by decide +kernel
theorem d_Tokens_readRun_28 : decode b_Tokens_readRun 28 = .ok (.if_icmp .ge 106, 3) := by decide +kernel
theorem d_Tokens_readRun_31 : decode b_Tokens_readRun 31 = .ok (.aload_n 0, 1) := by decide +kernel
theorem d_Tokens_readRun_32 : decode b_Tokens_readRun 32 = .ok (.getfield 14, 3) := by decide +kernel
theorem d_Tokens_readRun_35 : decode b_Tokens_readRun 35 = .ok (.aload_n 0, 1) := by decide +kernel
theorem d_Tokens_readRun_36 : decode b_Tokens_readRun 36 = .ok (.getfield 27, 3) := by decide +kernel
theorem d_Tokens_readRun_39 : decode b_Tokens_readRun 39 = .ok (.invokevirtual 39, 3) := by decide +kernel
theorem d_Tokens_readRun_42 : decode b_Tokens_readRun 42 = .ok (.invokestatic 59, 3) := by decide +kernel
theorem d_Tokens_readRun_45 : decode b_Tokens_readRun 45 = .ok (.ifCond .ne 20, 3) := by decide +kernel
theorem d_Tokens_readRun_48 : decode b_Tokens_readRun 48 = .ok (.aload_n 0, 1) := by decide +kernel
theorem d_Tokens_readRun_49 : decode b_Tokens_readRun 49 = .ok (.getfield 14, 3) := by decide +kernel
theorem d_Tokens_readRun_52 : decode b_Tokens_readRun 52 = .ok (.aload_n 0, 1) := by decide +kernel
theorem d_Tokens_readRun_53 : decode b_Tokens_readRun 53 = .ok (.getfield 27, 3) := by decide +kernel
theorem d_Tokens_readRun_56 : decode b_Tokens_readRun 56 = .ok (.invokevirtual 39, 3) := by decide +kernel
theorem d_Tokens_readRun_59 : decode b_Tokens_readRun 59 = .ok (.invokestatic 63, 3) := by decide +kernel
theorem d_Tokens_readRun_62 : decode b_Tokens_readRun 62 = .ok (.ifCond .eq 72, 3) := by decide +kernel
theorem d_Tokens_readRun_65 : decode b_Tokens_readRun 65 = .ok (.aload_n 0, 1) := by decide +kernel
theorem d_Tokens_readRun_66 : decode b_Tokens_readRun 66 = .ok (.getfield 14, 3) := by decide +kernel
theorem d_Tokens_readRun_69 : decode b_Tokens_readRun 69 = .ok (.aload_n 0, 1) := by decide +kernel
theorem d_Tokens_readRun_70 : decode b_Tokens_readRun 70 = .ok (.getfield 27, 3) := by decide +kernel
theorem d_Tokens_readRun_73 : decode b_Tokens_readRun 73 = .ok (.invokevirtual 39, 3) := by decide +kernel
theorem d_Tokens_readRun_76 : decode b_Tokens_readRun 76 = .ok (.istore_n 2, 1) := by decide +kernel
theorem d_Tokens_readRun_77 : decode b_Tokens_readRun 77 = .ok (.iload_n 2, 1) := by decide +kernel
theorem d_Tokens_readRun_78 : decode b_Tokens_readRun 78 = .ok (.invokestatic 59, 3) := by decide +kernel
theorem d_Tokens_readRun_81 : decode b_Tokens_readRun 81 = .ok (.ifCond .eq 25, 3) := by decide +kernel
theorem d_Tokens_readRun_84 : decode b_Tokens_readRun 84 = .ok (.aload_n 0, 1) := by decide +kernel
theorem d_Tokens_readRun_85 : decode b_Tokens_readRun 85 = .ok (.aload_n 0, 1) := by decide +kernel
theorem d_Tokens_readRun_86 : decode b_Tokens_readRun 86 = .ok (.getfield 52, 3) := by decide +kernel
theorem d_Tokens_readRun_89 : decode b_Tokens_readRun 89 = .ok (.bipush 10, 2) := by decide +kernel
theorem d_Tokens_readRun_91 : decode b_Tokens_readRun 91 = .ok (.imul, 1) := by decide +kernel
theorem d_Tokens_readRun_92 : decode b_Tokens_readRun 92 = .ok (.iload_n 2, 1) := by decide +kernel
theorem d_Tokens_readRun_93 : decode b_Tokens_readRun 93 = .ok (.bipush 48, 2) := by decide +kernel
theorem d_Tokens_readRun_95 : decode b_Tokens_readRun 95 = .ok (.isub, 1) := by decide +kernel
theorem d_Tokens_readRun_96 : decode b_Tokens_readRun 96 = .ok (.iadd, 1) := by decide +kernel
theorem d_Tokens_readRun_97 : decode b_Tokens_readRun 97 = .ok (.putfield 52, 3) := by decide +kernel
theorem d_Tokens_readRun_100 : decode b_Tokens_readRun 100 = .ok (.iinc 1 1, 3) := by decide +kernel
theorem d_Tokens_readRun_103 : decode b_Tokens_readRun 103 = .ok (.goto 18, 3) := by decide +kernel
theorem d_Tokens_readRun_106 : decode b_Tokens_readRun 106 = .ok (.aload_n 0, 1) := by decide +kernel
theorem d_Tokens_readRun_107 : decode b_Tokens_readRun 107 = .ok (.aload_n 0, 1) := by decide +kernel
theorem d_Tokens_readRun_108 : decode b_Tokens_readRun 108 = .ok (.getfield 55, 3) := by decide +kernel
theorem d_Tokens_readRun_111 : decode b_Tokens_readRun 111 = .ok (.ldc2_w 68, 3) := by decide +kernel
theorem d_Tokens_readRun_114 : decode b_Tokens_readRun 114 = .ok (.lmul, 1) := by decide +kernel
theorem d_Tokens_readRun_115 : decode b_Tokens_readRun 115 = .ok (.iload_n 2, 1) := by decide +kernel
theorem d_Tokens_readRun_116 : decode b_Tokens_readRun 116 = .ok (.i2l, 1) := by decide +kernel
theorem d_Tokens_readRun_117 : decode b_Tokens_readRun 117 = .ok (.ladd, 1) := by decide +kernel
theorem d_Tokens_readRun_118 : decode b_Tokens_readRun 118 = .ok (.putfield 55, 3) := by decide +kernel
theorem d_Tokens_readRun_121 : decode b_Tokens_readRun 121 = .ok (.aload_n 0, 1) := by decide +kernel
theorem d_Tokens_readRun_122 : decode b_Tokens_readRun 122 = .ok (.dup, 1) := by decide +kernel
theorem d_Tokens_readRun_123 : decode b_Tokens_readRun 123 = .ok (.getfield 27, 3) := by decide +kernel
theorem d_Tokens_readRun_126 : decode b_Tokens_readRun 126 = .ok (.iconst 1, 1) := by decide +kernel
theorem d_Tokens_readRun_127 : decode b_Tokens_readRun 127 = .ok (.iadd, 1) := by decide +kernel
theorem d_Tokens_readRun_128 : decode b_Tokens_readRun 128 = .ok (.putfield 27, 3) := by decide +kernel
theorem d_Tokens_readRun_131 : decode b_Tokens_readRun 131 = .ok (.goto (-111), 3) := by decide +kernel
theorem d_Tokens_readRun_134 : decode b_Tokens_readRun 134 = .ok (.aload_n 0, 1) := by decide +kernel
theorem d_Tokens_readRun_135 : decode b_Tokens_readRun 135 = .ok (.getfield 27, 3) := by decide +kernel
theorem d_Tokens_readRun_138 : decode b_Tokens_readRun 138 = .ok (.aload_n 0, 1) := by decide +kernel
theorem d_Tokens_readRun_139 : decode b_Tokens_readRun 139 = .ok (.getfield 36, 3) := by decide +kernel
theorem d_Tokens_readRun_142 : decode b_Tokens_readRun 142 = .ok (.isub, 1) := by decide +kernel
theorem d_Tokens_readRun_143 : decode b_Tokens_readRun 143 = .ok (.istore_n 2, 1) := by decide +kernel
theorem d_Tokens_readRun_144 : decode b_Tokens_readRun 144 = .ok (.aload_n 0, 1) := by decide +kernel
theorem d_Tokens_readRun_145 : decode b_Tokens_readRun 145 = .ok (.iconst 4, 1) := by decide +kernel
theorem d_Tokens_readRun_146 : decode b_Tokens_readRun 146 = .ok (.putfield 46, 3) := by decide +kernel
theorem d_Tokens_readRun_149 : decode b_Tokens_readRun 149 = .ok (.iload_n 1, 1) := by decide +kernel
theorem d_Tokens_readRun_150 : decode b_Tokens_readRun 150 = .ok (.ifCond .ne 28, 3) := by decide +kernel
theorem d_Tokens_readRun_153 : decode b_Tokens_readRun 153 = .ok (.iload_n 2, 1) := by decide +kernel
theorem d_Tokens_readRun_154 : decode b_Tokens_readRun 154 = .ok (.bipush 7, 2) := by decide +kernel
theorem d_Tokens_readRun_156 : decode b_Tokens_readRun 156 = .ok (.if_icmp .gt 22, 3) := by decide +kernel
theorem d_Tokens_readRun_159 : decode b_Tokens_readRun 159 = .ok (.aload_n 0, 1) := by decide +kernel
theorem d_Tokens_readRun_160 : decode b_Tokens_readRun 160 = .ok (.iconst 1, 1) := by decide +kernel
theorem d_Tokens_readRun_161 : decode b_Tokens_readRun 161 = .ok (.putfield 46, 3) := by decide +kernel
theorem d_Tokens_readRun_164 : decode b_Tokens_readRun 164 = .ok (.aload_n 0, 1) := by decide +kernel
theorem d_Tokens_readRun_165 : decode b_Tokens_readRun 165 = .ok (.aload_n 0, 1) := by decide +kernel
theorem d_Tokens_readRun_166 : decode b_Tokens_readRun 166 = .ok (.getfield 55, 3) := by decide +kernel
theorem d_Tokens_readRun_169 : decode b_Tokens_readRun 169 = .ok (.invokestatic 70, 3) := by decide +kernel
theorem d_Tokens_readRun_172 : decode b_Tokens_readRun 172 = .ok (.putfield 43, 3) := by decide +kernel
theorem d_Tokens_readRun_175 : decode b_Tokens_readRun 175 = .ok (.goto 18, 3) := by decide +kernel
theorem d_Tokens_readRun_178 : decode b_Tokens_readRun 178 = .ok (.iload_n 1, 1) := by decide +kernel
theorem d_Tokens_readRun_179 : decode b_Tokens_readRun 179 = .ok (.iload_n 2, 1) := by decide +kernel
theorem d_Tokens_readRun_180 : decode b_Tokens_readRun 180 = .ok (.if_icmp .ne 13, 3) := by decide +kernel
theorem d_Tokens_readRun_183 : decode b_Tokens_readRun 183 = .ok (.iload_n 2, 1) := by decide +kernel
theorem d_Tokens_readRun_184 : decode b_Tokens_readRun 184 = .ok (.iconst 2, 1) := by decide +kernel
theorem d_Tokens_readRun_185 : decode b_Tokens_readRun 185 = .ok (.if_icmp .gt 8, 3) := by decide +kernel
theorem d_Tokens_readRun_188 : decode b_Tokens_readRun 188 = .ok (.aload_n 0, 1) := by decide +kernel
theorem d_Tokens_readRun_189 : decode b_Tokens_readRun 189 = .ok (.iconst 2, 1) := by decide +kernel
theorem d_Tokens_readRun_190 : decode b_Tokens_readRun 190 = .ok (.putfield 46, 3) := by decide +kernel
theorem d_Tokens_readRun_193 : decode b_Tokens_readRun 193 = .ok (.return_, 1) := by decide +kernel
noncomputable def f_Tokens_readRun_J178 (z : Nat → Nat) (o : Nat) (v1 : Int32) (v2 : Int32) (m178 : Mm) : Option (Mm) :=
  if v1 = v2 then (
    if (2 : Int32) < v2 then (
      some m178
    ) else (
      mm_lt (kI m178 o 4 (2 : Int32)) fun m190 =>
      some m190
    )
  ) else (
    some m178
  )
noncomputable def f_Tokens_readRun_J134 (z : Nat → Nat) (o : Nat) (v1 : Int32) (m134 : Mm) : Option (Mm) :=
  mm_lt (((m134.1 o 3) - (m134.1 o 5))) fun x143 =>
  mm_lt (kI m134 o 4 (4 : Int32)) fun m146 =>
  if v1 = 0 then (
    if (7 : Int32) < x143 then (
      f_Tokens_readRun_J178 z o v1 x143 m146
    ) else (
      mm_lt (kI m146 o 4 (1 : Int32)) fun m161 =>
      (f_Words_numberOf z m161 (m161.2 o 7)).bind fun q169 =>
      mm_lt (kI m161 o 8 q169) fun m172 =>
      some m172
    )
  ) else (
    f_Tokens_readRun_J178 z o v1 x143 m146
  )
noncomputable def f_Tokens_readRun_J65 (z : Nat → Nat) (o : Nat) (v1 : Int32) (m65 : Mm) : Option ((Int32 × Mm) ⊕ (Int32 × Mm)) :=
  (f_Row_at z m65 (o + 1) (m65.1 o 3)).bind fun q73 =>
  (f_Tokens_isDigit z m65 q73).bind fun q78 =>
  if q78 = 0 then (
    mm_lt (kL m65 o 7 (((m65.2 o 7) * (128 : Int64)) + (Int32.toInt64 q73))) fun m118 =>
    mm_lt (kI m118 o 3 ((m118.1 o 3) + (1 : Int32))) fun m128 =>
    some (.inl (v1, m128))
  ) else (
    mm_lt (kI m65 o 6 (((m65.1 o 6) * (10 : Int32)) + (q73 - (48 : Int32)))) fun m97 =>
    mm_lt (v1 + (1 : Int32)) fun x100 =>
    mm_lt (kI m97 o 3 ((m97.1 o 3) + (1 : Int32))) fun m128 =>
    some (.inl (x100, m128))
  )
noncomputable def f_Tokens_readRun_L20 (z : Nat → Nat) (o : Nat) (s20 : Int32 × Mm) : Option ((Int32 × Mm) ⊕ (Int32 × Mm)) :=
  if (s20.2.1 o 1) ≤ (s20.2.1 o 3) then (
    some (.inr (s20.1, s20.2))
  ) else (
    (f_Row_at z s20.2 (o + 1) (s20.2.1 o 3)).bind fun q39 =>
    (f_Tokens_isDigit z s20.2 q39).bind fun q42 =>
    if q42 = 0 then (
      (f_Row_at z s20.2 (o + 1) (s20.2.1 o 3)).bind fun q56 =>
      (f_Tokens_isLetter z s20.2 q56).bind fun q59 =>
      if q59 = 0 then (
        some (.inr (s20.1, s20.2))
      ) else (
        f_Tokens_readRun_J65 z o s20.1 s20.2
      )
    ) else (
      f_Tokens_readRun_J65 z o s20.1 s20.2
    )
  )
noncomputable def f_Tokens_readRun (z : Nat → Nat) (σ : Mm) (o : Nat) : Option (Mm) :=
  mm_lt (kI σ o 6 (0 : Int32)) fun m4 =>
  mm_lt (kL m4 o 7 (0 : Int64)) fun m9 =>
  mm_lt (kI m9 o 3 (m9.1 o 5)) fun m17 =>
  (mm_lp (f_Tokens_readRun_L20 z o) ((0 : Int32), m17)).bind (fun q20 =>
    f_Tokens_readRun_J134 z o q20.1 q20.2)
set_option maxHeartbeats 4000000 in
set_option maxRecDepth 100000 in
theorem c_Tokens_readRun (l : Launch) {L : Ly} (hg : gd_ok L) {σ : Mm} {o : Nat} (k_o_0 : ly_k L o = 8) {res : Mm} (hf0 : f_Tokens_readRun (ly_z L) σ o = some res) : CtV l y_Tokens_readRun b_Tokens_readRun 3 (none) rm_Tokens_readRun L [.ref (ly_a L o)] σ res := by
  refine ct_v hg (by decide) (Nat.le_of_ble_eq_true rfl) ?_
  intro E A Q hE C hN
  subst hE
  have k_o_1 : ly_k L (o + 1) = 0 := gd_Tokens_tape hg k_o_0
  unfold f_Tokens_readRun at hf0
  show GW E L A 3 0 0 Q σ 0 [(0, .ref (ly_a L o))] []
  have hj178 : ∀ (v1 : Int32) (v2 : Int32) (m178 : Mm), f_Tokens_readRun_J178 (ly_z L) o v1 v2 m178 = some res → GW E L A 3 0 0 Q m178 178 [(0, .ref (ly_a L o)), (1, .int v1), (2, .int v2)] [] := by
    intro v1 v2 m178 hf0
    unfold f_Tokens_readRun_J178 at hf0
    refine gw_iload_n C 1 d_Tokens_readRun_178 rfl rfl ?_
    refine gw_iload_n C 2 d_Tokens_readRun_179 rfl rfl ?_
    refine gw_icmp_ne C 193 d_Tokens_readRun_180 (by decide) (fun hc => ?_) (fun hc => ?_)
    · replace hf0 := mx_f hc hf0
      exact en_v hN hf0 d_Tokens_readRun_193
    · replace hf0 := mx_t hc hf0
      refine gw_iload_n C 2 d_Tokens_readRun_183 rfl rfl ?_
      refine gw_iconst C (2 : Int32) d_Tokens_readRun_184 (by decide) ?_
      refine gw_icmp_gt C 193 d_Tokens_readRun_185 (by decide) (fun hc => ?_) (fun hc => ?_)
      · replace hf0 := mx_t hc hf0
        exact en_v hN hf0 d_Tokens_readRun_193
      · replace hf0 := mx_f hc hf0
        refine gw_aload_n C 0 d_Tokens_readRun_188 rfl rfl ?_
        refine gw_iconst C (2 : Int32) d_Tokens_readRun_189 (by decide) ?_
        obtain ⟨m190, em190, hf0⟩ := mx_lt hf0
        refine gw_putI t_Tokens C 4 d_Tokens_readRun_190 k_o_0 (by decide) i_Tokens rfl rfl (by decide) qw_61 rfl rfl t_Tokens_ok n_Tokens rfl (t_Tokens_ok 4 (by decide)) rfl rfl em190 ?_
        exact en_v hN hf0 d_Tokens_readRun_193
  have hj134 : ∀ (v1 : Int32) (m134 : Mm), f_Tokens_readRun_J134 (ly_z L) o v1 m134 = some res → GW E L A 3 0 0 Q m134 134 [(0, .ref (ly_a L o)), (1, .int v1)] [] := by
    intro v1 m134 hf0
    unfold f_Tokens_readRun_J134 at hf0
    refine gw_aload_n C 0 d_Tokens_readRun_134 rfl rfl ?_
    refine gw_getI C 3 d_Tokens_readRun_135 k_o_0 (by decide) i_Tokens rfl rfl (by decide) qw_59 rfl rfl ?_
    refine gw_aload_n C 0 d_Tokens_readRun_138 rfl rfl ?_
    refine gw_getI C 5 d_Tokens_readRun_139 k_o_0 (by decide) i_Tokens rfl rfl (by decide) qw_63 rfl rfl ?_
    refine gw_isub C d_Tokens_readRun_142 ?_
    obtain ⟨x143, ex143, hf0⟩ := mx_lt hf0
    refine gw_topi ex143 ?_
    refine gw_istore_n C [(2, .int x143), (0, .ref (ly_a L o)), (1, .int v1)] d_Tokens_readRun_143 rfl (by decide) rfl ?_
    refine gw_aload_n C 1 d_Tokens_readRun_144 rfl rfl ?_
    refine gw_iconst C (4 : Int32) d_Tokens_readRun_145 (by decide) ?_
    obtain ⟨m146, em146, hf0⟩ := mx_lt hf0
    refine gw_putI t_Tokens C 4 d_Tokens_readRun_146 k_o_0 (by decide) i_Tokens rfl rfl (by decide) qw_61 rfl rfl t_Tokens_ok n_Tokens rfl (t_Tokens_ok 4 (by decide)) rfl rfl em146 ?_
    refine gw_iload_n C 2 d_Tokens_readRun_149 rfl rfl ?_
    refine gw_if_ne C 178 d_Tokens_readRun_150 (by decide) (fun hc => ?_) (fun hc => ?_)
    · replace hf0 := mx_f hc hf0
      exact gw_go [1, 2, 0] (hj178 _ _ _ hf0) rfl
    · replace hf0 := mx_t hc hf0
      refine gw_iload_n C 0 d_Tokens_readRun_153 rfl rfl ?_
      refine gw_bipush C (7 : Int32) d_Tokens_readRun_154 (by decide) ?_
      refine gw_icmp_gt C 178 d_Tokens_readRun_156 (by decide) (fun hc => ?_) (fun hc => ?_)
      · replace hf0 := mx_t hc hf0
        exact gw_go [1, 2, 0] (hj178 _ _ _ hf0) rfl
      · replace hf0 := mx_f hc hf0
        refine gw_aload_n C 1 d_Tokens_readRun_159 rfl rfl ?_
        refine gw_iconst C (1 : Int32) d_Tokens_readRun_160 (by decide) ?_
        obtain ⟨m161, em161, hf0⟩ := mx_lt hf0
        refine gw_putI t_Tokens C 4 d_Tokens_readRun_161 k_o_0 (by decide) i_Tokens rfl rfl (by decide) qw_61 rfl rfl t_Tokens_ok n_Tokens rfl (t_Tokens_ok 4 (by decide)) rfl rfl em161 ?_
        refine gw_aload_n C 1 d_Tokens_readRun_164 rfl rfl ?_
        refine gw_aload_n C 1 d_Tokens_readRun_165 rfl rfl ?_
        refine gw_getL C 7 d_Tokens_readRun_166 k_o_0 (by decide) i_Tokens rfl rfl (by decide) qw_66 rfl rfl ?_
        obtain ⟨q169, hq169, hf0⟩ := mx_bd hf0
        refine gw_callIS C (c_Words_numberOf _ hg hq169) d_Tokens_readRun_169 1 qw_503 qw_504 qw_14 qw_505 hd_Words_numberOf rfl rfl (Nat.le_of_ble_eq_true rfl) ⟨rfl, rfl, Nat.le_of_ble_eq_true rfl, Nat.le_of_ble_eq_true rfl⟩ ⟨Nat.zero_le _, Nat.zero_le _⟩ ?_
        obtain ⟨m172, em172, hf0⟩ := mx_lt hf0
        refine gw_putI t_Tokens C 8 d_Tokens_readRun_172 k_o_0 (by decide) i_Tokens rfl rfl (by decide) qw_68 rfl rfl t_Tokens_ok n_Tokens rfl (t_Tokens_ok 8 (by decide)) rfl rfl em172 ?_
        refine gw_goto C 193 d_Tokens_readRun_175 (by decide) ?_
        exact en_v hN hf0 d_Tokens_readRun_193
  refine gw_iconst C (0 : Int32) d_Tokens_readRun_0 (by decide) ?_
  refine gw_istore_n C [(1, .int (0 : Int32)), (0, .ref (ly_a L o))] d_Tokens_readRun_1 rfl (by decide) rfl ?_
  refine gw_aload_n C 1 d_Tokens_readRun_2 rfl rfl ?_
  refine gw_iconst C (0 : Int32) d_Tokens_readRun_3 (by decide) ?_
  obtain ⟨m4, em4, hf0⟩ := mx_lt hf0
  refine gw_putI t_Tokens C 6 d_Tokens_readRun_4 k_o_0 (by decide) i_Tokens rfl rfl (by decide) qw_64 rfl rfl t_Tokens_ok n_Tokens rfl (t_Tokens_ok 6 (by decide)) rfl rfl em4 ?_
  refine gw_aload_n C 1 d_Tokens_readRun_7 rfl rfl ?_
  refine gw_lconst C (0 : Int64) d_Tokens_readRun_8 (by decide) ?_
  obtain ⟨m9, em9, hf0⟩ := mx_lt hf0
  refine gw_putL t_Tokens C 7 d_Tokens_readRun_9 k_o_0 (by decide) i_Tokens rfl rfl (by decide) qw_66 rfl rfl t_Tokens_ok n_Tokens rfl (t_Tokens_ok 7 (by decide)) rfl rfl em9 ?_
  refine gw_aload_n C 1 d_Tokens_readRun_12 rfl rfl ?_
  refine gw_aload_n C 1 d_Tokens_readRun_13 rfl rfl ?_
  refine gw_getI C 5 d_Tokens_readRun_14 k_o_0 (by decide) i_Tokens rfl rfl (by decide) qw_63 rfl rfl ?_
  obtain ⟨m17, em17, hf0⟩ := mx_lt hf0
  refine gw_putI t_Tokens C 3 d_Tokens_readRun_17 k_o_0 (by decide) i_Tokens rfl rfl (by decide) qw_59 rfl rfl t_Tokens_ok n_Tokens rfl (t_Tokens_ok 3 (by decide)) rfl rfl em17 ?_
  obtain ⟨q20, hq20, hf0⟩ := mx_bd hf0
  have hk20 : ∀ x9, q20 = x9 → GW E L A 3 0 0 Q x9.2 134 [(0, .ref (ly_a L o)), (1, .int x9.1)] [] := by
    intro x9 hx9
    subst hx9
    exact gw_go [0, 1] (hj134 _ _ hf0) rfl
  refine gw_sub [1, 0] (lv' := [(0, .ref (ly_a L o)), (1, .int (0 : Int32))]) rfl ?_
  refine mm_rule hq20 (P := fun (s20 : Int32 × Mm) => GW E L A 3 0 0 Q s20.2 20 [(0, .ref (ly_a L o)), (1, .int s20.1)] []) ?_
  intro s20 ih20 hx20 ⟨w20, hb20⟩
  have hj65 : ∀ (v1 : Int32) (m65 : Mm), f_Tokens_readRun_J65 (ly_z L) o v1 m65 = some w20 → GW E L A 3 0 0 Q m65 65 [(0, .ref (ly_a L o)), (1, .int v1)] [] := by
    intro v1 m65 hf1
    unfold f_Tokens_readRun_J65 at hf1
    refine gw_aload_n C 0 d_Tokens_readRun_65 rfl rfl ?_
    refine gw_getA C 0 d_Tokens_readRun_66 k_o_0 (by decide) i_Tokens rfl rfl (by decide) qw_55 rfl rfl (o + 1) rfl ?_
    refine gw_aload_n C 0 d_Tokens_readRun_69 rfl rfl ?_
    refine gw_getI C 3 d_Tokens_readRun_70 k_o_0 (by decide) i_Tokens rfl rfl (by decide) qw_59 rfl rfl ?_
    obtain ⟨q73, hq73, hf1⟩ := mx_bd hf1
    refine gw_callI C (c_Row_at _ hg k_o_1 hq73) d_Tokens_readRun_73 1 qw_488 qw_489 qw_490 qw_4 qw_491 k_o_1 (by decide) rfl hd_Row_at rfl rfl (Nat.le_of_ble_eq_true rfl) ⟨rfl, rfl, Nat.le_of_ble_eq_true rfl, Nat.le_of_ble_eq_true rfl⟩ ⟨Nat.zero_le _, Nat.zero_le _⟩ ?_
    refine gw_istore_n C [(2, .int q73), (0, .ref (ly_a L o)), (1, .int v1)] d_Tokens_readRun_76 rfl (by decide) rfl ?_
    refine gw_iload_n C 0 d_Tokens_readRun_77 rfl rfl ?_
    obtain ⟨q78, hq78, hf1⟩ := mx_bd hf1
    refine gw_callIS C (c_Tokens_isDigit _ hg hq78) d_Tokens_readRun_78 1 qw_496 qw_497 qw_3 qw_498 hd_Tokens_isDigit rfl rfl (Nat.le_of_ble_eq_true rfl) ⟨rfl, rfl, Nat.le_of_ble_eq_true rfl, Nat.le_of_ble_eq_true rfl⟩ ⟨Nat.zero_le _, Nat.zero_le _⟩ ?_
    refine gw_if_eq C 106 d_Tokens_readRun_81 (by decide) (fun hc => ?_) (fun hc => ?_)
    · replace hf1 := mx_t hc hf1
      refine gw_aload_n C 1 d_Tokens_readRun_106 rfl rfl ?_
      refine gw_aload_n C 1 d_Tokens_readRun_107 rfl rfl ?_
      refine gw_getL C 7 d_Tokens_readRun_108 k_o_0 (by decide) i_Tokens rfl rfl (by decide) qw_66 rfl rfl ?_
      refine gw_ldc2_w C d_Tokens_readRun_111 qw_502 ?_
      refine gw_lmul C d_Tokens_readRun_114 ?_
      refine gw_iload_n C 0 d_Tokens_readRun_115 rfl rfl ?_
      refine gw_i2l C d_Tokens_readRun_116 ?_
      refine gw_ladd C d_Tokens_readRun_117 ?_
      obtain ⟨m118, em118, hf1⟩ := mx_lt hf1
      refine gw_putL t_Tokens C 7 d_Tokens_readRun_118 k_o_0 (by decide) i_Tokens rfl rfl (by decide) qw_66 rfl rfl t_Tokens_ok n_Tokens rfl (t_Tokens_ok 7 (by decide)) rfl rfl em118 ?_
      refine gw_aload_n C 1 d_Tokens_readRun_121 rfl rfl ?_
      refine gw_dup C d_Tokens_readRun_122 rfl ?_
      refine gw_getI C 3 d_Tokens_readRun_123 k_o_0 (by decide) i_Tokens rfl rfl (by decide) qw_59 rfl rfl ?_
      refine gw_iconst C (1 : Int32) d_Tokens_readRun_126 (by decide) ?_
      refine gw_iadd C d_Tokens_readRun_127 ?_
      obtain ⟨m128, em128, hf1⟩ := mx_lt hf1
      refine gw_putI t_Tokens C 3 d_Tokens_readRun_128 k_o_0 (by decide) i_Tokens rfl rfl (by decide) qw_59 rfl rfl t_Tokens_ok n_Tokens rfl (t_Tokens_ok 3 (by decide)) rfl rfl em128 ?_
      refine gw_goto C 20 d_Tokens_readRun_131 (by decide) ?_
      exact gw_go [1, 2] (ih20 (v1, m128) (hb20.trans hf1.symm)) rfl
    · replace hf1 := mx_f hc hf1
      refine gw_aload_n C 1 d_Tokens_readRun_84 rfl rfl ?_
      refine gw_aload_n C 1 d_Tokens_readRun_85 rfl rfl ?_
      refine gw_getI C 6 d_Tokens_readRun_86 k_o_0 (by decide) i_Tokens rfl rfl (by decide) qw_64 rfl rfl ?_
      refine gw_bipush C (10 : Int32) d_Tokens_readRun_89 (by decide) ?_
      refine gw_imul C d_Tokens_readRun_91 ?_
      refine gw_iload_n C 0 d_Tokens_readRun_92 rfl rfl ?_
      refine gw_bipush C (48 : Int32) d_Tokens_readRun_93 (by decide) ?_
      refine gw_isub C d_Tokens_readRun_95 ?_
      refine gw_iadd C d_Tokens_readRun_96 ?_
      obtain ⟨m97, em97, hf1⟩ := mx_lt hf1
      refine gw_putI t_Tokens C 6 d_Tokens_readRun_97 k_o_0 (by decide) i_Tokens rfl rfl (by decide) qw_64 rfl rfl t_Tokens_ok n_Tokens rfl (t_Tokens_ok 6 (by decide)) rfl rfl em97 ?_
      obtain ⟨x100, ex100, hf1⟩ := mx_lt hf1
      refine gw_iinc C 2 [(1, .int x100), (2, .int q73), (0, .ref (ly_a L o))] d_Tokens_readRun_100 rfl (by rw [ex100]; rfl) (by decide) rfl ?_
      refine gw_goto C 121 d_Tokens_readRun_103 (by decide) ?_
      refine gw_aload_n C 2 d_Tokens_readRun_121 rfl rfl ?_
      refine gw_dup C d_Tokens_readRun_122 rfl ?_
      refine gw_getI C 3 d_Tokens_readRun_123 k_o_0 (by decide) i_Tokens rfl rfl (by decide) qw_59 rfl rfl ?_
      refine gw_iconst C (1 : Int32) d_Tokens_readRun_126 (by decide) ?_
      refine gw_iadd C d_Tokens_readRun_127 ?_
      obtain ⟨m128, em128, hf1⟩ := mx_lt hf1
      refine gw_putI t_Tokens C 3 d_Tokens_readRun_128 k_o_0 (by decide) i_Tokens rfl rfl (by decide) qw_59 rfl rfl t_Tokens_ok n_Tokens rfl (t_Tokens_ok 3 (by decide)) rfl rfl em128 ?_
      refine gw_goto C 20 d_Tokens_readRun_131 (by decide) ?_
      exact gw_go [2, 0] (ih20 (x100, m128) (hb20.trans hf1.symm)) rfl
  have hf1 := hb20
  unfold f_Tokens_readRun_L20 at hf1
  refine gw_aload_n C 0 d_Tokens_readRun_20 rfl rfl ?_
  refine gw_getI C 3 d_Tokens_readRun_21 k_o_0 (by decide) i_Tokens rfl rfl (by decide) qw_59 rfl rfl ?_
  refine gw_aload_n C 0 d_Tokens_readRun_24 rfl rfl ?_
  refine gw_getI C 1 d_Tokens_readRun_25 k_o_0 (by decide) i_Tokens rfl rfl (by decide) qw_57 rfl rfl ?_
  refine gw_icmp_ge C 134 d_Tokens_readRun_28 (by decide) (fun hc => ?_) (fun hc => ?_)
  · replace hf1 := mx_t hc hf1
    exact gw_go [0, 1] (hk20 (s20.1, s20.2) (hx20 _ (hb20.trans hf1.symm)).symm) rfl
  · replace hf1 := mx_f hc hf1
    refine gw_aload_n C 0 d_Tokens_readRun_31 rfl rfl ?_
    refine gw_getA C 0 d_Tokens_readRun_32 k_o_0 (by decide) i_Tokens rfl rfl (by decide) qw_55 rfl rfl (o + 1) rfl ?_
    refine gw_aload_n C 0 d_Tokens_readRun_35 rfl rfl ?_
    refine gw_getI C 3 d_Tokens_readRun_36 k_o_0 (by decide) i_Tokens rfl rfl (by decide) qw_59 rfl rfl ?_
    obtain ⟨q39, hq39, hf1⟩ := mx_bd hf1
    refine gw_callI C (c_Row_at _ hg k_o_1 hq39) d_Tokens_readRun_39 1 qw_488 qw_489 qw_490 qw_4 qw_491 k_o_1 (by decide) rfl hd_Row_at rfl rfl (Nat.le_of_ble_eq_true rfl) ⟨rfl, rfl, Nat.le_of_ble_eq_true rfl, Nat.le_of_ble_eq_true rfl⟩ ⟨Nat.zero_le _, Nat.zero_le _⟩ ?_
    obtain ⟨q42, hq42, hf1⟩ := mx_bd hf1
    refine gw_callIS C (c_Tokens_isDigit _ hg hq42) d_Tokens_readRun_42 1 qw_496 qw_497 qw_3 qw_498 hd_Tokens_isDigit rfl rfl (Nat.le_of_ble_eq_true rfl) ⟨rfl, rfl, Nat.le_of_ble_eq_true rfl, Nat.le_of_ble_eq_true rfl⟩ ⟨Nat.zero_le _, Nat.zero_le _⟩ ?_
    refine gw_if_ne C 65 d_Tokens_readRun_45 (by decide) (fun hc => ?_) (fun hc => ?_)
    · replace hf1 := mx_f hc hf1
      exact gw_go [0, 1] (hj65 _ _ hf1) rfl
    · replace hf1 := mx_t hc hf1
      refine gw_aload_n C 0 d_Tokens_readRun_48 rfl rfl ?_
      refine gw_getA C 0 d_Tokens_readRun_49 k_o_0 (by decide) i_Tokens rfl rfl (by decide) qw_55 rfl rfl (o + 1) rfl ?_
      refine gw_aload_n C 0 d_Tokens_readRun_52 rfl rfl ?_
      refine gw_getI C 3 d_Tokens_readRun_53 k_o_0 (by decide) i_Tokens rfl rfl (by decide) qw_59 rfl rfl ?_
      obtain ⟨q56, hq56, hf1⟩ := mx_bd hf1
      refine gw_callI C (c_Row_at _ hg k_o_1 hq56) d_Tokens_readRun_56 1 qw_488 qw_489 qw_490 qw_4 qw_491 k_o_1 (by decide) rfl hd_Row_at rfl rfl (Nat.le_of_ble_eq_true rfl) ⟨rfl, rfl, Nat.le_of_ble_eq_true rfl, Nat.le_of_ble_eq_true rfl⟩ ⟨Nat.zero_le _, Nat.zero_le _⟩ ?_
      obtain ⟨q59, hq59, hf1⟩ := mx_bd hf1
      refine gw_callIS C (c_Tokens_isLetter _ hg hq59) d_Tokens_readRun_59 1 qw_499 qw_500 qw_3 qw_501 hd_Tokens_isLetter rfl rfl (Nat.le_of_ble_eq_true rfl) ⟨rfl, rfl, Nat.le_of_ble_eq_true rfl, Nat.le_of_ble_eq_true rfl⟩ ⟨Nat.zero_le _, Nat.zero_le _⟩ ?_
      refine gw_if_eq C 134 d_Tokens_readRun_62 (by decide) (fun hc => ?_) (fun hc => ?_)
      · replace hf1 := mx_t hc hf1
        exact gw_go [0, 1] (hk20 (s20.1, s20.2) (hx20 _ (hb20.trans hf1.symm)).symm) rfl
      · replace hf1 := mx_f hc hf1
        exact gw_go [0, 1] (hj65 _ _ hf1) rfl

/-! NameHat.Tokens.step()V -/
abbrev b_Tokens_step : ByteArray := prog_11_method_3_code
def y_Tokens_step : MethodName := ⟨"NameHat$Tokens", "step", "()V"⟩
abbrev rm_Tokens_step : Room := { frames := 8, cells := 0, slots := 0, locals := 447 }
theorem hd_Tokens_step : y_Tokens_step.cls ≠ "java/lang/invoke/MethodHandle" ∧ y_Tokens_step.cls ≠ "java/lang/invoke/VarHandle" ∧ (parseMethodDescriptor y_Tokens_step.desc).map (fun d => d.parameters.length) = some 0 := by decide +kernel
theorem d_Tokens_step_0 : decode b_Tokens_step 0 = .ok (.aload_n 0, 1) := by decide +kernel
theorem d_Tokens_step_1 : decode b_Tokens_step 1 = .ok (.getfield 20, 3) := by decide +kernel
theorem d_Tokens_step_4 : decode b_Tokens_step 4 = .ok (.aload_n 0, 1) := by decide +kernel
theorem d_Tokens_step_5 : decode b_Tokens_step 5 = .ok (.getfield 24, 3) := by decide +kernel
theorem d_Tokens_step_8 : decode b_Tokens_step 8 = .ok (.invokestatic 30, 3) := by decide +kernel
theorem d_Tokens_step_11 : decode b_Tokens_step 11 = .ok (.istore_n 1, 1) := by decide +kernel
theorem d_Tokens_step_12 : decode b_Tokens_step 12 = .ok (.aload_n 0, 1) := by decide +kernel
theorem d_Tokens_step_13 : decode b_Tokens_step 13 = .ok (.aload_n 0, 1) := by decide +kernel
theorem d_Tokens_step_14 : decode b_Tokens_step 14 = .ok (.getfield 27, 3) := by decide +kernel
theorem d_Tokens_step_17 : decode b_Tokens_step 17 = .ok (.putfield 36, 3) := by decide +kernel
theorem d_Tokens_step_20 : decode b_Tokens_step 20 = .ok (.aload_n 0, 1) := by decide +kernel
theorem d_Tokens_step_21 : decode b_Tokens_step 21 = .ok (.getfield 36, 3) := by decide +kernel
theorem d_Tokens_step_24 : decode b_Tokens_step 24 = .ok (.iload_n 1, 1) := by decide +kernel
theorem d_Tokens_step_25 : decode b_Tokens_step 25 = .ok (.if_icmp .ge 48, 3) := by decide +kernel
theorem d_Tokens_step_28 : decode b_Tokens_step 28 = .ok (.aload_n 0, 1) := by decide +kernel
theorem d_Tokens_step_29 : decode b_Tokens_step 29 = .ok (.getfield 14, 3) := by decide +kernel
theorem d_Tokens_step_32 : decode b_Tokens_step 32 = .ok (.aload_n 0, 1) := by decide +kernel
theorem d_Tokens_step_33 : decode b_Tokens_step 33 = .ok (.getfield 36, 3) := by decide +kernel
theorem d_Tokens_step_36 : decode b_Tokens_step 36 = .ok (.invokevirtual 39, 3) := by decide +kernel
theorem d_Tokens_step_39 : decode b_Tokens_step 39 = .ok (.bipush 32, 2) := by decide +kernel
theorem d_Tokens_step_41 : decode b_Tokens_step 41 = .ok (.if_icmp .eq 19, 3) := by decide +kernel
theorem d_Tokens_step_44 : decode b_Tokens_step 44 = .ok (.aload_n 0, 1) := by decide +kernel
theorem d_Tokens_step_45 : decode b_Tokens_step 45 = .ok (.getfield 14, 3) := by decide +kernel
theorem d_Tokens_step_48 : decode b_Tokens_step 48 = .ok (.aload_n 0, 1) := by decide +kernel
theorem d_Tokens_step_49 : decode b_Tokens_step 49 = .ok (.getfield 36, 3) := by decide +kernel
theorem d_Tokens_step_52 : decode b_Tokens_step 52 = .ok (.invokevirtual 39, 3) := by decide +kernel
theorem d_Tokens_step_55 : decode b_Tokens_step 55 = .ok (.bipush 10, 2) := by decide +kernel
theorem d_Tokens_step_57 : decode b_Tokens_step 57 = .ok (.if_icmp .ne 16, 3) := by decide +kernel
theorem d_Tokens_step_60 : decode b_Tokens_step 60 = .ok (.aload_n 0, 1) := by decide +kernel
theorem d_Tokens_step_61 : decode b_Tokens_step 61 = .ok (.dup, 1) := by decide +kernel
theorem d_Tokens_step_62 : decode b_Tokens_step 62 = .ok (.getfield 36, 3) := by decide +kernel
theorem d_Tokens_step_65 : decode b_Tokens_step 65 = .ok (.iconst 1, 1) := by decide +kernel
theorem d_Tokens_step_66 : decode b_Tokens_step 66 = .ok (.iadd, 1) := by decide +kernel
theorem d_Tokens_step_67 : decode b_Tokens_step 67 = .ok (.putfield 36, 3) := by decide +kernel
theorem d_Tokens_step_70 : decode b_Tokens_step 70 = .ok (.goto (-50), 3) := by decide +kernel
theorem d_Tokens_step_73 : decode b_Tokens_step 73 = .ok (.aload_n 0, 1) := by decide +kernel
theorem d_Tokens_step_74 : decode b_Tokens_step 74 = .ok (.iconst (-1), 1) := by decide +kernel
theorem d_Tokens_step_75 : decode b_Tokens_step 75 = .ok (.putfield 43, 3) := by decide +kernel
theorem d_Tokens_step_78 : decode b_Tokens_step 78 = .ok (.aload_n 0, 1) := by decide +kernel
theorem d_Tokens_step_79 : decode b_Tokens_step 79 = .ok (.getfield 36, 3) := by decide +kernel
theorem d_Tokens_step_82 : decode b_Tokens_step 82 = .ok (.iload_n 1, 1) := by decide +kernel
theorem d_Tokens_step_83 : decode b_Tokens_step 83 = .ok (.if_icmp .lt 29, 3) := by decide +kernel
theorem d_Tokens_step_86 : decode b_Tokens_step 86 = .ok (.aload_n 0, 1) := by decide +kernel
theorem d_Tokens_step_87 : decode b_Tokens_step 87 = .ok (.iload_n 1, 1) := by decide +kernel
theorem d_Tokens_step_88 : decode b_Tokens_step 88 = .ok (.putfield 36, 3) := by decide +kernel
theorem d_Tokens_step_91 : decode b_Tokens_step 91 = .ok (.aload_n 0, 1) := by decide +kernel
theorem d_Tokens_step_92 : decode b_Tokens_step 92 = .ok (.aload_n 0, 1) := by decide +kernel
theorem d_Tokens_step_93 : decode b_Tokens_step 93 = .ok (.getfield 20, 3) := by decide +kernel
theorem d_Tokens_step_96 : decode b_Tokens_step 96 = .ok (.aload_n 0, 1) := by decide +kernel
theorem d_Tokens_step_97 : decode b_Tokens_step 97 = .ok (.getfield 24, 3) := by decide +kernel
theorem d_Tokens_step_100 : decode b_Tokens_step 100 = .ok (.if_icmp .le 7, 3) := by decide +kernel
theorem d_Tokens_step_103 : decode b_Tokens_step 103 = .ok (.iconst 4, 1) := by decide +kernel
theorem d_Tokens_step_104 : decode b_Tokens_step 104 = .ok (.goto 4, 3) := by decide +kernel
theorem d_Tokens_step_107 : decode b_Tokens_step 107 = .ok (.iconst 0, 1) := by decide +kernel
theorem d_Tokens_step_108 : decode b_Tokens_step 108 = .ok (.putfield 46, 3) := by decide +kernel
theorem d_Tokens_step_111 : decode b_Tokens_step 111 = .ok (.return_, 1) := by decide +kernel
theorem d_Tokens_step_112 : decode b_Tokens_step 112 = .ok (.aload_n 0, 1) := by decide +kernel
theorem d_Tokens_step_113 : decode b_Tokens_step 113 = .ok (.invokevirtual 49, 3) := by decide +kernel
theorem d_Tokens_step_116 : decode b_Tokens_step 116 = .ok (.aload_n 0, 1) := by decide +kernel
theorem d_Tokens_step_117 : decode b_Tokens_step 117 = .ok (.getfield 27, 3) := by decide +kernel
theorem d_Tokens_step_120 : decode b_Tokens_step 120 = .ok (.aload_n 0, 1) := by decide +kernel
theorem d_Tokens_step_121 : decode b_Tokens_step 121 = .ok (.getfield 36, 3) := by decide +kernel
theorem d_Tokens_step_124 : decode b_Tokens_step 124 = .ok (.if_icmp .ne 38, 3) := by decide +kernel
theorem d_Tokens_step_127 : decode b_Tokens_step 127 = .ok (.aload_n 0, 1) := by decide +kernel
theorem d_Tokens_step_128 : decode b_Tokens_step 128 = .ok (.aload_n 0, 1) := by decide +kernel
theorem d_Tokens_step_129 : decode b_Tokens_step 129 = .ok (.getfield 14, 3) := by decide +kernel
theorem d_Tokens_step_132 : decode b_Tokens_step 132 = .ok (.aload_n 0, 1) := by decide +kernel
theorem d_Tokens_step_133 : decode b_Tokens_step 133 = .ok (.getfield 36, 3) := by decide +kernel
theorem d_Tokens_step_136 : decode b_Tokens_step 136 = .ok (.invokevirtual 39, 3) := by decide +kernel
theorem d_Tokens_step_139 : decode b_Tokens_step 139 = .ok (.bipush 59, 2) := by decide +kernel
theorem d_Tokens_step_141 : decode b_Tokens_step 141 = .ok (.if_icmp .ne 7, 3) := by decide +kernel
theorem d_Tokens_step_144 : decode b_Tokens_step 144 = .ok (.iconst 3, 1) := by decide +kernel
theorem d_Tokens_step_145 : decode b_Tokens_step 145 = .ok (.goto 4, 3) := by decide +kernel
theorem d_Tokens_step_148 : decode b_Tokens_step 148 = .ok (.iconst 4, 1) := by decide +kernel
theorem d_Tokens_step_149 : decode b_Tokens_step 149 = .ok (.putfield 46, 3) := by decide +kernel
theorem d_Tokens_step_152 : decode b_Tokens_step 152 = .ok (.aload_n 0, 1) := by decide +kernel
theorem d_Tokens_step_153 : decode b_Tokens_step 153 = .ok (.aload_n 0, 1) := by decide +kernel
theorem d_Tokens_step_154 : decode b_Tokens_step 154 = .ok (.getfield 36, 3) := by decide +kernel
theorem d_Tokens_step_157 : decode b_Tokens_step 157 = .ok (.iconst 1, 1) := by decide +kernel
theorem d_Tokens_step_158 : decode b_Tokens_step 158 = .ok (.iadd, 1) := by decide +kernel
theorem d_Tokens_step_159 : decode b_Tokens_step 159 = .ok (.putfield 27, 3) := by decide +kernel
theorem d_Tokens_step_162 : decode b_Tokens_step 162 = .ok (.return_, 1) := by decide +kernel
noncomputable def f_Tokens_step_J73 (z : Nat → Nat) (o : Nat) (v1 : Int32) (m73 : Mm) : Option (Mm) :=
  mm_lt (kI m73 o 8 ((-1) : Int32)) fun m75 =>
  if (m75.1 o 5) < v1 then (
    (f_Tokens_readRun z m75 o).bind fun q113 =>
    if (q113.1 o 3) = (q113.1 o 5) then (
      (f_Row_at z q113 (o + 1) (q113.1 o 5)).bind fun q136 =>
      if q136 = (59 : Int32) then (
        mm_lt (kI q113 o 4 (3 : Int32)) fun m149 =>
        mm_lt (kI m149 o 3 ((m149.1 o 5) + (1 : Int32))) fun m159 =>
        some m159
      ) else (
        mm_lt (kI q113 o 4 (4 : Int32)) fun m149 =>
        mm_lt (kI m149 o 3 ((m149.1 o 5) + (1 : Int32))) fun m159 =>
        some m159
      )
    ) else (
      some q113
    )
  ) else (
    mm_lt (kI m75 o 5 v1) fun m88 =>
    if (m88.1 o 1) ≤ (m88.1 o 2) then (
      mm_lt (kI m88 o 4 (0 : Int32)) fun m108 =>
      some m108
    ) else (
      mm_lt (kI m88 o 4 (4 : Int32)) fun m108 =>
      some m108
    )
  )
noncomputable def f_Tokens_step_L20 (z : Nat → Nat) (o : Nat) (v1 : Int32) (s20 : Mm) : Option ((Mm) ⊕ (Mm)) :=
  if v1 ≤ (s20.1 o 5) then (
    some (.inr s20)
  ) else (
    (f_Row_at z s20 (o + 1) (s20.1 o 5)).bind fun q36 =>
    if q36 = (32 : Int32) then (
      mm_lt (kI s20 o 5 ((s20.1 o 5) + (1 : Int32))) fun m67 =>
      some (.inl m67)
    ) else (
      (f_Row_at z s20 (o + 1) (s20.1 o 5)).bind fun q52 =>
      if q52 = (10 : Int32) then (
        mm_lt (kI s20 o 5 ((s20.1 o 5) + (1 : Int32))) fun m67 =>
        some (.inl m67)
      ) else (
        some (.inr s20)
      )
    )
  )
noncomputable def f_Tokens_step (z : Nat → Nat) (σ : Mm) (o : Nat) : Option (Mm) :=
  mm_lt ((if (σ.1 o 2) < (σ.1 o 1) then (σ.1 o 2) else (σ.1 o 1))) fun x11 =>
  mm_lt (kI σ o 5 (σ.1 o 3)) fun m17 =>
  (mm_lp (f_Tokens_step_L20 z o x11) m17).bind (fun q20 =>
    f_Tokens_step_J73 z o x11 q20)
set_option maxHeartbeats 4000000 in
set_option maxRecDepth 100000 in
theorem c_Tokens_step (l : Launch) {L : Ly} (hg : gd_ok L) {σ : Mm} {o : Nat} (k_o_0 : ly_k L o = 8) {res : Mm} (hf0 : f_Tokens_step (ly_z L) σ o = some res) : CtV l y_Tokens_step b_Tokens_step 2 (none) rm_Tokens_step L [.ref (ly_a L o)] σ res := by
  refine ct_v hg (by decide) (Nat.le_of_ble_eq_true rfl) ?_
  intro E A Q hE C hN
  subst hE
  have k_o_1 : ly_k L (o + 1) = 0 := gd_Tokens_tape hg k_o_0
  unfold f_Tokens_step at hf0
  show GW E L A 2 0 0 Q σ 0 [(0, .ref (ly_a L o))] []
  have hj73 : ∀ (v1 : Int32) (m73 : Mm), f_Tokens_step_J73 (ly_z L) o v1 m73 = some res → GW E L A 2 0 0 Q m73 73 [(0, .ref (ly_a L o)), (1, .int v1)] [] := by
    intro v1 m73 hf0
    unfold f_Tokens_step_J73 at hf0
    refine gw_aload_n C 0 d_Tokens_step_73 rfl rfl ?_
    refine gw_iconst C ((-1) : Int32) d_Tokens_step_74 (by decide) ?_
    obtain ⟨m75, em75, hf0⟩ := mx_lt hf0
    refine gw_putI t_Tokens C 8 d_Tokens_step_75 k_o_0 (by decide) i_Tokens rfl rfl (by decide) qw_68 rfl rfl t_Tokens_ok n_Tokens rfl (t_Tokens_ok 8 (by decide)) rfl rfl em75 ?_
    refine gw_aload_n C 0 d_Tokens_step_78 rfl rfl ?_
    refine gw_getI C 5 d_Tokens_step_79 k_o_0 (by decide) i_Tokens rfl rfl (by decide) qw_63 rfl rfl ?_
    refine gw_iload_n C 1 d_Tokens_step_82 rfl rfl ?_
    refine gw_icmp_lt C 112 d_Tokens_step_83 (by decide) (fun hc => ?_) (fun hc => ?_)
    · replace hf0 := mx_t hc hf0
      refine gw_aload_n C 0 d_Tokens_step_112 rfl rfl ?_
      obtain ⟨q113, hq113, hf0⟩ := mx_bd hf0
      refine gw_callV C (c_Tokens_readRun _ hg k_o_0 hq113) d_Tokens_step_113 0 qw_492 qw_494 qs_1 qw_3 qw_495 k_o_0 (by decide) rfl hd_Tokens_readRun rfl rfl (Nat.le_of_ble_eq_true rfl) ⟨rfl, rfl, Nat.le_of_ble_eq_true rfl, Nat.le_of_ble_eq_true rfl⟩ ⟨Nat.zero_le _, Nat.zero_le _⟩ ?_
      refine gw_aload_n C 0 d_Tokens_step_116 rfl rfl ?_
      refine gw_getI C 3 d_Tokens_step_117 k_o_0 (by decide) i_Tokens rfl rfl (by decide) qw_59 rfl rfl ?_
      refine gw_aload_n C 0 d_Tokens_step_120 rfl rfl ?_
      refine gw_getI C 5 d_Tokens_step_121 k_o_0 (by decide) i_Tokens rfl rfl (by decide) qw_63 rfl rfl ?_
      refine gw_icmp_ne C 162 d_Tokens_step_124 (by decide) (fun hc => ?_) (fun hc => ?_)
      · replace hf0 := mx_f hc hf0
        exact en_v hN hf0 d_Tokens_step_162
      · replace hf0 := mx_t hc hf0
        refine gw_aload_n C 0 d_Tokens_step_127 rfl rfl ?_
        refine gw_aload_n C 0 d_Tokens_step_128 rfl rfl ?_
        refine gw_getA C 0 d_Tokens_step_129 k_o_0 (by decide) i_Tokens rfl rfl (by decide) qw_55 rfl rfl (o + 1) rfl ?_
        refine gw_aload_n C 0 d_Tokens_step_132 rfl rfl ?_
        refine gw_getI C 5 d_Tokens_step_133 k_o_0 (by decide) i_Tokens rfl rfl (by decide) qw_63 rfl rfl ?_
        obtain ⟨q136, hq136, hf0⟩ := mx_bd hf0
        refine gw_callI C (c_Row_at _ hg k_o_1 hq136) d_Tokens_step_136 1 qw_488 qw_489 qw_490 qw_4 qw_491 k_o_1 (by decide) rfl hd_Row_at rfl rfl (Nat.le_of_ble_eq_true rfl) ⟨rfl, rfl, Nat.le_of_ble_eq_true rfl, Nat.le_of_ble_eq_true rfl⟩ ⟨Nat.zero_le _, Nat.zero_le _⟩ ?_
        refine gw_bipush C (59 : Int32) d_Tokens_step_139 (by decide) ?_
        refine gw_icmp_ne C 148 d_Tokens_step_141 (by decide) (fun hc => ?_) (fun hc => ?_)
        · replace hf0 := mx_f hc hf0
          refine gw_iconst C (4 : Int32) d_Tokens_step_148 (by decide) ?_
          obtain ⟨m149, em149, hf0⟩ := mx_lt hf0
          refine gw_putI t_Tokens C 4 d_Tokens_step_149 k_o_0 (by decide) i_Tokens rfl rfl (by decide) qw_61 rfl rfl t_Tokens_ok n_Tokens rfl (t_Tokens_ok 4 (by decide)) rfl rfl em149 ?_
          refine gw_aload_n C 0 d_Tokens_step_152 rfl rfl ?_
          refine gw_aload_n C 0 d_Tokens_step_153 rfl rfl ?_
          refine gw_getI C 5 d_Tokens_step_154 k_o_0 (by decide) i_Tokens rfl rfl (by decide) qw_63 rfl rfl ?_
          refine gw_iconst C (1 : Int32) d_Tokens_step_157 (by decide) ?_
          refine gw_iadd C d_Tokens_step_158 ?_
          obtain ⟨m159, em159, hf0⟩ := mx_lt hf0
          refine gw_putI t_Tokens C 3 d_Tokens_step_159 k_o_0 (by decide) i_Tokens rfl rfl (by decide) qw_59 rfl rfl t_Tokens_ok n_Tokens rfl (t_Tokens_ok 3 (by decide)) rfl rfl em159 ?_
          exact en_v hN hf0 d_Tokens_step_162
        · replace hf0 := mx_t hc hf0
          refine gw_iconst C (3 : Int32) d_Tokens_step_144 (by decide) ?_
          refine gw_goto C 149 d_Tokens_step_145 (by decide) ?_
          obtain ⟨m149, em149, hf0⟩ := mx_lt hf0
          refine gw_putI t_Tokens C 4 d_Tokens_step_149 k_o_0 (by decide) i_Tokens rfl rfl (by decide) qw_61 rfl rfl t_Tokens_ok n_Tokens rfl (t_Tokens_ok 4 (by decide)) rfl rfl em149 ?_
          refine gw_aload_n C 0 d_Tokens_step_152 rfl rfl ?_
          refine gw_aload_n C 0 d_Tokens_step_153 rfl rfl ?_
          refine gw_getI C 5 d_Tokens_step_154 k_o_0 (by decide) i_Tokens rfl rfl (by decide) qw_63 rfl rfl ?_
          refine gw_iconst C (1 : Int32) d_Tokens_step_157 (by decide) ?_
          refine gw_iadd C d_Tokens_step_158 ?_
          obtain ⟨m159, em159, hf0⟩ := mx_lt hf0
          refine gw_putI t_Tokens C 3 d_Tokens_step_159 k_o_0 (by decide) i_Tokens rfl rfl (by decide) qw_59 rfl rfl t_Tokens_ok n_Tokens rfl (t_Tokens_ok 3 (by decide)) rfl rfl em159 ?_
          exact en_v hN hf0 d_Tokens_step_162
    · replace hf0 := mx_f hc hf0
      refine gw_aload_n C 0 d_Tokens_step_86 rfl rfl ?_
      refine gw_iload_n C 1 d_Tokens_step_87 rfl rfl ?_
      obtain ⟨m88, em88, hf0⟩ := mx_lt hf0
      refine gw_putI t_Tokens C 5 d_Tokens_step_88 k_o_0 (by decide) i_Tokens rfl rfl (by decide) qw_63 rfl rfl t_Tokens_ok n_Tokens rfl (t_Tokens_ok 5 (by decide)) rfl rfl em88 ?_
      refine gw_aload_n C 0 d_Tokens_step_91 rfl rfl ?_
      refine gw_aload_n C 0 d_Tokens_step_92 rfl rfl ?_
      refine gw_getI C 1 d_Tokens_step_93 k_o_0 (by decide) i_Tokens rfl rfl (by decide) qw_57 rfl rfl ?_
      refine gw_aload_n C 0 d_Tokens_step_96 rfl rfl ?_
      refine gw_getI C 2 d_Tokens_step_97 k_o_0 (by decide) i_Tokens rfl rfl (by decide) qw_58 rfl rfl ?_
      refine gw_icmp_le C 107 d_Tokens_step_100 (by decide) (fun hc => ?_) (fun hc => ?_)
      · replace hf0 := mx_t hc hf0
        refine gw_iconst C (0 : Int32) d_Tokens_step_107 (by decide) ?_
        obtain ⟨m108, em108, hf0⟩ := mx_lt hf0
        refine gw_putI t_Tokens C 4 d_Tokens_step_108 k_o_0 (by decide) i_Tokens rfl rfl (by decide) qw_61 rfl rfl t_Tokens_ok n_Tokens rfl (t_Tokens_ok 4 (by decide)) rfl rfl em108 ?_
        exact en_v hN hf0 d_Tokens_step_111
      · replace hf0 := mx_f hc hf0
        refine gw_iconst C (4 : Int32) d_Tokens_step_103 (by decide) ?_
        refine gw_goto C 108 d_Tokens_step_104 (by decide) ?_
        obtain ⟨m108, em108, hf0⟩ := mx_lt hf0
        refine gw_putI t_Tokens C 4 d_Tokens_step_108 k_o_0 (by decide) i_Tokens rfl rfl (by decide) qw_61 rfl rfl t_Tokens_ok n_Tokens rfl (t_Tokens_ok 4 (by decide)) rfl rfl em108 ?_
        exact en_v hN hf0 d_Tokens_step_111
  refine gw_aload_n C 0 d_Tokens_step_0 rfl rfl ?_
  refine gw_getI C 1 d_Tokens_step_1 k_o_0 (by decide) i_Tokens rfl rfl (by decide) qw_57 rfl rfl ?_
  refine gw_aload_n C 0 d_Tokens_step_4 rfl rfl ?_
  refine gw_getI C 2 d_Tokens_step_5 k_o_0 (by decide) i_Tokens rfl rfl (by decide) qw_58 rfl rfl ?_
  refine gw_mmin C d_Tokens_step_8 qw_485 qw_486 qw_13 qw_487 (Nat.le_of_ble_eq_true rfl) ⟨Nat.le_of_ble_eq_true rfl, Nat.le_of_ble_eq_true rfl⟩ ⟨Nat.zero_le _, Nat.zero_le _⟩ ?_
  obtain ⟨x11, ex11, hf0⟩ := mx_lt hf0
  refine gw_topi ex11 ?_
  refine gw_istore_n C [(1, .int x11), (0, .ref (ly_a L o))] d_Tokens_step_11 rfl (by decide) rfl ?_
  refine gw_aload_n C 1 d_Tokens_step_12 rfl rfl ?_
  refine gw_aload_n C 1 d_Tokens_step_13 rfl rfl ?_
  refine gw_getI C 3 d_Tokens_step_14 k_o_0 (by decide) i_Tokens rfl rfl (by decide) qw_59 rfl rfl ?_
  obtain ⟨m17, em17, hf0⟩ := mx_lt hf0
  refine gw_putI t_Tokens C 5 d_Tokens_step_17 k_o_0 (by decide) i_Tokens rfl rfl (by decide) qw_63 rfl rfl t_Tokens_ok n_Tokens rfl (t_Tokens_ok 5 (by decide)) rfl rfl em17 ?_
  obtain ⟨q20, hq20, hf0⟩ := mx_bd hf0
  have hk20 : ∀ x9, q20 = x9 → GW E L A 2 0 0 Q x9 73 [(0, .ref (ly_a L o)), (1, .int x11)] [] := by
    intro x9 hx9
    subst hx9
    exact gw_go [0, 1] (hj73 _ _ hf0) rfl
  refine gw_sub [1, 0] (lv' := [(0, .ref (ly_a L o)), (1, .int x11)]) rfl ?_
  refine mm_rule hq20 (P := fun (s20 : Mm) => GW E L A 2 0 0 Q s20 20 [(0, .ref (ly_a L o)), (1, .int x11)] []) ?_
  intro s20 ih20 hx20 ⟨w20, hb20⟩
  have hf1 := hb20
  unfold f_Tokens_step_L20 at hf1
  refine gw_aload_n C 0 d_Tokens_step_20 rfl rfl ?_
  refine gw_getI C 5 d_Tokens_step_21 k_o_0 (by decide) i_Tokens rfl rfl (by decide) qw_63 rfl rfl ?_
  refine gw_iload_n C 1 d_Tokens_step_24 rfl rfl ?_
  refine gw_icmp_ge C 73 d_Tokens_step_25 (by decide) (fun hc => ?_) (fun hc => ?_)
  · replace hf1 := mx_t hc hf1
    exact gw_go [0, 1] (hk20 s20 (hx20 _ (hb20.trans hf1.symm)).symm) rfl
  · replace hf1 := mx_f hc hf1
    refine gw_aload_n C 0 d_Tokens_step_28 rfl rfl ?_
    refine gw_getA C 0 d_Tokens_step_29 k_o_0 (by decide) i_Tokens rfl rfl (by decide) qw_55 rfl rfl (o + 1) rfl ?_
    refine gw_aload_n C 0 d_Tokens_step_32 rfl rfl ?_
    refine gw_getI C 5 d_Tokens_step_33 k_o_0 (by decide) i_Tokens rfl rfl (by decide) qw_63 rfl rfl ?_
    obtain ⟨q36, hq36, hf1⟩ := mx_bd hf1
    refine gw_callI C (c_Row_at _ hg k_o_1 hq36) d_Tokens_step_36 1 qw_488 qw_489 qw_490 qw_4 qw_491 k_o_1 (by decide) rfl hd_Row_at rfl rfl (Nat.le_of_ble_eq_true rfl) ⟨rfl, rfl, Nat.le_of_ble_eq_true rfl, Nat.le_of_ble_eq_true rfl⟩ ⟨Nat.zero_le _, Nat.zero_le _⟩ ?_
    refine gw_bipush C (32 : Int32) d_Tokens_step_39 (by decide) ?_
    refine gw_icmp_eq C 60 d_Tokens_step_41 (by decide) (fun hc => ?_) (fun hc => ?_)
    · replace hf1 := mx_t hc hf1
      refine gw_aload_n C 0 d_Tokens_step_60 rfl rfl ?_
      refine gw_dup C d_Tokens_step_61 rfl ?_
      refine gw_getI C 5 d_Tokens_step_62 k_o_0 (by decide) i_Tokens rfl rfl (by decide) qw_63 rfl rfl ?_
      refine gw_iconst C (1 : Int32) d_Tokens_step_65 (by decide) ?_
      refine gw_iadd C d_Tokens_step_66 ?_
      obtain ⟨m67, em67, hf1⟩ := mx_lt hf1
      refine gw_putI t_Tokens C 5 d_Tokens_step_67 k_o_0 (by decide) i_Tokens rfl rfl (by decide) qw_63 rfl rfl t_Tokens_ok n_Tokens rfl (t_Tokens_ok 5 (by decide)) rfl rfl em67 ?_
      refine gw_goto C 20 d_Tokens_step_70 (by decide) ?_
      exact gw_go [0, 1] (ih20 m67 (hb20.trans hf1.symm)) rfl
    · replace hf1 := mx_f hc hf1
      refine gw_aload_n C 0 d_Tokens_step_44 rfl rfl ?_
      refine gw_getA C 0 d_Tokens_step_45 k_o_0 (by decide) i_Tokens rfl rfl (by decide) qw_55 rfl rfl (o + 1) rfl ?_
      refine gw_aload_n C 0 d_Tokens_step_48 rfl rfl ?_
      refine gw_getI C 5 d_Tokens_step_49 k_o_0 (by decide) i_Tokens rfl rfl (by decide) qw_63 rfl rfl ?_
      obtain ⟨q52, hq52, hf1⟩ := mx_bd hf1
      refine gw_callI C (c_Row_at _ hg k_o_1 hq52) d_Tokens_step_52 1 qw_488 qw_489 qw_490 qw_4 qw_491 k_o_1 (by decide) rfl hd_Row_at rfl rfl (Nat.le_of_ble_eq_true rfl) ⟨rfl, rfl, Nat.le_of_ble_eq_true rfl, Nat.le_of_ble_eq_true rfl⟩ ⟨Nat.zero_le _, Nat.zero_le _⟩ ?_
      refine gw_bipush C (10 : Int32) d_Tokens_step_55 (by decide) ?_
      refine gw_icmp_ne C 73 d_Tokens_step_57 (by decide) (fun hc => ?_) (fun hc => ?_)
      · replace hf1 := mx_f hc hf1
        exact gw_go [0, 1] (hk20 s20 (hx20 _ (hb20.trans hf1.symm)).symm) rfl
      · replace hf1 := mx_t hc hf1
        refine gw_aload_n C 0 d_Tokens_step_60 rfl rfl ?_
        refine gw_dup C d_Tokens_step_61 rfl ?_
        refine gw_getI C 5 d_Tokens_step_62 k_o_0 (by decide) i_Tokens rfl rfl (by decide) qw_63 rfl rfl ?_
        refine gw_iconst C (1 : Int32) d_Tokens_step_65 (by decide) ?_
        refine gw_iadd C d_Tokens_step_66 ?_
        obtain ⟨m67, em67, hf1⟩ := mx_lt hf1
        refine gw_putI t_Tokens C 5 d_Tokens_step_67 k_o_0 (by decide) i_Tokens rfl rfl (by decide) qw_63 rfl rfl t_Tokens_ok n_Tokens rfl (t_Tokens_ok 5 (by decide)) rfl rfl em67 ?_
        refine gw_goto C 20 d_Tokens_step_70 (by decide) ?_
        exact gw_go [0, 1] (ih20 m67 (hb20.trans hf1.symm)) rfl

/-! NameHat.Reader.nameLine()Z -/
abbrev b_Reader_nameLine : ByteArray := prog_6_method_10_code
def y_Reader_nameLine : MethodName := ⟨"NameHat$Reader", "nameLine", "()Z"⟩
abbrev rm_Reader_nameLine : Room := { frames := 9, cells := 0, slots := 0, locals := 468 }
theorem hd_Reader_nameLine : y_Reader_nameLine.cls ≠ "java/lang/invoke/MethodHandle" ∧ y_Reader_nameLine.cls ≠ "java/lang/invoke/VarHandle" ∧ (parseMethodDescriptor y_Reader_nameLine.desc).map (fun d => d.parameters.length) = some 0 := by decide +kernel
theorem d_Reader_nameLine_0 : decode b_Reader_nameLine 0 = .ok (.aload_n 0, 1) := by decide +kernel
theorem d_Reader_nameLine_1 : decode b_Reader_nameLine 1 = .ok (.getfield 21, 3) := by decide +kernel
theorem d_Reader_nameLine_4 : decode b_Reader_nameLine 4 = .ok (.getfield 84, 3) := by decide +kernel
theorem d_Reader_nameLine_7 : decode b_Reader_nameLine 7 = .ok (.astore_n 1, 1) := by decide +kernel
theorem d_Reader_nameLine_8 : decode b_Reader_nameLine 8 = .ok (.aload_n 1, 1) := by decide +kernel
theorem d_Reader_nameLine_9 : decode b_Reader_nameLine 9 = .ok (.getfield 88, 3) := by decide +kernel
theorem d_Reader_nameLine_12 : decode b_Reader_nameLine 12 = .ok (.invokevirtual 131, 3) := by decide +kernel
theorem d_Reader_nameLine_15 : decode b_Reader_nameLine 15 = .ok (.ifCond .eq 9, 3) := by decide +kernel
theorem d_Reader_nameLine_18 : decode b_Reader_nameLine 18 = .ok (.aload_n 0, 1) := by decide +kernel
theorem d_Reader_nameLine_19 : decode b_Reader_nameLine 19 = .ok (.iconst 4, 1) := by decide +kernel
theorem d_Reader_nameLine_20 : decode b_Reader_nameLine 20 = .ok (.invokevirtual 71, 3) := by decide +kernel
theorem d_Reader_nameLine_23 : decode b_Reader_nameLine 23 = .ok (.ireturn, 1) := by decide +kernel
theorem d_Reader_nameLine_24 : decode b_Reader_nameLine 24 = .ok (.aload_n 0, 1) := by decide +kernel
theorem d_Reader_nameLine_25 : decode b_Reader_nameLine 25 = .ok (.getfield 12, 3) := by decide +kernel
theorem d_Reader_nameLine_28 : decode b_Reader_nameLine 28 = .ok (.invokevirtual 46, 3) := by decide +kernel
theorem d_Reader_nameLine_31 : decode b_Reader_nameLine 31 = .ok (.aload_n 0, 1) := by decide +kernel
theorem d_Reader_nameLine_32 : decode b_Reader_nameLine 32 = .ok (.invokevirtual 134, 3) := by decide +kernel
theorem d_Reader_nameLine_35 : decode b_Reader_nameLine 35 = .ok (.ifCond .ne 5, 3) := by decide +kernel
theorem d_Reader_nameLine_38 : decode b_Reader_nameLine 38 = .ok (.iconst 0, 1) := by decide +kernel
theorem d_Reader_nameLine_39 : decode b_Reader_nameLine 39 = .ok (.ireturn, 1) := by decide +kernel
theorem d_Reader_nameLine_40 : decode b_Reader_nameLine 40 = .ok (.aload_n 1, 1) := by decide +kernel
theorem d_Reader_nameLine_41 : decode b_Reader_nameLine 41 = .ok (.getfield 88, 3) := by decide +kernel
theorem d_Reader_nameLine_44 : decode b_Reader_nameLine 44 = .ok (.aload_n 0, 1) := by decide +kernel
theorem d_Reader_nameLine_45 : decode b_Reader_nameLine 45 = .ok (.getfield 12, 3) := by decide +kernel
theorem d_Reader_nameLine_48 : decode b_Reader_nameLine 48 = .ok (.getfield 94, 3) := by decide +kernel
theorem d_Reader_nameLine_51 : decode b_Reader_nameLine 51 = .ok (.invokevirtual 137, 3) := by decide +kernel
theorem d_Reader_nameLine_54 : decode b_Reader_nameLine 54 = .ok (.istore_n 2, 1) := by decide +kernel
theorem d_Reader_nameLine_55 : decode b_Reader_nameLine 55 = .ok (.aload_n 0, 1) := by decide +kernel
theorem d_Reader_nameLine_56 : decode b_Reader_nameLine 56 = .ok (.getfield 12, 3) := by decide +kernel
theorem d_Reader_nameLine_59 : decode b_Reader_nameLine 59 = .ok (.invokevirtual 46, 3) := by decide +kernel
theorem d_Reader_nameLine_62 : decode b_Reader_nameLine 62 = .ok (.aload_n 0, 1) := by decide +kernel
theorem d_Reader_nameLine_63 : decode b_Reader_nameLine 63 = .ok (.iconst 0, 1) := by decide +kernel
theorem d_Reader_nameLine_64 : decode b_Reader_nameLine 64 = .ok (.bipush 99, 2) := by decide +kernel
theorem d_Reader_nameLine_66 : decode b_Reader_nameLine 66 = .ok (.invokevirtual 140, 3) := by decide +kernel
theorem d_Reader_nameLine_69 : decode b_Reader_nameLine 69 = .ok (.ifCond .ne 5, 3) := by decide +kernel
theorem d_Reader_nameLine_72 : decode b_Reader_nameLine 72 = .ok (.iconst 0, 1) := by decide +kernel
theorem d_Reader_nameLine_73 : decode b_Reader_nameLine 73 = .ok (.ireturn, 1) := by decide +kernel
theorem d_Reader_nameLine_74 : decode b_Reader_nameLine 74 = .ok (.aload_n 1, 1) := by decide +kernel
theorem d_Reader_nameLine_75 : decode b_Reader_nameLine 75 = .ok (.getfield 144, 3) := by decide +kernel
theorem d_Reader_nameLine_78 : decode b_Reader_nameLine 78 = .ok (.iload_n 2, 1) := by decide +kernel
theorem d_Reader_nameLine_79 : decode b_Reader_nameLine 79 = .ok (.aload_n 0, 1) := by decide +kernel
theorem d_Reader_nameLine_80 : decode b_Reader_nameLine 80 = .ok (.getfield 12, 3) := by decide +kernel
theorem d_Reader_nameLine_83 : decode b_Reader_nameLine 83 = .ok (.getfield 75, 3) := by decide +kernel
theorem d_Reader_nameLine_86 : decode b_Reader_nameLine 86 = .ok (.invokevirtual 148, 3) := by decide +kernel
theorem d_Reader_nameLine_89 : decode b_Reader_nameLine 89 = .ok (.aload_n 0, 1) := by decide +kernel
theorem d_Reader_nameLine_90 : decode b_Reader_nameLine 90 = .ok (.getfield 12, 3) := by decide +kernel
theorem d_Reader_nameLine_93 : decode b_Reader_nameLine 93 = .ok (.invokevirtual 46, 3) := by decide +kernel
theorem d_Reader_nameLine_96 : decode b_Reader_nameLine 96 = .ok (.aload_n 0, 1) := by decide +kernel
theorem d_Reader_nameLine_97 : decode b_Reader_nameLine 97 = .ok (.getfield 12, 3) := by decide +kernel
theorem d_Reader_nameLine_100 : decode b_Reader_nameLine 100 = .ok (.iconst 1, 1) := by decide +kernel
theorem d_Reader_nameLine_101 : decode b_Reader_nameLine 101 = .ok (.invokevirtual 155, 3) := by decide +kernel
theorem d_Reader_nameLine_104 : decode b_Reader_nameLine 104 = .ok (.ifCond .ne 14, 3) := by decide +kernel
theorem d_Reader_nameLine_107 : decode b_Reader_nameLine 107 = .ok (.aload_n 0, 1) := by decide +kernel
theorem d_Reader_nameLine_108 : decode b_Reader_nameLine 108 = .ok (.getfield 12, 3) := by decide +kernel
theorem d_Reader_nameLine_111 : decode b_Reader_nameLine 111 = .ok (.iconst 2, 1) := by decide +kernel
theorem d_Reader_nameLine_112 : decode b_Reader_nameLine 112 = .ok (.invokevirtual 155, 3) := by decide +kernel
theorem d_Reader_nameLine_115 : decode b_Reader_nameLine 115 = .ok (.ifCond .eq 34, 3) := by decide +kernel
theorem d_Reader_nameLine_118 : decode b_Reader_nameLine 118 = .ok (.aload_n 1, 1) := by decide +kernel
theorem d_Reader_nameLine_119 : decode b_Reader_nameLine 119 = .ok (.getfield 158, 3) := by decide +kernel
theorem d_Reader_nameLine_122 : decode b_Reader_nameLine 122 = .ok (.iload_n 2, 1) := by decide +kernel
theorem d_Reader_nameLine_123 : decode b_Reader_nameLine 123 = .ok (.aload_n 0, 1) := by decide +kernel
theorem d_Reader_nameLine_124 : decode b_Reader_nameLine 124 = .ok (.getfield 12, 3) := by decide +kernel
theorem d_Reader_nameLine_127 : decode b_Reader_nameLine 127 = .ok (.iconst 1, 1) := by decide +kernel
theorem d_Reader_nameLine_128 : decode b_Reader_nameLine 128 = .ok (.invokevirtual 155, 3) := by decide +kernel
theorem d_Reader_nameLine_131 : decode b_Reader_nameLine 131 = .ok (.ifCond .eq 7, 3) := by decide +kernel
theorem d_Reader_nameLine_134 : decode b_Reader_nameLine 134 = .ok (.iconst 1, 1) := by decide +kernel
theorem d_Reader_nameLine_135 : decode b_Reader_nameLine 135 = .ok (.goto 4, 3) := by decide +kernel
theorem d_Reader_nameLine_138 : decode b_Reader_nameLine 138 = .ok (.iconst 2, 1) := by decide +kernel
theorem d_Reader_nameLine_139 : decode b_Reader_nameLine 139 = .ok (.invokevirtual 148, 3) := by decide +kernel
theorem d_Reader_nameLine_142 : decode b_Reader_nameLine 142 = .ok (.aload_n 0, 1) := by decide +kernel
theorem d_Reader_nameLine_143 : decode b_Reader_nameLine 143 = .ok (.getfield 12, 3) := by decide +kernel
theorem d_Reader_nameLine_146 : decode b_Reader_nameLine 146 = .ok (.invokevirtual 46, 3) := by decide +kernel
theorem d_Reader_nameLine_149 : decode b_Reader_nameLine 149 = .ok (.iconst 1, 1) := by decide +kernel
theorem d_Reader_nameLine_150 : decode b_Reader_nameLine 150 = .ok (.ireturn, 1) := by decide +kernel
noncomputable def f_Reader_nameLine_J139 (z : Nat → Nat) (o : Nat) (t139_1 : Int32) (t139_2 : Int32) (m139 : Mm) : Option (Int32 × Mm) :=
  (f_Row_put z m139 (o + 12) t139_1 t139_2).bind fun q139 =>
  (f_Tokens_step z q139 (o + 1)).bind fun q146 =>
  some ((1 : Int32), q146)
noncomputable def f_Reader_nameLine_J118 (z : Nat → Nat) (o : Nat) (v2 : Int32) (m118 : Mm) : Option (Int32 × Mm) :=
  (f_Tokens_isWord z m118 (o + 1) (1 : Int32)).bind fun q128 =>
  if q128 = 0 then (
    f_Reader_nameLine_J139 z o v2 (2 : Int32) m118
  ) else (
    f_Reader_nameLine_J139 z o v2 (1 : Int32) m118
  )
noncomputable def f_Reader_nameLine (z : Nat → Nat) (σ : Mm) (o : Nat) : Option (Int32 × Mm) :=
  (f_Names_isFull z σ (o + 6)).bind fun q12 =>
  if q12 = 0 then (
    (f_Tokens_step z σ (o + 1)).bind fun q28 =>
    (f_Reader_isNewName z q28 o).bind fun q32 =>
    if q32.1 = 0 then (
      some ((0 : Int32), q32.2)
    ) else (
      (f_Names_add z q32.2 (o + 6) (q32.2.2 (o + 1) 7)).bind fun q51 =>
      (f_Tokens_step z q51.2 (o + 1)).bind fun q59 =>
      (f_Reader_isNumber z q59 o (0 : Int32) (99 : Int32)).bind fun q66 =>
      if q66.1 = 0 then (
        some ((0 : Int32), q66.2)
      ) else (
        (f_Row_put z q66.2 (o + 10) q51.1 (q66.2.1 (o + 1) 6)).bind fun q86 =>
        (f_Tokens_step z q86 (o + 1)).bind fun q93 =>
        (f_Tokens_isWord z q93 (o + 1) (1 : Int32)).bind fun q101 =>
        if q101 = 0 then (
          (f_Tokens_isWord z q93 (o + 1) (2 : Int32)).bind fun q112 =>
          if q112 = 0 then (
            some ((1 : Int32), q93)
          ) else (
            f_Reader_nameLine_J118 z o q51.1 q93
          )
        ) else (
          f_Reader_nameLine_J118 z o q51.1 q93
        )
      )
    )
  ) else (
    (f_Reader_fail z σ o (4 : Int32)).bind fun q20 =>
    (mm_zb q20.1).bind fun y23 =>
    some (y23, q20.2)
  )
set_option maxHeartbeats 4000000 in
set_option maxRecDepth 100000 in
theorem c_Reader_nameLine (l : Launch) {L : Ly} (hg : gd_ok L) {σ : Mm} {o : Nat} (k_o_0 : ly_k L o = 9) {res : Int32 × Mm} (hf0 : f_Reader_nameLine (ly_z L) σ o = some res) : CtI l y_Reader_nameLine b_Reader_nameLine 3 (some .boolean) rm_Reader_nameLine L [.ref (ly_a L o)] σ res.1 res.2 := by
  refine ct_z hg (by decide) (Nat.le_of_ble_eq_true rfl) ?_
  intro E A Q hE C hN
  subst hE
  have k_o_4 : ly_k L (o + 4) = 4 := gd_Reader_draft hg k_o_0
  have k_o_5 : ly_k L (o + 5) = 2 := gd_State_island hg k_o_4
  have k_o_12 : ly_k L (o + 12) = 0 := gd_Island_kinds hg k_o_5
  have k_o_1 : ly_k L (o + 1) = 8 := gd_Reader_tokens hg k_o_0
  have k_o_6 : ly_k L (o + 6) = 1 := gd_Island_surnames hg k_o_5
  have k_o_10 : ly_k L (o + 10) = 0 := gd_Island_worths hg k_o_5
  unfold f_Reader_nameLine at hf0
  show GW E L A 3 0 0 Q σ 0 [(0, .ref (ly_a L o))] []
  have hj139 : ∀ (t139_1 : Int32) (t139_2 : Int32) (m139 : Mm), f_Reader_nameLine_J139 (ly_z L) o t139_1 t139_2 m139 = some res → GW E L A 3 0 0 Q m139 139 [(0, .ref (ly_a L o))] [.int t139_2, .int t139_1, .ref (ly_a L (o + 12))] := by
    intro t139_1 t139_2 m139 hf0
    unfold f_Reader_nameLine_J139 at hf0
    obtain ⟨q139, hq139, hf0⟩ := mx_bd hf0
    refine gw_callV C (c_Row_put _ hg k_o_12 hq139) d_Reader_nameLine_139 2 qw_592 qw_461 qw_462 qw_4 qw_463 k_o_12 (by decide) rfl hd_Row_put rfl rfl (Nat.le_of_ble_eq_true rfl) ⟨rfl, rfl, Nat.le_of_ble_eq_true rfl, Nat.le_of_ble_eq_true rfl⟩ ⟨Nat.zero_le _, Nat.zero_le _⟩ ?_
    refine gw_aload_n C 0 d_Reader_nameLine_142 rfl rfl ?_
    refine gw_getA C 0 d_Reader_nameLine_143 k_o_0 (by decide) i_Reader rfl rfl (by decide) qw_287 rfl rfl (o + 1) rfl ?_
    obtain ⟨q146, hq146, hf0⟩ := mx_bd hf0
    refine gw_callV C (c_Tokens_step _ hg k_o_1 hq146) d_Reader_nameLine_146 0 qw_481 qw_482 qw_483 qw_3 qw_484 k_o_1 (by decide) rfl hd_Tokens_step rfl rfl (Nat.le_of_ble_eq_true rfl) ⟨rfl, rfl, Nat.le_of_ble_eq_true rfl, Nat.le_of_ble_eq_true rfl⟩ ⟨Nat.zero_le _, Nat.zero_le _⟩ ?_
    refine gw_iconst C (1 : Int32) d_Reader_nameLine_149 (by decide) ?_
    exact en_z hN (Or.inr rfl) hf0 d_Reader_nameLine_150
  have hj118 : ∀ (v2 : Int32) (m118 : Mm), f_Reader_nameLine_J118 (ly_z L) o v2 m118 = some res → GW E L A 3 0 0 Q m118 118 [(0, .ref (ly_a L o)), (1, .ref (ly_a L (o + 5))), (2, .int v2)] [] := by
    intro v2 m118 hf0
    unfold f_Reader_nameLine_J118 at hf0
    refine gw_aload_n C 1 d_Reader_nameLine_118 rfl rfl ?_
    refine gw_getAN C 3 d_Reader_nameLine_119 k_o_5 (by decide) i_Island rfl rfl (by decide) qw_143 rfl rfl (o + 12) rfl ?_
    refine gw_iload_n C 2 d_Reader_nameLine_122 rfl rfl ?_
    refine gw_aload_n C 0 d_Reader_nameLine_123 rfl rfl ?_
    refine gw_getA C 0 d_Reader_nameLine_124 k_o_0 (by decide) i_Reader rfl rfl (by decide) qw_287 rfl rfl (o + 1) rfl ?_
    refine gw_iconst C (1 : Int32) d_Reader_nameLine_127 (by decide) ?_
    obtain ⟨q128, hq128, hf0⟩ := mx_bd hf0
    refine gw_callI C (c_Tokens_isWord _ hg k_o_1 hq128) d_Reader_nameLine_128 1 qw_593 qw_594 qw_595 qw_3 qw_596 k_o_1 (by decide) rfl hd_Tokens_isWord rfl rfl (Nat.le_of_ble_eq_true rfl) ⟨rfl, rfl, Nat.le_of_ble_eq_true rfl, Nat.le_of_ble_eq_true rfl⟩ ⟨Nat.zero_le _, Nat.zero_le _⟩ ?_
    refine gw_if_eq C 138 d_Reader_nameLine_131 (by decide) (fun hc => ?_) (fun hc => ?_)
    · replace hf0 := mx_t hc hf0
      refine gw_iconst C (2 : Int32) d_Reader_nameLine_138 (by decide) ?_
      exact gw_go [0] (hj139 _ _ _ hf0) rfl
    · replace hf0 := mx_f hc hf0
      refine gw_iconst C (1 : Int32) d_Reader_nameLine_134 (by decide) ?_
      refine gw_goto C 139 d_Reader_nameLine_135 (by decide) ?_
      exact gw_go [0] (hj139 _ _ _ hf0) rfl
  refine gw_aload_n C 0 d_Reader_nameLine_0 rfl rfl ?_
  refine gw_getA C 1 d_Reader_nameLine_1 k_o_0 (by decide) i_Reader rfl rfl (by decide) qw_289 rfl rfl (o + 4) rfl ?_
  refine gw_getAN C 0 d_Reader_nameLine_4 k_o_4 (by decide) i_State rfl rfl (by decide) qw_236 rfl rfl (o + 5) rfl ?_
  refine gw_astore_n C [(1, .ref (ly_a L (o + 5))), (0, .ref (ly_a L o))] d_Reader_nameLine_7 rfl (by decide) rfl ?_
  refine gw_aload_n C 0 d_Reader_nameLine_8 rfl rfl ?_
  refine gw_getAN C 0 d_Reader_nameLine_9 k_o_5 (by decide) i_Island rfl rfl (by decide) qw_127 rfl rfl (o + 6) rfl ?_
  obtain ⟨q12, hq12, hf0⟩ := mx_bd hf0
  refine gw_callI C (c_Names_isFull _ hg k_o_6 hq12) d_Reader_nameLine_12 0 qw_564 qw_565 qw_566 qw_7 qw_567 k_o_6 (by decide) rfl hd_Names_isFull rfl rfl (Nat.le_of_ble_eq_true rfl) ⟨rfl, rfl, Nat.le_of_ble_eq_true rfl, Nat.le_of_ble_eq_true rfl⟩ ⟨Nat.zero_le _, Nat.zero_le _⟩ ?_
  refine gw_if_eq C 24 d_Reader_nameLine_15 (by decide) (fun hc => ?_) (fun hc => ?_)
  · replace hf0 := mx_t hc hf0
    refine gw_aload_n C 1 d_Reader_nameLine_24 rfl rfl ?_
    refine gw_getA C 0 d_Reader_nameLine_25 k_o_0 (by decide) i_Reader rfl rfl (by decide) qw_287 rfl rfl (o + 1) rfl ?_
    obtain ⟨q28, hq28, hf0⟩ := mx_bd hf0
    refine gw_callV C (c_Tokens_step _ hg k_o_1 hq28) d_Reader_nameLine_28 0 qw_481 qw_482 qw_483 qw_3 qw_484 k_o_1 (by decide) rfl hd_Tokens_step rfl rfl (Nat.le_of_ble_eq_true rfl) ⟨rfl, rfl, Nat.le_of_ble_eq_true rfl, Nat.le_of_ble_eq_true rfl⟩ ⟨Nat.zero_le _, Nat.zero_le _⟩ ?_
    refine gw_aload_n C 1 d_Reader_nameLine_31 rfl rfl ?_
    obtain ⟨q32, hq32, hf0⟩ := mx_bd hf0
    refine gw_callI C (c_Reader_isNewName _ hg k_o_0 hq32) d_Reader_nameLine_32 0 qw_572 qw_574 qs_5 qw_2 qw_575 k_o_0 (by decide) rfl hd_Reader_isNewName rfl rfl (Nat.le_of_ble_eq_true rfl) ⟨rfl, rfl, Nat.le_of_ble_eq_true rfl, Nat.le_of_ble_eq_true rfl⟩ ⟨Nat.zero_le _, Nat.zero_le _⟩ ?_
    refine gw_if_ne C 40 d_Reader_nameLine_35 (by decide) (fun hc => ?_) (fun hc => ?_)
    · replace hf0 := mx_f hc hf0
      refine gw_aload_n C 0 d_Reader_nameLine_40 rfl rfl ?_
      refine gw_getAN C 0 d_Reader_nameLine_41 k_o_5 (by decide) i_Island rfl rfl (by decide) qw_127 rfl rfl (o + 6) rfl ?_
      refine gw_aload_n C 1 d_Reader_nameLine_44 rfl rfl ?_
      refine gw_getA C 0 d_Reader_nameLine_45 k_o_0 (by decide) i_Reader rfl rfl (by decide) qw_287 rfl rfl (o + 1) rfl ?_
      refine gw_getLN C 7 d_Reader_nameLine_48 k_o_1 (by decide) i_Tokens rfl rfl (by decide) qw_67 rfl rfl ?_
      obtain ⟨q51, hq51, hf0⟩ := mx_bd hf0
      refine gw_callI C (c_Names_add _ hg k_o_6 hq51) d_Reader_nameLine_51 1 qw_584 qw_585 qw_586 qw_7 qw_587 k_o_6 (by decide) rfl hd_Names_add rfl rfl (Nat.le_of_ble_eq_true rfl) ⟨rfl, rfl, Nat.le_of_ble_eq_true rfl, Nat.le_of_ble_eq_true rfl⟩ ⟨Nat.zero_le _, Nat.zero_le _⟩ ?_
      refine gw_istore_n C [(2, .int q51.1), (1, .ref (ly_a L (o + 5))), (0, .ref (ly_a L o))] d_Reader_nameLine_54 rfl (by decide) rfl ?_
      refine gw_aload_n C 2 d_Reader_nameLine_55 rfl rfl ?_
      refine gw_getA C 0 d_Reader_nameLine_56 k_o_0 (by decide) i_Reader rfl rfl (by decide) qw_287 rfl rfl (o + 1) rfl ?_
      obtain ⟨q59, hq59, hf0⟩ := mx_bd hf0
      refine gw_callV C (c_Tokens_step _ hg k_o_1 hq59) d_Reader_nameLine_59 0 qw_481 qw_482 qw_483 qw_3 qw_484 k_o_1 (by decide) rfl hd_Tokens_step rfl rfl (Nat.le_of_ble_eq_true rfl) ⟨rfl, rfl, Nat.le_of_ble_eq_true rfl, Nat.le_of_ble_eq_true rfl⟩ ⟨Nat.zero_le _, Nat.zero_le _⟩ ?_
      refine gw_aload_n C 2 d_Reader_nameLine_62 rfl rfl ?_
      refine gw_iconst C (0 : Int32) d_Reader_nameLine_63 (by decide) ?_
      refine gw_bipush C (99 : Int32) d_Reader_nameLine_64 (by decide) ?_
      obtain ⟨q66, hq66, hf0⟩ := mx_bd hf0
      refine gw_callI C (c_Reader_isNumber _ hg k_o_0 hq66) d_Reader_nameLine_66 2 qw_588 qw_590 qs_7 qw_2 qw_591 k_o_0 (by decide) rfl hd_Reader_isNumber rfl rfl (Nat.le_of_ble_eq_true rfl) ⟨rfl, rfl, Nat.le_of_ble_eq_true rfl, Nat.le_of_ble_eq_true rfl⟩ ⟨Nat.zero_le _, Nat.zero_le _⟩ ?_
      refine gw_if_ne C 74 d_Reader_nameLine_69 (by decide) (fun hc => ?_) (fun hc => ?_)
      · replace hf0 := mx_f hc hf0
        refine gw_aload_n C 1 d_Reader_nameLine_74 rfl rfl ?_
        refine gw_getAN C 2 d_Reader_nameLine_75 k_o_5 (by decide) i_Island rfl rfl (by decide) qw_140 rfl rfl (o + 10) rfl ?_
        refine gw_iload_n C 0 d_Reader_nameLine_78 rfl rfl ?_
        refine gw_aload_n C 2 d_Reader_nameLine_79 rfl rfl ?_
        refine gw_getA C 0 d_Reader_nameLine_80 k_o_0 (by decide) i_Reader rfl rfl (by decide) qw_287 rfl rfl (o + 1) rfl ?_
        refine gw_getIN C 6 d_Reader_nameLine_83 k_o_1 (by decide) i_Tokens rfl rfl (by decide) qw_65 rfl rfl ?_
        obtain ⟨q86, hq86, hf0⟩ := mx_bd hf0
        refine gw_callV C (c_Row_put _ hg k_o_10 hq86) d_Reader_nameLine_86 2 qw_592 qw_461 qw_462 qw_4 qw_463 k_o_10 (by decide) rfl hd_Row_put rfl rfl (Nat.le_of_ble_eq_true rfl) ⟨rfl, rfl, Nat.le_of_ble_eq_true rfl, Nat.le_of_ble_eq_true rfl⟩ ⟨Nat.zero_le _, Nat.zero_le _⟩ ?_
        refine gw_aload_n C 2 d_Reader_nameLine_89 rfl rfl ?_
        refine gw_getA C 0 d_Reader_nameLine_90 k_o_0 (by decide) i_Reader rfl rfl (by decide) qw_287 rfl rfl (o + 1) rfl ?_
        obtain ⟨q93, hq93, hf0⟩ := mx_bd hf0
        refine gw_callV C (c_Tokens_step _ hg k_o_1 hq93) d_Reader_nameLine_93 0 qw_481 qw_482 qw_483 qw_3 qw_484 k_o_1 (by decide) rfl hd_Tokens_step rfl rfl (Nat.le_of_ble_eq_true rfl) ⟨rfl, rfl, Nat.le_of_ble_eq_true rfl, Nat.le_of_ble_eq_true rfl⟩ ⟨Nat.zero_le _, Nat.zero_le _⟩ ?_
        refine gw_aload_n C 2 d_Reader_nameLine_96 rfl rfl ?_
        refine gw_getA C 0 d_Reader_nameLine_97 k_o_0 (by decide) i_Reader rfl rfl (by decide) qw_287 rfl rfl (o + 1) rfl ?_
        refine gw_iconst C (1 : Int32) d_Reader_nameLine_100 (by decide) ?_
        obtain ⟨q101, hq101, hf0⟩ := mx_bd hf0
        refine gw_callI C (c_Tokens_isWord _ hg k_o_1 hq101) d_Reader_nameLine_101 1 qw_593 qw_594 qw_595 qw_3 qw_596 k_o_1 (by decide) rfl hd_Tokens_isWord rfl rfl (Nat.le_of_ble_eq_true rfl) ⟨rfl, rfl, Nat.le_of_ble_eq_true rfl, Nat.le_of_ble_eq_true rfl⟩ ⟨Nat.zero_le _, Nat.zero_le _⟩ ?_
        refine gw_if_ne C 118 d_Reader_nameLine_104 (by decide) (fun hc => ?_) (fun hc => ?_)
        · replace hf0 := mx_f hc hf0
          exact gw_go [2, 1, 0] (hj118 _ _ hf0) rfl
        · replace hf0 := mx_t hc hf0
          refine gw_aload_n C 2 d_Reader_nameLine_107 rfl rfl ?_
          refine gw_getA C 0 d_Reader_nameLine_108 k_o_0 (by decide) i_Reader rfl rfl (by decide) qw_287 rfl rfl (o + 1) rfl ?_
          refine gw_iconst C (2 : Int32) d_Reader_nameLine_111 (by decide) ?_
          obtain ⟨q112, hq112, hf0⟩ := mx_bd hf0
          refine gw_callI C (c_Tokens_isWord _ hg k_o_1 hq112) d_Reader_nameLine_112 1 qw_593 qw_594 qw_595 qw_3 qw_596 k_o_1 (by decide) rfl hd_Tokens_isWord rfl rfl (Nat.le_of_ble_eq_true rfl) ⟨rfl, rfl, Nat.le_of_ble_eq_true rfl, Nat.le_of_ble_eq_true rfl⟩ ⟨Nat.zero_le _, Nat.zero_le _⟩ ?_
          refine gw_if_eq C 149 d_Reader_nameLine_115 (by decide) (fun hc => ?_) (fun hc => ?_)
          · replace hf0 := mx_t hc hf0
            refine gw_iconst C (1 : Int32) d_Reader_nameLine_149 (by decide) ?_
            exact en_z hN (Or.inr rfl) hf0 d_Reader_nameLine_150
          · replace hf0 := mx_f hc hf0
            exact gw_go [2, 1, 0] (hj118 _ _ hf0) rfl
      · replace hf0 := mx_t hc hf0
        refine gw_iconst C (0 : Int32) d_Reader_nameLine_72 (by decide) ?_
        exact en_z hN (Or.inl rfl) hf0 d_Reader_nameLine_73
    · replace hf0 := mx_t hc hf0
      refine gw_iconst C (0 : Int32) d_Reader_nameLine_38 (by decide) ?_
      exact en_z hN (Or.inl rfl) hf0 d_Reader_nameLine_39
  · replace hf0 := mx_f hc hf0
    refine gw_aload_n C 1 d_Reader_nameLine_18 rfl rfl ?_
    refine gw_iconst C (4 : Int32) d_Reader_nameLine_19 (by decide) ?_
    obtain ⟨q20, hq20, hf0⟩ := mx_bd hf0
    refine gw_callI C (c_Reader_fail _ hg k_o_0 hq20) d_Reader_nameLine_20 1 qw_568 qw_570 qs_4 qw_2 qw_571 k_o_0 (by decide) rfl hd_Reader_fail rfl rfl (Nat.le_of_ble_eq_true rfl) ⟨rfl, rfl, Nat.le_of_ble_eq_true rfl, Nat.le_of_ble_eq_true rfl⟩ ⟨Nat.zero_le _, Nat.zero_le _⟩ ?_
    obtain ⟨y23, hy23, hf0⟩ := mx_bd hf0
    obtain ⟨zy23, ey23⟩ := mx_zb hy23
    refine gw_topi ey23 ?_
    exact en_z hN zy23 hf0 d_Reader_nameLine_23

/-! NameHat.Reader.houseLine()Z -/
abbrev b_Reader_houseLine : ByteArray := prog_6_method_11_code
def y_Reader_houseLine : MethodName := ⟨"NameHat$Reader", "houseLine", "()Z"⟩
abbrev rm_Reader_houseLine : Room := { frames := 9, cells := 0, slots := 0, locals := 468 }
theorem hd_Reader_houseLine : y_Reader_houseLine.cls ≠ "java/lang/invoke/MethodHandle" ∧ y_Reader_houseLine.cls ≠ "java/lang/invoke/VarHandle" ∧ (parseMethodDescriptor y_Reader_houseLine.desc).map (fun d => d.parameters.length) = some 0 := by decide +kernel
theorem d_Reader_houseLine_0 : decode b_Reader_houseLine 0 = .ok (.aload_n 0, 1) := by decide +kernel
theorem d_Reader_houseLine_1 : decode b_Reader_houseLine 1 = .ok (.getfield 21, 3) := by decide +kernel
theorem d_Reader_houseLine_4 : decode b_Reader_houseLine 4 = .ok (.getfield 84, 3) := by decide +kernel
theorem d_Reader_houseLine_7 : decode b_Reader_houseLine 7 = .ok (.getfield 104, 3) := by decide +kernel
theorem d_Reader_houseLine_10 : decode b_Reader_houseLine 10 = .ok (.invokevirtual 131, 3) := by decide +kernel
theorem d_Reader_houseLine_13 : decode b_Reader_houseLine 13 = .ok (.ifCond .eq 9, 3) := by decide +kernel
theorem d_Reader_houseLine_16 : decode b_Reader_houseLine 16 = .ok (.aload_n 0, 1) := by decide +kernel
theorem d_Reader_houseLine_17 : decode b_Reader_houseLine 17 = .ok (.iconst 4, 1) := by decide +kernel
theorem d_Reader_houseLine_18 : decode b_Reader_houseLine 18 = .ok (.invokevirtual 71, 3) := by decide +kernel
theorem d_Reader_houseLine_21 : decode b_Reader_houseLine 21 = .ok (.ireturn, 1) := by decide +kernel
theorem d_Reader_houseLine_22 : decode b_Reader_houseLine 22 = .ok (.aload_n 0, 1) := by decide +kernel
theorem d_Reader_houseLine_23 : decode b_Reader_houseLine 23 = .ok (.getfield 12, 3) := by decide +kernel
theorem d_Reader_houseLine_26 : decode b_Reader_houseLine 26 = .ok (.invokevirtual 46, 3) := by decide +kernel
theorem d_Reader_houseLine_29 : decode b_Reader_houseLine 29 = .ok (.aload_n 0, 1) := by decide +kernel
theorem d_Reader_houseLine_30 : decode b_Reader_houseLine 30 = .ok (.invokevirtual 134, 3) := by decide +kernel
theorem d_Reader_houseLine_33 : decode b_Reader_houseLine 33 = .ok (.ifCond .ne 5, 3) := by decide +kernel
theorem d_Reader_houseLine_36 : decode b_Reader_houseLine 36 = .ok (.iconst 0, 1) := by decide +kernel
theorem d_Reader_houseLine_37 : decode b_Reader_houseLine 37 = .ok (.ireturn, 1) := by decide +kernel
theorem d_Reader_houseLine_38 : decode b_Reader_houseLine 38 = .ok (.aload_n 0, 1) := by decide +kernel
theorem d_Reader_houseLine_39 : decode b_Reader_houseLine 39 = .ok (.getfield 21, 3) := by decide +kernel
theorem d_Reader_houseLine_42 : decode b_Reader_houseLine 42 = .ok (.getfield 84, 3) := by decide +kernel
theorem d_Reader_houseLine_45 : decode b_Reader_houseLine 45 = .ok (.getfield 104, 3) := by decide +kernel
theorem d_Reader_houseLine_48 : decode b_Reader_houseLine 48 = .ok (.aload_n 0, 1) := by decide +kernel
theorem d_Reader_houseLine_49 : decode b_Reader_houseLine 49 = .ok (.getfield 12, 3) := by decide +kernel
theorem d_Reader_houseLine_52 : decode b_Reader_houseLine 52 = .ok (.getfield 94, 3) := by decide +kernel
theorem d_Reader_houseLine_55 : decode b_Reader_houseLine 55 = .ok (.invokevirtual 137, 3) := by decide +kernel
theorem d_Reader_houseLine_58 : decode b_Reader_houseLine 58 = .ok (.istore_n 1, 1) := by decide +kernel
theorem d_Reader_houseLine_59 : decode b_Reader_houseLine 59 = .ok (.aload_n 0, 1) := by decide +kernel
theorem d_Reader_houseLine_60 : decode b_Reader_houseLine 60 = .ok (.getfield 12, 3) := by decide +kernel
theorem d_Reader_houseLine_63 : decode b_Reader_houseLine 63 = .ok (.invokevirtual 46, 3) := by decide +kernel
theorem d_Reader_houseLine_66 : decode b_Reader_houseLine 66 = .ok (.aload_n 0, 1) := by decide +kernel
theorem d_Reader_houseLine_67 : decode b_Reader_houseLine 67 = .ok (.getfield 12, 3) := by decide +kernel
theorem d_Reader_houseLine_70 : decode b_Reader_houseLine 70 = .ok (.iconst 4, 1) := by decide +kernel
theorem d_Reader_houseLine_71 : decode b_Reader_houseLine 71 = .ok (.invokevirtual 155, 3) := by decide +kernel
theorem d_Reader_houseLine_74 : decode b_Reader_houseLine 74 = .ok (.ifCond .ne 5, 3) := by decide +kernel
theorem d_Reader_houseLine_77 : decode b_Reader_houseLine 77 = .ok (.iconst 1, 1) := by decide +kernel
theorem d_Reader_houseLine_78 : decode b_Reader_houseLine 78 = .ok (.ireturn, 1) := by decide +kernel
theorem d_Reader_houseLine_79 : decode b_Reader_houseLine 79 = .ok (.aload_n 0, 1) := by decide +kernel
theorem d_Reader_houseLine_80 : decode b_Reader_houseLine 80 = .ok (.getfield 12, 3) := by decide +kernel
theorem d_Reader_houseLine_83 : decode b_Reader_houseLine 83 = .ok (.invokevirtual 46, 3) := by decide +kernel
theorem d_Reader_houseLine_86 : decode b_Reader_houseLine 86 = .ok (.aload_n 0, 1) := by decide +kernel
theorem d_Reader_houseLine_87 : decode b_Reader_houseLine 87 = .ok (.aload_n 0, 1) := by decide +kernel
theorem d_Reader_houseLine_88 : decode b_Reader_houseLine 88 = .ok (.getfield 21, 3) := by decide +kernel
theorem d_Reader_houseLine_91 : decode b_Reader_houseLine 91 = .ok (.getfield 84, 3) := by decide +kernel
theorem d_Reader_houseLine_94 : decode b_Reader_houseLine 94 = .ok (.getfield 88, 3) := by decide +kernel
theorem d_Reader_houseLine_97 : decode b_Reader_houseLine 97 = .ok (.invokevirtual 161, 3) := by decide +kernel
theorem d_Reader_houseLine_100 : decode b_Reader_houseLine 100 = .ok (.ifCond .ne 5, 3) := by decide +kernel
theorem d_Reader_houseLine_103 : decode b_Reader_houseLine 103 = .ok (.iconst 0, 1) := by decide +kernel
theorem d_Reader_houseLine_104 : decode b_Reader_houseLine 104 = .ok (.ireturn, 1) := by decide +kernel
theorem d_Reader_houseLine_105 : decode b_Reader_houseLine 105 = .ok (.aload_n 0, 1) := by decide +kernel
theorem d_Reader_houseLine_106 : decode b_Reader_houseLine 106 = .ok (.getfield 21, 3) := by decide +kernel
theorem d_Reader_houseLine_109 : decode b_Reader_houseLine 109 = .ok (.getfield 165, 3) := by decide +kernel
theorem d_Reader_houseLine_112 : decode b_Reader_houseLine 112 = .ok (.aload_n 0, 1) := by decide +kernel
theorem d_Reader_houseLine_113 : decode b_Reader_houseLine 113 = .ok (.getfield 107, 3) := by decide +kernel
theorem d_Reader_houseLine_116 : decode b_Reader_houseLine 116 = .ok (.invokevirtual 169, 3) := by decide +kernel
theorem d_Reader_houseLine_119 : decode b_Reader_houseLine 119 = .ok (.iconst (-1), 1) := by decide +kernel
theorem d_Reader_houseLine_120 : decode b_Reader_houseLine 120 = .ok (.if_icmp .eq 9, 3) := by decide +kernel
theorem d_Reader_houseLine_123 : decode b_Reader_houseLine 123 = .ok (.aload_n 0, 1) := by decide +kernel
theorem d_Reader_houseLine_124 : decode b_Reader_houseLine 124 = .ok (.iconst 3, 1) := by decide +kernel
theorem d_Reader_houseLine_125 : decode b_Reader_houseLine 125 = .ok (.invokevirtual 71, 3) := by decide +kernel
theorem d_Reader_houseLine_128 : decode b_Reader_houseLine 128 = .ok (.ireturn, 1) := by decide +kernel
theorem d_Reader_houseLine_129 : decode b_Reader_houseLine 129 = .ok (.aload_n 0, 1) := by decide +kernel
theorem d_Reader_houseLine_130 : decode b_Reader_houseLine 130 = .ok (.getfield 21, 3) := by decide +kernel
theorem d_Reader_houseLine_133 : decode b_Reader_houseLine 133 = .ok (.getfield 165, 3) := by decide +kernel
theorem d_Reader_houseLine_136 : decode b_Reader_houseLine 136 = .ok (.getfield 175, 3) := by decide +kernel
theorem d_Reader_houseLine_139 : decode b_Reader_houseLine 139 = .ok (.iload_n 1, 1) := by decide +kernel
theorem d_Reader_houseLine_140 : decode b_Reader_houseLine 140 = .ok (.aload_n 0, 1) := by decide +kernel
theorem d_Reader_houseLine_141 : decode b_Reader_houseLine 141 = .ok (.getfield 107, 3) := by decide +kernel
theorem d_Reader_houseLine_144 : decode b_Reader_houseLine 144 = .ok (.invokevirtual 148, 3) := by decide +kernel
theorem d_Reader_houseLine_147 : decode b_Reader_houseLine 147 = .ok (.aload_n 0, 1) := by decide +kernel
theorem d_Reader_houseLine_148 : decode b_Reader_houseLine 148 = .ok (.getfield 12, 3) := by decide +kernel
theorem d_Reader_houseLine_151 : decode b_Reader_houseLine 151 = .ok (.invokevirtual 46, 3) := by decide +kernel
theorem d_Reader_houseLine_154 : decode b_Reader_houseLine 154 = .ok (.iconst 1, 1) := by decide +kernel
theorem d_Reader_houseLine_155 : decode b_Reader_houseLine 155 = .ok (.ireturn, 1) := by decide +kernel
noncomputable def f_Reader_houseLine (z : Nat → Nat) (σ : Mm) (o : Nat) : Option (Int32 × Mm) :=
  (f_Names_isFull z σ (o + 8)).bind fun q10 =>
  if q10 = 0 then (
    (f_Tokens_step z σ (o + 1)).bind fun q26 =>
    (f_Reader_isNewName z q26 o).bind fun q30 =>
    if q30.1 = 0 then (
      some ((0 : Int32), q30.2)
    ) else (
      (f_Names_add z q30.2 (o + 8) (q30.2.2 (o + 1) 7)).bind fun q55 =>
      (f_Tokens_step z q55.2 (o + 1)).bind fun q63 =>
      (f_Tokens_isWord z q63 (o + 1) (4 : Int32)).bind fun q71 =>
      if q71 = 0 then (
        some ((1 : Int32), q63)
      ) else (
        (f_Tokens_step z q63 (o + 1)).bind fun q83 =>
        (f_Reader_isOneOf z q83 o (o + 6)).bind fun q97 =>
        if q97.1 = 0 then (
          some ((0 : Int32), q97.2)
        ) else (
          (f_Hands_holderOf z q97.2 (o + 18) (q97.2.1 o 5)).bind fun q116 =>
          if q116 = ((-1) : Int32) then (
            (f_Row_put z q97.2 (o + 19) q55.1 (q97.2.1 o 5)).bind fun q144 =>
            (f_Tokens_step z q144 (o + 1)).bind fun q151 =>
            some ((1 : Int32), q151)
          ) else (
            (f_Reader_fail z q97.2 o (3 : Int32)).bind fun q125 =>
            (mm_zb q125.1).bind fun y128 =>
            some (y128, q125.2)
          )
        )
      )
    )
  ) else (
    (f_Reader_fail z σ o (4 : Int32)).bind fun q18 =>
    (mm_zb q18.1).bind fun y21 =>
    some (y21, q18.2)
  )
set_option maxHeartbeats 4000000 in
set_option maxRecDepth 100000 in
theorem c_Reader_houseLine (l : Launch) {L : Ly} (hg : gd_ok L) {σ : Mm} {o : Nat} (k_o_0 : ly_k L o = 9) {res : Int32 × Mm} (hf0 : f_Reader_houseLine (ly_z L) σ o = some res) : CtI l y_Reader_houseLine b_Reader_houseLine 2 (some .boolean) rm_Reader_houseLine L [.ref (ly_a L o)] σ res.1 res.2 := by
  refine ct_z hg (by decide) (Nat.le_of_ble_eq_true rfl) ?_
  intro E A Q hE C hN
  subst hE
  have k_o_4 : ly_k L (o + 4) = 4 := gd_Reader_draft hg k_o_0
  have k_o_5 : ly_k L (o + 5) = 2 := gd_State_island hg k_o_4
  have k_o_8 : ly_k L (o + 8) = 1 := gd_Island_houses hg k_o_5
  have k_o_1 : ly_k L (o + 1) = 8 := gd_Reader_tokens hg k_o_0
  have k_o_6 : ly_k L (o + 6) = 1 := gd_Island_surnames hg k_o_5
  have k_o_18 : ly_k L (o + 18) = 3 := gd_State_hands hg k_o_4
  have k_o_19 : ly_k L (o + 19) = 0 := gd_Hands_held hg k_o_18
  unfold f_Reader_houseLine at hf0
  show GW E L A 2 0 0 Q σ 0 [(0, .ref (ly_a L o))] []
  refine gw_aload_n C 0 d_Reader_houseLine_0 rfl rfl ?_
  refine gw_getA C 1 d_Reader_houseLine_1 k_o_0 (by decide) i_Reader rfl rfl (by decide) qw_289 rfl rfl (o + 4) rfl ?_
  refine gw_getAN C 0 d_Reader_houseLine_4 k_o_4 (by decide) i_State rfl rfl (by decide) qw_236 rfl rfl (o + 5) rfl ?_
  refine gw_getAN C 1 d_Reader_houseLine_7 k_o_5 (by decide) i_Island rfl rfl (by decide) qw_135 rfl rfl (o + 8) rfl ?_
  obtain ⟨q10, hq10, hf0⟩ := mx_bd hf0
  refine gw_callI C (c_Names_isFull _ hg k_o_8 hq10) d_Reader_houseLine_10 0 qw_564 qw_565 qw_566 qw_7 qw_567 k_o_8 (by decide) rfl hd_Names_isFull rfl rfl (Nat.le_of_ble_eq_true rfl) ⟨rfl, rfl, Nat.le_of_ble_eq_true rfl, Nat.le_of_ble_eq_true rfl⟩ ⟨Nat.zero_le _, Nat.zero_le _⟩ ?_
  refine gw_if_eq C 22 d_Reader_houseLine_13 (by decide) (fun hc => ?_) (fun hc => ?_)
  · replace hf0 := mx_t hc hf0
    refine gw_aload_n C 0 d_Reader_houseLine_22 rfl rfl ?_
    refine gw_getA C 0 d_Reader_houseLine_23 k_o_0 (by decide) i_Reader rfl rfl (by decide) qw_287 rfl rfl (o + 1) rfl ?_
    obtain ⟨q26, hq26, hf0⟩ := mx_bd hf0
    refine gw_callV C (c_Tokens_step _ hg k_o_1 hq26) d_Reader_houseLine_26 0 qw_481 qw_482 qw_483 qw_3 qw_484 k_o_1 (by decide) rfl hd_Tokens_step rfl rfl (Nat.le_of_ble_eq_true rfl) ⟨rfl, rfl, Nat.le_of_ble_eq_true rfl, Nat.le_of_ble_eq_true rfl⟩ ⟨Nat.zero_le _, Nat.zero_le _⟩ ?_
    refine gw_aload_n C 0 d_Reader_houseLine_29 rfl rfl ?_
    obtain ⟨q30, hq30, hf0⟩ := mx_bd hf0
    refine gw_callI C (c_Reader_isNewName _ hg k_o_0 hq30) d_Reader_houseLine_30 0 qw_572 qw_574 qs_5 qw_2 qw_575 k_o_0 (by decide) rfl hd_Reader_isNewName rfl rfl (Nat.le_of_ble_eq_true rfl) ⟨rfl, rfl, Nat.le_of_ble_eq_true rfl, Nat.le_of_ble_eq_true rfl⟩ ⟨Nat.zero_le _, Nat.zero_le _⟩ ?_
    refine gw_if_ne C 38 d_Reader_houseLine_33 (by decide) (fun hc => ?_) (fun hc => ?_)
    · replace hf0 := mx_f hc hf0
      refine gw_aload_n C 0 d_Reader_houseLine_38 rfl rfl ?_
      refine gw_getA C 1 d_Reader_houseLine_39 k_o_0 (by decide) i_Reader rfl rfl (by decide) qw_289 rfl rfl (o + 4) rfl ?_
      refine gw_getAN C 0 d_Reader_houseLine_42 k_o_4 (by decide) i_State rfl rfl (by decide) qw_236 rfl rfl (o + 5) rfl ?_
      refine gw_getAN C 1 d_Reader_houseLine_45 k_o_5 (by decide) i_Island rfl rfl (by decide) qw_135 rfl rfl (o + 8) rfl ?_
      refine gw_aload_n C 0 d_Reader_houseLine_48 rfl rfl ?_
      refine gw_getA C 0 d_Reader_houseLine_49 k_o_0 (by decide) i_Reader rfl rfl (by decide) qw_287 rfl rfl (o + 1) rfl ?_
      refine gw_getLN C 7 d_Reader_houseLine_52 k_o_1 (by decide) i_Tokens rfl rfl (by decide) qw_67 rfl rfl ?_
      obtain ⟨q55, hq55, hf0⟩ := mx_bd hf0
      refine gw_callI C (c_Names_add _ hg k_o_8 hq55) d_Reader_houseLine_55 1 qw_584 qw_585 qw_586 qw_7 qw_587 k_o_8 (by decide) rfl hd_Names_add rfl rfl (Nat.le_of_ble_eq_true rfl) ⟨rfl, rfl, Nat.le_of_ble_eq_true rfl, Nat.le_of_ble_eq_true rfl⟩ ⟨Nat.zero_le _, Nat.zero_le _⟩ ?_
      refine gw_istore_n C [(1, .int q55.1), (0, .ref (ly_a L o))] d_Reader_houseLine_58 rfl (by decide) rfl ?_
      refine gw_aload_n C 1 d_Reader_houseLine_59 rfl rfl ?_
      refine gw_getA C 0 d_Reader_houseLine_60 k_o_0 (by decide) i_Reader rfl rfl (by decide) qw_287 rfl rfl (o + 1) rfl ?_
      obtain ⟨q63, hq63, hf0⟩ := mx_bd hf0
      refine gw_callV C (c_Tokens_step _ hg k_o_1 hq63) d_Reader_houseLine_63 0 qw_481 qw_482 qw_483 qw_3 qw_484 k_o_1 (by decide) rfl hd_Tokens_step rfl rfl (Nat.le_of_ble_eq_true rfl) ⟨rfl, rfl, Nat.le_of_ble_eq_true rfl, Nat.le_of_ble_eq_true rfl⟩ ⟨Nat.zero_le _, Nat.zero_le _⟩ ?_
      refine gw_aload_n C 1 d_Reader_houseLine_66 rfl rfl ?_
      refine gw_getA C 0 d_Reader_houseLine_67 k_o_0 (by decide) i_Reader rfl rfl (by decide) qw_287 rfl rfl (o + 1) rfl ?_
      refine gw_iconst C (4 : Int32) d_Reader_houseLine_70 (by decide) ?_
      obtain ⟨q71, hq71, hf0⟩ := mx_bd hf0
      refine gw_callI C (c_Tokens_isWord _ hg k_o_1 hq71) d_Reader_houseLine_71 1 qw_593 qw_594 qw_595 qw_3 qw_596 k_o_1 (by decide) rfl hd_Tokens_isWord rfl rfl (Nat.le_of_ble_eq_true rfl) ⟨rfl, rfl, Nat.le_of_ble_eq_true rfl, Nat.le_of_ble_eq_true rfl⟩ ⟨Nat.zero_le _, Nat.zero_le _⟩ ?_
      refine gw_if_ne C 79 d_Reader_houseLine_74 (by decide) (fun hc => ?_) (fun hc => ?_)
      · replace hf0 := mx_f hc hf0
        refine gw_aload_n C 1 d_Reader_houseLine_79 rfl rfl ?_
        refine gw_getA C 0 d_Reader_houseLine_80 k_o_0 (by decide) i_Reader rfl rfl (by decide) qw_287 rfl rfl (o + 1) rfl ?_
        obtain ⟨q83, hq83, hf0⟩ := mx_bd hf0
        refine gw_callV C (c_Tokens_step _ hg k_o_1 hq83) d_Reader_houseLine_83 0 qw_481 qw_482 qw_483 qw_3 qw_484 k_o_1 (by decide) rfl hd_Tokens_step rfl rfl (Nat.le_of_ble_eq_true rfl) ⟨rfl, rfl, Nat.le_of_ble_eq_true rfl, Nat.le_of_ble_eq_true rfl⟩ ⟨Nat.zero_le _, Nat.zero_le _⟩ ?_
        refine gw_aload_n C 1 d_Reader_houseLine_86 rfl rfl ?_
        refine gw_aload_n C 1 d_Reader_houseLine_87 rfl rfl ?_
        refine gw_getA C 1 d_Reader_houseLine_88 k_o_0 (by decide) i_Reader rfl rfl (by decide) qw_289 rfl rfl (o + 4) rfl ?_
        refine gw_getAN C 0 d_Reader_houseLine_91 k_o_4 (by decide) i_State rfl rfl (by decide) qw_236 rfl rfl (o + 5) rfl ?_
        refine gw_getAN C 0 d_Reader_houseLine_94 k_o_5 (by decide) i_Island rfl rfl (by decide) qw_127 rfl rfl (o + 6) rfl ?_
        obtain ⟨q97, hq97, hf0⟩ := mx_bd hf0
        refine gw_callI C (c_Reader_isOneOf _ hg k_o_0 k_o_6 hq97) d_Reader_houseLine_97 1 qw_601 qw_603 qs_9 qw_2 qw_604 k_o_0 (by decide) rfl hd_Reader_isOneOf rfl rfl (Nat.le_of_ble_eq_true rfl) ⟨rfl, rfl, Nat.le_of_ble_eq_true rfl, Nat.le_of_ble_eq_true rfl⟩ ⟨Nat.zero_le _, Nat.zero_le _⟩ ?_
        refine gw_if_ne C 105 d_Reader_houseLine_100 (by decide) (fun hc => ?_) (fun hc => ?_)
        · replace hf0 := mx_f hc hf0
          refine gw_aload_n C 1 d_Reader_houseLine_105 rfl rfl ?_
          refine gw_getA C 1 d_Reader_houseLine_106 k_o_0 (by decide) i_Reader rfl rfl (by decide) qw_289 rfl rfl (o + 4) rfl ?_
          refine gw_getAN C 1 d_Reader_houseLine_109 k_o_4 (by decide) i_State rfl rfl (by decide) qw_240 rfl rfl (o + 18) rfl ?_
          refine gw_aload_n C 1 d_Reader_houseLine_112 rfl rfl ?_
          refine gw_getI C 5 d_Reader_houseLine_113 k_o_0 (by decide) i_Reader rfl rfl (by decide) qw_297 rfl rfl ?_
          obtain ⟨q116, hq116, hf0⟩ := mx_bd hf0
          refine gw_callI C (c_Hands_holderOf _ hg k_o_18 hq116) d_Reader_houseLine_116 1 qw_605 qw_606 qw_607 qw_8 qw_608 k_o_18 (by decide) rfl hd_Hands_holderOf rfl rfl (Nat.le_of_ble_eq_true rfl) ⟨rfl, rfl, Nat.le_of_ble_eq_true rfl, Nat.le_of_ble_eq_true rfl⟩ ⟨Nat.zero_le _, Nat.zero_le _⟩ ?_
          refine gw_iconst C ((-1) : Int32) d_Reader_houseLine_119 (by decide) ?_
          refine gw_icmp_eq C 129 d_Reader_houseLine_120 (by decide) (fun hc => ?_) (fun hc => ?_)
          · replace hf0 := mx_t hc hf0
            refine gw_aload_n C 1 d_Reader_houseLine_129 rfl rfl ?_
            refine gw_getA C 1 d_Reader_houseLine_130 k_o_0 (by decide) i_Reader rfl rfl (by decide) qw_289 rfl rfl (o + 4) rfl ?_
            refine gw_getAN C 1 d_Reader_houseLine_133 k_o_4 (by decide) i_State rfl rfl (by decide) qw_240 rfl rfl (o + 18) rfl ?_
            refine gw_getAN C 0 d_Reader_houseLine_136 k_o_18 (by decide) i_Hands rfl rfl (by decide) qw_190 rfl rfl (o + 19) rfl ?_
            refine gw_iload_n C 0 d_Reader_houseLine_139 rfl rfl ?_
            refine gw_aload_n C 1 d_Reader_houseLine_140 rfl rfl ?_
            refine gw_getI C 5 d_Reader_houseLine_141 k_o_0 (by decide) i_Reader rfl rfl (by decide) qw_297 rfl rfl ?_
            obtain ⟨q144, hq144, hf0⟩ := mx_bd hf0
            refine gw_callV C (c_Row_put _ hg k_o_19 hq144) d_Reader_houseLine_144 2 qw_592 qw_461 qw_462 qw_4 qw_463 k_o_19 (by decide) rfl hd_Row_put rfl rfl (Nat.le_of_ble_eq_true rfl) ⟨rfl, rfl, Nat.le_of_ble_eq_true rfl, Nat.le_of_ble_eq_true rfl⟩ ⟨Nat.zero_le _, Nat.zero_le _⟩ ?_
            refine gw_aload_n C 1 d_Reader_houseLine_147 rfl rfl ?_
            refine gw_getA C 0 d_Reader_houseLine_148 k_o_0 (by decide) i_Reader rfl rfl (by decide) qw_287 rfl rfl (o + 1) rfl ?_
            obtain ⟨q151, hq151, hf0⟩ := mx_bd hf0
            refine gw_callV C (c_Tokens_step _ hg k_o_1 hq151) d_Reader_houseLine_151 0 qw_481 qw_482 qw_483 qw_3 qw_484 k_o_1 (by decide) rfl hd_Tokens_step rfl rfl (Nat.le_of_ble_eq_true rfl) ⟨rfl, rfl, Nat.le_of_ble_eq_true rfl, Nat.le_of_ble_eq_true rfl⟩ ⟨Nat.zero_le _, Nat.zero_le _⟩ ?_
            refine gw_iconst C (1 : Int32) d_Reader_houseLine_154 (by decide) ?_
            exact en_z hN (Or.inr rfl) hf0 d_Reader_houseLine_155
          · replace hf0 := mx_f hc hf0
            refine gw_aload_n C 1 d_Reader_houseLine_123 rfl rfl ?_
            refine gw_iconst C (3 : Int32) d_Reader_houseLine_124 (by decide) ?_
            obtain ⟨q125, hq125, hf0⟩ := mx_bd hf0
            refine gw_callI C (c_Reader_fail _ hg k_o_0 hq125) d_Reader_houseLine_125 1 qw_568 qw_570 qs_4 qw_2 qw_571 k_o_0 (by decide) rfl hd_Reader_fail rfl rfl (Nat.le_of_ble_eq_true rfl) ⟨rfl, rfl, Nat.le_of_ble_eq_true rfl, Nat.le_of_ble_eq_true rfl⟩ ⟨Nat.zero_le _, Nat.zero_le _⟩ ?_
            obtain ⟨y128, hy128, hf0⟩ := mx_bd hf0
            obtain ⟨zy128, ey128⟩ := mx_zb hy128
            refine gw_topi ey128 ?_
            exact en_z hN zy128 hf0 d_Reader_houseLine_128
        · replace hf0 := mx_t hc hf0
          refine gw_iconst C (0 : Int32) d_Reader_houseLine_103 (by decide) ?_
          exact en_z hN (Or.inl rfl) hf0 d_Reader_houseLine_104
      · replace hf0 := mx_t hc hf0
        refine gw_iconst C (1 : Int32) d_Reader_houseLine_77 (by decide) ?_
        exact en_z hN (Or.inr rfl) hf0 d_Reader_houseLine_78
    · replace hf0 := mx_t hc hf0
      refine gw_iconst C (0 : Int32) d_Reader_houseLine_36 (by decide) ?_
      exact en_z hN (Or.inl rfl) hf0 d_Reader_houseLine_37
  · replace hf0 := mx_f hc hf0
    refine gw_aload_n C 0 d_Reader_houseLine_16 rfl rfl ?_
    refine gw_iconst C (4 : Int32) d_Reader_houseLine_17 (by decide) ?_
    obtain ⟨q18, hq18, hf0⟩ := mx_bd hf0
    refine gw_callI C (c_Reader_fail _ hg k_o_0 hq18) d_Reader_houseLine_18 1 qw_568 qw_570 qs_4 qw_2 qw_571 k_o_0 (by decide) rfl hd_Reader_fail rfl rfl (Nat.le_of_ble_eq_true rfl) ⟨rfl, rfl, Nat.le_of_ble_eq_true rfl, Nat.le_of_ble_eq_true rfl⟩ ⟨Nat.zero_le _, Nat.zero_le _⟩ ?_
    obtain ⟨y21, hy21, hf0⟩ := mx_bd hf0
    obtain ⟨zy21, ey21⟩ := mx_zb hy21
    refine gw_topi ey21 ?_
    exact en_z hN zy21 hf0 d_Reader_houseLine_21

/-! NameHat.Reader.wantsLine()Z -/
abbrev b_Reader_wantsLine : ByteArray := prog_6_method_12_code
def y_Reader_wantsLine : MethodName := ⟨"NameHat$Reader", "wantsLine", "()Z"⟩
abbrev rm_Reader_wantsLine : Room := { frames := 9, cells := 0, slots := 0, locals := 468 }
theorem hd_Reader_wantsLine : y_Reader_wantsLine.cls ≠ "java/lang/invoke/MethodHandle" ∧ y_Reader_wantsLine.cls ≠ "java/lang/invoke/VarHandle" ∧ (parseMethodDescriptor y_Reader_wantsLine.desc).map (fun d => d.parameters.length) = some 0 := by decide +kernel
theorem d_Reader_wantsLine_0 : decode b_Reader_wantsLine 0 = .ok (.aload_n 0, 1) := by decide +kernel
theorem d_Reader_wantsLine_1 : decode b_Reader_wantsLine 1 = .ok (.getfield 12, 3) := by decide +kernel
theorem d_Reader_wantsLine_4 : decode b_Reader_wantsLine 4 = .ok (.invokevirtual 46, 3) := by decide +kernel
theorem d_Reader_wantsLine_7 : decode b_Reader_wantsLine 7 = .ok (.aload_n 0, 1) := by decide +kernel
theorem d_Reader_wantsLine_8 : decode b_Reader_wantsLine 8 = .ok (.aload_n 0, 1) := by decide +kernel
theorem d_Reader_wantsLine_9 : decode b_Reader_wantsLine 9 = .ok (.getfield 21, 3) := by decide +kernel
theorem d_Reader_wantsLine_12 : decode b_Reader_wantsLine 12 = .ok (.getfield 84, 3) := by decide +kernel
theorem d_Reader_wantsLine_15 : decode b_Reader_wantsLine 15 = .ok (.getfield 104, 3) := by decide +kernel
theorem d_Reader_wantsLine_18 : decode b_Reader_wantsLine 18 = .ok (.invokevirtual 161, 3) := by decide +kernel
theorem d_Reader_wantsLine_21 : decode b_Reader_wantsLine 21 = .ok (.ifCond .ne 5, 3) := by decide +kernel
theorem d_Reader_wantsLine_24 : decode b_Reader_wantsLine 24 = .ok (.iconst 0, 1) := by decide +kernel
theorem d_Reader_wantsLine_25 : decode b_Reader_wantsLine 25 = .ok (.ireturn, 1) := by decide +kernel
theorem d_Reader_wantsLine_26 : decode b_Reader_wantsLine 26 = .ok (.aload_n 0, 1) := by decide +kernel
theorem d_Reader_wantsLine_27 : decode b_Reader_wantsLine 27 = .ok (.getfield 107, 3) := by decide +kernel
theorem d_Reader_wantsLine_30 : decode b_Reader_wantsLine 30 = .ok (.istore_n 1, 1) := by decide +kernel
theorem d_Reader_wantsLine_31 : decode b_Reader_wantsLine 31 = .ok (.aload_n 0, 1) := by decide +kernel
theorem d_Reader_wantsLine_32 : decode b_Reader_wantsLine 32 = .ok (.getfield 12, 3) := by decide +kernel
theorem d_Reader_wantsLine_35 : decode b_Reader_wantsLine 35 = .ok (.invokevirtual 46, 3) := by decide +kernel
theorem d_Reader_wantsLine_38 : decode b_Reader_wantsLine 38 = .ok (.aload_n 0, 1) := by decide +kernel
theorem d_Reader_wantsLine_39 : decode b_Reader_wantsLine 39 = .ok (.aload_n 0, 1) := by decide +kernel
theorem d_Reader_wantsLine_40 : decode b_Reader_wantsLine 40 = .ok (.getfield 21, 3) := by decide +kernel
theorem d_Reader_wantsLine_43 : decode b_Reader_wantsLine 43 = .ok (.getfield 84, 3) := by decide +kernel
theorem d_Reader_wantsLine_46 : decode b_Reader_wantsLine 46 = .ok (.getfield 88, 3) := by decide +kernel
theorem d_Reader_wantsLine_49 : decode b_Reader_wantsLine 49 = .ok (.invokevirtual 161, 3) := by decide +kernel
theorem d_Reader_wantsLine_52 : decode b_Reader_wantsLine 52 = .ok (.ifCond .ne 5, 3) := by decide +kernel
theorem d_Reader_wantsLine_55 : decode b_Reader_wantsLine 55 = .ok (.iconst 0, 1) := by decide +kernel
theorem d_Reader_wantsLine_56 : decode b_Reader_wantsLine 56 = .ok (.ireturn, 1) := by decide +kernel
theorem d_Reader_wantsLine_57 : decode b_Reader_wantsLine 57 = .ok (.aload_n 0, 1) := by decide +kernel
theorem d_Reader_wantsLine_58 : decode b_Reader_wantsLine 58 = .ok (.getfield 107, 3) := by decide +kernel
theorem d_Reader_wantsLine_61 : decode b_Reader_wantsLine 61 = .ok (.istore_n 2, 1) := by decide +kernel
theorem d_Reader_wantsLine_62 : decode b_Reader_wantsLine 62 = .ok (.aload_n 0, 1) := by decide +kernel
theorem d_Reader_wantsLine_63 : decode b_Reader_wantsLine 63 = .ok (.getfield 21, 3) := by decide +kernel
theorem d_Reader_wantsLine_66 : decode b_Reader_wantsLine 66 = .ok (.getfield 84, 3) := by decide +kernel
theorem d_Reader_wantsLine_69 : decode b_Reader_wantsLine 69 = .ok (.iload_n 1, 1) := by decide +kernel
theorem d_Reader_wantsLine_70 : decode b_Reader_wantsLine 70 = .ok (.iload_n 2, 1) := by decide +kernel
theorem d_Reader_wantsLine_71 : decode b_Reader_wantsLine 71 = .ok (.invokevirtual 178, 3) := by decide +kernel
theorem d_Reader_wantsLine_74 : decode b_Reader_wantsLine 74 = .ok (.iconst (-1), 1) := by decide +kernel
theorem d_Reader_wantsLine_75 : decode b_Reader_wantsLine 75 = .ok (.if_icmp .eq 9, 3) := by decide +kernel
theorem d_Reader_wantsLine_78 : decode b_Reader_wantsLine 78 = .ok (.aload_n 0, 1) := by decide +kernel
theorem d_Reader_wantsLine_79 : decode b_Reader_wantsLine 79 = .ok (.iconst 3, 1) := by decide +kernel
theorem d_Reader_wantsLine_80 : decode b_Reader_wantsLine 80 = .ok (.invokevirtual 71, 3) := by decide +kernel
theorem d_Reader_wantsLine_83 : decode b_Reader_wantsLine 83 = .ok (.ireturn, 1) := by decide +kernel
theorem d_Reader_wantsLine_84 : decode b_Reader_wantsLine 84 = .ok (.aload_n 0, 1) := by decide +kernel
theorem d_Reader_wantsLine_85 : decode b_Reader_wantsLine 85 = .ok (.getfield 12, 3) := by decide +kernel
theorem d_Reader_wantsLine_88 : decode b_Reader_wantsLine 88 = .ok (.invokevirtual 46, 3) := by decide +kernel
theorem d_Reader_wantsLine_91 : decode b_Reader_wantsLine 91 = .ok (.aload_n 0, 1) := by decide +kernel
theorem d_Reader_wantsLine_92 : decode b_Reader_wantsLine 92 = .ok (.iconst 0, 1) := by decide +kernel
theorem d_Reader_wantsLine_93 : decode b_Reader_wantsLine 93 = .ok (.bipush 99, 2) := by decide +kernel
theorem d_Reader_wantsLine_95 : decode b_Reader_wantsLine 95 = .ok (.invokevirtual 140, 3) := by decide +kernel
theorem d_Reader_wantsLine_98 : decode b_Reader_wantsLine 98 = .ok (.ifCond .ne 5, 3) := by decide +kernel
theorem d_Reader_wantsLine_101 : decode b_Reader_wantsLine 101 = .ok (.iconst 0, 1) := by decide +kernel
theorem d_Reader_wantsLine_102 : decode b_Reader_wantsLine 102 = .ok (.ireturn, 1) := by decide +kernel
theorem d_Reader_wantsLine_103 : decode b_Reader_wantsLine 103 = .ok (.aload_n 0, 1) := by decide +kernel
theorem d_Reader_wantsLine_104 : decode b_Reader_wantsLine 104 = .ok (.getfield 21, 3) := by decide +kernel
theorem d_Reader_wantsLine_107 : decode b_Reader_wantsLine 107 = .ok (.getfield 84, 3) := by decide +kernel
theorem d_Reader_wantsLine_110 : decode b_Reader_wantsLine 110 = .ok (.iload_n 1, 1) := by decide +kernel
theorem d_Reader_wantsLine_111 : decode b_Reader_wantsLine 111 = .ok (.iload_n 2, 1) := by decide +kernel
theorem d_Reader_wantsLine_112 : decode b_Reader_wantsLine 112 = .ok (.aload_n 0, 1) := by decide +kernel
theorem d_Reader_wantsLine_113 : decode b_Reader_wantsLine 113 = .ok (.getfield 12, 3) := by decide +kernel
theorem d_Reader_wantsLine_116 : decode b_Reader_wantsLine 116 = .ok (.getfield 75, 3) := by decide +kernel
theorem d_Reader_wantsLine_119 : decode b_Reader_wantsLine 119 = .ok (.invokevirtual 182, 3) := by decide +kernel
theorem d_Reader_wantsLine_122 : decode b_Reader_wantsLine 122 = .ok (.aload_n 0, 1) := by decide +kernel
theorem d_Reader_wantsLine_123 : decode b_Reader_wantsLine 123 = .ok (.getfield 12, 3) := by decide +kernel
theorem d_Reader_wantsLine_126 : decode b_Reader_wantsLine 126 = .ok (.invokevirtual 46, 3) := by decide +kernel
theorem d_Reader_wantsLine_129 : decode b_Reader_wantsLine 129 = .ok (.iconst 1, 1) := by decide +kernel
theorem d_Reader_wantsLine_130 : decode b_Reader_wantsLine 130 = .ok (.ireturn, 1) := by decide +kernel
noncomputable def f_Reader_wantsLine (z : Nat → Nat) (σ : Mm) (o : Nat) : Option (Int32 × Mm) :=
  (f_Tokens_step z σ (o + 1)).bind fun q4 =>
  (f_Reader_isOneOf z q4 o (o + 8)).bind fun q18 =>
  if q18.1 = 0 then (
    some ((0 : Int32), q18.2)
  ) else (
    mm_lt ((q18.2.1 o 5)) fun x30 =>
    (f_Tokens_step z q18.2 (o + 1)).bind fun q35 =>
    (f_Reader_isOneOf z q35 o (o + 6)).bind fun q49 =>
    if q49.1 = 0 then (
      some ((0 : Int32), q49.2)
    ) else (
      mm_lt ((q49.2.1 o 5)) fun x61 =>
      (f_Island_wanted z q49.2 (o + 5) x30 x61).bind fun q71 =>
      if q71 = ((-1) : Int32) then (
        (f_Tokens_step z q49.2 (o + 1)).bind fun q88 =>
        (f_Reader_isNumber z q88 o (0 : Int32) (99 : Int32)).bind fun q95 =>
        if q95.1 = 0 then (
          some ((0 : Int32), q95.2)
        ) else (
          (f_Island_want z q95.2 (o + 5) x30 x61 (q95.2.1 (o + 1) 6)).bind fun q119 =>
          (f_Tokens_step z q119 (o + 1)).bind fun q126 =>
          some ((1 : Int32), q126)
        )
      ) else (
        (f_Reader_fail z q49.2 o (3 : Int32)).bind fun q80 =>
        (mm_zb q80.1).bind fun y83 =>
        some (y83, q80.2)
      )
    )
  )
set_option maxHeartbeats 4000000 in
set_option maxRecDepth 100000 in
theorem c_Reader_wantsLine (l : Launch) {L : Ly} (hg : gd_ok L) {σ : Mm} {o : Nat} (k_o_0 : ly_k L o = 9) {res : Int32 × Mm} (hf0 : f_Reader_wantsLine (ly_z L) σ o = some res) : CtI l y_Reader_wantsLine b_Reader_wantsLine 3 (some .boolean) rm_Reader_wantsLine L [.ref (ly_a L o)] σ res.1 res.2 := by
  refine ct_z hg (by decide) (Nat.le_of_ble_eq_true rfl) ?_
  intro E A Q hE C hN
  subst hE
  have k_o_1 : ly_k L (o + 1) = 8 := gd_Reader_tokens hg k_o_0
  have k_o_4 : ly_k L (o + 4) = 4 := gd_Reader_draft hg k_o_0
  have k_o_5 : ly_k L (o + 5) = 2 := gd_State_island hg k_o_4
  have k_o_8 : ly_k L (o + 8) = 1 := gd_Island_houses hg k_o_5
  have k_o_6 : ly_k L (o + 6) = 1 := gd_Island_surnames hg k_o_5
  unfold f_Reader_wantsLine at hf0
  show GW E L A 3 0 0 Q σ 0 [(0, .ref (ly_a L o))] []
  refine gw_aload_n C 0 d_Reader_wantsLine_0 rfl rfl ?_
  refine gw_getA C 0 d_Reader_wantsLine_1 k_o_0 (by decide) i_Reader rfl rfl (by decide) qw_287 rfl rfl (o + 1) rfl ?_
  obtain ⟨q4, hq4, hf0⟩ := mx_bd hf0
  refine gw_callV C (c_Tokens_step _ hg k_o_1 hq4) d_Reader_wantsLine_4 0 qw_481 qw_482 qw_483 qw_3 qw_484 k_o_1 (by decide) rfl hd_Tokens_step rfl rfl (Nat.le_of_ble_eq_true rfl) ⟨rfl, rfl, Nat.le_of_ble_eq_true rfl, Nat.le_of_ble_eq_true rfl⟩ ⟨Nat.zero_le _, Nat.zero_le _⟩ ?_
  refine gw_aload_n C 0 d_Reader_wantsLine_7 rfl rfl ?_
  refine gw_aload_n C 0 d_Reader_wantsLine_8 rfl rfl ?_
  refine gw_getA C 1 d_Reader_wantsLine_9 k_o_0 (by decide) i_Reader rfl rfl (by decide) qw_289 rfl rfl (o + 4) rfl ?_
  refine gw_getAN C 0 d_Reader_wantsLine_12 k_o_4 (by decide) i_State rfl rfl (by decide) qw_236 rfl rfl (o + 5) rfl ?_
  refine gw_getAN C 1 d_Reader_wantsLine_15 k_o_5 (by decide) i_Island rfl rfl (by decide) qw_135 rfl rfl (o + 8) rfl ?_
  obtain ⟨q18, hq18, hf0⟩ := mx_bd hf0
  refine gw_callI C (c_Reader_isOneOf _ hg k_o_0 k_o_8 hq18) d_Reader_wantsLine_18 1 qw_601 qw_603 qs_9 qw_2 qw_604 k_o_0 (by decide) rfl hd_Reader_isOneOf rfl rfl (Nat.le_of_ble_eq_true rfl) ⟨rfl, rfl, Nat.le_of_ble_eq_true rfl, Nat.le_of_ble_eq_true rfl⟩ ⟨Nat.zero_le _, Nat.zero_le _⟩ ?_
  refine gw_if_ne C 26 d_Reader_wantsLine_21 (by decide) (fun hc => ?_) (fun hc => ?_)
  · replace hf0 := mx_f hc hf0
    refine gw_aload_n C 0 d_Reader_wantsLine_26 rfl rfl ?_
    refine gw_getI C 5 d_Reader_wantsLine_27 k_o_0 (by decide) i_Reader rfl rfl (by decide) qw_297 rfl rfl ?_
    obtain ⟨x30, ex30, hf0⟩ := mx_lt hf0
    refine gw_topi ex30 ?_
    refine gw_istore_n C [(1, .int x30), (0, .ref (ly_a L o))] d_Reader_wantsLine_30 rfl (by decide) rfl ?_
    refine gw_aload_n C 1 d_Reader_wantsLine_31 rfl rfl ?_
    refine gw_getA C 0 d_Reader_wantsLine_32 k_o_0 (by decide) i_Reader rfl rfl (by decide) qw_287 rfl rfl (o + 1) rfl ?_
    obtain ⟨q35, hq35, hf0⟩ := mx_bd hf0
    refine gw_callV C (c_Tokens_step _ hg k_o_1 hq35) d_Reader_wantsLine_35 0 qw_481 qw_482 qw_483 qw_3 qw_484 k_o_1 (by decide) rfl hd_Tokens_step rfl rfl (Nat.le_of_ble_eq_true rfl) ⟨rfl, rfl, Nat.le_of_ble_eq_true rfl, Nat.le_of_ble_eq_true rfl⟩ ⟨Nat.zero_le _, Nat.zero_le _⟩ ?_
    refine gw_aload_n C 1 d_Reader_wantsLine_38 rfl rfl ?_
    refine gw_aload_n C 1 d_Reader_wantsLine_39 rfl rfl ?_
    refine gw_getA C 1 d_Reader_wantsLine_40 k_o_0 (by decide) i_Reader rfl rfl (by decide) qw_289 rfl rfl (o + 4) rfl ?_
    refine gw_getAN C 0 d_Reader_wantsLine_43 k_o_4 (by decide) i_State rfl rfl (by decide) qw_236 rfl rfl (o + 5) rfl ?_
    refine gw_getAN C 0 d_Reader_wantsLine_46 k_o_5 (by decide) i_Island rfl rfl (by decide) qw_127 rfl rfl (o + 6) rfl ?_
    obtain ⟨q49, hq49, hf0⟩ := mx_bd hf0
    refine gw_callI C (c_Reader_isOneOf _ hg k_o_0 k_o_6 hq49) d_Reader_wantsLine_49 1 qw_601 qw_603 qs_9 qw_2 qw_604 k_o_0 (by decide) rfl hd_Reader_isOneOf rfl rfl (Nat.le_of_ble_eq_true rfl) ⟨rfl, rfl, Nat.le_of_ble_eq_true rfl, Nat.le_of_ble_eq_true rfl⟩ ⟨Nat.zero_le _, Nat.zero_le _⟩ ?_
    refine gw_if_ne C 57 d_Reader_wantsLine_52 (by decide) (fun hc => ?_) (fun hc => ?_)
    · replace hf0 := mx_f hc hf0
      refine gw_aload_n C 1 d_Reader_wantsLine_57 rfl rfl ?_
      refine gw_getI C 5 d_Reader_wantsLine_58 k_o_0 (by decide) i_Reader rfl rfl (by decide) qw_297 rfl rfl ?_
      obtain ⟨x61, ex61, hf0⟩ := mx_lt hf0
      refine gw_topi ex61 ?_
      refine gw_istore_n C [(2, .int x61), (1, .int x30), (0, .ref (ly_a L o))] d_Reader_wantsLine_61 rfl (by decide) rfl ?_
      refine gw_aload_n C 2 d_Reader_wantsLine_62 rfl rfl ?_
      refine gw_getA C 1 d_Reader_wantsLine_63 k_o_0 (by decide) i_Reader rfl rfl (by decide) qw_289 rfl rfl (o + 4) rfl ?_
      refine gw_getAN C 0 d_Reader_wantsLine_66 k_o_4 (by decide) i_State rfl rfl (by decide) qw_236 rfl rfl (o + 5) rfl ?_
      refine gw_iload_n C 1 d_Reader_wantsLine_69 rfl rfl ?_
      refine gw_iload_n C 0 d_Reader_wantsLine_70 rfl rfl ?_
      obtain ⟨q71, hq71, hf0⟩ := mx_bd hf0
      refine gw_callI C (c_Island_wanted _ hg k_o_5 hq71) d_Reader_wantsLine_71 2 qw_614 qw_615 qw_616 qw_6 qw_617 k_o_5 (by decide) rfl hd_Island_wanted rfl rfl (Nat.le_of_ble_eq_true rfl) ⟨rfl, rfl, Nat.le_of_ble_eq_true rfl, Nat.le_of_ble_eq_true rfl⟩ ⟨Nat.zero_le _, Nat.zero_le _⟩ ?_
      refine gw_iconst C ((-1) : Int32) d_Reader_wantsLine_74 (by decide) ?_
      refine gw_icmp_eq C 84 d_Reader_wantsLine_75 (by decide) (fun hc => ?_) (fun hc => ?_)
      · replace hf0 := mx_t hc hf0
        refine gw_aload_n C 2 d_Reader_wantsLine_84 rfl rfl ?_
        refine gw_getA C 0 d_Reader_wantsLine_85 k_o_0 (by decide) i_Reader rfl rfl (by decide) qw_287 rfl rfl (o + 1) rfl ?_
        obtain ⟨q88, hq88, hf0⟩ := mx_bd hf0
        refine gw_callV C (c_Tokens_step _ hg k_o_1 hq88) d_Reader_wantsLine_88 0 qw_481 qw_482 qw_483 qw_3 qw_484 k_o_1 (by decide) rfl hd_Tokens_step rfl rfl (Nat.le_of_ble_eq_true rfl) ⟨rfl, rfl, Nat.le_of_ble_eq_true rfl, Nat.le_of_ble_eq_true rfl⟩ ⟨Nat.zero_le _, Nat.zero_le _⟩ ?_
        refine gw_aload_n C 2 d_Reader_wantsLine_91 rfl rfl ?_
        refine gw_iconst C (0 : Int32) d_Reader_wantsLine_92 (by decide) ?_
        refine gw_bipush C (99 : Int32) d_Reader_wantsLine_93 (by decide) ?_
        obtain ⟨q95, hq95, hf0⟩ := mx_bd hf0
        refine gw_callI C (c_Reader_isNumber _ hg k_o_0 hq95) d_Reader_wantsLine_95 2 qw_588 qw_590 qs_7 qw_2 qw_591 k_o_0 (by decide) rfl hd_Reader_isNumber rfl rfl (Nat.le_of_ble_eq_true rfl) ⟨rfl, rfl, Nat.le_of_ble_eq_true rfl, Nat.le_of_ble_eq_true rfl⟩ ⟨Nat.zero_le _, Nat.zero_le _⟩ ?_
        refine gw_if_ne C 103 d_Reader_wantsLine_98 (by decide) (fun hc => ?_) (fun hc => ?_)
        · replace hf0 := mx_f hc hf0
          refine gw_aload_n C 2 d_Reader_wantsLine_103 rfl rfl ?_
          refine gw_getA C 1 d_Reader_wantsLine_104 k_o_0 (by decide) i_Reader rfl rfl (by decide) qw_289 rfl rfl (o + 4) rfl ?_
          refine gw_getAN C 0 d_Reader_wantsLine_107 k_o_4 (by decide) i_State rfl rfl (by decide) qw_236 rfl rfl (o + 5) rfl ?_
          refine gw_iload_n C 1 d_Reader_wantsLine_110 rfl rfl ?_
          refine gw_iload_n C 0 d_Reader_wantsLine_111 rfl rfl ?_
          refine gw_aload_n C 2 d_Reader_wantsLine_112 rfl rfl ?_
          refine gw_getA C 0 d_Reader_wantsLine_113 k_o_0 (by decide) i_Reader rfl rfl (by decide) qw_287 rfl rfl (o + 1) rfl ?_
          refine gw_getIN C 6 d_Reader_wantsLine_116 k_o_1 (by decide) i_Tokens rfl rfl (by decide) qw_65 rfl rfl ?_
          obtain ⟨q119, hq119, hf0⟩ := mx_bd hf0
          refine gw_callV C (c_Island_want _ hg k_o_5 hq119) d_Reader_wantsLine_119 3 qw_619 qw_620 qw_621 qw_6 qw_622 k_o_5 (by decide) rfl hd_Island_want rfl rfl (Nat.le_of_ble_eq_true rfl) ⟨rfl, rfl, Nat.le_of_ble_eq_true rfl, Nat.le_of_ble_eq_true rfl⟩ ⟨Nat.zero_le _, Nat.zero_le _⟩ ?_
          refine gw_aload_n C 2 d_Reader_wantsLine_122 rfl rfl ?_
          refine gw_getA C 0 d_Reader_wantsLine_123 k_o_0 (by decide) i_Reader rfl rfl (by decide) qw_287 rfl rfl (o + 1) rfl ?_
          obtain ⟨q126, hq126, hf0⟩ := mx_bd hf0
          refine gw_callV C (c_Tokens_step _ hg k_o_1 hq126) d_Reader_wantsLine_126 0 qw_481 qw_482 qw_483 qw_3 qw_484 k_o_1 (by decide) rfl hd_Tokens_step rfl rfl (Nat.le_of_ble_eq_true rfl) ⟨rfl, rfl, Nat.le_of_ble_eq_true rfl, Nat.le_of_ble_eq_true rfl⟩ ⟨Nat.zero_le _, Nat.zero_le _⟩ ?_
          refine gw_iconst C (1 : Int32) d_Reader_wantsLine_129 (by decide) ?_
          exact en_z hN (Or.inr rfl) hf0 d_Reader_wantsLine_130
        · replace hf0 := mx_t hc hf0
          refine gw_iconst C (0 : Int32) d_Reader_wantsLine_101 (by decide) ?_
          exact en_z hN (Or.inl rfl) hf0 d_Reader_wantsLine_102
      · replace hf0 := mx_f hc hf0
        refine gw_aload_n C 2 d_Reader_wantsLine_78 rfl rfl ?_
        refine gw_iconst C (3 : Int32) d_Reader_wantsLine_79 (by decide) ?_
        obtain ⟨q80, hq80, hf0⟩ := mx_bd hf0
        refine gw_callI C (c_Reader_fail _ hg k_o_0 hq80) d_Reader_wantsLine_80 1 qw_568 qw_570 qs_4 qw_2 qw_571 k_o_0 (by decide) rfl hd_Reader_fail rfl rfl (Nat.le_of_ble_eq_true rfl) ⟨rfl, rfl, Nat.le_of_ble_eq_true rfl, Nat.le_of_ble_eq_true rfl⟩ ⟨Nat.zero_le _, Nat.zero_le _⟩ ?_
        obtain ⟨y83, hy83, hf0⟩ := mx_bd hf0
        obtain ⟨zy83, ey83⟩ := mx_zb hy83
        refine gw_topi ey83 ?_
        exact en_z hN zy83 hf0 d_Reader_wantsLine_83
    · replace hf0 := mx_t hc hf0
      refine gw_iconst C (0 : Int32) d_Reader_wantsLine_55 (by decide) ?_
      exact en_z hN (Or.inl rfl) hf0 d_Reader_wantsLine_56
  · replace hf0 := mx_t hc hf0
    refine gw_iconst C (0 : Int32) d_Reader_wantsLine_24 (by decide) ?_
    exact en_z hN (Or.inl rfl) hf0 d_Reader_wantsLine_25

/-! NameHat.Reader.feudLine()Z -/
abbrev b_Reader_feudLine : ByteArray := prog_6_method_13_code
def y_Reader_feudLine : MethodName := ⟨"NameHat$Reader", "feudLine", "()Z"⟩
abbrev rm_Reader_feudLine : Room := { frames := 9, cells := 0, slots := 0, locals := 468 }
theorem hd_Reader_feudLine : y_Reader_feudLine.cls ≠ "java/lang/invoke/MethodHandle" ∧ y_Reader_feudLine.cls ≠ "java/lang/invoke/VarHandle" ∧ (parseMethodDescriptor y_Reader_feudLine.desc).map (fun d => d.parameters.length) = some 0 := by decide +kernel
theorem d_Reader_feudLine_0 : decode b_Reader_feudLine 0 = .ok (.aload_n 0, 1) := by decide +kernel
theorem d_Reader_feudLine_1 : decode b_Reader_feudLine 1 = .ok (.getfield 12, 3) := by decide +kernel
theorem d_Reader_feudLine_4 : decode b_Reader_feudLine 4 = .ok (.invokevirtual 46, 3) := by decide +kernel
theorem d_Reader_feudLine_7 : decode b_Reader_feudLine 7 = .ok (.aload_n 0, 1) := by decide +kernel
theorem d_Reader_feudLine_8 : decode b_Reader_feudLine 8 = .ok (.aload_n 0, 1) := by decide +kernel
theorem d_Reader_feudLine_9 : decode b_Reader_feudLine 9 = .ok (.getfield 21, 3) := by decide +kernel
theorem d_Reader_feudLine_12 : decode b_Reader_feudLine 12 = .ok (.getfield 84, 3) := by decide +kernel
theorem d_Reader_feudLine_15 : decode b_Reader_feudLine 15 = .ok (.getfield 88, 3) := by decide +kernel
theorem d_Reader_feudLine_18 : decode b_Reader_feudLine 18 = .ok (.invokevirtual 161, 3) := by decide +kernel
theorem d_Reader_feudLine_21 : decode b_Reader_feudLine 21 = .ok (.ifCond .ne 5, 3) := by decide +kernel
theorem d_Reader_feudLine_24 : decode b_Reader_feudLine 24 = .ok (.iconst 0, 1) := by decide +kernel
theorem d_Reader_feudLine_25 : decode b_Reader_feudLine 25 = .ok (.ireturn, 1) := by decide +kernel
theorem d_Reader_feudLine_26 : decode b_Reader_feudLine 26 = .ok (.aload_n 0, 1) := by decide +kernel
theorem d_Reader_feudLine_27 : decode b_Reader_feudLine 27 = .ok (.getfield 107, 3) := by decide +kernel
theorem d_Reader_feudLine_30 : decode b_Reader_feudLine 30 = .ok (.istore_n 1, 1) := by decide +kernel
theorem d_Reader_feudLine_31 : decode b_Reader_feudLine 31 = .ok (.aload_n 0, 1) := by decide +kernel
theorem d_Reader_feudLine_32 : decode b_Reader_feudLine 32 = .ok (.getfield 12, 3) := by decide +kernel
theorem d_Reader_feudLine_35 : decode b_Reader_feudLine 35 = .ok (.invokevirtual 46, 3) := by decide +kernel
theorem d_Reader_feudLine_38 : decode b_Reader_feudLine 38 = .ok (.aload_n 0, 1) := by decide +kernel
theorem d_Reader_feudLine_39 : decode b_Reader_feudLine 39 = .ok (.aload_n 0, 1) := by decide +kernel
theorem d_Reader_feudLine_40 : decode b_Reader_feudLine 40 = .ok (.getfield 21, 3) := by decide +kernel
theorem d_Reader_feudLine_43 : decode b_Reader_feudLine 43 = .ok (.getfield 84, 3) := by decide +kernel
theorem d_Reader_feudLine_46 : decode b_Reader_feudLine 46 = .ok (.getfield 88, 3) := by decide +kernel
theorem d_Reader_feudLine_49 : decode b_Reader_feudLine 49 = .ok (.invokevirtual 161, 3) := by decide +kernel
theorem d_Reader_feudLine_52 : decode b_Reader_feudLine 52 = .ok (.ifCond .ne 5, 3) := by decide +kernel
theorem d_Reader_feudLine_55 : decode b_Reader_feudLine 55 = .ok (.iconst 0, 1) := by decide +kernel
theorem d_Reader_feudLine_56 : decode b_Reader_feudLine 56 = .ok (.ireturn, 1) := by decide +kernel
theorem d_Reader_feudLine_57 : decode b_Reader_feudLine 57 = .ok (.iload_n 1, 1) := by decide +kernel
theorem d_Reader_feudLine_58 : decode b_Reader_feudLine 58 = .ok (.aload_n 0, 1) := by decide +kernel
theorem d_Reader_feudLine_59 : decode b_Reader_feudLine 59 = .ok (.getfield 107, 3) := by decide +kernel
theorem d_Reader_feudLine_62 : decode b_Reader_feudLine 62 = .ok (.if_icmp .eq 21, 3) := by decide +kernel
theorem d_Reader_feudLine_65 : decode b_Reader_feudLine 65 = .ok (.aload_n 0, 1) := by decide +kernel
theorem d_Reader_feudLine_66 : decode b_Reader_feudLine 66 = .ok (.getfield 21, 3) := by decide +kernel
theorem d_Reader_feudLine_69 : decode b_Reader_feudLine 69 = .ok (.getfield 84, 3) := by decide +kernel
theorem d_Reader_feudLine_72 : decode b_Reader_feudLine 72 = .ok (.iload_n 1, 1) := by decide +kernel
theorem d_Reader_feudLine_73 : decode b_Reader_feudLine 73 = .ok (.aload_n 0, 1) := by decide +kernel
theorem d_Reader_feudLine_74 : decode b_Reader_feudLine 74 = .ok (.getfield 107, 3) := by decide +kernel
theorem d_Reader_feudLine_77 : decode b_Reader_feudLine 77 = .ok (.invokevirtual 186, 3) := by decide +kernel
theorem d_Reader_feudLine_80 : decode b_Reader_feudLine 80 = .ok (.ifCond .eq 9, 3) := by decide +kernel
theorem d_Reader_feudLine_83 : decode b_Reader_feudLine 83 = .ok (.aload_n 0, 1) := by decide +kernel
theorem d_Reader_feudLine_84 : decode b_Reader_feudLine 84 = .ok (.iconst 3, 1) := by decide +kernel
theorem d_Reader_feudLine_85 : decode b_Reader_feudLine 85 = .ok (.invokevirtual 71, 3) := by decide +kernel
theorem d_Reader_feudLine_88 : decode b_Reader_feudLine 88 = .ok (.ireturn, 1) := by decide +kernel
theorem d_Reader_feudLine_89 : decode b_Reader_feudLine 89 = .ok (.aload_n 0, 1) := by decide +kernel
theorem d_Reader_feudLine_90 : decode b_Reader_feudLine 90 = .ok (.getfield 21, 3) := by decide +kernel
theorem d_Reader_feudLine_93 : decode b_Reader_feudLine 93 = .ok (.getfield 84, 3) := by decide +kernel
theorem d_Reader_feudLine_96 : decode b_Reader_feudLine 96 = .ok (.iload_n 1, 1) := by decide +kernel
theorem d_Reader_feudLine_97 : decode b_Reader_feudLine 97 = .ok (.aload_n 0, 1) := by decide +kernel
theorem d_Reader_feudLine_98 : decode b_Reader_feudLine 98 = .ok (.getfield 107, 3) := by decide +kernel
theorem d_Reader_feudLine_101 : decode b_Reader_feudLine 101 = .ok (.invokevirtual 189, 3) := by decide +kernel
theorem d_Reader_feudLine_104 : decode b_Reader_feudLine 104 = .ok (.aload_n 0, 1) := by decide +kernel
theorem d_Reader_feudLine_105 : decode b_Reader_feudLine 105 = .ok (.getfield 12, 3) := by decide +kernel
theorem d_Reader_feudLine_108 : decode b_Reader_feudLine 108 = .ok (.invokevirtual 46, 3) := by decide +kernel
theorem d_Reader_feudLine_111 : decode b_Reader_feudLine 111 = .ok (.iconst 1, 1) := by decide +kernel
theorem d_Reader_feudLine_112 : decode b_Reader_feudLine 112 = .ok (.ireturn, 1) := by decide +kernel
noncomputable def f_Reader_feudLine_J83 (z : Nat → Nat) (o : Nat) (m83 : Mm) : Option (Int32 × Mm) :=
  (f_Reader_fail z m83 o (3 : Int32)).bind fun q85 =>
  (mm_zb q85.1).bind fun y88 =>
  some (y88, q85.2)
noncomputable def f_Reader_feudLine (z : Nat → Nat) (σ : Mm) (o : Nat) : Option (Int32 × Mm) :=
  (f_Tokens_step z σ (o + 1)).bind fun q4 =>
  (f_Reader_isOneOf z q4 o (o + 6)).bind fun q18 =>
  if q18.1 = 0 then (
    some ((0 : Int32), q18.2)
  ) else (
    mm_lt ((q18.2.1 o 5)) fun x30 =>
    (f_Tokens_step z q18.2 (o + 1)).bind fun q35 =>
    (f_Reader_isOneOf z q35 o (o + 6)).bind fun q49 =>
    if q49.1 = 0 then (
      some ((0 : Int32), q49.2)
    ) else (
      if x30 = (q49.2.1 o 5) then (
        f_Reader_feudLine_J83 z o q49.2
      ) else (
        (f_Island_feud z q49.2 (o + 5) x30 (q49.2.1 o 5)).bind fun q77 =>
        if q77 = 0 then (
          (f_Island_startFeud z q49.2 (o + 5) x30 (q49.2.1 o 5)).bind fun q101 =>
          (f_Tokens_step z q101 (o + 1)).bind fun q108 =>
          some ((1 : Int32), q108)
        ) else (
          f_Reader_feudLine_J83 z o q49.2
        )
      )
    )
  )
set_option maxHeartbeats 4000000 in
set_option maxRecDepth 100000 in
theorem c_Reader_feudLine (l : Launch) {L : Ly} (hg : gd_ok L) {σ : Mm} {o : Nat} (k_o_0 : ly_k L o = 9) {res : Int32 × Mm} (hf0 : f_Reader_feudLine (ly_z L) σ o = some res) : CtI l y_Reader_feudLine b_Reader_feudLine 2 (some .boolean) rm_Reader_feudLine L [.ref (ly_a L o)] σ res.1 res.2 := by
  refine ct_z hg (by decide) (Nat.le_of_ble_eq_true rfl) ?_
  intro E A Q hE C hN
  subst hE
  have k_o_1 : ly_k L (o + 1) = 8 := gd_Reader_tokens hg k_o_0
  have k_o_4 : ly_k L (o + 4) = 4 := gd_Reader_draft hg k_o_0
  have k_o_5 : ly_k L (o + 5) = 2 := gd_State_island hg k_o_4
  have k_o_6 : ly_k L (o + 6) = 1 := gd_Island_surnames hg k_o_5
  unfold f_Reader_feudLine at hf0
  show GW E L A 2 0 0 Q σ 0 [(0, .ref (ly_a L o))] []
  have hj83 : ∀ (m83 : Mm), f_Reader_feudLine_J83 (ly_z L) o m83 = some res → GW E L A 2 0 0 Q m83 83 [(0, .ref (ly_a L o))] [] := by
    intro m83 hf0
    unfold f_Reader_feudLine_J83 at hf0
    refine gw_aload_n C 0 d_Reader_feudLine_83 rfl rfl ?_
    refine gw_iconst C (3 : Int32) d_Reader_feudLine_84 (by decide) ?_
    obtain ⟨q85, hq85, hf0⟩ := mx_bd hf0
    refine gw_callI C (c_Reader_fail _ hg k_o_0 hq85) d_Reader_feudLine_85 1 qw_568 qw_570 qs_4 qw_2 qw_571 k_o_0 (by decide) rfl hd_Reader_fail rfl rfl (Nat.le_of_ble_eq_true rfl) ⟨rfl, rfl, Nat.le_of_ble_eq_true rfl, Nat.le_of_ble_eq_true rfl⟩ ⟨Nat.zero_le _, Nat.zero_le _⟩ ?_
    obtain ⟨y88, hy88, hf0⟩ := mx_bd hf0
    obtain ⟨zy88, ey88⟩ := mx_zb hy88
    refine gw_topi ey88 ?_
    exact en_z hN zy88 hf0 d_Reader_feudLine_88
  refine gw_aload_n C 0 d_Reader_feudLine_0 rfl rfl ?_
  refine gw_getA C 0 d_Reader_feudLine_1 k_o_0 (by decide) i_Reader rfl rfl (by decide) qw_287 rfl rfl (o + 1) rfl ?_
  obtain ⟨q4, hq4, hf0⟩ := mx_bd hf0
  refine gw_callV C (c_Tokens_step _ hg k_o_1 hq4) d_Reader_feudLine_4 0 qw_481 qw_482 qw_483 qw_3 qw_484 k_o_1 (by decide) rfl hd_Tokens_step rfl rfl (Nat.le_of_ble_eq_true rfl) ⟨rfl, rfl, Nat.le_of_ble_eq_true rfl, Nat.le_of_ble_eq_true rfl⟩ ⟨Nat.zero_le _, Nat.zero_le _⟩ ?_
  refine gw_aload_n C 0 d_Reader_feudLine_7 rfl rfl ?_
  refine gw_aload_n C 0 d_Reader_feudLine_8 rfl rfl ?_
  refine gw_getA C 1 d_Reader_feudLine_9 k_o_0 (by decide) i_Reader rfl rfl (by decide) qw_289 rfl rfl (o + 4) rfl ?_
  refine gw_getAN C 0 d_Reader_feudLine_12 k_o_4 (by decide) i_State rfl rfl (by decide) qw_236 rfl rfl (o + 5) rfl ?_
  refine gw_getAN C 0 d_Reader_feudLine_15 k_o_5 (by decide) i_Island rfl rfl (by decide) qw_127 rfl rfl (o + 6) rfl ?_
  obtain ⟨q18, hq18, hf0⟩ := mx_bd hf0
  refine gw_callI C (c_Reader_isOneOf _ hg k_o_0 k_o_6 hq18) d_Reader_feudLine_18 1 qw_601 qw_603 qs_9 qw_2 qw_604 k_o_0 (by decide) rfl hd_Reader_isOneOf rfl rfl (Nat.le_of_ble_eq_true rfl) ⟨rfl, rfl, Nat.le_of_ble_eq_true rfl, Nat.le_of_ble_eq_true rfl⟩ ⟨Nat.zero_le _, Nat.zero_le _⟩ ?_
  refine gw_if_ne C 26 d_Reader_feudLine_21 (by decide) (fun hc => ?_) (fun hc => ?_)
  · replace hf0 := mx_f hc hf0
    refine gw_aload_n C 0 d_Reader_feudLine_26 rfl rfl ?_
    refine gw_getI C 5 d_Reader_feudLine_27 k_o_0 (by decide) i_Reader rfl rfl (by decide) qw_297 rfl rfl ?_
    obtain ⟨x30, ex30, hf0⟩ := mx_lt hf0
    refine gw_topi ex30 ?_
    refine gw_istore_n C [(1, .int x30), (0, .ref (ly_a L o))] d_Reader_feudLine_30 rfl (by decide) rfl ?_
    refine gw_aload_n C 1 d_Reader_feudLine_31 rfl rfl ?_
    refine gw_getA C 0 d_Reader_feudLine_32 k_o_0 (by decide) i_Reader rfl rfl (by decide) qw_287 rfl rfl (o + 1) rfl ?_
    obtain ⟨q35, hq35, hf0⟩ := mx_bd hf0
    refine gw_callV C (c_Tokens_step _ hg k_o_1 hq35) d_Reader_feudLine_35 0 qw_481 qw_482 qw_483 qw_3 qw_484 k_o_1 (by decide) rfl hd_Tokens_step rfl rfl (Nat.le_of_ble_eq_true rfl) ⟨rfl, rfl, Nat.le_of_ble_eq_true rfl, Nat.le_of_ble_eq_true rfl⟩ ⟨Nat.zero_le _, Nat.zero_le _⟩ ?_
    refine gw_aload_n C 1 d_Reader_feudLine_38 rfl rfl ?_
    refine gw_aload_n C 1 d_Reader_feudLine_39 rfl rfl ?_
    refine gw_getA C 1 d_Reader_feudLine_40 k_o_0 (by decide) i_Reader rfl rfl (by decide) qw_289 rfl rfl (o + 4) rfl ?_
    refine gw_getAN C 0 d_Reader_feudLine_43 k_o_4 (by decide) i_State rfl rfl (by decide) qw_236 rfl rfl (o + 5) rfl ?_
    refine gw_getAN C 0 d_Reader_feudLine_46 k_o_5 (by decide) i_Island rfl rfl (by decide) qw_127 rfl rfl (o + 6) rfl ?_
    obtain ⟨q49, hq49, hf0⟩ := mx_bd hf0
    refine gw_callI C (c_Reader_isOneOf _ hg k_o_0 k_o_6 hq49) d_Reader_feudLine_49 1 qw_601 qw_603 qs_9 qw_2 qw_604 k_o_0 (by decide) rfl hd_Reader_isOneOf rfl rfl (Nat.le_of_ble_eq_true rfl) ⟨rfl, rfl, Nat.le_of_ble_eq_true rfl, Nat.le_of_ble_eq_true rfl⟩ ⟨Nat.zero_le _, Nat.zero_le _⟩ ?_
    refine gw_if_ne C 57 d_Reader_feudLine_52 (by decide) (fun hc => ?_) (fun hc => ?_)
    · replace hf0 := mx_f hc hf0
      refine gw_iload_n C 0 d_Reader_feudLine_57 rfl rfl ?_
      refine gw_aload_n C 1 d_Reader_feudLine_58 rfl rfl ?_
      refine gw_getI C 5 d_Reader_feudLine_59 k_o_0 (by decide) i_Reader rfl rfl (by decide) qw_297 rfl rfl ?_
      refine gw_icmp_eq C 83 d_Reader_feudLine_62 (by decide) (fun hc => ?_) (fun hc => ?_)
      · replace hf0 := mx_t hc hf0
        exact gw_go [1] (hj83 _ hf0) rfl
      · replace hf0 := mx_f hc hf0
        refine gw_aload_n C 1 d_Reader_feudLine_65 rfl rfl ?_
        refine gw_getA C 1 d_Reader_feudLine_66 k_o_0 (by decide) i_Reader rfl rfl (by decide) qw_289 rfl rfl (o + 4) rfl ?_
        refine gw_getAN C 0 d_Reader_feudLine_69 k_o_4 (by decide) i_State rfl rfl (by decide) qw_236 rfl rfl (o + 5) rfl ?_
        refine gw_iload_n C 0 d_Reader_feudLine_72 rfl rfl ?_
        refine gw_aload_n C 1 d_Reader_feudLine_73 rfl rfl ?_
        refine gw_getI C 5 d_Reader_feudLine_74 k_o_0 (by decide) i_Reader rfl rfl (by decide) qw_297 rfl rfl ?_
        obtain ⟨q77, hq77, hf0⟩ := mx_bd hf0
        refine gw_callI C (c_Island_feud _ hg k_o_5 hq77) d_Reader_feudLine_77 2 qw_628 qw_629 qw_630 qw_6 qw_631 k_o_5 (by decide) rfl hd_Island_feud rfl rfl (Nat.le_of_ble_eq_true rfl) ⟨rfl, rfl, Nat.le_of_ble_eq_true rfl, Nat.le_of_ble_eq_true rfl⟩ ⟨Nat.zero_le _, Nat.zero_le _⟩ ?_
        refine gw_if_eq C 89 d_Reader_feudLine_80 (by decide) (fun hc => ?_) (fun hc => ?_)
        · replace hf0 := mx_t hc hf0
          refine gw_aload_n C 1 d_Reader_feudLine_89 rfl rfl ?_
          refine gw_getA C 1 d_Reader_feudLine_90 k_o_0 (by decide) i_Reader rfl rfl (by decide) qw_289 rfl rfl (o + 4) rfl ?_
          refine gw_getAN C 0 d_Reader_feudLine_93 k_o_4 (by decide) i_State rfl rfl (by decide) qw_236 rfl rfl (o + 5) rfl ?_
          refine gw_iload_n C 0 d_Reader_feudLine_96 rfl rfl ?_
          refine gw_aload_n C 1 d_Reader_feudLine_97 rfl rfl ?_
          refine gw_getI C 5 d_Reader_feudLine_98 k_o_0 (by decide) i_Reader rfl rfl (by decide) qw_297 rfl rfl ?_
          obtain ⟨q101, hq101, hf0⟩ := mx_bd hf0
          refine gw_callV C (c_Island_startFeud _ hg k_o_5 hq101) d_Reader_feudLine_101 2 qw_632 qw_633 qw_634 qw_6 qw_635 k_o_5 (by decide) rfl hd_Island_startFeud rfl rfl (Nat.le_of_ble_eq_true rfl) ⟨rfl, rfl, Nat.le_of_ble_eq_true rfl, Nat.le_of_ble_eq_true rfl⟩ ⟨Nat.zero_le _, Nat.zero_le _⟩ ?_
          refine gw_aload_n C 1 d_Reader_feudLine_104 rfl rfl ?_
          refine gw_getA C 0 d_Reader_feudLine_105 k_o_0 (by decide) i_Reader rfl rfl (by decide) qw_287 rfl rfl (o + 1) rfl ?_
          obtain ⟨q108, hq108, hf0⟩ := mx_bd hf0
          refine gw_callV C (c_Tokens_step _ hg k_o_1 hq108) d_Reader_feudLine_108 0 qw_481 qw_482 qw_483 qw_3 qw_484 k_o_1 (by decide) rfl hd_Tokens_step rfl rfl (Nat.le_of_ble_eq_true rfl) ⟨rfl, rfl, Nat.le_of_ble_eq_true rfl, Nat.le_of_ble_eq_true rfl⟩ ⟨Nat.zero_le _, Nat.zero_le _⟩ ?_
          refine gw_iconst C (1 : Int32) d_Reader_feudLine_111 (by decide) ?_
          exact en_z hN (Or.inr rfl) hf0 d_Reader_feudLine_112
        · replace hf0 := mx_f hc hf0
          exact gw_go [1] (hj83 _ hf0) rfl
    · replace hf0 := mx_t hc hf0
      refine gw_iconst C (0 : Int32) d_Reader_feudLine_55 (by decide) ?_
      exact en_z hN (Or.inl rfl) hf0 d_Reader_feudLine_56
  · replace hf0 := mx_t hc hf0
    refine gw_iconst C (0 : Int32) d_Reader_feudLine_24 (by decide) ?_
    exact en_z hN (Or.inl rfl) hf0 d_Reader_feudLine_25

/-! NameHat.Reader.pewsLine()Z -/
abbrev b_Reader_pewsLine : ByteArray := prog_6_method_14_code
def y_Reader_pewsLine : MethodName := ⟨"NameHat$Reader", "pewsLine", "()Z"⟩
abbrev rm_Reader_pewsLine : Room := { frames := 9, cells := 0, slots := 0, locals := 468 }
theorem hd_Reader_pewsLine : y_Reader_pewsLine.cls ≠ "java/lang/invoke/MethodHandle" ∧ y_Reader_pewsLine.cls ≠ "java/lang/invoke/VarHandle" ∧ (parseMethodDescriptor y_Reader_pewsLine.desc).map (fun d => d.parameters.length) = some 0 := by decide +kernel
theorem d_Reader_pewsLine_0 : decode b_Reader_pewsLine 0 = .ok (.aload_n 0, 1) := by decide +kernel
theorem d_Reader_pewsLine_1 : decode b_Reader_pewsLine 1 = .ok (.getfield 36, 3) := by decide +kernel
theorem d_Reader_pewsLine_4 : decode b_Reader_pewsLine 4 = .ok (.ifCond .ne 10, 3) := by decide +kernel
theorem d_Reader_pewsLine_7 : decode b_Reader_pewsLine 7 = .ok (.aload_n 0, 1) := by decide +kernel
theorem d_Reader_pewsLine_8 : decode b_Reader_pewsLine 8 = .ok (.getfield 43, 3) := by decide +kernel
theorem d_Reader_pewsLine_11 : decode b_Reader_pewsLine 11 = .ok (.ifCond .eq 9, 3) := by decide +kernel
theorem d_Reader_pewsLine_14 : decode b_Reader_pewsLine 14 = .ok (.aload_n 0, 1) := by decide +kernel
theorem d_Reader_pewsLine_15 : decode b_Reader_pewsLine 15 = .ok (.iconst 3, 1) := by decide +kernel
theorem d_Reader_pewsLine_16 : decode b_Reader_pewsLine 16 = .ok (.invokevirtual 71, 3) := by decide +kernel
theorem d_Reader_pewsLine_19 : decode b_Reader_pewsLine 19 = .ok (.ireturn, 1) := by decide +kernel
theorem d_Reader_pewsLine_20 : decode b_Reader_pewsLine 20 = .ok (.aload_n 0, 1) := by decide +kernel
theorem d_Reader_pewsLine_21 : decode b_Reader_pewsLine 21 = .ok (.iconst 1, 1) := by decide +kernel
theorem d_Reader_pewsLine_22 : decode b_Reader_pewsLine 22 = .ok (.putfield 36, 3) := by decide +kernel
theorem d_Reader_pewsLine_25 : decode b_Reader_pewsLine 25 = .ok (.aload_n 0, 1) := by decide +kernel
theorem d_Reader_pewsLine_26 : decode b_Reader_pewsLine 26 = .ok (.getfield 12, 3) := by decide +kernel
theorem d_Reader_pewsLine_29 : decode b_Reader_pewsLine 29 = .ok (.invokevirtual 46, 3) := by decide +kernel
theorem d_Reader_pewsLine_32 : decode b_Reader_pewsLine 32 = .ok (.aload_n 0, 1) := by decide +kernel
theorem d_Reader_pewsLine_33 : decode b_Reader_pewsLine 33 = .ok (.iconst 1, 1) := by decide +kernel
theorem d_Reader_pewsLine_34 : decode b_Reader_pewsLine 34 = .ok (.iconst 4, 1) := by decide +kernel
theorem d_Reader_pewsLine_35 : decode b_Reader_pewsLine 35 = .ok (.invokevirtual 140, 3) := by decide +kernel
theorem d_Reader_pewsLine_38 : decode b_Reader_pewsLine 38 = .ok (.ifCond .ne 5, 3) := by decide +kernel
theorem d_Reader_pewsLine_41 : decode b_Reader_pewsLine 41 = .ok (.iconst 0, 1) := by decide +kernel
theorem d_Reader_pewsLine_42 : decode b_Reader_pewsLine 42 = .ok (.ireturn, 1) := by decide +kernel
theorem d_Reader_pewsLine_43 : decode b_Reader_pewsLine 43 = .ok (.aload_n 0, 1) := by decide +kernel
theorem d_Reader_pewsLine_44 : decode b_Reader_pewsLine 44 = .ok (.getfield 21, 3) := by decide +kernel
theorem d_Reader_pewsLine_47 : decode b_Reader_pewsLine 47 = .ok (.getfield 84, 3) := by decide +kernel
theorem d_Reader_pewsLine_50 : decode b_Reader_pewsLine 50 = .ok (.aload_n 0, 1) := by decide +kernel
theorem d_Reader_pewsLine_51 : decode b_Reader_pewsLine 51 = .ok (.getfield 12, 3) := by decide +kernel
theorem d_Reader_pewsLine_54 : decode b_Reader_pewsLine 54 = .ok (.getfield 75, 3) := by decide +kernel
theorem d_Reader_pewsLine_57 : decode b_Reader_pewsLine 57 = .ok (.putfield 192, 3) := by decide +kernel
theorem d_Reader_pewsLine_60 : decode b_Reader_pewsLine 60 = .ok (.aload_n 0, 1) := by decide +kernel
theorem d_Reader_pewsLine_61 : decode b_Reader_pewsLine 61 = .ok (.getfield 12, 3) := by decide +kernel
theorem d_Reader_pewsLine_64 : decode b_Reader_pewsLine 64 = .ok (.invokevirtual 46, 3) := by decide +kernel
theorem d_Reader_pewsLine_67 : decode b_Reader_pewsLine 67 = .ok (.aload_n 0, 1) := by decide +kernel
theorem d_Reader_pewsLine_68 : decode b_Reader_pewsLine 68 = .ok (.iconst 1, 1) := by decide +kernel
theorem d_Reader_pewsLine_69 : decode b_Reader_pewsLine 69 = .ok (.bipush 8, 2) := by decide +kernel
theorem d_Reader_pewsLine_71 : decode b_Reader_pewsLine 71 = .ok (.invokevirtual 140, 3) := by decide +kernel
theorem d_Reader_pewsLine_74 : decode b_Reader_pewsLine 74 = .ok (.ifCond .ne 5, 3) := by decide +kernel
theorem d_Reader_pewsLine_77 : decode b_Reader_pewsLine 77 = .ok (.iconst 0, 1) := by decide +kernel
theorem d_Reader_pewsLine_78 : decode b_Reader_pewsLine 78 = .ok (.ireturn, 1) := by decide +kernel
theorem d_Reader_pewsLine_79 : decode b_Reader_pewsLine 79 = .ok (.aload_n 0, 1) := by decide +kernel
theorem d_Reader_pewsLine_80 : decode b_Reader_pewsLine 80 = .ok (.getfield 21, 3) := by decide +kernel
theorem d_Reader_pewsLine_83 : decode b_Reader_pewsLine 83 = .ok (.getfield 84, 3) := by decide +kernel
theorem d_Reader_pewsLine_86 : decode b_Reader_pewsLine 86 = .ok (.aload_n 0, 1) := by decide +kernel
theorem d_Reader_pewsLine_87 : decode b_Reader_pewsLine 87 = .ok (.getfield 12, 3) := by decide +kernel
theorem d_Reader_pewsLine_90 : decode b_Reader_pewsLine 90 = .ok (.getfield 75, 3) := by decide +kernel
theorem d_Reader_pewsLine_93 : decode b_Reader_pewsLine 93 = .ok (.putfield 195, 3) := by decide +kernel
theorem d_Reader_pewsLine_96 : decode b_Reader_pewsLine 96 = .ok (.aload_n 0, 1) := by decide +kernel
theorem d_Reader_pewsLine_97 : decode b_Reader_pewsLine 97 = .ok (.getfield 12, 3) := by decide +kernel
theorem d_Reader_pewsLine_100 : decode b_Reader_pewsLine 100 = .ok (.invokevirtual 46, 3) := by decide +kernel
theorem d_Reader_pewsLine_103 : decode b_Reader_pewsLine 103 = .ok (.iconst 1, 1) := by decide +kernel
theorem d_Reader_pewsLine_104 : decode b_Reader_pewsLine 104 = .ok (.ireturn, 1) := by decide +kernel
noncomputable def f_Reader_pewsLine_J14 (z : Nat → Nat) (o : Nat) (m14 : Mm) : Option (Int32 × Mm) :=
  (f_Reader_fail z m14 o (3 : Int32)).bind fun q16 =>
  (mm_zb q16.1).bind fun y19 =>
  some (y19, q16.2)
noncomputable def f_Reader_pewsLine (z : Nat → Nat) (σ : Mm) (o : Nat) : Option (Int32 × Mm) :=
  if (σ.1 o 6) = 0 then (
    if (σ.1 o 8) = 0 then (
      mm_lt (kI σ o 6 (1 : Int32)) fun m22 =>
      (f_Tokens_step z m22 (o + 1)).bind fun q29 =>
      (f_Reader_isNumber z q29 o (1 : Int32) (4 : Int32)).bind fun q35 =>
      if q35.1 = 0 then (
        some ((0 : Int32), q35.2)
      ) else (
        mm_lt (kI q35.2 (o + 5) 6 (q35.2.1 (o + 1) 6)) fun m57 =>
        (f_Tokens_step z m57 (o + 1)).bind fun q64 =>
        (f_Reader_isNumber z q64 o (1 : Int32) (8 : Int32)).bind fun q71 =>
        if q71.1 = 0 then (
          some ((0 : Int32), q71.2)
        ) else (
          mm_lt (kI q71.2 (o + 5) 7 (q71.2.1 (o + 1) 6)) fun m93 =>
          (f_Tokens_step z m93 (o + 1)).bind fun q100 =>
          some ((1 : Int32), q100)
        )
      )
    ) else (
      f_Reader_pewsLine_J14 z o σ
    )
  ) else (
    f_Reader_pewsLine_J14 z o σ
  )
set_option maxHeartbeats 4000000 in
set_option maxRecDepth 100000 in
theorem c_Reader_pewsLine (l : Launch) {L : Ly} (hg : gd_ok L) {σ : Mm} {o : Nat} (k_o_0 : ly_k L o = 9) {res : Int32 × Mm} (hf0 : f_Reader_pewsLine (ly_z L) σ o = some res) : CtI l y_Reader_pewsLine b_Reader_pewsLine 1 (some .boolean) rm_Reader_pewsLine L [.ref (ly_a L o)] σ res.1 res.2 := by
  refine ct_z hg (by decide) (Nat.le_of_ble_eq_true rfl) ?_
  intro E A Q hE C hN
  subst hE
  have k_o_1 : ly_k L (o + 1) = 8 := gd_Reader_tokens hg k_o_0
  have k_o_4 : ly_k L (o + 4) = 4 := gd_Reader_draft hg k_o_0
  have k_o_5 : ly_k L (o + 5) = 2 := gd_State_island hg k_o_4
  unfold f_Reader_pewsLine at hf0
  show GW E L A 1 0 0 Q σ 0 [(0, .ref (ly_a L o))] []
  have hj14 : ∀ (m14 : Mm), f_Reader_pewsLine_J14 (ly_z L) o m14 = some res → GW E L A 1 0 0 Q m14 14 [(0, .ref (ly_a L o))] [] := by
    intro m14 hf0
    unfold f_Reader_pewsLine_J14 at hf0
    refine gw_aload_n C 0 d_Reader_pewsLine_14 rfl rfl ?_
    refine gw_iconst C (3 : Int32) d_Reader_pewsLine_15 (by decide) ?_
    obtain ⟨q16, hq16, hf0⟩ := mx_bd hf0
    refine gw_callI C (c_Reader_fail _ hg k_o_0 hq16) d_Reader_pewsLine_16 1 qw_568 qw_570 qs_4 qw_2 qw_571 k_o_0 (by decide) rfl hd_Reader_fail rfl rfl (Nat.le_of_ble_eq_true rfl) ⟨rfl, rfl, Nat.le_of_ble_eq_true rfl, Nat.le_of_ble_eq_true rfl⟩ ⟨Nat.zero_le _, Nat.zero_le _⟩ ?_
    obtain ⟨y19, hy19, hf0⟩ := mx_bd hf0
    obtain ⟨zy19, ey19⟩ := mx_zb hy19
    refine gw_topi ey19 ?_
    exact en_z hN zy19 hf0 d_Reader_pewsLine_19
  refine gw_aload_n C 0 d_Reader_pewsLine_0 rfl rfl ?_
  refine gw_getI C 6 d_Reader_pewsLine_1 k_o_0 (by decide) i_Reader rfl rfl (by decide) qw_298 rfl rfl ?_
  refine gw_if_ne C 14 d_Reader_pewsLine_4 (by decide) (fun hc => ?_) (fun hc => ?_)
  · replace hf0 := mx_f hc hf0
    exact gw_go [0] (hj14 _ hf0) rfl
  · replace hf0 := mx_t hc hf0
    refine gw_aload_n C 0 d_Reader_pewsLine_7 rfl rfl ?_
    refine gw_getI C 8 d_Reader_pewsLine_8 k_o_0 (by decide) i_Reader rfl rfl (by decide) qw_300 rfl rfl ?_
    refine gw_if_eq C 20 d_Reader_pewsLine_11 (by decide) (fun hc => ?_) (fun hc => ?_)
    · replace hf0 := mx_t hc hf0
      refine gw_aload_n C 0 d_Reader_pewsLine_20 rfl rfl ?_
      refine gw_iconst C (1 : Int32) d_Reader_pewsLine_21 (by decide) ?_
      obtain ⟨m22, em22, hf0⟩ := mx_lt hf0
      refine gw_putI t_Reader C 6 d_Reader_pewsLine_22 k_o_0 (by decide) i_Reader rfl rfl (by decide) qw_298 rfl rfl t_Reader_ok n_Reader rfl (t_Reader_ok 6 (by decide)) rfl rfl em22 ?_
      refine gw_aload_n C 0 d_Reader_pewsLine_25 rfl rfl ?_
      refine gw_getA C 0 d_Reader_pewsLine_26 k_o_0 (by decide) i_Reader rfl rfl (by decide) qw_287 rfl rfl (o + 1) rfl ?_
      obtain ⟨q29, hq29, hf0⟩ := mx_bd hf0
      refine gw_callV C (c_Tokens_step _ hg k_o_1 hq29) d_Reader_pewsLine_29 0 qw_481 qw_482 qw_483 qw_3 qw_484 k_o_1 (by decide) rfl hd_Tokens_step rfl rfl (Nat.le_of_ble_eq_true rfl) ⟨rfl, rfl, Nat.le_of_ble_eq_true rfl, Nat.le_of_ble_eq_true rfl⟩ ⟨Nat.zero_le _, Nat.zero_le _⟩ ?_
      refine gw_aload_n C 0 d_Reader_pewsLine_32 rfl rfl ?_
      refine gw_iconst C (1 : Int32) d_Reader_pewsLine_33 (by decide) ?_
      refine gw_iconst C (4 : Int32) d_Reader_pewsLine_34 (by decide) ?_
      obtain ⟨q35, hq35, hf0⟩ := mx_bd hf0
      refine gw_callI C (c_Reader_isNumber _ hg k_o_0 hq35) d_Reader_pewsLine_35 2 qw_588 qw_590 qs_7 qw_2 qw_591 k_o_0 (by decide) rfl hd_Reader_isNumber rfl rfl (Nat.le_of_ble_eq_true rfl) ⟨rfl, rfl, Nat.le_of_ble_eq_true rfl, Nat.le_of_ble_eq_true rfl⟩ ⟨Nat.zero_le _, Nat.zero_le _⟩ ?_
      refine gw_if_ne C 43 d_Reader_pewsLine_38 (by decide) (fun hc => ?_) (fun hc => ?_)
      · replace hf0 := mx_f hc hf0
        refine gw_aload_n C 0 d_Reader_pewsLine_43 rfl rfl ?_
        refine gw_getA C 1 d_Reader_pewsLine_44 k_o_0 (by decide) i_Reader rfl rfl (by decide) qw_289 rfl rfl (o + 4) rfl ?_
        refine gw_getAN C 0 d_Reader_pewsLine_47 k_o_4 (by decide) i_State rfl rfl (by decide) qw_236 rfl rfl (o + 5) rfl ?_
        refine gw_aload_n C 0 d_Reader_pewsLine_50 rfl rfl ?_
        refine gw_getA C 0 d_Reader_pewsLine_51 k_o_0 (by decide) i_Reader rfl rfl (by decide) qw_287 rfl rfl (o + 1) rfl ?_
        refine gw_getIN C 6 d_Reader_pewsLine_54 k_o_1 (by decide) i_Tokens rfl rfl (by decide) qw_65 rfl rfl ?_
        obtain ⟨m57, em57, hf0⟩ := mx_lt hf0
        refine gw_putIN t_Island C 6 d_Reader_pewsLine_57 k_o_5 (by decide) i_Island rfl rfl (by decide) qw_149 rfl rfl t_Island_ok n_Island rfl (t_Island_ok 6 (by decide)) rfl rfl em57 ?_
        refine gw_aload_n C 0 d_Reader_pewsLine_60 rfl rfl ?_
        refine gw_getA C 0 d_Reader_pewsLine_61 k_o_0 (by decide) i_Reader rfl rfl (by decide) qw_287 rfl rfl (o + 1) rfl ?_
        obtain ⟨q64, hq64, hf0⟩ := mx_bd hf0
        refine gw_callV C (c_Tokens_step _ hg k_o_1 hq64) d_Reader_pewsLine_64 0 qw_481 qw_482 qw_483 qw_3 qw_484 k_o_1 (by decide) rfl hd_Tokens_step rfl rfl (Nat.le_of_ble_eq_true rfl) ⟨rfl, rfl, Nat.le_of_ble_eq_true rfl, Nat.le_of_ble_eq_true rfl⟩ ⟨Nat.zero_le _, Nat.zero_le _⟩ ?_
        refine gw_aload_n C 0 d_Reader_pewsLine_67 rfl rfl ?_
        refine gw_iconst C (1 : Int32) d_Reader_pewsLine_68 (by decide) ?_
        refine gw_bipush C (8 : Int32) d_Reader_pewsLine_69 (by decide) ?_
        obtain ⟨q71, hq71, hf0⟩ := mx_bd hf0
        refine gw_callI C (c_Reader_isNumber _ hg k_o_0 hq71) d_Reader_pewsLine_71 2 qw_588 qw_590 qs_7 qw_2 qw_591 k_o_0 (by decide) rfl hd_Reader_isNumber rfl rfl (Nat.le_of_ble_eq_true rfl) ⟨rfl, rfl, Nat.le_of_ble_eq_true rfl, Nat.le_of_ble_eq_true rfl⟩ ⟨Nat.zero_le _, Nat.zero_le _⟩ ?_
        refine gw_if_ne C 79 d_Reader_pewsLine_74 (by decide) (fun hc => ?_) (fun hc => ?_)
        · replace hf0 := mx_f hc hf0
          refine gw_aload_n C 0 d_Reader_pewsLine_79 rfl rfl ?_
          refine gw_getA C 1 d_Reader_pewsLine_80 k_o_0 (by decide) i_Reader rfl rfl (by decide) qw_289 rfl rfl (o + 4) rfl ?_
          refine gw_getAN C 0 d_Reader_pewsLine_83 k_o_4 (by decide) i_State rfl rfl (by decide) qw_236 rfl rfl (o + 5) rfl ?_
          refine gw_aload_n C 0 d_Reader_pewsLine_86 rfl rfl ?_
          refine gw_getA C 0 d_Reader_pewsLine_87 k_o_0 (by decide) i_Reader rfl rfl (by decide) qw_287 rfl rfl (o + 1) rfl ?_
          refine gw_getIN C 6 d_Reader_pewsLine_90 k_o_1 (by decide) i_Tokens rfl rfl (by decide) qw_65 rfl rfl ?_
          obtain ⟨m93, em93, hf0⟩ := mx_lt hf0
          refine gw_putIN t_Island C 7 d_Reader_pewsLine_93 k_o_5 (by decide) i_Island rfl rfl (by decide) qw_153 rfl rfl t_Island_ok n_Island rfl (t_Island_ok 7 (by decide)) rfl rfl em93 ?_
          refine gw_aload_n C 0 d_Reader_pewsLine_96 rfl rfl ?_
          refine gw_getA C 0 d_Reader_pewsLine_97 k_o_0 (by decide) i_Reader rfl rfl (by decide) qw_287 rfl rfl (o + 1) rfl ?_
          obtain ⟨q100, hq100, hf0⟩ := mx_bd hf0
          refine gw_callV C (c_Tokens_step _ hg k_o_1 hq100) d_Reader_pewsLine_100 0 qw_481 qw_482 qw_483 qw_3 qw_484 k_o_1 (by decide) rfl hd_Tokens_step rfl rfl (Nat.le_of_ble_eq_true rfl) ⟨rfl, rfl, Nat.le_of_ble_eq_true rfl, Nat.le_of_ble_eq_true rfl⟩ ⟨Nat.zero_le _, Nat.zero_le _⟩ ?_
          refine gw_iconst C (1 : Int32) d_Reader_pewsLine_103 (by decide) ?_
          exact en_z hN (Or.inr rfl) hf0 d_Reader_pewsLine_104
        · replace hf0 := mx_t hc hf0
          refine gw_iconst C (0 : Int32) d_Reader_pewsLine_77 (by decide) ?_
          exact en_z hN (Or.inl rfl) hf0 d_Reader_pewsLine_78
      · replace hf0 := mx_t hc hf0
        refine gw_iconst C (0 : Int32) d_Reader_pewsLine_41 (by decide) ?_
        exact en_z hN (Or.inl rfl) hf0 d_Reader_pewsLine_42
    · replace hf0 := mx_f hc hf0
      exact gw_go [0] (hj14 _ hf0) rfl

/-! NameHat.Reader.sitsLine()Z -/
abbrev b_Reader_sitsLine : ByteArray := prog_6_method_15_code
def y_Reader_sitsLine : MethodName := ⟨"NameHat$Reader", "sitsLine", "()Z"⟩
abbrev rm_Reader_sitsLine : Room := { frames := 9, cells := 0, slots := 0, locals := 468 }
theorem hd_Reader_sitsLine : y_Reader_sitsLine.cls ≠ "java/lang/invoke/MethodHandle" ∧ y_Reader_sitsLine.cls ≠ "java/lang/invoke/VarHandle" ∧ (parseMethodDescriptor y_Reader_sitsLine.desc).map (fun d => d.parameters.length) = some 0 := by decide +kernel
theorem d_Reader_sitsLine_0 : decode b_Reader_sitsLine 0 = .ok (.aload_n 0, 1) := by decide +kernel
theorem d_Reader_sitsLine_1 : decode b_Reader_sitsLine 1 = .ok (.getfield 12, 3) := by decide +kernel
theorem d_Reader_sitsLine_4 : decode b_Reader_sitsLine 4 = .ok (.invokevirtual 46, 3) := by decide +kernel
theorem d_Reader_sitsLine_7 : decode b_Reader_sitsLine 7 = .ok (.aload_n 0, 1) := by decide +kernel
theorem d_Reader_sitsLine_8 : decode b_Reader_sitsLine 8 = .ok (.aload_n 0, 1) := by decide +kernel
theorem d_Reader_sitsLine_9 : decode b_Reader_sitsLine 9 = .ok (.getfield 21, 3) := by decide +kernel
theorem d_Reader_sitsLine_12 : decode b_Reader_sitsLine 12 = .ok (.getfield 84, 3) := by decide +kernel
theorem d_Reader_sitsLine_15 : decode b_Reader_sitsLine 15 = .ok (.getfield 104, 3) := by decide +kernel
theorem d_Reader_sitsLine_18 : decode b_Reader_sitsLine 18 = .ok (.invokevirtual 161, 3) := by decide +kernel
theorem d_Reader_sitsLine_21 : decode b_Reader_sitsLine 21 = .ok (.ifCond .ne 5, 3) := by decide +kernel
theorem d_Reader_sitsLine_24 : decode b_Reader_sitsLine 24 = .ok (.iconst 0, 1) := by decide +kernel
theorem d_Reader_sitsLine_25 : decode b_Reader_sitsLine 25 = .ok (.ireturn, 1) := by decide +kernel
theorem d_Reader_sitsLine_26 : decode b_Reader_sitsLine 26 = .ok (.aload_n 0, 1) := by decide +kernel
theorem d_Reader_sitsLine_27 : decode b_Reader_sitsLine 27 = .ok (.getfield 107, 3) := by decide +kernel
theorem d_Reader_sitsLine_30 : decode b_Reader_sitsLine 30 = .ok (.istore_n 1, 1) := by decide +kernel
theorem d_Reader_sitsLine_31 : decode b_Reader_sitsLine 31 = .ok (.aload_n 0, 1) := by decide +kernel
theorem d_Reader_sitsLine_32 : decode b_Reader_sitsLine 32 = .ok (.getfield 43, 3) := by decide +kernel
theorem d_Reader_sitsLine_35 : decode b_Reader_sitsLine 35 = .ok (.iload_n 1, 1) := by decide +kernel
theorem d_Reader_sitsLine_36 : decode b_Reader_sitsLine 36 = .ok (.ishr, 1) := by decide +kernel
theorem d_Reader_sitsLine_37 : decode b_Reader_sitsLine 37 = .ok (.iconst 1, 1) := by decide +kernel
theorem d_Reader_sitsLine_38 : decode b_Reader_sitsLine 38 = .ok (.iand, 1) := by decide +kernel
theorem d_Reader_sitsLine_39 : decode b_Reader_sitsLine 39 = .ok (.iconst 1, 1) := by decide +kernel
theorem d_Reader_sitsLine_40 : decode b_Reader_sitsLine 40 = .ok (.if_icmp .ne 9, 3) := by decide +kernel
theorem d_Reader_sitsLine_43 : decode b_Reader_sitsLine 43 = .ok (.aload_n 0, 1) := by decide +kernel
theorem d_Reader_sitsLine_44 : decode b_Reader_sitsLine 44 = .ok (.iconst 3, 1) := by decide +kernel
theorem d_Reader_sitsLine_45 : decode b_Reader_sitsLine 45 = .ok (.invokevirtual 71, 3) := by decide +kernel
theorem d_Reader_sitsLine_48 : decode b_Reader_sitsLine 48 = .ok (.ireturn, 1) := by decide +kernel
theorem d_Reader_sitsLine_49 : decode b_Reader_sitsLine 49 = .ok (.aload_n 0, 1) := by decide +kernel
theorem d_Reader_sitsLine_50 : decode b_Reader_sitsLine 50 = .ok (.dup, 1) := by decide +kernel
theorem d_Reader_sitsLine_51 : decode b_Reader_sitsLine 51 = .ok (.getfield 43, 3) := by decide +kernel
theorem d_Reader_sitsLine_54 : decode b_Reader_sitsLine 54 = .ok (.iconst 1, 1) := by decide +kernel
theorem d_Reader_sitsLine_55 : decode b_Reader_sitsLine 55 = .ok (.iload_n 1, 1) := by decide +kernel
theorem d_Reader_sitsLine_56 : decode b_Reader_sitsLine 56 = .ok (.ishl, 1) := by decide +kernel
theorem d_Reader_sitsLine_57 : decode b_Reader_sitsLine 57 = .ok (.ior, 1) := by decide +kernel
theorem d_Reader_sitsLine_58 : decode b_Reader_sitsLine 58 = .ok (.putfield 43, 3) := by decide +kernel
theorem d_Reader_sitsLine_61 : decode b_Reader_sitsLine 61 = .ok (.aload_n 0, 1) := by decide +kernel
theorem d_Reader_sitsLine_62 : decode b_Reader_sitsLine 62 = .ok (.getfield 12, 3) := by decide +kernel
theorem d_Reader_sitsLine_65 : decode b_Reader_sitsLine 65 = .ok (.invokevirtual 46, 3) := by decide +kernel
theorem d_Reader_sitsLine_68 : decode b_Reader_sitsLine 68 = .ok (.aload_n 0, 1) := by decide +kernel
theorem d_Reader_sitsLine_69 : decode b_Reader_sitsLine 69 = .ok (.iconst 0, 1) := by decide +kernel
theorem d_Reader_sitsLine_70 : decode b_Reader_sitsLine 70 = .ok (.aload_n 0, 1) := by decide +kernel
theorem d_Reader_sitsLine_71 : decode b_Reader_sitsLine 71 = .ok (.getfield 21, 3) := by decide +kernel
theorem d_Reader_sitsLine_74 : decode b_Reader_sitsLine 74 = .ok (.getfield 84, 3) := by decide +kernel
theorem d_Reader_sitsLine_77 : decode b_Reader_sitsLine 77 = .ok (.getfield 192, 3) := by decide +kernel
theorem d_Reader_sitsLine_80 : decode b_Reader_sitsLine 80 = .ok (.iconst 1, 1) := by decide +kernel
theorem d_Reader_sitsLine_81 : decode b_Reader_sitsLine 81 = .ok (.isub, 1) := by decide +kernel
theorem d_Reader_sitsLine_82 : decode b_Reader_sitsLine 82 = .ok (.invokevirtual 140, 3) := by decide +kernel
theorem d_Reader_sitsLine_85 : decode b_Reader_sitsLine 85 = .ok (.ifCond .ne 5, 3) := by decide +kernel
theorem d_Reader_sitsLine_88 : decode b_Reader_sitsLine 88 = .ok (.iconst 0, 1) := by decide +kernel
theorem d_Reader_sitsLine_89 : decode b_Reader_sitsLine 89 = .ok (.ireturn, 1) := by decide +kernel
theorem d_Reader_sitsLine_90 : decode b_Reader_sitsLine 90 = .ok (.aload_n 0, 1) := by decide +kernel
theorem d_Reader_sitsLine_91 : decode b_Reader_sitsLine 91 = .ok (.getfield 21, 3) := by decide +kernel
theorem d_Reader_sitsLine_94 : decode b_Reader_sitsLine 94 = .ok (.getfield 165, 3) := by decide +kernel
theorem d_Reader_sitsLine_97 : decode b_Reader_sitsLine 97 = .ok (.getfield 198, 3) := by decide +kernel
theorem d_Reader_sitsLine_100 : decode b_Reader_sitsLine 100 = .ok (.iload_n 1, 1) := by decide +kernel
theorem d_Reader_sitsLine_101 : decode b_Reader_sitsLine 101 = .ok (.aload_n 0, 1) := by decide +kernel
theorem d_Reader_sitsLine_102 : decode b_Reader_sitsLine 102 = .ok (.getfield 12, 3) := by decide +kernel
theorem d_Reader_sitsLine_105 : decode b_Reader_sitsLine 105 = .ok (.getfield 75, 3) := by decide +kernel
theorem d_Reader_sitsLine_108 : decode b_Reader_sitsLine 108 = .ok (.invokevirtual 148, 3) := by decide +kernel
theorem d_Reader_sitsLine_111 : decode b_Reader_sitsLine 111 = .ok (.aload_n 0, 1) := by decide +kernel
theorem d_Reader_sitsLine_112 : decode b_Reader_sitsLine 112 = .ok (.getfield 12, 3) := by decide +kernel
theorem d_Reader_sitsLine_115 : decode b_Reader_sitsLine 115 = .ok (.invokevirtual 46, 3) := by decide +kernel
theorem d_Reader_sitsLine_118 : decode b_Reader_sitsLine 118 = .ok (.iconst 1, 1) := by decide +kernel
theorem d_Reader_sitsLine_119 : decode b_Reader_sitsLine 119 = .ok (.ireturn, 1) := by decide +kernel
noncomputable def f_Reader_sitsLine (z : Nat → Nat) (σ : Mm) (o : Nat) : Option (Int32 × Mm) :=
  (f_Tokens_step z σ (o + 1)).bind fun q4 =>
  (f_Reader_isOneOf z q4 o (o + 8)).bind fun q18 =>
  if q18.1 = 0 then (
    some ((0 : Int32), q18.2)
  ) else (
    mm_lt ((q18.2.1 o 5)) fun x30 =>
    if (((q18.2.1 o 8) >>> (x30 &&& 31)) &&& (1 : Int32)) = (1 : Int32) then (
      (f_Reader_fail z q18.2 o (3 : Int32)).bind fun q45 =>
      (mm_zb q45.1).bind fun y48 =>
      some (y48, q45.2)
    ) else (
      mm_lt (kI q18.2 o 8 ((q18.2.1 o 8) ||| ((1 : Int32) <<< (x30 &&& 31)))) fun m58 =>
      (f_Tokens_step z m58 (o + 1)).bind fun q65 =>
      (f_Reader_isNumber z q65 o (0 : Int32) ((q65.1 (o + 5) 6) - (1 : Int32))).bind fun q82 =>
      if q82.1 = 0 then (
        some ((0 : Int32), q82.2)
      ) else (
        (f_Row_put z q82.2 (o + 21) x30 (q82.2.1 (o + 1) 6)).bind fun q108 =>
        (f_Tokens_step z q108 (o + 1)).bind fun q115 =>
        some ((1 : Int32), q115)
      )
    )
  )
set_option maxHeartbeats 4000000 in
set_option maxRecDepth 100000 in
theorem c_Reader_sitsLine (l : Launch) {L : Ly} (hg : gd_ok L) {σ : Mm} {o : Nat} (k_o_0 : ly_k L o = 9) {res : Int32 × Mm} (hf0 : f_Reader_sitsLine (ly_z L) σ o = some res) : CtI l y_Reader_sitsLine b_Reader_sitsLine 2 (some .boolean) rm_Reader_sitsLine L [.ref (ly_a L o)] σ res.1 res.2 := by
  refine ct_z hg (by decide) (Nat.le_of_ble_eq_true rfl) ?_
  intro E A Q hE C hN
  subst hE
  have k_o_1 : ly_k L (o + 1) = 8 := gd_Reader_tokens hg k_o_0
  have k_o_4 : ly_k L (o + 4) = 4 := gd_Reader_draft hg k_o_0
  have k_o_5 : ly_k L (o + 5) = 2 := gd_State_island hg k_o_4
  have k_o_8 : ly_k L (o + 8) = 1 := gd_Island_houses hg k_o_5
  have k_o_18 : ly_k L (o + 18) = 3 := gd_State_hands hg k_o_4
  have k_o_21 : ly_k L (o + 21) = 0 := gd_Hands_sits hg k_o_18
  unfold f_Reader_sitsLine at hf0
  show GW E L A 2 0 0 Q σ 0 [(0, .ref (ly_a L o))] []
  refine gw_aload_n C 0 d_Reader_sitsLine_0 rfl rfl ?_
  refine gw_getA C 0 d_Reader_sitsLine_1 k_o_0 (by decide) i_Reader rfl rfl (by decide) qw_287 rfl rfl (o + 1) rfl ?_
  obtain ⟨q4, hq4, hf0⟩ := mx_bd hf0
  refine gw_callV C (c_Tokens_step _ hg k_o_1 hq4) d_Reader_sitsLine_4 0 qw_481 qw_482 qw_483 qw_3 qw_484 k_o_1 (by decide) rfl hd_Tokens_step rfl rfl (Nat.le_of_ble_eq_true rfl) ⟨rfl, rfl, Nat.le_of_ble_eq_true rfl, Nat.le_of_ble_eq_true rfl⟩ ⟨Nat.zero_le _, Nat.zero_le _⟩ ?_
  refine gw_aload_n C 0 d_Reader_sitsLine_7 rfl rfl ?_
  refine gw_aload_n C 0 d_Reader_sitsLine_8 rfl rfl ?_
  refine gw_getA C 1 d_Reader_sitsLine_9 k_o_0 (by decide) i_Reader rfl rfl (by decide) qw_289 rfl rfl (o + 4) rfl ?_
  refine gw_getAN C 0 d_Reader_sitsLine_12 k_o_4 (by decide) i_State rfl rfl (by decide) qw_236 rfl rfl (o + 5) rfl ?_
  refine gw_getAN C 1 d_Reader_sitsLine_15 k_o_5 (by decide) i_Island rfl rfl (by decide) qw_135 rfl rfl (o + 8) rfl ?_
  obtain ⟨q18, hq18, hf0⟩ := mx_bd hf0
  refine gw_callI C (c_Reader_isOneOf _ hg k_o_0 k_o_8 hq18) d_Reader_sitsLine_18 1 qw_601 qw_603 qs_9 qw_2 qw_604 k_o_0 (by decide) rfl hd_Reader_isOneOf rfl rfl (Nat.le_of_ble_eq_true rfl) ⟨rfl, rfl, Nat.le_of_ble_eq_true rfl, Nat.le_of_ble_eq_true rfl⟩ ⟨Nat.zero_le _, Nat.zero_le _⟩ ?_
  refine gw_if_ne C 26 d_Reader_sitsLine_21 (by decide) (fun hc => ?_) (fun hc => ?_)
  · replace hf0 := mx_f hc hf0
    refine gw_aload_n C 0 d_Reader_sitsLine_26 rfl rfl ?_
    refine gw_getI C 5 d_Reader_sitsLine_27 k_o_0 (by decide) i_Reader rfl rfl (by decide) qw_297 rfl rfl ?_
    obtain ⟨x30, ex30, hf0⟩ := mx_lt hf0
    refine gw_topi ex30 ?_
    refine gw_istore_n C [(1, .int x30), (0, .ref (ly_a L o))] d_Reader_sitsLine_30 rfl (by decide) rfl ?_
    refine gw_aload_n C 1 d_Reader_sitsLine_31 rfl rfl ?_
    refine gw_getI C 8 d_Reader_sitsLine_32 k_o_0 (by decide) i_Reader rfl rfl (by decide) qw_300 rfl rfl ?_
    refine gw_iload_n C 0 d_Reader_sitsLine_35 rfl rfl ?_
    refine gw_ishr C d_Reader_sitsLine_36 ?_
    refine gw_iconst C (1 : Int32) d_Reader_sitsLine_37 (by decide) ?_
    refine gw_iand C d_Reader_sitsLine_38 ?_
    refine gw_iconst C (1 : Int32) d_Reader_sitsLine_39 (by decide) ?_
    refine gw_icmp_ne C 49 d_Reader_sitsLine_40 (by decide) (fun hc => ?_) (fun hc => ?_)
    · replace hf0 := mx_f hc hf0
      refine gw_aload_n C 1 d_Reader_sitsLine_49 rfl rfl ?_
      refine gw_dup C d_Reader_sitsLine_50 rfl ?_
      refine gw_getI C 8 d_Reader_sitsLine_51 k_o_0 (by decide) i_Reader rfl rfl (by decide) qw_300 rfl rfl ?_
      refine gw_iconst C (1 : Int32) d_Reader_sitsLine_54 (by decide) ?_
      refine gw_iload_n C 0 d_Reader_sitsLine_55 rfl rfl ?_
      refine gw_ishl C d_Reader_sitsLine_56 ?_
      refine gw_ior C d_Reader_sitsLine_57 ?_
      obtain ⟨m58, em58, hf0⟩ := mx_lt hf0
      refine gw_putI t_Reader C 8 d_Reader_sitsLine_58 k_o_0 (by decide) i_Reader rfl rfl (by decide) qw_300 rfl rfl t_Reader_ok n_Reader rfl (t_Reader_ok 8 (by decide)) rfl rfl em58 ?_
      refine gw_aload_n C 1 d_Reader_sitsLine_61 rfl rfl ?_
      refine gw_getA C 0 d_Reader_sitsLine_62 k_o_0 (by decide) i_Reader rfl rfl (by decide) qw_287 rfl rfl (o + 1) rfl ?_
      obtain ⟨q65, hq65, hf0⟩ := mx_bd hf0
      refine gw_callV C (c_Tokens_step _ hg k_o_1 hq65) d_Reader_sitsLine_65 0 qw_481 qw_482 qw_483 qw_3 qw_484 k_o_1 (by decide) rfl hd_Tokens_step rfl rfl (Nat.le_of_ble_eq_true rfl) ⟨rfl, rfl, Nat.le_of_ble_eq_true rfl, Nat.le_of_ble_eq_true rfl⟩ ⟨Nat.zero_le _, Nat.zero_le _⟩ ?_
      refine gw_aload_n C 1 d_Reader_sitsLine_68 rfl rfl ?_
      refine gw_iconst C (0 : Int32) d_Reader_sitsLine_69 (by decide) ?_
      refine gw_aload_n C 1 d_Reader_sitsLine_70 rfl rfl ?_
      refine gw_getA C 1 d_Reader_sitsLine_71 k_o_0 (by decide) i_Reader rfl rfl (by decide) qw_289 rfl rfl (o + 4) rfl ?_
      refine gw_getAN C 0 d_Reader_sitsLine_74 k_o_4 (by decide) i_State rfl rfl (by decide) qw_236 rfl rfl (o + 5) rfl ?_
      refine gw_getIN C 6 d_Reader_sitsLine_77 k_o_5 (by decide) i_Island rfl rfl (by decide) qw_149 rfl rfl ?_
      refine gw_iconst C (1 : Int32) d_Reader_sitsLine_80 (by decide) ?_
      refine gw_isub C d_Reader_sitsLine_81 ?_
      obtain ⟨q82, hq82, hf0⟩ := mx_bd hf0
      refine gw_callI C (c_Reader_isNumber _ hg k_o_0 hq82) d_Reader_sitsLine_82 2 qw_588 qw_590 qs_7 qw_2 qw_591 k_o_0 (by decide) rfl hd_Reader_isNumber rfl rfl (Nat.le_of_ble_eq_true rfl) ⟨rfl, rfl, Nat.le_of_ble_eq_true rfl, Nat.le_of_ble_eq_true rfl⟩ ⟨Nat.zero_le _, Nat.zero_le _⟩ ?_
      refine gw_if_ne C 90 d_Reader_sitsLine_85 (by decide) (fun hc => ?_) (fun hc => ?_)
      · replace hf0 := mx_f hc hf0
        refine gw_aload_n C 1 d_Reader_sitsLine_90 rfl rfl ?_
        refine gw_getA C 1 d_Reader_sitsLine_91 k_o_0 (by decide) i_Reader rfl rfl (by decide) qw_289 rfl rfl (o + 4) rfl ?_
        refine gw_getAN C 1 d_Reader_sitsLine_94 k_o_4 (by decide) i_State rfl rfl (by decide) qw_240 rfl rfl (o + 18) rfl ?_
        refine gw_getAN C 1 d_Reader_sitsLine_97 k_o_18 (by decide) i_Hands rfl rfl (by decide) qw_194 rfl rfl (o + 21) rfl ?_
        refine gw_iload_n C 0 d_Reader_sitsLine_100 rfl rfl ?_
        refine gw_aload_n C 1 d_Reader_sitsLine_101 rfl rfl ?_
        refine gw_getA C 0 d_Reader_sitsLine_102 k_o_0 (by decide) i_Reader rfl rfl (by decide) qw_287 rfl rfl (o + 1) rfl ?_
        refine gw_getIN C 6 d_Reader_sitsLine_105 k_o_1 (by decide) i_Tokens rfl rfl (by decide) qw_65 rfl rfl ?_
        obtain ⟨q108, hq108, hf0⟩ := mx_bd hf0
        refine gw_callV C (c_Row_put _ hg k_o_21 hq108) d_Reader_sitsLine_108 2 qw_592 qw_461 qw_462 qw_4 qw_463 k_o_21 (by decide) rfl hd_Row_put rfl rfl (Nat.le_of_ble_eq_true rfl) ⟨rfl, rfl, Nat.le_of_ble_eq_true rfl, Nat.le_of_ble_eq_true rfl⟩ ⟨Nat.zero_le _, Nat.zero_le _⟩ ?_
        refine gw_aload_n C 1 d_Reader_sitsLine_111 rfl rfl ?_
        refine gw_getA C 0 d_Reader_sitsLine_112 k_o_0 (by decide) i_Reader rfl rfl (by decide) qw_287 rfl rfl (o + 1) rfl ?_
        obtain ⟨q115, hq115, hf0⟩ := mx_bd hf0
        refine gw_callV C (c_Tokens_step _ hg k_o_1 hq115) d_Reader_sitsLine_115 0 qw_481 qw_482 qw_483 qw_3 qw_484 k_o_1 (by decide) rfl hd_Tokens_step rfl rfl (Nat.le_of_ble_eq_true rfl) ⟨rfl, rfl, Nat.le_of_ble_eq_true rfl, Nat.le_of_ble_eq_true rfl⟩ ⟨Nat.zero_le _, Nat.zero_le _⟩ ?_
        refine gw_iconst C (1 : Int32) d_Reader_sitsLine_118 (by decide) ?_
        exact en_z hN (Or.inr rfl) hf0 d_Reader_sitsLine_119
      · replace hf0 := mx_t hc hf0
        refine gw_iconst C (0 : Int32) d_Reader_sitsLine_88 (by decide) ?_
        exact en_z hN (Or.inl rfl) hf0 d_Reader_sitsLine_89
    · replace hf0 := mx_t hc hf0
      refine gw_aload_n C 1 d_Reader_sitsLine_43 rfl rfl ?_
      refine gw_iconst C (3 : Int32) d_Reader_sitsLine_44 (by decide) ?_
      obtain ⟨q45, hq45, hf0⟩ := mx_bd hf0
      refine gw_callI C (c_Reader_fail _ hg k_o_0 hq45) d_Reader_sitsLine_45 1 qw_568 qw_570 qs_4 qw_2 qw_571 k_o_0 (by decide) rfl hd_Reader_fail rfl rfl (Nat.le_of_ble_eq_true rfl) ⟨rfl, rfl, Nat.le_of_ble_eq_true rfl, Nat.le_of_ble_eq_true rfl⟩ ⟨Nat.zero_le _, Nat.zero_le _⟩ ?_
      obtain ⟨y48, hy48, hf0⟩ := mx_bd hf0
      obtain ⟨zy48, ey48⟩ := mx_zb hy48
      refine gw_topi ey48 ?_
      exact en_z hN zy48 hf0 d_Reader_sitsLine_48
  · replace hf0 := mx_t hc hf0
    refine gw_iconst C (0 : Int32) d_Reader_sitsLine_24 (by decide) ?_
    exact en_z hN (Or.inl rfl) hf0 d_Reader_sitsLine_25

/-! NameHat.Reader.fieldLine()Z -/
abbrev b_Reader_fieldLine : ByteArray := prog_6_method_16_code
def y_Reader_fieldLine : MethodName := ⟨"NameHat$Reader", "fieldLine", "()Z"⟩
abbrev rm_Reader_fieldLine : Room := { frames := 9, cells := 0, slots := 0, locals := 468 }
theorem hd_Reader_fieldLine : y_Reader_fieldLine.cls ≠ "java/lang/invoke/MethodHandle" ∧ y_Reader_fieldLine.cls ≠ "java/lang/invoke/VarHandle" ∧ (parseMethodDescriptor y_Reader_fieldLine.desc).map (fun d => d.parameters.length) = some 0 := by decide +kernel
theorem d_Reader_fieldLine_0 : decode b_Reader_fieldLine 0 = .ok (.aload_n 0, 1) := by decide +kernel
theorem d_Reader_fieldLine_1 : decode b_Reader_fieldLine 1 = .ok (.getfield 40, 3) := by decide +kernel
theorem d_Reader_fieldLine_4 : decode b_Reader_fieldLine 4 = .ok (.ifCond .eq 9, 3) := by decide +kernel
theorem d_Reader_fieldLine_7 : decode b_Reader_fieldLine 7 = .ok (.aload_n 0, 1) := by decide +kernel
theorem d_Reader_fieldLine_8 : decode b_Reader_fieldLine 8 = .ok (.iconst 3, 1) := by decide +kernel
theorem d_Reader_fieldLine_9 : decode b_Reader_fieldLine 9 = .ok (.invokevirtual 71, 3) := by decide +kernel
theorem d_Reader_fieldLine_12 : decode b_Reader_fieldLine 12 = .ok (.ireturn, 1) := by decide +kernel
theorem d_Reader_fieldLine_13 : decode b_Reader_fieldLine 13 = .ok (.aload_n 0, 1) := by decide +kernel
theorem d_Reader_fieldLine_14 : decode b_Reader_fieldLine 14 = .ok (.iconst 1, 1) := by decide +kernel
theorem d_Reader_fieldLine_15 : decode b_Reader_fieldLine 15 = .ok (.putfield 40, 3) := by decide +kernel
theorem d_Reader_fieldLine_18 : decode b_Reader_fieldLine 18 = .ok (.aload_n 0, 1) := by decide +kernel
theorem d_Reader_fieldLine_19 : decode b_Reader_fieldLine 19 = .ok (.getfield 12, 3) := by decide +kernel
theorem d_Reader_fieldLine_22 : decode b_Reader_fieldLine 22 = .ok (.invokevirtual 46, 3) := by decide +kernel
theorem d_Reader_fieldLine_25 : decode b_Reader_fieldLine 25 = .ok (.aload_n 0, 1) := by decide +kernel
theorem d_Reader_fieldLine_26 : decode b_Reader_fieldLine 26 = .ok (.iconst 0, 1) := by decide +kernel
theorem d_Reader_fieldLine_27 : decode b_Reader_fieldLine 27 = .ok (.bipush 99, 2) := by decide +kernel
theorem d_Reader_fieldLine_29 : decode b_Reader_fieldLine 29 = .ok (.invokevirtual 140, 3) := by decide +kernel
theorem d_Reader_fieldLine_32 : decode b_Reader_fieldLine 32 = .ok (.ifCond .ne 5, 3) := by decide +kernel
theorem d_Reader_fieldLine_35 : decode b_Reader_fieldLine 35 = .ok (.iconst 0, 1) := by decide +kernel
theorem d_Reader_fieldLine_36 : decode b_Reader_fieldLine 36 = .ok (.ireturn, 1) := by decide +kernel
theorem d_Reader_fieldLine_37 : decode b_Reader_fieldLine 37 = .ok (.aload_n 0, 1) := by decide +kernel
theorem d_Reader_fieldLine_38 : decode b_Reader_fieldLine 38 = .ok (.getfield 21, 3) := by decide +kernel
theorem d_Reader_fieldLine_41 : decode b_Reader_fieldLine 41 = .ok (.getfield 84, 3) := by decide +kernel
theorem d_Reader_fieldLine_44 : decode b_Reader_fieldLine 44 = .ok (.aload_n 0, 1) := by decide +kernel
theorem d_Reader_fieldLine_45 : decode b_Reader_fieldLine 45 = .ok (.getfield 12, 3) := by decide +kernel
theorem d_Reader_fieldLine_48 : decode b_Reader_fieldLine 48 = .ok (.getfield 75, 3) := by decide +kernel
theorem d_Reader_fieldLine_51 : decode b_Reader_fieldLine 51 = .ok (.putfield 201, 3) := by decide +kernel
theorem d_Reader_fieldLine_54 : decode b_Reader_fieldLine 54 = .ok (.aload_n 0, 1) := by decide +kernel
theorem d_Reader_fieldLine_55 : decode b_Reader_fieldLine 55 = .ok (.getfield 12, 3) := by decide +kernel
theorem d_Reader_fieldLine_58 : decode b_Reader_fieldLine 58 = .ok (.invokevirtual 46, 3) := by decide +kernel
theorem d_Reader_fieldLine_61 : decode b_Reader_fieldLine 61 = .ok (.iconst 1, 1) := by decide +kernel
theorem d_Reader_fieldLine_62 : decode b_Reader_fieldLine 62 = .ok (.ireturn, 1) := by decide +kernel
noncomputable def f_Reader_fieldLine (z : Nat → Nat) (σ : Mm) (o : Nat) : Option (Int32 × Mm) :=
  if (σ.1 o 7) = 0 then (
    mm_lt (kI σ o 7 (1 : Int32)) fun m15 =>
    (f_Tokens_step z m15 (o + 1)).bind fun q22 =>
    (f_Reader_isNumber z q22 o (0 : Int32) (99 : Int32)).bind fun q29 =>
    if q29.1 = 0 then (
      some ((0 : Int32), q29.2)
    ) else (
      mm_lt (kI q29.2 (o + 5) 8 (q29.2.1 (o + 1) 6)) fun m51 =>
      (f_Tokens_step z m51 (o + 1)).bind fun q58 =>
      some ((1 : Int32), q58)
    )
  ) else (
    (f_Reader_fail z σ o (3 : Int32)).bind fun q9 =>
    (mm_zb q9.1).bind fun y12 =>
    some (y12, q9.2)
  )
set_option maxHeartbeats 4000000 in
set_option maxRecDepth 100000 in
theorem c_Reader_fieldLine (l : Launch) {L : Ly} (hg : gd_ok L) {σ : Mm} {o : Nat} (k_o_0 : ly_k L o = 9) {res : Int32 × Mm} (hf0 : f_Reader_fieldLine (ly_z L) σ o = some res) : CtI l y_Reader_fieldLine b_Reader_fieldLine 1 (some .boolean) rm_Reader_fieldLine L [.ref (ly_a L o)] σ res.1 res.2 := by
  refine ct_z hg (by decide) (Nat.le_of_ble_eq_true rfl) ?_
  intro E A Q hE C hN
  subst hE
  have k_o_1 : ly_k L (o + 1) = 8 := gd_Reader_tokens hg k_o_0
  have k_o_4 : ly_k L (o + 4) = 4 := gd_Reader_draft hg k_o_0
  have k_o_5 : ly_k L (o + 5) = 2 := gd_State_island hg k_o_4
  unfold f_Reader_fieldLine at hf0
  show GW E L A 1 0 0 Q σ 0 [(0, .ref (ly_a L o))] []
  refine gw_aload_n C 0 d_Reader_fieldLine_0 rfl rfl ?_
  refine gw_getI C 7 d_Reader_fieldLine_1 k_o_0 (by decide) i_Reader rfl rfl (by decide) qw_299 rfl rfl ?_
  refine gw_if_eq C 13 d_Reader_fieldLine_4 (by decide) (fun hc => ?_) (fun hc => ?_)
  · replace hf0 := mx_t hc hf0
    refine gw_aload_n C 0 d_Reader_fieldLine_13 rfl rfl ?_
    refine gw_iconst C (1 : Int32) d_Reader_fieldLine_14 (by decide) ?_
    obtain ⟨m15, em15, hf0⟩ := mx_lt hf0
    refine gw_putI t_Reader C 7 d_Reader_fieldLine_15 k_o_0 (by decide) i_Reader rfl rfl (by decide) qw_299 rfl rfl t_Reader_ok n_Reader rfl (t_Reader_ok 7 (by decide)) rfl rfl em15 ?_
    refine gw_aload_n C 0 d_Reader_fieldLine_18 rfl rfl ?_
    refine gw_getA C 0 d_Reader_fieldLine_19 k_o_0 (by decide) i_Reader rfl rfl (by decide) qw_287 rfl rfl (o + 1) rfl ?_
    obtain ⟨q22, hq22, hf0⟩ := mx_bd hf0
    refine gw_callV C (c_Tokens_step _ hg k_o_1 hq22) d_Reader_fieldLine_22 0 qw_481 qw_482 qw_483 qw_3 qw_484 k_o_1 (by decide) rfl hd_Tokens_step rfl rfl (Nat.le_of_ble_eq_true rfl) ⟨rfl, rfl, Nat.le_of_ble_eq_true rfl, Nat.le_of_ble_eq_true rfl⟩ ⟨Nat.zero_le _, Nat.zero_le _⟩ ?_
    refine gw_aload_n C 0 d_Reader_fieldLine_25 rfl rfl ?_
    refine gw_iconst C (0 : Int32) d_Reader_fieldLine_26 (by decide) ?_
    refine gw_bipush C (99 : Int32) d_Reader_fieldLine_27 (by decide) ?_
    obtain ⟨q29, hq29, hf0⟩ := mx_bd hf0
    refine gw_callI C (c_Reader_isNumber _ hg k_o_0 hq29) d_Reader_fieldLine_29 2 qw_588 qw_590 qs_7 qw_2 qw_591 k_o_0 (by decide) rfl hd_Reader_isNumber rfl rfl (Nat.le_of_ble_eq_true rfl) ⟨rfl, rfl, Nat.le_of_ble_eq_true rfl, Nat.le_of_ble_eq_true rfl⟩ ⟨Nat.zero_le _, Nat.zero_le _⟩ ?_
    refine gw_if_ne C 37 d_Reader_fieldLine_32 (by decide) (fun hc => ?_) (fun hc => ?_)
    · replace hf0 := mx_f hc hf0
      refine gw_aload_n C 0 d_Reader_fieldLine_37 rfl rfl ?_
      refine gw_getA C 1 d_Reader_fieldLine_38 k_o_0 (by decide) i_Reader rfl rfl (by decide) qw_289 rfl rfl (o + 4) rfl ?_
      refine gw_getAN C 0 d_Reader_fieldLine_41 k_o_4 (by decide) i_State rfl rfl (by decide) qw_236 rfl rfl (o + 5) rfl ?_
      refine gw_aload_n C 0 d_Reader_fieldLine_44 rfl rfl ?_
      refine gw_getA C 0 d_Reader_fieldLine_45 k_o_0 (by decide) i_Reader rfl rfl (by decide) qw_287 rfl rfl (o + 1) rfl ?_
      refine gw_getIN C 6 d_Reader_fieldLine_48 k_o_1 (by decide) i_Tokens rfl rfl (by decide) qw_65 rfl rfl ?_
      obtain ⟨m51, em51, hf0⟩ := mx_lt hf0
      refine gw_putIN t_Island C 8 d_Reader_fieldLine_51 k_o_5 (by decide) i_Island rfl rfl (by decide) qw_157 rfl rfl t_Island_ok n_Island rfl (t_Island_ok 8 (by decide)) rfl rfl em51 ?_
      refine gw_aload_n C 0 d_Reader_fieldLine_54 rfl rfl ?_
      refine gw_getA C 0 d_Reader_fieldLine_55 k_o_0 (by decide) i_Reader rfl rfl (by decide) qw_287 rfl rfl (o + 1) rfl ?_
      obtain ⟨q58, hq58, hf0⟩ := mx_bd hf0
      refine gw_callV C (c_Tokens_step _ hg k_o_1 hq58) d_Reader_fieldLine_58 0 qw_481 qw_482 qw_483 qw_3 qw_484 k_o_1 (by decide) rfl hd_Tokens_step rfl rfl (Nat.le_of_ble_eq_true rfl) ⟨rfl, rfl, Nat.le_of_ble_eq_true rfl, Nat.le_of_ble_eq_true rfl⟩ ⟨Nat.zero_le _, Nat.zero_le _⟩ ?_
      refine gw_iconst C (1 : Int32) d_Reader_fieldLine_61 (by decide) ?_
      exact en_z hN (Or.inr rfl) hf0 d_Reader_fieldLine_62
    · replace hf0 := mx_t hc hf0
      refine gw_iconst C (0 : Int32) d_Reader_fieldLine_35 (by decide) ?_
      exact en_z hN (Or.inl rfl) hf0 d_Reader_fieldLine_36
  · replace hf0 := mx_f hc hf0
    refine gw_aload_n C 0 d_Reader_fieldLine_7 rfl rfl ?_
    refine gw_iconst C (3 : Int32) d_Reader_fieldLine_8 (by decide) ?_
    obtain ⟨q9, hq9, hf0⟩ := mx_bd hf0
    refine gw_callI C (c_Reader_fail _ hg k_o_0 hq9) d_Reader_fieldLine_9 1 qw_568 qw_570 qs_4 qw_2 qw_571 k_o_0 (by decide) rfl hd_Reader_fail rfl rfl (Nat.le_of_ble_eq_true rfl) ⟨rfl, rfl, Nat.le_of_ble_eq_true rfl, Nat.le_of_ble_eq_true rfl⟩ ⟨Nat.zero_le _, Nat.zero_le _⟩ ?_
    obtain ⟨y12, hy12, hf0⟩ := mx_bd hf0
    obtain ⟨zy12, ey12⟩ := mx_zb hy12
    refine gw_topi ey12 ?_
    exact en_z hN zy12 hf0 d_Reader_fieldLine_12

/-! NameHat.Reader.islandLine()Z -/
abbrev b_Reader_islandLine : ByteArray := prog_6_method_9_code
def y_Reader_islandLine : MethodName := ⟨"NameHat$Reader", "islandLine", "()Z"⟩
abbrev rm_Reader_islandLine : Room := { frames := 10, cells := 0, slots := 0, locals := 490 }
theorem hd_Reader_islandLine : y_Reader_islandLine.cls ≠ "java/lang/invoke/MethodHandle" ∧ y_Reader_islandLine.cls ≠ "java/lang/invoke/VarHandle" ∧ (parseMethodDescriptor y_Reader_islandLine.desc).map (fun d => d.parameters.length) = some 0 := by decide +kernel
theorem d_Reader_islandLine_0 : decode b_Reader_islandLine 0 = .ok (.aload_n 0, 1) := by decide +kernel
theorem d_Reader_islandLine_1 : decode b_Reader_islandLine 1 = .ok (.getfield 12, 3) := by decide +kernel
theorem d_Reader_islandLine_4 : decode b_Reader_islandLine 4 = .ok (.getfield 78, 3) := by decide +kernel
theorem d_Reader_islandLine_7 : decode b_Reader_islandLine 7 = .ok (.tableswitch 88 0 9 #[53, 88, 88, 58, 88, 63, 68, 73, 78, 83], 53) := by decide +kernel
theorem d_Reader_islandLine_60 : decode b_Reader_islandLine 60 = .ok (.aload_n 0, 1) := by decide +kernel
theorem d_Reader_islandLine_61 : decode b_Reader_islandLine 61 = .ok (.invokevirtual 110, 3) := by decide +kernel
theorem d_Reader_islandLine_64 : decode b_Reader_islandLine 64 = .ok (.ireturn, 1) := by decide +kernel
theorem d_Reader_islandLine_65 : decode b_Reader_islandLine 65 = .ok (.aload_n 0, 1) := by decide +kernel
theorem d_Reader_islandLine_66 : decode b_Reader_islandLine 66 = .ok (.invokevirtual 113, 3) := by decide +kernel
theorem d_Reader_islandLine_69 : decode b_Reader_islandLine 69 = .ok (.ireturn, 1) := by decide +kernel
theorem d_Reader_islandLine_70 : decode b_Reader_islandLine 70 = .ok (.aload_n 0, 1) := by decide +kernel
theorem d_Reader_islandLine_71 : decode b_Reader_islandLine 71 = .ok (.invokevirtual 116, 3) := by decide +kernel
theorem d_Reader_islandLine_74 : decode b_Reader_islandLine 74 = .ok (.ireturn, 1) := by decide +kernel
theorem d_Reader_islandLine_75 : decode b_Reader_islandLine 75 = .ok (.aload_n 0, 1) := by decide +kernel
theorem d_Reader_islandLine_76 : decode b_Reader_islandLine 76 = .ok (.invokevirtual 119, 3) := by decide +kernel
theorem d_Reader_islandLine_79 : decode b_Reader_islandLine 79 = .ok (.ireturn, 1) := by decide +kernel
theorem d_Reader_islandLine_80 : decode b_Reader_islandLine 80 = .ok (.aload_n 0, 1) := by decide +kernel
theorem d_Reader_islandLine_81 : decode b_Reader_islandLine 81 = .ok (.invokevirtual 122, 3) := by decide +kernel
theorem d_Reader_islandLine_84 : decode b_Reader_islandLine 84 = .ok (.ireturn, 1) := by decide +kernel
theorem d_Reader_islandLine_85 : decode b_Reader_islandLine 85 = .ok (.aload_n 0, 1) := by decide +kernel
theorem d_Reader_islandLine_86 : decode b_Reader_islandLine 86 = .ok (.invokevirtual 125, 3) := by decide +kernel
theorem d_Reader_islandLine_89 : decode b_Reader_islandLine 89 = .ok (.ireturn, 1) := by decide +kernel
theorem d_Reader_islandLine_90 : decode b_Reader_islandLine 90 = .ok (.aload_n 0, 1) := by decide +kernel
theorem d_Reader_islandLine_91 : decode b_Reader_islandLine 91 = .ok (.invokevirtual 128, 3) := by decide +kernel
theorem d_Reader_islandLine_94 : decode b_Reader_islandLine 94 = .ok (.ireturn, 1) := by decide +kernel
theorem d_Reader_islandLine_95 : decode b_Reader_islandLine 95 = .ok (.aload_n 0, 1) := by decide +kernel
theorem d_Reader_islandLine_96 : decode b_Reader_islandLine 96 = .ok (.iconst 1, 1) := by decide +kernel
theorem d_Reader_islandLine_97 : decode b_Reader_islandLine 97 = .ok (.invokevirtual 71, 3) := by decide +kernel
theorem d_Reader_islandLine_100 : decode b_Reader_islandLine 100 = .ok (.ireturn, 1) := by decide +kernel
noncomputable def f_Reader_islandLine (z : Nat → Nat) (σ : Mm) (o : Nat) : Option (Int32 × Mm) :=
  mm_lt ((σ.1 (o + 1) 8)) fun x7 =>
  if x7 = (0 : Int32) then (
    (f_Reader_nameLine z σ o).bind fun q61 =>
    (mm_zb q61.1).bind fun y64 =>
    some (y64, q61.2)
  ) else (
  if x7 = (1 : Int32) then (
    (f_Reader_fail z σ o (1 : Int32)).bind fun q97 =>
    (mm_zb q97.1).bind fun y100 =>
    some (y100, q97.2)
  ) else (
  if x7 = (2 : Int32) then (
    (f_Reader_fail z σ o (1 : Int32)).bind fun q97 =>
    (mm_zb q97.1).bind fun y100 =>
    some (y100, q97.2)
  ) else (
  if x7 = (3 : Int32) then (
    (f_Reader_houseLine z σ o).bind fun q66 =>
    (mm_zb q66.1).bind fun y69 =>
    some (y69, q66.2)
  ) else (
  if x7 = (4 : Int32) then (
    (f_Reader_fail z σ o (1 : Int32)).bind fun q97 =>
    (mm_zb q97.1).bind fun y100 =>
    some (y100, q97.2)
  ) else (
  if x7 = (5 : Int32) then (
    (f_Reader_wantsLine z σ o).bind fun q71 =>
    (mm_zb q71.1).bind fun y74 =>
    some (y74, q71.2)
  ) else (
  if x7 = (6 : Int32) then (
    (f_Reader_feudLine z σ o).bind fun q76 =>
    (mm_zb q76.1).bind fun y79 =>
    some (y79, q76.2)
  ) else (
  if x7 = (7 : Int32) then (
    (f_Reader_pewsLine z σ o).bind fun q81 =>
    (mm_zb q81.1).bind fun y84 =>
    some (y84, q81.2)
  ) else (
  if x7 = (8 : Int32) then (
    (f_Reader_sitsLine z σ o).bind fun q86 =>
    (mm_zb q86.1).bind fun y89 =>
    some (y89, q86.2)
  ) else (
  if x7 = (9 : Int32) then (
    (f_Reader_fieldLine z σ o).bind fun q91 =>
    (mm_zb q91.1).bind fun y94 =>
    some (y94, q91.2)
  ) else (
    (f_Reader_fail z σ o (1 : Int32)).bind fun q97 =>
    (mm_zb q97.1).bind fun y100 =>
    some (y100, q97.2)
  ))))))))))
set_option maxHeartbeats 4000000 in
set_option maxRecDepth 100000 in
theorem c_Reader_islandLine (l : Launch) {L : Ly} (hg : gd_ok L) {σ : Mm} {o : Nat} (k_o_0 : ly_k L o = 9) {res : Int32 × Mm} (hf0 : f_Reader_islandLine (ly_z L) σ o = some res) : CtI l y_Reader_islandLine b_Reader_islandLine 1 (some .boolean) rm_Reader_islandLine L [.ref (ly_a L o)] σ res.1 res.2 := by
  refine ct_z hg (by decide) (Nat.le_of_ble_eq_true rfl) ?_
  intro E A Q hE C hN
  subst hE
  have k_o_1 : ly_k L (o + 1) = 8 := gd_Reader_tokens hg k_o_0
  unfold f_Reader_islandLine at hf0
  show GW E L A 1 0 0 Q σ 0 [(0, .ref (ly_a L o))] []
  refine gw_aload_n C 0 d_Reader_islandLine_0 rfl rfl ?_
  refine gw_getA C 0 d_Reader_islandLine_1 k_o_0 (by decide) i_Reader rfl rfl (by decide) qw_287 rfl rfl (o + 1) rfl ?_
  refine gw_getIN C 8 d_Reader_islandLine_4 k_o_1 (by decide) i_Tokens rfl rfl (by decide) qw_69 rfl rfl ?_
  obtain ⟨x7, ex7, hf0⟩ := mx_lt hf0
  refine gw_topi ex7 ?_
  by_cases hc0 : x7 = (0 : Int32)
  · replace hf0 := mx_t hc0 hf0
    refine gw_tabEq (off := 53) C 60 hc0 d_Reader_islandLine_7 (by decide) (by decide) (by decide) (by decide) ?_
    refine gw_aload_n C 0 d_Reader_islandLine_60 rfl rfl ?_
    obtain ⟨q61, hq61, hf0⟩ := mx_bd hf0
    refine gw_callI C (c_Reader_nameLine _ hg k_o_0 hq61) d_Reader_islandLine_61 0 qw_560 qw_562 qs_3 qw_2 qw_563 k_o_0 (by decide) rfl hd_Reader_nameLine rfl rfl (Nat.le_of_ble_eq_true rfl) ⟨rfl, rfl, Nat.le_of_ble_eq_true rfl, Nat.le_of_ble_eq_true rfl⟩ ⟨Nat.zero_le _, Nat.zero_le _⟩ ?_
    obtain ⟨y64, hy64, hf0⟩ := mx_bd hf0
    obtain ⟨zy64, ey64⟩ := mx_zb hy64
    refine gw_topi ey64 ?_
    exact en_z hN zy64 hf0 d_Reader_islandLine_64
  replace hf0 := mx_f hc0 hf0
  have hn0 := lv_neT hc0 (show ((0 : Int32)).toInt = 0 by decide)
  by_cases hc1 : x7 = (1 : Int32)
  · replace hf0 := mx_t hc1 hf0
    refine gw_tabEq (off := 88) C 95 hc1 d_Reader_islandLine_7 (by decide) (by decide) (by decide) (by decide) ?_
    refine gw_aload_n C 0 d_Reader_islandLine_95 rfl rfl ?_
    refine gw_iconst C (1 : Int32) d_Reader_islandLine_96 (by decide) ?_
    obtain ⟨q97, hq97, hf0⟩ := mx_bd hf0
    refine gw_callI C (c_Reader_fail _ hg k_o_0 hq97) d_Reader_islandLine_97 1 qw_568 qw_570 qs_4 qw_2 qw_571 k_o_0 (by decide) rfl hd_Reader_fail rfl rfl (Nat.le_of_ble_eq_true rfl) ⟨rfl, rfl, Nat.le_of_ble_eq_true rfl, Nat.le_of_ble_eq_true rfl⟩ ⟨Nat.zero_le _, Nat.zero_le _⟩ ?_
    obtain ⟨y100, hy100, hf0⟩ := mx_bd hf0
    obtain ⟨zy100, ey100⟩ := mx_zb hy100
    refine gw_topi ey100 ?_
    exact en_z hN zy100 hf0 d_Reader_islandLine_100
  replace hf0 := mx_f hc1 hf0
  have hn1 := lv_neT hc1 (show ((1 : Int32)).toInt = 1 by decide)
  by_cases hc2 : x7 = (2 : Int32)
  · replace hf0 := mx_t hc2 hf0
    refine gw_tabEq (off := 88) C 95 hc2 d_Reader_islandLine_7 (by decide) (by decide) (by decide) (by decide) ?_
    refine gw_aload_n C 0 d_Reader_islandLine_95 rfl rfl ?_
    refine gw_iconst C (1 : Int32) d_Reader_islandLine_96 (by decide) ?_
    obtain ⟨q97, hq97, hf0⟩ := mx_bd hf0
    refine gw_callI C (c_Reader_fail _ hg k_o_0 hq97) d_Reader_islandLine_97 1 qw_568 qw_570 qs_4 qw_2 qw_571 k_o_0 (by decide) rfl hd_Reader_fail rfl rfl (Nat.le_of_ble_eq_true rfl) ⟨rfl, rfl, Nat.le_of_ble_eq_true rfl, Nat.le_of_ble_eq_true rfl⟩ ⟨Nat.zero_le _, Nat.zero_le _⟩ ?_
    obtain ⟨y100, hy100, hf0⟩ := mx_bd hf0
    obtain ⟨zy100, ey100⟩ := mx_zb hy100
    refine gw_topi ey100 ?_
    exact en_z hN zy100 hf0 d_Reader_islandLine_100
  replace hf0 := mx_f hc2 hf0
  have hn2 := lv_neT hc2 (show ((2 : Int32)).toInt = 2 by decide)
  by_cases hc3 : x7 = (3 : Int32)
  · replace hf0 := mx_t hc3 hf0
    refine gw_tabEq (off := 58) C 65 hc3 d_Reader_islandLine_7 (by decide) (by decide) (by decide) (by decide) ?_
    refine gw_aload_n C 0 d_Reader_islandLine_65 rfl rfl ?_
    obtain ⟨q66, hq66, hf0⟩ := mx_bd hf0
    refine gw_callI C (c_Reader_houseLine _ hg k_o_0 hq66) d_Reader_islandLine_66 0 qw_597 qw_599 qs_8 qw_2 qw_600 k_o_0 (by decide) rfl hd_Reader_houseLine rfl rfl (Nat.le_of_ble_eq_true rfl) ⟨rfl, rfl, Nat.le_of_ble_eq_true rfl, Nat.le_of_ble_eq_true rfl⟩ ⟨Nat.zero_le _, Nat.zero_le _⟩ ?_
    obtain ⟨y69, hy69, hf0⟩ := mx_bd hf0
    obtain ⟨zy69, ey69⟩ := mx_zb hy69
    refine gw_topi ey69 ?_
    exact en_z hN zy69 hf0 d_Reader_islandLine_69
  replace hf0 := mx_f hc3 hf0
  have hn3 := lv_neT hc3 (show ((3 : Int32)).toInt = 3 by decide)
  by_cases hc4 : x7 = (4 : Int32)
  · replace hf0 := mx_t hc4 hf0
    refine gw_tabEq (off := 88) C 95 hc4 d_Reader_islandLine_7 (by decide) (by decide) (by decide) (by decide) ?_
    refine gw_aload_n C 0 d_Reader_islandLine_95 rfl rfl ?_
    refine gw_iconst C (1 : Int32) d_Reader_islandLine_96 (by decide) ?_
    obtain ⟨q97, hq97, hf0⟩ := mx_bd hf0
    refine gw_callI C (c_Reader_fail _ hg k_o_0 hq97) d_Reader_islandLine_97 1 qw_568 qw_570 qs_4 qw_2 qw_571 k_o_0 (by decide) rfl hd_Reader_fail rfl rfl (Nat.le_of_ble_eq_true rfl) ⟨rfl, rfl, Nat.le_of_ble_eq_true rfl, Nat.le_of_ble_eq_true rfl⟩ ⟨Nat.zero_le _, Nat.zero_le _⟩ ?_
    obtain ⟨y100, hy100, hf0⟩ := mx_bd hf0
    obtain ⟨zy100, ey100⟩ := mx_zb hy100
    refine gw_topi ey100 ?_
    exact en_z hN zy100 hf0 d_Reader_islandLine_100
  replace hf0 := mx_f hc4 hf0
  have hn4 := lv_neT hc4 (show ((4 : Int32)).toInt = 4 by decide)
  by_cases hc5 : x7 = (5 : Int32)
  · replace hf0 := mx_t hc5 hf0
    refine gw_tabEq (off := 63) C 70 hc5 d_Reader_islandLine_7 (by decide) (by decide) (by decide) (by decide) ?_
    refine gw_aload_n C 0 d_Reader_islandLine_70 rfl rfl ?_
    obtain ⟨q71, hq71, hf0⟩ := mx_bd hf0
    refine gw_callI C (c_Reader_wantsLine _ hg k_o_0 hq71) d_Reader_islandLine_71 0 qw_610 qw_612 qs_10 qw_2 qw_613 k_o_0 (by decide) rfl hd_Reader_wantsLine rfl rfl (Nat.le_of_ble_eq_true rfl) ⟨rfl, rfl, Nat.le_of_ble_eq_true rfl, Nat.le_of_ble_eq_true rfl⟩ ⟨Nat.zero_le _, Nat.zero_le _⟩ ?_
    obtain ⟨y74, hy74, hf0⟩ := mx_bd hf0
    obtain ⟨zy74, ey74⟩ := mx_zb hy74
    refine gw_topi ey74 ?_
    exact en_z hN zy74 hf0 d_Reader_islandLine_74
  replace hf0 := mx_f hc5 hf0
  have hn5 := lv_neT hc5 (show ((5 : Int32)).toInt = 5 by decide)
  by_cases hc6 : x7 = (6 : Int32)
  · replace hf0 := mx_t hc6 hf0
    refine gw_tabEq (off := 68) C 75 hc6 d_Reader_islandLine_7 (by decide) (by decide) (by decide) (by decide) ?_
    refine gw_aload_n C 0 d_Reader_islandLine_75 rfl rfl ?_
    obtain ⟨q76, hq76, hf0⟩ := mx_bd hf0
    refine gw_callI C (c_Reader_feudLine _ hg k_o_0 hq76) d_Reader_islandLine_76 0 qw_624 qw_626 qs_11 qw_2 qw_627 k_o_0 (by decide) rfl hd_Reader_feudLine rfl rfl (Nat.le_of_ble_eq_true rfl) ⟨rfl, rfl, Nat.le_of_ble_eq_true rfl, Nat.le_of_ble_eq_true rfl⟩ ⟨Nat.zero_le _, Nat.zero_le _⟩ ?_
    obtain ⟨y79, hy79, hf0⟩ := mx_bd hf0
    obtain ⟨zy79, ey79⟩ := mx_zb hy79
    refine gw_topi ey79 ?_
    exact en_z hN zy79 hf0 d_Reader_islandLine_79
  replace hf0 := mx_f hc6 hf0
  have hn6 := lv_neT hc6 (show ((6 : Int32)).toInt = 6 by decide)
  by_cases hc7 : x7 = (7 : Int32)
  · replace hf0 := mx_t hc7 hf0
    refine gw_tabEq (off := 73) C 80 hc7 d_Reader_islandLine_7 (by decide) (by decide) (by decide) (by decide) ?_
    refine gw_aload_n C 0 d_Reader_islandLine_80 rfl rfl ?_
    obtain ⟨q81, hq81, hf0⟩ := mx_bd hf0
    refine gw_callI C (c_Reader_pewsLine _ hg k_o_0 hq81) d_Reader_islandLine_81 0 qw_636 qw_638 qs_12 qw_2 qw_639 k_o_0 (by decide) rfl hd_Reader_pewsLine rfl rfl (Nat.le_of_ble_eq_true rfl) ⟨rfl, rfl, Nat.le_of_ble_eq_true rfl, Nat.le_of_ble_eq_true rfl⟩ ⟨Nat.zero_le _, Nat.zero_le _⟩ ?_
    obtain ⟨y84, hy84, hf0⟩ := mx_bd hf0
    obtain ⟨zy84, ey84⟩ := mx_zb hy84
    refine gw_topi ey84 ?_
    exact en_z hN zy84 hf0 d_Reader_islandLine_84
  replace hf0 := mx_f hc7 hf0
  have hn7 := lv_neT hc7 (show ((7 : Int32)).toInt = 7 by decide)
  by_cases hc8 : x7 = (8 : Int32)
  · replace hf0 := mx_t hc8 hf0
    refine gw_tabEq (off := 78) C 85 hc8 d_Reader_islandLine_7 (by decide) (by decide) (by decide) (by decide) ?_
    refine gw_aload_n C 0 d_Reader_islandLine_85 rfl rfl ?_
    obtain ⟨q86, hq86, hf0⟩ := mx_bd hf0
    refine gw_callI C (c_Reader_sitsLine _ hg k_o_0 hq86) d_Reader_islandLine_86 0 qw_640 qw_642 qs_13 qw_2 qw_643 k_o_0 (by decide) rfl hd_Reader_sitsLine rfl rfl (Nat.le_of_ble_eq_true rfl) ⟨rfl, rfl, Nat.le_of_ble_eq_true rfl, Nat.le_of_ble_eq_true rfl⟩ ⟨Nat.zero_le _, Nat.zero_le _⟩ ?_
    obtain ⟨y89, hy89, hf0⟩ := mx_bd hf0
    obtain ⟨zy89, ey89⟩ := mx_zb hy89
    refine gw_topi ey89 ?_
    exact en_z hN zy89 hf0 d_Reader_islandLine_89
  replace hf0 := mx_f hc8 hf0
  have hn8 := lv_neT hc8 (show ((8 : Int32)).toInt = 8 by decide)
  by_cases hc9 : x7 = (9 : Int32)
  · replace hf0 := mx_t hc9 hf0
    refine gw_tabEq (off := 83) C 90 hc9 d_Reader_islandLine_7 (by decide) (by decide) (by decide) (by decide) ?_
    refine gw_aload_n C 0 d_Reader_islandLine_90 rfl rfl ?_
    obtain ⟨q91, hq91, hf0⟩ := mx_bd hf0
    refine gw_callI C (c_Reader_fieldLine _ hg k_o_0 hq91) d_Reader_islandLine_91 0 qw_644 qw_646 qs_14 qw_2 qw_647 k_o_0 (by decide) rfl hd_Reader_fieldLine rfl rfl (Nat.le_of_ble_eq_true rfl) ⟨rfl, rfl, Nat.le_of_ble_eq_true rfl, Nat.le_of_ble_eq_true rfl⟩ ⟨Nat.zero_le _, Nat.zero_le _⟩ ?_
    obtain ⟨y94, hy94, hf0⟩ := mx_bd hf0
    obtain ⟨zy94, ey94⟩ := mx_zb hy94
    refine gw_topi ey94 ?_
    exact en_z hN zy94 hf0 d_Reader_islandLine_94
  replace hf0 := mx_f hc9 hf0
  have hn9 := lv_neT hc9 (show ((9 : Int32)).toInt = 9 by decide)
  refine gw_tabOut C 95 d_Reader_islandLine_7 (by omega) (by decide) ?_
  refine gw_aload_n C 0 d_Reader_islandLine_95 rfl rfl ?_
  refine gw_iconst C (1 : Int32) d_Reader_islandLine_96 (by decide) ?_
  obtain ⟨q97, hq97, hf0⟩ := mx_bd hf0
  refine gw_callI C (c_Reader_fail _ hg k_o_0 hq97) d_Reader_islandLine_97 1 qw_568 qw_570 qs_4 qw_2 qw_571 k_o_0 (by decide) rfl hd_Reader_fail rfl rfl (Nat.le_of_ble_eq_true rfl) ⟨rfl, rfl, Nat.le_of_ble_eq_true rfl, Nat.le_of_ble_eq_true rfl⟩ ⟨Nat.zero_le _, Nat.zero_le _⟩ ?_
  obtain ⟨y100, hy100, hf0⟩ := mx_bd hf0
  obtain ⟨zy100, ey100⟩ := mx_zb hy100
  refine gw_topi ey100 ?_
  exact en_z hN zy100 hf0 d_Reader_islandLine_100

/-! NameHat.Reader.rollLine()Z -/
abbrev b_Reader_rollLine : ByteArray := prog_6_method_17_code
def y_Reader_rollLine : MethodName := ⟨"NameHat$Reader", "rollLine", "()Z"⟩
abbrev rm_Reader_rollLine : Room := { frames := 9, cells := 0, slots := 0, locals := 468 }
theorem hd_Reader_rollLine : y_Reader_rollLine.cls ≠ "java/lang/invoke/MethodHandle" ∧ y_Reader_rollLine.cls ≠ "java/lang/invoke/VarHandle" ∧ (parseMethodDescriptor y_Reader_rollLine.desc).map (fun d => d.parameters.length) = some 0 := by decide +kernel
theorem d_Reader_rollLine_0 : decode b_Reader_rollLine 0 = .ok (.aload_n 0, 1) := by decide +kernel
theorem d_Reader_rollLine_1 : decode b_Reader_rollLine 1 = .ok (.aload_n 0, 1) := by decide +kernel
theorem d_Reader_rollLine_2 : decode b_Reader_rollLine 2 = .ok (.getfield 21, 3) := by decide +kernel
theorem d_Reader_rollLine_5 : decode b_Reader_rollLine 5 = .ok (.getfield 84, 3) := by decide +kernel
theorem d_Reader_rollLine_8 : decode b_Reader_rollLine 8 = .ok (.getfield 104, 3) := by decide +kernel
theorem d_Reader_rollLine_11 : decode b_Reader_rollLine 11 = .ok (.invokevirtual 161, 3) := by decide +kernel
theorem d_Reader_rollLine_14 : decode b_Reader_rollLine 14 = .ok (.ifCond .ne 5, 3) := by decide +kernel
theorem d_Reader_rollLine_17 : decode b_Reader_rollLine 17 = .ok (.iconst 0, 1) := by decide +kernel
theorem d_Reader_rollLine_18 : decode b_Reader_rollLine 18 = .ok (.ireturn, 1) := by decide +kernel
theorem d_Reader_rollLine_19 : decode b_Reader_rollLine 19 = .ok (.aload_n 0, 1) := by decide +kernel
theorem d_Reader_rollLine_20 : decode b_Reader_rollLine 20 = .ok (.getfield 29, 3) := by decide +kernel
theorem d_Reader_rollLine_23 : decode b_Reader_rollLine 23 = .ok (.bipush 30, 2) := by decide +kernel
theorem d_Reader_rollLine_25 : decode b_Reader_rollLine 25 = .ok (.if_icmp .lt 9, 3) := by decide +kernel
theorem d_Reader_rollLine_28 : decode b_Reader_rollLine 28 = .ok (.aload_n 0, 1) := by decide +kernel
theorem d_Reader_rollLine_29 : decode b_Reader_rollLine 29 = .ok (.iconst 4, 1) := by decide +kernel
theorem d_Reader_rollLine_30 : decode b_Reader_rollLine 30 = .ok (.invokevirtual 71, 3) := by decide +kernel
theorem d_Reader_rollLine_33 : decode b_Reader_rollLine 33 = .ok (.ireturn, 1) := by decide +kernel
theorem d_Reader_rollLine_34 : decode b_Reader_rollLine 34 = .ok (.aload_n 0, 1) := by decide +kernel
theorem d_Reader_rollLine_35 : decode b_Reader_rollLine 35 = .ok (.getfield 107, 3) := by decide +kernel
theorem d_Reader_rollLine_38 : decode b_Reader_rollLine 38 = .ok (.istore_n 1, 1) := by decide +kernel
theorem d_Reader_rollLine_39 : decode b_Reader_rollLine 39 = .ok (.aload_n 0, 1) := by decide +kernel
theorem d_Reader_rollLine_40 : decode b_Reader_rollLine 40 = .ok (.getfield 12, 3) := by decide +kernel
theorem d_Reader_rollLine_43 : decode b_Reader_rollLine 43 = .ok (.invokevirtual 46, 3) := by decide +kernel
theorem d_Reader_rollLine_46 : decode b_Reader_rollLine 46 = .ok (.aload_n 0, 1) := by decide +kernel
theorem d_Reader_rollLine_47 : decode b_Reader_rollLine 47 = .ok (.getfield 12, 3) := by decide +kernel
theorem d_Reader_rollLine_50 : decode b_Reader_rollLine 50 = .ok (.bipush 10, 2) := by decide +kernel
theorem d_Reader_rollLine_52 : decode b_Reader_rollLine 52 = .ok (.invokevirtual 155, 3) := by decide +kernel
theorem d_Reader_rollLine_55 : decode b_Reader_rollLine 55 = .ok (.istore_n 2, 1) := by decide +kernel
theorem d_Reader_rollLine_56 : decode b_Reader_rollLine 56 = .ok (.iload_n 2, 1) := by decide +kernel
theorem d_Reader_rollLine_57 : decode b_Reader_rollLine 57 = .ok (.ifCond .ne 21, 3) := by decide +kernel
theorem d_Reader_rollLine_60 : decode b_Reader_rollLine 60 = .ok (.aload_n 0, 1) := by decide +kernel
theorem d_Reader_rollLine_61 : decode b_Reader_rollLine 61 = .ok (.getfield 12, 3) := by decide +kernel
theorem d_Reader_rollLine_64 : decode b_Reader_rollLine 64 = .ok (.bipush 11, 2) := by decide +kernel
theorem d_Reader_rollLine_66 : decode b_Reader_rollLine 66 = .ok (.invokevirtual 155, 3) := by decide +kernel
theorem d_Reader_rollLine_69 : decode b_Reader_rollLine 69 = .ok (.ifCond .ne 9, 3) := by decide +kernel
theorem d_Reader_rollLine_72 : decode b_Reader_rollLine 72 = .ok (.aload_n 0, 1) := by decide +kernel
theorem d_Reader_rollLine_73 : decode b_Reader_rollLine 73 = .ok (.iconst 1, 1) := by decide +kernel
theorem d_Reader_rollLine_74 : decode b_Reader_rollLine 74 = .ok (.invokevirtual 71, 3) := by decide +kernel
theorem d_Reader_rollLine_77 : decode b_Reader_rollLine 77 = .ok (.ireturn, 1) := by decide +kernel
theorem d_Reader_rollLine_78 : decode b_Reader_rollLine 78 = .ok (.aload_n 0, 1) := by decide +kernel
theorem d_Reader_rollLine_79 : decode b_Reader_rollLine 79 = .ok (.getfield 12, 3) := by decide +kernel
theorem d_Reader_rollLine_82 : decode b_Reader_rollLine 82 = .ok (.invokevirtual 46, 3) := by decide +kernel
theorem d_Reader_rollLine_85 : decode b_Reader_rollLine 85 = .ok (.aload_n 0, 1) := by decide +kernel
theorem d_Reader_rollLine_86 : decode b_Reader_rollLine 86 = .ok (.aload_n 0, 1) := by decide +kernel
theorem d_Reader_rollLine_87 : decode b_Reader_rollLine 87 = .ok (.getfield 21, 3) := by decide +kernel
theorem d_Reader_rollLine_90 : decode b_Reader_rollLine 90 = .ok (.getfield 84, 3) := by decide +kernel
theorem d_Reader_rollLine_93 : decode b_Reader_rollLine 93 = .ok (.getfield 88, 3) := by decide +kernel
theorem d_Reader_rollLine_96 : decode b_Reader_rollLine 96 = .ok (.invokevirtual 161, 3) := by decide +kernel
theorem d_Reader_rollLine_99 : decode b_Reader_rollLine 99 = .ok (.ifCond .ne 5, 3) := by decide +kernel
theorem d_Reader_rollLine_102 : decode b_Reader_rollLine 102 = .ok (.iconst 0, 1) := by decide +kernel
theorem d_Reader_rollLine_103 : decode b_Reader_rollLine 103 = .ok (.ireturn, 1) := by decide +kernel
theorem d_Reader_rollLine_104 : decode b_Reader_rollLine 104 = .ok (.iload_n 2, 1) := by decide +kernel
theorem d_Reader_rollLine_105 : decode b_Reader_rollLine 105 = .ok (.ifCond .eq 12, 3) := by decide +kernel
theorem d_Reader_rollLine_108 : decode b_Reader_rollLine 108 = .ok (.iconst 1, 1) := by decide +kernel
theorem d_Reader_rollLine_109 : decode b_Reader_rollLine 109 = .ok (.aload_n 0, 1) := by decide +kernel
theorem d_Reader_rollLine_110 : decode b_Reader_rollLine 110 = .ok (.getfield 107, 3) := by decide +kernel
theorem d_Reader_rollLine_113 : decode b_Reader_rollLine 113 = .ok (.ishl, 1) := by decide +kernel
theorem d_Reader_rollLine_114 : decode b_Reader_rollLine 114 = .ok (.goto 11, 3) := by decide +kernel
theorem d_Reader_rollLine_117 : decode b_Reader_rollLine 117 = .ok (.iconst 1, 1) := by decide +kernel
theorem d_Reader_rollLine_118 : decode b_Reader_rollLine 118 = .ok (.aload_n 0, 1) := by decide +kernel
theorem d_Reader_rollLine_119 : decode b_Reader_rollLine 119 = .ok (.getfield 107, 3) := by decide +kernel
theorem d_Reader_rollLine_122 : decode b_Reader_rollLine 122 = .ok (.ishl, 1) := by decide +kernel
theorem d_Reader_rollLine_123 : decode b_Reader_rollLine 123 = .ok (.iconst (-1), 1) := by decide +kernel
theorem d_Reader_rollLine_124 : decode b_Reader_rollLine 124 = .ok (.ixor, 1) := by decide +kernel
theorem d_Reader_rollLine_125 : decode b_Reader_rollLine 125 = .ok (.istore_n 3, 1) := by decide +kernel
theorem d_Reader_rollLine_126 : decode b_Reader_rollLine 126 = .ok (.aload_n 0, 1) := by decide +kernel
theorem d_Reader_rollLine_127 : decode b_Reader_rollLine 127 = .ok (.getfield 21, 3) := by decide +kernel
theorem d_Reader_rollLine_130 : decode b_Reader_rollLine 130 = .ok (.getfield 204, 3) := by decide +kernel
theorem d_Reader_rollLine_133 : decode b_Reader_rollLine 133 = .ok (.iload_n 1, 1) := by decide +kernel
theorem d_Reader_rollLine_134 : decode b_Reader_rollLine 134 = .ok (.aload_n 0, 1) := by decide +kernel
theorem d_Reader_rollLine_135 : decode b_Reader_rollLine 135 = .ok (.getfield 21, 3) := by decide +kernel
theorem d_Reader_rollLine_138 : decode b_Reader_rollLine 138 = .ok (.getfield 204, 3) := by decide +kernel
theorem d_Reader_rollLine_141 : decode b_Reader_rollLine 141 = .ok (.iload_n 1, 1) := by decide +kernel
theorem d_Reader_rollLine_142 : decode b_Reader_rollLine 142 = .ok (.invokevirtual 207, 3) := by decide +kernel
theorem d_Reader_rollLine_145 : decode b_Reader_rollLine 145 = .ok (.iload_n 3, 1) := by decide +kernel
theorem d_Reader_rollLine_146 : decode b_Reader_rollLine 146 = .ok (.iand, 1) := by decide +kernel
theorem d_Reader_rollLine_147 : decode b_Reader_rollLine 147 = .ok (.invokevirtual 148, 3) := by decide +kernel
theorem d_Reader_rollLine_150 : decode b_Reader_rollLine 150 = .ok (.aload_n 0, 1) := by decide +kernel
theorem d_Reader_rollLine_151 : decode b_Reader_rollLine 151 = .ok (.getfield 21, 3) := by decide +kernel
theorem d_Reader_rollLine_154 : decode b_Reader_rollLine 154 = .ok (.aload_n 0, 1) := by decide +kernel
theorem d_Reader_rollLine_155 : decode b_Reader_rollLine 155 = .ok (.getfield 29, 3) := by decide +kernel
theorem d_Reader_rollLine_158 : decode b_Reader_rollLine 158 = .ok (.iconst 1, 1) := by decide +kernel
theorem d_Reader_rollLine_159 : decode b_Reader_rollLine 159 = .ok (.iadd, 1) := by decide +kernel
theorem d_Reader_rollLine_160 : decode b_Reader_rollLine 160 = .ok (.putfield 210, 3) := by decide +kernel
theorem d_Reader_rollLine_163 : decode b_Reader_rollLine 163 = .ok (.aload_n 0, 1) := by decide +kernel
theorem d_Reader_rollLine_164 : decode b_Reader_rollLine 164 = .ok (.getfield 12, 3) := by decide +kernel
theorem d_Reader_rollLine_167 : decode b_Reader_rollLine 167 = .ok (.invokevirtual 46, 3) := by decide +kernel
theorem d_Reader_rollLine_170 : decode b_Reader_rollLine 170 = .ok (.iconst 1, 1) := by decide +kernel
theorem d_Reader_rollLine_171 : decode b_Reader_rollLine 171 = .ok (.ireturn, 1) := by decide +kernel
noncomputable def f_Reader_rollLine_J125 (z : Nat → Nat) (o : Nat) (v1 : Int32) (t125_0 : Int32) (m125 : Mm) : Option (Int32 × Mm) :=
  (f_Row_at z m125 (o + 31) v1).bind fun q142 =>
  (f_Row_put z m125 (o + 31) v1 (q142 &&& t125_0)).bind fun q147 =>
  mm_lt (kI q147 (o + 4) 5 ((q147.1 o 2) + (1 : Int32))) fun m160 =>
  (f_Tokens_step z m160 (o + 1)).bind fun q167 =>
  some ((1 : Int32), q167)
noncomputable def f_Reader_rollLine_J78 (z : Nat → Nat) (o : Nat) (v1 : Int32) (v2 : Int32) (m78 : Mm) : Option (Int32 × Mm) :=
  (f_Tokens_step z m78 (o + 1)).bind fun q82 =>
  (f_Reader_isOneOf z q82 o (o + 6)).bind fun q96 =>
  if q96.1 = 0 then (
    some ((0 : Int32), q96.2)
  ) else (
    if v2 = 0 then (
      f_Reader_rollLine_J125 z o v1 (((1 : Int32) <<< ((q96.2.1 o 5) &&& 31)) ^^^ ((-1) : Int32)) q96.2
    ) else (
      f_Reader_rollLine_J125 z o v1 ((1 : Int32) <<< ((q96.2.1 o 5) &&& 31)) q96.2
    )
  )
noncomputable def f_Reader_rollLine (z : Nat → Nat) (σ : Mm) (o : Nat) : Option (Int32 × Mm) :=
  (f_Reader_isOneOf z σ o (o + 8)).bind fun q11 =>
  if q11.1 = 0 then (
    some ((0 : Int32), q11.2)
  ) else (
    if (q11.2.1 o 2) < (30 : Int32) then (
      mm_lt ((q11.2.1 o 5)) fun x38 =>
      (f_Tokens_step z q11.2 (o + 1)).bind fun q43 =>
      (f_Tokens_isWord z q43 (o + 1) (10 : Int32)).bind fun q52 =>
      if q52 = 0 then (
        (f_Tokens_isWord z q43 (o + 1) (11 : Int32)).bind fun q66 =>
        if q66 = 0 then (
          (f_Reader_fail z q43 o (1 : Int32)).bind fun q74 =>
          (mm_zb q74.1).bind fun y77 =>
          some (y77, q74.2)
        ) else (
          f_Reader_rollLine_J78 z o x38 q52 q43
        )
      ) else (
        f_Reader_rollLine_J78 z o x38 q52 q43
      )
    ) else (
      (f_Reader_fail z q11.2 o (4 : Int32)).bind fun q30 =>
      (mm_zb q30.1).bind fun y33 =>
      some (y33, q30.2)
    )
  )
set_option maxHeartbeats 4000000 in
set_option maxRecDepth 100000 in
theorem c_Reader_rollLine (l : Launch) {L : Ly} (hg : gd_ok L) {σ : Mm} {o : Nat} (k_o_0 : ly_k L o = 9) {res : Int32 × Mm} (hf0 : f_Reader_rollLine (ly_z L) σ o = some res) : CtI l y_Reader_rollLine b_Reader_rollLine 4 (some .boolean) rm_Reader_rollLine L [.ref (ly_a L o)] σ res.1 res.2 := by
  refine ct_z hg (by decide) (Nat.le_of_ble_eq_true rfl) ?_
  intro E A Q hE C hN
  subst hE
  have k_o_4 : ly_k L (o + 4) = 4 := gd_Reader_draft hg k_o_0
  have k_o_31 : ly_k L (o + 31) = 0 := gd_State_fits hg k_o_4
  have k_o_1 : ly_k L (o + 1) = 8 := gd_Reader_tokens hg k_o_0
  have k_o_5 : ly_k L (o + 5) = 2 := gd_State_island hg k_o_4
  have k_o_6 : ly_k L (o + 6) = 1 := gd_Island_surnames hg k_o_5
  have k_o_8 : ly_k L (o + 8) = 1 := gd_Island_houses hg k_o_5
  unfold f_Reader_rollLine at hf0
  show GW E L A 4 0 0 Q σ 0 [(0, .ref (ly_a L o))] []
  have hj125 : ∀ (v1 : Int32) (t125_0 : Int32) (m125 : Mm), f_Reader_rollLine_J125 (ly_z L) o v1 t125_0 m125 = some res → GW E L A 4 0 0 Q m125 125 [(0, .ref (ly_a L o)), (1, .int v1)] [.int t125_0] := by
    intro v1 t125_0 m125 hf0
    unfold f_Reader_rollLine_J125 at hf0
    refine gw_istore_n C [(3, .int t125_0), (0, .ref (ly_a L o)), (1, .int v1)] d_Reader_rollLine_125 rfl (by decide) rfl ?_
    refine gw_aload_n C 1 d_Reader_rollLine_126 rfl rfl ?_
    refine gw_getA C 1 d_Reader_rollLine_127 k_o_0 (by decide) i_Reader rfl rfl (by decide) qw_289 rfl rfl (o + 4) rfl ?_
    refine gw_getAN C 6 d_Reader_rollLine_130 k_o_4 (by decide) i_State rfl rfl (by decide) qw_250 rfl rfl (o + 31) rfl ?_
    refine gw_iload_n C 2 d_Reader_rollLine_133 rfl rfl ?_
    refine gw_aload_n C 1 d_Reader_rollLine_134 rfl rfl ?_
    refine gw_getA C 1 d_Reader_rollLine_135 k_o_0 (by decide) i_Reader rfl rfl (by decide) qw_289 rfl rfl (o + 4) rfl ?_
    refine gw_getAN C 6 d_Reader_rollLine_138 k_o_4 (by decide) i_State rfl rfl (by decide) qw_250 rfl rfl (o + 31) rfl ?_
    refine gw_iload_n C 2 d_Reader_rollLine_141 rfl rfl ?_
    obtain ⟨q142, hq142, hf0⟩ := mx_bd hf0
    refine gw_callI C (c_Row_at _ hg k_o_31 hq142) d_Reader_rollLine_142 1 qw_652 qw_489 qw_490 qw_4 qw_491 k_o_31 (by decide) rfl hd_Row_at rfl rfl (Nat.le_of_ble_eq_true rfl) ⟨rfl, rfl, Nat.le_of_ble_eq_true rfl, Nat.le_of_ble_eq_true rfl⟩ ⟨Nat.zero_le _, Nat.zero_le _⟩ ?_
    refine gw_iload_n C 0 d_Reader_rollLine_145 rfl rfl ?_
    refine gw_iand C d_Reader_rollLine_146 ?_
    obtain ⟨q147, hq147, hf0⟩ := mx_bd hf0
    refine gw_callV C (c_Row_put _ hg k_o_31 hq147) d_Reader_rollLine_147 2 qw_592 qw_461 qw_462 qw_4 qw_463 k_o_31 (by decide) rfl hd_Row_put rfl rfl (Nat.le_of_ble_eq_true rfl) ⟨rfl, rfl, Nat.le_of_ble_eq_true rfl, Nat.le_of_ble_eq_true rfl⟩ ⟨Nat.zero_le _, Nat.zero_le _⟩ ?_
    refine gw_aload_n C 1 d_Reader_rollLine_150 rfl rfl ?_
    refine gw_getA C 1 d_Reader_rollLine_151 k_o_0 (by decide) i_Reader rfl rfl (by decide) qw_289 rfl rfl (o + 4) rfl ?_
    refine gw_aload_n C 1 d_Reader_rollLine_154 rfl rfl ?_
    refine gw_getI C 2 d_Reader_rollLine_155 k_o_0 (by decide) i_Reader rfl rfl (by decide) qw_291 rfl rfl ?_
    refine gw_iconst C (1 : Int32) d_Reader_rollLine_158 (by decide) ?_
    refine gw_iadd C d_Reader_rollLine_159 ?_
    obtain ⟨m160, em160, hf0⟩ := mx_lt hf0
    refine gw_putIN t_State C 5 d_Reader_rollLine_160 k_o_4 (by decide) i_State rfl rfl (by decide) qw_246 rfl rfl t_State_ok n_State rfl (t_State_ok 5 (by decide)) rfl rfl em160 ?_
    refine gw_aload_n C 1 d_Reader_rollLine_163 rfl rfl ?_
    refine gw_getA C 0 d_Reader_rollLine_164 k_o_0 (by decide) i_Reader rfl rfl (by decide) qw_287 rfl rfl (o + 1) rfl ?_
    obtain ⟨q167, hq167, hf0⟩ := mx_bd hf0
    refine gw_callV C (c_Tokens_step _ hg k_o_1 hq167) d_Reader_rollLine_167 0 qw_481 qw_482 qw_483 qw_3 qw_484 k_o_1 (by decide) rfl hd_Tokens_step rfl rfl (Nat.le_of_ble_eq_true rfl) ⟨rfl, rfl, Nat.le_of_ble_eq_true rfl, Nat.le_of_ble_eq_true rfl⟩ ⟨Nat.zero_le _, Nat.zero_le _⟩ ?_
    refine gw_iconst C (1 : Int32) d_Reader_rollLine_170 (by decide) ?_
    exact en_z hN (Or.inr rfl) hf0 d_Reader_rollLine_171
  have hj78 : ∀ (v1 : Int32) (v2 : Int32) (m78 : Mm), f_Reader_rollLine_J78 (ly_z L) o v1 v2 m78 = some res → GW E L A 4 0 0 Q m78 78 [(0, .ref (ly_a L o)), (1, .int v1), (2, .int v2)] [] := by
    intro v1 v2 m78 hf0
    unfold f_Reader_rollLine_J78 at hf0
    refine gw_aload_n C 0 d_Reader_rollLine_78 rfl rfl ?_
    refine gw_getA C 0 d_Reader_rollLine_79 k_o_0 (by decide) i_Reader rfl rfl (by decide) qw_287 rfl rfl (o + 1) rfl ?_
    obtain ⟨q82, hq82, hf0⟩ := mx_bd hf0
    refine gw_callV C (c_Tokens_step _ hg k_o_1 hq82) d_Reader_rollLine_82 0 qw_481 qw_482 qw_483 qw_3 qw_484 k_o_1 (by decide) rfl hd_Tokens_step rfl rfl (Nat.le_of_ble_eq_true rfl) ⟨rfl, rfl, Nat.le_of_ble_eq_true rfl, Nat.le_of_ble_eq_true rfl⟩ ⟨Nat.zero_le _, Nat.zero_le _⟩ ?_
    refine gw_aload_n C 0 d_Reader_rollLine_85 rfl rfl ?_
    refine gw_aload_n C 0 d_Reader_rollLine_86 rfl rfl ?_
    refine gw_getA C 1 d_Reader_rollLine_87 k_o_0 (by decide) i_Reader rfl rfl (by decide) qw_289 rfl rfl (o + 4) rfl ?_
    refine gw_getAN C 0 d_Reader_rollLine_90 k_o_4 (by decide) i_State rfl rfl (by decide) qw_236 rfl rfl (o + 5) rfl ?_
    refine gw_getAN C 0 d_Reader_rollLine_93 k_o_5 (by decide) i_Island rfl rfl (by decide) qw_127 rfl rfl (o + 6) rfl ?_
    obtain ⟨q96, hq96, hf0⟩ := mx_bd hf0
    refine gw_callI C (c_Reader_isOneOf _ hg k_o_0 k_o_6 hq96) d_Reader_rollLine_96 1 qw_601 qw_603 qs_9 qw_2 qw_604 k_o_0 (by decide) rfl hd_Reader_isOneOf rfl rfl (Nat.le_of_ble_eq_true rfl) ⟨rfl, rfl, Nat.le_of_ble_eq_true rfl, Nat.le_of_ble_eq_true rfl⟩ ⟨Nat.zero_le _, Nat.zero_le _⟩ ?_
    refine gw_if_ne C 104 d_Reader_rollLine_99 (by decide) (fun hc => ?_) (fun hc => ?_)
    · replace hf0 := mx_f hc hf0
      refine gw_iload_n C 2 d_Reader_rollLine_104 rfl rfl ?_
      refine gw_if_eq C 117 d_Reader_rollLine_105 (by decide) (fun hc => ?_) (fun hc => ?_)
      · replace hf0 := mx_t hc hf0
        refine gw_iconst C (1 : Int32) d_Reader_rollLine_117 (by decide) ?_
        refine gw_aload_n C 0 d_Reader_rollLine_118 rfl rfl ?_
        refine gw_getI C 5 d_Reader_rollLine_119 k_o_0 (by decide) i_Reader rfl rfl (by decide) qw_297 rfl rfl ?_
        refine gw_ishl C d_Reader_rollLine_122 ?_
        refine gw_iconst C ((-1) : Int32) d_Reader_rollLine_123 (by decide) ?_
        refine gw_ixor C d_Reader_rollLine_124 ?_
        exact gw_go [0, 1] (hj125 _ _ _ hf0) rfl
      · replace hf0 := mx_f hc hf0
        refine gw_iconst C (1 : Int32) d_Reader_rollLine_108 (by decide) ?_
        refine gw_aload_n C 0 d_Reader_rollLine_109 rfl rfl ?_
        refine gw_getI C 5 d_Reader_rollLine_110 k_o_0 (by decide) i_Reader rfl rfl (by decide) qw_297 rfl rfl ?_
        refine gw_ishl C d_Reader_rollLine_113 ?_
        refine gw_goto C 125 d_Reader_rollLine_114 (by decide) ?_
        exact gw_go [0, 1] (hj125 _ _ _ hf0) rfl
    · replace hf0 := mx_t hc hf0
      refine gw_iconst C (0 : Int32) d_Reader_rollLine_102 (by decide) ?_
      exact en_z hN (Or.inl rfl) hf0 d_Reader_rollLine_103
  refine gw_aload_n C 0 d_Reader_rollLine_0 rfl rfl ?_
  refine gw_aload_n C 0 d_Reader_rollLine_1 rfl rfl ?_
  refine gw_getA C 1 d_Reader_rollLine_2 k_o_0 (by decide) i_Reader rfl rfl (by decide) qw_289 rfl rfl (o + 4) rfl ?_
  refine gw_getAN C 0 d_Reader_rollLine_5 k_o_4 (by decide) i_State rfl rfl (by decide) qw_236 rfl rfl (o + 5) rfl ?_
  refine gw_getAN C 1 d_Reader_rollLine_8 k_o_5 (by decide) i_Island rfl rfl (by decide) qw_135 rfl rfl (o + 8) rfl ?_
  obtain ⟨q11, hq11, hf0⟩ := mx_bd hf0
  refine gw_callI C (c_Reader_isOneOf _ hg k_o_0 k_o_8 hq11) d_Reader_rollLine_11 1 qw_601 qw_603 qs_9 qw_2 qw_604 k_o_0 (by decide) rfl hd_Reader_isOneOf rfl rfl (Nat.le_of_ble_eq_true rfl) ⟨rfl, rfl, Nat.le_of_ble_eq_true rfl, Nat.le_of_ble_eq_true rfl⟩ ⟨Nat.zero_le _, Nat.zero_le _⟩ ?_
  refine gw_if_ne C 19 d_Reader_rollLine_14 (by decide) (fun hc => ?_) (fun hc => ?_)
  · replace hf0 := mx_f hc hf0
    refine gw_aload_n C 0 d_Reader_rollLine_19 rfl rfl ?_
    refine gw_getI C 2 d_Reader_rollLine_20 k_o_0 (by decide) i_Reader rfl rfl (by decide) qw_291 rfl rfl ?_
    refine gw_bipush C (30 : Int32) d_Reader_rollLine_23 (by decide) ?_
    refine gw_icmp_lt C 34 d_Reader_rollLine_25 (by decide) (fun hc => ?_) (fun hc => ?_)
    · replace hf0 := mx_t hc hf0
      refine gw_aload_n C 0 d_Reader_rollLine_34 rfl rfl ?_
      refine gw_getI C 5 d_Reader_rollLine_35 k_o_0 (by decide) i_Reader rfl rfl (by decide) qw_297 rfl rfl ?_
      obtain ⟨x38, ex38, hf0⟩ := mx_lt hf0
      refine gw_topi ex38 ?_
      refine gw_istore_n C [(1, .int x38), (0, .ref (ly_a L o))] d_Reader_rollLine_38 rfl (by decide) rfl ?_
      refine gw_aload_n C 1 d_Reader_rollLine_39 rfl rfl ?_
      refine gw_getA C 0 d_Reader_rollLine_40 k_o_0 (by decide) i_Reader rfl rfl (by decide) qw_287 rfl rfl (o + 1) rfl ?_
      obtain ⟨q43, hq43, hf0⟩ := mx_bd hf0
      refine gw_callV C (c_Tokens_step _ hg k_o_1 hq43) d_Reader_rollLine_43 0 qw_481 qw_482 qw_483 qw_3 qw_484 k_o_1 (by decide) rfl hd_Tokens_step rfl rfl (Nat.le_of_ble_eq_true rfl) ⟨rfl, rfl, Nat.le_of_ble_eq_true rfl, Nat.le_of_ble_eq_true rfl⟩ ⟨Nat.zero_le _, Nat.zero_le _⟩ ?_
      refine gw_aload_n C 1 d_Reader_rollLine_46 rfl rfl ?_
      refine gw_getA C 0 d_Reader_rollLine_47 k_o_0 (by decide) i_Reader rfl rfl (by decide) qw_287 rfl rfl (o + 1) rfl ?_
      refine gw_bipush C (10 : Int32) d_Reader_rollLine_50 (by decide) ?_
      obtain ⟨q52, hq52, hf0⟩ := mx_bd hf0
      refine gw_callI C (c_Tokens_isWord _ hg k_o_1 hq52) d_Reader_rollLine_52 1 qw_593 qw_594 qw_595 qw_3 qw_596 k_o_1 (by decide) rfl hd_Tokens_isWord rfl rfl (Nat.le_of_ble_eq_true rfl) ⟨rfl, rfl, Nat.le_of_ble_eq_true rfl, Nat.le_of_ble_eq_true rfl⟩ ⟨Nat.zero_le _, Nat.zero_le _⟩ ?_
      refine gw_istore_n C [(2, .int q52), (1, .int x38), (0, .ref (ly_a L o))] d_Reader_rollLine_55 rfl (by decide) rfl ?_
      refine gw_iload_n C 0 d_Reader_rollLine_56 rfl rfl ?_
      refine gw_if_ne C 78 d_Reader_rollLine_57 (by decide) (fun hc => ?_) (fun hc => ?_)
      · replace hf0 := mx_f hc hf0
        exact gw_go [2, 1, 0] (hj78 _ _ _ hf0) rfl
      · replace hf0 := mx_t hc hf0
        refine gw_aload_n C 2 d_Reader_rollLine_60 rfl rfl ?_
        refine gw_getA C 0 d_Reader_rollLine_61 k_o_0 (by decide) i_Reader rfl rfl (by decide) qw_287 rfl rfl (o + 1) rfl ?_
        refine gw_bipush C (11 : Int32) d_Reader_rollLine_64 (by decide) ?_
        obtain ⟨q66, hq66, hf0⟩ := mx_bd hf0
        refine gw_callI C (c_Tokens_isWord _ hg k_o_1 hq66) d_Reader_rollLine_66 1 qw_593 qw_594 qw_595 qw_3 qw_596 k_o_1 (by decide) rfl hd_Tokens_isWord rfl rfl (Nat.le_of_ble_eq_true rfl) ⟨rfl, rfl, Nat.le_of_ble_eq_true rfl, Nat.le_of_ble_eq_true rfl⟩ ⟨Nat.zero_le _, Nat.zero_le _⟩ ?_
        refine gw_if_ne C 78 d_Reader_rollLine_69 (by decide) (fun hc => ?_) (fun hc => ?_)
        · replace hf0 := mx_f hc hf0
          exact gw_go [2, 1, 0] (hj78 _ _ _ hf0) rfl
        · replace hf0 := mx_t hc hf0
          refine gw_aload_n C 2 d_Reader_rollLine_72 rfl rfl ?_
          refine gw_iconst C (1 : Int32) d_Reader_rollLine_73 (by decide) ?_
          obtain ⟨q74, hq74, hf0⟩ := mx_bd hf0
          refine gw_callI C (c_Reader_fail _ hg k_o_0 hq74) d_Reader_rollLine_74 1 qw_568 qw_570 qs_4 qw_2 qw_571 k_o_0 (by decide) rfl hd_Reader_fail rfl rfl (Nat.le_of_ble_eq_true rfl) ⟨rfl, rfl, Nat.le_of_ble_eq_true rfl, Nat.le_of_ble_eq_true rfl⟩ ⟨Nat.zero_le _, Nat.zero_le _⟩ ?_
          obtain ⟨y77, hy77, hf0⟩ := mx_bd hf0
          obtain ⟨zy77, ey77⟩ := mx_zb hy77
          refine gw_topi ey77 ?_
          exact en_z hN zy77 hf0 d_Reader_rollLine_77
    · replace hf0 := mx_f hc hf0
      refine gw_aload_n C 0 d_Reader_rollLine_28 rfl rfl ?_
      refine gw_iconst C (4 : Int32) d_Reader_rollLine_29 (by decide) ?_
      obtain ⟨q30, hq30, hf0⟩ := mx_bd hf0
      refine gw_callI C (c_Reader_fail _ hg k_o_0 hq30) d_Reader_rollLine_30 1 qw_568 qw_570 qs_4 qw_2 qw_571 k_o_0 (by decide) rfl hd_Reader_fail rfl rfl (Nat.le_of_ble_eq_true rfl) ⟨rfl, rfl, Nat.le_of_ble_eq_true rfl, Nat.le_of_ble_eq_true rfl⟩ ⟨Nat.zero_le _, Nat.zero_le _⟩ ?_
      obtain ⟨y33, hy33, hf0⟩ := mx_bd hf0
      obtain ⟨zy33, ey33⟩ := mx_zb hy33
      refine gw_topi ey33 ?_
      exact en_z hN zy33 hf0 d_Reader_rollLine_33
  · replace hf0 := mx_t hc hf0
    refine gw_iconst C (0 : Int32) d_Reader_rollLine_17 (by decide) ?_
    exact en_z hN (Or.inl rfl) hf0 d_Reader_rollLine_18

/-! NameHat.Reader.bookLine()Z -/
abbrev b_Reader_bookLine : ByteArray := prog_6_method_18_code
def y_Reader_bookLine : MethodName := ⟨"NameHat$Reader", "bookLine", "()Z"⟩
abbrev rm_Reader_bookLine : Room := { frames := 9, cells := 0, slots := 0, locals := 468 }
theorem hd_Reader_bookLine : y_Reader_bookLine.cls ≠ "java/lang/invoke/MethodHandle" ∧ y_Reader_bookLine.cls ≠ "java/lang/invoke/VarHandle" ∧ (parseMethodDescriptor y_Reader_bookLine.desc).map (fun d => d.parameters.length) = some 0 := by decide +kernel
theorem d_Reader_bookLine_0 : decode b_Reader_bookLine 0 = .ok (.aload_n 0, 1) := by decide +kernel
theorem d_Reader_bookLine_1 : decode b_Reader_bookLine 1 = .ok (.getfield 12, 3) := by decide +kernel
theorem d_Reader_bookLine_4 : decode b_Reader_bookLine 4 = .ok (.getfield 78, 3) := by decide +kernel
theorem d_Reader_bookLine_7 : decode b_Reader_bookLine 7 = .ok (.istore_n 1, 1) := by decide +kernel
theorem d_Reader_bookLine_8 : decode b_Reader_bookLine 8 = .ok (.iload_n 1, 1) := by decide +kernel
theorem d_Reader_bookLine_9 : decode b_Reader_bookLine 9 = .ok (.bipush 8, 2) := by decide +kernel
theorem d_Reader_bookLine_11 : decode b_Reader_bookLine 11 = .ok (.if_icmp .eq 21, 3) := by decide +kernel
theorem d_Reader_bookLine_14 : decode b_Reader_bookLine 14 = .ok (.iload_n 1, 1) := by decide +kernel
theorem d_Reader_bookLine_15 : decode b_Reader_bookLine 15 = .ok (.bipush 12, 2) := by decide +kernel
theorem d_Reader_bookLine_17 : decode b_Reader_bookLine 17 = .ok (.if_icmp .lt 9, 3) := by decide +kernel
theorem d_Reader_bookLine_20 : decode b_Reader_bookLine 20 = .ok (.iload_n 1, 1) := by decide +kernel
theorem d_Reader_bookLine_21 : decode b_Reader_bookLine 21 = .ok (.bipush 16, 2) := by decide +kernel
theorem d_Reader_bookLine_23 : decode b_Reader_bookLine 23 = .ok (.if_icmp .le 9, 3) := by decide +kernel
theorem d_Reader_bookLine_26 : decode b_Reader_bookLine 26 = .ok (.aload_n 0, 1) := by decide +kernel
theorem d_Reader_bookLine_27 : decode b_Reader_bookLine 27 = .ok (.iconst 1, 1) := by decide +kernel
theorem d_Reader_bookLine_28 : decode b_Reader_bookLine 28 = .ok (.invokevirtual 71, 3) := by decide +kernel
theorem d_Reader_bookLine_31 : decode b_Reader_bookLine 31 = .ok (.ireturn, 1) := by decide +kernel
theorem d_Reader_bookLine_32 : decode b_Reader_bookLine 32 = .ok (.aload_n 0, 1) := by decide +kernel
theorem d_Reader_bookLine_33 : decode b_Reader_bookLine 33 = .ok (.getfield 29, 3) := by decide +kernel
theorem d_Reader_bookLine_36 : decode b_Reader_bookLine 36 = .ok (.bipush 30, 2) := by decide +kernel
theorem d_Reader_bookLine_38 : decode b_Reader_bookLine 38 = .ok (.if_icmp .lt 9, 3) := by decide +kernel
theorem d_Reader_bookLine_41 : decode b_Reader_bookLine 41 = .ok (.aload_n 0, 1) := by decide +kernel
theorem d_Reader_bookLine_42 : decode b_Reader_bookLine 42 = .ok (.iconst 4, 1) := by decide +kernel
theorem d_Reader_bookLine_43 : decode b_Reader_bookLine 43 = .ok (.invokevirtual 71, 3) := by decide +kernel
theorem d_Reader_bookLine_46 : decode b_Reader_bookLine 46 = .ok (.ireturn, 1) := by decide +kernel
theorem d_Reader_bookLine_47 : decode b_Reader_bookLine 47 = .ok (.aload_n 0, 1) := by decide +kernel
theorem d_Reader_bookLine_48 : decode b_Reader_bookLine 48 = .ok (.getfield 12, 3) := by decide +kernel
theorem d_Reader_bookLine_51 : decode b_Reader_bookLine 51 = .ok (.invokevirtual 46, 3) := by decide +kernel
theorem d_Reader_bookLine_54 : decode b_Reader_bookLine 54 = .ok (.iload_n 1, 1) := by decide +kernel
theorem d_Reader_bookLine_55 : decode b_Reader_bookLine 55 = .ok (.bipush 16, 2) := by decide +kernel
theorem d_Reader_bookLine_57 : decode b_Reader_bookLine 57 = .ok (.if_icmp .eq 47, 3) := by decide +kernel
theorem d_Reader_bookLine_60 : decode b_Reader_bookLine 60 = .ok (.aload_n 0, 1) := by decide +kernel
theorem d_Reader_bookLine_61 : decode b_Reader_bookLine 61 = .ok (.aload_n 0, 1) := by decide +kernel
theorem d_Reader_bookLine_62 : decode b_Reader_bookLine 62 = .ok (.getfield 21, 3) := by decide +kernel
theorem d_Reader_bookLine_65 : decode b_Reader_bookLine 65 = .ok (.getfield 84, 3) := by decide +kernel
theorem d_Reader_bookLine_68 : decode b_Reader_bookLine 68 = .ok (.getfield 104, 3) := by decide +kernel
theorem d_Reader_bookLine_71 : decode b_Reader_bookLine 71 = .ok (.invokevirtual 161, 3) := by decide +kernel
theorem d_Reader_bookLine_74 : decode b_Reader_bookLine 74 = .ok (.ifCond .ne 5, 3) := by decide +kernel
theorem d_Reader_bookLine_77 : decode b_Reader_bookLine 77 = .ok (.iconst 0, 1) := by decide +kernel
theorem d_Reader_bookLine_78 : decode b_Reader_bookLine 78 = .ok (.ireturn, 1) := by decide +kernel
theorem d_Reader_bookLine_79 : decode b_Reader_bookLine 79 = .ok (.aload_n 0, 1) := by decide +kernel
theorem d_Reader_bookLine_80 : decode b_Reader_bookLine 80 = .ok (.getfield 21, 3) := by decide +kernel
theorem d_Reader_bookLine_83 : decode b_Reader_bookLine 83 = .ok (.getfield 213, 3) := by decide +kernel
theorem d_Reader_bookLine_86 : decode b_Reader_bookLine 86 = .ok (.aload_n 0, 1) := by decide +kernel
theorem d_Reader_bookLine_87 : decode b_Reader_bookLine 87 = .ok (.getfield 29, 3) := by decide +kernel
theorem d_Reader_bookLine_90 : decode b_Reader_bookLine 90 = .ok (.aload_n 0, 1) := by decide +kernel
theorem d_Reader_bookLine_91 : decode b_Reader_bookLine 91 = .ok (.getfield 107, 3) := by decide +kernel
theorem d_Reader_bookLine_94 : decode b_Reader_bookLine 94 = .ok (.invokevirtual 148, 3) := by decide +kernel
theorem d_Reader_bookLine_97 : decode b_Reader_bookLine 97 = .ok (.aload_n 0, 1) := by decide +kernel
theorem d_Reader_bookLine_98 : decode b_Reader_bookLine 98 = .ok (.getfield 12, 3) := by decide +kernel
theorem d_Reader_bookLine_101 : decode b_Reader_bookLine 101 = .ok (.invokevirtual 46, 3) := by decide +kernel
theorem d_Reader_bookLine_104 : decode b_Reader_bookLine 104 = .ok (.iload_n 1, 1) := by decide +kernel
theorem d_Reader_bookLine_105 : decode b_Reader_bookLine 105 = .ok (.bipush 16, 2) := by decide +kernel
theorem d_Reader_bookLine_107 : decode b_Reader_bookLine 107 = .ok (.if_icmp .eq 60, 3) := by decide +kernel
theorem d_Reader_bookLine_110 : decode b_Reader_bookLine 110 = .ok (.iload_n 1, 1) := by decide +kernel
theorem d_Reader_bookLine_111 : decode b_Reader_bookLine 111 = .ok (.bipush 14, 2) := by decide +kernel
theorem d_Reader_bookLine_113 : decode b_Reader_bookLine 113 = .ok (.if_icmp .eq 54, 3) := by decide +kernel
theorem d_Reader_bookLine_116 : decode b_Reader_bookLine 116 = .ok (.aload_n 0, 1) := by decide +kernel
theorem d_Reader_bookLine_117 : decode b_Reader_bookLine 117 = .ok (.iload_n 1, 1) := by decide +kernel
theorem d_Reader_bookLine_118 : decode b_Reader_bookLine 118 = .ok (.invokevirtual 216, 3) := by decide +kernel
theorem d_Reader_bookLine_121 : decode b_Reader_bookLine 121 = .ok (.ifCond .ne 5, 3) := by decide +kernel
theorem d_Reader_bookLine_124 : decode b_Reader_bookLine 124 = .ok (.iconst 0, 1) := by decide +kernel
theorem d_Reader_bookLine_125 : decode b_Reader_bookLine 125 = .ok (.ireturn, 1) := by decide +kernel
theorem d_Reader_bookLine_126 : decode b_Reader_bookLine 126 = .ok (.aload_n 0, 1) := by decide +kernel
theorem d_Reader_bookLine_127 : decode b_Reader_bookLine 127 = .ok (.getfield 21, 3) := by decide +kernel
theorem d_Reader_bookLine_130 : decode b_Reader_bookLine 130 = .ok (.getfield 219, 3) := by decide +kernel
theorem d_Reader_bookLine_133 : decode b_Reader_bookLine 133 = .ok (.aload_n 0, 1) := by decide +kernel
theorem d_Reader_bookLine_134 : decode b_Reader_bookLine 134 = .ok (.getfield 29, 3) := by decide +kernel
theorem d_Reader_bookLine_137 : decode b_Reader_bookLine 137 = .ok (.iload_n 1, 1) := by decide +kernel
theorem d_Reader_bookLine_138 : decode b_Reader_bookLine 138 = .ok (.bipush 8, 2) := by decide +kernel
theorem d_Reader_bookLine_140 : decode b_Reader_bookLine 140 = .ok (.if_icmp .ne 13, 3) := by decide +kernel
theorem d_Reader_bookLine_143 : decode b_Reader_bookLine 143 = .ok (.aload_n 0, 1) := by decide +kernel
theorem d_Reader_bookLine_144 : decode b_Reader_bookLine 144 = .ok (.getfield 12, 3) := by decide +kernel
theorem d_Reader_bookLine_147 : decode b_Reader_bookLine 147 = .ok (.getfield 75, 3) := by decide +kernel
theorem d_Reader_bookLine_150 : decode b_Reader_bookLine 150 = .ok (.goto 7, 3) := by decide +kernel
theorem d_Reader_bookLine_153 : decode b_Reader_bookLine 153 = .ok (.aload_n 0, 1) := by decide +kernel
theorem d_Reader_bookLine_154 : decode b_Reader_bookLine 154 = .ok (.getfield 107, 3) := by decide +kernel
theorem d_Reader_bookLine_157 : decode b_Reader_bookLine 157 = .ok (.invokevirtual 148, 3) := by decide +kernel
theorem d_Reader_bookLine_160 : decode b_Reader_bookLine 160 = .ok (.aload_n 0, 1) := by decide +kernel
theorem d_Reader_bookLine_161 : decode b_Reader_bookLine 161 = .ok (.getfield 12, 3) := by decide +kernel
theorem d_Reader_bookLine_164 : decode b_Reader_bookLine 164 = .ok (.invokevirtual 46, 3) := by decide +kernel
theorem d_Reader_bookLine_167 : decode b_Reader_bookLine 167 = .ok (.aload_n 0, 1) := by decide +kernel
theorem d_Reader_bookLine_168 : decode b_Reader_bookLine 168 = .ok (.getfield 21, 3) := by decide +kernel
theorem d_Reader_bookLine_171 : decode b_Reader_bookLine 171 = .ok (.getfield 222, 3) := by decide +kernel
theorem d_Reader_bookLine_174 : decode b_Reader_bookLine 174 = .ok (.aload_n 0, 1) := by decide +kernel
theorem d_Reader_bookLine_175 : decode b_Reader_bookLine 175 = .ok (.getfield 29, 3) := by decide +kernel
theorem d_Reader_bookLine_178 : decode b_Reader_bookLine 178 = .ok (.iload_n 1, 1) := by decide +kernel
theorem d_Reader_bookLine_179 : decode b_Reader_bookLine 179 = .ok (.invokevirtual 148, 3) := by decide +kernel
theorem d_Reader_bookLine_182 : decode b_Reader_bookLine 182 = .ok (.aload_n 0, 1) := by decide +kernel
theorem d_Reader_bookLine_183 : decode b_Reader_bookLine 183 = .ok (.getfield 21, 3) := by decide +kernel
theorem d_Reader_bookLine_186 : decode b_Reader_bookLine 186 = .ok (.aload_n 0, 1) := by decide +kernel
theorem d_Reader_bookLine_187 : decode b_Reader_bookLine 187 = .ok (.getfield 29, 3) := by decide +kernel
theorem d_Reader_bookLine_190 : decode b_Reader_bookLine 190 = .ok (.iconst 1, 1) := by decide +kernel
theorem d_Reader_bookLine_191 : decode b_Reader_bookLine 191 = .ok (.iadd, 1) := by decide +kernel
theorem d_Reader_bookLine_192 : decode b_Reader_bookLine 192 = .ok (.putfield 225, 3) := by decide +kernel
theorem d_Reader_bookLine_195 : decode b_Reader_bookLine 195 = .ok (.iconst 1, 1) := by decide +kernel
theorem d_Reader_bookLine_196 : decode b_Reader_bookLine 196 = .ok (.ireturn, 1) := by decide +kernel
noncomputable def f_Reader_bookLine_J167 (z : Nat → Nat) (o : Nat) (v1 : Int32) (m167 : Mm) : Option (Int32 × Mm) :=
  (f_Row_put z m167 (o + 33) (m167.1 o 2) v1).bind fun q179 =>
  mm_lt (kI q179 (o + 4) 7 ((q179.1 o 2) + (1 : Int32))) fun m192 =>
  some ((1 : Int32), m192)
noncomputable def f_Reader_bookLine_J157 (z : Nat → Nat) (o : Nat) (v1 : Int32) (t157_1 : Int32) (t157_2 : Int32) (m157 : Mm) : Option (Int32 × Mm) :=
  (f_Row_put z m157 (o + 37) t157_1 t157_2).bind fun q157 =>
  (f_Tokens_step z q157 (o + 1)).bind fun q164 =>
  f_Reader_bookLine_J167 z o v1 q164
noncomputable def f_Reader_bookLine_J104 (z : Nat → Nat) (o : Nat) (v1 : Int32) (m104 : Mm) : Option (Int32 × Mm) :=
  if v1 = (16 : Int32) then (
    f_Reader_bookLine_J167 z o v1 m104
  ) else (
    if v1 = (14 : Int32) then (
      f_Reader_bookLine_J167 z o v1 m104
    ) else (
      (f_Reader_isSecond z m104 o v1).bind fun q118 =>
      if q118.1 = 0 then (
        some ((0 : Int32), q118.2)
      ) else (
        if v1 = (8 : Int32) then (
          f_Reader_bookLine_J157 z o v1 (q118.2.1 o 2) (q118.2.1 (o + 1) 6) q118.2
        ) else (
          f_Reader_bookLine_J157 z o v1 (q118.2.1 o 2) (q118.2.1 o 5) q118.2
        )
      )
    )
  )
noncomputable def f_Reader_bookLine_J32 (z : Nat → Nat) (o : Nat) (v1 : Int32) (m32 : Mm) : Option (Int32 × Mm) :=
  if (m32.1 o 2) < (30 : Int32) then (
    (f_Tokens_step z m32 (o + 1)).bind fun q51 =>
    if v1 = (16 : Int32) then (
      f_Reader_bookLine_J104 z o v1 q51
    ) else (
      (f_Reader_isOneOf z q51 o (o + 8)).bind fun q71 =>
      if q71.1 = 0 then (
        some ((0 : Int32), q71.2)
      ) else (
        (f_Row_put z q71.2 (o + 35) (q71.2.1 o 2) (q71.2.1 o 5)).bind fun q94 =>
        (f_Tokens_step z q94 (o + 1)).bind fun q101 =>
        f_Reader_bookLine_J104 z o v1 q101
      )
    )
  ) else (
    (f_Reader_fail z m32 o (4 : Int32)).bind fun q43 =>
    (mm_zb q43.1).bind fun y46 =>
    some (y46, q43.2)
  )
noncomputable def f_Reader_bookLine_J26 (z : Nat → Nat) (o : Nat) (m26 : Mm) : Option (Int32 × Mm) :=
  (f_Reader_fail z m26 o (1 : Int32)).bind fun q28 =>
  (mm_zb q28.1).bind fun y31 =>
  some (y31, q28.2)
noncomputable def f_Reader_bookLine (z : Nat → Nat) (σ : Mm) (o : Nat) : Option (Int32 × Mm) :=
  mm_lt ((σ.1 (o + 1) 8)) fun x7 =>
  if x7 = (8 : Int32) then (
    f_Reader_bookLine_J32 z o x7 σ
  ) else (
    if x7 < (12 : Int32) then (
      f_Reader_bookLine_J26 z o σ
    ) else (
      if x7 ≤ (16 : Int32) then (
        f_Reader_bookLine_J32 z o x7 σ
      ) else (
        f_Reader_bookLine_J26 z o σ
      )
    )
  )
set_option maxHeartbeats 4000000 in
set_option maxRecDepth 100000 in
theorem c_Reader_bookLine (l : Launch) {L : Ly} (hg : gd_ok L) {σ : Mm} {o : Nat} (k_o_0 : ly_k L o = 9) {res : Int32 × Mm} (hf0 : f_Reader_bookLine (ly_z L) σ o = some res) : CtI l y_Reader_bookLine b_Reader_bookLine 2 (some .boolean) rm_Reader_bookLine L [.ref (ly_a L o)] σ res.1 res.2 := by
  refine ct_z hg (by decide) (Nat.le_of_ble_eq_true rfl) ?_
  intro E A Q hE C hN
  subst hE
  have k_o_4 : ly_k L (o + 4) = 4 := gd_Reader_draft hg k_o_0
  have k_o_33 : ly_k L (o + 33) = 0 := gd_State_bookWords hg k_o_4
  have k_o_37 : ly_k L (o + 37) = 0 := gd_State_bookSeconds hg k_o_4
  have k_o_1 : ly_k L (o + 1) = 8 := gd_Reader_tokens hg k_o_0
  have k_o_5 : ly_k L (o + 5) = 2 := gd_State_island hg k_o_4
  have k_o_8 : ly_k L (o + 8) = 1 := gd_Island_houses hg k_o_5
  have k_o_35 : ly_k L (o + 35) = 0 := gd_State_bookFirsts hg k_o_4
  unfold f_Reader_bookLine at hf0
  show GW E L A 2 0 0 Q σ 0 [(0, .ref (ly_a L o))] []
  have hj167 : ∀ (v1 : Int32) (m167 : Mm), f_Reader_bookLine_J167 (ly_z L) o v1 m167 = some res → GW E L A 2 0 0 Q m167 167 [(0, .ref (ly_a L o)), (1, .int v1)] [] := by
    intro v1 m167 hf0
    unfold f_Reader_bookLine_J167 at hf0
    refine gw_aload_n C 0 d_Reader_bookLine_167 rfl rfl ?_
    refine gw_getA C 1 d_Reader_bookLine_168 k_o_0 (by decide) i_Reader rfl rfl (by decide) qw_289 rfl rfl (o + 4) rfl ?_
    refine gw_getAN C 8 d_Reader_bookLine_171 k_o_4 (by decide) i_State rfl rfl (by decide) qw_256 rfl rfl (o + 33) rfl ?_
    refine gw_aload_n C 0 d_Reader_bookLine_174 rfl rfl ?_
    refine gw_getI C 2 d_Reader_bookLine_175 k_o_0 (by decide) i_Reader rfl rfl (by decide) qw_291 rfl rfl ?_
    refine gw_iload_n C 1 d_Reader_bookLine_178 rfl rfl ?_
    obtain ⟨q179, hq179, hf0⟩ := mx_bd hf0
    refine gw_callV C (c_Row_put _ hg k_o_33 hq179) d_Reader_bookLine_179 2 qw_592 qw_461 qw_462 qw_4 qw_463 k_o_33 (by decide) rfl hd_Row_put rfl rfl (Nat.le_of_ble_eq_true rfl) ⟨rfl, rfl, Nat.le_of_ble_eq_true rfl, Nat.le_of_ble_eq_true rfl⟩ ⟨Nat.zero_le _, Nat.zero_le _⟩ ?_
    refine gw_aload_n C 0 d_Reader_bookLine_182 rfl rfl ?_
    refine gw_getA C 1 d_Reader_bookLine_183 k_o_0 (by decide) i_Reader rfl rfl (by decide) qw_289 rfl rfl (o + 4) rfl ?_
    refine gw_aload_n C 0 d_Reader_bookLine_186 rfl rfl ?_
    refine gw_getI C 2 d_Reader_bookLine_187 k_o_0 (by decide) i_Reader rfl rfl (by decide) qw_291 rfl rfl ?_
    refine gw_iconst C (1 : Int32) d_Reader_bookLine_190 (by decide) ?_
    refine gw_iadd C d_Reader_bookLine_191 ?_
    obtain ⟨m192, em192, hf0⟩ := mx_lt hf0
    refine gw_putIN t_State C 7 d_Reader_bookLine_192 k_o_4 (by decide) i_State rfl rfl (by decide) qw_254 rfl rfl t_State_ok n_State rfl (t_State_ok 7 (by decide)) rfl rfl em192 ?_
    refine gw_iconst C (1 : Int32) d_Reader_bookLine_195 (by decide) ?_
    exact en_z hN (Or.inr rfl) hf0 d_Reader_bookLine_196
  have hj157 : ∀ (v1 : Int32) (t157_1 : Int32) (t157_2 : Int32) (m157 : Mm), f_Reader_bookLine_J157 (ly_z L) o v1 t157_1 t157_2 m157 = some res → GW E L A 2 0 0 Q m157 157 [(0, .ref (ly_a L o)), (1, .int v1)] [.int t157_2, .int t157_1, .ref (ly_a L (o + 37))] := by
    intro v1 t157_1 t157_2 m157 hf0
    unfold f_Reader_bookLine_J157 at hf0
    obtain ⟨q157, hq157, hf0⟩ := mx_bd hf0
    refine gw_callV C (c_Row_put _ hg k_o_37 hq157) d_Reader_bookLine_157 2 qw_592 qw_461 qw_462 qw_4 qw_463 k_o_37 (by decide) rfl hd_Row_put rfl rfl (Nat.le_of_ble_eq_true rfl) ⟨rfl, rfl, Nat.le_of_ble_eq_true rfl, Nat.le_of_ble_eq_true rfl⟩ ⟨Nat.zero_le _, Nat.zero_le _⟩ ?_
    refine gw_aload_n C 0 d_Reader_bookLine_160 rfl rfl ?_
    refine gw_getA C 0 d_Reader_bookLine_161 k_o_0 (by decide) i_Reader rfl rfl (by decide) qw_287 rfl rfl (o + 1) rfl ?_
    obtain ⟨q164, hq164, hf0⟩ := mx_bd hf0
    refine gw_callV C (c_Tokens_step _ hg k_o_1 hq164) d_Reader_bookLine_164 0 qw_481 qw_482 qw_483 qw_3 qw_484 k_o_1 (by decide) rfl hd_Tokens_step rfl rfl (Nat.le_of_ble_eq_true rfl) ⟨rfl, rfl, Nat.le_of_ble_eq_true rfl, Nat.le_of_ble_eq_true rfl⟩ ⟨Nat.zero_le _, Nat.zero_le _⟩ ?_
    exact gw_go [0, 1] (hj167 _ _ hf0) rfl
  have hj104 : ∀ (v1 : Int32) (m104 : Mm), f_Reader_bookLine_J104 (ly_z L) o v1 m104 = some res → GW E L A 2 0 0 Q m104 104 [(0, .ref (ly_a L o)), (1, .int v1)] [] := by
    intro v1 m104 hf0
    unfold f_Reader_bookLine_J104 at hf0
    refine gw_iload_n C 1 d_Reader_bookLine_104 rfl rfl ?_
    refine gw_bipush C (16 : Int32) d_Reader_bookLine_105 (by decide) ?_
    refine gw_icmp_eq C 167 d_Reader_bookLine_107 (by decide) (fun hc => ?_) (fun hc => ?_)
    · replace hf0 := mx_t hc hf0
      exact gw_go [0, 1] (hj167 _ _ hf0) rfl
    · replace hf0 := mx_f hc hf0
      refine gw_iload_n C 1 d_Reader_bookLine_110 rfl rfl ?_
      refine gw_bipush C (14 : Int32) d_Reader_bookLine_111 (by decide) ?_
      refine gw_icmp_eq C 167 d_Reader_bookLine_113 (by decide) (fun hc => ?_) (fun hc => ?_)
      · replace hf0 := mx_t hc hf0
        exact gw_go [0, 1] (hj167 _ _ hf0) rfl
      · replace hf0 := mx_f hc hf0
        refine gw_aload_n C 0 d_Reader_bookLine_116 rfl rfl ?_
        refine gw_iload_n C 1 d_Reader_bookLine_117 rfl rfl ?_
        obtain ⟨q118, hq118, hf0⟩ := mx_bd hf0
        refine gw_callI C (c_Reader_isSecond _ hg k_o_0 hq118) d_Reader_bookLine_118 1 qw_657 qw_659 qs_17 qw_2 qw_660 k_o_0 (by decide) rfl hd_Reader_isSecond rfl rfl (Nat.le_of_ble_eq_true rfl) ⟨rfl, rfl, Nat.le_of_ble_eq_true rfl, Nat.le_of_ble_eq_true rfl⟩ ⟨Nat.zero_le _, Nat.zero_le _⟩ ?_
        refine gw_if_ne C 126 d_Reader_bookLine_121 (by decide) (fun hc => ?_) (fun hc => ?_)
        · replace hf0 := mx_f hc hf0
          refine gw_aload_n C 0 d_Reader_bookLine_126 rfl rfl ?_
          refine gw_getA C 1 d_Reader_bookLine_127 k_o_0 (by decide) i_Reader rfl rfl (by decide) qw_289 rfl rfl (o + 4) rfl ?_
          refine gw_getAN C 10 d_Reader_bookLine_130 k_o_4 (by decide) i_State rfl rfl (by decide) qw_262 rfl rfl (o + 37) rfl ?_
          refine gw_aload_n C 0 d_Reader_bookLine_133 rfl rfl ?_
          refine gw_getI C 2 d_Reader_bookLine_134 k_o_0 (by decide) i_Reader rfl rfl (by decide) qw_291 rfl rfl ?_
          refine gw_iload_n C 1 d_Reader_bookLine_137 rfl rfl ?_
          refine gw_bipush C (8 : Int32) d_Reader_bookLine_138 (by decide) ?_
          refine gw_icmp_ne C 153 d_Reader_bookLine_140 (by decide) (fun hc => ?_) (fun hc => ?_)
          · replace hf0 := mx_f hc hf0
            refine gw_aload_n C 0 d_Reader_bookLine_153 rfl rfl ?_
            refine gw_getI C 5 d_Reader_bookLine_154 k_o_0 (by decide) i_Reader rfl rfl (by decide) qw_297 rfl rfl ?_
            exact gw_go [0, 1] (hj157 _ _ _ _ hf0) rfl
          · replace hf0 := mx_t hc hf0
            refine gw_aload_n C 0 d_Reader_bookLine_143 rfl rfl ?_
            refine gw_getA C 0 d_Reader_bookLine_144 k_o_0 (by decide) i_Reader rfl rfl (by decide) qw_287 rfl rfl (o + 1) rfl ?_
            refine gw_getIN C 6 d_Reader_bookLine_147 k_o_1 (by decide) i_Tokens rfl rfl (by decide) qw_65 rfl rfl ?_
            refine gw_goto C 157 d_Reader_bookLine_150 (by decide) ?_
            exact gw_go [0, 1] (hj157 _ _ _ _ hf0) rfl
        · replace hf0 := mx_t hc hf0
          refine gw_iconst C (0 : Int32) d_Reader_bookLine_124 (by decide) ?_
          exact en_z hN (Or.inl rfl) hf0 d_Reader_bookLine_125
  have hj32 : ∀ (v1 : Int32) (m32 : Mm), f_Reader_bookLine_J32 (ly_z L) o v1 m32 = some res → GW E L A 2 0 0 Q m32 32 [(0, .ref (ly_a L o)), (1, .int v1)] [] := by
    intro v1 m32 hf0
    unfold f_Reader_bookLine_J32 at hf0
    refine gw_aload_n C 0 d_Reader_bookLine_32 rfl rfl ?_
    refine gw_getI C 2 d_Reader_bookLine_33 k_o_0 (by decide) i_Reader rfl rfl (by decide) qw_291 rfl rfl ?_
    refine gw_bipush C (30 : Int32) d_Reader_bookLine_36 (by decide) ?_
    refine gw_icmp_lt C 47 d_Reader_bookLine_38 (by decide) (fun hc => ?_) (fun hc => ?_)
    · replace hf0 := mx_t hc hf0
      refine gw_aload_n C 0 d_Reader_bookLine_47 rfl rfl ?_
      refine gw_getA C 0 d_Reader_bookLine_48 k_o_0 (by decide) i_Reader rfl rfl (by decide) qw_287 rfl rfl (o + 1) rfl ?_
      obtain ⟨q51, hq51, hf0⟩ := mx_bd hf0
      refine gw_callV C (c_Tokens_step _ hg k_o_1 hq51) d_Reader_bookLine_51 0 qw_481 qw_482 qw_483 qw_3 qw_484 k_o_1 (by decide) rfl hd_Tokens_step rfl rfl (Nat.le_of_ble_eq_true rfl) ⟨rfl, rfl, Nat.le_of_ble_eq_true rfl, Nat.le_of_ble_eq_true rfl⟩ ⟨Nat.zero_le _, Nat.zero_le _⟩ ?_
      refine gw_iload_n C 1 d_Reader_bookLine_54 rfl rfl ?_
      refine gw_bipush C (16 : Int32) d_Reader_bookLine_55 (by decide) ?_
      refine gw_icmp_eq C 104 d_Reader_bookLine_57 (by decide) (fun hc => ?_) (fun hc => ?_)
      · replace hf0 := mx_t hc hf0
        exact gw_go [0, 1] (hj104 _ _ hf0) rfl
      · replace hf0 := mx_f hc hf0
        refine gw_aload_n C 0 d_Reader_bookLine_60 rfl rfl ?_
        refine gw_aload_n C 0 d_Reader_bookLine_61 rfl rfl ?_
        refine gw_getA C 1 d_Reader_bookLine_62 k_o_0 (by decide) i_Reader rfl rfl (by decide) qw_289 rfl rfl (o + 4) rfl ?_
        refine gw_getAN C 0 d_Reader_bookLine_65 k_o_4 (by decide) i_State rfl rfl (by decide) qw_236 rfl rfl (o + 5) rfl ?_
        refine gw_getAN C 1 d_Reader_bookLine_68 k_o_5 (by decide) i_Island rfl rfl (by decide) qw_135 rfl rfl (o + 8) rfl ?_
        obtain ⟨q71, hq71, hf0⟩ := mx_bd hf0
        refine gw_callI C (c_Reader_isOneOf _ hg k_o_0 k_o_8 hq71) d_Reader_bookLine_71 1 qw_601 qw_603 qs_9 qw_2 qw_604 k_o_0 (by decide) rfl hd_Reader_isOneOf rfl rfl (Nat.le_of_ble_eq_true rfl) ⟨rfl, rfl, Nat.le_of_ble_eq_true rfl, Nat.le_of_ble_eq_true rfl⟩ ⟨Nat.zero_le _, Nat.zero_le _⟩ ?_
        refine gw_if_ne C 79 d_Reader_bookLine_74 (by decide) (fun hc => ?_) (fun hc => ?_)
        · replace hf0 := mx_f hc hf0
          refine gw_aload_n C 0 d_Reader_bookLine_79 rfl rfl ?_
          refine gw_getA C 1 d_Reader_bookLine_80 k_o_0 (by decide) i_Reader rfl rfl (by decide) qw_289 rfl rfl (o + 4) rfl ?_
          refine gw_getAN C 9 d_Reader_bookLine_83 k_o_4 (by decide) i_State rfl rfl (by decide) qw_259 rfl rfl (o + 35) rfl ?_
          refine gw_aload_n C 0 d_Reader_bookLine_86 rfl rfl ?_
          refine gw_getI C 2 d_Reader_bookLine_87 k_o_0 (by decide) i_Reader rfl rfl (by decide) qw_291 rfl rfl ?_
          refine gw_aload_n C 0 d_Reader_bookLine_90 rfl rfl ?_
          refine gw_getI C 5 d_Reader_bookLine_91 k_o_0 (by decide) i_Reader rfl rfl (by decide) qw_297 rfl rfl ?_
          obtain ⟨q94, hq94, hf0⟩ := mx_bd hf0
          refine gw_callV C (c_Row_put _ hg k_o_35 hq94) d_Reader_bookLine_94 2 qw_592 qw_461 qw_462 qw_4 qw_463 k_o_35 (by decide) rfl hd_Row_put rfl rfl (Nat.le_of_ble_eq_true rfl) ⟨rfl, rfl, Nat.le_of_ble_eq_true rfl, Nat.le_of_ble_eq_true rfl⟩ ⟨Nat.zero_le _, Nat.zero_le _⟩ ?_
          refine gw_aload_n C 0 d_Reader_bookLine_97 rfl rfl ?_
          refine gw_getA C 0 d_Reader_bookLine_98 k_o_0 (by decide) i_Reader rfl rfl (by decide) qw_287 rfl rfl (o + 1) rfl ?_
          obtain ⟨q101, hq101, hf0⟩ := mx_bd hf0
          refine gw_callV C (c_Tokens_step _ hg k_o_1 hq101) d_Reader_bookLine_101 0 qw_481 qw_482 qw_483 qw_3 qw_484 k_o_1 (by decide) rfl hd_Tokens_step rfl rfl (Nat.le_of_ble_eq_true rfl) ⟨rfl, rfl, Nat.le_of_ble_eq_true rfl, Nat.le_of_ble_eq_true rfl⟩ ⟨Nat.zero_le _, Nat.zero_le _⟩ ?_
          exact gw_go [0, 1] (hj104 _ _ hf0) rfl
        · replace hf0 := mx_t hc hf0
          refine gw_iconst C (0 : Int32) d_Reader_bookLine_77 (by decide) ?_
          exact en_z hN (Or.inl rfl) hf0 d_Reader_bookLine_78
    · replace hf0 := mx_f hc hf0
      refine gw_aload_n C 0 d_Reader_bookLine_41 rfl rfl ?_
      refine gw_iconst C (4 : Int32) d_Reader_bookLine_42 (by decide) ?_
      obtain ⟨q43, hq43, hf0⟩ := mx_bd hf0
      refine gw_callI C (c_Reader_fail _ hg k_o_0 hq43) d_Reader_bookLine_43 1 qw_568 qw_570 qs_4 qw_2 qw_571 k_o_0 (by decide) rfl hd_Reader_fail rfl rfl (Nat.le_of_ble_eq_true rfl) ⟨rfl, rfl, Nat.le_of_ble_eq_true rfl, Nat.le_of_ble_eq_true rfl⟩ ⟨Nat.zero_le _, Nat.zero_le _⟩ ?_
      obtain ⟨y46, hy46, hf0⟩ := mx_bd hf0
      obtain ⟨zy46, ey46⟩ := mx_zb hy46
      refine gw_topi ey46 ?_
      exact en_z hN zy46 hf0 d_Reader_bookLine_46
  have hj26 : ∀ (m26 : Mm), f_Reader_bookLine_J26 (ly_z L) o m26 = some res → GW E L A 2 0 0 Q m26 26 [(0, .ref (ly_a L o))] [] := by
    intro m26 hf0
    unfold f_Reader_bookLine_J26 at hf0
    refine gw_aload_n C 0 d_Reader_bookLine_26 rfl rfl ?_
    refine gw_iconst C (1 : Int32) d_Reader_bookLine_27 (by decide) ?_
    obtain ⟨q28, hq28, hf0⟩ := mx_bd hf0
    refine gw_callI C (c_Reader_fail _ hg k_o_0 hq28) d_Reader_bookLine_28 1 qw_568 qw_570 qs_4 qw_2 qw_571 k_o_0 (by decide) rfl hd_Reader_fail rfl rfl (Nat.le_of_ble_eq_true rfl) ⟨rfl, rfl, Nat.le_of_ble_eq_true rfl, Nat.le_of_ble_eq_true rfl⟩ ⟨Nat.zero_le _, Nat.zero_le _⟩ ?_
    obtain ⟨y31, hy31, hf0⟩ := mx_bd hf0
    obtain ⟨zy31, ey31⟩ := mx_zb hy31
    refine gw_topi ey31 ?_
    exact en_z hN zy31 hf0 d_Reader_bookLine_31
  refine gw_aload_n C 0 d_Reader_bookLine_0 rfl rfl ?_
  refine gw_getA C 0 d_Reader_bookLine_1 k_o_0 (by decide) i_Reader rfl rfl (by decide) qw_287 rfl rfl (o + 1) rfl ?_
  refine gw_getIN C 8 d_Reader_bookLine_4 k_o_1 (by decide) i_Tokens rfl rfl (by decide) qw_69 rfl rfl ?_
  obtain ⟨x7, ex7, hf0⟩ := mx_lt hf0
  refine gw_topi ex7 ?_
  refine gw_istore_n C [(1, .int x7), (0, .ref (ly_a L o))] d_Reader_bookLine_7 rfl (by decide) rfl ?_
  refine gw_iload_n C 0 d_Reader_bookLine_8 rfl rfl ?_
  refine gw_bipush C (8 : Int32) d_Reader_bookLine_9 (by decide) ?_
  refine gw_icmp_eq C 32 d_Reader_bookLine_11 (by decide) (fun hc => ?_) (fun hc => ?_)
  · replace hf0 := mx_t hc hf0
    exact gw_go [1, 0] (hj32 _ _ hf0) rfl
  · replace hf0 := mx_f hc hf0
    refine gw_iload_n C 0 d_Reader_bookLine_14 rfl rfl ?_
    refine gw_bipush C (12 : Int32) d_Reader_bookLine_15 (by decide) ?_
    refine gw_icmp_lt C 26 d_Reader_bookLine_17 (by decide) (fun hc => ?_) (fun hc => ?_)
    · replace hf0 := mx_t hc hf0
      exact gw_go [1] (hj26 _ hf0) rfl
    · replace hf0 := mx_f hc hf0
      refine gw_iload_n C 0 d_Reader_bookLine_20 rfl rfl ?_
      refine gw_bipush C (16 : Int32) d_Reader_bookLine_21 (by decide) ?_
      refine gw_icmp_le C 32 d_Reader_bookLine_23 (by decide) (fun hc => ?_) (fun hc => ?_)
      · replace hf0 := mx_t hc hf0
        exact gw_go [1, 0] (hj32 _ _ hf0) rfl
      · replace hf0 := mx_f hc hf0
        exact gw_go [1] (hj26 _ hf0) rfl
