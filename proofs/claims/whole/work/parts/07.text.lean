/-! the text constant: String.length, String.charAt over it, and what they call -/
def EnN (ty : FieldType) (E : Fx) (L : Ly) (A : Nat → Prop) (cc : ByteArray) (nL : Nat) (Q : State → Prop) (r : Int32) (σ' : Mm) : Prop := ∀ pc lv, narrow ty (.int r) = .int r → decode cc pc = .ok (.ireturn, 1) → GW E L A nL 0 0 Q σ' pc lv [.int r]
theorem ct_n {l : Launch} {y : MethodName} {cc : ByteArray} {nL : Nat} {rm : Room} {L : Ly} {As : List Value} {σ σ' : Mm} {ty : FieldType} {r : Int32} (hg : gd_ok L) (hy : plainName y.cls = true) (hlen : (lg_sl As).length ≤ nL) (body : ∀ (E : Fx) (A : Nat → Prop) (Q : State → Prop), fx_l E = l → Cx E L A cc nL y.cls (some ty) rm → EnN ty E L A cc nL Q r σ' → GW E L A nL 0 0 Q σ 0 (lv_args 0 As) []) : CtI l y cc nL (some ty) rm L As σ r σ' := by
  intro sz
  refine Met.ofW (cc := cc) (maxL := nL) (ret := some ty) hy rfl ?_
  intro p e s m args below meth c s₁ B hml hv
  obtain ⟨rfl, hsz, hP, hK, hD0, hN, hT0⟩ := hv
  have hts := atoms_spec (ws := Cond.code y cc nL (some ty) :: tb_G) B.pre
  subst hsz
  rw [lg_entry_eq]
  have hl := lv_entry As (n := nL) hlen
  let E : Fx := (p, l, e, (headSpec (Cond.code y cc nL (some ty) :: tb_G) rm).room, s, m, As.toArray, below, meth, c)
  have C : Cx E L (va_A (wl L σ) s.heap.size) cc nL y.cls (some ty) rm := ⟨B.exec, B.bytes, hml, findClass_of_methodNamed B.named, fun w hw => hts w (List.mem_cons_of_mem _ hw), hN, hK, hg, wl_inj hD0, fun o ho => va_A.in (wl_at L σ ho), fun q hq => Or.inr hq, rfl, B.notSynchronized, B.returns, hT0⟩
  refine body E (va_A (wl L σ) s.heap.size) (MQ below _ As.toArray s 0 0 _) rfl C ?_ s.heap [] _ hP va_S.rf hl
  intro pc lv hz d H locs ls hP9 hS9 hl9
  exact W.zret (cx_x C) (cx_c C) (cx_r C) hz (fun t ht hW => ⟨⟨_, (), rfl, rfl, by subst ht; exact hP9⟩, hS9.F ht⟩) hS9.2.2 d B.notSynchronized

section TX
variable {E : Fx} {L : Ly} {A : Nat → Prop} {cc : ByteArray} {nL cs sl : Nat} {own : String} {ret : Option FieldType} {rm : Room} {Q : State → Prop} {σ σ' : Mm} {pc : Nat} {lv : List (Nat × Value)} {st st0 : List Value}
theorem gw_i2c {x : Int32} (C : Cx E L A cc nL own ret rm) (d : decode cc pc = .ok (.i2c, 1)) (k : GW E L A nL cs sl Q σ (pc + 1) lv (.int ((x.toUInt32 % 65536).toInt32) :: st)) : GW E L A nL cs sl Q σ (pc) lv (.int x :: st) := fun H locs ls hP hS hl => lv_i2c (cx_x C) (cx_c C) d rfl (k H locs ls hP hS hl)
theorem gw_gets {C9 n9 d9 : String} {v : Value} {i : Nat} (C : Cx E L A cc nL own ret rm) (hZ : va_Z C9 n9 d9 v A (fx_s E) (fx_s E).heap) (d : decode cc pc = .ok (.getstatic i, 3)) (hw : Cond.fieldLink own i C9 n9 d9 ∈ tb_G) (k : GW E L A nL cs sl Q σ (pc + 3) lv (v :: st)) : GW E L A nL cs sl Q σ (pc) lv (st) := fun H locs ls hP hS hl => va_gets (cx_x C) (cx_c C) hZ hS (cx_o C) (cx_w C _ hw) (fun _ h => h) d (k H locs ls hP hS hl)
theorem gw_strf {n9 d9 : String} {v : Value} {q i : Nat} (C : Cx E L A cc nL own ret rm) (hO : va_OF "java/lang/String" n9 d9 v q A (fx_s E) (fx_s E).heap) (d : decode cc pc = .ok (.getfield i, 3)) (hw : Cond.fieldLink own i "java/lang/String" n9 d9 ∈ tb_G) (k : GW E L A nL cs sl Q σ (pc + 3) lv (v :: st)) : GW E L A nL cs sl Q σ (pc) lv (.ref q :: st) := fun H locs ls hP hS hl => vk_getf (cx_x C) (cx_c C) hO hS (cx_o C) (cx_w C _ hw) (fun _ h => h) d (k H locs ls hP hS hl)
theorem gw_tlen {ty : FieldType} {t N : Nat} {f : Nat → Value} (C : Cx E L A cc nL own ret rm) (hT : va_T ty t N f A (fx_s E) (fx_s E).heap) (d : decode cc pc = .ok (.arraylength, 1)) (k : GW E L A nL cs sl Q σ (pc + 1) lv (.int (nI N) :: st)) : GW E L A nL cs sl Q σ (pc) lv (.ref t :: st) := fun H locs ls hP hS hl => va_tlen (cx_x C) (cx_c C) hT hS rfl d (k H locs ls hP hS hl)
theorem gw_tb {t N : Nat} {f : Nat → Value} {i : Int32} (C : Cx E L A cc nL own ret rm) (hT : va_T .byte t N f A (fx_s E) (fx_s E).heap) (hin : vp_in i N) (d : decode cc pc = .ok (.baload, 1)) (k : GW E L A nL cs sl Q σ (pc + 1) lv (f i.toNatClampNeg :: st)) : GW E L A nL cs sl Q σ (pc) lv (.int i :: .ref t :: st) := fun H locs ls hP hS hl => va_tb (cx_x C) (cx_c C) hT hS hin rfl d (k H locs ls hP hS hl)
theorem gw_ldcT {tx : String} {i q : Nat} (C : Cx E L A cc nL own ret rm) (hZ : vk_R own i tx q (fx_s E)) (d : decode cc pc = .ok (.ldc i, 2)) (k : GW E L A nL cs sl Q σ (pc + 2) lv (.ref q :: st)) : GW E L A nL cs sl Q σ (pc) lv (st) := fun H locs ls hP hS hl => va_ldcS (cx_x C) (cx_c C) (cx_o C) hZ d (k H locs ls hP hS hl)
theorem gw_callIT {y : MethodName} {cy : ByteArray} {ny i : Nat} {ry : Option FieldType} {rmy : Room} {As : List Value} {r : Int32} (C : Cx E L A cc nL own ret rm) (hM : CtI (fx_l E) y cy ny ry rmy L (.ref (ly_s L).1 :: As) σ r σ') (d : decode cc pc = .ok (.invokevirtual i, 3)) (n : Nat) (hw1 : Cond.methodLink own i y ∈ tb_G) (hw2 : Cond.instanceMethod y ∈ tb_G) (hw3 : Cond.selects y.cls y y ∈ tb_G) (hw4 : Cond.initialized y.cls ∈ tb_G) (hw5 : Cond.code y cy ny ry ∈ tb_G) (hy : y.cls = "java/lang/String") (hd : y.cls ≠ "java/lang/invoke/MethodHandle" ∧ y.cls ≠ "java/lang/invoke/VarHandle" ∧ (parseMethodDescriptor y.desc).map (fun d => d.parameters.length) = some n) (hn : As.length = n) (hst : st0 = As.reverse ++ .ref (ly_s L).1 :: st) (hsm : (st.map fun v => v.category).sum ≤ 8) (hrm : rmy.cells = 0 ∧ rmy.slots = 0 ∧ rmy.frames + 1 ≤ rm.frames ∧ 8 + (ny + 11) + rmy.locals ≤ rm.locals) (hcs : cs ≤ rm.cells ∧ sl ≤ rm.slots) (k : GW E L A nL cs sl Q σ' (pc + 3) lv (.int r :: st)) : GW E L A nL cs sl Q σ pc lv st0 := by
  intro H locs ls hP hS hl
  subst hst
  have hF := gw_frA (σ := σ) C hS
  have hG : GoodIn tb_G (Cond.code y cy ny ry :: tb_G) := tb_good (fun w hw => by rcases List.mem_cons.mp hw with rfl | h; exact hw5; exact h)
  refine va_calli (va_runV (As := As) (rest := st) ⟨cx_x C, cx_c C, cx_n C, cx_o C, cx_w C⟩ (hM H.size) ⟨callB_of n (cx_w C) hG rfl hrm.1 hrm.2.1 (cx_w C _ hw4) (cx_w C _ hw1) hd (by rw [cx_R C]; exact hrm.2.2), cx_w C _ hw2, cx_w C _ hw3⟩ ⟨ct_blind, (by rw [hy]; exact vk_recv (i := 0) (cx_S C).2.1 (Nat.zero_lt_one) hS), gw_pre C hP hS⟩ rfl hn hl.1 rfl (lv_room hsm) d (by rw [cx_R C]; exact hcs)) hS (fun q _ h => hF q h) hF (fun r1 u t H1 l1 ht hvm hp hB hz hkk hS1 => ?_)
  subst hp
  exact k H1 l1 ls (by rw [← ht]; exact hB) hS1 hl
end TX
abbrev b_Str_coder : ByteArray := prog_22_method_152_code
def y_Str_coder : MethodName := ⟨"java/lang/String", "coder", "()B"⟩
abbrev rm_Str_coder : Room := { frames := 0, cells := 0, slots := 0, locals := 0 }
theorem hd_Str_coder : y_Str_coder.cls ≠ "java/lang/invoke/MethodHandle" ∧ y_Str_coder.cls ≠ "java/lang/invoke/VarHandle" ∧ (parseMethodDescriptor y_Str_coder.desc).map (fun d => d.parameters.length) = some 0 := by decide +kernel
theorem d_Str_coder_0 : decode b_Str_coder 0 = .ok (.getstatic 38, 3) := by decide +kernel
theorem d_Str_coder_3 : decode b_Str_coder 3 = .ok (.ifCond .eq 10, 3) := by decide +kernel
theorem d_Str_coder_6 : decode b_Str_coder 6 = .ok (.aload_n 0, 1) := by decide +kernel
theorem d_Str_coder_7 : decode b_Str_coder 7 = .ok (.getfield 15, 3) := by decide +kernel
theorem d_Str_coder_10 : decode b_Str_coder 10 = .ok (.goto 4, 3) := by decide +kernel
theorem d_Str_coder_13 : decode b_Str_coder 13 = .ok (.iconst 1, 1) := by decide +kernel
theorem d_Str_coder_14 : decode b_Str_coder 14 = .ok (.ireturn, 1) := by decide +kernel
set_option maxHeartbeats 4000000 in
set_option maxRecDepth 100000 in
theorem c_Str_coder (l : Launch) {L : Ly} (hg : gd_ok L) {σ : Mm} : CtI l y_Str_coder b_Str_coder 1 (some .byte) rm_Str_coder L [.ref (ly_s L).1] σ 0 σ := by
  refine ct_n hg (by decide) (Nat.le_of_ble_eq_true rfl) ?_
  intro E A Q hE C hN
  subst hE
  have hS := (cx_S C).2.1.1 0 Nat.zero_lt_one
  show GW E L A 1 0 0 Q σ 0 [(0, .ref (ly_s L).1)] []
  refine gw_gets C (cx_S C).2.2.1 d_Str_coder_0 qw_515 ?_
  refine gw_if_eq C 13 d_Str_coder_3 (by decide) (fun hc => absurd hc (by decide)) (fun _ => ?_)
  refine gw_aload_n C 0 d_Str_coder_6 rfl rfl ?_
  refine gw_strf C hS.2.1 d_Str_coder_7 qw_1642 ?_
  refine gw_goto C 14 d_Str_coder_10 (by decide) ?_
  exact hN _ _ rfl d_Str_coder_14
abbrev b_Str_isLatin1 : ByteArray := prog_22_method_154_code
def y_Str_isLatin1 : MethodName := ⟨"java/lang/String", "isLatin1", "()Z"⟩
abbrev rm_Str_isLatin1 : Room := { frames := 0, cells := 0, slots := 0, locals := 0 }
theorem hd_Str_isLatin1 : y_Str_isLatin1.cls ≠ "java/lang/invoke/MethodHandle" ∧ y_Str_isLatin1.cls ≠ "java/lang/invoke/VarHandle" ∧ (parseMethodDescriptor y_Str_isLatin1.desc).map (fun d => d.parameters.length) = some 0 := by decide +kernel
theorem d_Str_isLatin1_0 : decode b_Str_isLatin1 0 = .ok (.getstatic 38, 3) := by decide +kernel
theorem d_Str_isLatin1_3 : decode b_Str_isLatin1 3 = .ok (.ifCond .eq 14, 3) := by decide +kernel
theorem d_Str_isLatin1_6 : decode b_Str_isLatin1 6 = .ok (.aload_n 0, 1) := by decide +kernel
theorem d_Str_isLatin1_7 : decode b_Str_isLatin1 7 = .ok (.getfield 15, 3) := by decide +kernel
theorem d_Str_isLatin1_10 : decode b_Str_isLatin1 10 = .ok (.ifCond .ne 7, 3) := by decide +kernel
theorem d_Str_isLatin1_13 : decode b_Str_isLatin1 13 = .ok (.iconst 1, 1) := by decide +kernel
theorem d_Str_isLatin1_14 : decode b_Str_isLatin1 14 = .ok (.goto 4, 3) := by decide +kernel
theorem d_Str_isLatin1_17 : decode b_Str_isLatin1 17 = .ok (.iconst 0, 1) := by decide +kernel
theorem d_Str_isLatin1_18 : decode b_Str_isLatin1 18 = .ok (.ireturn, 1) := by decide +kernel
set_option maxHeartbeats 4000000 in
set_option maxRecDepth 100000 in
theorem c_Str_isLatin1 (l : Launch) {L : Ly} (hg : gd_ok L) {σ : Mm} : CtI l y_Str_isLatin1 b_Str_isLatin1 1 (some .boolean) rm_Str_isLatin1 L [.ref (ly_s L).1] σ 1 σ := by
  refine ct_n hg (by decide) (Nat.le_of_ble_eq_true rfl) ?_
  intro E A Q hE C hN
  subst hE
  have hS := (cx_S C).2.1.1 0 Nat.zero_lt_one
  show GW E L A 1 0 0 Q σ 0 [(0, .ref (ly_s L).1)] []
  refine gw_gets C (cx_S C).2.2.1 d_Str_isLatin1_0 qw_515 ?_
  refine gw_if_eq C 17 d_Str_isLatin1_3 (by decide) (fun hc => absurd hc (by decide)) (fun _ => ?_)
  refine gw_aload_n C 0 d_Str_isLatin1_6 rfl rfl ?_
  refine gw_strf C hS.2.1 d_Str_isLatin1_7 qw_1642 ?_
  refine gw_if_ne C 17 d_Str_isLatin1_10 (by decide) (fun hc => absurd rfl hc) (fun _ => ?_)
  refine gw_iconst C (1 : Int32) d_Str_isLatin1_13 (by decide) ?_
  refine gw_goto C 18 d_Str_isLatin1_14 (by decide) ?_
  exact hN _ _ rfl d_Str_isLatin1_18
abbrev b_Str_length : ByteArray := prog_22_method_54_code
def y_Str_length : MethodName := ⟨"java/lang/String", "length", "()I"⟩
abbrev rm_Str_length : Room := { frames := 1, cells := 0, slots := 0, locals := 40 }
theorem hd_Str_length : y_Str_length.cls ≠ "java/lang/invoke/MethodHandle" ∧ y_Str_length.cls ≠ "java/lang/invoke/VarHandle" ∧ (parseMethodDescriptor y_Str_length.desc).map (fun d => d.parameters.length) = some 0 := by decide +kernel
theorem d_Str_length_0 : decode b_Str_length 0 = .ok (.aload_n 0, 1) := by decide +kernel
theorem d_Str_length_1 : decode b_Str_length 1 = .ok (.getfield 9, 3) := by decide +kernel
theorem d_Str_length_4 : decode b_Str_length 4 = .ok (.arraylength, 1) := by decide +kernel
theorem d_Str_length_5 : decode b_Str_length 5 = .ok (.aload_n 0, 1) := by decide +kernel
theorem d_Str_length_6 : decode b_Str_length 6 = .ok (.invokevirtual 335, 3) := by decide +kernel
theorem d_Str_length_9 : decode b_Str_length 9 = .ok (.ishr, 1) := by decide +kernel
theorem d_Str_length_10 : decode b_Str_length 10 = .ok (.ireturn, 1) := by decide +kernel
set_option maxHeartbeats 4000000 in
set_option maxRecDepth 100000 in
theorem c_Str_length (l : Launch) {L : Ly} (hg : gd_ok L) {σ : Mm} : CtI l y_Str_length b_Str_length 1 (some .int) rm_Str_length L [.ref (ly_s L).1] σ (nI 92) σ := by
  refine ct_i hg (by decide) (Nat.le_of_ble_eq_true rfl) ?_
  intro E A Q hE C hN
  subst hE
  have hS := (cx_S C).2.1.1 0 Nat.zero_lt_one
  show GW E L A 1 0 0 Q σ 0 [(0, .ref (ly_s L).1)] []
  refine gw_aload_n C 0 d_Str_length_0 rfl rfl ?_
  refine gw_strf C hS.2.2.1 d_Str_length_1 qw_1641 ?_
  refine gw_tlen C hS.2.2.2 d_Str_length_4 ?_
  refine gw_aload_n C 0 d_Str_length_5 rfl rfl ?_
  refine gw_callIT C (c_Str_coder _ hg) d_Str_length_6 0 qw_511 qw_512 qw_513 qw_15 qw_514 rfl hd_Str_coder rfl rfl (Nat.le_of_ble_eq_true rfl) ⟨rfl, rfl, Nat.le_of_ble_eq_true rfl, Nat.le_of_ble_eq_true rfl⟩ ⟨Nat.zero_le _, Nat.zero_le _⟩ ?_
  refine gw_ishr C d_Str_length_9 ?_
  exact hN _ _ d_Str_length_10
abbrev b_Pre_checkIndex : ByteArray := prog_29_method_11_code
def y_Pre_checkIndex : MethodName := ⟨"jdk/internal/util/Preconditions", "checkIndex", "(IILjava/util/function/BiFunction;)I"⟩
abbrev rm_Pre_checkIndex : Room := { frames := 0, cells := 0, slots := 0, locals := 0 }
theorem hd_Pre_checkIndex : y_Pre_checkIndex.cls ≠ "java/lang/invoke/MethodHandle" ∧ y_Pre_checkIndex.cls ≠ "java/lang/invoke/VarHandle" ∧ (parseMethodDescriptor y_Pre_checkIndex.desc).map (fun d => d.parameters.length) = some 3 := by decide +kernel
theorem d_Pre_checkIndex_0 : decode b_Pre_checkIndex 0 = .ok (.iload_n 0, 1) := by decide +kernel
theorem d_Pre_checkIndex_1 : decode b_Pre_checkIndex 1 = .ok (.ifCond .lt 8, 3) := by decide +kernel
theorem d_Pre_checkIndex_4 : decode b_Pre_checkIndex 4 = .ok (.iload_n 0, 1) := by decide +kernel
theorem d_Pre_checkIndex_5 : decode b_Pre_checkIndex 5 = .ok (.iload_n 1, 1) := by decide +kernel
theorem d_Pre_checkIndex_6 : decode b_Pre_checkIndex 6 = .ok (.if_icmp .lt 10, 3) := by decide +kernel
theorem d_Pre_checkIndex_16 : decode b_Pre_checkIndex 16 = .ok (.iload_n 0, 1) := by decide +kernel
theorem d_Pre_checkIndex_17 : decode b_Pre_checkIndex 17 = .ok (.ireturn, 1) := by decide +kernel
set_option maxHeartbeats 4000000 in
set_option maxRecDepth 100000 in
theorem c_Pre_checkIndex (l : Launch) {L : Ly} (hg : gd_ok L) {σ : Mm} {i n : Int32} {v : Value} (hv : v.category = 1) (h0 : ¬ i < 0) (h1 : i < n) : CtI l y_Pre_checkIndex b_Pre_checkIndex 3 (some .int) rm_Pre_checkIndex L [.int i, .int n, v] σ i σ := by
  refine ct_i hg (by decide) (by cases v <;> first | exact Nat.le_of_ble_eq_true rfl | cases hv) ?_
  intro E A Q hE C hN
  subst hE
  refine gw_iload_n C 0 d_Pre_checkIndex_0 rfl rfl ?_
  refine gw_if_lt C 9 d_Pre_checkIndex_1 (by decide) (fun hc => absurd hc h0) (fun _ => ?_)
  refine gw_iload_n C 0 d_Pre_checkIndex_4 rfl rfl ?_
  refine gw_iload_n C 1 d_Pre_checkIndex_5 rfl rfl ?_
  refine gw_icmp_lt C 16 d_Pre_checkIndex_6 (by decide) (fun _ => ?_) (fun hc => absurd h1 hc)
  refine gw_iload_n C 0 d_Pre_checkIndex_16 rfl rfl ?_
  exact hN _ _ d_Pre_checkIndex_17
abbrev b_Str_checkIndex : ByteArray := prog_22_method_155_code
def y_Str_checkIndex : MethodName := ⟨"java/lang/String", "checkIndex", "(II)V"⟩
abbrev rm_Str_checkIndex : Room := { frames := 1, cells := 0, slots := 0, locals := 40 }
theorem hd_Str_checkIndex : y_Str_checkIndex.cls ≠ "java/lang/invoke/MethodHandle" ∧ y_Str_checkIndex.cls ≠ "java/lang/invoke/VarHandle" ∧ (parseMethodDescriptor y_Str_checkIndex.desc).map (fun d => d.parameters.length) = some 2 := by decide +kernel
theorem d_Str_checkIndex_0 : decode b_Str_checkIndex 0 = .ok (.iload_n 0, 1) := by decide +kernel
theorem d_Str_checkIndex_1 : decode b_Str_checkIndex 1 = .ok (.iload_n 1, 1) := by decide +kernel
theorem d_Str_checkIndex_2 : decode b_Str_checkIndex 2 = .ok (.getstatic 1053, 3) := by decide +kernel
theorem d_Str_checkIndex_5 : decode b_Str_checkIndex 5 = .ok (.invokestatic 1059, 3) := by decide +kernel
theorem d_Str_checkIndex_8 : decode b_Str_checkIndex 8 = .ok (.pop, 1) := by decide +kernel
theorem d_Str_checkIndex_9 : decode b_Str_checkIndex 9 = .ok (.return_, 1) := by decide +kernel
set_option maxHeartbeats 4000000 in
set_option maxRecDepth 100000 in
theorem c_Str_checkIndex (l : Launch) {L : Ly} (hg : gd_ok L) {σ : Mm} {i n : Int32} (h0 : ¬ i < 0) (h1 : i < n) : CtV l y_Str_checkIndex b_Str_checkIndex 2 (none) rm_Str_checkIndex L [.int i, .int n] σ σ := by
  refine ct_v hg (by decide) (Nat.le_of_ble_eq_true rfl) ?_
  intro E A Q hE C hN
  subst hE
  show GW E L A 2 0 0 Q σ 0 [(0, .int i), (1, .int n)] []
  refine gw_iload_n C 0 d_Str_checkIndex_0 rfl rfl ?_
  refine gw_iload_n C 1 d_Str_checkIndex_1 rfl rfl ?_
  rcases (cx_S C).2.2.2 with hZ | ⟨t, hZ⟩
  · refine gw_gets C hZ d_Str_checkIndex_2 qw_531 ?_
    refine gw_callIS C (c_Pre_checkIndex _ hg rfl h0 h1) d_Str_checkIndex_5 3 qw_533 qw_534 qw_17 qw_535 hd_Pre_checkIndex rfl rfl (Nat.le_of_ble_eq_true rfl) ⟨rfl, rfl, Nat.le_of_ble_eq_true rfl, Nat.le_of_ble_eq_true rfl⟩ ⟨Nat.zero_le _, Nat.zero_le _⟩ ?_
    refine gw_pop C d_Str_checkIndex_8 rfl ?_
    exact hN _ _ d_Str_checkIndex_9
  · refine gw_gets C hZ d_Str_checkIndex_2 qw_531 ?_
    refine gw_callIS C (c_Pre_checkIndex _ hg rfl h0 h1) d_Str_checkIndex_5 3 qw_533 qw_534 qw_17 qw_535 hd_Pre_checkIndex rfl rfl (Nat.le_of_ble_eq_true rfl) ⟨rfl, rfl, Nat.le_of_ble_eq_true rfl, Nat.le_of_ble_eq_true rfl⟩ ⟨Nat.zero_le _, Nat.zero_le _⟩ ?_
    refine gw_pop C d_Str_checkIndex_8 rfl ?_
    exact hN _ _ d_Str_checkIndex_9
def st_ch (k : Nat) : Int32 := ((st_by.getD k 0 &&& 255).toUInt32 % 65536).toInt32
theorem st_ch_n (k : Nat) : narrow .char (.int (st_ch k)) = .int (st_ch k) := by
  unfold st_ch
  rw [sc_c2]
  exact sc_nar _
abbrev b_Lat_charAt : ByteArray := prog_23_method_2_code
def y_Lat_charAt : MethodName := ⟨"java/lang/StringLatin1", "charAt", "([BI)C"⟩
abbrev rm_Lat_charAt : Room := { frames := 2, cells := 0, slots := 0, locals := 70 }
theorem hd_Lat_charAt : y_Lat_charAt.cls ≠ "java/lang/invoke/MethodHandle" ∧ y_Lat_charAt.cls ≠ "java/lang/invoke/VarHandle" ∧ (parseMethodDescriptor y_Lat_charAt.desc).map (fun d => d.parameters.length) = some 2 := by decide +kernel
theorem d_Lat_charAt_0 : decode b_Lat_charAt 0 = .ok (.iload_n 1, 1) := by decide +kernel
theorem d_Lat_charAt_1 : decode b_Lat_charAt 1 = .ok (.aload_n 0, 1) := by decide +kernel
theorem d_Lat_charAt_2 : decode b_Lat_charAt 2 = .ok (.arraylength, 1) := by decide +kernel
theorem d_Lat_charAt_3 : decode b_Lat_charAt 3 = .ok (.invokestatic 9, 3) := by decide +kernel
theorem d_Lat_charAt_6 : decode b_Lat_charAt 6 = .ok (.aload_n 0, 1) := by decide +kernel
theorem d_Lat_charAt_7 : decode b_Lat_charAt 7 = .ok (.iload_n 1, 1) := by decide +kernel
theorem d_Lat_charAt_8 : decode b_Lat_charAt 8 = .ok (.baload, 1) := by decide +kernel
theorem d_Lat_charAt_9 : decode b_Lat_charAt 9 = .ok (.sipush 255, 3) := by decide +kernel
theorem d_Lat_charAt_12 : decode b_Lat_charAt 12 = .ok (.iand, 1) := by decide +kernel
theorem d_Lat_charAt_13 : decode b_Lat_charAt 13 = .ok (.i2c, 1) := by decide +kernel
theorem d_Lat_charAt_14 : decode b_Lat_charAt 14 = .ok (.ireturn, 1) := by decide +kernel
set_option maxHeartbeats 4000000 in
set_option maxRecDepth 100000 in
theorem c_Lat_charAt (l : Launch) {L : Ly} (hg : gd_ok L) {σ : Mm} {i : Int32} (hi : vp_in i 92) : CtI l y_Lat_charAt b_Lat_charAt 2 (some .char) rm_Lat_charAt L [.ref (ly_s L).2, .int i] σ (st_ch i.toNatClampNeg) σ := by
  refine ct_n hg (by decide) (Nat.le_of_ble_eq_true rfl) ?_
  intro E A Q hE C hN
  subst hE
  have hS := (cx_S C).2.1.1 0 Nat.zero_lt_one
  obtain ⟨j, hj, rfl⟩ := vp_in_of hi (by omega)
  have h0 : ¬ nI j < 0 := nI_pos (by omega)
  have h1 : nI j < nI 92 := nI_lt hj (by omega)
  show GW E L A 2 0 0 Q σ 0 [(0, .ref (ly_s L).2), (1, .int (nI j))] []
  refine gw_iload_n C 1 d_Lat_charAt_0 rfl rfl ?_
  refine gw_aload_n C 0 d_Lat_charAt_1 rfl rfl ?_
  refine gw_tlen C hS.2.2.2 d_Lat_charAt_2 ?_
  refine gw_callVS C (c_Str_checkIndex _ hg h0 h1) d_Lat_charAt_3 2 qw_528 qw_529 qw_15 qw_530 hd_Str_checkIndex rfl rfl (Nat.le_of_ble_eq_true rfl) ⟨rfl, rfl, Nat.le_of_ble_eq_true rfl, Nat.le_of_ble_eq_true rfl⟩ ⟨Nat.zero_le _, Nat.zero_le _⟩ ?_
  refine gw_aload_n C 0 d_Lat_charAt_6 rfl rfl ?_
  refine gw_iload_n C 1 d_Lat_charAt_7 rfl rfl ?_
  refine gw_tb C hS.2.2.2 hi d_Lat_charAt_8 ?_
  refine gw_sipush C (255 : Int32) d_Lat_charAt_9 (by decide) ?_
  refine gw_iand C d_Lat_charAt_12 ?_
  refine gw_i2c C d_Lat_charAt_13 ?_
  exact hN _ _ (st_ch_n _) d_Lat_charAt_14
abbrev b_Str_charAt : ByteArray := prog_22_method_56_code
def y_Str_charAt : MethodName := ⟨"java/lang/String", "charAt", "(I)C"⟩
abbrev rm_Str_charAt : Room := { frames := 3, cells := 0, slots := 0, locals := 100 }
theorem hd_Str_charAt : y_Str_charAt.cls ≠ "java/lang/invoke/MethodHandle" ∧ y_Str_charAt.cls ≠ "java/lang/invoke/VarHandle" ∧ (parseMethodDescriptor y_Str_charAt.desc).map (fun d => d.parameters.length) = some 1 := by decide +kernel
theorem d_Str_charAt_0 : decode b_Str_charAt 0 = .ok (.aload_n 0, 1) := by decide +kernel
theorem d_Str_charAt_1 : decode b_Str_charAt 1 = .ok (.invokevirtual 492, 3) := by decide +kernel
theorem d_Str_charAt_4 : decode b_Str_charAt 4 = .ok (.ifCond .eq 12, 3) := by decide +kernel
theorem d_Str_charAt_7 : decode b_Str_charAt 7 = .ok (.aload_n 0, 1) := by decide +kernel
theorem d_Str_charAt_8 : decode b_Str_charAt 8 = .ok (.getfield 9, 3) := by decide +kernel
theorem d_Str_charAt_11 : decode b_Str_charAt 11 = .ok (.iload_n 1, 1) := by decide +kernel
theorem d_Str_charAt_12 : decode b_Str_charAt 12 = .ok (.invokestatic 495, 3) := by decide +kernel
theorem d_Str_charAt_15 : decode b_Str_charAt 15 = .ok (.ireturn, 1) := by decide +kernel
set_option maxHeartbeats 4000000 in
set_option maxRecDepth 100000 in
theorem c_Str_charAt (l : Launch) {L : Ly} (hg : gd_ok L) {σ : Mm} {i : Int32} (hi : vp_in i 92) : CtI l y_Str_charAt b_Str_charAt 2 (some .char) rm_Str_charAt L [.ref (ly_s L).1, .int i] σ (st_ch i.toNatClampNeg) σ := by
  refine ct_n hg (by decide) (Nat.le_of_ble_eq_true rfl) ?_
  intro E A Q hE C hN
  subst hE
  have hS := (cx_S C).2.1.1 0 Nat.zero_lt_one
  show GW E L A 2 0 0 Q σ 0 [(0, .ref (ly_s L).1), (1, .int i)] []
  refine gw_aload_n C 0 d_Str_charAt_0 rfl rfl ?_
  refine gw_callIT C (c_Str_isLatin1 _ hg) d_Str_charAt_1 0 qw_521 qw_522 qw_523 qw_15 qw_524 rfl hd_Str_isLatin1 rfl rfl (Nat.le_of_ble_eq_true rfl) ⟨rfl, rfl, Nat.le_of_ble_eq_true rfl, Nat.le_of_ble_eq_true rfl⟩ ⟨Nat.zero_le _, Nat.zero_le _⟩ ?_
  refine gw_if_eq C 16 d_Str_charAt_4 (by decide) (fun hc => absurd hc (by decide)) (fun _ => ?_)
  refine gw_aload_n C 0 d_Str_charAt_7 rfl rfl ?_
  refine gw_strf C hS.2.2.1 d_Str_charAt_8 qw_1641 ?_
  refine gw_iload_n C 1 d_Str_charAt_11 rfl rfl ?_
  refine gw_callIS C (c_Lat_charAt _ hg hi) d_Str_charAt_12 2 qw_525 qw_526 qw_16 qw_527 hd_Lat_charAt rfl rfl (Nat.le_of_ble_eq_true rfl) ⟨rfl, rfl, Nat.le_of_ble_eq_true rfl, Nat.le_of_ble_eq_true rfl⟩ ⟨Nat.zero_le _, Nat.zero_le _⟩ ?_
  exact hN _ _ (st_ch_n _) d_Str_charAt_15
/-! NameHat.Words.numberOf(J)I -/
abbrev b_Words_numberOf : ByteArray := prog_12_method_2_code
def y_Words_numberOf : MethodName := ⟨"NameHat$Words", "numberOf", "(J)I"⟩
abbrev rm_Words_numberOf : Room := { frames := 6, cells := 0, slots := 0, locals := 400 }
theorem hd_Words_numberOf : y_Words_numberOf.cls ≠ "java/lang/invoke/MethodHandle" ∧ y_Words_numberOf.cls ≠ "java/lang/invoke/VarHandle" ∧ (parseMethodDescriptor y_Words_numberOf.desc).map (fun d => d.parameters.length) = some 1 := by decide +kernel
theorem d_Words_numberOf_0 : decode b_Words_numberOf 0 = .ok (.lconst 0, 1) := by decide +kernel
theorem d_Words_numberOf_1 : decode b_Words_numberOf 1 = .ok (.lstore_n 2, 1) := by decide +kernel
theorem d_Words_numberOf_2 : decode b_Words_numberOf 2 = .ok (.iconst 0, 1) := by decide +kernel
theorem d_Words_numberOf_3 : decode b_Words_numberOf 3 = .ok (.istore 4, 2) := by decide +kernel
theorem d_Words_numberOf_5 : decode b_Words_numberOf 5 = .ok (.iconst 0, 1) := by decide +kernel
theorem d_Words_numberOf_6 : decode b_Words_numberOf 6 = .ok (.istore 5, 2) := by decide +kernel
theorem d_Words_numberOf_8 : decode b_Words_numberOf 8 = .ok (.iload 5, 2) := by decide +kernel
theorem d_Words_numberOf_10 : decode b_Words_numberOf 10 = .ok (.ldc 11, 2) := by decide +kernel
theorem d_Words_numberOf_12 : decode b_Words_numberOf 12 = .ok (.invokevirtual 13, 3) := by decide +kernel
theorem d_Words_numberOf_15 : decode b_Words_numberOf 15 = .ok (.if_icmp .ge 53, 3) := by decide +kernel
theorem d_Words_numberOf_18 : decode b_Words_numberOf 18 = .ok (.ldc 11, 2) := by decide +kernel
theorem d_Words_numberOf_20 : decode b_Words_numberOf 20 = .ok (.iload 5, 2) := by decide +kernel
theorem d_Words_numberOf_22 : decode b_Words_numberOf 22 = .ok (.invokevirtual 19, 3) := by decide +kernel
theorem d_Words_numberOf_25 : decode b_Words_numberOf 25 = .ok (.bipush 32, 2) := by decide +kernel
theorem d_Words_numberOf_27 : decode b_Words_numberOf 27 = .ok (.if_icmp .eq 21, 3) := by decide +kernel
theorem d_Words_numberOf_30 : decode b_Words_numberOf 30 = .ok (.lload_n 2, 1) := by decide +kernel
theorem d_Words_numberOf_31 : decode b_Words_numberOf 31 = .ok (.ldc2_w 23, 3) := by decide +kernel
theorem d_Words_numberOf_34 : decode b_Words_numberOf 34 = .ok (.lmul, 1) := by decide +kernel
theorem d_Words_numberOf_35 : decode b_Words_numberOf 35 = .ok (.ldc 11, 2) := by decide +kernel
theorem d_Words_numberOf_37 : decode b_Words_numberOf 37 = .ok (.iload 5, 2) := by decide +kernel
theorem d_Words_numberOf_39 : decode b_Words_numberOf 39 = .ok (.invokevirtual 19, 3) := by decide +kernel
theorem d_Words_numberOf_42 : decode b_Words_numberOf 42 = .ok (.i2l, 1) := by decide +kernel
theorem d_Words_numberOf_43 : decode b_Words_numberOf 43 = .ok (.ladd, 1) := by decide +kernel
theorem d_Words_numberOf_44 : decode b_Words_numberOf 44 = .ok (.lstore_n 2, 1) := by decide +kernel
theorem d_Words_numberOf_45 : decode b_Words_numberOf 45 = .ok (.goto 17, 3) := by decide +kernel
theorem d_Words_numberOf_48 : decode b_Words_numberOf 48 = .ok (.lload_n 2, 1) := by decide +kernel
theorem d_Words_numberOf_49 : decode b_Words_numberOf 49 = .ok (.lload_n 0, 1) := by decide +kernel
theorem d_Words_numberOf_50 : decode b_Words_numberOf 50 = .ok (.lcmp, 1) := by decide +kernel
theorem d_Words_numberOf_51 : decode b_Words_numberOf 51 = .ok (.ifCond .ne 6, 3) := by decide +kernel
theorem d_Words_numberOf_54 : decode b_Words_numberOf 54 = .ok (.iload 4, 2) := by decide +kernel
theorem d_Words_numberOf_56 : decode b_Words_numberOf 56 = .ok (.ireturn, 1) := by decide +kernel
theorem d_Words_numberOf_57 : decode b_Words_numberOf 57 = .ok (.lconst 0, 1) := by decide +kernel
theorem d_Words_numberOf_58 : decode b_Words_numberOf 58 = .ok (.lstore_n 2, 1) := by decide +kernel
theorem d_Words_numberOf_59 : decode b_Words_numberOf 59 = .ok (.iinc 4 1, 3) := by decide +kernel
theorem d_Words_numberOf_62 : decode b_Words_numberOf 62 = .ok (.iinc 5 1, 3) := by decide +kernel
theorem d_Words_numberOf_65 : decode b_Words_numberOf 65 = .ok (.goto (-57), 3) := by decide +kernel
theorem d_Words_numberOf_68 : decode b_Words_numberOf 68 = .ok (.iconst (-1), 1) := by decide +kernel
theorem d_Words_numberOf_69 : decode b_Words_numberOf 69 = .ok (.ireturn, 1) := by decide +kernel
noncomputable def f_Words_numberOf_L8 (z : Nat → Nat) (σ : Mm) (v0 : Int64) (s8 : Int64 × Int32 × Int32) : Option ((Int64 × Int32 × Int32) ⊕ ((Int32) ⊕ (Unit))) :=
  if (nI 92) ≤ s8.2.2 then (
    some (.inr (.inr ()))
  ) else (
    (mm_ldI st_ch 92 s8.2.2).bind fun x22 =>
    if x22 = (32 : Int32) then (
      if (lg_cmp s8.1 v0) = 0 then (
        some (.inr (.inl s8.2.1))
      ) else (
        mm_lt (s8.2.1 + (1 : Int32)) fun x59 =>
        mm_lt (s8.2.2 + (1 : Int32)) fun x62 =>
        some (.inl ((0 : Int64), x59, x62))
      )
    ) else (
      (mm_ldI st_ch 92 s8.2.2).bind fun x39 =>
      mm_lt (((s8.1 * (128 : Int64)) + (Int32.toInt64 x39))) fun x44 =>
      mm_lt (s8.2.2 + (1 : Int32)) fun x62 =>
      some (.inl (x44, s8.2.1, x62))
    )
  )
noncomputable def f_Words_numberOf (z : Nat → Nat) (σ : Mm) (p1 : Int64) : Option (Int32) :=
  (mm_lp (f_Words_numberOf_L8 z σ p1) ((0 : Int64), (0 : Int32), (0 : Int32))).bind (Sum.elim (fun r9 => some r9) (fun x8_ =>
    some ((-1) : Int32)))
set_option maxHeartbeats 4000000 in
set_option maxRecDepth 100000 in
theorem c_Words_numberOf (l : Launch) {L : Ly} (hg : gd_ok L) {σ : Mm} {p1 : Int64} {res : Int32} (hf0 : f_Words_numberOf (ly_z L) σ p1 = some res) : CtI l y_Words_numberOf b_Words_numberOf 6 (some .int) rm_Words_numberOf L [.long p1] σ res σ := by
  refine ct_i hg (by decide) (Nat.le_of_ble_eq_true rfl) ?_
  intro E A Q hE C hN
  subst hE
  unfold f_Words_numberOf at hf0
  show GW E L A 6 0 0 Q σ 0 [(0, .long p1)] []
  refine gw_lconst C (0 : Int64) d_Words_numberOf_0 (by decide) ?_
  refine gw_lstore_n C [(2, .long (0 : Int64)), (0, .long p1)] d_Words_numberOf_1 rfl (by decide) rfl ?_
  refine gw_iconst C (0 : Int32) d_Words_numberOf_2 (by decide) ?_
  refine gw_istore C [(4, .int (0 : Int32)), (2, .long (0 : Int64)), (0, .long p1)] d_Words_numberOf_3 (by decide) rfl ?_
  refine gw_iconst C (0 : Int32) d_Words_numberOf_5 (by decide) ?_
  refine gw_istore C [(5, .int (0 : Int32)), (4, .int (0 : Int32)), (2, .long (0 : Int64)), (0, .long p1)] d_Words_numberOf_6 (by decide) rfl ?_
  obtain ⟨q8, hq8, hf0⟩ := mx_bd hf0
  have hk8 : ∀ x8_, q8 = .inr x8_ → GW E L A 6 0 0 Q σ 68 [] [] := by
    intro x8_ hx9
    subst hx9
    replace hf0 := mx_sr hf0
    refine gw_iconst C ((-1) : Int32) d_Words_numberOf_68 (by decide) ?_
    exact en_ip hN hf0 d_Words_numberOf_69
  refine gw_sub [3, 2, 1, 0] (lv' := [(0, .long p1), (2, .long (0 : Int64)), (4, .int (0 : Int32)), (5, .int (0 : Int32))]) rfl ?_
  refine mm_rule hq8 (P := fun (s8 : Int64 × Int32 × Int32) => GW E L A 6 0 0 Q σ 8 [(0, .long p1), (2, .long s8.1), (4, .int s8.2.1), (5, .int s8.2.2)] []) ?_
  intro s8 ih8 hx8 ⟨w8, hb8⟩
  have hf1 := hb8
  unfold f_Words_numberOf_L8 at hf1
  refine gw_iload C 3 d_Words_numberOf_8 rfl ?_
  refine gw_ldcT C (cx_S C).1 d_Words_numberOf_10 ?_
  refine gw_callIT C (c_Str_length _ hg) d_Words_numberOf_12 0 qw_507 qw_508 qw_509 qw_15 qw_510 rfl hd_Str_length rfl rfl (Nat.le_of_ble_eq_true rfl) ⟨rfl, rfl, Nat.le_of_ble_eq_true rfl, Nat.le_of_ble_eq_true rfl⟩ ⟨Nat.zero_le _, Nat.zero_le _⟩ ?_
  refine gw_icmp_ge C 68 d_Words_numberOf_15 (by decide) (fun hc => ?_) (fun hc => ?_)
  · replace hf1 := mx_t hc hf1
    exact gw_go [] (hk8 () (hx8 _ (hb8.trans hf1.symm)).symm) rfl
  · replace hf1 := mx_f hc hf1
    refine gw_ldcT C (cx_S C).1 d_Words_numberOf_18 ?_
    refine gw_iload C 3 d_Words_numberOf_20 rfl ?_
    obtain ⟨x22, hx22, hf1⟩ := mx_bd hf1
    obtain ⟨gx22, ex22⟩ := mx_ldI hx22
    refine gw_callIT C (c_Str_charAt _ hg gx22) d_Words_numberOf_22 1 qw_517 qw_518 qw_519 qw_15 qw_520 rfl hd_Str_charAt rfl rfl (Nat.le_of_ble_eq_true rfl) ⟨rfl, rfl, Nat.le_of_ble_eq_true rfl, Nat.le_of_ble_eq_true rfl⟩ ⟨Nat.zero_le _, Nat.zero_le _⟩ ?_
    refine gw_topi ex22 ?_
    refine gw_bipush C (32 : Int32) d_Words_numberOf_25 (by decide) ?_
    refine gw_icmp_eq C 48 d_Words_numberOf_27 (by decide) (fun hc => ?_) (fun hc => ?_)
    · replace hf1 := mx_t hc hf1
      refine gw_lload_n C 1 d_Words_numberOf_48 rfl rfl ?_
      refine gw_lload_n C 0 d_Words_numberOf_49 rfl rfl ?_
      refine gw_lcmp C d_Words_numberOf_50 ?_
      refine gw_if_ne C 57 d_Words_numberOf_51 (by decide) (fun hc => ?_) (fun hc => ?_)
      · replace hf1 := mx_f hc hf1
        refine gw_lconst C (0 : Int64) d_Words_numberOf_57 (by decide) ?_
        refine gw_lstore_n C [(2, .long (0 : Int64)), (0, .long p1), (4, .int s8.2.1), (5, .int s8.2.2)] d_Words_numberOf_58 rfl (by decide) rfl ?_
        obtain ⟨x59, ex59, hf1⟩ := mx_lt hf1
        refine gw_iinc C 2 [(4, .int x59), (2, .long (0 : Int64)), (0, .long p1), (5, .int s8.2.2)] d_Words_numberOf_59 rfl (by rw [ex59]; rfl) (by decide) rfl ?_
        obtain ⟨x62, ex62, hf1⟩ := mx_lt hf1
        refine gw_iinc C 3 [(5, .int x62), (4, .int x59), (2, .long (0 : Int64)), (0, .long p1)] d_Words_numberOf_62 rfl (by rw [ex62]; rfl) (by decide) rfl ?_
        refine gw_goto C 8 d_Words_numberOf_65 (by decide) ?_
        exact gw_go [3, 2, 1, 0] (ih8 ((0 : Int64), x59, x62) (hb8.trans hf1.symm)) rfl
      · replace hf1 := mx_t hc hf1
        refine gw_iload C 2 d_Words_numberOf_54 rfl ?_
        have hr8 := hx8 _ (hb8.trans hf1.symm)
        subst hr8
        replace hf0 := mx_sl hf0
        exact en_ip hN hf0 d_Words_numberOf_56
    · replace hf1 := mx_f hc hf1
      refine gw_lload_n C 1 d_Words_numberOf_30 rfl rfl ?_
      refine gw_ldc2_w C d_Words_numberOf_31 qw_555 ?_
      refine gw_lmul C d_Words_numberOf_34 ?_
      refine gw_ldcT C (cx_S C).1 d_Words_numberOf_35 ?_
      refine gw_iload C 3 d_Words_numberOf_37 rfl ?_
      obtain ⟨x39, hx39, hf1⟩ := mx_bd hf1
      obtain ⟨gx39, ex39⟩ := mx_ldI hx39
      refine gw_callIT C (c_Str_charAt _ hg gx39) d_Words_numberOf_39 1 qw_517 qw_518 qw_519 qw_15 qw_520 rfl hd_Str_charAt rfl rfl (Nat.le_of_ble_eq_true rfl) ⟨rfl, rfl, Nat.le_of_ble_eq_true rfl, Nat.le_of_ble_eq_true rfl⟩ ⟨Nat.zero_le _, Nat.zero_le _⟩ ?_
      refine gw_topi ex39 ?_
      refine gw_i2l C d_Words_numberOf_42 ?_
      refine gw_ladd C d_Words_numberOf_43 ?_
      obtain ⟨x44, ex44, hf1⟩ := mx_lt hf1
      refine gw_topl ex44 ?_
      refine gw_lstore_n C [(2, .long x44), (0, .long p1), (4, .int s8.2.1), (5, .int s8.2.2)] d_Words_numberOf_44 rfl (by decide) rfl ?_
      refine gw_goto C 62 d_Words_numberOf_45 (by decide) ?_
      obtain ⟨x62, ex62, hf1⟩ := mx_lt hf1
      refine gw_iinc C 3 [(5, .int x62), (2, .long x44), (0, .long p1), (4, .int s8.2.1)] d_Words_numberOf_62 rfl (by rw [ex62]; rfl) (by decide) rfl ?_
      refine gw_goto C 8 d_Words_numberOf_65 (by decide) ?_
      exact gw_go [2, 1, 3, 0] (ih8 (x44, s8.2.1, x62) (hb8.trans hf1.symm)) rfl

