def mm_ex {α β : Type} (q : Option α) (x : β) (f : α → β) : β := q.elim x f
abbrev b_Law_surname : ByteArray := method_3_code
def y_Law_surname : MethodName := ⟨"NameHatLaw", "surname", "(LNameHat;II[J)I"⟩
abbrev rm_Law_surname : Room := { frames := 7, cells := 1, slots := 6, locals := 104 }
theorem hd_Law_surname : y_Law_surname.cls ≠ "java/lang/invoke/MethodHandle" ∧ y_Law_surname.cls ≠ "java/lang/invoke/VarHandle" ∧ (parseMethodDescriptor y_Law_surname.desc).map (fun d => d.parameters.length) = some 4 := by decide +kernel
theorem d_Law_surname_0 : decode b_Law_surname 0 = .ok (.aload_n 3, 1) := by decide +kernel
theorem d_Law_surname_1 : decode b_Law_surname 1 = .ok (.iconst 0, 1) := by decide +kernel
theorem d_Law_surname_2 : decode b_Law_surname 2 = .ok (.aload_n 0, 1) := by decide +kernel
theorem d_Law_surname_3 : decode b_Law_surname 3 = .ok (.iload_n 1, 1) := by decide +kernel
theorem d_Law_surname_4 : decode b_Law_surname 4 = .ok (.iload_n 2, 1) := by decide +kernel
theorem d_Law_surname_5 : decode b_Law_surname 5 = .ok (.invokevirtual 7, 3) := by decide +kernel
theorem d_Law_surname_8 : decode b_Law_surname 8 = .ok (.i2l, 1) := by decide +kernel
theorem d_Law_surname_9 : decode b_Law_surname 9 = .ok (.lastore, 1) := by decide +kernel
theorem d_Law_surname_10 : decode b_Law_surname 10 = .ok (.goto 7, 3) := by decide +kernel
theorem d_Law_surname_13 : decode b_Law_surname 13 = .ok (.astore 4, 2) := by decide +kernel
theorem d_Law_surname_15 : decode b_Law_surname 15 = .ok (.iconst 1, 1) := by decide +kernel
theorem d_Law_surname_16 : decode b_Law_surname 16 = .ok (.ireturn, 1) := by decide +kernel
theorem d_Law_surname_17 : decode b_Law_surname 17 = .ok (.iconst 0, 1) := by decide +kernel
theorem d_Law_surname_18 : decode b_Law_surname 18 = .ok (.ireturn, 1) := by decide +kernel
noncomputable def f_Law_surname (z : Nat → Nat) (σ : Mm) (o : Nat) (p1 p2 : Int32) (oo : Nat) : Option (Int32 × Mm) :=
  (f_Hat_surname z σ o p1 p2).bind fun r => mm_ex r (some ((1 : Int32), σ)) (fun q => (mm_stL q.2 oo (z oo) (0 : Int32) (Int32.toInt64 q.1)).bind fun m => some ((0 : Int32), m))
set_option maxHeartbeats 4000000 in
theorem c_Law_surname (l : Launch) (hl : l.stackTraces = false) {L : Ly} (hg : gd_ok L) {σ : Mm} {o : Nat} {p1 p2 : Int32} {oo : Nat} (k_o_0 : ly_k L o = 10) (k_oo : ly_k L oo = 21) {res : Int32 × Mm} (hf0 : f_Law_surname (ly_z L) σ o p1 p2 oo = some res) : CwI l y_Law_surname b_Law_surname 5 [(0, 10, 13, 13)] rm_Law_surname L [.ref (ly_a L o), .int p1, .int p2, .ref (ly_a L oo)] σ res.1 res.2 := by
  refine ct_w hg (by decide) (Nat.le_of_ble_eq_true rfl) ?_
  intro E A Q hE C htab hX hN
  subst hE
  unfold f_Law_surname at hf0
  obtain ⟨q, hq, hf0⟩ := mx_bd hf0
  show GW E L A 5 0 0 Q σ 0 [(0, .ref (ly_a L o)), (1, .int p1), (2, .int p2), (3, .ref (ly_a L oo))] []
  refine gw_aload_n C 3 d_Law_surname_0 rfl rfl ?_
  refine gw_iconst C (0 : Int32) d_Law_surname_1 (by decide) ?_
  refine gw_aload_n C 0 d_Law_surname_2 rfl rfl ?_
  refine gw_iload_n C 1 d_Law_surname_3 rfl rfl ?_
  refine gw_iload_n C 2 d_Law_surname_4 rfl rfl ?_
  refine gw_callXI (x0 := ⟨0, 10, 13, 13⟩) C hX (c_Hat_surname _ hl hg k_o_0 hq) (htab.trans rfl) (by decide) (by decide) qw_992 d_Law_surname_5 2 qw_993 qw_994 qw_995 qw_1 qw_996 k_o_0 rfl hd_Hat_surname rfl rfl (Nat.le_of_ble_eq_true rfl) ⟨rfl, rfl, (Nat.le_of_ble_eq_true rfl), (Nat.le_of_ble_eq_true rfl)⟩ ⟨(Nat.le_of_ble_eq_true rfl), (Nat.le_of_ble_eq_true rfl)⟩ (fun hr q9 => ?_) (fun r σ9 hr => ?_)
  · subst hr
    cases hf0
    show GW E L A 5 1 6 Q σ 13 [(0, .ref (ly_a L o)), (1, .int p1), (2, .int p2), (3, .ref (ly_a L oo))] [.ref q9]
    refine gw_astore C [(4, .ref q9), (0, .ref (ly_a L o)), (1, .int p1), (2, .int p2), (3, .ref (ly_a L oo))] d_Law_surname_13 (by decide) rfl ?_
    refine gw_iconst C (1 : Int32) d_Law_surname_15 (by decide) ?_
    exact hN _ _ d_Law_surname_16
  · subst hr
    replace hf0 : (mm_stL σ9 oo (ly_z L oo) (0 : Int32) (Int32.toInt64 r)).bind (fun m => some ((0 : Int32), m)) = some res := hf0
    obtain ⟨m9, hm9, hf0⟩ := mx_bd hf0
    obtain ⟨gm, em⟩ := mx_stL hm9
    cases hf0
    refine gw_i2l C d_Law_surname_8 ?_
    refine gw_last C d_Law_surname_9 k_oo gm em ?_
    refine gw_goto C 17 d_Law_surname_10 (by decide) ?_
    refine gw_iconst C (0 : Int32) d_Law_surname_17 (by decide) ?_
    exact hN _ _ d_Law_surname_18
abbrev b_Law_house : ByteArray := method_4_code
def y_Law_house : MethodName := ⟨"NameHatLaw", "house", "(LNameHat;II[J)I"⟩
abbrev rm_Law_house : Room := { frames := 7, cells := 1, slots := 6, locals := 104 }
theorem hd_Law_house : y_Law_house.cls ≠ "java/lang/invoke/MethodHandle" ∧ y_Law_house.cls ≠ "java/lang/invoke/VarHandle" ∧ (parseMethodDescriptor y_Law_house.desc).map (fun d => d.parameters.length) = some 4 := by decide +kernel
theorem d_Law_house_0 : decode b_Law_house 0 = .ok (.aload_n 3, 1) := by decide +kernel
theorem d_Law_house_1 : decode b_Law_house 1 = .ok (.iconst 0, 1) := by decide +kernel
theorem d_Law_house_2 : decode b_Law_house 2 = .ok (.aload_n 0, 1) := by decide +kernel
theorem d_Law_house_3 : decode b_Law_house 3 = .ok (.iload_n 1, 1) := by decide +kernel
theorem d_Law_house_4 : decode b_Law_house 4 = .ok (.iload_n 2, 1) := by decide +kernel
theorem d_Law_house_5 : decode b_Law_house 5 = .ok (.invokevirtual 15, 3) := by decide +kernel
theorem d_Law_house_8 : decode b_Law_house 8 = .ok (.i2l, 1) := by decide +kernel
theorem d_Law_house_9 : decode b_Law_house 9 = .ok (.lastore, 1) := by decide +kernel
theorem d_Law_house_10 : decode b_Law_house 10 = .ok (.goto 7, 3) := by decide +kernel
theorem d_Law_house_13 : decode b_Law_house 13 = .ok (.astore 4, 2) := by decide +kernel
theorem d_Law_house_15 : decode b_Law_house 15 = .ok (.iconst 1, 1) := by decide +kernel
theorem d_Law_house_16 : decode b_Law_house 16 = .ok (.ireturn, 1) := by decide +kernel
theorem d_Law_house_17 : decode b_Law_house 17 = .ok (.iconst 0, 1) := by decide +kernel
theorem d_Law_house_18 : decode b_Law_house 18 = .ok (.ireturn, 1) := by decide +kernel
noncomputable def f_Law_house (z : Nat → Nat) (σ : Mm) (o : Nat) (p1 p2 : Int32) (oo : Nat) : Option (Int32 × Mm) :=
  (f_Hat_house z σ o p1 p2).bind fun r => mm_ex r (some ((1 : Int32), σ)) (fun q => (mm_stL q.2 oo (z oo) (0 : Int32) (Int32.toInt64 q.1)).bind fun m => some ((0 : Int32), m))
set_option maxHeartbeats 4000000 in
theorem c_Law_house (l : Launch) (hl : l.stackTraces = false) {L : Ly} (hg : gd_ok L) {σ : Mm} {o : Nat} {p1 p2 : Int32} {oo : Nat} (k_o_0 : ly_k L o = 10) (k_oo : ly_k L oo = 21) {res : Int32 × Mm} (hf0 : f_Law_house (ly_z L) σ o p1 p2 oo = some res) : CwI l y_Law_house b_Law_house 5 [(0, 10, 13, 13)] rm_Law_house L [.ref (ly_a L o), .int p1, .int p2, .ref (ly_a L oo)] σ res.1 res.2 := by
  refine ct_w hg (by decide) (Nat.le_of_ble_eq_true rfl) ?_
  intro E A Q hE C htab hX hN
  subst hE
  unfold f_Law_house at hf0
  obtain ⟨q, hq, hf0⟩ := mx_bd hf0
  show GW E L A 5 0 0 Q σ 0 [(0, .ref (ly_a L o)), (1, .int p1), (2, .int p2), (3, .ref (ly_a L oo))] []
  refine gw_aload_n C 3 d_Law_house_0 rfl rfl ?_
  refine gw_iconst C (0 : Int32) d_Law_house_1 (by decide) ?_
  refine gw_aload_n C 0 d_Law_house_2 rfl rfl ?_
  refine gw_iload_n C 1 d_Law_house_3 rfl rfl ?_
  refine gw_iload_n C 2 d_Law_house_4 rfl rfl ?_
  refine gw_callXI (x0 := ⟨0, 10, 13, 13⟩) C hX (c_Hat_house _ hl hg k_o_0 hq) (htab.trans rfl) (by decide) (by decide) qw_992 d_Law_house_5 2 qw_1066 qw_1067 qw_1068 qw_1 qw_1069 k_o_0 rfl hd_Hat_house rfl rfl (Nat.le_of_ble_eq_true rfl) ⟨rfl, rfl, (Nat.le_of_ble_eq_true rfl), (Nat.le_of_ble_eq_true rfl)⟩ ⟨(Nat.le_of_ble_eq_true rfl), (Nat.le_of_ble_eq_true rfl)⟩ (fun hr q9 => ?_) (fun r σ9 hr => ?_)
  · subst hr
    cases hf0
    show GW E L A 5 1 6 Q σ 13 [(0, .ref (ly_a L o)), (1, .int p1), (2, .int p2), (3, .ref (ly_a L oo))] [.ref q9]
    refine gw_astore C [(4, .ref q9), (0, .ref (ly_a L o)), (1, .int p1), (2, .int p2), (3, .ref (ly_a L oo))] d_Law_house_13 (by decide) rfl ?_
    refine gw_iconst C (1 : Int32) d_Law_house_15 (by decide) ?_
    exact hN _ _ d_Law_house_16
  · subst hr
    replace hf0 : (mm_stL σ9 oo (ly_z L oo) (0 : Int32) (Int32.toInt64 r)).bind (fun m => some ((0 : Int32), m)) = some res := hf0
    obtain ⟨m9, hm9, hf0⟩ := mx_bd hf0
    obtain ⟨gm, em⟩ := mx_stL hm9
    cases hf0
    refine gw_i2l C d_Law_house_8 ?_
    refine gw_last C d_Law_house_9 k_oo gm em ?_
    refine gw_goto C 17 d_Law_house_10 (by decide) ?_
    refine gw_iconst C (0 : Int32) d_Law_house_17 (by decide) ?_
    exact hN _ _ d_Law_house_18
abbrev b_Law_value : ByteArray := method_5_code
def y_Law_value : MethodName := ⟨"NameHatLaw", "value", "(LNameHat;II[J)I"⟩
abbrev rm_Law_value : Room := { frames := 7, cells := 1, slots := 6, locals := 104 }
theorem hd_Law_value : y_Law_value.cls ≠ "java/lang/invoke/MethodHandle" ∧ y_Law_value.cls ≠ "java/lang/invoke/VarHandle" ∧ (parseMethodDescriptor y_Law_value.desc).map (fun d => d.parameters.length) = some 4 := by decide +kernel
theorem d_Law_value_0 : decode b_Law_value 0 = .ok (.aload_n 3, 1) := by decide +kernel
theorem d_Law_value_1 : decode b_Law_value 1 = .ok (.iconst 0, 1) := by decide +kernel
theorem d_Law_value_2 : decode b_Law_value 2 = .ok (.aload_n 0, 1) := by decide +kernel
theorem d_Law_value_3 : decode b_Law_value 3 = .ok (.iload_n 1, 1) := by decide +kernel
theorem d_Law_value_4 : decode b_Law_value 4 = .ok (.iload_n 2, 1) := by decide +kernel
theorem d_Law_value_5 : decode b_Law_value 5 = .ok (.invokevirtual 18, 3) := by decide +kernel
theorem d_Law_value_8 : decode b_Law_value 8 = .ok (.i2l, 1) := by decide +kernel
theorem d_Law_value_9 : decode b_Law_value 9 = .ok (.lastore, 1) := by decide +kernel
theorem d_Law_value_10 : decode b_Law_value 10 = .ok (.goto 7, 3) := by decide +kernel
theorem d_Law_value_13 : decode b_Law_value 13 = .ok (.astore 4, 2) := by decide +kernel
theorem d_Law_value_15 : decode b_Law_value 15 = .ok (.iconst 1, 1) := by decide +kernel
theorem d_Law_value_16 : decode b_Law_value 16 = .ok (.ireturn, 1) := by decide +kernel
theorem d_Law_value_17 : decode b_Law_value 17 = .ok (.iconst 0, 1) := by decide +kernel
theorem d_Law_value_18 : decode b_Law_value 18 = .ok (.ireturn, 1) := by decide +kernel
noncomputable def f_Law_value (z : Nat → Nat) (σ : Mm) (o : Nat) (p1 p2 : Int32) (oo : Nat) : Option (Int32 × Mm) :=
  (f_Hat_value z σ o p1 p2).bind fun r => mm_ex r (some ((1 : Int32), σ)) (fun q => (mm_stL q.2 oo (z oo) (0 : Int32) (Int32.toInt64 q.1)).bind fun m => some ((0 : Int32), m))
set_option maxHeartbeats 4000000 in
theorem c_Law_value (l : Launch) (hl : l.stackTraces = false) {L : Ly} (hg : gd_ok L) {σ : Mm} {o : Nat} {p1 p2 : Int32} {oo : Nat} (k_o_0 : ly_k L o = 10) (k_oo : ly_k L oo = 21) {res : Int32 × Mm} (hf0 : f_Law_value (ly_z L) σ o p1 p2 oo = some res) : CwI l y_Law_value b_Law_value 5 [(0, 10, 13, 13)] rm_Law_value L [.ref (ly_a L o), .int p1, .int p2, .ref (ly_a L oo)] σ res.1 res.2 := by
  refine ct_w hg (by decide) (Nat.le_of_ble_eq_true rfl) ?_
  intro E A Q hE C htab hX hN
  subst hE
  unfold f_Law_value at hf0
  obtain ⟨q, hq, hf0⟩ := mx_bd hf0
  show GW E L A 5 0 0 Q σ 0 [(0, .ref (ly_a L o)), (1, .int p1), (2, .int p2), (3, .ref (ly_a L oo))] []
  refine gw_aload_n C 3 d_Law_value_0 rfl rfl ?_
  refine gw_iconst C (0 : Int32) d_Law_value_1 (by decide) ?_
  refine gw_aload_n C 0 d_Law_value_2 rfl rfl ?_
  refine gw_iload_n C 1 d_Law_value_3 rfl rfl ?_
  refine gw_iload_n C 2 d_Law_value_4 rfl rfl ?_
  refine gw_callXI (x0 := ⟨0, 10, 13, 13⟩) C hX (c_Hat_value _ hl hg k_o_0 hq) (htab.trans rfl) (by decide) (by decide) qw_992 d_Law_value_5 2 qw_1074 qw_1075 qw_1076 qw_1 qw_1077 k_o_0 rfl hd_Hat_value rfl rfl (Nat.le_of_ble_eq_true rfl) ⟨rfl, rfl, (Nat.le_of_ble_eq_true rfl), (Nat.le_of_ble_eq_true rfl)⟩ ⟨(Nat.le_of_ble_eq_true rfl), (Nat.le_of_ble_eq_true rfl)⟩ (fun hr q9 => ?_) (fun r σ9 hr => ?_)
  · subst hr
    cases hf0
    show GW E L A 5 1 6 Q σ 13 [(0, .ref (ly_a L o)), (1, .int p1), (2, .int p2), (3, .ref (ly_a L oo))] [.ref q9]
    refine gw_astore C [(4, .ref q9), (0, .ref (ly_a L o)), (1, .int p1), (2, .int p2), (3, .ref (ly_a L oo))] d_Law_value_13 (by decide) rfl ?_
    refine gw_iconst C (1 : Int32) d_Law_value_15 (by decide) ?_
    exact hN _ _ d_Law_value_16
  · subst hr
    replace hf0 : (mm_stL σ9 oo (ly_z L oo) (0 : Int32) (Int32.toInt64 r)).bind (fun m => some ((0 : Int32), m)) = some res := hf0
    obtain ⟨m9, hm9, hf0⟩ := mx_bd hf0
    obtain ⟨gm, em⟩ := mx_stL hm9
    cases hf0
    refine gw_i2l C d_Law_value_8 ?_
    refine gw_last C d_Law_value_9 k_oo gm em ?_
    refine gw_goto C 17 d_Law_value_10 (by decide) ?_
    refine gw_iconst C (0 : Int32) d_Law_value_17 (by decide) ?_
    exact hN _ _ d_Law_value_18
abbrev b_Law_waiting : ByteArray := method_6_code
def y_Law_waiting : MethodName := ⟨"NameHatLaw", "waiting", "(LNameHat;II[J)I"⟩
abbrev rm_Law_waiting : Room := { frames := 7, cells := 1, slots := 6, locals := 107 }
theorem hd_Law_waiting : y_Law_waiting.cls ≠ "java/lang/invoke/MethodHandle" ∧ y_Law_waiting.cls ≠ "java/lang/invoke/VarHandle" ∧ (parseMethodDescriptor y_Law_waiting.desc).map (fun d => d.parameters.length) = some 4 := by decide +kernel
theorem d_Law_waiting_0 : decode b_Law_waiting 0 = .ok (.aload_n 3, 1) := by decide +kernel
theorem d_Law_waiting_1 : decode b_Law_waiting 1 = .ok (.iconst 0, 1) := by decide +kernel
theorem d_Law_waiting_2 : decode b_Law_waiting 2 = .ok (.aload_n 0, 1) := by decide +kernel
theorem d_Law_waiting_3 : decode b_Law_waiting 3 = .ok (.iload_n 1, 1) := by decide +kernel
theorem d_Law_waiting_4 : decode b_Law_waiting 4 = .ok (.iload_n 2, 1) := by decide +kernel
theorem d_Law_waiting_5 : decode b_Law_waiting 5 = .ok (.invokevirtual 21, 3) := by decide +kernel
theorem d_Law_waiting_8 : decode b_Law_waiting 8 = .ok (.i2l, 1) := by decide +kernel
theorem d_Law_waiting_9 : decode b_Law_waiting 9 = .ok (.lastore, 1) := by decide +kernel
theorem d_Law_waiting_10 : decode b_Law_waiting 10 = .ok (.goto 7, 3) := by decide +kernel
theorem d_Law_waiting_13 : decode b_Law_waiting 13 = .ok (.astore 4, 2) := by decide +kernel
theorem d_Law_waiting_15 : decode b_Law_waiting 15 = .ok (.iconst 1, 1) := by decide +kernel
theorem d_Law_waiting_16 : decode b_Law_waiting 16 = .ok (.ireturn, 1) := by decide +kernel
theorem d_Law_waiting_17 : decode b_Law_waiting 17 = .ok (.iconst 0, 1) := by decide +kernel
theorem d_Law_waiting_18 : decode b_Law_waiting 18 = .ok (.ireturn, 1) := by decide +kernel
noncomputable def f_Law_waiting (z : Nat → Nat) (σ : Mm) (o : Nat) (p1 p2 : Int32) (oo : Nat) : Option (Int32 × Mm) :=
  (f_Hat_waiting z σ o p1 p2).bind fun r => mm_ex r (some ((1 : Int32), σ)) (fun q => (mm_stL q.2 oo (z oo) (0 : Int32) (Int32.toInt64 q.1)).bind fun m => some ((0 : Int32), m))
set_option maxHeartbeats 4000000 in
theorem c_Law_waiting (l : Launch) (hl : l.stackTraces = false) {L : Ly} (hg : gd_ok L) {σ : Mm} {o : Nat} {p1 p2 : Int32} {oo : Nat} (k_o_0 : ly_k L o = 10) (k_oo : ly_k L oo = 21) {res : Int32 × Mm} (hf0 : f_Law_waiting (ly_z L) σ o p1 p2 oo = some res) : CwI l y_Law_waiting b_Law_waiting 5 [(0, 10, 13, 13)] rm_Law_waiting L [.ref (ly_a L o), .int p1, .int p2, .ref (ly_a L oo)] σ res.1 res.2 := by
  refine ct_w hg (by decide) (Nat.le_of_ble_eq_true rfl) ?_
  intro E A Q hE C htab hX hN
  subst hE
  unfold f_Law_waiting at hf0
  obtain ⟨q, hq, hf0⟩ := mx_bd hf0
  show GW E L A 5 0 0 Q σ 0 [(0, .ref (ly_a L o)), (1, .int p1), (2, .int p2), (3, .ref (ly_a L oo))] []
  refine gw_aload_n C 3 d_Law_waiting_0 rfl rfl ?_
  refine gw_iconst C (0 : Int32) d_Law_waiting_1 (by decide) ?_
  refine gw_aload_n C 0 d_Law_waiting_2 rfl rfl ?_
  refine gw_iload_n C 1 d_Law_waiting_3 rfl rfl ?_
  refine gw_iload_n C 2 d_Law_waiting_4 rfl rfl ?_
  refine gw_callXI (x0 := ⟨0, 10, 13, 13⟩) C hX (c_Hat_waiting _ hl hg k_o_0 hq) (htab.trans rfl) (by decide) (by decide) qw_992 d_Law_waiting_5 2 qw_1082 qw_1083 qw_1084 qw_1 qw_1085 k_o_0 rfl hd_Hat_waiting rfl rfl (Nat.le_of_ble_eq_true rfl) ⟨rfl, rfl, (Nat.le_of_ble_eq_true rfl), (Nat.le_of_ble_eq_true rfl)⟩ ⟨(Nat.le_of_ble_eq_true rfl), (Nat.le_of_ble_eq_true rfl)⟩ (fun hr q9 => ?_) (fun r σ9 hr => ?_)
  · subst hr
    cases hf0
    show GW E L A 5 1 6 Q σ 13 [(0, .ref (ly_a L o)), (1, .int p1), (2, .int p2), (3, .ref (ly_a L oo))] [.ref q9]
    refine gw_astore C [(4, .ref q9), (0, .ref (ly_a L o)), (1, .int p1), (2, .int p2), (3, .ref (ly_a L oo))] d_Law_waiting_13 (by decide) rfl ?_
    refine gw_iconst C (1 : Int32) d_Law_waiting_15 (by decide) ?_
    exact hN _ _ d_Law_waiting_16
  · subst hr
    replace hf0 : (mm_stL σ9 oo (ly_z L oo) (0 : Int32) (Int32.toInt64 r)).bind (fun m => some ((0 : Int32), m)) = some res := hf0
    obtain ⟨m9, hm9, hf0⟩ := mx_bd hf0
    obtain ⟨gm, em⟩ := mx_stL hm9
    cases hf0
    refine gw_i2l C d_Law_waiting_8 ?_
    refine gw_last C d_Law_waiting_9 k_oo gm em ?_
    refine gw_goto C 17 d_Law_waiting_10 (by decide) ?_
    refine gw_iconst C (0 : Int32) d_Law_waiting_17 (by decide) ?_
    exact hN _ _ d_Law_waiting_18
abbrev b_Law_wedding : ByteArray := method_7_code
def y_Law_wedding : MethodName := ⟨"NameHatLaw", "wedding", "(LNameHat;IIII[J)I"⟩
abbrev rm_Law_wedding : Room := { frames := 7, cells := 1, slots := 6, locals := 143 }
theorem hd_Law_wedding : y_Law_wedding.cls ≠ "java/lang/invoke/MethodHandle" ∧ y_Law_wedding.cls ≠ "java/lang/invoke/VarHandle" ∧ (parseMethodDescriptor y_Law_wedding.desc).map (fun d => d.parameters.length) = some 6 := by decide +kernel
theorem d_Law_wedding_0 : decode b_Law_wedding 0 = .ok (.aload 5, 2) := by decide +kernel
theorem d_Law_wedding_2 : decode b_Law_wedding 2 = .ok (.iconst 0, 1) := by decide +kernel
theorem d_Law_wedding_3 : decode b_Law_wedding 3 = .ok (.aload_n 0, 1) := by decide +kernel
theorem d_Law_wedding_4 : decode b_Law_wedding 4 = .ok (.iload_n 1, 1) := by decide +kernel
theorem d_Law_wedding_5 : decode b_Law_wedding 5 = .ok (.iload_n 2, 1) := by decide +kernel
theorem d_Law_wedding_6 : decode b_Law_wedding 6 = .ok (.iload_n 3, 1) := by decide +kernel
theorem d_Law_wedding_7 : decode b_Law_wedding 7 = .ok (.iload 4, 2) := by decide +kernel
theorem d_Law_wedding_9 : decode b_Law_wedding 9 = .ok (.invokevirtual 24, 3) := by decide +kernel
theorem d_Law_wedding_12 : decode b_Law_wedding 12 = .ok (.i2l, 1) := by decide +kernel
theorem d_Law_wedding_13 : decode b_Law_wedding 13 = .ok (.lastore, 1) := by decide +kernel
theorem d_Law_wedding_14 : decode b_Law_wedding 14 = .ok (.goto 7, 3) := by decide +kernel
theorem d_Law_wedding_17 : decode b_Law_wedding 17 = .ok (.astore 6, 2) := by decide +kernel
theorem d_Law_wedding_19 : decode b_Law_wedding 19 = .ok (.iconst 1, 1) := by decide +kernel
theorem d_Law_wedding_20 : decode b_Law_wedding 20 = .ok (.ireturn, 1) := by decide +kernel
theorem d_Law_wedding_21 : decode b_Law_wedding 21 = .ok (.iconst 0, 1) := by decide +kernel
theorem d_Law_wedding_22 : decode b_Law_wedding 22 = .ok (.ireturn, 1) := by decide +kernel
noncomputable def f_Law_wedding (z : Nat → Nat) (σ : Mm) (o : Nat) (p1 p2 p3 p4 : Int32) (oo : Nat) : Option (Int32 × Mm) :=
  (f_Hat_wedding z σ o p1 p2 p3 p4).bind fun r => mm_ex r (some ((1 : Int32), σ)) (fun q => (mm_stL q.2 oo (z oo) (0 : Int32) (Int32.toInt64 q.1)).bind fun m => some ((0 : Int32), m))
set_option maxHeartbeats 4000000 in
theorem c_Law_wedding (l : Launch) (hl : l.stackTraces = false) {L : Ly} (hg : gd_ok L) {σ : Mm} {o : Nat} {p1 p2 p3 p4 : Int32} {oo : Nat} (k_o_0 : ly_k L o = 10) (k_oo : ly_k L oo = 21) {res : Int32 × Mm} (hf0 : f_Law_wedding (ly_z L) σ o p1 p2 p3 p4 oo = some res) : CwI l y_Law_wedding b_Law_wedding 7 [(0, 14, 17, 13)] rm_Law_wedding L [.ref (ly_a L o), .int p1, .int p2, .int p3, .int p4, .ref (ly_a L oo)] σ res.1 res.2 := by
  refine ct_w hg (by decide) (Nat.le_of_ble_eq_true rfl) ?_
  intro E A Q hE C htab hX hN
  subst hE
  unfold f_Law_wedding at hf0
  obtain ⟨q, hq, hf0⟩ := mx_bd hf0
  show GW E L A 7 0 0 Q σ 0 [(0, .ref (ly_a L o)), (1, .int p1), (2, .int p2), (3, .int p3), (4, .int p4), (5, .ref (ly_a L oo))] []
  refine gw_aload C 5 d_Law_wedding_0 rfl ?_
  refine gw_iconst C (0 : Int32) d_Law_wedding_2 (by decide) ?_
  refine gw_aload_n C 0 d_Law_wedding_3 rfl rfl ?_
  refine gw_iload_n C 1 d_Law_wedding_4 rfl rfl ?_
  refine gw_iload_n C 2 d_Law_wedding_5 rfl rfl ?_
  refine gw_iload_n C 3 d_Law_wedding_6 rfl rfl ?_
  refine gw_iload C 4 d_Law_wedding_7 rfl ?_
  refine gw_callXI (x0 := ⟨0, 14, 17, 13⟩) C hX (c_Hat_wedding _ hl hg k_o_0 hq) (htab.trans rfl) (by decide) (by decide) qw_992 d_Law_wedding_9 4 qw_1096 qw_1097 qw_1098 qw_1 qw_1099 k_o_0 rfl hd_Hat_wedding rfl rfl (Nat.le_of_ble_eq_true rfl) ⟨rfl, rfl, (Nat.le_of_ble_eq_true rfl), (Nat.le_of_ble_eq_true rfl)⟩ ⟨(Nat.le_of_ble_eq_true rfl), (Nat.le_of_ble_eq_true rfl)⟩ (fun hr q9 => ?_) (fun r σ9 hr => ?_)
  · subst hr
    cases hf0
    show GW E L A 7 1 6 Q σ 17 [(0, .ref (ly_a L o)), (1, .int p1), (2, .int p2), (3, .int p3), (4, .int p4), (5, .ref (ly_a L oo))] [.ref q9]
    refine gw_astore C [(6, .ref q9), (0, .ref (ly_a L o)), (1, .int p1), (2, .int p2), (3, .int p3), (4, .int p4), (5, .ref (ly_a L oo))] d_Law_wedding_17 (by decide) rfl ?_
    refine gw_iconst C (1 : Int32) d_Law_wedding_19 (by decide) ?_
    exact hN _ _ d_Law_wedding_20
  · subst hr
    replace hf0 : (mm_stL σ9 oo (ly_z L oo) (0 : Int32) (Int32.toInt64 r)).bind (fun m => some ((0 : Int32), m)) = some res := hf0
    obtain ⟨m9, hm9, hf0⟩ := mx_bd hf0
    obtain ⟨gm, em⟩ := mx_stL hm9
    cases hf0
    refine gw_i2l C d_Law_wedding_12 ?_
    refine gw_last C d_Law_wedding_13 k_oo gm em ?_
    refine gw_goto C 21 d_Law_wedding_14 (by decide) ?_
    refine gw_iconst C (0 : Int32) d_Law_wedding_21 (by decide) ?_
    exact hN _ _ d_Law_wedding_22
abbrev b_Law_luck : ByteArray := method_8_code
def y_Law_luck : MethodName := ⟨"NameHatLaw", "luck", "(LNameHat;III[J)I"⟩
abbrev rm_Law_luck : Room := { frames := 7, cells := 1, slots := 6, locals := 109 }
theorem hd_Law_luck : y_Law_luck.cls ≠ "java/lang/invoke/MethodHandle" ∧ y_Law_luck.cls ≠ "java/lang/invoke/VarHandle" ∧ (parseMethodDescriptor y_Law_luck.desc).map (fun d => d.parameters.length) = some 5 := by decide +kernel
theorem d_Law_luck_0 : decode b_Law_luck 0 = .ok (.aload 4, 2) := by decide +kernel
theorem d_Law_luck_2 : decode b_Law_luck 2 = .ok (.iconst 0, 1) := by decide +kernel
theorem d_Law_luck_3 : decode b_Law_luck 3 = .ok (.aload_n 0, 1) := by decide +kernel
theorem d_Law_luck_4 : decode b_Law_luck 4 = .ok (.iload_n 1, 1) := by decide +kernel
theorem d_Law_luck_5 : decode b_Law_luck 5 = .ok (.iload_n 2, 1) := by decide +kernel
theorem d_Law_luck_6 : decode b_Law_luck 6 = .ok (.iload_n 3, 1) := by decide +kernel
theorem d_Law_luck_7 : decode b_Law_luck 7 = .ok (.invokevirtual 28, 3) := by decide +kernel
theorem d_Law_luck_10 : decode b_Law_luck 10 = .ok (.lastore, 1) := by decide +kernel
theorem d_Law_luck_11 : decode b_Law_luck 11 = .ok (.goto 7, 3) := by decide +kernel
theorem d_Law_luck_14 : decode b_Law_luck 14 = .ok (.astore 5, 2) := by decide +kernel
theorem d_Law_luck_16 : decode b_Law_luck 16 = .ok (.iconst 1, 1) := by decide +kernel
theorem d_Law_luck_17 : decode b_Law_luck 17 = .ok (.ireturn, 1) := by decide +kernel
theorem d_Law_luck_18 : decode b_Law_luck 18 = .ok (.iconst 0, 1) := by decide +kernel
theorem d_Law_luck_19 : decode b_Law_luck 19 = .ok (.ireturn, 1) := by decide +kernel
noncomputable def f_Law_luck (z : Nat → Nat) (σ : Mm) (o : Nat) (p1 p2 p3 : Int32) (oo : Nat) : Option (Int32 × Mm) :=
  (f_Hat_luck z σ o p1 p2 p3).bind fun r => mm_ex r (some ((1 : Int32), σ)) (fun q => (mm_stL q.2 oo (z oo) (0 : Int32) q.1).bind fun m => some ((0 : Int32), m))
set_option maxHeartbeats 4000000 in
theorem c_Law_luck (l : Launch) (hl : l.stackTraces = false) {L : Ly} (hg : gd_ok L) {σ : Mm} {o : Nat} {p1 p2 p3 : Int32} {oo : Nat} (k_o_0 : ly_k L o = 10) (k_oo : ly_k L oo = 21) {res : Int32 × Mm} (hf0 : f_Law_luck (ly_z L) σ o p1 p2 p3 oo = some res) : CwI l y_Law_luck b_Law_luck 6 [(0, 11, 14, 13)] rm_Law_luck L [.ref (ly_a L o), .int p1, .int p2, .int p3, .ref (ly_a L oo)] σ res.1 res.2 := by
  refine ct_w hg (by decide) (Nat.le_of_ble_eq_true rfl) ?_
  intro E A Q hE C htab hX hN
  subst hE
  unfold f_Law_luck at hf0
  obtain ⟨q, hq, hf0⟩ := mx_bd hf0
  show GW E L A 6 0 0 Q σ 0 [(0, .ref (ly_a L o)), (1, .int p1), (2, .int p2), (3, .int p3), (4, .ref (ly_a L oo))] []
  refine gw_aload C 4 d_Law_luck_0 rfl ?_
  refine gw_iconst C (0 : Int32) d_Law_luck_2 (by decide) ?_
  refine gw_aload_n C 0 d_Law_luck_3 rfl rfl ?_
  refine gw_iload_n C 1 d_Law_luck_4 rfl rfl ?_
  refine gw_iload_n C 2 d_Law_luck_5 rfl rfl ?_
  refine gw_iload_n C 3 d_Law_luck_6 rfl rfl ?_
  refine gw_callXL (x0 := ⟨0, 11, 14, 13⟩) C hX (c_Hat_luck _ hl hg k_o_0 hq) (htab.trans rfl) (by decide) (by decide) qw_992 d_Law_luck_7 3 qw_1121 qw_1122 qw_1123 qw_1 qw_1124 k_o_0 rfl hd_Hat_luck rfl rfl (Nat.le_of_ble_eq_true rfl) ⟨rfl, rfl, (Nat.le_of_ble_eq_true rfl), (Nat.le_of_ble_eq_true rfl)⟩ ⟨(Nat.le_of_ble_eq_true rfl), (Nat.le_of_ble_eq_true rfl)⟩ (fun hr q9 => ?_) (fun r σ9 hr => ?_)
  · subst hr
    cases hf0
    show GW E L A 6 1 6 Q σ 14 [(0, .ref (ly_a L o)), (1, .int p1), (2, .int p2), (3, .int p3), (4, .ref (ly_a L oo))] [.ref q9]
    refine gw_astore C [(5, .ref q9), (0, .ref (ly_a L o)), (1, .int p1), (2, .int p2), (3, .int p3), (4, .ref (ly_a L oo))] d_Law_luck_14 (by decide) rfl ?_
    refine gw_iconst C (1 : Int32) d_Law_luck_16 (by decide) ?_
    exact hN _ _ d_Law_luck_17
  · subst hr
    replace hf0 : (mm_stL σ9 oo (ly_z L oo) (0 : Int32) r).bind (fun m => some ((0 : Int32), m)) = some res := hf0
    obtain ⟨m9, hm9, hf0⟩ := mx_bd hf0
    obtain ⟨gm, em⟩ := mx_stL hm9
    cases hf0
    refine gw_last C d_Law_luck_10 k_oo gm em ?_
    refine gw_goto C 18 d_Law_luck_11 (by decide) ?_
    refine gw_iconst C (0 : Int32) d_Law_luck_18 (by decide) ?_
    exact hN _ _ d_Law_luck_19
