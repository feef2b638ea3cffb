noncomputable def f_Words_numberOf (z : Nat → Nat) (σ : Mm) (p1 : Int64) : Option (Int32) := some (-1)
def y_Words_numberOf : MethodName := ⟨"NameHat$Words", "numberOf", "(J)I"⟩
abbrev b_Words_numberOf : ByteArray := prog_12_method_2_code
abbrev rm_Words_numberOf : Room := { frames := 10, cells := 0, slots := 0, locals := 400 }
theorem hd_Words_numberOf : y_Words_numberOf.cls ≠ "java/lang/invoke/MethodHandle" ∧ y_Words_numberOf.cls ≠ "java/lang/invoke/VarHandle" ∧ (parseMethodDescriptor y_Words_numberOf.desc).map (fun d => d.parameters.length) = some 1 := by decide +kernel
theorem c_Words_numberOf (l : Launch) {L : Ly} (hg : gd_ok L) {σ : Mm} {p1 : Int64} {res : Int32} (hf0 : f_Words_numberOf (ly_z L) σ p1 = some res) : CtI l y_Words_numberOf b_Words_numberOf 6 (some .int) rm_Words_numberOf L [.long p1] σ res σ := sorry
noncomputable def f_Rings_closes (z : Nat → Nat) (σ : Mm) (o1 : Nat) (p2 p3 p4 : Int32) : Option (Int32 × Mm) := none
def y_Rings_closes : MethodName := ⟨"NameHat$Rings", "closes", "(LNameHat$Rings;III)Z"⟩
abbrev b_Rings_closes : ByteArray := prog_7_method_4_code
abbrev rm_Rings_closes : Room := { frames := 40, cells := 0, slots := 0, locals := 4000 }
theorem hd_Rings_closes : y_Rings_closes.cls ≠ "java/lang/invoke/MethodHandle" ∧ y_Rings_closes.cls ≠ "java/lang/invoke/VarHandle" ∧ (parseMethodDescriptor y_Rings_closes.desc).map (fun d => d.parameters.length) = some 4 := by decide +kernel
theorem c_Rings_closes (l : Launch) {L : Ly} (hg : gd_ok L) {σ : Mm} {o1 : Nat} {p2 p3 p4 : Int32} (k : ly_k L o1 = 5) {res : Int32 × Mm} (hf0 : f_Rings_closes (ly_z L) σ o1 p2 p3 p4 = some res) : CtI l y_Rings_closes b_Rings_closes 7 (some .boolean) rm_Rings_closes L [.ref (ly_a L o1), .int p2, .int p3, .int p4] σ res.1 res.2 := sorry
noncomputable def f_Seating_seatFrom (z : Nat → Nat) (σ : Mm) (o1 : Nat) (p2 p3 : Int32) : Option (Int32 × Mm) := none
def y_Seating_seatFrom : MethodName := ⟨"NameHat$Seating", "seatFrom", "(LNameHat$Seating;II)Z"⟩
abbrev b_Seating_seatFrom : ByteArray := prog_9_method_3_code
abbrev rm_Seating_seatFrom : Room := { frames := 40, cells := 0, slots := 0, locals := 4000 }
theorem hd_Seating_seatFrom : y_Seating_seatFrom.cls ≠ "java/lang/invoke/MethodHandle" ∧ y_Seating_seatFrom.cls ≠ "java/lang/invoke/VarHandle" ∧ (parseMethodDescriptor y_Seating_seatFrom.desc).map (fun d => d.parameters.length) = some 3 := by decide +kernel
theorem c_Seating_seatFrom (l : Launch) {L : Ly} (hg : gd_ok L) {σ : Mm} {o1 : Nat} {p2 p3 : Int32} (k : ly_k L o1 = 6) {res : Int32 × Mm} (hf0 : f_Seating_seatFrom (ly_z L) σ o1 p2 p3 = some res) : CtI l y_Seating_seatFrom b_Seating_seatFrom 7 (some .boolean) rm_Seating_seatFrom L [.ref (ly_a L o1), .int p2, .int p3] σ res.1 res.2 := sorry
