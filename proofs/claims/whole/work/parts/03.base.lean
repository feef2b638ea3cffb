/-! the memory of a run: int-like cells and long cells, by object and place; the layout: classes known, addresses, array classes, kinds, lengths, how many objects -/
abbrev Mm : Type := (Nat → Nat → Int32) × (Nat → Nat → Int64)
def kI (σ : Mm) (o k : Nat) (v : Int32) : Mm := (fun a b => if a = o ∧ b = k then v else σ.1 a b, σ.2)
def kL (σ : Mm) (o k : Nat) (v : Int64) : Mm := (σ.1, fun a b => if a = o ∧ b = k then v else σ.2 a b)
abbrev Ly : Type := va_G × (Nat → Nat) × (Nat → ClassId) × (Nat → Nat) × (Nat → Nat) × Nat × (Nat × Nat)
def ly_a (L : Ly) : Nat → Nat := L.2.1
def ly_c (L : Ly) : Nat → ClassId := L.2.2.1
def ly_k (L : Ly) : Nat → Nat := L.2.2.2.1
def ly_z (L : Ly) : Nat → Nat := L.2.2.2.2.1
def ly_n (L : Ly) : Nat := L.2.2.2.2.2.1
def ly_s (L : Ly) : Nat × Nat := L.2.2.2.2.2.2
def R_Row : String := "NameHat$Row"
def F_Row : u_T := fun k => match k with
  | _ => ("NameHat$Row", "cells", "[I", true)
def t_Row : Nat → FieldType := fun k => match k with
  | _ => .array .int
def R_Names : String := "NameHat$Names"
def F_Names : u_T := fun k => match k with
  | 0 => ("NameHat$Names", "letters", "[J", true)
  | _ => ("NameHat$Names", "size", "I", false)
def t_Names : Nat → FieldType := fun k => match k with
  | 0 => .array .long
  | _ => .int
def R_Island : String := "NameHat$Island"
def F_Island : u_T := fun k => match k with
  | 0 => ("NameHat$Island", "surnames", "LNameHat$Names;", true)
  | 1 => ("NameHat$Island", "houses", "LNameHat$Names;", true)
  | 2 => ("NameHat$Island", "worths", "LNameHat$Row;", true)
  | 3 => ("NameHat$Island", "kinds", "LNameHat$Row;", true)
  | 4 => ("NameHat$Island", "feuds", "LNameHat$Row;", true)
  | 5 => ("NameHat$Island", "wants", "LNameHat$Row;", true)
  | 6 => ("NameHat$Island", "pews", "I", false)
  | 7 => ("NameHat$Island", "seats", "I", false)
  | _ => ("NameHat$Island", "field", "I", false)
def t_Island : Nat → FieldType := fun k => match k with
  | 0 => .object "NameHat$Names"
  | 1 => .object "NameHat$Names"
  | 2 => .object "NameHat$Row"
  | 3 => .object "NameHat$Row"
  | 4 => .object "NameHat$Row"
  | 5 => .object "NameHat$Row"
  | 6 => .int
  | 7 => .int
  | _ => .int
def R_Hands : String := "NameHat$Hands"
def F_Hands : u_T := fun k => match k with
  | 0 => ("NameHat$Hands", "held", "LNameHat$Row;", true)
  | 1 => ("NameHat$Hands", "sits", "LNameHat$Row;", true)
  | 2 => ("NameHat$Hands", "points", "LNameHat$Row;", true)
  | _ => ("NameHat$Hands", "taken", "LNameHat$Row;", true)
def t_Hands : Nat → FieldType := fun k => match k with
  | 0 => .object "NameHat$Row"
  | 1 => .object "NameHat$Row"
  | 2 => .object "NameHat$Row"
  | _ => .object "NameHat$Row"
def R_State : String := "NameHat$State"
def F_State : u_T := fun k => match k with
  | 0 => ("NameHat$State", "island", "LNameHat$Island;", true)
  | 1 => ("NameHat$State", "hands", "LNameHat$Hands;", true)
  | 2 => ("NameHat$State", "spring", "I", false)
  | 3 => ("NameHat$State", "ended", "LNameHat$Row;", true)
  | 4 => ("NameHat$State", "drawn", "LNameHat$Row;", true)
  | 5 => ("NameHat$State", "rollLines", "I", false)
  | 6 => ("NameHat$State", "fits", "LNameHat$Row;", true)
  | 7 => ("NameHat$State", "bookLines", "I", false)
  | 8 => ("NameHat$State", "bookWords", "LNameHat$Row;", true)
  | 9 => ("NameHat$State", "bookFirsts", "LNameHat$Row;", true)
  | _ => ("NameHat$State", "bookSeconds", "LNameHat$Row;", true)
def t_State : Nat → FieldType := fun k => match k with
  | 0 => .object "NameHat$Island"
  | 1 => .object "NameHat$Hands"
  | 2 => .int
  | 3 => .object "NameHat$Row"
  | 4 => .object "NameHat$Row"
  | 5 => .int
  | 6 => .object "NameHat$Row"
  | 7 => .int
  | 8 => .object "NameHat$Row"
  | 9 => .object "NameHat$Row"
  | _ => .object "NameHat$Row"
def R_Rings : String := "NameHat$Rings"
def F_Rings : u_T := fun k => match k with
  | 0 => ("NameHat$Rings", "latest", "LNameHat$Row;", true)
  | 1 => ("NameHat$Rings", "latestLength", "I", false)
  | 2 => ("NameHat$Rings", "path", "LNameHat$Row;", true)
  | _ => ("NameHat$Rings", "wishes", "LNameHat$Row;", true)
def t_Rings : Nat → FieldType := fun k => match k with
  | 0 => .object "NameHat$Row"
  | 1 => .int
  | 2 => .object "NameHat$Row"
  | _ => .object "NameHat$Row"
def R_Seating : String := "NameHat$Seating"
def F_Seating : u_T := fun k => match k with
  | 0 => ("NameHat$Seating", "latest", "LNameHat$Row;", true)
  | 1 => ("NameHat$Seating", "latestHouses", "I", false)
  | 2 => ("NameHat$Seating", "tried", "LNameHat$Row;", true)
  | 3 => ("NameHat$Seating", "feuding", "LNameHat$Row;", true)
  | 4 => ("NameHat$Seating", "inPew", "LNameHat$Row;", true)
  | 5 => ("NameHat$Seating", "sitNow", "LNameHat$Row;", true)
  | 6 => ("NameHat$Seating", "houses", "I", false)
  | 7 => ("NameHat$Seating", "pews", "I", false)
  | _ => ("NameHat$Seating", "seats", "I", false)
def t_Seating : Nat → FieldType := fun k => match k with
  | 0 => .object "NameHat$Row"
  | 1 => .int
  | 2 => .object "NameHat$Row"
  | 3 => .object "NameHat$Row"
  | 4 => .object "NameHat$Row"
  | 5 => .object "NameHat$Row"
  | 6 => .int
  | 7 => .int
  | _ => .int
def R_Dealings : String := "NameHat$Dealings"
def F_Dealings : u_T := fun k => match k with
  | 0 => ("NameHat$Dealings", "ways", "LNameHat$Row;", true)
  | 1 => ("NameHat$Dealings", "dealtTo", "I", false)
  | _ => ("NameHat$Dealings", "sets", "I", false)
def t_Dealings : Nat → FieldType := fun k => match k with
  | 0 => .object "NameHat$Row"
  | 1 => .int
  | _ => .int
def R_Tokens : String := "NameHat$Tokens"
def F_Tokens : u_T := fun k => match k with
  | 0 => ("NameHat$Tokens", "tape", "LNameHat$Row;", true)
  | 1 => ("NameHat$Tokens", "size", "I", false)
  | 2 => ("NameHat$Tokens", "most", "I", false)
  | 3 => ("NameHat$Tokens", "behind", "I", false)
  | 4 => ("NameHat$Tokens", "kind", "I", false)
  | 5 => ("NameHat$Tokens", "place", "I", false)
  | 6 => ("NameHat$Tokens", "number", "I", false)
  | 7 => ("NameHat$Tokens", "letters", "J", false)
  | _ => ("NameHat$Tokens", "word", "I", false)
def t_Tokens : Nat → FieldType := fun k => match k with
  | 0 => .object "NameHat$Row"
  | 1 => .int
  | 2 => .int
  | 3 => .int
  | 4 => .int
  | 5 => .int
  | 6 => .int
  | 7 => .long
  | _ => .int
def R_Reader : String := "NameHat$Reader"
def F_Reader : u_T := fun k => match k with
  | 0 => ("NameHat$Reader", "tokens", "LNameHat$Tokens;", true)
  | 1 => ("NameHat$Reader", "draft", "LNameHat$State;", true)
  | 2 => ("NameHat$Reader", "lines", "I", false)
  | 3 => ("NameHat$Reader", "faultKind", "I", false)
  | 4 => ("NameHat$Reader", "faultPlace", "I", false)
  | 5 => ("NameHat$Reader", "found", "I", false)
  | 6 => ("NameHat$Reader", "pewsTold", "Z", false)
  | 7 => ("NameHat$Reader", "fieldTold", "Z", false)
  | _ => ("NameHat$Reader", "sitsTold", "I", false)
def t_Reader : Nat → FieldType := fun k => match k with
  | 0 => .object "NameHat$Tokens"
  | 1 => .object "NameHat$State"
  | 2 => .int
  | 3 => .int
  | 4 => .int
  | 5 => .int
  | 6 => .boolean
  | 7 => .boolean
  | _ => .int
def R_Hat : String := "NameHat"
def F_Hat : u_T := fun k => match k with
  | 0 => ("NameHat", "tape", "LNameHat$Row;", true)
  | 1 => ("NameHat", "tapeSize", "I", false)
  | 2 => ("NameHat", "latestFault", "I", false)
  | 3 => ("NameHat", "rings", "LNameHat$Rings;", true)
  | 4 => ("NameHat", "seating", "LNameHat$Seating;", true)
  | 5 => ("NameHat", "went", "LNameHat$Row;", true)
  | 6 => ("NameHat", "wentOnce", "Z", false)
  | 7 => ("NameHat", "now", "LNameHat$State;", true)
  | 8 => ("NameHat", "draft", "LNameHat$State;", true)
  | 9 => ("NameHat", "firstImage", "LNameHat$State;", true)
  | 10 => ("NameHat", "secondImage", "LNameHat$State;", true)
  | 11 => ("NameHat", "firstKept", "Z", false)
  | 12 => ("NameHat", "secondKept", "Z", false)
  | 13 => ("NameHat", "reader", "LNameHat$Reader;", true)
  | 14 => ("NameHat", "deals", "LNameHat$Dealings;", true)
  | _ => ("NameHat", "ways", "[J", true)
def t_Hat : Nat → FieldType := fun k => match k with
  | 0 => .object "NameHat$Row"
  | 1 => .int
  | 2 => .int
  | 3 => .object "NameHat$Rings"
  | 4 => .object "NameHat$Seating"
  | 5 => .object "NameHat$Row"
  | 6 => .boolean
  | 7 => .object "NameHat$State"
  | 8 => .object "NameHat$State"
  | 9 => .object "NameHat$State"
  | 10 => .object "NameHat$State"
  | 11 => .boolean
  | 12 => .boolean
  | 13 => .object "NameHat$Reader"
  | 14 => .object "NameHat$Dealings"
  | _ => .array .long
def R_Mod : String := "NameHatModel"
def F_Mod : u_T := fun k => match k with
  | 0 => ("NameHatModel", "thrown", "I", false)
  | 1 => ("NameHatModel", "tape", "[B", true)
  | 2 => ("NameHatModel", "length", "I", false)
  | 3 => ("NameHatModel", "size", "I", false)
  | 4 => ("NameHatModel", "p", "I", false)
  | 5 => ("NameHatModel", "limit", "I", false)
  | 6 => ("NameHatModel", "s", "[I", true)
  | 7 => ("NameHatModel", "h", "[I", true)
  | 8 => ("NameHatModel", "read", "[I", true)
  | 9 => ("NameHatModel", "names", "[J", true)
  | 10 => ("NameHatModel", "reserved", "[J", true)
  | 11 => ("NameHatModel", "token", "I", false)
  | 12 => ("NameHatModel", "at", "I", false)
  | 13 => ("NameHatModel", "span", "I", false)
  | 14 => ("NameHatModel", "number", "I", false)
  | 15 => ("NameHatModel", "fault", "I", false)
  | 16 => ("NameHatModel", "faultAt", "I", false)
  | 17 => ("NameHatModel", "word", "J", false)
  | 18 => ("NameHatModel", "got", "I", false)
  | 19 => ("NameHatModel", "lines", "I", false)
  | 20 => ("NameHatModel", "sat", "I", false)
  | 21 => ("NameHatModel", "hasPews", "Z", false)
  | 22 => ("NameHatModel", "hasField", "Z", false)
  | 23 => ("NameHatModel", "seed", "I", false)
  | 24 => ("NameHatModel", "ring", "[I", true)
  | 25 => ("NameHatModel", "ringKept", "[I", true)
  | 26 => ("NameHatModel", "ringMany", "I", false)
  | 27 => ("NameHatModel", "points", "[I", true)
  | 28 => ("NameHatModel", "held", "[I", true)
  | 29 => ("NameHatModel", "coming", "I", false)
  | 30 => ("NameHatModel", "went", "[I", true)
  | 31 => ("NameHatModel", "heldKept", "[I", true)
  | 32 => ("NameHatModel", "hasGone", "Z", false)
  | 33 => ("NameHatModel", "tried", "[I", true)
  | 34 => ("NameHatModel", "seated", "[I", true)
  | 35 => ("NameHatModel", "seatedMany", "I", false)
  | 36 => ("NameHatModel", "ways", "[I", true)
  | 37 => ("NameHatModel", "may", "[I", true)
  | 38 => ("NameHatModel", "luckUp", "J", false)
  | 39 => ("NameHatModel", "luckBelow", "J", false)
  | 40 => ("NameHatModel", "luckDrew", "I", false)
  | 41 => ("NameHatModel", "chance", "[J", true)
  | 42 => ("NameHatModel", "kept", "[I", true)
  | 43 => ("NameHatModel", "namesKept", "[J", true)
  | _ => ("NameHatModel", "isKept", "[Z", true)
def t_Mod : Nat → FieldType := fun k => match k with
  | 0 => .int
  | 1 => .array .byte
  | 2 => .int
  | 3 => .int
  | 4 => .int
  | 5 => .int
  | 6 => .array .int
  | 7 => .array .int
  | 8 => .array .int
  | 9 => .array .long
  | 10 => .array .long
  | 11 => .int
  | 12 => .int
  | 13 => .int
  | 14 => .int
  | 15 => .int
  | 16 => .int
  | 17 => .long
  | 18 => .int
  | 19 => .int
  | 20 => .int
  | 21 => .boolean
  | 22 => .boolean
  | 23 => .int
  | 24 => .array .int
  | 25 => .array .int
  | 26 => .int
  | 27 => .array .int
  | 28 => .array .int
  | 29 => .int
  | 30 => .array .int
  | 31 => .array .int
  | 32 => .boolean
  | 33 => .array .int
  | 34 => .array .int
  | 35 => .int
  | 36 => .array .int
  | 37 => .array .int
  | 38 => .long
  | 39 => .long
  | 40 => .int
  | 41 => .array .long
  | 42 => .array .int
  | 43 => .array .long
  | _ => .array .boolean
abbrev cl_all : List vw_C := [(R_Row, F_Row, 1), (R_Names, F_Names, 2), (R_Island, F_Island, 9), (R_Hands, F_Hands, 4), (R_State, F_State, 11), (R_Rings, F_Rings, 4), (R_Seating, F_Seating, 9), (R_Dealings, F_Dealings, 3), (R_Tokens, F_Tokens, 9), (R_Reader, F_Reader, 9), (R_Hat, F_Hat, 16), (R_Mod, F_Mod, 45)]
/-- the fields of a class: (0, where the part lies behind the object) a reference, (1, _) an int, (2, _) a long -/
def fd_T : List (List (Nat × Nat)) := [[(0, 1)], [(0, 1), (1, 0)], [(0, 1), (0, 3), (0, 5), (0, 7), (0, 9), (0, 11), (1, 0), (1, 0), (1, 0)], [(0, 1), (0, 3), (0, 5), (0, 7)], [(0, 1), (0, 14), (1, 0), (0, 23), (0, 25), (1, 0), (0, 27), (1, 0), (0, 29), (0, 31), (0, 33)], [(0, 1), (1, 0), (0, 3), (0, 5)], [(0, 1), (1, 0), (0, 3), (0, 5), (0, 7), (0, 9), (1, 0), (1, 0), (1, 0)], [(0, 1), (1, 0), (1, 0)], [(0, 1), (1, 0), (1, 0), (1, 0), (1, 0), (1, 0), (1, 0), (2, 0), (1, 0)], [(0, 1), (0, 4), (1, 0), (1, 0), (1, 0), (1, 0), (1, 0), (1, 0), (1, 0)], [(0, 3), (1, 0), (1, 0), (0, 40), (0, 47), (0, 58), (1, 0), (0, 60), (0, 5), (0, 95), (0, 130), (1, 0), (1, 0), (0, 1), (0, 165), (0, 168)], [(1, 0), (0, 1), (1, 0), (1, 0), (1, 0), (1, 0), (0, 2), (0, 3), (0, 4), (0, 5), (0, 6), (1, 0), (1, 0), (1, 0), (1, 0), (1, 0), (1, 0), (2, 0), (1, 0), (1, 0), (1, 0), (1, 0), (1, 0), (1, 0), (0, 7), (0, 8), (1, 0), (0, 9), (0, 10), (1, 0), (0, 11), (0, 12), (1, 0), (0, 13), (0, 14), (1, 0), (0, 15), (0, 16), (2, 0), (2, 0), (1, 0), (0, 17), (0, 18), (0, 19), (0, 20)]]
/-- which parts an object of a kind has: (kind, where behind it, kind of the part) -/
def gd_T : List (Nat × Nat × Nat) := [(0, 1, 20), (1, 1, 21), (2, 1, 1), (2, 3, 1), (2, 5, 0), (2, 7, 0), (2, 9, 0), (2, 11, 0), (3, 1, 0), (3, 3, 0), (3, 5, 0), (3, 7, 0), (4, 1, 2), (4, 14, 3), (4, 23, 0), (4, 25, 0), (4, 27, 0), (4, 29, 0), (4, 31, 0), (4, 33, 0), (5, 1, 0), (5, 3, 0), (5, 5, 0), (6, 1, 0), (6, 3, 0), (6, 5, 0), (6, 7, 0), (6, 9, 0), (7, 1, 0), (8, 1, 0), (9, 1, 8), (9, 4, 4), (10, 3, 0), (10, 40, 5), (10, 47, 6), (10, 58, 0), (10, 60, 4), (10, 5, 4), (10, 95, 4), (10, 130, 4), (10, 1, 9), (10, 165, 7), (10, 168, 21), (11, 1, 22), (11, 2, 20), (11, 3, 20), (11, 4, 20), (11, 5, 21), (11, 6, 21), (11, 7, 20), (11, 8, 20), (11, 9, 20), (11, 10, 20), (11, 11, 20), (11, 12, 20), (11, 13, 20), (11, 14, 20), (11, 15, 20), (11, 16, 20), (11, 17, 21), (11, 18, 20), (11, 19, 21), (11, 20, 23)]
def gd_ok (L : Ly) : Prop := (∀ q ∈ gd_T, ∀ o, ly_k L o = q.1 → ly_k L (o + q.2.1) = q.2.2) ∧ ∀ o, ly_k L o ≠ 99 → o < ly_n L
theorem gd_Row_cells {L : Ly} (h : gd_ok L) {o : Nat} (hk : ly_k L o = 0) : ly_k L (o + 1) = 20 := h.1 (0, 1, 20) (List.mem_of_getElem? (i := 0) rfl) o hk
theorem gd_Names_letters {L : Ly} (h : gd_ok L) {o : Nat} (hk : ly_k L o = 1) : ly_k L (o + 1) = 21 := h.1 (1, 1, 21) (List.mem_of_getElem? (i := 1) rfl) o hk
theorem gd_Island_surnames {L : Ly} (h : gd_ok L) {o : Nat} (hk : ly_k L o = 2) : ly_k L (o + 1) = 1 := h.1 (2, 1, 1) (List.mem_of_getElem? (i := 2) rfl) o hk
theorem gd_Island_houses {L : Ly} (h : gd_ok L) {o : Nat} (hk : ly_k L o = 2) : ly_k L (o + 3) = 1 := h.1 (2, 3, 1) (List.mem_of_getElem? (i := 3) rfl) o hk
theorem gd_Island_worths {L : Ly} (h : gd_ok L) {o : Nat} (hk : ly_k L o = 2) : ly_k L (o + 5) = 0 := h.1 (2, 5, 0) (List.mem_of_getElem? (i := 4) rfl) o hk
theorem gd_Island_kinds {L : Ly} (h : gd_ok L) {o : Nat} (hk : ly_k L o = 2) : ly_k L (o + 7) = 0 := h.1 (2, 7, 0) (List.mem_of_getElem? (i := 5) rfl) o hk
theorem gd_Island_feuds {L : Ly} (h : gd_ok L) {o : Nat} (hk : ly_k L o = 2) : ly_k L (o + 9) = 0 := h.1 (2, 9, 0) (List.mem_of_getElem? (i := 6) rfl) o hk
theorem gd_Island_wants {L : Ly} (h : gd_ok L) {o : Nat} (hk : ly_k L o = 2) : ly_k L (o + 11) = 0 := h.1 (2, 11, 0) (List.mem_of_getElem? (i := 7) rfl) o hk
theorem gd_Hands_held {L : Ly} (h : gd_ok L) {o : Nat} (hk : ly_k L o = 3) : ly_k L (o + 1) = 0 := h.1 (3, 1, 0) (List.mem_of_getElem? (i := 8) rfl) o hk
theorem gd_Hands_sits {L : Ly} (h : gd_ok L) {o : Nat} (hk : ly_k L o = 3) : ly_k L (o + 3) = 0 := h.1 (3, 3, 0) (List.mem_of_getElem? (i := 9) rfl) o hk
theorem gd_Hands_points {L : Ly} (h : gd_ok L) {o : Nat} (hk : ly_k L o = 3) : ly_k L (o + 5) = 0 := h.1 (3, 5, 0) (List.mem_of_getElem? (i := 10) rfl) o hk
theorem gd_Hands_taken {L : Ly} (h : gd_ok L) {o : Nat} (hk : ly_k L o = 3) : ly_k L (o + 7) = 0 := h.1 (3, 7, 0) (List.mem_of_getElem? (i := 11) rfl) o hk
theorem gd_State_island {L : Ly} (h : gd_ok L) {o : Nat} (hk : ly_k L o = 4) : ly_k L (o + 1) = 2 := h.1 (4, 1, 2) (List.mem_of_getElem? (i := 12) rfl) o hk
theorem gd_State_hands {L : Ly} (h : gd_ok L) {o : Nat} (hk : ly_k L o = 4) : ly_k L (o + 14) = 3 := h.1 (4, 14, 3) (List.mem_of_getElem? (i := 13) rfl) o hk
theorem gd_State_ended {L : Ly} (h : gd_ok L) {o : Nat} (hk : ly_k L o = 4) : ly_k L (o + 23) = 0 := h.1 (4, 23, 0) (List.mem_of_getElem? (i := 14) rfl) o hk
theorem gd_State_drawn {L : Ly} (h : gd_ok L) {o : Nat} (hk : ly_k L o = 4) : ly_k L (o + 25) = 0 := h.1 (4, 25, 0) (List.mem_of_getElem? (i := 15) rfl) o hk
theorem gd_State_fits {L : Ly} (h : gd_ok L) {o : Nat} (hk : ly_k L o = 4) : ly_k L (o + 27) = 0 := h.1 (4, 27, 0) (List.mem_of_getElem? (i := 16) rfl) o hk
theorem gd_State_bookWords {L : Ly} (h : gd_ok L) {o : Nat} (hk : ly_k L o = 4) : ly_k L (o + 29) = 0 := h.1 (4, 29, 0) (List.mem_of_getElem? (i := 17) rfl) o hk
theorem gd_State_bookFirsts {L : Ly} (h : gd_ok L) {o : Nat} (hk : ly_k L o = 4) : ly_k L (o + 31) = 0 := h.1 (4, 31, 0) (List.mem_of_getElem? (i := 18) rfl) o hk
theorem gd_State_bookSeconds {L : Ly} (h : gd_ok L) {o : Nat} (hk : ly_k L o = 4) : ly_k L (o + 33) = 0 := h.1 (4, 33, 0) (List.mem_of_getElem? (i := 19) rfl) o hk
theorem gd_Rings_latest {L : Ly} (h : gd_ok L) {o : Nat} (hk : ly_k L o = 5) : ly_k L (o + 1) = 0 := h.1 (5, 1, 0) (List.mem_of_getElem? (i := 20) rfl) o hk
theorem gd_Rings_path {L : Ly} (h : gd_ok L) {o : Nat} (hk : ly_k L o = 5) : ly_k L (o + 3) = 0 := h.1 (5, 3, 0) (List.mem_of_getElem? (i := 21) rfl) o hk
theorem gd_Rings_wishes {L : Ly} (h : gd_ok L) {o : Nat} (hk : ly_k L o = 5) : ly_k L (o + 5) = 0 := h.1 (5, 5, 0) (List.mem_of_getElem? (i := 22) rfl) o hk
theorem gd_Seating_latest {L : Ly} (h : gd_ok L) {o : Nat} (hk : ly_k L o = 6) : ly_k L (o + 1) = 0 := h.1 (6, 1, 0) (List.mem_of_getElem? (i := 23) rfl) o hk
theorem gd_Seating_tried {L : Ly} (h : gd_ok L) {o : Nat} (hk : ly_k L o = 6) : ly_k L (o + 3) = 0 := h.1 (6, 3, 0) (List.mem_of_getElem? (i := 24) rfl) o hk
theorem gd_Seating_feuding {L : Ly} (h : gd_ok L) {o : Nat} (hk : ly_k L o = 6) : ly_k L (o + 5) = 0 := h.1 (6, 5, 0) (List.mem_of_getElem? (i := 25) rfl) o hk
theorem gd_Seating_inPew {L : Ly} (h : gd_ok L) {o : Nat} (hk : ly_k L o = 6) : ly_k L (o + 7) = 0 := h.1 (6, 7, 0) (List.mem_of_getElem? (i := 26) rfl) o hk
theorem gd_Seating_sitNow {L : Ly} (h : gd_ok L) {o : Nat} (hk : ly_k L o = 6) : ly_k L (o + 9) = 0 := h.1 (6, 9, 0) (List.mem_of_getElem? (i := 27) rfl) o hk
theorem gd_Dealings_ways {L : Ly} (h : gd_ok L) {o : Nat} (hk : ly_k L o = 7) : ly_k L (o + 1) = 0 := h.1 (7, 1, 0) (List.mem_of_getElem? (i := 28) rfl) o hk
theorem gd_Tokens_tape {L : Ly} (h : gd_ok L) {o : Nat} (hk : ly_k L o = 8) : ly_k L (o + 1) = 0 := h.1 (8, 1, 0) (List.mem_of_getElem? (i := 29) rfl) o hk
theorem gd_Reader_tokens {L : Ly} (h : gd_ok L) {o : Nat} (hk : ly_k L o = 9) : ly_k L (o + 1) = 8 := h.1 (9, 1, 8) (List.mem_of_getElem? (i := 30) rfl) o hk
theorem gd_Reader_draft {L : Ly} (h : gd_ok L) {o : Nat} (hk : ly_k L o = 9) : ly_k L (o + 4) = 4 := h.1 (9, 4, 4) (List.mem_of_getElem? (i := 31) rfl) o hk
theorem gd_Hat_tape {L : Ly} (h : gd_ok L) {o : Nat} (hk : ly_k L o = 10) : ly_k L (o + 3) = 0 := h.1 (10, 3, 0) (List.mem_of_getElem? (i := 32) rfl) o hk
theorem gd_Hat_rings {L : Ly} (h : gd_ok L) {o : Nat} (hk : ly_k L o = 10) : ly_k L (o + 40) = 5 := h.1 (10, 40, 5) (List.mem_of_getElem? (i := 33) rfl) o hk
theorem gd_Hat_seating {L : Ly} (h : gd_ok L) {o : Nat} (hk : ly_k L o = 10) : ly_k L (o + 47) = 6 := h.1 (10, 47, 6) (List.mem_of_getElem? (i := 34) rfl) o hk
theorem gd_Hat_went {L : Ly} (h : gd_ok L) {o : Nat} (hk : ly_k L o = 10) : ly_k L (o + 58) = 0 := h.1 (10, 58, 0) (List.mem_of_getElem? (i := 35) rfl) o hk
theorem gd_Hat_now {L : Ly} (h : gd_ok L) {o : Nat} (hk : ly_k L o = 10) : ly_k L (o + 60) = 4 := h.1 (10, 60, 4) (List.mem_of_getElem? (i := 36) rfl) o hk
theorem gd_Hat_draft {L : Ly} (h : gd_ok L) {o : Nat} (hk : ly_k L o = 10) : ly_k L (o + 5) = 4 := h.1 (10, 5, 4) (List.mem_of_getElem? (i := 37) rfl) o hk
theorem gd_Hat_firstImage {L : Ly} (h : gd_ok L) {o : Nat} (hk : ly_k L o = 10) : ly_k L (o + 95) = 4 := h.1 (10, 95, 4) (List.mem_of_getElem? (i := 38) rfl) o hk
theorem gd_Hat_secondImage {L : Ly} (h : gd_ok L) {o : Nat} (hk : ly_k L o = 10) : ly_k L (o + 130) = 4 := h.1 (10, 130, 4) (List.mem_of_getElem? (i := 39) rfl) o hk
theorem gd_Hat_reader {L : Ly} (h : gd_ok L) {o : Nat} (hk : ly_k L o = 10) : ly_k L (o + 1) = 9 := h.1 (10, 1, 9) (List.mem_of_getElem? (i := 40) rfl) o hk
theorem gd_Hat_deals {L : Ly} (h : gd_ok L) {o : Nat} (hk : ly_k L o = 10) : ly_k L (o + 165) = 7 := h.1 (10, 165, 7) (List.mem_of_getElem? (i := 41) rfl) o hk
theorem gd_Hat_ways {L : Ly} (h : gd_ok L) {o : Nat} (hk : ly_k L o = 10) : ly_k L (o + 168) = 21 := h.1 (10, 168, 21) (List.mem_of_getElem? (i := 42) rfl) o hk
theorem gd_Mod_tape {L : Ly} (h : gd_ok L) {o : Nat} (hk : ly_k L o = 11) : ly_k L (o + 1) = 22 := h.1 (11, 1, 22) (List.mem_of_getElem? (i := 43) rfl) o hk
theorem gd_Mod_s {L : Ly} (h : gd_ok L) {o : Nat} (hk : ly_k L o = 11) : ly_k L (o + 2) = 20 := h.1 (11, 2, 20) (List.mem_of_getElem? (i := 44) rfl) o hk
theorem gd_Mod_h {L : Ly} (h : gd_ok L) {o : Nat} (hk : ly_k L o = 11) : ly_k L (o + 3) = 20 := h.1 (11, 3, 20) (List.mem_of_getElem? (i := 45) rfl) o hk
theorem gd_Mod_read {L : Ly} (h : gd_ok L) {o : Nat} (hk : ly_k L o = 11) : ly_k L (o + 4) = 20 := h.1 (11, 4, 20) (List.mem_of_getElem? (i := 46) rfl) o hk
theorem gd_Mod_names {L : Ly} (h : gd_ok L) {o : Nat} (hk : ly_k L o = 11) : ly_k L (o + 5) = 21 := h.1 (11, 5, 21) (List.mem_of_getElem? (i := 47) rfl) o hk
theorem gd_Mod_reserved {L : Ly} (h : gd_ok L) {o : Nat} (hk : ly_k L o = 11) : ly_k L (o + 6) = 21 := h.1 (11, 6, 21) (List.mem_of_getElem? (i := 48) rfl) o hk
theorem gd_Mod_ring {L : Ly} (h : gd_ok L) {o : Nat} (hk : ly_k L o = 11) : ly_k L (o + 7) = 20 := h.1 (11, 7, 20) (List.mem_of_getElem? (i := 49) rfl) o hk
theorem gd_Mod_ringKept {L : Ly} (h : gd_ok L) {o : Nat} (hk : ly_k L o = 11) : ly_k L (o + 8) = 20 := h.1 (11, 8, 20) (List.mem_of_getElem? (i := 50) rfl) o hk
theorem gd_Mod_points {L : Ly} (h : gd_ok L) {o : Nat} (hk : ly_k L o = 11) : ly_k L (o + 9) = 20 := h.1 (11, 9, 20) (List.mem_of_getElem? (i := 51) rfl) o hk
theorem gd_Mod_held {L : Ly} (h : gd_ok L) {o : Nat} (hk : ly_k L o = 11) : ly_k L (o + 10) = 20 := h.1 (11, 10, 20) (List.mem_of_getElem? (i := 52) rfl) o hk
theorem gd_Mod_went {L : Ly} (h : gd_ok L) {o : Nat} (hk : ly_k L o = 11) : ly_k L (o + 11) = 20 := h.1 (11, 11, 20) (List.mem_of_getElem? (i := 53) rfl) o hk
theorem gd_Mod_heldKept {L : Ly} (h : gd_ok L) {o : Nat} (hk : ly_k L o = 11) : ly_k L (o + 12) = 20 := h.1 (11, 12, 20) (List.mem_of_getElem? (i := 54) rfl) o hk
theorem gd_Mod_tried {L : Ly} (h : gd_ok L) {o : Nat} (hk : ly_k L o = 11) : ly_k L (o + 13) = 20 := h.1 (11, 13, 20) (List.mem_of_getElem? (i := 55) rfl) o hk
theorem gd_Mod_seated {L : Ly} (h : gd_ok L) {o : Nat} (hk : ly_k L o = 11) : ly_k L (o + 14) = 20 := h.1 (11, 14, 20) (List.mem_of_getElem? (i := 56) rfl) o hk
theorem gd_Mod_ways {L : Ly} (h : gd_ok L) {o : Nat} (hk : ly_k L o = 11) : ly_k L (o + 15) = 20 := h.1 (11, 15, 20) (List.mem_of_getElem? (i := 57) rfl) o hk
theorem gd_Mod_may {L : Ly} (h : gd_ok L) {o : Nat} (hk : ly_k L o = 11) : ly_k L (o + 16) = 20 := h.1 (11, 16, 20) (List.mem_of_getElem? (i := 58) rfl) o hk
theorem gd_Mod_chance {L : Ly} (h : gd_ok L) {o : Nat} (hk : ly_k L o = 11) : ly_k L (o + 17) = 21 := h.1 (11, 17, 21) (List.mem_of_getElem? (i := 59) rfl) o hk
theorem gd_Mod_kept {L : Ly} (h : gd_ok L) {o : Nat} (hk : ly_k L o = 11) : ly_k L (o + 18) = 20 := h.1 (11, 18, 20) (List.mem_of_getElem? (i := 60) rfl) o hk
theorem gd_Mod_namesKept {L : Ly} (h : gd_ok L) {o : Nat} (hk : ly_k L o = 11) : ly_k L (o + 19) = 21 := h.1 (11, 19, 21) (List.mem_of_getElem? (i := 61) rfl) o hk
theorem gd_Mod_isKept {L : Ly} (h : gd_ok L) {o : Nat} (hk : ly_k L o = 11) : ly_k L (o + 20) = 23 := h.1 (11, 20, 23) (List.mem_of_getElem? (i := 62) rfl) o hk
theorem gd_lt {L : Ly} (h : gd_ok L) {o K : Nat} (hk : ly_k L o = K) (h9 : K ≠ 99) : o < ly_n L := h.2 o (by rw [hk]; exact h9)
theorem n_Row : ∀ a, a < 1 → ∀ b, b < 1 → a ≠ b → (F_Row a).2.1 ≠ (F_Row b).2.1 := by decide +kernel
theorem t_Row_ok : ∀ k, k < 1 → parseFieldDescriptor (F_Row k).2.2.1 = some (t_Row k) := by decide +kernel
theorem n_Names : ∀ a, a < 2 → ∀ b, b < 2 → a ≠ b → (F_Names a).2.1 ≠ (F_Names b).2.1 := by decide +kernel
theorem t_Names_ok : ∀ k, k < 2 → parseFieldDescriptor (F_Names k).2.2.1 = some (t_Names k) := by decide +kernel
theorem n_Island : ∀ a, a < 9 → ∀ b, b < 9 → a ≠ b → (F_Island a).2.1 ≠ (F_Island b).2.1 := by decide +kernel
theorem t_Island_ok : ∀ k, k < 9 → parseFieldDescriptor (F_Island k).2.2.1 = some (t_Island k) := by decide +kernel
theorem n_Hands : ∀ a, a < 4 → ∀ b, b < 4 → a ≠ b → (F_Hands a).2.1 ≠ (F_Hands b).2.1 := by decide +kernel
theorem t_Hands_ok : ∀ k, k < 4 → parseFieldDescriptor (F_Hands k).2.2.1 = some (t_Hands k) := by decide +kernel
theorem n_State : ∀ a, a < 11 → ∀ b, b < 11 → a ≠ b → (F_State a).2.1 ≠ (F_State b).2.1 := by decide +kernel
theorem t_State_ok : ∀ k, k < 11 → parseFieldDescriptor (F_State k).2.2.1 = some (t_State k) := by decide +kernel
theorem n_Rings : ∀ a, a < 4 → ∀ b, b < 4 → a ≠ b → (F_Rings a).2.1 ≠ (F_Rings b).2.1 := by decide +kernel
theorem t_Rings_ok : ∀ k, k < 4 → parseFieldDescriptor (F_Rings k).2.2.1 = some (t_Rings k) := by decide +kernel
theorem n_Seating : ∀ a, a < 9 → ∀ b, b < 9 → a ≠ b → (F_Seating a).2.1 ≠ (F_Seating b).2.1 := by decide +kernel
theorem t_Seating_ok : ∀ k, k < 9 → parseFieldDescriptor (F_Seating k).2.2.1 = some (t_Seating k) := by decide +kernel
theorem n_Dealings : ∀ a, a < 3 → ∀ b, b < 3 → a ≠ b → (F_Dealings a).2.1 ≠ (F_Dealings b).2.1 := by decide +kernel
theorem t_Dealings_ok : ∀ k, k < 3 → parseFieldDescriptor (F_Dealings k).2.2.1 = some (t_Dealings k) := by decide +kernel
theorem n_Tokens : ∀ a, a < 9 → ∀ b, b < 9 → a ≠ b → (F_Tokens a).2.1 ≠ (F_Tokens b).2.1 := by decide +kernel
theorem t_Tokens_ok : ∀ k, k < 9 → parseFieldDescriptor (F_Tokens k).2.2.1 = some (t_Tokens k) := by decide +kernel
theorem n_Reader : ∀ a, a < 9 → ∀ b, b < 9 → a ≠ b → (F_Reader a).2.1 ≠ (F_Reader b).2.1 := by decide +kernel
theorem t_Reader_ok : ∀ k, k < 9 → parseFieldDescriptor (F_Reader k).2.2.1 = some (t_Reader k) := by decide +kernel
theorem n_Hat : ∀ a, a < 16 → ∀ b, b < 16 → a ≠ b → (F_Hat a).2.1 ≠ (F_Hat b).2.1 := by decide +kernel
theorem t_Hat_ok : ∀ k, k < 16 → parseFieldDescriptor (F_Hat k).2.2.1 = some (t_Hat k) := by decide +kernel
theorem n_Mod : ∀ a, a < 45 → ∀ b, b < 45 → a ≠ b → (F_Mod a).2.1 ≠ (F_Mod b).2.1 := by decide +kernel
theorem t_Mod_ok : ∀ k, k < 45 → parseFieldDescriptor (F_Mod k).2.2.1 = some (t_Mod k) := by decide +kernel
theorem i_Row : ∀ w ∈ u_ws R_Row F_Row 1, w ∈ tb_G := by
  intro w hw
  obtain ⟨k, hk, rfl⟩ := List.mem_map.mp hw
  have hk := List.mem_range.mp hk
  obtain rfl : k = 0 := by omega
  · exact qw_51
theorem i_Names : ∀ w ∈ u_ws R_Names F_Names 2, w ∈ tb_G := by
  intro w hw
  obtain ⟨k, hk, rfl⟩ := List.mem_map.mp hw
  have hk := List.mem_range.mp hk
  rcases (show k = 0 ∨ k = 1 by omega) with rfl | rfl
  · exact qw_116
  · exact qw_118
theorem i_Island : ∀ w ∈ u_ws R_Island F_Island 9, w ∈ tb_G := by
  intro w hw
  obtain ⟨k, hk, rfl⟩ := List.mem_map.mp hw
  have hk := List.mem_range.mp hk
  rcases (show k = 0 ∨ k = 1 ∨ k = 2 ∨ k = 3 ∨ k = 4 ∨ k = 5 ∨ k = 6 ∨ k = 7 ∨ k = 8 by omega) with rfl | rfl | rfl | rfl | rfl | rfl | rfl | rfl | rfl
  · exact qw_159
  · exact qw_161
  · exact qw_163
  · exact qw_165
  · exact qw_167
  · exact qw_169
  · exact qw_171
  · exact qw_173
  · exact qw_175
theorem i_Hands : ∀ w ∈ u_ws R_Hands F_Hands 4, w ∈ tb_G := by
  intro w hw
  obtain ⟨k, hk, rfl⟩ := List.mem_map.mp hw
  have hk := List.mem_range.mp hk
  rcases (show k = 0 ∨ k = 1 ∨ k = 2 ∨ k = 3 by omega) with rfl | rfl | rfl | rfl
  · exact qw_197
  · exact qw_199
  · exact qw_201
  · exact qw_203
theorem i_State : ∀ w ∈ u_ws R_State F_State 11, w ∈ tb_G := by
  intro w hw
  obtain ⟨k, hk, rfl⟩ := List.mem_map.mp hw
  have hk := List.mem_range.mp hk
  rcases (show k = 0 ∨ k = 1 ∨ k = 2 ∨ k = 3 ∨ k = 4 ∨ k = 5 ∨ k = 6 ∨ k = 7 ∨ k = 8 ∨ k = 9 ∨ k = 10 by omega) with rfl | rfl | rfl | rfl | rfl | rfl | rfl | rfl | rfl | rfl | rfl
  · exact qw_264
  · exact qw_266
  · exact qw_268
  · exact qw_270
  · exact qw_272
  · exact qw_274
  · exact qw_276
  · exact qw_278
  · exact qw_280
  · exact qw_282
  · exact qw_284
theorem i_Rings : ∀ w ∈ u_ws R_Rings F_Rings 4, w ∈ tb_G := by
  intro w hw
  obtain ⟨k, hk, rfl⟩ := List.mem_map.mp hw
  have hk := List.mem_range.mp hk
  rcases (show k = 0 ∨ k = 1 ∨ k = 2 ∨ k = 3 by omega) with rfl | rfl | rfl | rfl
  · exact qw_334
  · exact qw_336
  · exact qw_338
  · exact qw_340
theorem i_Seating : ∀ w ∈ u_ws R_Seating F_Seating 9, w ∈ tb_G := by
  intro w hw
  obtain ⟨k, hk, rfl⟩ := List.mem_map.mp hw
  have hk := List.mem_range.mp hk
  rcases (show k = 0 ∨ k = 1 ∨ k = 2 ∨ k = 3 ∨ k = 4 ∨ k = 5 ∨ k = 6 ∨ k = 7 ∨ k = 8 by omega) with rfl | rfl | rfl | rfl | rfl | rfl | rfl | rfl | rfl
  · exact qw_362
  · exact qw_364
  · exact qw_366
  · exact qw_368
  · exact qw_370
  · exact qw_372
  · exact qw_374
  · exact qw_376
  · exact qw_378
theorem i_Dealings : ∀ w ∈ u_ws R_Dealings F_Dealings 3, w ∈ tb_G := by
  intro w hw
  obtain ⟨k, hk, rfl⟩ := List.mem_map.mp hw
  have hk := List.mem_range.mp hk
  rcases (show k = 0 ∨ k = 1 ∨ k = 2 by omega) with rfl | rfl | rfl
  · exact qw_396
  · exact qw_398
  · exact qw_400
theorem i_Tokens : ∀ w ∈ u_ws R_Tokens F_Tokens 9, w ∈ tb_G := by
  intro w hw
  obtain ⟨k, hk, rfl⟩ := List.mem_map.mp hw
  have hk := List.mem_range.mp hk
  rcases (show k = 0 ∨ k = 1 ∨ k = 2 ∨ k = 3 ∨ k = 4 ∨ k = 5 ∨ k = 6 ∨ k = 7 ∨ k = 8 by omega) with rfl | rfl | rfl | rfl | rfl | rfl | rfl | rfl | rfl
  · exact qw_70
  · exact qw_72
  · exact qw_74
  · exact qw_76
  · exact qw_78
  · exact qw_80
  · exact qw_82
  · exact qw_84
  · exact qw_86
theorem i_Reader : ∀ w ∈ u_ws R_Reader F_Reader 9, w ∈ tb_G := by
  intro w hw
  obtain ⟨k, hk, rfl⟩ := List.mem_map.mp hw
  have hk := List.mem_range.mp hk
  rcases (show k = 0 ∨ k = 1 ∨ k = 2 ∨ k = 3 ∨ k = 4 ∨ k = 5 ∨ k = 6 ∨ k = 7 ∨ k = 8 by omega) with rfl | rfl | rfl | rfl | rfl | rfl | rfl | rfl | rfl
  · exact qw_301
  · exact qw_303
  · exact qw_305
  · exact qw_307
  · exact qw_309
  · exact qw_311
  · exact qw_313
  · exact qw_315
  · exact qw_317
theorem i_Hat : ∀ w ∈ u_ws R_Hat F_Hat 16, w ∈ tb_G := by
  intro w hw
  obtain ⟨k, hk, rfl⟩ := List.mem_map.mp hw
  have hk := List.mem_range.mp hk
  rcases (show k = 0 ∨ k = 1 ∨ k = 2 ∨ k = 3 ∨ k = 4 ∨ k = 5 ∨ k = 6 ∨ k = 7 ∨ k = 8 ∨ k = 9 ∨ k = 10 ∨ k = 11 ∨ k = 12 ∨ k = 13 ∨ k = 14 ∨ k = 15 by omega) with rfl | rfl | rfl | rfl | rfl | rfl | rfl | rfl | rfl | rfl | rfl | rfl | rfl | rfl | rfl | rfl
  · exact qw_419
  · exact qw_421
  · exact qw_423
  · exact qw_425
  · exact qw_427
  · exact qw_429
  · exact qw_431
  · exact qw_433
  · exact qw_435
  · exact qw_437
  · exact qw_439
  · exact qw_441
  · exact qw_443
  · exact qw_445
  · exact qw_447
  · exact qw_449
theorem i_Mod : ∀ w ∈ u_ws R_Mod F_Mod 45, w ∈ tb_G := by
  intro w hw
  obtain ⟨k, hk, rfl⟩ := List.mem_map.mp hw
  have hk := List.mem_range.mp hk
  rcases (show k = 0 ∨ k = 1 ∨ k = 2 ∨ k = 3 ∨ k = 4 ∨ k = 5 ∨ k = 6 ∨ k = 7 ∨ k = 8 ∨ k = 9 ∨ k = 10 ∨ k = 11 ∨ k = 12 ∨ k = 13 ∨ k = 14 ∨ k = 15 ∨ k = 16 ∨ k = 17 ∨ k = 18 ∨ k = 19 ∨ k = 20 ∨ k = 21 ∨ k = 22 ∨ k = 23 ∨ k = 24 ∨ k = 25 ∨ k = 26 ∨ k = 27 ∨ k = 28 ∨ k = 29 ∨ k = 30 ∨ k = 31 ∨ k = 32 ∨ k = 33 ∨ k = 34 ∨ k = 35 ∨ k = 36 ∨ k = 37 ∨ k = 38 ∨ k = 39 ∨ k = 40 ∨ k = 41 ∨ k = 42 ∨ k = 43 ∨ k = 44 by omega) with rfl | rfl | rfl | rfl | rfl | rfl | rfl | rfl | rfl | rfl | rfl | rfl | rfl | rfl | rfl | rfl | rfl | rfl | rfl | rfl | rfl | rfl | rfl | rfl | rfl | rfl | rfl | rfl | rfl | rfl | rfl | rfl | rfl | rfl | rfl | rfl | rfl | rfl | rfl | rfl | rfl | rfl | rfl | rfl | rfl
  · exact qw_1210
  · exact qw_1212
  · exact qw_1214
  · exact qw_1216
  · exact qw_1218
  · exact qw_1220
  · exact qw_1222
  · exact qw_1224
  · exact qw_1226
  · exact qw_1228
  · exact qw_1230
  · exact qw_1232
  · exact qw_1234
  · exact qw_1236
  · exact qw_1238
  · exact qw_1240
  · exact qw_1242
  · exact qw_1244
  · exact qw_1246
  · exact qw_1248
  · exact qw_1250
  · exact qw_1252
  · exact qw_1254
  · exact qw_1256
  · exact qw_1258
  · exact qw_1260
  · exact qw_1262
  · exact qw_1264
  · exact qw_1266
  · exact qw_1268
  · exact qw_1270
  · exact qw_1272
  · exact qw_1274
  · exact qw_1276
  · exact qw_1278
  · exact qw_1280
  · exact qw_1282
  · exact qw_1284
  · exact qw_1286
  · exact qw_1288
  · exact qw_1290
  · exact qw_1292
  · exact qw_1294
  · exact qw_1296
  · exact qw_1298

def fd_row (ad : Nat → Nat) (fs : List (Nat × Nat)) (o : Nat) (fi : Nat → Int32) (fl : Nat → Int64) : List Value := fs.mapIdx (fun k q => if q.1 = 0 then .ref (ad (o + q.2)) else if q.1 = 1 then .int (fi k) else .long (fl k))
def cl_e (L : Ly) (K o : Nat) (fi : Nat → Int32) (fl : Nat → Int64) : va_E :=
  if K = 20 then .inl (ly_c L 0, ly_z L o, .inl fi) else if K = 21 then .inl (ly_c L 1, ly_z L o, .inr (.inl fl)) else if K = 22 then .inl (ly_c L 2, ly_z L o, .inl fi) else if K = 23 then .inl (ly_c L 3, ly_z L o, .inl fi) else .inr (K, fd_row (ly_a L) (fd_T.getD K []) o fi fl)
def wl (L : Ly) (σ : Mm) : va_W := (List.range (ly_n L)).map (fun o => (ly_a L o, cl_e L (ly_k L o) o (σ.1 o) (σ.2 o)))
theorem wl_at (L : Ly) (σ : Mm) {o : Nat} (h : o < ly_n L) : (wl L σ)[o]? = some (ly_a L o, cl_e L (ly_k L o) o (σ.1 o) (σ.2 o)) := by
  simp [wl, h]
theorem wl_set {L : Ly} {σ σ' : Mm} {o : Nat} (h1 : ∀ q, q ≠ o → σ'.1 q = σ.1 q) (h2 : ∀ q, q ≠ o → σ'.2 q = σ.2 q) {e : va_E} (he : e = cl_e L (ly_k L o) o (σ'.1 o) (σ'.2 o)) : (wl L σ).set o (ly_a L o, e) = wl L σ' := by
  subst he
  apply List.ext_getElem?
  intro k
  rw [List.getElem?_set]
  by_cases hk : o = k
  · subst hk
    by_cases hl : o < ly_n L
    · rw [wl_at L σ' hl]; simp [wl, hl]
    · simp [wl, hl]
  · rw [if_neg hk]
    simp only [wl, List.getElem?_map]
    cases hr : (List.range (ly_n L))[k]? with
    | none => rfl
    | some j =>
      have hj : j = k := by
        have := List.getElem?_eq_some_iff.mp hr
        obtain ⟨x, y⟩ := this
        rw [List.getElem_range] at y
        exact y.symm
      subst hj
      have hne : j ≠ o := fun z => hk z.symm
      simp [h1 j hne, h2 j hne]
theorem fd_get {ad : Nat → Nat} {fs : List (Nat × Nat)} {o : Nat} {fi : Nat → Int32} {fl : Nat → Int64} {k : Nat} {q : Nat × Nat} (h : fs[k]? = some q) : (fd_row ad fs o fi fl)[k]? = some (if q.1 = 0 then .ref (ad (o + q.2)) else if q.1 = 1 then .int (fi k) else .long (fl k)) := by
  simp [fd_row, h]
theorem fd_len {ad : Nat → Nat} {fs : List (Nat × Nat)} {o : Nat} {fi : Nat → Int32} {fl : Nat → Int64} : (fd_row ad fs o fi fl).length = fs.length := by simp [fd_row]
theorem fd_setI {ad : Nat → Nat} {fs : List (Nat × Nat)} {o : Nat} {fi : Nat → Int32} {fl : Nat → Int64} {k x : Nat} {v : Int32} (h : fs[k]? = some (1, x)) : (fd_row ad fs o fi fl).set k (.int v) = fd_row ad fs o (fun b => if b = k then v else fi b) fl := by
  apply List.ext_getElem?
  intro j
  rw [List.getElem?_set]
  by_cases hj : k = j
  · subst hj
    have hl : k < fs.length := (List.getElem?_eq_some_iff.mp h).1
    rw [if_pos rfl, if_pos (by rw [fd_len]; exact hl), fd_get h]
    show some _ = some _
    simp
  · rw [if_neg hj]
    cases hq : fs[j]? with
    | none => simp [fd_row, hq]
    | some q =>
      have hjk : j ≠ k := fun z => hj z.symm
      rw [fd_get hq, fd_get hq]; simp [hjk]
theorem fd_setL {ad : Nat → Nat} {fs : List (Nat × Nat)} {o : Nat} {fi : Nat → Int32} {fl : Nat → Int64} {k x : Nat} {v : Int64} (h : fs[k]? = some (2, x)) : (fd_row ad fs o fi fl).set k (.long v) = fd_row ad fs o fi (fun b => if b = k then v else fl b) := by
  apply List.ext_getElem?
  intro j
  rw [List.getElem?_set]
  by_cases hj : k = j
  · subst hj
    have hl : k < fs.length := (List.getElem?_eq_some_iff.mp h).1
    rw [if_pos rfl, if_pos (by rw [fd_len]; exact hl), fd_get h]
    show some _ = some _
    simp
  · rw [if_neg hj]
    cases hq : fs[j]? with
    | none => simp [fd_row, hq]
    | some q =>
      have hjk : j ≠ k := fun z => hj z.symm
      rw [fd_get hq, fd_get hq]; simp [hjk]
theorem cl_obj {L : Ly} {K o : Nat} {fi : Nat → Int32} {fl : Nat → Int64} (h : K < 20) : cl_e L K o fi fl = .inr (K, fd_row (ly_a L) (fd_T.getD K []) o fi fl) := by
  simp [cl_e, show K ≠ 20 by omega, show K ≠ 21 by omega, show K ≠ 22 by omega, show K ≠ 23 by omega]
theorem kI_s (σ : Mm) (o k : Nat) (v : Int32) : (kI σ o k v).1 o = fun b => if b = k then v else σ.1 o b := by
  funext b; simp [kI]
theorem kI_o (σ : Mm) (o k : Nat) (v : Int32) {q : Nat} (h : q ≠ o) : (kI σ o k v).1 q = σ.1 q := by
  funext b; simp [kI, h]
theorem kL_s (σ : Mm) (o k : Nat) (v : Int64) : (kL σ o k v).2 o = fun b => if b = k then v else σ.2 o b := by
  funext b; simp [kL]
theorem kL_o (σ : Mm) (o k : Nat) (v : Int64) {q : Nat} (h : q ≠ o) : (kL σ o k v).2 q = σ.2 q := by
  funext b; simp [kL, h]


/-! the text constant of Words, and two statics of the JDK -/
def st_tx : String := "name cursed pawned house holds wants feud pews sits field has not swap give drop take trade "
def st_by : List Int32 := [110, 97, 109, 101, 32, 99, 117, 114, 115, 101, 100, 32, 112, 97, 119, 110, 101, 100, 32, 104, 111, 117, 115, 101, 32, 104, 111, 108, 100, 115, 32, 119, 97, 110, 116, 115, 32, 102, 101, 117, 100, 32, 112, 101, 119, 115, 32, 115, 105, 116, 115, 32, 102, 105, 101, 108, 100, 32, 104, 97, 115, 32, 110, 111, 116, 32, 115, 119, 97, 112, 32, 103, 105, 118, 101, 32, 100, 114, 111, 112, 32, 116, 97, 107, 101, 32, 116, 114, 97, 100, 101, 32]
def st_ok (L : Ly) (A : Nat → Prop) (U : State) (H : Heap) : Prop := vk_R "NameHat$Words" 11 st_tx (ly_s L).1 U ∧ vk_S 1 [92] [st_by] (fun _ => (ly_s L).1) (fun _ => (ly_s L).2) A U H ∧ va_Z "java/lang/String" "COMPACT_STRINGS" "Z" (.int 1) A U H ∧ va_Zq "jdk/internal/util/Preconditions" "SIOOBE_FORMATTER" "Ljava/util/function/BiFunction;" A U H
theorem st_kept {L : Ly} {A : Nat → Prop} {U : State} {H H1 : Heap} (h : st_ok L A U H) (hq : ∀ a : Nat, a < H.size → ¬ A a → H1[a]? = H[a]?) : st_ok L A U H1 := ⟨h.1, h.2.1.kept hq, h.2.2.1.kept hq, h.2.2.2.kept hq⟩
theorem st_narrow {L : Ly} {A B : Nat → Prop} {U : State} {H : Heap} (h : st_ok L A U H) (hAB : ∀ q, B q → A q) : st_ok L B U H := ⟨h.1, h.2.1.narrow hAB, h.2.2.1.narrow hAB, h.2.2.2.narrow hAB⟩
theorem st_warm {L : Ly} {A : Nat → Prop} {s U : State} {H : Heap} (hW : s.WarmedH U.vm) (h : st_ok L A s H) : st_ok L A U H := ⟨vk_R.warm hW h.1, h.2.1.moved hW.alike, h.2.2.1.moved hW.alike, h.2.2.2.moved hW.alike⟩
theorem st_same {L : Ly} {A : Nat → Prop} {s U : State} {H : Heap} (hv : U.vm = s.vm) (h : st_ok L A s H) : st_ok L A U H := ⟨vk_R.same hv h.1, h.2.1.moved (by rw [hv]; exact Vm.Alike.refl _), h.2.2.1.moved (by rw [hv]; exact Vm.Alike.refl _), h.2.2.2.moved (by rw [hv]; exact Vm.Alike.refl _)⟩

/-! the judgement: from any heap that holds the memory σ, with these locals and this stack, the machine comes to Q -/
abbrev Fx : Type := Program × Launch × Env × Room × State × MethodId × Array Value × List Frame × Method × Code
abbrev fx_p (E : Fx) := E.1
abbrev fx_l (E : Fx) := E.2.1
abbrev fx_e (E : Fx) := E.2.2.1
abbrev fx_R (E : Fx) := E.2.2.2.1
abbrev fx_s (E : Fx) := E.2.2.2.2.1
abbrev fx_m (E : Fx) := E.2.2.2.2.2.1
abbrev fx_a (E : Fx) := E.2.2.2.2.2.2.1
abbrev fx_b (E : Fx) := E.2.2.2.2.2.2.2.1
abbrev fx_t (E : Fx) := E.2.2.2.2.2.2.2.2.1
abbrev fx_c (E : Fx) := E.2.2.2.2.2.2.2.2.2
def ly_t (L : Ly) : List (ClassId × FieldType) := [(ly_c L 0, .int), (ly_c L 1, .long), (ly_c L 2, .byte), (ly_c L 3, .boolean)]
abbrev WX (E : Fx) (H : Heap) (locs : List Loc) (cs sl : Nat) (Q : State → Prop) (g : JFrame) : Prop := W (fx_p E) (fx_l E) (fx_e E) (fx_R E) (fx_s E) (fx_m E) (fx_a E) (fx_b E) (fx_t E) (fx_c E) H locs cs sl Q g
def GW (E : Fx) (L : Ly) (A : Nat → Prop) (nL cs sl : Nat) (Q : State → Prop) (σ : Mm) (pc : Nat) (lv : List (Nat × Value)) (st : List Value) : Prop :=
  ∀ (H : Heap) (locs : List Loc) (ls : Array Slot), va_P L.1 cl_all (wl L σ) H → va_S A (fx_s E).heap H locs → lv_has ls nL lv → WX E H locs cs sl Q (F0 (fx_m E) pc ls st)
/-- what stands all through a method's walk -/
def Cx (E : Fx) (L : Ly) (A : Nat → Prop) (cc : ByteArray) (nL : Nat) (own : String) (ret : Option FieldType) (rm : Room) : Prop :=
  (fx_p E).tables.exec = Jvm.exec ∧ (fx_c E).code = cc ∧ (fx_c E).maxLocals = nL ∧ (fx_s E).vm.findClass own = some (fx_m E).cls ∧ (∀ w ∈ tb_G, w.before (fx_a E) (fx_s E) = true) ∧ tb_ok (fx_s E) ∧ va_K L.1 cl_all (ly_t L) (fx_s E) ∧ gd_ok L ∧ (∀ i j, i < ly_n L → j < ly_n L → ly_a L i = ly_a L j → i = j) ∧ (∀ o, o < ly_n L → A (ly_a L o)) ∧ (∀ q, (fx_s E).heap.size ≤ q → A q) ∧ fx_R E = rm ∧ (fx_t E).locks = false ∧ (fx_t E).sig.returnType = ret ∧ st_ok L A (fx_s E) (fx_s E).heap
section CX
variable {E : Fx} {L : Ly} {A : Nat → Prop} {cc : ByteArray} {nL : Nat} {own : String} {ret : Option FieldType} {rm : Room}
theorem cx_x (C : Cx E L A cc nL own ret rm) : (fx_p E).tables.exec = Jvm.exec := C.1
theorem cx_c (C : Cx E L A cc nL own ret rm) : (fx_c E).code = cc := C.2.1
theorem cx_n (C : Cx E L A cc nL own ret rm) : (fx_c E).maxLocals = nL := C.2.2.1
theorem cx_o (C : Cx E L A cc nL own ret rm) : (fx_s E).vm.findClass own = some (fx_m E).cls := C.2.2.2.1
theorem cx_w (C : Cx E L A cc nL own ret rm) : ∀ w ∈ tb_G, w.before (fx_a E) (fx_s E) = true := C.2.2.2.2.1
theorem cx_N (C : Cx E L A cc nL own ret rm) : tb_ok (fx_s E) := C.2.2.2.2.2.1
theorem cx_K (C : Cx E L A cc nL own ret rm) : va_K L.1 cl_all (ly_t L) (fx_s E) := C.2.2.2.2.2.2.1
theorem cx_g (C : Cx E L A cc nL own ret rm) : gd_ok L := C.2.2.2.2.2.2.2.1
theorem cx_i (C : Cx E L A cc nL own ret rm) : ∀ i j, i < ly_n L → j < ly_n L → ly_a L i = ly_a L j → i = j := C.2.2.2.2.2.2.2.2.1
theorem cx_A (C : Cx E L A cc nL own ret rm) : ∀ o, o < ly_n L → A (ly_a L o) := C.2.2.2.2.2.2.2.2.2.1
theorem cx_B (C : Cx E L A cc nL own ret rm) : ∀ q, (fx_s E).heap.size ≤ q → A q := C.2.2.2.2.2.2.2.2.2.2.1
theorem cx_R (C : Cx E L A cc nL own ret rm) : fx_R E = rm := C.2.2.2.2.2.2.2.2.2.2.2.1
theorem cx_k (C : Cx E L A cc nL own ret rm) : (fx_t E).locks = false := C.2.2.2.2.2.2.2.2.2.2.2.2.1
theorem cx_r (C : Cx E L A cc nL own ret rm) : (fx_t E).sig.returnType = ret := C.2.2.2.2.2.2.2.2.2.2.2.2.2.1
theorem cx_S (C : Cx E L A cc nL own ret rm) : st_ok L A (fx_s E) (fx_s E).heap := C.2.2.2.2.2.2.2.2.2.2.2.2.2.2
theorem cx_D (C : Cx E L A cc nL own ret rm) (σ : Mm) : va_D A (wl L σ) := by
  refine ⟨fun i j p q hi hj h => ?_, fun k q h => ?_⟩
  · have li : i < ly_n L := by have := (List.getElem?_eq_some_iff.mp hi).1; simpa [wl] using this
    have lj : j < ly_n L := by have := (List.getElem?_eq_some_iff.mp hj).1; simpa [wl] using this
    rw [wl_at L σ li] at hi
    rw [wl_at L σ lj] at hj
    cases hi; cases hj
    exact cx_i C i j li lj h
  · have lk : k < ly_n L := by have := (List.getElem?_eq_some_iff.mp h).1; simpa [wl] using this
    rw [wl_at L σ lk] at h
    cases h
    exact cx_A C k lk
end CX

section GR
variable {E : Fx} {L : Ly} {A : Nat → Prop} {cc : ByteArray} {nL cs sl : Nat} {own : String} {ret : Option FieldType} {rm : Room} {Q : State → Prop} {σ : Mm} {pc : Nat} {lv : List (Nat × Value)} {st : List Value}
theorem gw_iconst {n : Int} (C : Cx E L A cc nL own ret rm) (v : Int32) (d : decode cc pc = .ok (.iconst n, 1)) (hv : Int32.ofInt n = v) (k : GW E L A nL cs sl Q σ (pc + 1) lv (.int v :: st)) : GW E L A nL cs sl Q σ (pc) lv (st) := fun H locs ls hP hS hl => lv_iconst (cx_x C) (cx_c C) d hv (k H locs ls hP hS hl)
theorem gw_bipush {n : Int} (C : Cx E L A cc nL own ret rm) (v : Int32) (d : decode cc pc = .ok (.bipush n, 2)) (hv : (Int8.ofInt n).toInt32 = v) (k : GW E L A nL cs sl Q σ (pc + 2) lv (.int v :: st)) : GW E L A nL cs sl Q σ (pc) lv (st) := fun H locs ls hP hS hl => lv_bipush (cx_x C) (cx_c C) d hv (k H locs ls hP hS hl)
theorem gw_sipush {n : Int} (C : Cx E L A cc nL own ret rm) (v : Int32) (d : decode cc pc = .ok (.sipush n, 3)) (hv : (Int16.ofInt n).toInt32 = v) (k : GW E L A nL cs sl Q σ (pc + 3) lv (.int v :: st)) : GW E L A nL cs sl Q σ (pc) lv (st) := fun H locs ls hP hS hl => lv_sipush (cx_x C) (cx_c C) d hv (k H locs ls hP hS hl)
theorem gw_lconst {n : Fin 2} (C : Cx E L A cc nL own ret rm) (v : Int64) (d : decode cc pc = .ok (.lconst n, 1)) (hv : Int64.ofNat (n : Nat) = v) (k : GW E L A nL cs sl Q σ (pc + 1) lv (.long v :: st)) : GW E L A nL cs sl Q σ (pc) lv (st) := fun H locs ls hP hS hl => lv_lconst (cx_x C) (cx_c C) d hv (k H locs ls hP hS hl)
theorem gw_ldc {i : Nat} {v : Int32} (C : Cx E L A cc nL own ret rm) (d : decode cc pc = .ok (.ldc i, 2)) (hw : Cond.constant own i v ∈ tb_G) (k : GW E L A nL cs sl Q σ (pc + 2) lv (.int v :: st)) : GW E L A nL cs sl Q σ (pc) lv (st) := fun H locs ls hP hS hl => lv_ldc (cx_x C) (cx_c C) (cx_o C) (cx_w C _ hw) d (k H locs ls hP hS hl)
theorem gw_ldc_w {i : Nat} {v : Int32} (C : Cx E L A cc nL own ret rm) (d : decode cc pc = .ok (.ldc_w i, 3)) (hw : Cond.constant own i v ∈ tb_G) (k : GW E L A nL cs sl Q σ (pc + 3) lv (.int v :: st)) : GW E L A nL cs sl Q σ (pc) lv (st) := fun H locs ls hP hS hl => lv_ldcw (cx_x C) (cx_c C) (cx_o C) (cx_w C _ hw) d (k H locs ls hP hS hl)
theorem gw_ldc2_w {i : Nat} {v : Int64} (C : Cx E L A cc nL own ret rm) (d : decode cc pc = .ok (.ldc2_w i, 3)) (hw : Cond.constantLong own i v ∈ tb_G) (k : GW E L A nL cs sl Q σ (pc + 3) lv (.long v :: st)) : GW E L A nL cs sl Q σ (pc) lv (st) := fun H locs ls hP hS hl => lv_ldc2 (cx_x C) (cx_c C) (cx_o C) (cx_w C _ hw) d (k H locs ls hP hS hl)
theorem gw_iload_n {j : Fin 4} {i : Nat} {x : Int32} (C : Cx E L A cc nL own ret rm) (n : Nat) (d : decode cc pc = .ok (.iload_n j, 1)) (hi : (j : Nat) = i) (h : lv[n]? = some (i, .int x)) (k : GW E L A nL cs sl Q σ (pc + 1) lv (.int x :: st)) : GW E L A nL cs sl Q σ (pc) lv (st) := fun H locs ls hP hS hl => lv_iload_n (cx_x C) (cx_c C) d hi (lv_at hl n h) (k H locs ls hP hS hl)
theorem gw_iload {i : Nat} {x : Int32} (C : Cx E L A cc nL own ret rm) (n : Nat) (d : decode cc pc = .ok (.iload i, 2)) (h : lv[n]? = some (i, .int x)) (k : GW E L A nL cs sl Q σ (pc + 2) lv (.int x :: st)) : GW E L A nL cs sl Q σ (pc) lv (st) := fun H locs ls hP hS hl => lv_iload (cx_x C) (cx_c C) d (lv_at hl n h) (k H locs ls hP hS hl)
theorem gw_istore_n {j : Fin 4} {i : Nat} {x : Int32} (C : Cx E L A cc nL own ret rm) (lv' : List (Nat × Value)) (d : decode cc pc = .ok (.istore_n j, 1)) (hi : (j : Nat) = i) (hn : i < nL) (h : (i, Value.int x) :: lv.filter (fun q => !(q.1 == i) && !(q.1 + 1 == i && q.2.category == 2)) = lv') (k : GW E L A nL cs sl Q σ (pc + 1) lv' (st)) : GW E L A nL cs sl Q σ (pc) lv (.int x :: st) := fun H locs ls hP hS hl => lv_istore_n (cx_x C) (cx_c C) d hi hl hn h (fun ls hl => k H locs ls hP hS hl)
theorem gw_istore {i : Nat} {x : Int32} (C : Cx E L A cc nL own ret rm) (lv' : List (Nat × Value)) (d : decode cc pc = .ok (.istore i, 2)) (hn : i < nL) (h : (i, Value.int x) :: lv.filter (fun q => !(q.1 == i) && !(q.1 + 1 == i && q.2.category == 2)) = lv') (k : GW E L A nL cs sl Q σ (pc + 2) lv' (st)) : GW E L A nL cs sl Q σ (pc) lv (.int x :: st) := fun H locs ls hP hS hl => lv_istore (cx_x C) (cx_c C) d hl hn h (fun ls hl => k H locs ls hP hS hl)
theorem gw_lload_n {j : Fin 4} {i : Nat} {x : Int64} (C : Cx E L A cc nL own ret rm) (n : Nat) (d : decode cc pc = .ok (.lload_n j, 1)) (hi : (j : Nat) = i) (h : lv[n]? = some (i, .long x)) (k : GW E L A nL cs sl Q σ (pc + 1) lv (.long x :: st)) : GW E L A nL cs sl Q σ (pc) lv (st) := fun H locs ls hP hS hl => lv_lload_n (cx_x C) (cx_c C) d hi (lv_at hl n h) (k H locs ls hP hS hl)
theorem gw_lload {i : Nat} {x : Int64} (C : Cx E L A cc nL own ret rm) (n : Nat) (d : decode cc pc = .ok (.lload i, 2)) (h : lv[n]? = some (i, .long x)) (k : GW E L A nL cs sl Q σ (pc + 2) lv (.long x :: st)) : GW E L A nL cs sl Q σ (pc) lv (st) := fun H locs ls hP hS hl => lv_lload (cx_x C) (cx_c C) d (lv_at hl n h) (k H locs ls hP hS hl)
theorem gw_lstore_n {j : Fin 4} {i : Nat} {x : Int64} (C : Cx E L A cc nL own ret rm) (lv' : List (Nat × Value)) (d : decode cc pc = .ok (.lstore_n j, 1)) (hi : (j : Nat) = i) (hn : i + 1 < nL) (h : (i, Value.long x) :: lv.filter (fun q => !(q.1 == i) && (!(q.1 == i + 1) && !(q.1 + 1 == i && q.2.category == 2))) = lv') (k : GW E L A nL cs sl Q σ (pc + 1) lv' (st)) : GW E L A nL cs sl Q σ (pc) lv (.long x :: st) := fun H locs ls hP hS hl => lv_lstore_n (cx_x C) (cx_c C) d hi hl hn h (fun ls hl => k H locs ls hP hS hl)
theorem gw_lstore {i : Nat} {x : Int64} (C : Cx E L A cc nL own ret rm) (lv' : List (Nat × Value)) (d : decode cc pc = .ok (.lstore i, 2)) (hn : i + 1 < nL) (h : (i, Value.long x) :: lv.filter (fun q => !(q.1 == i) && (!(q.1 == i + 1) && !(q.1 + 1 == i && q.2.category == 2))) = lv') (k : GW E L A nL cs sl Q σ (pc + 2) lv' (st)) : GW E L A nL cs sl Q σ (pc) lv (.long x :: st) := fun H locs ls hP hS hl => lv_lstore (cx_x C) (cx_c C) d hl hn h (fun ls hl => k H locs ls hP hS hl)
theorem gw_aload_n {j : Fin 4} {i : Nat} {x : Nat} (C : Cx E L A cc nL own ret rm) (n : Nat) (d : decode cc pc = .ok (.aload_n j, 1)) (hi : (j : Nat) = i) (h : lv[n]? = some (i, .ref x)) (k : GW E L A nL cs sl Q σ (pc + 1) lv (.ref x :: st)) : GW E L A nL cs sl Q σ (pc) lv (st) := fun H locs ls hP hS hl => lv_aload_n (cx_x C) (cx_c C) d hi (lv_at hl n h) (k H locs ls hP hS hl)
theorem gw_aload {i : Nat} {x : Nat} (C : Cx E L A cc nL own ret rm) (n : Nat) (d : decode cc pc = .ok (.aload i, 2)) (h : lv[n]? = some (i, .ref x)) (k : GW E L A nL cs sl Q σ (pc + 2) lv (.ref x :: st)) : GW E L A nL cs sl Q σ (pc) lv (st) := fun H locs ls hP hS hl => lv_aload (cx_x C) (cx_c C) d (lv_at hl n h) (k H locs ls hP hS hl)
theorem gw_astore_n {j : Fin 4} {i : Nat} {x : Nat} (C : Cx E L A cc nL own ret rm) (lv' : List (Nat × Value)) (d : decode cc pc = .ok (.astore_n j, 1)) (hi : (j : Nat) = i) (hn : i < nL) (h : (i, Value.ref x) :: lv.filter (fun q => !(q.1 == i) && !(q.1 + 1 == i && q.2.category == 2)) = lv') (k : GW E L A nL cs sl Q σ (pc + 1) lv' (st)) : GW E L A nL cs sl Q σ (pc) lv (.ref x :: st) := fun H locs ls hP hS hl => lv_astore_n (cx_x C) (cx_c C) d hi hl hn h (fun ls hl => k H locs ls hP hS hl)
theorem gw_astore {i : Nat} {x : Nat} (C : Cx E L A cc nL own ret rm) (lv' : List (Nat × Value)) (d : decode cc pc = .ok (.astore i, 2)) (hn : i < nL) (h : (i, Value.ref x) :: lv.filter (fun q => !(q.1 == i) && !(q.1 + 1 == i && q.2.category == 2)) = lv') (k : GW E L A nL cs sl Q σ (pc + 2) lv' (st)) : GW E L A nL cs sl Q σ (pc) lv (.ref x :: st) := fun H locs ls hP hS hl => lv_astore (cx_x C) (cx_c C) d hl hn h (fun ls hl => k H locs ls hP hS hl)
theorem gw_iinc {i : Nat} {n : Int} {x v : Int32} (C : Cx E L A cc nL own ret rm) (j : Nat) (lv' : List (Nat × Value)) (d : decode cc pc = .ok (.iinc i n, 3)) (hj : lv[j]? = some (i, .int x)) (hv : x + Int32.ofInt n = v) (hn : i < nL) (h : (i, Value.int v) :: lv.filter (fun q => !(q.1 == i) && !(q.1 + 1 == i && q.2.category == 2)) = lv') (k : GW E L A nL cs sl Q σ (pc + 3) lv' (st)) : GW E L A nL cs sl Q σ (pc) lv (st) := fun H locs ls hP hS hl => lv_iinc (cx_x C) (cx_c C) d hl hj hv hn h (fun ls hl => k H locs ls hP hS hl)
theorem gw_iadd {x y : Int32} (C : Cx E L A cc nL own ret rm) (d : decode cc pc = .ok (.iadd, 1)) (k : GW E L A nL cs sl Q σ (pc + 1) lv (.int (x + y) :: st)) : GW E L A nL cs sl Q σ (pc) lv (.int y :: .int x :: st) := fun H locs ls hP hS hl => lv_iadd (cx_x C) (cx_c C) d (k H locs ls hP hS hl)
theorem gw_isub {x y : Int32} (C : Cx E L A cc nL own ret rm) (d : decode cc pc = .ok (.isub, 1)) (k : GW E L A nL cs sl Q σ (pc + 1) lv (.int (x - y) :: st)) : GW E L A nL cs sl Q σ (pc) lv (.int y :: .int x :: st) := fun H locs ls hP hS hl => lv_isub (cx_x C) (cx_c C) d (k H locs ls hP hS hl)
theorem gw_imul {x y : Int32} (C : Cx E L A cc nL own ret rm) (d : decode cc pc = .ok (.imul, 1)) (k : GW E L A nL cs sl Q σ (pc + 1) lv (.int (x * y) :: st)) : GW E L A nL cs sl Q σ (pc) lv (.int y :: .int x :: st) := fun H locs ls hP hS hl => lv_imul (cx_x C) (cx_c C) d (k H locs ls hP hS hl)
theorem gw_iand {x y : Int32} (C : Cx E L A cc nL own ret rm) (d : decode cc pc = .ok (.iand, 1)) (k : GW E L A nL cs sl Q σ (pc + 1) lv (.int (x &&& y) :: st)) : GW E L A nL cs sl Q σ (pc) lv (.int y :: .int x :: st) := fun H locs ls hP hS hl => lv_iand (cx_x C) (cx_c C) d (k H locs ls hP hS hl)
theorem gw_ior {x y : Int32} (C : Cx E L A cc nL own ret rm) (d : decode cc pc = .ok (.ior, 1)) (k : GW E L A nL cs sl Q σ (pc + 1) lv (.int (x ||| y) :: st)) : GW E L A nL cs sl Q σ (pc) lv (.int y :: .int x :: st) := fun H locs ls hP hS hl => lv_ior (cx_x C) (cx_c C) d (k H locs ls hP hS hl)
theorem gw_ixor {x y : Int32} (C : Cx E L A cc nL own ret rm) (d : decode cc pc = .ok (.ixor, 1)) (k : GW E L A nL cs sl Q σ (pc + 1) lv (.int (x ^^^ y) :: st)) : GW E L A nL cs sl Q σ (pc) lv (.int y :: .int x :: st) := fun H locs ls hP hS hl => lv_ixor (cx_x C) (cx_c C) d (k H locs ls hP hS hl)
theorem gw_ishl {x y : Int32} (C : Cx E L A cc nL own ret rm) (d : decode cc pc = .ok (.ishl, 1)) (k : GW E L A nL cs sl Q σ (pc + 1) lv (.int (x <<< (y &&& 31)) :: st)) : GW E L A nL cs sl Q σ (pc) lv (.int y :: .int x :: st) := fun H locs ls hP hS hl => lv_ishl (cx_x C) (cx_c C) d (k H locs ls hP hS hl)
theorem gw_ishr {x y : Int32} (C : Cx E L A cc nL own ret rm) (d : decode cc pc = .ok (.ishr, 1)) (k : GW E L A nL cs sl Q σ (pc + 1) lv (.int (x >>> (y &&& 31)) :: st)) : GW E L A nL cs sl Q σ (pc) lv (.int y :: .int x :: st) := fun H locs ls hP hS hl => lv_ishr (cx_x C) (cx_c C) d (k H locs ls hP hS hl)
theorem gw_iushr {x y : Int32} (C : Cx E L A cc nL own ret rm) (d : decode cc pc = .ok (.iushr, 1)) (k : GW E L A nL cs sl Q σ (pc + 1) lv (.int ((x.toUInt32 >>> (y.toUInt32 &&& Int32.toUInt32 31)).toInt32) :: st)) : GW E L A nL cs sl Q σ (pc) lv (.int y :: .int x :: st) := fun H locs ls hP hS hl => lv_iushr (cx_x C) (cx_c C) d rfl (k H locs ls hP hS hl)
theorem gw_idiv {x y : Int32} (C : Cx E L A cc nL own ret rm) (d : decode cc pc = .ok (.idiv, 1)) (h : ¬ y = 0) (k : GW E L A nL cs sl Q σ (pc + 1) lv (.int (x / y) :: st)) : GW E L A nL cs sl Q σ (pc) lv (.int y :: .int x :: st) := fun H locs ls hP hS hl => lv_idiv (cx_x C) (cx_c C) d h (k H locs ls hP hS hl)
theorem gw_irem {x y : Int32} (C : Cx E L A cc nL own ret rm) (d : decode cc pc = .ok (.irem, 1)) (h : ¬ y = 0) (k : GW E L A nL cs sl Q σ (pc + 1) lv (.int (x - x / y * y) :: st)) : GW E L A nL cs sl Q σ (pc) lv (.int y :: .int x :: st) := fun H locs ls hP hS hl => lv_irem (cx_x C) (cx_c C) d h (k H locs ls hP hS hl)
theorem gw_ladd {x y : Int64} (C : Cx E L A cc nL own ret rm) (d : decode cc pc = .ok (.ladd, 1)) (k : GW E L A nL cs sl Q σ (pc + 1) lv (.long (x + y) :: st)) : GW E L A nL cs sl Q σ (pc) lv (.long y :: .long x :: st) := fun H locs ls hP hS hl => lv_ladd (cx_x C) (cx_c C) d (k H locs ls hP hS hl)
theorem gw_lsub {x y : Int64} (C : Cx E L A cc nL own ret rm) (d : decode cc pc = .ok (.lsub, 1)) (k : GW E L A nL cs sl Q σ (pc + 1) lv (.long (x - y) :: st)) : GW E L A nL cs sl Q σ (pc) lv (.long y :: .long x :: st) := fun H locs ls hP hS hl => lv_lsub (cx_x C) (cx_c C) d (k H locs ls hP hS hl)
theorem gw_lmul {x y : Int64} (C : Cx E L A cc nL own ret rm) (d : decode cc pc = .ok (.lmul, 1)) (k : GW E L A nL cs sl Q σ (pc + 1) lv (.long (x * y) :: st)) : GW E L A nL cs sl Q σ (pc) lv (.long y :: .long x :: st) := fun H locs ls hP hS hl => lv_lmul (cx_x C) (cx_c C) d (k H locs ls hP hS hl)
theorem gw_land {x y : Int64} (C : Cx E L A cc nL own ret rm) (d : decode cc pc = .ok (.land, 1)) (k : GW E L A nL cs sl Q σ (pc + 1) lv (.long (x &&& y) :: st)) : GW E L A nL cs sl Q σ (pc) lv (.long y :: .long x :: st) := fun H locs ls hP hS hl => lv_land (cx_x C) (cx_c C) d (k H locs ls hP hS hl)
theorem gw_lor {x y : Int64} (C : Cx E L A cc nL own ret rm) (d : decode cc pc = .ok (.lor, 1)) (k : GW E L A nL cs sl Q σ (pc + 1) lv (.long (x ||| y) :: st)) : GW E L A nL cs sl Q σ (pc) lv (.long y :: .long x :: st) := fun H locs ls hP hS hl => lv_lor (cx_x C) (cx_c C) d (k H locs ls hP hS hl)
theorem gw_lxor {x y : Int64} (C : Cx E L A cc nL own ret rm) (d : decode cc pc = .ok (.lxor, 1)) (k : GW E L A nL cs sl Q σ (pc + 1) lv (.long (x ^^^ y) :: st)) : GW E L A nL cs sl Q σ (pc) lv (.long y :: .long x :: st) := fun H locs ls hP hS hl => lv_lxor (cx_x C) (cx_c C) d (k H locs ls hP hS hl)
theorem gw_ldiv {x y : Int64} (C : Cx E L A cc nL own ret rm) (d : decode cc pc = .ok (.ldiv, 1)) (h : ¬ y = 0) (k : GW E L A nL cs sl Q σ (pc + 1) lv (.long (x / y) :: st)) : GW E L A nL cs sl Q σ (pc) lv (.long y :: .long x :: st) := fun H locs ls hP hS hl => lv_ldiv (cx_x C) (cx_c C) d h (k H locs ls hP hS hl)
theorem gw_lrem {x y : Int64} (C : Cx E L A cc nL own ret rm) (d : decode cc pc = .ok (.lrem, 1)) (h : ¬ y = 0) (k : GW E L A nL cs sl Q σ (pc + 1) lv (.long (x - x / y * y) :: st)) : GW E L A nL cs sl Q σ (pc) lv (.long y :: .long x :: st) := fun H locs ls hP hS hl => lv_lrem (cx_x C) (cx_c C) d h (k H locs ls hP hS hl)
theorem gw_lshl {x : Int64} {y : Int32} (C : Cx E L A cc nL own ret rm) (d : decode cc pc = .ok (.lshl, 1)) (k : GW E L A nL cs sl Q σ (pc + 1) lv (.long (x <<< (y.toInt64 &&& 63)) :: st)) : GW E L A nL cs sl Q σ (pc) lv (.int y :: .long x :: st) := fun H locs ls hP hS hl => lv_lshl (cx_x C) (cx_c C) d rfl (k H locs ls hP hS hl)
theorem gw_lneg {x : Int64} (C : Cx E L A cc nL own ret rm) (d : decode cc pc = .ok (.lneg, 1)) (k : GW E L A nL cs sl Q σ (pc + 1) lv (.long (-x) :: st)) : GW E L A nL cs sl Q σ (pc) lv (.long x :: st) := fun H locs ls hP hS hl => lv_lneg (cx_x C) (cx_c C) d (k H locs ls hP hS hl)
theorem gw_ineg {x : Int32} (C : Cx E L A cc nL own ret rm) (d : decode cc pc = .ok (.ineg, 1)) (k : GW E L A nL cs sl Q σ (pc + 1) lv (.int (-x) :: st)) : GW E L A nL cs sl Q σ (pc) lv (.int x :: st) := fun H locs ls hP hS hl => lv_ineg (cx_x C) (cx_c C) d (k H locs ls hP hS hl)
theorem gw_lcmp {x y : Int64} (C : Cx E L A cc nL own ret rm) (d : decode cc pc = .ok (.lcmp, 1)) (k : GW E L A nL cs sl Q σ (pc + 1) lv (.int (lg_cmp x y) :: st)) : GW E L A nL cs sl Q σ (pc) lv (.long y :: .long x :: st) := fun H locs ls hP hS hl => W.lcmp (cx_x C) (cx_c C) d (k H locs ls hP hS hl)
theorem gw_i2l {x : Int32} (C : Cx E L A cc nL own ret rm) (d : decode cc pc = .ok (.i2l, 1)) (k : GW E L A nL cs sl Q σ (pc + 1) lv (.long x.toInt64 :: st)) : GW E L A nL cs sl Q σ (pc) lv (.int x :: st) := fun H locs ls hP hS hl => lv_i2l (cx_x C) (cx_c C) d rfl (k H locs ls hP hS hl)
theorem gw_l2i {x : Int64} (C : Cx E L A cc nL own ret rm) (d : decode cc pc = .ok (.l2i, 1)) (k : GW E L A nL cs sl Q σ (pc + 1) lv (.int x.toInt32 :: st)) : GW E L A nL cs sl Q σ (pc) lv (.long x :: st) := fun H locs ls hP hS hl => lv_l2i (cx_x C) (cx_c C) d rfl (k H locs ls hP hS hl)
theorem gw_i2b {x : Int32} (C : Cx E L A cc nL own ret rm) (d : decode cc pc = .ok (.i2b, 1)) (k : GW E L A nL cs sl Q σ (pc + 1) lv (.int x.toInt8.toInt32 :: st)) : GW E L A nL cs sl Q σ (pc) lv (.int x :: st) := fun H locs ls hP hS hl => lv_i2b (cx_x C) (cx_c C) d rfl (k H locs ls hP hS hl)
theorem gw_dup {v : Value} (C : Cx E L A cc nL own ret rm) (d : decode cc pc = .ok (.dup, 1)) (hv : v.category = 1) (k : GW E L A nL cs sl Q σ (pc + 1) lv (v :: v :: st)) : GW E L A nL cs sl Q σ (pc) lv (v :: st) := fun H locs ls hP hS hl => lv_dup (cx_x C) (cx_c C) d hv (k H locs ls hP hS hl)
theorem gw_pop {v : Value} (C : Cx E L A cc nL own ret rm) (d : decode cc pc = .ok (.pop, 1)) (hv : v.category = 1) (k : GW E L A nL cs sl Q σ (pc + 1) lv (st)) : GW E L A nL cs sl Q σ (pc) lv (v :: st) := fun H locs ls hP hS hl => lv_pop (cx_x C) (cx_c C) d hv (k H locs ls hP hS hl)
theorem gw_dup2 {v w : Value} (C : Cx E L A cc nL own ret rm) (d : decode cc pc = .ok (.dup2, 1)) (hv : v.category = 1) (hw : w.category = 1) (k : GW E L A nL cs sl Q σ (pc + 1) lv (v :: w :: v :: w :: st)) : GW E L A nL cs sl Q σ (pc) lv (v :: w :: st) := fun H locs ls hP hS hl => lv_dup2_11 (cx_x C) (cx_c C) d hv hw (k H locs ls hP hS hl)
theorem gw_goto {off : Int} (C : Cx E L A cc nL own ret rm) (tgt : Nat) (d : decode cc pc = .ok (.goto off, 3)) (ht : (pc : Int) + off = (tgt : Int)) (k : GW E L A nL cs sl Q σ (tgt) lv (st)) : GW E L A nL cs sl Q σ (pc) lv (st) := fun H locs ls hP hS hl => lv_goto (cx_x C) (cx_c C) d ht (k H locs ls hP hS hl)
theorem gw_if_eq {x : Int32} {off : Int} (C : Cx E L A cc nL own ret rm) (tgt : Nat) (d : decode cc pc = .ok (.ifCond .eq off, 3)) (ht : (pc : Int) + off = (tgt : Int)) (kt : x = 0 → GW E L A nL cs sl Q σ (tgt) lv (st)) (kf : ¬ x = 0 → GW E L A nL cs sl Q σ (pc + 3) lv (st)) : GW E L A nL cs sl Q σ (pc) lv (.int x :: st) := fun H locs ls hP hS hl => lv_if_eq (cx_x C) (cx_c C) d ht (fun h => kt h H locs ls hP hS hl) (fun h => kf h H locs ls hP hS hl)
theorem gw_icmp_eq {x y : Int32} {off : Int} (C : Cx E L A cc nL own ret rm) (tgt : Nat) (d : decode cc pc = .ok (.if_icmp .eq off, 3)) (ht : (pc : Int) + off = (tgt : Int)) (kt : x = y → GW E L A nL cs sl Q σ (tgt) lv (st)) (kf : ¬ x = y → GW E L A nL cs sl Q σ (pc + 3) lv (st)) : GW E L A nL cs sl Q σ (pc) lv (.int y :: .int x :: st) := fun H locs ls hP hS hl => lv_icmp_eq (cx_x C) (cx_c C) d ht (fun h => kt h H locs ls hP hS hl) (fun h => kf h H locs ls hP hS hl)
theorem gw_if_ne {x : Int32} {off : Int} (C : Cx E L A cc nL own ret rm) (tgt : Nat) (d : decode cc pc = .ok (.ifCond .ne off, 3)) (ht : (pc : Int) + off = (tgt : Int)) (kt : ¬ x = 0 → GW E L A nL cs sl Q σ (tgt) lv (st)) (kf : x = 0 → GW E L A nL cs sl Q σ (pc + 3) lv (st)) : GW E L A nL cs sl Q σ (pc) lv (.int x :: st) := fun H locs ls hP hS hl => lv_if_ne (cx_x C) (cx_c C) d ht (fun h => kt h H locs ls hP hS hl) (fun h => kf h H locs ls hP hS hl)
theorem gw_icmp_ne {x y : Int32} {off : Int} (C : Cx E L A cc nL own ret rm) (tgt : Nat) (d : decode cc pc = .ok (.if_icmp .ne off, 3)) (ht : (pc : Int) + off = (tgt : Int)) (kt : ¬ x = y → GW E L A nL cs sl Q σ (tgt) lv (st)) (kf : x = y → GW E L A nL cs sl Q σ (pc + 3) lv (st)) : GW E L A nL cs sl Q σ (pc) lv (.int y :: .int x :: st) := fun H locs ls hP hS hl => lv_icmp_ne (cx_x C) (cx_c C) d ht (fun h => kt h H locs ls hP hS hl) (fun h => kf h H locs ls hP hS hl)
theorem gw_if_lt {x : Int32} {off : Int} (C : Cx E L A cc nL own ret rm) (tgt : Nat) (d : decode cc pc = .ok (.ifCond .lt off, 3)) (ht : (pc : Int) + off = (tgt : Int)) (kt : x < 0 → GW E L A nL cs sl Q σ (tgt) lv (st)) (kf : ¬ x < 0 → GW E L A nL cs sl Q σ (pc + 3) lv (st)) : GW E L A nL cs sl Q σ (pc) lv (.int x :: st) := fun H locs ls hP hS hl => lv_if_lt (cx_x C) (cx_c C) d ht (fun h => kt h H locs ls hP hS hl) (fun h => kf h H locs ls hP hS hl)
theorem gw_icmp_lt {x y : Int32} {off : Int} (C : Cx E L A cc nL own ret rm) (tgt : Nat) (d : decode cc pc = .ok (.if_icmp .lt off, 3)) (ht : (pc : Int) + off = (tgt : Int)) (kt : x < y → GW E L A nL cs sl Q σ (tgt) lv (st)) (kf : ¬ x < y → GW E L A nL cs sl Q σ (pc + 3) lv (st)) : GW E L A nL cs sl Q σ (pc) lv (.int y :: .int x :: st) := fun H locs ls hP hS hl => lv_icmp_lt (cx_x C) (cx_c C) d ht (fun h => kt h H locs ls hP hS hl) (fun h => kf h H locs ls hP hS hl)
theorem gw_if_ge {x : Int32} {off : Int} (C : Cx E L A cc nL own ret rm) (tgt : Nat) (d : decode cc pc = .ok (.ifCond .ge off, 3)) (ht : (pc : Int) + off = (tgt : Int)) (kt : 0 ≤ x → GW E L A nL cs sl Q σ (tgt) lv (st)) (kf : ¬ 0 ≤ x → GW E L A nL cs sl Q σ (pc + 3) lv (st)) : GW E L A nL cs sl Q σ (pc) lv (.int x :: st) := fun H locs ls hP hS hl => lv_if_ge (cx_x C) (cx_c C) d ht (fun h => kt h H locs ls hP hS hl) (fun h => kf h H locs ls hP hS hl)
theorem gw_icmp_ge {x y : Int32} {off : Int} (C : Cx E L A cc nL own ret rm) (tgt : Nat) (d : decode cc pc = .ok (.if_icmp .ge off, 3)) (ht : (pc : Int) + off = (tgt : Int)) (kt : y ≤ x → GW E L A nL cs sl Q σ (tgt) lv (st)) (kf : ¬ y ≤ x → GW E L A nL cs sl Q σ (pc + 3) lv (st)) : GW E L A nL cs sl Q σ (pc) lv (.int y :: .int x :: st) := fun H locs ls hP hS hl => lv_icmp_ge (cx_x C) (cx_c C) d ht (fun h => kt h H locs ls hP hS hl) (fun h => kf h H locs ls hP hS hl)
theorem gw_if_gt {x : Int32} {off : Int} (C : Cx E L A cc nL own ret rm) (tgt : Nat) (d : decode cc pc = .ok (.ifCond .gt off, 3)) (ht : (pc : Int) + off = (tgt : Int)) (kt : 0 < x → GW E L A nL cs sl Q σ (tgt) lv (st)) (kf : ¬ 0 < x → GW E L A nL cs sl Q σ (pc + 3) lv (st)) : GW E L A nL cs sl Q σ (pc) lv (.int x :: st) := fun H locs ls hP hS hl => lv_if_gt (cx_x C) (cx_c C) d ht (fun h => kt h H locs ls hP hS hl) (fun h => kf h H locs ls hP hS hl)
theorem gw_icmp_gt {x y : Int32} {off : Int} (C : Cx E L A cc nL own ret rm) (tgt : Nat) (d : decode cc pc = .ok (.if_icmp .gt off, 3)) (ht : (pc : Int) + off = (tgt : Int)) (kt : y < x → GW E L A nL cs sl Q σ (tgt) lv (st)) (kf : ¬ y < x → GW E L A nL cs sl Q σ (pc + 3) lv (st)) : GW E L A nL cs sl Q σ (pc) lv (.int y :: .int x :: st) := fun H locs ls hP hS hl => lv_icmp_gt (cx_x C) (cx_c C) d ht (fun h => kt h H locs ls hP hS hl) (fun h => kf h H locs ls hP hS hl)
theorem gw_if_le {x : Int32} {off : Int} (C : Cx E L A cc nL own ret rm) (tgt : Nat) (d : decode cc pc = .ok (.ifCond .le off, 3)) (ht : (pc : Int) + off = (tgt : Int)) (kt : x ≤ 0 → GW E L A nL cs sl Q σ (tgt) lv (st)) (kf : ¬ x ≤ 0 → GW E L A nL cs sl Q σ (pc + 3) lv (st)) : GW E L A nL cs sl Q σ (pc) lv (.int x :: st) := fun H locs ls hP hS hl => lv_if_le (cx_x C) (cx_c C) d ht (fun h => kt h H locs ls hP hS hl) (fun h => kf h H locs ls hP hS hl)
theorem gw_icmp_le {x y : Int32} {off : Int} (C : Cx E L A cc nL own ret rm) (tgt : Nat) (d : decode cc pc = .ok (.if_icmp .le off, 3)) (ht : (pc : Int) + off = (tgt : Int)) (kt : x ≤ y → GW E L A nL cs sl Q σ (tgt) lv (st)) (kf : ¬ x ≤ y → GW E L A nL cs sl Q σ (pc + 3) lv (st)) : GW E L A nL cs sl Q σ (pc) lv (.int y :: .int x :: st) := fun H locs ls hP hS hl => lv_icmp_le (cx_x C) (cx_c C) d ht (fun h => kt h H locs ls hP hS hl) (fun h => kf h H locs ls hP hS hl)
theorem gw_tabOut {dflt lo hi : Int} {offs : Array Int} {len : Nat} {x : Int32} (C : Cx E L A cc nL own ret rm) (tgt : Nat) (d : decode cc pc = .ok (.tableswitch dflt lo hi offs, len)) (h : x.toInt < lo ∨ hi < x.toInt) (ht : (pc : Int) + dflt = (tgt : Int)) (k : GW E L A nL cs sl Q σ (tgt) lv (st)) : GW E L A nL cs sl Q σ (pc) lv (.int x :: st) := fun H locs ls hP hS hl => lv_tableOut (cx_x C) (cx_c C) d h ht (k H locs ls hP hS hl)
theorem gw_tabIn {dflt lo hi : Int} {offs : Array Int} {len : Nat} {x : Int32} {off : Int} (C : Cx E L A cc nL own ret rm) (tgt : Nat) (d : decode cc pc = .ok (.tableswitch dflt lo hi offs, len)) (h1 : ¬ x.toInt < lo) (h2 : ¬ hi < x.toInt) (ho : offs[(x.toInt - lo).toNat]? = some off) (ht : (pc : Int) + off = (tgt : Int)) (k : GW E L A nL cs sl Q σ (tgt) lv (st)) : GW E L A nL cs sl Q σ (pc) lv (.int x :: st) := fun H locs ls hP hS hl => lv_tableIn (cx_x C) (cx_c C) d h1 h2 ho ht (k H locs ls hP hS hl)
/-- fewer listed locals -/
theorem gw_sub {lv' : List (Nat × Value)} (ks : List Nat) (h : lv_pick lv ks = lv') (k : GW E L A nL cs sl Q σ pc lv' st) : GW E L A nL cs sl Q σ pc lv st := fun H locs ls hP hS hl => k H locs ls hP hS (lv_sub hl ks h)
theorem gw_mem {σ' : Mm} (h : σ = σ') (k : GW E L A nL cs sl Q σ' pc lv st) : GW E L A nL cs sl Q σ pc lv st := h ▸ k
theorem gw_topi {x y : Int32} (h : y = x) (k : GW E L A nL cs sl Q σ pc lv (.int y :: st)) : GW E L A nL cs sl Q σ pc lv (.int x :: st) := h ▸ k
theorem gw_topl {x y : Int64} (h : y = x) (k : GW E L A nL cs sl Q σ pc lv (.long y :: st)) : GW E L A nL cs sl Q σ pc lv (.long x :: st) := h ▸ k
theorem gw_getA {o K N x index : Nat} {R ref : String} {T : u_T} (C : Cx E L A cc nL own ret rm) (f : Nat) (d : decode cc pc = .ok (.getfield index, 3)) (hk : ly_k L o = K) (hK : K < 20) (hi : ∀ w ∈ u_ws R T N, w ∈ tb_G) (hc : cl_all[K]? = some (R, T, N)) (hf : (fd_T.getD K [])[f]? = some (0, x)) (hn : f < N) (hw : (Cond.fieldLink own index ref (T f).2.1 (T f).2.2.1) ∈ tb_G) (hr : R = ref) (hT : (T f).1 = ref) (o9 : Nat) (ho9 : o + x = o9) (k : GW E L A nL cs sl Q σ (pc + 3) lv (.ref (ly_a L o9) :: st)) : GW E L A nL cs sl Q σ (pc) lv (.ref (ly_a L o) :: st) := by
  intro H locs ls hP hS hl
  subst hr
  subst ho9
  have hl9 : o < ly_n L := gd_lt (cx_g C) hk (by omega)
  have he := wl_at L σ hl9
  rw [hk, cl_obj hK] at he
  exact va_get (D := L.1) (cl := cl_all) (cx_x C) (cx_c C) (cx_w C) hi (cx_o C) (cx_K C) hP o he hc f hn (cx_w C _ hw) (fun z h9 => by rw [hT] at h9; exact h9) (fd_get hf) d (k H locs ls hP hS hl)
theorem gw_getI {o K N x index : Nat} {R ref : String} {T : u_T} (C : Cx E L A cc nL own ret rm) (f : Nat) (d : decode cc pc = .ok (.getfield index, 3)) (hk : ly_k L o = K) (hK : K < 20) (hi : ∀ w ∈ u_ws R T N, w ∈ tb_G) (hc : cl_all[K]? = some (R, T, N)) (hf : (fd_T.getD K [])[f]? = some (1, x)) (hn : f < N) (hw : (Cond.fieldLink own index ref (T f).2.1 (T f).2.2.1) ∈ tb_G) (hr : R = ref) (hT : (T f).1 = ref)  (k : GW E L A nL cs sl Q σ (pc + 3) lv (.int (σ.1 o f) :: st)) : GW E L A nL cs sl Q σ (pc) lv (.ref (ly_a L o) :: st) := by
  intro H locs ls hP hS hl
  subst hr
  have hl9 : o < ly_n L := gd_lt (cx_g C) hk (by omega)
  have he := wl_at L σ hl9
  rw [hk, cl_obj hK] at he
  exact va_get (D := L.1) (cl := cl_all) (cx_x C) (cx_c C) (cx_w C) hi (cx_o C) (cx_K C) hP o he hc f hn (cx_w C _ hw) (fun z h9 => by rw [hT] at h9; exact h9) (fd_get hf) d (k H locs ls hP hS hl)
theorem gw_getL {o K N x index : Nat} {R ref : String} {T : u_T} (C : Cx E L A cc nL own ret rm) (f : Nat) (d : decode cc pc = .ok (.getfield index, 3)) (hk : ly_k L o = K) (hK : K < 20) (hi : ∀ w ∈ u_ws R T N, w ∈ tb_G) (hc : cl_all[K]? = some (R, T, N)) (hf : (fd_T.getD K [])[f]? = some (2, x)) (hn : f < N) (hw : (Cond.fieldLink own index ref (T f).2.1 (T f).2.2.1) ∈ tb_G) (hr : R = ref) (hT : (T f).1 = ref)  (k : GW E L A nL cs sl Q σ (pc + 3) lv (.long (σ.2 o f) :: st)) : GW E L A nL cs sl Q σ (pc) lv (.ref (ly_a L o) :: st) := by
  intro H locs ls hP hS hl
  subst hr
  have hl9 : o < ly_n L := gd_lt (cx_g C) hk (by omega)
  have he := wl_at L σ hl9
  rw [hk, cl_obj hK] at he
  exact va_get (D := L.1) (cl := cl_all) (cx_x C) (cx_c C) (cx_w C) hi (cx_o C) (cx_K C) hP o he hc f hn (cx_w C _ hw) (fun z h9 => by rw [hT] at h9; exact h9) (fd_get hf) d (k H locs ls hP hS hl)
theorem gw_putI {o K N x index : Nat} {R ref : String} {T : u_T} {v : Int32} {σ' : Mm} {ty : FieldType} (ty0 : Nat → FieldType) (C : Cx E L A cc nL own ret rm) (f : Nat) (d : decode cc pc = .ok (.putfield index, 3)) (hk : ly_k L o = K) (hK : K < 20) (hi : ∀ w ∈ u_ws R T N, w ∈ tb_G) (hc : cl_all[K]? = some (R, T, N)) (hf : (fd_T.getD K [])[f]? = some (1, x)) (hn : f < N) (hw : (Cond.fieldLink own index ref (T f).2.1 (T f).2.2.1) ∈ tb_G) (hr : R = ref) (hT : (T f).1 = ref) (ht0 : ∀ k, k < N → parseFieldDescriptor (T k).2.2.1 = some (ty0 k)) (hnm : ∀ a, a < N → ∀ b, b < N → a ≠ b → (T a).2.1 ≠ (T b).2.1) (hfin : (T f).2.2.2 = false) (hd : parseFieldDescriptor (T f).2.2.1 = some ty) (hnv : narrow ty (.int v) = .int v) (hfv : fits ty (.int v) = true) (hs : σ' = kI σ o f v) (k : GW E L A nL cs sl Q σ' (pc + 3) lv (st)) : GW E L A nL cs sl Q σ (pc) lv (.int v :: .ref (ly_a L o) :: st) := by
  intro H locs ls hP hS hl
  subst hr
  have hl9 : o < ly_n L := gd_lt (cx_g C) hk (by omega)
  have he := wl_at L σ hl9
  rw [hk, cl_obj hK] at he
  have hlen : f < (fd_row (ly_a L) (fd_T.getD K []) o (σ.1 o) (σ.2 o)).length := by rw [fd_len]; exact (List.getElem?_eq_some_iff.mp hf).1
  have e9 : (wl L σ).set o (ly_a L o, .inr (K, (fd_row (ly_a L) (fd_T.getD K []) o (σ.1 o) (σ.2 o)).set f (.int v))) = wl L σ' := by
    subst hs
    exact wl_set (σ := σ) (σ' := kI σ o f v) (o := o) (fun q h => kI_o σ o f v h) (fun q h => rfl) (by rw [hk, cl_obj hK, fd_setI hf, kI_s]; rfl)
  exact va_put (D := L.1) (cl := cl_all) (cx_x C) (cx_c C) (cx_w C) hi ty0 ht0 hnm (cx_o C) (cx_K C) hP (cx_D C σ) hS o he hc f hn (cx_w C _ hw) (fun z h9 => by rw [hT] at h9; exact h9) hfin hd hnv hfv hlen d (fun H1 l1 h1 _ h3 => k H1 l1 ls (by rw [e9] at h1; exact h1) h3 hl)
theorem gw_putL {o K N x index : Nat} {R ref : String} {T : u_T} {v : Int64} {σ' : Mm} {ty : FieldType} (ty0 : Nat → FieldType) (C : Cx E L A cc nL own ret rm) (f : Nat) (d : decode cc pc = .ok (.putfield index, 3)) (hk : ly_k L o = K) (hK : K < 20) (hi : ∀ w ∈ u_ws R T N, w ∈ tb_G) (hc : cl_all[K]? = some (R, T, N)) (hf : (fd_T.getD K [])[f]? = some (2, x)) (hn : f < N) (hw : (Cond.fieldLink own index ref (T f).2.1 (T f).2.2.1) ∈ tb_G) (hr : R = ref) (hT : (T f).1 = ref) (ht0 : ∀ k, k < N → parseFieldDescriptor (T k).2.2.1 = some (ty0 k)) (hnm : ∀ a, a < N → ∀ b, b < N → a ≠ b → (T a).2.1 ≠ (T b).2.1) (hfin : (T f).2.2.2 = false) (hd : parseFieldDescriptor (T f).2.2.1 = some ty) (hnv : narrow ty (.long v) = .long v) (hfv : fits ty (.long v) = true) (hs : σ' = kL σ o f v) (k : GW E L A nL cs sl Q σ' (pc + 3) lv (st)) : GW E L A nL cs sl Q σ (pc) lv (.long v :: .ref (ly_a L o) :: st) := by
  intro H locs ls hP hS hl
  subst hr
  have hl9 : o < ly_n L := gd_lt (cx_g C) hk (by omega)
  have he := wl_at L σ hl9
  rw [hk, cl_obj hK] at he
  have hlen : f < (fd_row (ly_a L) (fd_T.getD K []) o (σ.1 o) (σ.2 o)).length := by rw [fd_len]; exact (List.getElem?_eq_some_iff.mp hf).1
  have e9 : (wl L σ).set o (ly_a L o, .inr (K, (fd_row (ly_a L) (fd_T.getD K []) o (σ.1 o) (σ.2 o)).set f (.long v))) = wl L σ' := by
    subst hs
    exact wl_set (σ := σ) (σ' := kL σ o f v) (o := o) (fun q h => rfl) (fun q h => kL_o σ o f v h) (by rw [hk, cl_obj hK, fd_setL hf, kL_s]; rfl)
  exact va_put (D := L.1) (cl := cl_all) (cx_x C) (cx_c C) (cx_w C) hi ty0 ht0 hnm (cx_o C) (cx_K C) hP (cx_D C σ) hS o he hc f hn (cx_w C _ hw) (fun z h9 => by rw [hT] at h9; exact h9) hfin hd hnv hfv hlen d (fun H1 l1 h1 _ h3 => k H1 l1 ls (by rw [e9] at h1; exact h1) h3 hl)
theorem gw_getAN {o K N x index : Nat} {R ref host : String} {T : u_T} (C : Cx E L A cc nL own ret rm) (f : Nat) (d : decode cc pc = .ok (.getfield index, 3)) (hk : ly_k L o = K) (hK : K < 20) (hi : ∀ w ∈ u_ws R T N, w ∈ tb_G) (hc : cl_all[K]? = some (R, T, N)) (hf : (fd_T.getD K [])[f]? = some (0, x)) (hn : f < N) (hw : (Cond.fieldLinkNest own index ref (T f).2.1 (T f).2.2.1 host) ∈ tb_N) (hr : R = ref) (hT : (T f).1 = ref) (o9 : Nat) (ho9 : o + x = o9) (k : GW E L A nL cs sl Q σ (pc + 3) lv (.ref (ly_a L o9) :: st)) : GW E L A nL cs sl Q σ (pc) lv (.ref (ly_a L o) :: st) := by
  intro H locs ls hP hS hl
  subst hr
  subst ho9
  have hl9 : o < ly_n L := gd_lt (cx_g C) hk (by omega)
  have he := wl_at L σ hl9
  rw [hk, cl_obj hK] at he
  exact va_getN (D := L.1) (cl := cl_all) (cx_x C) (cx_c C) (cx_w C) hi (cx_o C) (cx_K C) hP o he hc f hn (va_Nw.use rfl (cx_N C _ hw)) (fun z h9 => by rw [hT] at h9; exact h9) (fd_get hf) d (k H locs ls hP hS hl)
theorem gw_getIN {o K N x index : Nat} {R ref host : String} {T : u_T} (C : Cx E L A cc nL own ret rm) (f : Nat) (d : decode cc pc = .ok (.getfield index, 3)) (hk : ly_k L o = K) (hK : K < 20) (hi : ∀ w ∈ u_ws R T N, w ∈ tb_G) (hc : cl_all[K]? = some (R, T, N)) (hf : (fd_T.getD K [])[f]? = some (1, x)) (hn : f < N) (hw : (Cond.fieldLinkNest own index ref (T f).2.1 (T f).2.2.1 host) ∈ tb_N) (hr : R = ref) (hT : (T f).1 = ref)  (k : GW E L A nL cs sl Q σ (pc + 3) lv (.int (σ.1 o f) :: st)) : GW E L A nL cs sl Q σ (pc) lv (.ref (ly_a L o) :: st) := by
  intro H locs ls hP hS hl
  subst hr
  have hl9 : o < ly_n L := gd_lt (cx_g C) hk (by omega)
  have he := wl_at L σ hl9
  rw [hk, cl_obj hK] at he
  exact va_getN (D := L.1) (cl := cl_all) (cx_x C) (cx_c C) (cx_w C) hi (cx_o C) (cx_K C) hP o he hc f hn (va_Nw.use rfl (cx_N C _ hw)) (fun z h9 => by rw [hT] at h9; exact h9) (fd_get hf) d (k H locs ls hP hS hl)
theorem gw_getLN {o K N x index : Nat} {R ref host : String} {T : u_T} (C : Cx E L A cc nL own ret rm) (f : Nat) (d : decode cc pc = .ok (.getfield index, 3)) (hk : ly_k L o = K) (hK : K < 20) (hi : ∀ w ∈ u_ws R T N, w ∈ tb_G) (hc : cl_all[K]? = some (R, T, N)) (hf : (fd_T.getD K [])[f]? = some (2, x)) (hn : f < N) (hw : (Cond.fieldLinkNest own index ref (T f).2.1 (T f).2.2.1 host) ∈ tb_N) (hr : R = ref) (hT : (T f).1 = ref)  (k : GW E L A nL cs sl Q σ (pc + 3) lv (.long (σ.2 o f) :: st)) : GW E L A nL cs sl Q σ (pc) lv (.ref (ly_a L o) :: st) := by
  intro H locs ls hP hS hl
  subst hr
  have hl9 : o < ly_n L := gd_lt (cx_g C) hk (by omega)
  have he := wl_at L σ hl9
  rw [hk, cl_obj hK] at he
  exact va_getN (D := L.1) (cl := cl_all) (cx_x C) (cx_c C) (cx_w C) hi (cx_o C) (cx_K C) hP o he hc f hn (va_Nw.use rfl (cx_N C _ hw)) (fun z h9 => by rw [hT] at h9; exact h9) (fd_get hf) d (k H locs ls hP hS hl)
theorem gw_putIN {o K N x index : Nat} {R ref host : String} {T : u_T} {v : Int32} {σ' : Mm} {ty : FieldType} (ty0 : Nat → FieldType) (C : Cx E L A cc nL own ret rm) (f : Nat) (d : decode cc pc = .ok (.putfield index, 3)) (hk : ly_k L o = K) (hK : K < 20) (hi : ∀ w ∈ u_ws R T N, w ∈ tb_G) (hc : cl_all[K]? = some (R, T, N)) (hf : (fd_T.getD K [])[f]? = some (1, x)) (hn : f < N) (hw : (Cond.fieldLinkNest own index ref (T f).2.1 (T f).2.2.1 host) ∈ tb_N) (hr : R = ref) (hT : (T f).1 = ref) (ht0 : ∀ k, k < N → parseFieldDescriptor (T k).2.2.1 = some (ty0 k)) (hnm : ∀ a, a < N → ∀ b, b < N → a ≠ b → (T a).2.1 ≠ (T b).2.1) (hfin : (T f).2.2.2 = false) (hd : parseFieldDescriptor (T f).2.2.1 = some ty) (hnv : narrow ty (.int v) = .int v) (hfv : fits ty (.int v) = true) (hs : σ' = kI σ o f v) (k : GW E L A nL cs sl Q σ' (pc + 3) lv (st)) : GW E L A nL cs sl Q σ (pc) lv (.int v :: .ref (ly_a L o) :: st) := by
  intro H locs ls hP hS hl
  subst hr
  have hl9 : o < ly_n L := gd_lt (cx_g C) hk (by omega)
  have he := wl_at L σ hl9
  rw [hk, cl_obj hK] at he
  have hlen : f < (fd_row (ly_a L) (fd_T.getD K []) o (σ.1 o) (σ.2 o)).length := by rw [fd_len]; exact (List.getElem?_eq_some_iff.mp hf).1
  have e9 : (wl L σ).set o (ly_a L o, .inr (K, (fd_row (ly_a L) (fd_T.getD K []) o (σ.1 o) (σ.2 o)).set f (.int v))) = wl L σ' := by
    subst hs
    exact wl_set (σ := σ) (σ' := kI σ o f v) (o := o) (fun q h => kI_o σ o f v h) (fun q h => rfl) (by rw [hk, cl_obj hK, fd_setI hf, kI_s]; rfl)
  exact va_putN (D := L.1) (cl := cl_all) (cx_x C) (cx_c C) (cx_w C) hi ty0 ht0 hnm (cx_o C) (cx_K C) hP (cx_D C σ) hS o he hc f hn (va_Nw.use rfl (cx_N C _ hw)) (fun z h9 => by rw [hT] at h9; exact h9) hfin hd hnv hfv hlen d (fun H1 l1 h1 _ h3 => k H1 l1 ls (by rw [e9] at h1; exact h1) h3 hl)
theorem gw_putLN {o K N x index : Nat} {R ref host : String} {T : u_T} {v : Int64} {σ' : Mm} {ty : FieldType} (ty0 : Nat → FieldType) (C : Cx E L A cc nL own ret rm) (f : Nat) (d : decode cc pc = .ok (.putfield index, 3)) (hk : ly_k L o = K) (hK : K < 20) (hi : ∀ w ∈ u_ws R T N, w ∈ tb_G) (hc : cl_all[K]? = some (R, T, N)) (hf : (fd_T.getD K [])[f]? = some (2, x)) (hn : f < N) (hw : (Cond.fieldLinkNest own index ref (T f).2.1 (T f).2.2.1 host) ∈ tb_N) (hr : R = ref) (hT : (T f).1 = ref) (ht0 : ∀ k, k < N → parseFieldDescriptor (T k).2.2.1 = some (ty0 k)) (hnm : ∀ a, a < N → ∀ b, b < N → a ≠ b → (T a).2.1 ≠ (T b).2.1) (hfin : (T f).2.2.2 = false) (hd : parseFieldDescriptor (T f).2.2.1 = some ty) (hnv : narrow ty (.long v) = .long v) (hfv : fits ty (.long v) = true) (hs : σ' = kL σ o f v) (k : GW E L A nL cs sl Q σ' (pc + 3) lv (st)) : GW E L A nL cs sl Q σ (pc) lv (.long v :: .ref (ly_a L o) :: st) := by
  intro H locs ls hP hS hl
  subst hr
  have hl9 : o < ly_n L := gd_lt (cx_g C) hk (by omega)
  have he := wl_at L σ hl9
  rw [hk, cl_obj hK] at he
  have hlen : f < (fd_row (ly_a L) (fd_T.getD K []) o (σ.1 o) (σ.2 o)).length := by rw [fd_len]; exact (List.getElem?_eq_some_iff.mp hf).1
  have e9 : (wl L σ).set o (ly_a L o, .inr (K, (fd_row (ly_a L) (fd_T.getD K []) o (σ.1 o) (σ.2 o)).set f (.long v))) = wl L σ' := by
    subst hs
    exact wl_set (σ := σ) (σ' := kL σ o f v) (o := o) (fun q h => rfl) (fun q h => kL_o σ o f v h) (by rw [hk, cl_obj hK, fd_setL hf, kL_s]; rfl)
  exact va_putN (D := L.1) (cl := cl_all) (cx_x C) (cx_c C) (cx_w C) hi ty0 ht0 hnm (cx_o C) (cx_K C) hP (cx_D C σ) hS o he hc f hn (va_Nw.use rfl (cx_N C _ hw)) (fun z h9 => by rw [hT] at h9; exact h9) hfin hd hnv hfv hlen d (fun H1 l1 h1 _ h3 => k H1 l1 ls (by rw [e9] at h1; exact h1) h3 hl)
theorem gw_iald {o : Nat} {i : Int32} {x : Int32} (C : Cx E L A cc nL own ret rm) (d : decode cc pc = .ok (.iaload, 1)) (hk : ly_k L o = 20) (hin : vp_in i (ly_z L o)) (hx : x = σ.1 o i.toNatClampNeg) (k : GW E L A nL cs sl Q σ (pc + 1) lv (.int x :: st)) : GW E L A nL cs sl Q σ (pc) lv (.int i :: .ref (ly_a L o) :: st) := by
  intro H locs ls hP hS hl
  subst hx
  have he := wl_at L σ (gd_lt (cx_g C) hk (by omega))
  rw [hk] at he
  exact va_iald (D := L.1) (cl := cl_all) (cx_x C) (cx_c C) (cx_K C) hP o 0 he rfl hin d (k H locs ls hP hS hl)
theorem gw_bald {o : Nat} {i : Int32} {x : Int32} (C : Cx E L A cc nL own ret rm) (d : decode cc pc = .ok (.baload, 1)) (hk : ly_k L o = 22) (hin : vp_in i (ly_z L o)) (hx : x = σ.1 o i.toNatClampNeg) (k : GW E L A nL cs sl Q σ (pc + 1) lv (.int x :: st)) : GW E L A nL cs sl Q σ (pc) lv (.int i :: .ref (ly_a L o) :: st) := by
  intro H locs ls hP hS hl
  subst hx
  have he := wl_at L σ (gd_lt (cx_g C) hk (by omega))
  rw [hk] at he
  exact va_bald (D := L.1) (cl := cl_all) (cx_x C) (cx_c C) (cx_K C) hP o 2 he rfl hin d (k H locs ls hP hS hl)
theorem gw_zald {o : Nat} {i : Int32} {x : Int32} (C : Cx E L A cc nL own ret rm) (d : decode cc pc = .ok (.baload, 1)) (hk : ly_k L o = 23) (hin : vp_in i (ly_z L o)) (hx : x = σ.1 o i.toNatClampNeg) (k : GW E L A nL cs sl Q σ (pc + 1) lv (.int x :: st)) : GW E L A nL cs sl Q σ (pc) lv (.int i :: .ref (ly_a L o) :: st) := by
  intro H locs ls hP hS hl
  subst hx
  have he := wl_at L σ (gd_lt (cx_g C) hk (by omega))
  rw [hk] at he
  exact va_zald (D := L.1) (cl := cl_all) (cx_x C) (cx_c C) (cx_K C) hP o 3 he rfl hin d (k H locs ls hP hS hl)
theorem gw_lald {o : Nat} {i : Int32} {x : Int64} (C : Cx E L A cc nL own ret rm) (d : decode cc pc = .ok (.laload, 1)) (hk : ly_k L o = 21) (hin : vp_in i (ly_z L o)) (hx : x = σ.2 o i.toNatClampNeg) (k : GW E L A nL cs sl Q σ (pc + 1) lv (.long x :: st)) : GW E L A nL cs sl Q σ (pc) lv (.int i :: .ref (ly_a L o) :: st) := by
  intro H locs ls hP hS hl
  subst hx
  have he := wl_at L σ (gd_lt (cx_g C) hk (by omega))
  rw [hk] at he
  exact va_lald (D := L.1) (cl := cl_all) (cx_x C) (cx_c C) (cx_K C) hP o 1 he rfl hin d (k H locs ls hP hS hl)
theorem gw_iast {o : Nat} {i : Int32} {v : Int32} {σ' : Mm} (C : Cx E L A cc nL own ret rm) (d : decode cc pc = .ok (.iastore, 1)) (hk : ly_k L o = 20) (hin : vp_in i (ly_z L o)) (hs : σ' = kI σ o i.toNatClampNeg v) (k : GW E L A nL cs sl Q σ' (pc + 1) lv (st)) : GW E L A nL cs sl Q σ (pc) lv (.int v :: .int i :: .ref (ly_a L o) :: st) := by
  intro H locs ls hP hS hl
  have he := wl_at L σ (gd_lt (cx_g C) hk (by omega))
  rw [hk] at he
  have e9 : (wl L σ).set o (ly_a L o, .inl (ly_c L 0, ly_z L o, .inl (upd (σ.1 o) i.toNatClampNeg v))) = wl L σ' := by
    subst hs
    exact wl_set (σ := σ) (σ' := kI σ o i.toNatClampNeg v) (o := o) (fun q h => kI_o σ o _ _ h) (fun q h => rfl) (by rw [hk, kI_s]; rfl)
  exact va_iast (D := L.1) (cl := cl_all) (cx_x C) (cx_c C) (cx_K C) hP (cx_D C σ) hS o 0 he rfl hin d (fun H1 l1 h1 _ h3 => k H1 l1 ls (by rw [e9] at h1; exact h1) h3 hl)
theorem gw_bast {o : Nat} {i : Int32} {v : Int32} {σ' : Mm} (C : Cx E L A cc nL own ret rm) (d : decode cc pc = .ok (.bastore, 1)) (hk : ly_k L o = 22) (hin : vp_in i (ly_z L o)) (hs : σ' = kI σ o i.toNatClampNeg (vp_nar .byte v)) (k : GW E L A nL cs sl Q σ' (pc + 1) lv (st)) : GW E L A nL cs sl Q σ (pc) lv (.int v :: .int i :: .ref (ly_a L o) :: st) := by
  intro H locs ls hP hS hl
  have he := wl_at L σ (gd_lt (cx_g C) hk (by omega))
  rw [hk] at he
  have e9 : (wl L σ).set o (ly_a L o, .inl (ly_c L 2, ly_z L o, .inl (upd (σ.1 o) i.toNatClampNeg (vp_nar .byte v)))) = wl L σ' := by
    subst hs
    exact wl_set (σ := σ) (σ' := kI σ o i.toNatClampNeg (vp_nar .byte v)) (o := o) (fun q h => kI_o σ o _ _ h) (fun q h => rfl) (by rw [hk, kI_s]; rfl)
  exact va_bast (D := L.1) (cl := cl_all) (cx_x C) (cx_c C) (cx_K C) hP (cx_D C σ) hS o 2 he rfl hin d (fun H1 l1 h1 _ h3 => k H1 l1 ls (by rw [e9] at h1; exact h1) h3 hl)
theorem gw_zast {o : Nat} {i : Int32} {v : Int32} {σ' : Mm} (C : Cx E L A cc nL own ret rm) (d : decode cc pc = .ok (.bastore, 1)) (hk : ly_k L o = 23) (hin : vp_in i (ly_z L o)) (hs : σ' = kI σ o i.toNatClampNeg (vp_nar .boolean v)) (k : GW E L A nL cs sl Q σ' (pc + 1) lv (st)) : GW E L A nL cs sl Q σ (pc) lv (.int v :: .int i :: .ref (ly_a L o) :: st) := by
  intro H locs ls hP hS hl
  have he := wl_at L σ (gd_lt (cx_g C) hk (by omega))
  rw [hk] at he
  have e9 : (wl L σ).set o (ly_a L o, .inl (ly_c L 3, ly_z L o, .inl (upd (σ.1 o) i.toNatClampNeg (vp_nar .boolean v)))) = wl L σ' := by
    subst hs
    exact wl_set (σ := σ) (σ' := kI σ o i.toNatClampNeg (vp_nar .boolean v)) (o := o) (fun q h => kI_o σ o _ _ h) (fun q h => rfl) (by rw [hk, kI_s]; rfl)
  exact va_zast (D := L.1) (cl := cl_all) (cx_x C) (cx_c C) (cx_K C) hP (cx_D C σ) hS o 3 he rfl hin d (fun H1 l1 h1 _ h3 => k H1 l1 ls (by rw [e9] at h1; exact h1) h3 hl)
theorem gw_last {o : Nat} {i : Int32} {v : Int64} {σ' : Mm} (C : Cx E L A cc nL own ret rm) (d : decode cc pc = .ok (.lastore, 1)) (hk : ly_k L o = 21) (hin : vp_in i (ly_z L o)) (hs : σ' = kL σ o i.toNatClampNeg v) (k : GW E L A nL cs sl Q σ' (pc + 1) lv (st)) : GW E L A nL cs sl Q σ (pc) lv (.long v :: .int i :: .ref (ly_a L o) :: st) := by
  intro H locs ls hP hS hl
  have he := wl_at L σ (gd_lt (cx_g C) hk (by omega))
  rw [hk] at he
  have e9 : (wl L σ).set o (ly_a L o, .inl (ly_c L 1, ly_z L o, .inr (.inl (vp_updL (σ.2 o) i.toNatClampNeg v)))) = wl L σ' := by
    subst hs
    exact wl_set (σ := σ) (σ' := kL σ o i.toNatClampNeg v) (o := o) (fun q h => rfl) (fun q h => kL_o σ o _ _ h) (by rw [hk, kL_s]; rfl)
  exact va_last (D := L.1) (cl := cl_all) (cx_x C) (cx_c C) (cx_K C) hP (cx_D C σ) hS o 1 he rfl hin d (fun H1 l1 h1 _ h3 => k H1 l1 ls (by rw [e9] at h1; exact h1) h3 hl)
theorem gw_alen20 {o : Nat} (C : Cx E L A cc nL own ret rm) (d : decode cc pc = .ok (.arraylength, 1)) (hk : ly_k L o = 20) (k : GW E L A nL cs sl Q σ (pc + 1) lv (.int (nI (ly_z L o)) :: st)) : GW E L A nL cs sl Q σ (pc) lv (.ref (ly_a L o) :: st) := by
  intro H locs ls hP hS hl
  have he := wl_at L σ (gd_lt (cx_g C) hk (by omega))
  rw [hk] at he
  exact va_alen (D := L.1) (cl := cl_all) (cx_x C) (cx_c C) (cx_K C) hP o 0 he (ty := .int) rfl rfl d (k H locs ls hP hS hl)
theorem gw_alen21 {o : Nat} (C : Cx E L A cc nL own ret rm) (d : decode cc pc = .ok (.arraylength, 1)) (hk : ly_k L o = 21) (k : GW E L A nL cs sl Q σ (pc + 1) lv (.int (nI (ly_z L o)) :: st)) : GW E L A nL cs sl Q σ (pc) lv (.ref (ly_a L o) :: st) := by
  intro H locs ls hP hS hl
  have he := wl_at L σ (gd_lt (cx_g C) hk (by omega))
  rw [hk] at he
  exact va_alen (D := L.1) (cl := cl_all) (cx_x C) (cx_c C) (cx_K C) hP o 1 he (ty := .long) rfl rfl d (k H locs ls hP hS hl)
theorem gw_alen22 {o : Nat} (C : Cx E L A cc nL own ret rm) (d : decode cc pc = .ok (.arraylength, 1)) (hk : ly_k L o = 22) (k : GW E L A nL cs sl Q σ (pc + 1) lv (.int (nI (ly_z L o)) :: st)) : GW E L A nL cs sl Q σ (pc) lv (.ref (ly_a L o) :: st) := by
  intro H locs ls hP hS hl
  have he := wl_at L σ (gd_lt (cx_g C) hk (by omega))
  rw [hk] at he
  exact va_alen (D := L.1) (cl := cl_all) (cx_x C) (cx_c C) (cx_K C) hP o 2 he (ty := .byte) rfl rfl d (k H locs ls hP hS hl)
theorem gw_alen23 {o : Nat} (C : Cx E L A cc nL own ret rm) (d : decode cc pc = .ok (.arraylength, 1)) (hk : ly_k L o = 23) (k : GW E L A nL cs sl Q σ (pc + 1) lv (.int (nI (ly_z L o)) :: st)) : GW E L A nL cs sl Q σ (pc) lv (.ref (ly_a L o) :: st) := by
  intro H locs ls hP hS hl
  have he := wl_at L σ (gd_lt (cx_g C) hk (by omega))
  rw [hk] at he
  exact va_alen (D := L.1) (cl := cl_all) (cx_x C) (cx_c C) (cx_K C) hP o 3 he (ty := .boolean) rfl rfl d (k H locs ls hP hS hl)
theorem gw_mmax {x y : Int32} {i : Nat} (C : Cx E L A cc nL own ret rm) (d : decode cc pc = .ok (.invokestatic i, 3)) (hw1 : Cond.methodLink own i Lib.Math.max.name ∈ tb_G) (hw2 : Cond.static Lib.Math.max.name ∈ tb_G) (hw4 : Cond.initialized "java/lang/Math" ∈ tb_G) (hw5 : Cond.code Lib.Math.max.name Lib.Math.max.code 2 (some .int) ∈ tb_G) (hsm : (st.map fun v => v.category).sum ≤ 8) (hrm : 1 ≤ rm.frames ∧ 21 ≤ rm.locals) (hcs : cs ≤ rm.cells ∧ sl ≤ rm.slots) (k : GW E L A nL cs sl Q σ (pc + 3) lv (.int (if x < y then y else x) :: st)) : GW E L A nL cs sl Q σ (pc) lv (.int y :: .int x :: st) := fun H locs ls hP hS hl => va_mmax (cx_x C) (cx_c C) ((cx_n C).trans hl.1.symm) (cx_o C) (cx_w C _ hw1) (cx_w C _ hw2) (cx_w C _ hw4) (cx_w C _ hw5) (by rw [cx_R C]; exact hrm.1) (by rw [cx_R C]; omega) (by rw [cx_R C]; exact hcs.1) (by rw [cx_R C]; exact hcs.2) d (k H locs ls hP hS hl)
theorem gw_mmin {x y : Int32} {i : Nat} (C : Cx E L A cc nL own ret rm) (d : decode cc pc = .ok (.invokestatic i, 3)) (hw1 : Cond.methodLink own i Lib.Math.min.name ∈ tb_G) (hw2 : Cond.static Lib.Math.min.name ∈ tb_G) (hw4 : Cond.initialized "java/lang/Math" ∈ tb_G) (hw5 : Cond.code Lib.Math.min.name Lib.Math.min.code 2 (some .int) ∈ tb_G) (hsm : (st.map fun v => v.category).sum ≤ 8) (hrm : 1 ≤ rm.frames ∧ 21 ≤ rm.locals) (hcs : cs ≤ rm.cells ∧ sl ≤ rm.slots) (k : GW E L A nL cs sl Q σ (pc + 3) lv (.int (if y < x then y else x) :: st)) : GW E L A nL cs sl Q σ (pc) lv (.int y :: .int x :: st) := fun H locs ls hP hS hl => va_mmin (cx_x C) (cx_c C) ((cx_n C).trans hl.1.symm) (cx_o C) (cx_w C _ hw1) (cx_w C _ hw2) (cx_w C _ hw4) (cx_w C _ hw5) (by rw [cx_R C]; exact hrm.1) (by rw [cx_R C]; omega) (by rw [cx_R C]; exact hcs.1) (by rw [cx_R C]; exact hcs.2) d (k H locs ls hP hS hl)
theorem gw_tabEq {dflt lo hi : Int} {offs : Array Int} {len : Nat} {x v : Int32} {off : Int} (C : Cx E L A cc nL own ret rm) (tgt : Nat) (hx : x = v) (d : decode cc pc = .ok (.tableswitch dflt lo hi offs, len)) (h1 : ¬ v.toInt < lo) (h2 : ¬ hi < v.toInt) (ho : offs[(v.toInt - lo).toNat]? = some off) (ht : (pc : Int) + off = (tgt : Int)) (k : GW E L A nL cs sl Q σ tgt lv st) : GW E L A nL cs sl Q σ pc lv (.int x :: st) := by subst hx; exact gw_tabIn C tgt d h1 h2 ho ht k
theorem gw_go {lv' : List (Nat × Value)} (ks : List Nat) (k : GW E L A nL cs sl Q σ pc lv' st) (h : lv_pick lv ks = lv') : GW E L A nL cs sl Q σ pc lv st := gw_sub ks h k
end GR
