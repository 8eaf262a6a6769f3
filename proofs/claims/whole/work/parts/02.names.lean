/-! NAMES of the program, printed by wip/whole/gen/names.py: classes by number, their fields by slot, where each word stands in the table -/
def Rn : Nat → String := fun k => match k with
  | 0 => "EveningCloak"
  | 1 => "EveningCloak$Reader"
  | 2 => "EveningCloak$Room"
  | 3 => "EveningCloak$Sheet"
  | 4 => "EveningCloakModel"
  | 5 => "java/lang/Integer"
  | 6 => "java/util/Arrays"
  | 7 => "java/lang/String"
  | 8 => "java/lang/StringLatin1"
  | 9 => "java/lang/Math"
  | 10 => "java/lang/System"
  | 11 => "jdk/internal/util/Preconditions"
  | _ => "EveningCloakLaw"
def T0 : u_T := fun k => match k with
  | 0 => ("EveningCloak", "room", "LEveningCloak$Room;", true)
  | 1 => ("EveningCloak", "trial", "LEveningCloak$Room;", true)
  | 2 => ("EveningCloak", "latest", "LEveningCloak$Room;", true)
  | 3 => ("EveningCloak", "latestKept", "Z", false)
  | 4 => ("EveningCloak", "reader", "LEveningCloak$Reader;", true)
  | 5 => ("EveningCloak", "sheets", "[LEveningCloak$Sheet;", true)
  | _ => ("EveningCloak", "found", "[I", true)
def ty0 : Nat → FieldType := fun k => match k with
  | 0 => .object "EveningCloak$Room"
  | 1 => .object "EveningCloak$Room"
  | 2 => .object "EveningCloak$Room"
  | 3 => .boolean
  | 4 => .object "EveningCloak$Reader"
  | 5 => .array (.object "EveningCloak$Sheet")
  | _ => .array .int
def T1 : u_T := fun k => match k with
  | 0 => ("EveningCloak$Reader", "bytes", "[I", true)
  | 1 => ("EveningCloak$Reader", "count", "I", false)
  | 2 => ("EveningCloak$Reader", "token", "I", false)
  | 3 => ("EveningCloak$Reader", "start", "I", false)
  | 4 => ("EveningCloak$Reader", "behind", "I", false)
  | _ => ("EveningCloak$Reader", "number", "I", false)
def ty1 : Nat → FieldType := fun k => match k with
  | 0 => .array .int
  | 1 => .int
  | 2 => .int
  | 3 => .int
  | 4 => .int
  | _ => .int
def T2 : u_T := fun k => match k with
  | 0 => ("EveningCloak$Room", "day", "I", false)
  | 1 => ("EveningCloak$Room", "fees", "I", false)
  | 2 => ("EveningCloak$Room", "z", "I", false)
  | 3 => ("EveningCloak$Room", "deposits", "I", false)
  | 4 => ("EveningCloak$Room", "girls", "I", false)
  | 5 => ("EveningCloak$Room", "list", "[I", true)
  | 6 => ("EveningCloak$Room", "kind", "[I", true)
  | 7 => ("EveningCloak$Room", "hanger", "[I", true)
  | 8 => ("EveningCloak$Room", "stub", "[I", true)
  | 9 => ("EveningCloak$Room", "kept", "[I", true)
  | 10 => ("EveningCloak$Room", "worn", "[I", true)
  | 11 => ("EveningCloak$Room", "out", "[I", true)
  | 12 => ("EveningCloak$Room", "dream", "[I", true)
  | 13 => ("EveningCloak$Room", "hope", "[I", true)
  | 14 => ("EveningCloak$Room", "met", "[I", true)
  | _ => ("EveningCloak$Room", "spots", "[I", true)
def ty2 : Nat → FieldType := fun k => match k with
  | 0 => .int
  | 1 => .int
  | 2 => .int
  | 3 => .int
  | 4 => .int
  | 5 => .array .int
  | 6 => .array .int
  | 7 => .array .int
  | 8 => .array .int
  | 9 => .array .int
  | 10 => .array .int
  | 11 => .array .int
  | 12 => .array .int
  | 13 => .array .int
  | 14 => .array .int
  | _ => .array .int
def T3 : u_T := fun k => match k with
  | 0 => ("EveningCloak$Sheet", "bits", "I", false)
  | 1 => ("EveningCloak$Sheet", "size", "I", false)
  | _ => ("EveningCloak$Sheet", "numbers", "[I", true)
def ty3 : Nat → FieldType := fun k => match k with
  | 0 => .int
  | 1 => .int
  | _ => .array .int
def T4 : u_T := fun k => match k with
  | 0 => ("EveningCloakModel", "m", "[I", true)
  | 1 => ("EveningCloakModel", "kept", "[I", true)
  | 2 => ("EveningCloakModel", "was", "[I", true)
  | 3 => ("EveningCloakModel", "isKept", "Z", false)
  | 4 => ("EveningCloakModel", "found", "[I", true)
  | 5 => ("EveningCloakModel", "bitsOf", "[I", true)
  | 6 => ("EveningCloakModel", "sizeOf", "[I", true)
  | 7 => ("EveningCloakModel", "cells", "[I", true)
  | 8 => ("EveningCloakModel", "tape", "[I", true)
  | 9 => ("EveningCloakModel", "taped", "I", false)
  | 10 => ("EveningCloakModel", "token", "I", false)
  | 11 => ("EveningCloakModel", "begin", "I", false)
  | 12 => ("EveningCloakModel", "at", "I", false)
  | 13 => ("EveningCloakModel", "value", "I", false)
  | _ => ("EveningCloakModel", "bad", "Z", false)
def ty4 : Nat → FieldType := fun k => match k with
  | 0 => .array .int
  | 1 => .array .int
  | 2 => .array .int
  | 3 => .boolean
  | 4 => .array .int
  | 5 => .array .int
  | 6 => .array .int
  | 7 => .array .int
  | 8 => .array .int
  | 9 => .int
  | 10 => .int
  | 11 => .int
  | 12 => .int
  | 13 => .int
  | _ => .boolean
def Tn : Nat → u_T := fun k => match k with
  | 0 => T0
  | 1 => T1
  | 2 => T2
  | 3 => T3
  | _ => T4
def tyn : Nat → Nat → FieldType := fun k => match k with
  | 0 => ty0
  | 1 => ty1
  | 2 => ty2
  | 3 => ty3
  | _ => ty4
def Nn : Nat → Nat := fun k => match k with
  | 0 => 7
  | 1 => 6
  | 2 => 16
  | 3 => 3
  | _ => 15
def lg : List Cond := lw_tbl.filter goodWord
theorem lg_all : lg.all goodWord = true := List.all_eq_true.mpr fun w h => (List.mem_filter.mp h).2
theorem lgm {w : Cond} (i : Nat) (h : lw_tbl[i]? = some w) (hg : goodWord w = true) : w ∈ lg := List.mem_filter.mpr ⟨List.mem_of_getElem? h, hg⟩
abbrev cls : List vw_C := [(Rn 0, Tn 0, Nn 0), (Rn 1, Tn 1, Nn 1), (Rn 2, Tn 2, Nn 2), (Rn 3, Tn 3, Nn 3), (Rn 4, Tn 4, Nn 4)]
theorem cls_at {ci : Nat} (h : ci < 5) : cls[ci]? = some (Rn ci, Tn ci, Nn ci) := by
  rcases (show ci = 0 ∨ ci = 1 ∨ ci = 2 ∨ ci = 3 ∨ ci = 4 by omega) with rfl | rfl | rfl | rfl | rfl <;> rfl
theorem nm0 : ∀ a, a < Nn 0 → ∀ b, b < Nn 0 → a ≠ b → (Tn 0 a).2.1 ≠ (Tn 0 b).2.1 := by decide +kernel
theorem tok0 : ∀ k, k < Nn 0 → parseFieldDescriptor (Tn 0 k).2.2.1 = some (tyn 0 k) := by decide +kernel
theorem inA0 : ∀ k, k < Nn 0 → lw_tbl[(([224, 226, 228, 230, 232, 234, 236] : List Nat).getD k 0)]? = some (u_lay (Rn 0) (Tn 0) k) ∧ goodWord (u_lay (Rn 0) (Tn 0) k) = true := by decide +kernel
theorem nm1 : ∀ a, a < Nn 1 → ∀ b, b < Nn 1 → a ≠ b → (Tn 1 a).2.1 ≠ (Tn 1 b).2.1 := by decide +kernel
theorem tok1 : ∀ k, k < Nn 1 → parseFieldDescriptor (Tn 1 k).2.2.1 = some (tyn 1 k) := by decide +kernel
theorem inA1 : ∀ k, k < Nn 1 → lw_tbl[(([184, 186, 188, 190, 192, 194] : List Nat).getD k 0)]? = some (u_lay (Rn 1) (Tn 1) k) ∧ goodWord (u_lay (Rn 1) (Tn 1) k) = true := by decide +kernel
theorem nm2 : ∀ a, a < Nn 2 → ∀ b, b < Nn 2 → a ≠ b → (Tn 2 a).2.1 ≠ (Tn 2 b).2.1 := by decide +kernel
theorem tok2 : ∀ k, k < Nn 2 → parseFieldDescriptor (Tn 2 k).2.2.1 = some (tyn 2 k) := by decide +kernel
theorem inA2 : ∀ k, k < Nn 2 → lw_tbl[(([137, 139, 141, 143, 145, 147, 149, 151, 153, 155, 157, 159, 161, 163, 165, 167] : List Nat).getD k 0)]? = some (u_lay (Rn 2) (Tn 2) k) ∧ goodWord (u_lay (Rn 2) (Tn 2) k) = true := by decide +kernel
theorem nm3 : ∀ a, a < Nn 3 → ∀ b, b < Nn 3 → a ≠ b → (Tn 3 a).2.1 ≠ (Tn 3 b).2.1 := by decide +kernel
theorem tok3 : ∀ k, k < Nn 3 → parseFieldDescriptor (Tn 3 k).2.2.1 = some (tyn 3 k) := by decide +kernel
theorem inA3 : ∀ k, k < Nn 3 → lw_tbl[(([210, 212, 214] : List Nat).getD k 0)]? = some (u_lay (Rn 3) (Tn 3) k) ∧ goodWord (u_lay (Rn 3) (Tn 3) k) = true := by decide +kernel
theorem nm4 : ∀ a, a < Nn 4 → ∀ b, b < Nn 4 → a ≠ b → (Tn 4 a).2.1 ≠ (Tn 4 b).2.1 := by decide +kernel
theorem tok4 : ∀ k, k < Nn 4 → parseFieldDescriptor (Tn 4 k).2.2.1 = some (tyn 4 k) := by decide +kernel
theorem inA4 : ∀ k, k < Nn 4 → lw_tbl[(([777, 779, 781, 783, 785, 787, 789, 791, 793, 795, 797, 799, 801, 803, 805] : List Nat).getD k 0)]? = some (u_lay (Rn 4) (Tn 4) k) ∧ goodWord (u_lay (Rn 4) (Tn 4) k) = true := by decide +kernel
theorem fiveQ {P : Nat → Prop} (h0 : P 0) (h1 : P 1) (h2 : P 2) (h3 : P 3) (h4 : P 4) {ci : Nat} (h : ci < 5) : P ci := by
  rcases (show ci = 0 ∨ ci = 1 ∨ ci = 2 ∨ ci = 3 ∨ ci = 4 by omega) with rfl | rfl | rfl | rfl | rfl <;> assumption
theorem nmn {ci : Nat} (h : ci < 5) : ∀ a, a < Nn ci → ∀ b, b < Nn ci → a ≠ b → (Tn ci a).2.1 ≠ (Tn ci b).2.1 := fiveQ (P := fun ci => ∀ a, a < Nn ci → ∀ b, b < Nn ci → a ≠ b → (Tn ci a).2.1 ≠ (Tn ci b).2.1) nm0 nm1 nm2 nm3 nm4 h
theorem tokn {ci : Nat} (h : ci < 5) : ∀ k, k < Nn ci → parseFieldDescriptor (Tn ci k).2.2.1 = some (tyn ci k) := fiveQ (P := fun ci => ∀ k, k < Nn ci → parseFieldDescriptor (Tn ci k).2.2.1 = some (tyn ci k)) tok0 tok1 tok2 tok3 tok4 h
theorem inn0 {ci : Nat} {f : Nat → Nat} (h : ∀ k, k < Nn ci → lw_tbl[f k]? = some (u_lay (Rn ci) (Tn ci) k) ∧ goodWord (u_lay (Rn ci) (Tn ci) k) = true) : ∀ w ∈ u_ws (Rn ci) (Tn ci) (Nn ci), w ∈ lg := by
  intro w hw
  obtain ⟨k, hk, rfl⟩ := List.mem_map.mp hw
  exact lgm _ (h k (List.mem_range.mp hk)).1 (h k (List.mem_range.mp hk)).2
theorem inn {ci : Nat} (h : ci < 5) : ∀ w ∈ u_ws (Rn ci) (Tn ci) (Nn ci), w ∈ lg := fiveQ (P := fun ci => ∀ w ∈ u_ws (Rn ci) (Tn ci) (Nn ci), w ∈ lg) (inn0 inA0) (inn0 inA1) (inn0 inA2) (inn0 inA3) (inn0 inA4) h
def nst : List (String × Nat × MethodName × String) := [("EveningCloak", 24, ⟨"EveningCloak$Reader", "<init>", "()V"⟩, "EveningCloak"), ("EveningCloak", 39, ⟨"EveningCloak$Sheet", "<init>", "()V"⟩, "EveningCloak"), ("EveningCloak$Room", 73, ⟨"EveningCloak", "within", "(III)Z"⟩, "EveningCloak"), ("EveningCloak$Room", 94, ⟨"EveningCloak", "standOf", "(II)I"⟩, "EveningCloak"), ("EveningCloak$Reader", 115, ⟨"EveningCloak", "within", "(III)Z"⟩, "EveningCloak"), ("EveningCloak$Reader", 112, ⟨"EveningCloak", "standOf", "(II)I"⟩, "EveningCloak")]
def strs : List (Nat × Nat × String) := [(1, 35, "girl"), (1, 105, "hope"), (1, 44, "stand"), (1, 141, "coat"), (1, 143, "evening"), (1, 145, "hat"), (1, 147, "dusk"), (1, 149, "moon"), (1, 151, "umbrella"), (1, 153, "topper"), (1, 66, "on"), (1, 75, "stub"), (1, 79, "kept"), (1, 83, "worn"), (1, 87, "out")]
def slen : List Nat := [4, 4, 5, 4, 7, 3, 4, 4, 8, 6, 2, 4, 4, 4, 3]
def sbyt : List (List Int32) := [[103, 105, 114, 108], [104, 111, 112, 101], [115, 116, 97, 110, 100], [99, 111, 97, 116], [101, 118, 101, 110, 105, 110, 103], [104, 97, 116], [100, 117, 115, 107], [109, 111, 111, 110], [117, 109, 98, 114, 101, 108, 108, 97], [116, 111, 112, 112, 101, 114], [111, 110], [115, 116, 117, 98], [107, 101, 112, 116], [119, 111, 114, 110], [111, 117, 116]]
def sarr : List (String × String × List Int32) := [("EveningCloak", "MOST_OF", [6, 15, 99, 9999, 99, 1]), ("EveningCloak", "LEAST_OF_GIRL", [0, 1, 0]), ("EveningCloak", "MOST_OF_GIRL", [99, 99, 9999]), ("EveningCloak", "ABOVE", [-1, 0, 0, 1, 3, 0, 2]), ("EveningCloakModel", "NAMES", [99, 111, 97, 116, 0, 0, 0, 0, 101, 118, 101, 110, 105, 110, 103, 0, 104, 97, 116, 0, 0, 0, 0, 0, 100, 117, 115, 107, 0, 0, 0, 0, 109, 111, 111, 110, 0, 0, 0, 0, 117, 109, 98, 114, 101, 108, 108, 97, 116, 111, 112, 112, 101, 114, 0, 0, 111, 110, 0, 0, 0, 0, 0, 0, 115, 116, 117, 98, 0, 0, 0, 0, 107, 101, 112, 116, 0, 0, 0, 0, 119, 111, 114, 110, 0, 0, 0, 0, 111, 117, 116, 0, 0, 0, 0, 0, 103, 105, 114, 108, 0, 0, 0, 0, 104, 111, 112, 101, 0, 0, 0, 0, 115, 116, 97, 110, 100, 0, 0, 0])]
