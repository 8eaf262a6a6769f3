/-! THE CLAIM OUT OF ONE WALK OF THE LAW'S BODY. Your part is whole_start (and what it stands on); all else here is the same for every law, but numbers. -/
def R_law : String := "EveningCloakLaw"
def lw_P (b : Addr) (xs : List Int32) (args : Array Value) (s : State) : Prop := args = #[.ref b] ∧ s.IntsAt b xs ∧ xs.length ≤ 3072 ∧ (Jvm.Cond.and given_1 narrow_1).before args s = true
def lw_Q (_ : Array Value) (s : State) (o : Outcome) (t : State) : Prop := o = .returned (some (.int 1)) ∧ Framed s o t [] 600000 7302249
def lw_Z (below : List Frame) (a : Array Value) (s : State) : State → Prop := fun t => ∃ o, t.status = .running ∧ Ended t below o ∧ lw_Q a s o t
/-- the law's own end, with 1 on the stack, nothing written that was there before, its room as the claim has it -/
theorem lw_ret {p : Program} {l : Launch} {e : Env} {s : State} {m : MethodId} {below : List Frame} {meth : Method} {c : Code} {b : Nat} (hx : p.tables.exec = Jvm.exec) (hb : c.code = code) (hr : meth.sig.returnType = ret) (hlocks : meth.locks = false) {pc : Nat} {H : Heap} {ls : Array Slot} (hdg : decode code pc = .ok (.ireturn, 1)) : W p l e room_1 s m #[Value.ref b] below meth c H [] 600000 7302249 (lw_Z below #[Value.ref b] s) (F0 m pc ls [.int 1]) := by
  intro T hT X
  obtain ⟨fs, hret, hrun, hended, hW, hframe⟩ := X.leave (v := some (.int 1)) (hlocks := hlocks) (fun h => by rw [hr] at h; cases h)
  have hmeth' : T.vm.method? m = some meth := X.method'
  refine ⟨T.setFrames fs, ?_, .returned (some (.int 1)), hrun, hended, rfl, ⟨_, rfl⟩, hW, hframe⟩
  jvm_step X.here [X.here.top, hx, hb, hdg, hmeth', hr, ret, narrow_b1]
  (try refine ⟨rfl, ?_⟩); (try refine ⟨rfl, ?_⟩)
  first | (intro acts; rw [hret _ acts rfl rfl rfl]) | rw [hret _ _ rfl rfl rfl]
  exact Steps.refl _
/-- what holds at the law's entry: the machine, the code, the tables' words (any of lw_tbl by 'hts w (by decide +kernel)'), the script of L ints xs at the cell b, what the Statement gives of the start (any of its parts by flat_of_before) -/
def lw_At (p : Program) (s : State) (m : MethodId) (meth : Method) (c : Code) (b L : Nat) (xs : Nat → Int32) : Prop :=
  p.tables.exec = Jvm.exec ∧ c.code = code ∧ meth.sig.returnType = ret ∧ c.maxLocals = 4 ∧ s.vm.findClass R_law = some m.cls ∧ (∀ w ∈ lw_tbl, w.before #[Value.ref b] s = true) ∧ va_X b L xs s s.heap ∧ b < s.heap.size ∧ meth.locks = false ∧ (Jvm.Cond.and given_1 narrow_1).before #[Value.ref b] s = true

/-! THE START: the classes, the static rows, the texts, found in the law's first state -/
def gN : List Cond := flatC (Jvm.Cond.and given_1 narrow_1)
theorem gNm {args : Array Value} {s : State} (h : (Jvm.Cond.and given_1 narrow_1).before args s = true) (i : Nat) {c : Cond} (hc : gN[i]? = some c) : c.before args s = true := flat_of_before _ h c (List.mem_of_getElem? hc)
def stT (j : Nat) : Term := match sarr[j]? with
  | some q => .static q.1 q.2.1 "[I"
  | none => .int 0
set_option maxRecDepth 100000 in
theorem sa_e0 : ∀ k, k < (sarr.getD 0 ("", "", [])).2.2.length → gN[(([7, 8, 9, 10, 11, 12] : List Nat).getD k 0)]? = some (Cond.eq (.elem (.static "EveningCloak" "MOST_OF" "[I") (.int (Int32.ofNat k))) (.int ((sarr.getD 0 ("", "", [])).2.2.getD k 0))) := by decide +kernel
theorem sa_0 {args : Array Value} {s : State} {A : Nat → Prop} (hts : ∀ w ∈ lw_tbl, w.before args s = true) (hgv : (Jvm.Cond.and given_1 narrow_1).before args s = true) (hA : ∀ a : Nat, a < s.heap.size → ¬ A a) : ∃ t : Nat, va_Z "EveningCloak" "MOST_OF" "[I" (.ref t) A s s.heap ∧ va_T .int t (sarr.getD 0 ("", "", [])).2.2.length (fun k => .int ((sarr.getD 0 ("", "", [])).2.2.getD k 0)) A s s.heap := by
  obtain ⟨t, h1, h2⟩ := va_Tof (tm := .static "EveningCloak" "MOST_OF" "[I") (ty := .int) (N := (sarr.getD 0 ("", "", [])).2.2.length) (f := fun k => .int ((sarr.getD 0 ("", "", [])).2.2.getD k 0)) (A := A) (by decide) (gNm hgv 5 (by decide +kernel)) (va_eqt (gNm hgv 6 (by decide +kernel))) (fun k hk => va_eqt (gNm hgv _ (sa_e0 k hk))) hA
  exact ⟨t, va_Zref (hts _ (List.mem_of_getElem? (i := 331) (by decide +kernel))) (hts _ (List.mem_of_getElem? (i := 68) (by decide +kernel))) h1 hA, h2⟩
set_option maxRecDepth 100000 in
theorem sa_e1 : ∀ k, k < (sarr.getD 1 ("", "", [])).2.2.length → gN[(([16, 17, 18] : List Nat).getD k 0)]? = some (Cond.eq (.elem (.static "EveningCloak" "LEAST_OF_GIRL" "[I") (.int (Int32.ofNat k))) (.int ((sarr.getD 1 ("", "", [])).2.2.getD k 0))) := by decide +kernel
theorem sa_1 {args : Array Value} {s : State} {A : Nat → Prop} (hts : ∀ w ∈ lw_tbl, w.before args s = true) (hgv : (Jvm.Cond.and given_1 narrow_1).before args s = true) (hA : ∀ a : Nat, a < s.heap.size → ¬ A a) : ∃ t : Nat, va_Z "EveningCloak" "LEAST_OF_GIRL" "[I" (.ref t) A s s.heap ∧ va_T .int t (sarr.getD 1 ("", "", [])).2.2.length (fun k => .int ((sarr.getD 1 ("", "", [])).2.2.getD k 0)) A s s.heap := by
  obtain ⟨t, h1, h2⟩ := va_Tof (tm := .static "EveningCloak" "LEAST_OF_GIRL" "[I") (ty := .int) (N := (sarr.getD 1 ("", "", [])).2.2.length) (f := fun k => .int ((sarr.getD 1 ("", "", [])).2.2.getD k 0)) (A := A) (by decide) (gNm hgv 14 (by decide +kernel)) (va_eqt (gNm hgv 15 (by decide +kernel))) (fun k hk => va_eqt (gNm hgv _ (sa_e1 k hk))) hA
  exact ⟨t, va_Zref (hts _ (List.mem_of_getElem? (i := 350) (by decide +kernel))) (hts _ (List.mem_of_getElem? (i := 68) (by decide +kernel))) h1 hA, h2⟩
set_option maxRecDepth 100000 in
theorem sa_e2 : ∀ k, k < (sarr.getD 2 ("", "", [])).2.2.length → gN[(([22, 23, 24] : List Nat).getD k 0)]? = some (Cond.eq (.elem (.static "EveningCloak" "MOST_OF_GIRL" "[I") (.int (Int32.ofNat k))) (.int ((sarr.getD 2 ("", "", [])).2.2.getD k 0))) := by decide +kernel
theorem sa_2 {args : Array Value} {s : State} {A : Nat → Prop} (hts : ∀ w ∈ lw_tbl, w.before args s = true) (hgv : (Jvm.Cond.and given_1 narrow_1).before args s = true) (hA : ∀ a : Nat, a < s.heap.size → ¬ A a) : ∃ t : Nat, va_Z "EveningCloak" "MOST_OF_GIRL" "[I" (.ref t) A s s.heap ∧ va_T .int t (sarr.getD 2 ("", "", [])).2.2.length (fun k => .int ((sarr.getD 2 ("", "", [])).2.2.getD k 0)) A s s.heap := by
  obtain ⟨t, h1, h2⟩ := va_Tof (tm := .static "EveningCloak" "MOST_OF_GIRL" "[I") (ty := .int) (N := (sarr.getD 2 ("", "", [])).2.2.length) (f := fun k => .int ((sarr.getD 2 ("", "", [])).2.2.getD k 0)) (A := A) (by decide) (gNm hgv 20 (by decide +kernel)) (va_eqt (gNm hgv 21 (by decide +kernel))) (fun k hk => va_eqt (gNm hgv _ (sa_e2 k hk))) hA
  exact ⟨t, va_Zref (hts _ (List.mem_of_getElem? (i := 352) (by decide +kernel))) (hts _ (List.mem_of_getElem? (i := 68) (by decide +kernel))) h1 hA, h2⟩
set_option maxRecDepth 100000 in
theorem sa_e3 : ∀ k, k < (sarr.getD 3 ("", "", [])).2.2.length → gN[(([33, 34, 35, 36, 37, 38, 39] : List Nat).getD k 0)]? = some (Cond.eq (.elem (.static "EveningCloak" "ABOVE" "[I") (.int (Int32.ofNat k))) (.int ((sarr.getD 3 ("", "", [])).2.2.getD k 0))) := by decide +kernel
theorem sa_3 {args : Array Value} {s : State} {A : Nat → Prop} (hts : ∀ w ∈ lw_tbl, w.before args s = true) (hgv : (Jvm.Cond.and given_1 narrow_1).before args s = true) (hA : ∀ a : Nat, a < s.heap.size → ¬ A a) : ∃ t : Nat, va_Z "EveningCloak" "ABOVE" "[I" (.ref t) A s s.heap ∧ va_T .int t (sarr.getD 3 ("", "", [])).2.2.length (fun k => .int ((sarr.getD 3 ("", "", [])).2.2.getD k 0)) A s s.heap := by
  obtain ⟨t, h1, h2⟩ := va_Tof (tm := .static "EveningCloak" "ABOVE" "[I") (ty := .int) (N := (sarr.getD 3 ("", "", [])).2.2.length) (f := fun k => .int ((sarr.getD 3 ("", "", [])).2.2.getD k 0)) (A := A) (by decide) (gNm hgv 31 (by decide +kernel)) (va_eqt (gNm hgv 32 (by decide +kernel))) (fun k hk => va_eqt (gNm hgv _ (sa_e3 k hk))) hA
  exact ⟨t, va_Zref (hts _ (List.mem_of_getElem? (i := 693) (by decide +kernel))) (hts _ (List.mem_of_getElem? (i := 68) (by decide +kernel))) h1 hA, h2⟩
set_option maxRecDepth 100000 in
theorem sa_e4 : ∀ k, k < (sarr.getD 4 ("", "", [])).2.2.length → gN[(([43, 44, 45, 46, 47, 48, 49, 50, 51, 52, 53, 54, 55, 56, 57, 58, 59, 60, 61, 62, 63, 64, 65, 66, 67, 68, 69, 70, 71, 72, 73, 74, 75, 76, 77, 78, 79, 80, 81, 82, 83, 84, 85, 86, 87, 88, 89, 90, 91, 92, 93, 94, 95, 96, 97, 98, 99, 100, 101, 102, 103, 104, 105, 106, 107, 108, 109, 110, 111, 112, 113, 114, 115, 116, 117, 118, 119, 120, 121, 122, 123, 124, 125, 126, 127, 128, 129, 130, 131, 132, 133, 134, 135, 136, 137, 138, 139, 140, 141, 142, 143, 144, 145, 146, 147, 148, 149, 150, 151, 152, 153, 154, 155, 156, 157, 158, 159, 160, 161, 162] : List Nat).getD k 0)]? = some (Cond.eq (.elem (.static "EveningCloakModel" "NAMES" "[I") (.int (Int32.ofNat k))) (.int ((sarr.getD 4 ("", "", [])).2.2.getD k 0))) := by decide +kernel
theorem sa_4 {args : Array Value} {s : State} {A : Nat → Prop} (hts : ∀ w ∈ lw_tbl, w.before args s = true) (hgv : (Jvm.Cond.and given_1 narrow_1).before args s = true) (hA : ∀ a : Nat, a < s.heap.size → ¬ A a) : ∃ t : Nat, va_Z "EveningCloakModel" "NAMES" "[I" (.ref t) A s s.heap ∧ va_T .int t (sarr.getD 4 ("", "", [])).2.2.length (fun k => .int ((sarr.getD 4 ("", "", [])).2.2.getD k 0)) A s s.heap := by
  obtain ⟨t, h1, h2⟩ := va_Tof (tm := .static "EveningCloakModel" "NAMES" "[I") (ty := .int) (N := (sarr.getD 4 ("", "", [])).2.2.length) (f := fun k => .int ((sarr.getD 4 ("", "", [])).2.2.getD k 0)) (A := A) (by decide) (gNm hgv 41 (by decide +kernel)) (va_eqt (gNm hgv 42 (by decide +kernel))) (fun k hk => va_eqt (gNm hgv _ (sa_e4 k hk))) hA
  exact ⟨t, va_Zref (hts _ (List.mem_of_getElem? (i := 1126) (by decide +kernel))) (hts _ (List.mem_of_getElem? (i := 73) (by decide +kernel))) h1 hA, h2⟩
def txT (j : Nat) : Term := .string "EveningCloak$Reader" (([35, 105, 44, 141, 143, 145, 147, 149, 151, 153, 66, 75, 79, 83, 87] : List Nat).getD j 0)
set_option maxRecDepth 100000 in
theorem tx_ex : ∀ i, i < 15 → gN[(([163, 171, 180, 191, 202, 217, 229, 243, 258, 278, 297, 313, 332, 352, 373] : List Nat).getD i 0)]? = some (Cond.exactly (txT i) "java/lang/String") := by decide +kernel
set_option maxRecDepth 100000 in
theorem tx_co : ∀ i, i < 15 → gN[(([164, 172, 181, 192, 203, 218, 230, 244, 259, 279, 298, 314, 333, 353, 374] : List Nat).getD i 0)]? = some (Cond.eq (.field (txT i) "java/lang/String" "coder" "B") (.int 0)) := by decide +kernel
set_option maxRecDepth 100000 in
theorem tx_ar : ∀ i, i < 15 → gN[(([165, 173, 182, 193, 204, 219, 231, 245, 260, 280, 299, 315, 334, 354, 375] : List Nat).getD i 0)]? = some (Cond.arrayOf (.field (txT i) "java/lang/String" "value" "[B") .byte) := by decide +kernel
set_option maxRecDepth 100000 in
theorem tx_le : ∀ i, i < 15 → gN[(([166, 174, 183, 194, 205, 220, 232, 246, 261, 281, 300, 316, 335, 355, 376] : List Nat).getD i 0)]? = some (Cond.eq (.length (.field (txT i) "java/lang/String" "value" "[B")) (.int (Int32.ofNat (slen.getD i 0)))) := by decide +kernel
set_option maxRecDepth 100000 in
theorem tx_el : ∀ i, i < 15 → ∀ j, j < slen.getD i 0 → gN[((([[167, 168, 169, 170], [175, 176, 177, 178], [184, 185, 186, 187, 188], [195, 196, 197, 198], [206, 207, 208, 209, 210, 211, 212], [221, 222, 223], [233, 234, 235, 236], [247, 248, 249, 250], [262, 263, 264, 265, 266, 267, 268, 269], [282, 283, 284, 285, 286, 287], [301, 302], [317, 318, 319, 320], [336, 337, 338, 339], [356, 357, 358, 359], [377, 378, 379]] : List (List Nat)).getD i []).getD j 0)]? = some (Cond.eq (.elem (.field (txT i) "java/lang/String" "value" "[B") (.int (Int32.ofNat j))) (.int ((sbyt.getD i []).getD j 0))) := by decide +kernel
set_option maxRecDepth 100000 in
theorem tx_ne : ∀ i, i < 15 → ∀ j, j < 15 → i ≠ j → (gN[((([[0, 179, 189, 199, 213, 224, 237, 251, 270, 288, 303, 321, 340, 360, 380], [179, 0, 190, 200, 214, 225, 238, 252, 271, 289, 304, 322, 341, 361, 381], [189, 190, 0, 201, 215, 226, 239, 253, 272, 290, 305, 323, 342, 362, 382], [199, 200, 201, 0, 216, 227, 240, 254, 273, 291, 306, 324, 343, 363, 383], [213, 214, 215, 216, 0, 228, 241, 255, 274, 292, 307, 325, 344, 364, 384], [224, 225, 226, 227, 228, 0, 242, 256, 275, 293, 308, 326, 345, 365, 385], [237, 238, 239, 240, 241, 242, 0, 257, 276, 294, 309, 327, 346, 366, 386], [251, 252, 253, 254, 255, 256, 257, 0, 277, 295, 310, 328, 347, 367, 387], [270, 271, 272, 273, 274, 275, 276, 277, 0, 296, 311, 329, 348, 368, 388], [288, 289, 290, 291, 292, 293, 294, 295, 296, 0, 312, 330, 349, 369, 389], [303, 304, 305, 306, 307, 308, 309, 310, 311, 312, 0, 331, 350, 370, 390], [321, 322, 323, 324, 325, 326, 327, 328, 329, 330, 331, 0, 351, 371, 391], [340, 341, 342, 343, 344, 345, 346, 347, 348, 349, 350, 351, 0, 372, 392], [360, 361, 362, 363, 364, 365, 366, 367, 368, 369, 370, 371, 372, 0, 393], [380, 381, 382, 383, 384, 385, 386, 387, 388, 389, 390, 391, 392, 393, 0]] : List (List Nat)).getD i []).getD j 0)]? = some (Cond.not (Cond.eq (txT i) (txT j))) ∨ gN[((([[0, 179, 189, 199, 213, 224, 237, 251, 270, 288, 303, 321, 340, 360, 380], [179, 0, 190, 200, 214, 225, 238, 252, 271, 289, 304, 322, 341, 361, 381], [189, 190, 0, 201, 215, 226, 239, 253, 272, 290, 305, 323, 342, 362, 382], [199, 200, 201, 0, 216, 227, 240, 254, 273, 291, 306, 324, 343, 363, 383], [213, 214, 215, 216, 0, 228, 241, 255, 274, 292, 307, 325, 344, 364, 384], [224, 225, 226, 227, 228, 0, 242, 256, 275, 293, 308, 326, 345, 365, 385], [237, 238, 239, 240, 241, 242, 0, 257, 276, 294, 309, 327, 346, 366, 386], [251, 252, 253, 254, 255, 256, 257, 0, 277, 295, 310, 328, 347, 367, 387], [270, 271, 272, 273, 274, 275, 276, 277, 0, 296, 311, 329, 348, 368, 388], [288, 289, 290, 291, 292, 293, 294, 295, 296, 0, 312, 330, 349, 369, 389], [303, 304, 305, 306, 307, 308, 309, 310, 311, 312, 0, 331, 350, 370, 390], [321, 322, 323, 324, 325, 326, 327, 328, 329, 330, 331, 0, 351, 371, 391], [340, 341, 342, 343, 344, 345, 346, 347, 348, 349, 350, 351, 0, 372, 392], [360, 361, 362, 363, 364, 365, 366, 367, 368, 369, 370, 371, 372, 0, 393], [380, 381, 382, 383, 384, 385, 386, 387, 388, 389, 390, 391, 392, 393, 0]] : List (List Nat)).getD i []).getD j 0)]? = some (Cond.not (Cond.eq (txT j) (txT i)))) := by decide +kernel
set_option maxRecDepth 100000 in
theorem tx_rf : ∀ i, i < 15 → lw_tbl[(([583, 641, 647, 656, 657, 658, 659, 660, 661, 662, 668, 673, 674, 675, 676] : List Nat).getD i 0)]? = some (Cond.stringRef (Rn (strs.getD i (0, 0, "")).1) (strs.getD i (0, 0, "")).2.1 (strs.getD i (0, 0, "")).2.2) := by decide +kernel
theorem tx_tm : ∀ i, i < 15 → txT i = .string (Rn (strs.getD i (0, 0, "")).1) (strs.getD i (0, 0, "")).2.1 := by decide +kernel
set_option maxRecDepth 100000 in
theorem ns_in : ∀ i, i < 6 → lw_tbl[(([173, 200, 288, 464, 646, 652] : List Nat).getD i 0)]? = (nst[i]?).map (fun q => Cond.methodLinkNest q.1 q.2.1 q.2.2.1 q.2.2.2) := by decide +kernel
def gTab (t : Nat → Nat) (aK aV : Nat → Nat) (f b : Nat) : Nat → Nat := fun k => if k < 100 then t k else if k < 200 then aK (k - 100) else if k < 300 then aV (k - 200) else if k < 400 then f else b
theorem ad_ge {G : Gx} {k n : Nat} (h : ¬ k < 1000000) (e : k - 1000000 = n) : ad G k = gT G n := by
  subst e; exact if_neg h
theorem gTab_a (l : Launch) (B : Nat) (D : va_G) (cI cS : ClassId) {t aK aV : Nat → Nat} {f b j : Nat} (h : j < 5) : ad (l, B, D, cI, cS, gTab t aK aV f b) (aA j) = t j := by
  rw [ad_ge (n := j) (by unfold aA; omega) (by unfold aA; omega)]
  show gTab t aK aV f b j = t j
  unfold gTab
  rw [if_pos (by omega)]
theorem gTab_s (l : Launch) (B : Nat) (D : va_G) (cI cS : ClassId) {t aK aV : Nat → Nat} {f b j : Nat} (h : j < 15) : ad (l, B, D, cI, cS, gTab t aK aV f b) (sA j) = aK j := by
  rw [ad_ge (n := 100 + j) (by unfold sA; omega) (by unfold sA; omega)]
  show gTab t aK aV f b (100 + j) = aK j
  unfold gTab
  rw [if_neg (by omega), if_pos (by omega), Nat.add_sub_cancel_left]
theorem gTab_v (l : Launch) (B : Nat) (D : va_G) (cI cS : ClassId) {t aK aV : Nat → Nat} {f b j : Nat} (h : j < 15) : ad (l, B, D, cI, cS, gTab t aK aV f b) (sV j) = aV j := by
  rw [ad_ge (n := 200 + j) (by unfold sV; omega) (by unfold sV; omega)]
  show gTab t aK aV f b (200 + j) = aV j
  unfold gTab
  rw [if_neg (by omega), if_neg (by omega), if_pos (by omega), Nat.add_sub_cancel_left]
theorem gTab_f (l : Launch) (B : Nat) (D : va_G) (cI cS : ClassId) {t aK aV : Nat → Nat} {f b : Nat} : ad (l, B, D, cI, cS, gTab t aK aV f b) fA = f := by
  rw [ad_ge (n := 300) (by unfold fA; omega) (by unfold fA; omega)]
  rfl
theorem gTab_c (l : Launch) (B : Nat) (D : va_G) (cI cS : ClassId) {t aK aV : Nat → Nat} {f b : Nat} : ad (l, B, D, cI, cS, gTab t aK aV f b) scA = b := by
  rw [ad_ge (n := 400) (by unfold scA; omega) (by unfold scA; omega)]
  rfl
theorem ins_in : ∀ ci, ci < 5 → lw_tbl[(([82, 172, 90, 199, 757] : List Nat).getD ci 0)]? = some (Cond.instantiable (Rn ci) (Nn ci)) := by decide +kernel
set_option maxHeartbeats 4000000 in
set_option maxRecDepth 100000 in
theorem mk_G (l : Launch) {s : State} {args : Array Value} (hts : ∀ w ∈ lw_tbl, w.before args s = true) (hgv : (Jvm.Cond.and given_1 narrow_1).before args s = true) (b : Nat) : ∃ G : Gx, gL G = l ∧ gB G = s.heap.size ∧ KK G s ∧ ad G scA = b := by
  have htg : ∀ w ∈ lg, w.before args s = true := fun w h => hts w (List.mem_filter.mp h).1
  have hA : ∀ a : Nat, a < s.heap.size → ¬ (fun q : Nat => s.heap.size ≤ q) a := fun a h => Nat.not_le.mpr h
  have hkn : ∀ ci : Nat, ∃ q : ClassId × (Nat → Nat), ci < 5 → u_Kn s (Rn ci) (Tn ci) (Nn ci) q.1 q.2 := by
    intro ci
    by_cases h : ci < 5
    · obtain ⟨c, iS, hk⟩ := u_known (n := Nn ci) htg (inn h) (hts _ (List.mem_of_getElem? (ins_in ci h)))
      exact ⟨(c, iS), fun _ => hk⟩
    · exact ⟨(0, fun _ => 0), fun z => absurd z h⟩
  obtain ⟨dd, hdd⟩ := Classical.axiomOfChoice hkn
  obtain ⟨cI, kI, compI, i1, i2, i3⟩ := Cond.arrayClass_spec (hts (.arrayClass .int) (List.mem_of_getElem? (i := 170) (by decide +kernel)))
  have hAO := hts (.arrayOver (.object (Rn 3))) (List.mem_of_getElem? (i := 198) (by decide +kernel))
  obtain ⟨comp, cS, kS, j1, j2, j3, j4, j5⟩ := Cond.arrayOver_spec hAO
  obtain ⟨t0, z0, q0⟩ := sa_0 (A := fun q : Nat => s.heap.size ≤ q) hts hgv hA
  obtain ⟨t1, z1, q1⟩ := sa_1 (A := fun q : Nat => s.heap.size ≤ q) hts hgv hA
  obtain ⟨t2, z2, q2⟩ := sa_2 (A := fun q : Nat => s.heap.size ≤ q) hts hgv hA
  obtain ⟨t3, z3, q3⟩ := sa_3 (A := fun q : Nat => s.heap.size ≤ q) hts hgv hA
  obtain ⟨t4, z4, q4⟩ := sa_4 (A := fun q : Nat => s.heap.size ≤ q) hts hgv hA
  obtain ⟨aK, aV, hvS, hvE⟩ := vk_Sof (N := 15) (tm := txT) (len := slen) (byt := sbyt) (A := fun q : Nat => s.heap.size ≤ q) (args := args) (s := s) (by decide) (fun i hi => gNm hgv _ (tx_ex i hi)) (fun i hi => gNm hgv _ (tx_co i hi)) (fun i hi => gNm hgv _ (tx_ar i hi)) (fun i hi => gNm hgv _ (tx_le i hi)) (fun i hi j hj => gNm hgv _ (tx_el i hi j hj)) (fun i j hi hj hij => (tx_ne i hi j hj hij).imp (fun z => gNm hgv _ z) (fun z => gNm hgv _ z)) hA
  have hZc : va_Z "java/lang/String" "COMPACT_STRINGS" "Z" (.int 1) (fun q : Nat => s.heap.size ≤ q) s s.heap := va_Zof (hts _ (List.mem_of_getElem? (i := 597) (by decide +kernel))) (hts _ (List.mem_of_getElem? (i := 77) (by decide +kernel))) (va_eqt (gNm hgv 25 (by decide +kernel))) hA
  have hZf : va_Zq "jdk/internal/util/Preconditions" "SIOOBE_FORMATTER" "Ljava/util/function/BiFunction;" (fun q : Nat => s.heap.size ≤ q) s s.heap := va_Zqof (hts _ (List.mem_of_getElem? (i := 613) (by decide +kernel))) (hts _ (List.mem_of_getElem? (i := 79) (by decide +kernel))) (gNm hgv 26 (by decide +kernel)) hA
  obtain ⟨f, hf⟩ : ∃ f : Nat, va_Z "jdk/internal/util/Preconditions" "SIOOBE_FORMATTER" "Ljava/util/function/BiFunction;" .null (fun q : Nat => s.heap.size ≤ q) s s.heap ∨ va_Z "jdk/internal/util/Preconditions" "SIOOBE_FORMATTER" "Ljava/util/function/BiFunction;" (.ref f) (fun q : Nat => s.heap.size ≤ q) s s.heap := by
    rcases hZf with z | ⟨t, z⟩
    · exact ⟨0, Or.inl z⟩
    · exact ⟨t, Or.inr z⟩
  let tt : Nat → Nat := fun k => if k = 0 then t0 else if k = 1 then t1 else if k = 2 then t2 else if k = 3 then t3 else t4
  refine ⟨(l, s.heap.size, (fun c => (dd c).1, fun c => (dd c).2), cI, cS, gTab tt aK aV f b), rfl, rfl, ⟨⟨?_, ?_⟩, ?_, ?_, ?_, ?_, hZc, hAO, ?_⟩, gTab_c _ _ _ _ _⟩
  · intro c q hq
    have hc : c < 5 := (List.getElem?_eq_some_iff.mp hq).1
    have := (cls_at hc).symm.trans hq
    cases this
    exact hdd c hc
  · intro k q hq
    match k, hq with
    | 0, hq => cases hq; exact ⟨fun n z => ⟨fun k h => (by cases h), kI, i2, compI, i3⟩, i1⟩
    | 1, hq => cases hq; exact ⟨fun n z => ⟨fun k h => (by cases h), kS, j3, comp, j4⟩, kS, comp, j3, j4, j1, j5⟩
    | k + 2, hq => simp [gY] at hq
  · intro q hq
    obtain ⟨i, hi⟩ := List.mem_iff_getElem?.mp hq
    have hi6 : i < 6 := (List.getElem?_eq_some_iff.mp hi).1
    have h1 := ns_in i hi6
    rw [hi] at h1
    exact va_Nw.of rfl (hts _ (List.mem_of_getElem? h1))
  · intro j q hq
    have hj : j < 5 := (List.getElem?_eq_some_iff.mp hq).1
    rw [gTab_a _ _ _ _ _ hj]
    match j, hq, hj with
    | 0, hq, _ => cases hq; exact ⟨z0, q0⟩
    | 1, hq, _ => cases hq; exact ⟨z1, q1⟩
    | 2, hq, _ => cases hq; exact ⟨z2, q2⟩
    | 3, hq, _ => cases hq; exact ⟨z3, q3⟩
    | 4, hq, _ => cases hq; exact ⟨z4, q4⟩
  · intro j q hq
    have hj : j < 15 := (List.getElem?_eq_some_iff.mp hq).1
    rw [gTab_s _ _ _ _ _ hj]
    have h1 := hts _ (List.mem_of_getElem? (tx_rf j hj))
    have h2 := hvE j hj
    rw [tx_tm j hj] at h2
    have e : strs.getD j (0, 0, "") = q := by rw [List.getD_eq_getElem?_getD, hq]; rfl
    rw [e] at h1 h2
    exact vk_R.of h1 h2
  · refine ⟨fun i hi => ?_, fun i j hi hj e => ?_⟩
    · dsimp only
      rw [gTab_s _ _ _ _ _ hi, gTab_v _ _ _ _ _ hi]
      exact hvS.1 i hi
    · dsimp only at e
      rw [gTab_s _ _ _ _ _ hi, gTab_s _ _ _ _ _ hj] at e
      exact hvS.2 i j hi hj e
  · rw [gTab_f]
    exact hf
