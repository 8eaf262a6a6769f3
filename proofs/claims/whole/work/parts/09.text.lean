/-! TEXTS: String.length and String.charAt over the constants, and what the JDK runs for them -/
def strIx (a : Nat) : Option Nat := (List.range 15).find? (fun j => Nat.beq (sA j) a)
theorem strIx_e {a j : Nat} (h : strIx a = some j) : a = sA j ∧ j < 15 := by
  unfold strIx at h
  have h1 := List.find?_some h
  have h2 := List.mem_of_find?_eq_some h
  exact ⟨(Nat.eq_of_beq_eq_true h1).symm, List.mem_range.mp h2⟩
def F_T_length (a : Nat) (w : A_W) : Option (Int32 × A_W) := match strIx a with
  | some j => some (Int32.ofNat (slen.getD j 0), w)
  | none => none
def F_T_charAt (a : Nat) (i : Int32) (w : A_W) : Option (Int32 × A_W) := match strIx a with
  | some j => if inb i (slen.getD j 0) then some ((sbyt.getD j []).getD i.toNatClampNeg 0, w) else none
  | none => none
theorem sx_length {a : Nat} {w : A_W} {p : Int32 × A_W} (h : F_T_length a w = some p) : ∃ j, strIx a = some j := by
  unfold F_T_length at h
  split at h
  · rename_i j hj; exact ⟨j, hj⟩
  · cases h
theorem sx_charAt {a : Nat} {i : Int32} {w : A_W} {p : Int32 × A_W} (h : F_T_charAt a i w = some p) : ∃ j, strIx a = some j := by
  unfold F_T_charAt at h
  split at h
  · rename_i j hj; exact ⟨j, hj⟩
  · cases h
section SMY
variable {G : Gx} {X : Cx} {own nL : Nat} {cc : ByteArray} {rt : Option FieldType} {R : Room} {w : A_W} {nc ns : Nat} {r : A_R} {st : List Value} {pc : Nat}
theorem s_if_eq0 (K : Ok G X own cc nL rt R) {x : Int32} {off : Int} {tgt : Nat} (hd : decode cc pc = .ok (.ifCond .eq off, 3)) (ht : (pc : Int) + off = (tgt : Int)) (hx : ¬ x = 0) (kk : Sm G X w nc ns r st (pc + 3)) : Sm G X w nc ns r (.int x :: st) pc := fun H locs ls hw hS hl => by
  exact lv_if_eq K.1 K.2.1 hd ht (fun z => absurd z hx) (fun _ => kk H locs ls hw hS hl)
theorem s_if_ne0 (K : Ok G X own cc nL rt R) {x : Int32} {off : Int} {tgt : Nat} (hd : decode cc pc = .ok (.ifCond .ne off, 3)) (ht : (pc : Int) + off = (tgt : Int)) (hx : x = 0) (kk : Sm G X w nc ns r st (pc + 3)) : Sm G X w nc ns r (.int x :: st) pc := fun H locs ls hw hS hl => by
  exact lv_if_ne K.1 K.2.1 hd ht (fun z => absurd hx z) (fun _ => kk H locs ls hw hS hl)
theorem s_if_lt0 (K : Ok G X own cc nL rt R) {x : Int32} {off : Int} {tgt : Nat} (hd : decode cc pc = .ok (.ifCond .lt off, 3)) (ht : (pc : Int) + off = (tgt : Int)) (hx : ¬ x < 0) (kk : Sm G X w nc ns r st (pc + 3)) : Sm G X w nc ns r (.int x :: st) pc := fun H locs ls hw hS hl => by
  exact lv_if_lt K.1 K.2.1 hd ht (fun z => absurd z hx) (fun _ => kk H locs ls hw hS hl)
theorem s_ic_lt1 (K : Ok G X own cc nL rt R) {x y : Int32} {off : Int} {tgt : Nat} (hd : decode cc pc = .ok (.if_icmp .lt off, 3)) (ht : (pc : Int) + off = (tgt : Int)) (hx : x < y) (kk : Sm G X w nc ns r st tgt) : Sm G X w nc ns r (.int y :: .int x :: st) pc := fun H locs ls hw hS hl => lv_icmp_lt K.1 K.2.1 hd ht (fun _ => kk H locs ls hw hS hl) (fun z => absurd hx z)
end SMY
theorem shr_0 (x : Int32) : x >>> ((0 : Int32) &&& 31) = x := sb_shr0 x
theorem strIx_i {j : Nat} (h : j < 15) : ∃ k, strIx (sA j) = some k := by
  rcases (show j = 0 ∨ j = 1 ∨ j = 2 ∨ j = 3 ∨ j = 4 ∨ j = 5 ∨ j = 6 ∨ j = 7 ∨ j = 8 ∨ j = 9 ∨ j = 10 ∨ j = 11 ∨ j = 12 ∨ j = 13 ∨ j = 14 by omega) with rfl | rfl | rfl | rfl | rfl | rfl | rfl | rfl | rfl | rfl | rfl | rfl | rfl | rfl | rfl <;> exact ⟨_, rfl⟩
abbrev c_T_coder : ByteArray := prog_9_method_152_code
def y_T_coder : MethodName := ⟨"java/lang/String", "coder", "()B"⟩
def rm_T_coder : Room := { frames := 0, cells := 0, slots := 0, locals := 0 }
theorem cy_T_coder : Cy y_T_coder c_T_coder 1 (some .byte) 0 := ⟨lgm 595 (by decide +kernel) rfl, lgm 77 (by decide +kernel) rfl, by decide +kernel, by decide +kernel⟩
theorem im_T_coder : Cond.instanceMethod y_T_coder ∈ lg := lgm 593 (by decide +kernel) rfl
theorem se_T_coder : Cond.selects y_T_coder.cls y_T_coder y_T_coder ∈ lg := lgm 594 (by decide +kernel) rfl
abbrev c_T_isLatin1 : ByteArray := prog_9_method_154_code
def y_T_isLatin1 : MethodName := ⟨"java/lang/String", "isLatin1", "()Z"⟩
def rm_T_isLatin1 : Room := { frames := 0, cells := 0, slots := 0, locals := 0 }
theorem cy_T_isLatin1 : Cy y_T_isLatin1 c_T_isLatin1 1 (some .boolean) 0 := ⟨lgm 605 (by decide +kernel) rfl, lgm 77 (by decide +kernel) rfl, by decide +kernel, by decide +kernel⟩
theorem im_T_isLatin1 : Cond.instanceMethod y_T_isLatin1 ∈ lg := lgm 603 (by decide +kernel) rfl
theorem se_T_isLatin1 : Cond.selects y_T_isLatin1.cls y_T_isLatin1 y_T_isLatin1 ∈ lg := lgm 604 (by decide +kernel) rfl
abbrev c_T_length : ByteArray := prog_9_method_54_code
def y_T_length : MethodName := ⟨"java/lang/String", "length", "()I"⟩
def rm_T_length : Room := { frames := 1, cells := 0, slots := 0, locals := 20 }
theorem cy_T_length : Cy y_T_length c_T_length 1 (some .int) 0 := ⟨lgm 591 (by decide +kernel) rfl, lgm 77 (by decide +kernel) rfl, by decide +kernel, by decide +kernel⟩
theorem im_T_length : Cond.instanceMethod y_T_length ∈ lg := lgm 589 (by decide +kernel) rfl
theorem se_T_length : Cond.selects y_T_length.cls y_T_length y_T_length ∈ lg := lgm 590 (by decide +kernel) rfl
abbrev c_T_pre : ByteArray := prog_14_method_11_code
def y_T_pre : MethodName := ⟨"jdk/internal/util/Preconditions", "checkIndex", "(IILjava/util/function/BiFunction;)I"⟩
def rm_T_pre : Room := { frames := 0, cells := 0, slots := 0, locals := 0 }
theorem cy_T_pre : Cy y_T_pre c_T_pre 3 (some .int) 3 := ⟨lgm 616 (by decide +kernel) rfl, lgm 79 (by decide +kernel) rfl, by decide +kernel, by decide +kernel⟩
theorem st_T_pre : Cond.static y_T_pre ∈ lg := lgm 615 (by decide +kernel) rfl
abbrev c_T_check : ByteArray := prog_9_method_155_code
def y_T_check : MethodName := ⟨"java/lang/String", "checkIndex", "(II)V"⟩
def rm_T_check : Room := { frames := 1, cells := 0, slots := 0, locals := 22 }
theorem cy_T_check : Cy y_T_check c_T_check 2 (none) 2 := ⟨lgm 611 (by decide +kernel) rfl, lgm 77 (by decide +kernel) rfl, by decide +kernel, by decide +kernel⟩
theorem st_T_check : Cond.static y_T_check ∈ lg := lgm 610 (by decide +kernel) rfl
abbrev c_T_lat : ByteArray := prog_10_method_2_code
def y_T_lat : MethodName := ⟨"java/lang/StringLatin1", "charAt", "([BI)C"⟩
def rm_T_lat : Room := { frames := 2, cells := 0, slots := 0, locals := 43 }
theorem cy_T_lat : Cy y_T_lat c_T_lat 2 (some .char) 2 := ⟨lgm 608 (by decide +kernel) rfl, lgm 78 (by decide +kernel) rfl, by decide +kernel, by decide +kernel⟩
theorem st_T_lat : Cond.static y_T_lat ∈ lg := lgm 607 (by decide +kernel) rfl
abbrev c_T_charAt : ByteArray := prog_9_method_56_code
def y_T_charAt : MethodName := ⟨"java/lang/String", "charAt", "(I)C"⟩
def rm_T_charAt : Room := { frames := 3, cells := 0, slots := 0, locals := 64 }
theorem cy_T_charAt : Cy y_T_charAt c_T_charAt 2 (some .char) 1 := ⟨lgm 601 (by decide +kernel) rfl, lgm 77 (by decide +kernel) rfl, by decide +kernel, by decide +kernel⟩
theorem im_T_charAt : Cond.instanceMethod y_T_charAt ∈ lg := lgm 599 (by decide +kernel) rfl
theorem se_T_charAt : Cond.selects y_T_charAt.cls y_T_charAt y_T_charAt ∈ lg := lgm 600 (by decide +kernel) rfl
section SMX
variable {G : Gx} {X : Cx} {own nL : Nat} {cc : ByteArray} {rt : Option FieldType} {R rm : Room} {w w1 : A_W} {nc ns : Nat} {r : A_R} {st st0 : List Value} {pc idx : Nat}
theorem Sm_gsV (K : Ok G X own cc nL rt R) (hd : decode cc pc = .ok (.getfield idx, 3)) (hm : Cond.fieldLink (Rn own) idx "java/lang/String" "value" "[B" ∈ lg) {j : Nat} (hj : j < 15) (kk : Sm G X w nc ns r (.ref (sV j) :: st) (pc + 3)) : Sm G X w nc ns r (.ref (sA j) :: st) pc := fun H locs ls hw hS h =>
  vk_getf K.1 K.2.1 (K.2.2.2.2.2.2.1.2.2.2.2.1.1 j hj).2.2.1 hS K.2.2.2.2.1 (K.2.2.2.2.2.1 _ hm) (fun _ h9 => h9) hd (kk H locs ls hw hS h)
theorem Sm_gsC (K : Ok G X own cc nL rt R) (hd : decode cc pc = .ok (.getfield idx, 3)) (hm : Cond.fieldLink (Rn own) idx "java/lang/String" "coder" "B" ∈ lg) {j : Nat} (hj : j < 15) (kk : Sm G X w nc ns r (.int 0 :: st) (pc + 3)) : Sm G X w nc ns r (.ref (sA j) :: st) pc := fun H locs ls hw hS h =>
  vk_getf K.1 K.2.1 (K.2.2.2.2.2.2.1.2.2.2.2.1.1 j hj).2.1 hS K.2.2.2.2.1 (K.2.2.2.2.2.1 _ hm) (fun _ h9 => h9) hd (kk H locs ls hw hS h)
theorem Sm_bal (K : Ok G X own cc nL rt R) (hd : decode cc pc = .ok (.arraylength, 1)) {j : Nat} (hj : j < 15) (kk : Sm G X w nc ns r (.int (Int32.ofNat (slen.getD j 0)) :: st) (pc + 1)) : Sm G X w nc ns r (.ref (sV j) :: st) pc := fun H locs ls hw hS h =>
  va_tlen K.1 K.2.1 (K.2.2.2.2.2.2.1.2.2.2.2.1.1 j hj).2.2.2 hS rfl hd (kk H locs ls hw hS h)
theorem Sm_bld (K : Ok G X own cc nL rt R) (hd : decode cc pc = .ok (.baload, 1)) {j : Nat} (hj : j < 15) {i : Int32} (hi : inb i (slen.getD j 0)) (kk : Sm G X w nc ns r (.int ((sbyt.getD j []).getD i.toNatClampNeg 0) :: st) (pc + 1)) : Sm G X w nc ns r (.int i :: .ref (sV j) :: st) pc := fun H locs ls hw hS h =>
  va_tb K.1 K.2.1 (K.2.2.2.2.2.2.1.2.2.2.2.1.1 j hj).2.2.2 hS (vp_inb hi) rfl hd (kk H locs ls hw hS h)
theorem Sm_gsS (K : Ok G X own cc nL rt R) (hd : decode cc pc = .ok (.getstatic idx, 3)) (hm : Cond.fieldLink (Rn own) idx "java/lang/String" "COMPACT_STRINGS" "Z" ∈ lg) (kk : Sm G X w nc ns r (.int 1 :: st) (pc + 3)) : Sm G X w nc ns r st pc := fun H locs ls hw hS h =>
  va_gets K.1 K.2.1 K.2.2.2.2.2.2.1.2.2.2.2.2.1 hS K.2.2.2.2.1 (K.2.2.2.2.2.1 _ hm) (fun _ h9 => h9) hd (kk H locs ls hw hS h)
theorem Sm_gsF (K : Ok G X own cc nL rt R) (hd : decode cc pc = .ok (.getstatic idx, 3)) (hm : Cond.fieldLink (Rn own) idx "jdk/internal/util/Preconditions" "SIOOBE_FORMATTER" "Ljava/util/function/BiFunction;" ∈ lg) (kk : ∀ v : Value, v.category = 1 → Sm G X w nc ns r (v :: st) (pc + 3)) : Sm G X w nc ns r st pc := fun H locs ls hw hS h => by
  rcases K.2.2.2.2.2.2.1.2.2.2.2.2.2.2 with z | z
  · exact va_gets K.1 K.2.1 z hS K.2.2.2.2.1 (K.2.2.2.2.2.1 _ hm) (fun _ h9 => h9) hd (kk .null rfl H locs ls hw hS h)
  · exact va_gets K.1 K.2.1 z hS K.2.2.2.2.1 (K.2.2.2.2.2.1 _ hm) (fun _ h9 => h9) hd (kk (.ref fA) rfl H locs ls hw hS h)
theorem Sm_i2c (K : Ok G X own cc nL rt R) (hd : decode cc pc = .ok (.i2c, 1)) {x : Int32} (kk : Sm G X w nc ns r (.int (x.toUInt32 % 65536).toInt32 :: st) (pc + 1)) : Sm G X w nc ns r (.int x :: st) pc := fun H locs ls hw hS h => lv_i2c K.1 K.2.1 hd rfl (kk H locs ls hw hS h)
theorem Sm_retn {ft : FieldType} (K : Ok G X own cc nL (some ft) R) {x : Int32} (hn : narrow ft (.int x) = .int x) (hQ : QQ G X (some (.int x)) w nc ns) (hd : decode cc pc = .ok (.ireturn, 1)) : Sm G X w nc ns r [.int x] pc := by
  intro H locs ls hw hS hl
  rw [hQ]
  exact W.zret K.1 K.2.1 K.2.2.1 hn (Qw_of K hw hS (v := some (.int x))) hS.2.2 hd K.2.2.2.2.2.2.2.1
variable {y : MethodName} {bytes : ByteArray} {maxL n : Nat} {ret : Option FieldType} {as : List Value} {v : Option Value}
theorem Sm_callT (K : Ok G X own cc nL rt R) (hd : decode cc pc = .ok (.invokevirtual idx, 3)) (hy : Cy y bytes maxL ret n) (hi : Cond.instanceMethod y ∈ lg) (hs : Cond.selects y.cls y y ∈ lg) (hl : Cond.methodLink (Rn own) idx y ∈ lg) (hR : rm.frames + 1 ≤ R.frames ∧ 8 + (maxL + 11) + rm.locals ≤ R.locals) {b : Nat} (hb : ∃ j, strIx b = some j) (hn : as.length = n) (hlen : r.length = nL) (hst : st0 = as.reverse ++ .ref b :: st) (hcat : ((st.map (rl G)).map fun v => v.category).sum ≤ 8) (hf : nc + rm.cells ≤ R.cells ∧ ns + rm.slots ≤ R.slots) (hM : Cn G y bytes maxL ret rm (.ref b :: as) w v w1) (kk : Sm G X w1 (nc + rm.cells) (ns + rm.slots) r (v.toList ++ st) (pc + 3)) (hyc : y.cls = "java/lang/String" := by rfl) : Sm G X w nc ns r st0 pc := by
  refine Sm_go (aa := (Value.ref (ad G b) :: as.map (rl G)).toArray) (fun H locs ls hw hS hl1 => ?_) kk
  subst hst
  rw [map_call]
  refine va_runV (cc := cc) (nL := nL) (Ts := lg) (own := Rn own) (C := y.cls) (As := as.map (rl G)) ⟨K.1, K.2.1, K.2.2.2.1, K.2.2.2.2.1, K.2.2.2.2.2.1⟩ hM ⟨Sm_callB K hy hl hR, K.2.2.2.2.2.1 _ hi, K.2.2.2.2.2.1 _ hs⟩ ⟨Pw_blind, ?_, fun U hU hW => ⟨rfl, Pw_of K hw hS hU hW⟩⟩ rfl (by rw [List.length_map]; exact hn) (hl1.1.trans hlen) rfl (lv_room hcat) hd (by rw [K.2.2.2.2.2.2.2.2.1]; exact hf)
  rw [hyc]
  obtain ⟨j, hj⟩ := hb
  obtain ⟨rfl, hj2⟩ := strIx_e hj
  exact vk_recv (i := j) K.2.2.2.2.2.2.1.2.2.2.2.1 hj2 hS
end SMX
theorem cn_T_coder {G : Gx} {j : Nat} (hj : j < 15) {w : A_W} : Cn G y_T_coder c_T_coder 1 (some .byte) rm_T_coder [.ref (sA j)] w (some (.int 0)) w := by
  refine Cn_of (own := 7) cy_T_coder rfl rfl (Nat.le_of_ble_eq_true rfl) rfl (fun X K _ hQ => ?_)
  refine Sm_gsS K (idx := 38) (by decide +kernel) (lgm 596 (by decide +kernel) rfl) ?_
  refine s_if_eq0 K (off := 10) (tgt := 13) (by decide +kernel) (by decide) (by decide) ?_
  refine s_aload_n K (k := 0) (by decide +kernel) rfl ?_
  refine Sm_gsC K (idx := 15) (by decide +kernel) (lgm 1217 (by decide +kernel) rfl) hj ?_
  refine s_goto K (off := 4) (tgt := 14) (by decide +kernel) (by decide) ?_
  exact Sm_retn K rfl hQ (by decide +kernel)
theorem cn_T_isLatin1 {G : Gx} {j : Nat} (hj : j < 15) {w : A_W} : Cn G y_T_isLatin1 c_T_isLatin1 1 (some .boolean) rm_T_isLatin1 [.ref (sA j)] w (some (.int 1)) w := by
  refine Cn_of (own := 7) cy_T_isLatin1 rfl rfl (Nat.le_of_ble_eq_true rfl) rfl (fun X K _ hQ => ?_)
  refine Sm_gsS K (idx := 38) (by decide +kernel) (lgm 596 (by decide +kernel) rfl) ?_
  refine s_if_eq0 K (off := 14) (tgt := 17) (by decide +kernel) (by decide) (by decide) ?_
  refine s_aload_n K (k := 0) (by decide +kernel) rfl ?_
  refine Sm_gsC K (idx := 15) (by decide +kernel) (lgm 1217 (by decide +kernel) rfl) hj ?_
  refine s_if_ne0 K (off := 7) (tgt := 17) (by decide +kernel) (by decide) rfl ?_
  refine s_iconst K (n := 1) (v := 1) (by decide +kernel) (by decide) ?_
  refine s_goto K (off := 4) (tgt := 18) (by decide +kernel) (by decide) ?_
  exact Sm_retn K rfl hQ (by decide +kernel)
theorem cn_T_length {G : Gx} {t : Nat} {w : A_W} {res : Int32 × A_W} (h : F_T_length t w = some res) : Cn G y_T_length c_T_length 1 (some .int) rm_T_length [.ref t] w (some (.int res.1)) res.2 := by
  obtain ⟨j, hj0⟩ := sx_length h
  unfold F_T_length at h
  rw [hj0] at h
  obtain rfl := Option.some.inj h
  obtain ⟨rfl, hj⟩ := strIx_e hj0
  refine Cn_of (own := 7) cy_T_length rfl rfl (Nat.le_of_ble_eq_true rfl) rfl (fun X K _ hQ => ?_)
  refine s_aload_n K (k := 0) (by decide +kernel) rfl ?_
  refine Sm_gsV K (idx := 9) (by decide +kernel) (lgm 1216 (by decide +kernel) rfl) hj ?_
  refine Sm_bal K (by decide +kernel) hj ?_
  refine s_aload_n K (k := 0) (by decide +kernel) rfl ?_
  refine Sm_callT K (idx := 335) (by decide +kernel) cy_T_coder im_T_coder se_T_coder (lgm 592 (by decide +kernel) rfl) ⟨Nat.le_of_ble_eq_true rfl, Nat.le_of_ble_eq_true rfl⟩ (as := []) (b := sA j) (st := [.int (Int32.ofNat (slen.getD j 0))]) (strIx_i hj) rfl rfl rfl (Nat.le_of_ble_eq_true rfl) ⟨Nat.le_of_ble_eq_true rfl, Nat.le_of_ble_eq_true rfl⟩ (cn_T_coder hj) ?_
  refine Sm_eq (st1 := [.int 0, .int (Int32.ofNat (slen.getD j 0))]) (nc1 := 0) (ns1 := 0) rfl rfl rfl ?_
  refine s_ishr K (by decide +kernel) ?_
  rw [shr_0]
  exact Sm_reti K hQ (by decide +kernel)
theorem cn_T_pre {G : Gx} {i n : Int32} {v : Value} (hv : v.category = 1) (h0 : ¬ i < 0) (h1 : i < n) {w : A_W} : Cn G y_T_pre c_T_pre 3 (some .int) rm_T_pre [.int i, .int n, v] w (some (.int i)) w := by
  refine Cn_of (own := 11) cy_T_pre rfl (by rw [List.all_cons, List.all_cons, List.all_cons, hv]; rfl) (Nat.le_of_ble_eq_true rfl) rfl (fun X K _ hQ => ?_)
  refine s_iload_n K (k := 0) (by decide +kernel) rfl ?_
  refine s_if_lt0 K (off := 8) (tgt := 9) (by decide +kernel) (by decide) h0 ?_
  refine s_iload_n K (k := 0) (by decide +kernel) rfl ?_
  refine s_iload_n K (k := 1) (by decide +kernel) rfl ?_
  refine s_ic_lt1 K (off := 10) (tgt := 16) (by decide +kernel) (by decide) h1 ?_
  refine s_iload_n K (k := 0) (by decide +kernel) rfl ?_
  exact Sm_reti K hQ (by decide +kernel)
theorem cn_T_check {G : Gx} {i n : Int32} (h0 : ¬ i < 0) (h1 : i < n) {w : A_W} : Cn G y_T_check c_T_check 2 none rm_T_check [.int i, .int n] w none w := by
  refine Cn_of (own := 7) cy_T_check rfl rfl (Nat.le_of_ble_eq_true rfl) rfl (fun X K _ hQ => ?_)
  refine s_iload_n K (k := 0) (by decide +kernel) rfl ?_
  refine s_iload_n K (k := 1) (by decide +kernel) rfl ?_
  refine Sm_gsF K (idx := 1053) (by decide +kernel) (lgm 612 (by decide +kernel) rfl) (fun v hv => ?_)
  refine Sm_callS K (idx := 1059) (by decide +kernel) cy_T_pre st_T_pre (lgm 614 (by decide +kernel) rfl) ⟨Nat.le_of_ble_eq_true rfl, Nat.le_of_ble_eq_true rfl⟩ (as := [.int i, .int n, v]) (st := []) rfl rfl rfl (Nat.le_of_ble_eq_true rfl) ⟨Nat.le_of_ble_eq_true rfl, Nat.le_of_ble_eq_true rfl⟩ (cn_T_pre hv h0 h1) ?_
  refine Sm_eq (st1 := [.int i]) (nc1 := 0) (ns1 := 0) rfl rfl rfl ?_
  refine s_pop K (by decide +kernel) rfl ?_
  exact Sm_retv K hQ (by decide +kernel)
theorem sb_ok : ∀ j, j < 15 → ∀ i, i < slen.getD j 0 → ((((sbyt.getD j []).getD i 0) &&& 255).toUInt32 % 65536).toInt32 = (sbyt.getD j []).getD i 0 ∧ narrow .char (.int ((sbyt.getD j []).getD i 0)) = .int ((sbyt.getD j []).getD i 0) := by decide +kernel
theorem sl_ok : ∀ j, j < 15 → slen.getD j 0 < 100 := by decide +kernel
theorem inb_lt {i : Int32} {n : Nat} (hn : n < 100) (h : inb i n) : i < Int32.ofNat n := by
  obtain ⟨k, hk, rfl⟩ := vp_in_of (vp_inb h) (by omega)
  exact nI_lt hk (by omega)
theorem cn_T_lat {G : Gx} {j : Nat} (hj : j < 15) {i : Int32} (hi : inb i (slen.getD j 0)) {w : A_W} : Cn G y_T_lat c_T_lat 2 (some .char) rm_T_lat [.ref (sV j), .int i] w (some (.int ((sbyt.getD j []).getD i.toNatClampNeg 0))) w := by
  refine Cn_of (own := 8) cy_T_lat rfl rfl (Nat.le_of_ble_eq_true rfl) rfl (fun X K _ hQ => ?_)
  refine s_iload_n K (k := 1) (by decide +kernel) rfl ?_
  refine s_aload_n K (k := 0) (by decide +kernel) rfl ?_
  refine Sm_bal K (by decide +kernel) hj ?_
  refine Sm_callS K (idx := 9) (by decide +kernel) cy_T_check st_T_check (lgm 609 (by decide +kernel) rfl) ⟨Nat.le_of_ble_eq_true rfl, Nat.le_of_ble_eq_true rfl⟩ (as := [.int i, .int (Int32.ofNat (slen.getD j 0))]) (st := []) rfl rfl rfl (Nat.le_of_ble_eq_true rfl) ⟨Nat.le_of_ble_eq_true rfl, Nat.le_of_ble_eq_true rfl⟩ (cn_T_check hi.1 (inb_lt (sl_ok j hj) hi)) ?_
  refine Sm_eq (st1 := []) (nc1 := 0) (ns1 := 0) rfl rfl rfl ?_
  refine s_aload_n K (k := 0) (by decide +kernel) rfl ?_
  refine s_iload_n K (k := 1) (by decide +kernel) rfl ?_
  refine Sm_bld K (by decide +kernel) hj hi ?_
  refine s_sipush K (n := 255) (v := 255) (by decide +kernel) (by decide) ?_
  refine s_iand K (by decide +kernel) ?_
  refine Sm_i2c K (by decide +kernel) ?_
  obtain ⟨e1, e2⟩ := sb_ok j hj _ hi.2
  rw [e1]
  exact Sm_retn K e2 hQ (by decide +kernel)
theorem cn_T_charAt {G : Gx} {t : Nat} {x1 : Int32} {w : A_W} {res : Int32 × A_W} (h : F_T_charAt t x1 w = some res) : Cn G y_T_charAt c_T_charAt 2 (some .char) rm_T_charAt [.ref t, .int x1] w (some (.int res.1)) res.2 := by
  obtain ⟨j, hj0⟩ := sx_charAt h
  unfold F_T_charAt at h
  rw [hj0] at h
  dsimp only at h
  obtain ⟨rfl, hj⟩ := strIx_e hj0
  split at h
  · rename_i hi
    obtain rfl := Option.some.inj h
    refine Cn_of (own := 7) cy_T_charAt rfl rfl (Nat.le_of_ble_eq_true rfl) rfl (fun X K _ hQ => ?_)
    refine s_aload_n K (k := 0) (by decide +kernel) rfl ?_
    refine Sm_callT K (idx := 492) (by decide +kernel) cy_T_isLatin1 im_T_isLatin1 se_T_isLatin1 (lgm 602 (by decide +kernel) rfl) ⟨Nat.le_of_ble_eq_true rfl, Nat.le_of_ble_eq_true rfl⟩ (as := []) (b := sA j) (st := []) (strIx_i hj) rfl rfl rfl (Nat.le_of_ble_eq_true rfl) ⟨Nat.le_of_ble_eq_true rfl, Nat.le_of_ble_eq_true rfl⟩ (cn_T_isLatin1 hj) ?_
    refine Sm_eq (st1 := [.int 1]) (nc1 := 0) (ns1 := 0) rfl rfl rfl ?_
    refine s_if_eq0 K (off := 12) (tgt := 16) (by decide +kernel) (by decide) (by decide) ?_
    refine s_aload_n K (k := 0) (by decide +kernel) rfl ?_
    refine Sm_gsV K (idx := 9) (by decide +kernel) (lgm 1216 (by decide +kernel) rfl) hj ?_
    refine s_iload_n K (k := 1) (by decide +kernel) rfl ?_
    refine Sm_callS K (idx := 495) (by decide +kernel) cy_T_lat st_T_lat (lgm 606 (by decide +kernel) rfl) ⟨Nat.le_of_ble_eq_true rfl, Nat.le_of_ble_eq_true rfl⟩ (as := [.ref (sV j), .int x1]) (st := []) rfl rfl rfl (Nat.le_of_ble_eq_true rfl) ⟨Nat.le_of_ble_eq_true rfl, Nat.le_of_ble_eq_true rfl⟩ (cn_T_lat hj hi) ?_
    refine Sm_eq (st1 := [.int ((sbyt.getD j []).getD x1.toNatClampNeg 0)]) (nc1 := 0) (ns1 := 0) rfl rfl rfl ?_
    exact Sm_retn K (sb_ok j hj _ hi.2).2 hQ (by decide +kernel)
  · cases h
