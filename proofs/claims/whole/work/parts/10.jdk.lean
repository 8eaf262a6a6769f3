/-! java/lang/Integer.bitCount(I)I -/
abbrev c_JI_bitCount : ByteArray := prog_7_method_49_code
def y_JI_bitCount : MethodName := ⟨"java/lang/Integer", "bitCount", "(I)I"⟩
def rm_JI_bitCount : Room := { frames := 0, cells := 0, slots := 0, locals := 0 }
theorem cy_JI_bitCount : Cy y_JI_bitCount c_JI_bitCount 1 (some .int) 1 := ⟨lgm 496 (by decide +kernel) rfl, lgm 76 (by decide +kernel) rfl, by decide +kernel, by decide +kernel⟩
theorem st_JI_bitCount : Cond.static y_JI_bitCount ∈ lg := lgm 495 (by decide +kernel) rfl
def e_JI_bitCount : List Ent := [
  (0, .iload_n 0, 1, 1, .null, 0, 0, 0),
  (1, .iload_n 0, 1, 2, .null, 0, 0, 0),
  (2, .iconst 1, 1, 3, .int 1, 0, 0, 0),
  (3, .iushr, 1, 4, .null, 0, 0, 0),
  (4, .ldc_w 265, 3, 7, .int 1431655765, 0, 0, 497),
  (7, .iand, 1, 8, .null, 0, 0, 0),
  (8, .isub, 1, 9, .null, 0, 0, 0),
  (9, .istore_n 0, 1, 10, .null, 0, 0, 0),
  (10, .iload_n 0, 1, 11, .null, 0, 0, 0),
  (11, .ldc_w 266, 3, 14, .int 858993459, 0, 0, 498),
  (14, .iand, 1, 15, .null, 0, 0, 0),
  (15, .iload_n 0, 1, 16, .null, 0, 0, 0),
  (16, .iconst 2, 1, 17, .int 2, 0, 0, 0),
  (17, .iushr, 1, 18, .null, 0, 0, 0),
  (18, .ldc_w 266, 3, 21, .int 858993459, 0, 0, 498),
  (21, .iand, 1, 22, .null, 0, 0, 0),
  (22, .iadd, 1, 23, .null, 0, 0, 0),
  (23, .istore_n 0, 1, 24, .null, 0, 0, 0),
  (24, .iload_n 0, 1, 25, .null, 0, 0, 0),
  (25, .iload_n 0, 1, 26, .null, 0, 0, 0),
  (26, .iconst 4, 1, 27, .int 4, 0, 0, 0),
  (27, .iushr, 1, 28, .null, 0, 0, 0),
  (28, .iadd, 1, 29, .null, 0, 0, 0),
  (29, .ldc_w 267, 3, 32, .int 252645135, 0, 0, 499),
  (32, .iand, 1, 33, .null, 0, 0, 0),
  (33, .istore_n 0, 1, 34, .null, 0, 0, 0),
  (34, .iload_n 0, 1, 35, .null, 0, 0, 0),
  (35, .iload_n 0, 1, 36, .null, 0, 0, 0),
  (36, .bipush 8, 2, 38, .int 8, 0, 0, 0),
  (38, .iushr, 1, 39, .null, 0, 0, 0),
  (39, .iadd, 1, 40, .null, 0, 0, 0),
  (40, .istore_n 0, 1, 41, .null, 0, 0, 0),
  (41, .iload_n 0, 1, 42, .null, 0, 0, 0),
  (42, .iload_n 0, 1, 43, .null, 0, 0, 0),
  (43, .bipush 16, 2, 45, .int 16, 0, 0, 0),
  (45, .iushr, 1, 46, .null, 0, 0, 0),
  (46, .iadd, 1, 47, .null, 0, 0, 0),
  (47, .istore_n 0, 1, 48, .null, 0, 0, 0),
  (48, .iload_n 0, 1, 49, .null, 0, 0, 0),
  (49, .bipush 63, 2, 51, .int 63, 0, 0, 0),
  (51, .iand, 1, 52, .null, 0, 0, 0),
  (52, .ireturn, 1, 53, .null, 0, 0, 0)]
set_option maxRecDepth 100000 in
theorem ek_JI_bitCount : e_JI_bitCount.all (eok 5 c_JI_bitCount) = true := by decide +kernel
def F_JI_bitCount_0 (x0 : Int32) (w : A_W) : Option (Int32 × A_W) :=
  some (((((((((x0 - ((Int32.toUInt32 x0 >>> (Int32.toUInt32 1 &&& Int32.toUInt32 31)).toInt32 &&& 1431655765)) &&& 858993459) + ((Int32.toUInt32 (x0 - ((Int32.toUInt32 x0 >>> (Int32.toUInt32 1 &&& Int32.toUInt32 31)).toInt32 &&& 1431655765)) >>> (Int32.toUInt32 2 &&& Int32.toUInt32 31)).toInt32 &&& 858993459)) + (Int32.toUInt32 (((x0 - ((Int32.toUInt32 x0 >>> (Int32.toUInt32 1 &&& Int32.toUInt32 31)).toInt32 &&& 1431655765)) &&& 858993459) + ((Int32.toUInt32 (x0 - ((Int32.toUInt32 x0 >>> (Int32.toUInt32 1 &&& Int32.toUInt32 31)).toInt32 &&& 1431655765)) >>> (Int32.toUInt32 2 &&& Int32.toUInt32 31)).toInt32 &&& 858993459)) >>> (Int32.toUInt32 4 &&& Int32.toUInt32 31)).toInt32) &&& 252645135) + (Int32.toUInt32 (((((x0 - ((Int32.toUInt32 x0 >>> (Int32.toUInt32 1 &&& Int32.toUInt32 31)).toInt32 &&& 1431655765)) &&& 858993459) + ((Int32.toUInt32 (x0 - ((Int32.toUInt32 x0 >>> (Int32.toUInt32 1 &&& Int32.toUInt32 31)).toInt32 &&& 1431655765)) >>> (Int32.toUInt32 2 &&& Int32.toUInt32 31)).toInt32 &&& 858993459)) + (Int32.toUInt32 (((x0 - ((Int32.toUInt32 x0 >>> (Int32.toUInt32 1 &&& Int32.toUInt32 31)).toInt32 &&& 1431655765)) &&& 858993459) + ((Int32.toUInt32 (x0 - ((Int32.toUInt32 x0 >>> (Int32.toUInt32 1 &&& Int32.toUInt32 31)).toInt32 &&& 1431655765)) >>> (Int32.toUInt32 2 &&& Int32.toUInt32 31)).toInt32 &&& 858993459)) >>> (Int32.toUInt32 4 &&& Int32.toUInt32 31)).toInt32) &&& 252645135) >>> (Int32.toUInt32 8 &&& Int32.toUInt32 31)).toInt32) + (Int32.toUInt32 ((((((x0 - ((Int32.toUInt32 x0 >>> (Int32.toUInt32 1 &&& Int32.toUInt32 31)).toInt32 &&& 1431655765)) &&& 858993459) + ((Int32.toUInt32 (x0 - ((Int32.toUInt32 x0 >>> (Int32.toUInt32 1 &&& Int32.toUInt32 31)).toInt32 &&& 1431655765)) >>> (Int32.toUInt32 2 &&& Int32.toUInt32 31)).toInt32 &&& 858993459)) + (Int32.toUInt32 (((x0 - ((Int32.toUInt32 x0 >>> (Int32.toUInt32 1 &&& Int32.toUInt32 31)).toInt32 &&& 1431655765)) &&& 858993459) + ((Int32.toUInt32 (x0 - ((Int32.toUInt32 x0 >>> (Int32.toUInt32 1 &&& Int32.toUInt32 31)).toInt32 &&& 1431655765)) >>> (Int32.toUInt32 2 &&& Int32.toUInt32 31)).toInt32 &&& 858993459)) >>> (Int32.toUInt32 4 &&& Int32.toUInt32 31)).toInt32) &&& 252645135) + (Int32.toUInt32 (((((x0 - ((Int32.toUInt32 x0 >>> (Int32.toUInt32 1 &&& Int32.toUInt32 31)).toInt32 &&& 1431655765)) &&& 858993459) + ((Int32.toUInt32 (x0 - ((Int32.toUInt32 x0 >>> (Int32.toUInt32 1 &&& Int32.toUInt32 31)).toInt32 &&& 1431655765)) >>> (Int32.toUInt32 2 &&& Int32.toUInt32 31)).toInt32 &&& 858993459)) + (Int32.toUInt32 (((x0 - ((Int32.toUInt32 x0 >>> (Int32.toUInt32 1 &&& Int32.toUInt32 31)).toInt32 &&& 1431655765)) &&& 858993459) + ((Int32.toUInt32 (x0 - ((Int32.toUInt32 x0 >>> (Int32.toUInt32 1 &&& Int32.toUInt32 31)).toInt32 &&& 1431655765)) >>> (Int32.toUInt32 2 &&& Int32.toUInt32 31)).toInt32 &&& 858993459)) >>> (Int32.toUInt32 4 &&& Int32.toUInt32 31)).toInt32) &&& 252645135) >>> (Int32.toUInt32 8 &&& Int32.toUInt32 31)).toInt32) >>> (Int32.toUInt32 16 &&& Int32.toUInt32 31)).toInt32) &&& 63), w)
set_option maxHeartbeats 4000000 in
set_option maxRecDepth 100000 in
theorem s_JI_bitCount_0 {G : Gx} {X : Cx} {res : Int32 × A_W} (K : Ok G X 5 c_JI_bitCount 1 (some .int) rm_JI_bitCount) (hQ : QQ G X (some (.int res.1)) res.2 0 0) (x0 : Int32) (w : A_W) (h : F_JI_bitCount_0 x0 w = some res) : Sm G X w 0 0 [some (.int x0)] [] 0 := by
  unfold F_JI_bitCount_0 at h
  refine Sm_run K ek_JI_bitCount 0 41 rfl ?_
  obtain rfl := Option.some.inj h
  exact Sm_reti K hQ (eok_i (eo ek_JI_bitCount (i := 41) rfl) rfl)
def F_JI_bitCount (x0 : Int32) (w : A_W) : Option (Int32 × A_W) := F_JI_bitCount_0 x0 w
theorem cn_JI_bitCount {G : Gx} {x0 : Int32} {w : A_W} {res : Int32 × A_W} (h : F_JI_bitCount x0 w = some res) : Cn G y_JI_bitCount c_JI_bitCount 1 (some .int) rm_JI_bitCount [.int x0] w (some (.int res.1)) res.2 :=
  Cn_of (own := 5) cy_JI_bitCount rfl rfl (Nat.le_of_ble_eq_true rfl) rfl (fun X K _ hQ => Sm_le (leR_s leR_nil) (s_JI_bitCount_0 K hQ _ _ h))
/-! java/util/Arrays.fill([II)V -/
abbrev c_JA_fill : ByteArray := prog_13_method_103_code
def y_JA_fill : MethodName := ⟨"java/util/Arrays", "fill", "([II)V"⟩
def rm_JA_fill : Room := { frames := 0, cells := 0, slots := 0, locals := 0 }
theorem cy_JA_fill : Cy y_JA_fill c_JA_fill 4 (none) 2 := ⟨lgm 97 (by decide +kernel) rfl, lgm 70 (by decide +kernel) rfl, by decide +kernel, by decide +kernel⟩
theorem st_JA_fill : Cond.static y_JA_fill ∈ lg := lgm 96 (by decide +kernel) rfl
def e_JA_fill : List Ent := [
  (0, .iconst 0, 1, 1, .int 0, 0, 0, 0),
  (1, .istore_n 2, 1, 2, .null, 0, 0, 0),
  (2, .aload_n 0, 1, 3, .null, 0, 0, 0),
  (3, .arraylength, 1, 4, .null, 0, 0, 0),
  (4, .istore_n 3, 1, 5, .null, 0, 0, 0),
  (5, .iload_n 2, 1, 6, .null, 0, 0, 0),
  (6, .iload_n 3, 1, 7, .null, 0, 0, 0),
  (7, .if_icmp .ge 13, 3, 20, .null, 0, 0, 0),
  (10, .aload_n 0, 1, 11, .null, 0, 0, 0),
  (11, .iload_n 2, 1, 12, .null, 0, 0, 0),
  (12, .iload_n 1, 1, 13, .null, 0, 0, 0),
  (13, .iastore, 1, 14, .null, 0, 0, 0),
  (14, .iinc 2 1, 3, 17, .int 1, 0, 0, 0),
  (17, .goto (-12), 3, 5, .null, 0, 0, 0),
  (20, .return_, 1, 21, .null, 0, 0, 0)]
set_option maxRecDepth 100000 in
theorem ek_JA_fill : e_JA_fill.all (eok 6 c_JA_fill) = true := by decide +kernel
def F_JA_fill_5 : Nat → Nat → Int32 → Int32 → Int32 → A_W → Option (A_W)
  | 0, _, _, _, _, _ => none
  | n + 1, x0, x1, x2, x3, w =>
    if x3 ≤ x2 then
      some w
    else
      (wr w x0 x2 x1).bind fun w2 =>
      F_JA_fill_5 n x0 x1 (x2 + 1) x3 w2
def F_JA_fill_0 (x0 : Nat) (x1 : Int32) (w : A_W) : Option (A_W) :=
  (al w x0).bind fun v1 =>
  F_JA_fill_5 FU x0 x1 0 v1 w
set_option maxHeartbeats 4000000 in
set_option maxRecDepth 100000 in
theorem s_JA_fill_5 {G : Gx} {X : Cx} {res : A_W} (K : Ok G X 6 c_JA_fill 4 (none) rm_JA_fill) (hQ : QQ G X none res 0 0) : ∀ (n : Nat) (x0 : Nat) (x1 : Int32) (x2 : Int32) (x3 : Int32) (w : A_W), F_JA_fill_5 n x0 x1 x2 x3 w = some res → Sm G X w 0 0 [some (.ref x0), some (.int x1), some (.int x2), some (.int x3)] [] 5 := by
  intro n
  induction n with
  | zero => intro x0 x1 x2 x3 w h; cases h
  | succ n ih =>
    intro x0 x1 x2 x3 w h
    rw [F_JA_fill_5] at h
    refine Sm_run K ek_JA_fill 5 2 rfl ?_
    refine Sm_ic_ge K (eo ek_JA_fill (i := 7) rfl) (fun c1 => ?_) (fun c1 => ?_)
    · rw [if_pos c1] at h
      obtain rfl := Option.some.inj h
      exact Sm_retv K hQ (eok_i (eo ek_JA_fill (i := 14) rfl) rfl)
    · rw [if_neg c1] at h
      refine Sm_run K ek_JA_fill 8 3 rfl ?_
      obtain ⟨w2, e_w2, h⟩ := Option.bind_eq_some_iff.mp h
      refine Sm_wr K (eok_i (eo ek_JA_fill (i := 11) rfl) rfl) e_w2 ?_
      refine Sm_run K ek_JA_fill 12 2 rfl ?_
      exact Sm_le (leR_s (leR_s (leR_s (leR_s leR_nil)))) (ih _ _ _ _ _ h)
set_option maxHeartbeats 4000000 in
set_option maxRecDepth 100000 in
theorem s_JA_fill_0 {G : Gx} {X : Cx} {res : A_W} (K : Ok G X 6 c_JA_fill 4 (none) rm_JA_fill) (hQ : QQ G X none res 0 0) (x0 : Nat) (x1 : Int32) (w : A_W) (h : F_JA_fill_0 x0 x1 w = some res) : Sm G X w 0 0 [some (.ref x0), some (.int x1), none, none] [] 0 := by
  unfold F_JA_fill_0 at h
  refine Sm_run K ek_JA_fill 0 3 rfl ?_
  obtain ⟨v1, e_v1, h⟩ := Option.bind_eq_some_iff.mp h
  refine Sm_al K (eok_i (eo ek_JA_fill (i := 3) rfl) rfl) e_v1 ?_
  refine Sm_run K ek_JA_fill 4 1 rfl ?_
  exact Sm_le (leR_s (leR_s (leR_s (leR_s leR_nil)))) (s_JA_fill_5 K hQ FU _ _ _ _ _ h)
def F_JA_fill (x0 : Nat) (x1 : Int32) (w : A_W) : Option (A_W) := F_JA_fill_0 x0 x1 w
theorem cn_JA_fill {G : Gx} {x0 : Nat} {x1 : Int32} {w : A_W} {res : A_W} (h : F_JA_fill x0 x1 w = some res) : Cn G y_JA_fill c_JA_fill 4 (none) rm_JA_fill [.ref x0, .int x1] w none res :=
  Cn_of (own := 6) cy_JA_fill rfl rfl (Nat.le_of_ble_eq_true rfl) rfl (fun X K _ hQ => Sm_le (leR_s (leR_s (leR_n (leR_n leR_nil)))) (s_JA_fill_0 K hQ _ _ _ h))
