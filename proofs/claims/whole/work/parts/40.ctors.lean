/-! THE CONSTRUCTORS -/
def nO (w : A_W) (e : A_E) : Option A_W := if w.length < 1000000 then some (w ++ [e]) else none
theorem nO_e {w w1 : A_W} {e : A_E} (h : nO w e = some w1) : w.length < 1000000 ∧ w1 = w ++ [e] := by
  unfold nO at h
  split at h
  · rename_i hl; cases h; exact ⟨hl, rfl⟩
  · cases h
theorem oi_im : Cond.instanceMethod Lib.objectInit ∈ lg := lgm 87 (by decide +kernel) rfl
theorem oi_co : Cond.code Lib.objectInit ⟨#[0xb1]⟩ 1 none ∈ lg := lgm 88 (by decide +kernel) rfl
theorem ar_int : Cond.arrayClass .int ∈ lg := lgm 170 (by decide +kernel) rfl
theorem nw0 {G : Gx} : ∀ j, j < Nn 0 → defaultValue (tyn 0 j) = vp_V (([.null, .null, .null, .int 0, .null, .null, .null] : List Value).map (rl G)) j := by
  intro j hj
  have hj : j < 7 := hj
  rcases (show j = 0 ∨ j = 1 ∨ j = 2 ∨ j = 3 ∨ j = 4 ∨ j = 5 ∨ j = 6 by omega) with rfl | rfl | rfl | rfl | rfl | rfl | rfl <;> rfl
theorem nw1 {G : Gx} : ∀ j, j < Nn 1 → defaultValue (tyn 1 j) = vp_V (([.null, .int 0, .int 0, .int 0, .int 0, .int 0] : List Value).map (rl G)) j := by
  intro j hj
  have hj : j < 6 := hj
  rcases (show j = 0 ∨ j = 1 ∨ j = 2 ∨ j = 3 ∨ j = 4 ∨ j = 5 by omega) with rfl | rfl | rfl | rfl | rfl | rfl <;> rfl
theorem nw2 {G : Gx} : ∀ j, j < Nn 2 → defaultValue (tyn 2 j) = vp_V (([.int 0, .int 0, .int 0, .int 0, .int 0, .null, .null, .null, .null, .null, .null, .null, .null, .null, .null, .null] : List Value).map (rl G)) j := by
  intro j hj
  have hj : j < 16 := hj
  rcases (show j = 0 ∨ j = 1 ∨ j = 2 ∨ j = 3 ∨ j = 4 ∨ j = 5 ∨ j = 6 ∨ j = 7 ∨ j = 8 ∨ j = 9 ∨ j = 10 ∨ j = 11 ∨ j = 12 ∨ j = 13 ∨ j = 14 ∨ j = 15 by omega) with rfl | rfl | rfl | rfl | rfl | rfl | rfl | rfl | rfl | rfl | rfl | rfl | rfl | rfl | rfl | rfl <;> rfl
theorem nw3 {G : Gx} : ∀ j, j < Nn 3 → defaultValue (tyn 3 j) = vp_V (([.int 0, .int 0, .null] : List Value).map (rl G)) j := by
  intro j hj
  have hj : j < 3 := hj
  rcases (show j = 0 ∨ j = 1 ∨ j = 2 by omega) with rfl | rfl | rfl <;> rfl
theorem nw4 {G : Gx} : ∀ j, j < Nn 4 → defaultValue (tyn 4 j) = vp_V (([.null, .null, .null, .int 0, .null, .null, .null, .null, .null, .int 0, .int 0, .int 0, .int 0, .int 0, .int 0] : List Value).map (rl G)) j := by
  intro j hj
  have hj : j < 15 := hj
  rcases (show j = 0 ∨ j = 1 ∨ j = 2 ∨ j = 3 ∨ j = 4 ∨ j = 5 ∨ j = 6 ∨ j = 7 ∨ j = 8 ∨ j = 9 ∨ j = 10 ∨ j = 11 ∨ j = 12 ∨ j = 13 ∨ j = 14 by omega) with rfl | rfl | rfl | rfl | rfl | rfl | rfl | rfl | rfl | rfl | rfl | rfl | rfl | rfl | rfl <;> rfl
abbrev c_S_init : ByteArray := prog_4_method_1_code
def y_S_init : MethodName := ⟨"EveningCloak$Sheet", "<init>", "()V"⟩
def rm_S_init : Room := { frames := 1, cells := 1, slots := 40, locals := 20 }
theorem cy_S_init : Cy y_S_init c_S_init 1 (none) 0 := ⟨lgm 202 (by decide +kernel) rfl, lgm 72 (by decide +kernel) rfl, by decide +kernel, by decide +kernel⟩
theorem im_S_init : Cond.instanceMethod y_S_init ∈ lg := lgm 201 (by decide +kernel) rfl
def e_S_init : List Ent := [
  (0, .aload_n 0, 1, 1, .null, 0, 0, 0),
  (1, .invokespecial 3, 3, 4, .null, 0, 0, 0),
  (4, .aload_n 0, 1, 5, .null, 0, 0, 0),
  (5, .bipush 40, 2, 7, .int 40, 0, 0, 0),
  (7, .newarray .int, 2, 9, .null, 0, 0, 0),
  (9, .putfield 9, 3, 12, .null, 3, 2, 208),
  (12, .return_, 1, 13, .null, 0, 0, 0)]
set_option maxRecDepth 100000 in
theorem ek_S_init : e_S_init.all (eok 3 c_S_init) = true := by decide +kernel
def F_S_init (t : Nat) (w : A_W) : Option A_W :=
  (nO w (.inl (40, fun _ => 0))).bind fun w1 =>
  (pf w1 t 3 2 (.ref (List.length w))).bind fun w2 =>
  some w2
set_option maxHeartbeats 4000000 in
set_option maxRecDepth 100000 in
theorem cn_S_init {G : Gx} {t : Nat} {w : A_W} {res : A_W} (h : F_S_init t w = some res) : Cn G y_S_init c_S_init 1 none rm_S_init [.ref t] w none res := by
  refine Cn_of (own := 3) cy_S_init rfl rfl (Nat.le_of_ble_eq_true rfl) rfl (fun X K hn hQ => ?_)
  unfold F_S_init at h
  refine Sm_run K ek_S_init 0 1 rfl ?_
  refine Sm_objInit K (eok_i (eo ek_S_init (i := 1) rfl) rfl) (lgm 203 (by decide +kernel) rfl) oi_im oi_co rfl (Nat.le_of_ble_eq_true rfl) (Nat.le_of_ble_eq_true rfl) ?_
  refine Sm_run K ek_S_init 2 2 rfl ?_
  obtain ⟨w1, e_w1, h⟩ := Option.bind_eq_some_iff.mp h
  obtain ⟨l_w1, rfl⟩ := nO_e e_w1
  refine Sm_na K (eok_i (eo ek_S_init (i := 4) rfl) rfl) ar_int (n := 40) (N := 40) (by decide) (by decide) (by decide) l_w1 (Nat.le_of_ble_eq_true rfl) (Nat.le_of_ble_eq_true rfl) ?_
  refine Sm_eq (st1 := [.ref (List.length w), .ref t]) (nc1 := 1) (ns1 := 40) rfl rfl rfl ?_
  obtain ⟨w2, e_w2, h⟩ := Option.bind_eq_some_iff.mp h
  refine Sm_pF K hn (eo ek_S_init (i := 5) rfl) rfl rfl e_w2 rfl rfl ?_
  obtain rfl := Option.some.inj h
  exact Sm_retv K hQ (eok_i (eo ek_S_init (i := 6) rfl) rfl)
abbrev c_D_init : ByteArray := prog_2_method_1_code
def y_D_init : MethodName := ⟨"EveningCloak$Reader", "<init>", "()V"⟩
def rm_D_init : Room := { frames := 1, cells := 1, slots := 120, locals := 20 }
theorem cy_D_init : Cy y_D_init c_D_init 1 (none) 0 := ⟨lgm 175 (by decide +kernel) rfl, lgm 71 (by decide +kernel) rfl, by decide +kernel, by decide +kernel⟩
theorem im_D_init : Cond.instanceMethod y_D_init ∈ lg := lgm 174 (by decide +kernel) rfl
def e_D_init : List Ent := [
  (0, .aload_n 0, 1, 1, .null, 0, 0, 0),
  (1, .invokespecial 3, 3, 4, .null, 0, 0, 0),
  (4, .aload_n 0, 1, 5, .null, 0, 0, 0),
  (5, .bipush 120, 2, 7, .int 120, 0, 0, 0),
  (7, .newarray .int, 2, 9, .null, 0, 0, 0),
  (9, .putfield 9, 3, 12, .null, 1, 0, 177),
  (12, .return_, 1, 13, .null, 0, 0, 0)]
set_option maxRecDepth 100000 in
theorem ek_D_init : e_D_init.all (eok 1 c_D_init) = true := by decide +kernel
def F_D_init (t : Nat) (w : A_W) : Option A_W :=
  (nO w (.inl (120, fun _ => 0))).bind fun w1 =>
  (pf w1 t 1 0 (.ref (List.length w))).bind fun w2 =>
  some w2
set_option maxHeartbeats 4000000 in
set_option maxRecDepth 100000 in
theorem cn_D_init {G : Gx} {t : Nat} {w : A_W} {res : A_W} (h : F_D_init t w = some res) : Cn G y_D_init c_D_init 1 none rm_D_init [.ref t] w none res := by
  refine Cn_of (own := 1) cy_D_init rfl rfl (Nat.le_of_ble_eq_true rfl) rfl (fun X K hn hQ => ?_)
  unfold F_D_init at h
  refine Sm_run K ek_D_init 0 1 rfl ?_
  refine Sm_objInit K (eok_i (eo ek_D_init (i := 1) rfl) rfl) (lgm 176 (by decide +kernel) rfl) oi_im oi_co rfl (Nat.le_of_ble_eq_true rfl) (Nat.le_of_ble_eq_true rfl) ?_
  refine Sm_run K ek_D_init 2 2 rfl ?_
  obtain ⟨w1, e_w1, h⟩ := Option.bind_eq_some_iff.mp h
  obtain ⟨l_w1, rfl⟩ := nO_e e_w1
  refine Sm_na K (eok_i (eo ek_D_init (i := 4) rfl) rfl) ar_int (n := 120) (N := 120) (by decide) (by decide) (by decide) l_w1 (Nat.le_of_ble_eq_true rfl) (Nat.le_of_ble_eq_true rfl) ?_
  refine Sm_eq (st1 := [.ref (List.length w), .ref t]) (nc1 := 1) (ns1 := 120) rfl rfl rfl ?_
  obtain ⟨w2, e_w2, h⟩ := Option.bind_eq_some_iff.mp h
  refine Sm_pF K hn (eo ek_D_init (i := 5) rfl) rfl rfl e_w2 rfl rfl ?_
  obtain rfl := Option.some.inj h
  exact Sm_retv K hQ (eok_i (eo ek_D_init (i := 6) rfl) rfl)
abbrev c_R_init : ByteArray := prog_3_method_1_code
def y_R_init : MethodName := ⟨"EveningCloak$Room", "<init>", "()V"⟩
def rm_R_init : Room := { frames := 1, cells := 11, slots := 82, locals := 23 }
theorem cy_R_init : Cy y_R_init c_R_init 1 (none) 0 := ⟨lgm 93 (by decide +kernel) rfl, lgm 69 (by decide +kernel) rfl, by decide +kernel, by decide +kernel⟩
theorem im_R_init : Cond.instanceMethod y_R_init ∈ lg := lgm 92 (by decide +kernel) rfl
def e_R_init : List Ent := [
  (0, .aload_n 0, 1, 1, .null, 0, 0, 0),
  (1, .invokespecial 3, 3, 4, .null, 0, 0, 0),
  (4, .aload_n 0, 1, 5, .null, 0, 0, 0),
  (5, .iconst 1, 1, 6, .int 1, 0, 0, 0),
  (6, .putfield 9, 3, 9, .null, 2, 2, 102),
  (9, .aload_n 0, 1, 10, .null, 0, 0, 0),
  (10, .bipush 6, 2, 12, .int 6, 0, 0, 0),
  (12, .newarray .int, 2, 14, .null, 0, 0, 0),
  (14, .putfield 15, 3, 17, .null, 2, 5, 110),
  (17, .aload_n 0, 1, 18, .null, 0, 0, 0),
  (18, .bipush 8, 2, 20, .int 8, 0, 0, 0),
  (20, .newarray .int, 2, 22, .null, 0, 0, 0),
  (22, .putfield 19, 3, 25, .null, 2, 6, 113),
  (25, .aload_n 0, 1, 26, .null, 0, 0, 0),
  (26, .bipush 8, 2, 28, .int 8, 0, 0, 0),
  (28, .newarray .int, 2, 30, .null, 0, 0, 0),
  (30, .putfield 22, 3, 33, .null, 2, 7, 115),
  (33, .aload_n 0, 1, 34, .null, 0, 0, 0),
  (34, .bipush 8, 2, 36, .int 8, 0, 0, 0),
  (36, .newarray .int, 2, 38, .null, 0, 0, 0),
  (38, .putfield 25, 3, 41, .null, 2, 8, 117),
  (41, .aload_n 0, 1, 42, .null, 0, 0, 0),
  (42, .bipush 8, 2, 44, .int 8, 0, 0, 0),
  (44, .newarray .int, 2, 46, .null, 0, 0, 0),
  (46, .putfield 28, 3, 49, .null, 2, 9, 120),
  (49, .aload_n 0, 1, 50, .null, 0, 0, 0),
  (50, .bipush 8, 2, 52, .int 8, 0, 0, 0),
  (52, .newarray .int, 2, 54, .null, 0, 0, 0),
  (54, .putfield 31, 3, 57, .null, 2, 10, 122),
  (57, .aload_n 0, 1, 58, .null, 0, 0, 0),
  (58, .bipush 8, 2, 60, .int 8, 0, 0, 0),
  (60, .newarray .int, 2, 62, .null, 0, 0, 0),
  (62, .putfield 34, 3, 65, .null, 2, 11, 125),
  (65, .aload_n 0, 1, 66, .null, 0, 0, 0),
  (66, .bipush 6, 2, 68, .int 6, 0, 0, 0),
  (68, .newarray .int, 2, 70, .null, 0, 0, 0),
  (70, .putfield 37, 3, 73, .null, 2, 12, 128),
  (73, .aload_n 0, 1, 74, .null, 0, 0, 0),
  (74, .bipush 6, 2, 76, .int 6, 0, 0, 0),
  (76, .newarray .int, 2, 78, .null, 0, 0, 0),
  (78, .putfield 40, 3, 81, .null, 2, 13, 130),
  (81, .aload_n 0, 1, 82, .null, 0, 0, 0),
  (82, .bipush 6, 2, 84, .int 6, 0, 0, 0),
  (84, .newarray .int, 2, 86, .null, 0, 0, 0),
  (86, .putfield 43, 3, 89, .null, 2, 14, 133),
  (89, .aload_n 0, 1, 90, .null, 0, 0, 0),
  (90, .bipush 10, 2, 92, .int 10, 0, 0, 0),
  (92, .newarray .int, 2, 94, .null, 0, 0, 0),
  (94, .putfield 46, 3, 97, .null, 2, 15, 135),
  (97, .aload_n 0, 1, 98, .null, 0, 0, 0),
  (98, .getfield 46, 3, 101, .null, 2, 15, 135),
  (101, .iconst (-1), 1, 102, .int (-1), 0, 0, 0),
  (102, .invokestatic 49, 3, 105, .null, 0, 0, 0),
  (105, .return_, 1, 106, .null, 0, 0, 0)]
set_option maxRecDepth 100000 in
theorem ek_R_init : e_R_init.all (eok 2 c_R_init) = true := by decide +kernel
def F_R_init (t : Nat) (w : A_W) : Option A_W :=
  (pf w t 2 2 (.int 1)).bind fun w1 =>
  (nO w1 (.inl (6, fun _ => 0))).bind fun w2 =>
  (pf w2 t 2 5 (.ref (List.length w1))).bind fun w3 =>
  (nO w3 (.inl (8, fun _ => 0))).bind fun w4 =>
  (pf w4 t 2 6 (.ref (List.length w3))).bind fun w5 =>
  (nO w5 (.inl (8, fun _ => 0))).bind fun w6 =>
  (pf w6 t 2 7 (.ref (List.length w5))).bind fun w7 =>
  (nO w7 (.inl (8, fun _ => 0))).bind fun w8 =>
  (pf w8 t 2 8 (.ref (List.length w7))).bind fun w9 =>
  (nO w9 (.inl (8, fun _ => 0))).bind fun w10 =>
  (pf w10 t 2 9 (.ref (List.length w9))).bind fun w11 =>
  (nO w11 (.inl (8, fun _ => 0))).bind fun w12 =>
  (pf w12 t 2 10 (.ref (List.length w11))).bind fun w13 =>
  (nO w13 (.inl (8, fun _ => 0))).bind fun w14 =>
  (pf w14 t 2 11 (.ref (List.length w13))).bind fun w15 =>
  (nO w15 (.inl (6, fun _ => 0))).bind fun w16 =>
  (pf w16 t 2 12 (.ref (List.length w15))).bind fun w17 =>
  (nO w17 (.inl (6, fun _ => 0))).bind fun w18 =>
  (pf w18 t 2 13 (.ref (List.length w17))).bind fun w19 =>
  (nO w19 (.inl (6, fun _ => 0))).bind fun w20 =>
  (pf w20 t 2 14 (.ref (List.length w19))).bind fun w21 =>
  (nO w21 (.inl (10, fun _ => 0))).bind fun w22 =>
  (pf w22 t 2 15 (.ref (List.length w21))).bind fun w23 =>
  (gr w23 t 2 15).bind fun a24 =>
  (F_JA_fill a24 (-1) w23).bind fun w25 =>
  some w25
set_option maxHeartbeats 4000000 in
set_option maxRecDepth 100000 in
theorem cn_R_init {G : Gx} {t : Nat} {w : A_W} {res : A_W} (h : F_R_init t w = some res) : Cn G y_R_init c_R_init 1 none rm_R_init [.ref t] w none res := by
  refine Cn_of (own := 2) cy_R_init rfl rfl (Nat.le_of_ble_eq_true rfl) rfl (fun X K hn hQ => ?_)
  unfold F_R_init at h
  refine Sm_run K ek_R_init 0 1 rfl ?_
  refine Sm_objInit K (eok_i (eo ek_R_init (i := 1) rfl) rfl) (lgm 94 (by decide +kernel) rfl) oi_im oi_co rfl (Nat.le_of_ble_eq_true rfl) (Nat.le_of_ble_eq_true rfl) ?_
  refine Sm_run K ek_R_init 2 2 rfl ?_
  obtain ⟨w1, e_w1, h⟩ := Option.bind_eq_some_iff.mp h
  refine Sm_pi K (eo ek_R_init (i := 4) rfl) rfl rfl e_w1 ?_
  refine Sm_run K ek_R_init 5 2 rfl ?_
  obtain ⟨w2, e_w2, h⟩ := Option.bind_eq_some_iff.mp h
  obtain ⟨l_w2, rfl⟩ := nO_e e_w2
  refine Sm_na K (eok_i (eo ek_R_init (i := 7) rfl) rfl) ar_int (n := 6) (N := 6) (by decide) (by decide) (by decide) l_w2 (Nat.le_of_ble_eq_true rfl) (Nat.le_of_ble_eq_true rfl) ?_
  refine Sm_eq (st1 := [.ref (List.length w1), .ref t]) (nc1 := 1) (ns1 := 6) rfl rfl rfl ?_
  obtain ⟨w3, e_w3, h⟩ := Option.bind_eq_some_iff.mp h
  refine Sm_pF K hn (eo ek_R_init (i := 8) rfl) rfl rfl e_w3 rfl rfl ?_
  refine Sm_run K ek_R_init 9 2 rfl ?_
  obtain ⟨w4, e_w4, h⟩ := Option.bind_eq_some_iff.mp h
  obtain ⟨l_w4, rfl⟩ := nO_e e_w4
  refine Sm_na K (eok_i (eo ek_R_init (i := 11) rfl) rfl) ar_int (n := 8) (N := 8) (by decide) (by decide) (by decide) l_w4 (Nat.le_of_ble_eq_true rfl) (Nat.le_of_ble_eq_true rfl) ?_
  refine Sm_eq (st1 := [.ref (List.length w3), .ref t]) (nc1 := 2) (ns1 := 14) rfl rfl rfl ?_
  obtain ⟨w5, e_w5, h⟩ := Option.bind_eq_some_iff.mp h
  refine Sm_pF K hn (eo ek_R_init (i := 12) rfl) rfl rfl e_w5 rfl rfl ?_
  refine Sm_run K ek_R_init 13 2 rfl ?_
  obtain ⟨w6, e_w6, h⟩ := Option.bind_eq_some_iff.mp h
  obtain ⟨l_w6, rfl⟩ := nO_e e_w6
  refine Sm_na K (eok_i (eo ek_R_init (i := 15) rfl) rfl) ar_int (n := 8) (N := 8) (by decide) (by decide) (by decide) l_w6 (Nat.le_of_ble_eq_true rfl) (Nat.le_of_ble_eq_true rfl) ?_
  refine Sm_eq (st1 := [.ref (List.length w5), .ref t]) (nc1 := 3) (ns1 := 22) rfl rfl rfl ?_
  obtain ⟨w7, e_w7, h⟩ := Option.bind_eq_some_iff.mp h
  refine Sm_pF K hn (eo ek_R_init (i := 16) rfl) rfl rfl e_w7 rfl rfl ?_
  refine Sm_run K ek_R_init 17 2 rfl ?_
  obtain ⟨w8, e_w8, h⟩ := Option.bind_eq_some_iff.mp h
  obtain ⟨l_w8, rfl⟩ := nO_e e_w8
  refine Sm_na K (eok_i (eo ek_R_init (i := 19) rfl) rfl) ar_int (n := 8) (N := 8) (by decide) (by decide) (by decide) l_w8 (Nat.le_of_ble_eq_true rfl) (Nat.le_of_ble_eq_true rfl) ?_
  refine Sm_eq (st1 := [.ref (List.length w7), .ref t]) (nc1 := 4) (ns1 := 30) rfl rfl rfl ?_
  obtain ⟨w9, e_w9, h⟩ := Option.bind_eq_some_iff.mp h
  refine Sm_pF K hn (eo ek_R_init (i := 20) rfl) rfl rfl e_w9 rfl rfl ?_
  refine Sm_run K ek_R_init 21 2 rfl ?_
  obtain ⟨w10, e_w10, h⟩ := Option.bind_eq_some_iff.mp h
  obtain ⟨l_w10, rfl⟩ := nO_e e_w10
  refine Sm_na K (eok_i (eo ek_R_init (i := 23) rfl) rfl) ar_int (n := 8) (N := 8) (by decide) (by decide) (by decide) l_w10 (Nat.le_of_ble_eq_true rfl) (Nat.le_of_ble_eq_true rfl) ?_
  refine Sm_eq (st1 := [.ref (List.length w9), .ref t]) (nc1 := 5) (ns1 := 38) rfl rfl rfl ?_
  obtain ⟨w11, e_w11, h⟩ := Option.bind_eq_some_iff.mp h
  refine Sm_pF K hn (eo ek_R_init (i := 24) rfl) rfl rfl e_w11 rfl rfl ?_
  refine Sm_run K ek_R_init 25 2 rfl ?_
  obtain ⟨w12, e_w12, h⟩ := Option.bind_eq_some_iff.mp h
  obtain ⟨l_w12, rfl⟩ := nO_e e_w12
  refine Sm_na K (eok_i (eo ek_R_init (i := 27) rfl) rfl) ar_int (n := 8) (N := 8) (by decide) (by decide) (by decide) l_w12 (Nat.le_of_ble_eq_true rfl) (Nat.le_of_ble_eq_true rfl) ?_
  refine Sm_eq (st1 := [.ref (List.length w11), .ref t]) (nc1 := 6) (ns1 := 46) rfl rfl rfl ?_
  obtain ⟨w13, e_w13, h⟩ := Option.bind_eq_some_iff.mp h
  refine Sm_pF K hn (eo ek_R_init (i := 28) rfl) rfl rfl e_w13 rfl rfl ?_
  refine Sm_run K ek_R_init 29 2 rfl ?_
  obtain ⟨w14, e_w14, h⟩ := Option.bind_eq_some_iff.mp h
  obtain ⟨l_w14, rfl⟩ := nO_e e_w14
  refine Sm_na K (eok_i (eo ek_R_init (i := 31) rfl) rfl) ar_int (n := 8) (N := 8) (by decide) (by decide) (by decide) l_w14 (Nat.le_of_ble_eq_true rfl) (Nat.le_of_ble_eq_true rfl) ?_
  refine Sm_eq (st1 := [.ref (List.length w13), .ref t]) (nc1 := 7) (ns1 := 54) rfl rfl rfl ?_
  obtain ⟨w15, e_w15, h⟩ := Option.bind_eq_some_iff.mp h
  refine Sm_pF K hn (eo ek_R_init (i := 32) rfl) rfl rfl e_w15 rfl rfl ?_
  refine Sm_run K ek_R_init 33 2 rfl ?_
  obtain ⟨w16, e_w16, h⟩ := Option.bind_eq_some_iff.mp h
  obtain ⟨l_w16, rfl⟩ := nO_e e_w16
  refine Sm_na K (eok_i (eo ek_R_init (i := 35) rfl) rfl) ar_int (n := 6) (N := 6) (by decide) (by decide) (by decide) l_w16 (Nat.le_of_ble_eq_true rfl) (Nat.le_of_ble_eq_true rfl) ?_
  refine Sm_eq (st1 := [.ref (List.length w15), .ref t]) (nc1 := 8) (ns1 := 60) rfl rfl rfl ?_
  obtain ⟨w17, e_w17, h⟩ := Option.bind_eq_some_iff.mp h
  refine Sm_pF K hn (eo ek_R_init (i := 36) rfl) rfl rfl e_w17 rfl rfl ?_
  refine Sm_run K ek_R_init 37 2 rfl ?_
  obtain ⟨w18, e_w18, h⟩ := Option.bind_eq_some_iff.mp h
  obtain ⟨l_w18, rfl⟩ := nO_e e_w18
  refine Sm_na K (eok_i (eo ek_R_init (i := 39) rfl) rfl) ar_int (n := 6) (N := 6) (by decide) (by decide) (by decide) l_w18 (Nat.le_of_ble_eq_true rfl) (Nat.le_of_ble_eq_true rfl) ?_
  refine Sm_eq (st1 := [.ref (List.length w17), .ref t]) (nc1 := 9) (ns1 := 66) rfl rfl rfl ?_
  obtain ⟨w19, e_w19, h⟩ := Option.bind_eq_some_iff.mp h
  refine Sm_pF K hn (eo ek_R_init (i := 40) rfl) rfl rfl e_w19 rfl rfl ?_
  refine Sm_run K ek_R_init 41 2 rfl ?_
  obtain ⟨w20, e_w20, h⟩ := Option.bind_eq_some_iff.mp h
  obtain ⟨l_w20, rfl⟩ := nO_e e_w20
  refine Sm_na K (eok_i (eo ek_R_init (i := 43) rfl) rfl) ar_int (n := 6) (N := 6) (by decide) (by decide) (by decide) l_w20 (Nat.le_of_ble_eq_true rfl) (Nat.le_of_ble_eq_true rfl) ?_
  refine Sm_eq (st1 := [.ref (List.length w19), .ref t]) (nc1 := 10) (ns1 := 72) rfl rfl rfl ?_
  obtain ⟨w21, e_w21, h⟩ := Option.bind_eq_some_iff.mp h
  refine Sm_pF K hn (eo ek_R_init (i := 44) rfl) rfl rfl e_w21 rfl rfl ?_
  refine Sm_run K ek_R_init 45 2 rfl ?_
  obtain ⟨w22, e_w22, h⟩ := Option.bind_eq_some_iff.mp h
  obtain ⟨l_w22, rfl⟩ := nO_e e_w22
  refine Sm_na K (eok_i (eo ek_R_init (i := 47) rfl) rfl) ar_int (n := 10) (N := 10) (by decide) (by decide) (by decide) l_w22 (Nat.le_of_ble_eq_true rfl) (Nat.le_of_ble_eq_true rfl) ?_
  refine Sm_eq (st1 := [.ref (List.length w21), .ref t]) (nc1 := 11) (ns1 := 82) rfl rfl rfl ?_
  obtain ⟨w23, e_w23, h⟩ := Option.bind_eq_some_iff.mp h
  refine Sm_pF K hn (eo ek_R_init (i := 48) rfl) rfl rfl e_w23 rfl rfl ?_
  refine Sm_run K ek_R_init 49 1 rfl ?_
  obtain ⟨a24, e_a24, h⟩ := Option.bind_eq_some_iff.mp h
  refine Sm_gr K (eo ek_R_init (i := 50) rfl) e_a24 ?_
  refine Sm_run K ek_R_init 51 1 rfl ?_
  obtain ⟨w25, e_w25, h⟩ := Option.bind_eq_some_iff.mp h
  refine Sm_callS K (eok_i (eo ek_R_init (i := 52) rfl) rfl) cy_JA_fill st_JA_fill (lgm 95 (by decide +kernel) rfl) ⟨Nat.le_of_ble_eq_true rfl, Nat.le_of_ble_eq_true rfl⟩ (as := [.ref a24, .int (-1)]) (st := []) rfl rfl rfl (Nat.le_of_ble_eq_true rfl) ⟨Nat.le_of_ble_eq_true rfl, Nat.le_of_ble_eq_true rfl⟩ (cn_JA_fill e_w25) ?_
  refine Sm_eq (st1 := []) (nc1 := 11) (ns1 := 82) rfl rfl rfl ?_
  obtain rfl := Option.some.inj h
  exact Sm_retv K hQ (eok_i (eo ek_R_init (i := 53) rfl) rfl)
abbrev c_K_init : ByteArray := prog_1_method_1_code
def y_K_init : MethodName := ⟨"EveningCloak", "<init>", "()V"⟩
def rm_K_init : Room := { frames := 2, cells := 48, slots := 603, locals := 43 }
theorem cy_K_init : Cy y_K_init c_K_init 2 (none) 0 := ⟨lgm 85 (by decide +kernel) rfl, lgm 68 (by decide +kernel) rfl, by decide +kernel, by decide +kernel⟩
theorem im_K_init : Cond.instanceMethod y_K_init ∈ lg := lgm 84 (by decide +kernel) rfl
def e_K_init : List Ent := [
  (0, .aload_n 0, 1, 1, .null, 0, 0, 0),
  (1, .invokespecial 3, 3, 4, .null, 0, 0, 0),
  (4, .aload_n 0, 1, 5, .null, 0, 0, 0),
  (5, .new 9, 3, 8, .null, 0, 0, 0),
  (8, .dup, 1, 9, .null, 0, 0, 0),
  (9, .invokespecial 11, 3, 12, .null, 0, 0, 0),
  (12, .putfield 12, 3, 15, .null, 0, 0, 217),
  (15, .aload_n 0, 1, 16, .null, 0, 0, 0),
  (16, .new 9, 3, 19, .null, 0, 0, 0),
  (19, .dup, 1, 20, .null, 0, 0, 0),
  (20, .invokespecial 11, 3, 23, .null, 0, 0, 0),
  (23, .putfield 16, 3, 26, .null, 0, 1, 218),
  (26, .aload_n 0, 1, 27, .null, 0, 0, 0),
  (27, .new 9, 3, 30, .null, 0, 0, 0),
  (30, .dup, 1, 31, .null, 0, 0, 0),
  (31, .invokespecial 11, 3, 34, .null, 0, 0, 0),
  (34, .putfield 19, 3, 37, .null, 0, 2, 219),
  (37, .aload_n 0, 1, 38, .null, 0, 0, 0),
  (38, .new 22, 3, 41, .null, 0, 0, 0),
  (41, .dup, 1, 42, .null, 0, 0, 0),
  (42, .invokespecial 24, 3, 45, .null, 0, 0, 0),
  (45, .putfield 25, 3, 48, .null, 0, 4, 221),
  (48, .aload_n 0, 1, 49, .null, 0, 0, 0),
  (49, .iconst 4, 1, 50, .int 4, 0, 0, 0),
  (50, .anewarray 29, 3, 53, .null, 0, 0, 0),
  (53, .putfield 31, 3, 56, .null, 0, 5, 222),
  (56, .aload_n 0, 1, 57, .null, 0, 0, 0),
  (57, .bipush 7, 2, 59, .int 7, 0, 0, 0),
  (59, .newarray .int, 2, 61, .null, 0, 0, 0),
  (61, .putfield 35, 3, 64, .null, 0, 6, 223),
  (64, .iconst 0, 1, 65, .int 0, 0, 0, 0),
  (65, .istore_n 1, 1, 66, .null, 0, 0, 0),
  (66, .iload_n 1, 1, 67, .null, 0, 0, 0),
  (67, .iconst 4, 1, 68, .int 4, 0, 0, 0),
  (68, .if_icmp .ge 22, 3, 90, .null, 0, 0, 0),
  (71, .aload_n 0, 1, 72, .null, 0, 0, 0),
  (72, .getfield 31, 3, 75, .null, 0, 5, 222),
  (75, .iload_n 1, 1, 76, .null, 0, 0, 0),
  (76, .new 29, 3, 79, .null, 0, 0, 0),
  (79, .dup, 1, 80, .null, 0, 0, 0),
  (80, .invokespecial 39, 3, 83, .null, 0, 0, 0),
  (83, .aastore, 1, 84, .null, 0, 0, 0),
  (84, .iinc 1 1, 3, 87, .int 1, 0, 0, 0),
  (87, .goto (-21), 3, 66, .null, 0, 0, 0),
  (90, .return_, 1, 91, .null, 0, 0, 0)]
set_option maxRecDepth 100000 in
theorem ek_K_init : e_K_init.all (eok 0 c_K_init) = true := by decide +kernel
def F_K_init (t : Nat) (w : A_W) : Option A_W :=
  (nO w (.inr (.inr (2, [.int 0, .int 0, .int 0, .int 0, .int 0, .null, .null, .null, .null, .null, .null, .null, .null, .null, .null, .null])))).bind fun w1 =>
  (F_R_init (List.length w) w1).bind fun w2 =>
  (pf w2 t 0 0 (.ref (List.length w))).bind fun w3 =>
  (nO w3 (.inr (.inr (2, [.int 0, .int 0, .int 0, .int 0, .int 0, .null, .null, .null, .null, .null, .null, .null, .null, .null, .null, .null])))).bind fun w4 =>
  (F_R_init (List.length w3) w4).bind fun w5 =>
  (pf w5 t 0 1 (.ref (List.length w3))).bind fun w6 =>
  (nO w6 (.inr (.inr (2, [.int 0, .int 0, .int 0, .int 0, .int 0, .null, .null, .null, .null, .null, .null, .null, .null, .null, .null, .null])))).bind fun w7 =>
  (F_R_init (List.length w6) w7).bind fun w8 =>
  (pf w8 t 0 2 (.ref (List.length w6))).bind fun w9 =>
  (nO w9 (.inr (.inr (1, [.null, .int 0, .int 0, .int 0, .int 0, .int 0])))).bind fun w10 =>
  (F_D_init (List.length w9) w10).bind fun w11 =>
  (pf w11 t 0 4 (.ref (List.length w9))).bind fun w12 =>
  (nO w12 (.inr (.inl (4, fun _ => none)))).bind fun w13 =>
  (pf w13 t 0 5 (.ref (List.length w12))).bind fun w14 =>
  (nO w14 (.inl (7, fun _ => 0))).bind fun w15 =>
  (pf w15 t 0 6 (.ref (List.length w14))).bind fun w16 =>
  (gr w16 t 0 5).bind fun a17 =>
  (nO w16 (.inr (.inr (3, [.int 0, .int 0, .null])))).bind fun w18 =>
  (F_S_init (List.length w16) w18).bind fun w19 =>
  (wa w19 a17 0 (List.length w16)).bind fun w20 =>
  (gr w20 t 0 5).bind fun a21 =>
  (nO w20 (.inr (.inr (3, [.int 0, .int 0, .null])))).bind fun w22 =>
  (F_S_init (List.length w20) w22).bind fun w23 =>
  (wa w23 a21 (0 + 1) (List.length w20)).bind fun w24 =>
  (gr w24 t 0 5).bind fun a25 =>
  (nO w24 (.inr (.inr (3, [.int 0, .int 0, .null])))).bind fun w26 =>
  (F_S_init (List.length w24) w26).bind fun w27 =>
  (wa w27 a25 ((0 + 1) + 1) (List.length w24)).bind fun w28 =>
  (gr w28 t 0 5).bind fun a29 =>
  (nO w28 (.inr (.inr (3, [.int 0, .int 0, .null])))).bind fun w30 =>
  (F_S_init (List.length w28) w30).bind fun w31 =>
  (wa w31 a29 (((0 + 1) + 1) + 1) (List.length w28)).bind fun w32 =>
  some w32
set_option maxHeartbeats 4000000 in
set_option maxRecDepth 100000 in
theorem cn_K_init {G : Gx} {t : Nat} {w : A_W} {res : A_W} (h : F_K_init t w = some res) : Cn G y_K_init c_K_init 2 none rm_K_init [.ref t] w none res := by
  refine Cn_of (own := 0) cy_K_init rfl rfl (Nat.le_of_ble_eq_true rfl) rfl (fun X K hn hQ => ?_)
  unfold F_K_init at h
  refine Sm_run K ek_K_init 0 1 rfl ?_
  refine Sm_objInit K (eok_i (eo ek_K_init (i := 1) rfl) rfl) (lgm 86 (by decide +kernel) rfl) oi_im oi_co rfl (Nat.le_of_ble_eq_true rfl) (Nat.le_of_ble_eq_true rfl) ?_
  refine Sm_run K ek_K_init 2 1 rfl ?_
  obtain ⟨w1, e_w1, h⟩ := Option.bind_eq_some_iff.mp h
  obtain ⟨l_w1, rfl⟩ := nO_e e_w1
  refine Sm_new K (eok_i (eo ek_K_init (i := 3) rfl) rfl) (ci := 2) (by decide) (lgm 89 (by decide +kernel) rfl) (lgm 90 (by decide +kernel) rfl) (lgm 69 (by decide +kernel) rfl) (fs := [.int 0, .int 0, .int 0, .int 0, .int 0, .null, .null, .null, .null, .null, .null, .null, .null, .null, .null, .null]) nw2 l_w1 (Nat.le_of_ble_eq_true rfl) (Nat.le_of_ble_eq_true rfl) ?_
  refine Sm_eq (st1 := [.ref (List.length w), .ref t]) (nc1 := 1) (ns1 := 16) rfl rfl rfl ?_
  refine Sm_run K ek_K_init 4 1 rfl ?_
  obtain ⟨w2, e_w2, h⟩ := Option.bind_eq_some_iff.mp h
  refine Sm_callI K (eok_i (eo ek_K_init (i := 5) rfl) rfl) cy_R_init im_R_init rfl (lgm 91 (by decide +kernel) rfl) ⟨Nat.le_of_ble_eq_true rfl, Nat.le_of_ble_eq_true rfl⟩ (as := []) (b := (List.length w)) (st := [.ref (List.length w), .ref t]) rfl rfl rfl (Nat.le_of_ble_eq_true rfl) ⟨Nat.le_of_ble_eq_true rfl, Nat.le_of_ble_eq_true rfl⟩ (cn_R_init e_w2) ?_
  refine Sm_eq (st1 := [.ref (List.length w), .ref t]) (nc1 := 12) (ns1 := 98) rfl rfl rfl ?_
  obtain ⟨w3, e_w3, h⟩ := Option.bind_eq_some_iff.mp h
  refine Sm_pF K hn (eo ek_K_init (i := 6) rfl) rfl rfl e_w3 rfl rfl ?_
  refine Sm_run K ek_K_init 7 1 rfl ?_
  obtain ⟨w4, e_w4, h⟩ := Option.bind_eq_some_iff.mp h
  obtain ⟨l_w4, rfl⟩ := nO_e e_w4
  refine Sm_new K (eok_i (eo ek_K_init (i := 8) rfl) rfl) (ci := 2) (by decide) (lgm 89 (by decide +kernel) rfl) (lgm 90 (by decide +kernel) rfl) (lgm 69 (by decide +kernel) rfl) (fs := [.int 0, .int 0, .int 0, .int 0, .int 0, .null, .null, .null, .null, .null, .null, .null, .null, .null, .null, .null]) nw2 l_w4 (Nat.le_of_ble_eq_true rfl) (Nat.le_of_ble_eq_true rfl) ?_
  refine Sm_eq (st1 := [.ref (List.length w3), .ref t]) (nc1 := 13) (ns1 := 114) rfl rfl rfl ?_
  refine Sm_run K ek_K_init 9 1 rfl ?_
  obtain ⟨w5, e_w5, h⟩ := Option.bind_eq_some_iff.mp h
  refine Sm_callI K (eok_i (eo ek_K_init (i := 10) rfl) rfl) cy_R_init im_R_init rfl (lgm 91 (by decide +kernel) rfl) ⟨Nat.le_of_ble_eq_true rfl, Nat.le_of_ble_eq_true rfl⟩ (as := []) (b := (List.length w3)) (st := [.ref (List.length w3), .ref t]) rfl rfl rfl (Nat.le_of_ble_eq_true rfl) ⟨Nat.le_of_ble_eq_true rfl, Nat.le_of_ble_eq_true rfl⟩ (cn_R_init e_w5) ?_
  refine Sm_eq (st1 := [.ref (List.length w3), .ref t]) (nc1 := 24) (ns1 := 196) rfl rfl rfl ?_
  obtain ⟨w6, e_w6, h⟩ := Option.bind_eq_some_iff.mp h
  refine Sm_pF K hn (eo ek_K_init (i := 11) rfl) rfl rfl e_w6 rfl rfl ?_
  refine Sm_run K ek_K_init 12 1 rfl ?_
  obtain ⟨w7, e_w7, h⟩ := Option.bind_eq_some_iff.mp h
  obtain ⟨l_w7, rfl⟩ := nO_e e_w7
  refine Sm_new K (eok_i (eo ek_K_init (i := 13) rfl) rfl) (ci := 2) (by decide) (lgm 89 (by decide +kernel) rfl) (lgm 90 (by decide +kernel) rfl) (lgm 69 (by decide +kernel) rfl) (fs := [.int 0, .int 0, .int 0, .int 0, .int 0, .null, .null, .null, .null, .null, .null, .null, .null, .null, .null, .null]) nw2 l_w7 (Nat.le_of_ble_eq_true rfl) (Nat.le_of_ble_eq_true rfl) ?_
  refine Sm_eq (st1 := [.ref (List.length w6), .ref t]) (nc1 := 25) (ns1 := 212) rfl rfl rfl ?_
  refine Sm_run K ek_K_init 14 1 rfl ?_
  obtain ⟨w8, e_w8, h⟩ := Option.bind_eq_some_iff.mp h
  refine Sm_callI K (eok_i (eo ek_K_init (i := 15) rfl) rfl) cy_R_init im_R_init rfl (lgm 91 (by decide +kernel) rfl) ⟨Nat.le_of_ble_eq_true rfl, Nat.le_of_ble_eq_true rfl⟩ (as := []) (b := (List.length w6)) (st := [.ref (List.length w6), .ref t]) rfl rfl rfl (Nat.le_of_ble_eq_true rfl) ⟨Nat.le_of_ble_eq_true rfl, Nat.le_of_ble_eq_true rfl⟩ (cn_R_init e_w8) ?_
  refine Sm_eq (st1 := [.ref (List.length w6), .ref t]) (nc1 := 36) (ns1 := 294) rfl rfl rfl ?_
  obtain ⟨w9, e_w9, h⟩ := Option.bind_eq_some_iff.mp h
  refine Sm_pF K hn (eo ek_K_init (i := 16) rfl) rfl rfl e_w9 rfl rfl ?_
  refine Sm_run K ek_K_init 17 1 rfl ?_
  obtain ⟨w10, e_w10, h⟩ := Option.bind_eq_some_iff.mp h
  obtain ⟨l_w10, rfl⟩ := nO_e e_w10
  refine Sm_new K (eok_i (eo ek_K_init (i := 18) rfl) rfl) (ci := 1) (by decide) (lgm 171 (by decide +kernel) rfl) (lgm 172 (by decide +kernel) rfl) (lgm 71 (by decide +kernel) rfl) (fs := [.null, .int 0, .int 0, .int 0, .int 0, .int 0]) nw1 l_w10 (Nat.le_of_ble_eq_true rfl) (Nat.le_of_ble_eq_true rfl) ?_
  refine Sm_eq (st1 := [.ref (List.length w9), .ref t]) (nc1 := 37) (ns1 := 300) rfl rfl rfl ?_
  refine Sm_run K ek_K_init 19 1 rfl ?_
  obtain ⟨w11, e_w11, h⟩ := Option.bind_eq_some_iff.mp h
  refine Sm_callIN K (host := "EveningCloak") (eok_i (eo ek_K_init (i := 20) rfl) rfl) cy_D_init im_D_init rfl (by decide +kernel) ⟨Nat.le_of_ble_eq_true rfl, Nat.le_of_ble_eq_true rfl⟩ (as := []) (b := (List.length w9)) (st := [.ref (List.length w9), .ref t]) rfl rfl rfl (Nat.le_of_ble_eq_true rfl) ⟨Nat.le_of_ble_eq_true rfl, Nat.le_of_ble_eq_true rfl⟩ (cn_D_init e_w11) ?_
  refine Sm_eq (st1 := [.ref (List.length w9), .ref t]) (nc1 := 38) (ns1 := 420) rfl rfl rfl ?_
  obtain ⟨w12, e_w12, h⟩ := Option.bind_eq_some_iff.mp h
  refine Sm_pF K hn (eo ek_K_init (i := 21) rfl) rfl rfl e_w12 rfl rfl ?_
  refine Sm_run K ek_K_init 22 2 rfl ?_
  obtain ⟨w13, e_w13, h⟩ := Option.bind_eq_some_iff.mp h
  obtain ⟨l_w13, rfl⟩ := nO_e e_w13
  refine Sm_nq K (eok_i (eo ek_K_init (i := 24) rfl) rfl) (lgm 197 (by decide +kernel) rfl) (n := 4) (N := 4) (by decide) (by decide) (by decide) l_w13 (Nat.le_of_ble_eq_true rfl) (Nat.le_of_ble_eq_true rfl) ?_
  refine Sm_eq (st1 := [.ref (List.length w12), .ref t]) (nc1 := 39) (ns1 := 424) rfl rfl rfl ?_
  obtain ⟨w14, e_w14, h⟩ := Option.bind_eq_some_iff.mp h
  refine Sm_pF K hn (eo ek_K_init (i := 25) rfl) rfl rfl e_w14 rfl rfl ?_
  refine Sm_run K ek_K_init 26 2 rfl ?_
  obtain ⟨w15, e_w15, h⟩ := Option.bind_eq_some_iff.mp h
  obtain ⟨l_w15, rfl⟩ := nO_e e_w15
  refine Sm_na K (eok_i (eo ek_K_init (i := 28) rfl) rfl) ar_int (n := 7) (N := 7) (by decide) (by decide) (by decide) l_w15 (Nat.le_of_ble_eq_true rfl) (Nat.le_of_ble_eq_true rfl) ?_
  refine Sm_eq (st1 := [.ref (List.length w14), .ref t]) (nc1 := 40) (ns1 := 431) rfl rfl rfl ?_
  obtain ⟨w16, e_w16, h⟩ := Option.bind_eq_some_iff.mp h
  refine Sm_pF K hn (eo ek_K_init (i := 29) rfl) rfl rfl e_w16 rfl rfl ?_
  refine Sm_run K ek_K_init 30 4 rfl ?_
  refine Sm_ic_ge K (eo ek_K_init (i := 34) rfl) (fun c => absurd c (by decide)) (fun _ => ?_)
  refine Sm_run K ek_K_init 35 1 rfl ?_
  obtain ⟨a17, e_a17, h⟩ := Option.bind_eq_some_iff.mp h
  refine Sm_gr K (eo ek_K_init (i := 36) rfl) e_a17 ?_
  refine Sm_run K ek_K_init 37 1 rfl ?_
  obtain ⟨w18, e_w18, h⟩ := Option.bind_eq_some_iff.mp h
  obtain ⟨l_w18, rfl⟩ := nO_e e_w18
  refine Sm_new K (eok_i (eo ek_K_init (i := 38) rfl) rfl) (ci := 3) (by decide) (lgm 197 (by decide +kernel) rfl) (lgm 199 (by decide +kernel) rfl) (lgm 72 (by decide +kernel) rfl) (fs := [.int 0, .int 0, .null]) nw3 l_w18 (Nat.le_of_ble_eq_true rfl) (Nat.le_of_ble_eq_true rfl) ?_
  refine Sm_eq (st1 := [.ref (List.length w16), .int 0, .ref a17]) (nc1 := 41) (ns1 := 434) rfl rfl rfl ?_
  refine Sm_run K ek_K_init 39 1 rfl ?_
  obtain ⟨w19, e_w19, h⟩ := Option.bind_eq_some_iff.mp h
  refine Sm_callIN K (host := "EveningCloak") (eok_i (eo ek_K_init (i := 40) rfl) rfl) cy_S_init im_S_init rfl (by decide +kernel) ⟨Nat.le_of_ble_eq_true rfl, Nat.le_of_ble_eq_true rfl⟩ (as := []) (b := (List.length w16)) (st := [.ref (List.length w16), .int 0, .ref a17]) rfl rfl rfl (Nat.le_of_ble_eq_true rfl) ⟨Nat.le_of_ble_eq_true rfl, Nat.le_of_ble_eq_true rfl⟩ (cn_S_init e_w19) ?_
  refine Sm_eq (st1 := [.ref (List.length w16), .int 0, .ref a17]) (nc1 := 42) (ns1 := 474) rfl rfl rfl ?_
  obtain ⟨w20, e_w20, h⟩ := Option.bind_eq_some_iff.mp h
  refine Sm_wa K (eok_i (eo ek_K_init (i := 41) rfl) rfl) e_w20 ?_
  refine Sm_run K ek_K_init 42 2 rfl ?_
  refine Sm_run K ek_K_init 32 2 rfl ?_
  refine Sm_ic_ge K (eo ek_K_init (i := 34) rfl) (fun c => absurd c (by decide)) (fun _ => ?_)
  refine Sm_run K ek_K_init 35 1 rfl ?_
  obtain ⟨a21, e_a21, h⟩ := Option.bind_eq_some_iff.mp h
  refine Sm_gr K (eo ek_K_init (i := 36) rfl) e_a21 ?_
  refine Sm_run K ek_K_init 37 1 rfl ?_
  obtain ⟨w22, e_w22, h⟩ := Option.bind_eq_some_iff.mp h
  obtain ⟨l_w22, rfl⟩ := nO_e e_w22
  refine Sm_new K (eok_i (eo ek_K_init (i := 38) rfl) rfl) (ci := 3) (by decide) (lgm 197 (by decide +kernel) rfl) (lgm 199 (by decide +kernel) rfl) (lgm 72 (by decide +kernel) rfl) (fs := [.int 0, .int 0, .null]) nw3 l_w22 (Nat.le_of_ble_eq_true rfl) (Nat.le_of_ble_eq_true rfl) ?_
  refine Sm_eq (st1 := [.ref (List.length w20), .int (0 + 1), .ref a21]) (nc1 := 43) (ns1 := 477) rfl rfl rfl ?_
  refine Sm_run K ek_K_init 39 1 rfl ?_
  obtain ⟨w23, e_w23, h⟩ := Option.bind_eq_some_iff.mp h
  refine Sm_callIN K (host := "EveningCloak") (eok_i (eo ek_K_init (i := 40) rfl) rfl) cy_S_init im_S_init rfl (by decide +kernel) ⟨Nat.le_of_ble_eq_true rfl, Nat.le_of_ble_eq_true rfl⟩ (as := []) (b := (List.length w20)) (st := [.ref (List.length w20), .int (0 + 1), .ref a21]) rfl rfl rfl (Nat.le_of_ble_eq_true rfl) ⟨Nat.le_of_ble_eq_true rfl, Nat.le_of_ble_eq_true rfl⟩ (cn_S_init e_w23) ?_
  refine Sm_eq (st1 := [.ref (List.length w20), .int (0 + 1), .ref a21]) (nc1 := 44) (ns1 := 517) rfl rfl rfl ?_
  obtain ⟨w24, e_w24, h⟩ := Option.bind_eq_some_iff.mp h
  refine Sm_wa K (eok_i (eo ek_K_init (i := 41) rfl) rfl) e_w24 ?_
  refine Sm_run K ek_K_init 42 2 rfl ?_
  refine Sm_run K ek_K_init 32 2 rfl ?_
  refine Sm_ic_ge K (eo ek_K_init (i := 34) rfl) (fun c => absurd c (by decide)) (fun _ => ?_)
  refine Sm_run K ek_K_init 35 1 rfl ?_
  obtain ⟨a25, e_a25, h⟩ := Option.bind_eq_some_iff.mp h
  refine Sm_gr K (eo ek_K_init (i := 36) rfl) e_a25 ?_
  refine Sm_run K ek_K_init 37 1 rfl ?_
  obtain ⟨w26, e_w26, h⟩ := Option.bind_eq_some_iff.mp h
  obtain ⟨l_w26, rfl⟩ := nO_e e_w26
  refine Sm_new K (eok_i (eo ek_K_init (i := 38) rfl) rfl) (ci := 3) (by decide) (lgm 197 (by decide +kernel) rfl) (lgm 199 (by decide +kernel) rfl) (lgm 72 (by decide +kernel) rfl) (fs := [.int 0, .int 0, .null]) nw3 l_w26 (Nat.le_of_ble_eq_true rfl) (Nat.le_of_ble_eq_true rfl) ?_
  refine Sm_eq (st1 := [.ref (List.length w24), .int ((0 + 1) + 1), .ref a25]) (nc1 := 45) (ns1 := 520) rfl rfl rfl ?_
  refine Sm_run K ek_K_init 39 1 rfl ?_
  obtain ⟨w27, e_w27, h⟩ := Option.bind_eq_some_iff.mp h
  refine Sm_callIN K (host := "EveningCloak") (eok_i (eo ek_K_init (i := 40) rfl) rfl) cy_S_init im_S_init rfl (by decide +kernel) ⟨Nat.le_of_ble_eq_true rfl, Nat.le_of_ble_eq_true rfl⟩ (as := []) (b := (List.length w24)) (st := [.ref (List.length w24), .int ((0 + 1) + 1), .ref a25]) rfl rfl rfl (Nat.le_of_ble_eq_true rfl) ⟨Nat.le_of_ble_eq_true rfl, Nat.le_of_ble_eq_true rfl⟩ (cn_S_init e_w27) ?_
  refine Sm_eq (st1 := [.ref (List.length w24), .int ((0 + 1) + 1), .ref a25]) (nc1 := 46) (ns1 := 560) rfl rfl rfl ?_
  obtain ⟨w28, e_w28, h⟩ := Option.bind_eq_some_iff.mp h
  refine Sm_wa K (eok_i (eo ek_K_init (i := 41) rfl) rfl) e_w28 ?_
  refine Sm_run K ek_K_init 42 2 rfl ?_
  refine Sm_run K ek_K_init 32 2 rfl ?_
  refine Sm_ic_ge K (eo ek_K_init (i := 34) rfl) (fun c => absurd c (by decide)) (fun _ => ?_)
  refine Sm_run K ek_K_init 35 1 rfl ?_
  obtain ⟨a29, e_a29, h⟩ := Option.bind_eq_some_iff.mp h
  refine Sm_gr K (eo ek_K_init (i := 36) rfl) e_a29 ?_
  refine Sm_run K ek_K_init 37 1 rfl ?_
  obtain ⟨w30, e_w30, h⟩ := Option.bind_eq_some_iff.mp h
  obtain ⟨l_w30, rfl⟩ := nO_e e_w30
  refine Sm_new K (eok_i (eo ek_K_init (i := 38) rfl) rfl) (ci := 3) (by decide) (lgm 197 (by decide +kernel) rfl) (lgm 199 (by decide +kernel) rfl) (lgm 72 (by decide +kernel) rfl) (fs := [.int 0, .int 0, .null]) nw3 l_w30 (Nat.le_of_ble_eq_true rfl) (Nat.le_of_ble_eq_true rfl) ?_
  refine Sm_eq (st1 := [.ref (List.length w28), .int (((0 + 1) + 1) + 1), .ref a29]) (nc1 := 47) (ns1 := 563) rfl rfl rfl ?_
  refine Sm_run K ek_K_init 39 1 rfl ?_
  obtain ⟨w31, e_w31, h⟩ := Option.bind_eq_some_iff.mp h
  refine Sm_callIN K (host := "EveningCloak") (eok_i (eo ek_K_init (i := 40) rfl) rfl) cy_S_init im_S_init rfl (by decide +kernel) ⟨Nat.le_of_ble_eq_true rfl, Nat.le_of_ble_eq_true rfl⟩ (as := []) (b := (List.length w28)) (st := [.ref (List.length w28), .int (((0 + 1) + 1) + 1), .ref a29]) rfl rfl rfl (Nat.le_of_ble_eq_true rfl) ⟨Nat.le_of_ble_eq_true rfl, Nat.le_of_ble_eq_true rfl⟩ (cn_S_init e_w31) ?_
  refine Sm_eq (st1 := [.ref (List.length w28), .int (((0 + 1) + 1) + 1), .ref a29]) (nc1 := 48) (ns1 := 603) rfl rfl rfl ?_
  obtain ⟨w32, e_w32, h⟩ := Option.bind_eq_some_iff.mp h
  refine Sm_wa K (eok_i (eo ek_K_init (i := 41) rfl) rfl) e_w32 ?_
  refine Sm_run K ek_K_init 42 2 rfl ?_
  refine Sm_run K ek_K_init 32 2 rfl ?_
  refine Sm_ic_ge K (eo ek_K_init (i := 34) rfl) (fun _ => ?_) (fun c => absurd (by decide) c)
  obtain rfl := Option.some.inj h
  exact Sm_retv K hQ (eok_i (eo ek_K_init (i := 44) rfl) rfl)
abbrev c_M_init : ByteArray := prog_6_method_1_code
def y_M_init : MethodName := ⟨"EveningCloakModel", "<init>", "()V"⟩
def rm_M_init : Room := { frames := 1, cells := 8, slots := 556, locals := 20 }
theorem cy_M_init : Cy y_M_init c_M_init 2 (none) 0 := ⟨lgm 760 (by decide +kernel) rfl, lgm 73 (by decide +kernel) rfl, by decide +kernel, by decide +kernel⟩
theorem im_M_init : Cond.instanceMethod y_M_init ∈ lg := lgm 759 (by decide +kernel) rfl
def e_M_init : List Ent := [
  (0, .aload_n 0, 1, 1, .null, 0, 0, 0),
  (1, .invokespecial 3, 3, 4, .null, 0, 0, 0),
  (4, .aload_n 0, 1, 5, .null, 0, 0, 0),
  (5, .bipush 87, 2, 7, .int 87, 0, 0, 0),
  (7, .newarray .int, 2, 9, .null, 0, 0, 0),
  (9, .putfield 9, 3, 12, .null, 4, 0, 762),
  (12, .aload_n 0, 1, 13, .null, 0, 0, 0),
  (13, .bipush 87, 2, 15, .int 87, 0, 0, 0),
  (15, .newarray .int, 2, 17, .null, 0, 0, 0),
  (17, .putfield 13, 3, 20, .null, 4, 1, 763),
  (20, .aload_n 0, 1, 21, .null, 0, 0, 0),
  (21, .bipush 87, 2, 23, .int 87, 0, 0, 0),
  (23, .newarray .int, 2, 25, .null, 0, 0, 0),
  (25, .putfield 16, 3, 28, .null, 4, 2, 764),
  (28, .aload_n 0, 1, 29, .null, 0, 0, 0),
  (29, .bipush 7, 2, 31, .int 7, 0, 0, 0),
  (31, .newarray .int, 2, 33, .null, 0, 0, 0),
  (33, .putfield 19, 3, 36, .null, 4, 4, 766),
  (36, .aload_n 0, 1, 37, .null, 0, 0, 0),
  (37, .iconst 4, 1, 38, .int 4, 0, 0, 0),
  (38, .newarray .int, 2, 40, .null, 0, 0, 0),
  (40, .putfield 22, 3, 43, .null, 4, 5, 767),
  (43, .aload_n 0, 1, 44, .null, 0, 0, 0),
  (44, .iconst 4, 1, 45, .int 4, 0, 0, 0),
  (45, .newarray .int, 2, 47, .null, 0, 0, 0),
  (47, .putfield 25, 3, 50, .null, 4, 6, 768),
  (50, .aload_n 0, 1, 51, .null, 0, 0, 0),
  (51, .sipush 160, 3, 54, .int 160, 0, 0, 0),
  (54, .newarray .int, 2, 56, .null, 0, 0, 0),
  (56, .putfield 28, 3, 59, .null, 4, 7, 769),
  (59, .aload_n 0, 1, 60, .null, 0, 0, 0),
  (60, .bipush 120, 2, 62, .int 120, 0, 0, 0),
  (62, .newarray .int, 2, 64, .null, 0, 0, 0),
  (64, .putfield 31, 3, 67, .null, 4, 8, 770),
  (67, .aload_n 0, 1, 68, .null, 0, 0, 0),
  (68, .getfield 9, 3, 71, .null, 4, 0, 762),
  (71, .iconst 2, 1, 72, .int 2, 0, 0, 0),
  (72, .iconst 1, 1, 73, .int 1, 0, 0, 0),
  (73, .iastore, 1, 74, .null, 0, 0, 0),
  (74, .bipush 77, 2, 76, .int 77, 0, 0, 0),
  (76, .istore_n 1, 1, 77, .null, 0, 0, 0),
  (77, .iload_n 1, 1, 78, .null, 0, 0, 0),
  (78, .bipush 87, 2, 80, .int 87, 0, 0, 0),
  (80, .if_icmp .ge 16, 3, 96, .null, 0, 0, 0),
  (83, .aload_n 0, 1, 84, .null, 0, 0, 0),
  (84, .getfield 9, 3, 87, .null, 4, 0, 762),
  (87, .iload_n 1, 1, 88, .null, 0, 0, 0),
  (88, .iconst (-1), 1, 89, .int (-1), 0, 0, 0),
  (89, .iastore, 1, 90, .null, 0, 0, 0),
  (90, .iinc 1 1, 3, 93, .int 1, 0, 0, 0),
  (93, .goto (-16), 3, 77, .null, 0, 0, 0),
  (96, .return_, 1, 97, .null, 0, 0, 0)]
set_option maxRecDepth 100000 in
theorem ek_M_init : e_M_init.all (eok 4 c_M_init) = true := by decide +kernel
def F_M_init (t : Nat) (w : A_W) : Option A_W :=
  (nO w (.inl (87, fun _ => 0))).bind fun w1 =>
  (pf w1 t 4 0 (.ref (List.length w))).bind fun w2 =>
  (nO w2 (.inl (87, fun _ => 0))).bind fun w3 =>
  (pf w3 t 4 1 (.ref (List.length w2))).bind fun w4 =>
  (nO w4 (.inl (87, fun _ => 0))).bind fun w5 =>
  (pf w5 t 4 2 (.ref (List.length w4))).bind fun w6 =>
  (nO w6 (.inl (7, fun _ => 0))).bind fun w7 =>
  (pf w7 t 4 4 (.ref (List.length w6))).bind fun w8 =>
  (nO w8 (.inl (4, fun _ => 0))).bind fun w9 =>
  (pf w9 t 4 5 (.ref (List.length w8))).bind fun w10 =>
  (nO w10 (.inl (4, fun _ => 0))).bind fun w11 =>
  (pf w11 t 4 6 (.ref (List.length w10))).bind fun w12 =>
  (nO w12 (.inl (160, fun _ => 0))).bind fun w13 =>
  (pf w13 t 4 7 (.ref (List.length w12))).bind fun w14 =>
  (nO w14 (.inl (120, fun _ => 0))).bind fun w15 =>
  (pf w15 t 4 8 (.ref (List.length w14))).bind fun w16 =>
  (gr w16 t 4 0).bind fun a17 =>
  (wr w16 a17 2 1).bind fun w18 =>
  (gr w18 t 4 0).bind fun a19 =>
  (wr w18 a19 77 (-1)).bind fun w20 =>
  (gr w20 t 4 0).bind fun a21 =>
  (wr w20 a21 (77 + 1) (-1)).bind fun w22 =>
  (gr w22 t 4 0).bind fun a23 =>
  (wr w22 a23 ((77 + 1) + 1) (-1)).bind fun w24 =>
  (gr w24 t 4 0).bind fun a25 =>
  (wr w24 a25 (((77 + 1) + 1) + 1) (-1)).bind fun w26 =>
  (gr w26 t 4 0).bind fun a27 =>
  (wr w26 a27 ((((77 + 1) + 1) + 1) + 1) (-1)).bind fun w28 =>
  (gr w28 t 4 0).bind fun a29 =>
  (wr w28 a29 (((((77 + 1) + 1) + 1) + 1) + 1) (-1)).bind fun w30 =>
  (gr w30 t 4 0).bind fun a31 =>
  (wr w30 a31 ((((((77 + 1) + 1) + 1) + 1) + 1) + 1) (-1)).bind fun w32 =>
  (gr w32 t 4 0).bind fun a33 =>
  (wr w32 a33 (((((((77 + 1) + 1) + 1) + 1) + 1) + 1) + 1) (-1)).bind fun w34 =>
  (gr w34 t 4 0).bind fun a35 =>
  (wr w34 a35 ((((((((77 + 1) + 1) + 1) + 1) + 1) + 1) + 1) + 1) (-1)).bind fun w36 =>
  (gr w36 t 4 0).bind fun a37 =>
  (wr w36 a37 (((((((((77 + 1) + 1) + 1) + 1) + 1) + 1) + 1) + 1) + 1) (-1)).bind fun w38 =>
  some w38
set_option maxHeartbeats 4000000 in
set_option maxRecDepth 100000 in
theorem cn_M_init {G : Gx} {t : Nat} {w : A_W} {res : A_W} (h : F_M_init t w = some res) : Cn G y_M_init c_M_init 2 none rm_M_init [.ref t] w none res := by
  refine Cn_of (own := 4) cy_M_init rfl rfl (Nat.le_of_ble_eq_true rfl) rfl (fun X K hn hQ => ?_)
  unfold F_M_init at h
  refine Sm_run K ek_M_init 0 1 rfl ?_
  refine Sm_objInit K (eok_i (eo ek_M_init (i := 1) rfl) rfl) (lgm 761 (by decide +kernel) rfl) oi_im oi_co rfl (Nat.le_of_ble_eq_true rfl) (Nat.le_of_ble_eq_true rfl) ?_
  refine Sm_run K ek_M_init 2 2 rfl ?_
  obtain ⟨w1, e_w1, h⟩ := Option.bind_eq_some_iff.mp h
  obtain ⟨l_w1, rfl⟩ := nO_e e_w1
  refine Sm_na K (eok_i (eo ek_M_init (i := 4) rfl) rfl) ar_int (n := 87) (N := 87) (by decide) (by decide) (by decide) l_w1 (Nat.le_of_ble_eq_true rfl) (Nat.le_of_ble_eq_true rfl) ?_
  refine Sm_eq (st1 := [.ref (List.length w), .ref t]) (nc1 := 1) (ns1 := 87) rfl rfl rfl ?_
  obtain ⟨w2, e_w2, h⟩ := Option.bind_eq_some_iff.mp h
  refine Sm_pF K hn (eo ek_M_init (i := 5) rfl) rfl rfl e_w2 rfl rfl ?_
  refine Sm_run K ek_M_init 6 2 rfl ?_
  obtain ⟨w3, e_w3, h⟩ := Option.bind_eq_some_iff.mp h
  obtain ⟨l_w3, rfl⟩ := nO_e e_w3
  refine Sm_na K (eok_i (eo ek_M_init (i := 8) rfl) rfl) ar_int (n := 87) (N := 87) (by decide) (by decide) (by decide) l_w3 (Nat.le_of_ble_eq_true rfl) (Nat.le_of_ble_eq_true rfl) ?_
  refine Sm_eq (st1 := [.ref (List.length w2), .ref t]) (nc1 := 2) (ns1 := 174) rfl rfl rfl ?_
  obtain ⟨w4, e_w4, h⟩ := Option.bind_eq_some_iff.mp h
  refine Sm_pF K hn (eo ek_M_init (i := 9) rfl) rfl rfl e_w4 rfl rfl ?_
  refine Sm_run K ek_M_init 10 2 rfl ?_
  obtain ⟨w5, e_w5, h⟩ := Option.bind_eq_some_iff.mp h
  obtain ⟨l_w5, rfl⟩ := nO_e e_w5
  refine Sm_na K (eok_i (eo ek_M_init (i := 12) rfl) rfl) ar_int (n := 87) (N := 87) (by decide) (by decide) (by decide) l_w5 (Nat.le_of_ble_eq_true rfl) (Nat.le_of_ble_eq_true rfl) ?_
  refine Sm_eq (st1 := [.ref (List.length w4), .ref t]) (nc1 := 3) (ns1 := 261) rfl rfl rfl ?_
  obtain ⟨w6, e_w6, h⟩ := Option.bind_eq_some_iff.mp h
  refine Sm_pF K hn (eo ek_M_init (i := 13) rfl) rfl rfl e_w6 rfl rfl ?_
  refine Sm_run K ek_M_init 14 2 rfl ?_
  obtain ⟨w7, e_w7, h⟩ := Option.bind_eq_some_iff.mp h
  obtain ⟨l_w7, rfl⟩ := nO_e e_w7
  refine Sm_na K (eok_i (eo ek_M_init (i := 16) rfl) rfl) ar_int (n := 7) (N := 7) (by decide) (by decide) (by decide) l_w7 (Nat.le_of_ble_eq_true rfl) (Nat.le_of_ble_eq_true rfl) ?_
  refine Sm_eq (st1 := [.ref (List.length w6), .ref t]) (nc1 := 4) (ns1 := 268) rfl rfl rfl ?_
  obtain ⟨w8, e_w8, h⟩ := Option.bind_eq_some_iff.mp h
  refine Sm_pF K hn (eo ek_M_init (i := 17) rfl) rfl rfl e_w8 rfl rfl ?_
  refine Sm_run K ek_M_init 18 2 rfl ?_
  obtain ⟨w9, e_w9, h⟩ := Option.bind_eq_some_iff.mp h
  obtain ⟨l_w9, rfl⟩ := nO_e e_w9
  refine Sm_na K (eok_i (eo ek_M_init (i := 20) rfl) rfl) ar_int (n := 4) (N := 4) (by decide) (by decide) (by decide) l_w9 (Nat.le_of_ble_eq_true rfl) (Nat.le_of_ble_eq_true rfl) ?_
  refine Sm_eq (st1 := [.ref (List.length w8), .ref t]) (nc1 := 5) (ns1 := 272) rfl rfl rfl ?_
  obtain ⟨w10, e_w10, h⟩ := Option.bind_eq_some_iff.mp h
  refine Sm_pF K hn (eo ek_M_init (i := 21) rfl) rfl rfl e_w10 rfl rfl ?_
  refine Sm_run K ek_M_init 22 2 rfl ?_
  obtain ⟨w11, e_w11, h⟩ := Option.bind_eq_some_iff.mp h
  obtain ⟨l_w11, rfl⟩ := nO_e e_w11
  refine Sm_na K (eok_i (eo ek_M_init (i := 24) rfl) rfl) ar_int (n := 4) (N := 4) (by decide) (by decide) (by decide) l_w11 (Nat.le_of_ble_eq_true rfl) (Nat.le_of_ble_eq_true rfl) ?_
  refine Sm_eq (st1 := [.ref (List.length w10), .ref t]) (nc1 := 6) (ns1 := 276) rfl rfl rfl ?_
  obtain ⟨w12, e_w12, h⟩ := Option.bind_eq_some_iff.mp h
  refine Sm_pF K hn (eo ek_M_init (i := 25) rfl) rfl rfl e_w12 rfl rfl ?_
  refine Sm_run K ek_M_init 26 2 rfl ?_
  obtain ⟨w13, e_w13, h⟩ := Option.bind_eq_some_iff.mp h
  obtain ⟨l_w13, rfl⟩ := nO_e e_w13
  refine Sm_na K (eok_i (eo ek_M_init (i := 28) rfl) rfl) ar_int (n := 160) (N := 160) (by decide) (by decide) (by decide) l_w13 (Nat.le_of_ble_eq_true rfl) (Nat.le_of_ble_eq_true rfl) ?_
  refine Sm_eq (st1 := [.ref (List.length w12), .ref t]) (nc1 := 7) (ns1 := 436) rfl rfl rfl ?_
  obtain ⟨w14, e_w14, h⟩ := Option.bind_eq_some_iff.mp h
  refine Sm_pF K hn (eo ek_M_init (i := 29) rfl) rfl rfl e_w14 rfl rfl ?_
  refine Sm_run K ek_M_init 30 2 rfl ?_
  obtain ⟨w15, e_w15, h⟩ := Option.bind_eq_some_iff.mp h
  obtain ⟨l_w15, rfl⟩ := nO_e e_w15
  refine Sm_na K (eok_i (eo ek_M_init (i := 32) rfl) rfl) ar_int (n := 120) (N := 120) (by decide) (by decide) (by decide) l_w15 (Nat.le_of_ble_eq_true rfl) (Nat.le_of_ble_eq_true rfl) ?_
  refine Sm_eq (st1 := [.ref (List.length w14), .ref t]) (nc1 := 8) (ns1 := 556) rfl rfl rfl ?_
  obtain ⟨w16, e_w16, h⟩ := Option.bind_eq_some_iff.mp h
  refine Sm_pF K hn (eo ek_M_init (i := 33) rfl) rfl rfl e_w16 rfl rfl ?_
  refine Sm_run K ek_M_init 34 1 rfl ?_
  obtain ⟨a17, e_a17, h⟩ := Option.bind_eq_some_iff.mp h
  refine Sm_gr K (eo ek_M_init (i := 35) rfl) e_a17 ?_
  refine Sm_run K ek_M_init 36 2 rfl ?_
  obtain ⟨w18, e_w18, h⟩ := Option.bind_eq_some_iff.mp h
  refine Sm_wr K (eok_i (eo ek_M_init (i := 38) rfl) rfl) e_w18 ?_
  refine Sm_run K ek_M_init 39 4 rfl ?_
  refine Sm_ic_ge K (eo ek_M_init (i := 43) rfl) (fun c => absurd c (by decide)) (fun _ => ?_)
  refine Sm_run K ek_M_init 44 1 rfl ?_
  obtain ⟨a19, e_a19, h⟩ := Option.bind_eq_some_iff.mp h
  refine Sm_gr K (eo ek_M_init (i := 45) rfl) e_a19 ?_
  refine Sm_run K ek_M_init 46 2 rfl ?_
  obtain ⟨w20, e_w20, h⟩ := Option.bind_eq_some_iff.mp h
  refine Sm_wr K (eok_i (eo ek_M_init (i := 48) rfl) rfl) e_w20 ?_
  refine Sm_run K ek_M_init 49 2 rfl ?_
  refine Sm_run K ek_M_init 41 2 rfl ?_
  refine Sm_ic_ge K (eo ek_M_init (i := 43) rfl) (fun c => absurd c (by decide)) (fun _ => ?_)
  refine Sm_run K ek_M_init 44 1 rfl ?_
  obtain ⟨a21, e_a21, h⟩ := Option.bind_eq_some_iff.mp h
  refine Sm_gr K (eo ek_M_init (i := 45) rfl) e_a21 ?_
  refine Sm_run K ek_M_init 46 2 rfl ?_
  obtain ⟨w22, e_w22, h⟩ := Option.bind_eq_some_iff.mp h
  refine Sm_wr K (eok_i (eo ek_M_init (i := 48) rfl) rfl) e_w22 ?_
  refine Sm_run K ek_M_init 49 2 rfl ?_
  refine Sm_run K ek_M_init 41 2 rfl ?_
  refine Sm_ic_ge K (eo ek_M_init (i := 43) rfl) (fun c => absurd c (by decide)) (fun _ => ?_)
  refine Sm_run K ek_M_init 44 1 rfl ?_
  obtain ⟨a23, e_a23, h⟩ := Option.bind_eq_some_iff.mp h
  refine Sm_gr K (eo ek_M_init (i := 45) rfl) e_a23 ?_
  refine Sm_run K ek_M_init 46 2 rfl ?_
  obtain ⟨w24, e_w24, h⟩ := Option.bind_eq_some_iff.mp h
  refine Sm_wr K (eok_i (eo ek_M_init (i := 48) rfl) rfl) e_w24 ?_
  refine Sm_run K ek_M_init 49 2 rfl ?_
  refine Sm_run K ek_M_init 41 2 rfl ?_
  refine Sm_ic_ge K (eo ek_M_init (i := 43) rfl) (fun c => absurd c (by decide)) (fun _ => ?_)
  refine Sm_run K ek_M_init 44 1 rfl ?_
  obtain ⟨a25, e_a25, h⟩ := Option.bind_eq_some_iff.mp h
  refine Sm_gr K (eo ek_M_init (i := 45) rfl) e_a25 ?_
  refine Sm_run K ek_M_init 46 2 rfl ?_
  obtain ⟨w26, e_w26, h⟩ := Option.bind_eq_some_iff.mp h
  refine Sm_wr K (eok_i (eo ek_M_init (i := 48) rfl) rfl) e_w26 ?_
  refine Sm_run K ek_M_init 49 2 rfl ?_
  refine Sm_run K ek_M_init 41 2 rfl ?_
  refine Sm_ic_ge K (eo ek_M_init (i := 43) rfl) (fun c => absurd c (by decide)) (fun _ => ?_)
  refine Sm_run K ek_M_init 44 1 rfl ?_
  obtain ⟨a27, e_a27, h⟩ := Option.bind_eq_some_iff.mp h
  refine Sm_gr K (eo ek_M_init (i := 45) rfl) e_a27 ?_
  refine Sm_run K ek_M_init 46 2 rfl ?_
  obtain ⟨w28, e_w28, h⟩ := Option.bind_eq_some_iff.mp h
  refine Sm_wr K (eok_i (eo ek_M_init (i := 48) rfl) rfl) e_w28 ?_
  refine Sm_run K ek_M_init 49 2 rfl ?_
  refine Sm_run K ek_M_init 41 2 rfl ?_
  refine Sm_ic_ge K (eo ek_M_init (i := 43) rfl) (fun c => absurd c (by decide)) (fun _ => ?_)
  refine Sm_run K ek_M_init 44 1 rfl ?_
  obtain ⟨a29, e_a29, h⟩ := Option.bind_eq_some_iff.mp h
  refine Sm_gr K (eo ek_M_init (i := 45) rfl) e_a29 ?_
  refine Sm_run K ek_M_init 46 2 rfl ?_
  obtain ⟨w30, e_w30, h⟩ := Option.bind_eq_some_iff.mp h
  refine Sm_wr K (eok_i (eo ek_M_init (i := 48) rfl) rfl) e_w30 ?_
  refine Sm_run K ek_M_init 49 2 rfl ?_
  refine Sm_run K ek_M_init 41 2 rfl ?_
  refine Sm_ic_ge K (eo ek_M_init (i := 43) rfl) (fun c => absurd c (by decide)) (fun _ => ?_)
  refine Sm_run K ek_M_init 44 1 rfl ?_
  obtain ⟨a31, e_a31, h⟩ := Option.bind_eq_some_iff.mp h
  refine Sm_gr K (eo ek_M_init (i := 45) rfl) e_a31 ?_
  refine Sm_run K ek_M_init 46 2 rfl ?_
  obtain ⟨w32, e_w32, h⟩ := Option.bind_eq_some_iff.mp h
  refine Sm_wr K (eok_i (eo ek_M_init (i := 48) rfl) rfl) e_w32 ?_
  refine Sm_run K ek_M_init 49 2 rfl ?_
  refine Sm_run K ek_M_init 41 2 rfl ?_
  refine Sm_ic_ge K (eo ek_M_init (i := 43) rfl) (fun c => absurd c (by decide)) (fun _ => ?_)
  refine Sm_run K ek_M_init 44 1 rfl ?_
  obtain ⟨a33, e_a33, h⟩ := Option.bind_eq_some_iff.mp h
  refine Sm_gr K (eo ek_M_init (i := 45) rfl) e_a33 ?_
  refine Sm_run K ek_M_init 46 2 rfl ?_
  obtain ⟨w34, e_w34, h⟩ := Option.bind_eq_some_iff.mp h
  refine Sm_wr K (eok_i (eo ek_M_init (i := 48) rfl) rfl) e_w34 ?_
  refine Sm_run K ek_M_init 49 2 rfl ?_
  refine Sm_run K ek_M_init 41 2 rfl ?_
  refine Sm_ic_ge K (eo ek_M_init (i := 43) rfl) (fun c => absurd c (by decide)) (fun _ => ?_)
  refine Sm_run K ek_M_init 44 1 rfl ?_
  obtain ⟨a35, e_a35, h⟩ := Option.bind_eq_some_iff.mp h
  refine Sm_gr K (eo ek_M_init (i := 45) rfl) e_a35 ?_
  refine Sm_run K ek_M_init 46 2 rfl ?_
  obtain ⟨w36, e_w36, h⟩ := Option.bind_eq_some_iff.mp h
  refine Sm_wr K (eok_i (eo ek_M_init (i := 48) rfl) rfl) e_w36 ?_
  refine Sm_run K ek_M_init 49 2 rfl ?_
  refine Sm_run K ek_M_init 41 2 rfl ?_
  refine Sm_ic_ge K (eo ek_M_init (i := 43) rfl) (fun c => absurd c (by decide)) (fun _ => ?_)
  refine Sm_run K ek_M_init 44 1 rfl ?_
  obtain ⟨a37, e_a37, h⟩ := Option.bind_eq_some_iff.mp h
  refine Sm_gr K (eo ek_M_init (i := 45) rfl) e_a37 ?_
  refine Sm_run K ek_M_init 46 2 rfl ?_
  obtain ⟨w38, e_w38, h⟩ := Option.bind_eq_some_iff.mp h
  refine Sm_wr K (eok_i (eo ek_M_init (i := 48) rfl) rfl) e_w38 ?_
  refine Sm_run K ek_M_init 49 2 rfl ?_
  refine Sm_run K ek_M_init 41 2 rfl ?_
  refine Sm_ic_ge K (eo ek_M_init (i := 43) rfl) (fun _ => ?_) (fun c => absurd (by decide) c)
  obtain rfl := Option.some.inj h
  exact Sm_retv K hQ (eok_i (eo ek_M_init (i := 51) rfl) rfl)
