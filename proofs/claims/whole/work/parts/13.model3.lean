/-! EveningCloakModel.goes()V -/
abbrev c_M_goes : ByteArray := prog_6_method_38_code
def y_M_goes : MethodName := ⟨"EveningCloakModel", "goes", "()V"⟩
def rm_M_goes : Room := { frames := 4, cells := 0, slots := 0, locals := 93 }
theorem cy_M_goes : Cy y_M_goes c_M_goes 3 (none) 0 := ⟨lgm 947 (by decide +kernel) rfl, lgm 73 (by decide +kernel) rfl, by decide +kernel, by decide +kernel⟩
theorem im_M_goes : Cond.instanceMethod y_M_goes ∈ lg := lgm 946 (by decide +kernel) rfl
theorem se_M_goes : Cond.selects y_M_goes.cls y_M_goes y_M_goes ∈ lg := lgm 36 (by decide +kernel) rfl
def e_M_goes : List Ent := [
  (0, .aload_n 0, 1, 1, .null, 0, 0, 0),
  (1, .getfield 9, 3, 4, .null, 4, 0, 762),
  (4, .iconst 5, 1, 5, .int 5, 0, 0, 0),
  (5, .aload_n 0, 1, 6, .null, 0, 0, 0),
  (6, .getfield 9, 3, 9, .null, 4, 0, 762),
  (9, .iconst 0, 1, 10, .int 0, 0, 0, 0),
  (10, .iaload, 1, 11, .null, 0, 0, 0),
  (11, .bipush 6, 2, 13, .int 6, 0, 0, 0),
  (13, .irem, 1, 14, .null, 0, 0, 0),
  (14, .iadd, 1, 15, .null, 0, 0, 0),
  (15, .iaload, 1, 16, .null, 0, 0, 0),
  (16, .istore_n 1, 1, 17, .null, 0, 0, 0),
  (17, .aload_n 0, 1, 18, .null, 0, 0, 0),
  (18, .iload_n 1, 1, 19, .null, 0, 0, 0),
  (19, .bipush 100, 2, 21, .int 100, 0, 0, 0),
  (21, .idiv, 1, 22, .null, 0, 0, 0),
  (22, .invokevirtual 100, 3, 25, .null, 0, 0, 0),
  (25, .ifCond .eq 15, 3, 40, .null, 0, 0, 0),
  (28, .aload_n 0, 1, 29, .null, 0, 0, 0),
  (29, .iload_n 1, 1, 30, .null, 0, 0, 0),
  (30, .bipush 100, 2, 32, .int 100, 0, 0, 0),
  (32, .idiv, 1, 33, .null, 0, 0, 0),
  (33, .iload_n 1, 1, 34, .null, 0, 0, 0),
  (34, .bipush 100, 2, 36, .int 100, 0, 0, 0),
  (36, .irem, 1, 37, .null, 0, 0, 0),
  (37, .invokevirtual 109, 3, 40, .null, 0, 0, 0),
  (40, .aload_n 0, 1, 41, .null, 0, 0, 0),
  (41, .getfield 9, 3, 44, .null, 4, 0, 762),
  (44, .iconst 1, 1, 45, .int 1, 0, 0, 0),
  (45, .aload_n 0, 1, 46, .null, 0, 0, 0),
  (46, .getfield 9, 3, 49, .null, 4, 0, 762),
  (49, .iconst 1, 1, 50, .int 1, 0, 0, 0),
  (50, .iaload, 1, 51, .null, 0, 0, 0),
  (51, .aload_n 0, 1, 52, .null, 0, 0, 0),
  (52, .invokevirtual 113, 3, 55, .null, 0, 0, 0),
  (55, .iadd, 1, 56, .null, 0, 0, 0),
  (56, .iconst 0, 1, 57, .int 0, 0, 0, 0),
  (57, .ldc 117, 2, 59, .int 99999, 0, 0, 938),
  (59, .invokestatic 48, 3, 62, .null, 0, 0, 0),
  (62, .iastore, 1, 63, .null, 0, 0, 0),
  (63, .iconst 0, 1, 64, .int 0, 0, 0, 0),
  (64, .istore_n 2, 1, 65, .null, 0, 0, 0),
  (65, .iload_n 2, 1, 66, .null, 0, 0, 0),
  (66, .aload_n 0, 1, 67, .null, 0, 0, 0),
  (67, .getfield 9, 3, 70, .null, 4, 0, 762),
  (70, .iconst 3, 1, 71, .int 3, 0, 0, 0),
  (71, .iaload, 1, 72, .null, 0, 0, 0),
  (72, .if_icmp .ge 62, 3, 134, .null, 0, 0, 0),
  (75, .aload_n 0, 1, 76, .null, 0, 0, 0),
  (76, .iload_n 2, 1, 77, .null, 0, 0, 0),
  (77, .invokevirtual 55, 3, 80, .null, 0, 0, 0),
  (80, .ifCond .eq 48, 3, 128, .null, 0, 0, 0),
  (83, .aload_n 0, 1, 84, .null, 0, 0, 0),
  (84, .iload_n 2, 1, 85, .null, 0, 0, 0),
  (85, .iconst 4, 1, 86, .int 4, 0, 0, 0),
  (86, .aload_n 0, 1, 87, .null, 0, 0, 0),
  (87, .iload_n 2, 1, 88, .null, 0, 0, 0),
  (88, .iconst 4, 1, 89, .int 4, 0, 0, 0),
  (89, .invokevirtual 44, 3, 92, .null, 0, 0, 0),
  (92, .aload_n 0, 1, 93, .null, 0, 0, 0),
  (93, .iload_n 2, 1, 94, .null, 0, 0, 0),
  (94, .invokevirtual 91, 3, 97, .null, 0, 0, 0),
  (97, .iadd, 1, 98, .null, 0, 0, 0),
  (98, .iconst 0, 1, 99, .int 0, 0, 0, 0),
  (99, .bipush 99, 2, 101, .int 99, 0, 0, 0),
  (101, .invokestatic 48, 3, 104, .null, 0, 0, 0),
  (104, .invokevirtual 74, 3, 107, .null, 0, 0, 0),
  (107, .aload_n 0, 1, 108, .null, 0, 0, 0),
  (108, .iload_n 2, 1, 109, .null, 0, 0, 0),
  (109, .iconst 3, 1, 110, .int 3, 0, 0, 0),
  (110, .aload_n 0, 1, 111, .null, 0, 0, 0),
  (111, .iload_n 2, 1, 112, .null, 0, 0, 0),
  (112, .iconst 3, 1, 113, .int 3, 0, 0, 0),
  (113, .invokevirtual 44, 3, 116, .null, 0, 0, 0),
  (116, .iconst 1, 1, 117, .int 1, 0, 0, 0),
  (117, .iadd, 1, 118, .null, 0, 0, 0),
  (118, .iconst 0, 1, 119, .int 0, 0, 0, 0),
  (119, .sipush 9999, 3, 122, .int 9999, 0, 0, 0),
  (122, .invokestatic 48, 3, 125, .null, 0, 0, 0),
  (125, .invokevirtual 74, 3, 128, .null, 0, 0, 0),
  (128, .iinc 2 1, 3, 131, .int 1, 0, 0, 0),
  (131, .goto (-66), 3, 65, .null, 0, 0, 0),
  (134, .aload_n 0, 1, 135, .null, 0, 0, 0),
  (135, .getfield 9, 3, 138, .null, 4, 0, 762),
  (138, .iconst 0, 1, 139, .int 0, 0, 0, 0),
  (139, .aload_n 0, 1, 140, .null, 0, 0, 0),
  (140, .getfield 9, 3, 143, .null, 4, 0, 762),
  (143, .iconst 0, 1, 144, .int 0, 0, 0, 0),
  (144, .iaload, 1, 145, .null, 0, 0, 0),
  (145, .iconst 1, 1, 146, .int 1, 0, 0, 0),
  (146, .iadd, 1, 147, .null, 0, 0, 0),
  (147, .iconst 0, 1, 148, .int 0, 0, 0, 0),
  (148, .ldc 117, 2, 150, .int 99999, 0, 0, 938),
  (150, .invokestatic 48, 3, 153, .null, 0, 0, 0),
  (153, .iastore, 1, 154, .null, 0, 0, 0),
  (154, .return_, 1, 155, .null, 0, 0, 0)]
set_option maxRecDepth 100000 in
theorem ek_M_goes : e_M_goes.all (eok 4 c_M_goes) = true := by decide +kernel
def F_M_goes_128 (k65 : Nat → Int32 → A_W → Option (A_W)) (t : Nat) (x2 : Int32) (w : A_W) : Option (A_W) :=
  k65 t (x2 + 1) w
def F_M_goes_65 : Nat → Nat → Int32 → A_W → Option (A_W)
  | 0, _, _, _ => none
  | n + 1, t, x2, w =>
    (gr w t 4 0).bind fun a1 =>
    (rd w a1 3).bind fun v2 =>
    if v2 ≤ x2 then
      (gr w t 4 0).bind fun a4 =>
      (gr w t 4 0).bind fun a5 =>
      (rd w a5 0).bind fun v6 =>
      (F_M_held (v6 + 1) 0 99999 w).bind fun p7 =>
      (wr p7.2 a4 0 p7.1).bind fun w8 =>
      some w8
    else
      (ob w t 4).bind fun o10 =>
      (F_M_isHere t x2 w).bind fun p9 =>
      if p9.1 = 0 then
        F_M_goes_128 (F_M_goes_65 n) t x2 p9.2
      else
        (ob p9.2 t 4).bind fun o13 =>
        (F_M_it t x2 4 p9.2).bind fun p12 =>
        (ob p12.2 t 4).bind fun o15 =>
        (F_M_wears t x2 p12.2).bind fun p14 =>
        (F_M_held (p12.1 + p14.1) 0 99 p14.2).bind fun p16 =>
        (ob p16.2 t 4).bind fun o18 =>
        (F_M_put t x2 4 p16.1 p16.2).bind fun p17 =>
        (ob p17 t 4).bind fun o20 =>
        (F_M_it t x2 3 p17).bind fun p19 =>
        (F_M_held (p19.1 + 1) 0 9999 p19.2).bind fun p21 =>
        (ob p21.2 t 4).bind fun o23 =>
        (F_M_put t x2 3 p21.1 p21.2).bind fun p22 =>
        F_M_goes_128 (F_M_goes_65 n) t x2 p22
def F_M_goes_40 (t : Nat) (w : A_W) : Option (A_W) :=
  (gr w t 4 0).bind fun a1 =>
  (gr w t 4 0).bind fun a2 =>
  (rd w a2 1).bind fun v3 =>
  (ob w t 4).bind fun o5 =>
  (F_M_allCost t w).bind fun p4 =>
  (F_M_held (v3 + p4.1) 0 99999 p4.2).bind fun p6 =>
  (wr p6.2 a1 1 p6.1).bind fun w7 =>
  F_M_goes_65 FU t 0 w7
def F_M_goes_0 (t : Nat) (w : A_W) : Option (A_W) :=
  (gr w t 4 0).bind fun a1 =>
  (gr w t 4 0).bind fun a2 =>
  (rd w a2 0).bind fun v3 =>
  (rd w a1 (5 + (jrem v3 6))).bind fun v4 =>
  (ob w t 4).bind fun o6 =>
  (F_M_isGirl t (v4 / 100) w).bind fun p5 =>
  if p5.1 = 0 then
    F_M_goes_40 t p5.2
  else
    (ob p5.2 t 4).bind fun o9 =>
    (F_M_stands t (v4 / 100) (jrem v4 100) p5.2).bind fun p8 =>
    F_M_goes_40 t p8
set_option maxHeartbeats 4000000 in
set_option maxRecDepth 100000 in
theorem s_M_goes_128 {G : Gx} {X : Cx} {res : A_W} (K : Ok G X 4 c_M_goes 3 (none) rm_M_goes) (hQ : QQ G X none res 0 0) {k65 : Nat → Int32 → A_W → Option (A_W)} (hk65 : ∀ (t : Nat) (x2 : Int32) (w : A_W), k65 t x2 w = some res → Sm G X w 0 0 [some (.ref t), none, some (.int x2)] [] 65) (t : Nat) (x2 : Int32) (w : A_W) (h : F_M_goes_128 k65 t x2 w = some res) : Sm G X w 0 0 [some (.ref t), none, some (.int x2)] [] 128 := by
  unfold F_M_goes_128 at h
  refine Sm_run K ek_M_goes 80 2 rfl ?_
  exact Sm_le (leR_s (leR_n (leR_s leR_nil))) (hk65 _ _ _ h)
set_option maxHeartbeats 4000000 in
set_option maxRecDepth 100000 in
theorem s_M_goes_65 {G : Gx} {X : Cx} {res : A_W} (K : Ok G X 4 c_M_goes 3 (none) rm_M_goes) (hQ : QQ G X none res 0 0) : ∀ (n : Nat) (t : Nat) (x2 : Int32) (w : A_W), F_M_goes_65 n t x2 w = some res → Sm G X w 0 0 [some (.ref t), none, some (.int x2)] [] 65 := by
  intro n
  induction n with
  | zero => intro t x2 w h; cases h
  | succ n ih =>
    intro t x2 w h
    rw [F_M_goes_65] at h
    refine Sm_run K ek_M_goes 42 2 rfl ?_
    obtain ⟨a1, e_a1, h⟩ := Option.bind_eq_some_iff.mp h
    refine Sm_gr K (eo ek_M_goes (i := 44) rfl) e_a1 ?_
    refine Sm_run K ek_M_goes 45 1 rfl ?_
    obtain ⟨v2, e_v2, h⟩ := Option.bind_eq_some_iff.mp h
    refine Sm_rd K (eok_i (eo ek_M_goes (i := 46) rfl) rfl) e_v2 ?_
    refine Sm_ic_ge K (eo ek_M_goes (i := 47) rfl) (fun c3 => ?_) (fun c3 => ?_)
    · rw [if_pos c3] at h
      refine Sm_run K ek_M_goes 82 1 rfl ?_
      obtain ⟨a4, e_a4, h⟩ := Option.bind_eq_some_iff.mp h
      refine Sm_gr K (eo ek_M_goes (i := 83) rfl) e_a4 ?_
      refine Sm_run K ek_M_goes 84 2 rfl ?_
      obtain ⟨a5, e_a5, h⟩ := Option.bind_eq_some_iff.mp h
      refine Sm_gr K (eo ek_M_goes (i := 86) rfl) e_a5 ?_
      refine Sm_run K ek_M_goes 87 1 rfl ?_
      obtain ⟨v6, e_v6, h⟩ := Option.bind_eq_some_iff.mp h
      refine Sm_rd K (eok_i (eo ek_M_goes (i := 88) rfl) rfl) e_v6 ?_
      refine Sm_run K ek_M_goes 89 4 rfl ?_
      obtain ⟨p7, e_p7, h⟩ := Option.bind_eq_some_iff.mp h
      refine Sm_callS K (eok_i (eo ek_M_goes (i := 93) rfl) rfl) cy_M_held st_M_held (lgm 875 (by decide +kernel) rfl) ⟨Nat.le_of_ble_eq_true rfl, Nat.le_of_ble_eq_true rfl⟩ (as := [.int (v6 + 1), .int 0, .int 99999]) (st := [.int 0, .ref a4]) rfl rfl rfl (Nat.le_of_ble_eq_true rfl) ⟨Nat.le_of_ble_eq_true rfl, Nat.le_of_ble_eq_true rfl⟩ (cn_M_held e_p7) ?_
      refine Sm_eq (st1 := .int p7.1 :: [.int 0, .ref a4]) (nc1 := 0) (ns1 := 0) rfl rfl rfl ?_
      obtain ⟨w8, e_w8, h⟩ := Option.bind_eq_some_iff.mp h
      refine Sm_wr K (eok_i (eo ek_M_goes (i := 94) rfl) rfl) e_w8 ?_
      obtain rfl := Option.some.inj h
      exact Sm_retv K hQ (eok_i (eo ek_M_goes (i := 95) rfl) rfl)
    · rw [if_neg c3] at h
      refine Sm_run K ek_M_goes 48 2 rfl ?_
      obtain ⟨o10, e_o10, h⟩ := Option.bind_eq_some_iff.mp h
      obtain ⟨p9, e_p9, h⟩ := Option.bind_eq_some_iff.mp h
      refine Sm_callV K (eok_i (eo ek_M_goes (i := 50) rfl) rfl) cy_M_isHere im_M_isHere se_M_isHere (lgm 890 (by decide +kernel) rfl) ⟨Nat.le_of_ble_eq_true rfl, Nat.le_of_ble_eq_true rfl⟩ (as := [.int x2]) (b := t) (st := []) (ob_e e_o10) (by decide) rfl rfl rfl rfl (Nat.le_of_ble_eq_true rfl) ⟨Nat.le_of_ble_eq_true rfl, Nat.le_of_ble_eq_true rfl⟩ (cn_M_isHere e_p9) ?_
      refine Sm_eq (st1 := .int p9.1 :: []) (nc1 := 0) (ns1 := 0) rfl rfl rfl ?_
      refine Sm_if_eq K (eo ek_M_goes (i := 51) rfl) (fun c11 => ?_) (fun c11 => ?_)
      · rw [if_pos c11] at h
        exact Sm_le (leR_s (leR_n (leR_s leR_nil))) (s_M_goes_128 K hQ ih _ _ _ h)
      · rw [if_neg c11] at h
        refine Sm_run K ek_M_goes 52 6 rfl ?_
        obtain ⟨o13, e_o13, h⟩ := Option.bind_eq_some_iff.mp h
        obtain ⟨p12, e_p12, h⟩ := Option.bind_eq_some_iff.mp h
        refine Sm_callV K (eok_i (eo ek_M_goes (i := 58) rfl) rfl) cy_M_it im_M_it se_M_it (lgm 871 (by decide +kernel) rfl) ⟨Nat.le_of_ble_eq_true rfl, Nat.le_of_ble_eq_true rfl⟩ (as := [.int x2, .int 4]) (b := t) (st := [.int 4, .int x2, .ref t]) (ob_e e_o13) (by decide) rfl rfl rfl rfl (Nat.le_of_ble_eq_true rfl) ⟨Nat.le_of_ble_eq_true rfl, Nat.le_of_ble_eq_true rfl⟩ (cn_M_it e_p12) ?_
        refine Sm_eq (st1 := .int p12.1 :: [.int 4, .int x2, .ref t]) (nc1 := 0) (ns1 := 0) rfl rfl rfl ?_
        refine Sm_run K ek_M_goes 59 2 rfl ?_
        obtain ⟨o15, e_o15, h⟩ := Option.bind_eq_some_iff.mp h
        obtain ⟨p14, e_p14, h⟩ := Option.bind_eq_some_iff.mp h
        refine Sm_callV K (eok_i (eo ek_M_goes (i := 61) rfl) rfl) cy_M_wears im_M_wears se_M_wears (lgm 882 (by decide +kernel) rfl) ⟨Nat.le_of_ble_eq_true rfl, Nat.le_of_ble_eq_true rfl⟩ (as := [.int x2]) (b := t) (st := [.int p12.1, .int 4, .int x2, .ref t]) (ob_e e_o15) (by decide) rfl rfl rfl rfl (Nat.le_of_ble_eq_true rfl) ⟨Nat.le_of_ble_eq_true rfl, Nat.le_of_ble_eq_true rfl⟩ (cn_M_wears e_p14) ?_
        refine Sm_eq (st1 := .int p14.1 :: [.int p12.1, .int 4, .int x2, .ref t]) (nc1 := 0) (ns1 := 0) rfl rfl rfl ?_
        refine Sm_run K ek_M_goes 62 3 rfl ?_
        obtain ⟨p16, e_p16, h⟩ := Option.bind_eq_some_iff.mp h
        refine Sm_callS K (eok_i (eo ek_M_goes (i := 65) rfl) rfl) cy_M_held st_M_held (lgm 875 (by decide +kernel) rfl) ⟨Nat.le_of_ble_eq_true rfl, Nat.le_of_ble_eq_true rfl⟩ (as := [.int (p12.1 + p14.1), .int 0, .int 99]) (st := [.int 4, .int x2, .ref t]) rfl rfl rfl (Nat.le_of_ble_eq_true rfl) ⟨Nat.le_of_ble_eq_true rfl, Nat.le_of_ble_eq_true rfl⟩ (cn_M_held e_p16) ?_
        refine Sm_eq (st1 := .int p16.1 :: [.int 4, .int x2, .ref t]) (nc1 := 0) (ns1 := 0) rfl rfl rfl ?_
        obtain ⟨o18, e_o18, h⟩ := Option.bind_eq_some_iff.mp h
        obtain ⟨p17, e_p17, h⟩ := Option.bind_eq_some_iff.mp h
        refine Sm_callV K (eok_i (eo ek_M_goes (i := 66) rfl) rfl) cy_M_put im_M_put se_M_put (lgm 843 (by decide +kernel) rfl) ⟨Nat.le_of_ble_eq_true rfl, Nat.le_of_ble_eq_true rfl⟩ (as := [.int x2, .int 4, .int p16.1]) (b := t) (st := []) (ob_e e_o18) (by decide) rfl rfl rfl rfl (Nat.le_of_ble_eq_true rfl) ⟨Nat.le_of_ble_eq_true rfl, Nat.le_of_ble_eq_true rfl⟩ (cn_M_put e_p17) ?_
        refine Sm_eq (st1 := []) (nc1 := 0) (ns1 := 0) rfl rfl rfl ?_
        refine Sm_run K ek_M_goes 67 6 rfl ?_
        obtain ⟨o20, e_o20, h⟩ := Option.bind_eq_some_iff.mp h
        obtain ⟨p19, e_p19, h⟩ := Option.bind_eq_some_iff.mp h
        refine Sm_callV K (eok_i (eo ek_M_goes (i := 73) rfl) rfl) cy_M_it im_M_it se_M_it (lgm 871 (by decide +kernel) rfl) ⟨Nat.le_of_ble_eq_true rfl, Nat.le_of_ble_eq_true rfl⟩ (as := [.int x2, .int 3]) (b := t) (st := [.int 3, .int x2, .ref t]) (ob_e e_o20) (by decide) rfl rfl rfl rfl (Nat.le_of_ble_eq_true rfl) ⟨Nat.le_of_ble_eq_true rfl, Nat.le_of_ble_eq_true rfl⟩ (cn_M_it e_p19) ?_
        refine Sm_eq (st1 := .int p19.1 :: [.int 3, .int x2, .ref t]) (nc1 := 0) (ns1 := 0) rfl rfl rfl ?_
        refine Sm_run K ek_M_goes 74 4 rfl ?_
        obtain ⟨p21, e_p21, h⟩ := Option.bind_eq_some_iff.mp h
        refine Sm_callS K (eok_i (eo ek_M_goes (i := 78) rfl) rfl) cy_M_held st_M_held (lgm 875 (by decide +kernel) rfl) ⟨Nat.le_of_ble_eq_true rfl, Nat.le_of_ble_eq_true rfl⟩ (as := [.int (p19.1 + 1), .int 0, .int 9999]) (st := [.int 3, .int x2, .ref t]) rfl rfl rfl (Nat.le_of_ble_eq_true rfl) ⟨Nat.le_of_ble_eq_true rfl, Nat.le_of_ble_eq_true rfl⟩ (cn_M_held e_p21) ?_
        refine Sm_eq (st1 := .int p21.1 :: [.int 3, .int x2, .ref t]) (nc1 := 0) (ns1 := 0) rfl rfl rfl ?_
        obtain ⟨o23, e_o23, h⟩ := Option.bind_eq_some_iff.mp h
        obtain ⟨p22, e_p22, h⟩ := Option.bind_eq_some_iff.mp h
        refine Sm_callV K (eok_i (eo ek_M_goes (i := 79) rfl) rfl) cy_M_put im_M_put se_M_put (lgm 843 (by decide +kernel) rfl) ⟨Nat.le_of_ble_eq_true rfl, Nat.le_of_ble_eq_true rfl⟩ (as := [.int x2, .int 3, .int p21.1]) (b := t) (st := []) (ob_e e_o23) (by decide) rfl rfl rfl rfl (Nat.le_of_ble_eq_true rfl) ⟨Nat.le_of_ble_eq_true rfl, Nat.le_of_ble_eq_true rfl⟩ (cn_M_put e_p22) ?_
        refine Sm_eq (st1 := []) (nc1 := 0) (ns1 := 0) rfl rfl rfl ?_
        exact Sm_le (leR_s (leR_n (leR_s leR_nil))) (s_M_goes_128 K hQ ih _ _ _ h)
set_option maxHeartbeats 4000000 in
set_option maxRecDepth 100000 in
theorem s_M_goes_40 {G : Gx} {X : Cx} {res : A_W} (K : Ok G X 4 c_M_goes 3 (none) rm_M_goes) (hQ : QQ G X none res 0 0) (t : Nat) (w : A_W) (h : F_M_goes_40 t w = some res) : Sm G X w 0 0 [some (.ref t), none, none] [] 40 := by
  unfold F_M_goes_40 at h
  refine Sm_run K ek_M_goes 26 1 rfl ?_
  obtain ⟨a1, e_a1, h⟩ := Option.bind_eq_some_iff.mp h
  refine Sm_gr K (eo ek_M_goes (i := 27) rfl) e_a1 ?_
  refine Sm_run K ek_M_goes 28 2 rfl ?_
  obtain ⟨a2, e_a2, h⟩ := Option.bind_eq_some_iff.mp h
  refine Sm_gr K (eo ek_M_goes (i := 30) rfl) e_a2 ?_
  refine Sm_run K ek_M_goes 31 1 rfl ?_
  obtain ⟨v3, e_v3, h⟩ := Option.bind_eq_some_iff.mp h
  refine Sm_rd K (eok_i (eo ek_M_goes (i := 32) rfl) rfl) e_v3 ?_
  refine Sm_run K ek_M_goes 33 1 rfl ?_
  obtain ⟨o5, e_o5, h⟩ := Option.bind_eq_some_iff.mp h
  obtain ⟨p4, e_p4, h⟩ := Option.bind_eq_some_iff.mp h
  refine Sm_callV K (eok_i (eo ek_M_goes (i := 34) rfl) rfl) cy_M_allCost im_M_allCost se_M_allCost (lgm 952 (by decide +kernel) rfl) ⟨Nat.le_of_ble_eq_true rfl, Nat.le_of_ble_eq_true rfl⟩ (as := []) (b := t) (st := [.int v3, .int 1, .ref a1]) (ob_e e_o5) (by decide) rfl rfl rfl rfl (Nat.le_of_ble_eq_true rfl) ⟨Nat.le_of_ble_eq_true rfl, Nat.le_of_ble_eq_true rfl⟩ (cn_M_allCost e_p4) ?_
  refine Sm_eq (st1 := .int p4.1 :: [.int v3, .int 1, .ref a1]) (nc1 := 0) (ns1 := 0) rfl rfl rfl ?_
  refine Sm_run K ek_M_goes 35 3 rfl ?_
  obtain ⟨p6, e_p6, h⟩ := Option.bind_eq_some_iff.mp h
  refine Sm_callS K (eok_i (eo ek_M_goes (i := 38) rfl) rfl) cy_M_held st_M_held (lgm 875 (by decide +kernel) rfl) ⟨Nat.le_of_ble_eq_true rfl, Nat.le_of_ble_eq_true rfl⟩ (as := [.int (v3 + p4.1), .int 0, .int 99999]) (st := [.int 1, .ref a1]) rfl rfl rfl (Nat.le_of_ble_eq_true rfl) ⟨Nat.le_of_ble_eq_true rfl, Nat.le_of_ble_eq_true rfl⟩ (cn_M_held e_p6) ?_
  refine Sm_eq (st1 := .int p6.1 :: [.int 1, .ref a1]) (nc1 := 0) (ns1 := 0) rfl rfl rfl ?_
  obtain ⟨w7, e_w7, h⟩ := Option.bind_eq_some_iff.mp h
  refine Sm_wr K (eok_i (eo ek_M_goes (i := 39) rfl) rfl) e_w7 ?_
  refine Sm_run K ek_M_goes 40 2 rfl ?_
  exact Sm_le (leR_s (leR_n (leR_s leR_nil))) (s_M_goes_65 K hQ FU _ _ _ h)
set_option maxHeartbeats 4000000 in
set_option maxRecDepth 100000 in
theorem s_M_goes_0 {G : Gx} {X : Cx} {res : A_W} (K : Ok G X 4 c_M_goes 3 (none) rm_M_goes) (hQ : QQ G X none res 0 0) (t : Nat) (w : A_W) (h : F_M_goes_0 t w = some res) : Sm G X w 0 0 [some (.ref t), none, none] [] 0 := by
  unfold F_M_goes_0 at h
  refine Sm_run K ek_M_goes 0 1 rfl ?_
  obtain ⟨a1, e_a1, h⟩ := Option.bind_eq_some_iff.mp h
  refine Sm_gr K (eo ek_M_goes (i := 1) rfl) e_a1 ?_
  refine Sm_run K ek_M_goes 2 2 rfl ?_
  obtain ⟨a2, e_a2, h⟩ := Option.bind_eq_some_iff.mp h
  refine Sm_gr K (eo ek_M_goes (i := 4) rfl) e_a2 ?_
  refine Sm_run K ek_M_goes 5 1 rfl ?_
  obtain ⟨v3, e_v3, h⟩ := Option.bind_eq_some_iff.mp h
  refine Sm_rd K (eok_i (eo ek_M_goes (i := 6) rfl) rfl) e_v3 ?_
  refine Sm_run K ek_M_goes 7 1 rfl ?_
  refine Sm_irem K (eok_i (eo ek_M_goes (i := 8) rfl) rfl) (by decide) ?_
  refine Sm_run K ek_M_goes 9 1 rfl ?_
  obtain ⟨v4, e_v4, h⟩ := Option.bind_eq_some_iff.mp h
  refine Sm_rd K (eok_i (eo ek_M_goes (i := 10) rfl) rfl) e_v4 ?_
  refine Sm_run K ek_M_goes 11 4 rfl ?_
  refine Sm_idiv K (eok_i (eo ek_M_goes (i := 15) rfl) rfl) (by decide) ?_
  obtain ⟨o6, e_o6, h⟩ := Option.bind_eq_some_iff.mp h
  obtain ⟨p5, e_p5, h⟩ := Option.bind_eq_some_iff.mp h
  refine Sm_callV K (eok_i (eo ek_M_goes (i := 16) rfl) rfl) cy_M_isGirl im_M_isGirl se_M_isGirl (lgm 909 (by decide +kernel) rfl) ⟨Nat.le_of_ble_eq_true rfl, Nat.le_of_ble_eq_true rfl⟩ (as := [.int (v4 / 100)]) (b := t) (st := []) (ob_e e_o6) (by decide) rfl rfl rfl rfl (Nat.le_of_ble_eq_true rfl) ⟨Nat.le_of_ble_eq_true rfl, Nat.le_of_ble_eq_true rfl⟩ (cn_M_isGirl e_p5) ?_
  refine Sm_eq (st1 := .int p5.1 :: []) (nc1 := 0) (ns1 := 0) rfl rfl rfl ?_
  refine Sm_if_eq K (eo ek_M_goes (i := 17) rfl) (fun c7 => ?_) (fun c7 => ?_)
  · rw [if_pos c7] at h
    exact Sm_le (leR_s (leR_n (leR_n leR_nil))) (s_M_goes_40 K hQ _ _ h)
  · rw [if_neg c7] at h
    refine Sm_run K ek_M_goes 18 3 rfl ?_
    refine Sm_idiv K (eok_i (eo ek_M_goes (i := 21) rfl) rfl) (by decide) ?_
    refine Sm_run K ek_M_goes 22 2 rfl ?_
    refine Sm_irem K (eok_i (eo ek_M_goes (i := 24) rfl) rfl) (by decide) ?_
    obtain ⟨o9, e_o9, h⟩ := Option.bind_eq_some_iff.mp h
    obtain ⟨p8, e_p8, h⟩ := Option.bind_eq_some_iff.mp h
    refine Sm_callV K (eok_i (eo ek_M_goes (i := 25) rfl) rfl) cy_M_stands im_M_stands se_M_stands (lgm 948 (by decide +kernel) rfl) ⟨Nat.le_of_ble_eq_true rfl, Nat.le_of_ble_eq_true rfl⟩ (as := [.int (v4 / 100), .int (jrem v4 100)]) (b := t) (st := []) (ob_e e_o9) (by decide) rfl rfl rfl rfl (Nat.le_of_ble_eq_true rfl) ⟨Nat.le_of_ble_eq_true rfl, Nat.le_of_ble_eq_true rfl⟩ (cn_M_stands e_p8) ?_
    refine Sm_eq (st1 := []) (nc1 := 0) (ns1 := 0) rfl rfl rfl ?_
    exact Sm_le (leR_s (leR_n (leR_n leR_nil))) (s_M_goes_40 K hQ _ _ h)
def F_M_goes (t : Nat) (w : A_W) : Option (A_W) := F_M_goes_0 t w
theorem cn_M_goes {G : Gx} {t : Nat} {w : A_W} {res : A_W} (h : F_M_goes t w = some res) : Cn G y_M_goes c_M_goes 3 (none) rm_M_goes [.ref t] w none res :=
  Cn_of (own := 4) cy_M_goes rfl rfl (Nat.le_of_ble_eq_true rfl) rfl (fun X K _ hQ => Sm_le (leR_s (leR_n (leR_n leR_nil))) (s_M_goes_0 K hQ _ _ h))
/-! EveningCloakModel.goesFor(I)V -/
abbrev c_M_goesFor : ByteArray := prog_6_method_39_code
def y_M_goesFor : MethodName := ⟨"EveningCloakModel", "goesFor", "(I)V"⟩
def rm_M_goesFor : Room := { frames := 5, cells := 0, slots := 0, locals := 115 }
theorem cy_M_goesFor : Cy y_M_goesFor c_M_goesFor 3 (none) 1 := ⟨lgm 943 (by decide +kernel) rfl, lgm 73 (by decide +kernel) rfl, by decide +kernel, by decide +kernel⟩
theorem im_M_goesFor : Cond.instanceMethod y_M_goesFor ∈ lg := lgm 942 (by decide +kernel) rfl
theorem se_M_goesFor : Cond.selects y_M_goesFor.cls y_M_goesFor y_M_goesFor ∈ lg := lgm 35 (by decide +kernel) rfl
def e_M_goesFor : List Ent := [
  (0, .iconst 0, 1, 1, .int 0, 0, 0, 0),
  (1, .istore_n 2, 1, 2, .null, 0, 0, 0),
  (2, .iload_n 2, 1, 3, .null, 0, 0, 0),
  (3, .iload_n 1, 1, 4, .null, 0, 0, 0),
  (4, .if_icmp .ge 13, 3, 17, .null, 0, 0, 0),
  (7, .aload_n 0, 1, 8, .null, 0, 0, 0),
  (8, .invokevirtual 118, 3, 11, .null, 0, 0, 0),
  (11, .iinc 2 1, 3, 14, .int 1, 0, 0, 0),
  (14, .goto (-12), 3, 2, .null, 0, 0, 0),
  (17, .return_, 1, 18, .null, 0, 0, 0)]
set_option maxRecDepth 100000 in
theorem ek_M_goesFor : e_M_goesFor.all (eok 4 c_M_goesFor) = true := by decide +kernel
def F_M_goesFor_2 : Nat → Nat → Int32 → Int32 → A_W → Option (A_W)
  | 0, _, _, _, _ => none
  | n + 1, t, x1, x2, w =>
    if x1 ≤ x2 then
      some w
    else
      (ob w t 4).bind fun o3 =>
      (F_M_goes t w).bind fun p2 =>
      F_M_goesFor_2 n t x1 (x2 + 1) p2
def F_M_goesFor_0 (t : Nat) (x1 : Int32) (w : A_W) : Option (A_W) :=
  F_M_goesFor_2 FU t x1 0 w
set_option maxHeartbeats 4000000 in
set_option maxRecDepth 100000 in
theorem s_M_goesFor_2 {G : Gx} {X : Cx} {res : A_W} (K : Ok G X 4 c_M_goesFor 3 (none) rm_M_goesFor) (hQ : QQ G X none res 0 0) : ∀ (n : Nat) (t : Nat) (x1 : Int32) (x2 : Int32) (w : A_W), F_M_goesFor_2 n t x1 x2 w = some res → Sm G X w 0 0 [some (.ref t), some (.int x1), some (.int x2)] [] 2 := by
  intro n
  induction n with
  | zero => intro t x1 x2 w h; cases h
  | succ n ih =>
    intro t x1 x2 w h
    rw [F_M_goesFor_2] at h
    refine Sm_run K ek_M_goesFor 2 2 rfl ?_
    refine Sm_ic_ge K (eo ek_M_goesFor (i := 4) rfl) (fun c1 => ?_) (fun c1 => ?_)
    · rw [if_pos c1] at h
      obtain rfl := Option.some.inj h
      exact Sm_retv K hQ (eok_i (eo ek_M_goesFor (i := 9) rfl) rfl)
    · rw [if_neg c1] at h
      refine Sm_run K ek_M_goesFor 5 1 rfl ?_
      obtain ⟨o3, e_o3, h⟩ := Option.bind_eq_some_iff.mp h
      obtain ⟨p2, e_p2, h⟩ := Option.bind_eq_some_iff.mp h
      refine Sm_callV K (eok_i (eo ek_M_goesFor (i := 6) rfl) rfl) cy_M_goes im_M_goes se_M_goes (lgm 944 (by decide +kernel) rfl) ⟨Nat.le_of_ble_eq_true rfl, Nat.le_of_ble_eq_true rfl⟩ (as := []) (b := t) (st := []) (ob_e e_o3) (by decide) rfl rfl rfl rfl (Nat.le_of_ble_eq_true rfl) ⟨Nat.le_of_ble_eq_true rfl, Nat.le_of_ble_eq_true rfl⟩ (cn_M_goes e_p2) ?_
      refine Sm_eq (st1 := []) (nc1 := 0) (ns1 := 0) rfl rfl rfl ?_
      refine Sm_run K ek_M_goesFor 7 2 rfl ?_
      exact Sm_le (leR_s (leR_s (leR_s leR_nil))) (ih _ _ _ _ h)
set_option maxHeartbeats 4000000 in
set_option maxRecDepth 100000 in
theorem s_M_goesFor_0 {G : Gx} {X : Cx} {res : A_W} (K : Ok G X 4 c_M_goesFor 3 (none) rm_M_goesFor) (hQ : QQ G X none res 0 0) (t : Nat) (x1 : Int32) (w : A_W) (h : F_M_goesFor_0 t x1 w = some res) : Sm G X w 0 0 [some (.ref t), some (.int x1), none] [] 0 := by
  unfold F_M_goesFor_0 at h
  refine Sm_run K ek_M_goesFor 0 2 rfl ?_
  exact Sm_le (leR_s (leR_s (leR_s leR_nil))) (s_M_goesFor_2 K hQ FU _ _ _ _ h)
def F_M_goesFor (t : Nat) (x1 : Int32) (w : A_W) : Option (A_W) := F_M_goesFor_0 t x1 w
theorem cn_M_goesFor {G : Gx} {t : Nat} {x1 : Int32} {w : A_W} {res : A_W} (h : F_M_goesFor t x1 w = some res) : Cn G y_M_goesFor c_M_goesFor 3 (none) rm_M_goesFor [.ref t, .int x1] w none res :=
  Cn_of (own := 4) cy_M_goesFor rfl rfl (Nat.le_of_ble_eq_true rfl) rfl (fun X K _ hQ => Sm_le (leR_s (leR_s (leR_n leR_nil))) (s_M_goesFor_0 K hQ _ _ _ h))
/-! EveningCloakModel.go(I)I -/
abbrev c_M_go : ByteArray := prog_6_method_40_code
def y_M_go : MethodName := ⟨"EveningCloakModel", "go", "(I)I"⟩
def rm_M_go : Room := { frames := 6, cells := 0, slots := 0, locals := 137 }
theorem cy_M_go : Cy y_M_go c_M_go 2 (some .int) 1 := ⟨lgm 937 (by decide +kernel) rfl, lgm 73 (by decide +kernel) rfl, by decide +kernel, by decide +kernel⟩
theorem im_M_go : Cond.instanceMethod y_M_go ∈ lg := lgm 935 (by decide +kernel) rfl
theorem se_M_go : Cond.selects y_M_go.cls y_M_go y_M_go ∈ lg := lgm 936 (by decide +kernel) rfl
def e_M_go : List Ent := [
  (0, .iload_n 1, 1, 1, .null, 0, 0, 0),
  (1, .iconst 1, 1, 2, .int 1, 0, 0, 0),
  (2, .bipush 60, 2, 4, .int 60, 0, 0, 0),
  (4, .invokestatic 40, 3, 7, .null, 0, 0, 0),
  (7, .ifCond .ne 10, 3, 17, .null, 0, 0, 0),
  (10, .aload_n 0, 1, 11, .null, 0, 0, 0),
  (11, .ldc 34, 2, 13, .int (-1000001), 0, 0, 825),
  (13, .invokevirtual 36, 3, 16, .null, 0, 0, 0),
  (16, .ireturn, 1, 17, .null, 0, 0, 0),
  (17, .aload_n 0, 1, 18, .null, 0, 0, 0),
  (18, .getfield 9, 3, 21, .null, 4, 0, 762),
  (21, .iconst 0, 1, 22, .int 0, 0, 0, 0),
  (22, .iaload, 1, 23, .null, 0, 0, 0),
  (23, .iload_n 1, 1, 24, .null, 0, 0, 0),
  (24, .iadd, 1, 25, .null, 0, 0, 0),
  (25, .ldc 117, 2, 27, .int 99999, 0, 0, 938),
  (27, .if_icmp .le 10, 3, 37, .null, 0, 0, 0),
  (30, .aload_n 0, 1, 31, .null, 0, 0, 0),
  (31, .ldc 121, 2, 33, .int (-1000005), 0, 0, 939),
  (33, .invokevirtual 36, 3, 36, .null, 0, 0, 0),
  (36, .ireturn, 1, 37, .null, 0, 0, 0),
  (37, .aload_n 0, 1, 38, .null, 0, 0, 0),
  (38, .iload_n 1, 1, 39, .null, 0, 0, 0),
  (39, .invokevirtual 122, 3, 42, .null, 0, 0, 0),
  (42, .aload_n 0, 1, 43, .null, 0, 0, 0),
  (43, .getfield 9, 3, 46, .null, 4, 0, 762),
  (46, .iconst 1, 1, 47, .int 1, 0, 0, 0),
  (47, .iaload, 1, 48, .null, 0, 0, 0),
  (48, .ireturn, 1, 49, .null, 0, 0, 0)]
set_option maxRecDepth 100000 in
theorem ek_M_go : e_M_go.all (eok 4 c_M_go) = true := by decide +kernel
def F_M_go_0 (t : Nat) (x1 : Int32) (w : A_W) : Option (Int32 × A_W) :=
  (F_M_in x1 1 60 w).bind fun p1 =>
  if p1.1 = 0 then
    (ob p1.2 t 4).bind fun o13 =>
    (F_M_finds t (-1000001) p1.2).bind fun p12 =>
    some (p12.1, p12.2)
  else
    (gr p1.2 t 4 0).bind fun a3 =>
    (rd p1.2 a3 0).bind fun v4 =>
    if (v4 + x1) ≤ 99999 then
      (ob p1.2 t 4).bind fun o7 =>
      (F_M_goesFor t x1 p1.2).bind fun p6 =>
      (gr p6 t 4 0).bind fun a8 =>
      (rd p6 a8 1).bind fun v9 =>
      some (v9, p6)
    else
      (ob p1.2 t 4).bind fun o11 =>
      (F_M_finds t (-1000005) p1.2).bind fun p10 =>
      some (p10.1, p10.2)
set_option maxHeartbeats 4000000 in
set_option maxRecDepth 100000 in
theorem s_M_go_0 {G : Gx} {X : Cx} {res : Int32 × A_W} (K : Ok G X 4 c_M_go 2 (some .int) rm_M_go) (hQ : QQ G X (some (.int res.1)) res.2 0 0) (t : Nat) (x1 : Int32) (w : A_W) (h : F_M_go_0 t x1 w = some res) : Sm G X w 0 0 [some (.ref t), some (.int x1)] [] 0 := by
  unfold F_M_go_0 at h
  refine Sm_run K ek_M_go 0 3 rfl ?_
  obtain ⟨p1, e_p1, h⟩ := Option.bind_eq_some_iff.mp h
  refine Sm_callS K (eok_i (eo ek_M_go (i := 3) rfl) rfl) cy_M_in st_M_in (lgm 815 (by decide +kernel) rfl) ⟨Nat.le_of_ble_eq_true rfl, Nat.le_of_ble_eq_true rfl⟩ (as := [.int x1, .int 1, .int 60]) (st := []) rfl rfl rfl (Nat.le_of_ble_eq_true rfl) ⟨Nat.le_of_ble_eq_true rfl, Nat.le_of_ble_eq_true rfl⟩ (cn_M_in e_p1) ?_
  refine Sm_eq (st1 := .int p1.1 :: []) (nc1 := 0) (ns1 := 0) rfl rfl rfl ?_
  refine Sm_if_ne K (eo ek_M_go (i := 4) rfl) (fun c2 => ?_) (fun c2 => ?_)
  · rw [if_neg c2] at h
    refine Sm_run K ek_M_go 9 1 rfl ?_
    obtain ⟨a3, e_a3, h⟩ := Option.bind_eq_some_iff.mp h
    refine Sm_gr K (eo ek_M_go (i := 10) rfl) e_a3 ?_
    refine Sm_run K ek_M_go 11 1 rfl ?_
    obtain ⟨v4, e_v4, h⟩ := Option.bind_eq_some_iff.mp h
    refine Sm_rd K (eok_i (eo ek_M_go (i := 12) rfl) rfl) e_v4 ?_
    refine Sm_run K ek_M_go 13 3 rfl ?_
    refine Sm_ic_le K (eo ek_M_go (i := 16) rfl) (fun c5 => ?_) (fun c5 => ?_)
    · rw [if_pos c5] at h
      refine Sm_run K ek_M_go 21 2 rfl ?_
      obtain ⟨o7, e_o7, h⟩ := Option.bind_eq_some_iff.mp h
      obtain ⟨p6, e_p6, h⟩ := Option.bind_eq_some_iff.mp h
      refine Sm_callV K (eok_i (eo ek_M_go (i := 23) rfl) rfl) cy_M_goesFor im_M_goesFor se_M_goesFor (lgm 940 (by decide +kernel) rfl) ⟨Nat.le_of_ble_eq_true rfl, Nat.le_of_ble_eq_true rfl⟩ (as := [.int x1]) (b := t) (st := []) (ob_e e_o7) (by decide) rfl rfl rfl rfl (Nat.le_of_ble_eq_true rfl) ⟨Nat.le_of_ble_eq_true rfl, Nat.le_of_ble_eq_true rfl⟩ (cn_M_goesFor e_p6) ?_
      refine Sm_eq (st1 := []) (nc1 := 0) (ns1 := 0) rfl rfl rfl ?_
      refine Sm_run K ek_M_go 24 1 rfl ?_
      obtain ⟨a8, e_a8, h⟩ := Option.bind_eq_some_iff.mp h
      refine Sm_gr K (eo ek_M_go (i := 25) rfl) e_a8 ?_
      refine Sm_run K ek_M_go 26 1 rfl ?_
      obtain ⟨v9, e_v9, h⟩ := Option.bind_eq_some_iff.mp h
      refine Sm_rd K (eok_i (eo ek_M_go (i := 27) rfl) rfl) e_v9 ?_
      obtain rfl := Option.some.inj h
      exact Sm_reti K hQ (eok_i (eo ek_M_go (i := 28) rfl) rfl)
    · rw [if_neg c5] at h
      refine Sm_run K ek_M_go 17 2 rfl ?_
      obtain ⟨o11, e_o11, h⟩ := Option.bind_eq_some_iff.mp h
      obtain ⟨p10, e_p10, h⟩ := Option.bind_eq_some_iff.mp h
      refine Sm_callV K (eok_i (eo ek_M_go (i := 19) rfl) rfl) cy_M_finds im_M_finds se_M_finds (lgm 826 (by decide +kernel) rfl) ⟨Nat.le_of_ble_eq_true rfl, Nat.le_of_ble_eq_true rfl⟩ (as := [.int (-1000005)]) (b := t) (st := []) (ob_e e_o11) (by decide) rfl rfl rfl rfl (Nat.le_of_ble_eq_true rfl) ⟨Nat.le_of_ble_eq_true rfl, Nat.le_of_ble_eq_true rfl⟩ (cn_M_finds e_p10) ?_
      refine Sm_eq (st1 := .int p10.1 :: []) (nc1 := 0) (ns1 := 0) rfl rfl rfl ?_
      obtain rfl := Option.some.inj h
      exact Sm_reti K hQ (eok_i (eo ek_M_go (i := 20) rfl) rfl)
  · rw [if_pos c2] at h
    refine Sm_run K ek_M_go 5 2 rfl ?_
    obtain ⟨o13, e_o13, h⟩ := Option.bind_eq_some_iff.mp h
    obtain ⟨p12, e_p12, h⟩ := Option.bind_eq_some_iff.mp h
    refine Sm_callV K (eok_i (eo ek_M_go (i := 7) rfl) rfl) cy_M_finds im_M_finds se_M_finds (lgm 826 (by decide +kernel) rfl) ⟨Nat.le_of_ble_eq_true rfl, Nat.le_of_ble_eq_true rfl⟩ (as := [.int (-1000001)]) (b := t) (st := []) (ob_e e_o13) (by decide) rfl rfl rfl rfl (Nat.le_of_ble_eq_true rfl) ⟨Nat.le_of_ble_eq_true rfl, Nat.le_of_ble_eq_true rfl⟩ (cn_M_finds e_p12) ?_
    refine Sm_eq (st1 := .int p12.1 :: []) (nc1 := 0) (ns1 := 0) rfl rfl rfl ?_
    obtain rfl := Option.some.inj h
    exact Sm_reti K hQ (eok_i (eo ek_M_go (i := 8) rfl) rfl)
def F_M_go (t : Nat) (x1 : Int32) (w : A_W) : Option (Int32 × A_W) := F_M_go_0 t x1 w
theorem cn_M_go {G : Gx} {t : Nat} {x1 : Int32} {w : A_W} {res : Int32 × A_W} (h : F_M_go t x1 w = some res) : Cn G y_M_go c_M_go 2 (some .int) rm_M_go [.ref t, .int x1] w (some (.int res.1)) res.2 :=
  Cn_of (own := 4) cy_M_go rfl rfl (Nat.le_of_ble_eq_true rfl) rfl (fun X K _ hQ => Sm_le (leR_s (leR_s leR_nil)) (s_M_go_0 K hQ _ _ _ h))
/-! EveningCloakModel.sums(I)I -/
abbrev c_M_sums : ByteArray := prog_6_method_41_code
def y_M_sums : MethodName := ⟨"EveningCloakModel", "sums", "(I)I"⟩
def rm_M_sums : Room := { frames := 1, cells := 0, slots := 0, locals := 22 }
theorem cy_M_sums : Cy y_M_sums c_M_sums 4 (some .int) 1 := ⟨lgm 963 (by decide +kernel) rfl, lgm 73 (by decide +kernel) rfl, by decide +kernel, by decide +kernel⟩
theorem im_M_sums : Cond.instanceMethod y_M_sums ∈ lg := lgm 962 (by decide +kernel) rfl
theorem se_M_sums : Cond.selects y_M_sums.cls y_M_sums y_M_sums ∈ lg := lgm 39 (by decide +kernel) rfl
def e_M_sums : List Ent := [
  (0, .iconst 0, 1, 1, .int 0, 0, 0, 0),
  (1, .istore_n 2, 1, 2, .null, 0, 0, 0),
  (2, .iconst 0, 1, 3, .int 0, 0, 0, 0),
  (3, .istore_n 3, 1, 4, .null, 0, 0, 0),
  (4, .iload_n 3, 1, 5, .null, 0, 0, 0),
  (5, .aload_n 0, 1, 6, .null, 0, 0, 0),
  (6, .getfield 9, 3, 9, .null, 4, 0, 762),
  (9, .iconst 4, 1, 10, .int 4, 0, 0, 0),
  (10, .iaload, 1, 11, .null, 0, 0, 0),
  (11, .if_icmp .ge 18, 3, 29, .null, 0, 0, 0),
  (14, .iload_n 2, 1, 15, .null, 0, 0, 0),
  (15, .aload_n 0, 1, 16, .null, 0, 0, 0),
  (16, .iload_n 3, 1, 17, .null, 0, 0, 0),
  (17, .iload_n 1, 1, 18, .null, 0, 0, 0),
  (18, .invokevirtual 103, 3, 21, .null, 0, 0, 0),
  (21, .iadd, 1, 22, .null, 0, 0, 0),
  (22, .istore_n 2, 1, 23, .null, 0, 0, 0),
  (23, .iinc 3 1, 3, 26, .int 1, 0, 0, 0),
  (26, .goto (-22), 3, 4, .null, 0, 0, 0),
  (29, .iload_n 2, 1, 30, .null, 0, 0, 0),
  (30, .ireturn, 1, 31, .null, 0, 0, 0)]
set_option maxRecDepth 100000 in
theorem ek_M_sums : e_M_sums.all (eok 4 c_M_sums) = true := by decide +kernel
def F_M_sums_4 : Nat → Nat → Int32 → Int32 → Int32 → A_W → Option (Int32 × A_W)
  | 0, _, _, _, _, _ => none
  | n + 1, t, x1, x2, x3, w =>
    (gr w t 4 0).bind fun a1 =>
    (rd w a1 4).bind fun v2 =>
    if v2 ≤ x3 then
      some (x2, w)
    else
      (ob w t 4).bind fun o5 =>
      (F_M_her t x3 x1 w).bind fun p4 =>
      F_M_sums_4 n t x1 (x2 + p4.1) (x3 + 1) p4.2
def F_M_sums_0 (t : Nat) (x1 : Int32) (w : A_W) : Option (Int32 × A_W) :=
  F_M_sums_4 FU t x1 0 0 w
set_option maxHeartbeats 4000000 in
set_option maxRecDepth 100000 in
theorem s_M_sums_4 {G : Gx} {X : Cx} {res : Int32 × A_W} (K : Ok G X 4 c_M_sums 4 (some .int) rm_M_sums) (hQ : QQ G X (some (.int res.1)) res.2 0 0) : ∀ (n : Nat) (t : Nat) (x1 : Int32) (x2 : Int32) (x3 : Int32) (w : A_W), F_M_sums_4 n t x1 x2 x3 w = some res → Sm G X w 0 0 [some (.ref t), some (.int x1), some (.int x2), some (.int x3)] [] 4 := by
  intro n
  induction n with
  | zero => intro t x1 x2 x3 w h; cases h
  | succ n ih =>
    intro t x1 x2 x3 w h
    rw [F_M_sums_4] at h
    refine Sm_run K ek_M_sums 4 2 rfl ?_
    obtain ⟨a1, e_a1, h⟩ := Option.bind_eq_some_iff.mp h
    refine Sm_gr K (eo ek_M_sums (i := 6) rfl) e_a1 ?_
    refine Sm_run K ek_M_sums 7 1 rfl ?_
    obtain ⟨v2, e_v2, h⟩ := Option.bind_eq_some_iff.mp h
    refine Sm_rd K (eok_i (eo ek_M_sums (i := 8) rfl) rfl) e_v2 ?_
    refine Sm_ic_ge K (eo ek_M_sums (i := 9) rfl) (fun c3 => ?_) (fun c3 => ?_)
    · rw [if_pos c3] at h
      refine Sm_run K ek_M_sums 19 1 rfl ?_
      obtain rfl := Option.some.inj h
      exact Sm_reti K hQ (eok_i (eo ek_M_sums (i := 20) rfl) rfl)
    · rw [if_neg c3] at h
      refine Sm_run K ek_M_sums 10 4 rfl ?_
      obtain ⟨o5, e_o5, h⟩ := Option.bind_eq_some_iff.mp h
      obtain ⟨p4, e_p4, h⟩ := Option.bind_eq_some_iff.mp h
      refine Sm_callV K (eok_i (eo ek_M_sums (i := 14) rfl) rfl) cy_M_her im_M_her se_M_her (lgm 913 (by decide +kernel) rfl) ⟨Nat.le_of_ble_eq_true rfl, Nat.le_of_ble_eq_true rfl⟩ (as := [.int x3, .int x1]) (b := t) (st := [.int x2]) (ob_e e_o5) (by decide) rfl rfl rfl rfl (Nat.le_of_ble_eq_true rfl) ⟨Nat.le_of_ble_eq_true rfl, Nat.le_of_ble_eq_true rfl⟩ (cn_M_her e_p4) ?_
      refine Sm_eq (st1 := .int p4.1 :: [.int x2]) (nc1 := 0) (ns1 := 0) rfl rfl rfl ?_
      refine Sm_run K ek_M_sums 15 4 rfl ?_
      exact Sm_le (leR_s (leR_s (leR_s (leR_s leR_nil)))) (ih _ _ _ _ _ h)
set_option maxHeartbeats 4000000 in
set_option maxRecDepth 100000 in
theorem s_M_sums_0 {G : Gx} {X : Cx} {res : Int32 × A_W} (K : Ok G X 4 c_M_sums 4 (some .int) rm_M_sums) (hQ : QQ G X (some (.int res.1)) res.2 0 0) (t : Nat) (x1 : Int32) (w : A_W) (h : F_M_sums_0 t x1 w = some res) : Sm G X w 0 0 [some (.ref t), some (.int x1), none, none] [] 0 := by
  unfold F_M_sums_0 at h
  refine Sm_run K ek_M_sums 0 4 rfl ?_
  exact Sm_le (leR_s (leR_s (leR_s (leR_s leR_nil)))) (s_M_sums_4 K hQ FU _ _ _ _ _ h)
def F_M_sums (t : Nat) (x1 : Int32) (w : A_W) : Option (Int32 × A_W) := F_M_sums_0 t x1 w
theorem cn_M_sums {G : Gx} {t : Nat} {x1 : Int32} {w : A_W} {res : Int32 × A_W} (h : F_M_sums t x1 w = some res) : Cn G y_M_sums c_M_sums 4 (some .int) rm_M_sums [.ref t, .int x1] w (some (.int res.1)) res.2 :=
  Cn_of (own := 4) cy_M_sums rfl rfl (Nat.le_of_ble_eq_true rfl) rfl (fun X K _ hQ => Sm_le (leR_s (leR_s (leR_n (leR_n leR_nil)))) (s_M_sums_0 K hQ _ _ _ h))
/-! EveningCloakModel.darkOnes()I -/
abbrev c_M_darkOnes : ByteArray := prog_6_method_42_code
def y_M_darkOnes : MethodName := ⟨"EveningCloakModel", "darkOnes", "()I"⟩
def rm_M_darkOnes : Room := { frames := 3, cells := 0, slots := 0, locals := 69 }
theorem cy_M_darkOnes : Cy y_M_darkOnes c_M_darkOnes 3 (some .int) 0 := ⟨lgm 971 (by decide +kernel) rfl, lgm 73 (by decide +kernel) rfl, by decide +kernel, by decide +kernel⟩
theorem im_M_darkOnes : Cond.instanceMethod y_M_darkOnes ∈ lg := lgm 970 (by decide +kernel) rfl
theorem se_M_darkOnes : Cond.selects y_M_darkOnes.cls y_M_darkOnes y_M_darkOnes ∈ lg := lgm 41 (by decide +kernel) rfl
def e_M_darkOnes : List Ent := [
  (0, .iconst 0, 1, 1, .int 0, 0, 0, 0),
  (1, .istore_n 1, 1, 2, .null, 0, 0, 0),
  (2, .iconst 0, 1, 3, .int 0, 0, 0, 0),
  (3, .istore_n 2, 1, 4, .null, 0, 0, 0),
  (4, .iload_n 2, 1, 5, .null, 0, 0, 0),
  (5, .bipush 16, 2, 7, .int 16, 0, 0, 0),
  (7, .if_icmp .ge 27, 3, 34, .null, 0, 0, 0),
  (10, .iload_n 1, 1, 11, .null, 0, 0, 0),
  (11, .aload_n 0, 1, 12, .null, 0, 0, 0),
  (12, .iload_n 2, 1, 13, .null, 0, 0, 0),
  (13, .invokevirtual 62, 3, 16, .null, 0, 0, 0),
  (16, .ifCond .ne 9, 3, 25, .null, 0, 0, 0),
  (19, .iconst 1, 1, 20, .int 1, 0, 0, 0),
  (20, .iload_n 2, 1, 21, .null, 0, 0, 0),
  (21, .ishl, 1, 22, .null, 0, 0, 0),
  (22, .goto 4, 3, 26, .null, 0, 0, 0),
  (25, .iconst 0, 1, 26, .int 0, 0, 0, 0),
  (26, .ior, 1, 27, .null, 0, 0, 0),
  (27, .istore_n 1, 1, 28, .null, 0, 0, 0),
  (28, .iinc 2 1, 3, 31, .int 1, 0, 0, 0),
  (31, .goto (-27), 3, 4, .null, 0, 0, 0),
  (34, .iload_n 1, 1, 35, .null, 0, 0, 0),
  (35, .ireturn, 1, 36, .null, 0, 0, 0)]
set_option maxRecDepth 100000 in
theorem ek_M_darkOnes : e_M_darkOnes.all (eok 4 c_M_darkOnes) = true := by decide +kernel
def F_M_darkOnes_26 (k4 : Nat → Int32 → Int32 → A_W → Option (Int32 × A_W)) (t : Nat) (x2 : Int32) (y0 : Int32) (y1 : Int32) (w : A_W) : Option (Int32 × A_W) :=
  k4 t (y0 ||| y1) (x2 + 1) w
def F_M_darkOnes_4 : Nat → Nat → Int32 → Int32 → A_W → Option (Int32 × A_W)
  | 0, _, _, _, _ => none
  | n + 1, t, x1, x2, w =>
    if 16 ≤ x2 then
      some (x1, w)
    else
      (ob w t 4).bind fun o3 =>
      (F_M_lightAt t x2 w).bind fun p2 =>
      if p2.1 = 0 then
        F_M_darkOnes_26 (F_M_darkOnes_4 n) t x2 x1 (1 <<< (x2 &&& 31)) p2.2
      else
        F_M_darkOnes_26 (F_M_darkOnes_4 n) t x2 x1 0 p2.2
def F_M_darkOnes_0 (t : Nat) (w : A_W) : Option (Int32 × A_W) :=
  F_M_darkOnes_4 FU t 0 0 w
set_option maxHeartbeats 4000000 in
set_option maxRecDepth 100000 in
theorem s_M_darkOnes_26 {G : Gx} {X : Cx} {res : Int32 × A_W} (K : Ok G X 4 c_M_darkOnes 3 (some .int) rm_M_darkOnes) (hQ : QQ G X (some (.int res.1)) res.2 0 0) {k4 : Nat → Int32 → Int32 → A_W → Option (Int32 × A_W)} (hk4 : ∀ (t : Nat) (x1 : Int32) (x2 : Int32) (w : A_W), k4 t x1 x2 w = some res → Sm G X w 0 0 [some (.ref t), some (.int x1), some (.int x2)] [] 4) (t : Nat) (x2 : Int32) (y0 : Int32) (y1 : Int32) (w : A_W) (h : F_M_darkOnes_26 k4 t x2 y0 y1 w = some res) : Sm G X w 0 0 [some (.ref t), none, some (.int x2)] [.int y1, .int y0] 26 := by
  unfold F_M_darkOnes_26 at h
  refine Sm_run K ek_M_darkOnes 17 4 rfl ?_
  exact Sm_le (leR_s (leR_s (leR_s leR_nil))) (hk4 _ _ _ _ h)
set_option maxHeartbeats 4000000 in
set_option maxRecDepth 100000 in
theorem s_M_darkOnes_4 {G : Gx} {X : Cx} {res : Int32 × A_W} (K : Ok G X 4 c_M_darkOnes 3 (some .int) rm_M_darkOnes) (hQ : QQ G X (some (.int res.1)) res.2 0 0) : ∀ (n : Nat) (t : Nat) (x1 : Int32) (x2 : Int32) (w : A_W), F_M_darkOnes_4 n t x1 x2 w = some res → Sm G X w 0 0 [some (.ref t), some (.int x1), some (.int x2)] [] 4 := by
  intro n
  induction n with
  | zero => intro t x1 x2 w h; cases h
  | succ n ih =>
    intro t x1 x2 w h
    rw [F_M_darkOnes_4] at h
    refine Sm_run K ek_M_darkOnes 4 2 rfl ?_
    refine Sm_ic_ge K (eo ek_M_darkOnes (i := 6) rfl) (fun c1 => ?_) (fun c1 => ?_)
    · rw [if_pos c1] at h
      refine Sm_run K ek_M_darkOnes 21 1 rfl ?_
      obtain rfl := Option.some.inj h
      exact Sm_reti K hQ (eok_i (eo ek_M_darkOnes (i := 22) rfl) rfl)
    · rw [if_neg c1] at h
      refine Sm_run K ek_M_darkOnes 7 3 rfl ?_
      obtain ⟨o3, e_o3, h⟩ := Option.bind_eq_some_iff.mp h
      obtain ⟨p2, e_p2, h⟩ := Option.bind_eq_some_iff.mp h
      refine Sm_callV K (eok_i (eo ek_M_darkOnes (i := 10) rfl) rfl) cy_M_lightAt im_M_lightAt se_M_lightAt (lgm 886 (by decide +kernel) rfl) ⟨Nat.le_of_ble_eq_true rfl, Nat.le_of_ble_eq_true rfl⟩ (as := [.int x2]) (b := t) (st := [.int x1]) (ob_e e_o3) (by decide) rfl rfl rfl rfl (Nat.le_of_ble_eq_true rfl) ⟨Nat.le_of_ble_eq_true rfl, Nat.le_of_ble_eq_true rfl⟩ (cn_M_lightAt e_p2) ?_
      refine Sm_eq (st1 := .int p2.1 :: [.int x1]) (nc1 := 0) (ns1 := 0) rfl rfl rfl ?_
      refine Sm_if_ne K (eo ek_M_darkOnes (i := 11) rfl) (fun c4 => ?_) (fun c4 => ?_)
      · rw [if_neg c4] at h
        refine Sm_run K ek_M_darkOnes 16 1 rfl ?_
        exact Sm_le (leR_s (leR_n (leR_s leR_nil))) (s_M_darkOnes_26 K hQ ih _ _ _ _ _ h)
      · rw [if_pos c4] at h
        refine Sm_run K ek_M_darkOnes 12 4 rfl ?_
        exact Sm_le (leR_s (leR_n (leR_s leR_nil))) (s_M_darkOnes_26 K hQ ih _ _ _ _ _ h)
set_option maxHeartbeats 4000000 in
set_option maxRecDepth 100000 in
theorem s_M_darkOnes_0 {G : Gx} {X : Cx} {res : Int32 × A_W} (K : Ok G X 4 c_M_darkOnes 3 (some .int) rm_M_darkOnes) (hQ : QQ G X (some (.int res.1)) res.2 0 0) (t : Nat) (w : A_W) (h : F_M_darkOnes_0 t w = some res) : Sm G X w 0 0 [some (.ref t), none, none] [] 0 := by
  unfold F_M_darkOnes_0 at h
  refine Sm_run K ek_M_darkOnes 0 4 rfl ?_
  exact Sm_le (leR_s (leR_s (leR_s leR_nil))) (s_M_darkOnes_4 K hQ FU _ _ _ _ h)
def F_M_darkOnes (t : Nat) (w : A_W) : Option (Int32 × A_W) := F_M_darkOnes_0 t w
theorem cn_M_darkOnes {G : Gx} {t : Nat} {w : A_W} {res : Int32 × A_W} (h : F_M_darkOnes t w = some res) : Cn G y_M_darkOnes c_M_darkOnes 3 (some .int) rm_M_darkOnes [.ref t] w (some (.int res.1)) res.2 :=
  Cn_of (own := 4) cy_M_darkOnes rfl rfl (Nat.le_of_ble_eq_true rfl) rfl (fun X K _ hQ => Sm_le (leR_s (leR_n (leR_n leR_nil))) (s_M_darkOnes_0 K hQ _ _ h))
/-! EveningCloakModel.lightest()I -/
abbrev c_M_lightest : ByteArray := prog_6_method_43_code
def y_M_lightest : MethodName := ⟨"EveningCloakModel", "lightest", "()I"⟩
def rm_M_lightest : Room := { frames := 3, cells := 0, slots := 0, locals := 69 }
theorem cy_M_lightest : Cy y_M_lightest c_M_lightest 3 (some .int) 0 := ⟨lgm 975 (by decide +kernel) rfl, lgm 73 (by decide +kernel) rfl, by decide +kernel, by decide +kernel⟩
theorem im_M_lightest : Cond.instanceMethod y_M_lightest ∈ lg := lgm 974 (by decide +kernel) rfl
theorem se_M_lightest : Cond.selects y_M_lightest.cls y_M_lightest y_M_lightest ∈ lg := lgm 42 (by decide +kernel) rfl
def e_M_lightest : List Ent := [
  (0, .iconst 0, 1, 1, .int 0, 0, 0, 0),
  (1, .istore_n 1, 1, 2, .null, 0, 0, 0),
  (2, .iconst 1, 1, 3, .int 1, 0, 0, 0),
  (3, .istore_n 2, 1, 4, .null, 0, 0, 0),
  (4, .iload_n 2, 1, 5, .null, 0, 0, 0),
  (5, .bipush 16, 2, 7, .int 16, 0, 0, 0),
  (7, .if_icmp .ge 28, 3, 35, .null, 0, 0, 0),
  (10, .aload_n 0, 1, 11, .null, 0, 0, 0),
  (11, .iload_n 2, 1, 12, .null, 0, 0, 0),
  (12, .invokevirtual 62, 3, 15, .null, 0, 0, 0),
  (15, .aload_n 0, 1, 16, .null, 0, 0, 0),
  (16, .iload_n 1, 1, 17, .null, 0, 0, 0),
  (17, .invokevirtual 62, 3, 20, .null, 0, 0, 0),
  (20, .if_icmp .le 7, 3, 27, .null, 0, 0, 0),
  (23, .iload_n 2, 1, 24, .null, 0, 0, 0),
  (24, .goto 4, 3, 28, .null, 0, 0, 0),
  (27, .iload_n 1, 1, 28, .null, 0, 0, 0),
  (28, .istore_n 1, 1, 29, .null, 0, 0, 0),
  (29, .iinc 2 1, 3, 32, .int 1, 0, 0, 0),
  (32, .goto (-28), 3, 4, .null, 0, 0, 0),
  (35, .iload_n 1, 1, 36, .null, 0, 0, 0),
  (36, .ireturn, 1, 37, .null, 0, 0, 0)]
set_option maxRecDepth 100000 in
theorem ek_M_lightest : e_M_lightest.all (eok 4 c_M_lightest) = true := by decide +kernel
def F_M_lightest_28 (k4 : Nat → Int32 → Int32 → A_W → Option (Int32 × A_W)) (t : Nat) (x2 : Int32) (y0 : Int32) (w : A_W) : Option (Int32 × A_W) :=
  k4 t y0 (x2 + 1) w
def F_M_lightest_4 : Nat → Nat → Int32 → Int32 → A_W → Option (Int32 × A_W)
  | 0, _, _, _, _ => none
  | n + 1, t, x1, x2, w =>
    if 16 ≤ x2 then
      some (x1, w)
    else
      (ob w t 4).bind fun o3 =>
      (F_M_lightAt t x2 w).bind fun p2 =>
      (ob p2.2 t 4).bind fun o5 =>
      (F_M_lightAt t x1 p2.2).bind fun p4 =>
      if p2.1 ≤ p4.1 then
        F_M_lightest_28 (F_M_lightest_4 n) t x2 x1 p4.2
      else
        F_M_lightest_28 (F_M_lightest_4 n) t x2 x2 p4.2
def F_M_lightest_0 (t : Nat) (w : A_W) : Option (Int32 × A_W) :=
  F_M_lightest_4 FU t 0 1 w
set_option maxHeartbeats 4000000 in
set_option maxRecDepth 100000 in
theorem s_M_lightest_28 {G : Gx} {X : Cx} {res : Int32 × A_W} (K : Ok G X 4 c_M_lightest 3 (some .int) rm_M_lightest) (hQ : QQ G X (some (.int res.1)) res.2 0 0) {k4 : Nat → Int32 → Int32 → A_W → Option (Int32 × A_W)} (hk4 : ∀ (t : Nat) (x1 : Int32) (x2 : Int32) (w : A_W), k4 t x1 x2 w = some res → Sm G X w 0 0 [some (.ref t), some (.int x1), some (.int x2)] [] 4) (t : Nat) (x2 : Int32) (y0 : Int32) (w : A_W) (h : F_M_lightest_28 k4 t x2 y0 w = some res) : Sm G X w 0 0 [some (.ref t), none, some (.int x2)] [.int y0] 28 := by
  unfold F_M_lightest_28 at h
  refine Sm_run K ek_M_lightest 17 3 rfl ?_
  exact Sm_le (leR_s (leR_s (leR_s leR_nil))) (hk4 _ _ _ _ h)
set_option maxHeartbeats 4000000 in
set_option maxRecDepth 100000 in
theorem s_M_lightest_4 {G : Gx} {X : Cx} {res : Int32 × A_W} (K : Ok G X 4 c_M_lightest 3 (some .int) rm_M_lightest) (hQ : QQ G X (some (.int res.1)) res.2 0 0) : ∀ (n : Nat) (t : Nat) (x1 : Int32) (x2 : Int32) (w : A_W), F_M_lightest_4 n t x1 x2 w = some res → Sm G X w 0 0 [some (.ref t), some (.int x1), some (.int x2)] [] 4 := by
  intro n
  induction n with
  | zero => intro t x1 x2 w h; cases h
  | succ n ih =>
    intro t x1 x2 w h
    rw [F_M_lightest_4] at h
    refine Sm_run K ek_M_lightest 4 2 rfl ?_
    refine Sm_ic_ge K (eo ek_M_lightest (i := 6) rfl) (fun c1 => ?_) (fun c1 => ?_)
    · rw [if_pos c1] at h
      refine Sm_run K ek_M_lightest 20 1 rfl ?_
      obtain rfl := Option.some.inj h
      exact Sm_reti K hQ (eok_i (eo ek_M_lightest (i := 21) rfl) rfl)
    · rw [if_neg c1] at h
      refine Sm_run K ek_M_lightest 7 2 rfl ?_
      obtain ⟨o3, e_o3, h⟩ := Option.bind_eq_some_iff.mp h
      obtain ⟨p2, e_p2, h⟩ := Option.bind_eq_some_iff.mp h
      refine Sm_callV K (eok_i (eo ek_M_lightest (i := 9) rfl) rfl) cy_M_lightAt im_M_lightAt se_M_lightAt (lgm 886 (by decide +kernel) rfl) ⟨Nat.le_of_ble_eq_true rfl, Nat.le_of_ble_eq_true rfl⟩ (as := [.int x2]) (b := t) (st := []) (ob_e e_o3) (by decide) rfl rfl rfl rfl (Nat.le_of_ble_eq_true rfl) ⟨Nat.le_of_ble_eq_true rfl, Nat.le_of_ble_eq_true rfl⟩ (cn_M_lightAt e_p2) ?_
      refine Sm_eq (st1 := .int p2.1 :: []) (nc1 := 0) (ns1 := 0) rfl rfl rfl ?_
      refine Sm_run K ek_M_lightest 10 2 rfl ?_
      obtain ⟨o5, e_o5, h⟩ := Option.bind_eq_some_iff.mp h
      obtain ⟨p4, e_p4, h⟩ := Option.bind_eq_some_iff.mp h
      refine Sm_callV K (eok_i (eo ek_M_lightest (i := 12) rfl) rfl) cy_M_lightAt im_M_lightAt se_M_lightAt (lgm 886 (by decide +kernel) rfl) ⟨Nat.le_of_ble_eq_true rfl, Nat.le_of_ble_eq_true rfl⟩ (as := [.int x1]) (b := t) (st := [.int p2.1]) (ob_e e_o5) (by decide) rfl rfl rfl rfl (Nat.le_of_ble_eq_true rfl) ⟨Nat.le_of_ble_eq_true rfl, Nat.le_of_ble_eq_true rfl⟩ (cn_M_lightAt e_p4) ?_
      refine Sm_eq (st1 := .int p4.1 :: [.int p2.1]) (nc1 := 0) (ns1 := 0) rfl rfl rfl ?_
      refine Sm_ic_le K (eo ek_M_lightest (i := 13) rfl) (fun c6 => ?_) (fun c6 => ?_)
      · rw [if_pos c6] at h
        refine Sm_run K ek_M_lightest 16 1 rfl ?_
        exact Sm_le (leR_s (leR_n (leR_s leR_nil))) (s_M_lightest_28 K hQ ih _ _ _ _ h)
      · rw [if_neg c6] at h
        refine Sm_run K ek_M_lightest 14 2 rfl ?_
        exact Sm_le (leR_s (leR_n (leR_s leR_nil))) (s_M_lightest_28 K hQ ih _ _ _ _ h)
set_option maxHeartbeats 4000000 in
set_option maxRecDepth 100000 in
theorem s_M_lightest_0 {G : Gx} {X : Cx} {res : Int32 × A_W} (K : Ok G X 4 c_M_lightest 3 (some .int) rm_M_lightest) (hQ : QQ G X (some (.int res.1)) res.2 0 0) (t : Nat) (w : A_W) (h : F_M_lightest_0 t w = some res) : Sm G X w 0 0 [some (.ref t), none, none] [] 0 := by
  unfold F_M_lightest_0 at h
  refine Sm_run K ek_M_lightest 0 4 rfl ?_
  exact Sm_le (leR_s (leR_s (leR_s leR_nil))) (s_M_lightest_4 K hQ FU _ _ _ _ h)
def F_M_lightest (t : Nat) (w : A_W) : Option (Int32 × A_W) := F_M_lightest_0 t w
theorem cn_M_lightest {G : Gx} {t : Nat} {w : A_W} {res : Int32 × A_W} (h : F_M_lightest t w = some res) : Cn G y_M_lightest c_M_lightest 3 (some .int) rm_M_lightest [.ref t] w (some (.int res.1)) res.2 :=
  Cn_of (own := 4) cy_M_lightest rfl rfl (Nat.le_of_ble_eq_true rfl) rfl (fun X K _ hQ => Sm_le (leR_s (leR_n (leR_n leR_nil))) (s_M_lightest_0 K hQ _ _ h))
/-! EveningCloakModel.goneOnes()I -/
abbrev c_M_goneOnes : ByteArray := prog_6_method_44_code
def y_M_goneOnes : MethodName := ⟨"EveningCloakModel", "goneOnes", "()I"⟩
def rm_M_goneOnes : Room := { frames := 1, cells := 0, slots := 0, locals := 22 }
theorem cy_M_goneOnes : Cy y_M_goneOnes c_M_goneOnes 3 (some .int) 0 := ⟨lgm 967 (by decide +kernel) rfl, lgm 73 (by decide +kernel) rfl, by decide +kernel, by decide +kernel⟩
theorem im_M_goneOnes : Cond.instanceMethod y_M_goneOnes ∈ lg := lgm 966 (by decide +kernel) rfl
theorem se_M_goneOnes : Cond.selects y_M_goneOnes.cls y_M_goneOnes y_M_goneOnes ∈ lg := lgm 40 (by decide +kernel) rfl
def e_M_goneOnes : List Ent := [
  (0, .iconst 0, 1, 1, .int 0, 0, 0, 0),
  (1, .istore_n 1, 1, 2, .null, 0, 0, 0),
  (2, .iconst 0, 1, 3, .int 0, 0, 0, 0),
  (3, .istore_n 2, 1, 4, .null, 0, 0, 0),
  (4, .iload_n 2, 1, 5, .null, 0, 0, 0),
  (5, .aload_n 0, 1, 6, .null, 0, 0, 0),
  (6, .getfield 9, 3, 9, .null, 4, 0, 762),
  (9, .iconst 3, 1, 10, .int 3, 0, 0, 0),
  (10, .iaload, 1, 11, .null, 0, 0, 0),
  (11, .if_icmp .ge 20, 3, 31, .null, 0, 0, 0),
  (14, .iload_n 1, 1, 15, .null, 0, 0, 0),
  (15, .aload_n 0, 1, 16, .null, 0, 0, 0),
  (16, .iload_n 2, 1, 17, .null, 0, 0, 0),
  (17, .iconst 5, 1, 18, .int 5, 0, 0, 0),
  (18, .invokevirtual 44, 3, 21, .null, 0, 0, 0),
  (21, .iload_n 2, 1, 22, .null, 0, 0, 0),
  (22, .ishl, 1, 23, .null, 0, 0, 0),
  (23, .ior, 1, 24, .null, 0, 0, 0),
  (24, .istore_n 1, 1, 25, .null, 0, 0, 0),
  (25, .iinc 2 1, 3, 28, .int 1, 0, 0, 0),
  (28, .goto (-24), 3, 4, .null, 0, 0, 0),
  (31, .iload_n 1, 1, 32, .null, 0, 0, 0),
  (32, .ireturn, 1, 33, .null, 0, 0, 0)]
set_option maxRecDepth 100000 in
theorem ek_M_goneOnes : e_M_goneOnes.all (eok 4 c_M_goneOnes) = true := by decide +kernel
def F_M_goneOnes_4 : Nat → Nat → Int32 → Int32 → A_W → Option (Int32 × A_W)
  | 0, _, _, _, _ => none
  | n + 1, t, x1, x2, w =>
    (gr w t 4 0).bind fun a1 =>
    (rd w a1 3).bind fun v2 =>
    if v2 ≤ x2 then
      some (x1, w)
    else
      (ob w t 4).bind fun o5 =>
      (F_M_it t x2 5 w).bind fun p4 =>
      F_M_goneOnes_4 n t (x1 ||| (p4.1 <<< (x2 &&& 31))) (x2 + 1) p4.2
def F_M_goneOnes_0 (t : Nat) (w : A_W) : Option (Int32 × A_W) :=
  F_M_goneOnes_4 FU t 0 0 w
set_option maxHeartbeats 4000000 in
set_option maxRecDepth 100000 in
theorem s_M_goneOnes_4 {G : Gx} {X : Cx} {res : Int32 × A_W} (K : Ok G X 4 c_M_goneOnes 3 (some .int) rm_M_goneOnes) (hQ : QQ G X (some (.int res.1)) res.2 0 0) : ∀ (n : Nat) (t : Nat) (x1 : Int32) (x2 : Int32) (w : A_W), F_M_goneOnes_4 n t x1 x2 w = some res → Sm G X w 0 0 [some (.ref t), some (.int x1), some (.int x2)] [] 4 := by
  intro n
  induction n with
  | zero => intro t x1 x2 w h; cases h
  | succ n ih =>
    intro t x1 x2 w h
    rw [F_M_goneOnes_4] at h
    refine Sm_run K ek_M_goneOnes 4 2 rfl ?_
    obtain ⟨a1, e_a1, h⟩ := Option.bind_eq_some_iff.mp h
    refine Sm_gr K (eo ek_M_goneOnes (i := 6) rfl) e_a1 ?_
    refine Sm_run K ek_M_goneOnes 7 1 rfl ?_
    obtain ⟨v2, e_v2, h⟩ := Option.bind_eq_some_iff.mp h
    refine Sm_rd K (eok_i (eo ek_M_goneOnes (i := 8) rfl) rfl) e_v2 ?_
    refine Sm_ic_ge K (eo ek_M_goneOnes (i := 9) rfl) (fun c3 => ?_) (fun c3 => ?_)
    · rw [if_pos c3] at h
      refine Sm_run K ek_M_goneOnes 21 1 rfl ?_
      obtain rfl := Option.some.inj h
      exact Sm_reti K hQ (eok_i (eo ek_M_goneOnes (i := 22) rfl) rfl)
    · rw [if_neg c3] at h
      refine Sm_run K ek_M_goneOnes 10 4 rfl ?_
      obtain ⟨o5, e_o5, h⟩ := Option.bind_eq_some_iff.mp h
      obtain ⟨p4, e_p4, h⟩ := Option.bind_eq_some_iff.mp h
      refine Sm_callV K (eok_i (eo ek_M_goneOnes (i := 14) rfl) rfl) cy_M_it im_M_it se_M_it (lgm 871 (by decide +kernel) rfl) ⟨Nat.le_of_ble_eq_true rfl, Nat.le_of_ble_eq_true rfl⟩ (as := [.int x2, .int 5]) (b := t) (st := [.int x1]) (ob_e e_o5) (by decide) rfl rfl rfl rfl (Nat.le_of_ble_eq_true rfl) ⟨Nat.le_of_ble_eq_true rfl, Nat.le_of_ble_eq_true rfl⟩ (cn_M_it e_p4) ?_
      refine Sm_eq (st1 := .int p4.1 :: [.int x1]) (nc1 := 0) (ns1 := 0) rfl rfl rfl ?_
      refine Sm_run K ek_M_goneOnes 15 6 rfl ?_
      exact Sm_le (leR_s (leR_s (leR_s leR_nil))) (ih _ _ _ _ h)
set_option maxHeartbeats 4000000 in
set_option maxRecDepth 100000 in
theorem s_M_goneOnes_0 {G : Gx} {X : Cx} {res : Int32 × A_W} (K : Ok G X 4 c_M_goneOnes 3 (some .int) rm_M_goneOnes) (hQ : QQ G X (some (.int res.1)) res.2 0 0) (t : Nat) (w : A_W) (h : F_M_goneOnes_0 t w = some res) : Sm G X w 0 0 [some (.ref t), none, none] [] 0 := by
  unfold F_M_goneOnes_0 at h
  refine Sm_run K ek_M_goneOnes 0 4 rfl ?_
  exact Sm_le (leR_s (leR_s (leR_s leR_nil))) (s_M_goneOnes_4 K hQ FU _ _ _ _ h)
def F_M_goneOnes (t : Nat) (w : A_W) : Option (Int32 × A_W) := F_M_goneOnes_0 t w
theorem cn_M_goneOnes {G : Gx} {t : Nat} {w : A_W} {res : Int32 × A_W} (h : F_M_goneOnes t w = some res) : Cn G y_M_goneOnes c_M_goneOnes 3 (some .int) rm_M_goneOnes [.ref t] w (some (.int res.1)) res.2 :=
  Cn_of (own := 4) cy_M_goneOnes rfl rfl (Nat.le_of_ble_eq_true rfl) rfl (fun X K _ hQ => Sm_le (leR_s (leR_n (leR_n leR_nil))) (s_M_goneOnes_0 K hQ _ _ h))
/-! EveningCloakModel.now(I)I -/
abbrev c_M_now : ByteArray := prog_6_method_45_code
def y_M_now : MethodName := ⟨"EveningCloakModel", "now", "(I)I"⟩
def rm_M_now : Room := { frames := 4, cells := 0, slots := 0, locals := 91 }
theorem cy_M_now : Cy y_M_now c_M_now 2 (some .int) 1 := ⟨lgm 959 (by decide +kernel) rfl, lgm 73 (by decide +kernel) rfl, by decide +kernel, by decide +kernel⟩
theorem im_M_now : Cond.instanceMethod y_M_now ∈ lg := lgm 957 (by decide +kernel) rfl
theorem se_M_now : Cond.selects y_M_now.cls y_M_now y_M_now ∈ lg := lgm 958 (by decide +kernel) rfl
def e_M_now : List Ent := [
  (0, .iload_n 1, 1, 1, .null, 0, 0, 0),
  (1, .tableswitch 88 0 7 #[47, 47, 56, 62, 67, 72, 77, 82], 47, 48, .null, 0, 0, 0),
  (48, .aload_n 0, 1, 49, .null, 0, 0, 0),
  (49, .getfield 9, 3, 52, .null, 4, 0, 762),
  (52, .iconst 0, 1, 53, .int 0, 0, 0, 0),
  (53, .iload_n 1, 1, 54, .null, 0, 0, 0),
  (54, .iadd, 1, 55, .null, 0, 0, 0),
  (55, .iaload, 1, 56, .null, 0, 0, 0),
  (56, .ireturn, 1, 57, .null, 0, 0, 0),
  (57, .aload_n 0, 1, 58, .null, 0, 0, 0),
  (58, .iconst 2, 1, 59, .int 2, 0, 0, 0),
  (59, .invokevirtual 126, 3, 62, .null, 0, 0, 0),
  (62, .ireturn, 1, 63, .null, 0, 0, 0),
  (63, .aload_n 0, 1, 64, .null, 0, 0, 0),
  (64, .invokevirtual 129, 3, 67, .null, 0, 0, 0),
  (67, .ireturn, 1, 68, .null, 0, 0, 0),
  (68, .aload_n 0, 1, 69, .null, 0, 0, 0),
  (69, .invokevirtual 132, 3, 72, .null, 0, 0, 0),
  (72, .ireturn, 1, 73, .null, 0, 0, 0),
  (73, .aload_n 0, 1, 74, .null, 0, 0, 0),
  (74, .invokevirtual 135, 3, 77, .null, 0, 0, 0),
  (77, .ireturn, 1, 78, .null, 0, 0, 0),
  (78, .aload_n 0, 1, 79, .null, 0, 0, 0),
  (79, .invokevirtual 113, 3, 82, .null, 0, 0, 0),
  (82, .ireturn, 1, 83, .null, 0, 0, 0),
  (83, .aload_n 0, 1, 84, .null, 0, 0, 0),
  (84, .iconst 0, 1, 85, .int 0, 0, 0, 0),
  (85, .invokevirtual 126, 3, 88, .null, 0, 0, 0),
  (88, .ireturn, 1, 89, .null, 0, 0, 0),
  (89, .aload_n 0, 1, 90, .null, 0, 0, 0),
  (90, .ldc 34, 2, 92, .int (-1000001), 0, 0, 825),
  (92, .invokevirtual 36, 3, 95, .null, 0, 0, 0),
  (95, .ireturn, 1, 96, .null, 0, 0, 0)]
set_option maxRecDepth 100000 in
theorem ek_M_now : e_M_now.all (eok 4 c_M_now) = true := by decide +kernel
def F_M_now_48 (t : Nat) (x1 : Int32) (w : A_W) : Option (Int32 × A_W) :=
  (gr w t 4 0).bind fun a1 =>
  (rd w a1 (0 + x1)).bind fun v2 =>
  some (v2, w)
def F_M_now_0 (t : Nat) (x1 : Int32) (w : A_W) : Option (Int32 × A_W) :=
  if x1 = 0 then
    F_M_now_48 t x1 w
  else if x1 = 1 then
    F_M_now_48 t x1 w
  else if x1 = 2 then
    (ob w t 4).bind fun o2 =>
    (F_M_sums t 2 w).bind fun p1 =>
    some (p1.1, p1.2)
  else if x1 = 3 then
    (ob w t 4).bind fun o4 =>
    (F_M_goneOnes t w).bind fun p3 =>
    some (p3.1, p3.2)
  else if x1 = 4 then
    (ob w t 4).bind fun o6 =>
    (F_M_darkOnes t w).bind fun p5 =>
    some (p5.1, p5.2)
  else if x1 = 5 then
    (ob w t 4).bind fun o8 =>
    (F_M_lightest t w).bind fun p7 =>
    some (p7.1, p7.2)
  else if x1 = 6 then
    (ob w t 4).bind fun o10 =>
    (F_M_allCost t w).bind fun p9 =>
    some (p9.1, p9.2)
  else if x1 = 7 then
    (ob w t 4).bind fun o12 =>
    (F_M_sums t 0 w).bind fun p11 =>
    some (p11.1, p11.2)
  else
    (ob w t 4).bind fun o14 =>
    (F_M_finds t (-1000001) w).bind fun p13 =>
    some (p13.1, p13.2)
set_option maxHeartbeats 4000000 in
set_option maxRecDepth 100000 in
theorem s_M_now_48 {G : Gx} {X : Cx} {res : Int32 × A_W} (K : Ok G X 4 c_M_now 2 (some .int) rm_M_now) (hQ : QQ G X (some (.int res.1)) res.2 0 0) (t : Nat) (x1 : Int32) (w : A_W) (h : F_M_now_48 t x1 w = some res) : Sm G X w 0 0 [some (.ref t), some (.int x1)] [] 48 := by
  unfold F_M_now_48 at h
  refine Sm_run K ek_M_now 2 1 rfl ?_
  obtain ⟨a1, e_a1, h⟩ := Option.bind_eq_some_iff.mp h
  refine Sm_gr K (eo ek_M_now (i := 3) rfl) e_a1 ?_
  refine Sm_run K ek_M_now 4 3 rfl ?_
  obtain ⟨v2, e_v2, h⟩ := Option.bind_eq_some_iff.mp h
  refine Sm_rd K (eok_i (eo ek_M_now (i := 7) rfl) rfl) e_v2 ?_
  obtain rfl := Option.some.inj h
  exact Sm_reti K hQ (eok_i (eo ek_M_now (i := 8) rfl) rfl)
set_option maxHeartbeats 4000000 in
set_option maxRecDepth 100000 in
theorem s_M_now_0 {G : Gx} {X : Cx} {res : Int32 × A_W} (K : Ok G X 4 c_M_now 2 (some .int) rm_M_now) (hQ : QQ G X (some (.int res.1)) res.2 0 0) (t : Nat) (x1 : Int32) (w : A_W) (h : F_M_now_0 t x1 w = some res) : Sm G X w 0 0 [some (.ref t), some (.int x1)] [] 0 := by
  unfold F_M_now_0 at h
  refine Sm_run K ek_M_now 0 1 rfl ?_
  refine Sm_tsw K (eok_d (eo ek_M_now (i := 1) rfl)) [48, 48, 57, 63, 68, 73, 78, 83] 89 (by decide) (by decide) (by decide) (fun j hj hx => ?_) (fun hx => ?_)
  · have hj : j < 8 := hj
    rcases (show j = 0 ∨ j = 1 ∨ j = 2 ∨ j = 3 ∨ j = 4 ∨ j = 5 ∨ j = 6 ∨ j = 7 by omega) with rfl | rfl | rfl | rfl | rfl | rfl | rfl | rfl
    · have hc : x1 = 0 := Int32.toInt_inj.mp (hx.trans (by decide))
      rw [if_pos hc] at h
      refine Sm_pc (pc1 := 48) rfl ?_
      exact Sm_le (leR_s (leR_s leR_nil)) (s_M_now_48 K hQ _ _ _ h)
    · have hc : x1 = 1 := Int32.toInt_inj.mp (hx.trans (by decide))
      rw [if_neg (by rw [hc]; decide), if_pos hc] at h
      refine Sm_pc (pc1 := 48) rfl ?_
      exact Sm_le (leR_s (leR_s leR_nil)) (s_M_now_48 K hQ _ _ _ h)
    · have hc : x1 = 2 := Int32.toInt_inj.mp (hx.trans (by decide))
      rw [if_neg (by rw [hc]; decide), if_neg (by rw [hc]; decide), if_pos hc] at h
      refine Sm_pc (pc1 := 57) rfl ?_
      refine Sm_run K ek_M_now 9 2 rfl ?_
      obtain ⟨o2, e_o2, h⟩ := Option.bind_eq_some_iff.mp h
      obtain ⟨p1, e_p1, h⟩ := Option.bind_eq_some_iff.mp h
      refine Sm_callV K (eok_i (eo ek_M_now (i := 11) rfl) rfl) cy_M_sums im_M_sums se_M_sums (lgm 960 (by decide +kernel) rfl) ⟨Nat.le_of_ble_eq_true rfl, Nat.le_of_ble_eq_true rfl⟩ (as := [.int 2]) (b := t) (st := []) (ob_e e_o2) (by decide) rfl rfl rfl rfl (Nat.le_of_ble_eq_true rfl) ⟨Nat.le_of_ble_eq_true rfl, Nat.le_of_ble_eq_true rfl⟩ (cn_M_sums e_p1) ?_
      refine Sm_eq (st1 := .int p1.1 :: []) (nc1 := 0) (ns1 := 0) rfl rfl rfl ?_
      obtain rfl := Option.some.inj h
      exact Sm_reti K hQ (eok_i (eo ek_M_now (i := 12) rfl) rfl)
    · have hc : x1 = 3 := Int32.toInt_inj.mp (hx.trans (by decide))
      rw [if_neg (by rw [hc]; decide), if_neg (by rw [hc]; decide), if_neg (by rw [hc]; decide), if_pos hc] at h
      refine Sm_pc (pc1 := 63) rfl ?_
      refine Sm_run K ek_M_now 13 1 rfl ?_
      obtain ⟨o4, e_o4, h⟩ := Option.bind_eq_some_iff.mp h
      obtain ⟨p3, e_p3, h⟩ := Option.bind_eq_some_iff.mp h
      refine Sm_callV K (eok_i (eo ek_M_now (i := 14) rfl) rfl) cy_M_goneOnes im_M_goneOnes se_M_goneOnes (lgm 964 (by decide +kernel) rfl) ⟨Nat.le_of_ble_eq_true rfl, Nat.le_of_ble_eq_true rfl⟩ (as := []) (b := t) (st := []) (ob_e e_o4) (by decide) rfl rfl rfl rfl (Nat.le_of_ble_eq_true rfl) ⟨Nat.le_of_ble_eq_true rfl, Nat.le_of_ble_eq_true rfl⟩ (cn_M_goneOnes e_p3) ?_
      refine Sm_eq (st1 := .int p3.1 :: []) (nc1 := 0) (ns1 := 0) rfl rfl rfl ?_
      obtain rfl := Option.some.inj h
      exact Sm_reti K hQ (eok_i (eo ek_M_now (i := 15) rfl) rfl)
    · have hc : x1 = 4 := Int32.toInt_inj.mp (hx.trans (by decide))
      rw [if_neg (by rw [hc]; decide), if_neg (by rw [hc]; decide), if_neg (by rw [hc]; decide), if_neg (by rw [hc]; decide), if_pos hc] at h
      refine Sm_pc (pc1 := 68) rfl ?_
      refine Sm_run K ek_M_now 16 1 rfl ?_
      obtain ⟨o6, e_o6, h⟩ := Option.bind_eq_some_iff.mp h
      obtain ⟨p5, e_p5, h⟩ := Option.bind_eq_some_iff.mp h
      refine Sm_callV K (eok_i (eo ek_M_now (i := 17) rfl) rfl) cy_M_darkOnes im_M_darkOnes se_M_darkOnes (lgm 968 (by decide +kernel) rfl) ⟨Nat.le_of_ble_eq_true rfl, Nat.le_of_ble_eq_true rfl⟩ (as := []) (b := t) (st := []) (ob_e e_o6) (by decide) rfl rfl rfl rfl (Nat.le_of_ble_eq_true rfl) ⟨Nat.le_of_ble_eq_true rfl, Nat.le_of_ble_eq_true rfl⟩ (cn_M_darkOnes e_p5) ?_
      refine Sm_eq (st1 := .int p5.1 :: []) (nc1 := 0) (ns1 := 0) rfl rfl rfl ?_
      obtain rfl := Option.some.inj h
      exact Sm_reti K hQ (eok_i (eo ek_M_now (i := 18) rfl) rfl)
    · have hc : x1 = 5 := Int32.toInt_inj.mp (hx.trans (by decide))
      rw [if_neg (by rw [hc]; decide), if_neg (by rw [hc]; decide), if_neg (by rw [hc]; decide), if_neg (by rw [hc]; decide), if_neg (by rw [hc]; decide), if_pos hc] at h
      refine Sm_pc (pc1 := 73) rfl ?_
      refine Sm_run K ek_M_now 19 1 rfl ?_
      obtain ⟨o8, e_o8, h⟩ := Option.bind_eq_some_iff.mp h
      obtain ⟨p7, e_p7, h⟩ := Option.bind_eq_some_iff.mp h
      refine Sm_callV K (eok_i (eo ek_M_now (i := 20) rfl) rfl) cy_M_lightest im_M_lightest se_M_lightest (lgm 972 (by decide +kernel) rfl) ⟨Nat.le_of_ble_eq_true rfl, Nat.le_of_ble_eq_true rfl⟩ (as := []) (b := t) (st := []) (ob_e e_o8) (by decide) rfl rfl rfl rfl (Nat.le_of_ble_eq_true rfl) ⟨Nat.le_of_ble_eq_true rfl, Nat.le_of_ble_eq_true rfl⟩ (cn_M_lightest e_p7) ?_
      refine Sm_eq (st1 := .int p7.1 :: []) (nc1 := 0) (ns1 := 0) rfl rfl rfl ?_
      obtain rfl := Option.some.inj h
      exact Sm_reti K hQ (eok_i (eo ek_M_now (i := 21) rfl) rfl)
    · have hc : x1 = 6 := Int32.toInt_inj.mp (hx.trans (by decide))
      rw [if_neg (by rw [hc]; decide), if_neg (by rw [hc]; decide), if_neg (by rw [hc]; decide), if_neg (by rw [hc]; decide), if_neg (by rw [hc]; decide), if_neg (by rw [hc]; decide), if_pos hc] at h
      refine Sm_pc (pc1 := 78) rfl ?_
      refine Sm_run K ek_M_now 22 1 rfl ?_
      obtain ⟨o10, e_o10, h⟩ := Option.bind_eq_some_iff.mp h
      obtain ⟨p9, e_p9, h⟩ := Option.bind_eq_some_iff.mp h
      refine Sm_callV K (eok_i (eo ek_M_now (i := 23) rfl) rfl) cy_M_allCost im_M_allCost se_M_allCost (lgm 952 (by decide +kernel) rfl) ⟨Nat.le_of_ble_eq_true rfl, Nat.le_of_ble_eq_true rfl⟩ (as := []) (b := t) (st := []) (ob_e e_o10) (by decide) rfl rfl rfl rfl (Nat.le_of_ble_eq_true rfl) ⟨Nat.le_of_ble_eq_true rfl, Nat.le_of_ble_eq_true rfl⟩ (cn_M_allCost e_p9) ?_
      refine Sm_eq (st1 := .int p9.1 :: []) (nc1 := 0) (ns1 := 0) rfl rfl rfl ?_
      obtain rfl := Option.some.inj h
      exact Sm_reti K hQ (eok_i (eo ek_M_now (i := 24) rfl) rfl)
    · have hc : x1 = 7 := Int32.toInt_inj.mp (hx.trans (by decide))
      rw [if_neg (by rw [hc]; decide), if_neg (by rw [hc]; decide), if_neg (by rw [hc]; decide), if_neg (by rw [hc]; decide), if_neg (by rw [hc]; decide), if_neg (by rw [hc]; decide), if_neg (by rw [hc]; decide), if_pos hc] at h
      refine Sm_pc (pc1 := 83) rfl ?_
      refine Sm_run K ek_M_now 25 2 rfl ?_
      obtain ⟨o12, e_o12, h⟩ := Option.bind_eq_some_iff.mp h
      obtain ⟨p11, e_p11, h⟩ := Option.bind_eq_some_iff.mp h
      refine Sm_callV K (eok_i (eo ek_M_now (i := 27) rfl) rfl) cy_M_sums im_M_sums se_M_sums (lgm 960 (by decide +kernel) rfl) ⟨Nat.le_of_ble_eq_true rfl, Nat.le_of_ble_eq_true rfl⟩ (as := [.int 0]) (b := t) (st := []) (ob_e e_o12) (by decide) rfl rfl rfl rfl (Nat.le_of_ble_eq_true rfl) ⟨Nat.le_of_ble_eq_true rfl, Nat.le_of_ble_eq_true rfl⟩ (cn_M_sums e_p11) ?_
      refine Sm_eq (st1 := .int p11.1 :: []) (nc1 := 0) (ns1 := 0) rfl rfl rfl ?_
      obtain rfl := Option.some.inj h
      exact Sm_reti K hQ (eok_i (eo ek_M_now (i := 28) rfl) rfl)
  · rw [if_neg (fun hc => hx 0 (by decide) (by rw [hc]; decide)), if_neg (fun hc => hx 1 (by decide) (by rw [hc]; decide)), if_neg (fun hc => hx 2 (by decide) (by rw [hc]; decide)), if_neg (fun hc => hx 3 (by decide) (by rw [hc]; decide)), if_neg (fun hc => hx 4 (by decide) (by rw [hc]; decide)), if_neg (fun hc => hx 5 (by decide) (by rw [hc]; decide)), if_neg (fun hc => hx 6 (by decide) (by rw [hc]; decide)), if_neg (fun hc => hx 7 (by decide) (by rw [hc]; decide))] at h
    refine Sm_run K ek_M_now 29 2 rfl ?_
    obtain ⟨o14, e_o14, h⟩ := Option.bind_eq_some_iff.mp h
    obtain ⟨p13, e_p13, h⟩ := Option.bind_eq_some_iff.mp h
    refine Sm_callV K (eok_i (eo ek_M_now (i := 31) rfl) rfl) cy_M_finds im_M_finds se_M_finds (lgm 826 (by decide +kernel) rfl) ⟨Nat.le_of_ble_eq_true rfl, Nat.le_of_ble_eq_true rfl⟩ (as := [.int (-1000001)]) (b := t) (st := []) (ob_e e_o14) (by decide) rfl rfl rfl rfl (Nat.le_of_ble_eq_true rfl) ⟨Nat.le_of_ble_eq_true rfl, Nat.le_of_ble_eq_true rfl⟩ (cn_M_finds e_p13) ?_
    refine Sm_eq (st1 := .int p13.1 :: []) (nc1 := 0) (ns1 := 0) rfl rfl rfl ?_
    obtain rfl := Option.some.inj h
    exact Sm_reti K hQ (eok_i (eo ek_M_now (i := 32) rfl) rfl)
def F_M_now (t : Nat) (x1 : Int32) (w : A_W) : Option (Int32 × A_W) := F_M_now_0 t x1 w
theorem cn_M_now {G : Gx} {t : Nat} {x1 : Int32} {w : A_W} {res : Int32 × A_W} (h : F_M_now t x1 w = some res) : Cn G y_M_now c_M_now 2 (some .int) rm_M_now [.ref t, .int x1] w (some (.int res.1)) res.2 :=
  Cn_of (own := 4) cy_M_now rfl rfl (Nat.le_of_ble_eq_true rfl) rfl (fun X K _ hQ => Sm_le (leR_s (leR_s leR_nil)) (s_M_now_0 K hQ _ _ _ h))
/-! EveningCloakModel.thinks()V -/
abbrev c_M_thinks : ByteArray := prog_6_method_46_code
def y_M_thinks : MethodName := ⟨"EveningCloakModel", "thinks", "()V"⟩
def rm_M_thinks : Room := { frames := 1, cells := 0, slots := 0, locals := 22 }
theorem cy_M_thinks : Cy y_M_thinks c_M_thinks 1 (none) 0 := ⟨lgm 983 (by decide +kernel) rfl, lgm 73 (by decide +kernel) rfl, by decide +kernel, by decide +kernel⟩
theorem im_M_thinks : Cond.instanceMethod y_M_thinks ∈ lg := lgm 982 (by decide +kernel) rfl
theorem se_M_thinks : Cond.selects y_M_thinks.cls y_M_thinks y_M_thinks ∈ lg := lgm 43 (by decide +kernel) rfl
def e_M_thinks : List Ent := [
  (0, .aload_n 0, 1, 1, .null, 0, 0, 0),
  (1, .getfield 9, 3, 4, .null, 4, 0, 762),
  (4, .aload_n 0, 1, 5, .null, 0, 0, 0),
  (5, .getfield 16, 3, 8, .null, 4, 2, 764),
  (8, .invokestatic 138, 3, 11, .null, 0, 0, 0),
  (11, .return_, 1, 12, .null, 0, 0, 0)]
set_option maxRecDepth 100000 in
theorem ek_M_thinks : e_M_thinks.all (eok 4 c_M_thinks) = true := by decide +kernel
def F_M_thinks_0 (t : Nat) (w : A_W) : Option (A_W) :=
  (gr w t 4 0).bind fun a1 =>
  (gr w t 4 2).bind fun a2 =>
  (F_M_copyAll a1 a2 w).bind fun p3 =>
  some p3
set_option maxHeartbeats 4000000 in
set_option maxRecDepth 100000 in
theorem s_M_thinks_0 {G : Gx} {X : Cx} {res : A_W} (K : Ok G X 4 c_M_thinks 1 (none) rm_M_thinks) (hQ : QQ G X none res 0 0) (t : Nat) (w : A_W) (h : F_M_thinks_0 t w = some res) : Sm G X w 0 0 [some (.ref t)] [] 0 := by
  unfold F_M_thinks_0 at h
  refine Sm_run K ek_M_thinks 0 1 rfl ?_
  obtain ⟨a1, e_a1, h⟩ := Option.bind_eq_some_iff.mp h
  refine Sm_gr K (eo ek_M_thinks (i := 1) rfl) e_a1 ?_
  refine Sm_run K ek_M_thinks 2 1 rfl ?_
  obtain ⟨a2, e_a2, h⟩ := Option.bind_eq_some_iff.mp h
  refine Sm_gr K (eo ek_M_thinks (i := 3) rfl) e_a2 ?_
  obtain ⟨p3, e_p3, h⟩ := Option.bind_eq_some_iff.mp h
  refine Sm_callS K (eok_i (eo ek_M_thinks (i := 4) rfl) rfl) cy_M_copyAll st_M_copyAll (lgm 984 (by decide +kernel) rfl) ⟨Nat.le_of_ble_eq_true rfl, Nat.le_of_ble_eq_true rfl⟩ (as := [.ref a1, .ref a2]) (st := []) rfl rfl rfl (Nat.le_of_ble_eq_true rfl) ⟨Nat.le_of_ble_eq_true rfl, Nat.le_of_ble_eq_true rfl⟩ (cn_M_copyAll e_p3) ?_
  refine Sm_eq (st1 := []) (nc1 := 0) (ns1 := 0) rfl rfl rfl ?_
  obtain rfl := Option.some.inj h
  exact Sm_retv K hQ (eok_i (eo ek_M_thinks (i := 5) rfl) rfl)
def F_M_thinks (t : Nat) (w : A_W) : Option (A_W) := F_M_thinks_0 t w
theorem cn_M_thinks {G : Gx} {t : Nat} {w : A_W} {res : A_W} (h : F_M_thinks t w = some res) : Cn G y_M_thinks c_M_thinks 1 (none) rm_M_thinks [.ref t] w none res :=
  Cn_of (own := 4) cy_M_thinks rfl rfl (Nat.le_of_ble_eq_true rfl) rfl (fun X K _ hQ => Sm_le (leR_s leR_nil) (s_M_thinks_0 K hQ _ _ h))
/-! EveningCloakModel.putsBack()V -/
abbrev c_M_putsBack : ByteArray := prog_6_method_47_code
def y_M_putsBack : MethodName := ⟨"EveningCloakModel", "putsBack", "()V"⟩
def rm_M_putsBack : Room := { frames := 1, cells := 0, slots := 0, locals := 22 }
theorem cy_M_putsBack : Cy y_M_putsBack c_M_putsBack 1 (none) 0 := ⟨lgm 990 (by decide +kernel) rfl, lgm 73 (by decide +kernel) rfl, by decide +kernel, by decide +kernel⟩
theorem im_M_putsBack : Cond.instanceMethod y_M_putsBack ∈ lg := lgm 989 (by decide +kernel) rfl
theorem se_M_putsBack : Cond.selects y_M_putsBack.cls y_M_putsBack y_M_putsBack ∈ lg := lgm 44 (by decide +kernel) rfl
def e_M_putsBack : List Ent := [
  (0, .aload_n 0, 1, 1, .null, 0, 0, 0),
  (1, .getfield 16, 3, 4, .null, 4, 2, 764),
  (4, .aload_n 0, 1, 5, .null, 0, 0, 0),
  (5, .getfield 9, 3, 8, .null, 4, 0, 762),
  (8, .invokestatic 138, 3, 11, .null, 0, 0, 0),
  (11, .return_, 1, 12, .null, 0, 0, 0)]
set_option maxRecDepth 100000 in
theorem ek_M_putsBack : e_M_putsBack.all (eok 4 c_M_putsBack) = true := by decide +kernel
def F_M_putsBack_0 (t : Nat) (w : A_W) : Option (A_W) :=
  (gr w t 4 2).bind fun a1 =>
  (gr w t 4 0).bind fun a2 =>
  (F_M_copyAll a1 a2 w).bind fun p3 =>
  some p3
set_option maxHeartbeats 4000000 in
set_option maxRecDepth 100000 in
theorem s_M_putsBack_0 {G : Gx} {X : Cx} {res : A_W} (K : Ok G X 4 c_M_putsBack 1 (none) rm_M_putsBack) (hQ : QQ G X none res 0 0) (t : Nat) (w : A_W) (h : F_M_putsBack_0 t w = some res) : Sm G X w 0 0 [some (.ref t)] [] 0 := by
  unfold F_M_putsBack_0 at h
  refine Sm_run K ek_M_putsBack 0 1 rfl ?_
  obtain ⟨a1, e_a1, h⟩ := Option.bind_eq_some_iff.mp h
  refine Sm_gr K (eo ek_M_putsBack (i := 1) rfl) e_a1 ?_
  refine Sm_run K ek_M_putsBack 2 1 rfl ?_
  obtain ⟨a2, e_a2, h⟩ := Option.bind_eq_some_iff.mp h
  refine Sm_gr K (eo ek_M_putsBack (i := 3) rfl) e_a2 ?_
  obtain ⟨p3, e_p3, h⟩ := Option.bind_eq_some_iff.mp h
  refine Sm_callS K (eok_i (eo ek_M_putsBack (i := 4) rfl) rfl) cy_M_copyAll st_M_copyAll (lgm 984 (by decide +kernel) rfl) ⟨Nat.le_of_ble_eq_true rfl, Nat.le_of_ble_eq_true rfl⟩ (as := [.ref a1, .ref a2]) (st := []) rfl rfl rfl (Nat.le_of_ble_eq_true rfl) ⟨Nat.le_of_ble_eq_true rfl, Nat.le_of_ble_eq_true rfl⟩ (cn_M_copyAll e_p3) ?_
  refine Sm_eq (st1 := []) (nc1 := 0) (ns1 := 0) rfl rfl rfl ?_
  obtain rfl := Option.some.inj h
  exact Sm_retv K hQ (eok_i (eo ek_M_putsBack (i := 5) rfl) rfl)
def F_M_putsBack (t : Nat) (w : A_W) : Option (A_W) := F_M_putsBack_0 t w
theorem cn_M_putsBack {G : Gx} {t : Nat} {w : A_W} {res : A_W} (h : F_M_putsBack t w = some res) : Cn G y_M_putsBack c_M_putsBack 1 (none) rm_M_putsBack [.ref t] w none res :=
  Cn_of (own := 4) cy_M_putsBack rfl rfl (Nat.le_of_ble_eq_true rfl) rfl (fun X K _ hQ => Sm_le (leR_s leR_nil) (s_M_putsBack_0 K hQ _ _ h))
/-! EveningCloakModel.ahead(III)I -/
abbrev c_M_ahead : ByteArray := prog_6_method_48_code
def y_M_ahead : MethodName := ⟨"EveningCloakModel", "ahead", "(III)I"⟩
def rm_M_ahead : Room := { frames := 6, cells := 0, slots := 0, locals := 137 }
theorem cy_M_ahead : Cy y_M_ahead c_M_ahead 6 (some .int) 3 := ⟨lgm 979 (by decide +kernel) rfl, lgm 73 (by decide +kernel) rfl, by decide +kernel, by decide +kernel⟩
theorem im_M_ahead : Cond.instanceMethod y_M_ahead ∈ lg := lgm 977 (by decide +kernel) rfl
theorem se_M_ahead : Cond.selects y_M_ahead.cls y_M_ahead y_M_ahead ∈ lg := lgm 978 (by decide +kernel) rfl
def e_M_ahead : List Ent := [
  (0, .iload_n 2, 1, 1, .null, 0, 0, 0),
  (1, .iconst 3, 1, 2, .int 3, 0, 0, 0),
  (2, .if_icmp .eq 20, 3, 22, .null, 0, 0, 0),
  (5, .iload_n 2, 1, 6, .null, 0, 0, 0),
  (6, .iconst 4, 1, 7, .int 4, 0, 0, 0),
  (7, .if_icmp .eq 15, 3, 22, .null, 0, 0, 0),
  (10, .iload_n 2, 1, 11, .null, 0, 0, 0),
  (11, .bipush 6, 2, 13, .int 6, 0, 0, 0),
  (13, .if_icmp .eq 9, 3, 22, .null, 0, 0, 0),
  (16, .iload_n 2, 1, 17, .null, 0, 0, 0),
  (17, .bipush 7, 2, 19, .int 7, 0, 0, 0),
  (19, .if_icmp .ne 7, 3, 26, .null, 0, 0, 0),
  (22, .iconst 1, 1, 23, .int 1, 0, 0, 0),
  (23, .goto 4, 3, 27, .null, 0, 0, 0),
  (26, .iconst 0, 1, 27, .int 0, 0, 0, 0),
  (27, .istore 4, 2, 29, .null, 0, 0, 0),
  (29, .aload_n 0, 1, 30, .null, 0, 0, 0),
  (30, .iload_n 1, 1, 31, .null, 0, 0, 0),
  (31, .invokevirtual 88, 3, 34, .null, 0, 0, 0),
  (34, .ifCond .eq 18, 3, 52, .null, 0, 0, 0),
  (37, .iload 4, 2, 39, .null, 0, 0, 0),
  (39, .ifCond .eq 13, 3, 52, .null, 0, 0, 0),
  (42, .iload_n 3, 1, 43, .null, 0, 0, 0),
  (43, .iconst 0, 1, 44, .int 0, 0, 0, 0),
  (44, .bipush 100, 2, 46, .int 100, 0, 0, 0),
  (46, .invokestatic 40, 3, 49, .null, 0, 0, 0),
  (49, .ifCond .ne 10, 3, 59, .null, 0, 0, 0),
  (52, .aload_n 0, 1, 53, .null, 0, 0, 0),
  (53, .ldc 34, 2, 55, .int (-1000001), 0, 0, 825),
  (55, .invokevirtual 36, 3, 58, .null, 0, 0, 0),
  (58, .ireturn, 1, 59, .null, 0, 0, 0),
  (59, .aload_n 0, 1, 60, .null, 0, 0, 0),
  (60, .invokevirtual 142, 3, 63, .null, 0, 0, 0),
  (63, .aload_n 0, 1, 64, .null, 0, 0, 0),
  (64, .iload_n 3, 1, 65, .null, 0, 0, 0),
  (65, .invokevirtual 122, 3, 68, .null, 0, 0, 0),
  (68, .iload_n 2, 1, 69, .null, 0, 0, 0),
  (69, .bipush 6, 2, 71, .int 6, 0, 0, 0),
  (71, .if_icmp .ne 11, 3, 82, .null, 0, 0, 0),
  (74, .aload_n 0, 1, 75, .null, 0, 0, 0),
  (75, .iload_n 1, 1, 76, .null, 0, 0, 0),
  (76, .invokevirtual 52, 3, 79, .null, 0, 0, 0),
  (79, .goto 23, 3, 102, .null, 0, 0, 0),
  (82, .iload_n 2, 1, 83, .null, 0, 0, 0),
  (83, .bipush 7, 2, 85, .int 7, 0, 0, 0),
  (85, .if_icmp .ne 11, 3, 96, .null, 0, 0, 0),
  (88, .aload_n 0, 1, 89, .null, 0, 0, 0),
  (89, .iload_n 1, 1, 90, .null, 0, 0, 0),
  (90, .invokevirtual 59, 3, 93, .null, 0, 0, 0),
  (93, .goto 9, 3, 102, .null, 0, 0, 0),
  (96, .aload_n 0, 1, 97, .null, 0, 0, 0),
  (97, .iload_n 1, 1, 98, .null, 0, 0, 0),
  (98, .iload_n 2, 1, 99, .null, 0, 0, 0),
  (99, .invokevirtual 44, 3, 102, .null, 0, 0, 0),
  (102, .istore 5, 2, 104, .null, 0, 0, 0),
  (104, .aload_n 0, 1, 105, .null, 0, 0, 0),
  (105, .invokevirtual 145, 3, 108, .null, 0, 0, 0),
  (108, .iload 5, 2, 110, .null, 0, 0, 0),
  (110, .ireturn, 1, 111, .null, 0, 0, 0)]
set_option maxRecDepth 100000 in
theorem ek_M_ahead : e_M_ahead.all (eok 4 c_M_ahead) = true := by decide +kernel
def F_M_ahead_52 (t : Nat) (w : A_W) : Option (Int32 × A_W) :=
  (ob w t 4).bind fun o2 =>
  (F_M_finds t (-1000001) w).bind fun p1 =>
  some (p1.1, p1.2)
def F_M_ahead_102 (t : Nat) (y0 : Int32) (w : A_W) : Option (Int32 × A_W) :=
  (ob w t 4).bind fun o2 =>
  (F_M_putsBack t w).bind fun p1 =>
  some (y0, p1)
def F_M_ahead_27 (t : Nat) (x1 : Int32) (x2 : Int32) (x3 : Int32) (y0 : Int32) (w : A_W) : Option (Int32 × A_W) :=
  (ob w t 4).bind fun o2 =>
  (F_M_isDeposit t x1 w).bind fun p1 =>
  if p1.1 = 0 then
    F_M_ahead_52 t p1.2
  else
    if y0 = 0 then
      F_M_ahead_52 t p1.2
    else
      (F_M_in x3 0 100 p1.2).bind fun p5 =>
      if p5.1 = 0 then
        F_M_ahead_52 t p5.2
      else
        (ob p5.2 t 4).bind fun o8 =>
        (F_M_thinks t p5.2).bind fun p7 =>
        (ob p7 t 4).bind fun o10 =>
        (F_M_goesFor t x3 p7).bind fun p9 =>
        if x2 = 6 then
          (ob p9 t 4).bind fun o18 =>
          (F_M_shines t x1 p9).bind fun p17 =>
          F_M_ahead_102 t p17.1 p17.2
        else
          if x2 = 7 then
            (ob p9 t 4).bind fun o16 =>
            (F_M_reaches t x1 p9).bind fun p15 =>
            F_M_ahead_102 t p15.1 p15.2
          else
            (ob p9 t 4).bind fun o14 =>
            (F_M_it t x1 x2 p9).bind fun p13 =>
            F_M_ahead_102 t p13.1 p13.2
def F_M_ahead_22 (t : Nat) (x1 : Int32) (x2 : Int32) (x3 : Int32) (w : A_W) : Option (Int32 × A_W) :=
  F_M_ahead_27 t x1 x2 x3 1 w
def F_M_ahead_0 (t : Nat) (x1 : Int32) (x2 : Int32) (x3 : Int32) (w : A_W) : Option (Int32 × A_W) :=
  if x2 = 3 then
    F_M_ahead_22 t x1 x2 x3 w
  else
    if x2 = 4 then
      F_M_ahead_22 t x1 x2 x3 w
    else
      if x2 = 6 then
        F_M_ahead_22 t x1 x2 x3 w
      else
        if x2 = 7 then
          F_M_ahead_22 t x1 x2 x3 w
        else
          F_M_ahead_27 t x1 x2 x3 0 w
set_option maxHeartbeats 4000000 in
set_option maxRecDepth 100000 in
theorem s_M_ahead_52 {G : Gx} {X : Cx} {res : Int32 × A_W} (K : Ok G X 4 c_M_ahead 6 (some .int) rm_M_ahead) (hQ : QQ G X (some (.int res.1)) res.2 0 0) (t : Nat) (w : A_W) (h : F_M_ahead_52 t w = some res) : Sm G X w 0 0 [some (.ref t), none, none, none, none, none] [] 52 := by
  unfold F_M_ahead_52 at h
  refine Sm_run K ek_M_ahead 27 2 rfl ?_
  obtain ⟨o2, e_o2, h⟩ := Option.bind_eq_some_iff.mp h
  obtain ⟨p1, e_p1, h⟩ := Option.bind_eq_some_iff.mp h
  refine Sm_callV K (eok_i (eo ek_M_ahead (i := 29) rfl) rfl) cy_M_finds im_M_finds se_M_finds (lgm 826 (by decide +kernel) rfl) ⟨Nat.le_of_ble_eq_true rfl, Nat.le_of_ble_eq_true rfl⟩ (as := [.int (-1000001)]) (b := t) (st := []) (ob_e e_o2) (by decide) rfl rfl rfl rfl (Nat.le_of_ble_eq_true rfl) ⟨Nat.le_of_ble_eq_true rfl, Nat.le_of_ble_eq_true rfl⟩ (cn_M_finds e_p1) ?_
  refine Sm_eq (st1 := .int p1.1 :: []) (nc1 := 0) (ns1 := 0) rfl rfl rfl ?_
  obtain rfl := Option.some.inj h
  exact Sm_reti K hQ (eok_i (eo ek_M_ahead (i := 30) rfl) rfl)
set_option maxHeartbeats 4000000 in
set_option maxRecDepth 100000 in
theorem s_M_ahead_102 {G : Gx} {X : Cx} {res : Int32 × A_W} (K : Ok G X 4 c_M_ahead 6 (some .int) rm_M_ahead) (hQ : QQ G X (some (.int res.1)) res.2 0 0) (t : Nat) (y0 : Int32) (w : A_W) (h : F_M_ahead_102 t y0 w = some res) : Sm G X w 0 0 [some (.ref t), none, none, none, none, none] [.int y0] 102 := by
  unfold F_M_ahead_102 at h
  refine Sm_run K ek_M_ahead 54 2 rfl ?_
  obtain ⟨o2, e_o2, h⟩ := Option.bind_eq_some_iff.mp h
  obtain ⟨p1, e_p1, h⟩ := Option.bind_eq_some_iff.mp h
  refine Sm_callV K (eok_i (eo ek_M_ahead (i := 56) rfl) rfl) cy_M_putsBack im_M_putsBack se_M_putsBack (lgm 987 (by decide +kernel) rfl) ⟨Nat.le_of_ble_eq_true rfl, Nat.le_of_ble_eq_true rfl⟩ (as := []) (b := t) (st := []) (ob_e e_o2) (by decide) rfl rfl rfl rfl (Nat.le_of_ble_eq_true rfl) ⟨Nat.le_of_ble_eq_true rfl, Nat.le_of_ble_eq_true rfl⟩ (cn_M_putsBack e_p1) ?_
  refine Sm_eq (st1 := []) (nc1 := 0) (ns1 := 0) rfl rfl rfl ?_
  refine Sm_run K ek_M_ahead 57 1 rfl ?_
  obtain rfl := Option.some.inj h
  exact Sm_reti K hQ (eok_i (eo ek_M_ahead (i := 58) rfl) rfl)
set_option maxHeartbeats 4000000 in
set_option maxRecDepth 100000 in
theorem s_M_ahead_27 {G : Gx} {X : Cx} {res : Int32 × A_W} (K : Ok G X 4 c_M_ahead 6 (some .int) rm_M_ahead) (hQ : QQ G X (some (.int res.1)) res.2 0 0) (t : Nat) (x1 : Int32) (x2 : Int32) (x3 : Int32) (y0 : Int32) (w : A_W) (h : F_M_ahead_27 t x1 x2 x3 y0 w = some res) : Sm G X w 0 0 [some (.ref t), some (.int x1), some (.int x2), some (.int x3), none, none] [.int y0] 27 := by
  unfold F_M_ahead_27 at h
  refine Sm_run K ek_M_ahead 15 3 rfl ?_
  obtain ⟨o2, e_o2, h⟩ := Option.bind_eq_some_iff.mp h
  obtain ⟨p1, e_p1, h⟩ := Option.bind_eq_some_iff.mp h
  refine Sm_callV K (eok_i (eo ek_M_ahead (i := 18) rfl) rfl) cy_M_isDeposit im_M_isDeposit se_M_isDeposit (lgm 863 (by decide +kernel) rfl) ⟨Nat.le_of_ble_eq_true rfl, Nat.le_of_ble_eq_true rfl⟩ (as := [.int x1]) (b := t) (st := []) (ob_e e_o2) (by decide) rfl rfl rfl rfl (Nat.le_of_ble_eq_true rfl) ⟨Nat.le_of_ble_eq_true rfl, Nat.le_of_ble_eq_true rfl⟩ (cn_M_isDeposit e_p1) ?_
  refine Sm_eq (st1 := .int p1.1 :: []) (nc1 := 0) (ns1 := 0) rfl rfl rfl ?_
  refine Sm_if_eq K (eo ek_M_ahead (i := 19) rfl) (fun c3 => ?_) (fun c3 => ?_)
  · rw [if_pos c3] at h
    exact Sm_le (leR_s (leR_n (leR_n (leR_n (leR_n (leR_n leR_nil)))))) (s_M_ahead_52 K hQ _ _ h)
  · rw [if_neg c3] at h
    refine Sm_run K ek_M_ahead 20 1 rfl ?_
    refine Sm_if_eq K (eo ek_M_ahead (i := 21) rfl) (fun c4 => ?_) (fun c4 => ?_)
    · rw [if_pos c4] at h
      exact Sm_le (leR_s (leR_n (leR_n (leR_n (leR_n (leR_n leR_nil)))))) (s_M_ahead_52 K hQ _ _ h)
    · rw [if_neg c4] at h
      refine Sm_run K ek_M_ahead 22 3 rfl ?_
      obtain ⟨p5, e_p5, h⟩ := Option.bind_eq_some_iff.mp h
      refine Sm_callS K (eok_i (eo ek_M_ahead (i := 25) rfl) rfl) cy_M_in st_M_in (lgm 815 (by decide +kernel) rfl) ⟨Nat.le_of_ble_eq_true rfl, Nat.le_of_ble_eq_true rfl⟩ (as := [.int x3, .int 0, .int 100]) (st := []) rfl rfl rfl (Nat.le_of_ble_eq_true rfl) ⟨Nat.le_of_ble_eq_true rfl, Nat.le_of_ble_eq_true rfl⟩ (cn_M_in e_p5) ?_
      refine Sm_eq (st1 := .int p5.1 :: []) (nc1 := 0) (ns1 := 0) rfl rfl rfl ?_
      refine Sm_if_ne K (eo ek_M_ahead (i := 26) rfl) (fun c6 => ?_) (fun c6 => ?_)
      · rw [if_neg c6] at h
        refine Sm_run K ek_M_ahead 31 1 rfl ?_
        obtain ⟨o8, e_o8, h⟩ := Option.bind_eq_some_iff.mp h
        obtain ⟨p7, e_p7, h⟩ := Option.bind_eq_some_iff.mp h
        refine Sm_callV K (eok_i (eo ek_M_ahead (i := 32) rfl) rfl) cy_M_thinks im_M_thinks se_M_thinks (lgm 980 (by decide +kernel) rfl) ⟨Nat.le_of_ble_eq_true rfl, Nat.le_of_ble_eq_true rfl⟩ (as := []) (b := t) (st := []) (ob_e e_o8) (by decide) rfl rfl rfl rfl (Nat.le_of_ble_eq_true rfl) ⟨Nat.le_of_ble_eq_true rfl, Nat.le_of_ble_eq_true rfl⟩ (cn_M_thinks e_p7) ?_
        refine Sm_eq (st1 := []) (nc1 := 0) (ns1 := 0) rfl rfl rfl ?_
        refine Sm_run K ek_M_ahead 33 2 rfl ?_
        obtain ⟨o10, e_o10, h⟩ := Option.bind_eq_some_iff.mp h
        obtain ⟨p9, e_p9, h⟩ := Option.bind_eq_some_iff.mp h
        refine Sm_callV K (eok_i (eo ek_M_ahead (i := 35) rfl) rfl) cy_M_goesFor im_M_goesFor se_M_goesFor (lgm 940 (by decide +kernel) rfl) ⟨Nat.le_of_ble_eq_true rfl, Nat.le_of_ble_eq_true rfl⟩ (as := [.int x3]) (b := t) (st := []) (ob_e e_o10) (by decide) rfl rfl rfl rfl (Nat.le_of_ble_eq_true rfl) ⟨Nat.le_of_ble_eq_true rfl, Nat.le_of_ble_eq_true rfl⟩ (cn_M_goesFor e_p9) ?_
        refine Sm_eq (st1 := []) (nc1 := 0) (ns1 := 0) rfl rfl rfl ?_
        refine Sm_run K ek_M_ahead 36 2 rfl ?_
        refine Sm_ic_ne K (eo ek_M_ahead (i := 38) rfl) (fun c11 => ?_) (fun c11 => ?_)
        · rw [if_neg c11] at h
          refine Sm_run K ek_M_ahead 43 2 rfl ?_
          refine Sm_ic_ne K (eo ek_M_ahead (i := 45) rfl) (fun c12 => ?_) (fun c12 => ?_)
          · rw [if_neg c12] at h
            refine Sm_run K ek_M_ahead 50 3 rfl ?_
            obtain ⟨o14, e_o14, h⟩ := Option.bind_eq_some_iff.mp h
            obtain ⟨p13, e_p13, h⟩ := Option.bind_eq_some_iff.mp h
            refine Sm_callV K (eok_i (eo ek_M_ahead (i := 53) rfl) rfl) cy_M_it im_M_it se_M_it (lgm 871 (by decide +kernel) rfl) ⟨Nat.le_of_ble_eq_true rfl, Nat.le_of_ble_eq_true rfl⟩ (as := [.int x1, .int x2]) (b := t) (st := []) (ob_e e_o14) (by decide) rfl rfl rfl rfl (Nat.le_of_ble_eq_true rfl) ⟨Nat.le_of_ble_eq_true rfl, Nat.le_of_ble_eq_true rfl⟩ (cn_M_it e_p13) ?_
            refine Sm_eq (st1 := .int p13.1 :: []) (nc1 := 0) (ns1 := 0) rfl rfl rfl ?_
            exact Sm_le (leR_s (leR_n (leR_n (leR_n (leR_n (leR_n leR_nil)))))) (s_M_ahead_102 K hQ _ _ _ h)
          · rw [if_pos c12] at h
            refine Sm_run K ek_M_ahead 46 2 rfl ?_
            obtain ⟨o16, e_o16, h⟩ := Option.bind_eq_some_iff.mp h
            obtain ⟨p15, e_p15, h⟩ := Option.bind_eq_some_iff.mp h
            refine Sm_callV K (eok_i (eo ek_M_ahead (i := 48) rfl) rfl) cy_M_reaches im_M_reaches se_M_reaches (lgm 878 (by decide +kernel) rfl) ⟨Nat.le_of_ble_eq_true rfl, Nat.le_of_ble_eq_true rfl⟩ (as := [.int x1]) (b := t) (st := []) (ob_e e_o16) (by decide) rfl rfl rfl rfl (Nat.le_of_ble_eq_true rfl) ⟨Nat.le_of_ble_eq_true rfl, Nat.le_of_ble_eq_true rfl⟩ (cn_M_reaches e_p15) ?_
            refine Sm_eq (st1 := .int p15.1 :: []) (nc1 := 0) (ns1 := 0) rfl rfl rfl ?_
            refine Sm_run K ek_M_ahead 49 1 rfl ?_
            exact Sm_le (leR_s (leR_n (leR_n (leR_n (leR_n (leR_n leR_nil)))))) (s_M_ahead_102 K hQ _ _ _ h)
        · rw [if_pos c11] at h
          refine Sm_run K ek_M_ahead 39 2 rfl ?_
          obtain ⟨o18, e_o18, h⟩ := Option.bind_eq_some_iff.mp h
          obtain ⟨p17, e_p17, h⟩ := Option.bind_eq_some_iff.mp h
          refine Sm_callV K (eok_i (eo ek_M_ahead (i := 41) rfl) rfl) cy_M_shines im_M_shines se_M_shines (lgm 867 (by decide +kernel) rfl) ⟨Nat.le_of_ble_eq_true rfl, Nat.le_of_ble_eq_true rfl⟩ (as := [.int x1]) (b := t) (st := []) (ob_e e_o18) (by decide) rfl rfl rfl rfl (Nat.le_of_ble_eq_true rfl) ⟨Nat.le_of_ble_eq_true rfl, Nat.le_of_ble_eq_true rfl⟩ (cn_M_shines e_p17) ?_
          refine Sm_eq (st1 := .int p17.1 :: []) (nc1 := 0) (ns1 := 0) rfl rfl rfl ?_
          refine Sm_run K ek_M_ahead 42 1 rfl ?_
          exact Sm_le (leR_s (leR_n (leR_n (leR_n (leR_n (leR_n leR_nil)))))) (s_M_ahead_102 K hQ _ _ _ h)
      · rw [if_pos c6] at h
        exact Sm_le (leR_s (leR_n (leR_n (leR_n (leR_n (leR_n leR_nil)))))) (s_M_ahead_52 K hQ _ _ h)
set_option maxHeartbeats 4000000 in
set_option maxRecDepth 100000 in
theorem s_M_ahead_22 {G : Gx} {X : Cx} {res : Int32 × A_W} (K : Ok G X 4 c_M_ahead 6 (some .int) rm_M_ahead) (hQ : QQ G X (some (.int res.1)) res.2 0 0) (t : Nat) (x1 : Int32) (x2 : Int32) (x3 : Int32) (w : A_W) (h : F_M_ahead_22 t x1 x2 x3 w = some res) : Sm G X w 0 0 [some (.ref t), some (.int x1), some (.int x2), some (.int x3), none, none] [] 22 := by
  unfold F_M_ahead_22 at h
  refine Sm_run K ek_M_ahead 12 2 rfl ?_
  exact Sm_le (leR_s (leR_s (leR_s (leR_s (leR_n (leR_n leR_nil)))))) (s_M_ahead_27 K hQ _ _ _ _ _ _ h)
set_option maxHeartbeats 4000000 in
set_option maxRecDepth 100000 in
theorem s_M_ahead_0 {G : Gx} {X : Cx} {res : Int32 × A_W} (K : Ok G X 4 c_M_ahead 6 (some .int) rm_M_ahead) (hQ : QQ G X (some (.int res.1)) res.2 0 0) (t : Nat) (x1 : Int32) (x2 : Int32) (x3 : Int32) (w : A_W) (h : F_M_ahead_0 t x1 x2 x3 w = some res) : Sm G X w 0 0 [some (.ref t), some (.int x1), some (.int x2), some (.int x3), none, none] [] 0 := by
  unfold F_M_ahead_0 at h
  refine Sm_run K ek_M_ahead 0 2 rfl ?_
  refine Sm_ic_eq K (eo ek_M_ahead (i := 2) rfl) (fun c1 => ?_) (fun c1 => ?_)
  · rw [if_pos c1] at h
    exact Sm_le (leR_s (leR_s (leR_s (leR_s (leR_n (leR_n leR_nil)))))) (s_M_ahead_22 K hQ _ _ _ _ _ h)
  · rw [if_neg c1] at h
    refine Sm_run K ek_M_ahead 3 2 rfl ?_
    refine Sm_ic_eq K (eo ek_M_ahead (i := 5) rfl) (fun c2 => ?_) (fun c2 => ?_)
    · rw [if_pos c2] at h
      exact Sm_le (leR_s (leR_s (leR_s (leR_s (leR_n (leR_n leR_nil)))))) (s_M_ahead_22 K hQ _ _ _ _ _ h)
    · rw [if_neg c2] at h
      refine Sm_run K ek_M_ahead 6 2 rfl ?_
      refine Sm_ic_eq K (eo ek_M_ahead (i := 8) rfl) (fun c3 => ?_) (fun c3 => ?_)
      · rw [if_pos c3] at h
        exact Sm_le (leR_s (leR_s (leR_s (leR_s (leR_n (leR_n leR_nil)))))) (s_M_ahead_22 K hQ _ _ _ _ _ h)
      · rw [if_neg c3] at h
        refine Sm_run K ek_M_ahead 9 2 rfl ?_
        refine Sm_ic_ne K (eo ek_M_ahead (i := 11) rfl) (fun c4 => ?_) (fun c4 => ?_)
        · rw [if_neg c4] at h
          refine Sm_run K ek_M_ahead 14 1 rfl ?_
          exact Sm_le (leR_s (leR_s (leR_s (leR_s (leR_n (leR_n leR_nil)))))) (s_M_ahead_27 K hQ _ _ _ _ _ _ h)
        · rw [if_pos c4] at h
          exact Sm_le (leR_s (leR_s (leR_s (leR_s (leR_n (leR_n leR_nil)))))) (s_M_ahead_22 K hQ _ _ _ _ _ h)
def F_M_ahead (t : Nat) (x1 : Int32) (x2 : Int32) (x3 : Int32) (w : A_W) : Option (Int32 × A_W) := F_M_ahead_0 t x1 x2 x3 w
theorem cn_M_ahead {G : Gx} {t : Nat} {x1 : Int32} {x2 : Int32} {x3 : Int32} {w : A_W} {res : Int32 × A_W} (h : F_M_ahead t x1 x2 x3 w = some res) : Cn G y_M_ahead c_M_ahead 6 (some .int) rm_M_ahead [.ref t, .int x1, .int x2, .int x3] w (some (.int res.1)) res.2 :=
  Cn_of (own := 4) cy_M_ahead rfl rfl (Nat.le_of_ble_eq_true rfl) rfl (fun X K _ hQ => Sm_le (leR_s (leR_s (leR_s (leR_s (leR_n (leR_n leR_nil)))))) (s_M_ahead_0 K hQ _ _ _ _ _ h))
/-! EveningCloakModel.later(III)I -/
abbrev c_M_later : ByteArray := prog_6_method_49_code
def y_M_later : MethodName := ⟨"EveningCloakModel", "later", "(III)I"⟩
def rm_M_later : Room := { frames := 6, cells := 0, slots := 0, locals := 137 }
theorem cy_M_later : Cy y_M_later c_M_later 5 (some .int) 3 := ⟨lgm 994 (by decide +kernel) rfl, lgm 73 (by decide +kernel) rfl, by decide +kernel, by decide +kernel⟩
theorem im_M_later : Cond.instanceMethod y_M_later ∈ lg := lgm 992 (by decide +kernel) rfl
theorem se_M_later : Cond.selects y_M_later.cls y_M_later y_M_later ∈ lg := lgm 993 (by decide +kernel) rfl
def e_M_later : List Ent := [
  (0, .aload_n 0, 1, 1, .null, 0, 0, 0),
  (1, .iload_n 1, 1, 2, .null, 0, 0, 0),
  (2, .invokevirtual 100, 3, 5, .null, 0, 0, 0),
  (5, .ifCond .eq 22, 3, 27, .null, 0, 0, 0),
  (8, .iload_n 2, 1, 9, .null, 0, 0, 0),
  (9, .ifCond .eq 8, 3, 17, .null, 0, 0, 0),
  (12, .iload_n 2, 1, 13, .null, 0, 0, 0),
  (13, .iconst 2, 1, 14, .int 2, 0, 0, 0),
  (14, .if_icmp .ne 13, 3, 27, .null, 0, 0, 0),
  (17, .iload_n 3, 1, 18, .null, 0, 0, 0),
  (18, .iconst 0, 1, 19, .int 0, 0, 0, 0),
  (19, .bipush 100, 2, 21, .int 100, 0, 0, 0),
  (21, .invokestatic 40, 3, 24, .null, 0, 0, 0),
  (24, .ifCond .ne 10, 3, 34, .null, 0, 0, 0),
  (27, .aload_n 0, 1, 28, .null, 0, 0, 0),
  (28, .ldc 34, 2, 30, .int (-1000001), 0, 0, 825),
  (30, .invokevirtual 36, 3, 33, .null, 0, 0, 0),
  (33, .ireturn, 1, 34, .null, 0, 0, 0),
  (34, .aload_n 0, 1, 35, .null, 0, 0, 0),
  (35, .invokevirtual 142, 3, 38, .null, 0, 0, 0),
  (38, .aload_n 0, 1, 39, .null, 0, 0, 0),
  (39, .iload_n 3, 1, 40, .null, 0, 0, 0),
  (40, .invokevirtual 122, 3, 43, .null, 0, 0, 0),
  (43, .aload_n 0, 1, 44, .null, 0, 0, 0),
  (44, .iload_n 1, 1, 45, .null, 0, 0, 0),
  (45, .iload_n 2, 1, 46, .null, 0, 0, 0),
  (46, .invokevirtual 103, 3, 49, .null, 0, 0, 0),
  (49, .istore 4, 2, 51, .null, 0, 0, 0),
  (51, .aload_n 0, 1, 52, .null, 0, 0, 0),
  (52, .invokevirtual 145, 3, 55, .null, 0, 0, 0),
  (55, .iload 4, 2, 57, .null, 0, 0, 0),
  (57, .ireturn, 1, 58, .null, 0, 0, 0)]
set_option maxRecDepth 100000 in
theorem ek_M_later : e_M_later.all (eok 4 c_M_later) = true := by decide +kernel
def F_M_later_27 (t : Nat) (w : A_W) : Option (Int32 × A_W) :=
  (ob w t 4).bind fun o2 =>
  (F_M_finds t (-1000001) w).bind fun p1 =>
  some (p1.1, p1.2)
def F_M_later_17 (t : Nat) (x1 : Int32) (x2 : Int32) (x3 : Int32) (w : A_W) : Option (Int32 × A_W) :=
  (F_M_in x3 0 100 w).bind fun p1 =>
  if p1.1 = 0 then
    F_M_later_27 t p1.2
  else
    (ob p1.2 t 4).bind fun o4 =>
    (F_M_thinks t p1.2).bind fun p3 =>
    (ob p3 t 4).bind fun o6 =>
    (F_M_goesFor t x3 p3).bind fun p5 =>
    (ob p5 t 4).bind fun o8 =>
    (F_M_her t x1 x2 p5).bind fun p7 =>
    (ob p7.2 t 4).bind fun o10 =>
    (F_M_putsBack t p7.2).bind fun p9 =>
    some (p7.1, p9)
def F_M_later_0 (t : Nat) (x1 : Int32) (x2 : Int32) (x3 : Int32) (w : A_W) : Option (Int32 × A_W) :=
  (ob w t 4).bind fun o2 =>
  (F_M_isGirl t x1 w).bind fun p1 =>
  if p1.1 = 0 then
    F_M_later_27 t p1.2
  else
    if x2 = 0 then
      F_M_later_17 t x1 x2 x3 p1.2
    else
      if x2 = 2 then
        F_M_later_17 t x1 x2 x3 p1.2
      else
        F_M_later_27 t p1.2
set_option maxHeartbeats 4000000 in
set_option maxRecDepth 100000 in
theorem s_M_later_27 {G : Gx} {X : Cx} {res : Int32 × A_W} (K : Ok G X 4 c_M_later 5 (some .int) rm_M_later) (hQ : QQ G X (some (.int res.1)) res.2 0 0) (t : Nat) (w : A_W) (h : F_M_later_27 t w = some res) : Sm G X w 0 0 [some (.ref t), none, none, none, none] [] 27 := by
  unfold F_M_later_27 at h
  refine Sm_run K ek_M_later 14 2 rfl ?_
  obtain ⟨o2, e_o2, h⟩ := Option.bind_eq_some_iff.mp h
  obtain ⟨p1, e_p1, h⟩ := Option.bind_eq_some_iff.mp h
  refine Sm_callV K (eok_i (eo ek_M_later (i := 16) rfl) rfl) cy_M_finds im_M_finds se_M_finds (lgm 826 (by decide +kernel) rfl) ⟨Nat.le_of_ble_eq_true rfl, Nat.le_of_ble_eq_true rfl⟩ (as := [.int (-1000001)]) (b := t) (st := []) (ob_e e_o2) (by decide) rfl rfl rfl rfl (Nat.le_of_ble_eq_true rfl) ⟨Nat.le_of_ble_eq_true rfl, Nat.le_of_ble_eq_true rfl⟩ (cn_M_finds e_p1) ?_
  refine Sm_eq (st1 := .int p1.1 :: []) (nc1 := 0) (ns1 := 0) rfl rfl rfl ?_
  obtain rfl := Option.some.inj h
  exact Sm_reti K hQ (eok_i (eo ek_M_later (i := 17) rfl) rfl)
set_option maxHeartbeats 4000000 in
set_option maxRecDepth 100000 in
theorem s_M_later_17 {G : Gx} {X : Cx} {res : Int32 × A_W} (K : Ok G X 4 c_M_later 5 (some .int) rm_M_later) (hQ : QQ G X (some (.int res.1)) res.2 0 0) (t : Nat) (x1 : Int32) (x2 : Int32) (x3 : Int32) (w : A_W) (h : F_M_later_17 t x1 x2 x3 w = some res) : Sm G X w 0 0 [some (.ref t), some (.int x1), some (.int x2), some (.int x3), none] [] 17 := by
  unfold F_M_later_17 at h
  refine Sm_run K ek_M_later 9 3 rfl ?_
  obtain ⟨p1, e_p1, h⟩ := Option.bind_eq_some_iff.mp h
  refine Sm_callS K (eok_i (eo ek_M_later (i := 12) rfl) rfl) cy_M_in st_M_in (lgm 815 (by decide +kernel) rfl) ⟨Nat.le_of_ble_eq_true rfl, Nat.le_of_ble_eq_true rfl⟩ (as := [.int x3, .int 0, .int 100]) (st := []) rfl rfl rfl (Nat.le_of_ble_eq_true rfl) ⟨Nat.le_of_ble_eq_true rfl, Nat.le_of_ble_eq_true rfl⟩ (cn_M_in e_p1) ?_
  refine Sm_eq (st1 := .int p1.1 :: []) (nc1 := 0) (ns1 := 0) rfl rfl rfl ?_
  refine Sm_if_ne K (eo ek_M_later (i := 13) rfl) (fun c2 => ?_) (fun c2 => ?_)
  · rw [if_neg c2] at h
    refine Sm_run K ek_M_later 18 1 rfl ?_
    obtain ⟨o4, e_o4, h⟩ := Option.bind_eq_some_iff.mp h
    obtain ⟨p3, e_p3, h⟩ := Option.bind_eq_some_iff.mp h
    refine Sm_callV K (eok_i (eo ek_M_later (i := 19) rfl) rfl) cy_M_thinks im_M_thinks se_M_thinks (lgm 980 (by decide +kernel) rfl) ⟨Nat.le_of_ble_eq_true rfl, Nat.le_of_ble_eq_true rfl⟩ (as := []) (b := t) (st := []) (ob_e e_o4) (by decide) rfl rfl rfl rfl (Nat.le_of_ble_eq_true rfl) ⟨Nat.le_of_ble_eq_true rfl, Nat.le_of_ble_eq_true rfl⟩ (cn_M_thinks e_p3) ?_
    refine Sm_eq (st1 := []) (nc1 := 0) (ns1 := 0) rfl rfl rfl ?_
    refine Sm_run K ek_M_later 20 2 rfl ?_
    obtain ⟨o6, e_o6, h⟩ := Option.bind_eq_some_iff.mp h
    obtain ⟨p5, e_p5, h⟩ := Option.bind_eq_some_iff.mp h
    refine Sm_callV K (eok_i (eo ek_M_later (i := 22) rfl) rfl) cy_M_goesFor im_M_goesFor se_M_goesFor (lgm 940 (by decide +kernel) rfl) ⟨Nat.le_of_ble_eq_true rfl, Nat.le_of_ble_eq_true rfl⟩ (as := [.int x3]) (b := t) (st := []) (ob_e e_o6) (by decide) rfl rfl rfl rfl (Nat.le_of_ble_eq_true rfl) ⟨Nat.le_of_ble_eq_true rfl, Nat.le_of_ble_eq_true rfl⟩ (cn_M_goesFor e_p5) ?_
    refine Sm_eq (st1 := []) (nc1 := 0) (ns1 := 0) rfl rfl rfl ?_
    refine Sm_run K ek_M_later 23 3 rfl ?_
    obtain ⟨o8, e_o8, h⟩ := Option.bind_eq_some_iff.mp h
    obtain ⟨p7, e_p7, h⟩ := Option.bind_eq_some_iff.mp h
    refine Sm_callV K (eok_i (eo ek_M_later (i := 26) rfl) rfl) cy_M_her im_M_her se_M_her (lgm 913 (by decide +kernel) rfl) ⟨Nat.le_of_ble_eq_true rfl, Nat.le_of_ble_eq_true rfl⟩ (as := [.int x1, .int x2]) (b := t) (st := []) (ob_e e_o8) (by decide) rfl rfl rfl rfl (Nat.le_of_ble_eq_true rfl) ⟨Nat.le_of_ble_eq_true rfl, Nat.le_of_ble_eq_true rfl⟩ (cn_M_her e_p7) ?_
    refine Sm_eq (st1 := .int p7.1 :: []) (nc1 := 0) (ns1 := 0) rfl rfl rfl ?_
    refine Sm_run K ek_M_later 27 2 rfl ?_
    obtain ⟨o10, e_o10, h⟩ := Option.bind_eq_some_iff.mp h
    obtain ⟨p9, e_p9, h⟩ := Option.bind_eq_some_iff.mp h
    refine Sm_callV K (eok_i (eo ek_M_later (i := 29) rfl) rfl) cy_M_putsBack im_M_putsBack se_M_putsBack (lgm 987 (by decide +kernel) rfl) ⟨Nat.le_of_ble_eq_true rfl, Nat.le_of_ble_eq_true rfl⟩ (as := []) (b := t) (st := []) (ob_e e_o10) (by decide) rfl rfl rfl rfl (Nat.le_of_ble_eq_true rfl) ⟨Nat.le_of_ble_eq_true rfl, Nat.le_of_ble_eq_true rfl⟩ (cn_M_putsBack e_p9) ?_
    refine Sm_eq (st1 := []) (nc1 := 0) (ns1 := 0) rfl rfl rfl ?_
    refine Sm_run K ek_M_later 30 1 rfl ?_
    obtain rfl := Option.some.inj h
    exact Sm_reti K hQ (eok_i (eo ek_M_later (i := 31) rfl) rfl)
  · rw [if_pos c2] at h
    exact Sm_le (leR_s (leR_n (leR_n (leR_n (leR_n leR_nil))))) (s_M_later_27 K hQ _ _ h)
set_option maxHeartbeats 4000000 in
set_option maxRecDepth 100000 in
theorem s_M_later_0 {G : Gx} {X : Cx} {res : Int32 × A_W} (K : Ok G X 4 c_M_later 5 (some .int) rm_M_later) (hQ : QQ G X (some (.int res.1)) res.2 0 0) (t : Nat) (x1 : Int32) (x2 : Int32) (x3 : Int32) (w : A_W) (h : F_M_later_0 t x1 x2 x3 w = some res) : Sm G X w 0 0 [some (.ref t), some (.int x1), some (.int x2), some (.int x3), none] [] 0 := by
  unfold F_M_later_0 at h
  refine Sm_run K ek_M_later 0 2 rfl ?_
  obtain ⟨o2, e_o2, h⟩ := Option.bind_eq_some_iff.mp h
  obtain ⟨p1, e_p1, h⟩ := Option.bind_eq_some_iff.mp h
  refine Sm_callV K (eok_i (eo ek_M_later (i := 2) rfl) rfl) cy_M_isGirl im_M_isGirl se_M_isGirl (lgm 909 (by decide +kernel) rfl) ⟨Nat.le_of_ble_eq_true rfl, Nat.le_of_ble_eq_true rfl⟩ (as := [.int x1]) (b := t) (st := []) (ob_e e_o2) (by decide) rfl rfl rfl rfl (Nat.le_of_ble_eq_true rfl) ⟨Nat.le_of_ble_eq_true rfl, Nat.le_of_ble_eq_true rfl⟩ (cn_M_isGirl e_p1) ?_
  refine Sm_eq (st1 := .int p1.1 :: []) (nc1 := 0) (ns1 := 0) rfl rfl rfl ?_
  refine Sm_if_eq K (eo ek_M_later (i := 3) rfl) (fun c3 => ?_) (fun c3 => ?_)
  · rw [if_pos c3] at h
    exact Sm_le (leR_s (leR_n (leR_n (leR_n (leR_n leR_nil))))) (s_M_later_27 K hQ _ _ h)
  · rw [if_neg c3] at h
    refine Sm_run K ek_M_later 4 1 rfl ?_
    refine Sm_if_eq K (eo ek_M_later (i := 5) rfl) (fun c4 => ?_) (fun c4 => ?_)
    · rw [if_pos c4] at h
      exact Sm_le (leR_s (leR_s (leR_s (leR_s (leR_n leR_nil))))) (s_M_later_17 K hQ _ _ _ _ _ h)
    · rw [if_neg c4] at h
      refine Sm_run K ek_M_later 6 2 rfl ?_
      refine Sm_ic_ne K (eo ek_M_later (i := 8) rfl) (fun c5 => ?_) (fun c5 => ?_)
      · rw [if_neg c5] at h
        exact Sm_le (leR_s (leR_n (leR_n (leR_n (leR_n leR_nil))))) (s_M_later_27 K hQ _ _ h)
      · rw [if_pos c5] at h
        exact Sm_le (leR_s (leR_s (leR_s (leR_s (leR_n leR_nil))))) (s_M_later_17 K hQ _ _ _ _ _ h)
def F_M_later (t : Nat) (x1 : Int32) (x2 : Int32) (x3 : Int32) (w : A_W) : Option (Int32 × A_W) := F_M_later_0 t x1 x2 x3 w
theorem cn_M_later {G : Gx} {t : Nat} {x1 : Int32} {x2 : Int32} {x3 : Int32} {w : A_W} {res : Int32 × A_W} (h : F_M_later t x1 x2 x3 w = some res) : Cn G y_M_later c_M_later 5 (some .int) rm_M_later [.ref t, .int x1, .int x2, .int x3] w (some (.int res.1)) res.2 :=
  Cn_of (own := 4) cy_M_later rfl rfl (Nat.le_of_ble_eq_true rfl) rfl (fun X K _ hQ => Sm_le (leR_s (leR_s (leR_s (leR_s (leR_n leR_nil))))) (s_M_later_0 K hQ _ _ _ _ _ h))
/-! EveningCloakModel.dawn(II)I -/
abbrev c_M_dawn : ByteArray := prog_6_method_50_code
def y_M_dawn : MethodName := ⟨"EveningCloakModel", "dawn", "(II)I"⟩
def rm_M_dawn : Room := { frames := 6, cells := 0, slots := 0, locals := 137 }
theorem cy_M_dawn : Cy y_M_dawn c_M_dawn 4 (some .int) 2 := ⟨lgm 998 (by decide +kernel) rfl, lgm 73 (by decide +kernel) rfl, by decide +kernel, by decide +kernel⟩
theorem im_M_dawn : Cond.instanceMethod y_M_dawn ∈ lg := lgm 996 (by decide +kernel) rfl
theorem se_M_dawn : Cond.selects y_M_dawn.cls y_M_dawn y_M_dawn ∈ lg := lgm 997 (by decide +kernel) rfl
def e_M_dawn : List Ent := [
  (0, .iload_n 1, 1, 1, .null, 0, 0, 0),
  (1, .invokestatic 68, 3, 4, .null, 0, 0, 0),
  (4, .ifCond .eq 13, 3, 17, .null, 0, 0, 0),
  (7, .iload_n 2, 1, 8, .null, 0, 0, 0),
  (8, .iconst 0, 1, 9, .int 0, 0, 0, 0),
  (9, .bipush 100, 2, 11, .int 100, 0, 0, 0),
  (11, .invokestatic 40, 3, 14, .null, 0, 0, 0),
  (14, .ifCond .ne 10, 3, 24, .null, 0, 0, 0),
  (17, .aload_n 0, 1, 18, .null, 0, 0, 0),
  (18, .ldc 34, 2, 20, .int (-1000001), 0, 0, 825),
  (20, .invokevirtual 36, 3, 23, .null, 0, 0, 0),
  (23, .ireturn, 1, 24, .null, 0, 0, 0),
  (24, .aload_n 0, 1, 25, .null, 0, 0, 0),
  (25, .invokevirtual 142, 3, 28, .null, 0, 0, 0),
  (28, .aload_n 0, 1, 29, .null, 0, 0, 0),
  (29, .iload_n 2, 1, 30, .null, 0, 0, 0),
  (30, .invokevirtual 122, 3, 33, .null, 0, 0, 0),
  (33, .aload_n 0, 1, 34, .null, 0, 0, 0),
  (34, .iload_n 1, 1, 35, .null, 0, 0, 0),
  (35, .invokevirtual 62, 3, 38, .null, 0, 0, 0),
  (38, .istore_n 3, 1, 39, .null, 0, 0, 0),
  (39, .aload_n 0, 1, 40, .null, 0, 0, 0),
  (40, .invokevirtual 145, 3, 43, .null, 0, 0, 0),
  (43, .iload_n 3, 1, 44, .null, 0, 0, 0),
  (44, .ireturn, 1, 45, .null, 0, 0, 0)]
set_option maxRecDepth 100000 in
theorem ek_M_dawn : e_M_dawn.all (eok 4 c_M_dawn) = true := by decide +kernel
def F_M_dawn_17 (t : Nat) (w : A_W) : Option (Int32 × A_W) :=
  (ob w t 4).bind fun o2 =>
  (F_M_finds t (-1000001) w).bind fun p1 =>
  some (p1.1, p1.2)
def F_M_dawn_0 (t : Nat) (x1 : Int32) (x2 : Int32) (w : A_W) : Option (Int32 × A_W) :=
  (F_M_isHanger x1 w).bind fun p1 =>
  if p1.1 = 0 then
    F_M_dawn_17 t p1.2
  else
    (F_M_in x2 0 100 p1.2).bind fun p3 =>
    if p3.1 = 0 then
      F_M_dawn_17 t p3.2
    else
      (ob p3.2 t 4).bind fun o6 =>
      (F_M_thinks t p3.2).bind fun p5 =>
      (ob p5 t 4).bind fun o8 =>
      (F_M_goesFor t x2 p5).bind fun p7 =>
      (ob p7 t 4).bind fun o10 =>
      (F_M_lightAt t x1 p7).bind fun p9 =>
      (ob p9.2 t 4).bind fun o12 =>
      (F_M_putsBack t p9.2).bind fun p11 =>
      some (p9.1, p11)
set_option maxHeartbeats 4000000 in
set_option maxRecDepth 100000 in
theorem s_M_dawn_17 {G : Gx} {X : Cx} {res : Int32 × A_W} (K : Ok G X 4 c_M_dawn 4 (some .int) rm_M_dawn) (hQ : QQ G X (some (.int res.1)) res.2 0 0) (t : Nat) (w : A_W) (h : F_M_dawn_17 t w = some res) : Sm G X w 0 0 [some (.ref t), none, none, none] [] 17 := by
  unfold F_M_dawn_17 at h
  refine Sm_run K ek_M_dawn 8 2 rfl ?_
  obtain ⟨o2, e_o2, h⟩ := Option.bind_eq_some_iff.mp h
  obtain ⟨p1, e_p1, h⟩ := Option.bind_eq_some_iff.mp h
  refine Sm_callV K (eok_i (eo ek_M_dawn (i := 10) rfl) rfl) cy_M_finds im_M_finds se_M_finds (lgm 826 (by decide +kernel) rfl) ⟨Nat.le_of_ble_eq_true rfl, Nat.le_of_ble_eq_true rfl⟩ (as := [.int (-1000001)]) (b := t) (st := []) (ob_e e_o2) (by decide) rfl rfl rfl rfl (Nat.le_of_ble_eq_true rfl) ⟨Nat.le_of_ble_eq_true rfl, Nat.le_of_ble_eq_true rfl⟩ (cn_M_finds e_p1) ?_
  refine Sm_eq (st1 := .int p1.1 :: []) (nc1 := 0) (ns1 := 0) rfl rfl rfl ?_
  obtain rfl := Option.some.inj h
  exact Sm_reti K hQ (eok_i (eo ek_M_dawn (i := 11) rfl) rfl)
set_option maxHeartbeats 4000000 in
set_option maxRecDepth 100000 in
theorem s_M_dawn_0 {G : Gx} {X : Cx} {res : Int32 × A_W} (K : Ok G X 4 c_M_dawn 4 (some .int) rm_M_dawn) (hQ : QQ G X (some (.int res.1)) res.2 0 0) (t : Nat) (x1 : Int32) (x2 : Int32) (w : A_W) (h : F_M_dawn_0 t x1 x2 w = some res) : Sm G X w 0 0 [some (.ref t), some (.int x1), some (.int x2), none] [] 0 := by
  unfold F_M_dawn_0 at h
  refine Sm_run K ek_M_dawn 0 1 rfl ?_
  obtain ⟨p1, e_p1, h⟩ := Option.bind_eq_some_iff.mp h
  refine Sm_callS K (eok_i (eo ek_M_dawn (i := 1) rfl) rfl) cy_M_isHanger st_M_isHanger (lgm 818 (by decide +kernel) rfl) ⟨Nat.le_of_ble_eq_true rfl, Nat.le_of_ble_eq_true rfl⟩ (as := [.int x1]) (st := []) rfl rfl rfl (Nat.le_of_ble_eq_true rfl) ⟨Nat.le_of_ble_eq_true rfl, Nat.le_of_ble_eq_true rfl⟩ (cn_M_isHanger e_p1) ?_
  refine Sm_eq (st1 := .int p1.1 :: []) (nc1 := 0) (ns1 := 0) rfl rfl rfl ?_
  refine Sm_if_eq K (eo ek_M_dawn (i := 2) rfl) (fun c2 => ?_) (fun c2 => ?_)
  · rw [if_pos c2] at h
    exact Sm_le (leR_s (leR_n (leR_n (leR_n leR_nil)))) (s_M_dawn_17 K hQ _ _ h)
  · rw [if_neg c2] at h
    refine Sm_run K ek_M_dawn 3 3 rfl ?_
    obtain ⟨p3, e_p3, h⟩ := Option.bind_eq_some_iff.mp h
    refine Sm_callS K (eok_i (eo ek_M_dawn (i := 6) rfl) rfl) cy_M_in st_M_in (lgm 815 (by decide +kernel) rfl) ⟨Nat.le_of_ble_eq_true rfl, Nat.le_of_ble_eq_true rfl⟩ (as := [.int x2, .int 0, .int 100]) (st := []) rfl rfl rfl (Nat.le_of_ble_eq_true rfl) ⟨Nat.le_of_ble_eq_true rfl, Nat.le_of_ble_eq_true rfl⟩ (cn_M_in e_p3) ?_
    refine Sm_eq (st1 := .int p3.1 :: []) (nc1 := 0) (ns1 := 0) rfl rfl rfl ?_
    refine Sm_if_ne K (eo ek_M_dawn (i := 7) rfl) (fun c4 => ?_) (fun c4 => ?_)
    · rw [if_neg c4] at h
      refine Sm_run K ek_M_dawn 12 1 rfl ?_
      obtain ⟨o6, e_o6, h⟩ := Option.bind_eq_some_iff.mp h
      obtain ⟨p5, e_p5, h⟩ := Option.bind_eq_some_iff.mp h
      refine Sm_callV K (eok_i (eo ek_M_dawn (i := 13) rfl) rfl) cy_M_thinks im_M_thinks se_M_thinks (lgm 980 (by decide +kernel) rfl) ⟨Nat.le_of_ble_eq_true rfl, Nat.le_of_ble_eq_true rfl⟩ (as := []) (b := t) (st := []) (ob_e e_o6) (by decide) rfl rfl rfl rfl (Nat.le_of_ble_eq_true rfl) ⟨Nat.le_of_ble_eq_true rfl, Nat.le_of_ble_eq_true rfl⟩ (cn_M_thinks e_p5) ?_
      refine Sm_eq (st1 := []) (nc1 := 0) (ns1 := 0) rfl rfl rfl ?_
      refine Sm_run K ek_M_dawn 14 2 rfl ?_
      obtain ⟨o8, e_o8, h⟩ := Option.bind_eq_some_iff.mp h
      obtain ⟨p7, e_p7, h⟩ := Option.bind_eq_some_iff.mp h
      refine Sm_callV K (eok_i (eo ek_M_dawn (i := 16) rfl) rfl) cy_M_goesFor im_M_goesFor se_M_goesFor (lgm 940 (by decide +kernel) rfl) ⟨Nat.le_of_ble_eq_true rfl, Nat.le_of_ble_eq_true rfl⟩ (as := [.int x2]) (b := t) (st := []) (ob_e e_o8) (by decide) rfl rfl rfl rfl (Nat.le_of_ble_eq_true rfl) ⟨Nat.le_of_ble_eq_true rfl, Nat.le_of_ble_eq_true rfl⟩ (cn_M_goesFor e_p7) ?_
      refine Sm_eq (st1 := []) (nc1 := 0) (ns1 := 0) rfl rfl rfl ?_
      refine Sm_run K ek_M_dawn 17 2 rfl ?_
      obtain ⟨o10, e_o10, h⟩ := Option.bind_eq_some_iff.mp h
      obtain ⟨p9, e_p9, h⟩ := Option.bind_eq_some_iff.mp h
      refine Sm_callV K (eok_i (eo ek_M_dawn (i := 19) rfl) rfl) cy_M_lightAt im_M_lightAt se_M_lightAt (lgm 886 (by decide +kernel) rfl) ⟨Nat.le_of_ble_eq_true rfl, Nat.le_of_ble_eq_true rfl⟩ (as := [.int x1]) (b := t) (st := []) (ob_e e_o10) (by decide) rfl rfl rfl rfl (Nat.le_of_ble_eq_true rfl) ⟨Nat.le_of_ble_eq_true rfl, Nat.le_of_ble_eq_true rfl⟩ (cn_M_lightAt e_p9) ?_
      refine Sm_eq (st1 := .int p9.1 :: []) (nc1 := 0) (ns1 := 0) rfl rfl rfl ?_
      refine Sm_run K ek_M_dawn 20 2 rfl ?_
      obtain ⟨o12, e_o12, h⟩ := Option.bind_eq_some_iff.mp h
      obtain ⟨p11, e_p11, h⟩ := Option.bind_eq_some_iff.mp h
      refine Sm_callV K (eok_i (eo ek_M_dawn (i := 22) rfl) rfl) cy_M_putsBack im_M_putsBack se_M_putsBack (lgm 987 (by decide +kernel) rfl) ⟨Nat.le_of_ble_eq_true rfl, Nat.le_of_ble_eq_true rfl⟩ (as := []) (b := t) (st := []) (ob_e e_o12) (by decide) rfl rfl rfl rfl (Nat.le_of_ble_eq_true rfl) ⟨Nat.le_of_ble_eq_true rfl, Nat.le_of_ble_eq_true rfl⟩ (cn_M_putsBack e_p11) ?_
      refine Sm_eq (st1 := []) (nc1 := 0) (ns1 := 0) rfl rfl rfl ?_
      refine Sm_run K ek_M_dawn 23 1 rfl ?_
      obtain rfl := Option.some.inj h
      exact Sm_reti K hQ (eok_i (eo ek_M_dawn (i := 24) rfl) rfl)
    · rw [if_pos c4] at h
      exact Sm_le (leR_s (leR_n (leR_n (leR_n leR_nil)))) (s_M_dawn_17 K hQ _ _ h)
def F_M_dawn (t : Nat) (x1 : Int32) (x2 : Int32) (w : A_W) : Option (Int32 × A_W) := F_M_dawn_0 t x1 x2 w
theorem cn_M_dawn {G : Gx} {t : Nat} {x1 : Int32} {x2 : Int32} {w : A_W} {res : Int32 × A_W} (h : F_M_dawn t x1 x2 w = some res) : Cn G y_M_dawn c_M_dawn 4 (some .int) rm_M_dawn [.ref t, .int x1, .int x2] w (some (.int res.1)) res.2 :=
  Cn_of (own := 4) cy_M_dawn rfl rfl (Nat.le_of_ble_eq_true rfl) rfl (fun X K _ hQ => Sm_le (leR_s (leR_s (leR_s (leR_n leR_nil)))) (s_M_dawn_0 K hQ _ _ _ _ h))
/-! EveningCloakModel.muchIn(II)I -/
abbrev c_M_muchIn : ByteArray := prog_6_method_51_code
def y_M_muchIn : MethodName := ⟨"EveningCloakModel", "muchIn", "(II)I"⟩
def rm_M_muchIn : Room := { frames := 5, cells := 0, slots := 0, locals := 115 }
theorem cy_M_muchIn : Cy y_M_muchIn c_M_muchIn 4 (some .int) 2 := ⟨lgm 1006 (by decide +kernel) rfl, lgm 73 (by decide +kernel) rfl, by decide +kernel, by decide +kernel⟩
theorem im_M_muchIn : Cond.instanceMethod y_M_muchIn ∈ lg := lgm 1005 (by decide +kernel) rfl
theorem se_M_muchIn : Cond.selects y_M_muchIn.cls y_M_muchIn y_M_muchIn ∈ lg := lgm 45 (by decide +kernel) rfl
def e_M_muchIn : List Ent := [
  (0, .aload_n 0, 1, 1, .null, 0, 0, 0),
  (1, .invokevirtual 142, 3, 4, .null, 0, 0, 0),
  (4, .iconst 0, 1, 5, .int 0, 0, 0, 0),
  (5, .istore_n 3, 1, 6, .null, 0, 0, 0),
  (6, .iload_n 3, 1, 7, .null, 0, 0, 0),
  (7, .sipush 200, 3, 10, .int 200, 0, 0, 0),
  (10, .if_icmp .gt 23, 3, 33, .null, 0, 0, 0),
  (13, .aload_n 0, 1, 14, .null, 0, 0, 0),
  (14, .getfield 9, 3, 17, .null, 4, 0, 762),
  (17, .iload_n 1, 1, 18, .null, 0, 0, 0),
  (18, .iaload, 1, 19, .null, 0, 0, 0),
  (19, .iload_n 2, 1, 20, .null, 0, 0, 0),
  (20, .if_icmp .ge 13, 3, 33, .null, 0, 0, 0),
  (23, .aload_n 0, 1, 24, .null, 0, 0, 0),
  (24, .invokevirtual 118, 3, 27, .null, 0, 0, 0),
  (27, .iinc 3 1, 3, 30, .int 1, 0, 0, 0),
  (30, .goto (-24), 3, 6, .null, 0, 0, 0),
  (33, .aload_n 0, 1, 34, .null, 0, 0, 0),
  (34, .invokevirtual 145, 3, 37, .null, 0, 0, 0),
  (37, .iload_n 3, 1, 38, .null, 0, 0, 0),
  (38, .sipush 200, 3, 41, .int 200, 0, 0, 0),
  (41, .if_icmp .le 12, 3, 53, .null, 0, 0, 0),
  (44, .aload_n 0, 1, 45, .null, 0, 0, 0),
  (45, .ldc 35, 2, 47, .int (-1000004), 0, 0, 933),
  (47, .invokevirtual 36, 3, 50, .null, 0, 0, 0),
  (50, .goto 4, 3, 54, .null, 0, 0, 0),
  (53, .iload_n 3, 1, 54, .null, 0, 0, 0),
  (54, .ireturn, 1, 55, .null, 0, 0, 0)]
set_option maxRecDepth 100000 in
theorem ek_M_muchIn : e_M_muchIn.all (eok 4 c_M_muchIn) = true := by decide +kernel
def F_M_muchIn_54 (y0 : Int32) (w : A_W) : Option (Int32 × A_W) :=
  some (y0, w)
def F_M_muchIn_33 (t : Nat) (x3 : Int32) (w : A_W) : Option (Int32 × A_W) :=
  (ob w t 4).bind fun o2 =>
  (F_M_putsBack t w).bind fun p1 =>
  if x3 ≤ 200 then
    F_M_muchIn_54 x3 p1
  else
    (ob p1 t 4).bind fun o5 =>
    (F_M_finds t (-1000004) p1).bind fun p4 =>
    F_M_muchIn_54 p4.1 p4.2
def F_M_muchIn_6 : Nat → Nat → Int32 → Int32 → Int32 → A_W → Option (Int32 × A_W)
  | 0, _, _, _, _, _ => none
  | n + 1, t, x1, x2, x3, w =>
    if 200 < x3 then
      F_M_muchIn_33 t x3 w
    else
      (gr w t 4 0).bind fun a2 =>
      (rd w a2 x1).bind fun v3 =>
      if x2 ≤ v3 then
        F_M_muchIn_33 t x3 w
      else
        (ob w t 4).bind fun o6 =>
        (F_M_goes t w).bind fun p5 =>
        F_M_muchIn_6 n t x1 x2 (x3 + 1) p5
def F_M_muchIn_0 (t : Nat) (x1 : Int32) (x2 : Int32) (w : A_W) : Option (Int32 × A_W) :=
  (ob w t 4).bind fun o2 =>
  (F_M_thinks t w).bind fun p1 =>
  F_M_muchIn_6 FU t x1 x2 0 p1
set_option maxHeartbeats 4000000 in
set_option maxRecDepth 100000 in
theorem s_M_muchIn_54 {G : Gx} {X : Cx} {res : Int32 × A_W} (K : Ok G X 4 c_M_muchIn 4 (some .int) rm_M_muchIn) (hQ : QQ G X (some (.int res.1)) res.2 0 0) (y0 : Int32) (w : A_W) (h : F_M_muchIn_54 y0 w = some res) : Sm G X w 0 0 [none, none, none, none] [.int y0] 54 := by
  unfold F_M_muchIn_54 at h
  obtain rfl := Option.some.inj h
  exact Sm_reti K hQ (eok_i (eo ek_M_muchIn (i := 27) rfl) rfl)
set_option maxHeartbeats 4000000 in
set_option maxRecDepth 100000 in
theorem s_M_muchIn_33 {G : Gx} {X : Cx} {res : Int32 × A_W} (K : Ok G X 4 c_M_muchIn 4 (some .int) rm_M_muchIn) (hQ : QQ G X (some (.int res.1)) res.2 0 0) (t : Nat) (x3 : Int32) (w : A_W) (h : F_M_muchIn_33 t x3 w = some res) : Sm G X w 0 0 [some (.ref t), none, none, some (.int x3)] [] 33 := by
  unfold F_M_muchIn_33 at h
  refine Sm_run K ek_M_muchIn 17 1 rfl ?_
  obtain ⟨o2, e_o2, h⟩ := Option.bind_eq_some_iff.mp h
  obtain ⟨p1, e_p1, h⟩ := Option.bind_eq_some_iff.mp h
  refine Sm_callV K (eok_i (eo ek_M_muchIn (i := 18) rfl) rfl) cy_M_putsBack im_M_putsBack se_M_putsBack (lgm 987 (by decide +kernel) rfl) ⟨Nat.le_of_ble_eq_true rfl, Nat.le_of_ble_eq_true rfl⟩ (as := []) (b := t) (st := []) (ob_e e_o2) (by decide) rfl rfl rfl rfl (Nat.le_of_ble_eq_true rfl) ⟨Nat.le_of_ble_eq_true rfl, Nat.le_of_ble_eq_true rfl⟩ (cn_M_putsBack e_p1) ?_
  refine Sm_eq (st1 := []) (nc1 := 0) (ns1 := 0) rfl rfl rfl ?_
  refine Sm_run K ek_M_muchIn 19 2 rfl ?_
  refine Sm_ic_le K (eo ek_M_muchIn (i := 21) rfl) (fun c3 => ?_) (fun c3 => ?_)
  · rw [if_pos c3] at h
    refine Sm_run K ek_M_muchIn 26 1 rfl ?_
    exact Sm_le (leR_n (leR_n (leR_n (leR_n leR_nil)))) (s_M_muchIn_54 K hQ _ _ h)
  · rw [if_neg c3] at h
    refine Sm_run K ek_M_muchIn 22 2 rfl ?_
    obtain ⟨o5, e_o5, h⟩ := Option.bind_eq_some_iff.mp h
    obtain ⟨p4, e_p4, h⟩ := Option.bind_eq_some_iff.mp h
    refine Sm_callV K (eok_i (eo ek_M_muchIn (i := 24) rfl) rfl) cy_M_finds im_M_finds se_M_finds (lgm 826 (by decide +kernel) rfl) ⟨Nat.le_of_ble_eq_true rfl, Nat.le_of_ble_eq_true rfl⟩ (as := [.int (-1000004)]) (b := t) (st := []) (ob_e e_o5) (by decide) rfl rfl rfl rfl (Nat.le_of_ble_eq_true rfl) ⟨Nat.le_of_ble_eq_true rfl, Nat.le_of_ble_eq_true rfl⟩ (cn_M_finds e_p4) ?_
    refine Sm_eq (st1 := .int p4.1 :: []) (nc1 := 0) (ns1 := 0) rfl rfl rfl ?_
    refine Sm_run K ek_M_muchIn 25 1 rfl ?_
    exact Sm_le (leR_n (leR_n (leR_n (leR_n leR_nil)))) (s_M_muchIn_54 K hQ _ _ h)
set_option maxHeartbeats 4000000 in
set_option maxRecDepth 100000 in
theorem s_M_muchIn_6 {G : Gx} {X : Cx} {res : Int32 × A_W} (K : Ok G X 4 c_M_muchIn 4 (some .int) rm_M_muchIn) (hQ : QQ G X (some (.int res.1)) res.2 0 0) : ∀ (n : Nat) (t : Nat) (x1 : Int32) (x2 : Int32) (x3 : Int32) (w : A_W), F_M_muchIn_6 n t x1 x2 x3 w = some res → Sm G X w 0 0 [some (.ref t), some (.int x1), some (.int x2), some (.int x3)] [] 6 := by
  intro n
  induction n with
  | zero => intro t x1 x2 x3 w h; cases h
  | succ n ih =>
    intro t x1 x2 x3 w h
    rw [F_M_muchIn_6] at h
    refine Sm_run K ek_M_muchIn 4 2 rfl ?_
    refine Sm_ic_gt K (eo ek_M_muchIn (i := 6) rfl) (fun c1 => ?_) (fun c1 => ?_)
    · rw [if_pos c1] at h
      exact Sm_le (leR_s (leR_n (leR_n (leR_s leR_nil)))) (s_M_muchIn_33 K hQ _ _ _ h)
    · rw [if_neg c1] at h
      refine Sm_run K ek_M_muchIn 7 1 rfl ?_
      obtain ⟨a2, e_a2, h⟩ := Option.bind_eq_some_iff.mp h
      refine Sm_gr K (eo ek_M_muchIn (i := 8) rfl) e_a2 ?_
      refine Sm_run K ek_M_muchIn 9 1 rfl ?_
      obtain ⟨v3, e_v3, h⟩ := Option.bind_eq_some_iff.mp h
      refine Sm_rd K (eok_i (eo ek_M_muchIn (i := 10) rfl) rfl) e_v3 ?_
      refine Sm_run K ek_M_muchIn 11 1 rfl ?_
      refine Sm_ic_ge K (eo ek_M_muchIn (i := 12) rfl) (fun c4 => ?_) (fun c4 => ?_)
      · rw [if_pos c4] at h
        exact Sm_le (leR_s (leR_n (leR_n (leR_s leR_nil)))) (s_M_muchIn_33 K hQ _ _ _ h)
      · rw [if_neg c4] at h
        refine Sm_run K ek_M_muchIn 13 1 rfl ?_
        obtain ⟨o6, e_o6, h⟩ := Option.bind_eq_some_iff.mp h
        obtain ⟨p5, e_p5, h⟩ := Option.bind_eq_some_iff.mp h
        refine Sm_callV K (eok_i (eo ek_M_muchIn (i := 14) rfl) rfl) cy_M_goes im_M_goes se_M_goes (lgm 944 (by decide +kernel) rfl) ⟨Nat.le_of_ble_eq_true rfl, Nat.le_of_ble_eq_true rfl⟩ (as := []) (b := t) (st := []) (ob_e e_o6) (by decide) rfl rfl rfl rfl (Nat.le_of_ble_eq_true rfl) ⟨Nat.le_of_ble_eq_true rfl, Nat.le_of_ble_eq_true rfl⟩ (cn_M_goes e_p5) ?_
        refine Sm_eq (st1 := []) (nc1 := 0) (ns1 := 0) rfl rfl rfl ?_
        refine Sm_run K ek_M_muchIn 15 2 rfl ?_
        exact Sm_le (leR_s (leR_s (leR_s (leR_s leR_nil)))) (ih _ _ _ _ _ h)
set_option maxHeartbeats 4000000 in
set_option maxRecDepth 100000 in
theorem s_M_muchIn_0 {G : Gx} {X : Cx} {res : Int32 × A_W} (K : Ok G X 4 c_M_muchIn 4 (some .int) rm_M_muchIn) (hQ : QQ G X (some (.int res.1)) res.2 0 0) (t : Nat) (x1 : Int32) (x2 : Int32) (w : A_W) (h : F_M_muchIn_0 t x1 x2 w = some res) : Sm G X w 0 0 [some (.ref t), some (.int x1), some (.int x2), none] [] 0 := by
  unfold F_M_muchIn_0 at h
  refine Sm_run K ek_M_muchIn 0 1 rfl ?_
  obtain ⟨o2, e_o2, h⟩ := Option.bind_eq_some_iff.mp h
  obtain ⟨p1, e_p1, h⟩ := Option.bind_eq_some_iff.mp h
  refine Sm_callV K (eok_i (eo ek_M_muchIn (i := 1) rfl) rfl) cy_M_thinks im_M_thinks se_M_thinks (lgm 980 (by decide +kernel) rfl) ⟨Nat.le_of_ble_eq_true rfl, Nat.le_of_ble_eq_true rfl⟩ (as := []) (b := t) (st := []) (ob_e e_o2) (by decide) rfl rfl rfl rfl (Nat.le_of_ble_eq_true rfl) ⟨Nat.le_of_ble_eq_true rfl, Nat.le_of_ble_eq_true rfl⟩ (cn_M_thinks e_p1) ?_
  refine Sm_eq (st1 := []) (nc1 := 0) (ns1 := 0) rfl rfl rfl ?_
  refine Sm_run K ek_M_muchIn 2 2 rfl ?_
  exact Sm_le (leR_s (leR_s (leR_s (leR_s leR_nil)))) (s_M_muchIn_6 K hQ FU _ _ _ _ _ h)
def F_M_muchIn (t : Nat) (x1 : Int32) (x2 : Int32) (w : A_W) : Option (Int32 × A_W) := F_M_muchIn_0 t x1 x2 w
theorem cn_M_muchIn {G : Gx} {t : Nat} {x1 : Int32} {x2 : Int32} {w : A_W} {res : Int32 × A_W} (h : F_M_muchIn t x1 x2 w = some res) : Cn G y_M_muchIn c_M_muchIn 4 (some .int) rm_M_muchIn [.ref t, .int x1, .int x2] w (some (.int res.1)) res.2 :=
  Cn_of (own := 4) cy_M_muchIn rfl rfl (Nat.le_of_ble_eq_true rfl) rfl (fun X K _ hQ => Sm_le (leR_s (leR_s (leR_s (leR_n leR_nil)))) (s_M_muchIn_0 K hQ _ _ _ _ h))
