/-! EveningCloakModel.comes(III)I -/
abbrev c_M_comes : ByteArray := prog_6_method_25_code
def y_M_comes : MethodName := ⟨"EveningCloakModel", "comes", "(III)I"⟩
def rm_M_comes : Room := { frames := 1, cells := 0, slots := 0, locals := 23 }
theorem cy_M_comes : Cy y_M_comes c_M_comes 5 (some .int) 3 := ⟨lgm 842 (by decide +kernel) rfl, lgm 73 (by decide +kernel) rfl, by decide +kernel, by decide +kernel⟩
theorem im_M_comes : Cond.instanceMethod y_M_comes ∈ lg := lgm 841 (by decide +kernel) rfl
theorem se_M_comes : Cond.selects y_M_comes.cls y_M_comes y_M_comes ∈ lg := lgm 20 (by decide +kernel) rfl
def e_M_comes : List Ent := [
  (0, .aload_n 0, 1, 1, .null, 0, 0, 0),
  (1, .getfield 9, 3, 4, .null, 4, 0, 762),
  (4, .iconst 3, 1, 5, .int 3, 0, 0, 0),
  (5, .iaload, 1, 6, .null, 0, 0, 0),
  (6, .istore 4, 2, 8, .null, 0, 0, 0),
  (8, .aload_n 0, 1, 9, .null, 0, 0, 0),
  (9, .getfield 9, 3, 12, .null, 4, 0, 762),
  (12, .iconst 3, 1, 13, .int 3, 0, 0, 0),
  (13, .dup2, 1, 14, .null, 0, 0, 0),
  (14, .iaload, 1, 15, .null, 0, 0, 0),
  (15, .iconst 1, 1, 16, .int 1, 0, 0, 0),
  (16, .iadd, 1, 17, .null, 0, 0, 0),
  (17, .iastore, 1, 18, .null, 0, 0, 0),
  (18, .aload_n 0, 1, 19, .null, 0, 0, 0),
  (19, .iload 4, 2, 21, .null, 0, 0, 0),
  (21, .iconst 0, 1, 22, .int 0, 0, 0, 0),
  (22, .iload_n 1, 1, 23, .null, 0, 0, 0),
  (23, .invokevirtual 74, 3, 26, .null, 0, 0, 0),
  (26, .aload_n 0, 1, 27, .null, 0, 0, 0),
  (27, .iload 4, 2, 29, .null, 0, 0, 0),
  (29, .iconst 1, 1, 30, .int 1, 0, 0, 0),
  (30, .iload_n 2, 1, 31, .null, 0, 0, 0),
  (31, .invokevirtual 74, 3, 34, .null, 0, 0, 0),
  (34, .aload_n 0, 1, 35, .null, 0, 0, 0),
  (35, .iload 4, 2, 37, .null, 0, 0, 0),
  (37, .iconst 2, 1, 38, .int 2, 0, 0, 0),
  (38, .iload_n 3, 1, 39, .null, 0, 0, 0),
  (39, .ifCond .ge 11, 3, 50, .null, 0, 0, 0),
  (42, .bipush 10, 2, 44, .int 10, 0, 0, 0),
  (44, .iload 4, 2, 46, .null, 0, 0, 0),
  (46, .imul, 1, 47, .null, 0, 0, 0),
  (47, .goto 4, 3, 51, .null, 0, 0, 0),
  (50, .iload_n 3, 1, 51, .null, 0, 0, 0),
  (51, .invokevirtual 74, 3, 54, .null, 0, 0, 0),
  (54, .aload_n 0, 1, 55, .null, 0, 0, 0),
  (55, .iload 4, 2, 57, .null, 0, 0, 0),
  (57, .iconst 3, 1, 58, .int 3, 0, 0, 0),
  (58, .iconst 0, 1, 59, .int 0, 0, 0, 0),
  (59, .invokevirtual 74, 3, 62, .null, 0, 0, 0),
  (62, .aload_n 0, 1, 63, .null, 0, 0, 0),
  (63, .iload 4, 2, 65, .null, 0, 0, 0),
  (65, .iconst 4, 1, 66, .int 4, 0, 0, 0),
  (66, .iconst 0, 1, 67, .int 0, 0, 0, 0),
  (67, .invokevirtual 74, 3, 70, .null, 0, 0, 0),
  (70, .aload_n 0, 1, 71, .null, 0, 0, 0),
  (71, .iload 4, 2, 73, .null, 0, 0, 0),
  (73, .iconst 5, 1, 74, .int 5, 0, 0, 0),
  (74, .iconst 0, 1, 75, .int 0, 0, 0, 0),
  (75, .invokevirtual 74, 3, 78, .null, 0, 0, 0),
  (78, .iload 4, 2, 80, .null, 0, 0, 0),
  (80, .ireturn, 1, 81, .null, 0, 0, 0)]
set_option maxRecDepth 100000 in
theorem ek_M_comes : e_M_comes.all (eok 4 c_M_comes) = true := by decide +kernel
def F_M_comes_51 (t : Nat) (x4 : Int32) (y0 : Nat) (y1 : Int32) (y2 : Int32) (y3 : Int32) (w : A_W) : Option (Int32 × A_W) :=
  (ob w y0 4).bind fun o2 =>
  (F_M_put y0 y1 y2 y3 w).bind fun p1 =>
  (ob p1 t 4).bind fun o4 =>
  (F_M_put t x4 3 0 p1).bind fun p3 =>
  (ob p3 t 4).bind fun o6 =>
  (F_M_put t x4 4 0 p3).bind fun p5 =>
  (ob p5 t 4).bind fun o8 =>
  (F_M_put t x4 5 0 p5).bind fun p7 =>
  some (x4, p7)
def F_M_comes_0 (t : Nat) (x1 : Int32) (x2 : Int32) (x3 : Int32) (w : A_W) : Option (Int32 × A_W) :=
  (gr w t 4 0).bind fun a1 =>
  (rd w a1 3).bind fun v2 =>
  (gr w t 4 0).bind fun a3 =>
  (rd w a3 3).bind fun v4 =>
  (wr w a3 3 (v4 + 1)).bind fun w5 =>
  (ob w5 t 4).bind fun o7 =>
  (F_M_put t v2 0 x1 w5).bind fun p6 =>
  (ob p6 t 4).bind fun o9 =>
  (F_M_put t v2 1 x2 p6).bind fun p8 =>
  if 0 ≤ x3 then
    F_M_comes_51 t v2 t v2 2 x3 p8
  else
    F_M_comes_51 t v2 t v2 2 (10 * v2) p8
set_option maxHeartbeats 4000000 in
set_option maxRecDepth 100000 in
theorem s_M_comes_51 {G : Gx} {X : Cx} {res : Int32 × A_W} (K : Ok G X 4 c_M_comes 5 (some .int) rm_M_comes) (hQ : QQ G X (some (.int res.1)) res.2 0 0) (t : Nat) (x4 : Int32) (y0 : Nat) (y1 : Int32) (y2 : Int32) (y3 : Int32) (w : A_W) (h : F_M_comes_51 t x4 y0 y1 y2 y3 w = some res) : Sm G X w 0 0 [some (.ref t), none, none, none, some (.int x4)] [.int y3, .int y2, .int y1, .ref y0] 51 := by
  unfold F_M_comes_51 at h
  obtain ⟨o2, e_o2, h⟩ := Option.bind_eq_some_iff.mp h
  obtain ⟨p1, e_p1, h⟩ := Option.bind_eq_some_iff.mp h
  refine Sm_callV K (eok_i (eo ek_M_comes (i := 33) rfl) rfl) cy_M_put im_M_put se_M_put (lgm 843 (by decide +kernel) rfl) ⟨Nat.le_of_ble_eq_true rfl, Nat.le_of_ble_eq_true rfl⟩ (as := [.int y1, .int y2, .int y3]) (b := y0) (st := []) (ob_e e_o2) (by decide) rfl rfl rfl rfl (Nat.le_of_ble_eq_true rfl) ⟨Nat.le_of_ble_eq_true rfl, Nat.le_of_ble_eq_true rfl⟩ (cn_M_put e_p1) ?_
  refine Sm_eq (st1 := []) (nc1 := 0) (ns1 := 0) rfl rfl rfl ?_
  refine Sm_run K ek_M_comes 34 4 rfl ?_
  obtain ⟨o4, e_o4, h⟩ := Option.bind_eq_some_iff.mp h
  obtain ⟨p3, e_p3, h⟩ := Option.bind_eq_some_iff.mp h
  refine Sm_callV K (eok_i (eo ek_M_comes (i := 38) rfl) rfl) cy_M_put im_M_put se_M_put (lgm 843 (by decide +kernel) rfl) ⟨Nat.le_of_ble_eq_true rfl, Nat.le_of_ble_eq_true rfl⟩ (as := [.int x4, .int 3, .int 0]) (b := t) (st := []) (ob_e e_o4) (by decide) rfl rfl rfl rfl (Nat.le_of_ble_eq_true rfl) ⟨Nat.le_of_ble_eq_true rfl, Nat.le_of_ble_eq_true rfl⟩ (cn_M_put e_p3) ?_
  refine Sm_eq (st1 := []) (nc1 := 0) (ns1 := 0) rfl rfl rfl ?_
  refine Sm_run K ek_M_comes 39 4 rfl ?_
  obtain ⟨o6, e_o6, h⟩ := Option.bind_eq_some_iff.mp h
  obtain ⟨p5, e_p5, h⟩ := Option.bind_eq_some_iff.mp h
  refine Sm_callV K (eok_i (eo ek_M_comes (i := 43) rfl) rfl) cy_M_put im_M_put se_M_put (lgm 843 (by decide +kernel) rfl) ⟨Nat.le_of_ble_eq_true rfl, Nat.le_of_ble_eq_true rfl⟩ (as := [.int x4, .int 4, .int 0]) (b := t) (st := []) (ob_e e_o6) (by decide) rfl rfl rfl rfl (Nat.le_of_ble_eq_true rfl) ⟨Nat.le_of_ble_eq_true rfl, Nat.le_of_ble_eq_true rfl⟩ (cn_M_put e_p5) ?_
  refine Sm_eq (st1 := []) (nc1 := 0) (ns1 := 0) rfl rfl rfl ?_
  refine Sm_run K ek_M_comes 44 4 rfl ?_
  obtain ⟨o8, e_o8, h⟩ := Option.bind_eq_some_iff.mp h
  obtain ⟨p7, e_p7, h⟩ := Option.bind_eq_some_iff.mp h
  refine Sm_callV K (eok_i (eo ek_M_comes (i := 48) rfl) rfl) cy_M_put im_M_put se_M_put (lgm 843 (by decide +kernel) rfl) ⟨Nat.le_of_ble_eq_true rfl, Nat.le_of_ble_eq_true rfl⟩ (as := [.int x4, .int 5, .int 0]) (b := t) (st := []) (ob_e e_o8) (by decide) rfl rfl rfl rfl (Nat.le_of_ble_eq_true rfl) ⟨Nat.le_of_ble_eq_true rfl, Nat.le_of_ble_eq_true rfl⟩ (cn_M_put e_p7) ?_
  refine Sm_eq (st1 := []) (nc1 := 0) (ns1 := 0) rfl rfl rfl ?_
  refine Sm_run K ek_M_comes 49 1 rfl ?_
  obtain rfl := Option.some.inj h
  exact Sm_reti K hQ (eok_i (eo ek_M_comes (i := 50) rfl) rfl)
set_option maxHeartbeats 4000000 in
set_option maxRecDepth 100000 in
theorem s_M_comes_0 {G : Gx} {X : Cx} {res : Int32 × A_W} (K : Ok G X 4 c_M_comes 5 (some .int) rm_M_comes) (hQ : QQ G X (some (.int res.1)) res.2 0 0) (t : Nat) (x1 : Int32) (x2 : Int32) (x3 : Int32) (w : A_W) (h : F_M_comes_0 t x1 x2 x3 w = some res) : Sm G X w 0 0 [some (.ref t), some (.int x1), some (.int x2), some (.int x3), none] [] 0 := by
  unfold F_M_comes_0 at h
  refine Sm_run K ek_M_comes 0 1 rfl ?_
  obtain ⟨a1, e_a1, h⟩ := Option.bind_eq_some_iff.mp h
  refine Sm_gr K (eo ek_M_comes (i := 1) rfl) e_a1 ?_
  refine Sm_run K ek_M_comes 2 1 rfl ?_
  obtain ⟨v2, e_v2, h⟩ := Option.bind_eq_some_iff.mp h
  refine Sm_rd K (eok_i (eo ek_M_comes (i := 3) rfl) rfl) e_v2 ?_
  refine Sm_run K ek_M_comes 4 2 rfl ?_
  obtain ⟨a3, e_a3, h⟩ := Option.bind_eq_some_iff.mp h
  refine Sm_gr K (eo ek_M_comes (i := 6) rfl) e_a3 ?_
  refine Sm_run K ek_M_comes 7 2 rfl ?_
  obtain ⟨v4, e_v4, h⟩ := Option.bind_eq_some_iff.mp h
  refine Sm_rd K (eok_i (eo ek_M_comes (i := 9) rfl) rfl) e_v4 ?_
  refine Sm_run K ek_M_comes 10 2 rfl ?_
  obtain ⟨w5, e_w5, h⟩ := Option.bind_eq_some_iff.mp h
  refine Sm_wr K (eok_i (eo ek_M_comes (i := 12) rfl) rfl) e_w5 ?_
  refine Sm_run K ek_M_comes 13 4 rfl ?_
  obtain ⟨o7, e_o7, h⟩ := Option.bind_eq_some_iff.mp h
  obtain ⟨p6, e_p6, h⟩ := Option.bind_eq_some_iff.mp h
  refine Sm_callV K (eok_i (eo ek_M_comes (i := 17) rfl) rfl) cy_M_put im_M_put se_M_put (lgm 843 (by decide +kernel) rfl) ⟨Nat.le_of_ble_eq_true rfl, Nat.le_of_ble_eq_true rfl⟩ (as := [.int v2, .int 0, .int x1]) (b := t) (st := []) (ob_e e_o7) (by decide) rfl rfl rfl rfl (Nat.le_of_ble_eq_true rfl) ⟨Nat.le_of_ble_eq_true rfl, Nat.le_of_ble_eq_true rfl⟩ (cn_M_put e_p6) ?_
  refine Sm_eq (st1 := []) (nc1 := 0) (ns1 := 0) rfl rfl rfl ?_
  refine Sm_run K ek_M_comes 18 4 rfl ?_
  obtain ⟨o9, e_o9, h⟩ := Option.bind_eq_some_iff.mp h
  obtain ⟨p8, e_p8, h⟩ := Option.bind_eq_some_iff.mp h
  refine Sm_callV K (eok_i (eo ek_M_comes (i := 22) rfl) rfl) cy_M_put im_M_put se_M_put (lgm 843 (by decide +kernel) rfl) ⟨Nat.le_of_ble_eq_true rfl, Nat.le_of_ble_eq_true rfl⟩ (as := [.int v2, .int 1, .int x2]) (b := t) (st := []) (ob_e e_o9) (by decide) rfl rfl rfl rfl (Nat.le_of_ble_eq_true rfl) ⟨Nat.le_of_ble_eq_true rfl, Nat.le_of_ble_eq_true rfl⟩ (cn_M_put e_p8) ?_
  refine Sm_eq (st1 := []) (nc1 := 0) (ns1 := 0) rfl rfl rfl ?_
  refine Sm_run K ek_M_comes 23 4 rfl ?_
  refine Sm_if_ge K (eo ek_M_comes (i := 27) rfl) (fun c10 => ?_) (fun c10 => ?_)
  · rw [if_pos c10] at h
    refine Sm_run K ek_M_comes 32 1 rfl ?_
    exact Sm_le (leR_s (leR_n (leR_n (leR_n (leR_s leR_nil))))) (s_M_comes_51 K hQ _ _ _ _ _ _ _ h)
  · rw [if_neg c10] at h
    refine Sm_run K ek_M_comes 28 4 rfl ?_
    exact Sm_le (leR_s (leR_n (leR_n (leR_n (leR_s leR_nil))))) (s_M_comes_51 K hQ _ _ _ _ _ _ _ h)
def F_M_comes (t : Nat) (x1 : Int32) (x2 : Int32) (x3 : Int32) (w : A_W) : Option (Int32 × A_W) := F_M_comes_0 t x1 x2 x3 w
theorem cn_M_comes {G : Gx} {t : Nat} {x1 : Int32} {x2 : Int32} {x3 : Int32} {w : A_W} {res : Int32 × A_W} (h : F_M_comes t x1 x2 x3 w = some res) : Cn G y_M_comes c_M_comes 5 (some .int) rm_M_comes [.ref t, .int x1, .int x2, .int x3] w (some (.int res.1)) res.2 :=
  Cn_of (own := 4) cy_M_comes rfl rfl (Nat.le_of_ble_eq_true rfl) rfl (fun X K _ hQ => Sm_le (leR_s (leR_s (leR_s (leR_s (leR_n leR_nil))))) (s_M_comes_0 K hQ _ _ _ _ _ h))
/-! EveningCloakModel.deposit(II)I -/
abbrev c_M_deposit : ByteArray := prog_6_method_26_code
def y_M_deposit : MethodName := ⟨"EveningCloakModel", "deposit", "(II)I"⟩
def rm_M_deposit : Room := { frames := 2, cells := 0, slots := 0, locals := 47 }
theorem cy_M_deposit : Cy y_M_deposit c_M_deposit 3 (some .int) 2 := ⟨lgm 837 (by decide +kernel) rfl, lgm 73 (by decide +kernel) rfl, by decide +kernel, by decide +kernel⟩
theorem im_M_deposit : Cond.instanceMethod y_M_deposit ∈ lg := lgm 835 (by decide +kernel) rfl
theorem se_M_deposit : Cond.selects y_M_deposit.cls y_M_deposit y_M_deposit ∈ lg := lgm 836 (by decide +kernel) rfl
def e_M_deposit : List Ent := [
  (0, .iload_n 1, 1, 1, .null, 0, 0, 0),
  (1, .iconst 0, 1, 2, .int 0, 0, 0, 0),
  (2, .bipush 6, 2, 4, .int 6, 0, 0, 0),
  (4, .invokestatic 40, 3, 7, .null, 0, 0, 0),
  (7, .ifCond .eq 10, 3, 17, .null, 0, 0, 0),
  (10, .iload_n 2, 1, 11, .null, 0, 0, 0),
  (11, .invokestatic 68, 3, 14, .null, 0, 0, 0),
  (14, .ifCond .ne 10, 3, 24, .null, 0, 0, 0),
  (17, .aload_n 0, 1, 18, .null, 0, 0, 0),
  (18, .ldc 34, 2, 20, .int (-1000001), 0, 0, 825),
  (20, .invokevirtual 36, 3, 23, .null, 0, 0, 0),
  (23, .ireturn, 1, 24, .null, 0, 0, 0),
  (24, .aload_n 0, 1, 25, .null, 0, 0, 0),
  (25, .getfield 9, 3, 28, .null, 4, 0, 762),
  (28, .iconst 3, 1, 29, .int 3, 0, 0, 0),
  (29, .iaload, 1, 30, .null, 0, 0, 0),
  (30, .bipush 8, 2, 32, .int 8, 0, 0, 0),
  (32, .if_icmp .ne 12, 3, 44, .null, 0, 0, 0),
  (35, .aload_n 0, 1, 36, .null, 0, 0, 0),
  (36, .ldc 78, 2, 38, .int (-1000002), 0, 0, 838),
  (38, .invokevirtual 36, 3, 41, .null, 0, 0, 0),
  (41, .goto 10, 3, 51, .null, 0, 0, 0),
  (44, .aload_n 0, 1, 45, .null, 0, 0, 0),
  (45, .iload_n 1, 1, 46, .null, 0, 0, 0),
  (46, .iload_n 2, 1, 47, .null, 0, 0, 0),
  (47, .iconst (-1), 1, 48, .int (-1), 0, 0, 0),
  (48, .invokevirtual 79, 3, 51, .null, 0, 0, 0),
  (51, .ireturn, 1, 52, .null, 0, 0, 0)]
set_option maxRecDepth 100000 in
theorem ek_M_deposit : e_M_deposit.all (eok 4 c_M_deposit) = true := by decide +kernel
def F_M_deposit_17 (t : Nat) (w : A_W) : Option (Int32 × A_W) :=
  (ob w t 4).bind fun o2 =>
  (F_M_finds t (-1000001) w).bind fun p1 =>
  some (p1.1, p1.2)
def F_M_deposit_51 (y0 : Int32) (w : A_W) : Option (Int32 × A_W) :=
  some (y0, w)
def F_M_deposit_0 (t : Nat) (x1 : Int32) (x2 : Int32) (w : A_W) : Option (Int32 × A_W) :=
  (F_M_in x1 0 6 w).bind fun p1 =>
  if p1.1 = 0 then
    F_M_deposit_17 t p1.2
  else
    (F_M_isHanger x2 p1.2).bind fun p3 =>
    if p3.1 = 0 then
      F_M_deposit_17 t p3.2
    else
      (gr p3.2 t 4 0).bind fun a5 =>
      (rd p3.2 a5 3).bind fun v6 =>
      if v6 = 8 then
        (ob p3.2 t 4).bind fun o11 =>
        (F_M_finds t (-1000002) p3.2).bind fun p10 =>
        F_M_deposit_51 p10.1 p10.2
      else
        (ob p3.2 t 4).bind fun o9 =>
        (F_M_comes t x1 x2 (-1) p3.2).bind fun p8 =>
        F_M_deposit_51 p8.1 p8.2
set_option maxHeartbeats 4000000 in
set_option maxRecDepth 100000 in
theorem s_M_deposit_17 {G : Gx} {X : Cx} {res : Int32 × A_W} (K : Ok G X 4 c_M_deposit 3 (some .int) rm_M_deposit) (hQ : QQ G X (some (.int res.1)) res.2 0 0) (t : Nat) (w : A_W) (h : F_M_deposit_17 t w = some res) : Sm G X w 0 0 [some (.ref t), none, none] [] 17 := by
  unfold F_M_deposit_17 at h
  refine Sm_run K ek_M_deposit 8 2 rfl ?_
  obtain ⟨o2, e_o2, h⟩ := Option.bind_eq_some_iff.mp h
  obtain ⟨p1, e_p1, h⟩ := Option.bind_eq_some_iff.mp h
  refine Sm_callV K (eok_i (eo ek_M_deposit (i := 10) rfl) rfl) cy_M_finds im_M_finds se_M_finds (lgm 826 (by decide +kernel) rfl) ⟨Nat.le_of_ble_eq_true rfl, Nat.le_of_ble_eq_true rfl⟩ (as := [.int (-1000001)]) (b := t) (st := []) (ob_e e_o2) (by decide) rfl rfl rfl rfl (Nat.le_of_ble_eq_true rfl) ⟨Nat.le_of_ble_eq_true rfl, Nat.le_of_ble_eq_true rfl⟩ (cn_M_finds e_p1) ?_
  refine Sm_eq (st1 := .int p1.1 :: []) (nc1 := 0) (ns1 := 0) rfl rfl rfl ?_
  obtain rfl := Option.some.inj h
  exact Sm_reti K hQ (eok_i (eo ek_M_deposit (i := 11) rfl) rfl)
set_option maxHeartbeats 4000000 in
set_option maxRecDepth 100000 in
theorem s_M_deposit_51 {G : Gx} {X : Cx} {res : Int32 × A_W} (K : Ok G X 4 c_M_deposit 3 (some .int) rm_M_deposit) (hQ : QQ G X (some (.int res.1)) res.2 0 0) (y0 : Int32) (w : A_W) (h : F_M_deposit_51 y0 w = some res) : Sm G X w 0 0 [none, none, none] [.int y0] 51 := by
  unfold F_M_deposit_51 at h
  obtain rfl := Option.some.inj h
  exact Sm_reti K hQ (eok_i (eo ek_M_deposit (i := 27) rfl) rfl)
set_option maxHeartbeats 4000000 in
set_option maxRecDepth 100000 in
theorem s_M_deposit_0 {G : Gx} {X : Cx} {res : Int32 × A_W} (K : Ok G X 4 c_M_deposit 3 (some .int) rm_M_deposit) (hQ : QQ G X (some (.int res.1)) res.2 0 0) (t : Nat) (x1 : Int32) (x2 : Int32) (w : A_W) (h : F_M_deposit_0 t x1 x2 w = some res) : Sm G X w 0 0 [some (.ref t), some (.int x1), some (.int x2)] [] 0 := by
  unfold F_M_deposit_0 at h
  refine Sm_run K ek_M_deposit 0 3 rfl ?_
  obtain ⟨p1, e_p1, h⟩ := Option.bind_eq_some_iff.mp h
  refine Sm_callS K (eok_i (eo ek_M_deposit (i := 3) rfl) rfl) cy_M_in st_M_in (lgm 815 (by decide +kernel) rfl) ⟨Nat.le_of_ble_eq_true rfl, Nat.le_of_ble_eq_true rfl⟩ (as := [.int x1, .int 0, .int 6]) (st := []) rfl rfl rfl (Nat.le_of_ble_eq_true rfl) ⟨Nat.le_of_ble_eq_true rfl, Nat.le_of_ble_eq_true rfl⟩ (cn_M_in e_p1) ?_
  refine Sm_eq (st1 := .int p1.1 :: []) (nc1 := 0) (ns1 := 0) rfl rfl rfl ?_
  refine Sm_if_eq K (eo ek_M_deposit (i := 4) rfl) (fun c2 => ?_) (fun c2 => ?_)
  · rw [if_pos c2] at h
    exact Sm_le (leR_s (leR_n (leR_n leR_nil))) (s_M_deposit_17 K hQ _ _ h)
  · rw [if_neg c2] at h
    refine Sm_run K ek_M_deposit 5 1 rfl ?_
    obtain ⟨p3, e_p3, h⟩ := Option.bind_eq_some_iff.mp h
    refine Sm_callS K (eok_i (eo ek_M_deposit (i := 6) rfl) rfl) cy_M_isHanger st_M_isHanger (lgm 818 (by decide +kernel) rfl) ⟨Nat.le_of_ble_eq_true rfl, Nat.le_of_ble_eq_true rfl⟩ (as := [.int x2]) (st := []) rfl rfl rfl (Nat.le_of_ble_eq_true rfl) ⟨Nat.le_of_ble_eq_true rfl, Nat.le_of_ble_eq_true rfl⟩ (cn_M_isHanger e_p3) ?_
    refine Sm_eq (st1 := .int p3.1 :: []) (nc1 := 0) (ns1 := 0) rfl rfl rfl ?_
    refine Sm_if_ne K (eo ek_M_deposit (i := 7) rfl) (fun c4 => ?_) (fun c4 => ?_)
    · rw [if_neg c4] at h
      refine Sm_run K ek_M_deposit 12 1 rfl ?_
      obtain ⟨a5, e_a5, h⟩ := Option.bind_eq_some_iff.mp h
      refine Sm_gr K (eo ek_M_deposit (i := 13) rfl) e_a5 ?_
      refine Sm_run K ek_M_deposit 14 1 rfl ?_
      obtain ⟨v6, e_v6, h⟩ := Option.bind_eq_some_iff.mp h
      refine Sm_rd K (eok_i (eo ek_M_deposit (i := 15) rfl) rfl) e_v6 ?_
      refine Sm_run K ek_M_deposit 16 1 rfl ?_
      refine Sm_ic_ne K (eo ek_M_deposit (i := 17) rfl) (fun c7 => ?_) (fun c7 => ?_)
      · rw [if_neg c7] at h
        refine Sm_run K ek_M_deposit 22 4 rfl ?_
        obtain ⟨o9, e_o9, h⟩ := Option.bind_eq_some_iff.mp h
        obtain ⟨p8, e_p8, h⟩ := Option.bind_eq_some_iff.mp h
        refine Sm_callV K (eok_i (eo ek_M_deposit (i := 26) rfl) rfl) cy_M_comes im_M_comes se_M_comes (lgm 839 (by decide +kernel) rfl) ⟨Nat.le_of_ble_eq_true rfl, Nat.le_of_ble_eq_true rfl⟩ (as := [.int x1, .int x2, .int (-1)]) (b := t) (st := []) (ob_e e_o9) (by decide) rfl rfl rfl rfl (Nat.le_of_ble_eq_true rfl) ⟨Nat.le_of_ble_eq_true rfl, Nat.le_of_ble_eq_true rfl⟩ (cn_M_comes e_p8) ?_
        refine Sm_eq (st1 := .int p8.1 :: []) (nc1 := 0) (ns1 := 0) rfl rfl rfl ?_
        exact Sm_le (leR_n (leR_n (leR_n leR_nil))) (s_M_deposit_51 K hQ _ _ h)
      · rw [if_pos c7] at h
        refine Sm_run K ek_M_deposit 18 2 rfl ?_
        obtain ⟨o11, e_o11, h⟩ := Option.bind_eq_some_iff.mp h
        obtain ⟨p10, e_p10, h⟩ := Option.bind_eq_some_iff.mp h
        refine Sm_callV K (eok_i (eo ek_M_deposit (i := 20) rfl) rfl) cy_M_finds im_M_finds se_M_finds (lgm 826 (by decide +kernel) rfl) ⟨Nat.le_of_ble_eq_true rfl, Nat.le_of_ble_eq_true rfl⟩ (as := [.int (-1000002)]) (b := t) (st := []) (ob_e e_o11) (by decide) rfl rfl rfl rfl (Nat.le_of_ble_eq_true rfl) ⟨Nat.le_of_ble_eq_true rfl, Nat.le_of_ble_eq_true rfl⟩ (cn_M_finds e_p10) ?_
        refine Sm_eq (st1 := .int p10.1 :: []) (nc1 := 0) (ns1 := 0) rfl rfl rfl ?_
        refine Sm_run K ek_M_deposit 21 1 rfl ?_
        exact Sm_le (leR_n (leR_n (leR_n leR_nil))) (s_M_deposit_51 K hQ _ _ h)
    · rw [if_pos c4] at h
      exact Sm_le (leR_s (leR_n (leR_n leR_nil))) (s_M_deposit_17 K hQ _ _ h)
def F_M_deposit (t : Nat) (x1 : Int32) (x2 : Int32) (w : A_W) : Option (Int32 × A_W) := F_M_deposit_0 t x1 x2 w
theorem cn_M_deposit {G : Gx} {t : Nat} {x1 : Int32} {x2 : Int32} {w : A_W} {res : Int32 × A_W} (h : F_M_deposit t x1 x2 w = some res) : Cn G y_M_deposit c_M_deposit 3 (some .int) rm_M_deposit [.ref t, .int x1, .int x2] w (some (.int res.1)) res.2 :=
  Cn_of (own := 4) cy_M_deposit rfl rfl (Nat.le_of_ble_eq_true rfl) rfl (fun X K _ hQ => Sm_le (leR_s (leR_s (leR_s leR_nil))) (s_M_deposit_0 K hQ _ _ _ _ h))
/-! EveningCloakModel.enters(I)I -/
abbrev c_M_enters : ByteArray := prog_6_method_27_code
def y_M_enters : MethodName := ⟨"EveningCloakModel", "enters", "(I)I"⟩
def rm_M_enters : Room := { frames := 1, cells := 0, slots := 0, locals := 23 }
theorem cy_M_enters : Cy y_M_enters c_M_enters 3 (some .int) 1 := ⟨lgm 854 (by decide +kernel) rfl, lgm 73 (by decide +kernel) rfl, by decide +kernel, by decide +kernel⟩
theorem im_M_enters : Cond.instanceMethod y_M_enters ∈ lg := lgm 853 (by decide +kernel) rfl
theorem se_M_enters : Cond.selects y_M_enters.cls y_M_enters y_M_enters ∈ lg := lgm 22 (by decide +kernel) rfl
def e_M_enters : List Ent := [
  (0, .aload_n 0, 1, 1, .null, 0, 0, 0),
  (1, .getfield 9, 3, 4, .null, 4, 0, 762),
  (4, .iconst 4, 1, 5, .int 4, 0, 0, 0),
  (5, .iaload, 1, 6, .null, 0, 0, 0),
  (6, .istore_n 2, 1, 7, .null, 0, 0, 0),
  (7, .aload_n 0, 1, 8, .null, 0, 0, 0),
  (8, .getfield 9, 3, 11, .null, 4, 0, 762),
  (11, .iconst 4, 1, 12, .int 4, 0, 0, 0),
  (12, .dup2, 1, 13, .null, 0, 0, 0),
  (13, .iaload, 1, 14, .null, 0, 0, 0),
  (14, .iconst 1, 1, 15, .int 1, 0, 0, 0),
  (15, .iadd, 1, 16, .null, 0, 0, 0),
  (16, .iastore, 1, 17, .null, 0, 0, 0),
  (17, .aload_n 0, 1, 18, .null, 0, 0, 0),
  (18, .iload_n 2, 1, 19, .null, 0, 0, 0),
  (19, .iconst 0, 1, 20, .int 0, 0, 0, 0),
  (20, .iconst 0, 1, 21, .int 0, 0, 0, 0),
  (21, .invokevirtual 82, 3, 24, .null, 0, 0, 0),
  (24, .aload_n 0, 1, 25, .null, 0, 0, 0),
  (25, .iload_n 2, 1, 26, .null, 0, 0, 0),
  (26, .iconst 1, 1, 27, .int 1, 0, 0, 0),
  (27, .iload_n 1, 1, 28, .null, 0, 0, 0),
  (28, .invokevirtual 82, 3, 31, .null, 0, 0, 0),
  (31, .aload_n 0, 1, 32, .null, 0, 0, 0),
  (32, .iload_n 2, 1, 33, .null, 0, 0, 0),
  (33, .iconst 2, 1, 34, .int 2, 0, 0, 0),
  (34, .iconst 0, 1, 35, .int 0, 0, 0, 0),
  (35, .invokevirtual 82, 3, 38, .null, 0, 0, 0),
  (38, .iload_n 2, 1, 39, .null, 0, 0, 0),
  (39, .ireturn, 1, 40, .null, 0, 0, 0)]
set_option maxRecDepth 100000 in
theorem ek_M_enters : e_M_enters.all (eok 4 c_M_enters) = true := by decide +kernel
def F_M_enters_0 (t : Nat) (x1 : Int32) (w : A_W) : Option (Int32 × A_W) :=
  (gr w t 4 0).bind fun a1 =>
  (rd w a1 4).bind fun v2 =>
  (gr w t 4 0).bind fun a3 =>
  (rd w a3 4).bind fun v4 =>
  (wr w a3 4 (v4 + 1)).bind fun w5 =>
  (ob w5 t 4).bind fun o7 =>
  (F_M_lets t v2 0 0 w5).bind fun p6 =>
  (ob p6 t 4).bind fun o9 =>
  (F_M_lets t v2 1 x1 p6).bind fun p8 =>
  (ob p8 t 4).bind fun o11 =>
  (F_M_lets t v2 2 0 p8).bind fun p10 =>
  some (v2, p10)
set_option maxHeartbeats 4000000 in
set_option maxRecDepth 100000 in
theorem s_M_enters_0 {G : Gx} {X : Cx} {res : Int32 × A_W} (K : Ok G X 4 c_M_enters 3 (some .int) rm_M_enters) (hQ : QQ G X (some (.int res.1)) res.2 0 0) (t : Nat) (x1 : Int32) (w : A_W) (h : F_M_enters_0 t x1 w = some res) : Sm G X w 0 0 [some (.ref t), some (.int x1), none] [] 0 := by
  unfold F_M_enters_0 at h
  refine Sm_run K ek_M_enters 0 1 rfl ?_
  obtain ⟨a1, e_a1, h⟩ := Option.bind_eq_some_iff.mp h
  refine Sm_gr K (eo ek_M_enters (i := 1) rfl) e_a1 ?_
  refine Sm_run K ek_M_enters 2 1 rfl ?_
  obtain ⟨v2, e_v2, h⟩ := Option.bind_eq_some_iff.mp h
  refine Sm_rd K (eok_i (eo ek_M_enters (i := 3) rfl) rfl) e_v2 ?_
  refine Sm_run K ek_M_enters 4 2 rfl ?_
  obtain ⟨a3, e_a3, h⟩ := Option.bind_eq_some_iff.mp h
  refine Sm_gr K (eo ek_M_enters (i := 6) rfl) e_a3 ?_
  refine Sm_run K ek_M_enters 7 2 rfl ?_
  obtain ⟨v4, e_v4, h⟩ := Option.bind_eq_some_iff.mp h
  refine Sm_rd K (eok_i (eo ek_M_enters (i := 9) rfl) rfl) e_v4 ?_
  refine Sm_run K ek_M_enters 10 2 rfl ?_
  obtain ⟨w5, e_w5, h⟩ := Option.bind_eq_some_iff.mp h
  refine Sm_wr K (eok_i (eo ek_M_enters (i := 12) rfl) rfl) e_w5 ?_
  refine Sm_run K ek_M_enters 13 4 rfl ?_
  obtain ⟨o7, e_o7, h⟩ := Option.bind_eq_some_iff.mp h
  obtain ⟨p6, e_p6, h⟩ := Option.bind_eq_some_iff.mp h
  refine Sm_callV K (eok_i (eo ek_M_enters (i := 17) rfl) rfl) cy_M_lets im_M_lets se_M_lets (lgm 855 (by decide +kernel) rfl) ⟨Nat.le_of_ble_eq_true rfl, Nat.le_of_ble_eq_true rfl⟩ (as := [.int v2, .int 0, .int 0]) (b := t) (st := []) (ob_e e_o7) (by decide) rfl rfl rfl rfl (Nat.le_of_ble_eq_true rfl) ⟨Nat.le_of_ble_eq_true rfl, Nat.le_of_ble_eq_true rfl⟩ (cn_M_lets e_p6) ?_
  refine Sm_eq (st1 := []) (nc1 := 0) (ns1 := 0) rfl rfl rfl ?_
  refine Sm_run K ek_M_enters 18 4 rfl ?_
  obtain ⟨o9, e_o9, h⟩ := Option.bind_eq_some_iff.mp h
  obtain ⟨p8, e_p8, h⟩ := Option.bind_eq_some_iff.mp h
  refine Sm_callV K (eok_i (eo ek_M_enters (i := 22) rfl) rfl) cy_M_lets im_M_lets se_M_lets (lgm 855 (by decide +kernel) rfl) ⟨Nat.le_of_ble_eq_true rfl, Nat.le_of_ble_eq_true rfl⟩ (as := [.int v2, .int 1, .int x1]) (b := t) (st := []) (ob_e e_o9) (by decide) rfl rfl rfl rfl (Nat.le_of_ble_eq_true rfl) ⟨Nat.le_of_ble_eq_true rfl, Nat.le_of_ble_eq_true rfl⟩ (cn_M_lets e_p8) ?_
  refine Sm_eq (st1 := []) (nc1 := 0) (ns1 := 0) rfl rfl rfl ?_
  refine Sm_run K ek_M_enters 23 4 rfl ?_
  obtain ⟨o11, e_o11, h⟩ := Option.bind_eq_some_iff.mp h
  obtain ⟨p10, e_p10, h⟩ := Option.bind_eq_some_iff.mp h
  refine Sm_callV K (eok_i (eo ek_M_enters (i := 27) rfl) rfl) cy_M_lets im_M_lets se_M_lets (lgm 855 (by decide +kernel) rfl) ⟨Nat.le_of_ble_eq_true rfl, Nat.le_of_ble_eq_true rfl⟩ (as := [.int v2, .int 2, .int 0]) (b := t) (st := []) (ob_e e_o11) (by decide) rfl rfl rfl rfl (Nat.le_of_ble_eq_true rfl) ⟨Nat.le_of_ble_eq_true rfl, Nat.le_of_ble_eq_true rfl⟩ (cn_M_lets e_p10) ?_
  refine Sm_eq (st1 := []) (nc1 := 0) (ns1 := 0) rfl rfl rfl ?_
  refine Sm_run K ek_M_enters 28 1 rfl ?_
  obtain rfl := Option.some.inj h
  exact Sm_reti K hQ (eok_i (eo ek_M_enters (i := 29) rfl) rfl)
def F_M_enters (t : Nat) (x1 : Int32) (w : A_W) : Option (Int32 × A_W) := F_M_enters_0 t x1 w
theorem cn_M_enters {G : Gx} {t : Nat} {x1 : Int32} {w : A_W} {res : Int32 × A_W} (h : F_M_enters t x1 w = some res) : Cn G y_M_enters c_M_enters 3 (some .int) rm_M_enters [.ref t, .int x1] w (some (.int res.1)) res.2 :=
  Cn_of (own := 4) cy_M_enters rfl rfl (Nat.le_of_ble_eq_true rfl) rfl (fun X K _ hQ => Sm_le (leR_s (leR_s (leR_n leR_nil))) (s_M_enters_0 K hQ _ _ _ h))
/-! EveningCloakModel.girl(I)I -/
abbrev c_M_girl : ByteArray := prog_6_method_28_code
def y_M_girl : MethodName := ⟨"EveningCloakModel", "girl", "(I)I"⟩
def rm_M_girl : Room := { frames := 2, cells := 0, slots := 0, locals := 45 }
theorem cy_M_girl : Cy y_M_girl c_M_girl 2 (some .int) 1 := ⟨lgm 850 (by decide +kernel) rfl, lgm 73 (by decide +kernel) rfl, by decide +kernel, by decide +kernel⟩
theorem im_M_girl : Cond.instanceMethod y_M_girl ∈ lg := lgm 848 (by decide +kernel) rfl
theorem se_M_girl : Cond.selects y_M_girl.cls y_M_girl y_M_girl ∈ lg := lgm 849 (by decide +kernel) rfl
def e_M_girl : List Ent := [
  (0, .iload_n 1, 1, 1, .null, 0, 0, 0),
  (1, .iconst 1, 1, 2, .int 1, 0, 0, 0),
  (2, .bipush 99, 2, 4, .int 99, 0, 0, 0),
  (4, .invokestatic 40, 3, 7, .null, 0, 0, 0),
  (7, .ifCond .ne 10, 3, 17, .null, 0, 0, 0),
  (10, .aload_n 0, 1, 11, .null, 0, 0, 0),
  (11, .ldc 34, 2, 13, .int (-1000001), 0, 0, 825),
  (13, .invokevirtual 36, 3, 16, .null, 0, 0, 0),
  (16, .ireturn, 1, 17, .null, 0, 0, 0),
  (17, .aload_n 0, 1, 18, .null, 0, 0, 0),
  (18, .getfield 9, 3, 21, .null, 4, 0, 762),
  (21, .iconst 4, 1, 22, .int 4, 0, 0, 0),
  (22, .iaload, 1, 23, .null, 0, 0, 0),
  (23, .bipush 6, 2, 25, .int 6, 0, 0, 0),
  (25, .if_icmp .ne 12, 3, 37, .null, 0, 0, 0),
  (28, .aload_n 0, 1, 29, .null, 0, 0, 0),
  (29, .ldc 78, 2, 31, .int (-1000002), 0, 0, 838),
  (31, .invokevirtual 36, 3, 34, .null, 0, 0, 0),
  (34, .goto 8, 3, 42, .null, 0, 0, 0),
  (37, .aload_n 0, 1, 38, .null, 0, 0, 0),
  (38, .iload_n 1, 1, 39, .null, 0, 0, 0),
  (39, .invokevirtual 85, 3, 42, .null, 0, 0, 0),
  (42, .ireturn, 1, 43, .null, 0, 0, 0)]
set_option maxRecDepth 100000 in
theorem ek_M_girl : e_M_girl.all (eok 4 c_M_girl) = true := by decide +kernel
def F_M_girl_42 (y0 : Int32) (w : A_W) : Option (Int32 × A_W) :=
  some (y0, w)
def F_M_girl_0 (t : Nat) (x1 : Int32) (w : A_W) : Option (Int32 × A_W) :=
  (F_M_in x1 1 99 w).bind fun p1 =>
  if p1.1 = 0 then
    (ob p1.2 t 4).bind fun o11 =>
    (F_M_finds t (-1000001) p1.2).bind fun p10 =>
    some (p10.1, p10.2)
  else
    (gr p1.2 t 4 0).bind fun a3 =>
    (rd p1.2 a3 4).bind fun v4 =>
    if v4 = 6 then
      (ob p1.2 t 4).bind fun o9 =>
      (F_M_finds t (-1000002) p1.2).bind fun p8 =>
      F_M_girl_42 p8.1 p8.2
    else
      (ob p1.2 t 4).bind fun o7 =>
      (F_M_enters t x1 p1.2).bind fun p6 =>
      F_M_girl_42 p6.1 p6.2
set_option maxHeartbeats 4000000 in
set_option maxRecDepth 100000 in
theorem s_M_girl_42 {G : Gx} {X : Cx} {res : Int32 × A_W} (K : Ok G X 4 c_M_girl 2 (some .int) rm_M_girl) (hQ : QQ G X (some (.int res.1)) res.2 0 0) (y0 : Int32) (w : A_W) (h : F_M_girl_42 y0 w = some res) : Sm G X w 0 0 [none, none] [.int y0] 42 := by
  unfold F_M_girl_42 at h
  obtain rfl := Option.some.inj h
  exact Sm_reti K hQ (eok_i (eo ek_M_girl (i := 22) rfl) rfl)
set_option maxHeartbeats 4000000 in
set_option maxRecDepth 100000 in
theorem s_M_girl_0 {G : Gx} {X : Cx} {res : Int32 × A_W} (K : Ok G X 4 c_M_girl 2 (some .int) rm_M_girl) (hQ : QQ G X (some (.int res.1)) res.2 0 0) (t : Nat) (x1 : Int32) (w : A_W) (h : F_M_girl_0 t x1 w = some res) : Sm G X w 0 0 [some (.ref t), some (.int x1)] [] 0 := by
  unfold F_M_girl_0 at h
  refine Sm_run K ek_M_girl 0 3 rfl ?_
  obtain ⟨p1, e_p1, h⟩ := Option.bind_eq_some_iff.mp h
  refine Sm_callS K (eok_i (eo ek_M_girl (i := 3) rfl) rfl) cy_M_in st_M_in (lgm 815 (by decide +kernel) rfl) ⟨Nat.le_of_ble_eq_true rfl, Nat.le_of_ble_eq_true rfl⟩ (as := [.int x1, .int 1, .int 99]) (st := []) rfl rfl rfl (Nat.le_of_ble_eq_true rfl) ⟨Nat.le_of_ble_eq_true rfl, Nat.le_of_ble_eq_true rfl⟩ (cn_M_in e_p1) ?_
  refine Sm_eq (st1 := .int p1.1 :: []) (nc1 := 0) (ns1 := 0) rfl rfl rfl ?_
  refine Sm_if_ne K (eo ek_M_girl (i := 4) rfl) (fun c2 => ?_) (fun c2 => ?_)
  · rw [if_neg c2] at h
    refine Sm_run K ek_M_girl 9 1 rfl ?_
    obtain ⟨a3, e_a3, h⟩ := Option.bind_eq_some_iff.mp h
    refine Sm_gr K (eo ek_M_girl (i := 10) rfl) e_a3 ?_
    refine Sm_run K ek_M_girl 11 1 rfl ?_
    obtain ⟨v4, e_v4, h⟩ := Option.bind_eq_some_iff.mp h
    refine Sm_rd K (eok_i (eo ek_M_girl (i := 12) rfl) rfl) e_v4 ?_
    refine Sm_run K ek_M_girl 13 1 rfl ?_
    refine Sm_ic_ne K (eo ek_M_girl (i := 14) rfl) (fun c5 => ?_) (fun c5 => ?_)
    · rw [if_neg c5] at h
      refine Sm_run K ek_M_girl 19 2 rfl ?_
      obtain ⟨o7, e_o7, h⟩ := Option.bind_eq_some_iff.mp h
      obtain ⟨p6, e_p6, h⟩ := Option.bind_eq_some_iff.mp h
      refine Sm_callV K (eok_i (eo ek_M_girl (i := 21) rfl) rfl) cy_M_enters im_M_enters se_M_enters (lgm 851 (by decide +kernel) rfl) ⟨Nat.le_of_ble_eq_true rfl, Nat.le_of_ble_eq_true rfl⟩ (as := [.int x1]) (b := t) (st := []) (ob_e e_o7) (by decide) rfl rfl rfl rfl (Nat.le_of_ble_eq_true rfl) ⟨Nat.le_of_ble_eq_true rfl, Nat.le_of_ble_eq_true rfl⟩ (cn_M_enters e_p6) ?_
      refine Sm_eq (st1 := .int p6.1 :: []) (nc1 := 0) (ns1 := 0) rfl rfl rfl ?_
      exact Sm_le (leR_n (leR_n leR_nil)) (s_M_girl_42 K hQ _ _ h)
    · rw [if_pos c5] at h
      refine Sm_run K ek_M_girl 15 2 rfl ?_
      obtain ⟨o9, e_o9, h⟩ := Option.bind_eq_some_iff.mp h
      obtain ⟨p8, e_p8, h⟩ := Option.bind_eq_some_iff.mp h
      refine Sm_callV K (eok_i (eo ek_M_girl (i := 17) rfl) rfl) cy_M_finds im_M_finds se_M_finds (lgm 826 (by decide +kernel) rfl) ⟨Nat.le_of_ble_eq_true rfl, Nat.le_of_ble_eq_true rfl⟩ (as := [.int (-1000002)]) (b := t) (st := []) (ob_e e_o9) (by decide) rfl rfl rfl rfl (Nat.le_of_ble_eq_true rfl) ⟨Nat.le_of_ble_eq_true rfl, Nat.le_of_ble_eq_true rfl⟩ (cn_M_finds e_p8) ?_
      refine Sm_eq (st1 := .int p8.1 :: []) (nc1 := 0) (ns1 := 0) rfl rfl rfl ?_
      refine Sm_run K ek_M_girl 18 1 rfl ?_
      exact Sm_le (leR_n (leR_n leR_nil)) (s_M_girl_42 K hQ _ _ h)
  · rw [if_pos c2] at h
    refine Sm_run K ek_M_girl 5 2 rfl ?_
    obtain ⟨o11, e_o11, h⟩ := Option.bind_eq_some_iff.mp h
    obtain ⟨p10, e_p10, h⟩ := Option.bind_eq_some_iff.mp h
    refine Sm_callV K (eok_i (eo ek_M_girl (i := 7) rfl) rfl) cy_M_finds im_M_finds se_M_finds (lgm 826 (by decide +kernel) rfl) ⟨Nat.le_of_ble_eq_true rfl, Nat.le_of_ble_eq_true rfl⟩ (as := [.int (-1000001)]) (b := t) (st := []) (ob_e e_o11) (by decide) rfl rfl rfl rfl (Nat.le_of_ble_eq_true rfl) ⟨Nat.le_of_ble_eq_true rfl, Nat.le_of_ble_eq_true rfl⟩ (cn_M_finds e_p10) ?_
    refine Sm_eq (st1 := .int p10.1 :: []) (nc1 := 0) (ns1 := 0) rfl rfl rfl ?_
    obtain rfl := Option.some.inj h
    exact Sm_reti K hQ (eok_i (eo ek_M_girl (i := 8) rfl) rfl)
def F_M_girl (t : Nat) (x1 : Int32) (w : A_W) : Option (Int32 × A_W) := F_M_girl_0 t x1 w
theorem cn_M_girl {G : Gx} {t : Nat} {x1 : Int32} {w : A_W} {res : Int32 × A_W} (h : F_M_girl t x1 w = some res) : Cn G y_M_girl c_M_girl 2 (some .int) rm_M_girl [.ref t, .int x1] w (some (.int res.1)) res.2 :=
  Cn_of (own := 4) cy_M_girl rfl rfl (Nat.le_of_ble_eq_true rfl) rfl (fun X K _ hQ => Sm_le (leR_s (leR_s leR_nil)) (s_M_girl_0 K hQ _ _ _ h))
/-! EveningCloakModel.of(II)I -/
abbrev c_M_of : ByteArray := prog_6_method_29_code
def y_M_of : MethodName := ⟨"EveningCloakModel", "of", "(II)I"⟩
def rm_M_of : Room := { frames := 4, cells := 0, slots := 0, locals := 91 }
theorem cy_M_of : Cy y_M_of c_M_of 3 (some .int) 2 := ⟨lgm 862 (by decide +kernel) rfl, lgm 73 (by decide +kernel) rfl, by decide +kernel, by decide +kernel⟩
theorem im_M_of : Cond.instanceMethod y_M_of ∈ lg := lgm 860 (by decide +kernel) rfl
theorem se_M_of : Cond.selects y_M_of.cls y_M_of y_M_of ∈ lg := lgm 861 (by decide +kernel) rfl
def e_M_of : List Ent := [
  (0, .aload_n 0, 1, 1, .null, 0, 0, 0),
  (1, .iload_n 1, 1, 2, .null, 0, 0, 0),
  (2, .invokevirtual 88, 3, 5, .null, 0, 0, 0),
  (5, .ifCond .eq 13, 3, 18, .null, 0, 0, 0),
  (8, .iload_n 2, 1, 9, .null, 0, 0, 0),
  (9, .iconst 0, 1, 10, .int 0, 0, 0, 0),
  (10, .bipush 9, 2, 12, .int 9, 0, 0, 0),
  (12, .invokestatic 40, 3, 15, .null, 0, 0, 0),
  (15, .ifCond .ne 10, 3, 25, .null, 0, 0, 0),
  (18, .aload_n 0, 1, 19, .null, 0, 0, 0),
  (19, .ldc 34, 2, 21, .int (-1000001), 0, 0, 825),
  (21, .invokevirtual 36, 3, 24, .null, 0, 0, 0),
  (24, .ireturn, 1, 25, .null, 0, 0, 0),
  (25, .iload_n 2, 1, 26, .null, 0, 0, 0),
  (26, .tableswitch 54 6 9 #[30, 36, 42, 48], 30, 56, .null, 0, 0, 0),
  (56, .aload_n 0, 1, 57, .null, 0, 0, 0),
  (57, .iload_n 1, 1, 58, .null, 0, 0, 0),
  (58, .invokevirtual 52, 3, 61, .null, 0, 0, 0),
  (61, .ireturn, 1, 62, .null, 0, 0, 0),
  (62, .aload_n 0, 1, 63, .null, 0, 0, 0),
  (63, .iload_n 1, 1, 64, .null, 0, 0, 0),
  (64, .invokevirtual 59, 3, 67, .null, 0, 0, 0),
  (67, .ireturn, 1, 68, .null, 0, 0, 0),
  (68, .aload_n 0, 1, 69, .null, 0, 0, 0),
  (69, .iload_n 1, 1, 70, .null, 0, 0, 0),
  (70, .invokevirtual 91, 3, 73, .null, 0, 0, 0),
  (73, .ireturn, 1, 74, .null, 0, 0, 0),
  (74, .aload_n 0, 1, 75, .null, 0, 0, 0),
  (75, .iload_n 1, 1, 76, .null, 0, 0, 0),
  (76, .invokevirtual 94, 3, 79, .null, 0, 0, 0),
  (79, .ireturn, 1, 80, .null, 0, 0, 0),
  (80, .aload_n 0, 1, 81, .null, 0, 0, 0),
  (81, .iload_n 1, 1, 82, .null, 0, 0, 0),
  (82, .iload_n 2, 1, 83, .null, 0, 0, 0),
  (83, .invokevirtual 44, 3, 86, .null, 0, 0, 0),
  (86, .ireturn, 1, 87, .null, 0, 0, 0)]
set_option maxRecDepth 100000 in
theorem ek_M_of : e_M_of.all (eok 4 c_M_of) = true := by decide +kernel
def F_M_of_18 (t : Nat) (w : A_W) : Option (Int32 × A_W) :=
  (ob w t 4).bind fun o2 =>
  (F_M_finds t (-1000001) w).bind fun p1 =>
  some (p1.1, p1.2)
def F_M_of_0 (t : Nat) (x1 : Int32) (x2 : Int32) (w : A_W) : Option (Int32 × A_W) :=
  (ob w t 4).bind fun o2 =>
  (F_M_isDeposit t x1 w).bind fun p1 =>
  if p1.1 = 0 then
    F_M_of_18 t p1.2
  else
    (F_M_in x2 0 9 p1.2).bind fun p4 =>
    if p4.1 = 0 then
      F_M_of_18 t p4.2
    else
      if x2 = 6 then
        (ob p4.2 t 4).bind fun o7 =>
        (F_M_shines t x1 p4.2).bind fun p6 =>
        some (p6.1, p6.2)
      else if x2 = 7 then
        (ob p4.2 t 4).bind fun o9 =>
        (F_M_reaches t x1 p4.2).bind fun p8 =>
        some (p8.1, p8.2)
      else if x2 = 8 then
        (ob p4.2 t 4).bind fun o11 =>
        (F_M_wears t x1 p4.2).bind fun p10 =>
        some (p10.1, p10.2)
      else if x2 = 9 then
        (ob p4.2 t 4).bind fun o13 =>
        (F_M_costs t x1 p4.2).bind fun p12 =>
        some (p12.1, p12.2)
      else
        (ob p4.2 t 4).bind fun o15 =>
        (F_M_it t x1 x2 p4.2).bind fun p14 =>
        some (p14.1, p14.2)
set_option maxHeartbeats 4000000 in
set_option maxRecDepth 100000 in
theorem s_M_of_18 {G : Gx} {X : Cx} {res : Int32 × A_W} (K : Ok G X 4 c_M_of 3 (some .int) rm_M_of) (hQ : QQ G X (some (.int res.1)) res.2 0 0) (t : Nat) (w : A_W) (h : F_M_of_18 t w = some res) : Sm G X w 0 0 [some (.ref t), none, none] [] 18 := by
  unfold F_M_of_18 at h
  refine Sm_run K ek_M_of 9 2 rfl ?_
  obtain ⟨o2, e_o2, h⟩ := Option.bind_eq_some_iff.mp h
  obtain ⟨p1, e_p1, h⟩ := Option.bind_eq_some_iff.mp h
  refine Sm_callV K (eok_i (eo ek_M_of (i := 11) rfl) rfl) cy_M_finds im_M_finds se_M_finds (lgm 826 (by decide +kernel) rfl) ⟨Nat.le_of_ble_eq_true rfl, Nat.le_of_ble_eq_true rfl⟩ (as := [.int (-1000001)]) (b := t) (st := []) (ob_e e_o2) (by decide) rfl rfl rfl rfl (Nat.le_of_ble_eq_true rfl) ⟨Nat.le_of_ble_eq_true rfl, Nat.le_of_ble_eq_true rfl⟩ (cn_M_finds e_p1) ?_
  refine Sm_eq (st1 := .int p1.1 :: []) (nc1 := 0) (ns1 := 0) rfl rfl rfl ?_
  obtain rfl := Option.some.inj h
  exact Sm_reti K hQ (eok_i (eo ek_M_of (i := 12) rfl) rfl)
set_option maxHeartbeats 4000000 in
set_option maxRecDepth 100000 in
theorem s_M_of_0 {G : Gx} {X : Cx} {res : Int32 × A_W} (K : Ok G X 4 c_M_of 3 (some .int) rm_M_of) (hQ : QQ G X (some (.int res.1)) res.2 0 0) (t : Nat) (x1 : Int32) (x2 : Int32) (w : A_W) (h : F_M_of_0 t x1 x2 w = some res) : Sm G X w 0 0 [some (.ref t), some (.int x1), some (.int x2)] [] 0 := by
  unfold F_M_of_0 at h
  refine Sm_run K ek_M_of 0 2 rfl ?_
  obtain ⟨o2, e_o2, h⟩ := Option.bind_eq_some_iff.mp h
  obtain ⟨p1, e_p1, h⟩ := Option.bind_eq_some_iff.mp h
  refine Sm_callV K (eok_i (eo ek_M_of (i := 2) rfl) rfl) cy_M_isDeposit im_M_isDeposit se_M_isDeposit (lgm 863 (by decide +kernel) rfl) ⟨Nat.le_of_ble_eq_true rfl, Nat.le_of_ble_eq_true rfl⟩ (as := [.int x1]) (b := t) (st := []) (ob_e e_o2) (by decide) rfl rfl rfl rfl (Nat.le_of_ble_eq_true rfl) ⟨Nat.le_of_ble_eq_true rfl, Nat.le_of_ble_eq_true rfl⟩ (cn_M_isDeposit e_p1) ?_
  refine Sm_eq (st1 := .int p1.1 :: []) (nc1 := 0) (ns1 := 0) rfl rfl rfl ?_
  refine Sm_if_eq K (eo ek_M_of (i := 3) rfl) (fun c3 => ?_) (fun c3 => ?_)
  · rw [if_pos c3] at h
    exact Sm_le (leR_s (leR_n (leR_n leR_nil))) (s_M_of_18 K hQ _ _ h)
  · rw [if_neg c3] at h
    refine Sm_run K ek_M_of 4 3 rfl ?_
    obtain ⟨p4, e_p4, h⟩ := Option.bind_eq_some_iff.mp h
    refine Sm_callS K (eok_i (eo ek_M_of (i := 7) rfl) rfl) cy_M_in st_M_in (lgm 815 (by decide +kernel) rfl) ⟨Nat.le_of_ble_eq_true rfl, Nat.le_of_ble_eq_true rfl⟩ (as := [.int x2, .int 0, .int 9]) (st := []) rfl rfl rfl (Nat.le_of_ble_eq_true rfl) ⟨Nat.le_of_ble_eq_true rfl, Nat.le_of_ble_eq_true rfl⟩ (cn_M_in e_p4) ?_
    refine Sm_eq (st1 := .int p4.1 :: []) (nc1 := 0) (ns1 := 0) rfl rfl rfl ?_
    refine Sm_if_ne K (eo ek_M_of (i := 8) rfl) (fun c5 => ?_) (fun c5 => ?_)
    · rw [if_neg c5] at h
      refine Sm_run K ek_M_of 13 1 rfl ?_
      refine Sm_tsw K (eok_d (eo ek_M_of (i := 14) rfl)) [56, 62, 68, 74] 80 (by decide) (by decide) (by decide) (fun j hj hx => ?_) (fun hx => ?_)
      · have hj : j < 4 := hj
        rcases (show j = 0 ∨ j = 1 ∨ j = 2 ∨ j = 3 by omega) with rfl | rfl | rfl | rfl
        · have hc : x2 = 6 := Int32.toInt_inj.mp (hx.trans (by decide))
          rw [if_pos hc] at h
          refine Sm_pc (pc1 := 56) rfl ?_
          refine Sm_run K ek_M_of 15 2 rfl ?_
          obtain ⟨o7, e_o7, h⟩ := Option.bind_eq_some_iff.mp h
          obtain ⟨p6, e_p6, h⟩ := Option.bind_eq_some_iff.mp h
          refine Sm_callV K (eok_i (eo ek_M_of (i := 17) rfl) rfl) cy_M_shines im_M_shines se_M_shines (lgm 867 (by decide +kernel) rfl) ⟨Nat.le_of_ble_eq_true rfl, Nat.le_of_ble_eq_true rfl⟩ (as := [.int x1]) (b := t) (st := []) (ob_e e_o7) (by decide) rfl rfl rfl rfl (Nat.le_of_ble_eq_true rfl) ⟨Nat.le_of_ble_eq_true rfl, Nat.le_of_ble_eq_true rfl⟩ (cn_M_shines e_p6) ?_
          refine Sm_eq (st1 := .int p6.1 :: []) (nc1 := 0) (ns1 := 0) rfl rfl rfl ?_
          obtain rfl := Option.some.inj h
          exact Sm_reti K hQ (eok_i (eo ek_M_of (i := 18) rfl) rfl)
        · have hc : x2 = 7 := Int32.toInt_inj.mp (hx.trans (by decide))
          rw [if_neg (by rw [hc]; decide), if_pos hc] at h
          refine Sm_pc (pc1 := 62) rfl ?_
          refine Sm_run K ek_M_of 19 2 rfl ?_
          obtain ⟨o9, e_o9, h⟩ := Option.bind_eq_some_iff.mp h
          obtain ⟨p8, e_p8, h⟩ := Option.bind_eq_some_iff.mp h
          refine Sm_callV K (eok_i (eo ek_M_of (i := 21) rfl) rfl) cy_M_reaches im_M_reaches se_M_reaches (lgm 878 (by decide +kernel) rfl) ⟨Nat.le_of_ble_eq_true rfl, Nat.le_of_ble_eq_true rfl⟩ (as := [.int x1]) (b := t) (st := []) (ob_e e_o9) (by decide) rfl rfl rfl rfl (Nat.le_of_ble_eq_true rfl) ⟨Nat.le_of_ble_eq_true rfl, Nat.le_of_ble_eq_true rfl⟩ (cn_M_reaches e_p8) ?_
          refine Sm_eq (st1 := .int p8.1 :: []) (nc1 := 0) (ns1 := 0) rfl rfl rfl ?_
          obtain rfl := Option.some.inj h
          exact Sm_reti K hQ (eok_i (eo ek_M_of (i := 22) rfl) rfl)
        · have hc : x2 = 8 := Int32.toInt_inj.mp (hx.trans (by decide))
          rw [if_neg (by rw [hc]; decide), if_neg (by rw [hc]; decide), if_pos hc] at h
          refine Sm_pc (pc1 := 68) rfl ?_
          refine Sm_run K ek_M_of 23 2 rfl ?_
          obtain ⟨o11, e_o11, h⟩ := Option.bind_eq_some_iff.mp h
          obtain ⟨p10, e_p10, h⟩ := Option.bind_eq_some_iff.mp h
          refine Sm_callV K (eok_i (eo ek_M_of (i := 25) rfl) rfl) cy_M_wears im_M_wears se_M_wears (lgm 882 (by decide +kernel) rfl) ⟨Nat.le_of_ble_eq_true rfl, Nat.le_of_ble_eq_true rfl⟩ (as := [.int x1]) (b := t) (st := []) (ob_e e_o11) (by decide) rfl rfl rfl rfl (Nat.le_of_ble_eq_true rfl) ⟨Nat.le_of_ble_eq_true rfl, Nat.le_of_ble_eq_true rfl⟩ (cn_M_wears e_p10) ?_
          refine Sm_eq (st1 := .int p10.1 :: []) (nc1 := 0) (ns1 := 0) rfl rfl rfl ?_
          obtain rfl := Option.some.inj h
          exact Sm_reti K hQ (eok_i (eo ek_M_of (i := 26) rfl) rfl)
        · have hc : x2 = 9 := Int32.toInt_inj.mp (hx.trans (by decide))
          rw [if_neg (by rw [hc]; decide), if_neg (by rw [hc]; decide), if_neg (by rw [hc]; decide), if_pos hc] at h
          refine Sm_pc (pc1 := 74) rfl ?_
          refine Sm_run K ek_M_of 27 2 rfl ?_
          obtain ⟨o13, e_o13, h⟩ := Option.bind_eq_some_iff.mp h
          obtain ⟨p12, e_p12, h⟩ := Option.bind_eq_some_iff.mp h
          refine Sm_callV K (eok_i (eo ek_M_of (i := 29) rfl) rfl) cy_M_costs im_M_costs se_M_costs (lgm 894 (by decide +kernel) rfl) ⟨Nat.le_of_ble_eq_true rfl, Nat.le_of_ble_eq_true rfl⟩ (as := [.int x1]) (b := t) (st := []) (ob_e e_o13) (by decide) rfl rfl rfl rfl (Nat.le_of_ble_eq_true rfl) ⟨Nat.le_of_ble_eq_true rfl, Nat.le_of_ble_eq_true rfl⟩ (cn_M_costs e_p12) ?_
          refine Sm_eq (st1 := .int p12.1 :: []) (nc1 := 0) (ns1 := 0) rfl rfl rfl ?_
          obtain rfl := Option.some.inj h
          exact Sm_reti K hQ (eok_i (eo ek_M_of (i := 30) rfl) rfl)
      · rw [if_neg (fun hc => hx 0 (by decide) (by rw [hc]; decide)), if_neg (fun hc => hx 1 (by decide) (by rw [hc]; decide)), if_neg (fun hc => hx 2 (by decide) (by rw [hc]; decide)), if_neg (fun hc => hx 3 (by decide) (by rw [hc]; decide))] at h
        refine Sm_run K ek_M_of 31 3 rfl ?_
        obtain ⟨o15, e_o15, h⟩ := Option.bind_eq_some_iff.mp h
        obtain ⟨p14, e_p14, h⟩ := Option.bind_eq_some_iff.mp h
        refine Sm_callV K (eok_i (eo ek_M_of (i := 34) rfl) rfl) cy_M_it im_M_it se_M_it (lgm 871 (by decide +kernel) rfl) ⟨Nat.le_of_ble_eq_true rfl, Nat.le_of_ble_eq_true rfl⟩ (as := [.int x1, .int x2]) (b := t) (st := []) (ob_e e_o15) (by decide) rfl rfl rfl rfl (Nat.le_of_ble_eq_true rfl) ⟨Nat.le_of_ble_eq_true rfl, Nat.le_of_ble_eq_true rfl⟩ (cn_M_it e_p14) ?_
        refine Sm_eq (st1 := .int p14.1 :: []) (nc1 := 0) (ns1 := 0) rfl rfl rfl ?_
        obtain rfl := Option.some.inj h
        exact Sm_reti K hQ (eok_i (eo ek_M_of (i := 35) rfl) rfl)
    · rw [if_pos c5] at h
      exact Sm_le (leR_s (leR_n (leR_n leR_nil))) (s_M_of_18 K hQ _ _ h)
def F_M_of (t : Nat) (x1 : Int32) (x2 : Int32) (w : A_W) : Option (Int32 × A_W) := F_M_of_0 t x1 x2 w
theorem cn_M_of {G : Gx} {t : Nat} {x1 : Int32} {x2 : Int32} {w : A_W} {res : Int32 × A_W} (h : F_M_of t x1 x2 w = some res) : Cn G y_M_of c_M_of 3 (some .int) rm_M_of [.ref t, .int x1, .int x2] w (some (.int res.1)) res.2 :=
  Cn_of (own := 4) cy_M_of rfl rfl (Nat.le_of_ble_eq_true rfl) rfl (fun X K _ hQ => Sm_le (leR_s (leR_s (leR_s leR_nil))) (s_M_of_0 K hQ _ _ _ _ h))
/-! EveningCloakModel.mostOf(I)I -/
abbrev c_M_mostOf : ByteArray := prog_6_method_30_code
def y_M_mostOf : MethodName := ⟨"EveningCloakModel", "mostOf", "(I)I"⟩
def rm_M_mostOf : Room := { frames := 0, cells := 0, slots := 0, locals := 0 }
theorem cy_M_mostOf : Cy y_M_mostOf c_M_mostOf 1 (some .int) 1 := ⟨lgm 904 (by decide +kernel) rfl, lgm 73 (by decide +kernel) rfl, by decide +kernel, by decide +kernel⟩
theorem st_M_mostOf : Cond.static y_M_mostOf ∈ lg := lgm 903 (by decide +kernel) rfl
def e_M_mostOf : List Ent := [
  (0, .iload_n 0, 1, 1, .null, 0, 0, 0),
  (1, .tableswitch 51 0 5 #[39, 42, 51, 45, 51, 49], 39, 40, .null, 0, 0, 0),
  (40, .bipush 6, 2, 42, .int 6, 0, 0, 0),
  (42, .ireturn, 1, 43, .null, 0, 0, 0),
  (43, .bipush 15, 2, 45, .int 15, 0, 0, 0),
  (45, .ireturn, 1, 46, .null, 0, 0, 0),
  (46, .sipush 9999, 3, 49, .int 9999, 0, 0, 0),
  (49, .ireturn, 1, 50, .null, 0, 0, 0),
  (50, .iconst 1, 1, 51, .int 1, 0, 0, 0),
  (51, .ireturn, 1, 52, .null, 0, 0, 0),
  (52, .bipush 99, 2, 54, .int 99, 0, 0, 0),
  (54, .ireturn, 1, 55, .null, 0, 0, 0)]
set_option maxRecDepth 100000 in
theorem ek_M_mostOf : e_M_mostOf.all (eok 4 c_M_mostOf) = true := by decide +kernel
def F_M_mostOf_52 (w : A_W) : Option (Int32 × A_W) :=
  some (99, w)
def F_M_mostOf_0 (x0 : Int32) (w : A_W) : Option (Int32 × A_W) :=
  if x0 = 0 then
    some (6, w)
  else if x0 = 1 then
    some (15, w)
  else if x0 = 2 then
    F_M_mostOf_52 w
  else if x0 = 3 then
    some (9999, w)
  else if x0 = 4 then
    F_M_mostOf_52 w
  else if x0 = 5 then
    some (1, w)
  else
    F_M_mostOf_52 w
set_option maxHeartbeats 4000000 in
set_option maxRecDepth 100000 in
theorem s_M_mostOf_52 {G : Gx} {X : Cx} {res : Int32 × A_W} (K : Ok G X 4 c_M_mostOf 1 (some .int) rm_M_mostOf) (hQ : QQ G X (some (.int res.1)) res.2 0 0) (w : A_W) (h : F_M_mostOf_52 w = some res) : Sm G X w 0 0 [none] [] 52 := by
  unfold F_M_mostOf_52 at h
  refine Sm_run K ek_M_mostOf 10 1 rfl ?_
  obtain rfl := Option.some.inj h
  exact Sm_reti K hQ (eok_i (eo ek_M_mostOf (i := 11) rfl) rfl)
set_option maxHeartbeats 4000000 in
set_option maxRecDepth 100000 in
theorem s_M_mostOf_0 {G : Gx} {X : Cx} {res : Int32 × A_W} (K : Ok G X 4 c_M_mostOf 1 (some .int) rm_M_mostOf) (hQ : QQ G X (some (.int res.1)) res.2 0 0) (x0 : Int32) (w : A_W) (h : F_M_mostOf_0 x0 w = some res) : Sm G X w 0 0 [some (.int x0)] [] 0 := by
  unfold F_M_mostOf_0 at h
  refine Sm_run K ek_M_mostOf 0 1 rfl ?_
  refine Sm_tsw K (eok_d (eo ek_M_mostOf (i := 1) rfl)) [40, 43, 52, 46, 52, 50] 52 (by decide) (by decide) (by decide) (fun j hj hx => ?_) (fun hx => ?_)
  · have hj : j < 6 := hj
    rcases (show j = 0 ∨ j = 1 ∨ j = 2 ∨ j = 3 ∨ j = 4 ∨ j = 5 by omega) with rfl | rfl | rfl | rfl | rfl | rfl
    · have hc : x0 = 0 := Int32.toInt_inj.mp (hx.trans (by decide))
      rw [if_pos hc] at h
      refine Sm_pc (pc1 := 40) rfl ?_
      refine Sm_run K ek_M_mostOf 2 1 rfl ?_
      obtain rfl := Option.some.inj h
      exact Sm_reti K hQ (eok_i (eo ek_M_mostOf (i := 3) rfl) rfl)
    · have hc : x0 = 1 := Int32.toInt_inj.mp (hx.trans (by decide))
      rw [if_neg (by rw [hc]; decide), if_pos hc] at h
      refine Sm_pc (pc1 := 43) rfl ?_
      refine Sm_run K ek_M_mostOf 4 1 rfl ?_
      obtain rfl := Option.some.inj h
      exact Sm_reti K hQ (eok_i (eo ek_M_mostOf (i := 5) rfl) rfl)
    · have hc : x0 = 2 := Int32.toInt_inj.mp (hx.trans (by decide))
      rw [if_neg (by rw [hc]; decide), if_neg (by rw [hc]; decide), if_pos hc] at h
      refine Sm_pc (pc1 := 52) rfl ?_
      exact Sm_le (leR_n leR_nil) (s_M_mostOf_52 K hQ _ h)
    · have hc : x0 = 3 := Int32.toInt_inj.mp (hx.trans (by decide))
      rw [if_neg (by rw [hc]; decide), if_neg (by rw [hc]; decide), if_neg (by rw [hc]; decide), if_pos hc] at h
      refine Sm_pc (pc1 := 46) rfl ?_
      refine Sm_run K ek_M_mostOf 6 1 rfl ?_
      obtain rfl := Option.some.inj h
      exact Sm_reti K hQ (eok_i (eo ek_M_mostOf (i := 7) rfl) rfl)
    · have hc : x0 = 4 := Int32.toInt_inj.mp (hx.trans (by decide))
      rw [if_neg (by rw [hc]; decide), if_neg (by rw [hc]; decide), if_neg (by rw [hc]; decide), if_neg (by rw [hc]; decide), if_pos hc] at h
      refine Sm_pc (pc1 := 52) rfl ?_
      exact Sm_le (leR_n leR_nil) (s_M_mostOf_52 K hQ _ h)
    · have hc : x0 = 5 := Int32.toInt_inj.mp (hx.trans (by decide))
      rw [if_neg (by rw [hc]; decide), if_neg (by rw [hc]; decide), if_neg (by rw [hc]; decide), if_neg (by rw [hc]; decide), if_neg (by rw [hc]; decide), if_pos hc] at h
      refine Sm_pc (pc1 := 50) rfl ?_
      refine Sm_run K ek_M_mostOf 8 1 rfl ?_
      obtain rfl := Option.some.inj h
      exact Sm_reti K hQ (eok_i (eo ek_M_mostOf (i := 9) rfl) rfl)
  · rw [if_neg (fun hc => hx 0 (by decide) (by rw [hc]; decide)), if_neg (fun hc => hx 1 (by decide) (by rw [hc]; decide)), if_neg (fun hc => hx 2 (by decide) (by rw [hc]; decide)), if_neg (fun hc => hx 3 (by decide) (by rw [hc]; decide)), if_neg (fun hc => hx 4 (by decide) (by rw [hc]; decide)), if_neg (fun hc => hx 5 (by decide) (by rw [hc]; decide))] at h
    exact Sm_le (leR_n leR_nil) (s_M_mostOf_52 K hQ _ h)
def F_M_mostOf (x0 : Int32) (w : A_W) : Option (Int32 × A_W) := F_M_mostOf_0 x0 w
theorem cn_M_mostOf {G : Gx} {x0 : Int32} {w : A_W} {res : Int32 × A_W} (h : F_M_mostOf x0 w = some res) : Cn G y_M_mostOf c_M_mostOf 1 (some .int) rm_M_mostOf [.int x0] w (some (.int res.1)) res.2 :=
  Cn_of (own := 4) cy_M_mostOf rfl rfl (Nat.le_of_ble_eq_true rfl) rfl (fun X K _ hQ => Sm_le (leR_s leR_nil) (s_M_mostOf_0 K hQ _ _ h))
/-! EveningCloakModel.change(III)I -/
abbrev c_M_change : ByteArray := prog_6_method_31_code
def y_M_change : MethodName := ⟨"EveningCloakModel", "change", "(III)I"⟩
def rm_M_change : Room := { frames := 2, cells := 0, slots := 0, locals := 43 }
theorem cy_M_change : Cy y_M_change c_M_change 4 (some .int) 3 := ⟨lgm 901 (by decide +kernel) rfl, lgm 73 (by decide +kernel) rfl, by decide +kernel, by decide +kernel⟩
theorem im_M_change : Cond.instanceMethod y_M_change ∈ lg := lgm 899 (by decide +kernel) rfl
theorem se_M_change : Cond.selects y_M_change.cls y_M_change y_M_change ∈ lg := lgm 900 (by decide +kernel) rfl
def e_M_change : List Ent := [
  (0, .aload_n 0, 1, 1, .null, 0, 0, 0),
  (1, .iload_n 1, 1, 2, .null, 0, 0, 0),
  (2, .invokevirtual 88, 3, 5, .null, 0, 0, 0),
  (5, .ifCond .eq 41, 3, 46, .null, 0, 0, 0),
  (8, .iload_n 2, 1, 9, .null, 0, 0, 0),
  (9, .iconst 0, 1, 10, .int 0, 0, 0, 0),
  (10, .iconst 5, 1, 11, .int 5, 0, 0, 0),
  (11, .invokestatic 40, 3, 14, .null, 0, 0, 0),
  (14, .ifCond .eq 32, 3, 46, .null, 0, 0, 0),
  (17, .iload_n 3, 1, 18, .null, 0, 0, 0),
  (18, .iconst 0, 1, 19, .int 0, 0, 0, 0),
  (19, .iload_n 2, 1, 20, .null, 0, 0, 0),
  (20, .invokestatic 97, 3, 23, .null, 0, 0, 0),
  (23, .invokestatic 40, 3, 26, .null, 0, 0, 0),
  (26, .ifCond .eq 20, 3, 46, .null, 0, 0, 0),
  (29, .aload_n 0, 1, 30, .null, 0, 0, 0),
  (30, .bipush 11, 2, 32, .int 11, 0, 0, 0),
  (32, .bipush 6, 2, 34, .int 6, 0, 0, 0),
  (34, .iload_n 1, 1, 35, .null, 0, 0, 0),
  (35, .imul, 1, 36, .null, 0, 0, 0),
  (36, .iadd, 1, 37, .null, 0, 0, 0),
  (37, .iload_n 2, 1, 38, .null, 0, 0, 0),
  (38, .iadd, 1, 39, .null, 0, 0, 0),
  (39, .iload_n 3, 1, 40, .null, 0, 0, 0),
  (40, .invokevirtual 71, 3, 43, .null, 0, 0, 0),
  (43, .goto 9, 3, 52, .null, 0, 0, 0),
  (46, .aload_n 0, 1, 47, .null, 0, 0, 0),
  (47, .ldc 34, 2, 49, .int (-1000001), 0, 0, 825),
  (49, .invokevirtual 36, 3, 52, .null, 0, 0, 0),
  (52, .ireturn, 1, 53, .null, 0, 0, 0)]
set_option maxRecDepth 100000 in
theorem ek_M_change : e_M_change.all (eok 4 c_M_change) = true := by decide +kernel
def F_M_change_52 (y0 : Int32) (w : A_W) : Option (Int32 × A_W) :=
  some (y0, w)
def F_M_change_46 (t : Nat) (w : A_W) : Option (Int32 × A_W) :=
  (ob w t 4).bind fun o2 =>
  (F_M_finds t (-1000001) w).bind fun p1 =>
  F_M_change_52 p1.1 p1.2
def F_M_change_0 (t : Nat) (x1 : Int32) (x2 : Int32) (x3 : Int32) (w : A_W) : Option (Int32 × A_W) :=
  (ob w t 4).bind fun o2 =>
  (F_M_isDeposit t x1 w).bind fun p1 =>
  if p1.1 = 0 then
    F_M_change_46 t p1.2
  else
    (F_M_in x2 0 5 p1.2).bind fun p4 =>
    if p4.1 = 0 then
      F_M_change_46 t p4.2
    else
      (F_M_mostOf x2 p4.2).bind fun p6 =>
      (F_M_in x3 0 p6.1 p6.2).bind fun p7 =>
      if p7.1 = 0 then
        F_M_change_46 t p7.2
      else
        (ob p7.2 t 4).bind fun o10 =>
        (F_M_becomes t ((11 + (6 * x1)) + x2) x3 p7.2).bind fun p9 =>
        F_M_change_52 p9.1 p9.2
set_option maxHeartbeats 4000000 in
set_option maxRecDepth 100000 in
theorem s_M_change_52 {G : Gx} {X : Cx} {res : Int32 × A_W} (K : Ok G X 4 c_M_change 4 (some .int) rm_M_change) (hQ : QQ G X (some (.int res.1)) res.2 0 0) (y0 : Int32) (w : A_W) (h : F_M_change_52 y0 w = some res) : Sm G X w 0 0 [none, none, none, none] [.int y0] 52 := by
  unfold F_M_change_52 at h
  obtain rfl := Option.some.inj h
  exact Sm_reti K hQ (eok_i (eo ek_M_change (i := 29) rfl) rfl)
set_option maxHeartbeats 4000000 in
set_option maxRecDepth 100000 in
theorem s_M_change_46 {G : Gx} {X : Cx} {res : Int32 × A_W} (K : Ok G X 4 c_M_change 4 (some .int) rm_M_change) (hQ : QQ G X (some (.int res.1)) res.2 0 0) (t : Nat) (w : A_W) (h : F_M_change_46 t w = some res) : Sm G X w 0 0 [some (.ref t), none, none, none] [] 46 := by
  unfold F_M_change_46 at h
  refine Sm_run K ek_M_change 26 2 rfl ?_
  obtain ⟨o2, e_o2, h⟩ := Option.bind_eq_some_iff.mp h
  obtain ⟨p1, e_p1, h⟩ := Option.bind_eq_some_iff.mp h
  refine Sm_callV K (eok_i (eo ek_M_change (i := 28) rfl) rfl) cy_M_finds im_M_finds se_M_finds (lgm 826 (by decide +kernel) rfl) ⟨Nat.le_of_ble_eq_true rfl, Nat.le_of_ble_eq_true rfl⟩ (as := [.int (-1000001)]) (b := t) (st := []) (ob_e e_o2) (by decide) rfl rfl rfl rfl (Nat.le_of_ble_eq_true rfl) ⟨Nat.le_of_ble_eq_true rfl, Nat.le_of_ble_eq_true rfl⟩ (cn_M_finds e_p1) ?_
  refine Sm_eq (st1 := .int p1.1 :: []) (nc1 := 0) (ns1 := 0) rfl rfl rfl ?_
  exact Sm_le (leR_n (leR_n (leR_n (leR_n leR_nil)))) (s_M_change_52 K hQ _ _ h)
set_option maxHeartbeats 4000000 in
set_option maxRecDepth 100000 in
theorem s_M_change_0 {G : Gx} {X : Cx} {res : Int32 × A_W} (K : Ok G X 4 c_M_change 4 (some .int) rm_M_change) (hQ : QQ G X (some (.int res.1)) res.2 0 0) (t : Nat) (x1 : Int32) (x2 : Int32) (x3 : Int32) (w : A_W) (h : F_M_change_0 t x1 x2 x3 w = some res) : Sm G X w 0 0 [some (.ref t), some (.int x1), some (.int x2), some (.int x3)] [] 0 := by
  unfold F_M_change_0 at h
  refine Sm_run K ek_M_change 0 2 rfl ?_
  obtain ⟨o2, e_o2, h⟩ := Option.bind_eq_some_iff.mp h
  obtain ⟨p1, e_p1, h⟩ := Option.bind_eq_some_iff.mp h
  refine Sm_callV K (eok_i (eo ek_M_change (i := 2) rfl) rfl) cy_M_isDeposit im_M_isDeposit se_M_isDeposit (lgm 863 (by decide +kernel) rfl) ⟨Nat.le_of_ble_eq_true rfl, Nat.le_of_ble_eq_true rfl⟩ (as := [.int x1]) (b := t) (st := []) (ob_e e_o2) (by decide) rfl rfl rfl rfl (Nat.le_of_ble_eq_true rfl) ⟨Nat.le_of_ble_eq_true rfl, Nat.le_of_ble_eq_true rfl⟩ (cn_M_isDeposit e_p1) ?_
  refine Sm_eq (st1 := .int p1.1 :: []) (nc1 := 0) (ns1 := 0) rfl rfl rfl ?_
  refine Sm_if_eq K (eo ek_M_change (i := 3) rfl) (fun c3 => ?_) (fun c3 => ?_)
  · rw [if_pos c3] at h
    exact Sm_le (leR_s (leR_n (leR_n (leR_n leR_nil)))) (s_M_change_46 K hQ _ _ h)
  · rw [if_neg c3] at h
    refine Sm_run K ek_M_change 4 3 rfl ?_
    obtain ⟨p4, e_p4, h⟩ := Option.bind_eq_some_iff.mp h
    refine Sm_callS K (eok_i (eo ek_M_change (i := 7) rfl) rfl) cy_M_in st_M_in (lgm 815 (by decide +kernel) rfl) ⟨Nat.le_of_ble_eq_true rfl, Nat.le_of_ble_eq_true rfl⟩ (as := [.int x2, .int 0, .int 5]) (st := []) rfl rfl rfl (Nat.le_of_ble_eq_true rfl) ⟨Nat.le_of_ble_eq_true rfl, Nat.le_of_ble_eq_true rfl⟩ (cn_M_in e_p4) ?_
    refine Sm_eq (st1 := .int p4.1 :: []) (nc1 := 0) (ns1 := 0) rfl rfl rfl ?_
    refine Sm_if_eq K (eo ek_M_change (i := 8) rfl) (fun c5 => ?_) (fun c5 => ?_)
    · rw [if_pos c5] at h
      exact Sm_le (leR_s (leR_n (leR_n (leR_n leR_nil)))) (s_M_change_46 K hQ _ _ h)
    · rw [if_neg c5] at h
      refine Sm_run K ek_M_change 9 3 rfl ?_
      obtain ⟨p6, e_p6, h⟩ := Option.bind_eq_some_iff.mp h
      refine Sm_callS K (eok_i (eo ek_M_change (i := 12) rfl) rfl) cy_M_mostOf st_M_mostOf (lgm 902 (by decide +kernel) rfl) ⟨Nat.le_of_ble_eq_true rfl, Nat.le_of_ble_eq_true rfl⟩ (as := [.int x2]) (st := [.int 0, .int x3]) rfl rfl rfl (Nat.le_of_ble_eq_true rfl) ⟨Nat.le_of_ble_eq_true rfl, Nat.le_of_ble_eq_true rfl⟩ (cn_M_mostOf e_p6) ?_
      refine Sm_eq (st1 := .int p6.1 :: [.int 0, .int x3]) (nc1 := 0) (ns1 := 0) rfl rfl rfl ?_
      obtain ⟨p7, e_p7, h⟩ := Option.bind_eq_some_iff.mp h
      refine Sm_callS K (eok_i (eo ek_M_change (i := 13) rfl) rfl) cy_M_in st_M_in (lgm 815 (by decide +kernel) rfl) ⟨Nat.le_of_ble_eq_true rfl, Nat.le_of_ble_eq_true rfl⟩ (as := [.int x3, .int 0, .int p6.1]) (st := []) rfl rfl rfl (Nat.le_of_ble_eq_true rfl) ⟨Nat.le_of_ble_eq_true rfl, Nat.le_of_ble_eq_true rfl⟩ (cn_M_in e_p7) ?_
      refine Sm_eq (st1 := .int p7.1 :: []) (nc1 := 0) (ns1 := 0) rfl rfl rfl ?_
      refine Sm_if_eq K (eo ek_M_change (i := 14) rfl) (fun c8 => ?_) (fun c8 => ?_)
      · rw [if_pos c8] at h
        exact Sm_le (leR_s (leR_n (leR_n (leR_n leR_nil)))) (s_M_change_46 K hQ _ _ h)
      · rw [if_neg c8] at h
        refine Sm_run K ek_M_change 15 9 rfl ?_
        obtain ⟨o10, e_o10, h⟩ := Option.bind_eq_some_iff.mp h
        obtain ⟨p9, e_p9, h⟩ := Option.bind_eq_some_iff.mp h
        refine Sm_callV K (eok_i (eo ek_M_change (i := 24) rfl) rfl) cy_M_becomes im_M_becomes se_M_becomes (lgm 821 (by decide +kernel) rfl) ⟨Nat.le_of_ble_eq_true rfl, Nat.le_of_ble_eq_true rfl⟩ (as := [.int ((11 + (6 * x1)) + x2), .int x3]) (b := t) (st := []) (ob_e e_o10) (by decide) rfl rfl rfl rfl (Nat.le_of_ble_eq_true rfl) ⟨Nat.le_of_ble_eq_true rfl, Nat.le_of_ble_eq_true rfl⟩ (cn_M_becomes e_p9) ?_
        refine Sm_eq (st1 := .int p9.1 :: []) (nc1 := 0) (ns1 := 0) rfl rfl rfl ?_
        refine Sm_run K ek_M_change 25 1 rfl ?_
        exact Sm_le (leR_n (leR_n (leR_n (leR_n leR_nil)))) (s_M_change_52 K hQ _ _ h)
def F_M_change (t : Nat) (x1 : Int32) (x2 : Int32) (x3 : Int32) (w : A_W) : Option (Int32 × A_W) := F_M_change_0 t x1 x2 x3 w
theorem cn_M_change {G : Gx} {t : Nat} {x1 : Int32} {x2 : Int32} {x3 : Int32} {w : A_W} {res : Int32 × A_W} (h : F_M_change t x1 x2 x3 w = some res) : Cn G y_M_change c_M_change 4 (some .int) rm_M_change [.ref t, .int x1, .int x2, .int x3] w (some (.int res.1)) res.2 :=
  Cn_of (own := 4) cy_M_change rfl rfl (Nat.le_of_ble_eq_true rfl) rfl (fun X K _ hQ => Sm_le (leR_s (leR_s (leR_s (leR_s leR_nil)))) (s_M_change_0 K hQ _ _ _ _ _ h))
/-! EveningCloakModel.ofGirl(II)I -/
abbrev c_M_ofGirl : ByteArray := prog_6_method_32_code
def y_M_ofGirl : MethodName := ⟨"EveningCloakModel", "ofGirl", "(II)I"⟩
def rm_M_ofGirl : Room := { frames := 2, cells := 0, slots := 0, locals := 43 }
theorem cy_M_ofGirl : Cy y_M_ofGirl c_M_ofGirl 3 (some .int) 2 := ⟨lgm 908 (by decide +kernel) rfl, lgm 73 (by decide +kernel) rfl, by decide +kernel, by decide +kernel⟩
theorem im_M_ofGirl : Cond.instanceMethod y_M_ofGirl ∈ lg := lgm 906 (by decide +kernel) rfl
theorem se_M_ofGirl : Cond.selects y_M_ofGirl.cls y_M_ofGirl y_M_ofGirl ∈ lg := lgm 907 (by decide +kernel) rfl
def e_M_ofGirl : List Ent := [
  (0, .aload_n 0, 1, 1, .null, 0, 0, 0),
  (1, .iload_n 1, 1, 2, .null, 0, 0, 0),
  (2, .invokevirtual 100, 3, 5, .null, 0, 0, 0),
  (5, .ifCond .eq 21, 3, 26, .null, 0, 0, 0),
  (8, .iload_n 2, 1, 9, .null, 0, 0, 0),
  (9, .iconst 0, 1, 10, .int 0, 0, 0, 0),
  (10, .iconst 2, 1, 11, .int 2, 0, 0, 0),
  (11, .invokestatic 40, 3, 14, .null, 0, 0, 0),
  (14, .ifCond .eq 12, 3, 26, .null, 0, 0, 0),
  (17, .aload_n 0, 1, 18, .null, 0, 0, 0),
  (18, .iload_n 1, 1, 19, .null, 0, 0, 0),
  (19, .iload_n 2, 1, 20, .null, 0, 0, 0),
  (20, .invokevirtual 103, 3, 23, .null, 0, 0, 0),
  (23, .goto 9, 3, 32, .null, 0, 0, 0),
  (26, .aload_n 0, 1, 27, .null, 0, 0, 0),
  (27, .ldc 34, 2, 29, .int (-1000001), 0, 0, 825),
  (29, .invokevirtual 36, 3, 32, .null, 0, 0, 0),
  (32, .ireturn, 1, 33, .null, 0, 0, 0)]
set_option maxRecDepth 100000 in
theorem ek_M_ofGirl : e_M_ofGirl.all (eok 4 c_M_ofGirl) = true := by decide +kernel
def F_M_ofGirl_32 (y0 : Int32) (w : A_W) : Option (Int32 × A_W) :=
  some (y0, w)
def F_M_ofGirl_26 (t : Nat) (w : A_W) : Option (Int32 × A_W) :=
  (ob w t 4).bind fun o2 =>
  (F_M_finds t (-1000001) w).bind fun p1 =>
  F_M_ofGirl_32 p1.1 p1.2
def F_M_ofGirl_0 (t : Nat) (x1 : Int32) (x2 : Int32) (w : A_W) : Option (Int32 × A_W) :=
  (ob w t 4).bind fun o2 =>
  (F_M_isGirl t x1 w).bind fun p1 =>
  if p1.1 = 0 then
    F_M_ofGirl_26 t p1.2
  else
    (F_M_in x2 0 2 p1.2).bind fun p4 =>
    if p4.1 = 0 then
      F_M_ofGirl_26 t p4.2
    else
      (ob p4.2 t 4).bind fun o7 =>
      (F_M_her t x1 x2 p4.2).bind fun p6 =>
      F_M_ofGirl_32 p6.1 p6.2
set_option maxHeartbeats 4000000 in
set_option maxRecDepth 100000 in
theorem s_M_ofGirl_32 {G : Gx} {X : Cx} {res : Int32 × A_W} (K : Ok G X 4 c_M_ofGirl 3 (some .int) rm_M_ofGirl) (hQ : QQ G X (some (.int res.1)) res.2 0 0) (y0 : Int32) (w : A_W) (h : F_M_ofGirl_32 y0 w = some res) : Sm G X w 0 0 [none, none, none] [.int y0] 32 := by
  unfold F_M_ofGirl_32 at h
  obtain rfl := Option.some.inj h
  exact Sm_reti K hQ (eok_i (eo ek_M_ofGirl (i := 17) rfl) rfl)
set_option maxHeartbeats 4000000 in
set_option maxRecDepth 100000 in
theorem s_M_ofGirl_26 {G : Gx} {X : Cx} {res : Int32 × A_W} (K : Ok G X 4 c_M_ofGirl 3 (some .int) rm_M_ofGirl) (hQ : QQ G X (some (.int res.1)) res.2 0 0) (t : Nat) (w : A_W) (h : F_M_ofGirl_26 t w = some res) : Sm G X w 0 0 [some (.ref t), none, none] [] 26 := by
  unfold F_M_ofGirl_26 at h
  refine Sm_run K ek_M_ofGirl 14 2 rfl ?_
  obtain ⟨o2, e_o2, h⟩ := Option.bind_eq_some_iff.mp h
  obtain ⟨p1, e_p1, h⟩ := Option.bind_eq_some_iff.mp h
  refine Sm_callV K (eok_i (eo ek_M_ofGirl (i := 16) rfl) rfl) cy_M_finds im_M_finds se_M_finds (lgm 826 (by decide +kernel) rfl) ⟨Nat.le_of_ble_eq_true rfl, Nat.le_of_ble_eq_true rfl⟩ (as := [.int (-1000001)]) (b := t) (st := []) (ob_e e_o2) (by decide) rfl rfl rfl rfl (Nat.le_of_ble_eq_true rfl) ⟨Nat.le_of_ble_eq_true rfl, Nat.le_of_ble_eq_true rfl⟩ (cn_M_finds e_p1) ?_
  refine Sm_eq (st1 := .int p1.1 :: []) (nc1 := 0) (ns1 := 0) rfl rfl rfl ?_
  exact Sm_le (leR_n (leR_n (leR_n leR_nil))) (s_M_ofGirl_32 K hQ _ _ h)
set_option maxHeartbeats 4000000 in
set_option maxRecDepth 100000 in
theorem s_M_ofGirl_0 {G : Gx} {X : Cx} {res : Int32 × A_W} (K : Ok G X 4 c_M_ofGirl 3 (some .int) rm_M_ofGirl) (hQ : QQ G X (some (.int res.1)) res.2 0 0) (t : Nat) (x1 : Int32) (x2 : Int32) (w : A_W) (h : F_M_ofGirl_0 t x1 x2 w = some res) : Sm G X w 0 0 [some (.ref t), some (.int x1), some (.int x2)] [] 0 := by
  unfold F_M_ofGirl_0 at h
  refine Sm_run K ek_M_ofGirl 0 2 rfl ?_
  obtain ⟨o2, e_o2, h⟩ := Option.bind_eq_some_iff.mp h
  obtain ⟨p1, e_p1, h⟩ := Option.bind_eq_some_iff.mp h
  refine Sm_callV K (eok_i (eo ek_M_ofGirl (i := 2) rfl) rfl) cy_M_isGirl im_M_isGirl se_M_isGirl (lgm 909 (by decide +kernel) rfl) ⟨Nat.le_of_ble_eq_true rfl, Nat.le_of_ble_eq_true rfl⟩ (as := [.int x1]) (b := t) (st := []) (ob_e e_o2) (by decide) rfl rfl rfl rfl (Nat.le_of_ble_eq_true rfl) ⟨Nat.le_of_ble_eq_true rfl, Nat.le_of_ble_eq_true rfl⟩ (cn_M_isGirl e_p1) ?_
  refine Sm_eq (st1 := .int p1.1 :: []) (nc1 := 0) (ns1 := 0) rfl rfl rfl ?_
  refine Sm_if_eq K (eo ek_M_ofGirl (i := 3) rfl) (fun c3 => ?_) (fun c3 => ?_)
  · rw [if_pos c3] at h
    exact Sm_le (leR_s (leR_n (leR_n leR_nil))) (s_M_ofGirl_26 K hQ _ _ h)
  · rw [if_neg c3] at h
    refine Sm_run K ek_M_ofGirl 4 3 rfl ?_
    obtain ⟨p4, e_p4, h⟩ := Option.bind_eq_some_iff.mp h
    refine Sm_callS K (eok_i (eo ek_M_ofGirl (i := 7) rfl) rfl) cy_M_in st_M_in (lgm 815 (by decide +kernel) rfl) ⟨Nat.le_of_ble_eq_true rfl, Nat.le_of_ble_eq_true rfl⟩ (as := [.int x2, .int 0, .int 2]) (st := []) rfl rfl rfl (Nat.le_of_ble_eq_true rfl) ⟨Nat.le_of_ble_eq_true rfl, Nat.le_of_ble_eq_true rfl⟩ (cn_M_in e_p4) ?_
    refine Sm_eq (st1 := .int p4.1 :: []) (nc1 := 0) (ns1 := 0) rfl rfl rfl ?_
    refine Sm_if_eq K (eo ek_M_ofGirl (i := 8) rfl) (fun c5 => ?_) (fun c5 => ?_)
    · rw [if_pos c5] at h
      exact Sm_le (leR_s (leR_n (leR_n leR_nil))) (s_M_ofGirl_26 K hQ _ _ h)
    · rw [if_neg c5] at h
      refine Sm_run K ek_M_ofGirl 9 3 rfl ?_
      obtain ⟨o7, e_o7, h⟩ := Option.bind_eq_some_iff.mp h
      obtain ⟨p6, e_p6, h⟩ := Option.bind_eq_some_iff.mp h
      refine Sm_callV K (eok_i (eo ek_M_ofGirl (i := 12) rfl) rfl) cy_M_her im_M_her se_M_her (lgm 913 (by decide +kernel) rfl) ⟨Nat.le_of_ble_eq_true rfl, Nat.le_of_ble_eq_true rfl⟩ (as := [.int x1, .int x2]) (b := t) (st := []) (ob_e e_o7) (by decide) rfl rfl rfl rfl (Nat.le_of_ble_eq_true rfl) ⟨Nat.le_of_ble_eq_true rfl, Nat.le_of_ble_eq_true rfl⟩ (cn_M_her e_p6) ?_
      refine Sm_eq (st1 := .int p6.1 :: []) (nc1 := 0) (ns1 := 0) rfl rfl rfl ?_
      refine Sm_run K ek_M_ofGirl 13 1 rfl ?_
      exact Sm_le (leR_n (leR_n (leR_n leR_nil))) (s_M_ofGirl_32 K hQ _ _ h)
def F_M_ofGirl (t : Nat) (x1 : Int32) (x2 : Int32) (w : A_W) : Option (Int32 × A_W) := F_M_ofGirl_0 t x1 x2 w
theorem cn_M_ofGirl {G : Gx} {t : Nat} {x1 : Int32} {x2 : Int32} {w : A_W} {res : Int32 × A_W} (h : F_M_ofGirl t x1 x2 w = some res) : Cn G y_M_ofGirl c_M_ofGirl 3 (some .int) rm_M_ofGirl [.ref t, .int x1, .int x2] w (some (.int res.1)) res.2 :=
  Cn_of (own := 4) cy_M_ofGirl rfl rfl (Nat.le_of_ble_eq_true rfl) rfl (fun X K _ hQ => Sm_le (leR_s (leR_s (leR_s leR_nil))) (s_M_ofGirl_0 K hQ _ _ _ _ h))
/-! EveningCloakModel.wake(III)I -/
abbrev c_M_wake : ByteArray := prog_6_method_33_code
def y_M_wake : MethodName := ⟨"EveningCloakModel", "wake", "(III)I"⟩
def rm_M_wake : Room := { frames := 2, cells := 0, slots := 0, locals := 43 }
theorem cy_M_wake : Cy y_M_wake c_M_wake 5 (some .int) 3 := ⟨lgm 920 (by decide +kernel) rfl, lgm 73 (by decide +kernel) rfl, by decide +kernel, by decide +kernel⟩
theorem im_M_wake : Cond.instanceMethod y_M_wake ∈ lg := lgm 918 (by decide +kernel) rfl
theorem se_M_wake : Cond.selects y_M_wake.cls y_M_wake y_M_wake ∈ lg := lgm 919 (by decide +kernel) rfl
def e_M_wake : List Ent := [
  (0, .aload_n 0, 1, 1, .null, 0, 0, 0),
  (1, .iload_n 1, 1, 2, .null, 0, 0, 0),
  (2, .invokevirtual 100, 3, 5, .null, 0, 0, 0),
  (5, .ifCond .eq 46, 3, 51, .null, 0, 0, 0),
  (8, .iload_n 2, 1, 9, .null, 0, 0, 0),
  (9, .iconst 0, 1, 10, .int 0, 0, 0, 0),
  (10, .iconst 2, 1, 11, .int 2, 0, 0, 0),
  (11, .invokestatic 40, 3, 14, .null, 0, 0, 0),
  (14, .ifCond .eq 37, 3, 51, .null, 0, 0, 0),
  (17, .iload_n 3, 1, 18, .null, 0, 0, 0),
  (18, .iload_n 2, 1, 19, .null, 0, 0, 0),
  (19, .iconst 1, 1, 20, .int 1, 0, 0, 0),
  (20, .if_icmp .ne 7, 3, 27, .null, 0, 0, 0),
  (23, .iconst 1, 1, 24, .int 1, 0, 0, 0),
  (24, .goto 4, 3, 28, .null, 0, 0, 0),
  (27, .iconst 0, 1, 28, .int 0, 0, 0, 0),
  (28, .iload_n 2, 1, 29, .null, 0, 0, 0),
  (29, .iconst 2, 1, 30, .int 2, 0, 0, 0),
  (30, .if_icmp .ne 9, 3, 39, .null, 0, 0, 0),
  (33, .sipush 9999, 3, 36, .int 9999, 0, 0, 0),
  (36, .goto 5, 3, 41, .null, 0, 0, 0),
  (39, .bipush 99, 2, 41, .int 99, 0, 0, 0),
  (41, .invokestatic 40, 3, 44, .null, 0, 0, 0),
  (44, .ifCond .eq 7, 3, 51, .null, 0, 0, 0),
  (47, .iconst 1, 1, 48, .int 1, 0, 0, 0),
  (48, .goto 4, 3, 52, .null, 0, 0, 0),
  (51, .iconst 0, 1, 52, .int 0, 0, 0, 0),
  (52, .istore 4, 2, 54, .null, 0, 0, 0),
  (54, .iload 4, 2, 56, .null, 0, 0, 0),
  (56, .ifCond .eq 19, 3, 75, .null, 0, 0, 0),
  (59, .aload_n 0, 1, 60, .null, 0, 0, 0),
  (60, .bipush 59, 2, 62, .int 59, 0, 0, 0),
  (62, .iconst 3, 1, 63, .int 3, 0, 0, 0),
  (63, .iload_n 1, 1, 64, .null, 0, 0, 0),
  (64, .imul, 1, 65, .null, 0, 0, 0),
  (65, .iadd, 1, 66, .null, 0, 0, 0),
  (66, .iload_n 2, 1, 67, .null, 0, 0, 0),
  (67, .iadd, 1, 68, .null, 0, 0, 0),
  (68, .iload_n 3, 1, 69, .null, 0, 0, 0),
  (69, .invokevirtual 71, 3, 72, .null, 0, 0, 0),
  (72, .goto 9, 3, 81, .null, 0, 0, 0),
  (75, .aload_n 0, 1, 76, .null, 0, 0, 0),
  (76, .ldc 34, 2, 78, .int (-1000001), 0, 0, 825),
  (78, .invokevirtual 36, 3, 81, .null, 0, 0, 0),
  (81, .ireturn, 1, 82, .null, 0, 0, 0)]
set_option maxRecDepth 100000 in
theorem ek_M_wake : e_M_wake.all (eok 4 c_M_wake) = true := by decide +kernel
def F_M_wake_81 (y0 : Int32) (w : A_W) : Option (Int32 × A_W) :=
  some (y0, w)
def F_M_wake_52 (t : Nat) (x1 : Int32) (x2 : Int32) (x3 : Int32) (y0 : Int32) (w : A_W) : Option (Int32 × A_W) :=
  if y0 = 0 then
    (ob w t 4).bind fun o3 =>
    (F_M_finds t (-1000001) w).bind fun p2 =>
    F_M_wake_81 p2.1 p2.2
  else
    (ob w t 4).bind fun o5 =>
    (F_M_becomes t ((59 + (3 * x1)) + x2) x3 w).bind fun p4 =>
    F_M_wake_81 p4.1 p4.2
def F_M_wake_51 (t : Nat) (x1 : Int32) (x2 : Int32) (x3 : Int32) (w : A_W) : Option (Int32 × A_W) :=
  F_M_wake_52 t x1 x2 x3 0 w
def F_M_wake_41 (t : Nat) (x1 : Int32) (x2 : Int32) (x3 : Int32) (y0 : Int32) (y1 : Int32) (y2 : Int32) (w : A_W) : Option (Int32 × A_W) :=
  (F_M_in y0 y1 y2 w).bind fun p1 =>
  if p1.1 = 0 then
    F_M_wake_51 t x1 x2 x3 p1.2
  else
    F_M_wake_52 t x1 x2 x3 1 p1.2
def F_M_wake_28 (t : Nat) (x1 : Int32) (x2 : Int32) (x3 : Int32) (y0 : Int32) (y1 : Int32) (w : A_W) : Option (Int32 × A_W) :=
  if x2 = 2 then
    F_M_wake_41 t x1 x2 x3 y0 y1 9999 w
  else
    F_M_wake_41 t x1 x2 x3 y0 y1 99 w
def F_M_wake_0 (t : Nat) (x1 : Int32) (x2 : Int32) (x3 : Int32) (w : A_W) : Option (Int32 × A_W) :=
  (ob w t 4).bind fun o2 =>
  (F_M_isGirl t x1 w).bind fun p1 =>
  if p1.1 = 0 then
    F_M_wake_51 t x1 x2 x3 p1.2
  else
    (F_M_in x2 0 2 p1.2).bind fun p4 =>
    if p4.1 = 0 then
      F_M_wake_51 t x1 x2 x3 p4.2
    else
      if x2 = 1 then
        F_M_wake_28 t x1 x2 x3 x3 1 p4.2
      else
        F_M_wake_28 t x1 x2 x3 x3 0 p4.2
set_option maxHeartbeats 4000000 in
set_option maxRecDepth 100000 in
theorem s_M_wake_81 {G : Gx} {X : Cx} {res : Int32 × A_W} (K : Ok G X 4 c_M_wake 5 (some .int) rm_M_wake) (hQ : QQ G X (some (.int res.1)) res.2 0 0) (y0 : Int32) (w : A_W) (h : F_M_wake_81 y0 w = some res) : Sm G X w 0 0 [none, none, none, none, none] [.int y0] 81 := by
  unfold F_M_wake_81 at h
  obtain rfl := Option.some.inj h
  exact Sm_reti K hQ (eok_i (eo ek_M_wake (i := 44) rfl) rfl)
set_option maxHeartbeats 4000000 in
set_option maxRecDepth 100000 in
theorem s_M_wake_52 {G : Gx} {X : Cx} {res : Int32 × A_W} (K : Ok G X 4 c_M_wake 5 (some .int) rm_M_wake) (hQ : QQ G X (some (.int res.1)) res.2 0 0) (t : Nat) (x1 : Int32) (x2 : Int32) (x3 : Int32) (y0 : Int32) (w : A_W) (h : F_M_wake_52 t x1 x2 x3 y0 w = some res) : Sm G X w 0 0 [some (.ref t), some (.int x1), some (.int x2), some (.int x3), none] [.int y0] 52 := by
  unfold F_M_wake_52 at h
  refine Sm_run K ek_M_wake 27 2 rfl ?_
  refine Sm_if_eq K (eo ek_M_wake (i := 29) rfl) (fun c1 => ?_) (fun c1 => ?_)
  · rw [if_pos c1] at h
    refine Sm_run K ek_M_wake 41 2 rfl ?_
    obtain ⟨o3, e_o3, h⟩ := Option.bind_eq_some_iff.mp h
    obtain ⟨p2, e_p2, h⟩ := Option.bind_eq_some_iff.mp h
    refine Sm_callV K (eok_i (eo ek_M_wake (i := 43) rfl) rfl) cy_M_finds im_M_finds se_M_finds (lgm 826 (by decide +kernel) rfl) ⟨Nat.le_of_ble_eq_true rfl, Nat.le_of_ble_eq_true rfl⟩ (as := [.int (-1000001)]) (b := t) (st := []) (ob_e e_o3) (by decide) rfl rfl rfl rfl (Nat.le_of_ble_eq_true rfl) ⟨Nat.le_of_ble_eq_true rfl, Nat.le_of_ble_eq_true rfl⟩ (cn_M_finds e_p2) ?_
    refine Sm_eq (st1 := .int p2.1 :: []) (nc1 := 0) (ns1 := 0) rfl rfl rfl ?_
    exact Sm_le (leR_n (leR_n (leR_n (leR_n (leR_n leR_nil))))) (s_M_wake_81 K hQ _ _ h)
  · rw [if_neg c1] at h
    refine Sm_run K ek_M_wake 30 9 rfl ?_
    obtain ⟨o5, e_o5, h⟩ := Option.bind_eq_some_iff.mp h
    obtain ⟨p4, e_p4, h⟩ := Option.bind_eq_some_iff.mp h
    refine Sm_callV K (eok_i (eo ek_M_wake (i := 39) rfl) rfl) cy_M_becomes im_M_becomes se_M_becomes (lgm 821 (by decide +kernel) rfl) ⟨Nat.le_of_ble_eq_true rfl, Nat.le_of_ble_eq_true rfl⟩ (as := [.int ((59 + (3 * x1)) + x2), .int x3]) (b := t) (st := []) (ob_e e_o5) (by decide) rfl rfl rfl rfl (Nat.le_of_ble_eq_true rfl) ⟨Nat.le_of_ble_eq_true rfl, Nat.le_of_ble_eq_true rfl⟩ (cn_M_becomes e_p4) ?_
    refine Sm_eq (st1 := .int p4.1 :: []) (nc1 := 0) (ns1 := 0) rfl rfl rfl ?_
    refine Sm_run K ek_M_wake 40 1 rfl ?_
    exact Sm_le (leR_n (leR_n (leR_n (leR_n (leR_n leR_nil))))) (s_M_wake_81 K hQ _ _ h)
set_option maxHeartbeats 4000000 in
set_option maxRecDepth 100000 in
theorem s_M_wake_51 {G : Gx} {X : Cx} {res : Int32 × A_W} (K : Ok G X 4 c_M_wake 5 (some .int) rm_M_wake) (hQ : QQ G X (some (.int res.1)) res.2 0 0) (t : Nat) (x1 : Int32) (x2 : Int32) (x3 : Int32) (w : A_W) (h : F_M_wake_51 t x1 x2 x3 w = some res) : Sm G X w 0 0 [some (.ref t), some (.int x1), some (.int x2), some (.int x3), none] [] 51 := by
  unfold F_M_wake_51 at h
  refine Sm_run K ek_M_wake 26 1 rfl ?_
  exact Sm_le (leR_s (leR_s (leR_s (leR_s (leR_n leR_nil))))) (s_M_wake_52 K hQ _ _ _ _ _ _ h)
set_option maxHeartbeats 4000000 in
set_option maxRecDepth 100000 in
theorem s_M_wake_41 {G : Gx} {X : Cx} {res : Int32 × A_W} (K : Ok G X 4 c_M_wake 5 (some .int) rm_M_wake) (hQ : QQ G X (some (.int res.1)) res.2 0 0) (t : Nat) (x1 : Int32) (x2 : Int32) (x3 : Int32) (y0 : Int32) (y1 : Int32) (y2 : Int32) (w : A_W) (h : F_M_wake_41 t x1 x2 x3 y0 y1 y2 w = some res) : Sm G X w 0 0 [some (.ref t), some (.int x1), some (.int x2), some (.int x3), none] [.int y2, .int y1, .int y0] 41 := by
  unfold F_M_wake_41 at h
  obtain ⟨p1, e_p1, h⟩ := Option.bind_eq_some_iff.mp h
  refine Sm_callS K (eok_i (eo ek_M_wake (i := 22) rfl) rfl) cy_M_in st_M_in (lgm 815 (by decide +kernel) rfl) ⟨Nat.le_of_ble_eq_true rfl, Nat.le_of_ble_eq_true rfl⟩ (as := [.int y0, .int y1, .int y2]) (st := []) rfl rfl rfl (Nat.le_of_ble_eq_true rfl) ⟨Nat.le_of_ble_eq_true rfl, Nat.le_of_ble_eq_true rfl⟩ (cn_M_in e_p1) ?_
  refine Sm_eq (st1 := .int p1.1 :: []) (nc1 := 0) (ns1 := 0) rfl rfl rfl ?_
  refine Sm_if_eq K (eo ek_M_wake (i := 23) rfl) (fun c2 => ?_) (fun c2 => ?_)
  · rw [if_pos c2] at h
    exact Sm_le (leR_s (leR_s (leR_s (leR_s (leR_n leR_nil))))) (s_M_wake_51 K hQ _ _ _ _ _ h)
  · rw [if_neg c2] at h
    refine Sm_run K ek_M_wake 24 2 rfl ?_
    exact Sm_le (leR_s (leR_s (leR_s (leR_s (leR_n leR_nil))))) (s_M_wake_52 K hQ _ _ _ _ _ _ h)
set_option maxHeartbeats 4000000 in
set_option maxRecDepth 100000 in
theorem s_M_wake_28 {G : Gx} {X : Cx} {res : Int32 × A_W} (K : Ok G X 4 c_M_wake 5 (some .int) rm_M_wake) (hQ : QQ G X (some (.int res.1)) res.2 0 0) (t : Nat) (x1 : Int32) (x2 : Int32) (x3 : Int32) (y0 : Int32) (y1 : Int32) (w : A_W) (h : F_M_wake_28 t x1 x2 x3 y0 y1 w = some res) : Sm G X w 0 0 [some (.ref t), some (.int x1), some (.int x2), some (.int x3), none] [.int y1, .int y0] 28 := by
  unfold F_M_wake_28 at h
  refine Sm_run K ek_M_wake 16 2 rfl ?_
  refine Sm_ic_ne K (eo ek_M_wake (i := 18) rfl) (fun c1 => ?_) (fun c1 => ?_)
  · rw [if_neg c1] at h
    refine Sm_run K ek_M_wake 21 1 rfl ?_
    exact Sm_le (leR_s (leR_s (leR_s (leR_s (leR_n leR_nil))))) (s_M_wake_41 K hQ _ _ _ _ _ _ _ _ h)
  · rw [if_pos c1] at h
    refine Sm_run K ek_M_wake 19 2 rfl ?_
    exact Sm_le (leR_s (leR_s (leR_s (leR_s (leR_n leR_nil))))) (s_M_wake_41 K hQ _ _ _ _ _ _ _ _ h)
set_option maxHeartbeats 4000000 in
set_option maxRecDepth 100000 in
theorem s_M_wake_0 {G : Gx} {X : Cx} {res : Int32 × A_W} (K : Ok G X 4 c_M_wake 5 (some .int) rm_M_wake) (hQ : QQ G X (some (.int res.1)) res.2 0 0) (t : Nat) (x1 : Int32) (x2 : Int32) (x3 : Int32) (w : A_W) (h : F_M_wake_0 t x1 x2 x3 w = some res) : Sm G X w 0 0 [some (.ref t), some (.int x1), some (.int x2), some (.int x3), none] [] 0 := by
  unfold F_M_wake_0 at h
  refine Sm_run K ek_M_wake 0 2 rfl ?_
  obtain ⟨o2, e_o2, h⟩ := Option.bind_eq_some_iff.mp h
  obtain ⟨p1, e_p1, h⟩ := Option.bind_eq_some_iff.mp h
  refine Sm_callV K (eok_i (eo ek_M_wake (i := 2) rfl) rfl) cy_M_isGirl im_M_isGirl se_M_isGirl (lgm 909 (by decide +kernel) rfl) ⟨Nat.le_of_ble_eq_true rfl, Nat.le_of_ble_eq_true rfl⟩ (as := [.int x1]) (b := t) (st := []) (ob_e e_o2) (by decide) rfl rfl rfl rfl (Nat.le_of_ble_eq_true rfl) ⟨Nat.le_of_ble_eq_true rfl, Nat.le_of_ble_eq_true rfl⟩ (cn_M_isGirl e_p1) ?_
  refine Sm_eq (st1 := .int p1.1 :: []) (nc1 := 0) (ns1 := 0) rfl rfl rfl ?_
  refine Sm_if_eq K (eo ek_M_wake (i := 3) rfl) (fun c3 => ?_) (fun c3 => ?_)
  · rw [if_pos c3] at h
    exact Sm_le (leR_s (leR_s (leR_s (leR_s (leR_n leR_nil))))) (s_M_wake_51 K hQ _ _ _ _ _ h)
  · rw [if_neg c3] at h
    refine Sm_run K ek_M_wake 4 3 rfl ?_
    obtain ⟨p4, e_p4, h⟩ := Option.bind_eq_some_iff.mp h
    refine Sm_callS K (eok_i (eo ek_M_wake (i := 7) rfl) rfl) cy_M_in st_M_in (lgm 815 (by decide +kernel) rfl) ⟨Nat.le_of_ble_eq_true rfl, Nat.le_of_ble_eq_true rfl⟩ (as := [.int x2, .int 0, .int 2]) (st := []) rfl rfl rfl (Nat.le_of_ble_eq_true rfl) ⟨Nat.le_of_ble_eq_true rfl, Nat.le_of_ble_eq_true rfl⟩ (cn_M_in e_p4) ?_
    refine Sm_eq (st1 := .int p4.1 :: []) (nc1 := 0) (ns1 := 0) rfl rfl rfl ?_
    refine Sm_if_eq K (eo ek_M_wake (i := 8) rfl) (fun c5 => ?_) (fun c5 => ?_)
    · rw [if_pos c5] at h
      exact Sm_le (leR_s (leR_s (leR_s (leR_s (leR_n leR_nil))))) (s_M_wake_51 K hQ _ _ _ _ _ h)
    · rw [if_neg c5] at h
      refine Sm_run K ek_M_wake 9 3 rfl ?_
      refine Sm_ic_ne K (eo ek_M_wake (i := 12) rfl) (fun c6 => ?_) (fun c6 => ?_)
      · rw [if_neg c6] at h
        refine Sm_run K ek_M_wake 15 1 rfl ?_
        exact Sm_le (leR_s (leR_s (leR_s (leR_s (leR_n leR_nil))))) (s_M_wake_28 K hQ _ _ _ _ _ _ _ h)
      · rw [if_pos c6] at h
        refine Sm_run K ek_M_wake 13 2 rfl ?_
        exact Sm_le (leR_s (leR_s (leR_s (leR_s (leR_n leR_nil))))) (s_M_wake_28 K hQ _ _ _ _ _ _ _ h)
def F_M_wake (t : Nat) (x1 : Int32) (x2 : Int32) (x3 : Int32) (w : A_W) : Option (Int32 × A_W) := F_M_wake_0 t x1 x2 x3 w
theorem cn_M_wake {G : Gx} {t : Nat} {x1 : Int32} {x2 : Int32} {x3 : Int32} {w : A_W} {res : Int32 × A_W} (h : F_M_wake t x1 x2 x3 w = some res) : Cn G y_M_wake c_M_wake 5 (some .int) rm_M_wake [.ref t, .int x1, .int x2, .int x3] w (some (.int res.1)) res.2 :=
  Cn_of (own := 4) cy_M_wake rfl rfl (Nat.le_of_ble_eq_true rfl) rfl (fun X K _ hQ => Sm_le (leR_s (leR_s (leR_s (leR_s (leR_n leR_nil))))) (s_M_wake_0 K hQ _ _ _ _ _ h))
/-! EveningCloakModel.light(I)I -/
abbrev c_M_light : ByteArray := prog_6_method_34_code
def y_M_light : MethodName := ⟨"EveningCloakModel", "light", "(I)I"⟩
def rm_M_light : Room := { frames := 3, cells := 0, slots := 0, locals := 69 }
theorem cy_M_light : Cy y_M_light c_M_light 2 (some .int) 1 := ⟨lgm 924 (by decide +kernel) rfl, lgm 73 (by decide +kernel) rfl, by decide +kernel, by decide +kernel⟩
theorem im_M_light : Cond.instanceMethod y_M_light ∈ lg := lgm 922 (by decide +kernel) rfl
theorem se_M_light : Cond.selects y_M_light.cls y_M_light y_M_light ∈ lg := lgm 923 (by decide +kernel) rfl
def e_M_light : List Ent := [
  (0, .iload_n 1, 1, 1, .null, 0, 0, 0),
  (1, .invokestatic 68, 3, 4, .null, 0, 0, 0),
  (4, .ifCond .eq 11, 3, 15, .null, 0, 0, 0),
  (7, .aload_n 0, 1, 8, .null, 0, 0, 0),
  (8, .iload_n 1, 1, 9, .null, 0, 0, 0),
  (9, .invokevirtual 62, 3, 12, .null, 0, 0, 0),
  (12, .goto 9, 3, 21, .null, 0, 0, 0),
  (15, .aload_n 0, 1, 16, .null, 0, 0, 0),
  (16, .ldc 34, 2, 18, .int (-1000001), 0, 0, 825),
  (18, .invokevirtual 36, 3, 21, .null, 0, 0, 0),
  (21, .ireturn, 1, 22, .null, 0, 0, 0)]
set_option maxRecDepth 100000 in
theorem ek_M_light : e_M_light.all (eok 4 c_M_light) = true := by decide +kernel
def F_M_light_21 (y0 : Int32) (w : A_W) : Option (Int32 × A_W) :=
  some (y0, w)
def F_M_light_0 (t : Nat) (x1 : Int32) (w : A_W) : Option (Int32 × A_W) :=
  (F_M_isHanger x1 w).bind fun p1 =>
  if p1.1 = 0 then
    (ob p1.2 t 4).bind fun o4 =>
    (F_M_finds t (-1000001) p1.2).bind fun p3 =>
    F_M_light_21 p3.1 p3.2
  else
    (ob p1.2 t 4).bind fun o6 =>
    (F_M_lightAt t x1 p1.2).bind fun p5 =>
    F_M_light_21 p5.1 p5.2
set_option maxHeartbeats 4000000 in
set_option maxRecDepth 100000 in
theorem s_M_light_21 {G : Gx} {X : Cx} {res : Int32 × A_W} (K : Ok G X 4 c_M_light 2 (some .int) rm_M_light) (hQ : QQ G X (some (.int res.1)) res.2 0 0) (y0 : Int32) (w : A_W) (h : F_M_light_21 y0 w = some res) : Sm G X w 0 0 [none, none] [.int y0] 21 := by
  unfold F_M_light_21 at h
  obtain rfl := Option.some.inj h
  exact Sm_reti K hQ (eok_i (eo ek_M_light (i := 10) rfl) rfl)
set_option maxHeartbeats 4000000 in
set_option maxRecDepth 100000 in
theorem s_M_light_0 {G : Gx} {X : Cx} {res : Int32 × A_W} (K : Ok G X 4 c_M_light 2 (some .int) rm_M_light) (hQ : QQ G X (some (.int res.1)) res.2 0 0) (t : Nat) (x1 : Int32) (w : A_W) (h : F_M_light_0 t x1 w = some res) : Sm G X w 0 0 [some (.ref t), some (.int x1)] [] 0 := by
  unfold F_M_light_0 at h
  refine Sm_run K ek_M_light 0 1 rfl ?_
  obtain ⟨p1, e_p1, h⟩ := Option.bind_eq_some_iff.mp h
  refine Sm_callS K (eok_i (eo ek_M_light (i := 1) rfl) rfl) cy_M_isHanger st_M_isHanger (lgm 818 (by decide +kernel) rfl) ⟨Nat.le_of_ble_eq_true rfl, Nat.le_of_ble_eq_true rfl⟩ (as := [.int x1]) (st := []) rfl rfl rfl (Nat.le_of_ble_eq_true rfl) ⟨Nat.le_of_ble_eq_true rfl, Nat.le_of_ble_eq_true rfl⟩ (cn_M_isHanger e_p1) ?_
  refine Sm_eq (st1 := .int p1.1 :: []) (nc1 := 0) (ns1 := 0) rfl rfl rfl ?_
  refine Sm_if_eq K (eo ek_M_light (i := 2) rfl) (fun c2 => ?_) (fun c2 => ?_)
  · rw [if_pos c2] at h
    refine Sm_run K ek_M_light 7 2 rfl ?_
    obtain ⟨o4, e_o4, h⟩ := Option.bind_eq_some_iff.mp h
    obtain ⟨p3, e_p3, h⟩ := Option.bind_eq_some_iff.mp h
    refine Sm_callV K (eok_i (eo ek_M_light (i := 9) rfl) rfl) cy_M_finds im_M_finds se_M_finds (lgm 826 (by decide +kernel) rfl) ⟨Nat.le_of_ble_eq_true rfl, Nat.le_of_ble_eq_true rfl⟩ (as := [.int (-1000001)]) (b := t) (st := []) (ob_e e_o4) (by decide) rfl rfl rfl rfl (Nat.le_of_ble_eq_true rfl) ⟨Nat.le_of_ble_eq_true rfl, Nat.le_of_ble_eq_true rfl⟩ (cn_M_finds e_p3) ?_
    refine Sm_eq (st1 := .int p3.1 :: []) (nc1 := 0) (ns1 := 0) rfl rfl rfl ?_
    exact Sm_le (leR_n (leR_n leR_nil)) (s_M_light_21 K hQ _ _ h)
  · rw [if_neg c2] at h
    refine Sm_run K ek_M_light 3 2 rfl ?_
    obtain ⟨o6, e_o6, h⟩ := Option.bind_eq_some_iff.mp h
    obtain ⟨p5, e_p5, h⟩ := Option.bind_eq_some_iff.mp h
    refine Sm_callV K (eok_i (eo ek_M_light (i := 5) rfl) rfl) cy_M_lightAt im_M_lightAt se_M_lightAt (lgm 886 (by decide +kernel) rfl) ⟨Nat.le_of_ble_eq_true rfl, Nat.le_of_ble_eq_true rfl⟩ (as := [.int x1]) (b := t) (st := []) (ob_e e_o6) (by decide) rfl rfl rfl rfl (Nat.le_of_ble_eq_true rfl) ⟨Nat.le_of_ble_eq_true rfl, Nat.le_of_ble_eq_true rfl⟩ (cn_M_lightAt e_p5) ?_
    refine Sm_eq (st1 := .int p5.1 :: []) (nc1 := 0) (ns1 := 0) rfl rfl rfl ?_
    refine Sm_run K ek_M_light 6 1 rfl ?_
    exact Sm_le (leR_n (leR_n leR_nil)) (s_M_light_21 K hQ _ _ h)
def F_M_light (t : Nat) (x1 : Int32) (w : A_W) : Option (Int32 × A_W) := F_M_light_0 t x1 w
theorem cn_M_light {G : Gx} {t : Nat} {x1 : Int32} {w : A_W} {res : Int32 × A_W} (h : F_M_light t x1 w = some res) : Cn G y_M_light c_M_light 2 (some .int) rm_M_light [.ref t, .int x1] w (some (.int res.1)) res.2 :=
  Cn_of (own := 4) cy_M_light rfl rfl (Nat.le_of_ble_eq_true rfl) rfl (fun X K _ hQ => Sm_le (leR_s (leR_s leR_nil)) (s_M_light_0 K hQ _ _ _ h))
/-! EveningCloakModel.call(I)I -/
abbrev c_M_call : ByteArray := prog_6_method_35_code
def y_M_call : MethodName := ⟨"EveningCloakModel", "call", "(I)I"⟩
def rm_M_call : Room := { frames := 2, cells := 0, slots := 0, locals := 43 }
theorem cy_M_call : Cy y_M_call c_M_call 4 (some .int) 1 := ⟨lgm 928 (by decide +kernel) rfl, lgm 73 (by decide +kernel) rfl, by decide +kernel, by decide +kernel⟩
theorem im_M_call : Cond.instanceMethod y_M_call ∈ lg := lgm 926 (by decide +kernel) rfl
theorem se_M_call : Cond.selects y_M_call.cls y_M_call y_M_call ∈ lg := lgm 927 (by decide +kernel) rfl
def e_M_call : List Ent := [
  (0, .iload_n 1, 1, 1, .null, 0, 0, 0),
  (1, .iconst 0, 1, 2, .int 0, 0, 0, 0),
  (2, .bipush 99, 2, 4, .int 99, 0, 0, 0),
  (4, .invokestatic 40, 3, 7, .null, 0, 0, 0),
  (7, .ifCond .ne 10, 3, 17, .null, 0, 0, 0),
  (10, .aload_n 0, 1, 11, .null, 0, 0, 0),
  (11, .ldc 34, 2, 13, .int (-1000001), 0, 0, 825),
  (13, .invokevirtual 36, 3, 16, .null, 0, 0, 0),
  (16, .ireturn, 1, 17, .null, 0, 0, 0),
  (17, .iconst (-1), 1, 18, .int (-1), 0, 0, 0),
  (18, .istore_n 2, 1, 19, .null, 0, 0, 0),
  (19, .aload_n 0, 1, 20, .null, 0, 0, 0),
  (20, .getfield 9, 3, 23, .null, 4, 0, 762),
  (23, .iconst 3, 1, 24, .int 3, 0, 0, 0),
  (24, .iaload, 1, 25, .null, 0, 0, 0),
  (25, .iconst 1, 1, 26, .int 1, 0, 0, 0),
  (26, .isub, 1, 27, .null, 0, 0, 0),
  (27, .istore_n 3, 1, 28, .null, 0, 0, 0),
  (28, .iload_n 3, 1, 29, .null, 0, 0, 0),
  (29, .ifCond .lt 33, 3, 62, .null, 0, 0, 0),
  (32, .aload_n 0, 1, 33, .null, 0, 0, 0),
  (33, .iload_n 3, 1, 34, .null, 0, 0, 0),
  (34, .invokevirtual 55, 3, 37, .null, 0, 0, 0),
  (37, .ifCond .eq 17, 3, 54, .null, 0, 0, 0),
  (40, .aload_n 0, 1, 41, .null, 0, 0, 0),
  (41, .iload_n 3, 1, 42, .null, 0, 0, 0),
  (42, .iconst 2, 1, 43, .int 2, 0, 0, 0),
  (43, .invokevirtual 44, 3, 46, .null, 0, 0, 0),
  (46, .iload_n 1, 1, 47, .null, 0, 0, 0),
  (47, .if_icmp .ne 7, 3, 54, .null, 0, 0, 0),
  (50, .iload_n 3, 1, 51, .null, 0, 0, 0),
  (51, .goto 4, 3, 55, .null, 0, 0, 0),
  (54, .iload_n 2, 1, 55, .null, 0, 0, 0),
  (55, .istore_n 2, 1, 56, .null, 0, 0, 0),
  (56, .iinc 3 (-1), 3, 59, .int (-1), 0, 0, 0),
  (59, .goto (-31), 3, 28, .null, 0, 0, 0),
  (62, .iload_n 2, 1, 63, .null, 0, 0, 0),
  (63, .ifCond .lt 10, 3, 73, .null, 0, 0, 0),
  (66, .aload_n 0, 1, 67, .null, 0, 0, 0),
  (67, .iload_n 2, 1, 68, .null, 0, 0, 0),
  (68, .iconst 5, 1, 69, .int 5, 0, 0, 0),
  (69, .iconst 1, 1, 70, .int 1, 0, 0, 0),
  (70, .invokevirtual 74, 3, 73, .null, 0, 0, 0),
  (73, .aload_n 0, 1, 74, .null, 0, 0, 0),
  (74, .iload_n 2, 1, 75, .null, 0, 0, 0),
  (75, .invokevirtual 106, 3, 78, .null, 0, 0, 0),
  (78, .ireturn, 1, 79, .null, 0, 0, 0)]
set_option maxRecDepth 100000 in
theorem ek_M_call : e_M_call.all (eok 4 c_M_call) = true := by decide +kernel
def F_M_call_55 (k28 : Nat → Int32 → Int32 → Int32 → A_W → Option (Int32 × A_W)) (t : Nat) (x1 : Int32) (x3 : Int32) (y0 : Int32) (w : A_W) : Option (Int32 × A_W) :=
  k28 t x1 y0 (x3 + (-1)) w
def F_M_call_54 (k28 : Nat → Int32 → Int32 → Int32 → A_W → Option (Int32 × A_W)) (t : Nat) (x1 : Int32) (x2 : Int32) (x3 : Int32) (w : A_W) : Option (Int32 × A_W) :=
  F_M_call_55 k28 t x1 x3 x2 w
def F_M_call_73 (t : Nat) (x2 : Int32) (w : A_W) : Option (Int32 × A_W) :=
  (ob w t 4).bind fun o2 =>
  (F_M_orNone t x2 w).bind fun p1 =>
  some (p1.1, p1.2)
def F_M_call_28 : Nat → Nat → Int32 → Int32 → Int32 → A_W → Option (Int32 × A_W)
  | 0, _, _, _, _, _ => none
  | n + 1, t, x1, x2, x3, w =>
    if x3 < 0 then
      if x2 < 0 then
        F_M_call_73 t x2 w
      else
        (ob w t 4).bind fun o4 =>
        (F_M_put t x2 5 1 w).bind fun p3 =>
        F_M_call_73 t x2 p3
    else
      (ob w t 4).bind fun o6 =>
      (F_M_isHere t x3 w).bind fun p5 =>
      if p5.1 = 0 then
        F_M_call_54 (F_M_call_28 n) t x1 x2 x3 p5.2
      else
        (ob p5.2 t 4).bind fun o9 =>
        (F_M_it t x3 2 p5.2).bind fun p8 =>
        if p8.1 = x1 then
          F_M_call_55 (F_M_call_28 n) t x1 x3 x3 p8.2
        else
          F_M_call_54 (F_M_call_28 n) t x1 x2 x3 p8.2
def F_M_call_0 (t : Nat) (x1 : Int32) (w : A_W) : Option (Int32 × A_W) :=
  (F_M_in x1 0 99 w).bind fun p1 =>
  if p1.1 = 0 then
    (ob p1.2 t 4).bind fun o6 =>
    (F_M_finds t (-1000001) p1.2).bind fun p5 =>
    some (p5.1, p5.2)
  else
    (gr p1.2 t 4 0).bind fun a3 =>
    (rd p1.2 a3 3).bind fun v4 =>
    F_M_call_28 FU t x1 (-1) (v4 - 1) p1.2
set_option maxHeartbeats 4000000 in
set_option maxRecDepth 100000 in
theorem s_M_call_55 {G : Gx} {X : Cx} {res : Int32 × A_W} (K : Ok G X 4 c_M_call 4 (some .int) rm_M_call) (hQ : QQ G X (some (.int res.1)) res.2 0 0) {k28 : Nat → Int32 → Int32 → Int32 → A_W → Option (Int32 × A_W)} (hk28 : ∀ (t : Nat) (x1 : Int32) (x2 : Int32) (x3 : Int32) (w : A_W), k28 t x1 x2 x3 w = some res → Sm G X w 0 0 [some (.ref t), some (.int x1), some (.int x2), some (.int x3)] [] 28) (t : Nat) (x1 : Int32) (x3 : Int32) (y0 : Int32) (w : A_W) (h : F_M_call_55 k28 t x1 x3 y0 w = some res) : Sm G X w 0 0 [some (.ref t), some (.int x1), none, some (.int x3)] [.int y0] 55 := by
  unfold F_M_call_55 at h
  refine Sm_run K ek_M_call 33 3 rfl ?_
  exact Sm_le (leR_s (leR_s (leR_s (leR_s leR_nil)))) (hk28 _ _ _ _ _ h)
set_option maxHeartbeats 4000000 in
set_option maxRecDepth 100000 in
theorem s_M_call_54 {G : Gx} {X : Cx} {res : Int32 × A_W} (K : Ok G X 4 c_M_call 4 (some .int) rm_M_call) (hQ : QQ G X (some (.int res.1)) res.2 0 0) {k28 : Nat → Int32 → Int32 → Int32 → A_W → Option (Int32 × A_W)} (hk28 : ∀ (t : Nat) (x1 : Int32) (x2 : Int32) (x3 : Int32) (w : A_W), k28 t x1 x2 x3 w = some res → Sm G X w 0 0 [some (.ref t), some (.int x1), some (.int x2), some (.int x3)] [] 28) (t : Nat) (x1 : Int32) (x2 : Int32) (x3 : Int32) (w : A_W) (h : F_M_call_54 k28 t x1 x2 x3 w = some res) : Sm G X w 0 0 [some (.ref t), some (.int x1), some (.int x2), some (.int x3)] [] 54 := by
  unfold F_M_call_54 at h
  refine Sm_run K ek_M_call 32 1 rfl ?_
  exact Sm_le (leR_s (leR_s (leR_n (leR_s leR_nil)))) (s_M_call_55 K hQ hk28 _ _ _ _ _ h)
set_option maxHeartbeats 4000000 in
set_option maxRecDepth 100000 in
theorem s_M_call_73 {G : Gx} {X : Cx} {res : Int32 × A_W} (K : Ok G X 4 c_M_call 4 (some .int) rm_M_call) (hQ : QQ G X (some (.int res.1)) res.2 0 0) (t : Nat) (x2 : Int32) (w : A_W) (h : F_M_call_73 t x2 w = some res) : Sm G X w 0 0 [some (.ref t), none, some (.int x2), none] [] 73 := by
  unfold F_M_call_73 at h
  refine Sm_run K ek_M_call 43 2 rfl ?_
  obtain ⟨o2, e_o2, h⟩ := Option.bind_eq_some_iff.mp h
  obtain ⟨p1, e_p1, h⟩ := Option.bind_eq_some_iff.mp h
  refine Sm_callV K (eok_i (eo ek_M_call (i := 45) rfl) rfl) cy_M_orNone im_M_orNone se_M_orNone (lgm 929 (by decide +kernel) rfl) ⟨Nat.le_of_ble_eq_true rfl, Nat.le_of_ble_eq_true rfl⟩ (as := [.int x2]) (b := t) (st := []) (ob_e e_o2) (by decide) rfl rfl rfl rfl (Nat.le_of_ble_eq_true rfl) ⟨Nat.le_of_ble_eq_true rfl, Nat.le_of_ble_eq_true rfl⟩ (cn_M_orNone e_p1) ?_
  refine Sm_eq (st1 := .int p1.1 :: []) (nc1 := 0) (ns1 := 0) rfl rfl rfl ?_
  obtain rfl := Option.some.inj h
  exact Sm_reti K hQ (eok_i (eo ek_M_call (i := 46) rfl) rfl)
set_option maxHeartbeats 4000000 in
set_option maxRecDepth 100000 in
theorem s_M_call_28 {G : Gx} {X : Cx} {res : Int32 × A_W} (K : Ok G X 4 c_M_call 4 (some .int) rm_M_call) (hQ : QQ G X (some (.int res.1)) res.2 0 0) : ∀ (n : Nat) (t : Nat) (x1 : Int32) (x2 : Int32) (x3 : Int32) (w : A_W), F_M_call_28 n t x1 x2 x3 w = some res → Sm G X w 0 0 [some (.ref t), some (.int x1), some (.int x2), some (.int x3)] [] 28 := by
  intro n
  induction n with
  | zero => intro t x1 x2 x3 w h; cases h
  | succ n ih =>
    intro t x1 x2 x3 w h
    rw [F_M_call_28] at h
    refine Sm_run K ek_M_call 18 1 rfl ?_
    refine Sm_if_lt K (eo ek_M_call (i := 19) rfl) (fun c1 => ?_) (fun c1 => ?_)
    · rw [if_pos c1] at h
      refine Sm_run K ek_M_call 36 1 rfl ?_
      refine Sm_if_lt K (eo ek_M_call (i := 37) rfl) (fun c2 => ?_) (fun c2 => ?_)
      · rw [if_pos c2] at h
        exact Sm_le (leR_s (leR_n (leR_s (leR_n leR_nil)))) (s_M_call_73 K hQ _ _ _ h)
      · rw [if_neg c2] at h
        refine Sm_run K ek_M_call 38 4 rfl ?_
        obtain ⟨o4, e_o4, h⟩ := Option.bind_eq_some_iff.mp h
        obtain ⟨p3, e_p3, h⟩ := Option.bind_eq_some_iff.mp h
        refine Sm_callV K (eok_i (eo ek_M_call (i := 42) rfl) rfl) cy_M_put im_M_put se_M_put (lgm 843 (by decide +kernel) rfl) ⟨Nat.le_of_ble_eq_true rfl, Nat.le_of_ble_eq_true rfl⟩ (as := [.int x2, .int 5, .int 1]) (b := t) (st := []) (ob_e e_o4) (by decide) rfl rfl rfl rfl (Nat.le_of_ble_eq_true rfl) ⟨Nat.le_of_ble_eq_true rfl, Nat.le_of_ble_eq_true rfl⟩ (cn_M_put e_p3) ?_
        refine Sm_eq (st1 := []) (nc1 := 0) (ns1 := 0) rfl rfl rfl ?_
        exact Sm_le (leR_s (leR_n (leR_s (leR_n leR_nil)))) (s_M_call_73 K hQ _ _ _ h)
    · rw [if_neg c1] at h
      refine Sm_run K ek_M_call 20 2 rfl ?_
      obtain ⟨o6, e_o6, h⟩ := Option.bind_eq_some_iff.mp h
      obtain ⟨p5, e_p5, h⟩ := Option.bind_eq_some_iff.mp h
      refine Sm_callV K (eok_i (eo ek_M_call (i := 22) rfl) rfl) cy_M_isHere im_M_isHere se_M_isHere (lgm 890 (by decide +kernel) rfl) ⟨Nat.le_of_ble_eq_true rfl, Nat.le_of_ble_eq_true rfl⟩ (as := [.int x3]) (b := t) (st := []) (ob_e e_o6) (by decide) rfl rfl rfl rfl (Nat.le_of_ble_eq_true rfl) ⟨Nat.le_of_ble_eq_true rfl, Nat.le_of_ble_eq_true rfl⟩ (cn_M_isHere e_p5) ?_
      refine Sm_eq (st1 := .int p5.1 :: []) (nc1 := 0) (ns1 := 0) rfl rfl rfl ?_
      refine Sm_if_eq K (eo ek_M_call (i := 23) rfl) (fun c7 => ?_) (fun c7 => ?_)
      · rw [if_pos c7] at h
        exact Sm_le (leR_s (leR_s (leR_s (leR_s leR_nil)))) (s_M_call_54 K hQ ih _ _ _ _ _ h)
      · rw [if_neg c7] at h
        refine Sm_run K ek_M_call 24 3 rfl ?_
        obtain ⟨o9, e_o9, h⟩ := Option.bind_eq_some_iff.mp h
        obtain ⟨p8, e_p8, h⟩ := Option.bind_eq_some_iff.mp h
        refine Sm_callV K (eok_i (eo ek_M_call (i := 27) rfl) rfl) cy_M_it im_M_it se_M_it (lgm 871 (by decide +kernel) rfl) ⟨Nat.le_of_ble_eq_true rfl, Nat.le_of_ble_eq_true rfl⟩ (as := [.int x3, .int 2]) (b := t) (st := []) (ob_e e_o9) (by decide) rfl rfl rfl rfl (Nat.le_of_ble_eq_true rfl) ⟨Nat.le_of_ble_eq_true rfl, Nat.le_of_ble_eq_true rfl⟩ (cn_M_it e_p8) ?_
        refine Sm_eq (st1 := .int p8.1 :: []) (nc1 := 0) (ns1 := 0) rfl rfl rfl ?_
        refine Sm_run K ek_M_call 28 1 rfl ?_
        refine Sm_ic_ne K (eo ek_M_call (i := 29) rfl) (fun c10 => ?_) (fun c10 => ?_)
        · rw [if_neg c10] at h
          exact Sm_le (leR_s (leR_s (leR_s (leR_s leR_nil)))) (s_M_call_54 K hQ ih _ _ _ _ _ h)
        · rw [if_pos c10] at h
          refine Sm_run K ek_M_call 30 2 rfl ?_
          exact Sm_le (leR_s (leR_s (leR_n (leR_s leR_nil)))) (s_M_call_55 K hQ ih _ _ _ _ _ h)
set_option maxHeartbeats 4000000 in
set_option maxRecDepth 100000 in
theorem s_M_call_0 {G : Gx} {X : Cx} {res : Int32 × A_W} (K : Ok G X 4 c_M_call 4 (some .int) rm_M_call) (hQ : QQ G X (some (.int res.1)) res.2 0 0) (t : Nat) (x1 : Int32) (w : A_W) (h : F_M_call_0 t x1 w = some res) : Sm G X w 0 0 [some (.ref t), some (.int x1), none, none] [] 0 := by
  unfold F_M_call_0 at h
  refine Sm_run K ek_M_call 0 3 rfl ?_
  obtain ⟨p1, e_p1, h⟩ := Option.bind_eq_some_iff.mp h
  refine Sm_callS K (eok_i (eo ek_M_call (i := 3) rfl) rfl) cy_M_in st_M_in (lgm 815 (by decide +kernel) rfl) ⟨Nat.le_of_ble_eq_true rfl, Nat.le_of_ble_eq_true rfl⟩ (as := [.int x1, .int 0, .int 99]) (st := []) rfl rfl rfl (Nat.le_of_ble_eq_true rfl) ⟨Nat.le_of_ble_eq_true rfl, Nat.le_of_ble_eq_true rfl⟩ (cn_M_in e_p1) ?_
  refine Sm_eq (st1 := .int p1.1 :: []) (nc1 := 0) (ns1 := 0) rfl rfl rfl ?_
  refine Sm_if_ne K (eo ek_M_call (i := 4) rfl) (fun c2 => ?_) (fun c2 => ?_)
  · rw [if_neg c2] at h
    refine Sm_run K ek_M_call 9 3 rfl ?_
    obtain ⟨a3, e_a3, h⟩ := Option.bind_eq_some_iff.mp h
    refine Sm_gr K (eo ek_M_call (i := 12) rfl) e_a3 ?_
    refine Sm_run K ek_M_call 13 1 rfl ?_
    obtain ⟨v4, e_v4, h⟩ := Option.bind_eq_some_iff.mp h
    refine Sm_rd K (eok_i (eo ek_M_call (i := 14) rfl) rfl) e_v4 ?_
    refine Sm_run K ek_M_call 15 3 rfl ?_
    exact Sm_le (leR_s (leR_s (leR_s (leR_s leR_nil)))) (s_M_call_28 K hQ FU _ _ _ _ _ h)
  · rw [if_pos c2] at h
    refine Sm_run K ek_M_call 5 2 rfl ?_
    obtain ⟨o6, e_o6, h⟩ := Option.bind_eq_some_iff.mp h
    obtain ⟨p5, e_p5, h⟩ := Option.bind_eq_some_iff.mp h
    refine Sm_callV K (eok_i (eo ek_M_call (i := 7) rfl) rfl) cy_M_finds im_M_finds se_M_finds (lgm 826 (by decide +kernel) rfl) ⟨Nat.le_of_ble_eq_true rfl, Nat.le_of_ble_eq_true rfl⟩ (as := [.int (-1000001)]) (b := t) (st := []) (ob_e e_o6) (by decide) rfl rfl rfl rfl (Nat.le_of_ble_eq_true rfl) ⟨Nat.le_of_ble_eq_true rfl, Nat.le_of_ble_eq_true rfl⟩ (cn_M_finds e_p5) ?_
    refine Sm_eq (st1 := .int p5.1 :: []) (nc1 := 0) (ns1 := 0) rfl rfl rfl ?_
    obtain rfl := Option.some.inj h
    exact Sm_reti K hQ (eok_i (eo ek_M_call (i := 8) rfl) rfl)
def F_M_call (t : Nat) (x1 : Int32) (w : A_W) : Option (Int32 × A_W) := F_M_call_0 t x1 w
theorem cn_M_call {G : Gx} {t : Nat} {x1 : Int32} {w : A_W} {res : Int32 × A_W} (h : F_M_call t x1 w = some res) : Cn G y_M_call c_M_call 4 (some .int) rm_M_call [.ref t, .int x1] w (some (.int res.1)) res.2 :=
  Cn_of (own := 4) cy_M_call rfl rfl (Nat.le_of_ble_eq_true rfl) rfl (fun X K _ hQ => Sm_le (leR_s (leR_s (leR_n (leR_n leR_nil)))) (s_M_call_0 K hQ _ _ _ h))
/-! EveningCloakModel.allCost()I -/
abbrev c_M_allCost : ByteArray := prog_6_method_36_code
def y_M_allCost : MethodName := ⟨"EveningCloakModel", "allCost", "()I"⟩
def rm_M_allCost : Room := { frames := 2, cells := 0, slots := 0, locals := 43 }
theorem cy_M_allCost : Cy y_M_allCost c_M_allCost 3 (some .int) 0 := ⟨lgm 955 (by decide +kernel) rfl, lgm 73 (by decide +kernel) rfl, by decide +kernel, by decide +kernel⟩
theorem im_M_allCost : Cond.instanceMethod y_M_allCost ∈ lg := lgm 954 (by decide +kernel) rfl
theorem se_M_allCost : Cond.selects y_M_allCost.cls y_M_allCost y_M_allCost ∈ lg := lgm 38 (by decide +kernel) rfl
def e_M_allCost : List Ent := [
  (0, .iconst 0, 1, 1, .int 0, 0, 0, 0),
  (1, .istore_n 1, 1, 2, .null, 0, 0, 0),
  (2, .iconst 0, 1, 3, .int 0, 0, 0, 0),
  (3, .istore_n 2, 1, 4, .null, 0, 0, 0),
  (4, .iload_n 2, 1, 5, .null, 0, 0, 0),
  (5, .aload_n 0, 1, 6, .null, 0, 0, 0),
  (6, .getfield 9, 3, 9, .null, 4, 0, 762),
  (9, .iconst 3, 1, 10, .int 3, 0, 0, 0),
  (10, .iaload, 1, 11, .null, 0, 0, 0),
  (11, .if_icmp .ge 29, 3, 40, .null, 0, 0, 0),
  (14, .iload_n 1, 1, 15, .null, 0, 0, 0),
  (15, .aload_n 0, 1, 16, .null, 0, 0, 0),
  (16, .iload_n 2, 1, 17, .null, 0, 0, 0),
  (17, .invokevirtual 55, 3, 20, .null, 0, 0, 0),
  (20, .ifCond .eq 11, 3, 31, .null, 0, 0, 0),
  (23, .aload_n 0, 1, 24, .null, 0, 0, 0),
  (24, .iload_n 2, 1, 25, .null, 0, 0, 0),
  (25, .invokevirtual 94, 3, 28, .null, 0, 0, 0),
  (28, .goto 4, 3, 32, .null, 0, 0, 0),
  (31, .iconst 0, 1, 32, .int 0, 0, 0, 0),
  (32, .iadd, 1, 33, .null, 0, 0, 0),
  (33, .istore_n 1, 1, 34, .null, 0, 0, 0),
  (34, .iinc 2 1, 3, 37, .int 1, 0, 0, 0),
  (37, .goto (-33), 3, 4, .null, 0, 0, 0),
  (40, .iload_n 1, 1, 41, .null, 0, 0, 0),
  (41, .ireturn, 1, 42, .null, 0, 0, 0)]
set_option maxRecDepth 100000 in
theorem ek_M_allCost : e_M_allCost.all (eok 4 c_M_allCost) = true := by decide +kernel
def F_M_allCost_32 (k4 : Nat → Int32 → Int32 → A_W → Option (Int32 × A_W)) (t : Nat) (x2 : Int32) (y0 : Int32) (y1 : Int32) (w : A_W) : Option (Int32 × A_W) :=
  k4 t (y0 + y1) (x2 + 1) w
def F_M_allCost_4 : Nat → Nat → Int32 → Int32 → A_W → Option (Int32 × A_W)
  | 0, _, _, _, _ => none
  | n + 1, t, x1, x2, w =>
    (gr w t 4 0).bind fun a1 =>
    (rd w a1 3).bind fun v2 =>
    if v2 ≤ x2 then
      some (x1, w)
    else
      (ob w t 4).bind fun o5 =>
      (F_M_isHere t x2 w).bind fun p4 =>
      if p4.1 = 0 then
        F_M_allCost_32 (F_M_allCost_4 n) t x2 x1 0 p4.2
      else
        (ob p4.2 t 4).bind fun o8 =>
        (F_M_costs t x2 p4.2).bind fun p7 =>
        F_M_allCost_32 (F_M_allCost_4 n) t x2 x1 p7.1 p7.2
def F_M_allCost_0 (t : Nat) (w : A_W) : Option (Int32 × A_W) :=
  F_M_allCost_4 FU t 0 0 w
set_option maxHeartbeats 4000000 in
set_option maxRecDepth 100000 in
theorem s_M_allCost_32 {G : Gx} {X : Cx} {res : Int32 × A_W} (K : Ok G X 4 c_M_allCost 3 (some .int) rm_M_allCost) (hQ : QQ G X (some (.int res.1)) res.2 0 0) {k4 : Nat → Int32 → Int32 → A_W → Option (Int32 × A_W)} (hk4 : ∀ (t : Nat) (x1 : Int32) (x2 : Int32) (w : A_W), k4 t x1 x2 w = some res → Sm G X w 0 0 [some (.ref t), some (.int x1), some (.int x2)] [] 4) (t : Nat) (x2 : Int32) (y0 : Int32) (y1 : Int32) (w : A_W) (h : F_M_allCost_32 k4 t x2 y0 y1 w = some res) : Sm G X w 0 0 [some (.ref t), none, some (.int x2)] [.int y1, .int y0] 32 := by
  unfold F_M_allCost_32 at h
  refine Sm_run K ek_M_allCost 20 4 rfl ?_
  exact Sm_le (leR_s (leR_s (leR_s leR_nil))) (hk4 _ _ _ _ h)
set_option maxHeartbeats 4000000 in
set_option maxRecDepth 100000 in
theorem s_M_allCost_4 {G : Gx} {X : Cx} {res : Int32 × A_W} (K : Ok G X 4 c_M_allCost 3 (some .int) rm_M_allCost) (hQ : QQ G X (some (.int res.1)) res.2 0 0) : ∀ (n : Nat) (t : Nat) (x1 : Int32) (x2 : Int32) (w : A_W), F_M_allCost_4 n t x1 x2 w = some res → Sm G X w 0 0 [some (.ref t), some (.int x1), some (.int x2)] [] 4 := by
  intro n
  induction n with
  | zero => intro t x1 x2 w h; cases h
  | succ n ih =>
    intro t x1 x2 w h
    rw [F_M_allCost_4] at h
    refine Sm_run K ek_M_allCost 4 2 rfl ?_
    obtain ⟨a1, e_a1, h⟩ := Option.bind_eq_some_iff.mp h
    refine Sm_gr K (eo ek_M_allCost (i := 6) rfl) e_a1 ?_
    refine Sm_run K ek_M_allCost 7 1 rfl ?_
    obtain ⟨v2, e_v2, h⟩ := Option.bind_eq_some_iff.mp h
    refine Sm_rd K (eok_i (eo ek_M_allCost (i := 8) rfl) rfl) e_v2 ?_
    refine Sm_ic_ge K (eo ek_M_allCost (i := 9) rfl) (fun c3 => ?_) (fun c3 => ?_)
    · rw [if_pos c3] at h
      refine Sm_run K ek_M_allCost 24 1 rfl ?_
      obtain rfl := Option.some.inj h
      exact Sm_reti K hQ (eok_i (eo ek_M_allCost (i := 25) rfl) rfl)
    · rw [if_neg c3] at h
      refine Sm_run K ek_M_allCost 10 3 rfl ?_
      obtain ⟨o5, e_o5, h⟩ := Option.bind_eq_some_iff.mp h
      obtain ⟨p4, e_p4, h⟩ := Option.bind_eq_some_iff.mp h
      refine Sm_callV K (eok_i (eo ek_M_allCost (i := 13) rfl) rfl) cy_M_isHere im_M_isHere se_M_isHere (lgm 890 (by decide +kernel) rfl) ⟨Nat.le_of_ble_eq_true rfl, Nat.le_of_ble_eq_true rfl⟩ (as := [.int x2]) (b := t) (st := [.int x1]) (ob_e e_o5) (by decide) rfl rfl rfl rfl (Nat.le_of_ble_eq_true rfl) ⟨Nat.le_of_ble_eq_true rfl, Nat.le_of_ble_eq_true rfl⟩ (cn_M_isHere e_p4) ?_
      refine Sm_eq (st1 := .int p4.1 :: [.int x1]) (nc1 := 0) (ns1 := 0) rfl rfl rfl ?_
      refine Sm_if_eq K (eo ek_M_allCost (i := 14) rfl) (fun c6 => ?_) (fun c6 => ?_)
      · rw [if_pos c6] at h
        refine Sm_run K ek_M_allCost 19 1 rfl ?_
        exact Sm_le (leR_s (leR_n (leR_s leR_nil))) (s_M_allCost_32 K hQ ih _ _ _ _ _ h)
      · rw [if_neg c6] at h
        refine Sm_run K ek_M_allCost 15 2 rfl ?_
        obtain ⟨o8, e_o8, h⟩ := Option.bind_eq_some_iff.mp h
        obtain ⟨p7, e_p7, h⟩ := Option.bind_eq_some_iff.mp h
        refine Sm_callV K (eok_i (eo ek_M_allCost (i := 17) rfl) rfl) cy_M_costs im_M_costs se_M_costs (lgm 894 (by decide +kernel) rfl) ⟨Nat.le_of_ble_eq_true rfl, Nat.le_of_ble_eq_true rfl⟩ (as := [.int x2]) (b := t) (st := [.int x1]) (ob_e e_o8) (by decide) rfl rfl rfl rfl (Nat.le_of_ble_eq_true rfl) ⟨Nat.le_of_ble_eq_true rfl, Nat.le_of_ble_eq_true rfl⟩ (cn_M_costs e_p7) ?_
        refine Sm_eq (st1 := .int p7.1 :: [.int x1]) (nc1 := 0) (ns1 := 0) rfl rfl rfl ?_
        refine Sm_run K ek_M_allCost 18 1 rfl ?_
        exact Sm_le (leR_s (leR_n (leR_s leR_nil))) (s_M_allCost_32 K hQ ih _ _ _ _ _ h)
set_option maxHeartbeats 4000000 in
set_option maxRecDepth 100000 in
theorem s_M_allCost_0 {G : Gx} {X : Cx} {res : Int32 × A_W} (K : Ok G X 4 c_M_allCost 3 (some .int) rm_M_allCost) (hQ : QQ G X (some (.int res.1)) res.2 0 0) (t : Nat) (w : A_W) (h : F_M_allCost_0 t w = some res) : Sm G X w 0 0 [some (.ref t), none, none] [] 0 := by
  unfold F_M_allCost_0 at h
  refine Sm_run K ek_M_allCost 0 4 rfl ?_
  exact Sm_le (leR_s (leR_s (leR_s leR_nil))) (s_M_allCost_4 K hQ FU _ _ _ _ h)
def F_M_allCost (t : Nat) (w : A_W) : Option (Int32 × A_W) := F_M_allCost_0 t w
theorem cn_M_allCost {G : Gx} {t : Nat} {w : A_W} {res : Int32 × A_W} (h : F_M_allCost t w = some res) : Cn G y_M_allCost c_M_allCost 3 (some .int) rm_M_allCost [.ref t] w (some (.int res.1)) res.2 :=
  Cn_of (own := 4) cy_M_allCost rfl rfl (Nat.le_of_ble_eq_true rfl) rfl (fun X K _ hQ => Sm_le (leR_s (leR_n (leR_n leR_nil))) (s_M_allCost_0 K hQ _ _ h))
/-! EveningCloakModel.stands(II)V -/
abbrev c_M_stands : ByteArray := prog_6_method_37_code
def y_M_stands : MethodName := ⟨"EveningCloakModel", "stands", "(II)V"⟩
def rm_M_stands : Room := { frames := 3, cells := 0, slots := 0, locals := 69 }
theorem cy_M_stands : Cy y_M_stands c_M_stands 5 (none) 2 := ⟨lgm 951 (by decide +kernel) rfl, lgm 73 (by decide +kernel) rfl, by decide +kernel, by decide +kernel⟩
theorem im_M_stands : Cond.instanceMethod y_M_stands ∈ lg := lgm 950 (by decide +kernel) rfl
theorem se_M_stands : Cond.selects y_M_stands.cls y_M_stands y_M_stands ∈ lg := lgm 37 (by decide +kernel) rfl
def e_M_stands : List Ent := [
  (0, .aload_n 0, 1, 1, .null, 0, 0, 0),
  (1, .iload_n 1, 1, 2, .null, 0, 0, 0),
  (2, .iconst 0, 1, 3, .int 0, 0, 0, 0),
  (3, .invokevirtual 103, 3, 6, .null, 0, 0, 0),
  (6, .aload_n 0, 1, 7, .null, 0, 0, 0),
  (7, .iload_n 2, 1, 8, .null, 0, 0, 0),
  (8, .invokevirtual 62, 3, 11, .null, 0, 0, 0),
  (11, .iadd, 1, 12, .null, 0, 0, 0),
  (12, .iconst 0, 1, 13, .int 0, 0, 0, 0),
  (13, .bipush 99, 2, 15, .int 99, 0, 0, 0),
  (15, .invokestatic 48, 3, 18, .null, 0, 0, 0),
  (18, .istore_n 3, 1, 19, .null, 0, 0, 0),
  (19, .iload_n 3, 1, 20, .null, 0, 0, 0),
  (20, .aload_n 0, 1, 21, .null, 0, 0, 0),
  (21, .iload_n 1, 1, 22, .null, 0, 0, 0),
  (22, .iconst 1, 1, 23, .int 1, 0, 0, 0),
  (23, .invokevirtual 103, 3, 26, .null, 0, 0, 0),
  (26, .if_icmp .lt 7, 3, 33, .null, 0, 0, 0),
  (29, .iconst 1, 1, 30, .int 1, 0, 0, 0),
  (30, .goto 4, 3, 34, .null, 0, 0, 0),
  (33, .iconst 0, 1, 34, .int 0, 0, 0, 0),
  (34, .istore 4, 2, 36, .null, 0, 0, 0),
  (36, .aload_n 0, 1, 37, .null, 0, 0, 0),
  (37, .iload_n 1, 1, 38, .null, 0, 0, 0),
  (38, .iconst 0, 1, 39, .int 0, 0, 0, 0),
  (39, .iload 4, 2, 41, .null, 0, 0, 0),
  (41, .ifCond .eq 7, 3, 48, .null, 0, 0, 0),
  (44, .iconst 0, 1, 45, .int 0, 0, 0, 0),
  (45, .goto 4, 3, 49, .null, 0, 0, 0),
  (48, .iload_n 3, 1, 49, .null, 0, 0, 0),
  (49, .invokevirtual 82, 3, 52, .null, 0, 0, 0),
  (52, .aload_n 0, 1, 53, .null, 0, 0, 0),
  (53, .iload_n 1, 1, 54, .null, 0, 0, 0),
  (54, .iconst 2, 1, 55, .int 2, 0, 0, 0),
  (55, .aload_n 0, 1, 56, .null, 0, 0, 0),
  (56, .iload_n 1, 1, 57, .null, 0, 0, 0),
  (57, .iconst 2, 1, 58, .int 2, 0, 0, 0),
  (58, .invokevirtual 103, 3, 61, .null, 0, 0, 0),
  (61, .iload 4, 2, 63, .null, 0, 0, 0),
  (63, .ifCond .eq 7, 3, 70, .null, 0, 0, 0),
  (66, .iconst 1, 1, 67, .int 1, 0, 0, 0),
  (67, .goto 4, 3, 71, .null, 0, 0, 0),
  (70, .iconst 0, 1, 71, .int 0, 0, 0, 0),
  (71, .iadd, 1, 72, .null, 0, 0, 0),
  (72, .iconst 0, 1, 73, .int 0, 0, 0, 0),
  (73, .sipush 9999, 3, 76, .int 9999, 0, 0, 0),
  (76, .invokestatic 48, 3, 79, .null, 0, 0, 0),
  (79, .invokevirtual 82, 3, 82, .null, 0, 0, 0),
  (82, .return_, 1, 83, .null, 0, 0, 0)]
set_option maxRecDepth 100000 in
theorem ek_M_stands : e_M_stands.all (eok 4 c_M_stands) = true := by decide +kernel
def F_M_stands_71 (y0 : Nat) (y1 : Int32) (y2 : Int32) (y3 : Int32) (y4 : Int32) (w : A_W) : Option (A_W) :=
  (F_M_held (y3 + y4) 0 9999 w).bind fun p1 =>
  (ob p1.2 y0 4).bind fun o3 =>
  (F_M_lets y0 y1 y2 p1.1 p1.2).bind fun p2 =>
  some p2
def F_M_stands_49 (t : Nat) (x1 : Int32) (x4 : Int32) (y0 : Nat) (y1 : Int32) (y2 : Int32) (y3 : Int32) (w : A_W) : Option (A_W) :=
  (ob w y0 4).bind fun o2 =>
  (F_M_lets y0 y1 y2 y3 w).bind fun p1 =>
  (ob p1 t 4).bind fun o4 =>
  (F_M_her t x1 2 p1).bind fun p3 =>
  if x4 = 0 then
    F_M_stands_71 t x1 2 p3.1 0 p3.2
  else
    F_M_stands_71 t x1 2 p3.1 1 p3.2
def F_M_stands_34 (t : Nat) (x1 : Int32) (x3 : Int32) (y0 : Int32) (w : A_W) : Option (A_W) :=
  if y0 = 0 then
    F_M_stands_49 t x1 y0 t x1 0 x3 w
  else
    F_M_stands_49 t x1 y0 t x1 0 0 w
def F_M_stands_0 (t : Nat) (x1 : Int32) (x2 : Int32) (w : A_W) : Option (A_W) :=
  (ob w t 4).bind fun o2 =>
  (F_M_her t x1 0 w).bind fun p1 =>
  (ob p1.2 t 4).bind fun o4 =>
  (F_M_lightAt t x2 p1.2).bind fun p3 =>
  (F_M_held (p1.1 + p3.1) 0 99 p3.2).bind fun p5 =>
  (ob p5.2 t 4).bind fun o7 =>
  (F_M_her t x1 1 p5.2).bind fun p6 =>
  if p5.1 < p6.1 then
    F_M_stands_34 t x1 p5.1 0 p6.2
  else
    F_M_stands_34 t x1 p5.1 1 p6.2
set_option maxHeartbeats 4000000 in
set_option maxRecDepth 100000 in
theorem s_M_stands_71 {G : Gx} {X : Cx} {res : A_W} (K : Ok G X 4 c_M_stands 5 (none) rm_M_stands) (hQ : QQ G X none res 0 0) (y0 : Nat) (y1 : Int32) (y2 : Int32) (y3 : Int32) (y4 : Int32) (w : A_W) (h : F_M_stands_71 y0 y1 y2 y3 y4 w = some res) : Sm G X w 0 0 [none, none, none, none, none] [.int y4, .int y3, .int y2, .int y1, .ref y0] 71 := by
  unfold F_M_stands_71 at h
  refine Sm_run K ek_M_stands 43 3 rfl ?_
  obtain ⟨p1, e_p1, h⟩ := Option.bind_eq_some_iff.mp h
  refine Sm_callS K (eok_i (eo ek_M_stands (i := 46) rfl) rfl) cy_M_held st_M_held (lgm 875 (by decide +kernel) rfl) ⟨Nat.le_of_ble_eq_true rfl, Nat.le_of_ble_eq_true rfl⟩ (as := [.int (y3 + y4), .int 0, .int 9999]) (st := [.int y2, .int y1, .ref y0]) rfl rfl rfl (Nat.le_of_ble_eq_true rfl) ⟨Nat.le_of_ble_eq_true rfl, Nat.le_of_ble_eq_true rfl⟩ (cn_M_held e_p1) ?_
  refine Sm_eq (st1 := .int p1.1 :: [.int y2, .int y1, .ref y0]) (nc1 := 0) (ns1 := 0) rfl rfl rfl ?_
  obtain ⟨o3, e_o3, h⟩ := Option.bind_eq_some_iff.mp h
  obtain ⟨p2, e_p2, h⟩ := Option.bind_eq_some_iff.mp h
  refine Sm_callV K (eok_i (eo ek_M_stands (i := 47) rfl) rfl) cy_M_lets im_M_lets se_M_lets (lgm 855 (by decide +kernel) rfl) ⟨Nat.le_of_ble_eq_true rfl, Nat.le_of_ble_eq_true rfl⟩ (as := [.int y1, .int y2, .int p1.1]) (b := y0) (st := []) (ob_e e_o3) (by decide) rfl rfl rfl rfl (Nat.le_of_ble_eq_true rfl) ⟨Nat.le_of_ble_eq_true rfl, Nat.le_of_ble_eq_true rfl⟩ (cn_M_lets e_p2) ?_
  refine Sm_eq (st1 := []) (nc1 := 0) (ns1 := 0) rfl rfl rfl ?_
  obtain rfl := Option.some.inj h
  exact Sm_retv K hQ (eok_i (eo ek_M_stands (i := 48) rfl) rfl)
set_option maxHeartbeats 4000000 in
set_option maxRecDepth 100000 in
theorem s_M_stands_49 {G : Gx} {X : Cx} {res : A_W} (K : Ok G X 4 c_M_stands 5 (none) rm_M_stands) (hQ : QQ G X none res 0 0) (t : Nat) (x1 : Int32) (x4 : Int32) (y0 : Nat) (y1 : Int32) (y2 : Int32) (y3 : Int32) (w : A_W) (h : F_M_stands_49 t x1 x4 y0 y1 y2 y3 w = some res) : Sm G X w 0 0 [some (.ref t), some (.int x1), none, none, some (.int x4)] [.int y3, .int y2, .int y1, .ref y0] 49 := by
  unfold F_M_stands_49 at h
  obtain ⟨o2, e_o2, h⟩ := Option.bind_eq_some_iff.mp h
  obtain ⟨p1, e_p1, h⟩ := Option.bind_eq_some_iff.mp h
  refine Sm_callV K (eok_i (eo ek_M_stands (i := 30) rfl) rfl) cy_M_lets im_M_lets se_M_lets (lgm 855 (by decide +kernel) rfl) ⟨Nat.le_of_ble_eq_true rfl, Nat.le_of_ble_eq_true rfl⟩ (as := [.int y1, .int y2, .int y3]) (b := y0) (st := []) (ob_e e_o2) (by decide) rfl rfl rfl rfl (Nat.le_of_ble_eq_true rfl) ⟨Nat.le_of_ble_eq_true rfl, Nat.le_of_ble_eq_true rfl⟩ (cn_M_lets e_p1) ?_
  refine Sm_eq (st1 := []) (nc1 := 0) (ns1 := 0) rfl rfl rfl ?_
  refine Sm_run K ek_M_stands 31 6 rfl ?_
  obtain ⟨o4, e_o4, h⟩ := Option.bind_eq_some_iff.mp h
  obtain ⟨p3, e_p3, h⟩ := Option.bind_eq_some_iff.mp h
  refine Sm_callV K (eok_i (eo ek_M_stands (i := 37) rfl) rfl) cy_M_her im_M_her se_M_her (lgm 913 (by decide +kernel) rfl) ⟨Nat.le_of_ble_eq_true rfl, Nat.le_of_ble_eq_true rfl⟩ (as := [.int x1, .int 2]) (b := t) (st := [.int 2, .int x1, .ref t]) (ob_e e_o4) (by decide) rfl rfl rfl rfl (Nat.le_of_ble_eq_true rfl) ⟨Nat.le_of_ble_eq_true rfl, Nat.le_of_ble_eq_true rfl⟩ (cn_M_her e_p3) ?_
  refine Sm_eq (st1 := .int p3.1 :: [.int 2, .int x1, .ref t]) (nc1 := 0) (ns1 := 0) rfl rfl rfl ?_
  refine Sm_run K ek_M_stands 38 1 rfl ?_
  refine Sm_if_eq K (eo ek_M_stands (i := 39) rfl) (fun c5 => ?_) (fun c5 => ?_)
  · rw [if_pos c5] at h
    refine Sm_run K ek_M_stands 42 1 rfl ?_
    exact Sm_le (leR_n (leR_n (leR_n (leR_n (leR_n leR_nil))))) (s_M_stands_71 K hQ _ _ _ _ _ _ h)
  · rw [if_neg c5] at h
    refine Sm_run K ek_M_stands 40 2 rfl ?_
    exact Sm_le (leR_n (leR_n (leR_n (leR_n (leR_n leR_nil))))) (s_M_stands_71 K hQ _ _ _ _ _ _ h)
set_option maxHeartbeats 4000000 in
set_option maxRecDepth 100000 in
theorem s_M_stands_34 {G : Gx} {X : Cx} {res : A_W} (K : Ok G X 4 c_M_stands 5 (none) rm_M_stands) (hQ : QQ G X none res 0 0) (t : Nat) (x1 : Int32) (x3 : Int32) (y0 : Int32) (w : A_W) (h : F_M_stands_34 t x1 x3 y0 w = some res) : Sm G X w 0 0 [some (.ref t), some (.int x1), none, some (.int x3), none] [.int y0] 34 := by
  unfold F_M_stands_34 at h
  refine Sm_run K ek_M_stands 21 5 rfl ?_
  refine Sm_if_eq K (eo ek_M_stands (i := 26) rfl) (fun c1 => ?_) (fun c1 => ?_)
  · rw [if_pos c1] at h
    refine Sm_run K ek_M_stands 29 1 rfl ?_
    exact Sm_le (leR_s (leR_s (leR_n (leR_n (leR_s leR_nil))))) (s_M_stands_49 K hQ _ _ _ _ _ _ _ _ h)
  · rw [if_neg c1] at h
    refine Sm_run K ek_M_stands 27 2 rfl ?_
    exact Sm_le (leR_s (leR_s (leR_n (leR_n (leR_s leR_nil))))) (s_M_stands_49 K hQ _ _ _ _ _ _ _ _ h)
set_option maxHeartbeats 4000000 in
set_option maxRecDepth 100000 in
theorem s_M_stands_0 {G : Gx} {X : Cx} {res : A_W} (K : Ok G X 4 c_M_stands 5 (none) rm_M_stands) (hQ : QQ G X none res 0 0) (t : Nat) (x1 : Int32) (x2 : Int32) (w : A_W) (h : F_M_stands_0 t x1 x2 w = some res) : Sm G X w 0 0 [some (.ref t), some (.int x1), some (.int x2), none, none] [] 0 := by
  unfold F_M_stands_0 at h
  refine Sm_run K ek_M_stands 0 3 rfl ?_
  obtain ⟨o2, e_o2, h⟩ := Option.bind_eq_some_iff.mp h
  obtain ⟨p1, e_p1, h⟩ := Option.bind_eq_some_iff.mp h
  refine Sm_callV K (eok_i (eo ek_M_stands (i := 3) rfl) rfl) cy_M_her im_M_her se_M_her (lgm 913 (by decide +kernel) rfl) ⟨Nat.le_of_ble_eq_true rfl, Nat.le_of_ble_eq_true rfl⟩ (as := [.int x1, .int 0]) (b := t) (st := []) (ob_e e_o2) (by decide) rfl rfl rfl rfl (Nat.le_of_ble_eq_true rfl) ⟨Nat.le_of_ble_eq_true rfl, Nat.le_of_ble_eq_true rfl⟩ (cn_M_her e_p1) ?_
  refine Sm_eq (st1 := .int p1.1 :: []) (nc1 := 0) (ns1 := 0) rfl rfl rfl ?_
  refine Sm_run K ek_M_stands 4 2 rfl ?_
  obtain ⟨o4, e_o4, h⟩ := Option.bind_eq_some_iff.mp h
  obtain ⟨p3, e_p3, h⟩ := Option.bind_eq_some_iff.mp h
  refine Sm_callV K (eok_i (eo ek_M_stands (i := 6) rfl) rfl) cy_M_lightAt im_M_lightAt se_M_lightAt (lgm 886 (by decide +kernel) rfl) ⟨Nat.le_of_ble_eq_true rfl, Nat.le_of_ble_eq_true rfl⟩ (as := [.int x2]) (b := t) (st := [.int p1.1]) (ob_e e_o4) (by decide) rfl rfl rfl rfl (Nat.le_of_ble_eq_true rfl) ⟨Nat.le_of_ble_eq_true rfl, Nat.le_of_ble_eq_true rfl⟩ (cn_M_lightAt e_p3) ?_
  refine Sm_eq (st1 := .int p3.1 :: [.int p1.1]) (nc1 := 0) (ns1 := 0) rfl rfl rfl ?_
  refine Sm_run K ek_M_stands 7 3 rfl ?_
  obtain ⟨p5, e_p5, h⟩ := Option.bind_eq_some_iff.mp h
  refine Sm_callS K (eok_i (eo ek_M_stands (i := 10) rfl) rfl) cy_M_held st_M_held (lgm 875 (by decide +kernel) rfl) ⟨Nat.le_of_ble_eq_true rfl, Nat.le_of_ble_eq_true rfl⟩ (as := [.int (p1.1 + p3.1), .int 0, .int 99]) (st := []) rfl rfl rfl (Nat.le_of_ble_eq_true rfl) ⟨Nat.le_of_ble_eq_true rfl, Nat.le_of_ble_eq_true rfl⟩ (cn_M_held e_p5) ?_
  refine Sm_eq (st1 := .int p5.1 :: []) (nc1 := 0) (ns1 := 0) rfl rfl rfl ?_
  refine Sm_run K ek_M_stands 11 5 rfl ?_
  obtain ⟨o7, e_o7, h⟩ := Option.bind_eq_some_iff.mp h
  obtain ⟨p6, e_p6, h⟩ := Option.bind_eq_some_iff.mp h
  refine Sm_callV K (eok_i (eo ek_M_stands (i := 16) rfl) rfl) cy_M_her im_M_her se_M_her (lgm 913 (by decide +kernel) rfl) ⟨Nat.le_of_ble_eq_true rfl, Nat.le_of_ble_eq_true rfl⟩ (as := [.int x1, .int 1]) (b := t) (st := [.int p5.1]) (ob_e e_o7) (by decide) rfl rfl rfl rfl (Nat.le_of_ble_eq_true rfl) ⟨Nat.le_of_ble_eq_true rfl, Nat.le_of_ble_eq_true rfl⟩ (cn_M_her e_p6) ?_
  refine Sm_eq (st1 := .int p6.1 :: [.int p5.1]) (nc1 := 0) (ns1 := 0) rfl rfl rfl ?_
  refine Sm_ic_lt K (eo ek_M_stands (i := 17) rfl) (fun c8 => ?_) (fun c8 => ?_)
  · rw [if_pos c8] at h
    refine Sm_run K ek_M_stands 20 1 rfl ?_
    exact Sm_le (leR_s (leR_s (leR_n (leR_s (leR_n leR_nil))))) (s_M_stands_34 K hQ _ _ _ _ _ h)
  · rw [if_neg c8] at h
    refine Sm_run K ek_M_stands 18 2 rfl ?_
    exact Sm_le (leR_s (leR_s (leR_n (leR_s (leR_n leR_nil))))) (s_M_stands_34 K hQ _ _ _ _ _ h)
def F_M_stands (t : Nat) (x1 : Int32) (x2 : Int32) (w : A_W) : Option (A_W) := F_M_stands_0 t x1 x2 w
theorem cn_M_stands {G : Gx} {t : Nat} {x1 : Int32} {x2 : Int32} {w : A_W} {res : A_W} (h : F_M_stands t x1 x2 w = some res) : Cn G y_M_stands c_M_stands 5 (none) rm_M_stands [.ref t, .int x1, .int x2] w none res :=
  Cn_of (own := 4) cy_M_stands rfl rfl (Nat.le_of_ble_eq_true rfl) rfl (fun X K _ hQ => Sm_le (leR_s (leR_s (leR_s (leR_n (leR_n leR_nil))))) (s_M_stands_0 K hQ _ _ _ _ h))
