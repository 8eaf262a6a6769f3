/-! EveningCloakModel.allowed(III)I -/
abbrev c_M_allowed : ByteArray := prog_6_method_67_code
def y_M_allowed : MethodName := ⟨"EveningCloakModel", "allowed", "(III)I"⟩
def rm_M_allowed : Room := { frames := 6, cells := 0, slots := 0, locals := 139 }
theorem cy_M_allowed : Cy y_M_allowed c_M_allowed 6 (some .int) 3 := ⟨lgm 1069 (by decide +kernel) rfl, lgm 73 (by decide +kernel) rfl, by decide +kernel, by decide +kernel⟩
theorem im_M_allowed : Cond.instanceMethod y_M_allowed ∈ lg := lgm 1068 (by decide +kernel) rfl
theorem se_M_allowed : Cond.selects y_M_allowed.cls y_M_allowed y_M_allowed ∈ lg := lgm 51 (by decide +kernel) rfl
def e_M_allowed : List Ent := [
  (0, .aload_n 0, 1, 1, .null, 0, 0, 0),
  (1, .invokevirtual 142, 3, 4, .null, 0, 0, 0),
  (4, .iconst 0, 1, 5, .int 0, 0, 0, 0),
  (5, .istore 4, 2, 7, .null, 0, 0, 0),
  (7, .iconst 0, 1, 8, .int 0, 0, 0, 0),
  (8, .istore 5, 2, 10, .null, 0, 0, 0),
  (10, .iload 5, 2, 12, .null, 0, 0, 0),
  (12, .iload_n 3, 1, 13, .null, 0, 0, 0),
  (13, .if_icmp .ge 38, 3, 51, .null, 0, 0, 0),
  (16, .aload_n 0, 1, 17, .null, 0, 0, 0),
  (17, .getfield 9, 3, 20, .null, 4, 0, 762),
  (20, .iload_n 2, 1, 21, .null, 0, 0, 0),
  (21, .iload 5, 2, 23, .null, 0, 0, 0),
  (23, .iastore, 1, 24, .null, 0, 0, 0),
  (24, .iload 4, 2, 26, .null, 0, 0, 0),
  (26, .aload_n 0, 1, 27, .null, 0, 0, 0),
  (27, .iload_n 1, 1, 28, .null, 0, 0, 0),
  (28, .invokevirtual 172, 3, 31, .null, 0, 0, 0),
  (31, .ifCond .eq 10, 3, 41, .null, 0, 0, 0),
  (34, .iconst 1, 1, 35, .int 1, 0, 0, 0),
  (35, .iload 5, 2, 37, .null, 0, 0, 0),
  (37, .ishl, 1, 38, .null, 0, 0, 0),
  (38, .goto 4, 3, 42, .null, 0, 0, 0),
  (41, .iconst 0, 1, 42, .int 0, 0, 0, 0),
  (42, .ior, 1, 43, .null, 0, 0, 0),
  (43, .istore 4, 2, 45, .null, 0, 0, 0),
  (45, .iinc 5 1, 3, 48, .int 1, 0, 0, 0),
  (48, .goto (-38), 3, 10, .null, 0, 0, 0),
  (51, .iload 4, 2, 53, .null, 0, 0, 0),
  (53, .ireturn, 1, 54, .null, 0, 0, 0)]
set_option maxRecDepth 100000 in
theorem ek_M_allowed : e_M_allowed.all (eok 4 c_M_allowed) = true := by decide +kernel
def F_M_allowed_42 (k10 : Nat → Int32 → Int32 → Int32 → Int32 → Int32 → A_W → Option (Int32 × A_W)) (t : Nat) (x1 : Int32) (x2 : Int32) (x3 : Int32) (x5 : Int32) (y0 : Int32) (y1 : Int32) (w : A_W) : Option (Int32 × A_W) :=
  k10 t x1 x2 x3 (y0 ||| y1) (x5 + 1) w
def F_M_allowed_10 : Nat → Nat → Int32 → Int32 → Int32 → Int32 → Int32 → A_W → Option (Int32 × A_W)
  | 0, _, _, _, _, _, _, _ => none
  | n + 1, t, x1, x2, x3, x4, x5, w =>
    if x3 ≤ x5 then
      some (x4, w)
    else
      (gr w t 4 0).bind fun a2 =>
      (wr w a2 x2 x5).bind fun w3 =>
      (ob w3 t 4).bind fun o5 =>
      (F_M_isTold t x1 w3).bind fun p4 =>
      if p4.1 = 0 then
        F_M_allowed_42 (F_M_allowed_10 n) t x1 x2 x3 x5 x4 0 p4.2
      else
        F_M_allowed_42 (F_M_allowed_10 n) t x1 x2 x3 x5 x4 (1 <<< (x5 &&& 31)) p4.2
def F_M_allowed_0 (t : Nat) (x1 : Int32) (x2 : Int32) (x3 : Int32) (w : A_W) : Option (Int32 × A_W) :=
  (ob w t 4).bind fun o2 =>
  (F_M_thinks t w).bind fun p1 =>
  F_M_allowed_10 FU t x1 x2 x3 0 0 p1
set_option maxHeartbeats 4000000 in
set_option maxRecDepth 100000 in
theorem s_M_allowed_42 {G : Gx} {X : Cx} {res : Int32 × A_W} (K : Ok G X 4 c_M_allowed 6 (some .int) rm_M_allowed) (hQ : QQ G X (some (.int res.1)) res.2 0 0) {k10 : Nat → Int32 → Int32 → Int32 → Int32 → Int32 → A_W → Option (Int32 × A_W)} (hk10 : ∀ (t : Nat) (x1 : Int32) (x2 : Int32) (x3 : Int32) (x4 : Int32) (x5 : Int32) (w : A_W), k10 t x1 x2 x3 x4 x5 w = some res → Sm G X w 0 0 [some (.ref t), some (.int x1), some (.int x2), some (.int x3), some (.int x4), some (.int x5)] [] 10) (t : Nat) (x1 : Int32) (x2 : Int32) (x3 : Int32) (x5 : Int32) (y0 : Int32) (y1 : Int32) (w : A_W) (h : F_M_allowed_42 k10 t x1 x2 x3 x5 y0 y1 w = some res) : Sm G X w 0 0 [some (.ref t), some (.int x1), some (.int x2), some (.int x3), none, some (.int x5)] [.int y1, .int y0] 42 := by
  unfold F_M_allowed_42 at h
  refine Sm_run K ek_M_allowed 24 4 rfl ?_
  exact Sm_le (leR_s (leR_s (leR_s (leR_s (leR_s (leR_s leR_nil)))))) (hk10 _ _ _ _ _ _ _ h)
set_option maxHeartbeats 4000000 in
set_option maxRecDepth 100000 in
theorem s_M_allowed_10 {G : Gx} {X : Cx} {res : Int32 × A_W} (K : Ok G X 4 c_M_allowed 6 (some .int) rm_M_allowed) (hQ : QQ G X (some (.int res.1)) res.2 0 0) : ∀ (n : Nat) (t : Nat) (x1 : Int32) (x2 : Int32) (x3 : Int32) (x4 : Int32) (x5 : Int32) (w : A_W), F_M_allowed_10 n t x1 x2 x3 x4 x5 w = some res → Sm G X w 0 0 [some (.ref t), some (.int x1), some (.int x2), some (.int x3), some (.int x4), some (.int x5)] [] 10 := by
  intro n
  induction n with
  | zero => intro t x1 x2 x3 x4 x5 w h; cases h
  | succ n ih =>
    intro t x1 x2 x3 x4 x5 w h
    rw [F_M_allowed_10] at h
    refine Sm_run K ek_M_allowed 6 2 rfl ?_
    refine Sm_ic_ge K (eo ek_M_allowed (i := 8) rfl) (fun c1 => ?_) (fun c1 => ?_)
    · rw [if_pos c1] at h
      refine Sm_run K ek_M_allowed 28 1 rfl ?_
      obtain rfl := Option.some.inj h
      exact Sm_reti K hQ (eok_i (eo ek_M_allowed (i := 29) rfl) rfl)
    · rw [if_neg c1] at h
      refine Sm_run K ek_M_allowed 9 1 rfl ?_
      obtain ⟨a2, e_a2, h⟩ := Option.bind_eq_some_iff.mp h
      refine Sm_gr K (eo ek_M_allowed (i := 10) rfl) e_a2 ?_
      refine Sm_run K ek_M_allowed 11 2 rfl ?_
      obtain ⟨w3, e_w3, h⟩ := Option.bind_eq_some_iff.mp h
      refine Sm_wr K (eok_i (eo ek_M_allowed (i := 13) rfl) rfl) e_w3 ?_
      refine Sm_run K ek_M_allowed 14 3 rfl ?_
      obtain ⟨o5, e_o5, h⟩ := Option.bind_eq_some_iff.mp h
      obtain ⟨p4, e_p4, h⟩ := Option.bind_eq_some_iff.mp h
      refine Sm_callV K (eok_i (eo ek_M_allowed (i := 17) rfl) rfl) cy_M_isTold im_M_isTold se_M_isTold (lgm 1070 (by decide +kernel) rfl) ⟨Nat.le_of_ble_eq_true rfl, Nat.le_of_ble_eq_true rfl⟩ (as := [.int x1]) (b := t) (st := [.int x4]) (ob_e e_o5) (by decide) rfl rfl rfl rfl (Nat.le_of_ble_eq_true rfl) ⟨Nat.le_of_ble_eq_true rfl, Nat.le_of_ble_eq_true rfl⟩ (cn_M_isTold e_p4) ?_
      refine Sm_eq (st1 := .int p4.1 :: [.int x4]) (nc1 := 0) (ns1 := 0) rfl rfl rfl ?_
      refine Sm_if_eq K (eo ek_M_allowed (i := 18) rfl) (fun c6 => ?_) (fun c6 => ?_)
      · rw [if_pos c6] at h
        refine Sm_run K ek_M_allowed 23 1 rfl ?_
        exact Sm_le (leR_s (leR_s (leR_s (leR_s (leR_n (leR_s leR_nil)))))) (s_M_allowed_42 K hQ ih _ _ _ _ _ _ _ _ h)
      · rw [if_neg c6] at h
        refine Sm_run K ek_M_allowed 19 4 rfl ?_
        exact Sm_le (leR_s (leR_s (leR_s (leR_s (leR_n (leR_s leR_nil)))))) (s_M_allowed_42 K hQ ih _ _ _ _ _ _ _ _ h)
set_option maxHeartbeats 4000000 in
set_option maxRecDepth 100000 in
theorem s_M_allowed_0 {G : Gx} {X : Cx} {res : Int32 × A_W} (K : Ok G X 4 c_M_allowed 6 (some .int) rm_M_allowed) (hQ : QQ G X (some (.int res.1)) res.2 0 0) (t : Nat) (x1 : Int32) (x2 : Int32) (x3 : Int32) (w : A_W) (h : F_M_allowed_0 t x1 x2 x3 w = some res) : Sm G X w 0 0 [some (.ref t), some (.int x1), some (.int x2), some (.int x3), none, none] [] 0 := by
  unfold F_M_allowed_0 at h
  refine Sm_run K ek_M_allowed 0 1 rfl ?_
  obtain ⟨o2, e_o2, h⟩ := Option.bind_eq_some_iff.mp h
  obtain ⟨p1, e_p1, h⟩ := Option.bind_eq_some_iff.mp h
  refine Sm_callV K (eok_i (eo ek_M_allowed (i := 1) rfl) rfl) cy_M_thinks im_M_thinks se_M_thinks (lgm 980 (by decide +kernel) rfl) ⟨Nat.le_of_ble_eq_true rfl, Nat.le_of_ble_eq_true rfl⟩ (as := []) (b := t) (st := []) (ob_e e_o2) (by decide) rfl rfl rfl rfl (Nat.le_of_ble_eq_true rfl) ⟨Nat.le_of_ble_eq_true rfl, Nat.le_of_ble_eq_true rfl⟩ (cn_M_thinks e_p1) ?_
  refine Sm_eq (st1 := []) (nc1 := 0) (ns1 := 0) rfl rfl rfl ?_
  refine Sm_run K ek_M_allowed 2 4 rfl ?_
  exact Sm_le (leR_s (leR_s (leR_s (leR_s (leR_s (leR_s leR_nil)))))) (s_M_allowed_10 K hQ FU _ _ _ _ _ _ _ h)
def F_M_allowed (t : Nat) (x1 : Int32) (x2 : Int32) (x3 : Int32) (w : A_W) : Option (Int32 × A_W) := F_M_allowed_0 t x1 x2 x3 w
theorem cn_M_allowed {G : Gx} {t : Nat} {x1 : Int32} {x2 : Int32} {x3 : Int32} {w : A_W} {res : Int32 × A_W} (h : F_M_allowed t x1 x2 x3 w = some res) : Cn G y_M_allowed c_M_allowed 6 (some .int) rm_M_allowed [.ref t, .int x1, .int x2, .int x3] w (some (.int res.1)) res.2 :=
  Cn_of (own := 4) cy_M_allowed rfl rfl (Nat.le_of_ble_eq_true rfl) rfl (fun X K _ hQ => Sm_le (leR_s (leR_s (leR_s (leR_s (leR_n (leR_n leR_nil)))))) (s_M_allowed_0 K hQ _ _ _ _ _ h))
/-! EveningCloakModel.fits(II)I -/
abbrev c_M_fits : ByteArray := prog_6_method_68_code
def y_M_fits : MethodName := ⟨"EveningCloakModel", "fits", "(II)I"⟩
def rm_M_fits : Room := { frames := 7, cells := 0, slots := 0, locals := 164 }
theorem cy_M_fits : Cy y_M_fits c_M_fits 4 (some .int) 2 := ⟨lgm 1053 (by decide +kernel) rfl, lgm 73 (by decide +kernel) rfl, by decide +kernel, by decide +kernel⟩
theorem im_M_fits : Cond.instanceMethod y_M_fits ∈ lg := lgm 1051 (by decide +kernel) rfl
theorem se_M_fits : Cond.selects y_M_fits.cls y_M_fits y_M_fits ∈ lg := lgm 1052 (by decide +kernel) rfl
def e_M_fits : List Ent := [
  (0, .aload_n 0, 1, 1, .null, 0, 0, 0),
  (1, .iload_n 1, 1, 2, .null, 0, 0, 0),
  (2, .iload_n 2, 1, 3, .null, 0, 0, 0),
  (3, .invokevirtual 175, 3, 6, .null, 0, 0, 0),
  (6, .istore_n 3, 1, 7, .null, 0, 0, 0),
  (7, .iload_n 3, 1, 8, .null, 0, 0, 0),
  (8, .ifCond .eq 11, 3, 19, .null, 0, 0, 0),
  (11, .aload_n 0, 1, 12, .null, 0, 0, 0),
  (12, .iload_n 3, 1, 13, .null, 0, 0, 0),
  (13, .invokevirtual 36, 3, 16, .null, 0, 0, 0),
  (16, .goto 19, 3, 35, .null, 0, 0, 0),
  (19, .aload_n 0, 1, 20, .null, 0, 0, 0),
  (20, .iload_n 1, 1, 21, .null, 0, 0, 0),
  (21, .bipush 11, 2, 23, .int 11, 0, 0, 0),
  (23, .bipush 6, 2, 25, .int 6, 0, 0, 0),
  (25, .iload_n 2, 1, 26, .null, 0, 0, 0),
  (26, .imul, 1, 27, .null, 0, 0, 0),
  (27, .iadd, 1, 28, .null, 0, 0, 0),
  (28, .iconst 1, 1, 29, .int 1, 0, 0, 0),
  (29, .iadd, 1, 30, .null, 0, 0, 0),
  (30, .bipush 16, 2, 32, .int 16, 0, 0, 0),
  (32, .invokevirtual 178, 3, 35, .null, 0, 0, 0),
  (35, .ireturn, 1, 36, .null, 0, 0, 0)]
set_option maxRecDepth 100000 in
theorem ek_M_fits : e_M_fits.all (eok 4 c_M_fits) = true := by decide +kernel
def F_M_fits_35 (y0 : Int32) (w : A_W) : Option (Int32 × A_W) :=
  some (y0, w)
def F_M_fits_0 (t : Nat) (x1 : Int32) (x2 : Int32) (w : A_W) : Option (Int32 × A_W) :=
  (ob w t 4).bind fun o2 =>
  (F_M_notAsked t x1 x2 w).bind fun p1 =>
  if p1.1 = 0 then
    (ob p1.2 t 4).bind fun o5 =>
    (F_M_allowed t x1 ((11 + (6 * x2)) + 1) 16 p1.2).bind fun p4 =>
    F_M_fits_35 p4.1 p4.2
  else
    (ob p1.2 t 4).bind fun o7 =>
    (F_M_finds t p1.1 p1.2).bind fun p6 =>
    F_M_fits_35 p6.1 p6.2
set_option maxHeartbeats 4000000 in
set_option maxRecDepth 100000 in
theorem s_M_fits_35 {G : Gx} {X : Cx} {res : Int32 × A_W} (K : Ok G X 4 c_M_fits 4 (some .int) rm_M_fits) (hQ : QQ G X (some (.int res.1)) res.2 0 0) (y0 : Int32) (w : A_W) (h : F_M_fits_35 y0 w = some res) : Sm G X w 0 0 [none, none, none, none] [.int y0] 35 := by
  unfold F_M_fits_35 at h
  obtain rfl := Option.some.inj h
  exact Sm_reti K hQ (eok_i (eo ek_M_fits (i := 22) rfl) rfl)
set_option maxHeartbeats 4000000 in
set_option maxRecDepth 100000 in
theorem s_M_fits_0 {G : Gx} {X : Cx} {res : Int32 × A_W} (K : Ok G X 4 c_M_fits 4 (some .int) rm_M_fits) (hQ : QQ G X (some (.int res.1)) res.2 0 0) (t : Nat) (x1 : Int32) (x2 : Int32) (w : A_W) (h : F_M_fits_0 t x1 x2 w = some res) : Sm G X w 0 0 [some (.ref t), some (.int x1), some (.int x2), none] [] 0 := by
  unfold F_M_fits_0 at h
  refine Sm_run K ek_M_fits 0 3 rfl ?_
  obtain ⟨o2, e_o2, h⟩ := Option.bind_eq_some_iff.mp h
  obtain ⟨p1, e_p1, h⟩ := Option.bind_eq_some_iff.mp h
  refine Sm_callV K (eok_i (eo ek_M_fits (i := 3) rfl) rfl) cy_M_notAsked im_M_notAsked se_M_notAsked (lgm 1054 (by decide +kernel) rfl) ⟨Nat.le_of_ble_eq_true rfl, Nat.le_of_ble_eq_true rfl⟩ (as := [.int x1, .int x2]) (b := t) (st := []) (ob_e e_o2) (by decide) rfl rfl rfl rfl (Nat.le_of_ble_eq_true rfl) ⟨Nat.le_of_ble_eq_true rfl, Nat.le_of_ble_eq_true rfl⟩ (cn_M_notAsked e_p1) ?_
  refine Sm_eq (st1 := .int p1.1 :: []) (nc1 := 0) (ns1 := 0) rfl rfl rfl ?_
  refine Sm_run K ek_M_fits 4 2 rfl ?_
  refine Sm_if_eq K (eo ek_M_fits (i := 6) rfl) (fun c3 => ?_) (fun c3 => ?_)
  · rw [if_pos c3] at h
    refine Sm_run K ek_M_fits 11 10 rfl ?_
    obtain ⟨o5, e_o5, h⟩ := Option.bind_eq_some_iff.mp h
    obtain ⟨p4, e_p4, h⟩ := Option.bind_eq_some_iff.mp h
    refine Sm_callV K (eok_i (eo ek_M_fits (i := 21) rfl) rfl) cy_M_allowed im_M_allowed se_M_allowed (lgm 1066 (by decide +kernel) rfl) ⟨Nat.le_of_ble_eq_true rfl, Nat.le_of_ble_eq_true rfl⟩ (as := [.int x1, .int ((11 + (6 * x2)) + 1), .int 16]) (b := t) (st := []) (ob_e e_o5) (by decide) rfl rfl rfl rfl (Nat.le_of_ble_eq_true rfl) ⟨Nat.le_of_ble_eq_true rfl, Nat.le_of_ble_eq_true rfl⟩ (cn_M_allowed e_p4) ?_
    refine Sm_eq (st1 := .int p4.1 :: []) (nc1 := 0) (ns1 := 0) rfl rfl rfl ?_
    exact Sm_le (leR_n (leR_n (leR_n (leR_n leR_nil)))) (s_M_fits_35 K hQ _ _ h)
  · rw [if_neg c3] at h
    refine Sm_run K ek_M_fits 7 2 rfl ?_
    obtain ⟨o7, e_o7, h⟩ := Option.bind_eq_some_iff.mp h
    obtain ⟨p6, e_p6, h⟩ := Option.bind_eq_some_iff.mp h
    refine Sm_callV K (eok_i (eo ek_M_fits (i := 9) rfl) rfl) cy_M_finds im_M_finds se_M_finds (lgm 826 (by decide +kernel) rfl) ⟨Nat.le_of_ble_eq_true rfl, Nat.le_of_ble_eq_true rfl⟩ (as := [.int p1.1]) (b := t) (st := []) (ob_e e_o7) (by decide) rfl rfl rfl rfl (Nat.le_of_ble_eq_true rfl) ⟨Nat.le_of_ble_eq_true rfl, Nat.le_of_ble_eq_true rfl⟩ (cn_M_finds e_p6) ?_
    refine Sm_eq (st1 := .int p6.1 :: []) (nc1 := 0) (ns1 := 0) rfl rfl rfl ?_
    refine Sm_run K ek_M_fits 10 1 rfl ?_
    exact Sm_le (leR_n (leR_n (leR_n (leR_n leR_nil)))) (s_M_fits_35 K hQ _ _ h)
def F_M_fits (t : Nat) (x1 : Int32) (x2 : Int32) (w : A_W) : Option (Int32 × A_W) := F_M_fits_0 t x1 x2 w
theorem cn_M_fits {G : Gx} {t : Nat} {x1 : Int32} {x2 : Int32} {w : A_W} {res : Int32 × A_W} (h : F_M_fits t x1 x2 w = some res) : Cn G y_M_fits c_M_fits 4 (some .int) rm_M_fits [.ref t, .int x1, .int x2] w (some (.int res.1)) res.2 :=
  Cn_of (own := 4) cy_M_fits rfl rfl (Nat.le_of_ble_eq_true rfl) rfl (fun X K _ hQ => Sm_le (leR_s (leR_s (leR_s (leR_n leR_nil)))) (s_M_fits_0 K hQ _ _ _ _ h))
/-! EveningCloakModel.kinds(II)I -/
abbrev c_M_kinds : ByteArray := prog_6_method_69_code
def y_M_kinds : MethodName := ⟨"EveningCloakModel", "kinds", "(II)I"⟩
def rm_M_kinds : Room := { frames := 7, cells := 0, slots := 0, locals := 164 }
theorem cy_M_kinds : Cy y_M_kinds c_M_kinds 4 (some .int) 2 := ⟨lgm 1077 (by decide +kernel) rfl, lgm 73 (by decide +kernel) rfl, by decide +kernel, by decide +kernel⟩
theorem im_M_kinds : Cond.instanceMethod y_M_kinds ∈ lg := lgm 1075 (by decide +kernel) rfl
theorem se_M_kinds : Cond.selects y_M_kinds.cls y_M_kinds y_M_kinds ∈ lg := lgm 1076 (by decide +kernel) rfl
def e_M_kinds : List Ent := [
  (0, .aload_n 0, 1, 1, .null, 0, 0, 0),
  (1, .iload_n 1, 1, 2, .null, 0, 0, 0),
  (2, .iload_n 2, 1, 3, .null, 0, 0, 0),
  (3, .invokevirtual 175, 3, 6, .null, 0, 0, 0),
  (6, .istore_n 3, 1, 7, .null, 0, 0, 0),
  (7, .iload_n 3, 1, 8, .null, 0, 0, 0),
  (8, .ifCond .eq 11, 3, 19, .null, 0, 0, 0),
  (11, .aload_n 0, 1, 12, .null, 0, 0, 0),
  (12, .iload_n 3, 1, 13, .null, 0, 0, 0),
  (13, .invokevirtual 36, 3, 16, .null, 0, 0, 0),
  (16, .goto 17, 3, 33, .null, 0, 0, 0),
  (19, .aload_n 0, 1, 20, .null, 0, 0, 0),
  (20, .iload_n 1, 1, 21, .null, 0, 0, 0),
  (21, .bipush 11, 2, 23, .int 11, 0, 0, 0),
  (23, .bipush 6, 2, 25, .int 6, 0, 0, 0),
  (25, .iload_n 2, 1, 26, .null, 0, 0, 0),
  (26, .imul, 1, 27, .null, 0, 0, 0),
  (27, .iadd, 1, 28, .null, 0, 0, 0),
  (28, .bipush 7, 2, 30, .int 7, 0, 0, 0),
  (30, .invokevirtual 178, 3, 33, .null, 0, 0, 0),
  (33, .ireturn, 1, 34, .null, 0, 0, 0)]
set_option maxRecDepth 100000 in
theorem ek_M_kinds : e_M_kinds.all (eok 4 c_M_kinds) = true := by decide +kernel
def F_M_kinds_33 (y0 : Int32) (w : A_W) : Option (Int32 × A_W) :=
  some (y0, w)
def F_M_kinds_0 (t : Nat) (x1 : Int32) (x2 : Int32) (w : A_W) : Option (Int32 × A_W) :=
  (ob w t 4).bind fun o2 =>
  (F_M_notAsked t x1 x2 w).bind fun p1 =>
  if p1.1 = 0 then
    (ob p1.2 t 4).bind fun o5 =>
    (F_M_allowed t x1 (11 + (6 * x2)) 7 p1.2).bind fun p4 =>
    F_M_kinds_33 p4.1 p4.2
  else
    (ob p1.2 t 4).bind fun o7 =>
    (F_M_finds t p1.1 p1.2).bind fun p6 =>
    F_M_kinds_33 p6.1 p6.2
set_option maxHeartbeats 4000000 in
set_option maxRecDepth 100000 in
theorem s_M_kinds_33 {G : Gx} {X : Cx} {res : Int32 × A_W} (K : Ok G X 4 c_M_kinds 4 (some .int) rm_M_kinds) (hQ : QQ G X (some (.int res.1)) res.2 0 0) (y0 : Int32) (w : A_W) (h : F_M_kinds_33 y0 w = some res) : Sm G X w 0 0 [none, none, none, none] [.int y0] 33 := by
  unfold F_M_kinds_33 at h
  obtain rfl := Option.some.inj h
  exact Sm_reti K hQ (eok_i (eo ek_M_kinds (i := 20) rfl) rfl)
set_option maxHeartbeats 4000000 in
set_option maxRecDepth 100000 in
theorem s_M_kinds_0 {G : Gx} {X : Cx} {res : Int32 × A_W} (K : Ok G X 4 c_M_kinds 4 (some .int) rm_M_kinds) (hQ : QQ G X (some (.int res.1)) res.2 0 0) (t : Nat) (x1 : Int32) (x2 : Int32) (w : A_W) (h : F_M_kinds_0 t x1 x2 w = some res) : Sm G X w 0 0 [some (.ref t), some (.int x1), some (.int x2), none] [] 0 := by
  unfold F_M_kinds_0 at h
  refine Sm_run K ek_M_kinds 0 3 rfl ?_
  obtain ⟨o2, e_o2, h⟩ := Option.bind_eq_some_iff.mp h
  obtain ⟨p1, e_p1, h⟩ := Option.bind_eq_some_iff.mp h
  refine Sm_callV K (eok_i (eo ek_M_kinds (i := 3) rfl) rfl) cy_M_notAsked im_M_notAsked se_M_notAsked (lgm 1054 (by decide +kernel) rfl) ⟨Nat.le_of_ble_eq_true rfl, Nat.le_of_ble_eq_true rfl⟩ (as := [.int x1, .int x2]) (b := t) (st := []) (ob_e e_o2) (by decide) rfl rfl rfl rfl (Nat.le_of_ble_eq_true rfl) ⟨Nat.le_of_ble_eq_true rfl, Nat.le_of_ble_eq_true rfl⟩ (cn_M_notAsked e_p1) ?_
  refine Sm_eq (st1 := .int p1.1 :: []) (nc1 := 0) (ns1 := 0) rfl rfl rfl ?_
  refine Sm_run K ek_M_kinds 4 2 rfl ?_
  refine Sm_if_eq K (eo ek_M_kinds (i := 6) rfl) (fun c3 => ?_) (fun c3 => ?_)
  · rw [if_pos c3] at h
    refine Sm_run K ek_M_kinds 11 8 rfl ?_
    obtain ⟨o5, e_o5, h⟩ := Option.bind_eq_some_iff.mp h
    obtain ⟨p4, e_p4, h⟩ := Option.bind_eq_some_iff.mp h
    refine Sm_callV K (eok_i (eo ek_M_kinds (i := 19) rfl) rfl) cy_M_allowed im_M_allowed se_M_allowed (lgm 1066 (by decide +kernel) rfl) ⟨Nat.le_of_ble_eq_true rfl, Nat.le_of_ble_eq_true rfl⟩ (as := [.int x1, .int (11 + (6 * x2)), .int 7]) (b := t) (st := []) (ob_e e_o5) (by decide) rfl rfl rfl rfl (Nat.le_of_ble_eq_true rfl) ⟨Nat.le_of_ble_eq_true rfl, Nat.le_of_ble_eq_true rfl⟩ (cn_M_allowed e_p4) ?_
    refine Sm_eq (st1 := .int p4.1 :: []) (nc1 := 0) (ns1 := 0) rfl rfl rfl ?_
    exact Sm_le (leR_n (leR_n (leR_n (leR_n leR_nil)))) (s_M_kinds_33 K hQ _ _ h)
  · rw [if_neg c3] at h
    refine Sm_run K ek_M_kinds 7 2 rfl ?_
    obtain ⟨o7, e_o7, h⟩ := Option.bind_eq_some_iff.mp h
    obtain ⟨p6, e_p6, h⟩ := Option.bind_eq_some_iff.mp h
    refine Sm_callV K (eok_i (eo ek_M_kinds (i := 9) rfl) rfl) cy_M_finds im_M_finds se_M_finds (lgm 826 (by decide +kernel) rfl) ⟨Nat.le_of_ble_eq_true rfl, Nat.le_of_ble_eq_true rfl⟩ (as := [.int p1.1]) (b := t) (st := []) (ob_e e_o7) (by decide) rfl rfl rfl rfl (Nat.le_of_ble_eq_true rfl) ⟨Nat.le_of_ble_eq_true rfl, Nat.le_of_ble_eq_true rfl⟩ (cn_M_finds e_p6) ?_
    refine Sm_eq (st1 := .int p6.1 :: []) (nc1 := 0) (ns1 := 0) rfl rfl rfl ?_
    refine Sm_run K ek_M_kinds 10 1 rfl ?_
    exact Sm_le (leR_n (leR_n (leR_n (leR_n leR_nil)))) (s_M_kinds_33 K hQ _ _ h)
def F_M_kinds (t : Nat) (x1 : Int32) (x2 : Int32) (w : A_W) : Option (Int32 × A_W) := F_M_kinds_0 t x1 x2 w
theorem cn_M_kinds {G : Gx} {t : Nat} {x1 : Int32} {x2 : Int32} {w : A_W} {res : Int32 × A_W} (h : F_M_kinds t x1 x2 w = some res) : Cn G y_M_kinds c_M_kinds 4 (some .int) rm_M_kinds [.ref t, .int x1, .int x2] w (some (.int res.1)) res.2 :=
  Cn_of (own := 4) cy_M_kinds rfl rfl (Nat.le_of_ble_eq_true rfl) rfl (fun X K _ hQ => Sm_le (leR_s (leR_s (leR_s (leR_n leR_nil)))) (s_M_kinds_0 K hQ _ _ _ _ h))
/-! EveningCloakModel.draw()I -/
abbrev c_M_draw : ByteArray := prog_6_method_70_code
def y_M_draw : MethodName := ⟨"EveningCloakModel", "draw", "()I"⟩
def rm_M_draw : Room := { frames := 0, cells := 0, slots := 0, locals := 0 }
theorem cy_M_draw : Cy y_M_draw c_M_draw 1 (some .int) 0 := ⟨lgm 1085 (by decide +kernel) rfl, lgm 73 (by decide +kernel) rfl, by decide +kernel, by decide +kernel⟩
theorem im_M_draw : Cond.instanceMethod y_M_draw ∈ lg := lgm 1084 (by decide +kernel) rfl
theorem se_M_draw : Cond.selects y_M_draw.cls y_M_draw y_M_draw ∈ lg := lgm 53 (by decide +kernel) rfl
def e_M_draw : List Ent := [
  (0, .aload_n 0, 1, 1, .null, 0, 0, 0),
  (1, .getfield 9, 3, 4, .null, 4, 0, 762),
  (4, .iconst 2, 1, 5, .int 2, 0, 0, 0),
  (5, .aload_n 0, 1, 6, .null, 0, 0, 0),
  (6, .getfield 9, 3, 9, .null, 4, 0, 762),
  (9, .iconst 2, 1, 10, .int 2, 0, 0, 0),
  (10, .iaload, 1, 11, .null, 0, 0, 0),
  (11, .ldc 181, 2, 13, .int 1103515245, 0, 0, 1086),
  (13, .imul, 1, 14, .null, 0, 0, 0),
  (14, .sipush 12345, 3, 17, .int 12345, 0, 0, 0),
  (17, .iadd, 1, 18, .null, 0, 0, 0),
  (18, .iastore, 1, 19, .null, 0, 0, 0),
  (19, .aload_n 0, 1, 20, .null, 0, 0, 0),
  (20, .getfield 9, 3, 23, .null, 4, 0, 762),
  (23, .iconst 2, 1, 24, .int 2, 0, 0, 0),
  (24, .iaload, 1, 25, .null, 0, 0, 0),
  (25, .bipush 8, 2, 27, .int 8, 0, 0, 0),
  (27, .iushr, 1, 28, .null, 0, 0, 0),
  (28, .ireturn, 1, 29, .null, 0, 0, 0)]
set_option maxRecDepth 100000 in
theorem ek_M_draw : e_M_draw.all (eok 4 c_M_draw) = true := by decide +kernel
def F_M_draw_0 (t : Nat) (w : A_W) : Option (Int32 × A_W) :=
  (gr w t 4 0).bind fun a1 =>
  (gr w t 4 0).bind fun a2 =>
  (rd w a2 2).bind fun v3 =>
  (wr w a1 2 ((v3 * 1103515245) + 12345)).bind fun w4 =>
  (gr w4 t 4 0).bind fun a5 =>
  (rd w4 a5 2).bind fun v6 =>
  some ((Int32.toUInt32 v6 >>> (Int32.toUInt32 8 &&& Int32.toUInt32 31)).toInt32, w4)
set_option maxHeartbeats 4000000 in
set_option maxRecDepth 100000 in
theorem s_M_draw_0 {G : Gx} {X : Cx} {res : Int32 × A_W} (K : Ok G X 4 c_M_draw 1 (some .int) rm_M_draw) (hQ : QQ G X (some (.int res.1)) res.2 0 0) (t : Nat) (w : A_W) (h : F_M_draw_0 t w = some res) : Sm G X w 0 0 [some (.ref t)] [] 0 := by
  unfold F_M_draw_0 at h
  refine Sm_run K ek_M_draw 0 1 rfl ?_
  obtain ⟨a1, e_a1, h⟩ := Option.bind_eq_some_iff.mp h
  refine Sm_gr K (eo ek_M_draw (i := 1) rfl) e_a1 ?_
  refine Sm_run K ek_M_draw 2 2 rfl ?_
  obtain ⟨a2, e_a2, h⟩ := Option.bind_eq_some_iff.mp h
  refine Sm_gr K (eo ek_M_draw (i := 4) rfl) e_a2 ?_
  refine Sm_run K ek_M_draw 5 1 rfl ?_
  obtain ⟨v3, e_v3, h⟩ := Option.bind_eq_some_iff.mp h
  refine Sm_rd K (eok_i (eo ek_M_draw (i := 6) rfl) rfl) e_v3 ?_
  refine Sm_run K ek_M_draw 7 4 rfl ?_
  obtain ⟨w4, e_w4, h⟩ := Option.bind_eq_some_iff.mp h
  refine Sm_wr K (eok_i (eo ek_M_draw (i := 11) rfl) rfl) e_w4 ?_
  refine Sm_run K ek_M_draw 12 1 rfl ?_
  obtain ⟨a5, e_a5, h⟩ := Option.bind_eq_some_iff.mp h
  refine Sm_gr K (eo ek_M_draw (i := 13) rfl) e_a5 ?_
  refine Sm_run K ek_M_draw 14 1 rfl ?_
  obtain ⟨v6, e_v6, h⟩ := Option.bind_eq_some_iff.mp h
  refine Sm_rd K (eok_i (eo ek_M_draw (i := 15) rfl) rfl) e_v6 ?_
  refine Sm_run K ek_M_draw 16 2 rfl ?_
  obtain rfl := Option.some.inj h
  exact Sm_reti K hQ (eok_i (eo ek_M_draw (i := 18) rfl) rfl)
def F_M_draw (t : Nat) (w : A_W) : Option (Int32 × A_W) := F_M_draw_0 t w
theorem cn_M_draw {G : Gx} {t : Nat} {w : A_W} {res : Int32 × A_W} (h : F_M_draw t w = some res) : Cn G y_M_draw c_M_draw 1 (some .int) rm_M_draw [.ref t] w (some (.int res.1)) res.2 :=
  Cn_of (own := 4) cy_M_draw rfl rfl (Nat.le_of_ble_eq_true rfl) rfl (fun X K _ hQ => Sm_le (leR_s leR_nil) (s_M_draw_0 K hQ _ _ h))
/-! EveningCloakModel.night(I)I -/
abbrev c_M_night : ByteArray := prog_6_method_71_code
def y_M_night : MethodName := ⟨"EveningCloakModel", "night", "(I)I"⟩
def rm_M_night : Room := { frames := 5, cells := 0, slots := 0, locals := 115 }
theorem cy_M_night : Cy y_M_night c_M_night 4 (some .int) 1 := ⟨lgm 1081 (by decide +kernel) rfl, lgm 73 (by decide +kernel) rfl, by decide +kernel, by decide +kernel⟩
theorem im_M_night : Cond.instanceMethod y_M_night ∈ lg := lgm 1079 (by decide +kernel) rfl
theorem se_M_night : Cond.selects y_M_night.cls y_M_night y_M_night ∈ lg := lgm 1080 (by decide +kernel) rfl
def e_M_night : List Ent := [
  (0, .iload_n 1, 1, 1, .null, 0, 0, 0),
  (1, .iconst 1, 1, 2, .int 1, 0, 0, 0),
  (2, .bipush 20, 2, 4, .int 20, 0, 0, 0),
  (4, .invokestatic 40, 3, 7, .null, 0, 0, 0),
  (7, .ifCond .ne 10, 3, 17, .null, 0, 0, 0),
  (10, .aload_n 0, 1, 11, .null, 0, 0, 0),
  (11, .ldc 34, 2, 13, .int (-1000001), 0, 0, 825),
  (13, .invokevirtual 36, 3, 16, .null, 0, 0, 0),
  (16, .ireturn, 1, 17, .null, 0, 0, 0),
  (17, .aload_n 0, 1, 18, .null, 0, 0, 0),
  (18, .getfield 9, 3, 21, .null, 4, 0, 762),
  (21, .iconst 0, 1, 22, .int 0, 0, 0, 0),
  (22, .iaload, 1, 23, .null, 0, 0, 0),
  (23, .iload_n 1, 1, 24, .null, 0, 0, 0),
  (24, .iadd, 1, 25, .null, 0, 0, 0),
  (25, .ldc 117, 2, 27, .int 99999, 0, 0, 938),
  (27, .if_icmp .le 10, 3, 37, .null, 0, 0, 0),
  (30, .aload_n 0, 1, 31, .null, 0, 0, 0),
  (31, .ldc 121, 2, 33, .int (-1000005), 0, 0, 939),
  (33, .invokevirtual 36, 3, 36, .null, 0, 0, 0),
  (36, .ireturn, 1, 37, .null, 0, 0, 0),
  (37, .iconst 0, 1, 38, .int 0, 0, 0, 0),
  (38, .istore_n 2, 1, 39, .null, 0, 0, 0),
  (39, .iload_n 2, 1, 40, .null, 0, 0, 0),
  (40, .iload_n 1, 1, 41, .null, 0, 0, 0),
  (41, .if_icmp .ge 49, 3, 90, .null, 0, 0, 0),
  (44, .aload_n 0, 1, 45, .null, 0, 0, 0),
  (45, .invokevirtual 182, 3, 48, .null, 0, 0, 0),
  (48, .bipush 6, 2, 50, .int 6, 0, 0, 0),
  (50, .irem, 1, 51, .null, 0, 0, 0),
  (51, .istore_n 3, 1, 52, .null, 0, 0, 0),
  (52, .aload_n 0, 1, 53, .null, 0, 0, 0),
  (53, .getfield 9, 3, 56, .null, 4, 0, 762),
  (56, .iconst 5, 1, 57, .int 5, 0, 0, 0),
  (57, .aload_n 0, 1, 58, .null, 0, 0, 0),
  (58, .getfield 9, 3, 61, .null, 4, 0, 762),
  (61, .iconst 0, 1, 62, .int 0, 0, 0, 0),
  (62, .iaload, 1, 63, .null, 0, 0, 0),
  (63, .bipush 6, 2, 65, .int 6, 0, 0, 0),
  (65, .irem, 1, 66, .null, 0, 0, 0),
  (66, .iadd, 1, 67, .null, 0, 0, 0),
  (67, .bipush 100, 2, 69, .int 100, 0, 0, 0),
  (69, .iload_n 3, 1, 70, .null, 0, 0, 0),
  (70, .imul, 1, 71, .null, 0, 0, 0),
  (71, .aload_n 0, 1, 72, .null, 0, 0, 0),
  (72, .invokevirtual 182, 3, 75, .null, 0, 0, 0),
  (75, .bipush 16, 2, 77, .int 16, 0, 0, 0),
  (77, .irem, 1, 78, .null, 0, 0, 0),
  (78, .iadd, 1, 79, .null, 0, 0, 0),
  (79, .iastore, 1, 80, .null, 0, 0, 0),
  (80, .aload_n 0, 1, 81, .null, 0, 0, 0),
  (81, .invokevirtual 118, 3, 84, .null, 0, 0, 0),
  (84, .iinc 2 1, 3, 87, .int 1, 0, 0, 0),
  (87, .goto (-48), 3, 39, .null, 0, 0, 0),
  (90, .aload_n 0, 1, 91, .null, 0, 0, 0),
  (91, .iconst 2, 1, 92, .int 2, 0, 0, 0),
  (92, .invokevirtual 126, 3, 95, .null, 0, 0, 0),
  (95, .ireturn, 1, 96, .null, 0, 0, 0)]
set_option maxRecDepth 100000 in
theorem ek_M_night : e_M_night.all (eok 4 c_M_night) = true := by decide +kernel
def F_M_night_39 : Nat → Nat → Int32 → Int32 → A_W → Option (Int32 × A_W)
  | 0, _, _, _, _ => none
  | n + 1, t, x1, x2, w =>
    if x1 ≤ x2 then
      (ob w t 4).bind fun o3 =>
      (F_M_sums t 2 w).bind fun p2 =>
      some (p2.1, p2.2)
    else
      (ob w t 4).bind fun o5 =>
      (F_M_draw t w).bind fun p4 =>
      (gr p4.2 t 4 0).bind fun a6 =>
      (gr p4.2 t 4 0).bind fun a7 =>
      (rd p4.2 a7 0).bind fun v8 =>
      (ob p4.2 t 4).bind fun o10 =>
      (F_M_draw t p4.2).bind fun p9 =>
      (wr p9.2 a6 (5 + (jrem v8 6)) ((100 * (jrem p4.1 6)) + (jrem p9.1 16))).bind fun w11 =>
      (ob w11 t 4).bind fun o13 =>
      (F_M_goes t w11).bind fun p12 =>
      F_M_night_39 n t x1 (x2 + 1) p12
def F_M_night_0 (t : Nat) (x1 : Int32) (w : A_W) : Option (Int32 × A_W) :=
  (F_M_in x1 1 20 w).bind fun p1 =>
  if p1.1 = 0 then
    (ob p1.2 t 4).bind fun o9 =>
    (F_M_finds t (-1000001) p1.2).bind fun p8 =>
    some (p8.1, p8.2)
  else
    (gr p1.2 t 4 0).bind fun a3 =>
    (rd p1.2 a3 0).bind fun v4 =>
    if (v4 + x1) ≤ 99999 then
      F_M_night_39 FU t x1 0 p1.2
    else
      (ob p1.2 t 4).bind fun o7 =>
      (F_M_finds t (-1000005) p1.2).bind fun p6 =>
      some (p6.1, p6.2)
set_option maxHeartbeats 4000000 in
set_option maxRecDepth 100000 in
theorem s_M_night_39 {G : Gx} {X : Cx} {res : Int32 × A_W} (K : Ok G X 4 c_M_night 4 (some .int) rm_M_night) (hQ : QQ G X (some (.int res.1)) res.2 0 0) : ∀ (n : Nat) (t : Nat) (x1 : Int32) (x2 : Int32) (w : A_W), F_M_night_39 n t x1 x2 w = some res → Sm G X w 0 0 [some (.ref t), some (.int x1), some (.int x2), none] [] 39 := by
  intro n
  induction n with
  | zero => intro t x1 x2 w h; cases h
  | succ n ih =>
    intro t x1 x2 w h
    rw [F_M_night_39] at h
    refine Sm_run K ek_M_night 23 2 rfl ?_
    refine Sm_ic_ge K (eo ek_M_night (i := 25) rfl) (fun c1 => ?_) (fun c1 => ?_)
    · rw [if_pos c1] at h
      refine Sm_run K ek_M_night 54 2 rfl ?_
      obtain ⟨o3, e_o3, h⟩ := Option.bind_eq_some_iff.mp h
      obtain ⟨p2, e_p2, h⟩ := Option.bind_eq_some_iff.mp h
      refine Sm_callV K (eok_i (eo ek_M_night (i := 56) rfl) rfl) cy_M_sums im_M_sums se_M_sums (lgm 960 (by decide +kernel) rfl) ⟨Nat.le_of_ble_eq_true rfl, Nat.le_of_ble_eq_true rfl⟩ (as := [.int 2]) (b := t) (st := []) (ob_e e_o3) (by decide) rfl rfl rfl rfl (Nat.le_of_ble_eq_true rfl) ⟨Nat.le_of_ble_eq_true rfl, Nat.le_of_ble_eq_true rfl⟩ (cn_M_sums e_p2) ?_
      refine Sm_eq (st1 := .int p2.1 :: []) (nc1 := 0) (ns1 := 0) rfl rfl rfl ?_
      obtain rfl := Option.some.inj h
      exact Sm_reti K hQ (eok_i (eo ek_M_night (i := 57) rfl) rfl)
    · rw [if_neg c1] at h
      refine Sm_run K ek_M_night 26 1 rfl ?_
      obtain ⟨o5, e_o5, h⟩ := Option.bind_eq_some_iff.mp h
      obtain ⟨p4, e_p4, h⟩ := Option.bind_eq_some_iff.mp h
      refine Sm_callV K (eok_i (eo ek_M_night (i := 27) rfl) rfl) cy_M_draw im_M_draw se_M_draw (lgm 1082 (by decide +kernel) rfl) ⟨Nat.le_of_ble_eq_true rfl, Nat.le_of_ble_eq_true rfl⟩ (as := []) (b := t) (st := []) (ob_e e_o5) (by decide) rfl rfl rfl rfl (Nat.le_of_ble_eq_true rfl) ⟨Nat.le_of_ble_eq_true rfl, Nat.le_of_ble_eq_true rfl⟩ (cn_M_draw e_p4) ?_
      refine Sm_eq (st1 := .int p4.1 :: []) (nc1 := 0) (ns1 := 0) rfl rfl rfl ?_
      refine Sm_run K ek_M_night 28 1 rfl ?_
      refine Sm_irem K (eok_i (eo ek_M_night (i := 29) rfl) rfl) (by decide) ?_
      refine Sm_run K ek_M_night 30 2 rfl ?_
      obtain ⟨a6, e_a6, h⟩ := Option.bind_eq_some_iff.mp h
      refine Sm_gr K (eo ek_M_night (i := 32) rfl) e_a6 ?_
      refine Sm_run K ek_M_night 33 2 rfl ?_
      obtain ⟨a7, e_a7, h⟩ := Option.bind_eq_some_iff.mp h
      refine Sm_gr K (eo ek_M_night (i := 35) rfl) e_a7 ?_
      refine Sm_run K ek_M_night 36 1 rfl ?_
      obtain ⟨v8, e_v8, h⟩ := Option.bind_eq_some_iff.mp h
      refine Sm_rd K (eok_i (eo ek_M_night (i := 37) rfl) rfl) e_v8 ?_
      refine Sm_run K ek_M_night 38 1 rfl ?_
      refine Sm_irem K (eok_i (eo ek_M_night (i := 39) rfl) rfl) (by decide) ?_
      refine Sm_run K ek_M_night 40 5 rfl ?_
      obtain ⟨o10, e_o10, h⟩ := Option.bind_eq_some_iff.mp h
      obtain ⟨p9, e_p9, h⟩ := Option.bind_eq_some_iff.mp h
      refine Sm_callV K (eok_i (eo ek_M_night (i := 45) rfl) rfl) cy_M_draw im_M_draw se_M_draw (lgm 1082 (by decide +kernel) rfl) ⟨Nat.le_of_ble_eq_true rfl, Nat.le_of_ble_eq_true rfl⟩ (as := []) (b := t) (st := [.int (100 * (jrem p4.1 6)), .int (5 + (jrem v8 6)), .ref a6]) (ob_e e_o10) (by decide) rfl rfl rfl rfl (Nat.le_of_ble_eq_true rfl) ⟨Nat.le_of_ble_eq_true rfl, Nat.le_of_ble_eq_true rfl⟩ (cn_M_draw e_p9) ?_
      refine Sm_eq (st1 := .int p9.1 :: [.int (100 * (jrem p4.1 6)), .int (5 + (jrem v8 6)), .ref a6]) (nc1 := 0) (ns1 := 0) rfl rfl rfl ?_
      refine Sm_run K ek_M_night 46 1 rfl ?_
      refine Sm_irem K (eok_i (eo ek_M_night (i := 47) rfl) rfl) (by decide) ?_
      refine Sm_run K ek_M_night 48 1 rfl ?_
      obtain ⟨w11, e_w11, h⟩ := Option.bind_eq_some_iff.mp h
      refine Sm_wr K (eok_i (eo ek_M_night (i := 49) rfl) rfl) e_w11 ?_
      refine Sm_run K ek_M_night 50 1 rfl ?_
      obtain ⟨o13, e_o13, h⟩ := Option.bind_eq_some_iff.mp h
      obtain ⟨p12, e_p12, h⟩ := Option.bind_eq_some_iff.mp h
      refine Sm_callV K (eok_i (eo ek_M_night (i := 51) rfl) rfl) cy_M_goes im_M_goes se_M_goes (lgm 944 (by decide +kernel) rfl) ⟨Nat.le_of_ble_eq_true rfl, Nat.le_of_ble_eq_true rfl⟩ (as := []) (b := t) (st := []) (ob_e e_o13) (by decide) rfl rfl rfl rfl (Nat.le_of_ble_eq_true rfl) ⟨Nat.le_of_ble_eq_true rfl, Nat.le_of_ble_eq_true rfl⟩ (cn_M_goes e_p12) ?_
      refine Sm_eq (st1 := []) (nc1 := 0) (ns1 := 0) rfl rfl rfl ?_
      refine Sm_run K ek_M_night 52 2 rfl ?_
      exact Sm_le (leR_s (leR_s (leR_s (leR_n leR_nil)))) (ih _ _ _ _ h)
set_option maxHeartbeats 4000000 in
set_option maxRecDepth 100000 in
theorem s_M_night_0 {G : Gx} {X : Cx} {res : Int32 × A_W} (K : Ok G X 4 c_M_night 4 (some .int) rm_M_night) (hQ : QQ G X (some (.int res.1)) res.2 0 0) (t : Nat) (x1 : Int32) (w : A_W) (h : F_M_night_0 t x1 w = some res) : Sm G X w 0 0 [some (.ref t), some (.int x1), none, none] [] 0 := by
  unfold F_M_night_0 at h
  refine Sm_run K ek_M_night 0 3 rfl ?_
  obtain ⟨p1, e_p1, h⟩ := Option.bind_eq_some_iff.mp h
  refine Sm_callS K (eok_i (eo ek_M_night (i := 3) rfl) rfl) cy_M_in st_M_in (lgm 815 (by decide +kernel) rfl) ⟨Nat.le_of_ble_eq_true rfl, Nat.le_of_ble_eq_true rfl⟩ (as := [.int x1, .int 1, .int 20]) (st := []) rfl rfl rfl (Nat.le_of_ble_eq_true rfl) ⟨Nat.le_of_ble_eq_true rfl, Nat.le_of_ble_eq_true rfl⟩ (cn_M_in e_p1) ?_
  refine Sm_eq (st1 := .int p1.1 :: []) (nc1 := 0) (ns1 := 0) rfl rfl rfl ?_
  refine Sm_if_ne K (eo ek_M_night (i := 4) rfl) (fun c2 => ?_) (fun c2 => ?_)
  · rw [if_neg c2] at h
    refine Sm_run K ek_M_night 9 1 rfl ?_
    obtain ⟨a3, e_a3, h⟩ := Option.bind_eq_some_iff.mp h
    refine Sm_gr K (eo ek_M_night (i := 10) rfl) e_a3 ?_
    refine Sm_run K ek_M_night 11 1 rfl ?_
    obtain ⟨v4, e_v4, h⟩ := Option.bind_eq_some_iff.mp h
    refine Sm_rd K (eok_i (eo ek_M_night (i := 12) rfl) rfl) e_v4 ?_
    refine Sm_run K ek_M_night 13 3 rfl ?_
    refine Sm_ic_le K (eo ek_M_night (i := 16) rfl) (fun c5 => ?_) (fun c5 => ?_)
    · rw [if_pos c5] at h
      refine Sm_run K ek_M_night 21 2 rfl ?_
      exact Sm_le (leR_s (leR_s (leR_s (leR_n leR_nil)))) (s_M_night_39 K hQ FU _ _ _ _ h)
    · rw [if_neg c5] at h
      refine Sm_run K ek_M_night 17 2 rfl ?_
      obtain ⟨o7, e_o7, h⟩ := Option.bind_eq_some_iff.mp h
      obtain ⟨p6, e_p6, h⟩ := Option.bind_eq_some_iff.mp h
      refine Sm_callV K (eok_i (eo ek_M_night (i := 19) rfl) rfl) cy_M_finds im_M_finds se_M_finds (lgm 826 (by decide +kernel) rfl) ⟨Nat.le_of_ble_eq_true rfl, Nat.le_of_ble_eq_true rfl⟩ (as := [.int (-1000005)]) (b := t) (st := []) (ob_e e_o7) (by decide) rfl rfl rfl rfl (Nat.le_of_ble_eq_true rfl) ⟨Nat.le_of_ble_eq_true rfl, Nat.le_of_ble_eq_true rfl⟩ (cn_M_finds e_p6) ?_
      refine Sm_eq (st1 := .int p6.1 :: []) (nc1 := 0) (ns1 := 0) rfl rfl rfl ?_
      obtain rfl := Option.some.inj h
      exact Sm_reti K hQ (eok_i (eo ek_M_night (i := 20) rfl) rfl)
  · rw [if_pos c2] at h
    refine Sm_run K ek_M_night 5 2 rfl ?_
    obtain ⟨o9, e_o9, h⟩ := Option.bind_eq_some_iff.mp h
    obtain ⟨p8, e_p8, h⟩ := Option.bind_eq_some_iff.mp h
    refine Sm_callV K (eok_i (eo ek_M_night (i := 7) rfl) rfl) cy_M_finds im_M_finds se_M_finds (lgm 826 (by decide +kernel) rfl) ⟨Nat.le_of_ble_eq_true rfl, Nat.le_of_ble_eq_true rfl⟩ (as := [.int (-1000001)]) (b := t) (st := []) (ob_e e_o9) (by decide) rfl rfl rfl rfl (Nat.le_of_ble_eq_true rfl) ⟨Nat.le_of_ble_eq_true rfl, Nat.le_of_ble_eq_true rfl⟩ (cn_M_finds e_p8) ?_
    refine Sm_eq (st1 := .int p8.1 :: []) (nc1 := 0) (ns1 := 0) rfl rfl rfl ?_
    obtain rfl := Option.some.inj h
    exact Sm_reti K hQ (eok_i (eo ek_M_night (i := 8) rfl) rfl)
def F_M_night (t : Nat) (x1 : Int32) (w : A_W) : Option (Int32 × A_W) := F_M_night_0 t x1 w
theorem cn_M_night {G : Gx} {t : Nat} {x1 : Int32} {w : A_W} {res : Int32 × A_W} (h : F_M_night t x1 w = some res) : Cn G y_M_night c_M_night 4 (some .int) rm_M_night [.ref t, .int x1] w (some (.int res.1)) res.2 :=
  Cn_of (own := 4) cy_M_night rfl rfl (Nat.le_of_ble_eq_true rfl) rfl (fun X K _ hQ => Sm_le (leR_s (leR_s (leR_n (leR_n leR_nil)))) (s_M_night_0 K hQ _ _ _ h))
/-! EveningCloakModel.odds(II)J -/
abbrev c_M_odds : ByteArray := prog_6_method_72_code
def y_M_odds : MethodName := ⟨"EveningCloakModel", "odds", "(II)J"⟩
def rm_M_odds : Room := { frames := 4, cells := 0, slots := 0, locals := 91 }
theorem cy_M_odds : Cy y_M_odds c_M_odds 10 (some .long) 2 := ⟨lgm 1090 (by decide +kernel) rfl, lgm 73 (by decide +kernel) rfl, by decide +kernel, by decide +kernel⟩
theorem im_M_odds : Cond.instanceMethod y_M_odds ∈ lg := lgm 1088 (by decide +kernel) rfl
theorem se_M_odds : Cond.selects y_M_odds.cls y_M_odds y_M_odds ∈ lg := lgm 1089 (by decide +kernel) rfl
def e_M_odds : List Ent := [
  (0, .iload_n 1, 1, 1, .null, 0, 0, 0),
  (1, .iconst 0, 1, 2, .int 0, 0, 0, 0),
  (2, .bipush 15, 2, 4, .int 15, 0, 0, 0),
  (4, .invokestatic 40, 3, 7, .null, 0, 0, 0),
  (7, .ifCond .eq 12, 3, 19, .null, 0, 0, 0),
  (10, .iload_n 2, 1, 11, .null, 0, 0, 0),
  (11, .iconst 0, 1, 12, .int 0, 0, 0, 0),
  (12, .iconst 1, 1, 13, .int 1, 0, 0, 0),
  (13, .invokestatic 40, 3, 16, .null, 0, 0, 0),
  (16, .ifCond .ne 11, 3, 27, .null, 0, 0, 0),
  (19, .aload_n 0, 1, 20, .null, 0, 0, 0),
  (20, .ldc 34, 2, 22, .int (-1000001), 0, 0, 825),
  (22, .invokevirtual 36, 3, 25, .null, 0, 0, 0),
  (25, .i2l, 1, 26, .null, 0, 0, 0),
  (26, .lreturn, 1, 27, .null, 0, 0, 0),
  (27, .bipush 16, 2, 29, .int 16, 0, 0, 0),
  (29, .aload_n 0, 1, 30, .null, 0, 0, 0),
  (30, .invokevirtual 132, 3, 33, .null, 0, 0, 0),
  (33, .invokestatic 158, 3, 36, .null, 0, 0, 0),
  (36, .isub, 1, 37, .null, 0, 0, 0),
  (37, .i2l, 1, 38, .null, 0, 0, 0),
  (38, .lstore_n 3, 1, 39, .null, 0, 0, 0),
  (39, .ldc2_w 185, 3, 42, .long 16, 0, 0, 1091),
  (42, .lstore 5, 2, 44, .null, 0, 0, 0),
  (44, .lload_n 3, 1, 45, .null, 0, 0, 0),
  (45, .ldc2_w 187, 3, 48, .long 2, 0, 0, 1092),
  (48, .lrem, 1, 49, .null, 0, 0, 0),
  (49, .lconst 0, 1, 50, .long 0, 0, 0, 0),
  (50, .lcmp, 1, 51, .null, 0, 0, 0),
  (51, .ifCond .ne 27, 3, 78, .null, 0, 0, 0),
  (54, .lload 5, 2, 56, .null, 0, 0, 0),
  (56, .lconst 1, 1, 57, .long 1, 0, 0, 0),
  (57, .lcmp, 1, 58, .null, 0, 0, 0),
  (58, .ifCond .le 20, 3, 78, .null, 0, 0, 0),
  (61, .lload_n 3, 1, 62, .null, 0, 0, 0),
  (62, .ldc2_w 187, 3, 65, .long 2, 0, 0, 1092),
  (65, .ldiv, 1, 66, .null, 0, 0, 0),
  (66, .lstore_n 3, 1, 67, .null, 0, 0, 0),
  (67, .lload 5, 2, 69, .null, 0, 0, 0),
  (69, .ldc2_w 187, 3, 72, .long 2, 0, 0, 1092),
  (72, .ldiv, 1, 73, .null, 0, 0, 0),
  (73, .lstore 5, 2, 75, .null, 0, 0, 0),
  (75, .goto (-31), 3, 44, .null, 0, 0, 0),
  (78, .lconst 1, 1, 79, .long 1, 0, 0, 0),
  (79, .lstore 7, 2, 81, .null, 0, 0, 0),
  (81, .iconst 0, 1, 82, .int 0, 0, 0, 0),
  (82, .istore 9, 2, 84, .null, 0, 0, 0),
  (84, .iload 9, 2, 86, .null, 0, 0, 0),
  (86, .iload_n 1, 1, 87, .null, 0, 0, 0),
  (87, .if_icmp .ge 24, 3, 111, .null, 0, 0, 0),
  (90, .lload 7, 2, 92, .null, 0, 0, 0),
  (92, .iload_n 2, 1, 93, .null, 0, 0, 0),
  (93, .ifCond .ne 7, 3, 100, .null, 0, 0, 0),
  (96, .lload_n 3, 1, 97, .null, 0, 0, 0),
  (97, .goto 5, 3, 102, .null, 0, 0, 0),
  (100, .lload 5, 2, 102, .null, 0, 0, 0),
  (102, .lmul, 1, 103, .null, 0, 0, 0),
  (103, .lstore 7, 2, 105, .null, 0, 0, 0),
  (105, .iinc 9 1, 3, 108, .int 1, 0, 0, 0),
  (108, .goto (-24), 3, 84, .null, 0, 0, 0),
  (111, .lload 7, 2, 113, .null, 0, 0, 0),
  (113, .lreturn, 1, 114, .null, 0, 0, 0)]
set_option maxRecDepth 100000 in
theorem ek_M_odds : e_M_odds.all (eok 4 c_M_odds) = true := by decide +kernel
def F_M_odds_19 (t : Nat) (w : A_W) : Option (Int64 × A_W) :=
  (ob w t 4).bind fun o2 =>
  (F_M_finds t (-1000001) w).bind fun p1 =>
  some ((Int32.toInt64 p1.1), p1.2)
def F_M_odds_102 (k84 : Int32 → Int32 → Int64 → Int64 → Int64 → Int32 → A_W → Option (Int64 × A_W)) (x1 : Int32) (x2 : Int32) (x3 : Int64) (x5 : Int64) (x9 : Int32) (y0 : Int64) (y1 : Int64) (w : A_W) : Option (Int64 × A_W) :=
  k84 x1 x2 x3 x5 (y0 * y1) (x9 + 1) w
def F_M_odds_84 : Nat → Int32 → Int32 → Int64 → Int64 → Int64 → Int32 → A_W → Option (Int64 × A_W)
  | 0, _, _, _, _, _, _, _ => none
  | n + 1, x1, x2, x3, x5, x7, x9, w =>
    if x1 ≤ x9 then
      some (x7, w)
    else
      if x2 = 0 then
        F_M_odds_102 (F_M_odds_84 n) x1 x2 x3 x5 x9 x7 x3 w
      else
        F_M_odds_102 (F_M_odds_84 n) x1 x2 x3 x5 x9 x7 x5 w
def F_M_odds_78 (x1 : Int32) (x2 : Int32) (x3 : Int64) (x5 : Int64) (w : A_W) : Option (Int64 × A_W) :=
  F_M_odds_84 FU x1 x2 x3 x5 1 0 w
def F_M_odds_44 : Nat → Int32 → Int32 → Int64 → Int64 → A_W → Option (Int64 × A_W)
  | 0, _, _, _, _, _ => none
  | n + 1, x1, x2, x3, x5, w =>
    if (lg_cmp (jreml x3 2) 0) = 0 then
      if (lg_cmp x5 1) ≤ 0 then
        F_M_odds_78 x1 x2 x3 x5 w
      else
        F_M_odds_44 n x1 x2 (x3 / 2) (x5 / 2) w
    else
      F_M_odds_78 x1 x2 x3 x5 w
def F_M_odds_0 (t : Nat) (x1 : Int32) (x2 : Int32) (w : A_W) : Option (Int64 × A_W) :=
  (F_M_in x1 0 15 w).bind fun p1 =>
  if p1.1 = 0 then
    F_M_odds_19 t p1.2
  else
    (F_M_in x2 0 1 p1.2).bind fun p3 =>
    if p3.1 = 0 then
      F_M_odds_19 t p3.2
    else
      (ob p3.2 t 4).bind fun o6 =>
      (F_M_darkOnes t p3.2).bind fun p5 =>
      (F_M_bits p5.1 p5.2).bind fun p7 =>
      F_M_odds_44 FU x1 x2 (Int32.toInt64 (16 - p7.1)) 16 p7.2
set_option maxHeartbeats 4000000 in
set_option maxRecDepth 100000 in
theorem s_M_odds_19 {G : Gx} {X : Cx} {res : Int64 × A_W} (K : Ok G X 4 c_M_odds 10 (some .long) rm_M_odds) (hQ : QQ G X (some (.long res.1)) res.2 0 0) (t : Nat) (w : A_W) (h : F_M_odds_19 t w = some res) : Sm G X w 0 0 [some (.ref t), none, none, none, none, none, none, none, none, none] [] 19 := by
  unfold F_M_odds_19 at h
  refine Sm_run K ek_M_odds 10 2 rfl ?_
  obtain ⟨o2, e_o2, h⟩ := Option.bind_eq_some_iff.mp h
  obtain ⟨p1, e_p1, h⟩ := Option.bind_eq_some_iff.mp h
  refine Sm_callV K (eok_i (eo ek_M_odds (i := 12) rfl) rfl) cy_M_finds im_M_finds se_M_finds (lgm 826 (by decide +kernel) rfl) ⟨Nat.le_of_ble_eq_true rfl, Nat.le_of_ble_eq_true rfl⟩ (as := [.int (-1000001)]) (b := t) (st := []) (ob_e e_o2) (by decide) rfl rfl rfl rfl (Nat.le_of_ble_eq_true rfl) ⟨Nat.le_of_ble_eq_true rfl, Nat.le_of_ble_eq_true rfl⟩ (cn_M_finds e_p1) ?_
  refine Sm_eq (st1 := .int p1.1 :: []) (nc1 := 0) (ns1 := 0) rfl rfl rfl ?_
  refine Sm_run K ek_M_odds 13 1 rfl ?_
  obtain rfl := Option.some.inj h
  exact Sm_retl K hQ (eok_i (eo ek_M_odds (i := 14) rfl) rfl)
set_option maxHeartbeats 4000000 in
set_option maxRecDepth 100000 in
theorem s_M_odds_102 {G : Gx} {X : Cx} {res : Int64 × A_W} (K : Ok G X 4 c_M_odds 10 (some .long) rm_M_odds) (hQ : QQ G X (some (.long res.1)) res.2 0 0) {k84 : Int32 → Int32 → Int64 → Int64 → Int64 → Int32 → A_W → Option (Int64 × A_W)} (hk84 : ∀ (x1 : Int32) (x2 : Int32) (x3 : Int64) (x5 : Int64) (x7 : Int64) (x9 : Int32) (w : A_W), k84 x1 x2 x3 x5 x7 x9 w = some res → Sm G X w 0 0 [none, some (.int x1), some (.int x2), some (.long x3), none, some (.long x5), none, some (.long x7), none, some (.int x9)] [] 84) (x1 : Int32) (x2 : Int32) (x3 : Int64) (x5 : Int64) (x9 : Int32) (y0 : Int64) (y1 : Int64) (w : A_W) (h : F_M_odds_102 k84 x1 x2 x3 x5 x9 y0 y1 w = some res) : Sm G X w 0 0 [none, some (.int x1), some (.int x2), some (.long x3), none, some (.long x5), none, none, none, some (.int x9)] [.long y1, .long y0] 102 := by
  unfold F_M_odds_102 at h
  refine Sm_run K ek_M_odds 56 4 rfl ?_
  exact Sm_le (leR_n (leR_s (leR_s (leR_s (leR_n (leR_s (leR_n (leR_s (leR_n (leR_s leR_nil)))))))))) (hk84 _ _ _ _ _ _ _ h)
set_option maxHeartbeats 4000000 in
set_option maxRecDepth 100000 in
theorem s_M_odds_84 {G : Gx} {X : Cx} {res : Int64 × A_W} (K : Ok G X 4 c_M_odds 10 (some .long) rm_M_odds) (hQ : QQ G X (some (.long res.1)) res.2 0 0) : ∀ (n : Nat) (x1 : Int32) (x2 : Int32) (x3 : Int64) (x5 : Int64) (x7 : Int64) (x9 : Int32) (w : A_W), F_M_odds_84 n x1 x2 x3 x5 x7 x9 w = some res → Sm G X w 0 0 [none, some (.int x1), some (.int x2), some (.long x3), none, some (.long x5), none, some (.long x7), none, some (.int x9)] [] 84 := by
  intro n
  induction n with
  | zero => intro x1 x2 x3 x5 x7 x9 w h; cases h
  | succ n ih =>
    intro x1 x2 x3 x5 x7 x9 w h
    rw [F_M_odds_84] at h
    refine Sm_run K ek_M_odds 47 2 rfl ?_
    refine Sm_ic_ge K (eo ek_M_odds (i := 49) rfl) (fun c1 => ?_) (fun c1 => ?_)
    · rw [if_pos c1] at h
      refine Sm_run K ek_M_odds 60 1 rfl ?_
      obtain rfl := Option.some.inj h
      exact Sm_retl K hQ (eok_i (eo ek_M_odds (i := 61) rfl) rfl)
    · rw [if_neg c1] at h
      refine Sm_run K ek_M_odds 50 2 rfl ?_
      refine Sm_if_ne K (eo ek_M_odds (i := 52) rfl) (fun c2 => ?_) (fun c2 => ?_)
      · rw [if_neg c2] at h
        refine Sm_run K ek_M_odds 55 1 rfl ?_
        exact Sm_le (leR_n (leR_s (leR_s (leR_s (leR_n (leR_s (leR_n (leR_n (leR_n (leR_s leR_nil)))))))))) (s_M_odds_102 K hQ ih _ _ _ _ _ _ _ _ h)
      · rw [if_pos c2] at h
        refine Sm_run K ek_M_odds 53 2 rfl ?_
        exact Sm_le (leR_n (leR_s (leR_s (leR_s (leR_n (leR_s (leR_n (leR_n (leR_n (leR_s leR_nil)))))))))) (s_M_odds_102 K hQ ih _ _ _ _ _ _ _ _ h)
set_option maxHeartbeats 4000000 in
set_option maxRecDepth 100000 in
theorem s_M_odds_78 {G : Gx} {X : Cx} {res : Int64 × A_W} (K : Ok G X 4 c_M_odds 10 (some .long) rm_M_odds) (hQ : QQ G X (some (.long res.1)) res.2 0 0) (x1 : Int32) (x2 : Int32) (x3 : Int64) (x5 : Int64) (w : A_W) (h : F_M_odds_78 x1 x2 x3 x5 w = some res) : Sm G X w 0 0 [none, some (.int x1), some (.int x2), some (.long x3), none, some (.long x5), none, none, none, none] [] 78 := by
  unfold F_M_odds_78 at h
  refine Sm_run K ek_M_odds 43 4 rfl ?_
  exact Sm_le (leR_n (leR_s (leR_s (leR_s (leR_n (leR_s (leR_n (leR_s (leR_n (leR_s leR_nil)))))))))) (s_M_odds_84 K hQ FU _ _ _ _ _ _ _ h)
set_option maxHeartbeats 4000000 in
set_option maxRecDepth 100000 in
theorem s_M_odds_44 {G : Gx} {X : Cx} {res : Int64 × A_W} (K : Ok G X 4 c_M_odds 10 (some .long) rm_M_odds) (hQ : QQ G X (some (.long res.1)) res.2 0 0) : ∀ (n : Nat) (x1 : Int32) (x2 : Int32) (x3 : Int64) (x5 : Int64) (w : A_W), F_M_odds_44 n x1 x2 x3 x5 w = some res → Sm G X w 0 0 [none, some (.int x1), some (.int x2), some (.long x3), none, some (.long x5), none, none, none, none] [] 44 := by
  intro n
  induction n with
  | zero => intro x1 x2 x3 x5 w h; cases h
  | succ n ih =>
    intro x1 x2 x3 x5 w h
    rw [F_M_odds_44] at h
    refine Sm_run K ek_M_odds 24 2 rfl ?_
    refine Sm_lrem K (eok_i (eo ek_M_odds (i := 26) rfl) rfl) (by decide) ?_
    refine Sm_run K ek_M_odds 27 1 rfl ?_
    refine Sm_lcmp K (eok_i (eo ek_M_odds (i := 28) rfl) rfl) ?_
    refine Sm_if_ne K (eo ek_M_odds (i := 29) rfl) (fun c1 => ?_) (fun c1 => ?_)
    · rw [if_neg c1] at h
      exact Sm_le (leR_n (leR_s (leR_s (leR_s (leR_n (leR_s (leR_n (leR_n (leR_n (leR_n leR_nil)))))))))) (s_M_odds_78 K hQ _ _ _ _ _ h)
    · rw [if_pos c1] at h
      refine Sm_run K ek_M_odds 30 2 rfl ?_
      refine Sm_lcmp K (eok_i (eo ek_M_odds (i := 32) rfl) rfl) ?_
      refine Sm_if_le K (eo ek_M_odds (i := 33) rfl) (fun c2 => ?_) (fun c2 => ?_)
      · rw [if_pos c2] at h
        exact Sm_le (leR_n (leR_s (leR_s (leR_s (leR_n (leR_s (leR_n (leR_n (leR_n (leR_n leR_nil)))))))))) (s_M_odds_78 K hQ _ _ _ _ _ h)
      · rw [if_neg c2] at h
        refine Sm_run K ek_M_odds 34 2 rfl ?_
        refine Sm_ldiv K (eok_i (eo ek_M_odds (i := 36) rfl) rfl) (by decide) ?_
        refine Sm_run K ek_M_odds 37 3 rfl ?_
        refine Sm_ldiv K (eok_i (eo ek_M_odds (i := 40) rfl) rfl) (by decide) ?_
        refine Sm_run K ek_M_odds 41 2 rfl ?_
        exact Sm_le (leR_n (leR_s (leR_s (leR_s (leR_n (leR_s (leR_n (leR_n (leR_n (leR_n leR_nil)))))))))) (ih _ _ _ _ _ h)
set_option maxHeartbeats 4000000 in
set_option maxRecDepth 100000 in
theorem s_M_odds_0 {G : Gx} {X : Cx} {res : Int64 × A_W} (K : Ok G X 4 c_M_odds 10 (some .long) rm_M_odds) (hQ : QQ G X (some (.long res.1)) res.2 0 0) (t : Nat) (x1 : Int32) (x2 : Int32) (w : A_W) (h : F_M_odds_0 t x1 x2 w = some res) : Sm G X w 0 0 [some (.ref t), some (.int x1), some (.int x2), none, none, none, none, none, none, none] [] 0 := by
  unfold F_M_odds_0 at h
  refine Sm_run K ek_M_odds 0 3 rfl ?_
  obtain ⟨p1, e_p1, h⟩ := Option.bind_eq_some_iff.mp h
  refine Sm_callS K (eok_i (eo ek_M_odds (i := 3) rfl) rfl) cy_M_in st_M_in (lgm 815 (by decide +kernel) rfl) ⟨Nat.le_of_ble_eq_true rfl, Nat.le_of_ble_eq_true rfl⟩ (as := [.int x1, .int 0, .int 15]) (st := []) rfl rfl rfl (Nat.le_of_ble_eq_true rfl) ⟨Nat.le_of_ble_eq_true rfl, Nat.le_of_ble_eq_true rfl⟩ (cn_M_in e_p1) ?_
  refine Sm_eq (st1 := .int p1.1 :: []) (nc1 := 0) (ns1 := 0) rfl rfl rfl ?_
  refine Sm_if_eq K (eo ek_M_odds (i := 4) rfl) (fun c2 => ?_) (fun c2 => ?_)
  · rw [if_pos c2] at h
    exact Sm_le (leR_s (leR_n (leR_n (leR_n (leR_n (leR_n (leR_n (leR_n (leR_n (leR_n leR_nil)))))))))) (s_M_odds_19 K hQ _ _ h)
  · rw [if_neg c2] at h
    refine Sm_run K ek_M_odds 5 3 rfl ?_
    obtain ⟨p3, e_p3, h⟩ := Option.bind_eq_some_iff.mp h
    refine Sm_callS K (eok_i (eo ek_M_odds (i := 8) rfl) rfl) cy_M_in st_M_in (lgm 815 (by decide +kernel) rfl) ⟨Nat.le_of_ble_eq_true rfl, Nat.le_of_ble_eq_true rfl⟩ (as := [.int x2, .int 0, .int 1]) (st := []) rfl rfl rfl (Nat.le_of_ble_eq_true rfl) ⟨Nat.le_of_ble_eq_true rfl, Nat.le_of_ble_eq_true rfl⟩ (cn_M_in e_p3) ?_
    refine Sm_eq (st1 := .int p3.1 :: []) (nc1 := 0) (ns1 := 0) rfl rfl rfl ?_
    refine Sm_if_ne K (eo ek_M_odds (i := 9) rfl) (fun c4 => ?_) (fun c4 => ?_)
    · rw [if_neg c4] at h
      refine Sm_run K ek_M_odds 15 2 rfl ?_
      obtain ⟨o6, e_o6, h⟩ := Option.bind_eq_some_iff.mp h
      obtain ⟨p5, e_p5, h⟩ := Option.bind_eq_some_iff.mp h
      refine Sm_callV K (eok_i (eo ek_M_odds (i := 17) rfl) rfl) cy_M_darkOnes im_M_darkOnes se_M_darkOnes (lgm 968 (by decide +kernel) rfl) ⟨Nat.le_of_ble_eq_true rfl, Nat.le_of_ble_eq_true rfl⟩ (as := []) (b := t) (st := [.int 16]) (ob_e e_o6) (by decide) rfl rfl rfl rfl (Nat.le_of_ble_eq_true rfl) ⟨Nat.le_of_ble_eq_true rfl, Nat.le_of_ble_eq_true rfl⟩ (cn_M_darkOnes e_p5) ?_
      refine Sm_eq (st1 := .int p5.1 :: [.int 16]) (nc1 := 0) (ns1 := 0) rfl rfl rfl ?_
      obtain ⟨p7, e_p7, h⟩ := Option.bind_eq_some_iff.mp h
      refine Sm_callS K (eok_i (eo ek_M_odds (i := 18) rfl) rfl) cy_M_bits st_M_bits (lgm 1043 (by decide +kernel) rfl) ⟨Nat.le_of_ble_eq_true rfl, Nat.le_of_ble_eq_true rfl⟩ (as := [.int p5.1]) (st := [.int 16]) rfl rfl rfl (Nat.le_of_ble_eq_true rfl) ⟨Nat.le_of_ble_eq_true rfl, Nat.le_of_ble_eq_true rfl⟩ (cn_M_bits e_p7) ?_
      refine Sm_eq (st1 := .int p7.1 :: [.int 16]) (nc1 := 0) (ns1 := 0) rfl rfl rfl ?_
      refine Sm_run K ek_M_odds 19 5 rfl ?_
      exact Sm_le (leR_n (leR_s (leR_s (leR_s (leR_n (leR_s (leR_n (leR_n (leR_n (leR_n leR_nil)))))))))) (s_M_odds_44 K hQ FU _ _ _ _ _ h)
    · rw [if_pos c4] at h
      exact Sm_le (leR_s (leR_n (leR_n (leR_n (leR_n (leR_n (leR_n (leR_n (leR_n (leR_n leR_nil)))))))))) (s_M_odds_19 K hQ _ _ h)
def F_M_odds (t : Nat) (x1 : Int32) (x2 : Int32) (w : A_W) : Option (Int64 × A_W) := F_M_odds_0 t x1 x2 w
theorem cn_M_odds {G : Gx} {t : Nat} {x1 : Int32} {x2 : Int32} {w : A_W} {res : Int64 × A_W} (h : F_M_odds t x1 x2 w = some res) : Cn G y_M_odds c_M_odds 10 (some .long) rm_M_odds [.ref t, .int x1, .int x2] w (some (.long res.1)) res.2 :=
  Cn_of (own := 4) cy_M_odds rfl rfl (Nat.le_of_ble_eq_true rfl) rfl (fun X K _ hQ => Sm_le (leR_s (leR_s (leR_s (leR_n (leR_n (leR_n (leR_n (leR_n (leR_n (leR_n leR_nil)))))))))) (s_M_odds_0 K hQ _ _ _ _ h))
/-! EveningCloakModel.seed(I)I -/
abbrev c_M_seed : ByteArray := prog_6_method_73_code
def y_M_seed : MethodName := ⟨"EveningCloakModel", "seed", "(I)I"⟩
def rm_M_seed : Room := { frames := 1, cells := 0, slots := 0, locals := 23 }
theorem cy_M_seed : Cy y_M_seed c_M_seed 2 (some .int) 1 := ⟨lgm 1096 (by decide +kernel) rfl, lgm 73 (by decide +kernel) rfl, by decide +kernel, by decide +kernel⟩
theorem im_M_seed : Cond.instanceMethod y_M_seed ∈ lg := lgm 1094 (by decide +kernel) rfl
theorem se_M_seed : Cond.selects y_M_seed.cls y_M_seed y_M_seed ∈ lg := lgm 1095 (by decide +kernel) rfl
def e_M_seed : List Ent := [
  (0, .aload_n 0, 1, 1, .null, 0, 0, 0),
  (1, .iconst 2, 1, 2, .int 2, 0, 0, 0),
  (2, .iload_n 1, 1, 3, .null, 0, 0, 0),
  (3, .invokevirtual 71, 3, 6, .null, 0, 0, 0),
  (6, .ireturn, 1, 7, .null, 0, 0, 0)]
set_option maxRecDepth 100000 in
theorem ek_M_seed : e_M_seed.all (eok 4 c_M_seed) = true := by decide +kernel
def F_M_seed_0 (t : Nat) (x1 : Int32) (w : A_W) : Option (Int32 × A_W) :=
  (ob w t 4).bind fun o2 =>
  (F_M_becomes t 2 x1 w).bind fun p1 =>
  some (p1.1, p1.2)
set_option maxHeartbeats 4000000 in
set_option maxRecDepth 100000 in
theorem s_M_seed_0 {G : Gx} {X : Cx} {res : Int32 × A_W} (K : Ok G X 4 c_M_seed 2 (some .int) rm_M_seed) (hQ : QQ G X (some (.int res.1)) res.2 0 0) (t : Nat) (x1 : Int32) (w : A_W) (h : F_M_seed_0 t x1 w = some res) : Sm G X w 0 0 [some (.ref t), some (.int x1)] [] 0 := by
  unfold F_M_seed_0 at h
  refine Sm_run K ek_M_seed 0 3 rfl ?_
  obtain ⟨o2, e_o2, h⟩ := Option.bind_eq_some_iff.mp h
  obtain ⟨p1, e_p1, h⟩ := Option.bind_eq_some_iff.mp h
  refine Sm_callV K (eok_i (eo ek_M_seed (i := 3) rfl) rfl) cy_M_becomes im_M_becomes se_M_becomes (lgm 821 (by decide +kernel) rfl) ⟨Nat.le_of_ble_eq_true rfl, Nat.le_of_ble_eq_true rfl⟩ (as := [.int 2, .int x1]) (b := t) (st := []) (ob_e e_o2) (by decide) rfl rfl rfl rfl (Nat.le_of_ble_eq_true rfl) ⟨Nat.le_of_ble_eq_true rfl, Nat.le_of_ble_eq_true rfl⟩ (cn_M_becomes e_p1) ?_
  refine Sm_eq (st1 := .int p1.1 :: []) (nc1 := 0) (ns1 := 0) rfl rfl rfl ?_
  obtain rfl := Option.some.inj h
  exact Sm_reti K hQ (eok_i (eo ek_M_seed (i := 4) rfl) rfl)
def F_M_seed (t : Nat) (x1 : Int32) (w : A_W) : Option (Int32 × A_W) := F_M_seed_0 t x1 w
theorem cn_M_seed {G : Gx} {t : Nat} {x1 : Int32} {w : A_W} {res : Int32 × A_W} (h : F_M_seed t x1 w = some res) : Cn G y_M_seed c_M_seed 2 (some .int) rm_M_seed [.ref t, .int x1] w (some (.int res.1)) res.2 :=
  Cn_of (own := 4) cy_M_seed rfl rfl (Nat.le_of_ble_eq_true rfl) rfl (fun X K _ hQ => Sm_le (leR_s (leR_s leR_nil)) (s_M_seed_0 K hQ _ _ _ h))
/-! EveningCloakModel.feed(II)I -/
abbrev c_M_feed : ByteArray := prog_6_method_74_code
def y_M_feed : MethodName := ⟨"EveningCloakModel", "feed", "(II)I"⟩
def rm_M_feed : Room := { frames := 1, cells := 0, slots := 0, locals := 22 }
theorem cy_M_feed : Cy y_M_feed c_M_feed 4 (some .int) 2 := ⟨lgm 1100 (by decide +kernel) rfl, lgm 73 (by decide +kernel) rfl, by decide +kernel, by decide +kernel⟩
theorem im_M_feed : Cond.instanceMethod y_M_feed ∈ lg := lgm 1098 (by decide +kernel) rfl
theorem se_M_feed : Cond.selects y_M_feed.cls y_M_feed y_M_feed ∈ lg := lgm 1099 (by decide +kernel) rfl
def e_M_feed : List Ent := [
  (0, .iload_n 2, 1, 1, .null, 0, 0, 0),
  (1, .iconst 1, 1, 2, .int 1, 0, 0, 0),
  (2, .iconst 4, 1, 3, .int 4, 0, 0, 0),
  (3, .invokestatic 40, 3, 6, .null, 0, 0, 0),
  (6, .ifCond .ne 10, 3, 16, .null, 0, 0, 0),
  (9, .aload_n 0, 1, 10, .null, 0, 0, 0),
  (10, .ldc 34, 2, 12, .int (-1000001), 0, 0, 825),
  (12, .invokevirtual 36, 3, 15, .null, 0, 0, 0),
  (15, .ireturn, 1, 16, .null, 0, 0, 0),
  (16, .aload_n 0, 1, 17, .null, 0, 0, 0),
  (17, .getfield 189, 3, 20, .null, 4, 9, 771),
  (20, .iload_n 2, 1, 21, .null, 0, 0, 0),
  (21, .iadd, 1, 22, .null, 0, 0, 0),
  (22, .bipush 120, 2, 24, .int 120, 0, 0, 0),
  (24, .if_icmp .le 10, 3, 34, .null, 0, 0, 0),
  (27, .aload_n 0, 1, 28, .null, 0, 0, 0),
  (28, .ldc 78, 2, 30, .int (-1000002), 0, 0, 838),
  (30, .invokevirtual 36, 3, 33, .null, 0, 0, 0),
  (33, .ireturn, 1, 34, .null, 0, 0, 0),
  (34, .iload_n 2, 1, 35, .null, 0, 0, 0),
  (35, .iconst 1, 1, 36, .int 1, 0, 0, 0),
  (36, .isub, 1, 37, .null, 0, 0, 0),
  (37, .istore_n 3, 1, 38, .null, 0, 0, 0),
  (38, .iload_n 3, 1, 39, .null, 0, 0, 0),
  (39, .ifCond .lt 38, 3, 77, .null, 0, 0, 0),
  (42, .aload_n 0, 1, 43, .null, 0, 0, 0),
  (43, .getfield 31, 3, 46, .null, 4, 8, 770),
  (46, .aload_n 0, 1, 47, .null, 0, 0, 0),
  (47, .getfield 189, 3, 50, .null, 4, 9, 771),
  (50, .iload_n 1, 1, 51, .null, 0, 0, 0),
  (51, .bipush 8, 2, 53, .int 8, 0, 0, 0),
  (53, .iload_n 3, 1, 54, .null, 0, 0, 0),
  (54, .imul, 1, 55, .null, 0, 0, 0),
  (55, .ishr, 1, 56, .null, 0, 0, 0),
  (56, .sipush 255, 3, 59, .int 255, 0, 0, 0),
  (59, .iand, 1, 60, .null, 0, 0, 0),
  (60, .iastore, 1, 61, .null, 0, 0, 0),
  (61, .aload_n 0, 1, 62, .null, 0, 0, 0),
  (62, .dup, 1, 63, .null, 0, 0, 0),
  (63, .getfield 189, 3, 66, .null, 4, 9, 771),
  (66, .iconst 1, 1, 67, .int 1, 0, 0, 0),
  (67, .iadd, 1, 68, .null, 0, 0, 0),
  (68, .putfield 189, 3, 71, .null, 4, 9, 771),
  (71, .iinc 3 (-1), 3, 74, .int (-1), 0, 0, 0),
  (74, .goto (-36), 3, 38, .null, 0, 0, 0),
  (77, .aload_n 0, 1, 78, .null, 0, 0, 0),
  (78, .getfield 189, 3, 81, .null, 4, 9, 771),
  (81, .ireturn, 1, 82, .null, 0, 0, 0)]
set_option maxRecDepth 100000 in
theorem ek_M_feed : e_M_feed.all (eok 4 c_M_feed) = true := by decide +kernel
def F_M_feed_38 : Nat → Nat → Int32 → Int32 → A_W → Option (Int32 × A_W)
  | 0, _, _, _, _ => none
  | n + 1, t, x1, x3, w =>
    if x3 < 0 then
      (gi w t 4 9).bind fun v2 =>
      some (v2, w)
    else
      (gr w t 4 8).bind fun a3 =>
      (gi w t 4 9).bind fun v4 =>
      (wr w a3 v4 ((x1 >>> ((8 * x3) &&& 31)) &&& 255)).bind fun w5 =>
      (gi w5 t 4 9).bind fun v6 =>
      (pf w5 t 4 9 (.int (v6 + 1))).bind fun w7 =>
      F_M_feed_38 n t x1 (x3 + (-1)) w7
def F_M_feed_0 (t : Nat) (x1 : Int32) (x2 : Int32) (w : A_W) : Option (Int32 × A_W) :=
  (F_M_in x2 1 4 w).bind fun p1 =>
  if p1.1 = 0 then
    (ob p1.2 t 4).bind fun o8 =>
    (F_M_finds t (-1000001) p1.2).bind fun p7 =>
    some (p7.1, p7.2)
  else
    (gi p1.2 t 4 9).bind fun v3 =>
    if (v3 + x2) ≤ 120 then
      F_M_feed_38 FU t x1 (x2 - 1) p1.2
    else
      (ob p1.2 t 4).bind fun o6 =>
      (F_M_finds t (-1000002) p1.2).bind fun p5 =>
      some (p5.1, p5.2)
set_option maxHeartbeats 4000000 in
set_option maxRecDepth 100000 in
theorem s_M_feed_38 {G : Gx} {X : Cx} {res : Int32 × A_W} (K : Ok G X 4 c_M_feed 4 (some .int) rm_M_feed) (hQ : QQ G X (some (.int res.1)) res.2 0 0) : ∀ (n : Nat) (t : Nat) (x1 : Int32) (x3 : Int32) (w : A_W), F_M_feed_38 n t x1 x3 w = some res → Sm G X w 0 0 [some (.ref t), some (.int x1), none, some (.int x3)] [] 38 := by
  intro n
  induction n with
  | zero => intro t x1 x3 w h; cases h
  | succ n ih =>
    intro t x1 x3 w h
    rw [F_M_feed_38] at h
    refine Sm_run K ek_M_feed 23 1 rfl ?_
    refine Sm_if_lt K (eo ek_M_feed (i := 24) rfl) (fun c1 => ?_) (fun c1 => ?_)
    · rw [if_pos c1] at h
      refine Sm_run K ek_M_feed 45 1 rfl ?_
      obtain ⟨v2, e_v2, h⟩ := Option.bind_eq_some_iff.mp h
      refine Sm_gi K (eo ek_M_feed (i := 46) rfl) e_v2 ?_
      obtain rfl := Option.some.inj h
      exact Sm_reti K hQ (eok_i (eo ek_M_feed (i := 47) rfl) rfl)
    · rw [if_neg c1] at h
      refine Sm_run K ek_M_feed 25 1 rfl ?_
      obtain ⟨a3, e_a3, h⟩ := Option.bind_eq_some_iff.mp h
      refine Sm_gr K (eo ek_M_feed (i := 26) rfl) e_a3 ?_
      refine Sm_run K ek_M_feed 27 1 rfl ?_
      obtain ⟨v4, e_v4, h⟩ := Option.bind_eq_some_iff.mp h
      refine Sm_gi K (eo ek_M_feed (i := 28) rfl) e_v4 ?_
      refine Sm_run K ek_M_feed 29 7 rfl ?_
      obtain ⟨w5, e_w5, h⟩ := Option.bind_eq_some_iff.mp h
      refine Sm_wr K (eok_i (eo ek_M_feed (i := 36) rfl) rfl) e_w5 ?_
      refine Sm_run K ek_M_feed 37 2 rfl ?_
      obtain ⟨v6, e_v6, h⟩ := Option.bind_eq_some_iff.mp h
      refine Sm_gi K (eo ek_M_feed (i := 39) rfl) e_v6 ?_
      refine Sm_run K ek_M_feed 40 2 rfl ?_
      obtain ⟨w7, e_w7, h⟩ := Option.bind_eq_some_iff.mp h
      refine Sm_pi K (eo ek_M_feed (i := 42) rfl) rfl rfl e_w7 ?_
      refine Sm_run K ek_M_feed 43 2 rfl ?_
      exact Sm_le (leR_s (leR_s (leR_n (leR_s leR_nil)))) (ih _ _ _ _ h)
set_option maxHeartbeats 4000000 in
set_option maxRecDepth 100000 in
theorem s_M_feed_0 {G : Gx} {X : Cx} {res : Int32 × A_W} (K : Ok G X 4 c_M_feed 4 (some .int) rm_M_feed) (hQ : QQ G X (some (.int res.1)) res.2 0 0) (t : Nat) (x1 : Int32) (x2 : Int32) (w : A_W) (h : F_M_feed_0 t x1 x2 w = some res) : Sm G X w 0 0 [some (.ref t), some (.int x1), some (.int x2), none] [] 0 := by
  unfold F_M_feed_0 at h
  refine Sm_run K ek_M_feed 0 3 rfl ?_
  obtain ⟨p1, e_p1, h⟩ := Option.bind_eq_some_iff.mp h
  refine Sm_callS K (eok_i (eo ek_M_feed (i := 3) rfl) rfl) cy_M_in st_M_in (lgm 815 (by decide +kernel) rfl) ⟨Nat.le_of_ble_eq_true rfl, Nat.le_of_ble_eq_true rfl⟩ (as := [.int x2, .int 1, .int 4]) (st := []) rfl rfl rfl (Nat.le_of_ble_eq_true rfl) ⟨Nat.le_of_ble_eq_true rfl, Nat.le_of_ble_eq_true rfl⟩ (cn_M_in e_p1) ?_
  refine Sm_eq (st1 := .int p1.1 :: []) (nc1 := 0) (ns1 := 0) rfl rfl rfl ?_
  refine Sm_if_ne K (eo ek_M_feed (i := 4) rfl) (fun c2 => ?_) (fun c2 => ?_)
  · rw [if_neg c2] at h
    refine Sm_run K ek_M_feed 9 1 rfl ?_
    obtain ⟨v3, e_v3, h⟩ := Option.bind_eq_some_iff.mp h
    refine Sm_gi K (eo ek_M_feed (i := 10) rfl) e_v3 ?_
    refine Sm_run K ek_M_feed 11 3 rfl ?_
    refine Sm_ic_le K (eo ek_M_feed (i := 14) rfl) (fun c4 => ?_) (fun c4 => ?_)
    · rw [if_pos c4] at h
      refine Sm_run K ek_M_feed 19 4 rfl ?_
      exact Sm_le (leR_s (leR_s (leR_n (leR_s leR_nil)))) (s_M_feed_38 K hQ FU _ _ _ _ h)
    · rw [if_neg c4] at h
      refine Sm_run K ek_M_feed 15 2 rfl ?_
      obtain ⟨o6, e_o6, h⟩ := Option.bind_eq_some_iff.mp h
      obtain ⟨p5, e_p5, h⟩ := Option.bind_eq_some_iff.mp h
      refine Sm_callV K (eok_i (eo ek_M_feed (i := 17) rfl) rfl) cy_M_finds im_M_finds se_M_finds (lgm 826 (by decide +kernel) rfl) ⟨Nat.le_of_ble_eq_true rfl, Nat.le_of_ble_eq_true rfl⟩ (as := [.int (-1000002)]) (b := t) (st := []) (ob_e e_o6) (by decide) rfl rfl rfl rfl (Nat.le_of_ble_eq_true rfl) ⟨Nat.le_of_ble_eq_true rfl, Nat.le_of_ble_eq_true rfl⟩ (cn_M_finds e_p5) ?_
      refine Sm_eq (st1 := .int p5.1 :: []) (nc1 := 0) (ns1 := 0) rfl rfl rfl ?_
      obtain rfl := Option.some.inj h
      exact Sm_reti K hQ (eok_i (eo ek_M_feed (i := 18) rfl) rfl)
  · rw [if_pos c2] at h
    refine Sm_run K ek_M_feed 5 2 rfl ?_
    obtain ⟨o8, e_o8, h⟩ := Option.bind_eq_some_iff.mp h
    obtain ⟨p7, e_p7, h⟩ := Option.bind_eq_some_iff.mp h
    refine Sm_callV K (eok_i (eo ek_M_feed (i := 7) rfl) rfl) cy_M_finds im_M_finds se_M_finds (lgm 826 (by decide +kernel) rfl) ⟨Nat.le_of_ble_eq_true rfl, Nat.le_of_ble_eq_true rfl⟩ (as := [.int (-1000001)]) (b := t) (st := []) (ob_e e_o8) (by decide) rfl rfl rfl rfl (Nat.le_of_ble_eq_true rfl) ⟨Nat.le_of_ble_eq_true rfl, Nat.le_of_ble_eq_true rfl⟩ (cn_M_finds e_p7) ?_
    refine Sm_eq (st1 := .int p7.1 :: []) (nc1 := 0) (ns1 := 0) rfl rfl rfl ?_
    obtain rfl := Option.some.inj h
    exact Sm_reti K hQ (eok_i (eo ek_M_feed (i := 8) rfl) rfl)
def F_M_feed (t : Nat) (x1 : Int32) (x2 : Int32) (w : A_W) : Option (Int32 × A_W) := F_M_feed_0 t x1 x2 w
theorem cn_M_feed {G : Gx} {t : Nat} {x1 : Int32} {x2 : Int32} {w : A_W} {res : Int32 × A_W} (h : F_M_feed t x1 x2 w = some res) : Cn G y_M_feed c_M_feed 4 (some .int) rm_M_feed [.ref t, .int x1, .int x2] w (some (.int res.1)) res.2 :=
  Cn_of (own := 4) cy_M_feed rfl rfl (Nat.le_of_ble_eq_true rfl) rfl (fun X K _ hQ => Sm_le (leR_s (leR_s (leR_s (leR_n leR_nil)))) (s_M_feed_0 K hQ _ _ _ _ h))
/-! EveningCloakModel.wipe()I -/
abbrev c_M_wipe : ByteArray := prog_6_method_75_code
def y_M_wipe : MethodName := ⟨"EveningCloakModel", "wipe", "()I"⟩
def rm_M_wipe : Room := { frames := 0, cells := 0, slots := 0, locals := 0 }
theorem cy_M_wipe : Cy y_M_wipe c_M_wipe 2 (some .int) 0 := ⟨lgm 1104 (by decide +kernel) rfl, lgm 73 (by decide +kernel) rfl, by decide +kernel, by decide +kernel⟩
theorem im_M_wipe : Cond.instanceMethod y_M_wipe ∈ lg := lgm 1102 (by decide +kernel) rfl
theorem se_M_wipe : Cond.selects y_M_wipe.cls y_M_wipe y_M_wipe ∈ lg := lgm 1103 (by decide +kernel) rfl
def e_M_wipe : List Ent := [
  (0, .aload_n 0, 1, 1, .null, 0, 0, 0),
  (1, .getfield 189, 3, 4, .null, 4, 9, 771),
  (4, .istore_n 1, 1, 5, .null, 0, 0, 0),
  (5, .aload_n 0, 1, 6, .null, 0, 0, 0),
  (6, .iconst 0, 1, 7, .int 0, 0, 0, 0),
  (7, .putfield 189, 3, 10, .null, 4, 9, 771),
  (10, .iload_n 1, 1, 11, .null, 0, 0, 0),
  (11, .ireturn, 1, 12, .null, 0, 0, 0)]
set_option maxRecDepth 100000 in
theorem ek_M_wipe : e_M_wipe.all (eok 4 c_M_wipe) = true := by decide +kernel
def F_M_wipe_0 (t : Nat) (w : A_W) : Option (Int32 × A_W) :=
  (gi w t 4 9).bind fun v1 =>
  (pf w t 4 9 (.int 0)).bind fun w2 =>
  some (v1, w2)
set_option maxHeartbeats 4000000 in
set_option maxRecDepth 100000 in
theorem s_M_wipe_0 {G : Gx} {X : Cx} {res : Int32 × A_W} (K : Ok G X 4 c_M_wipe 2 (some .int) rm_M_wipe) (hQ : QQ G X (some (.int res.1)) res.2 0 0) (t : Nat) (w : A_W) (h : F_M_wipe_0 t w = some res) : Sm G X w 0 0 [some (.ref t), none] [] 0 := by
  unfold F_M_wipe_0 at h
  refine Sm_run K ek_M_wipe 0 1 rfl ?_
  obtain ⟨v1, e_v1, h⟩ := Option.bind_eq_some_iff.mp h
  refine Sm_gi K (eo ek_M_wipe (i := 1) rfl) e_v1 ?_
  refine Sm_run K ek_M_wipe 2 3 rfl ?_
  obtain ⟨w2, e_w2, h⟩ := Option.bind_eq_some_iff.mp h
  refine Sm_pi K (eo ek_M_wipe (i := 5) rfl) rfl rfl e_w2 ?_
  refine Sm_run K ek_M_wipe 6 1 rfl ?_
  obtain rfl := Option.some.inj h
  exact Sm_reti K hQ (eok_i (eo ek_M_wipe (i := 7) rfl) rfl)
def F_M_wipe (t : Nat) (w : A_W) : Option (Int32 × A_W) := F_M_wipe_0 t w
theorem cn_M_wipe {G : Gx} {t : Nat} {w : A_W} {res : Int32 × A_W} (h : F_M_wipe t w = some res) : Cn G y_M_wipe c_M_wipe 2 (some .int) rm_M_wipe [.ref t] w (some (.int res.1)) res.2 :=
  Cn_of (own := 4) cy_M_wipe rfl rfl (Nat.le_of_ble_eq_true rfl) rfl (fun X K _ hQ => Sm_le (leR_s (leR_n leR_nil)) (s_M_wipe_0 K hQ _ _ h))
/-! EveningCloakModel.isByte(III)Z -/
abbrev c_M_isByte : ByteArray := prog_6_method_76_code
def y_M_isByte : MethodName := ⟨"EveningCloakModel", "isByte", "(III)Z"⟩
def rm_M_isByte : Room := { frames := 1, cells := 0, slots := 0, locals := 22 }
theorem cy_M_isByte : Cy y_M_isByte c_M_isByte 4 (some .boolean) 3 := ⟨lgm 1116 (by decide +kernel) rfl, lgm 73 (by decide +kernel) rfl, by decide +kernel, by decide +kernel⟩
theorem im_M_isByte : Cond.instanceMethod y_M_isByte ∈ lg := lgm 1115 (by decide +kernel) rfl
theorem se_M_isByte : Cond.selects y_M_isByte.cls y_M_isByte y_M_isByte ∈ lg := lgm 55 (by decide +kernel) rfl
def e_M_isByte : List Ent := [
  (0, .iload_n 1, 1, 1, .null, 0, 0, 0),
  (1, .aload_n 0, 1, 2, .null, 0, 0, 0),
  (2, .getfield 189, 3, 5, .null, 4, 9, 771),
  (5, .if_icmp .ge 21, 3, 26, .null, 0, 0, 0),
  (8, .aload_n 0, 1, 9, .null, 0, 0, 0),
  (9, .getfield 31, 3, 12, .null, 4, 8, 770),
  (12, .iload_n 1, 1, 13, .null, 0, 0, 0),
  (13, .iaload, 1, 14, .null, 0, 0, 0),
  (14, .iload_n 2, 1, 15, .null, 0, 0, 0),
  (15, .iload_n 3, 1, 16, .null, 0, 0, 0),
  (16, .invokestatic 40, 3, 19, .null, 0, 0, 0),
  (19, .ifCond .eq 7, 3, 26, .null, 0, 0, 0),
  (22, .iconst 1, 1, 23, .int 1, 0, 0, 0),
  (23, .goto 4, 3, 27, .null, 0, 0, 0),
  (26, .iconst 0, 1, 27, .int 0, 0, 0, 0),
  (27, .ireturn, 1, 28, .null, 0, 0, 0)]
set_option maxRecDepth 100000 in
theorem ek_M_isByte : e_M_isByte.all (eok 4 c_M_isByte) = true := by decide +kernel
def F_M_isByte_27 (y0 : Int32) (w : A_W) : Option (Int32 × A_W) :=
  (bz y0).bind fun b1 =>
  some (b1, w)
def F_M_isByte_26 (w : A_W) : Option (Int32 × A_W) :=
  F_M_isByte_27 0 w
def F_M_isByte_0 (t : Nat) (x1 : Int32) (x2 : Int32) (x3 : Int32) (w : A_W) : Option (Int32 × A_W) :=
  (gi w t 4 9).bind fun v1 =>
  if v1 ≤ x1 then
    F_M_isByte_26 w
  else
    (gr w t 4 8).bind fun a3 =>
    (rd w a3 x1).bind fun v4 =>
    (F_M_in v4 x2 x3 w).bind fun p5 =>
    if p5.1 = 0 then
      F_M_isByte_26 p5.2
    else
      F_M_isByte_27 1 p5.2
set_option maxHeartbeats 4000000 in
set_option maxRecDepth 100000 in
theorem s_M_isByte_27 {G : Gx} {X : Cx} {res : Int32 × A_W} (K : Ok G X 4 c_M_isByte 4 (some .boolean) rm_M_isByte) (hQ : QQ G X (some (.int res.1)) res.2 0 0) (y0 : Int32) (w : A_W) (h : F_M_isByte_27 y0 w = some res) : Sm G X w 0 0 [none, none, none, none] [.int y0] 27 := by
  unfold F_M_isByte_27 at h
  obtain ⟨b1, e_b1, h⟩ := Option.bind_eq_some_iff.mp h
  obtain rfl := Option.some.inj h
  exact Sm_retz K e_b1 hQ (eok_i (eo ek_M_isByte (i := 15) rfl) rfl)
set_option maxHeartbeats 4000000 in
set_option maxRecDepth 100000 in
theorem s_M_isByte_26 {G : Gx} {X : Cx} {res : Int32 × A_W} (K : Ok G X 4 c_M_isByte 4 (some .boolean) rm_M_isByte) (hQ : QQ G X (some (.int res.1)) res.2 0 0) (w : A_W) (h : F_M_isByte_26 w = some res) : Sm G X w 0 0 [none, none, none, none] [] 26 := by
  unfold F_M_isByte_26 at h
  refine Sm_run K ek_M_isByte 14 1 rfl ?_
  exact Sm_le (leR_n (leR_n (leR_n (leR_n leR_nil)))) (s_M_isByte_27 K hQ _ _ h)
set_option maxHeartbeats 4000000 in
set_option maxRecDepth 100000 in
theorem s_M_isByte_0 {G : Gx} {X : Cx} {res : Int32 × A_W} (K : Ok G X 4 c_M_isByte 4 (some .boolean) rm_M_isByte) (hQ : QQ G X (some (.int res.1)) res.2 0 0) (t : Nat) (x1 : Int32) (x2 : Int32) (x3 : Int32) (w : A_W) (h : F_M_isByte_0 t x1 x2 x3 w = some res) : Sm G X w 0 0 [some (.ref t), some (.int x1), some (.int x2), some (.int x3)] [] 0 := by
  unfold F_M_isByte_0 at h
  refine Sm_run K ek_M_isByte 0 2 rfl ?_
  obtain ⟨v1, e_v1, h⟩ := Option.bind_eq_some_iff.mp h
  refine Sm_gi K (eo ek_M_isByte (i := 2) rfl) e_v1 ?_
  refine Sm_ic_ge K (eo ek_M_isByte (i := 3) rfl) (fun c2 => ?_) (fun c2 => ?_)
  · rw [if_pos c2] at h
    exact Sm_le (leR_n (leR_n (leR_n (leR_n leR_nil)))) (s_M_isByte_26 K hQ _ h)
  · rw [if_neg c2] at h
    refine Sm_run K ek_M_isByte 4 1 rfl ?_
    obtain ⟨a3, e_a3, h⟩ := Option.bind_eq_some_iff.mp h
    refine Sm_gr K (eo ek_M_isByte (i := 5) rfl) e_a3 ?_
    refine Sm_run K ek_M_isByte 6 1 rfl ?_
    obtain ⟨v4, e_v4, h⟩ := Option.bind_eq_some_iff.mp h
    refine Sm_rd K (eok_i (eo ek_M_isByte (i := 7) rfl) rfl) e_v4 ?_
    refine Sm_run K ek_M_isByte 8 2 rfl ?_
    obtain ⟨p5, e_p5, h⟩ := Option.bind_eq_some_iff.mp h
    refine Sm_callS K (eok_i (eo ek_M_isByte (i := 10) rfl) rfl) cy_M_in st_M_in (lgm 815 (by decide +kernel) rfl) ⟨Nat.le_of_ble_eq_true rfl, Nat.le_of_ble_eq_true rfl⟩ (as := [.int v4, .int x2, .int x3]) (st := []) rfl rfl rfl (Nat.le_of_ble_eq_true rfl) ⟨Nat.le_of_ble_eq_true rfl, Nat.le_of_ble_eq_true rfl⟩ (cn_M_in e_p5) ?_
    refine Sm_eq (st1 := .int p5.1 :: []) (nc1 := 0) (ns1 := 0) rfl rfl rfl ?_
    refine Sm_if_eq K (eo ek_M_isByte (i := 11) rfl) (fun c6 => ?_) (fun c6 => ?_)
    · rw [if_pos c6] at h
      exact Sm_le (leR_n (leR_n (leR_n (leR_n leR_nil)))) (s_M_isByte_26 K hQ _ h)
    · rw [if_neg c6] at h
      refine Sm_run K ek_M_isByte 12 2 rfl ?_
      exact Sm_le (leR_n (leR_n (leR_n (leR_n leR_nil)))) (s_M_isByte_27 K hQ _ _ h)
def F_M_isByte (t : Nat) (x1 : Int32) (x2 : Int32) (x3 : Int32) (w : A_W) : Option (Int32 × A_W) := F_M_isByte_0 t x1 x2 x3 w
theorem cn_M_isByte {G : Gx} {t : Nat} {x1 : Int32} {x2 : Int32} {x3 : Int32} {w : A_W} {res : Int32 × A_W} (h : F_M_isByte t x1 x2 x3 w = some res) : Cn G y_M_isByte c_M_isByte 4 (some .boolean) rm_M_isByte [.ref t, .int x1, .int x2, .int x3] w (some (.int res.1)) res.2 :=
  Cn_of (own := 4) cy_M_isByte rfl rfl (Nat.le_of_ble_eq_true rfl) rfl (fun X K _ hQ => Sm_le (leR_s (leR_s (leR_s (leR_s leR_nil)))) (s_M_isByte_0 K hQ _ _ _ _ _ h))
/-! EveningCloakModel.isName(II)Z -/
abbrev c_M_isName : ByteArray := prog_6_method_77_code
def y_M_isName : MethodName := ⟨"EveningCloakModel", "isName", "(II)Z"⟩
def rm_M_isName : Room := { frames := 0, cells := 0, slots := 0, locals := 0 }
theorem cy_M_isName : Cy y_M_isName c_M_isName 5 (some .boolean) 2 := ⟨lgm 1124 (by decide +kernel) rfl, lgm 73 (by decide +kernel) rfl, by decide +kernel, by decide +kernel⟩
theorem im_M_isName : Cond.instanceMethod y_M_isName ∈ lg := lgm 1123 (by decide +kernel) rfl
theorem se_M_isName : Cond.selects y_M_isName.cls y_M_isName y_M_isName ∈ lg := lgm 57 (by decide +kernel) rfl
def e_M_isName : List Ent := [
  (0, .iload_n 2, 1, 1, .null, 0, 0, 0),
  (1, .bipush 8, 2, 3, .int 8, 0, 0, 0),
  (3, .if_icmp .gt 26, 3, 29, .null, 0, 0, 0),
  (6, .iload_n 2, 1, 7, .null, 0, 0, 0),
  (7, .bipush 8, 2, 9, .int 8, 0, 0, 0),
  (9, .if_icmp .eq 16, 3, 25, .null, 0, 0, 0),
  (12, .getstatic 193, 3, 15, .ref (aA 4), 0, 4, 1125),
  (15, .bipush 8, 2, 17, .int 8, 0, 0, 0),
  (17, .iload_n 1, 1, 18, .null, 0, 0, 0),
  (18, .imul, 1, 19, .null, 0, 0, 0),
  (19, .iload_n 2, 1, 20, .null, 0, 0, 0),
  (20, .iadd, 1, 21, .null, 0, 0, 0),
  (21, .iaload, 1, 22, .null, 0, 0, 0),
  (22, .ifCond .ne 7, 3, 29, .null, 0, 0, 0),
  (25, .iconst 1, 1, 26, .int 1, 0, 0, 0),
  (26, .goto 4, 3, 30, .null, 0, 0, 0),
  (29, .iconst 0, 1, 30, .int 0, 0, 0, 0),
  (30, .istore_n 3, 1, 31, .null, 0, 0, 0),
  (31, .iconst 0, 1, 32, .int 0, 0, 0, 0),
  (32, .istore 4, 2, 34, .null, 0, 0, 0),
  (34, .iload 4, 2, 36, .null, 0, 0, 0),
  (36, .iload_n 2, 1, 37, .null, 0, 0, 0),
  (37, .if_icmp .ge 45, 3, 82, .null, 0, 0, 0),
  (40, .iload_n 3, 1, 41, .null, 0, 0, 0),
  (41, .ifCond .eq 41, 3, 82, .null, 0, 0, 0),
  (44, .getstatic 193, 3, 47, .ref (aA 4), 0, 4, 1125),
  (47, .bipush 8, 2, 49, .int 8, 0, 0, 0),
  (49, .iload_n 1, 1, 50, .null, 0, 0, 0),
  (50, .imul, 1, 51, .null, 0, 0, 0),
  (51, .iload 4, 2, 53, .null, 0, 0, 0),
  (53, .iadd, 1, 54, .null, 0, 0, 0),
  (54, .iaload, 1, 55, .null, 0, 0, 0),
  (55, .aload_n 0, 1, 56, .null, 0, 0, 0),
  (56, .getfield 31, 3, 59, .null, 4, 8, 770),
  (59, .aload_n 0, 1, 60, .null, 0, 0, 0),
  (60, .getfield 196, 3, 63, .null, 4, 11, 773),
  (63, .iload 4, 2, 65, .null, 0, 0, 0),
  (65, .iadd, 1, 66, .null, 0, 0, 0),
  (66, .iaload, 1, 67, .null, 0, 0, 0),
  (67, .if_icmp .ne 7, 3, 74, .null, 0, 0, 0),
  (70, .iconst 1, 1, 71, .int 1, 0, 0, 0),
  (71, .goto 4, 3, 75, .null, 0, 0, 0),
  (74, .iconst 0, 1, 75, .int 0, 0, 0, 0),
  (75, .istore_n 3, 1, 76, .null, 0, 0, 0),
  (76, .iinc 4 1, 3, 79, .int 1, 0, 0, 0),
  (79, .goto (-45), 3, 34, .null, 0, 0, 0),
  (82, .iload_n 3, 1, 83, .null, 0, 0, 0),
  (83, .ireturn, 1, 84, .null, 0, 0, 0)]
set_option maxRecDepth 100000 in
theorem ek_M_isName : e_M_isName.all (eok 4 c_M_isName) = true := by decide +kernel
def F_M_isName_75 (k34 : Nat → Int32 → Int32 → Int32 → Int32 → A_W → Option (Int32 × A_W)) (t : Nat) (x1 : Int32) (x2 : Int32) (x4 : Int32) (y0 : Int32) (w : A_W) : Option (Int32 × A_W) :=
  k34 t x1 x2 y0 (x4 + 1) w
def F_M_isName_82 (x3 : Int32) (w : A_W) : Option (Int32 × A_W) :=
  (bz x3).bind fun b1 =>
  some (b1, w)
def F_M_isName_34 : Nat → Nat → Int32 → Int32 → Int32 → Int32 → A_W → Option (Int32 × A_W)
  | 0, _, _, _, _, _, _ => none
  | n + 1, t, x1, x2, x3, x4, w =>
    if x2 ≤ x4 then
      F_M_isName_82 x3 w
    else
      if x3 = 0 then
        F_M_isName_82 x3 w
      else
        (rs 4 ((8 * x1) + x4)).bind fun v3 =>
        (gr w t 4 8).bind fun a4 =>
        (gi w t 4 11).bind fun v5 =>
        (rd w a4 (v5 + x4)).bind fun v6 =>
        if v3 = v6 then
          F_M_isName_75 (F_M_isName_34 n) t x1 x2 x4 1 w
        else
          F_M_isName_75 (F_M_isName_34 n) t x1 x2 x4 0 w
def F_M_isName_30 (t : Nat) (x1 : Int32) (x2 : Int32) (y0 : Int32) (w : A_W) : Option (Int32 × A_W) :=
  F_M_isName_34 FU t x1 x2 y0 0 w
def F_M_isName_25 (t : Nat) (x1 : Int32) (x2 : Int32) (w : A_W) : Option (Int32 × A_W) :=
  F_M_isName_30 t x1 x2 1 w
def F_M_isName_29 (t : Nat) (x1 : Int32) (x2 : Int32) (w : A_W) : Option (Int32 × A_W) :=
  F_M_isName_30 t x1 x2 0 w
def F_M_isName_0 (t : Nat) (x1 : Int32) (x2 : Int32) (w : A_W) : Option (Int32 × A_W) :=
  if 8 < x2 then
    F_M_isName_29 t x1 x2 w
  else
    if x2 = 8 then
      F_M_isName_25 t x1 x2 w
    else
      (rs 4 ((8 * x1) + x2)).bind fun v3 =>
      if v3 = 0 then
        F_M_isName_25 t x1 x2 w
      else
        F_M_isName_29 t x1 x2 w
set_option maxHeartbeats 4000000 in
set_option maxRecDepth 100000 in
theorem s_M_isName_75 {G : Gx} {X : Cx} {res : Int32 × A_W} (K : Ok G X 4 c_M_isName 5 (some .boolean) rm_M_isName) (hQ : QQ G X (some (.int res.1)) res.2 0 0) {k34 : Nat → Int32 → Int32 → Int32 → Int32 → A_W → Option (Int32 × A_W)} (hk34 : ∀ (t : Nat) (x1 : Int32) (x2 : Int32) (x3 : Int32) (x4 : Int32) (w : A_W), k34 t x1 x2 x3 x4 w = some res → Sm G X w 0 0 [some (.ref t), some (.int x1), some (.int x2), some (.int x3), some (.int x4)] [] 34) (t : Nat) (x1 : Int32) (x2 : Int32) (x4 : Int32) (y0 : Int32) (w : A_W) (h : F_M_isName_75 k34 t x1 x2 x4 y0 w = some res) : Sm G X w 0 0 [some (.ref t), some (.int x1), some (.int x2), none, some (.int x4)] [.int y0] 75 := by
  unfold F_M_isName_75 at h
  refine Sm_run K ek_M_isName 43 3 rfl ?_
  exact Sm_le (leR_s (leR_s (leR_s (leR_s (leR_s leR_nil))))) (hk34 _ _ _ _ _ _ h)
set_option maxHeartbeats 4000000 in
set_option maxRecDepth 100000 in
theorem s_M_isName_82 {G : Gx} {X : Cx} {res : Int32 × A_W} (K : Ok G X 4 c_M_isName 5 (some .boolean) rm_M_isName) (hQ : QQ G X (some (.int res.1)) res.2 0 0) (x3 : Int32) (w : A_W) (h : F_M_isName_82 x3 w = some res) : Sm G X w 0 0 [none, none, none, some (.int x3), none] [] 82 := by
  unfold F_M_isName_82 at h
  refine Sm_run K ek_M_isName 46 1 rfl ?_
  obtain ⟨b1, e_b1, h⟩ := Option.bind_eq_some_iff.mp h
  obtain rfl := Option.some.inj h
  exact Sm_retz K e_b1 hQ (eok_i (eo ek_M_isName (i := 47) rfl) rfl)
set_option maxHeartbeats 4000000 in
set_option maxRecDepth 100000 in
theorem s_M_isName_34 {G : Gx} {X : Cx} {res : Int32 × A_W} (K : Ok G X 4 c_M_isName 5 (some .boolean) rm_M_isName) (hQ : QQ G X (some (.int res.1)) res.2 0 0) : ∀ (n : Nat) (t : Nat) (x1 : Int32) (x2 : Int32) (x3 : Int32) (x4 : Int32) (w : A_W), F_M_isName_34 n t x1 x2 x3 x4 w = some res → Sm G X w 0 0 [some (.ref t), some (.int x1), some (.int x2), some (.int x3), some (.int x4)] [] 34 := by
  intro n
  induction n with
  | zero => intro t x1 x2 x3 x4 w h; cases h
  | succ n ih =>
    intro t x1 x2 x3 x4 w h
    rw [F_M_isName_34] at h
    refine Sm_run K ek_M_isName 20 2 rfl ?_
    refine Sm_ic_ge K (eo ek_M_isName (i := 22) rfl) (fun c1 => ?_) (fun c1 => ?_)
    · rw [if_pos c1] at h
      exact Sm_le (leR_n (leR_n (leR_n (leR_s (leR_n leR_nil))))) (s_M_isName_82 K hQ _ _ h)
    · rw [if_neg c1] at h
      refine Sm_run K ek_M_isName 23 1 rfl ?_
      refine Sm_if_eq K (eo ek_M_isName (i := 24) rfl) (fun c2 => ?_) (fun c2 => ?_)
      · rw [if_pos c2] at h
        exact Sm_le (leR_n (leR_n (leR_n (leR_s (leR_n leR_nil))))) (s_M_isName_82 K hQ _ _ h)
      · rw [if_neg c2] at h
        refine Sm_run K ek_M_isName 25 6 rfl ?_
        obtain ⟨v3, e_v3, h⟩ := Option.bind_eq_some_iff.mp h
        refine Sm_rs K (eok_i (eo ek_M_isName (i := 31) rfl) rfl) e_v3 ?_
        refine Sm_run K ek_M_isName 32 1 rfl ?_
        obtain ⟨a4, e_a4, h⟩ := Option.bind_eq_some_iff.mp h
        refine Sm_gr K (eo ek_M_isName (i := 33) rfl) e_a4 ?_
        refine Sm_run K ek_M_isName 34 1 rfl ?_
        obtain ⟨v5, e_v5, h⟩ := Option.bind_eq_some_iff.mp h
        refine Sm_gi K (eo ek_M_isName (i := 35) rfl) e_v5 ?_
        refine Sm_run K ek_M_isName 36 2 rfl ?_
        obtain ⟨v6, e_v6, h⟩ := Option.bind_eq_some_iff.mp h
        refine Sm_rd K (eok_i (eo ek_M_isName (i := 38) rfl) rfl) e_v6 ?_
        refine Sm_ic_ne K (eo ek_M_isName (i := 39) rfl) (fun c7 => ?_) (fun c7 => ?_)
        · rw [if_neg c7] at h
          refine Sm_run K ek_M_isName 42 1 rfl ?_
          exact Sm_le (leR_s (leR_s (leR_s (leR_n (leR_s leR_nil))))) (s_M_isName_75 K hQ ih _ _ _ _ _ _ h)
        · rw [if_pos c7] at h
          refine Sm_run K ek_M_isName 40 2 rfl ?_
          exact Sm_le (leR_s (leR_s (leR_s (leR_n (leR_s leR_nil))))) (s_M_isName_75 K hQ ih _ _ _ _ _ _ h)
set_option maxHeartbeats 4000000 in
set_option maxRecDepth 100000 in
theorem s_M_isName_30 {G : Gx} {X : Cx} {res : Int32 × A_W} (K : Ok G X 4 c_M_isName 5 (some .boolean) rm_M_isName) (hQ : QQ G X (some (.int res.1)) res.2 0 0) (t : Nat) (x1 : Int32) (x2 : Int32) (y0 : Int32) (w : A_W) (h : F_M_isName_30 t x1 x2 y0 w = some res) : Sm G X w 0 0 [some (.ref t), some (.int x1), some (.int x2), none, none] [.int y0] 30 := by
  unfold F_M_isName_30 at h
  refine Sm_run K ek_M_isName 17 3 rfl ?_
  exact Sm_le (leR_s (leR_s (leR_s (leR_s (leR_s leR_nil))))) (s_M_isName_34 K hQ FU _ _ _ _ _ _ h)
set_option maxHeartbeats 4000000 in
set_option maxRecDepth 100000 in
theorem s_M_isName_25 {G : Gx} {X : Cx} {res : Int32 × A_W} (K : Ok G X 4 c_M_isName 5 (some .boolean) rm_M_isName) (hQ : QQ G X (some (.int res.1)) res.2 0 0) (t : Nat) (x1 : Int32) (x2 : Int32) (w : A_W) (h : F_M_isName_25 t x1 x2 w = some res) : Sm G X w 0 0 [some (.ref t), some (.int x1), some (.int x2), none, none] [] 25 := by
  unfold F_M_isName_25 at h
  refine Sm_run K ek_M_isName 14 2 rfl ?_
  exact Sm_le (leR_s (leR_s (leR_s (leR_n (leR_n leR_nil))))) (s_M_isName_30 K hQ _ _ _ _ _ h)
set_option maxHeartbeats 4000000 in
set_option maxRecDepth 100000 in
theorem s_M_isName_29 {G : Gx} {X : Cx} {res : Int32 × A_W} (K : Ok G X 4 c_M_isName 5 (some .boolean) rm_M_isName) (hQ : QQ G X (some (.int res.1)) res.2 0 0) (t : Nat) (x1 : Int32) (x2 : Int32) (w : A_W) (h : F_M_isName_29 t x1 x2 w = some res) : Sm G X w 0 0 [some (.ref t), some (.int x1), some (.int x2), none, none] [] 29 := by
  unfold F_M_isName_29 at h
  refine Sm_run K ek_M_isName 16 1 rfl ?_
  exact Sm_le (leR_s (leR_s (leR_s (leR_n (leR_n leR_nil))))) (s_M_isName_30 K hQ _ _ _ _ _ h)
set_option maxHeartbeats 4000000 in
set_option maxRecDepth 100000 in
theorem s_M_isName_0 {G : Gx} {X : Cx} {res : Int32 × A_W} (K : Ok G X 4 c_M_isName 5 (some .boolean) rm_M_isName) (hQ : QQ G X (some (.int res.1)) res.2 0 0) (t : Nat) (x1 : Int32) (x2 : Int32) (w : A_W) (h : F_M_isName_0 t x1 x2 w = some res) : Sm G X w 0 0 [some (.ref t), some (.int x1), some (.int x2), none, none] [] 0 := by
  unfold F_M_isName_0 at h
  refine Sm_run K ek_M_isName 0 2 rfl ?_
  refine Sm_ic_gt K (eo ek_M_isName (i := 2) rfl) (fun c1 => ?_) (fun c1 => ?_)
  · rw [if_pos c1] at h
    exact Sm_le (leR_s (leR_s (leR_s (leR_n (leR_n leR_nil))))) (s_M_isName_29 K hQ _ _ _ _ h)
  · rw [if_neg c1] at h
    refine Sm_run K ek_M_isName 3 2 rfl ?_
    refine Sm_ic_eq K (eo ek_M_isName (i := 5) rfl) (fun c2 => ?_) (fun c2 => ?_)
    · rw [if_pos c2] at h
      exact Sm_le (leR_s (leR_s (leR_s (leR_n (leR_n leR_nil))))) (s_M_isName_25 K hQ _ _ _ _ h)
    · rw [if_neg c2] at h
      refine Sm_run K ek_M_isName 6 6 rfl ?_
      obtain ⟨v3, e_v3, h⟩ := Option.bind_eq_some_iff.mp h
      refine Sm_rs K (eok_i (eo ek_M_isName (i := 12) rfl) rfl) e_v3 ?_
      refine Sm_if_ne K (eo ek_M_isName (i := 13) rfl) (fun c4 => ?_) (fun c4 => ?_)
      · rw [if_neg c4] at h
        exact Sm_le (leR_s (leR_s (leR_s (leR_n (leR_n leR_nil))))) (s_M_isName_29 K hQ _ _ _ _ h)
      · rw [if_pos c4] at h
        exact Sm_le (leR_s (leR_s (leR_s (leR_n (leR_n leR_nil))))) (s_M_isName_25 K hQ _ _ _ _ h)
def F_M_isName (t : Nat) (x1 : Int32) (x2 : Int32) (w : A_W) : Option (Int32 × A_W) := F_M_isName_0 t x1 x2 w
theorem cn_M_isName {G : Gx} {t : Nat} {x1 : Int32} {x2 : Int32} {w : A_W} {res : Int32 × A_W} (h : F_M_isName t x1 x2 w = some res) : Cn G y_M_isName c_M_isName 5 (some .boolean) rm_M_isName [.ref t, .int x1, .int x2] w (some (.int res.1)) res.2 :=
  Cn_of (own := 4) cy_M_isName rfl rfl (Nat.le_of_ble_eq_true rfl) rfl (fun X K _ hQ => Sm_le (leR_s (leR_s (leR_s (leR_n (leR_n leR_nil))))) (s_M_isName_0 K hQ _ _ _ _ h))
/-! EveningCloakModel.wordHere()I -/
abbrev c_M_wordHere : ByteArray := prog_6_method_78_code
def y_M_wordHere : MethodName := ⟨"EveningCloakModel", "wordHere", "()I"⟩
def rm_M_wordHere : Room := { frames := 1, cells := 0, slots := 0, locals := 24 }
theorem cy_M_wordHere : Cy y_M_wordHere c_M_wordHere 2 (some .int) 0 := ⟨lgm 1120 (by decide +kernel) rfl, lgm 73 (by decide +kernel) rfl, by decide +kernel, by decide +kernel⟩
theorem im_M_wordHere : Cond.instanceMethod y_M_wordHere ∈ lg := lgm 1119 (by decide +kernel) rfl
theorem se_M_wordHere : Cond.selects y_M_wordHere.cls y_M_wordHere y_M_wordHere ∈ lg := lgm 56 (by decide +kernel) rfl
def e_M_wordHere : List Ent := [
  (0, .iconst 0, 1, 1, .int 0, 0, 0, 0),
  (1, .istore_n 1, 1, 2, .null, 0, 0, 0),
  (2, .iload_n 1, 1, 3, .null, 0, 0, 0),
  (3, .bipush 15, 2, 5, .int 15, 0, 0, 0),
  (5, .if_icmp .ge 26, 3, 31, .null, 0, 0, 0),
  (8, .aload_n 0, 1, 9, .null, 0, 0, 0),
  (9, .iload_n 1, 1, 10, .null, 0, 0, 0),
  (10, .aload_n 0, 1, 11, .null, 0, 0, 0),
  (11, .getfield 199, 3, 14, .null, 4, 12, 774),
  (14, .aload_n 0, 1, 15, .null, 0, 0, 0),
  (15, .getfield 196, 3, 18, .null, 4, 11, 773),
  (18, .isub, 1, 19, .null, 0, 0, 0),
  (19, .invokevirtual 202, 3, 22, .null, 0, 0, 0),
  (22, .ifCond .ne 9, 3, 31, .null, 0, 0, 0),
  (25, .iinc 1 1, 3, 28, .int 1, 0, 0, 0),
  (28, .goto (-26), 3, 2, .null, 0, 0, 0),
  (31, .iload_n 1, 1, 32, .null, 0, 0, 0),
  (32, .bipush 15, 2, 34, .int 15, 0, 0, 0),
  (34, .if_icmp .ge 7, 3, 41, .null, 0, 0, 0),
  (37, .iload_n 1, 1, 38, .null, 0, 0, 0),
  (38, .goto 5, 3, 43, .null, 0, 0, 0),
  (41, .bipush 23, 2, 43, .int 23, 0, 0, 0),
  (43, .ireturn, 1, 44, .null, 0, 0, 0)]
set_option maxRecDepth 100000 in
theorem ek_M_wordHere : e_M_wordHere.all (eok 4 c_M_wordHere) = true := by decide +kernel
def F_M_wordHere_43 (y0 : Int32) (w : A_W) : Option (Int32 × A_W) :=
  some (y0, w)
def F_M_wordHere_31 (x1 : Int32) (w : A_W) : Option (Int32 × A_W) :=
  if 15 ≤ x1 then
    F_M_wordHere_43 23 w
  else
    F_M_wordHere_43 x1 w
def F_M_wordHere_2 : Nat → Nat → Int32 → A_W → Option (Int32 × A_W)
  | 0, _, _, _ => none
  | n + 1, t, x1, w =>
    if 15 ≤ x1 then
      F_M_wordHere_31 x1 w
    else
      (gi w t 4 12).bind fun v2 =>
      (gi w t 4 11).bind fun v3 =>
      (ob w t 4).bind fun o5 =>
      (F_M_isName t x1 (v2 - v3) w).bind fun p4 =>
      if p4.1 = 0 then
        F_M_wordHere_2 n t (x1 + 1) p4.2
      else
        F_M_wordHere_31 x1 p4.2
def F_M_wordHere_0 (t : Nat) (w : A_W) : Option (Int32 × A_W) :=
  F_M_wordHere_2 FU t 0 w
set_option maxHeartbeats 4000000 in
set_option maxRecDepth 100000 in
theorem s_M_wordHere_43 {G : Gx} {X : Cx} {res : Int32 × A_W} (K : Ok G X 4 c_M_wordHere 2 (some .int) rm_M_wordHere) (hQ : QQ G X (some (.int res.1)) res.2 0 0) (y0 : Int32) (w : A_W) (h : F_M_wordHere_43 y0 w = some res) : Sm G X w 0 0 [none, none] [.int y0] 43 := by
  unfold F_M_wordHere_43 at h
  obtain rfl := Option.some.inj h
  exact Sm_reti K hQ (eok_i (eo ek_M_wordHere (i := 22) rfl) rfl)
set_option maxHeartbeats 4000000 in
set_option maxRecDepth 100000 in
theorem s_M_wordHere_31 {G : Gx} {X : Cx} {res : Int32 × A_W} (K : Ok G X 4 c_M_wordHere 2 (some .int) rm_M_wordHere) (hQ : QQ G X (some (.int res.1)) res.2 0 0) (x1 : Int32) (w : A_W) (h : F_M_wordHere_31 x1 w = some res) : Sm G X w 0 0 [none, some (.int x1)] [] 31 := by
  unfold F_M_wordHere_31 at h
  refine Sm_run K ek_M_wordHere 16 2 rfl ?_
  refine Sm_ic_ge K (eo ek_M_wordHere (i := 18) rfl) (fun c1 => ?_) (fun c1 => ?_)
  · rw [if_pos c1] at h
    refine Sm_run K ek_M_wordHere 21 1 rfl ?_
    exact Sm_le (leR_n (leR_n leR_nil)) (s_M_wordHere_43 K hQ _ _ h)
  · rw [if_neg c1] at h
    refine Sm_run K ek_M_wordHere 19 2 rfl ?_
    exact Sm_le (leR_n (leR_n leR_nil)) (s_M_wordHere_43 K hQ _ _ h)
set_option maxHeartbeats 4000000 in
set_option maxRecDepth 100000 in
theorem s_M_wordHere_2 {G : Gx} {X : Cx} {res : Int32 × A_W} (K : Ok G X 4 c_M_wordHere 2 (some .int) rm_M_wordHere) (hQ : QQ G X (some (.int res.1)) res.2 0 0) : ∀ (n : Nat) (t : Nat) (x1 : Int32) (w : A_W), F_M_wordHere_2 n t x1 w = some res → Sm G X w 0 0 [some (.ref t), some (.int x1)] [] 2 := by
  intro n
  induction n with
  | zero => intro t x1 w h; cases h
  | succ n ih =>
    intro t x1 w h
    rw [F_M_wordHere_2] at h
    refine Sm_run K ek_M_wordHere 2 2 rfl ?_
    refine Sm_ic_ge K (eo ek_M_wordHere (i := 4) rfl) (fun c1 => ?_) (fun c1 => ?_)
    · rw [if_pos c1] at h
      exact Sm_le (leR_n (leR_s leR_nil)) (s_M_wordHere_31 K hQ _ _ h)
    · rw [if_neg c1] at h
      refine Sm_run K ek_M_wordHere 5 3 rfl ?_
      obtain ⟨v2, e_v2, h⟩ := Option.bind_eq_some_iff.mp h
      refine Sm_gi K (eo ek_M_wordHere (i := 8) rfl) e_v2 ?_
      refine Sm_run K ek_M_wordHere 9 1 rfl ?_
      obtain ⟨v3, e_v3, h⟩ := Option.bind_eq_some_iff.mp h
      refine Sm_gi K (eo ek_M_wordHere (i := 10) rfl) e_v3 ?_
      refine Sm_run K ek_M_wordHere 11 1 rfl ?_
      obtain ⟨o5, e_o5, h⟩ := Option.bind_eq_some_iff.mp h
      obtain ⟨p4, e_p4, h⟩ := Option.bind_eq_some_iff.mp h
      refine Sm_callV K (eok_i (eo ek_M_wordHere (i := 12) rfl) rfl) cy_M_isName im_M_isName se_M_isName (lgm 1121 (by decide +kernel) rfl) ⟨Nat.le_of_ble_eq_true rfl, Nat.le_of_ble_eq_true rfl⟩ (as := [.int x1, .int (v2 - v3)]) (b := t) (st := []) (ob_e e_o5) (by decide) rfl rfl rfl rfl (Nat.le_of_ble_eq_true rfl) ⟨Nat.le_of_ble_eq_true rfl, Nat.le_of_ble_eq_true rfl⟩ (cn_M_isName e_p4) ?_
      refine Sm_eq (st1 := .int p4.1 :: []) (nc1 := 0) (ns1 := 0) rfl rfl rfl ?_
      refine Sm_if_ne K (eo ek_M_wordHere (i := 13) rfl) (fun c6 => ?_) (fun c6 => ?_)
      · rw [if_neg c6] at h
        exact Sm_le (leR_n (leR_s leR_nil)) (s_M_wordHere_31 K hQ _ _ h)
      · rw [if_pos c6] at h
        refine Sm_run K ek_M_wordHere 14 2 rfl ?_
        exact Sm_le (leR_s (leR_s leR_nil)) (ih _ _ _ h)
set_option maxHeartbeats 4000000 in
set_option maxRecDepth 100000 in
theorem s_M_wordHere_0 {G : Gx} {X : Cx} {res : Int32 × A_W} (K : Ok G X 4 c_M_wordHere 2 (some .int) rm_M_wordHere) (hQ : QQ G X (some (.int res.1)) res.2 0 0) (t : Nat) (w : A_W) (h : F_M_wordHere_0 t w = some res) : Sm G X w 0 0 [some (.ref t), none] [] 0 := by
  unfold F_M_wordHere_0 at h
  refine Sm_run K ek_M_wordHere 0 2 rfl ?_
  exact Sm_le (leR_s (leR_s leR_nil)) (s_M_wordHere_2 K hQ FU _ _ _ h)
def F_M_wordHere (t : Nat) (w : A_W) : Option (Int32 × A_W) := F_M_wordHere_0 t w
theorem cn_M_wordHere {G : Gx} {t : Nat} {w : A_W} {res : Int32 × A_W} (h : F_M_wordHere t w = some res) : Cn G y_M_wordHere c_M_wordHere 2 (some .int) rm_M_wordHere [.ref t] w (some (.int res.1)) res.2 :=
  Cn_of (own := 4) cy_M_wordHere rfl rfl (Nat.le_of_ble_eq_true rfl) rfl (fun X K _ hQ => Sm_le (leR_s (leR_n leR_nil)) (s_M_wordHere_0 K hQ _ _ h))
