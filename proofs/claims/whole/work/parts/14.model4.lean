/-! EveningCloakModel.meets(II)I -/
abbrev c_M_meets : ByteArray := prog_6_method_52_code
def y_M_meets : MethodName := ⟨"EveningCloakModel", "meets", "(II)I"⟩
def rm_M_meets : Room := { frames := 6, cells := 0, slots := 0, locals := 138 }
theorem cy_M_meets : Cy y_M_meets c_M_meets 3 (some .int) 2 := ⟨lgm 1002 (by decide +kernel) rfl, lgm 73 (by decide +kernel) rfl, by decide +kernel, by decide +kernel⟩
theorem im_M_meets : Cond.instanceMethod y_M_meets ∈ lg := lgm 1000 (by decide +kernel) rfl
theorem se_M_meets : Cond.selects y_M_meets.cls y_M_meets y_M_meets ∈ lg := lgm 1001 (by decide +kernel) rfl
def e_M_meets : List Ent := [
  (0, .aload_n 0, 1, 1, .null, 0, 0, 0),
  (1, .iload_n 1, 1, 2, .null, 0, 0, 0),
  (2, .invokevirtual 100, 3, 5, .null, 0, 0, 0),
  (5, .ifCond .eq 30, 3, 35, .null, 0, 0, 0),
  (8, .iload_n 2, 1, 9, .null, 0, 0, 0),
  (9, .iconst 0, 1, 10, .int 0, 0, 0, 0),
  (10, .sipush 9999, 3, 13, .int 9999, 0, 0, 0),
  (13, .invokestatic 40, 3, 16, .null, 0, 0, 0),
  (16, .ifCond .eq 19, 3, 35, .null, 0, 0, 0),
  (19, .aload_n 0, 1, 20, .null, 0, 0, 0),
  (20, .bipush 59, 2, 22, .int 59, 0, 0, 0),
  (22, .iconst 3, 1, 23, .int 3, 0, 0, 0),
  (23, .iload_n 1, 1, 24, .null, 0, 0, 0),
  (24, .imul, 1, 25, .null, 0, 0, 0),
  (25, .iadd, 1, 26, .null, 0, 0, 0),
  (26, .iconst 2, 1, 27, .int 2, 0, 0, 0),
  (27, .iadd, 1, 28, .null, 0, 0, 0),
  (28, .iload_n 2, 1, 29, .null, 0, 0, 0),
  (29, .invokevirtual 148, 3, 32, .null, 0, 0, 0),
  (32, .goto 9, 3, 41, .null, 0, 0, 0),
  (35, .aload_n 0, 1, 36, .null, 0, 0, 0),
  (36, .ldc 34, 2, 38, .int (-1000001), 0, 0, 825),
  (38, .invokevirtual 36, 3, 41, .null, 0, 0, 0),
  (41, .ireturn, 1, 42, .null, 0, 0, 0)]
set_option maxRecDepth 100000 in
theorem ek_M_meets : e_M_meets.all (eok 4 c_M_meets) = true := by decide +kernel
def F_M_meets_41 (y0 : Int32) (w : A_W) : Option (Int32 × A_W) :=
  some (y0, w)
def F_M_meets_35 (t : Nat) (w : A_W) : Option (Int32 × A_W) :=
  (ob w t 4).bind fun o2 =>
  (F_M_finds t (-1000001) w).bind fun p1 =>
  F_M_meets_41 p1.1 p1.2
def F_M_meets_0 (t : Nat) (x1 : Int32) (x2 : Int32) (w : A_W) : Option (Int32 × A_W) :=
  (ob w t 4).bind fun o2 =>
  (F_M_isGirl t x1 w).bind fun p1 =>
  if p1.1 = 0 then
    F_M_meets_35 t p1.2
  else
    (F_M_in x2 0 9999 p1.2).bind fun p4 =>
    if p4.1 = 0 then
      F_M_meets_35 t p4.2
    else
      (ob p4.2 t 4).bind fun o7 =>
      (F_M_muchIn t ((59 + (3 * x1)) + 2) x2 p4.2).bind fun p6 =>
      F_M_meets_41 p6.1 p6.2
set_option maxHeartbeats 4000000 in
set_option maxRecDepth 100000 in
theorem s_M_meets_41 {G : Gx} {X : Cx} {res : Int32 × A_W} (K : Ok G X 4 c_M_meets 3 (some .int) rm_M_meets) (hQ : QQ G X (some (.int res.1)) res.2 0 0) (y0 : Int32) (w : A_W) (h : F_M_meets_41 y0 w = some res) : Sm G X w 0 0 [none, none, none] [.int y0] 41 := by
  unfold F_M_meets_41 at h
  obtain rfl := Option.some.inj h
  exact Sm_reti K hQ (eok_i (eo ek_M_meets (i := 23) rfl) rfl)
set_option maxHeartbeats 4000000 in
set_option maxRecDepth 100000 in
theorem s_M_meets_35 {G : Gx} {X : Cx} {res : Int32 × A_W} (K : Ok G X 4 c_M_meets 3 (some .int) rm_M_meets) (hQ : QQ G X (some (.int res.1)) res.2 0 0) (t : Nat) (w : A_W) (h : F_M_meets_35 t w = some res) : Sm G X w 0 0 [some (.ref t), none, none] [] 35 := by
  unfold F_M_meets_35 at h
  refine Sm_run K ek_M_meets 20 2 rfl ?_
  obtain ⟨o2, e_o2, h⟩ := Option.bind_eq_some_iff.mp h
  obtain ⟨p1, e_p1, h⟩ := Option.bind_eq_some_iff.mp h
  refine Sm_callV K (eok_i (eo ek_M_meets (i := 22) rfl) rfl) cy_M_finds im_M_finds se_M_finds (lgm 826 (by decide +kernel) rfl) ⟨Nat.le_of_ble_eq_true rfl, Nat.le_of_ble_eq_true rfl⟩ (as := [.int (-1000001)]) (b := t) (st := []) (ob_e e_o2) (by decide) rfl rfl rfl rfl (Nat.le_of_ble_eq_true rfl) ⟨Nat.le_of_ble_eq_true rfl, Nat.le_of_ble_eq_true rfl⟩ (cn_M_finds e_p1) ?_
  refine Sm_eq (st1 := .int p1.1 :: []) (nc1 := 0) (ns1 := 0) rfl rfl rfl ?_
  exact Sm_le (leR_n (leR_n (leR_n leR_nil))) (s_M_meets_41 K hQ _ _ h)
set_option maxHeartbeats 4000000 in
set_option maxRecDepth 100000 in
theorem s_M_meets_0 {G : Gx} {X : Cx} {res : Int32 × A_W} (K : Ok G X 4 c_M_meets 3 (some .int) rm_M_meets) (hQ : QQ G X (some (.int res.1)) res.2 0 0) (t : Nat) (x1 : Int32) (x2 : Int32) (w : A_W) (h : F_M_meets_0 t x1 x2 w = some res) : Sm G X w 0 0 [some (.ref t), some (.int x1), some (.int x2)] [] 0 := by
  unfold F_M_meets_0 at h
  refine Sm_run K ek_M_meets 0 2 rfl ?_
  obtain ⟨o2, e_o2, h⟩ := Option.bind_eq_some_iff.mp h
  obtain ⟨p1, e_p1, h⟩ := Option.bind_eq_some_iff.mp h
  refine Sm_callV K (eok_i (eo ek_M_meets (i := 2) rfl) rfl) cy_M_isGirl im_M_isGirl se_M_isGirl (lgm 909 (by decide +kernel) rfl) ⟨Nat.le_of_ble_eq_true rfl, Nat.le_of_ble_eq_true rfl⟩ (as := [.int x1]) (b := t) (st := []) (ob_e e_o2) (by decide) rfl rfl rfl rfl (Nat.le_of_ble_eq_true rfl) ⟨Nat.le_of_ble_eq_true rfl, Nat.le_of_ble_eq_true rfl⟩ (cn_M_isGirl e_p1) ?_
  refine Sm_eq (st1 := .int p1.1 :: []) (nc1 := 0) (ns1 := 0) rfl rfl rfl ?_
  refine Sm_if_eq K (eo ek_M_meets (i := 3) rfl) (fun c3 => ?_) (fun c3 => ?_)
  · rw [if_pos c3] at h
    exact Sm_le (leR_s (leR_n (leR_n leR_nil))) (s_M_meets_35 K hQ _ _ h)
  · rw [if_neg c3] at h
    refine Sm_run K ek_M_meets 4 3 rfl ?_
    obtain ⟨p4, e_p4, h⟩ := Option.bind_eq_some_iff.mp h
    refine Sm_callS K (eok_i (eo ek_M_meets (i := 7) rfl) rfl) cy_M_in st_M_in (lgm 815 (by decide +kernel) rfl) ⟨Nat.le_of_ble_eq_true rfl, Nat.le_of_ble_eq_true rfl⟩ (as := [.int x2, .int 0, .int 9999]) (st := []) rfl rfl rfl (Nat.le_of_ble_eq_true rfl) ⟨Nat.le_of_ble_eq_true rfl, Nat.le_of_ble_eq_true rfl⟩ (cn_M_in e_p4) ?_
    refine Sm_eq (st1 := .int p4.1 :: []) (nc1 := 0) (ns1 := 0) rfl rfl rfl ?_
    refine Sm_if_eq K (eo ek_M_meets (i := 8) rfl) (fun c5 => ?_) (fun c5 => ?_)
    · rw [if_pos c5] at h
      exact Sm_le (leR_s (leR_n (leR_n leR_nil))) (s_M_meets_35 K hQ _ _ h)
    · rw [if_neg c5] at h
      refine Sm_run K ek_M_meets 9 9 rfl ?_
      obtain ⟨o7, e_o7, h⟩ := Option.bind_eq_some_iff.mp h
      obtain ⟨p6, e_p6, h⟩ := Option.bind_eq_some_iff.mp h
      refine Sm_callV K (eok_i (eo ek_M_meets (i := 18) rfl) rfl) cy_M_muchIn im_M_muchIn se_M_muchIn (lgm 1003 (by decide +kernel) rfl) ⟨Nat.le_of_ble_eq_true rfl, Nat.le_of_ble_eq_true rfl⟩ (as := [.int ((59 + (3 * x1)) + 2), .int x2]) (b := t) (st := []) (ob_e e_o7) (by decide) rfl rfl rfl rfl (Nat.le_of_ble_eq_true rfl) ⟨Nat.le_of_ble_eq_true rfl, Nat.le_of_ble_eq_true rfl⟩ (cn_M_muchIn e_p6) ?_
      refine Sm_eq (st1 := .int p6.1 :: []) (nc1 := 0) (ns1 := 0) rfl rfl rfl ?_
      refine Sm_run K ek_M_meets 19 1 rfl ?_
      exact Sm_le (leR_n (leR_n (leR_n leR_nil))) (s_M_meets_41 K hQ _ _ h)
def F_M_meets (t : Nat) (x1 : Int32) (x2 : Int32) (w : A_W) : Option (Int32 × A_W) := F_M_meets_0 t x1 x2 w
theorem cn_M_meets {G : Gx} {t : Nat} {x1 : Int32} {x2 : Int32} {w : A_W} {res : Int32 × A_W} (h : F_M_meets t x1 x2 w = some res) : Cn G y_M_meets c_M_meets 3 (some .int) rm_M_meets [.ref t, .int x1, .int x2] w (some (.int res.1)) res.2 :=
  Cn_of (own := 4) cy_M_meets rfl rfl (Nat.le_of_ble_eq_true rfl) rfl (fun X K _ hQ => Sm_le (leR_s (leR_s (leR_s leR_nil))) (s_M_meets_0 K hQ _ _ _ _ h))
/-! EveningCloakModel.threadbare(II)I -/
abbrev c_M_threadbare : ByteArray := prog_6_method_53_code
def y_M_threadbare : MethodName := ⟨"EveningCloakModel", "threadbare", "(II)I"⟩
def rm_M_threadbare : Room := { frames := 6, cells := 0, slots := 0, locals := 138 }
theorem cy_M_threadbare : Cy y_M_threadbare c_M_threadbare 3 (some .int) 2 := ⟨lgm 1010 (by decide +kernel) rfl, lgm 73 (by decide +kernel) rfl, by decide +kernel, by decide +kernel⟩
theorem im_M_threadbare : Cond.instanceMethod y_M_threadbare ∈ lg := lgm 1008 (by decide +kernel) rfl
theorem se_M_threadbare : Cond.selects y_M_threadbare.cls y_M_threadbare y_M_threadbare ∈ lg := lgm 1009 (by decide +kernel) rfl
def e_M_threadbare : List Ent := [
  (0, .aload_n 0, 1, 1, .null, 0, 0, 0),
  (1, .iload_n 1, 1, 2, .null, 0, 0, 0),
  (2, .invokevirtual 88, 3, 5, .null, 0, 0, 0),
  (5, .ifCond .eq 30, 3, 35, .null, 0, 0, 0),
  (8, .iload_n 2, 1, 9, .null, 0, 0, 0),
  (9, .iconst 0, 1, 10, .int 0, 0, 0, 0),
  (10, .bipush 99, 2, 12, .int 99, 0, 0, 0),
  (12, .invokestatic 40, 3, 15, .null, 0, 0, 0),
  (15, .ifCond .eq 20, 3, 35, .null, 0, 0, 0),
  (18, .aload_n 0, 1, 19, .null, 0, 0, 0),
  (19, .bipush 11, 2, 21, .int 11, 0, 0, 0),
  (21, .bipush 6, 2, 23, .int 6, 0, 0, 0),
  (23, .iload_n 1, 1, 24, .null, 0, 0, 0),
  (24, .imul, 1, 25, .null, 0, 0, 0),
  (25, .iadd, 1, 26, .null, 0, 0, 0),
  (26, .iconst 4, 1, 27, .int 4, 0, 0, 0),
  (27, .iadd, 1, 28, .null, 0, 0, 0),
  (28, .iload_n 2, 1, 29, .null, 0, 0, 0),
  (29, .invokevirtual 148, 3, 32, .null, 0, 0, 0),
  (32, .goto 9, 3, 41, .null, 0, 0, 0),
  (35, .aload_n 0, 1, 36, .null, 0, 0, 0),
  (36, .ldc 34, 2, 38, .int (-1000001), 0, 0, 825),
  (38, .invokevirtual 36, 3, 41, .null, 0, 0, 0),
  (41, .ireturn, 1, 42, .null, 0, 0, 0)]
set_option maxRecDepth 100000 in
theorem ek_M_threadbare : e_M_threadbare.all (eok 4 c_M_threadbare) = true := by decide +kernel
def F_M_threadbare_41 (y0 : Int32) (w : A_W) : Option (Int32 × A_W) :=
  some (y0, w)
def F_M_threadbare_35 (t : Nat) (w : A_W) : Option (Int32 × A_W) :=
  (ob w t 4).bind fun o2 =>
  (F_M_finds t (-1000001) w).bind fun p1 =>
  F_M_threadbare_41 p1.1 p1.2
def F_M_threadbare_0 (t : Nat) (x1 : Int32) (x2 : Int32) (w : A_W) : Option (Int32 × A_W) :=
  (ob w t 4).bind fun o2 =>
  (F_M_isDeposit t x1 w).bind fun p1 =>
  if p1.1 = 0 then
    F_M_threadbare_35 t p1.2
  else
    (F_M_in x2 0 99 p1.2).bind fun p4 =>
    if p4.1 = 0 then
      F_M_threadbare_35 t p4.2
    else
      (ob p4.2 t 4).bind fun o7 =>
      (F_M_muchIn t ((11 + (6 * x1)) + 4) x2 p4.2).bind fun p6 =>
      F_M_threadbare_41 p6.1 p6.2
set_option maxHeartbeats 4000000 in
set_option maxRecDepth 100000 in
theorem s_M_threadbare_41 {G : Gx} {X : Cx} {res : Int32 × A_W} (K : Ok G X 4 c_M_threadbare 3 (some .int) rm_M_threadbare) (hQ : QQ G X (some (.int res.1)) res.2 0 0) (y0 : Int32) (w : A_W) (h : F_M_threadbare_41 y0 w = some res) : Sm G X w 0 0 [none, none, none] [.int y0] 41 := by
  unfold F_M_threadbare_41 at h
  obtain rfl := Option.some.inj h
  exact Sm_reti K hQ (eok_i (eo ek_M_threadbare (i := 23) rfl) rfl)
set_option maxHeartbeats 4000000 in
set_option maxRecDepth 100000 in
theorem s_M_threadbare_35 {G : Gx} {X : Cx} {res : Int32 × A_W} (K : Ok G X 4 c_M_threadbare 3 (some .int) rm_M_threadbare) (hQ : QQ G X (some (.int res.1)) res.2 0 0) (t : Nat) (w : A_W) (h : F_M_threadbare_35 t w = some res) : Sm G X w 0 0 [some (.ref t), none, none] [] 35 := by
  unfold F_M_threadbare_35 at h
  refine Sm_run K ek_M_threadbare 20 2 rfl ?_
  obtain ⟨o2, e_o2, h⟩ := Option.bind_eq_some_iff.mp h
  obtain ⟨p1, e_p1, h⟩ := Option.bind_eq_some_iff.mp h
  refine Sm_callV K (eok_i (eo ek_M_threadbare (i := 22) rfl) rfl) cy_M_finds im_M_finds se_M_finds (lgm 826 (by decide +kernel) rfl) ⟨Nat.le_of_ble_eq_true rfl, Nat.le_of_ble_eq_true rfl⟩ (as := [.int (-1000001)]) (b := t) (st := []) (ob_e e_o2) (by decide) rfl rfl rfl rfl (Nat.le_of_ble_eq_true rfl) ⟨Nat.le_of_ble_eq_true rfl, Nat.le_of_ble_eq_true rfl⟩ (cn_M_finds e_p1) ?_
  refine Sm_eq (st1 := .int p1.1 :: []) (nc1 := 0) (ns1 := 0) rfl rfl rfl ?_
  exact Sm_le (leR_n (leR_n (leR_n leR_nil))) (s_M_threadbare_41 K hQ _ _ h)
set_option maxHeartbeats 4000000 in
set_option maxRecDepth 100000 in
theorem s_M_threadbare_0 {G : Gx} {X : Cx} {res : Int32 × A_W} (K : Ok G X 4 c_M_threadbare 3 (some .int) rm_M_threadbare) (hQ : QQ G X (some (.int res.1)) res.2 0 0) (t : Nat) (x1 : Int32) (x2 : Int32) (w : A_W) (h : F_M_threadbare_0 t x1 x2 w = some res) : Sm G X w 0 0 [some (.ref t), some (.int x1), some (.int x2)] [] 0 := by
  unfold F_M_threadbare_0 at h
  refine Sm_run K ek_M_threadbare 0 2 rfl ?_
  obtain ⟨o2, e_o2, h⟩ := Option.bind_eq_some_iff.mp h
  obtain ⟨p1, e_p1, h⟩ := Option.bind_eq_some_iff.mp h
  refine Sm_callV K (eok_i (eo ek_M_threadbare (i := 2) rfl) rfl) cy_M_isDeposit im_M_isDeposit se_M_isDeposit (lgm 863 (by decide +kernel) rfl) ⟨Nat.le_of_ble_eq_true rfl, Nat.le_of_ble_eq_true rfl⟩ (as := [.int x1]) (b := t) (st := []) (ob_e e_o2) (by decide) rfl rfl rfl rfl (Nat.le_of_ble_eq_true rfl) ⟨Nat.le_of_ble_eq_true rfl, Nat.le_of_ble_eq_true rfl⟩ (cn_M_isDeposit e_p1) ?_
  refine Sm_eq (st1 := .int p1.1 :: []) (nc1 := 0) (ns1 := 0) rfl rfl rfl ?_
  refine Sm_if_eq K (eo ek_M_threadbare (i := 3) rfl) (fun c3 => ?_) (fun c3 => ?_)
  · rw [if_pos c3] at h
    exact Sm_le (leR_s (leR_n (leR_n leR_nil))) (s_M_threadbare_35 K hQ _ _ h)
  · rw [if_neg c3] at h
    refine Sm_run K ek_M_threadbare 4 3 rfl ?_
    obtain ⟨p4, e_p4, h⟩ := Option.bind_eq_some_iff.mp h
    refine Sm_callS K (eok_i (eo ek_M_threadbare (i := 7) rfl) rfl) cy_M_in st_M_in (lgm 815 (by decide +kernel) rfl) ⟨Nat.le_of_ble_eq_true rfl, Nat.le_of_ble_eq_true rfl⟩ (as := [.int x2, .int 0, .int 99]) (st := []) rfl rfl rfl (Nat.le_of_ble_eq_true rfl) ⟨Nat.le_of_ble_eq_true rfl, Nat.le_of_ble_eq_true rfl⟩ (cn_M_in e_p4) ?_
    refine Sm_eq (st1 := .int p4.1 :: []) (nc1 := 0) (ns1 := 0) rfl rfl rfl ?_
    refine Sm_if_eq K (eo ek_M_threadbare (i := 8) rfl) (fun c5 => ?_) (fun c5 => ?_)
    · rw [if_pos c5] at h
      exact Sm_le (leR_s (leR_n (leR_n leR_nil))) (s_M_threadbare_35 K hQ _ _ h)
    · rw [if_neg c5] at h
      refine Sm_run K ek_M_threadbare 9 9 rfl ?_
      obtain ⟨o7, e_o7, h⟩ := Option.bind_eq_some_iff.mp h
      obtain ⟨p6, e_p6, h⟩ := Option.bind_eq_some_iff.mp h
      refine Sm_callV K (eok_i (eo ek_M_threadbare (i := 18) rfl) rfl) cy_M_muchIn im_M_muchIn se_M_muchIn (lgm 1003 (by decide +kernel) rfl) ⟨Nat.le_of_ble_eq_true rfl, Nat.le_of_ble_eq_true rfl⟩ (as := [.int ((11 + (6 * x1)) + 4), .int x2]) (b := t) (st := []) (ob_e e_o7) (by decide) rfl rfl rfl rfl (Nat.le_of_ble_eq_true rfl) ⟨Nat.le_of_ble_eq_true rfl, Nat.le_of_ble_eq_true rfl⟩ (cn_M_muchIn e_p6) ?_
      refine Sm_eq (st1 := .int p6.1 :: []) (nc1 := 0) (ns1 := 0) rfl rfl rfl ?_
      refine Sm_run K ek_M_threadbare 19 1 rfl ?_
      exact Sm_le (leR_n (leR_n (leR_n leR_nil))) (s_M_threadbare_41 K hQ _ _ h)
def F_M_threadbare (t : Nat) (x1 : Int32) (x2 : Int32) (w : A_W) : Option (Int32 × A_W) := F_M_threadbare_0 t x1 x2 w
theorem cn_M_threadbare {G : Gx} {t : Nat} {x1 : Int32} {x2 : Int32} {w : A_W} {res : Int32 × A_W} (h : F_M_threadbare t x1 x2 w = some res) : Cn G y_M_threadbare c_M_threadbare 3 (some .int) rm_M_threadbare [.ref t, .int x1, .int x2] w (some (.int res.1)) res.2 :=
  Cn_of (own := 4) cy_M_threadbare rfl rfl (Nat.le_of_ble_eq_true rfl) rfl (fun X K _ hQ => Sm_le (leR_s (leR_s (leR_s leR_nil))) (s_M_threadbare_0 K hQ _ _ _ _ h))
/-! EveningCloakModel.earns(I)I -/
abbrev c_M_earns : ByteArray := prog_6_method_54_code
def y_M_earns : MethodName := ⟨"EveningCloakModel", "earns", "(I)I"⟩
def rm_M_earns : Room := { frames := 6, cells := 0, slots := 0, locals := 138 }
theorem cy_M_earns : Cy y_M_earns c_M_earns 2 (some .int) 1 := ⟨lgm 1014 (by decide +kernel) rfl, lgm 73 (by decide +kernel) rfl, by decide +kernel, by decide +kernel⟩
theorem im_M_earns : Cond.instanceMethod y_M_earns ∈ lg := lgm 1012 (by decide +kernel) rfl
theorem se_M_earns : Cond.selects y_M_earns.cls y_M_earns y_M_earns ∈ lg := lgm 1013 (by decide +kernel) rfl
def e_M_earns : List Ent := [
  (0, .iload_n 1, 1, 1, .null, 0, 0, 0),
  (1, .iconst 0, 1, 2, .int 0, 0, 0, 0),
  (2, .ldc 117, 2, 4, .int 99999, 0, 0, 938),
  (4, .invokestatic 40, 3, 7, .null, 0, 0, 0),
  (7, .ifCond .eq 12, 3, 19, .null, 0, 0, 0),
  (10, .aload_n 0, 1, 11, .null, 0, 0, 0),
  (11, .iconst 1, 1, 12, .int 1, 0, 0, 0),
  (12, .iload_n 1, 1, 13, .null, 0, 0, 0),
  (13, .invokevirtual 148, 3, 16, .null, 0, 0, 0),
  (16, .goto 9, 3, 25, .null, 0, 0, 0),
  (19, .aload_n 0, 1, 20, .null, 0, 0, 0),
  (20, .ldc 34, 2, 22, .int (-1000001), 0, 0, 825),
  (22, .invokevirtual 36, 3, 25, .null, 0, 0, 0),
  (25, .ireturn, 1, 26, .null, 0, 0, 0)]
set_option maxRecDepth 100000 in
theorem ek_M_earns : e_M_earns.all (eok 4 c_M_earns) = true := by decide +kernel
def F_M_earns_25 (y0 : Int32) (w : A_W) : Option (Int32 × A_W) :=
  some (y0, w)
def F_M_earns_0 (t : Nat) (x1 : Int32) (w : A_W) : Option (Int32 × A_W) :=
  (F_M_in x1 0 99999 w).bind fun p1 =>
  if p1.1 = 0 then
    (ob p1.2 t 4).bind fun o4 =>
    (F_M_finds t (-1000001) p1.2).bind fun p3 =>
    F_M_earns_25 p3.1 p3.2
  else
    (ob p1.2 t 4).bind fun o6 =>
    (F_M_muchIn t 1 x1 p1.2).bind fun p5 =>
    F_M_earns_25 p5.1 p5.2
set_option maxHeartbeats 4000000 in
set_option maxRecDepth 100000 in
theorem s_M_earns_25 {G : Gx} {X : Cx} {res : Int32 × A_W} (K : Ok G X 4 c_M_earns 2 (some .int) rm_M_earns) (hQ : QQ G X (some (.int res.1)) res.2 0 0) (y0 : Int32) (w : A_W) (h : F_M_earns_25 y0 w = some res) : Sm G X w 0 0 [none, none] [.int y0] 25 := by
  unfold F_M_earns_25 at h
  obtain rfl := Option.some.inj h
  exact Sm_reti K hQ (eok_i (eo ek_M_earns (i := 13) rfl) rfl)
set_option maxHeartbeats 4000000 in
set_option maxRecDepth 100000 in
theorem s_M_earns_0 {G : Gx} {X : Cx} {res : Int32 × A_W} (K : Ok G X 4 c_M_earns 2 (some .int) rm_M_earns) (hQ : QQ G X (some (.int res.1)) res.2 0 0) (t : Nat) (x1 : Int32) (w : A_W) (h : F_M_earns_0 t x1 w = some res) : Sm G X w 0 0 [some (.ref t), some (.int x1)] [] 0 := by
  unfold F_M_earns_0 at h
  refine Sm_run K ek_M_earns 0 3 rfl ?_
  obtain ⟨p1, e_p1, h⟩ := Option.bind_eq_some_iff.mp h
  refine Sm_callS K (eok_i (eo ek_M_earns (i := 3) rfl) rfl) cy_M_in st_M_in (lgm 815 (by decide +kernel) rfl) ⟨Nat.le_of_ble_eq_true rfl, Nat.le_of_ble_eq_true rfl⟩ (as := [.int x1, .int 0, .int 99999]) (st := []) rfl rfl rfl (Nat.le_of_ble_eq_true rfl) ⟨Nat.le_of_ble_eq_true rfl, Nat.le_of_ble_eq_true rfl⟩ (cn_M_in e_p1) ?_
  refine Sm_eq (st1 := .int p1.1 :: []) (nc1 := 0) (ns1 := 0) rfl rfl rfl ?_
  refine Sm_if_eq K (eo ek_M_earns (i := 4) rfl) (fun c2 => ?_) (fun c2 => ?_)
  · rw [if_pos c2] at h
    refine Sm_run K ek_M_earns 10 2 rfl ?_
    obtain ⟨o4, e_o4, h⟩ := Option.bind_eq_some_iff.mp h
    obtain ⟨p3, e_p3, h⟩ := Option.bind_eq_some_iff.mp h
    refine Sm_callV K (eok_i (eo ek_M_earns (i := 12) rfl) rfl) cy_M_finds im_M_finds se_M_finds (lgm 826 (by decide +kernel) rfl) ⟨Nat.le_of_ble_eq_true rfl, Nat.le_of_ble_eq_true rfl⟩ (as := [.int (-1000001)]) (b := t) (st := []) (ob_e e_o4) (by decide) rfl rfl rfl rfl (Nat.le_of_ble_eq_true rfl) ⟨Nat.le_of_ble_eq_true rfl, Nat.le_of_ble_eq_true rfl⟩ (cn_M_finds e_p3) ?_
    refine Sm_eq (st1 := .int p3.1 :: []) (nc1 := 0) (ns1 := 0) rfl rfl rfl ?_
    exact Sm_le (leR_n (leR_n leR_nil)) (s_M_earns_25 K hQ _ _ h)
  · rw [if_neg c2] at h
    refine Sm_run K ek_M_earns 5 3 rfl ?_
    obtain ⟨o6, e_o6, h⟩ := Option.bind_eq_some_iff.mp h
    obtain ⟨p5, e_p5, h⟩ := Option.bind_eq_some_iff.mp h
    refine Sm_callV K (eok_i (eo ek_M_earns (i := 8) rfl) rfl) cy_M_muchIn im_M_muchIn se_M_muchIn (lgm 1003 (by decide +kernel) rfl) ⟨Nat.le_of_ble_eq_true rfl, Nat.le_of_ble_eq_true rfl⟩ (as := [.int 1, .int x1]) (b := t) (st := []) (ob_e e_o6) (by decide) rfl rfl rfl rfl (Nat.le_of_ble_eq_true rfl) ⟨Nat.le_of_ble_eq_true rfl, Nat.le_of_ble_eq_true rfl⟩ (cn_M_muchIn e_p5) ?_
    refine Sm_eq (st1 := .int p5.1 :: []) (nc1 := 0) (ns1 := 0) rfl rfl rfl ?_
    refine Sm_run K ek_M_earns 9 1 rfl ?_
    exact Sm_le (leR_n (leR_n leR_nil)) (s_M_earns_25 K hQ _ _ h)
def F_M_earns (t : Nat) (x1 : Int32) (w : A_W) : Option (Int32 × A_W) := F_M_earns_0 t x1 w
theorem cn_M_earns {G : Gx} {t : Nat} {x1 : Int32} {w : A_W} {res : Int32 × A_W} (h : F_M_earns t x1 w = some res) : Cn G y_M_earns c_M_earns 2 (some .int) rm_M_earns [.ref t, .int x1] w (some (.int res.1)) res.2 :=
  Cn_of (own := 4) cy_M_earns rfl rfl (Nat.le_of_ble_eq_true rfl) rfl (fun X K _ hQ => Sm_le (leR_s (leR_s leR_nil)) (s_M_earns_0 K hQ _ _ _ h))
/-! EveningCloakModel.metBehind(I)I -/
abbrev c_M_metBehind : ByteArray := prog_6_method_55_code
def y_M_metBehind : MethodName := ⟨"EveningCloakModel", "metBehind", "(I)I"⟩
def rm_M_metBehind : Room := { frames := 6, cells := 0, slots := 0, locals := 137 }
theorem cy_M_metBehind : Cy y_M_metBehind c_M_metBehind 3 (some .int) 1 := ⟨lgm 1026 (by decide +kernel) rfl, lgm 73 (by decide +kernel) rfl, by decide +kernel, by decide +kernel⟩
theorem im_M_metBehind : Cond.instanceMethod y_M_metBehind ∈ lg := lgm 1025 (by decide +kernel) rfl
theorem se_M_metBehind : Cond.selects y_M_metBehind.cls y_M_metBehind y_M_metBehind ∈ lg := lgm 47 (by decide +kernel) rfl
def e_M_metBehind : List Ent := [
  (0, .aload_n 0, 1, 1, .null, 0, 0, 0),
  (1, .iload_n 1, 1, 2, .null, 0, 0, 0),
  (2, .invokevirtual 122, 3, 5, .null, 0, 0, 0),
  (5, .aload_n 0, 1, 6, .null, 0, 0, 0),
  (6, .iconst 2, 1, 7, .int 2, 0, 0, 0),
  (7, .invokevirtual 126, 3, 10, .null, 0, 0, 0),
  (10, .istore_n 2, 1, 11, .null, 0, 0, 0),
  (11, .aload_n 0, 1, 12, .null, 0, 0, 0),
  (12, .invokevirtual 145, 3, 15, .null, 0, 0, 0),
  (15, .iload_n 2, 1, 16, .null, 0, 0, 0),
  (16, .ireturn, 1, 17, .null, 0, 0, 0)]
set_option maxRecDepth 100000 in
theorem ek_M_metBehind : e_M_metBehind.all (eok 4 c_M_metBehind) = true := by decide +kernel
def F_M_metBehind_0 (t : Nat) (x1 : Int32) (w : A_W) : Option (Int32 × A_W) :=
  (ob w t 4).bind fun o2 =>
  (F_M_goesFor t x1 w).bind fun p1 =>
  (ob p1 t 4).bind fun o4 =>
  (F_M_sums t 2 p1).bind fun p3 =>
  (ob p3.2 t 4).bind fun o6 =>
  (F_M_putsBack t p3.2).bind fun p5 =>
  some (p3.1, p5)
set_option maxHeartbeats 4000000 in
set_option maxRecDepth 100000 in
theorem s_M_metBehind_0 {G : Gx} {X : Cx} {res : Int32 × A_W} (K : Ok G X 4 c_M_metBehind 3 (some .int) rm_M_metBehind) (hQ : QQ G X (some (.int res.1)) res.2 0 0) (t : Nat) (x1 : Int32) (w : A_W) (h : F_M_metBehind_0 t x1 w = some res) : Sm G X w 0 0 [some (.ref t), some (.int x1), none] [] 0 := by
  unfold F_M_metBehind_0 at h
  refine Sm_run K ek_M_metBehind 0 2 rfl ?_
  obtain ⟨o2, e_o2, h⟩ := Option.bind_eq_some_iff.mp h
  obtain ⟨p1, e_p1, h⟩ := Option.bind_eq_some_iff.mp h
  refine Sm_callV K (eok_i (eo ek_M_metBehind (i := 2) rfl) rfl) cy_M_goesFor im_M_goesFor se_M_goesFor (lgm 940 (by decide +kernel) rfl) ⟨Nat.le_of_ble_eq_true rfl, Nat.le_of_ble_eq_true rfl⟩ (as := [.int x1]) (b := t) (st := []) (ob_e e_o2) (by decide) rfl rfl rfl rfl (Nat.le_of_ble_eq_true rfl) ⟨Nat.le_of_ble_eq_true rfl, Nat.le_of_ble_eq_true rfl⟩ (cn_M_goesFor e_p1) ?_
  refine Sm_eq (st1 := []) (nc1 := 0) (ns1 := 0) rfl rfl rfl ?_
  refine Sm_run K ek_M_metBehind 3 2 rfl ?_
  obtain ⟨o4, e_o4, h⟩ := Option.bind_eq_some_iff.mp h
  obtain ⟨p3, e_p3, h⟩ := Option.bind_eq_some_iff.mp h
  refine Sm_callV K (eok_i (eo ek_M_metBehind (i := 5) rfl) rfl) cy_M_sums im_M_sums se_M_sums (lgm 960 (by decide +kernel) rfl) ⟨Nat.le_of_ble_eq_true rfl, Nat.le_of_ble_eq_true rfl⟩ (as := [.int 2]) (b := t) (st := []) (ob_e e_o4) (by decide) rfl rfl rfl rfl (Nat.le_of_ble_eq_true rfl) ⟨Nat.le_of_ble_eq_true rfl, Nat.le_of_ble_eq_true rfl⟩ (cn_M_sums e_p3) ?_
  refine Sm_eq (st1 := .int p3.1 :: []) (nc1 := 0) (ns1 := 0) rfl rfl rfl ?_
  refine Sm_run K ek_M_metBehind 6 2 rfl ?_
  obtain ⟨o6, e_o6, h⟩ := Option.bind_eq_some_iff.mp h
  obtain ⟨p5, e_p5, h⟩ := Option.bind_eq_some_iff.mp h
  refine Sm_callV K (eok_i (eo ek_M_metBehind (i := 8) rfl) rfl) cy_M_putsBack im_M_putsBack se_M_putsBack (lgm 987 (by decide +kernel) rfl) ⟨Nat.le_of_ble_eq_true rfl, Nat.le_of_ble_eq_true rfl⟩ (as := []) (b := t) (st := []) (ob_e e_o6) (by decide) rfl rfl rfl rfl (Nat.le_of_ble_eq_true rfl) ⟨Nat.le_of_ble_eq_true rfl, Nat.le_of_ble_eq_true rfl⟩ (cn_M_putsBack e_p5) ?_
  refine Sm_eq (st1 := []) (nc1 := 0) (ns1 := 0) rfl rfl rfl ?_
  refine Sm_run K ek_M_metBehind 9 1 rfl ?_
  obtain rfl := Option.some.inj h
  exact Sm_reti K hQ (eok_i (eo ek_M_metBehind (i := 10) rfl) rfl)
def F_M_metBehind (t : Nat) (x1 : Int32) (w : A_W) : Option (Int32 × A_W) := F_M_metBehind_0 t x1 w
theorem cn_M_metBehind {G : Gx} {t : Nat} {x1 : Int32} {w : A_W} {res : Int32 × A_W} (h : F_M_metBehind t x1 w = some res) : Cn G y_M_metBehind c_M_metBehind 3 (some .int) rm_M_metBehind [.ref t, .int x1] w (some (.int res.1)) res.2 :=
  Cn_of (own := 4) cy_M_metBehind rfl rfl (Nat.le_of_ble_eq_true rfl) rfl (fun X K _ hQ => Sm_le (leR_s (leR_s (leR_n leR_nil))) (s_M_metBehind_0 K hQ _ _ _ h))
/-! EveningCloakModel.mostBy(IIII)I -/
abbrev c_M_mostBy : ByteArray := prog_6_method_56_code
def y_M_mostBy : MethodName := ⟨"EveningCloakModel", "mostBy", "(IIII)I"⟩
def rm_M_mostBy : Room := { frames := 7, cells := 0, slots := 0, locals := 159 }
theorem cy_M_mostBy : Cy y_M_mostBy c_M_mostBy 9 (some .int) 4 := ⟨lgm 1022 (by decide +kernel) rfl, lgm 73 (by decide +kernel) rfl, by decide +kernel, by decide +kernel⟩
theorem im_M_mostBy : Cond.instanceMethod y_M_mostBy ∈ lg := lgm 1021 (by decide +kernel) rfl
theorem se_M_mostBy : Cond.selects y_M_mostBy.cls y_M_mostBy y_M_mostBy ∈ lg := lgm 46 (by decide +kernel) rfl
def e_M_mostBy : List Ent := [
  (0, .aload_n 0, 1, 1, .null, 0, 0, 0),
  (1, .invokevirtual 142, 3, 4, .null, 0, 0, 0),
  (4, .iconst 0, 1, 5, .int 0, 0, 0, 0),
  (5, .istore 5, 2, 7, .null, 0, 0, 0),
  (7, .iconst (-1), 1, 8, .int (-1), 0, 0, 0),
  (8, .istore 6, 2, 10, .null, 0, 0, 0),
  (10, .iconst 0, 1, 11, .int 0, 0, 0, 0),
  (11, .istore 7, 2, 13, .null, 0, 0, 0),
  (13, .iload 7, 2, 15, .null, 0, 0, 0),
  (15, .iload_n 3, 1, 16, .null, 0, 0, 0),
  (16, .if_icmp .ge 59, 3, 75, .null, 0, 0, 0),
  (19, .aload_n 0, 1, 20, .null, 0, 0, 0),
  (20, .getfield 9, 3, 23, .null, 4, 0, 762),
  (23, .iload_n 1, 1, 24, .null, 0, 0, 0),
  (24, .iload_n 2, 1, 25, .null, 0, 0, 0),
  (25, .iload 7, 2, 27, .null, 0, 0, 0),
  (27, .iadd, 1, 28, .null, 0, 0, 0),
  (28, .iastore, 1, 29, .null, 0, 0, 0),
  (29, .aload_n 0, 1, 30, .null, 0, 0, 0),
  (30, .iload 4, 2, 32, .null, 0, 0, 0),
  (32, .invokevirtual 151, 3, 35, .null, 0, 0, 0),
  (35, .istore 8, 2, 37, .null, 0, 0, 0),
  (37, .iload 8, 2, 39, .null, 0, 0, 0),
  (39, .iload 6, 2, 41, .null, 0, 0, 0),
  (41, .if_icmp .le 8, 3, 49, .null, 0, 0, 0),
  (44, .iload 7, 2, 46, .null, 0, 0, 0),
  (46, .goto 5, 3, 51, .null, 0, 0, 0),
  (49, .iload 5, 2, 51, .null, 0, 0, 0),
  (51, .istore 5, 2, 53, .null, 0, 0, 0),
  (53, .iload 8, 2, 55, .null, 0, 0, 0),
  (55, .iload 6, 2, 57, .null, 0, 0, 0),
  (57, .if_icmp .le 8, 3, 65, .null, 0, 0, 0),
  (60, .iload 8, 2, 62, .null, 0, 0, 0),
  (62, .goto 5, 3, 67, .null, 0, 0, 0),
  (65, .iload 6, 2, 67, .null, 0, 0, 0),
  (67, .istore 6, 2, 69, .null, 0, 0, 0),
  (69, .iinc 7 1, 3, 72, .int 1, 0, 0, 0),
  (72, .goto (-59), 3, 13, .null, 0, 0, 0),
  (75, .iload 5, 2, 77, .null, 0, 0, 0),
  (77, .ireturn, 1, 78, .null, 0, 0, 0)]
set_option maxRecDepth 100000 in
theorem ek_M_mostBy : e_M_mostBy.all (eok 4 c_M_mostBy) = true := by decide +kernel
def F_M_mostBy_67 (k13 : Nat → Int32 → Int32 → Int32 → Int32 → Int32 → Int32 → Int32 → A_W → Option (Int32 × A_W)) (t : Nat) (x1 : Int32) (x2 : Int32) (x3 : Int32) (x4 : Int32) (x5 : Int32) (x7 : Int32) (y0 : Int32) (w : A_W) : Option (Int32 × A_W) :=
  k13 t x1 x2 x3 x4 x5 y0 (x7 + 1) w
def F_M_mostBy_51 (k13 : Nat → Int32 → Int32 → Int32 → Int32 → Int32 → Int32 → Int32 → A_W → Option (Int32 × A_W)) (t : Nat) (x1 : Int32) (x2 : Int32) (x3 : Int32) (x4 : Int32) (x6 : Int32) (x7 : Int32) (x8 : Int32) (y0 : Int32) (w : A_W) : Option (Int32 × A_W) :=
  if x8 ≤ x6 then
    F_M_mostBy_67 k13 t x1 x2 x3 x4 y0 x7 x6 w
  else
    F_M_mostBy_67 k13 t x1 x2 x3 x4 y0 x7 x8 w
def F_M_mostBy_13 : Nat → Nat → Int32 → Int32 → Int32 → Int32 → Int32 → Int32 → Int32 → A_W → Option (Int32 × A_W)
  | 0, _, _, _, _, _, _, _, _, _ => none
  | n + 1, t, x1, x2, x3, x4, x5, x6, x7, w =>
    if x3 ≤ x7 then
      some (x5, w)
    else
      (gr w t 4 0).bind fun a2 =>
      (wr w a2 x1 (x2 + x7)).bind fun w3 =>
      (ob w3 t 4).bind fun o5 =>
      (F_M_metBehind t x4 w3).bind fun p4 =>
      if p4.1 ≤ x6 then
        F_M_mostBy_51 (F_M_mostBy_13 n) t x1 x2 x3 x4 x6 x7 p4.1 x5 p4.2
      else
        F_M_mostBy_51 (F_M_mostBy_13 n) t x1 x2 x3 x4 x6 x7 p4.1 x7 p4.2
def F_M_mostBy_0 (t : Nat) (x1 : Int32) (x2 : Int32) (x3 : Int32) (x4 : Int32) (w : A_W) : Option (Int32 × A_W) :=
  (ob w t 4).bind fun o2 =>
  (F_M_thinks t w).bind fun p1 =>
  F_M_mostBy_13 FU t x1 x2 x3 x4 0 (-1) 0 p1
set_option maxHeartbeats 4000000 in
set_option maxRecDepth 100000 in
theorem s_M_mostBy_67 {G : Gx} {X : Cx} {res : Int32 × A_W} (K : Ok G X 4 c_M_mostBy 9 (some .int) rm_M_mostBy) (hQ : QQ G X (some (.int res.1)) res.2 0 0) {k13 : Nat → Int32 → Int32 → Int32 → Int32 → Int32 → Int32 → Int32 → A_W → Option (Int32 × A_W)} (hk13 : ∀ (t : Nat) (x1 : Int32) (x2 : Int32) (x3 : Int32) (x4 : Int32) (x5 : Int32) (x6 : Int32) (x7 : Int32) (w : A_W), k13 t x1 x2 x3 x4 x5 x6 x7 w = some res → Sm G X w 0 0 [some (.ref t), some (.int x1), some (.int x2), some (.int x3), some (.int x4), some (.int x5), some (.int x6), some (.int x7), none] [] 13) (t : Nat) (x1 : Int32) (x2 : Int32) (x3 : Int32) (x4 : Int32) (x5 : Int32) (x7 : Int32) (y0 : Int32) (w : A_W) (h : F_M_mostBy_67 k13 t x1 x2 x3 x4 x5 x7 y0 w = some res) : Sm G X w 0 0 [some (.ref t), some (.int x1), some (.int x2), some (.int x3), some (.int x4), some (.int x5), none, some (.int x7), none] [.int y0] 67 := by
  unfold F_M_mostBy_67 at h
  refine Sm_run K ek_M_mostBy 35 3 rfl ?_
  exact Sm_le (leR_s (leR_s (leR_s (leR_s (leR_s (leR_s (leR_s (leR_s (leR_n leR_nil))))))))) (hk13 _ _ _ _ _ _ _ _ _ h)
set_option maxHeartbeats 4000000 in
set_option maxRecDepth 100000 in
theorem s_M_mostBy_51 {G : Gx} {X : Cx} {res : Int32 × A_W} (K : Ok G X 4 c_M_mostBy 9 (some .int) rm_M_mostBy) (hQ : QQ G X (some (.int res.1)) res.2 0 0) {k13 : Nat → Int32 → Int32 → Int32 → Int32 → Int32 → Int32 → Int32 → A_W → Option (Int32 × A_W)} (hk13 : ∀ (t : Nat) (x1 : Int32) (x2 : Int32) (x3 : Int32) (x4 : Int32) (x5 : Int32) (x6 : Int32) (x7 : Int32) (w : A_W), k13 t x1 x2 x3 x4 x5 x6 x7 w = some res → Sm G X w 0 0 [some (.ref t), some (.int x1), some (.int x2), some (.int x3), some (.int x4), some (.int x5), some (.int x6), some (.int x7), none] [] 13) (t : Nat) (x1 : Int32) (x2 : Int32) (x3 : Int32) (x4 : Int32) (x6 : Int32) (x7 : Int32) (x8 : Int32) (y0 : Int32) (w : A_W) (h : F_M_mostBy_51 k13 t x1 x2 x3 x4 x6 x7 x8 y0 w = some res) : Sm G X w 0 0 [some (.ref t), some (.int x1), some (.int x2), some (.int x3), some (.int x4), none, some (.int x6), some (.int x7), some (.int x8)] [.int y0] 51 := by
  unfold F_M_mostBy_51 at h
  refine Sm_run K ek_M_mostBy 28 3 rfl ?_
  refine Sm_ic_le K (eo ek_M_mostBy (i := 31) rfl) (fun c1 => ?_) (fun c1 => ?_)
  · rw [if_pos c1] at h
    refine Sm_run K ek_M_mostBy 34 1 rfl ?_
    exact Sm_le (leR_s (leR_s (leR_s (leR_s (leR_s (leR_s (leR_n (leR_s (leR_n leR_nil))))))))) (s_M_mostBy_67 K hQ hk13 _ _ _ _ _ _ _ _ _ h)
  · rw [if_neg c1] at h
    refine Sm_run K ek_M_mostBy 32 2 rfl ?_
    exact Sm_le (leR_s (leR_s (leR_s (leR_s (leR_s (leR_s (leR_n (leR_s (leR_n leR_nil))))))))) (s_M_mostBy_67 K hQ hk13 _ _ _ _ _ _ _ _ _ h)
set_option maxHeartbeats 4000000 in
set_option maxRecDepth 100000 in
theorem s_M_mostBy_13 {G : Gx} {X : Cx} {res : Int32 × A_W} (K : Ok G X 4 c_M_mostBy 9 (some .int) rm_M_mostBy) (hQ : QQ G X (some (.int res.1)) res.2 0 0) : ∀ (n : Nat) (t : Nat) (x1 : Int32) (x2 : Int32) (x3 : Int32) (x4 : Int32) (x5 : Int32) (x6 : Int32) (x7 : Int32) (w : A_W), F_M_mostBy_13 n t x1 x2 x3 x4 x5 x6 x7 w = some res → Sm G X w 0 0 [some (.ref t), some (.int x1), some (.int x2), some (.int x3), some (.int x4), some (.int x5), some (.int x6), some (.int x7), none] [] 13 := by
  intro n
  induction n with
  | zero => intro t x1 x2 x3 x4 x5 x6 x7 w h; cases h
  | succ n ih =>
    intro t x1 x2 x3 x4 x5 x6 x7 w h
    rw [F_M_mostBy_13] at h
    refine Sm_run K ek_M_mostBy 8 2 rfl ?_
    refine Sm_ic_ge K (eo ek_M_mostBy (i := 10) rfl) (fun c1 => ?_) (fun c1 => ?_)
    · rw [if_pos c1] at h
      refine Sm_run K ek_M_mostBy 38 1 rfl ?_
      obtain rfl := Option.some.inj h
      exact Sm_reti K hQ (eok_i (eo ek_M_mostBy (i := 39) rfl) rfl)
    · rw [if_neg c1] at h
      refine Sm_run K ek_M_mostBy 11 1 rfl ?_
      obtain ⟨a2, e_a2, h⟩ := Option.bind_eq_some_iff.mp h
      refine Sm_gr K (eo ek_M_mostBy (i := 12) rfl) e_a2 ?_
      refine Sm_run K ek_M_mostBy 13 4 rfl ?_
      obtain ⟨w3, e_w3, h⟩ := Option.bind_eq_some_iff.mp h
      refine Sm_wr K (eok_i (eo ek_M_mostBy (i := 17) rfl) rfl) e_w3 ?_
      refine Sm_run K ek_M_mostBy 18 2 rfl ?_
      obtain ⟨o5, e_o5, h⟩ := Option.bind_eq_some_iff.mp h
      obtain ⟨p4, e_p4, h⟩ := Option.bind_eq_some_iff.mp h
      refine Sm_callV K (eok_i (eo ek_M_mostBy (i := 20) rfl) rfl) cy_M_metBehind im_M_metBehind se_M_metBehind (lgm 1023 (by decide +kernel) rfl) ⟨Nat.le_of_ble_eq_true rfl, Nat.le_of_ble_eq_true rfl⟩ (as := [.int x4]) (b := t) (st := []) (ob_e e_o5) (by decide) rfl rfl rfl rfl (Nat.le_of_ble_eq_true rfl) ⟨Nat.le_of_ble_eq_true rfl, Nat.le_of_ble_eq_true rfl⟩ (cn_M_metBehind e_p4) ?_
      refine Sm_eq (st1 := .int p4.1 :: []) (nc1 := 0) (ns1 := 0) rfl rfl rfl ?_
      refine Sm_run K ek_M_mostBy 21 3 rfl ?_
      refine Sm_ic_le K (eo ek_M_mostBy (i := 24) rfl) (fun c6 => ?_) (fun c6 => ?_)
      · rw [if_pos c6] at h
        refine Sm_run K ek_M_mostBy 27 1 rfl ?_
        exact Sm_le (leR_s (leR_s (leR_s (leR_s (leR_s (leR_n (leR_s (leR_s (leR_s leR_nil))))))))) (s_M_mostBy_51 K hQ ih _ _ _ _ _ _ _ _ _ _ h)
      · rw [if_neg c6] at h
        refine Sm_run K ek_M_mostBy 25 2 rfl ?_
        exact Sm_le (leR_s (leR_s (leR_s (leR_s (leR_s (leR_n (leR_s (leR_s (leR_s leR_nil))))))))) (s_M_mostBy_51 K hQ ih _ _ _ _ _ _ _ _ _ _ h)
set_option maxHeartbeats 4000000 in
set_option maxRecDepth 100000 in
theorem s_M_mostBy_0 {G : Gx} {X : Cx} {res : Int32 × A_W} (K : Ok G X 4 c_M_mostBy 9 (some .int) rm_M_mostBy) (hQ : QQ G X (some (.int res.1)) res.2 0 0) (t : Nat) (x1 : Int32) (x2 : Int32) (x3 : Int32) (x4 : Int32) (w : A_W) (h : F_M_mostBy_0 t x1 x2 x3 x4 w = some res) : Sm G X w 0 0 [some (.ref t), some (.int x1), some (.int x2), some (.int x3), some (.int x4), none, none, none, none] [] 0 := by
  unfold F_M_mostBy_0 at h
  refine Sm_run K ek_M_mostBy 0 1 rfl ?_
  obtain ⟨o2, e_o2, h⟩ := Option.bind_eq_some_iff.mp h
  obtain ⟨p1, e_p1, h⟩ := Option.bind_eq_some_iff.mp h
  refine Sm_callV K (eok_i (eo ek_M_mostBy (i := 1) rfl) rfl) cy_M_thinks im_M_thinks se_M_thinks (lgm 980 (by decide +kernel) rfl) ⟨Nat.le_of_ble_eq_true rfl, Nat.le_of_ble_eq_true rfl⟩ (as := []) (b := t) (st := []) (ob_e e_o2) (by decide) rfl rfl rfl rfl (Nat.le_of_ble_eq_true rfl) ⟨Nat.le_of_ble_eq_true rfl, Nat.le_of_ble_eq_true rfl⟩ (cn_M_thinks e_p1) ?_
  refine Sm_eq (st1 := []) (nc1 := 0) (ns1 := 0) rfl rfl rfl ?_
  refine Sm_run K ek_M_mostBy 2 6 rfl ?_
  exact Sm_le (leR_s (leR_s (leR_s (leR_s (leR_s (leR_s (leR_s (leR_s (leR_n leR_nil))))))))) (s_M_mostBy_13 K hQ FU _ _ _ _ _ _ _ _ _ h)
def F_M_mostBy (t : Nat) (x1 : Int32) (x2 : Int32) (x3 : Int32) (x4 : Int32) (w : A_W) : Option (Int32 × A_W) := F_M_mostBy_0 t x1 x2 x3 x4 w
theorem cn_M_mostBy {G : Gx} {t : Nat} {x1 : Int32} {x2 : Int32} {x3 : Int32} {x4 : Int32} {w : A_W} {res : Int32 × A_W} (h : F_M_mostBy t x1 x2 x3 x4 w = some res) : Cn G y_M_mostBy c_M_mostBy 9 (some .int) rm_M_mostBy [.ref t, .int x1, .int x2, .int x3, .int x4] w (some (.int res.1)) res.2 :=
  Cn_of (own := 4) cy_M_mostBy rfl rfl (Nat.le_of_ble_eq_true rfl) rfl (fun X K _ hQ => Sm_le (leR_s (leR_s (leR_s (leR_s (leR_s (leR_n (leR_n (leR_n (leR_n leR_nil))))))))) (s_M_mostBy_0 K hQ _ _ _ _ _ _ h))
/-! EveningCloakModel.hangFor(II)I -/
abbrev c_M_hangFor : ByteArray := prog_6_method_57_code
def y_M_hangFor : MethodName := ⟨"EveningCloakModel", "hangFor", "(II)I"⟩
def rm_M_hangFor : Room := { frames := 8, cells := 0, slots := 0, locals := 187 }
theorem cy_M_hangFor : Cy y_M_hangFor c_M_hangFor 3 (some .int) 2 := ⟨lgm 1018 (by decide +kernel) rfl, lgm 73 (by decide +kernel) rfl, by decide +kernel, by decide +kernel⟩
theorem im_M_hangFor : Cond.instanceMethod y_M_hangFor ∈ lg := lgm 1016 (by decide +kernel) rfl
theorem se_M_hangFor : Cond.selects y_M_hangFor.cls y_M_hangFor y_M_hangFor ∈ lg := lgm 1017 (by decide +kernel) rfl
def e_M_hangFor : List Ent := [
  (0, .aload_n 0, 1, 1, .null, 0, 0, 0),
  (1, .iload_n 1, 1, 2, .null, 0, 0, 0),
  (2, .invokevirtual 88, 3, 5, .null, 0, 0, 0),
  (5, .ifCond .eq 33, 3, 38, .null, 0, 0, 0),
  (8, .iload_n 2, 1, 9, .null, 0, 0, 0),
  (9, .iconst 0, 1, 10, .int 0, 0, 0, 0),
  (10, .bipush 40, 2, 12, .int 40, 0, 0, 0),
  (12, .invokestatic 40, 3, 15, .null, 0, 0, 0),
  (15, .ifCond .eq 23, 3, 38, .null, 0, 0, 0),
  (18, .aload_n 0, 1, 19, .null, 0, 0, 0),
  (19, .bipush 11, 2, 21, .int 11, 0, 0, 0),
  (21, .bipush 6, 2, 23, .int 6, 0, 0, 0),
  (23, .iload_n 1, 1, 24, .null, 0, 0, 0),
  (24, .imul, 1, 25, .null, 0, 0, 0),
  (25, .iadd, 1, 26, .null, 0, 0, 0),
  (26, .iconst 1, 1, 27, .int 1, 0, 0, 0),
  (27, .iadd, 1, 28, .null, 0, 0, 0),
  (28, .iconst 0, 1, 29, .int 0, 0, 0, 0),
  (29, .bipush 16, 2, 31, .int 16, 0, 0, 0),
  (31, .iload_n 2, 1, 32, .null, 0, 0, 0),
  (32, .invokevirtual 154, 3, 35, .null, 0, 0, 0),
  (35, .goto 9, 3, 44, .null, 0, 0, 0),
  (38, .aload_n 0, 1, 39, .null, 0, 0, 0),
  (39, .ldc 34, 2, 41, .int (-1000001), 0, 0, 825),
  (41, .invokevirtual 36, 3, 44, .null, 0, 0, 0),
  (44, .ireturn, 1, 45, .null, 0, 0, 0)]
set_option maxRecDepth 100000 in
theorem ek_M_hangFor : e_M_hangFor.all (eok 4 c_M_hangFor) = true := by decide +kernel
def F_M_hangFor_44 (y0 : Int32) (w : A_W) : Option (Int32 × A_W) :=
  some (y0, w)
def F_M_hangFor_38 (t : Nat) (w : A_W) : Option (Int32 × A_W) :=
  (ob w t 4).bind fun o2 =>
  (F_M_finds t (-1000001) w).bind fun p1 =>
  F_M_hangFor_44 p1.1 p1.2
def F_M_hangFor_0 (t : Nat) (x1 : Int32) (x2 : Int32) (w : A_W) : Option (Int32 × A_W) :=
  (ob w t 4).bind fun o2 =>
  (F_M_isDeposit t x1 w).bind fun p1 =>
  if p1.1 = 0 then
    F_M_hangFor_38 t p1.2
  else
    (F_M_in x2 0 40 p1.2).bind fun p4 =>
    if p4.1 = 0 then
      F_M_hangFor_38 t p4.2
    else
      (ob p4.2 t 4).bind fun o7 =>
      (F_M_mostBy t ((11 + (6 * x1)) + 1) 0 16 x2 p4.2).bind fun p6 =>
      F_M_hangFor_44 p6.1 p6.2
set_option maxHeartbeats 4000000 in
set_option maxRecDepth 100000 in
theorem s_M_hangFor_44 {G : Gx} {X : Cx} {res : Int32 × A_W} (K : Ok G X 4 c_M_hangFor 3 (some .int) rm_M_hangFor) (hQ : QQ G X (some (.int res.1)) res.2 0 0) (y0 : Int32) (w : A_W) (h : F_M_hangFor_44 y0 w = some res) : Sm G X w 0 0 [none, none, none] [.int y0] 44 := by
  unfold F_M_hangFor_44 at h
  obtain rfl := Option.some.inj h
  exact Sm_reti K hQ (eok_i (eo ek_M_hangFor (i := 25) rfl) rfl)
set_option maxHeartbeats 4000000 in
set_option maxRecDepth 100000 in
theorem s_M_hangFor_38 {G : Gx} {X : Cx} {res : Int32 × A_W} (K : Ok G X 4 c_M_hangFor 3 (some .int) rm_M_hangFor) (hQ : QQ G X (some (.int res.1)) res.2 0 0) (t : Nat) (w : A_W) (h : F_M_hangFor_38 t w = some res) : Sm G X w 0 0 [some (.ref t), none, none] [] 38 := by
  unfold F_M_hangFor_38 at h
  refine Sm_run K ek_M_hangFor 22 2 rfl ?_
  obtain ⟨o2, e_o2, h⟩ := Option.bind_eq_some_iff.mp h
  obtain ⟨p1, e_p1, h⟩ := Option.bind_eq_some_iff.mp h
  refine Sm_callV K (eok_i (eo ek_M_hangFor (i := 24) rfl) rfl) cy_M_finds im_M_finds se_M_finds (lgm 826 (by decide +kernel) rfl) ⟨Nat.le_of_ble_eq_true rfl, Nat.le_of_ble_eq_true rfl⟩ (as := [.int (-1000001)]) (b := t) (st := []) (ob_e e_o2) (by decide) rfl rfl rfl rfl (Nat.le_of_ble_eq_true rfl) ⟨Nat.le_of_ble_eq_true rfl, Nat.le_of_ble_eq_true rfl⟩ (cn_M_finds e_p1) ?_
  refine Sm_eq (st1 := .int p1.1 :: []) (nc1 := 0) (ns1 := 0) rfl rfl rfl ?_
  exact Sm_le (leR_n (leR_n (leR_n leR_nil))) (s_M_hangFor_44 K hQ _ _ h)
set_option maxHeartbeats 4000000 in
set_option maxRecDepth 100000 in
theorem s_M_hangFor_0 {G : Gx} {X : Cx} {res : Int32 × A_W} (K : Ok G X 4 c_M_hangFor 3 (some .int) rm_M_hangFor) (hQ : QQ G X (some (.int res.1)) res.2 0 0) (t : Nat) (x1 : Int32) (x2 : Int32) (w : A_W) (h : F_M_hangFor_0 t x1 x2 w = some res) : Sm G X w 0 0 [some (.ref t), some (.int x1), some (.int x2)] [] 0 := by
  unfold F_M_hangFor_0 at h
  refine Sm_run K ek_M_hangFor 0 2 rfl ?_
  obtain ⟨o2, e_o2, h⟩ := Option.bind_eq_some_iff.mp h
  obtain ⟨p1, e_p1, h⟩ := Option.bind_eq_some_iff.mp h
  refine Sm_callV K (eok_i (eo ek_M_hangFor (i := 2) rfl) rfl) cy_M_isDeposit im_M_isDeposit se_M_isDeposit (lgm 863 (by decide +kernel) rfl) ⟨Nat.le_of_ble_eq_true rfl, Nat.le_of_ble_eq_true rfl⟩ (as := [.int x1]) (b := t) (st := []) (ob_e e_o2) (by decide) rfl rfl rfl rfl (Nat.le_of_ble_eq_true rfl) ⟨Nat.le_of_ble_eq_true rfl, Nat.le_of_ble_eq_true rfl⟩ (cn_M_isDeposit e_p1) ?_
  refine Sm_eq (st1 := .int p1.1 :: []) (nc1 := 0) (ns1 := 0) rfl rfl rfl ?_
  refine Sm_if_eq K (eo ek_M_hangFor (i := 3) rfl) (fun c3 => ?_) (fun c3 => ?_)
  · rw [if_pos c3] at h
    exact Sm_le (leR_s (leR_n (leR_n leR_nil))) (s_M_hangFor_38 K hQ _ _ h)
  · rw [if_neg c3] at h
    refine Sm_run K ek_M_hangFor 4 3 rfl ?_
    obtain ⟨p4, e_p4, h⟩ := Option.bind_eq_some_iff.mp h
    refine Sm_callS K (eok_i (eo ek_M_hangFor (i := 7) rfl) rfl) cy_M_in st_M_in (lgm 815 (by decide +kernel) rfl) ⟨Nat.le_of_ble_eq_true rfl, Nat.le_of_ble_eq_true rfl⟩ (as := [.int x2, .int 0, .int 40]) (st := []) rfl rfl rfl (Nat.le_of_ble_eq_true rfl) ⟨Nat.le_of_ble_eq_true rfl, Nat.le_of_ble_eq_true rfl⟩ (cn_M_in e_p4) ?_
    refine Sm_eq (st1 := .int p4.1 :: []) (nc1 := 0) (ns1 := 0) rfl rfl rfl ?_
    refine Sm_if_eq K (eo ek_M_hangFor (i := 8) rfl) (fun c5 => ?_) (fun c5 => ?_)
    · rw [if_pos c5] at h
      exact Sm_le (leR_s (leR_n (leR_n leR_nil))) (s_M_hangFor_38 K hQ _ _ h)
    · rw [if_neg c5] at h
      refine Sm_run K ek_M_hangFor 9 11 rfl ?_
      obtain ⟨o7, e_o7, h⟩ := Option.bind_eq_some_iff.mp h
      obtain ⟨p6, e_p6, h⟩ := Option.bind_eq_some_iff.mp h
      refine Sm_callV K (eok_i (eo ek_M_hangFor (i := 20) rfl) rfl) cy_M_mostBy im_M_mostBy se_M_mostBy (lgm 1019 (by decide +kernel) rfl) ⟨Nat.le_of_ble_eq_true rfl, Nat.le_of_ble_eq_true rfl⟩ (as := [.int ((11 + (6 * x1)) + 1), .int 0, .int 16, .int x2]) (b := t) (st := []) (ob_e e_o7) (by decide) rfl rfl rfl rfl (Nat.le_of_ble_eq_true rfl) ⟨Nat.le_of_ble_eq_true rfl, Nat.le_of_ble_eq_true rfl⟩ (cn_M_mostBy e_p6) ?_
      refine Sm_eq (st1 := .int p6.1 :: []) (nc1 := 0) (ns1 := 0) rfl rfl rfl ?_
      refine Sm_run K ek_M_hangFor 21 1 rfl ?_
      exact Sm_le (leR_n (leR_n (leR_n leR_nil))) (s_M_hangFor_44 K hQ _ _ h)
def F_M_hangFor (t : Nat) (x1 : Int32) (x2 : Int32) (w : A_W) : Option (Int32 × A_W) := F_M_hangFor_0 t x1 x2 w
theorem cn_M_hangFor {G : Gx} {t : Nat} {x1 : Int32} {x2 : Int32} {w : A_W} {res : Int32 × A_W} (h : F_M_hangFor t x1 x2 w = some res) : Cn G y_M_hangFor c_M_hangFor 3 (some .int) rm_M_hangFor [.ref t, .int x1, .int x2] w (some (.int res.1)) res.2 :=
  Cn_of (own := 4) cy_M_hangFor rfl rfl (Nat.le_of_ble_eq_true rfl) rfl (fun X K _ hQ => Sm_le (leR_s (leR_s (leR_s leR_nil))) (s_M_hangFor_0 K hQ _ _ _ _ h))
/-! EveningCloakModel.standFor(II)I -/
abbrev c_M_standFor : ByteArray := prog_6_method_58_code
def y_M_standFor : MethodName := ⟨"EveningCloakModel", "standFor", "(II)I"⟩
def rm_M_standFor : Room := { frames := 8, cells := 0, slots := 0, locals := 187 }
theorem cy_M_standFor : Cy y_M_standFor c_M_standFor 3 (some .int) 2 := ⟨lgm 1030 (by decide +kernel) rfl, lgm 73 (by decide +kernel) rfl, by decide +kernel, by decide +kernel⟩
theorem im_M_standFor : Cond.instanceMethod y_M_standFor ∈ lg := lgm 1028 (by decide +kernel) rfl
theorem se_M_standFor : Cond.selects y_M_standFor.cls y_M_standFor y_M_standFor ∈ lg := lgm 1029 (by decide +kernel) rfl
def e_M_standFor : List Ent := [
  (0, .iload_n 1, 1, 1, .null, 0, 0, 0),
  (1, .invokestatic 65, 3, 4, .null, 0, 0, 0),
  (4, .ifCond .eq 40, 3, 44, .null, 0, 0, 0),
  (7, .iload_n 2, 1, 8, .null, 0, 0, 0),
  (8, .iconst 0, 1, 9, .int 0, 0, 0, 0),
  (9, .bipush 40, 2, 11, .int 40, 0, 0, 0),
  (11, .invokestatic 40, 3, 14, .null, 0, 0, 0),
  (14, .ifCond .eq 30, 3, 44, .null, 0, 0, 0),
  (17, .aload_n 0, 1, 18, .null, 0, 0, 0),
  (18, .iconst 5, 1, 19, .int 5, 0, 0, 0),
  (19, .iload_n 1, 1, 20, .null, 0, 0, 0),
  (20, .iadd, 1, 21, .null, 0, 0, 0),
  (21, .aload_n 0, 1, 22, .null, 0, 0, 0),
  (22, .getfield 9, 3, 25, .null, 4, 0, 762),
  (25, .iconst 5, 1, 26, .int 5, 0, 0, 0),
  (26, .iload_n 1, 1, 27, .null, 0, 0, 0),
  (27, .iadd, 1, 28, .null, 0, 0, 0),
  (28, .iaload, 1, 29, .null, 0, 0, 0),
  (29, .bipush 100, 2, 31, .int 100, 0, 0, 0),
  (31, .idiv, 1, 32, .null, 0, 0, 0),
  (32, .bipush 100, 2, 34, .int 100, 0, 0, 0),
  (34, .imul, 1, 35, .null, 0, 0, 0),
  (35, .bipush 16, 2, 37, .int 16, 0, 0, 0),
  (37, .iload_n 2, 1, 38, .null, 0, 0, 0),
  (38, .invokevirtual 154, 3, 41, .null, 0, 0, 0),
  (41, .goto 9, 3, 50, .null, 0, 0, 0),
  (44, .aload_n 0, 1, 45, .null, 0, 0, 0),
  (45, .ldc 34, 2, 47, .int (-1000001), 0, 0, 825),
  (47, .invokevirtual 36, 3, 50, .null, 0, 0, 0),
  (50, .ireturn, 1, 51, .null, 0, 0, 0)]
set_option maxRecDepth 100000 in
theorem ek_M_standFor : e_M_standFor.all (eok 4 c_M_standFor) = true := by decide +kernel
def F_M_standFor_50 (y0 : Int32) (w : A_W) : Option (Int32 × A_W) :=
  some (y0, w)
def F_M_standFor_44 (t : Nat) (w : A_W) : Option (Int32 × A_W) :=
  (ob w t 4).bind fun o2 =>
  (F_M_finds t (-1000001) w).bind fun p1 =>
  F_M_standFor_50 p1.1 p1.2
def F_M_standFor_0 (t : Nat) (x1 : Int32) (x2 : Int32) (w : A_W) : Option (Int32 × A_W) :=
  (F_M_isPlace x1 w).bind fun p1 =>
  if p1.1 = 0 then
    F_M_standFor_44 t p1.2
  else
    (F_M_in x2 0 40 p1.2).bind fun p3 =>
    if p3.1 = 0 then
      F_M_standFor_44 t p3.2
    else
      (gr p3.2 t 4 0).bind fun a5 =>
      (rd p3.2 a5 (5 + x1)).bind fun v6 =>
      (ob p3.2 t 4).bind fun o8 =>
      (F_M_mostBy t (5 + x1) ((v6 / 100) * 100) 16 x2 p3.2).bind fun p7 =>
      F_M_standFor_50 p7.1 p7.2
set_option maxHeartbeats 4000000 in
set_option maxRecDepth 100000 in
theorem s_M_standFor_50 {G : Gx} {X : Cx} {res : Int32 × A_W} (K : Ok G X 4 c_M_standFor 3 (some .int) rm_M_standFor) (hQ : QQ G X (some (.int res.1)) res.2 0 0) (y0 : Int32) (w : A_W) (h : F_M_standFor_50 y0 w = some res) : Sm G X w 0 0 [none, none, none] [.int y0] 50 := by
  unfold F_M_standFor_50 at h
  obtain rfl := Option.some.inj h
  exact Sm_reti K hQ (eok_i (eo ek_M_standFor (i := 29) rfl) rfl)
set_option maxHeartbeats 4000000 in
set_option maxRecDepth 100000 in
theorem s_M_standFor_44 {G : Gx} {X : Cx} {res : Int32 × A_W} (K : Ok G X 4 c_M_standFor 3 (some .int) rm_M_standFor) (hQ : QQ G X (some (.int res.1)) res.2 0 0) (t : Nat) (w : A_W) (h : F_M_standFor_44 t w = some res) : Sm G X w 0 0 [some (.ref t), none, none] [] 44 := by
  unfold F_M_standFor_44 at h
  refine Sm_run K ek_M_standFor 26 2 rfl ?_
  obtain ⟨o2, e_o2, h⟩ := Option.bind_eq_some_iff.mp h
  obtain ⟨p1, e_p1, h⟩ := Option.bind_eq_some_iff.mp h
  refine Sm_callV K (eok_i (eo ek_M_standFor (i := 28) rfl) rfl) cy_M_finds im_M_finds se_M_finds (lgm 826 (by decide +kernel) rfl) ⟨Nat.le_of_ble_eq_true rfl, Nat.le_of_ble_eq_true rfl⟩ (as := [.int (-1000001)]) (b := t) (st := []) (ob_e e_o2) (by decide) rfl rfl rfl rfl (Nat.le_of_ble_eq_true rfl) ⟨Nat.le_of_ble_eq_true rfl, Nat.le_of_ble_eq_true rfl⟩ (cn_M_finds e_p1) ?_
  refine Sm_eq (st1 := .int p1.1 :: []) (nc1 := 0) (ns1 := 0) rfl rfl rfl ?_
  exact Sm_le (leR_n (leR_n (leR_n leR_nil))) (s_M_standFor_50 K hQ _ _ h)
set_option maxHeartbeats 4000000 in
set_option maxRecDepth 100000 in
theorem s_M_standFor_0 {G : Gx} {X : Cx} {res : Int32 × A_W} (K : Ok G X 4 c_M_standFor 3 (some .int) rm_M_standFor) (hQ : QQ G X (some (.int res.1)) res.2 0 0) (t : Nat) (x1 : Int32) (x2 : Int32) (w : A_W) (h : F_M_standFor_0 t x1 x2 w = some res) : Sm G X w 0 0 [some (.ref t), some (.int x1), some (.int x2)] [] 0 := by
  unfold F_M_standFor_0 at h
  refine Sm_run K ek_M_standFor 0 1 rfl ?_
  obtain ⟨p1, e_p1, h⟩ := Option.bind_eq_some_iff.mp h
  refine Sm_callS K (eok_i (eo ek_M_standFor (i := 1) rfl) rfl) cy_M_isPlace st_M_isPlace (lgm 812 (by decide +kernel) rfl) ⟨Nat.le_of_ble_eq_true rfl, Nat.le_of_ble_eq_true rfl⟩ (as := [.int x1]) (st := []) rfl rfl rfl (Nat.le_of_ble_eq_true rfl) ⟨Nat.le_of_ble_eq_true rfl, Nat.le_of_ble_eq_true rfl⟩ (cn_M_isPlace e_p1) ?_
  refine Sm_eq (st1 := .int p1.1 :: []) (nc1 := 0) (ns1 := 0) rfl rfl rfl ?_
  refine Sm_if_eq K (eo ek_M_standFor (i := 2) rfl) (fun c2 => ?_) (fun c2 => ?_)
  · rw [if_pos c2] at h
    exact Sm_le (leR_s (leR_n (leR_n leR_nil))) (s_M_standFor_44 K hQ _ _ h)
  · rw [if_neg c2] at h
    refine Sm_run K ek_M_standFor 3 3 rfl ?_
    obtain ⟨p3, e_p3, h⟩ := Option.bind_eq_some_iff.mp h
    refine Sm_callS K (eok_i (eo ek_M_standFor (i := 6) rfl) rfl) cy_M_in st_M_in (lgm 815 (by decide +kernel) rfl) ⟨Nat.le_of_ble_eq_true rfl, Nat.le_of_ble_eq_true rfl⟩ (as := [.int x2, .int 0, .int 40]) (st := []) rfl rfl rfl (Nat.le_of_ble_eq_true rfl) ⟨Nat.le_of_ble_eq_true rfl, Nat.le_of_ble_eq_true rfl⟩ (cn_M_in e_p3) ?_
    refine Sm_eq (st1 := .int p3.1 :: []) (nc1 := 0) (ns1 := 0) rfl rfl rfl ?_
    refine Sm_if_eq K (eo ek_M_standFor (i := 7) rfl) (fun c4 => ?_) (fun c4 => ?_)
    · rw [if_pos c4] at h
      exact Sm_le (leR_s (leR_n (leR_n leR_nil))) (s_M_standFor_44 K hQ _ _ h)
    · rw [if_neg c4] at h
      refine Sm_run K ek_M_standFor 8 5 rfl ?_
      obtain ⟨a5, e_a5, h⟩ := Option.bind_eq_some_iff.mp h
      refine Sm_gr K (eo ek_M_standFor (i := 13) rfl) e_a5 ?_
      refine Sm_run K ek_M_standFor 14 3 rfl ?_
      obtain ⟨v6, e_v6, h⟩ := Option.bind_eq_some_iff.mp h
      refine Sm_rd K (eok_i (eo ek_M_standFor (i := 17) rfl) rfl) e_v6 ?_
      refine Sm_run K ek_M_standFor 18 1 rfl ?_
      refine Sm_idiv K (eok_i (eo ek_M_standFor (i := 19) rfl) rfl) (by decide) ?_
      refine Sm_run K ek_M_standFor 20 4 rfl ?_
      obtain ⟨o8, e_o8, h⟩ := Option.bind_eq_some_iff.mp h
      obtain ⟨p7, e_p7, h⟩ := Option.bind_eq_some_iff.mp h
      refine Sm_callV K (eok_i (eo ek_M_standFor (i := 24) rfl) rfl) cy_M_mostBy im_M_mostBy se_M_mostBy (lgm 1019 (by decide +kernel) rfl) ⟨Nat.le_of_ble_eq_true rfl, Nat.le_of_ble_eq_true rfl⟩ (as := [.int (5 + x1), .int ((v6 / 100) * 100), .int 16, .int x2]) (b := t) (st := []) (ob_e e_o8) (by decide) rfl rfl rfl rfl (Nat.le_of_ble_eq_true rfl) ⟨Nat.le_of_ble_eq_true rfl, Nat.le_of_ble_eq_true rfl⟩ (cn_M_mostBy e_p7) ?_
      refine Sm_eq (st1 := .int p7.1 :: []) (nc1 := 0) (ns1 := 0) rfl rfl rfl ?_
      refine Sm_run K ek_M_standFor 25 1 rfl ?_
      exact Sm_le (leR_n (leR_n (leR_n leR_nil))) (s_M_standFor_50 K hQ _ _ h)
def F_M_standFor (t : Nat) (x1 : Int32) (x2 : Int32) (w : A_W) : Option (Int32 × A_W) := F_M_standFor_0 t x1 x2 w
theorem cn_M_standFor {G : Gx} {t : Nat} {x1 : Int32} {x2 : Int32} {w : A_W} {res : Int32 × A_W} (h : F_M_standFor t x1 x2 w = some res) : Cn G y_M_standFor c_M_standFor 3 (some .int) rm_M_standFor [.ref t, .int x1, .int x2] w (some (.int res.1)) res.2 :=
  Cn_of (own := 4) cy_M_standFor rfl rfl (Nat.le_of_ble_eq_true rfl) rfl (fun X K _ hQ => Sm_le (leR_s (leR_s (leR_s leR_nil))) (s_M_standFor_0 K hQ _ _ _ _ h))
/-! EveningCloakModel.kindFor(II)I -/
abbrev c_M_kindFor : ByteArray := prog_6_method_59_code
def y_M_kindFor : MethodName := ⟨"EveningCloakModel", "kindFor", "(II)I"⟩
def rm_M_kindFor : Room := { frames := 8, cells := 0, slots := 0, locals := 187 }
theorem cy_M_kindFor : Cy y_M_kindFor c_M_kindFor 3 (some .int) 2 := ⟨lgm 1034 (by decide +kernel) rfl, lgm 73 (by decide +kernel) rfl, by decide +kernel, by decide +kernel⟩
theorem im_M_kindFor : Cond.instanceMethod y_M_kindFor ∈ lg := lgm 1032 (by decide +kernel) rfl
theorem se_M_kindFor : Cond.selects y_M_kindFor.cls y_M_kindFor y_M_kindFor ∈ lg := lgm 1033 (by decide +kernel) rfl
def e_M_kindFor : List Ent := [
  (0, .aload_n 0, 1, 1, .null, 0, 0, 0),
  (1, .iload_n 1, 1, 2, .null, 0, 0, 0),
  (2, .invokevirtual 88, 3, 5, .null, 0, 0, 0),
  (5, .ifCond .eq 31, 3, 36, .null, 0, 0, 0),
  (8, .iload_n 2, 1, 9, .null, 0, 0, 0),
  (9, .iconst 0, 1, 10, .int 0, 0, 0, 0),
  (10, .bipush 40, 2, 12, .int 40, 0, 0, 0),
  (12, .invokestatic 40, 3, 15, .null, 0, 0, 0),
  (15, .ifCond .eq 21, 3, 36, .null, 0, 0, 0),
  (18, .aload_n 0, 1, 19, .null, 0, 0, 0),
  (19, .bipush 11, 2, 21, .int 11, 0, 0, 0),
  (21, .bipush 6, 2, 23, .int 6, 0, 0, 0),
  (23, .iload_n 1, 1, 24, .null, 0, 0, 0),
  (24, .imul, 1, 25, .null, 0, 0, 0),
  (25, .iadd, 1, 26, .null, 0, 0, 0),
  (26, .iconst 0, 1, 27, .int 0, 0, 0, 0),
  (27, .bipush 7, 2, 29, .int 7, 0, 0, 0),
  (29, .iload_n 2, 1, 30, .null, 0, 0, 0),
  (30, .invokevirtual 154, 3, 33, .null, 0, 0, 0),
  (33, .goto 9, 3, 42, .null, 0, 0, 0),
  (36, .aload_n 0, 1, 37, .null, 0, 0, 0),
  (37, .ldc 34, 2, 39, .int (-1000001), 0, 0, 825),
  (39, .invokevirtual 36, 3, 42, .null, 0, 0, 0),
  (42, .ireturn, 1, 43, .null, 0, 0, 0)]
set_option maxRecDepth 100000 in
theorem ek_M_kindFor : e_M_kindFor.all (eok 4 c_M_kindFor) = true := by decide +kernel
def F_M_kindFor_42 (y0 : Int32) (w : A_W) : Option (Int32 × A_W) :=
  some (y0, w)
def F_M_kindFor_36 (t : Nat) (w : A_W) : Option (Int32 × A_W) :=
  (ob w t 4).bind fun o2 =>
  (F_M_finds t (-1000001) w).bind fun p1 =>
  F_M_kindFor_42 p1.1 p1.2
def F_M_kindFor_0 (t : Nat) (x1 : Int32) (x2 : Int32) (w : A_W) : Option (Int32 × A_W) :=
  (ob w t 4).bind fun o2 =>
  (F_M_isDeposit t x1 w).bind fun p1 =>
  if p1.1 = 0 then
    F_M_kindFor_36 t p1.2
  else
    (F_M_in x2 0 40 p1.2).bind fun p4 =>
    if p4.1 = 0 then
      F_M_kindFor_36 t p4.2
    else
      (ob p4.2 t 4).bind fun o7 =>
      (F_M_mostBy t (11 + (6 * x1)) 0 7 x2 p4.2).bind fun p6 =>
      F_M_kindFor_42 p6.1 p6.2
set_option maxHeartbeats 4000000 in
set_option maxRecDepth 100000 in
theorem s_M_kindFor_42 {G : Gx} {X : Cx} {res : Int32 × A_W} (K : Ok G X 4 c_M_kindFor 3 (some .int) rm_M_kindFor) (hQ : QQ G X (some (.int res.1)) res.2 0 0) (y0 : Int32) (w : A_W) (h : F_M_kindFor_42 y0 w = some res) : Sm G X w 0 0 [none, none, none] [.int y0] 42 := by
  unfold F_M_kindFor_42 at h
  obtain rfl := Option.some.inj h
  exact Sm_reti K hQ (eok_i (eo ek_M_kindFor (i := 23) rfl) rfl)
set_option maxHeartbeats 4000000 in
set_option maxRecDepth 100000 in
theorem s_M_kindFor_36 {G : Gx} {X : Cx} {res : Int32 × A_W} (K : Ok G X 4 c_M_kindFor 3 (some .int) rm_M_kindFor) (hQ : QQ G X (some (.int res.1)) res.2 0 0) (t : Nat) (w : A_W) (h : F_M_kindFor_36 t w = some res) : Sm G X w 0 0 [some (.ref t), none, none] [] 36 := by
  unfold F_M_kindFor_36 at h
  refine Sm_run K ek_M_kindFor 20 2 rfl ?_
  obtain ⟨o2, e_o2, h⟩ := Option.bind_eq_some_iff.mp h
  obtain ⟨p1, e_p1, h⟩ := Option.bind_eq_some_iff.mp h
  refine Sm_callV K (eok_i (eo ek_M_kindFor (i := 22) rfl) rfl) cy_M_finds im_M_finds se_M_finds (lgm 826 (by decide +kernel) rfl) ⟨Nat.le_of_ble_eq_true rfl, Nat.le_of_ble_eq_true rfl⟩ (as := [.int (-1000001)]) (b := t) (st := []) (ob_e e_o2) (by decide) rfl rfl rfl rfl (Nat.le_of_ble_eq_true rfl) ⟨Nat.le_of_ble_eq_true rfl, Nat.le_of_ble_eq_true rfl⟩ (cn_M_finds e_p1) ?_
  refine Sm_eq (st1 := .int p1.1 :: []) (nc1 := 0) (ns1 := 0) rfl rfl rfl ?_
  exact Sm_le (leR_n (leR_n (leR_n leR_nil))) (s_M_kindFor_42 K hQ _ _ h)
set_option maxHeartbeats 4000000 in
set_option maxRecDepth 100000 in
theorem s_M_kindFor_0 {G : Gx} {X : Cx} {res : Int32 × A_W} (K : Ok G X 4 c_M_kindFor 3 (some .int) rm_M_kindFor) (hQ : QQ G X (some (.int res.1)) res.2 0 0) (t : Nat) (x1 : Int32) (x2 : Int32) (w : A_W) (h : F_M_kindFor_0 t x1 x2 w = some res) : Sm G X w 0 0 [some (.ref t), some (.int x1), some (.int x2)] [] 0 := by
  unfold F_M_kindFor_0 at h
  refine Sm_run K ek_M_kindFor 0 2 rfl ?_
  obtain ⟨o2, e_o2, h⟩ := Option.bind_eq_some_iff.mp h
  obtain ⟨p1, e_p1, h⟩ := Option.bind_eq_some_iff.mp h
  refine Sm_callV K (eok_i (eo ek_M_kindFor (i := 2) rfl) rfl) cy_M_isDeposit im_M_isDeposit se_M_isDeposit (lgm 863 (by decide +kernel) rfl) ⟨Nat.le_of_ble_eq_true rfl, Nat.le_of_ble_eq_true rfl⟩ (as := [.int x1]) (b := t) (st := []) (ob_e e_o2) (by decide) rfl rfl rfl rfl (Nat.le_of_ble_eq_true rfl) ⟨Nat.le_of_ble_eq_true rfl, Nat.le_of_ble_eq_true rfl⟩ (cn_M_isDeposit e_p1) ?_
  refine Sm_eq (st1 := .int p1.1 :: []) (nc1 := 0) (ns1 := 0) rfl rfl rfl ?_
  refine Sm_if_eq K (eo ek_M_kindFor (i := 3) rfl) (fun c3 => ?_) (fun c3 => ?_)
  · rw [if_pos c3] at h
    exact Sm_le (leR_s (leR_n (leR_n leR_nil))) (s_M_kindFor_36 K hQ _ _ h)
  · rw [if_neg c3] at h
    refine Sm_run K ek_M_kindFor 4 3 rfl ?_
    obtain ⟨p4, e_p4, h⟩ := Option.bind_eq_some_iff.mp h
    refine Sm_callS K (eok_i (eo ek_M_kindFor (i := 7) rfl) rfl) cy_M_in st_M_in (lgm 815 (by decide +kernel) rfl) ⟨Nat.le_of_ble_eq_true rfl, Nat.le_of_ble_eq_true rfl⟩ (as := [.int x2, .int 0, .int 40]) (st := []) rfl rfl rfl (Nat.le_of_ble_eq_true rfl) ⟨Nat.le_of_ble_eq_true rfl, Nat.le_of_ble_eq_true rfl⟩ (cn_M_in e_p4) ?_
    refine Sm_eq (st1 := .int p4.1 :: []) (nc1 := 0) (ns1 := 0) rfl rfl rfl ?_
    refine Sm_if_eq K (eo ek_M_kindFor (i := 8) rfl) (fun c5 => ?_) (fun c5 => ?_)
    · rw [if_pos c5] at h
      exact Sm_le (leR_s (leR_n (leR_n leR_nil))) (s_M_kindFor_36 K hQ _ _ h)
    · rw [if_neg c5] at h
      refine Sm_run K ek_M_kindFor 9 9 rfl ?_
      obtain ⟨o7, e_o7, h⟩ := Option.bind_eq_some_iff.mp h
      obtain ⟨p6, e_p6, h⟩ := Option.bind_eq_some_iff.mp h
      refine Sm_callV K (eok_i (eo ek_M_kindFor (i := 18) rfl) rfl) cy_M_mostBy im_M_mostBy se_M_mostBy (lgm 1019 (by decide +kernel) rfl) ⟨Nat.le_of_ble_eq_true rfl, Nat.le_of_ble_eq_true rfl⟩ (as := [.int (11 + (6 * x1)), .int 0, .int 7, .int x2]) (b := t) (st := []) (ob_e e_o7) (by decide) rfl rfl rfl rfl (Nat.le_of_ble_eq_true rfl) ⟨Nat.le_of_ble_eq_true rfl, Nat.le_of_ble_eq_true rfl⟩ (cn_M_mostBy e_p6) ?_
      refine Sm_eq (st1 := .int p6.1 :: []) (nc1 := 0) (ns1 := 0) rfl rfl rfl ?_
      refine Sm_run K ek_M_kindFor 19 1 rfl ?_
      exact Sm_le (leR_n (leR_n (leR_n leR_nil))) (s_M_kindFor_42 K hQ _ _ h)
def F_M_kindFor (t : Nat) (x1 : Int32) (x2 : Int32) (w : A_W) : Option (Int32 × A_W) := F_M_kindFor_0 t x1 x2 w
theorem cn_M_kindFor {G : Gx} {t : Nat} {x1 : Int32} {x2 : Int32} {w : A_W} {res : Int32 × A_W} (h : F_M_kindFor t x1 x2 w = some res) : Cn G y_M_kindFor c_M_kindFor 3 (some .int) rm_M_kindFor [.ref t, .int x1, .int x2] w (some (.int res.1)) res.2 :=
  Cn_of (own := 4) cy_M_kindFor rfl rfl (Nat.le_of_ble_eq_true rfl) rfl (fun X K _ hQ => Sm_le (leR_s (leR_s (leR_s leR_nil))) (s_M_kindFor_0 K hQ _ _ _ _ h))
/-! EveningCloakModel.hopeFor(II)I -/
abbrev c_M_hopeFor : ByteArray := prog_6_method_60_code
def y_M_hopeFor : MethodName := ⟨"EveningCloakModel", "hopeFor", "(II)I"⟩
def rm_M_hopeFor : Room := { frames := 6, cells := 0, slots := 0, locals := 137 }
theorem cy_M_hopeFor : Cy y_M_hopeFor c_M_hopeFor 6 (some .int) 2 := ⟨lgm 1038 (by decide +kernel) rfl, lgm 73 (by decide +kernel) rfl, by decide +kernel, by decide +kernel⟩
theorem im_M_hopeFor : Cond.instanceMethod y_M_hopeFor ∈ lg := lgm 1036 (by decide +kernel) rfl
theorem se_M_hopeFor : Cond.selects y_M_hopeFor.cls y_M_hopeFor y_M_hopeFor ∈ lg := lgm 1037 (by decide +kernel) rfl
def e_M_hopeFor : List Ent := [
  (0, .aload_n 0, 1, 1, .null, 0, 0, 0),
  (1, .iload_n 1, 1, 2, .null, 0, 0, 0),
  (2, .invokevirtual 100, 3, 5, .null, 0, 0, 0),
  (5, .ifCond .eq 13, 3, 18, .null, 0, 0, 0),
  (8, .iload_n 2, 1, 9, .null, 0, 0, 0),
  (9, .iconst 0, 1, 10, .int 0, 0, 0, 0),
  (10, .bipush 40, 2, 12, .int 40, 0, 0, 0),
  (12, .invokestatic 40, 3, 15, .null, 0, 0, 0),
  (15, .ifCond .ne 10, 3, 25, .null, 0, 0, 0),
  (18, .aload_n 0, 1, 19, .null, 0, 0, 0),
  (19, .ldc 34, 2, 21, .int (-1000001), 0, 0, 825),
  (21, .invokevirtual 36, 3, 24, .null, 0, 0, 0),
  (24, .ireturn, 1, 25, .null, 0, 0, 0),
  (25, .aload_n 0, 1, 26, .null, 0, 0, 0),
  (26, .invokevirtual 142, 3, 29, .null, 0, 0, 0),
  (29, .aload_n 0, 1, 30, .null, 0, 0, 0),
  (30, .iload_n 1, 1, 31, .null, 0, 0, 0),
  (31, .iconst 2, 1, 32, .int 2, 0, 0, 0),
  (32, .invokevirtual 103, 3, 35, .null, 0, 0, 0),
  (35, .istore_n 3, 1, 36, .null, 0, 0, 0),
  (36, .iconst (-1), 1, 37, .int (-1), 0, 0, 0),
  (37, .istore 4, 2, 39, .null, 0, 0, 0),
  (39, .bipush 99, 2, 41, .int 99, 0, 0, 0),
  (41, .istore 5, 2, 43, .null, 0, 0, 0),
  (43, .iload 5, 2, 45, .null, 0, 0, 0),
  (45, .ifCond .le 49, 3, 94, .null, 0, 0, 0),
  (48, .iload 4, 2, 50, .null, 0, 0, 0),
  (50, .ifCond .ge 44, 3, 94, .null, 0, 0, 0),
  (53, .aload_n 0, 1, 54, .null, 0, 0, 0),
  (54, .iload_n 1, 1, 55, .null, 0, 0, 0),
  (55, .iconst 1, 1, 56, .int 1, 0, 0, 0),
  (56, .iload 5, 2, 58, .null, 0, 0, 0),
  (58, .invokevirtual 82, 3, 61, .null, 0, 0, 0),
  (61, .aload_n 0, 1, 62, .null, 0, 0, 0),
  (62, .iload_n 2, 1, 63, .null, 0, 0, 0),
  (63, .invokevirtual 122, 3, 66, .null, 0, 0, 0),
  (66, .aload_n 0, 1, 67, .null, 0, 0, 0),
  (67, .iload_n 1, 1, 68, .null, 0, 0, 0),
  (68, .iconst 2, 1, 69, .int 2, 0, 0, 0),
  (69, .invokevirtual 103, 3, 72, .null, 0, 0, 0),
  (72, .iload_n 3, 1, 73, .null, 0, 0, 0),
  (73, .if_icmp .le 8, 3, 81, .null, 0, 0, 0),
  (76, .iload 5, 2, 78, .null, 0, 0, 0),
  (78, .goto 4, 3, 82, .null, 0, 0, 0),
  (81, .iconst (-1), 1, 82, .int (-1), 0, 0, 0),
  (82, .istore 4, 2, 84, .null, 0, 0, 0),
  (84, .aload_n 0, 1, 85, .null, 0, 0, 0),
  (85, .invokevirtual 145, 3, 88, .null, 0, 0, 0),
  (88, .iinc 5 (-1), 3, 91, .int (-1), 0, 0, 0),
  (91, .goto (-48), 3, 43, .null, 0, 0, 0),
  (94, .aload_n 0, 1, 95, .null, 0, 0, 0),
  (95, .iload 4, 2, 97, .null, 0, 0, 0),
  (97, .invokevirtual 106, 3, 100, .null, 0, 0, 0),
  (100, .ireturn, 1, 101, .null, 0, 0, 0)]
set_option maxRecDepth 100000 in
theorem ek_M_hopeFor : e_M_hopeFor.all (eok 4 c_M_hopeFor) = true := by decide +kernel
def F_M_hopeFor_18 (t : Nat) (w : A_W) : Option (Int32 × A_W) :=
  (ob w t 4).bind fun o2 =>
  (F_M_finds t (-1000001) w).bind fun p1 =>
  some (p1.1, p1.2)
def F_M_hopeFor_82 (k43 : Nat → Int32 → Int32 → Int32 → Int32 → Int32 → A_W → Option (Int32 × A_W)) (t : Nat) (x1 : Int32) (x2 : Int32) (x3 : Int32) (x5 : Int32) (y0 : Int32) (w : A_W) : Option (Int32 × A_W) :=
  (ob w t 4).bind fun o2 =>
  (F_M_putsBack t w).bind fun p1 =>
  k43 t x1 x2 x3 y0 (x5 + (-1)) p1
def F_M_hopeFor_94 (t : Nat) (x4 : Int32) (w : A_W) : Option (Int32 × A_W) :=
  (ob w t 4).bind fun o2 =>
  (F_M_orNone t x4 w).bind fun p1 =>
  some (p1.1, p1.2)
def F_M_hopeFor_43 : Nat → Nat → Int32 → Int32 → Int32 → Int32 → Int32 → A_W → Option (Int32 × A_W)
  | 0, _, _, _, _, _, _, _ => none
  | n + 1, t, x1, x2, x3, x4, x5, w =>
    if x5 ≤ 0 then
      F_M_hopeFor_94 t x4 w
    else
      if 0 ≤ x4 then
        F_M_hopeFor_94 t x4 w
      else
        (ob w t 4).bind fun o4 =>
        (F_M_lets t x1 1 x5 w).bind fun p3 =>
        (ob p3 t 4).bind fun o6 =>
        (F_M_goesFor t x2 p3).bind fun p5 =>
        (ob p5 t 4).bind fun o8 =>
        (F_M_her t x1 2 p5).bind fun p7 =>
        if p7.1 ≤ x3 then
          F_M_hopeFor_82 (F_M_hopeFor_43 n) t x1 x2 x3 x5 (-1) p7.2
        else
          F_M_hopeFor_82 (F_M_hopeFor_43 n) t x1 x2 x3 x5 x5 p7.2
def F_M_hopeFor_0 (t : Nat) (x1 : Int32) (x2 : Int32) (w : A_W) : Option (Int32 × A_W) :=
  (ob w t 4).bind fun o2 =>
  (F_M_isGirl t x1 w).bind fun p1 =>
  if p1.1 = 0 then
    F_M_hopeFor_18 t p1.2
  else
    (F_M_in x2 0 40 p1.2).bind fun p4 =>
    if p4.1 = 0 then
      F_M_hopeFor_18 t p4.2
    else
      (ob p4.2 t 4).bind fun o7 =>
      (F_M_thinks t p4.2).bind fun p6 =>
      (ob p6 t 4).bind fun o9 =>
      (F_M_her t x1 2 p6).bind fun p8 =>
      F_M_hopeFor_43 FU t x1 x2 p8.1 (-1) 99 p8.2
set_option maxHeartbeats 4000000 in
set_option maxRecDepth 100000 in
theorem s_M_hopeFor_18 {G : Gx} {X : Cx} {res : Int32 × A_W} (K : Ok G X 4 c_M_hopeFor 6 (some .int) rm_M_hopeFor) (hQ : QQ G X (some (.int res.1)) res.2 0 0) (t : Nat) (w : A_W) (h : F_M_hopeFor_18 t w = some res) : Sm G X w 0 0 [some (.ref t), none, none, none, none, none] [] 18 := by
  unfold F_M_hopeFor_18 at h
  refine Sm_run K ek_M_hopeFor 9 2 rfl ?_
  obtain ⟨o2, e_o2, h⟩ := Option.bind_eq_some_iff.mp h
  obtain ⟨p1, e_p1, h⟩ := Option.bind_eq_some_iff.mp h
  refine Sm_callV K (eok_i (eo ek_M_hopeFor (i := 11) rfl) rfl) cy_M_finds im_M_finds se_M_finds (lgm 826 (by decide +kernel) rfl) ⟨Nat.le_of_ble_eq_true rfl, Nat.le_of_ble_eq_true rfl⟩ (as := [.int (-1000001)]) (b := t) (st := []) (ob_e e_o2) (by decide) rfl rfl rfl rfl (Nat.le_of_ble_eq_true rfl) ⟨Nat.le_of_ble_eq_true rfl, Nat.le_of_ble_eq_true rfl⟩ (cn_M_finds e_p1) ?_
  refine Sm_eq (st1 := .int p1.1 :: []) (nc1 := 0) (ns1 := 0) rfl rfl rfl ?_
  obtain rfl := Option.some.inj h
  exact Sm_reti K hQ (eok_i (eo ek_M_hopeFor (i := 12) rfl) rfl)
set_option maxHeartbeats 4000000 in
set_option maxRecDepth 100000 in
theorem s_M_hopeFor_82 {G : Gx} {X : Cx} {res : Int32 × A_W} (K : Ok G X 4 c_M_hopeFor 6 (some .int) rm_M_hopeFor) (hQ : QQ G X (some (.int res.1)) res.2 0 0) {k43 : Nat → Int32 → Int32 → Int32 → Int32 → Int32 → A_W → Option (Int32 × A_W)} (hk43 : ∀ (t : Nat) (x1 : Int32) (x2 : Int32) (x3 : Int32) (x4 : Int32) (x5 : Int32) (w : A_W), k43 t x1 x2 x3 x4 x5 w = some res → Sm G X w 0 0 [some (.ref t), some (.int x1), some (.int x2), some (.int x3), some (.int x4), some (.int x5)] [] 43) (t : Nat) (x1 : Int32) (x2 : Int32) (x3 : Int32) (x5 : Int32) (y0 : Int32) (w : A_W) (h : F_M_hopeFor_82 k43 t x1 x2 x3 x5 y0 w = some res) : Sm G X w 0 0 [some (.ref t), some (.int x1), some (.int x2), some (.int x3), none, some (.int x5)] [.int y0] 82 := by
  unfold F_M_hopeFor_82 at h
  refine Sm_run K ek_M_hopeFor 45 2 rfl ?_
  obtain ⟨o2, e_o2, h⟩ := Option.bind_eq_some_iff.mp h
  obtain ⟨p1, e_p1, h⟩ := Option.bind_eq_some_iff.mp h
  refine Sm_callV K (eok_i (eo ek_M_hopeFor (i := 47) rfl) rfl) cy_M_putsBack im_M_putsBack se_M_putsBack (lgm 987 (by decide +kernel) rfl) ⟨Nat.le_of_ble_eq_true rfl, Nat.le_of_ble_eq_true rfl⟩ (as := []) (b := t) (st := []) (ob_e e_o2) (by decide) rfl rfl rfl rfl (Nat.le_of_ble_eq_true rfl) ⟨Nat.le_of_ble_eq_true rfl, Nat.le_of_ble_eq_true rfl⟩ (cn_M_putsBack e_p1) ?_
  refine Sm_eq (st1 := []) (nc1 := 0) (ns1 := 0) rfl rfl rfl ?_
  refine Sm_run K ek_M_hopeFor 48 2 rfl ?_
  exact Sm_le (leR_s (leR_s (leR_s (leR_s (leR_s (leR_s leR_nil)))))) (hk43 _ _ _ _ _ _ _ h)
set_option maxHeartbeats 4000000 in
set_option maxRecDepth 100000 in
theorem s_M_hopeFor_94 {G : Gx} {X : Cx} {res : Int32 × A_W} (K : Ok G X 4 c_M_hopeFor 6 (some .int) rm_M_hopeFor) (hQ : QQ G X (some (.int res.1)) res.2 0 0) (t : Nat) (x4 : Int32) (w : A_W) (h : F_M_hopeFor_94 t x4 w = some res) : Sm G X w 0 0 [some (.ref t), none, none, none, some (.int x4), none] [] 94 := by
  unfold F_M_hopeFor_94 at h
  refine Sm_run K ek_M_hopeFor 50 2 rfl ?_
  obtain ⟨o2, e_o2, h⟩ := Option.bind_eq_some_iff.mp h
  obtain ⟨p1, e_p1, h⟩ := Option.bind_eq_some_iff.mp h
  refine Sm_callV K (eok_i (eo ek_M_hopeFor (i := 52) rfl) rfl) cy_M_orNone im_M_orNone se_M_orNone (lgm 929 (by decide +kernel) rfl) ⟨Nat.le_of_ble_eq_true rfl, Nat.le_of_ble_eq_true rfl⟩ (as := [.int x4]) (b := t) (st := []) (ob_e e_o2) (by decide) rfl rfl rfl rfl (Nat.le_of_ble_eq_true rfl) ⟨Nat.le_of_ble_eq_true rfl, Nat.le_of_ble_eq_true rfl⟩ (cn_M_orNone e_p1) ?_
  refine Sm_eq (st1 := .int p1.1 :: []) (nc1 := 0) (ns1 := 0) rfl rfl rfl ?_
  obtain rfl := Option.some.inj h
  exact Sm_reti K hQ (eok_i (eo ek_M_hopeFor (i := 53) rfl) rfl)
set_option maxHeartbeats 4000000 in
set_option maxRecDepth 100000 in
theorem s_M_hopeFor_43 {G : Gx} {X : Cx} {res : Int32 × A_W} (K : Ok G X 4 c_M_hopeFor 6 (some .int) rm_M_hopeFor) (hQ : QQ G X (some (.int res.1)) res.2 0 0) : ∀ (n : Nat) (t : Nat) (x1 : Int32) (x2 : Int32) (x3 : Int32) (x4 : Int32) (x5 : Int32) (w : A_W), F_M_hopeFor_43 n t x1 x2 x3 x4 x5 w = some res → Sm G X w 0 0 [some (.ref t), some (.int x1), some (.int x2), some (.int x3), some (.int x4), some (.int x5)] [] 43 := by
  intro n
  induction n with
  | zero => intro t x1 x2 x3 x4 x5 w h; cases h
  | succ n ih =>
    intro t x1 x2 x3 x4 x5 w h
    rw [F_M_hopeFor_43] at h
    refine Sm_run K ek_M_hopeFor 24 1 rfl ?_
    refine Sm_if_le K (eo ek_M_hopeFor (i := 25) rfl) (fun c1 => ?_) (fun c1 => ?_)
    · rw [if_pos c1] at h
      exact Sm_le (leR_s (leR_n (leR_n (leR_n (leR_s (leR_n leR_nil)))))) (s_M_hopeFor_94 K hQ _ _ _ h)
    · rw [if_neg c1] at h
      refine Sm_run K ek_M_hopeFor 26 1 rfl ?_
      refine Sm_if_ge K (eo ek_M_hopeFor (i := 27) rfl) (fun c2 => ?_) (fun c2 => ?_)
      · rw [if_pos c2] at h
        exact Sm_le (leR_s (leR_n (leR_n (leR_n (leR_s (leR_n leR_nil)))))) (s_M_hopeFor_94 K hQ _ _ _ h)
      · rw [if_neg c2] at h
        refine Sm_run K ek_M_hopeFor 28 4 rfl ?_
        obtain ⟨o4, e_o4, h⟩ := Option.bind_eq_some_iff.mp h
        obtain ⟨p3, e_p3, h⟩ := Option.bind_eq_some_iff.mp h
        refine Sm_callV K (eok_i (eo ek_M_hopeFor (i := 32) rfl) rfl) cy_M_lets im_M_lets se_M_lets (lgm 855 (by decide +kernel) rfl) ⟨Nat.le_of_ble_eq_true rfl, Nat.le_of_ble_eq_true rfl⟩ (as := [.int x1, .int 1, .int x5]) (b := t) (st := []) (ob_e e_o4) (by decide) rfl rfl rfl rfl (Nat.le_of_ble_eq_true rfl) ⟨Nat.le_of_ble_eq_true rfl, Nat.le_of_ble_eq_true rfl⟩ (cn_M_lets e_p3) ?_
        refine Sm_eq (st1 := []) (nc1 := 0) (ns1 := 0) rfl rfl rfl ?_
        refine Sm_run K ek_M_hopeFor 33 2 rfl ?_
        obtain ⟨o6, e_o6, h⟩ := Option.bind_eq_some_iff.mp h
        obtain ⟨p5, e_p5, h⟩ := Option.bind_eq_some_iff.mp h
        refine Sm_callV K (eok_i (eo ek_M_hopeFor (i := 35) rfl) rfl) cy_M_goesFor im_M_goesFor se_M_goesFor (lgm 940 (by decide +kernel) rfl) ⟨Nat.le_of_ble_eq_true rfl, Nat.le_of_ble_eq_true rfl⟩ (as := [.int x2]) (b := t) (st := []) (ob_e e_o6) (by decide) rfl rfl rfl rfl (Nat.le_of_ble_eq_true rfl) ⟨Nat.le_of_ble_eq_true rfl, Nat.le_of_ble_eq_true rfl⟩ (cn_M_goesFor e_p5) ?_
        refine Sm_eq (st1 := []) (nc1 := 0) (ns1 := 0) rfl rfl rfl ?_
        refine Sm_run K ek_M_hopeFor 36 3 rfl ?_
        obtain ⟨o8, e_o8, h⟩ := Option.bind_eq_some_iff.mp h
        obtain ⟨p7, e_p7, h⟩ := Option.bind_eq_some_iff.mp h
        refine Sm_callV K (eok_i (eo ek_M_hopeFor (i := 39) rfl) rfl) cy_M_her im_M_her se_M_her (lgm 913 (by decide +kernel) rfl) ⟨Nat.le_of_ble_eq_true rfl, Nat.le_of_ble_eq_true rfl⟩ (as := [.int x1, .int 2]) (b := t) (st := []) (ob_e e_o8) (by decide) rfl rfl rfl rfl (Nat.le_of_ble_eq_true rfl) ⟨Nat.le_of_ble_eq_true rfl, Nat.le_of_ble_eq_true rfl⟩ (cn_M_her e_p7) ?_
        refine Sm_eq (st1 := .int p7.1 :: []) (nc1 := 0) (ns1 := 0) rfl rfl rfl ?_
        refine Sm_run K ek_M_hopeFor 40 1 rfl ?_
        refine Sm_ic_le K (eo ek_M_hopeFor (i := 41) rfl) (fun c9 => ?_) (fun c9 => ?_)
        · rw [if_pos c9] at h
          refine Sm_run K ek_M_hopeFor 44 1 rfl ?_
          exact Sm_le (leR_s (leR_s (leR_s (leR_s (leR_n (leR_s leR_nil)))))) (s_M_hopeFor_82 K hQ ih _ _ _ _ _ _ _ h)
        · rw [if_neg c9] at h
          refine Sm_run K ek_M_hopeFor 42 2 rfl ?_
          exact Sm_le (leR_s (leR_s (leR_s (leR_s (leR_n (leR_s leR_nil)))))) (s_M_hopeFor_82 K hQ ih _ _ _ _ _ _ _ h)
set_option maxHeartbeats 4000000 in
set_option maxRecDepth 100000 in
theorem s_M_hopeFor_0 {G : Gx} {X : Cx} {res : Int32 × A_W} (K : Ok G X 4 c_M_hopeFor 6 (some .int) rm_M_hopeFor) (hQ : QQ G X (some (.int res.1)) res.2 0 0) (t : Nat) (x1 : Int32) (x2 : Int32) (w : A_W) (h : F_M_hopeFor_0 t x1 x2 w = some res) : Sm G X w 0 0 [some (.ref t), some (.int x1), some (.int x2), none, none, none] [] 0 := by
  unfold F_M_hopeFor_0 at h
  refine Sm_run K ek_M_hopeFor 0 2 rfl ?_
  obtain ⟨o2, e_o2, h⟩ := Option.bind_eq_some_iff.mp h
  obtain ⟨p1, e_p1, h⟩ := Option.bind_eq_some_iff.mp h
  refine Sm_callV K (eok_i (eo ek_M_hopeFor (i := 2) rfl) rfl) cy_M_isGirl im_M_isGirl se_M_isGirl (lgm 909 (by decide +kernel) rfl) ⟨Nat.le_of_ble_eq_true rfl, Nat.le_of_ble_eq_true rfl⟩ (as := [.int x1]) (b := t) (st := []) (ob_e e_o2) (by decide) rfl rfl rfl rfl (Nat.le_of_ble_eq_true rfl) ⟨Nat.le_of_ble_eq_true rfl, Nat.le_of_ble_eq_true rfl⟩ (cn_M_isGirl e_p1) ?_
  refine Sm_eq (st1 := .int p1.1 :: []) (nc1 := 0) (ns1 := 0) rfl rfl rfl ?_
  refine Sm_if_eq K (eo ek_M_hopeFor (i := 3) rfl) (fun c3 => ?_) (fun c3 => ?_)
  · rw [if_pos c3] at h
    exact Sm_le (leR_s (leR_n (leR_n (leR_n (leR_n (leR_n leR_nil)))))) (s_M_hopeFor_18 K hQ _ _ h)
  · rw [if_neg c3] at h
    refine Sm_run K ek_M_hopeFor 4 3 rfl ?_
    obtain ⟨p4, e_p4, h⟩ := Option.bind_eq_some_iff.mp h
    refine Sm_callS K (eok_i (eo ek_M_hopeFor (i := 7) rfl) rfl) cy_M_in st_M_in (lgm 815 (by decide +kernel) rfl) ⟨Nat.le_of_ble_eq_true rfl, Nat.le_of_ble_eq_true rfl⟩ (as := [.int x2, .int 0, .int 40]) (st := []) rfl rfl rfl (Nat.le_of_ble_eq_true rfl) ⟨Nat.le_of_ble_eq_true rfl, Nat.le_of_ble_eq_true rfl⟩ (cn_M_in e_p4) ?_
    refine Sm_eq (st1 := .int p4.1 :: []) (nc1 := 0) (ns1 := 0) rfl rfl rfl ?_
    refine Sm_if_ne K (eo ek_M_hopeFor (i := 8) rfl) (fun c5 => ?_) (fun c5 => ?_)
    · rw [if_neg c5] at h
      refine Sm_run K ek_M_hopeFor 13 1 rfl ?_
      obtain ⟨o7, e_o7, h⟩ := Option.bind_eq_some_iff.mp h
      obtain ⟨p6, e_p6, h⟩ := Option.bind_eq_some_iff.mp h
      refine Sm_callV K (eok_i (eo ek_M_hopeFor (i := 14) rfl) rfl) cy_M_thinks im_M_thinks se_M_thinks (lgm 980 (by decide +kernel) rfl) ⟨Nat.le_of_ble_eq_true rfl, Nat.le_of_ble_eq_true rfl⟩ (as := []) (b := t) (st := []) (ob_e e_o7) (by decide) rfl rfl rfl rfl (Nat.le_of_ble_eq_true rfl) ⟨Nat.le_of_ble_eq_true rfl, Nat.le_of_ble_eq_true rfl⟩ (cn_M_thinks e_p6) ?_
      refine Sm_eq (st1 := []) (nc1 := 0) (ns1 := 0) rfl rfl rfl ?_
      refine Sm_run K ek_M_hopeFor 15 3 rfl ?_
      obtain ⟨o9, e_o9, h⟩ := Option.bind_eq_some_iff.mp h
      obtain ⟨p8, e_p8, h⟩ := Option.bind_eq_some_iff.mp h
      refine Sm_callV K (eok_i (eo ek_M_hopeFor (i := 18) rfl) rfl) cy_M_her im_M_her se_M_her (lgm 913 (by decide +kernel) rfl) ⟨Nat.le_of_ble_eq_true rfl, Nat.le_of_ble_eq_true rfl⟩ (as := [.int x1, .int 2]) (b := t) (st := []) (ob_e e_o9) (by decide) rfl rfl rfl rfl (Nat.le_of_ble_eq_true rfl) ⟨Nat.le_of_ble_eq_true rfl, Nat.le_of_ble_eq_true rfl⟩ (cn_M_her e_p8) ?_
      refine Sm_eq (st1 := .int p8.1 :: []) (nc1 := 0) (ns1 := 0) rfl rfl rfl ?_
      refine Sm_run K ek_M_hopeFor 19 5 rfl ?_
      exact Sm_le (leR_s (leR_s (leR_s (leR_s (leR_s (leR_s leR_nil)))))) (s_M_hopeFor_43 K hQ FU _ _ _ _ _ _ _ h)
    · rw [if_pos c5] at h
      exact Sm_le (leR_s (leR_n (leR_n (leR_n (leR_n (leR_n leR_nil)))))) (s_M_hopeFor_18 K hQ _ _ h)
def F_M_hopeFor (t : Nat) (x1 : Int32) (x2 : Int32) (w : A_W) : Option (Int32 × A_W) := F_M_hopeFor_0 t x1 x2 w
theorem cn_M_hopeFor {G : Gx} {t : Nat} {x1 : Int32} {x2 : Int32} {w : A_W} {res : Int32 × A_W} (h : F_M_hopeFor t x1 x2 w = some res) : Cn G y_M_hopeFor c_M_hopeFor 6 (some .int) rm_M_hopeFor [.ref t, .int x1, .int x2] w (some (.int res.1)) res.2 :=
  Cn_of (own := 4) cy_M_hopeFor rfl rfl (Nat.le_of_ble_eq_true rfl) rfl (fun X K _ hQ => Sm_le (leR_s (leR_s (leR_s (leR_n (leR_n (leR_n leR_nil)))))) (s_M_hopeFor_0 K hQ _ _ _ _ h))
/-! EveningCloakModel.isAsNow(II)Z -/
abbrev c_M_isAsNow : ByteArray := prog_6_method_61_code
def y_M_isAsNow : MethodName := ⟨"EveningCloakModel", "isAsNow", "(II)Z"⟩
def rm_M_isAsNow : Room := { frames := 7, cells := 0, slots := 0, locals := 159 }
theorem cy_M_isAsNow : Cy y_M_isAsNow c_M_isAsNow 5 (some .boolean) 2 := ⟨lgm 1049 (by decide +kernel) rfl, lgm 73 (by decide +kernel) rfl, by decide +kernel, by decide +kernel⟩
theorem im_M_isAsNow : Cond.instanceMethod y_M_isAsNow ∈ lg := lgm 1048 (by decide +kernel) rfl
theorem se_M_isAsNow : Cond.selects y_M_isAsNow.cls y_M_isAsNow y_M_isAsNow ∈ lg := lgm 48 (by decide +kernel) rfl
def e_M_isAsNow : List Ent := [
  (0, .aload_n 0, 1, 1, .null, 0, 0, 0),
  (1, .iconst 2, 1, 2, .int 2, 0, 0, 0),
  (2, .invokevirtual 126, 3, 5, .null, 0, 0, 0),
  (5, .istore_n 3, 1, 6, .null, 0, 0, 0),
  (6, .iconst 0, 1, 7, .int 0, 0, 0, 0),
  (7, .istore 4, 2, 9, .null, 0, 0, 0),
  (9, .iload 4, 2, 11, .null, 0, 0, 0),
  (11, .aload_n 0, 1, 12, .null, 0, 0, 0),
  (12, .getfield 9, 3, 15, .null, 4, 0, 762),
  (15, .iconst 3, 1, 16, .int 3, 0, 0, 0),
  (16, .iaload, 1, 17, .null, 0, 0, 0),
  (17, .if_icmp .ge 30, 3, 47, .null, 0, 0, 0),
  (20, .aload_n 0, 1, 21, .null, 0, 0, 0),
  (21, .iload 4, 2, 23, .null, 0, 0, 0),
  (23, .iconst 5, 1, 24, .int 5, 0, 0, 0),
  (24, .aload_n 0, 1, 25, .null, 0, 0, 0),
  (25, .iload 4, 2, 27, .null, 0, 0, 0),
  (27, .iconst 5, 1, 28, .int 5, 0, 0, 0),
  (28, .invokevirtual 44, 3, 31, .null, 0, 0, 0),
  (31, .iload_n 1, 1, 32, .null, 0, 0, 0),
  (32, .iload 4, 2, 34, .null, 0, 0, 0),
  (34, .ishr, 1, 35, .null, 0, 0, 0),
  (35, .iconst 1, 1, 36, .int 1, 0, 0, 0),
  (36, .iand, 1, 37, .null, 0, 0, 0),
  (37, .ior, 1, 38, .null, 0, 0, 0),
  (38, .invokevirtual 74, 3, 41, .null, 0, 0, 0),
  (41, .iinc 4 1, 3, 44, .int 1, 0, 0, 0),
  (44, .goto (-35), 3, 9, .null, 0, 0, 0),
  (47, .aload_n 0, 1, 48, .null, 0, 0, 0),
  (48, .iload_n 2, 1, 49, .null, 0, 0, 0),
  (49, .invokevirtual 151, 3, 52, .null, 0, 0, 0),
  (52, .iload_n 3, 1, 53, .null, 0, 0, 0),
  (53, .if_icmp .ne 7, 3, 60, .null, 0, 0, 0),
  (56, .iconst 1, 1, 57, .int 1, 0, 0, 0),
  (57, .goto 4, 3, 61, .null, 0, 0, 0),
  (60, .iconst 0, 1, 61, .int 0, 0, 0, 0),
  (61, .ireturn, 1, 62, .null, 0, 0, 0)]
set_option maxRecDepth 100000 in
theorem ek_M_isAsNow : e_M_isAsNow.all (eok 4 c_M_isAsNow) = true := by decide +kernel
def F_M_isAsNow_61 (y0 : Int32) (w : A_W) : Option (Int32 × A_W) :=
  (bz y0).bind fun b1 =>
  some (b1, w)
def F_M_isAsNow_9 : Nat → Nat → Int32 → Int32 → Int32 → Int32 → A_W → Option (Int32 × A_W)
  | 0, _, _, _, _, _, _ => none
  | n + 1, t, x1, x2, x3, x4, w =>
    (gr w t 4 0).bind fun a1 =>
    (rd w a1 3).bind fun v2 =>
    if v2 ≤ x4 then
      (ob w t 4).bind fun o5 =>
      (F_M_metBehind t x2 w).bind fun p4 =>
      if p4.1 = x3 then
        F_M_isAsNow_61 1 p4.2
      else
        F_M_isAsNow_61 0 p4.2
    else
      (ob w t 4).bind fun o8 =>
      (F_M_it t x4 5 w).bind fun p7 =>
      (ob p7.2 t 4).bind fun o10 =>
      (F_M_put t x4 5 (p7.1 ||| ((x1 >>> (x4 &&& 31)) &&& 1)) p7.2).bind fun p9 =>
      F_M_isAsNow_9 n t x1 x2 x3 (x4 + 1) p9
def F_M_isAsNow_0 (t : Nat) (x1 : Int32) (x2 : Int32) (w : A_W) : Option (Int32 × A_W) :=
  (ob w t 4).bind fun o2 =>
  (F_M_sums t 2 w).bind fun p1 =>
  F_M_isAsNow_9 FU t x1 x2 p1.1 0 p1.2
set_option maxHeartbeats 4000000 in
set_option maxRecDepth 100000 in
theorem s_M_isAsNow_61 {G : Gx} {X : Cx} {res : Int32 × A_W} (K : Ok G X 4 c_M_isAsNow 5 (some .boolean) rm_M_isAsNow) (hQ : QQ G X (some (.int res.1)) res.2 0 0) (y0 : Int32) (w : A_W) (h : F_M_isAsNow_61 y0 w = some res) : Sm G X w 0 0 [none, none, none, none, none] [.int y0] 61 := by
  unfold F_M_isAsNow_61 at h
  obtain ⟨b1, e_b1, h⟩ := Option.bind_eq_some_iff.mp h
  obtain rfl := Option.some.inj h
  exact Sm_retz K e_b1 hQ (eok_i (eo ek_M_isAsNow (i := 36) rfl) rfl)
set_option maxHeartbeats 4000000 in
set_option maxRecDepth 100000 in
theorem s_M_isAsNow_9 {G : Gx} {X : Cx} {res : Int32 × A_W} (K : Ok G X 4 c_M_isAsNow 5 (some .boolean) rm_M_isAsNow) (hQ : QQ G X (some (.int res.1)) res.2 0 0) : ∀ (n : Nat) (t : Nat) (x1 : Int32) (x2 : Int32) (x3 : Int32) (x4 : Int32) (w : A_W), F_M_isAsNow_9 n t x1 x2 x3 x4 w = some res → Sm G X w 0 0 [some (.ref t), some (.int x1), some (.int x2), some (.int x3), some (.int x4)] [] 9 := by
  intro n
  induction n with
  | zero => intro t x1 x2 x3 x4 w h; cases h
  | succ n ih =>
    intro t x1 x2 x3 x4 w h
    rw [F_M_isAsNow_9] at h
    refine Sm_run K ek_M_isAsNow 6 2 rfl ?_
    obtain ⟨a1, e_a1, h⟩ := Option.bind_eq_some_iff.mp h
    refine Sm_gr K (eo ek_M_isAsNow (i := 8) rfl) e_a1 ?_
    refine Sm_run K ek_M_isAsNow 9 1 rfl ?_
    obtain ⟨v2, e_v2, h⟩ := Option.bind_eq_some_iff.mp h
    refine Sm_rd K (eok_i (eo ek_M_isAsNow (i := 10) rfl) rfl) e_v2 ?_
    refine Sm_ic_ge K (eo ek_M_isAsNow (i := 11) rfl) (fun c3 => ?_) (fun c3 => ?_)
    · rw [if_pos c3] at h
      refine Sm_run K ek_M_isAsNow 28 2 rfl ?_
      obtain ⟨o5, e_o5, h⟩ := Option.bind_eq_some_iff.mp h
      obtain ⟨p4, e_p4, h⟩ := Option.bind_eq_some_iff.mp h
      refine Sm_callV K (eok_i (eo ek_M_isAsNow (i := 30) rfl) rfl) cy_M_metBehind im_M_metBehind se_M_metBehind (lgm 1023 (by decide +kernel) rfl) ⟨Nat.le_of_ble_eq_true rfl, Nat.le_of_ble_eq_true rfl⟩ (as := [.int x2]) (b := t) (st := []) (ob_e e_o5) (by decide) rfl rfl rfl rfl (Nat.le_of_ble_eq_true rfl) ⟨Nat.le_of_ble_eq_true rfl, Nat.le_of_ble_eq_true rfl⟩ (cn_M_metBehind e_p4) ?_
      refine Sm_eq (st1 := .int p4.1 :: []) (nc1 := 0) (ns1 := 0) rfl rfl rfl ?_
      refine Sm_run K ek_M_isAsNow 31 1 rfl ?_
      refine Sm_ic_ne K (eo ek_M_isAsNow (i := 32) rfl) (fun c6 => ?_) (fun c6 => ?_)
      · rw [if_neg c6] at h
        refine Sm_run K ek_M_isAsNow 35 1 rfl ?_
        exact Sm_le (leR_n (leR_n (leR_n (leR_n (leR_n leR_nil))))) (s_M_isAsNow_61 K hQ _ _ h)
      · rw [if_pos c6] at h
        refine Sm_run K ek_M_isAsNow 33 2 rfl ?_
        exact Sm_le (leR_n (leR_n (leR_n (leR_n (leR_n leR_nil))))) (s_M_isAsNow_61 K hQ _ _ h)
    · rw [if_neg c3] at h
      refine Sm_run K ek_M_isAsNow 12 6 rfl ?_
      obtain ⟨o8, e_o8, h⟩ := Option.bind_eq_some_iff.mp h
      obtain ⟨p7, e_p7, h⟩ := Option.bind_eq_some_iff.mp h
      refine Sm_callV K (eok_i (eo ek_M_isAsNow (i := 18) rfl) rfl) cy_M_it im_M_it se_M_it (lgm 871 (by decide +kernel) rfl) ⟨Nat.le_of_ble_eq_true rfl, Nat.le_of_ble_eq_true rfl⟩ (as := [.int x4, .int 5]) (b := t) (st := [.int 5, .int x4, .ref t]) (ob_e e_o8) (by decide) rfl rfl rfl rfl (Nat.le_of_ble_eq_true rfl) ⟨Nat.le_of_ble_eq_true rfl, Nat.le_of_ble_eq_true rfl⟩ (cn_M_it e_p7) ?_
      refine Sm_eq (st1 := .int p7.1 :: [.int 5, .int x4, .ref t]) (nc1 := 0) (ns1 := 0) rfl rfl rfl ?_
      refine Sm_run K ek_M_isAsNow 19 6 rfl ?_
      obtain ⟨o10, e_o10, h⟩ := Option.bind_eq_some_iff.mp h
      obtain ⟨p9, e_p9, h⟩ := Option.bind_eq_some_iff.mp h
      refine Sm_callV K (eok_i (eo ek_M_isAsNow (i := 25) rfl) rfl) cy_M_put im_M_put se_M_put (lgm 843 (by decide +kernel) rfl) ⟨Nat.le_of_ble_eq_true rfl, Nat.le_of_ble_eq_true rfl⟩ (as := [.int x4, .int 5, .int (p7.1 ||| ((x1 >>> (x4 &&& 31)) &&& 1))]) (b := t) (st := []) (ob_e e_o10) (by decide) rfl rfl rfl rfl (Nat.le_of_ble_eq_true rfl) ⟨Nat.le_of_ble_eq_true rfl, Nat.le_of_ble_eq_true rfl⟩ (cn_M_put e_p9) ?_
      refine Sm_eq (st1 := []) (nc1 := 0) (ns1 := 0) rfl rfl rfl ?_
      refine Sm_run K ek_M_isAsNow 26 2 rfl ?_
      exact Sm_le (leR_s (leR_s (leR_s (leR_s (leR_s leR_nil))))) (ih _ _ _ _ _ _ h)
set_option maxHeartbeats 4000000 in
set_option maxRecDepth 100000 in
theorem s_M_isAsNow_0 {G : Gx} {X : Cx} {res : Int32 × A_W} (K : Ok G X 4 c_M_isAsNow 5 (some .boolean) rm_M_isAsNow) (hQ : QQ G X (some (.int res.1)) res.2 0 0) (t : Nat) (x1 : Int32) (x2 : Int32) (w : A_W) (h : F_M_isAsNow_0 t x1 x2 w = some res) : Sm G X w 0 0 [some (.ref t), some (.int x1), some (.int x2), none, none] [] 0 := by
  unfold F_M_isAsNow_0 at h
  refine Sm_run K ek_M_isAsNow 0 2 rfl ?_
  obtain ⟨o2, e_o2, h⟩ := Option.bind_eq_some_iff.mp h
  obtain ⟨p1, e_p1, h⟩ := Option.bind_eq_some_iff.mp h
  refine Sm_callV K (eok_i (eo ek_M_isAsNow (i := 2) rfl) rfl) cy_M_sums im_M_sums se_M_sums (lgm 960 (by decide +kernel) rfl) ⟨Nat.le_of_ble_eq_true rfl, Nat.le_of_ble_eq_true rfl⟩ (as := [.int 2]) (b := t) (st := []) (ob_e e_o2) (by decide) rfl rfl rfl rfl (Nat.le_of_ble_eq_true rfl) ⟨Nat.le_of_ble_eq_true rfl, Nat.le_of_ble_eq_true rfl⟩ (cn_M_sums e_p1) ?_
  refine Sm_eq (st1 := .int p1.1 :: []) (nc1 := 0) (ns1 := 0) rfl rfl rfl ?_
  refine Sm_run K ek_M_isAsNow 3 3 rfl ?_
  exact Sm_le (leR_s (leR_s (leR_s (leR_s (leR_s leR_nil))))) (s_M_isAsNow_9 K hQ FU _ _ _ _ _ _ h)
def F_M_isAsNow (t : Nat) (x1 : Int32) (x2 : Int32) (w : A_W) : Option (Int32 × A_W) := F_M_isAsNow_0 t x1 x2 w
theorem cn_M_isAsNow {G : Gx} {t : Nat} {x1 : Int32} {x2 : Int32} {w : A_W} {res : Int32 × A_W} (h : F_M_isAsNow t x1 x2 w = some res) : Cn G y_M_isAsNow c_M_isAsNow 5 (some .boolean) rm_M_isAsNow [.ref t, .int x1, .int x2] w (some (.int res.1)) res.2 :=
  Cn_of (own := 4) cy_M_isAsNow rfl rfl (Nat.le_of_ble_eq_true rfl) rfl (fun X K _ hQ => Sm_le (leR_s (leR_s (leR_s (leR_n (leR_n leR_nil))))) (s_M_isAsNow_0 K hQ _ _ _ _ h))
/-! EveningCloakModel.giveOut(I)I -/
abbrev c_M_giveOut : ByteArray := prog_6_method_62_code
def y_M_giveOut : MethodName := ⟨"EveningCloakModel", "giveOut", "(I)I"⟩
def rm_M_giveOut : Room := { frames := 8, cells := 0, slots := 0, locals := 183 }
theorem cy_M_giveOut : Cy y_M_giveOut c_M_giveOut 5 (some .int) 1 := ⟨lgm 1042 (by decide +kernel) rfl, lgm 73 (by decide +kernel) rfl, by decide +kernel, by decide +kernel⟩
theorem im_M_giveOut : Cond.instanceMethod y_M_giveOut ∈ lg := lgm 1040 (by decide +kernel) rfl
theorem se_M_giveOut : Cond.selects y_M_giveOut.cls y_M_giveOut y_M_giveOut ∈ lg := lgm 1041 (by decide +kernel) rfl
def e_M_giveOut : List Ent := [
  (0, .iload_n 1, 1, 1, .null, 0, 0, 0),
  (1, .iconst 0, 1, 2, .int 0, 0, 0, 0),
  (2, .bipush 20, 2, 4, .int 20, 0, 0, 0),
  (4, .invokestatic 40, 3, 7, .null, 0, 0, 0),
  (7, .ifCond .ne 10, 3, 17, .null, 0, 0, 0),
  (10, .aload_n 0, 1, 11, .null, 0, 0, 0),
  (11, .ldc 34, 2, 13, .int (-1000001), 0, 0, 825),
  (13, .invokevirtual 36, 3, 16, .null, 0, 0, 0),
  (16, .ireturn, 1, 17, .null, 0, 0, 0),
  (17, .aload_n 0, 1, 18, .null, 0, 0, 0),
  (18, .invokevirtual 142, 3, 21, .null, 0, 0, 0),
  (21, .iconst (-1), 1, 22, .int (-1), 0, 0, 0),
  (22, .istore_n 2, 1, 23, .null, 0, 0, 0),
  (23, .iconst 0, 1, 24, .int 0, 0, 0, 0),
  (24, .istore_n 3, 1, 25, .null, 0, 0, 0),
  (25, .iload_n 3, 1, 26, .null, 0, 0, 0),
  (26, .iconst 1, 1, 27, .int 1, 0, 0, 0),
  (27, .aload_n 0, 1, 28, .null, 0, 0, 0),
  (28, .getfield 9, 3, 31, .null, 4, 0, 762),
  (31, .iconst 3, 1, 32, .int 3, 0, 0, 0),
  (32, .iaload, 1, 33, .null, 0, 0, 0),
  (33, .ishl, 1, 34, .null, 0, 0, 0),
  (34, .if_icmp .ge 51, 3, 85, .null, 0, 0, 0),
  (37, .iload_n 2, 1, 38, .null, 0, 0, 0),
  (38, .ifCond .lt 14, 3, 52, .null, 0, 0, 0),
  (41, .iload_n 3, 1, 42, .null, 0, 0, 0),
  (42, .invokestatic 158, 3, 45, .null, 0, 0, 0),
  (45, .iload_n 2, 1, 46, .null, 0, 0, 0),
  (46, .invokestatic 158, 3, 49, .null, 0, 0, 0),
  (49, .if_icmp .ge 7, 3, 56, .null, 0, 0, 0),
  (52, .iconst 1, 1, 53, .int 1, 0, 0, 0),
  (53, .goto 4, 3, 57, .null, 0, 0, 0),
  (56, .iconst 0, 1, 57, .int 0, 0, 0, 0),
  (57, .istore 4, 2, 59, .null, 0, 0, 0),
  (59, .iload 4, 2, 61, .null, 0, 0, 0),
  (61, .ifCond .eq 16, 3, 77, .null, 0, 0, 0),
  (64, .aload_n 0, 1, 65, .null, 0, 0, 0),
  (65, .iload_n 3, 1, 66, .null, 0, 0, 0),
  (66, .iload_n 1, 1, 67, .null, 0, 0, 0),
  (67, .invokevirtual 161, 3, 70, .null, 0, 0, 0),
  (70, .ifCond .eq 7, 3, 77, .null, 0, 0, 0),
  (73, .iload_n 3, 1, 74, .null, 0, 0, 0),
  (74, .goto 4, 3, 78, .null, 0, 0, 0),
  (77, .iload_n 2, 1, 78, .null, 0, 0, 0),
  (78, .istore_n 2, 1, 79, .null, 0, 0, 0),
  (79, .iinc 3 1, 3, 82, .int 1, 0, 0, 0),
  (82, .goto (-57), 3, 25, .null, 0, 0, 0),
  (85, .aload_n 0, 1, 86, .null, 0, 0, 0),
  (86, .iload_n 2, 1, 87, .null, 0, 0, 0),
  (87, .invokevirtual 106, 3, 90, .null, 0, 0, 0),
  (90, .ireturn, 1, 91, .null, 0, 0, 0)]
set_option maxRecDepth 100000 in
theorem ek_M_giveOut : e_M_giveOut.all (eok 4 c_M_giveOut) = true := by decide +kernel
def F_M_giveOut_78 (k25 : Nat → Int32 → Int32 → Int32 → A_W → Option (Int32 × A_W)) (t : Nat) (x1 : Int32) (x3 : Int32) (y0 : Int32) (w : A_W) : Option (Int32 × A_W) :=
  k25 t x1 y0 (x3 + 1) w
def F_M_giveOut_77 (k25 : Nat → Int32 → Int32 → Int32 → A_W → Option (Int32 × A_W)) (t : Nat) (x1 : Int32) (x2 : Int32) (x3 : Int32) (w : A_W) : Option (Int32 × A_W) :=
  F_M_giveOut_78 k25 t x1 x3 x2 w
def F_M_giveOut_57 (k25 : Nat → Int32 → Int32 → Int32 → A_W → Option (Int32 × A_W)) (t : Nat) (x1 : Int32) (x2 : Int32) (x3 : Int32) (y0 : Int32) (w : A_W) : Option (Int32 × A_W) :=
  if y0 = 0 then
    F_M_giveOut_77 k25 t x1 x2 x3 w
  else
    (ob w t 4).bind fun o3 =>
    (F_M_isAsNow t x3 x1 w).bind fun p2 =>
    if p2.1 = 0 then
      F_M_giveOut_77 k25 t x1 x2 x3 p2.2
    else
      F_M_giveOut_78 k25 t x1 x3 x3 p2.2
def F_M_giveOut_52 (k25 : Nat → Int32 → Int32 → Int32 → A_W → Option (Int32 × A_W)) (t : Nat) (x1 : Int32) (x2 : Int32) (x3 : Int32) (w : A_W) : Option (Int32 × A_W) :=
  F_M_giveOut_57 k25 t x1 x2 x3 1 w
def F_M_giveOut_25 : Nat → Nat → Int32 → Int32 → Int32 → A_W → Option (Int32 × A_W)
  | 0, _, _, _, _, _ => none
  | n + 1, t, x1, x2, x3, w =>
    (gr w t 4 0).bind fun a1 =>
    (rd w a1 3).bind fun v2 =>
    if (1 <<< (v2 &&& 31)) ≤ x3 then
      (ob w t 4).bind fun o5 =>
      (F_M_orNone t x2 w).bind fun p4 =>
      some (p4.1, p4.2)
    else
      if x2 < 0 then
        F_M_giveOut_52 (F_M_giveOut_25 n) t x1 x2 x3 w
      else
        (F_M_bits x3 w).bind fun p7 =>
        (F_M_bits x2 p7.2).bind fun p8 =>
        if p8.1 ≤ p7.1 then
          F_M_giveOut_57 (F_M_giveOut_25 n) t x1 x2 x3 0 p8.2
        else
          F_M_giveOut_52 (F_M_giveOut_25 n) t x1 x2 x3 p8.2
def F_M_giveOut_0 (t : Nat) (x1 : Int32) (w : A_W) : Option (Int32 × A_W) :=
  (F_M_in x1 0 20 w).bind fun p1 =>
  if p1.1 = 0 then
    (ob p1.2 t 4).bind fun o6 =>
    (F_M_finds t (-1000001) p1.2).bind fun p5 =>
    some (p5.1, p5.2)
  else
    (ob p1.2 t 4).bind fun o4 =>
    (F_M_thinks t p1.2).bind fun p3 =>
    F_M_giveOut_25 FU t x1 (-1) 0 p3
set_option maxHeartbeats 4000000 in
set_option maxRecDepth 100000 in
theorem s_M_giveOut_78 {G : Gx} {X : Cx} {res : Int32 × A_W} (K : Ok G X 4 c_M_giveOut 5 (some .int) rm_M_giveOut) (hQ : QQ G X (some (.int res.1)) res.2 0 0) {k25 : Nat → Int32 → Int32 → Int32 → A_W → Option (Int32 × A_W)} (hk25 : ∀ (t : Nat) (x1 : Int32) (x2 : Int32) (x3 : Int32) (w : A_W), k25 t x1 x2 x3 w = some res → Sm G X w 0 0 [some (.ref t), some (.int x1), some (.int x2), some (.int x3), none] [] 25) (t : Nat) (x1 : Int32) (x3 : Int32) (y0 : Int32) (w : A_W) (h : F_M_giveOut_78 k25 t x1 x3 y0 w = some res) : Sm G X w 0 0 [some (.ref t), some (.int x1), none, some (.int x3), none] [.int y0] 78 := by
  unfold F_M_giveOut_78 at h
  refine Sm_run K ek_M_giveOut 44 3 rfl ?_
  exact Sm_le (leR_s (leR_s (leR_s (leR_s (leR_n leR_nil))))) (hk25 _ _ _ _ _ h)
set_option maxHeartbeats 4000000 in
set_option maxRecDepth 100000 in
theorem s_M_giveOut_77 {G : Gx} {X : Cx} {res : Int32 × A_W} (K : Ok G X 4 c_M_giveOut 5 (some .int) rm_M_giveOut) (hQ : QQ G X (some (.int res.1)) res.2 0 0) {k25 : Nat → Int32 → Int32 → Int32 → A_W → Option (Int32 × A_W)} (hk25 : ∀ (t : Nat) (x1 : Int32) (x2 : Int32) (x3 : Int32) (w : A_W), k25 t x1 x2 x3 w = some res → Sm G X w 0 0 [some (.ref t), some (.int x1), some (.int x2), some (.int x3), none] [] 25) (t : Nat) (x1 : Int32) (x2 : Int32) (x3 : Int32) (w : A_W) (h : F_M_giveOut_77 k25 t x1 x2 x3 w = some res) : Sm G X w 0 0 [some (.ref t), some (.int x1), some (.int x2), some (.int x3), none] [] 77 := by
  unfold F_M_giveOut_77 at h
  refine Sm_run K ek_M_giveOut 43 1 rfl ?_
  exact Sm_le (leR_s (leR_s (leR_n (leR_s (leR_n leR_nil))))) (s_M_giveOut_78 K hQ hk25 _ _ _ _ _ h)
set_option maxHeartbeats 4000000 in
set_option maxRecDepth 100000 in
theorem s_M_giveOut_57 {G : Gx} {X : Cx} {res : Int32 × A_W} (K : Ok G X 4 c_M_giveOut 5 (some .int) rm_M_giveOut) (hQ : QQ G X (some (.int res.1)) res.2 0 0) {k25 : Nat → Int32 → Int32 → Int32 → A_W → Option (Int32 × A_W)} (hk25 : ∀ (t : Nat) (x1 : Int32) (x2 : Int32) (x3 : Int32) (w : A_W), k25 t x1 x2 x3 w = some res → Sm G X w 0 0 [some (.ref t), some (.int x1), some (.int x2), some (.int x3), none] [] 25) (t : Nat) (x1 : Int32) (x2 : Int32) (x3 : Int32) (y0 : Int32) (w : A_W) (h : F_M_giveOut_57 k25 t x1 x2 x3 y0 w = some res) : Sm G X w 0 0 [some (.ref t), some (.int x1), some (.int x2), some (.int x3), none] [.int y0] 57 := by
  unfold F_M_giveOut_57 at h
  refine Sm_run K ek_M_giveOut 33 2 rfl ?_
  refine Sm_if_eq K (eo ek_M_giveOut (i := 35) rfl) (fun c1 => ?_) (fun c1 => ?_)
  · rw [if_pos c1] at h
    exact Sm_le (leR_s (leR_s (leR_s (leR_s (leR_n leR_nil))))) (s_M_giveOut_77 K hQ hk25 _ _ _ _ _ h)
  · rw [if_neg c1] at h
    refine Sm_run K ek_M_giveOut 36 3 rfl ?_
    obtain ⟨o3, e_o3, h⟩ := Option.bind_eq_some_iff.mp h
    obtain ⟨p2, e_p2, h⟩ := Option.bind_eq_some_iff.mp h
    refine Sm_callV K (eok_i (eo ek_M_giveOut (i := 39) rfl) rfl) cy_M_isAsNow im_M_isAsNow se_M_isAsNow (lgm 1046 (by decide +kernel) rfl) ⟨Nat.le_of_ble_eq_true rfl, Nat.le_of_ble_eq_true rfl⟩ (as := [.int x3, .int x1]) (b := t) (st := []) (ob_e e_o3) (by decide) rfl rfl rfl rfl (Nat.le_of_ble_eq_true rfl) ⟨Nat.le_of_ble_eq_true rfl, Nat.le_of_ble_eq_true rfl⟩ (cn_M_isAsNow e_p2) ?_
    refine Sm_eq (st1 := .int p2.1 :: []) (nc1 := 0) (ns1 := 0) rfl rfl rfl ?_
    refine Sm_if_eq K (eo ek_M_giveOut (i := 40) rfl) (fun c4 => ?_) (fun c4 => ?_)
    · rw [if_pos c4] at h
      exact Sm_le (leR_s (leR_s (leR_s (leR_s (leR_n leR_nil))))) (s_M_giveOut_77 K hQ hk25 _ _ _ _ _ h)
    · rw [if_neg c4] at h
      refine Sm_run K ek_M_giveOut 41 2 rfl ?_
      exact Sm_le (leR_s (leR_s (leR_n (leR_s (leR_n leR_nil))))) (s_M_giveOut_78 K hQ hk25 _ _ _ _ _ h)
set_option maxHeartbeats 4000000 in
set_option maxRecDepth 100000 in
theorem s_M_giveOut_52 {G : Gx} {X : Cx} {res : Int32 × A_W} (K : Ok G X 4 c_M_giveOut 5 (some .int) rm_M_giveOut) (hQ : QQ G X (some (.int res.1)) res.2 0 0) {k25 : Nat → Int32 → Int32 → Int32 → A_W → Option (Int32 × A_W)} (hk25 : ∀ (t : Nat) (x1 : Int32) (x2 : Int32) (x3 : Int32) (w : A_W), k25 t x1 x2 x3 w = some res → Sm G X w 0 0 [some (.ref t), some (.int x1), some (.int x2), some (.int x3), none] [] 25) (t : Nat) (x1 : Int32) (x2 : Int32) (x3 : Int32) (w : A_W) (h : F_M_giveOut_52 k25 t x1 x2 x3 w = some res) : Sm G X w 0 0 [some (.ref t), some (.int x1), some (.int x2), some (.int x3), none] [] 52 := by
  unfold F_M_giveOut_52 at h
  refine Sm_run K ek_M_giveOut 30 2 rfl ?_
  exact Sm_le (leR_s (leR_s (leR_s (leR_s (leR_n leR_nil))))) (s_M_giveOut_57 K hQ hk25 _ _ _ _ _ _ h)
set_option maxHeartbeats 4000000 in
set_option maxRecDepth 100000 in
theorem s_M_giveOut_25 {G : Gx} {X : Cx} {res : Int32 × A_W} (K : Ok G X 4 c_M_giveOut 5 (some .int) rm_M_giveOut) (hQ : QQ G X (some (.int res.1)) res.2 0 0) : ∀ (n : Nat) (t : Nat) (x1 : Int32) (x2 : Int32) (x3 : Int32) (w : A_W), F_M_giveOut_25 n t x1 x2 x3 w = some res → Sm G X w 0 0 [some (.ref t), some (.int x1), some (.int x2), some (.int x3), none] [] 25 := by
  intro n
  induction n with
  | zero => intro t x1 x2 x3 w h; cases h
  | succ n ih =>
    intro t x1 x2 x3 w h
    rw [F_M_giveOut_25] at h
    refine Sm_run K ek_M_giveOut 15 3 rfl ?_
    obtain ⟨a1, e_a1, h⟩ := Option.bind_eq_some_iff.mp h
    refine Sm_gr K (eo ek_M_giveOut (i := 18) rfl) e_a1 ?_
    refine Sm_run K ek_M_giveOut 19 1 rfl ?_
    obtain ⟨v2, e_v2, h⟩ := Option.bind_eq_some_iff.mp h
    refine Sm_rd K (eok_i (eo ek_M_giveOut (i := 20) rfl) rfl) e_v2 ?_
    refine Sm_run K ek_M_giveOut 21 1 rfl ?_
    refine Sm_ic_ge K (eo ek_M_giveOut (i := 22) rfl) (fun c3 => ?_) (fun c3 => ?_)
    · rw [if_pos c3] at h
      refine Sm_run K ek_M_giveOut 47 2 rfl ?_
      obtain ⟨o5, e_o5, h⟩ := Option.bind_eq_some_iff.mp h
      obtain ⟨p4, e_p4, h⟩ := Option.bind_eq_some_iff.mp h
      refine Sm_callV K (eok_i (eo ek_M_giveOut (i := 49) rfl) rfl) cy_M_orNone im_M_orNone se_M_orNone (lgm 929 (by decide +kernel) rfl) ⟨Nat.le_of_ble_eq_true rfl, Nat.le_of_ble_eq_true rfl⟩ (as := [.int x2]) (b := t) (st := []) (ob_e e_o5) (by decide) rfl rfl rfl rfl (Nat.le_of_ble_eq_true rfl) ⟨Nat.le_of_ble_eq_true rfl, Nat.le_of_ble_eq_true rfl⟩ (cn_M_orNone e_p4) ?_
      refine Sm_eq (st1 := .int p4.1 :: []) (nc1 := 0) (ns1 := 0) rfl rfl rfl ?_
      obtain rfl := Option.some.inj h
      exact Sm_reti K hQ (eok_i (eo ek_M_giveOut (i := 50) rfl) rfl)
    · rw [if_neg c3] at h
      refine Sm_run K ek_M_giveOut 23 1 rfl ?_
      refine Sm_if_lt K (eo ek_M_giveOut (i := 24) rfl) (fun c6 => ?_) (fun c6 => ?_)
      · rw [if_pos c6] at h
        exact Sm_le (leR_s (leR_s (leR_s (leR_s (leR_n leR_nil))))) (s_M_giveOut_52 K hQ ih _ _ _ _ _ h)
      · rw [if_neg c6] at h
        refine Sm_run K ek_M_giveOut 25 1 rfl ?_
        obtain ⟨p7, e_p7, h⟩ := Option.bind_eq_some_iff.mp h
        refine Sm_callS K (eok_i (eo ek_M_giveOut (i := 26) rfl) rfl) cy_M_bits st_M_bits (lgm 1043 (by decide +kernel) rfl) ⟨Nat.le_of_ble_eq_true rfl, Nat.le_of_ble_eq_true rfl⟩ (as := [.int x3]) (st := []) rfl rfl rfl (Nat.le_of_ble_eq_true rfl) ⟨Nat.le_of_ble_eq_true rfl, Nat.le_of_ble_eq_true rfl⟩ (cn_M_bits e_p7) ?_
        refine Sm_eq (st1 := .int p7.1 :: []) (nc1 := 0) (ns1 := 0) rfl rfl rfl ?_
        refine Sm_run K ek_M_giveOut 27 1 rfl ?_
        obtain ⟨p8, e_p8, h⟩ := Option.bind_eq_some_iff.mp h
        refine Sm_callS K (eok_i (eo ek_M_giveOut (i := 28) rfl) rfl) cy_M_bits st_M_bits (lgm 1043 (by decide +kernel) rfl) ⟨Nat.le_of_ble_eq_true rfl, Nat.le_of_ble_eq_true rfl⟩ (as := [.int x2]) (st := [.int p7.1]) rfl rfl rfl (Nat.le_of_ble_eq_true rfl) ⟨Nat.le_of_ble_eq_true rfl, Nat.le_of_ble_eq_true rfl⟩ (cn_M_bits e_p8) ?_
        refine Sm_eq (st1 := .int p8.1 :: [.int p7.1]) (nc1 := 0) (ns1 := 0) rfl rfl rfl ?_
        refine Sm_ic_ge K (eo ek_M_giveOut (i := 29) rfl) (fun c9 => ?_) (fun c9 => ?_)
        · rw [if_pos c9] at h
          refine Sm_run K ek_M_giveOut 32 1 rfl ?_
          exact Sm_le (leR_s (leR_s (leR_s (leR_s (leR_n leR_nil))))) (s_M_giveOut_57 K hQ ih _ _ _ _ _ _ h)
        · rw [if_neg c9] at h
          exact Sm_le (leR_s (leR_s (leR_s (leR_s (leR_n leR_nil))))) (s_M_giveOut_52 K hQ ih _ _ _ _ _ h)
set_option maxHeartbeats 4000000 in
set_option maxRecDepth 100000 in
theorem s_M_giveOut_0 {G : Gx} {X : Cx} {res : Int32 × A_W} (K : Ok G X 4 c_M_giveOut 5 (some .int) rm_M_giveOut) (hQ : QQ G X (some (.int res.1)) res.2 0 0) (t : Nat) (x1 : Int32) (w : A_W) (h : F_M_giveOut_0 t x1 w = some res) : Sm G X w 0 0 [some (.ref t), some (.int x1), none, none, none] [] 0 := by
  unfold F_M_giveOut_0 at h
  refine Sm_run K ek_M_giveOut 0 3 rfl ?_
  obtain ⟨p1, e_p1, h⟩ := Option.bind_eq_some_iff.mp h
  refine Sm_callS K (eok_i (eo ek_M_giveOut (i := 3) rfl) rfl) cy_M_in st_M_in (lgm 815 (by decide +kernel) rfl) ⟨Nat.le_of_ble_eq_true rfl, Nat.le_of_ble_eq_true rfl⟩ (as := [.int x1, .int 0, .int 20]) (st := []) rfl rfl rfl (Nat.le_of_ble_eq_true rfl) ⟨Nat.le_of_ble_eq_true rfl, Nat.le_of_ble_eq_true rfl⟩ (cn_M_in e_p1) ?_
  refine Sm_eq (st1 := .int p1.1 :: []) (nc1 := 0) (ns1 := 0) rfl rfl rfl ?_
  refine Sm_if_ne K (eo ek_M_giveOut (i := 4) rfl) (fun c2 => ?_) (fun c2 => ?_)
  · rw [if_neg c2] at h
    refine Sm_run K ek_M_giveOut 9 1 rfl ?_
    obtain ⟨o4, e_o4, h⟩ := Option.bind_eq_some_iff.mp h
    obtain ⟨p3, e_p3, h⟩ := Option.bind_eq_some_iff.mp h
    refine Sm_callV K (eok_i (eo ek_M_giveOut (i := 10) rfl) rfl) cy_M_thinks im_M_thinks se_M_thinks (lgm 980 (by decide +kernel) rfl) ⟨Nat.le_of_ble_eq_true rfl, Nat.le_of_ble_eq_true rfl⟩ (as := []) (b := t) (st := []) (ob_e e_o4) (by decide) rfl rfl rfl rfl (Nat.le_of_ble_eq_true rfl) ⟨Nat.le_of_ble_eq_true rfl, Nat.le_of_ble_eq_true rfl⟩ (cn_M_thinks e_p3) ?_
    refine Sm_eq (st1 := []) (nc1 := 0) (ns1 := 0) rfl rfl rfl ?_
    refine Sm_run K ek_M_giveOut 11 4 rfl ?_
    exact Sm_le (leR_s (leR_s (leR_s (leR_s (leR_n leR_nil))))) (s_M_giveOut_25 K hQ FU _ _ _ _ _ h)
  · rw [if_pos c2] at h
    refine Sm_run K ek_M_giveOut 5 2 rfl ?_
    obtain ⟨o6, e_o6, h⟩ := Option.bind_eq_some_iff.mp h
    obtain ⟨p5, e_p5, h⟩ := Option.bind_eq_some_iff.mp h
    refine Sm_callV K (eok_i (eo ek_M_giveOut (i := 7) rfl) rfl) cy_M_finds im_M_finds se_M_finds (lgm 826 (by decide +kernel) rfl) ⟨Nat.le_of_ble_eq_true rfl, Nat.le_of_ble_eq_true rfl⟩ (as := [.int (-1000001)]) (b := t) (st := []) (ob_e e_o6) (by decide) rfl rfl rfl rfl (Nat.le_of_ble_eq_true rfl) ⟨Nat.le_of_ble_eq_true rfl, Nat.le_of_ble_eq_true rfl⟩ (cn_M_finds e_p5) ?_
    refine Sm_eq (st1 := .int p5.1 :: []) (nc1 := 0) (ns1 := 0) rfl rfl rfl ?_
    obtain rfl := Option.some.inj h
    exact Sm_reti K hQ (eok_i (eo ek_M_giveOut (i := 8) rfl) rfl)
def F_M_giveOut (t : Nat) (x1 : Int32) (w : A_W) : Option (Int32 × A_W) := F_M_giveOut_0 t x1 w
theorem cn_M_giveOut {G : Gx} {t : Nat} {x1 : Int32} {w : A_W} {res : Int32 × A_W} (h : F_M_giveOut t x1 w = some res) : Cn G y_M_giveOut c_M_giveOut 5 (some .int) rm_M_giveOut [.ref t, .int x1] w (some (.int res.1)) res.2 :=
  Cn_of (own := 4) cy_M_giveOut rfl rfl (Nat.le_of_ble_eq_true rfl) rfl (fun X K _ hQ => Sm_le (leR_s (leR_s (leR_n (leR_n (leR_n leR_nil))))) (s_M_giveOut_0 K hQ _ _ _ h))
/-! EveningCloakModel.isSheet(I)Z -/
abbrev c_M_isSheet : ByteArray := prog_6_method_63_code
def y_M_isSheet : MethodName := ⟨"EveningCloakModel", "isSheet", "(I)Z"⟩
def rm_M_isSheet : Room := { frames := 1, cells := 0, slots := 0, locals := 22 }
theorem cy_M_isSheet : Cy y_M_isSheet c_M_isSheet 1 (some .boolean) 1 := ⟨lgm 1064 (by decide +kernel) rfl, lgm 73 (by decide +kernel) rfl, by decide +kernel, by decide +kernel⟩
theorem st_M_isSheet : Cond.static y_M_isSheet ∈ lg := lgm 1063 (by decide +kernel) rfl
def e_M_isSheet : List Ent := [
  (0, .iload_n 0, 1, 1, .null, 0, 0, 0),
  (1, .iconst 0, 1, 2, .int 0, 0, 0, 0),
  (2, .iconst 3, 1, 3, .int 3, 0, 0, 0),
  (3, .invokestatic 40, 3, 6, .null, 0, 0, 0),
  (6, .ireturn, 1, 7, .null, 0, 0, 0)]
set_option maxRecDepth 100000 in
theorem ek_M_isSheet : e_M_isSheet.all (eok 4 c_M_isSheet) = true := by decide +kernel
def F_M_isSheet_0 (x0 : Int32) (w : A_W) : Option (Int32 × A_W) :=
  (F_M_in x0 0 3 w).bind fun p1 =>
  (bz p1.1).bind fun b2 =>
  some (b2, p1.2)
set_option maxHeartbeats 4000000 in
set_option maxRecDepth 100000 in
theorem s_M_isSheet_0 {G : Gx} {X : Cx} {res : Int32 × A_W} (K : Ok G X 4 c_M_isSheet 1 (some .boolean) rm_M_isSheet) (hQ : QQ G X (some (.int res.1)) res.2 0 0) (x0 : Int32) (w : A_W) (h : F_M_isSheet_0 x0 w = some res) : Sm G X w 0 0 [some (.int x0)] [] 0 := by
  unfold F_M_isSheet_0 at h
  refine Sm_run K ek_M_isSheet 0 3 rfl ?_
  obtain ⟨p1, e_p1, h⟩ := Option.bind_eq_some_iff.mp h
  refine Sm_callS K (eok_i (eo ek_M_isSheet (i := 3) rfl) rfl) cy_M_in st_M_in (lgm 815 (by decide +kernel) rfl) ⟨Nat.le_of_ble_eq_true rfl, Nat.le_of_ble_eq_true rfl⟩ (as := [.int x0, .int 0, .int 3]) (st := []) rfl rfl rfl (Nat.le_of_ble_eq_true rfl) ⟨Nat.le_of_ble_eq_true rfl, Nat.le_of_ble_eq_true rfl⟩ (cn_M_in e_p1) ?_
  refine Sm_eq (st1 := .int p1.1 :: []) (nc1 := 0) (ns1 := 0) rfl rfl rfl ?_
  obtain ⟨b2, e_b2, h⟩ := Option.bind_eq_some_iff.mp h
  obtain rfl := Option.some.inj h
  exact Sm_retz K e_b2 hQ (eok_i (eo ek_M_isSheet (i := 4) rfl) rfl)
def F_M_isSheet (x0 : Int32) (w : A_W) : Option (Int32 × A_W) := F_M_isSheet_0 x0 w
theorem cn_M_isSheet {G : Gx} {x0 : Int32} {w : A_W} {res : Int32 × A_W} (h : F_M_isSheet x0 w = some res) : Cn G y_M_isSheet c_M_isSheet 1 (some .boolean) rm_M_isSheet [.int x0] w (some (.int res.1)) res.2 :=
  Cn_of (own := 4) cy_M_isSheet rfl rfl (Nat.le_of_ble_eq_true rfl) rfl (fun X K _ hQ => Sm_le (leR_s leR_nil) (s_M_isSheet_0 K hQ _ _ h))
/-! EveningCloakModel.notThere(I)I -/
abbrev c_M_notThere : ByteArray := prog_6_method_64_code
def y_M_notThere : MethodName := ⟨"EveningCloakModel", "notThere", "(I)I"⟩
def rm_M_notThere : Room := { frames := 2, cells := 0, slots := 0, locals := 42 }
theorem cy_M_notThere : Cy y_M_notThere c_M_notThere 2 (some .int) 1 := ⟨lgm 1061 (by decide +kernel) rfl, lgm 73 (by decide +kernel) rfl, by decide +kernel, by decide +kernel⟩
theorem im_M_notThere : Cond.instanceMethod y_M_notThere ∈ lg := lgm 1060 (by decide +kernel) rfl
theorem se_M_notThere : Cond.selects y_M_notThere.cls y_M_notThere y_M_notThere ∈ lg := lgm 50 (by decide +kernel) rfl
def e_M_notThere : List Ent := [
  (0, .iload_n 1, 1, 1, .null, 0, 0, 0),
  (1, .invokestatic 165, 3, 4, .null, 0, 0, 0),
  (4, .ifCond .ne 8, 3, 12, .null, 0, 0, 0),
  (7, .ldc 34, 2, 9, .int (-1000001), 0, 0, 825),
  (9, .goto 18, 3, 27, .null, 0, 0, 0),
  (12, .aload_n 0, 1, 13, .null, 0, 0, 0),
  (13, .getfield 22, 3, 16, .null, 4, 5, 767),
  (16, .iload_n 1, 1, 17, .null, 0, 0, 0),
  (17, .iaload, 1, 18, .null, 0, 0, 0),
  (18, .ifCond .ne 8, 3, 26, .null, 0, 0, 0),
  (21, .ldc 168, 2, 23, .int (-1000006), 0, 0, 1065),
  (23, .goto 4, 3, 27, .null, 0, 0, 0),
  (26, .iconst 0, 1, 27, .int 0, 0, 0, 0),
  (27, .ireturn, 1, 28, .null, 0, 0, 0)]
set_option maxRecDepth 100000 in
theorem ek_M_notThere : e_M_notThere.all (eok 4 c_M_notThere) = true := by decide +kernel
def F_M_notThere_27 (y0 : Int32) (w : A_W) : Option (Int32 × A_W) :=
  some (y0, w)
def F_M_notThere_0 (t : Nat) (x1 : Int32) (w : A_W) : Option (Int32 × A_W) :=
  (F_M_isSheet x1 w).bind fun p1 =>
  if p1.1 = 0 then
    F_M_notThere_27 (-1000001) p1.2
  else
    (gr p1.2 t 4 5).bind fun a3 =>
    (rd p1.2 a3 x1).bind fun v4 =>
    if v4 = 0 then
      F_M_notThere_27 (-1000006) p1.2
    else
      F_M_notThere_27 0 p1.2
set_option maxHeartbeats 4000000 in
set_option maxRecDepth 100000 in
theorem s_M_notThere_27 {G : Gx} {X : Cx} {res : Int32 × A_W} (K : Ok G X 4 c_M_notThere 2 (some .int) rm_M_notThere) (hQ : QQ G X (some (.int res.1)) res.2 0 0) (y0 : Int32) (w : A_W) (h : F_M_notThere_27 y0 w = some res) : Sm G X w 0 0 [none, none] [.int y0] 27 := by
  unfold F_M_notThere_27 at h
  obtain rfl := Option.some.inj h
  exact Sm_reti K hQ (eok_i (eo ek_M_notThere (i := 13) rfl) rfl)
set_option maxHeartbeats 4000000 in
set_option maxRecDepth 100000 in
theorem s_M_notThere_0 {G : Gx} {X : Cx} {res : Int32 × A_W} (K : Ok G X 4 c_M_notThere 2 (some .int) rm_M_notThere) (hQ : QQ G X (some (.int res.1)) res.2 0 0) (t : Nat) (x1 : Int32) (w : A_W) (h : F_M_notThere_0 t x1 w = some res) : Sm G X w 0 0 [some (.ref t), some (.int x1)] [] 0 := by
  unfold F_M_notThere_0 at h
  refine Sm_run K ek_M_notThere 0 1 rfl ?_
  obtain ⟨p1, e_p1, h⟩ := Option.bind_eq_some_iff.mp h
  refine Sm_callS K (eok_i (eo ek_M_notThere (i := 1) rfl) rfl) cy_M_isSheet st_M_isSheet (lgm 1062 (by decide +kernel) rfl) ⟨Nat.le_of_ble_eq_true rfl, Nat.le_of_ble_eq_true rfl⟩ (as := [.int x1]) (st := []) rfl rfl rfl (Nat.le_of_ble_eq_true rfl) ⟨Nat.le_of_ble_eq_true rfl, Nat.le_of_ble_eq_true rfl⟩ (cn_M_isSheet e_p1) ?_
  refine Sm_eq (st1 := .int p1.1 :: []) (nc1 := 0) (ns1 := 0) rfl rfl rfl ?_
  refine Sm_if_ne K (eo ek_M_notThere (i := 2) rfl) (fun c2 => ?_) (fun c2 => ?_)
  · rw [if_neg c2] at h
    refine Sm_run K ek_M_notThere 5 1 rfl ?_
    obtain ⟨a3, e_a3, h⟩ := Option.bind_eq_some_iff.mp h
    refine Sm_gr K (eo ek_M_notThere (i := 6) rfl) e_a3 ?_
    refine Sm_run K ek_M_notThere 7 1 rfl ?_
    obtain ⟨v4, e_v4, h⟩ := Option.bind_eq_some_iff.mp h
    refine Sm_rd K (eok_i (eo ek_M_notThere (i := 8) rfl) rfl) e_v4 ?_
    refine Sm_if_ne K (eo ek_M_notThere (i := 9) rfl) (fun c5 => ?_) (fun c5 => ?_)
    · rw [if_neg c5] at h
      refine Sm_run K ek_M_notThere 12 1 rfl ?_
      exact Sm_le (leR_n (leR_n leR_nil)) (s_M_notThere_27 K hQ _ _ h)
    · rw [if_pos c5] at h
      refine Sm_run K ek_M_notThere 10 2 rfl ?_
      exact Sm_le (leR_n (leR_n leR_nil)) (s_M_notThere_27 K hQ _ _ h)
  · rw [if_pos c2] at h
    refine Sm_run K ek_M_notThere 3 2 rfl ?_
    exact Sm_le (leR_n (leR_n leR_nil)) (s_M_notThere_27 K hQ _ _ h)
def F_M_notThere (t : Nat) (x1 : Int32) (w : A_W) : Option (Int32 × A_W) := F_M_notThere_0 t x1 w
theorem cn_M_notThere {G : Gx} {t : Nat} {x1 : Int32} {w : A_W} {res : Int32 × A_W} (h : F_M_notThere t x1 w = some res) : Cn G y_M_notThere c_M_notThere 2 (some .int) rm_M_notThere [.ref t, .int x1] w (some (.int res.1)) res.2 :=
  Cn_of (own := 4) cy_M_notThere rfl rfl (Nat.le_of_ble_eq_true rfl) rfl (fun X K _ hQ => Sm_le (leR_s (leR_s leR_nil)) (s_M_notThere_0 K hQ _ _ _ h))
/-! EveningCloakModel.notAsked(II)I -/
abbrev c_M_notAsked : ByteArray := prog_6_method_65_code
def y_M_notAsked : MethodName := ⟨"EveningCloakModel", "notAsked", "(II)I"⟩
def rm_M_notAsked : Room := { frames := 3, cells := 0, slots := 0, locals := 63 }
theorem cy_M_notAsked : Cy y_M_notAsked c_M_notAsked 4 (some .int) 2 := ⟨lgm 1057 (by decide +kernel) rfl, lgm 73 (by decide +kernel) rfl, by decide +kernel, by decide +kernel⟩
theorem im_M_notAsked : Cond.instanceMethod y_M_notAsked ∈ lg := lgm 1056 (by decide +kernel) rfl
theorem se_M_notAsked : Cond.selects y_M_notAsked.cls y_M_notAsked y_M_notAsked ∈ lg := lgm 49 (by decide +kernel) rfl
def e_M_notAsked : List Ent := [
  (0, .aload_n 0, 1, 1, .null, 0, 0, 0),
  (1, .iload_n 1, 1, 2, .null, 0, 0, 0),
  (2, .invokevirtual 169, 3, 5, .null, 0, 0, 0),
  (5, .istore_n 3, 1, 6, .null, 0, 0, 0),
  (6, .iload_n 3, 1, 7, .null, 0, 0, 0),
  (7, .ifCond .ne 16, 3, 23, .null, 0, 0, 0),
  (10, .aload_n 0, 1, 11, .null, 0, 0, 0),
  (11, .iload_n 2, 1, 12, .null, 0, 0, 0),
  (12, .invokevirtual 88, 3, 15, .null, 0, 0, 0),
  (15, .ifCond .ne 8, 3, 23, .null, 0, 0, 0),
  (18, .ldc 34, 2, 20, .int (-1000001), 0, 0, 825),
  (20, .goto 4, 3, 24, .null, 0, 0, 0),
  (23, .iload_n 3, 1, 24, .null, 0, 0, 0),
  (24, .ireturn, 1, 25, .null, 0, 0, 0)]
set_option maxRecDepth 100000 in
theorem ek_M_notAsked : e_M_notAsked.all (eok 4 c_M_notAsked) = true := by decide +kernel
def F_M_notAsked_24 (y0 : Int32) (w : A_W) : Option (Int32 × A_W) :=
  some (y0, w)
def F_M_notAsked_23 (x3 : Int32) (w : A_W) : Option (Int32 × A_W) :=
  F_M_notAsked_24 x3 w
def F_M_notAsked_0 (t : Nat) (x1 : Int32) (x2 : Int32) (w : A_W) : Option (Int32 × A_W) :=
  (ob w t 4).bind fun o2 =>
  (F_M_notThere t x1 w).bind fun p1 =>
  if p1.1 = 0 then
    (ob p1.2 t 4).bind fun o5 =>
    (F_M_isDeposit t x2 p1.2).bind fun p4 =>
    if p4.1 = 0 then
      F_M_notAsked_24 (-1000001) p4.2
    else
      F_M_notAsked_23 p1.1 p4.2
  else
    F_M_notAsked_23 p1.1 p1.2
set_option maxHeartbeats 4000000 in
set_option maxRecDepth 100000 in
theorem s_M_notAsked_24 {G : Gx} {X : Cx} {res : Int32 × A_W} (K : Ok G X 4 c_M_notAsked 4 (some .int) rm_M_notAsked) (hQ : QQ G X (some (.int res.1)) res.2 0 0) (y0 : Int32) (w : A_W) (h : F_M_notAsked_24 y0 w = some res) : Sm G X w 0 0 [none, none, none, none] [.int y0] 24 := by
  unfold F_M_notAsked_24 at h
  obtain rfl := Option.some.inj h
  exact Sm_reti K hQ (eok_i (eo ek_M_notAsked (i := 13) rfl) rfl)
set_option maxHeartbeats 4000000 in
set_option maxRecDepth 100000 in
theorem s_M_notAsked_23 {G : Gx} {X : Cx} {res : Int32 × A_W} (K : Ok G X 4 c_M_notAsked 4 (some .int) rm_M_notAsked) (hQ : QQ G X (some (.int res.1)) res.2 0 0) (x3 : Int32) (w : A_W) (h : F_M_notAsked_23 x3 w = some res) : Sm G X w 0 0 [none, none, none, some (.int x3)] [] 23 := by
  unfold F_M_notAsked_23 at h
  refine Sm_run K ek_M_notAsked 12 1 rfl ?_
  exact Sm_le (leR_n (leR_n (leR_n (leR_n leR_nil)))) (s_M_notAsked_24 K hQ _ _ h)
set_option maxHeartbeats 4000000 in
set_option maxRecDepth 100000 in
theorem s_M_notAsked_0 {G : Gx} {X : Cx} {res : Int32 × A_W} (K : Ok G X 4 c_M_notAsked 4 (some .int) rm_M_notAsked) (hQ : QQ G X (some (.int res.1)) res.2 0 0) (t : Nat) (x1 : Int32) (x2 : Int32) (w : A_W) (h : F_M_notAsked_0 t x1 x2 w = some res) : Sm G X w 0 0 [some (.ref t), some (.int x1), some (.int x2), none] [] 0 := by
  unfold F_M_notAsked_0 at h
  refine Sm_run K ek_M_notAsked 0 2 rfl ?_
  obtain ⟨o2, e_o2, h⟩ := Option.bind_eq_some_iff.mp h
  obtain ⟨p1, e_p1, h⟩ := Option.bind_eq_some_iff.mp h
  refine Sm_callV K (eok_i (eo ek_M_notAsked (i := 2) rfl) rfl) cy_M_notThere im_M_notThere se_M_notThere (lgm 1058 (by decide +kernel) rfl) ⟨Nat.le_of_ble_eq_true rfl, Nat.le_of_ble_eq_true rfl⟩ (as := [.int x1]) (b := t) (st := []) (ob_e e_o2) (by decide) rfl rfl rfl rfl (Nat.le_of_ble_eq_true rfl) ⟨Nat.le_of_ble_eq_true rfl, Nat.le_of_ble_eq_true rfl⟩ (cn_M_notThere e_p1) ?_
  refine Sm_eq (st1 := .int p1.1 :: []) (nc1 := 0) (ns1 := 0) rfl rfl rfl ?_
  refine Sm_run K ek_M_notAsked 3 2 rfl ?_
  refine Sm_if_ne K (eo ek_M_notAsked (i := 5) rfl) (fun c3 => ?_) (fun c3 => ?_)
  · rw [if_neg c3] at h
    exact Sm_le (leR_n (leR_n (leR_n (leR_s leR_nil)))) (s_M_notAsked_23 K hQ _ _ h)
  · rw [if_pos c3] at h
    refine Sm_run K ek_M_notAsked 6 2 rfl ?_
    obtain ⟨o5, e_o5, h⟩ := Option.bind_eq_some_iff.mp h
    obtain ⟨p4, e_p4, h⟩ := Option.bind_eq_some_iff.mp h
    refine Sm_callV K (eok_i (eo ek_M_notAsked (i := 8) rfl) rfl) cy_M_isDeposit im_M_isDeposit se_M_isDeposit (lgm 863 (by decide +kernel) rfl) ⟨Nat.le_of_ble_eq_true rfl, Nat.le_of_ble_eq_true rfl⟩ (as := [.int x2]) (b := t) (st := []) (ob_e e_o5) (by decide) rfl rfl rfl rfl (Nat.le_of_ble_eq_true rfl) ⟨Nat.le_of_ble_eq_true rfl, Nat.le_of_ble_eq_true rfl⟩ (cn_M_isDeposit e_p4) ?_
    refine Sm_eq (st1 := .int p4.1 :: []) (nc1 := 0) (ns1 := 0) rfl rfl rfl ?_
    refine Sm_if_ne K (eo ek_M_notAsked (i := 9) rfl) (fun c6 => ?_) (fun c6 => ?_)
    · rw [if_neg c6] at h
      exact Sm_le (leR_n (leR_n (leR_n (leR_s leR_nil)))) (s_M_notAsked_23 K hQ _ _ h)
    · rw [if_pos c6] at h
      refine Sm_run K ek_M_notAsked 10 2 rfl ?_
      exact Sm_le (leR_n (leR_n (leR_n (leR_n leR_nil)))) (s_M_notAsked_24 K hQ _ _ h)
def F_M_notAsked (t : Nat) (x1 : Int32) (x2 : Int32) (w : A_W) : Option (Int32 × A_W) := F_M_notAsked_0 t x1 x2 w
theorem cn_M_notAsked {G : Gx} {t : Nat} {x1 : Int32} {x2 : Int32} {w : A_W} {res : Int32 × A_W} (h : F_M_notAsked t x1 x2 w = some res) : Cn G y_M_notAsked c_M_notAsked 4 (some .int) rm_M_notAsked [.ref t, .int x1, .int x2] w (some (.int res.1)) res.2 :=
  Cn_of (own := 4) cy_M_notAsked rfl rfl (Nat.le_of_ble_eq_true rfl) rfl (fun X K _ hQ => Sm_le (leR_s (leR_s (leR_s (leR_n leR_nil)))) (s_M_notAsked_0 K hQ _ _ _ _ h))
/-! EveningCloakModel.isTold(I)Z -/
abbrev c_M_isTold : ByteArray := prog_6_method_66_code
def y_M_isTold : MethodName := ⟨"EveningCloakModel", "isTold", "(I)Z"⟩
def rm_M_isTold : Room := { frames := 5, cells := 0, slots := 0, locals := 115 }
theorem cy_M_isTold : Cy y_M_isTold c_M_isTold 5 (some .boolean) 1 := ⟨lgm 1073 (by decide +kernel) rfl, lgm 73 (by decide +kernel) rfl, by decide +kernel, by decide +kernel⟩
theorem im_M_isTold : Cond.instanceMethod y_M_isTold ∈ lg := lgm 1072 (by decide +kernel) rfl
theorem se_M_isTold : Cond.selects y_M_isTold.cls y_M_isTold y_M_isTold ∈ lg := lgm 52 (by decide +kernel) rfl
def e_M_isTold : List Ent := [
  (0, .iconst 1, 1, 1, .int 1, 0, 0, 0),
  (1, .istore_n 2, 1, 2, .null, 0, 0, 0),
  (2, .iconst 0, 1, 3, .int 0, 0, 0, 0),
  (3, .istore_n 3, 1, 4, .null, 0, 0, 0),
  (4, .iload_n 3, 1, 5, .null, 0, 0, 0),
  (5, .aload_n 0, 1, 6, .null, 0, 0, 0),
  (6, .getfield 25, 3, 9, .null, 4, 6, 768),
  (9, .iload_n 1, 1, 10, .null, 0, 0, 0),
  (10, .iaload, 1, 11, .null, 0, 0, 0),
  (11, .if_icmp .ge 58, 3, 69, .null, 0, 0, 0),
  (14, .iload_n 3, 1, 15, .null, 0, 0, 0),
  (15, .bipush 8, 2, 17, .int 8, 0, 0, 0),
  (17, .if_icmp .ge 52, 3, 69, .null, 0, 0, 0),
  (20, .iload_n 2, 1, 21, .null, 0, 0, 0),
  (21, .ifCond .eq 48, 3, 69, .null, 0, 0, 0),
  (24, .aload_n 0, 1, 25, .null, 0, 0, 0),
  (25, .getfield 28, 3, 28, .null, 4, 7, 769),
  (28, .bipush 40, 2, 30, .int 40, 0, 0, 0),
  (30, .iload_n 1, 1, 31, .null, 0, 0, 0),
  (31, .imul, 1, 32, .null, 0, 0, 0),
  (32, .iload_n 3, 1, 33, .null, 0, 0, 0),
  (33, .iadd, 1, 34, .null, 0, 0, 0),
  (34, .iaload, 1, 35, .null, 0, 0, 0),
  (35, .istore 4, 2, 37, .null, 0, 0, 0),
  (37, .iload 4, 2, 39, .null, 0, 0, 0),
  (39, .iconst (-1), 1, 40, .int (-1), 0, 0, 0),
  (40, .if_icmp .eq 13, 3, 53, .null, 0, 0, 0),
  (43, .iload 4, 2, 45, .null, 0, 0, 0),
  (45, .aload_n 0, 1, 46, .null, 0, 0, 0),
  (46, .iconst 0, 1, 47, .int 0, 0, 0, 0),
  (47, .invokevirtual 62, 3, 50, .null, 0, 0, 0),
  (50, .if_icmp .ne 7, 3, 57, .null, 0, 0, 0),
  (53, .iconst 1, 1, 54, .int 1, 0, 0, 0),
  (54, .goto 4, 3, 58, .null, 0, 0, 0),
  (57, .iconst 0, 1, 58, .int 0, 0, 0, 0),
  (58, .istore_n 2, 1, 59, .null, 0, 0, 0),
  (59, .aload_n 0, 1, 60, .null, 0, 0, 0),
  (60, .invokevirtual 118, 3, 63, .null, 0, 0, 0),
  (63, .iinc 3 1, 3, 66, .int 1, 0, 0, 0),
  (66, .goto (-62), 3, 4, .null, 0, 0, 0),
  (69, .aload_n 0, 1, 70, .null, 0, 0, 0),
  (70, .invokevirtual 145, 3, 73, .null, 0, 0, 0),
  (73, .iload_n 2, 1, 74, .null, 0, 0, 0),
  (74, .ireturn, 1, 75, .null, 0, 0, 0)]
set_option maxRecDepth 100000 in
theorem ek_M_isTold : e_M_isTold.all (eok 4 c_M_isTold) = true := by decide +kernel
def F_M_isTold_58 (k4 : Nat → Int32 → Int32 → Int32 → A_W → Option (Int32 × A_W)) (t : Nat) (x1 : Int32) (x3 : Int32) (y0 : Int32) (w : A_W) : Option (Int32 × A_W) :=
  (ob w t 4).bind fun o2 =>
  (F_M_goes t w).bind fun p1 =>
  k4 t x1 y0 (x3 + 1) p1
def F_M_isTold_53 (k4 : Nat → Int32 → Int32 → Int32 → A_W → Option (Int32 × A_W)) (t : Nat) (x1 : Int32) (x3 : Int32) (w : A_W) : Option (Int32 × A_W) :=
  F_M_isTold_58 k4 t x1 x3 1 w
def F_M_isTold_69 (t : Nat) (x2 : Int32) (w : A_W) : Option (Int32 × A_W) :=
  (ob w t 4).bind fun o2 =>
  (F_M_putsBack t w).bind fun p1 =>
  (bz x2).bind fun b3 =>
  some (b3, p1)
def F_M_isTold_4 : Nat → Nat → Int32 → Int32 → Int32 → A_W → Option (Int32 × A_W)
  | 0, _, _, _, _, _ => none
  | n + 1, t, x1, x2, x3, w =>
    (gr w t 4 6).bind fun a1 =>
    (rd w a1 x1).bind fun v2 =>
    if v2 ≤ x3 then
      F_M_isTold_69 t x2 w
    else
      if 8 ≤ x3 then
        F_M_isTold_69 t x2 w
      else
        if x2 = 0 then
          F_M_isTold_69 t x2 w
        else
          (gr w t 4 7).bind fun a6 =>
          (rd w a6 ((40 * x1) + x3)).bind fun v7 =>
          if v7 = (-1) then
            F_M_isTold_53 (F_M_isTold_4 n) t x1 x3 w
          else
            (ob w t 4).bind fun o10 =>
            (F_M_lightAt t 0 w).bind fun p9 =>
            if v7 = p9.1 then
              F_M_isTold_53 (F_M_isTold_4 n) t x1 x3 p9.2
            else
              F_M_isTold_58 (F_M_isTold_4 n) t x1 x3 0 p9.2
def F_M_isTold_0 (t : Nat) (x1 : Int32) (w : A_W) : Option (Int32 × A_W) :=
  F_M_isTold_4 FU t x1 1 0 w
set_option maxHeartbeats 4000000 in
set_option maxRecDepth 100000 in
theorem s_M_isTold_58 {G : Gx} {X : Cx} {res : Int32 × A_W} (K : Ok G X 4 c_M_isTold 5 (some .boolean) rm_M_isTold) (hQ : QQ G X (some (.int res.1)) res.2 0 0) {k4 : Nat → Int32 → Int32 → Int32 → A_W → Option (Int32 × A_W)} (hk4 : ∀ (t : Nat) (x1 : Int32) (x2 : Int32) (x3 : Int32) (w : A_W), k4 t x1 x2 x3 w = some res → Sm G X w 0 0 [some (.ref t), some (.int x1), some (.int x2), some (.int x3), none] [] 4) (t : Nat) (x1 : Int32) (x3 : Int32) (y0 : Int32) (w : A_W) (h : F_M_isTold_58 k4 t x1 x3 y0 w = some res) : Sm G X w 0 0 [some (.ref t), some (.int x1), none, some (.int x3), none] [.int y0] 58 := by
  unfold F_M_isTold_58 at h
  refine Sm_run K ek_M_isTold 35 2 rfl ?_
  obtain ⟨o2, e_o2, h⟩ := Option.bind_eq_some_iff.mp h
  obtain ⟨p1, e_p1, h⟩ := Option.bind_eq_some_iff.mp h
  refine Sm_callV K (eok_i (eo ek_M_isTold (i := 37) rfl) rfl) cy_M_goes im_M_goes se_M_goes (lgm 944 (by decide +kernel) rfl) ⟨Nat.le_of_ble_eq_true rfl, Nat.le_of_ble_eq_true rfl⟩ (as := []) (b := t) (st := []) (ob_e e_o2) (by decide) rfl rfl rfl rfl (Nat.le_of_ble_eq_true rfl) ⟨Nat.le_of_ble_eq_true rfl, Nat.le_of_ble_eq_true rfl⟩ (cn_M_goes e_p1) ?_
  refine Sm_eq (st1 := []) (nc1 := 0) (ns1 := 0) rfl rfl rfl ?_
  refine Sm_run K ek_M_isTold 38 2 rfl ?_
  exact Sm_le (leR_s (leR_s (leR_s (leR_s (leR_n leR_nil))))) (hk4 _ _ _ _ _ h)
set_option maxHeartbeats 4000000 in
set_option maxRecDepth 100000 in
theorem s_M_isTold_53 {G : Gx} {X : Cx} {res : Int32 × A_W} (K : Ok G X 4 c_M_isTold 5 (some .boolean) rm_M_isTold) (hQ : QQ G X (some (.int res.1)) res.2 0 0) {k4 : Nat → Int32 → Int32 → Int32 → A_W → Option (Int32 × A_W)} (hk4 : ∀ (t : Nat) (x1 : Int32) (x2 : Int32) (x3 : Int32) (w : A_W), k4 t x1 x2 x3 w = some res → Sm G X w 0 0 [some (.ref t), some (.int x1), some (.int x2), some (.int x3), none] [] 4) (t : Nat) (x1 : Int32) (x3 : Int32) (w : A_W) (h : F_M_isTold_53 k4 t x1 x3 w = some res) : Sm G X w 0 0 [some (.ref t), some (.int x1), none, some (.int x3), none] [] 53 := by
  unfold F_M_isTold_53 at h
  refine Sm_run K ek_M_isTold 32 2 rfl ?_
  exact Sm_le (leR_s (leR_s (leR_n (leR_s (leR_n leR_nil))))) (s_M_isTold_58 K hQ hk4 _ _ _ _ _ h)
set_option maxHeartbeats 4000000 in
set_option maxRecDepth 100000 in
theorem s_M_isTold_69 {G : Gx} {X : Cx} {res : Int32 × A_W} (K : Ok G X 4 c_M_isTold 5 (some .boolean) rm_M_isTold) (hQ : QQ G X (some (.int res.1)) res.2 0 0) (t : Nat) (x2 : Int32) (w : A_W) (h : F_M_isTold_69 t x2 w = some res) : Sm G X w 0 0 [some (.ref t), none, some (.int x2), none, none] [] 69 := by
  unfold F_M_isTold_69 at h
  refine Sm_run K ek_M_isTold 40 1 rfl ?_
  obtain ⟨o2, e_o2, h⟩ := Option.bind_eq_some_iff.mp h
  obtain ⟨p1, e_p1, h⟩ := Option.bind_eq_some_iff.mp h
  refine Sm_callV K (eok_i (eo ek_M_isTold (i := 41) rfl) rfl) cy_M_putsBack im_M_putsBack se_M_putsBack (lgm 987 (by decide +kernel) rfl) ⟨Nat.le_of_ble_eq_true rfl, Nat.le_of_ble_eq_true rfl⟩ (as := []) (b := t) (st := []) (ob_e e_o2) (by decide) rfl rfl rfl rfl (Nat.le_of_ble_eq_true rfl) ⟨Nat.le_of_ble_eq_true rfl, Nat.le_of_ble_eq_true rfl⟩ (cn_M_putsBack e_p1) ?_
  refine Sm_eq (st1 := []) (nc1 := 0) (ns1 := 0) rfl rfl rfl ?_
  refine Sm_run K ek_M_isTold 42 1 rfl ?_
  obtain ⟨b3, e_b3, h⟩ := Option.bind_eq_some_iff.mp h
  obtain rfl := Option.some.inj h
  exact Sm_retz K e_b3 hQ (eok_i (eo ek_M_isTold (i := 43) rfl) rfl)
set_option maxHeartbeats 4000000 in
set_option maxRecDepth 100000 in
theorem s_M_isTold_4 {G : Gx} {X : Cx} {res : Int32 × A_W} (K : Ok G X 4 c_M_isTold 5 (some .boolean) rm_M_isTold) (hQ : QQ G X (some (.int res.1)) res.2 0 0) : ∀ (n : Nat) (t : Nat) (x1 : Int32) (x2 : Int32) (x3 : Int32) (w : A_W), F_M_isTold_4 n t x1 x2 x3 w = some res → Sm G X w 0 0 [some (.ref t), some (.int x1), some (.int x2), some (.int x3), none] [] 4 := by
  intro n
  induction n with
  | zero => intro t x1 x2 x3 w h; cases h
  | succ n ih =>
    intro t x1 x2 x3 w h
    rw [F_M_isTold_4] at h
    refine Sm_run K ek_M_isTold 4 2 rfl ?_
    obtain ⟨a1, e_a1, h⟩ := Option.bind_eq_some_iff.mp h
    refine Sm_gr K (eo ek_M_isTold (i := 6) rfl) e_a1 ?_
    refine Sm_run K ek_M_isTold 7 1 rfl ?_
    obtain ⟨v2, e_v2, h⟩ := Option.bind_eq_some_iff.mp h
    refine Sm_rd K (eok_i (eo ek_M_isTold (i := 8) rfl) rfl) e_v2 ?_
    refine Sm_ic_ge K (eo ek_M_isTold (i := 9) rfl) (fun c3 => ?_) (fun c3 => ?_)
    · rw [if_pos c3] at h
      exact Sm_le (leR_s (leR_n (leR_s (leR_n (leR_n leR_nil))))) (s_M_isTold_69 K hQ _ _ _ h)
    · rw [if_neg c3] at h
      refine Sm_run K ek_M_isTold 10 2 rfl ?_
      refine Sm_ic_ge K (eo ek_M_isTold (i := 12) rfl) (fun c4 => ?_) (fun c4 => ?_)
      · rw [if_pos c4] at h
        exact Sm_le (leR_s (leR_n (leR_s (leR_n (leR_n leR_nil))))) (s_M_isTold_69 K hQ _ _ _ h)
      · rw [if_neg c4] at h
        refine Sm_run K ek_M_isTold 13 1 rfl ?_
        refine Sm_if_eq K (eo ek_M_isTold (i := 14) rfl) (fun c5 => ?_) (fun c5 => ?_)
        · rw [if_pos c5] at h
          exact Sm_le (leR_s (leR_n (leR_s (leR_n (leR_n leR_nil))))) (s_M_isTold_69 K hQ _ _ _ h)
        · rw [if_neg c5] at h
          refine Sm_run K ek_M_isTold 15 1 rfl ?_
          obtain ⟨a6, e_a6, h⟩ := Option.bind_eq_some_iff.mp h
          refine Sm_gr K (eo ek_M_isTold (i := 16) rfl) e_a6 ?_
          refine Sm_run K ek_M_isTold 17 5 rfl ?_
          obtain ⟨v7, e_v7, h⟩ := Option.bind_eq_some_iff.mp h
          refine Sm_rd K (eok_i (eo ek_M_isTold (i := 22) rfl) rfl) e_v7 ?_
          refine Sm_run K ek_M_isTold 23 3 rfl ?_
          refine Sm_ic_eq K (eo ek_M_isTold (i := 26) rfl) (fun c8 => ?_) (fun c8 => ?_)
          · rw [if_pos c8] at h
            exact Sm_le (leR_s (leR_s (leR_n (leR_s (leR_n leR_nil))))) (s_M_isTold_53 K hQ ih _ _ _ _ h)
          · rw [if_neg c8] at h
            refine Sm_run K ek_M_isTold 27 3 rfl ?_
            obtain ⟨o10, e_o10, h⟩ := Option.bind_eq_some_iff.mp h
            obtain ⟨p9, e_p9, h⟩ := Option.bind_eq_some_iff.mp h
            refine Sm_callV K (eok_i (eo ek_M_isTold (i := 30) rfl) rfl) cy_M_lightAt im_M_lightAt se_M_lightAt (lgm 886 (by decide +kernel) rfl) ⟨Nat.le_of_ble_eq_true rfl, Nat.le_of_ble_eq_true rfl⟩ (as := [.int 0]) (b := t) (st := [.int v7]) (ob_e e_o10) (by decide) rfl rfl rfl rfl (Nat.le_of_ble_eq_true rfl) ⟨Nat.le_of_ble_eq_true rfl, Nat.le_of_ble_eq_true rfl⟩ (cn_M_lightAt e_p9) ?_
            refine Sm_eq (st1 := .int p9.1 :: [.int v7]) (nc1 := 0) (ns1 := 0) rfl rfl rfl ?_
            refine Sm_ic_ne K (eo ek_M_isTold (i := 31) rfl) (fun c11 => ?_) (fun c11 => ?_)
            · rw [if_neg c11] at h
              refine Sm_run K ek_M_isTold 34 1 rfl ?_
              exact Sm_le (leR_s (leR_s (leR_n (leR_s (leR_n leR_nil))))) (s_M_isTold_58 K hQ ih _ _ _ _ _ h)
            · rw [if_pos c11] at h
              exact Sm_le (leR_s (leR_s (leR_n (leR_s (leR_n leR_nil))))) (s_M_isTold_53 K hQ ih _ _ _ _ h)
set_option maxHeartbeats 4000000 in
set_option maxRecDepth 100000 in
theorem s_M_isTold_0 {G : Gx} {X : Cx} {res : Int32 × A_W} (K : Ok G X 4 c_M_isTold 5 (some .boolean) rm_M_isTold) (hQ : QQ G X (some (.int res.1)) res.2 0 0) (t : Nat) (x1 : Int32) (w : A_W) (h : F_M_isTold_0 t x1 w = some res) : Sm G X w 0 0 [some (.ref t), some (.int x1), none, none, none] [] 0 := by
  unfold F_M_isTold_0 at h
  refine Sm_run K ek_M_isTold 0 4 rfl ?_
  exact Sm_le (leR_s (leR_s (leR_s (leR_s (leR_n leR_nil))))) (s_M_isTold_4 K hQ FU _ _ _ _ _ h)
def F_M_isTold (t : Nat) (x1 : Int32) (w : A_W) : Option (Int32 × A_W) := F_M_isTold_0 t x1 w
theorem cn_M_isTold {G : Gx} {t : Nat} {x1 : Int32} {w : A_W} {res : Int32 × A_W} (h : F_M_isTold t x1 w = some res) : Cn G y_M_isTold c_M_isTold 5 (some .boolean) rm_M_isTold [.ref t, .int x1] w (some (.int res.1)) res.2 :=
  Cn_of (own := 4) cy_M_isTold rfl rfl (Nat.le_of_ble_eq_true rfl) rfl (fun X K _ hQ => Sm_le (leR_s (leR_s (leR_n (leR_n (leR_n leR_nil))))) (s_M_isTold_0 K hQ _ _ _ h))
